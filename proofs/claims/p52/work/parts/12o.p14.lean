/-! THE METHODS of the class: what the arguments name -/
theorem pq_bx1 {α β γ : Type} {x : Option ((Nat ⊕ α) × β)} {f : α → β → Option ((Nat ⊕ γ) × β)} {a : α} {b : β} (h : x = some (Sum.inr a, b)) : pq_bx x f = f a b := by rw [h]; rfl
theorem pq_bxl {α β γ : Type} {x : Option ((Nat ⊕ α) × β)} {f : α → β → Option ((Nat ⊕ γ) × β)} {k : Nat} {b : β} (h : x = some (Sum.inl k, b)) : pq_bx x f = some (Sum.inl k, b) := by rw [h]; rfl
/-- the number below n that a is -/
def dI (n : Nat) (a : Int32) : Option Nat := if a < 0 then none else if a.toNatClampNeg < n then some a.toNatClampNeg else none
theorem dI_some {n j : Nat} {a : Int32} (h : dI n a = some j) : j < n ∧ a = nI j := by
  unfold dI at h
  by_cases c : a < 0
  · rw [if_pos c] at h; cases h
  · rw [if_neg c] at h
    obtain ⟨i, hi, rfl⟩ := nI_of c
    rw [nI_clamp hi] at h
    by_cases c2 : i < n
    · rw [if_pos c2] at h
      have e := Option.some.inj h
      subst e
      exact ⟨c2, rfl⟩
    · rw [if_neg c2] at h; cases h
theorem dI_none {n : Nat} {a : Int32} (hn : n < 2147483648) (h : dI n a = none) : a < 0 ∨ (¬ a < 0 ∧ nI n ≤ a) := by
  unfold dI at h
  by_cases c : a < 0
  · exact Or.inl c
  · rw [if_neg c] at h
    obtain ⟨i, hi, rfl⟩ := nI_of c
    rw [nI_clamp hi] at h
    by_cases c2 : i < n
    · rw [if_pos c2] at h; cases h
    · exact Or.inr ⟨c, nI_le (by omega) hi⟩
theorem dI_of {n j : Nat} (hn : n < 2147483648) (h : j < n) : dI n (nI j) = some j := by
  unfold dI
  rw [if_neg (nI_pos (by omega)), nI_clamp (by omega), if_pos h]
section CN
variable {G : pq_G} {x : Nat} {T : tT}
theorem sh_st (h : sh_G G x) : pq_r G x 0 = x + 1 ∧ pq_r G x 1 = x + 192 ∧ pq_r G x 2 = x + 1340 ∧ pq_r G x 3 = x + 1343 ∧ pq_r G x 4 = x + 1353 ∧ pq_r G x 5 = x + 1357 ∧ pq_r G x 6 = x + 1360 := h.2.1.2
theorem np_some (h : sh_G G x) (v : vT T) {S : pq_N} (r : rS S x 0 T) {a : Int32} {j : Nat} (d : dI T.cnt a = some j) : F_X10_needPamphlet G S x a = some (Sum.inr (), S) := by
  obtain ⟨hj, rfl⟩ := dI_some d
  have := v.1
  unfold F_X10_needPamphlet F_X9_has
  rw [(sh_st h).1, if_neg (nI_pos (by omega)), r0_cnt r, if_neg (nI_ge hj (by omega)), pq_bd1 rfl, if_neg (by decide)]
theorem np_none (h : sh_G G x) (v : vT T) {S : pq_N} (r : rS S x 0 T) {a : Int32} (d : dI T.cnt a = none) : F_X10_needPamphlet G S x a = some (Sum.inl 3, S) := by
  have := v.1
  unfold F_X10_needPamphlet F_X9_has
  rw [(sh_st h).1, r0_cnt r]
  rcases dI_none (by omega) d with c | ⟨c1, c2⟩
  · rw [if_pos c, pq_bd1 rfl, if_pos rfl]
  · rw [if_neg c1, if_pos c2, pq_bd1 rfl, if_pos rfl]
theorem nq_some (h : sh_G G x) (v : vT T) {S : pq_N} (r : rS S x 0 T) {a b : Int32} {j q : Nat} (d : dI T.cnt a = some j) (d2 : dI (T.pm j).qc b = some q) : F_X10_needQuotation G S x a b = some (Sum.inr (), S) := by
  unfold F_X10_needQuotation
  rw [pq_bx1 (np_some h v r d)]
  obtain ⟨hj, rfl⟩ := dI_some d
  obtain ⟨hq, rfl⟩ := dI_some d2
  have := v16 v hj
  rw [if_neg (nI_pos (by omega)), (sh_st h).1, pq_bd1 (f_sat0 h (v20 v hj)), r_qc r hj, if_pos (nI_lt hq (by omega))]
theorem nq_none (h : sh_G G x) (v : vT T) {S : pq_N} (r : rS S x 0 T) {a b : Int32} (d : dI T.cnt a = none ∨ ∃ j, dI T.cnt a = some j ∧ dI (T.pm j).qc b = none) : F_X10_needQuotation G S x a b = some (Sum.inl 3, S) := by
  unfold F_X10_needQuotation
  rcases d with d | ⟨j, d, d2⟩
  · rw [pq_bxl (np_none h v r d)]
  · rw [pq_bx1 (np_some h v r d)]
    obtain ⟨hj, rfl⟩ := dI_some d
    have := v16 v hj
    rcases dI_none (by omega) d2 with c | ⟨c1, c2⟩
    · rw [if_pos c]
    · rw [if_neg c1, (sh_st h).1, pq_bd1 (f_sat0 h (v20 v hj)), r_qc r hj, if_neg (Int32.not_lt.mpr c2)]
theorem nw_some (h : sh_G G x) (v : vT T) {S : pq_N} (r : rS S x 0 T) {a b : Int32} {j q : Nat} (d : dI T.cnt a = some j) (d2 : dI (T.pm j).wc b = some q) : F_X10_needWord G S x a b = some (Sum.inr (), S) := by
  unfold F_X10_needWord
  rw [pq_bx1 (np_some h v r d)]
  obtain ⟨hj, rfl⟩ := dI_some d
  obtain ⟨hq, rfl⟩ := dI_some d2
  have := v60 v hj
  rw [if_neg (nI_pos (by omega)), (sh_st h).1, pq_bd1 (f_sat0 h (v20 v hj)), r_wc r hj, if_pos (nI_lt hq (by omega))]
theorem nw_none (h : sh_G G x) (v : vT T) {S : pq_N} (r : rS S x 0 T) {a b : Int32} (d : dI T.cnt a = none ∨ ∃ j, dI T.cnt a = some j ∧ dI (T.pm j).wc b = none) : F_X10_needWord G S x a b = some (Sum.inl 3, S) := by
  unfold F_X10_needWord
  rcases d with d | ⟨j, d, d2⟩
  · rw [pq_bxl (np_none h v r d)]
  · rw [pq_bx1 (np_some h v r d)]
    obtain ⟨hj, rfl⟩ := dI_some d
    have := v60 v hj
    rcases dI_none (by omega) d2 with c | ⟨c1, c2⟩
    · rw [if_pos c]
    · rw [if_neg c1, (sh_st h).1, pq_bd1 (f_sat0 h (v20 v hj)), r_wc r hj, if_neg (Int32.not_lt.mpr c2)]
theorem na_some {S : pq_N} {a : Int32} {j : Nat} (d : dI 8 a = some j) : F_X10_needAuthor G S a = some (Sum.inr (), S) ∧ F_X10_isAuthor G S a = some (1, S) := by
  obtain ⟨hj, rfl⟩ := dI_some d
  have e : F_X10_isAuthor G S (nI j) = some (1, S) := by
    unfold F_X10_isAuthor
    rw [if_neg (nI_pos (by omega)), show (8 : Int32) = nI 8 from rfl, if_neg (nI_ge hj (by omega))]
  refine ⟨?_, e⟩
  unfold F_X10_needAuthor
  rw [pq_bd1 e, if_neg (by decide)]
theorem na_none {S : pq_N} {a : Int32} (d : dI 8 a = none) : F_X10_needAuthor G S a = some (Sum.inl 3, S) ∧ F_X10_isAuthor G S a = some (0, S) := by
  have e : F_X10_isAuthor G S a = some (0, S) := by
    unfold F_X10_isAuthor
    rcases dI_none (by decide) d with c | ⟨c1, c2⟩
    · rw [if_pos c]
    · rw [if_neg c1, show (8 : Int32) = nI 8 from rfl, if_pos c2]
  refine ⟨?_, e⟩
  unfold F_X10_needAuthor
  rw [pq_bd1 e, if_pos rfl]
theorem npl_some {S : pq_N} {n k : Nat} {a : Int32} (hn : n < 2147483648) (d : dI n a = some k) : F_X10_needPlace G S a (nI n) = some (Sum.inr (), S) := by
  obtain ⟨hk, rfl⟩ := dI_some d
  unfold F_X10_needPlace
  rw [if_neg (nI_pos (by omega)), if_pos (nI_lt hk (by omega))]
theorem npl_none {S : pq_N} {n : Nat} {a : Int32} (hn : n < 2147483648) (d : dI n a = none) : F_X10_needPlace G S a (nI n) = some (Sum.inl 3, S) := by
  unfold F_X10_needPlace
  rcases dI_none hn d with c | ⟨c1, c2⟩
  · rw [if_pos c]
  · rw [if_neg c1, if_neg (Int32.not_lt.mpr c2)]
end CN
/-! what the calls answer -/
/-- of a pamphlet -/
def q1 (T : tT) (f : Nat → Int32) (a : Int32) : Nat ⊕ Int32 := match dI T.cnt a with
  | none => Sum.inl 3
  | some j => Sum.inr (f j)
/-- of a quotation -/
def q2 (T : tT) (f : Nat → Nat → Int32) (a b : Int32) : Nat ⊕ Int32 := match dI T.cnt a with
  | none => Sum.inl 3
  | some j => match dI (T.pm j).qc b with
    | none => Sum.inl 3
    | some q => Sum.inr (f j q)
/-- a letter of a word -/
def lI (w : Int64) (i : Int32) : Int32 := if i < 7 then (if Int64.toInt32 (w >>> (Int32.toInt64 ((5 : Int32) * ((6 : Int32) - i)) &&& 63)) &&& (31 : Int32) = 0 then -1 else (97 : Int32) + (Int64.toInt32 (w >>> (Int32.toInt64 ((5 : Int32) * ((6 : Int32) - i)) &&& 63)) &&& (31 : Int32)) - (1 : Int32)) else -1
/-- what is told of a call that changes no state: its answer -/
def qq (x : Nat) (S : pq_N) (F : Option ((Nat ⊕ Int32) × pq_N)) (r : Nat ⊕ Int32) : Prop := ∃ S1, F = some (r, S1) ∧ fr (x + 1343) (x + 1365) S S1
section CZ
variable {G : pq_G} {x : Nat} {T : tT} {S : pq_N} {a b c e : Int32}
theorem qq1 {F : Option ((Nat ⊕ Int32) × pq_N)} {f : Nat → Int32} (h1 : ∀ j, dI T.cnt a = some j → j < T.cnt → a = nI j → qq x S F (Sum.inr (f j))) (h2 : dI T.cnt a = none → F = some (Sum.inl 3, S)) : qq x S F (q1 T f a) := by
  unfold q1
  cases d : dI T.cnt a with
  | none => exact ⟨S, h2 d, fr_rfl⟩
  | some j => exact h1 j d (dI_some d).1 (dI_some d).2
theorem qq2 {F : Option ((Nat ⊕ Int32) × pq_N)} {f : Nat → Nat → Int32} (h1 : ∀ j q, dI T.cnt a = some j → dI (T.pm j).qc b = some q → j < T.cnt → q < (T.pm j).qc → a = nI j → b = nI q → qq x S F (Sum.inr (f j q))) (h2 : dI T.cnt a = none ∨ (∃ j, dI T.cnt a = some j ∧ dI (T.pm j).qc b = none) → F = some (Sum.inl 3, S)) : qq x S F (q2 T f a b) := by
  unfold q2
  cases d : dI T.cnt a with
  | none => exact ⟨S, h2 (Or.inl d), fr_rfl⟩
  | some j =>
    cases d2 : dI (T.pm j).qc b with
    | none =>
      show qq x S F (match dI (T.pm j).qc b with | none => Sum.inl 3 | some q => Sum.inr (f j q))
      rw [d2]; exact ⟨S, h2 (Or.inr ⟨j, d, d2⟩), fr_rfl⟩
    | some q =>
      show qq x S F (match dI (T.pm j).qc b with | none => Sum.inl 3 | some q => Sum.inr (f j q))
      rw [d2]; exact h1 j q d d2 (dI_some d).1 (dI_some d2).1 (dI_some d).2 (dI_some d2).2
theorem k_authorOf (h : sh_G G x) (v : vT T) (r : rS S x 0 T) : qq x S (F_X10_authorOf G S x a) (q1 T (fun j => (T.pm j).au) a) := qq1 (fun j d hj ea => by
  unfold F_X10_authorOf
  rw [pq_bx1 (np_some h v r d), (sh_st h).1, ea, pq_bd1 (f_sat0 h (v20 v hj)), r_au r hj]
  exact ⟨S, rfl, fr_rfl⟩) (fun d => by unfold F_X10_authorOf; rw [pq_bxl (np_none h v r d)])
theorem k_dayOf (h : sh_G G x) (v : vT T) (r : rS S x 0 T) : qq x S (F_X10_dayOf G S x a) (q1 T (fun j => (T.pm j).pd) a) := qq1 (fun j d hj ea => by
  unfold F_X10_dayOf
  rw [pq_bx1 (np_some h v r d), (sh_st h).1, ea, pq_bd1 (f_sat0 h (v20 v hj)), r_pd r hj]
  exact ⟨S, rfl, fr_rfl⟩) (fun d => by unfold F_X10_dayOf; rw [pq_bxl (np_none h v r d)])
theorem k_wordsOf (h : sh_G G x) (v : vT T) (r : rS S x 0 T) : qq x S (F_X10_wordsOf G S x a) (q1 T (fun j => nI (T.pm j).wc) a) := qq1 (fun j d hj ea => by
  unfold F_X10_wordsOf
  rw [pq_bx1 (np_some h v r d), (sh_st h).1, ea, pq_bd1 (f_sat0 h (v20 v hj)), r_wc r hj]
  exact ⟨S, rfl, fr_rfl⟩) (fun d => by unfold F_X10_wordsOf; rw [pq_bxl (np_none h v r d)])
theorem k_quotationsOf (h : sh_G G x) (v : vT T) (r : rS S x 0 T) : qq x S (F_X10_quotationsOf G S x a) (q1 T (fun j => nI (T.pm j).qc) a) := qq1 (fun j d hj ea => by
  unfold F_X10_quotationsOf
  rw [pq_bx1 (np_some h v r d), (sh_st h).1, ea, pq_bd1 (f_sat0 h (v20 v hj)), r_qc r hj]
  exact ⟨S, rfl, fr_rfl⟩) (fun d => by unfold F_X10_quotationsOf; rw [pq_bxl (np_none h v r d)])
theorem c_pages (v : vT T) (r : rS S x 0 T) {j : Nat} (hj : j < T.cnt) : F_X4_pageCount G S (sh_p x 0 j) = some (nI (((T.pm j).wc + 7) / 8), S) := by
  have := v60 v hj
  unfold F_X4_pageCount
  rw [r_wc r hj, show (8 : Int32) = nI 8 from rfl, nI_add, nI_sub1 (by omega), nI_div (by omega) (by omega)]
  rfl
theorem k_pagesOf (h : sh_G G x) (v : vT T) (r : rS S x 0 T) : qq x S (F_X10_pagesOf G S x a) (q1 T (fun j => nI (((T.pm j).wc + 7) / 8)) a) := qq1 (fun j d hj ea => by
  unfold F_X10_pagesOf
  rw [pq_bx1 (np_some h v r d), (sh_st h).1, ea, pq_bd1 (f_sat0 h (v20 v hj)), pq_bd1 (c_pages v r hj)]
  exact ⟨S, rfl, fr_rfl⟩) (fun d => by unfold F_X10_pagesOf; rw [pq_bxl (np_none h v r d)])
/-- words on a page -/
def q_on (T : tT) (a b : Int32) : Nat ⊕ Int32 := match dI T.cnt a with
  | none => Sum.inl 3
  | some j => match dI (((T.pm j).wc + 7) / 8) b with
    | none => Sum.inl 3
    | some k => Sum.inr (nI (min ((T.pm j).wc - 8 * k) 8))
theorem k_wordsOn (h : sh_G G x) (v : vT T) (r : rS S x 0 T) : qq x S (F_X10_wordsOn G S x a b) (q_on T a b) := by
  unfold q_on F_X10_wordsOn
  cases d : dI T.cnt a with
  | none => exact ⟨S, by rw [pq_bxl (np_none h v r d)], fr_rfl⟩
  | some j =>
    obtain ⟨hj, ea⟩ := dI_some d
    have h60 := v60 v hj
    rw [pq_bx1 (np_some h v r d), (sh_st h).1, ea, pq_bd1 (f_sat0 h (v20 v hj)), pq_bd1 (c_pages v r hj), r_wc r hj]
    show qq x S _ (match dI (((T.pm j).wc + 7) / 8) b with | none => Sum.inl 3 | some k => Sum.inr (nI (min ((T.pm j).wc - 8 * k) 8)))
    cases d2 : dI (((T.pm j).wc + 7) / 8) b with
    | none =>
      rcases dI_none (by omega) d2 with c | ⟨c1, c2⟩
      · rw [if_pos c]; exact ⟨S, rfl, fr_rfl⟩
      · rw [if_neg c1, if_neg (Int32.not_lt.mpr c2)]; exact ⟨S, rfl, fr_rfl⟩
    | some k =>
      obtain ⟨hk, eb⟩ := dI_some d2
      have h8 : 8 * k < (T.pm j).wc := by omega
      rw [eb, if_neg (nI_pos (by omega)), if_pos (nI_lt hk (by omega)), show (8 : Int32) = nI 8 from rfl, nI_mul, nI_sub (by omega), nI_min (by omega) (by omega), Nat.mul_comm k 8]
      exact ⟨S, rfl, fr_rfl⟩
theorem c_letterIn {w : Int64} {i : Int32} (hi : ¬ i < 0) : F_X10_letterIn G S w i = some (lI w i, S) := by
  unfold F_X10_letterIn lI
  rw [if_neg hi]
  by_cases c : i < 7
  · rw [if_pos c, if_pos c, pq_lt1]
    by_cases c2 : Int64.toInt32 (w >>> (Int32.toInt64 ((5 : Int32) * ((6 : Int32) - i)) &&& 63)) &&& (31 : Int32) = 0
    · rw [if_pos c2, if_pos c2]
    · rw [if_neg c2, if_neg c2]
  · rw [if_neg c, if_neg c]
/-- a letter -/
def q_let (T : tT) (a b c : Int32) : Nat ⊕ Int32 := match dI T.cnt a with
  | none => Sum.inl 3
  | some j => match dI (T.pm j).wc b with
    | none => Sum.inl 3
    | some k => if c < 0 then Sum.inl 3 else Sum.inr (lI ((T.pm j).w k) c)
theorem k_letterOf (h : sh_G G x) (v : vT T) (r : rS S x 0 T) : qq x S (F_X10_letterOf G S x a b c) (q_let T a b c) := by
  unfold q_let F_X10_letterOf
  cases d : dI T.cnt a with
  | none => exact ⟨S, by rw [pq_bxl (nw_none h v r (Or.inl d))], fr_rfl⟩
  | some j =>
    show qq x S _ (match dI (T.pm j).wc b with | none => Sum.inl 3 | some k => if c < 0 then Sum.inl 3 else Sum.inr (lI ((T.pm j).w k) c))
    cases d2 : dI (T.pm j).wc b with
    | none => exact ⟨S, by rw [pq_bxl (nw_none h v r (Or.inr ⟨j, d, d2⟩))], fr_rfl⟩
    | some k =>
      obtain ⟨hj, ea⟩ := dI_some d
      obtain ⟨hk, eb⟩ := dI_some d2
      have h60 := v60 v hj
      rw [pq_bx1 (nw_some h v r d d2)]
      show qq x S _ (if c < 0 then Sum.inl 3 else Sum.inr (lI ((T.pm j).w k) c))
      by_cases hc : c < 0
      · have e1 : F_X10_needIndex G S c = some (Sum.inl 3, S) := by unfold F_X10_needIndex; rw [if_neg (Int32.not_le.mpr hc)]
        rw [if_pos hc, pq_bxl e1]; exact ⟨S, rfl, fr_rfl⟩
      · have e1 : F_X10_needIndex G S c = some (Sum.inr (), S) := by unfold F_X10_needIndex; rw [if_pos (Int32.not_lt.mp hc)]
        rw [if_neg hc, pq_bx1 e1, (sh_st h).1, ea, eb, pq_bd1 (f_sat0 h (v20 v hj)), pq_bd1 (g_word h (sh_pok (i := 0) h (by decide) (v20 v hj)) (r.2.2 j hj) h60 hk), pq_bd1 (c_letterIn hc)]
        exact ⟨S, rfl, fr_rfl⟩
/-- whether words are the same -/
def q_same (T : tT) (a b c e : Int32) : Nat ⊕ Int32 := match dI T.cnt a with
  | none => Sum.inl 3
  | some j => match dI (T.pm j).wc b with
    | none => Sum.inl 3
    | some k => match dI T.cnt c with
      | none => Sum.inl 3
      | some j' => match dI (T.pm j').wc e with
        | none => Sum.inl 3
        | some k' => Sum.inr (nI (if (T.pm j).w k = (T.pm j').w k' then 1 else 0))
theorem k_isSameWord (h : sh_G G x) (v : vT T) (r : rS S x 0 T) : qq x S (F_X10_isSameWord G S x a b c e) (q_same T a b c e) := by
  unfold q_same F_X10_isSameWord
  cases d : dI T.cnt a with
  | none => exact ⟨S, by rw [pq_bxl (nw_none h v r (Or.inl d))], fr_rfl⟩
  | some j =>
    dsimp only
    cases d2 : dI (T.pm j).wc b with
    | none => exact ⟨S, by rw [pq_bxl (nw_none h v r (Or.inr ⟨j, d, d2⟩))], fr_rfl⟩
    | some k =>
      dsimp only
      obtain ⟨hj, ea⟩ := dI_some d
      obtain ⟨hk, eb⟩ := dI_some d2
      have h60 := v60 v hj
      rw [pq_bx1 (nw_some h v r d d2)]
      cases d3 : dI T.cnt c with
      | none => exact ⟨S, by rw [pq_bxl (nw_none h v r (Or.inl d3))], fr_rfl⟩
      | some j' =>
        dsimp only
        cases d4 : dI (T.pm j').wc e with
        | none => exact ⟨S, by rw [pq_bxl (nw_none h v r (Or.inr ⟨j', d3, d4⟩))], fr_rfl⟩
        | some k' =>
          obtain ⟨hj', ec⟩ := dI_some d3
          obtain ⟨hk', ee⟩ := dI_some d4
          have h60' := v60 v hj'
          dsimp only
          rw [pq_bx1 (nw_some h v r d3 d4), (sh_st h).1, ea, eb, ec, ee, pq_bd1 (f_sat0 h (v20 v hj)), pq_bd1 (g_word h (sh_pok (i := 0) h (by decide) (v20 v hj)) (r.2.2 j hj) h60 hk), pq_bd1 (f_sat0 h (v20 v hj')), pq_bd1 (g_word h (sh_pok (i := 0) h (by decide) (v20 v hj')) (r.2.2 j' hj') h60' hk')]
          by_cases hw : (T.pm j).w k = (T.pm j').w k'
          · rw [if_pos ((lg_cmp0 _ _).mpr hw), if_pos hw]; exact ⟨S, rfl, fr_rfl⟩
          · rw [if_neg (fun z => hw ((lg_cmp0 _ _).mp z)), if_neg hw]; exact ⟨S, rfl, fr_rfl⟩
theorem k_sourceOf (h : sh_G G x) (v : vT T) (r : rS S x 0 T) : qq x S (F_X10_sourceOf G S x a b) (q2 T (fun j q => nI (zs T j q)) a b) := qq2 (fun j q d d2 hj hq ea eb => by
  unfold F_X10_sourceOf
  rw [pq_bx1 (nq_some h v r d d2), (sh_st h).1, ea, eb, pq_bd1 (f_sat0 h (v20 v hj)), pq_bd1 (g_src0 h v r hj hq)]
  exact ⟨S, rfl, fr_rfl⟩) (fun d => by unfold F_X10_sourceOf; rw [pq_bxl (nq_none h v r d)])
theorem k_beginOf (h : sh_G G x) (v : vT T) (r : rS S x 0 T) : qq x S (F_X10_beginOf G S x a b) (q2 T (fun j q => nI ((T.pm j).qb q)) a b) := qq2 (fun j q d d2 hj hq ea eb => by
  unfold F_X10_beginOf
  rw [pq_bx1 (nq_some h v r d d2), (sh_st h).1, ea, eb, pq_bd1 (f_sat0 h (v20 v hj)), pq_bd1 (g_beg h (sh_pok (i := 0) h (by decide) (v20 v hj)) (r.2.2 j hj) (v16 v hj) hq)]
  exact ⟨S, rfl, fr_rfl⟩) (fun d => by unfold F_X10_beginOf; rw [pq_bxl (nq_none h v r d)])
theorem k_lengthOf (h : sh_G G x) (v : vT T) (r : rS S x 0 T) : qq x S (F_X10_lengthOf G S x a b) (q2 T (fun j q => nI ((T.pm j).ql q)) a b) := qq2 (fun j q d d2 hj hq ea eb => by
  unfold F_X10_lengthOf
  rw [pq_bx1 (nq_some h v r d d2), (sh_st h).1, ea, eb, pq_bd1 (f_sat0 h (v20 v hj)), pq_bd1 (g_len h (sh_pok (i := 0) h (by decide) (v20 v hj)) (r.2.2 j hj) (v16 v hj) hq)]
  exact ⟨S, rfl, fr_rfl⟩) (fun d => by unfold F_X10_lengthOf; rw [pq_bxl (nq_none h v r d)])
theorem k_changesByTable (h : sh_G G x) (v : vT T) (r : rS S x 0 T) : qq x S (F_X10_changesByTable G S x a b) (q2 T (fun j q => nI (zD T j q)) a b) := qq2 (fun j q d d2 hj hq ea eb => by
  obtain ⟨S1, k1, k2, -, -⟩ := c_find h v r hj hq
  unfold F_X10_changesByTable
  rw [pq_bx1 (nq_some h v r d d2), (sh_st h).1, (sh_st h).2.2.2.2.1, ea, eb, pq_bd1 k1]
  exact ⟨S1, rfl, fr_mo k2 (by omega) (by omega)⟩) (fun d => by unfold F_X10_changesByTable; rw [pq_bxl (nq_none h v r d)])
theorem k_changesByPassages (h : sh_G G x) (v : vT T) (r : rS S x 0 T) : qq x S (F_X10_changesByPassages G S x a b) (q2 T (fun j q => nI (zD T j q)) a b) := qq2 (fun j q d d2 hj hq ea eb => by
  obtain ⟨S1, k1, k2⟩ := c_findBy h v r hj hq
  unfold F_X10_changesByPassages
  rw [pq_bx1 (nq_some h v r d d2), (sh_st h).1, (sh_st h).2.2.2.2.1, ea, eb, pq_bd1 k1]
  exact ⟨S1, rfl, fr_mo k2 (by omega) (by omega)⟩) (fun d => by unfold F_X10_changesByPassages; rw [pq_bxl (nq_none h v r d)])
theorem k_passageOf (h : sh_G G x) (v : vT T) (r : rS S x 0 T) : qq x S (F_X10_passageOf G S x a b) (q2 T (fun j q => nI (zA T j q)) a b) := qq2 (fun j q d d2 hj hq ea eb => by
  obtain ⟨S1, k1, k2, k3, k4⟩ := c_find h v r hj hq
  unfold F_X10_passageOf
  rw [pq_bx1 (nq_some h v r d d2), (sh_st h).1, (sh_st h).2.2.2.2.1, ea, eb, pq_bd1 k1, (sh_se h).1, k3]
  exact ⟨S1, rfl, fr_mo k2 (by omega) (by omega)⟩) (fun d => by unfold F_X10_passageOf; rw [pq_bxl (nq_none h v r d)])
theorem k_passageLength (h : sh_G G x) (v : vT T) (r : rS S x 0 T) : qq x S (F_X10_passageLength G S x a b) (q2 T (fun j q => nI (zL T j q)) a b) := qq2 (fun j q d d2 hj hq ea eb => by
  obtain ⟨S1, k1, k2, k3, k4⟩ := c_find h v r hj hq
  unfold F_X10_passageLength
  rw [pq_bx1 (nq_some h v r d d2), (sh_st h).1, (sh_st h).2.2.2.2.1, ea, eb, pq_bd1 k1, (sh_se h).1, k4]
  exact ⟨S1, rfl, fr_mo k2 (by omega) (by omega)⟩) (fun d => by unfold F_X10_passageLength; rw [pq_bxl (nq_none h v r d)])
theorem k_pageOf (h : sh_G G x) (v : vT T) (r : rS S x 0 T) : qq x S (F_X10_pageOf G S x a b) (q2 T (fun j q => nI (zA T j q / 8)) a b) := qq2 (fun j q d d2 hj hq ea eb => by
  obtain ⟨S1, k1, k2, k3, k4⟩ := c_find h v r hj hq
  have g := vx v hj hq
  have g2 := vq v hj hq
  unfold F_X10_pageOf
  rw [pq_bx1 (nq_some h v r d d2), (sh_st h).1, (sh_st h).2.2.2.2.1, ea, eb, pq_bd1 k1, (sh_se h).1, k3, show (8 : Int32) = nI 8 from rfl, nI_div (by omega) (by omega)]
  exact ⟨S1, rfl, fr_mo k2 (by omega) (by omega)⟩) (fun d => by unfold F_X10_pageOf; rw [pq_bxl (nq_none h v r d)])
theorem k_comesFrom (h : sh_G G x) (v : vT T) (r : rS S x 0 T) : qq x S (F_X10_comesFrom G S x a b) (q2 T (fun j q => oI (zp T j q)) a b) := qq2 (fun j q d d2 hj hq ea eb => by
  obtain ⟨S1, k1, k2⟩ := c_parent h v r hj hq
  unfold F_X10_comesFrom
  rw [pq_bx1 (nq_some h v r d d2), (sh_st h).1, (sh_st h).2.2.2.2.1, ea, eb, pq_bd1 k1]
  exact ⟨S1, rfl, fr_mo k2 (by omega) (by omega)⟩) (fun d => by unfold F_X10_comesFrom; rw [pq_bxl (nq_none h v r d)])
theorem k_originOf (h : sh_G G x) (v : vT T) (r : rS S x 0 T) : qq x S (F_X10_originOf G S x a b) (q2 T (fun j q => nI (zt T 20 j q).1) a b) := qq2 (fun j q d d2 hj hq ea eb => by
  obtain ⟨S1, k1, k2, k3, k4⟩ := c_trace h v r hj hq
  unfold F_X10_originOf
  rw [pq_bx1 (nq_some h v r d d2), (sh_st h).1, (sh_st h).2.2.2.2.1, ea, eb, pq_bd1 k1, k3]
  exact ⟨S1, rfl, fr_mo k2 (by omega) (by omega)⟩) (fun d => by unfold F_X10_originOf; rw [pq_bxl (nq_none h v r d)])
theorem k_traceOf (h : sh_G G x) (v : vT T) (r : rS S x 0 T) : qq x S (F_X10_traceOf G S x a b) (q2 T (fun j q => nI (zt T 20 j q).2) a b) := qq2 (fun j q d d2 hj hq ea eb => by
  obtain ⟨S1, k1, k2, k3, k4⟩ := c_trace h v r hj hq
  unfold F_X10_traceOf
  rw [pq_bx1 (nq_some h v r d d2), (sh_st h).1, (sh_st h).2.2.2.2.1, ea, eb, pq_bd1 k1, k4]
  exact ⟨S1, rfl, fr_mo k2 (by omega) (by omega)⟩) (fun d => by unfold F_X10_traceOf; rw [pq_bxl (nq_none h v r d)])
theorem k_changesAtOrigin (h : sh_G G x) (v : vT T) (r : rS S x 0 T) : qq x S (F_X10_changesAtOrigin G S x a b) (q2 T (fun j q => nI (xd (T.pm j) (T.pm (zt T 20 j q).1) q)) a b) := qq2 (fun j q d d2 hj hq ea eb => by
  obtain ⟨S1, k1, k2, k3, k4⟩ := c_trace h v r hj hq
  have ho := zt_lt v (f := 20) hj hq
  obtain ⟨S2, g1, g2⟩ := c_atOrigin h v (r0_fr k2 (by omega) v r) hj hq (by omega) k3
  unfold F_X10_changesAtOrigin
  rw [pq_bx1 (nq_some h v r d d2), (sh_st h).1, (sh_st h).2.2.2.2.1, ea, eb, pq_bd1 k1, pq_bd1 g1]
  exact ⟨S2, rfl, fr_tr (fr_mo k2 (by omega) (by omega)) (fr_mo g2 (by omega) (by omega))⟩) (fun d => by unfold F_X10_changesAtOrigin; rw [pq_bxl (nq_none h v r d)])
theorem k_quotedAgain (h : sh_G G x) (v : vT T) (r : rS S x 0 T) : qq x S (F_X10_quotedAgain G S x a b) (q2 T (fun j q => nI (zc T j q)) a b) := qq2 (fun j q d d2 hj hq ea eb => by
  obtain ⟨S1, k1, k2⟩ := c_children h v hj hq r
  unfold F_X10_quotedAgain
  rw [pq_bx1 (nq_some h v r d d2), (sh_st h).1, (sh_st h).2.2.2.2.1, ea, eb, pq_bd1 k1]
  exact ⟨S1, rfl, fr_mo k2 (by omega) (by omega)⟩) (fun d => by unfold F_X10_quotedAgain; rw [pq_bxl (nq_none h v r d)])
/-- blame -/
def q_bl (T : tT) (a : Int32) : Nat ⊕ Int32 := match dI 8 a with
  | none => Sum.inl 3
  | some _ => Sum.inr (nI (zw T a (-1)))
def q_wr (T : tT) (a b : Int32) : Nat ⊕ Int32 := match dI 8 a with
  | none => Sum.inl 3
  | some _ => match dI 8 b with
    | none => Sum.inl 3
    | some _ => Sum.inr (nI (zw T a b))
theorem k_blameOf (h : sh_G G x) (v : vT T) (r : rS S x 0 T) : qq x S (F_X10_blameOf G S x a) (q_bl T a) := by
  unfold q_bl F_X10_blameOf
  cases d : dI 8 a with
  | none => exact ⟨S, by rw [pq_bxl (na_none d).1], fr_rfl⟩
  | some j =>
    obtain ⟨S1, k1, k2⟩ := c_written h v (a := a) (o := -1) r
    dsimp only
    rw [pq_bx1 (na_some d).1, (sh_st h).1, (sh_st h).2.2.2.2.1, pq_bd1 k1]
    exact ⟨S1, rfl, fr_mo k2 (by omega) (by omega)⟩
theorem k_wrongs (h : sh_G G x) (v : vT T) (r : rS S x 0 T) : qq x S (F_X10_wrongs G S x a b) (q_wr T a b) := by
  unfold q_wr F_X10_wrongs
  cases d : dI 8 a with
  | none => exact ⟨S, by rw [pq_bxl (na_none d).1], fr_rfl⟩
  | some j =>
    dsimp only
    rw [pq_bx1 (na_some d).1]
    cases d2 : dI 8 b with
    | none => exact ⟨S, by rw [pq_bxl (na_none d2).1], fr_rfl⟩
    | some k =>
      obtain ⟨S1, k1, k2⟩ := c_written h v (a := a) (o := b) r
      dsimp only
      rw [pq_bx1 (na_some d2).1, (sh_st h).1, (sh_st h).2.2.2.2.1, pq_bd1 k1]
      exact ⟨S1, rfl, fr_mo k2 (by omega) (by omega)⟩
/-- ladders and reading -/
def q_ans (T : tT) (a b : Int32) : Nat ⊕ Int32 := match dI T.cnt a with
  | none => Sum.inl 3
  | some j => match dI T.cnt b with
    | none => Sum.inl 3
    | some k => Sum.inr (nI (if qt T j k then 1 else 0))
theorem k_answers (h : sh_G G x) (v : vT T) (r : rS S x 0 T) : qq x S (F_X10_answers G S x a b) (q_ans T a b) := by
  unfold q_ans F_X10_answers
  cases d : dI T.cnt a with
  | none => exact ⟨S, by rw [pq_bxl (np_none h v r d)], fr_rfl⟩
  | some j =>
    dsimp only
    rw [pq_bx1 (np_some h v r d)]
    cases d2 : dI T.cnt b with
    | none => exact ⟨S, by rw [pq_bxl (np_none h v r d2)], fr_rfl⟩
    | some k =>
      obtain ⟨hj, ea⟩ := dI_some d
      obtain ⟨hk, eb⟩ := dI_some d2
      dsimp only
      rw [pq_bx1 (np_some h v r d2), (sh_st h).1, ea, eb, pq_bd1 (f_sat0 h (v20 v hj)), pq_bd1 (c_quotes h v hj (v20 v hk) r)]
      by_cases c : qt T j k = true
      · rw [if_pos c, if_neg (by decide)]; exact ⟨S, rfl, fr_rfl⟩
      · rw [if_neg c, if_neg (by decide)]; exact ⟨S, rfl, fr_rfl⟩
theorem k_ladderOf (h : sh_G G x) (v : vT T) (r : rS S x 0 T) : qq x S (F_X10_ladderOf G S x a) (q1 T (fun j => nI (lt_ T (j + 1) j)) a) := qq1 (fun j d hj ea => by
  obtain ⟨S1, k1, k2⟩ := c_longest h v hj r
  unfold F_X10_ladderOf
  rw [pq_bx1 (np_some h v r d), (sh_st h).1, (sh_st h).2.2.2.2.2.1, ea, pq_bd1 k1]
  exact ⟨S1, rfl, fr_mo k2 (by omega) (by omega)⟩) (fun d => by unfold F_X10_ladderOf; rw [pq_bxl (np_none h v r d)])
theorem k_laddersOf (h : sh_G G x) (v : vT T) (r : rS S x 0 T) : qq x S (F_X10_laddersOf G S x a) (q1 T (fun j => nI (gt_ T (j + 1) j)) a) := qq1 (fun j d hj ea => by
  obtain ⟨S1, k1, k2⟩ := c_ground h v hj r
  unfold F_X10_laddersOf
  rw [pq_bx1 (np_some h v r d), (sh_st h).1, (sh_st h).2.2.2.2.2.1, ea, pq_bd1 k1]
  exact ⟨S1, rfl, fr_mo k2 (by omega) (by omega)⟩) (fun d => by unfold F_X10_laddersOf; rw [pq_bxl (np_none h v r d)])
theorem k_readingOf (h : sh_G G x) (v : vT T) (r : rS S x 0 T) : qq x S (F_X10_readingOf G S x a) (q1 T (fun j => nI (rc_ T j (j + 1))) a) := qq1 (fun j d hj ea => by
  obtain ⟨S1, k1, k2, -⟩ := c_reading h v hj r
  unfold F_X10_readingOf
  rw [pq_bx1 (np_some h v r d), (sh_st h).1, (sh_st h).2.2.2.2.2.1, ea, pq_bd1 k1]
  exact ⟨S1, rfl, fr_mo k2 (by omega) (by omega)⟩) (fun d => by unfold F_X10_readingOf; rw [pq_bxl (np_none h v r d)])
theorem rc_le {p : Nat} : ∀ i, rc_ T p i ≤ i
  | 0 => Nat.le_refl _
  | i + 1 => by
    have := rc_le (p := p) i
    by_cases c : rd_ T p i (p - i) = true
    · have e : rc_ T p (i + 1) = rc_ T p i + 1 := if_pos c
      omega
    · have e : rc_ T p (i + 1) = rc_ T p i := if_neg c
      omega
def q_rd (T : tT) (a b : Int32) : Nat ⊕ Int32 := match dI T.cnt a with
  | none => Sum.inl 3
  | some j => match dI (rc_ T j (j + 1)) b with
    | none => Sum.inl 3
    | some k => Sum.inr (kth (rd T j) k 0 20)
theorem k_readAt (h : sh_G G x) (v : vT T) (r : rS S x 0 T) : qq x S (F_X10_readAt G S x a b) (q_rd T a b) := by
  unfold q_rd F_X10_readAt
  cases d : dI T.cnt a with
  | none => exact ⟨S, by rw [pq_bxl (np_none h v r d)], fr_rfl⟩
  | some j =>
    obtain ⟨hj, ea⟩ := dI_some d
    have h20 := v20 v hj
    have hb := rc_le (T := T) (p := j) (j + 1)
    obtain ⟨S1, k1, k2, k3⟩ := c_reading h v hj r
    dsimp only
    rw [pq_bx1 (np_some h v r d), (sh_st h).1, (sh_st h).2.2.2.2.2.1, ea, pq_bd1 k1]
    cases d2 : dI (rc_ T j (j + 1)) b with
    | none => exact ⟨S1, by rw [pq_bxl (npl_none (by omega) d2)], fr_mo k2 (by omega) (by omega)⟩
    | some k =>
      obtain ⟨hk, eb⟩ := dI_some d2
      dsimp only
      rw [pq_bx1 (npl_some (by omega) d2), eb, pq_bd1 (c_readIn h (by omega) k3)]
      exact ⟨S1, rfl, fr_mo k2 (by omega) (by omega)⟩
/-- the glossary -/
def q_tm (T : tT) (a : Int32) : Nat ⊕ Int32 := match dI (gn T) a with
  | none => Sum.inl 3
  | some k => Sum.inr (gt T k)
def q_gl (T : tT) (a b : Int32) : Nat ⊕ Int32 := match dI (gn T) a with
  | none => Sum.inl 3
  | some k => if b < 0 then Sum.inl 3 else Sum.inr (lI (ge T k) b)
theorem k_timesOf (h : sh_G G x) (v : vT T) (r : rS S x 0 T) : qq x S (F_X10_timesOf G S x a) (q_tm T a) := by
  obtain ⟨S1, k1, k2, k3, k4, k5, k6⟩ := c_gather h v r
  unfold q_tm F_X10_timesOf
  rw [(sh_st h).1, (sh_st h).2.2.2.2.2.2, pq_bd1 k1, k3]
  cases d : dI (gn T) a with
  | none => exact ⟨S1, by rw [pq_bxl (npl_none (by omega) d)], fr_mo k2 (by omega) (by omega)⟩
  | some k =>
    obtain ⟨hk, ea⟩ := dI_some d
    dsimp only
    rw [pq_bx1 (npl_some (by omega) d), ea, pq_bd1 (f_tim h (by omega)), k5 k hk]
    exact ⟨S1, rfl, fr_mo k2 (by omega) (by omega)⟩
theorem k_glossaryLetter (h : sh_G G x) (v : vT T) (r : rS S x 0 T) : qq x S (F_X10_glossaryLetter G S x a b) (q_gl T a b) := by
  obtain ⟨S1, k1, k2, k3, k4, k5, k6⟩ := c_gather h v r
  unfold q_gl F_X10_glossaryLetter
  rw [(sh_st h).1, (sh_st h).2.2.2.2.2.2, pq_bd1 k1, k3]
  cases d : dI (gn T) a with
  | none => exact ⟨S1, by rw [pq_bxl (npl_none (by omega) d)], fr_mo k2 (by omega) (by omega)⟩
  | some k =>
    obtain ⟨hk, ea⟩ := dI_some d
    dsimp only
    rw [pq_bx1 (npl_some (by omega) d), ea]
    by_cases hc : b < 0
    · have e1 : F_X10_needIndex G S1 b = some (Sum.inl 3, S1) := by unfold F_X10_needIndex; rw [if_neg (Int32.not_le.mpr hc)]
      rw [if_pos hc, pq_bxl e1]; exact ⟨S1, rfl, fr_mo k2 (by omega) (by omega)⟩
    · have e1 : F_X10_needIndex G S1 b = some (Sum.inr (), S1) := by unfold F_X10_needIndex; rw [if_pos (Int32.not_lt.mp hc)]
      rw [if_neg hc, pq_bx1 e1, pq_bd1 (f_ent h (by omega)), k4 k hk, pq_bd1 (c_letterIn hc)]
      exact ⟨S1, rfl, fr_mo k2 (by omega) (by omega)⟩
end CZ
