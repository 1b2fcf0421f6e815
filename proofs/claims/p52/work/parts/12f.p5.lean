/-! BY PASSAGES -/
theorem al_row_sc {z : Nat} {prev : Nat → Nat} {same : Nat → Bool} : ∀ j, al_row 64 (64 * z) (fun j => 64 * prev j) same j = 64 * al_row 1 z prev same j
  | 0 => rfl
  | j + 1 => by
    show min (64 * prev j + (if same j then 0 else 64)) (64 + min (64 * prev (j + 1)) (al_row 64 (64 * z) (fun j => 64 * prev j) same j)) = 64 * min (prev j + (if same j then 0 else 1)) (1 + min (prev (j + 1)) (al_row 1 z prev same j))
    rw [al_row_sc j]
    by_cases h : same j = true
    · rw [if_pos h, if_pos h]; omega
    · rw [if_neg h, if_neg h]; omega
/-- the least of the first k ends -/
def lf (q s : Nat → Int64) (m a : Nat) : Nat → Nat
  | 0 => m
  | k + 1 => min (lf q s m a k) (al_d q s a (k + 1) m)
def lp (q s : Nat → Int64) (m n : Nat) : Nat → Nat
  | 0 => m
  | a + 1 => min (lp q s m n a) (lf q s m a (n - a))
section LP
variable {q s : Nat → Int64} {m n d a l : Nat}
theorem lf_ge (hd : d ≤ m) (h : al_best q s m n d a l) (a' : Nat) : ∀ k, a' + k ≤ n → d ≤ lf q s m a' k
  | 0, _ => hd
  | k + 1, hk => by
    have h1 := lf_ge hd h a' k (by omega)
    have h2 := h.2.2.2 a' (k + 1) (by omega) (by omega)
    show d ≤ min _ _
    omega
theorem lf_le (a' : Nat) : ∀ k j, 1 ≤ j → j ≤ k → lf q s m a' k ≤ al_d q s a' j m
  | 0, j, h1, h2 => absurd h1 (by omega)
  | k + 1, j, h1, h2 => by
    show min _ _ ≤ _
    rcases Nat.lt_or_ge j (k + 1) with h | h
    · have := lf_le a' k j h1 (by omega)
      omega
    · have : j = k + 1 := by omega
      subst this
      omega
theorem lf_m (a' : Nat) : ∀ k, lf q s m a' k ≤ m
  | 0 => Nat.le_refl _
  | k + 1 => by
    have := lf_m a' k
    show min _ _ ≤ _
    omega
theorem lp_m : ∀ k, lp q s m n k ≤ m
  | 0 => Nat.le_refl _
  | k + 1 => by
    have := lp_m k
    show min _ _ ≤ _
    omega
theorem lp_ge (hd : d ≤ m) (h : al_best q s m n d a l) : ∀ k, k ≤ n → d ≤ lp q s m n k
  | 0, _ => hd
  | k + 1, hk => by
    have h1 := lp_ge hd h k (by omega)
    have h2 := lf_ge hd h k (n - k) (by omega)
    show d ≤ min _ _
    omega
theorem lp_le (h : al_best q s m n d a l) : ∀ k, a < k → lp q s m n k ≤ d
  | 0, hk => absurd hk (Nat.not_lt_zero _)
  | k + 1, hk => by
    show min _ _ ≤ _
    rcases Nat.lt_or_ge a k with h1 | h1
    · have := lp_le h k h1
      omega
    · have : a = k := by omega
      subst this
      have h2 := lf_le (q := q) (s := s) (m := m) a (n - a) l h.1 (by have := h.2.1; omega)
      rw [h.2.2.1] at h2
      omega
theorem lp_eq (hd : d ≤ m) (h : al_best q s m n d a l) : lp q s m n n = d := Nat.le_antisymm (lp_le h n (by have := h.1; have := h.2.1; omega)) (lp_ge hd h n (Nat.le_refl _))
end LP
section CP
variable {G : pq_G} {x : Nat}
theorem lf_init (h : sh_G G x) {p p' m fm a : Nat} (hm : m ≤ 60) : ∀ (r i n : Nat) (S : pq_N), i + r = m + 1 → r < n → (∀ j, j < i → S.2 (x + 1356) j = lN (64 * j)) →
    ∃ S1, F_X8_leastFrom_b23 G n S (x + 1354) (nI a) p p' (nI fm) (nI m) (nI i) = F_X8_leastFrom_b58 G pq_fuel S1 (x + 1354) p p' (nI fm) (nI m) (nI m) (nI a) ∧ fr (x + 1354) (x + 1357) S S1 ∧ ∀ j, j ≤ m → S1.2 (x + 1356) j = lN (64 * j) := by
  intro r
  induction r with
  | zero =>
    intro i n S hir hn hcell
    obtain ⟨n, rfl⟩ : ∃ k, n = k + 1 := ⟨n - 1, by omega⟩
    rw [F_X8_leastFrom_b23.eq_2, if_pos (nI_lt (by omega) (by omega))]
    exact ⟨S, rfl, fr_rfl, fun j hj => hcell j (by omega)⟩
  | succ r ih =>
    intro i n S hir hn hcell
    obtain ⟨n, rfl⟩ : ∃ k, n = k + 1 := ⟨n - 1, by omega⟩
    rw [F_X8_leastFrom_b23.eq_2, if_neg (nI_nlt (by omega) (by omega)), f_pcell h (by omega), pq_bd1 rfl, nI_1, show (64 : Int32) = nI 64 from rfl, nI_mul, nI_l (by omega), Nat.mul_comm i 64]
    obtain ⟨S1, q1, q2, q3⟩ := ih (i + 1) n (pq_wj S (x + 1356) i (lN (64 * i))) (by omega) (by omega) (fun j hj => by
      by_cases e : j = i
      · subst e; exact wj_s
      · rw [wj_k e]; exact hcell j (by omega))
    exact ⟨S1, q1, fr_tr (fr_wj (by omega) (by omega)) q2, q3⟩
theorem lf_main (h : sh_G G x) {p p' q a : Nat} {P Q : tP} (hp : pq_ok G 4 p) (hp' : pq_ok G 4 p') (hpx : p + 8 < x + 1353) (hpx' : p' + 8 < x + 1353) (hP : P.wc ≤ 60) (h1 : 1 ≤ P.ql q) (h2 : P.qb q + P.ql q ≤ P.wc) (h4 : Q.wc ≤ 60) :
    ∀ (r k n : Nat) (S : pq_N), a + k + r = Q.wc → r < n → rP S p P → rP S p' Q → (∀ j, j ≤ P.ql q → S.2 (x + 1356) j = lN (64 * al_d (fun i => P.w (P.qb q + i)) Q.w a k j)) →
    ∃ S1, F_X8_leastFrom_b58 G n S (x + 1354) p p' (nI (P.qb q)) (nI (P.ql q)) (nI (lf (fun i => P.w (P.qb q + i)) Q.w (P.ql q) a k)) (nI (a + k)) = some (nI (lf (fun i => P.w (P.qb q + i)) Q.w (P.ql q) a (Q.wc - a)), S1) ∧ fr (x + 1354) (x + 1357) S S1 := by
  intro r
  induction r with
  | zero =>
    intro k n S hir hn rp rq hcell
    obtain ⟨n, rfl⟩ : ∃ k, n = k + 1 := ⟨n - 1, by omega⟩
    rw [F_X8_leastFrom_b58.eq_2, rq.2.2.1, if_pos (nI_le (by omega) (by omega))]
    have e : Q.wc - a = k := by omega
    rw [e]
    exact ⟨S, rfl, fr_rfl⟩
  | succ r ih =>
    intro k n S hir hn rp rq hcell
    obtain ⟨n, rfl⟩ : ∃ k, n = k + 1 := ⟨n - 1, by omega⟩
    have hdl : ∀ k j, al_d (fun i => P.w (P.qb q + i)) Q.w a k j ≤ k + j := fun k j => al_d_le a k j
    rw [F_X8_leastFrom_b58.eq_2, rq.2.2.1, if_neg (nI_ge (by omega) (by omega)), pq_bd1 (g_word h hp' rq h4 (by omega))]
    obtain ⟨S1, q1, q2, q3, q4⟩ := tw_class (G := G) (x := x) (p := p) (fm := P.qb q) (count := P.ql q) (S := S) (word := Q.w (a + k)) (f := fun j => 64 * al_d (fun i => P.w (P.qb q + i)) Q.w a k j) h hp hpx (by omega) (by omega) (fun j hj => by
      have := hdl k j
      show 64 * _ ≤ _
      omega) hcell
    have q4' : ∀ j, j ≤ P.ql q → S1.2 (x + 1356) j = lN (64 * al_d (fun i => P.w (P.qb q + i)) Q.w a (k + 1) j) := fun j hj => by
      rw [q4 j hj]
      congr 1
      show al_row 64 (64 * al_d _ _ a k 0 + 64) _ _ j = 64 * al_row 1 (k + 1) _ _ j
      rw [← al_row_sc, al_d0]
      rw [show 64 * k + 64 = 64 * (k + 1) from by omega]
      exact al_row_cg (fun _ _ => rfl) (fun i hi => by rw [rp.2.2.2.2.1 _ (by omega)])
    have hb := hdl (k + 1) (P.ql q)
    have hm := lf_m (q := fun i => P.w (P.qb q + i)) (s := Q.w) (m := P.ql q) a k
    rw [pq_bd1 q1, pq_bd1 (f_cell h (by omega)), q4' _ (Nat.le_refl _), lN_i, show (64 : Int32) = nI 64 from rfl, nI_div (by omega) (by omega), Nat.mul_div_cancel_left _ (by decide : 0 < 64), pq_lt1, nI_min (by omega) (by omega), nI_1]
    have e : min (al_d (fun i => P.w (P.qb q + i)) Q.w a (k + 1) (P.ql q)) (lf (fun i => P.w (P.qb q + i)) Q.w (P.ql q) a k) = lf (fun i => P.w (P.qb q + i)) Q.w (P.ql q) a (k + 1) := Nat.min_comm _ _
    rw [e]
    obtain ⟨S2, g1, g2⟩ := ih (k + 1) n S1 (by omega) (by omega) (rP_fr q2 (by omega) rp) (rP_fr q2 (by omega) rq) q4'
    exact ⟨S2, g1, fr_tr q2 g2⟩
theorem c_leastFrom (h : sh_G G x) {p p' q a : Nat} {P Q : tP} {S : pq_N} (hp : pq_ok G 4 p) (hp' : pq_ok G 4 p') (hpx : p + 8 < x + 1353) (hpx' : p' + 8 < x + 1353) (hP : P.wc ≤ 60) (hc : P.qc ≤ 16) (hq : q < P.qc) (h1 : 1 ≤ P.ql q) (h2 : P.qb q + P.ql q ≤ P.wc) (ha : a ≤ Q.wc) (h4 : Q.wc ≤ 60) (rp : rP S p P) (rq : rP S p' Q) :
    ∃ S1, F_X8_leastFrom G S (x + 1354) (nI a) p (nI q) p' = some (nI (lf (fun i => P.w (P.qb q + i)) Q.w (P.ql q) a (Q.wc - a)), S1) ∧ fr (x + 1354) (x + 1357) S S1 := by
  unfold F_X8_leastFrom
  rw [pq_bd1 (g_beg h hp rp hc hq), pq_bd1 (g_len h hp rp hc hq), show (0 : Int32) = nI 0 from rfl]
  obtain ⟨S1, q1, q2, q3⟩ := lf_init (G := G) (x := x) h (p := p) (p' := p') (m := P.ql q) (fm := P.qb q) (a := a) (by omega) (P.ql q + 1) 0 pq_fuel S (by omega) (by unfold pq_fuel; omega) (fun j hj => absurd hj (Nat.not_lt_zero _))
  rw [q1]
  obtain ⟨S2, g1, g2⟩ := lf_main (G := G) (x := x) (a := a) h hp hp' hpx hpx' hP h1 h2 h4 (Q.wc - a) 0 pq_fuel S1 (by omega) (by unfold pq_fuel; omega) (rP_fr q2 (by omega) rp) (rP_fr q2 (by omega) rq) q3
  exact ⟨S2, g1, fr_tr q2 g2⟩
theorem bp_loop (h : sh_G G x) {p p' q : Nat} {P Q : tP} (hp : pq_ok G 4 p) (hp' : pq_ok G 4 p') (hpx : p + 8 < x + 1353) (hpx' : p' + 8 < x + 1353) (hP : P.wc ≤ 60) (hc : P.qc ≤ 16) (hq : q < P.qc) (h1 : 1 ≤ P.ql q) (h2 : P.qb q + P.ql q ≤ P.wc) (h4 : Q.wc ≤ 60) :
    ∀ (r a n : Nat) (S : pq_N), a + r = Q.wc → r < n → rP S p P → rP S p' Q →
    ∃ S1, F_X8_byPassages_b17 G n S (x + 1354) p (nI q) p' (nI (lp (fun i => P.w (P.qb q + i)) Q.w (P.ql q) Q.wc a)) (nI a) = some (nI (lp (fun i => P.w (P.qb q + i)) Q.w (P.ql q) Q.wc Q.wc), S1) ∧ fr (x + 1354) (x + 1357) S S1 := by
  intro r
  induction r with
  | zero =>
    intro a n S hir hn rp rq
    obtain ⟨n, rfl⟩ : ∃ k, n = k + 1 := ⟨n - 1, by omega⟩
    have e : a = Q.wc := by omega
    subst e
    rw [F_X8_byPassages_b17.eq_2, rq.2.2.1, if_pos (nI_le (by omega) (by omega))]
    exact ⟨S, rfl, fr_rfl⟩
  | succ r ih =>
    intro a n S hir hn rp rq
    obtain ⟨n, rfl⟩ : ∃ k, n = k + 1 := ⟨n - 1, by omega⟩
    obtain ⟨S1, q1, q2⟩ := c_leastFrom (G := G) (x := x) (a := a) h hp hp' hpx hpx' hP hc hq h1 h2 (by omega) h4 rp rq
    have b1 := lf_m (q := fun i => P.w (P.qb q + i)) (s := Q.w) (m := P.ql q) a (Q.wc - a)
    have b2 := lp_m (q := fun i => P.w (P.qb q + i)) (s := Q.w) (m := P.ql q) (n := Q.wc) a
    rw [F_X8_byPassages_b17.eq_2, rq.2.2.1, if_neg (nI_ge (by omega) (by omega)), pq_bd1 q1, pq_lt1, nI_min (by omega) (by omega), nI_1]
    have e : min (lf (fun i => P.w (P.qb q + i)) Q.w (P.ql q) a (Q.wc - a)) (lp (fun i => P.w (P.qb q + i)) Q.w (P.ql q) Q.wc a) = lp (fun i => P.w (P.qb q + i)) Q.w (P.ql q) Q.wc (a + 1) := Nat.min_comm _ _
    rw [e]
    obtain ⟨S2, g1, g2⟩ := ih (a + 1) n S1 (by omega) (by omega) (rP_fr q2 (by omega) rp) (rP_fr q2 (by omega) rq)
    exact ⟨S2, g1, fr_tr q2 g2⟩
theorem c_byPassages (h : sh_G G x) {p p' q : Nat} {P Q : tP} {S : pq_N} (hp : pq_ok G 4 p) (hp' : pq_ok G 4 p') (hpx : p + 8 < x + 1353) (hpx' : p' + 8 < x + 1353) (hP : P.wc ≤ 60) (hc : P.qc ≤ 16) (hq : q < P.qc) (h1 : 1 ≤ P.ql q) (h2 : P.qb q + P.ql q ≤ P.wc) (h3 : 1 ≤ Q.wc) (h4 : Q.wc ≤ 60) (rp : rP S p P) (rq : rP S p' Q) :
    ∃ S1, F_X8_byPassages G S (x + 1354) p (nI q) p' = some (nI (xd P Q q), S1) ∧ fr (x + 1354) (x + 1357) S S1 := by
  unfold F_X8_byPassages
  rw [pq_bd1 (g_len h hp rp hc hq), show (0 : Int32) = nI 0 from rfl]
  obtain ⟨S2, g1, g2⟩ := bp_loop (G := G) (x := x) h hp hp' hpx hpx' hP hc hq h1 h2 h4 Q.wc 0 pq_fuel S (by omega) (by unfold pq_fuel; omega) rp rq
  have hx := x_lt (P := P) (Q := Q) (q := q) h1 (by omega) h3 h4
  rw [lp_eq hx.2.2 (x_best h1 h3 h4).1] at g1
  exact ⟨S2, g1, g2⟩
end CP
