/-! SUMS of the class -/
/-- what comes from the quotation q of j -/
def zc1 (T : tT) (j q p q' : Nat) : Nat := if zs T p q' = j ∧ zp T p q' = some q then 1 else 0
def zc2 (T : tT) (j q p : Nat) : Nat := su (zc1 T j q p) (T.pm p).qc
def zc (T : tT) (j q : Nat) : Nat := su (zc2 T j q) T.cnt
/-- changes that an author wrote; -1: of whomever -/
def zw1 (T : tT) (o : Int32) (p q : Nat) : Nat := if o = -1 ∨ o = (T.pm (zs T p q)).au then zD T p q else 0
def zw2 (T : tT) (a o : Int32) (p : Nat) : Nat := if (T.pm p).au = a then su (zw1 T o p) (T.pm p).qc else 0
def zw (T : tT) (a o : Int32) : Nat := su (zw2 T a o) T.cnt
/-- changes of what is quoted from a pamphlet -/
def zu1 (T : tT) (s p q : Nat) : Nat := if zs T p q = s then zD T p q else 0
def zu2 (T : tT) (s p : Nat) : Nat := su (zu1 T s p) (T.pm p).qc
def zu (T : tT) (s : Nat) : Nat := su (zu2 T s) T.cnt
def zf1 (T : tT) (p q : Nat) : Nat := if zD T p q = 0 then 1 else 0
def zf (T : tT) (p : Nat) : Nat := su (zf1 T p) (T.pm p).qc
section CU
variable {G : pq_G} {x : Nat} {T : tT}
theorem zD_lt (v : vT T) {j q : Nat} (hj : j < T.cnt) (hq : q < (T.pm j).qc) : zD T j q ≤ 60 := by
  have h := vq v hj hq
  have h2 := vx v hj hq
  omega
theorem r_qc {S : pq_N} {j : Nat} (r : rS S x 0 T) (hj : j < T.cnt) : S.1 (sh_p x 0 j) 7 = nI (T.pm j).qc := (r.2.2 j hj).2.2.2.1
theorem r_wc {S : pq_N} {j : Nat} (r : rS S x 0 T) (hj : j < T.cnt) : S.1 (sh_p x 0 j) 6 = nI (T.pm j).wc := (r.2.2 j hj).2.2.1
theorem r_au {S : pq_N} {j : Nat} (r : rS S x 0 T) (hj : j < T.cnt) : S.1 (sh_p x 0 j) 4 = (T.pm j).au := (r.2.2 j hj).1
theorem r_pd {S : pq_N} {j : Nat} (r : rS S x 0 T) (hj : j < T.cnt) : S.1 (sh_p x 0 j) 5 = (T.pm j).pd := (r.2.2 j hj).2.1
theorem v20 (v : vT T) {j : Nat} (hj : j < T.cnt) : j < 20 := by have := v.1; omega
theorem v16 (v : vT T) {j : Nat} (hj : j < T.cnt) : (T.pm j).qc ≤ 16 := (v.2 j hj).2.2.1
theorem v60 (v : vT T) {j : Nat} (hj : j < T.cnt) : (T.pm j).wc ≤ 60 := (v.2 j hj).2.1
theorem fuel_lt {n : Nat} (h : n < 100000) : n < pq_fuel := h
theorem ci_loop (h : sh_G G x) (v : vT T) {j : Nat} (hj : j < T.cnt) {o : Int32} : ∀ (r q n : Nat) (S : pq_N), q + r = (T.pm j).qc → r < n → rS S x 0 T →
    ∃ S1, F_X5_changesIn_b13 G n S (x + 1353) (x + 1) (nI j) o (sh_p x 0 j) (nI (su (zw1 T o j) q)) (nI q) = some (nI (su (zw1 T o j) (T.pm j).qc), S1) ∧ fr (x + 1354) (x + 1357) S S1 := by
  have h16 := v16 v hj
  intro r
  induction r with
  | zero =>
    intro q n S hqr hn rs
    obtain ⟨n, rfl⟩ : ∃ k, n = k + 1 := ⟨n - 1, by omega⟩
    have e : q = (T.pm j).qc := by omega
    rw [F_X5_changesIn_b13.eq_2, r_qc rs hj, if_pos (nI_le (by omega) (by omega)), e]
    exact ⟨S, rfl, fr_rfl⟩
  | succ r ih =>
    intro q n S hqr hn rs
    obtain ⟨n, rfl⟩ : ∃ k, n = k + 1 := ⟨n - 1, by omega⟩
    obtain ⟨g1, g2, g3, g4, g5, g6, g7, g8⟩ := vq v hj (q := q) (by omega)
    obtain ⟨S1, q1, q2, -, -⟩ := c_find h v rs hj (q := q) (by omega)
    have yes : zw1 T o j q = zD T j q → ∃ S1, F_X5_changesIn_b53 G (F_X5_changesIn_b13 G n) S (x + 1353) (x + 1) (nI j) o (sh_p x 0 j) (nI (su (zw1 T o j) q)) (nI q) = some (nI (su (zw1 T o j) (T.pm j).qc), S1) ∧ fr (x + 1354) (x + 1357) S S1 := fun e => by
      unfold F_X5_changesIn_b53
      rw [pq_bd1 q1, nI_add, nI_1]
      obtain ⟨S2, k1, k2⟩ := ih (q + 1) n S1 (by omega) (by omega) (r0_fr q2 (by omega) v rs)
      have e2 : su (zw1 T o j) (q + 1) = su (zw1 T o j) q + zD T j q := by rw [← e]; rfl
      rw [e2] at k1
      exact ⟨S2, k1, fr_tr q2 k2⟩
    rw [F_X5_changesIn_b13.eq_2, r_qc rs hj, if_neg (nI_ge (by omega) (by omega)), pq_bd1 (g_src0 h v rs hj (by omega)), pq_bd1 (f_sat0 (j := zs T j q) h (by omega)), r_au (j := zs T j q) rs (by omega)]
    by_cases c1 : o = -1
    · rw [if_pos c1]
      exact yes (if_pos (Or.inl c1))
    · rw [if_neg c1]
      by_cases c2 : o = (T.pm (zs T j q)).au
      · rw [if_pos c2]
        exact yes (if_pos (Or.inr c2))
      · rw [if_neg c2, nI_1]
        obtain ⟨S2, k1, k2⟩ := ih (q + 1) n S (by omega) (by omega) rs
        have e2 : su (zw1 T o j) (q + 1) = su (zw1 T o j) q := by
          show su _ q + zw1 T o j q = _
          unfold zw1
          rw [if_neg (fun z => z.elim c1 c2)]; rfl
        rw [e2] at k1
        exact ⟨S2, k1, k2⟩
theorem c_changesIn (h : sh_G G x) (v : vT T) {S : pq_N} {j : Nat} (hj : j < T.cnt) {o : Int32} (rs : rS S x 0 T) : ∃ S1, F_X5_changesIn G S (x + 1353) (x + 1) (nI j) o = some (nI (su (zw1 T o j) (T.pm j).qc), S1) ∧ fr (x + 1354) (x + 1357) S S1 := by
  unfold F_X5_changesIn
  rw [pq_bd1 (f_sat0 h (v20 v hj))]
  exact ci_loop h v hj (T.pm j).qc 0 pq_fuel S (by omega) (fuel_lt (by have := v16 v hj; omega)) rs
theorem cw_loop (h : sh_G G x) (v : vT T) {a o : Int32} : ∀ (r p n : Nat) (S : pq_N), p + r = T.cnt → r < n → rS S x 0 T →
    ∃ S1, F_X5_changesWritten_b6 G n S (x + 1353) (x + 1) a o (nI (su (zw2 T a o) p)) (nI p) = some (nI (zw T a o), S1) ∧ fr (x + 1354) (x + 1357) S S1 := by
  have h20 := v.1
  intro r
  induction r with
  | zero =>
    intro p n S hqr hn rs
    obtain ⟨n, rfl⟩ : ∃ k, n = k + 1 := ⟨n - 1, by omega⟩
    have e : p = T.cnt := by omega
    rw [F_X5_changesWritten_b6.eq_2, r0_cnt rs, if_pos (nI_le (by omega) (by omega)), e]
    exact ⟨S, rfl, fr_rfl⟩
  | succ r ih =>
    intro p n S hqr hn rs
    obtain ⟨n, rfl⟩ : ∃ k, n = k + 1 := ⟨n - 1, by omega⟩
    rw [F_X5_changesWritten_b6.eq_2, r0_cnt rs, if_neg (nI_ge (by omega) (by omega)), pq_bd1 (f_sat0 (j := p) h (by omega)), r_au (j := p) rs (by omega)]
    by_cases c1 : (T.pm p).au = a
    · obtain ⟨S1, q1, q2⟩ := c_changesIn h v (j := p) (o := o) (by omega) rs
      rw [if_pos c1, pq_bd1 q1, nI_add, nI_1]
      obtain ⟨S2, k1, k2⟩ := ih (p + 1) n S1 (by omega) (by omega) (r0_fr q2 (by omega) v rs)
      have e2 : su (zw2 T a o) (p + 1) = su (zw2 T a o) p + su (zw1 T o p) (T.pm p).qc := by
        show su _ p + zw2 T a o p = _
        unfold zw2
        rw [if_pos c1]
      rw [e2] at k1
      exact ⟨S2, k1, fr_tr q2 k2⟩
    · rw [if_neg c1, nI_1]
      obtain ⟨S2, k1, k2⟩ := ih (p + 1) n S (by omega) (by omega) rs
      have e2 : su (zw2 T a o) (p + 1) = su (zw2 T a o) p := by
        show su _ p + zw2 T a o p = _
        unfold zw2
        rw [if_neg c1]; rfl
      rw [e2] at k1
      exact ⟨S2, k1, k2⟩
theorem c_written (h : sh_G G x) (v : vT T) {S : pq_N} {a o : Int32} (rs : rS S x 0 T) : ∃ S1, F_X5_changesWritten G S (x + 1353) (x + 1) a o = some (nI (zw T a o), S1) ∧ fr (x + 1354) (x + 1357) S S1 := cw_loop h v T.cnt 0 pq_fuel S (by omega) (fuel_lt (by have := v.1; omega)) rs
/-! changesSuffered: the inner loop hands on -/
theorem cs_in (h : sh_G G x) (v : vT T) {s p : Nat} (hs : s < 20) (hp : p < T.cnt) {c7 : pq_N → Nat → Nat → Int32 → Int32 → Int32 → Option (Int32 × pq_N)} {A : Nat} : ∀ (r q n : Nat) (S : pq_N), q + r = (T.pm p).qc → r < n → rS S x 0 T →
    ∃ S1, F_X5_changesSuffered_b27 G c7 n S (x + 1353) (x + 1) (nI s) (nI (A + su (zu1 T s p) q)) (nI p) (sh_p x 0 p) (nI q) = c7 S1 (x + 1353) (x + 1) (nI s) (nI (A + zu2 T s p)) (nI (p + 1)) ∧ fr (x + 1354) (x + 1357) S S1 := by
  have h16 := v16 v hp
  intro r
  induction r with
  | zero =>
    intro q n S hqr hn rs
    obtain ⟨n, rfl⟩ : ∃ k, n = k + 1 := ⟨n - 1, by omega⟩
    have e : q = (T.pm p).qc := by omega
    rw [F_X5_changesSuffered_b27.eq_2, r_qc rs hp, if_pos (nI_le (by omega) (by omega)), e, nI_1]
    exact ⟨S, rfl, fr_rfl⟩
  | succ r ih =>
    intro q n S hqr hn rs
    obtain ⟨n, rfl⟩ : ∃ k, n = k + 1 := ⟨n - 1, by omega⟩
    obtain ⟨g1, g2, g3, g4, g5, g6, g7, g8⟩ := vq v hp (q := q) (by omega)
    rw [F_X5_changesSuffered_b27.eq_2, r_qc rs hp, if_neg (nI_ge (by omega) (by omega)), pq_bd1 (g_src0 h v rs hp (by omega)), if_eqI (by omega) (by omega)]
    by_cases c1 : zs T p q = s
    · obtain ⟨S1, q1, q2, -, -⟩ := c_find h v rs hp (q := q) (by omega)
      rw [if_pos c1, pq_bd1 q1, nI_add, nI_1]
      obtain ⟨S2, k1, k2⟩ := ih (q + 1) n S1 (by omega) (by omega) (r0_fr q2 (by omega) v rs)
      have e2 : su (zu1 T s p) (q + 1) = su (zu1 T s p) q + zD T p q := by
        show su _ q + zu1 T s p q = _
        unfold zu1
        rw [if_pos c1]
      rw [e2, ← Nat.add_assoc] at k1
      exact ⟨S2, k1, fr_tr q2 k2⟩
    · rw [if_neg c1, nI_1]
      obtain ⟨S2, k1, k2⟩ := ih (q + 1) n S (by omega) (by omega) rs
      have e2 : su (zu1 T s p) (q + 1) = su (zu1 T s p) q := by
        show su _ q + zu1 T s p q = _
        unfold zu1
        rw [if_neg c1]; rfl
      rw [e2] at k1
      exact ⟨S2, k1, k2⟩
theorem cs_out (h : sh_G G x) (v : vT T) {s : Nat} (hs : s < 20) : ∀ (r p n : Nat) (S : pq_N), p + r = T.cnt → r < n → rS S x 0 T →
    ∃ S1, F_X5_changesSuffered_b7 G n S (x + 1353) (x + 1) (nI s) (nI (su (zu2 T s) p)) (nI p) = some (nI (zu T s), S1) ∧ fr (x + 1354) (x + 1357) S S1 := by
  have h20 := v.1
  intro r
  induction r with
  | zero =>
    intro p n S hqr hn rs
    obtain ⟨n, rfl⟩ : ∃ k, n = k + 1 := ⟨n - 1, by omega⟩
    have e : p = T.cnt := by omega
    rw [F_X5_changesSuffered_b7.eq_2, r0_cnt rs, if_pos (nI_le (by omega) (by omega)), e]
    exact ⟨S, rfl, fr_rfl⟩
  | succ r ih =>
    intro p n S hqr hn rs
    obtain ⟨n, rfl⟩ : ∃ k, n = k + 1 := ⟨n - 1, by omega⟩
    rw [F_X5_changesSuffered_b7.eq_2, r0_cnt rs, if_neg (nI_ge (by omega) (by omega)), pq_bd1 (f_sat0 (j := p) h (by omega))]
    obtain ⟨S1, q1, q2⟩ := cs_in h v (s := s) (p := p) hs (by omega) (c7 := F_X5_changesSuffered_b7 G n) (A := su (zu2 T s) p) (T.pm p).qc 0 pq_fuel S (by omega) (fuel_lt (by have := v16 v (j := p) (by omega); omega)) rs
    obtain ⟨S2, k1, k2⟩ := ih (p + 1) n S1 (by omega) (by omega) (r0_fr q2 (by omega) v rs)
    refine ⟨S2, ?_, fr_tr q2 k2⟩
    rw [← k1]
    exact q1
theorem zu_0 (v : vT T) {s p : Nat} (hp : p < T.cnt) (h : p ≤ s) : zu2 T s p = 0 := su_0 fun q hq => by
  have g := (vq v hp hq).2.2.2.1
  unfold zu1
  rw [if_neg (by omega)]
theorem c_suffered (h : sh_G G x) (v : vT T) {S : pq_N} {s : Nat} (hs : s < T.cnt) (rs : rS S x 0 T) : ∃ S1, F_X5_changesSuffered G S (x + 1353) (x + 1) (nI s) = some (nI (zu T s), S1) ∧ fr (x + 1354) (x + 1357) S S1 := by
  have := v.1
  obtain ⟨S1, q1, q2⟩ := cs_out h v (s := s) (by omega) (T.cnt - (s + 1)) (s + 1) pq_fuel S (by omega) (fuel_lt (by omega)) rs
  rw [su_0 (fun i hi => zu_0 v (by omega) (by omega))] at q1
  refine ⟨S1, ?_, q2⟩
  unfold F_X5_changesSuffered
  rw [nI_1]
  exact q1
/-! faithfulIn -/
theorem fa_loop (h : sh_G G x) (v : vT T) {j : Nat} (hj : j < T.cnt) : ∀ (r q n : Nat) (S : pq_N), q + r = (T.pm j).qc → r < n → rS S x 0 T →
    ∃ S1, F_X5_faithfulIn_b15 G n S (x + 1353) (x + 1) (nI j) (nI (T.pm j).qc) (nI (su (zf1 T j) q)) (nI q) = some (nI (zf T j), S1) ∧ fr (x + 1354) (x + 1357) S S1 := by
  have h16 := v16 v hj
  intro r
  induction r with
  | zero =>
    intro q n S hqr hn rs
    obtain ⟨n, rfl⟩ : ∃ k, n = k + 1 := ⟨n - 1, by omega⟩
    have e : q = (T.pm j).qc := by omega
    rw [F_X5_faithfulIn_b15.eq_2, if_pos (nI_le (by omega) (by omega)), e]
    exact ⟨S, rfl, fr_rfl⟩
  | succ r ih =>
    intro q n S hqr hn rs
    obtain ⟨n, rfl⟩ : ∃ k, n = k + 1 := ⟨n - 1, by omega⟩
    obtain ⟨S1, q1, q2, -, -⟩ := c_find h v rs hj (q := q) (by omega)
    have hd := zD_lt v hj (q := q) (by omega)
    obtain ⟨S2, k1, k2⟩ := ih (q + 1) n S1 (by omega) (by omega) (r0_fr q2 (by omega) v rs)
    rw [F_X5_faithfulIn_b15.eq_2, if_neg (nI_ge (by omega) (by omega)), pq_bd1 q1, show (0 : Int32) = nI 0 from rfl, if_eqI (by omega) (by omega), nI_1, nI_1, nI_add]
    have e2 : su (zf1 T j) (q + 1) = su (zf1 T j) q + (if zD T j q = 0 then 1 else 0) := rfl
    rw [e2] at k1
    by_cases c : zD T j q = 0
    · rw [if_pos c] at k1 ⊢
      exact ⟨S2, k1, fr_tr q2 k2⟩
    · rw [if_neg c] at k1 ⊢
      exact ⟨S2, k1, fr_tr q2 k2⟩
theorem c_faithful (h : sh_G G x) (v : vT T) {S : pq_N} {j : Nat} (hj : j < T.cnt) (rs : rS S x 0 T) : ∃ S1, F_X5_faithfulIn G S (x + 1353) (x + 1) (nI j) = some (nI (zf T j), S1) ∧ fr (x + 1354) (x + 1357) S S1 := by
  unfold F_X5_faithfulIn
  rw [pq_bd1 (f_sat0 h (v20 v hj)), r_qc rs hj]
  exact fa_loop h v hj (T.pm j).qc 0 pq_fuel S (by omega) (fuel_lt (by have := v16 v hj; omega)) rs
/-! children -/
theorem zp_in (v : vT T) {j q q' : Nat} (hj : j < T.cnt) (hq : q < (T.pm j).qc) (hq' : q' < (T.pm (zs T j q)).qc) : zp T j q = some q' ↔ inn (T.pm (zs T j q)) (zA T j q) (zL T j q) q' = true := by
  have h1 := (vq v hj hq).2.2.2.1
  have h2 := (vx v hj hq).1
  constructor
  · intro e; exact (fi_some e).2.2.1
  · intro e
    cases c : zp T j q with
    | none =>
      have := fi_none c q' (by omega) (by omega)
      rw [e] at this; cases this
    | some k =>
      have f := fi_some c
      rw [inn_one (v.2 (zs T j q) (by omega)) h2 (by omega) hq' f.2.2.1 e]
theorem ch_in (h : sh_G G x) (v : vT T) {j q p : Nat} (hj : j < T.cnt) (hq : q < (T.pm j).qc) (hp : p < T.cnt) {c15 : pq_N → Nat → Nat → Int32 → Int32 → Nat → Int32 → Int32 → Option (Int32 × pq_N)} {A : Nat} : ∀ (r k n : Nat) (S : pq_N), k + r = (T.pm p).qc → r < n → rS S x 0 T →
    ∃ S1, F_X5_children_b35 G c15 n S (x + 1353) (x + 1) (nI j) (nI q) (sh_p x 0 j) (nI (A + su (zc1 T j q p) k)) (nI p) (sh_p x 0 p) (nI k) = c15 S1 (x + 1353) (x + 1) (nI j) (nI q) (sh_p x 0 j) (nI (A + zc2 T j q p)) (nI (p + 1)) ∧ fr (x + 1354) (x + 1357) S S1 := by
  have h16 := v16 v hp
  intro r
  induction r with
  | zero =>
    intro k n S hqr hn rs
    obtain ⟨n, rfl⟩ : ∃ k, n = k + 1 := ⟨n - 1, by omega⟩
    have e : k = (T.pm p).qc := by omega
    rw [F_X5_children_b35.eq_2, r_qc rs hp, if_pos (nI_le (by omega) (by omega)), e, nI_1]
    exact ⟨S, rfl, fr_rfl⟩
  | succ r ih =>
    intro k n S hqr hn rs
    obtain ⟨n, rfl⟩ : ∃ k, n = k + 1 := ⟨n - 1, by omega⟩
    have hk : k < (T.pm p).qc := by omega
    obtain ⟨g1, g2, g3, g4, g5, g6, g7, g8⟩ := vq v hp hk
    have hj20 := v20 v hj
    rw [F_X5_children_b35.eq_2, r_qc rs hp, if_neg (nI_ge (by omega) (by omega)), pq_bd1 (g_src0 h v rs hp hk), if_eqI (by omega) (by omega)]
    have e0 : su (zc1 T j q p) (k + 1) = su (zc1 T j q p) k + (if zs T p k = j ∧ zp T p k = some q then 1 else 0) := rfl
    by_cases c1 : zs T p k = j
    · obtain ⟨S1, q1, q2, q3, q4⟩ := c_find h v rs hp hk
      obtain ⟨x1, x2, x3⟩ := vx v hp hk
      have r1 := r0_fr q2 (by omega) v rs
      have hv := vq v hj hq
      rw [if_pos c1, pq_bd1 q1, (sh_se h).1, q3, q4, pq_bd1 (c_isWithin h (sh_pok (i := 0) (j := j) h (by decide) hj20) (r1.2.2 j hj) (v16 v hj) hq (by omega) (by rw [c1] at x2; have := v60 v hj; omega))]
      obtain ⟨S2, k1, k2⟩ := ih (k + 1) n S1 (by omega) (by omega) r1
      rw [e0, ← Nat.add_assoc] at k1
      have ez := zp_in v hp hk (q' := q) (by rw [c1]; exact hq)
      rw [c1] at ez
      by_cases c2 : inn (T.pm j) (zA T p k) (zL T p k) q = true
      · rw [if_pos ⟨c1, ez.mpr c2⟩] at k1
        rw [if_pos c2, if_neg (by decide), nI_1, nI_1]
        exact ⟨S2, k1, fr_tr q2 k2⟩
      · rw [if_neg (fun z => c2 (ez.mp z.2))] at k1
        rw [if_neg c2, if_pos (by decide), nI_1, show (0 : Int32) = nI 0 from rfl, nI_add]
        exact ⟨S2, k1, fr_tr q2 k2⟩
    · obtain ⟨S2, k1, k2⟩ := ih (k + 1) n S (by omega) (by omega) rs
      rw [e0, if_neg (fun z => c1 z.1)] at k1
      rw [if_neg c1, nI_1]
      exact ⟨S2, k1, k2⟩
theorem ch_out (h : sh_G G x) (v : vT T) {j q : Nat} (hj : j < T.cnt) (hq : q < (T.pm j).qc) : ∀ (r p n : Nat) (S : pq_N), p + r = T.cnt → r < n → rS S x 0 T →
    ∃ S1, F_X5_children_b15 G n S (x + 1353) (x + 1) (nI j) (nI q) (sh_p x 0 j) (nI (su (zc2 T j q) p)) (nI p) = some (nI (zc T j q), S1) ∧ fr (x + 1354) (x + 1357) S S1 := by
  have h20 := v.1
  intro r
  induction r with
  | zero =>
    intro p n S hqr hn rs
    obtain ⟨n, rfl⟩ : ∃ k, n = k + 1 := ⟨n - 1, by omega⟩
    have e : p = T.cnt := by omega
    rw [F_X5_children_b15.eq_2, r0_cnt rs, if_pos (nI_le (by omega) (by omega)), e]
    exact ⟨S, rfl, fr_rfl⟩
  | succ r ih =>
    intro p n S hqr hn rs
    obtain ⟨n, rfl⟩ : ∃ k, n = k + 1 := ⟨n - 1, by omega⟩
    rw [F_X5_children_b15.eq_2, r0_cnt rs, if_neg (nI_ge (by omega) (by omega)), pq_bd1 (f_sat0 (j := p) h (by omega))]
    obtain ⟨S1, q1, q2⟩ := ch_in h v (p := p) hj hq (by omega) (c15 := F_X5_children_b15 G n) (A := su (zc2 T j q) p) (T.pm p).qc 0 pq_fuel S (by omega) (fuel_lt (by have := v16 v (j := p) (by omega); omega)) rs
    obtain ⟨S2, k1, k2⟩ := ih (p + 1) n S1 (by omega) (by omega) (r0_fr q2 (by omega) v rs)
    refine ⟨S2, ?_, fr_tr q2 k2⟩
    rw [← k1]
    exact q1
theorem c_children (h : sh_G G x) (v : vT T) {S : pq_N} {j q : Nat} (hj : j < T.cnt) (hq : q < (T.pm j).qc) (rs : rS S x 0 T) : ∃ S1, F_X5_children G S (x + 1353) (x + 1) (nI j) (nI q) = some (nI (zc T j q), S1) ∧ fr (x + 1354) (x + 1357) S S1 := by
  have := v.1
  obtain ⟨S1, q1, q2⟩ := ch_out h v hj hq (T.cnt - (j + 1)) (j + 1) pq_fuel S (by omega) (fuel_lt (by omega)) rs
  rw [su_0 (f := zc2 T j q) (fun i hi => su_0 (fun k hk => by
    have g := (vq v (j := i) (by omega) hk).2.2.2.1
    unfold zc1
    rw [if_neg (by omega)]))] at q1
  refine ⟨S1, ?_, q2⟩
  unfold F_X5_children
  rw [pq_bd1 (f_sat0 h (v20 v hj)), nI_1]
  exact q1
end CU
