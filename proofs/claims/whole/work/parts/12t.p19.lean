/-! THE REFERENCE: what quotations come from, sums -/
/-- the last of the k first -/
def la (f : Nat → Bool) : Nat → Option Nat
  | 0 => none
  | k + 1 => if f k then some k else la f k
theorem la_some {f : Nat → Bool} {j : Nat} : ∀ {k}, la f k = some j → j < k ∧ f j = true
  | 0, h => by cases h
  | k + 1, h => by
    by_cases c : f k = true
    · have e : some k = some j := by rw [← h]; exact (if_pos c).symm
      cases e
      exact ⟨Nat.lt_succ_self _, c⟩
    · have e : la f k = some j := by rw [← h]; exact (if_neg c).symm
      have := la_some e
      exact ⟨by omega, this.2⟩
theorem la_none {f : Nat → Bool} : ∀ {k}, la f k = none → ∀ i, i < k → f i = false
  | 0, _, i, hi => absurd hi (Nat.not_lt_zero _)
  | k + 1, h, i, hi => by
    by_cases c : f k = true
    · have e : some k = (none : Option Nat) := by rw [← h]; exact (if_pos c).symm
      cases e
    · have e : la f k = none := by rw [← h]; exact (if_neg c).symm
      rcases Nat.lt_or_ge i k with g | g
      · exact la_none e i g
      · have : i = k := by omega
        subst this; simpa using c
theorem la_fi {f : Nat → Bool} {n : Nat} (h : ∀ i k, i < n → k < n → f i = true → f k = true → i = k) : la f n = fi f 0 n := by
  cases e1 : la f n with
  | none =>
    cases e2 : fi f 0 n with
    | none => rfl
    | some k =>
      obtain ⟨-, h2, h3, -⟩ := fi_some e2
      have := la_none e1 k (by omega)
      rw [h3] at this; cases this
  | some j =>
    obtain ⟨h1, h2⟩ := la_some e1
    cases e2 : fi f 0 n with
    | none =>
      have := fi_none e2 j (by omega) (by omega)
      rw [h2] at this; cases this
    | some k =>
      obtain ⟨-, h3, h4, -⟩ := fi_some e2
      rw [h j k h1 (by omega) h2 h4]
theorem la_is {f : Nat → Bool} {n : Nat} : (la f n).isSome = (fi f 0 n).isSome := by
  cases e1 : la f n with
  | none =>
    cases e2 : fi f 0 n with
    | none => rfl
    | some k =>
      obtain ⟨-, h2, h3, -⟩ := fi_some e2
      have := la_none e1 k (by omega)
      rw [h3] at this; cases this
  | some j =>
    obtain ⟨h1, h2⟩ := la_some e1
    cases e2 : fi f 0 n with
    | none =>
      have := fi_none e2 j (by omega) (by omega)
      rw [h2] at this; cases this
    | some k => rfl
theorem su_if {f : Nat → Nat} {c : Prop} [Decidable c] : ∀ k, su (fun q => if c then f q else 0) k = if c then su f k else 0
  | 0 => by show 0 = _; split <;> rfl
  | k + 1 => by
    show su _ k + (if c then f k else 0) = if c then su f k + f k else 0
    rw [su_if k]
    split <;> rfl
section MG
variable {G : pq_G} {x : Nat} {T : tT}
theorem fr_loop' (h : sh_G G x) (v : vT T) {s a l : Nat} {S : pq_N} (hs : s < T.cnt) (hal : a + l ≤ 60) (rs : rA (S.1 (x + 1366)) (S.2 (x + 1367)) T) (e15 : S.1 (x + 1365) 15 = nI a) (e16 : S.1 (x + 1365) 16 = nI l) : ∀ (r k n : Nat), k + r = (T.pm s).qc → r < n →
    F_X11_from_b20 G n S (x + 1365) (nI s) (oI (la (inn (T.pm s) a l) k)) (nI k) = some (oI (la (inn (T.pm s) a l) (T.pm s).qc), S) := by
  have h16 := v16 v hs
  intro r
  induction r with
  | zero =>
    intro k n hkr hn
    obtain ⟨n, rfl⟩ : ∃ k, n = k + 1 := ⟨n - 1, by omega⟩
    have e : k = (T.pm s).qc := by omega
    rw [F_X11_from_b20.eq_2, pq_bd1 (m_qc h v rs hs), if_pos (nI_le (by omega) (by omega)), e]
  | succ r ih =>
    intro k n hkr hn
    obtain ⟨n, rfl⟩ : ∃ k, n = k + 1 := ⟨n - 1, by omega⟩
    have hk : k < (T.pm s).qc := by omega
    obtain ⟨g1, g2, g3, g4, g5, g6, g7, g8⟩ := vq v hs hk
    have h9 := ih (k + 1) n (by omega) (by omega)
    have no : ¬ inn (T.pm s) a l k = true → F_X11_from_b77 G (F_X11_from_b20 G n) S (x + 1365) (nI s) (oI (la (inn (T.pm s) a l) k)) (nI k) (0 : Int32) = some (oI (la (inn (T.pm s) a l) (T.pm s).qc), S) := fun c => by
      unfold F_X11_from_b77
      have e : la (inn (T.pm s) a l) (k + 1) = la (inn (T.pm s) a l) k := if_neg c
      rw [e] at h9
      rw [if_pos rfl, nI_1]; exact h9
    rw [F_X11_from_b20.eq_2, pq_bd1 (m_qc h v rs hs), if_neg (nI_ge (by omega) (by omega)), pq_bd1 (m_begin h v rs hs hk), e15, e16, pq_bd1 (m_begin h v rs hs hk), pq_bd1 (m_size h v rs hs hk), nI_add, nI_add, if_ltI (by omega) (by omega), if_ltI (by omega) (by omega)]
    by_cases c1 : a < (T.pm s).qb k
    · rw [if_pos c1]
      exact no (fun z => by have := (of_decide_eq_true z).1; omega)
    · rw [if_neg c1]
      by_cases c2 : (T.pm s).qb k + (T.pm s).ql k < a + l
      · rw [if_pos c2]
        exact no (fun z => by have := (of_decide_eq_true z).2; omega)
      · rw [if_neg c2]
        have c : inn (T.pm s) a l k = true := decide_eq_true ⟨by omega, by omega⟩
        have e : la (inn (T.pm s) a l) (k + 1) = some k := if_pos c
        rw [e] at h9
        unfold F_X11_from_b77
        rw [if_neg (by decide), nI_1]; exact h9
theorem m_from (h : sh_G G x) (v : vT T) {S : pq_N} {j q : Nat} (hj : j < T.cnt) (hq : q < (T.pm j).qc) (rs : rA (S.1 (x + 1366)) (S.2 (x + 1367)) T) : ∃ S1, F_X11_from G S (x + 1365) (nI j) (nI q) = some (oI (zp T j q), S1) ∧ fm x S S1 := by
  obtain ⟨g1, g2, g3, g4, g5, g6, g7, g8⟩ := vq v hj hq
  obtain ⟨x1, x2, x3⟩ := vx v hj hq
  have hs : zs T j q < T.cnt := by omega
  obtain ⟨S1, q1, q2, q3, q4, q5⟩ := m_find0 h v hj hq rs
  have hl := fr_loop' h v (s := zs T j q) (a := zA T j q) (l := zL T j q) hs (by omega) (fm_rA q2 rs) q4 q5 (T.pm (zs T j q)).qc 0 pq_fuel (by omega) (fuel_lt (by have := v16 v hs; omega))
  rw [la_fi (fun i k hi hk e1 e2 => inn_one (v.2 _ hs) x1 hi hk e1 e2)] at hl
  refine ⟨S1, ?_, q2⟩
  unfold F_X11_from
  rw [pq_bd1 (m_source h v rs hj hq), pq_bd1 q1]
  exact hl
theorem mt_loop (h : sh_G G x) (v : vT T) : ∀ (f j q g n : Nat) (S : pq_N), j ≤ f → j < T.cnt → q < (T.pm j).qc → f + 1 < n → 1 ≤ g → rA (S.1 (x + 1366)) (S.2 (x + 1367)) T → S.1 (x + 1365) 18 = nI g →
    ∃ S1, F_X11_trace_b19 G n S (x + 1365) (nI j) (nI q) (oI (zp T j q)) = some ((), S1) ∧ fn_ x S S1 ∧ S1.1 (x + 1365) 17 = nI (zt T f j q).1 ∧ S1.1 (x + 1365) 18 = nI (g + (zt T f j q).2 - 1) := by
  intro f
  induction f with
  | zero =>
    intro j q g n S hf hj hq
    have h1 := (vq v hj hq).2.2.2.1
    omega
  | succ f ih =>
    intro j q g n S hf hj hq hn hg rs e18
    obtain ⟨n, rfl⟩ : ∃ k, n = k + 1 := ⟨n - 1, by omega⟩
    obtain ⟨g1, g2, g3, g4, g5, g6, g7, g8⟩ := vq v hj hq
    rw [F_X11_trace_b19.eq_2, pq_bd1 (m_source h v rs hj hq), pq_bd1 (m_source h v rs hj hq)]
    cases e : zp T j q with
    | none =>
      rw [if_pos (show oI none = -1 from rfl), pq_lt1]
      refine ⟨_, rfl, fn_wf (by decide), ?_, ?_⟩
      · rw [wi_s]; unfold zt; rw [e]
      · rw [wi_k (by decide), e18]; unfold zt; rw [e]; rfl
    | some q' =>
      have hq' := zp_lt e
      have hs : zs T j q < T.cnt := by omega
      have h16 := v16 v hs
      obtain ⟨S1, q1, q2⟩ := m_from h v (j := zs T j q) hs hq' rs
      have q1' : F_X11_from G S (x + 1365) (nI (zs T j q)) (oI (some q')) = some (oI (zp T (zs T j q) q'), S1) := q1
      rw [if_neg (show ¬ oI (some q') = -1 from nI_m1 (by omega)), pq_bd1 q1', pq_lt1, q2.2 18 (by omega), e18, nI_1]
      have f0 : fn_ x S1 (pq_wi S1 (x + 1365) 18 (nI (g + 1))) := fn_wf (by decide)
      obtain ⟨S2, k1, k2, k3, k4⟩ := ih (zs T j q) q' (g + 1) n (pq_wi S1 (x + 1365) 18 (nI (g + 1))) (by omega) hs hq' (by omega) (by omega) (fn_rA f0 (fm_rA q2 rs)) wi_s
      refine ⟨S2, k1, fn_tr (fn_of q2) (fn_tr f0 k2), ?_, ?_⟩
      · rw [k3]; conv => rhs; unfold zt
        rw [e]
      · rw [k4]; conv => rhs; unfold zt
        rw [e]; congr 1
        show g + 1 + _ - 1 = g + (_ + 1) - 1; omega
theorem m_trace (h : sh_G G x) (v : vT T) {S : pq_N} {j q : Nat} (hj : j < T.cnt) (hq : q < (T.pm j).qc) (rs : rA (S.1 (x + 1366)) (S.2 (x + 1367)) T) : ∃ S1, F_X11_trace G S (x + 1365) (nI j) (nI q) = some ((), S1) ∧ fn_ x S S1 ∧ S1.1 (x + 1365) 17 = nI (zt T 20 j q).1 ∧ S1.1 (x + 1365) 18 = nI (zt T 20 j q).2 := by
  have h20 := v20 v hj
  obtain ⟨S1, q1, q2⟩ := m_from h v hj hq rs
  have f0 : fn_ x S1 (pq_wi S1 (x + 1365) 18 (nI 1)) := fn_wf (by decide)
  obtain ⟨S2, k1, k2, k3, k4⟩ := mt_loop h v 20 j q 1 pq_fuel (pq_wi S1 (x + 1365) 18 (nI 1)) (by omega) hj hq (fuel_lt (by omega)) (by omega) (fn_rA f0 (fm_rA q2 rs)) wi_s
  refine ⟨S2, ?_, fn_tr (fn_of q2) (fn_tr f0 k2), k3, by rw [k4]; congr 1; omega⟩
  unfold F_X11_trace
  rw [pq_bd1 q1, pq_lt1]
  exact k1
/-! answers -/
theorem an_loop (h : sh_G G x) (v : vT T) {j s : Nat} {S : pq_N} (hj : j < T.cnt) (hs : s < 20) (rs : rA (S.1 (x + 1366)) (S.2 (x + 1367)) T) : ∀ (r k n : Nat), k + r = (T.pm j).qc → r < n → F_X11_isAnswer_b5 G n S (x + 1365) (nI j) (nI s) (nI (bN (la (fun q => zs T j q == s) k).isSome)) (nI k) = some (nI (bN (qt T j s)), S) := by
  have h16 := v16 v hj
  intro r
  induction r with
  | zero =>
    intro k n hkr hn
    obtain ⟨n, rfl⟩ : ∃ k, n = k + 1 := ⟨n - 1, by omega⟩
    have e : k = (T.pm j).qc := by omega
    have e2 : qt T j s = (la (fun q => zs T j q == s) (T.pm j).qc).isSome := la_is.symm
    rw [F_X11_isAnswer_b5.eq_2, pq_bd1 (m_qc h v rs hj), if_pos (nI_le (by omega) (by omega)), e, ← e2]
    cases qt T j s with
    | true => rw [if_neg (by decide)]
    | false => rw [if_neg (by decide)]
  | succ r ih =>
    intro k n hkr hn
    obtain ⟨n, rfl⟩ : ∃ k, n = k + 1 := ⟨n - 1, by omega⟩
    have hk : k < (T.pm j).qc := by omega
    have g := vq v hj hk
    have h9 := ih (k + 1) n (by omega) (by omega)
    rw [F_X11_isAnswer_b5.eq_2, pq_bd1 (m_qc h v rs hj), if_neg (nI_ge (by omega) (by omega)), pq_bd1 (m_source h v rs hj hk), if_eqI (by omega) (by omega), nI_1]
    by_cases c : zs T j k = s
    · have e : la (fun q => zs T j q == s) (k + 1) = some k := if_pos (by simpa using c)
      rw [e] at h9
      rw [if_pos c]
      by_cases c2 : nI (bN (la (fun q => zs T j q == s) k).isSome) = 0
      · rw [if_pos c2]; exact h9
      · rw [if_neg c2]; exact h9
    · have e : la (fun q => zs T j q == s) (k + 1) = la (fun q => zs T j q == s) k := if_neg (by simpa using c)
      rw [e] at h9
      rw [if_neg c]
      cases e2 : (la (fun q => zs T j q == s) k).isSome with
      | true =>
        rw [e2] at h9
        rw [if_neg (by decide)]; exact h9
      | false =>
        rw [e2] at h9
        rw [if_pos (by decide)]; exact h9
theorem m_isAnswer (h : sh_G G x) (v : vT T) {j s : Nat} {S : pq_N} (hj : j < T.cnt) (hs : s < 20) (rs : rA (S.1 (x + 1366)) (S.2 (x + 1367)) T) : F_X11_isAnswer G S (x + 1365) (nI j) (nI s) = some (nI (bN (qt T j s)), S) := an_loop h v hj hs rs (T.pm j).qc 0 pq_fuel (by omega) (fuel_lt (by have := v16 v hj; omega))
/-! blame -/
theorem m_cnt (h : sh_G G x) {S : pq_N} (rs : rA (S.1 (x + 1366)) (S.2 (x + 1367)) T) : S.1 (x + 1366) 1 = nI T.cnt ∧ S.1 (x + 1366) 0 = T.day := ⟨rs.2.1, rs.1⟩
theorem mb_in (h : sh_G G x) (v : vT T) {a o : Int32} (ha : ¬ a = -1) {p A : Nat} (hp : p < T.cnt) {c5 : pq_N → Nat → Int32 → Int32 → Int32 → Int32 → Option (Int32 × pq_N)} : ∀ (r q n : Nat) (S : pq_N), q + r = (T.pm p).qc → r < n → rA (S.1 (x + 1366)) (S.2 (x + 1367)) T →
    ∃ S1, F_X11_blame_b19 G c5 n S (x + 1365) a o (nI (A + su (fun q => if (T.pm p).au = a then zw1 T o p q else 0) q)) (nI p) (nI q) = c5 S1 (x + 1365) a o (nI (A + su (fun q => if (T.pm p).au = a then zw1 T o p q else 0) (T.pm p).qc)) (nI (p + 1)) ∧ fm x S S1 := by
  have h16 := v16 v hp
  intro r
  induction r with
  | zero =>
    intro q n S hqr hn rs
    obtain ⟨n, rfl⟩ : ∃ k, n = k + 1 := ⟨n - 1, by omega⟩
    have e : q = (T.pm p).qc := by omega
    rw [F_X11_blame_b19.eq_2, pq_bd1 (m_qc h v rs hp), if_pos (nI_le (by omega) (by omega)), e, nI_1]
    exact ⟨S, rfl, fm_rfl⟩
  | succ r ih =>
    intro q n S hqr hn rs
    obtain ⟨n, rfl⟩ : ∃ k, n = k + 1 := ⟨n - 1, by omega⟩
    have hq : q < (T.pm p).qc := by omega
    obtain ⟨g1, g2, g3, g4, g5, g6, g7, g8⟩ := vq v hp hq
    have hs : zs T p q < T.cnt := by omega
    generalize hF : (fun q => if (T.pm p).au = a then zw1 T o p q else 0) = F at *
    have hFq : F q = if (T.pm p).au = a then zw1 T o p q else 0 := by rw [← hF]
    have e0 : su F (q + 1) = su F q + F q := rfl
    have no : F q = 0 → ∃ S1, F_X11_blame_b86 G c5 (F_X11_blame_b19 G c5 n) S (x + 1365) a o (nI (A + su F q)) (nI p) (nI q) (0 : Int32) = c5 S1 (x + 1365) a o (nI (A + su F (T.pm p).qc)) (nI (p + 1)) ∧ fm x S S1 := fun z => by
      obtain ⟨S2, k1, k2⟩ := ih (q + 1) n S (by omega) (by omega) rs
      rw [e0, z] at k1
      unfold F_X11_blame_b86
      rw [if_pos rfl, show (0 : Int32) = nI 0 from rfl, nI_add, nI_1]
      exact ⟨S2, k1, k2⟩
    have yes : F q = zD T p q → ∃ S1, F_X11_blame_b86 G c5 (F_X11_blame_b19 G c5 n) S (x + 1365) a o (nI (A + su F q)) (nI p) (nI q) (1 : Int32) = c5 S1 (x + 1365) a o (nI (A + su F (T.pm p).qc)) (nI (p + 1)) ∧ fm x S S1 := fun z => by
      obtain ⟨S1, q1, q2⟩ := m_changesOf h v hp hq rs
      obtain ⟨S2, k1, k2⟩ := ih (q + 1) n S1 (by omega) (by omega) (fm_rA q2 rs)
      rw [e0, z, ← Nat.add_assoc] at k1
      unfold F_X11_blame_b86
      rw [if_neg (by decide), pq_bd1 q1, nI_add, nI_1]
      exact ⟨S2, k1, fm_tr q2 k2⟩
    rw [F_X11_blame_b19.eq_2, pq_bd1 (m_qc h v rs hp), if_neg (nI_ge (by omega) (by omega)), if_neg ha, pq_bd1 (m_au h v rs hp)]
    unfold F_X11_blame_b52
    by_cases c1 : (T.pm p).au = a
    · rw [if_pos c1] at hFq
      rw [if_pos c1, if_neg (by decide)]
      by_cases c2 : o = -1
      · rw [if_pos c2]
        exact yes (by rw [hFq]; exact if_pos (Or.inl c2))
      · rw [if_neg c2, pq_bd1 (m_source h v rs hp hq), pq_bd1 (m_au h v rs hs)]
        by_cases c3 : (T.pm (zs T p q)).au = o
        · rw [if_pos c3]
          exact yes (by rw [hFq]; exact if_pos (Or.inr c3.symm))
        · rw [if_neg c3]
          exact no (by rw [hFq]; exact if_neg (fun z => z.elim c2 (fun z => c3 z.symm)))
    · rw [if_neg c1] at hFq
      rw [if_neg c1, if_pos rfl]
      exact no hFq
theorem mb_out (h : sh_G G x) (v : vT T) {a o : Int32} (ha : ¬ a = -1) : ∀ (r p n : Nat) (S : pq_N), p + r = T.cnt → r < n → rA (S.1 (x + 1366)) (S.2 (x + 1367)) T →
    ∃ S1, F_X11_blame_b5 G n S (x + 1365) a o (nI (su (zw2 T a o) p)) (nI p) = some (nI (zw T a o), S1) ∧ fm x S S1 := by
  have h20 := v.1
  have mm := m_many h
  intro r
  induction r with
  | zero =>
    intro p n S hqr hn rs
    obtain ⟨n, rfl⟩ : ∃ k, n = k + 1 := ⟨n - 1, by omega⟩
    have e : p = T.cnt := by omega
    rw [F_X11_blame_b5.eq_2, mm.1, if_neg mm.2.1, mm.2.2.2.1, rs.2.1, if_pos (nI_le (by omega) (by omega)), e]
    exact ⟨S, rfl, fm_rfl⟩
  | succ r ih =>
    intro p n S hqr hn rs
    obtain ⟨n, rfl⟩ : ∃ k, n = k + 1 := ⟨n - 1, by omega⟩
    have hp : p < T.cnt := by omega
    obtain ⟨S1, q1, q2⟩ := mb_in h v (a := a) (o := o) ha (p := p) (A := su (zw2 T a o) p) hp (c5 := F_X11_blame_b5 G n) (T.pm p).qc 0 pq_fuel S (by omega) (fuel_lt (by have := v16 v hp; omega)) rs
    obtain ⟨S2, k1, k2⟩ := ih (p + 1) n S1 (by omega) (by omega) (fm_rA q2 rs)
    refine ⟨S2, ?_, fm_tr q2 k2⟩
    have e2 : su (zw2 T a o) (p + 1) = su (zw2 T a o) p + su (fun q => if (T.pm p).au = a then zw1 T o p q else 0) (T.pm p).qc := by
      rw [su_if]; rfl
    rw [e2] at k1
    rw [F_X11_blame_b5.eq_2, mm.1, if_neg mm.2.1, mm.2.2.2.1, rs.2.1, if_neg (nI_ge (by omega) (by omega)), ← k1]
    exact q1
theorem m_blame (h : sh_G G x) (v : vT T) {a o : Int32} {S : pq_N} (ha : ¬ a = -1) (rs : rA (S.1 (x + 1366)) (S.2 (x + 1367)) T) : ∃ S1, F_X11_blame G S (x + 1365) a o = some (nI (zw T a o), S1) ∧ fm x S S1 := mb_out h v ha T.cnt 0 pq_fuel S (by omega) (fuel_lt (by have := v.1; omega)) rs
theorem ma_in (h : sh_G G x) (v : vT T) {s p A : Nat} (hs : s < 20) (hp : p < T.cnt) {c6 : pq_N → Nat → Int32 → Int32 → Int32 → Option (Int32 × pq_N)} : ∀ (r q n : Nat) (S : pq_N), q + r = (T.pm p).qc → r < n → rA (S.1 (x + 1366)) (S.2 (x + 1367)) T →
    ∃ S1, F_X11_blameAt_b19 G c6 n S (x + 1365) (nI s) (nI (A + su (zu1 T s p) q)) (nI p) (nI q) = c6 S1 (x + 1365) (nI s) (nI (A + zu2 T s p)) (nI (p + 1)) ∧ fm x S S1 := by
  have h16 := v16 v hp
  intro r
  induction r with
  | zero =>
    intro q n S hqr hn rs
    obtain ⟨n, rfl⟩ : ∃ k, n = k + 1 := ⟨n - 1, by omega⟩
    have e : q = (T.pm p).qc := by omega
    rw [F_X11_blameAt_b19.eq_2, pq_bd1 (m_qc h v rs hp), if_pos (nI_le (by omega) (by omega)), e, nI_1]
    exact ⟨S, rfl, fm_rfl⟩
  | succ r ih =>
    intro q n S hqr hn rs
    obtain ⟨n, rfl⟩ : ∃ k, n = k + 1 := ⟨n - 1, by omega⟩
    have hq : q < (T.pm p).qc := by omega
    obtain ⟨g1, g2, g3, g4, g5, g6, g7, g8⟩ := vq v hp hq
    rw [F_X11_blameAt_b19.eq_2, pq_bd1 (m_qc h v rs hp), if_neg (nI_ge (by omega) (by omega)), pq_bd1 (m_source h v rs hp hq), if_eqI (by omega) (by omega)]
    have e0 : su (zu1 T s p) (q + 1) = su (zu1 T s p) q + (if zs T p q = s then zD T p q else 0) := rfl
    by_cases c1 : zs T p q = s
    · obtain ⟨S1, q1, q2⟩ := m_byTable h v hp hq rs
      obtain ⟨S2, k1, k2⟩ := ih (q + 1) n S1 (by omega) (by omega) (fm_rA q2 rs)
      rw [e0, if_pos c1, ← Nat.add_assoc] at k1
      rw [if_pos c1, pq_bd1 q1, nI_add, nI_1]
      exact ⟨S2, k1, fm_tr q2 k2⟩
    · obtain ⟨S2, k1, k2⟩ := ih (q + 1) n S (by omega) (by omega) rs
      rw [e0, if_neg c1] at k1
      rw [if_neg c1, nI_1, show (0 : Int32) = nI 0 from rfl, nI_add]
      exact ⟨S2, k1, k2⟩
theorem ma_out (h : sh_G G x) (v : vT T) {s : Nat} (hs : s < 20) : ∀ (r p n : Nat) (S : pq_N), p + r = T.cnt → r < n → rA (S.1 (x + 1366)) (S.2 (x + 1367)) T →
    ∃ S1, F_X11_blameAt_b6 G n S (x + 1365) (nI s) (nI (su (zu2 T s) p)) (nI p) = some (nI (zu T s), S1) ∧ fm x S S1 := by
  have h20 := v.1
  have mm := m_many h
  intro r
  induction r with
  | zero =>
    intro p n S hqr hn rs
    obtain ⟨n, rfl⟩ : ∃ k, n = k + 1 := ⟨n - 1, by omega⟩
    have e : p = T.cnt := by omega
    rw [F_X11_blameAt_b6.eq_2, mm.1, if_neg mm.2.1, mm.2.2.2.1, rs.2.1, if_pos (nI_le (by omega) (by omega)), e]
    exact ⟨S, rfl, fm_rfl⟩
  | succ r ih =>
    intro p n S hqr hn rs
    obtain ⟨n, rfl⟩ : ∃ k, n = k + 1 := ⟨n - 1, by omega⟩
    have hp : p < T.cnt := by omega
    obtain ⟨S1, q1, q2⟩ := ma_in h v (s := s) (p := p) (A := su (zu2 T s) p) hs hp (c6 := F_X11_blameAt_b6 G n) (T.pm p).qc 0 pq_fuel S (by omega) (fuel_lt (by have := v16 v hp; omega)) rs
    obtain ⟨S2, k1, k2⟩ := ih (p + 1) n S1 (by omega) (by omega) (fm_rA q2 rs)
    refine ⟨S2, ?_, fm_tr q2 k2⟩
    rw [F_X11_blameAt_b6.eq_2, mm.1, if_neg mm.2.1, mm.2.2.2.1, rs.2.1, if_neg (nI_ge (by omega) (by omega)), ← k1]
    exact q1
theorem m_blameAt (h : sh_G G x) (v : vT T) {S : pq_N} {s : Nat} (hs : s < T.cnt) (rs : rA (S.1 (x + 1366)) (S.2 (x + 1367)) T) : ∃ S1, F_X11_blameAt G S (x + 1365) (nI s) = some (nI (zu T s), S1) ∧ fm x S S1 := by
  have := v.1
  obtain ⟨S1, q1, q2⟩ := ma_out h v (s := s) (by omega) (T.cnt - (s + 1)) (s + 1) pq_fuel S (by omega) (fuel_lt (by omega)) rs
  rw [su_0 (f := zu2 T s) (fun i hi => zu_0 v (by omega) (by omega))] at q1
  refine ⟨S1, ?_, q2⟩
  unfold F_X11_blameAt
  rw [nI_1]
  exact q1
/-! what is quoted again -/
theorem qa_in (h : sh_G G x) (v : vT T) {j q p A : Nat} (hj : j < T.cnt) (hq : q < (T.pm j).qc) (hp : p < T.cnt) {c16 : pq_N → Nat → Int32 → Int32 → Int32 → Int32 → Option (Int32 × pq_N)} : ∀ (r k n : Nat) (S : pq_N), k + r = (T.pm p).qc → r < n → rA (S.1 (x + 1366)) (S.2 (x + 1367)) T →
    ∃ S1, F_X11_quotedAgain_b30 G c16 n S (x + 1365) (nI j) (nI q) (nI (A + su (zc1 T j q p) k)) (nI p) (nI k) = c16 S1 (x + 1365) (nI j) (nI q) (nI (A + zc2 T j q p)) (nI (p + 1)) ∧ fm x S S1 := by
  have h16 := v16 v hp
  have h16' := v16 v hj
  have h20 := v20 v hj
  intro r
  induction r with
  | zero =>
    intro k n S hqr hn rs
    obtain ⟨n, rfl⟩ : ∃ k, n = k + 1 := ⟨n - 1, by omega⟩
    have e : k = (T.pm p).qc := by omega
    rw [F_X11_quotedAgain_b30.eq_2, pq_bd1 (m_qc h v rs hp), if_pos (nI_le (by omega) (by omega)), e, nI_1]
    exact ⟨S, rfl, fm_rfl⟩
  | succ r ih =>
    intro k n S hqr hn rs
    obtain ⟨n, rfl⟩ : ∃ k, n = k + 1 := ⟨n - 1, by omega⟩
    have hk : k < (T.pm p).qc := by omega
    obtain ⟨g1, g2, g3, g4, g5, g6, g7, g8⟩ := vq v hp hk
    rw [F_X11_quotedAgain_b30.eq_2, pq_bd1 (m_qc h v rs hp), if_neg (nI_ge (by omega) (by omega)), pq_bd1 (m_source h v rs hp hk), if_eqI (by omega) (by omega)]
    have e0 : su (zc1 T j q p) (k + 1) = su (zc1 T j q p) k + (if zs T p k = j ∧ zp T p k = some q then 1 else 0) := rfl
    by_cases c1 : zs T p k = j
    · obtain ⟨S1, q1, q2⟩ := m_from h v hp hk rs
      obtain ⟨S2, k1, k2⟩ := ih (k + 1) n S1 (by omega) (by omega) (fm_rA q2 rs)
      rw [e0, ← Nat.add_assoc] at k1
      rw [if_pos c1, pq_bd1 q1]
      have eo : oI (zp T p k) = nI q ↔ zp T p k = some q := by
        cases e : zp T p k with
        | none => exact ⟨fun z => absurd z.symm (nI_m1 (by omega)), fun z => by cases z⟩
        | some q' =>
          have hq' := zp_lt e
          rw [c1] at hq'
          exact ⟨fun z => by rw [(nI_eq (by omega) (by omega)).mp z], fun z => by cases z; rfl⟩
      by_cases c2 : zp T p k = some q
      · rw [if_pos ⟨c1, c2⟩] at k1
        rw [if_pos (eo.mpr c2), nI_1, nI_1]
        exact ⟨S2, k1, fm_tr q2 k2⟩
      · rw [if_neg (fun z => c2 z.2)] at k1
        rw [if_neg (fun z => c2 (eo.mp z)), nI_1, show (0 : Int32) = nI 0 from rfl, nI_add]
        exact ⟨S2, k1, fm_tr q2 k2⟩
    · obtain ⟨S2, k1, k2⟩ := ih (k + 1) n S (by omega) (by omega) rs
      rw [e0, if_neg (fun z => c1 z.1)] at k1
      rw [if_neg c1, nI_1, show (0 : Int32) = nI 0 from rfl, nI_add]
      exact ⟨S2, k1, k2⟩
theorem qa_out (h : sh_G G x) (v : vT T) {j q : Nat} (hj : j < T.cnt) (hq : q < (T.pm j).qc) : ∀ (r p n : Nat) (S : pq_N), p + r = T.cnt → r < n → rA (S.1 (x + 1366)) (S.2 (x + 1367)) T →
    ∃ S1, F_X11_quotedAgain_b16 G n S (x + 1365) (nI j) (nI q) (nI (su (zc2 T j q) p)) (nI p) = some (nI (zc T j q), S1) ∧ fm x S S1 := by
  have h20 := v.1
  have mm := m_many h
  intro r
  induction r with
  | zero =>
    intro p n S hqr hn rs
    obtain ⟨n, rfl⟩ : ∃ k, n = k + 1 := ⟨n - 1, by omega⟩
    have e : p = T.cnt := by omega
    rw [F_X11_quotedAgain_b16.eq_2, mm.1, if_neg mm.2.1, mm.2.2.2.1, rs.2.1, if_pos (nI_le (by omega) (by omega)), e]
    exact ⟨S, rfl, fm_rfl⟩
  | succ r ih =>
    intro p n S hqr hn rs
    obtain ⟨n, rfl⟩ : ∃ k, n = k + 1 := ⟨n - 1, by omega⟩
    have hp : p < T.cnt := by omega
    obtain ⟨S1, q1, q2⟩ := qa_in h v (A := su (zc2 T j q) p) hj hq hp (c16 := F_X11_quotedAgain_b16 G n) (T.pm p).qc 0 pq_fuel S (by omega) (fuel_lt (by have := v16 v hp; omega)) rs
    obtain ⟨S2, k1, k2⟩ := ih (p + 1) n S1 (by omega) (by omega) (fm_rA q2 rs)
    refine ⟨S2, ?_, fm_tr q2 k2⟩
    rw [F_X11_quotedAgain_b16.eq_2, mm.1, if_neg mm.2.1, mm.2.2.2.1, rs.2.1, if_neg (nI_ge (by omega) (by omega)), ← k1]
    exact q1
/-! the share -/
theorem fs_in (h : sh_G G x) (v : vT T) {p A B : Nat} (hp : p < T.cnt) {c11 : pq_N → Nat → Int32 → Int32 → Int32 → Option (UInt64 × pq_N)} : ∀ (r q n : Nat) (S : pq_N), q + r = (T.pm p).qc → r < n → rA (S.1 (x + 1366)) (S.2 (x + 1367)) T →
    ∃ S1, F_X11_faithfulShare_b24 G c11 n S (x + 1365) (nI (A + q)) (nI (B + su (zf1 T p) q)) (nI p) (nI q) = c11 S1 (x + 1365) (nI (A + (T.pm p).qc)) (nI (B + zf T p)) (nI (p + 1)) ∧ fm x S S1 := by
  have h16 := v16 v hp
  intro r
  induction r with
  | zero =>
    intro q n S hqr hn rs
    obtain ⟨n, rfl⟩ : ∃ k, n = k + 1 := ⟨n - 1, by omega⟩
    have e : q = (T.pm p).qc := by omega
    rw [F_X11_faithfulShare_b24.eq_2, pq_bd1 (m_qc h v rs hp), if_pos (nI_le (by omega) (by omega)), e, nI_1]
    exact ⟨S, rfl, fm_rfl⟩
  | succ r ih =>
    intro q n S hqr hn rs
    obtain ⟨n, rfl⟩ : ∃ k, n = k + 1 := ⟨n - 1, by omega⟩
    have hq : q < (T.pm p).qc := by omega
    have hD := zD_lt v hp hq
    obtain ⟨S1, q1, q2⟩ := m_byTable h v hp hq rs
    obtain ⟨S2, k1, k2⟩ := ih (q + 1) n S1 (by omega) (by omega) (fm_rA q2 rs)
    have e0 : su (zf1 T p) (q + 1) = su (zf1 T p) q + (if zD T p q = 0 then 1 else 0) := rfl
    rw [e0, ← Nat.add_assoc, ← Nat.add_assoc] at k1
    rw [F_X11_faithfulShare_b24.eq_2, pq_bd1 (m_qc h v rs hp), if_neg (nI_ge (by omega) (by omega)), pq_bd1 q1, show (0 : Int32) = nI 0 from rfl, if_eqI (by omega) (by omega), nI_1, nI_1, nI_1, nI_add]
    by_cases c : zD T p q = 0
    · rw [if_pos c] at k1 ⊢
      exact ⟨S2, k1, fm_tr q2 k2⟩
    · rw [if_neg c] at k1 ⊢
      exact ⟨S2, k1, fm_tr q2 k2⟩
theorem fs_out (h : sh_G G x) (v : vT T) : ∀ (r p n : Nat) (S : pq_N), p + r = T.cnt → r < n → rA (S.1 (x + 1366)) (S.2 (x + 1367)) T →
    ∃ S1, F_X11_faithfulShare_b11 G n S (x + 1365) (nI (su (fun p => (T.pm p).qc) p)) (nI (su (zf T) p)) (nI p) = some (zsh T, S1) ∧ fm x S S1 := by
  have h20 := v.1
  have mm := m_many h
  intro r
  induction r with
  | zero =>
    intro p n S hqr hn rs
    obtain ⟨n, rfl⟩ : ∃ k, n = k + 1 := ⟨n - 1, by omega⟩
    have e : p = T.cnt := by omega
    have hb : zfa T ≤ 16 * T.cnt := su_le (fun i hi => v16 v hi)
    rw [F_X11_faithfulShare_b11.eq_2, mm.1, if_neg mm.2.1, mm.2.2.2.1, rs.2.1, if_pos (nI_le (by omega) (by omega)), e]
    refine ⟨S, ?_, fm_rfl⟩
    show (if nI (zfa T) = (0 : Int32) then _ else _) = _
    unfold zsh
    by_cases z : zfa T = 0
    · rw [if_pos z, if_pos (by rw [z]; rfl)]
    · have nz := nI_ne0 (n := zfa T) (by omega) (by omega)
      rw [if_neg z, if_neg nz, if_neg (fun q => q (div_n (x := zfg T) (y := zfa T) (by have := zfg_le v; omega) (by omega) z))]
      rfl
  | succ r ih =>
    intro p n S hqr hn rs
    obtain ⟨n, rfl⟩ : ∃ k, n = k + 1 := ⟨n - 1, by omega⟩
    have hp : p < T.cnt := by omega
    obtain ⟨S1, q1, q2⟩ := fs_in h v (A := su (fun p => (T.pm p).qc) p) (B := su (zf T) p) hp (c11 := F_X11_faithfulShare_b11 G n) (T.pm p).qc 0 pq_fuel S (by omega) (fuel_lt (by have := v16 v hp; omega)) rs
    obtain ⟨S2, k1, k2⟩ := ih (p + 1) n S1 (by omega) (by omega) (fm_rA q2 rs)
    refine ⟨S2, ?_, fm_tr q2 k2⟩
    rw [F_X11_faithfulShare_b11.eq_2, mm.1, if_neg mm.2.1, mm.2.2.2.1, rs.2.1, if_neg (nI_ge (by omega) (by omega)), ← k1]
    exact q1
end MG
