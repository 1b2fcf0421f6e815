/-! QUOTATIONS of the class -/
def su (f : Nat → Nat) : Nat → Nat
  | 0 => 0
  | k + 1 => su f k + f k
theorem su_0 {f : Nat → Nat} : ∀ {k}, (∀ i, i < k → f i = 0) → su f k = 0
  | 0, _ => rfl
  | k + 1, h => by
    show su f k + f k = 0
    rw [su_0 (fun i hi => h i (by omega)), h k (by omega)]
theorem su_cg {f g : Nat → Nat} : ∀ {k}, (∀ i, i < k → f i = g i) → su f k = su g k
  | 0, _ => rfl
  | k + 1, h => by
    show su f k + f k = su g k + g k
    rw [su_cg (fun i hi => h i (by omega)), h k (by omega)]
/-- the first of r places from k on -/
def fi (f : Nat → Bool) (k : Nat) : Nat → Option Nat
  | 0 => none
  | r + 1 => if f k then some k else fi f (k + 1) r
theorem fi_some {f : Nat → Bool} {j : Nat} : ∀ {r k}, fi f k r = some j → k ≤ j ∧ j < k + r ∧ f j = true ∧ ∀ i, k ≤ i → i < j → f i = false
  | 0, k, h => by cases h
  | r + 1, k, h => by
    by_cases e : f k = true
    · have h2 : some k = some j := by rw [← h]; exact (if_pos e).symm
      cases h2
      exact ⟨Nat.le_refl _, by omega, e, fun i h1 h2 => by omega⟩
    · have h2 : fi f (k + 1) r = some j := by rw [← h]; exact (if_neg e).symm
      obtain ⟨h3, h4, h5, h6⟩ := fi_some h2
      refine ⟨by omega, by omega, h5, fun i g1 g2 => ?_⟩
      rcases Nat.lt_or_ge k i with g | g
      · exact h6 i g g2
      · have : i = k := by omega
        subst this; simpa using e
theorem fi_none {f : Nat → Bool} : ∀ {r k}, fi f k r = none → ∀ i, k ≤ i → i < k + r → f i = false
  | 0, k, h, i, h1, h2 => by omega
  | r + 1, k, h, i, h1, h2 => by
    by_cases e : f k = true
    · have h2 : some k = (none : Option Nat) := by rw [← h]; exact (if_pos e).symm
      cases h2
    · have h3 : fi f (k + 1) r = none := by rw [← h]; exact (if_neg e).symm
      rcases Nat.lt_or_ge k i with g | g
      · exact fi_none h3 i g (by omega)
      · have : i = k := by omega
        subst this; simpa using e
def oI : Option Nat → Int32
  | none => -1
  | some k => nI k
/-- whether the quotation k holds the l words from a on -/
def inn (P : tP) (a l k : Nat) : Bool := decide (P.qb k ≤ a ∧ a + l ≤ P.qb k + P.ql k)
theorem inn_one {n : Nat} {P : tP} (v : vP n P) {a l k k' : Nat} (hl : 1 ≤ l) (hk : k < P.qc) (hk' : k' < P.qc) (h : inn P a l k = true) (h' : inn P a l k' = true) : k = k' := by
  obtain ⟨-, -, -, v⟩ := v
  have h := of_decide_eq_true h
  have h' := of_decide_eq_true h'
  have v1 := (v k hk).2.2.2 k'
  have v2 := (v k' hk').2.2.2 k
  rcases Nat.lt_trichotomy k k' with g | g | g
  · have := v1 g hk'; omega
  · exact g
  · have := v2 g hk; omega
/-- the source of a quotation; changes, begin and length of its passage; what it comes from -/
def zs (T : tT) (j q : Nat) : Nat := (T.pm j).qs q
def zD (T : tT) (j q : Nat) : Nat := xd (T.pm j) (T.pm (zs T j q)) q
def zA (T : tT) (j q : Nat) : Nat := xa (T.pm j) (T.pm (zs T j q)) q
def zL (T : tT) (j q : Nat) : Nat := xl (T.pm j) (T.pm (zs T j q)) q
def zp (T : tT) (j q : Nat) : Option Nat := fi (inn (T.pm (zs T j q)) (zA T j q) (zL T j q)) 0 (T.pm (zs T j q)).qc
/-- origin and length of the trace -/
def zt (T : tT) : Nat → Nat → Nat → Nat × Nat
  | 0, j, q => (zs T j q, 1)
  | f + 1, j, q => match zp T j q with
    | none => (zs T j q, 1)
    | some q' => ((zt T f (zs T j q) q').1, (zt T f (zs T j q) q').2 + 1)
theorem vq {T : tT} (v : vT T) {j q : Nat} (hj : j < T.cnt) (hq : q < (T.pm j).qc) : j < 20 ∧ (T.pm j).wc ≤ 60 ∧ (T.pm j).qc ≤ 16 ∧ zs T j q < j ∧ 1 ≤ (T.pm j).ql q ∧ (T.pm j).qb q + (T.pm j).ql q ≤ (T.pm j).wc ∧ 1 ≤ (T.pm (zs T j q)).wc ∧ (T.pm (zs T j q)).wc ≤ 60 := by
  have h1 := v.2 j hj
  have h2 := h1.2.2.2 q hq
  have h3 := v.2 (zs T j q) (by have := h2.1; show (T.pm j).qs q < _; omega)
  have := v.1
  exact ⟨by omega, h1.2.1, h1.2.2.1, h2.1, h2.2.1, h2.2.2.1, h3.1, h3.2.1⟩
theorem vx {T : tT} (v : vT T) {j q : Nat} (hj : j < T.cnt) (hq : q < (T.pm j).qc) : 1 ≤ zL T j q ∧ zA T j q + zL T j q ≤ (T.pm (zs T j q)).wc ∧ zD T j q ≤ (T.pm j).ql q := by
  have h := vq v hj hq
  exact x_lt h.2.2.2.2.1 (by omega) h.2.2.2.2.2.2.1 h.2.2.2.2.2.2.2
section CQ
variable {G : pq_G} {x : Nat} {T : tT}
theorem f_sat0 {S : pq_N} {j : Nat} (h : sh_G G x) (hj : j < 20) : F_X9_at G S (x + 1) (nI j) = some (sh_p x 0 j, S) := f_sat (i := 0) h (by decide) hj
theorem r0_cnt {S : pq_N} (r : rS S x 0 T) : S.1 (x + 1) 2 = nI T.cnt := r.1
theorem r0_day {S : pq_N} (r : rS S x 0 T) : S.1 (x + 1) 3 = T.day := r.2.1
theorem sh_p0 {j : Nat} (hj : j < 20) : x + 11 < sh_p x 0 j ∧ sh_p x 0 j + 8 < x + 1340 := sh_pb (by decide) hj
theorem r0_fr {lo hi : Nat} {S S1 : pq_N} (h : fr lo hi S S1) (hp : x + 192 ≤ lo) (v : vT T) (r : rS S x 0 T) : rS S1 x 0 T := rS_fr h (by decide) v.1 (Or.inl hp) r
theorem g_src0 {S : pq_N} {j q : Nat} (h : sh_G G x) (v : vT T) (r : rS S x 0 T) (hj : j < T.cnt) (hq : q < (T.pm j).qc) : F_X7_number G S (pq_r G (sh_p x 0 j) 1) (nI q) = some (nI (zs T j q), S) := g_src h (sh_pok (i := 0) h (by decide) (vq v hj hq).1) (r.2.2 j hj) (vq v hj hq).2.2.1 hq
theorem nI_m1 {n : Nat} (h : n < 2147483648) : ¬ nI n = (-1 : Int32) := by
  intro z
  have h1 := congrArg Int32.toInt z
  rw [nI_toInt h] at h1
  have h2 : (-1 : Int32).toInt = -1 := by decide
  rw [h2] at h1
  omega
theorem c_find (h : sh_G G x) {S : pq_N} {j q : Nat} (v : vT T) (r : rS S x 0 T) (hj : j < T.cnt) (hq : q < (T.pm j).qc) : ∃ S1, F_X5_find G S (x + 1353) (x + 1) (nI j) (nI q) = some (nI (zD T j q), S1) ∧ fr (x + 1354) (x + 1357) S S1 ∧ S1.1 (x + 1354) 2 = nI (zA T j q) ∧ S1.1 (x + 1354) 3 = nI (zL T j q) := by
  obtain ⟨g1, g2, g3, g4, g5, g6, g7, g8⟩ := vq v hj hq
  have rj := r.2.2 j hj
  have rs := r.2.2 (zs T j q) (by omega)
  have b1 := sh_p0 (x := x) g1
  have b2 := sh_p0 (x := x) (j := zs T j q) (by omega)
  unfold F_X5_find
  obtain ⟨S1, q1, q2, q3, q4, q5⟩ := c_byTable h (q := q) (sh_pok (i := 0) (j := j) h (by decide) g1) (sh_pok (i := 0) (j := zs T j q) h (by decide) (by omega)) (by omega) (by omega) g2 g3 hq g5 g6 g7 g8 rj rs
  rw [pq_bd1 (f_sat0 h g1), pq_bd1 (g_src0 h v r hj hq), pq_bd1 (f_sat0 (j := zs T j q) h (by omega)), (sh_se h).1, pq_bd1 q1, q3]
  exact ⟨S1, rfl, q2, q4, q5⟩
theorem c_findBy (h : sh_G G x) {S : pq_N} {j q : Nat} (v : vT T) (r : rS S x 0 T) (hj : j < T.cnt) (hq : q < (T.pm j).qc) : ∃ S1, F_X5_findByPassages G S (x + 1353) (x + 1) (nI j) (nI q) = some (nI (zD T j q), S1) ∧ fr (x + 1354) (x + 1357) S S1 := by
  obtain ⟨g1, g2, g3, g4, g5, g6, g7, g8⟩ := vq v hj hq
  have rj := r.2.2 j hj
  have rs := r.2.2 (zs T j q) (by omega)
  have b1 := sh_p0 (x := x) g1
  have b2 := sh_p0 (x := x) (j := zs T j q) (by omega)
  unfold F_X5_findByPassages
  obtain ⟨S1, q1, q2⟩ := c_byPassages h (q := q) (sh_pok (i := 0) (j := j) h (by decide) g1) (sh_pok (i := 0) (j := zs T j q) h (by decide) (by omega)) (by omega) (by omega) g2 g3 hq g5 g6 g7 g8 rj rs
  rw [pq_bd1 (f_sat0 h g1), pq_bd1 (g_src0 h v r hj hq), pq_bd1 (f_sat0 (j := zs T j q) h (by omega)), (sh_se h).1, pq_bd1 q1]
  exact ⟨S1, rfl, q2⟩
theorem c_atOrigin (h : sh_G G x) {S : pq_N} {j q o : Nat} (v : vT T) (r : rS S x 0 T) (hj : j < T.cnt) (hq : q < (T.pm j).qc) (ho : o < T.cnt) (eo : S.1 (x + 1353) 1 = nI o) : ∃ S1, F_X5_findAtOrigin G S (x + 1353) (x + 1) (nI j) (nI q) = some (nI (xd (T.pm j) (T.pm o) q), S1) ∧ fr (x + 1354) (x + 1357) S S1 := by
  obtain ⟨g1, g2, g3, g4, g5, g6, g7, g8⟩ := vq v hj hq
  have rj := r.2.2 j hj
  have rs := r.2.2 o ho
  have vo := v.2 o ho
  have v1 := v.1
  have b1 := sh_p0 (x := x) g1
  have b2 := sh_p0 (x := x) (j := o) (by omega)
  unfold F_X5_findAtOrigin
  obtain ⟨S1, q1, q2, q3, q4, q5⟩ := c_byTable h (q := q) (sh_pok (i := 0) (j := j) h (by decide) g1) (sh_pok (i := 0) (j := o) h (by decide) (by omega)) (by omega) (by omega) g2 g3 hq g5 g6 vo.1 vo.2.1 rj rs
  rw [pq_bd1 (f_sat0 h g1), eo, pq_bd1 (f_sat0 (j := o) h (by omega)), (sh_se h).1, pq_bd1 q1, q3]
  exact ⟨S1, rfl, q2⟩
theorem c_isWithin (h : sh_G G x) {S : pq_N} {p k a l : Nat} {P : tP} (hp : pq_ok G 4 p) (rp : rP S p P) (hc : P.qc ≤ 16) (hk : k < P.qc) (hw : P.qb k + P.ql k ≤ 60) (ha : a + l ≤ 60) : F_X4_isWithin G S p (nI k) (nI a) (nI l) = some (nI (if inn P a l k then 1 else 0), S) := by
  unfold F_X4_isWithin
  rw [pq_bd1 (g_beg h hp rp hc hk)]
  by_cases e1 : P.qb k ≤ a
  · rw [if_neg (nI_nlt e1 (by omega)), pq_bd1 (g_len h hp rp hc hk), nI_add, nI_add]
    by_cases e2 : a + l ≤ P.qb k + P.ql k
    · rw [if_neg (nI_nlt e2 (by omega)), if_pos (show inn P a l k = true from decide_eq_true ⟨e1, e2⟩)]; rfl
    · rw [if_pos (nI_lt (by omega) (by omega)), if_neg (show ¬ inn P a l k = true from fun z => e2 (of_decide_eq_true z).2)]; rfl
  · rw [if_pos (nI_lt (by omega) (by omega)), if_neg (show ¬ inn P a l k = true from fun z => e1 (of_decide_eq_true z).1)]; rfl
theorem qa_loop (h : sh_G G x) {S : pq_N} {p a l m : Nat} {P : tP} (hp : pq_ok G 4 p) (rp : rP S p P) (vp : vP m P) (ha : a + l ≤ 60) : ∀ (r k n : Nat), k + r = P.qc → r < n → F_X4_quotationAround_b2 G n S p (nI a) (nI l) (nI k) = some (oI (fi (inn P a l) k r), S) := by
  have hc := vp.2.2.1
  intro r
  induction r with
  | zero =>
    intro k n hkr hn
    obtain ⟨n, rfl⟩ : ∃ k, n = k + 1 := ⟨n - 1, by omega⟩
    rw [F_X4_quotationAround_b2.eq_2, rp.2.2.2.1, if_pos (nI_le (by omega) (by omega))]; rfl
  | succ r ih =>
    intro k n hkr hn
    obtain ⟨n, rfl⟩ : ∃ k, n = k + 1 := ⟨n - 1, by omega⟩
    have hv := vp.2.2.2 k (by omega)
    have hw := vp.2.1
    rw [F_X4_quotationAround_b2.eq_2, rp.2.2.2.1, if_neg (nI_ge (by omega) (by omega)), pq_bd1 (c_isWithin h hp rp hc (by omega) (by omega) ha), nI_1]
    by_cases e : inn P a l k = true
    · rw [if_pos e, if_neg (by decide)]
      show _ = some (oI (if inn P a l k then some k else _), S)
      rw [if_pos e]; rfl
    · rw [if_neg e, if_pos (by decide), ih (k + 1) n (by omega) (by omega)]
      show _ = some (oI (if inn P a l k then some k else _), S)
      rw [if_neg e]
theorem c_around (h : sh_G G x) {S : pq_N} {p a l m : Nat} {P : tP} (hp : pq_ok G 4 p) (rp : rP S p P) (vp : vP m P) (ha : a + l ≤ 60) : F_X4_quotationAround G S p (nI a) (nI l) = some (oI (fi (inn P a l) 0 P.qc), S) := qa_loop h hp rp vp ha P.qc 0 pq_fuel (by omega) (by have := vp.2.2.1; unfold pq_fuel; omega)
theorem c_parent (h : sh_G G x) {S : pq_N} {j q : Nat} (v : vT T) (r : rS S x 0 T) (hj : j < T.cnt) (hq : q < (T.pm j).qc) : ∃ S1, F_X5_parent G S (x + 1353) (x + 1) (nI j) (nI q) = some (oI (zp T j q), S1) ∧ fr (x + 1354) (x + 1357) S S1 := by
  obtain ⟨g1, g2, g3, g4, g5, g6, g7, g8⟩ := vq v hj hq
  obtain ⟨x1, x2, x3⟩ := vx v hj hq
  obtain ⟨S1, q1, q2, q4, q5⟩ := c_find h v r hj hq
  have r1 := r0_fr q2 (by omega) v r
  unfold F_X5_parent
  rw [pq_bd1 q1, pq_bd1 (f_sat0 h g1), pq_bd1 (g_src0 h v r1 hj hq), pq_bd1 (f_sat0 (j := zs T j q) h (by omega)), (sh_se h).1, q4, q5, pq_bd1 (c_around h (sh_pok (i := 0) (j := zs T j q) h (by decide) (by omega)) (r1.2.2 (zs T j q) (by omega)) (v.2 (zs T j q) (by omega)) (by omega))]
  exact ⟨S1, rfl, q2⟩
theorem zp_lt {j q q' : Nat} (e : zp T j q = some q') : q' < (T.pm (zs T j q)).qc := by
  have := (fi_some e).2.1
  omega
theorem zt_lt (v : vT T) : ∀ {f j q : Nat}, j < T.cnt → q < (T.pm j).qc → (zt T f j q).1 < j
  | 0, j, q, hj, hq => (vq v hj hq).2.2.2.1
  | f + 1, j, q, hj, hq => by
    have h1 := (vq v hj hq).2.2.2.1
    unfold zt
    split
    · exact h1
    · rename_i q' e
      have := zt_lt v (f := f) (j := zs T j q) (q := q') (by omega) (zp_lt e)
      show (zt T f (zs T j q) q').1 < j
      omega
theorem tr_loop (h : sh_G G x) (v : vT T) : ∀ (f j q t n : Nat) (S : pq_N), j ≤ f → t + j < 20 → j < T.cnt → q < (T.pm j).qc → f + 1 < n → rS S x 0 T → S.1 (x + 1353) 2 = nI t →
    ∃ S1, F_X5_trace_b11 G n S (x + 1353) (x + 1) (nI j) (nI q) = some ((), S1) ∧ fr (x + 1353) (x + 1357) S S1 ∧ S1.1 (x + 1353) 1 = nI (zt T f j q).1 ∧ S1.1 (x + 1353) 2 = nI (t + (zt T f j q).2) := by
  intro f
  induction f with
  | zero =>
    intro j q t n S hf _ hj hq
    have h1 := (vq v hj hq).2.2.2.1
    omega
  | succ f ih =>
    intro j q t n S hf ht hj hq hn r e2
    obtain ⟨n, rfl⟩ : ∃ k, n = k + 1 := ⟨n - 1, by omega⟩
    obtain ⟨g1, g2, g3, g4, g5, g6, g7, g8⟩ := vq v hj hq
    rw [F_X5_trace_b11.eq_2, if_neg (nI_m1 (by omega)), e2, show (20 : Int32) = nI 20 from rfl, if_neg (nI_ge (a := t) (b := 20) (by omega) (by omega)), pq_bd1 (f_sat0 h g1), pq_bd1 (g_src0 h v r hj hq)]
    simp only [pq_lt1]
    have fr1 : fr (x + 1353) (x + 1357) S (pq_wi S (x + 1353) 1 (nI (zs T j q))) := fr_wi (by omega) (by omega)
    have r1 := r0_fr fr1 (by omega) v r
    obtain ⟨S2, q1, q2⟩ := c_parent h v r1 hj hq
    have r2 := r0_fr q2 (by omega) v r1
    rw [pq_bd1 q1]
    have s1 : S2.1 (x + 1353) 1 = nI (zs T j q) := by rw [(q2 (x + 1353) (by omega)).1]; exact wi_s
    have s2 : S2.1 (x + 1353) 2 = nI t := by rw [(q2 (x + 1353) (by omega)).1, wi_k (by decide)]; exact e2
    rw [s1, s2, nI_1]
    have fr3 : fr (x + 1353) (x + 1357) S2 (pq_wi S2 (x + 1353) 2 (nI (t + 1))) := fr_wi (by omega) (by omega)
    have fr4 := fr_tr fr1 (fr_tr (fr_mo q2 (Nat.le_succ _) (Nat.le_refl _)) fr3)
    cases e : zp T j q with
    | none =>
      obtain ⟨n, rfl⟩ : ∃ k, n = k + 1 := ⟨n - 1, by omega⟩
      refine ⟨_, by rw [F_X5_trace_b11.eq_2]; exact if_pos rfl, fr4, ?_, ?_⟩
      · rw [wi_k (by decide), s1]; unfold zt; rw [e]
      · rw [wi_s]; unfold zt; rw [e]
    | some q' =>
      have hq' := zp_lt e
      obtain ⟨S3, k1, k2, k3, k4⟩ := ih (zs T j q) q' (t + 1) n (pq_wi S2 (x + 1353) 2 (nI (t + 1))) (by omega) (by omega) (by omega) hq' (by omega) (r0_fr fr3 (by omega) v r2) wi_s
      refine ⟨S3, k1, fr_tr fr4 k2, ?_, ?_⟩
      · rw [k3]; conv => rhs; unfold zt
        rw [e]
      · rw [k4]; conv => rhs; unfold zt
        rw [e]; congr 1
        show t + 1 + _ = t + (_ + 1); omega
theorem c_trace (h : sh_G G x) {S : pq_N} {j q : Nat} (v : vT T) (r : rS S x 0 T) (hj : j < T.cnt) (hq : q < (T.pm j).qc) : ∃ S1, F_X5_trace G S (x + 1353) (x + 1) (nI j) (nI q) = some ((), S1) ∧ fr (x + 1353) (x + 1357) S S1 ∧ S1.1 (x + 1353) 1 = nI (zt T 20 j q).1 ∧ S1.1 (x + 1353) 2 = nI (zt T 20 j q).2 := by
  have h1 := (vq v hj hq).1
  have fr1 : fr (x + 1353) (x + 1357) S (pq_wi S (x + 1353) 2 (nI 0)) := fr_wi (by omega) (by omega)
  obtain ⟨S1, q1, q2, q3, q4⟩ := tr_loop h v 20 j q 0 pq_fuel (pq_wi S (x + 1353) 2 (nI 0)) (by omega) (by omega) hj hq (by unfold pq_fuel; omega) (r0_fr fr1 (by omega) v r) wi_s
  rw [Nat.zero_add] at q4
  exact ⟨S1, q1, fr_tr fr1 q2, q3, q4⟩
end CQ
