/-! LADDERS and READING of the class -/
/-- whether n quotes s -/
def qt (T : tT) (n s : Nat) : Bool := (fi (fun q => zs T n q == s) 0 (T.pm n).qc).isSome
/-- the greatest of f over the k first that hold -/
def lmx (f : Nat → Nat) (g : Nat → Bool) : Nat → Nat
  | 0 => 0
  | k + 1 => if g k then max (lmx f g k) (f k) else lmx f g k
def lsm (f : Nat → Nat) (g : Nat → Bool) : Nat → Nat
  | 0 => 0
  | k + 1 => if g k then lsm f g k + f k else lsm f g k
/-- the tables of the first n pamphlets -/
def lt_ (T : tT) : Nat → Nat → Nat
  | 0 => fun _ => 0
  | n + 1 => fun j => if j = n then lmx (lt_ T n) (qt T n) n + 1 else lt_ T n j
def gt_ (T : tT) : Nat → Nat → Nat
  | 0 => fun _ => 0
  | n + 1 => fun j => if j = n then (if (T.pm n).qc = 0 then 1 else lsm (gt_ T n) (qt T n) n) else gt_ T n j
theorem lmx_le {f : Nat → Nat} {g : Nat → Bool} {b : Nat} : ∀ {k}, (∀ i, i < k → f i ≤ b) → lmx f g k ≤ b
  | 0, _ => Nat.zero_le _
  | k + 1, h => by
    have h1 := lmx_le (g := g) (k := k) (fun i hi => h i (by omega))
    have h2 := h k (by omega)
    by_cases c : g k = true
    · have e : lmx f g (k + 1) = max (lmx f g k) (f k) := if_pos c
      omega
    · have e : lmx f g (k + 1) = lmx f g k := if_neg c
      omega
theorem lt_le {T : tT} : ∀ {n j}, lt_ T n j ≤ n
  | 0, j => Nat.le_refl _
  | n + 1, j => by
    by_cases c : j = n
    · have e : lt_ T (n + 1) j = lmx (lt_ T n) (qt T n) n + 1 := if_pos c
      have := lmx_le (f := lt_ T n) (g := qt T n) (b := n) (k := n) (fun i _ => lt_le)
      omega
    · have e : lt_ T (n + 1) j = lt_ T n j := if_neg c
      have := lt_le (T := T) (n := n) (j := j)
      omega
section CL
variable {G : pq_G} {x : Nat} {T : tT}
theorem sh_la (h : sh_G G x) : pq_r G (x + 1357) 0 = x + 1358 ∧ sh_R G (x + 1358) 20 := h.2.2.2.2.2.1.2.2.2.1
theorem f_tal {S : pq_N} {j : Nat} (h : sh_G G x) (hj : j < 20) : F_X7_number G S (pq_r G (x + 1357) 0) (nI j) = some ((S.2 (x + 1359) j).toInt32, S) := by
  have k := sh_la h
  rw [k.1, f_number k.2 hj (by omega)]
theorem f_ptal {S : pq_N} {j : Nat} {w : Int64} (h : sh_G G x) (hj : j < 20) : F_X7_put G S (pq_r G (x + 1357) 0) (nI j) w = some ((), pq_wj S (x + 1359) j w) := by
  have k := sh_la h
  rw [k.1, f_put k.2 hj (by omega)]
theorem qu_loop (h : sh_G G x) (v : vT T) {n s : Nat} (hn : n < T.cnt) (hs : s < 20) {S : pq_N} (r : rS S x 0 T) : ∀ (m q f : Nat), q + m = (T.pm n).qc → m < f → F_X4_quotes_b2 G f S (sh_p x 0 n) (nI s) (nI q) = some (nI (if (fi (fun q => zs T n q == s) q m).isSome then 1 else 0), S) := by
  have h16 := v16 v hn
  intro m
  induction m with
  | zero =>
    intro q f hqm hf
    obtain ⟨f, rfl⟩ : ∃ k, f = k + 1 := ⟨f - 1, by omega⟩
    rw [F_X4_quotes_b2.eq_2, r_qc r hn, if_pos (nI_le (by omega) (by omega))]; rfl
  | succ m ih =>
    intro q f hqm hf
    obtain ⟨f, rfl⟩ : ∃ k, f = k + 1 := ⟨f - 1, by omega⟩
    have hz := (vq v hn (q := q) (by omega))
    rw [F_X4_quotes_b2.eq_2, r_qc r hn, if_neg (nI_ge (by omega) (by omega)), pq_bd1 (g_src0 h v r hn (by omega)), if_eqI (by omega) (by omega), nI_1]
    by_cases c : zs T n q = s
    · have e : fi (fun q => zs T n q == s) q (m + 1) = some q := if_pos (by simpa using c)
      rw [if_pos c, e]; rfl
    · have e : fi (fun q => zs T n q == s) q (m + 1) = fi (fun q => zs T n q == s) (q + 1) m := if_neg (by simpa using c)
      rw [if_neg c, e]
      exact ih (q + 1) f (by omega) (by omega)
theorem c_quotes (h : sh_G G x) (v : vT T) {n s : Nat} (hn : n < T.cnt) (hs : s < 20) {S : pq_N} (r : rS S x 0 T) : F_X4_quotes G S (sh_p x 0 n) (nI s) = some (nI (if qt T n s then 1 else 0), S) := qu_loop h v hn hs r (T.pm n).qc 0 pq_fuel (by omega) (fuel_lt (by have := v16 v hn; omega))
theorem lo_in (h : sh_G G x) (v : vT T) {n : Nat} (hn : n < T.cnt) {p : Int32} {c2 : pq_N → Nat → Nat → Int32 → Int32 → Option (Int32 × pq_N)} {S : pq_N} (r : rS S x 0 T) (hc : ∀ j, j < n → S.2 (x + 1359) j = lN (lt_ T n j)) : ∀ (m k f : Nat), k + m = n → m < f →
    F_X3_longest_b19 G c2 f S (x + 1357) (x + 1) p (nI n) (nI (lmx (lt_ T n) (qt T n) k)) (nI k) = c2 (pq_wj S (x + 1359) n (lN (lmx (lt_ T n) (qt T n) n + 1))) (x + 1357) (x + 1) p (nI (n + 1)) := by
  have h20 := v.1
  intro m
  induction m with
  | zero =>
    intro k f hkm hf
    obtain ⟨f, rfl⟩ : ∃ k, f = k + 1 := ⟨f - 1, by omega⟩
    have e : k = n := by omega
    subst e
    have hb := lmx_le (f := lt_ T k) (g := qt T k) (b := k) (k := k) (fun i _ => lt_le)
    rw [F_X3_longest_b19.eq_2, if_pos (nI_le (by omega) (by omega)), nI_1, nI_l (by omega), pq_bd1 (f_ptal h (by omega)), nI_1]
  | succ m ih =>
    intro k f hkm hf
    obtain ⟨f, rfl⟩ : ∃ k, f = k + 1 := ⟨f - 1, by omega⟩
    have hb := lmx_le (f := lt_ T n) (g := qt T n) (b := n) (k := k) (fun i _ => lt_le)
    have hl := lt_le (T := T) (n := n) (j := k)
    rw [F_X3_longest_b19.eq_2, if_neg (nI_ge (by omega) (by omega)), pq_bd1 (f_sat0 (j := n) h (by omega)), pq_bd1 (c_quotes h v hn (s := k) (by omega) r)]
    by_cases c : qt T n k = true
    · rw [if_pos c, if_neg (by decide), pq_bd1 (f_tal h (by omega)), hc k (by omega), lN_i, pq_lt1, if_ltI (by omega) (by omega), nI_1]
      have e : lmx (lt_ T n) (qt T n) (k + 1) = max (lmx (lt_ T n) (qt T n) k) (lt_ T n k) := if_pos c
      have h9 := ih (k + 1) f (by omega) (by omega)
      rw [e] at h9
      by_cases c2 : lmx (lt_ T n) (qt T n) k < lt_ T n k
      · rw [Nat.max_eq_right (by omega)] at h9
        rw [if_pos c2]; exact h9
      · rw [Nat.max_eq_left (by omega)] at h9
        rw [if_neg c2]; exact h9
    · rw [if_neg c, if_pos (by decide), nI_1]
      have e : lmx (lt_ T n) (qt T n) (k + 1) = lmx (lt_ T n) (qt T n) k := if_neg c
      have h9 := ih (k + 1) f (by omega) (by omega)
      rw [e] at h9
      exact h9
theorem lo_out (h : sh_G G x) (v : vT T) {p : Nat} (hp : p < T.cnt) : ∀ (m n f : Nat) (S : pq_N), n + m = p + 1 → m < f → rS S x 0 T → (∀ j, j < n → S.2 (x + 1359) j = lN (lt_ T n j)) →
    ∃ S1, F_X3_longest_b2 G f S (x + 1357) (x + 1) (nI p) (nI n) = some (nI (lt_ T (p + 1) p), S1) ∧ fr (x + 1357) (x + 1360) S S1 := by
  have h20 := v.1
  intro m
  induction m with
  | zero =>
    intro n f S hnm hf r hc
    obtain ⟨f, rfl⟩ : ∃ k, f = k + 1 := ⟨f - 1, by omega⟩
    have e : n = p + 1 := by omega
    subst e
    rw [F_X3_longest_b2.eq_2, if_pos (nI_lt (by omega) (by omega)), pq_bd1 (f_tal h (by omega)), hc p (by omega), lN_i]
    exact ⟨S, rfl, fr_rfl⟩
  | succ m ih =>
    intro n f S hnm hf r hc
    obtain ⟨f, rfl⟩ : ∃ k, f = k + 1 := ⟨f - 1, by omega⟩
    have hin := lo_in h v (n := n) (by omega) (p := nI p) (c2 := F_X3_longest_b2 G f) r hc n 0 pq_fuel (by omega) (fuel_lt (by omega))
    rw [F_X3_longest_b2.eq_2, if_neg (nI_nlt (by omega) (by omega)), show (20 : Int32) = nI 20 from rfl, if_neg (nI_ge (by omega) (by omega)), show (0 : Int32) = nI 0 from rfl]
    have hin' : F_X3_longest_b19 G (F_X3_longest_b2 G f) pq_fuel S (x + 1357) (x + 1) (nI p) (nI n) (nI 0) (nI 0) = _ := hin
    rw [hin']
    have f0 : fr (x + 1357) (x + 1360) S (pq_wj S (x + 1359) n (lN (lmx (lt_ T n) (qt T n) n + 1))) := fr_wj (by omega) (by omega)
    obtain ⟨S1, k1, k2⟩ := ih (n + 1) f _ (by omega) (by omega) (r0_fr f0 (by omega) v r) (fun j hj => by
      show _ = lN (if j = n then lmx (lt_ T n) (qt T n) n + 1 else lt_ T n j)
      by_cases c : j = n
      · rw [if_pos c, c, wj_s]
      · rw [if_neg c, wj_k c]; exact hc j (by omega))
    exact ⟨S1, k1, fr_tr f0 k2⟩
theorem c_longest (h : sh_G G x) (v : vT T) {S : pq_N} {p : Nat} (hp : p < T.cnt) (r : rS S x 0 T) : ∃ S1, F_X3_longest G S (x + 1357) (x + 1) (nI p) = some (nI (lt_ T (p + 1) p), S1) ∧ fr (x + 1357) (x + 1360) S S1 := lo_out h v hp (p + 1) 0 pq_fuel S (by omega) (fuel_lt (by have := v.1; omega)) r (fun j hj => absurd hj (Nat.not_lt_zero _))
theorem ll_i (n : Nat) : (nI n).toInt64.toInt32 = nI n := Int32.toInt32_toInt64 _
theorem gr_in (h : sh_G G x) (v : vT T) {n : Nat} (hn : n < T.cnt) {p : Int32} {c2 : pq_N → Nat → Nat → Int32 → Int32 → Option (Int32 × pq_N)} {S : pq_N} (r : rS S x 0 T) (hc : ∀ j, j < n → (S.2 (x + 1359) j).toInt32 = nI (gt_ T n j)) : ∀ (m k f : Nat), k + m = n → m < f →
    ∃ w : Int64, w.toInt32 = nI (gt_ T (n + 1) n) ∧ F_X3_fromTheGround_b19 G c2 f S (x + 1357) (x + 1) p (nI n) (nI (lsm (gt_ T n) (qt T n) k)) (nI k) = c2 (pq_wj S (x + 1359) n w) (x + 1357) (x + 1) p (nI (n + 1)) := by
  have h20 := v.1
  intro m
  induction m with
  | zero =>
    intro k f hkm hf
    obtain ⟨f, rfl⟩ : ∃ k, f = k + 1 := ⟨f - 1, by omega⟩
    have e : k = n := by omega
    subst e
    have h16 := v16 v hn
    have eg : gt_ T (k + 1) k = if (T.pm k).qc = 0 then 1 else lsm (gt_ T k) (qt T k) k := if_pos rfl
    rw [F_X3_fromTheGround_b19.eq_2, if_pos (nI_le (by omega) (by omega)), pq_bd1 (f_sat0 (j := k) h (by omega)), r_qc r hn, show (0 : Int32) = nI 0 from rfl, if_eqI (by omega) (by omega), pq_bd1 (f_ptal h (by omega)), pq_bd1 (f_ptal h (by omega)), nI_1, eg]
    by_cases c : (T.pm k).qc = 0
    · rw [if_pos c, if_pos c]
      exact ⟨1, by decide, rfl⟩
    · rw [if_neg c, if_neg c]
      exact ⟨_, ll_i _, rfl⟩
  | succ m ih =>
    intro k f hkm hf
    obtain ⟨f, rfl⟩ : ∃ k, f = k + 1 := ⟨f - 1, by omega⟩
    rw [F_X3_fromTheGround_b19.eq_2, if_neg (nI_ge (by omega) (by omega)), pq_bd1 (f_sat0 (j := n) h (by omega)), pq_bd1 (c_quotes h v hn (s := k) (by omega) r)]
    by_cases c : qt T n k = true
    · rw [if_pos c, if_neg (by decide), pq_bd1 (f_tal h (by omega)), hc k (by omega), nI_add, nI_1]
      have e : lsm (gt_ T n) (qt T n) (k + 1) = lsm (gt_ T n) (qt T n) k + gt_ T n k := if_pos c
      have h9 := ih (k + 1) f (by omega) (by omega)
      rw [e] at h9
      exact h9
    · rw [if_neg c, if_pos (by decide), nI_1]
      have e : lsm (gt_ T n) (qt T n) (k + 1) = lsm (gt_ T n) (qt T n) k := if_neg c
      have h9 := ih (k + 1) f (by omega) (by omega)
      rw [e] at h9
      exact h9
theorem gr_out (h : sh_G G x) (v : vT T) {p : Nat} (hp : p < T.cnt) : ∀ (m n f : Nat) (S : pq_N), n + m = p + 1 → m < f → rS S x 0 T → (∀ j, j < n → (S.2 (x + 1359) j).toInt32 = nI (gt_ T n j)) →
    ∃ S1, F_X3_fromTheGround_b2 G f S (x + 1357) (x + 1) (nI p) (nI n) = some (nI (gt_ T (p + 1) p), S1) ∧ fr (x + 1357) (x + 1360) S S1 := by
  have h20 := v.1
  intro m
  induction m with
  | zero =>
    intro n f S hnm hf r hc
    obtain ⟨f, rfl⟩ : ∃ k, f = k + 1 := ⟨f - 1, by omega⟩
    have e : n = p + 1 := by omega
    subst e
    rw [F_X3_fromTheGround_b2.eq_2, if_pos (nI_lt (by omega) (by omega)), pq_bd1 (f_tal h (by omega)), hc p (by omega)]
    exact ⟨S, rfl, fr_rfl⟩
  | succ m ih =>
    intro n f S hnm hf r hc
    obtain ⟨f, rfl⟩ : ∃ k, f = k + 1 := ⟨f - 1, by omega⟩
    obtain ⟨w, hw, hin⟩ := gr_in h v (n := n) (by omega) (p := nI p) (c2 := F_X3_fromTheGround_b2 G f) r hc n 0 pq_fuel (by omega) (fuel_lt (by omega))
    have hin' : F_X3_fromTheGround_b19 G (F_X3_fromTheGround_b2 G f) pq_fuel S (x + 1357) (x + 1) (nI p) (nI n) (nI 0) (nI 0) = _ := hin
    rw [F_X3_fromTheGround_b2.eq_2, if_neg (nI_nlt (by omega) (by omega)), show (20 : Int32) = nI 20 from rfl, if_neg (nI_ge (by omega) (by omega)), show (0 : Int32) = nI 0 from rfl, hin']
    have f0 : fr (x + 1357) (x + 1360) S (pq_wj S (x + 1359) n w) := fr_wj (by omega) (by omega)
    obtain ⟨S1, k1, k2⟩ := ih (n + 1) f _ (by omega) (by omega) (r0_fr f0 (by omega) v r) (fun j hj => by
      by_cases c : j = n
      · rw [c, wj_s, hw]
      · have e : gt_ T (n + 1) j = gt_ T n j := if_neg c
        rw [e, wj_k c]; exact hc j (by omega))
    exact ⟨S1, k1, fr_tr f0 k2⟩
theorem c_ground (h : sh_G G x) (v : vT T) {S : pq_N} {p : Nat} (hp : p < T.cnt) (r : rS S x 0 T) : ∃ S1, F_X3_fromTheGround G S (x + 1357) (x + 1) (nI p) = some (nI (gt_ T (p + 1) p), S1) ∧ fr (x + 1357) (x + 1360) S S1 := gr_out h v hp (p + 1) 0 pq_fuel S (by omega) (fuel_lt (by have := v.1; omega)) r (fun j hj => absurd hj (Nat.not_lt_zero _))
end CL
/-! READING: a set of numbers -/
/-- with the sources of n's first q quotations -/
def mk_ (T : tT) (n : Nat) (f : Nat → Bool) : Nat → Nat → Bool
  | 0 => f
  | q + 1 => fun k => mk_ T n f q k || zs T n q == k
/-- behind the numbers p, p - 1 .. , i of them -/
def rd_ (T : tT) (p : Nat) : Nat → Nat → Bool
  | 0 => fun k => k == p
  | i + 1 => if rd_ T p i (p - i) then mk_ T (p - i) (rd_ T p i) (T.pm (p - i)).qc else rd_ T p i
def rd (T : tT) (p : Nat) : Nat → Bool := rd_ T p (p + 1)
/-- how many -/
def rc_ (T : tT) (p : Nat) : Nat → Nat
  | 0 => 0
  | i + 1 => if rd_ T p i (p - i) then rc_ T p i + 1 else rc_ T p i
def bN (b : Bool) : Nat := if b then 1 else 0
/-- the place of the k-th that holds, from n on, r of them -/
def kth (f : Nat → Bool) (k n : Nat) : Nat → Int32
  | 0 => -1
  | r + 1 => if f n then (if k = 0 then nI n else kth f (k - 1) (n + 1) r) else kth f k (n + 1) r
section CR
variable {G : pq_G} {x : Nat} {T : tT}
theorem ms_loop (h : sh_G G x) (v : vT T) {n : Nat} (hn : n < T.cnt) {g : Nat → Bool} : ∀ (m q f : Nat) (S : pq_N), q + m = (T.pm n).qc → m < f → rS S x 0 T → (∀ j, j < 20 → S.2 (x + 1359) j = lN (bN (mk_ T n g q j))) →
    ∃ S1, F_X3_markSources_b2 G f S (x + 1357) (sh_p x 0 n) (nI q) = some ((), S1) ∧ fr (x + 1357) (x + 1360) S S1 ∧ ∀ j, j < 20 → S1.2 (x + 1359) j = lN (bN (mk_ T n g (T.pm n).qc j)) := by
  have h16 := v16 v hn
  intro m
  induction m with
  | zero =>
    intro q f S hqm hf r hc
    obtain ⟨f, rfl⟩ : ∃ k, f = k + 1 := ⟨f - 1, by omega⟩
    have e : q = (T.pm n).qc := by omega
    rw [F_X3_markSources_b2.eq_2, r_qc r hn, if_pos (nI_le (by omega) (by omega))]
    rw [e] at hc
    exact ⟨S, rfl, fr_rfl, hc⟩
  | succ m ih =>
    intro q f S hqm hf r hc
    obtain ⟨f, rfl⟩ : ∃ k, f = k + 1 := ⟨f - 1, by omega⟩
    have hz := vq v hn (q := q) (by omega)
    rw [F_X3_markSources_b2.eq_2, r_qc r hn, if_neg (nI_ge (by omega) (by omega)), pq_bd1 (g_src0 h v r hn (by omega)), pq_bd1 (f_ptal (j := zs T n q) h (by omega)), nI_1]
    have f0 : fr (x + 1357) (x + 1360) S (pq_wj S (x + 1359) (zs T n q) 1) := fr_wj (by omega) (by omega)
    obtain ⟨S1, k1, k2, k3⟩ := ih (q + 1) f _ (by omega) (by omega) (r0_fr f0 (by omega) v r) (fun j hj => by
      show _ = lN (bN (mk_ T n g q j || zs T n q == j))
      by_cases c : j = zs T n q
      · have e : (zs T n q == j) = true := by simpa using c.symm
        rw [e, Bool.or_true, c, wj_s]; rfl
      · have e : (zs T n q == j) = false := by simpa using fun z => c z.symm
        rw [e, Bool.or_false, wj_k c]; exact hc j hj)
    exact ⟨S1, k1, fr_tr f0 k2, k3⟩
theorem rg_main (h : sh_G G x) (v : vT T) {p : Nat} (hp : p < T.cnt) : ∀ (m i f : Nat) (S : pq_N), i + m = p + 1 → m + 1 < f → rS S x 0 T → (∀ j, j < 20 → S.2 (x + 1359) j = lN (bN (rd_ T p i j))) →
    ∃ S1, F_X3_gatherReading_b37 G f S (x + 1357) (x + 1) (nI (rc_ T p i)) (if m = 0 then -1 else nI (p - i)) = some (nI (rc_ T p (p + 1)), S1) ∧ fr (x + 1357) (x + 1360) S S1 ∧ ∀ j, j < 20 → S1.2 (x + 1359) j = lN (bN (rd T p j)) := by
  have h20 := v.1
  intro m
  induction m with
  | zero =>
    intro i f S him hf r hc
    obtain ⟨f, rfl⟩ : ∃ k, f = k + 1 := ⟨f - 1, by omega⟩
    have e : i = p + 1 := by omega
    subst e
    rw [if_pos rfl, F_X3_gatherReading_b37.eq_2, if_pos (by decide)]
    exact ⟨S, rfl, fr_rfl, hc⟩
  | succ m ih =>
    intro i f S him hf r hc
    obtain ⟨f, rfl⟩ : ∃ k, f = k + 1 := ⟨f - 1, by omega⟩
    have nx : nI (p - i) + (-1 : Int32) = (if m = 0 then -1 else nI (p - (i + 1))) := by
      by_cases c : m = 0
      · have : p - i = 0 := by omega
        rw [if_pos c, this]; decide
      · rw [if_neg c, ← Int32.sub_eq_add_neg, nI_sub1 (by omega)]
        congr 1
    have hci := hc (p - i) (by omega)
    rw [if_neg (by omega), F_X3_gatherReading_b37.eq_2, if_neg (nI_pos (by omega)), pq_bd1 (f_tal h (by omega)), hci, lN_i, nx]
    by_cases c : rd_ T p i (p - i) = true
    · have e1 : bN (rd_ T p i (p - i)) = 1 := by rw [c]; rfl
      have er : rd_ T p (i + 1) = mk_ T (p - i) (rd_ T p i) (T.pm (p - i)).qc := if_pos c
      have ec : rc_ T p (i + 1) = rc_ T p i + 1 := if_pos c
      obtain ⟨S1, q1, q2, q3⟩ := ms_loop h v (n := p - i) (g := rd_ T p i) (by omega) (T.pm (p - i)).qc 0 pq_fuel S (by omega) (fuel_lt (by have := v16 v (j := p - i) (by omega); omega)) r hc
      have q1' : F_X3_markSources G S (x + 1357) (sh_p x 0 (p - i)) = some ((), S1) := q1
      rw [e1, if_pos (by decide), pq_bd1 (f_sat0 (j := p - i) h (by omega)), pq_bd1 q1', nI_1]
      obtain ⟨S2, k1, k2, k3⟩ := ih (i + 1) f S1 (by omega) (by omega) (r0_fr q2 (by omega) v r) (by rw [er]; exact q3)
      rw [ec] at k1
      exact ⟨S2, k1, fr_tr q2 k2, k3⟩
    · have c' : rd_ T p i (p - i) = false := by simpa using c
      have e1 : bN (rd_ T p i (p - i)) = 0 := by rw [c']; rfl
      have er : rd_ T p (i + 1) = rd_ T p i := if_neg c
      have ec : rc_ T p (i + 1) = rc_ T p i := if_neg c
      rw [e1, if_neg (by decide)]
      obtain ⟨S2, k1, k2, k3⟩ := ih (i + 1) f S (by omega) (by omega) r (by rw [er]; exact hc)
      rw [ec] at k1
      exact ⟨S2, k1, k2, k3⟩
theorem rg_init (h : sh_G G x) (v : vT T) {p : Nat} (hp : p < T.cnt) : ∀ (m n f : Nat) (S : pq_N), n + m = 20 → m < f → (∀ j, j < n → S.2 (x + 1359) j = lN (bN (j == p))) →
    ∃ S1, F_X3_gatherReading_b2 G f S (x + 1357) (x + 1) (nI p) (nI n) = F_X3_gatherReading_b37 G pq_fuel S1 (x + 1357) (x + 1) 0 (nI p) ∧ fr (x + 1357) (x + 1360) S S1 ∧ ∀ j, j < 20 → S1.2 (x + 1359) j = lN (bN (j == p)) := by
  have h20 := v.1
  intro m
  induction m with
  | zero =>
    intro n f S hnm hf hc
    obtain ⟨f, rfl⟩ : ∃ k, f = k + 1 := ⟨f - 1, by omega⟩
    have e : n = 20 := by omega
    subst e
    rw [F_X3_gatherReading_b2.eq_2, if_pos (by decide)]
    exact ⟨S, rfl, fr_rfl, hc⟩
  | succ m ih =>
    intro n f S hnm hf hc
    obtain ⟨f, rfl⟩ : ∃ k, f = k + 1 := ⟨f - 1, by omega⟩
    rw [F_X3_gatherReading_b2.eq_2, show (20 : Int32) = nI 20 from rfl, if_neg (nI_ge (by omega) (by omega)), if_eqI (by omega) (by omega), pq_bd1 (f_ptal h (by omega)), pq_bd1 (f_ptal h (by omega)), nI_1]
    have go : ∀ w : Int64, w = lN (bN (n == p)) → ∃ S1, F_X3_gatherReading_b2 G f (pq_wj S (x + 1359) n w) (x + 1357) (x + 1) (nI p) (nI (n + 1)) = F_X3_gatherReading_b37 G pq_fuel S1 (x + 1357) (x + 1) 0 (nI p) ∧ fr (x + 1357) (x + 1360) S S1 ∧ ∀ j, j < 20 → S1.2 (x + 1359) j = lN (bN (j == p)) := fun w hw => by
      obtain ⟨S1, k1, k2, k3⟩ := ih (n + 1) f (pq_wj S (x + 1359) n w) (by omega) (by omega) (fun j hj => by
        by_cases c : j = n
        · rw [c, wj_s, hw]
        · rw [wj_k c]; exact hc j (by omega))
      exact ⟨S1, k1, fr_tr (fr_wj (by omega) (by omega)) k2, k3⟩
    by_cases c : n = p
    · rw [if_pos c]
      exact go 1 (by rw [show (n == p) = true from by simpa using c]; rfl)
    · rw [if_neg c]
      exact go 0 (by rw [show (n == p) = false from by simpa using c]; rfl)
theorem c_reading (h : sh_G G x) (v : vT T) {S : pq_N} {p : Nat} (hp : p < T.cnt) (r : rS S x 0 T) : ∃ S1, F_X3_gatherReading G S (x + 1357) (x + 1) (nI p) = some (nI (rc_ T p (p + 1)), S1) ∧ fr (x + 1357) (x + 1360) S S1 ∧ ∀ j, j < 20 → S1.2 (x + 1359) j = lN (bN (rd T p j)) := by
  obtain ⟨S1, q1, q2, q3⟩ := rg_init h v hp 20 0 pq_fuel S (by omega) (fuel_lt (by omega)) (fun j hj => absurd hj (Nat.not_lt_zero _))
  obtain ⟨S2, k1, k2, k3⟩ := rg_main h v hp (p + 1) 0 pq_fuel S1 (by omega) (fuel_lt (by have := v.1; omega)) (r0_fr q2 (by omega) v r) q3
  rw [if_neg (by omega)] at k1
  refine ⟨S2, ?_, fr_tr q2 k2, k3⟩
  rw [← k1]
  exact q1
theorem ri_loop (h : sh_G G x) {S : pq_N} {g : Nat → Bool} (hc : ∀ j, j < 20 → S.2 (x + 1359) j = lN (bN (g j))) : ∀ (m n k f : Nat), n + m = 20 → k < 1000 → m < f → F_X3_readIn_b4 G f S (x + 1357) (nI k) (nI n) = some (kth g k n m, S) := by
  intro m
  induction m with
  | zero =>
    intro n k f hnm hk hf
    obtain ⟨f, rfl⟩ : ∃ k, f = k + 1 := ⟨f - 1, by omega⟩
    have e : n = 20 := by omega
    subst e
    rw [F_X3_readIn_b4.eq_2, if_pos (by decide)]; rfl
  | succ m ih =>
    intro n k f hnm hk hf
    obtain ⟨f, rfl⟩ : ∃ k, f = k + 1 := ⟨f - 1, by omega⟩
    rw [F_X3_readIn_b4.eq_2, show (20 : Int32) = nI 20 from rfl, if_neg (nI_ge (by omega) (by omega)), pq_bd1 (f_tal h (by omega)), hc n (by omega), lN_i, nI_1]
    by_cases c : g n = true
    · have e1 : bN (g n) = 1 := by rw [c]; rfl
      rw [e1, if_pos (by decide), show (0 : Int32) = nI 0 from rfl, if_eqI (by omega) (by omega)]
      have e2 : kth g k n (m + 1) = if k = 0 then nI n else kth g (k - 1) (n + 1) m := if_pos c
      rw [e2]
      by_cases c2 : k = 0
      · rw [if_pos c2, if_pos c2]
      · rw [if_neg c2, if_neg c2, ← Int32.sub_eq_add_neg, nI_sub1 (by omega)]
        exact ih (n + 1) (k - 1) f (by omega) (by omega) (by omega)
    · have c' : g n = false := by simpa using c
      have e1 : bN (g n) = 0 := by rw [c']; rfl
      have e2 : kth g k n (m + 1) = kth g k (n + 1) m := if_neg c
      rw [e1, if_neg (by decide), e2]
      exact ih (n + 1) k f (by omega) hk (by omega)
theorem c_readIn (h : sh_G G x) {S : pq_N} {g : Nat → Bool} {k : Nat} (hk : k < 1000) (hc : ∀ j, j < 20 → S.2 (x + 1359) j = lN (bN (g j))) : F_X3_readIn G S (x + 1357) (nI k) = some (kth g k 0 20, S) := ri_loop h hc 20 0 k pq_fuel (by omega) hk (fuel_lt (by omega))
end CR
