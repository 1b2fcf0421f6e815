/-! BITS of a set of numbers below 20 -/
theorem sh_k : ∀ k : Fin 32, ((nI k.1 &&& (31 : Int32)).toBitVec.smod 32).toNat = k.1 := by decide +kernel
/-- the bit k of s -/
def bt (s : Int32) (k : Nat) : Bool := s.toBitVec.getLsbD k
theorem bt_and {s : Int32} {k : Nat} (hk : k < 32) : (s >>> (nI k &&& (31 : Int32))) &&& (1 : Int32) = nI (bN (bt s k)) := by
  have e := sh_k ⟨k, hk⟩
  have e' : ((nI k &&& (31 : Int32)).toBitVec.smod 32).toNat = k := e
  apply Int32.toBitVec_inj.mp
  rw [Int32.toBitVec_and, Int32.toBitVec_shiftRight, BitVec.sshiftRight', e']
  have h1 : (1 : Int32).toBitVec = 1#32 := rfl
  rw [h1]
  apply BitVec.eq_of_getLsbD_eq
  intro i hi
  rw [BitVec.getLsbD_and, BitVec.getLsbD_sshiftRight]
  by_cases c : i = 0
  · subst c
    have e0 : k + 0 = k := rfl
    unfold bt
    rw [Nat.add_zero]
    cases h : s.toBitVec.getLsbD k with
    | true => simp [hk, h, bN, nI]
    | false => simp [hk, h, bN, nI]
  · have e1 : (1#32).getLsbD i = false := by
      rw [BitVec.getLsbD_one]; simp [c]
    rw [e1, Bool.and_false]
    unfold bt
    cases h : s.toBitVec.getLsbD k with
    | true =>
      show false = (1#32).getLsbD i
      rw [e1]
    | false =>
      show false = (0#32).getLsbD i
      rw [BitVec.getLsbD_zero]
theorem bt_or {s : Int32} {v k : Nat} (hv : v < 32) (hk : k < 32) : bt (s ||| ((1 : Int32) <<< (nI v &&& (31 : Int32)))) k = (bt s k || v == k) := by
  have e := sh_k ⟨v, hv⟩
  have e' : ((nI v &&& (31 : Int32)).toBitVec.smod 32).toNat = v := e
  unfold bt
  rw [Int32.toBitVec_or, Int32.toBitVec_shiftLeft, BitVec.getLsbD_or]
  congr 1
  rw [BitVec.shiftLeft_eq', e']
  have h1 : (1 : Int32).toBitVec = 1#32 := rfl
  rw [h1, BitVec.getLsbD_shiftLeft]
  by_cases c : v = k
  · subst c
    simp [hk]
  · rcases Nat.lt_or_ge k v with c2 | c2
    · simp [c2, c]
    · have : k - v ≠ 0 := by omega
      have e1 : (1#32).getLsbD (k - v) = false := by
        rw [BitVec.getLsbD_one]; simp [this]
      rw [e1]
      simp [c]
theorem bt_one {p k : Nat} (hp : p < 32) (hk : k < 32) : bt ((1 : Int32) <<< (nI p &&& (31 : Int32))) k = (k == p) := by
  have h := bt_or (s := 0) (v := p) (k := k) hp hk
  have e : (0 : Int32) ||| ((1 : Int32) <<< (nI p &&& (31 : Int32))) = (1 : Int32) <<< (nI p &&& (31 : Int32)) := Int32.zero_or
  rw [e] at h
  rw [h]
  have z : bt 0 k = false := by
    unfold bt
    show (0#32).getLsbD k = false
    exact BitVec.getLsbD_zero
  rw [z, Bool.false_or]
  by_cases c : p = k
  · rw [c]
  · rw [show (p == k) = false from by simpa using c, show (k == p) = false from by simpa using fun z => c z.symm]
section MR
variable {G : pq_G} {x : Nat} {T : tT}
/-- s holds f -/
def bF (s : Int32) (f : Nat → Bool) : Prop := ∀ k, k < 20 → bt s k = f k
theorem mk_k {n k : Nat} {f : Nat → Bool} (v : vT T) (hn : n < T.cnt) (hk : n ≤ k) : ∀ q, q ≤ (T.pm n).qc → mk_ T n f q k = f k
  | 0, _ => rfl
  | q + 1, hq => by
    have g := (vq v hn (q := q) (by omega)).2.2.2.1
    show (mk_ T n f q k || zs T n q == k) = f k
    rw [mk_k v hn hk q (by omega), show (zs T n q == k) = false from by simpa using (by omega : zs T n q ≠ k), Bool.or_false]
theorem rb_in (h : sh_G G x) (v : vT T) {n : Nat} (hn : n < T.cnt) {f : Nat → Bool} {S : pq_N} (hf : f n = true) (rs : rA (S.1 (x + 1366)) (S.2 (x + 1367)) T) {c6 : pq_N → Nat → Int32 → Int32 → Option (Int32 × pq_N)} : ∀ (r q m : Nat) (s : Int32), q + r = (T.pm n).qc → r < m → bF s (mk_ T n f q) →
    ∃ s', F_X11_reading_b13 G c6 m S (x + 1365) s (nI n) (nI q) = c6 S (x + 1365) s' (nI n + -1) ∧ bF s' (mk_ T n f (T.pm n).qc) := by
  have h16 := v16 v hn
  have h20 := v20 v hn
  intro r
  induction r with
  | zero =>
    intro q m s hqr hm hb
    obtain ⟨m, rfl⟩ : ∃ k, m = k + 1 := ⟨m - 1, by omega⟩
    have e : q = (T.pm n).qc := by omega
    rw [F_X11_reading_b13.eq_2, pq_bd1 (m_qc h v rs hn), if_pos (nI_le (by omega) (by omega))]
    rw [e] at hb
    exact ⟨s, rfl, hb⟩
  | succ r ih =>
    intro q m s hqr hm hb
    obtain ⟨m, rfl⟩ : ∃ k, m = k + 1 := ⟨m - 1, by omega⟩
    have hq : q < (T.pm n).qc := by omega
    have g := (vq v hn hq).2.2.2.1
    have hbn : bt s n = true := by rw [hb n h20, mk_k v hn (Nat.le_refl _) q (by omega)]; exact hf
    rw [F_X11_reading_b13.eq_2, pq_bd1 (m_qc h v rs hn), if_neg (nI_ge (by omega) (by omega)), bt_and (by omega), hbn, if_pos (by decide), pq_bd1 (m_source h v rs hn hq), pq_lt1, nI_1]
    exact ih (q + 1) m _ (by omega) (by omega) (fun k hk => by
      rw [bt_or (by omega) (by omega), hb k hk]; rfl)
theorem rb_out (h : sh_G G x) (v : vT T) {p : Nat} (hp : p < T.cnt) {S : pq_N} (rs : rA (S.1 (x + 1366)) (S.2 (x + 1367)) T) : ∀ (n i m : Nat) (s : Int32), i + n = p → n < m → bF s (rd_ T p i) → ∃ s', F_X11_reading_b6 G m S (x + 1365) s (nI n) = some (s', S) ∧ bF s' (rd_ T p p) := by
  have h20 := v20 v hp
  intro n
  induction n with
  | zero =>
    intro i m s hin hm hb
    obtain ⟨m, rfl⟩ : ∃ k, m = k + 1 := ⟨m - 1, by omega⟩
    have e : i = p := by omega
    rw [F_X11_reading_b6.eq_2, if_pos (by decide)]
    rw [e] at hb
    exact ⟨s, rfl, hb⟩
  | succ n ih =>
    intro i m s hin hm hb
    obtain ⟨m, rfl⟩ : ∃ k, m = k + 1 := ⟨m - 1, by omega⟩
    have ek : p - i = n + 1 := by omega
    have hn : n + 1 < T.cnt := by omega
    have h16 := v16 v hn
    have em : nI (n + 1) + (-1 : Int32) = nI n := by rw [← Int32.sub_eq_add_neg, nI_pred]
    rw [F_X11_reading_b6.eq_2, if_neg (nI_nle (by omega) (by omega))]
    by_cases c : rd_ T p i (p - i) = true
    · have e : rd_ T p (i + 1) = mk_ T (p - i) (rd_ T p i) (T.pm (p - i)).qc := if_pos c
      rw [ek] at c e
      obtain ⟨s', q1, q2⟩ := rb_in h v hn (f := rd_ T p i) c rs (c6 := F_X11_reading_b6 G m) (T.pm (n + 1)).qc 0 pq_fuel s (by omega) (fuel_lt (by omega)) hb
      obtain ⟨s2, k1, k2⟩ := ih (i + 1) m s' (by omega) (by omega) (by rw [e]; exact q2)
      refine ⟨s2, ?_, k2⟩
      rw [← k1, ← em]
      exact q1
    · have e : rd_ T p (i + 1) = rd_ T p i := if_neg c
      have c' : rd_ T p i (p - i) = false := by simpa using c
      rw [ek] at c'
      obtain ⟨s2, k1, k2⟩ := ih (i + 1) m s (by omega) (by omega) (by rw [e]; exact hb)
      refine ⟨s2, ?_, k2⟩
      have hbn : bt s (n + 1) = false := by rw [hb _ (by omega)]; exact c'
      rw [show pq_fuel = 99999 + 1 from rfl, F_X11_reading_b13.eq_2, pq_bd1 (m_qc h v rs hn), bt_and (by omega), hbn, em]
      by_cases z : nI (T.pm (n + 1)).qc ≤ (0 : Int32)
      · rw [if_pos z]; exact k1
      · rw [if_neg z, if_neg (by decide)]; exact k1
theorem rd_last (v : vT T) {p : Nat} (hp : p < T.cnt) : rd T p = rd_ T p p := by
  have e0 : p - p = 0 := Nat.sub_self p
  have hq : (T.pm 0).qc = 0 := by
    rcases Nat.eq_zero_or_pos (T.pm 0).qc with z | z
    · exact z
    · have := (vq v (j := 0) (by omega) z).2.2.2.1
      omega
  unfold rd
  by_cases c : rd_ T p p (p - p) = true
  · have e : rd_ T p (p + 1) = mk_ T (p - p) (rd_ T p p) (T.pm (p - p)).qc := if_pos c
    rw [e, e0, hq]; rfl
  · have e : rd_ T p (p + 1) = rd_ T p p := if_neg c
    exact e
theorem m_reading (h : sh_G G x) (v : vT T) {p : Nat} (hp : p < T.cnt) {S : pq_N} (rs : rA (S.1 (x + 1366)) (S.2 (x + 1367)) T) : ∃ s, F_X11_reading G S (x + 1365) (nI p) = some (s, S) ∧ bF s (rd T p) := by
  have h20 := v20 v hp
  rw [rd_last v hp]
  exact rb_out h v hp rs p 0 pq_fuel _ (by omega) (fuel_lt (by omega)) (fun k hk => bt_one (by omega) (by omega))
/-! how many -/
theorem rd_k (v : vT T) {p k : Nat} (hp : p < T.cnt) (hk : k ≤ p) : ∀ d, p - k + d ≤ p + 1 → rd_ T p (p - k + d) k = rd_ T p (p - k) k
  | 0, _ => rfl
  | d + 1, hd => by
    have ih := rd_k v hp hk d (by omega)
    by_cases c : rd_ T p (p - k + d) (p - (p - k + d)) = true
    · have e : rd_ T p (p - k + (d + 1)) = mk_ T (p - (p - k + d)) (rd_ T p (p - k + d)) (T.pm (p - (p - k + d))).qc := if_pos c
      rw [e, mk_k v (by omega) (by omega) _ (Nat.le_refl _)]
      exact ih
    · have e : rd_ T p (p - k + (d + 1)) = rd_ T p (p - k + d) := if_neg c
      rw [e]; exact ih
theorem rd_gt (v : vT T) {p k : Nat} (hp : p < T.cnt) (hk : p < k) : ∀ i, rd_ T p i k = false
  | 0 => by
    show (k == p) = false
    simpa using (by omega : k ≠ p)
  | i + 1 => by
    by_cases c : rd_ T p i (p - i) = true
    · have e : rd_ T p (i + 1) = mk_ T (p - i) (rd_ T p i) (T.pm (p - i)).qc := if_pos c
      rw [e, mk_k v (by omega) (by omega) _ (Nat.le_refl _)]
      exact rd_gt v hp hk i
    · have e : rd_ T p (i + 1) = rd_ T p i := if_neg c
      rw [e]; exact rd_gt v hp hk i
theorem rc_su (v : vT T) {p : Nat} (hp : p < T.cnt) : ∀ i, i ≤ p + 1 → rc_ T p i + su (fun k => bN (rd T p k)) (p + 1 - i) = su (fun k => bN (rd T p k)) (p + 1)
  | 0, _ => by show 0 + _ = _; rw [Nat.zero_add]; rfl
  | i + 1, hi => by
    have ih := rc_su v hp i (by omega)
    have es : p + 1 - i = (p - i) + 1 := by omega
    rw [es] at ih
    have ih' : rc_ T p i + (su (fun k => bN (rd T p k)) (p - i) + bN (rd T p (p - i))) = su (fun k => bN (rd T p k)) (p + 1) := ih
    have ek : rd T p (p - i) = rd_ T p i (p - i) := by
      have z := rd_k v hp (k := p - i) (by omega) (p + 1 - i) (by omega)
      rw [show p - (p - i) = i from by omega, show i + (p + 1 - i) = p + 1 from by omega] at z
      exact z
    rw [show p + 1 - (i + 1) = p - i from by omega]
    rw [ek] at ih'
    by_cases c : rd_ T p i (p - i) = true
    · have e : rc_ T p (i + 1) = rc_ T p i + 1 := if_pos c
      have e1 : bN (rd_ T p i (p - i)) = 1 := by rw [c]; rfl
      rw [e]; omega
    · have e : rc_ T p (i + 1) = rc_ T p i := if_neg c
      have c' : rd_ T p i (p - i) = false := by simpa using c
      have e1 : bN (rd_ T p i (p - i)) = 0 := by rw [c']; rfl
      rw [e]; omega
theorem su_more {f : Nat → Nat} {a : Nat} (h : ∀ k, a ≤ k → f k = 0) : ∀ d, su f (a + d) = su f a
  | 0 => rfl
  | d + 1 => by
    show su f (a + d) + f (a + d) = su f a
    rw [su_more h d, h (a + d) (by omega), Nat.add_zero]
theorem rc_20 (v : vT T) {p : Nat} (hp : p < T.cnt) : su (fun k => bN (rd T p k)) 20 = rc_ T p (p + 1) := by
  have h20 := v20 v hp
  have e := rc_su v hp (p + 1) (Nat.le_refl _)
  rw [Nat.sub_self] at e
  have e' : rc_ T p (p + 1) = su (fun k => bN (rd T p k)) (p + 1) := e
  have m := su_more (f := fun k => bN (rd T p k)) (a := p + 1) (fun k hk => by
    have z : rd T p k = false := rd_gt v hp (by omega) (p + 1)
    show bN (rd T p k) = 0
    rw [z]; rfl) (20 - (p + 1))
  rw [show p + 1 + (20 - (p + 1)) = 20 from by omega] at m
  rw [m, e']
theorem m_many' {s : Int32} {f : Nat → Bool} {S : pq_N} (hb : bF s f) : ∀ (r k m : Nat), k + r = 20 → r < m → F_X11_many_b4 G m S s (nI (su (fun k => bN (f k)) k)) (nI k) = some (nI (su (fun k => bN (f k)) 20), S) := by
  intro r
  induction r with
  | zero =>
    intro k m hkr hm
    obtain ⟨m, rfl⟩ : ∃ k, m = k + 1 := ⟨m - 1, by omega⟩
    have e : k = 20 := by omega
    subst e
    rw [F_X11_many_b4.eq_2, if_pos (by decide)]
  | succ r ih =>
    intro k m hkr hm
    obtain ⟨m, rfl⟩ : ∃ k, m = k + 1 := ⟨m - 1, by omega⟩
    rw [F_X11_many_b4.eq_2, show (20 : Int32) = nI 20 from rfl, if_neg (nI_ge (by omega) (by omega)), bt_and (by omega), hb k (by omega), nI_add, nI_1, pq_lt1]
    exact ih (k + 1) m (by omega) (by omega)
theorem m_manyOf {s : Int32} {f : Nat → Bool} {S : pq_N} (hb : bF s f) : F_X11_many G S s = some (nI (su (fun k => bN (f k)) 20), S) := m_many' hb 20 0 pq_fuel (by omega) (fuel_lt (by omega))
/-! the k-th -/
def cnt_ (f : Nat → Bool) (n : Nat) : Nat → Nat
  | 0 => 0
  | r + 1 => bN (f n) + cnt_ f (n + 1) r
theorem cnt_su {f : Nat → Bool} : ∀ r n, cnt_ f n r + su (fun k => bN (f k)) n = su (fun k => bN (f k)) (n + r)
  | 0, n => by show 0 + _ = _; rw [Nat.zero_add]; rfl
  | r + 1, n => by
    have h := cnt_su (f := f) r (n + 1)
    have e : su (fun k => bN (f k)) (n + 1) = su (fun k => bN (f k)) n + bN (f n) := rfl
    rw [e, show n + 1 + r = n + (r + 1) from by omega] at h
    show bN (f n) + cnt_ f (n + 1) r + _ = _
    omega
theorem ra_loop {s : Int32} {f : Nat → Bool} {S : pq_N} (hb : bF s f) {k : Nat} (hk : k < 1000) : ∀ (r n t m m2 : Nat), n + r = 20 → t ≤ k → k - t < cnt_ f n r → r < m → r < m2 →
    F_X11_readAt_b61 G (F_X11_readAt_b52 G m2) m S (nI k) s (nI n) (nI t) = some (kth f (k - t) n r, S) := by
  intro r
  induction r with
  | zero =>
    intro n t m m2 hnr ht hc
    exact absurd hc (Nat.not_lt_zero _)
  | succ r ih =>
    intro n t m m2 hnr ht hc hm hm2
    obtain ⟨m, rfl⟩ : ∃ k, m = k + 1 := ⟨m - 1, by omega⟩
    have hc' : k - t < bN (f n) + cnt_ f (n + 1) r := hc
    rw [F_X11_readAt_b61.eq_2, bt_and (by omega), hb n (by omega), nI_1, nI_1]
    by_cases c : f n = true
    · have e1 : bN (f n) = 1 := by rw [c]; rfl
      have ek : kth f (k - t) n (r + 1) = if k - t = 0 then nI n else kth f (k - t - 1) (n + 1) r := if_pos c
      obtain ⟨m2, rfl⟩ : ∃ k, m2 = k + 1 := ⟨m2 - 1, by omega⟩
      rw [e1, if_neg (by decide), F_X11_readAt_b52.eq_2, if_ltI (by omega) (by omega), ek]
      by_cases c2 : k < t + 1
      · rw [if_pos c2, if_pos (by omega)]
      · have h9 := ih (n + 1) (t + 1) pq_fuel m2 (by omega) (by omega) (by omega) (fuel_lt (by omega)) (by omega)
        rw [if_neg c2, if_neg (by omega), nI_1, h9, show k - (t + 1) = k - t - 1 from by omega]
    · have c' : f n = false := by simpa using c
      have e1 : bN (f n) = 0 := by rw [c']; rfl
      have ek : kth f (k - t) n (r + 1) = kth f (k - t) (n + 1) r := if_neg c
      rw [e1, if_pos (by decide), ek]
      exact ih (n + 1) t m m2 (by omega) ht (by omega) (by omega) (by omega)
theorem m_kth {s : Int32} {f : Nat → Bool} {S : pq_N} (hb : bF s f) {k : Nat} (hk : k < su (fun k => bN (f k)) 20) : F_X11_readAt_b52 G pq_fuel S (nI k) s (-1 : Int32) (0 : Int32) = some (kth f k 0 20, S) := by
  have e := cnt_su (f := f) 20 0
  have e' : cnt_ f 0 20 + 0 = su (fun k => bN (f k)) 20 := by
    rw [show 0 + 20 = 20 from rfl] at e
    exact e
  have hb20 : su (fun k => bN (f k)) 20 ≤ 1 * 20 := su_le (fun i _ => by
    show bN (f i) ≤ 1
    cases f i <;> decide)
  have h9 := ra_loop (G := G) (S := S) hb (k := k) (by omega) 20 0 0 pq_fuel 99999 (by omega) (by omega) (by omega) (fuel_lt (by omega)) (by omega)
  rw [Nat.sub_zero] at h9
  rw [show pq_fuel = 99999 + 1 from rfl, F_X11_readAt_b52.eq_2, if_neg (show ¬ nI k < 0 from nI_pos (by omega)), show (-1 : Int32) + 1 = nI 0 from by decide]
  exact h9
end MR
