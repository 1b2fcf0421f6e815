/-! MENDING -/
theorem nI_ags {a b c : Nat} (h : c ≤ a + b) : nI a + (nI b - nI c) = nI (a + b - c) := by
  rw [Int32.sub_eq_add_neg, ← Int32.add_assoc, ← Int32.sub_eq_add_neg, nI_add, nI_sub h]
/-- the quotation q of P becomes the l words of Q from a on -/
def mdP (P : tP) (q : Nat) (Q : tP) (a l : Nat) : tP := mP P.au P.pd (P.wc + l - P.ql q) P.qc (fun j => if j < P.qb q then P.w j else if j < P.qb q + l then Q.w (a + (j - P.qb q)) else P.w (j + P.ql q - l)) P.qs (fun k => if q < k then P.qb k + l - P.ql q else P.qb k) (fun k => if k = q then l else P.ql k)
def mdT (T : tT) (j q : Nat) : tT := mT T.cnt T.day (fun k => if k = j then mdP (T.pm j) q (T.pm (zs T j q)) (zA T j q) (zL T j q) else T.pm k)
/-- whether there is room -/
def mdR (T : tT) (j q : Nat) : Prop := (T.pm j).wc + zL T j q - (T.pm j).ql q ≤ 60
theorem vP_md {j q a l : Nat} {P Q : tP} (v : vP j P) (hq : q < P.qc) (hl : 1 ≤ l) (hr : P.wc + l - P.ql q ≤ 60) : vP j (mdP P q Q a l) := by
  obtain ⟨v1, v2, v3, v4⟩ := v
  have hv := v4 q hq
  refine ⟨show 1 ≤ P.wc + l - P.ql q by omega, hr, v3, fun k hk => ?_⟩
  have hk' : k < P.qc := hk
  have vk := v4 k hk'
  refine ⟨vk.1, ?_, ?_, fun k' h1 h2 => ?_⟩
  · show 1 ≤ if k = q then l else P.ql k
    split <;> omega
  · show (if q < k then P.qb k + l - P.ql q else P.qb k) + (if k = q then l else P.ql k) ≤ P.wc + l - P.ql q
    have a1 := hv.2.2.2 k
    have a2 := vk.2.2.2 q
    rcases Nat.lt_trichotomy k q with c | c | c
    · rw [if_neg (by omega), if_neg (by omega)]
      have := a2 c hq
      omega
    · rw [if_neg (by omega), if_pos c]
      subst c; omega
    · rw [if_pos c, if_neg (by omega)]
      have := a1 c hk'
      omega
  · have h2' : k' < P.qc := h2
    show (if q < k then P.qb k + l - P.ql q else P.qb k) + (if k = q then l else P.ql k) ≤ (if q < k' then P.qb k' + l - P.ql q else P.qb k')
    have a0 := vk.2.2.2 k' h1 h2'
    have a1 := hv.2.2.2 k
    rcases Nat.lt_trichotomy k q with c | c | c
    · rw [if_neg (by omega), if_neg (by omega)]
      by_cases c2 : q < k'
      · rw [if_pos c2]
        have := hv.2.2.2 k' c2 h2'
        have := vk.2.2.2 q c hq
        omega
      · rw [if_neg c2]; exact a0
    · rw [if_neg (by omega), if_pos c, if_pos (by omega)]
      subst c
      omega
    · rw [if_pos c, if_neg (by omega), if_pos (by omega)]
      have := a1 c hk'
      omega
theorem vT_md {T : tT} (v : vT T) {j q : Nat} (hj : j < T.cnt) (hq : q < (T.pm j).qc) (hr : mdR T j q) : vT (mdT T j q) := by
  refine ⟨v.1, fun k hk => ?_⟩
  have hk' : k < T.cnt := hk
  show vP k (if k = j then mdP (T.pm j) q (T.pm (zs T j q)) (zA T j q) (zL T j q) else T.pm k)
  by_cases c : k = j
  · rw [if_pos c, c]
    exact vP_md (v.2 j hj) hq (vx v hj hq).1 hr
  · rw [if_neg c]; exact v.2 k hk'
section CM
variable {G : pq_G} {x : Nat}
theorem c_move (h : sh_G G x) {S : pq_N} {p a b n : Nat} (hp : pq_ok G 4 p) (ha : a + n ≤ 60) (hb : b + n ≤ 60) : ∃ S1, F_X7_move G S (pq_r G p 0) (nI a) (nI b) (nI n) = some ((), S1) ∧ S1.1 = S.1 ∧ (∀ c, c ≠ p + 2 → S1.2 c = S.2 c) ∧ ∀ j, S1.2 (p + 2) j = if b ≤ j ∧ j < b + n then S.2 (p + 2) (a + (j - b)) else S.2 (p + 2) j := by
  have k := sh_Pp h hp
  unfold F_X7_move
  rw [k.1.1, k.2.1.1, k.2.1.2, if_neg (nI_pos (by omega)), if_neg (nI_pos (by omega))]
  rcases Nat.eq_zero_or_pos n with h0 | h0
  · subst h0
    rw [if_pos (by decide)]
    refine ⟨S, rfl, rfl, fun _ _ => rfl, fun j => ?_⟩
    rw [if_neg (by omega)]
  · rw [if_neg (nI_nle h0 (by omega)), nI_sub (by omega), nI_sub (by omega), if_neg (nI_nlt (by omega) (by omega)), if_neg (nI_nlt (by omega) (by omega)), if_neg (nI_pos (by omega)), if_neg (nI_pos (by omega)), if_neg (nI_pos (by omega)), nI_clamp (by omega), nI_clamp (by omega), nI_clamp (by omega), if_neg (by omega), if_neg (by omega)]
    refine ⟨_, rfl, rfl, fun c hc => ?_, fun j => ?_⟩
    · simp [pq_wr, hc]
    · simp [pq_wr, va_cpy]
theorem rp_119 (h : sh_G G x) {p l c : Nat} {qb : Nat → Nat} {qc q : Nat} (hp : pq_ok G 4 p) (hc : qc ≤ 16) : ∀ (r k n : Nat) (S : pq_N), k + r = qc → r < n → q < k → S.1 p 7 = nI qc → (∀ i, q < i → i < qc → c ≤ qb i + l ∧ qb i + l ≤ 1000) → (∀ i, k ≤ i → i < qc → S.2 (p + 6) i = lN (qb i)) →
    ∃ S1, F_X4_replace_b119 G n S p (nI l - nI c) (nI k) = some ((), S1) ∧ S1.1 = S.1 ∧ (∀ b, b ≠ p + 6 → S1.2 b = S.2 b) ∧ (∀ i, i < k → S1.2 (p + 6) i = S.2 (p + 6) i) ∧ ∀ i, k ≤ i → i < qc → S1.2 (p + 6) i = lN (qb i + l - c) := by
  intro r
  induction r with
  | zero =>
    intro k n S hkr hn hqk e7 hb done
    obtain ⟨n, rfl⟩ : ∃ k, n = k + 1 := ⟨n - 1, by omega⟩
    rw [F_X4_replace_b119.eq_2, e7, if_pos (nI_le (by omega) (by omega))]
    exact ⟨S, rfl, rfl, fun _ _ => rfl, fun _ _ => rfl, fun i h1 h2 => by omega⟩
  | succ r ih =>
    intro k n S hkr hn hqk e7 hb done
    obtain ⟨n, rfl⟩ : ∃ k, n = k + 1 := ⟨n - 1, by omega⟩
    have hk := hb k (by omega) (by omega)
    rw [F_X4_replace_b119.eq_2, e7, if_neg (nI_ge (by omega) (by omega)), pq_bd1 (f_beg h hp (by omega)), done k (by omega) (by omega), lN_i, nI_ags hk.1, nI_l (by omega), pq_bd1 (f_pbeg h hp (by omega)), nI_1]
    obtain ⟨S1, q1, q2, q3, q4, q5⟩ := ih (k + 1) n (pq_wj S (p + 6) k (lN (qb k + l - c))) (by omega) (by omega) (by omega) e7 hb (fun i h1 h2 => by rw [wj_k (by omega)]; exact done i (by omega) h2)
    refine ⟨S1, q1, q2, fun b hb => ?_, fun i hi => ?_, fun i h1 h2 => ?_⟩
    · rw [q3 b hb, wj_a hb]
    · rw [q4 i (by omega), wj_k (by omega)]
    · rcases Nat.lt_or_ge k i with c1 | c1
      · exact q5 i (by omega) h2
      · have : i = k := by omega
        subst this
        rw [q4 i (by omega), wj_s]
theorem c_replace (h : sh_G G x) {S : pq_N} {p p' q a l j : Nat} {P Q : tP} (hp : pq_ok G 4 p) (hp' : pq_ok G 4 p') (hd : p + 9 ≤ p' ∨ p' + 9 ≤ p) (vp : vP j P) (hq : q < P.qc) (hl : 1 ≤ l) (hal : a + l ≤ Q.wc) (hQ : Q.wc ≤ 60) (hr : P.wc + l - P.ql q ≤ 60) (rp : rP S p P) (rq : rP S p' Q) :
    ∃ S1, F_X4_replace G S p (nI q) p' (nI a) (nI l) = some ((), S1) ∧ fr p (p + 9) S S1 ∧ rP S1 p (mdP P q Q a l) := by
  have k := sh_Pp h hp
  have v4 := vp.2.2.2 q hq
  have vc := vp.2.2.1
  have vw := vp.2.1
  have hg : F_X4_growth G S p (nI q) (nI l) = some (nI l - nI (P.ql q), S) := by
    unfold F_X4_growth
    rw [pq_bd1 (g_len h hp rp vc hq)]
  obtain ⟨S1, m1, m2, m3, m4⟩ := c_move h (S := S) (p := p) (a := P.qb q + P.ql q) (b := P.qb q + l) (n := P.wc - (P.qb q + P.ql q)) hp (by omega) (by omega)
  -- the words come, one by one
  have loop : ∀ (r i n : Nat) (U : pq_N), i + r = l → r < n → U.1 = S.1 → (∀ b, b ≠ p + 2 → U.2 b = S.2 b) → (∀ t, U.2 (p + 2) t = if P.qb q ≤ t ∧ t < P.qb q + i then Q.w (a + (t - P.qb q)) else S1.2 (p + 2) t) →
      ∃ S2, F_X4_replace_b56 G n U p (nI q) p' (nI a) (nI l) (nI (P.qb q)) (nI l - nI (P.ql q)) (nI i) = some ((), S2) ∧ fr p (p + 9) S S2 ∧ rP S2 p (mdP P q Q a l) := by
    intro r
    induction r with
    | zero =>
      intro i n U hir hn u1 u2 u3
      obtain ⟨n, rfl⟩ : ∃ k, n = k + 1 := ⟨n - 1, by omega⟩
      have ei : i = l := by omega
      subst ei
      have e6 : S.1 p 6 + (nI i - nI (P.ql q)) = nI (P.wc + i - P.ql q) := by rw [rp.2.2.1, nI_ags (by omega)]
      rw [F_X4_replace_b56.eq_2, if_pos (nI_le (by omega) (by omega)), pq_lt1, u1, e6, nI_l (by omega), pq_bd1 (f_plen h hp (by omega)), nI_1]
      obtain ⟨S3, q1, q2, q3, q4, q5⟩ := rp_119 h (p := p) (l := i) (c := P.ql q) (qb := P.qb) (qc := P.qc) (q := q) hp vc (P.qc - (q + 1)) (q + 1) pq_fuel (pq_wj (pq_wi U p 6 (nI (P.wc + i - P.ql q))) (p + 8) q (lN i)) (by omega) (fuel_lt (by omega)) (by omega) (by rw [wj_1, wi_k (by decide), u1]; exact rp.2.2.2.1) (fun t h1 h2 => by
          have := v4.2.2.2 t h1 h2
          have := (vp.2.2.2 t h2).2.2.1
          omega) (fun t h1 h2 => by rw [wj_a (by omega), wi_2, u2 _ (by omega)]; exact rp.2.2.2.2.2.2.1 t h2)
      refine ⟨S3, q1, fun b hb => ⟨?_, ?_⟩, ?_⟩
      · rw [q2, wj_1, wi_a (by omega), u1]
      · rw [q3 b (by omega), wj_a (by omega), wi_2, u2 b (by omega)]
      · unfold rP
        rw [q2, wj_1]
        refine ⟨by rw [wi_k (by decide), u1]; exact rp.1, by rw [wi_k (by decide), u1]; exact rp.2.1, wi_s, by rw [wi_k (by decide), u1]; exact rp.2.2.2.1, fun t ht => ?_, fun t ht => ?_, fun t ht => ?_, fun t ht => ?_⟩
        · rw [q3 _ (by omega), wj_a (by omega), wi_2, u3 t]
          have ht' : t < P.wc + i - P.ql q := ht
          show _ = if t < P.qb q then P.w t else if t < P.qb q + i then Q.w (a + (t - P.qb q)) else P.w (t + P.ql q - i)
          by_cases c1 : t < P.qb q
          · rw [if_neg (by omega), if_pos c1, m4 t, if_neg (by omega)]
            exact rp.2.2.2.2.1 t (by omega)
          · rw [if_neg c1]
            by_cases c2 : t < P.qb q + i
            · rw [if_pos ⟨by omega, c2⟩, if_pos c2]
            · rw [if_neg (by omega), if_neg c2, m4 t, if_pos (by omega)]
              have et : P.qb q + P.ql q + (t - (P.qb q + i)) = t + P.ql q - i := by omega
              rw [et]
              exact rp.2.2.2.2.1 _ (by omega)
        · rw [q3 _ (by omega), wj_a (by omega), wi_2, u2 _ (by omega)]
          exact rp.2.2.2.2.2.1 t ht
        · have ht' : t < P.qc := ht
          show _ = lN (if q < t then P.qb t + i - P.ql q else P.qb t)
          by_cases c1 : q < t
          · rw [if_pos c1, q5 t (by omega) ht']
          · rw [if_neg c1, q4 t (by omega), wj_a (by omega), wi_2, u2 _ (by omega)]
            exact rp.2.2.2.2.2.2.1 t ht'
        · have ht' : t < P.qc := ht
          show _ = lN (if t = q then i else P.ql t)
          rw [q3 _ (by omega)]
          by_cases c1 : t = q
          · rw [if_pos c1, c1, wj_s]
          · rw [if_neg c1, wj_k c1, wi_2, u2 _ (by omega)]
            exact rp.2.2.2.2.2.2.2 t ht'
    | succ r ih =>
      intro i n U hir hn u1 u2 u3
      obtain ⟨n, rfl⟩ : ∃ k, n = k + 1 := ⟨n - 1, by omega⟩
      have k' := sh_Pp h hp'
      have ew : F_X7_at G U (pq_r G p' 0) (nI a + nI i) = some (Q.w (a + i), U) := by
        rw [nI_add, f_word h hp' (by omega), u2 _ (by omega), rq.2.2.2.2.1 _ (by omega)]
      rw [F_X4_replace_b56.eq_2, if_neg (nI_ge (by omega) (by omega)), pq_bd1 ew, nI_add, pq_bd1 (f_pword h hp (by omega)), nI_1]
      refine ih (i + 1) n (pq_wj U (p + 2) (P.qb q + i) (Q.w (a + i))) (by omega) (by omega) u1 (fun b hb => by rw [wj_a hb]; exact u2 b hb) (fun t => ?_)
      by_cases c : t = P.qb q + i
      · rw [c, wj_s, if_pos (by omega)]
        congr 1; omega
      · rw [wj_k c, u3 t]
        by_cases c2 : P.qb q ≤ t ∧ t < P.qb q + i
        · rw [if_pos c2, if_pos (by omega)]
        · rw [if_neg c2, if_neg (by omega)]
  unfold F_X4_replace
  rw [pq_bd1 (g_beg h hp rp vc hq), pq_bd1 (g_len h hp rp vc hq), pq_bd1 hg, nI_add, nI_ags (by omega), rp.2.2.1, nI_sub (by omega)]
  have e : P.qb q + P.ql q + l - P.ql q = P.qb q + l := by omega
  rw [e, pq_bd1 m1]
  exact loop l 0 pq_fuel S1 (by omega) (fuel_lt (by omega)) m2 m3 (fun t => by rw [if_neg (by omega)])
theorem c_room (h : sh_G G x) {S : pq_N} {T : tT} {j q : Nat} (v : vT T) (r : rS S x 0 T) (hj : j < T.cnt) (hq : q < (T.pm j).qc) (e3 : S.1 (x + 1354) 3 = nI (zL T j q)) : F_X5_isRoomFor G S (x + 1353) (x + 1) (nI j) (nI q) = some (nI (if (T.pm j).wc + zL T j q - (T.pm j).ql q ≤ 60 then 1 else 0), S) := by
  have g := vq v hj hq
  have x1 := vx v hj hq
  have hp := sh_pok (i := 0) (j := j) h (by decide) g.1
  have hg : F_X4_growth G S (sh_p x 0 j) (nI q) (nI (zL T j q)) = some (nI (zL T j q) - nI ((T.pm j).ql q), S) := by
    unfold F_X4_growth
    rw [pq_bd1 (g_len h hp (r.2.2 j hj) g.2.2.1 hq)]
  unfold F_X5_isRoomFor
  rw [pq_bd1 (f_sat0 h g.1), (sh_se h).1, e3, pq_bd1 hg, r_wc r hj, nI_ags (by omega), show (60 : Int32) = nI 60 from rfl, if_ltI (by omega) (by omega)]
  by_cases c : (T.pm j).wc + zL T j q - (T.pm j).ql q ≤ 60
  · rw [if_neg (by omega), if_pos c]; rfl
  · rw [if_pos (by omega), if_neg c]; rfl
theorem c_putRight (h : sh_G G x) {S : pq_N} {T : tT} {j q : Nat} (v : vT T) (r : rS S x 0 T) (hj : j < T.cnt) (hq : q < (T.pm j).qc) (hr : mdR T j q) (e2 : S.1 (x + 1354) 2 = nI (zA T j q)) (e3 : S.1 (x + 1354) 3 = nI (zL T j q)) : ∃ S1, F_X5_putRight G S (x + 1353) (x + 1) (nI j) (nI q) = some ((), S1) ∧ fr (x + 1) (x + 192) S S1 ∧ rS S1 x 0 (mdT T j q) := by
  have g := vq v hj hq
  have x1 := vx v hj hq
  have hp := sh_pok (i := 0) (j := j) h (by decide) g.1
  have hp' := sh_pok (i := 0) (j := zs T j q) h (by decide) (by omega)
  have s0 : sh_s x 0 = x + 1 := rfl
  have ep : ∀ k, sh_p x 0 k = x + 1 + 11 + 9 * k := fun k => rfl
  have ej := ep j
  have ez := ep (zs T j q)
  obtain ⟨S1, q1, q2, q3⟩ := c_replace h (S := S) (q := q) (a := zA T j q) (l := zL T j q) hp hp' (by omega) (v.2 j hj) hq x1.1 x1.2.1 g.2.2.2.2.2.2.2 hr (r.2.2 j hj) (r.2.2 (zs T j q) (by omega))
  unfold F_X5_putRight
  rw [pq_bd1 (f_sat0 h g.1), pq_bd1 (g_src0 h v r hj hq), pq_bd1 (f_sat0 (j := zs T j q) h (by omega)), (sh_se h).1, e2, e3, pq_bd1 q1]
  have f1 : fr (x + 1) (x + 192) S S1 := fr_mo q2 (by omega) (by omega)
  refine ⟨S1, rfl, f1, ?_, ?_, fun k hk => ?_⟩
  · rw [(q2 (sh_s x 0) (by omega)).1]; exact r.1
  · rw [(q2 (sh_s x 0) (by omega)).1]; exact r.2.1
  · have hk' : k < T.cnt := hk
    show rP S1 (sh_p x 0 k) (if k = j then mdP (T.pm j) q (T.pm (zs T j q)) (zA T j q) (zL T j q) else T.pm k)
    by_cases c : k = j
    · rw [if_pos c, c]; exact q3
    · rw [if_neg c]
      have ek := ep k
      exact rP_fr q2 (by omega) (r.2.2 k hk')
/-- all quotations of j, the first i of them: what is mended, and how many -/
def mq (T : tT) (j : Nat) : Nat → tT × Nat
  | 0 => (T, 0)
  | i + 1 => if 0 < zD (mq T j i).1 j i ∧ ((mq T j i).1.pm j).wc + zL (mq T j i).1 j i - ((mq T j i).1.pm j).ql i ≤ 60 then (mdT (mq T j i).1 j i, (mq T j i).2 + 1) else mq T j i
theorem mq_v {T : tT} (v : vT T) {j : Nat} (hj : j < T.cnt) : ∀ {i : Nat}, i ≤ (T.pm j).qc → vT (mq T j i).1 ∧ (mq T j i).1.cnt = T.cnt ∧ ((mq T j i).1.pm j).qc = (T.pm j).qc
  | 0, _ => ⟨v, rfl, rfl⟩
  | i + 1, hi => by
    obtain ⟨h1, h2, h3⟩ := mq_v v hj (i := i) (by omega)
    by_cases c : 0 < zD (mq T j i).1 j i ∧ ((mq T j i).1.pm j).wc + zL (mq T j i).1 j i - ((mq T j i).1.pm j).ql i ≤ 60
    · have e : mq T j (i + 1) = (mdT (mq T j i).1 j i, (mq T j i).2 + 1) := if_pos c
      rw [e]
      refine ⟨vT_md h1 (by omega) (by omega) c.2, h2, ?_⟩
      show ((if j = j then mdP ((mq T j i).1.pm j) i ((mq T j i).1.pm (zs (mq T j i).1 j i)) (zA (mq T j i).1 j i) (zL (mq T j i).1 j i) else (mq T j i).1.pm j) : tP).qc = _
      rw [if_pos rfl]
      exact h3
    · have e : mq T j (i + 1) = mq T j i := if_neg c
      rw [e]; exact ⟨h1, h2, h3⟩
theorem mq_le {T : tT} {j : Nat} : ∀ i : Nat, (mq T j i).2 ≤ i
  | 0 => Nat.le_refl _
  | i + 1 => by
    have := mq_le (T := T) (j := j) i
    by_cases c : 0 < zD (mq T j i).1 j i ∧ ((mq T j i).1.pm j).wc + zL (mq T j i).1 j i - ((mq T j i).1.pm j).ql i ≤ 60
    · have e : mq T j (i + 1) = (mdT (mq T j i).1 j i, (mq T j i).2 + 1) := if_pos c
      rw [e]
      show (mq T j i).2 + 1 ≤ i + 1
      omega
    · have e : mq T j (i + 1) = mq T j i := if_neg c
      rw [e]; omega
theorem pa_loop (h : sh_G G x) {T : tT} (v : vT T) {j : Nat} (hj : j < T.cnt) : ∀ (r i n : Nat) (S : pq_N), i + r = (T.pm j).qc → r < n → rS S x 0 (mq T j i).1 →
    ∃ S1, F_X5_putAllRight_b15 G n S (x + 1353) (x + 1) (nI j) (nI (T.pm j).qc) (nI (mq T j i).2) (nI i) = some (nI (mq T j (T.pm j).qc).2, S1) ∧ (∀ b, (b < x + 1 ∨ (x + 192 ≤ b ∧ b < x + 1354) ∨ x + 1357 ≤ b) → S1.1 b = S.1 b ∧ S1.2 b = S.2 b) ∧ rS S1 x 0 (mq T j (T.pm j).qc).1 := by
  have h16 := v16 v hj
  intro r
  induction r with
  | zero =>
    intro i n S hir hn rs
    obtain ⟨n, rfl⟩ : ∃ k, n = k + 1 := ⟨n - 1, by omega⟩
    have e : i = (T.pm j).qc := by omega
    rw [F_X5_putAllRight_b15.eq_2, if_pos (nI_le (by omega) (by omega)), e]
    rw [e] at rs
    exact ⟨S, rfl, fun b _ => ⟨rfl, rfl⟩, rs⟩
  | succ r ih =>
    intro i n S hir hn rs
    obtain ⟨n, rfl⟩ : ∃ k, n = k + 1 := ⟨n - 1, by omega⟩
    obtain ⟨v1, c1, q1⟩ := mq_v v hj (i := i) (by omega)
    have hj1 : j < (mq T j i).1.cnt := by omega
    have hi1 : i < ((mq T j i).1.pm j).qc := by omega
    obtain ⟨S1, f1, f2, f3, f4⟩ := c_find h v1 rs hj1 hi1
    have hD := zD_lt v1 hj1 hi1
    have r1 := r0_fr f2 (by omega) v1 rs
    rw [F_X5_putAllRight_b15.eq_2, if_neg (nI_ge (by omega) (by omega)), pq_bd1 f1, show (0 : Int32) = nI 0 from rfl, if_leI (by omega) (by omega)]
    by_cases c : 0 < zD (mq T j i).1 j i ∧ ((mq T j i).1.pm j).wc + zL (mq T j i).1 j i - ((mq T j i).1.pm j).ql i ≤ 60
    · have e : mq T j (i + 1) = (mdT (mq T j i).1 j i, (mq T j i).2 + 1) := if_pos c
      obtain ⟨S2, g1, g2, g3⟩ := c_putRight h v1 r1 hj1 hi1 c.2 f3 f4
      rw [if_neg (by omega), pq_bd1 (c_room h v1 r1 hj1 hi1 f4), if_pos c.2, if_neg (by decide), pq_bd1 g1, nI_1, nI_1]
      obtain ⟨S3, k1, k2, k3⟩ := ih (i + 1) n S2 (by omega) (by omega) (by rw [e]; exact g3)
      rw [e] at k1
      refine ⟨S3, k1, fun b hb => ?_, k3⟩
      have a1 := k2 b hb
      have a2 := g2 b (by omega)
      have a3 := f2 b (by omega)
      exact ⟨by rw [a1.1, a2.1, a3.1], by rw [a1.2, a2.2, a3.2]⟩
    · have e : mq T j (i + 1) = mq T j i := if_neg c
      obtain ⟨S3, k1, k2, k3⟩ := ih (i + 1) n S1 (by omega) (by omega) (by rw [e]; exact r1)
      rw [e] at k1
      have fin : ∃ S4, F_X5_putAllRight_b15 G n S1 (x + 1353) (x + 1) (nI j) (nI (T.pm j).qc) (nI (mq T j i).2) (nI (i + 1)) = some (nI (mq T j (T.pm j).qc).2, S4) ∧ (∀ b, (b < x + 1 ∨ (x + 192 ≤ b ∧ b < x + 1354) ∨ x + 1357 ≤ b) → S4.1 b = S.1 b ∧ S4.2 b = S.2 b) ∧ rS S4 x 0 (mq T j (T.pm j).qc).1 := by
        refine ⟨S3, k1, fun b hb => ?_, k3⟩
        have a1 := k2 b hb
        have a3 := f2 b (by omega)
        exact ⟨by rw [a1.1, a3.1], by rw [a1.2, a3.2]⟩
      by_cases c2 : zD (mq T j i).1 j i ≤ 0
      · rw [if_pos c2, nI_1]; exact fin
      · rw [if_neg c2, pq_bd1 (c_room h v1 r1 hj1 hi1 f4), if_neg (fun z => c ⟨by omega, z⟩), if_pos (by decide), nI_1]; exact fin
theorem c_putAll (h : sh_G G x) {T : tT} (v : vT T) {S : pq_N} {j : Nat} (hj : j < T.cnt) (rs : rS S x 0 T) : ∃ S1, F_X5_putAllRight G S (x + 1353) (x + 1) (nI j) = some (nI (mq T j (T.pm j).qc).2, S1) ∧ (∀ b, (b < x + 1 ∨ (x + 192 ≤ b ∧ b < x + 1354) ∨ x + 1357 ≤ b) → S1.1 b = S.1 b ∧ S1.2 b = S.2 b) ∧ rS S1 x 0 (mq T j (T.pm j).qc).1 := by
  unfold F_X5_putAllRight
  rw [pq_bd1 (f_sat0 h (v20 v hj)), r_qc rs hj]
  exact pa_loop h v hj (T.pm j).qc 0 pq_fuel S (by omega) (fuel_lt (by have := v16 v hj; omega)) rs
/-- all pamphlets, the first k of them -/
def mz (T : tT) : Nat → tT × Nat
  | 0 => (T, 0)
  | k + 1 => ((mq (mz T k).1 k ((mz T k).1.pm k).qc).1, (mz T k).2 + (mq (mz T k).1 k ((mz T k).1.pm k).qc).2)
theorem mz_v {T : tT} (v : vT T) : ∀ {k : Nat}, k ≤ T.cnt → vT (mz T k).1 ∧ (mz T k).1.cnt = T.cnt
  | 0, _ => ⟨v, rfl⟩
  | k + 1, hk => by
    obtain ⟨h1, h2⟩ := mz_v v (k := k) (by omega)
    obtain ⟨g1, g2, -⟩ := mq_v h1 (j := k) (by omega) (i := ((mz T k).1.pm k).qc) (Nat.le_refl _)
    exact ⟨g1, by show (mq (mz T k).1 k _).1.cnt = _; rw [g2, h2]⟩
end CM
