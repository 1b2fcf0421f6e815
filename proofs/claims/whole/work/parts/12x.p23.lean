/-! THE REFERENCE mends -/
section MD
variable {G : pq_G} {x : Nat} {T : tT}
/-- one word moves: w' as told, from the place a of the pamphlet j to the place b -/
theorem dm_77 (h : sh_G G x) {j a b : Nat} (hj : j < 20) (ha : a < 60) (hb : b < 60) {l c : Nat} (hl : c ≤ a + l) (eb : b = a + l - c) {S : pq_N} {c48 : pq_N → Nat → Int32 → Int32 → Int32 → Int32 → Int32 → Int32 → Int32 → Int32 → Option (Int32 × pq_N)} {x1 x2 x4 x5 x7 x8 : Int32} : F_X11_doMend_b77 G c48 S (x + 1365) x1 x2 (nI l - nI c) x4 x5 (nI (60 * j)) x7 x8 (nI a) = c48 (pq_wj S (x + 1367) (60 * j + b) (S.2 (x + 1367) (60 * j + a))) (x + 1365) x1 x2 (nI l - nI c) x4 x5 (nI (60 * j)) x7 (x8 + 1) := by
  have hw := (sh_mo h).2.1
  unfold F_X11_doMend_b77
  have e : nI (60 * j + a) + (nI l - nI c) = nI (60 * j + b) := by
    rw [nI_ags (by omega), eb]
    congr 1; omega
  rw [nI_add, e, hw.1, hw.2, nI_clamp (by omega), nI_clamp (by omega), if_neg (in_c (show 60 * j + a < 1200 by omega) (by omega)), if_neg (in_c (show 60 * j + b < 1200 by omega) (by omega)), pq_lt1]
theorem nI_le0 {l c : Nat} (hl : l < 1000) (hc : c < 1000) : (nI l - nI c ≤ (0 : Int32)) ↔ l ≤ c := by
  rcases Nat.lt_or_ge c l with z | z
  · rw [nI_sub (by omega)]
    constructor
    · intro q; exact absurd q (nI_nle (by omega) (by omega))
    · intro q; omega
  · refine ⟨fun _ => z, fun _ => ?_⟩
    obtain ⟨d, rfl⟩ : ∃ d, c = l + d := ⟨c - l, by omega⟩
    rw [Int32.le_iff_toInt_le]
    have e : (nI l - nI (l + d)).toInt = -(d : Int) := by
      rw [Int32.toInt_sub, nI_toInt (by omega), nI_toInt (by omega), Int.bmod_eq_of_le (by omega) (by omega)]
      omega
    rw [e]
    show -(d : Int) ≤ 0
    omega
/-- the tail moves: from the end of the quotation on -/
theorem dm_48 (h : sh_G G x) {j l c b0 wc : Nat} (hj : j < 20) (hw : wc ≤ 60) (hbc : b0 + c ≤ wc) (hr : wc + l - c ≤ 60) (hl : 1 ≤ l) (hl6 : l ≤ 60) (hc : 1 ≤ c) {S : pq_N} {x1 x2 : Int32} : ∀ (r k n : Nat) (U : pq_N), k + r = wc - (b0 + c) → r < n → U.1 = S.1 → (∀ b, b ≠ x + 1367 → U.2 b = S.2 b) → (∀ t, U.2 (x + 1367) t = if (l ≤ c ∧ 60 * j + (b0 + l) ≤ t ∧ t < 60 * j + (b0 + l) + k) ∨ (c < l ∧ 60 * j + (wc + l - c) - k ≤ t ∧ t < 60 * j + (wc + l - c)) then S.2 (x + 1367) (t + c - l) else S.2 (x + 1367) t) →
    ∃ S1, F_X11_doMend_b48 G n U (x + 1365) x1 x2 (nI l - nI c) (nI b0) (nI (b0 + c)) (nI (60 * j)) (nI wc) (nI k) = F_X11_doMend_b110 G pq_fuel S1 (x + 1365) x1 x2 (nI l - nI c) (nI b0) (nI (60 * j)) (nI wc) (0 : Int32) ∧ S1.1 = S.1 ∧ (∀ b, b ≠ x + 1367 → S1.2 b = S.2 b) ∧ ∀ t, S1.2 (x + 1367) t = if 60 * j + (b0 + l) ≤ t ∧ t < 60 * j + (wc + l - c) then S.2 (x + 1367) (t + c - l) else S.2 (x + 1367) t := by
  intro r
  induction r with
  | zero =>
    intro k n U hkr hn u1 u2 u3
    obtain ⟨n, rfl⟩ : ∃ k, n = k + 1 := ⟨n - 1, by omega⟩
    rw [F_X11_doMend_b48.eq_2, nI_sub (by omega), if_pos (nI_le (by omega) (by omega))]
    refine ⟨U, rfl, u1, u2, fun t => ?_⟩
    rw [u3 t]
    by_cases z : 60 * j + (b0 + l) ≤ t ∧ t < 60 * j + (wc + l - c)
    · rw [if_pos z, if_pos (by omega)]
    · rw [if_neg z, if_neg (by omega)]
  | succ r ih =>
    intro k n U hkr hn u1 u2 u3
    obtain ⟨n, rfl⟩ : ∃ k, n = k + 1 := ⟨n - 1, by omega⟩
    rw [F_X11_doMend_b48.eq_2, nI_sub (by omega), if_neg (nI_ge (by omega) (by omega))]
    by_cases z : l ≤ c
    · rw [if_pos ((nI_le0 (by omega) (by omega)).mpr z), nI_add, dm_77 h hj (a := b0 + c + k) (b := b0 + l + k) (by omega) (by omega) (by omega) (by omega), nI_1]
      refine ih (k + 1) n _ (by omega) (by omega) u1 (fun b hb => by rw [wj_a hb]; exact u2 b hb) (fun t => ?_)
      by_cases ct : t = 60 * j + (b0 + l + k)
      · rw [ct, wj_s, u3, if_neg (by omega), if_pos (by omega), show 60 * j + (b0 + l + k) + c - l = 60 * j + (b0 + c + k) from by omega]
      · rw [wj_k ct, u3 t]
        by_cases c2 : (l ≤ c ∧ 60 * j + (b0 + l) ≤ t ∧ t < 60 * j + (b0 + l) + k) ∨ (c < l ∧ 60 * j + (wc + l - c) - k ≤ t ∧ t < 60 * j + (wc + l - c))
        · rw [if_pos c2, if_pos (by omega)]
        · rw [if_neg c2, if_neg (by omega)]
    · rw [if_neg (fun q => z ((nI_le0 (by omega) (by omega)).mp q)), nI_sub1 (by omega), nI_sub (a := wc - 1) (b := k) (by omega), dm_77 h hj (a := wc - 1 - k) (b := wc + l - c - 1 - k) (by omega) (by omega) (by omega) (by omega), nI_1]
      refine ih (k + 1) n _ (by omega) (by omega) u1 (fun b hb => by rw [wj_a hb]; exact u2 b hb) (fun t => ?_)
      by_cases ct : t = 60 * j + (wc + l - c - 1 - k)
      · rw [ct, wj_s, u3, if_neg (by omega), if_pos (by omega), show 60 * j + (wc + l - c - 1 - k) + c - l = 60 * j + (wc - 1 - k) from by omega]
      · rw [wj_k ct, u3 t]
        by_cases c2 : (l ≤ c ∧ 60 * j + (b0 + l) ≤ t ∧ t < 60 * j + (b0 + l) + k) ∨ (c < l ∧ 60 * j + (wc + l - c) - k ≤ t ∧ t < 60 * j + (wc + l - c))
        · rw [if_pos c2, if_pos (by omega)]
        · rw [if_neg c2, if_neg (by omega)]
theorem dm_197 (h : sh_G G x) {j l c qc q : Nat} (hj : j < 20) (hq : qc ≤ 16) {qb : Nat → Nat} {S : pq_N} (e5 : S.1 (x + 1366) (52 * j + 5) = nI qc) (hb : ∀ i, q < i → i < qc → c ≤ qb i + l ∧ S.1 (x + 1366) (52 * j + (6 + 3 * i + 1)) = nI (qb i)) : ∀ (r k n : Nat) (U : pq_N), k + r = qc → q < k → r < n → U.2 = S.2 → (∀ b, b ≠ x + 1366 → U.1 b = S.1 b) → (∀ t, (∀ i, q < i → i < k → t ≠ 52 * j + (6 + 3 * i + 1)) → U.1 (x + 1366) t = S.1 (x + 1366) t) → (∀ i, q < i → i < k → U.1 (x + 1366) (52 * j + (6 + 3 * i + 1)) = nI (qb i + l - c)) →
    ∃ S1, F_X11_doMend_b197 G n U (x + 1365) (nI j) (nI l - nI c) (nI k) = some (S.1 (x + 1365) 14, S1) ∧ S1.2 = S.2 ∧ (∀ b, b ≠ x + 1366 → S1.1 b = S.1 b) ∧ (∀ t, (∀ i, q < i → i < qc → t ≠ 52 * j + (6 + 3 * i + 1)) → S1.1 (x + 1366) t = S.1 (x + 1366) t) ∧ ∀ i, q < i → i < qc → S1.1 (x + 1366) (52 * j + (6 + 3 * i + 1)) = nI (qb i + l - c) := by
  have hs := (sh_mo h).1
  intro r
  induction r with
  | zero =>
    intro k n U hkr hqk hn u1 u2 u3 u4
    obtain ⟨n, rfl⟩ : ∃ k, n = k + 1 := ⟨n - 1, by omega⟩
    have e : k = qc := by omega
    have e5' : U.1 (x + 1366) (52 * j + 5) = nI qc := by rw [u3 _ (fun i _ _ => by omega)]; exact e5
    rw [F_X11_doMend_b197.eq_2, show (5 : Int32) = nI 5 from rfl, m_get h (by omega), pq_bd1 rfl, e5', if_pos (nI_le (by omega) (by omega)), u2 _ (by omega)]
    rw [e] at u3 u4
    exact ⟨U, rfl, u1, u2, u3, u4⟩
  | succ r ih =>
    intro k n U hkr hqk hn u1 u2 u3 u4
    obtain ⟨n, rfl⟩ : ∃ k, n = k + 1 := ⟨n - 1, by omega⟩
    have e5' : U.1 (x + 1366) (52 * j + 5) = nI qc := by rw [u3 _ (fun i _ _ => by omega)]; exact e5
    have hk := hb k hqk (by omega)
    have ek : U.1 (x + 1366) (52 * j + (6 + 3 * k + 1)) = nI (qb k) := by rw [u3 _ (fun i _ _ => by omega)]; exact hk.2
    rw [F_X11_doMend_b197.eq_2, show (5 : Int32) = nI 5 from rfl, m_get h (by omega), pq_bd1 rfl, e5', if_neg (nI_ge (by omega) (by omega)), show (52 : Int32) = nI 52 from rfl, show (6 : Int32) = nI 6 from rfl, show (3 : Int32) = nI 3 from rfl, nI_mul, nI_mul, nI_add, nI_add, nI_1, nI_1, show 52 * j + 6 + 3 * k + 1 = 52 * j + (6 + 3 * k + 1) from by omega, hs.1, hs.2, nI_clamp (by omega), if_neg (in_c (show 52 * j + (6 + 3 * k + 1) < 1042 by omega) (by omega)), if_neg (in_c (show 52 * j + (6 + 3 * k + 1) < 1042 by omega) (by omega)), pq_lt1, ek, nI_ags hk.1]
    refine ih (k + 1) n _ (by omega) (by omega) (by omega) u1 (fun b hb => by rw [wi_a hb]; exact u2 b hb) (fun t ht => ?_) (fun i h1 h2 => ?_)
    · rw [wi_k (ht k hqk (by omega))]
      exact u3 t (fun i h1 h2 => ht i h1 (by omega))
    · by_cases ci : i = k
      · rw [ci, wi_s]
      · rw [wi_k (by omega)]; exact u4 i h1 (by omega)
theorem m_doMend (h : sh_G G x) (v : vT T) {j q : Nat} {S : pq_N} (hj : j < T.cnt) (hq : q < (T.pm j).qc) (hr : mdR T j q) (rs : rA (S.1 (x + 1366)) (S.2 (x + 1367)) T) (e14 : S.1 (x + 1365) 14 = nI (zD T j q)) (e15 : S.1 (x + 1365) 15 = nI (zA T j q)) (e16 : S.1 (x + 1365) 16 = nI (zL T j q)) :
    ∃ S1, F_X11_doMend G S (x + 1365) (nI j) (nI q) = some (nI (zD T j q), S1) ∧ fs_ x S S1 ∧ rA (S1.1 (x + 1366)) (S1.2 (x + 1367)) (mdT T j q) := by
  obtain ⟨g1, g2, g3, g4, g5, g6, g7, g8⟩ := vq v hj hq
  obtain ⟨x1, x2, x3⟩ := vx v hj hq
  have hs0 : zs T j q < T.cnt := by omega
  have hs := (sh_mo h).1
  have hw := (sh_mo h).2.1
  have vq4 := (v.2 j hj).2.2.2 q hq
  have hr' : (T.pm j).wc + zL T j q - (T.pm j).ql q ≤ 60 := hr
  have rj := rs.2.2 j hj
  obtain ⟨S1, d1, d2, d3, d4⟩ := dm_48 h (S := S) (j := j) (l := zL T j q) (c := (T.pm j).ql q) (b0 := (T.pm j).qb q) (wc := (T.pm j).wc) (x1 := nI j) (x2 := nI q) g1 g2 g6 hr' x1 (by omega) g5 ((T.pm j).wc - ((T.pm j).qb q + (T.pm j).ql q)) 0 pq_fuel S (by omega) (fuel_lt (by omega)) rfl (fun _ _ => rfl) (fun t => by rw [if_neg (by omega)])
  -- the words come
  have loop : ∀ (r i n : Nat) (U : pq_N), i + r = zL T j q → r < n → U.1 = S.1 → (∀ b, b ≠ x + 1367 → U.2 b = S.2 b) → (∀ t, U.2 (x + 1367) t = if 60 * j + (T.pm j).qb q ≤ t ∧ t < 60 * j + (T.pm j).qb q + i then (T.pm (zs T j q)).w (zA T j q + (t - (60 * j + (T.pm j).qb q))) else S1.2 (x + 1367) t) →
      ∃ S2, F_X11_doMend_b110 G n U (x + 1365) (nI j) (nI q) (nI (zL T j q) - nI ((T.pm j).ql q)) (nI ((T.pm j).qb q)) (nI (60 * j)) (nI (T.pm j).wc) (nI i) = some (nI (zD T j q), S2) ∧ fs_ x S S2 ∧ rA (S2.1 (x + 1366)) (S2.2 (x + 1367)) (mdT T j q) := by
    intro r
    induction r with
    | zero =>
      intro i n U hir hn u1 u2 u3
      obtain ⟨n, rfl⟩ : ∃ k, n = k + 1 := ⟨n - 1, by omega⟩
      have ei : i = zL T j q := by omega
      have eU : ∀ k, U.1 (x + 1365) k = S.1 (x + 1365) k := fun k => by rw [u1]
      rw [F_X11_doMend_b110.eq_2, eU, e16, if_pos (nI_le (by omega) (by omega)), show (52 : Int32) = nI 52 from rfl, show (4 : Int32) = nI 4 from rfl, show (6 : Int32) = nI 6 from rfl, show (3 : Int32) = nI 3 from rfl, show (2 : Int32) = nI 2 from rfl, nI_mul, nI_mul, nI_add, nI_add, nI_add, nI_add, hs.1, hs.2, nI_clamp (by omega), nI_clamp (by omega), if_neg (in_c (show 52 * j + 4 < 1042 by omega) (by omega)), pq_lt1, if_neg (in_c (show 52 * j + 6 + 3 * q + 2 < 1042 by omega) (by omega)), pq_lt1, nI_ags (by omega), wi_a (show x + 1365 ≠ x + 1366 by omega), eU, e16, nI_1]
      obtain ⟨S3, p1, p2, p3, p4, p5⟩ := dm_197 h (j := j) (l := zL T j q) (c := (T.pm j).ql q) (qc := (T.pm j).qc) (q := q) (qb := (T.pm j).qb) (S := pq_wi (pq_wi U (x + 1366) (52 * j + 4) (nI ((T.pm j).wc + zL T j q - (T.pm j).ql q))) (x + 1366) (52 * j + 6 + 3 * q + 2) (nI (zL T j q))) g1 g3 (by rw [wi_k (by omega), wi_k (by omega), u1]; exact rj.2.2.2.1) (fun i h1 h2 => ⟨by have := vq4.2.2.2 i h1 h2; omega, by rw [wi_k (by omega), wi_k (by omega), u1]; exact (rj.2.2.2.2.2 i h2).2.1⟩) ((T.pm j).qc - (q + 1)) (q + 1) pq_fuel _ (by omega) (by omega) (fuel_lt (by omega)) rfl (fun _ _ => rfl) (fun _ _ => rfl) (fun i h1 h2 => by omega)
      have e9 : (pq_wi (pq_wi U (x + 1366) (52 * j + 4) (nI ((T.pm j).wc + zL T j q - (T.pm j).ql q))) (x + 1366) (52 * j + 6 + 3 * q + 2) (nI (zL T j q))).1 (x + 1365) 14 = nI (zD T j q) := by
        rw [wi_a (by omega), wi_a (by omega), eU, e14]
      rw [e9] at p1
      -- what the row of the state holds
      have st : ∀ t, t ≠ 52 * j + 4 → t ≠ 52 * j + 6 + 3 * q + 2 → (∀ i, q < i → i < (T.pm j).qc → t ≠ 52 * j + (6 + 3 * i + 1)) → S3.1 (x + 1366) t = S.1 (x + 1366) t := fun t h1 h2 h3 => by
        rw [p4 t h3, wi_k h2, wi_k h1, u1]
      have st4 : S3.1 (x + 1366) (52 * j + 4) = nI ((T.pm j).wc + zL T j q - (T.pm j).ql q) := by
        rw [p4 _ (fun i _ _ => by omega), wi_k (by omega), wi_s]
      have stq : S3.1 (x + 1366) (52 * j + 6 + 3 * q + 2) = nI (zL T j q) := by
        rw [p4 _ (fun i _ _ => by omega), wi_s]
      refine ⟨S3, p1, ⟨fun b hb => by rw [p3 b hb, wi_a hb, wi_a hb, u1], fun b hb => by rw [p2]; exact u2 b hb⟩, ?_, ?_, fun k hk => ?_⟩
      · rw [st 0 (by omega) (by omega) (fun i _ _ => by omega)]; exact rs.1
      · rw [st 1 (by omega) (by omega) (fun i _ _ => by omega)]; exact rs.2.1
      · have hk' : k < T.cnt := hk
        have hk20 := v20 v hk'
        show rAP _ _ k (if k = j then mdP (T.pm j) q (T.pm (zs T j q)) (zA T j q) (zL T j q) else T.pm k)
        by_cases ck : k = j
        · rw [if_pos ck, ck, p2]
          refine ⟨?_, ?_, st4, ?_, fun t ht => ?_, fun i hi => ⟨?_, ?_, ?_⟩⟩
          · rw [st _ (by omega) (by omega) (fun i _ _ => by omega)]; exact rj.1
          · rw [st _ (by omega) (by omega) (fun i _ _ => by omega)]; exact rj.2.1
          · rw [st _ (by omega) (by omega) (fun i _ _ => by omega)]; exact rj.2.2.2.1
          · have ht' : t < (T.pm j).wc + zL T j q - (T.pm j).ql q := ht
            show U.2 (x + 1367) (60 * j + t) = if t < (T.pm j).qb q then (T.pm j).w t else if t < (T.pm j).qb q + zL T j q then (T.pm (zs T j q)).w (zA T j q + (t - (T.pm j).qb q)) else (T.pm j).w (t + (T.pm j).ql q - zL T j q)
            rw [u3]
            by_cases c1 : t < (T.pm j).qb q
            · rw [if_neg (by omega), if_pos c1, d4, if_neg (by omega)]
              exact rj.2.2.2.2.1 t (by omega)
            · rw [if_neg c1]
              by_cases c2 : t < (T.pm j).qb q + zL T j q
              · rw [if_pos (by omega), if_pos c2, show 60 * j + t - (60 * j + (T.pm j).qb q) = t - (T.pm j).qb q from by omega]
              · rw [if_neg (by omega), if_neg c2, d4, if_pos (by omega), show 60 * j + t + (T.pm j).ql q - zL T j q = 60 * j + (t + (T.pm j).ql q - zL T j q) from by omega]
                exact rj.2.2.2.2.1 _ (by omega)
          · have hi' : i < (T.pm j).qc := hi
            rw [st _ (by omega) (by omega) (fun i _ _ => by omega)]
            exact (rj.2.2.2.2.2 i hi').1
          · have hi' : i < (T.pm j).qc := hi
            show _ = nI (if q < i then (T.pm j).qb i + zL T j q - (T.pm j).ql q else (T.pm j).qb i)
            by_cases c1 : q < i
            · rw [if_pos c1, p5 i c1 hi']
            · rw [if_neg c1, st _ (by omega) (by omega) (fun i' _ _ => by omega)]
              exact (rj.2.2.2.2.2 i hi').2.1
          · have hi' : i < (T.pm j).qc := hi
            show _ = nI (if i = q then zL T j q else (T.pm j).ql i)
            by_cases c1 : i = q
            · rw [if_pos c1, c1, show 52 * j + (6 + 3 * q + 2) = 52 * j + 6 + 3 * q + 2 from by omega]; exact stq
            · rw [if_neg c1, st _ (by omega) (by omega) (fun i' _ _ => by omega)]
              exact (rj.2.2.2.2.2 i hi').2.2
        · rw [if_neg ck, p2]
          refine rAP_cg hk20 (v60 v hk') (v16 v hk') (fun t h1 h2 => st t (by omega) (by omega) (fun i _ _ => by omega)) (fun t h1 h2 => ?_) (rs.2.2 k hk')
          show U.2 (x + 1367) t = _
          rw [u3, if_neg (by omega), d4, if_neg (by omega)]
    | succ r ih =>
      intro i n U hir hn u1 u2 u3
      obtain ⟨n, rfl⟩ : ∃ k, n = k + 1 := ⟨n - 1, by omega⟩
      have eU : ∀ k, U.1 (x + 1365) k = S.1 (x + 1365) k := fun k => by rw [u1]
      have esrc : F_X11_source G U (x + 1365) (nI j) (nI q) = some (nI (zs T j q), U) := by
        unfold F_X11_source
        rw [show (6 : Int32) = nI 6 from rfl, show (3 : Int32) = nI 3 from rfl, nI_mul, nI_add, m_get h (by omega), pq_bd1 rfl, u1, (rj.2.2.2.2.2 q hq).1]
        rfl
      have ewd : F_X11_word G U (x + 1365) (nI (zs T j q)) (nI (zA T j q) + nI i) = some ((T.pm (zs T j q)).w (zA T j q + i), U) := by
        rw [nI_add, m_word h (by omega), u3, if_neg (by omega), d4, if_neg (by omega), (rs.2.2 _ hs0).2.2.2.2.1 _ (by omega)]
      rw [F_X11_doMend_b110.eq_2, eU, e16, if_neg (nI_ge (by omega) (by omega)), pq_bd1 esrc, eU, e15, pq_bd1 ewd, nI_add, nI_add, hw.1, hw.2, nI_clamp (by omega), if_neg (in_c (show 60 * j + (T.pm j).qb q + i < 1200 by omega) (by omega)), pq_lt1, nI_1]
      refine ih (i + 1) n _ (by omega) (by omega) u1 (fun b hb => by rw [wj_a hb]; exact u2 b hb) (fun t => ?_)
      by_cases c : t = 60 * j + (T.pm j).qb q + i
      · rw [c, wj_s, if_pos (by omega), show 60 * j + (T.pm j).qb q + i - (60 * j + (T.pm j).qb q) = i from by omega]
      · rw [wj_k c, u3 t]
        by_cases c2 : 60 * j + (T.pm j).qb q ≤ t ∧ t < 60 * j + (T.pm j).qb q + i
        · rw [if_pos c2, if_pos (by omega)]
        · rw [if_neg c2, if_neg (by omega)]
  unfold F_X11_doMend
  rw [pq_bd1 (m_size h v rs hj hq), pq_bd1 (m_begin h v rs hj hq), pq_bd1 (m_size h v rs hj hq), pq_bd1 (m_wc h v rs hj), e16, nI_add, show (60 : Int32) = nI 60 from rfl, nI_mul, show (0 : Int32) = nI 0 from rfl, d1]
  exact loop (zL T j q) 0 pq_fuel S1 (by omega) (fuel_lt (by omega)) d2 d3 (fun t => by rw [if_neg (by omega)])
theorem m_canMend (h : sh_G G x) (v : vT T) {j q : Nat} {S : pq_N} (hj : j < T.cnt) (hq : q < (T.pm j).qc) (rs : rA (S.1 (x + 1366)) (S.2 (x + 1367)) T) : ∃ S1, F_X11_canMend G S (x + 1365) (nI j) (nI q) = some (nI (if 0 < zD T j q ∧ (T.pm j).wc + zL T j q - (T.pm j).ql q ≤ 60 then 1 else 0), S1) ∧ fm x S S1 ∧ S1.1 (x + 1365) 14 = nI (zD T j q) ∧ S1.1 (x + 1365) 15 = nI (zA T j q) ∧ S1.1 (x + 1365) 16 = nI (zL T j q) := by
  obtain ⟨g1, g2, g3, g4, g5, g6, g7, g8⟩ := vq v hj hq
  obtain ⟨x1, x2, x3⟩ := vx v hj hq
  have hD := zD_lt v hj hq
  obtain ⟨S1, q1, q2, q3, q4, q5⟩ := m_find0 h v hj hq rs
  have rs1 := fm_rA q2 rs
  refine ⟨S1, ?_, q2, q3, q4, q5⟩
  unfold F_X11_canMend
  rw [pq_bd1 (m_source h v rs hj hq), pq_bd1 q1, q3, show (0 : Int32) = nI 0 from rfl, if_leI (by omega) (by omega), pq_bd1 (m_wc h v rs1 hj), pq_bd1 (m_size h v rs1 hj hq), q5, nI_sub (by omega), nI_add, show (60 : Int32) = nI 60 from rfl, if_ltI (by omega) (by omega)]
  by_cases c1 : zD T j q ≤ 0
  · rw [if_pos c1, if_neg (by omega)]
  · rw [if_neg c1]
    by_cases c2 : (T.pm j).wc + zL T j q - (T.pm j).ql q ≤ 60
    · rw [if_neg (by omega), if_pos (by omega)]; rfl
    · rw [if_pos (by omega), if_neg (by omega)]
/-- what stays when all is mended -/
def ft (x : Nat) (S S1 : pq_N) : Prop := (∀ b, b ≠ x + 1365 → b ≠ x + 1366 → b ≠ x + 1367 → (b < x + 1371 ∨ x + 1376 ≤ b) → S1.1 b = S.1 b ∧ S1.2 b = S.2 b) ∧ ∀ k, (k < 9 ∨ 17 ≤ k) → S1.1 (x + 1365) k = S.1 (x + 1365) k
theorem ft_tr {S S1 S2 : pq_N} (h : ft x S S1) (h' : ft x S1 S2) : ft x S S2 := ⟨fun b h1 h2 h3 h4 => ⟨(h'.1 b h1 h2 h3 h4).1.trans (h.1 b h1 h2 h3 h4).1, (h'.1 b h1 h2 h3 h4).2.trans (h.1 b h1 h2 h3 h4).2⟩, fun k hk => (h'.2 k hk).trans (h.2 k hk)⟩
theorem ft_m {S S1 : pq_N} (h : fm x S S1) : ft x S S1 := ⟨fun b h1 h2 h3 h4 => h.1 b h1 h4, h.2⟩
theorem ft_s {S S1 : pq_N} (h : fs_ x S S1) : ft x S S1 := ⟨fun b h1 h2 h3 h4 => ⟨by rw [h.1 b h2], by rw [h.2 b h3]⟩, fun k hk => by rw [h.1 _ (by omega)]⟩
theorem mA_in (h : sh_G G x) (v : vT T) {j B : Nat} (hj : j < T.cnt) {c13 : pq_N → Nat → Int32 → Int32 → Option (Int32 × pq_N)} : ∀ (r i n : Nat) (S : pq_N), i + r = (T.pm j).qc → r < n → rA (S.1 (x + 1366)) (S.2 (x + 1367)) (mq T j i).1 →
    ∃ S1, F_X11_mendAll_b25 G c13 n S (x + 1365) (nI (B + (mq T j i).2)) (nI j) (nI i) = c13 S1 (x + 1365) (nI (B + (mq T j (T.pm j).qc).2)) (nI (j + 1)) ∧ ft x S S1 ∧ rA (S1.1 (x + 1366)) (S1.2 (x + 1367)) (mq T j (T.pm j).qc).1 := by
  have h16 := v16 v hj
  intro r
  induction r with
  | zero =>
    intro i n S hir hn rs
    obtain ⟨n, rfl⟩ : ∃ k, n = k + 1 := ⟨n - 1, by omega⟩
    obtain ⟨v1, c1, q1⟩ := mq_v v hj (i := i) (by omega)
    have e : i = (T.pm j).qc := by omega
    have eq := m_qc h v1 rs (j := j) (by omega)
    rw [F_X11_mendAll_b25.eq_2, pq_bd1 eq, if_pos (nI_le (by omega) (by omega)), e, nI_1]
    rw [e] at rs
    exact ⟨S, rfl, ft_m fm_rfl, rs⟩
  | succ r ih =>
    intro i n S hir hn rs
    obtain ⟨n, rfl⟩ : ∃ k, n = k + 1 := ⟨n - 1, by omega⟩
    obtain ⟨v1, c1, q1⟩ := mq_v v hj (i := i) (by omega)
    have hj1 : j < (mq T j i).1.cnt := by omega
    have hi1 : i < ((mq T j i).1.pm j).qc := by omega
    obtain ⟨S1, k1, k2, k3, k4, k5⟩ := m_canMend h v1 hj1 hi1 rs
    have rs1 := fm_rA k2 rs
    rw [F_X11_mendAll_b25.eq_2, pq_bd1 (m_qc h v1 rs hj1), if_neg (nI_ge (by omega) (by omega)), pq_bd1 k1]
    by_cases c : 0 < zD (mq T j i).1 j i ∧ ((mq T j i).1.pm j).wc + zL (mq T j i).1 j i - ((mq T j i).1.pm j).ql i ≤ 60
    · have e : mq T j (i + 1) = (mdT (mq T j i).1 j i, (mq T j i).2 + 1) := if_pos c
      obtain ⟨S2, p1, p2, p3⟩ := m_doMend h v1 hj1 hi1 c.2 rs1 k3 k4 k5
      obtain ⟨S3, u1, u2, u3⟩ := ih (i + 1) n S2 (by omega) (by omega) (by rw [e]; exact p3)
      rw [e] at u1
      rw [if_pos c, if_neg (by decide), pq_bd1 p1, nI_1, nI_1]
      exact ⟨S3, u1, ft_tr (ft_m k2) (ft_tr (ft_s p2) u2), u3⟩
    · have e : mq T j (i + 1) = mq T j i := if_neg c
      obtain ⟨S3, u1, u2, u3⟩ := ih (i + 1) n S1 (by omega) (by omega) (by rw [e]; exact rs1)
      rw [e] at u1
      rw [if_neg c, if_pos (by decide), nI_1]
      exact ⟨S3, u1, ft_tr (ft_m k2) u2, u3⟩
theorem mA_out (h : sh_G G x) (v : vT T) : ∀ (r k n : Nat) (S : pq_N), k + r = T.cnt → r < n → rA (S.1 (x + 1366)) (S.2 (x + 1367)) (mz T k).1 →
    ∃ S1, F_X11_mendAll_b13 G n S (x + 1365) (nI (mz T k).2) (nI k) = some (nI (mz T T.cnt).2, S1) ∧ ft x S S1 ∧ rA (S1.1 (x + 1366)) (S1.2 (x + 1367)) (mz T T.cnt).1 := by
  have h20 := v.1
  have mm := m_many h
  intro r
  induction r with
  | zero =>
    intro k n S hkr hn rs
    obtain ⟨n, rfl⟩ : ∃ k, n = k + 1 := ⟨n - 1, by omega⟩
    obtain ⟨v1, c1⟩ := mz_v v (k := k) (by omega)
    have e : k = T.cnt := by omega
    rw [F_X11_mendAll_b13.eq_2, mm.1, if_neg mm.2.1, mm.2.2.2.1, rs.2.1, c1, if_pos (nI_le (by omega) (by omega)), e]
    rw [e] at rs
    exact ⟨S, rfl, ft_m fm_rfl, rs⟩
  | succ r ih =>
    intro k n S hkr hn rs
    obtain ⟨n, rfl⟩ : ∃ k, n = k + 1 := ⟨n - 1, by omega⟩
    obtain ⟨v1, c1⟩ := mz_v v (k := k) (by omega)
    have hk : k < (mz T k).1.cnt := by omega
    obtain ⟨S1, q1, q2, q3⟩ := mA_in h v1 (B := (mz T k).2) hk (c13 := F_X11_mendAll_b13 G n) ((mz T k).1.pm k).qc 0 pq_fuel S (by omega) (fuel_lt (by have := v16 v1 hk; omega)) rs
    obtain ⟨S2, u1, u2, u3⟩ := ih (k + 1) n S1 (by omega) (by omega) q3
    refine ⟨S2, ?_, ft_tr q2 u2, u3⟩
    rw [F_X11_mendAll_b13.eq_2, mm.1, if_neg mm.2.1, mm.2.2.2.1, rs.2.1, c1, if_neg (nI_ge (by omega) (by omega)), ← u1]
    exact q1
end MD
