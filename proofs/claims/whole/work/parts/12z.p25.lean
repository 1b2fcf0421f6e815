/-! THE REFERENCE reads quotations and texts -/
section MV
variable {G : pq_G} {x : Nat} {T : tT}
def en_ (pl : Nat) : Prop := pl = 2 ∨ pl = 7 ∨ pl = 8
/-- how reading from the place k in the state s ends: not well; or well, and it goes on from another place -/
def oc (c : Nat → Nat) (len x : Nat) (T : tT) (p k : Nat) (s : tA) (S S1 : pq_N) (b : Int32) : Prop := fx x p S S1 ∧ ((b = 0 ∧ ∃ k' s', S1.1 (x + 1365) 9 = nI k' ∧ rn c len k s = (k', s') ∧ ¬ en_ s'.1) ∨ (b = 1 ∧ ∃ k' s', S1.1 (x + 1365) 9 = nI k' ∧ k' ≤ len ∧ k < k' ∧ iA k' s' ∧ rn c len k s = rn c len k' s' ∧ en_ s'.1 ∧ (k' = len ∨ c k' = 32 ∨ stp s' (c k') = none) ∧ dM S1 x T p s'.2.2.2))
theorem oc_tr {c : Nat → Nat} {len p k k1 : Nat} {s s1 : tA} {S S1 S2 : pq_N} {b : Int32} (f : fx x p S S1) (hk : k ≤ k1) (e : rn c len k s = rn c len k1 s1) (h : oc c len x T p k1 s1 S1 S2 b) : oc c len x T p k s S S2 b := by
  obtain ⟨h1, h2⟩ := h
  refine ⟨fx_tr f h1, ?_⟩
  rcases h2 with ⟨hb, k', s', a1, a2, a3⟩ | ⟨hb, k', s', a1, a2, a3, a4, a5, a6, a7, a8⟩
  · exact Or.inl ⟨hb, k', s', a1, e.trans a2, a3⟩
  · exact Or.inr ⟨hb, k', s', a1, a2, by omega, a4, e.trans a5, a6, a7, a8⟩
theorem oc_no {c : Nat → Nat} {len p k : Nat} {s : tA} {S S1 : pq_N} (f : fx x p S S1) (e9 : S1.1 (x + 1365) 9 = nI k) (e : rn c len k s = (k, s)) (hs : ¬ en_ s.1) : oc c len x T p k s S S1 0 := ⟨f, Or.inl ⟨rfl, k, s, e9, e, hs⟩⟩
/-- a word of the pamphlet p -/
theorem m_word1 (h : sh_G G x) {p len k : Nat} {c : Nat → Nat} (hp : p ≤ 20) (hl : len ≤ 100) (hk : k ≤ len) (hc : ∀ j, j < len → c j < 1000) {pl0 pl1 lt bg : Nat} {P : tP} (hpl : (pl0 = 1 ∧ pl1 = 2) ∨ (pl0 = 3 ∧ pl1 = 4)) (h0 : iA k (pl0, lt, bg, P)) {S : pq_N} (rx : rX S x len c) (e9 : S.1 (x + 1365) 9 = nI k) (d : dM S x T p P) :
    ∃ i w S1, F_X11_readWord G S (x + 1365) (nI p) (S.1 (x + 1365) 11) = some (nI (bN (decide (0 < i))), S1) ∧ fx x p S S1 ∧ S1.1 (x + 1365) 9 = nI (k + i) ∧ k + i ≤ len ∧ wA c len k i pl0 pl1 lt bg P w ∧ (k + i = len ∨ ¬ let_ (c (k + i)) ∨ i = 7) ∧ S1.1 (x + 1365) 11 = nI P.wc ∧ dM (pq_wi S1 (x + 1365) 11 (nI (P.wc + 1))) x T p (adW P w) := by
  obtain ⟨d1, d2, d3, d4⟩ := d
  have hw : P.wc < 60 := by
    obtain ⟨-, i⟩ := h0
    omega
  obtain ⟨i, w, S1, q1, q2, q3, q4, q5, q6, q7, q8, q9, q10, q11, q12⟩ := rw_loop h hp hl hc hpl h0 hw (S := S) 7 0 pq_fuel 0 S (by omega) (fuel_lt (by omega)) hk rfl (fun _ _ => rfl) (fun _ _ => rfl) rx e9 (Or.inl ⟨rfl, rfl⟩)
  have f : fx x p S S1 := ⟨fun b h1 h2 h3 => ⟨by rw [q7 b h1], q9 b h3⟩, fun j hj => q8 j (by omega), fun t _ => by rw [q7 _ (by omega)], fun t ht => q10 t (by omega)⟩
  refine ⟨i, w, S1, ?_, f, q2, q3, q5, q6, by rw [q8 11 (by decide)]; exact d2, ?_⟩
  · rw [d2]; exact q1
  · refine ⟨?_, wi_s, by rw [wi_k (by decide), q8 12 (by decide)]; exact d3, fun z => ⟨fun j hj => ?_, fun q hq => ?_⟩⟩
    · rw [wi_k (by decide), q8 10 (by decide), d1]
      exact congrArg nI (wsf_cg (P := adW P w) (P' := P) (fun _ _ => rfl))
    · have hj' : j < P.wc + 1 := hj
      rw [wi_2]
      show _ = vp_updL P.w P.wc w j
      by_cases cj : j = P.wc
      · rw [cj, pk_uLs]; exact q12 z
      · rw [pk_uLn cj, q10 _ (by omega)]
        exact (d4 z).1 j (by omega)
    · rw [wi_a (show x + 1366 ≠ x + 1365 by omega), q7 _ (by omega)]
      exact (d4 z).2 q hq
/-- readNumber -/
theorem m_number (h : sh_G G x) {len k : Nat} {c : Nat → Nat} (hl : len ≤ 100) (hk : k ≤ len) (hc : ∀ j, j < len → c j < 1000) {S : pq_N} (rx : rX S x len c) (e9 : S.1 (x + 1365) 9 = nI k) :
    ∃ v S1, F_X11_readNumber G S (x + 1365) = some (v, S1) ∧ S1.2 = S.2 ∧ (∀ b, b ≠ x + 1365 → S1.1 b = S.1 b) ∧ (∀ j, j ≠ 9 → S1.1 (x + 1365) j = S.1 (x + 1365) j) ∧ ((v = -1 ∧ S1.1 (x + 1365) 9 = nI k ∧ (k = len ∨ ¬ dig_ (c k))) ∨ ∃ s k', v = nI s ∧ s < 20 ∧ S1.1 (x + 1365) 9 = nI k' ∧ k' ≤ len ∧ k < k' ∧ ∀ lt bg P, iA k (6, lt, bg, P) → ∃ pl1, (pl1 = 7 ∨ pl1 = 8) ∧ iA k' (pl1, lt, bg, adQ P s bg) ∧ rn c len k (6, lt, bg, P) = rn c len k' (pl1, lt, bg, adQ P s bg) ∧ (k' = len ∨ c k' = 32 ∨ stp (pl1, lt, bg, adQ P s bg) (c k') = none)) := by
  have ht := (sh_mo h).2.2.2.2.1
  have no : (k = len ∨ ¬ dig_ (c k)) → ∃ v S1, F_X11_readNumber_b46 G S (x + 1365) (-1 : Int32) = some (v, S1) ∧ S1.2 = S.2 ∧ (∀ b, b ≠ x + 1365 → S1.1 b = S.1 b) ∧ (∀ j, j ≠ 9 → S1.1 (x + 1365) j = S.1 (x + 1365) j) ∧ ((v = -1 ∧ S1.1 (x + 1365) 9 = nI k ∧ (k = len ∨ ¬ dig_ (c k))) ∨ ∃ s k', v = nI s ∧ s < 20 ∧ S1.1 (x + 1365) 9 = nI k' ∧ k' ≤ len ∧ k < k' ∧ ∀ lt bg P, iA k (6, lt, bg, P) → ∃ pl1, (pl1 = 7 ∨ pl1 = 8) ∧ iA k' (pl1, lt, bg, adQ P s bg) ∧ rn c len k (6, lt, bg, P) = rn c len k' (pl1, lt, bg, adQ P s bg) ∧ (k' = len ∨ c k' = 32 ∨ stp (pl1, lt, bg, adQ P s bg) (c k') = none)) := fun z => by
    unfold F_X11_readNumber_b46
    rw [if_pos rfl]
    unfold F_X11_readNumber_b62
    rw [pq_lt1, if_neg (by decide), e9, show (0 : Int32) = nI 0 from rfl, nI_add]
    exact ⟨_, _, rfl, rfl, fun b hb => wi_a hb, fun j hj => wi_k hj, Or.inl ⟨rfl, wi_s, z⟩⟩
  unfold F_X11_readNumber
  rw [rx.1, e9, if_leI (by omega) (by omega)]
  by_cases c1 : len ≤ k
  · rw [if_pos c1]
    exact no (Or.inl (by omega))
  · have hk1 : k < len := by omega
    have ec := rx.2 k hk1
    have hck := hc k hk1
    rw [if_neg c1, ht.1, ht.2, nI_clamp (by omega), if_neg (in_c (show k < 100 by omega) (by omega)), ec, show (48 : Int32) = nI 48 from rfl, show (57 : Int32) = nI 57 from rfl, pq_bd1 (m_in2 (by omega) (by omega) (by omega))]
    by_cases c2 : 48 ≤ c k ∧ c k ≤ 57
    · rw [if_pos c2, if_neg (by decide), e9, nI_clamp (by omega), if_neg (in_c (show k < 100 by omega) (by omega)), ec, nI_sub c2.1]
      have st6 : ∀ lt bg P, stp (6, lt, bg, P) (c k) = some (if c k = 49 then 7 else 8, lt, bg, adQ P (c k - 48) bg) := fun lt bg P => if_pos c2
      unfold F_X11_readNumber_b46
      rw [if_neg (nI_m1 (by omega))]
      unfold F_X11_readNumber_b62
      rw [pq_lt1, e9, nI_1, wi_k (by decide), rx.1, wi_s, if_leI (by omega) (by omega), show (1 : Int32) = nI 1 from rfl, if_eqI (by omega) (by omega)]
      by_cases c3 : c k - 48 = 1
      · have c49 : c k = 49 := by omega
        rw [if_pos c3]
        by_cases c4 : len ≤ k + 1
        · rw [if_pos c4, c3]
          refine ⟨_, _, rfl, rfl, fun b hb => wi_a hb, fun j hj => wi_k hj, Or.inr ⟨1, k + 1, rfl, by omega, wi_s, by omega, by omega, fun lt bg P hA => ?_⟩⟩
          have e := st6 lt bg P
          rw [if_pos c49, c3] at e
          exact ⟨7, Or.inl rfl, stp_i hA e, rn_stp hk1 e, Or.inl (by omega)⟩
        · have ec1 : (pq_wi S (x + 1365) 9 (nI (k + 1))).1 (x + 1370) (k + 1) = nI (c (k + 1)) := by rw [wi_a (by omega)]; exact rx.2 _ (by omega)
          have hck1 := hc (k + 1) (by omega)
          rw [if_neg c4, ht.1, ht.2, nI_clamp (by omega), if_neg (in_c (show k + 1 < 100 by omega) (by omega)), ec1, show (48 : Int32) = nI 48 from rfl, show (57 : Int32) = nI 57 from rfl, pq_bd1 (m_in2 (by omega) (by omega) (by omega))]
          by_cases c5 : 48 ≤ c (k + 1) ∧ c (k + 1) ≤ 57
          · rw [if_pos c5, if_neg (by decide), wi_s, nI_clamp (by omega), if_neg (in_c (show k + 1 < 100 by omega) (by omega)), pq_lt1, ec1, show (10 : Int32) = nI 10 from rfl, nI_add, nI_add, nI_sub (by omega), pq_lt1, show 10 + c (k + 1) - 48 = c (k + 1) - 38 from by omega]
            refine ⟨_, _, rfl, rfl, fun b hb => by rw [wi_a hb, wi_a hb], fun j hj => by rw [wi_k hj, wi_k hj], Or.inr ⟨c (k + 1) - 38, k + 1 + 1, rfl, by omega, wi_s, by omega, by omega, fun lt bg P hA => ?_⟩⟩
            have e := st6 lt bg P
            rw [if_pos c49, c3] at e
            have e2 : stp (7, lt, bg, adQ P 1 bg) (c (k + 1)) = some (8, lt, bg, adQ P (c (k + 1) - 38) bg) := by
              show (if c (k + 1) = 32 then some (1, lt, bg, adQ P 1 bg) else if 48 ≤ c (k + 1) ∧ c (k + 1) ≤ 57 then some (8, lt, bg, seQ (adQ P 1 bg) (c (k + 1) - 38)) else none) = _
              rw [if_neg (by omega), if_pos c5, seQ_adQ]
            refine ⟨8, Or.inr rfl, stp_i (stp_i hA e) e2, by rw [rn_stp hk1 e, rn_stp (by omega) e2], ?_⟩
            by_cases c6 : c (k + 1 + 1) = 32
            · exact Or.inr (Or.inl c6)
            · exact Or.inr (Or.inr (if_neg c6))
          · rw [if_neg c5, if_pos (by decide), c3]
            refine ⟨_, _, rfl, rfl, fun b hb => wi_a hb, fun j hj => wi_k hj, Or.inr ⟨1, k + 1, rfl, by omega, wi_s, by omega, by omega, fun lt bg P hA => ?_⟩⟩
            have e := st6 lt bg P
            rw [if_pos c49, c3] at e
            refine ⟨7, Or.inl rfl, stp_i hA e, rn_stp hk1 e, ?_⟩
            by_cases c6 : c (k + 1) = 32
            · exact Or.inr (Or.inl c6)
            · refine Or.inr (Or.inr ?_)
              show (if c (k + 1) = 32 then some (1, lt, bg, adQ P 1 bg) else if 48 ≤ c (k + 1) ∧ c (k + 1) ≤ 57 then some (8, lt, bg, seQ (adQ P 1 bg) (c (k + 1) - 38)) else none) = none
              rw [if_neg c6, if_neg c5]
      · rw [if_neg c3]
        refine ⟨_, _, rfl, rfl, fun b hb => wi_a hb, fun j hj => wi_k hj, Or.inr ⟨c k - 48, k + 1, rfl, by omega, wi_s, by omega, by omega, fun lt bg P hA => ?_⟩⟩
        have e := st6 lt bg P
        rw [if_neg (show ¬ c k = 49 by omega)] at e
        refine ⟨8, Or.inr rfl, stp_i hA e, rn_stp hk1 e, ?_⟩
        by_cases c6 : c (k + 1) = 32
        · exact Or.inr (Or.inl c6)
        · exact Or.inr (Or.inr (if_neg c6))
    · rw [if_neg c2, if_pos (by decide)]
      exact no (Or.inr c2)
theorem m_isP (h : sh_G G x) (v : vT T) {s : Nat} (hs : s < 1000) {S : pq_N} (rs : rA (S.1 (x + 1366)) (S.2 (x + 1367)) T) : F_X11_isPamphlet G S (x + 1365) (nI s) = some (nI (if s < T.cnt then 1 else 0), S) := by
  have mm := m_many h
  have h20 := v.1
  unfold F_X11_isPamphlet
  rw [mm.1, if_neg mm.2.1, mm.2.2.2.1, rs.2.1]
  have e : F_X11_in G S (nI s) 0 (nI T.cnt - 1) = some (nI (if s < T.cnt then 1 else 0), S) := by
    rcases Nat.eq_zero_or_pos T.cnt with z | z
    · rw [z, if_neg (by omega)]
      unfold F_X11_in
      rw [if_neg (nI_pos (by omega)), if_pos (by
        rw [show nI 0 - (1 : Int32) = -1 from by decide]
        rw [Int32.lt_iff_toInt_lt, nI_toInt (by omega)]
        have : (-1 : Int32).toInt = -1 := by decide
        omega)]
      rfl
    · rw [nI_sub1 z, show (0 : Int32) = nI 0 from rfl, m_in2 (by omega) (by omega) (by omega)]
      by_cases c1 : s < T.cnt
      · rw [if_pos (by omega), if_pos c1]
      · rw [if_neg (by omega), if_neg c1]
  rw [pq_bd1 e]
  by_cases c1 : s < T.cnt
  · rw [if_pos c1, if_neg (by decide)]
  · rw [if_neg c1, if_neg (by decide)]
/-- a quotation comes to what is read -/
theorem m_addQ (h : sh_G G x) (v : vT T) {p s bg : Nat} {P : tP} (hp : p ≤ 20) (hcp : T.cnt ≤ p) (hs : s < 20) (hb : bg ≤ P.wc) (hw : P.wc ≤ 60) (hq : P.qc < 16) {S : pq_N} (rs : rA (S.1 (x + 1366)) (S.2 (x + 1367)) T) (d : dM S x T p P) :
    ∃ S1, F_X11_readQuote_b101 G S (x + 1365) (nI p) (nI bg) (nI s) = some (1, S1) ∧ fx x p S S1 ∧ S1.1 (x + 1365) 9 = S.1 (x + 1365) 9 ∧ dM S1 x T p (adQ P s bg) := by
  have hss := (sh_mo h).1
  have mm := m_many h
  obtain ⟨d1, d2, d3, d4⟩ := d
  have hwl := wsf_le (T := T) (P := P) P.qc
  have ews : wsf T (adQ P s bg) (P.qc + 1) = if wsf T P P.qc = 3 then 3 else if wq T s = 3 then 3 else if wq T s ≤ wsf T P P.qc then wsf T P P.qc else wq T s := by
    have e1 : wsf T (adQ P s bg) P.qc = wsf T P P.qc := wsf_cg (fun q hq => if_neg (by omega))
    have e2 : (adQ P s bg).qs P.qc = s := if_pos rfl
    show (if wsf T (adQ P s bg) P.qc = 3 then 3 else if wq T ((adQ P s bg).qs P.qc) = 3 then 3 else if wq T ((adQ P s bg).qs P.qc) ≤ wsf T (adQ P s bg) P.qc then wsf T (adQ P s bg) P.qc else wq T ((adQ P s bg).qs P.qc)) = _
    rw [e1, e2]
  -- what is written
  have fin : ∀ w, w = nI (wsf T (adQ P s bg) (P.qc + 1)) → ∃ S1, F_X11_readQuote_b188 G S (x + 1365) (nI p) (nI bg) (nI s) w (x + 1365) = some (1, S1) ∧ fx x p S S1 ∧ S1.1 (x + 1365) 9 = S.1 (x + 1365) 9 ∧ dM S1 x T p (adQ P s bg) := fun w hwv => by
    unfold F_X11_readQuote_b188
    rw [pq_lt1, wi_k (by decide), d3, show (20 : Int32) = nI 20 from rfl, show (16 : Int32) = nI 16 from rfl, if_leI (by omega) (by omega), if_leI (by omega) (by omega), nI_1]
    simp only [pq_lt1]
    by_cases c1 : 20 ≤ p
    · rw [if_pos c1]
      refine ⟨_, rfl, fx_tr (fx_wf (by decide)) (fx_wf (by decide)), by rw [wi_k (by decide), wi_k (by decide)], by rw [wi_k (by decide), wi_s, hwv]; rfl, by rw [wi_k (by decide), wi_k (by decide)]; exact d2, wi_s, fun z => by omega⟩
    · rw [if_neg c1, if_neg (by omega), show (52 : Int32) = nI 52 from rfl, show (6 : Int32) = nI 6 from rfl, show (3 : Int32) = nI 3 from rfl, show (2 : Int32) = nI 2 from rfl, nI_mul, nI_mul, nI_add, nI_add, nI_1, nI_add, hss.1, hss.2, nI_clamp (by omega), nI_clamp (by omega), nI_clamp (by omega), if_neg (in_c (show 52 * p + 6 + 3 * P.qc < 1042 by omega) (by omega)), if_neg (in_c (show 52 * p + 6 + 3 * P.qc + 1 < 1042 by omega) (by omega)), if_neg (in_c (show 52 * p + 6 + 3 * P.qc + 2 < 1042 by omega) (by omega))]
      have n56 : x + 1365 ≠ x + 1366 := by omega
      simp only [wi_a n56]
      rw [wi_k (by decide), d2, nI_sub hb, wi_k (by decide), d3, nI_1]
      refine ⟨_, rfl, fx_tr (fx_wf (by decide)) (fx_tr (fx_wi (by omega)) (fx_tr (fx_wi (by omega)) (fx_tr (fx_wi (by omega)) (fx_wf (by decide))))), ?_, ?_, ?_, wi_s, fun z => ⟨fun j hj => (d4 z).1 j hj, fun q hq => ?_⟩⟩
      · rw [wi_k (by decide), wi_a n56, wi_a n56, wi_a n56, wi_k (by decide)]
      · rw [wi_k (by decide), wi_a n56, wi_a n56, wi_a n56, wi_s, hwv]; rfl
      · rw [wi_k (by decide), wi_a n56, wi_a n56, wi_a n56, wi_k (by decide)]; exact d2
      · have hq' : q < P.qc + 1 := hq
        have n65 : x + 1366 ≠ x + 1365 := by omega
        rw [wi_a n65]
        show _ = nI (if q = P.qc then s else P.qs q) ∧ _ = nI (if q = P.qc then bg else P.qb q) ∧ _ = nI (if q = P.qc then P.wc - bg else P.ql q)
        by_cases cq : q = P.qc
        · rw [if_pos cq, if_pos cq, if_pos cq, cq, show 52 * p + (6 + 3 * P.qc) = 52 * p + 6 + 3 * P.qc from by omega, show 52 * p + (6 + 3 * P.qc + 1) = 52 * p + 6 + 3 * P.qc + 1 from by omega, show 52 * p + (6 + 3 * P.qc + 2) = 52 * p + 6 + 3 * P.qc + 2 from by omega]
          exact ⟨by rw [wi_k (by omega), wi_k (by omega), wi_s], by rw [wi_k (by omega), wi_s], wi_s⟩
        · have k := (d4 z).2 q (by omega)
          rw [if_neg cq, if_neg cq, if_neg cq, wi_k (by omega), wi_k (by omega), wi_k (by omega), wi_k (by omega), wi_k (by omega), wi_k (by omega), wi_k (by omega), wi_k (by omega), wi_k (by omega), wi_a n65]
          exact k
  have go : ∀ t, t ≤ 4 → t = wq T s → ∃ S1, F_X11_readQuote_b149 G S (x + 1365) (nI p) (nI bg) (nI s) (nI t) = some (1, S1) ∧ fx x p S S1 ∧ S1.1 (x + 1365) 9 = S.1 (x + 1365) 9 ∧ dM S1 x T p (adQ P s bg) := fun t ht4 ht => by
    unfold F_X11_readQuote_b149
    rw [d1, show (3 : Int32) = nI 3 from rfl, if_eqI (by omega) (by omega), if_eqI (by omega) (by omega), if_leI (by omega) (by omega)]
    rw [← ht] at ews
    by_cases c1 : wsf T P P.qc = 3
    · rw [if_pos c1] at ews ⊢
      exact fin _ (by rw [ews])
    · rw [if_neg c1] at ews ⊢
      by_cases c2 : t = 3
      · rw [if_pos c2] at ews ⊢
        exact fin _ (by rw [ews])
      · rw [if_neg c2] at ews ⊢
        by_cases c3 : t ≤ wsf T P P.qc
        · rw [if_pos c3] at ews ⊢
          exact fin _ (by rw [ews])
        · rw [if_neg c3] at ews ⊢
          exact fin _ (by rw [ews])
  unfold F_X11_readQuote_b101
  rw [if_neg (nI_m1 (by omega)), pq_bd1 (m_isP h v (by omega) rs)]
  by_cases c1 : s < T.cnt
  · rw [if_pos c1, if_neg (by decide), pq_bd1 (m_pd h v rs c1), mm.1, if_neg mm.2.2.1, mm.2.2.2.2, rs.1]
    by_cases c2 : (T.pm s).pd = T.day
    · rw [if_pos c2]
      exact go 4 (by omega) (by unfold wq; rw [if_pos c1, if_pos c2])
    · rw [if_neg c2]
      exact go 0 (by omega) (by unfold wq; rw [if_pos c1, if_neg c2])
  · rw [if_neg c1, if_pos (by decide)]
    exact go 3 (by omega) (by unfold wq; rw [if_neg c1])
end MV
