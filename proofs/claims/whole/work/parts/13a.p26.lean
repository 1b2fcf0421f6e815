/-! THE REFERENCE reads: the rest of a quotation, an item, a text -/
theorem ne_1 : ¬ en_ 1 := by unfold en_; decide
theorem ne_3 : ¬ en_ 3 := by unfold en_; decide
theorem ne_4 : ¬ en_ 4 := by unfold en_; decide
theorem ne_5 : ¬ en_ 5 := by unfold en_; decide
theorem ne_6 : ¬ en_ 6 := by unfold en_; decide
theorem stp_4 {i bg ch : Nat} {P : tP} (h32 : ch ≠ 32) (h34 : ch ≠ 34) (hn : ¬ let_ ch ∨ i = 7) : stp (4, i, bg, P) ch = none := by
  show (if ch = 34 then some (5, i, bg, P) else if ch = 32 then some (3, i, bg, P) else moL ch 4 i bg P) = none
  rw [if_neg h34, if_neg h32]
  have hh : ¬ (97 ≤ ch ∧ ch ≤ 122 ∧ i < 7) := fun z => by
    rcases hn with c | c
    · exact c ⟨z.1, z.2.1⟩
    · omega
  exact if_neg hh
theorem stp_2 {i bg ch : Nat} {P : tP} (h32 : ch ≠ 32) (hn : ¬ let_ ch ∨ i = 7) : stp (2, i, bg, P) ch = none := by
  show (if ch = 32 then some (1, i, bg, P) else moL ch 2 i bg P) = none
  rw [if_neg h32]
  have hh : ¬ (97 ≤ ch ∧ ch ≤ 122 ∧ i < 7) := fun z => by
    rcases hn with c | c
    · exact c ⟨z.1, z.2.1⟩
    · omega
  exact if_neg hh
theorem b_01 {b : Bool} (h : b = true) : nI (bN b) = (1 : Int32) := by subst h; rfl
theorem b_00 {b : Bool} (h : b = false) : nI (bN b) = (0 : Int32) := by subst h; rfl
section MW
variable {G : pq_G} {x : Nat} {T : tT}
theorem dM_same {S S1 : pq_N} {p : Nat} {P : tP} (h2 : S1.2 = S.2) (h1 : ∀ b, b ≠ x + 1365 → S1.1 b = S.1 b) (h3 : ∀ j, j ≠ 9 → S1.1 (x + 1365) j = S.1 (x + 1365) j) (d : dM S x T p P) : dM S1 x T p P := by
  obtain ⟨d1, d2, d3, d4⟩ := d
  refine ⟨by rw [h3 10 (by decide)]; exact d1, by rw [h3 11 (by decide)]; exact d2, by rw [h3 12 (by decide)]; exact d3, fun z => ?_⟩
  rw [h2, h1 (x + 1366) (by omega)]
  exact d4 z
theorem fx_same {S S1 : pq_N} {p : Nat} (h2 : S1.2 = S.2) (h1 : ∀ b, b ≠ x + 1365 → S1.1 b = S.1 b) (h3 : ∀ j, j ≠ 9 → S1.1 (x + 1365) j = S.1 (x + 1365) j) : fx x p S S1 := ⟨fun b g1 _ _ => ⟨h1 b g1, by rw [h2]⟩, fun k hk => h3 k (by omega), fun t _ => by rw [h1 _ (by omega)], fun t _ => by rw [h2]⟩
theorem m_wstep (h : sh_G G x) {p len k : Nat} {c : Nat → Nat} (hp : p ≤ 20) (hl : len ≤ 100) (hk : k ≤ len) (hc : ∀ j, j < len → c j < 1000) {pl0 pl1 lt bg : Nat} {P : tP} (hpl : (pl0 = 1 ∧ pl1 = 2) ∨ (pl0 = 3 ∧ pl1 = 4)) (h34 : pl0 = 1 → k = len ∨ c k ≠ 34) (h0 : iA k (pl0, lt, bg, P)) {S : pq_N} (rx : rX S x len c) (e9 : S.1 (x + 1365) 9 = nI k) (d : dM S x T p P) :
    ∃ i w S1, F_X11_readWord G S (x + 1365) (nI p) (S.1 (x + 1365) 11) = some (nI (bN (decide (0 < i))), S1) ∧ fx x p S (pq_wi S1 (x + 1365) 11 (S1.1 (x + 1365) 11 + (1 : Int32))) ∧ S1.1 (x + 1365) 9 = nI (k + i) ∧ ((i = 0 ∧ rn c len k (pl0, lt, bg, P) = (k, (pl0, lt, bg, P))) ∨ (0 < i ∧ k + i ≤ len ∧ iA (k + i) (pl1, i, bg, adW P w) ∧ rn c len k (pl0, lt, bg, P) = rn c len (k + i) (pl1, i, bg, adW P w) ∧ (k + i = len ∨ ¬ let_ (c (k + i)) ∨ i = 7) ∧ dM (pq_wi S1 (x + 1365) 11 (S1.1 (x + 1365) 11 + (1 : Int32))) x T p (adW P w))) := by
  obtain ⟨i, w, S1, q1, q2, q3, q4, q5, q6, q7, q8⟩ := m_word1 h hp hl hk hc hpl h0 rx e9 d
  refine ⟨i, w, S1, q1, fx_tr q2 (fx_wf (by decide)), q3, ?_⟩
  rw [q7, nI_1]
  rcases q5 with ⟨z, -⟩ | ⟨z1, z2, z3⟩
  · subst z
    refine Or.inl ⟨rfl, ?_⟩
    rcases Nat.lt_or_ge k len with c1 | c1
    · refine rn_err ?_
      have nl : ¬ (97 ≤ c k ∧ c k ≤ 122) := by
        rcases q6 with a | a | a
        · omega
        · exact a
        · omega
      rcases hpl with ⟨rfl, rfl⟩ | ⟨rfl, rfl⟩
      · show (if c k = 34 then some (3, lt, P.wc, P) else fiL (c k) 2 bg P) = none
        rw [if_neg (by have := h34 rfl; omega)]
        exact if_neg nl
      · exact if_neg nl
    · exact rn_end c1
  · exact Or.inr ⟨by omega, q4, z2, z3, q6, q8⟩
theorem rq_88 {S : pq_N} {a0 : Nat} {x1 x2 : Int32} : F_X11_readQuote_b88 G S a0 x1 x2 (0 : Int32) = some (0, S) := by
  unfold F_X11_readQuote_b88
  rw [if_pos rfl]
  unfold F_X11_readQuote_b101
  rw [if_pos rfl]
theorem rq_0 {n : Nat} {S : pq_N} {a0 : Nat} {x1 x2 : Int32} (hn : 0 < n) : F_X11_readQuote_b25 G n S a0 x1 x2 (0 : Int32) = some (0, S) := by
  obtain ⟨n, rfl⟩ : ∃ m, n = m + 1 := ⟨n - 1, by omega⟩
  rw [F_X11_readQuote_b25.eq_2, if_pos rfl]
  unfold F_X11_readQuote_b61
  rw [if_pos rfl]
  exact rq_88
/-- behind a word of a quotation -/
theorem rq_loop (h : sh_G G x) (v : vT T) {p len : Nat} {c : Nat → Nat} (hp : p ≤ 20) (hcp : T.cnt ≤ p) (hl : len ≤ 100) (hc : ∀ j, j < len → c j < 1000) {bg : Nat} : ∀ (r k n i : Nat) (P : tP) (S : pq_N), len - k ≤ r → k ≤ len → r < n → iA k (4, i, bg, P) → (k = len ∨ ¬ let_ (c k) ∨ i = 7) → rX S x len c → S.1 (x + 1365) 9 = nI k → dM S x T p P → rA (S.1 (x + 1366)) (S.2 (x + 1367)) T →
    ∃ b S1, F_X11_readQuote_b25 G n S (x + 1365) (nI p) (nI bg) (1 : Int32) = some (b, S1) ∧ oc c len x T p k (4, i, bg, P) S S1 b := by
  intro r
  induction r using Nat.strongRecOn with
  | ind r ih =>
    intro k n i P S hr hk hn hA hst rx e9 d rs
    obtain ⟨n, rfl⟩ : ∃ m, n = m + 1 := ⟨n - 1, by omega⟩
    have n1 : bg < P.wc := by obtain ⟨-, b⟩ := hA; omega
    have n2 : 2 * P.wc ≤ k + 1 := by obtain ⟨-, b⟩ := hA; omega
    have n3 : 6 * P.qc + 2 ≤ k := by obtain ⟨-, b⟩ := hA; omega
    obtain ⟨v1, a1, a2⟩ := m_comes h hl hk hc (ch := 32) (by decide) rx e9
    have a1' : F_X11_comes G S (x + 1365) (32 : Int32) = some (nI (bN (decide (k < len ∧ c k = 32))), pq_wi S (x + 1365) 9 v1) := a1
    rw [F_X11_readQuote_b25.eq_2, if_neg (by decide), pq_bd1 a1']
    have f1 : fx x p S (pq_wi S (x + 1365) 9 v1) := fx_wf (by decide)
    have d1 := dM_9 (v := v1) d
    have rx1 := fx_rX f1 rx
    have rs1 := fx_rA v hcp f1 rs
    by_cases c1 : k < len ∧ c k = 32
    · rw [if_pos c1] at a2
      rw [b_01 (decide_eq_true c1), if_neg (by decide)]
      have st : stp (4, i, bg, P) (c k) = some (3, i, bg, P) := by rw [c1.2]; rfl
      have hA1 := stp_i hA st
      have e9' : (pq_wi S (x + 1365) 9 v1).1 (x + 1365) 9 = nI (k + 1) := by rw [wi_s, a2]
      obtain ⟨i', w, S1, q1, q2, q3, q4⟩ := m_wstep h hp hl (show k + 1 ≤ len by omega) hc (Or.inr ⟨rfl, rfl⟩) (fun z => absurd z (by decide)) hA1 rx1 e9' d1
      rw [pq_bd1 q1, pq_lt1]
      rcases q4 with ⟨z, ze⟩ | ⟨z, z1, z2, z3, z4, z5⟩
      · subst z
        rw [b_00 (decide_eq_false (Nat.lt_irrefl 0))]
        exact ⟨0, _, rq_0 (by omega), oc_tr f1 (by omega) (rn_stp c1.1 st) (oc_no q2 (by rw [wi_k (by decide)]; exact q3) ze ne_3)⟩
      · rw [b_01 (decide_eq_true z)]
        obtain ⟨b, S2, k1, k2⟩ := ih (len - (k + 1 + i')) (by omega) (k + 1 + i') n i' (adW P w) (pq_wi S1 (x + 1365) 11 (S1.1 (x + 1365) 11 + (1 : Int32))) (Nat.le_refl _) z1 (by omega) z2 z4 (fx_rX q2 rx1) (by rw [wi_k (by decide)]; exact q3) z5 (fx_rA v hcp q2 rs1)
        exact ⟨b, S2, k1, oc_tr (fx_tr f1 q2) (by omega) ((rn_stp c1.1 st).trans z3) k2⟩
    · rw [if_neg c1] at a2
      rw [b_00 (decide_eq_false c1), if_pos rfl]
      unfold F_X11_readQuote_b61
      rw [if_neg (by decide)]
      have e9' : (pq_wi S (x + 1365) 9 v1).1 (x + 1365) 9 = nI k := by rw [wi_s, a2]
      obtain ⟨v2, b1, b2⟩ := m_comes h hl hk hc (ch := 34) (by decide) rx1 e9'
      have b1' : F_X11_comes G (pq_wi S (x + 1365) 9 v1) (x + 1365) (34 : Int32) = some (nI (bN (decide (k < len ∧ c k = 34))), pq_wi (pq_wi S (x + 1365) 9 v1) (x + 1365) 9 v2) := b1
      rw [pq_bd1 b1']
      have f2 : fx x p S (pq_wi (pq_wi S (x + 1365) 9 v1) (x + 1365) 9 v2) := fx_tr f1 (fx_wf (by decide))
      have d2 := dM_9 (v := v2) d1
      have rx2 := fx_rX f2 rx
      by_cases c2 : k < len ∧ c k = 34
      · rw [if_pos c2] at b2
        rw [b_01 (decide_eq_true c2), if_neg (by decide)]
        have st : stp (4, i, bg, P) (c k) = some (5, i, bg, P) := by rw [c2.2]; rfl
        have hA1 := stp_i hA st
        have e92 : (pq_wi (pq_wi S (x + 1365) 9 v1) (x + 1365) 9 v2).1 (x + 1365) 9 = nI (k + 1) := by rw [wi_s, b2]
        obtain ⟨v3, g1, g2⟩ := m_comes h hl (show k + 1 ≤ len by omega) hc (ch := 64) (by decide) rx2 e92
        have g1' : F_X11_comes G (pq_wi (pq_wi S (x + 1365) 9 v1) (x + 1365) 9 v2) (x + 1365) (64 : Int32) = some (nI (bN (decide (k + 1 < len ∧ c (k + 1) = 64))), pq_wi (pq_wi (pq_wi S (x + 1365) 9 v1) (x + 1365) 9 v2) (x + 1365) 9 v3) := g1
        rw [pq_bd1 g1']
        have f3 : fx x p S (pq_wi (pq_wi (pq_wi S (x + 1365) 9 v1) (x + 1365) 9 v2) (x + 1365) 9 v3) := fx_tr f2 (fx_wf (by decide))
        have d3 := dM_9 (v := v3) d2
        have rx3 := fx_rX f3 rx
        have rs3 := fx_rA v hcp f3 rs
        by_cases c3 : k + 1 < len ∧ c (k + 1) = 64
        · rw [if_pos c3] at g2
          rw [b_01 (decide_eq_true c3), if_neg (by decide)]
          have st2 : stp (5, i, bg, P) (c (k + 1)) = some (6, i, bg, P) := by rw [c3.2]; rfl
          have hA2 := stp_i hA1 st2
          have ern : rn c len k (4, i, bg, P) = rn c len (k + 1 + 1) (6, i, bg, P) := (rn_stp c2.1 st).trans (rn_stp c3.1 st2)
          have e93 : (pq_wi (pq_wi (pq_wi S (x + 1365) 9 v1) (x + 1365) 9 v2) (x + 1365) 9 v3).1 (x + 1365) 9 = nI (k + 1 + 1) := by rw [wi_s, g2]
          obtain ⟨u, S4, m1, m2, m3, m4, m5⟩ := m_number h hl (show k + 1 + 1 ≤ len by omega) hc rx3 e93
          have f4 : fx x p (pq_wi (pq_wi (pq_wi S (x + 1365) 9 v1) (x + 1365) 9 v2) (x + 1365) 9 v3) S4 := fx_same m2 m3 m4
          unfold F_X11_readQuote_b88
          rw [if_neg (by decide), pq_bd1 m1]
          rcases m5 with ⟨w1, w2, w3⟩ | ⟨s, k', w1, w2, w3, w4, w5, w6⟩
          · rw [w1]
            refine ⟨0, S4, ?_, oc_tr f3 (by omega) ern (oc_no f4 w2 ?_ ne_6)⟩
            · unfold F_X11_readQuote_b101
              rw [if_pos rfl]
            · rcases w3 with z | z
              · exact rn_end (by omega)
              · have z' : ¬ (48 ≤ c (k + 1 + 1) ∧ c (k + 1 + 1) ≤ 57) := z
                exact rn_err (if_neg z')
          · obtain ⟨pl1, y1, y2, y3, y4⟩ := w6 i bg P hA2
            obtain ⟨S5, u1, u2, u3, u4⟩ := m_addQ h v hp hcp w2 (show bg ≤ P.wc by omega) (show P.wc ≤ 60 by omega) (show P.qc < 16 by omega) (fx_rA v hcp f4 rs3) (dM_same m2 m3 m4 d3)
            rw [w1, u1]
            exact ⟨1, S5, rfl, oc_tr (fx_tr f3 f4) (by omega) ern ⟨u2, Or.inr ⟨rfl, k', (pl1, i, bg, adQ P s bg), u3.trans w3, w4, w5, y2, y3, Or.inr y1, y4, u4⟩⟩⟩
        · rw [if_neg c3] at g2
          rw [b_00 (decide_eq_false c3), if_pos rfl]
          refine ⟨0, _, rq_88, oc_tr f2 (by omega) (rn_stp c2.1 st) (oc_no (fx_wf (by decide)) (by rw [wi_s, g2]) ?_ ne_5)⟩
          rcases Nat.lt_or_ge (k + 1) len with z | z
          · have z' : ¬ c (k + 1) = 64 := fun q => c3 ⟨z, q⟩
            exact rn_err (if_neg z')
          · exact rn_end z
      · rw [if_neg c2] at b2
        rw [b_00 (decide_eq_false c2), if_pos rfl]
        refine ⟨0, _, rq_88, oc_no f2 (by rw [wi_s, b2]) ?_ ne_4⟩
        rcases Nat.lt_or_ge k len with z | z
        · exact rn_err (stp_4 (fun q => c1 ⟨z, q⟩) (fun q => c2 ⟨z, q⟩) (by
            rcases hst with y | y
            · omega
            · exact y))
        · exact rn_end z
theorem oc_b {c : Nat → Nat} {len p k : Nat} {s : tA} {S S1 : pq_N} {b : Int32} (o : oc c len x T p k s S S1 b) : b = 0 ∨ b = 1 := by
  rcases o.2 with z | z
  · exact Or.inl z.1
  · exact Or.inr z.1
theorem m_quote (h : sh_G G x) (v : vT T) {p len : Nat} {c : Nat → Nat} (hp : p ≤ 20) (hcp : T.cnt ≤ p) (hl : len ≤ 100) (hc : ∀ j, j < len → c j < 1000) {k lt : Nat} {P : tP} {S : pq_N} (hk : k ≤ len) (hA : iA k (3, lt, P.wc, P)) (rx : rX S x len c) (e9 : S.1 (x + 1365) 9 = nI k) (d : dM S x T p P) (rs : rA (S.1 (x + 1366)) (S.2 (x + 1367)) T) :
    ∃ b S1, F_X11_readQuote G S (x + 1365) (nI p) = some (b, S1) ∧ oc c len x T p k (3, lt, P.wc, P) S S1 b := by
  obtain ⟨i, w, S1, q1, q2, q3, q4⟩ := m_wstep h hp hl hk hc (Or.inr ⟨rfl, rfl⟩) (fun z => absurd z (by decide)) hA rx e9 d
  unfold F_X11_readQuote
  rw [pq_bd1 q1, pq_lt1, d.2.1]
  rcases q4 with ⟨z, ze⟩ | ⟨z, z1, z2, z3, z4, z5⟩
  · subst z
    rw [b_00 (decide_eq_false (Nat.lt_irrefl 0))]
    exact ⟨0, _, rq_0 (fuel_lt (by omega)), oc_no q2 (by rw [wi_k (by decide)]; exact q3) ze ne_3⟩
  · rw [b_01 (decide_eq_true z)]
    obtain ⟨b, S2, k1, k2⟩ := rq_loop h v hp hcp hl hc (bg := P.wc) (len - (k + i)) (k + i) pq_fuel i (adW P w) (pq_wi S1 (x + 1365) 11 (S1.1 (x + 1365) 11 + (1 : Int32))) (Nat.le_refl _) z1 (fuel_lt (by omega)) z2 z4 (fx_rX q2 rx) (by rw [wi_k (by decide)]; exact q3) z5 (fx_rA v hcp q2 rs)
    exact ⟨b, S2, k1, oc_tr q2 (by omega) z3 k2⟩
theorem m_item (h : sh_G G x) (v : vT T) {p len : Nat} {c : Nat → Nat} (hp : p ≤ 20) (hcp : T.cnt ≤ p) (hl : len ≤ 100) (hc : ∀ j, j < len → c j < 1000) {k lt bg : Nat} {P : tP} {S : pq_N} (hk : k ≤ len) (hA : iA k (1, lt, bg, P)) (rx : rX S x len c) (e9 : S.1 (x + 1365) 9 = nI k) (d : dM S x T p P) (rs : rA (S.1 (x + 1366)) (S.2 (x + 1367)) T) :
    ∃ b S1, F_X11_readItem G S (x + 1365) (nI p) = some (b, S1) ∧ oc c len x T p k (1, lt, bg, P) S S1 b := by
  obtain ⟨v1, a1, a2⟩ := m_comes h hl hk hc (ch := 34) (by decide) rx e9
  have a1' : F_X11_comes G S (x + 1365) (34 : Int32) = some (nI (bN (decide (k < len ∧ c k = 34))), pq_wi S (x + 1365) 9 v1) := a1
  unfold F_X11_readItem
  rw [pq_bd1 a1']
  have f1 : fx x p S (pq_wi S (x + 1365) 9 v1) := fx_wf (by decide)
  have d1 := dM_9 (v := v1) d
  have rx1 := fx_rX f1 rx
  have rs1 := fx_rA v hcp f1 rs
  by_cases c1 : k < len ∧ c k = 34
  · rw [if_pos c1] at a2
    rw [b_01 (decide_eq_true c1), if_neg (by decide)]
    have st : stp (1, lt, bg, P) (c k) = some (3, lt, P.wc, P) := by rw [c1.2]; rfl
    have e9' : (pq_wi S (x + 1365) 9 v1).1 (x + 1365) 9 = nI (k + 1) := by rw [wi_s, a2]
    obtain ⟨b, S1, k1, k2⟩ := m_quote h v hp hcp hl hc (show k + 1 ≤ len by omega) (stp_i hA st) rx1 e9' d1 rs1
    rw [pq_bd1 k1, if_neg (fun z => z (oc_b k2))]
    exact ⟨b, S1, rfl, oc_tr f1 (by omega) (rn_stp c1.1 st) k2⟩
  · rw [if_neg c1] at a2
    rw [b_00 (decide_eq_false c1), if_pos rfl]
    have e9' : (pq_wi S (x + 1365) 9 v1).1 (x + 1365) 9 = nI k := by rw [wi_s, a2]
    obtain ⟨i, w, S1, q1, q2, q3, q4⟩ := m_wstep h hp hl hk hc (Or.inl ⟨rfl, rfl⟩) (fun _ => by omega) hA rx1 e9' d1
    rw [pq_bd1 q1, pq_lt1]
    rcases q4 with ⟨z, ze⟩ | ⟨z, z1, z2, z3, z4, z5⟩
    · subst z
      rw [b_00 (decide_eq_false (Nat.lt_irrefl 0)), if_neg (fun z => z (Or.inl rfl))]
      exact ⟨0, _, rfl, oc_no (fx_tr f1 q2) (by rw [wi_k (by decide)]; exact q3) ze ne_1⟩
    · rw [b_01 (decide_eq_true z), if_neg (fun z => z (Or.inr rfl))]
      refine ⟨1, _, rfl, fx_tr f1 q2, Or.inr ⟨rfl, k + i, (2, i, bg, adW P w), by rw [wi_k (by decide)]; exact q3, z1, by omega, z2, z3, Or.inl rfl, ?_, z5⟩⟩
      rcases z4 with y | y
      · exact Or.inl y
      · by_cases c3 : c (k + i) = 32
        · exact Or.inr (Or.inl c3)
        · exact Or.inr (Or.inr (stp_2 c3 y))
theorem ac_no {len k : Nat} {s : tA} (h : ¬ en_ s.1) : ac len (k, s) = false := by
  unfold ac
  have e : (s.1 == 2 || s.1 == 7 || s.1 == 8) = false := by
    rw [Bool.eq_false_iff]
    intro z
    apply h
    unfold en_
    simpa [or_assoc] using z
  show (k == len && (s.1 == 2 || s.1 == 7 || s.1 == 8)) = false
  rw [e, Bool.and_false]
theorem ac_ne {len k : Nat} {s : tA} (h : k ≠ len) : ac len (k, s) = false := by
  show (k == len && (s.1 == 2 || s.1 == 7 || s.1 == 8)) = false
  rw [beq_false_of_ne h, Bool.false_and]
theorem ac_yes {len : Nat} {s : tA} (h : en_ s.1) : ac len (len, s) = true := by
  show (len == len && (s.1 == 2 || s.1 == 7 || s.1 == 8)) = true
  unfold en_ at h
  simpa [or_assoc] using h
theorem en_32 {s : tA} (h : en_ s.1) : stp s 32 = some (1, s.2.1, s.2.2.1, s.2.2.2) := by
  obtain ⟨pl, lt, bg, P⟩ := s
  rcases h with z | z | z
  · have z' : pl = 2 := z
    subst z'; rfl
  · have z' : pl = 7 := z
    subst z'; rfl
  · have z' : pl = 8 := z
    subst z'; rfl
theorem rt_loop (h : sh_G G x) (v : vT T) {p len : Nat} {c : Nat → Nat} (hp : p ≤ 20) (hcp : T.cnt ≤ p) (hl : len ≤ 100) (hc : ∀ j, j < len → c j < 1000) : ∀ (r k n : Nat) (s : tA) (S : pq_N), len - k ≤ r → k ≤ len → r < n → iA k s → en_ s.1 → (k = len ∨ c k = 32 ∨ stp s (c k) = none) → rX S x len c → S.1 (x + 1365) 9 = nI k → dM S x T p s.2.2.2 → rA (S.1 (x + 1366)) (S.2 (x + 1367)) T →
    ∃ S1, F_X11_readText_b26 G n S (x + 1365) (nI p) (1 : Int32) = some (nI (bN (ac len (rn c len k s))), S1) ∧ fx x p S S1 ∧ S1.1 (x + 1365) 9 = nI (rn c len k s).1 ∧ (ac len (rn c len k s) = true → dM S1 x T p (rn c len k s).2.2.2.2) := by
  intro r
  induction r using Nat.strongRecOn with
  | ind r ih =>
    intro k n s S hr hk hn hA hen hst rx e9 d rs
    obtain ⟨n, rfl⟩ : ∃ m, n = m + 1 := ⟨n - 1, by omega⟩
    obtain ⟨v1, a1, a2⟩ := m_comes h hl hk hc (ch := 32) (by decide) rx e9
    have a1' : F_X11_comes G S (x + 1365) (32 : Int32) = some (nI (bN (decide (k < len ∧ c k = 32))), pq_wi S (x + 1365) 9 v1) := a1
    rw [F_X11_readText_b26.eq_2, if_neg (by decide), pq_bd1 a1']
    have f1 : fx x p S (pq_wi S (x + 1365) 9 v1) := fx_wf (by decide)
    have d1 := dM_9 (v := v1) d
    have rx1 := fx_rX f1 rx
    have rs1 := fx_rA v hcp f1 rs
    by_cases c1 : k < len ∧ c k = 32
    · rw [if_pos c1] at a2
      rw [b_01 (decide_eq_true c1), if_neg (by decide)]
      have st : stp s (c k) = some (1, s.2.1, s.2.2.1, s.2.2.2) := by rw [c1.2]; exact en_32 hen
      have e9' : (pq_wi S (x + 1365) 9 v1).1 (x + 1365) 9 = nI (k + 1) := by rw [wi_s, a2]
      obtain ⟨b, S1, k1, k2, k3⟩ := m_item h v hp hcp hl hc (show k + 1 ≤ len by omega) (stp_i hA st) rx1 e9' d1 rs1
      rw [pq_bd1 k1, rn_stp c1.1 st]
      rcases k3 with ⟨rfl, k', s', y1, y2, y3⟩ | ⟨rfl, k', s', y1, y2, y3, y4, y5, y6, y7, y8⟩
      · rw [y2, ac_no y3]
        obtain ⟨n, rfl⟩ : ∃ m, n = m + 1 := ⟨n - 1, by omega⟩
        refine ⟨S1, ?_, fx_tr f1 k2, y1, fun z => absurd z (by decide)⟩
        rw [F_X11_readText_b26.eq_2, if_pos rfl]
        unfold F_X11_readText_b48
        rw [if_pos rfl]
        rfl
      · rw [y5]
        obtain ⟨S2, p1, p2, p3, p4⟩ := ih (len - k') (by omega) k' n s' S1 (Nat.le_refl _) y2 (by omega) y4 y6 y7 (fx_rX k2 rx1) y1 y8 (fx_rA v hcp k2 rs1)
        exact ⟨S2, p1, fx_tr f1 (fx_tr k2 p2), p3, p4⟩
    · rw [if_neg c1] at a2
      rw [b_00 (decide_eq_false c1), if_pos rfl]
      unfold F_X11_readText_b48
      have e9' : (pq_wi S (x + 1365) 9 v1).1 (x + 1365) 9 = nI k := by rw [wi_s, a2]
      rw [if_neg (by decide), rx1.1, e9', if_eqI (by omega) (by omega)]
      rcases Nat.lt_or_ge k len with z | z
      · have sn : stp s (c k) = none := by
          rcases hst with y | y | y
          · omega
          · exact absurd ⟨z, y⟩ c1
          · exact y
        rw [if_neg (by omega), rn_err sn, ac_ne (by omega)]
        exact ⟨_, rfl, f1, e9', fun q => absurd q (by decide)⟩
      · have zk : k = len := by omega
        subst zk
        rw [if_pos rfl, rn_end z, ac_yes hen]
        exact ⟨_, rfl, f1, e9', fun _ => d1⟩
theorem m_text (h : sh_G G x) (v : vT T) {p len : Nat} {c : Nat → Nat} (hp : p ≤ 20) (hcp : T.cnt ≤ p) (hl : len ≤ 100) (hc : ∀ j, j < len → c j < 1000) {S : pq_N} (rx : rX S x len c) (rs : rA (S.1 (x + 1366)) (S.2 (x + 1367)) T) (au pd : Int32) :
    ∃ S1, F_X11_readText G S (x + 1365) (nI p) = some (nI (bN (ac len (tx c len au pd))), S1) ∧ fx x p S S1 ∧ S1.1 (x + 1365) 9 = nI (tx c len au pd).1 ∧ (ac len (tx c len au pd) = true → dM S1 x T p (tx c len au pd).2.2.2.2) := by
  have f0 : fx x p S (pq_wi (pq_wi (pq_wi (pq_wi S (x + 1365) 9 (0 : Int32)) (x + 1365) 10 (0 : Int32)) (x + 1365) 11 (0 : Int32)) (x + 1365) 12 (0 : Int32)) := fx_tr (fx_wf (by decide)) (fx_tr (fx_wf (by decide)) (fx_tr (fx_wf (by decide)) (fx_wf (by decide))))
  have e9 : (pq_wi (pq_wi (pq_wi (pq_wi S (x + 1365) 9 (0 : Int32)) (x + 1365) 10 (0 : Int32)) (x + 1365) 11 (0 : Int32)) (x + 1365) 12 (0 : Int32)).1 (x + 1365) 9 = nI 0 := by
    rw [wi_k (by decide), wi_k (by decide), wi_k (by decide), wi_s]; rfl
  have d0 : dM (pq_wi (pq_wi (pq_wi (pq_wi S (x + 1365) 9 (0 : Int32)) (x + 1365) 10 (0 : Int32)) (x + 1365) 11 (0 : Int32)) (x + 1365) 12 (0 : Int32)) x T p (mP au pd 0 0 (fun _ => 0) (fun _ => 0) (fun _ => 0) (fun _ => 0)) := by
    refine ⟨?_, ?_, ?_, fun _ => ⟨fun j hj => absurd hj (Nat.not_lt_zero _), fun q hq => absurd hq (Nat.not_lt_zero _)⟩⟩
    · rw [wi_k (by decide), wi_k (by decide), wi_s]; rfl
    · rw [wi_k (by decide), wi_s]; rfl
    · rw [wi_s]; rfl
  obtain ⟨b, S1, k1, k2, k3⟩ := m_item h v hp hcp hl hc (Nat.zero_le len) (s0_i (au := au) (pd := pd)) (fx_rX f0 rx) e9 d0 (fx_rA v hcp f0 rs)
  unfold F_X11_readText
  simp only [pq_lt1]
  rw [pq_bd1 k1]
  have et : tx c len au pd = rn c len 0 (s0 au pd) := rfl
  rcases k3 with ⟨rfl, k', s', y1, y2, y3⟩ | ⟨rfl, k', s', y1, y2, y3, y4, y5, y6, y7, y8⟩
  · have et' : tx c len au pd = (k', s') := y2
    rw [et', ac_no y3]
    refine ⟨S1, ?_, fx_tr f0 k2, y1, fun z => absurd z (by decide)⟩
    rw [show pq_fuel = 99999 + 1 from rfl, F_X11_readText_b26.eq_2, if_pos rfl]
    unfold F_X11_readText_b48
    rw [if_pos rfl]
    rfl
  · have et' : tx c len au pd = rn c len k' s' := y5
    rw [et']
    obtain ⟨S2, p1, p2, p3, p4⟩ := rt_loop h v hp hcp hl hc (len - k') k' pq_fuel s' S1 (Nat.le_refl _) y2 (fuel_lt (by omega)) y4 y6 y7 (fx_rX k2 (fx_rX f0 rx)) y1 y8 (fx_rA v hcp k2 (fx_rA v hcp f0 rs))
    exact ⟨S2, p1, fx_tr f0 (fx_tr k2 p2), p3, p4⟩
end MW
