/-! THE REFERENCE reads texts -/
theorem seW_adW {P : tP} {u v : Int64} : seW (adW P u) v = adW P v := by
  show mP P.au P.pd (P.wc + 1) P.qc (vp_updL (vp_updL P.w P.wc u) (P.wc + 1 - 1) v) P.qs P.qb P.ql = mP P.au P.pd (P.wc + 1) P.qc (vp_updL P.w P.wc v) P.qs P.qb P.ql
  have e : vp_updL (vp_updL P.w P.wc u) (P.wc + 1 - 1) v = vp_updL P.w P.wc v := by
    rw [Nat.add_sub_cancel]
    funext j
    by_cases c : j = P.wc
    · rw [c, pk_uLs, pk_uLs]
    · rw [pk_uLn c, pk_uLn c, pk_uLn c]
  rw [e]
theorem seQ_adQ {P : tP} {s s' b : Nat} : seQ (adQ P s b) s' = adQ P s' b := by
  show mP P.au P.pd P.wc (P.qc + 1) P.w (updN (updN P.qs P.qc s) (P.qc + 1 - 1) s') (updN P.qb P.qc b) (updN P.ql P.qc (P.wc - b)) = mP P.au P.pd P.wc (P.qc + 1) P.w (updN P.qs P.qc s') (updN P.qb P.qc b) (updN P.ql P.qc (P.wc - b))
  have e : updN (updN P.qs P.qc s) (P.qc + 1 - 1) s' = updN P.qs P.qc s' := by
    rw [Nat.add_sub_cancel]
    funext j
    unfold updN
    by_cases c : j = P.qc
    · rw [if_pos c, if_pos c]
    · rw [if_neg c, if_neg c, if_neg c]
  rw [e]
def let_ (c : Nat) : Prop := 97 ≤ c ∧ c ≤ 122
def dig_ (c : Nat) : Prop := 48 ≤ c ∧ c ≤ 57
theorem stp_a {pl0 pl1 lt bg c : Nat} {P : tP} (hp : (pl0 = 1 ∧ pl1 = 2) ∨ (pl0 = 3 ∧ pl1 = 4)) (hc : let_ c) : stp (pl0, lt, bg, P) c = some (pl1, 1, bg, adW P ((0 : Int64) ||| shl c 0)) := by
  have hc' : 97 ≤ c ∧ c ≤ 122 := hc
  rcases hp with ⟨rfl, rfl⟩ | ⟨rfl, rfl⟩
  · show (if c = 34 then some (3, lt, P.wc, P) else fiL c 2 bg P) = _
    rw [if_neg (by omega)]
    exact if_pos hc'
  · exact if_pos hc'
theorem stp_b {pl1 i bg c : Nat} {P : tP} {w : Int64} (hp : pl1 = 2 ∨ pl1 = 4) (hc : let_ c) (hi : i < 7) : stp (pl1, i, bg, adW P w) c = some (pl1, i + 1, bg, adW P (w ||| shl c i)) := by
  have hc' : 97 ≤ c ∧ c ≤ 122 := hc
  have ew : (adW P w).w ((adW P w).wc - 1) = w := by
    show vp_updL P.w P.wc w (P.wc + 1 - 1) = w
    rw [Nat.add_sub_cancel, pk_uLs]
  have em : moL c pl1 i bg (adW P w) = some (pl1, i + 1, bg, adW P (w ||| shl c i)) := by
    unfold moL
    rw [if_pos ⟨hc'.1, hc'.2, hi⟩, ew, seW_adW]
  rcases hp with rfl | rfl
  · show (if c = 32 then some (1, i, bg, adW P w) else moL c 2 i bg (adW P w)) = _
    rw [if_neg (by omega)]; exact em
  · show (if c = 34 then some (5, i, bg, adW P w) else if c = 32 then some (3, i, bg, adW P w) else moL c 4 i bg (adW P w)) = _
    rw [if_neg (by omega), if_neg (by omega)]; exact em
/-- what a word of the text does: i letters from k on -/
def wA (c : Nat → Nat) (len k i : Nat) (pl0 pl1 lt bg : Nat) (P : tP) (w : Int64) : Prop := (i = 0 ∧ w = 0) ∨ (1 ≤ i ∧ iA (k + i) (pl1, i, bg, adW P w) ∧ rn c len k (pl0, lt, bg, P) = rn c len (k + i) (pl1, i, bg, adW P w))
theorem wA_next {c : Nat → Nat} {len k i pl0 pl1 lt bg : Nat} {P : tP} {w : Int64} (hp : (pl0 = 1 ∧ pl1 = 2) ∨ (pl0 = 3 ∧ pl1 = 4)) (h0 : iA k (pl0, lt, bg, P)) (h : wA c len k i pl0 pl1 lt bg P w) (hk : k + i < len) (hi : i < 7) (hc : let_ (c (k + i))) : wA c len k (i + 1) pl0 pl1 lt bg P (w ||| shl (c (k + i)) i) := by
  rcases h with ⟨rfl, rfl⟩ | ⟨h1, h2, h3⟩
  · have e := stp_a (lt := lt) (bg := bg) (P := P) hp hc
    rw [Nat.add_zero] at e hk ⊢
    refine Or.inr ⟨Nat.le_refl _, stp_i h0 e, ?_⟩
    rw [rn_stp hk e]
    rfl
  · have e := stp_b (bg := bg) (P := P) (w := w) (i := i) (pl1 := pl1) (by omega) hc hi
    refine Or.inr ⟨by omega, stp_i h2 e, ?_⟩
    rw [h3, rn_stp hk e]; rfl
section MT
variable {G : pq_G} {x : Nat} {T : tT}
/-- the text that is read -/
def rX (S : pq_N) (x len : Nat) (c : Nat → Nat) : Prop := S.1 (x + 1365) 7 = nI len ∧ ∀ j, j < len → S.1 (x + 1370) j = nI (c j)
/-- what stays when the text is read as the pamphlet p -/
def fx (x p : Nat) (S S1 : pq_N) : Prop := (∀ b, b ≠ x + 1365 → b ≠ x + 1366 → b ≠ x + 1367 → S1.1 b = S.1 b ∧ S1.2 b = S.2 b) ∧ (∀ k, (k < 9 ∨ 13 ≤ k) → S1.1 (x + 1365) k = S.1 (x + 1365) k) ∧ (∀ t, t < 52 * p + 6 → S1.1 (x + 1366) t = S.1 (x + 1366) t) ∧ ∀ t, t < 60 * p → S1.2 (x + 1367) t = S.2 (x + 1367) t
theorem fx_rfl {p : Nat} {S : pq_N} : fx x p S S := ⟨fun _ _ _ _ => ⟨rfl, rfl⟩, fun _ _ => rfl, fun _ _ => rfl, fun _ _ => rfl⟩
theorem fx_tr {p : Nat} {S S1 S2 : pq_N} (h : fx x p S S1) (h' : fx x p S1 S2) : fx x p S S2 := ⟨fun b h1 h2 h3 => ⟨(h'.1 b h1 h2 h3).1.trans (h.1 b h1 h2 h3).1, (h'.1 b h1 h2 h3).2.trans (h.1 b h1 h2 h3).2⟩, fun k hk => (h'.2.1 k hk).trans (h.2.1 k hk), fun t ht => (h'.2.2.1 t ht).trans (h.2.2.1 t ht), fun t ht => (h'.2.2.2 t ht).trans (h.2.2.2 t ht)⟩
theorem fx_wf {p k : Nat} {v : Int32} {S : pq_N} (hk : ¬ (k < 9 ∨ 13 ≤ k)) : fx x p S (pq_wi S (x + 1365) k v) := ⟨fun b h1 _ _ => ⟨wi_a h1, rfl⟩, fun j hj => wi_k (fun z => hk (z ▸ hj)), fun t _ => by rw [wi_a (by omega)], fun _ _ => rfl⟩
theorem fx_wi {p k : Nat} {v : Int32} {S : pq_N} (hk : 52 * p + 6 ≤ k) : fx x p S (pq_wi S (x + 1366) k v) := ⟨fun b _ h2 _ => ⟨wi_a h2, rfl⟩, fun j hj => by rw [wi_a (by omega)], fun t ht => wi_k (by omega), fun _ _ => rfl⟩
theorem fx_wj {p k : Nat} {v : Int64} {S : pq_N} (hk : 60 * p ≤ k) : fx x p S (pq_wj S (x + 1367) k v) := ⟨fun b _ _ h3 => ⟨rfl, wj_a h3⟩, fun j hj => rfl, fun t ht => rfl, fun t ht => wj_k (by omega)⟩
theorem fx_rX {p len : Nat} {c : Nat → Nat} {S S1 : pq_N} (h : fx x p S S1) (r : rX S x len c) : rX S1 x len c := ⟨by rw [h.2.1 7 (by omega)]; exact r.1, fun j hj => by rw [(h.1 (x + 1370) (by omega) (by omega) (by omega)).1]; exact r.2 j hj⟩
theorem fx_rA {p : Nat} {S S1 : pq_N} (v : vT T) (hp : T.cnt ≤ p) (h : fx x p S S1) (r : rA (S.1 (x + 1366)) (S.2 (x + 1367)) T) : rA (S1.1 (x + 1366)) (S1.2 (x + 1367)) T := by
  obtain ⟨r1, r2, r3⟩ := r
  refine ⟨by rw [h.2.2.1 0 (by omega)]; exact r1, by rw [h.2.2.1 1 (by omega)]; exact r2, fun k hk => ?_⟩
  exact rAP_cg (v20 v hk) (v60 v hk) (v16 v hk) (fun j h1 h2 => h.2.2.1 j (by omega)) (fun j h1 h2 => h.2.2.2 j (by omega)) (r3 k hk)
/-- how bad a source is -/
def wq (T : tT) (s : Nat) : Nat := if s < T.cnt then (if (T.pm s).pd = T.day then 4 else 0) else 3
def wsf (T : tT) (P : tP) : Nat → Nat
  | 0 => 0
  | q + 1 => if wsf T P q = 3 then 3 else if wq T (P.qs q) = 3 then 3 else if wq T (P.qs q) ≤ wsf T P q then wsf T P q else wq T (P.qs q)
theorem wsf_le {P : tP} : ∀ q, wsf T P q ≤ 4
  | 0 => Nat.zero_le _
  | q + 1 => by
    have h1 := wsf_le (P := P) q
    have h2 : wq T (P.qs q) ≤ 4 := by
      unfold wq
      split
      · split <;> omega
      · omega
    show (if wsf T P q = 3 then 3 else if wq T (P.qs q) = 3 then 3 else if wq T (P.qs q) ≤ wsf T P q then wsf T P q else wq T (P.qs q)) ≤ 4
    split
    · omega
    · split
      · omega
      · split <;> omega
theorem wsf_cg {P P' : tP} : ∀ {n}, (∀ q, q < n → P'.qs q = P.qs q) → wsf T P' n = wsf T P n
  | 0, _ => rfl
  | n + 1, h => by
    have ih := wsf_cg (n := n) (fun q hq => h q (by omega))
    show (if wsf T P' n = 3 then 3 else if wq T (P'.qs n) = 3 then 3 else if wq T (P'.qs n) ≤ wsf T P' n then wsf T P' n else wq T (P'.qs n)) = _
    rw [ih, h n (by omega)]; rfl
/-- the reference holds what is read as the pamphlet p -/
def dM (S : pq_N) (x : Nat) (T : tT) (p : Nat) (P : tP) : Prop := S.1 (x + 1365) 10 = nI (wsf T P P.qc) ∧ S.1 (x + 1365) 11 = nI P.wc ∧ S.1 (x + 1365) 12 = nI P.qc ∧ (p < 20 → (∀ j, j < P.wc → S.2 (x + 1367) (60 * p + j) = P.w j) ∧ ∀ q, q < P.qc → S.1 (x + 1366) (52 * p + (6 + 3 * q)) = nI (P.qs q) ∧ S.1 (x + 1366) (52 * p + (6 + 3 * q + 1)) = nI (P.qb q) ∧ S.1 (x + 1366) (52 * p + (6 + 3 * q + 2)) = nI (P.ql q))
theorem dM_9 {S : pq_N} {p : Nat} {P : tP} {v : Int32} (d : dM S x T p P) : dM (pq_wi S (x + 1365) 9 v) x T p P := by
  obtain ⟨d1, d2, d3, d4⟩ := d
  refine ⟨by rw [wi_k (by decide)]; exact d1, by rw [wi_k (by decide)]; exact d2, by rw [wi_k (by decide)]; exact d3, fun z => ?_⟩
  rw [wi_a (show x + 1366 ≠ x + 1365 by omega)]
  exact d4 z
/-- the next character -/
theorem m_comes (h : sh_G G x) {S : pq_N} {len k ch : Nat} {c : Nat → Nat} (hl : len ≤ 100) (hk : k ≤ len) (hc : ∀ j, j < len → c j < 1000) (hch : ch < 1000) (r : rX S x len c) (e9 : S.1 (x + 1365) 9 = nI k) : ∃ v, F_X11_comes G S (x + 1365) (nI ch) = some (nI (bN (decide (k < len ∧ c k = ch))), pq_wi S (x + 1365) 9 v) ∧ v = nI (if k < len ∧ c k = ch then k + 1 else k) := by
  have ht := (sh_mo h).2.2.2.2.1
  have no : F_X11_comes_b29 G S (x + 1365) (0 : Int32) = some (nI 0, pq_wi S (x + 1365) 9 (nI k)) := by
    unfold F_X11_comes_b29
    rw [if_pos rfl, pq_lt1, if_neg (by decide), e9, show (0 : Int32) = nI 0 from rfl, nI_add]
    rfl
  have yes : F_X11_comes_b29 G S (x + 1365) (1 : Int32) = some (nI 1, pq_wi S (x + 1365) 9 (nI (k + 1))) := by
    unfold F_X11_comes_b29
    rw [if_neg (by decide), pq_lt1, if_neg (by decide), e9, nI_1]
    rfl
  unfold F_X11_comes
  rw [r.1, e9, if_leI (by omega) (by omega)]
  by_cases c1 : len ≤ k
  · have cf : ¬ (k < len ∧ c k = ch) := fun z => by omega
    rw [if_pos c1, no, if_neg cf, decide_eq_false cf]
    exact ⟨_, rfl, rfl⟩
  · rw [if_neg c1, ht.1, ht.2, nI_clamp (by omega), if_neg (in_c (show k < 100 by omega) (by omega)), r.2 k (by omega), if_eqI (by have := hc k (by omega); omega) (by omega)]
    by_cases c2 : c k = ch
    · have cf : k < len ∧ c k = ch := ⟨by omega, c2⟩
      rw [if_pos c2, yes, if_pos cf, decide_eq_true cf]
      exact ⟨_, rfl, rfl⟩
    · have cf : ¬ (k < len ∧ c k = ch) := fun z => c2 z.2
      rw [if_neg c2, no, if_neg cf, decide_eq_false cf]
      exact ⟨_, rfl, rfl⟩
theorem m_in2 {S : pq_N} {a lo hi : Nat} (ha : a < 2147483648) (hl : lo < 2147483648) (hh : hi < 2147483648) : F_X11_in G S (nI a) (nI lo) (nI hi) = some (nI (if lo ≤ a ∧ a ≤ hi then 1 else 0), S) := by
  unfold F_X11_in
  rw [if_ltI ha hl, if_ltI hh ha]
  by_cases c1 : a < lo
  · rw [if_pos c1, if_neg (by omega)]; rfl
  · rw [if_neg c1]
    by_cases c2 : hi < a
    · rw [if_pos c2, if_neg (by omega)]; rfl
    · rw [if_neg c2, if_pos (by omega)]; rfl
/-- readWord, behind i letters -/
theorem rw_loop (h : sh_G G x) {p len k : Nat} {c : Nat → Nat} (hp : p ≤ 20) (hl : len ≤ 100) (hc : ∀ j, j < len → c j < 1000) {pl0 pl1 lt bg : Nat} {P : tP} (hpl : (pl0 = 1 ∧ pl1 = 2) ∨ (pl0 = 3 ∧ pl1 = 4)) (h0 : iA k (pl0, lt, bg, P)) (hw : P.wc < 60) {S : pq_N} : ∀ (r i n : Nat) (w : Int64) (U : pq_N), i + r = 7 → r < n → k + i ≤ len → U.2 = S.2 → (∀ b, b ≠ x + 1365 → U.1 b = S.1 b) → (∀ j, j ≠ 9 → U.1 (x + 1365) j = S.1 (x + 1365) j) → rX S x len c → U.1 (x + 1365) 9 = nI (k + i) → wA c len k i pl0 pl1 lt bg P w →
    ∃ i' w' S1, F_X11_readWord_b5 G n U (x + 1365) (nI p) (nI P.wc) w (nI i) = some (nI (bN (decide (0 < i'))), S1) ∧ S1.1 (x + 1365) 9 = nI (k + i') ∧ k + i' ≤ len ∧ i' ≤ 7 ∧ wA c len k i' pl0 pl1 lt bg P w' ∧ (k + i' = len ∨ ¬ let_ (c (k + i')) ∨ i' = 7) ∧ (∀ b, b ≠ x + 1365 → S1.1 b = S.1 b) ∧ (∀ j, j ≠ 9 → S1.1 (x + 1365) j = S.1 (x + 1365) j) ∧ (∀ b, b ≠ x + 1367 → S1.2 b = S.2 b) ∧ (∀ t, t ≠ 60 * p + P.wc → S1.2 (x + 1367) t = S.2 (x + 1367) t) ∧ (20 ≤ p → S1.2 = S.2) ∧ (p < 20 → S1.2 (x + 1367) (60 * p + P.wc) = w') := by
  have ht := (sh_mo h).2.2.2.2.1
  have hww := (sh_mo h).2.1
  -- the end
  have fin : ∀ (i : Nat) (w : Int64) (U : pq_N), i ≤ 7 → k + i ≤ len → U.2 = S.2 → (∀ b, b ≠ x + 1365 → U.1 b = S.1 b) → (∀ j, j ≠ 9 → U.1 (x + 1365) j = S.1 (x + 1365) j) → U.1 (x + 1365) 9 = nI (k + i) → wA c len k i pl0 pl1 lt bg P w → (k + i = len ∨ ¬ let_ (c (k + i)) ∨ i = 7) →
      ∃ i' w' S1, F_X11_readWord_b75 G U (x + 1365) (nI p) (nI P.wc) w (nI i) = some (nI (bN (decide (0 < i'))), S1) ∧ S1.1 (x + 1365) 9 = nI (k + i') ∧ k + i' ≤ len ∧ i' ≤ 7 ∧ wA c len k i' pl0 pl1 lt bg P w' ∧ (k + i' = len ∨ ¬ let_ (c (k + i')) ∨ i' = 7) ∧ (∀ b, b ≠ x + 1365 → S1.1 b = S.1 b) ∧ (∀ j, j ≠ 9 → S1.1 (x + 1365) j = S.1 (x + 1365) j) ∧ (∀ b, b ≠ x + 1367 → S1.2 b = S.2 b) ∧ (∀ t, t ≠ 60 * p + P.wc → S1.2 (x + 1367) t = S.2 (x + 1367) t) ∧ (20 ≤ p → S1.2 = S.2) ∧ (p < 20 → S1.2 (x + 1367) (60 * p + P.wc) = w') := by
    intro i w U hi hk u2 u1 uf u9 hA hst
    have er : ∀ V : pq_N, (if nI i ≤ (0 : Int32) then some ((0 : Int32), V) else some ((1 : Int32), V)) = some (nI (bN (decide (0 < i))), V) := fun V => by
      rcases Nat.eq_zero_or_pos i with z | z
      · subst z; rfl
      · rw [if_neg (nI_nle z (by omega)), decide_eq_true z]; rfl
    unfold F_X11_readWord_b75
    rw [show (20 : Int32) = nI 20 from rfl, if_leI (by omega) (by omega), show (60 : Int32) = nI 60 from rfl, if_leI (by omega) (by omega), er]
    by_cases c1 : 20 ≤ p
    · rw [if_pos c1]
      exact ⟨i, w, U, rfl, u9, hk, hi, hA, hst, u1, uf, fun b _ => by rw [u2], fun t _ => by rw [u2], fun _ => u2, fun z => by omega⟩
    · rw [if_neg c1, if_neg (by omega), nI_mul, nI_add, hww.1, hww.2, nI_clamp (by omega), if_neg (in_c (show 60 * p + P.wc < 1200 by omega) (by omega)), pq_lt1, er]
      exact ⟨i, w, _, rfl, u9, hk, hi, hA, hst, u1, uf, fun b hb => by rw [wj_a hb, u2], fun t ht => by rw [wj_k ht, u2], fun z => by omega, fun _ => wj_s⟩
  intro r
  induction r with
  | zero =>
    intro i n w U hir hn hk u2 u1 uf rx u9 hA
    obtain ⟨n, rfl⟩ : ∃ k, n = k + 1 := ⟨n - 1, by omega⟩
    have e : i = 7 := by omega
    rw [F_X11_readWord_b5.eq_2, if_pos (by rw [e]; decide)]
    exact fin i w U (by omega) hk u2 u1 uf u9 hA (Or.inr (Or.inr e))
  | succ r ih =>
    intro i n w U hir hn hk u2 u1 uf rx u9 hA
    obtain ⟨n, rfl⟩ : ∃ k, n = k + 1 := ⟨n - 1, by omega⟩
    have u7 : U.1 (x + 1365) 7 = nI len := by rw [uf 7 (by decide)]; exact rx.1
    rw [F_X11_readWord_b5.eq_2, show (7 : Int32) = nI 7 from rfl, if_neg (nI_ge (by omega) (by omega)), u7, u9, if_leI (by omega) (by omega)]
    by_cases c1 : len ≤ k + i
    · rw [if_pos c1]
      exact fin i w U (by omega) hk u2 u1 uf u9 hA (Or.inl (by omega))
    · have ec : U.1 (x + 1370) (k + i) = nI (c (k + i)) := by rw [u1 _ (by omega)]; exact rx.2 _ (by omega)
      have hci := hc (k + i) (by omega)
      rw [if_neg c1, ht.1, ht.2, nI_clamp (by omega), if_neg (in_c (show k + i < 100 by omega) (by omega)), ec, show (97 : Int32) = nI 97 from rfl, show (122 : Int32) = nI 122 from rfl, pq_bd1 (m_in2 (by omega) (by omega) (by omega))]
      by_cases c2 : 97 ≤ c (k + i) ∧ c (k + i) ≤ 122
      · have e5 : F_X11_shifted G U (nI (c (k + i))) (nI i) = some (shl (c (k + i)) i, U) := rfl
        rw [if_pos c2, if_neg (by decide), if_neg (by rw [u9, nI_clamp (by omega)]; exact in_c (show k + i < 100 by omega) (by omega)), u9, nI_clamp (by omega), ec, pq_bd1 e5, pq_lt1, u9, nI_1, nI_1]
        exact ih (i + 1) n _ _ (by omega) (by omega) (by omega) u2 (fun b hb => by rw [wi_a hb]; exact u1 b hb) (fun j hj => by rw [wi_k hj]; exact uf j hj) rx wi_s (wA_next hpl h0 hA (by omega) (by omega) c2)
      · rw [if_neg c2, if_pos (by decide)]
        exact fin i w U (by omega) hk u2 u1 uf u9 hA (Or.inr (Or.inl c2))
end MT
