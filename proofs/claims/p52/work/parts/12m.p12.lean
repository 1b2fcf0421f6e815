/-! TEXTS: what a character does. A state: the place (1 .. 8), letters of the word, where the quotation begins, words and quotations so far -/
abbrev tA : Type := Nat × Nat × Nat × tP
def updN (f : Nat → Nat) (k v : Nat) : Nat → Nat := fun j => if j = k then v else f j
def adW (P : tP) (w : Int64) : tP := mP P.au P.pd (P.wc + 1) P.qc (vp_updL P.w P.wc w) P.qs P.qb P.ql
def seW (P : tP) (w : Int64) : tP := mP P.au P.pd P.wc P.qc (vp_updL P.w (P.wc - 1) w) P.qs P.qb P.ql
def adQ (P : tP) (s b : Nat) : tP := mP P.au P.pd P.wc (P.qc + 1) P.w (updN P.qs P.qc s) (updN P.qb P.qc b) (updN P.ql P.qc (P.wc - b))
def seQ (P : tP) (s : Nat) : tP := mP P.au P.pd P.wc P.qc P.w (updN P.qs (P.qc - 1) s) P.qb P.ql
def shl (c i : Nat) : Int64 := (Int32.toInt64 ((nI c - (97 : Int32)) + (1 : Int32))) <<< (Int32.toInt64 ((5 : Int32) * ((6 : Int32) - nI i)) &&& 63)
def fiL (c nx bg : Nat) (P : tP) : Option tA := if 97 ≤ c ∧ c ≤ 122 then some (nx, 1, bg, adW P ((0 : Int64) ||| shl c 0)) else none
def moL (c pl lt bg : Nat) (P : tP) : Option tA := if 97 ≤ c ∧ c ≤ 122 ∧ lt < 7 then some (pl, lt + 1, bg, seW P (P.w (P.wc - 1) ||| shl c lt)) else none
def stp : tA → Nat → Option tA
  | (1, lt, bg, P), c => if c = 34 then some (3, lt, P.wc, P) else fiL c 2 bg P
  | (2, lt, bg, P), c => if c = 32 then some (1, lt, bg, P) else moL c 2 lt bg P
  | (3, _, bg, P), c => fiL c 4 bg P
  | (4, lt, bg, P), c => if c = 34 then some (5, lt, bg, P) else if c = 32 then some (3, lt, bg, P) else moL c 4 lt bg P
  | (5, lt, bg, P), c => if c = 64 then some (6, lt, bg, P) else none
  | (6, lt, bg, P), c => if 48 ≤ c ∧ c ≤ 57 then some (if c = 49 then 7 else 8, lt, bg, adQ P (c - 48) bg) else none
  | (7, lt, bg, P), c => if c = 32 then some (1, lt, bg, P) else if 48 ≤ c ∧ c ≤ 57 then some (8, lt, bg, seQ P (c - 38)) else none
  | (8, lt, bg, P), c => if c = 32 then some (1, lt, bg, P) else none
  | _, _ => none
/-- what holds of the closed quotations -/
def vQ (P : tP) : Prop := ∀ q, q < P.qc → 1 ≤ P.ql q ∧ P.qb q + P.ql q ≤ P.wc ∧ P.qs q < 20 ∧ ∀ q', q < q' → q' < P.qc → P.qb q + P.ql q ≤ P.qb q'
def vE (P : tP) (bg : Nat) : Prop := ∀ q, q < P.qc → P.qb q + P.ql q ≤ bg
/-- what holds behind k characters -/
def iA (k : Nat) : tA → Prop
  | (pl, lt, bg, P) => vQ P ∧ ((pl = 1 ∧ 2 * P.wc ≤ k ∧ 6 * P.qc ≤ k) ∨ (pl = 2 ∧ 1 ≤ P.wc ∧ 2 * P.wc ≤ k + 1 ∧ 6 * P.qc ≤ k ∧ 1 ≤ lt ∧ lt ≤ 7) ∨ (pl = 3 ∧ bg ≤ P.wc ∧ vE P bg ∧ 2 * P.wc ≤ k ∧ 6 * P.qc + 1 ≤ k) ∨ (pl = 4 ∧ bg < P.wc ∧ vE P bg ∧ 2 * P.wc ≤ k + 1 ∧ 6 * P.qc + 2 ≤ k ∧ 1 ≤ lt ∧ lt ≤ 7) ∨ (pl = 5 ∧ bg < P.wc ∧ vE P bg ∧ 2 * P.wc ≤ k ∧ 6 * P.qc + 3 ≤ k) ∨ (pl = 6 ∧ bg < P.wc ∧ vE P bg ∧ 2 * P.wc ≤ k ∧ 6 * P.qc + 4 ≤ k) ∨ (pl = 7 ∧ 1 ≤ P.qc ∧ 2 * P.wc ≤ k ∧ 6 * P.qc ≤ k + 1) ∨ (pl = 8 ∧ 1 ≤ P.qc ∧ 2 * P.wc ≤ k ∧ 6 * P.qc ≤ k + 1))
theorem vQ_adW {P : tP} {w : Int64} (h : vQ P) : vQ (adW P w) := fun q hq => by
  have k := h q hq
  exact ⟨k.1, Nat.le_succ_of_le k.2.1, k.2.2⟩
theorem vQ_adQ {P : tP} {s b : Nat} (h : vQ P) (e : vE P b) (hb : b < P.wc) (hs : s < 20) : vQ (adQ P s b) := fun q hq => by
  have hq' : q < P.qc + 1 := hq
  show 1 ≤ (if q = P.qc then P.wc - b else P.ql q) ∧ (if q = P.qc then b else P.qb q) + (if q = P.qc then P.wc - b else P.ql q) ≤ P.wc ∧ (if q = P.qc then s else P.qs q) < 20 ∧ ∀ q', q < q' → q' < P.qc + 1 → (if q = P.qc then b else P.qb q) + (if q = P.qc then P.wc - b else P.ql q) ≤ (if q' = P.qc then b else P.qb q')
  by_cases c : q = P.qc
  · rw [if_pos c, if_pos c, if_pos c]
    exact ⟨by omega, by omega, hs, fun q' h1 h2 => by omega⟩
  · rw [if_neg c, if_neg c, if_neg c]
    have k := h q (by omega)
    refine ⟨k.1, k.2.1, k.2.2.1, fun q' h1 h2 => ?_⟩
    by_cases c2 : q' = P.qc
    · rw [if_pos c2]; exact e q (by omega)
    · rw [if_neg c2]; exact k.2.2.2 q' h1 (by omega)
theorem vQ_seQ {P : tP} {s : Nat} (h : vQ P) (hs : s < 20) : vQ (seQ P s) := fun q hq => by
  have k := h q hq
  refine ⟨k.1, k.2.1, ?_, k.2.2.2⟩
  show (if q = P.qc - 1 then s else P.qs q) < 20
  by_cases c : q = P.qc - 1
  · rw [if_pos c]; exact hs
  · rw [if_neg c]; exact k.2.2.1
theorem fiL_i {c nx bg : Nat} {P : tP} {s : tA} (e : fiL c nx bg P = some s) : (97 ≤ c ∧ c ≤ 122) ∧ s = (nx, 1, bg, adW P ((0 : Int64) ||| shl c 0)) := by
  unfold fiL at e
  by_cases h : 97 ≤ c ∧ c ≤ 122
  · rw [if_pos h] at e; exact ⟨h, (Option.some.inj e).symm⟩
  · rw [if_neg h] at e; cases e
theorem moL_i {c pl lt bg : Nat} {P : tP} {s : tA} (e : moL c pl lt bg P = some s) : (97 ≤ c ∧ c ≤ 122 ∧ lt < 7) ∧ s = (pl, lt + 1, bg, seW P (P.w (P.wc - 1) ||| shl c lt)) := by
  unfold moL at e
  by_cases h : 97 ≤ c ∧ c ≤ 122 ∧ lt < 7
  · rw [if_pos h] at e; exact ⟨h, (Option.some.inj e).symm⟩
  · rw [if_neg h] at e; cases e
theorem stp_i {k : Nat} {s s' : tA} {c : Nat} (h : iA k s) (e : stp s c = some s') : iA (k + 1) s' := by
  obtain ⟨pl, lt, bg, P⟩ := s
  obtain ⟨vq0, h⟩ := h
  rcases h with ⟨rfl, h1, h2⟩ | ⟨rfl, h1, h2, h3, h4, h5⟩ | ⟨rfl, h1, h2, h3, h4⟩ | ⟨rfl, h1, h2, h3, h4, h5, h6⟩ | ⟨rfl, h1, h2, h3, h4⟩ | ⟨rfl, h1, h2, h3, h4⟩ | ⟨rfl, h1, h2, h3⟩ | ⟨rfl, h1, h2, h3⟩
  · have e' : (if c = 34 then some (3, lt, P.wc, P) else fiL c 2 bg P) = some s' := e
    by_cases c1 : c = 34
    · rw [if_pos c1] at e'
      cases e'
      exact ⟨vq0, Or.inr (Or.inr (Or.inl ⟨rfl, Nat.le_refl _, fun q hq => (vq0 q hq).2.1, by omega, by omega⟩))⟩
    · rw [if_neg c1] at e'
      obtain ⟨g, rfl⟩ := fiL_i e'
      refine ⟨vQ_adW vq0, Or.inr (Or.inl ⟨rfl, Nat.succ_le_succ (Nat.zero_le _), ?_, ?_, Nat.le_refl _, by omega⟩)⟩
      · show 2 * (P.wc + 1) ≤ _; omega
      · show 6 * P.qc ≤ _; omega
  · have e' : (if c = 32 then some (1, lt, bg, P) else moL c 2 lt bg P) = some s' := e
    by_cases c1 : c = 32
    · rw [if_pos c1] at e'
      cases e'
      exact ⟨vq0, Or.inl ⟨rfl, by omega, by omega⟩⟩
    · rw [if_neg c1] at e'
      obtain ⟨g, rfl⟩ := moL_i e'
      exact ⟨vq0, Or.inr (Or.inl ⟨rfl, h1, Nat.le_succ_of_le h2, Nat.le_succ_of_le h3, by omega, by omega⟩)⟩
  · obtain ⟨g, rfl⟩ := fiL_i (show fiL c 4 bg P = some s' from e)
    refine ⟨vQ_adW vq0, Or.inr (Or.inr (Or.inr (Or.inl ⟨rfl, Nat.lt_succ_of_le h1, h2, ?_, ?_, Nat.le_refl _, by omega⟩)))⟩
    · show 2 * (P.wc + 1) ≤ _; omega
    · show 6 * P.qc + 2 ≤ _; omega
  · have e' : (if c = 34 then some (5, lt, bg, P) else if c = 32 then some (3, lt, bg, P) else moL c 4 lt bg P) = some s' := e
    by_cases c1 : c = 34
    · rw [if_pos c1] at e'
      cases e'
      exact ⟨vq0, Or.inr (Or.inr (Or.inr (Or.inr (Or.inl ⟨rfl, h1, h2, by omega, by omega⟩))))⟩
    · rw [if_neg c1] at e'
      by_cases c2 : c = 32
      · rw [if_pos c2] at e'
        cases e'
        exact ⟨vq0, Or.inr (Or.inr (Or.inl ⟨rfl, Nat.le_of_lt h1, h2, by omega, by omega⟩))⟩
      · rw [if_neg c2] at e'
        obtain ⟨g, rfl⟩ := moL_i e'
        exact ⟨vq0, Or.inr (Or.inr (Or.inr (Or.inl ⟨rfl, h1, h2, Nat.le_succ_of_le h3, Nat.le_succ_of_le h4, by omega, by omega⟩)))⟩
  · have e' : (if c = 64 then some (6, lt, bg, P) else none) = some s' := e
    by_cases c1 : c = 64
    · rw [if_pos c1] at e'
      cases e'
      exact ⟨vq0, Or.inr (Or.inr (Or.inr (Or.inr (Or.inr (Or.inl ⟨rfl, h1, h2, by omega, by omega⟩)))))⟩
    · rw [if_neg c1] at e'; cases e'
  · have e' : (if 48 ≤ c ∧ c ≤ 57 then some (if c = 49 then 7 else 8, lt, bg, adQ P (c - 48) bg) else none) = some s' := e
    by_cases c1 : 48 ≤ c ∧ c ≤ 57
    · rw [if_pos c1] at e'
      cases e'
      refine ⟨vQ_adQ vq0 h2 h1 (by omega), Or.inr (Or.inr (Or.inr (Or.inr (Or.inr (Or.inr ?_)))))⟩
      have hq : 1 ≤ (adQ P (c - 48) bg).qc := Nat.succ_le_succ (Nat.zero_le _)
      have hw : 2 * (adQ P (c - 48) bg).wc ≤ k + 1 := by show 2 * P.wc ≤ _; omega
      have hq6 : 6 * (adQ P (c - 48) bg).qc ≤ k + 1 + 1 := by show 6 * (P.qc + 1) ≤ _; omega
      by_cases c2 : c = 49
      · rw [if_pos c2]; exact Or.inl ⟨rfl, hq, hw, hq6⟩
      · rw [if_neg c2]; exact Or.inr ⟨rfl, hq, hw, hq6⟩
    · rw [if_neg c1] at e'; cases e'
  · have e' : (if c = 32 then some (1, lt, bg, P) else if 48 ≤ c ∧ c ≤ 57 then some (8, lt, bg, seQ P (c - 38)) else none) = some s' := e
    by_cases c1 : c = 32
    · rw [if_pos c1] at e'
      cases e'
      exact ⟨vq0, Or.inl ⟨rfl, by omega, by omega⟩⟩
    · rw [if_neg c1] at e'
      by_cases c2 : 48 ≤ c ∧ c ≤ 57
      · rw [if_pos c2] at e'
        cases e'
        exact ⟨vQ_seQ vq0 (by omega), Or.inr (Or.inr (Or.inr (Or.inr (Or.inr (Or.inr (Or.inr ⟨rfl, h1, Nat.le_succ_of_le h2, Nat.le_succ_of_le h3⟩))))))⟩
      · rw [if_neg c2] at e'; cases e'
  · have e' : (if c = 32 then some (1, lt, bg, P) else none) = some s' := e
    by_cases c1 : c = 32
    · rw [if_pos c1] at e'
      cases e'
      exact ⟨vq0, Or.inl ⟨rfl, by omega, by omega⟩⟩
    · rw [if_neg c1] at e'; cases e'
/-- reading on: n characters at most, of len -/
def run (c : Nat → Nat) (len : Nat) : Nat → Nat → tA → Nat × tA
  | 0, k, s => (k, s)
  | n + 1, k, s => if k < len then (match stp s (c k) with
    | none => (k, s)
    | some s' => run c len n (k + 1) s') else (k, s)
def rn (c : Nat → Nat) (len k : Nat) (s : tA) : Nat × tA := run c len (len - k) k s
theorem rn_end {c : Nat → Nat} {len k : Nat} {s : tA} (h : len ≤ k) : rn c len k s = (k, s) := by
  unfold rn
  rw [show len - k = 0 from by omega]; rfl
theorem rn_err {c : Nat → Nat} {len k : Nat} {s : tA} (e : stp s (c k) = none) : rn c len k s = (k, s) := by
  unfold rn
  cases h : len - k with
  | zero => rfl
  | succ n =>
    show (if k < len then _ else _) = _
    rw [if_pos (by omega), e]
theorem rn_stp {c : Nat → Nat} {len k : Nat} {s s' : tA} (hk : k < len) (e : stp s (c k) = some s') : rn c len k s = rn c len (k + 1) s' := by
  unfold rn
  rw [show len - k = (len - (k + 1)) + 1 from by omega]
  show (if k < len then _ else _) = _
  rw [if_pos hk, e]
theorem rn_i {c : Nat → Nat} {len : Nat} : ∀ (n k : Nat) (s : tA), k + n = len → iA k s → iA (rn c len k s).1 (rn c len k s).2 ∧ (rn c len k s).1 ≤ len
  | 0, k, s, hk, h => by rw [rn_end (by omega)]; exact ⟨h, by show k ≤ len; omega⟩
  | n + 1, k, s, hk, h => by
    cases e : stp s (c k) with
    | none => rw [rn_err e]; exact ⟨h, by show k ≤ len; omega⟩
    | some s' => rw [rn_stp (by omega) e]; exact rn_i n (k + 1) s' (by omega) (stp_i h e)
section CX
variable {G : pq_G} {x : Nat}
theorem sh_rd (h : sh_G G x) : pq_r G (x + 1343) 0 = x + 1344 ∧ pq_r G (x + 1340) 0 = x + 1341 ∧ sh_R G (x + 1341) 100 ∧ pq_ok G 4 (x + 1344) := by
  have k := h.2.2.2.2.2.1
  refine ⟨k.2.1, k.1.1, k.1.2, ?_⟩
  have o3 : pq_ok G 6 (x + 1343) := by
    have := (pq_wt (k := 3) h.1 h.2.1.1 rfl).2
    rw [h.2.1.2.2.2.2.1] at this
    exact this
  have := (pq_wt (k := 0) h.1 o3 rfl).2
  rw [k.2.1] at this
  exact this
/-- the reader holds s -/
def rR (S : pq_N) (x : Nat) : tA → Prop
  | (pl, lt, bg, P) => S.1 (x + 1343) 2 = nI pl ∧ (pl = 2 ∨ pl = 4 → S.1 (x + 1343) 3 = nI lt) ∧ (3 ≤ pl ∧ pl ≤ 6 → S.1 (x + 1343) 4 = nI bg) ∧ rP S (x + 1344) P
theorem rR_of {S : pq_N} {pl pl' lt bg : Nat} {P : tP} (r : rP S (x + 1344) P) (h3 : pl' = 2 ∨ pl' = 4 → S.1 (x + 1343) 3 = nI lt) (h4 : 3 ≤ pl' ∧ pl' ≤ 6 → S.1 (x + 1343) 4 = nI bg) : rR (pq_wi S (x + 1343) 2 (nI pl')) x (pl', lt, bg, P) := by
  refine ⟨wi_s, fun z => by rw [wi_k (by decide)]; exact h3 z, fun z => by rw [wi_k (by decide)]; exact h4 z, ?_⟩
  exact rP_fr (fr_wi (lo := x + 1343) (hi := x + 1344) (by omega) (by omega)) (by omega) r
theorem c_fiL (h : sh_G G x) {S : pq_N} {c nx bg : Nat} {P : tP} (hc : c < 1000) (hw : P.wc < 60) (r : rP S (x + 1344) P) : (∀ s', fiL c nx bg P = some s' → ∃ S1, F_X6_afterFirstLetter G S (x + 1343) (nI c) (nI nx) = some (nI nx, S1) ∧ fr (x + 1343) (x + 1353) S S1 ∧ S1.1 (x + 1343) 3 = nI 1 ∧ S1.1 (x + 1343) 4 = S.1 (x + 1343) 4 ∧ S1.1 (x + 1343) 1 = S.1 (x + 1343) 1 ∧ rP S1 (x + 1344) (adW P ((0 : Int64) ||| shl c 0))) ∧ (fiL c nx bg P = none → F_X6_afterFirstLetter G S (x + 1343) (nI c) (nI nx) = some (nI 0, S)) := by
  have k := sh_rd h
  constructor
  · intro s' e
    obtain ⟨g, -⟩ := fiL_i e
    unfold F_X6_afterFirstLetter
    have e1 : F_X10_withLetter G S (0 : Int64) (0 : Int32) (nI c) = some ((0 : Int64) ||| shl c 0, S) := rfl
    have e2 : F_X4_addWord G S (pq_r G (x + 1343) 0) ((0 : Int64) ||| shl c 0) = some ((), pq_wi (pq_wj S (x + 1346) P.wc ((0 : Int64) ||| shl c 0)) (x + 1344) 6 (nI (P.wc + 1))) := by
      unfold F_X4_addWord
      rw [k.1, r.2.2.1, pq_bd1 (f_pword h k.2.2.2 hw), pq_lt1, wj_1, r.2.2.1, nI_1]
    rw [show (97 : Int32) = nI 97 from rfl, show (122 : Int32) = nI 122 from rfl, if_neg (nI_nlt (by omega) (by omega)), if_pos (nI_le (by omega) (by omega)), pq_bd1 e1, pq_bd1 e2, pq_lt1]
    have f1 : fr (x + 1344) (x + 1347) S (pq_wi (pq_wj S (x + 1346) P.wc ((0 : Int64) ||| shl c 0)) (x + 1344) 6 (nI (P.wc + 1))) := fr_tr (fr_wj (by omega) (by omega)) (fr_wi (by omega) (by omega))
    refine ⟨_, rfl, fr_tr (fr_mo f1 (by omega) (by omega)) (fr_wi (by omega) (by omega)), wi_s, ?_, ?_, ?_⟩
    · rw [wi_k (by decide), wi_a (by omega)]; rfl
    · rw [wi_k (by decide), wi_a (by omega)]; rfl
    · refine rP_fr (fr_wi (lo := x + 1343) (hi := x + 1344) (by omega) (by omega)) (by omega) ?_
      obtain ⟨r1, r2, r3, r4, r5, r6, r7, r8⟩ := r
      refine ⟨by rw [wi_k (by decide)]; exact r1, by rw [wi_k (by decide)]; exact r2, wi_s, by rw [wi_k (by decide)]; exact r4, fun j hj => ?_, fun j hj => ?_, fun j hj => ?_, fun j hj => ?_⟩
      · have hj' : j < P.wc + 1 := hj
        rw [wi_2]
        show _ = vp_updL P.w P.wc ((0 : Int64) ||| shl c 0) j
        by_cases cj : j = P.wc
        · rw [cj, wj_s, pk_uLs]
        · rw [wj_k cj, pk_uLn cj]; exact r5 j (by omega)
      · rw [wi_2, wj_a (by omega)]; exact r6 j hj
      · rw [wi_2, wj_a (by omega)]; exact r7 j hj
      · rw [wi_2, wj_a (by omega)]; exact r8 j hj
  · intro e
    unfold fiL at e
    by_cases g : 97 ≤ c ∧ c ≤ 122
    · rw [if_pos g] at e; cases e
    · unfold F_X6_afterFirstLetter
      rw [show (97 : Int32) = nI 97 from rfl, show (122 : Int32) = nI 122 from rfl, if_ltI (by omega) (by omega)]
      by_cases c1 : c < 97
      · rw [if_pos c1]; rfl
      · rw [if_neg c1, if_leI (by omega) (by omega), if_neg (by omega)]; rfl
theorem c_moL (h : sh_G G x) {S : pq_N} {c pl lt bg : Nat} {P : tP} (hc : c < 1000) (hw1 : 1 ≤ P.wc) (hw : P.wc ≤ 60) (hlt : lt < 100) (e2 : S.1 (x + 1343) 2 = nI pl) (e3 : S.1 (x + 1343) 3 = nI lt) (r : rP S (x + 1344) P) : (∀ s', moL c pl lt bg P = some s' → ∃ S1, F_X6_afterLetter G S (x + 1343) (nI c) = some (nI pl, S1) ∧ fr (x + 1343) (x + 1353) S S1 ∧ S1.1 (x + 1343) 3 = nI (lt + 1) ∧ S1.1 (x + 1343) 4 = S.1 (x + 1343) 4 ∧ S1.1 (x + 1343) 1 = S.1 (x + 1343) 1 ∧ rP S1 (x + 1344) (seW P (P.w (P.wc - 1) ||| shl c lt))) ∧ (moL c pl lt bg P = none → F_X6_afterLetter G S (x + 1343) (nI c) = some (nI 0, S)) := by
  have k := sh_rd h
  constructor
  · intro s' e
    obtain ⟨g, -⟩ := moL_i e
    unfold F_X6_afterLetter
    have e5 : F_X10_withLetter G S (P.w (P.wc - 1)) (nI lt) (nI c) = some (P.w (P.wc - 1) ||| shl c lt, S) := rfl
    rw [show (97 : Int32) = nI 97 from rfl, show (122 : Int32) = nI 122 from rfl, show (7 : Int32) = nI 7 from rfl, if_neg (nI_nlt (by omega) (by omega)), if_neg (nI_nlt (by omega) (by omega)), e3, if_pos (nI_lt (by omega) (by omega)), pq_lt1, k.1, r.2.2.1, nI_sub1 hw1, pq_bd1 (f_word h k.2.2.2 (by omega)), r.2.2.2.2.1 _ (by omega), e3, pq_bd1 e5, pq_bd1 (f_pword h k.2.2.2 (by omega)), pq_lt1, wj_1, e3, nI_1, wi_k (by decide), wj_1, e2]
    refine ⟨_, rfl, fr_tr (fr_wj (by omega) (by omega)) (fr_wi (by omega) (by omega)), wi_s, ?_, ?_, ?_⟩
    · rw [wi_k (by decide)]; rfl
    · rw [wi_k (by decide)]; rfl
    · refine rP_fr (fr_wi (lo := x + 1343) (hi := x + 1344) (by omega) (by omega)) (by omega) ?_
      obtain ⟨r1, r2, r3, r4, r5, r6, r7, r8⟩ := r
      refine ⟨r1, r2, r3, r4, fun j hj => ?_, fun j hj => ?_, fun j hj => ?_, fun j hj => ?_⟩
      · show _ = vp_updL P.w (P.wc - 1) (P.w (P.wc - 1) ||| shl c lt) j
        by_cases cj : j = P.wc - 1
        · rw [cj, wj_s, pk_uLs]
        · rw [wj_k cj, pk_uLn cj]; exact r5 j hj
      · rw [wj_a (by omega)]; exact r6 j hj
      · rw [wj_a (by omega)]; exact r7 j hj
      · rw [wj_a (by omega)]; exact r8 j hj
  · intro e
    unfold moL at e
    by_cases g : 97 ≤ c ∧ c ≤ 122 ∧ lt < 7
    · rw [if_pos g] at e; cases e
    · unfold F_X6_afterLetter
      rw [show (97 : Int32) = nI 97 from rfl, show (122 : Int32) = nI 122 from rfl, show (7 : Int32) = nI 7 from rfl, if_ltI (by omega) (by omega)]
      by_cases c1 : c < 97
      · rw [if_pos c1]; rfl
      · rw [if_neg c1, if_ltI (by omega) (by omega)]
        by_cases c2 : 122 < c
        · rw [if_pos c2]; rfl
        · rw [if_neg c2, e3, if_ltI (by omega) (by omega), if_neg (by omega)]; rfl
theorem c_addQ (h : sh_G G x) {S : pq_N} {p s b : Nat} {P : tP} (hp : pq_ok G 4 p) (hq : P.qc < 16) (hs : s < 1000) (hb : b ≤ P.wc) (hw : P.wc ≤ 60) (r : rP S p P) : ∃ S1, F_X4_addQuotation G S p (nI s) (nI b) = some ((), S1) ∧ fr p (p + 9) S S1 ∧ rP S1 p (adQ P s b) := by
  obtain ⟨r1, r2, r3, r4, r5, r6, r7, r8⟩ := r
  unfold F_X4_addQuotation
  rw [r4, nI_l (by omega), nI_l (by omega), pq_bd1 (f_psrc h hp hq), wj_1, r4, pq_bd1 (f_pbeg h hp hq), wj_1, wj_1, r4, r3, nI_sub hb, nI_l (by omega), pq_bd1 (f_plen h hp hq), pq_lt1, wj_1, wj_1, wj_1, r4, nI_1]
  refine ⟨_, rfl, fr_tr (fr_wj (by omega) (by omega)) (fr_tr (fr_wj (by omega) (by omega)) (fr_tr (fr_wj (by omega) (by omega)) (fr_wi (by omega) (by omega)))), ?_⟩
  refine ⟨by rw [wi_k (by decide)]; exact r1, by rw [wi_k (by decide)]; exact r2, by rw [wi_k (by decide)]; exact r3, wi_s, fun j hj => ?_, fun j hj => ?_, fun j hj => ?_, fun j hj => ?_⟩
  · rw [wi_2, wj_a (by omega), wj_a (by omega), wj_a (by omega)]; exact r5 j hj
  · have hj' : j < P.qc + 1 := hj
    rw [wi_2, wj_a (by omega), wj_a (by omega)]
    show _ = lN (if j = P.qc then s else P.qs j)
    by_cases cj : j = P.qc
    · rw [if_pos cj, cj, wj_s]
    · rw [if_neg cj, wj_k cj]; exact r6 j (by omega)
  · have hj' : j < P.qc + 1 := hj
    rw [wi_2, wj_a (by omega)]
    show _ = lN (if j = P.qc then b else P.qb j)
    by_cases cj : j = P.qc
    · rw [if_pos cj, cj, wj_s]
    · rw [if_neg cj, wj_k cj, wj_a (by omega)]; exact r7 j (by omega)
  · have hj' : j < P.qc + 1 := hj
    rw [wi_2]
    show _ = lN (if j = P.qc then P.wc - b else P.ql j)
    by_cases cj : j = P.qc
    · rw [if_pos cj, cj, wj_s]
    · rw [if_neg cj, wj_k cj, wj_a (by omega), wj_a (by omega)]; exact r8 j (by omega)
end CX
