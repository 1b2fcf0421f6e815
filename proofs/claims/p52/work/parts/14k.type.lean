/-! TYPING: what a text says so far -/
def exB (f : Nat → Bool) : Nat → Bool
  | 0 => false
  | k + 1 => exB f k || f k
theorem exB_t {f : Nat → Bool} : ∀ {n}, exB f n = true ↔ ∃ q, q < n ∧ f q = true
  | 0 => by
    constructor
    · intro z; cases z
    · rintro ⟨q, h, -⟩; exact absurd h (Nat.not_lt_zero _)
  | n + 1 => by
    show (exB f n || f n) = true ↔ _
    rw [Bool.or_eq_true, exB_t (n := n)]
    constructor
    · rintro (⟨q, h1, h2⟩ | h)
      · exact ⟨q, by omega, h2⟩
      · exact ⟨n, by omega, h⟩
    · rintro ⟨q, h1, h2⟩
      rcases Nat.lt_or_ge q n with z | z
      · exact Or.inl ⟨q, z, h2⟩
      · have : q = n := by omega
        subst this
        exact Or.inr h2
theorem exB_cg {f g : Nat → Bool} : ∀ {n}, (∀ q, q < n → f q = g q) → exB f n = exB g n
  | 0, _ => rfl
  | n + 1, h => by
    show (exB f n || f n) = (exB g n || g n)
    rw [exB_cg (fun q hq => h q (by omega)), h n (by omega)]
theorem fi_ex {f : Nat → Bool} {n : Nat} : (fi f 0 n).isSome = exB f n := by
  rw [Bool.eq_iff_iff, exB_t]
  cases e : fi f 0 n with
  | none =>
    have h := fi_none e
    constructor
    · intro z; cases z
    · rintro ⟨q, h1, h2⟩
      rw [h q (by omega) (by omega)] at h2
      cases h2
  | some k =>
    have h := fi_some e
    exact ⟨fun _ => ⟨k, by omega, h.2.2.1⟩, fun _ => rfl⟩
/-- why a text with these sources is not printed -/
def whyF (T : tT) (qc : Nat) (qs : Nat → Nat) : Nat := if 20 ≤ T.cnt then 1 else if exB (fun q => !decide (qs q < T.cnt)) qc then 3 else if exB (fun q => (T.pm (qs q)).pd == T.day) qc then 4 else 0
def its (T : tT) (s : Nat) : Nat := if s < T.cnt then (if (T.pm s).pd = T.day then 4 else 0) else 3
def stW (w i : Nat) : Nat := if w = 1 then w else if w = 3 then w else if i = 0 then w else i
theorem why_add {T : tT} {qc : Nat} {qs qs' : Nat → Nat} (h : ∀ q, q < qc → qs' q = qs q) : whyF T (qc + 1) qs' = stW (whyF T qc qs) (its T (qs' qc)) := by
  have e1 : exB (fun q => !decide (qs' q < T.cnt)) (qc + 1) = (exB (fun q => !decide (qs q < T.cnt)) qc || !decide (qs' qc < T.cnt)) := by
    show (exB (fun q => !decide (qs' q < T.cnt)) qc || !decide (qs' qc < T.cnt)) = _
    rw [exB_cg (f := fun q => !decide (qs' q < T.cnt)) (g := fun q => !decide (qs q < T.cnt)) (fun q hq => by
      show (!decide (qs' q < T.cnt)) = !decide (qs q < T.cnt)
      rw [h q hq])]
  have e2 : exB (fun q => (T.pm (qs' q)).pd == T.day) (qc + 1) = (exB (fun q => (T.pm (qs q)).pd == T.day) qc || (T.pm (qs' qc)).pd == T.day) := by
    show (exB (fun q => (T.pm (qs' q)).pd == T.day) qc || (T.pm (qs' qc)).pd == T.day) = _
    rw [exB_cg (f := fun q => (T.pm (qs' q)).pd == T.day) (g := fun q => (T.pm (qs q)).pd == T.day) (fun q hq => by
      show ((T.pm (qs' q)).pd == T.day) = ((T.pm (qs q)).pd == T.day)
      rw [h q hq])]
  unfold whyF its
  rw [e1, e2]
  by_cases c0 : 20 ≤ T.cnt
  · rw [if_pos c0, if_pos c0]; rfl
  · rw [if_neg c0, if_neg c0]
    cases a1 : exB (fun q => !decide (qs q < T.cnt)) qc with
    | true => rw [Bool.true_or, if_pos rfl, if_pos rfl]; rfl
    | false =>
      rw [Bool.false_or, if_neg (by decide : ¬ false = true)]
      by_cases c1 : qs' qc < T.cnt
      · rw [decide_eq_true c1, if_pos c1, if_neg (by decide : ¬ (!true) = true)]
        cases a2 : exB (fun q => (T.pm (qs q)).pd == T.day) qc with
        | true =>
          rw [Bool.true_or, if_pos rfl]
          by_cases c2 : (T.pm (qs' qc)).pd = T.day
          · rw [if_pos c2]; rfl
          · rw [if_neg c2]; rfl
        | false =>
          rw [Bool.false_or, if_neg (by decide : ¬ false = true)]
          by_cases c2 : (T.pm (qs' qc)).pd = T.day
          · rw [if_pos c2, if_pos (by simpa using c2)]; rfl
          · rw [if_neg c2, if_neg (by simpa using c2)]; rfl
      · rw [decide_eq_false c1, if_neg c1, if_pos (by decide : (!false) = true)]
        cases exB (fun q => (T.pm (qs q)).pd == T.day) qc with
        | true => rw [if_pos rfl]; rfl
        | false => rw [if_neg (by decide)]; rfl
theorem why_le {T : tT} {qc : Nat} {qs : Nat → Nat} : whyF T qc qs = 0 ∨ whyF T qc qs = 1 ∨ whyF T qc qs = 3 ∨ whyF T qc qs = 4 := by
  unfold whyF
  split
  · exact Or.inr (Or.inl rfl)
  · split
    · exact Or.inr (Or.inr (Or.inl rfl))
    · split
      · exact Or.inr (Or.inr (Or.inr rfl))
      · exact Or.inl rfl
theorem wy_why {T : tT} {len : Nat} {s : tA} (h : s.1 = 2 ∨ s.1 = 7 ∨ s.1 = 8) : wy T len (len, s) = whyF T s.2.2.2.qc s.2.2.2.qs := by
  have ha : ac len (len, s) = true := by
    show (len == len && (s.1 == 2 || s.1 == 7 || s.1 == 8)) = true
    rcases h with z | z | z <;> rw [z] <;> simp
  have e1 : wyS T s.2.2.2 = exB (fun q => !decide (s.2.2.2.qs q < T.cnt)) s.2.2.2.qc := fi_ex
  have e2 : wyD T s.2.2.2 = exB (fun q => (T.pm (s.2.2.2.qs q)).pd == T.day) s.2.2.2.qc := fi_ex
  unfold wy whyF
  rw [if_pos ha, e1, e2]
/-! where the reader stands -/
def fz (pl lm w : Nat) (T : tT) (s : tA) : Prop := s.1 = pl ∧ (pl = 2 ∨ pl = 4 → s.2.1 ≤ lm) ∧ whyF T s.2.2.2.qc s.2.2.2.qs = w
/-- at the end of an item -/
def fe (w : Nat) (T : tT) (s : tA) : Prop := (s.1 = 2 ∨ s.1 = 7 ∨ s.1 = 8) ∧ whyF T s.2.2.2.qc s.2.2.2.qs = w
/-- behind a number that begins with 1 -/
def f7 (w : Nat) (T : tT) (s : tA) : Prop := s.1 = 7 ∧ ∃ qc, ∃ qs : Nat → Nat, s.2.2.2.qc = qc + 1 ∧ (∀ q, q < qc → s.2.2.2.qs q = qs q) ∧ whyF T qc qs = w
section FZ
variable {T : tT} {lm w ch : Nat}
theorem z_fl {b : Nat} (hb : b = 1 ∨ b = 3) (h1 : 97 ≤ ch) (h2 : ch ≤ 122) : ∀ s, fz b lm w T s → ∃ s', stp s ch = some s' ∧ fz (b + 1) 1 w T s' := by
  rintro ⟨pl, lt, bg, P⟩ ⟨e1, -, e3⟩
  have e1' : pl = b := e1
  subst e1'
  rcases hb with rfl | rfl
  · refine ⟨(2, 1, bg, adW P ((0 : Int64) ||| shl ch 0)), ?_, rfl, fun _ => Nat.le_refl _, e3⟩
    show (if ch = 34 then some (3, lt, P.wc, P) else fiL ch 2 bg P) = _
    rw [if_neg (by omega)]
    exact if_pos ⟨h1, h2⟩
  · refine ⟨(4, 1, bg, adW P ((0 : Int64) ||| shl ch 0)), ?_, rfl, fun _ => Nat.le_refl _, e3⟩
    show fiL ch 4 bg P = _
    exact if_pos ⟨h1, h2⟩
theorem z_ml {b : Nat} (hb : b = 1 ∨ b = 3) (hl : lm < 7) (h1 : 97 ≤ ch) (h2 : ch ≤ 122) : ∀ s, fz (b + 1) lm w T s → ∃ s', stp s ch = some s' ∧ fz (b + 1) (lm + 1) w T s' := by
  rintro ⟨pl, lt, bg, P⟩ ⟨e1, e2, e3⟩
  have e1' : pl = b + 1 := e1
  have e2' : lt ≤ lm := e2 (by omega)
  subst e1'
  rcases hb with rfl | rfl
  · refine ⟨(2, lt + 1, bg, seW P (P.w (P.wc - 1) ||| shl ch lt)), ?_, rfl, fun _ => Nat.succ_le_succ e2', e3⟩
    show (if ch = 32 then some (1, lt, bg, P) else moL ch 2 lt bg P) = _
    rw [if_neg (by omega)]
    exact if_pos ⟨h1, h2, by omega⟩
  · refine ⟨(4, lt + 1, bg, seW P (P.w (P.wc - 1) ||| shl ch lt)), ?_, rfl, fun _ => Nat.succ_le_succ e2', e3⟩
    show (if ch = 34 then some (5, lt, bg, P) else if ch = 32 then some (3, lt, bg, P) else moL ch 4 lt bg P) = _
    rw [if_neg (by omega), if_neg (by omega)]
    exact if_pos ⟨h1, h2, by omega⟩
theorem z_be : ∀ s, fe w T s → ∃ s', stp s 32 = some s' ∧ fz 1 7 w T s' := by
  rintro ⟨pl, lt, bg, P⟩ ⟨e1, e3⟩
  have e1' : pl = 2 ∨ pl = 7 ∨ pl = 8 := e1
  refine ⟨(1, lt, bg, P), ?_, rfl, fun z => by omega, e3⟩
  rcases e1' with rfl | rfl | rfl
  · show (if 32 = 32 then some (1, lt, bg, P) else moL 32 2 lt bg P) = _
    rw [if_pos rfl]
  · show (if 32 = 32 then some (1, lt, bg, P) else if 48 ≤ 32 ∧ 32 ≤ 57 then some (8, lt, bg, seQ P (32 - 38)) else none) = _
    rw [if_pos rfl]
  · show (if 32 = 32 then some (1, lt, bg, P) else none) = _
    rw [if_pos rfl]
theorem z_b4 : ∀ s, fz 4 lm w T s → ∃ s', stp s 32 = some s' ∧ fz 3 7 w T s' := by
  rintro ⟨pl, lt, bg, P⟩ ⟨e1, e2, e3⟩
  have e1' : pl = 4 := e1
  subst e1'
  refine ⟨(3, lt, bg, P), ?_, rfl, fun z => by omega, e3⟩
  show (if 32 = 34 then some (5, lt, bg, P) else if 32 = 32 then some (3, lt, bg, P) else moL 32 4 lt bg P) = _
  rw [if_neg (by decide), if_pos rfl]
theorem z_qo : ∀ s, fz 1 lm w T s → ∃ s', stp s 34 = some s' ∧ fz 3 7 w T s' := by
  rintro ⟨pl, lt, bg, P⟩ ⟨e1, e2, e3⟩
  have e1' : pl = 1 := e1
  subst e1'
  refine ⟨(3, lt, P.wc, P), ?_, rfl, fun z => by omega, e3⟩
  show (if 34 = 34 then some (3, lt, P.wc, P) else fiL 34 2 bg P) = _
  rw [if_pos rfl]
theorem z_qc : ∀ s, fz 4 lm w T s → ∃ s', stp s 34 = some s' ∧ fz 5 7 w T s' := by
  rintro ⟨pl, lt, bg, P⟩ ⟨e1, e2, e3⟩
  have e1' : pl = 4 := e1
  subst e1'
  refine ⟨(5, lt, bg, P), ?_, rfl, fun z => by omega, e3⟩
  show (if 34 = 34 then some (5, lt, bg, P) else if 34 = 32 then some (3, lt, bg, P) else moL 34 4 lt bg P) = _
  rw [if_pos rfl]
theorem z_at : ∀ s, fz 5 lm w T s → ∃ s', stp s 64 = some s' ∧ fz 6 7 w T s' := by
  rintro ⟨pl, lt, bg, P⟩ ⟨e1, e2, e3⟩
  have e1' : pl = 5 := e1
  subst e1'
  refine ⟨(6, lt, bg, P), ?_, rfl, fun z => by omega, e3⟩
  show (if 64 = 64 then some (6, lt, bg, P) else none) = _
  rw [if_pos rfl]
theorem z_d1 {d : Nat} (hd : d ≤ 9) : ∀ s, fz 6 lm w T s → ∃ s', stp s (48 + d) = some s' ∧ fe (stW w (its T d)) T s' := by
  rintro ⟨pl, lt, bg, P⟩ ⟨e1, e2, e3⟩
  have e1' : pl = 6 := e1
  subst e1'
  have e3' : whyF T P.qc P.qs = w := e3
  refine ⟨(if 48 + d = 49 then 7 else 8, lt, bg, adQ P (48 + d - 48) bg), ?_, ?_, ?_⟩
  · show (if 48 ≤ 48 + d ∧ 48 + d ≤ 57 then some (if 48 + d = 49 then 7 else 8, lt, bg, adQ P (48 + d - 48) bg) else none) = _
    rw [if_pos (by omega)]
  · show (if 48 + d = 49 then 7 else 8) = 2 ∨ (if 48 + d = 49 then 7 else 8) = 7 ∨ (if 48 + d = 49 then 7 else 8) = 8
    split <;> omega
  · show whyF T (P.qc + 1) (updN P.qs P.qc (48 + d - 48)) = _
    rw [why_add (qc := P.qc) (qs := P.qs) (qs' := updN P.qs P.qc (48 + d - 48)) (fun q hq => if_neg (show ¬ q = P.qc by omega)), e3']
    have e : updN P.qs P.qc (48 + d - 48) P.qc = d := by
      show (if P.qc = P.qc then 48 + d - 48 else P.qs P.qc) = d
      rw [if_pos rfl]; omega
    rw [e]
theorem z_d2 : ∀ s, fz 6 lm w T s → ∃ s', stp s 49 = some s' ∧ f7 w T s' := by
  rintro ⟨pl, lt, bg, P⟩ ⟨e1, e2, e3⟩
  have e1' : pl = 6 := e1
  subst e1'
  refine ⟨(7, lt, bg, adQ P (49 - 48) bg), ?_, rfl, P.qc, P.qs, rfl, fun q hq => if_neg (show ¬ q = P.qc by omega), e3⟩
  show (if 48 ≤ 49 ∧ 49 ≤ 57 then some (if 49 = 49 then 7 else 8, lt, bg, adQ P (49 - 48) bg) else none) = _
  rw [if_pos (by decide), if_pos rfl]
theorem z_d3 {d : Nat} (hd : d ≤ 9) : ∀ s, f7 w T s → ∃ s', stp s (48 + d) = some s' ∧ fe (stW w (its T (10 + d))) T s' := by
  rintro ⟨pl, lt, bg, P⟩ ⟨e1, qc, qs, e2, e3, e4⟩
  have e1' : pl = 7 := e1
  subst e1'
  have e2' : P.qc = qc + 1 := e2
  have e3' : ∀ q, q < qc → P.qs q = qs q := e3
  refine ⟨(8, lt, bg, seQ P (48 + d - 38)), ?_, Or.inr (Or.inr rfl), ?_⟩
  · show (if 48 + d = 32 then some (1, lt, bg, P) else if 48 ≤ 48 + d ∧ 48 + d ≤ 57 then some (8, lt, bg, seQ P (48 + d - 38)) else none) = _
    rw [if_neg (by omega), if_pos (by omega)]
  · show whyF T P.qc (updN P.qs (P.qc - 1) (48 + d - 38)) = _
    rw [e2', Nat.add_sub_cancel, why_add (qs := qs) (fun q hq => by
      show (if q = qc then _ else P.qs q) = qs q
      rw [if_neg (by omega)]
      exact e3' q hq), e4]
    have e : updN P.qs qc (48 + d - 38) qc = 10 + d := by
      show (if qc = qc then 48 + d - 38 else P.qs qc) = 10 + d
      rw [if_pos rfl]; omega
    rw [e]
end FZ
/-- a reader of len characters c stands so -/
def ty (c : Nat → Nat) (len : Nat) (φ : tA → Prop) : Prop := ∀ au pd, ∃ s, rn c len 0 (s0 au pd) = (len, s) ∧ φ s
theorem rn_ext {c c' : Nat → Nat} {len : Nat} (h : ∀ j, j < len → c' j = c j) : ∀ (n k : Nat) (s s' : tA), k + n = len → rn c len k s = (len, s') → rn c' (len + 1) k s = rn c' (len + 1) len s'
  | 0, k, s, s', hk, e => by
    have ek : k = len := by omega
    subst ek
    rw [rn_end (Nat.le_refl _)] at e
    cases e
    rfl
  | n + 1, k, s, s', hk, e => by
    cases z : stp s (c k) with
    | none =>
      rw [rn_err z] at e
      cases e
      omega
    | some s1 =>
      rw [rn_stp (by omega) z] at e
      rw [rn_stp (s' := s1) (by omega) (by rw [h k (by omega)]; exact z)]
      exact rn_ext h n (k + 1) s1 s' (by omega) e
theorem ty_app {c : Nat → Nat} {len ch : Nat} {φ ψ : tA → Prop} (h : ty c len φ) (st : ∀ s, φ s → ∃ s', stp s ch = some s' ∧ ψ s') : ty (updN c len ch) (len + 1) ψ := fun au pd => by
  obtain ⟨s, h1, h2⟩ := h au pd
  obtain ⟨s', h3, h4⟩ := st s h2
  refine ⟨s', ?_, h4⟩
  rw [rn_ext (c := c) (c' := updN c len ch) (fun j hj => if_neg (by omega)) len 0 (s0 au pd) s (by omega) h1, rn_stp (s' := s') (by omega) (by
    have e : updN c len ch len = ch := if_pos rfl
    rw [e]; exact h3), rn_end (Nat.le_refl _)]
/-- the world W0 with another text, of at most L characters -/
def SW (W0 : tW) (L : Nat) (φ : tA → Prop) (W : tW) : Prop := ∃ len c, W = (W0.1, W0.2.1, W0.2.2.1, W0.2.2.2.1, W0.2.2.2.2.1, len, c) ∧ vW W ∧ len ≤ L ∧ ty c len φ
def ST (W0 : tW) (L : Nat) (φ : tA → Prop) (a : Int32) (W : tW) : Prop := SW W0 L φ W ∧ a = nI W.2.2.2.2.2.1
theorem SW_m {W0 W : tW} {L L' : Nat} {φ ψ : tA → Prop} (h : SW W0 L φ W) (hL : L ≤ L') (hf : ∀ s, φ s → ψ s) : SW W0 L' ψ W := by
  obtain ⟨len, c, h1, h2, h3, h4⟩ := h
  refine ⟨len, c, h1, h2, by omega, fun au pd => ?_⟩
  obtain ⟨s, k1, k2⟩ := h4 au pd
  exact ⟨s, k1, hf s k2⟩
theorem ST_m {W0 W : tW} {L L' : Nat} {φ ψ : tA → Prop} {a : Int32} (h : ST W0 L φ a W) (hL : L ≤ L') (hf : ∀ s, φ s → ψ s) : ST W0 L' ψ a W := ⟨SW_m h.1 hL hf, h.2⟩
theorem SW_v {W0 W : tW} {L : Nat} {φ : tA → Prop} (h : SW W0 L φ W) : vW W ∧ W.1 = W0.1 := by
  obtain ⟨len, c, h1, h2, -⟩ := h
  exact ⟨h2, by rw [h1]⟩
theorem fz_m {pl lm lm' w : Nat} {T : tT} (h : lm ≤ lm') : ∀ s, fz pl lm w T s → fz pl lm' w T s := fun s k => ⟨k.1, fun z => Nat.le_trans (k.2.1 z) h, k.2.2⟩
section TY
variable {G : pq_G} {x : Nat} {W0 W : tW} {S : pq_N} {L w : Nat}
theorem l_app (h : sh_G G x) {φ ψ : tA → Prop} (s : SW W0 L φ W) (r : rC S x W) (hL : L < 100) {ch : Nat} (h1 : 32 ≤ ch) (h2 : ch ≤ 126) (st : ∀ s, φ s → ∃ s', stp s ch = some s' ∧ ψ s') : okE x (E_X10_append G S x (nI ch)) (ST W0 (L + 1) ψ) := by
  obtain ⟨len, c, e, v, hl, ht⟩ := s
  subst e
  have k := k_append (a := nI ch) h v r
  have e2 : s_app (W0.1, W0.2.1, W0.2.2.1, W0.2.2.2.1, W0.2.2.2.2.1, len, c) (nI ch) = (Sum.inr (nI (len + 1)), (W0.1, W0.2.1, W0.2.2.1, W0.2.2.2.1, W0.2.2.2.2.1, len + 1, updN c len ch)) := by
    unfold s_app
    rw [if_neg (fun z => z.elim (fun z => nI_nlt (a := ch) (b := 32) h1 (by omega) z) (fun z => nI_nlt (a := 126) (b := ch) h2 (by omega) z)), if_neg (show ¬ 100 ≤ len by omega), nI_clamp (by omega)]
  rw [e2] at k
  obtain ⟨k1, k2⟩ := ok_e (d_X10_append G S x _) k
  exact okE_o k1 ⟨⟨len + 1, updN c len ch, rfl, k2, by omega, ty_app ht st⟩, rfl⟩
theorem tw_41 (h : sh_G G x) {b lm : Nat} (hb : b = 1 ∨ b = 3) (hl : lm ≤ 2) {y t : Int32} (s : ST W0 L (fz (b + 1) lm w W0.1) t W) (r : rC S x W) (hL : L < 100) : okE x (F_L_typeWord_b41 G S x y t) (ST W0 (L + 1) (fz (b + 1) 3 w W0.1)) := by
  unfold F_L_typeWord_b41
  obtain ⟨i, hi, a⟩ := a_low (G := G) (v := y >>> ((3 : Int32) &&& 31)) r (n := 9) (by decide) (by decide)
  refine okE_b a (fun S r => ?_)
  by_cases c : nI i = (8 : Int32)
  · rw [if_pos c]
    refine okE_e (l_app h s.1 r hL (ch := 122) (by decide) (by decide) (z_ml hb (by omega) (by decide) (by decide))) (fun a W S q r => ?_)
    exact okE_r r (ST_m q (Nat.le_refl _) (fz_m (by omega)))
  · rw [if_neg c]
    exact okE_r r (ST_m s (by omega) (fz_m (by omega)))
theorem l_typeWord (h : sh_G G x) {b lm : Nat} (hb : b = 1 ∨ b = 3) {y : Int32} (s : SW W0 L (fz b lm w W0.1) W) (r : rC S x W) (hL : L + 3 ≤ 100) : okE x (F_L_typeWord G S x y) (ST W0 (L + 3) (fz (b + 1) 3 w W0.1)) := by
  unfold F_L_typeWord
  obtain ⟨i, hi, a⟩ := a_low (G := G) (v := y) r (n := 3) (by decide) (by decide)
  refine okE_b a (fun S r => ?_)
  rw [show (97 : Int32) = nI 97 from rfl, nI_add]
  refine okE_e (l_app h s r (by omega) (ch := 97 + i) (by omega) (by omega) (z_fl hb (by omega) (by omega))) (fun a W S q r => ?_)
  obtain ⟨i2, hi2, a2⟩ := a_low (G := G) (v := y >>> ((3 : Int32) &&& 31)) r (n := 3) (by decide) (by decide)
  refine okE_b a2 (fun S r => ?_)
  by_cases c : nI i2 ≤ 0
  · rw [if_pos c]
    exact okE_m (tw_41 h hb (by decide) q r (by omega)) (fun a W q => ST_m q (by omega) (fun s z => z))
  · rw [if_neg c]
    obtain ⟨i3, hi3, a3⟩ := a_low (G := G) (v := y >>> ((5 : Int32) &&& 31)) r (n := 2) (by decide) (by decide)
    refine okE_b a3 (fun S r => ?_)
    rw [nI_add]
    refine okE_e (l_app h q.1 r (by omega) (ch := 97 + i3) (by omega) (by omega) (z_ml hb (by decide) (by omega) (by omega))) (fun a W S q r => ?_)
    exact okE_m (tw_41 h hb (by decide) q r (by omega)) (fun a W q => ST_m q (by omega) (fun s z => z))
theorem wV_l {u : Int64} (v : wV u) {i : Nat} (hi : i < 7) : lI u (nI i) = -1 ∨ ∃ ch, 97 ≤ ch ∧ ch ≤ 122 ∧ lI u (nI i) = nI ch := by
  obtain ⟨m, k, rfl, hm, h1, h2, h3, h4⟩ := v
  rw [lI_v hm hi]
  rcases Nat.lt_or_ge i k with z | z
  · have := h3 i z
    exact Or.inr ⟨96 + dg m i, by omega, by omega, if_neg (by omega)⟩
  · rw [h4 i z hi]
    exact Or.inl rfl
theorem ts_29 (h : sh_G G x) {b s k : Nat} (hb : b = 1 ∨ b = 3) (hs : s < W0.1.cnt) (hk : k < 1000) (hw : ∀ i, i < (W0.1.pm s).wc → wV ((W0.1.pm s).w i)) (hL : L + 3 ≤ 100) : ∀ (m i f : Nat) (S : pq_N) (W : tW) (a : Int32), i + m = 3 → 1 ≤ i → m < f → ST W0 (L + i) (fz (b + 1) i w W0.1) a W → rC S x W → okE x (F_L_typeSame_b29 G f S x (nI s) (nI k) a (nI i)) (ST W0 (L + 3) (fz (b + 1) 3 w W0.1)) := by
  intro m
  induction m with
  | zero =>
    intro i f S W a hi h1 hf q r
    obtain ⟨f, rfl⟩ : ∃ k, f = k + 1 := ⟨f - 1, by omega⟩
    have ei : i = 3 := by omega
    subst ei
    rw [F_L_typeSame_b29.eq_2, if_pos (by decide)]
    exact okE_r r q
  | succ m ih =>
    intro i f S W a hi h1 hf q r
    obtain ⟨f, rfl⟩ : ∃ k, f = k + 1 := ⟨f - 1, by omega⟩
    obtain ⟨v, eW⟩ := SW_v q.1
    have hs' : s < W.1.cnt := by rw [eW]; exact hs
    have hv := (vW_t v).2 s hs'
    have hv1 := hv.1
    have hv2 := hv.2.1
    have hm : k % (W.1.pm s).wc < (W.1.pm s).wc := Nat.mod_lt _ (by omega)
    have hwl := wV_l (hw (k % (W.1.pm s).wc) (by rw [← eW]; exact hm)) (i := i) (by omega)
    rw [← eW] at hwl
    rw [F_L_typeSame_b29.eq_2, if_neg (show ¬ (3 : Int32) ≤ nI i from nI_ge (b := 3) (by omega) (by decide))]
    refine okE_b (a_wordsOf h v r hs') (fun S r => ?_)
    rw [if_neg (nI_ne0 (by omega) (by omega)), nI_mod (by omega) (by omega)]
    refine okE_b (a_letterOf h v r (i := i) hs' hm (by omega)) (fun S r => ?_)
    rcases hwl with z | ⟨ch, z1, z2, z3⟩
    · rw [if_pos z]
      exact okE_r r (ST_m q (by omega) (fz_m (by omega)))
    · rw [z3, if_neg (nI_m1 (by omega))]
      refine okE_b (a_wordsOf h v r hs') (fun S r => ?_)
      rw [if_neg (nI_ne0 (by omega) (by omega)), nI_mod (by omega) (by omega)]
      refine okE_b (a_letterOf h v r (i := i) hs' hm (by omega)) (fun S r => ?_)
      rw [z3]
      refine okE_e (l_app h q.1 r (by omega) (ch := ch) (by omega) (by omega) (z_ml hb (by omega) z1 z2)) (fun a W S q r => ?_)
      rw [nI_1]
      exact ih (i + 1) f S W a (by omega) (by omega) (by omega) q r
theorem l_typeSame (h : sh_G G x) {b s k lm : Nat} (hb : b = 1 ∨ b = 3) (hs : s < 20) (hk : k < 1000) (hw : ∀ j, j < W0.1.cnt → ∀ i, i < (W0.1.pm j).wc → wV ((W0.1.pm j).w i)) {y : Int32} (q : SW W0 L (fz b lm w W0.1) W) (r : rC S x W) (hL : L + 3 ≤ 100) : okE x (F_L_typeSame G S x (nI s) (nI k) y) (ST W0 (L + 3) (fz (b + 1) 3 w W0.1)) := by
  obtain ⟨v, eW⟩ := SW_v q
  have h20 := (vW_t v).1
  unfold F_L_typeSame
  refine okE_b (a_pamphlets h v r) (fun S r => ?_)
  by_cases c : W.1.cnt ≤ s
  · rw [if_pos (nI_le c (by omega))]
    exact okE_e (l_typeWord h hb q r hL) (fun a W S q r => okE_r r q)
  · rw [if_neg (nI_ge (by omega) (by omega))]
    obtain ⟨i6, hi6, a6⟩ := a_low (G := G) (v := y) r (n := 6) (by decide) (by decide)
    refine okE_b a6 (fun S r => ?_)
    by_cases c6 : nI i6 = (0 : Int32)
    · rw [if_pos c6]
      exact okE_e (l_typeWord h hb q r hL) (fun a W S q r => okE_r r q)
    · have hs' : s < W.1.cnt := by omega
      have hv := (vW_t v).2 s hs'
      have hv1 := hv.1
      have hv2 := hv.2.1
      have hm : k % (W.1.pm s).wc < (W.1.pm s).wc := Nat.mod_lt _ (by omega)
      have hw2 := hw s (by rw [← eW]; exact hs')
      have hwv := hw2 (k % (W.1.pm s).wc) (by rw [← eW]; exact hm)
      have hwl := wV_l hwv (i := 0) (by omega)
      have hw0 := wV_0 hwv
      rw [← eW] at hwl hw0
      rw [if_neg c6, show pq_fuel = 99999 + 1 from rfl, F_L_typeSame_b29.eq_2, if_neg (by decide)]
      refine okE_b (a_wordsOf h v r hs') (fun S r => ?_)
      rw [if_neg (nI_ne0 (by omega) (by omega)), nI_mod (by omega) (by omega)]
      refine okE_b (a_letterOf h v r (i := 0) hs' hm (by omega)) (fun S r => ?_)
      rcases hwl with z | ⟨ch, z1, z2, z3⟩
      · exact absurd z hw0.2
      · rw [z3, if_neg (nI_m1 (by omega))]
        refine okE_b (a_wordsOf h v r hs') (fun S r => ?_)
        rw [if_neg (nI_ne0 (by omega) (by omega)), nI_mod (by omega) (by omega)]
        refine okE_b (a_letterOf h v r (i := 0) hs' hm (by omega)) (fun S r => ?_)
        rw [z3]
        refine okE_e (l_app h q r (by omega) (ch := ch) (by omega) (by omega) (z_fl hb z1 z2)) (fun a W S q r => ?_)
        exact ts_29 h hb (by rw [← eW]; exact hs') hk hw2 hL 2 1 99999 S W a (by decide) (by decide) (by decide) q r
theorem tq_134 (h : sh_G G x) {d : Nat} {u : Int32} {t : Nat} {s : Nat} (hs : s < 20) (hd : d = s % 10) {φ ψ : tA → Prop} (q : SW W0 L φ W) (r : rC S x W) (hL : L < 100) (st : ∀ s, φ s → ∃ s', stp s (48 + d) = some s' ∧ ψ s') : okE x (F_L_typeQuotation_b134 G S x (nI s) u) (ST W0 (L + 1) ψ) := by
  unfold F_L_typeQuotation_b134
  rw [show (10 : Int32) = nI 10 from rfl, nI_mod (by omega) (by omega), show (48 : Int32) = nI 48 from rfl, nI_add, ← hd]
  exact okE_e (l_app h q r hL (ch := 48 + d) (by omega) (by omega) st) (fun a W S q r => okE_r r q)
theorem tq_32 (h : sh_G G x) {s f n : Nat} (hs : s < 20) (hf : f < 20) (hn : n ≤ 4) (hw : ∀ j, j < W0.1.cnt → ∀ i, i < (W0.1.pm j).wc → wV ((W0.1.pm j).w i)) {y : Int32} (hL : L + 21 ≤ 100) : ∀ (m k g : Nat) (S : pq_N) (W : tW) (a : Int32), k + m = n → m < g → (k = 0 → 1 ≤ n) → SW W0 (L + 1 + 4 * k) (if k = 0 then fz 3 7 w W0.1 else fz 4 3 w W0.1) W → rC S x W → okE x (F_L_typeQuotation_b32 G g S x (nI s) y (nI n) (nI f) a (nI k)) (ST W0 (L + 21) (fe (stW w (its W0.1 s)) W0.1)) := by
  intro m
  induction m with
  | zero =>
    intro k g S W a hk hg h0 q r
    obtain ⟨g, rfl⟩ : ∃ k, g = k + 1 := ⟨g - 1, by omega⟩
    rw [if_neg (show ¬ k = 0 by omega)] at q
    rw [F_L_typeQuotation_b32.eq_2, if_pos (nI_le (by omega) (by omega))]
    refine okE_e (l_app h q r (by omega) (ch := 34) (by decide) (by decide) z_qc) (fun a1 W S q r => ?_)
    refine okE_e (l_app h q.1 r (by omega) (ch := 64) (by decide) (by decide) z_at) (fun a2 W S q r => ?_)
    by_cases c : s ≤ 9
    · rw [if_pos (show nI s ≤ (9 : Int32) from nI_le (b := 9) c (by omega))]
      have e : s % 10 = s := by omega
      exact okE_m (tq_134 (t := 0) h hs rfl q.1 r (by omega) (by rw [e]; exact z_d1 c)) (fun a W q => ST_m q (by omega) (fun s z => z))
    · rw [if_neg (show ¬ nI s ≤ (9 : Int32) from nI_ge (a := 9) (by omega) (by omega))]
      refine okE_e (l_app h q.1 r (by omega) (ch := 49) (by decide) (by decide) z_d2) (fun a3 W S q r => ?_)
      have e : 10 + s % 10 = s := by omega
      exact okE_m (tq_134 (t := 0) h hs rfl q.1 r (by omega) (by
        have z := z_d3 (w := w) (T := W0.1) (d := s % 10) (by omega)
        rw [e] at z
        exact z)) (fun a W q => ST_m q (by omega) (fun s z => z))
  | succ m ih =>
    intro k g S W a hk hg h0 q r
    obtain ⟨g, rfl⟩ : ∃ k, g = k + 1 := ⟨g - 1, by omega⟩
    have word : ∀ (S : pq_N) (W : tW) (a : Int32), SW W0 (L + 1 + 4 * k + 1) (fz 3 7 w W0.1) W → rC S x W → okE x (F_L_typeQuotation_b54 G (F_L_typeQuotation_b32 G g) S x (nI s) y (nI n) (nI f) (nI k) a) (ST W0 (L + 21) (fe (stW w (its W0.1 s)) W0.1)) := fun S W a q r => by
      have nx : ∀ (S : pq_N) (W : tW) (u : Nat), u < 1000 → SW W0 (L + 1 + 4 * k + 1) (fz 3 7 w W0.1) W → rC S x W → ∀ z : Int32, okE x (pq_bd (F_L_typeSame G S x (nI s) (nI u) z) fun v42 S43 => F_L_typeQuotation_b32 G g S43 x (nI s) y (nI n) (nI f) v42 (nI k + (1 : Int32))) (ST W0 (L + 21) (fe (stW w (its W0.1 s)) W0.1)) := fun S W u hu q r z => by
        refine okE_e (l_typeSame h (Or.inr rfl) hs hu hw q r (by omega)) (fun a W S q r => ?_)
        rw [nI_1]
        refine ih (k + 1) g S W a (by omega) (by omega) (fun z => by omega) ?_ r
        rw [if_neg (by omega)]
        exact SW_m q.1 (by omega) (fun s z => z)
      unfold F_L_typeQuotation_b54 F_L_typeQuotation_b80
      obtain ⟨i5, hi5, a5⟩ := a_low (G := G) (v := y >>> ((9 : Int32) &&& 31)) r (n := 5) (by decide) (by decide)
      refine okE_b a5 (fun S r => ?_)
      rw [nI_add]
      by_cases c5 : nI i5 = (0 : Int32)
      · rw [if_pos c5, nI_add]
        exact nx S W (f + k + k) (by omega) q r _
      · rw [if_neg c5, show (0 : Int32) = nI 0 from rfl, nI_add]
        exact nx S W (f + k + 0) (by omega) q r _
    rw [F_L_typeQuotation_b32.eq_2, if_neg (nI_ge (by omega) (by omega))]
    by_cases c : k = 0
    · rw [if_pos c] at q
      rw [if_pos (show nI k ≤ (0 : Int32) by rw [c]; decide)]
      exact word S W a (SW_m q (by omega) (fun s z => z)) r
    · rw [if_neg c] at q
      rw [if_neg (nI_nle (by omega) (by omega))]
      refine okE_e (l_app h q r (by omega) (ch := 32) (by decide) (by decide) z_b4) (fun a W S q r => ?_)
      exact word S W a q.1 r
theorem l_typeQuotation (h : sh_G G x) {s lm : Nat} (hs : s < 20) (hw : ∀ j, j < W0.1.cnt → ∀ i, i < (W0.1.pm j).wc → wV ((W0.1.pm j).w i)) {y : Int32} (hL : L + 21 ≤ 100) (q : SW W0 L (fz 1 lm w W0.1) W) (r : rC S x W) : okE x (F_L_typeQuotation G S x (nI s) y) (ST W0 (L + 21) (fe (stW w (its W0.1 s)) W0.1)) := by
  unfold F_L_typeQuotation
  obtain ⟨i1, hi1, a1⟩ := a_low (G := G) (v := y >>> ((2 : Int32) &&& 31)) r (n := 4) (by decide) (by decide)
  refine okE_b a1 (fun S r => ?_)
  obtain ⟨i2, hi2, a2⟩ := a_low (G := G) (v := y >>> ((6 : Int32) &&& 31)) r (n := 20) (by decide) (by decide)
  refine okE_b a2 (fun S r => ?_)
  refine okE_e (l_app h q r (by omega) (ch := 34) (by decide) (by decide) z_qo) (fun a W S q r => ?_)
  rw [show (1 : Int32) = nI 1 from rfl, nI_add]
  exact tq_32 h hs hi2 (n := 1 + i1) (by omega) hw hL (1 + i1) 0 pq_fuel S W a (by omega) (fuel_lt (by omega)) (fun _ => by omega) (by
    rw [if_pos rfl]
    exact SW_m q.1 (by omega) (fun s z => z)) r
end TY
