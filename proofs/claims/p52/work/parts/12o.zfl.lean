/-! A SHARE is no NaN: the quotient of two small counts -/
theorem fl_t : FP.Core.b64.tails = 4503599627370496 := by decide +kernel
theorem fl_e : FP.Core.b64.exps = 2048 := by decide +kernel
theorem fl_p : 2 ^ FP.Core.b64.p = 9007199254740992 := by decide +kernel
theorem fl_qm : FP.Core.b64.qmin = -1074 := by decide +kernel
theorem fl_qx : FP.Core.b64.qmax = 971 := by decide +kernel
/-- bits that are no NaN's -/
def nnB (n : Nat) : Prop := n % 9223372036854775808 ≤ 9218868437227405312 ∧ n < 18446744073709551616
theorem nnB_d {n : Nat} (h : nnB n) : FP.Core.decode FP.Core.b64 n ≠ .nan := by
  obtain ⟨h1, h2⟩ := h
  unfold FP.Core.decode FP.Core.fieldE FP.Core.fieldT
  rw [fl_t, fl_e]
  by_cases c1 : n / 4503599627370496 % 2048 = 2048 - 1
  · rw [if_pos c1, if_pos (by omega)]
    intro z; cases z
  · rw [if_neg c1]
    by_cases c2 : n / 4503599627370496 % 2048 = 0
    · rw [if_pos c2]
      intro z; cases z
    · rw [if_neg c2]
      intro z; cases z
theorem sg_1 (s : Bool) : s.toNat ≤ 1 := by cases s <;> decide
theorem nnB_e {d : FP.Core.Datum} (h : d = .inf true ∨ d = .inf false ∨ ∃ s c q, d = .fin s c q ∧ c < 9007199254740992 ∧ q ≤ 971) : nnB (FP.Core.encode FP.Core.b64 d) := by
  have fi : ∀ s : Bool, nnB (FP.Core.encode FP.Core.b64 (.inf s)) := fun s => by
    have := sg_1 s
    show nnB ((s.toNat * FP.Core.b64.exps + (FP.Core.b64.exps - 1)) * FP.Core.b64.tails + 0)
    rw [fl_t, fl_e]
    unfold nnB
    omega
  rcases h with rfl | rfl | ⟨s, c, q, rfl, hc, hq⟩
  · exact fi true
  · exact fi false
  · have hs := sg_1 s
    show nnB (if c < FP.Core.b64.tails then (s.toNat * FP.Core.b64.exps + 0) * FP.Core.b64.tails + c else (s.toNat * FP.Core.b64.exps + ((q - FP.Core.b64.qmin).toNat + 1)) * FP.Core.b64.tails + (c - FP.Core.b64.tails))
    rw [fl_t, fl_e, fl_qm]
    unfold nnB
    by_cases c1 : c < 4503599627370496
    · rw [if_pos c1]
      omega
    · rw [if_neg c1]
      have e : (q - -1074).toNat ≤ 2045 := by omega
      generalize (q - -1074).toNat = k at *
      omega
theorem nnB_b {s : Bool} {c : Nat} {q : Int} (hc : c < 9007199254740992) : nnB (FP.Core.encode FP.Core.b64 (FP.Core.bound FP.Core.b64 s c q)) := by
  refine nnB_e ?_
  unfold FP.Core.bound
  rw [fl_qx]
  by_cases c1 : q ≤ 971
  · rw [if_pos c1]; exact Or.inr (Or.inr ⟨s, c, q, rfl, hc, c1⟩)
  · rw [if_neg c1]
    cases s
    · exact Or.inr (Or.inl rfl)
    · exact Or.inl rfl
theorem nnB_r {s : Bool} {num den : Nat} {e : Int} : nnB (FP.Core.encode FP.Core.b64 (FP.Core.roundRatio FP.Core.b64 s num den e)) := by
  unfold FP.Core.roundRatio
  by_cases c0 : num = 0
  · rw [if_pos c0]
    exact nnB_e (Or.inr (Or.inr ⟨s, 0, FP.Core.b64.qmin, rfl, by decide, by rw [fl_qm]; decide⟩))
  · rw [if_neg c0]
    unfold FP.Core.roundAt FP.Core.settle
    rw [fl_p, fl_t]
    generalize FP.Core.nearest _ _ = c
    by_cases c1 : c < 9007199254740992
    · rw [if_pos c1]; exact nnB_b c1
    · rw [if_neg c1]; exact nnB_b (by decide)
def fzB : FP.Core.Datum → Nat → Bool
  | .fin _ c _, x => x == 0 || c != 0
  | _, _ => false
set_option maxRecDepth 100000 in
theorem i2d_s : ∀ x, x < 321 → fzB (FP.Core.decode FP.Core.b64 (FP.i2d (nI x)).toNat) x = true := by decide +kernel
theorem i2d_f {x : Nat} (hx : x ≤ 320) : ∃ s c q, FP.Core.decode FP.Core.b64 (FP.i2d (nI x)).toNat = .fin s c q ∧ (x = 0 ∨ c ≠ 0) := by
  have h := i2d_s x (by omega)
  cases e : FP.Core.decode FP.Core.b64 (FP.i2d (nI x)).toNat with
  | nan => rw [e] at h; cases h
  | inf s => rw [e] at h; cases h
  | fin s c q =>
    rw [e] at h
    have h' : (x == 0 || c != 0) = true := h
    refine ⟨s, c, q, rfl, ?_⟩
    simpa using h'
theorem ddiv_b {x y : Nat} (hx : x ≤ 320) (hy : y ≤ 320) (h0 : y ≠ 0) : nnB (FP.ddiv (FP.i2d (nI x)) (FP.i2d (nI y))).toNat := by
  obtain ⟨s, c, q, e1, -⟩ := i2d_f hx
  obtain ⟨t, d, r, e2, z⟩ := i2d_f hy
  have hd : ¬ d = 0 := z.resolve_left h0
  have ed : FP.ddiv (FP.i2d (nI x)) (FP.i2d (nI y)) = UInt64.ofNat (FP.Core.encode FP.Core.b64 (FP.Core.quotient FP.Core.b64 (FP.Core.decode FP.Core.b64 (FP.i2d (nI x)).toNat) (FP.Core.decode FP.Core.b64 (FP.i2d (nI y)).toNat))) := rfl
  rw [ed, e1, e2]
  have eq : FP.Core.quotient FP.Core.b64 (.fin s c q) (.fin t d r) = FP.Core.roundRatio FP.Core.b64 (s != t) c d (q - r) := by
    show (if d = 0 then _ else _) = _
    rw [if_neg hd]
  rw [eq]
  have k := nnB_r (s := s != t) (num := c) (den := d) (e := q - r)
  rw [UInt64.toNat_ofNat']
  have k2 := k.2
  rw [Nat.mod_eq_of_lt (by omega)]
  exact k
theorem div_n {x y : Nat} (hx : x ≤ 320) (hy : y ≤ 320) (h0 : y ≠ 0) : FP.ddiv (FP.i2d (nI x)) (FP.i2d (nI y)) &&& 0x7fffffffffffffff ≤ 0x7ff0000000000000 := by
  have k := (ddiv_b hx hy h0).1
  rw [UInt64.le_iff_toNat_le, UInt64.toNat_and]
  have e : (0x7fffffffffffffff : UInt64).toNat = 2 ^ 63 - 1 := by decide
  have e2 : (0x7ff0000000000000 : UInt64).toNat = 9218868437227405312 := by decide
  rw [e, e2, Nat.and_two_pow_sub_one_eq_mod]
  exact k
theorem cmp_s (a : Int) : compare a a = Ordering.eq := by
  show (if a < a then Ordering.lt else if a = a then Ordering.eq else Ordering.gt) = Ordering.eq
  rw [if_neg (Int.lt_irrefl a), if_pos rfl]
theorem ord_s {x : FP.Core.Datum} (h : x ≠ .nan) : FP.Core.order x x = some .eq := by
  cases x with
  | nan => exact absurd rfl h
  | inf s => exact congrArg some (cmp_s _)
  | fin s c q => exact congrArg some (cmp_s _)
theorem dcmp_s {a : UInt64} (h : nnB a.toNat) : FP.dcmp a a = some .eq := ord_s (nnB_d h)
