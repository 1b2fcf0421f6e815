/-! WORDS: digits and letters -/
theorem lN_b (n : Nat) : (lN n).toBitVec = BitVec.ofNat 64 n := rfl
theorem lN_shr {m s : Nat} {a : Int64} (hm : m < 9223372036854775808) (ha : (a.toBitVec.smod 64).toNat = s) : lN m >>> a = lN (m / 2 ^ s) := by
  apply Int64.toBitVec_inj.mp
  rw [Int64.toBitVec_shiftRight, BitVec.sshiftRight_eq', ha, lN_b, lN_b]
  have h64 : (2 : Nat) ^ 64 = 18446744073709551616 := by decide
  have hmod : m % 2 ^ 64 = m := Nat.mod_eq_of_lt (by omega)
  have hle : m / 2 ^ s ≤ m := Nat.div_le_self _ _
  rw [BitVec.sshiftRight_eq_of_msb_false (BitVec.msb_eq_false_iff_two_mul_lt.mpr (by rw [BitVec.toNat_ofNat, hmod]; omega))]
  apply BitVec.eq_of_toNat_eq
  rw [BitVec.toNat_ushiftRight, BitVec.toNat_ofNat, BitVec.toNat_ofNat, hmod, Nat.shiftRight_eq_div_pow]
  exact (Nat.mod_eq_of_lt (by omega)).symm
theorem lN_or (a b : Nat) : lN a ||| lN b = lN (a ||| b) := by
  apply Int64.toBitVec_inj.mp
  rw [Int64.toBitVec_or, lN_b, lN_b, lN_b, BitVec.ofNat_or]
theorem sh_amt : ∀ i, i < 7 → ((Int32.toInt64 ((5 : Int32) * ((6 : Int32) - nI i)) &&& 63).toBitVec.smod 64).toNat = 5 * (6 - i) := by decide +kernel
theorem p32 : ∀ i, i < 8 → 2 ^ (5 * i) = 32 ^ i := by decide +kernel
/-- a letter by its digit -/
def lv (d : Nat) : Int32 := if d = 0 then -1 else nI (96 + d)
theorem lI_v {m i : Nat} (hm : m < 34359738368) (hi : i < 7) : lI (lN m) (nI i) = lv (dg m i) := by
  have hs := sh_amt i hi
  have e : Int64.toInt32 (lN m >>> (Int32.toInt64 ((5 : Int32) * ((6 : Int32) - nI i)) &&& 63)) &&& (31 : Int32) = nI (dg m i) := by
    rw [lN_shr (by omega) hs, lN_i, pk_and _ 5 (by decide), p32 (6 - i) (by omega)]
    congr 1
    show (m / 32 ^ (6 - i)) % 2 ^ 32 % 2 ^ 5 = m / 32 ^ (6 - i) % 32
    generalize m / 32 ^ (6 - i) = y
    omega
  have hd : dg m i < 32 := Nat.mod_lt _ (by decide)
  unfold lI lv
  rw [if_pos (show nI i < (7 : Int32) from nI_lt (b := 7) hi (by decide)), e]
  by_cases z : dg m i = 0
  · rw [if_pos z, if_pos (by rw [z]; rfl)]
  · rw [if_neg z, if_neg (nI_ne0 (by omega) (by omega)), show (97 : Int32) = nI 97 from rfl, nI_add, nI_sub1 (by omega)]
    congr 1
    omega
theorem lI_7 {w : Int64} : lI w 7 = -1 := by
  unfold lI
  rw [if_neg (by decide)]
theorem lv_le : ∀ a, a < 32 → ∀ b, b < 32 → (lv a ≤ lv b ↔ a ≤ b) := by decide +kernel
theorem dg_lt (m i : Nat) : dg m i < 32 := Nat.mod_lt _ (by decide)
/-- the first i digits -/
def pr (m i : Nat) : Nat := m / 32 ^ (7 - i)
theorem pr_s (m i : Nat) (hi : i < 7) : pr m (i + 1) = 32 * pr m i + dg m i := by
  unfold pr dg
  have e1 : 7 - (i + 1) = 6 - i := by omega
  have e2 : 7 - i = (6 - i) + 1 := by omega
  rw [e1, e2, Nat.pow_succ, ← Nat.div_div_eq_div_mul]
  generalize m / 32 ^ (6 - i) = y
  omega
theorem pr_0 {m : Nat} (h : m < 34359738368) : pr m 0 = 0 := Nat.div_eq_of_lt (by
  have : (32 : Nat) ^ (7 - 0) = 34359738368 := by decide
  omega)
theorem pr_7 (m : Nat) : pr m 7 = m := by
  show m / 32 ^ 0 = m
  rw [Nat.pow_zero, Nat.div_one]
/-- words in their order: the first digit that is not the same is less -/
theorem pr_lt {m m' : Nat} (h : m < 34359738368) (h' : m' < 34359738368) (hl : m < m') : ∃ i, i < 7 ∧ (∀ t, t < i → dg m t = dg m' t) ∧ dg m i < dg m' i := by
  have key : ∀ i, i ≤ 7 → (pr m i = pr m' i ∧ ∀ t, t < i → dg m t = dg m' t) ∨ ∃ i, i < 7 ∧ (∀ t, t < i → dg m t = dg m' t) ∧ dg m i < dg m' i := by
    intro i
    induction i with
    | zero => exact fun _ => Or.inl ⟨by rw [pr_0 h, pr_0 h'], fun t ht => absurd ht (Nat.not_lt_zero _)⟩
    | succ i ih =>
      intro hi
      rcases ih (by omega) with ⟨e, hd⟩ | z
      · have s1 := pr_s m i (by omega)
        have s2 := pr_s m' i (by omega)
        have hle : pr m (i + 1) ≤ pr m' (i + 1) := Nat.div_le_div_right (by omega)
        rcases Nat.lt_trichotomy (dg m i) (dg m' i) with c | c | c
        · exact Or.inr ⟨i, by omega, hd, c⟩
        · refine Or.inl ⟨by omega, fun t ht => ?_⟩
          rcases Nat.lt_or_ge t i with y | y
          · exact hd t y
          · have : t = i := by omega
            subst this; exact c
        · omega
      · exact Or.inr z
  rcases key 7 (Nat.le_refl _) with ⟨e, -⟩ | z
  · rw [pr_7, pr_7] at e
    omega
  · exact z
theorem lN_lt35 {a b : Nat} (ha : a < 34359738368) (hb : b < 34359738368) : lN a < lN b ↔ a < b := by
  rw [Int64.lt_iff_toInt_lt, pk_lT (by omega), pk_lT (by omega)]
  omega
theorem wV_lt {w w' : Int64} (v : wV w) (v' : wV w') (h : w < w') : ∃ i, i < 7 ∧ (∀ t, t < i → lI w (nI t) = lI w' (nI t)) ∧ lI w (nI i) ≤ lI w' (nI i) ∧ ¬ lI w' (nI i) ≤ lI w (nI i) := by
  obtain ⟨m, k, rfl, hm, -⟩ := v
  obtain ⟨m', k', rfl, hm', -⟩ := v'
  obtain ⟨i, h1, h2, h3⟩ := pr_lt hm hm' ((lN_lt35 hm hm').mp h)
  refine ⟨i, h1, fun t ht => by rw [lI_v hm (by omega), lI_v hm' (by omega), h2 t ht], ?_, ?_⟩
  · rw [lI_v hm h1, lI_v hm' h1, lv_le _ (dg_lt _ _) _ (dg_lt _ _)]
    omega
  · rw [lI_v hm h1, lI_v hm' h1, lv_le _ (dg_lt _ _) _ (dg_lt _ _)]
    omega
theorem lv_97 : ∀ d, 1 ≤ d → d ≤ 26 → ¬ lv d < 97 ∧ ¬ lv d = -1 := by
  intro d h1 h2
  have e : lv d = nI (96 + d) := if_neg (by omega)
  rw [e]
  exact ⟨nI_nlt (b := 97) (by omega) (by omega), nI_m1 (by omega)⟩
theorem wV_0 {w : Int64} (v : wV w) : ¬ lI w (nI 0) < 97 ∧ ¬ lI w (nI 0) = -1 := by
  obtain ⟨m, k, rfl, hm, h1, h2, h3, -⟩ := v
  rw [lI_v hm (by decide)]
  have := h3 0 (by omega)
  exact lv_97 _ this.1 this.2
/-! a letter more -/
theorem shl_v : ∀ i, i < 7 → ∀ d, d < 27 → shl (d + 96) i = lN (d * 32 ^ (6 - i)) := by decide +kernel
theorem or_add {a b i : Nat} (hb : b < 32 ^ i) (hi : i < 8) : a * 32 ^ i ||| b = a * 32 ^ i + b := by
  rw [← p32 i hi, Nat.mul_comm, Nat.two_pow_add_eq_or_of_lt (by rw [p32 i hi]; exact hb)]
theorem wVk_low {m k : Nat} (h : wVk m k) : m = pr m k * 32 ^ (7 - k) := by
  obtain ⟨hm, h1, h2, h3, h4⟩ := h
  have key : ∀ j, k ≤ j → j ≤ 7 → pr m j = pr m k * 32 ^ (j - k) := by
    intro j
    induction j with
    | zero => intro hk _; omega
    | succ j ih =>
      intro hk hj
      rcases Nat.lt_or_ge j k with c | c
      · have : k = j + 1 := by omega
        subst this
        rw [Nat.sub_self, Nat.pow_zero, Nat.mul_one]
      · have e : j + 1 - k = (j - k) + 1 := by omega
        rw [pr_s m j (by omega), h4 j c (by omega), ih c (by omega), e, Nat.pow_succ, ← Nat.mul_assoc, Nat.mul_comm 32, Nat.add_zero, Nat.mul_assoc, Nat.mul_comm 32 (32 ^ (j - k))]
  have := key 7 h2 (Nat.le_refl _)
  rw [pr_7] at this
  exact this
theorem dg_add {a d i t : Nat} (hd : d < 32) (hi : i < 7) (ht : t < 7) : dg (a * 32 ^ (7 - i) + d * 32 ^ (6 - i)) t = if t < i then dg (a * 32 ^ (7 - i)) t else if t = i then d else 0 := by
  have e7 : 7 - i = (6 - i) + 1 := by omega
  unfold dg
  rcases Nat.lt_trichotomy t i with c | c | c
  · rw [if_pos c]
    have e : 6 - t = (7 - i) + (i - 1 - t) := by omega
    rw [e, Nat.pow_add, ← Nat.div_div_eq_div_mul, ← Nat.div_div_eq_div_mul]
    have hp : 0 < 32 ^ (7 - i) := Nat.pow_pos (by decide)
    have hlt : d * 32 ^ (6 - i) < 32 ^ (7 - i) := by
      rw [e7, Nat.pow_succ, Nat.mul_comm]
      exact Nat.mul_lt_mul_of_pos_left hd (Nat.pow_pos (by decide))
    rw [Nat.mul_comm a, Nat.mul_add_div hp, Nat.div_eq_of_lt hlt, Nat.add_zero, Nat.mul_div_cancel_left _ hp]
  · subst c
    rw [if_neg (Nat.lt_irrefl _), if_pos rfl, e7, Nat.pow_succ]
    have hp : 0 < 32 ^ (6 - t) := Nat.pow_pos (by decide)
    have e : a * (32 ^ (6 - t) * 32) + d * 32 ^ (6 - t) = 32 ^ (6 - t) * (a * 32 + d) := by
      rw [Nat.mul_add, Nat.mul_comm d, Nat.mul_comm a, Nat.mul_comm a 32, Nat.mul_assoc]
    rw [e, Nat.mul_div_cancel_left _ hp]
    omega
  · rw [if_neg (by omega), if_neg (by omega)]
    have e1 : 7 - i = (6 - t) + ((7 - i) - (6 - t)) := by omega
    have e2 : 6 - i = (6 - t) + ((6 - i) - (6 - t)) := by omega
    have hp : 0 < 32 ^ (6 - t) := Nat.pow_pos (by decide)
    obtain ⟨u, hu⟩ : ∃ u, (7 - i) - (6 - t) = u + 1 := ⟨(7 - i) - (6 - t) - 1, by omega⟩
    obtain ⟨u', hu'⟩ : ∃ u, (6 - i) - (6 - t) = u + 1 := ⟨(6 - i) - (6 - t) - 1, by omega⟩
    have p1 : 32 ^ (7 - i) = 32 ^ (6 - t) * (32 ^ u * 32) := by
      rw [e1, hu, Nat.pow_add, Nat.pow_succ]
    have p2 : 32 ^ (6 - i) = 32 ^ (6 - t) * (32 ^ u' * 32) := by
      rw [e2, hu', Nat.pow_add, Nat.pow_succ]
    rw [p1, p2]
    have e : a * (32 ^ (6 - t) * (32 ^ u * 32)) + d * (32 ^ (6 - t) * (32 ^ u' * 32)) = 32 ^ (6 - t) * ((a * 32 ^ u + d * 32 ^ u') * 32) := by
      rw [Nat.add_mul, Nat.mul_add, Nat.mul_left_comm a, Nat.mul_left_comm d, Nat.mul_assoc a, Nat.mul_assoc d]
    rw [e, Nat.mul_div_cancel_left _ hp, Nat.mul_mod_left]
/-- the first letter -/
theorem wVk_1 {c : Nat} (h1 : 97 ≤ c) (h2 : c ≤ 122) : ∃ m, (0 : Int64) ||| shl c 0 = lN m ∧ wVk m 1 := by
  obtain ⟨d, rfl⟩ : ∃ d, c = d + 96 := ⟨c - 96, by omega⟩
  refine ⟨d * 32 ^ 6, ?_, ?_⟩
  · rw [shl_v 0 (by decide) d (by omega), show (0 : Int64) = lN 0 from rfl, lN_or, Nat.zero_or]
  · have hg : ∀ t, t < 7 → dg (d * 32 ^ 6) t = if t = 0 then d else 0 := fun t ht => by
      have := dg_add (a := 0) (d := d) (i := 0) (t := t) (by omega) (by decide) ht
      rw [Nat.zero_mul, Nat.zero_add] at this
      rw [this, if_neg (Nat.not_lt_zero _)]
    refine ⟨by have : (32 : Nat) ^ 6 = 1073741824 := by decide
               omega, Nat.le_refl _, by decide, fun i hi => ?_, fun i h3 h4 => ?_⟩
    · have : i = 0 := by omega
      subst this
      rw [hg 0 (by decide), if_pos rfl]
      omega
    · rw [hg i h4, if_neg (by omega)]
/-- one more -/
theorem wVk_s {m k c : Nat} (h : wVk m k) (hk : k < 7) (h1 : 97 ≤ c) (h2 : c ≤ 122) : ∃ m', lN m ||| shl c k = lN m' ∧ wVk m' (k + 1) := by
  obtain ⟨d, rfl⟩ : ∃ d, c = d + 96 := ⟨c - 96, by omega⟩
  have e := wVk_low h
  obtain ⟨hm, g1, g2, g3, g4⟩ := h
  have hp : 0 < 32 ^ (6 - k) := Nat.pow_pos (by decide)
  have e7 : 7 - k = (6 - k) + 1 := by omega
  have hlt : d * 32 ^ (6 - k) < 32 ^ (7 - k) := by
    rw [e7, Nat.pow_succ, Nat.mul_comm]
    exact Nat.mul_lt_mul_of_pos_left (by omega) hp
  have hg : ∀ t, t < 7 → dg (m + d * 32 ^ (6 - k)) t = if t < k then dg m t else if t = k then d else 0 := fun t ht => by
    have := dg_add (a := pr m k) (d := d) (i := k) (t := t) (by omega) hk ht
    rw [← e] at this
    exact this
  refine ⟨m + d * 32 ^ (6 - k), ?_, ?_, by omega, by omega, fun i hi => ?_, fun i h3 h4 => ?_⟩
  · rw [shl_v k hk d (by omega), lN_or]
    congr 1
    have := or_add (a := pr m k) hlt (by omega)
    rw [← e] at this
    exact this
  · -- below the end
    have hpk : pr m k < 32 ^ k := by
      refine Nat.div_lt_of_lt_mul ?_
      rw [← Nat.pow_add, show 7 - k + k = 7 by omega]
      have : (32 : Nat) ^ 7 = 34359738368 := by decide
      omega
    have h3 : (pr m k + 1) * 32 ^ (7 - k) ≤ 32 ^ k * 32 ^ (7 - k) := Nat.mul_le_mul_right _ hpk
    rw [← Nat.pow_add, show k + (7 - k) = 7 by omega, Nat.add_mul, ← e, Nat.one_mul, show (32 : Nat) ^ 7 = 34359738368 by decide] at h3
    omega
  · rw [hg i (by omega)]
    rcases Nat.lt_or_ge i k with z | z
    · rw [if_pos z]; exact g3 i z
    · rw [if_neg (by omega), if_pos (by omega)]
      omega
  · rw [hg i h4, if_neg (by omega), if_neg (by omega)]
