/-! numbers -/
theorem nI_min {a b : Nat} (ha : a < 2147483648) (hb : b < 2147483648) : (if nI a < nI b then nI a else nI b) = nI (min a b) := by
  by_cases h : a < b
  · rw [if_pos ((nI_ltI ha hb).mpr h), Nat.min_eq_left (by omega)]
  · rw [if_neg (fun q => h ((nI_ltI ha hb).mp q)), Nat.min_eq_right (by omega)]
theorem nI_sub1 {a : Nat} (h : 0 < a) : nI a - 1 = nI (a - 1) := by
  obtain ⟨b, rfl⟩ : ∃ b, a = b + 1 := ⟨a - 1, by omega⟩
  rw [nI_pred]; rfl
theorem lg_cmp0 (x y : Int64) : lg_cmp x y = 0 ↔ x = y := by
  unfold lg_cmp
  by_cases h : x > y
  · rw [if_pos h]
    constructor
    · intro q; exact absurd q (by decide)
    · intro q; subst q; exact absurd h (Int64.lt_irrefl)
  · rw [if_neg h]
    by_cases e : x = y
    · rw [if_pos e]; simp [e]
    · rw [if_neg e]; simp [e]
theorem al_row_le (u z : Nat) (prev : Nat → Nat) (same : Nat → Bool) : ∀ j, al_row u z prev same j ≤ z + u * j
  | 0 => by show z ≤ z + u * 0; omega
  | j + 1 => by
    have h := al_row_le u z prev same j
    show min _ (u + min (prev (j + 1)) (al_row u z prev same j)) ≤ z + u * (j + 1)
    have e : u * (j + 1) = u * j + u := Nat.mul_succ u j
    omega
/-! takeWord -/
def tw_g (word : Int64) (w : Nat → Int64) (fr : Nat) (f : Nat → Nat) : Nat → Nat := al_row 64 (f 0 + 64) f (fun i => w (fr + i) == word)
theorem tw_loop {G : pq_G} {se p fr count : Nat} {word : Int64} {w : Nat → Int64} {f : Nat → Nat} (hse : pq_r G se 0 = se + 1) (hrow : sh_R G (se + 1) 61) (hp0 : pq_r G p 0 = p + 1) (hpw : sh_R G (p + 1) 60) (hne : p + 2 ≠ se + 2) (hc : count ≤ 60) (hfc : fr + count ≤ 60) (hf : ∀ j, j ≤ count → f j ≤ 1000000) :
    ∀ (r i n : Nat) (S : pq_N), i + r = count + 1 → 1 ≤ i → r < n → S.2 (p + 2) = w → (∀ j, j < i → S.2 (se + 2) j = lN (tw_g word w fr f j)) → (∀ j, i ≤ j → j ≤ count → S.2 (se + 2) j = lN (f j)) →
      ∃ S1, F_X8_takeWord_b31 G n S se word p (nI fr) (nI count) (nI (f (i - 1))) (nI (tw_g word w fr f (i - 1))) (nI i) = some ((), S1) ∧ S1.1 = S.1 ∧ (∀ b, b ≠ se + 2 → S1.2 b = S.2 b) ∧ ∀ j, j ≤ count → S1.2 (se + 2) j = lN (tw_g word w fr f j) := by
  have hg : ∀ j, j ≤ count → tw_g word w fr f j ≤ 1010000 := fun j hj => by
    have h1 := al_row_le 64 (f 0 + 64) f (fun i => w (fr + i) == word) j
    have h2 := hf 0 (by omega)
    show al_row _ _ _ _ _ ≤ _
    omega
  intro r
  induction r with
  | zero =>
    intro i n S hir hi hn hw hlo hhi
    obtain ⟨n, rfl⟩ : ∃ k, n = k + 1 := ⟨n - 1, by omega⟩
    refine ⟨S, ?_, rfl, fun b _ => rfl, fun j hj => hlo j (by omega)⟩
    rw [F_X8_takeWord_b31.eq_2, if_pos (nI_lt (by omega) (by omega))]
  | succ r ih =>
    intro i n S hir hi hn hw hlo hhi
    obtain ⟨n, rfl⟩ : ∃ k, n = k + 1 := ⟨n - 1, by omega⟩
    have e1 : F_X7_number G S (se + 1) (nI i) = some (nI (f i), S) := by
      rw [f_number hrow (by omega) (by omega), hhi i (by omega) (by omega), lN_i]
    have e2 : F_X7_at G S (p + 1) ((nI fr + nI i) - 1) = some (w (fr + (i - 1)), S) := by
      rw [nI_add, nI_sub1 (by omega), f_at hpw (by omega) (by omega), hw]
      congr 3
      omega
    rw [F_X8_takeWord_b31.eq_2, if_neg (nI_nlt (by omega) (by omega)), hse, pq_bd1 e1, hp0, pq_bd1 e2]
    have hb : ∀ (t : Nat), t = f (i - 1) + (if w (fr + (i - 1)) == word then 0 else 64) →
        ∃ S1, F_X8_takeWord_b78 G (F_X8_takeWord_b31 G n) S se word p (nI fr) (nI count) (nI (tw_g word w fr f (i - 1))) (nI i) (nI (f i)) (nI t) = some ((), S1) ∧ S1.1 = S.1 ∧ (∀ b, b ≠ se + 2 → S1.2 b = S.2 b) ∧ ∀ j, j ≤ count → S1.2 (se + 2) j = lN (tw_g word w fr f j) := by
      intro t ht
      have g1 := hg (i - 1) (by omega)
      have g2 := hf i (by omega)
      have g3 := hf (i - 1) (by omega)
      have ht2 : t ≤ 1000064 := by rw [ht]; split <;> omega
      have hgi : tw_g word w fr f i = min t (64 + min (f i) (tw_g word w fr f (i - 1))) := by
        obtain ⟨k, rfl⟩ : ∃ k, i = k + 1 := ⟨i - 1, by omega⟩
        rw [ht]; rfl
      have hv : (if ((if nI (tw_g word w fr f (i - 1)) < nI (f i) then nI (tw_g word w fr f (i - 1)) else nI (f i)) + (64 : Int32)) < nI t then ((if nI (tw_g word w fr f (i - 1)) < nI (f i) then nI (tw_g word w fr f (i - 1)) else nI (f i)) + (64 : Int32)) else nI t) = nI (tw_g word w fr f i) := by
        rw [nI_min (by omega) (by omega), show (64 : Int32) = nI 64 from rfl, nI_add, nI_min (by omega) (by omega), hgi]
        congr 1
        omega
      have hgb := hg i (by omega)
      unfold F_X8_takeWord_b78
      rw [hv]
      rw [pq_lt1, hse, nI_l (by omega), pq_bd1 (f_put hrow (by omega) (by omega))]
      have hi1 : nI i + (1 : Int32) = nI (i + 1) := nI_1 i
      rw [hi1]
      obtain ⟨S1, q1, q2, q3, q4⟩ := ih (i + 1) n (pq_wj S (se + 2) i (lN (tw_g word w fr f i))) (by omega) (by omega) (by omega)
        (by show (if p + 2 = se + 2 then _ else S.2 (p + 2)) = w; rw [if_neg hne, hw])
        (fun j hj => by
          show (if se + 2 = se + 2 then vp_updL (S.2 (se + 2)) i (lN (tw_g word w fr f i)) else _) j = _
          rw [if_pos rfl]
          by_cases hji : j = i
          · subst hji; exact pk_uLs
          · rw [pk_uLn hji]; exact hlo j (by omega))
        (fun j h1 h2 => by
          show (if se + 2 = se + 2 then vp_updL (S.2 (se + 2)) i (lN (tw_g word w fr f i)) else _) j = _
          rw [if_pos rfl, pk_uLn (by omega)]; exact hhi j (by omega) h2)
      refine ⟨S1, q1, q2, fun b hb => ?_, q4⟩
      rw [q3 b hb]
      show (if b = se + 2 then _ else S.2 b) = S.2 b
      rw [if_neg hb]
    by_cases hq : (w (fr + (i - 1)) == word) = true
    · rw [if_pos ((lg_cmp0 _ _).mpr (by simpa using hq))]
      exact hb (f (i - 1)) (by rw [if_pos hq, Nat.add_zero])
    · rw [if_neg (fun z => hq (by simpa using (lg_cmp0 _ _).mp z)), show (64 : Int32) = nI 64 from rfl, nI_add]
      exact hb (f (i - 1) + 64) (by rw [if_neg hq])
theorem tw_all {G : pq_G} {S : pq_N} {se p fr count : Nat} {word : Int64} {f : Nat → Nat} (hse : pq_r G se 0 = se + 1) (hrow : sh_R G (se + 1) 61) (hp0 : pq_r G p 0 = p + 1) (hpw : sh_R G (p + 1) 60) (hne : p + 2 ≠ se + 2) (hc : count ≤ 60) (hfc : fr + count ≤ 60) (hf : ∀ j, j ≤ count → f j ≤ 1000000) (hcell : ∀ j, j ≤ count → S.2 (se + 2) j = lN (f j)) :
    ∃ S1, F_X8_takeWord G S se word p (nI fr) (nI count) = some ((), S1) ∧ S1.1 = S.1 ∧ (∀ b, b ≠ se + 2 → S1.2 b = S.2 b) ∧ ∀ j, j ≤ count → S1.2 (se + 2) j = lN (tw_g word (S.2 (p + 2)) fr f j) := by
  have h0 := hf 0 (Nat.zero_le _)
  have e1 : F_X7_number G S (se + 1) (0 : Int32) = some (nI (f 0), S) := by
    rw [show (0 : Int32) = nI 0 from rfl, f_number hrow (by omega) (by omega), hcell 0 (by omega), lN_i]
  unfold F_X8_takeWord
  rw [hse, pq_bd1 e1, show (64 : Int32) = nI 64 from rfl, nI_add, nI_l (by omega), show (0 : Int32) = nI 0 from rfl, pq_bd1 (f_put hrow (by omega) (by omega))]
  obtain ⟨S1, q1, q2, q3, q4⟩ := tw_loop (G := G) (word := word) (w := S.2 (p + 2)) hse hrow hp0 hpw hne hc hfc hf count 1 pq_fuel (pq_wj S (se + 1 + 1) 0 (lN (f 0 + 64))) (by omega) (by omega) (by unfold pq_fuel; omega)
    (by show (if p + 2 = se + 2 then _ else S.2 (p + 2)) = _; rw [if_neg hne])
    (fun j hj => by
      have hj0 : j = 0 := by omega
      subst hj0
      show (if se + 2 = se + 2 then vp_updL (S.2 (se + 2)) 0 (lN (f 0 + 64)) else _) 0 = _
      rw [if_pos rfl]; exact pk_uLs)
    (fun j h1 h2 => by
      show (if se + 2 = se + 2 then vp_updL (S.2 (se + 2)) 0 (lN (f 0 + 64)) else _) j = _
      rw [if_pos rfl, pk_uLn (by omega)]; exact hcell j h2)
  refine ⟨S1, q1, q2, fun b hb => ?_, q4⟩
  rw [q3 b hb]
  show (if b = se + 2 then _ else S.2 b) = S.2 b
  rw [if_neg hb]
