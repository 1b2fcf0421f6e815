/-! CHANGES, as numbers. al_row: one more word comes to a row of numbers; u: what a change counts; z: the first cell. -/
def al_row (u z : Nat) (prev : Nat → Nat) (same : Nat → Bool) : Nat → Nat
  | 0 => z
  | i + 1 => min (prev i + (if same i then 0 else u)) (u + min (prev (i + 1)) (al_row u z prev same i))
/-- the changes of the first i words of q and the k words of s from a on -/
def al_d (q s : Nat → Int64) (a : Nat) : Nat → Nat → Nat
  | 0 => fun i => i
  | k + 1 => al_row 1 (k + 1) (al_d q s a k) (fun i => q i == s (a + k))
/-- the table for all passages: behind i words of q, at the end j of a passage: changes * 64 + where it begins, the least -/
def al_c (q s : Nat → Int64) : Nat → Nat → Nat
  | 0 => fun j => j
  | i + 1 => al_row 64 (al_c q s i 0 + 64) (al_c q s i) (fun j => q i == s j)
/-- the other table: behind b words of s, the least changes of the first i words of q and a passage that ends there -/
def al_e (q s : Nat → Int64) : Nat → Nat → Nat
  | 0 => fun i => i
  | b + 1 => al_row 1 0 (al_e q s b) (fun i => q i == s b)
section AL
variable {q s : Nat → Int64}
theorem al_d0 (a k : Nat) : al_d q s a k 0 = k := by
  cases k with
  | zero => rfl
  | succ k => rfl
theorem al_d_S (a k i : Nat) : al_d q s a (k + 1) (i + 1) = min (al_d q s a k i + (if q i == s (a + k) then 0 else 1)) (1 + min (al_d q s a k (i + 1)) (al_d q s a (k + 1) i)) := rfl
theorem al_c_S (i j : Nat) : al_c q s (i + 1) (j + 1) = min (al_c q s i j + (if q i == s j then 0 else 64)) (64 + min (al_c q s i (j + 1)) (al_c q s (i + 1) j)) := rfl
theorem al_e_S (b i : Nat) : al_e q s (b + 1) (i + 1) = min (al_e q s b i + (if q i == s b then 0 else 1)) (1 + min (al_e q s b (i + 1)) (al_e q s (b + 1) i)) := rfl
theorem al_c0 (i : Nat) : al_c q s i 0 = 64 * i := by
  induction i with
  | zero => rfl
  | succ i ih =>
    show al_c q s i 0 + 64 = 64 * (i + 1)
    omega
theorem al_d_le (a k i : Nat) : al_d q s a k i ≤ k + i := by
  induction k generalizing i with
  | zero => show i ≤ 0 + i; omega
  | succ k ih =>
    induction i with
    | zero => rw [al_d0]; omega
    | succ i ih2 =>
      rw [al_d_S]
      have h1 := ih (i + 1)
      omega
theorem al_d1 (a i : Nat) : al_d q s a 1 (i + 1) ≤ i + 1 := by
  rw [al_d_S]
  have h : al_d q s a 0 i = i := rfl
  rw [h]
  split <;> omega
theorem al_c_le (i : Nat) : ∀ j a : Nat, a ≤ j → al_c q s i j ≤ 64 * al_d q s a (j - a) i + a := by
  induction i with
  | zero =>
    intro j a h
    rw [al_d0]
    show j ≤ 64 * (j - a) + a
    omega
  | succ i ih =>
    intro j
    induction j with
    | zero =>
      intro a h
      have h0 : a = 0 := by omega
      subst h0
      rw [al_c0]
      show 64 * (i + 1) ≤ 64 * (i + 1) + 0
      omega
    | succ j ih2 =>
      intro a h
      rw [al_c_S]
      rcases Nat.lt_or_ge j a with h1 | h1
      · have h0 : a = j + 1 := by omega
        subst h0
        have h2 := ih (j + 1) (j + 1) (Nat.le_refl _)
        rw [Nat.sub_self] at h2 ⊢
        have h3 : al_d q s (j + 1) 0 i = i := rfl
        have h4 : al_d q s (j + 1) 0 (i + 1) = i + 1 := rfl
        rw [h3] at h2
        rw [h4]
        omega
      · have h2 := ih j a h1
        have h3 := ih (j + 1) a h
        have h4 := ih2 a h1
        have e1 : j + 1 - a = (j - a) + 1 := by omega
        have e2 : a + (j - a) = j := by omega
        rw [e1] at h3 ⊢
        rw [al_d_S, e2]
        by_cases hq : (q i == s j) = true
        · rw [if_pos hq, if_pos hq]; omega
        · rw [if_neg hq, if_neg hq]; omega
theorem al_c_ex (i : Nat) : ∀ j : Nat, ∃ a, a ≤ j ∧ al_c q s i j = 64 * al_d q s a (j - a) i + a := by
  induction i with
  | zero =>
    intro j
    refine ⟨j, Nat.le_refl _, ?_⟩
    rw [al_d0]
    show j = 64 * (j - j) + j
    omega
  | succ i ih =>
    intro j
    induction j with
    | zero =>
      refine ⟨0, Nat.le_refl _, ?_⟩
      rw [al_c0]
      rfl
    | succ j ih2 =>
      have key : ∃ a, a ≤ j + 1 ∧ 64 * al_d q s a (j + 1 - a) (i + 1) + a ≤ al_c q s (i + 1) (j + 1) := by
        obtain ⟨a1, l1, e1⟩ := ih j
        obtain ⟨a2, l2, e2⟩ := ih (j + 1)
        obtain ⟨a3, l3, e3⟩ := ih2
        have f1 : al_d q s a1 (j + 1 - a1) (i + 1) ≤ al_d q s a1 (j - a1) i + (if q i == s j then 0 else 1) := by
          have g1 : j + 1 - a1 = (j - a1) + 1 := by omega
          have g2 : a1 + (j - a1) = j := by omega
          rw [g1, al_d_S, g2]; omega
        have f2 : al_d q s a2 (j + 1 - a2) (i + 1) ≤ 1 + al_d q s a2 (j + 1 - a2) i := by
          rcases Nat.lt_or_ge j a2 with h1 | h1
          · have g0 : a2 = j + 1 := by omega
            subst g0
            rw [Nat.sub_self]
            show i + 1 ≤ 1 + i
            omega
          · have g1 : j + 1 - a2 = (j - a2) + 1 := by omega
            rw [g1, al_d_S]; omega
        have f3 : al_d q s a3 (j + 1 - a3) (i + 1) ≤ 1 + al_d q s a3 (j - a3) (i + 1) := by
          have g1 : j + 1 - a3 = (j - a3) + 1 := by omega
          rw [g1, al_d_S]; omega
        rw [al_c_S]
        by_cases hq : (q i == s j) = true
        · rw [if_pos hq] at f1 ⊢
          by_cases m1 : al_c q s i j ≤ 64 + min (al_c q s i (j + 1)) (al_c q s (i + 1) j)
          · exact ⟨a1, by omega, by omega⟩
          · by_cases m2 : al_c q s i (j + 1) ≤ al_c q s (i + 1) j
            · exact ⟨a2, l2, by omega⟩
            · exact ⟨a3, by omega, by omega⟩
        · rw [if_neg hq] at f1 ⊢
          by_cases m1 : al_c q s i j + 64 ≤ 64 + min (al_c q s i (j + 1)) (al_c q s (i + 1) j)
          · exact ⟨a1, by omega, by omega⟩
          · by_cases m2 : al_c q s i (j + 1) ≤ al_c q s (i + 1) j
            · exact ⟨a2, l2, by omega⟩
            · exact ⟨a3, by omega, by omega⟩
      obtain ⟨a, h1, h2⟩ := key
      exact ⟨a, h1, Nat.le_antisymm (al_c_le (i + 1) (j + 1) a h1) h2⟩
theorem al_c_lt (i j : Nat) : al_c q s i j ≤ 64 * (i + j) + j := by
  have h := al_c_le (q := q) (s := s) i j 0 (Nat.zero_le _)
  have h2 := al_d_le (q := q) (s := s) 0 (j - 0) i
  omega
theorem al_e_le (b : Nat) : ∀ i a : Nat, a ≤ b → al_e q s b i ≤ al_d q s a (b - a) i := by
  induction b with
  | zero =>
    intro i a h
    have h0 : a = 0 := by omega
    subst h0
    exact Nat.le_refl _
  | succ b ih =>
    intro i
    induction i with
    | zero => intro a h; exact Nat.zero_le _
    | succ i ih2 =>
      intro a h
      rw [al_e_S]
      rcases Nat.lt_or_ge b a with h1 | h1
      · have h0 : a = b + 1 := by omega
        subst h0
        have h2 := ih2 (b + 1) (Nat.le_refl _)
        rw [Nat.sub_self] at h2 ⊢
        have h3 : al_d q s (b + 1) 0 i = i := rfl
        have h4 : al_d q s (b + 1) 0 (i + 1) = i + 1 := rfl
        rw [h3] at h2
        rw [h4]
        omega
      · have h2 := ih i a h1
        have h3 := ih (i + 1) a h1
        have h4 := ih2 a h
        have e1 : b + 1 - a = (b - a) + 1 := by omega
        have e2 : a + (b - a) = b := by omega
        rw [e1] at h4 ⊢
        rw [al_d_S, e2]
        omega
theorem al_e_ex (b : Nat) : ∀ i : Nat, ∃ a, a ≤ b ∧ al_e q s b i = al_d q s a (b - a) i := by
  induction b with
  | zero => intro i; exact ⟨0, Nat.le_refl _, rfl⟩
  | succ b ih =>
    intro i
    induction i with
    | zero =>
      refine ⟨b + 1, Nat.le_refl _, ?_⟩
      rw [Nat.sub_self]; rfl
    | succ i ih2 =>
      have key : ∃ a, a ≤ b + 1 ∧ al_d q s a (b + 1 - a) (i + 1) ≤ al_e q s (b + 1) (i + 1) := by
        obtain ⟨a1, l1, e1⟩ := ih i
        obtain ⟨a2, l2, e2⟩ := ih (i + 1)
        obtain ⟨a3, l3, e3⟩ := ih2
        have f1 : al_d q s a1 (b + 1 - a1) (i + 1) ≤ al_d q s a1 (b - a1) i + (if q i == s b then 0 else 1) := by
          have g1 : b + 1 - a1 = (b - a1) + 1 := by omega
          have g2 : a1 + (b - a1) = b := by omega
          rw [g1, al_d_S, g2]; omega
        have f2 : al_d q s a2 (b + 1 - a2) (i + 1) ≤ 1 + al_d q s a2 (b - a2) (i + 1) := by
          have g1 : b + 1 - a2 = (b - a2) + 1 := by omega
          rw [g1, al_d_S]; omega
        have f3 : al_d q s a3 (b + 1 - a3) (i + 1) ≤ 1 + al_d q s a3 (b + 1 - a3) i := by
          rcases Nat.lt_or_ge b a3 with h1 | h1
          · have g0 : a3 = b + 1 := by omega
            subst g0
            rw [Nat.sub_self]
            show i + 1 ≤ 1 + i
            omega
          · have g1 : b + 1 - a3 = (b - a3) + 1 := by omega
            rw [g1, al_d_S]; omega
        rw [al_e_S]
        by_cases m1 : al_e q s b i + (if q i == s b then 0 else 1) ≤ 1 + min (al_e q s b (i + 1)) (al_e q s (b + 1) i)
        · exact ⟨a1, by omega, by omega⟩
        · by_cases m2 : al_e q s b (i + 1) ≤ al_e q s (b + 1) i
          · exact ⟨a2, by omega, by omega⟩
          · exact ⟨a3, l3, by omega⟩
      obtain ⟨a, h1, h2⟩ := key
      exact ⟨a, h1, Nat.le_antisymm (al_e_le (b + 1) (i + 1) a h1) h2⟩
/-- the passage of l words from a on is the one with the least changes d of the m words of q; of several the one that begins first, then the shortest -/
def al_best (q s : Nat → Int64) (m n d a l : Nat) : Prop :=
  1 ≤ l ∧ a + l ≤ n ∧ al_d q s a l m = d ∧ ∀ a' l', 1 ≤ l' → a' + l' ≤ n → d < al_d q s a' l' m ∨ (d = al_d q s a' l' m ∧ (a < a' ∨ (a = a' ∧ l ≤ l')))
theorem al_best_one {m n d a l d' a' l' : Nat} (h : al_best q s m n d a l) (h' : al_best q s m n d' a' l') : d = d' ∧ a = a' ∧ l = l' := by
  obtain ⟨h1, h2, h3, h4⟩ := h
  obtain ⟨g1, g2, g3, g4⟩ := h'
  have k1 := h4 a' l' g1 g2
  have k2 := g4 a l h1 h2
  rw [g3] at k1
  rw [h3] at k2
  omega
theorem al_best_le {m n d a l : Nat} (h : al_best q s (m + 1) n d a l) : d ≤ m + 1 := by
  obtain ⟨h1, h2, h3, h4⟩ := h
  have k := h4 a 1 (Nat.le_refl _) (by omega)
  have k2 := al_d1 (q := q) (s := s) a m
  omega
/-- the table tells it: e is the first end at which its last row is least -/
theorem al_table {m n e : Nat} (hm : 1 ≤ m) (hn : n ≤ 60) (he1 : 1 ≤ e) (he2 : e ≤ n) (hb : ∀ j, 1 ≤ j → j < e → al_c q s m e < al_c q s m j) (ha : ∀ j, e ≤ j → j ≤ n → al_c q s m e ≤ al_c q s m j) :
    al_best q s m n (al_c q s m e / 64) (al_c q s m e % 64) (e - al_c q s m e % 64) ∧ al_c q s m e % 64 ≤ e := by
  obtain ⟨a, h1, h2⟩ := al_c_ex (q := q) (s := s) m e
  have hd : al_c q s m e / 64 = al_d q s a (e - a) m := by omega
  have hm' : al_c q s m e % 64 = a := by omega
  have hlt : a < e := by
    rcases Nat.lt_or_ge a e with h | h
    · exact h
    · exfalso
      have h0 : a = e := by omega
      subst h0
      rw [Nat.sub_self] at h2
      have h3 : al_d q s a 0 m = m := rfl
      rw [h3] at h2
      have h4 := al_c_le (q := q) (s := s) m a (a - 1) (by omega)
      have e1 : a - (a - 1) = 1 := by omega
      rw [e1] at h4
      have h5 := al_d1 (q := q) (s := s) (a - 1) (m - 1)
      have e2 : m - 1 + 1 = m := by omega
      rw [e2] at h5
      omega
  rw [hm', hd]
  refine ⟨⟨by omega, by omega, rfl, fun a' l' g1 g2 => ?_⟩, by omega⟩
  have k1 := al_c_le (q := q) (s := s) m (a' + l') a' (by omega)
  have e1 : a' + l' - a' = l' := by omega
  rw [e1] at k1
  rcases Nat.lt_or_ge (a' + l') e with h | h
  · have k2 := hb (a' + l') (by omega) h
    omega
  · have k2 := ha (a' + l') h g2
    omega
end AL
