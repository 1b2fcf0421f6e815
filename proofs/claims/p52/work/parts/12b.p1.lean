/-! THE FUNCTIONS, over the skeleton as it is made. x: the class's object; its states: 0 the one that counts, 1 the snapshot, 2 .. 6 the saved ones. -/
def sh_s (x i : Nat) : Nat := if i = 0 then x + 1 else x + 3 + 191 * i
/-- the pamphlet j of the state i -/
def sh_p (x i j : Nat) : Nat := sh_s x i + 11 + 9 * j
def sh_A (G : pq_G) (x : Nat) : Prop := pq_ok G 10 x ∧ pq_r G x 0 = x + 1 ∧ pq_r G x 1 = x + 192 ∧ pq_r G x 2 = x + 1340 ∧ pq_r G x 3 = x + 1343 ∧ pq_r G x 4 = x + 1353 ∧ pq_r G x 5 = x + 1357 ∧ pq_r G x 6 = x + 1360
def sh_H (G : pq_G) (x : Nat) : Prop := pq_r G (x + 192) 0 = x + 193 ∧ pq_r G (x + 192) 1 = x + 194 ∧ pq_n G (x + 193) = 5 ∧ ∀ i, i < 5 → pq_r G (x + 193) i = x + 385 + 191 * i
def sh_S (G : pq_G) (x : Nat) : Prop := ∀ i, i < 7 → pq_ok G 9 (sh_s x i) ∧ pq_r G (sh_s x i) 0 = sh_s x i + 1 ∧ pq_r G (sh_s x i) 1 = sh_s x i + 2 ∧ pq_n G (sh_s x i + 1) = 20 ∧ ∀ j, j < 20 → pq_r G (sh_s x i + 1) j = sh_p x i j
def sh_R (G : pq_G) (a n : Nat) : Prop := pq_r G a 0 = a + 1 ∧ pq_n G (a + 1) = n
def sh_P (G : pq_G) : Prop := ∀ p, pq_ok G 4 p → (pq_r G p 0 = p + 1 ∧ pq_r G p 1 = p + 3 ∧ pq_r G p 2 = p + 5 ∧ pq_r G p 3 = p + 7) ∧ sh_R G (p + 1) 60 ∧ sh_R G (p + 3) 16 ∧ sh_R G (p + 5) 16 ∧ sh_R G (p + 7) 16
def sh_O (G : pq_G) (x : Nat) : Prop := (pq_r G (x + 1340) 0 = x + 1341 ∧ sh_R G (x + 1341) 100) ∧ pq_r G (x + 1343) 0 = x + 1344 ∧ (pq_r G (x + 1353) 0 = x + 1354 ∧ pq_r G (x + 1354) 0 = x + 1355 ∧ sh_R G (x + 1355) 61) ∧ (pq_r G (x + 1357) 0 = x + 1358 ∧ sh_R G (x + 1358) 20) ∧ pq_r G (x + 1360) 0 = x + 1361 ∧ sh_R G (x + 1361) 1200 ∧ pq_r G (x + 1360) 1 = x + 1363 ∧ sh_R G (x + 1363) 1200
def sh_M (G : pq_G) (x : Nat) : Prop := pq_ok G 10 x
/-- the skeleton -/
def sh_G (G : pq_G) (x : Nat) : Prop := pq_WT G ∧ sh_A G x ∧ sh_H G x ∧ sh_S G x ∧ sh_P G ∧ sh_O G x ∧ sh_M G x
theorem sh_pok {G : pq_G} {x i j : Nat} (h : sh_G G x) (hi : i < 7) (hj : j < 20) : pq_ok G 4 (sh_p x i j) := by
  obtain ⟨W, -, -, hS, -⟩ := h
  obtain ⟨o, h0, -, hn, hr⟩ := hS i hi
  have k := (pq_wt (k := 0) W o rfl).2
  rw [h0] at k
  have := (pq_wt14 W k (show j < pq_n G (sh_s x i + 1) by rw [hn]; exact hj)).2
  rw [hr j hj] at this
  exact this
/-! rows -/
theorem f_neg {n : Nat} (h : n < 2147483648) : ¬ nI n < 0 := nI_pos h
theorem f_at {G : pq_G} {S : pq_N} {a n j : Nat} (h : sh_R G a n) (hj : j < n) (hn : n < 2147483648) : F_X7_at G S a (nI j) = some (S.2 (a + 1) j, S) := by
  unfold F_X7_at
  rw [h.1, h.2, if_neg (nI_pos (by omega)), if_neg (nI_ge hj hn), nI_clamp (by omega), if_neg (by
    intro q; rcases q with q | q
    · exact nI_pos (by omega) q
    · omega)]
theorem f_number {G : pq_G} {S : pq_N} {a n j : Nat} (h : sh_R G a n) (hj : j < n) (hn : n < 2147483648) : F_X7_number G S a (nI j) = some ((S.2 (a + 1) j).toInt32, S) := by
  unfold F_X7_number
  rw [h.1, h.2, if_neg (nI_pos (by omega)), if_neg (nI_ge hj hn), nI_clamp (by omega), if_neg (by
    intro q; rcases q with q | q
    · exact nI_pos (by omega) q
    · omega)]
theorem f_put {G : pq_G} {S : pq_N} {a n j : Nat} {v : Int64} (h : sh_R G a n) (hj : j < n) (hn : n < 2147483648) : F_X7_put G S a (nI j) v = some ((), pq_wj S (a + 1) j v) := by
  unfold F_X7_put
  rw [h.1, h.2, if_neg (nI_pos (by omega)), if_neg (nI_ge hj hn), nI_clamp (by omega), if_neg (by
    intro q; rcases q with q | q
    · exact nI_pos (by omega) q
    · omega)]
  rfl
theorem f_copy {G : pq_G} {S : pq_N} {a a' n k : Nat} (h : sh_R G a n) (h' : sh_R G a' n) (hk : k ≤ n) (hn : n < 2147483648) : F_X7_copy G S a a' (nI k) = some ((), pq_wr S (a + 1) (va_cpy (S.2 (a' + 1)) (S.2 (a + 1)) 0 0 k)) ∨ (k = 0 ∧ F_X7_copy G S a a' (nI k) = some ((), S)) := by
  rcases Nat.eq_zero_or_pos k with h0 | h0
  · right
    subst h0
    refine ⟨rfl, ?_⟩
    unfold F_X7_copy
    rw [if_pos (by decide)]
  · left
    unfold F_X7_copy
    rw [if_neg (nI_nle h0 (by omega)), h.1, h'.1, h.2, h'.2, if_neg (by rw [nI_ltI (by omega) (by omega)]; omega), if_neg (by rw [nI_ltI (by omega) (by omega)]; omega), if_neg (by decide), if_neg (by decide), if_neg (nI_pos (by omega)), nI_clamp (by omega)]
    rw [if_neg (by show ¬ n < 0 + k; omega), if_neg (by show ¬ n < 0 + k; omega)]
    rfl
/-- what a row holds behind a copy of its first k places -/
theorem f_copy' {G : pq_G} {S : pq_N} {a a' n k : Nat} (h : sh_R G a n) (h' : sh_R G a' n) (hk : k ≤ n) (hn : n < 2147483648) : ∃ S1, F_X7_copy G S a a' (nI k) = some ((), S1) ∧ S1.1 = S.1 ∧ (∀ b, b ≠ a + 1 → S1.2 b = S.2 b) ∧ ∀ j, j < k → S1.2 (a + 1) j = S.2 (a' + 1) j := by
  rcases f_copy (S := S) h h' hk hn with e | ⟨h0, e⟩
  · refine ⟨_, e, rfl, fun b hb => ?_, fun j hj => ?_⟩
    · simp [pq_wr, hb]
    · simp [pq_wr, va_cpy, hj]
  · exact ⟨S, e, rfl, fun b hb => rfl, fun j hj => by omega⟩
theorem f_sat {G : pq_G} {S : pq_N} {x i j : Nat} (h : sh_G G x) (hi : i < 7) (hj : j < 20) : F_X9_at G S (sh_s x i) (nI j) = some (sh_p x i j, S) := by
  obtain ⟨W, -, -, hS, -⟩ := h
  obtain ⟨o, h0, -, hn, hr⟩ := hS i hi
  unfold F_X9_at
  rw [h0, hn, if_neg (nI_pos (by omega)), if_pos (nI_lt hj (by omega)), nI_clamp (by omega), if_neg (by
    intro q; rcases q with q | q
    · exact nI_pos (by omega) q
    · omega), hr j hj]
theorem pq_bd1 {α β γ : Type} {x : Option (α × β)} {f : α → β → Option γ} {a : α} {b : β} (h : x = some (a, b)) : pq_bd x f = f a b := by rw [h]; rfl
theorem pq_lt1 {α β : Type} {a : α} {f : α → Option β} : pq_lt a f = f a := rfl
/-! takeWord: one more word comes to a row of numbers -/
