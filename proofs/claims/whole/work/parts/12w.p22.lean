/-! THE REFERENCE: what is kept -/
section MK
variable {G : pq_G} {x : Nat} {T : tT}
/-- all but two rows stay -/
def fk (x : Nat) (S S1 : pq_N) : Prop := (∀ b, b ≠ x + 1368 → S1.1 b = S.1 b) ∧ ∀ b, b ≠ x + 1369 → S1.2 b = S.2 b
theorem ka_35 (h : sh_G G x) {row : Nat} (hr : row ≤ 5) {S : pq_N} : ∀ (r i n : Nat) (U : pq_N), i + r = 1200 → r < n → U.1 = S.1 → (∀ b, b ≠ x + 1369 → U.2 b = S.2 b) → (∀ t, U.2 (x + 1369) t = if 1200 * row ≤ t ∧ t < 1200 * row + i then S.2 (x + 1367) (t - 1200 * row) else S.2 (x + 1369) t) →
    ∃ S1, F_X11_keepAt_b35 G n U (x + 1365) (nI row) (nI i) = some ((), S1) ∧ S1.1 = S.1 ∧ (∀ b, b ≠ x + 1369 → S1.2 b = S.2 b) ∧ ∀ t, S1.2 (x + 1369) t = if 1200 * row ≤ t ∧ t < 1200 * row + 1200 then S.2 (x + 1367) (t - 1200 * row) else S.2 (x + 1369) t := by
  have hw := (sh_mo h).2.1
  have hk := (sh_mo h).2.2.2.1
  intro r
  induction r with
  | zero =>
    intro i n U hir hn u1 u2 u3
    obtain ⟨n, rfl⟩ : ∃ k, n = k + 1 := ⟨n - 1, by omega⟩
    have e : i = 1200 := by omega
    subst e
    rw [F_X11_keepAt_b35.eq_2, if_pos (by decide)]
    exact ⟨U, rfl, u1, u2, u3⟩
  | succ r ih =>
    intro i n U hir hn u1 u2 u3
    obtain ⟨n, rfl⟩ : ∃ k, n = k + 1 := ⟨n - 1, by omega⟩
    rw [F_X11_keepAt_b35.eq_2, show (1200 : Int32) = nI 1200 from rfl, if_neg (nI_ge (by omega) (by omega)), nI_mul, nI_add, hw.1, hw.2, hk.1, hk.2, if_neg (nI_in (show i < 1200 by omega) (by omega)), if_neg (nI_in (show 1200 * row + i < 7200 by omega) (by omega)), nI_clamp (by omega), nI_clamp (by omega), pq_lt1, nI_1]
    refine ih (i + 1) n _ (by omega) (by omega) u1 (fun b hb => by rw [wj_a hb]; exact u2 b hb) (fun t => ?_)
    by_cases c : t = 1200 * row + i
    · rw [c, wj_s, u2 _ (by omega), if_pos (by omega), show 1200 * row + i - 1200 * row = i from by omega]
    · rw [wj_k c, u3 t]
      by_cases c2 : 1200 * row ≤ t ∧ t < 1200 * row + i
      · rw [if_pos c2, if_pos (by omega)]
      · rw [if_neg c2, if_neg (by omega)]
theorem ka_2 (h : sh_G G x) {row : Nat} (hr : row ≤ 5) {S : pq_N} : ∀ (r i n : Nat) (U : pq_N), i + r = 1042 → r < n → U.2 = S.2 → (∀ b, b ≠ x + 1368 → U.1 b = S.1 b) → (∀ t, U.1 (x + 1368) t = if 1042 * row ≤ t ∧ t < 1042 * row + i then S.1 (x + 1366) (t - 1042 * row) else S.1 (x + 1368) t) →
    ∃ S1, F_X11_keepAt_b2 G n U (x + 1365) (nI row) (nI i) = some ((), S1) ∧ fk x S S1 ∧ (∀ t, S1.1 (x + 1368) t = if 1042 * row ≤ t ∧ t < 1042 * row + 1042 then S.1 (x + 1366) (t - 1042 * row) else S.1 (x + 1368) t) ∧ ∀ t, S1.2 (x + 1369) t = if 1200 * row ≤ t ∧ t < 1200 * row + 1200 then S.2 (x + 1367) (t - 1200 * row) else S.2 (x + 1369) t := by
  have hs := (sh_mo h).1
  have hk := (sh_mo h).2.2.1
  intro r
  induction r with
  | zero =>
    intro i n U hir hn u1 u2 u3
    obtain ⟨n, rfl⟩ : ∃ k, n = k + 1 := ⟨n - 1, by omega⟩
    have e : i = 1042 := by omega
    subst e
    rw [F_X11_keepAt_b2.eq_2, if_pos (by decide)]
    obtain ⟨S1, q1, q2, q3, q4⟩ := ka_35 h hr (S := U) 1200 0 pq_fuel U (by omega) (fuel_lt (by omega)) rfl (fun _ _ => rfl) (fun t => by rw [if_neg (by omega)])
    refine ⟨S1, q1, ⟨fun b hb => by rw [q2]; exact u2 b hb, fun b hb => by rw [q3 b hb, u1]⟩, fun t => by rw [q2]; exact u3 t, fun t => by rw [q4 t, u1]⟩
  | succ r ih =>
    intro i n U hir hn u1 u2 u3
    obtain ⟨n, rfl⟩ : ∃ k, n = k + 1 := ⟨n - 1, by omega⟩
    rw [F_X11_keepAt_b2.eq_2, show (1042 : Int32) = nI 1042 from rfl, if_neg (nI_ge (by omega) (by omega)), nI_mul, nI_add, hs.1, hs.2, hk.1, hk.2, if_neg (nI_in (show i < 1042 by omega) (by omega)), if_neg (nI_in (show 1042 * row + i < 6252 by omega) (by omega)), nI_clamp (by omega), nI_clamp (by omega), pq_lt1, nI_1]
    refine ih (i + 1) n _ (by omega) (by omega) u1 (fun b hb => by rw [wi_a hb]; exact u2 b hb) (fun t => ?_)
    by_cases c : t = 1042 * row + i
    · rw [c, wi_s, u2 _ (by omega), if_pos (by omega), show 1042 * row + i - 1042 * row = i from by omega]
    · rw [wi_k c, u3 t]
      by_cases c2 : 1042 * row ≤ t ∧ t < 1042 * row + i
      · rw [if_pos c2, if_pos (by omega)]
      · rw [if_neg c2, if_neg (by omega)]
theorem m_keepAt (h : sh_G G x) {row : Nat} (hr : row ≤ 5) {S : pq_N} : ∃ S1, F_X11_keepAt G S (x + 1365) (nI row) = some ((), S1) ∧ fk x S S1 ∧ (∀ t, S1.1 (x + 1368) t = if 1042 * row ≤ t ∧ t < 1042 * row + 1042 then S.1 (x + 1366) (t - 1042 * row) else S.1 (x + 1368) t) ∧ ∀ t, S1.2 (x + 1369) t = if 1200 * row ≤ t ∧ t < 1200 * row + 1200 then S.2 (x + 1367) (t - 1200 * row) else S.2 (x + 1369) t := ka_2 h hr 1042 0 pq_fuel S (by omega) (fuel_lt (by omega)) rfl (fun _ _ => rfl) (fun t => by rw [if_neg (by omega)])
/-- all but the two rows of the state stay -/
def fs_ (x : Nat) (S S1 : pq_N) : Prop := (∀ b, b ≠ x + 1366 → S1.1 b = S.1 b) ∧ ∀ b, b ≠ x + 1367 → S1.2 b = S.2 b
theorem tf_35 (h : sh_G G x) {row : Nat} (hr : row ≤ 5) {S : pq_N} : ∀ (r i n : Nat) (U : pq_N), i + r = 1200 → r < n → U.1 = S.1 → (∀ b, b ≠ x + 1367 → U.2 b = S.2 b) → (∀ t, t < i → U.2 (x + 1367) t = S.2 (x + 1369) (1200 * row + t)) →
    ∃ S1, F_X11_takeFrom_b35 G n U (x + 1365) (nI row) (nI i) = some ((), S1) ∧ S1.1 = S.1 ∧ (∀ b, b ≠ x + 1367 → S1.2 b = S.2 b) ∧ ∀ t, t < 1200 → S1.2 (x + 1367) t = S.2 (x + 1369) (1200 * row + t) := by
  have hw := (sh_mo h).2.1
  have hk := (sh_mo h).2.2.2.1
  intro r
  induction r with
  | zero =>
    intro i n U hir hn u1 u2 u3
    obtain ⟨n, rfl⟩ : ∃ k, n = k + 1 := ⟨n - 1, by omega⟩
    have e : i = 1200 := by omega
    subst e
    rw [F_X11_takeFrom_b35.eq_2, if_pos (by decide)]
    exact ⟨U, rfl, u1, u2, u3⟩
  | succ r ih =>
    intro i n U hir hn u1 u2 u3
    obtain ⟨n, rfl⟩ : ∃ k, n = k + 1 := ⟨n - 1, by omega⟩
    rw [F_X11_takeFrom_b35.eq_2, show (1200 : Int32) = nI 1200 from rfl, if_neg (nI_ge (by omega) (by omega)), nI_mul, nI_add, hw.1, hw.2, hk.1, hk.2, if_neg (nI_in (show 1200 * row + i < 7200 by omega) (by omega)), if_neg (nI_in (show i < 1200 by omega) (by omega)), nI_clamp (by omega), nI_clamp (by omega), pq_lt1, nI_1]
    refine ih (i + 1) n _ (by omega) (by omega) u1 (fun b hb => by rw [wj_a hb]; exact u2 b hb) (fun t ht => ?_)
    by_cases c : t = i
    · rw [c, wj_s, u2 _ (by omega)]
    · rw [wj_k c, u3 t (by omega)]
theorem tf_2 (h : sh_G G x) {row : Nat} (hr : row ≤ 5) {S : pq_N} : ∀ (r i n : Nat) (U : pq_N), i + r = 1042 → r < n → U.2 = S.2 → (∀ b, b ≠ x + 1366 → U.1 b = S.1 b) → (∀ t, t < i → U.1 (x + 1366) t = S.1 (x + 1368) (1042 * row + t)) →
    ∃ S1, F_X11_takeFrom_b2 G n U (x + 1365) (nI row) (nI i) = some ((), S1) ∧ fs_ x S S1 ∧ (∀ t, t < 1042 → S1.1 (x + 1366) t = S.1 (x + 1368) (1042 * row + t)) ∧ ∀ t, t < 1200 → S1.2 (x + 1367) t = S.2 (x + 1369) (1200 * row + t) := by
  have hs := (sh_mo h).1
  have hk := (sh_mo h).2.2.1
  intro r
  induction r with
  | zero =>
    intro i n U hir hn u1 u2 u3
    obtain ⟨n, rfl⟩ : ∃ k, n = k + 1 := ⟨n - 1, by omega⟩
    have e : i = 1042 := by omega
    subst e
    rw [F_X11_takeFrom_b2.eq_2, if_pos (by decide)]
    obtain ⟨S1, q1, q2, q3, q4⟩ := tf_35 h hr (S := U) 1200 0 pq_fuel U (by omega) (fuel_lt (by omega)) rfl (fun _ _ => rfl) (fun t ht => absurd ht (Nat.not_lt_zero _))
    refine ⟨S1, q1, ⟨fun b hb => by rw [q2]; exact u2 b hb, fun b hb => by rw [q3 b hb, u1]⟩, fun t ht => by rw [q2]; exact u3 t ht, fun t ht => by rw [q4 t ht, u1]⟩
  | succ r ih =>
    intro i n U hir hn u1 u2 u3
    obtain ⟨n, rfl⟩ : ∃ k, n = k + 1 := ⟨n - 1, by omega⟩
    rw [F_X11_takeFrom_b2.eq_2, show (1042 : Int32) = nI 1042 from rfl, if_neg (nI_ge (by omega) (by omega)), nI_mul, nI_add, hs.1, hs.2, hk.1, hk.2, if_neg (nI_in (show 1042 * row + i < 6252 by omega) (by omega)), if_neg (nI_in (show i < 1042 by omega) (by omega)), nI_clamp (by omega), nI_clamp (by omega), pq_lt1, nI_1]
    refine ih (i + 1) n _ (by omega) (by omega) u1 (fun b hb => by rw [wi_a hb]; exact u2 b hb) (fun t ht => ?_)
    by_cases c : t = i
    · rw [c, wi_s, u2 _ (by omega)]
    · rw [wi_k c, u3 t (by omega)]
theorem m_takeFrom (h : sh_G G x) {row : Nat} (hr : row ≤ 5) {S : pq_N} (v : vT T) (r : rA (fun j => S.1 (x + 1368) (1042 * row + j)) (fun j => S.2 (x + 1369) (1200 * row + j)) T) : ∃ S1, F_X11_takeFrom G S (x + 1365) (nI row) = some ((), S1) ∧ fs_ x S S1 ∧ rA (S1.1 (x + 1366)) (S1.2 (x + 1367)) T := by
  obtain ⟨S1, q1, q2, q3, q4⟩ := tf_2 h hr (S := S) 1042 0 pq_fuel S (by omega) (fuel_lt (by omega)) rfl (fun _ _ => rfl) (fun t ht => absurd ht (Nat.not_lt_zero _))
  exact ⟨S1, q1, q2, rA_cg v q3 q4 r⟩
/-! save -/
theorem sv_41 (h : sh_G G x) {S : pq_N} : ∀ (r i n : Nat) (U : pq_N), i + r = 4800 → r < n → U.1 = S.1 → (∀ b, b ≠ x + 1369 → U.2 b = S.2 b) → (∀ t, U.2 (x + 1369) t = if t < i then S.2 (x + 1369) (1200 + t) else S.2 (x + 1369) t) →
    ∃ S1, F_X11_save_b41 G n U (x + 1365) (nI i) = F_X11_save_b80 G (pq_wi S1 (x + 1365) 4 ((S1.1 (x + 1365) 4) - (1 : Int32))) (x + 1365) ∧ S1.1 = S.1 ∧ (∀ b, b ≠ x + 1369 → S1.2 b = S.2 b) ∧ ∀ t, S1.2 (x + 1369) t = if t < 4800 then S.2 (x + 1369) (1200 + t) else S.2 (x + 1369) t := by
  have hk := (sh_mo h).2.2.2.1
  intro r
  induction r with
  | zero =>
    intro i n U hir hn u1 u2 u3
    obtain ⟨n, rfl⟩ : ∃ k, n = k + 1 := ⟨n - 1, by omega⟩
    have e : i = 4800 := by omega
    subst e
    rw [F_X11_save_b41.eq_2, if_pos (by decide), pq_lt1]
    exact ⟨U, rfl, u1, u2, u3⟩
  | succ r ih =>
    intro i n U hir hn u1 u2 u3
    obtain ⟨n, rfl⟩ : ∃ k, n = k + 1 := ⟨n - 1, by omega⟩
    rw [F_X11_save_b41.eq_2, show (4800 : Int32) = nI 4800 from rfl, show (1200 : Int32) = nI 1200 from rfl, if_neg (nI_ge (by omega) (by omega)), nI_add, hk.1, hk.2, if_neg (nI_in (show 1200 + i < 7200 by omega) (by omega)), if_neg (nI_in (show i < 7200 by omega) (by omega)), nI_clamp (by omega), nI_clamp (by omega), pq_lt1, nI_1]
    refine ih (i + 1) n _ (by omega) (by omega) u1 (fun b hb => by rw [wj_a hb]; exact u2 b hb) (fun t => ?_)
    by_cases c : t = i
    · rw [c, wj_s, u3, if_neg (by omega), if_pos (by omega)]
    · rw [wj_k c, u3 t]
      by_cases c2 : t < i
      · rw [if_pos c2, if_pos (by omega)]
      · rw [if_neg c2, if_neg (by omega)]
theorem sv_10 (h : sh_G G x) {S : pq_N} : ∀ (r i n : Nat) (U : pq_N), i + r = 4168 → r < n → U.2 = S.2 → (∀ b, b ≠ x + 1368 → U.1 b = S.1 b) → (∀ t, U.1 (x + 1368) t = if t < i then S.1 (x + 1368) (1042 + t) else S.1 (x + 1368) t) →
    ∃ S1, F_X11_save_b10 G n U (x + 1365) (nI i) = F_X11_save_b80 G (pq_wi S1 (x + 1365) 4 ((S1.1 (x + 1365) 4) - (1 : Int32))) (x + 1365) ∧ fk x S S1 ∧ (∀ t, S1.1 (x + 1368) t = if t < 4168 then S.1 (x + 1368) (1042 + t) else S.1 (x + 1368) t) ∧ ∀ t, S1.2 (x + 1369) t = if t < 4800 then S.2 (x + 1369) (1200 + t) else S.2 (x + 1369) t := by
  have hk := (sh_mo h).2.2.1
  intro r
  induction r with
  | zero =>
    intro i n U hir hn u1 u2 u3
    obtain ⟨n, rfl⟩ : ∃ k, n = k + 1 := ⟨n - 1, by omega⟩
    have e : i = 4168 := by omega
    subst e
    rw [F_X11_save_b10.eq_2, if_pos (by decide)]
    obtain ⟨S1, q1, q2, q3, q4⟩ := sv_41 h (S := U) 4800 0 pq_fuel U (by omega) (fuel_lt (by omega)) rfl (fun _ _ => rfl) (fun t => by rw [if_neg (by omega)])
    refine ⟨S1, q1, ⟨fun b hb => by rw [q2]; exact u2 b hb, fun b hb => by rw [q3 b hb, u1]⟩, fun t => by rw [q2]; exact u3 t, fun t => by rw [q4 t, u1]⟩
  | succ r ih =>
    intro i n U hir hn u1 u2 u3
    obtain ⟨n, rfl⟩ : ∃ k, n = k + 1 := ⟨n - 1, by omega⟩
    rw [F_X11_save_b10.eq_2, show (4168 : Int32) = nI 4168 from rfl, show (1042 : Int32) = nI 1042 from rfl, if_neg (nI_ge (by omega) (by omega)), nI_add, hk.1, hk.2, if_neg (nI_in (show 1042 + i < 6252 by omega) (by omega)), if_neg (nI_in (show i < 6252 by omega) (by omega)), nI_clamp (by omega), nI_clamp (by omega), pq_lt1, nI_1]
    refine ih (i + 1) n _ (by omega) (by omega) u1 (fun b hb => by rw [wi_a hb]; exact u2 b hb) (fun t => ?_)
    by_cases c : t = i
    · rw [c, wi_s, u3, if_neg (by omega), if_pos (by omega)]
    · rw [wi_k c, u3 t]
      by_cases c2 : t < i
      · rw [if_pos c2, if_pos (by omega)]
      · rw [if_neg c2, if_neg (by omega)]
variable {N : tT} {n len : Nat} {H : Nat → tT} {g : Bool} {c : Nat → Nat}
/-- what stays when the reference changes: all but its own field 4 and the rows that keep -/
def fv (x : Nat) (S S1 : pq_N) : Prop := (∀ b, b ≠ x + 1365 → b ≠ x + 1368 → S1.1 b = S.1 b) ∧ (∀ b, b ≠ x + 1369 → S1.2 b = S.2 b) ∧ ∀ k, k ≠ 4 → S1.1 (x + 1365) k = S.1 (x + 1365) k
theorem sv_80 (h : sh_G G x) {S : pq_N} (v : vT T) (hn4 : n ≤ 4) (rs : rA (S.1 (x + 1366)) (S.2 (x + 1367)) T) (e4 : S.1 (x + 1365) 4 = nI n) (rk : ∀ k, k < n → vT (H k) ∧ rA (fun j => S.1 (x + 1368) (1042 * k + j)) (fun j => S.2 (x + 1369) (1200 * k + j)) (H k)) (rN : g = true → vT N ∧ rA (fun j => S.1 (x + 1368) (1042 * 5 + j)) (fun j => S.2 (x + 1369) (1200 * 5 + j)) N) : ∃ S1, F_X11_save_b80 G S (x + 1365) = some ((), S1) ∧ fv x S S1 ∧ S1.1 (x + 1365) 4 = nI (n + 1) ∧ (∀ k, k < n + 1 → rA (fun j => S1.1 (x + 1368) (1042 * k + j)) (fun j => S1.2 (x + 1369) (1200 * k + j)) (if k = n then T else H k)) ∧ (g = true → rA (fun j => S1.1 (x + 1368) (1042 * 5 + j)) (fun j => S1.2 (x + 1369) (1200 * 5 + j)) N) := by
  obtain ⟨S1, q1, q2, q3, q4⟩ := m_keepAt h (row := n) (by omega) (S := S)
  unfold F_X11_save_b80
  rw [e4, pq_bd1 q1, pq_lt1, q2.1 (x + 1365) (by omega), e4, nI_1]
  have w68 : (pq_wi S1 (x + 1365) 4 (nI (n + 1))).1 (x + 1368) = S1.1 (x + 1368) := wi_a (by omega)
  refine ⟨_, rfl, ⟨fun b h1 h2 => by rw [wi_a h1]; exact q2.1 b h2, fun b h1 => q2.2 b h1, fun k hk => by rw [wi_k hk, q2.1 _ (by omega)]⟩, wi_s, fun k hk => ?_, fun z => ?_⟩
  · rw [w68, wi_2]
    by_cases cn : k = n
    · rw [if_pos cn, cn]
      refine rA_cg v (fun j hj => ?_) (fun j hj => ?_) rs
      · show S1.1 (x + 1368) (1042 * n + j) = _
        rw [q3, if_pos (by omega), show 1042 * n + j - 1042 * n = j from by omega]
      · show S1.2 (x + 1369) (1200 * n + j) = _
        rw [q4, if_pos (by omega), show 1200 * n + j - 1200 * n = j from by omega]
    · rw [if_neg cn]
      have hkn := rk k (by omega)
      refine rA_cg hkn.1 (fun j hj => ?_) (fun j hj => ?_) hkn.2
      · show S1.1 (x + 1368) (1042 * k + j) = S.1 (x + 1368) (1042 * k + j)
        rw [q3, if_neg (by omega)]
      · show S1.2 (x + 1369) (1200 * k + j) = S.2 (x + 1369) (1200 * k + j)
        rw [q4, if_neg (by omega)]
  · rw [w68, wi_2]
    refine rA_cg (rN z).1 (fun j hj => ?_) (fun j hj => ?_) (rN z).2
    · show S1.1 (x + 1368) (1042 * 5 + j) = S.1 (x + 1368) (1042 * 5 + j)
      rw [q3, if_neg (by omega)]
    · show S1.2 (x + 1369) (1200 * 5 + j) = S.2 (x + 1369) (1200 * 5 + j)
      rw [q4, if_neg (by omega)]
theorem m_save (h : sh_G G x) {S : pq_N} (v : vW (T, n, H, g, N, len, c)) (r : rD S x (T, n, H, g, N, len, c)) : ∃ S1, F_X11_save G S (x + 1365) = some ((), S1) ∧ fv x S S1 ∧ rD S1 x (T, hn n, hH n H T, g, N, len, c) := by
  obtain ⟨v1, v2, v3, v4, v5, v6⟩ := v
  obtain ⟨r1, r2, r3, r4, r5, r6, r7⟩ := r
  have mk : ∀ (S1 : pq_N) (n' : Nat) (H' : Nat → tT), fv x S S1 → S1.1 (x + 1365) 4 = nI n' → (∀ k, k < n' → rA (fun j => S1.1 (x + 1368) (1042 * k + j)) (fun j => S1.2 (x + 1369) (1200 * k + j)) (H' k)) → (g = true → rA (fun j => S1.1 (x + 1368) (1042 * 5 + j)) (fun j => S1.2 (x + 1369) (1200 * 5 + j)) N) → rD S1 x (T, n', H', g, N, len, c) := fun S1 n' H' f e4 a b => by
    refine ⟨?_, e4, a, by rw [f.2.2 5 (by decide)]; exact r4, b, by rw [f.2.2 7 (by decide)]; exact r6, fun j hj => by rw [f.1 (x + 1370) (by omega) (by omega)]; exact r7 j hj⟩
    rw [f.1 (x + 1366) (by omega) (by omega), f.2.1 (x + 1367) (by omega)]; exact r1
  unfold F_X11_save
  rw [r2, show (5 : Int32) = nI 5 from rfl, if_eqI (by omega) (by omega)]
  by_cases c5 : n = 5
  · rw [if_pos c5]
    obtain ⟨S1, q1, q2, q3, q4⟩ := sv_10 h (S := S) 4168 0 pq_fuel S (by omega) (fuel_lt (by omega)) rfl (fun _ _ => rfl) (fun t => by rw [if_neg (by omega)])
    have e4 : S1.1 (x + 1365) 4 - (1 : Int32) = nI 4 := by rw [q2.1 _ (by omega), r2, c5]; decide
    rw [e4] at q1
    have w68 : (pq_wi S1 (x + 1365) 4 (nI 4)).1 (x + 1368) = S1.1 (x + 1368) := wi_a (by omega)
    obtain ⟨S2, k1, k2, k3, k4, k5⟩ := sv_80 h (S := pq_wi S1 (x + 1365) 4 (nI 4)) (n := 4) (H := fun k => H (k + 1)) (g := g) (N := N) v1 (by omega) (by
      rw [wi_a (by omega), q2.1 _ (by omega), wi_2, q2.2 _ (by omega)]; exact r1) wi_s (fun k hk => ⟨v3 (k + 1) (by omega), by
      rw [w68, wi_2]
      refine rA_cg (v3 (k + 1) (by omega)) (fun j hj => ?_) (fun j hj => ?_) (r3 (k + 1) (by omega))
      · show S1.1 (x + 1368) (1042 * k + j) = S.1 (x + 1368) (1042 * (k + 1) + j)
        rw [q3, if_pos (by omega), show 1042 + (1042 * k + j) = 1042 * (k + 1) + j from by omega]
      · show S1.2 (x + 1369) (1200 * k + j) = S.2 (x + 1369) (1200 * (k + 1) + j)
        rw [q4, if_pos (by omega), show 1200 + (1200 * k + j) = 1200 * (k + 1) + j from by omega]⟩) (fun z => ⟨v4 z, by
      rw [w68, wi_2]
      refine rA_cg (v4 z) (fun j hj => ?_) (fun j hj => ?_) (r5 z)
      · show S1.1 (x + 1368) (1042 * 5 + j) = S.1 (x + 1368) (1042 * 5 + j)
        rw [q3, if_neg (by omega)]
      · show S1.2 (x + 1369) (1200 * 5 + j) = S.2 (x + 1369) (1200 * 5 + j)
        rw [q4, if_neg (by omega)]⟩)
    have fS : fv x S S2 := ⟨fun b h1 h2 => by rw [k2.1 b h1 h2, wi_a h1]; exact q2.1 b h2, fun b h1 => by rw [k2.2.1 b h1, wi_2]; exact q2.2 b h1, fun k hk => by rw [k2.2.2 k hk, wi_k hk, q2.1 _ (by omega)]⟩
    have e1 : hn n = 4 + 1 := if_pos c5
    have e2 : hH n H T = fun k => if k = 4 then T else H (k + 1) := by
      funext k
      unfold hH
      rw [e1, if_pos c5]
      by_cases ck : k = 4
      · rw [if_pos ck, if_pos (by omega)]
      · rw [if_neg ck, if_neg (by omega)]
    refine ⟨S2, ?_, fS, ?_⟩
    · rw [← k1]; exact q1
    · rw [e1, e2]; exact mk S2 _ _ fS k3 k4 k5
  · rw [if_neg c5]
    obtain ⟨S2, k1, k2, k3, k4, k5⟩ := sv_80 h (S := S) (n := n) (H := H) (g := g) (N := N) v1 (by omega) r1 r2 (fun k hk => ⟨v3 k hk, r3 k hk⟩) (fun z => ⟨v4 z, r5 z⟩)
    have e1 : hn n = n + 1 := if_neg c5
    have e2 : hH n H T = fun k => if k = n then T else H k := by
      funext k
      unfold hH
      rw [e1, if_neg c5]
      by_cases ck : k = n
      · rw [if_pos ck, if_pos (by omega)]
      · rw [if_neg ck, if_neg (by omega)]
    refine ⟨S2, k1, k2, ?_⟩
    rw [e1, e2]; exact mk S2 _ _ k2 k3 k4 k5
end MK
