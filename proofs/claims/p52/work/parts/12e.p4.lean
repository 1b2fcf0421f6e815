/-! THE SEARCH of the class -/
/-- the first of the places 1 .. k + 1 with the least number -/
def ec (c : Nat → Nat) : Nat → Nat
  | 0 => 1
  | k + 1 => if c (k + 2) < c (ec c k) then k + 2 else ec c k
theorem ec_b (c : Nat → Nat) : ∀ k, 1 ≤ ec c k ∧ ec c k ≤ k + 1
  | 0 => ⟨Nat.le_refl _, Nat.le_refl _⟩
  | k + 1 => by
    have h := ec_b c k
    by_cases q : c (k + 2) < c (ec c k)
    · have e : ec c (k + 1) = k + 2 := if_pos q
      omega
    · have e : ec c (k + 1) = ec c k := if_neg q
      omega
theorem ec_m (c : Nat → Nat) : ∀ k, (∀ j, 1 ≤ j → j < ec c k → c (ec c k) < c j) ∧ (∀ j, ec c k ≤ j → j ≤ k + 1 → c (ec c k) ≤ c j)
  | 0 => ⟨fun j h1 h2 => by exfalso; have : ec c 0 = 1 := rfl; omega, fun j h1 h2 => by
      have e : ec c 0 = 1 := rfl
      have : j = 1 := by omega
      subst this; rw [e]; exact Nat.le_refl _⟩
  | k + 1 => by
    have h := ec_m c k
    have hb := ec_b c k
    by_cases q : c (k + 2) < c (ec c k)
    · have e : ec c (k + 1) = k + 2 := if_pos q
      rw [e]
      refine ⟨fun j h1 h2 => ?_, fun j h1 h2 => ?_⟩
      · rcases Nat.lt_or_ge j (ec c k) with h3 | h3
        · have := h.1 j h1 h3; omega
        · have := h.2 j h3 (by omega); omega
      · have : j = k + 2 := by omega
        subst this; exact Nat.le_refl _
    · have e : ec c (k + 1) = ec c k := if_neg q
      rw [e]
      refine ⟨h.1, fun j h1 h2 => ?_⟩
      rcases Nat.lt_or_ge j (k + 2) with h3 | h3
      · exact h.2 j h1 (by omega)
      · have : j = k + 2 := by omega
        subst this; omega
/-- what is found: the table's last row, its end, changes, begin and length -/
def xr (P Q : tP) (q : Nat) : Nat → Nat := al_c (fun i => P.w (P.qb q + i)) Q.w (P.ql q)
def xe (P Q : tP) (q : Nat) : Nat := ec (xr P Q q) (Q.wc - 1)
def xd (P Q : tP) (q : Nat) : Nat := xr P Q q (xe P Q q) / 64
def xa (P Q : tP) (q : Nat) : Nat := xr P Q q (xe P Q q) % 64
def xl (P Q : tP) (q : Nat) : Nat := xe P Q q - xa P Q q
theorem x_best {P Q : tP} {q : Nat} (h1 : 1 ≤ P.ql q) (h2 : 1 ≤ Q.wc) (h3 : Q.wc ≤ 60) : al_best (fun i => P.w (P.qb q + i)) Q.w (P.ql q) Q.wc (xd P Q q) (xa P Q q) (xl P Q q) ∧ xa P Q q ≤ xe P Q q ∧ 1 ≤ xe P Q q ∧ xe P Q q ≤ Q.wc := by
  have hb := ec_b (xr P Q q) (Q.wc - 1)
  have hm := ec_m (xr P Q q) (Q.wc - 1)
  have e : Q.wc - 1 + 1 = Q.wc := by omega
  rw [e] at hb hm
  have t := al_table (q := fun i => P.w (P.qb q + i)) (s := Q.w) (m := P.ql q) (n := Q.wc) (e := xe P Q q) h1 h3 hb.1 hb.2 hm.1 hm.2
  exact ⟨t.1, t.2, hb.1, hb.2⟩
theorem x_lt {P Q : tP} {q : Nat} (h1 : 1 ≤ P.ql q) (h0 : P.ql q ≤ 60) (h2 : 1 ≤ Q.wc) (h3 : Q.wc ≤ 60) : 1 ≤ xl P Q q ∧ xa P Q q + xl P Q q ≤ Q.wc ∧ xd P Q q ≤ P.ql q := by
  have h := (x_best (P := P) (Q := Q) (q := q) h1 h2 h3).1
  refine ⟨h.1, h.2.1, ?_⟩
  obtain ⟨m, hm⟩ : ∃ m, P.ql q = m + 1 := ⟨P.ql q - 1, by omega⟩
  rw [hm] at h ⊢
  exact al_best_le h
section CS
variable {G : pq_G} {x : Nat}
theorem ce_loop (h : sh_G G x) {last : Nat} (hl : last ≤ 60) {c : Nat → Nat} (hc : ∀ j, j ≤ last → c j < 1000000) (he : ∀ k, k + 1 ≤ last → c (ec c k) % 64 ≤ ec c k) : ∀ (r i n : Nat) (S : pq_N), i + r = last + 1 → 2 ≤ i ∨ r = 0 → 1 ≤ last → i ≤ last + 1 → 2 ≤ i → r < n → (∀ j, j ≤ last → S.2 (x + 1356) j = lN (c j)) →
    ∃ S1, F_X8_chooseEnd_b4 G n S (x + 1354) (nI last) (nI (ec c (i - 2))) (nI i) = some ((), S1) ∧ fr (x + 1354) (x + 1357) S S1 ∧ S1.1 (x + 1354) 1 = nI (c (ec c (last - 1)) / 64) ∧ S1.1 (x + 1354) 2 = nI (c (ec c (last - 1)) % 64) ∧ S1.1 (x + 1354) 3 = nI (ec c (last - 1) - c (ec c (last - 1)) % 64) := by
  intro r
  induction r with
  | zero =>
    intro i n S hir _ h1 _ hi hn hcell
    obtain ⟨n, rfl⟩ : ∃ k, n = k + 1 := ⟨n - 1, by omega⟩
    have e : i - 2 = last - 1 := by omega
    have hb := ec_b c (last - 1)
    have hcb := hc (ec c (last - 1)) (by omega)
    have hme := he (last - 1) (by omega)
    rw [F_X8_chooseEnd_b4.eq_2, if_pos (nI_lt (by omega) (by omega)), e, f_cell h (by omega), pq_bd1 rfl, hcell _ (by omega), lN_i]
    simp only [pq_lt1]
    rw [show (64 : Int32) = nI 64 from rfl, nI_mod (by omega) (by omega), nI_div (by omega) (by omega), wi_s, nI_sub hme]
    refine ⟨_, rfl, ?_, ?_, ?_, ?_⟩
    · exact fr_tr (fr_wi (by omega) (by omega)) (fr_tr (fr_wi (by omega) (by omega)) (fr_wi (by omega) (by omega)))
    · rw [wi_k (by decide), wi_k (by decide), wi_s]
    · rw [wi_k (by decide), wi_s]
    · rw [wi_s]
  | succ r ih =>
    intro i n S hir _ h1 _ hi hn hcell
    obtain ⟨n, rfl⟩ : ∃ k, n = k + 1 := ⟨n - 1, by omega⟩
    obtain ⟨k, rfl⟩ : ∃ k, i = k + 2 := ⟨i - 2, by omega⟩
    have hb := ec_b c k
    have hci := hc (k + 2) (by omega)
    have hce := hc (ec c k) (by omega)
    have e0 : k + 2 - 2 = k := by omega
    rw [e0, F_X8_chooseEnd_b4.eq_2, if_neg (nI_nlt (by omega) (by omega)), f_cell h (by omega), pq_bd1 rfl, f_cell h (by omega), pq_bd1 rfl, hcell _ (by omega), hcell _ (by omega), lN_i, lN_i, nI_1]
    have e2 : k + 2 + 1 - 2 = k + 1 := by omega
    have h9 := ih (k + 2 + 1) n S (by omega) (by omega) h1 (by omega) (by omega) (by omega) hcell
    rw [e2] at h9
    by_cases q : c (k + 2) < c (ec c k)
    · have e : ec c (k + 1) = k + 2 := if_pos q
      rw [e] at h9
      rw [if_neg (by rw [nI_leI (by omega) (by omega)]; omega)]
      exact h9
    · have e : ec c (k + 1) = ec c k := if_neg q
      rw [e] at h9
      rw [if_pos (by rw [nI_leI (by omega) (by omega)]; omega)]
      exact h9
theorem bt_init (h : sh_G G x) {p p' wc fm en : Nat} (hw : wc ≤ 60) : ∀ (r i n : Nat) (S : pq_N), i + r = wc + 1 → r < n → S.1 p' 6 = nI wc → (∀ j, j < i → S.2 (x + 1356) j = lN j) →
    ∃ S1, F_X8_byTable_b26 G n S (x + 1354) p p' (nI fm) (nI en) (nI i) = F_X8_byTable_b57 G pq_fuel S1 (x + 1354) p p' (nI en) (nI fm) ∧ fr (x + 1354) (x + 1357) S S1 ∧ ∀ j, j ≤ wc → S1.2 (x + 1356) j = lN j := by
  intro r
  induction r with
  | zero =>
    intro i n S hir hn h6 hcell
    obtain ⟨n, rfl⟩ : ∃ k, n = k + 1 := ⟨n - 1, by omega⟩
    rw [F_X8_byTable_b26.eq_2, h6, if_pos (nI_lt (by omega) (by omega))]
    exact ⟨S, rfl, fr_rfl, fun j hj => hcell j (by omega)⟩
  | succ r ih =>
    intro i n S hir hn h6 hcell
    obtain ⟨n, rfl⟩ : ∃ k, n = k + 1 := ⟨n - 1, by omega⟩
    rw [F_X8_byTable_b26.eq_2, h6, if_neg (nI_nlt (by omega) (by omega)), f_pcell h (by omega), pq_bd1 rfl, nI_1, nI_l (by omega)]
    obtain ⟨S1, q1, q2, q3⟩ := ih (i + 1) n (pq_wj S (x + 1356) i (lN i)) (by omega) (by omega) h6 (fun j hj => by
      by_cases e : j = i
      · subst e; exact wj_s
      · rw [wj_k e]; exact hcell j (by omega))
    exact ⟨S1, q1, fr_tr (fr_wj (by omega) (by omega)) q2, q3⟩
/-- one more row of the table -/
theorem tw_c {q s : Nat → Int64} {i : Nat} : tw_g (q i) s 0 (al_c q s i) = al_c q s (i + 1) := by
  show al_row 64 (al_c q s i 0 + 64) (al_c q s i) (fun j => s (0 + j) == q i) = al_row 64 (al_c q s i 0 + 64) (al_c q s i) (fun j => q i == s j)
  congr 1
  funext j
  rw [Nat.zero_add, Bool.beq_comm]
theorem tw_class (h : sh_G G x) {p fm count : Nat} {S : pq_N} {word : Int64} {f : Nat → Nat} (hp : pq_ok G 4 p) (hpx : p + 8 < x + 1353) (hc : count ≤ 60) (hfc : fm + count ≤ 60) (hf : ∀ j, j ≤ count → f j ≤ 1000000) (hcell : ∀ j, j ≤ count → S.2 (x + 1356) j = lN (f j)) :
    ∃ S1, F_X8_takeWord G S (x + 1354) word p (nI fm) (nI count) = some ((), S1) ∧ fr (x + 1354) (x + 1357) S S1 ∧ S1.1 = S.1 ∧ ∀ j, j ≤ count → S1.2 (x + 1356) j = lN (tw_g word (S.2 (p + 2)) fm f j) := by
  have k := sh_se h
  have kp := sh_Pp h hp
  obtain ⟨S1, q1, q2, q3, q4⟩ := tw_all (G := G) (S := S) (se := x + 1354) (p := p) (fr := fm) (count := count) (word := word) (f := f) k.2.1 k.2.2 kp.1.1 kp.2.1 (by omega) hc hfc hf hcell
  refine ⟨S1, q1, fun b hb => ⟨by rw [q2], q3 b (by omega)⟩, q2, q4⟩
theorem al_row_cg {u z : Nat} {prev prev' : Nat → Nat} {same same' : Nat → Bool} : ∀ {n : Nat}, (∀ j, j ≤ n → prev j = prev' j) → (∀ j, j < n → same j = same' j) → al_row u z prev same n = al_row u z prev' same' n
  | 0, _, _ => rfl
  | n + 1, h1, h2 => by
    show min (prev n + _) (u + min (prev (n + 1)) _) = min (prev' n + _) (u + min (prev' (n + 1)) _)
    rw [h1 n (by omega), h1 (n + 1) (by omega), h2 n (by omega), al_row_cg (n := n) (fun j hj => h1 j (by omega)) (fun j hj => h2 j (by omega))]
theorem bt_main (h : sh_G G x) {p p' q : Nat} {P Q : tP} (hp : pq_ok G 4 p) (hp' : pq_ok G 4 p') (hpx : p + 8 < x + 1353) (hpx' : p' + 8 < x + 1353) (hP : P.wc ≤ 60) (h1 : 1 ≤ P.ql q) (h2 : P.qb q + P.ql q ≤ P.wc) (h3 : 1 ≤ Q.wc) (h4 : Q.wc ≤ 60) :
    ∀ (r i n : Nat) (S : pq_N), i + r = P.ql q → r < n → rP S p P → rP S p' Q → (∀ j, j ≤ Q.wc → S.2 (x + 1356) j = lN (al_c (fun i => P.w (P.qb q + i)) Q.w i j)) →
    ∃ S1, F_X8_byTable_b57 G n S (x + 1354) p p' (nI (P.qb q + P.ql q)) (nI (P.qb q + i)) = some ((), S1) ∧ fr (x + 1354) (x + 1357) S S1 ∧ S1.1 (x + 1354) 1 = nI (xd P Q q) ∧ S1.1 (x + 1354) 2 = nI (xa P Q q) ∧ S1.1 (x + 1354) 3 = nI (xl P Q q) := by
  intro r
  induction r with
  | zero =>
    intro i n S hir hn rp rq hcell
    obtain ⟨n, rfl⟩ : ∃ k, n = k + 1 := ⟨n - 1, by omega⟩
    have hi : i = P.ql q := by omega
    subst hi
    have hx := x_best (P := P) (Q := Q) (q := q) h1 h3 h4
    rw [F_X8_byTable_b57.eq_2, if_pos (nI_le (Nat.le_refl _) (by omega)), rq.2.2.1]
    obtain ⟨S1, q1, q2, q3, q4, q5⟩ := ce_loop (G := G) (x := x) h h4 (c := xr P Q q) (fun j hj => by
        have := al_c_lt (q := fun i => P.w (P.qb q + i)) (s := Q.w) (P.ql q) j
        show al_c _ _ _ _ < _
        omega) (fun k hk => by
        have t := al_table (q := fun i => P.w (P.qb q + i)) (s := Q.w) (m := P.ql q) (n := k + 1) (e := ec (xr P Q q) k) h1 (by omega) (ec_b _ k).1 (ec_b _ k).2 (ec_m _ k).1 (ec_m _ k).2
        exact t.2) (Q.wc - 1) 2 pq_fuel S (by omega) (by omega) h3 (by omega) (by omega) (by unfold pq_fuel; omega) hcell
    have e : F_X8_chooseEnd G S (x + 1354) (nI Q.wc) = some ((), S1) := q1
    rw [pq_bd1 e]
    exact ⟨S1, rfl, q2, q3, q4, q5⟩
  | succ r ih =>
    intro i n S hir hn rp rq hcell
    obtain ⟨n, rfl⟩ : ∃ k, n = k + 1 := ⟨n - 1, by omega⟩
    rw [F_X8_byTable_b57.eq_2, if_neg (nI_ge (by omega) (by omega)), pq_bd1 (g_word h hp rp hP (by omega)), rq.2.2.1]
    obtain ⟨S1, q1, q2, q3, q4⟩ := tw_class (G := G) (x := x) (p := p') (fm := 0) (count := Q.wc) (S := S) (word := P.w (P.qb q + i)) h hp' hpx' h4 (by omega) (fun j hj => by
      have := al_c_lt (q := fun i => P.w (P.qb q + i)) (s := Q.w) i j
      omega) hcell
    rw [show (0 : Int32) = nI 0 from rfl, pq_bd1 q1, nI_1]
    have q4' : ∀ j, j ≤ Q.wc → S1.2 (x + 1356) j = lN (al_c (fun i => P.w (P.qb q + i)) Q.w (i + 1) j) := fun j hj => by
      rw [q4 j hj, ← tw_c]
      congr 1
      show al_row _ _ _ _ j = al_row _ _ _ _ j
      exact al_row_cg (fun _ _ => rfl) (fun k hk => by rw [Nat.zero_add, rq.2.2.2.2.1 k (by omega)])
    obtain ⟨S2, g1, g2, g3⟩ := ih (i + 1) n S1 (by omega) (by omega) (rP_fr q2 (by omega) rp) (rP_fr q2 (by omega) rq) q4'
    exact ⟨S2, g1, fr_tr q2 g2, g3⟩
/-- the table of a quotation and a pamphlet -/
theorem c_byTable (h : sh_G G x) {p p' q : Nat} {P Q : tP} {S : pq_N} (hp : pq_ok G 4 p) (hp' : pq_ok G 4 p') (hpx : p + 8 < x + 1353) (hpx' : p' + 8 < x + 1353) (hP : P.wc ≤ 60) (hc : P.qc ≤ 16) (hq : q < P.qc) (h1 : 1 ≤ P.ql q) (h2 : P.qb q + P.ql q ≤ P.wc) (h3 : 1 ≤ Q.wc) (h4 : Q.wc ≤ 60) (rp : rP S p P) (rq : rP S p' Q) :
    ∃ S1, F_X8_byTable G S (x + 1354) p (nI q) p' = some ((), S1) ∧ fr (x + 1354) (x + 1357) S S1 ∧ S1.1 (x + 1354) 1 = nI (xd P Q q) ∧ S1.1 (x + 1354) 2 = nI (xa P Q q) ∧ S1.1 (x + 1354) 3 = nI (xl P Q q) := by
  unfold F_X8_byTable
  rw [pq_bd1 (g_beg h hp rp hc hq), pq_bd1 (g_len h hp rp hc hq), nI_add, show (0 : Int32) = nI 0 from rfl]
  obtain ⟨S1, q1, q2, q3⟩ := bt_init (G := G) (x := x) h (p := p) (p' := p') (wc := Q.wc) (fm := P.qb q) (en := P.qb q + P.ql q) h4 (Q.wc + 1) 0 pq_fuel S (by omega) (by unfold pq_fuel; omega) rq.2.2.1 (fun j hj => absurd hj (Nat.not_lt_zero _))
  rw [q1]
  obtain ⟨S2, g1, g2, g3⟩ := bt_main (G := G) (x := x) h hp hp' hpx hpx' hP h1 h2 h3 h4 (P.ql q) 0 pq_fuel S1 (by omega) (by unfold pq_fuel; omega) (rP_fr q2 (by omega) rp) (rP_fr q2 (by omega) rq) q3
  exact ⟨S2, g1, fr_tr q2 g2, g3⟩
end CS
