/-! THE REFERENCE: passages -/
def lem (q s : Nat → Int64) (m : Nat) : Nat → Nat
  | 0 => m
  | b + 1 => min (lem q s m b) (al_e q s (b + 1) m)
section LE
variable {q s : Nat → Int64} {m n d a l : Nat}
theorem lem_ge (hd : d ≤ m) (h : al_best q s m n d a l) : ∀ b, b ≤ n → d ≤ lem q s m b
  | 0, _ => hd
  | b + 1, hb => by
    have h1 := lem_ge hd h b (by omega)
    obtain ⟨a', l1, e1⟩ := al_e_ex (q := q) (s := s) (b + 1) m
    have h2 : d ≤ al_e q s (b + 1) m := by
      rw [e1]
      rcases Nat.lt_or_ge a' (b + 1) with c | c
      · have := h.2.2.2 a' (b + 1 - a') (by omega) (by omega)
        omega
      · rw [show b + 1 - a' = 0 from by omega]
        exact hd
    show d ≤ min _ _
    omega
theorem lem_le (h : al_best q s m n d a l) : ∀ b, a + l ≤ b → lem q s m b ≤ d
  | 0, hb => by have := h.1; omega
  | b + 1, hb => by
    show min _ _ ≤ _
    rcases Nat.lt_or_ge (a + l) (b + 1) with c | c
    · have := lem_le h b (by omega)
      omega
    · have h2 := al_e_le (q := q) (s := s) (b + 1) m a (by omega)
      rw [show b + 1 - a = l from by omega, h.2.2.1] at h2
      omega
theorem lem_m : ∀ b, lem q s m b ≤ m
  | 0 => Nat.le_refl _
  | b + 1 => by
    have := lem_m b
    show min _ _ ≤ _
    omega
theorem lem_eq (hd : d ≤ m) (h : al_best q s m n d a l) : lem q s m n = d := Nat.le_antisymm (lem_le h n h.2.1) (lem_ge hd h n (Nat.le_refl _))
end LE
section MF
variable {G : pq_G} {x : Nat} {T : tT}
/-- what find has found behind the passages up to the k words from a on -/
def fI (S : pq_N) (x : Nat) (q s : Nat → Int64) (m n a k : Nat) : Prop := (a = 0 ∧ k = 0 ∧ S.1 (x + 1365) 14 = nI 61) ∨ ∃ d pa pl, S.1 (x + 1365) 14 = nI d ∧ S.1 (x + 1365) 15 = nI pa ∧ S.1 (x + 1365) 16 = nI pl ∧ 1 ≤ pl ∧ pa + pl ≤ n ∧ al_d q s pa pl m = d ∧ (pa < a ∨ (pa = a ∧ pl ≤ k)) ∧ ∀ a' l', 1 ≤ l' → a' + l' ≤ n → (a' < a ∨ (a' = a ∧ l' ≤ k)) → d < al_d q s a' l' m ∨ (d = al_d q s a' l' m ∧ (pa < a' ∨ (pa = a' ∧ pl ≤ l')))
theorem fI_same {S S1 : pq_N} {q s : Nat → Int64} {m n a k : Nat} (h : ∀ k, S1.1 (x + 1365) k = S.1 (x + 1365) k) (i : fI S x q s m n a k) : fI S1 x q s m n a k := by
  unfold fI
  rw [h 14, h 15, h 16]; exact i
theorem fI_next {S : pq_N} {q s : Nat → Int64} {m n a : Nat} (hn : a < n) (i : fI S x q s m n a (n - a)) : fI S x q s m n (a + 1) 0 := by
  rcases i with ⟨h1, h2, h3⟩ | ⟨d, pa, pl, h1, h2, h3, h4, h5, h6, h7, h8⟩
  · omega
  · exact Or.inr ⟨d, pa, pl, h1, h2, h3, h4, h5, h6, by omega, fun a' l' g1 g2 g3 => h8 a' l' g1 g2 (by omega)⟩
theorem fI_end {S : pq_N} {q s : Nat → Int64} {m n : Nat} (hn : 1 ≤ n) (i : fI S x q s m n n 0) : ∃ d a l, S.1 (x + 1365) 14 = nI d ∧ S.1 (x + 1365) 15 = nI a ∧ S.1 (x + 1365) 16 = nI l ∧ al_best q s m n d a l := by
  rcases i with ⟨h1, h2, h3⟩ | ⟨d, pa, pl, h1, h2, h3, h4, h5, h6, h7, h8⟩
  · omega
  · exact ⟨d, pa, pl, h1, h2, h3, h4, h5, h6, fun a' l' g1 g2 => h8 a' l' g1 g2 (by omega)⟩
theorem fd_in (h : sh_G G x) (v : vT T) {j q s : Nat} (hj : j < T.cnt) (hq : q < (T.pm j).qc) (hs : s < T.cnt) {c17 : pq_N → Nat → Int32 → Int32 → Int32 → Int32 → Int32 → Option (Unit × pq_N)} {a : Nat} : ∀ (r k n : Nat) (S : pq_N), a + k + r = (T.pm s).wc → r < n → rA (S.1 (x + 1366)) (S.2 (x + 1367)) T → fI S x (fun i => (T.pm j).w ((T.pm j).qb q + i)) (T.pm s).w ((T.pm j).ql q) (T.pm s).wc a k → (∀ i, i ≤ (T.pm j).ql q → S.1 (x + 1371) i = nI (al_d (fun i => (T.pm j).w ((T.pm j).qb q + i)) (T.pm s).w a k i)) →
    ∃ S1, F_X11_find_b38 G c17 n S (x + 1365) (nI j) (nI q) (nI s) (nI ((T.pm j).ql q)) (nI a) (nI (a + k)) = c17 S1 (x + 1365) (nI j) (nI q) (nI s) (nI ((T.pm j).ql q)) (nI (a + 1)) ∧ fm x S S1 ∧ fI S1 x (fun i => (T.pm j).w ((T.pm j).qb q + i)) (T.pm s).w ((T.pm j).ql q) (T.pm s).wc a ((T.pm s).wc - a) := by
  have hc := (sh_mo h).2.2.2.2.2.1
  obtain ⟨g1, g2, g3, g4, g5, g6, g7, g8⟩ := vq v hj hq
  have h60 := v60 v hs
  intro r
  induction r with
  | zero =>
    intro k n S hkr hn rs i hcell
    obtain ⟨n, rfl⟩ : ∃ k, n = k + 1 := ⟨n - 1, by omega⟩
    rw [F_X11_find_b38.eq_2, pq_bd1 (m_wc h v rs hs), if_pos (nI_le (by omega) (by omega)), nI_1]
    rw [show (T.pm s).wc - a = k from by omega]
    exact ⟨S, rfl, fm_rfl, i⟩
  | succ r ih =>
    intro k n S hkr hn rs i hcell
    obtain ⟨n, rfl⟩ : ∃ k, n = k + 1 := ⟨n - 1, by omega⟩
    have hdl : ∀ k j', al_d (fun i => (T.pm j).w ((T.pm j).qb q + i)) (T.pm s).w a k j' ≤ k + j' := fun k j' => al_d_le a k j'
    obtain ⟨S1, q1, q2, q3, q4⟩ := m_goOn h v hj hq (an := false) (nx := (T.pm s).w (a + k)) (f := al_d (fun i => (T.pm j).w ((T.pm j).qb q + i)) (T.pm s).w a k) (fun i hi => by have := hdl k i; omega) rs hcell
    have q1' : F_X11_goOn G S (x + 1365) (nI j) (nI q) ((T.pm s).w (a + k)) (0 : Int32) = some ((), S1) := q1
    have q4' : ∀ i, i ≤ (T.pm j).ql q → S1.1 (x + 1371) i = nI (al_d (fun i => (T.pm j).w ((T.pm j).qb q + i)) (T.pm s).w a (k + 1) i) := fun i hi => by
      rw [q4 i hi]
      show nI (al_row 1 (al_d _ _ a k 0 + 1) _ _ i) = nI (al_row 1 (k + 1) _ _ i)
      rw [al_d0]
    have i1 := fI_same q3 i
    have rs1 := fm_rA q2 rs
    generalize he : al_d (fun i => (T.pm j).w ((T.pm j).qb q + i)) (T.pm s).w a (k + 1) ((T.pm j).ql q) = e at *
    have ec : S1.1 (x + 1371) ((T.pm j).ql q) = nI e := by rw [q4' _ (Nat.le_refl _), he]
    have eb : e ≤ 200 := by have := hdl (k + 1) ((T.pm j).ql q); rw [he] at this; omega
    rw [F_X11_find_b38.eq_2, pq_bd1 (m_wc h v rs hs), if_neg (nI_ge (by omega) (by omega)), pq_bd1 (m_wat h v rs hs (by omega)), pq_bd1 q1', hc.1, hc.2, if_neg (nI_in (show (T.pm j).ql q < 61 by omega) (by omega)), nI_clamp (by omega), ec, nI_1]
    -- either it stays
    have stay : fI S1 x (fun i => (T.pm j).w ((T.pm j).qb q + i)) (T.pm s).w ((T.pm j).ql q) (T.pm s).wc a (k + 1) → ∃ S1_1, F_X11_find_b38 G c17 n S1 (x + 1365) (nI j) (nI q) (nI s) (nI ((T.pm j).ql q)) (nI a) (nI (a + k + 1)) = c17 S1_1 (x + 1365) (nI j) (nI q) (nI s) (nI ((T.pm j).ql q)) (nI (a + 1)) ∧ fm x S S1_1 ∧ fI S1_1 x (fun i => (T.pm j).w ((T.pm j).qb q + i)) (T.pm s).w ((T.pm j).ql q) (T.pm s).wc a ((T.pm s).wc - a) := fun i2 => by
      obtain ⟨S2, k1, k2, k3⟩ := ih (k + 1) n S1 (by omega) (by omega) rs1 i2 (fun i hi => q4' i hi)
      exact ⟨S2, k1, fm_tr q2 k2, k3⟩
    -- or it is better
    have better : (∀ a' l', 1 ≤ l' → a' + l' ≤ (T.pm s).wc → (a' < a ∨ (a' = a ∧ l' ≤ k)) → e < al_d (fun i => (T.pm j).w ((T.pm j).qb q + i)) (T.pm s).w a' l' ((T.pm j).ql q)) → ∃ S1_1, F_X11_find_b38 G c17 n (pq_wi (pq_wi (pq_wi S1 (x + 1365) 14 (nI e)) (x + 1365) 15 (nI a)) (x + 1365) 16 (nI (k + 1))) (x + 1365) (nI j) (nI q) (nI s) (nI ((T.pm j).ql q)) (nI a) (nI (a + k + 1)) = c17 S1_1 (x + 1365) (nI j) (nI q) (nI s) (nI ((T.pm j).ql q)) (nI (a + 1)) ∧ fm x S S1_1 ∧ fI S1_1 x (fun i => (T.pm j).w ((T.pm j).qb q + i)) (T.pm s).w ((T.pm j).ql q) (T.pm s).wc a ((T.pm s).wc - a) := fun hb => by
      have f0 : fm x S1 (pq_wi (pq_wi (pq_wi S1 (x + 1365) 14 (nI e)) (x + 1365) 15 (nI a)) (x + 1365) 16 (nI (k + 1))) := fm_tr (fm_wf (by decide)) (fm_tr (fm_wf (by decide)) (fm_wf (by decide)))
      obtain ⟨S2, k1, k2, k3⟩ := ih (k + 1) n _ (by omega) (by omega) (fm_rA f0 rs1) (Or.inr ⟨e, a, k + 1, by rw [wi_k (by decide), wi_k (by decide), wi_s], by rw [wi_k (by decide), wi_s], wi_s, by omega, by omega, he, by omega, fun a' l' z1 z2 z3 => by
        by_cases c : a' = a ∧ l' = k + 1
        · rw [c.1, c.2, he]; exact Or.inr ⟨rfl, Or.inr ⟨rfl, Nat.le_refl _⟩⟩
        · exact Or.inl (hb a' l' z1 z2 (by omega))⟩) (fun i hi => by rw [wi_a (by omega), wi_a (by omega), wi_a (by omega)]; exact q4' i hi)
      exact ⟨S2, k1, fm_tr q2 (fm_tr f0 k2), k3⟩
    have ek : nI (a + k) - nI a + (1 : Int32) = nI (k + 1) := by
      rw [nI_sub (by omega), nI_1, show a + k - a = k from by omega]
    rcases i1 with ⟨h1, h2, h3⟩ | ⟨d, pa, pl, h1, h2, h3, h4, h5, h6, h7, h8⟩
    · have e60 : e ≤ 60 := by
        have z := al_d1 (q := fun i => (T.pm j).w ((T.pm j).qb q + i)) (s := (T.pm s).w) a ((T.pm j).ql q - 1)
        rw [show (T.pm j).ql q - 1 + 1 = (T.pm j).ql q from by omega] at z
        rw [h2] at he
        rw [show 0 + 1 = 1 from rfl] at he
        omega
      rw [h3, if_neg (nI_ge (by omega) (by omega)), if_neg (in_c (show (T.pm j).ql q < 61 by omega) (by omega))]
      simp only [pq_lt1]
      rw [ek]
      exact better (fun a' l' z1 z2 z3 => by omega)
    · have db : d ≤ 200 := by
        have := al_d_le (q := fun i => (T.pm j).w ((T.pm j).qb q + i)) (s := (T.pm s).w) pa pl ((T.pm j).ql q)
        omega
      rw [h1, if_leI (by omega) (by omega)]
      by_cases c : d ≤ e
      · rw [if_pos c]
        exact stay (Or.inr ⟨d, pa, pl, h1, h2, h3, h4, h5, h6, by omega, fun a' l' z1 z2 z3 => by
          by_cases c2 : a' = a ∧ l' = k + 1
          · rw [c2.1, c2.2, he]
            rcases Nat.lt_or_ge d e with c3 | c3
            · exact Or.inl c3
            · exact Or.inr ⟨by omega, by omega⟩
          · exact h8 a' l' z1 z2 (by omega)⟩)
      · rw [if_neg c, if_neg (in_c (show (T.pm j).ql q < 61 by omega) (by omega))]
        simp only [pq_lt1]
        rw [ek]
        exact better (fun a' l' z1 z2 z3 => by
          have := h8 a' l' z1 z2 z3
          omega)
theorem fd_out (h : sh_G G x) (v : vT T) {j q s : Nat} (hj : j < T.cnt) (hq : q < (T.pm j).qc) (hs : s < T.cnt) : ∀ (r a n : Nat) (S : pq_N), a + r = (T.pm s).wc → r < n → rA (S.1 (x + 1366)) (S.2 (x + 1367)) T → fI S x (fun i => (T.pm j).w ((T.pm j).qb q + i)) (T.pm s).w ((T.pm j).ql q) (T.pm s).wc a 0 →
    ∃ S1, F_X11_find_b17 G n S (x + 1365) (nI j) (nI q) (nI s) (nI ((T.pm j).ql q)) (nI a) = some ((), S1) ∧ fm x S S1 ∧ fI S1 x (fun i => (T.pm j).w ((T.pm j).qb q + i)) (T.pm s).w ((T.pm j).ql q) (T.pm s).wc (T.pm s).wc 0 := by
  obtain ⟨g1, g2, g3, g4, g5, g6, g7, g8⟩ := vq v hj hq
  have h60 := v60 v hs
  intro r
  induction r with
  | zero =>
    intro a n S hkr hn rs i
    obtain ⟨n, rfl⟩ : ∃ k, n = k + 1 := ⟨n - 1, by omega⟩
    have e : a = (T.pm s).wc := by omega
    rw [F_X11_find_b17.eq_2, pq_bd1 (m_wc h v rs hs), if_pos (nI_le (by omega) (by omega))]
    rw [e] at i
    exact ⟨S, rfl, fm_rfl, i⟩
  | succ r ih =>
    intro a n S hkr hn rs i
    obtain ⟨n, rfl⟩ : ∃ k, n = k + 1 := ⟨n - 1, by omega⟩
    obtain ⟨S1, q1, q2, q3, q4⟩ := m_start (S := S) h (m := (T.pm j).ql q) (by omega)
    obtain ⟨S2, k1, k2, k3⟩ := fd_in h v hj hq hs (c17 := F_X11_find_b17 G n) (a := a) ((T.pm s).wc - a) 0 pq_fuel S1 (by omega) (fuel_lt (by omega)) (fm_rA q2 rs) (fI_same q3 i) q4
    obtain ⟨S3, p1, p2, p3⟩ := ih (a + 1) n S2 (by omega) (by omega) (fm_rA k2 (fm_rA q2 rs)) (fI_next (by omega) k3)
    refine ⟨S3, ?_, fm_tr q2 (fm_tr k2 p2), p3⟩
    rw [F_X11_find_b17.eq_2, pq_bd1 (m_wc h v rs hs), if_neg (nI_ge (by omega) (by omega)), pq_bd1 q1, ← p1, ← k1]
    rfl
theorem m_find (h : sh_G G x) (v : vT T) {S : pq_N} {j q s : Nat} (hj : j < T.cnt) (hq : q < (T.pm j).qc) (hs : s < T.cnt) (rs : rA (S.1 (x + 1366)) (S.2 (x + 1367)) T) : ∃ S1, F_X11_find G S (x + 1365) (nI j) (nI q) (nI s) = some ((), S1) ∧ fm x S S1 ∧ S1.1 (x + 1365) 14 = nI (xd (T.pm j) (T.pm s) q) ∧ S1.1 (x + 1365) 15 = nI (xa (T.pm j) (T.pm s) q) ∧ S1.1 (x + 1365) 16 = nI (xl (T.pm j) (T.pm s) q) := by
  obtain ⟨g1, g2, g3, g4, g5, g6, g7, g8⟩ := vq v hj hq
  have h60 := v60 v hs
  have hs1 := (v.2 s hs).1
  have f0 : fm x S (pq_wi S (x + 1365) 14 (nI 61)) := fm_wf (by decide)
  obtain ⟨S1, q1, q2, q3⟩ := fd_out h v hj hq hs (T.pm s).wc 0 pq_fuel (pq_wi S (x + 1365) 14 (nI 61)) (by omega) (fuel_lt (by omega)) (fm_rA f0 rs) (Or.inl ⟨rfl, rfl, wi_s⟩)
  obtain ⟨d, a, l, e1, e2, e3, hb⟩ := fI_end hs1 q3
  obtain ⟨u1, u2, u3⟩ := al_best_one hb (x_best (P := T.pm j) (Q := T.pm s) (q := q) g5 hs1 h60).1
  refine ⟨S1, ?_, fm_tr f0 q2, by rw [e1, u1], by rw [e2, u2], by rw [e3, u3]⟩
  unfold F_X11_find
  rw [pq_bd1 (m_size h v rs hj hq), pq_lt1, ← q1]
  rfl
theorem m_find0 (h : sh_G G x) (v : vT T) {S : pq_N} {j q : Nat} (hj : j < T.cnt) (hq : q < (T.pm j).qc) (rs : rA (S.1 (x + 1366)) (S.2 (x + 1367)) T) : ∃ S1, F_X11_find G S (x + 1365) (nI j) (nI q) (nI (zs T j q)) = some ((), S1) ∧ fm x S S1 ∧ S1.1 (x + 1365) 14 = nI (zD T j q) ∧ S1.1 (x + 1365) 15 = nI (zA T j q) ∧ S1.1 (x + 1365) 16 = nI (zL T j q) := m_find h v hj hq (by have := (vq v hj hq).2.2.2.1; omega) rs
theorem m_changesOf (h : sh_G G x) (v : vT T) {S : pq_N} {j q : Nat} (hj : j < T.cnt) (hq : q < (T.pm j).qc) (rs : rA (S.1 (x + 1366)) (S.2 (x + 1367)) T) : ∃ S1, F_X11_changesOf G S (x + 1365) (nI j) (nI q) = some (nI (zD T j q), S1) ∧ fm x S S1 := by
  obtain ⟨S1, q1, q2, q3, -, -⟩ := m_find0 h v hj hq rs
  refine ⟨S1, ?_, q2⟩
  unfold F_X11_changesOf
  rw [pq_bd1 (m_source h v rs hj hq), pq_bd1 q1, q3]
theorem bt_loop' (h : sh_G G x) (v : vT T) {j q : Nat} (hj : j < T.cnt) (hq : q < (T.pm j).qc) : ∀ (r b n : Nat) (S : pq_N), b + r = (T.pm (zs T j q)).wc → r < n → rA (S.1 (x + 1366)) (S.2 (x + 1367)) T → (∀ i, i ≤ (T.pm j).ql q → S.1 (x + 1371) i = nI (al_e (fun i => (T.pm j).w ((T.pm j).qb q + i)) (T.pm (zs T j q)).w b i)) →
    ∃ S1, F_X11_byTable_b26 G n S (x + 1365) (nI j) (nI q) (nI ((T.pm j).ql q)) (nI (zs T j q)) (nI (lem (fun i => (T.pm j).w ((T.pm j).qb q + i)) (T.pm (zs T j q)).w ((T.pm j).ql q) b)) (nI b) = some (nI (lem (fun i => (T.pm j).w ((T.pm j).qb q + i)) (T.pm (zs T j q)).w ((T.pm j).ql q) (T.pm (zs T j q)).wc), S1) ∧ fm x S S1 := by
  have hc := (sh_mo h).2.2.2.2.2.1
  obtain ⟨g1, g2, g3, g4, g5, g6, g7, g8⟩ := vq v hj hq
  have hs : zs T j q < T.cnt := by omega
  intro r
  induction r with
  | zero =>
    intro b n S hkr hn rs hcell
    obtain ⟨n, rfl⟩ : ∃ k, n = k + 1 := ⟨n - 1, by omega⟩
    have e : b = (T.pm (zs T j q)).wc := by omega
    rw [F_X11_byTable_b26.eq_2, pq_bd1 (m_wc h v rs hs), if_pos (nI_le (by omega) (by omega)), e]
    exact ⟨S, rfl, fm_rfl⟩
  | succ r ih =>
    intro b n S hkr hn rs hcell
    obtain ⟨n, rfl⟩ : ∃ k, n = k + 1 := ⟨n - 1, by omega⟩
    have hel : ∀ b i, al_e (fun i => (T.pm j).w ((T.pm j).qb q + i)) (T.pm (zs T j q)).w b i ≤ b + i := fun b i => by
      have h1 := al_e_le (q := fun i => (T.pm j).w ((T.pm j).qb q + i)) (s := (T.pm (zs T j q)).w) b i 0 (Nat.zero_le _)
      have h2 := al_d_le (q := fun i => (T.pm j).w ((T.pm j).qb q + i)) (s := (T.pm (zs T j q)).w) 0 (b - 0) i
      omega
    obtain ⟨S1, q1, q2, q3, q4⟩ := m_goOn h v hj hq (an := true) (nx := (T.pm (zs T j q)).w b) (f := al_e (fun i => (T.pm j).w ((T.pm j).qb q + i)) (T.pm (zs T j q)).w b) (fun i hi => by have := hel b i; omega) rs hcell
    have q1' : F_X11_goOn G S (x + 1365) (nI j) (nI q) ((T.pm (zs T j q)).w b) (1 : Int32) = some ((), S1) := q1
    have q4' : ∀ i, i ≤ (T.pm j).ql q → S1.1 (x + 1371) i = nI (al_e (fun i => (T.pm j).w ((T.pm j).qb q + i)) (T.pm (zs T j q)).w (b + 1) i) := fun i hi => q4 i hi
    have lm := lem_m (q := fun i => (T.pm j).w ((T.pm j).qb q + i)) (s := (T.pm (zs T j q)).w) (m := (T.pm j).ql q) b
    have he := hel (b + 1) ((T.pm j).ql q)
    have hz : lem (fun i => (T.pm j).w ((T.pm j).qb q + i)) (T.pm (zs T j q)).w ((T.pm j).ql q) (b + 1) = min (lem (fun i => (T.pm j).w ((T.pm j).qb q + i)) (T.pm (zs T j q)).w ((T.pm j).ql q) b) (al_e (fun i => (T.pm j).w ((T.pm j).qb q + i)) (T.pm (zs T j q)).w (b + 1) ((T.pm j).ql q)) := rfl
    obtain ⟨S2, k1, k2⟩ := ih (b + 1) n S1 (by omega) (by omega) (fm_rA q2 rs) q4'
    rw [hz] at k1
    have wat := m_wat h v rs hs (k := b) (by omega)
    rw [F_X11_byTable_b26.eq_2, pq_bd1 (m_wc h v rs hs), if_neg (nI_ge (by omega) (by omega)), pq_bd1 wat, pq_bd1 q1', hc.1, hc.2, if_neg (nI_in (show (T.pm j).ql q < 61 by omega) (by omega)), nI_clamp (by omega), q4' _ (Nat.le_refl _), if_leI (by omega) (by omega), nI_1]
    by_cases c : lem (fun i => (T.pm j).w ((T.pm j).qb q + i)) (T.pm (zs T j q)).w ((T.pm j).ql q) b ≤ al_e (fun i => (T.pm j).w ((T.pm j).qb q + i)) (T.pm (zs T j q)).w (b + 1) ((T.pm j).ql q)
    · rw [Nat.min_eq_left c] at k1
      rw [if_pos c]
      exact ⟨S2, k1, fm_tr q2 k2⟩
    · rw [Nat.min_eq_right (by omega)] at k1
      rw [if_neg c, if_neg (in_c (show (T.pm j).ql q < 61 by omega) (by omega)), pq_lt1]
      exact ⟨S2, k1, fm_tr q2 k2⟩
theorem m_byTable (h : sh_G G x) (v : vT T) {S : pq_N} {j q : Nat} (hj : j < T.cnt) (hq : q < (T.pm j).qc) (rs : rA (S.1 (x + 1366)) (S.2 (x + 1367)) T) : ∃ S1, F_X11_byTable G S (x + 1365) (nI j) (nI q) = some (nI (zD T j q), S1) ∧ fm x S S1 := by
  obtain ⟨g1, g2, g3, g4, g5, g6, g7, g8⟩ := vq v hj hq
  obtain ⟨x1, x2, x3⟩ := vx v hj hq
  obtain ⟨S1, q1, q2, q3, q4⟩ := m_start (S := S) h (m := (T.pm j).ql q) (by omega)
  obtain ⟨S2, k1, k2⟩ := bt_loop' h v hj hq (T.pm (zs T j q)).wc 0 pq_fuel S1 (by omega) (fuel_lt (by omega)) (fm_rA q2 rs) q4
  rw [lem_eq x3 (x_best (P := T.pm j) (Q := T.pm (zs T j q)) (q := q) g5 g7 g8).1] at k1
  refine ⟨S2, ?_, fm_tr q2 k2⟩
  unfold F_X11_byTable
  rw [pq_bd1 (m_size h v rs hj hq), pq_bd1 (m_source h v rs hj hq), pq_bd1 q1]
  exact k1
end MF
