/-! WHAT IS DONE: mending, coming back, passing, withdrawing -/
def GD (b : Nat) (a : Int32) (W : tW) : Prop := a = 1 ∧ vW W ∧ wT b W.1
theorem ok_h {α β : Type} {x : Nat} {S : pq_N} {F : Option ((Nat ⊕ α) × pq_N)} {k : Nat} {W : tW} {g : Nat → pq_N → Option (β × pq_N)} {f : α → pq_N → Option (β × pq_N)} {b : β} (h : cc_ x S F (Sum.inl k) W) (e : ∀ S1, g k S1 = some (b, S1)) : ok x W (pq_bh F g f) b := by
  obtain ⟨S1, h1, -, h3, -⟩ := h
  rw [h1]
  exact ⟨S1, e S1, h3⟩
theorem ok_hr {α β : Type} {x : Nat} {S : pq_N} {F : Option ((Nat ⊕ α) × pq_N)} {a : α} {W : tW} {g : Nat → pq_N → Option (β × pq_N)} {f : α → pq_N → Option (β × pq_N)} {b : β} (h : cc_ x S F (Sum.inr a) W) (e : ∀ S1, f a S1 = some (b, S1)) : ok x W (pq_bh F g f) b ∧ vW W := by
  obtain ⟨S1, h1, -, h3, h4⟩ := h
  rw [h1]
  exact ⟨⟨S1, e S1, h3⟩, h4⟩
section DO
variable {G : pq_G} {x : Nat} {T N : tT} {n len : Nat} {H : Nat → tT} {g : Bool} {c : Nat → Nat} {S : pq_N}
theorem a_tryMend_n (h : sh_G G x) (v : vW (T, n, H, g, N, len, c)) (r : rC S x (T, n, H, g, N, len, c)) {j : Nat} (hj : j < T.cnt) (h0 : (T.pm j).qc = 0) : ok x (T, n, H, g, N, len, c) (F_L_tryMend G S x (nI j) 0) (-7003) := by
  have h20 := v.1.1
  have k := k_mend (a := nI j) (b := 0) h v r
  have e : s_mend (T, n, H, g, N, len, c) (nI j) 0 = (Sum.inl 3, (T, n, H, g, N, len, c)) := by
    unfold s_mend
    dsimp only
    rw [dI_of (by omega) hj]
    dsimp only
    rw [h0]
    rfl
  rw [e] at k
  exact ok_h k (fun S1 => rfl)
theorem a_tryMend_f (h : sh_G G x) (v : vW (T, n, H, g, N, len, c)) (r : rC S x (T, n, H, g, N, len, c)) {j q : Nat} (hj : j < T.cnt) (hq : q < (T.pm j).qc) (h0 : ¬ (0 < zD T j q ∧ (T.pm j).wc + zL T j q - (T.pm j).ql q ≤ 60)) : ok x (T, n, H, g, N, len, c) (F_L_tryMend G S x (nI j) (nI q)) (-7002) := by
  have h20 := v.1.1
  have h16 := v16 v.1 hj
  have k := k_mend (a := nI j) (b := nI q) h v r
  have e : s_mend (T, n, H, g, N, len, c) (nI j) (nI q) = (Sum.inl 2, (T, n, H, g, N, len, c)) := by
    unfold s_mend
    dsimp only
    rw [dI_of (by omega) hj]
    dsimp only
    rw [dI_of (by omega) hq]
    dsimp only
    rw [if_neg h0]
  rw [e] at k
  exact ok_h k (fun S1 => rfl)
theorem a_tryMend_t (h : sh_G G x) (v : vW (T, n, H, g, N, len, c)) (r : rC S x (T, n, H, g, N, len, c)) {j q : Nat} (hj : j < T.cnt) (hq : q < (T.pm j).qc) (h0 : 0 < zD T j q ∧ (T.pm j).wc + zL T j q - (T.pm j).ql q ≤ 60) : ok x (mdT T j q, hn n, hH n H T, g, N, len, c) (F_L_tryMend G S x (nI j) (nI q)) (nI (zD T j q)) ∧ vW (mdT T j q, hn n, hH n H T, g, N, len, c) := by
  have h20 := v.1.1
  have h16 := v16 v.1 hj
  have k := k_mend (a := nI j) (b := nI q) h v r
  have e : s_mend (T, n, H, g, N, len, c) (nI j) (nI q) = (Sum.inr (nI (zD T j q)), (mdT T j q, hn n, hH n H T, g, N, len, c)) := by
    unfold s_mend
    dsimp only
    rw [dI_of (by omega) hj]
    dsimp only
    rw [dI_of (by omega) hq]
    dsimp only
    rw [if_pos h0]
  rw [e] at k
  exact ok_hr k (fun S1 => rfl)
theorem mn_94 (h : sh_G G x) {W : tW} (v : vW W) (r : rC S x W) : ok x W (F_L_mends_b94 G S x (tl W.1) (-7002)) 1 := by
  unfold F_L_mends_b94
  rw [if_pos rfl]
  refine ok_b (a_tale h v r) (fun S r => ?_)
  rw [if_pos ((lg_cmp0 _ _).mpr rfl)]
  exact ok_r r
theorem l_mends (h : sh_G G x) {b : Nat} (v : vW (T, n, H, g, N, len, c)) (t : wT b T) (r : rC S x (T, n, H, g, N, len, c)) {j : Nat} {y : Int32} (hj : j < T.cnt) : okE x (F_L_mends G S x (nI j) y) (GD b) := by
  have hT := v.1
  have h20 := hT.1
  have h16 := v16 hT hj
  have h60 := v60 hT hj
  unfold F_L_mends
  refine okE_b (a_quotationsOf h v r hj) (fun S r => ?_)
  by_cases c0 : (T.pm j).qc = 0
  · rw [if_pos (show nI (T.pm j).qc = (0 : Int32) by rw [c0]; rfl)]
    refine okE_b (a_tryMend_n h v r hj c0) (fun S r => ?_)
    rw [if_pos rfl]
    exact okE_r r ⟨rfl, v, t⟩
  · rw [if_neg (show ¬ nI (T.pm j).qc = (0 : Int32) from nI_ne0 (by omega) (by omega))]
    obtain ⟨q, hq, aq⟩ := a_low (G := G) (v := y) r (n := (T.pm j).qc) (by omega) (by omega)
    refine okE_b aq (fun S r => ?_)
    have g1 := vq hT hj hq
    have gx := vx hT hj hq
    refine okE_b (a_changesByTable h v r hj hq) (fun S r => ?_)
    refine okE_b (a_wordsOf h v r hj) (fun S r => ?_)
    refine okE_b (a_lengthOf h v r hj hq) (fun S r => ?_)
    refine okE_b (a_passageLength h v r hj hq) (fun S r => ?_)
    refine okE_b (a_tale h v r) (fun S r => ?_)
    have en : nI (T.pm j).wc - nI ((T.pm j).ql q) + nI (zL T j q) = nI ((T.pm j).wc + zL T j q - (T.pm j).ql q) := by
      rw [nI_sub (by omega), nI_add]
      congr 1
      omega
    by_cases c1 : 0 < zD T j q ∧ (T.pm j).wc + zL T j q - (T.pm j).ql q ≤ 60
    · obtain ⟨k1, k2⟩ := a_tryMend_t h v r hj hq c1
      refine okE_b k1 (fun S r => ?_)
      have hq' : q < ((mdT T j q).pm j).qc := by rw [md_qc]; exact hq
      rw [if_neg (show ¬ nI (zD T j q) = (0 : Int32) from nI_ne0 c1.1 (by omega))]
      show okE x (if nI (T.pm j).wc - nI ((T.pm j).ql q) + nI (zL T j q) ≤ (60 : Int32) then _ else _) _
      rw [en, if_pos (show _ ≤ (60 : Int32) from nI_le (b := 60) c1.2 (by omega)), if_pos rfl]
      refine okE_b (a_changesByTable (W := (mdT T j q, hn n, hH n H T, g, N, len, c)) h k2 r hj hq') (fun S r => ?_)
      show okE x (if nI (zD (mdT T j q) j q) = (0 : Int32) then _ else _) _
      rw [md_zD_q hT hj hq, if_pos (show nI 0 = (0 : Int32) from rfl)]
      refine okE_b (a_wordsOf (W := (mdT T j q, hn n, hH n H T, g, N, len, c)) h k2 r hj) (fun S r => ?_)
      show okE x (if nI ((mdT T j q).pm j).wc = nI ((T.pm j).wc + zL T j q - (T.pm j).ql q) then _ else _) _
      rw [md_wc, if_pos rfl]
      exact okE_r r ⟨rfl, k2, wT_md hT t hj hq⟩
    · refine okE_b (a_tryMend_f h v r hj hq c1) (fun S r => ?_)
      have m94 := mn_94 (W := (T, n, H, g, N, len, c)) h v r
      have fin : okE x (F_L_mends_b94 G S x (tl T) (-7002)) (GD b) := okE_o m94 ⟨rfl, v, t⟩
      show okE x (if nI (zD T j q) = (0 : Int32) then _ else (if nI (T.pm j).wc - nI ((T.pm j).ql q) + nI (zL T j q) ≤ (60 : Int32) then _ else _)) _
      by_cases c2 : zD T j q = 0
      · rw [if_pos (show nI (zD T j q) = (0 : Int32) by rw [c2]; rfl)]
        exact fin
      · rw [if_neg (show ¬ nI (zD T j q) = (0 : Int32) from nI_ne0 (by omega) (by omega)), en, if_neg (show ¬ nI _ ≤ (60 : Int32) from nI_ge (a := 60) (by omega) (by omega))]
        exact fin
/-- all pamphlets have few words -/
def rm (T : tT) : Nat → Bool
  | 0 => true
  | k + 1 => rm T k && decide ((T.pm k).wc < 30)
theorem rm_t {T : tT} : ∀ {k}, rm T k = true → ∀ j, j < k → (T.pm j).wc < 30
  | 0, _, j, hj => absurd hj (Nat.not_lt_zero _)
  | k + 1, h, j, hj => by
    have h' : (rm T k && decide ((T.pm k).wc < 30)) = true := h
    rw [Bool.and_eq_true] at h'
    by_cases z : j = k
    · rw [z]; exact of_decide_eq_true h'.2
    · exact rm_t h'.1 j (by omega)
theorem ma_64 (h : sh_G G x) {b : Nat} (v : vW (T, n, H, g, N, len, c)) (t : wT b T) (r : rC S x (T, n, H, g, N, len, c)) : okE x (F_L_mendsAll_b64 G S x) (GD b) := by
  unfold F_L_mendsAll_b64
  refine okE_b (a_blameByAuthors h v r) (fun S r => ?_)
  show okE x (if (0 : Int32) < nI (zba T) then _ else _) _
  by_cases c0 : (0 : Int32) < nI (zba T)
  · rw [if_pos c0]
    exact okE_r r ⟨rfl, v, t⟩
  · have hz : zba T = 0 := by
      rcases Nat.eq_zero_or_pos (zba T) with z | z
      · exact z
      · exfalso
        have hb : zba T ≤ 16 * 60 * 20 := by
          rw [zba_eq (wT_a t)]
          have h1 := su_le (f := zs2 T) (b := 16 * 60) (k := T.cnt) (fun i hi => by
            have h2 := su_le (f := zD T i) (b := 60) (k := (T.pm i).qc) (fun q hq => zD_lt v.1 hi hq)
            have h3 := v16 v.1 hi
            show su (zD T i) (T.pm i).qc ≤ _
            omega)
          have h20 := v.1.1
          unfold zsum
          omega
        exact c0 (show nI 0 < nI (zba T) from nI_lt z (by omega))
    have e := mz_0 (zba_0 (wT_a t) hz) (k := T.cnt) (Nat.le_refl _)
    have k := k_mendAll h v r
    rw [e] at k
    obtain ⟨k1, k2⟩ := ok_c k
    rw [if_neg c0]
    refine okE_b k1 (fun S r => ?_)
    rw [if_pos (show nI 0 = (0 : Int32) from rfl)]
    exact okE_r r ⟨rfl, k2, t⟩
theorem ma_4 (h : sh_G G x) {b : Nat} (v : vW (T, n, H, g, N, len, c)) (t : wT b T) : ∀ (m k f : Nat) (S : pq_N), k + m = T.cnt → m < f → rC S x (T, n, H, g, N, len, c) → okE x (F_L_mendsAll_b4 G f S x (nI (bN (rm T k))) (nI k)) (GD b) := by
  have h20 := v.1.1
  intro m
  induction m with
  | zero =>
    intro k f S hk hf r
    obtain ⟨f, rfl⟩ : ∃ k, f = k + 1 := ⟨f - 1, by omega⟩
    have ek : k = T.cnt := by omega
    subst ek
    rw [F_L_mendsAll_b4.eq_2]
    refine okE_b (a_pamphlets h v r) (fun S r => ?_)
    show okE x (if nI T.cnt ≤ nI T.cnt then _ else _) _
    rw [if_pos (nI_le (Nat.le_refl _) (by omega))]
    obtain ⟨k1, k2⟩ := ok_c (k_mendAll h v r)
    have hz := mz_le v.1 (k := T.cnt) (Nat.le_refl _)
    have tz := wT_mz v.1 t (k := T.cnt) (Nat.le_refl _)
    refine okE_b k1 (fun S r => ?_)
    rw [if_neg (show ¬ nI (mz T T.cnt).2 < 0 from nI_pos (by omega))]
    cases e : rm T T.cnt with
    | false =>
      rw [if_pos (show nI (bN false) = (0 : Int32) from rfl)]
      exact ma_64 h k2 tz r
    | true =>
      obtain ⟨z1, z2⟩ := mz_v v.1 (k := T.cnt) (Nat.le_refl _)
      have e0 : zba (mz T T.cnt).1 = 0 := zba_1 (wT_a tz) (fun j hj q hq => (mz_room v.1 (rm_t e) (k := T.cnt) (Nat.le_refl _)).2 j (by omega) q hq)
      rw [if_neg (show ¬ nI (bN true) = (0 : Int32) by decide)]
      refine okE_b (a_blameByAuthors h k2 r) (fun S r => ?_)
      show okE x (if nI (zba (mz T T.cnt).1) = (0 : Int32) then _ else _) _
      rw [e0, if_pos (show nI 0 = (0 : Int32) from rfl)]
      exact ma_64 h k2 tz r
  | succ m ih =>
    intro k f S hk hf r
    obtain ⟨f, rfl⟩ : ∃ k, f = k + 1 := ⟨f - 1, by omega⟩
    have hk' : k < T.cnt := by omega
    rw [F_L_mendsAll_b4.eq_2]
    refine okE_b (a_pamphlets h v r) (fun S r => ?_)
    show okE x (if nI T.cnt ≤ nI k then _ else _) _
    rw [if_neg (nI_ge hk' (by omega))]
    have i := ih (k + 1) f
    cases e : rm T k with
    | false =>
      have e2 : rm T (k + 1) = false := by
        show (rm T k && _) = false
        rw [e]; rfl
      rw [e2] at i
      rw [if_pos (show nI (bN false) = (0 : Int32) from rfl), nI_1]
      exact i S (by omega) (by omega) r
    | true =>
      have e2 : rm T (k + 1) = decide ((T.pm k).wc < 30) := by
        show (rm T k && _) = _
        rw [e]; rfl
      rw [e2] at i
      rw [if_neg (show ¬ nI (bN true) = (0 : Int32) by decide)]
      refine okE_b (a_wordsOf h v r hk') (fun S r => ?_)
      have h60 := v60 v.1 hk'
      rw [nI_1]
      show okE x (if (30 : Int32) ≤ nI (T.pm k).wc then _ else _) _
      by_cases z : (T.pm k).wc < 30
      · rw [decide_eq_true z] at i
        rw [if_neg (show ¬ (30 : Int32) ≤ nI (T.pm k).wc from nI_ge (b := 30) z (by omega))]
        exact i S (by omega) (by omega) r
      · rw [decide_eq_false z] at i
        rw [if_pos (show (30 : Int32) ≤ nI (T.pm k).wc from nI_le (a := 30) (by omega) (by omega))]
        exact i S (by omega) (by omega) r
theorem l_mendsAll (h : sh_G G x) {b : Nat} (v : vW (T, n, H, g, N, len, c)) (t : wT b T) (r : rC S x (T, n, H, g, N, len, c)) : okE x (F_L_mendsAll G S x) (GD b) := ma_4 h v t T.cnt 0 pq_fuel S (by omega) (fuel_lt (by have := v.1.1; omega)) r
/-! coming back -/
theorem hH_l {n : Nat} {H : Nat → tT} {T : tT} : hH n H T (hn n - 1) = T := by
  have : 1 ≤ hn n := by unfold hn; split <;> omega
  unfold hH
  rw [if_pos (by omega)]
theorem hH_p {n m : Nat} {H : Nat → tT} {T : tT} (hn5 : n ≤ 5) (h1 : 1 ≤ m) (h2 : m ≤ n) (h3 : m + 1 ≤ hn n) : hH n H T (hn n - 1 - m) = H (n - m) := by
  unfold hH
  rw [if_neg (by omega)]
  by_cases z : n = 5
  · have e : hn n = 5 := if_pos z
    rw [if_pos z, e]
    exact congrArg H (by omega)
  · have e : hn n = n + 1 := if_neg z
    rw [if_neg z, e]
    exact congrArg H (by omega)
theorem mq_day {T : tT} {j : Nat} : ∀ {i}, (mq T j i).1.day = T.day
  | 0 => rfl
  | i + 1 => by
    by_cases c : 0 < zD (mq T j i).1 j i ∧ ((mq T j i).1.pm j).wc + zL (mq T j i).1 j i - ((mq T j i).1.pm j).ql i ≤ 60
    · rw [mq_p c]
      show (mq T j i).1.day = _
      exact mq_day
    · rw [mq_n c]
      exact mq_day
theorem mz_day {T : tT} : ∀ {k}, (mz T k).1.day = T.day
  | 0 => rfl
  | k + 1 => by
    show (mq (mz T k).1 k ((mz T k).1.pm k).qc).1.day = _
    rw [mq_day, mz_day]
theorem a_undo (h : sh_G G x) (v : vW (T, n, H, g, N, len, c)) (r : rC S x (T, n, H, g, N, len, c)) (h0 : 1 ≤ n) : ok x (H (n - 1), n - 1, H, g, N, len, c) (E_X10_undo G S x) (nI (n - 1)) ∧ vW (H (n - 1), n - 1, H, g, N, len, c) := by
  have k := k_undo h v r
  have e : s_undo (T, n, H, g, N, len, c) = (Sum.inr (nI (n - 1)), (H (n - 1), n - 1, H, g, N, len, c)) := if_neg (show ¬ n = 0 by omega)
  rw [e] at k
  exact ok_e (d_X10_undo G S x) k
theorem a_pass (h : sh_G G x) (v : vW (T, n, H, g, N, len, c)) (r : rC S x (T, n, H, g, N, len, c)) {k : Nat} (h1 : 1 ≤ k) (h2 : k ≤ 100) : ok x (mT T.cnt (T.day + nI k) T.pm, hn n, hH n H T, g, N, len, c) (E_X10_pass G S x (nI k)) (T.day + nI k) ∧ vW (mT T.cnt (T.day + nI k) T.pm, hn n, hH n H T, g, N, len, c) := by
  have kk := k_pass (a := nI k) h v r
  have e : s_pass (T, n, H, g, N, len, c) (nI k) = (Sum.inr (T.day + nI k), (mT T.cnt (T.day + nI k) T.pm, hn n, hH n H T, g, N, len, c)) := if_neg (fun z => z.elim (fun z => (nI_nlt (a := k) (b := 1) h1 (by omega)) z) (fun z => (nI_nlt (a := 100) (b := k) h2 (by omega)) z))
  rw [e] at kk
  exact ok_e (d_X10_pass G S x _) kk
theorem a_restore (h : sh_G G x) (v : vW (T, n, H, true, N, len, c)) (r : rC S x (T, n, H, true, N, len, c)) : ok x (N, hn n, hH n H T, true, N, len, c) (E_X10_restoreSnapshot G S x) (nI N.cnt) ∧ vW (N, hn n, hH n H T, true, N, len, c) := by
  have k := k_restoreSnapshot h v r
  have e : s_rest (T, n, H, true, N, len, c) = (Sum.inr (nI N.cnt), (N, hn n, hH n H T, true, N, len, c)) := if_pos rfl
  rw [e] at k
  exact ok_e (d_X10_restoreSnapshot G S x) k
theorem hn_s (n : Nat) : 1 ≤ hn n ∧ ∀ m, m ≤ n → m + 1 ≤ 5 → m + 1 ≤ hn n := by
  unfold hn
  split <;> exact ⟨by omega, fun m h1 h2 => by omega⟩
theorem l_returns (h : sh_G G x) {b : Nat} (v : vW (T, n, H, g, N, len, c)) (t : wT b T) (r : rC S x (T, n, H, g, N, len, c)) : okE x (F_L_returns G S x) (GD b) := by
  have n5 := v.2.1
  have h20 := v.1.1
  unfold F_L_returns
  refine okE_b (a_tale h v r) (fun S r => ?_)
  obtain ⟨s1, s2⟩ := ok_c (k_takeSnapshot h v r)
  refine okE_b s1 (fun S r => ?_)
  refine okE_b (a_savedStates h s2 r) (fun S r => ?_)
  refine okE_b (a_day h s2 r) (fun S r => ?_)
  refine okE_b (a_pamphlets h s2 r) (fun S r => ?_)
  show okE x (if nI T.cnt = nI T.cnt then _ else _) _
  rw [if_pos rfl]
  obtain ⟨p1, p2⟩ := a_pass h s2 r (k := 3) (by decide) (by decide)
  refine okE_b p1 (fun S r => ?_)
  rw [if_pos (show T.day + nI 3 = T.day + (3 : Int32) from rfl)]
  obtain ⟨m1, m2⟩ : ok x ((mz (mT T.cnt (T.day + nI 3) T.pm) T.cnt).1, hn (hn n), hH (hn n) (hH n H T) (mT T.cnt (T.day + nI 3) T.pm), true, T, len, c) (F_X10_mendAll G S x) (nI (mz (mT T.cnt (T.day + nI 3) T.pm) T.cnt).2) ∧ vW ((mz (mT T.cnt (T.day + nI 3) T.pm) T.cnt).1, hn (hn n), hH (hn n) (hH n H T) (mT T.cnt (T.day + nI 3) T.pm), true, T, len, c) := ok_c (k_mendAll h p2 r)
  have hz := mz_le p2.1 (k := T.cnt) (Nat.le_refl _)
  refine okE_b m1 (fun S r => ?_)
  rw [if_neg (show ¬ nI (mz (mT T.cnt (T.day + nI 3) T.pm) T.cnt).2 < 0 from nI_pos (by omega))]
  refine okE_b (a_savedStates h m2 r) (fun S r => ?_)
  -- the rest
  have hn1 := hn_s n
  have hn2 := hn_s (hn n)
  have hn3 := hn_s (hn (hn n))
  have a1 := hn1.1
  have a2 := hn2.2 1 a1 (by decide)
  have a3 := hn3.2 2 a2 (by decide)
  have b1 := hn_le n5
  have b2 := hn_le b1
  have b3 := hn_le b2
  have rest : ∀ S, rC S x ((mz (mT T.cnt (T.day + nI 3) T.pm) T.cnt).1, hn (hn n), hH (hn n) (hH n H T) (mT T.cnt (T.day + nI 3) T.pm), true, T, len, c) → okE x (F_L_returns_b77 G S x (tl T) (nI T.cnt) T.day 1) (GD b) := fun S r => by
    unfold F_L_returns_b77
    rw [if_neg (by decide)]
    obtain ⟨q1, q2⟩ := a_restore h m2 r
    refine okE_b q1 (fun S r => ?_)
    rw [if_pos rfl]
    refine okE_b (a_tale h q2 r) (fun S r => ?_)
    show okE x (if lg_cmp (tl T) (tl T) = 0 then _ else _) _
    rw [if_pos ((lg_cmp0 _ _).mpr rfl)]
    obtain ⟨u1, u2⟩ := a_undo h q2 r (by omega)
    refine okE_b u1 (fun S r => ?_)
    rw [if_neg (nI_pos (by omega))]
    rw [hH_l] at r u2
    refine okE_b (a_day h u2 r) (fun S r => ?_)
    rw [if_pos (show (mz (mT T.cnt (T.day + nI 3) T.pm) T.cnt).1.day = T.day + (3 : Int32) from mz_day)]
    obtain ⟨w1, w2⟩ := a_undo h u2 r (by omega)
    refine okE_b w1 (fun S r => ?_)
    rw [if_neg (nI_pos (by omega))]
    obtain ⟨y1, y2⟩ := a_undo h w2 r (by omega)
    refine okE_b y1 (fun S r => ?_)
    rw [if_neg (nI_pos (by omega))]
    have e1 : hH (hn (hn n)) (hH (hn n) (hH n H T) (mT T.cnt (T.day + nI 3) T.pm)) (mz (mT T.cnt (T.day + nI 3) T.pm) T.cnt).1 (hn (hn (hn n)) - 1 - 1 - 1) = T := by
      have k1 := hH_p (n := hn (hn n)) (m := 2) (H := hH (hn n) (hH n H T) (mT T.cnt (T.day + nI 3) T.pm)) (T := (mz (mT T.cnt (T.day + nI 3) T.pm) T.cnt).1) b2 (by decide) (by omega) (by omega)
      have k2 := hH_p (n := hn n) (m := 1) (H := hH n H T) (T := mT T.cnt (T.day + nI 3) T.pm) b1 (by decide) (by omega) (by omega)
      have f1 : hn (hn (hn n)) - 1 - 1 - 1 = hn (hn (hn n)) - 1 - 2 := by omega
      have f2 : hn (hn n) - 2 = hn (hn n) - 1 - 1 := by omega
      rw [f1, k1, f2, k2, hH_l]
    rw [e1] at r y2
    unfold F_L_returns_b138
    rw [if_neg (by decide)]
    refine okE_b (a_tale h y2 r) (fun S r => ?_)
    show okE x (if lg_cmp (tl T) (tl T) = 0 then _ else _) _
    rw [if_pos ((lg_cmp0 _ _).mpr rfl)]
    exact okE_r r ⟨rfl, y2, t⟩
  show okE x (if nI n + nI 2 ≤ nI 5 then (if nI (hn (hn n)) = nI n + nI 2 then _ else _) else (if nI (hn (hn n)) = nI 5 then _ else _)) _
  rw [nI_add]
  by_cases z : n + 2 ≤ 5
  · have e : hn (hn n) = n + 2 := by
      have e1 : hn n = n + 1 := if_neg (by omega)
      rw [e1]
      exact if_neg (by omega)
    rw [if_pos (nI_le z (by omega)), e, if_pos rfl]
    rw [e] at rest r
    exact rest S r
  · have e : hn (hn n) = 5 := by
      unfold hn
      split <;> split <;> omega
    rw [if_neg (nI_ge (by omega) (by omega)), e, if_pos rfl]
    rw [e] at rest r
    exact rest S r
end DO
