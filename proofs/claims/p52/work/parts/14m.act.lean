/-! ACTS -/
section AC
variable {G : pq_G} {x : Nat} {T N : tT} {n len : Nat} {H : Nat → tT} {g : Bool} {c : Nat → Nat} {S : pq_N}
theorem GD_mo {b b' : Nat} (hb : b ≤ b') {a : Int32} {W : tW} (k : GD b a W) : GD b' a W := ⟨k.1, k.2.1, wT_mo hb k.2.2⟩
theorem ac_54 (h : sh_G G x) {b : Nat} (v : vW (T, n, H, g, N, len, c)) (t : wT b T) (r : rC S x (T, n, H, g, N, len, c)) {m : Nat} (h1 : 1 ≤ m) (hm : m ≤ 100) {y : Int32} : okE x (F_L_act_b54 G S x T.day (nI m) y 1) (GD (b + 100)) := by
  unfold F_L_act_b54
  obtain ⟨i, hi, ai⟩ := a_low (G := G) (v := y) r (n := m) h1 (by omega)
  refine okE_b ai (fun S r => ?_)
  rw [show (1 : Int32) = nI 1 from rfl, nI_add]
  obtain ⟨k1, k2⟩ := a_pass (k := 1 + i) h v r (by omega) (by omega)
  refine okE_b k1 (fun S r => ?_)
  rw [if_pos rfl]
  refine okE_b (a_day h k2 r) (fun S r => ?_)
  show okE x (if T.day + nI (1 + i) = T.day + nI (1 + i) then _ else _) _
  rw [if_pos rfl]
  exact okE_r r ⟨rfl, k2, wT_pass t (by omega)⟩
theorem ac_210 (h : sh_G G x) {b : Nat} (v : vW (T, n, H, g, N, len, c)) (t : wT b T) (r : rC S x (T, n, H, g, N, len, c)) {i : Nat} (hi : i = if T.cnt = 0 then 0 else if (T.pm (T.cnt - 1)).pd = T.day then 1 else 0) : okE x (F_L_act_b210 G S x (nI T.cnt) (nI i)) (GD b) := by
  have h20 := v.1.1
  have k := k_withdraw h v r
  unfold F_L_act_b210
  by_cases c1 : T.cnt = 0
  · have e : s_wd (T, n, H, g, N, len, c) = (Sum.inl 2, (T, n, H, g, N, len, c)) := if_pos c1
    rw [e] at k
    rw [if_pos c1] at hi
    have kw : ok x (T, n, H, g, N, len, c) (F_L_tryWithdraw G S x) (-7002) := ok_h k (fun S1 => rfl)
    refine okE_b kw (fun S r => ?_)
    rw [hi, if_pos (show nI 0 = (0 : Int32) from rfl), if_pos rfl]
    exact okE_r r ⟨rfl, v, t⟩
  · rw [if_neg c1] at hi
    by_cases c2 : (T.pm (T.cnt - 1)).pd = T.day
    · have e : s_wd (T, n, H, g, N, len, c) = (Sum.inr (nI (T.cnt - 1)), (mT (T.cnt - 1) T.day T.pm, hn n, hH n H T, g, N, len, c)) := by
        unfold s_wd
        rw [if_neg (show ¬ (T, n, H, g, N, len, c).1.cnt = 0 from c1), if_pos (show ((T, n, H, g, N, len, c).1.pm ((T, n, H, g, N, len, c).1.cnt - 1)).pd = (T, n, H, g, N, len, c).1.day from c2)]
      rw [e] at k
      rw [if_pos c2] at hi
      have kw : ok x (mT (T.cnt - 1) T.day T.pm, hn n, hH n H T, g, N, len, c) (F_L_tryWithdraw G S x) (nI (T.cnt - 1)) ∧ vW (mT (T.cnt - 1) T.day T.pm, hn n, hH n H T, g, N, len, c) := ok_hr k (fun S1 => rfl)
      refine okE_b kw.1 (fun S r => ?_)
      rw [hi, if_neg (by decide), nI_sub1 (by omega), if_pos rfl]
      refine okE_b (a_pamphlets h kw.2 r) (fun S r => ?_)
      show okE x (if nI (T.cnt - 1) = nI (T.cnt - 1) then _ else _) _
      rw [if_pos rfl]
      exact okE_r r ⟨rfl, kw.2, wT_wd t⟩
    · have e : s_wd (T, n, H, g, N, len, c) = (Sum.inl 2, (T, n, H, g, N, len, c)) := by
        unfold s_wd
        rw [if_neg (show ¬ (T, n, H, g, N, len, c).1.cnt = 0 from c1), if_neg (show ¬ ((T, n, H, g, N, len, c).1.pm ((T, n, H, g, N, len, c).1.cnt - 1)).pd = (T, n, H, g, N, len, c).1.day from c2)]
      rw [e] at k
      rw [if_neg c2] at hi
      have kw : ok x (T, n, H, g, N, len, c) (F_L_tryWithdraw G S x) (-7002) := ok_h k (fun S1 => rfl)
      refine okE_b kw (fun S r => ?_)
      rw [hi, if_pos (show nI 0 = (0 : Int32) from rfl), if_pos rfl]
      exact okE_r r ⟨rfl, v, t⟩
theorem l_act (h : sh_G G x) {b : Nat} (v : vW (T, n, H, g, N, len, c)) (t : wT b T) (r : rC S x (T, n, H, g, N, len, c)) {u y z : Int32} : okE x (F_L_act G S x u y z) (GD (b + 100)) := by
  have h20 := v.1.1
  have t' : wT (b + 100) T := wT_mo (by omega) t
  have one : ∀ S, rC S x (T, n, H, g, N, len, c) → okE x (some ((1 : Int32), S)) (GD (b + 100)) := fun S r => okE_r r ⟨rfl, v, t'⟩
  unfold F_L_act
  obtain ⟨i, hi, ai⟩ := a_low (G := G) (v := u) r (n := 16) (by decide) (by decide)
  refine okE_b ai (fun S r => ?_)
  by_cases c1 : (7 : Int32) ≤ nI i
  · rw [if_pos c1]
    by_cases c2 : (10 : Int32) ≤ nI i
    · rw [if_pos c2]
      by_cases c3 : (13 : Int32) ≤ nI i
      · rw [if_pos c3]
        by_cases c4 : nI i = (13 : Int32)
        · rw [if_pos c4]
          obtain ⟨j, hj, aj⟩ := a_low (G := G) (v := y) r (n := 4) (by decide) (by decide)
          refine okE_b aj (fun S r => ?_)
          by_cases c5 : (0 : Int32) < nI j
          · rw [if_pos c5]
            exact one S r
          · rw [if_neg c5]
            refine okE_e (l_mendsAll h v t r) (fun a W S q r => ?_)
            rw [if_neg (show ¬ a = (0 : Int32) by rw [q.1]; decide)]
            exact okE_r r (GD_mo (b := b) (by omega) ⟨rfl, q.2⟩)
        · rw [if_neg c4]
          by_cases c5 : nI i = (14 : Int32)
          · rw [if_pos c5]
            refine okE_e (l_returns h v t r) (fun a W S q r => ?_)
            rw [if_neg (show ¬ ¬ (a = 0 ∨ a = 1) from fun z => z (Or.inr q.1))]
            exact okE_r r (GD_mo (b := b) (by omega) q)
          · rw [if_neg c5]
            refine okE_b (a_pamphlets h v r) (fun S r => ?_)
            by_cases c6 : T.cnt = 0
            · rw [if_pos (show nI T.cnt ≤ (0 : Int32) by rw [c6]; decide)]
              exact okE_m (ac_210 (i := 0) h v t r (by rw [if_pos c6])) (fun a W q => GD_mo (by omega) q)
            · rw [if_neg (show ¬ nI T.cnt ≤ (0 : Int32) from nI_nle (by omega) (by omega)), show nI T.cnt - 1 = nI (T.cnt - 1) from nI_sub1 (by omega)]
              refine okE_b (a_dayOf (W := (T, n, H, g, N, len, c)) h v r (show T.cnt - 1 < T.cnt by omega)) (fun S r => ?_)
              refine okE_b (a_day h v r) (fun S r => ?_)
              show okE x (if (T.pm (T.cnt - 1)).pd = T.day then _ else _) _
              by_cases c7 : (T.pm (T.cnt - 1)).pd = T.day
              · rw [if_pos c7]
                exact okE_m (ac_210 (i := 1) h v t r (by rw [if_neg c6, if_pos c7])) (fun a W q => GD_mo (by omega) q)
              · rw [if_neg c7]
                exact okE_m (ac_210 (i := 0) h v t r (by rw [if_neg c6, if_neg c7])) (fun a W q => GD_mo (by omega) q)
      · rw [if_neg c3]
        refine okE_b (a_pamphlets h v r) (fun S r => ?_)
        by_cases c6 : T.cnt = 0
        · rw [if_pos (show nI T.cnt = (0 : Int32) by rw [c6]; rfl)]
          exact one S r
        · rw [if_neg (show ¬ nI T.cnt = (0 : Int32) from nI_ne0 (by omega) (by omega))]
          refine okE_b (a_pamphlets h v r) (fun S r => ?_)
          refine okE_b (a_pamphlets h v r) (fun S r => ?_)
          obtain ⟨j, hj, aj⟩ := a_low (G := G) (v := y) r (n := T.cnt) (by omega) (by omega)
          refine okE_b aj (fun S r => ?_)
          show okE x (pq_bd (F_L_mends G S x ((nI T.cnt - (1 : Int32)) - (nI j / (2 : Int32))) (y >>> ((4 : Int32) &&& 31))) fun v55 S56 => _) _
          rw [nI_sub1 (by omega), show (2 : Int32) = nI 2 from rfl, nI_div (by omega) (by decide), nI_sub (by omega)]
          refine okE_e (l_mends h v t r (show T.cnt - 1 - j / 2 < T.cnt by omega)) (fun a W S q r => ?_)
          rw [if_neg (show ¬ a = (0 : Int32) by rw [q.1]; decide)]
          exact okE_r r (GD_mo (b := b) (by omega) ⟨rfl, q.2⟩)
    · rw [if_neg c2]
      refine okE_b (a_day h v r) (fun S r => ?_)
      obtain ⟨j, hj, aj⟩ := a_low (G := G) (v := y >>> ((7 : Int32) &&& 31)) r (n := 5) (by decide) (by decide)
      refine okE_b aj (fun S r => ?_)
      by_cases c3 : nI j = (0 : Int32)
      · rw [if_pos c3]
        exact ac_54 (m := 100) h v t r (by decide) (by decide)
      · rw [if_neg c3]
        exact ac_54 (m := 3) h v t r (by decide) (by decide)
  · rw [if_neg c1]
    refine okE_e (l_prints h v t r) (fun a W S q r => ?_)
    rw [if_neg (show ¬ ¬ (a = 0 ∨ a = 1) from fun z => z (Or.inr q.1))]
    exact okE_r r (GD_mo (b := b) (by omega) q)
end AC
