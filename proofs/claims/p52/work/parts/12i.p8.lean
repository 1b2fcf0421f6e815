/-! COPIES, and what is saved -/
section CC
variable {G : pq_G} {x : Nat}
theorem c_pcopy (h : sh_G G x) {S : pq_N} {p p' : Nat} {P : tP} (hp : pq_ok G 4 p) (hp' : pq_ok G 4 p') (hd : p + 9 ≤ p' ∨ p' + 9 ≤ p) (hw : P.wc ≤ 60) (hc : P.qc ≤ 16) (r : rP S p' P) : ∃ S1, F_X4_copy G S p p' = some ((), S1) ∧ fr p (p + 9) S S1 ∧ rP S1 p P := by
  have k := sh_Pp h hp
  have k' := sh_Pp h hp'
  have hne : p' ≠ p := by omega
  obtain ⟨r1, r2, r3, r4, r5, r6, r7, r8⟩ := r
  unfold F_X4_copy
  simp only [pq_lt1, wi_a hne]
  generalize hS : pq_wi (pq_wi (pq_wi (pq_wi S p 4 (S.1 p' 4)) p 5 (S.1 p' 5)) p 6 (S.1 p' 6)) p 7 (S.1 p' 7) = S0
  have f0 : fr p (p + 9) S S0 := by
    rw [← hS]
    exact fr_tr (fr_wi (by omega) (by omega)) (fr_tr (fr_wi (by omega) (by omega)) (fr_tr (fr_wi (by omega) (by omega)) (fr_wi (by omega) (by omega))))
  have s2 : S0.2 = S.2 := by rw [← hS]; rfl
  have s4 : S0.1 p 4 = P.au := by rw [← hS, wi_k (by decide), wi_k (by decide), wi_k (by decide), wi_s, r1]
  have s5 : S0.1 p 5 = P.pd := by rw [← hS, wi_k (by decide), wi_k (by decide), wi_s, r2]
  have s6 : S0.1 p 6 = nI P.wc := by rw [← hS, wi_k (by decide), wi_s, r3]
  have s7 : S0.1 p 7 = nI P.qc := by rw [← hS, wi_s, r4]
  obtain ⟨S1, e1, i1, o1, c1⟩ := f_copy' (G := G) (S := S0) k.2.1 k'.2.1 hw (by omega)
  rw [s6, k.1.1, k'.1.1, pq_bd1 e1, k.1.2.1, k'.1.2.1, i1, s7]
  obtain ⟨S2, e2, i2, o2, c2⟩ := f_copy' (G := G) (S := S1) k.2.2.1 k'.2.2.1 hc (by omega)
  rw [pq_bd1 e2, k.1.2.2.1, k'.1.2.2.1, i2, i1, s7]
  obtain ⟨S3, e3, i3, o3, c3⟩ := f_copy' (G := G) (S := S2) k.2.2.2.1 k'.2.2.2.1 hc (by omega)
  rw [pq_bd1 e3, k.1.2.2.2, k'.1.2.2.2, i3, i2, i1, s7]
  obtain ⟨S4, e4, i4, o4, c4⟩ := f_copy' (G := G) (S := S3) k.2.2.2.2 k'.2.2.2.2 hc (by omega)
  rw [pq_bd1 e4]
  have io : S4.1 = S0.1 := by rw [i4, i3, i2, i1]
  refine ⟨S4, rfl, fr_tr f0 (fun b hb => ⟨by rw [io], by rw [o4 b (by omega), o3 b (by omega), o2 b (by omega), o1 b (by omega)]⟩), ?_⟩
  unfold rP
  rw [io]
  refine ⟨s4, s5, s6, s7, fun j hj => ?_, fun j hj => ?_, fun j hj => ?_, fun j hj => ?_⟩
  · rw [o4 _ (by omega), o3 _ (by omega), o2 _ (by omega), c1 j hj, s2]
    exact r5 j hj
  · rw [o4 _ (by omega), o3 _ (by omega), c2 j hj, o1 _ (by omega), s2]
    exact r6 j hj
  · rw [o4 _ (by omega), c3 j hj, o2 _ (by omega), o1 _ (by omega), s2]
    exact r7 j hj
  · rw [c4 j hj, o3 _ (by omega), o2 _ (by omega), o1 _ (by omega), s2]
    exact r8 j hj
theorem sh_ss {i i' : Nat} (hi : i < 7) (hi' : i' < 7) (hne : i ≠ i') : sh_s x i + 191 ≤ sh_s x i' ∨ sh_s x i' + 191 ≤ sh_s x i := by
  unfold sh_s
  split <;> split <;> omega
theorem sc_loop (h : sh_G G x) {i i' : Nat} (hi : i < 7) (hi' : i' < 7) (hne : i ≠ i') {T : tT} (v : vT T) : ∀ (r k n : Nat) (S : pq_N), k + r = T.cnt → r < n → S.1 (sh_s x i) 2 = nI T.cnt → S.1 (sh_s x i) 3 = T.day → rS S x i' T → (∀ j, j < k → rP S (sh_p x i j) (T.pm j)) →
    ∃ S1, F_X9_copy_b18 G n S (sh_s x i) (sh_s x i') (nI k) = some ((), S1) ∧ fr (sh_s x i) (sh_s x i + 191) S S1 ∧ rS S1 x i T := by
  have h20 := v.1
  have hss := sh_ss (x := x) hi hi' hne
  intro r
  induction r with
  | zero =>
    intro k n S hkr hn e2 e3 rs done
    obtain ⟨n, rfl⟩ : ∃ k, n = k + 1 := ⟨n - 1, by omega⟩
    have e : k = T.cnt := by omega
    rw [F_X9_copy_b18.eq_2, e2, if_pos (nI_le (by omega) (by omega))]
    exact ⟨S, rfl, fr_rfl, e2, e3, fun j hj => done j (by omega)⟩
  | succ r ih =>
    intro k n S hkr hn e2 e3 rs done
    obtain ⟨n, rfl⟩ : ∃ k, n = k + 1 := ⟨n - 1, by omega⟩
    have hv := v.2 k (by omega)
    have hpp : sh_p x i k = sh_s x i + 11 + 9 * k := rfl
    have hpp' : sh_p x i' k = sh_s x i' + 11 + 9 * k := rfl
    rw [F_X9_copy_b18.eq_2, e2, if_neg (nI_ge (by omega) (by omega)), pq_bd1 (f_sat h hi (by omega)), pq_bd1 (f_sat h hi' (by omega))]
    obtain ⟨S1, q1, q2, q3⟩ := c_pcopy h (S := S) (P := T.pm k) (sh_pok h hi (show k < 20 by omega)) (sh_pok h hi' (show k < 20 by omega)) (by omega) hv.2.1 hv.2.2.1 (rs.2.2 k (by omega))
    rw [pq_bd1 q1, nI_1]
    have q2' : fr (sh_s x i) (sh_s x i + 191) S S1 := fr_mo q2 (by omega) (by omega)
    have s0 := (q2 (sh_s x i) (by omega)).1
    obtain ⟨S2, k1, k2, k3⟩ := ih (k + 1) n S1 (by omega) (by omega) (by rw [s0]; exact e2) (by rw [s0]; exact e3) (rS_fr q2' hi' v.1 (by omega) rs) (fun j hj => by
      rcases Nat.lt_or_ge j k with c | c
      · have hpj : sh_p x i j = sh_s x i + 11 + 9 * j := rfl
        exact rP_fr q2 (by omega) (done j c)
      · have : j = k := by omega
        subst this; exact q3)
    exact ⟨S2, k1, fr_tr q2' k2, k3⟩
theorem c_scopy (h : sh_G G x) {i i' : Nat} (hi : i < 7) (hi' : i' < 7) (hne : i ≠ i') {T : tT} (v : vT T) {S : pq_N} (rs : rS S x i' T) : ∃ S1, F_X9_copy G S (sh_s x i) (sh_s x i') = some ((), S1) ∧ fr (sh_s x i) (sh_s x i + 191) S S1 ∧ rS S1 x i T := by
  have hss := sh_ss (x := x) hi hi' hne
  have hn : sh_s x i' ≠ sh_s x i := by omega
  unfold F_X9_copy
  simp only [pq_lt1, wi_a hn]
  have f0 : fr (sh_s x i) (sh_s x i + 191) S (pq_wi (pq_wi S (sh_s x i) 2 (S.1 (sh_s x i') 2)) (sh_s x i) 3 (S.1 (sh_s x i') 3)) := fr_tr (fr_wi (by omega) (by omega)) (fr_wi (by omega) (by omega))
  obtain ⟨S1, q1, q2, q3⟩ := sc_loop h hi hi' hne v T.cnt 0 pq_fuel (pq_wi (pq_wi S (sh_s x i) 2 (S.1 (sh_s x i') 2)) (sh_s x i) 3 (S.1 (sh_s x i') 3)) (by omega) (fuel_lt (by have := v.1; omega)) (by rw [wi_k (by decide), wi_s, rs.1]) (by rw [wi_s, rs.2.1]) (rS_fr f0 hi' v.1 (by omega) rs) (fun j hj => absurd hj (Nat.not_lt_zero _))
  exact ⟨S1, q1, fr_tr f0 q2, q3⟩
/-- what is saved: n states, the oldest first; the ring begins at o -/
def rH (S : pq_N) (x n : Nat) (H : Nat → tT) : Prop := n ≤ 5 ∧ ∃ o, o < 5 ∧ S.1 (x + 192) 3 = nI o ∧ S.1 (x + 192) 4 = nI n ∧ ∀ k, k < n → vT (H k) ∧ rS S x (2 + (o + k) % 5) (H k)
/-- what is saved behind a save of T -/
def hn (n : Nat) : Nat := if n = 5 then 5 else n + 1
def hH (n : Nat) (H : Nat → tT) (T : tT) : Nat → tT := fun k => if k + 1 = hn n then T else if n = 5 then H (k + 1) else H k
theorem sh_2 (i : Nat) : sh_s x (2 + i) = x + 385 + 191 * i := by
  unfold sh_s
  rw [if_neg (by omega)]
  omega
theorem c_slot (h : sh_G G x) {S : pq_N} {o k : Nat} (ho : o < 5) (hk : k < 100) (e : S.1 (x + 192) 3 = nI o) : F_X2_slot G S (x + 192) (nI k) = some (sh_s x (2 + (o + k) % 5), S) := by
  obtain ⟨-, -, ⟨h0, -, h5, hr⟩, -⟩ := h
  unfold F_X2_slot
  rw [e, nI_add, pq_lt1, show (5 : Int32) = nI 5 from rfl, nI_mod (by omega) (by omega), show (0 : Int32) = nI 0 from rfl, if_neg (nI_nlt (by omega) (by omega)), h0, h5, if_neg (nI_ge (by omega) (by omega)), nI_clamp (by omega), if_neg (by
    intro q; rcases q with q | q
    · exact nI_nlt (a := (o + k) % 5) (b := 0) (by omega) (by omega) q
    · omega), hr _ (by omega), sh_2]
theorem rH_fr {lo hi n : Nat} {S S1 : pq_N} {H : Nat → tT} (f : fr lo hi S S1) (hf : x + 1340 ≤ lo ∨ hi ≤ x + 192) (r : rH S x n H) : rH S1 x n H := by
  obtain ⟨n5, o, ho, e3, e4, r⟩ := r
  refine ⟨n5, o, ho, by rw [(f (x + 192) (by omega)).1, e3], by rw [(f (x + 192) (by omega)).1, e4], fun k hk => ⟨(r k hk).1, rS_fr f (by omega) (r k hk).1.1 ?_ (r k hk).2⟩⟩
  rw [sh_2]
  omega
theorem c_save30 (h : sh_G G x) {S : pq_N} {n : Nat} {H : Nat → tT} {T : tT} (hn4 : n ≤ 4) (v : vT T) (rs : rS S x 0 T) (r : rH S x n H) : ∃ S1, F_X2_save_b30 G S (x + 192) (x + 1) = some ((), S1) ∧ fr (x + 192) (x + 1340) S S1 ∧ (∀ k, sh_s x 1 ≤ k → k < sh_s x 1 + 191 → S1.1 k = S.1 k ∧ S1.2 k = S.2 k) ∧ S1.1 (x + 192) 2 = S.1 (x + 192) 2 ∧ rH S1 x (n + 1) (fun k => if k = n then T else H k) := by
  obtain ⟨n5, o, ho, e3, e4, r⟩ := r
  unfold F_X2_save_b30
  have hm : (o + n) % 5 < 5 := Nat.mod_lt _ (by decide)
  have hs2 := sh_2 (x := x) ((o + n) % 5)
  obtain ⟨S1, q1, q2, q3⟩ := c_scopy h (i := 2 + (o + n) % 5) (i' := 0) (by omega) (by omega) (by omega) v rs
  have q1' : F_X9_copy G S (sh_s x (2 + (o + n) % 5)) (x + 1) = some ((), S1) := q1
  have s0 := (q2 (x + 192) (by omega)).1
  have s1 : sh_s x 1 = x + 194 := rfl
  rw [e4, pq_bd1 (c_slot h ho (by omega) e3), pq_bd1 q1', pq_lt1, s0, e4, nI_1]
  have f3 : fr (x + 192) (x + 193) S1 (pq_wi S1 (x + 192) 4 (nI (n + 1))) := fr_wi (by omega) (by omega)
  refine ⟨_, rfl, fr_tr (fr_mo q2 (by omega) (by omega)) (fr_mo f3 (by omega) (by omega)), fun k h1 h2 => ?_, ?_, ?_⟩
  · have a := q2 k (by omega)
    have b := f3 k (by omega)
    exact ⟨b.1.trans a.1, b.2.trans a.2⟩
  · rw [wi_k (by decide), s0]
  · refine ⟨by omega, o, ho, by rw [wi_k (by decide), s0, e3], wi_s, fun k hk => ?_⟩
    show vT (if k = n then T else H k) ∧ rS _ x _ (if k = n then T else H k)
    by_cases c : k = n
    · rw [if_pos c, c]
      refine ⟨v, rS_fr f3 (by omega) v.1 ?_ q3⟩
      rw [hs2]; omega
    · rw [if_neg c]
      have rk := r k (by omega)
      have hmk : (o + k) % 5 < 5 := Nat.mod_lt _ (by decide)
      have hne : (o + k) % 5 ≠ (o + n) % 5 := by omega
      have hsk := sh_2 (x := x) ((o + k) % 5)
      refine ⟨rk.1, rS_fr f3 (by omega) rk.1.1 (by rw [hsk]; omega) (rS_fr q2 (by omega) rk.1.1 ?_ rk.2)⟩
      have := sh_ss (x := x) (i := 2 + (o + k) % 5) (i' := 2 + (o + n) % 5) (by omega) (by omega) (by omega)
      omega
theorem c_save (h : sh_G G x) {S : pq_N} {n : Nat} {H : Nat → tT} {T : tT} (v : vT T) (rs : rS S x 0 T) (r : rH S x n H) : ∃ S1, F_X2_save G S (x + 192) (x + 1) = some ((), S1) ∧ fr (x + 192) (x + 1340) S S1 ∧ (∀ k, sh_s x 1 ≤ k → k < sh_s x 1 + 191 → S1.1 k = S.1 k ∧ S1.2 k = S.2 k) ∧ S1.1 (x + 192) 2 = S.1 (x + 192) 2 ∧ rH S1 x (hn n) (hH n H T) := by
  have r0 := r
  obtain ⟨n5, o, ho, e3, e4, r⟩ := r
  unfold F_X2_save
  rw [e4, show (5 : Int32) = nI 5 from rfl, if_eqI (by omega) (by omega)]
  by_cases c : n = 5
  · have s1 : sh_s x 1 = x + 194 := rfl
    rw [if_pos c]
    simp only [pq_lt1]
    rw [e3, nI_1, nI_mod (by omega) (by omega), wi_k (by decide), e4, c, show nI 5 - (1 : Int32) = nI 4 from by decide]
    have f0 : fr (x + 192) (x + 193) S (pq_wi (pq_wi S (x + 192) 3 (nI ((o + 1) % 5))) (x + 192) 4 (nI 4)) := fr_tr (fr_wi (by omega) (by omega)) (fr_wi (by omega) (by omega))
    have r1 : rH (pq_wi (pq_wi S (x + 192) 3 (nI ((o + 1) % 5))) (x + 192) 4 (nI 4)) x 4 (fun k => H (k + 1)) := by
      refine ⟨by omega, (o + 1) % 5, by omega, by rw [wi_k (by decide), wi_s], wi_s, fun k hk => ?_⟩
      have rk := r (k + 1) (by omega)
      have em : ((o + 1) % 5 + k) % 5 = (o + (k + 1)) % 5 := by omega
      rw [em]
      exact ⟨rk.1, rS_fr f0 (by omega) rk.1.1 (by rw [sh_2]; omega) rk.2⟩
    obtain ⟨S1, q1, q2, q3, q4, q5⟩ := c_save30 h (n := 4) (by omega) v (rS_fr f0 (by decide) v.1 (by have : sh_s x 0 = x + 1 := rfl; omega) rs) r1
    refine ⟨S1, q1, fr_tr (fr_mo f0 (by omega) (by omega)) q2, fun k h1 h2 => ?_, ?_, ?_⟩
    · have a := f0 k (by omega)
      have b := q3 k h1 h2
      exact ⟨b.1.trans a.1, b.2.trans a.2⟩
    · rw [q4, wi_k (by decide), wi_k (by decide)]
    · have e1 : hn 5 = 4 + 1 := rfl
      have e2 : hH 5 H T = fun k => if k = 4 then T else H (k + 1) := by
        funext k
        unfold hH
        rw [e1, if_pos rfl]
        by_cases ck : k = 4
        · rw [if_pos ck, if_pos (by omega)]
        · rw [if_neg ck, if_neg (by omega)]
      rw [e1, e2]; exact q5
  · rw [if_neg c]
    obtain ⟨S1, q1, q2, q3, q4, q5⟩ := c_save30 h (n := n) (by omega) v rs r0
    refine ⟨S1, q1, q2, q3, q4, ?_⟩
    have e1 : hn n = n + 1 := if_neg c
    have e2 : hH n H T = fun k => if k = n then T else H k := by
      funext k
      unfold hH
      rw [e1, if_neg c]
      by_cases ck : k = n
      · rw [if_pos ck, if_pos (by omega)]
      · rw [if_neg ck, if_neg (by omega)]
    rw [e1, e2]; exact q5
theorem c_takeBack (h : sh_G G x) {S : pq_N} {n : Nat} {H : Nat → tT} (h1 : 1 ≤ n) (r : rH S x n H) : ∃ S1, F_X2_takeBack G S (x + 192) (x + 1) = some ((), S1) ∧ fr (x + 1) (x + 193) S S1 ∧ S1.1 (x + 192) 2 = S.1 (x + 192) 2 ∧ rS S1 x 0 (H (n - 1)) ∧ rH S1 x (n - 1) H := by
  obtain ⟨n5, o, ho, e3, e4, r⟩ := r
  have rl := r (n - 1) (by omega)
  have hm : (o + (n - 1)) % 5 < 5 := Nat.mod_lt _ (by decide)
  have s0 : sh_s x 0 = x + 1 := rfl
  obtain ⟨S1, q1, q2, q3⟩ := c_scopy h (i := 0) (i' := 2 + (o + (n - 1)) % 5) (by omega) (by omega) (by omega) rl.1 rl.2
  have q1' : F_X9_copy G S (x + 1) (sh_s x (2 + (o + (n - 1)) % 5)) = some ((), S1) := q1
  have s1 := (q2 (x + 192) (by omega)).1
  unfold F_X2_takeBack
  rw [e4, nI_sub1 h1, pq_bd1 (c_slot h ho (by omega) e3), pq_bd1 q1', pq_lt1, s1, e4, nI_sub1 h1]
  have f3 : fr (x + 192) (x + 193) S1 (pq_wi S1 (x + 192) 4 (nI (n - 1))) := fr_wi (by omega) (by omega)
  refine ⟨_, rfl, fr_tr (fr_mo q2 (by omega) (by omega)) (fr_mo f3 (by omega) (by omega)), by rw [wi_k (by decide), s1], rS_fr f3 (by decide) rl.1.1 (by omega) q3, by omega, o, ho, by rw [wi_k (by decide), s1, e3], wi_s, fun k hk => ?_⟩
  have rk := r k (by omega)
  have hmk : (o + k) % 5 < 5 := Nat.mod_lt _ (by decide)
  have hsk := sh_2 (x := x) ((o + k) % 5)
  exact ⟨rk.1, rS_fr f3 (by omega) rk.1.1 (by rw [hsk]; omega) (rS_fr q2 (by omega) rk.1.1 (by rw [hsk]; omega) rk.2)⟩
end CC
