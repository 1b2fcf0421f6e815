/-! THE CALLS THAT CHANGE -/
section CH
variable {G : pq_G} {x : Nat} {T N : tT} {n len : Nat} {H : Nat → tT} {g : Bool} {c : Nat → Nat} {S : pq_N} {a b : Int32}
theorem rC_0 {S1 : pq_N} {T' : tT} (f : ∀ b, x + 192 ≤ b → b < x + 1343 → S1.1 b = S.1 b ∧ S1.2 b = S.2 b) (v : vW (T, n, H, g, N, len, c)) (r : rC S x (T, n, H, g, N, len, c)) (r0 : rS S1 x 0 T') : rC S1 x (T', n, H, g, N, len, c) := by
  obtain ⟨r1, r2, r3, r4, r5⟩ := r
  have s1 : sh_s x 1 = x + 194 := rfl
  -- a state that agrees on what is looked at
  let S2 : pq_N := (fun b => if x + 192 ≤ b ∧ b < x + 1343 then S.1 b else S1.1 b, fun b => if x + 192 ≤ b ∧ b < x + 1343 then S.2 b else S1.2 b)
  have e : S2 = S1 := by
    refine Prod.ext (funext fun b => ?_) (funext fun b => ?_)
    · show (if x + 192 ≤ b ∧ b < x + 1343 then S.1 b else S1.1 b) = S1.1 b
      by_cases z : x + 192 ≤ b ∧ b < x + 1343
      · rw [if_pos z, (f b z.1 z.2).1]
      · rw [if_neg z]
    · show (if x + 192 ≤ b ∧ b < x + 1343 then S.2 b else S1.2 b) = S1.2 b
      by_cases z : x + 192 ≤ b ∧ b < x + 1343
      · rw [if_pos z, (f b z.1 z.2).2]
      · rw [if_neg z]
  obtain ⟨n5, o, ho, e3, e4, rk⟩ := r2
  have fa : ∀ i, i < 7 → 1 ≤ i → ∀ U, vT U → rS S x i U → rS S1 x i U := fun i hi h1 U vU q => by
    have hs : x + 192 ≤ sh_s x i := by
      unfold sh_s
      rw [if_neg (by omega)]; omega
    have hb := sh_sb (x := x) hi
    obtain ⟨q1, q2, q3⟩ := q
    have z0 := (f (sh_s x i) (by omega) (by omega)).1
    refine ⟨by rw [z0]; exact q1, by rw [z0]; exact q2, fun j hj => ?_⟩
    have hj20 := v20 vU hj
    have ep : sh_p x i j = sh_s x i + 11 + 9 * j := rfl
    obtain ⟨p1, p2, p3, p4, p5, p6, p7, p8⟩ := q3 j hj
    have w0 := (f (sh_p x i j) (by omega) (by omega)).1
    refine ⟨by rw [w0]; exact p1, by rw [w0]; exact p2, by rw [w0]; exact p3, by rw [w0]; exact p4, fun k hk => ?_, fun k hk => ?_, fun k hk => ?_, fun k hk => ?_⟩
    · rw [(f (sh_p x i j + 2) (by omega) (by omega)).2]; exact p5 k hk
    · rw [(f (sh_p x i j + 4) (by omega) (by omega)).2]; exact p6 k hk
    · rw [(f (sh_p x i j + 6) (by omega) (by omega)).2]; exact p7 k hk
    · rw [(f (sh_p x i j + 8) (by omega) (by omega)).2]; exact p8 k hk
  have z2 := (f (x + 192) (by omega) (by omega)).1
  refine ⟨r0, ⟨n5, o, ho, by rw [z2]; exact e3, by rw [z2]; exact e4, fun k hk => ⟨(rk k hk).1, fa _ (by omega) (by omega) _ (rk k hk).1 (rk k hk).2⟩⟩, by rw [z2]; exact r3, fun z => fa 1 (by decide) (by decide) _ (v.2.2.2.1 z) (r4 z), ?_, fun j hj => ?_⟩
  · rw [(f (x + 1340) (by omega) (by omega)).1]; exact r5.1
  · rw [(f (x + 1342) (by omega) (by omega)).2]; exact r5.2 j hj
theorem hn_le {n : Nat} (h : n ≤ 5) : hn n ≤ 5 := by
  unfold hn
  split <;> omega
theorem vW_save {T' : tT} (v : vW (T, n, H, g, N, len, c)) (v' : vT T') : vW (T', hn n, hH n H T, g, N, len, c) := by
  obtain ⟨v1, v2, v3, v4⟩ := v
  refine ⟨v', hn_le v2, fun k hk => ?_, v4⟩
  unfold hH
  by_cases e1 : k + 1 = hn n
  · rw [if_pos e1]; exact v1
  · rw [if_neg e1]
    by_cases e2 : n = 5
    · rw [if_pos e2]
      have : hn n = 5 := if_pos e2
      exact v3 (k + 1) (by omega)
    · rw [if_neg e2]
      have : hn n = n + 1 := if_neg e2
      exact v3 k (by omega)
theorem c_saveW (h : sh_G G x) (v : vW (T, n, H, g, N, len, c)) (r : rC S x (T, n, H, g, N, len, c)) : ∃ S1, F_X2_save G S (x + 192) (x + 1) = some ((), S1) ∧ fr (x + 192) (x + 1340) S S1 ∧ rC S1 x (T, hn n, hH n H T, g, N, len, c) := by
  obtain ⟨r1, r2, r3, r4, r5⟩ := r
  obtain ⟨S1, q1, q2, q3, q4, q5⟩ := c_save h v.1 r1 r2
  have s1 : sh_s x 1 = x + 194 := rfl
  refine ⟨S1, q1, q2, r0_fr q2 (by omega) v.1 r1, q5, by rw [q4]; exact r3, fun z => ?_, rB_fr q2 (by omega) r5⟩
  -- the snapshot's part stays
  obtain ⟨p1, p2, p3⟩ := r4 z
  have z0 := (q3 (sh_s x 1) (by omega) (by omega)).1
  refine ⟨by rw [z0]; exact p1, by rw [z0]; exact p2, fun j hj => ?_⟩
  have hj20 := v20 (v.2.2.2.1 z) hj
  have ep : sh_p x 1 j = sh_s x 1 + 11 + 9 * j := rfl
  obtain ⟨t1, t2, t3, t4, t5, t6, t7, t8⟩ := p3 j hj
  have w0 := (q3 (sh_p x 1 j) (by omega) (by omega)).1
  refine ⟨by rw [w0]; exact t1, by rw [w0]; exact t2, by rw [w0]; exact t3, by rw [w0]; exact t4, fun k hk => ?_, fun k hk => ?_, fun k hk => ?_, fun k hk => ?_⟩
  · rw [(q3 (sh_p x 1 j + 2) (by omega) (by omega)).2]; exact t5 k hk
  · rw [(q3 (sh_p x 1 j + 4) (by omega) (by omega)).2]; exact t6 k hk
  · rw [(q3 (sh_p x 1 j + 6) (by omega) (by omega)).2]; exact t7 k hk
  · rw [(q3 (sh_p x 1 j + 8) (by omega) (by omega)).2]; exact t8 k hk
/-- append -/
def s_app (W : tW) (a : Int32) : (Nat ⊕ Int32) × tW := if a < 32 ∨ 126 < a then (Sum.inl 1, W) else if 100 ≤ W.2.2.2.2.2.1 then (Sum.inl 2, W) else (Sum.inr (nI (W.2.2.2.2.2.1 + 1)), (W.1, W.2.1, W.2.2.1, W.2.2.2.1, W.2.2.2.2.1, W.2.2.2.2.2.1 + 1, updN W.2.2.2.2.2.2 W.2.2.2.2.2.1 a.toNatClampNeg))
theorem code_of {a : Int32} (h : ¬ (a < 32 ∨ 126 < a)) : ∃ k, 32 ≤ k ∧ k ≤ 126 ∧ a = nI k := by
  have h1 : ¬ a < 32 := fun z => h (Or.inl z)
  have h2 : ¬ 126 < a := fun z => h (Or.inr z)
  have h0 : ¬ a < 0 := fun z => h1 (Int32.lt_trans z (by decide))
  obtain ⟨k, hk, rfl⟩ := nI_of h0
  rw [show (32 : Int32) = nI 32 from rfl, nI_ltI (by omega) (by omega)] at h1
  rw [show (126 : Int32) = nI 126 from rfl, nI_ltI (by omega) (by omega)] at h2
  exact ⟨k, by omega, by omega, rfl⟩
theorem k_append (h : sh_G G x) (v : vW (T, n, H, g, N, len, c)) (r : rC S x (T, n, H, g, N, len, c)) : cc_ x S (F_X10_append G S x a) (s_app (T, n, H, g, N, len, c) a).1 (s_app (T, n, H, g, N, len, c) a).2 := by
  have kk := sh_rd h
  unfold F_X10_append
  rw [(sh_st h).2.2.1, r.2.2.2.2.1]
  have vl : len ≤ 100 := v.2.2.2.2.1
  by_cases c1 : a < 32 ∨ 126 < a
  · have e : s_app (T, n, H, g, N, len, c) a = (Sum.inl 1, (T, n, H, g, N, len, c)) := if_pos c1
    rw [e]
    refine cc_i v r (S1 := S) ?_ fr_rfl
    by_cases c2 : a < 32
    · rw [if_pos c2]
    · rw [if_neg c2, if_neg (Int32.not_le.mpr (c1.resolve_left c2))]
  · obtain ⟨k, k1, k2, rfl⟩ := code_of c1
    rw [if_neg (fun z => c1 (Or.inl z)), if_pos (Int32.not_lt.mp (fun z => c1 (Or.inr z))), show (100 : Int32) = nI 100 from rfl, if_ltI (by omega) (by omega)]
    by_cases c2 : len < 100
    · have e : s_app (T, n, H, g, N, len, c) (nI k) = (Sum.inr (nI (len + 1)), (T, n, H, g, N, len + 1, updN c len k)) := by
        unfold s_app
        rw [if_neg c1, if_neg (show ¬ 100 ≤ len by omega), nI_clamp (by omega)]
      have e1 : F_X0_add G S (x + 1340) (nI k) = some ((), pq_wi (pq_wj S (x + 1342) len (lN k)) (x + 1340) 1 (nI (len + 1))) := by
        unfold F_X0_add
        rw [kk.2.1, r.2.2.2.2.1, nI_l (by omega), pq_bd1 (f_put kk.2.2.1 c2 (by omega)), pq_lt1, wj_1, r.2.2.2.2.1, nI_1]
      rw [if_pos c2, pq_bd1 e1, wi_s, e]
      have f1 : fr (x + 1340) (x + 1343) S (pq_wi (pq_wj S (x + 1342) len (lN k)) (x + 1340) 1 (nI (len + 1))) := fr_tr (fr_wj (by omega) (by omega)) (fr_wi (by omega) (by omega))
      obtain ⟨r1, r2, r3, r4, r5⟩ := r
      obtain ⟨v1, v2, v3, v4, v5, v6⟩ := v
      have s1 : sh_s x 1 = x + 194 := rfl
      refine ⟨_, rfl, fr_mo f1 (by omega) (by omega), ⟨r0_fr f1 (by omega) v1 r1, rH_fr f1 (by omega) r2, by rw [(f1 (x + 192) (by omega)).1]; exact r3, fun z => rS_fr f1 (by decide) (v4 z).1 (by omega) (r4 z), wi_s, fun j hj => ?_⟩, ⟨v1, v2, v3, v4, by omega, fun j hj => ?_⟩⟩
      · rw [wi_2]
        show _ = lN (if j = len then k else c j)
        by_cases z : j = len
        · rw [if_pos z, z, wj_s]
        · rw [if_neg z, wj_k z]; exact r5.2 j (by omega)
      · show (if j = len then k else c j) ≤ 126
        by_cases z : j = len
        · rw [if_pos z]; exact k2
        · rw [if_neg z]; exact v6 j (by omega)
    · have e : s_app (T, n, H, g, N, len, c) (nI k) = (Sum.inl 2, (T, n, H, g, N, len, c)) := by
        unfold s_app
        rw [if_neg c1, if_pos (show 100 ≤ len by omega)]
      rw [if_neg c2, e]
      exact cc_i v r (S1 := S) rfl fr_rfl
theorem k_clearText (h : sh_G G x) (v : vW (T, n, H, g, N, len, c)) (r : rC S x (T, n, H, g, N, len, c)) : cc_ x S (F_X10_clearText G S x) (nI len) (T, n, H, g, N, 0, c) := by
  unfold F_X10_clearText
  rw [(sh_st h).2.2.1, r.2.2.2.2.1, pq_lt1]
  have f1 : fr (x + 1340) (x + 1343) S (pq_wi S (x + 1340) 1 (0 : Int32)) := fr_wi (by omega) (by omega)
  obtain ⟨r1, r2, r3, r4, r5⟩ := r
  obtain ⟨v1, v2, v3, v4, v5, v6⟩ := v
  have s1 : sh_s x 1 = x + 194 := rfl
  exact ⟨_, rfl, fr_mo f1 (by omega) (by omega), ⟨r0_fr f1 (by omega) v1 r1, rH_fr f1 (by omega) r2, by rw [(f1 (x + 192) (by omega)).1]; exact r3, fun z => rS_fr f1 (by decide) (v4 z).1 (by omega) (r4 z), wi_s, fun j hj => absurd hj (Nat.not_lt_zero _)⟩, ⟨v1, v2, v3, v4, Nat.zero_le _, fun j hj => absurd hj (Nat.not_lt_zero _)⟩⟩
/-- pass -/
def s_pass (W : tW) (a : Int32) : (Nat ⊕ Int32) × tW := if a < 1 ∨ 100 < a then (Sum.inl 1, W) else (Sum.inr (W.1.day + a), (mT W.1.cnt (W.1.day + a) W.1.pm, hn W.2.1, hH W.2.1 W.2.2.1 W.1, W.2.2.2))
theorem k_pass (h : sh_G G x) (v : vW (T, n, H, g, N, len, c)) (r : rC S x (T, n, H, g, N, len, c)) : cc_ x S (F_X10_pass G S x a) (s_pass (T, n, H, g, N, len, c) a).1 (s_pass (T, n, H, g, N, len, c) a).2 := by
  unfold F_X10_pass
  rw [(sh_st h).1, (sh_st h).2.1]
  by_cases c1 : a < 1 ∨ 100 < a
  · have e : s_pass (T, n, H, g, N, len, c) a = (Sum.inl 1, (T, n, H, g, N, len, c)) := if_pos c1
    rw [e]
    refine cc_i v r (S1 := S) ?_ fr_rfl
    by_cases c2 : a < 1
    · rw [if_pos c2]
    · rw [if_neg c2, if_neg (Int32.not_le.mpr (c1.resolve_left c2))]
  · have e : s_pass (T, n, H, g, N, len, c) a = (Sum.inr (T.day + a), (mT T.cnt (T.day + a) T.pm, hn n, hH n H T, g, N, len, c)) := if_neg c1
    obtain ⟨S1, k1, k2, k3⟩ := c_saveW h v r
    rw [e, if_neg (fun z => c1 (Or.inl z)), if_pos (Int32.not_lt.mp (fun z => c1 (Or.inr z))), pq_bd1 k1, pq_lt1, r0_day k3.1, wi_s]
    have f1 : fr (x + 1) (x + 2) S1 (pq_wi S1 (x + 1) 3 (T.day + a)) := fr_wi (by omega) (by omega)
    have v' : vT (mT T.cnt (T.day + a) T.pm) := ⟨v.1.1, fun j hj => v.1.2 j hj⟩
    refine ⟨_, rfl, fr_tr (fr_mo k2 (by omega) (by omega)) (fr_mo f1 (by omega) (by omega)), rC_0 (fun b h1 h2 => f1 b (by omega)) (vW_save v v.1) k3 ?_, vW_save v v'⟩
    obtain ⟨t1, t2, t3⟩ := k3.1
    refine ⟨by show (pq_wi S1 (x + 1) 3 (T.day + a)).1 (x + 1) 2 = _; rw [wi_k (by decide)]; exact t1, wi_s, fun j hj => ?_⟩
    have hb := sh_p0 (x := x) (v20 v.1 hj)
    exact rP_fr f1 (by omega) (t3 j hj)
/-- withdraw -/
def s_wd (W : tW) : (Nat ⊕ Int32) × tW := if W.1.cnt = 0 then (Sum.inl 2, W) else if (W.1.pm (W.1.cnt - 1)).pd = W.1.day then (Sum.inr (nI (W.1.cnt - 1)), (mT (W.1.cnt - 1) W.1.day W.1.pm, hn W.2.1, hH W.2.1 W.2.2.1 W.1, W.2.2.2)) else (Sum.inl 2, W)
theorem k_withdraw (h : sh_G G x) (v : vW (T, n, H, g, N, len, c)) (r : rC S x (T, n, H, g, N, len, c)) : cc_ x S (F_X10_withdraw G S x) (s_wd (T, n, H, g, N, len, c)).1 (s_wd (T, n, H, g, N, len, c)).2 := by
  have h20 := v.1.1
  unfold F_X10_withdraw
  rw [(sh_st h).1, (sh_st h).2.1, r0_cnt r.1, show (0 : Int32) = nI 0 from rfl, if_eqI (by omega) (by omega)]
  by_cases c1 : T.cnt = 0
  · have e : s_wd (T, n, H, g, N, len, c) = (Sum.inl 2, (T, n, H, g, N, len, c)) := if_pos c1
    rw [e, if_pos c1]
    exact cc_i v r (S1 := S) rfl fr_rfl
  · rw [if_neg c1, nI_sub1 (by omega), pq_bd1 (f_sat0 (j := T.cnt - 1) h (by omega)), r_pd (j := T.cnt - 1) r.1 (by omega), r0_day r.1]
    by_cases c2 : (T.pm (T.cnt - 1)).pd = T.day
    · have e : s_wd (T, n, H, g, N, len, c) = (Sum.inr (nI (T.cnt - 1)), (mT (T.cnt - 1) T.day T.pm, hn n, hH n H T, g, N, len, c)) := by
        unfold s_wd
        rw [if_neg c1, if_pos c2]
      obtain ⟨S1, k1, k2, k3⟩ := c_saveW h v r
      rw [e, if_pos c2, pq_bd1 k1, pq_lt1, r0_cnt k3.1, nI_sub1 (by omega), wi_s]
      have f1 : fr (x + 1) (x + 2) S1 (pq_wi S1 (x + 1) 2 (nI (T.cnt - 1))) := fr_wi (by omega) (by omega)
      have v' : vT (mT (T.cnt - 1) T.day T.pm) := ⟨by show T.cnt - 1 ≤ 20; omega, fun j hj => v.1.2 j (by have hj' : j < T.cnt - 1 := hj; omega)⟩
      refine ⟨_, rfl, fr_tr (fr_mo k2 (by omega) (by omega)) (fr_mo f1 (by omega) (by omega)), rC_0 (fun b h1 h2 => f1 b (by omega)) (vW_save v v.1) k3 ?_, vW_save v v'⟩
      obtain ⟨t1, t2, t3⟩ := k3.1
      refine ⟨wi_s, by show (pq_wi S1 (x + 1) 2 (nI (T.cnt - 1))).1 (x + 1) 3 = _; rw [wi_k (by decide)]; exact t2, fun j hj => ?_⟩
      have hj' : j < T.cnt - 1 := hj
      have hb := sh_p0 (x := x) (j := j) (by omega)
      exact rP_fr f1 (by omega) (t3 j (by omega))
    · have e : s_wd (T, n, H, g, N, len, c) = (Sum.inl 2, (T, n, H, g, N, len, c)) := by
        unfold s_wd
        rw [if_neg c1, if_neg c2]
      rw [e, if_neg c2]
      exact cc_i v r (S1 := S) rfl fr_rfl
/-- mend -/
def s_mend (W : tW) (a b : Int32) : (Nat ⊕ Int32) × tW := match dI W.1.cnt a with
  | none => (Sum.inl 3, W)
  | some j => match dI (W.1.pm j).qc b with
    | none => (Sum.inl 3, W)
    | some q => if 0 < zD W.1 j q ∧ (W.1.pm j).wc + zL W.1 j q - (W.1.pm j).ql q ≤ 60 then (Sum.inr (nI (zD W.1 j q)), (mdT W.1 j q, hn W.2.1, hH W.2.1 W.2.2.1 W.1, W.2.2.2)) else (Sum.inl 2, W)
theorem k_mend (h : sh_G G x) (v : vW (T, n, H, g, N, len, c)) (r : rC S x (T, n, H, g, N, len, c)) : cc_ x S (F_X10_mend G S x a b) (s_mend (T, n, H, g, N, len, c) a b).1 (s_mend (T, n, H, g, N, len, c) a b).2 := by
  unfold s_mend F_X10_mend
  dsimp only
  cases d : dI T.cnt a with
  | none => exact cc_i v r (S1 := S) (by rw [pq_bxl (nq_none h v.1 r.1 (Or.inl d))]) fr_rfl
  | some j =>
    dsimp only
    cases d2 : dI (T.pm j).qc b with
    | none => exact cc_i v r (S1 := S) (by rw [pq_bxl (nq_none h v.1 r.1 (Or.inr ⟨j, d, d2⟩))]) fr_rfl
    | some q =>
      obtain ⟨hj, ea⟩ := dI_some d
      obtain ⟨hq, eb⟩ := dI_some d2
      obtain ⟨S1, f1, f2, f3, f4⟩ := c_find h v.1 r.1 hj hq
      have hD := zD_lt v.1 hj hq
      have f2' : fr (x + 1343) (x + 1365) S S1 := fr_mo f2 (by omega) (by omega)
      have rc1 := rC_fr f2' v r
      dsimp only
      rw [pq_bx1 (nq_some h v.1 r.1 d d2), (sh_st h).1, (sh_st h).2.1, (sh_st h).2.2.2.2.1, ea, eb, pq_bd1 f1, show (0 : Int32) = nI 0 from rfl, if_eqI (by omega) (by omega)]
      by_cases cD : zD T j q = 0
      · rw [if_pos cD, if_neg (by omega)]
        exact cc_i v r rfl f2'
      · rw [if_neg cD, pq_bd1 (c_room h v.1 rc1.1 hj hq f4)]
        by_cases cR : (T.pm j).wc + zL T j q - (T.pm j).ql q ≤ 60
        · obtain ⟨S2, k1, k2, k3⟩ := c_saveW h v rc1
          have z2 := (k2 (x + 1354) (by omega)).1
          obtain ⟨S3, g1, g2, g3⟩ := c_putRight h v.1 k3.1 hj hq cR (by rw [z2]; exact f3) (by rw [z2]; exact f4)
          rw [if_pos cR, if_neg (by decide), pq_bd1 k1, pq_bd1 g1, if_pos ⟨by omega, cR⟩]
          exact ⟨S3, rfl, fr_tr (fr_mo f2' (by omega) (by omega)) (fr_tr (fr_mo k2 (by omega) (by omega)) (fr_mo g2 (by omega) (by omega))), rC_0 (fun b h1 h2 => g2 b (by omega)) (vW_save v v.1) k3 g3, vW_save v (vT_md v.1 hj hq cR)⟩
        · rw [if_neg cR, if_pos (by decide), if_neg (fun z => cR z.2)]
          exact cc_i v r rfl f2'
/-- mendAll -/
theorem ma_loop (h : sh_G G x) (v : vT T) : ∀ (m k f : Nat) (S : pq_N), k + m = T.cnt → m < f → rS S x 0 (mz T k).1 → ∃ S1, F_X10_mendAll_b15 G f S x (nI (mz T k).2) (nI k) = some (nI (mz T T.cnt).2, S1) ∧ (∀ b, (b < x + 1 ∨ (x + 192 ≤ b ∧ b < x + 1354) ∨ x + 1357 ≤ b) → S1.1 b = S.1 b ∧ S1.2 b = S.2 b) ∧ rS S1 x 0 (mz T T.cnt).1 := by
  have h20 := v.1
  intro m
  induction m with
  | zero =>
    intro k f S hkm hf r
    obtain ⟨f, rfl⟩ : ∃ k, f = k + 1 := ⟨f - 1, by omega⟩
    have e : k = T.cnt := by omega
    obtain ⟨v1, c1⟩ := mz_v v (k := k) (by omega)
    rw [F_X10_mendAll_b15.eq_2, (sh_st h).1, r0_cnt r, c1, if_pos (nI_le (by omega) (by omega)), e]
    rw [e] at r
    exact ⟨S, rfl, fun b _ => ⟨rfl, rfl⟩, r⟩
  | succ m ih =>
    intro k f S hkm hf r
    obtain ⟨f, rfl⟩ : ∃ k, f = k + 1 := ⟨f - 1, by omega⟩
    obtain ⟨v1, c1⟩ := mz_v v (k := k) (by omega)
    obtain ⟨S1, k1, k2, k3⟩ := c_putAll h v1 (j := k) (by omega) r
    rw [F_X10_mendAll_b15.eq_2, (sh_st h).1, r0_cnt r, c1, if_neg (nI_ge (by omega) (by omega)), (sh_st h).2.2.2.2.1, pq_bd1 k1, nI_add, nI_1]
    obtain ⟨S2, g1, g2, g3⟩ := ih (k + 1) f S1 (by omega) (by omega) k3
    refine ⟨S2, g1, fun b hb => ?_, g3⟩
    have a1 := g2 b hb
    have a2 := k2 b hb
    exact ⟨a1.1.trans a2.1, a1.2.trans a2.2⟩
theorem k_mendAll (h : sh_G G x) (v : vW (T, n, H, g, N, len, c)) (r : rC S x (T, n, H, g, N, len, c)) : cc_ x S (F_X10_mendAll G S x) (nI (mz T T.cnt).2) ((mz T T.cnt).1, hn n, hH n H T, g, N, len, c) := by
  obtain ⟨S1, k1, k2, k3⟩ := c_saveW h v r
  obtain ⟨S2, g1, g2, g3⟩ := ma_loop h v.1 T.cnt 0 pq_fuel S1 (by omega) (fuel_lt (by have := v.1.1; omega)) k3.1
  unfold F_X10_mendAll
  rw [(sh_st h).1, (sh_st h).2.1, pq_bd1 k1]
  exact ⟨S2, g1, fr_tr (fr_mo k2 (by omega) (by omega)) (fun b hb => g2 b (by omega)), rC_0 (fun b h1 h2 => g2 b (by omega)) (vW_save v v.1) k3 g3, vW_save v (mz_v v.1 (Nat.le_refl _)).1⟩
/-- undo -/
def s_undo (W : tW) : (Nat ⊕ Int32) × tW := if W.2.1 = 0 then (Sum.inl 2, W) else (Sum.inr (nI (W.2.1 - 1)), (W.2.2.1 (W.2.1 - 1), W.2.1 - 1, W.2.2))
theorem k_undo (h : sh_G G x) (v : vW (T, n, H, g, N, len, c)) (r : rC S x (T, n, H, g, N, len, c)) : cc_ x S (F_X10_undo G S x) (s_undo (T, n, H, g, N, len, c)).1 (s_undo (T, n, H, g, N, len, c)).2 := by
  obtain ⟨r1, r2, r3, r4, r5⟩ := r
  have r2' := r2
  obtain ⟨n5, o, ho, e3, e4, rk⟩ := r2'
  unfold F_X10_undo
  rw [(sh_st h).1, (sh_st h).2.1, e4, show (0 : Int32) = nI 0 from rfl, if_eqI (by omega) (by omega)]
  by_cases c1 : n = 0
  · have e : s_undo (T, n, H, g, N, len, c) = (Sum.inl 2, (T, n, H, g, N, len, c)) := if_pos c1
    rw [e, if_pos c1]
    exact cc_i v ⟨r1, r2, r3, r4, r5⟩ (S1 := S) rfl fr_rfl
  · have e : s_undo (T, n, H, g, N, len, c) = (Sum.inr (nI (n - 1)), (H (n - 1), n - 1, H, g, N, len, c)) := if_neg c1
    obtain ⟨S1, k1, k2, k3, k4, k5⟩ := c_takeBack h (by omega) r2
    have e6 : S1.1 (x + 192) 4 = nI (n - 1) := by
      obtain ⟨-, _, _, _, z, _⟩ := k5
      exact z
    have s1 : sh_s x 1 = x + 194 := rfl
    rw [e, if_neg c1, pq_bd1 k1, e6]
    exact ⟨S1, rfl, fr_mo k2 (by omega) (by omega), ⟨k4, k5, by rw [k3]; exact r3, fun z => rS_fr k2 (by decide) (v.2.2.2.1 z).1 (by omega) (r4 z), rB_fr k2 (by omega) r5⟩, ⟨v.2.2.1 (n - 1) (by omega), by omega, fun k hk => v.2.2.1 k (by omega), v.2.2.2⟩⟩
theorem k_takeSnapshot (h : sh_G G x) (v : vW (T, n, H, g, N, len, c)) (r : rC S x (T, n, H, g, N, len, c)) : cc_ x S (F_X10_takeSnapshot G S x) (nI T.cnt) (T, n, H, true, T, len, c) := by
  obtain ⟨r1, r2, r3, r4, r5⟩ := r
  have eh : pq_r G (x + 192) 1 = x + 194 := h.2.2.1.2.1
  have s1 : sh_s x 1 = x + 194 := rfl
  obtain ⟨S1, k1, k2, k3⟩ := c_scopy h (i := 1) (i' := 0) (by decide) (by decide) (by decide) v.1 r1
  have k1' : F_X9_copy G S (x + 194) (x + 1) = some ((), S1) := k1
  have f2 : fr (x + 192) (x + 193) S1 (pq_wi S1 (x + 192) 2 (1 : Int32)) := fr_wi (by omega) (by omega)
  have f1 : fr (x + 194) (x + 385) S S1 := fr_mo k2 (by omega) (by omega)
  have z0 := (f1 (x + 192) (by omega)).1
  have rc : rC (pq_wi S1 (x + 192) 2 (1 : Int32)) x (T, n, H, true, T, len, c) := by
    refine ⟨rS_fr f2 (by decide) v.1.1 (by have : sh_s x 0 = x + 1 := rfl; omega) (rS_fr f1 (by decide) v.1.1 (by have : sh_s x 0 = x + 1 := rfl; omega) r1), ?_, wi_s, fun _ => rS_fr f2 (by decide) v.1.1 (by omega) k3, rB_fr f2 (by omega) (rB_fr f1 (by omega) r5)⟩
    obtain ⟨n5, o, ho, e3, e4, rk⟩ := r2
    refine ⟨n5, o, ho, by rw [wi_k (by decide), z0]; exact e3, by rw [wi_k (by decide), z0]; exact e4, fun k hk => ⟨(rk k hk).1, ?_⟩⟩
    have hs := sh_2 (x := x) ((o + k) % 5)
    exact rS_fr f2 (by omega) (rk k hk).1.1 (by omega) (rS_fr f1 (by omega) (rk k hk).1.1 (by omega) (rk k hk).2)
  unfold F_X10_takeSnapshot
  rw [(sh_st h).1, (sh_st h).2.1, eh, pq_bd1 k1', pq_lt1, r0_cnt rc.1]
  exact ⟨_, rfl, fr_tr (fr_mo f1 (by omega) (by omega)) (fr_mo f2 (by omega) (by omega)), rc, ⟨v.1, v.2.1, v.2.2.1, fun _ => v.1, v.2.2.2.2⟩⟩
/-- restoreSnapshot -/
def s_rest (W : tW) : (Nat ⊕ Int32) × tW := if W.2.2.2.1 then (Sum.inr (nI W.2.2.2.2.1.cnt), (W.2.2.2.2.1, hn W.2.1, hH W.2.1 W.2.2.1 W.1, W.2.2.2)) else (Sum.inl 2, W)
theorem k_restoreSnapshot (h : sh_G G x) (v : vW (T, n, H, g, N, len, c)) (r : rC S x (T, n, H, g, N, len, c)) : cc_ x S (F_X10_restoreSnapshot G S x) (s_rest (T, n, H, g, N, len, c)).1 (s_rest (T, n, H, g, N, len, c)).2 := by
  have eh : pq_r G (x + 192) 1 = x + 194 := h.2.2.1.2.1
  unfold F_X10_restoreSnapshot
  rw [(sh_st h).1, (sh_st h).2.1, r.2.2.1, eh]
  by_cases c1 : g = true
  · have e : s_rest (T, n, H, g, N, len, c) = (Sum.inr (nI N.cnt), (N, hn n, hH n H T, g, N, len, c)) := if_pos c1
    have eg : bN g = 1 := by rw [c1]; rfl
    obtain ⟨S1, k1, k2, k3⟩ := c_saveW h v r
    obtain ⟨S2, g1, g2, g3⟩ := c_scopy h (i := 0) (i' := 1) (by decide) (by decide) (by decide) (v.2.2.2.1 c1) (k3.2.2.2.1 c1)
    have g1' : F_X9_copy G S1 (x + 1) (x + 194) = some ((), S2) := g1
    have s0' : sh_s x 0 = x + 1 := rfl
    rw [eg, if_neg (by decide), pq_bd1 k1, pq_bd1 g1', r0_cnt g3, e]
    exact ⟨S2, rfl, fr_tr (fr_mo k2 (by omega) (by omega)) (fr_mo g2 (by omega) (by omega)), rC_0 (fun b h1 h2 => g2 b (by omega)) (vW_save v v.1) k3 g3, vW_save v (v.2.2.2.1 c1)⟩
  · have e : s_rest (T, n, H, g, N, len, c) = (Sum.inl 2, (T, n, H, g, N, len, c)) := if_neg c1
    have eg : bN g = 0 := by
      have : g = false := by simpa using c1
      rw [this]; rfl
    rw [eg, if_pos (by decide), e]
    exact cc_i v r (S1 := S) rfl fr_rfl
/-- print -/
def prP (P : tP) (a day : Int32) : tP := mP a day P.wc P.qc P.w P.qs P.qb P.ql
def prT (T : tT) (P : tP) (a : Int32) : tT := mT (T.cnt + 1) T.day (fun k => if k = T.cnt then prP P a T.day else T.pm k)
def s_print (W : tW) (a : Int32) (k : Nat × tA) : (Nat ⊕ Int32) × tW := match dI 8 a with
  | none => (Sum.inl 1, W)
  | some _ => if wy W.1 W.2.2.2.2.2.1 k = 0 then (Sum.inr (nI W.1.cnt), (prT W.1 k.2.2.2.2 a, hn W.2.1, hH W.2.1 W.2.2.1 W.1, W.2.2.2.1, W.2.2.2.2.1, 0, W.2.2.2.2.2.2)) else (Sum.inl 2, W)
theorem wy_0 {k : Nat × tA} (h : wy T len k = 0) : T.cnt < 20 ∧ ac len k = true ∧ wyS T k.2.2.2.2 = false ∧ wyD T k.2.2.2.2 = false := by
  unfold wy at h
  by_cases c1 : 20 ≤ T.cnt
  · rw [if_pos c1] at h; cases h
  · rw [if_neg c1] at h
    by_cases c2 : ac len k = true
    · rw [if_pos c2] at h
      by_cases c3 : wyS T k.2.2.2.2 = true
      · rw [if_pos c3] at h; cases h
      · rw [if_neg c3] at h
        by_cases c4 : wyD T k.2.2.2.2 = true
        · rw [if_pos c4] at h; cases h
        · exact ⟨by omega, c2, by simpa using c3, by simpa using c4⟩
    · rw [if_neg c2] at h; cases h
theorem wy_le {k : Nat × tA} : wy T len k ≤ 4 := by
  unfold wy
  split
  · omega
  · split
    · split
      · omega
      · split <;> omega
    · omega
theorem tx_P {au pd : Int32} (hl : len ≤ 100) (hw : wy T len (tx c len au pd) = 0) : vP T.cnt (tx c len au pd).2.2.2.2 := by
  obtain ⟨h1, h2, h3, h4⟩ := wy_0 hw
  have hv := tx_v (c := c) (au := au) (pd := pd) hl
  obtain ⟨i, hk⟩ := tx_i (c := c) (len := len) (au := au) (pd := pd)
  generalize tx c len au pd = s at *
  obtain ⟨k, pl, lt, bg, P⟩ := s
  obtain ⟨vq0, i⟩ := i
  have h3' : (fi (fun q => !decide (P.qs q < T.cnt)) 0 P.qc) = none := by
    cases z : fi (fun q => !decide (P.qs q < T.cnt)) 0 P.qc with
    | none => rfl
    | some k =>
      have : wyS T P = true := by unfold wyS; rw [z]; rfl
      have h3'' : wyS T P = false := h3
      rw [this] at h3''; cases h3''
  have ha : (k == len && (pl == 2 || pl == 7 || pl == 8)) = true := h2
  have hpl : pl = 2 ∨ pl = 7 ∨ pl = 8 := by
    have := (Bool.and_eq_true _ _ ▸ ha).2
    simpa [or_assoc] using this
  have hw1 : 1 ≤ P.wc := by
    rcases i with ⟨rfl, _⟩ | ⟨rfl, z, _⟩ | ⟨rfl, _⟩ | ⟨rfl, _⟩ | ⟨rfl, _⟩ | ⟨rfl, _⟩ | ⟨rfl, z, _⟩ | ⟨rfl, z, _⟩
    · omega
    · exact z
    · omega
    · omega
    · omega
    · omega
    · have := vq0 0 (by omega); omega
    · have := vq0 0 (by omega); omega
  refine ⟨hw1, hv.2.2, hv.2.1, fun q hq => ?_⟩
  have kq := vq0 q hq
  have hs := fi_none h3' q (by omega) (by have : q < P.qc := hq; omega)
  exact ⟨by simpa using hs, kq.1, kq.2.1, kq.2.2.2⟩
theorem vT_pr {P : tP} (v : vT T) (hc : T.cnt < 20) (vp : vP T.cnt P) : vT (prT T P a) := by
  refine ⟨by show T.cnt + 1 ≤ 20; omega, fun j hj => ?_⟩
  have hj' : j < T.cnt + 1 := hj
  show vP j (if j = T.cnt then prP P a T.day else T.pm j)
  by_cases z : j = T.cnt
  · rw [if_pos z, z]; exact vp
  · rw [if_neg z]; exact v.2 j (by omega)
theorem k_print (h : sh_G G x) (v : vW (T, n, H, g, N, len, c)) (r : rC S x (T, n, H, g, N, len, c)) : ∃ au pd, cc_ x S (F_X10_print G S x a) (s_print (T, n, H, g, N, len, c) a (tx c len au pd)).1 (s_print (T, n, H, g, N, len, c) a (tx c len au pd)).2 := by
  have kk := sh_rd h
  obtain ⟨au, pd, S1, k1, k2, k3⟩ := c_why h v r
  refine ⟨au, pd, ?_⟩
  unfold F_X10_print s_print
  dsimp only
  cases d : dI 8 a with
  | none =>
    rw [pq_bd1 (na_none d).2, if_pos rfl]
    exact cc_i v r (S1 := S) rfl fr_rfl
  | some i =>
    dsimp only
    have hw4 := wy_le (T := T) (len := len) (k := tx c len au pd)
    rw [pq_bd1 (na_some d).2, if_neg (by decide), pq_bd1 k1, show (0 : Int32) = nI 0 from rfl, if_leI (by omega) (by omega), (sh_st h).1, (sh_st h).2.1, (sh_st h).2.2.1, (sh_st h).2.2.2.1, kk.1]
    by_cases c1 : wy T len (tx c len au pd) = 0
    · obtain ⟨h1, h2, h3, h4⟩ := wy_0 c1
      have vp := tx_P v.2.2.2.2.1 c1
      have rp1 := k3 h1
      generalize (tx c len au pd).2.2.2.2 = P at *
      have rc1 := rC_fr k2 v r
      obtain ⟨S2, g1, g2, g3⟩ := c_saveW h v rc1
      have rp2 : rP S2 (x + 1344) P := rP_fr g2 (by omega) rp1
      have hb := sh_p0 (x := x) h1
      have ep : sh_p x 0 T.cnt = x + 1 + 11 + 9 * T.cnt := rfl
      obtain ⟨S3, p1, p2, p3⟩ := c_pcopy h (S := S2) (P := P) (sh_pok (i := 0) (j := T.cnt) h (by decide) h1) kk.2.2.2 (by omega) vp.2.1 vp.2.2.1 rp2
      have z1 := (p2 (x + 1) (by omega)).1
      have ea : F_X9_add G S2 (x + 1) (x + 1344) a = some ((), pq_wi (pq_wi (pq_wi S3 (sh_p x 0 T.cnt) 4 a) (sh_p x 0 T.cnt) 5 T.day) (x + 1) 2 (nI (T.cnt + 1))) := by
        unfold F_X9_add
        rw [r0_cnt g3.1, pq_bd1 (f_sat0 h h1), pq_bd1 p1, pq_lt1, pq_lt1, pq_lt1, wi_a (show x + 1 ≠ sh_p x 0 T.cnt by omega), wi_a (show x + 1 ≠ sh_p x 0 T.cnt by omega), wi_a (show x + 1 ≠ sh_p x 0 T.cnt by omega), z1, r0_day g3.1, r0_cnt g3.1, nI_1]
      have e9 : (pq_wi (pq_wi (pq_wi (pq_wi S3 (sh_p x 0 T.cnt) 4 a) (sh_p x 0 T.cnt) 5 T.day) (x + 1) 2 (nI (T.cnt + 1))) (x + 1340) 1 (nI 0)).1 (x + 1) 2 = nI (T.cnt + 1) := by
        rw [wi_a (by omega), wi_s]
      rw [if_pos (by omega), if_pos c1, pq_bd1 g1, pq_bd1 ea, pq_lt1, e9, nI_sub1 (by omega)]
      have f3 : fr (x + 1) (x + 192) S2 (pq_wi (pq_wi (pq_wi S3 (sh_p x 0 T.cnt) 4 a) (sh_p x 0 T.cnt) 5 T.day) (x + 1) 2 (nI (T.cnt + 1))) := fr_tr (fr_mo p2 (by omega) (by omega)) (fr_tr (fr_wi (by omega) (by omega)) (fr_tr (fr_wi (by omega) (by omega)) (fr_wi (by omega) (by omega))))
      have f4 : fr (x + 1340) (x + 1341) (pq_wi (pq_wi (pq_wi S3 (sh_p x 0 T.cnt) 4 a) (sh_p x 0 T.cnt) 5 T.day) (x + 1) 2 (nI (T.cnt + 1))) (pq_wi (pq_wi (pq_wi (pq_wi S3 (sh_p x 0 T.cnt) 4 a) (sh_p x 0 T.cnt) 5 T.day) (x + 1) 2 (nI (T.cnt + 1))) (x + 1340) 1 (nI 0)) := fr_wi (by omega) (by omega)
      have vt' : vT (prT T P a) := vT_pr v.1 h1 vp
      have rs' : rS (pq_wi (pq_wi (pq_wi S3 (sh_p x 0 T.cnt) 4 a) (sh_p x 0 T.cnt) 5 T.day) (x + 1) 2 (nI (T.cnt + 1))) x 0 (prT T P a) := by
        refine ⟨wi_s, ?_, fun j hj => ?_⟩
        · show (pq_wi _ (x + 1) 2 _).1 (x + 1) 3 = T.day
          rw [wi_k (by decide), wi_a (by omega), wi_a (by omega), z1]
          exact r0_day g3.1
        · have hj' : j < T.cnt + 1 := hj
          show rP _ (sh_p x 0 j) (if j = T.cnt then prP P a T.day else T.pm j)
          by_cases z : j = T.cnt
          · rw [if_pos z, z]
            refine rP_fr (fr_wi (lo := x + 1) (hi := x + 2) (by omega) (by omega)) (by omega) ?_
            obtain ⟨t1, t2, t3, t4, t5, t6, t7, t8⟩ := p3
            exact ⟨by rw [wi_k (by decide), wi_s]; rfl, by rw [wi_s]; rfl, by rw [wi_k (by decide), wi_k (by decide)]; exact t3, by rw [wi_k (by decide), wi_k (by decide)]; exact t4, t5, t6, t7, t8⟩
          · rw [if_neg z]
            have epj : sh_p x 0 j = x + 1 + 11 + 9 * j := rfl
            have fp : fr (sh_p x 0 T.cnt) (sh_p x 0 T.cnt + 9) S2 (pq_wi (pq_wi S3 (sh_p x 0 T.cnt) 4 a) (sh_p x 0 T.cnt) 5 T.day) := fr_tr p2 (fr_tr (fr_wi (by omega) (by omega)) (fr_wi (by omega) (by omega)))
            exact rP_fr (fr_wi (lo := x + 1) (hi := x + 2) (by omega) (by omega)) (by omega) (rP_fr fp (by omega) (g3.1.2.2 j (by omega)))
      have vs := vW_save v vt'
      have rc2 := rC_0 (fun b h1 h2 => f3 b (by omega)) (vW_save v v.1) g3 rs'
      obtain ⟨u1, u2, u3, u4, u5⟩ := rc2
      have s1 : sh_s x 1 = x + 194 := rfl
      refine ⟨_, rfl, fr_tr (fr_mo k2 (by omega) (by omega)) (fr_tr (fr_mo g2 (by omega) (by omega)) (fr_tr (fr_mo f3 (by omega) (by omega)) (fr_mo f4 (by omega) (by omega)))), ⟨r0_fr f4 (by omega) vt' u1, rH_fr f4 (by omega) u2, by rw [(f4 (x + 192) (by omega)).1]; exact u3, fun z => rS_fr f4 (by decide) (v.2.2.2.1 z).1 (by omega) (u4 z), wi_s, fun j hj => absurd hj (Nat.not_lt_zero _)⟩, ⟨vs.1, vs.2.1, vs.2.2.1, vs.2.2.2.1, Nat.zero_le _, fun j hj => absurd hj (Nat.not_lt_zero _)⟩⟩
    · rw [if_neg (by omega), if_neg c1]
      exact cc_i v r rfl k2
end CH
