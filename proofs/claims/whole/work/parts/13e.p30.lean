/-! A CALL of the law: class and reference answer alike -/
def inv (x : Nat) (S : pq_N) (W : tW) : Prop := rC S x W ∧ vW W ∧ rD S x W
theorem rC_fr2 {lo hi : Nat} {S S1 : pq_N} {x : Nat} {W : tW} (hlo : x + 1365 ≤ lo) (f : fr lo hi S S1) (v : vW W) (r : rC S x W) : rC S1 x W := by
  obtain ⟨T, n, H, g, N, len, c⟩ := W
  obtain ⟨r1, r2, r3, r4, r5⟩ := r
  have s1 : sh_s x 1 = x + 194 := rfl
  exact ⟨r0_fr f (by omega) v.1 r1, rH_fr f (by omega) r2, by rw [(f (x + 192) (by omega)).1]; exact r3, fun z => rS_fr f (by decide) (v.2.2.2.1 z).1 (by omega) (r4 z), rB_fr f (by omega) r5⟩
theorem rD_fr {lo hi : Nat} {S S1 : pq_N} {x : Nat} {W : tW} (h : hi ≤ x + 1365 ∨ x + 1376 ≤ lo) (f : fr lo hi S S1) (r : rD S x W) : rD S1 x W := by
  obtain ⟨T, n, H, g, N, len, c⟩ := W
  obtain ⟨r1, r2, r3, r4, r5, r6, r7⟩ := r
  have e5 := (f (x + 1365) (by omega)).1
  have e6 := (f (x + 1366) (by omega)).1
  have e7 := (f (x + 1367) (by omega)).2
  have e8 := (f (x + 1368) (by omega)).1
  have e9 := (f (x + 1369) (by omega)).2
  have e0 := (f (x + 1370) (by omega)).1
  refine ⟨by rw [e6, e7]; exact r1, by rw [e5]; exact r2, by rw [e8, e9]; exact r3, by rw [e5]; exact r4, by rw [e8, e9]; exact r5, by rw [e5]; exact r6, by rw [e0]; exact r7⟩
/-- what the class's part of a call leaves: k: the number of what was thrown -/
def okW (e : Nat → Nat) (R : Nat ⊕ Int32) (q : Int32 → Int64) (k : Int32) (o : Int64) : Prop := match R with
  | Sum.inl z => k = nI (e z)
  | Sum.inr w => k = 0 ∧ o = q w
def wS (x : Nat) (F : Option (Int32 × pq_N)) (e : Nat → Nat) (R : Nat ⊕ Int32) (q : Int32 → Int64) (W0 W : tW) : Prop := ∃ k S2, F = some (k, S2) ∧ rC S2 x W ∧ vW W ∧ rD S2 x W0 ∧ okW e R q k (S2.2 (x + 1376) 0)
def bL (w : Int32) : Int64 := if w = 0 then 0 else 1
section CK
variable {G : pq_G} {x : Nat} {S S2 : pq_N} {W W0 : tW} {R : Nat ⊕ Int32} {e : Nat → Nat}
theorem w_gen {F : Option ((Nat ⊕ Int32) × pq_N)} {gg : Nat → pq_N → Option (Int32 × pq_N)} (ho : pq_n G (x + 1376) = 1) (rd : rD S x W0) (hc : cc_ x S F R W) (hg : ∀ z, R = Sum.inl z → ∀ U, gg z U = some (nI (e z), U)) : wS x (pq_bh F gg (fun v11 S12 => (if (0 : Int32) < 0 ∨ pq_n G (x + 1376) ≤ (Int32.toNatClampNeg (0 : Int32)) then none else (pq_lt (pq_wj S12 (x + 1376) (Int32.toNatClampNeg (0 : Int32)) (Int32.toInt64 v11)) fun S18 => some ((0 : Int32), S18))))) e R Int32.toInt64 W0 W := by
  obtain ⟨S1, h1, h2, h3, h4⟩ := hc
  have r1 := rD_fr (Or.inl (Nat.le_refl _)) h2 rd
  cases R with
  | inl z =>
    refine ⟨nI (e z), S1, ?_, h3, h4, r1, rfl⟩
    rw [h1]
    exact hg z rfl S1
  | inr w =>
    have f : fr (x + 1376) (x + 1377) S1 (pq_wj S1 (x + 1376) 0 (Int32.toInt64 w)) := fr_wj (Nat.le_refl _) (by omega)
    refine ⟨0, pq_wj S1 (x + 1376) 0 (Int32.toInt64 w), ?_, rC_fr2 (by omega) f h4 h3, h4, rD_fr (Or.inr (Nat.le_refl _)) f r1, rfl, wj_s⟩
    rw [h1, ho]
    show (if (0 : Int32) < 0 ∨ 1 ≤ Int32.toNatClampNeg (0 : Int32) then none else some ((0 : Int32), pq_wj S1 (x + 1376) (Int32.toNatClampNeg (0 : Int32)) (Int32.toInt64 w))) = _
    rw [if_neg (by decide)]
    rfl
theorem w_genB {F : Option ((Nat ⊕ Int32) × pq_N)} {gg : Nat → pq_N → Option (Int32 × pq_N)} (ho : pq_n G (x + 1376) = 1) (rd : rD S x W0) (hc : cc_ x S F R W) (hg : ∀ z, R = Sum.inl z → ∀ U, gg z U = some (nI (e z), U)) : wS x (pq_bh F gg (fun v11 S12 => (if v11 = (0 : Int32) then (if (0 : Int32) < 0 ∨ pq_n G (x + 1376) ≤ (Int32.toNatClampNeg (0 : Int32)) then none else (pq_lt (pq_wj S12 (x + 1376) (Int32.toNatClampNeg (0 : Int32)) (0 : Int64)) fun S19 => some ((0 : Int32), S19))) else (if (0 : Int32) < 0 ∨ pq_n G (x + 1376) ≤ (Int32.toNatClampNeg (0 : Int32)) then none else (pq_lt (pq_wj S12 (x + 1376) (Int32.toNatClampNeg (0 : Int32)) (1 : Int64)) fun S22 => some ((0 : Int32), S22)))))) e R bL W0 W := by
  obtain ⟨S1, h1, h2, h3, h4⟩ := hc
  have r1 := rD_fr (Or.inl (Nat.le_refl _)) h2 rd
  cases R with
  | inl z =>
    refine ⟨nI (e z), S1, ?_, h3, h4, r1, rfl⟩
    rw [h1]
    exact hg z rfl S1
  | inr w =>
    have f : fr (x + 1376) (x + 1377) S1 (pq_wj S1 (x + 1376) 0 (bL w)) := fr_wj (Nat.le_refl _) (by omega)
    refine ⟨0, pq_wj S1 (x + 1376) 0 (bL w), ?_, rC_fr2 (by omega) f h4 h3, h4, rD_fr (Or.inr (Nat.le_refl _)) f r1, rfl, wj_s⟩
    rw [h1, ho]
    show (if w = (0 : Int32) then (if (0 : Int32) < 0 ∨ 1 ≤ Int32.toNatClampNeg (0 : Int32) then none else some ((0 : Int32), pq_wj S1 (x + 1376) (Int32.toNatClampNeg (0 : Int32)) (0 : Int64))) else (if (0 : Int32) < 0 ∨ 1 ≤ Int32.toNatClampNeg (0 : Int32) then none else some ((0 : Int32), pq_wj S1 (x + 1376) (Int32.toNatClampNeg (0 : Int32)) (1 : Int64)))) = _
    unfold bL
    by_cases c : w = 0
    · rw [if_pos c, if_pos c, if_neg (by decide)]; rfl
    · rw [if_neg c, if_neg c, if_neg (by decide)]; rfl
theorem inv_of {Sf : pq_N} (hC : rC S2 x W) (hv : vW W) (f : fr (x + 1365) (x + 1376) S2 Sf) (rd : rD Sf x W) : inv x Sf W := ⟨rC_fr2 (Nat.le_refl _) f hv hC, hv, rd⟩
theorem ck_tail {F : Option (Int32 × pq_N)} {k : Int32} (ho : pq_n G (x + 1376) = 1) (hk : okW e R Int32.toInt64 k (S2.2 (x + 1376) 0)) (hC : rC S2 x W) (hv : vW W) (he : ∀ z, R = Sum.inl z → 0 < e z ∧ e z < 100) (hm : mR x S2 F e R W) : ∃ Sf, (pq_bd F fun u S17 => (pq_bd (F_X11_thrown G S17 (x + 1365)) fun t S20 => (if t = k then (if k = (0 : Int32) then (if (0 : Int32) < 0 ∨ pq_n G (x + 1376) ≤ (Int32.toNatClampNeg (0 : Int32)) then none else (if (lg_cmp (S20.2 (x + 1376) (Int32.toNatClampNeg (0 : Int32))) (Int32.toInt64 u)) = (0 : Int32) then some S20 else none)) else some S20) else none))) = some Sf ∧ inv x Sf W := by
  obtain ⟨u, S1, m1, m2, m3, m4⟩ := hm
  refine ⟨S1, ?_, inv_of hC hv m2 m3⟩
  have et : F_X11_thrown G S1 (x + 1365) = some (S1.1 (x + 1365) 8, S1) := rfl
  rw [pq_bd1 m1, pq_bd1 et]
  cases R with
  | inl z =>
    have hk' : k = nI (e z) := hk
    have m4' : S1.1 (x + 1365) 8 = nI (e z) := m4
    have hz := he z rfl
    rw [hk', m4', if_pos rfl, if_neg (nI_ne0 hz.1 (by omega))]
  | inr w =>
    have hk' : k = 0 ∧ S2.2 (x + 1376) 0 = Int32.toInt64 w := hk
    have m4' : u = w ∧ S1.1 (x + 1365) 8 = (0 : Int32) := m4
    have eo : S1.2 (x + 1376) (Int32.toNatClampNeg (0 : Int32)) = Int32.toInt64 w := by
      rw [(m2 (x + 1376) (by omega)).2]; exact hk'.2
    rw [hk'.1, m4'.2, if_pos rfl, if_pos rfl, ho, if_neg (by decide), eo, m4'.1, if_pos ((lg_cmp0 _ _).mpr rfl)]
theorem ck_tailB {F : Option (Int32 × pq_N)} {k : Int32} (ho : pq_n G (x + 1376) = 1) (hk : okW e R bL k (S2.2 (x + 1376) 0)) (hC : rC S2 x W) (hv : vW W) (he : ∀ z, R = Sum.inl z → 0 < e z ∧ e z < 100) (hm : mR x S2 F e R W) : ∃ Sf, (pq_bd F fun u S17 => (pq_bd (F_X11_thrown G S17 (x + 1365)) fun t S20 => (if t = k then (if k = (0 : Int32) then (if (0 : Int32) < 0 ∨ pq_n G (x + 1376) ≤ (Int32.toNatClampNeg (0 : Int32)) then none else (if u = (0 : Int32) then (if (lg_cmp (S20.2 (x + 1376) (Int32.toNatClampNeg (0 : Int32))) (0 : Int64)) = (0 : Int32) then some S20 else none) else (if (lg_cmp (S20.2 (x + 1376) (Int32.toNatClampNeg (0 : Int32))) (1 : Int64)) = (0 : Int32) then some S20 else none))) else some S20) else none))) = some Sf ∧ inv x Sf W := by
  obtain ⟨u, S1, m1, m2, m3, m4⟩ := hm
  refine ⟨S1, ?_, inv_of hC hv m2 m3⟩
  have et : F_X11_thrown G S1 (x + 1365) = some (S1.1 (x + 1365) 8, S1) := rfl
  rw [pq_bd1 m1, pq_bd1 et]
  cases R with
  | inl z =>
    have hk' : k = nI (e z) := hk
    have m4' : S1.1 (x + 1365) 8 = nI (e z) := m4
    have hz := he z rfl
    rw [hk', m4', if_pos rfl, if_neg (nI_ne0 hz.1 (by omega))]
  | inr w =>
    have hk' : k = 0 ∧ S2.2 (x + 1376) 0 = bL w := hk
    have m4' : u = w ∧ S1.1 (x + 1365) 8 = (0 : Int32) := m4
    have eo : S1.2 (x + 1376) (Int32.toNatClampNeg (0 : Int32)) = bL w := by
      rw [(m2 (x + 1376) (by omega)).2]; exact hk'.2
    rw [hk'.1, m4'.2, if_pos rfl, if_pos rfl, ho, if_neg (by decide), eo, m4'.1]
    unfold bL
    by_cases c : w = 0
    · rw [if_pos c, if_pos c, if_pos ((lg_cmp0 _ _).mpr rfl)]
    · rw [if_neg c, if_neg c, if_pos ((lg_cmp0 _ _).mpr rfl)]
theorem ci_gen {F : Option (Int32 × pq_N)} {Fr : pq_N → Option (Int32 × pq_N)} {u : Int32} (rd : rD S x W0) (hc : cc_ x S F u W) (hm : ∀ S1, rD S1 x W0 → mI x S1 (Fr S1) u W) : ∃ Sf, (pq_bd F fun v11 S12 => (pq_bd (Fr S12) fun v14 S15 => (if v11 = v14 then some S15 else none))) = some Sf ∧ inv x Sf W := by
  obtain ⟨S1, h1, h2, h3, h4⟩ := hc
  obtain ⟨Sf, m1, m2, m3⟩ := hm S1 (rD_fr (Or.inl (Nat.le_refl _)) h2 rd)
  refine ⟨Sf, ?_, inv_of h3 h4 m2 m3⟩
  rw [pq_bd1 h1, pq_bd1 m1, if_pos rfl]
theorem zsh_b {T : tT} (v : vT T) : nnB (zsh T).toNat := by
  unfold zsh
  by_cases c : zfa T = 0
  · rw [if_pos c]
    exact ⟨by decide +kernel, by decide +kernel⟩
  · rw [if_neg c]
    have hb : zfa T ≤ 16 * T.cnt := su_le (fun i hi => v16 v hi)
    have h20 := v.1
    exact ddiv_b (by have := zfg_le v; omega) (by omega) c
theorem zsh_c {T : tT} (v : vT T) : Op.cmpValue (FP.dcmp (zsh T) (zsh T)) .l = (0 : Int32) := by
  rw [dcmp_s (zsh_b v)]; rfl
/-! what can be thrown -/
section TH
variable {T : tT} {f : Nat → Int32} {f2 : Nat → Nat → Int32} {a b a3 a4 : Int32} {z : Nat} {k : Nat × tA}
theorem th_q1 (h : q1 T f a = Sum.inl z) : z = 3 := by
  unfold q1 at h
  (repeat' split at h) <;> simp at h <;> omega
theorem th_q2 (h : q2 T f2 a b = Sum.inl z) : z = 3 := by
  unfold q2 at h
  (repeat' split at h) <;> simp at h <;> omega
theorem th_on (h : q_on T a b = Sum.inl z) : z = 3 := by
  unfold q_on at h
  (repeat' split at h) <;> simp at h <;> omega
theorem th_let (h : q_let T a b a3 = Sum.inl z) : z = 3 := by
  unfold q_let at h
  (repeat' split at h) <;> simp at h <;> omega
theorem th_same (h : q_same T a b a3 a4 = Sum.inl z) : z = 3 := by
  unfold q_same at h
  (repeat' split at h) <;> simp at h <;> omega
theorem th_bl (h : q_bl T a = Sum.inl z) : z = 3 := by
  unfold q_bl at h
  (repeat' split at h) <;> simp at h <;> omega
theorem th_wr (h : q_wr T a b = Sum.inl z) : z = 3 := by
  unfold q_wr at h
  (repeat' split at h) <;> simp at h <;> omega
theorem th_ans (h : q_ans T a b = Sum.inl z) : z = 3 := by
  unfold q_ans at h
  (repeat' split at h) <;> simp at h <;> omega
theorem th_rd (h : q_rd T a b = Sum.inl z) : z = 3 := by
  unfold q_rd at h
  (repeat' split at h) <;> simp at h <;> omega
theorem th_tm (h : q_tm T a = Sum.inl z) : z = 3 := by
  unfold q_tm at h
  (repeat' split at h) <;> simp at h <;> omega
theorem th_gl (h : q_gl T a b = Sum.inl z) : z = 3 := by
  unfold q_gl at h
  (repeat' split at h) <;> simp at h <;> omega
theorem th_pass (h : (s_pass W a).1 = Sum.inl z) : z = 1 := by
  unfold s_pass at h
  (repeat' split at h) <;> simp at h <;> omega
theorem th_wd (h : (s_wd W).1 = Sum.inl z) : z = 2 := by
  unfold s_wd at h
  (repeat' split at h) <;> simp at h <;> omega
theorem th_undo (h : (s_undo W).1 = Sum.inl z) : z = 2 := by
  unfold s_undo at h
  (repeat' split at h) <;> simp at h <;> omega
theorem th_rest (h : (s_rest W).1 = Sum.inl z) : z = 2 := by
  unfold s_rest at h
  (repeat' split at h) <;> simp at h <;> omega
theorem th_mend (h : (s_mend W a b).1 = Sum.inl z) : z = 3 ∨ z = 2 := by
  unfold s_mend at h
  (repeat' split at h) <;> simp at h <;> omega
theorem th_app (h : (s_app W a).1 = Sum.inl z) : z = 1 ∨ z = 2 := by
  unfold s_app at h
  (repeat' split at h) <;> simp at h <;> omega
theorem th_print (h : (s_print W a k).1 = Sum.inl z) : z = 1 ∨ z = 2 := by
  unfold s_print at h
  (repeat' split at h) <;> simp at h <;> omega
end TH
theorem e1_b {z : Nat} : 0 < e_1 z ∧ e_1 z < 100 := ⟨Nat.one_pos, by show 1 < 100; omega⟩
theorem e3_b {z : Nat} (h : z = 1 ∨ z = 2 ∨ z = 3) : 0 < e_3 z ∧ e_3 z < 100 := by
  unfold e_3
  rcases h with rfl | rfl | rfl <;> decide
theorem g_3 {z : Nat} (h : z = 3) (U : pq_N) : (if z = 3 then some ((1 : Int32), U) else none) = some (nI (e_1 z), U) := by rw [if_pos h]; rfl
theorem g_2 {z : Nat} (h : z = 2) (U : pq_N) : (if z = 2 then some ((1 : Int32), U) else none) = some (nI (e_1 z), U) := by rw [if_pos h]; rfl
theorem g_1 {z : Nat} (h : z = 1) (U : pq_N) : (if z = 1 then some ((1 : Int32), U) else none) = some (nI (e_1 z), U) := by rw [if_pos h]; rfl
theorem g_12 {z : Nat} (h : z = 1 ∨ z = 2) (U : pq_N) : (if z = 1 then some ((1 : Int32), U) else (if z = 2 then some ((2 : Int32), U) else none)) = some (nI (e_3 z), U) := by
  rcases h with rfl | rfl <;> rfl
theorem g_32 {z : Nat} (h : z = 3 ∨ z = 2) (U : pq_N) : (if z = 3 then some ((1 : Int32), U) else (if z = 2 then some ((2 : Int32), U) else none)) = some (nI (e_3 z), U) := by
  rcases h with rfl | rfl <;> rfl
end CK
