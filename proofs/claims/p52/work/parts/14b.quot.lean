/-! CHANGES: how many at least, and when none -/
section AZ
variable {q s : Nat → Int64}
theorem al_d_ge (a : Nat) : ∀ k i, k ≤ al_d q s a k i + i ∧ i ≤ al_d q s a k i + k
  | 0, i => ⟨Nat.zero_le _, Nat.le_refl _⟩
  | k + 1, 0 => by
    rw [al_d0]
    exact ⟨Nat.le_refl _, Nat.zero_le _⟩
  | k + 1, i + 1 => by
    have h1 := al_d_ge a k i
    have h2 := al_d_ge a k (i + 1)
    have h3 := al_d_ge a (k + 1) i
    rw [al_d_S]
    split <;> omega
theorem al_d_z (a : Nat) : ∀ k i, al_d q s a k i = 0 → k = i ∧ ∀ t, t < i → q t = s (a + t)
  | 0, i, h => by
    have h' : i = 0 := h
    subst h'
    exact ⟨rfl, fun t ht => absurd ht (Nat.not_lt_zero _)⟩
  | k + 1, 0, h => by
    rw [al_d0] at h
    omega
  | k + 1, i + 1, h => by
    rw [al_d_S] at h
    have h1 := al_d_z a k i
    by_cases c : (q i == s (a + k)) = true
    · rw [if_pos c] at h
      obtain ⟨rfl, g⟩ := h1 (by omega)
      refine ⟨rfl, fun t ht => ?_⟩
      rcases Nat.lt_or_ge t k with z | z
      · exact g t z
      · have : t = k := by omega
        subst this
        simpa using c
    · rw [if_neg c] at h
      omega
theorem al_d_same (a : Nat) : ∀ i, (∀ t, t < i → q t = s (a + t)) → al_d q s a i i = 0
  | 0, _ => rfl
  | i + 1, h => by
    have h1 := al_d_same a i (fun t ht => h t (by omega))
    have h2 : (q i == s (a + i)) = true := by simpa using h i (by omega)
    rw [al_d_S, if_pos h2]
    omega
end AZ
/-- what is told of a quotation's passage -/
theorem xx {T : tT} (v : vT T) {j q : Nat} (hj : j < T.cnt) (hq : q < (T.pm j).qc) : zL T j q ≤ zD T j q + (T.pm j).ql q ∧ (T.pm j).ql q ≤ zD T j q + zL T j q ∧ (zD T j q = 0 ↔ zL T j q = (T.pm j).ql q ∧ ∀ t, t < (T.pm j).ql q → (T.pm j).w ((T.pm j).qb q + t) = (T.pm (zs T j q)).w (zA T j q + t)) := by
  have h := vq v hj hq
  have b := (x_best (P := T.pm j) (Q := T.pm (zs T j q)) (q := q) h.2.2.2.2.1 h.2.2.2.2.2.2.1 h.2.2.2.2.2.2.2).1
  have e : al_d (fun i => (T.pm j).w ((T.pm j).qb q + i)) (T.pm (zs T j q)).w (zA T j q) (zL T j q) ((T.pm j).ql q) = zD T j q := b.2.2.1
  have g := al_d_ge (q := fun i => (T.pm j).w ((T.pm j).qb q + i)) (s := (T.pm (zs T j q)).w) (zA T j q) (zL T j q) ((T.pm j).ql q)
  rw [e] at g
  refine ⟨g.1, g.2, fun z => ?_, fun z => ?_⟩
  · rw [z] at e
    exact al_d_z _ _ _ e
  · rw [← e, z.1]
    exact al_d_same _ _ z.2
theorem zt_1 {T : tT} : ∀ {f j q : Nat}, 1 ≤ (zt T f j q).2
  | 0, _, _ => Nat.le_refl _
  | f + 1, j, q => by
    unfold zt
    split
    · exact Nat.le_refl _
    · exact Nat.succ_le_succ (Nat.zero_le _)
theorem zt_f {T : tT} (v : vT T) : ∀ {f j q : Nat}, j ≤ f → j < T.cnt → q < (T.pm j).qc → zt T (f + 1) j q = zt T f j q
  | 0, j, q, hf, hj, hq => by
    have := (vq v hj hq).2.2.2.1
    omega
  | f + 1, j, q, hf, hj, hq => by
    have h1 := (vq v hj hq).2.2.2.1
    show (match zp T j q with | none => (zs T j q, 1) | some q' => ((zt T (f + 1) (zs T j q) q').1, (zt T (f + 1) (zs T j q) q').2 + 1)) = (match zp T j q with | none => (zs T j q, 1) | some q' => ((zt T f (zs T j q) q').1, (zt T f (zs T j q) q').2 + 1))
    cases e : zp T j q with
    | none => rfl
    | some q' =>
      dsimp only
      rw [zt_f v (f := f) (j := zs T j q) (q := q') (by omega) (by omega) (zp_lt e)]
theorem zt_none {T : tT} {j q : Nat} (e : zp T j q = none) : zt T 20 j q = (zs T j q, 1) := by
  show (match zp T j q with | none => (zs T j q, 1) | some q' => ((zt T 19 (zs T j q) q').1, (zt T 19 (zs T j q) q').2 + 1)) = _
  rw [e]
theorem zt_some {T : tT} (v : vT T) {j q q' : Nat} (hj : j < T.cnt) (hq : q < (T.pm j).qc) (e : zp T j q = some q') : zt T 20 j q = ((zt T 20 (zs T j q) q').1, (zt T 20 (zs T j q) q').2 + 1) := by
  have h1 := vq v hj hq
  rw [zt_f v (f := 19) (j := zs T j q) (q := q') (by omega) (by omega) (zp_lt e)]
  show (match zp T j q with | none => (zs T j q, 1) | some q' => ((zt T 19 (zs T j q) q').1, (zt T 19 (zs T j q) q').2 + 1)) = _
  rw [e]
/-! what else holds of a state: days, authors, words. Digits of a word: five bits a letter -/
def dg (m i : Nat) : Nat := m / 32 ^ (6 - i) % 32
/-- a word of k letters -/
def wVk (m k : Nat) : Prop := m < 34359738368 ∧ 1 ≤ k ∧ k ≤ 7 ∧ (∀ i, i < k → 1 ≤ dg m i ∧ dg m i ≤ 26) ∧ ∀ i, k ≤ i → i < 7 → dg m i = 0
def wV (w : Int64) : Prop := ∃ m k, w = lN m ∧ wVk m k
def wT (b : Nat) (T : tT) : Prop := ∃ (d : Nat) (p : Nat → Nat), d ≤ b ∧ T.day = nI d ∧ ∀ j, j < T.cnt → (T.pm j).pd = nI (p j) ∧ p j ≤ d ∧ (∀ i, i ≤ j → p i ≤ p j) ∧ (∀ q, q < (T.pm j).qc → p (zs T j q) < p j) ∧ (∃ a, a < 8 ∧ (T.pm j).au = nI a) ∧ ∀ w, w < (T.pm j).wc → wV ((T.pm j).w w)
/-! a quotation, as the law looks at it -/
def sm (P Q : tP) (b a l m : Nat) : Nat → Bool
  | 0 => l == m
  | k + 1 => sm P Q b a l m k && decide (P.w (b + k) = Q.w (a + k))
theorem sm_f {P Q : tP} {b a l m : Nat} : ∀ {k k' : Nat}, k ≤ k' → sm P Q b a l m k = false → sm P Q b a l m k' = false
  | k, 0, h, e => by
    have : k = 0 := by omega
    subst this; exact e
  | k, k' + 1, h, e => by
    rcases Nat.lt_or_ge k (k' + 1) with z | z
    · have := sm_f (k := k) (k' := k') (by omega) e
      show (sm P Q b a l m k' && _) = false
      rw [this]; rfl
    · have : k = k' + 1 := by omega
      subst this; exact e
theorem sm_t {P Q : tP} {b a l m : Nat} : ∀ {k : Nat}, sm P Q b a l m k = true ↔ l = m ∧ ∀ t, t < k → P.w (b + t) = Q.w (a + t)
  | 0 => by
    show (l == m) = true ↔ _
    simp
  | k + 1 => by
    show (sm P Q b a l m k && decide (P.w (b + k) = Q.w (a + k))) = true ↔ _
    rw [Bool.and_eq_true, sm_t (k := k), decide_eq_true_eq]
    constructor
    · rintro ⟨⟨h1, h2⟩, h3⟩
      refine ⟨h1, fun t ht => ?_⟩
      rcases Nat.lt_or_ge t k with z | z
      · exact h2 t z
      · have : t = k := by omega
        subst this; exact h3
    · rintro ⟨h1, h2⟩
      exact ⟨⟨h1, fun t ht => h2 t (by omega)⟩, h2 k (by omega)⟩
theorem nI_b (b : Bool) : nI (bN b) = if b then (1 : Int32) else 0 := by cases b <;> rfl
section IQ
variable {G : pq_G} {x : Nat} {W : tW} {j q : Nat}
theorem iq_447 (h : sh_G G x) (v : vW W) {S : pq_N} (r : rC S x W) (hj : j < W.1.cnt) (hq : q < (W.1.pm j).qc) : ok x W (F_L_isQuotation_b447 G S x (nI j) (nI q) (nI ((W.1.pm j).ql q)) (nI (zD W.1 j q)) (nI (zt W.1 20 j q).2)) 1 := by
  have hT := vW_t v
  have g := vq hT hj hq
  have ho := zt_lt hT (f := 20) hj hq
  have vo := hT.2 (zt W.1 20 j q).1 (by omega)
  have hx := x_lt (P := W.1.pm j) (Q := W.1.pm (zt W.1 20 j q).1) (q := q) g.2.2.2.2.1 (by omega) vo.1 vo.2.1
  have hz := zt_1 (T := W.1) (f := 20) (j := j) (q := q)
  unfold F_L_isQuotation_b447
  refine ok_b (a_changesAtOrigin h v r hj hq) (fun S r => ?_)
  rw [if_neg (nI_nlt hx.2.2 (by omega))]
  by_cases c : (1 : Int32) < nI (zt W.1 20 j q).2
  · rw [if_pos c]; exact ok_r r
  · rw [if_neg c]
    refine ok_b (a_changesAtOrigin h v r hj hq) (fun S r => ?_)
    cases e : zp W.1 j q with
    | none =>
      have e2 : xd (W.1.pm j) (W.1.pm (zt W.1 20 j q).1) q = zD W.1 j q := by rw [zt_none e]; rfl
      rw [e2, if_pos rfl]; exact ok_r r
    | some q' =>
      exfalso
      apply c
      have hl := zt_lt hT (f := 20) hj hq
      rw [zt_some hT hj hq e]
      have := zt_1 (T := W.1) (f := 20) (j := zs W.1 j q) (q := q')
      have b2 : ∀ {f j q : Nat}, (zt W.1 f j q).2 ≤ f + 1 := fun {f} => by
        induction f with
        | zero => intro j q; exact Nat.le_refl _
        | succ f ih =>
          intro j q
          unfold zt
          split
          · exact Nat.succ_le_succ (Nat.zero_le _)
          · exact Nat.succ_le_succ ih
      have := b2 (f := 20) (j := zs W.1 j q) (q := q')
      show nI 1 < nI ((zt W.1 20 (zs W.1 j q) q').2 + 1)
      exact nI_lt (by omega) (by omega)
theorem iq_356 (h : sh_G G x) (v : vW W) {S : pq_N} (r : rC S x W) (hj : j < W.1.cnt) (hq : q < (W.1.pm j).qc) (t : Int32) : ok x W (F_L_isQuotation_b356 G S x (nI j) (nI q) (nI (zs W.1 j q)) (nI ((W.1.pm j).ql q)) (nI (zD W.1 j q)) (oI (zp W.1 j q)) (nI (zt W.1 20 j q).2) (nI (zt W.1 20 j q).1) t t) 1 := by
  have hT := vW_t v
  have h20 := hT.1
  have g := vq hT hj hq
  have ho := zt_lt hT (f := 20) hj hq
  have r447 := fun (S : pq_N) (r : rC S x W) => iq_447 (j := j) (q := q) h v r hj hq
  unfold F_L_isQuotation_b356
  rw [if_pos rfl]
  cases e : zp W.1 j q with
  | none =>
    have e2 := zt_none e
    have o : oI (none : Option Nat) = (-1 : Int32) := rfl
    rw [e2] at r447 ⊢
    rw [o]
    rw [if_pos (show nI 1 = (1 : Int32) from rfl), if_pos rfl]
    unfold F_L_isQuotation_b381
    rw [if_pos rfl, if_pos rfl, if_pos (show nI 1 = (1 : Int32) from rfl)]
    unfold F_L_isQuotation_b406
    rw [if_pos rfl, if_neg (nI_nlt (Nat.le_refl _) (by omega)), if_pos rfl]
    exact r447 S r
  | some q' =>
    have hq' := zp_lt e
    have e2 := zt_some hT hj hq e
    have e1 : (zt W.1 20 (zs W.1 j q) q').1 < zs W.1 j q := zt_lt hT (by omega) hq'
    have b2 : ∀ {f j q : Nat}, (zt W.1 f j q).2 ≤ f + 1 := fun {f} => by
      induction f with
      | zero => intro j q; exact Nat.le_refl _
      | succ f ih =>
        intro j q
        unfold zt
        split
        · exact Nat.succ_le_succ (Nat.zero_le _)
        · exact Nat.succ_le_succ ih
    have b3 := b2 (f := 20) (j := zs W.1 j q) (q := q')
    have b1 := zt_1 (T := W.1) (f := 20) (j := zs W.1 j q) (q := q')
    have vq' := (hT.2 (zs W.1 j q) (by omega)).2.2.1
    have o : oI (some q') = nI q' := rfl
    have nq : ¬ nI q' = (-1 : Int32) := nI_m1 (by omega)
    have nt : ¬ nI ((zt W.1 20 (zs W.1 j q) q').2 + 1) = (1 : Int32) := fun z => by
      have := (nI_eq (a := (zt W.1 20 (zs W.1 j q) q').2 + 1) (b := 1) (by omega) (by omega)).mp z
      omega
    have no : ¬ nI (zt W.1 20 (zs W.1 j q) q').1 = nI (zs W.1 j q) := fun z => by
      have := (nI_eq (by omega) (by omega)).mp z
      omega
    rw [e2] at r447 ⊢
    rw [o, if_neg nt, if_neg nq]
    unfold F_L_isQuotation_b381
    rw [if_pos rfl, if_neg no, if_neg nt]
    unfold F_L_isQuotation_b406
    rw [if_pos rfl, if_neg (nI_nlt (by omega) (by omega)), if_neg nq]
    refine ok_b (a_traceOf h v r (j := zs W.1 j q) (by omega) hq') (fun S r => ?_)
    rw [if_pos (nI_1 _).symm]
    refine ok_b (a_originOf h v r (j := zs W.1 j q) (by omega) hq') (fun S r => ?_)
    rw [if_pos rfl]
    exact r447 S r
theorem iq_214 (h : sh_G G x) (v : vW W) {S : pq_N} (r : rC S x W) (hj : j < W.1.cnt) (hq : q < (W.1.pm j).qc) : ok x W (F_L_isQuotation_b214 G S x (nI j) (nI q) (nI (zs W.1 j q)) (nI ((W.1.pm j).ql q)) (nI (zD W.1 j q)) (nI (zA W.1 j q)) (nI (zL W.1 j q)) (oI (zp W.1 j q)) (nI (zt W.1 20 j q).2) (nI (zt W.1 20 j q).1) (if zD W.1 j q = 0 then 1 else 0)) 1 := by
  have hT := vW_t v
  have h20 := hT.1
  have g := vq hT hj hq
  have gx := vx hT hj hq
  have g2 := xx hT hj hq
  have h60 := v60 hT (j := zs W.1 j q) (by omega)
  have k327 : ∀ (S : pq_N) (r : rC S x W), ok x W (F_L_isQuotation_b327 G S x (nI j) (nI q) (nI (zs W.1 j q)) (nI ((W.1.pm j).ql q)) (nI (zD W.1 j q)) (oI (zp W.1 j q)) (nI (zt W.1 20 j q).2) (nI (zt W.1 20 j q).1) (if zD W.1 j q = 0 then 1 else 0) 1 1 1) 1 := fun S r => by
    unfold F_L_isQuotation_b327
    rw [if_neg (by decide), if_neg (by decide), if_neg (by decide)]
    by_cases z : zD W.1 j q = 0
    · rw [if_pos (show nI (zD W.1 j q) = (0 : Int32) by rw [z]; rfl), if_pos z]
      exact iq_356 h v r hj hq 1
    · rw [if_neg (nI_ne0 (by omega) (by omega)), if_neg z]
      exact iq_356 h v r hj hq 0
  have k295 : ∀ (S : pq_N) (r : rC S x W), ok x W (F_L_isQuotation_b295 G S x (nI j) (nI q) (nI (zs W.1 j q)) (nI ((W.1.pm j).ql q)) (nI (zD W.1 j q)) (nI (zL W.1 j q)) (oI (zp W.1 j q)) (nI (zt W.1 20 j q).2) (nI (zt W.1 20 j q).1) (if zD W.1 j q = 0 then 1 else 0) 1 1) 1 := fun S r => by
    unfold F_L_isQuotation_b295
    by_cases z : (W.1.pm j).ql q ≤ zL W.1 j q
    · rw [if_pos (nI_le z (by omega)), nI_sub z, if_neg (nI_nlt (by omega) (by omega))]
      exact k327 S r
    · rw [if_neg (nI_ge (by omega) (by omega)), nI_sub (by omega), if_neg (nI_nlt (by omega) (by omega))]
      exact k327 S r
  have k260 : ∀ (S : pq_N) (r : rC S x W), ok x W (F_L_isQuotation_b260 G S x (nI j) (nI q) (nI (zs W.1 j q)) (nI ((W.1.pm j).ql q)) (nI (zD W.1 j q)) (nI (zA W.1 j q)) (nI (zL W.1 j q)) (oI (zp W.1 j q)) (nI (zt W.1 20 j q).2) (nI (zt W.1 20 j q).1) (if zD W.1 j q = 0 then 1 else 0) 1) 1 := fun S r => by
    unfold F_L_isQuotation_b260
    refine ok_b (a_pageOf h v r hj hq) (fun S r => ?_)
    rw [show (8 : Int32) = nI 8 from rfl, nI_div (by omega) (by omega), if_pos rfl]
    refine ok_b (a_pageOf h v r hj hq) (fun S r => ?_)
    refine ok_b (a_wordsOn h v r (j := zs W.1 j q) (k := zA W.1 j q / 8) (by omega) (by omega)) (fun S r => ?_)
    rw [if_neg (nI_nle (by omega) (by omega))]
    exact k295 S r
  unfold F_L_isQuotation_b214
  cases e : zp W.1 j q with
  | none =>
    have o : oI (none : Option Nat) = (-1 : Int32) := rfl
    rw [e] at k260
    rw [if_pos o]
    exact k260 S r
  | some q' =>
    have hq' := zp_lt e
    have vq' := (hT.2 (zs W.1 j q) (by omega)).2.2.1
    have nq : ¬ oI (some q') = (-1 : Int32) := nI_m1 (n := q') (by omega)
    have hin := (zp_in hT hj hq hq').mp e
    have hin2 := of_decide_eq_true hin
    have vv := (hT.2 (zs W.1 j q) (by omega)).2.2.2 q' hq'
    rw [e] at k260
    rw [if_neg nq]
    refine ok_b (a_beginOf h v r (j := zs W.1 j q) (by omega) hq') (fun S r => ?_)
    rw [if_neg (nI_nlt hin2.1 (by omega))]
    refine ok_b (a_beginOf h v r (j := zs W.1 j q) (by omega) hq') (fun S r => ?_)
    refine ok_b (a_lengthOf h v r (j := zs W.1 j q) (by omega) hq') (fun S r => ?_)
    rw [nI_add, nI_add, if_neg (nI_nlt hin2.2 (by omega))]
    exact k260 S r
theorem iq_loop (h : sh_G G x) (v : vW W) (hj : j < W.1.cnt) (hq : q < (W.1.pm j).qc) : ∀ (m k n : Nat) (S : pq_N), k + m = (W.1.pm j).ql q → m < n → rC S x W → ok x W (F_L_isQuotation_b178 G n S x (nI j) (nI q) (nI (zs W.1 j q)) (nI ((W.1.pm j).qb q)) (nI ((W.1.pm j).ql q)) (nI (zD W.1 j q)) (nI (zA W.1 j q)) (nI (zL W.1 j q)) (oI (zp W.1 j q)) (nI (zt W.1 20 j q).2) (nI (zt W.1 20 j q).1) (nI (bN (sm (W.1.pm j) (W.1.pm (zs W.1 j q)) ((W.1.pm j).qb q) (zA W.1 j q) (zL W.1 j q) ((W.1.pm j).ql q) k))) (nI k)) 1 := by
  have hT := vW_t v
  have h20 := hT.1
  have g := vq hT hj hq
  have gx := vx hT hj hq
  have g2 := xx hT hj hq
  have fin : ∀ (S : pq_N), rC S x W → ∀ b : Bool, (b = true ↔ zD W.1 j q = 0) → ok x W (F_L_isQuotation_b214 G S x (nI j) (nI q) (nI (zs W.1 j q)) (nI ((W.1.pm j).ql q)) (nI (zD W.1 j q)) (nI (zA W.1 j q)) (nI (zL W.1 j q)) (oI (zp W.1 j q)) (nI (zt W.1 20 j q).2) (nI (zt W.1 20 j q).1) (nI (bN b))) 1 := fun S r b hb => by
    have e : nI (bN b) = if zD W.1 j q = 0 then 1 else 0 := by
      rw [nI_b]
      by_cases z : zD W.1 j q = 0
      · rw [if_pos (hb.mpr z), if_pos z]
      · rw [if_neg (fun y => z (hb.mp y)), if_neg z]
    rw [e]
    exact iq_214 h v r hj hq
  have all : ∀ b : Bool, b = sm (W.1.pm j) (W.1.pm (zs W.1 j q)) ((W.1.pm j).qb q) (zA W.1 j q) (zL W.1 j q) ((W.1.pm j).ql q) ((W.1.pm j).ql q) → (b = true ↔ zD W.1 j q = 0) := fun b e => by
    rw [e, sm_t, g2.2.2]
  intro m
  induction m with
  | zero =>
    intro k n S hk hn r
    obtain ⟨n, rfl⟩ : ∃ k, n = k + 1 := ⟨n - 1, by omega⟩
    have ek : k = (W.1.pm j).ql q := by omega
    subst ek
    rw [F_L_isQuotation_b178.eq_2, if_pos (nI_le (Nat.le_refl _) (by omega))]
    exact fin S r _ (all _ rfl)
  | succ m ih =>
    intro k n S hk hn r
    obtain ⟨n, rfl⟩ : ∃ k, n = k + 1 := ⟨n - 1, by omega⟩
    rw [F_L_isQuotation_b178.eq_2, if_neg (nI_ge (by omega) (by omega))]
    cases c : sm (W.1.pm j) (W.1.pm (zs W.1 j q)) ((W.1.pm j).qb q) (zA W.1 j q) (zL W.1 j q) ((W.1.pm j).ql q) k with
    | false =>
      have c2 := sm_f (k' := (W.1.pm j).ql q) (by omega) c
      rw [if_pos (show nI (bN false) = (0 : Int32) from rfl)]
      exact fin S r false (all false c2.symm)
    | true =>
      have c2 := sm_t.mp c
      rw [if_neg (show ¬ nI (bN true) = (0 : Int32) by decide), nI_add, nI_add]
      refine ok_b (a_isSameWord h v r (j := j) (k := (W.1.pm j).qb q + k) (j' := zs W.1 j q) (k' := zA W.1 j q + k) hj (by omega) (by omega) (by omega)) (fun S r => ?_)
      rw [nI_1]
      have hs := ih (k + 1) n S (by omega) (by omega) r
      have e : nI (bN (sm (W.1.pm j) (W.1.pm (zs W.1 j q)) ((W.1.pm j).qb q) (zA W.1 j q) (zL W.1 j q) ((W.1.pm j).ql q) (k + 1))) = nI (if (W.1.pm j).w ((W.1.pm j).qb q + k) = (W.1.pm (zs W.1 j q)).w (zA W.1 j q + k) then 1 else 0) := by
        show nI (bN (sm _ _ _ _ _ _ k && decide ((W.1.pm j).w ((W.1.pm j).qb q + k) = (W.1.pm (zs W.1 j q)).w (zA W.1 j q + k)))) = _
        rw [c]
        by_cases z : (W.1.pm j).w ((W.1.pm j).qb q + k) = (W.1.pm (zs W.1 j q)).w (zA W.1 j q + k)
        · rw [if_pos z, decide_eq_true z]; rfl
        · rw [if_neg z, decide_eq_false z]; rfl
      rw [e] at hs
      exact hs
theorem l_isQuotation (h : sh_G G x) (v : vW W) {b : Nat} (hb : b ≤ 1000000) (t : wT b W.1) {S : pq_N} (r : rC S x W) (hj : j < W.1.cnt) (hq : q < (W.1.pm j).qc) : ok x W (F_L_isQuotation G S x (nI j) (nI q)) 1 := by
  have hT := vW_t v
  have h20 := hT.1
  have g := vq hT hj hq
  have gx := vx hT hj hq
  have h60 := v60 hT (j := zs W.1 j q) (by omega)
  obtain ⟨d, p, hd, ed, hp⟩ := t
  have pj := hp j hj
  have pz := hp (zs W.1 j q) (by omega)
  have lt := pj.2.2.2.1 q hq
  unfold F_L_isQuotation
  refine ok_b (a_sourceOf h v r hj hq) (fun S r => ?_)
  refine ok_b (a_beginOf h v r hj hq) (fun S r => ?_)
  refine ok_b (a_lengthOf h v r hj hq) (fun S r => ?_)
  refine ok_b (a_changesByTable h v r hj hq) (fun S r => ?_)
  refine ok_b (a_passageOf h v r hj hq) (fun S r => ?_)
  refine ok_b (a_passageLength h v r hj hq) (fun S r => ?_)
  refine ok_b (a_comesFrom h v r hj hq) (fun S r => ?_)
  refine ok_b (a_traceOf h v r hj hq) (fun S r => ?_)
  refine ok_b (a_originOf h v r hj hq) (fun S r => ?_)
  rw [if_neg (nI_pos (by omega)), if_neg (nI_ge (by omega) (by omega))]
  refine ok_b (a_dayOf h v r (j := zs W.1 j q) (by omega)) (fun S r => ?_)
  refine ok_b (a_dayOf h v r hj) (fun S r => ?_)
  rw [pj.1, pz.1, if_neg (nI_ge (by omega) (by omega)), if_neg (show ¬ nI ((W.1.pm j).ql q) < (1 : Int32) from nI_nlt (b := 1) (by omega) (by omega))]
  refine ok_b (a_wordsOf h v r hj) (fun S r => ?_)
  rw [nI_add, if_neg (nI_nlt (by omega) (by omega)), if_neg (nI_pos (by omega)), if_neg (show ¬ nI (zL W.1 j q) < (1 : Int32) from nI_nlt (b := 1) (by omega) (by omega))]
  refine ok_b (a_wordsOf h v r (j := zs W.1 j q) (by omega)) (fun S r => ?_)
  rw [nI_add, if_neg (nI_nlt (by omega) (by omega))]
  refine ok_b (a_changesByPassages h v r hj hq) (fun S r => ?_)
  rw [if_pos rfl, if_neg (nI_pos (by omega)), if_pos (nI_le (by omega) (by omega))]
  have lp := iq_loop h v hj hq ((W.1.pm j).ql q) 0 pq_fuel S (by omega) (fuel_lt (by omega)) r
  by_cases c : zL W.1 j q = (W.1.pm j).ql q
  · rw [if_pos (by rw [c])]
    have e : sm (W.1.pm j) (W.1.pm (zs W.1 j q)) ((W.1.pm j).qb q) (zA W.1 j q) (zL W.1 j q) ((W.1.pm j).ql q) 0 = true := by
      show (_ == _) = true
      simpa using c
    rw [e] at lp
    exact lp
  · rw [if_neg (fun z => c ((nI_eq (by omega) (by omega)).mp z))]
    have e : sm (W.1.pm j) (W.1.pm (zs W.1 j q)) ((W.1.pm j).qb q) (zA W.1 j q) (zL W.1 j q) ((W.1.pm j).ql q) 0 = false := by
      show (_ == _) = false
      simpa using c
    rw [e] at lp
    exact lp
end IQ
