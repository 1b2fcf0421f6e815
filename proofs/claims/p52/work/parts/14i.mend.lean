/-! MENDING: what it leaves -/
theorem al_d_cg {q q' s : Nat → Int64} {a : Nat} : ∀ {k i : Nat}, (∀ t, t < i → q t = q' t) → al_d q s a k i = al_d q' s a k i
  | 0, i, _ => rfl
  | k + 1, 0, _ => by rw [al_d0, al_d0]
  | k + 1, i + 1, h => by
    rw [al_d_S, al_d_S, al_d_cg (k := k) (i := i) (fun t ht => h t (by omega)), al_d_cg (k := k) (i := i + 1) h, al_d_cg (k := k + 1) (i := i) (fun t ht => h t (by omega)), h i (by omega)]
theorem xd_cg {P P' Q : tP} {q q' : Nat} (h1 : 1 ≤ P.ql q) (hl : P'.ql q' = P.ql q) (h2 : 1 ≤ Q.wc) (h3 : Q.wc ≤ 60) (hw : ∀ t, t < P.ql q → P.w (P.qb q + t) = P'.w (P'.qb q' + t)) : xd P' Q q' = xd P Q q := by
  have b := (x_best (P := P) (Q := Q) (q := q) h1 h2 h3).1
  have b' := (x_best (P := P') (Q := Q) (q := q') (by omega) h2 h3).1
  rw [hl] at b'
  have cg : ∀ a k, al_d (fun i => P.w (P.qb q + i)) Q.w a k (P.ql q) = al_d (fun i => P'.w (P'.qb q' + i)) Q.w a k (P.ql q) := fun a k => al_d_cg hw
  have c : al_best (fun i => P.w (P.qb q + i)) Q.w (P.ql q) Q.wc (xd P' Q q') (xa P' Q q') (xl P' Q q') := by
    obtain ⟨g1, g2, g3, g4⟩ := b'
    refine ⟨g1, g2, ?_, fun a' l' u1 u2 => ?_⟩
    · rw [cg]; exact g3
    · rw [cg]; exact g4 a' l' u1 u2
  exact (al_best_one c b).1
section MD
variable {T : tT} {j q : Nat}
theorem md_o {k : Nat} (h : ¬ k = j) : (mdT T j q).pm k = T.pm k := if_neg h
theorem md_s : (mdT T j q).pm j = mdP (T.pm j) q (T.pm (zs T j q)) (zA T j q) (zL T j q) := if_pos rfl
theorem md_zs {k i : Nat} : zs (mdT T j q) k i = zs T k i := by
  unfold zs
  by_cases c : k = j
  · subst c
    rw [md_s]; rfl
  · rw [md_o c]
theorem md_qc {k : Nat} : ((mdT T j q).pm k).qc = (T.pm k).qc := by
  by_cases c : k = j
  · subst c
    rw [md_s]; rfl
  · rw [md_o c]
theorem md_zD_i (v : vT T) (hj : j < T.cnt) (hq : q < (T.pm j).qc) {i : Nat} (hi : i < (T.pm j).qc) (hne : ¬ i = q) : zD (mdT T j q) j i = zD T j i := by
  have g := vq v hj hq
  have gi := vq v hj hi
  have gx := vx v hj hq
  have vj := v.2 j hj
  have vq' := (vj.2.2.2 q hq).2.2.2 i
  have vi' := (vj.2.2.2 i hi).2.2.2 q
  have zi : zs T j i = (T.pm j).qs i := rfl
  unfold zD
  rw [md_zs, md_o (k := zs T j i) (by omega), md_s]
  refine xd_cg gi.2.2.2.2.1 ?_ gi.2.2.2.2.2.2.1 gi.2.2.2.2.2.2.2 (fun t ht => ?_)
  · show (if i = q then zL T j q else (T.pm j).ql i) = _
    rw [if_neg hne]
  · show _ = (if (if q < i then (T.pm j).qb i + zL T j q - (T.pm j).ql q else (T.pm j).qb i) + t < (T.pm j).qb q then (T.pm j).w ((if q < i then (T.pm j).qb i + zL T j q - (T.pm j).ql q else (T.pm j).qb i) + t) else if (if q < i then (T.pm j).qb i + zL T j q - (T.pm j).ql q else (T.pm j).qb i) + t < (T.pm j).qb q + zL T j q then (T.pm (zs T j q)).w (zA T j q + ((if q < i then (T.pm j).qb i + zL T j q - (T.pm j).ql q else (T.pm j).qb i) + t - (T.pm j).qb q)) else (T.pm j).w ((if q < i then (T.pm j).qb i + zL T j q - (T.pm j).ql q else (T.pm j).qb i) + t + (T.pm j).ql q - zL T j q))
    by_cases c : q < i
    · have := vq' c hi
      rw [if_pos c, if_neg (by omega), if_neg (by omega)]
      congr 1
      omega
    · have := vi' (by omega) hq
      rw [if_neg c, if_pos (by omega)]
theorem md_zD_q (v : vT T) (hj : j < T.cnt) (hq : q < (T.pm j).qc) : zD (mdT T j q) j q = 0 := by
  have g := vq v hj hq
  have gx := vx v hj hq
  unfold zD
  rw [md_zs, md_o (k := zs T j q) (by omega), md_s]
  have el : (mdP (T.pm j) q (T.pm (zs T j q)) (zA T j q) (zL T j q)).ql q = zL T j q := if_pos rfl
  have eb : (mdP (T.pm j) q (T.pm (zs T j q)) (zA T j q) (zL T j q)).qb q = (T.pm j).qb q := if_neg (Nat.lt_irrefl _)
  have ew : ∀ t, t < zL T j q → (mdP (T.pm j) q (T.pm (zs T j q)) (zA T j q) (zL T j q)).w ((T.pm j).qb q + t) = (T.pm (zs T j q)).w (zA T j q + t) := fun t ht => by
    show (if (T.pm j).qb q + t < (T.pm j).qb q then (T.pm j).w ((T.pm j).qb q + t) else if (T.pm j).qb q + t < (T.pm j).qb q + zL T j q then (T.pm (zs T j q)).w (zA T j q + ((T.pm j).qb q + t - (T.pm j).qb q)) else (T.pm j).w ((T.pm j).qb q + t + (T.pm j).ql q - zL T j q)) = _
    rw [if_neg (by omega), if_pos (by omega)]
    congr 1
    omega
  generalize mdP (T.pm j) q (T.pm (zs T j q)) (zA T j q) (zL T j q) = P' at el eb ew
  have b := (x_best (P := P') (Q := T.pm (zs T j q)) (q := q) (by omega) g.2.2.2.2.2.2.1 g.2.2.2.2.2.2.2).1
  rw [el, eb] at b
  have h4 := b.2.2.2 (zA T j q) (zL T j q) gx.1 gx.2.1
  rw [al_d_same _ _ ew] at h4
  omega
theorem md_wc : ((mdT T j q).pm j).wc = (T.pm j).wc + zL T j q - (T.pm j).ql q := by
  rw [md_s]; rfl
theorem wT_mo {b b' : Nat} (h : b ≤ b') (t : wT b T) : wT b' T := by
  obtain ⟨d, p, hd, k⟩ := t
  exact ⟨d, p, by omega, k⟩
theorem wT_md {b : Nat} (v : vT T) (t : wT b T) (hj : j < T.cnt) (hq : q < (T.pm j).qc) : wT b (mdT T j q) := by
  have g := vq v hj hq
  have gx := vx v hj hq
  obtain ⟨d, p, hd, ed, hp⟩ := t
  refine ⟨d, p, hd, ed, fun k hk => ?_⟩
  have hk' : k < T.cnt := hk
  obtain ⟨e1, e2, e3, e4, e5, e6⟩ := hp k hk'
  have ez := (hp (zs T j q) (by omega)).2.2.2.2.2
  by_cases c : k = j
  · subst c
    rw [md_s]
    refine ⟨e1, e2, e3, fun i hi => ?_, e5, fun w hw => ?_⟩
    · rw [md_zs]; exact e4 i hi
    · have hw' : w < (T.pm k).wc + zL T k q - (T.pm k).ql q := hw
      show wV (if w < (T.pm k).qb q then (T.pm k).w w else if w < (T.pm k).qb q + zL T k q then (T.pm (zs T k q)).w (zA T k q + (w - (T.pm k).qb q)) else (T.pm k).w (w + (T.pm k).ql q - zL T k q))
      by_cases c1 : w < (T.pm k).qb q
      · rw [if_pos c1]; exact e6 w (by omega)
      · rw [if_neg c1]
        by_cases c2 : w < (T.pm k).qb q + zL T k q
        · rw [if_pos c2]; exact ez _ (by omega)
        · rw [if_neg c2]; exact e6 _ (by omega)
  · rw [md_o c]
    refine ⟨e1, e2, e3, fun i hi => ?_, e5, e6⟩
    rw [md_zs]; exact e4 i hi
theorem wT_pass {b k : Nat} (t : wT b T) (hk : k ≤ 100) : wT (b + 100) (mT T.cnt (T.day + nI k) T.pm) := by
  obtain ⟨d, p, hd, ed, hp⟩ := t
  refine ⟨d + k, p, by omega, ?_, fun i hi => ?_⟩
  · show T.day + nI k = _
    rw [ed, nI_add]
  · obtain ⟨e1, e2, e3, e4⟩ := hp i hi
    exact ⟨e1, by omega, e3, e4⟩
theorem wT_wd {b : Nat} (t : wT b T) : wT b (mT (T.cnt - 1) T.day T.pm) := by
  obtain ⟨d, p, hd, ed, hp⟩ := t
  refine ⟨d, p, hd, ed, fun i hi => ?_⟩
  have hi' : i < T.cnt - 1 := hi
  exact hp i (by omega)
end MD
theorem mq_p {T : tT} {j i : Nat} (c : 0 < zD (mq T j i).1 j i ∧ ((mq T j i).1.pm j).wc + zL (mq T j i).1 j i - ((mq T j i).1.pm j).ql i ≤ 60) : mq T j (i + 1) = (mdT (mq T j i).1 j i, (mq T j i).2 + 1) := if_pos c
theorem mq_n {T : tT} {j i : Nat} (c : ¬ (0 < zD (mq T j i).1 j i ∧ ((mq T j i).1.pm j).wc + zL (mq T j i).1 j i - ((mq T j i).1.pm j).ql i ≤ 60)) : mq T j (i + 1) = mq T j i := if_neg c
theorem wT_mq {b : Nat} {T : tT} (v : vT T) (t : wT b T) {j : Nat} (hj : j < T.cnt) : ∀ {i : Nat}, i ≤ (T.pm j).qc → wT b (mq T j i).1
  | 0, _ => t
  | i + 1, hi => by
    have ih := wT_mq v t hj (i := i) (by omega)
    obtain ⟨h1, h2, h3⟩ := mq_v v hj (i := i) (by omega)
    by_cases c : 0 < zD (mq T j i).1 j i ∧ ((mq T j i).1.pm j).wc + zL (mq T j i).1 j i - ((mq T j i).1.pm j).ql i ≤ 60
    · rw [mq_p c]
      exact wT_md h1 ih (by omega) (by omega)
    · rw [mq_n c]; exact ih
theorem wT_mz {b : Nat} {T : tT} (v : vT T) (t : wT b T) : ∀ {k : Nat}, k ≤ T.cnt → wT b (mz T k).1
  | 0, _ => t
  | k + 1, hk => by
    obtain ⟨h1, h2⟩ := mz_v v (k := k) (by omega)
    exact wT_mq h1 (wT_mz v t (by omega)) (by omega) (Nat.le_refl _)
theorem mz_le {T : tT} (v : vT T) : ∀ {k : Nat}, k ≤ T.cnt → (mz T k).2 ≤ 16 * k
  | 0, _ => Nat.le_refl _
  | k + 1, hk => by
    have h := mz_le v (k := k) (by omega)
    obtain ⟨h1, h2⟩ := mz_v v (k := k) (by omega)
    have h3 := mq_le (T := (mz T k).1) (j := k) ((mz T k).1.pm k).qc
    have h4 := v16 h1 (j := k) (by omega)
    show (mz T k).2 + (mq (mz T k).1 k ((mz T k).1.pm k).qc).2 ≤ 16 * (k + 1)
    omega
theorem su_ql {j : Nat} {P : tP} (v : vP j P) : ∀ {i}, i < P.qc → su P.ql (i + 1) ≤ P.qb i + P.ql i
  | 0, h => by
    show 0 + P.ql 0 ≤ _
    omega
  | i + 1, h => by
    have h1 := su_ql v (i := i) (by omega)
    have h2 := (v.2.2.2 i (by omega)).2.2.2 (i + 1) (by omega) h
    show su P.ql (i + 1) + P.ql (i + 1) ≤ _
    omega
theorem su_qa {j : Nat} {P : tP} (v : vP j P) {i : Nat} (h : i ≤ P.qc) : su P.ql i ≤ P.wc := by
  rcases Nat.eq_zero_or_pos i with z | z
  · subst z; exact Nat.zero_le _
  · obtain ⟨k, rfl⟩ : ∃ k, i = k + 1 := ⟨i - 1, by omega⟩
    have h1 := su_ql v (i := k) (by omega)
    have h2 := (v.2.2.2 k (by omega)).2.2.1
    omega
/-- with few words all can be mended -/
theorem mq_room {T : tT} (v : vT T) {j : Nat} (hj : j < T.cnt) (h30 : (T.pm j).wc < 30) : ∀ {i : Nat}, i ≤ (T.pm j).qc → (∀ k, ¬ k = j → (mq T j i).1.pm k = T.pm k) ∧ ((mq T j i).1.pm j).wc ≤ (T.pm j).wc + su (T.pm j).ql i ∧ (∀ q, i ≤ q → ((mq T j i).1.pm j).ql q = (T.pm j).ql q) ∧ ∀ q, q < i → zD (mq T j i).1 j q = 0
  | 0, _ => ⟨fun _ _ => rfl, Nat.le_refl _, fun _ _ => rfl, fun q hq => absurd hq (Nat.not_lt_zero _)⟩
  | i + 1, hi => by
    obtain ⟨a1, a2, a3, a4⟩ := mq_room v hj h30 (i := i) (by omega)
    obtain ⟨h1, h2, h3⟩ := mq_v v hj (i := i) (by omega)
    have hj1 : j < (mq T j i).1.cnt := by omega
    have hi1 : i < ((mq T j i).1.pm j).qc := by omega
    have gx := vx h1 hj1 hi1
    have g2 := xx h1 hj1 hi1
    have hql := a3 i (Nat.le_refl _)
    have hsu := su_qa (v.2 j hj) hi
    have es : su (T.pm j).ql (i + 1) = su (T.pm j).ql i + (T.pm j).ql i := rfl
    by_cases c : 0 < zD (mq T j i).1 j i ∧ ((mq T j i).1.pm j).wc + zL (mq T j i).1 j i - ((mq T j i).1.pm j).ql i ≤ 60
    · rw [mq_p c]
      refine ⟨fun k hk => ?_, ?_, fun q hq => ?_, fun q hq => ?_⟩
      · show (mdT (mq T j i).1 j i).pm k = _
        rw [md_o hk]; exact a1 k hk
      · show ((mdT (mq T j i).1 j i).pm j).wc ≤ _
        rw [md_wc]
        omega
      · show ((mdT (mq T j i).1 j i).pm j).ql q = _
        rw [md_s]
        show (if q = i then _ else ((mq T j i).1.pm j).ql q) = _
        rw [if_neg (by omega)]
        exact a3 q (by omega)
      · show zD (mdT (mq T j i).1 j i) j q = 0
        by_cases z : q = i
        · rw [z]; exact md_zD_q h1 hj1 hi1
        · rw [md_zD_i h1 hj1 hi1 (by omega) z]
          exact a4 q (by omega)
    · rw [mq_n c]
      refine ⟨a1, by omega, fun q hq => a3 q (by omega), fun q hq => ?_⟩
      by_cases z : q = i
      · rw [z]
        rcases Nat.eq_zero_or_pos (zD (mq T j i).1 j i) with y | y
        · exact y
        · exact absurd ⟨y, by omega⟩ c
      · exact a4 q (by omega)
theorem zD_cg {T T' : tT} {j q : Nat} (h : T'.pm j = T.pm j) (h2 : T'.pm (zs T j q) = T.pm (zs T j q)) : zD T' j q = zD T j q := by
  have e : zs T' j q = zs T j q := by
    unfold zs
    rw [h]
  unfold zD
  rw [e, h, h2]
theorem mz_room {T : tT} (v : vT T) (h30 : ∀ j, j < T.cnt → (T.pm j).wc < 30) : ∀ {k : Nat}, k ≤ T.cnt → (∀ j, k ≤ j → (mz T k).1.pm j = T.pm j) ∧ ∀ j, j < k → ∀ q, q < ((mz T k).1.pm j).qc → zD (mz T k).1 j q = 0
  | 0, _ => ⟨fun _ _ => rfl, fun j hj => absurd hj (Nat.not_lt_zero _)⟩
  | k + 1, hk => by
    obtain ⟨a1, a2⟩ := mz_room v h30 (k := k) (by omega)
    obtain ⟨h1, h2⟩ := mz_v v (k := k) (by omega)
    have hk1 : k < (mz T k).1.cnt := by omega
    have hw : ((mz T k).1.pm k).wc < 30 := by
      rw [a1 k (Nat.le_refl _)]
      exact h30 k (by omega)
    obtain ⟨b1, -, -, b4⟩ := mq_room h1 hk1 hw (i := ((mz T k).1.pm k).qc) (Nat.le_refl _)
    obtain ⟨-, -, c3⟩ := mq_v h1 hk1 (i := ((mz T k).1.pm k).qc) (Nat.le_refl _)
    have e : (mz T (k + 1)).1 = (mq (mz T k).1 k ((mz T k).1.pm k).qc).1 := rfl
    rw [e]
    refine ⟨fun j hj => ?_, fun j hj q hq => ?_⟩
    · rw [b1 j (by omega)]
      exact a1 j (by omega)
    · by_cases z : j = k
      · subst z
        rw [c3] at hq
        exact b4 q hq
      · have ej := b1 j z
        rw [ej] at hq
        have hz := (vq h1 (j := j) (by omega) hq).2.2.2.1
        rw [zD_cg ej (b1 _ (by omega))]
        exact a2 j (by omega) q hq
theorem su_z {f : Nat → Nat} {n : Nat} (h : su f n = 0) : ∀ i, i < n → f i = 0 := fun i hi => by
  have := su_ge (f := f) hi
  omega
theorem zba_0 {T : tT} (hA : au8 T) (h : zba T = 0) : ∀ j, j < T.cnt → ∀ q, q < (T.pm j).qc → zD T j q = 0 := fun j hj q hq => by
  rw [zba_eq hA] at h
  exact su_z (su_z h j hj) q hq
theorem zba_1 {T : tT} (hA : au8 T) (h : ∀ j, j < T.cnt → ∀ q, q < (T.pm j).qc → zD T j q = 0) : zba T = 0 := by
  rw [zba_eq hA]
  exact su_0 fun j hj => su_0 fun q hq => h j hj q hq
theorem mq_0 {T : tT} {j : Nat} : ∀ {i}, (∀ q, q < i → zD T j q = 0) → mq T j i = (T, 0)
  | 0, _ => rfl
  | i + 1, h => by
    have ih := mq_0 (T := T) (j := j) (i := i) (fun q hq => h q (by omega))
    rw [mq_n (fun c => by
      rw [ih] at c
      have := h i (by omega)
      have c1 : 0 < zD T j i := c.1
      omega), ih]
theorem mz_0 {T : tT} (h : ∀ j, j < T.cnt → ∀ q, q < (T.pm j).qc → zD T j q = 0) : ∀ {k}, k ≤ T.cnt → mz T k = (T, 0)
  | 0, _ => rfl
  | k + 1, hk => by
    have ih := mz_0 h (k := k) (by omega)
    show ((mq (mz T k).1 k ((mz T k).1.pm k).qc).1, (mz T k).2 + (mq (mz T k).1 k ((mz T k).1.pm k).qc).2) = _
    rw [ih]
    show ((mq T k (T.pm k).qc).1, 0 + (mq T k (T.pm k).qc).2) = _
    rw [mq_0 (h k (by omega))]
    rfl
