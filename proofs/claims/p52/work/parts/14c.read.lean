/-! LADDERS and READING -/
theorem qt_t {T : tT} {n s : Nat} : qt T n s = true ↔ ∃ q, q < (T.pm n).qc ∧ zs T n q = s := by
  unfold qt
  cases e : fi (fun q => zs T n q == s) 0 (T.pm n).qc with
  | none =>
    have h := fi_none e
    constructor
    · intro z; cases z
    · rintro ⟨q, h1, h2⟩
      have := h q (by omega) (by omega)
      simp [h2] at this
  | some k =>
    have h := fi_some e
    refine ⟨fun _ => ⟨k, by omega, by simpa using h.2.2.1⟩, fun _ => rfl⟩
theorem qt_lt {T : tT} (v : vT T) {n s : Nat} (hn : n < T.cnt) (h : qt T n s = true) : s < n := by
  obtain ⟨q, h1, rfl⟩ := qt_t.mp h
  exact (vq v hn h1).2.2.2.1
theorem qt_f {T : tT} (v : vT T) {n s : Nat} (hn : n < T.cnt) (h : n ≤ s) : qt T n s = false := by
  cases e : qt T n s with
  | false => rfl
  | true =>
    have := qt_lt v hn e
    omega
/-- whether one of the first k quotations quotes o -/
def qk (T : tT) (p o : Nat) : Nat → Bool
  | 0 => false
  | k + 1 => qk T p o k || zs T p k == o
theorem qk_t {T : tT} {p o : Nat} : ∀ {k : Nat}, qk T p o k = true ↔ ∃ q, q < k ∧ zs T p q = o
  | 0 => by
    constructor
    · intro z; cases z
    · rintro ⟨q, h, -⟩; exact absurd h (Nat.not_lt_zero _)
  | k + 1 => by
    show (qk T p o k || zs T p k == o) = true ↔ _
    rw [Bool.or_eq_true, qk_t (k := k)]
    constructor
    · rintro (⟨q, h1, h2⟩ | h)
      · exact ⟨q, by omega, h2⟩
      · exact ⟨k, by omega, by simpa using h⟩
    · rintro ⟨q, h1, h2⟩
      rcases Nat.lt_or_ge q k with z | z
      · exact Or.inl ⟨q, z, h2⟩
      · have : q = k := by omega
        subst this
        exact Or.inr (by simpa using h2)
theorem qk_q {T : tT} {p o : Nat} : qk T p o (T.pm p).qc = qt T p o := by
  rw [Bool.eq_iff_iff, qk_t, qt_t]
theorem lt_st {T : tT} {j : Nat} : ∀ {n}, j < n → lt_ T n j = lt_ T (j + 1) j
  | 0, h => absurd h (Nat.not_lt_zero _)
  | n + 1, h => by
    by_cases c : j = n
    · subst c; rfl
    · have e : lt_ T (n + 1) j = lt_ T n j := if_neg c
      rw [e]
      exact lt_st (by omega)
theorem gt_st {T : tT} {j : Nat} : ∀ {n}, j < n → gt_ T n j = gt_ T (j + 1) j
  | 0, h => absurd h (Nat.not_lt_zero _)
  | n + 1, h => by
    by_cases c : j = n
    · subst c; rfl
    · have e : gt_ T (n + 1) j = gt_ T n j := if_neg c
      rw [e]
      exact gt_st (by omega)
theorem lmx_cg {f f' : Nat → Nat} {g : Nat → Bool} : ∀ {k}, (∀ i, i < k → f i = f' i) → lmx f g k = lmx f' g k
  | 0, _ => rfl
  | k + 1, h => by
    show (if g k then max (lmx f g k) (f k) else lmx f g k) = (if g k then max (lmx f' g k) (f' k) else lmx f' g k)
    rw [lmx_cg (fun i hi => h i (by omega)), h k (by omega)]
theorem lsm_cg {f f' : Nat → Nat} {g : Nat → Bool} : ∀ {k}, (∀ i, i < k → f i = f' i) → lsm f g k = lsm f' g k
  | 0, _ => rfl
  | k + 1, h => by
    show (if g k then lsm f g k + f k else lsm f g k) = (if g k then lsm f' g k + f' k else lsm f' g k)
    rw [lsm_cg (fun i hi => h i (by omega)), h k (by omega)]
theorem lmx_up {f : Nat → Nat} {g : Nat → Bool} {n : Nat} : ∀ {k}, n ≤ k → (∀ i, n ≤ i → i < k → g i = false) → lmx f g k = lmx f g n
  | 0, h, _ => by
    have : n = 0 := by omega
    subst this; rfl
  | k + 1, h, hg => by
    rcases Nat.lt_or_ge n (k + 1) with c | c
    · have e : g k = false := hg k (by omega) (by omega)
      have e2 : lmx f g (k + 1) = lmx f g k := if_neg (by rw [e]; decide)
      rw [e2]
      exact lmx_up (by omega) (fun i h1 h2 => hg i h1 (by omega))
    · have : n = k + 1 := by omega
      subst this; rfl
theorem lsm_up {f : Nat → Nat} {g : Nat → Bool} {n : Nat} : ∀ {k}, n ≤ k → (∀ i, n ≤ i → i < k → g i = false) → lsm f g k = lsm f g n
  | 0, h, _ => by
    have : n = 0 := by omega
    subst this; rfl
  | k + 1, h, hg => by
    rcases Nat.lt_or_ge n (k + 1) with c | c
    · have e : g k = false := hg k (by omega) (by omega)
      have e2 : lsm f g (k + 1) = lsm f g k := if_neg (by rw [e]; decide)
      rw [e2]
      exact lsm_up (by omega) (fun i h1 h2 => hg i h1 (by omega))
    · have : n = k + 1 := by omega
      subst this; rfl
theorem lmx_b {f : Nat → Nat} {g : Nat → Bool} {b : Nat} : ∀ {k}, (∀ i, i < k → g i = true → f i ≤ b) → lmx f g k ≤ b
  | 0, _ => Nat.zero_le _
  | k + 1, h => by
    have h1 := lmx_b (g := g) (k := k) (fun i hi => h i (by omega))
    by_cases c : g k = true
    · have e : lmx f g (k + 1) = max (lmx f g k) (f k) := if_pos c
      have h2 := h k (by omega) c
      omega
    · have e : lmx f g (k + 1) = lmx f g k := if_neg c
      omega
/-- the ladder of p, as the law finds it -/
theorem lad_eq {T : tT} (v : vT T) {p : Nat} (hp : p < T.cnt) : lmx (fun k => lt_ T (k + 1) k) (qt T p) T.cnt + 1 = lt_ T (p + 1) p := by
  have e : lt_ T (p + 1) p = lmx (lt_ T p) (qt T p) p + 1 := if_pos rfl
  rw [e, lmx_up (n := p) (by omega) (fun i h1 _ => qt_f v hp h1), lmx_cg (f := fun k => lt_ T (k + 1) k) (f' := lt_ T p) (fun i hi => (lt_st hi).symm)]
theorem lads_eq {T : tT} (v : vT T) {p : Nat} (hp : p < T.cnt) : (if (T.pm p).qc = 0 then 1 else 0) + lsm (fun k => gt_ T (k + 1) k) (qt T p) T.cnt = gt_ T (p + 1) p := by
  have e : gt_ T (p + 1) p = if (T.pm p).qc = 0 then 1 else lsm (gt_ T p) (qt T p) p := if_pos rfl
  by_cases c : (T.pm p).qc = 0
  · rw [e, if_pos c, if_pos c, lsm_up (n := 0) (by omega) (fun i _ _ => by
      cases z : qt T p i with
      | false => rfl
      | true =>
        obtain ⟨q, h1, -⟩ := qt_t.mp z
        omega)]
    rfl
  · rw [e, if_neg c, if_neg c, Nat.zero_add, lsm_up (n := p) (by omega) (fun i h1 _ => qt_f v hp h1), lsm_cg (f := fun k => gt_ T (k + 1) k) (f' := gt_ T p) (fun i hi => (gt_st hi).symm)]
/-! how many of r numbers from n on hold -/
def ct (f : Nat → Bool) (n : Nat) : Nat → Nat
  | 0 => 0
  | r + 1 => ct f n r + bN (f (n + r))
theorem ct_h (f : Nat → Bool) (n : Nat) : ∀ r, ct f n (r + 1) = bN (f n) + ct f (n + 1) r
  | 0 => by
    show ct f n 0 + bN (f (n + 0)) = bN (f n) + 0
    show 0 + bN (f n) = _
    omega
  | r + 1 => by
    have h := ct_h f n r
    have e : n + 1 + r = n + (r + 1) := by omega
    show ct f n (r + 1) + bN (f (n + (r + 1))) = bN (f n) + (ct f (n + 1) r + bN (f (n + 1 + r)))
    rw [e]
    omega
theorem ct_mo {f : Nat → Bool} {n : Nat} : ∀ {r r' : Nat}, r ≤ r' → ct f n r ≤ ct f n r'
  | r, 0, h => by
    have : r = 0 := by omega
    subst this; exact Nat.le_refl _
  | r, r' + 1, h => by
    rcases Nat.lt_or_ge r (r' + 1) with z | z
    · have := ct_mo (f := f) (n := n) (r := r) (r' := r') (by omega)
      show _ ≤ ct f n r' + bN (f (n + r'))
      omega
    · have : r = r' + 1 := by omega
      subst this; exact Nat.le_refl _
theorem ct_lt {f : Nat → Bool} {a b : Nat} (h : a < b) (hf : f a = true) : ct f 0 a < ct f 0 b := by
  have h1 := ct_mo (f := f) (n := 0) (r := a + 1) (r' := b) (by omega)
  have e : ct f 0 (a + 1) = ct f 0 a + bN (f (0 + a)) := rfl
  rw [Nat.zero_add, hf] at e
  have : bN true = 1 := rfl
  omega
theorem ct_0 {f : Nat → Bool} {n : Nat} : ∀ {r}, (∀ i, i < r → f (n + i) = false) → ct f n r = 0
  | 0, _ => rfl
  | r + 1, h => by
    show ct f n r + bN (f (n + r)) = 0
    rw [ct_0 (fun i hi => h i (by omega)), h r (by omega)]; rfl
theorem ct_app {f : Nat → Bool} {n r : Nat} : ∀ {r'}, ct f n (r + r') = ct f n r + ct f (n + r) r'
  | 0 => rfl
  | r' + 1 => by
    show ct f n (r + r') + bN (f (n + (r + r'))) = ct f n r + (ct f (n + r) r' + bN (f (n + r + r')))
    rw [ct_app (r' := r'), Nat.add_assoc, Nat.add_assoc]
theorem kth_p {f : Nat → Bool} : ∀ {r n k : Nat}, k < ct f n r → ∃ m, kth f k n r = nI (n + m) ∧ m < r ∧ f (n + m) = true ∧ ct f n m = k
  | 0, n, k, h => absurd h (Nat.not_lt_zero _)
  | r + 1, n, k, h => by
    rw [ct_h] at h
    cases c : f n with
    | true =>
      rw [c] at h
      have b1 : bN true = 1 := rfl
      by_cases z : k = 0
      · subst z
        refine ⟨0, ?_, by omega, c, rfl⟩
        show (if f n then (if 0 = 0 then nI n else kth f (0 - 1) (n + 1) r) else kth f 0 (n + 1) r) = _
        rw [if_pos c, if_pos rfl, Nat.add_zero]
      · obtain ⟨m, h1, h2, h3, h4⟩ := kth_p (f := f) (r := r) (n := n + 1) (k := k - 1) (by omega)
        have e : n + (m + 1) = n + 1 + m := by omega
        refine ⟨m + 1, ?_, by omega, by rw [e]; exact h3, ?_⟩
        · show (if f n then (if k = 0 then nI n else kth f (k - 1) (n + 1) r) else kth f k (n + 1) r) = _
          rw [if_pos c, if_neg z, h1, e]
        · rw [ct_h, c, h4]
          omega
    | false =>
      rw [c] at h
      have b0 : bN false = 0 := rfl
      obtain ⟨m, h1, h2, h3, h4⟩ := kth_p (f := f) (r := r) (n := n + 1) (k := k) (by omega)
      have e : n + (m + 1) = n + 1 + m := by omega
      refine ⟨m + 1, ?_, by omega, by rw [e]; exact h3, ?_⟩
      · show (if f n then (if k = 0 then nI n else kth f (k - 1) (n + 1) r) else kth f k (n + 1) r) = _
        rw [if_neg (by rw [c]; decide), h1, e]
      · rw [ct_h, c, h4]
        omega
/-! what is read -/
theorem mk_u {T : tT} {n k : Nat} {f : Nat → Bool} : ∀ {q}, (∀ i, i < q → ¬ zs T n i = k) → mk_ T n f q k = f k
  | 0, _ => rfl
  | q + 1, h => by
    show (mk_ T n f q k || zs T n q == k) = f k
    rw [mk_u (fun i hi => h i (by omega))]
    have : (zs T n q == k) = false := by simpa using h q (by omega)
    rw [this, Bool.or_false]
theorem mk_i {T : tT} {n k : Nat} {f : Nat → Bool} (h : f k = true) : ∀ {q}, mk_ T n f q k = true
  | 0 => h
  | q + 1 => by
    show (mk_ T n f q k || _) = true
    rw [mk_i h]; rfl
theorem mk_s {T : tT} {n i : Nat} {f : Nat → Bool} : ∀ {q}, i < q → mk_ T n f q (zs T n i) = true
  | 0, h => absurd h (Nat.not_lt_zero _)
  | q + 1, h => by
    show (mk_ T n f q (zs T n i) || zs T n q == zs T n i) = true
    rcases Nat.lt_or_ge i q with z | z
    · rw [mk_s z]; rfl
    · have : i = q := by omega
      subst this
      rw [beq_self_eq_true, Bool.or_true]
section RR
variable {T : tT} {p : Nat}
theorem rd_s (i : Nat) : rd_ T p (i + 1) = if rd_ T p i (p - i) then mk_ T (p - i) (rd_ T p i) (T.pm (p - i)).qc else rd_ T p i := rfl
theorem rd_st (v : vT T) (hp : p < T.cnt) {n : Nat} : ∀ {i i' : Nat}, i ≤ i' → i' ≤ p + 1 → p ≤ n + i → rd_ T p i' n = rd_ T p i n
  | i, 0, h, _, _ => by
    have : i = 0 := by omega
    subst this; rfl
  | i, i' + 1, h, h2, h3 => by
    rcases Nat.lt_or_ge i (i' + 1) with z | z
    · rw [← rd_st v hp (i := i) (i' := i') (by omega) (by omega) h3, rd_s]
      by_cases c : rd_ T p i' (p - i') = true
      · rw [if_pos c]
        refine mk_u fun q hq e => ?_
        have := (vq v (j := p - i') (by omega) hq).2.2.2.1
        omega
      · rw [if_neg c]
    · have : i = i' + 1 := by omega
      subst this; rfl
theorem rd_up (v : vT T) (hp : p < T.cnt) {n : Nat} (hn : p < n) : ∀ {i : Nat}, i ≤ p + 1 → rd_ T p i n = false
  | 0, _ => by
    show (n == p) = false
    simp; omega
  | i + 1, h => by
    rw [rd_s]
    by_cases c : rd_ T p i (p - i) = true
    · rw [if_pos c, mk_u fun q hq e => by
        have := (vq v (j := p - i) (by omega) hq).2.2.2.1
        omega]
      exact rd_up v hp hn (by omega)
    · rw [if_neg c]
      exact rd_up v hp hn (by omega)
theorem rd_mo {n : Nat} : ∀ {i i' : Nat}, i ≤ i' → rd_ T p i n = true → rd_ T p i' n = true
  | i, 0, h, e => by
    have : i = 0 := by omega
    subst this; exact e
  | i, i' + 1, h, e => by
    rcases Nat.lt_or_ge i (i' + 1) with z | z
    · have e2 := rd_mo (i := i) (i' := i') (by omega) e
      rw [rd_s]
      by_cases c : rd_ T p i' (p - i') = true
      · rw [if_pos c]; exact mk_i e2
      · rw [if_neg c]; exact e2
    · have : i = i' + 1 := by omega
      subst this; exact e
theorem rd_cl (v : vT T) (hp : p < T.cnt) {n q : Nat} (hn : n ≤ p) (h : rd T p n = true) (hq : q < (T.pm n).qc) : rd T p (zs T n q) = true := by
  have e : rd_ T p (p - n) n = true := by
    rw [← rd_st v hp (i := p - n) (i' := p + 1) (by omega) (by omega) (by omega)]
    exact h
  have e2 : p - (p - n) = n := by omega
  refine rd_mo (i := p - n + 1) (by omega) ?_
  rw [rd_s, e2, if_pos e]
  exact mk_s hq
theorem rd_p (v : vT T) (hp : p < T.cnt) : rd T p p = true := rd_mo (i := 0) (Nat.zero_le _) (by show (p == p) = true; simp)
theorem rc_ct (v : vT T) (hp : p < T.cnt) : ∀ {i}, i ≤ p + 1 → rc_ T p i = ct (rd T p) (p + 1 - i) i
  | 0, _ => rfl
  | i + 1, h => by
    have e : rd_ T p i (p - i) = rd T p (p - i) := (rd_st v hp (i := i) (i' := p + 1) (by omega) (Nat.le_refl _) (by omega)).symm
    have e2 : p + 1 - (i + 1) = p - i := by omega
    have e3 : p - i + 1 = p + 1 - i := by omega
    have ih := rc_ct v hp (i := i) (by omega)
    rw [e2, ct_h, e3, ← ih]
    show (if rd_ T p i (p - i) then rc_ T p i + 1 else rc_ T p i) = _
    rw [e]
    cases rd T p (p - i) with
    | true => show rc_ T p i + 1 = 1 + rc_ T p i; omega
    | false => show rc_ T p i = 0 + rc_ T p i; omega
theorem rc_0 (v : vT T) (hp : p < T.cnt) : rc_ T p (p + 1) = ct (rd T p) 0 (p + 1) := by
  rw [rc_ct v hp (Nat.le_refl _), Nat.sub_self]
theorem rc_20 (v : vT T) (hp : p < T.cnt) : rc_ T p (p + 1) = ct (rd T p) 0 20 := by
  have h20 := v.1
  rw [rc_0 v hp]
  have e : (p + 1) + (20 - (p + 1)) = 20 := by omega
  have k := ct_app (f := rd T p) (n := 0) (r := p + 1) (r' := 20 - (p + 1))
  have z : ct (rd T p) (0 + (p + 1)) (20 - (p + 1)) = 0 := ct_0 (fun i hi => show rd_ T p (p + 1) (0 + (p + 1) + i) = false from rd_up v hp (by omega) (Nat.le_refl _))
  rw [e, z, Nat.add_zero] at k
  exact k.symm
theorem rc_1 (v : vT T) (hp : p < T.cnt) : rc_ T p (p + 1) = ct (rd T p) 0 p + 1 := by
  rw [rc_0 v hp]
  show ct (rd T p) 0 p + bN (rd T p (0 + p)) = _
  rw [Nat.zero_add, rd_p v hp]; rfl
/-- the places rise -/
theorem kth_lt (v : vT T) (hp : p < T.cnt) {k k' : Nat} (h : k < k') (h' : k' < rc_ T p (p + 1)) : kth (rd T p) k 0 20 < kth (rd T p) k' 0 20 := by
  rw [rc_20 v hp] at h'
  obtain ⟨m, e1, e2, e3, e4⟩ := kth_p (f := rd T p) (r := 20) (n := 0) (k := k) (by omega)
  obtain ⟨m', g1, g2, g3, g4⟩ := kth_p (f := rd T p) (r := 20) (n := 0) (k := k') h'
  rw [e1, g1]
  refine nI_lt ?_ (by omega)
  rcases Nat.lt_or_ge m m' with z | z
  · omega
  · have := ct_mo (f := rd T p) (n := 0) z
    omega
theorem kth_last (v : vT T) (hp : p < T.cnt) : kth (rd T p) (rc_ T p (p + 1) - 1) 0 20 = nI p := by
  have h1 := rc_1 v hp
  have h2 := rc_20 v hp
  obtain ⟨m, e1, e2, e3, e4⟩ := kth_p (f := rd T p) (r := 20) (n := 0) (k := rc_ T p (p + 1) - 1) (by omega)
  rw [Nat.zero_add] at e1 e3
  have hm : m = p := by
    rcases Nat.lt_trichotomy m p with z | z | z
    · have := ct_lt z e3
      omega
    · exact z
    · have := ct_lt z (rd_p v hp)
      omega
  rw [e1, hm]
theorem lad_le (v : vT T) {f : Nat → Bool} (hp : p < T.cnt) (hf : ∀ n q, n ≤ p → f n = true → q < (T.pm n).qc → f (zs T n q) = true) : ∀ b n, n ≤ b → n ≤ p → f n = true → lt_ T (n + 1) n ≤ ct f 0 (n + 1) := by
  intro b
  induction b with
  | zero =>
    intro n hb hn h
    have : n = 0 := by omega
    subst this
    have e : ct f 0 (0 + 1) = 1 := by
      show 0 + bN (f 0) = 1
      rw [h]; rfl
    have e2 : lt_ T (0 + 1) 0 = 1 := rfl
    omega
  | succ b ih =>
    intro n hb hn h
    have e : lt_ T (n + 1) n = lmx (lt_ T n) (qt T n) n + 1 := if_pos rfl
    have e2 : ct f 0 (n + 1) = ct f 0 n + bN (f (0 + n)) := rfl
    rw [Nat.zero_add, h] at e2
    have b1 : bN true = 1 := rfl
    have hl : lmx (lt_ T n) (qt T n) n ≤ ct f 0 n := lmx_b fun i hi hq => by
      obtain ⟨q, h1, h2⟩ := qt_t.mp hq
      have h3 := hf n q hn h h1
      rw [h2] at h3
      have h4 := ih i (by omega) (by omega) h3
      have h5 := ct_mo (f := f) (n := 0) (r := i + 1) (r' := n) (by omega)
      rw [lt_st hi]
      omega
    omega
theorem lad_rc (v : vT T) (hp : p < T.cnt) : lt_ T (p + 1) p ≤ rc_ T p (p + 1) := by
  rw [rc_0 v hp]
  exact lad_le v hp (fun n q h1 h2 h3 => rd_cl v hp h1 h2 h3) p p (Nat.le_refl _) (Nat.le_refl _) (rd_p v hp)
end RR
