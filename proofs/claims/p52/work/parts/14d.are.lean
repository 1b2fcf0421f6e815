/-! THE PAMPHLETS, as the law looks at them -/
section AP
variable {G : pq_G} {x : Nat} {W : tW} {p : Nat}
def Lf (T : tT) (k : Nat) : Nat := lt_ T (k + 1) k
def Lg (T : tT) (k : Nat) : Nat := gt_ T (k + 1) k
def c0q (T : tT) (p : Nat) : Nat := if (T.pm p).qc = 0 then 1 else 0
theorem ap_209 (h : sh_G G x) (v : vW W) (hp : p < W.1.cnt) {c4 : pq_N → Nat → Int32 → Int32 → Option (Int32 × pq_N)} {x1 : Int32} (d1 : ¬ (W.1.pm p).pd < x1) (d2 : ¬ W.1.day < (W.1.pm p).pd) (K : ∀ S, rC S x W → ok x W (c4 S x (W.1.pm p).pd (nI (p + 1))) 1) : ∀ (m k n : Nat) (S : pq_N), k + m = rc_ W.1 p (p + 1) → 1 ≤ k → m < n → rC S x W → ok x W (F_L_arePamphlets_b209 G c4 n S x x1 (nI p) (nI (W.1.pm p).wc) (nI (W.1.pm p).wc) (nI (lt_ W.1 (p + 1) p)) (nI (gt_ W.1 (p + 1) p)) (nI (rc_ W.1 p (p + 1))) (nI k)) 1 := by
  have hT := vW_t v
  have h20 := hT.1
  have hv := hT.2 p hp
  have hv1 := hv.1
  have hv2 := hv.2.1
  have hR := rc_le (T := W.1) (p := p) (p + 1)
  have hL := lad_rc hT hp
  have h1 := rc_1 hT hp
  intro m
  induction m with
  | zero =>
    intro k n S hk hk1 hn r
    obtain ⟨n, rfl⟩ : ∃ k, n = k + 1 := ⟨n - 1, by omega⟩
    rw [F_L_arePamphlets_b209.eq_2, if_pos (nI_le (by omega) (by omega)), if_neg (show ¬ nI (W.1.pm p).wc < (1 : Int32) from nI_nlt (b := 1) (by omega) (by omega)), if_neg (show ¬ (60 : Int32) < nI (W.1.pm p).wc from nI_nlt (a := 60) (by omega) (by omega)), if_pos rfl]
    refine ok_b (a_dayOf h v r hp) (fun S r => ?_)
    rw [if_neg d1]
    refine ok_b (a_dayOf h v r hp) (fun S r => ?_)
    refine ok_b (a_day h v r) (fun S r => ?_)
    rw [if_neg d2]
    refine ok_b (a_ladderOf h v r hp) (fun S r => ?_)
    rw [if_pos rfl]
    refine ok_b (a_laddersOf h v r hp) (fun S r => ?_)
    rw [if_pos rfl, if_neg (nI_nlt hL (by omega)), nI_sub1 (by omega)]
    refine ok_b (a_readAt h v r hp (k := rc_ W.1 p (p + 1) - 1) (by omega)) (fun S r => ?_)
    rw [kth_last hT hp, if_pos rfl]
    refine ok_b (a_dayOf h v r hp) (fun S r => ?_)
    rw [nI_1]
    exact K S r
  | succ m ih =>
    intro k n S hk hk1 hn r
    obtain ⟨n, rfl⟩ : ∃ k, n = k + 1 := ⟨n - 1, by omega⟩
    rw [F_L_arePamphlets_b209.eq_2, if_neg (nI_ge (by omega) (by omega)), nI_sub1 hk1]
    refine ok_b (a_readAt h v r hp (k := k - 1) (by omega)) (fun S r => ?_)
    refine ok_b (a_readAt h v r hp (k := k) (by omega)) (fun S r => ?_)
    rw [if_pos (kth_lt hT hp (by omega) (by omega)), nI_1]
    exact ih (k + 1) n S (by omega) (by omega) (by omega) r
theorem ap_88 (h : sh_G G x) (v : vW W) (hp : p < W.1.cnt) {o : Nat} (ho : o < W.1.cnt) {c4 : pq_N → Nat → Int32 → Int32 → Option (Int32 × pq_N)} {c73 : pq_N → Nat → Int32 → Int32 → Int32 → Int32 → Int32 → Int32 → Int32 → Option (Int32 × pq_N)} {x1 x3 x4 : Int32} (K : ∀ S, rC S x W → ok x W (c73 S x x1 (nI p) x3 x4 (nI (lmx (Lf W.1) (qt W.1 p) (o + 1) + 1)) (nI (c0q W.1 p + lsm (Lg W.1) (qt W.1 p) (o + 1))) (nI (o + 1))) 1) : ∀ (m k n : Nat) (S : pq_N), k + m = (W.1.pm p).qc → m < n → rC S x W → ok x W (F_L_arePamphlets_b88 G c4 c73 n S x x1 (nI p) x3 x4 (nI (lmx (Lf W.1) (qt W.1 p) o + 1)) (nI (c0q W.1 p + lsm (Lg W.1) (qt W.1 p) o)) (nI o) (nI (bN (qk W.1 p o k))) (nI k)) 1 := by
  have hT := vW_t v
  have h20 := hT.1
  have h16 := v16 hT hp
  have hb := lmx_le (f := Lf W.1) (g := qt W.1 p) (b := 20) (k := o) (fun i hi => by
    have := lt_le (T := W.1) (n := i + 1) (j := i)
    show lt_ W.1 (i + 1) i ≤ 20
    omega)
  have hlo : Lf W.1 o ≤ 20 := by
    have := lt_le (T := W.1) (n := o + 1) (j := o)
    show lt_ W.1 (o + 1) o ≤ 20
    omega
  intro m
  induction m with
  | zero =>
    intro k n S hk hn r
    obtain ⟨n, rfl⟩ : ∃ k, n = k + 1 := ⟨n - 1, by omega⟩
    have ek : k = (W.1.pm p).qc := by omega
    subst ek
    rw [F_L_arePamphlets_b88.eq_2, qk_q]
    refine ok_b (a_quotationsOf h v r hp) (fun S r => ?_)
    rw [if_pos (nI_le (Nat.le_refl _) (by omega))]
    cases c : qt W.1 p o with
    | false =>
      have e1 : lmx (Lf W.1) (qt W.1 p) (o + 1) = lmx (Lf W.1) (qt W.1 p) o := if_neg (by rw [c]; decide)
      have e2 : lsm (Lg W.1) (qt W.1 p) (o + 1) = lsm (Lg W.1) (qt W.1 p) o := if_neg (by rw [c]; decide)
      rw [e1, e2] at K
      rw [if_pos (show nI (bN false) = (0 : Int32) from rfl)]
      unfold F_L_arePamphlets_b157 F_L_arePamphlets_b176
      rw [if_pos (show nI (bN false) = (0 : Int32) from rfl)]
      refine ok_b (a_answers h v r hp ho) (fun S r => ?_)
      rw [c, if_pos (show nI (if false = true then 1 else 0) = nI (bN false) from rfl), nI_1, show (0 : Int32) = nI 0 from rfl, nI_add, Nat.add_zero]
      exact K S r
    | true =>
      have e1 : lmx (Lf W.1) (qt W.1 p) (o + 1) = max (lmx (Lf W.1) (qt W.1 p) o) (Lf W.1 o) := if_pos c
      have e2 : lsm (Lg W.1) (qt W.1 p) (o + 1) = lsm (Lg W.1) (qt W.1 p) o + Lg W.1 o := if_pos c
      rw [e1, e2, ← Nat.add_assoc] at K
      have n0 : ¬ nI (bN true) = (0 : Int32) := by decide
      have tail : ∀ (t : Int32) (S : pq_N), rC S x W → t = nI (max (lmx (Lf W.1) (qt W.1 p) o) (Lf W.1 o) + 1) → ok x W (F_L_arePamphlets_b157 G c4 c73 S x x1 (nI p) x3 x4 (nI (c0q W.1 p + lsm (Lg W.1) (qt W.1 p) o)) (nI o) (nI (bN true)) t) 1 := fun t S r et => by
        unfold F_L_arePamphlets_b157
        rw [if_neg n0]
        refine ok_b (a_laddersOf h v r ho) (fun S r => ?_)
        unfold F_L_arePamphlets_b176
        refine ok_b (a_answers h v r hp ho) (fun S r => ?_)
        rw [c, if_pos (show nI (if true = true then 1 else 0) = nI (bN true) from rfl), nI_1, nI_add, et]
        exact K S r
      rw [if_neg n0]
      refine ok_b (a_ladderOf h v r ho) (fun S r => ?_)
      rw [show lt_ W.1 (o + 1) o = Lf W.1 o from rfl]
      by_cases z : Lf W.1 o < lmx (Lf W.1) (qt W.1 p) o + 1
      · rw [if_pos (nI_lt z (by omega))]
        refine tail _ S r ?_
        rw [Nat.max_eq_left (by omega)]
      · rw [if_neg (nI_nlt (a := Lf W.1 o) (b := lmx (Lf W.1) (qt W.1 p) o + 1) (by omega) (by omega))]
        refine ok_b (a_ladderOf h v r ho) (fun S r => ?_)
        refine tail _ S r ?_
        rw [nI_1, Nat.max_eq_right (by omega)]; rfl
  | succ m ih =>
    intro k n S hk hn r
    obtain ⟨n, rfl⟩ : ∃ k, n = k + 1 := ⟨n - 1, by omega⟩
    rw [F_L_arePamphlets_b88.eq_2]
    refine ok_b (a_quotationsOf h v r hp) (fun S r => ?_)
    rw [if_neg (nI_ge (by omega) (by omega))]
    have hz := vq hT hp (q := k) (by omega)
    cases c : qk W.1 p o k with
    | true =>
      have i := ih (k + 1) n S (by omega) (by omega) r
      have e : qk W.1 p o (k + 1) = true := by
        show (qk W.1 p o k || _) = true
        rw [c]; rfl
      rw [e] at i
      rw [if_neg (show ¬ nI (bN true) = (0 : Int32) by decide), nI_1]
      exact i
    | false =>
      rw [if_pos (show nI (bN false) = (0 : Int32) from rfl)]
      refine ok_b (a_sourceOf h v r hp (q := k) (by omega)) (fun S r => ?_)
      have i := ih (k + 1) n S (by omega) (by omega) r
      have e : qk W.1 p o (k + 1) = (zs W.1 p k == o) := by
        show (qk W.1 p o k || _) = _
        rw [c]; rfl
      rw [e] at i
      rw [nI_1]
      by_cases z : zs W.1 p k = o
      · have z2 : (zs W.1 p k == o) = true := by simpa using z
        rw [z2] at i
        rw [if_pos (by rw [z])]
        exact i
      · have z2 : (zs W.1 p k == o) = false := by simpa using z
        rw [z2] at i
        rw [if_neg (fun y => z ((nI_eq (by omega) (by omega)).mp y))]
        exact i
theorem ap_73 (h : sh_G G x) (v : vW W) (hp : p < W.1.cnt) {c4 : pq_N → Nat → Int32 → Int32 → Option (Int32 × pq_N)} {x1 : Int32} (d1 : ¬ (W.1.pm p).pd < x1) (d2 : ¬ W.1.day < (W.1.pm p).pd) (K : ∀ S, rC S x W → ok x W (c4 S x (W.1.pm p).pd (nI (p + 1))) 1) : ∀ (m o n : Nat) (S : pq_N), o + m = W.1.cnt → m < n → rC S x W → ok x W (F_L_arePamphlets_b73 G c4 n S x x1 (nI p) (nI (W.1.pm p).wc) (nI (W.1.pm p).wc) (nI (lmx (Lf W.1) (qt W.1 p) o + 1)) (nI (c0q W.1 p + lsm (Lg W.1) (qt W.1 p) o)) (nI o)) 1 := by
  have hT := vW_t v
  have h20 := hT.1
  have hR := rc_le (T := W.1) (p := p) (p + 1)
  have h1 := rc_1 hT hp
  intro m
  induction m with
  | zero =>
    intro o n S ho hn r
    obtain ⟨n, rfl⟩ : ∃ k, n = k + 1 := ⟨n - 1, by omega⟩
    have e : o = W.1.cnt := by omega
    subst e
    have e1 : lmx (Lf W.1) (qt W.1 p) W.1.cnt + 1 = lt_ W.1 (p + 1) p := lad_eq hT hp
    have e2 : c0q W.1 p + lsm (Lg W.1) (qt W.1 p) W.1.cnt = gt_ W.1 (p + 1) p := lads_eq hT hp
    rw [F_L_arePamphlets_b73.eq_2, e1, e2]
    refine ok_b (a_pamphlets h v r) (fun S r => ?_)
    rw [if_pos (nI_le (Nat.le_refl _) (by omega))]
    refine ok_b (a_readingOf h v r hp) (fun S r => ?_)
    exact ap_209 h v hp d1 d2 K (rc_ W.1 p (p + 1) - 1) 1 pq_fuel S (by omega) (Nat.le_refl _) (fuel_lt (by omega)) r
  | succ m ih =>
    intro o n S ho hn r
    obtain ⟨n, rfl⟩ : ∃ k, n = k + 1 := ⟨n - 1, by omega⟩
    rw [F_L_arePamphlets_b73.eq_2]
    refine ok_b (a_pamphlets h v r) (fun S r => ?_)
    rw [if_neg (nI_ge (by omega) (by omega))]
    exact ap_88 h v hp (o := o) (by omega) (fun S r => ih (o + 1) n S (by omega) (by omega) r) (W.1.pm p).qc 0 pq_fuel S (by omega) (fuel_lt (by have := v16 hT hp; omega)) r
theorem ap_42 (h : sh_G G x) (v : vW W) (hp : p < W.1.cnt) {c4 : pq_N → Nat → Int32 → Int32 → Option (Int32 × pq_N)} {x1 : Int32} (d1 : ¬ (W.1.pm p).pd < x1) (d2 : ¬ W.1.day < (W.1.pm p).pd) (K : ∀ S, rC S x W → ok x W (c4 S x (W.1.pm p).pd (nI (p + 1))) 1) : ∀ (m k n : Nat) (S : pq_N), k + m = ((W.1.pm p).wc + 7) / 8 → m < n → rC S x W → ok x W (F_L_arePamphlets_b42 G c4 n S x x1 (nI p) (nI (W.1.pm p).wc) (nI (min (8 * k) (W.1.pm p).wc)) 1 (nI (c0q W.1 p)) (nI k)) 1 := by
  have hT := vW_t v
  have h20 := hT.1
  have h60 := v60 hT hp
  intro m
  induction m with
  | zero =>
    intro k n S hk hn r
    obtain ⟨n, rfl⟩ : ∃ k, n = k + 1 := ⟨n - 1, by omega⟩
    rw [F_L_arePamphlets_b42.eq_2]
    refine ok_b (a_pagesOf h v r hp) (fun S r => ?_)
    rw [if_pos (nI_le (by omega) (by omega)), Nat.min_eq_right (by omega)]
    exact ap_73 h v hp d1 d2 K W.1.cnt 0 pq_fuel S (by omega) (fuel_lt (by omega)) r
  | succ m ih =>
    intro k n S hk hn r
    obtain ⟨n, rfl⟩ : ∃ k, n = k + 1 := ⟨n - 1, by omega⟩
    rw [F_L_arePamphlets_b42.eq_2]
    refine ok_b (a_pagesOf h v r hp) (fun S r => ?_)
    rw [if_neg (nI_ge (by omega) (by omega))]
    refine ok_b (a_wordsOn h v r hp (k := k) (by omega)) (fun S r => ?_)
    have i := ih (k + 1) n S (by omega) (by omega) r
    have e : min (8 * (k + 1)) (W.1.pm p).wc = min (8 * k) (W.1.pm p).wc + min ((W.1.pm p).wc - 8 * k) 8 := by omega
    rw [e] at i
    rw [nI_add, nI_1]
    exact i
theorem ap_4 (h : sh_G G x) (v : vW W) {d : Nat} {pp : Nat → Nat} (hd : d ≤ 1000000) (ed : W.1.day = nI d) (hp : ∀ j, j < W.1.cnt → (W.1.pm j).pd = nI (pp j) ∧ pp j ≤ d ∧ ∀ i, i ≤ j → pp i ≤ pp j) : ∀ (m p n prev : Nat) (S : pq_N), p + m = W.1.cnt → m < n → prev ≤ d → (∀ j, p ≤ j → j < W.1.cnt → prev ≤ pp j) → rC S x W → ok x W (F_L_arePamphlets_b4 G n S x (nI prev) (nI p)) 1 := by
  have hT := vW_t v
  have h20 := hT.1
  intro m
  induction m with
  | zero =>
    intro p n prev S hpm hn hpd hpr r
    obtain ⟨n, rfl⟩ : ∃ k, n = k + 1 := ⟨n - 1, by omega⟩
    rw [F_L_arePamphlets_b4.eq_2]
    refine ok_b (a_pamphlets h v r) (fun S r => ?_)
    rw [if_pos (nI_le (by omega) (by omega))]
    refine ok_b (a_pamphlets h v r) (fun S r => ?_)
    rw [if_neg (nI_pos (by omega))]
    refine ok_b (a_pamphlets h v r) (fun S r => ?_)
    rw [if_neg (show ¬ (20 : Int32) < nI W.1.cnt from nI_nlt (a := 20) (by omega) (by omega))]
    exact ok_r r
  | succ m ih =>
    intro p n prev S hpm hn hpd hpr r
    obtain ⟨n, rfl⟩ : ∃ k, n = k + 1 := ⟨n - 1, by omega⟩
    have hpc : p < W.1.cnt := by omega
    have h1 := hp p hpc
    have h2 := hpr p (Nat.le_refl _) hpc
    rw [F_L_arePamphlets_b4.eq_2]
    refine ok_b (a_pamphlets h v r) (fun S r => ?_)
    rw [if_neg (nI_ge (by omega) (by omega))]
    refine ok_b (a_wordsOf h v r hpc) (fun S r => ?_)
    refine ok_b (a_quotationsOf h v r hpc) (fun S r => ?_)
    have k := fun (S : pq_N) (r : rC S x W) => ap_42 (x1 := nI prev) (c4 := F_L_arePamphlets_b4 G n) h v hpc (by rw [h1.1]; exact nI_nlt h2 (by omega)) (by rw [h1.1, ed]; exact nI_nlt h1.2.1 (by omega)) (fun S r => by
      rw [h1.1]
      exact ih (p + 1) n (pp p) S (by omega) (by omega) h1.2.1 (fun j g1 g2 => (hp j g2).2.2 p (by omega)) r) (((W.1.pm p).wc + 7) / 8) 0 pq_fuel S (by omega) (fuel_lt (by have := v60 hT hpc; omega)) r
    have e0 : min (8 * 0) (W.1.pm p).wc = 0 := by omega
    rw [e0] at k
    have h16 := v16 hT hpc
    by_cases z : (W.1.pm p).qc = 0
    · have ec : c0q W.1 p = 1 := if_pos z
      rw [ec] at k
      rw [if_pos (by rw [z]; rfl)]
      exact k S r
    · have ec : c0q W.1 p = 0 := if_neg z
      rw [ec] at k
      rw [if_neg (nI_ne0 (by omega) (by omega))]
      exact k S r
theorem l_arePamphlets (h : sh_G G x) (v : vW W) {b : Nat} (hb : b ≤ 1000000) (t : wT b W.1) {S : pq_N} (r : rC S x W) : ok x W (F_L_arePamphlets G S x) 1 := by
  obtain ⟨d, pp, hd, ed, hp⟩ := t
  exact ap_4 h v (by omega) ed (fun j hj => ⟨(hp j hj).1, (hp j hj).2.1, (hp j hj).2.2.1⟩) W.1.cnt 0 pq_fuel 0 S (by omega) (fuel_lt (by have := (vW_t v).1; omega)) (Nat.zero_le _) (fun j _ _ => Nat.zero_le _) r
end AP
