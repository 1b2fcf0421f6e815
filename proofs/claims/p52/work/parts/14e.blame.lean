/-! SUMS -/
theorem su_add {f g : Nat → Nat} : ∀ {n}, su (fun j => f j + g j) n = su f n + su g n
  | 0 => rfl
  | n + 1 => by
    show su (fun j => f j + g j) n + (f n + g n) = su f n + f n + (su g n + g n)
    rw [su_add (n := n)]
    omega
theorem su_sw {f : Nat → Nat → Nat} {n : Nat} : ∀ {m}, su (fun i => su (f i) n) m = su (fun j => su (fun i => f i j) m) n
  | 0 => (su_0 (f := fun j => su (fun i => f i j) 0) (fun _ _ => rfl)).symm
  | m + 1 => by
    show su (fun i => su (f i) n) m + su (f m) n = su (fun j => su (fun i => f i j) m + f m j) n
    rw [su_sw (m := m), su_add]
theorem su_one {P : Nat → Prop} [DecidablePred P] {X a : Nat} : ∀ {m}, a < m → (∀ k, k < m → (P k ↔ k = a)) → su (fun k => if P k then X else 0) m = X
  | 0, h, _ => absurd h (Nat.not_lt_zero _)
  | m + 1, h, hP => by
    show su (fun k => if P k then X else 0) m + (if P m then X else 0) = X
    by_cases c : a = m
    · subst c
      rw [if_pos ((hP a (Nat.lt_succ_self a)).mpr rfl), su_0 (fun i hi => if_neg (fun z => by
        have := (hP i (by omega)).mp z
        omega)), Nat.zero_add]
    · rw [su_one (m := m) (by omega) (fun k hk => hP k (by omega)), if_neg (fun z => c ((hP m (by omega)).mp z).symm)]
      rfl
theorem su_if {c : Prop} [Decidable c] {f : Nat → Nat} {m : Nat} : su (fun k => if c then f k else 0) m = if c then su f m else 0 := by
  by_cases z : c
  · rw [if_pos z]
    exact su_cg (fun i _ => if_pos z)
  · rw [if_neg z]
    exact su_0 (fun i _ => if_neg z)
/-- all changes; what comes from others -/
def zs2 (T : tT) (p : Nat) : Nat := su (zD T p) (T.pm p).qc
def zsum (T : tT) : Nat := su (zs2 T) T.cnt
def zr1 (T : tT) (p q : Nat) : Nat := if zp T p q = none then 0 else 1
def zr2 (T : tT) (p : Nat) : Nat := su (zr1 T p) (T.pm p).qc
def zfr (T : tT) : Nat := su (zr2 T) T.cnt
def zn2 (T : tT) (p : Nat) : Nat := su (zc T p) (T.pm p).qc
def zagain (T : tT) : Nat := su (zn2 T) T.cnt
def au8 (T : tT) : Prop := ∀ j, j < T.cnt → ∃ a, a < 8 ∧ (T.pm j).au = nI a
section SB
variable {T : tT}
theorem au_i {a k : Nat} (ha : a < 8) (hk : k < 8) : nI a = nI k ↔ k = a := by
  rw [nI_eq (by omega) (by omega)]
  exact eq_comm
theorem zba_eq (hA : au8 T) : zba T = zsum T := by
  unfold zba zsum
  show su (fun k => su (zw2 T (nI k) (-1)) T.cnt) 8 = _
  rw [su_sw]
  refine su_cg fun p hp => ?_
  obtain ⟨a, ha, e⟩ := hA p hp
  have e1 : su (zw1 T (-1) p) (T.pm p).qc = zs2 T p := su_cg fun q _ => if_pos (Or.inl rfl)
  show su (fun k => if (T.pm p).au = nI k then su (zw1 T (-1) p) (T.pm p).qc else 0) 8 = _
  rw [e1, e]
  exact su_one ha (fun k hk => au_i ha hk)
theorem zwr_eq (v : vT T) (hA : au8 T) (a : Int32) : su (fun b => zw T a (nI b)) 8 = zw T a (-1) := by
  show su (fun b => su (zw2 T a (nI b)) T.cnt) 8 = su (zw2 T a (-1)) T.cnt
  rw [su_sw]
  refine su_cg fun p hp => ?_
  show su (fun b => if (T.pm p).au = a then su (zw1 T (nI b) p) (T.pm p).qc else 0) 8 = if (T.pm p).au = a then su (zw1 T (-1) p) (T.pm p).qc else 0
  rw [su_if]
  congr 1
  rw [su_sw]
  refine su_cg fun q hq => ?_
  have hz := (vq v hp hq).2.2.2.1
  obtain ⟨c, hc, e⟩ := hA (zs T p q) (by omega)
  have e1 : zw1 T (-1) p q = zD T p q := if_pos (Or.inl rfl)
  rw [e1]
  show su (fun b => if nI b = -1 ∨ nI b = (T.pm (zs T p q)).au then zD T p q else 0) 8 = _
  rw [e]
  refine su_one (a := c) hc fun k hk => ?_
  have := nI_m1 (n := k) (by omega)
  rw [nI_eq (by omega) (by omega)]
  constructor
  · rintro (z | z)
    · exact absurd z this
    · exact z
  · exact Or.inr
theorem zbs_eq (v : vT T) : zbs T = zsum T := by
  unfold zbs zsum
  show su (fun s => su (zu2 T s) T.cnt) T.cnt = _
  rw [su_sw]
  refine su_cg fun p hp => ?_
  show su (fun s => su (zu1 T s p) (T.pm p).qc) T.cnt = su (zD T p) (T.pm p).qc
  rw [su_sw]
  refine su_cg fun q hq => ?_
  have hz := (vq v hp hq).2.2.2.1
  show su (fun s => if zs T p q = s then zD T p q else 0) T.cnt = _
  exact su_one (a := zs T p q) (by omega) fun k _ => eq_comm
theorem zagain_eq (v : vT T) : zagain T = zfr T := by
  unfold zagain zfr
  show su (fun j => su (fun q => su (zc2 T j q) T.cnt) (T.pm j).qc) T.cnt = _
  have e1 : su (fun j => su (fun q => su (zc2 T j q) T.cnt) (T.pm j).qc) T.cnt = su (fun j => su (fun p => su (fun q => zc2 T j q p) (T.pm j).qc) T.cnt) T.cnt := su_cg fun j _ => su_sw
  rw [e1, su_sw]
  refine su_cg fun p hp => ?_
  show su (fun j => su (fun q => su (zc1 T j q p) (T.pm p).qc) (T.pm j).qc) T.cnt = su (zr1 T p) (T.pm p).qc
  have e2 : su (fun j => su (fun q => su (zc1 T j q p) (T.pm p).qc) (T.pm j).qc) T.cnt = su (fun j => su (fun k => su (fun q => zc1 T j q p k) (T.pm j).qc) (T.pm p).qc) T.cnt := su_cg fun j _ => su_sw
  rw [e2, su_sw]
  refine su_cg fun k hk => ?_
  have hz := (vq v hp hk).2.2.2.1
  have e3 : ∀ j, su (fun q => zc1 T j q p k) (T.pm j).qc = if zs T p k = j then (if zp T p k = none then 0 else 1) else 0 := fun j => by
    by_cases c : zs T p k = j
    · rw [if_pos c]
      cases e : zp T p k with
      | none =>
        rw [if_pos rfl]
        refine su_0 fun q _ => ?_
        show (if zs T p k = j ∧ zp T p k = some q then 1 else 0) = 0
        rw [if_neg (fun z => by rw [e] at z; cases z.2)]
      | some q0 =>
        rw [if_neg (by intro z; cases z)]
        have hq0 := zp_lt e
        rw [c] at hq0
        show su (fun q => if zs T p k = j ∧ zp T p k = some q then 1 else 0) (T.pm j).qc = 1
        refine su_one hq0 fun i _ => ?_
        rw [e]
        constructor
        · intro z
          exact (Option.some.inj z.2).symm
        · intro z
          exact ⟨c, by rw [z]⟩
    · rw [if_neg c]
      refine su_0 fun q _ => ?_
      show (if zs T p k = j ∧ zp T p k = some q then 1 else 0) = 0
      rw [if_neg (fun z => c z.1)]
  rw [su_cg (fun j _ => e3 j)]
  exact su_one (a := zs T p k) (by omega) fun i _ => eq_comm
end SB
theorem zsh_b {T : tT} (v : vT T) : nnB (zsh T).toNat := by
  unfold zsh
  by_cases c : zfa T = 0
  · rw [if_pos c]
    exact ⟨by decide +kernel, by decide +kernel⟩
  · rw [if_neg c]
    have hb : zfa T ≤ 16 * T.cnt := su_le (fun i hi => v16 v hi)
    have h20 := v.1
    exact ddiv_b (by have := zfg_le v; omega) (by omega) c
theorem zsh_c {T : tT} (v : vT T) : Op.cmpValue (FP.dcmp (zsh T) (zsh T)) .l = (0 : Int32) := by
  rw [dcmp_s (zsh_b v)]; rfl
/-! BLAME, as the law looks at it -/
section IB
variable {G : pq_G} {x : Nat} {W : tW}
theorem ib_27 (h : sh_G G x) (v : vW W) {b : Nat} (hb : b ≤ 1000000) (t : wT b W.1) {p : Nat} (hp : p < W.1.cnt) {A B C D E : Nat} {c15 : pq_N → Nat → Int32 → Int32 → Int32 → Int32 → Int32 → Int32 → Option (Int32 × pq_N)} (K : ∀ S, rC S x W → ok x W (c15 S x (nI (A + (W.1.pm p).qc)) (nI (B + zf W.1 p)) (nI (C + zs2 W.1 p)) (nI (D + zn2 W.1 p)) (nI (E + zr2 W.1 p)) (nI (p + 1))) 1) : ∀ (m k n : Nat) (S : pq_N), k + m = (W.1.pm p).qc → m < n → rC S x W → ok x W (F_L_isBlame_b27 G c15 n S x (nI (A + k)) (nI (B + su (zf1 W.1 p) k)) (nI (C + su (zD W.1 p) k)) (nI (D + su (zc W.1 p) k)) (nI (E + su (zr1 W.1 p) k)) (nI p) (nI k)) 1 := by
  have hT := vW_t v
  have h16 := v16 hT hp
  intro m
  induction m with
  | zero =>
    intro k n S hk hn r
    obtain ⟨n, rfl⟩ : ∃ k, n = k + 1 := ⟨n - 1, by omega⟩
    have ek : k = (W.1.pm p).qc := by omega
    subst ek
    rw [F_L_isBlame_b27.eq_2]
    refine ok_b (a_quotationsOf h v r hp) (fun S r => ?_)
    rw [if_pos (nI_le (Nat.le_refl _) (by omega)), nI_1]
    exact K S r
  | succ m ih =>
    intro k n S hk hn r
    obtain ⟨n, rfl⟩ : ∃ k, n = k + 1 := ⟨n - 1, by omega⟩
    have hk' : k < (W.1.pm p).qc := by omega
    have hD := zD_lt hT hp hk'
    have tail : ∀ (S : pq_N) (y : Int32), rC S x W → y = nI (zf1 W.1 p k) → ok x W (F_L_isBlame_b62 G c15 (F_L_isBlame_b27 G c15 n) S x (nI (A + (k + 1))) (nI (C + su (zD W.1 p) k)) (nI (D + su (zc W.1 p) k)) (nI (E + su (zr1 W.1 p) k)) (nI p) (nI k) (nI (zD W.1 p k)) y (nI (B + su (zf1 W.1 p) k))) 1 := fun S y r ey => by
      have fin : ∀ (S : pq_N) (y' : Int32), rC S x W → y' = nI (zr1 W.1 p k) → ok x W (F_L_isBlame_b101 G c15 (F_L_isBlame_b27 G c15 n) S x (nI (A + (k + 1))) (nI (B + su (zf1 W.1 p) k) + y) (nI (C + su (zD W.1 p) k) + nI (zD W.1 p k)) (nI (D + su (zc W.1 p) k) + nI (zc W.1 p k)) (nI p) (nI k) y' (nI (E + su (zr1 W.1 p) k))) 1 := fun S y' r ey' => by
        unfold F_L_isBlame_b101
        refine ok_b (l_isQuotation h v hb t r hp hk') (fun S r => ?_)
        have i := ih (k + 1) n S (by omega) (by omega) r
        have e1 : B + su (zf1 W.1 p) (k + 1) = B + su (zf1 W.1 p) k + zf1 W.1 p k := (Nat.add_assoc _ _ _).symm
        have e2 : C + su (zD W.1 p) (k + 1) = C + su (zD W.1 p) k + zD W.1 p k := (Nat.add_assoc _ _ _).symm
        have e3 : D + su (zc W.1 p) (k + 1) = D + su (zc W.1 p) k + zc W.1 p k := (Nat.add_assoc _ _ _).symm
        have e4 : E + su (zr1 W.1 p) (k + 1) = E + su (zr1 W.1 p) k + zr1 W.1 p k := (Nat.add_assoc _ _ _).symm
        rw [e1, e2, e3, e4] at i
        rw [if_neg (by decide), ey, ey', nI_add, nI_add, nI_add, nI_add, nI_1]
        exact i
      unfold F_L_isBlame_b62
      refine ok_b (a_quotedAgain h v r hp hk') (fun S r => ?_)
      refine ok_b (a_comesFrom h v r hp hk') (fun S r => ?_)
      cases e : zp W.1 p k with
      | none =>
        rw [if_pos (show oI none = (-1 : Int32) from rfl)]
        exact fin S _ r (by unfold zr1; rw [if_pos e]; rfl)
      | some q' =>
        have hq' := zp_lt e
        have hz := vq hT hp hk'
        have h16' := v16 hT (j := zs W.1 p k) (by omega)
        rw [if_neg (show ¬ oI (some q') = (-1 : Int32) from nI_m1 (n := q') (by omega))]
        exact fin S _ r (by unfold zr1; rw [if_neg (by rw [e]; intro z; cases z)]; rfl)
    rw [F_L_isBlame_b27.eq_2]
    refine ok_b (a_quotationsOf h v r hp) (fun S r => ?_)
    rw [if_neg (nI_ge (by omega) (by omega))]
    refine ok_b (a_changesByTable h v r hp hk') (fun S r => ?_)
    rw [nI_1, Nat.add_assoc]
    by_cases z : zD W.1 p k = 0
    · rw [if_pos (show nI (zD W.1 p k) = (0 : Int32) by rw [z]; rfl)]
      exact tail S _ r (by unfold zf1; rw [if_pos z]; rfl)
    · rw [if_neg (nI_ne0 (by omega) (by omega))]
      exact tail S _ r (by unfold zf1; rw [if_neg z]; rfl)
theorem ib_159 (h : sh_G G x) (v : vW W) {a B : Nat} (ha : a < 8) {y1 y2 y3 y4 y5 y6 : Int32} {c138 : pq_N → Nat → Int32 → Int32 → Int32 → Int32 → Int32 → Int32 → Int32 → Int32 → Option (Int32 × pq_N)} (K : ∀ S, rC S x W → ok x W (c138 S x y1 y2 y3 y4 y5 y6 (nI (B + su (fun b => zw W.1 (nI a) (nI b)) 8)) (nI (a + 1))) 1) : ∀ (m k n : Nat) (S : pq_N), k + m = 8 → m < n → rC S x W → ok x W (F_L_isBlame_b159 G c138 n S x y1 y2 y3 y4 y5 y6 (nI (B + su (fun b => zw W.1 (nI a) (nI b)) k)) (nI a) (nI k)) 1 := by
  intro m
  induction m with
  | zero =>
    intro k n S hk hn r
    obtain ⟨n, rfl⟩ : ∃ k, n = k + 1 := ⟨n - 1, by omega⟩
    have ek : k = 8 := by omega
    subst ek
    rw [F_L_isBlame_b159.eq_2, if_pos (by decide), nI_1]
    exact K S r
  | succ m ih =>
    intro k n S hk hn r
    obtain ⟨n, rfl⟩ : ∃ k, n = k + 1 := ⟨n - 1, by omega⟩
    rw [F_L_isBlame_b159.eq_2, if_neg (show ¬ (8 : Int32) ≤ nI k from nI_ge (b := 8) (by omega) (by omega))]
    refine ok_b (a_wrongs h v r ha (k := k) (by omega)) (fun S r => ?_)
    have i := ih (k + 1) n S (by omega) (by omega) r
    have e : B + su (fun b => zw W.1 (nI a) (nI b)) (k + 1) = B + su (fun b => zw W.1 (nI a) (nI b)) k + zw W.1 (nI a) (nI k) := (Nat.add_assoc _ _ _).symm
    rw [e] at i
    rw [nI_add, nI_1]
    exact i
theorem wT_a {b : Nat} {T : tT} (t : wT b T) : au8 T := by
  obtain ⟨d, pp, hd, ed, hp⟩ := t
  exact fun j hj => (hp j hj).2.2.2.2.1
theorem ib_138 (h : sh_G G x) (v : vW W) (hA : au8 W.1) : ∀ (m a n : Nat) (S : pq_N), a + m = 8 → m < n → rC S x W → ok x W (F_L_isBlame_b138 G n S x (nI (zfa W.1)) (nI (zfg W.1)) (nI (zsum W.1)) (nI (zagain W.1)) (nI (zfr W.1)) (nI (su (fun k => zw W.1 (nI k) (-1)) a)) (nI (su (fun k => su (fun b => zw W.1 (nI k) (nI b)) 8) a)) (nI a)) 1 := by
  have hT := vW_t v
  have h20 := hT.1
  intro m
  induction m with
  | zero =>
    intro a n S ha hn r
    obtain ⟨n, rfl⟩ : ∃ k, n = k + 1 := ⟨n - 1, by omega⟩
    have ea : a = 8 := by omega
    subst ea
    have hb : zfa W.1 ≤ 16 * W.1.cnt := su_le (fun i hi => v16 hT hi)
    have e1 : su (fun k => zw W.1 (nI k) (-1)) 8 = zsum W.1 := zba_eq hA
    have e2 : su (fun k => su (fun b => zw W.1 (nI k) (nI b)) 8) 8 = zsum W.1 := by
      rw [← e1]
      exact su_cg fun k _ => zwr_eq hT hA (nI k)
    rw [F_L_isBlame_b138.eq_2, if_pos (by decide), e1, e2, if_pos rfl, if_pos rfl]
    refine ok_b (a_blameByAuthors h v r) (fun S r => ?_)
    rw [zba_eq hA, if_pos rfl]
    refine ok_b (a_blameBySources h v r) (fun S r => ?_)
    rw [zbs_eq hT, if_pos rfl, zagain_eq hT, if_pos rfl]
    refine ok_b (a_faithfulShare h v r) (fun S r => ?_)
    have hc := zsh_c hT
    unfold zsh at hc ⊢
    by_cases z : zfa W.1 = 0
    · rw [if_pos z] at hc ⊢
      rw [if_pos (by rw [z]; rfl), if_pos hc]
      exact ok_r r
    · have nz := nI_ne0 (n := zfa W.1) (by omega) (by omega)
      rw [if_neg z] at hc ⊢
      rw [if_neg nz, if_neg (fun q => q (div_n (x := zfg W.1) (y := zfa W.1) (by have := zfg_le hT; omega) (by omega) z)), if_pos hc]
      exact ok_r r
  | succ m ih =>
    intro a n S ha hn r
    obtain ⟨n, rfl⟩ : ∃ k, n = k + 1 := ⟨n - 1, by omega⟩
    rw [F_L_isBlame_b138.eq_2, if_neg (show ¬ (8 : Int32) ≤ nI a from nI_ge (b := 8) (by omega) (by omega))]
    refine ok_b (a_blameOf h v r (j := a) (by omega)) (fun S r => ?_)
    rw [nI_add]
    exact ib_159 (B := su (fun k => su (fun b => zw W.1 (nI k) (nI b)) 8) a) h v (a := a) (by omega) (fun S r => ih (a + 1) n S (by omega) (by omega) r) 8 0 pq_fuel S (by omega) (fuel_lt (by omega)) r
theorem ib_15 (h : sh_G G x) (v : vW W) {b : Nat} (hb : b ≤ 1000000) (t : wT b W.1) : ∀ (m p n : Nat) (S : pq_N), p + m = W.1.cnt → m < n → rC S x W → ok x W (F_L_isBlame_b15 G n S x (nI (su (fun p => (W.1.pm p).qc) p)) (nI (su (zf W.1) p)) (nI (su (zs2 W.1) p)) (nI (su (zn2 W.1) p)) (nI (su (zr2 W.1) p)) (nI p)) 1 := by
  have hT := vW_t v
  have h20 := hT.1
  intro m
  induction m with
  | zero =>
    intro p n S hp hn r
    obtain ⟨n, rfl⟩ : ∃ k, n = k + 1 := ⟨n - 1, by omega⟩
    have ep : p = W.1.cnt := by omega
    subst ep
    rw [F_L_isBlame_b15.eq_2]
    refine ok_b (a_pamphlets h v r) (fun S r => ?_)
    rw [if_pos (nI_le (Nat.le_refl _) (by omega))]
    exact ib_138 h v (wT_a t) 8 0 pq_fuel S (by omega) (fuel_lt (by omega)) r
  | succ m ih =>
    intro p n S hp hn r
    obtain ⟨n, rfl⟩ : ∃ k, n = k + 1 := ⟨n - 1, by omega⟩
    rw [F_L_isBlame_b15.eq_2]
    refine ok_b (a_pamphlets h v r) (fun S r => ?_)
    rw [if_neg (nI_ge (by omega) (by omega))]
    exact ib_27 (A := su (fun p => (W.1.pm p).qc) p) (B := su (zf W.1) p) (C := su (zs2 W.1) p) (D := su (zn2 W.1) p) (E := su (zr2 W.1) p) h v hb t (p := p) (by omega) (fun S r => ih (p + 1) n S (by omega) (by omega) r) (W.1.pm p).qc 0 pq_fuel S (by omega) (fuel_lt (by have := v16 hT (j := p) (by omega); omega)) r
theorem l_isBlame (h : sh_G G x) (v : vW W) {b : Nat} (hb : b ≤ 1000000) (t : wT b W.1) {S : pq_N} (r : rC S x W) : ok x W (F_L_isBlame G S x) 1 := ib_15 h v hb t W.1.cnt 0 pq_fuel S (by omega) (fuel_lt (by have := (vW_t v).1; omega)) r
end IB
