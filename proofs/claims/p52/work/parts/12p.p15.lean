/-! THE CALLS THAT CHANGE, of the class; and what asks nothing -/
/-- the world: state, what is saved, the snapshot, the buffer -/
abbrev tW : Type := tT × Nat × (Nat → tT) × Bool × tT × Nat × (Nat → Nat)
def rC (S : pq_N) (x : Nat) : tW → Prop
  | (T, n, H, g, N, len, c) => rS S x 0 T ∧ rH S x n H ∧ S.1 (x + 192) 2 = nI (bN g) ∧ (g = true → rS S x 1 N) ∧ rB S x len c
def vW : tW → Prop
  | (T, n, H, g, N, len, c) => vT T ∧ n ≤ 5 ∧ (∀ k, k < n → vT (H k)) ∧ (g = true → vT N) ∧ len ≤ 100 ∧ ∀ j, j < len → c j ≤ 126
theorem rC_fr {S S1 : pq_N} {x : Nat} {W : tW} (f : fr (x + 1343) (x + 1365) S S1) (v : vW W) (r : rC S x W) : rC S1 x W := by
  obtain ⟨T, n, H, g, N, len, c⟩ := W
  obtain ⟨r1, r2, r3, r4, r5⟩ := r
  have s1 : sh_s x 1 = x + 194 := rfl
  exact ⟨r0_fr f (by omega) v.1 r1, rH_fr f (by omega) r2, by rw [(f (x + 192) (by omega)).1]; exact r3, fun z => rS_fr f (by decide) (v.2.2.2.1 z).1 (by omega) (r4 z), rB_fr f (by omega) r5⟩
/-- a call that changes -/
def cc_ (x : Nat) (S : pq_N) {α : Type} (F : Option (α × pq_N)) (r : α) (W : tW) : Prop := ∃ S1, F = some (r, S1) ∧ fr x (x + 1365) S S1 ∧ rC S1 x W ∧ vW W
theorem cc_q {x : Nat} {S : pq_N} {F : Option ((Nat ⊕ Int32) × pq_N)} {r : Nat ⊕ Int32} {W : tW} (v : vW W) (rc : rC S x W) (h : qq x S F r) : cc_ x S F r W := by
  obtain ⟨S1, h1, h2⟩ := h
  exact ⟨S1, h1, fr_mo h2 (by omega) (by omega), rC_fr h2 v rc, v⟩
theorem cc_i {x : Nat} {S S1 : pq_N} {α : Type} {F : Option (α × pq_N)} {r : α} {W : tW} (v : vW W) (rc : rC S x W) (h1 : F = some (r, S1)) (h2 : fr (x + 1343) (x + 1365) S S1) : cc_ x S F r W := ⟨S1, h1, fr_mo h2 (by omega) (by omega), rC_fr h2 v rc, v⟩
/-- texts -/
def ac (len : Nat) (k : Nat × tA) : Bool := k.1 == len && (k.2.1 == 2 || k.2.1 == 7 || k.2.1 == 8)
def tx (c : Nat → Nat) (len : Nat) (au pd : Int32) : Nat × tA := rn c len 0 (s0 au pd)
def wyS (T : tT) (P : tP) : Bool := (fi (fun q => !decide (P.qs q < T.cnt)) 0 P.qc).isSome
def wyD (T : tT) (P : tP) : Bool := (fi (fun q => (T.pm (P.qs q)).pd == T.day) 0 P.qc).isSome
def wy (T : tT) (len : Nat) (k : Nat × tA) : Nat := if 20 ≤ T.cnt then 1 else if ac len k then (if wyS T k.2.2.2.2 then 3 else if wyD T k.2.2.2.2 then 4 else 0) else 2
section CW
variable {G : pq_G} {x : Nat} {T N : tT} {n len : Nat} {H : Nat → tT} {g : Bool} {c : Nat → Nat} {S : pq_N} {a b : Int32}
theorem k_day (h : sh_G G x) (v : vW (T, n, H, g, N, len, c)) (r : rC S x (T, n, H, g, N, len, c)) : cc_ x S (F_X10_day G S x) T.day (T, n, H, g, N, len, c) := by
  refine cc_i v r (S1 := S) ?_ fr_rfl
  unfold F_X10_day
  rw [(sh_st h).1, r0_day r.1]
theorem k_pamphlets (h : sh_G G x) (v : vW (T, n, H, g, N, len, c)) (r : rC S x (T, n, H, g, N, len, c)) : cc_ x S (F_X10_pamphlets G S x) (nI T.cnt) (T, n, H, g, N, len, c) := by
  refine cc_i v r (S1 := S) ?_ fr_rfl
  unfold F_X10_pamphlets
  rw [(sh_st h).1, r0_cnt r.1]
theorem k_savedStates (h : sh_G G x) (v : vW (T, n, H, g, N, len, c)) (r : rC S x (T, n, H, g, N, len, c)) : cc_ x S (F_X10_savedStates G S x) (nI n) (T, n, H, g, N, len, c) := by
  obtain ⟨-, -, -, -, e4, -⟩ := r.2.1
  refine cc_i v r (S1 := S) ?_ fr_rfl
  unfold F_X10_savedStates
  rw [(sh_st h).2.1, e4]
theorem k_glossary (h : sh_G G x) (v : vW (T, n, H, g, N, len, c)) (r : rC S x (T, n, H, g, N, len, c)) : cc_ x S (F_X10_glossary G S x) (nI (gn T)) (T, n, H, g, N, len, c) := by
  obtain ⟨S1, k1, k2, k3, -⟩ := c_gather h v.1 r.1
  refine cc_i v r (S1 := S1) ?_ (fr_mo k2 (by omega) (by omega))
  unfold F_X10_glossary
  rw [(sh_st h).1, (sh_st h).2.2.2.2.2.2, pq_bd1 k1, k3]
/-- blame of all -/
def zba (T : tT) : Nat := su (fun k => zw T (nI k) (-1)) 8
def zbs (T : tT) : Nat := su (zu T) T.cnt
theorem ba_loop (h : sh_G G x) (v : vT T) : ∀ (m k f : Nat) (S : pq_N), k + m = 8 → m < f → rS S x 0 T → ∃ S1, F_X10_blameByAuthors_b4 G f S x (nI (su (fun k => zw T (nI k) (-1)) k)) (nI k) = some (nI (zba T), S1) ∧ fr (x + 1343) (x + 1365) S S1 := by
  intro m
  induction m with
  | zero =>
    intro k f S hkm hf r
    obtain ⟨f, rfl⟩ : ∃ k, f = k + 1 := ⟨f - 1, by omega⟩
    have e : k = 8 := by omega
    subst e
    rw [F_X10_blameByAuthors_b4.eq_2, if_pos (by decide)]
    exact ⟨S, rfl, fr_rfl⟩
  | succ m ih =>
    intro k f S hkm hf r
    obtain ⟨f, rfl⟩ : ∃ k, f = k + 1 := ⟨f - 1, by omega⟩
    obtain ⟨S1, k1, k2⟩ := c_written h v (a := nI k) (o := -1) r
    rw [F_X10_blameByAuthors_b4.eq_2, show (8 : Int32) = nI 8 from rfl, if_neg (nI_ge (by omega) (by omega)), (sh_st h).1, (sh_st h).2.2.2.2.1, pq_bd1 k1, nI_add, nI_1]
    obtain ⟨S2, g1, g2⟩ := ih (k + 1) f S1 (by omega) (by omega) (r0_fr k2 (by omega) v r)
    exact ⟨S2, g1, fr_tr (fr_mo k2 (by omega) (by omega)) g2⟩
theorem k_blameByAuthors (h : sh_G G x) (v : vW (T, n, H, g, N, len, c)) (r : rC S x (T, n, H, g, N, len, c)) : cc_ x S (F_X10_blameByAuthors G S x) (nI (zba T)) (T, n, H, g, N, len, c) := by
  obtain ⟨S1, k1, k2⟩ := ba_loop h v.1 8 0 pq_fuel S (by omega) (fuel_lt (by omega)) r.1
  exact cc_i v r (S1 := S1) k1 k2
theorem bs_loop (h : sh_G G x) (v : vT T) : ∀ (m k f : Nat) (S : pq_N), k + m = T.cnt → m < f → rS S x 0 T → ∃ S1, F_X10_blameBySources_b4 G f S x (nI (su (zu T) k)) (nI k) = some (nI (zbs T), S1) ∧ fr (x + 1343) (x + 1365) S S1 := by
  have h20 := v.1
  intro m
  induction m with
  | zero =>
    intro k f S hkm hf r
    obtain ⟨f, rfl⟩ : ∃ k, f = k + 1 := ⟨f - 1, by omega⟩
    have e : k = T.cnt := by omega
    rw [F_X10_blameBySources_b4.eq_2, (sh_st h).1, r0_cnt r, if_pos (nI_le (by omega) (by omega)), e]
    exact ⟨S, rfl, fr_rfl⟩
  | succ m ih =>
    intro k f S hkm hf r
    obtain ⟨f, rfl⟩ : ∃ k, f = k + 1 := ⟨f - 1, by omega⟩
    obtain ⟨S1, k1, k2⟩ := c_suffered h v (s := k) (by omega) r
    rw [F_X10_blameBySources_b4.eq_2, (sh_st h).1, r0_cnt r, if_neg (nI_ge (by omega) (by omega)), (sh_st h).2.2.2.2.1, pq_bd1 k1, nI_add, nI_1]
    obtain ⟨S2, g1, g2⟩ := ih (k + 1) f S1 (by omega) (by omega) (r0_fr k2 (by omega) v r)
    exact ⟨S2, g1, fr_tr (fr_mo k2 (by omega) (by omega)) g2⟩
theorem k_blameBySources (h : sh_G G x) (v : vW (T, n, H, g, N, len, c)) (r : rC S x (T, n, H, g, N, len, c)) : cc_ x S (F_X10_blameBySources G S x) (nI (zbs T)) (T, n, H, g, N, len, c) := by
  obtain ⟨S1, k1, k2⟩ := bs_loop h v.1 T.cnt 0 pq_fuel S (by omega) (fuel_lt (by have := v.1.1; omega)) r.1
  exact cc_i v r (S1 := S1) k1 k2
/-- the share -/
def zfa (T : tT) : Nat := su (fun p => (T.pm p).qc) T.cnt
def zfg (T : tT) : Nat := su (zf T) T.cnt
def zsh (T : tT) : UInt64 := if zfa T = 0 then FP.dconst0 else FP.ddiv (FP.i2d (nI (zfg T))) (FP.i2d (nI (zfa T)))
theorem su_le {f : Nat → Nat} {b : Nat} : ∀ {k}, (∀ i, i < k → f i ≤ b) → su f k ≤ b * k
  | 0, _ => Nat.zero_le _
  | k + 1, h => by
    have h1 := su_le (k := k) (fun i hi => h i (by omega))
    have h2 := h k (by omega)
    have e : b * (k + 1) = b * k + b := Nat.mul_succ b k
    show su f k + f k ≤ _
    omega
theorem zfg_le (v : vT T) : zfg T ≤ 16 * T.cnt := su_le (fun i hi => Nat.le_trans (m := 1 * (T.pm i).qc) (su_le (b := 1) (fun q _ => by unfold zf1; split <;> omega)) (by have := v16 v hi; omega))
theorem fs_loop (h : sh_G G x) (v : vT T) : ∀ (m k f : Nat) (S : pq_N), k + m = T.cnt → m < f → rS S x 0 T → ∃ S1, F_X10_faithfulShare_b6 G f S x (nI (su (fun p => (T.pm p).qc) k)) (nI (su (zf T) k)) (nI k) = some (zsh T, S1) ∧ fr (x + 1343) (x + 1365) S S1 := by
  have h20 := v.1
  intro m
  induction m with
  | zero =>
    intro k f S hkm hf r
    obtain ⟨f, rfl⟩ : ∃ k, f = k + 1 := ⟨f - 1, by omega⟩
    have e : k = T.cnt := by omega
    have hb : zfa T ≤ 16 * T.cnt := su_le (fun i hi => v16 v hi)
    rw [F_X10_faithfulShare_b6.eq_2, (sh_st h).1, r0_cnt r, if_pos (nI_le (by omega) (by omega)), e]
    refine ⟨S, ?_, fr_rfl⟩
    show (if nI (zfa T) = (0 : Int32) then _ else _) = _
    unfold zsh
    by_cases z : zfa T = 0
    · rw [if_pos z, if_pos (by rw [z]; rfl)]
    · have nz := nI_ne0 (n := zfa T) (by omega) (by omega)
      rw [if_neg z, if_neg nz, if_neg (fun q => q (div_n (x := zfg T) (y := zfa T) (by have := zfg_le v; omega) (by omega) z))]
      rfl
  | succ m ih =>
    intro k f S hkm hf r
    obtain ⟨f, rfl⟩ : ∃ k, f = k + 1 := ⟨f - 1, by omega⟩
    obtain ⟨S1, k1, k2⟩ := c_faithful h v (j := k) (by omega) r
    rw [F_X10_faithfulShare_b6.eq_2, (sh_st h).1, r0_cnt r, if_neg (nI_ge (by omega) (by omega)), (sh_st h).2.2.2.2.1, pq_bd1 (f_sat0 (j := k) h (by omega)), pq_bd1 k1, r_qc (j := k) r (by omega), nI_add, nI_add, nI_1]
    obtain ⟨S2, g1, g2⟩ := ih (k + 1) f S1 (by omega) (by omega) (r0_fr k2 (by omega) v r)
    exact ⟨S2, g1, fr_tr (fr_mo k2 (by omega) (by omega)) g2⟩
theorem k_faithfulShare (h : sh_G G x) (v : vW (T, n, H, g, N, len, c)) (r : rC S x (T, n, H, g, N, len, c)) : cc_ x S (F_X10_faithfulShare G S x) (zsh T) (T, n, H, g, N, len, c) := by
  obtain ⟨S1, k1, k2⟩ := fs_loop h v.1 T.cnt 0 pq_fuel S (by omega) (fuel_lt (by have := v.1.1; omega)) r.1
  exact cc_i v r (S1 := S1) k1 k2
theorem k_errorPosition (h : sh_G G x) (v : vW (T, n, H, g, N, len, c)) (r : rC S x (T, n, H, g, N, len, c)) : ∃ au pd, cc_ x S (F_X10_errorPosition G S x) (nI (tx c len au pd).1) (T, n, H, g, N, len, c) := by
  have v0 := v
  obtain ⟨-, -, -, -, vl, vc⟩ := v
  obtain ⟨S1, k1, k2, k3, k4⟩ := c_read h (S := S) vl (fun j hj => by have := vc j hj; omega) r.2.2.2.2
  refine ⟨S.1 (x + 1344) 4, S.1 (x + 1344) 5, cc_i v0 r (S1 := S1) ?_ (fr_mo k2 (by omega) (by omega))⟩
  unfold F_X10_errorPosition
  rw [(sh_st h).2.2.1, (sh_st h).2.2.2.1, pq_bd1 k1, k3]
  rfl
theorem c_atEnd (h : sh_G G x) {s : Nat × tA} (hs : s.1 ≤ 100) (hp : 1 ≤ s.2.1 ∧ s.2.1 ≤ 8) (hl : len ≤ 100) (rb : rB S x len c) (e1 : S.1 (x + 1343) 1 = nI s.1) (rr : rR S x s.2) : F_X6_isAtEndOfText G S (x + 1343) (x + 1340) = some (nI (bN (ac len s)), S) := by
  obtain ⟨k, pl, lt, bg, P⟩ := s
  obtain ⟨r2, -⟩ := rr
  unfold F_X6_isAtEndOfText
  have hp2 : pl ≤ 8 := hp.2
  have hk : k ≤ 100 := hs
  have e1' : S.1 (x + 1343) 1 = nI k := e1
  have ea : ac len (k, pl, lt, bg, P) = (k == len && (pl == 2 || pl == 7 || pl == 8)) := rfl
  rw [e1', rb.1, r2, if_eqI (by omega) (by omega), show (2 : Int32) = nI 2 from rfl, show (7 : Int32) = nI 7 from rfl, show (8 : Int32) = nI 8 from rfl, if_eqI (by omega) (by omega), if_eqI (by omega) (by omega), if_eqI (by omega) (by omega), ea]
  by_cases c1 : k = len
  · rw [if_pos c1, show (k == len) = true from by simpa using c1]
    by_cases c2 : pl = 2
    · rw [if_pos c2, c2]; rfl
    · rw [if_neg c2, show (pl == 2) = false from by simpa using c2]
      by_cases c3 : pl = 7
      · rw [if_pos c3, c3]; rfl
      · rw [if_neg c3, show (pl == 7) = false from by simpa using c3]
        by_cases c4 : pl = 8
        · rw [if_pos c4, c4]; rfl
        · rw [if_neg c4, show (pl == 8) = false from by simpa using c4]; rfl
  · rw [if_neg c1, show (k == len) = false from by simpa using c1]; rfl
theorem hs_loop (h : sh_G G x) (v : vT T) {p : Nat} {P : tP} (hp : pq_ok G 4 p) (hq : P.qc ≤ 16) (hs : ∀ q, q < P.qc → P.qs q < 20) (r : rS S x 0 T) (rp : rP S p P) : ∀ (m q f : Nat), q + m = P.qc → m < f → F_X9_hasSourcesOf_b2 G f S (x + 1) p (nI q) = some (nI (if (fi (fun q => !decide (P.qs q < T.cnt)) q m).isSome then 0 else 1), S) := by
  have h20 := v.1
  intro m
  induction m with
  | zero =>
    intro q f hqm hf
    obtain ⟨f, rfl⟩ : ∃ k, f = k + 1 := ⟨f - 1, by omega⟩
    rw [F_X9_hasSourcesOf_b2.eq_2, rp.2.2.2.1, if_pos (nI_le (by omega) (by omega))]; rfl
  | succ m ih =>
    intro q f hqm hf
    obtain ⟨f, rfl⟩ : ∃ k, f = k + 1 := ⟨f - 1, by omega⟩
    have hsq := hs q (by omega)
    have e1 : F_X9_has G S (x + 1) (nI (P.qs q)) = some (nI (if P.qs q < T.cnt then 1 else 0), S) := by
      unfold F_X9_has
      rw [if_neg (nI_pos (by omega)), r0_cnt r, if_leI (by omega) (by omega)]
      by_cases z : P.qs q < T.cnt
      · rw [if_neg (by omega), if_pos z]; rfl
      · rw [if_pos (by omega), if_neg z]; rfl
    rw [F_X9_hasSourcesOf_b2.eq_2, rp.2.2.2.1, if_neg (nI_ge (by omega) (by omega)), pq_bd1 (g_src h hp rp hq (by omega)), pq_bd1 e1, nI_1]
    by_cases z : P.qs q < T.cnt
    · have e : fi (fun q => !decide (P.qs q < T.cnt)) q (m + 1) = fi (fun q => !decide (P.qs q < T.cnt)) (q + 1) m := if_neg (by simpa using z)
      rw [if_pos z, if_neg (by decide), e]
      exact ih (q + 1) f (by omega) (by omega)
    · have e : fi (fun q => !decide (P.qs q < T.cnt)) q (m + 1) = some q := if_pos (by simpa using z)
      rw [if_neg z, if_pos (by decide), e]; rfl
theorem hd_loop (h : sh_G G x) (v : vT T) {p : Nat} {P : tP} (hp : pq_ok G 4 p) (hq : P.qc ≤ 16) (hs : ∀ q, q < P.qc → P.qs q < T.cnt) (r : rS S x 0 T) (rp : rP S p P) : ∀ (m q f : Nat), q + m = P.qc → m < f → F_X9_isSourceOfToday_b2 G f S (x + 1) p (nI q) = some (nI (if (fi (fun q => (T.pm (P.qs q)).pd == T.day) q m).isSome then 1 else 0), S) := by
  have h20 := v.1
  intro m
  induction m with
  | zero =>
    intro q f hqm hf
    obtain ⟨f, rfl⟩ : ∃ k, f = k + 1 := ⟨f - 1, by omega⟩
    rw [F_X9_isSourceOfToday_b2.eq_2, rp.2.2.2.1, if_pos (nI_le (by omega) (by omega))]; rfl
  | succ m ih =>
    intro q f hqm hf
    obtain ⟨f, rfl⟩ : ∃ k, f = k + 1 := ⟨f - 1, by omega⟩
    have hsq := hs q (by omega)
    rw [F_X9_isSourceOfToday_b2.eq_2, rp.2.2.2.1, if_neg (nI_ge (by omega) (by omega)), pq_bd1 (g_src h hp rp hq (by omega)), pq_bd1 (f_sat0 (j := P.qs q) h (by omega)), r_pd r hsq, r0_day r, nI_1]
    by_cases z : (T.pm (P.qs q)).pd = T.day
    · have e : fi (fun q => (T.pm (P.qs q)).pd == T.day) q (m + 1) = some q := if_pos (by simpa using z)
      rw [if_pos z, e]; rfl
    · have e : fi (fun q => (T.pm (P.qs q)).pd == T.day) q (m + 1) = fi (fun q => (T.pm (P.qs q)).pd == T.day) (q + 1) m := if_neg (by simpa using z)
      rw [if_neg z, e]
      exact ih (q + 1) f (by omega) (by omega)
theorem tx_i {au pd : Int32} : iA (tx c len au pd).1 (tx c len au pd).2 ∧ (tx c len au pd).1 ≤ len := rn_i len 0 (s0 au pd) (by omega) s0_i
theorem tx_v {au pd : Int32} (hl : len ≤ 100) : vQ (tx c len au pd).2.2.2.2 ∧ (tx c len au pd).2.2.2.2.qc ≤ 16 ∧ (tx c len au pd).2.2.2.2.wc ≤ 60 := by
  obtain ⟨i, hk⟩ := tx_i (c := c) (len := len) (au := au) (pd := pd)
  generalize tx c len au pd = s at *
  obtain ⟨k, pl, lt, bg, P⟩ := s
  obtain ⟨vq0, i⟩ := i
  have hk' : k ≤ len := hk
  refine ⟨vq0, ?_, ?_⟩
  · show P.qc ≤ 16; omega
  · show P.wc ≤ 60; omega
theorem c_why (h : sh_G G x) (v : vW (T, n, H, g, N, len, c)) (r : rC S x (T, n, H, g, N, len, c)) : ∃ au pd S1, F_X10_whyNotPrinted G S x = some (nI (wy T len (tx c len au pd)), S1) ∧ fr (x + 1343) (x + 1365) S S1 ∧ (T.cnt < 20 → rP S1 (x + 1344) (tx c len au pd).2.2.2.2) := by
  obtain ⟨v1, -, -, -, vl, vc⟩ := v
  have h20 := v1.1
  have kk := sh_rd h
  refine ⟨S.1 (x + 1344) 4, S.1 (x + 1344) 5, ?_⟩
  unfold F_X10_whyNotPrinted wy
  rw [(sh_st h).1, (sh_st h).2.2.1, (sh_st h).2.2.2.1, r0_cnt r.1, show (20 : Int32) = nI 20 from rfl, if_ltI (by omega) (by omega)]
  by_cases c1 : T.cnt < 20
  · obtain ⟨S1, k1, k2, k3, k4⟩ := c_read h (S := S) vl (fun j hj => by have := vc j hj; omega) r.2.2.2.2
    have r1 := r0_fr k2 (by omega) v1 r.1
    have hx := tx_i (c := c) (len := len) (au := S.1 (x + 1344) 4) (pd := S.1 (x + 1344) 5)
    have hv := tx_v (c := c) (au := S.1 (x + 1344) 4) (pd := S.1 (x + 1344) 5) vl
    have rb1 := rB_fr k2 (Or.inl (Nat.le_refl _)) r.2.2.2.2
    have ke := c_atEnd h (s := tx c len (S.1 (x + 1344) 4) (S.1 (x + 1344) 5)) (by omega) (iA_pl hx.1) vl rb1 k3 k4
    have k4' : rP S1 (x + 1344) (tx c len (S.1 (x + 1344) 4) (S.1 (x + 1344) 5)).2.2.2.2 := k4.2.2.2
    generalize tx c len (S.1 (x + 1344) 4) (S.1 (x + 1344) 5) = s at *
    have f1 : fr (x + 1343) (x + 1365) S S1 := fr_mo k2 (by omega) (by omega)
    rw [if_pos c1, pq_bd1 k1, pq_bd1 ke, if_neg (show ¬ 20 ≤ T.cnt by omega), kk.1]
    by_cases c2 : ac len s = true
    · have e2 : bN (ac len s) = 1 := by rw [c2]; rfl
      have e3 : F_X9_hasSourcesOf G S1 (x + 1) (x + 1344) = some (nI (if wyS T s.2.2.2.2 then 0 else 1), S1) := hs_loop h v1 kk.2.2.2 hv.2.1 (fun q hq => (hv.1 q hq).2.2.1) r1 k4' s.2.2.2.2.qc 0 pq_fuel (by omega) (fuel_lt (by omega))
      rw [e2, if_neg (by decide), if_pos c2, pq_bd1 e3]
      by_cases c3 : wyS T s.2.2.2.2 = true
      · rw [if_pos c3, if_pos (by decide), if_pos c3]
        exact ⟨S1, rfl, f1, fun _ => k4'⟩
      · have hall : ∀ q, q < s.2.2.2.2.qc → s.2.2.2.2.qs q < T.cnt := fun q hq => by
          have c3' : (fi (fun q => !decide (s.2.2.2.2.qs q < T.cnt)) 0 s.2.2.2.2.qc) = none := by
            cases z : fi (fun q => !decide (s.2.2.2.2.qs q < T.cnt)) 0 s.2.2.2.2.qc with
            | none => rfl
            | some k => exact absurd (show wyS T s.2.2.2.2 = true by unfold wyS; rw [z]; rfl) c3
          have := fi_none c3' q (by omega) (by omega)
          simpa using this
        have e4 : F_X9_isSourceOfToday G S1 (x + 1) (x + 1344) = some (nI (if wyD T s.2.2.2.2 then 1 else 0), S1) := hd_loop h v1 kk.2.2.2 hv.2.1 hall r1 k4' s.2.2.2.2.qc 0 pq_fuel (by omega) (fuel_lt (by omega))
        rw [if_neg c3, if_neg (by decide), if_neg c3, pq_bd1 e4]
        by_cases c4 : wyD T s.2.2.2.2 = true
        · rw [if_pos c4, if_neg (by decide), if_pos c4]
          exact ⟨S1, rfl, f1, fun _ => k4'⟩
        · rw [if_neg c4, if_pos (by decide), if_neg c4]
          exact ⟨S1, rfl, f1, fun _ => k4'⟩
    · have e2 : bN (ac len s) = 0 := by
        have : ac len s = false := by simpa using c2
        rw [this]; rfl
      rw [e2, if_pos (by decide), if_neg c2]
      exact ⟨S1, rfl, f1, fun _ => k4'⟩
  · rw [if_neg c1, if_pos (by omega)]
    exact ⟨S, rfl, fr_rfl, fun z => absurd z c1⟩
theorem k_whyNotPrinted (h : sh_G G x) (v : vW (T, n, H, g, N, len, c)) (r : rC S x (T, n, H, g, N, len, c)) : ∃ au pd, cc_ x S (F_X10_whyNotPrinted G S x) (nI (wy T len (tx c len au pd))) (T, n, H, g, N, len, c) := by
  obtain ⟨au, pd, S1, k1, k2, -⟩ := c_why h v r
  exact ⟨au, pd, cc_i v r k1 k2⟩
end CW
