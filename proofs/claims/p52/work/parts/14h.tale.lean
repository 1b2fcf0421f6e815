/-! WHAT ALWAYS HOLDS -/
theorem wy_1 {T : tT} {len : Nat} {k : Nat × tA} (h : wy T len k = 1) : 20 ≤ T.cnt := by
  unfold wy at h
  by_cases c1 : 20 ≤ T.cnt
  · exact c1
  · rw [if_neg c1] at h
    (repeat' split at h) <;> omega
section HO
variable {G : pq_G} {x : Nat} {W : tW}
theorem ho_33 (h : sh_G G x) (v : vW W) {k : Nat} (hk : k ≤ 100) {S : pq_N} (r : rC S x W) : ok x W (F_L_holds_b33 G S x (nI k)) 1 := by
  have h20 := (vW_t v).1
  unfold F_L_holds_b33
  rw [if_neg (nI_pos (by omega)), if_neg (show ¬ (100 : Int32) < nI k from nI_nlt (a := 100) hk (by omega))]
  obtain ⟨au, pd, a⟩ := a_whyNotPrinted h v r
  have hw := wy_le (T := W.1) (len := W.2.2.2.2.2.1) (k := tx W.2.2.2.2.2.2 W.2.2.2.2.2.1 au pd)
  refine ok_b a (fun S r => ?_)
  by_cases c : nI (wy W.1 W.2.2.2.2.2.1 (tx W.2.2.2.2.2.2 W.2.2.2.2.2.1 au pd)) = 1
  · have c2 := (nI_eq (b := 1) (by omega) (by omega)).mp c
    have h2 := wy_1 c2
    rw [if_pos c]
    refine ok_b (a_pamphlets h v r) (fun S r => ?_)
    have e : W.1.cnt = 20 := by omega
    rw [if_pos (by rw [e]; rfl)]
    exact ok_r r
  · rw [if_neg c]
    exact ok_r r
theorem l_hold (h : sh_G G x) (v : vW W) {b : Nat} (hb : b ≤ 1000000) (t : wT b W.1) {y : Int32} {S : pq_N} (r : rC S x W) : ok x W (F_L_holds G S x y) 1 := by
  unfold F_L_holds
  obtain ⟨au, pd, a⟩ := a_errorPosition h v r
  have hp : (tx W.2.2.2.2.2.2 W.2.2.2.2.2.1 au pd).1 ≤ 100 := by
    have h1 := (tx_i (c := W.2.2.2.2.2.2) (len := W.2.2.2.2.2.1) (au := au) (pd := pd)).2
    have h2 : W.2.2.2.2.2.1 ≤ 100 := by
      obtain ⟨T, n, H, g, N, len, c⟩ := W
      exact v.2.2.2.2.1
    omega
  refine ok_b a (fun S r => ?_)
  refine ok_b (l_arePamphlets h v hb t r) (fun S r => ?_)
  rw [if_neg (by decide)]
  refine ok_b (l_isBlame h v hb t r) (fun S r => ?_)
  rw [if_neg (by decide)]
  by_cases c : y - y / (3 : Int32) * (3 : Int32) = (1 : Int32)
  · rw [if_pos c]
    refine ok_b (l_isGlossary h v t r) (fun S r => ?_)
    rw [if_neg (by decide)]
    exact ho_33 h v hp r
  · rw [if_neg c]
    exact ho_33 h v hp r
end HO
/-! THE TALE of a state: a number that it alone decides -/
def tq1 (T : tT) (p k : Nat) (h : Int64) : Int64 := ((31 : Int64) * (((31 : Int64) * (((31 : Int64) * h) + (Int32.toInt64 (nI (zs T p k))))) + (Int32.toInt64 (nI ((T.pm p).qb k))))) + (Int32.toInt64 (nI ((T.pm p).ql k)))
def tqs (T : tT) (p : Nat) : Nat → Nat → Int64 → Int64
  | 0, _, h => h
  | r + 1, k, h => tqs T p r (k + 1) (tq1 T p k h)
def tw1 (T : tT) (p k : Nat) (h : Int64) : Int64 := ((31 : Int64) * (((31 : Int64) * (((31 : Int64) * h) + (Int32.toInt64 (lI ((T.pm p).w k) (nI 0))))) + (Int32.toInt64 (lI ((T.pm p).w k) (nI 1))))) + (Int32.toInt64 (lI ((T.pm p).w k) (nI 2)))
def tws (T : tT) (p : Nat) : Nat → Nat → Int64 → Int64
  | 0, _, h => h
  | r + 1, k, h => tws T p r (k + 1) (tw1 T p k h)
def tp1 (T : tT) (p : Nat) (h : Int64) : Int64 := tqs T p (T.pm p).qc 0 (tws T p (T.pm p).wc 0 (((31 : Int64) * (((31 : Int64) * (((31 : Int64) * h) + (Int32.toInt64 (T.pm p).au))) + (Int32.toInt64 (T.pm p).pd))) + (Int32.toInt64 (nI (T.pm p).wc))))
def tps (T : tT) : Nat → Nat → Int64 → Int64
  | 0, _, h => h
  | r + 1, p, h => tps T r (p + 1) (tp1 T p h)
def tl (T : tT) : Int64 := tps T T.cnt 0 (((31 : Int64) * (Int32.toInt64 T.day)) + (Int32.toInt64 (nI T.cnt)))
section TL
variable {G : pq_G} {x : Nat} {W : tW} {p : Nat}
theorem tl_127 (h : sh_G G x) (v : vW W) (hp : p < W.1.cnt) {R : Int64} {c18 : pq_N → Nat → Int64 → Int32 → Option (Int64 × pq_N)} : ∀ (m k n : Nat) (S : pq_N) (y : Int64), k + m = (W.1.pm p).qc → m < n → (∀ S, rC S x W → ok x W (c18 S x (tqs W.1 p m k y) (nI (p + 1))) R) → rC S x W → ok x W (F_L_tale_b127 G c18 n S x y (nI p) (nI k)) R := by
  have hT := vW_t v
  have h16 := v16 hT hp
  intro m
  induction m with
  | zero =>
    intro k n S y hk hn K r
    obtain ⟨n, rfl⟩ : ∃ k, n = k + 1 := ⟨n - 1, by omega⟩
    rw [F_L_tale_b127.eq_2]
    refine ok_b (a_quotationsOf h v r hp) (fun S r => ?_)
    rw [if_pos (nI_le (by omega) (by omega)), nI_1]
    exact K S r
  | succ m ih =>
    intro k n S y hk hn K r
    obtain ⟨n, rfl⟩ : ∃ k, n = k + 1 := ⟨n - 1, by omega⟩
    have hq : k < (W.1.pm p).qc := by omega
    rw [F_L_tale_b127.eq_2]
    refine ok_b (a_quotationsOf h v r hp) (fun S r => ?_)
    rw [if_neg (nI_ge hq (by omega))]
    refine ok_b (a_sourceOf h v r hp hq) (fun S r => ?_)
    refine ok_b (a_beginOf h v r hp hq) (fun S r => ?_)
    refine ok_b (a_lengthOf h v r hp hq) (fun S r => ?_)
    rw [nI_1]
    exact ih (k + 1) n S (tq1 W.1 p k y) (by omega) (by omega) K r
theorem tl_64 (h : sh_G G x) (v : vW W) (hp : p < W.1.cnt) {R : Int64} {c18 : pq_N → Nat → Int64 → Int32 → Option (Int64 × pq_N)} : ∀ (m k n : Nat) (S : pq_N) (y : Int64), k + m = (W.1.pm p).wc → m < n → (∀ S, rC S x W → ok x W (c18 S x (tqs W.1 p (W.1.pm p).qc 0 (tws W.1 p m k y)) (nI (p + 1))) R) → rC S x W → ok x W (F_L_tale_b64 G c18 n S x y (nI p) (nI k)) R := by
  have hT := vW_t v
  have h60 := v60 hT hp
  have h16 := v16 hT hp
  intro m
  induction m with
  | zero =>
    intro k n S y hk hn K r
    obtain ⟨n, rfl⟩ : ∃ k, n = k + 1 := ⟨n - 1, by omega⟩
    rw [F_L_tale_b64.eq_2]
    refine ok_b (a_wordsOf h v r hp) (fun S r => ?_)
    rw [if_pos (nI_le (by omega) (by omega))]
    exact tl_127 h v hp (W.1.pm p).qc 0 pq_fuel S y (by omega) (fuel_lt (by omega)) K r
  | succ m ih =>
    intro k n S y hk hn K r
    obtain ⟨n, rfl⟩ : ∃ k, n = k + 1 := ⟨n - 1, by omega⟩
    have hq : k < (W.1.pm p).wc := by omega
    rw [F_L_tale_b64.eq_2]
    refine ok_b (a_wordsOf h v r hp) (fun S r => ?_)
    rw [if_neg (nI_ge hq (by omega))]
    refine ok_b (a_letterOf h v r (i := 0) hp hq (by decide)) (fun S r => ?_)
    refine ok_b (a_letterOf h v r (i := 1) hp hq (by decide)) (fun S r => ?_)
    refine ok_b (a_letterOf h v r (i := 2) hp hq (by decide)) (fun S r => ?_)
    rw [nI_1]
    exact ih (k + 1) n S (tw1 W.1 p k y) (by omega) (by omega) K r
theorem tl_18 (h : sh_G G x) (v : vW W) : ∀ (m p n : Nat) (S : pq_N) (y : Int64), p + m = W.1.cnt → m < n → rC S x W → ok x W (F_L_tale_b18 G n S x y (nI p)) (tps W.1 m p y) := by
  have hT := vW_t v
  have h20 := hT.1
  intro m
  induction m with
  | zero =>
    intro p n S y hk hn r
    obtain ⟨n, rfl⟩ : ∃ k, n = k + 1 := ⟨n - 1, by omega⟩
    rw [F_L_tale_b18.eq_2]
    refine ok_b (a_pamphlets h v r) (fun S r => ?_)
    rw [if_pos (nI_le (by omega) (by omega))]
    exact ok_r r
  | succ m ih =>
    intro p n S y hk hn r
    obtain ⟨n, rfl⟩ : ∃ k, n = k + 1 := ⟨n - 1, by omega⟩
    have hp : p < W.1.cnt := by omega
    rw [F_L_tale_b18.eq_2]
    refine ok_b (a_pamphlets h v r) (fun S r => ?_)
    rw [if_neg (nI_ge hp (by omega))]
    refine ok_b (a_authorOf h v r hp) (fun S r => ?_)
    refine ok_b (a_dayOf h v r hp) (fun S r => ?_)
    refine ok_b (a_wordsOf h v r hp) (fun S r => ?_)
    exact tl_64 h v hp (W.1.pm p).wc 0 pq_fuel S _ (by omega) (fuel_lt (by have := v60 hT hp; omega)) (fun S r => ih (p + 1) n S (tp1 W.1 p y) (by omega) (by omega) r) r
theorem a_tale (h : sh_G G x) (v : vW W) {S : pq_N} (r : rC S x W) : ok x W (F_L_tale G S x) (tl W.1) := by
  unfold F_L_tale
  refine ok_b (a_day h v r) (fun S r => ?_)
  refine ok_b (a_pamphlets h v r) (fun S r => ?_)
  exact tl_18 h v W.1.cnt 0 pq_fuel S _ (by omega) (fuel_lt (by have := (vW_t v).1; omega)) r
end TL
/-! CALLS THAT CHANGE -/
def okE {α : Type} (x : Nat) (F : Option (α × pq_N)) (P : α → tW → Prop) : Prop := ∃ a W, ok x W F a ∧ P a W
theorem okE_b {α β : Type} {x : Nat} {W : tW} {F : Option (α × pq_N)} {a : α} {f : α → pq_N → Option (β × pq_N)} {P : β → tW → Prop} (h : ok x W F a) (k : ∀ S1, rC S1 x W → okE x (f a S1) P) : okE x (pq_bd F f) P := by
  obtain ⟨S1, h1, h2⟩ := h
  rw [pq_bd1 h1]
  exact k S1 h2
theorem okE_e {α β : Type} {x : Nat} {F : Option (α × pq_N)} {f : α → pq_N → Option (β × pq_N)} {Q : α → tW → Prop} {P : β → tW → Prop} (h : okE x F Q) (k : ∀ a W S1, Q a W → rC S1 x W → okE x (f a S1) P) : okE x (pq_bd F f) P := by
  obtain ⟨a, W, ⟨S1, h1, h2⟩, q⟩ := h
  rw [pq_bd1 h1]
  exact k a W S1 q h2
theorem okE_r {α : Type} {x : Nat} {W : tW} {S : pq_N} {a : α} {P : α → tW → Prop} (r : rC S x W) (p : P a W) : okE x (some (a, S)) P := ⟨a, W, ok_r r, p⟩
theorem okE_m {α : Type} {x : Nat} {F : Option (α × pq_N)} {Q P : α → tW → Prop} (h : okE x F Q) (k : ∀ a W, Q a W → P a W) : okE x F P := by
  obtain ⟨a, W, h1, h2⟩ := h
  exact ⟨a, W, h1, k a W h2⟩
theorem okE_o {α : Type} {x : Nat} {W : tW} {F : Option (α × pq_N)} {a : α} {P : α → tW → Prop} (h : ok x W F a) (p : P a W) : okE x F P := ⟨a, W, h, p⟩
