/-! THE REFERENCE: ladders, the glossary -/
theorem qt_0 {T : tT} {p s : Nat} (h : (T.pm p).qc = 0) : qt T p s = false := by
  unfold qt
  rw [h]; rfl
theorem lsm_0 {f : Nat → Nat} {g : Nat → Bool} (h : ∀ k, g k = false) : ∀ n, lsm f g n = 0
  | 0 => rfl
  | n + 1 => by
    show (if g n = true then lsm f g n + f n else lsm f g n) = 0
    rw [h n, if_neg (by decide), lsm_0 h n]
section MH
variable {G : pq_G} {x : Nat} {T : tT}
/-- the two tables hold the first p pamphlets -/
def rL (S : pq_N) (x : Nat) (T : tT) (p : Nat) : Prop := ∀ j, j < p → S.1 (x + 1372) j = nI (lt_ T p j) ∧ S.1 (x + 1373) j = nI (gt_ T p j)
def gw0 (T : tT) (p : Nat) : Nat := if (T.pm p).qc = 0 then 1 else 0
theorem cl_in (h : sh_G G x) (v : vT T) {p : Nat} (hp : p < T.cnt) {c2 : pq_N → Nat → Int32 → Option (Unit × pq_N)} : ∀ (r k n : Nat) (S : pq_N), k + r = p → r < n → rA (S.1 (x + 1366)) (S.2 (x + 1367)) T → rL S x T p → S.1 (x + 1372) p = nI (lmx (lt_ T p) (qt T p) k + 1) → S.1 (x + 1373) p = nI (gw0 T p + lsm (gt_ T p) (qt T p) k) →
    ∃ S1, F_X11_climb_b41 G c2 n S (x + 1365) (nI p) (nI k) = c2 S1 (x + 1365) (nI (p + 1)) ∧ fm x S S1 ∧ rL S1 x T (p + 1) := by
  have h20 := v20 v hp
  have hl := (sh_mo h).2.2.2.2.2.2.1
  have hw := (sh_mo h).2.2.2.2.2.2.2.1
  intro r
  induction r with
  | zero =>
    intro k n S hkr hn rs rl e1 e2
    obtain ⟨n, rfl⟩ : ∃ k, n = k + 1 := ⟨n - 1, by omega⟩
    have e : k = p := by omega
    rw [F_X11_climb_b41.eq_2, if_pos (nI_le (by omega) (by omega)), nI_1]
    refine ⟨S, rfl, fm_rfl, fun j hj => ?_⟩
    rw [e] at e1 e2
    by_cases c : j = p
    · have g1 : lt_ T (p + 1) j = lmx (lt_ T p) (qt T p) p + 1 := if_pos c
      have g2 : gt_ T (p + 1) j = if (T.pm p).qc = 0 then 1 else lsm (gt_ T p) (qt T p) p := if_pos c
      rw [g1, g2, c, e1, e2]
      refine ⟨rfl, ?_⟩
      unfold gw0
      by_cases z : (T.pm p).qc = 0
      · rw [if_pos z, if_pos z, lsm_0 (fun k => qt_0 z)]
      · rw [if_neg z, if_neg z, Nat.zero_add]
    · have g1 : lt_ T (p + 1) j = lt_ T p j := if_neg c
      have g2 : gt_ T (p + 1) j = gt_ T p j := if_neg c
      rw [g1, g2]
      exact rl j (by omega)
  | succ r ih =>
    intro k n S hkr hn rs rl e1 e2
    obtain ⟨n, rfl⟩ : ∃ k, n = k + 1 := ⟨n - 1, by omega⟩
    have hb := lmx_le (f := lt_ T p) (g := qt T p) (b := p) (k := k) (fun i _ => lt_le)
    have hlk := lt_le (T := T) (n := p) (j := k)
    rw [F_X11_climb_b41.eq_2, if_neg (nI_ge (by omega) (by omega)), pq_bd1 (m_isAnswer h v hp (by omega) rs)]
    by_cases c : qt T p k = true
    · have g1 : lmx (lt_ T p) (qt T p) (k + 1) = max (lmx (lt_ T p) (qt T p) k) (lt_ T p k) := if_pos c
      have g2 : lsm (gt_ T p) (qt T p) (k + 1) = lsm (gt_ T p) (qt T p) k + gt_ T p k := if_pos c
      have fin : ∀ w, w = nI (lmx (lt_ T p) (qt T p) (k + 1) + 1) → ∃ S1, F_X11_climb_b94 G c2 (F_X11_climb_b41 G c2 n) S (x + 1365) (nI p) (nI k) w (nI p) (x + 1372) = c2 S1 (x + 1365) (nI (p + 1)) ∧ fm x S S1 ∧ rL S1 x T (p + 1) := fun w hwv => by
        have f0 : fm x S (pq_wi (pq_wi S (x + 1372) p w) (x + 1373) p (nI (gw0 T p + lsm (gt_ T p) (qt T p) k + gt_ T p k))) := fm_tr (fm_wi (by omega) (by omega)) (fm_wi (by omega) (by omega))
        obtain ⟨S1, k1, k2, k3⟩ := ih (k + 1) n _ (by omega) (by omega) (fm_rA f0 rs) (fun j hj => by
          rw [wi_a (show x + 1372 ≠ x + 1373 by omega), wi_k (show j ≠ p by omega), wi_k (show j ≠ p by omega), wi_a (show x + 1373 ≠ x + 1372 by omega)]
          exact rl j hj) (by rw [wi_a (by omega), wi_s, hwv]) (by rw [wi_s, g2, Nat.add_assoc])
        refine ⟨S1, ?_, fm_tr f0 k2, k3⟩
        unfold F_X11_climb_b94
        rw [hl.2, hw.1, hw.2, nI_clamp (by omega), nI_clamp (by omega), if_neg (in_c (show p < 20 by omega) (by omega)), pq_lt1, if_neg (in_c (show p < 20 by omega) (by omega)), if_neg (in_c (show k < 20 by omega) (by omega)), if_neg (in_c (show p < 20 by omega) (by omega)), pq_lt1, wi_a (show x + 1373 ≠ x + 1372 by omega), e2, (rl k (by omega)).2, nI_add, nI_1]
        exact k1
      have e0 : bN (qt T p k) = 1 := by rw [c]; rfl
      rw [e0, if_neg (by decide), hl.1, hl.2, nI_clamp (by omega), nI_clamp (by omega), if_neg (in_c (show k < 20 by omega) (by omega)), if_neg (in_c (show p < 20 by omega) (by omega)), (rl k (by omega)).1, e1, nI_1, if_leI (by omega) (by omega)]
      by_cases c2 : lt_ T p k + 1 ≤ lmx (lt_ T p) (qt T p) k + 1
      · rw [if_pos c2, if_neg (in_c (show p < 20 by omega) (by omega))]
        exact fin _ (by rw [g1, Nat.max_eq_left (by omega)])
      · rw [if_neg c2, if_neg (in_c (show k < 20 by omega) (by omega))]
        exact fin _ (by rw [g1, Nat.max_eq_right (by omega)])
    · have c' : qt T p k = false := by simpa using c
      have e0 : bN (qt T p k) = 0 := by rw [c']; rfl
      have g1 : lmx (lt_ T p) (qt T p) (k + 1) = lmx (lt_ T p) (qt T p) k := if_neg c
      have g2 : lsm (gt_ T p) (qt T p) (k + 1) = lsm (gt_ T p) (qt T p) k := if_neg c
      rw [e0, if_pos (by decide), nI_1]
      exact ih (k + 1) n S (by omega) (by omega) rs rl (by rw [g1]; exact e1) (by rw [g2]; exact e2)
theorem cl_out (h : sh_G G x) (v : vT T) : ∀ (r p n : Nat) (S : pq_N), p + r = T.cnt → r < n → rA (S.1 (x + 1366)) (S.2 (x + 1367)) T → rL S x T p →
    ∃ S1, F_X11_climb_b2 G n S (x + 1365) (nI p) = some ((), S1) ∧ fm x S S1 ∧ rL S1 x T T.cnt := by
  have h20 := v.1
  have mm := m_many h
  have hl := (sh_mo h).2.2.2.2.2.2.1
  have hw := (sh_mo h).2.2.2.2.2.2.2.1
  intro r
  induction r with
  | zero =>
    intro p n S hpr hn rs rl
    obtain ⟨n, rfl⟩ : ∃ k, n = k + 1 := ⟨n - 1, by omega⟩
    have e : p = T.cnt := by omega
    rw [F_X11_climb_b2.eq_2, mm.1, if_neg mm.2.1, mm.2.2.2.1, rs.2.1, if_pos (nI_le (by omega) (by omega))]
    rw [e] at rl
    exact ⟨S, rfl, fm_rfl, rl⟩
  | succ r ih =>
    intro p n S hpr hn rs rl
    obtain ⟨n, rfl⟩ : ∃ k, n = k + 1 := ⟨n - 1, by omega⟩
    have hp : p < T.cnt := by omega
    have h16 := v16 v hp
    have f0 : fm x S (pq_wi S (x + 1372) p (1 : Int32)) := fm_wi (by omega) (by omega)
    have go : ∀ w, w = nI (gw0 T p) → ∃ S1, F_X11_climb_b41 G (F_X11_climb_b2 G n) pq_fuel (pq_wi (pq_wi S (x + 1372) p (1 : Int32)) (x + 1373) p w) (x + 1365) (nI p) (0 : Int32) = some ((), S1) ∧ fm x S S1 ∧ rL S1 x T T.cnt := fun w hwv => by
      have f1 : fm x S (pq_wi (pq_wi S (x + 1372) p (1 : Int32)) (x + 1373) p w) := fm_tr f0 (fm_wi (by omega) (by omega))
      obtain ⟨S1, q1, q2, q3⟩ := cl_in h v hp (c2 := F_X11_climb_b2 G n) p 0 pq_fuel (pq_wi (pq_wi S (x + 1372) p (1 : Int32)) (x + 1373) p w) (by omega) (fuel_lt (by omega)) (fm_rA f1 rs) (fun j hj => by
        rw [wi_a (show x + 1372 ≠ x + 1373 by omega), wi_k (show j ≠ p by omega), wi_k (show j ≠ p by omega), wi_a (show x + 1373 ≠ x + 1372 by omega)]
        exact rl j hj) (by rw [wi_a (by omega), wi_s]; rfl) (by rw [wi_s, hwv]; rfl)
      obtain ⟨S2, k1, k2, k3⟩ := ih (p + 1) n S1 (by omega) (by omega) (fm_rA q2 (fm_rA f1 rs)) q3
      refine ⟨S2, ?_, fm_tr f1 (fm_tr q2 k2), k3⟩
      rw [← k1]
      exact q1
    have eqc := m_qc h v (fm_rA f0 rs) hp
    rw [F_X11_climb_b2.eq_2, mm.1, if_neg mm.2.1, mm.2.2.2.1, rs.2.1, if_neg (nI_ge (by omega) (by omega)), hl.1, hl.2, hw.1, hw.2, nI_clamp (by omega), if_neg (in_c (show p < 20 by omega) (by omega)), pq_lt1, pq_bd1 eqc, if_neg (in_c (show p < 20 by omega) (by omega)), if_neg (in_c (show p < 20 by omega) (by omega)), pq_lt1, pq_lt1]
    by_cases c : (T.pm p).qc = 0
    · rw [if_pos (by rw [c]; rfl)]
      exact go 1 (by unfold gw0; rw [if_pos c]; rfl)
    · rw [if_neg (nI_ne0 (by omega) (by omega))]
      exact go 0 (by unfold gw0; rw [if_neg c]; rfl)
theorem lt_st : ∀ {n m j : Nat}, j < n → n ≤ m → lt_ T m j = lt_ T (j + 1) j ∧ gt_ T m j = gt_ T (j + 1) j
  | n, 0, j, h1, h2 => by omega
  | n, m + 1, j, h1, h2 => by
    by_cases c : j = m
    · rw [c]; exact ⟨rfl, rfl⟩
    · have e1 : lt_ T (m + 1) j = lt_ T m j := if_neg c
      have e2 : gt_ T (m + 1) j = gt_ T m j := if_neg c
      rw [e1, e2]
      exact lt_st (n := j + 1) (m := m) (Nat.lt_succ_self _) (by omega)
theorem m_climb (h : sh_G G x) (v : vT T) {S : pq_N} (rs : rA (S.1 (x + 1366)) (S.2 (x + 1367)) T) : ∃ S1, F_X11_climb G S (x + 1365) = some ((), S1) ∧ fm x S S1 ∧ ∀ j, j < T.cnt → S1.1 (x + 1372) j = nI (lt_ T (j + 1) j) ∧ S1.1 (x + 1373) j = nI (gt_ T (j + 1) j) := by
  obtain ⟨S1, k1, k2, k3⟩ := cl_out h v T.cnt 0 pq_fuel S (by omega) (fuel_lt (by have := v.1; omega)) rs (fun j hj => absurd hj (Nat.not_lt_zero _))
  refine ⟨S1, k1, k2, fun j hj => ?_⟩
  have e := lt_st (T := T) hj (Nat.le_refl _)
  have := k3 j hj
  rw [e.1, e.2] at this
  exact this
/-! the glossary -/
def rGm (S : pq_N) (x : Nat) (g : tG) : Prop := S.1 (x + 1365) 23 = nI g.2.2 ∧ (∀ j, j < g.2.2 → S.2 (x + 1374) j = g.1 j) ∧ ∀ j, j < g.2.2 → S.1 (x + 1375) j = g.2.1 j
theorem mc_27 (h : sh_G G x) {S : pq_N} {g : tG} {w : Int64} (hn : g.2.2 < 1200) (r : rGm S x g) : ∃ S1, F_X11_count_b27 G S (x + 1365) w (nI (gcI g.1 g.2.2 w)) = some ((), S1) ∧ fn_ x S S1 ∧ rGm S1 x (gc g w) := by
  have he := (sh_mo h).2.2.2.2.2.2.2.2.1
  have ht := (sh_mo h).2.2.2.2.2.2.2.2.2
  have hle := gcI_le (e := g.1) (n := g.2.2) (w := w)
  unfold F_X11_count_b27
  rw [r.1, if_eqI (by omega) (by omega), he.1, he.2, ht.1, ht.2, nI_clamp (by omega)]
  simp only [if_neg (in_c (show gcI g.1 g.2.2 w < 1200 by omega) (by omega)), pq_lt1]
  by_cases c : gcI g.1 g.2.2 w = g.2.2
  · have eg : gc g w = (vp_updL g.1 g.2.2 w, upd (upd g.2.1 g.2.2 0) g.2.2 (0 + 1), g.2.2 + 1) := if_pos c
    rw [if_pos c, c, eg]
    refine ⟨_, rfl, fn_tr (fn_wj (by omega) (by omega)) (fn_tr (fn_wi (by omega) (by omega)) (fn_tr (fn_wf (by decide)) (fn_wi (by omega) (by omega)))), ?_, fun j hj => ?_, fun j hj => ?_⟩
    · rw [wi_a (by omega), wi_s, wi_a (by omega), wj_1, r.1, nI_1]
    · have hj' : j < g.2.2 + 1 := hj
      rw [wi_2, wi_2, wi_2]
      show _ = vp_updL g.1 g.2.2 w j
      by_cases cj : j = g.2.2
      · rw [cj, wj_s, pk_uLs]
      · rw [wj_k cj, pk_uLn cj]; exact r.2.1 j (by omega)
    · have hj' : j < g.2.2 + 1 := hj
      show _ = upd (upd g.2.1 g.2.2 0) g.2.2 (0 + 1) j
      by_cases cj : j = g.2.2
      · rw [cj, wi_s, pk_us, wi_a (by omega), wi_s]
      · rw [wi_k cj, pk_un cj, pk_un cj, wi_a (by omega), wi_k cj, wj_1]; exact r.2.2 j (by omega)
  · have eg : gc g w = (g.1, upd g.2.1 (gcI g.1 g.2.2 w) (g.2.1 (gcI g.1 g.2.2 w) + 1), g.2.2) := if_neg c
    rw [if_neg c, eg, r.2.2 _ (by omega)]
    refine ⟨_, rfl, fn_wi (by omega) (by omega), ?_, fun j hj => ?_, fun j hj => ?_⟩
    · rw [wi_a (by omega)]; exact r.1
    · exact r.2.1 j hj
    · show _ = upd g.2.1 (gcI g.1 g.2.2 w) (g.2.1 (gcI g.1 g.2.2 w) + 1) j
      by_cases cj : j = gcI g.1 g.2.2 w
      · rw [cj, wi_s, pk_us]
      · rw [wi_k cj, pk_un cj]; exact r.2.2 j hj
theorem mc_loop (h : sh_G G x) {S : pq_N} {g : tG} {w : Int64} (hn : g.2.2 < 1200) (r : rGm S x g) : ∀ (m k f : Nat), k + m = g.2.2 → m < f → gcI g.1 g.2.2 w = (match fi (fun k => g.1 k == w) k m with | some k => k | none => g.2.2) →
    F_X11_count_b2 G f S (x + 1365) w (nI k) = F_X11_count_b27 G S (x + 1365) w (nI (gcI g.1 g.2.2 w)) := by
  have he := (sh_mo h).2.2.2.2.2.2.2.2.1
  intro m
  induction m with
  | zero =>
    intro k f hkm hf e
    obtain ⟨f, rfl⟩ : ∃ k, f = k + 1 := ⟨f - 1, by omega⟩
    have e' : gcI g.1 g.2.2 w = g.2.2 := e
    rw [F_X11_count_b2.eq_2, r.1, if_pos (nI_le (by omega) (by omega)), e']
    congr 2
  | succ m ih =>
    intro k f hkm hf e
    obtain ⟨f, rfl⟩ : ∃ k, f = k + 1 := ⟨f - 1, by omega⟩
    rw [F_X11_count_b2.eq_2, r.1, if_neg (nI_ge (by omega) (by omega)), he.1, he.2, nI_clamp (by omega), if_neg (in_c (show k < 1200 by omega) (by omega)), r.2.1 k (by omega)]
    by_cases c : g.1 k = w
    · have e2 : fi (fun k => g.1 k == w) k (m + 1) = some k := if_pos (by simpa using c)
      rw [e2] at e
      have e' : gcI g.1 g.2.2 w = k := e
      rw [if_pos ((lg_cmp0 _ _).mpr c), e']
    · have e2 : fi (fun k => g.1 k == w) k (m + 1) = fi (fun k => g.1 k == w) (k + 1) m := if_neg (by simpa using c)
      rw [e2] at e
      rw [if_neg (fun z => c ((lg_cmp0 _ _).mp z)), nI_1]
      exact ih (k + 1) f (by omega) (by omega) e
theorem m_count (h : sh_G G x) {S : pq_N} {g : tG} {w : Int64} (hn : g.2.2 < 1200) (r : rGm S x g) : ∃ S1, F_X11_count G S (x + 1365) w = some ((), S1) ∧ fn_ x S S1 ∧ rGm S1 x (gc g w) := by
  obtain ⟨S1, q1, q2, q3⟩ := mc_27 h (w := w) hn r
  refine ⟨S1, ?_, q2, q3⟩
  rw [← q1]
  exact mc_loop h hn r g.2.2 0 pq_fuel (by omega) (fuel_lt (by omega)) rfl
theorem mg_in (h : sh_G G x) (v : vT T) {p : Nat} (hp : p < T.cnt) {g : tG} (hg : g.2.2 ≤ 60 * p) {c7 : pq_N → Nat → Int32 → Option (Unit × pq_N)} : ∀ (m j f : Nat) (S : pq_N), j + m = (T.pm p).wc → m < f → rA (S.1 (x + 1366)) (S.2 (x + 1367)) T → rGm S x (gw (T.pm p) g j) →
    ∃ S1, F_X11_gloss_b19 G c7 f S (x + 1365) (nI p) (nI j) = c7 S1 (x + 1365) (nI (p + 1)) ∧ fn_ x S S1 ∧ rGm S1 x (gw (T.pm p) g (T.pm p).wc) := by
  have h60 := v60 v hp
  have h20 := v.1
  intro m
  induction m with
  | zero =>
    intro j f S hjm hf rs rg
    obtain ⟨f, rfl⟩ : ∃ k, f = k + 1 := ⟨f - 1, by omega⟩
    have e : j = (T.pm p).wc := by omega
    rw [F_X11_gloss_b19.eq_2, pq_bd1 (m_wc h v rs hp), if_pos (nI_le (by omega) (by omega)), nI_1]
    rw [e] at rg
    exact ⟨S, rfl, fn_rfl, rg⟩
  | succ m ih =>
    intro j f S hjm hf rs rg
    obtain ⟨f, rfl⟩ : ∃ k, f = k + 1 := ⟨f - 1, by omega⟩
    have hgn := gw_n (P := T.pm p) (g := g) j
    obtain ⟨S1, q1, q2, q3⟩ := m_count h (w := (T.pm p).w j) (by omega) rg
    rw [F_X11_gloss_b19.eq_2, pq_bd1 (m_wc h v rs hp), if_neg (nI_ge (by omega) (by omega)), pq_bd1 (m_wat h v rs hp (by omega)), pq_bd1 q1, nI_1]
    obtain ⟨S2, k1, k2, k3⟩ := ih (j + 1) f S1 (by omega) (by omega) (fn_rA q2 rs) q3
    exact ⟨S2, k1, fn_tr q2 k2, k3⟩
theorem mg_out (h : sh_G G x) (v : vT T) : ∀ (m p f : Nat) (S : pq_N), p + m = T.cnt → m < f → rA (S.1 (x + 1366)) (S.2 (x + 1367)) T → rGm S x (ga T p) →
    ∃ S1, F_X11_gloss_b7 G f S (x + 1365) (nI p) = F_X11_gloss_b53 G pq_fuel S1 (x + 1365) 1 ∧ fn_ x S S1 ∧ rGm S1 x (ga T T.cnt) := by
  have h20 := v.1
  have mm := m_many h
  intro m
  induction m with
  | zero =>
    intro p f S hpm hf rs rg
    obtain ⟨f, rfl⟩ : ∃ k, f = k + 1 := ⟨f - 1, by omega⟩
    have e : p = T.cnt := by omega
    rw [F_X11_gloss_b7.eq_2, mm.1, if_neg mm.2.1, mm.2.2.2.1, rs.2.1, if_pos (nI_le (by omega) (by omega))]
    rw [e] at rg
    exact ⟨S, rfl, fn_rfl, rg⟩
  | succ m ih =>
    intro p f S hpm hf rs rg
    obtain ⟨f, rfl⟩ : ∃ k, f = k + 1 := ⟨f - 1, by omega⟩
    obtain ⟨S1, q1, q2, q3⟩ := mg_in h v (p := p) (by omega) (ga_n v p (by omega)) (c7 := F_X11_gloss_b7 G f) (T.pm p).wc 0 pq_fuel S (by omega) (fuel_lt (by have := v60 v (j := p) (by omega); omega)) rs rg
    obtain ⟨S2, k1, k2, k3⟩ := ih (p + 1) f S1 (by omega) (by omega) (fn_rA q2 rs) q3
    refine ⟨S2, ?_, fn_tr q2 k2, k3⟩
    rw [F_X11_gloss_b7.eq_2, mm.1, if_neg mm.2.1, mm.2.2.2.1, rs.2.1, if_neg (nI_ge (by omega) (by omega)), ← k1]
    exact q1
theorem m_isAhead {S : pq_N} {o o' : Int32} {w w' : Int64} : F_X11_isAhead G S o w o' w' = some (nI (if bef o w o' w' then 1 else 0), S) := by
  unfold F_X11_isAhead
  by_cases c : o = o'
  · have eb : bef o w o' w' = decide (w < w') := if_pos c
    rw [eb, if_neg (by rw [c]; exact Int32.lt_irrefl), if_pos c]
    by_cases c2 : w < w'
    · rw [if_neg (fun z => (lg_cmpn _ _).mp z c2), if_pos (decide_eq_true c2)]; rfl
    · rw [if_pos ((lg_cmpn _ _).mpr c2), if_neg (fun z => c2 (of_decide_eq_true z))]; rfl
  · have eb : bef o w o' w' = decide (o' < o) := if_neg c
    rw [eb, if_neg c]
    by_cases c2 : o' < o
    · rw [if_pos c2, if_pos (decide_eq_true c2)]; rfl
    · rw [if_neg c2, if_neg (fun z => c2 (of_decide_eq_true z))]; rfl
theorem mm_loop (h : sh_G G x) {w : Int64} {o : Int32} {n i : Nat} (hn : n ≤ 1200) {c53 : pq_N → Nat → Int32 → Option (Unit × pq_N)} : ∀ (k f : Nat) (S : pq_N) (e : Nat → Int64) (t : Nat → Int32), k < n → k < f → (∀ j, j < n → S.2 (x + 1374) j = e j) → (∀ j, j < n → S.1 (x + 1375) j = t j) →
    ∃ S1, F_X11_gloss_b79 G c53 f S (x + 1365) (nI i) w o (nI k) = c53 S1 (x + 1365) (nI (i + 1)) ∧ fn_ x S S1 ∧ S1.1 (x + 1365) 23 = S.1 (x + 1365) 23 ∧ (∀ j, j < n → S1.2 (x + 1374) j = (mvl e t w o k).1 j) ∧ ∀ j, j < n → S1.1 (x + 1375) j = (mvl e t w o k).2 j := by
  have he := (sh_mo h).2.2.2.2.2.2.2.2.1
  have ht := (sh_mo h).2.2.2.2.2.2.2.2.2
  have fin : ∀ (k : Nat) (S : pq_N) (e : Nat → Int64) (t : Nat → Int32), k < n → (∀ j, j < n → S.2 (x + 1374) j = e j) → (∀ j, j < n → S.1 (x + 1375) j = t j) →
      ∃ S1, F_X11_gloss_b149 G c53 S (x + 1365) (nI i) w o (nI k) = c53 S1 (x + 1365) (nI (i + 1)) ∧ fn_ x S S1 ∧ S1.1 (x + 1365) 23 = S.1 (x + 1365) 23 ∧ (∀ j, j < n → S1.2 (x + 1374) j = vp_updL e k w j) ∧ ∀ j, j < n → S1.1 (x + 1375) j = upd t k o j := by
    intro k S e t hk hE hT
    unfold F_X11_gloss_b149
    rw [he.1, he.2, ht.1, ht.2, nI_clamp (by omega)]
    simp only [if_neg (in_c (show k < 1200 by omega) (by omega)), pq_lt1]
    rw [nI_1]
    refine ⟨_, rfl, fn_tr (fn_wj (by omega) (by omega)) (fn_wi (by omega) (by omega)), by rw [wi_a (by omega)]; rfl, fun j hj => ?_, fun j hj => ?_⟩
    · rw [wi_2]
      by_cases c : j = k
      · rw [c, wj_s, pk_uLs]
      · rw [wj_k c, pk_uLn c]; exact hE j hj
    · by_cases c : j = k
      · rw [c, wi_s, pk_us]
      · rw [wi_k c, pk_un c]; exact hT j hj
  intro k
  induction k with
  | zero =>
    intro f S e t hk hf hE hT
    obtain ⟨f, rfl⟩ : ∃ k, f = k + 1 := ⟨f - 1, by omega⟩
    rw [F_X11_gloss_b79.eq_2, if_pos (by decide)]
    exact fin 0 S e t hk hE hT
  | succ k ih =>
    intro f S e t hk hf hE hT
    obtain ⟨f, rfl⟩ : ∃ k, f = k + 1 := ⟨f - 1, by omega⟩
    rw [F_X11_gloss_b79.eq_2, if_neg (nI_nle (by omega) (by omega)), nI_pred, he.1, he.2, ht.1, ht.2, nI_clamp (by omega), nI_clamp (by omega)]
    simp only [if_neg (in_c (show k < 1200 by omega) (by omega)), if_neg (in_c (show k + 1 < 1200 by omega) (by omega)), pq_lt1]
    rw [hE k (by omega), hT k (by omega), pq_bd1 m_isAhead]
    by_cases c : bef o w (t k) (e k) = true
    · have em : mvl e t w o (k + 1) = mvl (vp_updL e (k + 1) (e k)) (upd t (k + 1) (t k)) w o k := if_pos c
      rw [if_pos c, if_neg (by decide), wj_1, hT k (by omega), hE k (by omega), ← Int32.sub_eq_add_neg, nI_pred, em]
      have f0 : fn_ x S (pq_wi (pq_wj S (x + 1374) (k + 1) (e k)) (x + 1375) (k + 1) (t k)) := fn_tr (fn_wj (by omega) (by omega)) (fn_wi (by omega) (by omega))
      obtain ⟨S1, q1, q2, q3, q4, q5⟩ := ih f (pq_wi (pq_wj S (x + 1374) (k + 1) (e k)) (x + 1375) (k + 1) (t k)) (vp_updL e (k + 1) (e k)) (upd t (k + 1) (t k)) (by omega) (by omega) (fun j hj => by
        rw [wi_2]
        by_cases cj : j = k + 1
        · rw [cj, wj_s, pk_uLs]
        · rw [wj_k cj, pk_uLn cj]; exact hE j hj) (fun j hj => by
        by_cases cj : j = k + 1
        · rw [cj, wi_s, pk_us]
        · rw [wi_k cj, pk_un cj]; exact hT j hj)
      exact ⟨S1, q1, fn_tr f0 q2, by rw [q3, wi_a (by omega)]; rfl, q4, q5⟩
    · have em : mvl e t w o (k + 1) = (vp_updL e (k + 1) w, upd t (k + 1) o) := if_neg c
      rw [if_neg c, if_pos (by decide), em]
      exact fin (k + 1) S e t hk hE hT
theorem ms_so (h : sh_G G x) {n : Nat} (hn : n ≤ 1200) {e : Nat → Int64} {t : Nat → Int32} : ∀ (m k f : Nat) (S : pq_N), k + 1 + m = n → m < f → S.1 (x + 1365) 23 = nI n → (∀ j, j < n → S.2 (x + 1374) j = (gs e t k).1 j) → (∀ j, j < n → S.1 (x + 1375) j = (gs e t k).2 j) →
    ∃ S1, F_X11_gloss_b53 G f S (x + 1365) (nI (k + 1)) = some ((), S1) ∧ fn_ x S S1 ∧ S1.1 (x + 1365) 23 = nI n ∧ (∀ j, j < n → S1.2 (x + 1374) j = (gs e t (n - 1)).1 j) ∧ ∀ j, j < n → S1.1 (x + 1375) j = (gs e t (n - 1)).2 j := by
  have he := (sh_mo h).2.2.2.2.2.2.2.2.1
  have ht := (sh_mo h).2.2.2.2.2.2.2.2.2
  intro m
  induction m with
  | zero =>
    intro k f S hkm hf e2 hE hT
    obtain ⟨f, rfl⟩ : ∃ k, f = k + 1 := ⟨f - 1, by omega⟩
    have ek : n - 1 = k := by omega
    rw [F_X11_gloss_b53.eq_2, e2, if_pos (nI_le (by omega) (by omega)), ek]
    exact ⟨S, rfl, fn_rfl, e2, hE, hT⟩
  | succ m ih =>
    intro k f S hkm hf e2 hE hT
    obtain ⟨f, rfl⟩ : ∃ k, f = k + 1 := ⟨f - 1, by omega⟩
    obtain ⟨S1, q1, q2, q3, q4, q5⟩ := mm_loop h (w := (gs e t k).1 (k + 1)) (o := (gs e t k).2 (k + 1)) (i := k + 1) hn (c53 := F_X11_gloss_b53 G f) (k + 1) pq_fuel S (gs e t k).1 (gs e t k).2 (by omega) (fuel_lt (by omega)) hE hT
    obtain ⟨S2, k1, k2, k3, k4, k5⟩ := ih (k + 1) f S1 (by omega) (by omega) (by rw [q3]; exact e2) q4 q5
    refine ⟨S2, ?_, fn_tr q2 k2, k3, k4, k5⟩
    rw [F_X11_gloss_b53.eq_2, e2, if_neg (nI_ge (by omega) (by omega)), he.1, he.2, ht.1, ht.2, nI_clamp (by omega)]
    simp only [if_neg (in_c (show k + 1 < 1200 by omega) (by omega)), pq_lt1]
    rw [hE _ (by omega), hT _ (by omega), ← k1]
    exact q1
theorem m_gloss (h : sh_G G x) (v : vT T) {S : pq_N} (rs : rA (S.1 (x + 1366)) (S.2 (x + 1367)) T) : ∃ S1, F_X11_gloss G S (x + 1365) = some ((), S1) ∧ fn_ x S S1 ∧ S1.1 (x + 1365) 23 = nI (gn T) ∧ (∀ j, j < gn T → S1.2 (x + 1374) j = ge T j) ∧ (∀ j, j < gn T → S1.1 (x + 1375) j = gt T j) ∧ gn T ≤ 1200 := by
  have h20 := v.1
  have hb := ga_n v T.cnt (Nat.le_refl _)
  have hn : gn T ≤ 1200 := by unfold gn; omega
  have f0 : fn_ x S (pq_wi S (x + 1365) 23 (nI 0)) := fn_wf (by decide)
  obtain ⟨S1, q1, q2, q3⟩ := mg_out h v T.cnt 0 pq_fuel (pq_wi S (x + 1365) 23 (nI 0)) (by omega) (fuel_lt (by omega)) (fn_rA f0 rs) ⟨wi_s, fun j hj => absurd hj (Nat.not_lt_zero _), fun j hj => absurd hj (Nat.not_lt_zero _)⟩
  have q1' : F_X11_gloss G S (x + 1365) = F_X11_gloss_b53 G pq_fuel S1 (x + 1365) 1 := q1
  rcases Nat.eq_zero_or_pos (gn T) with c | c
  · refine ⟨S1, ?_, fn_tr f0 q2, q3.1, fun j hj => by omega, fun j hj => by omega, hn⟩
    rw [q1', show pq_fuel = 99999 + 1 from rfl, F_X11_gloss_b53.eq_2, q3.1, if_pos]
    have e : (ga T T.cnt).2.2 = 0 := c
    rw [e]; decide
  · obtain ⟨S2, k1, k2, k3, k4, k5⟩ := ms_so h (n := gn T) hn (e := (ga T T.cnt).1) (t := (ga T T.cnt).2.1) (gn T - 1) 0 pq_fuel S1 (by omega) (fuel_lt (by omega)) q3.1 q3.2.1 q3.2.2
    refine ⟨S2, ?_, fn_tr f0 (fn_tr q2 k2), k3, k4, k5, hn⟩
    rw [q1']
    exact k1
end MH
