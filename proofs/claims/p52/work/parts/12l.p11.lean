/-! THE GLOSSARY: words and how often, n of them -/
def tG : Type := (Nat → Int64) × (Nat → Int32) × Nat
def gcI (e : Nat → Int64) (n : Nat) (w : Int64) : Nat := match fi (fun k => e k == w) 0 n with
  | some k => k
  | none => n
def gc (g : tG) (w : Int64) : tG := if gcI g.1 g.2.2 w = g.2.2 then (vp_updL g.1 g.2.2 w, upd (upd g.2.1 g.2.2 0) g.2.2 (0 + 1), g.2.2 + 1) else (g.1, upd g.2.1 (gcI g.1 g.2.2 w) (g.2.1 (gcI g.1 g.2.2 w) + 1), g.2.2)
def gw (P : tP) (g : tG) : Nat → tG
  | 0 => g
  | j + 1 => gc (gw P g j) (P.w j)
def ga (T : tT) : Nat → tG
  | 0 => (fun _ => 0, fun _ => 0, 0)
  | p + 1 => gw (T.pm p) (ga T p) (T.pm p).wc
/-- whether a word comes ahead of another one -/
def bef (o : Int32) (w : Int64) (o' : Int32) (w' : Int64) : Bool := if o = o' then decide (w < w') else decide (o' < o)
def mvl (e : Nat → Int64) (t : Nat → Int32) (w : Int64) (o : Int32) : Nat → (Nat → Int64) × (Nat → Int32)
  | 0 => (vp_updL e 0 w, upd t 0 o)
  | k + 1 => if bef o w (t k) (e k) then mvl (vp_updL e (k + 1) (e k)) (upd t (k + 1) (t k)) w o k else (vp_updL e (k + 1) w, upd t (k + 1) o)
def gs (e : Nat → Int64) (t : Nat → Int32) : Nat → (Nat → Int64) × (Nat → Int32)
  | 0 => (e, t)
  | i + 1 => mvl (gs e t i).1 (gs e t i).2 ((gs e t i).1 (i + 1)) ((gs e t i).2 (i + 1)) (i + 1)
/-- the glossary: how many, words, how often -/
def gn (T : tT) : Nat := (ga T T.cnt).2.2
def ge (T : tT) : Nat → Int64 := (gs (ga T T.cnt).1 (ga T T.cnt).2.1 (gn T - 1)).1
def gt (T : tT) : Nat → Int32 := (gs (ga T T.cnt).1 (ga T T.cnt).2.1 (gn T - 1)).2
theorem gcI_le {e : Nat → Int64} {n : Nat} {w : Int64} : gcI e n w ≤ n := by
  unfold gcI
  split
  · rename_i k hk
    have := (fi_some hk).2.1
    omega
  · exact Nat.le_refl _
theorem gc_n {g : tG} {w : Int64} : (gc g w).2.2 ≤ g.2.2 + 1 ∧ g.2.2 ≤ (gc g w).2.2 := by
  by_cases c : gcI g.1 g.2.2 w = g.2.2
  · have e : gc g w = (vp_updL g.1 g.2.2 w, upd (upd g.2.1 g.2.2 0) g.2.2 (0 + 1), g.2.2 + 1) := if_pos c
    rw [e]
    exact ⟨Nat.le_refl _, Nat.le_succ _⟩
  · have e : gc g w = (g.1, upd g.2.1 (gcI g.1 g.2.2 w) (g.2.1 (gcI g.1 g.2.2 w) + 1), g.2.2) := if_neg c
    rw [e]
    exact ⟨Nat.le_succ _, Nat.le_refl _⟩
theorem gw_n {P : tP} {g : tG} : ∀ j, (gw P g j).2.2 ≤ g.2.2 + j
  | 0 => Nat.le_refl _
  | j + 1 => by
    have h1 := gw_n (P := P) (g := g) j
    have h2 := (gc_n (g := gw P g j) (w := P.w j)).1
    show (gc _ _).2.2 ≤ _
    omega
theorem ga_n {T : tT} (v : vT T) : ∀ p, p ≤ T.cnt → (ga T p).2.2 ≤ 60 * p
  | 0, _ => Nat.le_refl _
  | p + 1, hp => by
    have h1 := ga_n v p (by omega)
    have h2 := gw_n (P := T.pm p) (g := ga T p) (T.pm p).wc
    have h3 := v60 v (j := p) (by omega)
    show (gw _ _ _).2.2 ≤ _
    omega
section CG
variable {G : pq_G} {x : Nat} {T : tT}
theorem sh_ga (h : sh_G G x) : (pq_r G (x + 1360) 0 = x + 1361 ∧ sh_R G (x + 1361) 1200) ∧ pq_r G (x + 1360) 1 = x + 1363 ∧ sh_R G (x + 1363) 1200 := by
  have k := h.2.2.2.2.2.1.2.2.2.2
  exact ⟨⟨k.1, k.2.1⟩, k.2.2.1, k.2.2.2⟩
theorem f_ent {S : pq_N} {j : Nat} (h : sh_G G x) (hj : j < 1200) : F_X7_at G S (pq_r G (x + 1360) 0) (nI j) = some (S.2 (x + 1362) j, S) := by
  have k := sh_ga h
  rw [k.1.1, f_at k.1.2 hj (by omega)]
theorem f_pent {S : pq_N} {j : Nat} {w : Int64} (h : sh_G G x) (hj : j < 1200) : F_X7_put G S (pq_r G (x + 1360) 0) (nI j) w = some ((), pq_wj S (x + 1362) j w) := by
  have k := sh_ga h
  rw [k.1.1, f_put k.1.2 hj (by omega)]
theorem f_tim {S : pq_N} {j : Nat} (h : sh_G G x) (hj : j < 1200) : F_X7_number G S (pq_r G (x + 1360) 1) (nI j) = some ((S.2 (x + 1364) j).toInt32, S) := by
  have k := sh_ga h
  rw [k.2.1, f_number k.2.2 hj (by omega)]
theorem f_ptim {S : pq_N} {j : Nat} {w : Int64} (h : sh_G G x) (hj : j < 1200) : F_X7_put G S (pq_r G (x + 1360) 1) (nI j) w = some ((), pq_wj S (x + 1364) j w) := by
  have k := sh_ga h
  rw [k.2.1, f_put k.2.2 hj (by omega)]
/-- the rows hold g -/
def rG (S : pq_N) (x : Nat) (g : tG) : Prop := S.1 (x + 1360) 2 = nI g.2.2 ∧ (∀ j, j < g.2.2 → S.2 (x + 1362) j = g.1 j) ∧ ∀ j, j < g.2.2 → (S.2 (x + 1364) j).toInt32 = g.2.1 j
theorem gc_65 (h : sh_G G x) {S : pq_N} {k : Nat} {v : Int32} (hk : k < 1200) (e : (S.2 (x + 1364) k).toInt32 = v) : F_X1_count_b65 G S (x + 1360) (nI k) = some ((), pq_wj S (x + 1364) k (Int32.toInt64 (v + 1))) := by
  unfold F_X1_count_b65
  rw [pq_bd1 (f_tim h hk), e, pq_bd1 (f_ptim h hk)]
theorem gc_29 (h : sh_G G x) {S : pq_N} {g : tG} {w : Int64} (hn : g.2.2 < 1200) (r : rG S x g) : ∃ S1, F_X1_count_b29 G S (x + 1360) w (nI (gcI g.1 g.2.2 w)) = some ((), S1) ∧ fr (x + 1360) (x + 1365) S S1 ∧ rG S1 x (gc g w) := by
  have hle := gcI_le (e := g.1) (n := g.2.2) (w := w)
  unfold F_X1_count_b29
  rw [r.1, if_eqI (by omega) (by omega)]
  by_cases c : gcI g.1 g.2.2 w = g.2.2
  · have eg : gc g w = (vp_updL g.1 g.2.2 w, upd (upd g.2.1 g.2.2 0) g.2.2 (0 + 1), g.2.2 + 1) := if_pos c
    rw [if_pos c, c, pq_bd1 (f_pent h hn), pq_bd1 (f_ptim h hn), pq_lt1, wj_1, wj_1, r.1, nI_1, gc_65 h (v := 0) hn (by rw [wi_2, wj_s]; rfl), eg]
    refine ⟨_, rfl, fr_tr (fr_wj (by omega) (by omega)) (fr_tr (fr_wj (by omega) (by omega)) (fr_tr (fr_wi (by omega) (by omega)) (fr_wj (by omega) (by omega)))), ?_, fun j hj => ?_, fun j hj => ?_⟩
    · rw [wj_1, wi_s]
    · have hj' : j < g.2.2 + 1 := hj
      rw [wj_a (by omega), wi_2, wj_a (by omega)]
      show _ = vp_updL g.1 g.2.2 w j
      by_cases cj : j = g.2.2
      · rw [cj, wj_s, pk_uLs]
      · rw [wj_k cj, pk_uLn cj]; exact r.2.1 j (by omega)
    · have hj' : j < g.2.2 + 1 := hj
      show _ = upd (upd g.2.1 g.2.2 0) g.2.2 (0 + 1) j
      by_cases cj : j = g.2.2
      · rw [cj, wj_s, pk_us, Int32.toInt32_toInt64]
      · rw [wj_k cj, pk_un cj, pk_un cj, wi_2, wj_k cj, wj_a (by omega)]; exact r.2.2 j (by omega)
  · have eg : gc g w = (g.1, upd g.2.1 (gcI g.1 g.2.2 w) (g.2.1 (gcI g.1 g.2.2 w) + 1), g.2.2) := if_neg c
    rw [if_neg c, gc_65 h (by omega) (r.2.2 _ (by omega)), eg]
    refine ⟨_, rfl, fr_wj (by omega) (by omega), ?_, fun j hj => ?_, fun j hj => ?_⟩
    · exact r.1
    · rw [wj_a (by omega)]; exact r.2.1 j hj
    · show _ = upd g.2.1 (gcI g.1 g.2.2 w) (g.2.1 (gcI g.1 g.2.2 w) + 1) j
      by_cases cj : j = gcI g.1 g.2.2 w
      · rw [cj, wj_s, pk_us, Int32.toInt32_toInt64]
      · rw [wj_k cj, pk_un cj]; exact r.2.2 j hj
theorem gc_loop (h : sh_G G x) {S : pq_N} {g : tG} {w : Int64} (hn : g.2.2 < 1200) (r : rG S x g) : ∀ (m k f : Nat), k + m = g.2.2 → m < f → gcI g.1 g.2.2 w = (match fi (fun k => g.1 k == w) k m with | some k => k | none => g.2.2) →
    F_X1_count_b2 G f S (x + 1360) w (nI k) = F_X1_count_b29 G S (x + 1360) w (nI (gcI g.1 g.2.2 w)) := by
  intro m
  induction m with
  | zero =>
    intro k f hkm hf e
    obtain ⟨f, rfl⟩ : ∃ k, f = k + 1 := ⟨f - 1, by omega⟩
    have e' : gcI g.1 g.2.2 w = g.2.2 := e
    rw [F_X1_count_b2.eq_2, r.1, if_pos (nI_le (by omega) (by omega)), e']
    congr 2
  | succ m ih =>
    intro k f hkm hf e
    obtain ⟨f, rfl⟩ : ∃ k, f = k + 1 := ⟨f - 1, by omega⟩
    rw [F_X1_count_b2.eq_2, r.1, if_neg (nI_ge (by omega) (by omega)), pq_bd1 (f_ent h (by omega)), r.2.1 k (by omega)]
    by_cases c : g.1 k = w
    · have e2 : fi (fun k => g.1 k == w) k (m + 1) = some k := if_pos (by simpa using c)
      rw [e2] at e
      have e' : gcI g.1 g.2.2 w = k := e
      rw [if_pos ((lg_cmp0 _ _).mpr c), e']
    · have e2 : fi (fun k => g.1 k == w) k (m + 1) = fi (fun k => g.1 k == w) (k + 1) m := if_neg (by simpa using c)
      rw [e2] at e
      rw [if_neg (fun z => c ((lg_cmp0 _ _).mp z)), nI_1]
      exact ih (k + 1) f (by omega) (by omega) e
theorem c_count (h : sh_G G x) {S : pq_N} {g : tG} {w : Int64} (hn : g.2.2 < 1200) (r : rG S x g) : ∃ S1, F_X1_count G S (x + 1360) w = some ((), S1) ∧ fr (x + 1360) (x + 1365) S S1 ∧ rG S1 x (gc g w) := by
  obtain ⟨S1, q1, q2, q3⟩ := gc_29 h (w := w) hn r
  refine ⟨S1, ?_, q2, q3⟩
  rw [← q1]
  exact gc_loop h hn r g.2.2 0 pq_fuel (by omega) (fuel_lt (by omega)) rfl
theorem gg_in (h : sh_G G x) (v : vT T) {p : Nat} (hp : p < T.cnt) {g : tG} (hg : g.2.2 ≤ 60 * p) {c7 : pq_N → Nat → Nat → Int32 → Option (Unit × pq_N)} : ∀ (m j f : Nat) (S : pq_N), j + m = (T.pm p).wc → m < f → rS S x 0 T → rG S x (gw (T.pm p) g j) →
    ∃ S1, F_X1_gather_b24 G c7 f S (x + 1360) (x + 1) (nI p) (sh_p x 0 p) (nI j) = c7 S1 (x + 1360) (x + 1) (nI (p + 1)) ∧ fr (x + 1360) (x + 1365) S S1 ∧ rG S1 x (gw (T.pm p) g (T.pm p).wc) := by
  have h60 := v60 v hp
  have h20 := v.1
  intro m
  induction m with
  | zero =>
    intro j f S hjm hf r rg
    obtain ⟨f, rfl⟩ : ∃ k, f = k + 1 := ⟨f - 1, by omega⟩
    have e : j = (T.pm p).wc := by omega
    rw [F_X1_gather_b24.eq_2, r_wc r hp, if_pos (nI_le (by omega) (by omega)), nI_1]
    rw [e] at rg
    exact ⟨S, rfl, fr_rfl, rg⟩
  | succ m ih =>
    intro j f S hjm hf r rg
    obtain ⟨f, rfl⟩ : ∃ k, f = k + 1 := ⟨f - 1, by omega⟩
    have hgn := gw_n (P := T.pm p) (g := g) j
    obtain ⟨S1, q1, q2, q3⟩ := c_count h (w := (T.pm p).w j) (by omega) rg
    rw [F_X1_gather_b24.eq_2, r_wc r hp, if_neg (nI_ge (by omega) (by omega)), pq_bd1 (g_word h (sh_pok (i := 0) (j := p) h (by decide) (by omega)) (r.2.2 p hp) h60 (by omega)), pq_bd1 q1, nI_1]
    obtain ⟨S2, k1, k2, k3⟩ := ih (j + 1) f S1 (by omega) (by omega) (r0_fr q2 (by omega) v r) q3
    exact ⟨S2, k1, fr_tr q2 k2, k3⟩
theorem gg_out (h : sh_G G x) (v : vT T) : ∀ (m p f : Nat) (S : pq_N), p + m = T.cnt → m < f → rS S x 0 T → rG S x (ga T p) →
    ∃ S1, F_X1_gather_b7 G f S (x + 1360) (x + 1) (nI p) = F_X1_gather_b60 G pq_fuel S1 (x + 1360) 1 ∧ fr (x + 1360) (x + 1365) S S1 ∧ rG S1 x (ga T T.cnt) := by
  have h20 := v.1
  intro m
  induction m with
  | zero =>
    intro p f S hpm hf r rg
    obtain ⟨f, rfl⟩ : ∃ k, f = k + 1 := ⟨f - 1, by omega⟩
    have e : p = T.cnt := by omega
    rw [F_X1_gather_b7.eq_2, r0_cnt r, if_pos (nI_le (by omega) (by omega))]
    rw [e] at rg
    exact ⟨S, rfl, fr_rfl, rg⟩
  | succ m ih =>
    intro p f S hpm hf r rg
    obtain ⟨f, rfl⟩ : ∃ k, f = k + 1 := ⟨f - 1, by omega⟩
    obtain ⟨S1, q1, q2, q3⟩ := gg_in h v (p := p) (by omega) (ga_n v p (by omega)) (c7 := F_X1_gather_b7 G f) (T.pm p).wc 0 pq_fuel S (by omega) (fuel_lt (by have := v60 v (j := p) (by omega); omega)) r rg
    obtain ⟨S2, k1, k2, k3⟩ := ih (p + 1) f S1 (by omega) (by omega) (r0_fr q2 (by omega) v r) q3
    refine ⟨S2, ?_, fr_tr q2 k2, k3⟩
    rw [F_X1_gather_b7.eq_2, r0_cnt r, if_neg (nI_ge (by omega) (by omega)), pq_bd1 (f_sat0 (j := p) h (by omega)), ← k1]
    exact q1
theorem lg_cmpn (a b : Int64) : (0 : Int32) ≤ lg_cmp a b ↔ ¬ a < b := by
  unfold lg_cmp
  by_cases c1 : a > b
  · rw [if_pos c1]
    exact ⟨fun _ z => Int64.lt_asymm c1 z, fun _ => by decide⟩
  · rw [if_neg c1]
    by_cases c2 : a = b
    · rw [if_pos c2]
      exact ⟨fun _ z => by rw [c2] at z; exact Int64.lt_irrefl z, fun _ => by decide⟩
    · rw [if_neg c2]
      refine ⟨fun z => absurd z (by decide), fun z => ?_⟩
      exact absurd (Int64.le_antisymm (Int64.not_lt.mp c1) (Int64.not_lt.mp z)) c2
theorem c_isBefore (h : sh_G G x) {S : pq_N} {k : Nat} {w e : Int64} {o t : Int32} (hk : k < 1200) (he : S.2 (x + 1362) k = e) (ht : (S.2 (x + 1364) k).toInt32 = t) : F_X1_isBefore G S (x + 1360) w o (nI k) = some (nI (if bef o w t e then 1 else 0), S) := by
  unfold F_X1_isBefore
  rw [pq_bd1 (f_tim h hk), ht]
  by_cases c : o = t
  · have eb : bef o w t e = decide (w < e) := if_pos c
    rw [if_pos c, pq_bd1 (f_ent h hk), he, eb]
    by_cases c2 : w < e
    · rw [if_neg (fun z => (lg_cmpn _ _).mp z c2), if_pos (decide_eq_true c2)]; rfl
    · rw [if_pos ((lg_cmpn _ _).mpr c2), if_neg (fun z => c2 (of_decide_eq_true z))]; rfl
  · have eb : bef o w t e = decide (t < o) := if_neg c
    rw [if_neg c, eb]
    by_cases c2 : t < o
    · rw [if_neg (Int32.not_le.mpr c2), if_pos (decide_eq_true c2)]; rfl
    · rw [if_pos (Int32.not_lt.mp c2), if_neg (fun z => c2 (of_decide_eq_true z))]; rfl
theorem mv_loop (h : sh_G G x) {w : Int64} {o : Int32} {n : Nat} (hn : n ≤ 1200) : ∀ (k f : Nat) (S : pq_N) (e : Nat → Int64) (t : Nat → Int32), k < n → k < f → (∀ j, j < n → S.2 (x + 1362) j = e j) → (∀ j, j < n → (S.2 (x + 1364) j).toInt32 = t j) →
    ∃ S1, F_X1_moveForward_b22 G f S (x + 1360) w o (nI k) = some ((), S1) ∧ fr (x + 1360) (x + 1365) S S1 ∧ S1.1 = S.1 ∧ (∀ j, j < n → S1.2 (x + 1362) j = (mvl e t w o k).1 j) ∧ ∀ j, j < n → (S1.2 (x + 1364) j).toInt32 = (mvl e t w o k).2 j := by
  have fin : ∀ (k : Nat) (S : pq_N) (e : Nat → Int64) (t : Nat → Int32), k < n → (∀ j, j < n → S.2 (x + 1362) j = e j) → (∀ j, j < n → (S.2 (x + 1364) j).toInt32 = t j) →
      ∃ S1, F_X1_moveForward_b88 G S (x + 1360) w o (nI k) = some ((), S1) ∧ fr (x + 1360) (x + 1365) S S1 ∧ S1.1 = S.1 ∧ (∀ j, j < n → S1.2 (x + 1362) j = vp_updL e k w j) ∧ ∀ j, j < n → (S1.2 (x + 1364) j).toInt32 = upd t k o j := by
    intro k S e t hk he ht
    unfold F_X1_moveForward_b88
    rw [pq_bd1 (f_pent h (by omega)), pq_bd1 (f_ptim h (by omega))]
    refine ⟨_, rfl, fr_tr (fr_wj (by omega) (by omega)) (fr_wj (by omega) (by omega)), rfl, fun j hj => ?_, fun j hj => ?_⟩
    · rw [wj_a (by omega)]
      by_cases c : j = k
      · rw [c, wj_s, pk_uLs]
      · rw [wj_k c, pk_uLn c]; exact he j hj
    · by_cases c : j = k
      · rw [c, wj_s, pk_us, Int32.toInt32_toInt64]
      · rw [wj_k c, pk_un c, wj_a (by omega)]; exact ht j hj
  intro k
  induction k with
  | zero =>
    intro f S e t hk hf he ht
    obtain ⟨f, rfl⟩ : ∃ k, f = k + 1 := ⟨f - 1, by omega⟩
    rw [F_X1_moveForward_b22.eq_2, if_pos (by decide)]
    exact fin 0 S e t hk he ht
  | succ k ih =>
    intro f S e t hk hf he ht
    obtain ⟨f, rfl⟩ : ∃ k, f = k + 1 := ⟨f - 1, by omega⟩
    rw [F_X1_moveForward_b22.eq_2, if_neg (nI_nle (by omega) (by omega)), nI_pred, pq_bd1 (c_isBefore h (by omega) (he k (by omega)) (ht k (by omega)))]
    by_cases c : bef o w (t k) (e k) = true
    · have em : mvl e t w o (k + 1) = mvl (vp_updL e (k + 1) (e k)) (upd t (k + 1) (t k)) w o k := if_pos c
      rw [if_pos c, if_neg (by decide), pq_bd1 (f_ent h (by omega)), he k (by omega), pq_bd1 (f_pent h (by omega)), pq_bd1 (f_tim h (by omega)), wj_a (by omega), ht k (by omega), pq_bd1 (f_ptim h (by omega)), ← Int32.sub_eq_add_neg, nI_pred, em]
      have f0 : fr (x + 1360) (x + 1365) S (pq_wj (pq_wj S (x + 1362) (k + 1) (e k)) (x + 1364) (k + 1) (Int32.toInt64 (t k))) := fr_tr (fr_wj (by omega) (by omega)) (fr_wj (by omega) (by omega))
      obtain ⟨S1, q1, q2, q3, q4, q5⟩ := ih f (pq_wj (pq_wj S (x + 1362) (k + 1) (e k)) (x + 1364) (k + 1) (Int32.toInt64 (t k))) (vp_updL e (k + 1) (e k)) (upd t (k + 1) (t k)) (by omega) (by omega) (fun j hj => by
        rw [wj_a (by omega)]
        by_cases cj : j = k + 1
        · rw [cj, wj_s, pk_uLs]
        · rw [wj_k cj, pk_uLn cj]; exact he j hj) (fun j hj => by
        by_cases cj : j = k + 1
        · rw [cj, wj_s, pk_us, Int32.toInt32_toInt64]
        · rw [wj_k cj, pk_un cj, wj_a (by omega)]; exact ht j hj)
      exact ⟨S1, q1, fr_tr f0 q2, q3, q4, q5⟩
    · have em : mvl e t w o (k + 1) = (vp_updL e (k + 1) w, upd t (k + 1) o) := if_neg c
      rw [if_neg c, if_pos (by decide), em]
      exact fin (k + 1) S e t hk he ht
theorem so_loop (h : sh_G G x) {n : Nat} (hn : n ≤ 1200) {e : Nat → Int64} {t : Nat → Int32} : ∀ (m k f : Nat) (S : pq_N), k + 1 + m = n → m < f → S.1 (x + 1360) 2 = nI n → (∀ j, j < n → S.2 (x + 1362) j = (gs e t k).1 j) → (∀ j, j < n → (S.2 (x + 1364) j).toInt32 = (gs e t k).2 j) →
    ∃ S1, F_X1_gather_b60 G f S (x + 1360) (nI (k + 1)) = some ((), S1) ∧ fr (x + 1360) (x + 1365) S S1 ∧ S1.1 = S.1 ∧ (∀ j, j < n → S1.2 (x + 1362) j = (gs e t (n - 1)).1 j) ∧ ∀ j, j < n → (S1.2 (x + 1364) j).toInt32 = (gs e t (n - 1)).2 j := by
  intro m
  induction m with
  | zero =>
    intro k f S hkm hf e2 he ht
    obtain ⟨f, rfl⟩ : ∃ k, f = k + 1 := ⟨f - 1, by omega⟩
    have ek : n - 1 = k := by omega
    rw [F_X1_gather_b60.eq_2, e2, if_pos (nI_le (by omega) (by omega)), ek]
    exact ⟨S, rfl, fr_rfl, rfl, he, ht⟩
  | succ m ih =>
    intro k f S hkm hf e2 he ht
    obtain ⟨f, rfl⟩ : ∃ k, f = k + 1 := ⟨f - 1, by omega⟩
    obtain ⟨S1, q1, q2, q3, q4, q5⟩ := mv_loop h (w := (gs e t k).1 (k + 1)) (o := (gs e t k).2 (k + 1)) hn (k + 1) pq_fuel S (gs e t k).1 (gs e t k).2 (by omega) (fuel_lt (by omega)) he ht
    have q1' : F_X1_moveForward G S (x + 1360) (nI (k + 1)) = some ((), S1) := by
      unfold F_X1_moveForward
      rw [pq_bd1 (f_ent h (by omega)), he _ (by omega), pq_bd1 (f_tim h (by omega)), ht _ (by omega)]
      exact q1
    rw [F_X1_gather_b60.eq_2, e2, if_neg (nI_ge (by omega) (by omega)), pq_bd1 q1', nI_1]
    obtain ⟨S2, k1, k2, k3, k4, k5⟩ := ih (k + 1) f S1 (by omega) (by omega) (by rw [q3]; exact e2) q4 q5
    exact ⟨S2, k1, fr_tr q2 k2, by rw [k3, q3], k4, k5⟩
theorem c_gather (h : sh_G G x) (v : vT T) {S : pq_N} (r : rS S x 0 T) : ∃ S1, F_X1_gather G S (x + 1360) (x + 1) = some ((), S1) ∧ fr (x + 1360) (x + 1365) S S1 ∧ S1.1 (x + 1360) 2 = nI (gn T) ∧ (∀ j, j < gn T → S1.2 (x + 1362) j = ge T j) ∧ (∀ j, j < gn T → (S1.2 (x + 1364) j).toInt32 = gt T j) ∧ gn T ≤ 1200 := by
  have h20 := v.1
  have hb := ga_n v T.cnt (Nat.le_refl _)
  have hn : gn T ≤ 1200 := by unfold gn; omega
  have f0 : fr (x + 1360) (x + 1365) S (pq_wi S (x + 1360) 2 (nI 0)) := fr_wi (by omega) (by omega)
  obtain ⟨S1, q1, q2, q3⟩ := gg_out h v T.cnt 0 pq_fuel (pq_wi S (x + 1360) 2 (nI 0)) (by omega) (fuel_lt (by omega)) (r0_fr f0 (by omega) v r) ⟨wi_s, fun j hj => absurd hj (Nat.not_lt_zero _), fun j hj => absurd hj (Nat.not_lt_zero _)⟩
  have q1' : F_X1_gather G S (x + 1360) (x + 1) = F_X1_gather_b60 G pq_fuel S1 (x + 1360) 1 := q1
  rcases Nat.eq_zero_or_pos (gn T) with c | c
  · refine ⟨S1, ?_, fr_tr f0 q2, q3.1, fun j hj => by omega, fun j hj => by omega, hn⟩
    rw [q1', show pq_fuel = 99999 + 1 from rfl, F_X1_gather_b60.eq_2, q3.1, if_pos]
    have e : (ga T T.cnt).2.2 = 0 := c
    rw [e]; decide
  · obtain ⟨S2, k1, k2, k3, k4, k5⟩ := so_loop h (n := gn T) hn (e := (ga T T.cnt).1) (t := (ga T T.cnt).2.1) (gn T - 1) 0 pq_fuel S1 (by omega) (fuel_lt (by omega)) q3.1 q3.2.1 q3.2.2
    refine ⟨S2, ?_, fr_tr f0 (fr_tr q2 k2), by rw [k3]; exact q3.1, k4, k5, hn⟩
    rw [q1']
    exact k1
end CG
