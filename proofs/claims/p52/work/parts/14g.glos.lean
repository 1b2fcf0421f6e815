/-! THE GLOSSARY: what is counted, what is sorted -/
/-- n words e with the numbers t: no word twice, m in all -/
def GI (n m : Nat) (e : Nat → Int64) (t : Nat → Int32) : Prop := (∀ i j, i < n → j < n → e i = e j → i = j) ∧ (∃ τ : Nat → Nat, (∀ i, i < n → t i = nI (τ i) ∧ 1 ≤ τ i) ∧ su τ n = m) ∧ ∀ i, i < n → wV (e i)
theorem su_ge {f : Nat → Nat} {i : Nat} : ∀ {n}, i < n → f i ≤ su f n
  | 0, h => absurd h (Nat.not_lt_zero _)
  | n + 1, h => by
    show f i ≤ su f n + f n
    rcases Nat.lt_or_ge i n with z | z
    · have := su_ge (f := f) z
      omega
    · have : i = n := by omega
      subst this; omega
theorem su_up {f : Nat → Nat} {k v : Nat} : ∀ {n}, k < n → su (fun j => if j = k then f k + v else f j) n = su f n + v
  | 0, h => absurd h (Nat.not_lt_zero _)
  | n + 1, h => by
    show su (fun j => if j = k then f k + v else f j) n + (if n = k then f k + v else f n) = su f n + f n + v
    rcases Nat.lt_or_ge k n with z | z
    · rw [su_up z, if_neg (by omega)]
      omega
    · have : k = n := by omega
      subst this
      rw [if_pos rfl, su_cg (g := f) (fun i hi => if_neg (by omega))]
      omega
theorem GI_c {m : Nat} {g : tG} {w : Int64} (hw : wV w) (h : GI g.2.2 m g.1 g.2.1) : GI (gc g w).2.2 (m + 1) (gc g w).1 (gc g w).2.1 := by
  obtain ⟨h1, ⟨τ, h2, h3⟩, h4⟩ := h
  have hle := gcI_le (e := g.1) (n := g.2.2) (w := w)
  by_cases c : gcI g.1 g.2.2 w = g.2.2
  · have eg : gc g w = (vp_updL g.1 g.2.2 w, upd (upd g.2.1 g.2.2 0) g.2.2 (0 + 1), g.2.2 + 1) := if_pos c
    have hn : ∀ i, i < g.2.2 → ¬ g.1 i = w := fun i hi z => by
      unfold gcI at c
      cases e : fi (fun k => g.1 k == w) 0 g.2.2 with
      | none =>
        have := fi_none e i (by omega) (by omega)
        simp [z] at this
      | some k =>
        rw [e] at c
        have := fi_some e
        have c' : k = g.2.2 := c
        omega
    rw [eg]
    refine ⟨fun i j hi hj => ?_, ⟨fun k => if k = g.2.2 then 1 else τ k, fun i hi => ?_, ?_⟩, fun i hi => ?_⟩
    · have hi' : i < g.2.2 + 1 := hi
      have hj' : j < g.2.2 + 1 := hj
      show vp_updL g.1 g.2.2 w i = vp_updL g.1 g.2.2 w j → _
      by_cases ci : i = g.2.2
      · by_cases cj : j = g.2.2
        · intro _; omega
        · rw [ci, pk_uLs, pk_uLn cj]
          intro z
          exact absurd z.symm (hn j (by omega))
      · by_cases cj : j = g.2.2
        · rw [cj, pk_uLs, pk_uLn ci]
          intro z
          exact absurd z (hn i (by omega))
        · rw [pk_uLn ci, pk_uLn cj]
          exact h1 i j (by omega) (by omega)
    · have hi' : i < g.2.2 + 1 := hi
      show upd (upd g.2.1 g.2.2 0) g.2.2 (0 + 1) i = nI (if i = g.2.2 then 1 else τ i) ∧ 1 ≤ if i = g.2.2 then 1 else τ i
      by_cases ci : i = g.2.2
      · rw [if_pos ci, ci, pk_us]
        exact ⟨by decide, Nat.le_refl _⟩
      · rw [if_neg ci, pk_un ci, pk_un ci]
        exact h2 i (by omega)
    · show su (fun k => if k = g.2.2 then 1 else τ k) g.2.2 + (if g.2.2 = g.2.2 then 1 else τ g.2.2) = m + 1
      rw [if_pos rfl, su_cg (g := τ) (fun i hi => if_neg (by omega)), h3]
    · have hi' : i < g.2.2 + 1 := hi
      show wV (vp_updL g.1 g.2.2 w i)
      by_cases ci : i = g.2.2
      · rw [ci, pk_uLs]; exact hw
      · rw [pk_uLn ci]; exact h4 i (by omega)
  · have eg : gc g w = (g.1, upd g.2.1 (gcI g.1 g.2.2 w) (g.2.1 (gcI g.1 g.2.2 w) + 1), g.2.2) := if_neg c
    have hk : gcI g.1 g.2.2 w < g.2.2 := by omega
    rw [eg]
    refine ⟨h1, ⟨fun j => if j = gcI g.1 g.2.2 w then τ (gcI g.1 g.2.2 w) + 1 else τ j, fun i hi => ?_, ?_⟩, h4⟩
    · show upd g.2.1 (gcI g.1 g.2.2 w) (g.2.1 (gcI g.1 g.2.2 w) + 1) i = nI (if i = gcI g.1 g.2.2 w then τ (gcI g.1 g.2.2 w) + 1 else τ i) ∧ 1 ≤ if i = gcI g.1 g.2.2 w then τ (gcI g.1 g.2.2 w) + 1 else τ i
      by_cases ci : i = gcI g.1 g.2.2 w
      · rw [if_pos ci, ci, pk_us, (h2 _ hk).1, nI_1]
        exact ⟨rfl, by omega⟩
      · rw [if_neg ci, pk_un ci]
        exact h2 i hi
    · rw [su_up hk, h3]
theorem GI_w {m : Nat} {P : tP} {g : tG} (h : GI g.2.2 m g.1 g.2.1) : ∀ {j}, (∀ i, i < j → wV (P.w i)) → GI (gw P g j).2.2 (m + j) (gw P g j).1 (gw P g j).2.1
  | 0, _ => h
  | j + 1, hw => GI_c (m := m + j) (hw j (by omega)) (GI_w h (fun i hi => hw i (by omega)))
theorem GI_a {T : tT} : ∀ {p}, (∀ j, j < p → ∀ i, i < (T.pm j).wc → wV ((T.pm j).w i)) → GI (ga T p).2.2 (su (fun j => (T.pm j).wc) p) (ga T p).1 (ga T p).2.1
  | 0, _ => ⟨fun i j hi => absurd hi (Nat.not_lt_zero _), ⟨fun _ => 0, fun i hi => absurd hi (Nat.not_lt_zero _), rfl⟩, fun i hi => absurd hi (Nat.not_lt_zero _)⟩
  | p + 1, h => GI_w (GI_a (p := p) (fun j hj => h j (by omega))) (h p (by omega))
/-- the order of places when the k-th is put at pos -/
def rho (pos k i : Nat) : Nat := if i < pos then i else if i = pos then k else if i ≤ k then i - 1 else i
theorem mvl_r {w : Int64} {o : Int32} : ∀ (k : Nat) (e : Nat → Int64) (t : Nat → Int32), ∃ pos, pos ≤ k ∧ (mvl e t w o k).1 pos = w ∧ (mvl e t w o k).2 pos = o ∧ (∀ i, ¬ i = pos → (mvl e t w o k).1 i = e (rho pos k i) ∧ (mvl e t w o k).2 i = t (rho pos k i)) ∧ (∀ i, pos ≤ i → i < k → bef o w (t i) (e i) = true) ∧ (0 < pos → bef o w (t (pos - 1)) (e (pos - 1)) = false)
  | 0, e, t => by
    have em : mvl e t w o 0 = (vp_updL e 0 w, upd t 0 o) := rfl
    rw [em]
    refine ⟨0, Nat.le_refl _, show vp_updL e 0 w 0 = w from pk_uLs, show upd t 0 o 0 = o from pk_us, fun i hi => ?_, fun i h1 h2 => absurd h2 (Nat.not_lt_zero _), fun h => absurd h (Nat.lt_irrefl _)⟩
    have er : rho 0 0 i = i := by unfold rho; rw [if_neg (by omega), if_neg hi, if_neg (by omega)]
    rw [er]
    exact ⟨pk_uLn hi, pk_un hi⟩
  | k + 1, e, t => by
    by_cases c : bef o w (t k) (e k) = true
    · have em : mvl e t w o (k + 1) = mvl (vp_updL e (k + 1) (e k)) (upd t (k + 1) (t k)) w o k := if_pos c
      obtain ⟨pos, h1, h2, h3, h4, h5, h6⟩ := mvl_r k (vp_updL e (k + 1) (e k)) (upd t (k + 1) (t k))
      rw [em]
      refine ⟨pos, by omega, h2, h3, fun i hi => ?_, fun i g1 g2 => ?_, fun g => ?_⟩
      · obtain ⟨a1, a2⟩ := h4 i hi
        rw [a1, a2]
        by_cases z : i = k + 1
        · have e1 : rho pos k i = k + 1 := by unfold rho; rw [if_neg (by omega), if_neg hi, if_neg (by omega)]; exact z
          have e2 : rho pos (k + 1) i = k := by unfold rho; rw [if_neg (by omega), if_neg hi, if_pos (by omega)]; omega
          rw [e1, e2, pk_uLs, pk_us]
          exact ⟨rfl, rfl⟩
        · have e1 : rho pos k i = rho pos (k + 1) i := by
            unfold rho
            by_cases y : i < pos
            · rw [if_pos y, if_pos y]
            · rw [if_neg y, if_neg y, if_neg hi, if_neg hi]
              by_cases y2 : i ≤ k
              · rw [if_pos y2, if_pos (by omega)]
              · rw [if_neg y2, if_neg (by omega)]
          have ne : ¬ rho pos (k + 1) i = k + 1 := by
            unfold rho
            by_cases y : i < pos
            · rw [if_pos y]; omega
            · rw [if_neg y, if_neg hi]
              by_cases y2 : i ≤ k + 1
              · rw [if_pos y2]; omega
              · rw [if_neg y2]; omega
          rw [e1, pk_uLn ne, pk_un ne]
          exact ⟨rfl, rfl⟩
      · by_cases z : i = k
        · rw [z]; exact c
        · have := h5 i g1 (by omega)
          rw [pk_un (by omega), pk_uLn (by omega)] at this
          exact this
      · have := h6 g
        rw [pk_un (by omega), pk_uLn (by omega)] at this
        exact this
    · have em : mvl e t w o (k + 1) = (vp_updL e (k + 1) w, upd t (k + 1) o) := if_neg c
      rw [em]
      refine ⟨k + 1, Nat.le_refl _, show vp_updL e (k + 1) w (k + 1) = w from pk_uLs, show upd t (k + 1) o (k + 1) = o from pk_us, fun i hi => ?_, fun i g1 g2 => by omega, fun _ => ?_⟩
      · have er : rho (k + 1) (k + 1) i = i := by
          unfold rho
          by_cases y : i < k + 1
          · rw [if_pos y]
          · rw [if_neg y, if_neg hi, if_neg (by omega)]
        rw [er]
        exact ⟨pk_uLn hi, pk_un hi⟩
      · show bef o w (t (k + 1 - 1)) (e (k + 1 - 1)) = false
        rw [Nat.add_sub_cancel]
        simpa using c
theorem rho_lt {pos k n i : Nat} (hp : pos ≤ k) (hk : k < n) (hi : i < n) : rho pos k i < n := by
  unfold rho
  split
  · omega
  · split
    · omega
    · split <;> omega
theorem rho_inj {pos k i j : Nat} (hp : pos ≤ k) (h : rho pos k i = rho pos k j) : i = j := by
  unfold rho at h
  (repeat' split at h) <;> omega
theorem su_rho {f : Nat → Nat} {pos k : Nat} (hp : pos ≤ k) : ∀ n, k < n → su (fun i => f (rho pos k i)) n = su f n := by
  have h1 : ∀ m, m ≤ pos → su (fun i => f (rho pos k i)) m = su f m := fun m hm => su_cg fun i hi => by
    unfold rho
    rw [if_pos (by omega)]
  have h2 : ∀ m, pos ≤ m → m ≤ k → su (fun i => f (rho pos k i)) (m + 1) = su f m + f k := by
    intro m
    induction m with
    | zero =>
      intro a b
      have : pos = 0 := by omega
      subst this
      show su (fun i => f (rho 0 k i)) 0 + f (rho 0 k 0) = su f 0 + f k
      have e : rho 0 k 0 = k := by unfold rho; rw [if_neg (Nat.lt_irrefl _), if_pos rfl]
      rw [e]; rfl
    | succ m ih =>
      intro a b
      rcases Nat.lt_or_ge m pos with z | z
      · have ep : pos = m + 1 := by omega
        show su (fun i => f (rho pos k i)) (m + 1) + f (rho pos k (m + 1)) = su f (m + 1) + f k
        have e : rho pos k (m + 1) = k := by unfold rho; rw [if_neg (by omega), if_pos (by omega)]
        rw [h1 (m + 1) (by omega), e]
      · show su (fun i => f (rho pos k i)) (m + 1) + f (rho pos k (m + 1)) = su f m + f m + f k
        have e : rho pos k (m + 1) = m := by unfold rho; rw [if_neg (by omega), if_neg (by omega), if_pos (by omega)]; omega
        rw [ih z (by omega), e]
        omega
  intro n
  induction n with
  | zero => intro h; omega
  | succ n ih =>
    intro h
    rcases Nat.lt_or_ge k n with z | z
    · show su (fun i => f (rho pos k i)) n + f (rho pos k n) = su f n + f n
      have e : rho pos k n = n := by unfold rho; rw [if_neg (by omega), if_neg (by omega), if_neg (by omega)]
      rw [ih z, e]
    · have : k = n := by omega
      subst this
      rw [h2 k hp (Nat.le_refl _)]
      rfl
theorem bef_tot {o o' : Int32} {w w' : Int64} (h : bef o w o' w' = false) (hw : ¬ w = w') : bef o' w' o w = true := by
  unfold bef at h ⊢
  by_cases c : o = o'
  · rw [if_pos c] at h
    rw [if_pos c.symm]
    have h1 : ¬ w < w' := of_decide_eq_false h
    refine decide_eq_true ?_
    rcases Int64.lt_or_eq_of_le (Int64.not_lt.mp h1) with z | z
    · exact z
    · exact absurd z.symm hw
  · rw [if_neg c] at h
    rw [if_neg (fun z => c z.symm)]
    have h1 : ¬ o' < o := of_decide_eq_false h
    refine decide_eq_true ?_
    rcases Int32.lt_or_eq_of_le (Int32.not_lt.mp h1) with z | z
    · exact z
    · exact absurd z c
/-- sorted up to i -/
def SO (e : Nat → Int64) (t : Nat → Int32) (i : Nat) : Prop := ∀ a, a < i → bef (t a) (e a) (t (a + 1)) (e (a + 1)) = true
theorem gs_i {n m : Nat} {e : Nat → Int64} {t : Nat → Int32} (h : GI n m e t) : ∀ {i}, i < n → GI n m (gs e t i).1 (gs e t i).2 ∧ SO (gs e t i).1 (gs e t i).2 i
  | 0, _ => ⟨h, fun a ha => absurd ha (Nat.not_lt_zero _)⟩
  | i + 1, hi => by
    obtain ⟨hG, hS⟩ := gs_i h (i := i) (by omega)
    have es : gs e t (i + 1) = mvl (gs e t i).1 (gs e t i).2 ((gs e t i).1 (i + 1)) ((gs e t i).2 (i + 1)) (i + 1) := rfl
    rw [es]
    generalize gs e t i = q at hG hS ⊢
    obtain ⟨e, t⟩ := q
    dsimp only at hG hS ⊢
    obtain ⟨pos, h1, h2, h3, h4, h5, h6⟩ := mvl_r (w := e (i + 1)) (o := t (i + 1)) (i + 1) e t
    generalize mvl e t (e (i + 1)) (t (i + 1)) (i + 1) = r at h2 h3 h4 ⊢
    obtain ⟨e', t'⟩ := r
    dsimp only at h2 h3 h4 ⊢
    have ep : rho pos (i + 1) pos = i + 1 := by unfold rho; rw [if_neg (Nat.lt_irrefl _), if_pos rfl]
    have hr : ∀ j, e' j = e (rho pos (i + 1) j) ∧ t' j = t (rho pos (i + 1) j) := fun j => by
      by_cases z : j = pos
      · rw [z, ep]; exact ⟨h2, h3⟩
      · exact h4 j z
    obtain ⟨g1, ⟨τ, g2, g3⟩, g4⟩ := hG
    have rl : ∀ j, j < n → rho pos (i + 1) j < n := fun j hj => rho_lt h1 hi hj
    refine ⟨⟨fun a b ha hb hab => ?_, ⟨fun j => τ (rho pos (i + 1) j), fun j hj => ?_, ?_⟩, fun j hj => ?_⟩, fun a ha => ?_⟩
    · rw [(hr a).1, (hr b).1] at hab
      exact rho_inj h1 (g1 _ _ (rl a ha) (rl b hb) hab)
    · rw [(hr j).2]
      exact g2 _ (rl j hj)
    · rw [su_rho h1 n hi]
      exact g3
    · rw [(hr j).1]
      exact g4 _ (rl j hj)
    · -- the order of neighbours
      rcases Nat.lt_trichotomy (a + 1) pos with z | z | z
      · have e1 : rho pos (i + 1) a = a := by unfold rho; rw [if_pos (by omega)]
        have e2 : rho pos (i + 1) (a + 1) = a + 1 := by unfold rho; rw [if_pos z]
        rw [(hr a).1, (hr a).2, (hr (a + 1)).1, (hr (a + 1)).2, e1, e2]
        exact hS a (by omega)
      · have e1 : rho pos (i + 1) a = a := by unfold rho; rw [if_pos (by omega)]
        rw [(hr a).1, (hr a).2, e1, z, h2, h3]
        have h7 := h6 (by omega)
        have ea : pos - 1 = a := by omega
        rw [ea] at h7
        refine bef_tot h7 fun y => ?_
        have := g1 (i + 1) a (by omega) (by omega) y
        omega
      · by_cases y : a = pos
        · have e2 : rho pos (i + 1) (a + 1) = a := by unfold rho; rw [if_neg (by omega), if_neg (by omega), if_pos (by omega)]; omega
          rw [(hr (a + 1)).1, (hr (a + 1)).2, e2, y, h2, h3]
          exact h5 pos (Nat.le_refl _) (by omega)
        · have e1 : rho pos (i + 1) a = a - 1 := by unfold rho; rw [if_neg (by omega), if_neg y, if_pos (by omega)]
          have e2 : rho pos (i + 1) (a + 1) = a := by unfold rho; rw [if_neg (by omega), if_neg (by omega), if_pos (by omega)]; omega
          rw [(hr a).1, (hr a).2, (hr (a + 1)).1, (hr (a + 1)).2, e1, e2]
          have := hS (a - 1) (by omega)
          rw [show a - 1 + 1 = a by omega] at this
          exact this
/-- all of it -/
theorem gl_all {T : tT} (hw : ∀ j, j < T.cnt → ∀ i, i < (T.pm j).wc → wV ((T.pm j).w i)) : ∃ τ : Nat → Nat, (∀ k, k < gn T → gt T k = nI (τ k) ∧ 1 ≤ τ k) ∧ su τ (gn T) = su (fun j => (T.pm j).wc) T.cnt ∧ (∀ k, k < gn T → wV (ge T k)) ∧ ∀ k, k + 1 < gn T → bef (gt T k) (ge T k) (gt T (k + 1)) (ge T (k + 1)) = true := by
  have h := GI_a hw
  have hn : (ga T T.cnt).2.2 = gn T := rfl
  rw [hn] at h
  rcases Nat.eq_zero_or_pos (gn T) with z | z
  · obtain ⟨-, ⟨τ, g2, g3⟩, -⟩ := h
    rw [z] at g3 ⊢
    exact ⟨τ, fun k hk => absurd hk (Nat.not_lt_zero _), g3, fun k hk => absurd hk (Nat.not_lt_zero _), fun k hk => absurd hk (Nat.not_lt_zero _)⟩
  · obtain ⟨⟨-, ⟨τ, g2, g3⟩, g4⟩, hS⟩ := gs_i h (i := gn T - 1) (by omega)
    exact ⟨τ, g2, g3, g4, fun k hk => hS k (by omega)⟩
section IG
variable {G : pq_G} {x : Nat} {W : tW}
theorem wT_w {b : Nat} {T : tT} (t : wT b T) : ∀ j, j < T.cnt → ∀ i, i < (T.pm j).wc → wV ((T.pm j).w i) := by
  obtain ⟨d, pp, hd, ed, hp⟩ := t
  exact fun j hj => (hp j hj).2.2.2.2.2
theorem ig_172 (h : sh_G G x) (v : vW W) {y1 y2 y3 : Int32} {k n : Nat} (hk : k < gn W.1) (hn : 1 ≤ n) (hn2 : n ≤ 1000000) (hw : wV (ge W.1 k)) {c39 : pq_N → Nat → Int32 → Int32 → Int32 → Int32 → Option (Int32 × pq_N)} (K : ∀ S, rC S x W → ok x W (c39 S x y1 y2 y3 (nI (k + 1))) 1) {S : pq_N} (r : rC S x W) : ok x W (F_L_isGlossary_b172 G c39 S x y1 y2 y3 (nI k) (nI n)) 1 := by
  have h0 := wV_0 hw
  unfold F_L_isGlossary_b172
  rw [if_neg (show ¬ nI n < (1 : Int32) from nI_nlt (b := 1) hn (by omega))]
  refine ok_b (a_glossaryLetter h v r hk (i := 0) (by decide)) (fun S r => ?_)
  rw [if_neg h0.1]
  refine ok_b (a_glossaryLetter h v r hk (i := 7) (by decide)) (fun S r => ?_)
  rw [if_pos (show lI (ge W.1 k) (nI 7) = -1 from lI_7), nI_1]
  exact K S r
theorem ig_149 (h : sh_G G x) (v : vW W) {y1 y2 y3 : Int32} {k n : Nat} (hk : k < gn W.1) (hn : 1 ≤ n) (hn2 : n ≤ 1000000) (hw : wV (ge W.1 k)) (hp : 0 < k → ¬ gt W.1 (k - 1) < nI n) {c39 : pq_N → Nat → Int32 → Int32 → Int32 → Int32 → Option (Int32 × pq_N)} (K : ∀ S, rC S x W → ok x W (c39 S x y1 y2 y3 (nI (k + 1))) 1) {S : pq_N} (r : rC S x W) : ok x W (F_L_isGlossary_b149 G c39 S x y1 y2 y3 (nI k) (nI n) 1) 1 := by
  have hg := gn_le (vW_t v)
  unfold F_L_isGlossary_b149
  rw [if_neg (by decide)]
  rcases Nat.eq_zero_or_pos k with z | z
  · rw [if_pos (by rw [z]; decide)]
    exact ig_172 h v hk hn hn2 hw K r
  · rw [if_neg (nI_nle z (by omega)), nI_sub1 z]
    refine ok_b (a_timesOf h v r (k := k - 1) (by omega)) (fun S r => ?_)
    rw [if_neg (hp z)]
    exact ig_172 h v hk hn hn2 hw K r
/-- the letters of two words, until they are not the same -/
theorem ig_86 (h : sh_G G x) (v : vW W) {y1 y2 y3 : Int32} {k n i0 : Nat} (hk : k < gn W.1) (hn : 1 ≤ n) (hn2 : n ≤ 1000000) (hw : wV (ge W.1 k)) (k0 : 0 < k) (hp : ¬ gt W.1 (k - 1) < nI n) {c39 : pq_N → Nat → Int32 → Int32 → Int32 → Int32 → Option (Int32 × pq_N)} (K : ∀ S, rC S x W → ok x W (c39 S x y1 y2 y3 (nI (k + 1))) 1) (h7 : i0 < 7) (hs : ∀ t, t < i0 → lI (ge W.1 (k - 1)) (nI t) = lI (ge W.1 k) (nI t)) (hl : lI (ge W.1 (k - 1)) (nI i0) ≤ lI (ge W.1 k) (nI i0)) (hl2 : ¬ lI (ge W.1 k) (nI i0) ≤ lI (ge W.1 (k - 1)) (nI i0)) : ∀ (m i f : Nat) (S : pq_N), i + m = i0 → m + 1 < f → rC S x W → ok x W (F_L_isGlossary_b86 G c39 f S x y1 y2 y3 (nI k) (nI n) 0 (nI i)) 1 := by
  have hg := gn_le (vW_t v)
  intro m
  induction m with
  | zero =>
    intro i f S hi hf r
    obtain ⟨f, rfl⟩ : ∃ k, f = k + 1 := ⟨f - 1, by omega⟩
    obtain ⟨f, rfl⟩ : ∃ k, f = k + 1 := ⟨f - 1, by omega⟩
    have ei : i = i0 := by omega
    subst ei
    rw [F_L_isGlossary_b86.eq_2, if_neg (show ¬ (7 : Int32) ≤ nI i from nI_ge (b := 7) h7 (by decide)), if_pos rfl, nI_sub1 k0]
    refine ok_b (a_glossaryLetter h v r (k := k - 1) (i := i) (by omega) (by omega)) (fun S r => ?_)
    refine ok_b (a_glossaryLetter h v r (i := i) hk (by omega)) (fun S r => ?_)
    rw [if_pos hl, if_neg hl2, F_L_isGlossary_b86.eq_2]
    have fin := ig_149 (y1 := y1) (y2 := y2) (y3 := y3) h v hk hn hn2 hw (fun _ => hp) K r
    by_cases z : (7 : Int32) ≤ nI i + 1
    · rw [if_pos z]; exact fin
    · rw [if_neg z, if_neg (by decide)]; exact fin
  | succ m ih =>
    intro i f S hi hf r
    obtain ⟨f, rfl⟩ : ∃ k, f = k + 1 := ⟨f - 1, by omega⟩
    rw [F_L_isGlossary_b86.eq_2, if_neg (show ¬ (7 : Int32) ≤ nI i from nI_ge (b := 7) (by omega) (by decide)), if_pos rfl, nI_sub1 k0]
    refine ok_b (a_glossaryLetter h v r (k := k - 1) (i := i) (by omega) (by omega)) (fun S r => ?_)
    refine ok_b (a_glossaryLetter h v r (i := i) hk (by omega)) (fun S r => ?_)
    rw [hs i (by omega), if_pos (Int32.le_refl _), if_pos (Int32.le_refl _), nI_1]
    exact ih (i + 1) f S (by omega) (by omega) r
theorem ig_39 (h : sh_G G x) (v : vW W) {τ : Nat → Nat} (h1 : ∀ k, k < gn W.1 → gt W.1 k = nI (τ k) ∧ 1 ≤ τ k) (h2 : su τ (gn W.1) = su (fun j => (W.1.pm j).wc) W.1.cnt) (h3 : ∀ k, k < gn W.1 → wV (ge W.1 k)) (h4 : ∀ k, k + 1 < gn W.1 → bef (gt W.1 k) (ge W.1 k) (gt W.1 (k + 1)) (ge W.1 (k + 1)) = true) : ∀ (m k n : Nat) (S : pq_N), k + m = gn W.1 → m < n → rC S x W → ok x W (F_L_isGlossary_b39 G n S x (nI (gn W.1)) (nI (su (fun j => (W.1.pm j).wc) W.1.cnt)) (nI (su τ k)) (nI k)) 1 := by
  have hg := gn_le (vW_t v)
  have h20 := (vW_t v).1
  have hw : su (fun j => (W.1.pm j).wc) W.1.cnt ≤ 60 * W.1.cnt := su_le (fun i hi => v60 (vW_t v) hi)
  have hb : ∀ k, k < gn W.1 → τ k ≤ 1200 := fun k hk => by
    have := su_ge (f := τ) hk
    omega
  intro m
  induction m with
  | zero =>
    intro k n S hk hn r
    obtain ⟨n, rfl⟩ : ∃ k, n = k + 1 := ⟨n - 1, by omega⟩
    have ek : k = gn W.1 := by omega
    rw [F_L_isGlossary_b39.eq_2, if_pos (nI_le (by omega) (by omega)), ek, h2, if_pos rfl]
    exact ok_r r
  | succ m ih =>
    intro k n S hk hn r
    obtain ⟨n, rfl⟩ : ∃ k, n = k + 1 := ⟨n - 1, by omega⟩
    have hk' : k < gn W.1 := by omega
    have q1 := h1 k hk'
    have qb := hb k hk'
    have K : ∀ S, rC S x W → ok x W (F_L_isGlossary_b39 G n S x (nI (gn W.1)) (nI (su (fun j => (W.1.pm j).wc) W.1.cnt)) (nI (su τ k) + nI (τ k)) (nI (k + 1))) 1 := fun S r => by
      rw [nI_add]
      exact ih (k + 1) n S (by omega) (by omega) r
    rw [F_L_isGlossary_b39.eq_2, if_neg (nI_ge hk' (by omega))]
    refine ok_b (a_timesOf h v r hk') (fun S r => ?_)
    rw [q1.1]
    rcases Nat.eq_zero_or_pos k with z | z
    · rw [if_pos (by rw [z]; rfl), show pq_fuel = 99999 + 1 from rfl, F_L_isGlossary_b86.eq_2, if_neg (by decide), if_neg (by decide)]
      exact ig_149 h v hk' q1.2 (by omega) (h3 k hk') (fun y => by omega) K r
    · have p1 := h1 (k - 1) (by omega)
      have pb := hb (k - 1) (by omega)
      have hbf := h4 (k - 1) (by omega)
      rw [show k - 1 + 1 = k by omega] at hbf
      rw [if_neg (nI_ne0 z (by omega)), nI_sub1 z]
      refine ok_b (a_timesOf h v r (k := k - 1) (by omega)) (fun S r => ?_)
      have np : ¬ gt W.1 (k - 1) < nI (τ k) := fun y => by
        unfold bef at hbf
        rw [q1.1] at hbf
        by_cases c : gt W.1 (k - 1) = nI (τ k)
        · rw [c] at y
          exact Int32.lt_irrefl y
        · rw [if_neg c] at hbf
          exact Int32.lt_asymm y (of_decide_eq_true hbf)
      by_cases c : gt W.1 (k - 1) ≤ nI (τ k)
      · have ceq : gt W.1 (k - 1) = nI (τ k) := Int32.le_antisymm c (Int32.not_lt.mp np)
        have hlt : ge W.1 (k - 1) < ge W.1 k := by
          unfold bef at hbf
          rw [q1.1, if_pos ceq] at hbf
          exact of_decide_eq_true hbf
        obtain ⟨i0, g1, g2, g3, g4⟩ := wV_lt (h3 (k - 1) (by omega)) (h3 k hk') hlt
        rw [if_pos c]
        exact ig_86 h v hk' q1.2 (by omega) (h3 k hk') z np K g1 g2 g3 g4 i0 0 pq_fuel S (by omega) (fuel_lt (by omega)) r
      · rw [if_neg c, show pq_fuel = 99999 + 1 from rfl, F_L_isGlossary_b86.eq_2, if_neg (by decide), if_neg (by decide)]
        exact ig_149 h v hk' q1.2 (by omega) (h3 k hk') (fun _ => np) K r
theorem ig_12 (h : sh_G G x) (v : vW W) {y1 : Int32} {F : pq_N → Option (Int32 × pq_N)} (K : ∀ S, rC S x W → ok x W (F_L_isGlossary_b39 G pq_fuel S x y1 (nI (su (fun j => (W.1.pm j).wc) W.1.cnt)) 0 0) 1) : ∀ (m p n : Nat) (S : pq_N), p + m = W.1.cnt → m < n → rC S x W → ok x W (F_L_isGlossary_b12 G n S x y1 (nI (su (fun j => (W.1.pm j).wc) p)) 0 (nI p)) 1 := by
  have h20 := (vW_t v).1
  intro m
  induction m with
  | zero =>
    intro p n S hp hn r
    obtain ⟨n, rfl⟩ : ∃ k, n = k + 1 := ⟨n - 1, by omega⟩
    have ep : p = W.1.cnt := by omega
    rw [F_L_isGlossary_b12.eq_2]
    refine ok_b (a_pamphlets h v r) (fun S r => ?_)
    rw [if_pos (nI_le (by omega) (by omega)), ep]
    exact K S r
  | succ m ih =>
    intro p n S hp hn r
    obtain ⟨n, rfl⟩ : ∃ k, n = k + 1 := ⟨n - 1, by omega⟩
    rw [F_L_isGlossary_b12.eq_2]
    refine ok_b (a_pamphlets h v r) (fun S r => ?_)
    rw [if_neg (nI_ge (by omega) (by omega))]
    refine ok_b (a_wordsOf h v r (j := p) (by omega)) (fun S r => ?_)
    rw [nI_add, nI_1]
    exact ih (p + 1) n S (by omega) (by omega) r
theorem l_isGlossary (h : sh_G G x) (v : vW W) {b : Nat} (t : wT b W.1) {S : pq_N} (r : rC S x W) : ok x W (F_L_isGlossary G S x) 1 := by
  obtain ⟨τ, h1, h2, h3, h4⟩ := gl_all (wT_w t)
  have hg := gn_le (vW_t v)
  unfold F_L_isGlossary
  refine ok_b (a_glossary h v r) (fun S r => ?_)
  exact ig_12 (F := fun _ => none) h v (fun S r => ig_39 h v h1 h2 h3 h4 (gn W.1) 0 pq_fuel S (by omega) (fuel_lt (by omega)) r) W.1.cnt 0 pq_fuel S (by omega) (fuel_lt (by have := (vW_t v).1; omega)) r
end IG
