/-! THE OBJECTS as they are made -/
def zN : pq_N := (fun _ _ => 0, fun _ _ => 0)
theorem zN_z {q : Nat} : pq_zero zN q = zN := by
  refine Prod.ext (funext fun b => ?_) (funext fun b => ?_)
  · show va_up (fun _ _ => (0 : Int32)) q (fun _ => 0) b = fun _ => 0
    by_cases hb : b = q
    · subst hb; rw [va_up_self]
    · rw [va_up_ne _ _ hb]
  · show va_up (fun _ _ => (0 : Int64)) q (fun _ => 0) b = fun _ => 0
    by_cases hb : b = q
    · subst hb; rw [va_up_self]
    · rw [va_up_ne _ _ hb]
/-- nothing of q has changed -/
def smG (G' G : pq_G) (q : Nat) : Prop := G'.2.1 q = G.2.1 q ∧ G'.2.2.1 q = G.2.2.1 q ∧ G'.2.2.2 q = G.2.2.2 q
theorem sm_rfl {G : pq_G} {q : Nat} : smG G G q := ⟨rfl, rfl, rfl⟩
theorem sm_tr {G G1 G2 : pq_G} {q : Nat} (h : smG G2 G1 q) (h' : smG G1 G q) : smG G2 G q := ⟨h.1.trans h'.1, h.2.1.trans h'.2.1, h.2.2.trans h'.2.2⟩
theorem sm_push {G : pq_G} {q kd n b : Nat} (h : b ≠ q) : smG (pq_push G q kd n) G b := ⟨va_up_ne _ _ h, va_up_ne _ _ h, va_up_ne _ _ h⟩
theorem sm_ref {G : pq_G} {a k q b : Nat} (h : b ≠ a) : smG (pq_ref G a k q) G b := ⟨rfl, va_up_ne _ _ h, rfl⟩
theorem mem_push {G : pq_G} {q kd n b : Nat} : b ∈ (pq_push G q kd n).1 ↔ b ∈ G.1 ∨ b = q := by
  show b ∈ G.1 ++ [q] ↔ _
  rw [List.mem_append, List.mem_singleton]
theorem ref_s {G : pq_G} {a k q : Nat} : (pq_ref G a k q).2.2.1 a k = some q := by
  show va_up G.2.2.1 a (va_up (G.2.2.1 a) k (some q)) a k = some q
  rw [va_up_self, va_up_self]
theorem ref_n {G : pq_G} {a k k' q : Nat} (h : k' ≠ k) : (pq_ref G a k q).2.2.1 a k' = G.2.2.1 a k' := by
  show va_up G.2.2.1 a (va_up (G.2.2.1 a) k (some q)) a k' = _
  rw [va_up_self, va_up_ne _ _ h]
theorem pq_r_of {G : pq_G} {a k q : Nat} (h : G.2.2.1 a k = some q) : pq_r G a k = q := by unfold pq_r; rw [h]; rfl
theorem pq_r_sm {G' G : pq_G} {a k : Nat} (h : smG G' G a) : pq_r G' a k = pq_r G a k := by unfold pq_r; rw [h.2.1]
theorem pq_n_sm {G' G : pq_G} {a : Nat} (h : smG G' G a) : pq_n G' a = pq_n G a := h.2.2
theorem sh_R_sm {G' G : pq_G} {a n : Nat} (h0 : smG G' G a) (h1 : smG G' G (a + 1)) (r : sh_R G a n) : sh_R G' a n := ⟨by rw [pq_r_sm h0]; exact r.1, by rw [pq_n_sm h1]; exact r.2⟩
def shP1 (G : pq_G) (a : Nat) : Prop := (pq_r G a 0 = a + 1 ∧ pq_r G a 1 = a + 3 ∧ pq_r G a 2 = a + 5 ∧ pq_r G a 3 = a + 7) ∧ sh_R G (a + 1) 60 ∧ sh_R G (a + 3) 16 ∧ sh_R G (a + 5) 16 ∧ sh_R G (a + 7) 16
theorem shP1_sm {G' G : pq_G} {a : Nat} (h : ∀ q, a ≤ q → q < a + 9 → smG G' G q) (r : shP1 G a) : shP1 G' a := by
  obtain ⟨⟨r1, r2, r3, r4⟩, r5, r6, r7, r8⟩ := r
  have h0 := h a (by omega) (by omega)
  exact ⟨⟨by rw [pq_r_sm h0]; exact r1, by rw [pq_r_sm h0]; exact r2, by rw [pq_r_sm h0]; exact r3, by rw [pq_r_sm h0]; exact r4⟩, sh_R_sm (h _ (by omega) (by omega)) (h _ (by omega) (by omega)) r5, sh_R_sm (h _ (by omega) (by omega)) (h _ (by omega) (by omega)) r6, sh_R_sm (h _ (by omega) (by omega)) (h _ (by omega) (by omega)) r7, sh_R_sm (h _ (by omega) (by omega)) (h _ (by omega) (by omega)) r8⟩
/-- what holds of the thing at a, where things end at hi -/
def oB (G : pq_G) (hi a : Nat) : Prop := (∀ k d, pq_rk (G.2.1 a) k = some d → ∃ q, G.2.2.1 a k = some q ∧ a < q ∧ q < hi ∧ G.2.1 q = d) ∧ (G.2.1 a = 14 → ∀ i, i < G.2.2.2 a → ∃ q, G.2.2.1 a i = some q ∧ a < q ∧ q < hi ∧ G.2.1 q = 4) ∧ (G.2.1 a = 15 → ∀ i, i < G.2.2.2 a → ∃ q, G.2.2.1 a i = some q ∧ a < q ∧ q < hi ∧ G.2.1 q = 9) ∧ (G.2.1 a = 4 → a + 9 ≤ hi ∧ shP1 G a)
theorem oB_sm {G' G : pq_G} {a hi hi' : Nat} (h : ∀ q, a ≤ q → q < hi → smG G' G q) (hh : hi ≤ hi') (ha : a < hi) (o : oB G hi a) : oB G' hi' a := by
  obtain ⟨o1, o2, o3, o4⟩ := o
  have h0 := h a (Nat.le_refl _) ha
  refine ⟨fun k d e => ?_, fun e i hi2 => ?_, fun e i hi2 => ?_, fun e => ?_⟩
  · rw [h0.1] at e
    obtain ⟨q, q1, q2, q3, q4⟩ := o1 k d e
    exact ⟨q, by rw [h0.2.1]; exact q1, q2, by omega, by rw [(h q (by omega) q3).1]; exact q4⟩
  · rw [h0.1] at e
    rw [h0.2.2] at hi2
    obtain ⟨q, q1, q2, q3, q4⟩ := o2 e i hi2
    exact ⟨q, by rw [h0.2.1]; exact q1, q2, by omega, by rw [(h q (by omega) q3).1]; exact q4⟩
  · rw [h0.1] at e
    rw [h0.2.2] at hi2
    obtain ⟨q, q1, q2, q3, q4⟩ := o3 e i hi2
    exact ⟨q, by rw [h0.2.1]; exact q1, q2, by omega, by rw [(h q (by omega) q3).1]; exact q4⟩
  · rw [h0.1] at e
    obtain ⟨z1, z2⟩ := o4 e
    exact ⟨by omega, shP1_sm (fun q h1 h2 => h q h1 (by omega)) z2⟩
theorem oB_of {G : pq_G} {a hi c : Nat} (e : G.2.1 a = c) (hc : c ≠ 4 ∧ c ≠ 14 ∧ c ≠ 15) (hk : ∀ k d, pq_rk c k = some d → ∃ q, G.2.2.1 a k = some q ∧ a < q ∧ q < hi ∧ G.2.1 q = d) : oB G hi a := ⟨by rw [e]; exact hk, fun z => absurd (e.symm.trans z) hc.2.1, fun z => absurd (e.symm.trans z) hc.2.2, fun z => absurd (e.symm.trans z) hc.1⟩
theorem rk_12 {k d : Nat} (h : pq_rk 12 k = some d) : False := by
  have h' : (none : Option Nat) = some d := h
  cases h'
theorem rk_13 {k d : Nat} (h : pq_rk 13 k = some d) : False := by
  have h' : (none : Option Nat) = some d := h
  cases h'
theorem rk_14 {k d : Nat} (h : pq_rk 14 k = some d) : False := by
  have h' : (none : Option Nat) = some d := h
  cases h'
theorem rk_15 {k d : Nat} (h : pq_rk 15 k = some d) : False := by
  have h' : (none : Option Nat) = some d := h
  cases h'
theorem oB_row {G : pq_G} {a hi : Nat} (e : G.2.1 a = 12 ∨ G.2.1 a = 13) : oB G hi a := by
  rcases e with e | e
  · exact oB_of e (by decide) (fun k d h => (rk_12 h).elim)
  · exact oB_of e (by decide) (fun k d h => (rk_13 h).elim)
/-- G: an object a of the class c is being made; its things so far are those from a + 1 to nx; ex: what is not yet complete -/
def bs (G0 : pq_G) (a : Nat) : Prop := (∀ q ∈ G0.1, q ≤ a) ∧ a ∈ G0.1
def cu (ex : Nat → Prop) (G0 : pq_G) (a c nx : Nat) (G : pq_G) : Prop := a < nx ∧ (∀ q, q ∈ G.1 ↔ (q ∈ G0.1 ∨ (a < q ∧ q < nx))) ∧ (∀ q, q < a → smG G G0 q) ∧ G.2.1 a = c ∧ G.2.2.2 a = G0.2.2.2 a ∧ ∀ q, a < q → q < nx → ¬ ex q → oB G nx q
def nx_ : Nat → Prop := fun _ => False
theorem cu_0 {ex : Nat → Prop} {G : pq_G} {a c : Nat} (e : G.2.1 a = c) : cu ex G a c (a + 1) G := ⟨by omega, fun q => ⟨Or.inl, fun h => h.elim id (fun z => absurd z.2 (by omega))⟩, fun q _ => sm_rfl, e, rfl, fun q h1 h2 => absurd h2 (by omega)⟩
/-- a constructor: c: the class; size: how many things there are then, itself among them; P: what holds of them -/
def ini (F : pq_G → pq_N → Nat → Nat → Option pq_M) (c size : Nat) (P : pq_G → Nat → Prop) : Prop := ∀ (G : pq_G) (a : Nat), bs G a → G.2.1 a = c → ∃ G', F G zN (a + 1) a = some (G', zN, a + size) ∧ cu nx_ G a c (a + size) G' ∧ oB G' (a + size) a ∧ P G' a
theorem cu_rf {ex : Nat → Prop} {G0 G : pq_G} {a c nx k q : Nat} (C : cu ex G0 a c nx G) : cu ex G0 a c nx (pq_ref G a k q) := by
  obtain ⟨c1, c2, c3, c4, c5, c6⟩ := C
  exact ⟨c1, c2, fun b hb => sm_tr (sm_ref (by omega)) (c3 b hb), c4, c5, fun b h1 h2 h3 => oB_sm (fun p g1 g2 => sm_ref (by omega)) (Nat.le_refl _) h2 (c6 b h1 h2 h3)⟩
theorem cu_new {ex : Nat → Prop} {Fc : pq_G → pq_N → Nat → Nat → Option pq_M} {c' size : Nat} {P : pq_G → Nat → Prop} {G0 G : pq_G} {a c nx : Nat} (hi : ini Fc c' size P) (b : bs G0 a) (C : cu ex G0 a c nx G) : ∃ G1, Fc (pq_push G nx c' 0) zN (nx + 1) nx = some (G1, zN, nx + size) ∧ cu ex G0 a c (nx + size) G1 ∧ P G1 nx ∧ G1.2.1 nx = c' ∧ (∀ q, q < nx → smG G1 G q) ∧ (∀ q ∈ G1.1, q ∈ (pq_push G nx c' 0).1 ∨ nx + 1 ≤ q) ∧ nx < nx + size ∧ nx ∈ G1.1 ∧ a ∈ G1.1 := by
  obtain ⟨c1, c2, c3, c4, c5, c6⟩ := C
  have b12 : bs (pq_push G nx c' 0) nx := ⟨fun q hq => by
    rcases mem_push.mp hq with z | z
    · rcases (c2 q).mp z with y | y
      · have := b.1 q y; omega
      · omega
    · omega, mem_push.mpr (Or.inr rfl)⟩
  obtain ⟨G1, k1, ⟨k2, k3, k4, k5, k6, k7⟩, k8, k9⟩ := hi (pq_push G nx c' 0) nx b12 (va_up_self _ _ _)
  have s1 : ∀ q, q < nx → smG G1 G q := fun q hq => sm_tr (k4 q hq) (sm_push (by omega))
  have mm : ∀ q, q ∈ G1.1 ↔ (q ∈ G0.1 ∨ (a < q ∧ q < nx + size)) := fun q => by
    rw [k3 q, mem_push, c2 q]
    constructor
    · rintro ((z | z) | z)
      · rcases z with z | z
        · exact Or.inl z
        · exact Or.inr (by omega)
      · exact Or.inr (by omega)
      · exact Or.inr (by omega)
    · rintro (z | z)
      · exact Or.inl (Or.inl (Or.inl z))
      · rcases Nat.lt_trichotomy q nx with y | y | y
        · exact Or.inl (Or.inl (Or.inr (by omega)))
        · exact Or.inl (Or.inr y)
        · exact Or.inr (by omega)
  refine ⟨G1, k1, ⟨by omega, mm, fun q hq => sm_tr (s1 q (by omega)) (c3 q hq), by rw [(s1 a c1).1]; exact c4, by rw [(s1 a c1).2.2]; exact c5, fun q h1 h2 h3 => ?_⟩, k9, k5, s1, fun q hq => ?_, k2, (mm nx).mpr (Or.inr (by omega)), (mm a).mpr (Or.inl b.2)⟩
  · rcases Nat.lt_trichotomy q nx with y | y | y
    · exact oB_sm (fun p g1 g2 => s1 p g2) (by omega) y (c6 q h1 y h3)
    · rw [y]; exact k8
    · exact k7 q y h2 (fun z => z)
  · rcases (k3 q).mp hq with z | z
    · exact Or.inl z
    · exact Or.inr (by omega)
/-- a field's object -/
theorem cu_ch {ex : Nat → Prop} {Fc : pq_G → pq_N → Nat → Nat → Option pq_M} {c' size : Nat} {P : pq_G → Nat → Prop} {G0 G : pq_G} {a c nx : Nat} (k : Nat) (hi : ini Fc c' size P) (hP : ∀ G' G b, (∀ q, b ≤ q → q < b + size → smG G' G q) → P G b → P G' b) (b : bs G0 a) (C : cu ex G0 a c nx G) : ∃ G1, (∀ rest : pq_G → pq_N → Nat → Option pq_M, (pq_lt (pq_push G nx c' 0) fun G12 => (pq_lt (pq_zero zN nx) fun S14 => (Option.bind (Fc G12 S14 (nx + 1) nx) fun M => pq_l3 M fun G19 S20 n21 => (if ¬ (∀ q ∈ G19.1, q ∈ G12.1 ∨ (nx + 1) ≤ q) then none else (if n21 < (nx + 1) then none else (if ¬ (a ∈ G19.1 ∧ G19.2.1 a = c) then none else (if ¬ (nx ∈ G19.1 ∧ G19.2.1 nx = c') then none else (pq_lt (pq_ref G19 a k nx) fun G30 => rest G30 S20 n21)))))))) = rest G1 zN (nx + size)) ∧ cu ex G0 a c (nx + size) G1 ∧ P G1 nx ∧ G1.2.1 nx = c' ∧ G1.2.2.1 a k = some nx ∧ (∀ k', k' ≠ k → G1.2.2.1 a k' = G.2.2.1 a k') ∧ (∀ q, a < q → q < nx → smG G1 G q) := by
  obtain ⟨G1, k1, k2, k3, k4, k5, k6, k7, k8, k9⟩ := cu_new hi b C
  have c1 := C.1
  refine ⟨pq_ref G1 a k nx, fun rest => ?_, cu_rf k2, hP _ _ nx (fun q h1 h2 => sm_ref (by omega)) k3, k4, ref_s, fun k' hk => ?_, fun q h1 h2 => sm_tr (sm_ref (by omega)) (k5 q h2)⟩
  · rw [pq_lt1, pq_lt1, zN_z, k1]
    show (if ¬ (∀ q ∈ G1.1, q ∈ (pq_push G nx c' 0).1 ∨ (nx + 1) ≤ q) then none else (if nx + size < (nx + 1) then none else (if ¬ (a ∈ G1.1 ∧ G1.2.1 a = c) then none else (if ¬ (nx ∈ G1.1 ∧ G1.2.1 nx = c') then none else rest (pq_ref G1 a k nx) zN (nx + size))))) = _
    rw [if_neg (fun z => z k6), if_neg (by omega), if_neg (fun z => z ⟨k9, k2.2.2.2.1⟩), if_neg (fun z => z ⟨k8, k4⟩)]
  · rw [ref_n hk, (k5 a c1).2.1]
/-- a field's row -/
theorem cu_row {ex : Nat → Prop} {G0 G : pq_G} {a c nx : Nat} (k kd n : Nat) (hk : kd = 12 ∨ kd = 13 ∨ ex nx) (C : cu ex G0 a c nx G) : ∃ G1, (∀ rest : pq_G → pq_N → Option pq_M, (pq_lt (pq_push G nx kd n) fun G12 => (pq_lt (pq_zero zN nx) fun S14 => (pq_lt (pq_ref G12 a k nx) fun G19 => rest G19 S14))) = rest G1 zN) ∧ cu ex G0 a c (nx + 1) G1 ∧ G1.2.1 nx = kd ∧ G1.2.2.2 nx = n ∧ G1.2.2.1 a k = some nx ∧ (∀ k', k' ≠ k → G1.2.2.1 a k' = G.2.2.1 a k') ∧ (∀ q, a < q → q < nx → smG G1 G q) := by
  obtain ⟨c1, c2, c3, c4, c5, c6⟩ := C
  have hn : a ≠ nx := by omega
  have s1 : ∀ q, q ≠ a → q < nx → smG (pq_ref (pq_push G nx kd n) a k nx) G q := fun q h1 h2 => sm_tr (sm_ref h1) (sm_push (by omega))
  refine ⟨pq_ref (pq_push G nx kd n) a k nx, fun rest => ?_, ⟨by omega, fun q => ?_, fun q hq => sm_tr (s1 q (by omega) (by omega)) (c3 q hq), ?_, ?_, fun q h1 h2 h3 => ?_⟩, va_up_self _ _ _, va_up_self _ _ _, ref_s, fun k' hk' => ?_, fun q h1 h2 => s1 q (by omega) h2⟩
  · rw [pq_lt1, pq_lt1, pq_lt1, zN_z]
  · show q ∈ (pq_push G nx kd n).1 ↔ _
    rw [mem_push, c2 q]
    constructor
    · rintro ((z | z) | z)
      · exact Or.inl z
      · exact Or.inr (by omega)
      · exact Or.inr (by omega)
    · rintro (z | z)
      · exact Or.inl (Or.inl z)
      · rcases Nat.lt_or_ge q nx with y | y
        · exact Or.inl (Or.inr (by omega))
        · exact Or.inr (by omega)
  · show va_up G.2.1 nx kd a = c
    rw [va_up_ne _ _ hn]; exact c4
  · show va_up G.2.2.2 nx n a = _
    rw [va_up_ne _ _ hn]; exact c5
  · rcases Nat.lt_or_ge q nx with y | y
    · exact oB_sm (fun p g1 g2 => s1 p (by omega) g2) (by omega) y (c6 q h1 y h3)
    · have e : q = nx := by omega
      subst e
      rcases hk with z | z | z
      · exact oB_row (Or.inl ((va_up_self _ _ _).trans z))
      · exact oB_row (Or.inr ((va_up_self _ _ _).trans z))
      · exact absurd z h3
  · rw [ref_n hk']
    show va_up G.2.2.1 nx (fun _ => none) a k' = _
    rw [va_up_ne _ _ hn]
/-! the classes -/
theorem rk_7 : ∀ {k d : Nat}, pq_rk 7 k = some d → k = 0 ∧ d = 13
  | 0, d, h => ⟨rfl, (Option.some.inj (show some 13 = some d from h)).symm⟩
  | k + 1, d, h => by
    have h' : (none : Option Nat) = some d := h
    cases h'
theorem rk_0 : ∀ {k d : Nat}, pq_rk 0 k = some d → k = 0 ∧ d = 7
  | 0, d, h => ⟨rfl, (Option.some.inj (show some 7 = some d from h)).symm⟩
  | k + 1, d, h => by
    have h' : (none : Option Nat) = some d := h
    cases h'
theorem rk_3 : ∀ {k d : Nat}, pq_rk 3 k = some d → k = 0 ∧ d = 7
  | 0, d, h => ⟨rfl, (Option.some.inj (show some 7 = some d from h)).symm⟩
  | k + 1, d, h => by
    have h' : (none : Option Nat) = some d := h
    cases h'
theorem rk_8 : ∀ {k d : Nat}, pq_rk 8 k = some d → k = 0 ∧ d = 7
  | 0, d, h => ⟨rfl, (Option.some.inj (show some 7 = some d from h)).symm⟩
  | k + 1, d, h => by
    have h' : (none : Option Nat) = some d := h
    cases h'
theorem rk_5 : ∀ {k d : Nat}, pq_rk 5 k = some d → k = 0 ∧ d = 8
  | 0, d, h => ⟨rfl, (Option.some.inj (show some 8 = some d from h)).symm⟩
  | k + 1, d, h => by
    have h' : (none : Option Nat) = some d := h
    cases h'
theorem rk_6 : ∀ {k d : Nat}, pq_rk 6 k = some d → k = 0 ∧ d = 4
  | 0, d, h => ⟨rfl, (Option.some.inj (show some 4 = some d from h)).symm⟩
  | k + 1, d, h => by
    have h' : (none : Option Nat) = some d := h
    cases h'
theorem rk_1 : ∀ {k d : Nat}, pq_rk 1 k = some d → (k = 0 ∨ k = 1) ∧ d = 7
  | 0, d, h => ⟨Or.inl rfl, (Option.some.inj (show some 7 = some d from h)).symm⟩
  | 1, d, h => ⟨Or.inr rfl, (Option.some.inj (show some 7 = some d from h)).symm⟩
  | k + 2, d, h => by
    have h' : (none : Option Nat) = some d := h
    cases h'
theorem rk_4 : ∀ {k d : Nat}, pq_rk 4 k = some d → (k = 0 ∨ k = 1 ∨ k = 2 ∨ k = 3) ∧ d = 7
  | 0, d, h => ⟨by omega, (Option.some.inj (show some 7 = some d from h)).symm⟩
  | 1, d, h => ⟨by omega, (Option.some.inj (show some 7 = some d from h)).symm⟩
  | 2, d, h => ⟨by omega, (Option.some.inj (show some 7 = some d from h)).symm⟩
  | 3, d, h => ⟨by omega, (Option.some.inj (show some 7 = some d from h)).symm⟩
  | k + 4, d, h => by
    have h' : (none : Option Nat) = some d := h
    cases h'
theorem rk_9 : ∀ {k d : Nat}, pq_rk 9 k = some d → (k = 0 ∧ d = 14) ∨ (k = 1 ∧ d = 4)
  | 0, d, h => Or.inl ⟨rfl, (Option.some.inj (show some 14 = some d from h)).symm⟩
  | 1, d, h => Or.inr ⟨rfl, (Option.some.inj (show some 4 = some d from h)).symm⟩
  | k + 2, d, h => by
    have h' : (none : Option Nat) = some d := h
    cases h'
theorem rk_2 : ∀ {k d : Nat}, pq_rk 2 k = some d → (k = 0 ∧ d = 15) ∨ (k = 1 ∧ d = 9)
  | 0, d, h => Or.inl ⟨rfl, (Option.some.inj (show some 15 = some d from h)).symm⟩
  | 1, d, h => Or.inr ⟨rfl, (Option.some.inj (show some 9 = some d from h)).symm⟩
  | k + 2, d, h => by
    have h' : (none : Option Nat) = some d := h
    cases h'
theorem rk_10 : ∀ {k d : Nat}, pq_rk 10 k = some d → (k = 0 ∧ d = 9) ∨ (k = 1 ∧ d = 2) ∨ (k = 2 ∧ d = 0) ∨ (k = 3 ∧ d = 6) ∨ (k = 4 ∧ d = 5) ∨ (k = 5 ∧ d = 3) ∨ (k = 6 ∧ d = 1)
  | 0, d, h => by have := Option.some.inj (show some 9 = some d from h); omega
  | 1, d, h => by have := Option.some.inj (show some 2 = some d from h); omega
  | 2, d, h => by have := Option.some.inj (show some 0 = some d from h); omega
  | 3, d, h => by have := Option.some.inj (show some 6 = some d from h); omega
  | 4, d, h => by have := Option.some.inj (show some 5 = some d from h); omega
  | 5, d, h => by have := Option.some.inj (show some 3 = some d from h); omega
  | 6, d, h => by have := Option.some.inj (show some 1 = some d from h); omega
  | k + 7, d, h => by
    have h' : (none : Option Nat) = some d := h
    cases h'
theorem n_X7 (n : Nat) (u : Int32) (hu : u = nI n) (hn : n < 1000000) : ini (fun G S nx a => F_X7_init G S nx a u) 7 2 (fun G a => sh_R G a n) := fun G a b e => by
  obtain ⟨G1, k1, k2, k3, k4, k5, -, -⟩ := cu_row (ex := nx_) (G0 := G) (a := a) (c := 7) 0 13 n (Or.inr (Or.inl rfl)) (cu_0 e)
  refine ⟨G1, ?_, k2, oB_of k2.2.2.2.1 (by decide) (fun k d h => ?_), pq_r_of k5, k4⟩
  · show F_X7_init G zN (a + 1) a u = _
    unfold F_X7_init
    rw [hu, if_neg (nI_pos (by omega)), if_neg (nI_pos (by omega)), nI_clamp (by omega)]
    exact k1 (fun G20 S15 => some (G20, S15, a + 1 + 1))
  · obtain ⟨rfl, rfl⟩ := rk_7 h
    exact ⟨a + 1, k5, by omega, by omega, k3⟩
theorem X7_sm (n : Nat) (G' G : pq_G) (b : Nat) (h : ∀ q, b ≤ q → q < b + 2 → smG G' G q) (r : sh_R G b n) : sh_R G' b n := sh_R_sm (h b (by omega) (by omega)) (h (b + 1) (by omega) (by omega)) r
/-- an object with one row -/
def P1r (n : Nat) (G : pq_G) (a : Nat) : Prop := pq_r G a 0 = a + 1 ∧ sh_R G (a + 1) n
theorem P1r_sm (n : Nat) (G' G : pq_G) (b : Nat) (h : ∀ q, b ≤ q → q < b + 3 → smG G' G q) (r : P1r n G b) : P1r n G' b := ⟨by rw [pq_r_sm (h b (by omega) (by omega))]; exact r.1, sh_R_sm (h (b + 1) (by omega) (by omega)) (h (b + 1 + 1) (by omega) (by omega)) r.2⟩
theorem n_X0 : ini F_X0_init 0 3 (P1r 100) := fun G a b e => by
  obtain ⟨G1, k1, k2, k3, k4, k5, -, -⟩ := cu_ch (ex := nx_) 0 (n_X7 100 (100 : Int32) rfl (by decide)) (X7_sm 100) b (cu_0 e)
  refine ⟨G1, k1 (fun G S n => some (G, S, n)), k2, oB_of k2.2.2.2.1 (by decide) (fun k d h => ?_), pq_r_of k5, k3⟩
  obtain ⟨rfl, rfl⟩ := rk_0 h
  exact ⟨a + 1, k5, by omega, by omega, k4⟩
theorem n_X3 : ini F_X3_init 3 3 (P1r 20) := fun G a b e => by
  obtain ⟨G1, k1, k2, k3, k4, k5, -, -⟩ := cu_ch (ex := nx_) 0 (n_X7 20 (20 : Int32) rfl (by decide)) (X7_sm 20) b (cu_0 e)
  refine ⟨G1, k1 (fun G S n => some (G, S, n)), k2, oB_of k2.2.2.2.1 (by decide) (fun k d h => ?_), pq_r_of k5, k3⟩
  obtain ⟨rfl, rfl⟩ := rk_3 h
  exact ⟨a + 1, k5, by omega, by omega, k4⟩
theorem n_X8 : ini F_X8_init 8 3 (P1r 61) := fun G a b e => by
  obtain ⟨G1, k1, k2, k3, k4, k5, -, -⟩ := cu_ch (ex := nx_) 0 (n_X7 61 (61 : Int32) rfl (by decide)) (X7_sm 61) b (cu_0 e)
  refine ⟨G1, k1 (fun G S n => some (G, S, n)), k2, oB_of k2.2.2.2.1 (by decide) (fun k d h => ?_), pq_r_of k5, k3⟩
  obtain ⟨rfl, rfl⟩ := rk_8 h
  exact ⟨a + 1, k5, by omega, by omega, k4⟩
def P5 (G : pq_G) (a : Nat) : Prop := pq_r G a 0 = a + 1 ∧ P1r 61 G (a + 1)
theorem P5_sm (G' G : pq_G) (b : Nat) (h : ∀ q, b ≤ q → q < b + 4 → smG G' G q) (r : P5 G b) : P5 G' b := ⟨by rw [pq_r_sm (h b (by omega) (by omega))]; exact r.1, P1r_sm 61 G' G (b + 1) (fun q h1 h2 => h q (by omega) (by omega)) r.2⟩
theorem n_X5 : ini F_X5_init 5 4 P5 := fun G a b e => by
  obtain ⟨G1, k1, k2, k3, k4, k5, -, -⟩ := cu_ch (ex := nx_) 0 n_X8 (P1r_sm 61) b (cu_0 e)
  refine ⟨G1, k1 (fun G S n => some (G, S, n)), k2, oB_of k2.2.2.2.1 (by decide) (fun k d h => ?_), pq_r_of k5, k3⟩
  obtain ⟨rfl, rfl⟩ := rk_5 h
  exact ⟨a + 1, k5, by omega, by omega, k4⟩
def P1_ (G : pq_G) (a : Nat) : Prop := pq_r G a 0 = a + 1 ∧ sh_R G (a + 1) 1200 ∧ pq_r G a 1 = a + 3 ∧ sh_R G (a + 3) 1200
theorem P1__sm (G' G : pq_G) (b : Nat) (h : ∀ q, b ≤ q → q < b + 5 → smG G' G q) (r : P1_ G b) : P1_ G' b := ⟨by rw [pq_r_sm (h b (by omega) (by omega))]; exact r.1, sh_R_sm (h _ (by omega) (by omega)) (h _ (by omega) (by omega)) r.2.1, by rw [pq_r_sm (h b (by omega) (by omega))]; exact r.2.2.1, sh_R_sm (h _ (by omega) (by omega)) (h _ (by omega) (by omega)) r.2.2.2⟩
theorem n_X1 : ini F_X1_init 1 5 P1_ := fun G a b e => by
  obtain ⟨G1, k1, k2, k3, k4, k5, -, -⟩ := cu_ch (ex := nx_) 0 (n_X7 1200 (1200 : Int32) rfl (by decide)) (X7_sm 1200) b (cu_0 e)
  obtain ⟨G2, j1, j2, j3, j4, j5, j6, j7⟩ := cu_ch (ex := nx_) 1 (n_X7 1200 (1200 : Int32) rfl (by decide)) (X7_sm 1200) b k2
  have r0 : G2.2.2.1 a 0 = some (a + 1) := (j6 0 (by decide)).trans k5
  refine ⟨G2, (k1 _).trans (j1 (fun G S n => some (G, S, n))), j2, oB_of j2.2.2.2.1 (by decide) (fun k d h => ?_), pq_r_of r0, X7_sm 1200 G2 G1 (a + 1) (fun q h1 h2 => j7 q (by omega) (by omega)) k3, pq_r_of j5, j3⟩
  obtain ⟨h1, rfl⟩ := rk_1 h
  rcases h1 with rfl | rfl
  · exact ⟨a + 1, r0, by omega, by omega, by rw [(j7 (a + 1) (by omega) (by omega)).1]; exact k4⟩
  · exact ⟨a + 1 + 2, j5, by omega, by omega, j4⟩
theorem n_X4 : ini F_X4_init 4 9 shP1 := fun G a b e => by
  obtain ⟨G1, k1, k2, k3, k4, k5, -, -⟩ := cu_ch (ex := nx_) 0 (n_X7 60 (60 : Int32) rfl (by decide)) (X7_sm 60) b (cu_0 e)
  obtain ⟨G2, j1, j2, j3, j4, j5, j6, j7⟩ := cu_ch (ex := nx_) 1 (n_X7 16 (16 : Int32) rfl (by decide)) (X7_sm 16) b k2
  obtain ⟨G3, i1, i2, i3, i4, i5, i6, i7⟩ := cu_ch (ex := nx_) 2 (n_X7 16 (16 : Int32) rfl (by decide)) (X7_sm 16) b j2
  obtain ⟨G4, l1, l2, l3, l4, l5, l6, l7⟩ := cu_ch (ex := nx_) 3 (n_X7 16 (16 : Int32) rfl (by decide)) (X7_sm 16) b i2
  have r0 : G4.2.2.1 a 0 = some (a + 1) := (l6 0 (by decide)).trans ((i6 0 (by decide)).trans ((j6 0 (by decide)).trans k5))
  have r1 : G4.2.2.1 a 1 = some (a + 1 + 2) := (l6 1 (by decide)).trans ((i6 1 (by decide)).trans j5)
  have r2 : G4.2.2.1 a 2 = some (a + 1 + 2 + 2) := (l6 2 (by decide)).trans i5
  have s1 : ∀ q, a < q → q < a + 3 → smG G4 G1 q := fun q h1 h2 => sm_tr (l7 q h1 (by omega)) (sm_tr (i7 q h1 (by omega)) (j7 q h1 (by omega)))
  have s2 : ∀ q, a < q → q < a + 5 → smG G4 G2 q := fun q h1 h2 => sm_tr (l7 q h1 (by omega)) (i7 q h1 (by omega))
  have s3 : ∀ q, a < q → q < a + 7 → smG G4 G3 q := fun q h1 h2 => l7 q h1 (by omega)
  have hP : shP1 G4 a := ⟨⟨pq_r_of r0, pq_r_of r1, pq_r_of r2, pq_r_of l5⟩, X7_sm 60 G4 G1 (a + 1) (fun q h1 h2 => s1 q (by omega) (by omega)) k3, X7_sm 16 G4 G2 (a + 3) (fun q h1 h2 => s2 q (by omega) (by omega)) j3, X7_sm 16 G4 G3 (a + 5) (fun q h1 h2 => s3 q (by omega) (by omega)) i3, l3⟩
  have ec : G4.2.1 a = 4 := l2.2.2.2.1
  refine ⟨G4, (k1 _).trans ((j1 _).trans ((i1 _).trans (l1 (fun G S n => some (G, S, n))))), l2, ⟨fun k d h => ?_, fun z => absurd (ec.symm.trans z) (by decide), fun z => absurd (ec.symm.trans z) (by decide), fun _ => ⟨by omega, hP⟩⟩, hP⟩
  rw [ec] at h
  obtain ⟨h1, rfl⟩ := rk_4 h
  rcases h1 with rfl | rfl | rfl | rfl
  · exact ⟨a + 1, r0, by omega, by omega, by rw [(s1 (a + 1) (by omega) (by omega)).1]; exact k4⟩
  · exact ⟨a + 1 + 2, r1, by omega, by omega, by rw [(s2 (a + 1 + 2) (by omega) (by omega)).1]; exact j4⟩
  · exact ⟨a + 1 + 2 + 2, r2, by omega, by omega, by rw [(s3 (a + 1 + 2 + 2) (by omega) (by omega)).1]; exact i4⟩
  · exact ⟨a + 1 + 2 + 2 + 2, l5, by omega, by omega, l4⟩
def P6 (G : pq_G) (a : Nat) : Prop := pq_r G a 0 = a + 1
theorem P6_sm (G' G : pq_G) (b : Nat) (h : ∀ q, b ≤ q → q < b + 10 → smG G' G q) (r : P6 G b) : P6 G' b := by
  show pq_r G' b 0 = b + 1
  rw [pq_r_sm (h b (by omega) (by omega))]; exact r
theorem n_X6 : ini F_X6_init 6 10 P6 := fun G a b e => by
  obtain ⟨G1, k1, k2, k3, k4, k5, -, -⟩ := cu_ch (ex := nx_) 0 n_X4 (fun G' G b h r => shP1_sm h r) b (cu_0 e)
  refine ⟨G1, k1 (fun G S n => some (G, S, n)), k2, oB_of k2.2.2.2.1 (by decide) (fun k d h => ?_), pq_r_of k5⟩
  obtain ⟨rfl, rfl⟩ := rk_6 h
  exact ⟨a + 1, k5, by omega, by omega, k4⟩
