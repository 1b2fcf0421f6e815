/-! THE OBJECTS: states, what is saved, the class's object, the reference's -/
theorem in_c {c N : Nat} (h : c < N) (hN : N < 2147483648) : ¬ (nI c < 0 ∨ N ≤ c) := fun z => z.elim (fun z => nI_pos (by omega) z) (fun z => by omega)
theorem ob_1 {α β : Type} {x : Option α} {a : α} {f : α → Option β} (h : x = some a) : Option.bind x f = f a := by rw [h]; rfl
theorem l3_1 {α β γ δ : Type} {a : α} {b : β} {c : γ} {f : α → β → γ → δ} : pq_l3 (a, b, c) f = f a b c := rfl
theorem cu_ex {ex : Nat → Prop} {G0 G : pq_G} {a c nx : Nat} (C : cu ex G0 a c nx G) (h : ∀ q, a < q → q < nx → ex q → oB G nx q) : cu nx_ G0 a c nx G := by
  obtain ⟨c1, c2, c3, c4, c5, c6⟩ := C
  refine ⟨c1, c2, c3, c4, c5, fun q h1 h2 _ => ?_⟩
  by_cases z : ex q
  · exact h q h1 h2 z
  · exact c6 q h1 h2 z
theorem cu_rx {G0 G : pq_G} {a c nx k q : Nat} (C : cu (fun q => q = a + 1) G0 a c nx G) : cu (fun q => q = a + 1) G0 a c nx (pq_ref G (a + 1) k q) := by
  obtain ⟨c1, c2, c3, c4, c5, c6⟩ := C
  exact ⟨c1, c2, fun b hb => sm_tr (sm_ref (by omega)) (c3 b hb), c4, c5, fun b h1 h2 h3 => oB_sm (fun p g1 g2 => sm_ref (by
    have h3' : ¬ b = a + 1 := h3
    omega)) (Nat.le_refl _) h2 (c6 b h1 h2 h3)⟩
def P9 (G : pq_G) (a : Nat) : Prop := pq_r G a 0 = a + 1 ∧ pq_r G a 1 = a + 2 ∧ pq_n G (a + 1) = 20 ∧ ∀ j, j < 20 → pq_r G (a + 1) j = a + 11 + 9 * j
theorem P9_sm (G' G : pq_G) (b : Nat) (h : ∀ q, b ≤ q → q < b + 191 → smG G' G q) (r : P9 G b) : P9 G' b := ⟨by rw [pq_r_sm (h b (by omega) (by omega))]; exact r.1, by rw [pq_r_sm (h b (by omega) (by omega))]; exact r.2.1, by rw [pq_n_sm (h (b + 1) (by omega) (by omega))]; exact r.2.2.1, fun j hj => by rw [pq_r_sm (h (b + 1) (by omega) (by omega))]; exact r.2.2.2 j hj⟩
def P2 (G : pq_G) (a : Nat) : Prop := pq_r G a 0 = a + 1 ∧ pq_r G a 1 = a + 2 ∧ pq_n G (a + 1) = 5 ∧ (∀ i, i < 5 → pq_r G (a + 1) i = a + 193 + 191 * i ∧ G.2.1 (a + 193 + 191 * i) = 9 ∧ P9 G (a + 193 + 191 * i)) ∧ G.2.1 (a + 2) = 9 ∧ P9 G (a + 2)
theorem P2_sm (G' G : pq_G) (b : Nat) (h : ∀ q, b ≤ q → q < b + 1148 → smG G' G q) (r : P2 G b) : P2 G' b := ⟨by rw [pq_r_sm (h b (by omega) (by omega))]; exact r.1, by rw [pq_r_sm (h b (by omega) (by omega))]; exact r.2.1, by rw [pq_n_sm (h (b + 1) (by omega) (by omega))]; exact r.2.2.1, fun i hi => ⟨by rw [pq_r_sm (h (b + 1) (by omega) (by omega))]; exact (r.2.2.2.1 i hi).1, by rw [(h (b + 193 + 191 * i) (by omega) (by omega)).1]; exact (r.2.2.2.1 i hi).2.1, P9_sm G' G _ (fun q h1 h2 => h q (by omega) (by omega)) (r.2.2.2.1 i hi).2.2⟩, by rw [(h (b + 2) (by omega) (by omega)).1]; exact r.2.2.2.2.1, P9_sm G' G _ (fun q h1 h2 => h q (by omega) (by omega)) r.2.2.2.2.2⟩
theorem l_X9 {G0 : pq_G} {a : Nat} (b : bs G0 a) : ∀ (r i f : Nat) (G : pq_G), i + r = 20 → r < f → cu (fun q => q = a + 1) G0 a 9 (a + 11 + 9 * i) G → G.2.1 (a + 1) = 14 → G.2.2.2 (a + 1) = 20 → G.2.2.1 a 0 = some (a + 1) → (∀ j, j < i → G.2.2.1 (a + 1) j = some (a + 11 + 9 * j) ∧ G.2.1 (a + 11 + 9 * j) = 4) → ∃ G', F_X9_init_b26 f G zN (a + 11 + 9 * i) a (nI i) = some (G', zN, a + 191) ∧ cu (fun q => q = a + 1) G0 a 9 (a + 191) G' ∧ (∀ q, a ≤ q → q < a + 11 + 9 * i → q ≠ a + 1 → smG G' G q) ∧ G'.2.1 (a + 1) = 14 ∧ G'.2.2.2 (a + 1) = 20 ∧ ∀ j, j < 20 → G'.2.2.1 (a + 1) j = some (a + 11 + 9 * j) ∧ G'.2.1 (a + 11 + 9 * j) = 4 := by
  intro r
  induction r with
  | zero =>
    intro i f G hir hf C e1 e2 e3 e4
    obtain ⟨f, rfl⟩ : ∃ m, f = m + 1 := ⟨f - 1, by omega⟩
    have ei : i = 20 := by omega
    have hm : a + 1 ∈ G.1 := (C.2.1 (a + 1)).mpr (Or.inr (by omega))
    have en : pq_n G (a + 1) = 20 := e2
    have et : a + 11 + 9 * i = a + 191 := by omega
    rw [et] at C
    refine ⟨G, ?_, C, fun q _ _ _ => sm_rfl, e1, e2, fun j hj => e4 j (by omega)⟩
    rw [F_X9_init_b26.eq_2, ob_1 e3, if_neg (fun z => z ⟨hm, e1⟩), en, if_pos (nI_le (by omega) (by omega)), et]
  | succ r ih =>
    intro i f G hir hf C e1 e2 e3 e4
    obtain ⟨f, rfl⟩ : ∃ m, f = m + 1 := ⟨f - 1, by omega⟩
    have hm : a + 1 ∈ G.1 := (C.2.1 (a + 1)).mpr (Or.inr (by omega))
    have en : pq_n G (a + 1) = 20 := e2
    obtain ⟨G1, k1, k2, k3, k4, k5, k6, k7, k8, k9⟩ := cu_new n_X4 b C
    have hm1 : a + 1 ∈ G1.1 := (k2.2.1 (a + 1)).mpr (Or.inr (by omega))
    have ek1 : G1.2.1 (a + 1) = 14 := by rw [(k5 (a + 1) (by omega)).1]; exact e1
    have en1 : pq_n G1 (a + 1) = 20 := by rw [pq_n_sm (k5 (a + 1) (by omega))]; exact e2
    have et : a + 11 + 9 * i + 9 = a + 11 + 9 * (i + 1) := by omega
    have C2 := cu_rx (k := i) (q := a + 11 + 9 * i) k2
    rw [et] at C2
    have sG : ∀ q, q ≠ a + 1 → q < a + 11 + 9 * i → smG (pq_ref G1 (a + 1) i (a + 11 + 9 * i)) G q := fun q h1 h2 => sm_tr (sm_ref h1) (k5 q h2)
    obtain ⟨G', p1, p2, p3, p4, p5, p6⟩ := ih (i + 1) f (pq_ref G1 (a + 1) i (a + 11 + 9 * i)) (by omega) (by omega) C2 ek1 (by
      show G1.2.2.2 (a + 1) = 20
      exact en1) (by rw [(sG a (by omega) (by omega)).2.1]; exact e3) (fun j hj => by
      by_cases cj : j = i
      · subst cj
        exact ⟨ref_s, k4⟩
      · have hj' : j < i := by omega
        refine ⟨?_, ?_⟩
        · rw [ref_n cj, (k5 (a + 1) (by omega)).2.1]; exact (e4 j hj').1
        · rw [(sG _ (by omega) (by omega)).1]; exact (e4 j hj').2)
    refine ⟨G', ?_, p2, fun q h1 h2 h3 => sm_tr (p3 q h1 (by omega) h3) (sG q h3 h2), p4, p5, p6⟩
    rw [F_X9_init_b26.eq_2, ob_1 e3, if_neg (fun z => z ⟨hm, e1⟩), en, if_neg (nI_ge (by omega) (by omega)), ob_1 e3, if_neg (fun z => z ⟨hm, e1⟩), pq_lt1, pq_lt1, zN_z, ob_1 k1, l3_1, if_neg (fun z => z k6), if_neg (by omega), if_neg (fun z => z ⟨k9, k2.2.2.2.1⟩), if_neg (fun z => z ⟨k8, k4⟩), if_neg (fun z => z ⟨hm1, ek1⟩), en1, nI_clamp (by omega), if_neg (in_c (show i < 20 by omega) (by omega)), pq_lt1, nI_1, et]
    exact p1
theorem n_X9 : ini F_X9_init 9 191 P9 := fun G a b e => by
  obtain ⟨G1, k1, k2, k3, k4, k5, k6, -⟩ := cu_row (ex := fun q => q = a + 1) (G0 := G) (a := a) (c := 9) 0 14 20 (Or.inr (Or.inr rfl)) (cu_0 e)
  obtain ⟨G2, j1, j2, j3, j4, j5, j6, j7⟩ := cu_ch 1 n_X4 (fun G' G b h r => shP1_sm h r) b k2
  have r0 : G2.2.2.1 a 0 = some (a + 1) := (j6 0 (by decide)).trans k5
  obtain ⟨G3, p1, p2, p3, p4, p5, p6⟩ := l_X9 b 20 0 21 G2 (by omega) (by omega) j2 (by rw [(j7 (a + 1) (by omega) (by omega)).1]; exact k3) (by rw [(j7 (a + 1) (by omega) (by omega)).2.2]; exact k4) r0 (fun j hj => absurd hj (Nat.not_lt_zero _))
  have q0 : G3.2.2.1 a 0 = some (a + 1) := by rw [(p3 a (by omega) (by omega) (by omega)).2.1]; exact r0
  have q1 : G3.2.2.1 a 1 = some (a + 1 + 1) := by rw [(p3 a (by omega) (by omega) (by omega)).2.1]; exact j5
  refine ⟨G3, (k1 _).trans ((j1 (fun G S n => F_X9_init_b26 21 G S n a 0)).trans p1), cu_ex p2 (fun q h1 h2 h3 => ?_), oB_of p2.2.2.2.1 (by decide) (fun k d h => ?_), pq_r_of q0, pq_r_of q1, p5, fun j hj => pq_r_of (p6 j hj).1⟩
  · have h3' : q = a + 1 := h3
    subst h3'
    refine ⟨fun k d h => ?_, fun _ i hi => ?_, fun z => absurd (p4.symm.trans z) (by decide), fun z => absurd (p4.symm.trans z) (by decide)⟩
    · rw [p4] at h
      exact (rk_14 h).elim
    · rw [p5] at hi
      exact ⟨_, (p6 i hi).1, by omega, by omega, (p6 i hi).2⟩
  · rcases rk_9 h with ⟨rfl, rfl⟩ | ⟨rfl, rfl⟩
    · exact ⟨a + 1, q0, by omega, by omega, p4⟩
    · exact ⟨a + 1 + 1, q1, by omega, by omega, by rw [(p3 (a + 1 + 1) (by omega) (by omega) (by omega)).1]; exact j4⟩
theorem l_X2 {G0 : pq_G} {a : Nat} (b : bs G0 a) : ∀ (r i f : Nat) (G : pq_G), i + r = 5 → r < f → cu (fun q => q = a + 1) G0 a 2 (a + 193 + 191 * i) G → G.2.1 (a + 1) = 15 → G.2.2.2 (a + 1) = 5 → G.2.2.1 a 0 = some (a + 1) → (∀ j, j < i → G.2.2.1 (a + 1) j = some (a + 193 + 191 * j) ∧ G.2.1 (a + 193 + 191 * j) = 9 ∧ P9 G (a + 193 + 191 * j)) → ∃ G', F_X2_init_b25 f G zN (a + 193 + 191 * i) a (nI i) = some (G', zN, a + 1148) ∧ cu (fun q => q = a + 1) G0 a 2 (a + 1148) G' ∧ (∀ q, a ≤ q → q < a + 193 + 191 * i → q ≠ a + 1 → smG G' G q) ∧ G'.2.1 (a + 1) = 15 ∧ G'.2.2.2 (a + 1) = 5 ∧ ∀ j, j < 5 → G'.2.2.1 (a + 1) j = some (a + 193 + 191 * j) ∧ G'.2.1 (a + 193 + 191 * j) = 9 ∧ P9 G' (a + 193 + 191 * j) := by
  intro r
  induction r with
  | zero =>
    intro i f G hir hf C e1 e2 e3 e4
    obtain ⟨f, rfl⟩ : ∃ m, f = m + 1 := ⟨f - 1, by omega⟩
    have ei : i = 5 := by omega
    have hm : a + 1 ∈ G.1 := (C.2.1 (a + 1)).mpr (Or.inr (by omega))
    have en : pq_n G (a + 1) = 5 := e2
    have et : a + 193 + 191 * i = a + 1148 := by omega
    rw [et] at C
    refine ⟨G, ?_, C, fun q _ _ _ => sm_rfl, e1, e2, fun j hj => e4 j (by omega)⟩
    rw [F_X2_init_b25.eq_2, ob_1 e3, if_neg (fun z => z ⟨hm, e1⟩), en, if_pos (nI_le (by omega) (by omega)), et]
  | succ r ih =>
    intro i f G hir hf C e1 e2 e3 e4
    obtain ⟨f, rfl⟩ : ∃ m, f = m + 1 := ⟨f - 1, by omega⟩
    have hm : a + 1 ∈ G.1 := (C.2.1 (a + 1)).mpr (Or.inr (by omega))
    have en : pq_n G (a + 1) = 5 := e2
    obtain ⟨G1, k1, k2, k3, k4, k5, k6, k7, k8, k9⟩ := cu_new n_X9 b C
    have hm1 : a + 1 ∈ G1.1 := (k2.2.1 (a + 1)).mpr (Or.inr (by omega))
    have ek1 : G1.2.1 (a + 1) = 15 := by rw [(k5 (a + 1) (by omega)).1]; exact e1
    have en1 : pq_n G1 (a + 1) = 5 := by rw [pq_n_sm (k5 (a + 1) (by omega))]; exact e2
    have et : a + 193 + 191 * i + 191 = a + 193 + 191 * (i + 1) := by omega
    have C2 := cu_rx (k := i) (q := a + 193 + 191 * i) k2
    rw [et] at C2
    have sG : ∀ q, q ≠ a + 1 → q < a + 193 + 191 * i → smG (pq_ref G1 (a + 1) i (a + 193 + 191 * i)) G q := fun q h1 h2 => sm_tr (sm_ref h1) (k5 q h2)
    obtain ⟨G', p1, p2, p3, p4, p5, p6⟩ := ih (i + 1) f (pq_ref G1 (a + 1) i (a + 193 + 191 * i)) (by omega) (by omega) C2 ek1 (by
      show G1.2.2.2 (a + 1) = 5
      exact en1) (by rw [(sG a (by omega) (by omega)).2.1]; exact e3) (fun j hj => by
      by_cases cj : j = i
      · subst cj
        exact ⟨ref_s, k4, P9_sm _ G1 _ (fun q h1 h2 => sm_ref (by omega)) k3⟩
      · have hj' : j < i := by omega
        refine ⟨?_, ?_, ?_⟩
        · rw [ref_n cj, (k5 (a + 1) (by omega)).2.1]; exact (e4 j hj').1
        · rw [(sG _ (by omega) (by omega)).1]; exact (e4 j hj').2.1
        · exact P9_sm _ G _ (fun q h1 h2 => sG q (by omega) (by omega)) (e4 j hj').2.2)
    refine ⟨G', ?_, p2, fun q h1 h2 h3 => sm_tr (p3 q h1 (by omega) h3) (sG q h3 h2), p4, p5, p6⟩
    rw [F_X2_init_b25.eq_2, ob_1 e3, if_neg (fun z => z ⟨hm, e1⟩), en, if_neg (nI_ge (by omega) (by omega)), ob_1 e3, if_neg (fun z => z ⟨hm, e1⟩), pq_lt1, pq_lt1, zN_z, ob_1 k1, l3_1, if_neg (fun z => z k6), if_neg (by omega), if_neg (fun z => z ⟨k9, k2.2.2.2.1⟩), if_neg (fun z => z ⟨k8, k4⟩), if_neg (fun z => z ⟨hm1, ek1⟩), en1, nI_clamp (by omega), if_neg (in_c (show i < 5 by omega) (by omega)), pq_lt1, nI_1, et]
    exact p1
theorem n_X2 : ini F_X2_init 2 1148 P2 := fun G a b e => by
  obtain ⟨G1, k1, k2, k3, k4, k5, k6, -⟩ := cu_row (ex := fun q => q = a + 1) (G0 := G) (a := a) (c := 2) 0 15 5 (Or.inr (Or.inr rfl)) (cu_0 e)
  obtain ⟨G2, j1, j2, j3, j4, j5, j6, j7⟩ := cu_ch 1 n_X9 P9_sm b k2
  have r0 : G2.2.2.1 a 0 = some (a + 1) := (j6 0 (by decide)).trans k5
  obtain ⟨G3, p1, p2, p3, p4, p5, p6⟩ := l_X2 b 5 0 6 G2 (by omega) (by omega) j2 (by rw [(j7 (a + 1) (by omega) (by omega)).1]; exact k3) (by rw [(j7 (a + 1) (by omega) (by omega)).2.2]; exact k4) r0 (fun j hj => absurd hj (Nat.not_lt_zero _))
  have q0 : G3.2.2.1 a 0 = some (a + 1) := by rw [(p3 a (by omega) (by omega) (by omega)).2.1]; exact r0
  have q1 : G3.2.2.1 a 1 = some (a + 1 + 1) := by rw [(p3 a (by omega) (by omega) (by omega)).2.1]; exact j5
  have qk : G3.2.1 (a + 1 + 1) = 9 := by rw [(p3 (a + 1 + 1) (by omega) (by omega) (by omega)).1]; exact j4
  refine ⟨G3, (k1 _).trans ((j1 (fun G S n => F_X2_init_b25 6 G S n a 0)).trans p1), cu_ex p2 (fun q h1 h2 h3 => ?_), oB_of p2.2.2.2.1 (by decide) (fun k d h => ?_), pq_r_of q0, pq_r_of q1, p5, fun i hi => ⟨pq_r_of (p6 i hi).1, (p6 i hi).2.1, (p6 i hi).2.2⟩, qk, P9_sm G3 G2 (a + 1 + 1) (fun q h1 h2 => p3 q (by omega) (by omega) (by omega)) j3⟩
  · have h3' : q = a + 1 := h3
    subst h3'
    refine ⟨fun k d h => ?_, fun z => absurd (p4.symm.trans z) (by decide), fun _ i hi => ?_, fun z => absurd (p4.symm.trans z) (by decide)⟩
    · rw [p4] at h
      exact (rk_15 h).elim
    · rw [p5] at hi
      exact ⟨_, (p6 i hi).1, by omega, by omega, (p6 i hi).2.1⟩
  · rcases rk_2 h with ⟨rfl, rfl⟩ | ⟨rfl, rfl⟩
    · exact ⟨a + 1, q0, by omega, by omega, p4⟩
    · exact ⟨a + 1 + 1, q1, by omega, by omega, qk⟩
def P10 (G : pq_G) (a : Nat) : Prop := (pq_r G a 0 = a + 1 ∧ G.2.1 (a + 1) = 9 ∧ P9 G (a + 1)) ∧ (pq_r G a 1 = a + 192 ∧ G.2.1 (a + 192) = 2 ∧ P2 G (a + 192)) ∧ (pq_r G a 2 = a + 1340 ∧ G.2.1 (a + 1340) = 0 ∧ P1r 100 G (a + 1340)) ∧ (pq_r G a 3 = a + 1343 ∧ G.2.1 (a + 1343) = 6 ∧ P6 G (a + 1343)) ∧ (pq_r G a 4 = a + 1353 ∧ G.2.1 (a + 1353) = 5 ∧ P5 G (a + 1353)) ∧ (pq_r G a 5 = a + 1357 ∧ G.2.1 (a + 1357) = 3 ∧ P1r 20 G (a + 1357)) ∧ (pq_r G a 6 = a + 1360 ∧ G.2.1 (a + 1360) = 1 ∧ P1_ G (a + 1360))
set_option maxHeartbeats 1000000 in
theorem n_X10 : ini F_X10_init 10 1365 P10 := fun G a b e => by
  obtain ⟨G1, e0, c0, p0, d0, r0, o0, s0⟩ := cu_ch (ex := nx_) 0 n_X9 P9_sm b (cu_0 e)
  obtain ⟨G2, e1, c1, p1, d1, r1, o1, s1⟩ := cu_ch (ex := nx_) 1 n_X2 P2_sm b c0
  obtain ⟨G3, e2, c2, p2, d2, r2, o2, s2⟩ := cu_ch (ex := nx_) 2 n_X0 (P1r_sm 100) b c1
  obtain ⟨G4, e3, c3, p3, d3, r3, o3, s3⟩ := cu_ch (ex := nx_) 3 n_X6 P6_sm b c2
  obtain ⟨G5, e4, c4, p4, d4, r4, o4, s4⟩ := cu_ch (ex := nx_) 4 n_X5 P5_sm b c3
  obtain ⟨G6, e5, c5, p5, d5, r5, o5, s5⟩ := cu_ch (ex := nx_) 5 n_X3 (P1r_sm 20) b c4
  obtain ⟨G7, e6, c6, p6, d6, r6, o6, s6⟩ := cu_ch (ex := nx_) 6 n_X1 P1__sm b c5
  have R0 : G7.2.2.1 a 0 = some (a + 1) := (o6 0 (by decide)).trans ((o5 0 (by decide)).trans ((o4 0 (by decide)).trans ((o3 0 (by decide)).trans ((o2 0 (by decide)).trans ((o1 0 (by decide)).trans (r0))))))
  have R1 : G7.2.2.1 a 1 = some (a + 192) := (o6 1 (by decide)).trans ((o5 1 (by decide)).trans ((o4 1 (by decide)).trans ((o3 1 (by decide)).trans ((o2 1 (by decide)).trans (r1)))))
  have R2 : G7.2.2.1 a 2 = some (a + 1340) := (o6 2 (by decide)).trans ((o5 2 (by decide)).trans ((o4 2 (by decide)).trans ((o3 2 (by decide)).trans (r2))))
  have R3 : G7.2.2.1 a 3 = some (a + 1343) := (o6 3 (by decide)).trans ((o5 3 (by decide)).trans ((o4 3 (by decide)).trans (r3)))
  have R4 : G7.2.2.1 a 4 = some (a + 1353) := (o6 4 (by decide)).trans ((o5 4 (by decide)).trans (r4))
  have R5 : G7.2.2.1 a 5 = some (a + 1357) := (o6 5 (by decide)).trans (r5)
  have R6 : G7.2.2.1 a 6 = some (a + 1360) := r6
  have T0 : ∀ q, a < q → q < a + 192 → smG G7 G1 q := fun q h1 h2 => (sm_tr (s6 q h1 (by omega)) (sm_tr (s5 q h1 (by omega)) (sm_tr (s4 q h1 (by omega)) (sm_tr (s3 q h1 (by omega)) (sm_tr (s2 q h1 (by omega)) (s1 q h1 (by omega)))))))
  have T1 : ∀ q, a < q → q < a + 1340 → smG G7 G2 q := fun q h1 h2 => (sm_tr (s6 q h1 (by omega)) (sm_tr (s5 q h1 (by omega)) (sm_tr (s4 q h1 (by omega)) (sm_tr (s3 q h1 (by omega)) (s2 q h1 (by omega))))))
  have T2 : ∀ q, a < q → q < a + 1343 → smG G7 G3 q := fun q h1 h2 => (sm_tr (s6 q h1 (by omega)) (sm_tr (s5 q h1 (by omega)) (sm_tr (s4 q h1 (by omega)) (s3 q h1 (by omega)))))
  have T3 : ∀ q, a < q → q < a + 1353 → smG G7 G4 q := fun q h1 h2 => (sm_tr (s6 q h1 (by omega)) (sm_tr (s5 q h1 (by omega)) (s4 q h1 (by omega))))
  have T4 : ∀ q, a < q → q < a + 1357 → smG G7 G5 q := fun q h1 h2 => (sm_tr (s6 q h1 (by omega)) (s5 q h1 (by omega)))
  have T5 : ∀ q, a < q → q < a + 1360 → smG G7 G6 q := fun q h1 h2 => (s6 q h1 (by omega))
  have T6 : ∀ q, a < q → q < a + 1365 → smG G7 G7 q := fun q h1 h2 => sm_rfl
  have D0 : G7.2.1 (a + 1) = 9 := by rw [(T0 (a + 1) (by omega) (by omega)).1]; exact d0
  have D1 : G7.2.1 (a + 192) = 2 := by rw [(T1 (a + 192) (by omega) (by omega)).1]; exact d1
  have D2 : G7.2.1 (a + 1340) = 0 := by rw [(T2 (a + 1340) (by omega) (by omega)).1]; exact d2
  have D3 : G7.2.1 (a + 1343) = 6 := by rw [(T3 (a + 1343) (by omega) (by omega)).1]; exact d3
  have D4 : G7.2.1 (a + 1353) = 5 := by rw [(T4 (a + 1353) (by omega) (by omega)).1]; exact d4
  have D5 : G7.2.1 (a + 1357) = 3 := by rw [(T5 (a + 1357) (by omega) (by omega)).1]; exact d5
  have D6 : G7.2.1 (a + 1360) = 1 := by rw [(T6 (a + 1360) (by omega) (by omega)).1]; exact d6
  refine ⟨G7, (e0 _).trans ((e1 _).trans ((e2 _).trans ((e3 _).trans ((e4 _).trans ((e5 _).trans (e6 (fun G S n => some (G, S, n)))))))), c6, oB_of c6.2.2.2.1 (by decide) (fun k d h => ?_), ⟨pq_r_of R0, D0, P9_sm G7 G1 (a + 1) (fun q h1 h2 => T0 q (by omega) (by omega)) p0⟩, ⟨pq_r_of R1, D1, P2_sm G7 G2 (a + 192) (fun q h1 h2 => T1 q (by omega) (by omega)) p1⟩, ⟨pq_r_of R2, D2, (P1r_sm 100) G7 G3 (a + 1340) (fun q h1 h2 => T2 q (by omega) (by omega)) p2⟩, ⟨pq_r_of R3, D3, P6_sm G7 G4 (a + 1343) (fun q h1 h2 => T3 q (by omega) (by omega)) p3⟩, ⟨pq_r_of R4, D4, P5_sm G7 G5 (a + 1353) (fun q h1 h2 => T4 q (by omega) (by omega)) p4⟩, ⟨pq_r_of R5, D5, (P1r_sm 20) G7 G6 (a + 1357) (fun q h1 h2 => T5 q (by omega) (by omega)) p5⟩, ⟨pq_r_of R6, D6, P1__sm G7 G7 (a + 1360) (fun q h1 h2 => T6 q (by omega) (by omega)) p6⟩⟩
  rcases rk_10 h with ⟨rfl, rfl⟩ | ⟨rfl, rfl⟩ | ⟨rfl, rfl⟩ | ⟨rfl, rfl⟩ | ⟨rfl, rfl⟩ | ⟨rfl, rfl⟩ | ⟨rfl, rfl⟩
  · exact ⟨a + 1, R0, by omega, by omega, D0⟩
  · exact ⟨a + 192, R1, by omega, by omega, D1⟩
  · exact ⟨a + 1340, R2, by omega, by omega, D2⟩
  · exact ⟨a + 1343, R3, by omega, by omega, D3⟩
  · exact ⟨a + 1353, R4, by omega, by omega, D4⟩
  · exact ⟨a + 1357, R5, by omega, by omega, D5⟩
  · exact ⟨a + 1360, R6, by omega, by omega, D6⟩
theorem kd_push {G : pq_G} {q kd n : Nat} : (pq_push G q kd n).2.1 q = kd := va_up_self _ _ _
theorem ln_push {G : pq_G} {q kd n : Nat} : (pq_push G q kd n).2.2.2 q = n := va_up_self _ _ _
def G_0 : pq_G := ([], fun _ => 0, fun _ _ => none, fun _ => 0)
/-- all is made: the class's object at x -/
theorem all_made (x : Nat) : ∃ G, F_X10_init (pq_push G_0 x 10 0) zN (x + 1) x = some (G, zN, x + 1365) ∧ (∀ q, q ∈ G.1 ↔ (x ≤ q ∧ q < x + 1365)) ∧ sh_G G x := by
  have m0 : ∀ q, q ∈ (pq_push G_0 x 10 0).1 ↔ q = x := fun q => by
    rw [mem_push]
    exact ⟨fun z => z.elim (fun z => absurd z List.not_mem_nil) id, Or.inr⟩
  obtain ⟨G, k1, ⟨k2, k3, k4, k5, k6, k7⟩, k8, k9⟩ := n_X10 (pq_push G_0 x 10 0) x ⟨fun q hq => by have := (m0 q).mp hq; omega, (m0 x).mpr rfl⟩ kd_push
  have m3 : ∀ q, q ∈ G.1 ↔ (x ≤ q ∧ q < x + 1365) := fun q => by
    rw [k3 q, m0 q]; omega
  have o3 : ∀ q, x ≤ q → q < x + 1365 → oB G (x + 1365) q := fun q h1 h2 => by
    rcases Nat.eq_or_lt_of_le h1 with z | z
    · rw [← z]; exact k8
    · exact k7 q z h2 (fun z => z)
  have W : pq_WT G := by
    refine ⟨fun a k d ha h => ?_, fun a i ha hi => ?_, fun a i ha hi => ?_⟩
    · have hm := (m3 a).mp ha
      obtain ⟨q, q1, q2, q3, q4⟩ := (o3 a hm.1 hm.2).1 k d h
      exact ⟨q, q1, (m3 q).mpr (by omega), q4⟩
    · have hm := (m3 a).mp ha.1
      obtain ⟨q, q1, q2, q3, q4⟩ := (o3 a hm.1 hm.2).2.1 ha.2 i hi
      exact ⟨q, q1, (m3 q).mpr (by omega), q4⟩
    · have hm := (m3 a).mp ha.1
      obtain ⟨q, q1, q2, q3, q4⟩ := (o3 a hm.1 hm.2).2.2.1 ha.2 i hi
      exact ⟨q, q1, (m3 q).mpr (by omega), q4⟩
  have hP : sh_P G := fun p hp => by
    have hm := (m3 p).mp hp.1
    exact ((o3 p hm.1 hm.2).2.2.2 hp.2).2
  obtain ⟨⟨A0, B0, D0⟩, ⟨A1, B1, D1⟩, ⟨A2, B2, D2⟩, ⟨A3, B3, D3⟩, ⟨A4, B4, D4⟩, ⟨A5, B5, D5⟩, A6, B6, D6⟩ := k9
  have okx : pq_ok G 10 x := ⟨(m3 x).mpr (by omega), k5⟩
  have hS : sh_S G x := fun i hi => by
    have fin : ∀ s, sh_s x i = s → x ≤ s → s + 191 ≤ x + 1340 → G.2.1 s = 9 → P9 G s → pq_ok G 9 (sh_s x i) ∧ pq_r G (sh_s x i) 0 = sh_s x i + 1 ∧ pq_r G (sh_s x i) 1 = sh_s x i + 2 ∧ pq_n G (sh_s x i + 1) = 20 ∧ ∀ j, j < 20 → pq_r G (sh_s x i + 1) j = sh_p x i j := fun s es h1 h2 h3 h4 => by
      unfold sh_p
      rw [es]
      exact ⟨⟨(m3 s).mpr (by omega), h3⟩, h4.1, h4.2.1, h4.2.2.1, h4.2.2.2⟩
    by_cases c0 : i = 0
    · subst c0
      exact fin (x + 1) rfl (by omega) (by omega) B0 D0
    · by_cases c1 : i = 1
      · subst c1
        exact fin (x + 192 + 2) rfl (by omega) (by omega) D1.2.2.2.2.1 D1.2.2.2.2.2
      · have k := D1.2.2.2.1 (i - 2) (by omega)
        exact fin (x + 192 + 193 + 191 * (i - 2)) (by unfold sh_s; rw [if_neg c0]; omega) (by omega) (by omega) k.2.1 k.2.2
  have hA : sh_A G x := ⟨okx, A0, A1, A2, A3, A4, A5, A6⟩
  have hH : sh_H G x := ⟨D1.1, D1.2.1, D1.2.2.1, fun i hi => ((D1.2.2.2.1 i hi).1).trans (by omega)⟩
  have hO : sh_O G x := ⟨D2, D3, ⟨D4.1, D4.2⟩, D5, D6.1, D6.2.1, D6.2.2.1, D6.2.2.2⟩
  exact ⟨G, k1, m3, W, hA, hH, hS, hP, hO, okx⟩
/-- the first world -/
def W_0 : tW := (mT 0 0 (fun _ => mP 0 0 0 0 (fun _ => 0) (fun _ => 0) (fun _ => 0) (fun _ => 0)), 0, (fun _ => mT 0 0 (fun _ => mP 0 0 0 0 (fun _ => 0) (fun _ => 0) (fun _ => 0) (fun _ => 0))), false, mT 0 0 (fun _ => mP 0 0 0 0 (fun _ => 0) (fun _ => 0) (fun _ => 0) (fun _ => 0)), 0, fun _ => 0)
theorem rC_z (x : Nat) : rC zN x W_0 := ⟨⟨rfl, rfl, fun j hj => absurd hj (Nat.not_lt_zero _)⟩, ⟨by decide, 0, by decide, rfl, rfl, fun k hk => absurd hk (Nat.not_lt_zero _)⟩, rfl, fun z => (Bool.false_ne_true z).elim, rfl, fun j hj => absurd hj (Nat.not_lt_zero _)⟩
theorem vW_0 : vW W_0 := ⟨⟨by decide, fun j hj => absurd hj (Nat.not_lt_zero _)⟩, by decide, fun k hk => absurd hk (Nat.not_lt_zero _), fun z => (Bool.false_ne_true z).elim, by decide, fun j hj => absurd hj (Nat.not_lt_zero _)⟩
theorem wT_0 : wT 0 W_0.1 := ⟨0, fun _ => 0, Nat.le_refl _, rfl, fun j hj => absurd hj (Nat.not_lt_zero _)⟩
theorem gn_0 : gn W_0.1 = 0 := by decide
