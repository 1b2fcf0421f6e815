/-! THE READER of the class -/
section CY
variable {G : pq_G} {x : Nat}
theorem rR_w1 {S : pq_N} {s : tA} {v : Int32} (r : rR S x s) : rR (pq_wi S (x + 1343) 1 v) x s := by
  obtain ⟨pl, lt, bg, P⟩ := s
  obtain ⟨r2, r3, r4, rp⟩ := r
  exact ⟨by rw [wi_k (by decide)]; exact r2, fun z => by rw [wi_k (by decide)]; exact r3 z, fun z => by rw [wi_k (by decide)]; exact r4 z, rP_fr (fr_wi (lo := x + 1343) (hi := x + 1344) (by omega) (by omega)) (by omega) rp⟩
/-- what a step of the reader does -/
def cP (G : pq_G) (S : pq_N) (x : Nat) (s : tA) (c : Nat) : Prop := (∀ s', stp s c = some s' → ∃ S1, F_X6_placeAfter G S (x + 1343) (nI c) = some (nI s'.1, S1) ∧ fr (x + 1343) (x + 1353) S S1 ∧ S1.1 (x + 1343) 1 = S.1 (x + 1343) 1 ∧ rR (pq_wi S1 (x + 1343) 2 (nI s'.1)) x s') ∧ (stp s c = none → F_X6_placeAfter G S (x + 1343) (nI c) = some (nI 0, S))
theorem c_place (h : sh_G G x) {S : pq_N} {k c : Nat} {s : tA} (hk : k < 100) (hc : c < 1000) (i : iA k s) (r : rR S x s) : cP G S x s c := by
  have kk := sh_rd h
  obtain ⟨pl, lt, bg, P⟩ := s
  obtain ⟨vq0, i⟩ := i
  obtain ⟨r2, r3, r4, rp⟩ := r
  have pl0 : F_X6_placeAfter G S (x + 1343) (nI c) = F_X6_placeAfter G S (x + 1343) (nI c) := rfl
  conv at pl0 => rhs; unfold F_X6_placeAfter
  rcases i with ⟨rfl, h1, h2⟩ | ⟨rfl, h1, h2, h3, h4, h5⟩ | ⟨rfl, h1, h2, h3, h4⟩ | ⟨rfl, h1, h2, h3, h4, h5, h6⟩ | ⟨rfl, h1, h2, h3, h4⟩ | ⟨rfl, h1, h2, h3, h4⟩ | ⟨rfl, h1, h2, h3⟩ | ⟨rfl, h1, h2, h3⟩
  · rw [r2, if_pos (by decide), show (34 : Int32) = nI 34 from rfl, if_eqI (by omega) (by omega)] at pl0
    have ef := c_fiL h (S := S) (c := c) (nx := 2) (bg := bg) (P := P) hc (by omega) rp
    by_cases c1 : c = 34
    · rw [if_pos c1] at pl0
      refine ⟨fun s' e => ?_, fun e => ?_⟩
      · have e' : (if c = 34 then some (3, lt, P.wc, P) else fiL c 2 bg P) = some s' := e
        rw [if_pos c1] at e'
        cases e'
        have e1 : F_X6_afterOpening G S (x + 1343) = some (nI 3, pq_wi S (x + 1343) 4 (nI P.wc)) := by
          unfold F_X6_afterOpening
          rw [pq_lt1, kk.1, rp.2.2.1]; rfl
        rw [pl0, pq_bd1 e1]
        refine ⟨_, rfl, fr_wi (by omega) (by omega), by rw [wi_k (by decide)], rR_of (pl := 1) (rP_fr (fr_wi (lo := x + 1343) (hi := x + 1344) (by omega) (by omega)) (by omega) rp) (fun z => by omega) (fun _ => wi_s)⟩
      · have e' : (if c = 34 then some (3, lt, P.wc, P) else fiL c 2 bg P) = none := e
        rw [if_pos c1] at e'; cases e'
    · rw [if_neg c1] at pl0
      refine ⟨fun s' e => ?_, fun e => ?_⟩
      · have e' : (if c = 34 then some (3, lt, P.wc, P) else fiL c 2 bg P) = some s' := e
        rw [if_neg c1] at e'
        obtain ⟨S1, q1, q2, q3, q4, q5, q6⟩ := ef.1 s' e'
        have e2 := (fiL_i e').2
        subst e2
        have q1' : F_X6_afterFirstLetter G S (x + 1343) (nI c) (2 : Int32) = some (nI 2, S1) := q1
        rw [pl0, pq_bd1 q1']
        exact ⟨_, rfl, q2, q5, rR_of (pl := 1) q6 (fun _ => q3) (fun z => by omega)⟩
      · have e' : (if c = 34 then some (3, lt, P.wc, P) else fiL c 2 bg P) = none := e
        rw [if_neg c1] at e'
        have q1' : F_X6_afterFirstLetter G S (x + 1343) (nI c) (2 : Int32) = some (nI 0, S) := ef.2 e'
        rw [pl0, pq_bd1 q1']
  · rw [r2, if_neg (by decide), if_pos (by decide), show (32 : Int32) = nI 32 from rfl, if_eqI (by omega) (by omega)] at pl0
    have ef := c_moL h (S := S) (c := c) (pl := 2) (lt := lt) (bg := bg) (P := P) hc h1 (by omega) (by omega) r2 (r3 (Or.inl rfl)) rp
    by_cases c1 : c = 32
    · rw [if_pos c1] at pl0
      refine ⟨fun s' e => ?_, fun e => ?_⟩
      · have e' : (if c = 32 then some (1, lt, bg, P) else moL c 2 lt bg P) = some s' := e
        rw [if_pos c1] at e'
        cases e'
        rw [pl0]
        exact ⟨_, rfl, fr_rfl, rfl, rR_of (pl := 2) rp (fun z => by omega) (fun z => by omega)⟩
      · have e' : (if c = 32 then some (1, lt, bg, P) else moL c 2 lt bg P) = none := e
        rw [if_pos c1] at e'; cases e'
    · rw [if_neg c1] at pl0
      refine ⟨fun s' e => ?_, fun e => ?_⟩
      · have e' : (if c = 32 then some (1, lt, bg, P) else moL c 2 lt bg P) = some s' := e
        rw [if_neg c1] at e'
        obtain ⟨S1, q1, q2, q3, q4, q5, q6⟩ := ef.1 s' e'
        have e2 := (moL_i e').2
        subst e2
        rw [pl0, pq_bd1 q1]
        exact ⟨_, rfl, q2, q5, rR_of (pl := 2) q6 (fun _ => q3) (fun z => by omega)⟩
      · have e' : (if c = 32 then some (1, lt, bg, P) else moL c 2 lt bg P) = none := e
        rw [if_neg c1] at e'
        rw [pl0, pq_bd1 (ef.2 e')]
  · rw [r2, if_neg (by decide), if_neg (by decide), if_pos (by decide)] at pl0
    have ef := c_fiL h (S := S) (c := c) (nx := 4) (bg := bg) (P := P) hc (by omega) rp
    refine ⟨fun s' e => ?_, fun e => ?_⟩
    · have e' : fiL c 4 bg P = some s' := e
      obtain ⟨S1, q1, q2, q3, q4, q5, q6⟩ := ef.1 s' e'
      have e2 := (fiL_i e').2
      subst e2
      have q1' : F_X6_afterFirstLetter G S (x + 1343) (nI c) (4 : Int32) = some (nI 4, S1) := q1
      rw [pl0, pq_bd1 q1']
      exact ⟨_, rfl, q2, q5, rR_of (pl := 3) q6 (fun _ => q3) (fun _ => by rw [q4]; exact r4 (by omega))⟩
    · have q1' : F_X6_afterFirstLetter G S (x + 1343) (nI c) (4 : Int32) = some (nI 0, S) := ef.2 e
      rw [pl0, pq_bd1 q1']
  · rw [r2, if_neg (by decide), if_neg (by decide), if_neg (by decide), if_pos (by decide), show (34 : Int32) = nI 34 from rfl, show (32 : Int32) = nI 32 from rfl, if_eqI (by omega) (by omega), if_eqI (by omega) (by omega)] at pl0
    have ef := c_moL h (S := S) (c := c) (pl := 4) (lt := lt) (bg := bg) (P := P) hc (by omega) (by omega) (by omega) r2 (r3 (Or.inr rfl)) rp
    by_cases c1 : c = 34
    · rw [if_pos c1] at pl0
      refine ⟨fun s' e => ?_, fun e => ?_⟩
      · have e' : (if c = 34 then some (5, lt, bg, P) else if c = 32 then some (3, lt, bg, P) else moL c 4 lt bg P) = some s' := e
        rw [if_pos c1] at e'
        cases e'
        rw [pl0]
        exact ⟨_, rfl, fr_rfl, rfl, rR_of (pl := 4) rp (fun z => by omega) (fun _ => r4 (by omega))⟩
      · have e' : (if c = 34 then some (5, lt, bg, P) else if c = 32 then some (3, lt, bg, P) else moL c 4 lt bg P) = none := e
        rw [if_pos c1] at e'; cases e'
    · rw [if_neg c1] at pl0
      by_cases c2 : c = 32
      · rw [if_pos c2] at pl0
        refine ⟨fun s' e => ?_, fun e => ?_⟩
        · have e' : (if c = 34 then some (5, lt, bg, P) else if c = 32 then some (3, lt, bg, P) else moL c 4 lt bg P) = some s' := e
          rw [if_neg c1, if_pos c2] at e'
          cases e'
          rw [pl0]
          exact ⟨_, rfl, fr_rfl, rfl, rR_of (pl := 4) rp (fun z => by omega) (fun _ => r4 (by omega))⟩
        · have e' : (if c = 34 then some (5, lt, bg, P) else if c = 32 then some (3, lt, bg, P) else moL c 4 lt bg P) = none := e
          rw [if_neg c1, if_pos c2] at e'; cases e'
      · rw [if_neg c2] at pl0
        refine ⟨fun s' e => ?_, fun e => ?_⟩
        · have e' : (if c = 34 then some (5, lt, bg, P) else if c = 32 then some (3, lt, bg, P) else moL c 4 lt bg P) = some s' := e
          rw [if_neg c1, if_neg c2] at e'
          obtain ⟨S1, q1, q2, q3, q4, q5, q6⟩ := ef.1 s' e'
          have e2 := (moL_i e').2
          subst e2
          rw [pl0, pq_bd1 q1]
          exact ⟨_, rfl, q2, q5, rR_of (pl := 4) q6 (fun _ => q3) (fun _ => by rw [q4]; exact r4 (by omega))⟩
        · have e' : (if c = 34 then some (5, lt, bg, P) else if c = 32 then some (3, lt, bg, P) else moL c 4 lt bg P) = none := e
          rw [if_neg c1, if_neg c2] at e'
          rw [pl0, pq_bd1 (ef.2 e')]
  · rw [r2, if_neg (by decide), if_neg (by decide), if_neg (by decide), if_neg (by decide), if_pos (by decide), show (64 : Int32) = nI 64 from rfl, if_eqI (by omega) (by omega)] at pl0
    by_cases c1 : c = 64
    · rw [if_pos c1] at pl0
      refine ⟨fun s' e => ?_, fun e => ?_⟩
      · have e' : (if c = 64 then some (6, lt, bg, P) else none) = some s' := e
        rw [if_pos c1] at e'
        cases e'
        rw [pl0]
        exact ⟨_, rfl, fr_rfl, rfl, rR_of (pl := 5) rp (fun z => by omega) (fun _ => r4 (by omega))⟩
      · have e' : (if c = 64 then some (6, lt, bg, P) else none) = none := e
        rw [if_pos c1] at e'; cases e'
    · rw [if_neg c1] at pl0
      refine ⟨fun s' e => ?_, fun e => ?_⟩
      · have e' : (if c = 64 then some (6, lt, bg, P) else none) = some s' := e
        rw [if_neg c1] at e'; cases e'
      · rw [pl0]; rfl
  · rw [r2, if_neg (by decide), if_neg (by decide), if_neg (by decide), if_neg (by decide), if_neg (by decide), if_pos (by decide)] at pl0
    have r4' := r4 (by omega)
    by_cases c1 : 48 ≤ c ∧ c ≤ 57
    · refine ⟨fun s' e => ?_, fun e => ?_⟩
      · have e' : (if 48 ≤ c ∧ c ≤ 57 then some (if c = 49 then 7 else 8, lt, bg, adQ P (c - 48) bg) else none) = some s' := e
        rw [if_pos c1] at e'
        cases e'
        obtain ⟨S1, q1, q2, q3⟩ := c_addQ h (S := S) (p := x + 1344) (s := c - 48) (b := bg) kk.2.2.2 (by omega) (by omega) (by omega) (by omega) rp
        have e5 : F_X6_afterFirstDigit G S (x + 1343) (nI c) = some (nI (if c = 49 then 7 else 8), S1) := by
          unfold F_X6_afterFirstDigit
          rw [show (48 : Int32) = nI 48 from rfl, show (57 : Int32) = nI 57 from rfl, show (49 : Int32) = nI 49 from rfl, if_neg (nI_nlt (by omega) (by omega)), if_pos (nI_le (by omega) (by omega)), kk.1, r4', nI_sub (by omega), pq_bd1 q1, if_eqI (by omega) (by omega)]
          by_cases c2 : c = 49
          · rw [if_pos c2, if_pos c2]; rfl
          · rw [if_neg c2, if_neg c2]; rfl
        rw [pl0, pq_bd1 e5]
        have z0 := (q2 (x + 1343) (by omega)).1
        refine ⟨_, rfl, fr_mo q2 (by omega) (by omega), by rw [z0], rR_of (pl := 6) q3 (fun z => ?_) (fun z => ?_)⟩
        · exfalso
          by_cases c2 : c = 49
          · rw [if_pos c2] at z; omega
          · rw [if_neg c2] at z; omega
        · exfalso
          by_cases c2 : c = 49
          · rw [if_pos c2] at z; omega
          · rw [if_neg c2] at z; omega
      · have e' : (if 48 ≤ c ∧ c ≤ 57 then some (if c = 49 then 7 else 8, lt, bg, adQ P (c - 48) bg) else none) = none := e
        rw [if_pos c1] at e'; cases e'
    · refine ⟨fun s' e => ?_, fun e => ?_⟩
      · have e' : (if 48 ≤ c ∧ c ≤ 57 then some (if c = 49 then 7 else 8, lt, bg, adQ P (c - 48) bg) else none) = some s' := e
        rw [if_neg c1] at e'; cases e'
      · have e5 : F_X6_afterFirstDigit G S (x + 1343) (nI c) = some (nI 0, S) := by
          unfold F_X6_afterFirstDigit
          rw [show (48 : Int32) = nI 48 from rfl, show (57 : Int32) = nI 57 from rfl, if_ltI (by omega) (by omega)]
          by_cases c2 : c < 48
          · rw [if_pos c2]; rfl
          · rw [if_neg c2, if_leI (by omega) (by omega), if_neg (by omega)]; rfl
        rw [pl0, pq_bd1 e5]
  · rw [r2, if_neg (by decide), if_neg (by decide), if_neg (by decide), if_neg (by decide), if_neg (by decide), if_neg (by decide), if_pos (by decide), show (32 : Int32) = nI 32 from rfl, if_eqI (by omega) (by omega)] at pl0
    by_cases c1 : c = 32
    · rw [if_pos c1] at pl0
      refine ⟨fun s' e => ?_, fun e => ?_⟩
      · have e' : (if c = 32 then some (1, lt, bg, P) else if 48 ≤ c ∧ c ≤ 57 then some (8, lt, bg, seQ P (c - 38)) else none) = some s' := e
        rw [if_pos c1] at e'
        cases e'
        rw [pl0]
        exact ⟨_, rfl, fr_rfl, rfl, rR_of (pl := 7) rp (fun z => by omega) (fun z => by omega)⟩
      · have e' : (if c = 32 then some (1, lt, bg, P) else if 48 ≤ c ∧ c ≤ 57 then some (8, lt, bg, seQ P (c - 38)) else none) = none := e
        rw [if_pos c1] at e'; cases e'
    · rw [if_neg c1] at pl0
      by_cases c2 : 48 ≤ c ∧ c ≤ 57
      · refine ⟨fun s' e => ?_, fun e => ?_⟩
        · have e' : (if c = 32 then some (1, lt, bg, P) else if 48 ≤ c ∧ c ≤ 57 then some (8, lt, bg, seQ P (c - 38)) else none) = some s' := e
          rw [if_neg c1, if_pos c2] at e'
          cases e'
          have e5 : F_X6_afterSecondDigit G S (x + 1343) (nI c) = some (nI 8, pq_wj S (x + 1348) (P.qc - 1) (lN (c - 38))) := by
            unfold F_X6_afterSecondDigit
            rw [show (48 : Int32) = nI 48 from rfl, show (57 : Int32) = nI 57 from rfl, show (10 : Int32) = nI 10 from rfl, if_neg (nI_nlt (by omega) (by omega)), if_pos (nI_le (by omega) (by omega)), kk.1, rp.2.2.2.1, nI_sub1 h1, nI_add, nI_sub (by omega), nI_l (by omega), pq_bd1 (f_psrc h kk.2.2.2 (by omega)), show 10 + c - 48 = c - 38 from by omega]
            rfl
          rw [pl0, pq_bd1 e5]
          refine ⟨_, rfl, fr_wj (by omega) (by omega), rfl, rR_of (pl := 7) ?_ (fun z => by omega) (fun z => by omega)⟩
          obtain ⟨t1, t2, t3, t4, t5, t6, t7, t8⟩ := rp
          refine ⟨t1, t2, t3, t4, fun j hj => ?_, fun j hj => ?_, fun j hj => ?_, fun j hj => ?_⟩
          · rw [wj_a (by omega)]; exact t5 j hj
          · show _ = lN (if j = P.qc - 1 then c - 38 else P.qs j)
            by_cases cj : j = P.qc - 1
            · rw [if_pos cj, cj, wj_s]
            · rw [if_neg cj, wj_k cj]; exact t6 j hj
          · rw [wj_a (by omega)]; exact t7 j hj
          · rw [wj_a (by omega)]; exact t8 j hj
        · have e' : (if c = 32 then some (1, lt, bg, P) else if 48 ≤ c ∧ c ≤ 57 then some (8, lt, bg, seQ P (c - 38)) else none) = none := e
          rw [if_neg c1, if_pos c2] at e'; cases e'
      · refine ⟨fun s' e => ?_, fun e => ?_⟩
        · have e' : (if c = 32 then some (1, lt, bg, P) else if 48 ≤ c ∧ c ≤ 57 then some (8, lt, bg, seQ P (c - 38)) else none) = some s' := e
          rw [if_neg c1, if_neg c2] at e'; cases e'
        · have e5 : F_X6_afterSecondDigit G S (x + 1343) (nI c) = some (nI 0, S) := by
            unfold F_X6_afterSecondDigit
            rw [show (48 : Int32) = nI 48 from rfl, show (57 : Int32) = nI 57 from rfl, if_ltI (by omega) (by omega)]
            by_cases c3 : c < 48
            · rw [if_pos c3]; rfl
            · rw [if_neg c3, if_leI (by omega) (by omega), if_neg (by omega)]; rfl
          rw [pl0, pq_bd1 e5]
  · rw [r2, if_neg (by decide), if_neg (by decide), if_neg (by decide), if_neg (by decide), if_neg (by decide), if_neg (by decide), if_neg (by decide), if_pos (by decide), show (32 : Int32) = nI 32 from rfl, if_eqI (by omega) (by omega)] at pl0
    by_cases c1 : c = 32
    · rw [if_pos c1] at pl0
      refine ⟨fun s' e => ?_, fun e => ?_⟩
      · have e' : (if c = 32 then some (1, lt, bg, P) else none) = some s' := e
        rw [if_pos c1] at e'
        cases e'
        rw [pl0]
        exact ⟨_, rfl, fr_rfl, rfl, rR_of (pl := 8) rp (fun z => by omega) (fun z => by omega)⟩
      · have e' : (if c = 32 then some (1, lt, bg, P) else none) = none := e
        rw [if_pos c1] at e'; cases e'
    · rw [if_neg c1] at pl0
      refine ⟨fun s' e => ?_, fun e => ?_⟩
      · have e' : (if c = 32 then some (1, lt, bg, P) else none) = some s' := e
        rw [if_neg c1] at e'; cases e'
      · rw [pl0]; rfl
theorem iA_pl {k : Nat} {s : tA} (i : iA k s) : 1 ≤ s.1 ∧ s.1 ≤ 8 := by
  obtain ⟨pl, lt, bg, P⟩ := s
  obtain ⟨-, i⟩ := i
  show 1 ≤ pl ∧ pl ≤ 8
  omega
/-- the buffer holds len characters c -/
def rB (S : pq_N) (x len : Nat) (c : Nat → Nat) : Prop := S.1 (x + 1340) 1 = nI len ∧ ∀ j, j < len → S.2 (x + 1342) j = lN (c j)
theorem rB_fr {lo hi len : Nat} {S S1 : pq_N} {c : Nat → Nat} (f : fr lo hi S S1) (hf : x + 1343 ≤ lo ∨ hi ≤ x + 1340) (r : rB S x len c) : rB S1 x len c := by
  refine ⟨by rw [(f (x + 1340) (by omega)).1]; exact r.1, fun j hj => by rw [(f (x + 1342) (by omega)).2]; exact r.2 j hj⟩
theorem rd_loop (h : sh_G G x) {len : Nat} {c : Nat → Nat} (hl : len ≤ 100) (hc : ∀ j, j < len → c j < 1000) : ∀ (m k f : Nat) (S : pq_N) (s : tA), k + m = len → m < f → rB S x len c → S.1 (x + 1343) 1 = nI k → iA k s → rR S x s →
    ∃ S1, F_X6_read_b17 G f S (x + 1343) (x + 1340) = some ((), S1) ∧ fr (x + 1343) (x + 1353) S S1 ∧ S1.1 (x + 1343) 1 = nI (rn c len k s).1 ∧ rR S1 x (rn c len k s).2 := by
  have kk := sh_rd h
  intro m
  induction m with
  | zero =>
    intro k f S s hkm hf rb e1 i r
    obtain ⟨f, rfl⟩ : ∃ k, f = k + 1 := ⟨f - 1, by omega⟩
    rw [F_X6_read_b17.eq_2, rb.1, e1, if_pos (nI_le (by omega) (by omega)), rn_end (by omega)]
    exact ⟨S, rfl, fr_rfl, e1, r⟩
  | succ m ih =>
    intro k f S s hkm hf rb e1 i r
    obtain ⟨f, rfl⟩ : ∃ k, f = k + 1 := ⟨f - 1, by omega⟩
    have hp := c_place h (k := k) (by omega) (hc k (by omega)) i r
    rw [F_X6_read_b17.eq_2, rb.1, e1, if_neg (nI_ge (by omega) (by omega)), kk.2.1, pq_bd1 (f_number kk.2.2.1 (show k < 100 by omega) (by omega)), rb.2 k (by omega), lN_i]
    cases e : stp s (c k) with
    | none =>
      rw [pq_bd1 (hp.2 e), if_pos (by decide), rn_err e]
      exact ⟨S, rfl, fr_rfl, e1, r⟩
    | some s' =>
      obtain ⟨S1, q1, q2, q3, q4⟩ := hp.1 s' e
      have i' := stp_i i e
      have hpl := iA_pl i'
      rw [pq_bd1 q1, if_neg (nI_ne0 (by omega) (by omega)), pq_lt1, pq_lt1, wi_k (by decide), q3, e1, nI_1, rn_stp (by omega) e]
      have f1 : fr (x + 1343) (x + 1353) S (pq_wi (pq_wi S1 (x + 1343) 2 (nI s'.1)) (x + 1343) 1 (nI (k + 1))) := fr_tr q2 (fr_tr (fr_wi (by omega) (by omega)) (fr_wi (by omega) (by omega)))
      obtain ⟨S2, k1, k2, k3, k4⟩ := ih (k + 1) f _ s' (by omega) (by omega) (rB_fr f1 (by omega) rb) wi_s i' (rR_w1 q4)
      exact ⟨S2, k1, fr_tr f1 k2, k3, k4⟩
/-- the start -/
def s0 (au pd : Int32) : tA := (1, 0, 0, mP au pd 0 0 (fun _ => 0) (fun _ => 0) (fun _ => 0) (fun _ => 0))
theorem s0_i {au pd : Int32} : iA 0 (s0 au pd) := ⟨fun q hq => absurd hq (Nat.not_lt_zero _), Or.inl ⟨rfl, Nat.le_refl _, Nat.le_refl _⟩⟩
theorem c_read (h : sh_G G x) {S : pq_N} {len : Nat} {c : Nat → Nat} (hl : len ≤ 100) (hc : ∀ j, j < len → c j < 1000) (rb : rB S x len c) : ∃ S1, F_X6_read G S (x + 1343) (x + 1340) = some ((), S1) ∧ fr (x + 1343) (x + 1353) S S1 ∧ S1.1 (x + 1343) 1 = nI (rn c len 0 (s0 (S.1 (x + 1344) 4) (S.1 (x + 1344) 5))).1 ∧ rR S1 x (rn c len 0 (s0 (S.1 (x + 1344) 4) (S.1 (x + 1344) 5))).2 := by
  have kk := sh_rd h
  unfold F_X6_read F_X4_empty
  rw [kk.1, pq_lt1, pq_lt1, pq_bd1 rfl, pq_lt1, pq_lt1]
  have f1 : fr (x + 1343) (x + 1353) S (pq_wi (pq_wi (pq_wi (pq_wi S (x + 1344) 6 (nI 0)) (x + 1344) 7 (nI 0)) (x + 1343) 1 (nI 0)) (x + 1343) 2 (nI 1)) := fr_tr (fr_wi (by omega) (by omega)) (fr_tr (fr_wi (by omega) (by omega)) (fr_tr (fr_wi (by omega) (by omega)) (fr_wi (by omega) (by omega))))
  have ne : x + 1344 ≠ x + 1343 := by omega
  obtain ⟨S1, q1, q2, q3, q4⟩ := rd_loop h hl hc len 0 pq_fuel _ (s0 (S.1 (x + 1344) 4) (S.1 (x + 1344) 5)) (by omega) (fuel_lt (by omega)) (rB_fr f1 (by omega) rb) (by rw [wi_k (by decide), wi_s]) s0_i ⟨wi_s, fun z => by omega, fun z => by omega, by rw [wi_a ne, wi_a ne, wi_k (by decide), wi_k (by decide)]; rfl, by rw [wi_a ne, wi_a ne, wi_k (by decide), wi_k (by decide)]; rfl, by rw [wi_a ne, wi_a ne, wi_k (by decide), wi_s]; rfl, by rw [wi_a ne, wi_a ne, wi_s]; rfl, fun j hj => absurd hj (Nat.not_lt_zero _), fun j hj => absurd hj (Nat.not_lt_zero _), fun j hj => absurd hj (Nat.not_lt_zero _), fun j hj => absurd hj (Nat.not_lt_zero _)⟩
  exact ⟨S1, q1, fr_tr f1 q2, q3, q4⟩
end CY
