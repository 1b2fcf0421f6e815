/-! PRINTING: what is read is words -/
def iW (s : tA) : Prop := (∀ j, j < s.2.2.2.wc → wV (s.2.2.2.w j)) ∧ (s.1 = 2 ∨ s.1 = 4 → ∃ m, s.2.2.2.w (s.2.2.2.wc - 1) = lN m ∧ wVk m s.2.1)
theorem iW_p {pl lt bg : Nat} {P : tP} (h : ∀ j, j < P.wc → wV (P.w j)) (h2 : ¬ (pl = 2 ∨ pl = 4)) : iW (pl, lt, bg, P) := ⟨h, fun z => absurd z h2⟩
theorem stp_w {k : Nat} {s s' : tA} {c : Nat} (h : iA k s) (hw : iW s) (e : stp s c = some s') : iW s' := by
  obtain ⟨pl, lt, bg, P⟩ := s
  obtain ⟨hw1, hw2⟩ := hw
  have hw1' : ∀ j, j < P.wc → wV (P.w j) := hw1
  have fi : ∀ nx : Nat, fiL c nx bg P = some s' → iW s' := fun nx e => by
    obtain ⟨g, rfl⟩ := fiL_i e
    obtain ⟨m, e1, e2⟩ := wVk_1 g.1 g.2
    refine ⟨fun j hj => ?_, fun _ => ⟨m, ?_, e2⟩⟩
    · have hj' : j < P.wc + 1 := hj
      show wV (if j = P.wc then (0 : Int64) ||| shl c 0 else P.w j)
      by_cases z : j = P.wc
      · rw [if_pos z]; exact ⟨m, 1, e1, e2⟩
      · rw [if_neg z]; exact hw1' j (by omega)
    · show (if P.wc + 1 - 1 = P.wc then (0 : Int64) ||| shl c 0 else P.w (P.wc + 1 - 1)) = lN m
      rw [if_pos (by omega)]; exact e1
  have mo : ∀ nx : Nat, (pl = 2 ∨ pl = 4) → moL c nx lt bg P = some s' → iW s' := fun nx hp e => by
    obtain ⟨g, rfl⟩ := moL_i e
    obtain ⟨m0, f1, f2⟩ := hw2 hp
    obtain ⟨m, e1, e2⟩ := wVk_s f2 g.2.2 g.1 g.2.1
    have e1' : P.w (P.wc - 1) ||| shl c lt = lN m := by
      rw [show P.w (P.wc - 1) = lN m0 from f1]; exact e1
    refine ⟨fun j hj => ?_, fun _ => ⟨m, ?_, e2⟩⟩
    · have hj' : j < P.wc := hj
      show wV (if j = P.wc - 1 then P.w (P.wc - 1) ||| shl c lt else P.w j)
      by_cases z : j = P.wc - 1
      · rw [if_pos z]; exact ⟨m, lt + 1, e1', e2⟩
      · rw [if_neg z]; exact hw1' j hj'
    · show (if P.wc - 1 = P.wc - 1 then P.w (P.wc - 1) ||| shl c lt else P.w (P.wc - 1)) = lN m
      rw [if_pos rfl]; exact e1'
  obtain ⟨-, h⟩ := h
  have hp : pl = 1 ∨ pl = 2 ∨ pl = 3 ∨ pl = 4 ∨ pl = 5 ∨ pl = 6 ∨ pl = 7 ∨ pl = 8 := by omega
  rcases hp with rfl | rfl | rfl | rfl | rfl | rfl | rfl | rfl
  · have e' : (if c = 34 then some (3, lt, P.wc, P) else fiL c 2 bg P) = some s' := e
    by_cases c1 : c = 34
    · rw [if_pos c1] at e'
      cases e'
      exact iW_p hw1' (by decide)
    · rw [if_neg c1] at e'
      exact fi 2 e'
  · have e' : (if c = 32 then some (1, lt, bg, P) else moL c 2 lt bg P) = some s' := e
    by_cases c1 : c = 32
    · rw [if_pos c1] at e'
      cases e'
      exact iW_p hw1' (by decide)
    · rw [if_neg c1] at e'
      exact mo 2 (Or.inl rfl) e'
  · exact fi 4 e
  · have e' : (if c = 34 then some (5, lt, bg, P) else if c = 32 then some (3, lt, bg, P) else moL c 4 lt bg P) = some s' := e
    by_cases c1 : c = 34
    · rw [if_pos c1] at e'
      cases e'
      exact iW_p hw1' (by decide)
    · rw [if_neg c1] at e'
      by_cases c2 : c = 32
      · rw [if_pos c2] at e'
        cases e'
        exact iW_p hw1' (by decide)
      · rw [if_neg c2] at e'
        exact mo 4 (Or.inr rfl) e'
  · have e' : (if c = 64 then some (6, lt, bg, P) else none) = some s' := e
    by_cases c1 : c = 64
    · rw [if_pos c1] at e'
      cases e'
      exact iW_p hw1' (by decide)
    · rw [if_neg c1] at e'; cases e'
  · have e' : (if 48 ≤ c ∧ c ≤ 57 then some (if c = 49 then 7 else 8, lt, bg, adQ P (c - 48) bg) else none) = some s' := e
    by_cases c1 : 48 ≤ c ∧ c ≤ 57
    · rw [if_pos c1] at e'
      cases e'
      exact iW_p (P := adQ P (c - 48) bg) hw1' (by split <;> decide)
    · rw [if_neg c1] at e'; cases e'
  · have e' : (if c = 32 then some (1, lt, bg, P) else if 48 ≤ c ∧ c ≤ 57 then some (8, lt, bg, seQ P (c - 38)) else none) = some s' := e
    by_cases c1 : c = 32
    · rw [if_pos c1] at e'
      cases e'
      exact iW_p hw1' (by decide)
    · rw [if_neg c1] at e'
      by_cases c2 : 48 ≤ c ∧ c ≤ 57
      · rw [if_pos c2] at e'
        cases e'
        exact iW_p (P := seQ P (c - 38)) hw1' (by decide)
      · rw [if_neg c2] at e'; cases e'
  · have e' : (if c = 32 then some (1, lt, bg, P) else none) = some s' := e
    by_cases c1 : c = 32
    · rw [if_pos c1] at e'
      cases e'
      exact iW_p hw1' (by decide)
    · rw [if_neg c1] at e'; cases e'
theorem rn_w {c : Nat → Nat} {len : Nat} : ∀ (n k : Nat) (s : tA), k + n = len → iA k s → iW s → iW (rn c len k s).2
  | 0, k, s, hk, _, hw => by
    rw [rn_end (by omega)]
    exact hw
  | n + 1, k, s, hk, h, hw => by
    cases z : stp s (c k) with
    | none =>
      rw [rn_err z]
      exact hw
    | some s1 =>
      rw [rn_stp (by omega) z]
      exact rn_w n (k + 1) s1 (by omega) (stp_i h z) (stp_w h hw z)
theorem tx_w {c : Nat → Nat} {len : Nat} {au pd : Int32} : iW (tx c len au pd).2 := rn_w len 0 (s0 au pd) (by omega) s0_i (iW_p (P := mP au pd 0 0 (fun _ => 0) (fun _ => 0) (fun _ => 0) (fun _ => 0)) (fun j hj => absurd hj (Nat.not_lt_zero _)) (by decide))
theorem wT_pr {b : Nat} {T : tT} {P : tP} {a : Nat} (t : wT b T) (ha : a < 8) (hw : ∀ j, j < P.wc → wV (P.w j)) (hs : ∀ q, q < P.qc → P.qs q < T.cnt ∧ ¬ (T.pm (P.qs q)).pd = T.day) (v : vT T) : wT b (prT T P (nI a)) := by
  obtain ⟨d, p, hd, ed, hp⟩ := t
  refine ⟨d, fun i => if i = T.cnt then d else p i, hd, ed, fun j hj => ?_⟩
  have hj' : j < T.cnt + 1 := hj
  by_cases c : j = T.cnt
  · subst c
    have e : (prT T P (nI a)).pm T.cnt = prP P (nI a) T.day := if_pos rfl
    rw [e]
    refine ⟨?_, ?_, fun i hi => ?_, fun q hq => ?_, ⟨a, ha, rfl⟩, hw⟩
    · show T.day = nI (if T.cnt = T.cnt then d else p T.cnt)
      rw [if_pos rfl]; exact ed
    · show (if T.cnt = T.cnt then d else p T.cnt) ≤ d
      rw [if_pos rfl]; exact Nat.le_refl _
    · show (if i = T.cnt then d else p i) ≤ (if T.cnt = T.cnt then d else p T.cnt)
      rw [if_pos (rfl : T.cnt = T.cnt)]
      by_cases c2 : i = T.cnt
      · rw [if_pos c2]; exact Nat.le_refl _
      · rw [if_neg c2]; exact (hp i (by omega)).2.1
    · have hq' : q < P.qc := hq
      obtain ⟨h1, h2⟩ := hs q hq'
      have ez : zs (prT T P (nI a)) T.cnt q = P.qs q := by
        show ((prT T P (nI a)).pm T.cnt).qs q = P.qs q
        rw [e]; rfl
      rw [ez]
      show (if P.qs q = T.cnt then d else p (P.qs q)) < (if T.cnt = T.cnt then d else p T.cnt)
      rw [if_neg (by omega), if_pos rfl]
      obtain ⟨g1, g2, -⟩ := hp (P.qs q) h1
      rcases Nat.lt_or_ge (p (P.qs q)) d with z | z
      · exact z
      · have : p (P.qs q) = d := by omega
        rw [g1, this, ed] at h2
        exact absurd rfl h2
  · have e : (prT T P (nI a)).pm j = T.pm j := if_neg c
    have ez : ∀ q, zs (prT T P (nI a)) j q = zs T j q := fun q => by
      show ((prT T P (nI a)).pm j).qs q = _
      rw [e]; rfl
    obtain ⟨e1, e2, e3, e4, e5, e6⟩ := hp j (by omega)
    rw [e]
    refine ⟨?_, ?_, fun i hi => ?_, fun q hq => ?_, e5, e6⟩
    · show _ = nI (if j = T.cnt then d else p j)
      rw [if_neg c]; exact e1
    · show (if j = T.cnt then d else p j) ≤ d
      rw [if_neg c]; exact e2
    · show (if i = T.cnt then d else p i) ≤ (if j = T.cnt then d else p j)
      rw [if_neg c, if_neg (by omega)]; exact e3 i hi
    · have g := vq v (show j < T.cnt by omega) hq
      rw [ez]
      show (if zs T j q = T.cnt then d else p (zs T j q)) < (if j = T.cnt then d else p j)
      rw [if_neg c, if_neg (by omega)]; exact e4 q hq
section PR
variable {G : pq_G} {x : Nat} {T N : tT} {n len : Nat} {H : Nat → tT} {g : Bool} {c : Nat → Nat} {S : pq_N}
theorem a_tryPrint_n (h : sh_G G x) (v : vW (T, n, H, g, N, len, c)) (r : rC S x (T, n, H, g, N, len, c)) {w : Nat} (ht : ty c len (fe w T)) (hw : 0 < w) {a : Nat} (ha : a < 8) : ok x (T, n, H, g, N, len, c) (F_L_tryPrint G S x (nI a)) (-7002) := by
  obtain ⟨au, pd, k⟩ := k_print (a := nI a) h v r
  obtain ⟨s, h1, h2, h3⟩ := ht au pd
  have e0 : tx c len au pd = (len, s) := h1
  have ew := wy_why (T := T) (len := len) h2
  have e : s_print (T, n, H, g, N, len, c) (nI a) (tx c len au pd) = (Sum.inl 2, (T, n, H, g, N, len, c)) := by
    unfold s_print
    rw [dI_of (by decide) ha]
    dsimp only
    rw [e0, ew, h3, if_neg (by omega)]
  rw [e] at k
  exact ok_h k (fun S1 => rfl)
theorem a_tryPrint_p (h : sh_G G x) {b : Nat} (v : vW (T, n, H, g, N, len, c)) (t : wT b T) (r : rC S x (T, n, H, g, N, len, c)) (ht : ty c len (fe 0 T)) {a : Nat} (ha : a < 8) : ∃ P, ok x (prT T P (nI a), hn n, hH n H T, g, N, 0, c) (F_L_tryPrint G S x (nI a)) (nI T.cnt) ∧ vW (prT T P (nI a), hn n, hH n H T, g, N, 0, c) ∧ wT b (prT T P (nI a)) := by
  obtain ⟨au, pd, k⟩ := k_print (a := nI a) h v r
  obtain ⟨s, h1, h2, h3⟩ := ht au pd
  have e0 : tx c len au pd = (len, s) := h1
  have ew := wy_why (T := T) (len := len) h2
  have e : s_print (T, n, H, g, N, len, c) (nI a) (tx c len au pd) = (Sum.inr (nI T.cnt), (prT T s.2.2.2 (nI a), hn n, hH n H T, g, N, 0, c)) := by
    unfold s_print
    rw [dI_of (by decide) ha]
    dsimp only
    rw [e0, ew, h3, if_pos rfl]
  rw [e] at k
  obtain ⟨k1, k2⟩ := ok_hr (b := nI T.cnt) (g := fun k19 S12 => (if k19 = 1 then some ((-7001 : Int32), S12) else (if k19 = 2 then some ((-7002 : Int32), S12) else none))) (f := fun v11 S12 => some (v11, S12)) k (fun S1 => rfl)
  refine ⟨s.2.2.2, k1, k2, wT_pr t ha ?_ (fun q hq => ?_) v.1⟩
  · have z := (tx_w (c := c) (len := len) (au := au) (pd := pd)).1
    rw [e0] at z
    exact z
  · have h3' : whyF T s.2.2.2.qc s.2.2.2.qs = 0 := h3
    unfold whyF at h3'
    by_cases c0 : 20 ≤ T.cnt
    · rw [if_pos c0] at h3'; cases h3'
    · rw [if_neg c0] at h3'
      by_cases c1 : exB (fun q => !decide (s.2.2.2.qs q < T.cnt)) s.2.2.2.qc = true
      · rw [if_pos c1] at h3'; cases h3'
      · rw [if_neg c1] at h3'
        by_cases c2 : exB (fun q => (T.pm (s.2.2.2.qs q)).pd == T.day) s.2.2.2.qc = true
        · rw [if_pos c2] at h3'; cases h3'
        · refine ⟨?_, fun z => ?_⟩
          · rcases Nat.lt_or_ge (s.2.2.2.qs q) T.cnt with z | z
            · exact z
            · exact absurd (exB_t.mpr ⟨q, hq, by simp; exact z⟩) c1
          · exact absurd (exB_t.mpr ⟨q, hq, by simpa using z⟩) c2
theorem pr_244 (h : sh_G G x) {b : Nat} (v : vW (T, n, H, g, N, len, c)) (t : wT b T) (r : rC S x (T, n, H, g, N, len, c)) {w : Nat} (hw4 : w ≤ 4) (ht : ty c len (fe w T)) {a : Nat} (ha : a < 8) : okE x (F_L_prints_b244 G S x (nI T.cnt) (nI w) (nI len) (nI a) 1) (GD b) := by
  have hv := v
  obtain ⟨hT, -, -, -, hl, -⟩ := v
  have h20 := hT.1
  unfold F_L_prints_b244
  by_cases c0 : w = 0
  · subst c0
    obtain ⟨P, k1, k2, k3⟩ := a_tryPrint_p h hv t r ht ha
    have h1 : T.cnt < (prT T P (nI a)).cnt := Nat.lt_succ_self _
    have e : (prT T P (nI a)).pm T.cnt = prP P (nI a) T.day := if_pos rfl
    refine okE_b k1 (fun S r => ?_)
    rw [if_neg (by decide), if_pos (by decide), if_pos rfl]
    refine okE_b (a_authorOf (W := (prT T P (nI a), hn n, hH n H T, g, N, 0, c)) h k2 r h1) (fun S r => ?_)
    show okE x (if ((prT T P (nI a)).pm T.cnt).au = nI a then _ else _) _
    rw [e, if_pos (show (prP P (nI a) T.day).au = nI a from rfl)]
    refine okE_b (a_dayOf (W := (prT T P (nI a), hn n, hH n H T, g, N, 0, c)) h k2 r h1) (fun S r => ?_)
    refine okE_b (a_day (W := (prT T P (nI a), hn n, hH n H T, g, N, 0, c)) h k2 r) (fun S r => ?_)
    show okE x (if ((prT T P (nI a)).pm T.cnt).pd = T.day then _ else _) _
    rw [e, if_pos (show (prP P (nI a) T.day).pd = T.day from rfl)]
    obtain ⟨q1, q2⟩ := ok_c (k_clearText h k2 r)
    refine okE_b q1 (fun S r => ?_)
    rw [if_pos (by decide)]
    exact okE_r r ⟨rfl, q2, k3⟩
  · refine okE_b (a_tryPrint_n h hv r ht (by omega) ha) (fun S r => ?_)
    rw [if_neg (by decide), if_neg (show ¬ nI w ≤ (0 : Int32) from nI_nle (by omega) (by omega)), if_pos rfl]
    refine okE_b (a_pamphlets h hv r) (fun S r => ?_)
    rw [if_pos rfl]
    obtain ⟨q1, q2⟩ := ok_c (k_clearText h hv r)
    refine okE_b q1 (fun S r => ?_)
    rw [if_pos rfl]
    exact okE_r r ⟨rfl, q2, t⟩
end PR
section PL
variable {G : pq_G} {x : Nat} {W0 W : tW} {S : pq_N} {w k n : Nat} {x1 x2 : Int32}
def w4 (w : Nat) : Prop := w = 0 ∨ w = 1 ∨ w = 3 ∨ w = 4
/-- an item more -/
def nxt (x : Nat) (W0 : tW) (k n : Nat) (x1 x2 : Int32) (P : Int32 → tW → Prop) (c36 : pq_N → Nat → Int32 → Int32 → Int32 → Int32 → Int32 → Int32 → Int32 → Option (Int32 × pq_N)) : Prop := ∀ (S : pq_N) (W : tW) (a : Int32) (w : Nat), w4 w → ST W0 (22 * (k + 1)) (fe w W0.1) a W → rC S x W → okE x (c36 S x x1 x2 (nI W0.1.cnt) (nI w) (nI n) a (nI (k + 1))) P
theorem pr_168 {P : Int32 → tW → Prop} {c36 : pq_N → Nat → Int32 → Int32 → Int32 → Int32 → Int32 → Int32 → Int32 → Option (Int32 × pq_N)} (K : nxt x W0 k n x1 x2 P c36) (hw : w4 w) {i : Nat} (hi : i = 0 ∨ i = 3 ∨ i = 4) {a : Int32} (q : ST W0 (22 * (k + 1)) (fe (stW w i) W0.1) a W) (r : rC S x W) : okE x (F_L_prints_b168 G c36 S x x1 x2 (nI W0.1.cnt) (nI w) (nI n) a (nI k) (nI i)) P := by
  have hw' : w ≤ 4 := by unfold w4 at hw; omega
  unfold F_L_prints_b168
  rw [nI_1]
  by_cases c1 : w = 1
  · rw [if_pos (show nI w = (1 : Int32) by rw [c1]; rfl)]
    have e : stW w i = w := if_pos c1
    rw [e] at q
    exact K S W a w hw q r
  · rw [if_neg (show ¬ nI w = (1 : Int32) from fun z => c1 ((nI_eq (b := 1) (by omega) (by decide)).mp z))]
    by_cases c3 : w = 3
    · rw [if_pos (show nI w = (3 : Int32) by rw [c3]; rfl)]
      have e : stW w i = w := by unfold stW; rw [if_neg c1, if_pos c3]
      rw [e] at q
      exact K S W a w hw q r
    · rw [if_neg (show ¬ nI w = (3 : Int32) from fun z => c3 ((nI_eq (b := 3) (by omega) (by decide)).mp z))]
      by_cases c0 : i = 0
      · rw [if_pos (show nI i = (0 : Int32) by rw [c0]; rfl)]
        have e : stW w i = w := by unfold stW; rw [if_neg c1, if_neg c3, if_pos c0]
        rw [e] at q
        exact K S W a w hw q r
      · rw [if_neg (show ¬ nI i = (0 : Int32) from nI_ne0 (by omega) (by omega))]
        have e : stW w i = i := by unfold stW; rw [if_neg c1, if_neg c3, if_neg c0]
        rw [e] at q
        exact K S W a i (by unfold w4; omega) q r
theorem pr_130 (h : sh_G G x) {P : Int32 → tW → Prop} {c36 : pq_N → Nat → Int32 → Int32 → Int32 → Int32 → Int32 → Int32 → Int32 → Option (Int32 × pq_N)} (K : nxt x W0 k n x1 x2 P c36) (hw : w4 w) (hk : k ≤ 3) {s : Nat} (hs : s < 20) (hwv : ∀ j, j < W0.1.cnt → ∀ i, i < (W0.1.pm j).wc → wV ((W0.1.pm j).w i)) {y : Int32} (q : SW W0 (22 * k + 1) (fz 1 7 w W0.1) W) (r : rC S x W) : okE x (F_L_prints_b130 G c36 S x x1 x2 (nI W0.1.cnt) (nI w) (nI n) (nI k) y (nI s)) P := by
  unfold F_L_prints_b130
  refine okE_e (l_typeQuotation h hs hwv (by omega) q r) (fun a W S q r => ?_)
  have q' : ST W0 (22 * (k + 1)) (fe (stW w (its W0.1 s)) W0.1) a W := ST_m q (by omega) (fun s z => z)
  obtain ⟨v, eW⟩ := SW_v q.1
  have h20 := (vW_t v).1
  rw [eW] at h20
  by_cases c : s < W0.1.cnt
  · rw [if_pos (nI_lt c (by omega))]
    refine okE_b (a_dayOf h v r (by rw [eW]; exact c)) (fun S r => ?_)
    refine okE_b (a_day h v r) (fun S r => ?_)
    rw [eW]
    unfold its at q'
    rw [if_pos c] at q'
    by_cases c2 : (W0.1.pm s).pd = W0.1.day
    · rw [if_pos c2]
      rw [if_pos c2] at q'
      exact pr_168 K hw (i := 4) (by decide) q' r
    · rw [if_neg c2]
      rw [if_neg c2] at q'
      exact pr_168 K hw (i := 0) (by decide) q' r
  · rw [if_neg (nI_nlt (by omega) (by omega))]
    unfold its at q'
    rw [if_neg c] at q'
    exact pr_168 K hw (i := 3) (by decide) q' r
theorem pr_199 (h : sh_G G x) {P : Int32 → tW → Prop} {c36 : pq_N → Nat → Int32 → Int32 → Int32 → Int32 → Int32 → Int32 → Int32 → Option (Int32 × pq_N)} (K : nxt x W0 k n x1 x2 P c36) (hw : w4 w) (hk : k ≤ 3) {y : Int32} (q : SW W0 (22 * k + 1) (fz 1 7 w W0.1) W) (r : rC S x W) : okE x (F_L_prints_b199 G c36 S x x1 x2 (nI W0.1.cnt) (nI w) (nI n) (nI k) y) P := by
  unfold F_L_prints_b199
  refine okE_e (l_typeWord h (Or.inl rfl) q r (by omega)) (fun a W S q r => ?_)
  rw [nI_1]
  exact K S W a w hw (ST_m q (by omega) (fun s z => ⟨Or.inl z.1, z.2.2⟩)) r
theorem pr_105 (h : sh_G G x) {P : Int32 → tW → Prop} {c36 : pq_N → Nat → Int32 → Int32 → Int32 → Int32 → Int32 → Int32 → Int32 → Option (Int32 × pq_N)} (K : nxt x W0 k n x1 x2 P c36) (hw : w4 w) (hk : k ≤ 3) {s : Nat} (hs : s < 20) (hwv : ∀ j, j < W0.1.cnt → ∀ i, i < (W0.1.pm j).wc → wV ((W0.1.pm j).w i)) {y t : Int32} (q : SW W0 (22 * k + 1) (fz 1 7 w W0.1) W) (r : rC S x W) : okE x (F_L_prints_b105 G c36 S x x1 x2 (nI W0.1.cnt) (nI w) (nI n) (nI k) y (nI s) t) P := by
  unfold F_L_prints_b105
  obtain ⟨i, hi, a⟩ := a_low (G := G) (v := y) r (n := 5) (by decide) (by decide)
  refine okE_b a (fun S r => ?_)
  by_cases c : (2 : Int32) ≤ nI i
  · rw [if_pos c]
    exact pr_199 h K hw hk q r
  · rw [if_neg c]
    by_cases c2 : (0 : Int32) < nI W0.1.cnt
    · rw [if_pos c2]
      exact pr_130 h K hw hk hs hwv q r
    · rw [if_neg c2]
      obtain ⟨i, hi, a⟩ := a_low (G := G) (v := y) r (n := 5) (by decide) (by decide)
      refine okE_b a (fun S r => ?_)
      by_cases c3 : nI i = (0 : Int32)
      · rw [if_pos c3]
        exact pr_130 h K hw hk hs hwv q r
      · rw [if_neg c3]
        exact pr_199 h K hw hk q r
theorem pr_84 (h : sh_G G x) {P : Int32 → tW → Prop} {c36 : pq_N → Nat → Int32 → Int32 → Int32 → Int32 → Int32 → Int32 → Int32 → Option (Int32 × pq_N)} (K : nxt x W0 k n x1 x2 P c36) (hw : w4 w) (hk : k ≤ 3) {m : Nat} (h1 : 1 ≤ m) (hm : m ≤ 20) (hwv : ∀ j, j < W0.1.cnt → ∀ i, i < (W0.1.pm j).wc → wV ((W0.1.pm j).w i)) {y t a : Int32} (q0 : k = 0 → SW W0 0 (fz 1 7 w W0.1) W) (q1 : 0 < k → ST W0 (22 * k) (fe w W0.1) a W) (r : rC S x W) : okE x (F_L_prints_b84 G c36 S x x1 x2 (nI W0.1.cnt) (nI w) (nI n) a (nI k) y (nI m) t) P := by
  unfold F_L_prints_b84
  obtain ⟨s, hs, as⟩ := a_low (G := G) (v := t) r (n := m) h1 (by omega)
  refine okE_b as (fun S r => ?_)
  by_cases c : k = 0
  · rw [if_pos (show nI k ≤ (0 : Int32) by rw [c]; decide)]
    exact pr_105 h K hw hk (by omega) hwv (SW_m (q0 c) (by omega) (fun s z => z)) r
  · rw [if_neg (nI_nle (by omega) (by omega))]
    refine okE_e (l_app h (q1 (by omega)).1 r (by omega) (ch := 32) (by decide) (by decide) z_be) (fun a W S q r => ?_)
    exact pr_105 h K hw hk (by omega) hwv q.1 r
theorem pr_36 (h : sh_G G x) {b : Nat} (t : wT b W0.1) (hn : n ≤ 4) (hwv : ∀ j, j < W0.1.cnt → ∀ i, i < (W0.1.pm j).wc → wV ((W0.1.pm j).w i)) : ∀ (m k f : Nat) (S : pq_N) (W : tW) (a : Int32) (w : Nat), k + m = n → (k = 0 → 1 ≤ m) → m < f → w4 w → (k = 0 → SW W0 0 (fz 1 7 w W0.1) W) → (0 < k → ST W0 (22 * k) (fe w W0.1) a W) → rC S x W → okE x (F_L_prints_b36 G f S x x1 x2 (nI W0.1.cnt) (nI w) (nI n) a (nI k)) (GD b) := by
  intro m
  induction m with
  | zero =>
    intro k f S W a w hk h0 hf hw q0 q1 r
    obtain ⟨f, rfl⟩ : ∃ k, f = k + 1 := ⟨f - 1, by omega⟩
    have hw' : w ≤ 4 := by unfold w4 at hw; omega
    rw [F_L_prints_b36.eq_2, if_pos (nI_le (by omega) (by omega))]
    obtain ⟨⟨len, c, e, v, hl, ht⟩, ea⟩ := q1 (by omega)
    subst e
    have ea' : a = nI len := ea
    subst ea'
    obtain ⟨au, hau, aa⟩ := a_low (G := G) (v := x2) r (n := 8) (by decide) (by decide)
    refine okE_b aa (fun S r => ?_)
    obtain ⟨a1, d1, k1⟩ := a_errorPosition h v r
    obtain ⟨s1, p1, p2⟩ := ht a1 d1
    have p1' : (tx c len a1 d1).1 = len := by
      have : tx c len a1 d1 = (len, s1) := p1
      rw [this]
    refine okE_b k1 (fun S r => ?_)
    show okE x (if nI (tx c len a1 d1).1 = nI len then _ else _) _
    rw [p1', if_pos rfl]
    obtain ⟨a2, d2, k2⟩ := a_whyNotPrinted h v r
    obtain ⟨s2, g1, g2⟩ := ht a2 d2
    have g1' : wy W0.1 len (tx c len a2 d2) = w := by
      have : tx c len a2 d2 = (len, s2) := g1
      rw [this, wy_why g2.1]
      exact g2.2
    refine okE_b k2 (fun S r => ?_)
    show okE x (if nI (wy W0.1 len (tx c len a2 d2)) = nI w then _ else _) _
    rw [g1', if_pos rfl]
    exact pr_244 h v t r hw' ht hau
  | succ m ih =>
    intro k f S W a w hk h0 hf hw q0 q1 r
    obtain ⟨f, rfl⟩ : ∃ k, f = k + 1 := ⟨f - 1, by omega⟩
    have K : nxt x W0 k n x1 x2 (GD b) (F_L_prints_b36 G f) := fun S W a w hw q r => ih (k + 1) f S W a w (by omega) (fun z => by omega) (by omega) hw (fun z => by omega) (fun _ => q) r
    have h20 : W0.1.cnt ≤ 20 := by
      by_cases c : k = 0
      · have z := SW_v (q0 c)
        rw [← z.2]
        exact (vW_t z.1).1
      · have z := SW_v (q1 (by omega)).1
        rw [← z.2]
        exact (vW_t z.1).1
    rw [F_L_prints_b36.eq_2, if_neg (nI_ge (by omega) (by omega)), pq_lt1]
    obtain ⟨i, hi, ai⟩ := a_low (G := G) (v := ((x1 >>> (((3 : Int32) * nI k) &&& 31)) ^^^ (x2 >>> (((2 : Int32) * nI k) &&& 31))) >>> ((5 : Int32) &&& 31)) r (n := 9) (by decide) (by decide)
    refine okE_b ai (fun S r => ?_)
    by_cases c1 : nI i = (0 : Int32)
    · rw [if_pos c1]
      exact pr_84 h K hw (by omega) (m := 20) (by decide) (by decide) hwv q0 q1 r
    · rw [if_neg c1]
      by_cases c2 : W0.1.cnt = 0
      · rw [if_pos (show nI W0.1.cnt = (0 : Int32) by rw [c2]; rfl)]
        exact pr_84 h K hw (by omega) (m := 20) (by decide) (by decide) hwv q0 q1 r
      · rw [if_neg (show ¬ nI W0.1.cnt = (0 : Int32) from nI_ne0 (by omega) (by omega))]
        exact pr_84 h K hw (by omega) (m := W0.1.cnt) (by omega) h20 hwv q0 q1 r
end PL
section PP
variable {G : pq_G} {x : Nat} {T N : tT} {n len : Nat} {H : Nat → tT} {g : Bool} {c : Nat → Nat} {S : pq_N}
theorem pr_16 (h : sh_G G x) {b : Nat} (v : vW (T, n, H, g, N, len, c)) (t : wT b T) (r : rC S x (T, n, H, g, N, len, c)) {y z : Int32} {w : Nat} (hw : w = if 20 ≤ T.cnt then 1 else 0) : okE x (F_L_prints_b16 G S x y z (nI T.cnt) (nI w)) (GD b) := by
  have hwv : ∀ j, j < T.cnt → ∀ i, i < (T.pm j).wc → wV ((T.pm j).w i) := by
    obtain ⟨d, p, hd, ed, hp⟩ := t
    exact fun j hj => (hp j hj).2.2.2.2.2
  unfold F_L_prints_b16
  obtain ⟨i, hi, ai⟩ := a_low (G := G) (v := y) r (n := 4) (by decide) (by decide)
  refine okE_b ai (fun S r => ?_)
  obtain ⟨q1, q2⟩ := ok_c (k_clearText h v r)
  refine okE_b q1 (fun S r => ?_)
  rw [show (1 : Int32) = nI 1 from rfl, nI_add]
  refine pr_36 (W0 := (T, n, H, g, N, len, c)) h t (by omega) hwv (1 + i) 0 pq_fuel S (T, n, H, g, N, 0, c) (nI len) w (by omega) (fun _ => by omega) (fuel_lt (by omega)) ?_ (fun _ => ?_) (fun z => absurd z (Nat.lt_irrefl _)) r
  · unfold w4
    split at hw <;> omega
  · refine ⟨0, c, rfl, q2, Nat.le_refl _, fun au pd => ⟨s0 au pd, rn_end (Nat.le_refl _), rfl, fun z => by omega, ?_⟩⟩
    rw [hw]
    show whyF T 0 (fun _ => 0) = _
    unfold whyF
    rfl
theorem l_prints (h : sh_G G x) {b : Nat} (v : vW (T, n, H, g, N, len, c)) (t : wT b T) (r : rC S x (T, n, H, g, N, len, c)) {y z : Int32} : okE x (F_L_prints G S x y z) (GD b) := by
  have h20 := v.1.1
  unfold F_L_prints
  refine okE_b (a_pamphlets h v r) (fun S r => ?_)
  by_cases c0 : T.cnt = 20
  · rw [if_pos (show nI T.cnt = (20 : Int32) by rw [c0]; rfl)]
    exact pr_16 h v t r (w := 1) (by rw [if_pos (by omega)])
  · rw [if_neg (show ¬ nI T.cnt = (20 : Int32) from fun z => c0 ((nI_eq (b := 20) (by omega) (by decide)).mp z))]
    exact pr_16 h v t r (w := 0) (by rw [if_neg (by omega)])
end PP
