/-! THE REFERENCE: what its rows hold -/
def rAP (f : Nat → Int32) (w : Nat → Int64) (p : Nat) (P : tP) : Prop := f (52 * p + 2) = P.au ∧ f (52 * p + 3) = P.pd ∧ f (52 * p + 4) = nI P.wc ∧ f (52 * p + 5) = nI P.qc ∧ (∀ j, j < P.wc → w (60 * p + j) = P.w j) ∧ ∀ q, q < P.qc → f (52 * p + (6 + 3 * q)) = nI (P.qs q) ∧ f (52 * p + (6 + 3 * q + 1)) = nI (P.qb q) ∧ f (52 * p + (6 + 3 * q + 2)) = nI (P.ql q)
def rA (f : Nat → Int32) (w : Nat → Int64) (T : tT) : Prop := f 0 = T.day ∧ f 1 = nI T.cnt ∧ ∀ p, p < T.cnt → rAP f w p (T.pm p)
theorem rAP_cg {f f' : Nat → Int32} {w w' : Nat → Int64} {p : Nat} {P : tP} (hp : p < 20) (hw : P.wc ≤ 60) (hq : P.qc ≤ 16) (e1 : ∀ j, 52 * p + 2 ≤ j → j < 52 * p + 54 → f' j = f j) (e2 : ∀ j, 60 * p ≤ j → j < 60 * p + 60 → w' j = w j) (r : rAP f w p P) : rAP f' w' p P := by
  obtain ⟨r1, r2, r3, r4, r5, r6⟩ := r
  refine ⟨by rw [e1 _ (by omega) (by omega)]; exact r1, by rw [e1 _ (by omega) (by omega)]; exact r2, by rw [e1 _ (by omega) (by omega)]; exact r3, by rw [e1 _ (by omega) (by omega)]; exact r4, fun j hj => by rw [e2 _ (by omega) (by omega)]; exact r5 j hj, fun q hq => ?_⟩
  have k := r6 q hq
  exact ⟨by rw [e1 _ (by omega) (by omega)]; exact k.1, by rw [e1 _ (by omega) (by omega)]; exact k.2.1, by rw [e1 _ (by omega) (by omega)]; exact k.2.2⟩
theorem rA_cg {f f' : Nat → Int32} {w w' : Nat → Int64} {T : tT} (v : vT T) (e1 : ∀ j, j < 1042 → f' j = f j) (e2 : ∀ j, j < 1200 → w' j = w j) (r : rA f w T) : rA f' w' T := by
  obtain ⟨r1, r2, r3⟩ := r
  refine ⟨by rw [e1 _ (by omega)]; exact r1, by rw [e1 _ (by omega)]; exact r2, fun p hp => ?_⟩
  have h20 := v20 v hp
  exact rAP_cg h20 (v60 v hp) (v16 v hp) (fun j h1 h2 => e1 j (by omega)) (fun j h1 h2 => e2 j (by omega)) (r3 p hp)
/-- the reference holds the world -/
def rD (S : pq_N) (x : Nat) : tW → Prop
  | (T, n, H, g, N, len, c) => rA (S.1 (x + 1366)) (S.2 (x + 1367)) T ∧ S.1 (x + 1365) 4 = nI n ∧ (∀ k, k < n → rA (fun j => S.1 (x + 1368) (1042 * k + j)) (fun j => S.2 (x + 1369) (1200 * k + j)) (H k)) ∧ S.1 (x + 1365) 5 = nI (bN g) ∧ (g = true → rA (fun j => S.1 (x + 1368) (1042 * 5 + j)) (fun j => S.2 (x + 1369) (1200 * 5 + j)) N) ∧ S.1 (x + 1365) 7 = nI len ∧ ∀ j, j < len → S.1 (x + 1370) j = nI (c j)
/-- what stays when the reference only looks for passages or reads: rows of states and texts, and its fields but 9 .. 16 -/
def fm (x : Nat) (S S1 : pq_N) : Prop := (∀ b, b ≠ x + 1365 → (b < x + 1371 ∨ x + 1376 ≤ b) → S1.1 b = S.1 b ∧ S1.2 b = S.2 b) ∧ ∀ k, (k < 9 ∨ 17 ≤ k) → S1.1 (x + 1365) k = S.1 (x + 1365) k
theorem fm_rfl {x : Nat} {S : pq_N} : fm x S S := ⟨fun _ _ _ => ⟨rfl, rfl⟩, fun _ _ => rfl⟩
theorem fm_tr {x : Nat} {S S1 S2 : pq_N} (h : fm x S S1) (h' : fm x S1 S2) : fm x S S2 := ⟨fun b h1 h2 => ⟨(h'.1 b h1 h2).1.trans (h.1 b h1 h2).1, (h'.1 b h1 h2).2.trans (h.1 b h1 h2).2⟩, fun k hk => (h'.2 k hk).trans (h.2 k hk)⟩
theorem fm_wf {x k : Nat} {v : Int32} {S : pq_N} (hk : ¬ (k < 9 ∨ 17 ≤ k)) : fm x S (pq_wi S (x + 1365) k v) := ⟨fun b h1 h2 => ⟨wi_a h1, rfl⟩, fun j hj => wi_k (fun z => hk (z ▸ hj))⟩
theorem fm_wi {x a k : Nat} {v : Int32} {S : pq_N} (h1 : x + 1371 ≤ a) (h2 : a < x + 1376) : fm x S (pq_wi S a k v) := ⟨fun b g1 g2 => ⟨wi_a (by omega), rfl⟩, fun j hj => by rw [wi_a (by omega)]⟩
theorem fm_wj {x a k : Nat} {v : Int64} {S : pq_N} (h1 : x + 1371 ≤ a) (h2 : a < x + 1376) : fm x S (pq_wj S a k v) := ⟨fun b g1 g2 => ⟨rfl, wj_a (by omega)⟩, fun j hj => rfl⟩
/-- the same, but its fields 4, 5, 7, 8 alone -/
def fn_ (x : Nat) (S S1 : pq_N) : Prop := (∀ b, b ≠ x + 1365 → (b < x + 1371 ∨ x + 1376 ≤ b) → S1.1 b = S.1 b ∧ S1.2 b = S.2 b) ∧ ∀ k, (k = 4 ∨ k = 5 ∨ k = 7 ∨ k = 8) → S1.1 (x + 1365) k = S.1 (x + 1365) k
theorem fn_of {x : Nat} {S S1 : pq_N} (h : fm x S S1) : fn_ x S S1 := ⟨h.1, fun k hk => h.2 k (by omega)⟩
theorem fn_rfl {x : Nat} {S : pq_N} : fn_ x S S := fn_of fm_rfl
theorem fn_tr {x : Nat} {S S1 S2 : pq_N} (h : fn_ x S S1) (h' : fn_ x S1 S2) : fn_ x S S2 := ⟨fun b h1 h2 => ⟨(h'.1 b h1 h2).1.trans (h.1 b h1 h2).1, (h'.1 b h1 h2).2.trans (h.1 b h1 h2).2⟩, fun k hk => (h'.2 k hk).trans (h.2 k hk)⟩
theorem fn_wf {x k : Nat} {v : Int32} {S : pq_N} (hk : ¬ (k = 4 ∨ k = 5 ∨ k = 7 ∨ k = 8)) : fn_ x S (pq_wi S (x + 1365) k v) := ⟨fun b h1 h2 => ⟨wi_a h1, rfl⟩, fun j hj => wi_k (fun z => hk (z ▸ hj))⟩
theorem fn_wi {x a k : Nat} {v : Int32} {S : pq_N} (h1 : x + 1371 ≤ a) (h2 : a < x + 1376) : fn_ x S (pq_wi S a k v) := fn_of (fm_wi h1 h2)
theorem fn_wj {x a k : Nat} {v : Int64} {S : pq_N} (h1 : x + 1371 ≤ a) (h2 : a < x + 1376) : fn_ x S (pq_wj S a k v) := fn_of (fm_wj h1 h2)
theorem fn_rA {x : Nat} {T : tT} {S S1 : pq_N} (f : fn_ x S S1) (r : rA (S.1 (x + 1366)) (S.2 (x + 1367)) T) : rA (S1.1 (x + 1366)) (S1.2 (x + 1367)) T := by
  rw [(f.1 (x + 1366) (by omega) (by omega)).1, (f.1 (x + 1367) (by omega) (by omega)).2]; exact r
theorem fn_rD {x : Nat} {S S1 : pq_N} {W : tW} (f : fn_ x S S1) (r : rD S x W) : rD S1 x W := by
  obtain ⟨T, n, H, g, N, len, c⟩ := W
  obtain ⟨r1, r2, r3, r4, r5, r6, r7⟩ := r
  refine ⟨fn_rA f r1, by rw [f.2 4 (by omega)]; exact r2, ?_, by rw [f.2 5 (by omega)]; exact r4, ?_, by rw [f.2 7 (by omega)]; exact r6, ?_⟩
  · rw [(f.1 (x + 1368) (by omega) (by omega)).1, (f.1 (x + 1369) (by omega) (by omega)).2]; exact r3
  · rw [(f.1 (x + 1368) (by omega) (by omega)).1, (f.1 (x + 1369) (by omega) (by omega)).2]; exact r5
  · rw [(f.1 (x + 1370) (by omega) (by omega)).1]; exact r7
theorem in_c {c N : Nat} (h : c < N) (hN : N < 2147483648) : ¬ (nI c < 0 ∨ N ≤ c) := fun z => z.elim (fun z => nI_pos (by omega) z) (fun z => by omega)
section MB
variable {G : pq_G} {x : Nat} {T : tT} {S : pq_N}
theorem fm_rA {S1 : pq_N} (f : fm x S S1) (r : rA (S.1 (x + 1366)) (S.2 (x + 1367)) T) : rA (S1.1 (x + 1366)) (S1.2 (x + 1367)) T := by
  rw [(f.1 (x + 1366) (by omega) (by omega)).1, (f.1 (x + 1367) (by omega) (by omega)).2]; exact r
theorem fm_rD {S1 : pq_N} {W : tW} (f : fm x S S1) (r : rD S x W) : rD S1 x W := by
  obtain ⟨T, n, H, g, N, len, c⟩ := W
  obtain ⟨r1, r2, r3, r4, r5, r6, r7⟩ := r
  refine ⟨fm_rA f r1, by rw [f.2 4 (by omega)]; exact r2, ?_, by rw [f.2 5 (by omega)]; exact r4, ?_, by rw [f.2 7 (by omega)]; exact r6, ?_⟩
  · rw [(f.1 (x + 1368) (by omega) (by omega)).1, (f.1 (x + 1369) (by omega) (by omega)).2]; exact r3
  · rw [(f.1 (x + 1368) (by omega) (by omega)).1, (f.1 (x + 1369) (by omega) (by omega)).2]; exact r5
  · rw [(f.1 (x + 1370) (by omega) (by omega)).1]; exact r7
theorem sh_mo (h : sh_G G x) : (pq_r G (x + 1365) 0 = x + 1366 ∧ pq_n G (x + 1366) = 1042) ∧ (pq_r G (x + 1365) 1 = x + 1367 ∧ pq_n G (x + 1367) = 1200) ∧ (pq_r G (x + 1365) 2 = x + 1368 ∧ pq_n G (x + 1368) = 6252) ∧ (pq_r G (x + 1365) 3 = x + 1369 ∧ pq_n G (x + 1369) = 7200) ∧ (pq_r G (x + 1365) 6 = x + 1370 ∧ pq_n G (x + 1370) = 100) ∧ (pq_r G (x + 1365) 13 = x + 1371 ∧ pq_n G (x + 1371) = 61) ∧ (pq_r G (x + 1365) 19 = x + 1372 ∧ pq_n G (x + 1372) = 20) ∧ (pq_r G (x + 1365) 20 = x + 1373 ∧ pq_n G (x + 1373) = 20) ∧ (pq_r G (x + 1365) 21 = x + 1374 ∧ pq_n G (x + 1374) = 1200) ∧ (pq_r G (x + 1365) 22 = x + 1375 ∧ pq_n G (x + 1375) = 1200) := h.2.2.2.2.2.2.2
theorem m_get {p k : Nat} (h : sh_G G x) (hk : 52 * p + k < 1042) : F_X11_get G S (x + 1365) (nI p) (nI k) = some (S.1 (x + 1366) (52 * p + k), S) := by
  have m := sh_mo h
  unfold F_X11_get
  rw [show (52 : Int32) = nI 52 from rfl, nI_mul, nI_add, m.1.1, m.1.2, if_neg (nI_in hk (by omega)), nI_clamp (by omega)]
theorem m_word {p k : Nat} (h : sh_G G x) (hk : 60 * p + k < 1200) : F_X11_word G S (x + 1365) (nI p) (nI k) = some (S.2 (x + 1367) (60 * p + k), S) := by
  have m := sh_mo h
  unfold F_X11_word
  rw [show (60 : Int32) = nI 60 from rfl, nI_mul, nI_add, m.2.1.1, m.2.1.2, if_neg (nI_in hk (by omega)), nI_clamp (by omega)]
theorem m_many (h : sh_G G x) : pq_r G (x + 1365) 0 = x + 1366 ∧ ¬ ((1 : Int32) < 0 ∨ pq_n G (x + 1366) ≤ Int32.toNatClampNeg (1 : Int32)) ∧ ¬ ((0 : Int32) < 0 ∨ pq_n G (x + 1366) ≤ Int32.toNatClampNeg (0 : Int32)) ∧ Int32.toNatClampNeg (1 : Int32) = 1 ∧ Int32.toNatClampNeg (0 : Int32) = 0 := by
  have m := sh_mo h
  refine ⟨m.1.1, ?_, ?_, rfl, rfl⟩
  · rw [m.1.2]; decide
  · rw [m.1.2]; decide
theorem m_wc (h : sh_G G x) (v : vT T) (r : rA (S.1 (x + 1366)) (S.2 (x + 1367)) T) {j : Nat} (hj : j < T.cnt) : F_X11_get G S (x + 1365) (nI j) (4 : Int32) = some (nI (T.pm j).wc, S) := by
  have h20 := v20 v hj
  rw [show (4 : Int32) = nI 4 from rfl, m_get h (by omega), (r.2.2 j hj).2.2.1]
theorem m_qc (h : sh_G G x) (v : vT T) (r : rA (S.1 (x + 1366)) (S.2 (x + 1367)) T) {j : Nat} (hj : j < T.cnt) : F_X11_get G S (x + 1365) (nI j) (5 : Int32) = some (nI (T.pm j).qc, S) := by
  have h20 := v20 v hj
  rw [show (5 : Int32) = nI 5 from rfl, m_get h (by omega), (r.2.2 j hj).2.2.2.1]
theorem m_au (h : sh_G G x) (v : vT T) (r : rA (S.1 (x + 1366)) (S.2 (x + 1367)) T) {j : Nat} (hj : j < T.cnt) : F_X11_get G S (x + 1365) (nI j) (2 : Int32) = some ((T.pm j).au, S) := by
  have h20 := v20 v hj
  rw [show (2 : Int32) = nI 2 from rfl, m_get h (by omega), (r.2.2 j hj).1]
theorem m_pd (h : sh_G G x) (v : vT T) (r : rA (S.1 (x + 1366)) (S.2 (x + 1367)) T) {j : Nat} (hj : j < T.cnt) : F_X11_get G S (x + 1365) (nI j) (3 : Int32) = some ((T.pm j).pd, S) := by
  have h20 := v20 v hj
  rw [show (3 : Int32) = nI 3 from rfl, m_get h (by omega), (r.2.2 j hj).2.1]
theorem m_source (h : sh_G G x) (v : vT T) (r : rA (S.1 (x + 1366)) (S.2 (x + 1367)) T) {j q : Nat} (hj : j < T.cnt) (hq : q < (T.pm j).qc) : F_X11_source G S (x + 1365) (nI j) (nI q) = some (nI (zs T j q), S) := by
  have g := vq v hj hq
  unfold F_X11_source
  rw [show (6 : Int32) = nI 6 from rfl, show (3 : Int32) = nI 3 from rfl, nI_mul, nI_add, m_get h (by omega), pq_bd1 rfl, ((r.2.2 j hj).2.2.2.2.2 q hq).1]
  rfl
theorem m_begin (h : sh_G G x) (v : vT T) (r : rA (S.1 (x + 1366)) (S.2 (x + 1367)) T) {j q : Nat} (hj : j < T.cnt) (hq : q < (T.pm j).qc) : F_X11_begin G S (x + 1365) (nI j) (nI q) = some (nI ((T.pm j).qb q), S) := by
  have g := vq v hj hq
  unfold F_X11_begin
  rw [show (6 : Int32) = nI 6 from rfl, show (3 : Int32) = nI 3 from rfl, nI_mul, nI_add, nI_1, m_get h (by omega), pq_bd1 rfl, ((r.2.2 j hj).2.2.2.2.2 q hq).2.1]
theorem m_size (h : sh_G G x) (v : vT T) (r : rA (S.1 (x + 1366)) (S.2 (x + 1367)) T) {j q : Nat} (hj : j < T.cnt) (hq : q < (T.pm j).qc) : F_X11_size G S (x + 1365) (nI j) (nI q) = some (nI ((T.pm j).ql q), S) := by
  have g := vq v hj hq
  unfold F_X11_size
  rw [show (6 : Int32) = nI 6 from rfl, show (3 : Int32) = nI 3 from rfl, show (2 : Int32) = nI 2 from rfl, nI_mul, nI_add, nI_add, m_get h (by omega), pq_bd1 rfl, ((r.2.2 j hj).2.2.2.2.2 q hq).2.2]
theorem m_wat (h : sh_G G x) (v : vT T) (r : rA (S.1 (x + 1366)) (S.2 (x + 1367)) T) {j k : Nat} (hj : j < T.cnt) (hk : k < (T.pm j).wc) : F_X11_word G S (x + 1365) (nI j) (nI k) = some ((T.pm j).w k, S) := by
  have h20 := v20 v hj
  have h60 := v60 v hj
  rw [m_word h (by omega), (r.2.2 j hj).2.2.2.2.1 k hk]
/-! the column -/
theorem ms_loop' (h : sh_G G x) {m : Nat} (hm : m ≤ 60) : ∀ (r i f : Nat) (S : pq_N), i + r = m + 1 → r < f → (∀ j, j < i → S.1 (x + 1371) j = nI j) →
    ∃ S1, F_X11_start_b2 G f S (x + 1365) (nI m) (nI i) = some ((), S1) ∧ fm x S S1 ∧ (∀ k, S1.1 (x + 1365) k = S.1 (x + 1365) k) ∧ ∀ j, j ≤ m → S1.1 (x + 1371) j = nI j := by
  have hc := (sh_mo h).2.2.2.2.2.1
  intro r
  induction r with
  | zero =>
    intro i f S hir hf hcell
    obtain ⟨f, rfl⟩ : ∃ k, f = k + 1 := ⟨f - 1, by omega⟩
    rw [F_X11_start_b2.eq_2, if_pos (nI_lt (by omega) (by omega))]
    exact ⟨S, rfl, fm_rfl, fun _ => rfl, fun j hj => hcell j (by omega)⟩
  | succ r ih =>
    intro i f S hir hf hcell
    obtain ⟨f, rfl⟩ : ∃ k, f = k + 1 := ⟨f - 1, by omega⟩
    rw [F_X11_start_b2.eq_2, if_neg (nI_nlt (by omega) (by omega)), hc.1, hc.2, if_neg (nI_in (show i < 61 by omega) (by omega)), nI_clamp (by omega), pq_lt1, nI_1]
    have f0 : fm x S (pq_wi S (x + 1371) i (nI i)) := fm_wi (by omega) (by omega)
    obtain ⟨S1, q1, q2, q3, q4⟩ := ih (i + 1) f (pq_wi S (x + 1371) i (nI i)) (by omega) (by omega) (fun j hj => by
      by_cases e : j = i
      · subst e; exact wi_s
      · rw [wi_k e]; exact hcell j (by omega))
    exact ⟨S1, q1, fm_tr f0 q2, fun k => by rw [q3 k, wi_a (by omega)], q4⟩
theorem m_start (h : sh_G G x) {m : Nat} (hm : m ≤ 60) : ∃ S1, F_X11_start G S (x + 1365) (nI m) = some ((), S1) ∧ fm x S S1 ∧ (∀ k, S1.1 (x + 1365) k = S.1 (x + 1365) k) ∧ ∀ j, j ≤ m → S1.1 (x + 1371) j = nI j := ms_loop' h hm (m + 1) 0 pq_fuel S (by omega) (fuel_lt (by omega)) (fun j hj => absurd hj (Nat.not_lt_zero _))
theorem go_loop (h : sh_G G x) (v : vT T) {p q z : Nat} (hp : p < T.cnt) (hq : q < (T.pm p).qc) {f : Nat → Nat} {nx : Int64} (hz : z ≤ 1000) (hf : ∀ j, j ≤ (T.pm p).ql q → f j ≤ 1000) : ∀ (r i n : Nat) (S : pq_N), i + r = (T.pm p).ql q + 1 → 1 ≤ i → r < n → rA (S.1 (x + 1366)) (S.2 (x + 1367)) T → (∀ j, j < i → S.1 (x + 1371) j = nI (al_row 1 z f (fun k => (T.pm p).w ((T.pm p).qb q + k) == nx) j)) → (∀ j, i ≤ j → j ≤ (T.pm p).ql q → S.1 (x + 1371) j = nI (f j)) →
    ∃ S1, F_X11_goOn_b42 G n S (x + 1365) (nI p) (nI q) nx (nI ((T.pm p).ql q)) (nI (f (i - 1))) (nI i) = some ((), S1) ∧ fm x S S1 ∧ (∀ k, S1.1 (x + 1365) k = S.1 (x + 1365) k) ∧ ∀ j, j ≤ (T.pm p).ql q → S1.1 (x + 1371) j = nI (al_row 1 z f (fun k => (T.pm p).w ((T.pm p).qb q + k) == nx) j) := by
  have hc := (sh_mo h).2.2.2.2.2.1
  obtain ⟨g1, g2, g3, g4, g5, g6, g7, g8⟩ := vq v hp hq
  generalize hg : al_row 1 z f (fun k => (T.pm p).w ((T.pm p).qb q + k) == nx) = g
  have hgl : ∀ j, g j ≤ z + j := fun j => by
    have := al_row_le 1 z f (fun k => (T.pm p).w ((T.pm p).qb q + k) == nx) j
    rw [hg] at this; omega
  have hgS : ∀ j, g (j + 1) = min (f j + (if ((T.pm p).w ((T.pm p).qb q + j) == nx) = true then 0 else 1)) (1 + min (f (j + 1)) (g j)) := fun j => by rw [← hg]; rfl
  intro r
  induction r with
  | zero =>
    intro i n S hir hi hn rs hlo hhi
    obtain ⟨n, rfl⟩ : ∃ k, n = k + 1 := ⟨n - 1, by omega⟩
    rw [F_X11_goOn_b42.eq_2, if_pos (nI_lt (by omega) (by omega))]
    exact ⟨S, rfl, fm_rfl, fun _ => rfl, fun j hj => hlo j (by omega)⟩
  | succ r ih =>
    intro i n S hir hi hn rs hlo hhi
    obtain ⟨n, rfl⟩ : ∃ k, n = k + 1 := ⟨n - 1, by omega⟩
    obtain ⟨k, rfl⟩ : ∃ k, i = k + 1 := ⟨i - 1, by omega⟩
    have e2 : F_X11_word G S (x + 1365) (nI p) (nI ((T.pm p).qb q) + nI (k + 1) - 1) = some ((T.pm p).w ((T.pm p).qb q + k), S) := by
      rw [nI_add, nI_sub1 (by omega), show (T.pm p).qb q + (k + 1) - 1 = (T.pm p).qb q + k from by omega, m_wat h v rs hp (by omega)]
    rw [F_X11_goOn_b42.eq_2, if_neg (nI_nlt (by omega) (by omega)), pq_bd1 (m_begin h v rs hp hq), pq_bd1 e2, Nat.add_sub_cancel]
    have lo := hlo k (by omega)
    have hi' := hhi (k + 1) (by omega) (by omega)
    have bg := hgl k
    have bf := hf (k + 1) (by omega)
    have bf0 := hf k (by omega)
    -- the write of one cell
    have fin : ∀ t u : Nat, t ≤ 2000 → u ≤ 2000 → min t (u + 1) = g (k + 1) → ∃ S1, F_X11_goOn_b118 G (F_X11_goOn_b42 G n) S (x + 1365) (nI p) (nI q) nx (nI ((T.pm p).ql q)) (nI (k + 1)) (nI t) (nI u) = some ((), S1) ∧ fm x S S1 ∧ (∀ k, S1.1 (x + 1365) k = S.1 (x + 1365) k) ∧ ∀ j, j ≤ (T.pm p).ql q → S1.1 (x + 1371) j = nI (g j) := by
      intro t u ht hu hm
      have put : ∀ w, w = nI (g (k + 1)) → ∃ S1, F_X11_goOn_b42 G n (pq_wi S (x + 1371) (k + 1) w) (x + 1365) (nI p) (nI q) nx (nI ((T.pm p).ql q)) (nI (f (k + 1))) (nI (k + 1 + 1)) = some ((), S1) ∧ fm x S S1 ∧ (∀ k, S1.1 (x + 1365) k = S.1 (x + 1365) k) ∧ ∀ j, j ≤ (T.pm p).ql q → S1.1 (x + 1371) j = nI (g j) := by
        intro w hw
        have f0 : fm x S (pq_wi S (x + 1371) (k + 1) w) := fm_wi (by omega) (by omega)
        obtain ⟨S1, q1, q2, q3, q4⟩ := ih (k + 1 + 1) n (pq_wi S (x + 1371) (k + 1) w) (by omega) (by omega) (by omega) (fm_rA f0 rs) (fun j hj => by
          by_cases e : j = k + 1
          · rw [e, wi_s, hw]
          · rw [wi_k e]; exact hlo j (by omega)) (fun j h1 h2 => by rw [wi_k (by omega)]; exact hhi j (by omega) h2)
        exact ⟨S1, q1, fm_tr f0 q2, fun k => by rw [q3 k, wi_a (by omega)], q4⟩
      unfold F_X11_goOn_b118
      rw [hc.1, hc.2, nI_clamp (by omega), if_neg (in_c (show k + 1 < 61 by omega) (by omega)), pq_lt1, hi', nI_1, nI_1, if_leI (by omega) (by omega), pq_lt1, pq_lt1]
      by_cases c : u + 1 ≤ t
      · rw [if_pos c, if_neg (in_c (show k + 1 < 61 by omega) (by omega))]
        exact put _ (by rw [← hm, Nat.min_eq_right c])
      · rw [if_neg c, if_neg (in_c (show k + 1 < 61 by omega) (by omega))]
        exact put _ (by rw [← hm, Nat.min_eq_left (by omega)])
    -- the two above
    have mid : ∀ d : Nat, d = (if ((T.pm p).w ((T.pm p).qb q + k) == nx) = true then 0 else 1) → ∃ S1, F_X11_goOn_b77 G (F_X11_goOn_b42 G n) S (x + 1365) (nI p) (nI q) nx (nI ((T.pm p).ql q)) (nI (k + 1)) (nI d) (nI (f k)) = some ((), S1) ∧ fm x S S1 ∧ (∀ k, S1.1 (x + 1365) k = S.1 (x + 1365) k) ∧ ∀ j, j ≤ (T.pm p).ql q → S1.1 (x + 1371) j = nI (g j) := by
      intro d hd
      have hd1 : d ≤ 1 := by rw [hd]; split <;> omega
      have hs := hgS k
      rw [← hd] at hs
      unfold F_X11_goOn_b77
      rw [hc.1, hc.2, nI_pred, nI_clamp (by omega), nI_clamp (by omega), if_neg (in_c (show k + 1 < 61 by omega) (by omega)), if_neg (in_c (show k < 61 by omega) (by omega)), if_neg (in_c (show k < 61 by omega) (by omega)), if_neg (in_c (show k + 1 < 61 by omega) (by omega)), lo, hi', if_leI (by omega) (by omega), nI_add]
      by_cases c : g k ≤ f (k + 1)
      · rw [if_pos c]
        exact fin _ _ (by omega) (by omega) (by rw [hs]; omega)
      · rw [if_neg c]
        exact fin _ _ (by omega) (by omega) (by rw [hs]; omega)
    by_cases c : ((T.pm p).w ((T.pm p).qb q + k) == nx) = true
    · rw [if_pos ((lg_cmp0 _ _).mpr (by simpa using c))]
      exact mid 0 (by rw [if_pos c])
    · rw [if_neg (fun z => c (by simpa using (lg_cmp0 _ _).mp z))]
      exact mid 1 (by rw [if_neg c])
/-- one more word of a source; anew: a passage may begin behind it -/
theorem m_goOn (h : sh_G G x) (v : vT T) {p q : Nat} (hp : p < T.cnt) (hq : q < (T.pm p).qc) {f : Nat → Nat} {nx : Int64} {an : Bool} (hf : ∀ j, j ≤ (T.pm p).ql q → f j ≤ 500) (rs : rA (S.1 (x + 1366)) (S.2 (x + 1367)) T) (hc0 : ∀ j, j ≤ (T.pm p).ql q → S.1 (x + 1371) j = nI (f j)) :
    ∃ S1, F_X11_goOn G S (x + 1365) (nI p) (nI q) nx (nI (bN an)) = some ((), S1) ∧ fm x S S1 ∧ (∀ k, S1.1 (x + 1365) k = S.1 (x + 1365) k) ∧ ∀ j, j ≤ (T.pm p).ql q → S1.1 (x + 1371) j = nI (al_row 1 (if an then 0 else f 0 + 1) f (fun k => (T.pm p).w ((T.pm p).qb q + k) == nx) j) := by
  have hc := (sh_mo h).2.2.2.2.2.1
  obtain ⟨g1, g2, g3, g4, g5, g6, g7, g8⟩ := vq v hp hq
  have h0 := hc0 0 (Nat.zero_le _)
  have b0 := hf 0 (Nat.zero_le _)
  have go : ∀ (z : Nat) (w : Int32), z ≤ 1000 → w = nI z → ∃ S1, F_X11_goOn_b42 G pq_fuel (pq_wi S (x + 1371) 0 w) (x + 1365) (nI p) (nI q) nx (nI ((T.pm p).ql q)) (nI (f 0)) (1 : Int32) = some ((), S1) ∧ fm x S S1 ∧ (∀ k, S1.1 (x + 1365) k = S.1 (x + 1365) k) ∧ ∀ j, j ≤ (T.pm p).ql q → S1.1 (x + 1371) j = nI (al_row 1 z f (fun k => (T.pm p).w ((T.pm p).qb q + k) == nx) j) := by
    intro z w hz hw
    have f0 : fm x S (pq_wi S (x + 1371) 0 w) := fm_wi (by omega) (by omega)
    obtain ⟨S1, q1, q2, q3, q4⟩ := go_loop h v hp hq (z := z) (f := f) (nx := nx) hz (fun j hj => by have := hf j hj; omega) ((T.pm p).ql q) 1 pq_fuel (pq_wi S (x + 1371) 0 w) (by omega) (by omega) (fuel_lt (by omega)) (fm_rA f0 rs) (fun j hj => by
      have : j = 0 := by omega
      subst this
      rw [wi_s, hw]; rfl) (fun j h1 h2 => by rw [wi_k (by omega)]; exact hc0 j h2)
    exact ⟨S1, q1, fm_tr f0 q2, fun k => by rw [q3 k, wi_a (by omega)], q4⟩
  unfold F_X11_goOn
  have hz : ¬ ((0 : Int32) < 0 ∨ 61 ≤ Int32.toNatClampNeg (0 : Int32)) := by decide
  rw [pq_bd1 (m_size h v rs hp hq), hc.1, hc.2]
  simp only [if_neg hz, pq_lt1]
  rw [show Int32.toNatClampNeg (0 : Int32) = 0 from rfl, h0, nI_1]
  cases an with
  | true =>
    rw [if_neg (show ¬ nI (bN true) = 0 by decide), if_pos rfl]
    exact go 0 0 (by omega) rfl
  | false =>
    rw [if_pos (show nI (bN false) = 0 by decide)]
    exact go (f 0 + 1) _ (by omega) rfl
end MB
