/-! WHAT STAYS: outside the addresses from lo to hi -/
def fr (lo hi : Nat) (S S1 : pq_N) : Prop := ∀ b, (b < lo ∨ hi ≤ b) → S1.1 b = S.1 b ∧ S1.2 b = S.2 b
theorem fr_rfl {lo hi : Nat} {S : pq_N} : fr lo hi S S := fun b _ => ⟨rfl, rfl⟩
theorem fr_tr {lo hi : Nat} {S S1 S2 : pq_N} (h : fr lo hi S S1) (h' : fr lo hi S1 S2) : fr lo hi S S2 := fun b hb => ⟨(h' b hb).1.trans (h b hb).1, (h' b hb).2.trans (h b hb).2⟩
theorem fr_mo {lo hi lo' hi' : Nat} {S S1 : pq_N} (h : fr lo hi S S1) (h1 : lo' ≤ lo) (h2 : hi ≤ hi') : fr lo' hi' S S1 := fun b hb => h b (by omega)
theorem fr_wi {lo hi a k : Nat} {v : Int32} {S : pq_N} (h1 : lo ≤ a) (h2 : a < hi) : fr lo hi S (pq_wi S a k v) := fun b hb => by
  refine ⟨?_, rfl⟩
  have n : b ≠ a := by omega
  exact if_neg n
theorem fr_wj {lo hi a k : Nat} {v : Int64} {S : pq_N} (h1 : lo ≤ a) (h2 : a < hi) : fr lo hi S (pq_wj S a k v) := fun b hb => by
  refine ⟨rfl, ?_⟩
  have n : b ≠ a := by omega
  exact if_neg n
theorem wi_s {S : pq_N} {a k : Nat} {v : Int32} : (pq_wi S a k v).1 a k = v := by
  show (if a = a then upd (S.1 a) k v else _) k = v
  rw [if_pos rfl]; exact pk_us
theorem wi_k {S : pq_N} {a k j : Nat} {v : Int32} (h : j ≠ k) : (pq_wi S a k v).1 a j = S.1 a j := by
  show (if a = a then upd (S.1 a) k v else _) j = _
  rw [if_pos rfl]; exact pk_un h
theorem wi_a {S : pq_N} {a b k : Nat} {v : Int32} (h : b ≠ a) : (pq_wi S a k v).1 b = S.1 b := by
  exact if_neg h
theorem wi_2 {S : pq_N} {a k : Nat} {v : Int32} : (pq_wi S a k v).2 = S.2 := rfl
theorem wj_s {S : pq_N} {a k : Nat} {v : Int64} : (pq_wj S a k v).2 a k = v := by
  show (if a = a then vp_updL (S.2 a) k v else _) k = v
  rw [if_pos rfl]; exact pk_uLs
theorem wj_k {S : pq_N} {a k j : Nat} {v : Int64} (h : j ≠ k) : (pq_wj S a k v).2 a j = S.2 a j := by
  show (if a = a then vp_updL (S.2 a) k v else _) j = _
  rw [if_pos rfl]; exact pk_uLn h
theorem wj_a {S : pq_N} {a b k : Nat} {v : Int64} (h : b ≠ a) : (pq_wj S a k v).2 b = S.2 b := by
  exact if_neg h
theorem wj_1 {S : pq_N} {a k : Nat} {v : Int64} : (pq_wj S a k v).1 = S.1 := rfl
/-! THE PAMPHLETS as they are told -/
def tP : Type := Int32 × Int32 × Nat × Nat × (Nat → Int64) × (Nat → Nat) × (Nat → Nat) × (Nat → Nat)
def tP.au (P : tP) : Int32 := P.1
def tP.pd (P : tP) : Int32 := P.2.1
def tP.wc (P : tP) : Nat := P.2.2.1
def tP.qc (P : tP) : Nat := P.2.2.2.1
def tP.w (P : tP) : Nat → Int64 := P.2.2.2.2.1
def tP.qs (P : tP) : Nat → Nat := P.2.2.2.2.2.1
def tP.qb (P : tP) : Nat → Nat := P.2.2.2.2.2.2.1
def tP.ql (P : tP) : Nat → Nat := P.2.2.2.2.2.2.2
def mP (au pd : Int32) (wc qc : Nat) (w : Nat → Int64) (qs qb ql : Nat → Nat) : tP := (au, pd, wc, qc, w, qs, qb, ql)
def tT : Type := Nat × Int32 × (Nat → tP)
def tT.cnt (T : tT) : Nat := T.1
def tT.day (T : tT) : Int32 := T.2.1
def tT.pm (T : tT) : Nat → tP := T.2.2
def mT (cnt : Nat) (day : Int32) (pm : Nat → tP) : tT := (cnt, day, pm)
/-- a pamphlet with the number j -/
def vP (j : Nat) (P : tP) : Prop := 1 ≤ P.wc ∧ P.wc ≤ 60 ∧ P.qc ≤ 16 ∧ ∀ q, q < P.qc → P.qs q < j ∧ 1 ≤ P.ql q ∧ P.qb q + P.ql q ≤ P.wc ∧ ∀ q', q < q' → q' < P.qc → P.qb q + P.ql q ≤ P.qb q'
def vT (T : tT) : Prop := T.cnt ≤ 20 ∧ ∀ j, j < T.cnt → vP j (T.pm j)
/-- the pamphlet at p is P -/
def rP (S : pq_N) (p : Nat) (P : tP) : Prop := S.1 p 4 = P.au ∧ S.1 p 5 = P.pd ∧ S.1 p 6 = nI P.wc ∧ S.1 p 7 = nI P.qc ∧ (∀ j, j < P.wc → S.2 (p + 2) j = P.w j) ∧ (∀ q, q < P.qc → S.2 (p + 4) q = lN (P.qs q)) ∧ (∀ q, q < P.qc → S.2 (p + 6) q = lN (P.qb q)) ∧ ∀ q, q < P.qc → S.2 (p + 8) q = lN (P.ql q)
/-- the state at a is T; its pamphlets are at pp j -/
def rS (S : pq_N) (x i : Nat) (T : tT) : Prop := S.1 (sh_s x i) 2 = nI T.cnt ∧ S.1 (sh_s x i) 3 = T.day ∧ ∀ j, j < T.cnt → rP S (sh_p x i j) (T.pm j)
theorem sh_pb {x i j : Nat} (hi : i < 7) (hj : j < 20) : x + 11 < sh_p x i j ∧ sh_p x i j + 8 < x + 1340 := by
  unfold sh_p sh_s
  split <;> omega
theorem sh_sb {x i : Nat} (hi : i < 7) : x + 1 ≤ sh_s x i ∧ sh_s x i + 191 ≤ x + 1340 := by
  unfold sh_s
  split <;> omega
theorem rP_fr {lo hi p : Nat} {S S1 : pq_N} {P : tP} (h : fr lo hi S S1) (hp : p + 9 ≤ lo ∨ hi ≤ p) (r : rP S p P) : rP S1 p P := by
  obtain ⟨r1, r2, r3, r4, r5, r6, r7, r8⟩ := r
  have e0 := (h p (by omega)).1
  have e2 := (h (p + 2) (by omega)).2
  have e4 := (h (p + 4) (by omega)).2
  have e6 := (h (p + 6) (by omega)).2
  have e8 := (h (p + 8) (by omega)).2
  unfold rP
  rw [e0, e2, e4, e6, e8]
  exact ⟨r1, r2, r3, r4, r5, r6, r7, r8⟩
theorem rS_fr {lo hi x i : Nat} {S S1 : pq_N} {T : tT} (h : fr lo hi S S1) (hi7 : i < 7) (hc : T.cnt ≤ 20) (hp : sh_s x i + 191 ≤ lo ∨ hi ≤ sh_s x i) (r : rS S x i T) : rS S1 x i T := by
  obtain ⟨r1, r2, r3⟩ := r
  have e0 := (h (sh_s x i) (by omega)).1
  unfold rS
  rw [e0]
  refine ⟨r1, r2, fun j hj => rP_fr h ?_ (r3 j hj)⟩
  unfold sh_p
  omega
/-! reading a pamphlet's rows -/
section RD
variable {G : pq_G} {S : pq_N} {x p j : Nat}
theorem sh_Pp (h : sh_G G x) (hp : pq_ok G 4 p) : (pq_r G p 0 = p + 1 ∧ pq_r G p 1 = p + 3 ∧ pq_r G p 2 = p + 5 ∧ pq_r G p 3 = p + 7) ∧ sh_R G (p + 1) 60 ∧ sh_R G (p + 3) 16 ∧ sh_R G (p + 5) 16 ∧ sh_R G (p + 7) 16 := h.2.2.2.2.1 p hp
theorem f_word (h : sh_G G x) (hp : pq_ok G 4 p) (hj : j < 60) : F_X7_at G S (pq_r G p 0) (nI j) = some (S.2 (p + 2) j, S) := by
  have k := sh_Pp h hp
  rw [k.1.1, f_at k.2.1 hj (by omega)]
theorem f_pword {v : Int64} (h : sh_G G x) (hp : pq_ok G 4 p) (hj : j < 60) : F_X7_put G S (pq_r G p 0) (nI j) v = some ((), pq_wj S (p + 2) j v) := by
  have k := sh_Pp h hp
  rw [k.1.1, f_put k.2.1 hj (by omega)]
theorem f_src (h : sh_G G x) (hp : pq_ok G 4 p) (hj : j < 16) : F_X7_number G S (pq_r G p 1) (nI j) = some ((S.2 (p + 4) j).toInt32, S) := by
  have k := sh_Pp h hp
  rw [k.1.2.1, f_number k.2.2.1 hj (by omega)]
theorem f_psrc {v : Int64} (h : sh_G G x) (hp : pq_ok G 4 p) (hj : j < 16) : F_X7_put G S (pq_r G p 1) (nI j) v = some ((), pq_wj S (p + 4) j v) := by
  have k := sh_Pp h hp
  rw [k.1.2.1, f_put k.2.2.1 hj (by omega)]
theorem f_beg (h : sh_G G x) (hp : pq_ok G 4 p) (hj : j < 16) : F_X7_number G S (pq_r G p 2) (nI j) = some ((S.2 (p + 6) j).toInt32, S) := by
  have k := sh_Pp h hp
  rw [k.1.2.2.1, f_number k.2.2.2.1 hj (by omega)]
theorem f_pbeg {v : Int64} (h : sh_G G x) (hp : pq_ok G 4 p) (hj : j < 16) : F_X7_put G S (pq_r G p 2) (nI j) v = some ((), pq_wj S (p + 6) j v) := by
  have k := sh_Pp h hp
  rw [k.1.2.2.1, f_put k.2.2.2.1 hj (by omega)]
theorem f_len (h : sh_G G x) (hp : pq_ok G 4 p) (hj : j < 16) : F_X7_number G S (pq_r G p 3) (nI j) = some ((S.2 (p + 8) j).toInt32, S) := by
  have k := sh_Pp h hp
  rw [k.1.2.2.2, f_number k.2.2.2.2 hj (by omega)]
theorem f_plen {v : Int64} (h : sh_G G x) (hp : pq_ok G 4 p) (hj : j < 16) : F_X7_put G S (pq_r G p 3) (nI j) v = some ((), pq_wj S (p + 8) j v) := by
  have k := sh_Pp h hp
  rw [k.1.2.2.2, f_put k.2.2.2.2 hj (by omega)]
theorem sh_se (h : sh_G G x) : pq_r G (x + 1353) 0 = x + 1354 ∧ pq_r G (x + 1354) 0 = x + 1355 ∧ sh_R G (x + 1355) 61 := h.2.2.2.2.2.1.2.2.1
theorem f_cell (h : sh_G G x) (hj : j < 61) : F_X7_number G S (pq_r G (x + 1354) 0) (nI j) = some ((S.2 (x + 1356) j).toInt32, S) := by
  have k := sh_se h
  rw [k.2.1, f_number k.2.2 hj (by omega)]
theorem f_pcell {v : Int64} (h : sh_G G x) (hj : j < 61) : F_X7_put G S (pq_r G (x + 1354) 0) (nI j) v = some ((), pq_wj S (x + 1356) j v) := by
  have k := sh_se h
  rw [k.2.1, f_put k.2.2 hj (by omega)]
variable {P : tP}
theorem g_src (h : sh_G G x) (hp : pq_ok G 4 p) (r : rP S p P) (hc : P.qc ≤ 16) (hj : j < P.qc) : F_X7_number G S (pq_r G p 1) (nI j) = some (nI (P.qs j), S) := by
  rw [f_src h hp (by omega), r.2.2.2.2.2.1 j hj, lN_i]
theorem g_beg (h : sh_G G x) (hp : pq_ok G 4 p) (r : rP S p P) (hc : P.qc ≤ 16) (hj : j < P.qc) : F_X7_number G S (pq_r G p 2) (nI j) = some (nI (P.qb j), S) := by
  rw [f_beg h hp (by omega), r.2.2.2.2.2.2.1 j hj, lN_i]
theorem g_len (h : sh_G G x) (hp : pq_ok G 4 p) (r : rP S p P) (hc : P.qc ≤ 16) (hj : j < P.qc) : F_X7_number G S (pq_r G p 3) (nI j) = some (nI (P.ql j), S) := by
  rw [f_len h hp (by omega), r.2.2.2.2.2.2.2 j hj, lN_i]
theorem g_word (h : sh_G G x) (hp : pq_ok G 4 p) (r : rP S p P) (hc : P.wc ≤ 60) (hj : j < P.wc) : F_X7_at G S (pq_r G p 0) (nI j) = some (P.w j, S) := by
  rw [f_word h hp (by omega), r.2.2.2.2.1 j hj]
end RD
/-! numbers -/
theorem i_lit (n : Nat) : (@OfNat.ofNat Int32 n Int32.instOfNat) = nI (OfNat.ofNat n) := rfl
theorem nI_div {a b : Nat} (ha : a < 2147483648) (hb : b < 2147483648) : nI a / nI b = nI (a / b) := by
  apply Int32.toInt_inj.mp
  have hq : a / b ≤ a := Nat.div_le_self a b
  have e : ((a : Int).tdiv (b : Int)) = ((a / b : Nat) : Int) := rfl
  rw [Int32.toInt_div, nI_toInt ha, nI_toInt hb, nI_toInt (by omega), e]
  rw [Int.bmod_eq_of_le (by generalize a / b = c at *; omega) (by generalize a / b = c at *; omega)]
theorem nI_sub {a b : Nat} (h : b ≤ a) : nI a - nI b = nI (a - b) := by
  obtain ⟨c, rfl⟩ : ∃ c, a = c + b := ⟨a - b, by omega⟩
  rw [← nI_add, Nat.add_sub_cancel, Int32.add_sub_cancel]
theorem nI_mul (a b : Nat) : nI a * nI b = nI (a * b) := (Int32.ofNat_mul a b).symm
theorem nI_mod {a b : Nat} (ha : a < 2147483648) (hb : b < 2147483648) : nI a - nI a / nI b * nI b = nI (a % b) := by
  have e : b * (a / b) + a % b = a := Nat.div_add_mod a b
  rw [nI_div ha hb, nI_mul, nI_sub (by rw [Nat.mul_comm]; omega)]
  congr 1
  rw [Nat.mul_comm]; omega
theorem if_eqI {α : Type} {a b : Nat} {u v : α} (ha : a < 2147483648) (hb : b < 2147483648) : (if nI a = nI b then u else v) = if a = b then u else v := by
  by_cases c : a = b
  · rw [if_pos c, if_pos (by rw [c])]
  · rw [if_neg c, if_neg (fun z => c ((nI_eq ha hb).mp z))]
theorem if_ltI {α : Type} {a b : Nat} {u v : α} (ha : a < 2147483648) (hb : b < 2147483648) : (if nI a < nI b then u else v) = if a < b then u else v := by
  by_cases c : a < b
  · rw [if_pos c, if_pos ((nI_ltI ha hb).mpr c)]
  · rw [if_neg c, if_neg (fun z => c ((nI_ltI ha hb).mp z))]
theorem if_leI {α : Type} {a b : Nat} {u v : α} (ha : a < 2147483648) (hb : b < 2147483648) : (if nI a ≤ nI b then u else v) = if a ≤ b then u else v := by
  by_cases c : a ≤ b
  · rw [if_pos c, if_pos ((nI_leI ha hb).mpr c)]
  · rw [if_neg c, if_neg (fun z => c ((nI_leI ha hb).mp z))]
