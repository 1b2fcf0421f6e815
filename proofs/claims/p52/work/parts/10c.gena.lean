def F_L_arePamphlets_b176 (G : pq_G) (c4 : pq_N → Nat → Int32 → Int32 → Option (Int32 × pq_N)) (c73 : pq_N → Nat → Int32 → Int32 → Int32 → Int32 → Int32 → Int32 → Int32 → Option (Int32 × pq_N)) (S : pq_N) (a0 : Nat) (x1 : Int32) (x2 : Int32) (x3 : Int32) (x4 : Int32) (x5 : Int32) (x7 : Int32) (x8 : Int32) (t0 : Int32) (t1 : Int32) : Option (Int32 × pq_N) := (pq_bd (E_X10_answers G S a0 x2 x7) fun v103 S104 => (if v103 = x8 then c73 S104 a0 x1 x2 x3 x4 x5 (t1 + t0) (x7 + (1 : Int32)) else some ((0 : Int32), S104)))
def F_L_arePamphlets_b157 (G : pq_G) (c4 : pq_N → Nat → Int32 → Int32 → Option (Int32 × pq_N)) (c73 : pq_N → Nat → Int32 → Int32 → Int32 → Int32 → Int32 → Int32 → Int32 → Option (Int32 × pq_N)) (S : pq_N) (a0 : Nat) (x1 : Int32) (x2 : Int32) (x3 : Int32) (x4 : Int32) (x6 : Int32) (x7 : Int32) (x8 : Int32) (t0 : Int32) : Option (Int32 × pq_N) := (if x8 = (0 : Int32) then F_L_arePamphlets_b176 G c4 c73 S a0 x1 x2 x3 x4 t0 x7 x8 (0 : Int32) x6 else (pq_bd (E_X10_laddersOf G S a0 x7) fun v100 S101 => F_L_arePamphlets_b176 G c4 c73 S101 a0 x1 x2 x3 x4 t0 x7 x8 v100 x6))
def F_L_arePamphlets_b88 (G : pq_G) (c4 : pq_N → Nat → Int32 → Int32 → Option (Int32 × pq_N)) (c73 : pq_N → Nat → Int32 → Int32 → Int32 → Int32 → Int32 → Int32 → Int32 → Option (Int32 × pq_N)) : Nat → pq_N → Nat → Int32 → Int32 → Int32 → Int32 → Int32 → Int32 → Int32 → Int32 → Int32 → Option (Int32 × pq_N)
  | 0, _, _, _, _, _, _, _, _, _, _, _ => none
  | n + 1, S, a0, x1, x2, x3, x4, x5, x6, x7, x8, x9 => (pq_bd (E_X10_quotationsOf G S a0 x2) fun v82 S83 => (if v82 ≤ x9 then (if x8 = (0 : Int32) then F_L_arePamphlets_b157 G c4 c73 S83 a0 x1 x2 x3 x4 x6 x7 x8 x5 else (pq_bd (E_X10_ladderOf G S83 a0 x7) fun v87 S88 => (if v87 < x5 then F_L_arePamphlets_b157 G c4 c73 S88 a0 x1 x2 x3 x4 x6 x7 x8 x5 else (pq_bd (E_X10_ladderOf G S88 a0 x7) fun v91 S92 => F_L_arePamphlets_b157 G c4 c73 S92 a0 x1 x2 x3 x4 x6 x7 x8 (v91 + (1 : Int32)))))) else (if x8 = (0 : Int32) then (pq_bd (E_X10_sourceOf G S83 a0 x2 x9) fun v95 S96 => (if v95 = x7 then (F_L_arePamphlets_b88 G c4 c73 n) S96 a0 x1 x2 x3 x4 x5 x6 x7 (1 : Int32) (x9 + (1 : Int32)) else (F_L_arePamphlets_b88 G c4 c73 n) S96 a0 x1 x2 x3 x4 x5 x6 x7 (0 : Int32) (x9 + (1 : Int32)))) else (F_L_arePamphlets_b88 G c4 c73 n) S83 a0 x1 x2 x3 x4 x5 x6 x7 (1 : Int32) (x9 + (1 : Int32)))))
def F_L_arePamphlets_b209 (G : pq_G) (c4 : pq_N → Nat → Int32 → Int32 → Option (Int32 × pq_N)) : Nat → pq_N → Nat → Int32 → Int32 → Int32 → Int32 → Int32 → Int32 → Int32 → Int32 → Option (Int32 × pq_N)
  | 0, _, _, _, _, _, _, _, _, _, _ => none
  | n + 1, S, a0, x1, x2, x3, x4, x5, x6, x7, x8 => (if x7 ≤ x8 then (if x3 < (1 : Int32) then some ((0 : Int32), S) else (if (60 : Int32) < x3 then some ((0 : Int32), S) else (if x4 = x3 then (pq_bd (E_X10_dayOf G S a0 x2) fun v48 S49 => (if v48 < x1 then some ((0 : Int32), S49) else (pq_bd (E_X10_dayOf G S49 a0 x2) fun v52 S53 => (pq_bd (F_X10_day G S53 a0) fun v55 S56 => (if v55 < v52 then some ((0 : Int32), S56) else (pq_bd (E_X10_ladderOf G S56 a0 x2) fun v59 S60 => (if v59 = x5 then (pq_bd (E_X10_laddersOf G S60 a0 x2) fun v63 S64 => (if v63 = x6 then (if x7 < x5 then some ((0 : Int32), S64) else (pq_bd (E_X10_readAt G S64 a0 x2 (x7 - (1 : Int32))) fun v68 S69 => (if v68 = x2 then (pq_bd (E_X10_dayOf G S69 a0 x2) fun v72 S73 => c4 S73 a0 v72 (x2 + (1 : Int32))) else some ((0 : Int32), S69)))) else some ((0 : Int32), S64))) else some ((0 : Int32), S60)))))))) else some ((0 : Int32), S)))) else (pq_bd (E_X10_readAt G S a0 x2 (x8 - (1 : Int32))) fun v75 S76 => (pq_bd (E_X10_readAt G S76 a0 x2 x8) fun v78 S79 => (if v75 < v78 then (F_L_arePamphlets_b209 G c4 n) S79 a0 x1 x2 x3 x4 x5 x6 x7 (x8 + (1 : Int32)) else some ((0 : Int32), S79)))))
def F_L_arePamphlets_b73 (G : pq_G) (c4 : pq_N → Nat → Int32 → Int32 → Option (Int32 × pq_N)) : Nat → pq_N → Nat → Int32 → Int32 → Int32 → Int32 → Int32 → Int32 → Int32 → Option (Int32 × pq_N)
  | 0, _, _, _, _, _, _, _, _, _ => none
  | n + 1, S, a0, x1, x2, x3, x4, x5, x6, x7 => (pq_bd (F_X10_pamphlets G S a0) fun v37 S38 => (if v37 ≤ x7 then (pq_bd (E_X10_readingOf G S38 a0 x2) fun v41 S42 => F_L_arePamphlets_b209 G c4 pq_fuel S42 a0 x1 x2 x3 x4 x5 x6 v41 (1 : Int32)) else F_L_arePamphlets_b88 G c4 ((F_L_arePamphlets_b73 G c4 n)) pq_fuel S38 a0 x1 x2 x3 x4 x5 x6 x7 (0 : Int32) (0 : Int32)))
def F_L_arePamphlets_b42 (G : pq_G) (c4 : pq_N → Nat → Int32 → Int32 → Option (Int32 × pq_N)) : Nat → pq_N → Nat → Int32 → Int32 → Int32 → Int32 → Int32 → Int32 → Int32 → Option (Int32 × pq_N)
  | 0, _, _, _, _, _, _, _, _, _ => none
  | n + 1, S, a0, x1, x2, x3, x4, x5, x6, x7 => (pq_bd (E_X10_pagesOf G S a0 x2) fun v30 S31 => (if v30 ≤ x7 then F_L_arePamphlets_b73 G c4 pq_fuel S31 a0 x1 x2 x3 x4 x5 x6 (0 : Int32) else (pq_bd (E_X10_wordsOn G S31 a0 x2 x7) fun v34 S35 => (F_L_arePamphlets_b42 G c4 n) S35 a0 x1 x2 x3 (x4 + v34) x5 x6 (x7 + (1 : Int32)))))
def F_L_arePamphlets_b4 (G : pq_G)  : Nat → pq_N → Nat → Int32 → Int32 → Option (Int32 × pq_N)
  | 0, _, _, _, _ => none
  | n + 1, S, a0, x1, x2 => (pq_bd (F_X10_pamphlets G S a0) fun v11 S12 => (if v11 ≤ x2 then (pq_bd (F_X10_pamphlets G S12 a0) fun v15 S16 => (if v15 < (0 : Int32) then some ((0 : Int32), S16) else (pq_bd (F_X10_pamphlets G S16 a0) fun v19 S20 => (if (20 : Int32) < v19 then some ((0 : Int32), S20) else some ((1 : Int32), S20))))) else (pq_bd (E_X10_wordsOf G S12 a0 x2) fun v23 S24 => (pq_bd (E_X10_quotationsOf G S24 a0 x2) fun v26 S27 => (if v26 = (0 : Int32) then F_L_arePamphlets_b42 G ((F_L_arePamphlets_b4 G n)) pq_fuel S27 a0 x1 x2 v23 (0 : Int32) (1 : Int32) (1 : Int32) (0 : Int32) else F_L_arePamphlets_b42 G ((F_L_arePamphlets_b4 G n)) pq_fuel S27 a0 x1 x2 v23 (0 : Int32) (1 : Int32) (0 : Int32) (0 : Int32))))))
def F_L_arePamphlets (G : pq_G) (S : pq_N) (a0 : Nat) : Option (Int32 × pq_N) := F_L_arePamphlets_b4 G pq_fuel S a0 (0 : Int32) (0 : Int32)
set_option maxHeartbeats 4000000 in
set_option maxRecDepth 100000 in
theorem r_L_arePamphlets_b176 {p : Program} {l : Launch} {e : Env} {s : State} {m : MethodId} {av : Array Value} {below : List Frame} {meth : Method} {c : Code} {D : va_G} {y : pq_Y} {G : pq_G} {r : Int32} {S1 : pq_N} (W0 : pq_WT G) (C : pq_C p s m av c D y RL wsL_arePamphlets cL_arePamphlets 10) (hr : meth.sig.returnType = (some .boolean)) (hlk : meth.locks = false) {c4 : pq_N → Nat → Int32 → Int32 → Option (Int32 × pq_N)} (hk4 : ∀ (S : pq_N) (a0 : Nat) (x1 : Int32) (x2 : Int32), pq_ok G 10 a0 → c4 S a0 x1 x2 = some (r, S1) → pq_V p l e (headSpec wsL_arePamphlets ({ frames := 4, cells := 0, slots := 0, locals := 91 } : Room)).room s m av below meth c 0 0 (MQ below (pq_Qi D y G s.heap.size r S1) av s 0 0 (pq_A G s.heap.size)) D y 10 (pq_A G s.heap.size) (fun _ => True) G S 4 [(0, .ref a0), (1, .int x1), (2, .int x2)] []) {c73 : pq_N → Nat → Int32 → Int32 → Int32 → Int32 → Int32 → Int32 → Int32 → Option (Int32 × pq_N)} (hk73 : ∀ (S : pq_N) (a0 : Nat) (x1 : Int32) (x2 : Int32) (x3 : Int32) (x4 : Int32) (x5 : Int32) (x6 : Int32) (x7 : Int32), pq_ok G 10 a0 → c73 S a0 x1 x2 x3 x4 x5 x6 x7 = some (r, S1) → pq_V p l e (headSpec wsL_arePamphlets ({ frames := 4, cells := 0, slots := 0, locals := 91 } : Room)).room s m av below meth c 0 0 (MQ below (pq_Qi D y G s.heap.size r S1) av s 0 0 (pq_A G s.heap.size)) D y 10 (pq_A G s.heap.size) (fun _ => True) G S 73 [(0, .ref a0), (1, .int x1), (2, .int x2), (3, .int x3), (4, .int x4), (5, .int x5), (6, .int x6), (7, .int x7)] []) : ∀ (S : pq_N) (a0 : Nat) (x1 : Int32) (x2 : Int32) (x3 : Int32) (x4 : Int32) (x5 : Int32) (x7 : Int32) (x8 : Int32) (t0 : Int32) (t1 : Int32), pq_ok G 10 a0 → F_L_arePamphlets_b176 G c4 c73 S a0 x1 x2 x3 x4 x5 x7 x8 t0 t1 = some (r, S1) → pq_V p l e (headSpec wsL_arePamphlets ({ frames := 4, cells := 0, slots := 0, locals := 91 } : Room)).room s m av below meth c 0 0 (MQ below (pq_Qi D y G s.heap.size r S1) av s 0 0 (pq_A G s.heap.size)) D y 10 (pq_A G s.heap.size) (fun _ => True) G S 176 [(0, .ref a0), (1, .int x1), (2, .int x2), (3, .int x3), (4, .int x4), (5, .int x5), (7, .int x7), (8, .int x8)] [.int t0, .int t1] := by
  intro S a0 x1 x2 x3 x4 x5 x7 x8 t0 t1 k0_ h
  unfold F_L_arePamphlets_b176 at h
  refine pv_iadd C dL_arePamphlets_176 ?_
  refine pv_istore C [(6, .int (t1 + t0)), (0, .ref a0), (1, .int x1), (2, .int x2), (3, .int x3), (4, .int x4), (5, .int x5), (7, .int x7), (8, .int x8)] dL_arePamphlets_177 (by decide) rfl ?_
  refine pv_aload_n C 1 dL_arePamphlets_179 rfl rfl ?_
  refine pv_iload_n C 3 dL_arePamphlets_180 rfl rfl ?_
  refine pv_iload C 7 dL_arePamphlets_181 rfl ?_
  obtain ⟨v103, S104, e105, h⟩ := pq_bs h
  refine pv_calliV C (ci := 10) rfl (by decide) k0_ [.int x2, .int x7] (fun sz => e_X10_answers W0 k0_ e105 sz) (cwV 2 C.1.2.2.2.2 gL_arePamphlets_X10_answers rfl rfl rfl (by decide +kernel) ⟨Nat.le_of_ble_eq_true rfl, Nat.le_of_ble_eq_true rfl⟩) rfl rfl (Nat.le_of_ble_eq_true rfl) dL_arePamphlets_183 ⟨Nat.le_of_ble_eq_true rfl, Nat.le_of_ble_eq_true rfl⟩ ?_
  refine pv_iload C 8 dL_arePamphlets_186 rfl ?_
  refine pv_icmp_eq (tgt := 193) C dL_arePamphlets_188 (by decide) (fun c106 => ?_) (fun c106 => ?_)
  · have h := pq_it c106 h
    refine pv_iinc (v := (x7 + (1 : Int32))) C 7 [(7, .int (x7 + (1 : Int32))), (6, .int (t1 + t0)), (0, .ref a0), (1, .int x1), (2, .int x2), (3, .int x3), (4, .int x4), (5, .int x5), (8, .int x8)] dL_arePamphlets_193 rfl rfl (by decide) rfl ?_
    refine pv_goto (tgt := 73) C dL_arePamphlets_196 (by decide) ?_
    refine pv_sub [2, 3, 4, 5, 6, 7, 1, 0] rfl ?_
    exact hk73 _ _ _ _ _ _ _ _ _ k0_ h
  · have h := pq_if c106 h
    refine pv_iconst (v := 0) C dL_arePamphlets_191 (by decide) ?_
    exact pv_zret C hr rfl hlk h dL_arePamphlets_192
set_option maxHeartbeats 4000000 in
set_option maxRecDepth 100000 in
theorem r_L_arePamphlets_b157 {p : Program} {l : Launch} {e : Env} {s : State} {m : MethodId} {av : Array Value} {below : List Frame} {meth : Method} {c : Code} {D : va_G} {y : pq_Y} {G : pq_G} {r : Int32} {S1 : pq_N} (W0 : pq_WT G) (C : pq_C p s m av c D y RL wsL_arePamphlets cL_arePamphlets 10) (hr : meth.sig.returnType = (some .boolean)) (hlk : meth.locks = false) {c4 : pq_N → Nat → Int32 → Int32 → Option (Int32 × pq_N)} (hk4 : ∀ (S : pq_N) (a0 : Nat) (x1 : Int32) (x2 : Int32), pq_ok G 10 a0 → c4 S a0 x1 x2 = some (r, S1) → pq_V p l e (headSpec wsL_arePamphlets ({ frames := 4, cells := 0, slots := 0, locals := 91 } : Room)).room s m av below meth c 0 0 (MQ below (pq_Qi D y G s.heap.size r S1) av s 0 0 (pq_A G s.heap.size)) D y 10 (pq_A G s.heap.size) (fun _ => True) G S 4 [(0, .ref a0), (1, .int x1), (2, .int x2)] []) {c73 : pq_N → Nat → Int32 → Int32 → Int32 → Int32 → Int32 → Int32 → Int32 → Option (Int32 × pq_N)} (hk73 : ∀ (S : pq_N) (a0 : Nat) (x1 : Int32) (x2 : Int32) (x3 : Int32) (x4 : Int32) (x5 : Int32) (x6 : Int32) (x7 : Int32), pq_ok G 10 a0 → c73 S a0 x1 x2 x3 x4 x5 x6 x7 = some (r, S1) → pq_V p l e (headSpec wsL_arePamphlets ({ frames := 4, cells := 0, slots := 0, locals := 91 } : Room)).room s m av below meth c 0 0 (MQ below (pq_Qi D y G s.heap.size r S1) av s 0 0 (pq_A G s.heap.size)) D y 10 (pq_A G s.heap.size) (fun _ => True) G S 73 [(0, .ref a0), (1, .int x1), (2, .int x2), (3, .int x3), (4, .int x4), (5, .int x5), (6, .int x6), (7, .int x7)] []) : ∀ (S : pq_N) (a0 : Nat) (x1 : Int32) (x2 : Int32) (x3 : Int32) (x4 : Int32) (x6 : Int32) (x7 : Int32) (x8 : Int32) (t0 : Int32), pq_ok G 10 a0 → F_L_arePamphlets_b157 G c4 c73 S a0 x1 x2 x3 x4 x6 x7 x8 t0 = some (r, S1) → pq_V p l e (headSpec wsL_arePamphlets ({ frames := 4, cells := 0, slots := 0, locals := 91 } : Room)).room s m av below meth c 0 0 (MQ below (pq_Qi D y G s.heap.size r S1) av s 0 0 (pq_A G s.heap.size)) D y 10 (pq_A G s.heap.size) (fun _ => True) G S 157 [(0, .ref a0), (1, .int x1), (2, .int x2), (3, .int x3), (4, .int x4), (6, .int x6), (7, .int x7), (8, .int x8)] [.int t0] := by
  intro S a0 x1 x2 x3 x4 x6 x7 x8 t0 k0_ h
  unfold F_L_arePamphlets_b157 at h
  refine pv_istore C [(5, .int t0), (0, .ref a0), (1, .int x1), (2, .int x2), (3, .int x3), (4, .int x4), (6, .int x6), (7, .int x7), (8, .int x8)] dL_arePamphlets_157 (by decide) rfl ?_
  refine pv_iload C 6 dL_arePamphlets_159 rfl ?_
  refine pv_iload C 8 dL_arePamphlets_161 rfl ?_
  refine pv_if_eq (tgt := 175) C dL_arePamphlets_163 (by decide) (fun c99 => ?_) (fun c99 => ?_)
  · have h := pq_it c99 h
    refine pv_iconst (v := 0) C dL_arePamphlets_175 (by decide) ?_
    refine pv_sub [1, 2, 3, 4, 5, 0, 7, 8] rfl ?_
    exact r_L_arePamphlets_b176 W0 C hr hlk hk4 hk73 _ _ _ _ _ _ _ _ _ _ _ k0_ h
  · have h := pq_if c99 h
    refine pv_aload_n C 1 dL_arePamphlets_166 rfl rfl ?_
    refine pv_iload C 7 dL_arePamphlets_167 rfl ?_
    obtain ⟨v100, S101, e102, h⟩ := pq_bs h
    refine pv_calliV C (ci := 10) rfl (by decide) k0_ [.int x7] (fun sz => e_X10_laddersOf W0 k0_ e102 sz) (cwV 1 C.1.2.2.2.2 gL_arePamphlets_X10_laddersOf rfl rfl rfl (by decide +kernel) ⟨Nat.le_of_ble_eq_true rfl, Nat.le_of_ble_eq_true rfl⟩) rfl rfl (Nat.le_of_ble_eq_true rfl) dL_arePamphlets_169 ⟨Nat.le_of_ble_eq_true rfl, Nat.le_of_ble_eq_true rfl⟩ ?_
    refine pv_goto (tgt := 176) C dL_arePamphlets_172 (by decide) ?_
    refine pv_sub [1, 2, 3, 4, 5, 0, 7, 8] rfl ?_
    exact r_L_arePamphlets_b176 W0 C hr hlk hk4 hk73 _ _ _ _ _ _ _ _ _ _ _ k0_ h
set_option maxHeartbeats 4000000 in
set_option maxRecDepth 100000 in
theorem r_L_arePamphlets_b88 {p : Program} {l : Launch} {e : Env} {s : State} {m : MethodId} {av : Array Value} {below : List Frame} {meth : Method} {c : Code} {D : va_G} {y : pq_Y} {G : pq_G} {r : Int32} {S1 : pq_N} (W0 : pq_WT G) (C : pq_C p s m av c D y RL wsL_arePamphlets cL_arePamphlets 10) (hr : meth.sig.returnType = (some .boolean)) (hlk : meth.locks = false) {c4 : pq_N → Nat → Int32 → Int32 → Option (Int32 × pq_N)} (hk4 : ∀ (S : pq_N) (a0 : Nat) (x1 : Int32) (x2 : Int32), pq_ok G 10 a0 → c4 S a0 x1 x2 = some (r, S1) → pq_V p l e (headSpec wsL_arePamphlets ({ frames := 4, cells := 0, slots := 0, locals := 91 } : Room)).room s m av below meth c 0 0 (MQ below (pq_Qi D y G s.heap.size r S1) av s 0 0 (pq_A G s.heap.size)) D y 10 (pq_A G s.heap.size) (fun _ => True) G S 4 [(0, .ref a0), (1, .int x1), (2, .int x2)] []) {c73 : pq_N → Nat → Int32 → Int32 → Int32 → Int32 → Int32 → Int32 → Int32 → Option (Int32 × pq_N)} (hk73 : ∀ (S : pq_N) (a0 : Nat) (x1 : Int32) (x2 : Int32) (x3 : Int32) (x4 : Int32) (x5 : Int32) (x6 : Int32) (x7 : Int32), pq_ok G 10 a0 → c73 S a0 x1 x2 x3 x4 x5 x6 x7 = some (r, S1) → pq_V p l e (headSpec wsL_arePamphlets ({ frames := 4, cells := 0, slots := 0, locals := 91 } : Room)).room s m av below meth c 0 0 (MQ below (pq_Qi D y G s.heap.size r S1) av s 0 0 (pq_A G s.heap.size)) D y 10 (pq_A G s.heap.size) (fun _ => True) G S 73 [(0, .ref a0), (1, .int x1), (2, .int x2), (3, .int x3), (4, .int x4), (5, .int x5), (6, .int x6), (7, .int x7)] []) (n : Nat) : ∀ (S : pq_N) (a0 : Nat) (x1 : Int32) (x2 : Int32) (x3 : Int32) (x4 : Int32) (x5 : Int32) (x6 : Int32) (x7 : Int32) (x8 : Int32) (x9 : Int32), pq_ok G 10 a0 → F_L_arePamphlets_b88 G c4 c73 n S a0 x1 x2 x3 x4 x5 x6 x7 x8 x9 = some (r, S1) → pq_V p l e (headSpec wsL_arePamphlets ({ frames := 4, cells := 0, slots := 0, locals := 91 } : Room)).room s m av below meth c 0 0 (MQ below (pq_Qi D y G s.heap.size r S1) av s 0 0 (pq_A G s.heap.size)) D y 10 (pq_A G s.heap.size) (fun _ => True) G S 88 [(0, .ref a0), (1, .int x1), (2, .int x2), (3, .int x3), (4, .int x4), (5, .int x5), (6, .int x6), (7, .int x7), (8, .int x8), (9, .int x9)] [] := by
  induction n with
  | zero =>
    intro S a0 x1 x2 x3 x4 x5 x6 x7 x8 x9 k0_ h
    rw [F_L_arePamphlets_b88.eq_1] at h; cases h
  | succ n ih =>
    intro S a0 x1 x2 x3 x4 x5 x6 x7 x8 x9 k0_ h
    rw [F_L_arePamphlets_b88.eq_2] at h
    refine pv_iload C 9 dL_arePamphlets_88 rfl ?_
    refine pv_aload_n C 0 dL_arePamphlets_90 rfl rfl ?_
    refine pv_iload_n C 2 dL_arePamphlets_91 rfl rfl ?_
    obtain ⟨v82, S83, e84, h⟩ := pq_bs h
    refine pv_calliV C (ci := 10) rfl (by decide) k0_ [.int x2] (fun sz => e_X10_quotationsOf W0 k0_ e84 sz) (cwV 1 C.1.2.2.2.2 gL_arePamphlets_X10_quotationsOf rfl rfl rfl (by decide +kernel) ⟨Nat.le_of_ble_eq_true rfl, Nat.le_of_ble_eq_true rfl⟩) rfl rfl (Nat.le_of_ble_eq_true rfl) dL_arePamphlets_92 ⟨Nat.le_of_ble_eq_true rfl, Nat.le_of_ble_eq_true rfl⟩ ?_
    refine pv_icmp_ge (tgt := 128) C dL_arePamphlets_95 (by decide) (fun c85 => ?_) (fun c85 => ?_)
    · have h := pq_it c85 h
      refine pv_iload C 8 dL_arePamphlets_128 rfl ?_
      refine pv_if_eq (tgt := 155) C dL_arePamphlets_130 (by decide) (fun c86 => ?_) (fun c86 => ?_)
      · have h := pq_it c86 h
        refine pv_iload C 5 dL_arePamphlets_155 rfl ?_
        refine pv_sub [0, 1, 2, 3, 4, 6, 7, 8] rfl ?_
        exact r_L_arePamphlets_b157 W0 C hr hlk hk4 hk73 _ _ _ _ _ _ _ _ _ _ k0_ h
      · have h := pq_if c86 h
        refine pv_aload_n C 0 dL_arePamphlets_133 rfl rfl ?_
        refine pv_iload C 7 dL_arePamphlets_134 rfl ?_
        obtain ⟨v87, S88, e89, h⟩ := pq_bs h
        refine pv_calliV C (ci := 10) rfl (by decide) k0_ [.int x7] (fun sz => e_X10_ladderOf W0 k0_ e89 sz) (cwV 1 C.1.2.2.2.2 gL_arePamphlets_X10_ladderOf rfl rfl rfl (by decide +kernel) ⟨Nat.le_of_ble_eq_true rfl, Nat.le_of_ble_eq_true rfl⟩) rfl rfl (Nat.le_of_ble_eq_true rfl) dL_arePamphlets_136 ⟨Nat.le_of_ble_eq_true rfl, Nat.le_of_ble_eq_true rfl⟩ ?_
        refine pv_iload C 5 dL_arePamphlets_139 rfl ?_
        refine pv_icmp_lt (tgt := 155) C dL_arePamphlets_141 (by decide) (fun c90 => ?_) (fun c90 => ?_)
        · have h := pq_it c90 h
          refine pv_iload C 5 dL_arePamphlets_155 rfl ?_
          refine pv_sub [0, 1, 2, 3, 4, 6, 7, 8] rfl ?_
          exact r_L_arePamphlets_b157 W0 C hr hlk hk4 hk73 _ _ _ _ _ _ _ _ _ _ k0_ h
        · have h := pq_if c90 h
          refine pv_aload_n C 0 dL_arePamphlets_144 rfl rfl ?_
          refine pv_iload C 7 dL_arePamphlets_145 rfl ?_
          obtain ⟨v91, S92, e93, h⟩ := pq_bs h
          refine pv_calliV C (ci := 10) rfl (by decide) k0_ [.int x7] (fun sz => e_X10_ladderOf W0 k0_ e93 sz) (cwV 1 C.1.2.2.2.2 gL_arePamphlets_X10_ladderOf rfl rfl rfl (by decide +kernel) ⟨Nat.le_of_ble_eq_true rfl, Nat.le_of_ble_eq_true rfl⟩) rfl rfl (Nat.le_of_ble_eq_true rfl) dL_arePamphlets_147 ⟨Nat.le_of_ble_eq_true rfl, Nat.le_of_ble_eq_true rfl⟩ ?_
          refine pv_iconst (v := 1) C dL_arePamphlets_150 (by decide) ?_
          refine pv_iadd C dL_arePamphlets_151 ?_
          refine pv_goto (tgt := 157) C dL_arePamphlets_152 (by decide) ?_
          refine pv_sub [0, 1, 2, 3, 4, 6, 7, 8] rfl ?_
          exact r_L_arePamphlets_b157 W0 C hr hlk hk4 hk73 _ _ _ _ _ _ _ _ _ _ k0_ h
    · have h := pq_if c85 h
      refine pv_iload C 8 dL_arePamphlets_98 rfl ?_
      refine pv_if_ne (tgt := 115) C dL_arePamphlets_100 (by decide) (fun c94 => ?_) (fun c94 => ?_)
      · have h := pq_if c94 h
        refine pv_iconst (v := 1) C dL_arePamphlets_115 (by decide) ?_
        refine pv_goto (tgt := 120) C dL_arePamphlets_116 (by decide) ?_
        refine pv_istore C [(8, .int (1 : Int32)), (0, .ref a0), (1, .int x1), (2, .int x2), (3, .int x3), (4, .int x4), (5, .int x5), (6, .int x6), (7, .int x7), (9, .int x9)] dL_arePamphlets_120 (by decide) rfl ?_
        refine pv_iinc (v := (x9 + (1 : Int32))) C 9 [(9, .int (x9 + (1 : Int32))), (8, .int (1 : Int32)), (0, .ref a0), (1, .int x1), (2, .int x2), (3, .int x3), (4, .int x4), (5, .int x5), (6, .int x6), (7, .int x7)] dL_arePamphlets_122 rfl rfl (by decide) rfl ?_
        refine pv_goto (tgt := 88) C dL_arePamphlets_125 (by decide) ?_
        refine pv_sub [2, 3, 4, 5, 6, 7, 8, 9, 1, 0] rfl ?_
        exact ih _ _ _ _ _ _ _ _ _ _ _ k0_ h
      · have h := pq_it c94 h
        refine pv_aload_n C 0 dL_arePamphlets_103 rfl rfl ?_
        refine pv_iload_n C 2 dL_arePamphlets_104 rfl rfl ?_
        refine pv_iload C 9 dL_arePamphlets_105 rfl ?_
        obtain ⟨v95, S96, e97, h⟩ := pq_bs h
        refine pv_calliV C (ci := 10) rfl (by decide) k0_ [.int x2, .int x9] (fun sz => e_X10_sourceOf W0 k0_ e97 sz) (cwV 2 C.1.2.2.2.2 gL_arePamphlets_X10_sourceOf rfl rfl rfl (by decide +kernel) ⟨Nat.le_of_ble_eq_true rfl, Nat.le_of_ble_eq_true rfl⟩) rfl rfl (Nat.le_of_ble_eq_true rfl) dL_arePamphlets_107 ⟨Nat.le_of_ble_eq_true rfl, Nat.le_of_ble_eq_true rfl⟩ ?_
        refine pv_iload C 7 dL_arePamphlets_110 rfl ?_
        refine pv_icmp_ne (tgt := 119) C dL_arePamphlets_112 (by decide) (fun c98 => ?_) (fun c98 => ?_)
        · have h := pq_if c98 h
          refine pv_iconst (v := 0) C dL_arePamphlets_119 (by decide) ?_
          refine pv_istore C [(8, .int (0 : Int32)), (0, .ref a0), (1, .int x1), (2, .int x2), (3, .int x3), (4, .int x4), (5, .int x5), (6, .int x6), (7, .int x7), (9, .int x9)] dL_arePamphlets_120 (by decide) rfl ?_
          refine pv_iinc (v := (x9 + (1 : Int32))) C 9 [(9, .int (x9 + (1 : Int32))), (8, .int (0 : Int32)), (0, .ref a0), (1, .int x1), (2, .int x2), (3, .int x3), (4, .int x4), (5, .int x5), (6, .int x6), (7, .int x7)] dL_arePamphlets_122 rfl rfl (by decide) rfl ?_
          refine pv_goto (tgt := 88) C dL_arePamphlets_125 (by decide) ?_
          refine pv_sub [2, 3, 4, 5, 6, 7, 8, 9, 1, 0] rfl ?_
          exact ih _ _ _ _ _ _ _ _ _ _ _ k0_ h
        · have h := pq_it c98 h
          refine pv_iconst (v := 1) C dL_arePamphlets_115 (by decide) ?_
          refine pv_goto (tgt := 120) C dL_arePamphlets_116 (by decide) ?_
          refine pv_istore C [(8, .int (1 : Int32)), (0, .ref a0), (1, .int x1), (2, .int x2), (3, .int x3), (4, .int x4), (5, .int x5), (6, .int x6), (7, .int x7), (9, .int x9)] dL_arePamphlets_120 (by decide) rfl ?_
          refine pv_iinc (v := (x9 + (1 : Int32))) C 9 [(9, .int (x9 + (1 : Int32))), (8, .int (1 : Int32)), (0, .ref a0), (1, .int x1), (2, .int x2), (3, .int x3), (4, .int x4), (5, .int x5), (6, .int x6), (7, .int x7)] dL_arePamphlets_122 rfl rfl (by decide) rfl ?_
          refine pv_goto (tgt := 88) C dL_arePamphlets_125 (by decide) ?_
          refine pv_sub [2, 3, 4, 5, 6, 7, 8, 9, 1, 0] rfl ?_
          exact ih _ _ _ _ _ _ _ _ _ _ _ k0_ h
set_option maxHeartbeats 4000000 in
set_option maxRecDepth 100000 in
theorem r_L_arePamphlets_b209 {p : Program} {l : Launch} {e : Env} {s : State} {m : MethodId} {av : Array Value} {below : List Frame} {meth : Method} {c : Code} {D : va_G} {y : pq_Y} {G : pq_G} {r : Int32} {S1 : pq_N} (W0 : pq_WT G) (C : pq_C p s m av c D y RL wsL_arePamphlets cL_arePamphlets 10) (hr : meth.sig.returnType = (some .boolean)) (hlk : meth.locks = false) {c4 : pq_N → Nat → Int32 → Int32 → Option (Int32 × pq_N)} (hk4 : ∀ (S : pq_N) (a0 : Nat) (x1 : Int32) (x2 : Int32), pq_ok G 10 a0 → c4 S a0 x1 x2 = some (r, S1) → pq_V p l e (headSpec wsL_arePamphlets ({ frames := 4, cells := 0, slots := 0, locals := 91 } : Room)).room s m av below meth c 0 0 (MQ below (pq_Qi D y G s.heap.size r S1) av s 0 0 (pq_A G s.heap.size)) D y 10 (pq_A G s.heap.size) (fun _ => True) G S 4 [(0, .ref a0), (1, .int x1), (2, .int x2)] []) (n : Nat) : ∀ (S : pq_N) (a0 : Nat) (x1 : Int32) (x2 : Int32) (x3 : Int32) (x4 : Int32) (x5 : Int32) (x6 : Int32) (x7 : Int32) (x8 : Int32), pq_ok G 10 a0 → F_L_arePamphlets_b209 G c4 n S a0 x1 x2 x3 x4 x5 x6 x7 x8 = some (r, S1) → pq_V p l e (headSpec wsL_arePamphlets ({ frames := 4, cells := 0, slots := 0, locals := 91 } : Room)).room s m av below meth c 0 0 (MQ below (pq_Qi D y G s.heap.size r S1) av s 0 0 (pq_A G s.heap.size)) D y 10 (pq_A G s.heap.size) (fun _ => True) G S 209 [(0, .ref a0), (1, .int x1), (2, .int x2), (3, .int x3), (4, .int x4), (5, .int x5), (6, .int x6), (7, .int x7), (8, .int x8)] [] := by
  induction n with
  | zero =>
    intro S a0 x1 x2 x3 x4 x5 x6 x7 x8 k0_ h
    rw [F_L_arePamphlets_b209.eq_1] at h; cases h
  | succ n ih =>
    intro S a0 x1 x2 x3 x4 x5 x6 x7 x8 k0_ h
    rw [F_L_arePamphlets_b209.eq_2] at h
    refine pv_iload C 8 dL_arePamphlets_209 rfl ?_
    refine pv_iload C 7 dL_arePamphlets_211 rfl ?_
    refine pv_icmp_ge (tgt := 243) C dL_arePamphlets_213 (by decide) (fun c44 => ?_) (fun c44 => ?_)
    · have h := pq_it c44 h
      refine pv_iload_n C 3 dL_arePamphlets_243 rfl rfl ?_
      refine pv_iconst (v := 1) C dL_arePamphlets_244 (by decide) ?_
      refine pv_icmp_lt (tgt := 321) C dL_arePamphlets_245 (by decide) (fun c45 => ?_) (fun c45 => ?_)
      · have h := pq_it c45 h
        refine pv_iconst (v := 0) C dL_arePamphlets_321 (by decide) ?_
        exact pv_zret C hr rfl hlk h dL_arePamphlets_322
      · have h := pq_if c45 h
        refine pv_iload_n C 3 dL_arePamphlets_248 rfl rfl ?_
        refine pv_bipush (v := 60) C dL_arePamphlets_249 (by decide) ?_
        refine pv_icmp_gt (tgt := 321) C dL_arePamphlets_251 (by decide) (fun c46 => ?_) (fun c46 => ?_)
        · have h := pq_it c46 h
          refine pv_iconst (v := 0) C dL_arePamphlets_321 (by decide) ?_
          exact pv_zret C hr rfl hlk h dL_arePamphlets_322
        · have h := pq_if c46 h
          refine pv_iload C 4 dL_arePamphlets_254 rfl ?_
          refine pv_iload_n C 3 dL_arePamphlets_256 rfl rfl ?_
          refine pv_icmp_ne (tgt := 321) C dL_arePamphlets_257 (by decide) (fun c47 => ?_) (fun c47 => ?_)
          · have h := pq_if c47 h
            refine pv_iconst (v := 0) C dL_arePamphlets_321 (by decide) ?_
            exact pv_zret C hr rfl hlk h dL_arePamphlets_322
          · have h := pq_it c47 h
            refine pv_aload_n C 0 dL_arePamphlets_260 rfl rfl ?_
            refine pv_iload_n C 2 dL_arePamphlets_261 rfl rfl ?_
            obtain ⟨v48, S49, e50, h⟩ := pq_bs h
            refine pv_calliV C (ci := 10) rfl (by decide) k0_ [.int x2] (fun sz => e_X10_dayOf W0 k0_ e50 sz) (cwV 1 C.1.2.2.2.2 gL_arePamphlets_X10_dayOf rfl rfl rfl (by decide +kernel) ⟨Nat.le_of_ble_eq_true rfl, Nat.le_of_ble_eq_true rfl⟩) rfl rfl (Nat.le_of_ble_eq_true rfl) dL_arePamphlets_262 ⟨Nat.le_of_ble_eq_true rfl, Nat.le_of_ble_eq_true rfl⟩ ?_
            refine pv_iload_n C 1 dL_arePamphlets_265 rfl rfl ?_
            refine pv_icmp_lt (tgt := 321) C dL_arePamphlets_266 (by decide) (fun c51 => ?_) (fun c51 => ?_)
            · have h := pq_it c51 h
              refine pv_iconst (v := 0) C dL_arePamphlets_321 (by decide) ?_
              exact pv_zret C hr rfl hlk h dL_arePamphlets_322
            · have h := pq_if c51 h
              refine pv_aload_n C 0 dL_arePamphlets_269 rfl rfl ?_
              refine pv_iload_n C 2 dL_arePamphlets_270 rfl rfl ?_
              obtain ⟨v52, S53, e54, h⟩ := pq_bs h
              refine pv_calliV C (ci := 10) rfl (by decide) k0_ [.int x2] (fun sz => e_X10_dayOf W0 k0_ e54 sz) (cwV 1 C.1.2.2.2.2 gL_arePamphlets_X10_dayOf rfl rfl rfl (by decide +kernel) ⟨Nat.le_of_ble_eq_true rfl, Nat.le_of_ble_eq_true rfl⟩) rfl rfl (Nat.le_of_ble_eq_true rfl) dL_arePamphlets_271 ⟨Nat.le_of_ble_eq_true rfl, Nat.le_of_ble_eq_true rfl⟩ ?_
              refine pv_aload_n C 0 dL_arePamphlets_274 rfl rfl ?_
              obtain ⟨v55, S56, e57, h⟩ := pq_bs h
              refine pv_calliV C (ci := 10) rfl (by decide) k0_ [] (fun sz => r_X10_day W0 k0_ e57 sz) (cwV 0 C.1.2.2.2.2 gL_arePamphlets_X10_day rfl rfl rfl (by decide +kernel) ⟨Nat.le_of_ble_eq_true rfl, Nat.le_of_ble_eq_true rfl⟩) rfl rfl (Nat.le_of_ble_eq_true rfl) dL_arePamphlets_275 ⟨Nat.le_of_ble_eq_true rfl, Nat.le_of_ble_eq_true rfl⟩ ?_
              refine pv_icmp_gt (tgt := 321) C dL_arePamphlets_278 (by decide) (fun c58 => ?_) (fun c58 => ?_)
              · have h := pq_it c58 h
                refine pv_iconst (v := 0) C dL_arePamphlets_321 (by decide) ?_
                exact pv_zret C hr rfl hlk h dL_arePamphlets_322
              · have h := pq_if c58 h
                refine pv_aload_n C 0 dL_arePamphlets_281 rfl rfl ?_
                refine pv_iload_n C 2 dL_arePamphlets_282 rfl rfl ?_
                obtain ⟨v59, S60, e61, h⟩ := pq_bs h
                refine pv_calliV C (ci := 10) rfl (by decide) k0_ [.int x2] (fun sz => e_X10_ladderOf W0 k0_ e61 sz) (cwV 1 C.1.2.2.2.2 gL_arePamphlets_X10_ladderOf rfl rfl rfl (by decide +kernel) ⟨Nat.le_of_ble_eq_true rfl, Nat.le_of_ble_eq_true rfl⟩) rfl rfl (Nat.le_of_ble_eq_true rfl) dL_arePamphlets_283 ⟨Nat.le_of_ble_eq_true rfl, Nat.le_of_ble_eq_true rfl⟩ ?_
                refine pv_iload C 5 dL_arePamphlets_286 rfl ?_
                refine pv_icmp_ne (tgt := 321) C dL_arePamphlets_288 (by decide) (fun c62 => ?_) (fun c62 => ?_)
                · have h := pq_if c62 h
                  refine pv_iconst (v := 0) C dL_arePamphlets_321 (by decide) ?_
                  exact pv_zret C hr rfl hlk h dL_arePamphlets_322
                · have h := pq_it c62 h
                  refine pv_aload_n C 0 dL_arePamphlets_291 rfl rfl ?_
                  refine pv_iload_n C 2 dL_arePamphlets_292 rfl rfl ?_
                  obtain ⟨v63, S64, e65, h⟩ := pq_bs h
                  refine pv_calliV C (ci := 10) rfl (by decide) k0_ [.int x2] (fun sz => e_X10_laddersOf W0 k0_ e65 sz) (cwV 1 C.1.2.2.2.2 gL_arePamphlets_X10_laddersOf rfl rfl rfl (by decide +kernel) ⟨Nat.le_of_ble_eq_true rfl, Nat.le_of_ble_eq_true rfl⟩) rfl rfl (Nat.le_of_ble_eq_true rfl) dL_arePamphlets_293 ⟨Nat.le_of_ble_eq_true rfl, Nat.le_of_ble_eq_true rfl⟩ ?_
                  refine pv_iload C 6 dL_arePamphlets_296 rfl ?_
                  refine pv_icmp_ne (tgt := 321) C dL_arePamphlets_298 (by decide) (fun c66 => ?_) (fun c66 => ?_)
                  · have h := pq_if c66 h
                    refine pv_iconst (v := 0) C dL_arePamphlets_321 (by decide) ?_
                    exact pv_zret C hr rfl hlk h dL_arePamphlets_322
                  · have h := pq_it c66 h
                    refine pv_iload C 7 dL_arePamphlets_301 rfl ?_
                    refine pv_iload C 5 dL_arePamphlets_303 rfl ?_
                    refine pv_icmp_lt (tgt := 321) C dL_arePamphlets_305 (by decide) (fun c67 => ?_) (fun c67 => ?_)
                    · have h := pq_it c67 h
                      refine pv_iconst (v := 0) C dL_arePamphlets_321 (by decide) ?_
                      exact pv_zret C hr rfl hlk h dL_arePamphlets_322
                    · have h := pq_if c67 h
                      refine pv_aload_n C 0 dL_arePamphlets_308 rfl rfl ?_
                      refine pv_iload_n C 2 dL_arePamphlets_309 rfl rfl ?_
                      refine pv_iload C 7 dL_arePamphlets_310 rfl ?_
                      refine pv_iconst (v := 1) C dL_arePamphlets_312 (by decide) ?_
                      refine pv_isub C dL_arePamphlets_313 ?_
                      obtain ⟨v68, S69, e70, h⟩ := pq_bs h
                      refine pv_calliV C (ci := 10) rfl (by decide) k0_ [.int x2, .int (x7 - (1 : Int32))] (fun sz => e_X10_readAt W0 k0_ e70 sz) (cwV 2 C.1.2.2.2.2 gL_arePamphlets_X10_readAt rfl rfl rfl (by decide +kernel) ⟨Nat.le_of_ble_eq_true rfl, Nat.le_of_ble_eq_true rfl⟩) rfl rfl (Nat.le_of_ble_eq_true rfl) dL_arePamphlets_314 ⟨Nat.le_of_ble_eq_true rfl, Nat.le_of_ble_eq_true rfl⟩ ?_
                      refine pv_iload_n C 2 dL_arePamphlets_317 rfl rfl ?_
                      refine pv_icmp_eq (tgt := 323) C dL_arePamphlets_318 (by decide) (fun c71 => ?_) (fun c71 => ?_)
                      · have h := pq_it c71 h
                        refine pv_aload_n C 0 dL_arePamphlets_323 rfl rfl ?_
                        refine pv_iload_n C 2 dL_arePamphlets_324 rfl rfl ?_
                        obtain ⟨v72, S73, e74, h⟩ := pq_bs h
                        refine pv_calliV C (ci := 10) rfl (by decide) k0_ [.int x2] (fun sz => e_X10_dayOf W0 k0_ e74 sz) (cwV 1 C.1.2.2.2.2 gL_arePamphlets_X10_dayOf rfl rfl rfl (by decide +kernel) ⟨Nat.le_of_ble_eq_true rfl, Nat.le_of_ble_eq_true rfl⟩) rfl rfl (Nat.le_of_ble_eq_true rfl) dL_arePamphlets_325 ⟨Nat.le_of_ble_eq_true rfl, Nat.le_of_ble_eq_true rfl⟩ ?_
                        refine pv_istore_n C [(1, .int v72), (0, .ref a0), (2, .int x2), (3, .int x3), (4, .int x4), (5, .int x5), (6, .int x6), (7, .int x7), (8, .int x8)] dL_arePamphlets_328 rfl (by decide) rfl ?_
                        refine pv_iinc (v := (x2 + (1 : Int32))) C 2 [(2, .int (x2 + (1 : Int32))), (1, .int v72), (0, .ref a0), (3, .int x3), (4, .int x4), (5, .int x5), (6, .int x6), (7, .int x7), (8, .int x8)] dL_arePamphlets_329 rfl rfl (by decide) rfl ?_
                        refine pv_goto (tgt := 4) C dL_arePamphlets_332 (by decide) ?_
                        refine pv_sub [2, 1, 0] rfl ?_
                        exact hk4 _ _ _ _ k0_ h
                      · have h := pq_if c71 h
                        refine pv_iconst (v := 0) C dL_arePamphlets_321 (by decide) ?_
                        exact pv_zret C hr rfl hlk h dL_arePamphlets_322
    · have h := pq_if c44 h
      refine pv_aload_n C 0 dL_arePamphlets_216 rfl rfl ?_
      refine pv_iload_n C 2 dL_arePamphlets_217 rfl rfl ?_
      refine pv_iload C 8 dL_arePamphlets_218 rfl ?_
      refine pv_iconst (v := 1) C dL_arePamphlets_220 (by decide) ?_
      refine pv_isub C dL_arePamphlets_221 ?_
      obtain ⟨v75, S76, e77, h⟩ := pq_bs h
      refine pv_calliV C (ci := 10) rfl (by decide) k0_ [.int x2, .int (x8 - (1 : Int32))] (fun sz => e_X10_readAt W0 k0_ e77 sz) (cwV 2 C.1.2.2.2.2 gL_arePamphlets_X10_readAt rfl rfl rfl (by decide +kernel) ⟨Nat.le_of_ble_eq_true rfl, Nat.le_of_ble_eq_true rfl⟩) rfl rfl (Nat.le_of_ble_eq_true rfl) dL_arePamphlets_222 ⟨Nat.le_of_ble_eq_true rfl, Nat.le_of_ble_eq_true rfl⟩ ?_
      refine pv_aload_n C 0 dL_arePamphlets_225 rfl rfl ?_
      refine pv_iload_n C 2 dL_arePamphlets_226 rfl rfl ?_
      refine pv_iload C 8 dL_arePamphlets_227 rfl ?_
      obtain ⟨v78, S79, e80, h⟩ := pq_bs h
      refine pv_calliV C (ci := 10) rfl (by decide) k0_ [.int x2, .int x8] (fun sz => e_X10_readAt W0 k0_ e80 sz) (cwV 2 C.1.2.2.2.2 gL_arePamphlets_X10_readAt rfl rfl rfl (by decide +kernel) ⟨Nat.le_of_ble_eq_true rfl, Nat.le_of_ble_eq_true rfl⟩) rfl rfl (Nat.le_of_ble_eq_true rfl) dL_arePamphlets_229 ⟨Nat.le_of_ble_eq_true rfl, Nat.le_of_ble_eq_true rfl⟩ ?_
      refine pv_icmp_lt (tgt := 237) C dL_arePamphlets_232 (by decide) (fun c81 => ?_) (fun c81 => ?_)
      · have h := pq_it c81 h
        refine pv_iinc (v := (x8 + (1 : Int32))) C 8 [(8, .int (x8 + (1 : Int32))), (0, .ref a0), (1, .int x1), (2, .int x2), (3, .int x3), (4, .int x4), (5, .int x5), (6, .int x6), (7, .int x7)] dL_arePamphlets_237 rfl rfl (by decide) rfl ?_
        refine pv_goto (tgt := 209) C dL_arePamphlets_240 (by decide) ?_
        refine pv_sub [1, 2, 3, 4, 5, 6, 7, 8, 0] rfl ?_
        exact ih _ _ _ _ _ _ _ _ _ _ k0_ h
      · have h := pq_if c81 h
        refine pv_iconst (v := 0) C dL_arePamphlets_235 (by decide) ?_
        exact pv_zret C hr rfl hlk h dL_arePamphlets_236
set_option maxHeartbeats 4000000 in
set_option maxRecDepth 100000 in
theorem r_L_arePamphlets_b73 {p : Program} {l : Launch} {e : Env} {s : State} {m : MethodId} {av : Array Value} {below : List Frame} {meth : Method} {c : Code} {D : va_G} {y : pq_Y} {G : pq_G} {r : Int32} {S1 : pq_N} (W0 : pq_WT G) (C : pq_C p s m av c D y RL wsL_arePamphlets cL_arePamphlets 10) (hr : meth.sig.returnType = (some .boolean)) (hlk : meth.locks = false) {c4 : pq_N → Nat → Int32 → Int32 → Option (Int32 × pq_N)} (hk4 : ∀ (S : pq_N) (a0 : Nat) (x1 : Int32) (x2 : Int32), pq_ok G 10 a0 → c4 S a0 x1 x2 = some (r, S1) → pq_V p l e (headSpec wsL_arePamphlets ({ frames := 4, cells := 0, slots := 0, locals := 91 } : Room)).room s m av below meth c 0 0 (MQ below (pq_Qi D y G s.heap.size r S1) av s 0 0 (pq_A G s.heap.size)) D y 10 (pq_A G s.heap.size) (fun _ => True) G S 4 [(0, .ref a0), (1, .int x1), (2, .int x2)] []) (n : Nat) : ∀ (S : pq_N) (a0 : Nat) (x1 : Int32) (x2 : Int32) (x3 : Int32) (x4 : Int32) (x5 : Int32) (x6 : Int32) (x7 : Int32), pq_ok G 10 a0 → F_L_arePamphlets_b73 G c4 n S a0 x1 x2 x3 x4 x5 x6 x7 = some (r, S1) → pq_V p l e (headSpec wsL_arePamphlets ({ frames := 4, cells := 0, slots := 0, locals := 91 } : Room)).room s m av below meth c 0 0 (MQ below (pq_Qi D y G s.heap.size r S1) av s 0 0 (pq_A G s.heap.size)) D y 10 (pq_A G s.heap.size) (fun _ => True) G S 73 [(0, .ref a0), (1, .int x1), (2, .int x2), (3, .int x3), (4, .int x4), (5, .int x5), (6, .int x6), (7, .int x7)] [] := by
  induction n with
  | zero =>
    intro S a0 x1 x2 x3 x4 x5 x6 x7 k0_ h
    rw [F_L_arePamphlets_b73.eq_1] at h; cases h
  | succ n ih =>
    intro S a0 x1 x2 x3 x4 x5 x6 x7 k0_ h
    rw [F_L_arePamphlets_b73.eq_2] at h
    refine pv_iload C 7 dL_arePamphlets_73 rfl ?_
    refine pv_aload_n C 0 dL_arePamphlets_75 rfl rfl ?_
    obtain ⟨v37, S38, e39, h⟩ := pq_bs h
    refine pv_calliV C (ci := 10) rfl (by decide) k0_ [] (fun sz => r_X10_pamphlets W0 k0_ e39 sz) (cwV 0 C.1.2.2.2.2 gL_arePamphlets_X10_pamphlets rfl rfl rfl (by decide +kernel) ⟨Nat.le_of_ble_eq_true rfl, Nat.le_of_ble_eq_true rfl⟩) rfl rfl (Nat.le_of_ble_eq_true rfl) dL_arePamphlets_76 ⟨Nat.le_of_ble_eq_true rfl, Nat.le_of_ble_eq_true rfl⟩ ?_
    refine pv_icmp_ge (tgt := 199) C dL_arePamphlets_79 (by decide) (fun c40 => ?_) (fun c40 => ?_)
    · have h := pq_it c40 h
      refine pv_aload_n C 0 dL_arePamphlets_199 rfl rfl ?_
      refine pv_iload_n C 2 dL_arePamphlets_200 rfl rfl ?_
      obtain ⟨v41, S42, e43, h⟩ := pq_bs h
      refine pv_calliV C (ci := 10) rfl (by decide) k0_ [.int x2] (fun sz => e_X10_readingOf W0 k0_ e43 sz) (cwV 1 C.1.2.2.2.2 gL_arePamphlets_X10_readingOf rfl rfl rfl (by decide +kernel) ⟨Nat.le_of_ble_eq_true rfl, Nat.le_of_ble_eq_true rfl⟩) rfl rfl (Nat.le_of_ble_eq_true rfl) dL_arePamphlets_201 ⟨Nat.le_of_ble_eq_true rfl, Nat.le_of_ble_eq_true rfl⟩ ?_
      refine pv_istore C [(7, .int v41), (0, .ref a0), (1, .int x1), (2, .int x2), (3, .int x3), (4, .int x4), (5, .int x5), (6, .int x6)] dL_arePamphlets_204 (by decide) rfl ?_
      refine pv_iconst (v := 1) C dL_arePamphlets_206 (by decide) ?_
      refine pv_istore C [(8, .int (1 : Int32)), (7, .int v41), (0, .ref a0), (1, .int x1), (2, .int x2), (3, .int x3), (4, .int x4), (5, .int x5), (6, .int x6)] dL_arePamphlets_207 (by decide) rfl ?_
      refine pv_sub [2, 3, 4, 5, 6, 7, 8, 1, 0] rfl ?_
      exact r_L_arePamphlets_b209 W0 C hr hlk hk4 pq_fuel _ _ _ _ _ _ _ _ _ _ k0_ h
    · have h := pq_if c40 h
      refine pv_iconst (v := 0) C dL_arePamphlets_82 (by decide) ?_
      refine pv_istore C [(8, .int (0 : Int32)), (0, .ref a0), (1, .int x1), (2, .int x2), (3, .int x3), (4, .int x4), (5, .int x5), (6, .int x6), (7, .int x7)] dL_arePamphlets_83 (by decide) rfl ?_
      refine pv_iconst (v := 0) C dL_arePamphlets_85 (by decide) ?_
      refine pv_istore C [(9, .int (0 : Int32)), (8, .int (0 : Int32)), (0, .ref a0), (1, .int x1), (2, .int x2), (3, .int x3), (4, .int x4), (5, .int x5), (6, .int x6), (7, .int x7)] dL_arePamphlets_86 (by decide) rfl ?_
      refine pv_sub [2, 3, 4, 5, 6, 7, 8, 9, 1, 0] rfl ?_
      exact r_L_arePamphlets_b88 W0 C hr hlk hk4 ih pq_fuel _ _ _ _ _ _ _ _ _ _ _ k0_ h
set_option maxHeartbeats 4000000 in
set_option maxRecDepth 100000 in
theorem r_L_arePamphlets_b42 {p : Program} {l : Launch} {e : Env} {s : State} {m : MethodId} {av : Array Value} {below : List Frame} {meth : Method} {c : Code} {D : va_G} {y : pq_Y} {G : pq_G} {r : Int32} {S1 : pq_N} (W0 : pq_WT G) (C : pq_C p s m av c D y RL wsL_arePamphlets cL_arePamphlets 10) (hr : meth.sig.returnType = (some .boolean)) (hlk : meth.locks = false) {c4 : pq_N → Nat → Int32 → Int32 → Option (Int32 × pq_N)} (hk4 : ∀ (S : pq_N) (a0 : Nat) (x1 : Int32) (x2 : Int32), pq_ok G 10 a0 → c4 S a0 x1 x2 = some (r, S1) → pq_V p l e (headSpec wsL_arePamphlets ({ frames := 4, cells := 0, slots := 0, locals := 91 } : Room)).room s m av below meth c 0 0 (MQ below (pq_Qi D y G s.heap.size r S1) av s 0 0 (pq_A G s.heap.size)) D y 10 (pq_A G s.heap.size) (fun _ => True) G S 4 [(0, .ref a0), (1, .int x1), (2, .int x2)] []) (n : Nat) : ∀ (S : pq_N) (a0 : Nat) (x1 : Int32) (x2 : Int32) (x3 : Int32) (x4 : Int32) (x5 : Int32) (x6 : Int32) (x7 : Int32), pq_ok G 10 a0 → F_L_arePamphlets_b42 G c4 n S a0 x1 x2 x3 x4 x5 x6 x7 = some (r, S1) → pq_V p l e (headSpec wsL_arePamphlets ({ frames := 4, cells := 0, slots := 0, locals := 91 } : Room)).room s m av below meth c 0 0 (MQ below (pq_Qi D y G s.heap.size r S1) av s 0 0 (pq_A G s.heap.size)) D y 10 (pq_A G s.heap.size) (fun _ => True) G S 42 [(0, .ref a0), (1, .int x1), (2, .int x2), (3, .int x3), (4, .int x4), (5, .int x5), (6, .int x6), (7, .int x7)] [] := by
  induction n with
  | zero =>
    intro S a0 x1 x2 x3 x4 x5 x6 x7 k0_ h
    rw [F_L_arePamphlets_b42.eq_1] at h; cases h
  | succ n ih =>
    intro S a0 x1 x2 x3 x4 x5 x6 x7 k0_ h
    rw [F_L_arePamphlets_b42.eq_2] at h
    refine pv_iload C 7 dL_arePamphlets_42 rfl ?_
    refine pv_aload_n C 0 dL_arePamphlets_44 rfl rfl ?_
    refine pv_iload_n C 2 dL_arePamphlets_45 rfl rfl ?_
    obtain ⟨v30, S31, e32, h⟩ := pq_bs h
    refine pv_calliV C (ci := 10) rfl (by decide) k0_ [.int x2] (fun sz => e_X10_pagesOf W0 k0_ e32 sz) (cwV 1 C.1.2.2.2.2 gL_arePamphlets_X10_pagesOf rfl rfl rfl (by decide +kernel) ⟨Nat.le_of_ble_eq_true rfl, Nat.le_of_ble_eq_true rfl⟩) rfl rfl (Nat.le_of_ble_eq_true rfl) dL_arePamphlets_46 ⟨Nat.le_of_ble_eq_true rfl, Nat.le_of_ble_eq_true rfl⟩ ?_
    refine pv_icmp_ge (tgt := 70) C dL_arePamphlets_49 (by decide) (fun c33 => ?_) (fun c33 => ?_)
    · have h := pq_it c33 h
      refine pv_iconst (v := 0) C dL_arePamphlets_70 (by decide) ?_
      refine pv_istore C [(7, .int (0 : Int32)), (0, .ref a0), (1, .int x1), (2, .int x2), (3, .int x3), (4, .int x4), (5, .int x5), (6, .int x6)] dL_arePamphlets_71 (by decide) rfl ?_
      refine pv_sub [1, 2, 3, 4, 5, 6, 7, 0] rfl ?_
      exact r_L_arePamphlets_b73 W0 C hr hlk hk4 pq_fuel _ _ _ _ _ _ _ _ _ k0_ h
    · have h := pq_if c33 h
      refine pv_iload C 4 dL_arePamphlets_52 rfl ?_
      refine pv_aload_n C 0 dL_arePamphlets_54 rfl rfl ?_
      refine pv_iload_n C 2 dL_arePamphlets_55 rfl rfl ?_
      refine pv_iload C 7 dL_arePamphlets_56 rfl ?_
      obtain ⟨v34, S35, e36, h⟩ := pq_bs h
      refine pv_calliV C (ci := 10) rfl (by decide) k0_ [.int x2, .int x7] (fun sz => e_X10_wordsOn W0 k0_ e36 sz) (cwV 2 C.1.2.2.2.2 gL_arePamphlets_X10_wordsOn rfl rfl rfl (by decide +kernel) ⟨Nat.le_of_ble_eq_true rfl, Nat.le_of_ble_eq_true rfl⟩) rfl rfl (Nat.le_of_ble_eq_true rfl) dL_arePamphlets_58 ⟨Nat.le_of_ble_eq_true rfl, Nat.le_of_ble_eq_true rfl⟩ ?_
      refine pv_iadd C dL_arePamphlets_61 ?_
      refine pv_istore C [(4, .int (x4 + v34)), (0, .ref a0), (1, .int x1), (2, .int x2), (3, .int x3), (5, .int x5), (6, .int x6), (7, .int x7)] dL_arePamphlets_62 (by decide) rfl ?_
      refine pv_iinc (v := (x7 + (1 : Int32))) C 7 [(7, .int (x7 + (1 : Int32))), (4, .int (x4 + v34)), (0, .ref a0), (1, .int x1), (2, .int x2), (3, .int x3), (5, .int x5), (6, .int x6)] dL_arePamphlets_64 rfl rfl (by decide) rfl ?_
      refine pv_goto (tgt := 42) C dL_arePamphlets_67 (by decide) ?_
      refine pv_sub [2, 3, 4, 5, 1, 6, 7, 0] rfl ?_
      exact ih _ _ _ _ _ _ _ _ _ k0_ h
set_option maxHeartbeats 4000000 in
set_option maxRecDepth 100000 in
theorem r_L_arePamphlets_b4 {p : Program} {l : Launch} {e : Env} {s : State} {m : MethodId} {av : Array Value} {below : List Frame} {meth : Method} {c : Code} {D : va_G} {y : pq_Y} {G : pq_G} {r : Int32} {S1 : pq_N} (W0 : pq_WT G) (C : pq_C p s m av c D y RL wsL_arePamphlets cL_arePamphlets 10) (hr : meth.sig.returnType = (some .boolean)) (hlk : meth.locks = false) (n : Nat) : ∀ (S : pq_N) (a0 : Nat) (x1 : Int32) (x2 : Int32), pq_ok G 10 a0 → F_L_arePamphlets_b4 G n S a0 x1 x2 = some (r, S1) → pq_V p l e (headSpec wsL_arePamphlets ({ frames := 4, cells := 0, slots := 0, locals := 91 } : Room)).room s m av below meth c 0 0 (MQ below (pq_Qi D y G s.heap.size r S1) av s 0 0 (pq_A G s.heap.size)) D y 10 (pq_A G s.heap.size) (fun _ => True) G S 4 [(0, .ref a0), (1, .int x1), (2, .int x2)] [] := by
  induction n with
  | zero =>
    intro S a0 x1 x2 k0_ h
    rw [F_L_arePamphlets_b4.eq_1] at h; cases h
  | succ n ih =>
    intro S a0 x1 x2 k0_ h
    rw [F_L_arePamphlets_b4.eq_2] at h
    refine pv_iload_n C 2 dL_arePamphlets_4 rfl rfl ?_
    refine pv_aload_n C 0 dL_arePamphlets_5 rfl rfl ?_
    obtain ⟨v11, S12, e13, h⟩ := pq_bs h
    refine pv_calliV C (ci := 10) rfl (by decide) k0_ [] (fun sz => r_X10_pamphlets W0 k0_ e13 sz) (cwV 0 C.1.2.2.2.2 gL_arePamphlets_X10_pamphlets rfl rfl rfl (by decide +kernel) ⟨Nat.le_of_ble_eq_true rfl, Nat.le_of_ble_eq_true rfl⟩) rfl rfl (Nat.le_of_ble_eq_true rfl) dL_arePamphlets_6 ⟨Nat.le_of_ble_eq_true rfl, Nat.le_of_ble_eq_true rfl⟩ ?_
    refine pv_icmp_ge (tgt := 335) C dL_arePamphlets_9 (by decide) (fun c14 => ?_) (fun c14 => ?_)
    · have h := pq_it c14 h
      refine pv_aload_n C 0 dL_arePamphlets_335 rfl rfl ?_
      obtain ⟨v15, S16, e17, h⟩ := pq_bs h
      refine pv_calliV C (ci := 10) rfl (by decide) k0_ [] (fun sz => r_X10_pamphlets W0 k0_ e17 sz) (cwV 0 C.1.2.2.2.2 gL_arePamphlets_X10_pamphlets rfl rfl rfl (by decide +kernel) ⟨Nat.le_of_ble_eq_true rfl, Nat.le_of_ble_eq_true rfl⟩) rfl rfl (Nat.le_of_ble_eq_true rfl) dL_arePamphlets_336 ⟨Nat.le_of_ble_eq_true rfl, Nat.le_of_ble_eq_true rfl⟩ ?_
      refine pv_if_lt (tgt := 355) C dL_arePamphlets_339 (by decide) (fun c18 => ?_) (fun c18 => ?_)
      · have h := pq_it c18 h
        refine pv_iconst (v := 0) C dL_arePamphlets_355 (by decide) ?_
        exact pv_zret C hr rfl hlk h dL_arePamphlets_356
      · have h := pq_if c18 h
        refine pv_aload_n C 0 dL_arePamphlets_342 rfl rfl ?_
        obtain ⟨v19, S20, e21, h⟩ := pq_bs h
        refine pv_calliV C (ci := 10) rfl (by decide) k0_ [] (fun sz => r_X10_pamphlets W0 k0_ e21 sz) (cwV 0 C.1.2.2.2.2 gL_arePamphlets_X10_pamphlets rfl rfl rfl (by decide +kernel) ⟨Nat.le_of_ble_eq_true rfl, Nat.le_of_ble_eq_true rfl⟩) rfl rfl (Nat.le_of_ble_eq_true rfl) dL_arePamphlets_343 ⟨Nat.le_of_ble_eq_true rfl, Nat.le_of_ble_eq_true rfl⟩ ?_
        refine pv_bipush (v := 20) C dL_arePamphlets_346 (by decide) ?_
        refine pv_icmp_gt (tgt := 355) C dL_arePamphlets_348 (by decide) (fun c22 => ?_) (fun c22 => ?_)
        · have h := pq_it c22 h
          refine pv_iconst (v := 0) C dL_arePamphlets_355 (by decide) ?_
          exact pv_zret C hr rfl hlk h dL_arePamphlets_356
        · have h := pq_if c22 h
          refine pv_iconst (v := 1) C dL_arePamphlets_351 (by decide) ?_
          refine pv_goto (tgt := 356) C dL_arePamphlets_352 (by decide) ?_
          exact pv_zret C hr rfl hlk h dL_arePamphlets_356
    · have h := pq_if c14 h
      refine pv_aload_n C 0 dL_arePamphlets_12 rfl rfl ?_
      refine pv_iload_n C 2 dL_arePamphlets_13 rfl rfl ?_
      obtain ⟨v23, S24, e25, h⟩ := pq_bs h
      refine pv_calliV C (ci := 10) rfl (by decide) k0_ [.int x2] (fun sz => e_X10_wordsOf W0 k0_ e25 sz) (cwV 1 C.1.2.2.2.2 gL_arePamphlets_X10_wordsOf rfl rfl rfl (by decide +kernel) ⟨Nat.le_of_ble_eq_true rfl, Nat.le_of_ble_eq_true rfl⟩) rfl rfl (Nat.le_of_ble_eq_true rfl) dL_arePamphlets_14 ⟨Nat.le_of_ble_eq_true rfl, Nat.le_of_ble_eq_true rfl⟩ ?_
      refine pv_istore_n C [(3, .int v23), (0, .ref a0), (1, .int x1), (2, .int x2)] dL_arePamphlets_17 rfl (by decide) rfl ?_
      refine pv_iconst (v := 0) C dL_arePamphlets_18 (by decide) ?_
      refine pv_istore C [(4, .int (0 : Int32)), (3, .int v23), (0, .ref a0), (1, .int x1), (2, .int x2)] dL_arePamphlets_19 (by decide) rfl ?_
      refine pv_iconst (v := 1) C dL_arePamphlets_21 (by decide) ?_
      refine pv_istore C [(5, .int (1 : Int32)), (4, .int (0 : Int32)), (3, .int v23), (0, .ref a0), (1, .int x1), (2, .int x2)] dL_arePamphlets_22 (by decide) rfl ?_
      refine pv_aload_n C 3 dL_arePamphlets_24 rfl rfl ?_
      refine pv_iload_n C 5 dL_arePamphlets_25 rfl rfl ?_
      obtain ⟨v26, S27, e28, h⟩ := pq_bs h
      refine pv_calliV C (ci := 10) rfl (by decide) k0_ [.int x2] (fun sz => e_X10_quotationsOf W0 k0_ e28 sz) (cwV 1 C.1.2.2.2.2 gL_arePamphlets_X10_quotationsOf rfl rfl rfl (by decide +kernel) ⟨Nat.le_of_ble_eq_true rfl, Nat.le_of_ble_eq_true rfl⟩) rfl rfl (Nat.le_of_ble_eq_true rfl) dL_arePamphlets_26 ⟨Nat.le_of_ble_eq_true rfl, Nat.le_of_ble_eq_true rfl⟩ ?_
      refine pv_if_ne (tgt := 36) C dL_arePamphlets_29 (by decide) (fun c29 => ?_) (fun c29 => ?_)
      · have h := pq_if c29 h
        refine pv_iconst (v := 0) C dL_arePamphlets_36 (by decide) ?_
        refine pv_istore C [(6, .int (0 : Int32)), (5, .int (1 : Int32)), (4, .int (0 : Int32)), (3, .int v23), (0, .ref a0), (1, .int x1), (2, .int x2)] dL_arePamphlets_37 (by decide) rfl ?_
        refine pv_iconst (v := 0) C dL_arePamphlets_39 (by decide) ?_
        refine pv_istore C [(7, .int (0 : Int32)), (6, .int (0 : Int32)), (5, .int (1 : Int32)), (4, .int (0 : Int32)), (3, .int v23), (0, .ref a0), (1, .int x1), (2, .int x2)] dL_arePamphlets_40 (by decide) rfl ?_
        refine pv_sub [5, 6, 7, 4, 3, 2, 1, 0] rfl ?_
        exact r_L_arePamphlets_b42 W0 C hr hlk ih pq_fuel _ _ _ _ _ _ _ _ _ k0_ h
      · have h := pq_it c29 h
        refine pv_iconst (v := 1) C dL_arePamphlets_32 (by decide) ?_
        refine pv_goto (tgt := 37) C dL_arePamphlets_33 (by decide) ?_
        refine pv_istore C [(6, .int (1 : Int32)), (5, .int (1 : Int32)), (4, .int (0 : Int32)), (3, .int v23), (0, .ref a0), (1, .int x1), (2, .int x2)] dL_arePamphlets_37 (by decide) rfl ?_
        refine pv_iconst (v := 0) C dL_arePamphlets_39 (by decide) ?_
        refine pv_istore C [(7, .int (0 : Int32)), (6, .int (1 : Int32)), (5, .int (1 : Int32)), (4, .int (0 : Int32)), (3, .int v23), (0, .ref a0), (1, .int x1), (2, .int x2)] dL_arePamphlets_40 (by decide) rfl ?_
        refine pv_sub [5, 6, 7, 4, 3, 2, 1, 0] rfl ?_
        exact r_L_arePamphlets_b42 W0 C hr hlk ih pq_fuel _ _ _ _ _ _ _ _ _ k0_ h
set_option maxHeartbeats 4000000 in
set_option maxRecDepth 100000 in
theorem r_L_arePamphlets {l : Launch} {D : va_G} {y : pq_Y} {G : pq_G} (W0 : pq_WT G) {S : pq_N} {a0 : Nat} (k0_ : pq_ok G 10 a0) {r : Int32} {S1 : pq_N} (h : F_L_arePamphlets G S a0 = some (r, S1)) (sz : Nat) : Met l yL_arePamphlets wsL_arePamphlets ({ frames := 4, cells := 0, slots := 0, locals := 91 } : Room) (pq_P D y G S sz [.ref a0]) (pq_Qi D y G sz r S1) 0 0 (pq_A G sz) := by
  refine pq_enter RL 10 (by decide) rfl rfl rfl ?_
  intro p e s m below meth c C hsz hr hlk
  subst hsz
  unfold F_L_arePamphlets at h
  refine pv_sub (lo1 := [(0, .ref a0)]) [0] rfl ?_
  refine pv_iconst (v := 0) C dL_arePamphlets_0 (by decide) ?_
  refine pv_istore_n C [(1, .int (0 : Int32)), (0, .ref a0)] dL_arePamphlets_1 rfl (by decide) rfl ?_
  refine pv_iconst (v := 0) C dL_arePamphlets_2 (by decide) ?_
  refine pv_istore_n C [(2, .int (0 : Int32)), (1, .int (0 : Int32)), (0, .ref a0)] dL_arePamphlets_3 rfl (by decide) rfl ?_
  refine pv_sub [2, 1, 0] rfl ?_
  exact r_L_arePamphlets_b4 W0 C hr hlk pq_fuel _ _ _ _ k0_ h
def F_L_isBlame_b101 (G : pq_G) (c15 : pq_N → Nat → Int32 → Int32 → Int32 → Int32 → Int32 → Int32 → Option (Int32 × pq_N)) (c27 : pq_N → Nat → Int32 → Int32 → Int32 → Int32 → Int32 → Int32 → Int32 → Option (Int32 × pq_N)) (S : pq_N) (a0 : Nat) (x1 : Int32) (x2 : Int32) (x3 : Int32) (x4 : Int32) (x6 : Int32) (x7 : Int32) (t0 : Int32) (t1 : Int32) : Option (Int32 × pq_N) := (pq_bd (F_L_isQuotation G S a0 x6 x7) fun v56 S57 => (if v56 = (0 : Int32) then some ((0 : Int32), S57) else c27 S57 a0 x1 x2 x3 x4 (t1 + t0) x6 (x7 + (1 : Int32))))
def F_L_isBlame_b62 (G : pq_G) (c15 : pq_N → Nat → Int32 → Int32 → Int32 → Int32 → Int32 → Int32 → Option (Int32 × pq_N)) (c27 : pq_N → Nat → Int32 → Int32 → Int32 → Int32 → Int32 → Int32 → Int32 → Option (Int32 × pq_N)) (S : pq_N) (a0 : Nat) (x1 : Int32) (x3 : Int32) (x4 : Int32) (x5 : Int32) (x6 : Int32) (x7 : Int32) (x8 : Int32) (t0 : Int32) (t1 : Int32) : Option (Int32 × pq_N) := (pq_bd (E_X10_quotedAgain G S a0 x6 x7) fun v49 S50 => (pq_bd (E_X10_comesFrom G S50 a0 x6 x7) fun v52 S53 => (if v52 = (-1 : Int32) then F_L_isBlame_b101 G c15 c27 S53 a0 x1 (t1 + t0) (x3 + x8) (x4 + v49) x6 x7 (0 : Int32) x5 else F_L_isBlame_b101 G c15 c27 S53 a0 x1 (t1 + t0) (x3 + x8) (x4 + v49) x6 x7 (1 : Int32) x5)))
def F_L_isBlame_b27 (G : pq_G) (c15 : pq_N → Nat → Int32 → Int32 → Int32 → Int32 → Int32 → Int32 → Option (Int32 × pq_N)) : Nat → pq_N → Nat → Int32 → Int32 → Int32 → Int32 → Int32 → Int32 → Int32 → Option (Int32 × pq_N)
  | 0, _, _, _, _, _, _, _, _, _ => none
  | n + 1, S, a0, x1, x2, x3, x4, x5, x6, x7 => (pq_bd (E_X10_quotationsOf G S a0 x6) fun v37 S38 => (if v37 ≤ x7 then c15 S38 a0 x1 x2 x3 x4 x5 (x6 + (1 : Int32)) else (pq_bd (E_X10_changesByTable G S38 a0 x6 x7) fun v41 S42 => (if v41 = (0 : Int32) then F_L_isBlame_b62 G c15 ((F_L_isBlame_b27 G c15 n)) S42 a0 (x1 + (1 : Int32)) x3 x4 x5 x6 x7 v41 (1 : Int32) x2 else F_L_isBlame_b62 G c15 ((F_L_isBlame_b27 G c15 n)) S42 a0 (x1 + (1 : Int32)) x3 x4 x5 x6 x7 v41 (0 : Int32) x2))))
def F_L_isBlame_b159 (G : pq_G) (c138 : pq_N → Nat → Int32 → Int32 → Int32 → Int32 → Int32 → Int32 → Int32 → Int32 → Option (Int32 × pq_N)) : Nat → pq_N → Nat → Int32 → Int32 → Int32 → Int32 → Int32 → Int32 → Int32 → Int32 → Int32 → Option (Int32 × pq_N)
  | 0, _, _, _, _, _, _, _, _, _, _, _ => none
  | n + 1, S, a0, x1, x2, x3, x4, x5, x6, x7, x8, x9 => (if (8 : Int32) ≤ x9 then c138 S a0 x1 x2 x3 x4 x5 x6 x7 (x8 + (1 : Int32)) else (pq_bd (E_X10_wrongs G S a0 x8 x9) fun v46 S47 => (F_L_isBlame_b159 G c138 n) S47 a0 x1 x2 x3 x4 x5 x6 (x7 + v46) x8 (x9 + (1 : Int32))))
def F_L_isBlame_b138 (G : pq_G)  : Nat → pq_N → Nat → Int32 → Int32 → Int32 → Int32 → Int32 → Int32 → Int32 → Int32 → Option (Int32 × pq_N)
  | 0, _, _, _, _, _, _, _, _, _, _ => none
  | n + 1, S, a0, x1, x2, x3, x4, x5, x6, x7, x8 => (if (8 : Int32) ≤ x8 then (if x6 = x3 then (if x7 = x3 then (pq_bd (F_X10_blameByAuthors G S a0) fun v18 S19 => (if v18 = x3 then (pq_bd (F_X10_blameBySources G S19 a0) fun v22 S23 => (if v22 = x3 then (if x4 = x5 then (pq_bd (F_X10_faithfulShare G S23 a0) fun v27 S28 => (if x1 = (0 : Int32) then (if (Op.cmpValue (FP.dcmp v27 FP.dconst0) .l) = (0 : Int32) then some ((1 : Int32), S28) else some ((0 : Int32), S28)) else (if ¬ (FP.ddiv (FP.i2d x2) (FP.i2d x1) &&& 0x7fffffffffffffff ≤ 0x7ff0000000000000) then none else (if (Op.cmpValue (FP.dcmp v27 (FP.ddiv (FP.i2d x2) (FP.i2d x1))) .l) = (0 : Int32) then some ((1 : Int32), S28) else some ((0 : Int32), S28))))) else some ((0 : Int32), S23)) else some ((0 : Int32), S23))) else some ((0 : Int32), S19))) else some ((0 : Int32), S)) else some ((0 : Int32), S)) else (pq_bd (E_X10_blameOf G S a0 x8) fun v34 S35 => F_L_isBlame_b159 G ((F_L_isBlame_b138 G n)) pq_fuel S35 a0 x1 x2 x3 x4 x5 (x6 + v34) x7 x8 (0 : Int32)))
def F_L_isBlame_b15 (G : pq_G)  : Nat → pq_N → Nat → Int32 → Int32 → Int32 → Int32 → Int32 → Int32 → Option (Int32 × pq_N)
  | 0, _, _, _, _, _, _, _, _ => none
  | n + 1, S, a0, x1, x2, x3, x4, x5, x6 => (pq_bd (F_X10_pamphlets G S a0) fun v11 S12 => (if v11 ≤ x6 then F_L_isBlame_b138 G pq_fuel S12 a0 x1 x2 x3 x4 x5 (0 : Int32) (0 : Int32) (0 : Int32) else F_L_isBlame_b27 G ((F_L_isBlame_b15 G n)) pq_fuel S12 a0 x1 x2 x3 x4 x5 x6 (0 : Int32)))
def F_L_isBlame (G : pq_G) (S : pq_N) (a0 : Nat) : Option (Int32 × pq_N) := F_L_isBlame_b15 G pq_fuel S a0 (0 : Int32) (0 : Int32) (0 : Int32) (0 : Int32) (0 : Int32) (0 : Int32)
set_option maxHeartbeats 4000000 in
set_option maxRecDepth 100000 in
theorem r_L_isBlame_b101 {p : Program} {l : Launch} {e : Env} {s : State} {m : MethodId} {av : Array Value} {below : List Frame} {meth : Method} {c : Code} {D : va_G} {y : pq_Y} {G : pq_G} {r : Int32} {S1 : pq_N} (W0 : pq_WT G) (C : pq_C p s m av c D y RL wsL_isBlame cL_isBlame 10) (hr : meth.sig.returnType = (some .boolean)) (hlk : meth.locks = false) {c15 : pq_N → Nat → Int32 → Int32 → Int32 → Int32 → Int32 → Int32 → Option (Int32 × pq_N)} (hk15 : ∀ (S : pq_N) (a0 : Nat) (x1 : Int32) (x2 : Int32) (x3 : Int32) (x4 : Int32) (x5 : Int32) (x6 : Int32), pq_ok G 10 a0 → c15 S a0 x1 x2 x3 x4 x5 x6 = some (r, S1) → pq_V p l e (headSpec wsL_isBlame ({ frames := 8, cells := 0, slots := 0, locals := 209 } : Room)).room s m av below meth c 0 0 (MQ below (pq_Qi D y G s.heap.size r S1) av s 0 0 (pq_A G s.heap.size)) D y 10 (pq_A G s.heap.size) (fun _ => True) G S 15 [(0, .ref a0), (1, .int x1), (2, .int x2), (3, .int x3), (4, .int x4), (5, .int x5), (6, .int x6)] []) {c27 : pq_N → Nat → Int32 → Int32 → Int32 → Int32 → Int32 → Int32 → Int32 → Option (Int32 × pq_N)} (hk27 : ∀ (S : pq_N) (a0 : Nat) (x1 : Int32) (x2 : Int32) (x3 : Int32) (x4 : Int32) (x5 : Int32) (x6 : Int32) (x7 : Int32), pq_ok G 10 a0 → c27 S a0 x1 x2 x3 x4 x5 x6 x7 = some (r, S1) → pq_V p l e (headSpec wsL_isBlame ({ frames := 8, cells := 0, slots := 0, locals := 209 } : Room)).room s m av below meth c 0 0 (MQ below (pq_Qi D y G s.heap.size r S1) av s 0 0 (pq_A G s.heap.size)) D y 10 (pq_A G s.heap.size) (fun _ => True) G S 27 [(0, .ref a0), (1, .int x1), (2, .int x2), (3, .int x3), (4, .int x4), (5, .int x5), (6, .int x6), (7, .int x7)] []) : ∀ (S : pq_N) (a0 : Nat) (x1 : Int32) (x2 : Int32) (x3 : Int32) (x4 : Int32) (x6 : Int32) (x7 : Int32) (t0 : Int32) (t1 : Int32), pq_ok G 10 a0 → F_L_isBlame_b101 G c15 c27 S a0 x1 x2 x3 x4 x6 x7 t0 t1 = some (r, S1) → pq_V p l e (headSpec wsL_isBlame ({ frames := 8, cells := 0, slots := 0, locals := 209 } : Room)).room s m av below meth c 0 0 (MQ below (pq_Qi D y G s.heap.size r S1) av s 0 0 (pq_A G s.heap.size)) D y 10 (pq_A G s.heap.size) (fun _ => True) G S 101 [(0, .ref a0), (1, .int x1), (2, .int x2), (3, .int x3), (4, .int x4), (6, .int x6), (7, .int x7)] [.int t0, .int t1] := by
  intro S a0 x1 x2 x3 x4 x6 x7 t0 t1 k0_ h
  unfold F_L_isBlame_b101 at h
  refine pv_iadd C dL_isBlame_101 ?_
  refine pv_istore C [(5, .int (t1 + t0)), (0, .ref a0), (1, .int x1), (2, .int x2), (3, .int x3), (4, .int x4), (6, .int x6), (7, .int x7)] dL_isBlame_102 (by decide) rfl ?_
  refine pv_aload_n C 1 dL_isBlame_104 rfl rfl ?_
  refine pv_iload C 6 dL_isBlame_105 rfl ?_
  refine pv_iload C 7 dL_isBlame_107 rfl ?_
  obtain ⟨v56, S57, e58, h⟩ := pq_bs h
  refine pv_calliS C [.ref a0, .int x6, .int x7] (fun sz => r_L_isQuotation W0 k0_ e58 sz) (va_cwS 3 C.1.2.2.2.2 gL_isBlame_L_isQuotation rfl rfl rfl (by decide +kernel) ⟨Nat.le_of_ble_eq_true rfl, Nat.le_of_ble_eq_true rfl⟩) rfl rfl (Nat.le_of_ble_eq_true rfl) dL_isBlame_109 ⟨Nat.le_of_ble_eq_true rfl, Nat.le_of_ble_eq_true rfl⟩ ?_
  refine pv_if_ne (tgt := 117) C dL_isBlame_112 (by decide) (fun c59 => ?_) (fun c59 => ?_)
  · have h := pq_if c59 h
    refine pv_iinc (v := (x7 + (1 : Int32))) C 7 [(7, .int (x7 + (1 : Int32))), (5, .int (t1 + t0)), (0, .ref a0), (1, .int x1), (2, .int x2), (3, .int x3), (4, .int x4), (6, .int x6)] dL_isBlame_117 rfl rfl (by decide) rfl ?_
    refine pv_goto (tgt := 27) C dL_isBlame_120 (by decide) ?_
    refine pv_sub [2, 3, 4, 5, 6, 1, 7, 0] rfl ?_
    exact hk27 _ _ _ _ _ _ _ _ _ k0_ h
  · have h := pq_it c59 h
    refine pv_iconst (v := 0) C dL_isBlame_115 (by decide) ?_
    exact pv_zret C hr rfl hlk h dL_isBlame_116
set_option maxHeartbeats 4000000 in
set_option maxRecDepth 100000 in
theorem r_L_isBlame_b62 {p : Program} {l : Launch} {e : Env} {s : State} {m : MethodId} {av : Array Value} {below : List Frame} {meth : Method} {c : Code} {D : va_G} {y : pq_Y} {G : pq_G} {r : Int32} {S1 : pq_N} (W0 : pq_WT G) (C : pq_C p s m av c D y RL wsL_isBlame cL_isBlame 10) (hr : meth.sig.returnType = (some .boolean)) (hlk : meth.locks = false) {c15 : pq_N → Nat → Int32 → Int32 → Int32 → Int32 → Int32 → Int32 → Option (Int32 × pq_N)} (hk15 : ∀ (S : pq_N) (a0 : Nat) (x1 : Int32) (x2 : Int32) (x3 : Int32) (x4 : Int32) (x5 : Int32) (x6 : Int32), pq_ok G 10 a0 → c15 S a0 x1 x2 x3 x4 x5 x6 = some (r, S1) → pq_V p l e (headSpec wsL_isBlame ({ frames := 8, cells := 0, slots := 0, locals := 209 } : Room)).room s m av below meth c 0 0 (MQ below (pq_Qi D y G s.heap.size r S1) av s 0 0 (pq_A G s.heap.size)) D y 10 (pq_A G s.heap.size) (fun _ => True) G S 15 [(0, .ref a0), (1, .int x1), (2, .int x2), (3, .int x3), (4, .int x4), (5, .int x5), (6, .int x6)] []) {c27 : pq_N → Nat → Int32 → Int32 → Int32 → Int32 → Int32 → Int32 → Int32 → Option (Int32 × pq_N)} (hk27 : ∀ (S : pq_N) (a0 : Nat) (x1 : Int32) (x2 : Int32) (x3 : Int32) (x4 : Int32) (x5 : Int32) (x6 : Int32) (x7 : Int32), pq_ok G 10 a0 → c27 S a0 x1 x2 x3 x4 x5 x6 x7 = some (r, S1) → pq_V p l e (headSpec wsL_isBlame ({ frames := 8, cells := 0, slots := 0, locals := 209 } : Room)).room s m av below meth c 0 0 (MQ below (pq_Qi D y G s.heap.size r S1) av s 0 0 (pq_A G s.heap.size)) D y 10 (pq_A G s.heap.size) (fun _ => True) G S 27 [(0, .ref a0), (1, .int x1), (2, .int x2), (3, .int x3), (4, .int x4), (5, .int x5), (6, .int x6), (7, .int x7)] []) : ∀ (S : pq_N) (a0 : Nat) (x1 : Int32) (x3 : Int32) (x4 : Int32) (x5 : Int32) (x6 : Int32) (x7 : Int32) (x8 : Int32) (t0 : Int32) (t1 : Int32), pq_ok G 10 a0 → F_L_isBlame_b62 G c15 c27 S a0 x1 x3 x4 x5 x6 x7 x8 t0 t1 = some (r, S1) → pq_V p l e (headSpec wsL_isBlame ({ frames := 8, cells := 0, slots := 0, locals := 209 } : Room)).room s m av below meth c 0 0 (MQ below (pq_Qi D y G s.heap.size r S1) av s 0 0 (pq_A G s.heap.size)) D y 10 (pq_A G s.heap.size) (fun _ => True) G S 62 [(0, .ref a0), (1, .int x1), (3, .int x3), (4, .int x4), (5, .int x5), (6, .int x6), (7, .int x7), (8, .int x8)] [.int t0, .int t1] := by
  intro S a0 x1 x3 x4 x5 x6 x7 x8 t0 t1 k0_ h
  unfold F_L_isBlame_b62 at h
  refine pv_iadd C dL_isBlame_62 ?_
  refine pv_istore_n C [(2, .int (t1 + t0)), (0, .ref a0), (1, .int x1), (3, .int x3), (4, .int x4), (5, .int x5), (6, .int x6), (7, .int x7), (8, .int x8)] dL_isBlame_63 rfl (by decide) rfl ?_
  refine pv_iload_n C 3 dL_isBlame_64 rfl rfl ?_
  refine pv_iload C 8 dL_isBlame_65 rfl ?_
  refine pv_iadd C dL_isBlame_67 ?_
  refine pv_istore_n C [(3, .int (x3 + x8)), (2, .int (t1 + t0)), (0, .ref a0), (1, .int x1), (4, .int x4), (5, .int x5), (6, .int x6), (7, .int x7), (8, .int x8)] dL_isBlame_68 rfl (by decide) rfl ?_
  refine pv_iload C 4 dL_isBlame_69 rfl ?_
  refine pv_aload_n C 2 dL_isBlame_71 rfl rfl ?_
  refine pv_iload C 6 dL_isBlame_72 rfl ?_
  refine pv_iload C 7 dL_isBlame_74 rfl ?_
  obtain ⟨v49, S50, e51, h⟩ := pq_bs h
  refine pv_calliV C (ci := 10) rfl (by decide) k0_ [.int x6, .int x7] (fun sz => e_X10_quotedAgain W0 k0_ e51 sz) (cwV 2 C.1.2.2.2.2 gL_isBlame_X10_quotedAgain rfl rfl rfl (by decide +kernel) ⟨Nat.le_of_ble_eq_true rfl, Nat.le_of_ble_eq_true rfl⟩) rfl rfl (Nat.le_of_ble_eq_true rfl) dL_isBlame_76 ⟨Nat.le_of_ble_eq_true rfl, Nat.le_of_ble_eq_true rfl⟩ ?_
  refine pv_iadd C dL_isBlame_79 ?_
  refine pv_istore C [(4, .int (x4 + v49)), (3, .int (x3 + x8)), (2, .int (t1 + t0)), (0, .ref a0), (1, .int x1), (5, .int x5), (6, .int x6), (7, .int x7), (8, .int x8)] dL_isBlame_80 (by decide) rfl ?_
  refine pv_iload C 5 dL_isBlame_82 rfl ?_
  refine pv_aload_n C 3 dL_isBlame_84 rfl rfl ?_
  refine pv_iload C 6 dL_isBlame_85 rfl ?_
  refine pv_iload C 7 dL_isBlame_87 rfl ?_
  obtain ⟨v52, S53, e54, h⟩ := pq_bs h
  refine pv_calliV C (ci := 10) rfl (by decide) k0_ [.int x6, .int x7] (fun sz => e_X10_comesFrom W0 k0_ e54 sz) (cwV 2 C.1.2.2.2.2 gL_isBlame_X10_comesFrom rfl rfl rfl (by decide +kernel) ⟨Nat.le_of_ble_eq_true rfl, Nat.le_of_ble_eq_true rfl⟩) rfl rfl (Nat.le_of_ble_eq_true rfl) dL_isBlame_89 ⟨Nat.le_of_ble_eq_true rfl, Nat.le_of_ble_eq_true rfl⟩ ?_
  refine pv_iconst (v := -1) C dL_isBlame_92 (by decide) ?_
  refine pv_icmp_ne (tgt := 100) C dL_isBlame_93 (by decide) (fun c55 => ?_) (fun c55 => ?_)
  · have h := pq_if c55 h
    refine pv_iconst (v := 1) C dL_isBlame_100 (by decide) ?_
    refine pv_sub [3, 4, 2, 1, 0, 6, 7] rfl ?_
    exact r_L_isBlame_b101 W0 C hr hlk hk15 hk27 _ _ _ _ _ _ _ _ _ _ k0_ h
  · have h := pq_it c55 h
    refine pv_iconst (v := 0) C dL_isBlame_96 (by decide) ?_
    refine pv_goto (tgt := 101) C dL_isBlame_97 (by decide) ?_
    refine pv_sub [3, 4, 2, 1, 0, 6, 7] rfl ?_
    exact r_L_isBlame_b101 W0 C hr hlk hk15 hk27 _ _ _ _ _ _ _ _ _ _ k0_ h
set_option maxHeartbeats 4000000 in
set_option maxRecDepth 100000 in
theorem r_L_isBlame_b27 {p : Program} {l : Launch} {e : Env} {s : State} {m : MethodId} {av : Array Value} {below : List Frame} {meth : Method} {c : Code} {D : va_G} {y : pq_Y} {G : pq_G} {r : Int32} {S1 : pq_N} (W0 : pq_WT G) (C : pq_C p s m av c D y RL wsL_isBlame cL_isBlame 10) (hr : meth.sig.returnType = (some .boolean)) (hlk : meth.locks = false) {c15 : pq_N → Nat → Int32 → Int32 → Int32 → Int32 → Int32 → Int32 → Option (Int32 × pq_N)} (hk15 : ∀ (S : pq_N) (a0 : Nat) (x1 : Int32) (x2 : Int32) (x3 : Int32) (x4 : Int32) (x5 : Int32) (x6 : Int32), pq_ok G 10 a0 → c15 S a0 x1 x2 x3 x4 x5 x6 = some (r, S1) → pq_V p l e (headSpec wsL_isBlame ({ frames := 8, cells := 0, slots := 0, locals := 209 } : Room)).room s m av below meth c 0 0 (MQ below (pq_Qi D y G s.heap.size r S1) av s 0 0 (pq_A G s.heap.size)) D y 10 (pq_A G s.heap.size) (fun _ => True) G S 15 [(0, .ref a0), (1, .int x1), (2, .int x2), (3, .int x3), (4, .int x4), (5, .int x5), (6, .int x6)] []) (n : Nat) : ∀ (S : pq_N) (a0 : Nat) (x1 : Int32) (x2 : Int32) (x3 : Int32) (x4 : Int32) (x5 : Int32) (x6 : Int32) (x7 : Int32), pq_ok G 10 a0 → F_L_isBlame_b27 G c15 n S a0 x1 x2 x3 x4 x5 x6 x7 = some (r, S1) → pq_V p l e (headSpec wsL_isBlame ({ frames := 8, cells := 0, slots := 0, locals := 209 } : Room)).room s m av below meth c 0 0 (MQ below (pq_Qi D y G s.heap.size r S1) av s 0 0 (pq_A G s.heap.size)) D y 10 (pq_A G s.heap.size) (fun _ => True) G S 27 [(0, .ref a0), (1, .int x1), (2, .int x2), (3, .int x3), (4, .int x4), (5, .int x5), (6, .int x6), (7, .int x7)] [] := by
  induction n with
  | zero =>
    intro S a0 x1 x2 x3 x4 x5 x6 x7 k0_ h
    rw [F_L_isBlame_b27.eq_1] at h; cases h
  | succ n ih =>
    intro S a0 x1 x2 x3 x4 x5 x6 x7 k0_ h
    rw [F_L_isBlame_b27.eq_2] at h
    refine pv_iload C 7 dL_isBlame_27 rfl ?_
    refine pv_aload_n C 0 dL_isBlame_29 rfl rfl ?_
    refine pv_iload C 6 dL_isBlame_30 rfl ?_
    obtain ⟨v37, S38, e39, h⟩ := pq_bs h
    refine pv_calliV C (ci := 10) rfl (by decide) k0_ [.int x6] (fun sz => e_X10_quotationsOf W0 k0_ e39 sz) (cwV 1 C.1.2.2.2.2 gL_isBlame_X10_quotationsOf rfl rfl rfl (by decide +kernel) ⟨Nat.le_of_ble_eq_true rfl, Nat.le_of_ble_eq_true rfl⟩) rfl rfl (Nat.le_of_ble_eq_true rfl) dL_isBlame_32 ⟨Nat.le_of_ble_eq_true rfl, Nat.le_of_ble_eq_true rfl⟩ ?_
    refine pv_icmp_ge (tgt := 123) C dL_isBlame_35 (by decide) (fun c40 => ?_) (fun c40 => ?_)
    · have h := pq_it c40 h
      refine pv_iinc (v := (x6 + (1 : Int32))) C 6 [(6, .int (x6 + (1 : Int32))), (0, .ref a0), (1, .int x1), (2, .int x2), (3, .int x3), (4, .int x4), (5, .int x5), (7, .int x7)] dL_isBlame_123 rfl rfl (by decide) rfl ?_
      refine pv_goto (tgt := 15) C dL_isBlame_126 (by decide) ?_
      refine pv_sub [1, 2, 3, 4, 5, 6, 0] rfl ?_
      exact hk15 _ _ _ _ _ _ _ _ k0_ h
    · have h := pq_if c40 h
      refine pv_aload_n C 0 dL_isBlame_38 rfl rfl ?_
      refine pv_iload C 6 dL_isBlame_39 rfl ?_
      refine pv_iload C 7 dL_isBlame_41 rfl ?_
      obtain ⟨v41, S42, e43, h⟩ := pq_bs h
      refine pv_calliV C (ci := 10) rfl (by decide) k0_ [.int x6, .int x7] (fun sz => e_X10_changesByTable W0 k0_ e43 sz) (cwV 2 C.1.2.2.2.2 gL_isBlame_X10_changesByTable rfl rfl rfl (by decide +kernel) ⟨Nat.le_of_ble_eq_true rfl, Nat.le_of_ble_eq_true rfl⟩) rfl rfl (Nat.le_of_ble_eq_true rfl) dL_isBlame_43 ⟨Nat.le_of_ble_eq_true rfl, Nat.le_of_ble_eq_true rfl⟩ ?_
      refine pv_istore C [(8, .int v41), (0, .ref a0), (1, .int x1), (2, .int x2), (3, .int x3), (4, .int x4), (5, .int x5), (6, .int x6), (7, .int x7)] dL_isBlame_46 (by decide) rfl ?_
      refine pv_iinc (v := (x1 + (1 : Int32))) C 2 [(1, .int (x1 + (1 : Int32))), (8, .int v41), (0, .ref a0), (2, .int x2), (3, .int x3), (4, .int x4), (5, .int x5), (6, .int x6), (7, .int x7)] dL_isBlame_48 rfl rfl (by decide) rfl ?_
      refine pv_iload_n C 3 dL_isBlame_51 rfl rfl ?_
      refine pv_iload C 1 dL_isBlame_52 rfl ?_
      refine pv_if_ne (tgt := 61) C dL_isBlame_54 (by decide) (fun c44 => ?_) (fun c44 => ?_)
      · have h := pq_if c44 h
        refine pv_iconst (v := 0) C dL_isBlame_61 (by decide) ?_
        refine pv_sub [2, 0, 4, 5, 6, 7, 8, 1] rfl ?_
        exact r_L_isBlame_b62 W0 C hr hlk hk15 ih _ _ _ _ _ _ _ _ _ _ _ k0_ h
      · have h := pq_it c44 h
        refine pv_iconst (v := 1) C dL_isBlame_57 (by decide) ?_
        refine pv_goto (tgt := 62) C dL_isBlame_58 (by decide) ?_
        refine pv_sub [2, 0, 4, 5, 6, 7, 8, 1] rfl ?_
        exact r_L_isBlame_b62 W0 C hr hlk hk15 ih _ _ _ _ _ _ _ _ _ _ _ k0_ h
set_option maxHeartbeats 4000000 in
set_option maxRecDepth 100000 in
theorem r_L_isBlame_b159 {p : Program} {l : Launch} {e : Env} {s : State} {m : MethodId} {av : Array Value} {below : List Frame} {meth : Method} {c : Code} {D : va_G} {y : pq_Y} {G : pq_G} {r : Int32} {S1 : pq_N} (W0 : pq_WT G) (C : pq_C p s m av c D y RL wsL_isBlame cL_isBlame 10) (hr : meth.sig.returnType = (some .boolean)) (hlk : meth.locks = false) {c138 : pq_N → Nat → Int32 → Int32 → Int32 → Int32 → Int32 → Int32 → Int32 → Int32 → Option (Int32 × pq_N)} (hk138 : ∀ (S : pq_N) (a0 : Nat) (x1 : Int32) (x2 : Int32) (x3 : Int32) (x4 : Int32) (x5 : Int32) (x6 : Int32) (x7 : Int32) (x8 : Int32), pq_ok G 10 a0 → c138 S a0 x1 x2 x3 x4 x5 x6 x7 x8 = some (r, S1) → pq_V p l e (headSpec wsL_isBlame ({ frames := 8, cells := 0, slots := 0, locals := 209 } : Room)).room s m av below meth c 0 0 (MQ below (pq_Qi D y G s.heap.size r S1) av s 0 0 (pq_A G s.heap.size)) D y 10 (pq_A G s.heap.size) (fun _ => True) G S 138 [(0, .ref a0), (1, .int x1), (2, .int x2), (3, .int x3), (4, .int x4), (5, .int x5), (6, .int x6), (7, .int x7), (8, .int x8)] []) (n : Nat) : ∀ (S : pq_N) (a0 : Nat) (x1 : Int32) (x2 : Int32) (x3 : Int32) (x4 : Int32) (x5 : Int32) (x6 : Int32) (x7 : Int32) (x8 : Int32) (x9 : Int32), pq_ok G 10 a0 → F_L_isBlame_b159 G c138 n S a0 x1 x2 x3 x4 x5 x6 x7 x8 x9 = some (r, S1) → pq_V p l e (headSpec wsL_isBlame ({ frames := 8, cells := 0, slots := 0, locals := 209 } : Room)).room s m av below meth c 0 0 (MQ below (pq_Qi D y G s.heap.size r S1) av s 0 0 (pq_A G s.heap.size)) D y 10 (pq_A G s.heap.size) (fun _ => True) G S 159 [(0, .ref a0), (1, .int x1), (2, .int x2), (3, .int x3), (4, .int x4), (5, .int x5), (6, .int x6), (7, .int x7), (8, .int x8), (9, .int x9)] [] := by
  induction n with
  | zero =>
    intro S a0 x1 x2 x3 x4 x5 x6 x7 x8 x9 k0_ h
    rw [F_L_isBlame_b159.eq_1] at h; cases h
  | succ n ih =>
    intro S a0 x1 x2 x3 x4 x5 x6 x7 x8 x9 k0_ h
    rw [F_L_isBlame_b159.eq_2] at h
    refine pv_iload C 9 dL_isBlame_159 rfl ?_
    refine pv_bipush (v := 8) C dL_isBlame_161 (by decide) ?_
    refine pv_icmp_ge (tgt := 185) C dL_isBlame_163 (by decide) (fun c45 => ?_) (fun c45 => ?_)
    · have h := pq_it c45 h
      refine pv_iinc (v := (x8 + (1 : Int32))) C 8 [(8, .int (x8 + (1 : Int32))), (0, .ref a0), (1, .int x1), (2, .int x2), (3, .int x3), (4, .int x4), (5, .int x5), (6, .int x6), (7, .int x7), (9, .int x9)] dL_isBlame_185 rfl rfl (by decide) rfl ?_
      refine pv_goto (tgt := 138) C dL_isBlame_188 (by decide) ?_
      refine pv_sub [1, 2, 3, 4, 5, 6, 7, 8, 0] rfl ?_
      exact hk138 _ _ _ _ _ _ _ _ _ _ k0_ h
    · have h := pq_if c45 h
      refine pv_iload C 7 dL_isBlame_166 rfl ?_
      refine pv_aload_n C 0 dL_isBlame_168 rfl rfl ?_
      refine pv_iload C 8 dL_isBlame_169 rfl ?_
      refine pv_iload C 9 dL_isBlame_171 rfl ?_
      obtain ⟨v46, S47, e48, h⟩ := pq_bs h
      refine pv_calliV C (ci := 10) rfl (by decide) k0_ [.int x8, .int x9] (fun sz => e_X10_wrongs W0 k0_ e48 sz) (cwV 2 C.1.2.2.2.2 gL_isBlame_X10_wrongs rfl rfl rfl (by decide +kernel) ⟨Nat.le_of_ble_eq_true rfl, Nat.le_of_ble_eq_true rfl⟩) rfl rfl (Nat.le_of_ble_eq_true rfl) dL_isBlame_173 ⟨Nat.le_of_ble_eq_true rfl, Nat.le_of_ble_eq_true rfl⟩ ?_
      refine pv_iadd C dL_isBlame_176 ?_
      refine pv_istore C [(7, .int (x7 + v46)), (0, .ref a0), (1, .int x1), (2, .int x2), (3, .int x3), (4, .int x4), (5, .int x5), (6, .int x6), (8, .int x8), (9, .int x9)] dL_isBlame_177 (by decide) rfl ?_
      refine pv_iinc (v := (x9 + (1 : Int32))) C 9 [(9, .int (x9 + (1 : Int32))), (7, .int (x7 + v46)), (0, .ref a0), (1, .int x1), (2, .int x2), (3, .int x3), (4, .int x4), (5, .int x5), (6, .int x6), (8, .int x8)] dL_isBlame_179 rfl rfl (by decide) rfl ?_
      refine pv_goto (tgt := 159) C dL_isBlame_182 (by decide) ?_
      refine pv_sub [2, 3, 4, 5, 6, 7, 8, 1, 9, 0] rfl ?_
      exact ih _ _ _ _ _ _ _ _ _ _ _ k0_ h
set_option maxHeartbeats 4000000 in
set_option maxRecDepth 100000 in
theorem r_L_isBlame_b138 {p : Program} {l : Launch} {e : Env} {s : State} {m : MethodId} {av : Array Value} {below : List Frame} {meth : Method} {c : Code} {D : va_G} {y : pq_Y} {G : pq_G} {r : Int32} {S1 : pq_N} (W0 : pq_WT G) (C : pq_C p s m av c D y RL wsL_isBlame cL_isBlame 10) (hr : meth.sig.returnType = (some .boolean)) (hlk : meth.locks = false) (n : Nat) : ∀ (S : pq_N) (a0 : Nat) (x1 : Int32) (x2 : Int32) (x3 : Int32) (x4 : Int32) (x5 : Int32) (x6 : Int32) (x7 : Int32) (x8 : Int32), pq_ok G 10 a0 → F_L_isBlame_b138 G n S a0 x1 x2 x3 x4 x5 x6 x7 x8 = some (r, S1) → pq_V p l e (headSpec wsL_isBlame ({ frames := 8, cells := 0, slots := 0, locals := 209 } : Room)).room s m av below meth c 0 0 (MQ below (pq_Qi D y G s.heap.size r S1) av s 0 0 (pq_A G s.heap.size)) D y 10 (pq_A G s.heap.size) (fun _ => True) G S 138 [(0, .ref a0), (1, .int x1), (2, .int x2), (3, .int x3), (4, .int x4), (5, .int x5), (6, .int x6), (7, .int x7), (8, .int x8)] [] := by
  induction n with
  | zero =>
    intro S a0 x1 x2 x3 x4 x5 x6 x7 x8 k0_ h
    rw [F_L_isBlame_b138.eq_1] at h; cases h
  | succ n ih =>
    intro S a0 x1 x2 x3 x4 x5 x6 x7 x8 k0_ h
    rw [F_L_isBlame_b138.eq_2] at h
    refine pv_iload C 8 dL_isBlame_138 rfl ?_
    refine pv_bipush (v := 8) C dL_isBlame_140 (by decide) ?_
    refine pv_icmp_ge (tgt := 191) C dL_isBlame_142 (by decide) (fun c15 => ?_) (fun c15 => ?_)
    · have h := pq_it c15 h
      refine pv_iload C 6 dL_isBlame_191 rfl ?_
      refine pv_iload_n C 3 dL_isBlame_193 rfl rfl ?_
      refine pv_icmp_ne (tgt := 251) C dL_isBlame_194 (by decide) (fun c16 => ?_) (fun c16 => ?_)
      · have h := pq_if c16 h
        refine pv_iconst (v := 0) C dL_isBlame_251 (by decide) ?_
        exact pv_zret C hr rfl hlk h dL_isBlame_252
      · have h := pq_it c16 h
        refine pv_iload C 7 dL_isBlame_197 rfl ?_
        refine pv_iload_n C 3 dL_isBlame_199 rfl rfl ?_
        refine pv_icmp_ne (tgt := 251) C dL_isBlame_200 (by decide) (fun c17 => ?_) (fun c17 => ?_)
        · have h := pq_if c17 h
          refine pv_iconst (v := 0) C dL_isBlame_251 (by decide) ?_
          exact pv_zret C hr rfl hlk h dL_isBlame_252
        · have h := pq_it c17 h
          refine pv_aload_n C 0 dL_isBlame_203 rfl rfl ?_
          obtain ⟨v18, S19, e20, h⟩ := pq_bs h
          refine pv_calliV C (ci := 10) rfl (by decide) k0_ [] (fun sz => r_X10_blameByAuthors W0 k0_ e20 sz) (cwV 0 C.1.2.2.2.2 gL_isBlame_X10_blameByAuthors rfl rfl rfl (by decide +kernel) ⟨Nat.le_of_ble_eq_true rfl, Nat.le_of_ble_eq_true rfl⟩) rfl rfl (Nat.le_of_ble_eq_true rfl) dL_isBlame_204 ⟨Nat.le_of_ble_eq_true rfl, Nat.le_of_ble_eq_true rfl⟩ ?_
          refine pv_iload_n C 3 dL_isBlame_207 rfl rfl ?_
          refine pv_icmp_ne (tgt := 251) C dL_isBlame_208 (by decide) (fun c21 => ?_) (fun c21 => ?_)
          · have h := pq_if c21 h
            refine pv_iconst (v := 0) C dL_isBlame_251 (by decide) ?_
            exact pv_zret C hr rfl hlk h dL_isBlame_252
          · have h := pq_it c21 h
            refine pv_aload_n C 0 dL_isBlame_211 rfl rfl ?_
            obtain ⟨v22, S23, e24, h⟩ := pq_bs h
            refine pv_calliV C (ci := 10) rfl (by decide) k0_ [] (fun sz => r_X10_blameBySources W0 k0_ e24 sz) (cwV 0 C.1.2.2.2.2 gL_isBlame_X10_blameBySources rfl rfl rfl (by decide +kernel) ⟨Nat.le_of_ble_eq_true rfl, Nat.le_of_ble_eq_true rfl⟩) rfl rfl (Nat.le_of_ble_eq_true rfl) dL_isBlame_212 ⟨Nat.le_of_ble_eq_true rfl, Nat.le_of_ble_eq_true rfl⟩ ?_
            refine pv_iload_n C 3 dL_isBlame_215 rfl rfl ?_
            refine pv_icmp_ne (tgt := 251) C dL_isBlame_216 (by decide) (fun c25 => ?_) (fun c25 => ?_)
            · have h := pq_if c25 h
              refine pv_iconst (v := 0) C dL_isBlame_251 (by decide) ?_
              exact pv_zret C hr rfl hlk h dL_isBlame_252
            · have h := pq_it c25 h
              refine pv_iload C 4 dL_isBlame_219 rfl ?_
              refine pv_iload C 5 dL_isBlame_221 rfl ?_
              refine pv_icmp_ne (tgt := 251) C dL_isBlame_223 (by decide) (fun c26 => ?_) (fun c26 => ?_)
              · have h := pq_if c26 h
                refine pv_iconst (v := 0) C dL_isBlame_251 (by decide) ?_
                exact pv_zret C hr rfl hlk h dL_isBlame_252
              · have h := pq_it c26 h
                refine pv_aload_n C 0 dL_isBlame_226 rfl rfl ?_
                obtain ⟨v27, S28, e29, h⟩ := pq_bs h
                refine pv_calldV C (ci := 10) rfl (by decide) k0_ [] (fun sz => r_X10_faithfulShare W0 k0_ e29 sz) (cwV 0 C.1.2.2.2.2 gL_isBlame_X10_faithfulShare rfl rfl rfl (by decide +kernel) ⟨Nat.le_of_ble_eq_true rfl, Nat.le_of_ble_eq_true rfl⟩) rfl rfl (Nat.le_of_ble_eq_true rfl) dL_isBlame_227 ⟨Nat.le_of_ble_eq_true rfl, Nat.le_of_ble_eq_true rfl⟩ ?_
                refine pv_iload_n C 1 dL_isBlame_230 rfl rfl ?_
                refine pv_if_ne (tgt := 238) C dL_isBlame_231 (by decide) (fun c30 => ?_) (fun c30 => ?_)
                · have h := pq_if c30 h
                  refine pv_iload_n C 2 dL_isBlame_238 rfl rfl ?_
                  refine pv_i2d C dL_isBlame_239 ?_
                  refine pv_iload_n C 1 dL_isBlame_240 rfl rfl ?_
                  refine pv_i2d C dL_isBlame_241 ?_
                  obtain ⟨g31, h⟩ := pq_gd h
                  refine pv_ddiv C dL_isBlame_242 (by have h9 := Decidable.not_not.mp g31; exact h9) ?_
                  refine pv_dcmp C dL_isBlame_243 ?_
                  refine pv_if_ne (tgt := 251) C dL_isBlame_244 (by decide) (fun c32 => ?_) (fun c32 => ?_)
                  · have h := pq_if c32 h
                    refine pv_iconst (v := 0) C dL_isBlame_251 (by decide) ?_
                    exact pv_zret C hr rfl hlk h dL_isBlame_252
                  · have h := pq_it c32 h
                    refine pv_iconst (v := 1) C dL_isBlame_247 (by decide) ?_
                    refine pv_goto (tgt := 252) C dL_isBlame_248 (by decide) ?_
                    exact pv_zret C hr rfl hlk h dL_isBlame_252
                · have h := pq_it c30 h
                  refine pv_dconst0 C dL_isBlame_234 ?_
                  refine pv_goto (tgt := 243) C dL_isBlame_235 (by decide) ?_
                  refine pv_dcmp C dL_isBlame_243 ?_
                  refine pv_if_ne (tgt := 251) C dL_isBlame_244 (by decide) (fun c33 => ?_) (fun c33 => ?_)
                  · have h := pq_if c33 h
                    refine pv_iconst (v := 0) C dL_isBlame_251 (by decide) ?_
                    exact pv_zret C hr rfl hlk h dL_isBlame_252
                  · have h := pq_it c33 h
                    refine pv_iconst (v := 1) C dL_isBlame_247 (by decide) ?_
                    refine pv_goto (tgt := 252) C dL_isBlame_248 (by decide) ?_
                    exact pv_zret C hr rfl hlk h dL_isBlame_252
    · have h := pq_if c15 h
      refine pv_iload C 6 dL_isBlame_145 rfl ?_
      refine pv_aload_n C 0 dL_isBlame_147 rfl rfl ?_
      refine pv_iload C 8 dL_isBlame_148 rfl ?_
      obtain ⟨v34, S35, e36, h⟩ := pq_bs h
      refine pv_calliV C (ci := 10) rfl (by decide) k0_ [.int x8] (fun sz => e_X10_blameOf W0 k0_ e36 sz) (cwV 1 C.1.2.2.2.2 gL_isBlame_X10_blameOf rfl rfl rfl (by decide +kernel) ⟨Nat.le_of_ble_eq_true rfl, Nat.le_of_ble_eq_true rfl⟩) rfl rfl (Nat.le_of_ble_eq_true rfl) dL_isBlame_150 ⟨Nat.le_of_ble_eq_true rfl, Nat.le_of_ble_eq_true rfl⟩ ?_
      refine pv_iadd C dL_isBlame_153 ?_
      refine pv_istore C [(6, .int (x6 + v34)), (0, .ref a0), (1, .int x1), (2, .int x2), (3, .int x3), (4, .int x4), (5, .int x5), (7, .int x7), (8, .int x8)] dL_isBlame_154 (by decide) rfl ?_
      refine pv_iconst (v := 0) C dL_isBlame_156 (by decide) ?_
      refine pv_istore C [(9, .int (0 : Int32)), (6, .int (x6 + v34)), (0, .ref a0), (1, .int x1), (2, .int x2), (3, .int x3), (4, .int x4), (5, .int x5), (7, .int x7), (8, .int x8)] dL_isBlame_157 (by decide) rfl ?_
      refine pv_sub [2, 3, 4, 5, 6, 7, 1, 8, 9, 0] rfl ?_
      exact r_L_isBlame_b159 W0 C hr hlk ih pq_fuel _ _ _ _ _ _ _ _ _ _ _ k0_ h
set_option maxHeartbeats 4000000 in
set_option maxRecDepth 100000 in
theorem r_L_isBlame_b15 {p : Program} {l : Launch} {e : Env} {s : State} {m : MethodId} {av : Array Value} {below : List Frame} {meth : Method} {c : Code} {D : va_G} {y : pq_Y} {G : pq_G} {r : Int32} {S1 : pq_N} (W0 : pq_WT G) (C : pq_C p s m av c D y RL wsL_isBlame cL_isBlame 10) (hr : meth.sig.returnType = (some .boolean)) (hlk : meth.locks = false) (n : Nat) : ∀ (S : pq_N) (a0 : Nat) (x1 : Int32) (x2 : Int32) (x3 : Int32) (x4 : Int32) (x5 : Int32) (x6 : Int32), pq_ok G 10 a0 → F_L_isBlame_b15 G n S a0 x1 x2 x3 x4 x5 x6 = some (r, S1) → pq_V p l e (headSpec wsL_isBlame ({ frames := 8, cells := 0, slots := 0, locals := 209 } : Room)).room s m av below meth c 0 0 (MQ below (pq_Qi D y G s.heap.size r S1) av s 0 0 (pq_A G s.heap.size)) D y 10 (pq_A G s.heap.size) (fun _ => True) G S 15 [(0, .ref a0), (1, .int x1), (2, .int x2), (3, .int x3), (4, .int x4), (5, .int x5), (6, .int x6)] [] := by
  induction n with
  | zero =>
    intro S a0 x1 x2 x3 x4 x5 x6 k0_ h
    rw [F_L_isBlame_b15.eq_1] at h; cases h
  | succ n ih =>
    intro S a0 x1 x2 x3 x4 x5 x6 k0_ h
    rw [F_L_isBlame_b15.eq_2] at h
    refine pv_iload C 6 dL_isBlame_15 rfl ?_
    refine pv_aload_n C 0 dL_isBlame_17 rfl rfl ?_
    obtain ⟨v11, S12, e13, h⟩ := pq_bs h
    refine pv_calliV C (ci := 10) rfl (by decide) k0_ [] (fun sz => r_X10_pamphlets W0 k0_ e13 sz) (cwV 0 C.1.2.2.2.2 gL_isBlame_X10_pamphlets rfl rfl rfl (by decide +kernel) ⟨Nat.le_of_ble_eq_true rfl, Nat.le_of_ble_eq_true rfl⟩) rfl rfl (Nat.le_of_ble_eq_true rfl) dL_isBlame_18 ⟨Nat.le_of_ble_eq_true rfl, Nat.le_of_ble_eq_true rfl⟩ ?_
    refine pv_icmp_ge (tgt := 129) C dL_isBlame_21 (by decide) (fun c14 => ?_) (fun c14 => ?_)
    · have h := pq_it c14 h
      refine pv_iconst (v := 0) C dL_isBlame_129 (by decide) ?_
      refine pv_istore C [(6, .int (0 : Int32)), (0, .ref a0), (1, .int x1), (2, .int x2), (3, .int x3), (4, .int x4), (5, .int x5)] dL_isBlame_130 (by decide) rfl ?_
      refine pv_iconst (v := 0) C dL_isBlame_132 (by decide) ?_
      refine pv_istore C [(7, .int (0 : Int32)), (6, .int (0 : Int32)), (0, .ref a0), (1, .int x1), (2, .int x2), (3, .int x3), (4, .int x4), (5, .int x5)] dL_isBlame_133 (by decide) rfl ?_
      refine pv_iconst (v := 0) C dL_isBlame_135 (by decide) ?_
      refine pv_istore C [(8, .int (0 : Int32)), (7, .int (0 : Int32)), (6, .int (0 : Int32)), (0, .ref a0), (1, .int x1), (2, .int x2), (3, .int x3), (4, .int x4), (5, .int x5)] dL_isBlame_136 (by decide) rfl ?_
      refine pv_sub [3, 4, 5, 6, 7, 8, 2, 1, 0] rfl ?_
      exact r_L_isBlame_b138 W0 C hr hlk pq_fuel _ _ _ _ _ _ _ _ _ _ k0_ h
    · have h := pq_if c14 h
      refine pv_iconst (v := 0) C dL_isBlame_24 (by decide) ?_
      refine pv_istore C [(7, .int (0 : Int32)), (0, .ref a0), (1, .int x1), (2, .int x2), (3, .int x3), (4, .int x4), (5, .int x5), (6, .int x6)] dL_isBlame_25 (by decide) rfl ?_
      refine pv_sub [1, 2, 3, 4, 5, 6, 7, 0] rfl ?_
      exact r_L_isBlame_b27 W0 C hr hlk ih pq_fuel _ _ _ _ _ _ _ _ _ k0_ h
set_option maxHeartbeats 4000000 in
set_option maxRecDepth 100000 in
theorem r_L_isBlame {l : Launch} {D : va_G} {y : pq_Y} {G : pq_G} (W0 : pq_WT G) {S : pq_N} {a0 : Nat} (k0_ : pq_ok G 10 a0) {r : Int32} {S1 : pq_N} (h : F_L_isBlame G S a0 = some (r, S1)) (sz : Nat) : Met l yL_isBlame wsL_isBlame ({ frames := 8, cells := 0, slots := 0, locals := 209 } : Room) (pq_P D y G S sz [.ref a0]) (pq_Qi D y G sz r S1) 0 0 (pq_A G sz) := by
  refine pq_enter RL 10 (by decide) rfl rfl rfl ?_
  intro p e s m below meth c C hsz hr hlk
  subst hsz
  unfold F_L_isBlame at h
  refine pv_sub (lo1 := [(0, .ref a0)]) [0] rfl ?_
  refine pv_iconst (v := 0) C dL_isBlame_0 (by decide) ?_
  refine pv_istore_n C [(1, .int (0 : Int32)), (0, .ref a0)] dL_isBlame_1 rfl (by decide) rfl ?_
  refine pv_iconst (v := 0) C dL_isBlame_2 (by decide) ?_
  refine pv_istore_n C [(2, .int (0 : Int32)), (1, .int (0 : Int32)), (0, .ref a0)] dL_isBlame_3 rfl (by decide) rfl ?_
  refine pv_iconst (v := 0) C dL_isBlame_4 (by decide) ?_
  refine pv_istore_n C [(3, .int (0 : Int32)), (2, .int (0 : Int32)), (1, .int (0 : Int32)), (0, .ref a0)] dL_isBlame_5 rfl (by decide) rfl ?_
  refine pv_iconst (v := 0) C dL_isBlame_6 (by decide) ?_
  refine pv_istore C [(4, .int (0 : Int32)), (3, .int (0 : Int32)), (2, .int (0 : Int32)), (1, .int (0 : Int32)), (0, .ref a0)] dL_isBlame_7 (by decide) rfl ?_
  refine pv_iconst (v := 0) C dL_isBlame_9 (by decide) ?_
  refine pv_istore C [(5, .int (0 : Int32)), (4, .int (0 : Int32)), (3, .int (0 : Int32)), (2, .int (0 : Int32)), (1, .int (0 : Int32)), (0, .ref a0)] dL_isBlame_10 (by decide) rfl ?_
  refine pv_iconst (v := 0) C dL_isBlame_12 (by decide) ?_
  refine pv_istore C [(6, .int (0 : Int32)), (5, .int (0 : Int32)), (4, .int (0 : Int32)), (3, .int (0 : Int32)), (2, .int (0 : Int32)), (1, .int (0 : Int32)), (0, .ref a0)] dL_isBlame_13 (by decide) rfl ?_
  refine pv_sub [6, 5, 4, 3, 2, 1, 0] rfl ?_
  exact r_L_isBlame_b15 W0 C hr hlk pq_fuel _ _ _ _ _ _ _ _ k0_ h
def F_L_isGlossary_b172 (G : pq_G) (c39 : pq_N → Nat → Int32 → Int32 → Int32 → Int32 → Option (Int32 × pq_N)) (S : pq_N) (a0 : Nat) (x1 : Int32) (x2 : Int32) (x3 : Int32) (x4 : Int32) (x5 : Int32) : Option (Int32 × pq_N) := (if x5 < (1 : Int32) then some ((0 : Int32), S) else (pq_bd (E_X10_glossaryLetter G S a0 x4 (0 : Int32)) fun v48 S49 => (if v48 < (97 : Int32) then some ((0 : Int32), S49) else (pq_bd (E_X10_glossaryLetter G S49 a0 x4 (7 : Int32)) fun v52 S53 => (if v52 = (-1 : Int32) then c39 S53 a0 x1 x2 x3 (x4 + (1 : Int32)) else some ((0 : Int32), S53))))))
def F_L_isGlossary_b149 (G : pq_G) (c39 : pq_N → Nat → Int32 → Int32 → Int32 → Int32 → Option (Int32 × pq_N)) (S : pq_N) (a0 : Nat) (x1 : Int32) (x2 : Int32) (x3 : Int32) (x4 : Int32) (x5 : Int32) (x6 : Int32) : Option (Int32 × pq_N) := (if x6 = (0 : Int32) then some ((0 : Int32), S) else (if x4 ≤ (0 : Int32) then F_L_isGlossary_b172 G c39 S a0 x1 x2 x3 x4 x5 else (pq_bd (E_X10_timesOf G S a0 (x4 - (1 : Int32))) fun v43 S44 => (if v43 < x5 then some ((0 : Int32), S44) else F_L_isGlossary_b172 G c39 S44 a0 x1 x2 x3 x4 x5))))
def F_L_isGlossary_b86 (G : pq_G) (c39 : pq_N → Nat → Int32 → Int32 → Int32 → Int32 → Option (Int32 × pq_N)) : Nat → pq_N → Nat → Int32 → Int32 → Int32 → Int32 → Int32 → Int32 → Int32 → Option (Int32 × pq_N)
  | 0, _, _, _, _, _, _, _, _, _ => none
  | n + 1, S, a0, x1, x2, x3, x4, x5, x6, x7 => (if (7 : Int32) ≤ x7 then F_L_isGlossary_b149 G c39 S a0 x1 x2 x3 x4 x5 x6 else (if x6 = (0 : Int32) then (pq_bd (E_X10_glossaryLetter G S a0 (x4 - (1 : Int32)) x7) fun v33 S34 => (pq_bd (E_X10_glossaryLetter G S34 a0 x4 x7) fun v36 S37 => (if v33 ≤ v36 then (if v36 ≤ v33 then (F_L_isGlossary_b86 G c39 n) S37 a0 x1 x2 x3 x4 x5 (0 : Int32) (x7 + (1 : Int32)) else (F_L_isGlossary_b86 G c39 n) S37 a0 x1 x2 x3 x4 x5 (1 : Int32) (x7 + (1 : Int32))) else some ((0 : Int32), S37)))) else F_L_isGlossary_b149 G c39 S a0 x1 x2 x3 x4 x5 x6))
def F_L_isGlossary_b39 (G : pq_G)  : Nat → pq_N → Nat → Int32 → Int32 → Int32 → Int32 → Option (Int32 × pq_N)
  | 0, _, _, _, _, _, _ => none
  | n + 1, S, a0, x1, x2, x3, x4 => (if x1 ≤ x4 then (if x3 = x2 then some ((1 : Int32), S) else some ((0 : Int32), S)) else (pq_bd (E_X10_timesOf G S a0 x4) fun v23 S24 => (if x4 = (0 : Int32) then F_L_isGlossary_b86 G ((F_L_isGlossary_b39 G n)) pq_fuel S24 a0 x1 x2 (x3 + v23) x4 v23 (1 : Int32) (0 : Int32) else (pq_bd (E_X10_timesOf G S24 a0 (x4 - (1 : Int32))) fun v27 S28 => (if v27 ≤ v23 then F_L_isGlossary_b86 G ((F_L_isGlossary_b39 G n)) pq_fuel S28 a0 x1 x2 (x3 + v23) x4 v23 (0 : Int32) (0 : Int32) else F_L_isGlossary_b86 G ((F_L_isGlossary_b39 G n)) pq_fuel S28 a0 x1 x2 (x3 + v23) x4 v23 (1 : Int32) (0 : Int32))))))
def F_L_isGlossary_b12 (G : pq_G)  : Nat → pq_N → Nat → Int32 → Int32 → Int32 → Int32 → Option (Int32 × pq_N)
  | 0, _, _, _, _, _, _ => none
  | n + 1, S, a0, x1, x2, x3, x4 => (pq_bd (F_X10_pamphlets G S a0) fun v14 S15 => (if v14 ≤ x4 then F_L_isGlossary_b39 G pq_fuel S15 a0 x1 x2 x3 (0 : Int32) else (pq_bd (E_X10_wordsOf G S15 a0 x4) fun v18 S19 => (F_L_isGlossary_b12 G n) S19 a0 x1 (x2 + v18) x3 (x4 + (1 : Int32)))))
def F_L_isGlossary (G : pq_G) (S : pq_N) (a0 : Nat) : Option (Int32 × pq_N) := (pq_bd (F_X10_glossary G S a0) fun v11 S12 => F_L_isGlossary_b12 G pq_fuel S12 a0 v11 (0 : Int32) (0 : Int32) (0 : Int32))
set_option maxHeartbeats 4000000 in
set_option maxRecDepth 100000 in
theorem r_L_isGlossary_b172 {p : Program} {l : Launch} {e : Env} {s : State} {m : MethodId} {av : Array Value} {below : List Frame} {meth : Method} {c : Code} {D : va_G} {y : pq_Y} {G : pq_G} {r : Int32} {S1 : pq_N} (W0 : pq_WT G) (C : pq_C p s m av c D y RL wsL_isGlossary cL_isGlossary 10) (hr : meth.sig.returnType = (some .boolean)) (hlk : meth.locks = false) {c39 : pq_N → Nat → Int32 → Int32 → Int32 → Int32 → Option (Int32 × pq_N)} (hk39 : ∀ (S : pq_N) (a0 : Nat) (x1 : Int32) (x2 : Int32) (x3 : Int32) (x4 : Int32), pq_ok G 10 a0 → c39 S a0 x1 x2 x3 x4 = some (r, S1) → pq_V p l e (headSpec wsL_isGlossary ({ frames := 5, cells := 0, slots := 0, locals := 117 } : Room)).room s m av below meth c 0 0 (MQ below (pq_Qi D y G s.heap.size r S1) av s 0 0 (pq_A G s.heap.size)) D y 10 (pq_A G s.heap.size) (fun _ => True) G S 39 [(0, .ref a0), (1, .int x1), (2, .int x2), (3, .int x3), (4, .int x4)] []) : ∀ (S : pq_N) (a0 : Nat) (x1 : Int32) (x2 : Int32) (x3 : Int32) (x4 : Int32) (x5 : Int32), pq_ok G 10 a0 → F_L_isGlossary_b172 G c39 S a0 x1 x2 x3 x4 x5 = some (r, S1) → pq_V p l e (headSpec wsL_isGlossary ({ frames := 5, cells := 0, slots := 0, locals := 117 } : Room)).room s m av below meth c 0 0 (MQ below (pq_Qi D y G s.heap.size r S1) av s 0 0 (pq_A G s.heap.size)) D y 10 (pq_A G s.heap.size) (fun _ => True) G S 172 [(0, .ref a0), (1, .int x1), (2, .int x2), (3, .int x3), (4, .int x4), (5, .int x5)] [] := by
  intro S a0 x1 x2 x3 x4 x5 k0_ h
  unfold F_L_isGlossary_b172 at h
  refine pv_iload C 5 dL_isGlossary_172 rfl ?_
  refine pv_iconst (v := 1) C dL_isGlossary_174 (by decide) ?_
  refine pv_icmp_lt (tgt := 202) C dL_isGlossary_175 (by decide) (fun c47 => ?_) (fun c47 => ?_)
  · have h := pq_it c47 h
    refine pv_iconst (v := 0) C dL_isGlossary_202 (by decide) ?_
    exact pv_zret C hr rfl hlk h dL_isGlossary_203
  · have h := pq_if c47 h
    refine pv_aload_n C 0 dL_isGlossary_178 rfl rfl ?_
    refine pv_iload C 4 dL_isGlossary_179 rfl ?_
    refine pv_iconst (v := 0) C dL_isGlossary_181 (by decide) ?_
    obtain ⟨v48, S49, e50, h⟩ := pq_bs h
    refine pv_calliV C (ci := 10) rfl (by decide) k0_ [.int x4, .int (0 : Int32)] (fun sz => e_X10_glossaryLetter W0 k0_ e50 sz) (cwV 2 C.1.2.2.2.2 gL_isGlossary_X10_glossaryLetter rfl rfl rfl (by decide +kernel) ⟨Nat.le_of_ble_eq_true rfl, Nat.le_of_ble_eq_true rfl⟩) rfl rfl (Nat.le_of_ble_eq_true rfl) dL_isGlossary_182 ⟨Nat.le_of_ble_eq_true rfl, Nat.le_of_ble_eq_true rfl⟩ ?_
    refine pv_bipush (v := 97) C dL_isGlossary_185 (by decide) ?_
    refine pv_icmp_lt (tgt := 202) C dL_isGlossary_187 (by decide) (fun c51 => ?_) (fun c51 => ?_)
    · have h := pq_it c51 h
      refine pv_iconst (v := 0) C dL_isGlossary_202 (by decide) ?_
      exact pv_zret C hr rfl hlk h dL_isGlossary_203
    · have h := pq_if c51 h
      refine pv_aload_n C 0 dL_isGlossary_190 rfl rfl ?_
      refine pv_iload C 4 dL_isGlossary_191 rfl ?_
      refine pv_bipush (v := 7) C dL_isGlossary_193 (by decide) ?_
      obtain ⟨v52, S53, e54, h⟩ := pq_bs h
      refine pv_calliV C (ci := 10) rfl (by decide) k0_ [.int x4, .int (7 : Int32)] (fun sz => e_X10_glossaryLetter W0 k0_ e54 sz) (cwV 2 C.1.2.2.2.2 gL_isGlossary_X10_glossaryLetter rfl rfl rfl (by decide +kernel) ⟨Nat.le_of_ble_eq_true rfl, Nat.le_of_ble_eq_true rfl⟩) rfl rfl (Nat.le_of_ble_eq_true rfl) dL_isGlossary_195 ⟨Nat.le_of_ble_eq_true rfl, Nat.le_of_ble_eq_true rfl⟩ ?_
      refine pv_iconst (v := -1) C dL_isGlossary_198 (by decide) ?_
      refine pv_icmp_eq (tgt := 204) C dL_isGlossary_199 (by decide) (fun c55 => ?_) (fun c55 => ?_)
      · have h := pq_it c55 h
        refine pv_iinc (v := (x4 + (1 : Int32))) C 4 [(4, .int (x4 + (1 : Int32))), (0, .ref a0), (1, .int x1), (2, .int x2), (3, .int x3), (5, .int x5)] dL_isGlossary_204 rfl rfl (by decide) rfl ?_
        refine pv_goto (tgt := 39) C dL_isGlossary_207 (by decide) ?_
        refine pv_sub [1, 2, 3, 4, 0] rfl ?_
        exact hk39 _ _ _ _ _ _ k0_ h
      · have h := pq_if c55 h
        refine pv_iconst (v := 0) C dL_isGlossary_202 (by decide) ?_
        exact pv_zret C hr rfl hlk h dL_isGlossary_203
set_option maxHeartbeats 4000000 in
set_option maxRecDepth 100000 in
theorem r_L_isGlossary_b149 {p : Program} {l : Launch} {e : Env} {s : State} {m : MethodId} {av : Array Value} {below : List Frame} {meth : Method} {c : Code} {D : va_G} {y : pq_Y} {G : pq_G} {r : Int32} {S1 : pq_N} (W0 : pq_WT G) (C : pq_C p s m av c D y RL wsL_isGlossary cL_isGlossary 10) (hr : meth.sig.returnType = (some .boolean)) (hlk : meth.locks = false) {c39 : pq_N → Nat → Int32 → Int32 → Int32 → Int32 → Option (Int32 × pq_N)} (hk39 : ∀ (S : pq_N) (a0 : Nat) (x1 : Int32) (x2 : Int32) (x3 : Int32) (x4 : Int32), pq_ok G 10 a0 → c39 S a0 x1 x2 x3 x4 = some (r, S1) → pq_V p l e (headSpec wsL_isGlossary ({ frames := 5, cells := 0, slots := 0, locals := 117 } : Room)).room s m av below meth c 0 0 (MQ below (pq_Qi D y G s.heap.size r S1) av s 0 0 (pq_A G s.heap.size)) D y 10 (pq_A G s.heap.size) (fun _ => True) G S 39 [(0, .ref a0), (1, .int x1), (2, .int x2), (3, .int x3), (4, .int x4)] []) : ∀ (S : pq_N) (a0 : Nat) (x1 : Int32) (x2 : Int32) (x3 : Int32) (x4 : Int32) (x5 : Int32) (x6 : Int32), pq_ok G 10 a0 → F_L_isGlossary_b149 G c39 S a0 x1 x2 x3 x4 x5 x6 = some (r, S1) → pq_V p l e (headSpec wsL_isGlossary ({ frames := 5, cells := 0, slots := 0, locals := 117 } : Room)).room s m av below meth c 0 0 (MQ below (pq_Qi D y G s.heap.size r S1) av s 0 0 (pq_A G s.heap.size)) D y 10 (pq_A G s.heap.size) (fun _ => True) G S 149 [(0, .ref a0), (1, .int x1), (2, .int x2), (3, .int x3), (4, .int x4), (5, .int x5), (6, .int x6)] [] := by
  intro S a0 x1 x2 x3 x4 x5 x6 k0_ h
  unfold F_L_isGlossary_b149 at h
  refine pv_iload C 6 dL_isGlossary_149 rfl ?_
  refine pv_if_eq (tgt := 202) C dL_isGlossary_151 (by decide) (fun c41 => ?_) (fun c41 => ?_)
  · have h := pq_it c41 h
    refine pv_iconst (v := 0) C dL_isGlossary_202 (by decide) ?_
    exact pv_zret C hr rfl hlk h dL_isGlossary_203
  · have h := pq_if c41 h
    refine pv_iload C 4 dL_isGlossary_154 rfl ?_
    refine pv_if_le (tgt := 172) C dL_isGlossary_156 (by decide) (fun c42 => ?_) (fun c42 => ?_)
    · have h := pq_it c42 h
      refine pv_sub [0, 1, 2, 3, 4, 5] rfl ?_
      exact r_L_isGlossary_b172 W0 C hr hlk hk39 _ _ _ _ _ _ _ k0_ h
    · have h := pq_if c42 h
      refine pv_aload_n C 0 dL_isGlossary_159 rfl rfl ?_
      refine pv_iload C 4 dL_isGlossary_160 rfl ?_
      refine pv_iconst (v := 1) C dL_isGlossary_162 (by decide) ?_
      refine pv_isub C dL_isGlossary_163 ?_
      obtain ⟨v43, S44, e45, h⟩ := pq_bs h
      refine pv_calliV C (ci := 10) rfl (by decide) k0_ [.int (x4 - (1 : Int32))] (fun sz => e_X10_timesOf W0 k0_ e45 sz) (cwV 1 C.1.2.2.2.2 gL_isGlossary_X10_timesOf rfl rfl rfl (by decide +kernel) ⟨Nat.le_of_ble_eq_true rfl, Nat.le_of_ble_eq_true rfl⟩) rfl rfl (Nat.le_of_ble_eq_true rfl) dL_isGlossary_164 ⟨Nat.le_of_ble_eq_true rfl, Nat.le_of_ble_eq_true rfl⟩ ?_
      refine pv_iload C 5 dL_isGlossary_167 rfl ?_
      refine pv_icmp_lt (tgt := 202) C dL_isGlossary_169 (by decide) (fun c46 => ?_) (fun c46 => ?_)
      · have h := pq_it c46 h
        refine pv_iconst (v := 0) C dL_isGlossary_202 (by decide) ?_
        exact pv_zret C hr rfl hlk h dL_isGlossary_203
      · have h := pq_if c46 h
        refine pv_sub [0, 1, 2, 3, 4, 5] rfl ?_
        exact r_L_isGlossary_b172 W0 C hr hlk hk39 _ _ _ _ _ _ _ k0_ h
set_option maxHeartbeats 4000000 in
set_option maxRecDepth 100000 in
theorem r_L_isGlossary_b86 {p : Program} {l : Launch} {e : Env} {s : State} {m : MethodId} {av : Array Value} {below : List Frame} {meth : Method} {c : Code} {D : va_G} {y : pq_Y} {G : pq_G} {r : Int32} {S1 : pq_N} (W0 : pq_WT G) (C : pq_C p s m av c D y RL wsL_isGlossary cL_isGlossary 10) (hr : meth.sig.returnType = (some .boolean)) (hlk : meth.locks = false) {c39 : pq_N → Nat → Int32 → Int32 → Int32 → Int32 → Option (Int32 × pq_N)} (hk39 : ∀ (S : pq_N) (a0 : Nat) (x1 : Int32) (x2 : Int32) (x3 : Int32) (x4 : Int32), pq_ok G 10 a0 → c39 S a0 x1 x2 x3 x4 = some (r, S1) → pq_V p l e (headSpec wsL_isGlossary ({ frames := 5, cells := 0, slots := 0, locals := 117 } : Room)).room s m av below meth c 0 0 (MQ below (pq_Qi D y G s.heap.size r S1) av s 0 0 (pq_A G s.heap.size)) D y 10 (pq_A G s.heap.size) (fun _ => True) G S 39 [(0, .ref a0), (1, .int x1), (2, .int x2), (3, .int x3), (4, .int x4)] []) (n : Nat) : ∀ (S : pq_N) (a0 : Nat) (x1 : Int32) (x2 : Int32) (x3 : Int32) (x4 : Int32) (x5 : Int32) (x6 : Int32) (x7 : Int32), pq_ok G 10 a0 → F_L_isGlossary_b86 G c39 n S a0 x1 x2 x3 x4 x5 x6 x7 = some (r, S1) → pq_V p l e (headSpec wsL_isGlossary ({ frames := 5, cells := 0, slots := 0, locals := 117 } : Room)).room s m av below meth c 0 0 (MQ below (pq_Qi D y G s.heap.size r S1) av s 0 0 (pq_A G s.heap.size)) D y 10 (pq_A G s.heap.size) (fun _ => True) G S 86 [(0, .ref a0), (1, .int x1), (2, .int x2), (3, .int x3), (4, .int x4), (5, .int x5), (6, .int x6), (7, .int x7)] [] := by
  induction n with
  | zero =>
    intro S a0 x1 x2 x3 x4 x5 x6 x7 k0_ h
    rw [F_L_isGlossary_b86.eq_1] at h; cases h
  | succ n ih =>
    intro S a0 x1 x2 x3 x4 x5 x6 x7 k0_ h
    rw [F_L_isGlossary_b86.eq_2] at h
    refine pv_iload C 7 dL_isGlossary_86 rfl ?_
    refine pv_bipush (v := 7) C dL_isGlossary_88 (by decide) ?_
    refine pv_icmp_ge (tgt := 149) C dL_isGlossary_90 (by decide) (fun c31 => ?_) (fun c31 => ?_)
    · have h := pq_it c31 h
      refine pv_sub [0, 1, 2, 3, 4, 5, 6] rfl ?_
      exact r_L_isGlossary_b149 W0 C hr hlk hk39 _ _ _ _ _ _ _ _ k0_ h
    · have h := pq_if c31 h
      refine pv_iload C 6 dL_isGlossary_93 rfl ?_
      refine pv_if_ne (tgt := 149) C dL_isGlossary_95 (by decide) (fun c32 => ?_) (fun c32 => ?_)
      · have h := pq_if c32 h
        refine pv_sub [0, 1, 2, 3, 4, 5, 6] rfl ?_
        exact r_L_isGlossary_b149 W0 C hr hlk hk39 _ _ _ _ _ _ _ _ k0_ h
      · have h := pq_it c32 h
        refine pv_aload_n C 0 dL_isGlossary_98 rfl rfl ?_
        refine pv_iload C 4 dL_isGlossary_99 rfl ?_
        refine pv_iconst (v := 1) C dL_isGlossary_101 (by decide) ?_
        refine pv_isub C dL_isGlossary_102 ?_
        refine pv_iload C 7 dL_isGlossary_103 rfl ?_
        obtain ⟨v33, S34, e35, h⟩ := pq_bs h
        refine pv_calliV C (ci := 10) rfl (by decide) k0_ [.int (x4 - (1 : Int32)), .int x7] (fun sz => e_X10_glossaryLetter W0 k0_ e35 sz) (cwV 2 C.1.2.2.2.2 gL_isGlossary_X10_glossaryLetter rfl rfl rfl (by decide +kernel) ⟨Nat.le_of_ble_eq_true rfl, Nat.le_of_ble_eq_true rfl⟩) rfl rfl (Nat.le_of_ble_eq_true rfl) dL_isGlossary_105 ⟨Nat.le_of_ble_eq_true rfl, Nat.le_of_ble_eq_true rfl⟩ ?_
        refine pv_istore C [(8, .int v33), (0, .ref a0), (1, .int x1), (2, .int x2), (3, .int x3), (4, .int x4), (5, .int x5), (6, .int x6), (7, .int x7)] dL_isGlossary_108 (by decide) rfl ?_
        refine pv_aload_n C 1 dL_isGlossary_110 rfl rfl ?_
        refine pv_iload C 5 dL_isGlossary_111 rfl ?_
        refine pv_iload C 8 dL_isGlossary_113 rfl ?_
        obtain ⟨v36, S37, e38, h⟩ := pq_bs h
        refine pv_calliV C (ci := 10) rfl (by decide) k0_ [.int x4, .int x7] (fun sz => e_X10_glossaryLetter W0 k0_ e38 sz) (cwV 2 C.1.2.2.2.2 gL_isGlossary_X10_glossaryLetter rfl rfl rfl (by decide +kernel) ⟨Nat.le_of_ble_eq_true rfl, Nat.le_of_ble_eq_true rfl⟩) rfl rfl (Nat.le_of_ble_eq_true rfl) dL_isGlossary_115 ⟨Nat.le_of_ble_eq_true rfl, Nat.le_of_ble_eq_true rfl⟩ ?_
        refine pv_istore C [(9, .int v36), (8, .int v33), (0, .ref a0), (1, .int x1), (2, .int x2), (3, .int x3), (4, .int x4), (5, .int x5), (6, .int x6), (7, .int x7)] dL_isGlossary_118 (by decide) rfl ?_
        refine pv_iload C 1 dL_isGlossary_120 rfl ?_
        refine pv_iload C 0 dL_isGlossary_122 rfl ?_
        refine pv_icmp_le (tgt := 129) C dL_isGlossary_124 (by decide) (fun c39 => ?_) (fun c39 => ?_)
        · have h := pq_it c39 h
          refine pv_iload C 1 dL_isGlossary_129 rfl ?_
          refine pv_iload C 0 dL_isGlossary_131 rfl ?_
          refine pv_icmp_ge (tgt := 140) C dL_isGlossary_133 (by decide) (fun c40 => ?_) (fun c40 => ?_)
          · have h := pq_it c40 h
            refine pv_iconst (v := 0) C dL_isGlossary_140 (by decide) ?_
            refine pv_istore C [(6, .int (0 : Int32)), (9, .int v36), (8, .int v33), (0, .ref a0), (1, .int x1), (2, .int x2), (3, .int x3), (4, .int x4), (5, .int x5), (7, .int x7)] dL_isGlossary_141 (by decide) rfl ?_
            refine pv_iinc (v := (x7 + (1 : Int32))) C 9 [(7, .int (x7 + (1 : Int32))), (6, .int (0 : Int32)), (9, .int v36), (8, .int v33), (0, .ref a0), (1, .int x1), (2, .int x2), (3, .int x3), (4, .int x4), (5, .int x5)] dL_isGlossary_143 rfl rfl (by decide) rfl ?_
            refine pv_goto (tgt := 86) C dL_isGlossary_146 (by decide) ?_
            refine pv_sub [4, 5, 6, 7, 8, 9, 1, 0] rfl ?_
            exact ih _ _ _ _ _ _ _ _ _ k0_ h
          · have h := pq_if c40 h
            refine pv_iconst (v := 1) C dL_isGlossary_136 (by decide) ?_
            refine pv_goto (tgt := 141) C dL_isGlossary_137 (by decide) ?_
            refine pv_istore C [(6, .int (1 : Int32)), (9, .int v36), (8, .int v33), (0, .ref a0), (1, .int x1), (2, .int x2), (3, .int x3), (4, .int x4), (5, .int x5), (7, .int x7)] dL_isGlossary_141 (by decide) rfl ?_
            refine pv_iinc (v := (x7 + (1 : Int32))) C 9 [(7, .int (x7 + (1 : Int32))), (6, .int (1 : Int32)), (9, .int v36), (8, .int v33), (0, .ref a0), (1, .int x1), (2, .int x2), (3, .int x3), (4, .int x4), (5, .int x5)] dL_isGlossary_143 rfl rfl (by decide) rfl ?_
            refine pv_goto (tgt := 86) C dL_isGlossary_146 (by decide) ?_
            refine pv_sub [4, 5, 6, 7, 8, 9, 1, 0] rfl ?_
            exact ih _ _ _ _ _ _ _ _ _ k0_ h
        · have h := pq_if c39 h
          refine pv_iconst (v := 0) C dL_isGlossary_127 (by decide) ?_
          exact pv_zret C hr rfl hlk h dL_isGlossary_128
set_option maxHeartbeats 4000000 in
set_option maxRecDepth 100000 in
theorem r_L_isGlossary_b39 {p : Program} {l : Launch} {e : Env} {s : State} {m : MethodId} {av : Array Value} {below : List Frame} {meth : Method} {c : Code} {D : va_G} {y : pq_Y} {G : pq_G} {r : Int32} {S1 : pq_N} (W0 : pq_WT G) (C : pq_C p s m av c D y RL wsL_isGlossary cL_isGlossary 10) (hr : meth.sig.returnType = (some .boolean)) (hlk : meth.locks = false) (n : Nat) : ∀ (S : pq_N) (a0 : Nat) (x1 : Int32) (x2 : Int32) (x3 : Int32) (x4 : Int32), pq_ok G 10 a0 → F_L_isGlossary_b39 G n S a0 x1 x2 x3 x4 = some (r, S1) → pq_V p l e (headSpec wsL_isGlossary ({ frames := 5, cells := 0, slots := 0, locals := 117 } : Room)).room s m av below meth c 0 0 (MQ below (pq_Qi D y G s.heap.size r S1) av s 0 0 (pq_A G s.heap.size)) D y 10 (pq_A G s.heap.size) (fun _ => True) G S 39 [(0, .ref a0), (1, .int x1), (2, .int x2), (3, .int x3), (4, .int x4)] [] := by
  induction n with
  | zero =>
    intro S a0 x1 x2 x3 x4 k0_ h
    rw [F_L_isGlossary_b39.eq_1] at h; cases h
  | succ n ih =>
    intro S a0 x1 x2 x3 x4 k0_ h
    rw [F_L_isGlossary_b39.eq_2] at h
    refine pv_iload C 4 dL_isGlossary_39 rfl ?_
    refine pv_iload_n C 1 dL_isGlossary_41 rfl rfl ?_
    refine pv_icmp_ge (tgt := 210) C dL_isGlossary_42 (by decide) (fun c21 => ?_) (fun c21 => ?_)
    · have h := pq_it c21 h
      refine pv_iload_n C 3 dL_isGlossary_210 rfl rfl ?_
      refine pv_iload_n C 2 dL_isGlossary_211 rfl rfl ?_
      refine pv_icmp_ne (tgt := 219) C dL_isGlossary_212 (by decide) (fun c22 => ?_) (fun c22 => ?_)
      · have h := pq_if c22 h
        refine pv_iconst (v := 0) C dL_isGlossary_219 (by decide) ?_
        exact pv_zret C hr rfl hlk h dL_isGlossary_220
      · have h := pq_it c22 h
        refine pv_iconst (v := 1) C dL_isGlossary_215 (by decide) ?_
        refine pv_goto (tgt := 220) C dL_isGlossary_216 (by decide) ?_
        exact pv_zret C hr rfl hlk h dL_isGlossary_220
    · have h := pq_if c21 h
      refine pv_aload_n C 0 dL_isGlossary_45 rfl rfl ?_
      refine pv_iload C 4 dL_isGlossary_46 rfl ?_
      obtain ⟨v23, S24, e25, h⟩ := pq_bs h
      refine pv_calliV C (ci := 10) rfl (by decide) k0_ [.int x4] (fun sz => e_X10_timesOf W0 k0_ e25 sz) (cwV 1 C.1.2.2.2.2 gL_isGlossary_X10_timesOf rfl rfl rfl (by decide +kernel) ⟨Nat.le_of_ble_eq_true rfl, Nat.le_of_ble_eq_true rfl⟩) rfl rfl (Nat.le_of_ble_eq_true rfl) dL_isGlossary_48 ⟨Nat.le_of_ble_eq_true rfl, Nat.le_of_ble_eq_true rfl⟩ ?_
      refine pv_istore C [(5, .int v23), (0, .ref a0), (1, .int x1), (2, .int x2), (3, .int x3), (4, .int x4)] dL_isGlossary_51 (by decide) rfl ?_
      refine pv_iload_n C 4 dL_isGlossary_53 rfl rfl ?_
      refine pv_iload C 0 dL_isGlossary_54 rfl ?_
      refine pv_iadd C dL_isGlossary_56 ?_
      refine pv_istore_n C [(3, .int (x3 + v23)), (5, .int v23), (0, .ref a0), (1, .int x1), (2, .int x2), (4, .int x4)] dL_isGlossary_57 rfl (by decide) rfl ?_
      refine pv_iload C 5 dL_isGlossary_58 rfl ?_
      refine pv_if_eq (tgt := 76) C dL_isGlossary_60 (by decide) (fun c26 => ?_) (fun c26 => ?_)
      · have h := pq_it c26 h
        refine pv_iconst (v := 1) C dL_isGlossary_76 (by decide) ?_
        refine pv_goto (tgt := 81) C dL_isGlossary_77 (by decide) ?_
        refine pv_istore C [(6, .int (1 : Int32)), (3, .int (x3 + v23)), (5, .int v23), (0, .ref a0), (1, .int x1), (2, .int x2), (4, .int x4)] dL_isGlossary_81 (by decide) rfl ?_
        refine pv_iconst (v := 0) C dL_isGlossary_83 (by decide) ?_
        refine pv_istore C [(7, .int (0 : Int32)), (6, .int (1 : Int32)), (3, .int (x3 + v23)), (5, .int v23), (0, .ref a0), (1, .int x1), (2, .int x2), (4, .int x4)] dL_isGlossary_84 (by decide) rfl ?_
        refine pv_sub [4, 5, 6, 2, 7, 3, 1, 0] rfl ?_
        exact r_L_isGlossary_b86 W0 C hr hlk ih pq_fuel _ _ _ _ _ _ _ _ _ k0_ h
      · have h := pq_if c26 h
        refine pv_aload_n C 2 dL_isGlossary_63 rfl rfl ?_
        refine pv_iload C 5 dL_isGlossary_64 rfl ?_
        refine pv_iconst (v := 1) C dL_isGlossary_66 (by decide) ?_
        refine pv_isub C dL_isGlossary_67 ?_
        obtain ⟨v27, S28, e29, h⟩ := pq_bs h
        refine pv_calliV C (ci := 10) rfl (by decide) k0_ [.int (x4 - (1 : Int32))] (fun sz => e_X10_timesOf W0 k0_ e29 sz) (cwV 1 C.1.2.2.2.2 gL_isGlossary_X10_timesOf rfl rfl rfl (by decide +kernel) ⟨Nat.le_of_ble_eq_true rfl, Nat.le_of_ble_eq_true rfl⟩) rfl rfl (Nat.le_of_ble_eq_true rfl) dL_isGlossary_68 ⟨Nat.le_of_ble_eq_true rfl, Nat.le_of_ble_eq_true rfl⟩ ?_
        refine pv_iload C 1 dL_isGlossary_71 rfl ?_
        refine pv_icmp_le (tgt := 80) C dL_isGlossary_73 (by decide) (fun c30 => ?_) (fun c30 => ?_)
        · have h := pq_it c30 h
          refine pv_iconst (v := 0) C dL_isGlossary_80 (by decide) ?_
          refine pv_istore C [(6, .int (0 : Int32)), (3, .int (x3 + v23)), (5, .int v23), (0, .ref a0), (1, .int x1), (2, .int x2), (4, .int x4)] dL_isGlossary_81 (by decide) rfl ?_
          refine pv_iconst (v := 0) C dL_isGlossary_83 (by decide) ?_
          refine pv_istore C [(7, .int (0 : Int32)), (6, .int (0 : Int32)), (3, .int (x3 + v23)), (5, .int v23), (0, .ref a0), (1, .int x1), (2, .int x2), (4, .int x4)] dL_isGlossary_84 (by decide) rfl ?_
          refine pv_sub [4, 5, 6, 2, 7, 3, 1, 0] rfl ?_
          exact r_L_isGlossary_b86 W0 C hr hlk ih pq_fuel _ _ _ _ _ _ _ _ _ k0_ h
        · have h := pq_if c30 h
          refine pv_iconst (v := 1) C dL_isGlossary_76 (by decide) ?_
          refine pv_goto (tgt := 81) C dL_isGlossary_77 (by decide) ?_
          refine pv_istore C [(6, .int (1 : Int32)), (3, .int (x3 + v23)), (5, .int v23), (0, .ref a0), (1, .int x1), (2, .int x2), (4, .int x4)] dL_isGlossary_81 (by decide) rfl ?_
          refine pv_iconst (v := 0) C dL_isGlossary_83 (by decide) ?_
          refine pv_istore C [(7, .int (0 : Int32)), (6, .int (1 : Int32)), (3, .int (x3 + v23)), (5, .int v23), (0, .ref a0), (1, .int x1), (2, .int x2), (4, .int x4)] dL_isGlossary_84 (by decide) rfl ?_
          refine pv_sub [4, 5, 6, 2, 7, 3, 1, 0] rfl ?_
          exact r_L_isGlossary_b86 W0 C hr hlk ih pq_fuel _ _ _ _ _ _ _ _ _ k0_ h
set_option maxHeartbeats 4000000 in
set_option maxRecDepth 100000 in
theorem r_L_isGlossary_b12 {p : Program} {l : Launch} {e : Env} {s : State} {m : MethodId} {av : Array Value} {below : List Frame} {meth : Method} {c : Code} {D : va_G} {y : pq_Y} {G : pq_G} {r : Int32} {S1 : pq_N} (W0 : pq_WT G) (C : pq_C p s m av c D y RL wsL_isGlossary cL_isGlossary 10) (hr : meth.sig.returnType = (some .boolean)) (hlk : meth.locks = false) (n : Nat) : ∀ (S : pq_N) (a0 : Nat) (x1 : Int32) (x2 : Int32) (x3 : Int32) (x4 : Int32), pq_ok G 10 a0 → F_L_isGlossary_b12 G n S a0 x1 x2 x3 x4 = some (r, S1) → pq_V p l e (headSpec wsL_isGlossary ({ frames := 5, cells := 0, slots := 0, locals := 117 } : Room)).room s m av below meth c 0 0 (MQ below (pq_Qi D y G s.heap.size r S1) av s 0 0 (pq_A G s.heap.size)) D y 10 (pq_A G s.heap.size) (fun _ => True) G S 12 [(0, .ref a0), (1, .int x1), (2, .int x2), (3, .int x3), (4, .int x4)] [] := by
  induction n with
  | zero =>
    intro S a0 x1 x2 x3 x4 k0_ h
    rw [F_L_isGlossary_b12.eq_1] at h; cases h
  | succ n ih =>
    intro S a0 x1 x2 x3 x4 k0_ h
    rw [F_L_isGlossary_b12.eq_2] at h
    refine pv_iload C 4 dL_isGlossary_12 rfl ?_
    refine pv_aload_n C 0 dL_isGlossary_14 rfl rfl ?_
    obtain ⟨v14, S15, e16, h⟩ := pq_bs h
    refine pv_calliV C (ci := 10) rfl (by decide) k0_ [] (fun sz => r_X10_pamphlets W0 k0_ e16 sz) (cwV 0 C.1.2.2.2.2 gL_isGlossary_X10_pamphlets rfl rfl rfl (by decide +kernel) ⟨Nat.le_of_ble_eq_true rfl, Nat.le_of_ble_eq_true rfl⟩) rfl rfl (Nat.le_of_ble_eq_true rfl) dL_isGlossary_15 ⟨Nat.le_of_ble_eq_true rfl, Nat.le_of_ble_eq_true rfl⟩ ?_
    refine pv_icmp_ge (tgt := 36) C dL_isGlossary_18 (by decide) (fun c17 => ?_) (fun c17 => ?_)
    · have h := pq_it c17 h
      refine pv_iconst (v := 0) C dL_isGlossary_36 (by decide) ?_
      refine pv_istore C [(4, .int (0 : Int32)), (0, .ref a0), (1, .int x1), (2, .int x2), (3, .int x3)] dL_isGlossary_37 (by decide) rfl ?_
      refine pv_sub [1, 2, 3, 4, 0] rfl ?_
      exact r_L_isGlossary_b39 W0 C hr hlk pq_fuel _ _ _ _ _ _ k0_ h
    · have h := pq_if c17 h
      refine pv_iload_n C 2 dL_isGlossary_21 rfl rfl ?_
      refine pv_aload_n C 0 dL_isGlossary_22 rfl rfl ?_
      refine pv_iload C 4 dL_isGlossary_23 rfl ?_
      obtain ⟨v18, S19, e20, h⟩ := pq_bs h
      refine pv_calliV C (ci := 10) rfl (by decide) k0_ [.int x4] (fun sz => e_X10_wordsOf W0 k0_ e20 sz) (cwV 1 C.1.2.2.2.2 gL_isGlossary_X10_wordsOf rfl rfl rfl (by decide +kernel) ⟨Nat.le_of_ble_eq_true rfl, Nat.le_of_ble_eq_true rfl⟩) rfl rfl (Nat.le_of_ble_eq_true rfl) dL_isGlossary_25 ⟨Nat.le_of_ble_eq_true rfl, Nat.le_of_ble_eq_true rfl⟩ ?_
      refine pv_iadd C dL_isGlossary_28 ?_
      refine pv_istore_n C [(2, .int (x2 + v18)), (0, .ref a0), (1, .int x1), (3, .int x3), (4, .int x4)] dL_isGlossary_29 rfl (by decide) rfl ?_
      refine pv_iinc (v := (x4 + (1 : Int32))) C 4 [(4, .int (x4 + (1 : Int32))), (2, .int (x2 + v18)), (0, .ref a0), (1, .int x1), (3, .int x3)] dL_isGlossary_30 rfl rfl (by decide) rfl ?_
      refine pv_goto (tgt := 12) C dL_isGlossary_33 (by decide) ?_
      refine pv_sub [2, 3, 1, 4, 0] rfl ?_
      exact ih _ _ _ _ _ _ k0_ h
set_option maxHeartbeats 4000000 in
set_option maxRecDepth 100000 in
theorem r_L_isGlossary {l : Launch} {D : va_G} {y : pq_Y} {G : pq_G} (W0 : pq_WT G) {S : pq_N} {a0 : Nat} (k0_ : pq_ok G 10 a0) {r : Int32} {S1 : pq_N} (h : F_L_isGlossary G S a0 = some (r, S1)) (sz : Nat) : Met l yL_isGlossary wsL_isGlossary ({ frames := 5, cells := 0, slots := 0, locals := 117 } : Room) (pq_P D y G S sz [.ref a0]) (pq_Qi D y G sz r S1) 0 0 (pq_A G sz) := by
  refine pq_enter RL 10 (by decide) rfl rfl rfl ?_
  intro p e s m below meth c C hsz hr hlk
  subst hsz
  unfold F_L_isGlossary at h
  refine pv_sub (lo1 := [(0, .ref a0)]) [0] rfl ?_
  refine pv_aload_n C 0 dL_isGlossary_0 rfl rfl ?_
  obtain ⟨v11, S12, e13, h⟩ := pq_bs h
  refine pv_calliV C (ci := 10) rfl (by decide) k0_ [] (fun sz => r_X10_glossary W0 k0_ e13 sz) (cwV 0 C.1.2.2.2.2 gL_isGlossary_X10_glossary rfl rfl rfl (by decide +kernel) ⟨Nat.le_of_ble_eq_true rfl, Nat.le_of_ble_eq_true rfl⟩) rfl rfl (Nat.le_of_ble_eq_true rfl) dL_isGlossary_1 ⟨Nat.le_of_ble_eq_true rfl, Nat.le_of_ble_eq_true rfl⟩ ?_
  refine pv_istore_n C [(1, .int v11), (0, .ref a0)] dL_isGlossary_4 rfl (by decide) rfl ?_
  refine pv_iconst (v := 0) C dL_isGlossary_5 (by decide) ?_
  refine pv_istore_n C [(2, .int (0 : Int32)), (1, .int v11), (0, .ref a0)] dL_isGlossary_6 rfl (by decide) rfl ?_
  refine pv_iconst (v := 0) C dL_isGlossary_7 (by decide) ?_
  refine pv_istore_n C [(3, .int (0 : Int32)), (2, .int (0 : Int32)), (1, .int v11), (0, .ref a0)] dL_isGlossary_8 rfl (by decide) rfl ?_
  refine pv_iconst (v := 0) C dL_isGlossary_9 (by decide) ?_
  refine pv_istore C [(4, .int (0 : Int32)), (3, .int (0 : Int32)), (2, .int (0 : Int32)), (1, .int v11), (0, .ref a0)] dL_isGlossary_10 (by decide) rfl ?_
  refine pv_sub [4, 3, 2, 1, 0] rfl ?_
  exact r_L_isGlossary_b12 W0 C hr hlk pq_fuel _ _ _ _ _ _ k0_ h
def F_L_holds_b33 (G : pq_G)  (S : pq_N) (a0 : Nat) (x2 : Int32) : Option (Int32 × pq_N) := (if x2 < (0 : Int32) then some ((0 : Int32), S) else (if (100 : Int32) < x2 then some ((0 : Int32), S) else (pq_bd (F_X10_whyNotPrinted G S a0) fun v29 S30 => (if v29 = (1 : Int32) then (pq_bd (F_X10_pamphlets G S30 a0) fun v33 S34 => (if v33 = (20 : Int32) then some ((1 : Int32), S34) else some ((0 : Int32), S34))) else some ((1 : Int32), S30)))))
def F_L_holds (G : pq_G) (S : pq_N) (a0 : Nat) (x1 : Int32) : Option (Int32 × pq_N) := (pq_bd (F_X10_errorPosition G S a0) fun v11 S12 => (pq_bd (F_L_arePamphlets G S12 a0) fun v14 S15 => (if v14 = (0 : Int32) then some ((0 : Int32), S15) else (pq_bd (F_L_isBlame G S15 a0) fun v18 S19 => (if v18 = (0 : Int32) then some ((0 : Int32), S19) else (if (x1 - x1 / (3 : Int32) * (3 : Int32)) = (1 : Int32) then (pq_bd (F_L_isGlossary G S19 a0) fun v23 S24 => (if v23 = (0 : Int32) then some ((0 : Int32), S24) else F_L_holds_b33 G S24 a0 v11)) else F_L_holds_b33 G S19 a0 v11))))))
set_option maxHeartbeats 4000000 in
set_option maxRecDepth 100000 in
theorem r_L_holds_b33 {p : Program} {l : Launch} {e : Env} {s : State} {m : MethodId} {av : Array Value} {below : List Frame} {meth : Method} {c : Code} {D : va_G} {y : pq_Y} {G : pq_G} {r : Int32} {S1 : pq_N} (W0 : pq_WT G) (C : pq_C p s m av c D y RL wsL_holds cL_holds 3) (hr : meth.sig.returnType = (some .boolean)) (hlk : meth.locks = false) : ∀ (S : pq_N) (a0 : Nat) (x2 : Int32), pq_ok G 10 a0 → F_L_holds_b33 G S a0 x2 = some (r, S1) → pq_V p l e (headSpec wsL_holds ({ frames := 9, cells := 0, slots := 0, locals := 238 } : Room)).room s m av below meth c 0 0 (MQ below (pq_Qi D y G s.heap.size r S1) av s 0 0 (pq_A G s.heap.size)) D y 3 (pq_A G s.heap.size) (fun _ => True) G S 33 [(0, .ref a0), (2, .int x2)] [] := by
  intro S a0 x2 k0_ h
  unfold F_L_holds_b33 at h
  refine pv_iload_n C 1 dL_holds_33 rfl rfl ?_
  refine pv_if_lt (tgt := 64) C dL_holds_34 (by decide) (fun c27 => ?_) (fun c27 => ?_)
  · have h := pq_it c27 h
    refine pv_iconst (v := 0) C dL_holds_64 (by decide) ?_
    exact pv_zret C hr rfl hlk h dL_holds_65
  · have h := pq_if c27 h
    refine pv_iload_n C 1 dL_holds_37 rfl rfl ?_
    refine pv_bipush (v := 100) C dL_holds_38 (by decide) ?_
    refine pv_icmp_gt (tgt := 64) C dL_holds_40 (by decide) (fun c28 => ?_) (fun c28 => ?_)
    · have h := pq_it c28 h
      refine pv_iconst (v := 0) C dL_holds_64 (by decide) ?_
      exact pv_zret C hr rfl hlk h dL_holds_65
    · have h := pq_if c28 h
      refine pv_aload_n C 0 dL_holds_43 rfl rfl ?_
      obtain ⟨v29, S30, e31, h⟩ := pq_bs h
      refine pv_calliV C (ci := 10) rfl (by decide) k0_ [] (fun sz => r_X10_whyNotPrinted W0 k0_ e31 sz) (cwV 0 C.1.2.2.2.2 gL_holds_X10_whyNotPrinted rfl rfl rfl (by decide +kernel) ⟨Nat.le_of_ble_eq_true rfl, Nat.le_of_ble_eq_true rfl⟩) rfl rfl (Nat.le_of_ble_eq_true rfl) dL_holds_44 ⟨Nat.le_of_ble_eq_true rfl, Nat.le_of_ble_eq_true rfl⟩ ?_
      refine pv_iconst (v := 1) C dL_holds_47 (by decide) ?_
      refine pv_icmp_ne (tgt := 60) C dL_holds_48 (by decide) (fun c32 => ?_) (fun c32 => ?_)
      · have h := pq_if c32 h
        refine pv_iconst (v := 1) C dL_holds_60 (by decide) ?_
        refine pv_goto (tgt := 65) C dL_holds_61 (by decide) ?_
        exact pv_zret C hr rfl hlk h dL_holds_65
      · have h := pq_it c32 h
        refine pv_aload_n C 0 dL_holds_51 rfl rfl ?_
        obtain ⟨v33, S34, e35, h⟩ := pq_bs h
        refine pv_calliV C (ci := 10) rfl (by decide) k0_ [] (fun sz => r_X10_pamphlets W0 k0_ e35 sz) (cwV 0 C.1.2.2.2.2 gL_holds_X10_pamphlets rfl rfl rfl (by decide +kernel) ⟨Nat.le_of_ble_eq_true rfl, Nat.le_of_ble_eq_true rfl⟩) rfl rfl (Nat.le_of_ble_eq_true rfl) dL_holds_52 ⟨Nat.le_of_ble_eq_true rfl, Nat.le_of_ble_eq_true rfl⟩ ?_
        refine pv_bipush (v := 20) C dL_holds_55 (by decide) ?_
        refine pv_icmp_ne (tgt := 64) C dL_holds_57 (by decide) (fun c36 => ?_) (fun c36 => ?_)
        · have h := pq_if c36 h
          refine pv_iconst (v := 0) C dL_holds_64 (by decide) ?_
          exact pv_zret C hr rfl hlk h dL_holds_65
        · have h := pq_it c36 h
          refine pv_iconst (v := 1) C dL_holds_60 (by decide) ?_
          refine pv_goto (tgt := 65) C dL_holds_61 (by decide) ?_
          exact pv_zret C hr rfl hlk h dL_holds_65
set_option maxHeartbeats 4000000 in
set_option maxRecDepth 100000 in
theorem r_L_holds {l : Launch} {D : va_G} {y : pq_Y} {G : pq_G} (W0 : pq_WT G) {S : pq_N} {a0 : Nat} {x1 : Int32} (k0_ : pq_ok G 10 a0) {r : Int32} {S1 : pq_N} (h : F_L_holds G S a0 x1 = some (r, S1)) (sz : Nat) : Met l yL_holds wsL_holds ({ frames := 9, cells := 0, slots := 0, locals := 238 } : Room) (pq_P D y G S sz [.ref a0, .int x1]) (pq_Qi D y G sz r S1) 0 0 (pq_A G sz) := by
  refine pq_enter RL 3 (by decide) rfl rfl rfl ?_
  intro p e s m below meth c C hsz hr hlk
  subst hsz
  unfold F_L_holds at h
  refine pv_sub (lo1 := [(0, .ref a0), (1, .int x1)]) [0, 1] rfl ?_
  refine pv_aload_n C 0 dL_holds_0 rfl rfl ?_
  obtain ⟨v11, S12, e13, h⟩ := pq_bs h
  refine pv_calliV C (ci := 10) rfl (by decide) k0_ [] (fun sz => r_X10_errorPosition W0 k0_ e13 sz) (cwV 0 C.1.2.2.2.2 gL_holds_X10_errorPosition rfl rfl rfl (by decide +kernel) ⟨Nat.le_of_ble_eq_true rfl, Nat.le_of_ble_eq_true rfl⟩) rfl rfl (Nat.le_of_ble_eq_true rfl) dL_holds_1 ⟨Nat.le_of_ble_eq_true rfl, Nat.le_of_ble_eq_true rfl⟩ ?_
  refine pv_istore_n C [(2, .int v11), (0, .ref a0), (1, .int x1)] dL_holds_4 rfl (by decide) rfl ?_
  refine pv_aload_n C 1 dL_holds_5 rfl rfl ?_
  obtain ⟨v14, S15, e16, h⟩ := pq_bs h
  refine pv_calliS C [.ref a0] (fun sz => r_L_arePamphlets W0 k0_ e16 sz) (va_cwS 1 C.1.2.2.2.2 gL_holds_L_arePamphlets rfl rfl rfl (by decide +kernel) ⟨Nat.le_of_ble_eq_true rfl, Nat.le_of_ble_eq_true rfl⟩) rfl rfl (Nat.le_of_ble_eq_true rfl) dL_holds_6 ⟨Nat.le_of_ble_eq_true rfl, Nat.le_of_ble_eq_true rfl⟩ ?_
  refine pv_if_eq (tgt := 64) C dL_holds_9 (by decide) (fun c17 => ?_) (fun c17 => ?_)
  · have h := pq_it c17 h
    refine pv_iconst (v := 0) C dL_holds_64 (by decide) ?_
    exact pv_zret C hr rfl hlk h dL_holds_65
  · have h := pq_if c17 h
    refine pv_aload_n C 1 dL_holds_12 rfl rfl ?_
    obtain ⟨v18, S19, e20, h⟩ := pq_bs h
    refine pv_calliS C [.ref a0] (fun sz => r_L_isBlame W0 k0_ e20 sz) (va_cwS 1 C.1.2.2.2.2 gL_holds_L_isBlame rfl rfl rfl (by decide +kernel) ⟨Nat.le_of_ble_eq_true rfl, Nat.le_of_ble_eq_true rfl⟩) rfl rfl (Nat.le_of_ble_eq_true rfl) dL_holds_13 ⟨Nat.le_of_ble_eq_true rfl, Nat.le_of_ble_eq_true rfl⟩ ?_
    refine pv_if_eq (tgt := 64) C dL_holds_16 (by decide) (fun c21 => ?_) (fun c21 => ?_)
    · have h := pq_it c21 h
      refine pv_iconst (v := 0) C dL_holds_64 (by decide) ?_
      exact pv_zret C hr rfl hlk h dL_holds_65
    · have h := pq_if c21 h
      refine pv_iload_n C 2 dL_holds_19 rfl rfl ?_
      refine pv_iconst (v := 3) C dL_holds_20 (by decide) ?_
      refine pv_irem C dL_holds_21 (by decide) ?_
      refine pv_iconst (v := 1) C dL_holds_22 (by decide) ?_
      refine pv_icmp_ne (tgt := 33) C dL_holds_23 (by decide) (fun c22 => ?_) (fun c22 => ?_)
      · have h := pq_if c22 h
        refine pv_sub [1, 0] rfl ?_
        exact r_L_holds_b33 W0 C hr hlk _ _ _ k0_ h
      · have h := pq_it c22 h
        refine pv_aload_n C 1 dL_holds_26 rfl rfl ?_
        obtain ⟨v23, S24, e25, h⟩ := pq_bs h
        refine pv_calliS C [.ref a0] (fun sz => r_L_isGlossary W0 k0_ e25 sz) (va_cwS 1 C.1.2.2.2.2 gL_holds_L_isGlossary rfl rfl rfl (by decide +kernel) ⟨Nat.le_of_ble_eq_true rfl, Nat.le_of_ble_eq_true rfl⟩) rfl rfl (Nat.le_of_ble_eq_true rfl) dL_holds_27 ⟨Nat.le_of_ble_eq_true rfl, Nat.le_of_ble_eq_true rfl⟩ ?_
        refine pv_if_eq (tgt := 64) C dL_holds_30 (by decide) (fun c26 => ?_) (fun c26 => ?_)
        · have h := pq_it c26 h
          refine pv_iconst (v := 0) C dL_holds_64 (by decide) ?_
          exact pv_zret C hr rfl hlk h dL_holds_65
        · have h := pq_if c26 h
          refine pv_sub [1, 0] rfl ?_
          exact r_L_holds_b33 W0 C hr hlk _ _ _ k0_ h
def F_L_tale_b127 (G : pq_G) (c18 : pq_N → Nat → Int64 → Int32 → Option (Int64 × pq_N)) : Nat → pq_N → Nat → Int64 → Int32 → Int32 → Option (Int64 × pq_N)
  | 0, _, _, _, _, _ => none
  | n + 1, S, a0, x1, x3, x4 => (pq_bd (E_X10_quotationsOf G S a0 x3) fun v43 S44 => (if v43 ≤ x4 then c18 S44 a0 x1 (x3 + (1 : Int32)) else (pq_bd (E_X10_sourceOf G S44 a0 x3 x4) fun v47 S48 => (pq_bd (E_X10_beginOf G S48 a0 x3 x4) fun v50 S51 => (pq_bd (E_X10_lengthOf G S51 a0 x3 x4) fun v53 S54 => (F_L_tale_b127 G c18 n) S54 a0 (((31 : Int64) * (((31 : Int64) * (((31 : Int64) * x1) + (Int32.toInt64 v47))) + (Int32.toInt64 v50))) + (Int32.toInt64 v53)) x3 (x4 + (1 : Int32)))))))
def F_L_tale_b64 (G : pq_G) (c18 : pq_N → Nat → Int64 → Int32 → Option (Int64 × pq_N)) : Nat → pq_N → Nat → Int64 → Int32 → Int32 → Option (Int64 × pq_N)
  | 0, _, _, _, _, _ => none
  | n + 1, S, a0, x1, x3, x4 => (pq_bd (E_X10_wordsOf G S a0 x3) fun v30 S31 => (if v30 ≤ x4 then F_L_tale_b127 G c18 pq_fuel S31 a0 x1 x3 (0 : Int32) else (pq_bd (E_X10_letterOf G S31 a0 x3 x4 (0 : Int32)) fun v34 S35 => (pq_bd (E_X10_letterOf G S35 a0 x3 x4 (1 : Int32)) fun v37 S38 => (pq_bd (E_X10_letterOf G S38 a0 x3 x4 (2 : Int32)) fun v40 S41 => (F_L_tale_b64 G c18 n) S41 a0 (((31 : Int64) * (((31 : Int64) * (((31 : Int64) * x1) + (Int32.toInt64 v34))) + (Int32.toInt64 v37))) + (Int32.toInt64 v40)) x3 (x4 + (1 : Int32)))))))
def F_L_tale_b18 (G : pq_G)  : Nat → pq_N → Nat → Int64 → Int32 → Option (Int64 × pq_N)
  | 0, _, _, _, _ => none
  | n + 1, S, a0, x1, x3 => (pq_bd (F_X10_pamphlets G S a0) fun v17 S18 => (if v17 ≤ x3 then some (x1, S18) else (pq_bd (E_X10_authorOf G S18 a0 x3) fun v21 S22 => (pq_bd (E_X10_dayOf G S22 a0 x3) fun v24 S25 => (pq_bd (E_X10_wordsOf G S25 a0 x3) fun v27 S28 => F_L_tale_b64 G ((F_L_tale_b18 G n)) pq_fuel S28 a0 (((31 : Int64) * (((31 : Int64) * (((31 : Int64) * x1) + (Int32.toInt64 v21))) + (Int32.toInt64 v24))) + (Int32.toInt64 v27)) x3 (0 : Int32))))))
def F_L_tale (G : pq_G) (S : pq_N) (a0 : Nat) : Option (Int64 × pq_N) := (pq_bd (F_X10_day G S a0) fun v11 S12 => (pq_bd (F_X10_pamphlets G S12 a0) fun v14 S15 => F_L_tale_b18 G pq_fuel S15 a0 (((31 : Int64) * (Int32.toInt64 v11)) + (Int32.toInt64 v14)) (0 : Int32)))
set_option maxHeartbeats 4000000 in
set_option maxRecDepth 100000 in
theorem r_L_tale_b127 {p : Program} {l : Launch} {e : Env} {s : State} {m : MethodId} {av : Array Value} {below : List Frame} {meth : Method} {c : Code} {D : va_G} {y : pq_Y} {G : pq_G} {r : Int64} {S1 : pq_N} (W0 : pq_WT G) (C : pq_C p s m av c D y RL wsL_tale cL_tale 5) (hr : meth.sig.returnType = (some .long)) (hlk : meth.locks = false) {c18 : pq_N → Nat → Int64 → Int32 → Option (Int64 × pq_N)} (hk18 : ∀ (S : pq_N) (a0 : Nat) (x1 : Int64) (x3 : Int32), pq_ok G 10 a0 → c18 S a0 x1 x3 = some (r, S1) → pq_V p l e (headSpec wsL_tale ({ frames := 4, cells := 0, slots := 0, locals := 87 } : Room)).room s m av below meth c 0 0 (MQ below (pq_Ql D y G s.heap.size r S1) av s 0 0 (pq_A G s.heap.size)) D y 5 (pq_A G s.heap.size) (fun _ => True) G S 18 [(0, .ref a0), (1, .long x1), (3, .int x3)] []) (n : Nat) : ∀ (S : pq_N) (a0 : Nat) (x1 : Int64) (x3 : Int32) (x4 : Int32), pq_ok G 10 a0 → F_L_tale_b127 G c18 n S a0 x1 x3 x4 = some (r, S1) → pq_V p l e (headSpec wsL_tale ({ frames := 4, cells := 0, slots := 0, locals := 87 } : Room)).room s m av below meth c 0 0 (MQ below (pq_Ql D y G s.heap.size r S1) av s 0 0 (pq_A G s.heap.size)) D y 5 (pq_A G s.heap.size) (fun _ => True) G S 127 [(0, .ref a0), (1, .long x1), (3, .int x3), (4, .int x4)] [] := by
  induction n with
  | zero =>
    intro S a0 x1 x3 x4 k0_ h
    rw [F_L_tale_b127.eq_1] at h; cases h
  | succ n ih =>
    intro S a0 x1 x3 x4 k0_ h
    rw [F_L_tale_b127.eq_2] at h
    refine pv_iload C 3 dL_tale_127 rfl ?_
    refine pv_aload_n C 0 dL_tale_129 rfl rfl ?_
    refine pv_iload_n C 2 dL_tale_130 rfl rfl ?_
    obtain ⟨v43, S44, e45, h⟩ := pq_bs h
    refine pv_calliV C (ci := 10) rfl (by decide) k0_ [.int x3] (fun sz => e_X10_quotationsOf W0 k0_ e45 sz) (cwV 1 C.1.2.2.2.2 gL_tale_X10_quotationsOf rfl rfl rfl (by decide +kernel) ⟨Nat.le_of_ble_eq_true rfl, Nat.le_of_ble_eq_true rfl⟩) rfl rfl (Nat.le_of_ble_eq_true rfl) dL_tale_131 ⟨Nat.le_of_ble_eq_true rfl, Nat.le_of_ble_eq_true rfl⟩ ?_
    refine pv_icmp_ge (tgt := 184) C dL_tale_134 (by decide) (fun c46 => ?_) (fun c46 => ?_)
    · have h := pq_it c46 h
      refine pv_iinc (v := (x3 + (1 : Int32))) C 2 [(3, .int (x3 + (1 : Int32))), (0, .ref a0), (1, .long x1), (4, .int x4)] dL_tale_184 rfl rfl (by decide) rfl ?_
      refine pv_goto (tgt := 18) C dL_tale_187 (by decide) ?_
      refine pv_sub [1, 2, 0] rfl ?_
      exact hk18 _ _ _ _ k0_ h
    · have h := pq_if c46 h
      refine pv_ldc2 C (List.mem_of_getElem? (i := 1) rfl) dL_tale_137 ?_
      refine pv_ldc2 C (List.mem_of_getElem? (i := 1) rfl) dL_tale_140 ?_
      refine pv_ldc2 C (List.mem_of_getElem? (i := 1) rfl) dL_tale_143 ?_
      refine pv_lload_n C 1 dL_tale_146 rfl rfl ?_
      refine pv_lmul C dL_tale_147 ?_
      refine pv_aload_n C 0 dL_tale_148 rfl rfl ?_
      refine pv_iload_n C 2 dL_tale_149 rfl rfl ?_
      refine pv_iload C 3 dL_tale_150 rfl ?_
      obtain ⟨v47, S48, e49, h⟩ := pq_bs h
      refine pv_calliV C (ci := 10) rfl (by decide) k0_ [.int x3, .int x4] (fun sz => e_X10_sourceOf W0 k0_ e49 sz) (cwV 2 C.1.2.2.2.2 gL_tale_X10_sourceOf rfl rfl rfl (by decide +kernel) ⟨Nat.le_of_ble_eq_true rfl, Nat.le_of_ble_eq_true rfl⟩) rfl rfl (Nat.le_of_ble_eq_true rfl) dL_tale_152 ⟨Nat.le_of_ble_eq_true rfl, Nat.le_of_ble_eq_true rfl⟩ ?_
      refine pv_i2l C dL_tale_155 ?_
      refine pv_ladd C dL_tale_156 ?_
      refine pv_lmul C dL_tale_157 ?_
      refine pv_aload_n C 0 dL_tale_158 rfl rfl ?_
      refine pv_iload_n C 2 dL_tale_159 rfl rfl ?_
      refine pv_iload C 3 dL_tale_160 rfl ?_
      obtain ⟨v50, S51, e52, h⟩ := pq_bs h
      refine pv_calliV C (ci := 10) rfl (by decide) k0_ [.int x3, .int x4] (fun sz => e_X10_beginOf W0 k0_ e52 sz) (cwV 2 C.1.2.2.2.2 gL_tale_X10_beginOf rfl rfl rfl (by decide +kernel) ⟨Nat.le_of_ble_eq_true rfl, Nat.le_of_ble_eq_true rfl⟩) rfl rfl (Nat.le_of_ble_eq_true rfl) dL_tale_162 ⟨Nat.le_of_ble_eq_true rfl, Nat.le_of_ble_eq_true rfl⟩ ?_
      refine pv_i2l C dL_tale_165 ?_
      refine pv_ladd C dL_tale_166 ?_
      refine pv_lmul C dL_tale_167 ?_
      refine pv_aload_n C 0 dL_tale_168 rfl rfl ?_
      refine pv_iload_n C 2 dL_tale_169 rfl rfl ?_
      refine pv_iload C 3 dL_tale_170 rfl ?_
      obtain ⟨v53, S54, e55, h⟩ := pq_bs h
      refine pv_calliV C (ci := 10) rfl (by decide) k0_ [.int x3, .int x4] (fun sz => e_X10_lengthOf W0 k0_ e55 sz) (cwV 2 C.1.2.2.2.2 gL_tale_X10_lengthOf rfl rfl rfl (by decide +kernel) ⟨Nat.le_of_ble_eq_true rfl, Nat.le_of_ble_eq_true rfl⟩) rfl rfl (Nat.le_of_ble_eq_true rfl) dL_tale_172 ⟨Nat.le_of_ble_eq_true rfl, Nat.le_of_ble_eq_true rfl⟩ ?_
      refine pv_i2l C dL_tale_175 ?_
      refine pv_ladd C dL_tale_176 ?_
      refine pv_lstore_n C [(1, .long (((31 : Int64) * (((31 : Int64) * (((31 : Int64) * x1) + (Int32.toInt64 v47))) + (Int32.toInt64 v50))) + (Int32.toInt64 v53))), (0, .ref a0), (3, .int x3), (4, .int x4)] dL_tale_177 rfl (by decide) rfl ?_
      refine pv_iinc (v := (x4 + (1 : Int32))) C 3 [(4, .int (x4 + (1 : Int32))), (1, .long (((31 : Int64) * (((31 : Int64) * (((31 : Int64) * x1) + (Int32.toInt64 v47))) + (Int32.toInt64 v50))) + (Int32.toInt64 v53))), (0, .ref a0), (3, .int x3)] dL_tale_178 rfl rfl (by decide) rfl ?_
      refine pv_goto (tgt := 127) C dL_tale_181 (by decide) ?_
      refine pv_sub [2, 1, 3, 0] rfl ?_
      exact ih _ _ _ _ _ k0_ h
set_option maxHeartbeats 4000000 in
set_option maxRecDepth 100000 in
theorem r_L_tale_b64 {p : Program} {l : Launch} {e : Env} {s : State} {m : MethodId} {av : Array Value} {below : List Frame} {meth : Method} {c : Code} {D : va_G} {y : pq_Y} {G : pq_G} {r : Int64} {S1 : pq_N} (W0 : pq_WT G) (C : pq_C p s m av c D y RL wsL_tale cL_tale 5) (hr : meth.sig.returnType = (some .long)) (hlk : meth.locks = false) {c18 : pq_N → Nat → Int64 → Int32 → Option (Int64 × pq_N)} (hk18 : ∀ (S : pq_N) (a0 : Nat) (x1 : Int64) (x3 : Int32), pq_ok G 10 a0 → c18 S a0 x1 x3 = some (r, S1) → pq_V p l e (headSpec wsL_tale ({ frames := 4, cells := 0, slots := 0, locals := 87 } : Room)).room s m av below meth c 0 0 (MQ below (pq_Ql D y G s.heap.size r S1) av s 0 0 (pq_A G s.heap.size)) D y 5 (pq_A G s.heap.size) (fun _ => True) G S 18 [(0, .ref a0), (1, .long x1), (3, .int x3)] []) (n : Nat) : ∀ (S : pq_N) (a0 : Nat) (x1 : Int64) (x3 : Int32) (x4 : Int32), pq_ok G 10 a0 → F_L_tale_b64 G c18 n S a0 x1 x3 x4 = some (r, S1) → pq_V p l e (headSpec wsL_tale ({ frames := 4, cells := 0, slots := 0, locals := 87 } : Room)).room s m av below meth c 0 0 (MQ below (pq_Ql D y G s.heap.size r S1) av s 0 0 (pq_A G s.heap.size)) D y 5 (pq_A G s.heap.size) (fun _ => True) G S 64 [(0, .ref a0), (1, .long x1), (3, .int x3), (4, .int x4)] [] := by
  induction n with
  | zero =>
    intro S a0 x1 x3 x4 k0_ h
    rw [F_L_tale_b64.eq_1] at h; cases h
  | succ n ih =>
    intro S a0 x1 x3 x4 k0_ h
    rw [F_L_tale_b64.eq_2] at h
    refine pv_iload C 3 dL_tale_64 rfl ?_
    refine pv_aload_n C 0 dL_tale_66 rfl rfl ?_
    refine pv_iload_n C 2 dL_tale_67 rfl rfl ?_
    obtain ⟨v30, S31, e32, h⟩ := pq_bs h
    refine pv_calliV C (ci := 10) rfl (by decide) k0_ [.int x3] (fun sz => e_X10_wordsOf W0 k0_ e32 sz) (cwV 1 C.1.2.2.2.2 gL_tale_X10_wordsOf rfl rfl rfl (by decide +kernel) ⟨Nat.le_of_ble_eq_true rfl, Nat.le_of_ble_eq_true rfl⟩) rfl rfl (Nat.le_of_ble_eq_true rfl) dL_tale_68 ⟨Nat.le_of_ble_eq_true rfl, Nat.le_of_ble_eq_true rfl⟩ ?_
    refine pv_icmp_ge (tgt := 124) C dL_tale_71 (by decide) (fun c33 => ?_) (fun c33 => ?_)
    · have h := pq_it c33 h
      refine pv_iconst (v := 0) C dL_tale_124 (by decide) ?_
      refine pv_istore C [(4, .int (0 : Int32)), (0, .ref a0), (1, .long x1), (3, .int x3)] dL_tale_125 (by decide) rfl ?_
      refine pv_sub [1, 2, 3, 0] rfl ?_
      exact r_L_tale_b127 W0 C hr hlk hk18 pq_fuel _ _ _ _ _ k0_ h
    · have h := pq_if c33 h
      refine pv_ldc2 C (List.mem_of_getElem? (i := 1) rfl) dL_tale_74 ?_
      refine pv_ldc2 C (List.mem_of_getElem? (i := 1) rfl) dL_tale_77 ?_
      refine pv_ldc2 C (List.mem_of_getElem? (i := 1) rfl) dL_tale_80 ?_
      refine pv_lload_n C 1 dL_tale_83 rfl rfl ?_
      refine pv_lmul C dL_tale_84 ?_
      refine pv_aload_n C 0 dL_tale_85 rfl rfl ?_
      refine pv_iload_n C 2 dL_tale_86 rfl rfl ?_
      refine pv_iload C 3 dL_tale_87 rfl ?_
      refine pv_iconst (v := 0) C dL_tale_89 (by decide) ?_
      obtain ⟨v34, S35, e36, h⟩ := pq_bs h
      refine pv_calliV C (ci := 10) rfl (by decide) k0_ [.int x3, .int x4, .int (0 : Int32)] (fun sz => e_X10_letterOf W0 k0_ e36 sz) (cwV 3 C.1.2.2.2.2 gL_tale_X10_letterOf rfl rfl rfl (by decide +kernel) ⟨Nat.le_of_ble_eq_true rfl, Nat.le_of_ble_eq_true rfl⟩) rfl rfl (Nat.le_of_ble_eq_true rfl) dL_tale_90 ⟨Nat.le_of_ble_eq_true rfl, Nat.le_of_ble_eq_true rfl⟩ ?_
      refine pv_i2l C dL_tale_93 ?_
      refine pv_ladd C dL_tale_94 ?_
      refine pv_lmul C dL_tale_95 ?_
      refine pv_aload_n C 0 dL_tale_96 rfl rfl ?_
      refine pv_iload_n C 2 dL_tale_97 rfl rfl ?_
      refine pv_iload C 3 dL_tale_98 rfl ?_
      refine pv_iconst (v := 1) C dL_tale_100 (by decide) ?_
      obtain ⟨v37, S38, e39, h⟩ := pq_bs h
      refine pv_calliV C (ci := 10) rfl (by decide) k0_ [.int x3, .int x4, .int (1 : Int32)] (fun sz => e_X10_letterOf W0 k0_ e39 sz) (cwV 3 C.1.2.2.2.2 gL_tale_X10_letterOf rfl rfl rfl (by decide +kernel) ⟨Nat.le_of_ble_eq_true rfl, Nat.le_of_ble_eq_true rfl⟩) rfl rfl (Nat.le_of_ble_eq_true rfl) dL_tale_101 ⟨Nat.le_of_ble_eq_true rfl, Nat.le_of_ble_eq_true rfl⟩ ?_
      refine pv_i2l C dL_tale_104 ?_
      refine pv_ladd C dL_tale_105 ?_
      refine pv_lmul C dL_tale_106 ?_
      refine pv_aload_n C 0 dL_tale_107 rfl rfl ?_
      refine pv_iload_n C 2 dL_tale_108 rfl rfl ?_
      refine pv_iload C 3 dL_tale_109 rfl ?_
      refine pv_iconst (v := 2) C dL_tale_111 (by decide) ?_
      obtain ⟨v40, S41, e42, h⟩ := pq_bs h
      refine pv_calliV C (ci := 10) rfl (by decide) k0_ [.int x3, .int x4, .int (2 : Int32)] (fun sz => e_X10_letterOf W0 k0_ e42 sz) (cwV 3 C.1.2.2.2.2 gL_tale_X10_letterOf rfl rfl rfl (by decide +kernel) ⟨Nat.le_of_ble_eq_true rfl, Nat.le_of_ble_eq_true rfl⟩) rfl rfl (Nat.le_of_ble_eq_true rfl) dL_tale_112 ⟨Nat.le_of_ble_eq_true rfl, Nat.le_of_ble_eq_true rfl⟩ ?_
      refine pv_i2l C dL_tale_115 ?_
      refine pv_ladd C dL_tale_116 ?_
      refine pv_lstore_n C [(1, .long (((31 : Int64) * (((31 : Int64) * (((31 : Int64) * x1) + (Int32.toInt64 v34))) + (Int32.toInt64 v37))) + (Int32.toInt64 v40))), (0, .ref a0), (3, .int x3), (4, .int x4)] dL_tale_117 rfl (by decide) rfl ?_
      refine pv_iinc (v := (x4 + (1 : Int32))) C 3 [(4, .int (x4 + (1 : Int32))), (1, .long (((31 : Int64) * (((31 : Int64) * (((31 : Int64) * x1) + (Int32.toInt64 v34))) + (Int32.toInt64 v37))) + (Int32.toInt64 v40))), (0, .ref a0), (3, .int x3)] dL_tale_118 rfl rfl (by decide) rfl ?_
      refine pv_goto (tgt := 64) C dL_tale_121 (by decide) ?_
      refine pv_sub [2, 1, 3, 0] rfl ?_
      exact ih _ _ _ _ _ k0_ h
set_option maxHeartbeats 4000000 in
set_option maxRecDepth 100000 in
theorem r_L_tale_b18 {p : Program} {l : Launch} {e : Env} {s : State} {m : MethodId} {av : Array Value} {below : List Frame} {meth : Method} {c : Code} {D : va_G} {y : pq_Y} {G : pq_G} {r : Int64} {S1 : pq_N} (W0 : pq_WT G) (C : pq_C p s m av c D y RL wsL_tale cL_tale 5) (hr : meth.sig.returnType = (some .long)) (hlk : meth.locks = false) (n : Nat) : ∀ (S : pq_N) (a0 : Nat) (x1 : Int64) (x3 : Int32), pq_ok G 10 a0 → F_L_tale_b18 G n S a0 x1 x3 = some (r, S1) → pq_V p l e (headSpec wsL_tale ({ frames := 4, cells := 0, slots := 0, locals := 87 } : Room)).room s m av below meth c 0 0 (MQ below (pq_Ql D y G s.heap.size r S1) av s 0 0 (pq_A G s.heap.size)) D y 5 (pq_A G s.heap.size) (fun _ => True) G S 18 [(0, .ref a0), (1, .long x1), (3, .int x3)] [] := by
  induction n with
  | zero =>
    intro S a0 x1 x3 k0_ h
    rw [F_L_tale_b18.eq_1] at h; cases h
  | succ n ih =>
    intro S a0 x1 x3 k0_ h
    rw [F_L_tale_b18.eq_2] at h
    refine pv_iload_n C 2 dL_tale_18 rfl rfl ?_
    refine pv_aload_n C 0 dL_tale_19 rfl rfl ?_
    obtain ⟨v17, S18, e19, h⟩ := pq_bs h
    refine pv_calliV C (ci := 10) rfl (by decide) k0_ [] (fun sz => r_X10_pamphlets W0 k0_ e19 sz) (cwV 0 C.1.2.2.2.2 gL_tale_X10_pamphlets rfl rfl rfl (by decide +kernel) ⟨Nat.le_of_ble_eq_true rfl, Nat.le_of_ble_eq_true rfl⟩) rfl rfl (Nat.le_of_ble_eq_true rfl) dL_tale_20 ⟨Nat.le_of_ble_eq_true rfl, Nat.le_of_ble_eq_true rfl⟩ ?_
    refine pv_icmp_ge (tgt := 190) C dL_tale_23 (by decide) (fun c20 => ?_) (fun c20 => ?_)
    · have h := pq_it c20 h
      refine pv_lload_n C 1 dL_tale_190 rfl rfl ?_
      exact pv_lret C hr hlk h dL_tale_191
    · have h := pq_if c20 h
      refine pv_ldc2 C (List.mem_of_getElem? (i := 1) rfl) dL_tale_26 ?_
      refine pv_ldc2 C (List.mem_of_getElem? (i := 1) rfl) dL_tale_29 ?_
      refine pv_ldc2 C (List.mem_of_getElem? (i := 1) rfl) dL_tale_32 ?_
      refine pv_lload_n C 1 dL_tale_35 rfl rfl ?_
      refine pv_lmul C dL_tale_36 ?_
      refine pv_aload_n C 0 dL_tale_37 rfl rfl ?_
      refine pv_iload_n C 2 dL_tale_38 rfl rfl ?_
      obtain ⟨v21, S22, e23, h⟩ := pq_bs h
      refine pv_calliV C (ci := 10) rfl (by decide) k0_ [.int x3] (fun sz => e_X10_authorOf W0 k0_ e23 sz) (cwV 1 C.1.2.2.2.2 gL_tale_X10_authorOf rfl rfl rfl (by decide +kernel) ⟨Nat.le_of_ble_eq_true rfl, Nat.le_of_ble_eq_true rfl⟩) rfl rfl (Nat.le_of_ble_eq_true rfl) dL_tale_39 ⟨Nat.le_of_ble_eq_true rfl, Nat.le_of_ble_eq_true rfl⟩ ?_
      refine pv_i2l C dL_tale_42 ?_
      refine pv_ladd C dL_tale_43 ?_
      refine pv_lmul C dL_tale_44 ?_
      refine pv_aload_n C 0 dL_tale_45 rfl rfl ?_
      refine pv_iload_n C 2 dL_tale_46 rfl rfl ?_
      obtain ⟨v24, S25, e26, h⟩ := pq_bs h
      refine pv_calliV C (ci := 10) rfl (by decide) k0_ [.int x3] (fun sz => e_X10_dayOf W0 k0_ e26 sz) (cwV 1 C.1.2.2.2.2 gL_tale_X10_dayOf rfl rfl rfl (by decide +kernel) ⟨Nat.le_of_ble_eq_true rfl, Nat.le_of_ble_eq_true rfl⟩) rfl rfl (Nat.le_of_ble_eq_true rfl) dL_tale_47 ⟨Nat.le_of_ble_eq_true rfl, Nat.le_of_ble_eq_true rfl⟩ ?_
      refine pv_i2l C dL_tale_50 ?_
      refine pv_ladd C dL_tale_51 ?_
      refine pv_lmul C dL_tale_52 ?_
      refine pv_aload_n C 0 dL_tale_53 rfl rfl ?_
      refine pv_iload_n C 2 dL_tale_54 rfl rfl ?_
      obtain ⟨v27, S28, e29, h⟩ := pq_bs h
      refine pv_calliV C (ci := 10) rfl (by decide) k0_ [.int x3] (fun sz => e_X10_wordsOf W0 k0_ e29 sz) (cwV 1 C.1.2.2.2.2 gL_tale_X10_wordsOf rfl rfl rfl (by decide +kernel) ⟨Nat.le_of_ble_eq_true rfl, Nat.le_of_ble_eq_true rfl⟩) rfl rfl (Nat.le_of_ble_eq_true rfl) dL_tale_55 ⟨Nat.le_of_ble_eq_true rfl, Nat.le_of_ble_eq_true rfl⟩ ?_
      refine pv_i2l C dL_tale_58 ?_
      refine pv_ladd C dL_tale_59 ?_
      refine pv_lstore_n C [(1, .long (((31 : Int64) * (((31 : Int64) * (((31 : Int64) * x1) + (Int32.toInt64 v21))) + (Int32.toInt64 v24))) + (Int32.toInt64 v27))), (0, .ref a0), (3, .int x3)] dL_tale_60 rfl (by decide) rfl ?_
      refine pv_iconst (v := 0) C dL_tale_61 (by decide) ?_
      refine pv_istore C [(4, .int (0 : Int32)), (1, .long (((31 : Int64) * (((31 : Int64) * (((31 : Int64) * x1) + (Int32.toInt64 v21))) + (Int32.toInt64 v24))) + (Int32.toInt64 v27))), (0, .ref a0), (3, .int x3)] dL_tale_62 (by decide) rfl ?_
      refine pv_sub [2, 1, 3, 0] rfl ?_
      exact r_L_tale_b64 W0 C hr hlk ih pq_fuel _ _ _ _ _ k0_ h
set_option maxHeartbeats 4000000 in
set_option maxRecDepth 100000 in
theorem r_L_tale {l : Launch} {D : va_G} {y : pq_Y} {G : pq_G} (W0 : pq_WT G) {S : pq_N} {a0 : Nat} (k0_ : pq_ok G 10 a0) {r : Int64} {S1 : pq_N} (h : F_L_tale G S a0 = some (r, S1)) (sz : Nat) : Met l yL_tale wsL_tale ({ frames := 4, cells := 0, slots := 0, locals := 87 } : Room) (pq_P D y G S sz [.ref a0]) (pq_Ql D y G sz r S1) 0 0 (pq_A G sz) := by
  refine pq_enter RL 5 (by decide) rfl rfl rfl ?_
  intro p e s m below meth c C hsz hr hlk
  subst hsz
  unfold F_L_tale at h
  refine pv_sub (lo1 := [(0, .ref a0)]) [0] rfl ?_
  refine pv_ldc2 C (List.mem_of_getElem? (i := 1) rfl) dL_tale_0 ?_
  refine pv_aload_n C 0 dL_tale_3 rfl rfl ?_
  obtain ⟨v11, S12, e13, h⟩ := pq_bs h
  refine pv_calliV C (ci := 10) rfl (by decide) k0_ [] (fun sz => r_X10_day W0 k0_ e13 sz) (cwV 0 C.1.2.2.2.2 gL_tale_X10_day rfl rfl rfl (by decide +kernel) ⟨Nat.le_of_ble_eq_true rfl, Nat.le_of_ble_eq_true rfl⟩) rfl rfl (Nat.le_of_ble_eq_true rfl) dL_tale_4 ⟨Nat.le_of_ble_eq_true rfl, Nat.le_of_ble_eq_true rfl⟩ ?_
  refine pv_i2l C dL_tale_7 ?_
  refine pv_lmul C dL_tale_8 ?_
  refine pv_aload_n C 0 dL_tale_9 rfl rfl ?_
  obtain ⟨v14, S15, e16, h⟩ := pq_bs h
  refine pv_calliV C (ci := 10) rfl (by decide) k0_ [] (fun sz => r_X10_pamphlets W0 k0_ e16 sz) (cwV 0 C.1.2.2.2.2 gL_tale_X10_pamphlets rfl rfl rfl (by decide +kernel) ⟨Nat.le_of_ble_eq_true rfl, Nat.le_of_ble_eq_true rfl⟩) rfl rfl (Nat.le_of_ble_eq_true rfl) dL_tale_10 ⟨Nat.le_of_ble_eq_true rfl, Nat.le_of_ble_eq_true rfl⟩ ?_
  refine pv_i2l C dL_tale_13 ?_
  refine pv_ladd C dL_tale_14 ?_
  refine pv_lstore_n C [(1, .long (((31 : Int64) * (Int32.toInt64 v11)) + (Int32.toInt64 v14))), (0, .ref a0)] dL_tale_15 rfl (by decide) rfl ?_
  refine pv_iconst (v := 0) C dL_tale_16 (by decide) ?_
  refine pv_istore_n C [(3, .int (0 : Int32)), (1, .long (((31 : Int64) * (Int32.toInt64 v11)) + (Int32.toInt64 v14))), (0, .ref a0)] dL_tale_17 rfl (by decide) rfl ?_
  refine pv_sub [2, 1, 0] rfl ?_
  exact r_L_tale_b18 W0 C hr hlk pq_fuel _ _ _ _ k0_ h
