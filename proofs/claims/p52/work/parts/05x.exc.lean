/-! EXCEPTIONS: 1 IllegalArgument, 2 IllegalState, 3 IndexOutOfBounds -/
def pq_E : Nat → String
  | 1 => "java/lang/IllegalArgumentException"
  | 2 => "java/lang/IllegalStateException"
  | _ => "java/lang/IndexOutOfBoundsException"
abbrev pq_sup : List String := ["java/lang/RuntimeException", "java/lang/Exception"]
def pq_ic : Nat → Nat
  | 1 => 66
  | 2 => 77
  | _ => 156
def pq_xl (k : Nat) : List Cond := vx_atS RX10 (pq_ic k) (pq_E k) pq_sup
/-- the words of a throw that are not among a method's own -/
def pq_xw : List Cond := (pq_xl 1 ++ pq_xl 2 ++ pq_xl 3).filter (fun w => !goodWord w)
def pq_isx : Cond → Bool
  | .castable _ _ => true
  | .declares _ => true
  | _ => false
theorem pq_xwx : ∀ w ∈ pq_xw, pq_isx w = true := by decide +kernel
theorem pq_xgood : ∀ k, k < 4 → ∀ w ∈ pq_xl k, vx_ot w = true := by decide +kernel
theorem pq_xfit : ∀ k, k < 4 → Bundle.fit (pq_E k) = true := by decide +kernel
theorem pq_xnm : ∀ n ∈ pq_sup, Bundle.fit n = true := by decide +kernel
theorem pq_xot : ∀ k, k < 4 → ∀ ik : Nat, vx_ot (Cond.classLink RX10 ik (pq_E k)) = true ∧ vx_ot (Cond.initialized (pq_E k)) = true := by
  intro k hk ik
  exact ⟨rfl, rfl⟩
def pq_xs : List (Nat × String) := [(64, "the author is out of range"), (75, "the buffer cannot be printed"), (97, "the days are out of range"), (110, "the quotation is faithful"), (116, "the pamphlet would have too many words"), (126, "there are no pamphlets"), (137, "the last pamphlet was not printed on this day"), (154, "there is no such page"), (286, "the code is out of range"), (288, "the buffer is full"), (296, "no state is saved"), (311, "there is no snapshot"), (313, "there is no such author"), (318, "there is no such pamphlet"), (320, "there is no such word"), (322, "there is no such quotation"), (324, "there is no such place"), (326, "the index is below 0")]
def pq_X (A : Nat → Prop) (U : State) (H : Heap) : Prop := vx_Zq Bundle.tN "UNASSIGNED_STACK" Bundle.steD A U H ∧ vx_Zq Bundle.tN "SUPPRESSED_SENTINEL" Bundle.listD A U H ∧ (∀ w ∈ pq_xw, va_Nw w U) ∧ (∀ q ∈ pq_xs, ∃ sa, vk_R RX10 q.1 q.2 sa U) ∧ va_Nc (pq_E 2) (pq_E 1) U ∧ va_Nc (pq_E 2) (pq_E 3) U
theorem pq_X.warm {A : Nat → Prop} {s U : State} {H : Heap} (hW : s.WarmedH U.vm) (h : pq_X A s H) : pq_X A U H := by
  refine ⟨vx_Zq.moved hW.alike h.1, vx_Zq.moved hW.alike h.2.1, fun w hw => ?_, fun q hq => ?_, h.2.2.2.2.1.moved hW.alike, h.2.2.2.2.2.moved hW.alike⟩
  · have h1 := h.2.2.1 w hw
    have h2 := pq_xwx w hw
    cases w <;> first | exact va_Nw.warmC hW h1 | exact va_Nw.warmD hW h1 | (simp [pq_isx] at h2)
  · obtain ⟨sa, hs⟩ := h.2.2.2.1 q hq
    exact ⟨sa, vk_R.warm hW hs⟩
theorem pq_X.same {A : Nat → Prop} {s U : State} {H : Heap} (he : s.vm = U.vm) (h : pq_X A s H) : pq_X A U H := by
  have hA : s.vm.Alike U.vm := by rw [he]; exact Vm.Alike.refl U.vm
  refine ⟨vx_Zq.moved hA h.1, vx_Zq.moved hA h.2.1, fun w hw => ?_, fun q hq => ?_, h.2.2.2.2.1.moved hA, h.2.2.2.2.2.moved hA⟩
  · have h1 := h.2.2.1 w hw
    have h2 := pq_xwx w hw
    refine va_Nw.same ?_ he h1
    cases w <;> first | rfl | (simp [pq_isx] at h2)
  · obtain ⟨sa, hs⟩ := h.2.2.2.1 q hq
    exact ⟨sa, vk_R.same he.symm hs⟩
theorem pq_X.kept {A : Nat → Prop} {s : State} {H : Heap} {locs : List Loc} (h : pq_X A s s.heap) (hS : va_S A s.heap H locs) : pq_X A s H := ⟨vx_Zq.kept h.1 hS.2.1, vx_Zq.kept h.2.1 hS.2.1, h.2.2⟩
theorem pq_X.narrow {A B : Nat → Prop} {U : State} {H : Heap} (h : pq_X A U H) (hAB : ∀ q, B q → A q) : pq_X B U H := ⟨vx_Zq.narrow h.1 hAB, vx_Zq.narrow h.2.1 hAB, h.2.2⟩
def pq_PX (D : va_G) (y : pq_Y) (G : pq_G) (S : pq_N) (sz : Nat) (av : List Value) : Array Value → State → Prop := va_Pc av (fun U => U.heap.size = sz ∧ pq_B D y G S U ∧ pq_X (pq_A G sz) U U.heap)
/-- the world alone -/
def pq_W (D : va_G) (y : pq_Y) (G : pq_G) (S : pq_N) (H : Heap) : Prop := va_P D vwCl (pq_wl y G S) H ∧ va_D (fun _ => True) (pq_wl y G S)
def pq_ex {α : Type} : Nat ⊕ α → Option Nat
  | .inl k => some k
  | .inr _ => none
abbrev pq_XC (D : va_G) (y : pq_Y) (G : pq_G) (sz : Nat) (ex : Option Nat) (S1 : pq_N) : String → State → State → Prop := vx_X (fun u : pq_N => u = S1) (fun E u t => (∃ k, ex = some k ∧ E = pq_E k) ∧ pq_W D y G u t.heap) (pq_A G sz)
abbrev pq_XQi (D : va_G) (y : pq_Y) (G : pq_G) (sz : Nat) (res : Nat ⊕ Int32) (S1 : pq_N) : Array Value → State → Outcome → State → Prop := va_Qi (fun r1 u => res = .inr r1 ∧ u = S1) (fun u t => pq_B D y G u t) (pq_A G sz)
abbrev pq_XQv (D : va_G) (y : pq_Y) (G : pq_G) (sz : Nat) (res : Nat ⊕ Unit) (S1 : pq_N) : Array Value → State → Outcome → State → Prop := va_Qv (fun u => res = .inr () ∧ u = S1) (fun u t => pq_B D y G u t) (pq_A G sz)
/-- a callee that throws is left; else the rest -/
def pq_bx {α β γ : Type} (x : Option ((Nat ⊕ α) × β)) (f : α → β → Option ((Nat ⊕ γ) × β)) : Option ((Nat ⊕ γ) × β) := match x with
  | none => none
  | some (.inl k, S) => some (.inl k, S)
  | some (.inr v, S) => f v S
theorem pq_bxs {α β γ : Type} {x : Option ((Nat ⊕ α) × β)} {f : α → β → Option ((Nat ⊕ γ) × β)} {res : Nat ⊕ γ} {S1 : β} (h : pq_bx x f = some (res, S1)) : (∃ k S, x = some (.inl k, S) ∧ res = .inl k ∧ S1 = S) ∨ ∃ v S, x = some (.inr v, S) ∧ f v S = some (res, S1) := by
  match x, h with
  | some (.inl k, S), h => exact Or.inl ⟨k, S, rfl, by cases h; exact ⟨rfl, rfl⟩⟩
  | some (.inr v, S), h => exact Or.inr ⟨v, S, rfl, h⟩
/-- a callee that throws is caught -/
def pq_bh {α β γ : Type} (x : Option ((Nat ⊕ α) × β)) (g : Nat → β → Option γ) (f : α → β → Option γ) : Option γ := match x with
  | none => none
  | some (.inl k, S) => g k S
  | some (.inr v, S) => f v S
theorem pq_bhs {α β γ : Type} {x : Option ((Nat ⊕ α) × β)} {g : Nat → β → Option γ} {f : α → β → Option γ} {z : γ} (h : pq_bh x g f = some z) : (∃ k S, x = some (.inl k, S) ∧ g k S = some z) ∨ ∃ v S, x = some (.inr v, S) ∧ f v S = some z := by
  match x, h with
  | some (.inl k, S), h => exact Or.inl ⟨k, S, rfl, h⟩
  | some (.inr v, S), h => exact Or.inr ⟨v, S, rfl, h⟩
section PX
variable {p : Program} {l : Launch} {e : Env} {R : Room} {s : State} {m : MethodId} {args : Array Value} {below : List Frame} {meth : Method} {c : Code} {cells slots : Nat} {Q : State → Prop} {D : va_G} {y : pq_Y} {own : String} {Ts : List Cond} {cc : ByteArray} {nL : Nat} {A : Nat → Prop} {z : Heap → Prop} {G : pq_G} {S : pq_N} {pc : Nat} {lo : List (Nat × Value)} {rest : List Value}
theorem pq_enterX {yy : MethodName} {ws ws' : List Cond} {rm : Room} {ret : Option FieldType} {mc ms sz : Nat} {Qc : Array Value → State → Outcome → State → Prop} {XC : String → State → State → Prop} {free : Addr → Prop} {av : List Value} (own : String) (nL : Nat) (hy : plainName yy.cls = true) (hw : ws = Cond.code yy cc nL ret :: ws') (ho : yy.cls = own) (hlen : Nat.ble (lg_sl av).length nL = true)
    (body : ∀ (p : Program) (e : Env) (s : State) (m : MethodId) (below : List Frame) (meth : Method) (c : Code), pq_C p s m av.toArray c D y own ws cc nL → s.heap.size = sz → meth.sig.returnType = ret → meth.locks = false → pq_X (pq_A G sz) s s.heap → (∀ x ∈ c.exceptionTable.toList, False) → pq_V p l e (headSpec ws rm).room s m av.toArray below meth c 0 0 (vx_MQ below Qc XC av.toArray s mc ms free) D y nL (pq_A G s.heap.size) (fun _ => True) G S 0 (lv_args 0 av) []) : vx_Met l yy ws rm (pq_PX D y G S sz av) Qc XC mc ms free := by
  refine vx_ofW (cc := cc) (maxL := nL) (ret := ret) hy hw ?_
  intro p e s m args below meth c s₁ B hml htab hv
  obtain ⟨rfl, hsz, ⟨hP, hK, hD0, hT⟩, hX⟩ := hv
  have hts := atoms_spec (ws := ws) B.pre
  have hown : s.vm.findClass own = some m.cls := by rw [← ho]; exact findClass_of_methodNamed B.named
  have hl := lv_entry av (n := nL) (Nat.le_of_ble_eq_true hlen)
  rw [lg_entry_eq]
  refine body p e s m below meth c ⟨⟨B.exec, B.bytes, hml, hown, hts⟩, hK, hT⟩ hsz B.returns B.notSynchronized hX htab s.heap [] _ trivial hP ⟨hD0.1, fun k q hk => Or.inl ?_⟩ va_S.rf hl
  obtain ⟨a, ha, e1⟩ := List.mem_map.mp (List.mem_of_getElem? hk)
  rw [← e1]; exact ha
theorem pq_blindX {G1 : pq_G} {S1 : pq_N} {sz : Nat} {av : List Value} : FrameBlind (pq_PX D y G1 S1 sz av) := fun a U g mk q => by
  obtain ⟨q0, q1, ⟨qP, qK, qD, qT⟩, qX⟩ := q
  exact ⟨q0, q1, ⟨qP, va_K.moved (u := U) (U := U.calling g mk a) (Vm.Alike.refl U.vm) qK, qD, pq_Tb.same (s := U) (U := U.calling g mk a) rfl qT⟩, pq_X.same (s := U) (U := U.calling g mk a) rfl qX⟩
theorem pq_preX (C : pq_C p s m args c D y own Ts cc nL) {H : Heap} {locs : List Loc} {av : List Value} (hX : pq_X (pq_A G s.heap.size) s s.heap) (hP : va_P D vwCl (pq_wl y G S) H) (hD : va_D (pq_A G s.heap.size) (pq_wl y G S)) (hS : va_S (pq_A G s.heap.size) s.heap H locs) (U : State) (hU : U.heap = H) (hW : s.WarmedH U.vm) : pq_PX D y G S H.size av av.toArray U :=
  ⟨rfl, by rw [hU], ⟨by rw [hU]; exact hP, va_K.moved hW.alike C.2.1, hD.weaken (fun _ _ _ _ => trivial), pq_Tb.warm hW C.2.2⟩, by
    rw [hU]
    exact ((hX.kept hS).warm hW).narrow (fun q h => h.elim Or.inl (fun h => Or.inr (Nat.le_trans hS.1 h)))⟩
theorem pq_backW {S1 : pq_N} {H1 : Heap} (hB : pq_W D y G S1 H1) : va_P D vwCl (pq_wl y G S1) H1 ∧ va_D (pq_A G s.heap.size) (pq_wl y G S1) := by
  refine ⟨hB.1, hB.2.1, fun k q hk => Or.inl ?_⟩
  obtain ⟨a, ha, e⟩ := List.mem_map.mp (List.mem_of_getElem? hk)
  rw [← e]; exact ha
theorem pq_endX {H : Heap} {locs : List Loc} {ex : Option Nat} {k : Nat} (hP : va_P D vwCl (pq_wl y G S) H) (hD : va_D (pq_A G s.heap.size) (pq_wl y G S)) (hS : va_S (pq_A G s.heap.size) s.heap H locs) (he : ex = some k) (t : State) (h1 : H.size ≤ t.heap.size) (h2 : ∀ q : Nat, q < H.size → t.heap[q]? = H[q]?) : pq_XC D y G s.heap.size ex S (pq_E k) s t := by
  refine ⟨S, rfl, ⟨⟨k, he, rfl⟩, hP.kept (fun i q hq => h2 _ (hP i q hq).lt), hD.weaken (fun _ _ _ _ => trivial)⟩, Nat.le_trans hS.1 h1, fun q g1 g2 => ?_⟩
  rw [h2 q (Nat.lt_of_lt_of_le g1 hS.1)]
  exact hS.2.1 q g1 g2
theorem pv_thr (C : pq_C p s m args c D y own Ts cc nL) {mc ms : Nat} {Qc : Array Value → State → Outcome → State → Prop} {α : Type} {res : Nat ⊕ α} {S1 : pq_N} (hl : l.stackTraces = false) (hX : pq_X (pq_A G s.heap.size) s s.heap) (htab : ∀ x ∈ c.exceptionTable.toList, False) (hlk : meth.locks = false) (k : Nat) (hk : k < 4) (text : String) {ik is : Nat} (hs : (is, text) ∈ pq_xs) (how : own = RX10) (hlink : Cond.classLink own ik (pq_E k) ∈ Ts) (hini : Cond.initialized (pq_E k) ∈ Ts) (hat : ∀ w ∈ (pq_xl k).filter goodWord, w ∈ Ts) (hxw : ∀ w ∈ (pq_xl k).filter (fun w => !goodWord w), w ∈ pq_xw)
    (d0 : decode cc pc = .ok (.new ik, 3)) (d3 : decode cc (pc + 3) = .ok (.dup, 1)) (d4 : decode cc (pc + 4) = .ok (.ldc is, 2)) (d6 : decode cc (pc + 6) = .ok (.invokespecial (pq_ic k), 3)) (d9 : decode cc (pc + 9) = .ok (.athrow, 1)) (hRf : 5 < R.frames) (hRl : (rest.map fun v => v.category).sum + 82 ≤ R.locals) (hRc : cells + 1 ≤ R.cells) (hRs : slots + 6 ≤ R.slots) (hcc : cells + 1 ≤ mc) (hss : slots + 6 ≤ ms) (h : some (Sum.inl k, S) = some (res, S1)) : pq_V p l e R s m args below meth c cells slots (vx_MQ below Qc (pq_XC D y G s.heap.size (pq_ex res) S1) args s mc ms (pq_A G s.heap.size)) D y nL (pq_A G s.heap.size) z G S pc lo rest := by
  cases h
  subst how
  intro H locs ls hz hP hD hS hl2
  obtain ⟨sa, hstr⟩ := hX.2.2.2.1 (is, text) hs
  refine vx_throwS (names := pq_sup) (text := text) C.1.1 C.1.2.1 hl C.1.2.2.2.1 (pq_xfit k hk) pq_xnm (C.1.2.2.2.2 _ hlink) (C.1.2.2.2.2 _ hini) hstr ?_ ?_ hX.1 hX.2.1 hS (hl2.1.trans C.1.2.2.1.symm) d0 d3 d4 d6 d9 (fun x hx => (htab x hx).elim) hRf hRl hRc hRs hlk (fun t _ h1 h2 => pq_endX hP hD hS rfl t h1 h2) hS.2.2 hcc hss
  · exact vx_hat (B := pq_xw) (fun w hw => C.1.2.2.2.2 _ (hat w hw)) hxw (fun w hw => va_Nw.use (by have := pq_xwx w hw; cases w <;> first | rfl | (simp [pq_isx] at this)) (hX.2.2.1 w hw))
  · intro w hw
    rcases List.mem_cons.mp hw with rfl | hw
    · exact (pq_xot k hk ik).1
    · rcases List.mem_cons.mp hw with rfl | hw
      · exact (pq_xot k hk ik).2
      · exact pq_xgood k hk w hw
theorem pv_thrW (C : pq_C p s m args c D y own Ts cc nL) {mc ms : Nat} {Qc : Array Value → State → Outcome → State → Prop} {α : Type} {res : Nat ⊕ α} {S1 : pq_N} (hl : l.stackTraces = false) (hX : pq_X (pq_A G s.heap.size) s s.heap) (htab : ∀ x ∈ c.exceptionTable.toList, False) (hlk : meth.locks = false) (k : Nat) (hk : k < 4) (text : String) {ik is : Nat} (hs : (is, text) ∈ pq_xs) (how : own = RX10) (hlink : Cond.classLink own ik (pq_E k) ∈ Ts) (hini : Cond.initialized (pq_E k) ∈ Ts) (hat : ∀ w ∈ (pq_xl k).filter goodWord, w ∈ Ts) (hxw : ∀ w ∈ (pq_xl k).filter (fun w => !goodWord w), w ∈ pq_xw)
    (d0 : decode cc pc = .ok (.new ik, 3)) (d3 : decode cc (pc + 3) = .ok (.dup, 1)) (d4 : decode cc (pc + 4) = .ok (.ldc_w is, 3)) (d6 : decode cc (pc + 7) = .ok (.invokespecial (pq_ic k), 3)) (d9 : decode cc (pc + 10) = .ok (.athrow, 1)) (hRf : 5 < R.frames) (hRl : (rest.map fun v => v.category).sum + 82 ≤ R.locals) (hRc : cells + 1 ≤ R.cells) (hRs : slots + 6 ≤ R.slots) (hcc : cells + 1 ≤ mc) (hss : slots + 6 ≤ ms) (h : some (Sum.inl k, S) = some (res, S1)) : pq_V p l e R s m args below meth c cells slots (vx_MQ below Qc (pq_XC D y G s.heap.size (pq_ex res) S1) args s mc ms (pq_A G s.heap.size)) D y nL (pq_A G s.heap.size) z G S pc lo rest := by
  cases h
  subst how
  intro H locs ls hz hP hD hS hl2
  obtain ⟨sa, hstr⟩ := hX.2.2.2.1 (is, text) hs
  refine vx_throwSW (names := pq_sup) (text := text) C.1.1 C.1.2.1 hl C.1.2.2.2.1 (pq_xfit k hk) pq_xnm (C.1.2.2.2.2 _ hlink) (C.1.2.2.2.2 _ hini) hstr ?_ ?_ hX.1 hX.2.1 hS (hl2.1.trans C.1.2.2.1.symm) d0 d3 d4 d6 d9 (fun x hx => (htab x hx).elim) hRf hRl hRc hRs hlk (fun t _ h1 h2 => pq_endX hP hD hS rfl t h1 h2) hS.2.2 hcc hss
  · exact vx_hat (B := pq_xw) (fun w hw => C.1.2.2.2.2 _ (hat w hw)) hxw (fun w hw => va_Nw.use (by have := pq_xwx w hw; cases w <;> first | rfl | (simp [pq_isx] at this)) (hX.2.2.1 w hw))
  · intro w hw
    rcases List.mem_cons.mp hw with rfl | hw
    · exact (pq_xot k hk ik).1
    · rcases List.mem_cons.mp hw with rfl | hw
      · exact (pq_xot k hk ik).2
      · exact pq_xgood k hk w hw
theorem pv_xiret (C : pq_C p s m args c D y own Ts cc nL) {mc ms : Nat} {v : Int32} {res : Nat ⊕ Int32} {S1 : pq_N} (hr : meth.sig.returnType = some .int) (hlk : meth.locks = false) (hcc : cells ≤ mc) (hss : slots ≤ ms) (h : some (Sum.inr v, S) = some (res, S1)) (hdg : decode cc pc = .ok (.ireturn, 1)) : pq_V p l e R s m args below meth c cells slots (vx_MQ below (pq_XQi D y G s.heap.size res S1) (pq_XC D y G s.heap.size (pq_ex res) S1) args s mc ms (pq_A G s.heap.size)) D y nL (pq_A G s.heap.size) z G S pc lo [.int v] := by
  cases h
  intro H locs ls hz hP hD hS hl
  refine vx_ret (W.widen hcc hss ?_)
  exact W.iret C.1.1 C.1.2.1 hr (fun t ht hW => ⟨⟨v, S, rfl, ⟨rfl, rfl⟩, (pq_end C hP hD hS ht hW).1⟩, (pq_end C hP hD hS ht hW).2⟩) hS.2.2 hdg hlk
theorem pv_xzret (C : pq_C p s m args c D y own Ts cc nL) {mc ms : Nat} {v : Int32} {res : Nat ⊕ Int32} {S1 : pq_N} {ty : FieldType} (hr : meth.sig.returnType = some ty) (hn : narrow ty (.int v) = .int v) (hlk : meth.locks = false) (hcc : cells ≤ mc) (hss : slots ≤ ms) (h : some (Sum.inr v, S) = some (res, S1)) (hdg : decode cc pc = .ok (.ireturn, 1)) : pq_V p l e R s m args below meth c cells slots (vx_MQ below (pq_XQi D y G s.heap.size res S1) (pq_XC D y G s.heap.size (pq_ex res) S1) args s mc ms (pq_A G s.heap.size)) D y nL (pq_A G s.heap.size) z G S pc lo [.int v] := by
  cases h
  intro H locs ls hz hP hD hS hl
  refine vx_ret (W.widen hcc hss ?_)
  exact W.zret C.1.1 C.1.2.1 hr hn (fun t ht hW => ⟨⟨v, S, rfl, ⟨rfl, rfl⟩, (pq_end C hP hD hS ht hW).1⟩, (pq_end C hP hD hS ht hW).2⟩) hS.2.2 hdg hlk
theorem pv_xvret (C : pq_C p s m args c D y own Ts cc nL) {mc ms : Nat}  {res : Nat ⊕ Unit} {S1 : pq_N} (hr : meth.sig.returnType = none) (hlk : meth.locks = false) (hcc : cells ≤ mc) (hss : slots ≤ ms) (h : some (Sum.inr (), S) = some (res, S1)) (hdg : decode cc pc = .ok (.return_, 1)) : pq_V p l e R s m args below meth c cells slots (vx_MQ below (pq_XQv D y G s.heap.size res S1) (pq_XC D y G s.heap.size (pq_ex res) S1) args s mc ms (pq_A G s.heap.size)) D y nL (pq_A G s.heap.size) z G S pc lo [] := by
  cases h
  intro H locs ls hz hP hD hS hl
  refine vx_ret (W.widen hcc hss ?_)
  exact W.vret C.1.1 C.1.2.1 hr (fun t ht hW => ⟨⟨S, rfl, ⟨rfl, rfl⟩, (pq_end C hP hD hS ht hW).1⟩, (pq_end C hP hD hS ht hW).2⟩) hS.2.2 hdg hlk
theorem pv_xcalliVR (C : pq_C p s m args c D y own Ts cc nL) {kc ks : Nat} {yy : MethodName} {bytes : ByteArray} {maxL n index : Nat} {ret : Option FieldType} {ws : List Cond} {rm : Room} {ci b : Nat} {Cn : String} {T : u_T} {N : Nat} (hcl : vwCl[ci]? = some (Cn, T, N)) (hc2 : ci < 12) (hb : pq_ok G ci b) (hX : pq_X (pq_A G s.heap.size) s s.heap) (As : List Value) {r : Int32} {S1 : pq_N} (hM : ∀ sz, vx_Met l yy ws rm (pq_PX D y G S sz (.ref b :: As)) (pq_XQi D y G sz (.inr r) S1) (pq_XC D y G sz (pq_ex (Sum.inr r : Nat ⊕ Int32)) S1) kc ks (pq_A G sz)) (cw : CallW R s args own Cn index yy bytes maxL ret ws rm kc ks n) (hn : As.length = n) {st0 : List Value} (hst : st0 = As.reverse ++ .ref b :: rest) (hW : (rest.map fun v => v.category).sum ≤ 8) (hdg : decode cc pc = .ok (.invokevirtual index, 3)) (hf : cells + kc ≤ R.cells ∧ slots + ks ≤ R.slots) (kk : pq_V p l e R s m args below meth c (cells + kc) (slots + ks) Q D y nL (pq_A G s.heap.size) (fun _ => True) G S1 (pc + 3) lo (.int r :: rest)) : pq_V p l e R s m args below meth c cells slots Q D y nL (pq_A G s.heap.size) z G S pc lo st0 := by
  intro H locs ls hz hP hD hS hl
  refine vx_calli (vx_runV (As := As) (rest := rest) C.1 (hM H.size) cw ⟨pq_blindX, pq_recv C hP hb hcl hc2, fun U hU hW => pq_preX C hX hP hD hS U hU hW⟩ rfl hn hl.1 hst (lv_room hW) hdg hf) hS (fun q hq h => h.elim Or.inl (fun h => absurd hq (Nat.not_lt.mpr h))) (fun q h => h.elim Or.inl (fun h => Or.inr (Nat.le_trans hS.1 h))) (fun q hq h => h.elim Or.inl (fun h => absurd hq (Nat.not_lt.mpr h))) (fun E ce q9 u t H1 locs1 ht hvm hw hB => ?_) (fun r1 u t H1 locs1 ht hvm hw hB hz1 hk1 hS1 => ?_)
  · obtain ⟨⟨k, hk, -⟩, -⟩ := hB
    cases hk
  · obtain ⟨h1, rfl⟩ := hw
    cases h1
    obtain ⟨hP1, hD1⟩ := pq_back C hD ht hB
    exact kk H1 locs1 ls trivial hP1 hD1 hS1 hl
theorem pv_xcalliVT (C : pq_C p s m args c D y own Ts cc nL) {mc ms : Nat} {kc ks : Nat} {yy : MethodName} {bytes : ByteArray} {maxL n index : Nat} {ret : Option FieldType} {ws : List Cond} {rm : Room} {ci b : Nat} {Cn : String} {T : u_T} {N : Nat} (hcl : vwCl[ci]? = some (Cn, T, N)) (hc2 : ci < 12) (hb : pq_ok G ci b) (hX : pq_X (pq_A G s.heap.size) s s.heap) (As : List Value) {Qc : Array Value → State → Outcome → State → Prop} {k : Nat} {α : Type} {res : Nat ⊕ α} {S1 S2 : pq_N} (hM : ∀ sz, vx_Met l yy ws rm (pq_PX D y G S sz (.ref b :: As)) (pq_XQi D y G sz (.inl k) S2) (pq_XC D y G sz (pq_ex (Sum.inl k : Nat ⊕ Int32)) S2) kc ks (pq_A G sz)) (cw : CallW R s args own Cn index yy bytes maxL ret ws rm kc ks n) (hn : As.length = n) {st0 : List Value} (hst : st0 = As.reverse ++ .ref b :: rest) (hW : (rest.map fun v => v.category).sum ≤ 8) (hdg : decode cc pc = .ok (.invokevirtual index, 3)) (hf : cells + kc ≤ R.cells ∧ slots + ks ≤ R.slots) (htab : ∀ x ∈ c.exceptionTable.toList, False) (hlk : meth.locks = false) (hcc : cells + kc ≤ mc) (hss : slots + ks ≤ ms) (hres : res = .inl k) (hS12 : S1 = S2) : pq_V p l e R s m args below meth c cells slots (vx_MQ below Qc (pq_XC D y G s.heap.size (pq_ex res) S1) args s mc ms (pq_A G s.heap.size)) D y nL (pq_A G s.heap.size) z G S pc lo st0 := by
  subst hS12 hres
  intro H locs ls hz hP hD hS hl
  refine vx_calli (vx_runV (As := As) (rest := rest) C.1 (hM H.size) cw ⟨pq_blindX, pq_recv C hP hb hcl hc2, fun U hU hW => pq_preX C hX hP hD hS U hU hW⟩ rfl hn hl.1 hst (lv_room hW) hdg hf) hS (fun q hq h => h.elim Or.inl (fun h => absurd hq (Nat.not_lt.mpr h))) (fun q h => h.elim Or.inl (fun h => Or.inr (Nat.le_trans hS.1 h))) (fun q hq h => h.elim Or.inl (fun h => absurd hq (Nat.not_lt.mpr h))) (fun E ce q9 u t H1 locs1 ht hvm hw hB hz1 hk1 hS1 hce hcv hcl9 => ?_) (fun r1 u t H1 locs1 ht hvm hw hB => ?_)
  · obtain ⟨⟨k9, hk9, hE⟩, hB⟩ := hB
    cases hk9
    subst hw hE
    rw [ht] at hB
    obtain ⟨hP1, hD1⟩ := pq_backW (s := s) hB
    exact vx_out (fun x hx => (htab x hx).elim) hlk hce hcv hcl9 (fun t2 ht2 _ => pq_endX hP1 hD1 hS1 rfl t2 (by rw [ht2]; exact Nat.le_refl _) (fun q _ => by rw [ht2])) hS1.2.2 hcc hss
  · obtain ⟨h1, -⟩ := hw
    cases h1
theorem pv_xcalliSR (C : pq_C p s m args c D y own Ts cc nL) {kc ks : Nat} {yy : MethodName} {bytes : ByteArray} {maxL n index : Nat} {ret : Option FieldType} {ws : List Cond} {rm : Room}  (hX : pq_X (pq_A G s.heap.size) s s.heap) (As : List Value) {r : Int32} {S1 : pq_N} (hM : ∀ sz, vx_Met l yy ws rm (pq_PX D y G S sz As) (pq_XQi D y G sz (.inr r) S1) (pq_XC D y G sz (pq_ex (Sum.inr r : Nat ⊕ Int32)) S1) kc ks (pq_A G sz)) (cw : CallB R s args own index yy bytes maxL ret ws rm kc ks n ∧ (Cond.static yy).before args s = true) (hn : As.length = n) {st0 : List Value} (hst : st0 = As.reverse ++ rest) (hW : (rest.map fun v => v.category).sum ≤ 8) (hdg : decode cc pc = .ok (.invokestatic index, 3)) (hf : cells + kc ≤ R.cells ∧ slots + ks ≤ R.slots) (kk : pq_V p l e R s m args below meth c (cells + kc) (slots + ks) Q D y nL (pq_A G s.heap.size) (fun _ => True) G S1 (pc + 3) lo (.int r :: rest)) : pq_V p l e R s m args below meth c cells slots Q D y nL (pq_A G s.heap.size) z G S pc lo st0 := by
  intro H locs ls hz hP hD hS hl
  refine vx_calli (vx_runS (As := As) (rest := rest) C.1 (hM H.size) cw ⟨pq_blindX, fun U hU hW => pq_preX C hX hP hD hS U hU hW⟩ rfl hn hl.1 hst (lv_room hW) hdg hf) hS (fun q hq h => h.elim Or.inl (fun h => absurd hq (Nat.not_lt.mpr h))) (fun q h => h.elim Or.inl (fun h => Or.inr (Nat.le_trans hS.1 h))) (fun q hq h => h.elim Or.inl (fun h => absurd hq (Nat.not_lt.mpr h))) (fun E ce q9 u t H1 locs1 ht hvm hw hB => ?_) (fun r1 u t H1 locs1 ht hvm hw hB hz1 hk1 hS1 => ?_)
  · obtain ⟨⟨k, hk, -⟩, -⟩ := hB
    cases hk
  · obtain ⟨h1, rfl⟩ := hw
    cases h1
    obtain ⟨hP1, hD1⟩ := pq_back C hD ht hB
    exact kk H1 locs1 ls trivial hP1 hD1 hS1 hl
theorem pv_xcalliST (C : pq_C p s m args c D y own Ts cc nL) {mc ms : Nat} {kc ks : Nat} {yy : MethodName} {bytes : ByteArray} {maxL n index : Nat} {ret : Option FieldType} {ws : List Cond} {rm : Room}  (hX : pq_X (pq_A G s.heap.size) s s.heap) (As : List Value) {Qc : Array Value → State → Outcome → State → Prop} {k : Nat} {α : Type} {res : Nat ⊕ α} {S1 S2 : pq_N} (hM : ∀ sz, vx_Met l yy ws rm (pq_PX D y G S sz As) (pq_XQi D y G sz (.inl k) S2) (pq_XC D y G sz (pq_ex (Sum.inl k : Nat ⊕ Int32)) S2) kc ks (pq_A G sz)) (cw : CallB R s args own index yy bytes maxL ret ws rm kc ks n ∧ (Cond.static yy).before args s = true) (hn : As.length = n) {st0 : List Value} (hst : st0 = As.reverse ++ rest) (hW : (rest.map fun v => v.category).sum ≤ 8) (hdg : decode cc pc = .ok (.invokestatic index, 3)) (hf : cells + kc ≤ R.cells ∧ slots + ks ≤ R.slots) (htab : ∀ x ∈ c.exceptionTable.toList, False) (hlk : meth.locks = false) (hcc : cells + kc ≤ mc) (hss : slots + ks ≤ ms) (hres : res = .inl k) (hS12 : S1 = S2) : pq_V p l e R s m args below meth c cells slots (vx_MQ below Qc (pq_XC D y G s.heap.size (pq_ex res) S1) args s mc ms (pq_A G s.heap.size)) D y nL (pq_A G s.heap.size) z G S pc lo st0 := by
  subst hS12 hres
  intro H locs ls hz hP hD hS hl
  refine vx_calli (vx_runS (As := As) (rest := rest) C.1 (hM H.size) cw ⟨pq_blindX, fun U hU hW => pq_preX C hX hP hD hS U hU hW⟩ rfl hn hl.1 hst (lv_room hW) hdg hf) hS (fun q hq h => h.elim Or.inl (fun h => absurd hq (Nat.not_lt.mpr h))) (fun q h => h.elim Or.inl (fun h => Or.inr (Nat.le_trans hS.1 h))) (fun q hq h => h.elim Or.inl (fun h => absurd hq (Nat.not_lt.mpr h))) (fun E ce q9 u t H1 locs1 ht hvm hw hB hz1 hk1 hS1 hce hcv hcl9 => ?_) (fun r1 u t H1 locs1 ht hvm hw hB => ?_)
  · obtain ⟨⟨k9, hk9, hE⟩, hB⟩ := hB
    cases hk9
    subst hw hE
    rw [ht] at hB
    obtain ⟨hP1, hD1⟩ := pq_backW (s := s) hB
    exact vx_out (fun x hx => (htab x hx).elim) hlk hce hcv hcl9 (fun t2 ht2 _ => pq_endX hP1 hD1 hS1 rfl t2 (by rw [ht2]; exact Nat.le_refl _) (fun q _ => by rw [ht2])) hS1.2.2 hcc hss
  · obtain ⟨h1, -⟩ := hw
    cases h1
theorem pv_xcallvVR (C : pq_C p s m args c D y own Ts cc nL) {kc ks : Nat} {yy : MethodName} {bytes : ByteArray} {maxL n index : Nat} {ret : Option FieldType} {ws : List Cond} {rm : Room} {ci b : Nat} {Cn : String} {T : u_T} {N : Nat} (hcl : vwCl[ci]? = some (Cn, T, N)) (hc2 : ci < 12) (hb : pq_ok G ci b) (hX : pq_X (pq_A G s.heap.size) s s.heap) (As : List Value) {S1 : pq_N} (hM : ∀ sz, vx_Met l yy ws rm (pq_PX D y G S sz (.ref b :: As)) (pq_XQv D y G sz (.inr ()) S1) (pq_XC D y G sz (pq_ex (Sum.inr () : Nat ⊕ Unit)) S1) kc ks (pq_A G sz)) (cw : CallW R s args own Cn index yy bytes maxL ret ws rm kc ks n) (hn : As.length = n) {st0 : List Value} (hst : st0 = As.reverse ++ .ref b :: rest) (hW : (rest.map fun v => v.category).sum ≤ 8) (hdg : decode cc pc = .ok (.invokevirtual index, 3)) (hf : cells + kc ≤ R.cells ∧ slots + ks ≤ R.slots) (kk : pq_V p l e R s m args below meth c (cells + kc) (slots + ks) Q D y nL (pq_A G s.heap.size) (fun _ => True) G S1 (pc + 3) lo (rest)) : pq_V p l e R s m args below meth c cells slots Q D y nL (pq_A G s.heap.size) z G S pc lo st0 := by
  intro H locs ls hz hP hD hS hl
  refine vx_callv (vx_runV (As := As) (rest := rest) C.1 (hM H.size) cw ⟨pq_blindX, pq_recv C hP hb hcl hc2, fun U hU hW => pq_preX C hX hP hD hS U hU hW⟩ rfl hn hl.1 hst (lv_room hW) hdg hf) hS (fun q hq h => h.elim Or.inl (fun h => absurd hq (Nat.not_lt.mpr h))) (fun q h => h.elim Or.inl (fun h => Or.inr (Nat.le_trans hS.1 h))) (fun q hq h => h.elim Or.inl (fun h => absurd hq (Nat.not_lt.mpr h))) (fun E ce q9 u t H1 locs1 ht hvm hw hB => ?_) (fun u t H1 locs1 ht hvm hw hB hz1 hk1 hS1 => ?_)
  · obtain ⟨⟨k, hk, -⟩, -⟩ := hB
    cases hk
  · obtain ⟨h1, rfl⟩ := hw
    cases h1
    obtain ⟨hP1, hD1⟩ := pq_back C hD ht hB
    exact kk H1 locs1 ls trivial hP1 hD1 hS1 hl
theorem pv_xcallvVT (C : pq_C p s m args c D y own Ts cc nL) {mc ms : Nat} {kc ks : Nat} {yy : MethodName} {bytes : ByteArray} {maxL n index : Nat} {ret : Option FieldType} {ws : List Cond} {rm : Room} {ci b : Nat} {Cn : String} {T : u_T} {N : Nat} (hcl : vwCl[ci]? = some (Cn, T, N)) (hc2 : ci < 12) (hb : pq_ok G ci b) (hX : pq_X (pq_A G s.heap.size) s s.heap) (As : List Value) {Qc : Array Value → State → Outcome → State → Prop} {k : Nat} {α : Type} {res : Nat ⊕ α} {S1 S2 : pq_N} (hM : ∀ sz, vx_Met l yy ws rm (pq_PX D y G S sz (.ref b :: As)) (pq_XQv D y G sz (.inl k) S2) (pq_XC D y G sz (pq_ex (Sum.inl k : Nat ⊕ Unit)) S2) kc ks (pq_A G sz)) (cw : CallW R s args own Cn index yy bytes maxL ret ws rm kc ks n) (hn : As.length = n) {st0 : List Value} (hst : st0 = As.reverse ++ .ref b :: rest) (hW : (rest.map fun v => v.category).sum ≤ 8) (hdg : decode cc pc = .ok (.invokevirtual index, 3)) (hf : cells + kc ≤ R.cells ∧ slots + ks ≤ R.slots) (htab : ∀ x ∈ c.exceptionTable.toList, False) (hlk : meth.locks = false) (hcc : cells + kc ≤ mc) (hss : slots + ks ≤ ms) (hres : res = .inl k) (hS12 : S1 = S2) : pq_V p l e R s m args below meth c cells slots (vx_MQ below Qc (pq_XC D y G s.heap.size (pq_ex res) S1) args s mc ms (pq_A G s.heap.size)) D y nL (pq_A G s.heap.size) z G S pc lo st0 := by
  subst hS12 hres
  intro H locs ls hz hP hD hS hl
  refine vx_callv (vx_runV (As := As) (rest := rest) C.1 (hM H.size) cw ⟨pq_blindX, pq_recv C hP hb hcl hc2, fun U hU hW => pq_preX C hX hP hD hS U hU hW⟩ rfl hn hl.1 hst (lv_room hW) hdg hf) hS (fun q hq h => h.elim Or.inl (fun h => absurd hq (Nat.not_lt.mpr h))) (fun q h => h.elim Or.inl (fun h => Or.inr (Nat.le_trans hS.1 h))) (fun q hq h => h.elim Or.inl (fun h => absurd hq (Nat.not_lt.mpr h))) (fun E ce q9 u t H1 locs1 ht hvm hw hB hz1 hk1 hS1 hce hcv hcl9 => ?_) (fun u t H1 locs1 ht hvm hw hB => ?_)
  · obtain ⟨⟨k9, hk9, hE⟩, hB⟩ := hB
    cases hk9
    subst hw hE
    rw [ht] at hB
    obtain ⟨hP1, hD1⟩ := pq_backW (s := s) hB
    exact vx_out (fun x hx => (htab x hx).elim) hlk hce hcv hcl9 (fun t2 ht2 _ => pq_endX hP1 hD1 hS1 rfl t2 (by rw [ht2]; exact Nat.le_refl _) (fun q _ => by rw [ht2])) hS1.2.2 hcc hss
  · obtain ⟨h1, -⟩ := hw
    cases h1
theorem pv_xcallvSR (C : pq_C p s m args c D y own Ts cc nL) {kc ks : Nat} {yy : MethodName} {bytes : ByteArray} {maxL n index : Nat} {ret : Option FieldType} {ws : List Cond} {rm : Room}  (hX : pq_X (pq_A G s.heap.size) s s.heap) (As : List Value) {S1 : pq_N} (hM : ∀ sz, vx_Met l yy ws rm (pq_PX D y G S sz As) (pq_XQv D y G sz (.inr ()) S1) (pq_XC D y G sz (pq_ex (Sum.inr () : Nat ⊕ Unit)) S1) kc ks (pq_A G sz)) (cw : CallB R s args own index yy bytes maxL ret ws rm kc ks n ∧ (Cond.static yy).before args s = true) (hn : As.length = n) {st0 : List Value} (hst : st0 = As.reverse ++ rest) (hW : (rest.map fun v => v.category).sum ≤ 8) (hdg : decode cc pc = .ok (.invokestatic index, 3)) (hf : cells + kc ≤ R.cells ∧ slots + ks ≤ R.slots) (kk : pq_V p l e R s m args below meth c (cells + kc) (slots + ks) Q D y nL (pq_A G s.heap.size) (fun _ => True) G S1 (pc + 3) lo (rest)) : pq_V p l e R s m args below meth c cells slots Q D y nL (pq_A G s.heap.size) z G S pc lo st0 := by
  intro H locs ls hz hP hD hS hl
  refine vx_callv (vx_runS (As := As) (rest := rest) C.1 (hM H.size) cw ⟨pq_blindX, fun U hU hW => pq_preX C hX hP hD hS U hU hW⟩ rfl hn hl.1 hst (lv_room hW) hdg hf) hS (fun q hq h => h.elim Or.inl (fun h => absurd hq (Nat.not_lt.mpr h))) (fun q h => h.elim Or.inl (fun h => Or.inr (Nat.le_trans hS.1 h))) (fun q hq h => h.elim Or.inl (fun h => absurd hq (Nat.not_lt.mpr h))) (fun E ce q9 u t H1 locs1 ht hvm hw hB => ?_) (fun u t H1 locs1 ht hvm hw hB hz1 hk1 hS1 => ?_)
  · obtain ⟨⟨k, hk, -⟩, -⟩ := hB
    cases hk
  · obtain ⟨h1, rfl⟩ := hw
    cases h1
    obtain ⟨hP1, hD1⟩ := pq_back C hD ht hB
    exact kk H1 locs1 ls trivial hP1 hD1 hS1 hl
theorem pv_xcallvST (C : pq_C p s m args c D y own Ts cc nL) {mc ms : Nat} {kc ks : Nat} {yy : MethodName} {bytes : ByteArray} {maxL n index : Nat} {ret : Option FieldType} {ws : List Cond} {rm : Room}  (hX : pq_X (pq_A G s.heap.size) s s.heap) (As : List Value) {Qc : Array Value → State → Outcome → State → Prop} {k : Nat} {α : Type} {res : Nat ⊕ α} {S1 S2 : pq_N} (hM : ∀ sz, vx_Met l yy ws rm (pq_PX D y G S sz As) (pq_XQv D y G sz (.inl k) S2) (pq_XC D y G sz (pq_ex (Sum.inl k : Nat ⊕ Unit)) S2) kc ks (pq_A G sz)) (cw : CallB R s args own index yy bytes maxL ret ws rm kc ks n ∧ (Cond.static yy).before args s = true) (hn : As.length = n) {st0 : List Value} (hst : st0 = As.reverse ++ rest) (hW : (rest.map fun v => v.category).sum ≤ 8) (hdg : decode cc pc = .ok (.invokestatic index, 3)) (hf : cells + kc ≤ R.cells ∧ slots + ks ≤ R.slots) (htab : ∀ x ∈ c.exceptionTable.toList, False) (hlk : meth.locks = false) (hcc : cells + kc ≤ mc) (hss : slots + ks ≤ ms) (hres : res = .inl k) (hS12 : S1 = S2) : pq_V p l e R s m args below meth c cells slots (vx_MQ below Qc (pq_XC D y G s.heap.size (pq_ex res) S1) args s mc ms (pq_A G s.heap.size)) D y nL (pq_A G s.heap.size) z G S pc lo st0 := by
  subst hS12 hres
  intro H locs ls hz hP hD hS hl
  refine vx_callv (vx_runS (As := As) (rest := rest) C.1 (hM H.size) cw ⟨pq_blindX, fun U hU hW => pq_preX C hX hP hD hS U hU hW⟩ rfl hn hl.1 hst (lv_room hW) hdg hf) hS (fun q hq h => h.elim Or.inl (fun h => absurd hq (Nat.not_lt.mpr h))) (fun q h => h.elim Or.inl (fun h => Or.inr (Nat.le_trans hS.1 h))) (fun q hq h => h.elim Or.inl (fun h => absurd hq (Nat.not_lt.mpr h))) (fun E ce q9 u t H1 locs1 ht hvm hw hB hz1 hk1 hS1 hce hcv hcl9 => ?_) (fun u t H1 locs1 ht hvm hw hB => ?_)
  · obtain ⟨⟨k9, hk9, hE⟩, hB⟩ := hB
    cases hk9
    subst hw hE
    rw [ht] at hB
    obtain ⟨hP1, hD1⟩ := pq_backW (s := s) hB
    exact vx_out (fun x hx => (htab x hx).elim) hlk hce hcv hcl9 (fun t2 ht2 _ => pq_endX hP1 hD1 hS1 rfl t2 (by rw [ht2]; exact Nat.le_refl _) (fun q _ => by rw [ht2])) hS1.2.2 hcc hss
  · obtain ⟨h1, -⟩ := hw
    cases h1
theorem pv_xcalliVH (C : pq_C p s m args c D y own Ts cc nL) {kc ks : Nat} {yy : MethodName} {bytes : ByteArray} {maxL n index : Nat} {ret : Option FieldType} {ws : List Cond} {rm : Room} {ci b : Nat} {Cn : String} {T : u_T} {N : Nat} (hcl : vwCl[ci]? = some (Cn, T, N)) (hc2 : ci < 12) (hb : pq_ok G ci b) (hX : pq_X (pq_A G s.heap.size) s s.heap) (As : List Value) {k : Nat} {S2 : pq_N} (hM : ∀ sz, vx_Met l yy ws rm (pq_PX D y G S sz (.ref b :: As)) (pq_XQi D y G sz (.inl k) S2) (pq_XC D y G sz (pq_ex (Sum.inl k : Nat ⊕ Int32)) S2) kc ks (pq_A G sz)) (cw : CallW R s args own Cn index yy bytes maxL ret ws rm kc ks n) (hn : As.length = n) {st0 : List Value} (hst : st0 = As.reverse ++ .ref b :: rest) (hW : (rest.map fun v => v.category).sum ≤ 8) (hdg : decode cc pc = .ok (.invokevirtual index, 3)) (hf : cells + kc ≤ R.cells ∧ slots + ks ≤ R.slots)
    (pre : List ExceptionTableEntry) (x : ExceptionTableEntry) (suf : List ExceptionTableEntry) (hsplit : c.exceptionTable.toList = pre ++ x :: suf) (hpass : ∀ z ∈ pre, covers z pc = false ∨ (z.catchType ≠ 0 ∧ ∃ nm : String, (Cond.classLink own z.catchType nm).before args s = true ∧ va_Nc (pq_E k) nm s)) (hx : covers x pc = true) (h0 : x.catchType ≠ 0) (hlink : Cond.classLink own x.catchType (pq_E k) ∈ Ts) (hcast : Cond.castable (pq_E k) (pq_E k) ∈ pq_xw) (kk : ∀ q, pq_V p l e R s m args below meth c (cells + kc) (slots + ks) Q D y nL (pq_A G s.heap.size) (fun _ => True) G S2 x.handlerPc lo [.ref q]) : pq_V p l e R s m args below meth c cells slots Q D y nL (pq_A G s.heap.size) z G S pc lo st0 := by
  intro H locs ls hz hP hD hS hl
  refine vx_calli (vx_runV (As := As) (rest := rest) C.1 (hM H.size) cw ⟨pq_blindX, pq_recv C hP hb hcl hc2, fun U hU hW => pq_preX C hX hP hD hS U hU hW⟩ rfl hn hl.1 hst (lv_room hW) hdg hf) hS (fun q hq h => h.elim Or.inl (fun h => absurd hq (Nat.not_lt.mpr h))) (fun q h => h.elim Or.inl (fun h => Or.inr (Nat.le_trans hS.1 h))) (fun q hq h => h.elim Or.inl (fun h => absurd hq (Nat.not_lt.mpr h))) (fun E ce q9 u t H1 locs1 ht hvm hw hB hz1 hk1 hS1 hce hcv hcl9 => ?_) (fun r1 u t H1 locs1 ht hvm hw hB => ?_)
  · obtain ⟨⟨k9, hk9, hE⟩, hB⟩ := hB
    cases hk9
    subst hw hE
    rw [ht] at hB
    obtain ⟨hP1, hD1⟩ := pq_backW (s := s) hB
    exact vx_catch C.1.2.2.2.1 pre x suf hsplit hpass hx h0 (C.1.2.2.2.2 _ hlink) (va_Nw.use rfl (hX.2.2.1 _ hcast)) hce hcv hcl9 (kk q9 H1 locs1 ls trivial hP1 hD1 hS1 hl)
  · obtain ⟨h1, -⟩ := hw
    cases h1
theorem pq_enterH {yy : MethodName} {ws ws' : List Cond} {rm : Room} {ret : Option FieldType} {mc ms sz : Nat} {hh : List (Nat × Nat × Nat × Nat)} {Qc : Array Value → State → Outcome → State → Prop} {free : Addr → Prop} {av : List Value} (own : String) (nL : Nat) (hy : plainName yy.cls = true) (hw : ws = Cond.codeWith yy cc nL ret hh :: ws') (ho : yy.cls = own) (hlen : Nat.ble (lg_sl av).length nL = true)
    (body : ∀ (p : Program) (e : Env) (s : State) (m : MethodId) (below : List Frame) (meth : Method) (c : Code), pq_C p s m av.toArray c D y own ws cc nL → s.heap.size = sz → meth.sig.returnType = ret → meth.locks = false → pq_X (pq_A G sz) s s.heap → c.exceptionTable.toList = tableOf hh → pq_V p l e (headSpec ws rm).room s m av.toArray below meth c 0 0 (MQ below Qc av.toArray s mc ms free) D y nL (pq_A G s.heap.size) (fun _ => True) G S 0 (lv_args 0 av) []) : Met l yy ws rm (pq_PX D y G S sz av) Qc mc ms free := by
  refine va_MetW (cc := cc) (maxL := nL) (ret := ret) hy hw ?_
  intro p e s m args below meth c s₁ B hml hv
  obtain ⟨rfl, hsz, ⟨hP, hK, hD0, hT⟩, hX⟩ := hv
  have hts := atoms_spec (ws := ws) B.pre
  have hown : s.vm.findClass own = some m.cls := by rw [← ho]; exact findClass_of_methodNamed B.named
  have hl := lv_entry av (n := nL) (Nat.le_of_ble_eq_true hlen)
  rw [lg_entry_eq]
  refine body p e s m below meth c ⟨⟨B.exec, B.bytes, hml, hown, hts⟩, hK, hT⟩ hsz B.returns B.notSynchronized hX (vx_table (x := yy) B (hts _ (by rw [hw]; exact List.mem_cons_self))) s.heap [] _ trivial hP ⟨hD0.1, fun k q hk => Or.inl ?_⟩ va_S.rf hl
  obtain ⟨a, ha, e1⟩ := List.mem_map.mp (List.mem_of_getElem? hk)
  rw [← e1]; exact ha
theorem pv_wide {k n : Nat} {st : List Value} (h1 : cells ≤ k) (h2 : slots ≤ n) (kk : pq_V p l e R s m args below meth c k n Q D y nL A z G S pc lo st) : pq_V p l e R s m args below meth c cells slots Q D y nL A z G S pc lo st := fun H locs ls hz hP hD hS hl => W.widen h1 h2 (kk H locs ls hz hP hD hS hl)
theorem pv_hcalli (C : pq_C p s m args c D y own Ts cc nL) {kc ks : Nat} {yy : MethodName} {bytes : ByteArray} {maxL n index : Nat} {ret : Option FieldType} {hh : List (Nat × Nat × Nat × Nat)} {ws : List Cond} {rm : Room} (hX : pq_X (pq_A G s.heap.size) s s.heap) (As : List Value) {r : Int32} {S1 : pq_N} (hM : ∀ sz, Met l yy ws rm (pq_PX D y G S sz As) (pq_Qi D y G sz r S1) kc ks (pq_A G sz)) (cw : vx_CSW R s args own index yy bytes maxL ret hh ws rm kc ks n) (hn : As.length = n) {st0 : List Value} (hst : st0 = As.reverse ++ rest) (hW : (rest.map fun v => v.category).sum ≤ 8) (hdg : decode cc pc = .ok (.invokestatic index, 3)) (hf : cells + kc ≤ R.cells ∧ slots + ks ≤ R.slots) (kk : pq_V p l e R s m args below meth c (cells + kc) (slots + ks) Q D y nL (pq_A G s.heap.size) (fun _ => True) G S1 (pc + 3) lo (.int r :: rest)) : pq_V p l e R s m args below meth c cells slots Q D y nL (pq_A G s.heap.size) z G S pc lo st0 := by
  intro H locs ls hz hP hD hS hl
  refine va_calli (vx_runSW (As := As) (rest := rest) C.1 (hM H.size) cw ⟨pq_blindX, fun U hU hW => pq_preX C hX hP hD hS U hU hW⟩ rfl hn hl.1 hst (lv_room hW) hdg hf) hS (fun q hq h => h.elim Or.inl (fun h => absurd hq (Nat.not_lt.mpr h))) (fun q h => h.elim Or.inl (fun h => Or.inr (Nat.le_trans hS.1 h))) (fun r1 u t H1 locs1 ht hvm hw hB hz1 hk1 hS1 => ?_)
  obtain ⟨rfl, rfl⟩ := hw
  obtain ⟨hP1, hD1⟩ := pq_back C hD ht hB
  exact kk H1 locs1 ls trivial hP1 hD1 hS1 hl
/-- the law's script -/
theorem pv_sld (C : pq_C p s m args c D y own Ts cc nL) {bb L : Nat} {xs : Nat → Int32} {i : Int32} (hXs : va_X bb L xs s s.heap) (hbl : bb < s.heap.size) (hbA : ¬ A bb) (hin : vp_in i L) (hdg : decode cc pc = .ok (.iaload, 1)) (k : pq_V p l e R s m args below meth c cells slots Q D y nL A z G S (pc + 1) lo (.int (xs i.toNatClampNeg) :: rest)) : pq_V p l e R s m args below meth c cells slots Q D y nL A z G S pc lo (.int i :: .ref bb :: rest) := fun H locs ls hz hP hD hS hl => va_sld C.1.1 C.1.2.1 hXs hbl hbA hS hin hdg (k H locs ls hz hP hD hS hl)
theorem pv_slen (C : pq_C p s m args c D y own Ts cc nL) {bb L : Nat} {xs : Nat → Int32} (hXs : va_X bb L xs s s.heap) (hbl : bb < s.heap.size) (hbA : ¬ A bb) (hdg : decode cc pc = .ok (.arraylength, 1)) (k : pq_V p l e R s m args below meth c cells slots Q D y nL A z G S (pc + 1) lo (.int (Int32.ofNat L) :: rest)) : pq_V p l e R s m args below meth c cells slots Q D y nL A z G S pc lo (.ref bb :: rest) := fun H locs ls hz hP hD hS hl => va_slen C.1.1 C.1.2.1 hXs hbl hbA hS hdg (k H locs ls hz hP hD hS hl)
end PX
theorem xxw_1 : ∀ w ∈ (pq_xl 1).filter (fun w => !goodWord w), w ∈ pq_xw := fun w h => List.mem_filter.mpr ⟨List.mem_append_left _ (List.mem_append_left _ (List.mem_filter.mp h).1), (List.mem_filter.mp h).2⟩
theorem xxw_2 : ∀ w ∈ (pq_xl 2).filter (fun w => !goodWord w), w ∈ pq_xw := fun w h => List.mem_filter.mpr ⟨List.mem_append_left _ (List.mem_append_right _ (List.mem_filter.mp h).1), (List.mem_filter.mp h).2⟩
theorem xxw_3 : ∀ w ∈ (pq_xl 3).filter (fun w => !goodWord w), w ∈ pq_xw := fun w h => List.mem_filter.mpr ⟨List.mem_append_right _ (List.mem_filter.mp h).1, (List.mem_filter.mp h).2⟩
