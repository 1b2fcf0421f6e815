/-! CONSTRUCTORS: the skeleton grows; the next address is known. -/
abbrev pq_M : Type := pq_G × pq_N × Nat
def pq_push (G : pq_G) (q kd n : Nat) : pq_G := (G.1 ++ [q], va_up G.2.1 q kd, va_up G.2.2.1 q (fun _ => none), va_up G.2.2.2 q n)
def pq_zero (S : pq_N) (q : Nat) : pq_N := (va_up S.1 q (fun _ => 0), va_up S.2 q (fun _ => 0))
def pq_ref (G : pq_G) (a k q : Nat) : pq_G := (G.1, G.2.1, va_up G.2.2.1 a (va_up (G.2.2.1 a) k (some q)), G.2.2.2)
theorem pq_okp {G : pq_G} {q kd n c a : Nat} (hq : q ∉ G.1) (h : pq_ok G c a) : pq_ok (pq_push G q kd n) c a := by
  refine ⟨List.mem_append_left _ h.1, ?_⟩
  show va_up G.2.1 q kd a = c
  rw [va_up_ne _ _ (fun e => hq (by rw [← e]; exact h.1))]
  exact h.2
theorem pq_okn {G : pq_G} {q kd n : Nat} : pq_ok (pq_push G q kd n) kd q := ⟨List.mem_append_right _ List.mem_cons_self, va_up_self _ _ _⟩
theorem pq_fvn {G : pq_G} {S : pq_N} {q kd n : Nat} {l : List Bool} : l.mapIdx (pq_fv (pq_push G q kd n) (pq_zero S q) q) = l.map (fun b => if b then Value.null else .int 0) := by
  apply List.ext_getElem?
  intro i
  rw [List.getElem?_mapIdx, List.getElem?_map]
  cases l[i]? with
  | none => rfl
  | some b => cases b <;> simp [pq_fv, pq_push, pq_zero, va_up_self, va_rf]
theorem pq_wlp {y : pq_Y} {G : pq_G} {S : pq_N} {q kd n : Nat} (h : q ∉ G.1) : pq_wl y G S ++ [(q, pq_cel y (pq_push G q kd n) (pq_zero S q) q)] = pq_wl y (pq_push G q kd n) (pq_zero S q) := by
  unfold pq_wl
  rw [va_pl_push h]
  refine va_pl_congr (fun b => ?_)
  by_cases hb : b = q
  · subst hb; rw [va_up_self]
  · rw [va_up_ne _ _ hb]
    have hf : pq_fv (pq_push G q kd n) (pq_zero S q) b = pq_fv G S b := by
      funext i w
      simp [pq_fv, pq_push, pq_zero, va_up_ne _ _ hb]
    unfold pq_cel
    rw [hf]
    simp only [pq_push, pq_zero, va_up_ne _ _ hb]
theorem pq_fvRef {G : pq_G} {S : pq_N} {a k q : Nat} {l : List Bool} (h : l[k]? = some true) : (l.mapIdx (pq_fv G S a)).set k (.ref q) = l.mapIdx (pq_fv (pq_ref G a k q) S a) := by
  apply List.ext_getElem?
  intro i
  have hl : k < l.length := (List.getElem?_eq_some_iff.mp h).1
  by_cases hik : i = k
  · subst hik
    rw [List.getElem?_set_self (by simpa using hl), List.getElem?_mapIdx, h]
    simp [pq_fv, pq_ref, va_up_self, va_rf]
  · rw [List.getElem?_set_ne (Ne.symm hik), List.getElem?_mapIdx, List.getElem?_mapIdx]
    cases hb : l[i]? with
    | none => rfl
    | some b => cases b <;> simp [pq_fv, pq_ref, va_up_self, va_up_ne _ _ hik]
theorem pq_celRef {y : pq_Y} {G : pq_G} {S : pq_N} {a k q : Nat} {e : va_E} (he : pq_cel y (pq_ref G a k q) S a = e) : va_pl G.1 (va_up (pq_cel y G S) a e) = pq_wl y (pq_ref G a k q) S := by
  refine va_pl_congr (fun b => ?_)
  by_cases hb : b = a
  · subst hb; rw [va_up_self, he]
  · rw [va_up_ne _ _ hb]
    have hf : pq_fv (pq_ref G a k q) S b = pq_fv G S b := by
      funext i w
      simp [pq_fv, pq_ref, va_up_ne _ _ hb]
    unfold pq_cel
    rw [hf]
    simp only [pq_ref, va_up_ne _ _ hb]
abbrev pq_QZ (D : va_G) (y : pq_Y) (G : pq_G) (sz : Nat) (M1 : pq_M) : Array Value → State → Outcome → State → Prop := va_Qv (fun u : pq_M => u = M1) (fun u t => va_P D vwCl (pq_wl y u.1 u.2.1) t.heap ∧ va_D (pq_A G sz) (pq_wl y u.1 u.2.1) ∧ t.heap.size = u.2.2) (pq_A G sz)
theorem pq_bz {β γ : Type} {x : Option β} {f : β → Option γ} {w : γ} (h : x.bind f = some w) : ∃ a, x = some a ∧ f a = some w := Option.bind_eq_some_iff.mp h
section PZ
variable {p : Program} {l : Launch} {e : Env} {R : Room} {s : State} {m : MethodId} {args : Array Value} {below : List Frame} {meth : Method} {c : Code} {cells slots : Nat} {Q : State → Prop} {D : va_G} {y : pq_Y} {own : String} {Ts : List Cond} {cc : ByteArray} {nL : Nat} {G G0 : pq_G} {S : pq_N} {pc nx : Nat} {lo : List (Nat × Value)} {rest : List Value}
theorem pq_out {H : Heap} (hP : va_P D vwCl (pq_wl y G S) H) {q : Nat} (h : H.size ≤ q) : q ∉ G.1 := fun hq => by
  obtain ⟨k, hk⟩ := pq_at (y := y) (G := G) (S := S) hq
  exact absurd (hP k _ hk).lt (Nat.not_lt.mpr h)
theorem pz_new (C : pq_C p s m args c D y own Ts cc nL) {ci : Nat} {Cn : String} {T : u_T} {N index : Nat} (hin : ∀ w ∈ u_ws Cn T N, w ∈ Ts) (hc : vwCl[ci]? = some (Cn, T, N)) (hc2 : ci < 12) (ty0 : Nat → FieldType) (hty : ∀ k, k < N → parseFieldDescriptor (T k).2.2.1 = some (ty0 k)) (hcl : Cond.classLink own index Cn ∈ Ts) (hinst : Cond.instantiable Cn N ∈ Ts) (hini : Cond.initialized Cn ∈ Ts) (hfs : ∀ j, j < N → defaultValue (ty0 j) = vp_V ((pq_lyt ci).map (fun b => if b then Value.null else .int 0)) j) (hcells : cells + 1 ≤ R.cells) (hslots : slots + N ≤ R.slots) (hdg : decode cc pc = .ok (.new index, 3))
    (kk : nx ∉ G.1 → pq_V p l e R s m args below meth c (cells + 1) (slots + N) Q D y nL (pq_A G0 s.heap.size) (fun H => H.size = nx + 1) (pq_push G nx ci 0) (pq_zero S nx) (pc + 3) lo (.ref nx :: rest)) : pq_V p l e R s m args below meth c cells slots Q D y nL (pq_A G0 s.heap.size) (fun H => H.size = nx) G S pc lo rest := by
  intro H locs ls hz hP hD hS hl
  have hz : H.size = nx := hz
  have hn : nx ∉ G.1 := pq_out hP (by rw [hz]; exact Nat.le_refl _)
  have hKn := C.2.1.1 ci _ hc
  refine W.newcK C.1.1 C.1.2.1 C.1.2.2.2.1 (C.1.2.2.2.2 _ hcl) (C.1.2.2.2.2 _ hinst) (C.1.2.2.2.2 _ hini) rfl hdg hcells hslots hKn.2.1 rfl fun H1 kC hkC e1 z1 o1 => ?_
  have hk : ∀ (k : Nat) (x : Nat × va_E), (pq_wl y G S)[k]? = some x → H1[x.1]? = H[x.1]? := fun k x hx => o1 x.1 ((hP k x hx).lt)
  have hP1 : va_P D vwCl (pq_wl y G S ++ [(H.size, pq_cel y (pq_push G nx ci 0) (pq_zero S nx) nx)]) H1 := (hP.kept hk).app (fun k x hx => by
    have hz2 : k < 1 := (List.getElem?_eq_some_iff.mp hx).1
    rw [show k = 0 by omega] at hx
    cases hx
    rw [pq_celO pq_okn hc2, pq_fvn]
    exact ⟨_, hc, (u_born ty0 C.1.2.2.2.2 hin hKn hkC e1 hty).to hfs⟩)
  have hD1 : va_D (pq_A G0 s.heap.size) (pq_wl y G S ++ [(H.size, pq_cel y (pq_push G nx ci 0) (pq_zero S nx) nx)]) := hD.push hP rfl (Or.inr hS.1)
  have hS1 : va_S (pq_A G0 s.heap.size) s.heap H1 locs := ⟨Nat.le_trans hS.1 (by omega), fun x h1 h2 => (o1 x (Nat.lt_of_lt_of_le h1 hS.1)).trans (hS.2.1 x h1 h2), hS.2.2⟩
  rw [hz] at hP1 hD1
  rw [pq_wlp hn] at hP1 hD1
  have := kk hn H1 locs ls (by show H1.size = nx + 1; omega) hP1 hD1 hS1 hl
  rw [← hz] at this
  exact this
theorem pz_putF (C : pq_C p s m args c D y own Ts cc nL) {ci : Nat} {Cn : String} {T : u_T} {N index a q : Nat} {ty : FieldType} (k : Nat) (hin : ∀ w ∈ u_ws Cn T N, w ∈ Ts) (hc : vwCl[ci]? = some (Cn, T, N)) (hc2 : ci < 12) (ty0 : Nat → FieldType) (hty : ∀ k, k < N → parseFieldDescriptor (T k).2.2.1 = some (ty0 k)) (hnm : ∀ a, a < N → ∀ b, b < N → a ≠ b → (T a).2.1 ≠ (T b).2.1) (hk : k < N) (hw : Cond.fieldLink own index (T k).1 (T k).2.1 (T k).2.2.1 ∈ Ts) (hb : (pq_lyt ci)[k]? = some true) (ha : pq_ok G ci a) (hfin : (T k).2.2.2 = true) (hin2 : meth.name = "<init>") (hdecl : (T k).1 = own) (hd : parseFieldDescriptor (T k).2.2.1 = some ty) (hn : narrow ty (.ref q) = .ref q) (hfit : fits ty (.ref q) = true) (hdg : decode cc pc = .ok (.putfield index, 3))
    (kk : pq_V p l e R s m args below meth c cells slots Q D y nL (pq_A G0 s.heap.size) (fun H => H.size = nx) (pq_ref G a k q) S (pc + 3) lo rest) : pq_V p l e R s m args below meth c cells slots Q D y nL (pq_A G0 s.heap.size) (fun H => H.size = nx) G S pc lo (.ref q :: .ref a :: rest) := by
  intro H locs ls hz hP hD hS hl
  obtain ⟨q0, h0⟩ := pq_at (y := y) (G := G) (S := S) ha.1
  have h1 := h0
  rw [pq_celO ha hc2] at h0
  have hts := C.1.2.2.2.2
  have hap := va_apart (own := own) hts hin ty0 hty hnm C.2.1 hc
  obtain ⟨r, g1, cell, q1, q2, q3, q4⟩ := hP q0 _ h0
  have hr : r = (Cn, T, N) := Option.some.inj (g1.symm.trans hc)
  subst hr
  obtain ⟨hS9, hfc, kC, hkC, hkind⟩ := C.2.1.1 ci _ hc
  obtain ⟨cf, kf, fi, f, hi, hsl⟩ := hS9 k hk
  have hlay := hts _ (hin _ (u_in_lay hk))
  unfold u_lay at hlay
  rw [if_pos hfin] at hlay
  have hst := (u_facts hfc hkC (u_lays hts hin hk) hi).1
  have hcf : m.cls = cf := by
    obtain ⟨_, _, c', _, _, _, -, -, hf', -, -, -, hown2, -⟩ := Cond.laysFinal_spec hlay
    have e1 : c' = cf := by have := hi.symm.trans hf'; simp at this; exact this.1.symm
    rw [hdecl] at hown2
    rw [← e1]; exact Option.some.inj (C.1.2.2.2.1.symm.trans hown2)
  have h6 := u_fits hfc hkC hkind (Or.inr hlay) hi hd hn hfit
  have hll : k < ((pq_lyt ci).mapIdx (pq_fv G S a)).length := by have := (List.getElem?_eq_some_iff.mp hb).1; simpa using this
  refine W.putFinK C.1.1 C.1.2.1 C.1.2.2.2.1 (hts _ hw) hi hst hcf hin2 (by rw [q2]; exact h6) q1 q3 (by rw [hsl]; exact k2_hasslot (q4 k hk)) rfl rfl hdg fun H' e1 e2 e3 => ?_
  rw [hsl] at e1 ⊢
  have hP1 := hP.set hD h0 (e := .inr (ci, ((pq_lyt ci).mapIdx (pq_fv G S a)).set k (.ref q))) ⟨_, hc, t_OB.to (V := updV (vp_V ((pq_lyt ci).mapIdx (pq_fv G S a))) k (.ref q)) ⟨_, e1, q2, q3, t_set q4 hap hk (.ref q)⟩ (fun j _ => vp_updV_set hll (.ref q) j)⟩ e3
  have hD1 := hD.set h0 (e := .inr (ci, ((pq_lyt ci).mapIdx (pq_fv G S a)).set k (.ref q)))
  have E : (pq_wl y G S).set q0 (a, .inr (ci, ((pq_lyt ci).mapIdx (pq_fv G S a)).set k (.ref q))) = pq_wl y (pq_ref G a k q) S := by
    have e2 := va_pl_set (X := []) (e := (.inr (ci, ((pq_lyt ci).mapIdx (pq_fv G S a)).set k (.ref q)) : va_E)) hD ha.1 h1
    refine (show (pq_wl y G S).set q0 _ = _ from e2).trans ?_
    refine (List.nil_append _).trans (pq_celRef ?_)
    rw [pq_celO (G := pq_ref G a k q) ha hc2, pq_fvRef hb]
  rw [E] at hP1 hD1
  exact kk H' _ ls (e2.trans hz) hP1 hD1 (hS.put e2 e3 (hD.2 q0 _ h0)) hl
theorem pq_fnd {ty : FieldType} {cA c2 : ClassId} (h : va_RA s c2 ty) (hp : ∀ C, ty ≠ .object C) (h2 : s.vm.findClass ("[" ++ ty.toString) = some cA) : c2 = cA := by
  cases ty with
  | object C => exact absurd rfl (hp C)
  | _ => exact Option.some.inj (h.symm.trans h2)
theorem pz_newJ (C : pq_C p s m args c D y own Ts cc nL) {n : Int32} {N' : Nat} (harr : Cond.arrayClass .long ∈ Ts) (hn : ¬ n < 0) (hN : n.toNatClampNeg = N') (hbytes : N' * 8 ≤ 536870912) (hcells : cells + 1 ≤ R.cells) (hslots : slots + N' ≤ R.slots) (hdg : decode cc pc = .ok (.newarray .long, 2))
    (kk : nx ∉ G.1 → pq_V p l e R s m args below meth c (cells + 1) (slots + N') Q D y nL (pq_A G0 s.heap.size) (fun H => H.size = nx + 1) (pq_push G nx 13 N') (pq_zero S nx) (pc + 2) lo (.ref nx :: rest)) : pq_V p l e R s m args below meth c cells slots Q D y nL (pq_A G0 s.heap.size) (fun H => H.size = nx) G S pc lo (.int n :: rest) := by
  intro H locs ls hz hP hD hS hl
  have hz : H.size = nx := hz
  have hn2 : nx ∉ G.1 := pq_out hP (by rw [hz]; exact Nat.le_refl _)
  refine va_newaK C.1.1 C.1.2.1 (atype := .long) (C.1.2.2.2.2 _ harr) rfl hdg rfl hn hN hbytes hcells hslots rfl fun H1 cA e1 z1 o1 hAr hNm => ?_
  have hcA : y.2.1 = cA := pq_fnd (C.2.1.2 1 _ rfl).2 (fun _ h => by cases h) hNm
  have hk : ∀ (k : Nat) (x : Nat × va_E), (pq_wl y G S)[k]? = some x → H1[x.1]? = H[x.1]? := fun k x hx => o1 x.1 ((hP k x hx).lt)
  have hP1 : va_P D vwCl (pq_wl y G S ++ [(H.size, pq_cel y (pq_push G nx 13 N') (pq_zero S nx) nx)]) H1 := (hP.kept hk).app (fun k x hx => by
    have hz2 : k < 1 := (List.getElem?_eq_some_iff.mp hx).1
    rw [show k = 0 by omega] at hx
    cases hx
    rw [pq_celJ pq_okn]
    show H1[H.size]? = some (vp_cell _ _)
    simp only [pq_push, pq_zero, va_up_self]
    rw [hcA, e1]
    rfl)
  have hD1 : va_D (pq_A G0 s.heap.size) (pq_wl y G S ++ [(H.size, pq_cel y (pq_push G nx 13 N') (pq_zero S nx) nx)]) := hD.push hP rfl (Or.inr hS.1)
  have hS1 : va_S (pq_A G0 s.heap.size) s.heap H1 locs := ⟨Nat.le_trans hS.1 (by omega), fun x h1 h2 => (o1 x (Nat.lt_of_lt_of_le h1 hS.1)).trans (hS.2.1 x h1 h2), hS.2.2⟩
  rw [hz] at hP1 hD1
  rw [pq_wlp hn2] at hP1 hD1
  have := kk hn2 H1 locs ls (by show H1.size = nx + 1; omega) hP1 hD1 hS1 hl
  rw [← hz] at this
  exact this
theorem pz_newQ (C : pq_C p s m args c D y own Ts cc nL) (kd t0 : Nat) {Cn : String} {cY : ClassId} {index : Nat} {n : Int32} {N' : Nat} (ht : (pq_tys y)[t0]? = some (cY, .object Cn)) (hcel : ∀ (G : pq_G) (S : pq_N) (a : Nat), pq_ok G kd a → pq_cel y G S a = .inl (cY, G.2.2.2 a, .inr (.inr (.inr (.inr (G.2.2.1 a)))))) (hclink : Cond.classLink own index Cn ∈ Ts) (hover : (Cond.arrayOver (.object Cn)).before args s = true) (hn : ¬ n < 0) (hN : n.toNatClampNeg = N') (hbytes : N' * 4 ≤ 536870912) (hcells : cells + 1 ≤ R.cells) (hslots : slots + N' ≤ R.slots) (hdg : decode cc pc = .ok (.anewarray index, 3))
    (kk : nx ∉ G.1 → pq_V p l e R s m args below meth c (cells + 1) (slots + N') Q D y nL (pq_A G0 s.heap.size) (fun H => H.size = nx + 1) (pq_push G nx kd N') (pq_zero S nx) (pc + 3) lo (.ref nx :: rest)) : pq_V p l e R s m args below meth c cells slots Q D y nL (pq_A G0 s.heap.size) (fun H => H.size = nx) G S pc lo (.int n :: rest) := by
  intro H locs ls hz hP hD hS hl
  have hz : H.size = nx := hz
  have hn2 : nx ∉ G.1 := pq_out hP (by rw [hz]; exact Nat.le_refl _)
  subst hN
  refine W.anew C.1.1 C.1.2.1 C.1.2.2.2.1 (C.1.2.2.2.2 _ hclink) hover rfl hdg rfl hn hbytes hcells hslots fun cA kA comp f1 f2 f3 f4 => ?_
  have hcA : cY = cA := by
    obtain ⟨k9, c9, g1, g2, g3, g4⟩ := (C.2.1.2 t0 _ ht).2
    exact Option.some.inj (g4.symm.trans f1)
  generalize hH1 : H.push ({ cls := cA, slots := Array.replicate n.toNatClampNeg .null, vm := .none } : Cell) = H1
  have z1 : H1.size = H.size + 1 := by rw [← hH1, Array.size_push]
  have e1 : H1[H.size]? = some (arrV cA n.toNatClampNeg (fun _ => .null)) := by rw [← hH1, Array.getElem?_push_size, ← arrV_new]
  have o1 : ∀ q : Nat, q < H.size → H1[q]? = H[q]? := fun q hq => by rw [← hH1, Array.getElem?_push, if_neg (Nat.ne_of_lt hq)]
  have hk : ∀ (k : Nat) (x : Nat × va_E), (pq_wl y G S)[k]? = some x → H1[x.1]? = H[x.1]? := fun k x hx => o1 x.1 ((hP k x hx).lt)
  have hP1 : va_P D vwCl (pq_wl y G S ++ [(H.size, pq_cel y (pq_push G nx kd n.toNatClampNeg) (pq_zero S nx) nx)]) H1 := (hP.kept hk).app (fun k x hx => by
    have hz2 : k < 1 := (List.getElem?_eq_some_iff.mp hx).1
    rw [show k = 0 by omega] at hx
    cases hx
    rw [hcel _ _ _ pq_okn]
    show H1[H.size]? = some (vp_cell _ _)
    simp only [pq_push, va_up_self]
    rw [vp_cell_q, hcA]
    exact e1)
  have hD1 : va_D (pq_A G0 s.heap.size) (pq_wl y G S ++ [(H.size, pq_cel y (pq_push G nx kd n.toNatClampNeg) (pq_zero S nx) nx)]) := hD.push hP rfl (Or.inr hS.1)
  have hS1 : va_S (pq_A G0 s.heap.size) s.heap H1 locs := ⟨Nat.le_trans hS.1 (by omega), fun x h1 h2 => (o1 x (Nat.lt_of_lt_of_le h1 hS.1)).trans (hS.2.1 x h1 h2), hS.2.2⟩
  rw [hz] at hP1 hD1
  rw [pq_wlp hn2] at hP1 hD1
  have := kk hn2 H1 locs ls (by show H1.size = nx + 1; omega) hP1 hD1 hS1 hl
  rw [← hz] at this
  exact this
theorem pz_aast (C : pq_C p s m args c D y own Ts cc nL) (kd t0 : Nat) {Cn : String} {T : u_T} {N ci : Nat} {cY : ClassId} {a v : Nat} {i : Int32} (ht : (pq_tys y)[t0]? = some (cY, .object Cn)) (hcel : ∀ (G : pq_G) (S : pq_N) (a : Nat), pq_ok G kd a → pq_cel y G S a = .inl (cY, G.2.2.2 a, .inr (.inr (.inr (.inr (G.2.2.1 a)))))) (hc : vwCl[ci]? = some (Cn, T, N)) (hc2 : ci < 12) (ha : pq_ok G kd a) (hv : pq_ok G ci v) (hin : vp_in i (pq_n G a)) (hdg : decode cc pc = .ok (.aastore, 1))
    (kk : pq_V p l e R s m args below meth c cells slots Q D y nL (pq_A G0 s.heap.size) (fun H => H.size = nx) (pq_ref G a i.toNatClampNeg v) S (pc + 1) lo rest) : pq_V p l e R s m args below meth c cells slots Q D y nL (pq_A G0 s.heap.size) (fun H => H.size = nx) G S pc lo (.ref v :: .int i :: .ref a :: rest) := by
  intro H locs ls hz hP hD hS hl
  obtain ⟨q0, h0⟩ := pq_at (y := y) (G := G) (S := S) ha.1
  have h1 := h0
  rw [hcel _ _ _ ha] at h0
  obtain ⟨qk, g0⟩ := pq_at (y := y) (G := G) (S := S) hv.1
  rw [pq_celO hv hc2] at g0
  have hlt : i.toNatClampNeg < G.2.2.2 a := Nat.not_le.mp fun q => hin (Or.inr q)
  have hi0 : ¬ i < 0 := fun q => hin (Or.inl q)
  obtain ⟨r', hr', cellV, g1, g2, g3, -⟩ := hP qk _ g0
  have hcls := (C.2.1.1 ci _ hc).2
  obtain ⟨kA, comp, k1, k2, k3, -⟩ := (C.2.1.2 t0 _ ht).2
  have hcomp : comp = D.1 ci := Option.some.inj (k3.symm.trans hcls.1)
  subst hcomp
  obtain ⟨kC, hkC, -⟩ := hcls.2
  refine W.aast C.1.1 C.1.2.1 (hP q0 _ h0) (fun q h => by cases h) (fun h => by cases h) k1 k2 rfl hkC ⟨hi0, by show _ < (arrV _ _ _).slots.size; rw [arrV_size]; exact hlt⟩ g1 (fun q h => by rw [g3] at h; cases h) (by rw [g2]; exact hkC) (by rw [g2]; exact va_assign hcls) rfl rfl hdg fun H1 e z1 oq => ?_
  have he : va_at D vwCl (a, (.inl (cY, G.2.2.2 a, .inr (.inr (.inr (.inr (va_up (G.2.2.1 a) i.toNatClampNeg (some v))))) ) : va_E)) H1 := by
    show H1[a]? = some (vp_cell _ _)
    rw [e]
    rw [vp_cell_q, vp_cell_q, arrV_store]
    congr 2
    funext q
    by_cases hq : q = i.toNatClampNeg
    · subst hq
      simp [updV, va_up, va_rf]
    · simp [updV, va_up, hq]
  have hP1 := hP.set hD h0 he oq
  have hD1 := hD.set h0 (e := (.inl (cY, G.2.2.2 a, .inr (.inr (.inr (.inr (va_up (G.2.2.1 a) i.toNatClampNeg (some v)))))) : va_E))
  have E : (pq_wl y G S).set q0 (a, .inl (cY, G.2.2.2 a, .inr (.inr (.inr (.inr (va_up (G.2.2.1 a) i.toNatClampNeg (some v))))))) = pq_wl y (pq_ref G a i.toNatClampNeg v) S := by
    have e2 := va_pl_set (X := []) (e := (.inl (cY, G.2.2.2 a, .inr (.inr (.inr (.inr (va_up (G.2.2.1 a) i.toNatClampNeg (some v)))))) : va_E)) hD ha.1 h1
    refine (show (pq_wl y G S).set q0 _ = _ from e2).trans ?_
    refine (List.nil_append _).trans (pq_celRef ?_)
    rw [hcel _ _ _ (show pq_ok (pq_ref G a i.toNatClampNeg v) kd a from ha)]
    simp only [pq_ref, va_up_self]
  rw [E] at hP1 hD1
  exact kk H1 _ ls (z1.trans hz) hP1 hD1 (hS.put z1 oq (hD.2 q0 _ h0)) hl
theorem pz_obj (C : pq_C p s m args c D y own Ts cc nL) {A : Nat → Prop} {z : Heap → Prop} {idx a : Nat} (hlink : Cond.methodLink own idx Lib.objectInit ∈ Ts) (hinst : Cond.instanceMethod Lib.objectInit ∈ Ts) (hcode : Cond.code Lib.objectInit ⟨#[0xb1]⟩ 1 none ∈ Ts) (hd : decode cc pc = .ok (.invokespecial idx, 3)) (hframes : 1 ≤ R.frames) (hlocals : (rest.map fun v => v.category).sum + 12 ≤ R.locals) (kk : pq_V p l e R s m args below meth c cells slots Q D y nL A z G S (pc + 3) lo rest) : pq_V p l e R s m args below meth c cells slots Q D y nL A z G S pc lo (.ref a :: rest) := by
  intro H locs ls hz hP hD hS hl
  refine W.objInit C.1.1 C.1.2.1 C.1.2.2.2.1 (C.1.2.2.2.2 _ hlink) (C.1.2.2.2.2 _ hinst) (C.1.2.2.2.2 _ hcode) rfl (by rw [C.1.2.2.1]; exact hl.1) rfl hd hframes (by show 2 * 0 + _ + 12 ≤ _; omega) ?_
  exact W.eq (g2 := F0 m (pc + 3) ls rest) rfl (kk H locs ls hz hP hD hS hl)
theorem pq_preZ (C : pq_C p s m args c D y own Ts cc nL) {A : Nat → Prop} {H : Heap} {av : List Value} (hP : va_P D vwCl (pq_wl y G S) H) (hD : va_D A (pq_wl y G S)) (U : State) (hU : U.heap = H) (hW : s.WarmedH U.vm) : pq_P D y G S H.size av av.toArray U :=
  ⟨rfl, by rw [hU], by rw [hU]; exact hP, va_K.moved hW.alike C.2.1, hD.weaken (fun _ _ _ _ => trivial), pq_Tb.warm hW C.2.2⟩
theorem pz_vret (C : pq_C p s m args c D y own Ts cc nL) {M1 : pq_M} (hr : meth.sig.returnType = none) (hlk : meth.locks = false) (h : some (G, S, nx) = some M1) (hdg : decode cc pc = .ok (.return_, 1)) : pq_V p l e R s m args below meth c cells slots (MQ below (pq_QZ D y G0 s.heap.size M1) args s cells slots (pq_A G0 s.heap.size)) D y nL (pq_A G0 s.heap.size) (fun H => H.size = nx) G S pc lo [] := by
  cases h
  exact fun H locs ls hz hP hD hS hl => W.vret C.1.1 C.1.2.1 hr (fun t ht hW => ⟨⟨(G, S, nx), rfl, rfl, by rw [ht]; exact hP, hD, by rw [ht]; exact hz⟩, hS.F ht⟩) hS.2.2 hdg hlk
theorem pz_enter {yy : MethodName} {ws ws' : List Cond} {rm : Room} {ret : Option FieldType} {mc ms sz : Nat} {Qc : Array Value → State → Outcome → State → Prop} {free : Addr → Prop} {av : List Value} (own : String) (nL : Nat) (hy : plainName yy.cls = true) (hw : ws = Cond.code yy cc nL ret :: ws') (ho : yy.cls = own) (hn : yy.name = "<init>") (hlen : Nat.ble (lg_sl av).length nL = true)
    (body : ∀ (p : Program) (e : Env) (s : State) (m : MethodId) (below : List Frame) (meth : Method) (c : Code), pq_C p s m av.toArray c D y own ws cc nL → s.heap.size = sz → meth.sig.returnType = ret → meth.locks = false → meth.name = "<init>" → pq_V p l e (headSpec ws rm).room s m av.toArray below meth c 0 0 (MQ below Qc av.toArray s mc ms free) D y nL (pq_A G s.heap.size) (fun H => H.size = s.heap.size) G S 0 (lv_args 0 av) []) : Met l yy ws rm (pq_P D y G S sz av) Qc mc ms free := by
  refine Met.ofW (cc := cc) (maxL := nL) (ret := ret) hy hw ?_
  intro p e s m args below meth c s₁ B hml hv
  obtain ⟨rfl, hsz, hP, hK, hD0, hT⟩ := hv
  have hts := atoms_spec (ws := ws) B.pre
  have hown : s.vm.findClass own = some m.cls := by rw [← ho]; exact findClass_of_methodNamed B.named
  have hl := lv_entry av (n := nL) (Nat.le_of_ble_eq_true hlen)
  rw [lg_entry_eq]
  refine body p e s m below meth c ⟨⟨B.exec, B.bytes, hml, hown, hts⟩, hK, hT⟩ hsz B.returns B.notSynchronized (by rw [← hn]; exact (name_of_methodNamed B.named B.method).1) s.heap [] _ rfl hP ⟨hD0.1, fun k q hk => Or.inl ?_⟩ va_S.rf hl
  obtain ⟨a, ha, e1⟩ := List.mem_map.mp (List.mem_of_getElem? hk)
  rw [← e1]; exact ha
theorem pz_callI (C : pq_C p s m args c D y own Ts cc nL) {yy : MethodName} {bytes : ByteArray} {maxL n index kc ks b : Nat} {ws : List Cond} {rm : Room} (As : List Value) {G1 : pq_G} {S1 : pq_N} {nx1 : Nat} (hG : ∀ q ∈ G.1, q ∈ G0.1 ∨ s.heap.size ≤ q) (hM : Met l yy ws rm (pq_P D y G S nx (.ref b :: As)) (pq_QZ D y G nx (G1, S1, nx1)) kc ks (pq_A G nx)) (cw : CallB R s args own index yy bytes maxL none ws rm kc ks n ∧ yy.name = "<init>" ∧ (Cond.instanceMethod yy).before args s = true) (hn : As.length = n) {st0 : List Value} (hst : st0 = As.reverse ++ .ref b :: rest) (hW : (rest.map fun v => v.category).sum ≤ 8) (hdg : decode cc pc = .ok (.invokespecial index, 3)) (hf : cells + kc ≤ R.cells ∧ slots + ks ≤ R.slots) (kk : pq_V p l e R s m args below meth c (cells + kc) (slots + ks) Q D y nL (pq_A G0 s.heap.size) (fun H => H.size = nx1) G1 S1 (pc + 3) lo rest) : pq_V p l e R s m args below meth c cells slots Q D y nL (pq_A G0 s.heap.size) (fun H => H.size = nx) G S pc lo st0 := by
  intro H locs ls hz hP hD hS hl
  have hz : H.size = nx := hz
  subst hz
  have hA : ∀ q, pq_A G H.size q → pq_A G0 s.heap.size q := fun q h => h.elim (fun h => hG q h) (fun h => Or.inr (Nat.le_trans hS.1 h))
  refine va_callv (va_runI (As := As) (rest := rest) C.1 hM cw ⟨pq_blind, fun U hU hW => pq_preZ C hP hD U hU hW⟩ rfl hn hl.1 hst (lv_room hW) hdg hf) hS (fun q _ h => hA q h) hA (fun u t H1 locs1 ht hvm hw hB hz1 hk1 hS1 => ?_)
  subst hw
  obtain ⟨b1, b2, b3⟩ := hB
  rw [ht] at b1 b3
  exact kk H1 locs1 ls b3 b1 (b2.weaken (fun _ q _ h => hA q.1 h)) hS1 hl
theorem pz_callIN (C : pq_C p s m args c D y own Ts cc nL) {yy : MethodName} {host : String} {bytes : ByteArray} {maxL n index kc ks b : Nat} {ws : List Cond} {rm : Room} (As : List Value) {G1 : pq_G} {S1 : pq_N} {nx1 : Nat} (hG : ∀ q ∈ G.1, q ∈ G0.1 ∨ s.heap.size ≤ q) (hM : Met l yy ws rm (pq_P D y G S nx (.ref b :: As)) (pq_QZ D y G nx (G1, S1, nx1)) kc ks (pq_A G nx)) (cw : va_CN R s args own index yy host bytes maxL none ws rm kc ks n ∧ yy.name = "<init>" ∧ (Cond.instanceMethod yy).before args s = true) (hn : As.length = n) {st0 : List Value} (hst : st0 = As.reverse ++ .ref b :: rest) (hW : (rest.map fun v => v.category).sum ≤ 8) (hdg : decode cc pc = .ok (.invokespecial index, 3)) (hf : cells + kc ≤ R.cells ∧ slots + ks ≤ R.slots) (kk : pq_V p l e R s m args below meth c (cells + kc) (slots + ks) Q D y nL (pq_A G0 s.heap.size) (fun H => H.size = nx1) G1 S1 (pc + 3) lo rest) : pq_V p l e R s m args below meth c cells slots Q D y nL (pq_A G0 s.heap.size) (fun H => H.size = nx) G S pc lo st0 := by
  intro H locs ls hz hP hD hS hl
  have hz : H.size = nx := hz
  subst hz
  have hA : ∀ q, pq_A G H.size q → pq_A G0 s.heap.size q := fun q h => h.elim (fun h => hG q h) (fun h => Or.inr (Nat.le_trans hS.1 h))
  refine va_callv (va_runIN (As := As) (rest := rest) C.1 hM cw ⟨pq_blind, fun U hU hW => pq_preZ C hP hD U hU hW⟩ rfl hn hl.1 hst (lv_room hW) hdg hf) hS (fun q _ h => hA q h) hA (fun u t H1 locs1 ht hvm hw hB hz1 hk1 hS1 => ?_)
  subst hw
  obtain ⟨b1, b2, b3⟩ := hB
  rw [ht] at b1 b3
  exact kk H1 locs1 ls b3 b1 (b2.weaken (fun _ q _ h => hA q.1 h)) hS1 hl
end PZ
def pq_l3 {α β γ δ : Type} (M : α × β × γ) (f : α → β → γ → δ) : δ := f M.1 M.2.1 M.2.2
theorem pq_l3s {α β γ δ : Type} {a : α} {b : β} {c : γ} {f : α → β → γ → δ} {z : δ} (h : pq_l3 (a, b, c) f = z) : f a b c = z := h
theorem pq_hG {G G0 : pq_G} {sz nx kd n : Nat} (h : ∀ q ∈ G.1, q ∈ G0.1 ∨ sz ≤ q) (hz : sz ≤ nx) : ∀ q ∈ (pq_push G nx kd n).1, q ∈ G0.1 ∨ sz ≤ q := by
  intro q hq
  rcases List.mem_append.mp hq with h1 | h1
  · exact h q h1
  · rw [List.mem_singleton.mp h1]; exact Or.inr hz
section PZN
variable {p : Program} {l : Launch} {e : Env} {R : Room} {s : State} {m : MethodId} {args : Array Value} {below : List Frame} {meth : Method} {c : Code} {cells slots : Nat} {Q : State → Prop} {D : va_G} {y : pq_Y} {nL : Nat} {A : Nat → Prop} {z : Heap → Prop} {G : pq_G} {S : pq_N} {pc : Nat} {lo : List (Nat × Value)} {st : List Value}
theorem pz_nm (k : ∀ G1 : pq_G, G1 = G → ∀ S1 : pq_N, S1 = S → pq_V p l e R s m args below meth c cells slots Q D y nL A z G1 S1 pc lo st) : pq_V p l e R s m args below meth c cells slots Q D y nL A z G S pc lo st := k G rfl S rfl
theorem pz_nmG (k : ∀ G1 : pq_G, G1 = G → pq_V p l e R s m args below meth c cells slots Q D y nL A z G1 S pc lo st) : pq_V p l e R s m args below meth c cells slots Q D y nL A z G S pc lo st := k G rfl
theorem pz_wide {k n : Nat} (h1 : cells ≤ k) (h2 : slots ≤ n) (kk : pq_V p l e R s m args below meth c k n Q D y nL A z G S pc lo st) : pq_V p l e R s m args below meth c cells slots Q D y nL A z G S pc lo st := fun H locs ls hz hP hD hS hl => W.widen h1 h2 (kk H locs ls hz hP hD hS hl)
end PZN
