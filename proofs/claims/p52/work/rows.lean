section
-- ===== PART A: goes FIRST, ahead of the names: the tables' words, and 'selects' of the private methods out of them =====
/-- a private method of a class that the tables say can be made, by its rows of tables_1 -/
def lw_okq (q : MethodName × Nat) : Prop := (q.1.cls ≠ "java/lang/invoke/MethodHandle" ∧ q.1.cls ≠ "java/lang/invoke/VarHandle") ∧ Cond.instantiable q.1.cls q.2 ∈ tables_1 ∧ Cond.privateMethod q.1 ∈ tables_1 ∧ Cond.instanceMethod q.1 ∈ tables_1
theorem lw_p0 : lw_okq (⟨"PamphletQuarrel$Glossary", "count", "(J)V"⟩, 3) := ⟨⟨by decide +kernel, by decide +kernel⟩, List.mem_of_getElem? (i := 254) (by decide +kernel), List.mem_of_getElem? (i := 321) (by decide +kernel), List.mem_of_getElem? (i := 322) (by decide +kernel)⟩
theorem lw_p1 : lw_okq (⟨"PamphletQuarrel$Glossary", "moveForward", "(I)V"⟩, 3) := ⟨⟨by decide +kernel, by decide +kernel⟩, List.mem_of_getElem? (i := 254) (by decide +kernel), List.mem_of_getElem? (i := 333) (by decide +kernel), List.mem_of_getElem? (i := 334) (by decide +kernel)⟩
theorem lw_p2 : lw_okq (⟨"PamphletQuarrel$Glossary", "isBefore", "(JII)Z"⟩, 3) := ⟨⟨by decide +kernel, by decide +kernel⟩, List.mem_of_getElem? (i := 254) (by decide +kernel), List.mem_of_getElem? (i := 337) (by decide +kernel), List.mem_of_getElem? (i := 338) (by decide +kernel)⟩
theorem lw_p3 : lw_okq (⟨"PamphletQuarrel$Reader", "placeAfter", "(I)I"⟩, 5) := ⟨⟨by decide +kernel, by decide +kernel⟩, List.mem_of_getElem? (i := 171) (by decide +kernel), List.mem_of_getElem? (i := 362) (by decide +kernel), List.mem_of_getElem? (i := 363) (by decide +kernel)⟩
theorem lw_p4 : lw_okq (⟨"PamphletQuarrel$Reader", "afterOpening", "()I"⟩, 5) := ⟨⟨by decide +kernel, by decide +kernel⟩, List.mem_of_getElem? (i := 171) (by decide +kernel), List.mem_of_getElem? (i := 366) (by decide +kernel), List.mem_of_getElem? (i := 367) (by decide +kernel)⟩
theorem lw_p5 : lw_okq (⟨"PamphletQuarrel$Reader", "afterFirstLetter", "(II)I"⟩, 5) := ⟨⟨by decide +kernel, by decide +kernel⟩, List.mem_of_getElem? (i := 171) (by decide +kernel), List.mem_of_getElem? (i := 370) (by decide +kernel), List.mem_of_getElem? (i := 371) (by decide +kernel)⟩
theorem lw_p6 : lw_okq (⟨"PamphletQuarrel$Reader", "afterLetter", "(I)I"⟩, 5) := ⟨⟨by decide +kernel, by decide +kernel⟩, List.mem_of_getElem? (i := 171) (by decide +kernel), List.mem_of_getElem? (i := 382) (by decide +kernel), List.mem_of_getElem? (i := 383) (by decide +kernel)⟩
theorem lw_p7 : lw_okq (⟨"PamphletQuarrel$Reader", "afterFirstDigit", "(I)I"⟩, 5) := ⟨⟨by decide +kernel, by decide +kernel⟩, List.mem_of_getElem? (i := 171) (by decide +kernel), List.mem_of_getElem? (i := 388) (by decide +kernel), List.mem_of_getElem? (i := 389) (by decide +kernel)⟩
theorem lw_p8 : lw_okq (⟨"PamphletQuarrel$Reader", "afterSecondDigit", "(I)I"⟩, 5) := ⟨⟨by decide +kernel, by decide +kernel⟩, List.mem_of_getElem? (i := 171) (by decide +kernel), List.mem_of_getElem? (i := 396) (by decide +kernel), List.mem_of_getElem? (i := 397) (by decide +kernel)⟩
theorem lw_p9 : lw_okq (⟨"PamphletQuarrel", "needPamphlet", "(I)V"⟩, 7) := ⟨⟨by decide +kernel, by decide +kernel⟩, List.mem_of_getElem? (i := 21) (by decide +kernel), List.mem_of_getElem? (i := 407) (by decide +kernel), List.mem_of_getElem? (i := 408) (by decide +kernel)⟩
theorem lw_p10 : lw_okq (⟨"java/lang/Throwable", "fillInStackTrace", "(I)Ljava/lang/Throwable;"⟩, 6) := ⟨⟨by decide +kernel, by decide +kernel⟩, List.mem_of_getElem? (i := 453) (by decide +kernel), List.mem_of_getElem? (i := 451) (by decide +kernel), List.mem_of_getElem? (i := 452) (by decide +kernel)⟩
theorem lw_p11 : lw_okq (⟨"PamphletQuarrel", "needQuotation", "(II)V"⟩, 7) := ⟨⟨by decide +kernel, by decide +kernel⟩, List.mem_of_getElem? (i := 21) (by decide +kernel), List.mem_of_getElem? (i := 508) (by decide +kernel), List.mem_of_getElem? (i := 509) (by decide +kernel)⟩
theorem lw_p12 : lw_okq (⟨"PamphletQuarrel$Ladders", "markSources", "(LPamphletQuarrel$Pamphlet;)V"⟩, 1) := ⟨⟨by decide +kernel, by decide +kernel⟩, List.mem_of_getElem? (i := 242) (by decide +kernel), List.mem_of_getElem? (i := 552) (by decide +kernel), List.mem_of_getElem? (i := 553) (by decide +kernel)⟩
theorem lw_p13 : lw_okq (⟨"PamphletQuarrel$Search", "takeWord", "(JLPamphletQuarrel$Pamphlet;II)V"⟩, 4) := ⟨⟨by decide +kernel, by decide +kernel⟩, List.mem_of_getElem? (i := 203) (by decide +kernel), List.mem_of_getElem? (i := 592) (by decide +kernel), List.mem_of_getElem? (i := 593) (by decide +kernel)⟩
theorem lw_p14 : lw_okq (⟨"PamphletQuarrel$Search", "chooseEnd", "(I)V"⟩, 4) := ⟨⟨by decide +kernel, by decide +kernel⟩, List.mem_of_getElem? (i := 203) (by decide +kernel), List.mem_of_getElem? (i := 597) (by decide +kernel), List.mem_of_getElem? (i := 598) (by decide +kernel)⟩
theorem lw_p15 : lw_okq (⟨"PamphletQuarrel$Search", "leastFrom", "(ILPamphletQuarrel$Pamphlet;ILPamphletQuarrel$Pamphlet;)I"⟩, 4) := ⟨⟨by decide +kernel, by decide +kernel⟩, List.mem_of_getElem? (i := 203) (by decide +kernel), List.mem_of_getElem? (i := 671) (by decide +kernel), List.mem_of_getElem? (i := 672) (by decide +kernel)⟩
def lw_privs_1 : List (MethodName × Nat) := [(⟨"PamphletQuarrel$Glossary", "count", "(J)V"⟩, 3), (⟨"PamphletQuarrel$Glossary", "moveForward", "(I)V"⟩, 3), (⟨"PamphletQuarrel$Glossary", "isBefore", "(JII)Z"⟩, 3), (⟨"PamphletQuarrel$Reader", "placeAfter", "(I)I"⟩, 5), (⟨"PamphletQuarrel$Reader", "afterOpening", "()I"⟩, 5), (⟨"PamphletQuarrel$Reader", "afterFirstLetter", "(II)I"⟩, 5), (⟨"PamphletQuarrel$Reader", "afterLetter", "(I)I"⟩, 5), (⟨"PamphletQuarrel$Reader", "afterFirstDigit", "(I)I"⟩, 5), (⟨"PamphletQuarrel$Reader", "afterSecondDigit", "(I)I"⟩, 5), (⟨"PamphletQuarrel", "needPamphlet", "(I)V"⟩, 7), (⟨"java/lang/Throwable", "fillInStackTrace", "(I)Ljava/lang/Throwable;"⟩, 6), (⟨"PamphletQuarrel", "needQuotation", "(II)V"⟩, 7), (⟨"PamphletQuarrel$Ladders", "markSources", "(LPamphletQuarrel$Pamphlet;)V"⟩, 1), (⟨"PamphletQuarrel$Search", "takeWord", "(JLPamphletQuarrel$Pamphlet;II)V"⟩, 4), (⟨"PamphletQuarrel$Search", "chooseEnd", "(I)V"⟩, 4), (⟨"PamphletQuarrel$Search", "leastFrom", "(ILPamphletQuarrel$Pamphlet;ILPamphletQuarrel$Pamphlet;)I"⟩, 4)]
theorem lw_r1 : ∀ q ∈ lw_privs_1, lw_okq q := List.forall_mem_cons.mpr ⟨lw_p0, List.forall_mem_cons.mpr ⟨lw_p1, List.forall_mem_cons.mpr ⟨lw_p2, List.forall_mem_cons.mpr ⟨lw_p3, List.forall_mem_cons.mpr ⟨lw_p4, List.forall_mem_cons.mpr ⟨lw_p5, List.forall_mem_cons.mpr ⟨lw_p6, List.forall_mem_cons.mpr ⟨lw_p7, List.forall_mem_cons.mpr ⟨lw_p8, List.forall_mem_cons.mpr ⟨lw_p9, List.forall_mem_cons.mpr ⟨lw_p10, List.forall_mem_cons.mpr ⟨lw_p11, List.forall_mem_cons.mpr ⟨lw_p12, List.forall_mem_cons.mpr ⟨lw_p13, List.forall_mem_cons.mpr ⟨lw_p14, List.forall_mem_cons.mpr ⟨lw_p15, fun _ h => absurd h List.not_mem_nil⟩⟩⟩⟩⟩⟩⟩⟩⟩⟩⟩⟩⟩⟩⟩⟩
theorem lw_p16 : lw_okq (⟨"PamphletQuarrel", "needWord", "(II)V"⟩, 7) := ⟨⟨by decide +kernel, by decide +kernel⟩, List.mem_of_getElem? (i := 21) (by decide +kernel), List.mem_of_getElem? (i := 679) (by decide +kernel), List.mem_of_getElem? (i := 680) (by decide +kernel)⟩
theorem lw_p17 : lw_okq (⟨"PamphletQuarrel$Quotations", "changesIn", "(LPamphletQuarrel$State;II)I"⟩, 3) := ⟨⟨by decide +kernel, by decide +kernel⟩, List.mem_of_getElem? (i := 197) (by decide +kernel), List.mem_of_getElem? (i := 712) (by decide +kernel), List.mem_of_getElem? (i := 713) (by decide +kernel)⟩
theorem lw_p18 : lw_okq (⟨"PamphletQuarrel$History", "slot", "(I)LPamphletQuarrel$State;"⟩, 5) := ⟨⟨by decide +kernel, by decide +kernel⟩, List.mem_of_getElem? (i := 126) (by decide +kernel), List.mem_of_getElem? (i := 788) (by decide +kernel), List.mem_of_getElem? (i := 789) (by decide +kernel)⟩
def lw_privs_2 : List (MethodName × Nat) := [(⟨"PamphletQuarrel", "needWord", "(II)V"⟩, 7), (⟨"PamphletQuarrel$Quotations", "changesIn", "(LPamphletQuarrel$State;II)I"⟩, 3), (⟨"PamphletQuarrel$History", "slot", "(I)LPamphletQuarrel$State;"⟩, 5)]
theorem lw_r2 : ∀ q ∈ lw_privs_2, lw_okq q := List.forall_mem_cons.mpr ⟨lw_p16, List.forall_mem_cons.mpr ⟨lw_p17, List.forall_mem_cons.mpr ⟨lw_p18, fun _ h => absurd h List.not_mem_nil⟩⟩⟩
def lw_privs : List (MethodName × Nat) := lw_privs_1 ++ (lw_privs_2)
def lw_tbl : List Cond := k2_sels lw_privs ++ tables_1
theorem lw_privs_ok : ∀ q ∈ lw_privs, lw_okq q := by
  show ∀ q ∈ lw_privs_1 ++ (lw_privs_2), lw_okq q
  exact List.forall_mem_append.mpr ⟨lw_r1, lw_r2⟩
/-- the streams that the claim lets the run draw from -/
abbrev lw_cs : List Choice := [Jvm.Choice.named "NaN.bits"]
theorem lw_bits : nanBits ∈ lw_cs := by first | decide | exact List.mem_cons_self | simp [lw_cs, nanBits]
-- ===== end of PART A; then your names; then what follows =====
end
section
/-! ===== BEGIN words of one list among another's, by their places ===== -/
theorem goodIn_r {big : List Cond} (ws : List Cond) (ps : List Nat) (hp : ws = ps.filterMap (fun i => big[i]?)) (h : ws.all goodWord = true) : GoodIn big ws := by
  intro w hw
  have h1 := List.all_eq_true.mp h w hw
  rw [hp] at hw
  obtain ⟨i, -, hi⟩ := List.mem_filterMap.mp hw
  have hm : w ∈ big := by first | exact List.mem_of_getElem? hi | exact List.getElem?_mem hi
  exact ⟨hm, good_of_word h1⟩
theorem goodIn_app {big a b : List Cond} (ha : GoodIn big a) (hb : GoodIn big b) : GoodIn big (a ++ b) := fun w h => (List.mem_append.mp h).elim (ha w) (hb w)
theorem goodIn_ca {big a b : List Cond} {c : Cond} (ha : GoodIn big (c :: a)) (hb : GoodIn big b) : GoodIn big (c :: (a ++ b)) := fun w h => (List.mem_cons.mp h).elim (fun e => ha w (List.mem_cons.mpr (Or.inl e))) (fun h => (List.mem_append.mp h).elim (fun h => ha w (List.mem_cons.mpr (Or.inr h))) (hb w))
theorem goodIn_sub {big ws : List Cond} (hm : ∀ w ∈ ws, w ∈ big) (h : ws.all goodWord = true) : GoodIn big ws := fun w hw => ⟨hm w hw, good_of_word (List.all_eq_true.mp h w hw)⟩
/-! ===== END ===== -/

/-! ===== BEGIN exceptions that leave a method, and their catching by the caller (launches without stack traces) ===== -/
section VXA
/-! The laws vx_back, vx_callV, vx_callS, vx_callSW, vx_throw0, vx_throwS follow proofs of the library, with one case more: JvmDerived/Free/Laws.lean (Back.of_free), Shelf42/LK1.lean (callV, callS), Shelf/KitTraced.lean (throwNew0V, throwNewS). -/
/-- where a method has thrown q: the class by its name, the cell, what was written, the world -/
def vx_T (XC : String → State → State → Prop) (st : State) (q : Addr) (t : State) (mc ms : Nat) (free : Addr → Prop) : Prop :=
  ∃ (E : String) (ce : Cell) (L : List Loc), XC E st t ∧ t.heap[q]? = some ce ∧ ce.vm = .none ∧ st.vm.findClass E = some ce.cls ∧ st.WarmedH t.vm ∧ st.sameButNew ({ t with vm := st.vm } : State) L mc ms ∧ ∀ z ∈ L, free z.base
def vx_Q (Qc : Array Value → State → Outcome → State → Prop) (XC : String → State → State → Prop) (mc ms : Nat) (free : Addr → Prop) : Array Value → State → Outcome → State → Prop := fun a st o t =>
  (Qc a st o t ∧ ∃ L, FrameEnd st o t L mc ms ∧ ∀ q ∈ L, free q.base) ∨ ∃ q, o = .threw q ∧ vx_T XC st q t mc ms free
/-- a callee that returns or throws -/
def vx_Met (l : Launch) (y : MethodName) (ws : List Cond) (rm : Room) (Pc : Array Value → State → Prop) (Qc : Array Value → State → Outcome → State → Prop) (XC : String → State → State → Prop) (mc ms : Nat) (free : Addr → Prop) : Prop :=
  MetFree l y (headSpec ws rm) Pc (fun _ _ _ _ _ => True) (vx_Q Qc XC mc ms free)
def vx_Post (XC : String → State → State → Prop) (mc ms : Nat) (free : Addr → Prop) : Pt → Array Value → Addr → Pt → Prop := fun A a q B =>
  ∃ (g : JFrame) (mk : MethodId) (t : State) (L : List Loc) (E : String) (ce : Cell), B.U.heap = t.heap ∧ B.U.vm = t.vm ∧ XC E (A.U.calling g mk a) t ∧ t.heap[q]? = some ce ∧ ce.vm = .none ∧ A.U.vm.findClass E = some ce.cls ∧ B.locs = A.locs ++ L ∧ (∀ z ∈ L, free z.base) ∧ B.cells = A.cells + mc ∧ B.slots = A.slots + ms
def vx_Back (l : Launch) (R : Room) (p : Program) (e : Env) (below : List Frame) (s : State) (sargs : Array Value) (y : MethodName) (len W9 : Nat)
    (Pre : Pt → Array Value → Prop) (Post : Pt → Array Value → Option Value → Pt → Prop) (PostX : Pt → Array Value → Addr → Pt → Prop) : Prop :=
  ∀ (m : MethodId) (meth : Method) (c : Code) (A : Pt) (g : JFrame) (ig : Instr) (mk : MethodId) (a : Array Value),
    Stand p l e R s m sargs below meth c A.U A.locs A.cells A.slots → g.method = m → g.locals.size = c.maxLocals → decode c.code g.pc = .ok (ig, len) →
    2 * g.monitorRoom + (g.stack.map fun v => v.category).sum ≤ W9 → A.U.methodNamed? y = some mk → Pre A a →
    (∃ (v : Option Value) (B : Pt), Stand p l e R s m sargs below meth c B.U B.locs B.cells B.slots ∧ Post A a v B ∧
      Steps p.tables e below (doInvoke e (A.U.setTop g) [] mk a).1 (B.U.setTop { g with pc := g.pc + len, stack := v.toList ++ g.stack })) ∨
    (∃ (q : Addr) (B : Pt), Stand p l e R s m sargs below meth c B.U B.locs B.cells B.slots ∧ PostX A a q B ∧
      Steps p.tables e below (doInvoke e (A.U.setTop g) [] mk a).1 ((B.U.setTop g).pushFrame (.throwing q)))
section Payer
variable {l : Launch} {R : Room} {p : Program} {e : Env} {below : List Frame} {s : State} {sargs : Array Value} {y : MethodName} {len W9 : Nat}
theorem vx_back {ws : List Cond} {rm : Room} {Pc : Array Value → State → Prop} {Qc : Array Value → State → Outcome → State → Prop} {XC : String → State → State → Prop} {mc ms : Nat} {free : Addr → Prop} {bytes : ByteArray} {maxL : Nat} {ret : Option FieldType}
    (hM : vx_Met l y ws rm Pc Qc XC mc ms free) (hblind : FrameBlind Pc) (hrc : rm.cells = mc) (hrs : rm.slots = ms)
    (hframes : rm.frames + 1 ≤ R.frames) (hlocals : W9 + (maxL + 11) + rm.locals ≤ R.locals)
    (hws : ∀ w ∈ ws, ∀ a' U, s.WarmedH U.vm → w.before a' U = true) (hcode : Cond.code y bytes maxL ret ∈ ws) (hinit : ∀ a' U, s.WarmedH U.vm → (Cond.initialized y.cls).before a' U = true) :
    vx_Back l R p e below s sargs y len W9 (PreOf R mc ms Pc) (PostOf Qc mc ms free) (vx_Post XC mc ms free) := by
  intro m meth c A g ig mk a X hg hsize hdg hW hn hp
  have h1 : (headSpec ws rm).pre.before a A.U = true := atoms_intro fun w hw => hws w hw _ _ X.warmed
  have h2 : (Cond.code y bytes maxL ret).before a A.U = true := hws _ hcode _ _ X.warmed
  have h3 : (Cond.initialized y.cls).before a A.U = true := hinit _ _ X.warmed
  have h4 : A.cells + (headSpec ws rm).room.cells ≤ R.cells := by rw [show (headSpec ws rm).room.cells = mc from hrc]; exact hp.1
  have h5 : A.slots + (headSpec ws rm).room.slots ≤ R.slots := by rw [show (headSpec ws rm).room.slots = ms from hrs]; exact hp.2.1
  have hPc : Pc a (A.U.calling g mk a) := hblind _ _ _ _ hp.2.2
  obtain ⟨U, Ls, c0, s0⟩ := A
  dsimp only [Pt.U, Pt.locs, Pt.cells, Pt.slots] at h1 h2 h3 h4 h5 X hn hPc ⊢
  obtain ⟨methY, cY, hmY, hcY, -, hlY, -, -, -, -⟩ := Cond.code_spec hn h2
  obtain ⟨kY, hkY, -⟩ := className_of_methodNamed hn
  have hinitY : kY.init = .initialized := Cond.initialized_spec (findClass_of_methodNamed hn) hkY h3
  have h : At U g.method c below := by rw [hg]; exact X.here
  have hlocals9 : W9 + (maxL + 11) + (headSpec ws rm).room.locals ≤ R.locals := hlocals
  have happ : (headSpec ws rm).appliesLoose y e.platform (U.calling g mk a) = true :=
    Spec.appliesLoose_calling (g := g) h hdg hn hkY hinitY
      (X.room_calling (g := g) (R' := (headSpec ws rm).room) hsize hmY hcY hframes (by rw [hlY]; omega) h4 h5) h1
  obtain ⟨mid, hmid⟩ := h.above
  have hfr : (U.setTop g).frames = (.java g :: mid) ++ below := by rw [State.frames_setTop' g h.top, hmid]; rfl
  obtain ⟨o, s₂, hsteps, -, hend, hq⟩ := Steps.callFree hM p X.admits X.cas X.clock (acts := []) hfr happ hPc trivial
  have hq' : vx_Q Qc XC mc ms free a (U.calling g mk a) o s₂ := hq
  rw [State.frames_setTop' g h.top] at hend
  obtain ⟨g₀, hg0⟩ := Option.isSome_iff_exists.mp h.top
  obtain ⟨r, hr⟩ := State.topJava?_eq_some.mp hg0
  have hr' : (({ U with heap := s₂.heap, slotsUsed := s₂.slotsUsed } : State).setVm s₂.vm).frames = .java g₀ :: r := hr
  rcases hq' with ⟨hqc, L, hfe, hL⟩ | ⟨q, rfl, E, ce, L, hx, hce, hcv, hcl, hW₂, hsm, hL⟩
  · obtain ⟨⟨v, rfl⟩, hW₂, e2, q2, q3, q4, q5, q6⟩ := id hfe
    have e3 : s₂ = ({ (U.calling g mk a).setFrames s₂.frames with heap := s₂.heap, slotsUsed := s₂.slotsUsed } : State).setVm s₂.vm := by
      have : s₂ = ({ s₂ with vm := (U.calling g mk a).vm } : State).setVm s₂.vm := rfl
      rw [e2] at this
      exact this
    obtain ⟨c₂, i₂, len₂, hc₂, hd₂, hf₂⟩ := hend
    have hW' : U.WarmedH s₂.vm := hW₂
    have hcc : c₂ = c := by
      have h1 : s₂.code? g.method = U.code? g.method := by
        rw [State.code?_eq, State.code?_eq, hW'.alike.method?]
      exact Option.some.inj (hc₂.symm.trans (h1.trans h.code))
    subst hcc
    have hlen : len₂ = len := by rw [hdg] at hd₂; cases hd₂; rfl
    subst hlen
    have hs₂ : s₂ = (({ U with heap := s₂.heap, slotsUsed := s₂.slotsUsed } : State).setVm s₂.vm).setTop { g with pc := g.pc + len₂, stack := v.toList ++ g.stack } := by
      refine e3.trans ?_
      rw [hf₂, State.calling_eq h.top, State.setFrames_setFrames, State.setTop_of_frames _ hr', hr]
      rfl
    have hsame : U.sameButNew ({ U with heap := s₂.heap, slotsUsed := s₂.slotsUsed } : State) L mc ms := by
      refine ⟨?_, q2, q3, q4, q5, q6⟩
      obtain ⟨t, ht, -⟩ := State.frames_cons hr
      show ({ U with heap := s₂.heap, slotsUsed := s₂.slotsUsed } : State) = { U.setFrames U.frames with heap := s₂.heap, slotsUsed := s₂.slotsUsed }
      rw [State.setFrames_self ht]
    subst hg
    refine Or.inl ⟨v, ⟨(({ U with heap := s₂.heap, slotsUsed := s₂.slotsUsed } : State).setVm s₂.vm), Ls ++ L, c0 + mc, s0 + ms⟩,
      ⟨X.admits, X.cas, X.clock, X.frames, X.room, X.hears, X.method, X.code, (X.here.setHeapUsed s₂.heap s₂.slotsUsed).setVm hW'.alike, X.tail, State.WarmedH.trans X.warmed hW', X.limits, X.bytes, X.same.trans (hsame.setVm s.vm)⟩,
      ⟨g, mk, s₂, L, rfl, rfl, hqc, rfl, hL, rfl, rfl⟩, ?_⟩
    show Steps p.tables e below _ ((({ U with heap := s₂.heap, slotsUsed := s₂.slotsUsed } : State).setVm s₂.vm).setTop { g with pc := g.pc + len₂, stack := v.toList ++ g.stack })
    rw [← hs₂]
    exact hsteps
  · obtain ⟨e2, q2, q3, q4, q5, q6⟩ := id hsm
    have e3 : s₂ = ({ (U.calling g mk a).setFrames s₂.frames with heap := s₂.heap, slotsUsed := s₂.slotsUsed } : State).setVm s₂.vm := by
      have : s₂ = ({ s₂ with vm := (U.calling g mk a).vm } : State).setVm s₂.vm := rfl
      rw [e2] at this
      exact this
    have hf₂ : s₂.frames = .throwing q :: .java g :: U.frames.tail := hend
    have hW' : U.WarmedH s₂.vm := hW₂
    have hs₂ : s₂ = ((({ U with heap := s₂.heap, slotsUsed := s₂.slotsUsed } : State).setVm s₂.vm).setTop g).pushFrame (.throwing q) := by
      refine e3.trans ?_
      rw [hf₂, State.calling_eq h.top, State.setFrames_setFrames, State.pushFrame, State.frames_setTop _ hr', State.setTop_of_frames _ hr', State.setFrames_setFrames, hr]
      rfl
    have hsame : U.sameButNew ({ U with heap := s₂.heap, slotsUsed := s₂.slotsUsed } : State) L mc ms := by
      refine ⟨?_, q2, q3, q4, q5, q6⟩
      obtain ⟨t, ht, -⟩ := State.frames_cons hr
      show ({ U with heap := s₂.heap, slotsUsed := s₂.slotsUsed } : State) = { U.setFrames U.frames with heap := s₂.heap, slotsUsed := s₂.slotsUsed }
      rw [State.setFrames_self ht]
    subst hg
    refine Or.inr ⟨q, ⟨(({ U with heap := s₂.heap, slotsUsed := s₂.slotsUsed } : State).setVm s₂.vm), Ls ++ L, c0 + mc, s0 + ms⟩,
      ⟨X.admits, X.cas, X.clock, X.frames, X.room, X.hears, X.method, X.code, (X.here.setHeapUsed s₂.heap s₂.slotsUsed).setVm hW'.alike, X.tail, State.WarmedH.trans X.warmed hW', X.limits, X.bytes, X.same.trans (hsame.setVm s.vm)⟩,
      ⟨g, mk, s₂, L, E, ce, rfl, rfl, hx, hce, hcv, hcl, rfl, hL, rfl, rfl⟩, ?_⟩
    show Steps p.tables e below _ (((({ U with heap := s₂.heap, slotsUsed := s₂.slotsUsed } : State).setVm s₂.vm).setTop g).pushFrame (.throwing q))
    rw [← hs₂]
    exact hsteps
end Payer
section Calls
variable {p : Program} {l : Launch} {e : Env} {R : Room} {s : State} {m : MethodId} {args : Array Value} {below : List Frame} {meth : Method} {c : Code} {T : State} {locs : List Loc} {cells slots : Nat}
theorem vx_callV (X : Stand p l e R s m args below meth c T locs cells slots) (hexec : p.tables.exec = Jvm.exec) {own C : String} {index : Nat} {y : MethodName} {bytes : ByteArray} {maxL : Nat} {ret : Option FieldType}
    (hown : s.vm.findClass own = some m.cls) (hlink : (Cond.methodLink own index y).before args s = true) (hinst : (Cond.instanceMethod y).before args s = true) (hsel : (Cond.selects C y y).before args s = true)
    (hcode : (Cond.code y bytes maxL ret).before args s = true) (hy : y.cls ≠ "java/lang/invoke/MethodHandle" ∧ y.cls ≠ "java/lang/invoke/VarHandle")
    {W9 : Nat} {Pre : Pt → Array Value → Prop} {Post : Pt → Array Value → Option Value → Pt → Prop} {PostX : Pt → Array Value → Addr → Pt → Prop} (hK : vx_Back l R p e below s args y 3 W9 Pre Post PostX)
    {b : Addr} {cellB : Cell} (hcell : T.heap[b]? = some cellB) (hobj : cellB.vm.isStatics = false) (hcls : s.vm.findClass C = some cellB.cls)
    {g : JFrame} (hg : g.method = m) (hsize : g.locals.size = c.maxLocals) {argsL rest : List Value} (hlen : ∀ sig, parseMethodDescriptor y.desc = some sig → argsL.length = sig.parameters.length)
    (hstack : g.stack = argsL.reverse ++ .ref b :: rest) (hW : 2 * g.monitorRoom + (rest.map fun v => v.category).sum ≤ W9) (hdg : decode c.code g.pc = .ok (.invokevirtual index, 3))
    (hpre : ∀ vm₁, s.WarmedH vm₁ → Pre ⟨T.setVm vm₁, locs, cells, slots⟩ (Value.ref b :: argsL).toArray) :
    (∃ (v : Option Value) (vm₁ : Vm) (B : Pt), s.WarmedH vm₁ ∧ Stand p l e R s m args below meth c B.U B.locs B.cells B.slots ∧ Post ⟨T.setVm vm₁, locs, cells, slots⟩ (Value.ref b :: argsL).toArray v B ∧
      ∀ target, Steps p.tables e below (B.U.setTop { g with pc := g.pc + 3, stack := v.toList ++ rest }) target → Steps p.tables e below (T.setTop g) target) ∨
    (∃ (q : Addr) (vm₁ : Vm) (B : Pt), s.WarmedH vm₁ ∧ Stand p l e R s m args below meth c B.U B.locs B.cells B.slots ∧ PostX ⟨T.setVm vm₁, locs, cells, slots⟩ (Value.ref b :: argsL).toArray q B ∧
      Steps p.tables e below (T.setTop g) ((B.U.setTop { g with stack := rest }).pushFrame (.throwing q))) := by
  obtain ⟨mk, methM, hnamed, hmethM, hstM, habM⟩ := Cond.instanceMethod_spec hinst
  obtain ⟨methM', cM, hmethM', -, -, -, -, -, -, hsigM⟩ := Cond.code_spec hnamed hcode
  cases hmethM.symm.trans hmethM'
  obtain ⟨c2, r2, m2, q1, q2, q3, q4, kP, hkP, hkPi⟩ := Cond.selects_spec hsel
  cases hcls.symm.trans q1
  cases (State.methodFound?_of_named hnamed hy).symm.trans q2
  cases hnamed.symm.trans q3
  have hselP : selectMethod e.platform s.vm cellB.cls mk = .method mk := by rw [Launch.admits_selectMethod X.admits]; exact q4
  obtain ⟨vm₁, X₁, hstep₁⟩ := X.invokevirtual hexec hown hlink hnamed hmethM hstM hkP hkPi hy (a := b) (cell := cellB) hcell
    (fun z h => by rw [h] at hobj; cases hobj) hselP hmethM habM hkP hkPi (g := g) hg (argsL := argsL) (rest := rest) (hlen _ hsigM) hstack hdg
  rcases hK m meth c ⟨T.setVm vm₁, locs, cells, slots⟩ { g with stack := rest } (.invokevirtual index) mk (Value.ref b :: argsL).toArray X₁ hg hsize hdg hW (X₁.named hnamed) (hpre vm₁ X₁.warmed) with ⟨v, B, X', hpost, hsteps⟩ | ⟨q, B, X', hpost, hsteps⟩
  · exact Or.inl ⟨v, vm₁, B, X₁.warmed, X', hpost, fun target h => hstep₁ _ fun acts => by rw [doInvoke_state]; exact hsteps.trans h⟩
  · exact Or.inr ⟨q, vm₁, B, X₁.warmed, X', hpost, hstep₁ _ fun acts => by rw [doInvoke_state]; exact hsteps⟩
theorem vx_callS (X : Stand p l e R s m args below meth c T locs cells slots) (hexec : p.tables.exec = Jvm.exec) {own : String} {index : Nat} {y : MethodName} {bytes : ByteArray} {maxL : Nat} {ret : Option FieldType}
    (hown : s.vm.findClass own = some m.cls) (hlink : (Cond.methodLink own index y).before args s = true) (hstat : (Cond.static y).before args s = true) (hinit : (Cond.initialized y.cls).before args s = true)
    (hcode : (Cond.code y bytes maxL ret).before args s = true) (hy : y.cls ≠ "java/lang/invoke/MethodHandle" ∧ y.cls ≠ "java/lang/invoke/VarHandle")
    {W9 : Nat} {Pre : Pt → Array Value → Prop} {Post : Pt → Array Value → Option Value → Pt → Prop} {PostX : Pt → Array Value → Addr → Pt → Prop} (hK : vx_Back l R p e below s args y 3 W9 Pre Post PostX)
    {g : JFrame} (hg : g.method = m) (hsize : g.locals.size = c.maxLocals) {argsL rest : List Value} (hlen : ∀ sig, parseMethodDescriptor y.desc = some sig → argsL.length = sig.parameters.length)
    (hstack : g.stack = argsL.reverse ++ rest) (hW : 2 * g.monitorRoom + (rest.map fun v => v.category).sum ≤ W9) (hdg : decode c.code g.pc = .ok (.invokestatic index, 3))
    (hpre : ∀ vm₁, s.WarmedH vm₁ → Pre ⟨T.setVm vm₁, locs, cells, slots⟩ argsL.toArray) :
    (∃ (v : Option Value) (vm₁ : Vm) (B : Pt), s.WarmedH vm₁ ∧ Stand p l e R s m args below meth c B.U B.locs B.cells B.slots ∧ Post ⟨T.setVm vm₁, locs, cells, slots⟩ argsL.toArray v B ∧
      ∀ target, Steps p.tables e below (B.U.setTop { g with pc := g.pc + 3, stack := v.toList ++ rest }) target → Steps p.tables e below (T.setTop g) target) ∨
    (∃ (q : Addr) (vm₁ : Vm) (B : Pt), s.WarmedH vm₁ ∧ Stand p l e R s m args below meth c B.U B.locs B.cells B.slots ∧ PostX ⟨T.setVm vm₁, locs, cells, slots⟩ argsL.toArray q B ∧
      Steps p.tables e below (T.setTop g) ((B.U.setTop { g with stack := rest }).pushFrame (.throwing q))) := by
  obtain ⟨mk, hnamed⟩ := Cond.code_named hcode
  obtain ⟨methM, cM, hmethM, -, -, -, -, -, -, hsigM⟩ := Cond.code_spec hnamed hcode
  have hstatic : methM.isStatic = true := Cond.static_spec hnamed hmethM hstat
  obtain ⟨kP, hkP, -⟩ := className_of_methodNamed hnamed
  have hinitP : kP.init = .initialized := Cond.initialized_spec (findClass_of_methodNamed hnamed) hkP hinit
  obtain ⟨vm₁, X₁, hstep₁⟩ := X.invokestatic hexec hown hlink hnamed hmethM hstatic hkP hinitP hy (g := g) hg (argsL := argsL) (rest := rest) (hlen _ hsigM) hstack hdg
  rcases hK m meth c ⟨T.setVm vm₁, locs, cells, slots⟩ { g with stack := rest } (.invokestatic index) mk argsL.toArray X₁ hg hsize hdg hW (X₁.named hnamed) (hpre vm₁ X₁.warmed) with ⟨v, B, X', hpost, hsteps⟩ | ⟨q, B, X', hpost, hsteps⟩
  · exact Or.inl ⟨v, vm₁, B, X₁.warmed, X', hpost, fun target h => hstep₁ _ fun acts => by rw [doInvoke_state]; exact hsteps.trans h⟩
  · exact Or.inr ⟨q, vm₁, B, X₁.warmed, X', hpost, hstep₁ _ fun acts => by rw [doInvoke_state]; exact hsteps⟩
end Calls
theorem vx_cls {s : State} {T : State} {vm₁ : Vm} {E : String} {k : ClassId} (hW : s.WarmedH vm₁) (h : (T.setVm vm₁).vm.findClass E = some k) : s.vm.findClass E = some k := by
  have h1 : vm₁.findClass E = some k := h
  rw [hW.alike.findClass] at h1
  exact h1
/-- the method's frame g, with q thrown over it -/
def vx_W (p : Program) (l : Launch) (e : Env) (R : Room) (s : State) (m : MethodId) (args : Array Value) (below : List Frame) (meth : Method) (c : Code) (H : Heap) (locs : List Loc) (cells slots : Nat) (Q : State → Prop) (g : JFrame) (q : Addr) : Prop :=
  ∀ T : State, T.heap = H → Stand p l e R s m args below meth c T locs cells slots → ∃ t, Steps p.tables e below ((T.setTop g).pushFrame (.throwing q)) t ∧ Q t
def vx_Run (p : Program) (l : Launch) (e : Env) (R : Room) (s : State) (m : MethodId) (args : Array Value) (below : List Frame) (meth : Method) (c : Code) (H : Heap) (locs : List Loc) (cells slots mc ms : Nat) (g : JFrame) (rest : List Value) (Qa : State → Outcome → State → Prop) (XC : String → State → State → Prop) (free : Addr → Prop) : Prop :=
  ∀ T : State, T.heap = H → Stand p l e R s m args below meth c T locs cells slots →
    (∃ (v : Option Value) (st₀ t T' : State) (L : List Loc), st₀.heap = H ∧ Stand p l e R s m args below meth c T' (locs ++ L) (cells + mc) (slots + ms) ∧ (∀ q ∈ L, free q.base) ∧ T'.heap = t.heap ∧ T'.vm = t.vm ∧ Qa st₀ (.returned v) t ∧
      Goes p e below T g T' { g with pc := g.pc + 3, stack := v.toList ++ rest }) ∨
    (∃ (q : Addr) (st₀ t T' : State) (L : List Loc) (E : String) (ce : Cell), st₀.heap = H ∧ Stand p l e R s m args below meth c T' (locs ++ L) (cells + mc) (slots + ms) ∧ (∀ z ∈ L, free z.base) ∧ T'.heap = t.heap ∧ T'.vm = t.vm ∧ XC E st₀ t ∧ t.heap[q]? = some ce ∧ ce.vm = .none ∧ s.vm.findClass E = some ce.cls ∧
      Steps p.tables e below (T.setTop g) ((T'.setTop { g with stack := rest }).pushFrame (.throwing q)))
def vx_X {S : Type} (px : S → Prop) (B : String → S → State → Prop) (A : Nat → Prop) : String → State → State → Prop := fun E st t => ∃ u : S, px u ∧ B E u t ∧ va_F A st t
section Runs
variable {p : Program} {l : Launch} {e : Env} {R : Room} {s : State} {m : MethodId} {args : Array Value} {below : List Frame} {meth : Method} {c : Code} {H : Heap} {locs : List Loc} {cells slots : Nat}
variable {y : MethodName} {bytes cc : ByteArray} {maxL nL mc ms n index : Nat} {ret : Option FieldType} {ws : List Cond} {rm : Room} {Pc : Array Value → State → Prop} {Qc : Array Value → State → Outcome → State → Prop} {XC : String → State → State → Prop} {free : Addr → Prop} {Ts : List Cond} {own C : String} {b : Addr} {As rest : List Value} {g : JFrame}
theorem vx_callBack (cb : CallB R s args own index y bytes maxL ret ws rm mc ms n) (hM : vx_Met l y ws rm Pc Qc XC mc ms free) (hbl : FrameBlind Pc) : vx_Back l R p e below s args y 3 8 (PreOf R mc ms Pc) (PostOf Qc mc ms free) (vx_Post XC mc ms free) := by
  obtain ⟨hrc, hrs, hfr, hlo, hws, hcw, -, hini, -⟩ := cb
  exact vx_back (bytes := bytes) (maxL := maxL) (ret := ret) hM hbl hrc hrs hfr hlo hws hcw (fun a' U hW => word_at hW (Or.inl (by first | rfl | simp [Cond.onTables, Cond.keeps, Cond.steady])) hini)
theorem vx_runV (S : CallFix p m c cc nL s args Ts own) (hM : vx_Met l y ws rm Pc Qc XC mc ms free) (cw : CallW R s args own C index y bytes maxL ret ws rm mc ms n) (hp : PreV s H C b Pc As)
    (hg : g.method = m) (hn : As.length = n) (hsize : g.locals.size = nL) (hstack : g.stack = As.reverse ++ .ref b :: rest) (hW : 2 * g.monitorRoom + (rest.map fun v => v.category).sum ≤ 8) (hdg : decode cc g.pc = .ok (.invokevirtual index, 3)) (hf : cells + mc ≤ R.cells ∧ slots + ms ≤ R.slots) :
    vx_Run p l e R s m args below meth c H locs cells slots mc ms g rest (Qc (Value.ref b :: As).toArray) XC free := by
  have hK : vx_Back l R p e below s args y 3 8 (PreOf R mc ms Pc) (PostOf Qc mc ms free) (vx_Post XC mc ms free) := vx_callBack cw.1 hM hp.1
  obtain ⟨⟨-, -, -, -, -, -, hcode, -, hy, hlen, hl⟩, hin, hse⟩ := cw
  obtain ⟨hx, hb, hml, ho, -⟩ := S
  obtain ⟨-, ⟨cellB, hcB, hoB, hclB⟩, hPc⟩ := hp
  intro T hT X
  rcases vx_callV X hx (C := C) (bytes := bytes) (maxL := maxL) (ret := ret) ho hl hin hse hcode hy hK (by rw [hT]; exact hcB) hoB hclB hg (hsize.trans hml.symm) (argsL := As) (rest := rest) (fun sig h => hn.trans (hlen sig h)) hstack hW (by rw [hb]; exact hdg)
    (fun vm₁ hW₁ => ⟨hf.1, hf.2, hPc (T.setVm vm₁) hT hW₁⟩) with ⟨v, vm₁, ⟨U', l2, c2, s2⟩, hW₁, X', ⟨g', mk, t, L, e1, e2, hq, h1, hL, h2, h3⟩, st⟩ | ⟨q, vm₁, ⟨U', l2, c2, s2⟩, hW₁, X', ⟨g', mk, t, L, E, ce, e1, e2, hq, hce, hcv, hcl, h1, hL, h2, h3⟩, st⟩
  · dsimp only [Pt.U, Pt.locs, Pt.cells, Pt.slots] at X' e1 e2 h1 h2 h3 st
    subst h1; subst h2; subst h3
    exact Or.inl ⟨v, (T.setVm vm₁).calling g' mk (Value.ref b :: As).toArray, t, U', L, hT, X', hL, e1, e2, hq, st⟩
  · dsimp only [Pt.U, Pt.locs, Pt.cells, Pt.slots] at X' e1 e2 h1 h2 h3 st hcl
    subst h1; subst h2; subst h3
    exact Or.inr ⟨q, (T.setVm vm₁).calling g' mk (Value.ref b :: As).toArray, t, U', L, E, ce, hT, X', hL, e1, e2, hq, hce, hcv, vx_cls hW₁ hcl, st⟩
theorem vx_runS (S : CallFix p m c cc nL s args Ts own) (hM : vx_Met l y ws rm Pc Qc XC mc ms free) (cw : CallB R s args own index y bytes maxL ret ws rm mc ms n ∧ (Cond.static y).before args s = true) (hp : PreS s H Pc As)
    (hg : g.method = m) (hn : As.length = n) (hsize : g.locals.size = nL) (hstack : g.stack = As.reverse ++ rest) (hW : 2 * g.monitorRoom + (rest.map fun v => v.category).sum ≤ 8) (hdg : decode cc g.pc = .ok (.invokestatic index, 3)) (hf : cells + mc ≤ R.cells ∧ slots + ms ≤ R.slots) :
    vx_Run p l e R s m args below meth c H locs cells slots mc ms g rest (Qc As.toArray) XC free := by
  have hK : vx_Back l R p e below s args y 3 8 (PreOf R mc ms Pc) (PostOf Qc mc ms free) (vx_Post XC mc ms free) := vx_callBack cw.1 hM hp.1
  obtain ⟨⟨-, -, -, -, -, -, hcode, hini, hy, hlen, hl⟩, hstt⟩ := cw
  obtain ⟨hx, hb, hml, ho, -⟩ := S
  intro T hT X
  rcases vx_callS X hx (bytes := bytes) (maxL := maxL) (ret := ret) ho hl hstt hini hcode hy hK hg (hsize.trans hml.symm) (argsL := As) (rest := rest) (fun sig h => hn.trans (hlen sig h)) hstack hW (by rw [hb]; exact hdg)
    (fun vm₁ hW₁ => ⟨hf.1, hf.2, hp.2 (T.setVm vm₁) hT hW₁⟩) with ⟨v, vm₁, ⟨U', l2, c2, s2⟩, hW₁, X', ⟨g', mk, t, L, e1, e2, hq, h1, hL, h2, h3⟩, st⟩ | ⟨q, vm₁, ⟨U', l2, c2, s2⟩, hW₁, X', ⟨g', mk, t, L, E, ce, e1, e2, hq, hce, hcv, hcl, h1, hL, h2, h3⟩, st⟩
  · dsimp only [Pt.U, Pt.locs, Pt.cells, Pt.slots] at X' e1 e2 h1 h2 h3 st
    subst h1; subst h2; subst h3
    exact Or.inl ⟨v, (T.setVm vm₁).calling g' mk As.toArray, t, U', L, hT, X', hL, e1, e2, hq, st⟩
  · dsimp only [Pt.U, Pt.locs, Pt.cells, Pt.slots] at X' e1 e2 h1 h2 h3 st hcl
    subst h1; subst h2; subst h3
    exact Or.inr ⟨q, (T.setVm vm₁).calling g' mk As.toArray, t, U', L, E, ce, hT, X', hL, e1, e2, hq, hce, hcv, vx_cls hW₁ hcl, st⟩
end Runs
section Rows
variable {p : Program} {l : Launch} {e : Env} {R : Room} {s : State} {m : MethodId} {args : Array Value} {below : List Frame} {meth : Method} {c : Code} {H : Heap} {locs : List Loc} {cells slots : Nat} {Q : State → Prop}
variable {mc ms : Nat} {free : Addr → Prop} {A0 A1 : Nat → Prop} {H0 : Heap} {a : Array Value} {pc : Nat} {ls : Array Slot} {st0 rest : List Value}
theorem vx_keep {st₀ t T' : State} {L : List Loc} (h0 : st₀.heap = H) (e1 : T'.heap = t.heap) (hS : va_S A0 H0 H locs) (hA : ∀ q, q < H.size → A1 q → A0 q) (hf : ∀ q, free q → A0 q) (hL : ∀ q ∈ L, free q.base) (hF : va_F A1 st₀ t) :
    H.size ≤ T'.heap.size ∧ (∀ q : Nat, q < H.size → ¬ A1 q → T'.heap[q]? = H[q]?) ∧ va_S A0 H0 T'.heap (locs ++ L) := by
  obtain ⟨hz, hk⟩ := hF
  rw [h0] at hz hk
  exact ⟨by rw [e1]; exact hz, fun q h1 h2 => by rw [e1]; exact hk q h1 h2,
    ⟨Nat.le_trans hS.1 (by rw [e1]; exact hz), fun q h1 h2 => by rw [e1, hk q (Nat.lt_of_lt_of_le h1 hS.1) (fun z => h2 (hA q (Nat.lt_of_lt_of_le h1 hS.1) z))]; exact hS.2.1 q h1 h2, fun q hq => by
      rcases List.mem_append.mp hq with h | h
      · exact hS.2.2 q h
      · exact hf _ (hL q h)⟩⟩
theorem vx_calli {S SX : Type} {post : Int32 → S → Prop} {px : SX → Prop} {B : S → State → Prop} {BX : String → SX → State → Prop} {AX : Nat → Prop} (hr : vx_Run p l e R s m args below meth c H locs cells slots mc ms (F0 m pc ls st0) rest (va_Qi post B A1 a) (vx_X px BX AX) free) (hS : va_S A0 H0 H locs) (hA : ∀ q, q < H.size → A1 q → A0 q) (hf : ∀ q, free q → A0 q) (hAX : ∀ q, q < H.size → AX q → A0 q)
    (kx : ∀ (E : String) (ce : Cell) (q9 : Addr) (u : SX) (t : State) (H1 : Heap) (locs1 : List Loc), t.heap = H1 → s.vm.Alike t.vm → px u → BX E u t → H.size ≤ H1.size → (∀ q : Nat, q < H.size → ¬ AX q → H1[q]? = H[q]?) → va_S A0 H0 H1 locs1 → H1[q9]? = some ce → ce.vm = .none → s.vm.findClass E = some ce.cls → vx_W p l e R s m args below meth c H1 locs1 (cells + mc) (slots + ms) Q (F0 m pc ls rest) q9)
    (kk : ∀ (r : Int32) (u : S) (t : State) (H1 : Heap) (locs1 : List Loc), t.heap = H1 → s.vm.Alike t.vm → post r u → B u t → H.size ≤ H1.size → (∀ q : Nat, q < H.size → ¬ A1 q → H1[q]? = H[q]?) → va_S A0 H0 H1 locs1 → W p l e R s m args below meth c H1 locs1 (cells + mc) (slots + ms) Q (F0 m (pc + 3) ls (.int r :: rest))) : W p l e R s m args below meth c H locs cells slots Q (F0 m pc ls st0) := by
  intro T hT X
  rcases hr T hT X with ⟨v, st₀, t, T', L, h0, X', hL, e1, e2, ⟨⟨r, u, hv, hp, hb⟩, hF⟩, st⟩ | ⟨q, st₀, t, T', L, E, ce, h0, X', hL, e1, e2, ⟨u, hp, hb, hF⟩, hce, hcv, hcl, st⟩
  · cases hv
    obtain ⟨k1, k2, k3⟩ := vx_keep h0 e1 hS hA hf hL hF
    obtain ⟨t2, a1, b1⟩ := kk r u t T'.heap (locs ++ L) e1.symm (by rw [← e2]; exact X'.warmed.alike) hp hb k1 k2 k3 T' rfl X'
    exact ⟨t2, st t2 a1, b1⟩
  · obtain ⟨k1, k2, k3⟩ := vx_keep h0 e1 hS hAX hf hL hF
    obtain ⟨t2, a1, b1⟩ := kx E ce q u t T'.heap (locs ++ L) e1.symm (by rw [← e2]; exact X'.warmed.alike) hp hb k1 k2 k3 (by rw [e1]; exact hce) hcv hcl T' rfl X'
    exact ⟨t2, st.trans a1, b1⟩
theorem vx_calll {S SX : Type} {post : Int64 → S → Prop} {px : SX → Prop} {B : S → State → Prop} {BX : String → SX → State → Prop} {AX : Nat → Prop} (hr : vx_Run p l e R s m args below meth c H locs cells slots mc ms (F0 m pc ls st0) rest (va_Ql post B A1 a) (vx_X px BX AX) free) (hS : va_S A0 H0 H locs) (hA : ∀ q, q < H.size → A1 q → A0 q) (hf : ∀ q, free q → A0 q) (hAX : ∀ q, q < H.size → AX q → A0 q)
    (kx : ∀ (E : String) (ce : Cell) (q9 : Addr) (u : SX) (t : State) (H1 : Heap) (locs1 : List Loc), t.heap = H1 → s.vm.Alike t.vm → px u → BX E u t → H.size ≤ H1.size → (∀ q : Nat, q < H.size → ¬ AX q → H1[q]? = H[q]?) → va_S A0 H0 H1 locs1 → H1[q9]? = some ce → ce.vm = .none → s.vm.findClass E = some ce.cls → vx_W p l e R s m args below meth c H1 locs1 (cells + mc) (slots + ms) Q (F0 m pc ls rest) q9)
    (kk : ∀ (r : Int64) (u : S) (t : State) (H1 : Heap) (locs1 : List Loc), t.heap = H1 → s.vm.Alike t.vm → post r u → B u t → H.size ≤ H1.size → (∀ q : Nat, q < H.size → ¬ A1 q → H1[q]? = H[q]?) → va_S A0 H0 H1 locs1 → W p l e R s m args below meth c H1 locs1 (cells + mc) (slots + ms) Q (F0 m (pc + 3) ls (.long r :: rest))) : W p l e R s m args below meth c H locs cells slots Q (F0 m pc ls st0) := by
  intro T hT X
  rcases hr T hT X with ⟨v, st₀, t, T', L, h0, X', hL, e1, e2, ⟨⟨r, u, hv, hp, hb⟩, hF⟩, st⟩ | ⟨q, st₀, t, T', L, E, ce, h0, X', hL, e1, e2, ⟨u, hp, hb, hF⟩, hce, hcv, hcl, st⟩
  · cases hv
    obtain ⟨k1, k2, k3⟩ := vx_keep h0 e1 hS hA hf hL hF
    obtain ⟨t2, a1, b1⟩ := kk r u t T'.heap (locs ++ L) e1.symm (by rw [← e2]; exact X'.warmed.alike) hp hb k1 k2 k3 T' rfl X'
    exact ⟨t2, st t2 a1, b1⟩
  · obtain ⟨k1, k2, k3⟩ := vx_keep h0 e1 hS hAX hf hL hF
    obtain ⟨t2, a1, b1⟩ := kx E ce q u t T'.heap (locs ++ L) e1.symm (by rw [← e2]; exact X'.warmed.alike) hp hb k1 k2 k3 (by rw [e1]; exact hce) hcv hcl T' rfl X'
    exact ⟨t2, st.trans a1, b1⟩
theorem vx_callf {S SX : Type} {post : UInt32 → S → Prop} {px : SX → Prop} {B : S → State → Prop} {BX : String → SX → State → Prop} {AX : Nat → Prop} (hr : vx_Run p l e R s m args below meth c H locs cells slots mc ms (F0 m pc ls st0) rest (va_Qf post B A1 a) (vx_X px BX AX) free) (hS : va_S A0 H0 H locs) (hA : ∀ q, q < H.size → A1 q → A0 q) (hf : ∀ q, free q → A0 q) (hAX : ∀ q, q < H.size → AX q → A0 q)
    (kx : ∀ (E : String) (ce : Cell) (q9 : Addr) (u : SX) (t : State) (H1 : Heap) (locs1 : List Loc), t.heap = H1 → s.vm.Alike t.vm → px u → BX E u t → H.size ≤ H1.size → (∀ q : Nat, q < H.size → ¬ AX q → H1[q]? = H[q]?) → va_S A0 H0 H1 locs1 → H1[q9]? = some ce → ce.vm = .none → s.vm.findClass E = some ce.cls → vx_W p l e R s m args below meth c H1 locs1 (cells + mc) (slots + ms) Q (F0 m pc ls rest) q9)
    (kk : ∀ (r : UInt32) (u : S) (t : State) (H1 : Heap) (locs1 : List Loc), t.heap = H1 → s.vm.Alike t.vm → post r u → B u t → H.size ≤ H1.size → (∀ q : Nat, q < H.size → ¬ A1 q → H1[q]? = H[q]?) → va_S A0 H0 H1 locs1 → W p l e R s m args below meth c H1 locs1 (cells + mc) (slots + ms) Q (F0 m (pc + 3) ls (.float r :: rest))) : W p l e R s m args below meth c H locs cells slots Q (F0 m pc ls st0) := by
  intro T hT X
  rcases hr T hT X with ⟨v, st₀, t, T', L, h0, X', hL, e1, e2, ⟨⟨r, u, hv, hp, hb⟩, hF⟩, st⟩ | ⟨q, st₀, t, T', L, E, ce, h0, X', hL, e1, e2, ⟨u, hp, hb, hF⟩, hce, hcv, hcl, st⟩
  · cases hv
    obtain ⟨k1, k2, k3⟩ := vx_keep h0 e1 hS hA hf hL hF
    obtain ⟨t2, a1, b1⟩ := kk r u t T'.heap (locs ++ L) e1.symm (by rw [← e2]; exact X'.warmed.alike) hp hb k1 k2 k3 T' rfl X'
    exact ⟨t2, st t2 a1, b1⟩
  · obtain ⟨k1, k2, k3⟩ := vx_keep h0 e1 hS hAX hf hL hF
    obtain ⟨t2, a1, b1⟩ := kx E ce q u t T'.heap (locs ++ L) e1.symm (by rw [← e2]; exact X'.warmed.alike) hp hb k1 k2 k3 (by rw [e1]; exact hce) hcv hcl T' rfl X'
    exact ⟨t2, st.trans a1, b1⟩
theorem vx_calld {S SX : Type} {post : UInt64 → S → Prop} {px : SX → Prop} {B : S → State → Prop} {BX : String → SX → State → Prop} {AX : Nat → Prop} (hr : vx_Run p l e R s m args below meth c H locs cells slots mc ms (F0 m pc ls st0) rest (va_Qd post B A1 a) (vx_X px BX AX) free) (hS : va_S A0 H0 H locs) (hA : ∀ q, q < H.size → A1 q → A0 q) (hf : ∀ q, free q → A0 q) (hAX : ∀ q, q < H.size → AX q → A0 q)
    (kx : ∀ (E : String) (ce : Cell) (q9 : Addr) (u : SX) (t : State) (H1 : Heap) (locs1 : List Loc), t.heap = H1 → s.vm.Alike t.vm → px u → BX E u t → H.size ≤ H1.size → (∀ q : Nat, q < H.size → ¬ AX q → H1[q]? = H[q]?) → va_S A0 H0 H1 locs1 → H1[q9]? = some ce → ce.vm = .none → s.vm.findClass E = some ce.cls → vx_W p l e R s m args below meth c H1 locs1 (cells + mc) (slots + ms) Q (F0 m pc ls rest) q9)
    (kk : ∀ (r : UInt64) (u : S) (t : State) (H1 : Heap) (locs1 : List Loc), t.heap = H1 → s.vm.Alike t.vm → post r u → B u t → H.size ≤ H1.size → (∀ q : Nat, q < H.size → ¬ A1 q → H1[q]? = H[q]?) → va_S A0 H0 H1 locs1 → W p l e R s m args below meth c H1 locs1 (cells + mc) (slots + ms) Q (F0 m (pc + 3) ls (.double r :: rest))) : W p l e R s m args below meth c H locs cells slots Q (F0 m pc ls st0) := by
  intro T hT X
  rcases hr T hT X with ⟨v, st₀, t, T', L, h0, X', hL, e1, e2, ⟨⟨r, u, hv, hp, hb⟩, hF⟩, st⟩ | ⟨q, st₀, t, T', L, E, ce, h0, X', hL, e1, e2, ⟨u, hp, hb, hF⟩, hce, hcv, hcl, st⟩
  · cases hv
    obtain ⟨k1, k2, k3⟩ := vx_keep h0 e1 hS hA hf hL hF
    obtain ⟨t2, a1, b1⟩ := kk r u t T'.heap (locs ++ L) e1.symm (by rw [← e2]; exact X'.warmed.alike) hp hb k1 k2 k3 T' rfl X'
    exact ⟨t2, st t2 a1, b1⟩
  · obtain ⟨k1, k2, k3⟩ := vx_keep h0 e1 hS hAX hf hL hF
    obtain ⟨t2, a1, b1⟩ := kx E ce q u t T'.heap (locs ++ L) e1.symm (by rw [← e2]; exact X'.warmed.alike) hp hb k1 k2 k3 (by rw [e1]; exact hce) hcv hcl T' rfl X'
    exact ⟨t2, st.trans a1, b1⟩
theorem vx_callv {S SX : Type} {post : S → Prop} {px : SX → Prop} {B : S → State → Prop} {BX : String → SX → State → Prop} {AX : Nat → Prop} (hr : vx_Run p l e R s m args below meth c H locs cells slots mc ms (F0 m pc ls st0) rest (va_Qv post B A1 a) (vx_X px BX AX) free) (hS : va_S A0 H0 H locs) (hA : ∀ q, q < H.size → A1 q → A0 q) (hf : ∀ q, free q → A0 q) (hAX : ∀ q, q < H.size → AX q → A0 q)
    (kx : ∀ (E : String) (ce : Cell) (q9 : Addr) (u : SX) (t : State) (H1 : Heap) (locs1 : List Loc), t.heap = H1 → s.vm.Alike t.vm → px u → BX E u t → H.size ≤ H1.size → (∀ q : Nat, q < H.size → ¬ AX q → H1[q]? = H[q]?) → va_S A0 H0 H1 locs1 → H1[q9]? = some ce → ce.vm = .none → s.vm.findClass E = some ce.cls → vx_W p l e R s m args below meth c H1 locs1 (cells + mc) (slots + ms) Q (F0 m pc ls rest) q9)
    (kk : ∀ (u : S) (t : State) (H1 : Heap) (locs1 : List Loc), t.heap = H1 → s.vm.Alike t.vm → post u → B u t → H.size ≤ H1.size → (∀ q : Nat, q < H.size → ¬ A1 q → H1[q]? = H[q]?) → va_S A0 H0 H1 locs1 → W p l e R s m args below meth c H1 locs1 (cells + mc) (slots + ms) Q (F0 m (pc + 3) ls (rest))) : W p l e R s m args below meth c H locs cells slots Q (F0 m pc ls st0) := by
  intro T hT X
  rcases hr T hT X with ⟨v, st₀, t, T', L, h0, X', hL, e1, e2, ⟨⟨u, hv, hp, hb⟩, hF⟩, st⟩ | ⟨q, st₀, t, T', L, E, ce, h0, X', hL, e1, e2, ⟨u, hp, hb, hF⟩, hce, hcv, hcl, st⟩
  · cases hv
    obtain ⟨k1, k2, k3⟩ := vx_keep h0 e1 hS hA hf hL hF
    obtain ⟨t2, a1, b1⟩ := kk u t T'.heap (locs ++ L) e1.symm (by rw [← e2]; exact X'.warmed.alike) hp hb k1 k2 k3 T' rfl X'
    exact ⟨t2, st t2 a1, b1⟩
  · obtain ⟨k1, k2, k3⟩ := vx_keep h0 e1 hS hAX hf hL hF
    obtain ⟨t2, a1, b1⟩ := kx E ce q u t T'.heap (locs ++ L) e1.symm (by rw [← e2]; exact X'.warmed.alike) hp hb k1 k2 k3 (by rw [e1]; exact hce) hcv hcl T' rfl X'
    exact ⟨t2, st.trans a1, b1⟩
/-- caught by the row x of this method's table; the rows ahead don't take it -/
theorem vx_catch {own name : String} {E : String} {ce : Cell} {q : Addr} (hown : s.vm.findClass own = some m.cls) (pre : List ExceptionTableEntry) (x : ExceptionTableEntry) (suf : List ExceptionTableEntry) (hsplit : c.exceptionTable.toList = pre ++ x :: suf)
    (hpass : ∀ z ∈ pre, covers z pc = false ∨ (z.catchType ≠ 0 ∧ ∃ nm : String, (Cond.classLink own z.catchType nm).before args s = true ∧ va_Nc E nm s)) (hx : covers x pc = true) (h0 : x.catchType ≠ 0)
    (hlink : (Cond.classLink own x.catchType name).before args s = true) (hcast : (Cond.castable E name).before args s = true) (hcell : H[q]? = some ce) (hv : ce.vm = .none) (hcl : s.vm.findClass E = some ce.cls)
    (kk : W p l e R s m args below meth c H locs cells slots Q (F0 m x.handlerPc ls [.ref q])) : vx_W p l e R s m args below meth c H locs cells slots Q (F0 m pc ls rest) q := by
  intro T hT X
  have hpl : e.platform.magicAccessors = ({} : Platform).magicAccessors := by rw [X.admits.platform]
  obtain ⟨c3, c4, hc3, hc4, hasg⟩ := Cond.castable_spec hcast
  cases Option.some.inj (hc3.symm.trans hcl)
  obtain ⟨c5, hc5, hcl5⟩ := Cond.classLink_spec hown hlink e.platform hpl
  cases Option.some.inj (hc4.symm.trans hc5)
  obtain ⟨vm', X', st⟩ := X.thenCaughtThrough q (g := F0 m pc ls rest) rfl (Steps.refl _) (by rw [hT]; exact hcell) (by rw [hv]; rfl) (by obtain ⟨k9, h9, -⟩ := Vm.findClass_spec hcl; exact ⟨k9, h9⟩) pre x suf hsplit
    (fun z hz => by
      rcases hpass z hz with h | ⟨hz0, nm, hl1, hn1⟩
      · exact Or.inl h
      · obtain ⟨c6, hc6, hcl6⟩ := Cond.classLink_spec hown hl1 e.platform hpl
        obtain ⟨a8, b8, h1, h2, h3⟩ := hn1
        cases Option.some.inj (h1.symm.trans hcl)
        cases Option.some.inj (h2.symm.trans hc6)
        exact Or.inr ⟨hz0, _, hcl6, h3⟩) hx (Or.inr ⟨h0, c4, hcl5, hasg⟩)
  obtain ⟨t, a1, b1⟩ := kk (T.setVm vm') hT X'
  exact ⟨t, st.trans a1, b1⟩
end Rows
section Ends
variable {p : Program} {l : Launch} {e : Env} {R : Room} {s : State} {m : MethodId} {args : Array Value} {below : List Frame} {meth : Method} {c : Code} {H : Heap} {locs : List Loc} {cells slots : Nat} {Q : State → Prop}
variable {mc ms : Nat} {free : Addr → Prop} {A0 A1 : Nat → Prop} {H0 : Heap} {a : Array Value} {ls : Array Slot} {st0 rest : List Value}
variable {Qc : Array Value → State → Outcome → State → Prop} {XC : String → State → State → Prop}
/-- what a body that may throw owes at its end -/
def vx_MQ (below : List Frame) (Qc : Array Value → State → Outcome → State → Prop) (XC : String → State → State → Prop) (a : Array Value) (s : State) (mc ms : Nat) (free : Addr → Prop) : State → Prop := fun t =>
  ∃ o, t.status = .running ∧ Ended t below o ∧ vx_Q Qc XC mc ms free a s o t
theorem vx_ret {g : JFrame} {mc ms : Nat} (k : W p l e R s m args below meth c H locs cells slots (MQ below Qc args s mc ms free) g) : W p l e R s m args below meth c H locs cells slots (vx_MQ below Qc XC args s mc ms free) g := by
  intro T hT X
  obtain ⟨t, a1, o, b1, b2, b3, b4⟩ := k T hT X
  exact ⟨t, a1, o, b1, b2, Or.inl ⟨b3, b4⟩⟩
/-- not caught here: it goes on to the caller -/
theorem vx_widen {g : JFrame} {q : Addr} {k n : Nat} (h1 : cells ≤ k) (h2 : slots ≤ n) (kk : vx_W p l e R s m args below meth c H locs k n Q g q) : vx_W p l e R s m args below meth c H locs cells slots Q g q := fun T hT X => kk T hT (stand_widen X h1 h2)
theorem vx_out {pc : Nat} {E : String} {ce : Cell} {q : Addr} {mc ms : Nat} (hout : ∀ x ∈ c.exceptionTable.toList, covers x pc = false) (hlocks : meth.locks = false) (hcell : H[q]? = some ce) (hv : ce.vm = .none) (hcl : s.vm.findClass E = some ce.cls)
    (hx : ∀ t : State, t.heap = H → s.vm.Alike t.vm → XC E s t) (hf : ∀ z ∈ locs, free z.base) (hc : cells ≤ mc) (hs : slots ≤ ms) :
    vx_W p l e R s m args below meth c H locs cells slots (vx_MQ below Qc XC args s mc ms free) (F0 m pc ls rest) q := by
  intro T hT X
  obtain ⟨st1, hrun, hend, hW, hsm⟩ := X.leaveThrown q (g := F0 m pc ls rest) rfl rfl rfl hout hlocks
  have hcell9 : (T.setFrames (.throwing q :: below)).heap[q]? = some ce := by
    show T.heap[q]? = some ce
    rw [hT]; exact hcell
  exact ⟨_, st1, .threw q, hrun, hend, Or.inr ⟨q, rfl, E, ce, locs, hx _ hT hW.alike, hcell9, hv, hcl, hW, hsm.mono hc hs, hf⟩⟩
theorem vx_frame {U : State} {k n : Nat} (h : s.sameButNew ({ U with vm := s.vm } : State) locs k n) : s.heap.size ≤ U.heap.size ∧ ∀ q : Nat, q < s.heap.size → (∀ z ∈ locs, z.base ≠ q) → U.heap[q]? = s.heap[q]? := by
  obtain ⟨-, h2, -, -, -, h6⟩ := h
  refine ⟨h2, fun q hq hz => ?_⟩
  obtain ⟨c9, e1, e2, e3, e4⟩ := h6 q _ (Array.getElem?_eq_getElem hq)
  have hs : c9.slots = (s.heap[q]).slots := Array.ext_getElem? fun i => e4 i fun hm => hz _ hm rfl
  have h9 : c9 = s.heap[q] := by
    rw [hs] at e2
    exact e2
  have e5 : U.heap[q]? = some c9 := e1
  rw [e5, h9, Array.getElem?_eq_getElem hq]
/-- the words of a throw but the four that speak of the heap -/
def vx_no (w : Cond) : Bool := decide (w ≠ .isRef (.static Bundle.tN "UNASSIGNED_STACK" Bundle.steD)) && decide (w ≠ .isRef (.static Bundle.tN "SUPPRESSED_SENTINEL" Bundle.listD)) && decide (w ≠ .laysStatic Bundle.tN "UNASSIGNED_STACK" Bundle.steD) && decide (w ≠ .laysStatic Bundle.tN "SUPPRESSED_SENTINEL" Bundle.listD)
def vx_at0 (own : String) (ic : Nat) (X : String) (names : List String) : List Cond := (Bundle.ownAtoms0 own ic X names).filter vx_no
def vx_atS (own : String) (ic : Nat) (X : String) (names : List String) : List Cond := (Bundle.ownAtoms own ic X names).filter vx_no
/-- a word that the tables alone decide, or a good one -/
def vx_ot (w : Cond) : Bool := w.onTables || goodWord w
theorem vx_ot_at {args a' : Array Value} {s U : State} {w : Cond} (hW : s.WarmedH U.vm) (hvm : s.vm = U.vm) (hg : vx_ot w = true) (h : w.before args s = true) : w.before a' U = true := by
  simp only [vx_ot, Bool.or_eq_true] at hg
  rcases hg with hg | hg
  · exact va_tabs hg hvm h
  · exact word_at hW (good_of_word hg) h
/-- a list's words: the good ones out of the method's own list, the others by premises of their own -/
theorem vx_hat {args : Array Value} {s : State} {L B : List Cond} (h1 : ∀ w ∈ L.filter goodWord, w.before args s = true) (h2 : ∀ w ∈ L.filter (fun w => !goodWord w), w ∈ B) (h3 : ∀ w ∈ B, w.before args s = true) : ∀ w ∈ L, w.before args s = true := by
  intro w hw
  by_cases g : goodWord w = true
  · exact h1 w (List.mem_filter.mpr ⟨hw, g⟩)
  · refine h3 w (h2 w (List.mem_filter.mpr ⟨hw, ?_⟩))
    show (!goodWord w) = true
    cases hgw : goodWord w
    · rfl
    · exact absurd hgw g
theorem vx_c {args : Array Value} {s : State} {w : Cond} {B : List Cond} (h : w.before args s = true) (t : ∀ w ∈ B, w.before args s = true) : ∀ w' ∈ w :: B, w'.before args s = true := fun w' h' => (List.mem_cons.mp h').elim (fun e => by rw [e]; exact h) (t w')
theorem vx_n {args : Array Value} {s : State} : ∀ w ∈ ([] : List Cond), w.before args s = true := fun _ h => nomatch h
theorem vx_own {args : Array Value} {s : State} {L : List Cond} (h1 : ∀ w ∈ L.filter vx_no, w.before args s = true)
    (hU : (Cond.isRef (.static Bundle.tN "UNASSIGNED_STACK" Bundle.steD)).before args s = true) (hN : (Cond.isRef (.static Bundle.tN "SUPPRESSED_SENTINEL" Bundle.listD)).before args s = true)
    (lU : (Cond.laysStatic Bundle.tN "UNASSIGNED_STACK" Bundle.steD).before args s = true) (lN : (Cond.laysStatic Bundle.tN "SUPPRESSED_SENTINEL" Bundle.listD).before args s = true) : ∀ w ∈ L, w.before args s = true := by
  intro w hw
  by_cases e1 : w = .isRef (.static Bundle.tN "UNASSIGNED_STACK" Bundle.steD)
  · rw [e1]; exact hU
  · by_cases e2 : w = .isRef (.static Bundle.tN "SUPPRESSED_SENTINEL" Bundle.listD)
    · rw [e2]; exact hN
    · by_cases e3 : w = .laysStatic Bundle.tN "UNASSIGNED_STACK" Bundle.steD
      · rw [e3]; exact lU
      · by_cases e4 : w = .laysStatic Bundle.tN "SUPPRESSED_SENTINEL" Bundle.listD
        · rw [e4]; exact lN
        · exact h1 w (List.mem_filter.mpr ⟨hw, by unfold vx_no; rw [decide_eq_true e1, decide_eq_true e2, decide_eq_true e3, decide_eq_true e4]; rfl⟩)
/-- where a static field lies, its class's statics cell in H -/
def vx_L (C n d : String) (A : Nat → Prop) (U : State) (H : Heap) : Prop := ∃ (c : ClassId) (k : Class) (i : Nat) (f : Field) (a : Nat) (cell : Cell), U.vm.findClass C = some c ∧ U.fieldFound? C n d = some (c, k, i, f) ∧ f.isStatic = true ∧ k.statics = some a ∧ H[a]? = some cell ∧ cell.vm.isStatics = true ∧ cell.cls = c ∧ f.slot < cell.slots.size ∧ k.staticTypes[f.slot]? = some f.type ∧ ¬ A a
theorem vx_L.moved {C n d : String} {A : Nat → Prop} {u U : State} {H : Heap} (hvm : u.vm.Alike U.vm) (h : vx_L C n d A u H) : vx_L C n d A U H := by
  obtain ⟨c, k, i, f, a, cell, h1, h2, h3, h4, h5, h6, h7, h8, h9, h10⟩ := h
  obtain ⟨k', hi', he⟩ := State.fieldFound?_setVm hvm h2
  exact ⟨c, k', i, f, a, cell, by rw [hvm.findClass]; exact h1, hi', h3, by rw [he]; exact h4, h5, h6, h7, h8, by rw [he]; exact h9, h10⟩
theorem vx_L.kept {C n d : String} {A : Nat → Prop} {U : State} {H H1 : Heap} (h : vx_L C n d A U H) (hq : ∀ a : Nat, a < H.size → ¬ A a → H1[a]? = H[a]?) : vx_L C n d A U H1 := by
  obtain ⟨c, k, i, f, a, cell, h1, h2, h3, h4, h5, h6, h7, h8, h9, h10⟩ := h
  exact ⟨c, k, i, f, a, cell, h1, h2, h3, h4, by rw [hq a (Array.getElem?_eq_some_iff.mp h5).1 h10]; exact h5, h6, h7, h8, h9, h10⟩
theorem vx_L.narrow {C n d : String} {A B : Nat → Prop} {U : State} {H : Heap} (h : vx_L C n d A U H) (hAB : ∀ q, B q → A q) : vx_L C n d B U H := by
  obtain ⟨c, k, i, f, a, cell, h1, h2, h3, h4, h5, h6, h7, h8, h9, h10⟩ := h
  exact ⟨c, k, i, f, a, cell, h1, h2, h3, h4, h5, h6, h7, h8, h9, fun z => h10 (hAB _ z)⟩
theorem vx_L.word {C n d : String} {A : Nat → Prop} {s : State} {args : Array Value} (h : vx_L C n d A s s.heap) : (Cond.laysStatic C n d).before args s = true := by
  obtain ⟨c, k, i, f, a, cell, h1, h2, h3, h4, h5, h6, h7, h8, h9, -⟩ := h
  show (Cond.laysStatic C n d).holds args s none s [] = true
  exact Cond.laysStatic_of h1 h2 h3 h4 h5 h6 h7 h8 h9
/-- .. and what it holds: null or some reference -/
def vx_Zq (C n d : String) (A : Nat → Prop) (U : State) (H : Heap) : Prop := va_Zq C n d A U H ∧ vx_L C n d A U H
theorem vx_Zq.moved {C n d : String} {A : Nat → Prop} {u U : State} {H : Heap} (hvm : u.vm.Alike U.vm) (h : vx_Zq C n d A u H) : vx_Zq C n d A U H := ⟨va_Zq.moved hvm h.1, vx_L.moved hvm h.2⟩
theorem vx_Zq.kept {C n d : String} {A : Nat → Prop} {U : State} {H H1 : Heap} (h : vx_Zq C n d A U H) (hq : ∀ a : Nat, a < H.size → ¬ A a → H1[a]? = H[a]?) : vx_Zq C n d A U H1 := ⟨va_Zq.kept h.1 hq, vx_L.kept h.2 hq⟩
theorem vx_Zq.narrow {C n d : String} {A B : Nat → Prop} {U : State} {H : Heap} (h : vx_Zq C n d A U H) (hAB : ∀ q, B q → A q) : vx_Zq C n d B U H := ⟨va_Zq.narrow h.1 hAB, vx_L.narrow h.2 hAB⟩
theorem vx_Zqof {args : Array Value} {s : State} {C n d : String} {A : Nat → Prop} (hl : (Cond.laysStatic C n d).before args s = true) (hini : (Cond.initialized C).before args s = true) (h : (Cond.isRef (.static C n d)).before args s = true) (hA : ∀ a : Nat, a < s.heap.size → ¬ A a) : vx_Zq C n d A s s.heap := by
  refine ⟨va_Zqof hl hini h hA, ?_⟩
  obtain ⟨c, k, i, f, a, cell, h1, h2, h3, h4, h5, h6, h7, h8, h9⟩ := Cond.laysStatic_spec hl
  exact ⟨c, k, i, f, a, cell, h1, h2, h3, h4, h5, h6, h7, h8, h9, hA a (Array.getElem?_eq_some_iff.mp h5).1⟩
theorem vx_isRef {C n d : String} {v : Value} {A : Nat → Prop} {s : State} {args : Array Value} (h : va_Z C n d v A s s.heap) (hv : v.isRef = true) : (Cond.isRef (.static C n d)).before args s = true := by
  obtain ⟨cf, kf, fi, f, a, cell, h1, h2, h3, h4, h5, h6, h7, -⟩ := h
  have he : (Term.static C n d).eval args s none [] s = some v := by
    simp [Term.eval, State.fieldNamed?, h1, h2, h4, h5, h6, h7]
  simp only [Cond.before, Cond.holds, Cond.value, he]
  cases v <;> simp_all [Value.isRef]
theorem vx_isRefq {C n d : String} {A : Nat → Prop} {s : State} {args : Array Value} (h : va_Zq C n d A s s.heap) : (Cond.isRef (.static C n d)).before args s = true := by
  rcases h with h | ⟨t, h⟩
  · exact vx_isRef h rfl
  · exact vx_isRef h rfl
/-- the same frame, seen from here: as if the method were called anew in this heap -/
theorem vx_rebase {T : State} (X : Stand p l e R s m args below meth c T locs cells slots) {R' : Room} (hf : R'.frames ≤ R.frames) (hl : R'.locals ≤ R.locals) (hc : cells + R'.cells ≤ R.cells) (hs : slots + R'.slots ≤ R.slots) :
    Stand p l e R' ((T.setVm s.vm).setFrames (.invoking m args :: below)) m args below meth c T [] 0 0 := by
  have htop : (T.setVm s.vm).topJava?.isSome := X.here.top
  have hF : ((T.setVm s.vm).setFrames (.invoking m args :: below)).frames = .invoking m args :: below := State.frames_setFrames _ (State.cur_lt_of_top htop)
  obtain ⟨g₀, hg0⟩ := Option.isSome_iff_exists.mp htop
  obtain ⟨r, hr⟩ := State.topJava?_eq_some.mp hg0
  have hl9 : e.platform.stackLimits (T.setVm s.vm).me = e.platform.stackLimits s.me := X.limits
  have hb9 : (T.setVm s.vm).me.stackBytes = s.me.stackBytes := X.bytes
  refine ⟨X.admits, X.cas, X.clock, hF, ?_, X.hears, X.method, X.code, X.here, X.tail, X.warmed, ?_, ?_, ?_⟩
  · have h := X.room
    have hU : ((T.setVm s.vm).setFrames (.invoking m args :: below)).localsInUse = s.localsInUse := by
      rw [State.localsInUse_invoking hF (meth := meth) (c := c) X.method X.code, State.localsInUse_invoking X.frames X.method X.code]
    simp only [State.hasRoom, Bool.and_eq_true, decide_eq_true_eq] at h ⊢
    obtain ⟨⟨⟨⟨h1, h2, h3, h4, h5, h6⟩, h7⟩, h8⟩, h9⟩ := h
    rw [X.frames, List.length_cons] at h2 h3
    have q1 := X.heapSize
    have q2 := X.used
    simp only [hF, hU, List.length_cons, State.stackLimits_setFrames, State.stackBytes_setFrames, hl9, hb9]
    refine ⟨⟨⟨⟨by omega, by omega, by omega, by omega, by omega, h6⟩, ?_⟩, ?_⟩, X.book⟩
    · show T.heap.size + R'.cells ≤ e.platform.maxCells
      omega
    · show T.slotsUsed + R'.slots ≤ e.platform.maxSlots
      omega
  · rw [State.stackLimits_setFrames]; rfl
  · rw [State.stackBytes_setFrames]; rfl
  · refine ⟨?_, Nat.le_refl _, Nat.le_refl _, ?_, ?_, fun a c9 h9 => ⟨c9, h9, rfl, rfl, fun _ _ => rfl⟩⟩
    · obtain ⟨t, ht, -⟩ := State.frames_cons hr
      show T.setVm s.vm = { ((T.setVm s.vm).setFrames (.invoking m args :: below)).setFrames (T.setVm s.vm).frames with heap := T.heap, slotsUsed := T.slotsUsed }
      rw [State.setFrames_setFrames, State.setFrames_self ht]
      rfl
    · show T.slotsUsed = T.slotsUsed + ((T.heap.toList.drop T.heap.size).map (·.slots.size)).sum
      rw [List.drop_eq_nil_of_le (Nat.le_of_eq Array.length_toList)]
      rfl
    · show ((T.heap.toList.drop T.heap.size).map (·.slots.size)).sum ≤ 0
      rw [List.drop_eq_nil_of_le (Nat.le_of_eq Array.length_toList)]
      exact Nat.le_refl _
/-- 'throw new E()': new; dup; invokespecial; athrow -/
theorem vx_throw0 {cc : ByteArray} {pc : Nat} (hexec : p.tables.exec = Jvm.exec) (hb : c.code = cc) (hl : l.stackTraces = false) {own cls : String} {names : List String} {ik ic mc ms : Nat} {A : Nat → Prop}
    (hown : s.vm.findClass own = some m.cls) (hcls : Bundle.fit cls = true) (hnames : ∀ n ∈ names, Bundle.fit n = true)
    (hk : (Cond.classLink own ik cls).before args s = true) (hini : (Cond.initialized cls).before args s = true) (hat : ∀ w ∈ vx_at0 own ic cls names, w.before args s = true)
    (hgood : ∀ w ∈ Cond.classLink own ik cls :: Cond.initialized cls :: vx_at0 own ic cls names, vx_ot w = true)
    (hU : vx_Zq Bundle.tN "UNASSIGNED_STACK" Bundle.steD A s s.heap) (hN : vx_Zq Bundle.tN "SUPPRESSED_SENTINEL" Bundle.listD A s s.heap) (hS : va_S A s.heap H locs) (hsize : ls.size = c.maxLocals)
    (d0 : decode cc pc = .ok (.new ik, 3)) (d3 : decode cc (pc + 3) = .ok (.dup, 1)) (d4 : decode cc (pc + 4) = .ok (.invokespecial ic, 3)) (d7 : decode cc (pc + 7) = .ok (.athrow, 1))
    (hout : ∀ x ∈ c.exceptionTable.toList, covers x (pc + 7) = false)
    (hRframes : names.length + 3 < R.frames) (hRlocals : (rest.map fun v => v.category).sum + (13 * (names.length + 1) + 42) ≤ R.locals) (hRcells : cells + 1 ≤ R.cells) (hRslots : slots + 6 ≤ R.slots) (hlocks : meth.locks = false)
    (hx : ∀ t : State, s.vm.Alike t.vm → H.size ≤ t.heap.size → (∀ q : Nat, q < H.size → t.heap[q]? = H[q]?) → XC cls s t)
    (hf : ∀ z ∈ locs, free z.base) (hc : cells + 1 ≤ mc) (hs : slots + 6 ≤ ms) :
    W p l e R s m args below meth c H locs cells slots (vx_MQ below Qc XC args s mc ms free) (F0 m pc ls rest) := by
  intro T hT X
  have htr : e.platform.stackTraces = false := (show e.platform.stackTraces = l.stackTraces by rw [X.admits.platform]).trans hl
  have Y := vx_rebase X (R' := { frames := R.frames, locals := R.locals, cells := 1, slots := 6 }) (Nat.le_refl _) (Nat.le_refl _) hRcells hRslots
  obtain ⟨s', hA⟩ : ∃ z, z = (T.setVm s.vm).setFrames (.invoking m args :: below) := ⟨_, rfl⟩
  rw [← hA] at Y
  have hvm : s'.vm = s.vm := by rw [hA]; rfl
  have hhp : s'.heap = H := by rw [hA]; exact hT
  have hW0 : s.WarmedH s'.vm := by rw [hvm]; exact State.WarmedH.refl s
  have hat' : ∀ w ∈ vx_at0 own ic cls names, w.before args s' = true := fun w hw => vx_ot_at hW0 hvm.symm (hgood w (List.mem_cons_of_mem _ (List.mem_cons_of_mem _ hw))) (hat w hw)
  have hk' : (Cond.classLink own ik cls).before args s' = true := vx_ot_at hW0 hvm.symm (hgood _ List.mem_cons_self) hk
  have hini' : (Cond.initialized cls).before args s' = true := vx_ot_at hW0 hvm.symm (hgood _ (List.mem_cons_of_mem _ List.mem_cons_self)) hini
  have hU' : vx_Zq Bundle.tN "UNASSIGNED_STACK" Bundle.steD A s' s'.heap := by rw [hhp]; exact vx_Zq.moved hW0.alike (hU.kept hS.2.1)
  have hN' : vx_Zq Bundle.tN "SUPPRESSED_SENTINEL" Bundle.listD A s' s'.heap := by rw [hhp]; exact vx_Zq.moved hW0.alike (hN.kept hS.2.1)
  have h : ∀ w ∈ Bundle.ownAtoms0 own ic cls names, w.before args s' = true := vx_own hat' (vx_isRefq hU'.1) (vx_isRefq hN'.1) hU'.2.word hN'.2.word
  have hown' : s'.vm.findClass own = some m.cls := by rw [hvm]; exact hown
  have hins : (Cond.instantiable cls 6).before args s' = true := h _ (by simp [Bundle.ownAtoms0])
  obtain ⟨vm₁, cX, kX, hfX, hkX, -, -, X₁, st1⟩ := Y.newCold hexec (own := own) (C := cls) (index := ik) (n := 6) hown' hk' hins hini'
    (g := F0 m pc ls rest) rfl (by rw [hb]; exact d0) (Nat.le_refl _) (Nat.le_refl _)
  generalize hT1 : (T.setVm vm₁).pushCell { cls := cX, slots := kX.instanceTypes.map defaultValue, vm := .none } = T1 at X₁ st1
  have hcat : (Value.ref T.heap.size).category = 1 := rfl
  have hcellA : T1.heap[T.heap.size]? = some (freshCell cX kX) := by rw [← hT1]; exact State.heap_pushCell_size _ _
  have d3' : decode c.code (pc + 3) = .ok (.dup, 1) := by rw [hb]; exact d3
  obtain ⟨U, hsteps, hrun, hend, hW, hsame, ce, hce, hO⟩ := X₁.ctorThrow0 hexec htr (own := own) (cls := cls) (names := names) (ic := ic) hown' hcls hnames h (fun x hx => nomatch hx) hfX hkX hcellA (by rw [hhp, hT]; exact Nat.le_refl _)
    (g := { method := m, pc := pc + 4, locals := ls, stack := .ref T.heap.size :: .ref T.heap.size :: rest, locked := none }) rfl hsize rfl rfl (rest := rest) rfl
    (by rw [hb]; exact d4) (by rw [hb]; exact d7) hout hRframes (by simp only [List.map_cons, List.sum_cons, hcat]; omega) hlocks
  obtain ⟨f1, f2⟩ := vx_frame hsame
  rw [hhp] at f1 f2
  have hWs : s.WarmedH U.vm := State.WarmedH.trans hW0 hW
  have hcl : s.vm.findClass cls = some ce.cls := by
    have h9 := hO.cls
    rw [hvm] at h9
    exact h9
  have hall : s.sameButNew ({ U with vm := s.vm } : State) locs mc ms := by
    subst hA
    obtain ⟨e1, e2⟩ := hsame
    rw [State.setFrames_setFrames] at e1
    have h2 : (T.setVm s.vm).sameButNew ({ U with vm := s.vm } : State) [] (0 + 1) (0 + 6) := ⟨e1, e2⟩
    have h3 := X.same.trans h2
    rw [List.append_nil] at h3
    exact h3.mono hc hs
  refine ⟨U, ?_, .threw T.heap.size, hrun, hend, Or.inr ⟨T.heap.size, rfl, cls, ce, locs, hx U hWs.alike f1 (fun q hq => f2 q hq (fun z hz => nomatch hz)), hce, hO.vm, hcl, hWs, hall, hf⟩⟩
  refine st1 _ ?_
  show Steps p.tables e below (T1.setTop { method := m, pc := pc + 3, locals := ls, stack := .ref T.heap.size :: rest, locked := none }) _
  jvm_step X₁.here [X₁.here.top, hexec, d3', Value.category]
  exact hsteps
/-- 'throw new E("text")': new; dup; ldc; invokespecial; athrow -/
theorem vx_throwS {cc : ByteArray} {pc : Nat} (hexec : p.tables.exec = Jvm.exec) (hb : c.code = cc) (hl : l.stackTraces = false) {own cls text : String} {names : List String} {ik is ic mc ms sa : Nat} {A : Nat → Prop}
    (hown : s.vm.findClass own = some m.cls) (hcls : Bundle.fit cls = true) (hnames : ∀ n ∈ names, Bundle.fit n = true)
    (hk : (Cond.classLink own ik cls).before args s = true) (hini : (Cond.initialized cls).before args s = true) (hstr : vk_R own is text sa s) (hat : ∀ w ∈ vx_atS own ic cls names, w.before args s = true)
    (hgood : ∀ w ∈ Cond.classLink own ik cls :: Cond.initialized cls :: vx_atS own ic cls names, vx_ot w = true)
    (hU : vx_Zq Bundle.tN "UNASSIGNED_STACK" Bundle.steD A s s.heap) (hN : vx_Zq Bundle.tN "SUPPRESSED_SENTINEL" Bundle.listD A s s.heap) (hS : va_S A s.heap H locs) (hsize : ls.size = c.maxLocals)
    (d0 : decode cc pc = .ok (.new ik, 3)) (d3 : decode cc (pc + 3) = .ok (.dup, 1)) (d4 : decode cc (pc + 4) = .ok (.ldc is, 2)) (d6 : decode cc (pc + 6) = .ok (.invokespecial ic, 3)) (d9 : decode cc (pc + 9) = .ok (.athrow, 1))
    (hout : ∀ x ∈ c.exceptionTable.toList, covers x (pc + 9) = false)
    (hRframes : names.length + 3 < R.frames) (hRlocals : (rest.map fun v => v.category).sum + (13 * (names.length + 1) + 43) ≤ R.locals) (hRcells : cells + 1 ≤ R.cells) (hRslots : slots + 6 ≤ R.slots) (hlocks : meth.locks = false)
    (hx : ∀ t : State, s.vm.Alike t.vm → H.size ≤ t.heap.size → (∀ q : Nat, q < H.size → t.heap[q]? = H[q]?) → XC cls s t)
    (hf : ∀ z ∈ locs, free z.base) (hc : cells + 1 ≤ mc) (hs : slots + 6 ≤ ms) :
    W p l e R s m args below meth c H locs cells slots (vx_MQ below Qc XC args s mc ms free) (F0 m pc ls rest) := by
  intro T hT X
  have htr : e.platform.stackTraces = false := (show e.platform.stackTraces = l.stackTraces by rw [X.admits.platform]).trans hl
  have Y := vx_rebase X (R' := { frames := R.frames, locals := R.locals, cells := 1, slots := 6 }) (Nat.le_refl _) (Nat.le_refl _) hRcells hRslots
  obtain ⟨s', hA⟩ : ∃ z, z = (T.setVm s.vm).setFrames (.invoking m args :: below) := ⟨_, rfl⟩
  rw [← hA] at Y
  have hvm : s'.vm = s.vm := by rw [hA]; rfl
  have hhp : s'.heap = H := by rw [hA]; exact hT
  have hW0 : s.WarmedH s'.vm := by rw [hvm]; exact State.WarmedH.refl s
  have hat' : ∀ w ∈ vx_atS own ic cls names, w.before args s' = true := fun w hw => vx_ot_at hW0 hvm.symm (hgood w (List.mem_cons_of_mem _ (List.mem_cons_of_mem _ hw))) (hat w hw)
  have hk' : (Cond.classLink own ik cls).before args s' = true := vx_ot_at hW0 hvm.symm (hgood _ List.mem_cons_self) hk
  have hini' : (Cond.initialized cls).before args s' = true := vx_ot_at hW0 hvm.symm (hgood _ (List.mem_cons_of_mem _ List.mem_cons_self)) hini
  have hU' : vx_Zq Bundle.tN "UNASSIGNED_STACK" Bundle.steD A s' s'.heap := by rw [hhp]; exact vx_Zq.moved hW0.alike (hU.kept hS.2.1)
  have hN' : vx_Zq Bundle.tN "SUPPRESSED_SENTINEL" Bundle.listD A s' s'.heap := by rw [hhp]; exact vx_Zq.moved hW0.alike (hN.kept hS.2.1)
  have h : ∀ w ∈ Bundle.ownAtoms own ic cls names, w.before args s' = true := vx_own hat' (vx_isRefq hU'.1) (vx_isRefq hN'.1) hU'.2.word hN'.2.word
  have hown' : s'.vm.findClass own = some m.cls := by rw [hvm]; exact hown
  have hins : (Cond.instantiable cls 6).before args s' = true := h _ (by simp [Bundle.ownAtoms])
  obtain ⟨vm₁, cX, kX, hfX, hkX, -, -, X₁, st1⟩ := Y.newCold hexec (own := own) (C := cls) (index := ik) (n := 6) hown' hk' hins hini'
    (g := F0 m pc ls rest) rfl (by rw [hb]; exact d0) (Nat.le_refl _) (Nat.le_refl _)
  generalize hT1 : (T.setVm vm₁).pushCell { cls := cX, slots := kX.instanceTypes.map defaultValue, vm := .none } = T1 at X₁ st1
  have hcat : (Value.ref T.heap.size).category = 1 := rfl
  have hcellA : T1.heap[T.heap.size]? = some (freshCell cX kX) := by rw [← hT1]; exact State.heap_pushCell_size _ _
  have d3' : decode c.code (pc + 3) = .ok (.dup, 1) := by rw [hb]; exact d3
  have d4' : decode c.code (pc + 4) = .ok (.ldc is, 2) := by rw [hb]; exact d4
  have hstr' : vk_R own is text sa s' := vk_R.warm hW0 hstr
  obtain ⟨U, hsteps, hrun, hend, hW, hsame, ce, hce, hO⟩ := X₁.ctorThrowS hexec htr (own := own) (cls := cls) (names := names) (ic := ic) hown' hcls hnames h (fun x hx => nomatch hx) hfX hkX hcellA (by rw [hhp, hT]; exact Nat.le_refl _) (msg := .ref sa) rfl
    (g := { method := m, pc := pc + 6, locals := ls, stack := .ref sa :: .ref T.heap.size :: .ref T.heap.size :: rest, locked := none }) rfl hsize rfl rfl (rest := rest) rfl
    (by rw [hb]; exact d6) (by rw [hb]; exact d9) hout hRframes (by simp only [List.map_cons, List.sum_cons, hcat]; omega) hlocks
  obtain ⟨f1, f2⟩ := vx_frame hsame
  rw [hhp] at f1 f2
  have hWs : s.WarmedH U.vm := State.WarmedH.trans hW0 hW
  have hcl : s.vm.findClass cls = some ce.cls := by
    have h9 := hO.cls
    rw [hvm] at h9
    exact h9
  have hall : s.sameButNew ({ U with vm := s.vm } : State) locs mc ms := by
    subst hA
    obtain ⟨e1, e2⟩ := hsame
    rw [State.setFrames_setFrames] at e1
    have h2 : (T.setVm s.vm).sameButNew ({ U with vm := s.vm } : State) [] (0 + 1) (0 + 6) := ⟨e1, e2⟩
    have h3 := X.same.trans h2
    rw [List.append_nil] at h3
    exact h3.mono hc hs
  refine ⟨U, ?_, .threw T.heap.size, hrun, hend, Or.inr ⟨T.heap.size, rfl, cls, ce, locs, hx U hWs.alike f1 (fun q hq => f2 q hq (fun z hz => nomatch hz)), hce, hO.vm, hcl, hWs, hall, hf⟩⟩
  refine st1 _ ?_
  show Steps p.tables e below (T1.setTop { method := m, pc := pc + 3, locals := ls, stack := .ref T.heap.size :: rest, locked := none }) _
  jvm_step X₁.here [X₁.here.top, hexec, d3', Value.category]
  exact X₁.ldcString hexec (own := own) (text := text) (index := is) (a := sa) hown' hstr'.1 hstr'.2
    (g := { method := m, pc := pc + 4, locals := ls, stack := .ref T.heap.size :: .ref T.heap.size :: rest, locked := none }) rfl d4' _ hsteps
/-- 'throw new E("text")', the text by a wide index -/
theorem vx_throwSW {cc : ByteArray} {pc : Nat} (hexec : p.tables.exec = Jvm.exec) (hb : c.code = cc) (hl : l.stackTraces = false) {own cls text : String} {names : List String} {ik is ic mc ms sa : Nat} {A : Nat → Prop}
    (hown : s.vm.findClass own = some m.cls) (hcls : Bundle.fit cls = true) (hnames : ∀ n ∈ names, Bundle.fit n = true)
    (hk : (Cond.classLink own ik cls).before args s = true) (hini : (Cond.initialized cls).before args s = true) (hstr : vk_R own is text sa s) (hat : ∀ w ∈ vx_atS own ic cls names, w.before args s = true)
    (hgood : ∀ w ∈ Cond.classLink own ik cls :: Cond.initialized cls :: vx_atS own ic cls names, vx_ot w = true)
    (hU : vx_Zq Bundle.tN "UNASSIGNED_STACK" Bundle.steD A s s.heap) (hN : vx_Zq Bundle.tN "SUPPRESSED_SENTINEL" Bundle.listD A s s.heap) (hS : va_S A s.heap H locs) (hsize : ls.size = c.maxLocals)
    (d0 : decode cc pc = .ok (.new ik, 3)) (d3 : decode cc (pc + 3) = .ok (.dup, 1)) (d4 : decode cc (pc + 4) = .ok (.ldc_w is, 3)) (d7 : decode cc (pc + 7) = .ok (.invokespecial ic, 3)) (d10 : decode cc (pc + 10) = .ok (.athrow, 1))
    (hout : ∀ x ∈ c.exceptionTable.toList, covers x (pc + 10) = false)
    (hRframes : names.length + 3 < R.frames) (hRlocals : (rest.map fun v => v.category).sum + (13 * (names.length + 1) + 43) ≤ R.locals) (hRcells : cells + 1 ≤ R.cells) (hRslots : slots + 6 ≤ R.slots) (hlocks : meth.locks = false)
    (hx : ∀ t : State, s.vm.Alike t.vm → H.size ≤ t.heap.size → (∀ q : Nat, q < H.size → t.heap[q]? = H[q]?) → XC cls s t)
    (hf : ∀ z ∈ locs, free z.base) (hc : cells + 1 ≤ mc) (hs : slots + 6 ≤ ms) :
    W p l e R s m args below meth c H locs cells slots (vx_MQ below Qc XC args s mc ms free) (F0 m pc ls rest) := by
  intro T hT X
  have htr : e.platform.stackTraces = false := (show e.platform.stackTraces = l.stackTraces by rw [X.admits.platform]).trans hl
  have Y := vx_rebase X (R' := { frames := R.frames, locals := R.locals, cells := 1, slots := 6 }) (Nat.le_refl _) (Nat.le_refl _) hRcells hRslots
  obtain ⟨s', hA⟩ : ∃ z, z = (T.setVm s.vm).setFrames (.invoking m args :: below) := ⟨_, rfl⟩
  rw [← hA] at Y
  have hvm : s'.vm = s.vm := by rw [hA]; rfl
  have hhp : s'.heap = H := by rw [hA]; exact hT
  have hW0 : s.WarmedH s'.vm := by rw [hvm]; exact State.WarmedH.refl s
  have hat' : ∀ w ∈ vx_atS own ic cls names, w.before args s' = true := fun w hw => vx_ot_at hW0 hvm.symm (hgood w (List.mem_cons_of_mem _ (List.mem_cons_of_mem _ hw))) (hat w hw)
  have hk' : (Cond.classLink own ik cls).before args s' = true := vx_ot_at hW0 hvm.symm (hgood _ List.mem_cons_self) hk
  have hini' : (Cond.initialized cls).before args s' = true := vx_ot_at hW0 hvm.symm (hgood _ (List.mem_cons_of_mem _ List.mem_cons_self)) hini
  have hU' : vx_Zq Bundle.tN "UNASSIGNED_STACK" Bundle.steD A s' s'.heap := by rw [hhp]; exact vx_Zq.moved hW0.alike (hU.kept hS.2.1)
  have hN' : vx_Zq Bundle.tN "SUPPRESSED_SENTINEL" Bundle.listD A s' s'.heap := by rw [hhp]; exact vx_Zq.moved hW0.alike (hN.kept hS.2.1)
  have h : ∀ w ∈ Bundle.ownAtoms own ic cls names, w.before args s' = true := vx_own hat' (vx_isRefq hU'.1) (vx_isRefq hN'.1) hU'.2.word hN'.2.word
  have hown' : s'.vm.findClass own = some m.cls := by rw [hvm]; exact hown
  have hins : (Cond.instantiable cls 6).before args s' = true := h _ (by simp [Bundle.ownAtoms])
  obtain ⟨vm₁, cX, kX, hfX, hkX, -, -, X₁, st1⟩ := Y.newCold hexec (own := own) (C := cls) (index := ik) (n := 6) hown' hk' hins hini'
    (g := F0 m pc ls rest) rfl (by rw [hb]; exact d0) (Nat.le_refl _) (Nat.le_refl _)
  generalize hT1 : (T.setVm vm₁).pushCell { cls := cX, slots := kX.instanceTypes.map defaultValue, vm := .none } = T1 at X₁ st1
  have hcat : (Value.ref T.heap.size).category = 1 := rfl
  have hcellA : T1.heap[T.heap.size]? = some (freshCell cX kX) := by rw [← hT1]; exact State.heap_pushCell_size _ _
  have d3' : decode c.code (pc + 3) = .ok (.dup, 1) := by rw [hb]; exact d3
  have d4' : decode c.code (pc + 4) = .ok (.ldc_w is, 3) := by rw [hb]; exact d4
  have hstr' : vk_R own is text sa s' := vk_R.warm hW0 hstr
  obtain ⟨U, hsteps, hrun, hend, hW, hsame, ce, hce, hO⟩ := X₁.ctorThrowS hexec htr (own := own) (cls := cls) (names := names) (ic := ic) hown' hcls hnames h (fun x hx => nomatch hx) hfX hkX hcellA (by rw [hhp, hT]; exact Nat.le_refl _) (msg := .ref sa) rfl
    (g := { method := m, pc := pc + 7, locals := ls, stack := .ref sa :: .ref T.heap.size :: .ref T.heap.size :: rest, locked := none }) rfl hsize rfl rfl (rest := rest) rfl
    (by rw [hb]; exact d7) (by rw [hb]; exact d10) hout hRframes (by simp only [List.map_cons, List.sum_cons, hcat]; omega) hlocks
  obtain ⟨f1, f2⟩ := vx_frame hsame
  rw [hhp] at f1 f2
  have hWs : s.WarmedH U.vm := State.WarmedH.trans hW0 hW
  have hcl : s.vm.findClass cls = some ce.cls := by
    have h9 := hO.cls
    rw [hvm] at h9
    exact h9
  have hall : s.sameButNew ({ U with vm := s.vm } : State) locs mc ms := by
    subst hA
    obtain ⟨e1, e2⟩ := hsame
    rw [State.setFrames_setFrames] at e1
    have h2 : (T.setVm s.vm).sameButNew ({ U with vm := s.vm } : State) [] (0 + 1) (0 + 6) := ⟨e1, e2⟩
    have h3 := X.same.trans h2
    rw [List.append_nil] at h3
    exact h3.mono hc hs
  refine ⟨U, ?_, .threw T.heap.size, hrun, hend, Or.inr ⟨T.heap.size, rfl, cls, ce, locs, hx U hWs.alike f1 (fun q hq => f2 q hq (fun z hz => nomatch hz)), hce, hO.vm, hcl, hWs, hall, hf⟩⟩
  refine st1 _ ?_
  show Steps p.tables e below (T1.setTop { method := m, pc := pc + 3, locals := ls, stack := .ref T.heap.size :: rest, locked := none }) _
  jvm_step X₁.here [X₁.here.top, hexec, d3', Value.category]
  exact X₁.ldcStringW hexec (own := own) (text := text) (index := is) (a := sa) hown' hstr'.1 hstr'.2
    (g := { method := m, pc := pc + 4, locals := ls, stack := .ref T.heap.size :: .ref T.heap.size :: rest, locked := none }) rfl d4' _ hsteps
end Ends
section Bodies
variable {l : Launch}
theorem vx_ofW {y : MethodName} {ws ws' : List Cond} {rm : Room} {Pc : Array Value → State → Prop} {Qc : Array Value → State → Outcome → State → Prop} {XC : String → State → State → Prop} {mc ms : Nat} {free : Addr → Prop} {cc : ByteArray} {maxL : Nat} {ret : Option FieldType}
    (hy : plainName y.cls = true) (hw : ws = Cond.code y cc maxL ret :: ws')
    (body : ∀ p e s m args below meth c s₁, BodyLoose p l y (headSpec ws rm) cc maxL ret e s m args below meth c s₁ → c.maxLocals = maxL → (∀ x ∈ c.exceptionTable.toList, False) → Pc args s →
      W p l e (headSpec ws rm).room s m args below meth c s.heap [] 0 0 (vx_MQ below Qc XC args s mc ms free) (entryFrame m args maxL)) : vx_Met l y ws rm Pc Qc XC mc ms free := by
  refine MetFree.of_bodyS (code := cc) (maxLocals := maxL) (ret := ret) hy ?_ ?_
  · intro args s m h hn
    obtain ⟨meth, c, h1, h2, h3, h4, h5, h6, -, -⟩ := Cond.code_spec hn (atoms_spec (ws := ws) h _ (by rw [hw]; exact List.mem_cons_self))
    exact ⟨meth, c, h1, h2, h3, h4, h5, h6⟩
  · intro p e s m args below meth c s₁ B hml hP _
    have hh0 : s₁.heap = s.heap := by rw [B.state]; rfl
    have ht : ∀ x ∈ c.exceptionTable.toList, False := by
      obtain ⟨meth9, c9, h1, h2, -, -, -, -, h7, -⟩ := Cond.code_spec B.named (atoms_spec (ws := ws) B.pre _ (by rw [hw]; exact List.mem_cons_self))
      cases Option.some.inj (h1.symm.trans B.method)
      cases Option.some.inj (h2.symm.trans (Stand.of_body B).code)
      intro x hx
      rw [Array.isEmpty_iff.mp h7] at hx
      cases hx
    obtain ⟨t, a1, o, b1, b2, b3⟩ := body p e s m args below meth c s₁ B hml ht hP s₁ hh0 (Stand.of_body B)
    exact ⟨t, o, a1, b1, b2, b3⟩
/-- the table of a body with handlers -/
theorem vx_table {p : Program} {x y : MethodName} {S : Spec} {cc bytes : ByteArray} {maxL maxL' : Nat} {ret ret' : Option FieldType} {e : Env} {s s₁ : State} {m : MethodId} {args : Array Value} {below : List Frame} {meth : Method} {c : Code} {hh : List (Nat × Nat × Nat × Nat)}
    (B : BodyLoose p l y S cc maxL ret e s m args below meth c s₁) (h : (Cond.codeWith y bytes maxL' ret' hh).before args s = true) : c.exceptionTable.toList = tableOf hh := by
  obtain ⟨m9, meth9, c9, hn9, h1, h2, -, -, h6, -⟩ := Cond.codeWith_spec h
  cases Option.some.inj (hn9.symm.trans B.named)
  cases Option.some.inj (h1.symm.trans B.method)
  cases Option.some.inj (h2.symm.trans (Stand.of_body B).code)
  rw [← h6, table_eq]
end Bodies
end VXA
/-! ===== END ===== -/
/-! ===== BEGIN a static call of a method with an exception table ===== -/
section VXS
variable {p : Program} {l : Launch} {e : Env} {R : Room} {s : State} {m : MethodId} {args : Array Value} {below : List Frame} {meth : Method} {c : Code} {T : State} {H : Heap} {locs : List Loc} {cells slots : Nat}
abbrev vx_CSW (R : Room) (s : State) (args : Array Value) (own : String) (index : Nat) (y : MethodName) (bytes : ByteArray) (maxL : Nat) (ret : Option FieldType) (hh : List (Nat × Nat × Nat × Nat)) (ws : List Cond) (rm : Room) (mc ms n : Nat) : Prop :=
  (rm.cells = mc ∧ rm.slots = ms ∧ rm.frames + 1 ≤ R.frames ∧ 8 + (maxL + 11) + rm.locals ≤ R.locals ∧ (∀ w ∈ ws, ∀ (a' : Array Value) (U : State), s.WarmedH U.vm → w.before a' U = true) ∧ Cond.codeWith y bytes maxL ret hh ∈ ws) ∧
  (Cond.codeWith y bytes maxL ret hh).before args s = true ∧ (Cond.initialized y.cls).before args s = true ∧ (y.cls ≠ "java/lang/invoke/MethodHandle" ∧ y.cls ≠ "java/lang/invoke/VarHandle") ∧
  (∀ sig, parseMethodDescriptor y.desc = some sig → n = sig.parameters.length) ∧ (Cond.methodLink own index y).before args s = true ∧ (Cond.static y).before args s = true
theorem vx_cwSW {own : String} {index maxL mc ms : Nat} {y : MethodName} {bytes : ByteArray} {ret : Option FieldType} {hh : List (Nat × Nat × Nat × Nat)} {Ts ws ws' : List Cond} {rm : Room} (n : Nat) (ht : ∀ w ∈ Ts, w.before args s = true) (hT : GoodIn Ts (va_wsS own index y ws)) (hw : ws = Cond.codeWith y bytes maxL ret hh :: ws') (hrc : rm.cells = mc) (hrs : rm.slots = ms)
    (hd : y.cls ≠ "java/lang/invoke/MethodHandle" ∧ y.cls ≠ "java/lang/invoke/VarHandle" ∧ (parseMethodDescriptor y.desc).map (fun d => d.parameters.length) = some n) (hR : rm.frames + 1 ≤ R.frames ∧ 8 + (maxL + 11) + rm.locals ≤ R.locals) :
    vx_CSW R s args own index y bytes maxL ret hh ws rm mc ms n := by
  have ok : ∀ w ∈ va_wsS own index y ws, w.before args s = true := fun w h => ht w (hT w h).1
  have hG : GoodIn Ts ws := fun w h => hT w (by unfold va_wsS; exact List.mem_append_right _ h)
  have hc : Cond.codeWith y bytes maxL ret hh ∈ ws := by rw [hw]; exact List.mem_cons_self
  refine ⟨⟨hrc, hrs, hR.1, hR.2, pay_in ht hG, hc⟩, ht _ (hG _ hc).1, ok _ (by simp [va_wsS]), ⟨hd.1, hd.2.1⟩, fun sig h => ?_, ok _ (by simp [va_wsS]), ok _ (by simp [va_wsS])⟩
  have h2 := hd.2.2
  rw [h] at h2
  exact (Option.some.inj h2).symm
theorem vx_callSW (X : Stand p l e R s m args below meth c T locs cells slots) (hexec : p.tables.exec = Jvm.exec) {own : String} {index : Nat} {y : MethodName} {bytes : ByteArray} {maxL : Nat} {ret : Option FieldType} {hh : List (Nat × Nat × Nat × Nat)}
    (hown : s.vm.findClass own = some m.cls) (hlink : (Cond.methodLink own index y).before args s = true) (hstat : (Cond.static y).before args s = true) (hinit : (Cond.initialized y.cls).before args s = true)
    (hcode : (Cond.codeWith y bytes maxL ret hh).before args s = true) (hy : y.cls ≠ "java/lang/invoke/MethodHandle" ∧ y.cls ≠ "java/lang/invoke/VarHandle")
    {W9 : Nat} {Pre : Pt → Array Value → Prop} {Post : Pt → Array Value → Option Value → Pt → Prop} (hK : Back l R p e below s args y 3 W9 Pre Post)
    {g : JFrame} (hg : g.method = m) (hsize : g.locals.size = c.maxLocals) {argsL rest : List Value} (hlen : ∀ sig, parseMethodDescriptor y.desc = some sig → argsL.length = sig.parameters.length)
    (hstack : g.stack = argsL.reverse ++ rest) (hW : 2 * g.monitorRoom + (rest.map fun v => v.category).sum ≤ W9) (hdg : decode c.code g.pc = .ok (.invokestatic index, 3))
    (hpre : ∀ vm₁, s.WarmedH vm₁ → Pre ⟨T.setVm vm₁, locs, cells, slots⟩ argsL.toArray) :
    ∃ (v : Option Value) (vm₁ : Vm) (B : Pt), s.WarmedH vm₁ ∧ Stand p l e R s m args below meth c B.U B.locs B.cells B.slots ∧ Post ⟨T.setVm vm₁, locs, cells, slots⟩ argsL.toArray v B ∧
      ∀ target, Steps p.tables e below (B.U.setTop { g with pc := g.pc + 3, stack := v.toList ++ rest }) target → Steps p.tables e below (T.setTop g) target := by
  obtain ⟨mk, methM, cM, hnamed, hmethM, -, -, -, -, -, -, hsigM⟩ := Cond.codeWith_spec hcode
  have hstatic : methM.isStatic = true := Cond.static_spec hnamed hmethM hstat
  obtain ⟨kP, hkP, -⟩ := className_of_methodNamed hnamed
  have hinitP : kP.init = .initialized := Cond.initialized_spec (findClass_of_methodNamed hnamed) hkP hinit
  obtain ⟨vm₁, X₁, hstep₁⟩ := X.invokestatic hexec hown hlink hnamed hmethM hstatic hkP hinitP hy (g := g) hg (argsL := argsL) (rest := rest) (hlen _ hsigM) hstack hdg
  obtain ⟨v, B, X', hpost, hsteps⟩ := hK m meth c ⟨T.setVm vm₁, locs, cells, slots⟩ { g with stack := rest } (.invokestatic index) mk argsL.toArray X₁ hg hsize hdg hW (X₁.named hnamed) (hpre vm₁ X₁.warmed)
  exact ⟨v, vm₁, B, X₁.warmed, X', hpost, fun target h => hstep₁ _ fun acts => by rw [doInvoke_state]; exact hsteps.trans h⟩
theorem vx_runSW {y : MethodName} {bytes cc : ByteArray} {maxL nL mc ms n index : Nat} {ret : Option FieldType} {hh : List (Nat × Nat × Nat × Nat)} {ws : List Cond} {rm : Room} {Pc : Array Value → State → Prop} {Qc : Array Value → State → Outcome → State → Prop} {free : Addr → Prop} {Ts : List Cond} {own : String} {As rest : List Value} {g : JFrame}
    (S : CallFix p m c cc nL s args Ts own) (hM : Met l y ws rm Pc Qc mc ms free) (cw : vx_CSW R s args own index y bytes maxL ret hh ws rm mc ms n) (hp : PreS s H Pc As)
    (hg : g.method = m) (hn : As.length = n) (hsize : g.locals.size = nL) (hstack : g.stack = As.reverse ++ rest) (hW : 2 * g.monitorRoom + (rest.map fun v => v.category).sum ≤ 8) (hdg : decode cc g.pc = .ok (.invokestatic index, 3)) (hf : cells + mc ≤ R.cells ∧ slots + ms ≤ R.slots) :
    va_Run p l e R s m args below meth c H locs cells slots mc ms g rest (Qc As.toArray) (free) := by
  obtain ⟨⟨hrc, hrs, hfr, hlo, hws, hcw⟩, hcode, hini, hy, hlen, hl, hstt⟩ := cw
  have hK : Back l R p e below s args y 3 8 (PreOf R mc ms Pc) (PostOf Qc mc ms free) := va_backW (hh := hh) (bytes := bytes) (maxL := maxL) (ret := ret) hM hp.1 hrc hrs hfr hlo hws hcw (fun a' U hW => word_at hW (Or.inl (by first | rfl | simp [Cond.onTables, Cond.keeps, Cond.steady])) hini)
  obtain ⟨hx, hb, hml, ho, -⟩ := S
  intro T hT X
  obtain ⟨v, vm₁, ⟨U', l2, c2, s2⟩, hW₁, X', ⟨g', mk, t, L, e1, e2, hq, h1, hL, h2, h3⟩, st⟩ := vx_callSW X hx (hh := hh) (bytes := bytes) (maxL := maxL) (ret := ret) ho hl hstt hini hcode hy hK hg (hsize.trans hml.symm) (argsL := As) (rest := rest) (fun sig h => hn.trans (hlen sig h)) hstack hW (by rw [hb]; exact hdg)
    (fun vm₁ hW₁ => ⟨hf.1, hf.2, hp.2 (T.setVm vm₁) hT hW₁⟩)
  dsimp only [Pt.U, Pt.locs, Pt.cells, Pt.slots] at X' e1 e2 h1 h2 h3 st
  subst h1; subst h2; subst h3
  exact ⟨v, (T.setVm vm₁).calling g' mk As.toArray, t, U', L, hT, X', hL, e1, e2, hq, st⟩
/-- not caught here, past rows that name other classes: it goes on to the caller -/
theorem vx_outP {p : Program} {l : Launch} {e : Env} {R : Room} {s : State} {m : MethodId} {args : Array Value} {below : List Frame} {meth : Method} {c : Code} {H : Heap} {locs : List Loc} {cells slots : Nat} {free : Addr → Prop} {ls : Array Slot} {rest : List Value} {Qc : Array Value → State → Outcome → State → Prop} {XC : String → State → State → Prop}
    {pc : Nat} {own E : String} {ce : Cell} {q : Addr} {mc ms : Nat} (hown : s.vm.findClass own = some m.cls) (hlocks : meth.locks = false)
    (hpass : ∀ z ∈ c.exceptionTable.toList, covers z pc = false ∨ (z.catchType ≠ 0 ∧ ∃ nm : String, (Cond.classLink own z.catchType nm).before args s = true ∧ va_Nc E nm s)) (hcell : H[q]? = some ce) (hv : ce.vm = .none) (hcl : s.vm.findClass E = some ce.cls)
    (hx : ∀ t : State, t.heap = H → s.vm.Alike t.vm → XC E s t) (hf : ∀ z ∈ locs, free z.base) (hc : cells ≤ mc) (hs : slots ≤ ms) :
    vx_W p l e R s m args below meth c H locs cells slots (vx_MQ below Qc XC args s mc ms free) (F0 m pc ls rest) q := by
  intro T hT X
  have hpl : e.platform.magicAccessors = ({} : Platform).magicAccessors := by rw [X.admits.platform]
  obtain ⟨vm', hW', X', st⟩ := X.outThrough hlocks q (g := F0 m pc ls rest) rfl rfl rfl (cell := ce) (by rw [hT]; exact hcell) (by rw [hv]; rfl)
    (by obtain ⟨k9, h9, -⟩ := Vm.findClass_spec hcl; exact ⟨k9, h9⟩) (fun z hz => by
      rcases hpass z hz with h | ⟨hz0, nm, hl1, hn1⟩
      · exact Or.inl h
      · obtain ⟨c6, hc6, hcl6⟩ := Cond.classLink_spec hown hl1 e.platform hpl
        obtain ⟨a8, b8, h1, h2, h3⟩ := hn1
        cases Option.some.inj (h1.symm.trans hcl)
        cases Option.some.inj (h2.symm.trans hc6)
        exact Or.inr ⟨hz0, _, hcl6, h3⟩)
  obtain ⟨g₀, hfr⟩ := X'.frames_eq
  have hcell9 : ((T.setVm vm').setFrames (.throwing q :: below)).heap[q]? = some ce := by
    show T.heap[q]? = some ce
    rw [hT]; exact hcell
  have hend : Ended ((T.setVm vm').setFrames (.throwing q :: below)) below (.threw q) := State.frames_setFrames _ (State.cur_lt_of_frames hfr)
  refine ⟨(T.setVm vm').setFrames (.throwing q :: below), ?_, .threw q, X'.here.running, hend, Or.inr ⟨q, rfl, E, ce, locs, hx _ hT (X'.ends _).1.alike, hcell9, hv, hcl, (X'.ends _).1, (X'.ends _).2.mono hc hs, hf⟩⟩
  rw [X.pushThrowing_eq]
  exact st
/-- a thing of a world lies in the heap -/
theorem vx_lt {D : va_G} {cl : List vw_C} {ws : va_W} {H1 : Heap} (h : va_P D cl ws H1) {k : Nat} {q : Nat × va_E} (hk : ws[k]? = some q) : q.1 < H1.size := (h k q hk).lt
end VXS
/-! ===== END ===== -/
/-! ===== BEGIN methods with a table of their own: called by a name, returning or throwing ===== -/
section VXH
/-! vx_backW, vx_callVX, vx_callSX, vx_callVW, vx_runVW, vx_runVX, vx_runSX, vx_ofWH follow the same proofs as their sisters above (Free/Laws.lean, Shelf42/LK1.lean); vx_outP calls Shelf42/NT130.lean (outThrough). -/
section
variable {l : Launch} {R : Room} {p : Program} {e : Env} {below : List Frame} {s : State} {sargs : Array Value} {y : MethodName} {len W9 : Nat}
theorem vx_backW {ws : List Cond} {rm : Room} {Pc : Array Value → State → Prop} {Qc : Array Value → State → Outcome → State → Prop} {XC : String → State → State → Prop} {mc ms : Nat} {free : Addr → Prop} {bytes : ByteArray} {maxL : Nat} {ret : Option FieldType} {hh : List (Nat × Nat × Nat × Nat)}
    (hM : vx_Met l y ws rm Pc Qc XC mc ms free) (hblind : FrameBlind Pc) (hrc : rm.cells = mc) (hrs : rm.slots = ms)
    (hframes : rm.frames + 1 ≤ R.frames) (hlocals : W9 + (maxL + 11) + rm.locals ≤ R.locals)
    (hws : ∀ w ∈ ws, ∀ a' U, s.WarmedH U.vm → w.before a' U = true) (hcode : Cond.codeWith y bytes maxL ret hh ∈ ws) (hinit : ∀ a' U, s.WarmedH U.vm → (Cond.initialized y.cls).before a' U = true) :
    vx_Back l R p e below s sargs y len W9 (PreOf R mc ms Pc) (PostOf Qc mc ms free) (vx_Post XC mc ms free) := by
  intro m meth c A g ig mk a X hg hsize hdg hW hn hp
  have h1 : (headSpec ws rm).pre.before a A.U = true := atoms_intro fun w hw => hws w hw _ _ X.warmed
  have h2 : (Cond.codeWith y bytes maxL ret hh).before a A.U = true := hws _ hcode _ _ X.warmed
  have h3 : (Cond.initialized y.cls).before a A.U = true := hinit _ _ X.warmed
  have h4 : A.cells + (headSpec ws rm).room.cells ≤ R.cells := by rw [show (headSpec ws rm).room.cells = mc from hrc]; exact hp.1
  have h5 : A.slots + (headSpec ws rm).room.slots ≤ R.slots := by rw [show (headSpec ws rm).room.slots = ms from hrs]; exact hp.2.1
  have hPc : Pc a (A.U.calling g mk a) := hblind _ _ _ _ hp.2.2
  obtain ⟨U, Ls, c0, s0⟩ := A
  dsimp only [Pt.U, Pt.locs, Pt.cells, Pt.slots] at h1 h2 h3 h4 h5 X hn hPc ⊢
  obtain ⟨m9, methY, cY, hn9, hmY, hcY, -, hlY, -⟩ := Cond.codeWith_spec h2
  cases Option.some.inj (hn9.symm.trans hn)
  obtain ⟨kY, hkY, -⟩ := className_of_methodNamed hn
  have hinitY : kY.init = .initialized := Cond.initialized_spec (findClass_of_methodNamed hn) hkY h3
  have h : At U g.method c below := by rw [hg]; exact X.here
  have hlocals9 : W9 + (maxL + 11) + (headSpec ws rm).room.locals ≤ R.locals := hlocals
  have happ : (headSpec ws rm).appliesLoose y e.platform (U.calling g mk a) = true :=
    Spec.appliesLoose_calling (g := g) h hdg hn hkY hinitY
      (X.room_calling (g := g) (R' := (headSpec ws rm).room) hsize hmY hcY hframes (by rw [hlY]; omega) h4 h5) h1
  obtain ⟨mid, hmid⟩ := h.above
  have hfr : (U.setTop g).frames = (.java g :: mid) ++ below := by rw [State.frames_setTop' g h.top, hmid]; rfl
  obtain ⟨o, s₂, hsteps, -, hend, hq⟩ := Steps.callFree hM p X.admits X.cas X.clock (acts := []) hfr happ hPc trivial
  have hq' : vx_Q Qc XC mc ms free a (U.calling g mk a) o s₂ := hq
  rw [State.frames_setTop' g h.top] at hend
  obtain ⟨g₀, hg0⟩ := Option.isSome_iff_exists.mp h.top
  obtain ⟨r, hr⟩ := State.topJava?_eq_some.mp hg0
  have hr' : (({ U with heap := s₂.heap, slotsUsed := s₂.slotsUsed } : State).setVm s₂.vm).frames = .java g₀ :: r := hr
  rcases hq' with ⟨hqc, L, hfe, hL⟩ | ⟨q, rfl, E, ce, L, hx, hce, hcv, hcl, hW₂, hsm, hL⟩
  · obtain ⟨⟨v, rfl⟩, hW₂, e2, q2, q3, q4, q5, q6⟩ := id hfe
    have e3 : s₂ = ({ (U.calling g mk a).setFrames s₂.frames with heap := s₂.heap, slotsUsed := s₂.slotsUsed } : State).setVm s₂.vm := by
      have : s₂ = ({ s₂ with vm := (U.calling g mk a).vm } : State).setVm s₂.vm := rfl
      rw [e2] at this
      exact this
    obtain ⟨c₂, i₂, len₂, hc₂, hd₂, hf₂⟩ := hend
    have hW' : U.WarmedH s₂.vm := hW₂
    have hcc : c₂ = c := by
      have h1 : s₂.code? g.method = U.code? g.method := by
        rw [State.code?_eq, State.code?_eq, hW'.alike.method?]
      exact Option.some.inj (hc₂.symm.trans (h1.trans h.code))
    subst hcc
    have hlen : len₂ = len := by rw [hdg] at hd₂; cases hd₂; rfl
    subst hlen
    have hs₂ : s₂ = (({ U with heap := s₂.heap, slotsUsed := s₂.slotsUsed } : State).setVm s₂.vm).setTop { g with pc := g.pc + len₂, stack := v.toList ++ g.stack } := by
      refine e3.trans ?_
      rw [hf₂, State.calling_eq h.top, State.setFrames_setFrames, State.setTop_of_frames _ hr', hr]
      rfl
    have hsame : U.sameButNew ({ U with heap := s₂.heap, slotsUsed := s₂.slotsUsed } : State) L mc ms := by
      refine ⟨?_, q2, q3, q4, q5, q6⟩
      obtain ⟨t, ht, -⟩ := State.frames_cons hr
      show ({ U with heap := s₂.heap, slotsUsed := s₂.slotsUsed } : State) = { U.setFrames U.frames with heap := s₂.heap, slotsUsed := s₂.slotsUsed }
      rw [State.setFrames_self ht]
    subst hg
    refine Or.inl ⟨v, ⟨(({ U with heap := s₂.heap, slotsUsed := s₂.slotsUsed } : State).setVm s₂.vm), Ls ++ L, c0 + mc, s0 + ms⟩,
      ⟨X.admits, X.cas, X.clock, X.frames, X.room, X.hears, X.method, X.code, (X.here.setHeapUsed s₂.heap s₂.slotsUsed).setVm hW'.alike, X.tail, State.WarmedH.trans X.warmed hW', X.limits, X.bytes, X.same.trans (hsame.setVm s.vm)⟩,
      ⟨g, mk, s₂, L, rfl, rfl, hqc, rfl, hL, rfl, rfl⟩, ?_⟩
    show Steps p.tables e below _ ((({ U with heap := s₂.heap, slotsUsed := s₂.slotsUsed } : State).setVm s₂.vm).setTop { g with pc := g.pc + len₂, stack := v.toList ++ g.stack })
    rw [← hs₂]
    exact hsteps
  · obtain ⟨e2, q2, q3, q4, q5, q6⟩ := id hsm
    have e3 : s₂ = ({ (U.calling g mk a).setFrames s₂.frames with heap := s₂.heap, slotsUsed := s₂.slotsUsed } : State).setVm s₂.vm := by
      have : s₂ = ({ s₂ with vm := (U.calling g mk a).vm } : State).setVm s₂.vm := rfl
      rw [e2] at this
      exact this
    have hf₂ : s₂.frames = .throwing q :: .java g :: U.frames.tail := hend
    have hW' : U.WarmedH s₂.vm := hW₂
    have hs₂ : s₂ = ((({ U with heap := s₂.heap, slotsUsed := s₂.slotsUsed } : State).setVm s₂.vm).setTop g).pushFrame (.throwing q) := by
      refine e3.trans ?_
      rw [hf₂, State.calling_eq h.top, State.setFrames_setFrames, State.pushFrame, State.frames_setTop _ hr', State.setTop_of_frames _ hr', State.setFrames_setFrames, hr]
      rfl
    have hsame : U.sameButNew ({ U with heap := s₂.heap, slotsUsed := s₂.slotsUsed } : State) L mc ms := by
      refine ⟨?_, q2, q3, q4, q5, q6⟩
      obtain ⟨t, ht, -⟩ := State.frames_cons hr
      show ({ U with heap := s₂.heap, slotsUsed := s₂.slotsUsed } : State) = { U.setFrames U.frames with heap := s₂.heap, slotsUsed := s₂.slotsUsed }
      rw [State.setFrames_self ht]
    subst hg
    refine Or.inr ⟨q, ⟨(({ U with heap := s₂.heap, slotsUsed := s₂.slotsUsed } : State).setVm s₂.vm), Ls ++ L, c0 + mc, s0 + ms⟩,
      ⟨X.admits, X.cas, X.clock, X.frames, X.room, X.hears, X.method, X.code, (X.here.setHeapUsed s₂.heap s₂.slotsUsed).setVm hW'.alike, X.tail, State.WarmedH.trans X.warmed hW', X.limits, X.bytes, X.same.trans (hsame.setVm s.vm)⟩,
      ⟨g, mk, s₂, L, E, ce, rfl, rfl, hx, hce, hcv, hcl, rfl, hL, rfl, rfl⟩, ?_⟩
    show Steps p.tables e below _ (((({ U with heap := s₂.heap, slotsUsed := s₂.slotsUsed } : State).setVm s₂.vm).setTop g).pushFrame (.throwing q))
    rw [← hs₂]
    exact hsteps
end
variable {p : Program} {l : Launch} {e : Env} {R : Room} {s : State} {m : MethodId} {args : Array Value} {below : List Frame} {meth : Method} {c : Code} {T : State} {H : Heap} {locs : List Loc} {cells slots : Nat}
theorem vx_callVX (X : Stand p l e R s m args below meth c T locs cells slots) (hexec : p.tables.exec = Jvm.exec) {own C : String} {index : Nat} {y : MethodName} {bytes : ByteArray} {maxL : Nat} {ret : Option FieldType} {hh : List (Nat × Nat × Nat × Nat)}
    (hown : s.vm.findClass own = some m.cls) (hlink : (Cond.methodLink own index y).before args s = true) (hinst : (Cond.instanceMethod y).before args s = true) (hsel : (Cond.selects C y y).before args s = true)
    (hcode : (Cond.codeWith y bytes maxL ret hh).before args s = true) (hy : y.cls ≠ "java/lang/invoke/MethodHandle" ∧ y.cls ≠ "java/lang/invoke/VarHandle")
    {W9 : Nat} {Pre : Pt → Array Value → Prop} {Post : Pt → Array Value → Option Value → Pt → Prop} {PostX : Pt → Array Value → Addr → Pt → Prop} (hK : vx_Back l R p e below s args y 3 W9 Pre Post PostX)
    {b : Addr} {cellB : Cell} (hcell : T.heap[b]? = some cellB) (hobj : cellB.vm.isStatics = false) (hcls : s.vm.findClass C = some cellB.cls)
    {g : JFrame} (hg : g.method = m) (hsize : g.locals.size = c.maxLocals) {argsL rest : List Value} (hlen : ∀ sig, parseMethodDescriptor y.desc = some sig → argsL.length = sig.parameters.length)
    (hstack : g.stack = argsL.reverse ++ .ref b :: rest) (hW : 2 * g.monitorRoom + (rest.map fun v => v.category).sum ≤ W9) (hdg : decode c.code g.pc = .ok (.invokevirtual index, 3))
    (hpre : ∀ vm₁, s.WarmedH vm₁ → Pre ⟨T.setVm vm₁, locs, cells, slots⟩ (Value.ref b :: argsL).toArray) :
    (∃ (v : Option Value) (vm₁ : Vm) (B : Pt), s.WarmedH vm₁ ∧ Stand p l e R s m args below meth c B.U B.locs B.cells B.slots ∧ Post ⟨T.setVm vm₁, locs, cells, slots⟩ (Value.ref b :: argsL).toArray v B ∧
      ∀ target, Steps p.tables e below (B.U.setTop { g with pc := g.pc + 3, stack := v.toList ++ rest }) target → Steps p.tables e below (T.setTop g) target) ∨
    (∃ (q : Addr) (vm₁ : Vm) (B : Pt), s.WarmedH vm₁ ∧ Stand p l e R s m args below meth c B.U B.locs B.cells B.slots ∧ PostX ⟨T.setVm vm₁, locs, cells, slots⟩ (Value.ref b :: argsL).toArray q B ∧
      Steps p.tables e below (T.setTop g) ((B.U.setTop { g with stack := rest }).pushFrame (.throwing q))) := by
  obtain ⟨mk, methM, hnamed, hmethM, hstM, habM⟩ := Cond.instanceMethod_spec hinst
  obtain ⟨m8, methM', cM, hn8, hmethM', -, -, -, -, -, -, hsigM⟩ := Cond.codeWith_spec hcode
  cases Option.some.inj (hn8.symm.trans hnamed)
  cases hmethM.symm.trans hmethM'
  obtain ⟨c2, r2, m2, q1, q2, q3, q4, kP, hkP, hkPi⟩ := Cond.selects_spec hsel
  cases hcls.symm.trans q1
  cases (State.methodFound?_of_named hnamed hy).symm.trans q2
  cases hnamed.symm.trans q3
  have hselP : selectMethod e.platform s.vm cellB.cls mk = .method mk := by rw [Launch.admits_selectMethod X.admits]; exact q4
  obtain ⟨vm₁, X₁, hstep₁⟩ := X.invokevirtual hexec hown hlink hnamed hmethM hstM hkP hkPi hy (a := b) (cell := cellB) hcell
    (fun z h => by rw [h] at hobj; cases hobj) hselP hmethM habM hkP hkPi (g := g) hg (argsL := argsL) (rest := rest) (hlen _ hsigM) hstack hdg
  rcases hK m meth c ⟨T.setVm vm₁, locs, cells, slots⟩ { g with stack := rest } (.invokevirtual index) mk (Value.ref b :: argsL).toArray X₁ hg hsize hdg hW (X₁.named hnamed) (hpre vm₁ X₁.warmed) with ⟨v, B, X', hpost, hsteps⟩ | ⟨q, B, X', hpost, hsteps⟩
  · exact Or.inl ⟨v, vm₁, B, X₁.warmed, X', hpost, fun target h => hstep₁ _ fun acts => by rw [doInvoke_state]; exact hsteps.trans h⟩
  · exact Or.inr ⟨q, vm₁, B, X₁.warmed, X', hpost, hstep₁ _ fun acts => by rw [doInvoke_state]; exact hsteps⟩
theorem vx_callSX (X : Stand p l e R s m args below meth c T locs cells slots) (hexec : p.tables.exec = Jvm.exec) {own : String} {index : Nat} {y : MethodName} {bytes : ByteArray} {maxL : Nat} {ret : Option FieldType} {hh : List (Nat × Nat × Nat × Nat)}
    (hown : s.vm.findClass own = some m.cls) (hlink : (Cond.methodLink own index y).before args s = true) (hstat : (Cond.static y).before args s = true) (hinit : (Cond.initialized y.cls).before args s = true)
    (hcode : (Cond.codeWith y bytes maxL ret hh).before args s = true) (hy : y.cls ≠ "java/lang/invoke/MethodHandle" ∧ y.cls ≠ "java/lang/invoke/VarHandle")
    {W9 : Nat} {Pre : Pt → Array Value → Prop} {Post : Pt → Array Value → Option Value → Pt → Prop} {PostX : Pt → Array Value → Addr → Pt → Prop} (hK : vx_Back l R p e below s args y 3 W9 Pre Post PostX)
    {g : JFrame} (hg : g.method = m) (hsize : g.locals.size = c.maxLocals) {argsL rest : List Value} (hlen : ∀ sig, parseMethodDescriptor y.desc = some sig → argsL.length = sig.parameters.length)
    (hstack : g.stack = argsL.reverse ++ rest) (hW : 2 * g.monitorRoom + (rest.map fun v => v.category).sum ≤ W9) (hdg : decode c.code g.pc = .ok (.invokestatic index, 3))
    (hpre : ∀ vm₁, s.WarmedH vm₁ → Pre ⟨T.setVm vm₁, locs, cells, slots⟩ argsL.toArray) :
    (∃ (v : Option Value) (vm₁ : Vm) (B : Pt), s.WarmedH vm₁ ∧ Stand p l e R s m args below meth c B.U B.locs B.cells B.slots ∧ Post ⟨T.setVm vm₁, locs, cells, slots⟩ argsL.toArray v B ∧
      ∀ target, Steps p.tables e below (B.U.setTop { g with pc := g.pc + 3, stack := v.toList ++ rest }) target → Steps p.tables e below (T.setTop g) target) ∨
    (∃ (q : Addr) (vm₁ : Vm) (B : Pt), s.WarmedH vm₁ ∧ Stand p l e R s m args below meth c B.U B.locs B.cells B.slots ∧ PostX ⟨T.setVm vm₁, locs, cells, slots⟩ argsL.toArray q B ∧
      Steps p.tables e below (T.setTop g) ((B.U.setTop { g with stack := rest }).pushFrame (.throwing q))) := by
  obtain ⟨mk, methM, cM, hnamed, hmethM, -, -, -, -, -, -, hsigM⟩ := Cond.codeWith_spec hcode
  have hstatic : methM.isStatic = true := Cond.static_spec hnamed hmethM hstat
  obtain ⟨kP, hkP, -⟩ := className_of_methodNamed hnamed
  have hinitP : kP.init = .initialized := Cond.initialized_spec (findClass_of_methodNamed hnamed) hkP hinit
  obtain ⟨vm₁, X₁, hstep₁⟩ := X.invokestatic hexec hown hlink hnamed hmethM hstatic hkP hinitP hy (g := g) hg (argsL := argsL) (rest := rest) (hlen _ hsigM) hstack hdg
  rcases hK m meth c ⟨T.setVm vm₁, locs, cells, slots⟩ { g with stack := rest } (.invokestatic index) mk argsL.toArray X₁ hg hsize hdg hW (X₁.named hnamed) (hpre vm₁ X₁.warmed) with ⟨v, B, X', hpost, hsteps⟩ | ⟨q, B, X', hpost, hsteps⟩
  · exact Or.inl ⟨v, vm₁, B, X₁.warmed, X', hpost, fun target h => hstep₁ _ fun acts => by rw [doInvoke_state]; exact hsteps.trans h⟩
  · exact Or.inr ⟨q, vm₁, B, X₁.warmed, X', hpost, hstep₁ _ fun acts => by rw [doInvoke_state]; exact hsteps⟩
theorem vx_callVW (X : Stand p l e R s m args below meth c T locs cells slots) (hexec : p.tables.exec = Jvm.exec) {own C : String} {index : Nat} {y : MethodName} {bytes : ByteArray} {maxL : Nat} {ret : Option FieldType} {hh : List (Nat × Nat × Nat × Nat)}
    (hown : s.vm.findClass own = some m.cls) (hlink : (Cond.methodLink own index y).before args s = true) (hinst : (Cond.instanceMethod y).before args s = true) (hsel : (Cond.selects C y y).before args s = true)
    (hcode : (Cond.codeWith y bytes maxL ret hh).before args s = true) (hy : y.cls ≠ "java/lang/invoke/MethodHandle" ∧ y.cls ≠ "java/lang/invoke/VarHandle")
    {W9 : Nat} {Pre : Pt → Array Value → Prop} {Post : Pt → Array Value → Option Value → Pt → Prop} (hK : Back l R p e below s args y 3 W9 Pre Post)
    {b : Addr} {cellB : Cell} (hcell : T.heap[b]? = some cellB) (hobj : cellB.vm.isStatics = false) (hcls : s.vm.findClass C = some cellB.cls)
    {g : JFrame} (hg : g.method = m) (hsize : g.locals.size = c.maxLocals) {argsL rest : List Value} (hlen : ∀ sig, parseMethodDescriptor y.desc = some sig → argsL.length = sig.parameters.length)
    (hstack : g.stack = argsL.reverse ++ .ref b :: rest) (hW : 2 * g.monitorRoom + (rest.map fun v => v.category).sum ≤ W9) (hdg : decode c.code g.pc = .ok (.invokevirtual index, 3))
    (hpre : ∀ vm₁, s.WarmedH vm₁ → Pre ⟨T.setVm vm₁, locs, cells, slots⟩ (Value.ref b :: argsL).toArray) :
    ∃ (v : Option Value) (vm₁ : Vm) (B : Pt), s.WarmedH vm₁ ∧ Stand p l e R s m args below meth c B.U B.locs B.cells B.slots ∧ Post ⟨T.setVm vm₁, locs, cells, slots⟩ (Value.ref b :: argsL).toArray v B ∧
      ∀ target, Steps p.tables e below (B.U.setTop { g with pc := g.pc + 3, stack := v.toList ++ rest }) target → Steps p.tables e below (T.setTop g) target := by
  obtain ⟨mk, methM, hnamed, hmethM, hstM, habM⟩ := Cond.instanceMethod_spec hinst
  obtain ⟨m8, methM', cM, hn8, hmethM', -, -, -, -, -, -, hsigM⟩ := Cond.codeWith_spec hcode
  cases Option.some.inj (hn8.symm.trans hnamed)
  cases hmethM.symm.trans hmethM'
  obtain ⟨c2, r2, m2, q1, q2, q3, q4, kP, hkP, hkPi⟩ := Cond.selects_spec hsel
  cases hcls.symm.trans q1
  cases (State.methodFound?_of_named hnamed hy).symm.trans q2
  cases hnamed.symm.trans q3
  have hselP : selectMethod e.platform s.vm cellB.cls mk = .method mk := by rw [Launch.admits_selectMethod X.admits]; exact q4
  obtain ⟨vm₁, X₁, hstep₁⟩ := X.invokevirtual hexec hown hlink hnamed hmethM hstM hkP hkPi hy (a := b) (cell := cellB) hcell
    (fun z h => by rw [h] at hobj; cases hobj) hselP hmethM habM hkP hkPi (g := g) hg (argsL := argsL) (rest := rest) (hlen _ hsigM) hstack hdg
  obtain ⟨v, B, X', hpost, hsteps⟩ := hK m meth c ⟨T.setVm vm₁, locs, cells, slots⟩ { g with stack := rest } (.invokevirtual index) mk (Value.ref b :: argsL).toArray X₁ hg hsize hdg hW (X₁.named hnamed) (hpre vm₁ X₁.warmed)
  exact ⟨v, vm₁, B, X₁.warmed, X', hpost, fun target h => hstep₁ _ fun acts => by rw [doInvoke_state]; exact hsteps.trans h⟩
abbrev vx_CVW (R : Room) (s : State) (args : Array Value) (own C : String) (index : Nat) (y : MethodName) (bytes : ByteArray) (maxL : Nat) (ret : Option FieldType) (hh : List (Nat × Nat × Nat × Nat)) (ws : List Cond) (rm : Room) (mc ms n : Nat) : Prop :=
  (rm.cells = mc ∧ rm.slots = ms ∧ rm.frames + 1 ≤ R.frames ∧ 8 + (maxL + 11) + rm.locals ≤ R.locals ∧ (∀ w ∈ ws, ∀ (a' : Array Value) (U : State), s.WarmedH U.vm → w.before a' U = true) ∧ Cond.codeWith y bytes maxL ret hh ∈ ws) ∧
  (Cond.codeWith y bytes maxL ret hh).before args s = true ∧ (Cond.initialized y.cls).before args s = true ∧ (y.cls ≠ "java/lang/invoke/MethodHandle" ∧ y.cls ≠ "java/lang/invoke/VarHandle") ∧
  (∀ sig, parseMethodDescriptor y.desc = some sig → n = sig.parameters.length) ∧ (Cond.methodLink own index y).before args s = true ∧ (Cond.instanceMethod y).before args s = true ∧ (Cond.selects C y y).before args s = true
theorem vx_cwVW {own C : String} {index maxL mc ms : Nat} {y : MethodName} {bytes : ByteArray} {ret : Option FieldType} {hh : List (Nat × Nat × Nat × Nat)} {Ts ws ws' : List Cond} {rm : Room} (n : Nat) (ht : ∀ w ∈ Ts, w.before args s = true) (hT : GoodIn Ts (wsV own index C y ws)) (hw : ws = Cond.codeWith y bytes maxL ret hh :: ws') (hrc : rm.cells = mc) (hrs : rm.slots = ms)
    (hd : y.cls = C ∧ y.cls ≠ "java/lang/invoke/MethodHandle" ∧ y.cls ≠ "java/lang/invoke/VarHandle" ∧ (parseMethodDescriptor y.desc).map (fun d => d.parameters.length) = some n) (hR : rm.frames + 1 ≤ R.frames ∧ 8 + (maxL + 11) + rm.locals ≤ R.locals) :
    vx_CVW R s args own C index y bytes maxL ret hh ws rm mc ms n := by
  obtain ⟨hC, hd⟩ := hd
  subst hC
  have ok : ∀ w ∈ wsV own index y.cls y ws, w.before args s = true := fun w h => ht w (hT w h).1
  have hG : GoodIn Ts ws := fun w h => hT w (by unfold wsV; exact List.mem_append_right _ h)
  have hc : Cond.codeWith y bytes maxL ret hh ∈ ws := by rw [hw]; exact List.mem_cons_self
  refine ⟨⟨hrc, hrs, hR.1, hR.2, pay_in ht hG, hc⟩, ht _ (hG _ hc).1, ok _ (by simp [wsV]), ⟨hd.1, hd.2.1⟩, fun sig h => ?_, ok _ (by simp [wsV]), ok _ (by simp [wsV]), ok _ (by simp [wsV])⟩
  have h2 := hd.2.2
  rw [h] at h2
  exact (Option.some.inj h2).symm
theorem vx_runVW {y : MethodName} {bytes cc : ByteArray} {maxL nL mc ms n index : Nat} {ret : Option FieldType} {hh : List (Nat × Nat × Nat × Nat)} {ws : List Cond} {rm : Room} {Pc : Array Value → State → Prop} {Qc : Array Value → State → Outcome → State → Prop} {free : Addr → Prop} {Ts : List Cond} {own C : String} {b : Addr} {As rest : List Value} {g : JFrame}
    (S : CallFix p m c cc nL s args Ts own) (hM : Met l y ws rm Pc Qc mc ms free) (cw : vx_CVW R s args own C index y bytes maxL ret hh ws rm mc ms n) (hp : PreV s H C b Pc As)
    (hg : g.method = m) (hn : As.length = n) (hsize : g.locals.size = nL) (hstack : g.stack = As.reverse ++ .ref b :: rest) (hW : 2 * g.monitorRoom + (rest.map fun v => v.category).sum ≤ 8) (hdg : decode cc g.pc = .ok (.invokevirtual index, 3)) (hf : cells + mc ≤ R.cells ∧ slots + ms ≤ R.slots) :
    va_Run p l e R s m args below meth c H locs cells slots mc ms g rest (Qc (Value.ref b :: As).toArray) free := by
  obtain ⟨⟨hrc, hrs, hfr, hlo, hws, hcw⟩, hcode, hini, hy, hlen, hl, hin, hse⟩ := cw
  have hK : Back l R p e below s args y 3 8 (PreOf R mc ms Pc) (PostOf Qc mc ms free) := va_backW (hh := hh) (bytes := bytes) (maxL := maxL) (ret := ret) hM hp.1 hrc hrs hfr hlo hws hcw (fun a' U hW => word_at hW (Or.inl (by first | rfl | simp [Cond.onTables, Cond.keeps, Cond.steady])) hini)
  obtain ⟨hx, hb, hml, ho, -⟩ := S
  obtain ⟨-, ⟨cellB, hcB, hoB, hclB⟩, hPc⟩ := hp
  intro T hT X
  obtain ⟨v, vm₁, ⟨U', l2, c2, s2⟩, hW₁, X', ⟨g', mk, t, L, e1, e2, hq, h1, hL, h2, h3⟩, st⟩ := vx_callVW X hx (C := C) (hh := hh) (bytes := bytes) (maxL := maxL) (ret := ret) ho hl hin hse hcode hy hK (by rw [hT]; exact hcB) hoB hclB hg (hsize.trans hml.symm) (argsL := As) (rest := rest) (fun sig h => hn.trans (hlen sig h)) hstack hW (by rw [hb]; exact hdg)
    (fun vm₁ hW₁ => ⟨hf.1, hf.2, hPc (T.setVm vm₁) hT hW₁⟩)
  dsimp only [Pt.U, Pt.locs, Pt.cells, Pt.slots] at X' e1 e2 h1 h2 h3 st
  subst h1; subst h2; subst h3
  exact ⟨v, (T.setVm vm₁).calling g' mk (Value.ref b :: As).toArray, t, U', L, hT, X', hL, e1, e2, hq, st⟩
section
variable {y : MethodName} {bytes cc : ByteArray} {maxL nL mc ms n index : Nat} {ret : Option FieldType} {ws : List Cond} {rm : Room} {Pc : Array Value → State → Prop} {Qc : Array Value → State → Outcome → State → Prop} {XC : String → State → State → Prop} {free : Addr → Prop} {Ts : List Cond} {own C : String} {b : Addr} {As rest : List Value} {g : JFrame}
theorem vx_runVX {hh : List (Nat × Nat × Nat × Nat)} (S : CallFix p m c cc nL s args Ts own) (hM : vx_Met l y ws rm Pc Qc XC mc ms free) (cw : vx_CVW R s args own C index y bytes maxL ret hh ws rm mc ms n) (hp : PreV s H C b Pc As)
    (hg : g.method = m) (hn : As.length = n) (hsize : g.locals.size = nL) (hstack : g.stack = As.reverse ++ .ref b :: rest) (hW : 2 * g.monitorRoom + (rest.map fun v => v.category).sum ≤ 8) (hdg : decode cc g.pc = .ok (.invokevirtual index, 3)) (hf : cells + mc ≤ R.cells ∧ slots + ms ≤ R.slots) :
    vx_Run p l e R s m args below meth c H locs cells slots mc ms g rest (Qc (Value.ref b :: As).toArray) XC free := by
  obtain ⟨⟨hrc, hrs, hfr, hlo, hws, hcw⟩, hcode, hini, hy, hlen, hl, hin, hse⟩ := cw
  have hK : vx_Back l R p e below s args y 3 8 (PreOf R mc ms Pc) (PostOf Qc mc ms free) (vx_Post XC mc ms free) := vx_backW (hh := hh) (bytes := bytes) (maxL := maxL) (ret := ret) hM hp.1 hrc hrs hfr hlo hws hcw (fun a' U hW => word_at hW (Or.inl (by first | rfl | simp [Cond.onTables, Cond.keeps, Cond.steady])) hini)
  obtain ⟨hx, hb, hml, ho, -⟩ := S
  obtain ⟨-, ⟨cellB, hcB, hoB, hclB⟩, hPc⟩ := hp
  intro T hT X
  rcases vx_callVX X hx (C := C) (hh := hh) (bytes := bytes) (maxL := maxL) (ret := ret) ho hl hin hse hcode hy hK (by rw [hT]; exact hcB) hoB hclB hg (hsize.trans hml.symm) (argsL := As) (rest := rest) (fun sig h => hn.trans (hlen sig h)) hstack hW (by rw [hb]; exact hdg)
    (fun vm₁ hW₁ => ⟨hf.1, hf.2, hPc (T.setVm vm₁) hT hW₁⟩) with ⟨v, vm₁, ⟨U', l2, c2, s2⟩, hW₁, X', ⟨g', mk, t, L, e1, e2, hq, h1, hL, h2, h3⟩, st⟩ | ⟨q, vm₁, ⟨U', l2, c2, s2⟩, hW₁, X', ⟨g', mk, t, L, E, ce, e1, e2, hq, hce, hcv, hcl, h1, hL, h2, h3⟩, st⟩
  · dsimp only [Pt.U, Pt.locs, Pt.cells, Pt.slots] at X' e1 e2 h1 h2 h3 st
    subst h1; subst h2; subst h3
    exact Or.inl ⟨v, (T.setVm vm₁).calling g' mk (Value.ref b :: As).toArray, t, U', L, hT, X', hL, e1, e2, hq, st⟩
  · dsimp only [Pt.U, Pt.locs, Pt.cells, Pt.slots] at X' e1 e2 h1 h2 h3 st hcl
    subst h1; subst h2; subst h3
    exact Or.inr ⟨q, (T.setVm vm₁).calling g' mk (Value.ref b :: As).toArray, t, U', L, E, ce, hT, X', hL, e1, e2, hq, hce, hcv, vx_cls hW₁ hcl, st⟩
theorem vx_runSX {hh : List (Nat × Nat × Nat × Nat)} (S : CallFix p m c cc nL s args Ts own) (hM : vx_Met l y ws rm Pc Qc XC mc ms free) (cw : vx_CSW R s args own index y bytes maxL ret hh ws rm mc ms n) (hp : PreS s H Pc As)
    (hg : g.method = m) (hn : As.length = n) (hsize : g.locals.size = nL) (hstack : g.stack = As.reverse ++ rest) (hW : 2 * g.monitorRoom + (rest.map fun v => v.category).sum ≤ 8) (hdg : decode cc g.pc = .ok (.invokestatic index, 3)) (hf : cells + mc ≤ R.cells ∧ slots + ms ≤ R.slots) :
    vx_Run p l e R s m args below meth c H locs cells slots mc ms g rest (Qc As.toArray) XC free := by
  obtain ⟨⟨hrc, hrs, hfr, hlo, hws, hcw⟩, hcode, hini, hy, hlen, hl, hstt⟩ := cw
  have hK : vx_Back l R p e below s args y 3 8 (PreOf R mc ms Pc) (PostOf Qc mc ms free) (vx_Post XC mc ms free) := vx_backW (hh := hh) (bytes := bytes) (maxL := maxL) (ret := ret) hM hp.1 hrc hrs hfr hlo hws hcw (fun a' U hW => word_at hW (Or.inl (by first | rfl | simp [Cond.onTables, Cond.keeps, Cond.steady])) hini)
  obtain ⟨hx, hb, hml, ho, -⟩ := S
  intro T hT X
  rcases vx_callSX X hx (hh := hh) (bytes := bytes) (maxL := maxL) (ret := ret) ho hl hstt hini hcode hy hK hg (hsize.trans hml.symm) (argsL := As) (rest := rest) (fun sig h => hn.trans (hlen sig h)) hstack hW (by rw [hb]; exact hdg)
    (fun vm₁ hW₁ => ⟨hf.1, hf.2, hp.2 (T.setVm vm₁) hT hW₁⟩) with ⟨v, vm₁, ⟨U', l2, c2, s2⟩, hW₁, X', ⟨g', mk, t, L, e1, e2, hq, h1, hL, h2, h3⟩, st⟩ | ⟨q, vm₁, ⟨U', l2, c2, s2⟩, hW₁, X', ⟨g', mk, t, L, E, ce, e1, e2, hq, hce, hcv, hcl, h1, hL, h2, h3⟩, st⟩
  · dsimp only [Pt.U, Pt.locs, Pt.cells, Pt.slots] at X' e1 e2 h1 h2 h3 st
    subst h1; subst h2; subst h3
    exact Or.inl ⟨v, (T.setVm vm₁).calling g' mk As.toArray, t, U', L, hT, X', hL, e1, e2, hq, st⟩
  · dsimp only [Pt.U, Pt.locs, Pt.cells, Pt.slots] at X' e1 e2 h1 h2 h3 st hcl
    subst h1; subst h2; subst h3
    exact Or.inr ⟨q, (T.setVm vm₁).calling g' mk As.toArray, t, U', L, E, ce, hT, X', hL, e1, e2, hq, hce, hcv, vx_cls hW₁ hcl, st⟩
end
end VXH
theorem vx_ofWH {l : Launch} {y : MethodName} {ws ws' : List Cond} {rm : Room} {Pc : Array Value → State → Prop} {Qc : Array Value → State → Outcome → State → Prop} {XC : String → State → State → Prop} {mc ms : Nat} {free : Addr → Prop} {cc : ByteArray} {maxL : Nat} {ret : Option FieldType} {hh : List (Nat × Nat × Nat × Nat)}
    (hy : plainName y.cls = true) (hw : ws = Cond.codeWith y cc maxL ret hh :: ws')
    (body : ∀ p e s m args below meth c s₁, BodyLoose p l y (headSpec ws rm) cc maxL ret e s m args below meth c s₁ → c.maxLocals = maxL → Pc args s →
      W p l e (headSpec ws rm).room s m args below meth c s.heap [] 0 0 (vx_MQ below Qc XC args s mc ms free) (entryFrame m args maxL)) : vx_Met l y ws rm Pc Qc XC mc ms free := by
  refine MetFree.of_bodyS (code := cc) (maxLocals := maxL) (ret := ret) hy ?_ ?_
  · intro args s m h hn
    obtain ⟨m9, meth, c, hn9, h1, h2, h3, h4, -, h5, h6, -⟩ := Cond.codeWith_spec (atoms_spec (ws := ws) h _ (by rw [hw]; exact List.mem_cons_self))
    cases hn.symm.trans hn9
    exact ⟨meth, c, h1, h2, h3, h4, h5, h6⟩
  · intro p e s m args below meth c s₁ B hml hP _
    have hh0 : s₁.heap = s.heap := by rw [B.state]; rfl
    obtain ⟨t, a1, o, b1, b2, b3⟩ := body p e s m args below meth c s₁ B hml hP s₁ hh0 (Stand.of_body B)
    exact ⟨t, o, a1, b1, b2, b3⟩
/-! ===== END ===== -/
end
section
/-! ===== BEGIN printed: names, fields, word lists, decode rows ===== -/
def RX0 : String := "PamphletQuarrel$Buffer"
def TX0 : u_T := fun k => match k with
  | 0 => ("PamphletQuarrel$Buffer", "codes", "LPamphletQuarrel$Row;", true)
  | _ => ("PamphletQuarrel$Buffer", "length", "I", false)
def tyX0 : Nat → FieldType := fun k => match k with
  | 0 => .object "PamphletQuarrel$Row"
  | _ => .int
abbrev wsX00 : List Cond := u_ws RX0 TX0 2
theorem nmX0 : ∀ a, a < 2 → ∀ b, b < 2 → a ≠ b → (TX0 a).2.1 ≠ (TX0 b).2.1 := by decide +kernel
theorem tyX0_ok : ∀ k, k < 2 → parseFieldDescriptor (TX0 k).2.2.1 = some (tyX0 k) := by decide +kernel
abbrev cX0_init : ByteArray := prog_2_method_1_code
def yX0_init : MethodName := ⟨RX0, "<init>", "()V"⟩
abbrev cX0_add : ByteArray := prog_2_method_2_code
def yX0_add : MethodName := ⟨RX0, "add", "(I)V"⟩
def RX1 : String := "PamphletQuarrel$Glossary"
def TX1 : u_T := fun k => match k with
  | 0 => ("PamphletQuarrel$Glossary", "entries", "LPamphletQuarrel$Row;", true)
  | 1 => ("PamphletQuarrel$Glossary", "times", "LPamphletQuarrel$Row;", true)
  | _ => ("PamphletQuarrel$Glossary", "size", "I", false)
def tyX1 : Nat → FieldType := fun k => match k with
  | 0 => .object "PamphletQuarrel$Row"
  | 1 => .object "PamphletQuarrel$Row"
  | _ => .int
abbrev wsX10 : List Cond := u_ws RX1 TX1 3
theorem nmX1 : ∀ a, a < 3 → ∀ b, b < 3 → a ≠ b → (TX1 a).2.1 ≠ (TX1 b).2.1 := by decide +kernel
theorem tyX1_ok : ∀ k, k < 3 → parseFieldDescriptor (TX1 k).2.2.1 = some (tyX1 k) := by decide +kernel
abbrev cX1_init : ByteArray := prog_3_method_1_code
def yX1_init : MethodName := ⟨RX1, "<init>", "()V"⟩
abbrev cX1_gather : ByteArray := prog_3_method_2_code
def yX1_gather : MethodName := ⟨RX1, "gather", "(LPamphletQuarrel$State;)V"⟩
abbrev cX1_count : ByteArray := prog_3_method_3_code
def yX1_count : MethodName := ⟨RX1, "count", "(J)V"⟩
abbrev cX1_moveForward : ByteArray := prog_3_method_4_code
def yX1_moveForward : MethodName := ⟨RX1, "moveForward", "(I)V"⟩
abbrev cX1_isBefore : ByteArray := prog_3_method_5_code
def yX1_isBefore : MethodName := ⟨RX1, "isBefore", "(JII)Z"⟩
def RX2 : String := "PamphletQuarrel$History"
def TX2 : u_T := fun k => match k with
  | 0 => ("PamphletQuarrel$History", "saved", "[LPamphletQuarrel$State;", true)
  | 1 => ("PamphletQuarrel$History", "snapshot", "LPamphletQuarrel$State;", true)
  | 2 => ("PamphletQuarrel$History", "hasSnapshot", "Z", false)
  | 3 => ("PamphletQuarrel$History", "oldest", "I", false)
  | _ => ("PamphletQuarrel$History", "size", "I", false)
def tyX2 : Nat → FieldType := fun k => match k with
  | 0 => .array (.object "PamphletQuarrel$State")
  | 1 => .object "PamphletQuarrel$State"
  | 2 => .boolean
  | 3 => .int
  | _ => .int
abbrev wsX20 : List Cond := u_ws RX2 TX2 5
theorem nmX2 : ∀ a, a < 5 → ∀ b, b < 5 → a ≠ b → (TX2 a).2.1 ≠ (TX2 b).2.1 := by decide +kernel
theorem tyX2_ok : ∀ k, k < 5 → parseFieldDescriptor (TX2 k).2.2.1 = some (tyX2 k) := by decide +kernel
abbrev cX2_init : ByteArray := prog_4_method_1_code
def yX2_init : MethodName := ⟨RX2, "<init>", "()V"⟩
abbrev cX2_slot : ByteArray := prog_4_method_2_code
def yX2_slot : MethodName := ⟨RX2, "slot", "(I)LPamphletQuarrel$State;"⟩
abbrev cX2_save : ByteArray := prog_4_method_3_code
def yX2_save : MethodName := ⟨RX2, "save", "(LPamphletQuarrel$State;)V"⟩
abbrev cX2_takeBack : ByteArray := prog_4_method_4_code
def yX2_takeBack : MethodName := ⟨RX2, "takeBack", "(LPamphletQuarrel$State;)V"⟩
def RX3 : String := "PamphletQuarrel$Ladders"
def TX3 : u_T := fun k => match k with
  | _ => ("PamphletQuarrel$Ladders", "tallies", "LPamphletQuarrel$Row;", true)
def tyX3 : Nat → FieldType := fun k => match k with
  | _ => .object "PamphletQuarrel$Row"
abbrev wsX30 : List Cond := u_ws RX3 TX3 1
theorem nmX3 : ∀ a, a < 1 → ∀ b, b < 1 → a ≠ b → (TX3 a).2.1 ≠ (TX3 b).2.1 := by decide +kernel
theorem tyX3_ok : ∀ k, k < 1 → parseFieldDescriptor (TX3 k).2.2.1 = some (tyX3 k) := by decide +kernel
abbrev cX3_init : ByteArray := prog_5_method_1_code
def yX3_init : MethodName := ⟨RX3, "<init>", "()V"⟩
abbrev cX3_longest : ByteArray := prog_5_method_2_code
def yX3_longest : MethodName := ⟨RX3, "longest", "(LPamphletQuarrel$State;I)I"⟩
abbrev cX3_fromTheGround : ByteArray := prog_5_method_3_code
def yX3_fromTheGround : MethodName := ⟨RX3, "fromTheGround", "(LPamphletQuarrel$State;I)I"⟩
abbrev cX3_gatherReading : ByteArray := prog_5_method_4_code
def yX3_gatherReading : MethodName := ⟨RX3, "gatherReading", "(LPamphletQuarrel$State;I)I"⟩
abbrev cX3_markSources : ByteArray := prog_5_method_5_code
def yX3_markSources : MethodName := ⟨RX3, "markSources", "(LPamphletQuarrel$Pamphlet;)V"⟩
abbrev cX3_readIn : ByteArray := prog_5_method_6_code
def yX3_readIn : MethodName := ⟨RX3, "readIn", "(I)I"⟩
def RX4 : String := "PamphletQuarrel$Pamphlet"
def TX4 : u_T := fun k => match k with
  | 0 => ("PamphletQuarrel$Pamphlet", "words", "LPamphletQuarrel$Row;", true)
  | 1 => ("PamphletQuarrel$Pamphlet", "sources", "LPamphletQuarrel$Row;", true)
  | 2 => ("PamphletQuarrel$Pamphlet", "begins", "LPamphletQuarrel$Row;", true)
  | 3 => ("PamphletQuarrel$Pamphlet", "lengths", "LPamphletQuarrel$Row;", true)
  | 4 => ("PamphletQuarrel$Pamphlet", "author", "I", false)
  | 5 => ("PamphletQuarrel$Pamphlet", "printedOn", "I", false)
  | 6 => ("PamphletQuarrel$Pamphlet", "wordCount", "I", false)
  | _ => ("PamphletQuarrel$Pamphlet", "quotationCount", "I", false)
def tyX4 : Nat → FieldType := fun k => match k with
  | 0 => .object "PamphletQuarrel$Row"
  | 1 => .object "PamphletQuarrel$Row"
  | 2 => .object "PamphletQuarrel$Row"
  | 3 => .object "PamphletQuarrel$Row"
  | 4 => .int
  | 5 => .int
  | 6 => .int
  | _ => .int
abbrev wsX40 : List Cond := u_ws RX4 TX4 8
theorem nmX4 : ∀ a, a < 8 → ∀ b, b < 8 → a ≠ b → (TX4 a).2.1 ≠ (TX4 b).2.1 := by decide +kernel
theorem tyX4_ok : ∀ k, k < 8 → parseFieldDescriptor (TX4 k).2.2.1 = some (tyX4 k) := by decide +kernel
abbrev cX4_init : ByteArray := prog_6_method_1_code
def yX4_init : MethodName := ⟨RX4, "<init>", "()V"⟩
abbrev cX4_copy : ByteArray := prog_6_method_2_code
def yX4_copy : MethodName := ⟨RX4, "copy", "(LPamphletQuarrel$Pamphlet;)V"⟩
abbrev cX4_empty : ByteArray := prog_6_method_3_code
def yX4_empty : MethodName := ⟨RX4, "empty", "()V"⟩
abbrev cX4_addWord : ByteArray := prog_6_method_4_code
def yX4_addWord : MethodName := ⟨RX4, "addWord", "(J)V"⟩
abbrev cX4_addQuotation : ByteArray := prog_6_method_5_code
def yX4_addQuotation : MethodName := ⟨RX4, "addQuotation", "(II)V"⟩
abbrev cX4_pageCount : ByteArray := prog_6_method_6_code
def yX4_pageCount : MethodName := ⟨RX4, "pageCount", "()I"⟩
abbrev cX4_quotes : ByteArray := prog_6_method_7_code
def yX4_quotes : MethodName := ⟨RX4, "quotes", "(I)Z"⟩
abbrev cX4_isWithin : ByteArray := prog_6_method_8_code
def yX4_isWithin : MethodName := ⟨RX4, "isWithin", "(III)Z"⟩
abbrev cX4_quotationAround : ByteArray := prog_6_method_9_code
def yX4_quotationAround : MethodName := ⟨RX4, "quotationAround", "(II)I"⟩
abbrev cX4_growth : ByteArray := prog_6_method_10_code
def yX4_growth : MethodName := ⟨RX4, "growth", "(II)I"⟩
abbrev cX4_replace : ByteArray := prog_6_method_11_code
def yX4_replace : MethodName := ⟨RX4, "replace", "(ILPamphletQuarrel$Pamphlet;II)V"⟩
def RX5 : String := "PamphletQuarrel$Quotations"
def TX5 : u_T := fun k => match k with
  | 0 => ("PamphletQuarrel$Quotations", "search", "LPamphletQuarrel$Search;", true)
  | 1 => ("PamphletQuarrel$Quotations", "origin", "I", false)
  | _ => ("PamphletQuarrel$Quotations", "traced", "I", false)
def tyX5 : Nat → FieldType := fun k => match k with
  | 0 => .object "PamphletQuarrel$Search"
  | 1 => .int
  | _ => .int
abbrev wsX50 : List Cond := u_ws RX5 TX5 3
theorem nmX5 : ∀ a, a < 3 → ∀ b, b < 3 → a ≠ b → (TX5 a).2.1 ≠ (TX5 b).2.1 := by decide +kernel
theorem tyX5_ok : ∀ k, k < 3 → parseFieldDescriptor (TX5 k).2.2.1 = some (tyX5 k) := by decide +kernel
abbrev cX5_init : ByteArray := prog_7_method_1_code
def yX5_init : MethodName := ⟨RX5, "<init>", "()V"⟩
abbrev cX5_find : ByteArray := prog_7_method_2_code
def yX5_find : MethodName := ⟨RX5, "find", "(LPamphletQuarrel$State;II)I"⟩
abbrev cX5_findByPassages : ByteArray := prog_7_method_3_code
def yX5_findByPassages : MethodName := ⟨RX5, "findByPassages", "(LPamphletQuarrel$State;II)I"⟩
abbrev cX5_findAtOrigin : ByteArray := prog_7_method_4_code
def yX5_findAtOrigin : MethodName := ⟨RX5, "findAtOrigin", "(LPamphletQuarrel$State;II)I"⟩
abbrev cX5_parent : ByteArray := prog_7_method_5_code
def yX5_parent : MethodName := ⟨RX5, "parent", "(LPamphletQuarrel$State;II)I"⟩
abbrev cX5_trace : ByteArray := prog_7_method_6_code
def yX5_trace : MethodName := ⟨RX5, "trace", "(LPamphletQuarrel$State;II)V"⟩
abbrev cX5_children : ByteArray := prog_7_method_7_code
def yX5_children : MethodName := ⟨RX5, "children", "(LPamphletQuarrel$State;II)I"⟩
abbrev cX5_isRoomFor : ByteArray := prog_7_method_8_code
def yX5_isRoomFor : MethodName := ⟨RX5, "isRoomFor", "(LPamphletQuarrel$State;II)Z"⟩
abbrev cX5_putRight : ByteArray := prog_7_method_9_code
def yX5_putRight : MethodName := ⟨RX5, "putRight", "(LPamphletQuarrel$State;II)V"⟩
abbrev cX5_putAllRight : ByteArray := prog_7_method_10_code
def yX5_putAllRight : MethodName := ⟨RX5, "putAllRight", "(LPamphletQuarrel$State;I)I"⟩
abbrev cX5_changesWritten : ByteArray := prog_7_method_11_code
def yX5_changesWritten : MethodName := ⟨RX5, "changesWritten", "(LPamphletQuarrel$State;II)I"⟩
abbrev cX5_changesIn : ByteArray := prog_7_method_12_code
def yX5_changesIn : MethodName := ⟨RX5, "changesIn", "(LPamphletQuarrel$State;II)I"⟩
abbrev cX5_changesSuffered : ByteArray := prog_7_method_13_code
def yX5_changesSuffered : MethodName := ⟨RX5, "changesSuffered", "(LPamphletQuarrel$State;I)I"⟩
abbrev cX5_faithfulIn : ByteArray := prog_7_method_14_code
def yX5_faithfulIn : MethodName := ⟨RX5, "faithfulIn", "(LPamphletQuarrel$State;I)I"⟩
def RX6 : String := "PamphletQuarrel$Reader"
def TX6 : u_T := fun k => match k with
  | 0 => ("PamphletQuarrel$Reader", "text", "LPamphletQuarrel$Pamphlet;", true)
  | 1 => ("PamphletQuarrel$Reader", "position", "I", false)
  | 2 => ("PamphletQuarrel$Reader", "place", "I", false)
  | 3 => ("PamphletQuarrel$Reader", "letters", "I", false)
  | _ => ("PamphletQuarrel$Reader", "begin", "I", false)
def tyX6 : Nat → FieldType := fun k => match k with
  | 0 => .object "PamphletQuarrel$Pamphlet"
  | 1 => .int
  | 2 => .int
  | 3 => .int
  | _ => .int
abbrev wsX60 : List Cond := u_ws RX6 TX6 5
theorem nmX6 : ∀ a, a < 5 → ∀ b, b < 5 → a ≠ b → (TX6 a).2.1 ≠ (TX6 b).2.1 := by decide +kernel
theorem tyX6_ok : ∀ k, k < 5 → parseFieldDescriptor (TX6 k).2.2.1 = some (tyX6 k) := by decide +kernel
abbrev cX6_init : ByteArray := prog_8_method_1_code
def yX6_init : MethodName := ⟨RX6, "<init>", "()V"⟩
abbrev cX6_read : ByteArray := prog_8_method_2_code
def yX6_read : MethodName := ⟨RX6, "read", "(LPamphletQuarrel$Buffer;)V"⟩
abbrev cX6_isAtEndOfText : ByteArray := prog_8_method_3_code
def yX6_isAtEndOfText : MethodName := ⟨RX6, "isAtEndOfText", "(LPamphletQuarrel$Buffer;)Z"⟩
abbrev cX6_placeAfter : ByteArray := prog_8_method_4_code
def yX6_placeAfter : MethodName := ⟨RX6, "placeAfter", "(I)I"⟩
abbrev cX6_afterOpening : ByteArray := prog_8_method_5_code
def yX6_afterOpening : MethodName := ⟨RX6, "afterOpening", "()I"⟩
abbrev cX6_afterFirstLetter : ByteArray := prog_8_method_6_code
def yX6_afterFirstLetter : MethodName := ⟨RX6, "afterFirstLetter", "(II)I"⟩
abbrev cX6_afterLetter : ByteArray := prog_8_method_7_code
def yX6_afterLetter : MethodName := ⟨RX6, "afterLetter", "(I)I"⟩
abbrev cX6_afterFirstDigit : ByteArray := prog_8_method_8_code
def yX6_afterFirstDigit : MethodName := ⟨RX6, "afterFirstDigit", "(I)I"⟩
abbrev cX6_afterSecondDigit : ByteArray := prog_8_method_9_code
def yX6_afterSecondDigit : MethodName := ⟨RX6, "afterSecondDigit", "(I)I"⟩
def RX7 : String := "PamphletQuarrel$Row"
def TX7 : u_T := fun k => match k with
  | _ => ("PamphletQuarrel$Row", "cells", "[J", true)
def tyX7 : Nat → FieldType := fun k => match k with
  | _ => .array .long
abbrev wsX70 : List Cond := u_ws RX7 TX7 1
theorem nmX7 : ∀ a, a < 1 → ∀ b, b < 1 → a ≠ b → (TX7 a).2.1 ≠ (TX7 b).2.1 := by decide +kernel
theorem tyX7_ok : ∀ k, k < 1 → parseFieldDescriptor (TX7 k).2.2.1 = some (tyX7 k) := by decide +kernel
abbrev cX7_init : ByteArray := prog_9_method_1_code
def yX7_init : MethodName := ⟨RX7, "<init>", "(I)V"⟩
abbrev cX7_at : ByteArray := prog_9_method_2_code
def yX7_at : MethodName := ⟨RX7, "at", "(I)J"⟩
abbrev cX7_number : ByteArray := prog_9_method_3_code
def yX7_number : MethodName := ⟨RX7, "number", "(I)I"⟩
abbrev cX7_put : ByteArray := prog_9_method_4_code
def yX7_put : MethodName := ⟨RX7, "put", "(IJ)V"⟩
abbrev cX7_copy : ByteArray := prog_9_method_5_code
def yX7_copy : MethodName := ⟨RX7, "copy", "(LPamphletQuarrel$Row;I)V"⟩
abbrev cX7_move : ByteArray := prog_9_method_6_code
def yX7_move : MethodName := ⟨RX7, "move", "(III)V"⟩
def RX8 : String := "PamphletQuarrel$Search"
def TX8 : u_T := fun k => match k with
  | 0 => ("PamphletQuarrel$Search", "cells", "LPamphletQuarrel$Row;", true)
  | 1 => ("PamphletQuarrel$Search", "changes", "I", false)
  | 2 => ("PamphletQuarrel$Search", "begin", "I", false)
  | _ => ("PamphletQuarrel$Search", "length", "I", false)
def tyX8 : Nat → FieldType := fun k => match k with
  | 0 => .object "PamphletQuarrel$Row"
  | 1 => .int
  | 2 => .int
  | _ => .int
abbrev wsX80 : List Cond := u_ws RX8 TX8 4
theorem nmX8 : ∀ a, a < 4 → ∀ b, b < 4 → a ≠ b → (TX8 a).2.1 ≠ (TX8 b).2.1 := by decide +kernel
theorem tyX8_ok : ∀ k, k < 4 → parseFieldDescriptor (TX8 k).2.2.1 = some (tyX8 k) := by decide +kernel
abbrev cX8_init : ByteArray := prog_10_method_1_code
def yX8_init : MethodName := ⟨RX8, "<init>", "()V"⟩
abbrev cX8_byTable : ByteArray := prog_10_method_2_code
def yX8_byTable : MethodName := ⟨RX8, "byTable", "(LPamphletQuarrel$Pamphlet;ILPamphletQuarrel$Pamphlet;)V"⟩
abbrev cX8_chooseEnd : ByteArray := prog_10_method_3_code
def yX8_chooseEnd : MethodName := ⟨RX8, "chooseEnd", "(I)V"⟩
abbrev cX8_byPassages : ByteArray := prog_10_method_4_code
def yX8_byPassages : MethodName := ⟨RX8, "byPassages", "(LPamphletQuarrel$Pamphlet;ILPamphletQuarrel$Pamphlet;)I"⟩
abbrev cX8_leastFrom : ByteArray := prog_10_method_5_code
def yX8_leastFrom : MethodName := ⟨RX8, "leastFrom", "(ILPamphletQuarrel$Pamphlet;ILPamphletQuarrel$Pamphlet;)I"⟩
abbrev cX8_takeWord : ByteArray := prog_10_method_6_code
def yX8_takeWord : MethodName := ⟨RX8, "takeWord", "(JLPamphletQuarrel$Pamphlet;II)V"⟩
def RX9 : String := "PamphletQuarrel$State"
def TX9 : u_T := fun k => match k with
  | 0 => ("PamphletQuarrel$State", "printed", "[LPamphletQuarrel$Pamphlet;", true)
  | 1 => ("PamphletQuarrel$State", "blank", "LPamphletQuarrel$Pamphlet;", true)
  | 2 => ("PamphletQuarrel$State", "count", "I", false)
  | _ => ("PamphletQuarrel$State", "today", "I", false)
def tyX9 : Nat → FieldType := fun k => match k with
  | 0 => .array (.object "PamphletQuarrel$Pamphlet")
  | 1 => .object "PamphletQuarrel$Pamphlet"
  | 2 => .int
  | _ => .int
abbrev wsX90 : List Cond := u_ws RX9 TX9 4
theorem nmX9 : ∀ a, a < 4 → ∀ b, b < 4 → a ≠ b → (TX9 a).2.1 ≠ (TX9 b).2.1 := by decide +kernel
theorem tyX9_ok : ∀ k, k < 4 → parseFieldDescriptor (TX9 k).2.2.1 = some (tyX9 k) := by decide +kernel
abbrev cX9_init : ByteArray := prog_11_method_1_code
def yX9_init : MethodName := ⟨RX9, "<init>", "()V"⟩
abbrev cX9_has : ByteArray := prog_11_method_2_code
def yX9_has : MethodName := ⟨RX9, "has", "(I)Z"⟩
abbrev cX9_at : ByteArray := prog_11_method_3_code
def yX9_at : MethodName := ⟨RX9, "at", "(I)LPamphletQuarrel$Pamphlet;"⟩
abbrev cX9_copy : ByteArray := prog_11_method_4_code
def yX9_copy : MethodName := ⟨RX9, "copy", "(LPamphletQuarrel$State;)V"⟩
abbrev cX9_add : ByteArray := prog_11_method_5_code
def yX9_add : MethodName := ⟨RX9, "add", "(LPamphletQuarrel$Pamphlet;I)V"⟩
abbrev cX9_hasSourcesOf : ByteArray := prog_11_method_6_code
def yX9_hasSourcesOf : MethodName := ⟨RX9, "hasSourcesOf", "(LPamphletQuarrel$Pamphlet;)Z"⟩
abbrev cX9_isSourceOfToday : ByteArray := prog_11_method_7_code
def yX9_isSourceOfToday : MethodName := ⟨RX9, "isSourceOfToday", "(LPamphletQuarrel$Pamphlet;)Z"⟩
def RX10 : String := "PamphletQuarrel"
def TX10 : u_T := fun k => match k with
  | 0 => ("PamphletQuarrel", "state", "LPamphletQuarrel$State;", true)
  | 1 => ("PamphletQuarrel", "history", "LPamphletQuarrel$History;", true)
  | 2 => ("PamphletQuarrel", "buffer", "LPamphletQuarrel$Buffer;", true)
  | 3 => ("PamphletQuarrel", "reader", "LPamphletQuarrel$Reader;", true)
  | 4 => ("PamphletQuarrel", "quotations", "LPamphletQuarrel$Quotations;", true)
  | 5 => ("PamphletQuarrel", "ladders", "LPamphletQuarrel$Ladders;", true)
  | _ => ("PamphletQuarrel", "glossary", "LPamphletQuarrel$Glossary;", true)
def tyX10 : Nat → FieldType := fun k => match k with
  | 0 => .object "PamphletQuarrel$State"
  | 1 => .object "PamphletQuarrel$History"
  | 2 => .object "PamphletQuarrel$Buffer"
  | 3 => .object "PamphletQuarrel$Reader"
  | 4 => .object "PamphletQuarrel$Quotations"
  | 5 => .object "PamphletQuarrel$Ladders"
  | _ => .object "PamphletQuarrel$Glossary"
abbrev wsX100 : List Cond := u_ws RX10 TX10 7
theorem nmX10 : ∀ a, a < 7 → ∀ b, b < 7 → a ≠ b → (TX10 a).2.1 ≠ (TX10 b).2.1 := by decide +kernel
theorem tyX10_ok : ∀ k, k < 7 → parseFieldDescriptor (TX10 k).2.2.1 = some (tyX10 k) := by decide +kernel
abbrev cX10_init : ByteArray := prog_1_method_1_code
def yX10_init : MethodName := ⟨RX10, "<init>", "()V"⟩
abbrev cX10_print : ByteArray := prog_1_method_2_code
def yX10_print : MethodName := ⟨RX10, "print", "(I)I"⟩
abbrev cX10_pass : ByteArray := prog_1_method_3_code
def yX10_pass : MethodName := ⟨RX10, "pass", "(I)I"⟩
abbrev cX10_mend : ByteArray := prog_1_method_4_code
def yX10_mend : MethodName := ⟨RX10, "mend", "(II)I"⟩
abbrev cX10_mendAll : ByteArray := prog_1_method_5_code
def yX10_mendAll : MethodName := ⟨RX10, "mendAll", "()I"⟩
abbrev cX10_withdraw : ByteArray := prog_1_method_6_code
def yX10_withdraw : MethodName := ⟨RX10, "withdraw", "()I"⟩
abbrev cX10_day : ByteArray := prog_1_method_7_code
def yX10_day : MethodName := ⟨RX10, "day", "()I"⟩
abbrev cX10_pamphlets : ByteArray := prog_1_method_8_code
def yX10_pamphlets : MethodName := ⟨RX10, "pamphlets", "()I"⟩
abbrev cX10_authorOf : ByteArray := prog_1_method_9_code
def yX10_authorOf : MethodName := ⟨RX10, "authorOf", "(I)I"⟩
abbrev cX10_dayOf : ByteArray := prog_1_method_10_code
def yX10_dayOf : MethodName := ⟨RX10, "dayOf", "(I)I"⟩
abbrev cX10_wordsOf : ByteArray := prog_1_method_11_code
def yX10_wordsOf : MethodName := ⟨RX10, "wordsOf", "(I)I"⟩
abbrev cX10_pagesOf : ByteArray := prog_1_method_12_code
def yX10_pagesOf : MethodName := ⟨RX10, "pagesOf", "(I)I"⟩
abbrev cX10_wordsOn : ByteArray := prog_1_method_13_code
def yX10_wordsOn : MethodName := ⟨RX10, "wordsOn", "(II)I"⟩
abbrev cX10_letterOf : ByteArray := prog_1_method_14_code
def yX10_letterOf : MethodName := ⟨RX10, "letterOf", "(III)I"⟩
abbrev cX10_isSameWord : ByteArray := prog_1_method_15_code
def yX10_isSameWord : MethodName := ⟨RX10, "isSameWord", "(IIII)Z"⟩
abbrev cX10_whyNotPrinted : ByteArray := prog_1_method_16_code
def yX10_whyNotPrinted : MethodName := ⟨RX10, "whyNotPrinted", "()I"⟩
abbrev cX10_quotationsOf : ByteArray := prog_1_method_17_code
def yX10_quotationsOf : MethodName := ⟨RX10, "quotationsOf", "(I)I"⟩
abbrev cX10_sourceOf : ByteArray := prog_1_method_18_code
def yX10_sourceOf : MethodName := ⟨RX10, "sourceOf", "(II)I"⟩
abbrev cX10_beginOf : ByteArray := prog_1_method_19_code
def yX10_beginOf : MethodName := ⟨RX10, "beginOf", "(II)I"⟩
abbrev cX10_lengthOf : ByteArray := prog_1_method_20_code
def yX10_lengthOf : MethodName := ⟨RX10, "lengthOf", "(II)I"⟩
abbrev cX10_changesByTable : ByteArray := prog_1_method_21_code
def yX10_changesByTable : MethodName := ⟨RX10, "changesByTable", "(II)I"⟩
abbrev cX10_changesByPassages : ByteArray := prog_1_method_22_code
def yX10_changesByPassages : MethodName := ⟨RX10, "changesByPassages", "(II)I"⟩
abbrev cX10_passageOf : ByteArray := prog_1_method_23_code
def yX10_passageOf : MethodName := ⟨RX10, "passageOf", "(II)I"⟩
abbrev cX10_passageLength : ByteArray := prog_1_method_24_code
def yX10_passageLength : MethodName := ⟨RX10, "passageLength", "(II)I"⟩
abbrev cX10_pageOf : ByteArray := prog_1_method_25_code
def yX10_pageOf : MethodName := ⟨RX10, "pageOf", "(II)I"⟩
abbrev cX10_comesFrom : ByteArray := prog_1_method_26_code
def yX10_comesFrom : MethodName := ⟨RX10, "comesFrom", "(II)I"⟩
abbrev cX10_originOf : ByteArray := prog_1_method_27_code
def yX10_originOf : MethodName := ⟨RX10, "originOf", "(II)I"⟩
abbrev cX10_traceOf : ByteArray := prog_1_method_28_code
def yX10_traceOf : MethodName := ⟨RX10, "traceOf", "(II)I"⟩
abbrev cX10_changesAtOrigin : ByteArray := prog_1_method_29_code
def yX10_changesAtOrigin : MethodName := ⟨RX10, "changesAtOrigin", "(II)I"⟩
abbrev cX10_quotedAgain : ByteArray := prog_1_method_30_code
def yX10_quotedAgain : MethodName := ⟨RX10, "quotedAgain", "(II)I"⟩
abbrev cX10_blameOf : ByteArray := prog_1_method_31_code
def yX10_blameOf : MethodName := ⟨RX10, "blameOf", "(I)I"⟩
abbrev cX10_wrongs : ByteArray := prog_1_method_32_code
def yX10_wrongs : MethodName := ⟨RX10, "wrongs", "(II)I"⟩
abbrev cX10_blameByAuthors : ByteArray := prog_1_method_33_code
def yX10_blameByAuthors : MethodName := ⟨RX10, "blameByAuthors", "()I"⟩
abbrev cX10_blameBySources : ByteArray := prog_1_method_34_code
def yX10_blameBySources : MethodName := ⟨RX10, "blameBySources", "()I"⟩
abbrev cX10_faithfulShare : ByteArray := prog_1_method_35_code
def yX10_faithfulShare : MethodName := ⟨RX10, "faithfulShare", "()D"⟩
abbrev cX10_answers : ByteArray := prog_1_method_36_code
def yX10_answers : MethodName := ⟨RX10, "answers", "(II)Z"⟩
abbrev cX10_ladderOf : ByteArray := prog_1_method_37_code
def yX10_ladderOf : MethodName := ⟨RX10, "ladderOf", "(I)I"⟩
abbrev cX10_laddersOf : ByteArray := prog_1_method_38_code
def yX10_laddersOf : MethodName := ⟨RX10, "laddersOf", "(I)I"⟩
abbrev cX10_readingOf : ByteArray := prog_1_method_39_code
def yX10_readingOf : MethodName := ⟨RX10, "readingOf", "(I)I"⟩
abbrev cX10_readAt : ByteArray := prog_1_method_40_code
def yX10_readAt : MethodName := ⟨RX10, "readAt", "(II)I"⟩
abbrev cX10_glossary : ByteArray := prog_1_method_41_code
def yX10_glossary : MethodName := ⟨RX10, "glossary", "()I"⟩
abbrev cX10_timesOf : ByteArray := prog_1_method_42_code
def yX10_timesOf : MethodName := ⟨RX10, "timesOf", "(I)I"⟩
abbrev cX10_glossaryLetter : ByteArray := prog_1_method_43_code
def yX10_glossaryLetter : MethodName := ⟨RX10, "glossaryLetter", "(II)I"⟩
abbrev cX10_append : ByteArray := prog_1_method_44_code
def yX10_append : MethodName := ⟨RX10, "append", "(I)I"⟩
abbrev cX10_clearText : ByteArray := prog_1_method_45_code
def yX10_clearText : MethodName := ⟨RX10, "clearText", "()I"⟩
abbrev cX10_errorPosition : ByteArray := prog_1_method_46_code
def yX10_errorPosition : MethodName := ⟨RX10, "errorPosition", "()I"⟩
abbrev cX10_undo : ByteArray := prog_1_method_47_code
def yX10_undo : MethodName := ⟨RX10, "undo", "()I"⟩
abbrev cX10_savedStates : ByteArray := prog_1_method_48_code
def yX10_savedStates : MethodName := ⟨RX10, "savedStates", "()I"⟩
abbrev cX10_takeSnapshot : ByteArray := prog_1_method_49_code
def yX10_takeSnapshot : MethodName := ⟨RX10, "takeSnapshot", "()I"⟩
abbrev cX10_restoreSnapshot : ByteArray := prog_1_method_50_code
def yX10_restoreSnapshot : MethodName := ⟨RX10, "restoreSnapshot", "()I"⟩
abbrev cX10_isAuthor : ByteArray := prog_1_method_51_code
def yX10_isAuthor : MethodName := ⟨RX10, "isAuthor", "(I)Z"⟩
abbrev cX10_needAuthor : ByteArray := prog_1_method_52_code
def yX10_needAuthor : MethodName := ⟨RX10, "needAuthor", "(I)V"⟩
abbrev cX10_needPamphlet : ByteArray := prog_1_method_53_code
def yX10_needPamphlet : MethodName := ⟨RX10, "needPamphlet", "(I)V"⟩
abbrev cX10_needWord : ByteArray := prog_1_method_54_code
def yX10_needWord : MethodName := ⟨RX10, "needWord", "(II)V"⟩
abbrev cX10_needQuotation : ByteArray := prog_1_method_55_code
def yX10_needQuotation : MethodName := ⟨RX10, "needQuotation", "(II)V"⟩
abbrev cX10_needPlace : ByteArray := prog_1_method_56_code
def yX10_needPlace : MethodName := ⟨RX10, "needPlace", "(II)V"⟩
abbrev cX10_needIndex : ByteArray := prog_1_method_57_code
def yX10_needIndex : MethodName := ⟨RX10, "needIndex", "(I)V"⟩
abbrev cX10_withLetter : ByteArray := prog_1_method_58_code
def yX10_withLetter : MethodName := ⟨RX10, "withLetter", "(JII)J"⟩
abbrev cX10_letterIn : ByteArray := prog_1_method_59_code
def yX10_letterIn : MethodName := ⟨RX10, "letterIn", "(JI)I"⟩
def RX11 : String := "PamphletQuarrelModel"
def TX11 : u_T := fun k => match k with
  | _ => ("", "", "", false)
def tyX11 : Nat → FieldType := fun k => match k with
  | _ => .int
abbrev wsX110 : List Cond := u_ws RX11 TX11 0
theorem nmX11 : ∀ a, a < 0 → ∀ b, b < 0 → a ≠ b → (TX11 a).2.1 ≠ (TX11 b).2.1 := by decide +kernel
theorem tyX11_ok : ∀ k, k < 0 → parseFieldDescriptor (TX11 k).2.2.1 = some (tyX11 k) := by decide +kernel
def RJ9 : String := "java/lang/Math"
def TJ9 : u_T := fun k => match k with
  | _ => ("", "", "", false)
def tyJ9 : Nat → FieldType := fun k => match k with
  | _ => .int
abbrev wsJ90 : List Cond := u_ws RJ9 TJ9 0
theorem nmJ9 : ∀ a, a < 0 → ∀ b, b < 0 → a ≠ b → (TJ9 a).2.1 ≠ (TJ9 b).2.1 := by decide +kernel
theorem tyJ9_ok : ∀ k, k < 0 → parseFieldDescriptor (TJ9 k).2.2.1 = some (tyJ9 k) := by decide +kernel
abbrev cJ9_max_7cf53 : ByteArray := prog_18_method_65_code
def yJ9_max_7cf53 : MethodName := ⟨RJ9, "max", "(II)I"⟩
abbrev cJ9_min_7cf53 : ByteArray := prog_18_method_69_code
def yJ9_min_7cf53 : MethodName := ⟨RJ9, "min", "(II)I"⟩
def RJ0 : String := "java/lang/String"
def TJ0 : u_T := fun k => match k with
  | _ => ("", "", "", false)
def tyJ0 : Nat → FieldType := fun k => match k with
  | _ => .int
abbrev wsJ00 : List Cond := u_ws RJ0 TJ0 0
theorem nmJ0 : ∀ a, a < 0 → ∀ b, b < 0 → a ≠ b → (TJ0 a).2.1 ≠ (TJ0 b).2.1 := by decide +kernel
theorem tyJ0_ok : ∀ k, k < 0 → parseFieldDescriptor (TJ0 k).2.2.1 = some (tyJ0 k) := by decide +kernel
def RJ10 : String := "java/lang/System"
def TJ10 : u_T := fun k => match k with
  | _ => ("", "", "", false)
def tyJ10 : Nat → FieldType := fun k => match k with
  | _ => .int
abbrev wsJ100 : List Cond := u_ws RJ10 TJ10 0
theorem nmJ10 : ∀ a, a < 0 → ∀ b, b < 0 → a ≠ b → (TJ10 a).2.1 ≠ (TJ10 b).2.1 := by decide +kernel
theorem tyJ10_ok : ∀ k, k < 0 → parseFieldDescriptor (TJ10 k).2.2.1 = some (tyJ10 k) := by decide +kernel
def RL : String := "PamphletQuarrelLaw"
abbrev cL_cell : ByteArray := method_2_code
def yL_cell : MethodName := ⟨RL, "cell", "([II)I"⟩
abbrev cL_low : ByteArray := method_3_code
def yL_low : MethodName := ⟨RL, "low", "(II)I"⟩
abbrev cL_tryPrint : ByteArray := method_4_code
def yL_tryPrint : MethodName := ⟨RL, "tryPrint", "(LPamphletQuarrel;I)I"⟩
abbrev cL_tryMend : ByteArray := method_5_code
def yL_tryMend : MethodName := ⟨RL, "tryMend", "(LPamphletQuarrel;II)I"⟩
abbrev cL_tryWithdraw : ByteArray := method_6_code
def yL_tryWithdraw : MethodName := ⟨RL, "tryWithdraw", "(LPamphletQuarrel;)I"⟩
abbrev cL_isQuotation : ByteArray := method_7_code
def yL_isQuotation : MethodName := ⟨RL, "isQuotation", "(LPamphletQuarrel;II)Z"⟩
abbrev cL_arePamphlets : ByteArray := method_8_code
def yL_arePamphlets : MethodName := ⟨RL, "arePamphlets", "(LPamphletQuarrel;)Z"⟩
abbrev cL_isBlame : ByteArray := method_9_code
def yL_isBlame : MethodName := ⟨RL, "isBlame", "(LPamphletQuarrel;)Z"⟩
abbrev cL_isGlossary : ByteArray := method_10_code
def yL_isGlossary : MethodName := ⟨RL, "isGlossary", "(LPamphletQuarrel;)Z"⟩
abbrev cL_holds : ByteArray := method_11_code
def yL_holds : MethodName := ⟨RL, "holds", "(LPamphletQuarrel;I)Z"⟩
abbrev cL_tale : ByteArray := method_12_code
def yL_tale : MethodName := ⟨RL, "tale", "(LPamphletQuarrel;)J"⟩
abbrev cL_typeWord : ByteArray := method_13_code
def yL_typeWord : MethodName := ⟨RL, "typeWord", "(LPamphletQuarrel;I)I"⟩
abbrev cL_typeSame : ByteArray := method_14_code
def yL_typeSame : MethodName := ⟨RL, "typeSame", "(LPamphletQuarrel;III)I"⟩
abbrev cL_typeQuotation : ByteArray := method_15_code
def yL_typeQuotation : MethodName := ⟨RL, "typeQuotation", "(LPamphletQuarrel;II)I"⟩
abbrev cL_prints : ByteArray := method_16_code
def yL_prints : MethodName := ⟨RL, "prints", "(LPamphletQuarrel;II)Z"⟩
abbrev cL_mends : ByteArray := method_17_code
def yL_mends : MethodName := ⟨RL, "mends", "(LPamphletQuarrel;II)Z"⟩
abbrev cL_mendsAll : ByteArray := method_18_code
def yL_mendsAll : MethodName := ⟨RL, "mendsAll", "(LPamphletQuarrel;)Z"⟩
abbrev cL_returns : ByteArray := method_19_code
def yL_returns : MethodName := ⟨RL, "returns", "(LPamphletQuarrel;)Z"⟩
abbrev cL_act : ByteArray := method_20_code
def yL_act : MethodName := ⟨RL, "act", "(LPamphletQuarrel;III)Z"⟩
abbrev cL_law : ByteArray := code
def yL_law : MethodName := ⟨RL, "law", "([I)Z"⟩
def wsX7_init : List Cond := .code yX7_init cX7_init 2 none :: ([.methodLink RX7 1 objectInit, .instanceMethod objectInit, .code objectInit ⟨#[0xb1]⟩ 1 none, .methodLink RX7 7 Lib.Math.max.name, .static Lib.Math.max.name, .initialized "java/lang/Math", .code Lib.Math.max.name Lib.Math.max.code 2 (some .int), .arrayClass .long, .fieldLink RX7 13 "PamphletQuarrel$Row" "cells" "[J"] ++ wsX70)
def wsX0_init : List Cond := .code yX0_init cX0_init 1 none :: ([.methodLink RX0 3 objectInit, .instanceMethod objectInit, .code objectInit ⟨#[0xb1]⟩ 1 none, .classLink RX0 9 RX7, .instantiable RX7 1, .initialized RX7, .fieldLink RX0 14 "PamphletQuarrel$Buffer" "codes" "LPamphletQuarrel$Row;", .methodLink RX0 11 yX7_init, .instanceMethod yX7_init, .code yX7_init cX7_init 2 none, .methodLink RX7 1 objectInit, .methodLink RX7 7 Lib.Math.max.name, .static Lib.Math.max.name, .initialized "java/lang/Math", .code Lib.Math.max.name Lib.Math.max.code 2 (some .int), .arrayClass .long, .fieldLink RX7 13 "PamphletQuarrel$Row" "cells" "[J"] ++ wsX70 ++ wsX00)
def wsX7_put : List Cond := .code yX7_put cX7_put 4 none :: ([.fieldLink RX7 13 "PamphletQuarrel$Row" "cells" "[J"] ++ wsX70)
def wsX0_add : List Cond := .code yX0_add cX0_add 2 none :: ([.fieldLink RX0 14 "PamphletQuarrel$Buffer" "codes" "LPamphletQuarrel$Row;", .fieldLink RX0 20 "PamphletQuarrel$Buffer" "length" "I", .methodLink RX0 24 yX7_put, .instanceMethod yX7_put, .selects RX7 yX7_put yX7_put, .initialized RX7, .code yX7_put cX7_put 4 none, .fieldLink RX7 13 "PamphletQuarrel$Row" "cells" "[J"] ++ wsX00 ++ wsX70)
def wsX1_init : List Cond := .code yX1_init cX1_init 1 none :: ([.methodLink RX1 3 objectInit, .instanceMethod objectInit, .code objectInit ⟨#[0xb1]⟩ 1 none, .classLink RX1 9 RX7, .instantiable RX7 1, .initialized RX7, .fieldLink RX1 14 "PamphletQuarrel$Glossary" "entries" "LPamphletQuarrel$Row;", .fieldLink RX1 20 "PamphletQuarrel$Glossary" "times" "LPamphletQuarrel$Row;", .methodLink RX1 11 yX7_init, .instanceMethod yX7_init, .code yX7_init cX7_init 2 none, .methodLink RX7 1 objectInit, .methodLink RX7 7 Lib.Math.max.name, .static Lib.Math.max.name, .initialized "java/lang/Math", .code Lib.Math.max.name Lib.Math.max.code 2 (some .int), .arrayClass .long, .fieldLink RX7 13 "PamphletQuarrel$Row" "cells" "[J"] ++ wsX70 ++ wsX10)
def wsX9_at : List Cond := .code yX9_at cX9_at 3 (some (.object "PamphletQuarrel$Pamphlet")) :: ([.fieldLink RX9 11 "PamphletQuarrel$State" "printed" "[LPamphletQuarrel$Pamphlet;", .fieldLink RX9 18 "PamphletQuarrel$State" "blank" "LPamphletQuarrel$Pamphlet;"] ++ wsX90)
def wsX7_at : List Cond := .code yX7_at cX7_at 2 (some .long) :: ([.fieldLink RX7 13 "PamphletQuarrel$Row" "cells" "[J"] ++ wsX70)
def wsX7_number : List Cond := .code yX7_number cX7_number 2 (some .int) :: ([.fieldLink RX7 13 "PamphletQuarrel$Row" "cells" "[J"] ++ wsX70)
def wsX1_count : List Cond := .code yX1_count cX1_count 4 none :: ([.fieldLink RX1 23 "PamphletQuarrel$Glossary" "size" "I", .fieldLink RX1 14 "PamphletQuarrel$Glossary" "entries" "LPamphletQuarrel$Row;", .fieldLink RX1 20 "PamphletQuarrel$Glossary" "times" "LPamphletQuarrel$Row;", .methodLink RX1 44 yX7_at, .instanceMethod yX7_at, .selects RX7 yX7_at yX7_at, .initialized RX7, .code yX7_at cX7_at 2 (some .long), .fieldLink RX7 13 "PamphletQuarrel$Row" "cells" "[J", .methodLink RX1 53 yX7_put, .instanceMethod yX7_put, .selects RX7 yX7_put yX7_put, .code yX7_put cX7_put 4 none, .methodLink RX1 57 yX7_number, .instanceMethod yX7_number, .selects RX7 yX7_number yX7_number, .code yX7_number cX7_number 2 (some .int)] ++ wsX10 ++ wsX70)
def wsX1_isBefore : List Cond := .code yX1_isBefore cX1_isBefore 6 (some .boolean) :: ([.fieldLink RX1 20 "PamphletQuarrel$Glossary" "times" "LPamphletQuarrel$Row;", .fieldLink RX1 14 "PamphletQuarrel$Glossary" "entries" "LPamphletQuarrel$Row;", .methodLink RX1 57 yX7_number, .instanceMethod yX7_number, .selects RX7 yX7_number yX7_number, .initialized RX7, .code yX7_number cX7_number 2 (some .int), .fieldLink RX7 13 "PamphletQuarrel$Row" "cells" "[J", .methodLink RX1 44 yX7_at, .instanceMethod yX7_at, .selects RX7 yX7_at yX7_at, .code yX7_at cX7_at 2 (some .long)] ++ wsX10 ++ wsX70)
def wsX1_moveForward : List Cond := .code yX1_moveForward cX1_moveForward 6 none :: ([.fieldLink RX1 14 "PamphletQuarrel$Glossary" "entries" "LPamphletQuarrel$Row;", .fieldLink RX1 20 "PamphletQuarrel$Glossary" "times" "LPamphletQuarrel$Row;", .methodLink RX1 44 yX7_at, .instanceMethod yX7_at, .selects RX7 yX7_at yX7_at, .initialized RX7, .code yX7_at cX7_at 2 (some .long), .fieldLink RX7 13 "PamphletQuarrel$Row" "cells" "[J", .methodLink RX1 57 yX7_number, .instanceMethod yX7_number, .selects RX7 yX7_number yX7_number, .code yX7_number cX7_number 2 (some .int), .methodLink RX1 61 yX1_isBefore, .instanceMethod yX1_isBefore, .selects RX1 yX1_isBefore yX1_isBefore, .initialized RX1, .code yX1_isBefore cX1_isBefore 6 (some .boolean), .methodLink RX1 53 yX7_put, .instanceMethod yX7_put, .selects RX7 yX7_put yX7_put, .code yX7_put cX7_put 4 none] ++ wsX10 ++ wsX70)
def wsX1_gather_r1 : List Cond := [Cond.fieldLink RX1 23 "PamphletQuarrel$Glossary" "size" "I", Cond.methodLink RX1 32 yX9_at, Cond.instanceMethod yX9_at, Cond.selects RX9 yX9_at yX9_at, Cond.initialized RX9, Cond.code yX9_at cX9_at 3 (some (.object "PamphletQuarrel$Pamphlet")), Cond.fieldLink RX9 11 "PamphletQuarrel$State" "printed" "[LPamphletQuarrel$Pamphlet;", Cond.fieldLink RX9 18 "PamphletQuarrel$State" "blank" "LPamphletQuarrel$Pamphlet;", Cond.methodLink RX1 44 yX7_at, Cond.instanceMethod yX7_at, Cond.selects RX7 yX7_at yX7_at, Cond.initialized RX7, Cond.code yX7_at cX7_at 2 (some .long), Cond.fieldLink RX7 13 "PamphletQuarrel$Row" "cells" "[J", Cond.methodLink RX1 47 yX1_count, Cond.instanceMethod yX1_count, Cond.selects RX1 yX1_count yX1_count, Cond.initialized RX1, Cond.code yX1_count cX1_count 4 none, Cond.fieldLink RX1 14 "PamphletQuarrel$Glossary" "entries" "LPamphletQuarrel$Row;", Cond.fieldLink RX1 20 "PamphletQuarrel$Glossary" "times" "LPamphletQuarrel$Row;", Cond.methodLink RX1 53 yX7_put, Cond.instanceMethod yX7_put, Cond.selects RX7 yX7_put yX7_put]
def wsX1_gather_r2 : List Cond := [Cond.code yX7_put cX7_put 4 none, Cond.methodLink RX1 57 yX7_number, Cond.instanceMethod yX7_number, Cond.selects RX7 yX7_number yX7_number, Cond.code yX7_number cX7_number 2 (some .int), Cond.methodLink RX1 50 yX1_moveForward, Cond.instanceMethod yX1_moveForward, Cond.selects RX1 yX1_moveForward yX1_moveForward, Cond.code yX1_moveForward cX1_moveForward 6 none, Cond.methodLink RX1 61 yX1_isBefore, Cond.instanceMethod yX1_isBefore, Cond.selects RX1 yX1_isBefore yX1_isBefore, Cond.code yX1_isBefore cX1_isBefore 6 (some .boolean)]
def wsX1_gather : List Cond := .code yX1_gather cX1_gather 5 none :: ((wsX1_gather_r1 ++ wsX1_gather_r2) ++ wsX10 ++ wsX90 ++ wsX40 ++ wsX70)
def wsX4_init : List Cond := .code yX4_init cX4_init 1 none :: ([.methodLink RX4 3 objectInit, .instanceMethod objectInit, .code objectInit ⟨#[0xb1]⟩ 1 none, .classLink RX4 9 RX7, .instantiable RX7 1, .initialized RX7, .fieldLink RX4 14 "PamphletQuarrel$Pamphlet" "words" "LPamphletQuarrel$Row;", .fieldLink RX4 20 "PamphletQuarrel$Pamphlet" "sources" "LPamphletQuarrel$Row;", .fieldLink RX4 23 "PamphletQuarrel$Pamphlet" "begins" "LPamphletQuarrel$Row;", .fieldLink RX4 26 "PamphletQuarrel$Pamphlet" "lengths" "LPamphletQuarrel$Row;", .methodLink RX4 11 yX7_init, .instanceMethod yX7_init, .code yX7_init cX7_init 2 none, .methodLink RX7 1 objectInit, .methodLink RX7 7 Lib.Math.max.name, .static Lib.Math.max.name, .initialized "java/lang/Math", .code Lib.Math.max.name Lib.Math.max.code 2 (some .int), .arrayClass .long, .fieldLink RX7 13 "PamphletQuarrel$Row" "cells" "[J"] ++ wsX70 ++ wsX40)
def wsX9_init_r1 : List Cond := [Cond.methodLink RX9 3 objectInit, Cond.instanceMethod objectInit, Cond.code objectInit ⟨#[0xb1]⟩ 1 none, Cond.classLink RX9 9 RX4, Cond.fieldLink RX9 11 "PamphletQuarrel$State" "printed" "[LPamphletQuarrel$Pamphlet;", Cond.instantiable RX4 8, Cond.initialized RX4, Cond.fieldLink RX9 18 "PamphletQuarrel$State" "blank" "LPamphletQuarrel$Pamphlet;", Cond.instanceMethod yX4_init, Cond.code yX4_init cX4_init 1 none, Cond.methodLink RX4 3 objectInit, Cond.classLink RX4 9 RX7, Cond.instantiable RX7 1, Cond.initialized RX7, Cond.fieldLink RX4 14 "PamphletQuarrel$Pamphlet" "words" "LPamphletQuarrel$Row;", Cond.fieldLink RX4 20 "PamphletQuarrel$Pamphlet" "sources" "LPamphletQuarrel$Row;", Cond.fieldLink RX4 23 "PamphletQuarrel$Pamphlet" "begins" "LPamphletQuarrel$Row;", Cond.fieldLink RX4 26 "PamphletQuarrel$Pamphlet" "lengths" "LPamphletQuarrel$Row;", Cond.methodLink RX4 11 yX7_init, Cond.instanceMethod yX7_init, Cond.code yX7_init cX7_init 2 none, Cond.methodLink RX7 1 objectInit, Cond.methodLink RX7 7 Lib.Math.max.name, Cond.static Lib.Math.max.name]
def wsX9_init_r2 : List Cond := [Cond.initialized "java/lang/Math", Cond.code Lib.Math.max.name Lib.Math.max.code 2 (some .int), Cond.arrayClass .long, Cond.fieldLink RX7 13 "PamphletQuarrel$Row" "cells" "[J"]
def wsX9_init : List Cond := .code yX9_init cX9_init 2 none :: ((wsX9_init_r1 ++ wsX9_init_r2) ++ wsX90 ++ wsX40 ++ wsX70)
def wsX2_init_r1 : List Cond := [Cond.methodLink RX2 3 objectInit, Cond.instanceMethod objectInit, Cond.code objectInit ⟨#[0xb1]⟩ 1 none, Cond.classLink RX2 9 RX9, Cond.fieldLink RX2 11 "PamphletQuarrel$History" "saved" "[LPamphletQuarrel$State;", Cond.instantiable RX9 4, Cond.initialized RX9, Cond.fieldLink RX2 18 "PamphletQuarrel$History" "snapshot" "LPamphletQuarrel$State;", Cond.methodLink RX2 17 yX9_init, Cond.instanceMethod yX9_init, Cond.code yX9_init cX9_init 2 none, Cond.methodLink RX9 3 objectInit, Cond.classLink RX9 9 RX4, Cond.fieldLink RX9 11 "PamphletQuarrel$State" "printed" "[LPamphletQuarrel$Pamphlet;", Cond.instantiable RX4 8, Cond.initialized RX4, Cond.fieldLink RX9 18 "PamphletQuarrel$State" "blank" "LPamphletQuarrel$Pamphlet;", Cond.instanceMethod yX4_init, Cond.code yX4_init cX4_init 1 none, Cond.methodLink RX4 3 objectInit, Cond.classLink RX4 9 RX7, Cond.instantiable RX7 1, Cond.initialized RX7, Cond.fieldLink RX4 14 "PamphletQuarrel$Pamphlet" "words" "LPamphletQuarrel$Row;"]
def wsX2_init_r2 : List Cond := [Cond.fieldLink RX4 20 "PamphletQuarrel$Pamphlet" "sources" "LPamphletQuarrel$Row;", Cond.fieldLink RX4 23 "PamphletQuarrel$Pamphlet" "begins" "LPamphletQuarrel$Row;", Cond.fieldLink RX4 26 "PamphletQuarrel$Pamphlet" "lengths" "LPamphletQuarrel$Row;", Cond.methodLink RX4 11 yX7_init, Cond.instanceMethod yX7_init, Cond.code yX7_init cX7_init 2 none, Cond.methodLink RX7 1 objectInit, Cond.methodLink RX7 7 Lib.Math.max.name, Cond.static Lib.Math.max.name, Cond.initialized "java/lang/Math", Cond.code Lib.Math.max.name Lib.Math.max.code 2 (some .int), Cond.arrayClass .long, Cond.fieldLink RX7 13 "PamphletQuarrel$Row" "cells" "[J"]
def wsX2_init : List Cond := .code yX2_init cX2_init 2 none :: ((wsX2_init_r1 ++ wsX2_init_r2) ++ wsX20 ++ wsX90 ++ wsX40 ++ wsX70)
def wsX2_slot : List Cond := .code yX2_slot cX2_slot 3 (some (.object "PamphletQuarrel$State")) :: ([.fieldLink RX2 22 "PamphletQuarrel$History" "oldest" "I", .fieldLink RX2 11 "PamphletQuarrel$History" "saved" "[LPamphletQuarrel$State;"] ++ wsX20)
def wsX7_copy : List Cond := .code yX7_copy cX7_copy 3 none :: ([.fieldLink RX7 13 "PamphletQuarrel$Row" "cells" "[J", .methodLink RX7 19 arraycopyName, .native arraycopyName, .static arraycopyName, .initialized "java/lang/System"] ++ wsX70)
def wsX4_copy : List Cond := .code yX4_copy cX4_copy 2 none :: ([.fieldLink RX4 29 "PamphletQuarrel$Pamphlet" "author" "I", .fieldLink RX4 33 "PamphletQuarrel$Pamphlet" "printedOn" "I", .fieldLink RX4 36 "PamphletQuarrel$Pamphlet" "wordCount" "I", .fieldLink RX4 39 "PamphletQuarrel$Pamphlet" "quotationCount" "I", .fieldLink RX4 14 "PamphletQuarrel$Pamphlet" "words" "LPamphletQuarrel$Row;", .fieldLink RX4 20 "PamphletQuarrel$Pamphlet" "sources" "LPamphletQuarrel$Row;", .fieldLink RX4 23 "PamphletQuarrel$Pamphlet" "begins" "LPamphletQuarrel$Row;", .fieldLink RX4 26 "PamphletQuarrel$Pamphlet" "lengths" "LPamphletQuarrel$Row;", .methodLink RX4 42 yX7_copy, .instanceMethod yX7_copy, .selects RX7 yX7_copy yX7_copy, .initialized RX7, .code yX7_copy cX7_copy 3 none, .fieldLink RX7 13 "PamphletQuarrel$Row" "cells" "[J", .methodLink RX7 19 arraycopyName, .native arraycopyName, .static arraycopyName, .initialized "java/lang/System"] ++ wsX40 ++ wsX70)
def wsX9_copy_r1 : List Cond := [Cond.fieldLink RX9 22 "PamphletQuarrel$State" "count" "I", Cond.fieldLink RX9 26 "PamphletQuarrel$State" "today" "I", Cond.methodLink RX9 29 yX9_at, Cond.instanceMethod yX9_at, Cond.selects RX9 yX9_at yX9_at, Cond.initialized RX9, Cond.code yX9_at cX9_at 3 (some (.object "PamphletQuarrel$Pamphlet")), Cond.fieldLink RX9 11 "PamphletQuarrel$State" "printed" "[LPamphletQuarrel$Pamphlet;", Cond.fieldLink RX9 18 "PamphletQuarrel$State" "blank" "LPamphletQuarrel$Pamphlet;", Cond.methodLink RX9 33 yX4_copy, Cond.instanceMethod yX4_copy, Cond.selects RX4 yX4_copy yX4_copy, Cond.initialized RX4, Cond.code yX4_copy cX4_copy 2 none, Cond.fieldLink RX4 29 "PamphletQuarrel$Pamphlet" "author" "I", Cond.fieldLink RX4 33 "PamphletQuarrel$Pamphlet" "printedOn" "I", Cond.fieldLink RX4 36 "PamphletQuarrel$Pamphlet" "wordCount" "I", Cond.fieldLink RX4 39 "PamphletQuarrel$Pamphlet" "quotationCount" "I", Cond.fieldLink RX4 14 "PamphletQuarrel$Pamphlet" "words" "LPamphletQuarrel$Row;", Cond.fieldLink RX4 20 "PamphletQuarrel$Pamphlet" "sources" "LPamphletQuarrel$Row;", Cond.fieldLink RX4 23 "PamphletQuarrel$Pamphlet" "begins" "LPamphletQuarrel$Row;", Cond.fieldLink RX4 26 "PamphletQuarrel$Pamphlet" "lengths" "LPamphletQuarrel$Row;", Cond.methodLink RX4 42 yX7_copy, Cond.instanceMethod yX7_copy]
def wsX9_copy_r2 : List Cond := [Cond.selects RX7 yX7_copy yX7_copy, Cond.initialized RX7, Cond.code yX7_copy cX7_copy 3 none, Cond.fieldLink RX7 13 "PamphletQuarrel$Row" "cells" "[J", Cond.methodLink RX7 19 arraycopyName, Cond.native arraycopyName, Cond.static arraycopyName, Cond.initialized "java/lang/System"]
def wsX9_copy : List Cond := .code yX9_copy cX9_copy 3 none :: ((wsX9_copy_r1 ++ wsX9_copy_r2) ++ wsX90 ++ wsX40 ++ wsX70)
def wsX2_save_r1 : List Cond := [Cond.fieldLink RX2 26 "PamphletQuarrel$History" "size" "I", Cond.fieldLink RX2 22 "PamphletQuarrel$History" "oldest" "I", Cond.methodLink RX2 29 yX2_slot, Cond.instanceMethod yX2_slot, Cond.selects RX2 yX2_slot yX2_slot, Cond.initialized RX2, Cond.code yX2_slot cX2_slot 3 (some (.object "PamphletQuarrel$State")), Cond.fieldLink RX2 11 "PamphletQuarrel$History" "saved" "[LPamphletQuarrel$State;", Cond.methodLink RX2 33 yX9_copy, Cond.instanceMethod yX9_copy, Cond.selects RX9 yX9_copy yX9_copy, Cond.initialized RX9, Cond.code yX9_copy cX9_copy 3 none, Cond.fieldLink RX9 22 "PamphletQuarrel$State" "count" "I", Cond.fieldLink RX9 26 "PamphletQuarrel$State" "today" "I", Cond.methodLink RX9 29 yX9_at, Cond.instanceMethod yX9_at, Cond.selects RX9 yX9_at yX9_at, Cond.code yX9_at cX9_at 3 (some (.object "PamphletQuarrel$Pamphlet")), Cond.fieldLink RX9 11 "PamphletQuarrel$State" "printed" "[LPamphletQuarrel$Pamphlet;", Cond.fieldLink RX9 18 "PamphletQuarrel$State" "blank" "LPamphletQuarrel$Pamphlet;", Cond.methodLink RX9 33 yX4_copy, Cond.instanceMethod yX4_copy, Cond.selects RX4 yX4_copy yX4_copy]
def wsX2_save_r2 : List Cond := [Cond.initialized RX4, Cond.code yX4_copy cX4_copy 2 none, Cond.fieldLink RX4 29 "PamphletQuarrel$Pamphlet" "author" "I", Cond.fieldLink RX4 33 "PamphletQuarrel$Pamphlet" "printedOn" "I", Cond.fieldLink RX4 36 "PamphletQuarrel$Pamphlet" "wordCount" "I", Cond.fieldLink RX4 39 "PamphletQuarrel$Pamphlet" "quotationCount" "I", Cond.fieldLink RX4 14 "PamphletQuarrel$Pamphlet" "words" "LPamphletQuarrel$Row;", Cond.fieldLink RX4 20 "PamphletQuarrel$Pamphlet" "sources" "LPamphletQuarrel$Row;", Cond.fieldLink RX4 23 "PamphletQuarrel$Pamphlet" "begins" "LPamphletQuarrel$Row;", Cond.fieldLink RX4 26 "PamphletQuarrel$Pamphlet" "lengths" "LPamphletQuarrel$Row;", Cond.methodLink RX4 42 yX7_copy, Cond.instanceMethod yX7_copy, Cond.selects RX7 yX7_copy yX7_copy, Cond.initialized RX7, Cond.code yX7_copy cX7_copy 3 none, Cond.fieldLink RX7 13 "PamphletQuarrel$Row" "cells" "[J", Cond.methodLink RX7 19 arraycopyName, Cond.native arraycopyName, Cond.static arraycopyName, Cond.initialized "java/lang/System"]
def wsX2_save : List Cond := .code yX2_save cX2_save 3 none :: ((wsX2_save_r1 ++ wsX2_save_r2) ++ wsX20 ++ wsX90 ++ wsX40 ++ wsX70)
def wsX2_takeBack_r1 : List Cond := [Cond.fieldLink RX2 26 "PamphletQuarrel$History" "size" "I", Cond.methodLink RX2 29 yX2_slot, Cond.instanceMethod yX2_slot, Cond.selects RX2 yX2_slot yX2_slot, Cond.initialized RX2, Cond.code yX2_slot cX2_slot 3 (some (.object "PamphletQuarrel$State")), Cond.fieldLink RX2 22 "PamphletQuarrel$History" "oldest" "I", Cond.fieldLink RX2 11 "PamphletQuarrel$History" "saved" "[LPamphletQuarrel$State;", Cond.methodLink RX2 33 yX9_copy, Cond.instanceMethod yX9_copy, Cond.selects RX9 yX9_copy yX9_copy, Cond.initialized RX9, Cond.code yX9_copy cX9_copy 3 none, Cond.fieldLink RX9 22 "PamphletQuarrel$State" "count" "I", Cond.fieldLink RX9 26 "PamphletQuarrel$State" "today" "I", Cond.methodLink RX9 29 yX9_at, Cond.instanceMethod yX9_at, Cond.selects RX9 yX9_at yX9_at, Cond.code yX9_at cX9_at 3 (some (.object "PamphletQuarrel$Pamphlet")), Cond.fieldLink RX9 11 "PamphletQuarrel$State" "printed" "[LPamphletQuarrel$Pamphlet;", Cond.fieldLink RX9 18 "PamphletQuarrel$State" "blank" "LPamphletQuarrel$Pamphlet;", Cond.methodLink RX9 33 yX4_copy, Cond.instanceMethod yX4_copy, Cond.selects RX4 yX4_copy yX4_copy]
def wsX2_takeBack_r2 : List Cond := [Cond.initialized RX4, Cond.code yX4_copy cX4_copy 2 none, Cond.fieldLink RX4 29 "PamphletQuarrel$Pamphlet" "author" "I", Cond.fieldLink RX4 33 "PamphletQuarrel$Pamphlet" "printedOn" "I", Cond.fieldLink RX4 36 "PamphletQuarrel$Pamphlet" "wordCount" "I", Cond.fieldLink RX4 39 "PamphletQuarrel$Pamphlet" "quotationCount" "I", Cond.fieldLink RX4 14 "PamphletQuarrel$Pamphlet" "words" "LPamphletQuarrel$Row;", Cond.fieldLink RX4 20 "PamphletQuarrel$Pamphlet" "sources" "LPamphletQuarrel$Row;", Cond.fieldLink RX4 23 "PamphletQuarrel$Pamphlet" "begins" "LPamphletQuarrel$Row;", Cond.fieldLink RX4 26 "PamphletQuarrel$Pamphlet" "lengths" "LPamphletQuarrel$Row;", Cond.methodLink RX4 42 yX7_copy, Cond.instanceMethod yX7_copy, Cond.selects RX7 yX7_copy yX7_copy, Cond.initialized RX7, Cond.code yX7_copy cX7_copy 3 none, Cond.fieldLink RX7 13 "PamphletQuarrel$Row" "cells" "[J", Cond.methodLink RX7 19 arraycopyName, Cond.native arraycopyName, Cond.static arraycopyName, Cond.initialized "java/lang/System"]
def wsX2_takeBack : List Cond := .code yX2_takeBack cX2_takeBack 3 none :: ((wsX2_takeBack_r1 ++ wsX2_takeBack_r2) ++ wsX20 ++ wsX90 ++ wsX40 ++ wsX70)
def wsX3_init : List Cond := .code yX3_init cX3_init 1 none :: ([.methodLink RX3 3 objectInit, .instanceMethod objectInit, .code objectInit ⟨#[0xb1]⟩ 1 none, .classLink RX3 9 RX7, .instantiable RX7 1, .initialized RX7, .fieldLink RX3 14 "PamphletQuarrel$Ladders" "tallies" "LPamphletQuarrel$Row;", .methodLink RX3 11 yX7_init, .instanceMethod yX7_init, .code yX7_init cX7_init 2 none, .methodLink RX7 1 objectInit, .methodLink RX7 7 Lib.Math.max.name, .static Lib.Math.max.name, .initialized "java/lang/Math", .code Lib.Math.max.name Lib.Math.max.code 2 (some .int), .arrayClass .long, .fieldLink RX7 13 "PamphletQuarrel$Row" "cells" "[J"] ++ wsX70 ++ wsX30)
def wsX4_quotes : List Cond := .code yX4_quotes cX4_quotes 3 (some .boolean) :: ([.fieldLink RX4 39 "PamphletQuarrel$Pamphlet" "quotationCount" "I", .fieldLink RX4 20 "PamphletQuarrel$Pamphlet" "sources" "LPamphletQuarrel$Row;", .methodLink RX4 50 yX7_number, .instanceMethod yX7_number, .selects RX7 yX7_number yX7_number, .initialized RX7, .code yX7_number cX7_number 2 (some .int), .fieldLink RX7 13 "PamphletQuarrel$Row" "cells" "[J"] ++ wsX40 ++ wsX70)
def wsX3_longest_r1 : List Cond := [Cond.fieldLink RX3 14 "PamphletQuarrel$Ladders" "tallies" "LPamphletQuarrel$Row;", Cond.methodLink RX3 36 Lib.Math.max.name, Cond.static Lib.Math.max.name, Cond.initialized "java/lang/Math", Cond.code Lib.Math.max.name Lib.Math.max.code 2 (some .int), Cond.methodLink RX3 20 yX9_at, Cond.instanceMethod yX9_at, Cond.selects RX9 yX9_at yX9_at, Cond.initialized RX9, Cond.code yX9_at cX9_at 3 (some (.object "PamphletQuarrel$Pamphlet")), Cond.fieldLink RX9 11 "PamphletQuarrel$State" "printed" "[LPamphletQuarrel$Pamphlet;", Cond.fieldLink RX9 18 "PamphletQuarrel$State" "blank" "LPamphletQuarrel$Pamphlet;", Cond.methodLink RX3 26 yX4_quotes, Cond.instanceMethod yX4_quotes, Cond.selects RX4 yX4_quotes yX4_quotes, Cond.initialized RX4, Cond.code yX4_quotes cX4_quotes 3 (some .boolean), Cond.fieldLink RX4 39 "PamphletQuarrel$Pamphlet" "quotationCount" "I", Cond.fieldLink RX4 20 "PamphletQuarrel$Pamphlet" "sources" "LPamphletQuarrel$Row;", Cond.methodLink RX4 50 yX7_number, Cond.instanceMethod yX7_number, Cond.selects RX7 yX7_number yX7_number, Cond.initialized RX7, Cond.code yX7_number cX7_number 2 (some .int)]
def wsX3_longest_r2 : List Cond := [Cond.fieldLink RX7 13 "PamphletQuarrel$Row" "cells" "[J", Cond.methodLink RX3 32 yX7_number, Cond.methodLink RX3 42 yX7_put, Cond.instanceMethod yX7_put, Cond.selects RX7 yX7_put yX7_put, Cond.code yX7_put cX7_put 4 none]
def wsX3_longest : List Cond := .code yX3_longest cX3_longest 6 (some .int) :: ((wsX3_longest_r1 ++ wsX3_longest_r2) ++ wsX30 ++ wsX90 ++ wsX40 ++ wsX70)
def wsX3_fromTheGround_r1 : List Cond := [Cond.fieldLink RX3 14 "PamphletQuarrel$Ladders" "tallies" "LPamphletQuarrel$Row;", Cond.methodLink RX3 20 yX9_at, Cond.instanceMethod yX9_at, Cond.selects RX9 yX9_at yX9_at, Cond.initialized RX9, Cond.code yX9_at cX9_at 3 (some (.object "PamphletQuarrel$Pamphlet")), Cond.fieldLink RX9 11 "PamphletQuarrel$State" "printed" "[LPamphletQuarrel$Pamphlet;", Cond.fieldLink RX9 18 "PamphletQuarrel$State" "blank" "LPamphletQuarrel$Pamphlet;", Cond.methodLink RX3 26 yX4_quotes, Cond.instanceMethod yX4_quotes, Cond.selects RX4 yX4_quotes yX4_quotes, Cond.initialized RX4, Cond.code yX4_quotes cX4_quotes 3 (some .boolean), Cond.fieldLink RX4 39 "PamphletQuarrel$Pamphlet" "quotationCount" "I", Cond.fieldLink RX4 20 "PamphletQuarrel$Pamphlet" "sources" "LPamphletQuarrel$Row;", Cond.methodLink RX4 50 yX7_number, Cond.instanceMethod yX7_number, Cond.selects RX7 yX7_number yX7_number, Cond.initialized RX7, Cond.code yX7_number cX7_number 2 (some .int), Cond.fieldLink RX7 13 "PamphletQuarrel$Row" "cells" "[J", Cond.methodLink RX3 32 yX7_number, Cond.methodLink RX3 42 yX7_put, Cond.instanceMethod yX7_put]
def wsX3_fromTheGround_r2 : List Cond := [Cond.selects RX7 yX7_put yX7_put, Cond.code yX7_put cX7_put 4 none]
def wsX3_fromTheGround : List Cond := .code yX3_fromTheGround cX3_fromTheGround 6 (some .int) :: ((wsX3_fromTheGround_r1 ++ wsX3_fromTheGround_r2) ++ wsX30 ++ wsX40 ++ wsX90 ++ wsX70)
def wsX3_markSources : List Cond := .code yX3_markSources cX3_markSources 3 none :: ([.fieldLink RX3 14 "PamphletQuarrel$Ladders" "tallies" "LPamphletQuarrel$Row;", .methodLink RX3 32 yX7_number, .instanceMethod yX7_number, .selects RX7 yX7_number yX7_number, .initialized RX7, .code yX7_number cX7_number 2 (some .int), .fieldLink RX7 13 "PamphletQuarrel$Row" "cells" "[J", .methodLink RX3 42 yX7_put, .instanceMethod yX7_put, .selects RX7 yX7_put yX7_put, .code yX7_put cX7_put 4 none] ++ wsX40 ++ wsX30 ++ wsX70)
def wsX3_gatherReading : List Cond := .code yX3_gatherReading cX3_gatherReading 5 (some .int) :: ([.fieldLink RX3 14 "PamphletQuarrel$Ladders" "tallies" "LPamphletQuarrel$Row;", .methodLink RX3 42 yX7_put, .instanceMethod yX7_put, .selects RX7 yX7_put yX7_put, .initialized RX7, .code yX7_put cX7_put 4 none, .fieldLink RX7 13 "PamphletQuarrel$Row" "cells" "[J", .methodLink RX3 32 yX7_number, .instanceMethod yX7_number, .selects RX7 yX7_number yX7_number, .code yX7_number cX7_number 2 (some .int), .methodLink RX3 20 yX9_at, .instanceMethod yX9_at, .selects RX9 yX9_at yX9_at, .initialized RX9, .code yX9_at cX9_at 3 (some (.object "PamphletQuarrel$Pamphlet")), .fieldLink RX9 11 "PamphletQuarrel$State" "printed" "[LPamphletQuarrel$Pamphlet;", .fieldLink RX9 18 "PamphletQuarrel$State" "blank" "LPamphletQuarrel$Pamphlet;", .methodLink RX3 50 yX3_markSources, .instanceMethod yX3_markSources, .selects RX3 yX3_markSources yX3_markSources, .initialized RX3, .code yX3_markSources cX3_markSources 3 none] ++ wsX30 ++ wsX70 ++ wsX90 ++ wsX40)
def wsX3_readIn : List Cond := .code yX3_readIn cX3_readIn 4 (some .int) :: ([.fieldLink RX3 14 "PamphletQuarrel$Ladders" "tallies" "LPamphletQuarrel$Row;", .methodLink RX3 32 yX7_number, .instanceMethod yX7_number, .selects RX7 yX7_number yX7_number, .initialized RX7, .code yX7_number cX7_number 2 (some .int), .fieldLink RX7 13 "PamphletQuarrel$Row" "cells" "[J"] ++ wsX30 ++ wsX70)
def wsX4_empty : List Cond := .code yX4_empty cX4_empty 1 none :: ([.fieldLink RX4 36 "PamphletQuarrel$Pamphlet" "wordCount" "I", .fieldLink RX4 39 "PamphletQuarrel$Pamphlet" "quotationCount" "I"] ++ wsX40)
def wsX4_addWord : List Cond := .code yX4_addWord cX4_addWord 3 none :: ([.fieldLink RX4 14 "PamphletQuarrel$Pamphlet" "words" "LPamphletQuarrel$Row;", .fieldLink RX4 36 "PamphletQuarrel$Pamphlet" "wordCount" "I", .methodLink RX4 46 yX7_put, .instanceMethod yX7_put, .selects RX7 yX7_put yX7_put, .initialized RX7, .code yX7_put cX7_put 4 none, .fieldLink RX7 13 "PamphletQuarrel$Row" "cells" "[J"] ++ wsX40 ++ wsX70)
def wsX4_addQuotation : List Cond := .code yX4_addQuotation cX4_addQuotation 3 none :: ([.fieldLink RX4 20 "PamphletQuarrel$Pamphlet" "sources" "LPamphletQuarrel$Row;", .fieldLink RX4 39 "PamphletQuarrel$Pamphlet" "quotationCount" "I", .fieldLink RX4 23 "PamphletQuarrel$Pamphlet" "begins" "LPamphletQuarrel$Row;", .fieldLink RX4 26 "PamphletQuarrel$Pamphlet" "lengths" "LPamphletQuarrel$Row;", .fieldLink RX4 36 "PamphletQuarrel$Pamphlet" "wordCount" "I", .methodLink RX4 46 yX7_put, .instanceMethod yX7_put, .selects RX7 yX7_put yX7_put, .initialized RX7, .code yX7_put cX7_put 4 none, .fieldLink RX7 13 "PamphletQuarrel$Row" "cells" "[J"] ++ wsX40 ++ wsX70)
def wsX4_pageCount : List Cond := .code yX4_pageCount cX4_pageCount 1 (some .int) :: ([.fieldLink RX4 36 "PamphletQuarrel$Pamphlet" "wordCount" "I"] ++ wsX40)
def wsX4_isWithin : List Cond := .code yX4_isWithin cX4_isWithin 5 (some .boolean) :: ([.fieldLink RX4 23 "PamphletQuarrel$Pamphlet" "begins" "LPamphletQuarrel$Row;", .fieldLink RX4 26 "PamphletQuarrel$Pamphlet" "lengths" "LPamphletQuarrel$Row;", .methodLink RX4 50 yX7_number, .instanceMethod yX7_number, .selects RX7 yX7_number yX7_number, .initialized RX7, .code yX7_number cX7_number 2 (some .int), .fieldLink RX7 13 "PamphletQuarrel$Row" "cells" "[J"] ++ wsX40 ++ wsX70)
def wsX4_quotationAround : List Cond := .code yX4_quotationAround cX4_quotationAround 4 (some .int) :: ([.fieldLink RX4 39 "PamphletQuarrel$Pamphlet" "quotationCount" "I", .methodLink RX4 54 yX4_isWithin, .instanceMethod yX4_isWithin, .selects RX4 yX4_isWithin yX4_isWithin, .initialized RX4, .code yX4_isWithin cX4_isWithin 5 (some .boolean), .fieldLink RX4 23 "PamphletQuarrel$Pamphlet" "begins" "LPamphletQuarrel$Row;", .fieldLink RX4 26 "PamphletQuarrel$Pamphlet" "lengths" "LPamphletQuarrel$Row;", .methodLink RX4 50 yX7_number, .instanceMethod yX7_number, .selects RX7 yX7_number yX7_number, .initialized RX7, .code yX7_number cX7_number 2 (some .int), .fieldLink RX7 13 "PamphletQuarrel$Row" "cells" "[J"] ++ wsX40 ++ wsX70)
def wsX4_growth : List Cond := .code yX4_growth cX4_growth 3 (some .int) :: ([.fieldLink RX4 26 "PamphletQuarrel$Pamphlet" "lengths" "LPamphletQuarrel$Row;", .methodLink RX4 50 yX7_number, .instanceMethod yX7_number, .selects RX7 yX7_number yX7_number, .initialized RX7, .code yX7_number cX7_number 2 (some .int), .fieldLink RX7 13 "PamphletQuarrel$Row" "cells" "[J"] ++ wsX40 ++ wsX70)
def wsX7_move : List Cond := .code yX7_move cX7_move 4 none :: ([.fieldLink RX7 13 "PamphletQuarrel$Row" "cells" "[J", .methodLink RX7 19 arraycopyName, .native arraycopyName, .static arraycopyName, .initialized "java/lang/System"] ++ wsX70)
def wsX4_replace_r1 : List Cond := [Cond.fieldLink RX4 23 "PamphletQuarrel$Pamphlet" "begins" "LPamphletQuarrel$Row;", Cond.fieldLink RX4 26 "PamphletQuarrel$Pamphlet" "lengths" "LPamphletQuarrel$Row;", Cond.fieldLink RX4 14 "PamphletQuarrel$Pamphlet" "words" "LPamphletQuarrel$Row;", Cond.fieldLink RX4 36 "PamphletQuarrel$Pamphlet" "wordCount" "I", Cond.fieldLink RX4 39 "PamphletQuarrel$Pamphlet" "quotationCount" "I", Cond.methodLink RX4 50 yX7_number, Cond.instanceMethod yX7_number, Cond.selects RX7 yX7_number yX7_number, Cond.initialized RX7, Cond.code yX7_number cX7_number 2 (some .int), Cond.fieldLink RX7 13 "PamphletQuarrel$Row" "cells" "[J", Cond.methodLink RX4 58 yX4_growth, Cond.instanceMethod yX4_growth, Cond.selects RX4 yX4_growth yX4_growth, Cond.initialized RX4, Cond.code yX4_growth cX4_growth 3 (some .int), Cond.methodLink RX4 62 yX7_move, Cond.instanceMethod yX7_move, Cond.selects RX7 yX7_move yX7_move, Cond.code yX7_move cX7_move 4 none, Cond.methodLink RX7 19 arraycopyName, Cond.native arraycopyName, Cond.static arraycopyName, Cond.initialized "java/lang/System"]
def wsX4_replace_r2 : List Cond := [Cond.methodLink RX4 66 yX7_at, Cond.instanceMethod yX7_at, Cond.selects RX7 yX7_at yX7_at, Cond.code yX7_at cX7_at 2 (some .long), Cond.methodLink RX4 46 yX7_put, Cond.instanceMethod yX7_put, Cond.selects RX7 yX7_put yX7_put, Cond.code yX7_put cX7_put 4 none]
def wsX4_replace : List Cond := .code yX4_replace cX4_replace 9 none :: ((wsX4_replace_r1 ++ wsX4_replace_r2) ++ wsX40 ++ wsX70)
def wsX8_init : List Cond := .code yX8_init cX8_init 1 none :: ([.methodLink RX8 3 objectInit, .instanceMethod objectInit, .code objectInit ⟨#[0xb1]⟩ 1 none, .classLink RX8 9 RX7, .instantiable RX7 1, .initialized RX7, .fieldLink RX8 14 "PamphletQuarrel$Search" "cells" "LPamphletQuarrel$Row;", .methodLink RX8 11 yX7_init, .instanceMethod yX7_init, .code yX7_init cX7_init 2 none, .methodLink RX7 1 objectInit, .methodLink RX7 7 Lib.Math.max.name, .static Lib.Math.max.name, .initialized "java/lang/Math", .code Lib.Math.max.name Lib.Math.max.code 2 (some .int), .arrayClass .long, .fieldLink RX7 13 "PamphletQuarrel$Row" "cells" "[J"] ++ wsX70 ++ wsX80)
def wsX5_init : List Cond := .code yX5_init cX5_init 1 none :: ([.methodLink RX5 3 objectInit, .instanceMethod objectInit, .code objectInit ⟨#[0xb1]⟩ 1 none, .classLink RX5 9 RX8, .instantiable RX8 4, .initialized RX8, .fieldLink RX5 12 "PamphletQuarrel$Quotations" "search" "LPamphletQuarrel$Search;", .instanceMethod yX8_init, .code yX8_init cX8_init 1 none, .methodLink RX8 3 objectInit, .classLink RX8 9 RX7, .instantiable RX7 1, .initialized RX7, .fieldLink RX8 14 "PamphletQuarrel$Search" "cells" "LPamphletQuarrel$Row;", .methodLink RX8 11 yX7_init, .instanceMethod yX7_init, .code yX7_init cX7_init 2 none, .methodLink RX7 1 objectInit, .methodLink RX7 7 Lib.Math.max.name, .static Lib.Math.max.name, .initialized "java/lang/Math", .code Lib.Math.max.name Lib.Math.max.code 2 (some .int), .arrayClass .long, .fieldLink RX7 13 "PamphletQuarrel$Row" "cells" "[J"] ++ wsX80 ++ wsX50 ++ wsX70)
def wsX8_takeWord : List Cond := .code yX8_takeWord cX8_takeWord 11 none :: ([.fieldLink RX8 14 "PamphletQuarrel$Search" "cells" "LPamphletQuarrel$Row;", .methodLink RX8 67 Lib.Math.min.name, .static Lib.Math.min.name, .initialized "java/lang/Math", .code Lib.Math.min.name Lib.Math.min.code 2 (some .int), .methodLink RX8 25 yX7_number, .instanceMethod yX7_number, .selects RX7 yX7_number yX7_number, .initialized RX7, .code yX7_number cX7_number 2 (some .int), .fieldLink RX7 13 "PamphletQuarrel$Row" "cells" "[J", .methodLink RX8 36 yX7_put, .instanceMethod yX7_put, .selects RX7 yX7_put yX7_put, .code yX7_put cX7_put 4 none, .methodLink RX8 43 yX7_at, .instanceMethod yX7_at, .selects RX7 yX7_at yX7_at, .code yX7_at cX7_at 2 (some .long)] ++ wsX80 ++ wsX40 ++ wsX70)
def wsX8_chooseEnd : List Cond := .code yX8_chooseEnd cX8_chooseEnd 4 none :: ([.fieldLink RX8 14 "PamphletQuarrel$Search" "cells" "LPamphletQuarrel$Row;", .fieldLink RX8 54 "PamphletQuarrel$Search" "changes" "I", .fieldLink RX8 57 "PamphletQuarrel$Search" "begin" "I", .fieldLink RX8 60 "PamphletQuarrel$Search" "length" "I", .methodLink RX8 25 yX7_number, .instanceMethod yX7_number, .selects RX7 yX7_number yX7_number, .initialized RX7, .code yX7_number cX7_number 2 (some .int), .fieldLink RX7 13 "PamphletQuarrel$Row" "cells" "[J"] ++ wsX80 ++ wsX70)
def wsX8_byTable_r1 : List Cond := [Cond.fieldLink RX8 14 "PamphletQuarrel$Search" "cells" "LPamphletQuarrel$Row;", Cond.methodLink RX8 25 yX7_number, Cond.instanceMethod yX7_number, Cond.selects RX7 yX7_number yX7_number, Cond.initialized RX7, Cond.code yX7_number cX7_number 2 (some .int), Cond.fieldLink RX7 13 "PamphletQuarrel$Row" "cells" "[J", Cond.methodLink RX8 36 yX7_put, Cond.instanceMethod yX7_put, Cond.selects RX7 yX7_put yX7_put, Cond.code yX7_put cX7_put 4 none, Cond.methodLink RX8 43 yX7_at, Cond.instanceMethod yX7_at, Cond.selects RX7 yX7_at yX7_at, Cond.code yX7_at cX7_at 2 (some .long), Cond.methodLink RX8 47 yX8_takeWord, Cond.instanceMethod yX8_takeWord, Cond.selects RX8 yX8_takeWord yX8_takeWord, Cond.initialized RX8, Cond.code yX8_takeWord cX8_takeWord 11 none, Cond.methodLink RX8 67 Lib.Math.min.name, Cond.static Lib.Math.min.name, Cond.initialized "java/lang/Math", Cond.code Lib.Math.min.name Lib.Math.min.code 2 (some .int)]
def wsX8_byTable_r2 : List Cond := [Cond.methodLink RX8 51 yX8_chooseEnd, Cond.instanceMethod yX8_chooseEnd, Cond.selects RX8 yX8_chooseEnd yX8_chooseEnd, Cond.code yX8_chooseEnd cX8_chooseEnd 4 none, Cond.fieldLink RX8 54 "PamphletQuarrel$Search" "changes" "I", Cond.fieldLink RX8 57 "PamphletQuarrel$Search" "begin" "I", Cond.fieldLink RX8 60 "PamphletQuarrel$Search" "length" "I"]
def wsX8_byTable : List Cond := .code yX8_byTable cX8_byTable 7 none :: ((wsX8_byTable_r1 ++ wsX8_byTable_r2) ++ wsX40 ++ wsX80 ++ wsX70)
def wsX5_find_r1 : List Cond := [Cond.fieldLink RX5 12 "PamphletQuarrel$Quotations" "search" "LPamphletQuarrel$Search;", Cond.methodLink RX5 18 yX9_at, Cond.instanceMethod yX9_at, Cond.selects RX9 yX9_at yX9_at, Cond.initialized RX9, Cond.code yX9_at cX9_at 3 (some (.object "PamphletQuarrel$Pamphlet")), Cond.fieldLink RX9 11 "PamphletQuarrel$State" "printed" "[LPamphletQuarrel$Pamphlet;", Cond.fieldLink RX9 18 "PamphletQuarrel$State" "blank" "LPamphletQuarrel$Pamphlet;", Cond.methodLink RX5 30 yX7_number, Cond.instanceMethod yX7_number, Cond.selects RX7 yX7_number yX7_number, Cond.initialized RX7, Cond.code yX7_number cX7_number 2 (some .int), Cond.fieldLink RX7 13 "PamphletQuarrel$Row" "cells" "[J", Cond.methodLink RX5 36 yX8_byTable, Cond.instanceMethod yX8_byTable, Cond.selects RX8 yX8_byTable yX8_byTable, Cond.initialized RX8, Cond.code yX8_byTable cX8_byTable 7 none, Cond.fieldLink RX8 14 "PamphletQuarrel$Search" "cells" "LPamphletQuarrel$Row;", Cond.methodLink RX8 25 yX7_number, Cond.methodLink RX8 36 yX7_put, Cond.instanceMethod yX7_put, Cond.selects RX7 yX7_put yX7_put]
def wsX5_find_r2 : List Cond := [Cond.code yX7_put cX7_put 4 none, Cond.methodLink RX8 43 yX7_at, Cond.instanceMethod yX7_at, Cond.selects RX7 yX7_at yX7_at, Cond.code yX7_at cX7_at 2 (some .long), Cond.methodLink RX8 47 yX8_takeWord, Cond.instanceMethod yX8_takeWord, Cond.selects RX8 yX8_takeWord yX8_takeWord, Cond.code yX8_takeWord cX8_takeWord 11 none, Cond.methodLink RX8 67 Lib.Math.min.name, Cond.static Lib.Math.min.name, Cond.initialized "java/lang/Math", Cond.code Lib.Math.min.name Lib.Math.min.code 2 (some .int), Cond.methodLink RX8 51 yX8_chooseEnd, Cond.instanceMethod yX8_chooseEnd, Cond.selects RX8 yX8_chooseEnd yX8_chooseEnd, Cond.code yX8_chooseEnd cX8_chooseEnd 4 none, Cond.fieldLink RX8 54 "PamphletQuarrel$Search" "changes" "I", Cond.fieldLink RX8 57 "PamphletQuarrel$Search" "begin" "I", Cond.fieldLink RX8 60 "PamphletQuarrel$Search" "length" "I"]
def wsX5_find : List Cond := .code yX5_find cX5_find 5 (some .int) :: ((wsX5_find_r1 ++ wsX5_find_r2) ++ wsX50 ++ wsX40 ++ wsX80 ++ wsX90 ++ wsX70)
def wsX8_leastFrom : List Cond := .code yX8_leastFrom cX8_leastFrom 9 (some .int) :: ([.fieldLink RX8 14 "PamphletQuarrel$Search" "cells" "LPamphletQuarrel$Row;", .methodLink RX8 67 Lib.Math.min.name, .static Lib.Math.min.name, .initialized "java/lang/Math", .code Lib.Math.min.name Lib.Math.min.code 2 (some .int), .methodLink RX8 25 yX7_number, .instanceMethod yX7_number, .selects RX7 yX7_number yX7_number, .initialized RX7, .code yX7_number cX7_number 2 (some .int), .fieldLink RX7 13 "PamphletQuarrel$Row" "cells" "[J", .methodLink RX8 36 yX7_put, .instanceMethod yX7_put, .selects RX7 yX7_put yX7_put, .code yX7_put cX7_put 4 none, .methodLink RX8 43 yX7_at, .instanceMethod yX7_at, .selects RX7 yX7_at yX7_at, .code yX7_at cX7_at 2 (some .long), .methodLink RX8 47 yX8_takeWord, .instanceMethod yX8_takeWord, .selects RX8 yX8_takeWord yX8_takeWord, .initialized RX8, .code yX8_takeWord cX8_takeWord 11 none] ++ wsX40 ++ wsX80 ++ wsX70)
def wsX8_byPassages_r1 : List Cond := [Cond.methodLink RX8 67 Lib.Math.min.name, Cond.static Lib.Math.min.name, Cond.initialized "java/lang/Math", Cond.code Lib.Math.min.name Lib.Math.min.code 2 (some .int), Cond.methodLink RX8 25 yX7_number, Cond.instanceMethod yX7_number, Cond.selects RX7 yX7_number yX7_number, Cond.initialized RX7, Cond.code yX7_number cX7_number 2 (some .int), Cond.fieldLink RX7 13 "PamphletQuarrel$Row" "cells" "[J", Cond.methodLink RX8 63 yX8_leastFrom, Cond.instanceMethod yX8_leastFrom, Cond.selects RX8 yX8_leastFrom yX8_leastFrom, Cond.initialized RX8, Cond.code yX8_leastFrom cX8_leastFrom 9 (some .int), Cond.fieldLink RX8 14 "PamphletQuarrel$Search" "cells" "LPamphletQuarrel$Row;", Cond.methodLink RX8 36 yX7_put, Cond.instanceMethod yX7_put, Cond.selects RX7 yX7_put yX7_put, Cond.code yX7_put cX7_put 4 none, Cond.methodLink RX8 43 yX7_at, Cond.instanceMethod yX7_at, Cond.selects RX7 yX7_at yX7_at, Cond.code yX7_at cX7_at 2 (some .long)]
def wsX8_byPassages_r2 : List Cond := [Cond.methodLink RX8 47 yX8_takeWord, Cond.instanceMethod yX8_takeWord, Cond.selects RX8 yX8_takeWord yX8_takeWord, Cond.code yX8_takeWord cX8_takeWord 11 none]
def wsX8_byPassages : List Cond := .code yX8_byPassages cX8_byPassages 7 (some .int) :: ((wsX8_byPassages_r1 ++ wsX8_byPassages_r2) ++ wsX40 ++ wsX70 ++ wsX80)
def wsX5_findByPassages_r1 : List Cond := [Cond.fieldLink RX5 12 "PamphletQuarrel$Quotations" "search" "LPamphletQuarrel$Search;", Cond.methodLink RX5 18 yX9_at, Cond.instanceMethod yX9_at, Cond.selects RX9 yX9_at yX9_at, Cond.initialized RX9, Cond.code yX9_at cX9_at 3 (some (.object "PamphletQuarrel$Pamphlet")), Cond.fieldLink RX9 11 "PamphletQuarrel$State" "printed" "[LPamphletQuarrel$Pamphlet;", Cond.fieldLink RX9 18 "PamphletQuarrel$State" "blank" "LPamphletQuarrel$Pamphlet;", Cond.methodLink RX5 30 yX7_number, Cond.instanceMethod yX7_number, Cond.selects RX7 yX7_number yX7_number, Cond.initialized RX7, Cond.code yX7_number cX7_number 2 (some .int), Cond.fieldLink RX7 13 "PamphletQuarrel$Row" "cells" "[J", Cond.methodLink RX5 44 yX8_byPassages, Cond.instanceMethod yX8_byPassages, Cond.selects RX8 yX8_byPassages yX8_byPassages, Cond.initialized RX8, Cond.code yX8_byPassages cX8_byPassages 7 (some .int), Cond.methodLink RX8 67 Lib.Math.min.name, Cond.static Lib.Math.min.name, Cond.initialized "java/lang/Math", Cond.code Lib.Math.min.name Lib.Math.min.code 2 (some .int), Cond.methodLink RX8 25 yX7_number]
def wsX5_findByPassages_r2 : List Cond := [Cond.methodLink RX8 63 yX8_leastFrom, Cond.instanceMethod yX8_leastFrom, Cond.selects RX8 yX8_leastFrom yX8_leastFrom, Cond.code yX8_leastFrom cX8_leastFrom 9 (some .int), Cond.fieldLink RX8 14 "PamphletQuarrel$Search" "cells" "LPamphletQuarrel$Row;", Cond.methodLink RX8 36 yX7_put, Cond.instanceMethod yX7_put, Cond.selects RX7 yX7_put yX7_put, Cond.code yX7_put cX7_put 4 none, Cond.methodLink RX8 43 yX7_at, Cond.instanceMethod yX7_at, Cond.selects RX7 yX7_at yX7_at, Cond.code yX7_at cX7_at 2 (some .long), Cond.methodLink RX8 47 yX8_takeWord, Cond.instanceMethod yX8_takeWord, Cond.selects RX8 yX8_takeWord yX8_takeWord, Cond.code yX8_takeWord cX8_takeWord 11 none]
def wsX5_findByPassages : List Cond := .code yX5_findByPassages cX5_findByPassages 6 (some .int) :: ((wsX5_findByPassages_r1 ++ wsX5_findByPassages_r2) ++ wsX40 ++ wsX50 ++ wsX90 ++ wsX70 ++ wsX80)
def wsX5_findAtOrigin_r1 : List Cond := [Cond.fieldLink RX5 12 "PamphletQuarrel$Quotations" "search" "LPamphletQuarrel$Search;", Cond.fieldLink RX5 48 "PamphletQuarrel$Quotations" "origin" "I", Cond.methodLink RX5 18 yX9_at, Cond.instanceMethod yX9_at, Cond.selects RX9 yX9_at yX9_at, Cond.initialized RX9, Cond.code yX9_at cX9_at 3 (some (.object "PamphletQuarrel$Pamphlet")), Cond.fieldLink RX9 11 "PamphletQuarrel$State" "printed" "[LPamphletQuarrel$Pamphlet;", Cond.fieldLink RX9 18 "PamphletQuarrel$State" "blank" "LPamphletQuarrel$Pamphlet;", Cond.methodLink RX5 36 yX8_byTable, Cond.instanceMethod yX8_byTable, Cond.selects RX8 yX8_byTable yX8_byTable, Cond.initialized RX8, Cond.code yX8_byTable cX8_byTable 7 none, Cond.fieldLink RX8 14 "PamphletQuarrel$Search" "cells" "LPamphletQuarrel$Row;", Cond.methodLink RX8 25 yX7_number, Cond.instanceMethod yX7_number, Cond.selects RX7 yX7_number yX7_number, Cond.initialized RX7, Cond.code yX7_number cX7_number 2 (some .int), Cond.fieldLink RX7 13 "PamphletQuarrel$Row" "cells" "[J", Cond.methodLink RX8 36 yX7_put, Cond.instanceMethod yX7_put, Cond.selects RX7 yX7_put yX7_put]
def wsX5_findAtOrigin_r2 : List Cond := [Cond.code yX7_put cX7_put 4 none, Cond.methodLink RX8 43 yX7_at, Cond.instanceMethod yX7_at, Cond.selects RX7 yX7_at yX7_at, Cond.code yX7_at cX7_at 2 (some .long), Cond.methodLink RX8 47 yX8_takeWord, Cond.instanceMethod yX8_takeWord, Cond.selects RX8 yX8_takeWord yX8_takeWord, Cond.code yX8_takeWord cX8_takeWord 11 none, Cond.methodLink RX8 67 Lib.Math.min.name, Cond.static Lib.Math.min.name, Cond.initialized "java/lang/Math", Cond.code Lib.Math.min.name Lib.Math.min.code 2 (some .int), Cond.methodLink RX8 51 yX8_chooseEnd, Cond.instanceMethod yX8_chooseEnd, Cond.selects RX8 yX8_chooseEnd yX8_chooseEnd, Cond.code yX8_chooseEnd cX8_chooseEnd 4 none, Cond.fieldLink RX8 54 "PamphletQuarrel$Search" "changes" "I", Cond.fieldLink RX8 57 "PamphletQuarrel$Search" "begin" "I", Cond.fieldLink RX8 60 "PamphletQuarrel$Search" "length" "I"]
def wsX5_findAtOrigin : List Cond := .code yX5_findAtOrigin cX5_findAtOrigin 4 (some .int) :: ((wsX5_findAtOrigin_r1 ++ wsX5_findAtOrigin_r2) ++ wsX50 ++ wsX80 ++ wsX90 ++ wsX40 ++ wsX70)
def wsX5_parent_r1 : List Cond := [Cond.fieldLink RX5 12 "PamphletQuarrel$Quotations" "search" "LPamphletQuarrel$Search;", Cond.methodLink RX5 51 yX5_find, Cond.instanceMethod yX5_find, Cond.selects RX5 yX5_find yX5_find, Cond.initialized RX5, Cond.code yX5_find cX5_find 5 (some .int), Cond.methodLink RX5 18 yX9_at, Cond.instanceMethod yX9_at, Cond.selects RX9 yX9_at yX9_at, Cond.initialized RX9, Cond.code yX9_at cX9_at 3 (some (.object "PamphletQuarrel$Pamphlet")), Cond.fieldLink RX9 11 "PamphletQuarrel$State" "printed" "[LPamphletQuarrel$Pamphlet;", Cond.fieldLink RX9 18 "PamphletQuarrel$State" "blank" "LPamphletQuarrel$Pamphlet;", Cond.methodLink RX5 30 yX7_number, Cond.instanceMethod yX7_number, Cond.selects RX7 yX7_number yX7_number, Cond.initialized RX7, Cond.code yX7_number cX7_number 2 (some .int), Cond.fieldLink RX7 13 "PamphletQuarrel$Row" "cells" "[J", Cond.methodLink RX5 36 yX8_byTable, Cond.instanceMethod yX8_byTable, Cond.selects RX8 yX8_byTable yX8_byTable, Cond.initialized RX8, Cond.code yX8_byTable cX8_byTable 7 none]
def wsX5_parent_r2 : List Cond := [Cond.fieldLink RX8 14 "PamphletQuarrel$Search" "cells" "LPamphletQuarrel$Row;", Cond.methodLink RX8 25 yX7_number, Cond.methodLink RX8 36 yX7_put, Cond.instanceMethod yX7_put, Cond.selects RX7 yX7_put yX7_put, Cond.code yX7_put cX7_put 4 none, Cond.methodLink RX8 43 yX7_at, Cond.instanceMethod yX7_at, Cond.selects RX7 yX7_at yX7_at, Cond.code yX7_at cX7_at 2 (some .long), Cond.methodLink RX8 47 yX8_takeWord, Cond.instanceMethod yX8_takeWord, Cond.selects RX8 yX8_takeWord yX8_takeWord, Cond.code yX8_takeWord cX8_takeWord 11 none, Cond.methodLink RX8 67 Lib.Math.min.name, Cond.static Lib.Math.min.name, Cond.initialized "java/lang/Math", Cond.code Lib.Math.min.name Lib.Math.min.code 2 (some .int), Cond.methodLink RX8 51 yX8_chooseEnd, Cond.instanceMethod yX8_chooseEnd, Cond.selects RX8 yX8_chooseEnd yX8_chooseEnd, Cond.code yX8_chooseEnd cX8_chooseEnd 4 none, Cond.fieldLink RX8 54 "PamphletQuarrel$Search" "changes" "I", Cond.fieldLink RX8 57 "PamphletQuarrel$Search" "begin" "I"]
def wsX5_parent_r3 : List Cond := [Cond.fieldLink RX8 60 "PamphletQuarrel$Search" "length" "I", Cond.methodLink RX5 61 yX4_quotationAround, Cond.instanceMethod yX4_quotationAround, Cond.selects RX4 yX4_quotationAround yX4_quotationAround, Cond.initialized RX4, Cond.code yX4_quotationAround cX4_quotationAround 4 (some .int), Cond.fieldLink RX4 39 "PamphletQuarrel$Pamphlet" "quotationCount" "I", Cond.methodLink RX4 54 yX4_isWithin, Cond.instanceMethod yX4_isWithin, Cond.selects RX4 yX4_isWithin yX4_isWithin, Cond.code yX4_isWithin cX4_isWithin 5 (some .boolean), Cond.fieldLink RX4 23 "PamphletQuarrel$Pamphlet" "begins" "LPamphletQuarrel$Row;", Cond.fieldLink RX4 26 "PamphletQuarrel$Pamphlet" "lengths" "LPamphletQuarrel$Row;", Cond.methodLink RX4 50 yX7_number]
def wsX5_parent : List Cond := .code yX5_parent cX5_parent 5 (some .int) :: ((wsX5_parent_r1 ++ (wsX5_parent_r2 ++ wsX5_parent_r3)) ++ wsX40 ++ wsX50 ++ wsX80 ++ wsX90 ++ wsX70)
def wsX5_trace_r1 : List Cond := [Cond.fieldLink RX5 65 "PamphletQuarrel$Quotations" "traced" "I", Cond.fieldLink RX5 48 "PamphletQuarrel$Quotations" "origin" "I", Cond.methodLink RX5 18 yX9_at, Cond.instanceMethod yX9_at, Cond.selects RX9 yX9_at yX9_at, Cond.initialized RX9, Cond.code yX9_at cX9_at 3 (some (.object "PamphletQuarrel$Pamphlet")), Cond.fieldLink RX9 11 "PamphletQuarrel$State" "printed" "[LPamphletQuarrel$Pamphlet;", Cond.fieldLink RX9 18 "PamphletQuarrel$State" "blank" "LPamphletQuarrel$Pamphlet;", Cond.methodLink RX5 30 yX7_number, Cond.instanceMethod yX7_number, Cond.selects RX7 yX7_number yX7_number, Cond.initialized RX7, Cond.code yX7_number cX7_number 2 (some .int), Cond.fieldLink RX7 13 "PamphletQuarrel$Row" "cells" "[J", Cond.methodLink RX5 68 yX5_parent, Cond.instanceMethod yX5_parent, Cond.selects RX5 yX5_parent yX5_parent, Cond.initialized RX5, Cond.code yX5_parent cX5_parent 5 (some .int), Cond.fieldLink RX5 12 "PamphletQuarrel$Quotations" "search" "LPamphletQuarrel$Search;", Cond.methodLink RX5 51 yX5_find, Cond.instanceMethod yX5_find, Cond.selects RX5 yX5_find yX5_find]
def wsX5_trace_r2 : List Cond := [Cond.code yX5_find cX5_find 5 (some .int), Cond.methodLink RX5 36 yX8_byTable, Cond.instanceMethod yX8_byTable, Cond.selects RX8 yX8_byTable yX8_byTable, Cond.initialized RX8, Cond.code yX8_byTable cX8_byTable 7 none, Cond.fieldLink RX8 14 "PamphletQuarrel$Search" "cells" "LPamphletQuarrel$Row;", Cond.methodLink RX8 25 yX7_number, Cond.methodLink RX8 36 yX7_put, Cond.instanceMethod yX7_put, Cond.selects RX7 yX7_put yX7_put, Cond.code yX7_put cX7_put 4 none, Cond.methodLink RX8 43 yX7_at, Cond.instanceMethod yX7_at, Cond.selects RX7 yX7_at yX7_at, Cond.code yX7_at cX7_at 2 (some .long), Cond.methodLink RX8 47 yX8_takeWord, Cond.instanceMethod yX8_takeWord, Cond.selects RX8 yX8_takeWord yX8_takeWord, Cond.code yX8_takeWord cX8_takeWord 11 none, Cond.methodLink RX8 67 Lib.Math.min.name, Cond.static Lib.Math.min.name, Cond.initialized "java/lang/Math", Cond.code Lib.Math.min.name Lib.Math.min.code 2 (some .int)]
def wsX5_trace_r3 : List Cond := [Cond.methodLink RX8 51 yX8_chooseEnd, Cond.instanceMethod yX8_chooseEnd, Cond.selects RX8 yX8_chooseEnd yX8_chooseEnd, Cond.code yX8_chooseEnd cX8_chooseEnd 4 none, Cond.fieldLink RX8 54 "PamphletQuarrel$Search" "changes" "I", Cond.fieldLink RX8 57 "PamphletQuarrel$Search" "begin" "I", Cond.fieldLink RX8 60 "PamphletQuarrel$Search" "length" "I", Cond.methodLink RX5 61 yX4_quotationAround, Cond.instanceMethod yX4_quotationAround, Cond.selects RX4 yX4_quotationAround yX4_quotationAround, Cond.initialized RX4, Cond.code yX4_quotationAround cX4_quotationAround 4 (some .int), Cond.fieldLink RX4 39 "PamphletQuarrel$Pamphlet" "quotationCount" "I", Cond.methodLink RX4 54 yX4_isWithin, Cond.instanceMethod yX4_isWithin, Cond.selects RX4 yX4_isWithin yX4_isWithin, Cond.code yX4_isWithin cX4_isWithin 5 (some .boolean), Cond.fieldLink RX4 23 "PamphletQuarrel$Pamphlet" "begins" "LPamphletQuarrel$Row;", Cond.fieldLink RX4 26 "PamphletQuarrel$Pamphlet" "lengths" "LPamphletQuarrel$Row;", Cond.methodLink RX4 50 yX7_number]
def wsX5_trace : List Cond := .code yX5_trace cX5_trace 6 none :: ((wsX5_trace_r1 ++ (wsX5_trace_r2 ++ wsX5_trace_r3)) ++ wsX50 ++ wsX40 ++ wsX90 ++ wsX70 ++ wsX80)
def wsX5_children_r1 : List Cond := [Cond.fieldLink RX5 12 "PamphletQuarrel$Quotations" "search" "LPamphletQuarrel$Search;", Cond.methodLink RX5 18 yX9_at, Cond.instanceMethod yX9_at, Cond.selects RX9 yX9_at yX9_at, Cond.initialized RX9, Cond.code yX9_at cX9_at 3 (some (.object "PamphletQuarrel$Pamphlet")), Cond.fieldLink RX9 11 "PamphletQuarrel$State" "printed" "[LPamphletQuarrel$Pamphlet;", Cond.fieldLink RX9 18 "PamphletQuarrel$State" "blank" "LPamphletQuarrel$Pamphlet;", Cond.methodLink RX5 30 yX7_number, Cond.instanceMethod yX7_number, Cond.selects RX7 yX7_number yX7_number, Cond.initialized RX7, Cond.code yX7_number cX7_number 2 (some .int), Cond.fieldLink RX7 13 "PamphletQuarrel$Row" "cells" "[J", Cond.methodLink RX5 51 yX5_find, Cond.instanceMethod yX5_find, Cond.selects RX5 yX5_find yX5_find, Cond.initialized RX5, Cond.code yX5_find cX5_find 5 (some .int), Cond.methodLink RX5 36 yX8_byTable, Cond.instanceMethod yX8_byTable, Cond.selects RX8 yX8_byTable yX8_byTable, Cond.initialized RX8, Cond.code yX8_byTable cX8_byTable 7 none]
def wsX5_children_r2 : List Cond := [Cond.fieldLink RX8 14 "PamphletQuarrel$Search" "cells" "LPamphletQuarrel$Row;", Cond.methodLink RX8 25 yX7_number, Cond.methodLink RX8 36 yX7_put, Cond.instanceMethod yX7_put, Cond.selects RX7 yX7_put yX7_put, Cond.code yX7_put cX7_put 4 none, Cond.methodLink RX8 43 yX7_at, Cond.instanceMethod yX7_at, Cond.selects RX7 yX7_at yX7_at, Cond.code yX7_at cX7_at 2 (some .long), Cond.methodLink RX8 47 yX8_takeWord, Cond.instanceMethod yX8_takeWord, Cond.selects RX8 yX8_takeWord yX8_takeWord, Cond.code yX8_takeWord cX8_takeWord 11 none, Cond.methodLink RX8 67 Lib.Math.min.name, Cond.static Lib.Math.min.name, Cond.initialized "java/lang/Math", Cond.code Lib.Math.min.name Lib.Math.min.code 2 (some .int), Cond.methodLink RX8 51 yX8_chooseEnd, Cond.instanceMethod yX8_chooseEnd, Cond.selects RX8 yX8_chooseEnd yX8_chooseEnd, Cond.code yX8_chooseEnd cX8_chooseEnd 4 none, Cond.fieldLink RX8 54 "PamphletQuarrel$Search" "changes" "I", Cond.fieldLink RX8 57 "PamphletQuarrel$Search" "begin" "I"]
def wsX5_children_r3 : List Cond := [Cond.fieldLink RX8 60 "PamphletQuarrel$Search" "length" "I", Cond.methodLink RX5 77 yX4_isWithin, Cond.instanceMethod yX4_isWithin, Cond.selects RX4 yX4_isWithin yX4_isWithin, Cond.initialized RX4, Cond.code yX4_isWithin cX4_isWithin 5 (some .boolean), Cond.fieldLink RX4 23 "PamphletQuarrel$Pamphlet" "begins" "LPamphletQuarrel$Row;", Cond.fieldLink RX4 26 "PamphletQuarrel$Pamphlet" "lengths" "LPamphletQuarrel$Row;", Cond.methodLink RX4 50 yX7_number]
def wsX5_children : List Cond := .code yX5_children cX5_children 9 (some .int) :: ((wsX5_children_r1 ++ (wsX5_children_r2 ++ wsX5_children_r3)) ++ wsX90 ++ wsX40 ++ wsX50 ++ wsX80 ++ wsX70)
def wsX5_isRoomFor : List Cond := .code yX5_isRoomFor cX5_isRoomFor 5 (some .boolean) :: ([.fieldLink RX5 12 "PamphletQuarrel$Quotations" "search" "LPamphletQuarrel$Search;", .methodLink RX5 18 yX9_at, .instanceMethod yX9_at, .selects RX9 yX9_at yX9_at, .initialized RX9, .code yX9_at cX9_at 3 (some (.object "PamphletQuarrel$Pamphlet")), .fieldLink RX9 11 "PamphletQuarrel$State" "printed" "[LPamphletQuarrel$Pamphlet;", .fieldLink RX9 18 "PamphletQuarrel$State" "blank" "LPamphletQuarrel$Pamphlet;", .methodLink RX5 84 yX4_growth, .instanceMethod yX4_growth, .selects RX4 yX4_growth yX4_growth, .initialized RX4, .code yX4_growth cX4_growth 3 (some .int), .fieldLink RX4 26 "PamphletQuarrel$Pamphlet" "lengths" "LPamphletQuarrel$Row;", .methodLink RX4 50 yX7_number, .instanceMethod yX7_number, .selects RX7 yX7_number yX7_number, .initialized RX7, .code yX7_number cX7_number 2 (some .int), .fieldLink RX7 13 "PamphletQuarrel$Row" "cells" "[J"] ++ wsX40 ++ wsX50 ++ wsX80 ++ wsX90 ++ wsX70)
def wsX5_putRight_r1 : List Cond := [Cond.fieldLink RX5 12 "PamphletQuarrel$Quotations" "search" "LPamphletQuarrel$Search;", Cond.methodLink RX5 18 yX9_at, Cond.instanceMethod yX9_at, Cond.selects RX9 yX9_at yX9_at, Cond.initialized RX9, Cond.code yX9_at cX9_at 3 (some (.object "PamphletQuarrel$Pamphlet")), Cond.fieldLink RX9 11 "PamphletQuarrel$State" "printed" "[LPamphletQuarrel$Pamphlet;", Cond.fieldLink RX9 18 "PamphletQuarrel$State" "blank" "LPamphletQuarrel$Pamphlet;", Cond.methodLink RX5 30 yX7_number, Cond.instanceMethod yX7_number, Cond.selects RX7 yX7_number yX7_number, Cond.initialized RX7, Cond.code yX7_number cX7_number 2 (some .int), Cond.fieldLink RX7 13 "PamphletQuarrel$Row" "cells" "[J", Cond.methodLink RX5 87 yX4_replace, Cond.instanceMethod yX4_replace, Cond.selects RX4 yX4_replace yX4_replace, Cond.initialized RX4, Cond.code yX4_replace cX4_replace 9 none, Cond.fieldLink RX4 23 "PamphletQuarrel$Pamphlet" "begins" "LPamphletQuarrel$Row;", Cond.fieldLink RX4 26 "PamphletQuarrel$Pamphlet" "lengths" "LPamphletQuarrel$Row;", Cond.fieldLink RX4 14 "PamphletQuarrel$Pamphlet" "words" "LPamphletQuarrel$Row;", Cond.fieldLink RX4 36 "PamphletQuarrel$Pamphlet" "wordCount" "I", Cond.fieldLink RX4 39 "PamphletQuarrel$Pamphlet" "quotationCount" "I"]
def wsX5_putRight_r2 : List Cond := [Cond.methodLink RX4 50 yX7_number, Cond.methodLink RX4 58 yX4_growth, Cond.instanceMethod yX4_growth, Cond.selects RX4 yX4_growth yX4_growth, Cond.code yX4_growth cX4_growth 3 (some .int), Cond.methodLink RX4 62 yX7_move, Cond.instanceMethod yX7_move, Cond.selects RX7 yX7_move yX7_move, Cond.code yX7_move cX7_move 4 none, Cond.methodLink RX7 19 arraycopyName, Cond.native arraycopyName, Cond.static arraycopyName, Cond.initialized "java/lang/System", Cond.methodLink RX4 66 yX7_at, Cond.instanceMethod yX7_at, Cond.selects RX7 yX7_at yX7_at, Cond.code yX7_at cX7_at 2 (some .long), Cond.methodLink RX4 46 yX7_put, Cond.instanceMethod yX7_put, Cond.selects RX7 yX7_put yX7_put, Cond.code yX7_put cX7_put 4 none]
def wsX5_putRight : List Cond := .code yX5_putRight cX5_putRight 6 none :: ((wsX5_putRight_r1 ++ wsX5_putRight_r2) ++ wsX40 ++ wsX50 ++ wsX80 ++ wsX90 ++ wsX70)
def wsX5_putAllRight_r1 : List Cond := [Cond.methodLink RX5 18 yX9_at, Cond.instanceMethod yX9_at, Cond.selects RX9 yX9_at yX9_at, Cond.initialized RX9, Cond.code yX9_at cX9_at 3 (some (.object "PamphletQuarrel$Pamphlet")), Cond.fieldLink RX9 11 "PamphletQuarrel$State" "printed" "[LPamphletQuarrel$Pamphlet;", Cond.fieldLink RX9 18 "PamphletQuarrel$State" "blank" "LPamphletQuarrel$Pamphlet;", Cond.methodLink RX5 51 yX5_find, Cond.instanceMethod yX5_find, Cond.selects RX5 yX5_find yX5_find, Cond.initialized RX5, Cond.code yX5_find cX5_find 5 (some .int), Cond.fieldLink RX5 12 "PamphletQuarrel$Quotations" "search" "LPamphletQuarrel$Search;", Cond.methodLink RX5 30 yX7_number, Cond.instanceMethod yX7_number, Cond.selects RX7 yX7_number yX7_number, Cond.initialized RX7, Cond.code yX7_number cX7_number 2 (some .int), Cond.fieldLink RX7 13 "PamphletQuarrel$Row" "cells" "[J", Cond.methodLink RX5 36 yX8_byTable, Cond.instanceMethod yX8_byTable, Cond.selects RX8 yX8_byTable yX8_byTable, Cond.initialized RX8, Cond.code yX8_byTable cX8_byTable 7 none]
def wsX5_putAllRight_r2 : List Cond := [Cond.fieldLink RX8 14 "PamphletQuarrel$Search" "cells" "LPamphletQuarrel$Row;", Cond.methodLink RX8 25 yX7_number, Cond.methodLink RX8 36 yX7_put, Cond.instanceMethod yX7_put, Cond.selects RX7 yX7_put yX7_put, Cond.code yX7_put cX7_put 4 none, Cond.methodLink RX8 43 yX7_at, Cond.instanceMethod yX7_at, Cond.selects RX7 yX7_at yX7_at, Cond.code yX7_at cX7_at 2 (some .long), Cond.methodLink RX8 47 yX8_takeWord, Cond.instanceMethod yX8_takeWord, Cond.selects RX8 yX8_takeWord yX8_takeWord, Cond.code yX8_takeWord cX8_takeWord 11 none, Cond.methodLink RX8 67 Lib.Math.min.name, Cond.static Lib.Math.min.name, Cond.initialized "java/lang/Math", Cond.code Lib.Math.min.name Lib.Math.min.code 2 (some .int), Cond.methodLink RX8 51 yX8_chooseEnd, Cond.instanceMethod yX8_chooseEnd, Cond.selects RX8 yX8_chooseEnd yX8_chooseEnd, Cond.code yX8_chooseEnd cX8_chooseEnd 4 none, Cond.fieldLink RX8 54 "PamphletQuarrel$Search" "changes" "I", Cond.fieldLink RX8 57 "PamphletQuarrel$Search" "begin" "I"]
def wsX5_putAllRight_r3 : List Cond := [Cond.fieldLink RX8 60 "PamphletQuarrel$Search" "length" "I", Cond.methodLink RX5 91 yX5_isRoomFor, Cond.instanceMethod yX5_isRoomFor, Cond.selects RX5 yX5_isRoomFor yX5_isRoomFor, Cond.code yX5_isRoomFor cX5_isRoomFor 5 (some .boolean), Cond.methodLink RX5 84 yX4_growth, Cond.instanceMethod yX4_growth, Cond.selects RX4 yX4_growth yX4_growth, Cond.initialized RX4, Cond.code yX4_growth cX4_growth 3 (some .int), Cond.fieldLink RX4 26 "PamphletQuarrel$Pamphlet" "lengths" "LPamphletQuarrel$Row;", Cond.methodLink RX4 50 yX7_number, Cond.methodLink RX5 95 yX5_putRight, Cond.instanceMethod yX5_putRight, Cond.selects RX5 yX5_putRight yX5_putRight, Cond.code yX5_putRight cX5_putRight 6 none, Cond.methodLink RX5 87 yX4_replace, Cond.instanceMethod yX4_replace, Cond.selects RX4 yX4_replace yX4_replace, Cond.code yX4_replace cX4_replace 9 none, Cond.fieldLink RX4 23 "PamphletQuarrel$Pamphlet" "begins" "LPamphletQuarrel$Row;", Cond.fieldLink RX4 14 "PamphletQuarrel$Pamphlet" "words" "LPamphletQuarrel$Row;", Cond.fieldLink RX4 36 "PamphletQuarrel$Pamphlet" "wordCount" "I", Cond.fieldLink RX4 39 "PamphletQuarrel$Pamphlet" "quotationCount" "I"]
def wsX5_putAllRight_r4 : List Cond := [Cond.methodLink RX4 58 yX4_growth, Cond.methodLink RX4 62 yX7_move, Cond.instanceMethod yX7_move, Cond.selects RX7 yX7_move yX7_move, Cond.code yX7_move cX7_move 4 none, Cond.methodLink RX7 19 arraycopyName, Cond.native arraycopyName, Cond.static arraycopyName, Cond.initialized "java/lang/System", Cond.methodLink RX4 66 yX7_at, Cond.methodLink RX4 46 yX7_put]
def wsX5_putAllRight : List Cond := .code yX5_putAllRight cX5_putAllRight 6 (some .int) :: ((wsX5_putAllRight_r1 ++ (wsX5_putAllRight_r2 ++ (wsX5_putAllRight_r3 ++ wsX5_putAllRight_r4))) ++ wsX40 ++ wsX90 ++ wsX50 ++ wsX80 ++ wsX70)
def wsX5_changesIn_r1 : List Cond := [Cond.methodLink RX5 18 yX9_at, Cond.instanceMethod yX9_at, Cond.selects RX9 yX9_at yX9_at, Cond.initialized RX9, Cond.code yX9_at cX9_at 3 (some (.object "PamphletQuarrel$Pamphlet")), Cond.fieldLink RX9 11 "PamphletQuarrel$State" "printed" "[LPamphletQuarrel$Pamphlet;", Cond.fieldLink RX9 18 "PamphletQuarrel$State" "blank" "LPamphletQuarrel$Pamphlet;", Cond.methodLink RX5 30 yX7_number, Cond.instanceMethod yX7_number, Cond.selects RX7 yX7_number yX7_number, Cond.initialized RX7, Cond.code yX7_number cX7_number 2 (some .int), Cond.fieldLink RX7 13 "PamphletQuarrel$Row" "cells" "[J", Cond.methodLink RX5 51 yX5_find, Cond.instanceMethod yX5_find, Cond.selects RX5 yX5_find yX5_find, Cond.initialized RX5, Cond.code yX5_find cX5_find 5 (some .int), Cond.fieldLink RX5 12 "PamphletQuarrel$Quotations" "search" "LPamphletQuarrel$Search;", Cond.methodLink RX5 36 yX8_byTable, Cond.instanceMethod yX8_byTable, Cond.selects RX8 yX8_byTable yX8_byTable, Cond.initialized RX8, Cond.code yX8_byTable cX8_byTable 7 none]
def wsX5_changesIn_r2 : List Cond := [Cond.fieldLink RX8 14 "PamphletQuarrel$Search" "cells" "LPamphletQuarrel$Row;", Cond.methodLink RX8 25 yX7_number, Cond.methodLink RX8 36 yX7_put, Cond.instanceMethod yX7_put, Cond.selects RX7 yX7_put yX7_put, Cond.code yX7_put cX7_put 4 none, Cond.methodLink RX8 43 yX7_at, Cond.instanceMethod yX7_at, Cond.selects RX7 yX7_at yX7_at, Cond.code yX7_at cX7_at 2 (some .long), Cond.methodLink RX8 47 yX8_takeWord, Cond.instanceMethod yX8_takeWord, Cond.selects RX8 yX8_takeWord yX8_takeWord, Cond.code yX8_takeWord cX8_takeWord 11 none, Cond.methodLink RX8 67 Lib.Math.min.name, Cond.static Lib.Math.min.name, Cond.initialized "java/lang/Math", Cond.code Lib.Math.min.name Lib.Math.min.code 2 (some .int), Cond.methodLink RX8 51 yX8_chooseEnd, Cond.instanceMethod yX8_chooseEnd, Cond.selects RX8 yX8_chooseEnd yX8_chooseEnd, Cond.code yX8_chooseEnd cX8_chooseEnd 4 none, Cond.fieldLink RX8 54 "PamphletQuarrel$Search" "changes" "I", Cond.fieldLink RX8 57 "PamphletQuarrel$Search" "begin" "I"]
def wsX5_changesIn_r3 : List Cond := [Cond.fieldLink RX8 60 "PamphletQuarrel$Search" "length" "I"]
def wsX5_changesIn : List Cond := .code yX5_changesIn cX5_changesIn 8 (some .int) :: ((wsX5_changesIn_r1 ++ (wsX5_changesIn_r2 ++ wsX5_changesIn_r3)) ++ wsX40 ++ wsX90 ++ wsX70 ++ wsX50 ++ wsX80)
def wsX5_changesWritten_r1 : List Cond := [Cond.methodLink RX5 18 yX9_at, Cond.instanceMethod yX9_at, Cond.selects RX9 yX9_at yX9_at, Cond.initialized RX9, Cond.code yX9_at cX9_at 3 (some (.object "PamphletQuarrel$Pamphlet")), Cond.fieldLink RX9 11 "PamphletQuarrel$State" "printed" "[LPamphletQuarrel$Pamphlet;", Cond.fieldLink RX9 18 "PamphletQuarrel$State" "blank" "LPamphletQuarrel$Pamphlet;", Cond.methodLink RX5 102 yX5_changesIn, Cond.instanceMethod yX5_changesIn, Cond.selects RX5 yX5_changesIn yX5_changesIn, Cond.initialized RX5, Cond.code yX5_changesIn cX5_changesIn 8 (some .int), Cond.methodLink RX5 30 yX7_number, Cond.instanceMethod yX7_number, Cond.selects RX7 yX7_number yX7_number, Cond.initialized RX7, Cond.code yX7_number cX7_number 2 (some .int), Cond.fieldLink RX7 13 "PamphletQuarrel$Row" "cells" "[J", Cond.methodLink RX5 51 yX5_find, Cond.instanceMethod yX5_find, Cond.selects RX5 yX5_find yX5_find, Cond.code yX5_find cX5_find 5 (some .int), Cond.fieldLink RX5 12 "PamphletQuarrel$Quotations" "search" "LPamphletQuarrel$Search;", Cond.methodLink RX5 36 yX8_byTable]
def wsX5_changesWritten_r2 : List Cond := [Cond.instanceMethod yX8_byTable, Cond.selects RX8 yX8_byTable yX8_byTable, Cond.initialized RX8, Cond.code yX8_byTable cX8_byTable 7 none, Cond.fieldLink RX8 14 "PamphletQuarrel$Search" "cells" "LPamphletQuarrel$Row;", Cond.methodLink RX8 25 yX7_number, Cond.methodLink RX8 36 yX7_put, Cond.instanceMethod yX7_put, Cond.selects RX7 yX7_put yX7_put, Cond.code yX7_put cX7_put 4 none, Cond.methodLink RX8 43 yX7_at, Cond.instanceMethod yX7_at, Cond.selects RX7 yX7_at yX7_at, Cond.code yX7_at cX7_at 2 (some .long), Cond.methodLink RX8 47 yX8_takeWord, Cond.instanceMethod yX8_takeWord, Cond.selects RX8 yX8_takeWord yX8_takeWord, Cond.code yX8_takeWord cX8_takeWord 11 none, Cond.methodLink RX8 67 Lib.Math.min.name, Cond.static Lib.Math.min.name, Cond.initialized "java/lang/Math", Cond.code Lib.Math.min.name Lib.Math.min.code 2 (some .int), Cond.methodLink RX8 51 yX8_chooseEnd, Cond.instanceMethod yX8_chooseEnd]
def wsX5_changesWritten_r3 : List Cond := [Cond.selects RX8 yX8_chooseEnd yX8_chooseEnd, Cond.code yX8_chooseEnd cX8_chooseEnd 4 none, Cond.fieldLink RX8 54 "PamphletQuarrel$Search" "changes" "I", Cond.fieldLink RX8 57 "PamphletQuarrel$Search" "begin" "I", Cond.fieldLink RX8 60 "PamphletQuarrel$Search" "length" "I"]
def wsX5_changesWritten : List Cond := .code yX5_changesWritten cX5_changesWritten 6 (some .int) :: ((wsX5_changesWritten_r1 ++ (wsX5_changesWritten_r2 ++ wsX5_changesWritten_r3)) ++ wsX90 ++ wsX40 ++ wsX70 ++ wsX50 ++ wsX80)
def wsX5_changesSuffered_r1 : List Cond := [Cond.methodLink RX5 18 yX9_at, Cond.instanceMethod yX9_at, Cond.selects RX9 yX9_at yX9_at, Cond.initialized RX9, Cond.code yX9_at cX9_at 3 (some (.object "PamphletQuarrel$Pamphlet")), Cond.fieldLink RX9 11 "PamphletQuarrel$State" "printed" "[LPamphletQuarrel$Pamphlet;", Cond.fieldLink RX9 18 "PamphletQuarrel$State" "blank" "LPamphletQuarrel$Pamphlet;", Cond.methodLink RX5 30 yX7_number, Cond.instanceMethod yX7_number, Cond.selects RX7 yX7_number yX7_number, Cond.initialized RX7, Cond.code yX7_number cX7_number 2 (some .int), Cond.fieldLink RX7 13 "PamphletQuarrel$Row" "cells" "[J", Cond.methodLink RX5 51 yX5_find, Cond.instanceMethod yX5_find, Cond.selects RX5 yX5_find yX5_find, Cond.initialized RX5, Cond.code yX5_find cX5_find 5 (some .int), Cond.fieldLink RX5 12 "PamphletQuarrel$Quotations" "search" "LPamphletQuarrel$Search;", Cond.methodLink RX5 36 yX8_byTable, Cond.instanceMethod yX8_byTable, Cond.selects RX8 yX8_byTable yX8_byTable, Cond.initialized RX8, Cond.code yX8_byTable cX8_byTable 7 none]
def wsX5_changesSuffered_r2 : List Cond := [Cond.fieldLink RX8 14 "PamphletQuarrel$Search" "cells" "LPamphletQuarrel$Row;", Cond.methodLink RX8 25 yX7_number, Cond.methodLink RX8 36 yX7_put, Cond.instanceMethod yX7_put, Cond.selects RX7 yX7_put yX7_put, Cond.code yX7_put cX7_put 4 none, Cond.methodLink RX8 43 yX7_at, Cond.instanceMethod yX7_at, Cond.selects RX7 yX7_at yX7_at, Cond.code yX7_at cX7_at 2 (some .long), Cond.methodLink RX8 47 yX8_takeWord, Cond.instanceMethod yX8_takeWord, Cond.selects RX8 yX8_takeWord yX8_takeWord, Cond.code yX8_takeWord cX8_takeWord 11 none, Cond.methodLink RX8 67 Lib.Math.min.name, Cond.static Lib.Math.min.name, Cond.initialized "java/lang/Math", Cond.code Lib.Math.min.name Lib.Math.min.code 2 (some .int), Cond.methodLink RX8 51 yX8_chooseEnd, Cond.instanceMethod yX8_chooseEnd, Cond.selects RX8 yX8_chooseEnd yX8_chooseEnd, Cond.code yX8_chooseEnd cX8_chooseEnd 4 none, Cond.fieldLink RX8 54 "PamphletQuarrel$Search" "changes" "I", Cond.fieldLink RX8 57 "PamphletQuarrel$Search" "begin" "I"]
def wsX5_changesSuffered_r3 : List Cond := [Cond.fieldLink RX8 60 "PamphletQuarrel$Search" "length" "I"]
def wsX5_changesSuffered : List Cond := .code yX5_changesSuffered cX5_changesSuffered 7 (some .int) :: ((wsX5_changesSuffered_r1 ++ (wsX5_changesSuffered_r2 ++ wsX5_changesSuffered_r3)) ++ wsX90 ++ wsX40 ++ wsX70 ++ wsX50 ++ wsX80)
def wsX5_faithfulIn_r1 : List Cond := [Cond.methodLink RX5 18 yX9_at, Cond.instanceMethod yX9_at, Cond.selects RX9 yX9_at yX9_at, Cond.initialized RX9, Cond.code yX9_at cX9_at 3 (some (.object "PamphletQuarrel$Pamphlet")), Cond.fieldLink RX9 11 "PamphletQuarrel$State" "printed" "[LPamphletQuarrel$Pamphlet;", Cond.fieldLink RX9 18 "PamphletQuarrel$State" "blank" "LPamphletQuarrel$Pamphlet;", Cond.methodLink RX5 51 yX5_find, Cond.instanceMethod yX5_find, Cond.selects RX5 yX5_find yX5_find, Cond.initialized RX5, Cond.code yX5_find cX5_find 5 (some .int), Cond.fieldLink RX5 12 "PamphletQuarrel$Quotations" "search" "LPamphletQuarrel$Search;", Cond.methodLink RX5 30 yX7_number, Cond.instanceMethod yX7_number, Cond.selects RX7 yX7_number yX7_number, Cond.initialized RX7, Cond.code yX7_number cX7_number 2 (some .int), Cond.fieldLink RX7 13 "PamphletQuarrel$Row" "cells" "[J", Cond.methodLink RX5 36 yX8_byTable, Cond.instanceMethod yX8_byTable, Cond.selects RX8 yX8_byTable yX8_byTable, Cond.initialized RX8, Cond.code yX8_byTable cX8_byTable 7 none]
def wsX5_faithfulIn_r2 : List Cond := [Cond.fieldLink RX8 14 "PamphletQuarrel$Search" "cells" "LPamphletQuarrel$Row;", Cond.methodLink RX8 25 yX7_number, Cond.methodLink RX8 36 yX7_put, Cond.instanceMethod yX7_put, Cond.selects RX7 yX7_put yX7_put, Cond.code yX7_put cX7_put 4 none, Cond.methodLink RX8 43 yX7_at, Cond.instanceMethod yX7_at, Cond.selects RX7 yX7_at yX7_at, Cond.code yX7_at cX7_at 2 (some .long), Cond.methodLink RX8 47 yX8_takeWord, Cond.instanceMethod yX8_takeWord, Cond.selects RX8 yX8_takeWord yX8_takeWord, Cond.code yX8_takeWord cX8_takeWord 11 none, Cond.methodLink RX8 67 Lib.Math.min.name, Cond.static Lib.Math.min.name, Cond.initialized "java/lang/Math", Cond.code Lib.Math.min.name Lib.Math.min.code 2 (some .int), Cond.methodLink RX8 51 yX8_chooseEnd, Cond.instanceMethod yX8_chooseEnd, Cond.selects RX8 yX8_chooseEnd yX8_chooseEnd, Cond.code yX8_chooseEnd cX8_chooseEnd 4 none, Cond.fieldLink RX8 54 "PamphletQuarrel$Search" "changes" "I", Cond.fieldLink RX8 57 "PamphletQuarrel$Search" "begin" "I"]
def wsX5_faithfulIn_r3 : List Cond := [Cond.fieldLink RX8 60 "PamphletQuarrel$Search" "length" "I"]
def wsX5_faithfulIn : List Cond := .code yX5_faithfulIn cX5_faithfulIn 6 (some .int) :: ((wsX5_faithfulIn_r1 ++ (wsX5_faithfulIn_r2 ++ wsX5_faithfulIn_r3)) ++ wsX40 ++ wsX90 ++ wsX50 ++ wsX80 ++ wsX70)
def wsX6_init_r1 : List Cond := [Cond.methodLink RX6 3 objectInit, Cond.instanceMethod objectInit, Cond.code objectInit ⟨#[0xb1]⟩ 1 none, Cond.classLink RX6 9 RX4, Cond.instantiable RX4 8, Cond.initialized RX4, Cond.fieldLink RX6 12 "PamphletQuarrel$Reader" "text" "LPamphletQuarrel$Pamphlet;", Cond.instanceMethod yX4_init, Cond.code yX4_init cX4_init 1 none, Cond.methodLink RX4 3 objectInit, Cond.classLink RX4 9 RX7, Cond.instantiable RX7 1, Cond.initialized RX7, Cond.fieldLink RX4 14 "PamphletQuarrel$Pamphlet" "words" "LPamphletQuarrel$Row;", Cond.fieldLink RX4 20 "PamphletQuarrel$Pamphlet" "sources" "LPamphletQuarrel$Row;", Cond.fieldLink RX4 23 "PamphletQuarrel$Pamphlet" "begins" "LPamphletQuarrel$Row;", Cond.fieldLink RX4 26 "PamphletQuarrel$Pamphlet" "lengths" "LPamphletQuarrel$Row;", Cond.methodLink RX4 11 yX7_init, Cond.instanceMethod yX7_init, Cond.code yX7_init cX7_init 2 none, Cond.methodLink RX7 1 objectInit, Cond.methodLink RX7 7 Lib.Math.max.name, Cond.static Lib.Math.max.name, Cond.initialized "java/lang/Math"]
def wsX6_init_r2 : List Cond := [Cond.code Lib.Math.max.name Lib.Math.max.code 2 (some .int), Cond.arrayClass .long, Cond.fieldLink RX7 13 "PamphletQuarrel$Row" "cells" "[J"]
def wsX6_init : List Cond := .code yX6_init cX6_init 1 none :: ((wsX6_init_r1 ++ wsX6_init_r2) ++ wsX40 ++ wsX60 ++ wsX70)
def wsX6_afterOpening : List Cond := .code yX6_afterOpening cX6_afterOpening 1 (some .int) :: ([.fieldLink RX6 12 "PamphletQuarrel$Reader" "text" "LPamphletQuarrel$Pamphlet;", .fieldLink RX6 66 "PamphletQuarrel$Reader" "begin" "I"] ++ wsX60 ++ wsX40)
def wsX10_withLetter : List Cond := .code yX10_withLetter cX10_withLetter 4 (some .long) :: ([])
def wsX6_afterFirstLetter : List Cond := .code yX6_afterFirstLetter cX6_afterFirstLetter 3 (some .int) :: ([.fieldLink RX6 12 "PamphletQuarrel$Reader" "text" "LPamphletQuarrel$Pamphlet;", .fieldLink RX6 77 "PamphletQuarrel$Reader" "letters" "I", .static yX10_withLetter, .initialized RX10, .code yX10_withLetter cX10_withLetter 4 (some .long), .methodLink RX6 73 yX4_addWord, .instanceMethod yX4_addWord, .selects RX4 yX4_addWord yX4_addWord, .initialized RX4, .code yX4_addWord cX4_addWord 3 none, .fieldLink RX4 14 "PamphletQuarrel$Pamphlet" "words" "LPamphletQuarrel$Row;", .fieldLink RX4 36 "PamphletQuarrel$Pamphlet" "wordCount" "I", .methodLink RX4 46 yX7_put, .instanceMethod yX7_put, .selects RX7 yX7_put yX7_put, .initialized RX7, .code yX7_put cX7_put 4 none, .fieldLink RX7 13 "PamphletQuarrel$Row" "cells" "[J"] ++ wsX60 ++ wsX40 ++ wsX70)
def wsX6_afterLetter : List Cond := .code yX6_afterLetter cX6_afterLetter 3 (some .int) :: ([.fieldLink RX6 77 "PamphletQuarrel$Reader" "letters" "I", .fieldLink RX6 12 "PamphletQuarrel$Reader" "text" "LPamphletQuarrel$Pamphlet;", .fieldLink RX6 25 "PamphletQuarrel$Reader" "place" "I", .methodLink RX6 83 yX7_at, .instanceMethod yX7_at, .selects RX7 yX7_at yX7_at, .initialized RX7, .code yX7_at cX7_at 2 (some .long), .fieldLink RX7 13 "PamphletQuarrel$Row" "cells" "[J", .static yX10_withLetter, .initialized RX10, .code yX10_withLetter cX10_withLetter 4 (some .long), .methodLink RX6 87 yX7_put, .instanceMethod yX7_put, .selects RX7 yX7_put yX7_put, .code yX7_put cX7_put 4 none] ++ wsX60 ++ wsX40 ++ wsX70)
def wsX6_afterFirstDigit : List Cond := .code yX6_afterFirstDigit cX6_afterFirstDigit 2 (some .int) :: ([.fieldLink RX6 12 "PamphletQuarrel$Reader" "text" "LPamphletQuarrel$Pamphlet;", .fieldLink RX6 66 "PamphletQuarrel$Reader" "begin" "I", .methodLink RX6 91 yX4_addQuotation, .instanceMethod yX4_addQuotation, .selects RX4 yX4_addQuotation yX4_addQuotation, .initialized RX4, .code yX4_addQuotation cX4_addQuotation 3 none, .fieldLink RX4 20 "PamphletQuarrel$Pamphlet" "sources" "LPamphletQuarrel$Row;", .fieldLink RX4 39 "PamphletQuarrel$Pamphlet" "quotationCount" "I", .fieldLink RX4 23 "PamphletQuarrel$Pamphlet" "begins" "LPamphletQuarrel$Row;", .fieldLink RX4 26 "PamphletQuarrel$Pamphlet" "lengths" "LPamphletQuarrel$Row;", .fieldLink RX4 36 "PamphletQuarrel$Pamphlet" "wordCount" "I", .methodLink RX4 46 yX7_put, .instanceMethod yX7_put, .selects RX7 yX7_put yX7_put, .initialized RX7, .code yX7_put cX7_put 4 none, .fieldLink RX7 13 "PamphletQuarrel$Row" "cells" "[J"] ++ wsX60 ++ wsX40 ++ wsX70)
def wsX6_afterSecondDigit : List Cond := .code yX6_afterSecondDigit cX6_afterSecondDigit 2 (some .int) :: ([.fieldLink RX6 12 "PamphletQuarrel$Reader" "text" "LPamphletQuarrel$Pamphlet;", .methodLink RX6 87 yX7_put, .instanceMethod yX7_put, .selects RX7 yX7_put yX7_put, .initialized RX7, .code yX7_put cX7_put 4 none, .fieldLink RX7 13 "PamphletQuarrel$Row" "cells" "[J"] ++ wsX60 ++ wsX40 ++ wsX70)
def wsX6_placeAfter_r1 : List Cond := [Cond.fieldLink RX6 25 "PamphletQuarrel$Reader" "place" "I", Cond.methodLink RX6 46 yX6_afterOpening, Cond.instanceMethod yX6_afterOpening, Cond.selects RX6 yX6_afterOpening yX6_afterOpening, Cond.initialized RX6, Cond.code yX6_afterOpening cX6_afterOpening 1 (some .int), Cond.fieldLink RX6 12 "PamphletQuarrel$Reader" "text" "LPamphletQuarrel$Pamphlet;", Cond.fieldLink RX6 66 "PamphletQuarrel$Reader" "begin" "I", Cond.methodLink RX6 50 yX6_afterFirstLetter, Cond.instanceMethod yX6_afterFirstLetter, Cond.selects RX6 yX6_afterFirstLetter yX6_afterFirstLetter, Cond.code yX6_afterFirstLetter cX6_afterFirstLetter 3 (some .int), Cond.fieldLink RX6 77 "PamphletQuarrel$Reader" "letters" "I", Cond.static yX10_withLetter, Cond.initialized RX10, Cond.code yX10_withLetter cX10_withLetter 4 (some .long), Cond.methodLink RX6 73 yX4_addWord, Cond.instanceMethod yX4_addWord, Cond.selects RX4 yX4_addWord yX4_addWord, Cond.initialized RX4, Cond.code yX4_addWord cX4_addWord 3 none, Cond.fieldLink RX4 14 "PamphletQuarrel$Pamphlet" "words" "LPamphletQuarrel$Row;", Cond.fieldLink RX4 36 "PamphletQuarrel$Pamphlet" "wordCount" "I", Cond.methodLink RX4 46 yX7_put]
def wsX6_placeAfter_r2 : List Cond := [Cond.instanceMethod yX7_put, Cond.selects RX7 yX7_put yX7_put, Cond.initialized RX7, Cond.code yX7_put cX7_put 4 none, Cond.fieldLink RX7 13 "PamphletQuarrel$Row" "cells" "[J", Cond.methodLink RX6 54 yX6_afterLetter, Cond.instanceMethod yX6_afterLetter, Cond.selects RX6 yX6_afterLetter yX6_afterLetter, Cond.code yX6_afterLetter cX6_afterLetter 3 (some .int), Cond.methodLink RX6 83 yX7_at, Cond.instanceMethod yX7_at, Cond.selects RX7 yX7_at yX7_at, Cond.code yX7_at cX7_at 2 (some .long), Cond.methodLink RX6 87 yX7_put, Cond.methodLink RX6 57 yX6_afterFirstDigit, Cond.instanceMethod yX6_afterFirstDigit, Cond.selects RX6 yX6_afterFirstDigit yX6_afterFirstDigit, Cond.code yX6_afterFirstDigit cX6_afterFirstDigit 2 (some .int), Cond.methodLink RX6 91 yX4_addQuotation, Cond.instanceMethod yX4_addQuotation, Cond.selects RX4 yX4_addQuotation yX4_addQuotation, Cond.code yX4_addQuotation cX4_addQuotation 3 none, Cond.fieldLink RX4 20 "PamphletQuarrel$Pamphlet" "sources" "LPamphletQuarrel$Row;", Cond.fieldLink RX4 39 "PamphletQuarrel$Pamphlet" "quotationCount" "I"]
def wsX6_placeAfter_r3 : List Cond := [Cond.fieldLink RX4 23 "PamphletQuarrel$Pamphlet" "begins" "LPamphletQuarrel$Row;", Cond.fieldLink RX4 26 "PamphletQuarrel$Pamphlet" "lengths" "LPamphletQuarrel$Row;", Cond.methodLink RX6 60 yX6_afterSecondDigit, Cond.instanceMethod yX6_afterSecondDigit, Cond.selects RX6 yX6_afterSecondDigit yX6_afterSecondDigit, Cond.code yX6_afterSecondDigit cX6_afterSecondDigit 2 (some .int)]
def wsX6_placeAfter : List Cond := .code yX6_placeAfter cX6_placeAfter 2 (some .int) :: ((wsX6_placeAfter_r1 ++ (wsX6_placeAfter_r2 ++ wsX6_placeAfter_r3)) ++ wsX60 ++ wsX40 ++ wsX70)
def wsX6_read_r1 : List Cond := [Cond.fieldLink RX6 12 "PamphletQuarrel$Reader" "text" "LPamphletQuarrel$Pamphlet;", Cond.fieldLink RX6 21 "PamphletQuarrel$Reader" "position" "I", Cond.fieldLink RX6 25 "PamphletQuarrel$Reader" "place" "I", Cond.methodLink RX6 18 yX4_empty, Cond.instanceMethod yX4_empty, Cond.selects RX4 yX4_empty yX4_empty, Cond.initialized RX4, Cond.code yX4_empty cX4_empty 1 none, Cond.fieldLink RX4 36 "PamphletQuarrel$Pamphlet" "wordCount" "I", Cond.fieldLink RX4 39 "PamphletQuarrel$Pamphlet" "quotationCount" "I", Cond.methodLink RX6 37 yX7_number, Cond.instanceMethod yX7_number, Cond.selects RX7 yX7_number yX7_number, Cond.initialized RX7, Cond.code yX7_number cX7_number 2 (some .int), Cond.fieldLink RX7 13 "PamphletQuarrel$Row" "cells" "[J", Cond.methodLink RX6 43 yX6_placeAfter, Cond.instanceMethod yX6_placeAfter, Cond.selects RX6 yX6_placeAfter yX6_placeAfter, Cond.initialized RX6, Cond.code yX6_placeAfter cX6_placeAfter 2 (some .int), Cond.methodLink RX6 46 yX6_afterOpening, Cond.instanceMethod yX6_afterOpening, Cond.selects RX6 yX6_afterOpening yX6_afterOpening]
def wsX6_read_r2 : List Cond := [Cond.code yX6_afterOpening cX6_afterOpening 1 (some .int), Cond.fieldLink RX6 66 "PamphletQuarrel$Reader" "begin" "I", Cond.methodLink RX6 50 yX6_afterFirstLetter, Cond.instanceMethod yX6_afterFirstLetter, Cond.selects RX6 yX6_afterFirstLetter yX6_afterFirstLetter, Cond.code yX6_afterFirstLetter cX6_afterFirstLetter 3 (some .int), Cond.fieldLink RX6 77 "PamphletQuarrel$Reader" "letters" "I", Cond.static yX10_withLetter, Cond.initialized RX10, Cond.code yX10_withLetter cX10_withLetter 4 (some .long), Cond.methodLink RX6 73 yX4_addWord, Cond.instanceMethod yX4_addWord, Cond.selects RX4 yX4_addWord yX4_addWord, Cond.code yX4_addWord cX4_addWord 3 none, Cond.fieldLink RX4 14 "PamphletQuarrel$Pamphlet" "words" "LPamphletQuarrel$Row;", Cond.methodLink RX4 46 yX7_put, Cond.instanceMethod yX7_put, Cond.selects RX7 yX7_put yX7_put, Cond.code yX7_put cX7_put 4 none, Cond.methodLink RX6 54 yX6_afterLetter, Cond.instanceMethod yX6_afterLetter, Cond.selects RX6 yX6_afterLetter yX6_afterLetter, Cond.code yX6_afterLetter cX6_afterLetter 3 (some .int), Cond.methodLink RX6 83 yX7_at]
def wsX6_read_r3 : List Cond := [Cond.instanceMethod yX7_at, Cond.selects RX7 yX7_at yX7_at, Cond.code yX7_at cX7_at 2 (some .long), Cond.methodLink RX6 87 yX7_put, Cond.methodLink RX6 57 yX6_afterFirstDigit, Cond.instanceMethod yX6_afterFirstDigit, Cond.selects RX6 yX6_afterFirstDigit yX6_afterFirstDigit, Cond.code yX6_afterFirstDigit cX6_afterFirstDigit 2 (some .int), Cond.methodLink RX6 91 yX4_addQuotation, Cond.instanceMethod yX4_addQuotation, Cond.selects RX4 yX4_addQuotation yX4_addQuotation, Cond.code yX4_addQuotation cX4_addQuotation 3 none, Cond.fieldLink RX4 20 "PamphletQuarrel$Pamphlet" "sources" "LPamphletQuarrel$Row;", Cond.fieldLink RX4 23 "PamphletQuarrel$Pamphlet" "begins" "LPamphletQuarrel$Row;", Cond.fieldLink RX4 26 "PamphletQuarrel$Pamphlet" "lengths" "LPamphletQuarrel$Row;", Cond.methodLink RX6 60 yX6_afterSecondDigit, Cond.instanceMethod yX6_afterSecondDigit, Cond.selects RX6 yX6_afterSecondDigit yX6_afterSecondDigit, Cond.code yX6_afterSecondDigit cX6_afterSecondDigit 2 (some .int)]
def wsX6_read : List Cond := .code yX6_read cX6_read 3 none :: ((wsX6_read_r1 ++ (wsX6_read_r2 ++ wsX6_read_r3)) ++ wsX60 ++ wsX00 ++ wsX40 ++ wsX70)
def wsX6_isAtEndOfText : List Cond := .code yX6_isAtEndOfText cX6_isAtEndOfText 2 (some .boolean) :: ([.fieldLink RX6 21 "PamphletQuarrel$Reader" "position" "I", .fieldLink RX6 25 "PamphletQuarrel$Reader" "place" "I"] ++ wsX60 ++ wsX00)
def wsX9_has : List Cond := .code yX9_has cX9_has 2 (some .boolean) :: ([.fieldLink RX9 22 "PamphletQuarrel$State" "count" "I"] ++ wsX90)
def wsX9_add_r1 : List Cond := [Cond.fieldLink RX9 22 "PamphletQuarrel$State" "count" "I", Cond.fieldLink RX9 26 "PamphletQuarrel$State" "today" "I", Cond.methodLink RX9 29 yX9_at, Cond.instanceMethod yX9_at, Cond.selects RX9 yX9_at yX9_at, Cond.initialized RX9, Cond.code yX9_at cX9_at 3 (some (.object "PamphletQuarrel$Pamphlet")), Cond.fieldLink RX9 11 "PamphletQuarrel$State" "printed" "[LPamphletQuarrel$Pamphlet;", Cond.fieldLink RX9 18 "PamphletQuarrel$State" "blank" "LPamphletQuarrel$Pamphlet;", Cond.methodLink RX9 33 yX4_copy, Cond.instanceMethod yX4_copy, Cond.selects RX4 yX4_copy yX4_copy, Cond.initialized RX4, Cond.code yX4_copy cX4_copy 2 none, Cond.fieldLink RX4 29 "PamphletQuarrel$Pamphlet" "author" "I", Cond.fieldLink RX4 33 "PamphletQuarrel$Pamphlet" "printedOn" "I", Cond.fieldLink RX4 36 "PamphletQuarrel$Pamphlet" "wordCount" "I", Cond.fieldLink RX4 39 "PamphletQuarrel$Pamphlet" "quotationCount" "I", Cond.fieldLink RX4 14 "PamphletQuarrel$Pamphlet" "words" "LPamphletQuarrel$Row;", Cond.fieldLink RX4 20 "PamphletQuarrel$Pamphlet" "sources" "LPamphletQuarrel$Row;", Cond.fieldLink RX4 23 "PamphletQuarrel$Pamphlet" "begins" "LPamphletQuarrel$Row;", Cond.fieldLink RX4 26 "PamphletQuarrel$Pamphlet" "lengths" "LPamphletQuarrel$Row;", Cond.methodLink RX4 42 yX7_copy, Cond.instanceMethod yX7_copy]
def wsX9_add_r2 : List Cond := [Cond.selects RX7 yX7_copy yX7_copy, Cond.initialized RX7, Cond.code yX7_copy cX7_copy 3 none, Cond.fieldLink RX7 13 "PamphletQuarrel$Row" "cells" "[J", Cond.methodLink RX7 19 arraycopyName, Cond.native arraycopyName, Cond.static arraycopyName, Cond.initialized "java/lang/System"]
def wsX9_add : List Cond := .code yX9_add cX9_add 4 none :: ((wsX9_add_r1 ++ wsX9_add_r2) ++ wsX90 ++ wsX40 ++ wsX70)
def wsX9_hasSourcesOf : List Cond := .code yX9_hasSourcesOf cX9_hasSourcesOf 3 (some .boolean) :: ([.methodLink RX9 50 yX7_number, .instanceMethod yX7_number, .selects RX7 yX7_number yX7_number, .initialized RX7, .code yX7_number cX7_number 2 (some .int), .fieldLink RX7 13 "PamphletQuarrel$Row" "cells" "[J", .methodLink RX9 56 yX9_has, .instanceMethod yX9_has, .selects RX9 yX9_has yX9_has, .initialized RX9, .code yX9_has cX9_has 2 (some .boolean), .fieldLink RX9 22 "PamphletQuarrel$State" "count" "I"] ++ wsX40 ++ wsX70 ++ wsX90)
def wsX9_isSourceOfToday : List Cond := .code yX9_isSourceOfToday cX9_isSourceOfToday 3 (some .boolean) :: ([.fieldLink RX9 26 "PamphletQuarrel$State" "today" "I", .methodLink RX9 50 yX7_number, .instanceMethod yX7_number, .selects RX7 yX7_number yX7_number, .initialized RX7, .code yX7_number cX7_number 2 (some .int), .fieldLink RX7 13 "PamphletQuarrel$Row" "cells" "[J", .methodLink RX9 29 yX9_at, .instanceMethod yX9_at, .selects RX9 yX9_at yX9_at, .initialized RX9, .code yX9_at cX9_at 3 (some (.object "PamphletQuarrel$Pamphlet")), .fieldLink RX9 11 "PamphletQuarrel$State" "printed" "[LPamphletQuarrel$Pamphlet;", .fieldLink RX9 18 "PamphletQuarrel$State" "blank" "LPamphletQuarrel$Pamphlet;"] ++ wsX40 ++ wsX90 ++ wsX70)
def wsX10_init_r1 : List Cond := [Cond.methodLink RX10 1 objectInit, Cond.instanceMethod objectInit, Cond.code objectInit ⟨#[0xb1]⟩ 1 none, Cond.classLink RX10 7 RX9, Cond.instantiable RX9 4, Cond.initialized RX9, Cond.fieldLink RX10 10 "PamphletQuarrel" "state" "LPamphletQuarrel$State;", Cond.classLink RX10 16 RX2, Cond.instantiable RX2 5, Cond.initialized RX2, Cond.fieldLink RX10 19 "PamphletQuarrel" "history" "LPamphletQuarrel$History;", Cond.classLink RX10 23 RX0, Cond.instantiable RX0 2, Cond.initialized RX0, Cond.fieldLink RX10 26 "PamphletQuarrel" "buffer" "LPamphletQuarrel$Buffer;", Cond.classLink RX10 30 RX6, Cond.instantiable RX6 5, Cond.initialized RX6, Cond.fieldLink RX10 33 "PamphletQuarrel" "reader" "LPamphletQuarrel$Reader;", Cond.classLink RX10 37 RX5, Cond.instantiable RX5 3, Cond.initialized RX5, Cond.fieldLink RX10 40 "PamphletQuarrel" "quotations" "LPamphletQuarrel$Quotations;", Cond.classLink RX10 44 RX3]
def wsX10_init_r2 : List Cond := [Cond.instantiable RX3 1, Cond.initialized RX3, Cond.fieldLink RX10 47 "PamphletQuarrel" "ladders" "LPamphletQuarrel$Ladders;", Cond.classLink RX10 51 RX1, Cond.instantiable RX1 3, Cond.initialized RX1, Cond.fieldLink RX10 54 "PamphletQuarrel" "glossary" "LPamphletQuarrel$Glossary;", Cond.methodLink RX10 9 yX9_init, Cond.instanceMethod yX9_init, Cond.code yX9_init cX9_init 2 none, Cond.methodLink RX9 3 objectInit, Cond.classLink RX9 9 RX4, Cond.fieldLink RX9 11 "PamphletQuarrel$State" "printed" "[LPamphletQuarrel$Pamphlet;", Cond.instantiable RX4 8, Cond.initialized RX4, Cond.fieldLink RX9 18 "PamphletQuarrel$State" "blank" "LPamphletQuarrel$Pamphlet;", Cond.instanceMethod yX4_init, Cond.code yX4_init cX4_init 1 none, Cond.methodLink RX4 3 objectInit, Cond.classLink RX4 9 RX7, Cond.instantiable RX7 1, Cond.initialized RX7, Cond.fieldLink RX4 14 "PamphletQuarrel$Pamphlet" "words" "LPamphletQuarrel$Row;", Cond.fieldLink RX4 20 "PamphletQuarrel$Pamphlet" "sources" "LPamphletQuarrel$Row;"]
def wsX10_init_r3 : List Cond := [Cond.fieldLink RX4 23 "PamphletQuarrel$Pamphlet" "begins" "LPamphletQuarrel$Row;", Cond.fieldLink RX4 26 "PamphletQuarrel$Pamphlet" "lengths" "LPamphletQuarrel$Row;", Cond.methodLink RX4 11 yX7_init, Cond.instanceMethod yX7_init, Cond.code yX7_init cX7_init 2 none, Cond.methodLink RX7 1 objectInit, Cond.methodLink RX7 7 Lib.Math.max.name, Cond.static Lib.Math.max.name, Cond.initialized "java/lang/Math", Cond.code Lib.Math.max.name Lib.Math.max.code 2 (some .int), Cond.arrayClass .long, Cond.fieldLink RX7 13 "PamphletQuarrel$Row" "cells" "[J", Cond.methodLink RX10 18 yX2_init, Cond.instanceMethod yX2_init, Cond.code yX2_init cX2_init 2 none, Cond.methodLink RX2 3 objectInit, Cond.classLink RX2 9 RX9, Cond.fieldLink RX2 11 "PamphletQuarrel$History" "saved" "[LPamphletQuarrel$State;", Cond.fieldLink RX2 18 "PamphletQuarrel$History" "snapshot" "LPamphletQuarrel$State;", Cond.methodLink RX2 17 yX9_init, Cond.instanceMethod yX0_init, Cond.code yX0_init cX0_init 1 none, Cond.methodLink RX0 3 objectInit, Cond.classLink RX0 9 RX7]
def wsX10_init_r4 : List Cond := [Cond.fieldLink RX0 14 "PamphletQuarrel$Buffer" "codes" "LPamphletQuarrel$Row;", Cond.methodLink RX0 11 yX7_init, Cond.instanceMethod yX6_init, Cond.code yX6_init cX6_init 1 none, Cond.methodLink RX6 3 objectInit, Cond.classLink RX6 9 RX4, Cond.fieldLink RX6 12 "PamphletQuarrel$Reader" "text" "LPamphletQuarrel$Pamphlet;", Cond.instanceMethod yX5_init, Cond.code yX5_init cX5_init 1 none, Cond.methodLink RX5 3 objectInit, Cond.classLink RX5 9 RX8, Cond.instantiable RX8 4, Cond.initialized RX8, Cond.fieldLink RX5 12 "PamphletQuarrel$Quotations" "search" "LPamphletQuarrel$Search;", Cond.instanceMethod yX8_init, Cond.code yX8_init cX8_init 1 none, Cond.methodLink RX8 3 objectInit, Cond.classLink RX8 9 RX7, Cond.fieldLink RX8 14 "PamphletQuarrel$Search" "cells" "LPamphletQuarrel$Row;", Cond.methodLink RX8 11 yX7_init, Cond.instanceMethod yX3_init, Cond.code yX3_init cX3_init 1 none, Cond.methodLink RX3 3 objectInit, Cond.classLink RX3 9 RX7]
def wsX10_init_r5 : List Cond := [Cond.fieldLink RX3 14 "PamphletQuarrel$Ladders" "tallies" "LPamphletQuarrel$Row;", Cond.methodLink RX3 11 yX7_init, Cond.instanceMethod yX1_init, Cond.code yX1_init cX1_init 1 none, Cond.methodLink RX1 3 objectInit, Cond.classLink RX1 9 RX7, Cond.fieldLink RX1 14 "PamphletQuarrel$Glossary" "entries" "LPamphletQuarrel$Row;", Cond.fieldLink RX1 20 "PamphletQuarrel$Glossary" "times" "LPamphletQuarrel$Row;", Cond.methodLink RX1 11 yX7_init]
def wsX10_init : List Cond := .code yX10_init cX10_init 1 none :: ((wsX10_init_r1 ++ (wsX10_init_r2 ++ (wsX10_init_r3 ++ (wsX10_init_r4 ++ wsX10_init_r5)))) ++ wsX90 ++ wsX100 ++ wsX20 ++ wsX00 ++ wsX60 ++ wsX50 ++ wsX30 ++ wsX10 ++ wsX40 ++ wsX70 ++ wsX80)
def wsX10_isAuthor : List Cond := .code yX10_isAuthor cX10_isAuthor 1 (some .boolean) :: ([])
def wsX10_whyNotPrinted_r1 : List Cond := [Cond.fieldLink RX10 10 "PamphletQuarrel" "state" "LPamphletQuarrel$State;", Cond.fieldLink RX10 33 "PamphletQuarrel" "reader" "LPamphletQuarrel$Reader;", Cond.fieldLink RX10 26 "PamphletQuarrel" "buffer" "LPamphletQuarrel$Buffer;", Cond.methodLink RX10 182 yX6_read, Cond.instanceMethod yX6_read, Cond.selects RX6 yX6_read yX6_read, Cond.initialized RX6, Cond.code yX6_read cX6_read 3 none, Cond.fieldLink RX6 12 "PamphletQuarrel$Reader" "text" "LPamphletQuarrel$Pamphlet;", Cond.fieldLink RX6 21 "PamphletQuarrel$Reader" "position" "I", Cond.fieldLink RX6 25 "PamphletQuarrel$Reader" "place" "I", Cond.methodLink RX6 18 yX4_empty, Cond.instanceMethod yX4_empty, Cond.selects RX4 yX4_empty yX4_empty, Cond.initialized RX4, Cond.code yX4_empty cX4_empty 1 none, Cond.fieldLink RX4 36 "PamphletQuarrel$Pamphlet" "wordCount" "I", Cond.fieldLink RX4 39 "PamphletQuarrel$Pamphlet" "quotationCount" "I", Cond.methodLink RX6 37 yX7_number, Cond.instanceMethod yX7_number, Cond.selects RX7 yX7_number yX7_number, Cond.initialized RX7, Cond.code yX7_number cX7_number 2 (some .int), Cond.fieldLink RX7 13 "PamphletQuarrel$Row" "cells" "[J"]
def wsX10_whyNotPrinted_r2 : List Cond := [Cond.methodLink RX6 43 yX6_placeAfter, Cond.instanceMethod yX6_placeAfter, Cond.selects RX6 yX6_placeAfter yX6_placeAfter, Cond.code yX6_placeAfter cX6_placeAfter 2 (some .int), Cond.methodLink RX6 46 yX6_afterOpening, Cond.instanceMethod yX6_afterOpening, Cond.selects RX6 yX6_afterOpening yX6_afterOpening, Cond.code yX6_afterOpening cX6_afterOpening 1 (some .int), Cond.fieldLink RX6 66 "PamphletQuarrel$Reader" "begin" "I", Cond.methodLink RX6 50 yX6_afterFirstLetter, Cond.instanceMethod yX6_afterFirstLetter, Cond.selects RX6 yX6_afterFirstLetter yX6_afterFirstLetter, Cond.code yX6_afterFirstLetter cX6_afterFirstLetter 3 (some .int), Cond.fieldLink RX6 77 "PamphletQuarrel$Reader" "letters" "I", Cond.static yX10_withLetter, Cond.initialized RX10, Cond.code yX10_withLetter cX10_withLetter 4 (some .long), Cond.methodLink RX6 73 yX4_addWord, Cond.instanceMethod yX4_addWord, Cond.selects RX4 yX4_addWord yX4_addWord, Cond.code yX4_addWord cX4_addWord 3 none, Cond.fieldLink RX4 14 "PamphletQuarrel$Pamphlet" "words" "LPamphletQuarrel$Row;", Cond.methodLink RX4 46 yX7_put, Cond.instanceMethod yX7_put]
def wsX10_whyNotPrinted_r3 : List Cond := [Cond.selects RX7 yX7_put yX7_put, Cond.code yX7_put cX7_put 4 none, Cond.methodLink RX6 54 yX6_afterLetter, Cond.instanceMethod yX6_afterLetter, Cond.selects RX6 yX6_afterLetter yX6_afterLetter, Cond.code yX6_afterLetter cX6_afterLetter 3 (some .int), Cond.methodLink RX6 83 yX7_at, Cond.instanceMethod yX7_at, Cond.selects RX7 yX7_at yX7_at, Cond.code yX7_at cX7_at 2 (some .long), Cond.methodLink RX6 87 yX7_put, Cond.methodLink RX6 57 yX6_afterFirstDigit, Cond.instanceMethod yX6_afterFirstDigit, Cond.selects RX6 yX6_afterFirstDigit yX6_afterFirstDigit, Cond.code yX6_afterFirstDigit cX6_afterFirstDigit 2 (some .int), Cond.methodLink RX6 91 yX4_addQuotation, Cond.instanceMethod yX4_addQuotation, Cond.selects RX4 yX4_addQuotation yX4_addQuotation, Cond.code yX4_addQuotation cX4_addQuotation 3 none, Cond.fieldLink RX4 20 "PamphletQuarrel$Pamphlet" "sources" "LPamphletQuarrel$Row;", Cond.fieldLink RX4 23 "PamphletQuarrel$Pamphlet" "begins" "LPamphletQuarrel$Row;", Cond.fieldLink RX4 26 "PamphletQuarrel$Pamphlet" "lengths" "LPamphletQuarrel$Row;", Cond.methodLink RX6 60 yX6_afterSecondDigit, Cond.instanceMethod yX6_afterSecondDigit]
def wsX10_whyNotPrinted_r4 : List Cond := [Cond.selects RX6 yX6_afterSecondDigit yX6_afterSecondDigit, Cond.code yX6_afterSecondDigit cX6_afterSecondDigit 2 (some .int), Cond.methodLink RX10 186 yX6_isAtEndOfText, Cond.instanceMethod yX6_isAtEndOfText, Cond.selects RX6 yX6_isAtEndOfText yX6_isAtEndOfText, Cond.code yX6_isAtEndOfText cX6_isAtEndOfText 2 (some .boolean), Cond.methodLink RX10 190 yX9_hasSourcesOf, Cond.instanceMethod yX9_hasSourcesOf, Cond.selects RX9 yX9_hasSourcesOf yX9_hasSourcesOf, Cond.initialized RX9, Cond.code yX9_hasSourcesOf cX9_hasSourcesOf 3 (some .boolean), Cond.methodLink RX9 50 yX7_number, Cond.methodLink RX9 56 yX9_has, Cond.instanceMethod yX9_has, Cond.selects RX9 yX9_has yX9_has, Cond.code yX9_has cX9_has 2 (some .boolean), Cond.fieldLink RX9 22 "PamphletQuarrel$State" "count" "I", Cond.methodLink RX10 194 yX9_isSourceOfToday, Cond.instanceMethod yX9_isSourceOfToday, Cond.selects RX9 yX9_isSourceOfToday yX9_isSourceOfToday, Cond.code yX9_isSourceOfToday cX9_isSourceOfToday 3 (some .boolean), Cond.fieldLink RX9 26 "PamphletQuarrel$State" "today" "I", Cond.methodLink RX9 29 yX9_at, Cond.instanceMethod yX9_at]
def wsX10_whyNotPrinted_r5 : List Cond := [Cond.selects RX9 yX9_at yX9_at, Cond.code yX9_at cX9_at 3 (some (.object "PamphletQuarrel$Pamphlet")), Cond.fieldLink RX9 11 "PamphletQuarrel$State" "printed" "[LPamphletQuarrel$Pamphlet;", Cond.fieldLink RX9 18 "PamphletQuarrel$State" "blank" "LPamphletQuarrel$Pamphlet;"]
def wsX10_whyNotPrinted : List Cond := .code yX10_whyNotPrinted cX10_whyNotPrinted 1 (some .int) :: ((wsX10_whyNotPrinted_r1 ++ (wsX10_whyNotPrinted_r2 ++ (wsX10_whyNotPrinted_r3 ++ (wsX10_whyNotPrinted_r4 ++ wsX10_whyNotPrinted_r5)))) ++ wsX100 ++ wsX90 ++ wsX60 ++ wsX00 ++ wsX40 ++ wsX70)
def wsX10_print_r1 : List Cond := [Cond.classLink RX10 62 "java/lang/IllegalArgumentException", Cond.initialized "java/lang/IllegalArgumentException", Cond.classLink RX10 73 "java/lang/IllegalStateException", Cond.initialized "java/lang/IllegalStateException", Cond.fieldLink RX10 19 "PamphletQuarrel" "history" "LPamphletQuarrel$History;", Cond.fieldLink RX10 10 "PamphletQuarrel" "state" "LPamphletQuarrel$State;", Cond.fieldLink RX10 33 "PamphletQuarrel" "reader" "LPamphletQuarrel$Reader;", Cond.fieldLink RX10 26 "PamphletQuarrel" "buffer" "LPamphletQuarrel$Buffer;", Cond.methodLink RX10 58 yX10_isAuthor, Cond.static yX10_isAuthor, Cond.initialized RX10, Cond.code yX10_isAuthor cX10_isAuthor 1 (some .boolean), Cond.methodLink RX10 69 yX10_whyNotPrinted, Cond.instanceMethod yX10_whyNotPrinted, Cond.selects RX10 yX10_whyNotPrinted yX10_whyNotPrinted, Cond.code yX10_whyNotPrinted cX10_whyNotPrinted 1 (some .int), Cond.methodLink RX10 182 yX6_read, Cond.instanceMethod yX6_read, Cond.selects RX6 yX6_read yX6_read, Cond.initialized RX6, Cond.code yX6_read cX6_read 3 none, Cond.fieldLink RX6 12 "PamphletQuarrel$Reader" "text" "LPamphletQuarrel$Pamphlet;", Cond.fieldLink RX6 21 "PamphletQuarrel$Reader" "position" "I", Cond.fieldLink RX6 25 "PamphletQuarrel$Reader" "place" "I"]
def wsX10_print_r2 : List Cond := [Cond.methodLink RX6 18 yX4_empty, Cond.instanceMethod yX4_empty, Cond.selects RX4 yX4_empty yX4_empty, Cond.initialized RX4, Cond.code yX4_empty cX4_empty 1 none, Cond.fieldLink RX4 36 "PamphletQuarrel$Pamphlet" "wordCount" "I", Cond.fieldLink RX4 39 "PamphletQuarrel$Pamphlet" "quotationCount" "I", Cond.methodLink RX6 37 yX7_number, Cond.instanceMethod yX7_number, Cond.selects RX7 yX7_number yX7_number, Cond.initialized RX7, Cond.code yX7_number cX7_number 2 (some .int), Cond.fieldLink RX7 13 "PamphletQuarrel$Row" "cells" "[J", Cond.methodLink RX6 43 yX6_placeAfter, Cond.instanceMethod yX6_placeAfter, Cond.selects RX6 yX6_placeAfter yX6_placeAfter, Cond.code yX6_placeAfter cX6_placeAfter 2 (some .int), Cond.methodLink RX6 46 yX6_afterOpening, Cond.instanceMethod yX6_afterOpening, Cond.selects RX6 yX6_afterOpening yX6_afterOpening, Cond.code yX6_afterOpening cX6_afterOpening 1 (some .int), Cond.fieldLink RX6 66 "PamphletQuarrel$Reader" "begin" "I", Cond.methodLink RX6 50 yX6_afterFirstLetter, Cond.instanceMethod yX6_afterFirstLetter]
def wsX10_print_r3 : List Cond := [Cond.selects RX6 yX6_afterFirstLetter yX6_afterFirstLetter, Cond.code yX6_afterFirstLetter cX6_afterFirstLetter 3 (some .int), Cond.fieldLink RX6 77 "PamphletQuarrel$Reader" "letters" "I", Cond.static yX10_withLetter, Cond.code yX10_withLetter cX10_withLetter 4 (some .long), Cond.methodLink RX6 73 yX4_addWord, Cond.instanceMethod yX4_addWord, Cond.selects RX4 yX4_addWord yX4_addWord, Cond.code yX4_addWord cX4_addWord 3 none, Cond.fieldLink RX4 14 "PamphletQuarrel$Pamphlet" "words" "LPamphletQuarrel$Row;", Cond.methodLink RX4 46 yX7_put, Cond.instanceMethod yX7_put, Cond.selects RX7 yX7_put yX7_put, Cond.code yX7_put cX7_put 4 none, Cond.methodLink RX6 54 yX6_afterLetter, Cond.instanceMethod yX6_afterLetter, Cond.selects RX6 yX6_afterLetter yX6_afterLetter, Cond.code yX6_afterLetter cX6_afterLetter 3 (some .int), Cond.methodLink RX6 83 yX7_at, Cond.instanceMethod yX7_at, Cond.selects RX7 yX7_at yX7_at, Cond.code yX7_at cX7_at 2 (some .long), Cond.methodLink RX6 87 yX7_put, Cond.methodLink RX6 57 yX6_afterFirstDigit]
def wsX10_print_r4 : List Cond := [Cond.instanceMethod yX6_afterFirstDigit, Cond.selects RX6 yX6_afterFirstDigit yX6_afterFirstDigit, Cond.code yX6_afterFirstDigit cX6_afterFirstDigit 2 (some .int), Cond.methodLink RX6 91 yX4_addQuotation, Cond.instanceMethod yX4_addQuotation, Cond.selects RX4 yX4_addQuotation yX4_addQuotation, Cond.code yX4_addQuotation cX4_addQuotation 3 none, Cond.fieldLink RX4 20 "PamphletQuarrel$Pamphlet" "sources" "LPamphletQuarrel$Row;", Cond.fieldLink RX4 23 "PamphletQuarrel$Pamphlet" "begins" "LPamphletQuarrel$Row;", Cond.fieldLink RX4 26 "PamphletQuarrel$Pamphlet" "lengths" "LPamphletQuarrel$Row;", Cond.methodLink RX6 60 yX6_afterSecondDigit, Cond.instanceMethod yX6_afterSecondDigit, Cond.selects RX6 yX6_afterSecondDigit yX6_afterSecondDigit, Cond.code yX6_afterSecondDigit cX6_afterSecondDigit 2 (some .int), Cond.methodLink RX10 186 yX6_isAtEndOfText, Cond.instanceMethod yX6_isAtEndOfText, Cond.selects RX6 yX6_isAtEndOfText yX6_isAtEndOfText, Cond.code yX6_isAtEndOfText cX6_isAtEndOfText 2 (some .boolean), Cond.methodLink RX10 190 yX9_hasSourcesOf, Cond.instanceMethod yX9_hasSourcesOf, Cond.selects RX9 yX9_hasSourcesOf yX9_hasSourcesOf, Cond.initialized RX9, Cond.code yX9_hasSourcesOf cX9_hasSourcesOf 3 (some .boolean), Cond.methodLink RX9 50 yX7_number]
def wsX10_print_r5 : List Cond := [Cond.methodLink RX9 56 yX9_has, Cond.instanceMethod yX9_has, Cond.selects RX9 yX9_has yX9_has, Cond.code yX9_has cX9_has 2 (some .boolean), Cond.fieldLink RX9 22 "PamphletQuarrel$State" "count" "I", Cond.methodLink RX10 194 yX9_isSourceOfToday, Cond.instanceMethod yX9_isSourceOfToday, Cond.selects RX9 yX9_isSourceOfToday yX9_isSourceOfToday, Cond.code yX9_isSourceOfToday cX9_isSourceOfToday 3 (some .boolean), Cond.fieldLink RX9 26 "PamphletQuarrel$State" "today" "I", Cond.methodLink RX9 29 yX9_at, Cond.instanceMethod yX9_at, Cond.selects RX9 yX9_at yX9_at, Cond.code yX9_at cX9_at 3 (some (.object "PamphletQuarrel$Pamphlet")), Cond.fieldLink RX9 11 "PamphletQuarrel$State" "printed" "[LPamphletQuarrel$Pamphlet;", Cond.fieldLink RX9 18 "PamphletQuarrel$State" "blank" "LPamphletQuarrel$Pamphlet;", Cond.methodLink RX10 78 yX2_save, Cond.instanceMethod yX2_save, Cond.selects RX2 yX2_save yX2_save, Cond.initialized RX2, Cond.code yX2_save cX2_save 3 none, Cond.fieldLink RX2 26 "PamphletQuarrel$History" "size" "I", Cond.fieldLink RX2 22 "PamphletQuarrel$History" "oldest" "I", Cond.methodLink RX2 29 yX2_slot]
def wsX10_print_r6 : List Cond := [Cond.instanceMethod yX2_slot, Cond.selects RX2 yX2_slot yX2_slot, Cond.code yX2_slot cX2_slot 3 (some (.object "PamphletQuarrel$State")), Cond.fieldLink RX2 11 "PamphletQuarrel$History" "saved" "[LPamphletQuarrel$State;", Cond.methodLink RX2 33 yX9_copy, Cond.instanceMethod yX9_copy, Cond.selects RX9 yX9_copy yX9_copy, Cond.code yX9_copy cX9_copy 3 none, Cond.methodLink RX9 33 yX4_copy, Cond.instanceMethod yX4_copy, Cond.selects RX4 yX4_copy yX4_copy, Cond.code yX4_copy cX4_copy 2 none, Cond.fieldLink RX4 29 "PamphletQuarrel$Pamphlet" "author" "I", Cond.fieldLink RX4 33 "PamphletQuarrel$Pamphlet" "printedOn" "I", Cond.methodLink RX4 42 yX7_copy, Cond.instanceMethod yX7_copy, Cond.selects RX7 yX7_copy yX7_copy, Cond.code yX7_copy cX7_copy 3 none, Cond.methodLink RX7 19 arraycopyName, Cond.native arraycopyName, Cond.static arraycopyName, Cond.initialized "java/lang/System", Cond.methodLink RX10 86 yX9_add, Cond.instanceMethod yX9_add]
def wsX10_print_r7 : List Cond := [Cond.selects RX9 yX9_add yX9_add, Cond.code yX9_add cX9_add 4 none]
def wsX10_print : List Cond := .code yX10_print cX10_print 2 (some .int) :: ((wsX10_print_r1 ++ (wsX10_print_r2 ++ (wsX10_print_r3 ++ (wsX10_print_r4 ++ (wsX10_print_r5 ++ (wsX10_print_r6 ++ wsX10_print_r7)))))) ++ wsX100 ++ wsX60 ++ wsX00 ++ wsX90 ++ wsX40 ++ wsX70 ++ wsX20 ++ (vx_atS RX10 66 "java/lang/IllegalArgumentException" ["java/lang/RuntimeException", "java/lang/Exception"]).filter goodWord ++ (vx_atS RX10 77 "java/lang/IllegalStateException" ["java/lang/RuntimeException", "java/lang/Exception"]).filter goodWord)
def wsX10_pass_r1 : List Cond := [Cond.classLink RX10 62 "java/lang/IllegalArgumentException", Cond.initialized "java/lang/IllegalArgumentException", Cond.fieldLink RX10 19 "PamphletQuarrel" "history" "LPamphletQuarrel$History;", Cond.fieldLink RX10 10 "PamphletQuarrel" "state" "LPamphletQuarrel$State;", Cond.methodLink RX10 78 yX2_save, Cond.instanceMethod yX2_save, Cond.selects RX2 yX2_save yX2_save, Cond.initialized RX2, Cond.code yX2_save cX2_save 3 none, Cond.fieldLink RX2 26 "PamphletQuarrel$History" "size" "I", Cond.fieldLink RX2 22 "PamphletQuarrel$History" "oldest" "I", Cond.methodLink RX2 29 yX2_slot, Cond.instanceMethod yX2_slot, Cond.selects RX2 yX2_slot yX2_slot, Cond.code yX2_slot cX2_slot 3 (some (.object "PamphletQuarrel$State")), Cond.fieldLink RX2 11 "PamphletQuarrel$History" "saved" "[LPamphletQuarrel$State;", Cond.methodLink RX2 33 yX9_copy, Cond.instanceMethod yX9_copy, Cond.selects RX9 yX9_copy yX9_copy, Cond.initialized RX9, Cond.code yX9_copy cX9_copy 3 none, Cond.fieldLink RX9 22 "PamphletQuarrel$State" "count" "I", Cond.fieldLink RX9 26 "PamphletQuarrel$State" "today" "I", Cond.methodLink RX9 29 yX9_at]
def wsX10_pass_r2 : List Cond := [Cond.instanceMethod yX9_at, Cond.selects RX9 yX9_at yX9_at, Cond.code yX9_at cX9_at 3 (some (.object "PamphletQuarrel$Pamphlet")), Cond.fieldLink RX9 11 "PamphletQuarrel$State" "printed" "[LPamphletQuarrel$Pamphlet;", Cond.fieldLink RX9 18 "PamphletQuarrel$State" "blank" "LPamphletQuarrel$Pamphlet;", Cond.methodLink RX9 33 yX4_copy, Cond.instanceMethod yX4_copy, Cond.selects RX4 yX4_copy yX4_copy, Cond.initialized RX4, Cond.code yX4_copy cX4_copy 2 none, Cond.fieldLink RX4 29 "PamphletQuarrel$Pamphlet" "author" "I", Cond.fieldLink RX4 33 "PamphletQuarrel$Pamphlet" "printedOn" "I", Cond.fieldLink RX4 36 "PamphletQuarrel$Pamphlet" "wordCount" "I", Cond.fieldLink RX4 39 "PamphletQuarrel$Pamphlet" "quotationCount" "I", Cond.fieldLink RX4 14 "PamphletQuarrel$Pamphlet" "words" "LPamphletQuarrel$Row;", Cond.fieldLink RX4 20 "PamphletQuarrel$Pamphlet" "sources" "LPamphletQuarrel$Row;", Cond.fieldLink RX4 23 "PamphletQuarrel$Pamphlet" "begins" "LPamphletQuarrel$Row;", Cond.fieldLink RX4 26 "PamphletQuarrel$Pamphlet" "lengths" "LPamphletQuarrel$Row;", Cond.methodLink RX4 42 yX7_copy, Cond.instanceMethod yX7_copy, Cond.selects RX7 yX7_copy yX7_copy, Cond.initialized RX7, Cond.code yX7_copy cX7_copy 3 none, Cond.fieldLink RX7 13 "PamphletQuarrel$Row" "cells" "[J"]
def wsX10_pass_r3 : List Cond := [Cond.methodLink RX7 19 arraycopyName, Cond.native arraycopyName, Cond.static arraycopyName, Cond.initialized "java/lang/System"]
def wsX10_pass : List Cond := .code yX10_pass cX10_pass 2 (some .int) :: ((wsX10_pass_r1 ++ (wsX10_pass_r2 ++ wsX10_pass_r3)) ++ wsX100 ++ wsX90 ++ wsX20 ++ wsX40 ++ wsX70 ++ (vx_atS RX10 66 "java/lang/IllegalArgumentException" ["java/lang/RuntimeException", "java/lang/Exception"]).filter goodWord)
def wsX10_needPamphlet : List Cond := .code yX10_needPamphlet cX10_needPamphlet 2 none :: ([.classLink RX10 152 "java/lang/IndexOutOfBoundsException", .initialized "java/lang/IndexOutOfBoundsException", .fieldLink RX10 10 "PamphletQuarrel" "state" "LPamphletQuarrel$State;", .methodLink RX10 315 yX9_has, .instanceMethod yX9_has, .selects RX9 yX9_has yX9_has, .initialized RX9, .code yX9_has cX9_has 2 (some .boolean), .fieldLink RX9 22 "PamphletQuarrel$State" "count" "I"] ++ wsX100 ++ wsX90 ++ (vx_atS RX10 156 "java/lang/IndexOutOfBoundsException" ["java/lang/RuntimeException", "java/lang/Exception"]).filter goodWord)
def wsX10_needQuotation : List Cond := .code yX10_needQuotation cX10_needQuotation 3 none :: ([.classLink RX10 152 "java/lang/IndexOutOfBoundsException", .initialized "java/lang/IndexOutOfBoundsException", .fieldLink RX10 10 "PamphletQuarrel" "state" "LPamphletQuarrel$State;", .methodLink RX10 139 yX10_needPamphlet, .instanceMethod yX10_needPamphlet, .selects RX10 yX10_needPamphlet yX10_needPamphlet, .initialized RX10, .code yX10_needPamphlet cX10_needPamphlet 2 none, .methodLink RX10 315 yX9_has, .instanceMethod yX9_has, .selects RX9 yX9_has yX9_has, .initialized RX9, .code yX9_has cX9_has 2 (some .boolean), .fieldLink RX9 22 "PamphletQuarrel$State" "count" "I", .methodLink RX10 128 yX9_at, .instanceMethod yX9_at, .selects RX9 yX9_at yX9_at, .code yX9_at cX9_at 3 (some (.object "PamphletQuarrel$Pamphlet")), .fieldLink RX9 11 "PamphletQuarrel$State" "printed" "[LPamphletQuarrel$Pamphlet;", .fieldLink RX9 18 "PamphletQuarrel$State" "blank" "LPamphletQuarrel$Pamphlet;"] ++ wsX100 ++ wsX40 ++ wsX90 ++ (vx_atS RX10 156 "java/lang/IndexOutOfBoundsException" ["java/lang/RuntimeException", "java/lang/Exception"]).filter goodWord)
def wsX10_mend_r1 : List Cond := [Cond.classLink RX10 73 "java/lang/IllegalStateException", Cond.initialized "java/lang/IllegalStateException", Cond.fieldLink RX10 40 "PamphletQuarrel" "quotations" "LPamphletQuarrel$Quotations;", Cond.fieldLink RX10 10 "PamphletQuarrel" "state" "LPamphletQuarrel$State;", Cond.fieldLink RX10 19 "PamphletQuarrel" "history" "LPamphletQuarrel$History;", Cond.methodLink RX10 102 yX10_needQuotation, Cond.instanceMethod yX10_needQuotation, Cond.selects RX10 yX10_needQuotation yX10_needQuotation, Cond.initialized RX10, Cond.code yX10_needQuotation cX10_needQuotation 3 none, Cond.classLink RX10 152 "java/lang/IndexOutOfBoundsException", Cond.initialized "java/lang/IndexOutOfBoundsException", Cond.methodLink RX10 139 yX10_needPamphlet, Cond.instanceMethod yX10_needPamphlet, Cond.selects RX10 yX10_needPamphlet yX10_needPamphlet, Cond.code yX10_needPamphlet cX10_needPamphlet 2 none, Cond.methodLink RX10 315 yX9_has, Cond.instanceMethod yX9_has, Cond.selects RX9 yX9_has yX9_has, Cond.initialized RX9, Cond.code yX9_has cX9_has 2 (some .boolean), Cond.fieldLink RX9 22 "PamphletQuarrel$State" "count" "I", Cond.methodLink RX10 128 yX9_at, Cond.instanceMethod yX9_at]
def wsX10_mend_r2 : List Cond := [Cond.selects RX9 yX9_at yX9_at, Cond.code yX9_at cX9_at 3 (some (.object "PamphletQuarrel$Pamphlet")), Cond.fieldLink RX9 11 "PamphletQuarrel$State" "printed" "[LPamphletQuarrel$Pamphlet;", Cond.fieldLink RX9 18 "PamphletQuarrel$State" "blank" "LPamphletQuarrel$Pamphlet;", Cond.methodLink RX10 106 yX5_find, Cond.instanceMethod yX5_find, Cond.selects RX5 yX5_find yX5_find, Cond.initialized RX5, Cond.code yX5_find cX5_find 5 (some .int), Cond.fieldLink RX5 12 "PamphletQuarrel$Quotations" "search" "LPamphletQuarrel$Search;", Cond.methodLink RX5 18 yX9_at, Cond.methodLink RX5 30 yX7_number, Cond.instanceMethod yX7_number, Cond.selects RX7 yX7_number yX7_number, Cond.initialized RX7, Cond.code yX7_number cX7_number 2 (some .int), Cond.fieldLink RX7 13 "PamphletQuarrel$Row" "cells" "[J", Cond.methodLink RX5 36 yX8_byTable, Cond.instanceMethod yX8_byTable, Cond.selects RX8 yX8_byTable yX8_byTable, Cond.initialized RX8, Cond.code yX8_byTable cX8_byTable 7 none, Cond.fieldLink RX8 14 "PamphletQuarrel$Search" "cells" "LPamphletQuarrel$Row;", Cond.methodLink RX8 25 yX7_number]
def wsX10_mend_r3 : List Cond := [Cond.methodLink RX8 36 yX7_put, Cond.instanceMethod yX7_put, Cond.selects RX7 yX7_put yX7_put, Cond.code yX7_put cX7_put 4 none, Cond.methodLink RX8 43 yX7_at, Cond.instanceMethod yX7_at, Cond.selects RX7 yX7_at yX7_at, Cond.code yX7_at cX7_at 2 (some .long), Cond.methodLink RX8 47 yX8_takeWord, Cond.instanceMethod yX8_takeWord, Cond.selects RX8 yX8_takeWord yX8_takeWord, Cond.code yX8_takeWord cX8_takeWord 11 none, Cond.methodLink RX8 67 Lib.Math.min.name, Cond.static Lib.Math.min.name, Cond.initialized "java/lang/Math", Cond.code Lib.Math.min.name Lib.Math.min.code 2 (some .int), Cond.methodLink RX8 51 yX8_chooseEnd, Cond.instanceMethod yX8_chooseEnd, Cond.selects RX8 yX8_chooseEnd yX8_chooseEnd, Cond.code yX8_chooseEnd cX8_chooseEnd 4 none, Cond.fieldLink RX8 54 "PamphletQuarrel$Search" "changes" "I", Cond.fieldLink RX8 57 "PamphletQuarrel$Search" "begin" "I", Cond.fieldLink RX8 60 "PamphletQuarrel$Search" "length" "I", Cond.methodLink RX10 112 yX5_isRoomFor]
def wsX10_mend_r4 : List Cond := [Cond.instanceMethod yX5_isRoomFor, Cond.selects RX5 yX5_isRoomFor yX5_isRoomFor, Cond.code yX5_isRoomFor cX5_isRoomFor 5 (some .boolean), Cond.methodLink RX5 84 yX4_growth, Cond.instanceMethod yX4_growth, Cond.selects RX4 yX4_growth yX4_growth, Cond.initialized RX4, Cond.code yX4_growth cX4_growth 3 (some .int), Cond.fieldLink RX4 26 "PamphletQuarrel$Pamphlet" "lengths" "LPamphletQuarrel$Row;", Cond.methodLink RX4 50 yX7_number, Cond.methodLink RX10 78 yX2_save, Cond.instanceMethod yX2_save, Cond.selects RX2 yX2_save yX2_save, Cond.initialized RX2, Cond.code yX2_save cX2_save 3 none, Cond.fieldLink RX2 26 "PamphletQuarrel$History" "size" "I", Cond.fieldLink RX2 22 "PamphletQuarrel$History" "oldest" "I", Cond.methodLink RX2 29 yX2_slot, Cond.instanceMethod yX2_slot, Cond.selects RX2 yX2_slot yX2_slot, Cond.code yX2_slot cX2_slot 3 (some (.object "PamphletQuarrel$State")), Cond.fieldLink RX2 11 "PamphletQuarrel$History" "saved" "[LPamphletQuarrel$State;", Cond.methodLink RX2 33 yX9_copy, Cond.instanceMethod yX9_copy]
def wsX10_mend_r5 : List Cond := [Cond.selects RX9 yX9_copy yX9_copy, Cond.code yX9_copy cX9_copy 3 none, Cond.fieldLink RX9 26 "PamphletQuarrel$State" "today" "I", Cond.methodLink RX9 29 yX9_at, Cond.methodLink RX9 33 yX4_copy, Cond.instanceMethod yX4_copy, Cond.selects RX4 yX4_copy yX4_copy, Cond.code yX4_copy cX4_copy 2 none, Cond.fieldLink RX4 29 "PamphletQuarrel$Pamphlet" "author" "I", Cond.fieldLink RX4 33 "PamphletQuarrel$Pamphlet" "printedOn" "I", Cond.fieldLink RX4 36 "PamphletQuarrel$Pamphlet" "wordCount" "I", Cond.fieldLink RX4 39 "PamphletQuarrel$Pamphlet" "quotationCount" "I", Cond.fieldLink RX4 14 "PamphletQuarrel$Pamphlet" "words" "LPamphletQuarrel$Row;", Cond.fieldLink RX4 20 "PamphletQuarrel$Pamphlet" "sources" "LPamphletQuarrel$Row;", Cond.fieldLink RX4 23 "PamphletQuarrel$Pamphlet" "begins" "LPamphletQuarrel$Row;", Cond.methodLink RX4 42 yX7_copy, Cond.instanceMethod yX7_copy, Cond.selects RX7 yX7_copy yX7_copy, Cond.code yX7_copy cX7_copy 3 none, Cond.methodLink RX7 19 arraycopyName, Cond.native arraycopyName, Cond.static arraycopyName, Cond.initialized "java/lang/System", Cond.methodLink RX10 118 yX5_putRight]
def wsX10_mend_r6 : List Cond := [Cond.instanceMethod yX5_putRight, Cond.selects RX5 yX5_putRight yX5_putRight, Cond.code yX5_putRight cX5_putRight 6 none, Cond.methodLink RX5 87 yX4_replace, Cond.instanceMethod yX4_replace, Cond.selects RX4 yX4_replace yX4_replace, Cond.code yX4_replace cX4_replace 9 none, Cond.methodLink RX4 58 yX4_growth, Cond.methodLink RX4 62 yX7_move, Cond.instanceMethod yX7_move, Cond.selects RX7 yX7_move yX7_move, Cond.code yX7_move cX7_move 4 none, Cond.methodLink RX4 66 yX7_at, Cond.methodLink RX4 46 yX7_put]
def wsX10_mend : List Cond := .code yX10_mend cX10_mend 4 (some .int) :: ((wsX10_mend_r1 ++ (wsX10_mend_r2 ++ (wsX10_mend_r3 ++ (wsX10_mend_r4 ++ (wsX10_mend_r5 ++ wsX10_mend_r6))))) ++ wsX100 ++ wsX40 ++ wsX90 ++ wsX50 ++ wsX80 ++ wsX70 ++ wsX20 ++ (vx_atS RX10 77 "java/lang/IllegalStateException" ["java/lang/RuntimeException", "java/lang/Exception"]).filter goodWord ++ (vx_atS RX10 156 "java/lang/IndexOutOfBoundsException" ["java/lang/RuntimeException", "java/lang/Exception"]).filter goodWord)
def wsX10_mendAll_r1 : List Cond := [Cond.fieldLink RX10 19 "PamphletQuarrel" "history" "LPamphletQuarrel$History;", Cond.fieldLink RX10 10 "PamphletQuarrel" "state" "LPamphletQuarrel$State;", Cond.fieldLink RX10 40 "PamphletQuarrel" "quotations" "LPamphletQuarrel$Quotations;", Cond.methodLink RX10 78 yX2_save, Cond.instanceMethod yX2_save, Cond.selects RX2 yX2_save yX2_save, Cond.initialized RX2, Cond.code yX2_save cX2_save 3 none, Cond.fieldLink RX2 26 "PamphletQuarrel$History" "size" "I", Cond.fieldLink RX2 22 "PamphletQuarrel$History" "oldest" "I", Cond.methodLink RX2 29 yX2_slot, Cond.instanceMethod yX2_slot, Cond.selects RX2 yX2_slot yX2_slot, Cond.code yX2_slot cX2_slot 3 (some (.object "PamphletQuarrel$State")), Cond.fieldLink RX2 11 "PamphletQuarrel$History" "saved" "[LPamphletQuarrel$State;", Cond.methodLink RX2 33 yX9_copy, Cond.instanceMethod yX9_copy, Cond.selects RX9 yX9_copy yX9_copy, Cond.initialized RX9, Cond.code yX9_copy cX9_copy 3 none, Cond.fieldLink RX9 22 "PamphletQuarrel$State" "count" "I", Cond.fieldLink RX9 26 "PamphletQuarrel$State" "today" "I", Cond.methodLink RX9 29 yX9_at, Cond.instanceMethod yX9_at]
def wsX10_mendAll_r2 : List Cond := [Cond.selects RX9 yX9_at yX9_at, Cond.code yX9_at cX9_at 3 (some (.object "PamphletQuarrel$Pamphlet")), Cond.fieldLink RX9 11 "PamphletQuarrel$State" "printed" "[LPamphletQuarrel$Pamphlet;", Cond.fieldLink RX9 18 "PamphletQuarrel$State" "blank" "LPamphletQuarrel$Pamphlet;", Cond.methodLink RX9 33 yX4_copy, Cond.instanceMethod yX4_copy, Cond.selects RX4 yX4_copy yX4_copy, Cond.initialized RX4, Cond.code yX4_copy cX4_copy 2 none, Cond.fieldLink RX4 29 "PamphletQuarrel$Pamphlet" "author" "I", Cond.fieldLink RX4 33 "PamphletQuarrel$Pamphlet" "printedOn" "I", Cond.fieldLink RX4 36 "PamphletQuarrel$Pamphlet" "wordCount" "I", Cond.fieldLink RX4 39 "PamphletQuarrel$Pamphlet" "quotationCount" "I", Cond.fieldLink RX4 14 "PamphletQuarrel$Pamphlet" "words" "LPamphletQuarrel$Row;", Cond.fieldLink RX4 20 "PamphletQuarrel$Pamphlet" "sources" "LPamphletQuarrel$Row;", Cond.fieldLink RX4 23 "PamphletQuarrel$Pamphlet" "begins" "LPamphletQuarrel$Row;", Cond.fieldLink RX4 26 "PamphletQuarrel$Pamphlet" "lengths" "LPamphletQuarrel$Row;", Cond.methodLink RX4 42 yX7_copy, Cond.instanceMethod yX7_copy, Cond.selects RX7 yX7_copy yX7_copy, Cond.initialized RX7, Cond.code yX7_copy cX7_copy 3 none, Cond.fieldLink RX7 13 "PamphletQuarrel$Row" "cells" "[J", Cond.methodLink RX7 19 arraycopyName]
def wsX10_mendAll_r3 : List Cond := [Cond.native arraycopyName, Cond.static arraycopyName, Cond.initialized "java/lang/System", Cond.methodLink RX10 122 yX5_putAllRight, Cond.instanceMethod yX5_putAllRight, Cond.selects RX5 yX5_putAllRight yX5_putAllRight, Cond.initialized RX5, Cond.code yX5_putAllRight cX5_putAllRight 6 (some .int), Cond.methodLink RX5 18 yX9_at, Cond.methodLink RX5 51 yX5_find, Cond.instanceMethod yX5_find, Cond.selects RX5 yX5_find yX5_find, Cond.code yX5_find cX5_find 5 (some .int), Cond.fieldLink RX5 12 "PamphletQuarrel$Quotations" "search" "LPamphletQuarrel$Search;", Cond.methodLink RX5 30 yX7_number, Cond.instanceMethod yX7_number, Cond.selects RX7 yX7_number yX7_number, Cond.code yX7_number cX7_number 2 (some .int), Cond.methodLink RX5 36 yX8_byTable, Cond.instanceMethod yX8_byTable, Cond.selects RX8 yX8_byTable yX8_byTable, Cond.initialized RX8, Cond.code yX8_byTable cX8_byTable 7 none, Cond.fieldLink RX8 14 "PamphletQuarrel$Search" "cells" "LPamphletQuarrel$Row;"]
def wsX10_mendAll_r4 : List Cond := [Cond.methodLink RX8 25 yX7_number, Cond.methodLink RX8 36 yX7_put, Cond.instanceMethod yX7_put, Cond.selects RX7 yX7_put yX7_put, Cond.code yX7_put cX7_put 4 none, Cond.methodLink RX8 43 yX7_at, Cond.instanceMethod yX7_at, Cond.selects RX7 yX7_at yX7_at, Cond.code yX7_at cX7_at 2 (some .long), Cond.methodLink RX8 47 yX8_takeWord, Cond.instanceMethod yX8_takeWord, Cond.selects RX8 yX8_takeWord yX8_takeWord, Cond.code yX8_takeWord cX8_takeWord 11 none, Cond.methodLink RX8 67 Lib.Math.min.name, Cond.static Lib.Math.min.name, Cond.initialized "java/lang/Math", Cond.code Lib.Math.min.name Lib.Math.min.code 2 (some .int), Cond.methodLink RX8 51 yX8_chooseEnd, Cond.instanceMethod yX8_chooseEnd, Cond.selects RX8 yX8_chooseEnd yX8_chooseEnd, Cond.code yX8_chooseEnd cX8_chooseEnd 4 none, Cond.fieldLink RX8 54 "PamphletQuarrel$Search" "changes" "I", Cond.fieldLink RX8 57 "PamphletQuarrel$Search" "begin" "I", Cond.fieldLink RX8 60 "PamphletQuarrel$Search" "length" "I"]
def wsX10_mendAll_r5 : List Cond := [Cond.methodLink RX5 91 yX5_isRoomFor, Cond.instanceMethod yX5_isRoomFor, Cond.selects RX5 yX5_isRoomFor yX5_isRoomFor, Cond.code yX5_isRoomFor cX5_isRoomFor 5 (some .boolean), Cond.methodLink RX5 84 yX4_growth, Cond.instanceMethod yX4_growth, Cond.selects RX4 yX4_growth yX4_growth, Cond.code yX4_growth cX4_growth 3 (some .int), Cond.methodLink RX4 50 yX7_number, Cond.methodLink RX5 95 yX5_putRight, Cond.instanceMethod yX5_putRight, Cond.selects RX5 yX5_putRight yX5_putRight, Cond.code yX5_putRight cX5_putRight 6 none, Cond.methodLink RX5 87 yX4_replace, Cond.instanceMethod yX4_replace, Cond.selects RX4 yX4_replace yX4_replace, Cond.code yX4_replace cX4_replace 9 none, Cond.methodLink RX4 58 yX4_growth, Cond.methodLink RX4 62 yX7_move, Cond.instanceMethod yX7_move, Cond.selects RX7 yX7_move yX7_move, Cond.code yX7_move cX7_move 4 none, Cond.methodLink RX4 66 yX7_at, Cond.methodLink RX4 46 yX7_put]
def wsX10_mendAll : List Cond := .code yX10_mendAll cX10_mendAll 3 (some .int) :: ((wsX10_mendAll_r1 ++ (wsX10_mendAll_r2 ++ (wsX10_mendAll_r3 ++ (wsX10_mendAll_r4 ++ wsX10_mendAll_r5)))) ++ wsX100 ++ wsX90 ++ wsX20 ++ wsX40 ++ wsX70 ++ wsX50 ++ wsX80)
def wsX10_withdraw_r1 : List Cond := [Cond.classLink RX10 73 "java/lang/IllegalStateException", Cond.initialized "java/lang/IllegalStateException", Cond.fieldLink RX10 10 "PamphletQuarrel" "state" "LPamphletQuarrel$State;", Cond.fieldLink RX10 19 "PamphletQuarrel" "history" "LPamphletQuarrel$History;", Cond.methodLink RX10 128 yX9_at, Cond.instanceMethod yX9_at, Cond.selects RX9 yX9_at yX9_at, Cond.initialized RX9, Cond.code yX9_at cX9_at 3 (some (.object "PamphletQuarrel$Pamphlet")), Cond.fieldLink RX9 11 "PamphletQuarrel$State" "printed" "[LPamphletQuarrel$Pamphlet;", Cond.fieldLink RX9 18 "PamphletQuarrel$State" "blank" "LPamphletQuarrel$Pamphlet;", Cond.methodLink RX10 78 yX2_save, Cond.instanceMethod yX2_save, Cond.selects RX2 yX2_save yX2_save, Cond.initialized RX2, Cond.code yX2_save cX2_save 3 none, Cond.fieldLink RX2 26 "PamphletQuarrel$History" "size" "I", Cond.fieldLink RX2 22 "PamphletQuarrel$History" "oldest" "I", Cond.methodLink RX2 29 yX2_slot, Cond.instanceMethod yX2_slot, Cond.selects RX2 yX2_slot yX2_slot, Cond.code yX2_slot cX2_slot 3 (some (.object "PamphletQuarrel$State")), Cond.fieldLink RX2 11 "PamphletQuarrel$History" "saved" "[LPamphletQuarrel$State;", Cond.methodLink RX2 33 yX9_copy]
def wsX10_withdraw_r2 : List Cond := [Cond.instanceMethod yX9_copy, Cond.selects RX9 yX9_copy yX9_copy, Cond.code yX9_copy cX9_copy 3 none, Cond.fieldLink RX9 22 "PamphletQuarrel$State" "count" "I", Cond.fieldLink RX9 26 "PamphletQuarrel$State" "today" "I", Cond.methodLink RX9 29 yX9_at, Cond.methodLink RX9 33 yX4_copy, Cond.instanceMethod yX4_copy, Cond.selects RX4 yX4_copy yX4_copy, Cond.initialized RX4, Cond.code yX4_copy cX4_copy 2 none, Cond.fieldLink RX4 29 "PamphletQuarrel$Pamphlet" "author" "I", Cond.fieldLink RX4 33 "PamphletQuarrel$Pamphlet" "printedOn" "I", Cond.fieldLink RX4 36 "PamphletQuarrel$Pamphlet" "wordCount" "I", Cond.fieldLink RX4 39 "PamphletQuarrel$Pamphlet" "quotationCount" "I", Cond.fieldLink RX4 14 "PamphletQuarrel$Pamphlet" "words" "LPamphletQuarrel$Row;", Cond.fieldLink RX4 20 "PamphletQuarrel$Pamphlet" "sources" "LPamphletQuarrel$Row;", Cond.fieldLink RX4 23 "PamphletQuarrel$Pamphlet" "begins" "LPamphletQuarrel$Row;", Cond.fieldLink RX4 26 "PamphletQuarrel$Pamphlet" "lengths" "LPamphletQuarrel$Row;", Cond.methodLink RX4 42 yX7_copy, Cond.instanceMethod yX7_copy, Cond.selects RX7 yX7_copy yX7_copy, Cond.initialized RX7, Cond.code yX7_copy cX7_copy 3 none]
def wsX10_withdraw_r3 : List Cond := [Cond.fieldLink RX7 13 "PamphletQuarrel$Row" "cells" "[J", Cond.methodLink RX7 19 arraycopyName, Cond.native arraycopyName, Cond.static arraycopyName, Cond.initialized "java/lang/System"]
def wsX10_withdraw : List Cond := .code yX10_withdraw cX10_withdraw 1 (some .int) :: ((wsX10_withdraw_r1 ++ (wsX10_withdraw_r2 ++ wsX10_withdraw_r3)) ++ wsX100 ++ wsX90 ++ wsX40 ++ wsX20 ++ wsX70 ++ (vx_atS RX10 77 "java/lang/IllegalStateException" ["java/lang/RuntimeException", "java/lang/Exception"]).filter goodWord)
def wsX10_day : List Cond := .code yX10_day cX10_day 1 (some .int) :: ([.fieldLink RX10 10 "PamphletQuarrel" "state" "LPamphletQuarrel$State;"] ++ wsX100 ++ wsX90)
def wsX10_pamphlets : List Cond := .code yX10_pamphlets cX10_pamphlets 1 (some .int) :: ([.fieldLink RX10 10 "PamphletQuarrel" "state" "LPamphletQuarrel$State;"] ++ wsX100 ++ wsX90)
def wsX10_authorOf : List Cond := .code yX10_authorOf cX10_authorOf 2 (some .int) :: ([.fieldLink RX10 10 "PamphletQuarrel" "state" "LPamphletQuarrel$State;", .methodLink RX10 139 yX10_needPamphlet, .instanceMethod yX10_needPamphlet, .selects RX10 yX10_needPamphlet yX10_needPamphlet, .initialized RX10, .code yX10_needPamphlet cX10_needPamphlet 2 none, .classLink RX10 152 "java/lang/IndexOutOfBoundsException", .initialized "java/lang/IndexOutOfBoundsException", .methodLink RX10 315 yX9_has, .instanceMethod yX9_has, .selects RX9 yX9_has yX9_has, .initialized RX9, .code yX9_has cX9_has 2 (some .boolean), .fieldLink RX9 22 "PamphletQuarrel$State" "count" "I", .methodLink RX10 128 yX9_at, .instanceMethod yX9_at, .selects RX9 yX9_at yX9_at, .code yX9_at cX9_at 3 (some (.object "PamphletQuarrel$Pamphlet")), .fieldLink RX9 11 "PamphletQuarrel$State" "printed" "[LPamphletQuarrel$Pamphlet;", .fieldLink RX9 18 "PamphletQuarrel$State" "blank" "LPamphletQuarrel$Pamphlet;"] ++ wsX100 ++ wsX40 ++ wsX90 ++ (vx_atS RX10 156 "java/lang/IndexOutOfBoundsException" ["java/lang/RuntimeException", "java/lang/Exception"]).filter goodWord)
def wsX10_dayOf : List Cond := .code yX10_dayOf cX10_dayOf 2 (some .int) :: ([.fieldLink RX10 10 "PamphletQuarrel" "state" "LPamphletQuarrel$State;", .methodLink RX10 139 yX10_needPamphlet, .instanceMethod yX10_needPamphlet, .selects RX10 yX10_needPamphlet yX10_needPamphlet, .initialized RX10, .code yX10_needPamphlet cX10_needPamphlet 2 none, .classLink RX10 152 "java/lang/IndexOutOfBoundsException", .initialized "java/lang/IndexOutOfBoundsException", .methodLink RX10 315 yX9_has, .instanceMethod yX9_has, .selects RX9 yX9_has yX9_has, .initialized RX9, .code yX9_has cX9_has 2 (some .boolean), .fieldLink RX9 22 "PamphletQuarrel$State" "count" "I", .methodLink RX10 128 yX9_at, .instanceMethod yX9_at, .selects RX9 yX9_at yX9_at, .code yX9_at cX9_at 3 (some (.object "PamphletQuarrel$Pamphlet")), .fieldLink RX9 11 "PamphletQuarrel$State" "printed" "[LPamphletQuarrel$Pamphlet;", .fieldLink RX9 18 "PamphletQuarrel$State" "blank" "LPamphletQuarrel$Pamphlet;"] ++ wsX100 ++ wsX40 ++ wsX90 ++ (vx_atS RX10 156 "java/lang/IndexOutOfBoundsException" ["java/lang/RuntimeException", "java/lang/Exception"]).filter goodWord)
def wsX10_wordsOf : List Cond := .code yX10_wordsOf cX10_wordsOf 2 (some .int) :: ([.fieldLink RX10 10 "PamphletQuarrel" "state" "LPamphletQuarrel$State;", .methodLink RX10 139 yX10_needPamphlet, .instanceMethod yX10_needPamphlet, .selects RX10 yX10_needPamphlet yX10_needPamphlet, .initialized RX10, .code yX10_needPamphlet cX10_needPamphlet 2 none, .classLink RX10 152 "java/lang/IndexOutOfBoundsException", .initialized "java/lang/IndexOutOfBoundsException", .methodLink RX10 315 yX9_has, .instanceMethod yX9_has, .selects RX9 yX9_has yX9_has, .initialized RX9, .code yX9_has cX9_has 2 (some .boolean), .fieldLink RX9 22 "PamphletQuarrel$State" "count" "I", .methodLink RX10 128 yX9_at, .instanceMethod yX9_at, .selects RX9 yX9_at yX9_at, .code yX9_at cX9_at 3 (some (.object "PamphletQuarrel$Pamphlet")), .fieldLink RX9 11 "PamphletQuarrel$State" "printed" "[LPamphletQuarrel$Pamphlet;", .fieldLink RX9 18 "PamphletQuarrel$State" "blank" "LPamphletQuarrel$Pamphlet;"] ++ wsX100 ++ wsX40 ++ wsX90 ++ (vx_atS RX10 156 "java/lang/IndexOutOfBoundsException" ["java/lang/RuntimeException", "java/lang/Exception"]).filter goodWord)
def wsX10_pagesOf_r1 : List Cond := [Cond.fieldLink RX10 10 "PamphletQuarrel" "state" "LPamphletQuarrel$State;", Cond.methodLink RX10 139 yX10_needPamphlet, Cond.instanceMethod yX10_needPamphlet, Cond.selects RX10 yX10_needPamphlet yX10_needPamphlet, Cond.initialized RX10, Cond.code yX10_needPamphlet cX10_needPamphlet 2 none, Cond.classLink RX10 152 "java/lang/IndexOutOfBoundsException", Cond.initialized "java/lang/IndexOutOfBoundsException", Cond.methodLink RX10 315 yX9_has, Cond.instanceMethod yX9_has, Cond.selects RX9 yX9_has yX9_has, Cond.initialized RX9, Cond.code yX9_has cX9_has 2 (some .boolean), Cond.fieldLink RX9 22 "PamphletQuarrel$State" "count" "I", Cond.methodLink RX10 128 yX9_at, Cond.instanceMethod yX9_at, Cond.selects RX9 yX9_at yX9_at, Cond.code yX9_at cX9_at 3 (some (.object "PamphletQuarrel$Pamphlet")), Cond.fieldLink RX9 11 "PamphletQuarrel$State" "printed" "[LPamphletQuarrel$Pamphlet;", Cond.fieldLink RX9 18 "PamphletQuarrel$State" "blank" "LPamphletQuarrel$Pamphlet;", Cond.methodLink RX10 149 yX4_pageCount, Cond.instanceMethod yX4_pageCount, Cond.selects RX4 yX4_pageCount yX4_pageCount, Cond.initialized RX4]
def wsX10_pagesOf_r2 : List Cond := [Cond.code yX4_pageCount cX4_pageCount 1 (some .int), Cond.fieldLink RX4 36 "PamphletQuarrel$Pamphlet" "wordCount" "I"]
def wsX10_pagesOf : List Cond := .code yX10_pagesOf cX10_pagesOf 2 (some .int) :: ((wsX10_pagesOf_r1 ++ wsX10_pagesOf_r2) ++ wsX100 ++ wsX90 ++ wsX40 ++ (vx_atS RX10 156 "java/lang/IndexOutOfBoundsException" ["java/lang/RuntimeException", "java/lang/Exception"]).filter goodWord)
def wsX10_wordsOn_r1 : List Cond := [Cond.classLink RX10 152 "java/lang/IndexOutOfBoundsException", Cond.initialized "java/lang/IndexOutOfBoundsException", Cond.fieldLink RX10 10 "PamphletQuarrel" "state" "LPamphletQuarrel$State;", Cond.methodLink RX10 157 Lib.Math.min.name, Cond.static Lib.Math.min.name, Cond.initialized "java/lang/Math", Cond.code Lib.Math.min.name Lib.Math.min.code 2 (some .int), Cond.methodLink RX10 139 yX10_needPamphlet, Cond.instanceMethod yX10_needPamphlet, Cond.selects RX10 yX10_needPamphlet yX10_needPamphlet, Cond.initialized RX10, Cond.code yX10_needPamphlet cX10_needPamphlet 2 none, Cond.methodLink RX10 315 yX9_has, Cond.instanceMethod yX9_has, Cond.selects RX9 yX9_has yX9_has, Cond.initialized RX9, Cond.code yX9_has cX9_has 2 (some .boolean), Cond.fieldLink RX9 22 "PamphletQuarrel$State" "count" "I", Cond.methodLink RX10 128 yX9_at, Cond.instanceMethod yX9_at, Cond.selects RX9 yX9_at yX9_at, Cond.code yX9_at cX9_at 3 (some (.object "PamphletQuarrel$Pamphlet")), Cond.fieldLink RX9 11 "PamphletQuarrel$State" "printed" "[LPamphletQuarrel$Pamphlet;", Cond.fieldLink RX9 18 "PamphletQuarrel$State" "blank" "LPamphletQuarrel$Pamphlet;"]
def wsX10_wordsOn_r2 : List Cond := [Cond.methodLink RX10 149 yX4_pageCount, Cond.instanceMethod yX4_pageCount, Cond.selects RX4 yX4_pageCount yX4_pageCount, Cond.initialized RX4, Cond.code yX4_pageCount cX4_pageCount 1 (some .int), Cond.fieldLink RX4 36 "PamphletQuarrel$Pamphlet" "wordCount" "I"]
def wsX10_wordsOn : List Cond := .code yX10_wordsOn cX10_wordsOn 4 (some .int) :: ((wsX10_wordsOn_r1 ++ wsX10_wordsOn_r2) ++ wsX100 ++ wsX40 ++ wsX90 ++ (vx_atS RX10 156 "java/lang/IndexOutOfBoundsException" ["java/lang/RuntimeException", "java/lang/Exception"]).filter goodWord)
def wsX10_needWord : List Cond := .code yX10_needWord cX10_needWord 3 none :: ([.classLink RX10 152 "java/lang/IndexOutOfBoundsException", .initialized "java/lang/IndexOutOfBoundsException", .fieldLink RX10 10 "PamphletQuarrel" "state" "LPamphletQuarrel$State;", .methodLink RX10 139 yX10_needPamphlet, .instanceMethod yX10_needPamphlet, .selects RX10 yX10_needPamphlet yX10_needPamphlet, .initialized RX10, .code yX10_needPamphlet cX10_needPamphlet 2 none, .methodLink RX10 315 yX9_has, .instanceMethod yX9_has, .selects RX9 yX9_has yX9_has, .initialized RX9, .code yX9_has cX9_has 2 (some .boolean), .fieldLink RX9 22 "PamphletQuarrel$State" "count" "I", .methodLink RX10 128 yX9_at, .instanceMethod yX9_at, .selects RX9 yX9_at yX9_at, .code yX9_at cX9_at 3 (some (.object "PamphletQuarrel$Pamphlet")), .fieldLink RX9 11 "PamphletQuarrel$State" "printed" "[LPamphletQuarrel$Pamphlet;", .fieldLink RX9 18 "PamphletQuarrel$State" "blank" "LPamphletQuarrel$Pamphlet;"] ++ wsX100 ++ wsX40 ++ wsX90 ++ (vx_atS RX10 156 "java/lang/IndexOutOfBoundsException" ["java/lang/RuntimeException", "java/lang/Exception"]).filter goodWord)
def wsX10_needIndex : List Cond := .code yX10_needIndex cX10_needIndex 1 none :: ([.classLink RX10 152 "java/lang/IndexOutOfBoundsException", .initialized "java/lang/IndexOutOfBoundsException"] ++ (vx_atS RX10 156 "java/lang/IndexOutOfBoundsException" ["java/lang/RuntimeException", "java/lang/Exception"]).filter goodWord)
def wsX10_letterIn : List Cond := .code yX10_letterIn cX10_letterIn 4 (some .int) :: ([])
def wsX10_letterOf_r1 : List Cond := [Cond.fieldLink RX10 10 "PamphletQuarrel" "state" "LPamphletQuarrel$State;", Cond.methodLink RX10 163 yX10_needWord, Cond.instanceMethod yX10_needWord, Cond.selects RX10 yX10_needWord yX10_needWord, Cond.initialized RX10, Cond.code yX10_needWord cX10_needWord 3 none, Cond.classLink RX10 152 "java/lang/IndexOutOfBoundsException", Cond.initialized "java/lang/IndexOutOfBoundsException", Cond.methodLink RX10 139 yX10_needPamphlet, Cond.instanceMethod yX10_needPamphlet, Cond.selects RX10 yX10_needPamphlet yX10_needPamphlet, Cond.code yX10_needPamphlet cX10_needPamphlet 2 none, Cond.methodLink RX10 315 yX9_has, Cond.instanceMethod yX9_has, Cond.selects RX9 yX9_has yX9_has, Cond.initialized RX9, Cond.code yX9_has cX9_has 2 (some .boolean), Cond.fieldLink RX9 22 "PamphletQuarrel$State" "count" "I", Cond.methodLink RX10 128 yX9_at, Cond.instanceMethod yX9_at, Cond.selects RX9 yX9_at yX9_at, Cond.code yX9_at cX9_at 3 (some (.object "PamphletQuarrel$Pamphlet")), Cond.fieldLink RX9 11 "PamphletQuarrel$State" "printed" "[LPamphletQuarrel$Pamphlet;", Cond.fieldLink RX9 18 "PamphletQuarrel$State" "blank" "LPamphletQuarrel$Pamphlet;"]
def wsX10_letterOf_r2 : List Cond := [Cond.methodLink RX10 166 yX10_needIndex, Cond.static yX10_needIndex, Cond.code yX10_needIndex cX10_needIndex 1 none, Cond.methodLink RX10 173 yX7_at, Cond.instanceMethod yX7_at, Cond.selects RX7 yX7_at yX7_at, Cond.initialized RX7, Cond.code yX7_at cX7_at 2 (some .long), Cond.fieldLink RX7 13 "PamphletQuarrel$Row" "cells" "[J", Cond.methodLink RX10 178 yX10_letterIn, Cond.static yX10_letterIn, Cond.code yX10_letterIn cX10_letterIn 4 (some .int)]
def wsX10_letterOf : List Cond := .code yX10_letterOf cX10_letterOf 4 (some .int) :: ((wsX10_letterOf_r1 ++ wsX10_letterOf_r2) ++ wsX100 ++ wsX40 ++ wsX90 ++ wsX70 ++ (vx_atS RX10 156 "java/lang/IndexOutOfBoundsException" ["java/lang/RuntimeException", "java/lang/Exception"]).filter goodWord)
def wsX10_isSameWord_r1 : List Cond := [Cond.fieldLink RX10 10 "PamphletQuarrel" "state" "LPamphletQuarrel$State;", Cond.methodLink RX10 163 yX10_needWord, Cond.instanceMethod yX10_needWord, Cond.selects RX10 yX10_needWord yX10_needWord, Cond.initialized RX10, Cond.code yX10_needWord cX10_needWord 3 none, Cond.classLink RX10 152 "java/lang/IndexOutOfBoundsException", Cond.initialized "java/lang/IndexOutOfBoundsException", Cond.methodLink RX10 139 yX10_needPamphlet, Cond.instanceMethod yX10_needPamphlet, Cond.selects RX10 yX10_needPamphlet yX10_needPamphlet, Cond.code yX10_needPamphlet cX10_needPamphlet 2 none, Cond.methodLink RX10 315 yX9_has, Cond.instanceMethod yX9_has, Cond.selects RX9 yX9_has yX9_has, Cond.initialized RX9, Cond.code yX9_has cX9_has 2 (some .boolean), Cond.fieldLink RX9 22 "PamphletQuarrel$State" "count" "I", Cond.methodLink RX10 128 yX9_at, Cond.instanceMethod yX9_at, Cond.selects RX9 yX9_at yX9_at, Cond.code yX9_at cX9_at 3 (some (.object "PamphletQuarrel$Pamphlet")), Cond.fieldLink RX9 11 "PamphletQuarrel$State" "printed" "[LPamphletQuarrel$Pamphlet;", Cond.fieldLink RX9 18 "PamphletQuarrel$State" "blank" "LPamphletQuarrel$Pamphlet;"]
def wsX10_isSameWord_r2 : List Cond := [Cond.methodLink RX10 173 yX7_at, Cond.instanceMethod yX7_at, Cond.selects RX7 yX7_at yX7_at, Cond.initialized RX7, Cond.code yX7_at cX7_at 2 (some .long), Cond.fieldLink RX7 13 "PamphletQuarrel$Row" "cells" "[J"]
def wsX10_isSameWord : List Cond := .code yX10_isSameWord cX10_isSameWord 5 (some .boolean) :: ((wsX10_isSameWord_r1 ++ wsX10_isSameWord_r2) ++ wsX100 ++ wsX40 ++ wsX90 ++ wsX70 ++ (vx_atS RX10 156 "java/lang/IndexOutOfBoundsException" ["java/lang/RuntimeException", "java/lang/Exception"]).filter goodWord)
def wsX10_quotationsOf : List Cond := .code yX10_quotationsOf cX10_quotationsOf 2 (some .int) :: ([.fieldLink RX10 10 "PamphletQuarrel" "state" "LPamphletQuarrel$State;", .methodLink RX10 139 yX10_needPamphlet, .instanceMethod yX10_needPamphlet, .selects RX10 yX10_needPamphlet yX10_needPamphlet, .initialized RX10, .code yX10_needPamphlet cX10_needPamphlet 2 none, .classLink RX10 152 "java/lang/IndexOutOfBoundsException", .initialized "java/lang/IndexOutOfBoundsException", .methodLink RX10 315 yX9_has, .instanceMethod yX9_has, .selects RX9 yX9_has yX9_has, .initialized RX9, .code yX9_has cX9_has 2 (some .boolean), .fieldLink RX9 22 "PamphletQuarrel$State" "count" "I", .methodLink RX10 128 yX9_at, .instanceMethod yX9_at, .selects RX9 yX9_at yX9_at, .code yX9_at cX9_at 3 (some (.object "PamphletQuarrel$Pamphlet")), .fieldLink RX9 11 "PamphletQuarrel$State" "printed" "[LPamphletQuarrel$Pamphlet;", .fieldLink RX9 18 "PamphletQuarrel$State" "blank" "LPamphletQuarrel$Pamphlet;"] ++ wsX100 ++ wsX40 ++ wsX90 ++ (vx_atS RX10 156 "java/lang/IndexOutOfBoundsException" ["java/lang/RuntimeException", "java/lang/Exception"]).filter goodWord)
def wsX10_sourceOf_r1 : List Cond := [Cond.fieldLink RX10 10 "PamphletQuarrel" "state" "LPamphletQuarrel$State;", Cond.methodLink RX10 102 yX10_needQuotation, Cond.instanceMethod yX10_needQuotation, Cond.selects RX10 yX10_needQuotation yX10_needQuotation, Cond.initialized RX10, Cond.code yX10_needQuotation cX10_needQuotation 3 none, Cond.classLink RX10 152 "java/lang/IndexOutOfBoundsException", Cond.initialized "java/lang/IndexOutOfBoundsException", Cond.methodLink RX10 139 yX10_needPamphlet, Cond.instanceMethod yX10_needPamphlet, Cond.selects RX10 yX10_needPamphlet yX10_needPamphlet, Cond.code yX10_needPamphlet cX10_needPamphlet 2 none, Cond.methodLink RX10 315 yX9_has, Cond.instanceMethod yX9_has, Cond.selects RX9 yX9_has yX9_has, Cond.initialized RX9, Cond.code yX9_has cX9_has 2 (some .boolean), Cond.fieldLink RX9 22 "PamphletQuarrel$State" "count" "I", Cond.methodLink RX10 128 yX9_at, Cond.instanceMethod yX9_at, Cond.selects RX9 yX9_at yX9_at, Cond.code yX9_at cX9_at 3 (some (.object "PamphletQuarrel$Pamphlet")), Cond.fieldLink RX9 11 "PamphletQuarrel$State" "printed" "[LPamphletQuarrel$Pamphlet;", Cond.fieldLink RX9 18 "PamphletQuarrel$State" "blank" "LPamphletQuarrel$Pamphlet;"]
def wsX10_sourceOf_r2 : List Cond := [Cond.methodLink RX10 203 yX7_number, Cond.instanceMethod yX7_number, Cond.selects RX7 yX7_number yX7_number, Cond.initialized RX7, Cond.code yX7_number cX7_number 2 (some .int), Cond.fieldLink RX7 13 "PamphletQuarrel$Row" "cells" "[J"]
def wsX10_sourceOf : List Cond := .code yX10_sourceOf cX10_sourceOf 3 (some .int) :: ((wsX10_sourceOf_r1 ++ wsX10_sourceOf_r2) ++ wsX100 ++ wsX40 ++ wsX90 ++ wsX70 ++ (vx_atS RX10 156 "java/lang/IndexOutOfBoundsException" ["java/lang/RuntimeException", "java/lang/Exception"]).filter goodWord)
def wsX10_beginOf_r1 : List Cond := [Cond.fieldLink RX10 10 "PamphletQuarrel" "state" "LPamphletQuarrel$State;", Cond.methodLink RX10 102 yX10_needQuotation, Cond.instanceMethod yX10_needQuotation, Cond.selects RX10 yX10_needQuotation yX10_needQuotation, Cond.initialized RX10, Cond.code yX10_needQuotation cX10_needQuotation 3 none, Cond.classLink RX10 152 "java/lang/IndexOutOfBoundsException", Cond.initialized "java/lang/IndexOutOfBoundsException", Cond.methodLink RX10 139 yX10_needPamphlet, Cond.instanceMethod yX10_needPamphlet, Cond.selects RX10 yX10_needPamphlet yX10_needPamphlet, Cond.code yX10_needPamphlet cX10_needPamphlet 2 none, Cond.methodLink RX10 315 yX9_has, Cond.instanceMethod yX9_has, Cond.selects RX9 yX9_has yX9_has, Cond.initialized RX9, Cond.code yX9_has cX9_has 2 (some .boolean), Cond.fieldLink RX9 22 "PamphletQuarrel$State" "count" "I", Cond.methodLink RX10 128 yX9_at, Cond.instanceMethod yX9_at, Cond.selects RX9 yX9_at yX9_at, Cond.code yX9_at cX9_at 3 (some (.object "PamphletQuarrel$Pamphlet")), Cond.fieldLink RX9 11 "PamphletQuarrel$State" "printed" "[LPamphletQuarrel$Pamphlet;", Cond.fieldLink RX9 18 "PamphletQuarrel$State" "blank" "LPamphletQuarrel$Pamphlet;"]
def wsX10_beginOf_r2 : List Cond := [Cond.methodLink RX10 203 yX7_number, Cond.instanceMethod yX7_number, Cond.selects RX7 yX7_number yX7_number, Cond.initialized RX7, Cond.code yX7_number cX7_number 2 (some .int), Cond.fieldLink RX7 13 "PamphletQuarrel$Row" "cells" "[J"]
def wsX10_beginOf : List Cond := .code yX10_beginOf cX10_beginOf 3 (some .int) :: ((wsX10_beginOf_r1 ++ wsX10_beginOf_r2) ++ wsX100 ++ wsX40 ++ wsX90 ++ wsX70 ++ (vx_atS RX10 156 "java/lang/IndexOutOfBoundsException" ["java/lang/RuntimeException", "java/lang/Exception"]).filter goodWord)
def wsX10_lengthOf_r1 : List Cond := [Cond.fieldLink RX10 10 "PamphletQuarrel" "state" "LPamphletQuarrel$State;", Cond.methodLink RX10 102 yX10_needQuotation, Cond.instanceMethod yX10_needQuotation, Cond.selects RX10 yX10_needQuotation yX10_needQuotation, Cond.initialized RX10, Cond.code yX10_needQuotation cX10_needQuotation 3 none, Cond.classLink RX10 152 "java/lang/IndexOutOfBoundsException", Cond.initialized "java/lang/IndexOutOfBoundsException", Cond.methodLink RX10 139 yX10_needPamphlet, Cond.instanceMethod yX10_needPamphlet, Cond.selects RX10 yX10_needPamphlet yX10_needPamphlet, Cond.code yX10_needPamphlet cX10_needPamphlet 2 none, Cond.methodLink RX10 315 yX9_has, Cond.instanceMethod yX9_has, Cond.selects RX9 yX9_has yX9_has, Cond.initialized RX9, Cond.code yX9_has cX9_has 2 (some .boolean), Cond.fieldLink RX9 22 "PamphletQuarrel$State" "count" "I", Cond.methodLink RX10 128 yX9_at, Cond.instanceMethod yX9_at, Cond.selects RX9 yX9_at yX9_at, Cond.code yX9_at cX9_at 3 (some (.object "PamphletQuarrel$Pamphlet")), Cond.fieldLink RX9 11 "PamphletQuarrel$State" "printed" "[LPamphletQuarrel$Pamphlet;", Cond.fieldLink RX9 18 "PamphletQuarrel$State" "blank" "LPamphletQuarrel$Pamphlet;"]
def wsX10_lengthOf_r2 : List Cond := [Cond.methodLink RX10 203 yX7_number, Cond.instanceMethod yX7_number, Cond.selects RX7 yX7_number yX7_number, Cond.initialized RX7, Cond.code yX7_number cX7_number 2 (some .int), Cond.fieldLink RX7 13 "PamphletQuarrel$Row" "cells" "[J"]
def wsX10_lengthOf : List Cond := .code yX10_lengthOf cX10_lengthOf 3 (some .int) :: ((wsX10_lengthOf_r1 ++ wsX10_lengthOf_r2) ++ wsX100 ++ wsX40 ++ wsX90 ++ wsX70 ++ (vx_atS RX10 156 "java/lang/IndexOutOfBoundsException" ["java/lang/RuntimeException", "java/lang/Exception"]).filter goodWord)
def wsX10_changesByTable_r1 : List Cond := [Cond.fieldLink RX10 40 "PamphletQuarrel" "quotations" "LPamphletQuarrel$Quotations;", Cond.fieldLink RX10 10 "PamphletQuarrel" "state" "LPamphletQuarrel$State;", Cond.methodLink RX10 102 yX10_needQuotation, Cond.instanceMethod yX10_needQuotation, Cond.selects RX10 yX10_needQuotation yX10_needQuotation, Cond.initialized RX10, Cond.code yX10_needQuotation cX10_needQuotation 3 none, Cond.classLink RX10 152 "java/lang/IndexOutOfBoundsException", Cond.initialized "java/lang/IndexOutOfBoundsException", Cond.methodLink RX10 139 yX10_needPamphlet, Cond.instanceMethod yX10_needPamphlet, Cond.selects RX10 yX10_needPamphlet yX10_needPamphlet, Cond.code yX10_needPamphlet cX10_needPamphlet 2 none, Cond.methodLink RX10 315 yX9_has, Cond.instanceMethod yX9_has, Cond.selects RX9 yX9_has yX9_has, Cond.initialized RX9, Cond.code yX9_has cX9_has 2 (some .boolean), Cond.fieldLink RX9 22 "PamphletQuarrel$State" "count" "I", Cond.methodLink RX10 128 yX9_at, Cond.instanceMethod yX9_at, Cond.selects RX9 yX9_at yX9_at, Cond.code yX9_at cX9_at 3 (some (.object "PamphletQuarrel$Pamphlet")), Cond.fieldLink RX9 11 "PamphletQuarrel$State" "printed" "[LPamphletQuarrel$Pamphlet;"]
def wsX10_changesByTable_r2 : List Cond := [Cond.fieldLink RX9 18 "PamphletQuarrel$State" "blank" "LPamphletQuarrel$Pamphlet;", Cond.methodLink RX10 106 yX5_find, Cond.instanceMethod yX5_find, Cond.selects RX5 yX5_find yX5_find, Cond.initialized RX5, Cond.code yX5_find cX5_find 5 (some .int), Cond.fieldLink RX5 12 "PamphletQuarrel$Quotations" "search" "LPamphletQuarrel$Search;", Cond.methodLink RX5 18 yX9_at, Cond.methodLink RX5 30 yX7_number, Cond.instanceMethod yX7_number, Cond.selects RX7 yX7_number yX7_number, Cond.initialized RX7, Cond.code yX7_number cX7_number 2 (some .int), Cond.fieldLink RX7 13 "PamphletQuarrel$Row" "cells" "[J", Cond.methodLink RX5 36 yX8_byTable, Cond.instanceMethod yX8_byTable, Cond.selects RX8 yX8_byTable yX8_byTable, Cond.initialized RX8, Cond.code yX8_byTable cX8_byTable 7 none, Cond.fieldLink RX8 14 "PamphletQuarrel$Search" "cells" "LPamphletQuarrel$Row;", Cond.methodLink RX8 25 yX7_number, Cond.methodLink RX8 36 yX7_put, Cond.instanceMethod yX7_put, Cond.selects RX7 yX7_put yX7_put]
def wsX10_changesByTable_r3 : List Cond := [Cond.code yX7_put cX7_put 4 none, Cond.methodLink RX8 43 yX7_at, Cond.instanceMethod yX7_at, Cond.selects RX7 yX7_at yX7_at, Cond.code yX7_at cX7_at 2 (some .long), Cond.methodLink RX8 47 yX8_takeWord, Cond.instanceMethod yX8_takeWord, Cond.selects RX8 yX8_takeWord yX8_takeWord, Cond.code yX8_takeWord cX8_takeWord 11 none, Cond.methodLink RX8 67 Lib.Math.min.name, Cond.static Lib.Math.min.name, Cond.initialized "java/lang/Math", Cond.code Lib.Math.min.name Lib.Math.min.code 2 (some .int), Cond.methodLink RX8 51 yX8_chooseEnd, Cond.instanceMethod yX8_chooseEnd, Cond.selects RX8 yX8_chooseEnd yX8_chooseEnd, Cond.code yX8_chooseEnd cX8_chooseEnd 4 none, Cond.fieldLink RX8 54 "PamphletQuarrel$Search" "changes" "I", Cond.fieldLink RX8 57 "PamphletQuarrel$Search" "begin" "I", Cond.fieldLink RX8 60 "PamphletQuarrel$Search" "length" "I"]
def wsX10_changesByTable : List Cond := .code yX10_changesByTable cX10_changesByTable 3 (some .int) :: ((wsX10_changesByTable_r1 ++ (wsX10_changesByTable_r2 ++ wsX10_changesByTable_r3)) ++ wsX100 ++ wsX40 ++ wsX90 ++ wsX50 ++ wsX80 ++ wsX70 ++ (vx_atS RX10 156 "java/lang/IndexOutOfBoundsException" ["java/lang/RuntimeException", "java/lang/Exception"]).filter goodWord)
def wsX10_changesByPassages_r1 : List Cond := [Cond.fieldLink RX10 40 "PamphletQuarrel" "quotations" "LPamphletQuarrel$Quotations;", Cond.fieldLink RX10 10 "PamphletQuarrel" "state" "LPamphletQuarrel$State;", Cond.methodLink RX10 102 yX10_needQuotation, Cond.instanceMethod yX10_needQuotation, Cond.selects RX10 yX10_needQuotation yX10_needQuotation, Cond.initialized RX10, Cond.code yX10_needQuotation cX10_needQuotation 3 none, Cond.classLink RX10 152 "java/lang/IndexOutOfBoundsException", Cond.initialized "java/lang/IndexOutOfBoundsException", Cond.methodLink RX10 139 yX10_needPamphlet, Cond.instanceMethod yX10_needPamphlet, Cond.selects RX10 yX10_needPamphlet yX10_needPamphlet, Cond.code yX10_needPamphlet cX10_needPamphlet 2 none, Cond.methodLink RX10 315 yX9_has, Cond.instanceMethod yX9_has, Cond.selects RX9 yX9_has yX9_has, Cond.initialized RX9, Cond.code yX9_has cX9_has 2 (some .boolean), Cond.fieldLink RX9 22 "PamphletQuarrel$State" "count" "I", Cond.methodLink RX10 128 yX9_at, Cond.instanceMethod yX9_at, Cond.selects RX9 yX9_at yX9_at, Cond.code yX9_at cX9_at 3 (some (.object "PamphletQuarrel$Pamphlet")), Cond.fieldLink RX9 11 "PamphletQuarrel$State" "printed" "[LPamphletQuarrel$Pamphlet;"]
def wsX10_changesByPassages_r2 : List Cond := [Cond.fieldLink RX9 18 "PamphletQuarrel$State" "blank" "LPamphletQuarrel$Pamphlet;", Cond.methodLink RX10 213 yX5_findByPassages, Cond.instanceMethod yX5_findByPassages, Cond.selects RX5 yX5_findByPassages yX5_findByPassages, Cond.initialized RX5, Cond.code yX5_findByPassages cX5_findByPassages 6 (some .int), Cond.fieldLink RX5 12 "PamphletQuarrel$Quotations" "search" "LPamphletQuarrel$Search;", Cond.methodLink RX5 18 yX9_at, Cond.methodLink RX5 30 yX7_number, Cond.instanceMethod yX7_number, Cond.selects RX7 yX7_number yX7_number, Cond.initialized RX7, Cond.code yX7_number cX7_number 2 (some .int), Cond.fieldLink RX7 13 "PamphletQuarrel$Row" "cells" "[J", Cond.methodLink RX5 44 yX8_byPassages, Cond.instanceMethod yX8_byPassages, Cond.selects RX8 yX8_byPassages yX8_byPassages, Cond.initialized RX8, Cond.code yX8_byPassages cX8_byPassages 7 (some .int), Cond.methodLink RX8 67 Lib.Math.min.name, Cond.static Lib.Math.min.name, Cond.initialized "java/lang/Math", Cond.code Lib.Math.min.name Lib.Math.min.code 2 (some .int), Cond.methodLink RX8 25 yX7_number]
def wsX10_changesByPassages_r3 : List Cond := [Cond.methodLink RX8 63 yX8_leastFrom, Cond.instanceMethod yX8_leastFrom, Cond.selects RX8 yX8_leastFrom yX8_leastFrom, Cond.code yX8_leastFrom cX8_leastFrom 9 (some .int), Cond.fieldLink RX8 14 "PamphletQuarrel$Search" "cells" "LPamphletQuarrel$Row;", Cond.methodLink RX8 36 yX7_put, Cond.instanceMethod yX7_put, Cond.selects RX7 yX7_put yX7_put, Cond.code yX7_put cX7_put 4 none, Cond.methodLink RX8 43 yX7_at, Cond.instanceMethod yX7_at, Cond.selects RX7 yX7_at yX7_at, Cond.code yX7_at cX7_at 2 (some .long), Cond.methodLink RX8 47 yX8_takeWord, Cond.instanceMethod yX8_takeWord, Cond.selects RX8 yX8_takeWord yX8_takeWord, Cond.code yX8_takeWord cX8_takeWord 11 none]
def wsX10_changesByPassages : List Cond := .code yX10_changesByPassages cX10_changesByPassages 3 (some .int) :: ((wsX10_changesByPassages_r1 ++ (wsX10_changesByPassages_r2 ++ wsX10_changesByPassages_r3)) ++ wsX100 ++ wsX40 ++ wsX90 ++ wsX50 ++ wsX70 ++ wsX80 ++ (vx_atS RX10 156 "java/lang/IndexOutOfBoundsException" ["java/lang/RuntimeException", "java/lang/Exception"]).filter goodWord)
def wsX10_passageOf_r1 : List Cond := [Cond.fieldLink RX10 40 "PamphletQuarrel" "quotations" "LPamphletQuarrel$Quotations;", Cond.fieldLink RX10 10 "PamphletQuarrel" "state" "LPamphletQuarrel$State;", Cond.methodLink RX10 102 yX10_needQuotation, Cond.instanceMethod yX10_needQuotation, Cond.selects RX10 yX10_needQuotation yX10_needQuotation, Cond.initialized RX10, Cond.code yX10_needQuotation cX10_needQuotation 3 none, Cond.classLink RX10 152 "java/lang/IndexOutOfBoundsException", Cond.initialized "java/lang/IndexOutOfBoundsException", Cond.methodLink RX10 139 yX10_needPamphlet, Cond.instanceMethod yX10_needPamphlet, Cond.selects RX10 yX10_needPamphlet yX10_needPamphlet, Cond.code yX10_needPamphlet cX10_needPamphlet 2 none, Cond.methodLink RX10 315 yX9_has, Cond.instanceMethod yX9_has, Cond.selects RX9 yX9_has yX9_has, Cond.initialized RX9, Cond.code yX9_has cX9_has 2 (some .boolean), Cond.fieldLink RX9 22 "PamphletQuarrel$State" "count" "I", Cond.methodLink RX10 128 yX9_at, Cond.instanceMethod yX9_at, Cond.selects RX9 yX9_at yX9_at, Cond.code yX9_at cX9_at 3 (some (.object "PamphletQuarrel$Pamphlet")), Cond.fieldLink RX9 11 "PamphletQuarrel$State" "printed" "[LPamphletQuarrel$Pamphlet;"]
def wsX10_passageOf_r2 : List Cond := [Cond.fieldLink RX9 18 "PamphletQuarrel$State" "blank" "LPamphletQuarrel$Pamphlet;", Cond.methodLink RX10 106 yX5_find, Cond.instanceMethod yX5_find, Cond.selects RX5 yX5_find yX5_find, Cond.initialized RX5, Cond.code yX5_find cX5_find 5 (some .int), Cond.fieldLink RX5 12 "PamphletQuarrel$Quotations" "search" "LPamphletQuarrel$Search;", Cond.methodLink RX5 18 yX9_at, Cond.methodLink RX5 30 yX7_number, Cond.instanceMethod yX7_number, Cond.selects RX7 yX7_number yX7_number, Cond.initialized RX7, Cond.code yX7_number cX7_number 2 (some .int), Cond.fieldLink RX7 13 "PamphletQuarrel$Row" "cells" "[J", Cond.methodLink RX5 36 yX8_byTable, Cond.instanceMethod yX8_byTable, Cond.selects RX8 yX8_byTable yX8_byTable, Cond.initialized RX8, Cond.code yX8_byTable cX8_byTable 7 none, Cond.fieldLink RX8 14 "PamphletQuarrel$Search" "cells" "LPamphletQuarrel$Row;", Cond.methodLink RX8 25 yX7_number, Cond.methodLink RX8 36 yX7_put, Cond.instanceMethod yX7_put, Cond.selects RX7 yX7_put yX7_put]
def wsX10_passageOf_r3 : List Cond := [Cond.code yX7_put cX7_put 4 none, Cond.methodLink RX8 43 yX7_at, Cond.instanceMethod yX7_at, Cond.selects RX7 yX7_at yX7_at, Cond.code yX7_at cX7_at 2 (some .long), Cond.methodLink RX8 47 yX8_takeWord, Cond.instanceMethod yX8_takeWord, Cond.selects RX8 yX8_takeWord yX8_takeWord, Cond.code yX8_takeWord cX8_takeWord 11 none, Cond.methodLink RX8 67 Lib.Math.min.name, Cond.static Lib.Math.min.name, Cond.initialized "java/lang/Math", Cond.code Lib.Math.min.name Lib.Math.min.code 2 (some .int), Cond.methodLink RX8 51 yX8_chooseEnd, Cond.instanceMethod yX8_chooseEnd, Cond.selects RX8 yX8_chooseEnd yX8_chooseEnd, Cond.code yX8_chooseEnd cX8_chooseEnd 4 none, Cond.fieldLink RX8 54 "PamphletQuarrel$Search" "changes" "I", Cond.fieldLink RX8 57 "PamphletQuarrel$Search" "begin" "I", Cond.fieldLink RX8 60 "PamphletQuarrel$Search" "length" "I"]
def wsX10_passageOf : List Cond := .code yX10_passageOf cX10_passageOf 3 (some .int) :: ((wsX10_passageOf_r1 ++ (wsX10_passageOf_r2 ++ wsX10_passageOf_r3)) ++ wsX100 ++ wsX50 ++ wsX80 ++ wsX40 ++ wsX90 ++ wsX70 ++ (vx_atS RX10 156 "java/lang/IndexOutOfBoundsException" ["java/lang/RuntimeException", "java/lang/Exception"]).filter goodWord)
def wsX10_passageLength_r1 : List Cond := [Cond.fieldLink RX10 40 "PamphletQuarrel" "quotations" "LPamphletQuarrel$Quotations;", Cond.fieldLink RX10 10 "PamphletQuarrel" "state" "LPamphletQuarrel$State;", Cond.methodLink RX10 102 yX10_needQuotation, Cond.instanceMethod yX10_needQuotation, Cond.selects RX10 yX10_needQuotation yX10_needQuotation, Cond.initialized RX10, Cond.code yX10_needQuotation cX10_needQuotation 3 none, Cond.classLink RX10 152 "java/lang/IndexOutOfBoundsException", Cond.initialized "java/lang/IndexOutOfBoundsException", Cond.methodLink RX10 139 yX10_needPamphlet, Cond.instanceMethod yX10_needPamphlet, Cond.selects RX10 yX10_needPamphlet yX10_needPamphlet, Cond.code yX10_needPamphlet cX10_needPamphlet 2 none, Cond.methodLink RX10 315 yX9_has, Cond.instanceMethod yX9_has, Cond.selects RX9 yX9_has yX9_has, Cond.initialized RX9, Cond.code yX9_has cX9_has 2 (some .boolean), Cond.fieldLink RX9 22 "PamphletQuarrel$State" "count" "I", Cond.methodLink RX10 128 yX9_at, Cond.instanceMethod yX9_at, Cond.selects RX9 yX9_at yX9_at, Cond.code yX9_at cX9_at 3 (some (.object "PamphletQuarrel$Pamphlet")), Cond.fieldLink RX9 11 "PamphletQuarrel$State" "printed" "[LPamphletQuarrel$Pamphlet;"]
def wsX10_passageLength_r2 : List Cond := [Cond.fieldLink RX9 18 "PamphletQuarrel$State" "blank" "LPamphletQuarrel$Pamphlet;", Cond.methodLink RX10 106 yX5_find, Cond.instanceMethod yX5_find, Cond.selects RX5 yX5_find yX5_find, Cond.initialized RX5, Cond.code yX5_find cX5_find 5 (some .int), Cond.fieldLink RX5 12 "PamphletQuarrel$Quotations" "search" "LPamphletQuarrel$Search;", Cond.methodLink RX5 18 yX9_at, Cond.methodLink RX5 30 yX7_number, Cond.instanceMethod yX7_number, Cond.selects RX7 yX7_number yX7_number, Cond.initialized RX7, Cond.code yX7_number cX7_number 2 (some .int), Cond.fieldLink RX7 13 "PamphletQuarrel$Row" "cells" "[J", Cond.methodLink RX5 36 yX8_byTable, Cond.instanceMethod yX8_byTable, Cond.selects RX8 yX8_byTable yX8_byTable, Cond.initialized RX8, Cond.code yX8_byTable cX8_byTable 7 none, Cond.fieldLink RX8 14 "PamphletQuarrel$Search" "cells" "LPamphletQuarrel$Row;", Cond.methodLink RX8 25 yX7_number, Cond.methodLink RX8 36 yX7_put, Cond.instanceMethod yX7_put, Cond.selects RX7 yX7_put yX7_put]
def wsX10_passageLength_r3 : List Cond := [Cond.code yX7_put cX7_put 4 none, Cond.methodLink RX8 43 yX7_at, Cond.instanceMethod yX7_at, Cond.selects RX7 yX7_at yX7_at, Cond.code yX7_at cX7_at 2 (some .long), Cond.methodLink RX8 47 yX8_takeWord, Cond.instanceMethod yX8_takeWord, Cond.selects RX8 yX8_takeWord yX8_takeWord, Cond.code yX8_takeWord cX8_takeWord 11 none, Cond.methodLink RX8 67 Lib.Math.min.name, Cond.static Lib.Math.min.name, Cond.initialized "java/lang/Math", Cond.code Lib.Math.min.name Lib.Math.min.code 2 (some .int), Cond.methodLink RX8 51 yX8_chooseEnd, Cond.instanceMethod yX8_chooseEnd, Cond.selects RX8 yX8_chooseEnd yX8_chooseEnd, Cond.code yX8_chooseEnd cX8_chooseEnd 4 none, Cond.fieldLink RX8 54 "PamphletQuarrel$Search" "changes" "I", Cond.fieldLink RX8 57 "PamphletQuarrel$Search" "begin" "I", Cond.fieldLink RX8 60 "PamphletQuarrel$Search" "length" "I"]
def wsX10_passageLength : List Cond := .code yX10_passageLength cX10_passageLength 3 (some .int) :: ((wsX10_passageLength_r1 ++ (wsX10_passageLength_r2 ++ wsX10_passageLength_r3)) ++ wsX100 ++ wsX50 ++ wsX80 ++ wsX40 ++ wsX90 ++ wsX70 ++ (vx_atS RX10 156 "java/lang/IndexOutOfBoundsException" ["java/lang/RuntimeException", "java/lang/Exception"]).filter goodWord)
def wsX10_pageOf_r1 : List Cond := [Cond.fieldLink RX10 40 "PamphletQuarrel" "quotations" "LPamphletQuarrel$Quotations;", Cond.fieldLink RX10 10 "PamphletQuarrel" "state" "LPamphletQuarrel$State;", Cond.methodLink RX10 102 yX10_needQuotation, Cond.instanceMethod yX10_needQuotation, Cond.selects RX10 yX10_needQuotation yX10_needQuotation, Cond.initialized RX10, Cond.code yX10_needQuotation cX10_needQuotation 3 none, Cond.classLink RX10 152 "java/lang/IndexOutOfBoundsException", Cond.initialized "java/lang/IndexOutOfBoundsException", Cond.methodLink RX10 139 yX10_needPamphlet, Cond.instanceMethod yX10_needPamphlet, Cond.selects RX10 yX10_needPamphlet yX10_needPamphlet, Cond.code yX10_needPamphlet cX10_needPamphlet 2 none, Cond.methodLink RX10 315 yX9_has, Cond.instanceMethod yX9_has, Cond.selects RX9 yX9_has yX9_has, Cond.initialized RX9, Cond.code yX9_has cX9_has 2 (some .boolean), Cond.fieldLink RX9 22 "PamphletQuarrel$State" "count" "I", Cond.methodLink RX10 128 yX9_at, Cond.instanceMethod yX9_at, Cond.selects RX9 yX9_at yX9_at, Cond.code yX9_at cX9_at 3 (some (.object "PamphletQuarrel$Pamphlet")), Cond.fieldLink RX9 11 "PamphletQuarrel$State" "printed" "[LPamphletQuarrel$Pamphlet;"]
def wsX10_pageOf_r2 : List Cond := [Cond.fieldLink RX9 18 "PamphletQuarrel$State" "blank" "LPamphletQuarrel$Pamphlet;", Cond.methodLink RX10 106 yX5_find, Cond.instanceMethod yX5_find, Cond.selects RX5 yX5_find yX5_find, Cond.initialized RX5, Cond.code yX5_find cX5_find 5 (some .int), Cond.fieldLink RX5 12 "PamphletQuarrel$Quotations" "search" "LPamphletQuarrel$Search;", Cond.methodLink RX5 18 yX9_at, Cond.methodLink RX5 30 yX7_number, Cond.instanceMethod yX7_number, Cond.selects RX7 yX7_number yX7_number, Cond.initialized RX7, Cond.code yX7_number cX7_number 2 (some .int), Cond.fieldLink RX7 13 "PamphletQuarrel$Row" "cells" "[J", Cond.methodLink RX5 36 yX8_byTable, Cond.instanceMethod yX8_byTable, Cond.selects RX8 yX8_byTable yX8_byTable, Cond.initialized RX8, Cond.code yX8_byTable cX8_byTable 7 none, Cond.fieldLink RX8 14 "PamphletQuarrel$Search" "cells" "LPamphletQuarrel$Row;", Cond.methodLink RX8 25 yX7_number, Cond.methodLink RX8 36 yX7_put, Cond.instanceMethod yX7_put, Cond.selects RX7 yX7_put yX7_put]
def wsX10_pageOf_r3 : List Cond := [Cond.code yX7_put cX7_put 4 none, Cond.methodLink RX8 43 yX7_at, Cond.instanceMethod yX7_at, Cond.selects RX7 yX7_at yX7_at, Cond.code yX7_at cX7_at 2 (some .long), Cond.methodLink RX8 47 yX8_takeWord, Cond.instanceMethod yX8_takeWord, Cond.selects RX8 yX8_takeWord yX8_takeWord, Cond.code yX8_takeWord cX8_takeWord 11 none, Cond.methodLink RX8 67 Lib.Math.min.name, Cond.static Lib.Math.min.name, Cond.initialized "java/lang/Math", Cond.code Lib.Math.min.name Lib.Math.min.code 2 (some .int), Cond.methodLink RX8 51 yX8_chooseEnd, Cond.instanceMethod yX8_chooseEnd, Cond.selects RX8 yX8_chooseEnd yX8_chooseEnd, Cond.code yX8_chooseEnd cX8_chooseEnd 4 none, Cond.fieldLink RX8 54 "PamphletQuarrel$Search" "changes" "I", Cond.fieldLink RX8 57 "PamphletQuarrel$Search" "begin" "I", Cond.fieldLink RX8 60 "PamphletQuarrel$Search" "length" "I"]
def wsX10_pageOf : List Cond := .code yX10_pageOf cX10_pageOf 3 (some .int) :: ((wsX10_pageOf_r1 ++ (wsX10_pageOf_r2 ++ wsX10_pageOf_r3)) ++ wsX100 ++ wsX50 ++ wsX80 ++ wsX40 ++ wsX90 ++ wsX70 ++ (vx_atS RX10 156 "java/lang/IndexOutOfBoundsException" ["java/lang/RuntimeException", "java/lang/Exception"]).filter goodWord)
def wsX10_comesFrom_r1 : List Cond := [Cond.fieldLink RX10 40 "PamphletQuarrel" "quotations" "LPamphletQuarrel$Quotations;", Cond.fieldLink RX10 10 "PamphletQuarrel" "state" "LPamphletQuarrel$State;", Cond.methodLink RX10 102 yX10_needQuotation, Cond.instanceMethod yX10_needQuotation, Cond.selects RX10 yX10_needQuotation yX10_needQuotation, Cond.initialized RX10, Cond.code yX10_needQuotation cX10_needQuotation 3 none, Cond.classLink RX10 152 "java/lang/IndexOutOfBoundsException", Cond.initialized "java/lang/IndexOutOfBoundsException", Cond.methodLink RX10 139 yX10_needPamphlet, Cond.instanceMethod yX10_needPamphlet, Cond.selects RX10 yX10_needPamphlet yX10_needPamphlet, Cond.code yX10_needPamphlet cX10_needPamphlet 2 none, Cond.methodLink RX10 315 yX9_has, Cond.instanceMethod yX9_has, Cond.selects RX9 yX9_has yX9_has, Cond.initialized RX9, Cond.code yX9_has cX9_has 2 (some .boolean), Cond.fieldLink RX9 22 "PamphletQuarrel$State" "count" "I", Cond.methodLink RX10 128 yX9_at, Cond.instanceMethod yX9_at, Cond.selects RX9 yX9_at yX9_at, Cond.code yX9_at cX9_at 3 (some (.object "PamphletQuarrel$Pamphlet")), Cond.fieldLink RX9 11 "PamphletQuarrel$State" "printed" "[LPamphletQuarrel$Pamphlet;"]
def wsX10_comesFrom_r2 : List Cond := [Cond.fieldLink RX9 18 "PamphletQuarrel$State" "blank" "LPamphletQuarrel$Pamphlet;", Cond.methodLink RX10 226 yX5_parent, Cond.instanceMethod yX5_parent, Cond.selects RX5 yX5_parent yX5_parent, Cond.initialized RX5, Cond.code yX5_parent cX5_parent 5 (some .int), Cond.fieldLink RX5 12 "PamphletQuarrel$Quotations" "search" "LPamphletQuarrel$Search;", Cond.methodLink RX5 51 yX5_find, Cond.instanceMethod yX5_find, Cond.selects RX5 yX5_find yX5_find, Cond.code yX5_find cX5_find 5 (some .int), Cond.methodLink RX5 18 yX9_at, Cond.methodLink RX5 30 yX7_number, Cond.instanceMethod yX7_number, Cond.selects RX7 yX7_number yX7_number, Cond.initialized RX7, Cond.code yX7_number cX7_number 2 (some .int), Cond.fieldLink RX7 13 "PamphletQuarrel$Row" "cells" "[J", Cond.methodLink RX5 36 yX8_byTable, Cond.instanceMethod yX8_byTable, Cond.selects RX8 yX8_byTable yX8_byTable, Cond.initialized RX8, Cond.code yX8_byTable cX8_byTable 7 none, Cond.fieldLink RX8 14 "PamphletQuarrel$Search" "cells" "LPamphletQuarrel$Row;"]
def wsX10_comesFrom_r3 : List Cond := [Cond.methodLink RX8 25 yX7_number, Cond.methodLink RX8 36 yX7_put, Cond.instanceMethod yX7_put, Cond.selects RX7 yX7_put yX7_put, Cond.code yX7_put cX7_put 4 none, Cond.methodLink RX8 43 yX7_at, Cond.instanceMethod yX7_at, Cond.selects RX7 yX7_at yX7_at, Cond.code yX7_at cX7_at 2 (some .long), Cond.methodLink RX8 47 yX8_takeWord, Cond.instanceMethod yX8_takeWord, Cond.selects RX8 yX8_takeWord yX8_takeWord, Cond.code yX8_takeWord cX8_takeWord 11 none, Cond.methodLink RX8 67 Lib.Math.min.name, Cond.static Lib.Math.min.name, Cond.initialized "java/lang/Math", Cond.code Lib.Math.min.name Lib.Math.min.code 2 (some .int), Cond.methodLink RX8 51 yX8_chooseEnd, Cond.instanceMethod yX8_chooseEnd, Cond.selects RX8 yX8_chooseEnd yX8_chooseEnd, Cond.code yX8_chooseEnd cX8_chooseEnd 4 none, Cond.fieldLink RX8 54 "PamphletQuarrel$Search" "changes" "I", Cond.fieldLink RX8 57 "PamphletQuarrel$Search" "begin" "I", Cond.fieldLink RX8 60 "PamphletQuarrel$Search" "length" "I"]
def wsX10_comesFrom_r4 : List Cond := [Cond.methodLink RX5 61 yX4_quotationAround, Cond.instanceMethod yX4_quotationAround, Cond.selects RX4 yX4_quotationAround yX4_quotationAround, Cond.initialized RX4, Cond.code yX4_quotationAround cX4_quotationAround 4 (some .int), Cond.fieldLink RX4 39 "PamphletQuarrel$Pamphlet" "quotationCount" "I", Cond.methodLink RX4 54 yX4_isWithin, Cond.instanceMethod yX4_isWithin, Cond.selects RX4 yX4_isWithin yX4_isWithin, Cond.code yX4_isWithin cX4_isWithin 5 (some .boolean), Cond.fieldLink RX4 23 "PamphletQuarrel$Pamphlet" "begins" "LPamphletQuarrel$Row;", Cond.fieldLink RX4 26 "PamphletQuarrel$Pamphlet" "lengths" "LPamphletQuarrel$Row;", Cond.methodLink RX4 50 yX7_number]
def wsX10_comesFrom : List Cond := .code yX10_comesFrom cX10_comesFrom 3 (some .int) :: ((wsX10_comesFrom_r1 ++ (wsX10_comesFrom_r2 ++ (wsX10_comesFrom_r3 ++ wsX10_comesFrom_r4))) ++ wsX100 ++ wsX40 ++ wsX90 ++ wsX50 ++ wsX80 ++ wsX70 ++ (vx_atS RX10 156 "java/lang/IndexOutOfBoundsException" ["java/lang/RuntimeException", "java/lang/Exception"]).filter goodWord)
def wsX10_originOf_r1 : List Cond := [Cond.fieldLink RX10 40 "PamphletQuarrel" "quotations" "LPamphletQuarrel$Quotations;", Cond.fieldLink RX10 10 "PamphletQuarrel" "state" "LPamphletQuarrel$State;", Cond.methodLink RX10 102 yX10_needQuotation, Cond.instanceMethod yX10_needQuotation, Cond.selects RX10 yX10_needQuotation yX10_needQuotation, Cond.initialized RX10, Cond.code yX10_needQuotation cX10_needQuotation 3 none, Cond.classLink RX10 152 "java/lang/IndexOutOfBoundsException", Cond.initialized "java/lang/IndexOutOfBoundsException", Cond.methodLink RX10 139 yX10_needPamphlet, Cond.instanceMethod yX10_needPamphlet, Cond.selects RX10 yX10_needPamphlet yX10_needPamphlet, Cond.code yX10_needPamphlet cX10_needPamphlet 2 none, Cond.methodLink RX10 315 yX9_has, Cond.instanceMethod yX9_has, Cond.selects RX9 yX9_has yX9_has, Cond.initialized RX9, Cond.code yX9_has cX9_has 2 (some .boolean), Cond.fieldLink RX9 22 "PamphletQuarrel$State" "count" "I", Cond.methodLink RX10 128 yX9_at, Cond.instanceMethod yX9_at, Cond.selects RX9 yX9_at yX9_at, Cond.code yX9_at cX9_at 3 (some (.object "PamphletQuarrel$Pamphlet")), Cond.fieldLink RX9 11 "PamphletQuarrel$State" "printed" "[LPamphletQuarrel$Pamphlet;"]
def wsX10_originOf_r2 : List Cond := [Cond.fieldLink RX9 18 "PamphletQuarrel$State" "blank" "LPamphletQuarrel$Pamphlet;", Cond.methodLink RX10 229 yX5_trace, Cond.instanceMethod yX5_trace, Cond.selects RX5 yX5_trace yX5_trace, Cond.initialized RX5, Cond.code yX5_trace cX5_trace 6 none, Cond.fieldLink RX5 65 "PamphletQuarrel$Quotations" "traced" "I", Cond.fieldLink RX5 48 "PamphletQuarrel$Quotations" "origin" "I", Cond.methodLink RX5 18 yX9_at, Cond.methodLink RX5 30 yX7_number, Cond.instanceMethod yX7_number, Cond.selects RX7 yX7_number yX7_number, Cond.initialized RX7, Cond.code yX7_number cX7_number 2 (some .int), Cond.fieldLink RX7 13 "PamphletQuarrel$Row" "cells" "[J", Cond.methodLink RX5 68 yX5_parent, Cond.instanceMethod yX5_parent, Cond.selects RX5 yX5_parent yX5_parent, Cond.code yX5_parent cX5_parent 5 (some .int), Cond.fieldLink RX5 12 "PamphletQuarrel$Quotations" "search" "LPamphletQuarrel$Search;", Cond.methodLink RX5 51 yX5_find, Cond.instanceMethod yX5_find, Cond.selects RX5 yX5_find yX5_find, Cond.code yX5_find cX5_find 5 (some .int)]
def wsX10_originOf_r3 : List Cond := [Cond.methodLink RX5 36 yX8_byTable, Cond.instanceMethod yX8_byTable, Cond.selects RX8 yX8_byTable yX8_byTable, Cond.initialized RX8, Cond.code yX8_byTable cX8_byTable 7 none, Cond.fieldLink RX8 14 "PamphletQuarrel$Search" "cells" "LPamphletQuarrel$Row;", Cond.methodLink RX8 25 yX7_number, Cond.methodLink RX8 36 yX7_put, Cond.instanceMethod yX7_put, Cond.selects RX7 yX7_put yX7_put, Cond.code yX7_put cX7_put 4 none, Cond.methodLink RX8 43 yX7_at, Cond.instanceMethod yX7_at, Cond.selects RX7 yX7_at yX7_at, Cond.code yX7_at cX7_at 2 (some .long), Cond.methodLink RX8 47 yX8_takeWord, Cond.instanceMethod yX8_takeWord, Cond.selects RX8 yX8_takeWord yX8_takeWord, Cond.code yX8_takeWord cX8_takeWord 11 none, Cond.methodLink RX8 67 Lib.Math.min.name, Cond.static Lib.Math.min.name, Cond.initialized "java/lang/Math", Cond.code Lib.Math.min.name Lib.Math.min.code 2 (some .int), Cond.methodLink RX8 51 yX8_chooseEnd]
def wsX10_originOf_r4 : List Cond := [Cond.instanceMethod yX8_chooseEnd, Cond.selects RX8 yX8_chooseEnd yX8_chooseEnd, Cond.code yX8_chooseEnd cX8_chooseEnd 4 none, Cond.fieldLink RX8 54 "PamphletQuarrel$Search" "changes" "I", Cond.fieldLink RX8 57 "PamphletQuarrel$Search" "begin" "I", Cond.fieldLink RX8 60 "PamphletQuarrel$Search" "length" "I", Cond.methodLink RX5 61 yX4_quotationAround, Cond.instanceMethod yX4_quotationAround, Cond.selects RX4 yX4_quotationAround yX4_quotationAround, Cond.initialized RX4, Cond.code yX4_quotationAround cX4_quotationAround 4 (some .int), Cond.fieldLink RX4 39 "PamphletQuarrel$Pamphlet" "quotationCount" "I", Cond.methodLink RX4 54 yX4_isWithin, Cond.instanceMethod yX4_isWithin, Cond.selects RX4 yX4_isWithin yX4_isWithin, Cond.code yX4_isWithin cX4_isWithin 5 (some .boolean), Cond.fieldLink RX4 23 "PamphletQuarrel$Pamphlet" "begins" "LPamphletQuarrel$Row;", Cond.fieldLink RX4 26 "PamphletQuarrel$Pamphlet" "lengths" "LPamphletQuarrel$Row;", Cond.methodLink RX4 50 yX7_number]
def wsX10_originOf : List Cond := .code yX10_originOf cX10_originOf 3 (some .int) :: ((wsX10_originOf_r1 ++ (wsX10_originOf_r2 ++ (wsX10_originOf_r3 ++ wsX10_originOf_r4))) ++ wsX100 ++ wsX50 ++ wsX40 ++ wsX90 ++ wsX70 ++ wsX80 ++ (vx_atS RX10 156 "java/lang/IndexOutOfBoundsException" ["java/lang/RuntimeException", "java/lang/Exception"]).filter goodWord)
def wsX10_traceOf_r1 : List Cond := [Cond.fieldLink RX10 40 "PamphletQuarrel" "quotations" "LPamphletQuarrel$Quotations;", Cond.fieldLink RX10 10 "PamphletQuarrel" "state" "LPamphletQuarrel$State;", Cond.methodLink RX10 102 yX10_needQuotation, Cond.instanceMethod yX10_needQuotation, Cond.selects RX10 yX10_needQuotation yX10_needQuotation, Cond.initialized RX10, Cond.code yX10_needQuotation cX10_needQuotation 3 none, Cond.classLink RX10 152 "java/lang/IndexOutOfBoundsException", Cond.initialized "java/lang/IndexOutOfBoundsException", Cond.methodLink RX10 139 yX10_needPamphlet, Cond.instanceMethod yX10_needPamphlet, Cond.selects RX10 yX10_needPamphlet yX10_needPamphlet, Cond.code yX10_needPamphlet cX10_needPamphlet 2 none, Cond.methodLink RX10 315 yX9_has, Cond.instanceMethod yX9_has, Cond.selects RX9 yX9_has yX9_has, Cond.initialized RX9, Cond.code yX9_has cX9_has 2 (some .boolean), Cond.fieldLink RX9 22 "PamphletQuarrel$State" "count" "I", Cond.methodLink RX10 128 yX9_at, Cond.instanceMethod yX9_at, Cond.selects RX9 yX9_at yX9_at, Cond.code yX9_at cX9_at 3 (some (.object "PamphletQuarrel$Pamphlet")), Cond.fieldLink RX9 11 "PamphletQuarrel$State" "printed" "[LPamphletQuarrel$Pamphlet;"]
def wsX10_traceOf_r2 : List Cond := [Cond.fieldLink RX9 18 "PamphletQuarrel$State" "blank" "LPamphletQuarrel$Pamphlet;", Cond.methodLink RX10 229 yX5_trace, Cond.instanceMethod yX5_trace, Cond.selects RX5 yX5_trace yX5_trace, Cond.initialized RX5, Cond.code yX5_trace cX5_trace 6 none, Cond.fieldLink RX5 65 "PamphletQuarrel$Quotations" "traced" "I", Cond.fieldLink RX5 48 "PamphletQuarrel$Quotations" "origin" "I", Cond.methodLink RX5 18 yX9_at, Cond.methodLink RX5 30 yX7_number, Cond.instanceMethod yX7_number, Cond.selects RX7 yX7_number yX7_number, Cond.initialized RX7, Cond.code yX7_number cX7_number 2 (some .int), Cond.fieldLink RX7 13 "PamphletQuarrel$Row" "cells" "[J", Cond.methodLink RX5 68 yX5_parent, Cond.instanceMethod yX5_parent, Cond.selects RX5 yX5_parent yX5_parent, Cond.code yX5_parent cX5_parent 5 (some .int), Cond.fieldLink RX5 12 "PamphletQuarrel$Quotations" "search" "LPamphletQuarrel$Search;", Cond.methodLink RX5 51 yX5_find, Cond.instanceMethod yX5_find, Cond.selects RX5 yX5_find yX5_find, Cond.code yX5_find cX5_find 5 (some .int)]
def wsX10_traceOf_r3 : List Cond := [Cond.methodLink RX5 36 yX8_byTable, Cond.instanceMethod yX8_byTable, Cond.selects RX8 yX8_byTable yX8_byTable, Cond.initialized RX8, Cond.code yX8_byTable cX8_byTable 7 none, Cond.fieldLink RX8 14 "PamphletQuarrel$Search" "cells" "LPamphletQuarrel$Row;", Cond.methodLink RX8 25 yX7_number, Cond.methodLink RX8 36 yX7_put, Cond.instanceMethod yX7_put, Cond.selects RX7 yX7_put yX7_put, Cond.code yX7_put cX7_put 4 none, Cond.methodLink RX8 43 yX7_at, Cond.instanceMethod yX7_at, Cond.selects RX7 yX7_at yX7_at, Cond.code yX7_at cX7_at 2 (some .long), Cond.methodLink RX8 47 yX8_takeWord, Cond.instanceMethod yX8_takeWord, Cond.selects RX8 yX8_takeWord yX8_takeWord, Cond.code yX8_takeWord cX8_takeWord 11 none, Cond.methodLink RX8 67 Lib.Math.min.name, Cond.static Lib.Math.min.name, Cond.initialized "java/lang/Math", Cond.code Lib.Math.min.name Lib.Math.min.code 2 (some .int), Cond.methodLink RX8 51 yX8_chooseEnd]
def wsX10_traceOf_r4 : List Cond := [Cond.instanceMethod yX8_chooseEnd, Cond.selects RX8 yX8_chooseEnd yX8_chooseEnd, Cond.code yX8_chooseEnd cX8_chooseEnd 4 none, Cond.fieldLink RX8 54 "PamphletQuarrel$Search" "changes" "I", Cond.fieldLink RX8 57 "PamphletQuarrel$Search" "begin" "I", Cond.fieldLink RX8 60 "PamphletQuarrel$Search" "length" "I", Cond.methodLink RX5 61 yX4_quotationAround, Cond.instanceMethod yX4_quotationAround, Cond.selects RX4 yX4_quotationAround yX4_quotationAround, Cond.initialized RX4, Cond.code yX4_quotationAround cX4_quotationAround 4 (some .int), Cond.fieldLink RX4 39 "PamphletQuarrel$Pamphlet" "quotationCount" "I", Cond.methodLink RX4 54 yX4_isWithin, Cond.instanceMethod yX4_isWithin, Cond.selects RX4 yX4_isWithin yX4_isWithin, Cond.code yX4_isWithin cX4_isWithin 5 (some .boolean), Cond.fieldLink RX4 23 "PamphletQuarrel$Pamphlet" "begins" "LPamphletQuarrel$Row;", Cond.fieldLink RX4 26 "PamphletQuarrel$Pamphlet" "lengths" "LPamphletQuarrel$Row;", Cond.methodLink RX4 50 yX7_number]
def wsX10_traceOf : List Cond := .code yX10_traceOf cX10_traceOf 3 (some .int) :: ((wsX10_traceOf_r1 ++ (wsX10_traceOf_r2 ++ (wsX10_traceOf_r3 ++ wsX10_traceOf_r4))) ++ wsX100 ++ wsX50 ++ wsX40 ++ wsX90 ++ wsX70 ++ wsX80 ++ (vx_atS RX10 156 "java/lang/IndexOutOfBoundsException" ["java/lang/RuntimeException", "java/lang/Exception"]).filter goodWord)
def wsX10_changesAtOrigin_r1 : List Cond := [Cond.fieldLink RX10 40 "PamphletQuarrel" "quotations" "LPamphletQuarrel$Quotations;", Cond.fieldLink RX10 10 "PamphletQuarrel" "state" "LPamphletQuarrel$State;", Cond.methodLink RX10 102 yX10_needQuotation, Cond.instanceMethod yX10_needQuotation, Cond.selects RX10 yX10_needQuotation yX10_needQuotation, Cond.initialized RX10, Cond.code yX10_needQuotation cX10_needQuotation 3 none, Cond.classLink RX10 152 "java/lang/IndexOutOfBoundsException", Cond.initialized "java/lang/IndexOutOfBoundsException", Cond.methodLink RX10 139 yX10_needPamphlet, Cond.instanceMethod yX10_needPamphlet, Cond.selects RX10 yX10_needPamphlet yX10_needPamphlet, Cond.code yX10_needPamphlet cX10_needPamphlet 2 none, Cond.methodLink RX10 315 yX9_has, Cond.instanceMethod yX9_has, Cond.selects RX9 yX9_has yX9_has, Cond.initialized RX9, Cond.code yX9_has cX9_has 2 (some .boolean), Cond.fieldLink RX9 22 "PamphletQuarrel$State" "count" "I", Cond.methodLink RX10 128 yX9_at, Cond.instanceMethod yX9_at, Cond.selects RX9 yX9_at yX9_at, Cond.code yX9_at cX9_at 3 (some (.object "PamphletQuarrel$Pamphlet")), Cond.fieldLink RX9 11 "PamphletQuarrel$State" "printed" "[LPamphletQuarrel$Pamphlet;"]
def wsX10_changesAtOrigin_r2 : List Cond := [Cond.fieldLink RX9 18 "PamphletQuarrel$State" "blank" "LPamphletQuarrel$Pamphlet;", Cond.methodLink RX10 229 yX5_trace, Cond.instanceMethod yX5_trace, Cond.selects RX5 yX5_trace yX5_trace, Cond.initialized RX5, Cond.code yX5_trace cX5_trace 6 none, Cond.fieldLink RX5 65 "PamphletQuarrel$Quotations" "traced" "I", Cond.fieldLink RX5 48 "PamphletQuarrel$Quotations" "origin" "I", Cond.methodLink RX5 18 yX9_at, Cond.methodLink RX5 30 yX7_number, Cond.instanceMethod yX7_number, Cond.selects RX7 yX7_number yX7_number, Cond.initialized RX7, Cond.code yX7_number cX7_number 2 (some .int), Cond.fieldLink RX7 13 "PamphletQuarrel$Row" "cells" "[J", Cond.methodLink RX5 68 yX5_parent, Cond.instanceMethod yX5_parent, Cond.selects RX5 yX5_parent yX5_parent, Cond.code yX5_parent cX5_parent 5 (some .int), Cond.fieldLink RX5 12 "PamphletQuarrel$Quotations" "search" "LPamphletQuarrel$Search;", Cond.methodLink RX5 51 yX5_find, Cond.instanceMethod yX5_find, Cond.selects RX5 yX5_find yX5_find, Cond.code yX5_find cX5_find 5 (some .int)]
def wsX10_changesAtOrigin_r3 : List Cond := [Cond.methodLink RX5 36 yX8_byTable, Cond.instanceMethod yX8_byTable, Cond.selects RX8 yX8_byTable yX8_byTable, Cond.initialized RX8, Cond.code yX8_byTable cX8_byTable 7 none, Cond.fieldLink RX8 14 "PamphletQuarrel$Search" "cells" "LPamphletQuarrel$Row;", Cond.methodLink RX8 25 yX7_number, Cond.methodLink RX8 36 yX7_put, Cond.instanceMethod yX7_put, Cond.selects RX7 yX7_put yX7_put, Cond.code yX7_put cX7_put 4 none, Cond.methodLink RX8 43 yX7_at, Cond.instanceMethod yX7_at, Cond.selects RX7 yX7_at yX7_at, Cond.code yX7_at cX7_at 2 (some .long), Cond.methodLink RX8 47 yX8_takeWord, Cond.instanceMethod yX8_takeWord, Cond.selects RX8 yX8_takeWord yX8_takeWord, Cond.code yX8_takeWord cX8_takeWord 11 none, Cond.methodLink RX8 67 Lib.Math.min.name, Cond.static Lib.Math.min.name, Cond.initialized "java/lang/Math", Cond.code Lib.Math.min.name Lib.Math.min.code 2 (some .int), Cond.methodLink RX8 51 yX8_chooseEnd]
def wsX10_changesAtOrigin_r4 : List Cond := [Cond.instanceMethod yX8_chooseEnd, Cond.selects RX8 yX8_chooseEnd yX8_chooseEnd, Cond.code yX8_chooseEnd cX8_chooseEnd 4 none, Cond.fieldLink RX8 54 "PamphletQuarrel$Search" "changes" "I", Cond.fieldLink RX8 57 "PamphletQuarrel$Search" "begin" "I", Cond.fieldLink RX8 60 "PamphletQuarrel$Search" "length" "I", Cond.methodLink RX5 61 yX4_quotationAround, Cond.instanceMethod yX4_quotationAround, Cond.selects RX4 yX4_quotationAround yX4_quotationAround, Cond.initialized RX4, Cond.code yX4_quotationAround cX4_quotationAround 4 (some .int), Cond.fieldLink RX4 39 "PamphletQuarrel$Pamphlet" "quotationCount" "I", Cond.methodLink RX4 54 yX4_isWithin, Cond.instanceMethod yX4_isWithin, Cond.selects RX4 yX4_isWithin yX4_isWithin, Cond.code yX4_isWithin cX4_isWithin 5 (some .boolean), Cond.fieldLink RX4 23 "PamphletQuarrel$Pamphlet" "begins" "LPamphletQuarrel$Row;", Cond.fieldLink RX4 26 "PamphletQuarrel$Pamphlet" "lengths" "LPamphletQuarrel$Row;", Cond.methodLink RX4 50 yX7_number, Cond.methodLink RX10 238 yX5_findAtOrigin, Cond.instanceMethod yX5_findAtOrigin, Cond.selects RX5 yX5_findAtOrigin yX5_findAtOrigin, Cond.code yX5_findAtOrigin cX5_findAtOrigin 4 (some .int)]
def wsX10_changesAtOrigin : List Cond := .code yX10_changesAtOrigin cX10_changesAtOrigin 3 (some .int) :: ((wsX10_changesAtOrigin_r1 ++ (wsX10_changesAtOrigin_r2 ++ (wsX10_changesAtOrigin_r3 ++ wsX10_changesAtOrigin_r4))) ++ wsX100 ++ wsX40 ++ wsX90 ++ wsX50 ++ wsX70 ++ wsX80 ++ (vx_atS RX10 156 "java/lang/IndexOutOfBoundsException" ["java/lang/RuntimeException", "java/lang/Exception"]).filter goodWord)
def wsX10_quotedAgain_r1 : List Cond := [Cond.fieldLink RX10 40 "PamphletQuarrel" "quotations" "LPamphletQuarrel$Quotations;", Cond.fieldLink RX10 10 "PamphletQuarrel" "state" "LPamphletQuarrel$State;", Cond.methodLink RX10 102 yX10_needQuotation, Cond.instanceMethod yX10_needQuotation, Cond.selects RX10 yX10_needQuotation yX10_needQuotation, Cond.initialized RX10, Cond.code yX10_needQuotation cX10_needQuotation 3 none, Cond.classLink RX10 152 "java/lang/IndexOutOfBoundsException", Cond.initialized "java/lang/IndexOutOfBoundsException", Cond.methodLink RX10 139 yX10_needPamphlet, Cond.instanceMethod yX10_needPamphlet, Cond.selects RX10 yX10_needPamphlet yX10_needPamphlet, Cond.code yX10_needPamphlet cX10_needPamphlet 2 none, Cond.methodLink RX10 315 yX9_has, Cond.instanceMethod yX9_has, Cond.selects RX9 yX9_has yX9_has, Cond.initialized RX9, Cond.code yX9_has cX9_has 2 (some .boolean), Cond.fieldLink RX9 22 "PamphletQuarrel$State" "count" "I", Cond.methodLink RX10 128 yX9_at, Cond.instanceMethod yX9_at, Cond.selects RX9 yX9_at yX9_at, Cond.code yX9_at cX9_at 3 (some (.object "PamphletQuarrel$Pamphlet")), Cond.fieldLink RX9 11 "PamphletQuarrel$State" "printed" "[LPamphletQuarrel$Pamphlet;"]
def wsX10_quotedAgain_r2 : List Cond := [Cond.fieldLink RX9 18 "PamphletQuarrel$State" "blank" "LPamphletQuarrel$Pamphlet;", Cond.methodLink RX10 241 yX5_children, Cond.instanceMethod yX5_children, Cond.selects RX5 yX5_children yX5_children, Cond.initialized RX5, Cond.code yX5_children cX5_children 9 (some .int), Cond.fieldLink RX5 12 "PamphletQuarrel$Quotations" "search" "LPamphletQuarrel$Search;", Cond.methodLink RX5 18 yX9_at, Cond.methodLink RX5 30 yX7_number, Cond.instanceMethod yX7_number, Cond.selects RX7 yX7_number yX7_number, Cond.initialized RX7, Cond.code yX7_number cX7_number 2 (some .int), Cond.fieldLink RX7 13 "PamphletQuarrel$Row" "cells" "[J", Cond.methodLink RX5 51 yX5_find, Cond.instanceMethod yX5_find, Cond.selects RX5 yX5_find yX5_find, Cond.code yX5_find cX5_find 5 (some .int), Cond.methodLink RX5 36 yX8_byTable, Cond.instanceMethod yX8_byTable, Cond.selects RX8 yX8_byTable yX8_byTable, Cond.initialized RX8, Cond.code yX8_byTable cX8_byTable 7 none, Cond.fieldLink RX8 14 "PamphletQuarrel$Search" "cells" "LPamphletQuarrel$Row;"]
def wsX10_quotedAgain_r3 : List Cond := [Cond.methodLink RX8 25 yX7_number, Cond.methodLink RX8 36 yX7_put, Cond.instanceMethod yX7_put, Cond.selects RX7 yX7_put yX7_put, Cond.code yX7_put cX7_put 4 none, Cond.methodLink RX8 43 yX7_at, Cond.instanceMethod yX7_at, Cond.selects RX7 yX7_at yX7_at, Cond.code yX7_at cX7_at 2 (some .long), Cond.methodLink RX8 47 yX8_takeWord, Cond.instanceMethod yX8_takeWord, Cond.selects RX8 yX8_takeWord yX8_takeWord, Cond.code yX8_takeWord cX8_takeWord 11 none, Cond.methodLink RX8 67 Lib.Math.min.name, Cond.static Lib.Math.min.name, Cond.initialized "java/lang/Math", Cond.code Lib.Math.min.name Lib.Math.min.code 2 (some .int), Cond.methodLink RX8 51 yX8_chooseEnd, Cond.instanceMethod yX8_chooseEnd, Cond.selects RX8 yX8_chooseEnd yX8_chooseEnd, Cond.code yX8_chooseEnd cX8_chooseEnd 4 none, Cond.fieldLink RX8 54 "PamphletQuarrel$Search" "changes" "I", Cond.fieldLink RX8 57 "PamphletQuarrel$Search" "begin" "I", Cond.fieldLink RX8 60 "PamphletQuarrel$Search" "length" "I"]
def wsX10_quotedAgain_r4 : List Cond := [Cond.methodLink RX5 77 yX4_isWithin, Cond.instanceMethod yX4_isWithin, Cond.selects RX4 yX4_isWithin yX4_isWithin, Cond.initialized RX4, Cond.code yX4_isWithin cX4_isWithin 5 (some .boolean), Cond.fieldLink RX4 23 "PamphletQuarrel$Pamphlet" "begins" "LPamphletQuarrel$Row;", Cond.fieldLink RX4 26 "PamphletQuarrel$Pamphlet" "lengths" "LPamphletQuarrel$Row;", Cond.methodLink RX4 50 yX7_number]
def wsX10_quotedAgain : List Cond := .code yX10_quotedAgain cX10_quotedAgain 3 (some .int) :: ((wsX10_quotedAgain_r1 ++ (wsX10_quotedAgain_r2 ++ (wsX10_quotedAgain_r3 ++ wsX10_quotedAgain_r4))) ++ wsX100 ++ wsX40 ++ wsX90 ++ wsX50 ++ wsX80 ++ wsX70 ++ (vx_atS RX10 156 "java/lang/IndexOutOfBoundsException" ["java/lang/RuntimeException", "java/lang/Exception"]).filter goodWord)
def wsX10_needAuthor : List Cond := .code yX10_needAuthor cX10_needAuthor 1 none :: ([.classLink RX10 152 "java/lang/IndexOutOfBoundsException", .initialized "java/lang/IndexOutOfBoundsException", .methodLink RX10 58 yX10_isAuthor, .static yX10_isAuthor, .initialized RX10, .code yX10_isAuthor cX10_isAuthor 1 (some .boolean)] ++ (vx_atS RX10 156 "java/lang/IndexOutOfBoundsException" ["java/lang/RuntimeException", "java/lang/Exception"]).filter goodWord)
def wsX10_blameOf_r1 : List Cond := [Cond.fieldLink RX10 40 "PamphletQuarrel" "quotations" "LPamphletQuarrel$Quotations;", Cond.fieldLink RX10 10 "PamphletQuarrel" "state" "LPamphletQuarrel$State;", Cond.methodLink RX10 244 yX10_needAuthor, Cond.static yX10_needAuthor, Cond.initialized RX10, Cond.code yX10_needAuthor cX10_needAuthor 1 none, Cond.classLink RX10 152 "java/lang/IndexOutOfBoundsException", Cond.initialized "java/lang/IndexOutOfBoundsException", Cond.methodLink RX10 58 yX10_isAuthor, Cond.static yX10_isAuthor, Cond.code yX10_isAuthor cX10_isAuthor 1 (some .boolean), Cond.methodLink RX10 247 yX5_changesWritten, Cond.instanceMethod yX5_changesWritten, Cond.selects RX5 yX5_changesWritten yX5_changesWritten, Cond.initialized RX5, Cond.code yX5_changesWritten cX5_changesWritten 6 (some .int), Cond.methodLink RX5 18 yX9_at, Cond.instanceMethod yX9_at, Cond.selects RX9 yX9_at yX9_at, Cond.initialized RX9, Cond.code yX9_at cX9_at 3 (some (.object "PamphletQuarrel$Pamphlet")), Cond.fieldLink RX9 11 "PamphletQuarrel$State" "printed" "[LPamphletQuarrel$Pamphlet;", Cond.fieldLink RX9 18 "PamphletQuarrel$State" "blank" "LPamphletQuarrel$Pamphlet;", Cond.methodLink RX5 102 yX5_changesIn]
def wsX10_blameOf_r2 : List Cond := [Cond.instanceMethod yX5_changesIn, Cond.selects RX5 yX5_changesIn yX5_changesIn, Cond.code yX5_changesIn cX5_changesIn 8 (some .int), Cond.methodLink RX5 30 yX7_number, Cond.instanceMethod yX7_number, Cond.selects RX7 yX7_number yX7_number, Cond.initialized RX7, Cond.code yX7_number cX7_number 2 (some .int), Cond.fieldLink RX7 13 "PamphletQuarrel$Row" "cells" "[J", Cond.methodLink RX5 51 yX5_find, Cond.instanceMethod yX5_find, Cond.selects RX5 yX5_find yX5_find, Cond.code yX5_find cX5_find 5 (some .int), Cond.fieldLink RX5 12 "PamphletQuarrel$Quotations" "search" "LPamphletQuarrel$Search;", Cond.methodLink RX5 36 yX8_byTable, Cond.instanceMethod yX8_byTable, Cond.selects RX8 yX8_byTable yX8_byTable, Cond.initialized RX8, Cond.code yX8_byTable cX8_byTable 7 none, Cond.fieldLink RX8 14 "PamphletQuarrel$Search" "cells" "LPamphletQuarrel$Row;", Cond.methodLink RX8 25 yX7_number, Cond.methodLink RX8 36 yX7_put, Cond.instanceMethod yX7_put, Cond.selects RX7 yX7_put yX7_put]
def wsX10_blameOf_r3 : List Cond := [Cond.code yX7_put cX7_put 4 none, Cond.methodLink RX8 43 yX7_at, Cond.instanceMethod yX7_at, Cond.selects RX7 yX7_at yX7_at, Cond.code yX7_at cX7_at 2 (some .long), Cond.methodLink RX8 47 yX8_takeWord, Cond.instanceMethod yX8_takeWord, Cond.selects RX8 yX8_takeWord yX8_takeWord, Cond.code yX8_takeWord cX8_takeWord 11 none, Cond.methodLink RX8 67 Lib.Math.min.name, Cond.static Lib.Math.min.name, Cond.initialized "java/lang/Math", Cond.code Lib.Math.min.name Lib.Math.min.code 2 (some .int), Cond.methodLink RX8 51 yX8_chooseEnd, Cond.instanceMethod yX8_chooseEnd, Cond.selects RX8 yX8_chooseEnd yX8_chooseEnd, Cond.code yX8_chooseEnd cX8_chooseEnd 4 none, Cond.fieldLink RX8 54 "PamphletQuarrel$Search" "changes" "I", Cond.fieldLink RX8 57 "PamphletQuarrel$Search" "begin" "I", Cond.fieldLink RX8 60 "PamphletQuarrel$Search" "length" "I"]
def wsX10_blameOf : List Cond := .code yX10_blameOf cX10_blameOf 2 (some .int) :: ((wsX10_blameOf_r1 ++ (wsX10_blameOf_r2 ++ wsX10_blameOf_r3)) ++ wsX100 ++ wsX90 ++ wsX40 ++ wsX70 ++ wsX50 ++ wsX80 ++ (vx_atS RX10 156 "java/lang/IndexOutOfBoundsException" ["java/lang/RuntimeException", "java/lang/Exception"]).filter goodWord)
def wsX10_wrongs_r1 : List Cond := [Cond.fieldLink RX10 40 "PamphletQuarrel" "quotations" "LPamphletQuarrel$Quotations;", Cond.fieldLink RX10 10 "PamphletQuarrel" "state" "LPamphletQuarrel$State;", Cond.methodLink RX10 244 yX10_needAuthor, Cond.static yX10_needAuthor, Cond.initialized RX10, Cond.code yX10_needAuthor cX10_needAuthor 1 none, Cond.classLink RX10 152 "java/lang/IndexOutOfBoundsException", Cond.initialized "java/lang/IndexOutOfBoundsException", Cond.methodLink RX10 58 yX10_isAuthor, Cond.static yX10_isAuthor, Cond.code yX10_isAuthor cX10_isAuthor 1 (some .boolean), Cond.methodLink RX10 247 yX5_changesWritten, Cond.instanceMethod yX5_changesWritten, Cond.selects RX5 yX5_changesWritten yX5_changesWritten, Cond.initialized RX5, Cond.code yX5_changesWritten cX5_changesWritten 6 (some .int), Cond.methodLink RX5 18 yX9_at, Cond.instanceMethod yX9_at, Cond.selects RX9 yX9_at yX9_at, Cond.initialized RX9, Cond.code yX9_at cX9_at 3 (some (.object "PamphletQuarrel$Pamphlet")), Cond.fieldLink RX9 11 "PamphletQuarrel$State" "printed" "[LPamphletQuarrel$Pamphlet;", Cond.fieldLink RX9 18 "PamphletQuarrel$State" "blank" "LPamphletQuarrel$Pamphlet;", Cond.methodLink RX5 102 yX5_changesIn]
def wsX10_wrongs_r2 : List Cond := [Cond.instanceMethod yX5_changesIn, Cond.selects RX5 yX5_changesIn yX5_changesIn, Cond.code yX5_changesIn cX5_changesIn 8 (some .int), Cond.methodLink RX5 30 yX7_number, Cond.instanceMethod yX7_number, Cond.selects RX7 yX7_number yX7_number, Cond.initialized RX7, Cond.code yX7_number cX7_number 2 (some .int), Cond.fieldLink RX7 13 "PamphletQuarrel$Row" "cells" "[J", Cond.methodLink RX5 51 yX5_find, Cond.instanceMethod yX5_find, Cond.selects RX5 yX5_find yX5_find, Cond.code yX5_find cX5_find 5 (some .int), Cond.fieldLink RX5 12 "PamphletQuarrel$Quotations" "search" "LPamphletQuarrel$Search;", Cond.methodLink RX5 36 yX8_byTable, Cond.instanceMethod yX8_byTable, Cond.selects RX8 yX8_byTable yX8_byTable, Cond.initialized RX8, Cond.code yX8_byTable cX8_byTable 7 none, Cond.fieldLink RX8 14 "PamphletQuarrel$Search" "cells" "LPamphletQuarrel$Row;", Cond.methodLink RX8 25 yX7_number, Cond.methodLink RX8 36 yX7_put, Cond.instanceMethod yX7_put, Cond.selects RX7 yX7_put yX7_put]
def wsX10_wrongs_r3 : List Cond := [Cond.code yX7_put cX7_put 4 none, Cond.methodLink RX8 43 yX7_at, Cond.instanceMethod yX7_at, Cond.selects RX7 yX7_at yX7_at, Cond.code yX7_at cX7_at 2 (some .long), Cond.methodLink RX8 47 yX8_takeWord, Cond.instanceMethod yX8_takeWord, Cond.selects RX8 yX8_takeWord yX8_takeWord, Cond.code yX8_takeWord cX8_takeWord 11 none, Cond.methodLink RX8 67 Lib.Math.min.name, Cond.static Lib.Math.min.name, Cond.initialized "java/lang/Math", Cond.code Lib.Math.min.name Lib.Math.min.code 2 (some .int), Cond.methodLink RX8 51 yX8_chooseEnd, Cond.instanceMethod yX8_chooseEnd, Cond.selects RX8 yX8_chooseEnd yX8_chooseEnd, Cond.code yX8_chooseEnd cX8_chooseEnd 4 none, Cond.fieldLink RX8 54 "PamphletQuarrel$Search" "changes" "I", Cond.fieldLink RX8 57 "PamphletQuarrel$Search" "begin" "I", Cond.fieldLink RX8 60 "PamphletQuarrel$Search" "length" "I"]
def wsX10_wrongs : List Cond := .code yX10_wrongs cX10_wrongs 3 (some .int) :: ((wsX10_wrongs_r1 ++ (wsX10_wrongs_r2 ++ wsX10_wrongs_r3)) ++ wsX100 ++ wsX90 ++ wsX40 ++ wsX70 ++ wsX50 ++ wsX80 ++ (vx_atS RX10 156 "java/lang/IndexOutOfBoundsException" ["java/lang/RuntimeException", "java/lang/Exception"]).filter goodWord)
def wsX10_blameByAuthors_r1 : List Cond := [Cond.fieldLink RX10 40 "PamphletQuarrel" "quotations" "LPamphletQuarrel$Quotations;", Cond.fieldLink RX10 10 "PamphletQuarrel" "state" "LPamphletQuarrel$State;", Cond.methodLink RX10 247 yX5_changesWritten, Cond.instanceMethod yX5_changesWritten, Cond.selects RX5 yX5_changesWritten yX5_changesWritten, Cond.initialized RX5, Cond.code yX5_changesWritten cX5_changesWritten 6 (some .int), Cond.methodLink RX5 18 yX9_at, Cond.instanceMethod yX9_at, Cond.selects RX9 yX9_at yX9_at, Cond.initialized RX9, Cond.code yX9_at cX9_at 3 (some (.object "PamphletQuarrel$Pamphlet")), Cond.fieldLink RX9 11 "PamphletQuarrel$State" "printed" "[LPamphletQuarrel$Pamphlet;", Cond.fieldLink RX9 18 "PamphletQuarrel$State" "blank" "LPamphletQuarrel$Pamphlet;", Cond.methodLink RX5 102 yX5_changesIn, Cond.instanceMethod yX5_changesIn, Cond.selects RX5 yX5_changesIn yX5_changesIn, Cond.code yX5_changesIn cX5_changesIn 8 (some .int), Cond.methodLink RX5 30 yX7_number, Cond.instanceMethod yX7_number, Cond.selects RX7 yX7_number yX7_number, Cond.initialized RX7, Cond.code yX7_number cX7_number 2 (some .int), Cond.fieldLink RX7 13 "PamphletQuarrel$Row" "cells" "[J"]
def wsX10_blameByAuthors_r2 : List Cond := [Cond.methodLink RX5 51 yX5_find, Cond.instanceMethod yX5_find, Cond.selects RX5 yX5_find yX5_find, Cond.code yX5_find cX5_find 5 (some .int), Cond.fieldLink RX5 12 "PamphletQuarrel$Quotations" "search" "LPamphletQuarrel$Search;", Cond.methodLink RX5 36 yX8_byTable, Cond.instanceMethod yX8_byTable, Cond.selects RX8 yX8_byTable yX8_byTable, Cond.initialized RX8, Cond.code yX8_byTable cX8_byTable 7 none, Cond.fieldLink RX8 14 "PamphletQuarrel$Search" "cells" "LPamphletQuarrel$Row;", Cond.methodLink RX8 25 yX7_number, Cond.methodLink RX8 36 yX7_put, Cond.instanceMethod yX7_put, Cond.selects RX7 yX7_put yX7_put, Cond.code yX7_put cX7_put 4 none, Cond.methodLink RX8 43 yX7_at, Cond.instanceMethod yX7_at, Cond.selects RX7 yX7_at yX7_at, Cond.code yX7_at cX7_at 2 (some .long), Cond.methodLink RX8 47 yX8_takeWord, Cond.instanceMethod yX8_takeWord, Cond.selects RX8 yX8_takeWord yX8_takeWord, Cond.code yX8_takeWord cX8_takeWord 11 none]
def wsX10_blameByAuthors_r3 : List Cond := [Cond.methodLink RX8 67 Lib.Math.min.name, Cond.static Lib.Math.min.name, Cond.initialized "java/lang/Math", Cond.code Lib.Math.min.name Lib.Math.min.code 2 (some .int), Cond.methodLink RX8 51 yX8_chooseEnd, Cond.instanceMethod yX8_chooseEnd, Cond.selects RX8 yX8_chooseEnd yX8_chooseEnd, Cond.code yX8_chooseEnd cX8_chooseEnd 4 none, Cond.fieldLink RX8 54 "PamphletQuarrel$Search" "changes" "I", Cond.fieldLink RX8 57 "PamphletQuarrel$Search" "begin" "I", Cond.fieldLink RX8 60 "PamphletQuarrel$Search" "length" "I"]
def wsX10_blameByAuthors : List Cond := .code yX10_blameByAuthors cX10_blameByAuthors 3 (some .int) :: ((wsX10_blameByAuthors_r1 ++ (wsX10_blameByAuthors_r2 ++ wsX10_blameByAuthors_r3)) ++ wsX100 ++ wsX90 ++ wsX40 ++ wsX70 ++ wsX50 ++ wsX80)
def wsX10_blameBySources_r1 : List Cond := [Cond.fieldLink RX10 10 "PamphletQuarrel" "state" "LPamphletQuarrel$State;", Cond.fieldLink RX10 40 "PamphletQuarrel" "quotations" "LPamphletQuarrel$Quotations;", Cond.methodLink RX10 250 yX5_changesSuffered, Cond.instanceMethod yX5_changesSuffered, Cond.selects RX5 yX5_changesSuffered yX5_changesSuffered, Cond.initialized RX5, Cond.code yX5_changesSuffered cX5_changesSuffered 7 (some .int), Cond.methodLink RX5 18 yX9_at, Cond.instanceMethod yX9_at, Cond.selects RX9 yX9_at yX9_at, Cond.initialized RX9, Cond.code yX9_at cX9_at 3 (some (.object "PamphletQuarrel$Pamphlet")), Cond.fieldLink RX9 11 "PamphletQuarrel$State" "printed" "[LPamphletQuarrel$Pamphlet;", Cond.fieldLink RX9 18 "PamphletQuarrel$State" "blank" "LPamphletQuarrel$Pamphlet;", Cond.methodLink RX5 30 yX7_number, Cond.instanceMethod yX7_number, Cond.selects RX7 yX7_number yX7_number, Cond.initialized RX7, Cond.code yX7_number cX7_number 2 (some .int), Cond.fieldLink RX7 13 "PamphletQuarrel$Row" "cells" "[J", Cond.methodLink RX5 51 yX5_find, Cond.instanceMethod yX5_find, Cond.selects RX5 yX5_find yX5_find, Cond.code yX5_find cX5_find 5 (some .int)]
def wsX10_blameBySources_r2 : List Cond := [Cond.fieldLink RX5 12 "PamphletQuarrel$Quotations" "search" "LPamphletQuarrel$Search;", Cond.methodLink RX5 36 yX8_byTable, Cond.instanceMethod yX8_byTable, Cond.selects RX8 yX8_byTable yX8_byTable, Cond.initialized RX8, Cond.code yX8_byTable cX8_byTable 7 none, Cond.fieldLink RX8 14 "PamphletQuarrel$Search" "cells" "LPamphletQuarrel$Row;", Cond.methodLink RX8 25 yX7_number, Cond.methodLink RX8 36 yX7_put, Cond.instanceMethod yX7_put, Cond.selects RX7 yX7_put yX7_put, Cond.code yX7_put cX7_put 4 none, Cond.methodLink RX8 43 yX7_at, Cond.instanceMethod yX7_at, Cond.selects RX7 yX7_at yX7_at, Cond.code yX7_at cX7_at 2 (some .long), Cond.methodLink RX8 47 yX8_takeWord, Cond.instanceMethod yX8_takeWord, Cond.selects RX8 yX8_takeWord yX8_takeWord, Cond.code yX8_takeWord cX8_takeWord 11 none, Cond.methodLink RX8 67 Lib.Math.min.name, Cond.static Lib.Math.min.name, Cond.initialized "java/lang/Math", Cond.code Lib.Math.min.name Lib.Math.min.code 2 (some .int)]
def wsX10_blameBySources_r3 : List Cond := [Cond.methodLink RX8 51 yX8_chooseEnd, Cond.instanceMethod yX8_chooseEnd, Cond.selects RX8 yX8_chooseEnd yX8_chooseEnd, Cond.code yX8_chooseEnd cX8_chooseEnd 4 none, Cond.fieldLink RX8 54 "PamphletQuarrel$Search" "changes" "I", Cond.fieldLink RX8 57 "PamphletQuarrel$Search" "begin" "I", Cond.fieldLink RX8 60 "PamphletQuarrel$Search" "length" "I"]
def wsX10_blameBySources : List Cond := .code yX10_blameBySources cX10_blameBySources 3 (some .int) :: ((wsX10_blameBySources_r1 ++ (wsX10_blameBySources_r2 ++ wsX10_blameBySources_r3)) ++ wsX100 ++ wsX90 ++ wsX40 ++ wsX70 ++ wsX50 ++ wsX80)
def wsX10_faithfulShare_r1 : List Cond := [Cond.fieldLink RX10 10 "PamphletQuarrel" "state" "LPamphletQuarrel$State;", Cond.fieldLink RX10 40 "PamphletQuarrel" "quotations" "LPamphletQuarrel$Quotations;", Cond.methodLink RX10 128 yX9_at, Cond.instanceMethod yX9_at, Cond.selects RX9 yX9_at yX9_at, Cond.initialized RX9, Cond.code yX9_at cX9_at 3 (some (.object "PamphletQuarrel$Pamphlet")), Cond.fieldLink RX9 11 "PamphletQuarrel$State" "printed" "[LPamphletQuarrel$Pamphlet;", Cond.fieldLink RX9 18 "PamphletQuarrel$State" "blank" "LPamphletQuarrel$Pamphlet;", Cond.methodLink RX10 253 yX5_faithfulIn, Cond.instanceMethod yX5_faithfulIn, Cond.selects RX5 yX5_faithfulIn yX5_faithfulIn, Cond.initialized RX5, Cond.code yX5_faithfulIn cX5_faithfulIn 6 (some .int), Cond.methodLink RX5 18 yX9_at, Cond.methodLink RX5 51 yX5_find, Cond.instanceMethod yX5_find, Cond.selects RX5 yX5_find yX5_find, Cond.code yX5_find cX5_find 5 (some .int), Cond.fieldLink RX5 12 "PamphletQuarrel$Quotations" "search" "LPamphletQuarrel$Search;", Cond.methodLink RX5 30 yX7_number, Cond.instanceMethod yX7_number, Cond.selects RX7 yX7_number yX7_number, Cond.initialized RX7]
def wsX10_faithfulShare_r2 : List Cond := [Cond.code yX7_number cX7_number 2 (some .int), Cond.fieldLink RX7 13 "PamphletQuarrel$Row" "cells" "[J", Cond.methodLink RX5 36 yX8_byTable, Cond.instanceMethod yX8_byTable, Cond.selects RX8 yX8_byTable yX8_byTable, Cond.initialized RX8, Cond.code yX8_byTable cX8_byTable 7 none, Cond.fieldLink RX8 14 "PamphletQuarrel$Search" "cells" "LPamphletQuarrel$Row;", Cond.methodLink RX8 25 yX7_number, Cond.methodLink RX8 36 yX7_put, Cond.instanceMethod yX7_put, Cond.selects RX7 yX7_put yX7_put, Cond.code yX7_put cX7_put 4 none, Cond.methodLink RX8 43 yX7_at, Cond.instanceMethod yX7_at, Cond.selects RX7 yX7_at yX7_at, Cond.code yX7_at cX7_at 2 (some .long), Cond.methodLink RX8 47 yX8_takeWord, Cond.instanceMethod yX8_takeWord, Cond.selects RX8 yX8_takeWord yX8_takeWord, Cond.code yX8_takeWord cX8_takeWord 11 none, Cond.methodLink RX8 67 Lib.Math.min.name, Cond.static Lib.Math.min.name, Cond.initialized "java/lang/Math"]
def wsX10_faithfulShare_r3 : List Cond := [Cond.code Lib.Math.min.name Lib.Math.min.code 2 (some .int), Cond.methodLink RX8 51 yX8_chooseEnd, Cond.instanceMethod yX8_chooseEnd, Cond.selects RX8 yX8_chooseEnd yX8_chooseEnd, Cond.code yX8_chooseEnd cX8_chooseEnd 4 none, Cond.fieldLink RX8 54 "PamphletQuarrel$Search" "changes" "I", Cond.fieldLink RX8 57 "PamphletQuarrel$Search" "begin" "I", Cond.fieldLink RX8 60 "PamphletQuarrel$Search" "length" "I"]
def wsX10_faithfulShare : List Cond := .code yX10_faithfulShare cX10_faithfulShare 4 (some .double) :: ((wsX10_faithfulShare_r1 ++ (wsX10_faithfulShare_r2 ++ wsX10_faithfulShare_r3)) ++ wsX100 ++ wsX90 ++ wsX40 ++ wsX50 ++ wsX80 ++ wsX70)
def wsX10_answers_r1 : List Cond := [Cond.fieldLink RX10 10 "PamphletQuarrel" "state" "LPamphletQuarrel$State;", Cond.methodLink RX10 139 yX10_needPamphlet, Cond.instanceMethod yX10_needPamphlet, Cond.selects RX10 yX10_needPamphlet yX10_needPamphlet, Cond.initialized RX10, Cond.code yX10_needPamphlet cX10_needPamphlet 2 none, Cond.classLink RX10 152 "java/lang/IndexOutOfBoundsException", Cond.initialized "java/lang/IndexOutOfBoundsException", Cond.methodLink RX10 315 yX9_has, Cond.instanceMethod yX9_has, Cond.selects RX9 yX9_has yX9_has, Cond.initialized RX9, Cond.code yX9_has cX9_has 2 (some .boolean), Cond.fieldLink RX9 22 "PamphletQuarrel$State" "count" "I", Cond.methodLink RX10 128 yX9_at, Cond.instanceMethod yX9_at, Cond.selects RX9 yX9_at yX9_at, Cond.code yX9_at cX9_at 3 (some (.object "PamphletQuarrel$Pamphlet")), Cond.fieldLink RX9 11 "PamphletQuarrel$State" "printed" "[LPamphletQuarrel$Pamphlet;", Cond.fieldLink RX9 18 "PamphletQuarrel$State" "blank" "LPamphletQuarrel$Pamphlet;", Cond.methodLink RX10 256 yX4_quotes, Cond.instanceMethod yX4_quotes, Cond.selects RX4 yX4_quotes yX4_quotes, Cond.initialized RX4]
def wsX10_answers_r2 : List Cond := [Cond.code yX4_quotes cX4_quotes 3 (some .boolean), Cond.fieldLink RX4 39 "PamphletQuarrel$Pamphlet" "quotationCount" "I", Cond.fieldLink RX4 20 "PamphletQuarrel$Pamphlet" "sources" "LPamphletQuarrel$Row;", Cond.methodLink RX4 50 yX7_number, Cond.instanceMethod yX7_number, Cond.selects RX7 yX7_number yX7_number, Cond.initialized RX7, Cond.code yX7_number cX7_number 2 (some .int), Cond.fieldLink RX7 13 "PamphletQuarrel$Row" "cells" "[J"]
def wsX10_answers : List Cond := .code yX10_answers cX10_answers 3 (some .boolean) :: ((wsX10_answers_r1 ++ wsX10_answers_r2) ++ wsX100 ++ wsX90 ++ wsX40 ++ wsX70 ++ (vx_atS RX10 156 "java/lang/IndexOutOfBoundsException" ["java/lang/RuntimeException", "java/lang/Exception"]).filter goodWord)
def wsX10_ladderOf_r1 : List Cond := [Cond.fieldLink RX10 47 "PamphletQuarrel" "ladders" "LPamphletQuarrel$Ladders;", Cond.fieldLink RX10 10 "PamphletQuarrel" "state" "LPamphletQuarrel$State;", Cond.methodLink RX10 139 yX10_needPamphlet, Cond.instanceMethod yX10_needPamphlet, Cond.selects RX10 yX10_needPamphlet yX10_needPamphlet, Cond.initialized RX10, Cond.code yX10_needPamphlet cX10_needPamphlet 2 none, Cond.classLink RX10 152 "java/lang/IndexOutOfBoundsException", Cond.initialized "java/lang/IndexOutOfBoundsException", Cond.methodLink RX10 315 yX9_has, Cond.instanceMethod yX9_has, Cond.selects RX9 yX9_has yX9_has, Cond.initialized RX9, Cond.code yX9_has cX9_has 2 (some .boolean), Cond.fieldLink RX9 22 "PamphletQuarrel$State" "count" "I", Cond.methodLink RX10 259 yX3_longest, Cond.instanceMethod yX3_longest, Cond.selects RX3 yX3_longest yX3_longest, Cond.initialized RX3, Cond.code yX3_longest cX3_longest 6 (some .int), Cond.fieldLink RX3 14 "PamphletQuarrel$Ladders" "tallies" "LPamphletQuarrel$Row;", Cond.methodLink RX3 36 Lib.Math.max.name, Cond.static Lib.Math.max.name, Cond.initialized "java/lang/Math"]
def wsX10_ladderOf_r2 : List Cond := [Cond.code Lib.Math.max.name Lib.Math.max.code 2 (some .int), Cond.methodLink RX3 20 yX9_at, Cond.instanceMethod yX9_at, Cond.selects RX9 yX9_at yX9_at, Cond.code yX9_at cX9_at 3 (some (.object "PamphletQuarrel$Pamphlet")), Cond.fieldLink RX9 11 "PamphletQuarrel$State" "printed" "[LPamphletQuarrel$Pamphlet;", Cond.fieldLink RX9 18 "PamphletQuarrel$State" "blank" "LPamphletQuarrel$Pamphlet;", Cond.methodLink RX3 26 yX4_quotes, Cond.instanceMethod yX4_quotes, Cond.selects RX4 yX4_quotes yX4_quotes, Cond.initialized RX4, Cond.code yX4_quotes cX4_quotes 3 (some .boolean), Cond.fieldLink RX4 39 "PamphletQuarrel$Pamphlet" "quotationCount" "I", Cond.fieldLink RX4 20 "PamphletQuarrel$Pamphlet" "sources" "LPamphletQuarrel$Row;", Cond.methodLink RX4 50 yX7_number, Cond.instanceMethod yX7_number, Cond.selects RX7 yX7_number yX7_number, Cond.initialized RX7, Cond.code yX7_number cX7_number 2 (some .int), Cond.fieldLink RX7 13 "PamphletQuarrel$Row" "cells" "[J", Cond.methodLink RX3 32 yX7_number, Cond.methodLink RX3 42 yX7_put, Cond.instanceMethod yX7_put, Cond.selects RX7 yX7_put yX7_put]
def wsX10_ladderOf_r3 : List Cond := [Cond.code yX7_put cX7_put 4 none]
def wsX10_ladderOf : List Cond := .code yX10_ladderOf cX10_ladderOf 2 (some .int) :: ((wsX10_ladderOf_r1 ++ (wsX10_ladderOf_r2 ++ wsX10_ladderOf_r3)) ++ wsX100 ++ wsX90 ++ wsX30 ++ wsX40 ++ wsX70 ++ (vx_atS RX10 156 "java/lang/IndexOutOfBoundsException" ["java/lang/RuntimeException", "java/lang/Exception"]).filter goodWord)
def wsX10_laddersOf_r1 : List Cond := [Cond.fieldLink RX10 47 "PamphletQuarrel" "ladders" "LPamphletQuarrel$Ladders;", Cond.fieldLink RX10 10 "PamphletQuarrel" "state" "LPamphletQuarrel$State;", Cond.methodLink RX10 139 yX10_needPamphlet, Cond.instanceMethod yX10_needPamphlet, Cond.selects RX10 yX10_needPamphlet yX10_needPamphlet, Cond.initialized RX10, Cond.code yX10_needPamphlet cX10_needPamphlet 2 none, Cond.classLink RX10 152 "java/lang/IndexOutOfBoundsException", Cond.initialized "java/lang/IndexOutOfBoundsException", Cond.methodLink RX10 315 yX9_has, Cond.instanceMethod yX9_has, Cond.selects RX9 yX9_has yX9_has, Cond.initialized RX9, Cond.code yX9_has cX9_has 2 (some .boolean), Cond.fieldLink RX9 22 "PamphletQuarrel$State" "count" "I", Cond.methodLink RX10 262 yX3_fromTheGround, Cond.instanceMethod yX3_fromTheGround, Cond.selects RX3 yX3_fromTheGround yX3_fromTheGround, Cond.initialized RX3, Cond.code yX3_fromTheGround cX3_fromTheGround 6 (some .int), Cond.fieldLink RX3 14 "PamphletQuarrel$Ladders" "tallies" "LPamphletQuarrel$Row;", Cond.methodLink RX3 20 yX9_at, Cond.instanceMethod yX9_at, Cond.selects RX9 yX9_at yX9_at]
def wsX10_laddersOf_r2 : List Cond := [Cond.code yX9_at cX9_at 3 (some (.object "PamphletQuarrel$Pamphlet")), Cond.fieldLink RX9 11 "PamphletQuarrel$State" "printed" "[LPamphletQuarrel$Pamphlet;", Cond.fieldLink RX9 18 "PamphletQuarrel$State" "blank" "LPamphletQuarrel$Pamphlet;", Cond.methodLink RX3 26 yX4_quotes, Cond.instanceMethod yX4_quotes, Cond.selects RX4 yX4_quotes yX4_quotes, Cond.initialized RX4, Cond.code yX4_quotes cX4_quotes 3 (some .boolean), Cond.fieldLink RX4 39 "PamphletQuarrel$Pamphlet" "quotationCount" "I", Cond.fieldLink RX4 20 "PamphletQuarrel$Pamphlet" "sources" "LPamphletQuarrel$Row;", Cond.methodLink RX4 50 yX7_number, Cond.instanceMethod yX7_number, Cond.selects RX7 yX7_number yX7_number, Cond.initialized RX7, Cond.code yX7_number cX7_number 2 (some .int), Cond.fieldLink RX7 13 "PamphletQuarrel$Row" "cells" "[J", Cond.methodLink RX3 32 yX7_number, Cond.methodLink RX3 42 yX7_put, Cond.instanceMethod yX7_put, Cond.selects RX7 yX7_put yX7_put, Cond.code yX7_put cX7_put 4 none]
def wsX10_laddersOf : List Cond := .code yX10_laddersOf cX10_laddersOf 2 (some .int) :: ((wsX10_laddersOf_r1 ++ wsX10_laddersOf_r2) ++ wsX100 ++ wsX90 ++ wsX30 ++ wsX40 ++ wsX70 ++ (vx_atS RX10 156 "java/lang/IndexOutOfBoundsException" ["java/lang/RuntimeException", "java/lang/Exception"]).filter goodWord)
def wsX10_readingOf_r1 : List Cond := [Cond.fieldLink RX10 47 "PamphletQuarrel" "ladders" "LPamphletQuarrel$Ladders;", Cond.fieldLink RX10 10 "PamphletQuarrel" "state" "LPamphletQuarrel$State;", Cond.methodLink RX10 139 yX10_needPamphlet, Cond.instanceMethod yX10_needPamphlet, Cond.selects RX10 yX10_needPamphlet yX10_needPamphlet, Cond.initialized RX10, Cond.code yX10_needPamphlet cX10_needPamphlet 2 none, Cond.classLink RX10 152 "java/lang/IndexOutOfBoundsException", Cond.initialized "java/lang/IndexOutOfBoundsException", Cond.methodLink RX10 315 yX9_has, Cond.instanceMethod yX9_has, Cond.selects RX9 yX9_has yX9_has, Cond.initialized RX9, Cond.code yX9_has cX9_has 2 (some .boolean), Cond.fieldLink RX9 22 "PamphletQuarrel$State" "count" "I", Cond.methodLink RX10 265 yX3_gatherReading, Cond.instanceMethod yX3_gatherReading, Cond.selects RX3 yX3_gatherReading yX3_gatherReading, Cond.initialized RX3, Cond.code yX3_gatherReading cX3_gatherReading 5 (some .int), Cond.fieldLink RX3 14 "PamphletQuarrel$Ladders" "tallies" "LPamphletQuarrel$Row;", Cond.methodLink RX3 42 yX7_put, Cond.instanceMethod yX7_put, Cond.selects RX7 yX7_put yX7_put]
def wsX10_readingOf_r2 : List Cond := [Cond.initialized RX7, Cond.code yX7_put cX7_put 4 none, Cond.fieldLink RX7 13 "PamphletQuarrel$Row" "cells" "[J", Cond.methodLink RX3 32 yX7_number, Cond.instanceMethod yX7_number, Cond.selects RX7 yX7_number yX7_number, Cond.code yX7_number cX7_number 2 (some .int), Cond.methodLink RX3 20 yX9_at, Cond.instanceMethod yX9_at, Cond.selects RX9 yX9_at yX9_at, Cond.code yX9_at cX9_at 3 (some (.object "PamphletQuarrel$Pamphlet")), Cond.fieldLink RX9 11 "PamphletQuarrel$State" "printed" "[LPamphletQuarrel$Pamphlet;", Cond.fieldLink RX9 18 "PamphletQuarrel$State" "blank" "LPamphletQuarrel$Pamphlet;", Cond.methodLink RX3 50 yX3_markSources, Cond.instanceMethod yX3_markSources, Cond.selects RX3 yX3_markSources yX3_markSources, Cond.code yX3_markSources cX3_markSources 3 none]
def wsX10_readingOf : List Cond := .code yX10_readingOf cX10_readingOf 2 (some .int) :: ((wsX10_readingOf_r1 ++ wsX10_readingOf_r2) ++ wsX100 ++ wsX90 ++ wsX30 ++ wsX70 ++ wsX40 ++ (vx_atS RX10 156 "java/lang/IndexOutOfBoundsException" ["java/lang/RuntimeException", "java/lang/Exception"]).filter goodWord)
def wsX10_needPlace : List Cond := .code yX10_needPlace cX10_needPlace 2 none :: ([.classLink RX10 152 "java/lang/IndexOutOfBoundsException", .initialized "java/lang/IndexOutOfBoundsException"] ++ (vx_atS RX10 156 "java/lang/IndexOutOfBoundsException" ["java/lang/RuntimeException", "java/lang/Exception"]).filter goodWord)
def wsX10_readAt_r1 : List Cond := [Cond.fieldLink RX10 47 "PamphletQuarrel" "ladders" "LPamphletQuarrel$Ladders;", Cond.fieldLink RX10 10 "PamphletQuarrel" "state" "LPamphletQuarrel$State;", Cond.methodLink RX10 139 yX10_needPamphlet, Cond.instanceMethod yX10_needPamphlet, Cond.selects RX10 yX10_needPamphlet yX10_needPamphlet, Cond.initialized RX10, Cond.code yX10_needPamphlet cX10_needPamphlet 2 none, Cond.classLink RX10 152 "java/lang/IndexOutOfBoundsException", Cond.initialized "java/lang/IndexOutOfBoundsException", Cond.methodLink RX10 315 yX9_has, Cond.instanceMethod yX9_has, Cond.selects RX9 yX9_has yX9_has, Cond.initialized RX9, Cond.code yX9_has cX9_has 2 (some .boolean), Cond.fieldLink RX9 22 "PamphletQuarrel$State" "count" "I", Cond.methodLink RX10 265 yX3_gatherReading, Cond.instanceMethod yX3_gatherReading, Cond.selects RX3 yX3_gatherReading yX3_gatherReading, Cond.initialized RX3, Cond.code yX3_gatherReading cX3_gatherReading 5 (some .int), Cond.fieldLink RX3 14 "PamphletQuarrel$Ladders" "tallies" "LPamphletQuarrel$Row;", Cond.methodLink RX3 42 yX7_put, Cond.instanceMethod yX7_put, Cond.selects RX7 yX7_put yX7_put]
def wsX10_readAt_r2 : List Cond := [Cond.initialized RX7, Cond.code yX7_put cX7_put 4 none, Cond.fieldLink RX7 13 "PamphletQuarrel$Row" "cells" "[J", Cond.methodLink RX3 32 yX7_number, Cond.instanceMethod yX7_number, Cond.selects RX7 yX7_number yX7_number, Cond.code yX7_number cX7_number 2 (some .int), Cond.methodLink RX3 20 yX9_at, Cond.instanceMethod yX9_at, Cond.selects RX9 yX9_at yX9_at, Cond.code yX9_at cX9_at 3 (some (.object "PamphletQuarrel$Pamphlet")), Cond.fieldLink RX9 11 "PamphletQuarrel$State" "printed" "[LPamphletQuarrel$Pamphlet;", Cond.fieldLink RX9 18 "PamphletQuarrel$State" "blank" "LPamphletQuarrel$Pamphlet;", Cond.methodLink RX3 50 yX3_markSources, Cond.instanceMethod yX3_markSources, Cond.selects RX3 yX3_markSources yX3_markSources, Cond.code yX3_markSources cX3_markSources 3 none, Cond.methodLink RX10 268 yX10_needPlace, Cond.static yX10_needPlace, Cond.code yX10_needPlace cX10_needPlace 2 none, Cond.methodLink RX10 271 yX3_readIn, Cond.instanceMethod yX3_readIn, Cond.selects RX3 yX3_readIn yX3_readIn, Cond.code yX3_readIn cX3_readIn 4 (some .int)]
def wsX10_readAt : List Cond := .code yX10_readAt cX10_readAt 3 (some .int) :: ((wsX10_readAt_r1 ++ wsX10_readAt_r2) ++ wsX100 ++ wsX90 ++ wsX30 ++ wsX70 ++ wsX40 ++ (vx_atS RX10 156 "java/lang/IndexOutOfBoundsException" ["java/lang/RuntimeException", "java/lang/Exception"]).filter goodWord)
def wsX10_glossary_r1 : List Cond := [Cond.fieldLink RX10 54 "PamphletQuarrel" "glossary" "LPamphletQuarrel$Glossary;", Cond.fieldLink RX10 10 "PamphletQuarrel" "state" "LPamphletQuarrel$State;", Cond.methodLink RX10 274 yX1_gather, Cond.instanceMethod yX1_gather, Cond.selects RX1 yX1_gather yX1_gather, Cond.initialized RX1, Cond.code yX1_gather cX1_gather 5 none, Cond.fieldLink RX1 23 "PamphletQuarrel$Glossary" "size" "I", Cond.methodLink RX1 32 yX9_at, Cond.instanceMethod yX9_at, Cond.selects RX9 yX9_at yX9_at, Cond.initialized RX9, Cond.code yX9_at cX9_at 3 (some (.object "PamphletQuarrel$Pamphlet")), Cond.fieldLink RX9 11 "PamphletQuarrel$State" "printed" "[LPamphletQuarrel$Pamphlet;", Cond.fieldLink RX9 18 "PamphletQuarrel$State" "blank" "LPamphletQuarrel$Pamphlet;", Cond.methodLink RX1 44 yX7_at, Cond.instanceMethod yX7_at, Cond.selects RX7 yX7_at yX7_at, Cond.initialized RX7, Cond.code yX7_at cX7_at 2 (some .long), Cond.fieldLink RX7 13 "PamphletQuarrel$Row" "cells" "[J", Cond.methodLink RX1 47 yX1_count, Cond.instanceMethod yX1_count, Cond.selects RX1 yX1_count yX1_count]
def wsX10_glossary_r2 : List Cond := [Cond.code yX1_count cX1_count 4 none, Cond.fieldLink RX1 14 "PamphletQuarrel$Glossary" "entries" "LPamphletQuarrel$Row;", Cond.fieldLink RX1 20 "PamphletQuarrel$Glossary" "times" "LPamphletQuarrel$Row;", Cond.methodLink RX1 53 yX7_put, Cond.instanceMethod yX7_put, Cond.selects RX7 yX7_put yX7_put, Cond.code yX7_put cX7_put 4 none, Cond.methodLink RX1 57 yX7_number, Cond.instanceMethod yX7_number, Cond.selects RX7 yX7_number yX7_number, Cond.code yX7_number cX7_number 2 (some .int), Cond.methodLink RX1 50 yX1_moveForward, Cond.instanceMethod yX1_moveForward, Cond.selects RX1 yX1_moveForward yX1_moveForward, Cond.code yX1_moveForward cX1_moveForward 6 none, Cond.methodLink RX1 61 yX1_isBefore, Cond.instanceMethod yX1_isBefore, Cond.selects RX1 yX1_isBefore yX1_isBefore, Cond.code yX1_isBefore cX1_isBefore 6 (some .boolean)]
def wsX10_glossary : List Cond := .code yX10_glossary cX10_glossary 1 (some .int) :: ((wsX10_glossary_r1 ++ wsX10_glossary_r2) ++ wsX100 ++ wsX10 ++ wsX90 ++ wsX40 ++ wsX70)
def wsX10_timesOf_r1 : List Cond := [Cond.fieldLink RX10 54 "PamphletQuarrel" "glossary" "LPamphletQuarrel$Glossary;", Cond.fieldLink RX10 10 "PamphletQuarrel" "state" "LPamphletQuarrel$State;", Cond.methodLink RX10 274 yX1_gather, Cond.instanceMethod yX1_gather, Cond.selects RX1 yX1_gather yX1_gather, Cond.initialized RX1, Cond.code yX1_gather cX1_gather 5 none, Cond.fieldLink RX1 23 "PamphletQuarrel$Glossary" "size" "I", Cond.methodLink RX1 32 yX9_at, Cond.instanceMethod yX9_at, Cond.selects RX9 yX9_at yX9_at, Cond.initialized RX9, Cond.code yX9_at cX9_at 3 (some (.object "PamphletQuarrel$Pamphlet")), Cond.fieldLink RX9 11 "PamphletQuarrel$State" "printed" "[LPamphletQuarrel$Pamphlet;", Cond.fieldLink RX9 18 "PamphletQuarrel$State" "blank" "LPamphletQuarrel$Pamphlet;", Cond.methodLink RX1 44 yX7_at, Cond.instanceMethod yX7_at, Cond.selects RX7 yX7_at yX7_at, Cond.initialized RX7, Cond.code yX7_at cX7_at 2 (some .long), Cond.fieldLink RX7 13 "PamphletQuarrel$Row" "cells" "[J", Cond.methodLink RX1 47 yX1_count, Cond.instanceMethod yX1_count, Cond.selects RX1 yX1_count yX1_count]
def wsX10_timesOf_r2 : List Cond := [Cond.code yX1_count cX1_count 4 none, Cond.fieldLink RX1 14 "PamphletQuarrel$Glossary" "entries" "LPamphletQuarrel$Row;", Cond.fieldLink RX1 20 "PamphletQuarrel$Glossary" "times" "LPamphletQuarrel$Row;", Cond.methodLink RX1 53 yX7_put, Cond.instanceMethod yX7_put, Cond.selects RX7 yX7_put yX7_put, Cond.code yX7_put cX7_put 4 none, Cond.methodLink RX1 57 yX7_number, Cond.instanceMethod yX7_number, Cond.selects RX7 yX7_number yX7_number, Cond.code yX7_number cX7_number 2 (some .int), Cond.methodLink RX1 50 yX1_moveForward, Cond.instanceMethod yX1_moveForward, Cond.selects RX1 yX1_moveForward yX1_moveForward, Cond.code yX1_moveForward cX1_moveForward 6 none, Cond.methodLink RX1 61 yX1_isBefore, Cond.instanceMethod yX1_isBefore, Cond.selects RX1 yX1_isBefore yX1_isBefore, Cond.code yX1_isBefore cX1_isBefore 6 (some .boolean), Cond.methodLink RX10 268 yX10_needPlace, Cond.static yX10_needPlace, Cond.initialized RX10, Cond.code yX10_needPlace cX10_needPlace 2 none, Cond.classLink RX10 152 "java/lang/IndexOutOfBoundsException"]
def wsX10_timesOf_r3 : List Cond := [Cond.initialized "java/lang/IndexOutOfBoundsException", Cond.methodLink RX10 203 yX7_number]
def wsX10_timesOf : List Cond := .code yX10_timesOf cX10_timesOf 2 (some .int) :: ((wsX10_timesOf_r1 ++ (wsX10_timesOf_r2 ++ wsX10_timesOf_r3)) ++ wsX100 ++ wsX10 ++ wsX90 ++ wsX40 ++ wsX70 ++ (vx_atS RX10 156 "java/lang/IndexOutOfBoundsException" ["java/lang/RuntimeException", "java/lang/Exception"]).filter goodWord)
def wsX10_glossaryLetter_r1 : List Cond := [Cond.fieldLink RX10 54 "PamphletQuarrel" "glossary" "LPamphletQuarrel$Glossary;", Cond.fieldLink RX10 10 "PamphletQuarrel" "state" "LPamphletQuarrel$State;", Cond.methodLink RX10 274 yX1_gather, Cond.instanceMethod yX1_gather, Cond.selects RX1 yX1_gather yX1_gather, Cond.initialized RX1, Cond.code yX1_gather cX1_gather 5 none, Cond.fieldLink RX1 23 "PamphletQuarrel$Glossary" "size" "I", Cond.methodLink RX1 32 yX9_at, Cond.instanceMethod yX9_at, Cond.selects RX9 yX9_at yX9_at, Cond.initialized RX9, Cond.code yX9_at cX9_at 3 (some (.object "PamphletQuarrel$Pamphlet")), Cond.fieldLink RX9 11 "PamphletQuarrel$State" "printed" "[LPamphletQuarrel$Pamphlet;", Cond.fieldLink RX9 18 "PamphletQuarrel$State" "blank" "LPamphletQuarrel$Pamphlet;", Cond.methodLink RX1 44 yX7_at, Cond.instanceMethod yX7_at, Cond.selects RX7 yX7_at yX7_at, Cond.initialized RX7, Cond.code yX7_at cX7_at 2 (some .long), Cond.fieldLink RX7 13 "PamphletQuarrel$Row" "cells" "[J", Cond.methodLink RX1 47 yX1_count, Cond.instanceMethod yX1_count, Cond.selects RX1 yX1_count yX1_count]
def wsX10_glossaryLetter_r2 : List Cond := [Cond.code yX1_count cX1_count 4 none, Cond.fieldLink RX1 14 "PamphletQuarrel$Glossary" "entries" "LPamphletQuarrel$Row;", Cond.fieldLink RX1 20 "PamphletQuarrel$Glossary" "times" "LPamphletQuarrel$Row;", Cond.methodLink RX1 53 yX7_put, Cond.instanceMethod yX7_put, Cond.selects RX7 yX7_put yX7_put, Cond.code yX7_put cX7_put 4 none, Cond.methodLink RX1 57 yX7_number, Cond.instanceMethod yX7_number, Cond.selects RX7 yX7_number yX7_number, Cond.code yX7_number cX7_number 2 (some .int), Cond.methodLink RX1 50 yX1_moveForward, Cond.instanceMethod yX1_moveForward, Cond.selects RX1 yX1_moveForward yX1_moveForward, Cond.code yX1_moveForward cX1_moveForward 6 none, Cond.methodLink RX1 61 yX1_isBefore, Cond.instanceMethod yX1_isBefore, Cond.selects RX1 yX1_isBefore yX1_isBefore, Cond.code yX1_isBefore cX1_isBefore 6 (some .boolean), Cond.methodLink RX10 268 yX10_needPlace, Cond.static yX10_needPlace, Cond.initialized RX10, Cond.code yX10_needPlace cX10_needPlace 2 none, Cond.classLink RX10 152 "java/lang/IndexOutOfBoundsException"]
def wsX10_glossaryLetter_r3 : List Cond := [Cond.initialized "java/lang/IndexOutOfBoundsException", Cond.methodLink RX10 166 yX10_needIndex, Cond.static yX10_needIndex, Cond.code yX10_needIndex cX10_needIndex 1 none, Cond.methodLink RX10 173 yX7_at, Cond.methodLink RX10 178 yX10_letterIn, Cond.static yX10_letterIn, Cond.code yX10_letterIn cX10_letterIn 4 (some .int)]
def wsX10_glossaryLetter : List Cond := .code yX10_glossaryLetter cX10_glossaryLetter 3 (some .int) :: ((wsX10_glossaryLetter_r1 ++ (wsX10_glossaryLetter_r2 ++ wsX10_glossaryLetter_r3)) ++ wsX100 ++ wsX10 ++ wsX90 ++ wsX40 ++ wsX70 ++ (vx_atS RX10 156 "java/lang/IndexOutOfBoundsException" ["java/lang/RuntimeException", "java/lang/Exception"]).filter goodWord)
def wsX10_append : List Cond := .code yX10_append cX10_append 2 (some .int) :: ([.classLink RX10 62 "java/lang/IllegalArgumentException", .initialized "java/lang/IllegalArgumentException", .classLink RX10 73 "java/lang/IllegalStateException", .initialized "java/lang/IllegalStateException", .fieldLink RX10 26 "PamphletQuarrel" "buffer" "LPamphletQuarrel$Buffer;", .methodLink RX10 290 yX0_add, .instanceMethod yX0_add, .selects RX0 yX0_add yX0_add, .initialized RX0, .code yX0_add cX0_add 2 none, .fieldLink RX0 14 "PamphletQuarrel$Buffer" "codes" "LPamphletQuarrel$Row;", .fieldLink RX0 20 "PamphletQuarrel$Buffer" "length" "I", .methodLink RX0 24 yX7_put, .instanceMethod yX7_put, .selects RX7 yX7_put yX7_put, .initialized RX7, .code yX7_put cX7_put 4 none, .fieldLink RX7 13 "PamphletQuarrel$Row" "cells" "[J"] ++ wsX100 ++ wsX00 ++ wsX70 ++ (vx_atS RX10 66 "java/lang/IllegalArgumentException" ["java/lang/RuntimeException", "java/lang/Exception"]).filter goodWord ++ (vx_atS RX10 77 "java/lang/IllegalStateException" ["java/lang/RuntimeException", "java/lang/Exception"]).filter goodWord)
def wsX10_clearText : List Cond := .code yX10_clearText cX10_clearText 2 (some .int) :: ([.fieldLink RX10 26 "PamphletQuarrel" "buffer" "LPamphletQuarrel$Buffer;"] ++ wsX100 ++ wsX00)
def wsX10_errorPosition_r1 : List Cond := [Cond.fieldLink RX10 33 "PamphletQuarrel" "reader" "LPamphletQuarrel$Reader;", Cond.fieldLink RX10 26 "PamphletQuarrel" "buffer" "LPamphletQuarrel$Buffer;", Cond.methodLink RX10 182 yX6_read, Cond.instanceMethod yX6_read, Cond.selects RX6 yX6_read yX6_read, Cond.initialized RX6, Cond.code yX6_read cX6_read 3 none, Cond.fieldLink RX6 12 "PamphletQuarrel$Reader" "text" "LPamphletQuarrel$Pamphlet;", Cond.fieldLink RX6 21 "PamphletQuarrel$Reader" "position" "I", Cond.fieldLink RX6 25 "PamphletQuarrel$Reader" "place" "I", Cond.methodLink RX6 18 yX4_empty, Cond.instanceMethod yX4_empty, Cond.selects RX4 yX4_empty yX4_empty, Cond.initialized RX4, Cond.code yX4_empty cX4_empty 1 none, Cond.fieldLink RX4 36 "PamphletQuarrel$Pamphlet" "wordCount" "I", Cond.fieldLink RX4 39 "PamphletQuarrel$Pamphlet" "quotationCount" "I", Cond.methodLink RX6 37 yX7_number, Cond.instanceMethod yX7_number, Cond.selects RX7 yX7_number yX7_number, Cond.initialized RX7, Cond.code yX7_number cX7_number 2 (some .int), Cond.fieldLink RX7 13 "PamphletQuarrel$Row" "cells" "[J", Cond.methodLink RX6 43 yX6_placeAfter]
def wsX10_errorPosition_r2 : List Cond := [Cond.instanceMethod yX6_placeAfter, Cond.selects RX6 yX6_placeAfter yX6_placeAfter, Cond.code yX6_placeAfter cX6_placeAfter 2 (some .int), Cond.methodLink RX6 46 yX6_afterOpening, Cond.instanceMethod yX6_afterOpening, Cond.selects RX6 yX6_afterOpening yX6_afterOpening, Cond.code yX6_afterOpening cX6_afterOpening 1 (some .int), Cond.fieldLink RX6 66 "PamphletQuarrel$Reader" "begin" "I", Cond.methodLink RX6 50 yX6_afterFirstLetter, Cond.instanceMethod yX6_afterFirstLetter, Cond.selects RX6 yX6_afterFirstLetter yX6_afterFirstLetter, Cond.code yX6_afterFirstLetter cX6_afterFirstLetter 3 (some .int), Cond.fieldLink RX6 77 "PamphletQuarrel$Reader" "letters" "I", Cond.static yX10_withLetter, Cond.initialized RX10, Cond.code yX10_withLetter cX10_withLetter 4 (some .long), Cond.methodLink RX6 73 yX4_addWord, Cond.instanceMethod yX4_addWord, Cond.selects RX4 yX4_addWord yX4_addWord, Cond.code yX4_addWord cX4_addWord 3 none, Cond.fieldLink RX4 14 "PamphletQuarrel$Pamphlet" "words" "LPamphletQuarrel$Row;", Cond.methodLink RX4 46 yX7_put, Cond.instanceMethod yX7_put, Cond.selects RX7 yX7_put yX7_put]
def wsX10_errorPosition_r3 : List Cond := [Cond.code yX7_put cX7_put 4 none, Cond.methodLink RX6 54 yX6_afterLetter, Cond.instanceMethod yX6_afterLetter, Cond.selects RX6 yX6_afterLetter yX6_afterLetter, Cond.code yX6_afterLetter cX6_afterLetter 3 (some .int), Cond.methodLink RX6 83 yX7_at, Cond.instanceMethod yX7_at, Cond.selects RX7 yX7_at yX7_at, Cond.code yX7_at cX7_at 2 (some .long), Cond.methodLink RX6 87 yX7_put, Cond.methodLink RX6 57 yX6_afterFirstDigit, Cond.instanceMethod yX6_afterFirstDigit, Cond.selects RX6 yX6_afterFirstDigit yX6_afterFirstDigit, Cond.code yX6_afterFirstDigit cX6_afterFirstDigit 2 (some .int), Cond.methodLink RX6 91 yX4_addQuotation, Cond.instanceMethod yX4_addQuotation, Cond.selects RX4 yX4_addQuotation yX4_addQuotation, Cond.code yX4_addQuotation cX4_addQuotation 3 none, Cond.fieldLink RX4 20 "PamphletQuarrel$Pamphlet" "sources" "LPamphletQuarrel$Row;", Cond.fieldLink RX4 23 "PamphletQuarrel$Pamphlet" "begins" "LPamphletQuarrel$Row;", Cond.fieldLink RX4 26 "PamphletQuarrel$Pamphlet" "lengths" "LPamphletQuarrel$Row;", Cond.methodLink RX6 60 yX6_afterSecondDigit, Cond.instanceMethod yX6_afterSecondDigit, Cond.selects RX6 yX6_afterSecondDigit yX6_afterSecondDigit]
def wsX10_errorPosition_r4 : List Cond := [Cond.code yX6_afterSecondDigit cX6_afterSecondDigit 2 (some .int)]
def wsX10_errorPosition : List Cond := .code yX10_errorPosition cX10_errorPosition 1 (some .int) :: ((wsX10_errorPosition_r1 ++ (wsX10_errorPosition_r2 ++ (wsX10_errorPosition_r3 ++ wsX10_errorPosition_r4))) ++ wsX100 ++ wsX60 ++ wsX00 ++ wsX40 ++ wsX70)
def wsX10_undo_r1 : List Cond := [Cond.classLink RX10 73 "java/lang/IllegalStateException", Cond.initialized "java/lang/IllegalStateException", Cond.fieldLink RX10 19 "PamphletQuarrel" "history" "LPamphletQuarrel$History;", Cond.fieldLink RX10 10 "PamphletQuarrel" "state" "LPamphletQuarrel$State;", Cond.methodLink RX10 298 yX2_takeBack, Cond.instanceMethod yX2_takeBack, Cond.selects RX2 yX2_takeBack yX2_takeBack, Cond.initialized RX2, Cond.code yX2_takeBack cX2_takeBack 3 none, Cond.fieldLink RX2 26 "PamphletQuarrel$History" "size" "I", Cond.methodLink RX2 29 yX2_slot, Cond.instanceMethod yX2_slot, Cond.selects RX2 yX2_slot yX2_slot, Cond.code yX2_slot cX2_slot 3 (some (.object "PamphletQuarrel$State")), Cond.fieldLink RX2 22 "PamphletQuarrel$History" "oldest" "I", Cond.fieldLink RX2 11 "PamphletQuarrel$History" "saved" "[LPamphletQuarrel$State;", Cond.methodLink RX2 33 yX9_copy, Cond.instanceMethod yX9_copy, Cond.selects RX9 yX9_copy yX9_copy, Cond.initialized RX9, Cond.code yX9_copy cX9_copy 3 none, Cond.fieldLink RX9 22 "PamphletQuarrel$State" "count" "I", Cond.fieldLink RX9 26 "PamphletQuarrel$State" "today" "I", Cond.methodLink RX9 29 yX9_at]
def wsX10_undo_r2 : List Cond := [Cond.instanceMethod yX9_at, Cond.selects RX9 yX9_at yX9_at, Cond.code yX9_at cX9_at 3 (some (.object "PamphletQuarrel$Pamphlet")), Cond.fieldLink RX9 11 "PamphletQuarrel$State" "printed" "[LPamphletQuarrel$Pamphlet;", Cond.fieldLink RX9 18 "PamphletQuarrel$State" "blank" "LPamphletQuarrel$Pamphlet;", Cond.methodLink RX9 33 yX4_copy, Cond.instanceMethod yX4_copy, Cond.selects RX4 yX4_copy yX4_copy, Cond.initialized RX4, Cond.code yX4_copy cX4_copy 2 none, Cond.fieldLink RX4 29 "PamphletQuarrel$Pamphlet" "author" "I", Cond.fieldLink RX4 33 "PamphletQuarrel$Pamphlet" "printedOn" "I", Cond.fieldLink RX4 36 "PamphletQuarrel$Pamphlet" "wordCount" "I", Cond.fieldLink RX4 39 "PamphletQuarrel$Pamphlet" "quotationCount" "I", Cond.fieldLink RX4 14 "PamphletQuarrel$Pamphlet" "words" "LPamphletQuarrel$Row;", Cond.fieldLink RX4 20 "PamphletQuarrel$Pamphlet" "sources" "LPamphletQuarrel$Row;", Cond.fieldLink RX4 23 "PamphletQuarrel$Pamphlet" "begins" "LPamphletQuarrel$Row;", Cond.fieldLink RX4 26 "PamphletQuarrel$Pamphlet" "lengths" "LPamphletQuarrel$Row;", Cond.methodLink RX4 42 yX7_copy, Cond.instanceMethod yX7_copy, Cond.selects RX7 yX7_copy yX7_copy, Cond.initialized RX7, Cond.code yX7_copy cX7_copy 3 none, Cond.fieldLink RX7 13 "PamphletQuarrel$Row" "cells" "[J"]
def wsX10_undo_r3 : List Cond := [Cond.methodLink RX7 19 arraycopyName, Cond.native arraycopyName, Cond.static arraycopyName, Cond.initialized "java/lang/System"]
def wsX10_undo : List Cond := .code yX10_undo cX10_undo 1 (some .int) :: ((wsX10_undo_r1 ++ (wsX10_undo_r2 ++ wsX10_undo_r3)) ++ wsX100 ++ wsX20 ++ wsX90 ++ wsX40 ++ wsX70 ++ (vx_atS RX10 77 "java/lang/IllegalStateException" ["java/lang/RuntimeException", "java/lang/Exception"]).filter goodWord)
def wsX10_savedStates : List Cond := .code yX10_savedStates cX10_savedStates 1 (some .int) :: ([.fieldLink RX10 19 "PamphletQuarrel" "history" "LPamphletQuarrel$History;"] ++ wsX100 ++ wsX20)
def wsX10_takeSnapshot_r1 : List Cond := [Cond.fieldLink RX10 19 "PamphletQuarrel" "history" "LPamphletQuarrel$History;", Cond.fieldLink RX10 10 "PamphletQuarrel" "state" "LPamphletQuarrel$State;", Cond.methodLink RX10 304 yX9_copy, Cond.instanceMethod yX9_copy, Cond.selects RX9 yX9_copy yX9_copy, Cond.initialized RX9, Cond.code yX9_copy cX9_copy 3 none, Cond.fieldLink RX9 22 "PamphletQuarrel$State" "count" "I", Cond.fieldLink RX9 26 "PamphletQuarrel$State" "today" "I", Cond.methodLink RX9 29 yX9_at, Cond.instanceMethod yX9_at, Cond.selects RX9 yX9_at yX9_at, Cond.code yX9_at cX9_at 3 (some (.object "PamphletQuarrel$Pamphlet")), Cond.fieldLink RX9 11 "PamphletQuarrel$State" "printed" "[LPamphletQuarrel$Pamphlet;", Cond.fieldLink RX9 18 "PamphletQuarrel$State" "blank" "LPamphletQuarrel$Pamphlet;", Cond.methodLink RX9 33 yX4_copy, Cond.instanceMethod yX4_copy, Cond.selects RX4 yX4_copy yX4_copy, Cond.initialized RX4, Cond.code yX4_copy cX4_copy 2 none, Cond.fieldLink RX4 29 "PamphletQuarrel$Pamphlet" "author" "I", Cond.fieldLink RX4 33 "PamphletQuarrel$Pamphlet" "printedOn" "I", Cond.fieldLink RX4 36 "PamphletQuarrel$Pamphlet" "wordCount" "I", Cond.fieldLink RX4 39 "PamphletQuarrel$Pamphlet" "quotationCount" "I"]
def wsX10_takeSnapshot_r2 : List Cond := [Cond.fieldLink RX4 14 "PamphletQuarrel$Pamphlet" "words" "LPamphletQuarrel$Row;", Cond.fieldLink RX4 20 "PamphletQuarrel$Pamphlet" "sources" "LPamphletQuarrel$Row;", Cond.fieldLink RX4 23 "PamphletQuarrel$Pamphlet" "begins" "LPamphletQuarrel$Row;", Cond.fieldLink RX4 26 "PamphletQuarrel$Pamphlet" "lengths" "LPamphletQuarrel$Row;", Cond.methodLink RX4 42 yX7_copy, Cond.instanceMethod yX7_copy, Cond.selects RX7 yX7_copy yX7_copy, Cond.initialized RX7, Cond.code yX7_copy cX7_copy 3 none, Cond.fieldLink RX7 13 "PamphletQuarrel$Row" "cells" "[J", Cond.methodLink RX7 19 arraycopyName, Cond.native arraycopyName, Cond.static arraycopyName, Cond.initialized "java/lang/System"]
def wsX10_takeSnapshot : List Cond := .code yX10_takeSnapshot cX10_takeSnapshot 1 (some .int) :: ((wsX10_takeSnapshot_r1 ++ wsX10_takeSnapshot_r2) ++ wsX100 ++ wsX20 ++ wsX90 ++ wsX40 ++ wsX70)
def wsX10_restoreSnapshot_r1 : List Cond := [Cond.classLink RX10 73 "java/lang/IllegalStateException", Cond.initialized "java/lang/IllegalStateException", Cond.fieldLink RX10 19 "PamphletQuarrel" "history" "LPamphletQuarrel$History;", Cond.fieldLink RX10 10 "PamphletQuarrel" "state" "LPamphletQuarrel$State;", Cond.methodLink RX10 78 yX2_save, Cond.instanceMethod yX2_save, Cond.selects RX2 yX2_save yX2_save, Cond.initialized RX2, Cond.code yX2_save cX2_save 3 none, Cond.fieldLink RX2 26 "PamphletQuarrel$History" "size" "I", Cond.fieldLink RX2 22 "PamphletQuarrel$History" "oldest" "I", Cond.methodLink RX2 29 yX2_slot, Cond.instanceMethod yX2_slot, Cond.selects RX2 yX2_slot yX2_slot, Cond.code yX2_slot cX2_slot 3 (some (.object "PamphletQuarrel$State")), Cond.fieldLink RX2 11 "PamphletQuarrel$History" "saved" "[LPamphletQuarrel$State;", Cond.methodLink RX2 33 yX9_copy, Cond.instanceMethod yX9_copy, Cond.selects RX9 yX9_copy yX9_copy, Cond.initialized RX9, Cond.code yX9_copy cX9_copy 3 none, Cond.fieldLink RX9 22 "PamphletQuarrel$State" "count" "I", Cond.fieldLink RX9 26 "PamphletQuarrel$State" "today" "I", Cond.methodLink RX9 29 yX9_at]
def wsX10_restoreSnapshot_r2 : List Cond := [Cond.instanceMethod yX9_at, Cond.selects RX9 yX9_at yX9_at, Cond.code yX9_at cX9_at 3 (some (.object "PamphletQuarrel$Pamphlet")), Cond.fieldLink RX9 11 "PamphletQuarrel$State" "printed" "[LPamphletQuarrel$Pamphlet;", Cond.fieldLink RX9 18 "PamphletQuarrel$State" "blank" "LPamphletQuarrel$Pamphlet;", Cond.methodLink RX9 33 yX4_copy, Cond.instanceMethod yX4_copy, Cond.selects RX4 yX4_copy yX4_copy, Cond.initialized RX4, Cond.code yX4_copy cX4_copy 2 none, Cond.fieldLink RX4 29 "PamphletQuarrel$Pamphlet" "author" "I", Cond.fieldLink RX4 33 "PamphletQuarrel$Pamphlet" "printedOn" "I", Cond.fieldLink RX4 36 "PamphletQuarrel$Pamphlet" "wordCount" "I", Cond.fieldLink RX4 39 "PamphletQuarrel$Pamphlet" "quotationCount" "I", Cond.fieldLink RX4 14 "PamphletQuarrel$Pamphlet" "words" "LPamphletQuarrel$Row;", Cond.fieldLink RX4 20 "PamphletQuarrel$Pamphlet" "sources" "LPamphletQuarrel$Row;", Cond.fieldLink RX4 23 "PamphletQuarrel$Pamphlet" "begins" "LPamphletQuarrel$Row;", Cond.fieldLink RX4 26 "PamphletQuarrel$Pamphlet" "lengths" "LPamphletQuarrel$Row;", Cond.methodLink RX4 42 yX7_copy, Cond.instanceMethod yX7_copy, Cond.selects RX7 yX7_copy yX7_copy, Cond.initialized RX7, Cond.code yX7_copy cX7_copy 3 none, Cond.fieldLink RX7 13 "PamphletQuarrel$Row" "cells" "[J"]
def wsX10_restoreSnapshot_r3 : List Cond := [Cond.methodLink RX7 19 arraycopyName, Cond.native arraycopyName, Cond.static arraycopyName, Cond.initialized "java/lang/System", Cond.methodLink RX10 304 yX9_copy]
def wsX10_restoreSnapshot : List Cond := .code yX10_restoreSnapshot cX10_restoreSnapshot 1 (some .int) :: ((wsX10_restoreSnapshot_r1 ++ (wsX10_restoreSnapshot_r2 ++ wsX10_restoreSnapshot_r3)) ++ wsX100 ++ wsX20 ++ wsX90 ++ wsX40 ++ wsX70 ++ (vx_atS RX10 77 "java/lang/IllegalStateException" ["java/lang/RuntimeException", "java/lang/Exception"]).filter goodWord)
def wsJ9_max_7cf53 : List Cond := .code yJ9_max_7cf53 cJ9_max_7cf53 2 (some .int) :: ([])
def wsJ9_min_7cf53 : List Cond := .code yJ9_min_7cf53 cJ9_min_7cf53 2 (some .int) :: ([])
def wsL_cell : List Cond := .code yL_cell cL_cell 2 (some .int) :: ([.constant RL 7 (934660563), .constant RL 8 (764535719)])
def wsL_low : List Cond := .code yL_low cL_low 2 (some .int) :: ([.constant RL 9 (2147483647)])
def wsL_tryPrint_r1 : List Cond := [Cond.classLink RL 16 "java/lang/IllegalArgumentException", Cond.classLink RL 18 "java/lang/IllegalStateException", Cond.methodLink RL 10 yX10_print, Cond.instanceMethod yX10_print, Cond.selects RX10 yX10_print yX10_print, Cond.initialized RX10, Cond.code yX10_print cX10_print 2 (some .int), Cond.classLink RX10 62 "java/lang/IllegalArgumentException", Cond.initialized "java/lang/IllegalArgumentException", Cond.classLink RX10 73 "java/lang/IllegalStateException", Cond.initialized "java/lang/IllegalStateException", Cond.fieldLink RX10 19 "PamphletQuarrel" "history" "LPamphletQuarrel$History;", Cond.fieldLink RX10 10 "PamphletQuarrel" "state" "LPamphletQuarrel$State;", Cond.fieldLink RX10 33 "PamphletQuarrel" "reader" "LPamphletQuarrel$Reader;", Cond.fieldLink RX10 26 "PamphletQuarrel" "buffer" "LPamphletQuarrel$Buffer;", Cond.methodLink RX10 58 yX10_isAuthor, Cond.static yX10_isAuthor, Cond.code yX10_isAuthor cX10_isAuthor 1 (some .boolean), Cond.methodLink RX10 69 yX10_whyNotPrinted, Cond.instanceMethod yX10_whyNotPrinted, Cond.selects RX10 yX10_whyNotPrinted yX10_whyNotPrinted, Cond.code yX10_whyNotPrinted cX10_whyNotPrinted 1 (some .int), Cond.methodLink RX10 182 yX6_read, Cond.instanceMethod yX6_read]
def wsL_tryPrint_r2 : List Cond := [Cond.selects RX6 yX6_read yX6_read, Cond.initialized RX6, Cond.code yX6_read cX6_read 3 none, Cond.fieldLink RX6 12 "PamphletQuarrel$Reader" "text" "LPamphletQuarrel$Pamphlet;", Cond.fieldLink RX6 21 "PamphletQuarrel$Reader" "position" "I", Cond.fieldLink RX6 25 "PamphletQuarrel$Reader" "place" "I", Cond.methodLink RX6 18 yX4_empty, Cond.instanceMethod yX4_empty, Cond.selects RX4 yX4_empty yX4_empty, Cond.initialized RX4, Cond.code yX4_empty cX4_empty 1 none, Cond.fieldLink RX4 36 "PamphletQuarrel$Pamphlet" "wordCount" "I", Cond.fieldLink RX4 39 "PamphletQuarrel$Pamphlet" "quotationCount" "I", Cond.methodLink RX6 37 yX7_number, Cond.instanceMethod yX7_number, Cond.selects RX7 yX7_number yX7_number, Cond.initialized RX7, Cond.code yX7_number cX7_number 2 (some .int), Cond.fieldLink RX7 13 "PamphletQuarrel$Row" "cells" "[J", Cond.methodLink RX6 43 yX6_placeAfter, Cond.instanceMethod yX6_placeAfter, Cond.selects RX6 yX6_placeAfter yX6_placeAfter, Cond.code yX6_placeAfter cX6_placeAfter 2 (some .int), Cond.methodLink RX6 46 yX6_afterOpening]
def wsL_tryPrint_r3 : List Cond := [Cond.instanceMethod yX6_afterOpening, Cond.selects RX6 yX6_afterOpening yX6_afterOpening, Cond.code yX6_afterOpening cX6_afterOpening 1 (some .int), Cond.fieldLink RX6 66 "PamphletQuarrel$Reader" "begin" "I", Cond.methodLink RX6 50 yX6_afterFirstLetter, Cond.instanceMethod yX6_afterFirstLetter, Cond.selects RX6 yX6_afterFirstLetter yX6_afterFirstLetter, Cond.code yX6_afterFirstLetter cX6_afterFirstLetter 3 (some .int), Cond.fieldLink RX6 77 "PamphletQuarrel$Reader" "letters" "I", Cond.static yX10_withLetter, Cond.code yX10_withLetter cX10_withLetter 4 (some .long), Cond.methodLink RX6 73 yX4_addWord, Cond.instanceMethod yX4_addWord, Cond.selects RX4 yX4_addWord yX4_addWord, Cond.code yX4_addWord cX4_addWord 3 none, Cond.fieldLink RX4 14 "PamphletQuarrel$Pamphlet" "words" "LPamphletQuarrel$Row;", Cond.methodLink RX4 46 yX7_put, Cond.instanceMethod yX7_put, Cond.selects RX7 yX7_put yX7_put, Cond.code yX7_put cX7_put 4 none, Cond.methodLink RX6 54 yX6_afterLetter, Cond.instanceMethod yX6_afterLetter, Cond.selects RX6 yX6_afterLetter yX6_afterLetter, Cond.code yX6_afterLetter cX6_afterLetter 3 (some .int)]
def wsL_tryPrint_r4 : List Cond := [Cond.methodLink RX6 83 yX7_at, Cond.instanceMethod yX7_at, Cond.selects RX7 yX7_at yX7_at, Cond.code yX7_at cX7_at 2 (some .long), Cond.methodLink RX6 87 yX7_put, Cond.methodLink RX6 57 yX6_afterFirstDigit, Cond.instanceMethod yX6_afterFirstDigit, Cond.selects RX6 yX6_afterFirstDigit yX6_afterFirstDigit, Cond.code yX6_afterFirstDigit cX6_afterFirstDigit 2 (some .int), Cond.methodLink RX6 91 yX4_addQuotation, Cond.instanceMethod yX4_addQuotation, Cond.selects RX4 yX4_addQuotation yX4_addQuotation, Cond.code yX4_addQuotation cX4_addQuotation 3 none, Cond.fieldLink RX4 20 "PamphletQuarrel$Pamphlet" "sources" "LPamphletQuarrel$Row;", Cond.fieldLink RX4 23 "PamphletQuarrel$Pamphlet" "begins" "LPamphletQuarrel$Row;", Cond.fieldLink RX4 26 "PamphletQuarrel$Pamphlet" "lengths" "LPamphletQuarrel$Row;", Cond.methodLink RX6 60 yX6_afterSecondDigit, Cond.instanceMethod yX6_afterSecondDigit, Cond.selects RX6 yX6_afterSecondDigit yX6_afterSecondDigit, Cond.code yX6_afterSecondDigit cX6_afterSecondDigit 2 (some .int), Cond.methodLink RX10 186 yX6_isAtEndOfText, Cond.instanceMethod yX6_isAtEndOfText, Cond.selects RX6 yX6_isAtEndOfText yX6_isAtEndOfText, Cond.code yX6_isAtEndOfText cX6_isAtEndOfText 2 (some .boolean)]
def wsL_tryPrint_r5 : List Cond := [Cond.methodLink RX10 190 yX9_hasSourcesOf, Cond.instanceMethod yX9_hasSourcesOf, Cond.selects RX9 yX9_hasSourcesOf yX9_hasSourcesOf, Cond.initialized RX9, Cond.code yX9_hasSourcesOf cX9_hasSourcesOf 3 (some .boolean), Cond.methodLink RX9 50 yX7_number, Cond.methodLink RX9 56 yX9_has, Cond.instanceMethod yX9_has, Cond.selects RX9 yX9_has yX9_has, Cond.code yX9_has cX9_has 2 (some .boolean), Cond.fieldLink RX9 22 "PamphletQuarrel$State" "count" "I", Cond.methodLink RX10 194 yX9_isSourceOfToday, Cond.instanceMethod yX9_isSourceOfToday, Cond.selects RX9 yX9_isSourceOfToday yX9_isSourceOfToday, Cond.code yX9_isSourceOfToday cX9_isSourceOfToday 3 (some .boolean), Cond.fieldLink RX9 26 "PamphletQuarrel$State" "today" "I", Cond.methodLink RX9 29 yX9_at, Cond.instanceMethod yX9_at, Cond.selects RX9 yX9_at yX9_at, Cond.code yX9_at cX9_at 3 (some (.object "PamphletQuarrel$Pamphlet")), Cond.fieldLink RX9 11 "PamphletQuarrel$State" "printed" "[LPamphletQuarrel$Pamphlet;", Cond.fieldLink RX9 18 "PamphletQuarrel$State" "blank" "LPamphletQuarrel$Pamphlet;", Cond.methodLink RX10 78 yX2_save, Cond.instanceMethod yX2_save]
def wsL_tryPrint_r6 : List Cond := [Cond.selects RX2 yX2_save yX2_save, Cond.initialized RX2, Cond.code yX2_save cX2_save 3 none, Cond.fieldLink RX2 26 "PamphletQuarrel$History" "size" "I", Cond.fieldLink RX2 22 "PamphletQuarrel$History" "oldest" "I", Cond.methodLink RX2 29 yX2_slot, Cond.instanceMethod yX2_slot, Cond.selects RX2 yX2_slot yX2_slot, Cond.code yX2_slot cX2_slot 3 (some (.object "PamphletQuarrel$State")), Cond.fieldLink RX2 11 "PamphletQuarrel$History" "saved" "[LPamphletQuarrel$State;", Cond.methodLink RX2 33 yX9_copy, Cond.instanceMethod yX9_copy, Cond.selects RX9 yX9_copy yX9_copy, Cond.code yX9_copy cX9_copy 3 none, Cond.methodLink RX9 33 yX4_copy, Cond.instanceMethod yX4_copy, Cond.selects RX4 yX4_copy yX4_copy, Cond.code yX4_copy cX4_copy 2 none, Cond.fieldLink RX4 29 "PamphletQuarrel$Pamphlet" "author" "I", Cond.fieldLink RX4 33 "PamphletQuarrel$Pamphlet" "printedOn" "I", Cond.methodLink RX4 42 yX7_copy, Cond.instanceMethod yX7_copy, Cond.selects RX7 yX7_copy yX7_copy, Cond.code yX7_copy cX7_copy 3 none]
def wsL_tryPrint_r7 : List Cond := [Cond.methodLink RX7 19 arraycopyName, Cond.native arraycopyName, Cond.static arraycopyName, Cond.initialized "java/lang/System", Cond.methodLink RX10 86 yX9_add, Cond.instanceMethod yX9_add, Cond.selects RX9 yX9_add yX9_add, Cond.code yX9_add cX9_add 4 none]
def wsL_tryPrint : List Cond := .codeWith yL_tryPrint cL_tryPrint 3 (some .int) [(0, 5, 6, 16), (0, 5, 11, 18)] :: ((wsL_tryPrint_r1 ++ (wsL_tryPrint_r2 ++ (wsL_tryPrint_r3 ++ (wsL_tryPrint_r4 ++ (wsL_tryPrint_r5 ++ (wsL_tryPrint_r6 ++ wsL_tryPrint_r7)))))) ++ wsX100 ++ wsX60 ++ wsX00 ++ wsX90 ++ wsX40 ++ wsX70 ++ wsX20 ++ (vx_atS RX10 66 "java/lang/IllegalArgumentException" ["java/lang/RuntimeException", "java/lang/Exception"]).filter goodWord ++ (vx_atS RX10 77 "java/lang/IllegalStateException" ["java/lang/RuntimeException", "java/lang/Exception"]).filter goodWord)
def wsL_tryMend_r1 : List Cond := [Cond.classLink RL 24 "java/lang/IndexOutOfBoundsException", Cond.classLink RL 18 "java/lang/IllegalStateException", Cond.methodLink RL 20 yX10_mend, Cond.instanceMethod yX10_mend, Cond.selects RX10 yX10_mend yX10_mend, Cond.initialized RX10, Cond.code yX10_mend cX10_mend 4 (some .int), Cond.classLink RX10 73 "java/lang/IllegalStateException", Cond.initialized "java/lang/IllegalStateException", Cond.fieldLink RX10 40 "PamphletQuarrel" "quotations" "LPamphletQuarrel$Quotations;", Cond.fieldLink RX10 10 "PamphletQuarrel" "state" "LPamphletQuarrel$State;", Cond.fieldLink RX10 19 "PamphletQuarrel" "history" "LPamphletQuarrel$History;", Cond.methodLink RX10 102 yX10_needQuotation, Cond.instanceMethod yX10_needQuotation, Cond.selects RX10 yX10_needQuotation yX10_needQuotation, Cond.code yX10_needQuotation cX10_needQuotation 3 none, Cond.classLink RX10 152 "java/lang/IndexOutOfBoundsException", Cond.initialized "java/lang/IndexOutOfBoundsException", Cond.methodLink RX10 139 yX10_needPamphlet, Cond.instanceMethod yX10_needPamphlet, Cond.selects RX10 yX10_needPamphlet yX10_needPamphlet, Cond.code yX10_needPamphlet cX10_needPamphlet 2 none, Cond.methodLink RX10 315 yX9_has, Cond.instanceMethod yX9_has]
def wsL_tryMend_r2 : List Cond := [Cond.selects RX9 yX9_has yX9_has, Cond.initialized RX9, Cond.code yX9_has cX9_has 2 (some .boolean), Cond.fieldLink RX9 22 "PamphletQuarrel$State" "count" "I", Cond.methodLink RX10 128 yX9_at, Cond.instanceMethod yX9_at, Cond.selects RX9 yX9_at yX9_at, Cond.code yX9_at cX9_at 3 (some (.object "PamphletQuarrel$Pamphlet")), Cond.fieldLink RX9 11 "PamphletQuarrel$State" "printed" "[LPamphletQuarrel$Pamphlet;", Cond.fieldLink RX9 18 "PamphletQuarrel$State" "blank" "LPamphletQuarrel$Pamphlet;", Cond.methodLink RX10 106 yX5_find, Cond.instanceMethod yX5_find, Cond.selects RX5 yX5_find yX5_find, Cond.initialized RX5, Cond.code yX5_find cX5_find 5 (some .int), Cond.fieldLink RX5 12 "PamphletQuarrel$Quotations" "search" "LPamphletQuarrel$Search;", Cond.methodLink RX5 18 yX9_at, Cond.methodLink RX5 30 yX7_number, Cond.instanceMethod yX7_number, Cond.selects RX7 yX7_number yX7_number, Cond.initialized RX7, Cond.code yX7_number cX7_number 2 (some .int), Cond.fieldLink RX7 13 "PamphletQuarrel$Row" "cells" "[J", Cond.methodLink RX5 36 yX8_byTable]
def wsL_tryMend_r3 : List Cond := [Cond.instanceMethod yX8_byTable, Cond.selects RX8 yX8_byTable yX8_byTable, Cond.initialized RX8, Cond.code yX8_byTable cX8_byTable 7 none, Cond.fieldLink RX8 14 "PamphletQuarrel$Search" "cells" "LPamphletQuarrel$Row;", Cond.methodLink RX8 25 yX7_number, Cond.methodLink RX8 36 yX7_put, Cond.instanceMethod yX7_put, Cond.selects RX7 yX7_put yX7_put, Cond.code yX7_put cX7_put 4 none, Cond.methodLink RX8 43 yX7_at, Cond.instanceMethod yX7_at, Cond.selects RX7 yX7_at yX7_at, Cond.code yX7_at cX7_at 2 (some .long), Cond.methodLink RX8 47 yX8_takeWord, Cond.instanceMethod yX8_takeWord, Cond.selects RX8 yX8_takeWord yX8_takeWord, Cond.code yX8_takeWord cX8_takeWord 11 none, Cond.methodLink RX8 67 Lib.Math.min.name, Cond.static Lib.Math.min.name, Cond.initialized "java/lang/Math", Cond.code Lib.Math.min.name Lib.Math.min.code 2 (some .int), Cond.methodLink RX8 51 yX8_chooseEnd, Cond.instanceMethod yX8_chooseEnd]
def wsL_tryMend_r4 : List Cond := [Cond.selects RX8 yX8_chooseEnd yX8_chooseEnd, Cond.code yX8_chooseEnd cX8_chooseEnd 4 none, Cond.fieldLink RX8 54 "PamphletQuarrel$Search" "changes" "I", Cond.fieldLink RX8 57 "PamphletQuarrel$Search" "begin" "I", Cond.fieldLink RX8 60 "PamphletQuarrel$Search" "length" "I", Cond.methodLink RX10 112 yX5_isRoomFor, Cond.instanceMethod yX5_isRoomFor, Cond.selects RX5 yX5_isRoomFor yX5_isRoomFor, Cond.code yX5_isRoomFor cX5_isRoomFor 5 (some .boolean), Cond.methodLink RX5 84 yX4_growth, Cond.instanceMethod yX4_growth, Cond.selects RX4 yX4_growth yX4_growth, Cond.initialized RX4, Cond.code yX4_growth cX4_growth 3 (some .int), Cond.fieldLink RX4 26 "PamphletQuarrel$Pamphlet" "lengths" "LPamphletQuarrel$Row;", Cond.methodLink RX4 50 yX7_number, Cond.methodLink RX10 78 yX2_save, Cond.instanceMethod yX2_save, Cond.selects RX2 yX2_save yX2_save, Cond.initialized RX2, Cond.code yX2_save cX2_save 3 none, Cond.fieldLink RX2 26 "PamphletQuarrel$History" "size" "I", Cond.fieldLink RX2 22 "PamphletQuarrel$History" "oldest" "I", Cond.methodLink RX2 29 yX2_slot]
def wsL_tryMend_r5 : List Cond := [Cond.instanceMethod yX2_slot, Cond.selects RX2 yX2_slot yX2_slot, Cond.code yX2_slot cX2_slot 3 (some (.object "PamphletQuarrel$State")), Cond.fieldLink RX2 11 "PamphletQuarrel$History" "saved" "[LPamphletQuarrel$State;", Cond.methodLink RX2 33 yX9_copy, Cond.instanceMethod yX9_copy, Cond.selects RX9 yX9_copy yX9_copy, Cond.code yX9_copy cX9_copy 3 none, Cond.fieldLink RX9 26 "PamphletQuarrel$State" "today" "I", Cond.methodLink RX9 29 yX9_at, Cond.methodLink RX9 33 yX4_copy, Cond.instanceMethod yX4_copy, Cond.selects RX4 yX4_copy yX4_copy, Cond.code yX4_copy cX4_copy 2 none, Cond.fieldLink RX4 29 "PamphletQuarrel$Pamphlet" "author" "I", Cond.fieldLink RX4 33 "PamphletQuarrel$Pamphlet" "printedOn" "I", Cond.fieldLink RX4 36 "PamphletQuarrel$Pamphlet" "wordCount" "I", Cond.fieldLink RX4 39 "PamphletQuarrel$Pamphlet" "quotationCount" "I", Cond.fieldLink RX4 14 "PamphletQuarrel$Pamphlet" "words" "LPamphletQuarrel$Row;", Cond.fieldLink RX4 20 "PamphletQuarrel$Pamphlet" "sources" "LPamphletQuarrel$Row;", Cond.fieldLink RX4 23 "PamphletQuarrel$Pamphlet" "begins" "LPamphletQuarrel$Row;", Cond.methodLink RX4 42 yX7_copy, Cond.instanceMethod yX7_copy, Cond.selects RX7 yX7_copy yX7_copy]
def wsL_tryMend_r6 : List Cond := [Cond.code yX7_copy cX7_copy 3 none, Cond.methodLink RX7 19 arraycopyName, Cond.native arraycopyName, Cond.static arraycopyName, Cond.initialized "java/lang/System", Cond.methodLink RX10 118 yX5_putRight, Cond.instanceMethod yX5_putRight, Cond.selects RX5 yX5_putRight yX5_putRight, Cond.code yX5_putRight cX5_putRight 6 none, Cond.methodLink RX5 87 yX4_replace, Cond.instanceMethod yX4_replace, Cond.selects RX4 yX4_replace yX4_replace, Cond.code yX4_replace cX4_replace 9 none, Cond.methodLink RX4 58 yX4_growth, Cond.methodLink RX4 62 yX7_move, Cond.instanceMethod yX7_move, Cond.selects RX7 yX7_move yX7_move, Cond.code yX7_move cX7_move 4 none, Cond.methodLink RX4 66 yX7_at, Cond.methodLink RX4 46 yX7_put]
def wsL_tryMend : List Cond := .codeWith yL_tryMend cL_tryMend 4 (some .int) [(0, 6, 7, 24), (0, 6, 12, 18)] :: ((wsL_tryMend_r1 ++ (wsL_tryMend_r2 ++ (wsL_tryMend_r3 ++ (wsL_tryMend_r4 ++ (wsL_tryMend_r5 ++ wsL_tryMend_r6))))) ++ wsX100 ++ wsX40 ++ wsX90 ++ wsX50 ++ wsX80 ++ wsX70 ++ wsX20 ++ (vx_atS RX10 77 "java/lang/IllegalStateException" ["java/lang/RuntimeException", "java/lang/Exception"]).filter goodWord ++ (vx_atS RX10 156 "java/lang/IndexOutOfBoundsException" ["java/lang/RuntimeException", "java/lang/Exception"]).filter goodWord)
def wsL_tryWithdraw_r1 : List Cond := [Cond.classLink RL 18 "java/lang/IllegalStateException", Cond.methodLink RL 26 yX10_withdraw, Cond.instanceMethod yX10_withdraw, Cond.selects RX10 yX10_withdraw yX10_withdraw, Cond.initialized RX10, Cond.code yX10_withdraw cX10_withdraw 1 (some .int), Cond.classLink RX10 73 "java/lang/IllegalStateException", Cond.initialized "java/lang/IllegalStateException", Cond.fieldLink RX10 10 "PamphletQuarrel" "state" "LPamphletQuarrel$State;", Cond.fieldLink RX10 19 "PamphletQuarrel" "history" "LPamphletQuarrel$History;", Cond.methodLink RX10 128 yX9_at, Cond.instanceMethod yX9_at, Cond.selects RX9 yX9_at yX9_at, Cond.initialized RX9, Cond.code yX9_at cX9_at 3 (some (.object "PamphletQuarrel$Pamphlet")), Cond.fieldLink RX9 11 "PamphletQuarrel$State" "printed" "[LPamphletQuarrel$Pamphlet;", Cond.fieldLink RX9 18 "PamphletQuarrel$State" "blank" "LPamphletQuarrel$Pamphlet;", Cond.methodLink RX10 78 yX2_save, Cond.instanceMethod yX2_save, Cond.selects RX2 yX2_save yX2_save, Cond.initialized RX2, Cond.code yX2_save cX2_save 3 none, Cond.fieldLink RX2 26 "PamphletQuarrel$History" "size" "I", Cond.fieldLink RX2 22 "PamphletQuarrel$History" "oldest" "I"]
def wsL_tryWithdraw_r2 : List Cond := [Cond.methodLink RX2 29 yX2_slot, Cond.instanceMethod yX2_slot, Cond.selects RX2 yX2_slot yX2_slot, Cond.code yX2_slot cX2_slot 3 (some (.object "PamphletQuarrel$State")), Cond.fieldLink RX2 11 "PamphletQuarrel$History" "saved" "[LPamphletQuarrel$State;", Cond.methodLink RX2 33 yX9_copy, Cond.instanceMethod yX9_copy, Cond.selects RX9 yX9_copy yX9_copy, Cond.code yX9_copy cX9_copy 3 none, Cond.fieldLink RX9 22 "PamphletQuarrel$State" "count" "I", Cond.fieldLink RX9 26 "PamphletQuarrel$State" "today" "I", Cond.methodLink RX9 29 yX9_at, Cond.methodLink RX9 33 yX4_copy, Cond.instanceMethod yX4_copy, Cond.selects RX4 yX4_copy yX4_copy, Cond.initialized RX4, Cond.code yX4_copy cX4_copy 2 none, Cond.fieldLink RX4 29 "PamphletQuarrel$Pamphlet" "author" "I", Cond.fieldLink RX4 33 "PamphletQuarrel$Pamphlet" "printedOn" "I", Cond.fieldLink RX4 36 "PamphletQuarrel$Pamphlet" "wordCount" "I", Cond.fieldLink RX4 39 "PamphletQuarrel$Pamphlet" "quotationCount" "I", Cond.fieldLink RX4 14 "PamphletQuarrel$Pamphlet" "words" "LPamphletQuarrel$Row;", Cond.fieldLink RX4 20 "PamphletQuarrel$Pamphlet" "sources" "LPamphletQuarrel$Row;", Cond.fieldLink RX4 23 "PamphletQuarrel$Pamphlet" "begins" "LPamphletQuarrel$Row;"]
def wsL_tryWithdraw_r3 : List Cond := [Cond.fieldLink RX4 26 "PamphletQuarrel$Pamphlet" "lengths" "LPamphletQuarrel$Row;", Cond.methodLink RX4 42 yX7_copy, Cond.instanceMethod yX7_copy, Cond.selects RX7 yX7_copy yX7_copy, Cond.initialized RX7, Cond.code yX7_copy cX7_copy 3 none, Cond.fieldLink RX7 13 "PamphletQuarrel$Row" "cells" "[J", Cond.methodLink RX7 19 arraycopyName, Cond.native arraycopyName, Cond.static arraycopyName, Cond.initialized "java/lang/System"]
def wsL_tryWithdraw : List Cond := .codeWith yL_tryWithdraw cL_tryWithdraw 2 (some .int) [(0, 4, 5, 18)] :: ((wsL_tryWithdraw_r1 ++ (wsL_tryWithdraw_r2 ++ wsL_tryWithdraw_r3)) ++ wsX100 ++ wsX90 ++ wsX40 ++ wsX20 ++ wsX70 ++ (vx_atS RX10 77 "java/lang/IllegalStateException" ["java/lang/RuntimeException", "java/lang/Exception"]).filter goodWord)
def wsL_isQuotation_r1 : List Cond := [Cond.methodLink RL 30 yX10_sourceOf, Cond.instanceMethod yX10_sourceOf, Cond.selects RX10 yX10_sourceOf yX10_sourceOf, Cond.initialized RX10, Cond.code yX10_sourceOf cX10_sourceOf 3 (some .int), Cond.fieldLink RX10 10 "PamphletQuarrel" "state" "LPamphletQuarrel$State;", Cond.methodLink RX10 102 yX10_needQuotation, Cond.instanceMethod yX10_needQuotation, Cond.selects RX10 yX10_needQuotation yX10_needQuotation, Cond.code yX10_needQuotation cX10_needQuotation 3 none, Cond.classLink RX10 152 "java/lang/IndexOutOfBoundsException", Cond.initialized "java/lang/IndexOutOfBoundsException", Cond.methodLink RX10 139 yX10_needPamphlet, Cond.instanceMethod yX10_needPamphlet, Cond.selects RX10 yX10_needPamphlet yX10_needPamphlet, Cond.code yX10_needPamphlet cX10_needPamphlet 2 none, Cond.methodLink RX10 315 yX9_has, Cond.instanceMethod yX9_has, Cond.selects RX9 yX9_has yX9_has, Cond.initialized RX9, Cond.code yX9_has cX9_has 2 (some .boolean), Cond.fieldLink RX9 22 "PamphletQuarrel$State" "count" "I", Cond.methodLink RX10 128 yX9_at, Cond.instanceMethod yX9_at]
def wsL_isQuotation_r2 : List Cond := [Cond.selects RX9 yX9_at yX9_at, Cond.code yX9_at cX9_at 3 (some (.object "PamphletQuarrel$Pamphlet")), Cond.fieldLink RX9 11 "PamphletQuarrel$State" "printed" "[LPamphletQuarrel$Pamphlet;", Cond.fieldLink RX9 18 "PamphletQuarrel$State" "blank" "LPamphletQuarrel$Pamphlet;", Cond.methodLink RX10 203 yX7_number, Cond.instanceMethod yX7_number, Cond.selects RX7 yX7_number yX7_number, Cond.initialized RX7, Cond.code yX7_number cX7_number 2 (some .int), Cond.fieldLink RX7 13 "PamphletQuarrel$Row" "cells" "[J", Cond.methodLink RL 33 yX10_beginOf, Cond.instanceMethod yX10_beginOf, Cond.selects RX10 yX10_beginOf yX10_beginOf, Cond.code yX10_beginOf cX10_beginOf 3 (some .int), Cond.methodLink RL 36 yX10_lengthOf, Cond.instanceMethod yX10_lengthOf, Cond.selects RX10 yX10_lengthOf yX10_lengthOf, Cond.code yX10_lengthOf cX10_lengthOf 3 (some .int), Cond.methodLink RL 39 yX10_changesByTable, Cond.instanceMethod yX10_changesByTable, Cond.selects RX10 yX10_changesByTable yX10_changesByTable, Cond.code yX10_changesByTable cX10_changesByTable 3 (some .int), Cond.fieldLink RX10 40 "PamphletQuarrel" "quotations" "LPamphletQuarrel$Quotations;", Cond.methodLink RX10 106 yX5_find]
def wsL_isQuotation_r3 : List Cond := [Cond.instanceMethod yX5_find, Cond.selects RX5 yX5_find yX5_find, Cond.initialized RX5, Cond.code yX5_find cX5_find 5 (some .int), Cond.fieldLink RX5 12 "PamphletQuarrel$Quotations" "search" "LPamphletQuarrel$Search;", Cond.methodLink RX5 18 yX9_at, Cond.methodLink RX5 30 yX7_number, Cond.methodLink RX5 36 yX8_byTable, Cond.instanceMethod yX8_byTable, Cond.selects RX8 yX8_byTable yX8_byTable, Cond.initialized RX8, Cond.code yX8_byTable cX8_byTable 7 none, Cond.fieldLink RX8 14 "PamphletQuarrel$Search" "cells" "LPamphletQuarrel$Row;", Cond.methodLink RX8 25 yX7_number, Cond.methodLink RX8 36 yX7_put, Cond.instanceMethod yX7_put, Cond.selects RX7 yX7_put yX7_put, Cond.code yX7_put cX7_put 4 none, Cond.methodLink RX8 43 yX7_at, Cond.instanceMethod yX7_at, Cond.selects RX7 yX7_at yX7_at, Cond.code yX7_at cX7_at 2 (some .long), Cond.methodLink RX8 47 yX8_takeWord, Cond.instanceMethod yX8_takeWord]
def wsL_isQuotation_r4 : List Cond := [Cond.selects RX8 yX8_takeWord yX8_takeWord, Cond.code yX8_takeWord cX8_takeWord 11 none, Cond.methodLink RX8 67 Lib.Math.min.name, Cond.static Lib.Math.min.name, Cond.initialized "java/lang/Math", Cond.code Lib.Math.min.name Lib.Math.min.code 2 (some .int), Cond.methodLink RX8 51 yX8_chooseEnd, Cond.instanceMethod yX8_chooseEnd, Cond.selects RX8 yX8_chooseEnd yX8_chooseEnd, Cond.code yX8_chooseEnd cX8_chooseEnd 4 none, Cond.fieldLink RX8 54 "PamphletQuarrel$Search" "changes" "I", Cond.fieldLink RX8 57 "PamphletQuarrel$Search" "begin" "I", Cond.fieldLink RX8 60 "PamphletQuarrel$Search" "length" "I", Cond.methodLink RL 42 yX10_passageOf, Cond.instanceMethod yX10_passageOf, Cond.selects RX10 yX10_passageOf yX10_passageOf, Cond.code yX10_passageOf cX10_passageOf 3 (some .int), Cond.methodLink RL 45 yX10_passageLength, Cond.instanceMethod yX10_passageLength, Cond.selects RX10 yX10_passageLength yX10_passageLength, Cond.code yX10_passageLength cX10_passageLength 3 (some .int), Cond.methodLink RL 48 yX10_comesFrom, Cond.instanceMethod yX10_comesFrom, Cond.selects RX10 yX10_comesFrom yX10_comesFrom]
def wsL_isQuotation_r5 : List Cond := [Cond.code yX10_comesFrom cX10_comesFrom 3 (some .int), Cond.methodLink RX10 226 yX5_parent, Cond.instanceMethod yX5_parent, Cond.selects RX5 yX5_parent yX5_parent, Cond.code yX5_parent cX5_parent 5 (some .int), Cond.methodLink RX5 51 yX5_find, Cond.methodLink RX5 61 yX4_quotationAround, Cond.instanceMethod yX4_quotationAround, Cond.selects RX4 yX4_quotationAround yX4_quotationAround, Cond.initialized RX4, Cond.code yX4_quotationAround cX4_quotationAround 4 (some .int), Cond.fieldLink RX4 39 "PamphletQuarrel$Pamphlet" "quotationCount" "I", Cond.methodLink RX4 54 yX4_isWithin, Cond.instanceMethod yX4_isWithin, Cond.selects RX4 yX4_isWithin yX4_isWithin, Cond.code yX4_isWithin cX4_isWithin 5 (some .boolean), Cond.fieldLink RX4 23 "PamphletQuarrel$Pamphlet" "begins" "LPamphletQuarrel$Row;", Cond.fieldLink RX4 26 "PamphletQuarrel$Pamphlet" "lengths" "LPamphletQuarrel$Row;", Cond.methodLink RX4 50 yX7_number, Cond.methodLink RL 51 yX10_traceOf, Cond.instanceMethod yX10_traceOf, Cond.selects RX10 yX10_traceOf yX10_traceOf, Cond.code yX10_traceOf cX10_traceOf 3 (some .int), Cond.methodLink RX10 229 yX5_trace]
def wsL_isQuotation_r6 : List Cond := [Cond.instanceMethod yX5_trace, Cond.selects RX5 yX5_trace yX5_trace, Cond.code yX5_trace cX5_trace 6 none, Cond.fieldLink RX5 65 "PamphletQuarrel$Quotations" "traced" "I", Cond.fieldLink RX5 48 "PamphletQuarrel$Quotations" "origin" "I", Cond.methodLink RX5 68 yX5_parent, Cond.methodLink RL 54 yX10_originOf, Cond.instanceMethod yX10_originOf, Cond.selects RX10 yX10_originOf yX10_originOf, Cond.code yX10_originOf cX10_originOf 3 (some .int), Cond.methodLink RL 57 yX10_dayOf, Cond.instanceMethod yX10_dayOf, Cond.selects RX10 yX10_dayOf yX10_dayOf, Cond.code yX10_dayOf cX10_dayOf 2 (some .int), Cond.methodLink RL 60 yX10_wordsOf, Cond.instanceMethod yX10_wordsOf, Cond.selects RX10 yX10_wordsOf yX10_wordsOf, Cond.code yX10_wordsOf cX10_wordsOf 2 (some .int), Cond.methodLink RL 63 yX10_changesByPassages, Cond.instanceMethod yX10_changesByPassages, Cond.selects RX10 yX10_changesByPassages yX10_changesByPassages, Cond.code yX10_changesByPassages cX10_changesByPassages 3 (some .int), Cond.methodLink RX10 213 yX5_findByPassages, Cond.instanceMethod yX5_findByPassages]
def wsL_isQuotation_r7 : List Cond := [Cond.selects RX5 yX5_findByPassages yX5_findByPassages, Cond.code yX5_findByPassages cX5_findByPassages 6 (some .int), Cond.methodLink RX5 44 yX8_byPassages, Cond.instanceMethod yX8_byPassages, Cond.selects RX8 yX8_byPassages yX8_byPassages, Cond.code yX8_byPassages cX8_byPassages 7 (some .int), Cond.methodLink RX8 63 yX8_leastFrom, Cond.instanceMethod yX8_leastFrom, Cond.selects RX8 yX8_leastFrom yX8_leastFrom, Cond.code yX8_leastFrom cX8_leastFrom 9 (some .int), Cond.methodLink RL 66 yX10_isSameWord, Cond.instanceMethod yX10_isSameWord, Cond.selects RX10 yX10_isSameWord yX10_isSameWord, Cond.code yX10_isSameWord cX10_isSameWord 5 (some .boolean), Cond.methodLink RX10 163 yX10_needWord, Cond.instanceMethod yX10_needWord, Cond.selects RX10 yX10_needWord yX10_needWord, Cond.code yX10_needWord cX10_needWord 3 none, Cond.methodLink RX10 173 yX7_at, Cond.methodLink RL 70 yX10_pageOf, Cond.instanceMethod yX10_pageOf, Cond.selects RX10 yX10_pageOf yX10_pageOf, Cond.code yX10_pageOf cX10_pageOf 3 (some .int), Cond.methodLink RL 73 yX10_wordsOn]
def wsL_isQuotation_r8 : List Cond := [Cond.instanceMethod yX10_wordsOn, Cond.selects RX10 yX10_wordsOn yX10_wordsOn, Cond.code yX10_wordsOn cX10_wordsOn 4 (some .int), Cond.methodLink RX10 157 Lib.Math.min.name, Cond.methodLink RX10 149 yX4_pageCount, Cond.instanceMethod yX4_pageCount, Cond.selects RX4 yX4_pageCount yX4_pageCount, Cond.code yX4_pageCount cX4_pageCount 1 (some .int), Cond.fieldLink RX4 36 "PamphletQuarrel$Pamphlet" "wordCount" "I", Cond.methodLink RL 76 yX10_changesAtOrigin, Cond.instanceMethod yX10_changesAtOrigin, Cond.selects RX10 yX10_changesAtOrigin yX10_changesAtOrigin, Cond.code yX10_changesAtOrigin cX10_changesAtOrigin 3 (some .int), Cond.methodLink RX10 238 yX5_findAtOrigin, Cond.instanceMethod yX5_findAtOrigin, Cond.selects RX5 yX5_findAtOrigin yX5_findAtOrigin, Cond.code yX5_findAtOrigin cX5_findAtOrigin 4 (some .int)]
def wsL_isQuotation : List Cond := .code yL_isQuotation cL_isQuotation 16 (some .boolean) :: ((wsL_isQuotation_r1 ++ (wsL_isQuotation_r2 ++ (wsL_isQuotation_r3 ++ (wsL_isQuotation_r4 ++ (wsL_isQuotation_r5 ++ (wsL_isQuotation_r6 ++ (wsL_isQuotation_r7 ++ wsL_isQuotation_r8))))))) ++ wsX100 ++ wsX40 ++ wsX90 ++ wsX70 ++ wsX50 ++ wsX80 ++ (vx_atS RX10 156 "java/lang/IndexOutOfBoundsException" ["java/lang/RuntimeException", "java/lang/Exception"]).filter goodWord)
def wsL_arePamphlets_r1 : List Cond := [Cond.methodLink RL 79 yX10_pamphlets, Cond.instanceMethod yX10_pamphlets, Cond.selects RX10 yX10_pamphlets yX10_pamphlets, Cond.initialized RX10, Cond.code yX10_pamphlets cX10_pamphlets 1 (some .int), Cond.fieldLink RX10 10 "PamphletQuarrel" "state" "LPamphletQuarrel$State;", Cond.methodLink RL 60 yX10_wordsOf, Cond.instanceMethod yX10_wordsOf, Cond.selects RX10 yX10_wordsOf yX10_wordsOf, Cond.code yX10_wordsOf cX10_wordsOf 2 (some .int), Cond.methodLink RX10 139 yX10_needPamphlet, Cond.instanceMethod yX10_needPamphlet, Cond.selects RX10 yX10_needPamphlet yX10_needPamphlet, Cond.code yX10_needPamphlet cX10_needPamphlet 2 none, Cond.classLink RX10 152 "java/lang/IndexOutOfBoundsException", Cond.initialized "java/lang/IndexOutOfBoundsException", Cond.methodLink RX10 315 yX9_has, Cond.instanceMethod yX9_has, Cond.selects RX9 yX9_has yX9_has, Cond.initialized RX9, Cond.code yX9_has cX9_has 2 (some .boolean), Cond.fieldLink RX9 22 "PamphletQuarrel$State" "count" "I", Cond.methodLink RX10 128 yX9_at, Cond.instanceMethod yX9_at]
def wsL_arePamphlets_r2 : List Cond := [Cond.selects RX9 yX9_at yX9_at, Cond.code yX9_at cX9_at 3 (some (.object "PamphletQuarrel$Pamphlet")), Cond.fieldLink RX9 11 "PamphletQuarrel$State" "printed" "[LPamphletQuarrel$Pamphlet;", Cond.fieldLink RX9 18 "PamphletQuarrel$State" "blank" "LPamphletQuarrel$Pamphlet;", Cond.methodLink RL 82 yX10_quotationsOf, Cond.instanceMethod yX10_quotationsOf, Cond.selects RX10 yX10_quotationsOf yX10_quotationsOf, Cond.code yX10_quotationsOf cX10_quotationsOf 2 (some .int), Cond.methodLink RL 85 yX10_pagesOf, Cond.instanceMethod yX10_pagesOf, Cond.selects RX10 yX10_pagesOf yX10_pagesOf, Cond.code yX10_pagesOf cX10_pagesOf 2 (some .int), Cond.methodLink RX10 149 yX4_pageCount, Cond.instanceMethod yX4_pageCount, Cond.selects RX4 yX4_pageCount yX4_pageCount, Cond.initialized RX4, Cond.code yX4_pageCount cX4_pageCount 1 (some .int), Cond.fieldLink RX4 36 "PamphletQuarrel$Pamphlet" "wordCount" "I", Cond.methodLink RL 73 yX10_wordsOn, Cond.instanceMethod yX10_wordsOn, Cond.selects RX10 yX10_wordsOn yX10_wordsOn, Cond.code yX10_wordsOn cX10_wordsOn 4 (some .int), Cond.methodLink RX10 157 Lib.Math.min.name, Cond.static Lib.Math.min.name]
def wsL_arePamphlets_r3 : List Cond := [Cond.initialized "java/lang/Math", Cond.code Lib.Math.min.name Lib.Math.min.code 2 (some .int), Cond.methodLink RL 30 yX10_sourceOf, Cond.instanceMethod yX10_sourceOf, Cond.selects RX10 yX10_sourceOf yX10_sourceOf, Cond.code yX10_sourceOf cX10_sourceOf 3 (some .int), Cond.methodLink RX10 102 yX10_needQuotation, Cond.instanceMethod yX10_needQuotation, Cond.selects RX10 yX10_needQuotation yX10_needQuotation, Cond.code yX10_needQuotation cX10_needQuotation 3 none, Cond.methodLink RX10 203 yX7_number, Cond.instanceMethod yX7_number, Cond.selects RX7 yX7_number yX7_number, Cond.initialized RX7, Cond.code yX7_number cX7_number 2 (some .int), Cond.fieldLink RX7 13 "PamphletQuarrel$Row" "cells" "[J", Cond.methodLink RL 88 yX10_ladderOf, Cond.instanceMethod yX10_ladderOf, Cond.selects RX10 yX10_ladderOf yX10_ladderOf, Cond.code yX10_ladderOf cX10_ladderOf 2 (some .int), Cond.fieldLink RX10 47 "PamphletQuarrel" "ladders" "LPamphletQuarrel$Ladders;", Cond.methodLink RX10 259 yX3_longest, Cond.instanceMethod yX3_longest, Cond.selects RX3 yX3_longest yX3_longest]
def wsL_arePamphlets_r4 : List Cond := [Cond.initialized RX3, Cond.code yX3_longest cX3_longest 6 (some .int), Cond.fieldLink RX3 14 "PamphletQuarrel$Ladders" "tallies" "LPamphletQuarrel$Row;", Cond.methodLink RX3 36 Lib.Math.max.name, Cond.static Lib.Math.max.name, Cond.code Lib.Math.max.name Lib.Math.max.code 2 (some .int), Cond.methodLink RX3 20 yX9_at, Cond.methodLink RX3 26 yX4_quotes, Cond.instanceMethod yX4_quotes, Cond.selects RX4 yX4_quotes yX4_quotes, Cond.code yX4_quotes cX4_quotes 3 (some .boolean), Cond.fieldLink RX4 39 "PamphletQuarrel$Pamphlet" "quotationCount" "I", Cond.fieldLink RX4 20 "PamphletQuarrel$Pamphlet" "sources" "LPamphletQuarrel$Row;", Cond.methodLink RX4 50 yX7_number, Cond.methodLink RX3 32 yX7_number, Cond.methodLink RX3 42 yX7_put, Cond.instanceMethod yX7_put, Cond.selects RX7 yX7_put yX7_put, Cond.code yX7_put cX7_put 4 none, Cond.methodLink RL 91 yX10_laddersOf, Cond.instanceMethod yX10_laddersOf, Cond.selects RX10 yX10_laddersOf yX10_laddersOf, Cond.code yX10_laddersOf cX10_laddersOf 2 (some .int), Cond.methodLink RX10 262 yX3_fromTheGround]
def wsL_arePamphlets_r5 : List Cond := [Cond.instanceMethod yX3_fromTheGround, Cond.selects RX3 yX3_fromTheGround yX3_fromTheGround, Cond.code yX3_fromTheGround cX3_fromTheGround 6 (some .int), Cond.methodLink RL 94 yX10_answers, Cond.instanceMethod yX10_answers, Cond.selects RX10 yX10_answers yX10_answers, Cond.code yX10_answers cX10_answers 3 (some .boolean), Cond.methodLink RX10 256 yX4_quotes, Cond.methodLink RL 98 yX10_readingOf, Cond.instanceMethod yX10_readingOf, Cond.selects RX10 yX10_readingOf yX10_readingOf, Cond.code yX10_readingOf cX10_readingOf 2 (some .int), Cond.methodLink RX10 265 yX3_gatherReading, Cond.instanceMethod yX3_gatherReading, Cond.selects RX3 yX3_gatherReading yX3_gatherReading, Cond.code yX3_gatherReading cX3_gatherReading 5 (some .int), Cond.methodLink RX3 50 yX3_markSources, Cond.instanceMethod yX3_markSources, Cond.selects RX3 yX3_markSources yX3_markSources, Cond.code yX3_markSources cX3_markSources 3 none, Cond.methodLink RL 101 yX10_readAt, Cond.instanceMethod yX10_readAt, Cond.selects RX10 yX10_readAt yX10_readAt, Cond.code yX10_readAt cX10_readAt 3 (some .int)]
def wsL_arePamphlets_r6 : List Cond := [Cond.methodLink RX10 268 yX10_needPlace, Cond.static yX10_needPlace, Cond.code yX10_needPlace cX10_needPlace 2 none, Cond.methodLink RX10 271 yX3_readIn, Cond.instanceMethod yX3_readIn, Cond.selects RX3 yX3_readIn yX3_readIn, Cond.code yX3_readIn cX3_readIn 4 (some .int), Cond.methodLink RL 57 yX10_dayOf, Cond.instanceMethod yX10_dayOf, Cond.selects RX10 yX10_dayOf yX10_dayOf, Cond.code yX10_dayOf cX10_dayOf 2 (some .int), Cond.methodLink RL 104 yX10_day, Cond.instanceMethod yX10_day, Cond.selects RX10 yX10_day yX10_day, Cond.code yX10_day cX10_day 1 (some .int)]
def wsL_arePamphlets : List Cond := .code yL_arePamphlets cL_arePamphlets 10 (some .boolean) :: ((wsL_arePamphlets_r1 ++ (wsL_arePamphlets_r2 ++ (wsL_arePamphlets_r3 ++ (wsL_arePamphlets_r4 ++ (wsL_arePamphlets_r5 ++ wsL_arePamphlets_r6))))) ++ wsX100 ++ wsX90 ++ wsX40 ++ wsX70 ++ wsX30 ++ (vx_atS RX10 156 "java/lang/IndexOutOfBoundsException" ["java/lang/RuntimeException", "java/lang/Exception"]).filter goodWord)
def wsL_isBlame_r1 : List Cond := [Cond.methodLink RL 79 yX10_pamphlets, Cond.instanceMethod yX10_pamphlets, Cond.selects RX10 yX10_pamphlets yX10_pamphlets, Cond.initialized RX10, Cond.code yX10_pamphlets cX10_pamphlets 1 (some .int), Cond.fieldLink RX10 10 "PamphletQuarrel" "state" "LPamphletQuarrel$State;", Cond.methodLink RL 82 yX10_quotationsOf, Cond.instanceMethod yX10_quotationsOf, Cond.selects RX10 yX10_quotationsOf yX10_quotationsOf, Cond.code yX10_quotationsOf cX10_quotationsOf 2 (some .int), Cond.methodLink RX10 139 yX10_needPamphlet, Cond.instanceMethod yX10_needPamphlet, Cond.selects RX10 yX10_needPamphlet yX10_needPamphlet, Cond.code yX10_needPamphlet cX10_needPamphlet 2 none, Cond.classLink RX10 152 "java/lang/IndexOutOfBoundsException", Cond.initialized "java/lang/IndexOutOfBoundsException", Cond.methodLink RX10 315 yX9_has, Cond.instanceMethod yX9_has, Cond.selects RX9 yX9_has yX9_has, Cond.initialized RX9, Cond.code yX9_has cX9_has 2 (some .boolean), Cond.fieldLink RX9 22 "PamphletQuarrel$State" "count" "I", Cond.methodLink RX10 128 yX9_at, Cond.instanceMethod yX9_at]
def wsL_isBlame_r2 : List Cond := [Cond.selects RX9 yX9_at yX9_at, Cond.code yX9_at cX9_at 3 (some (.object "PamphletQuarrel$Pamphlet")), Cond.fieldLink RX9 11 "PamphletQuarrel$State" "printed" "[LPamphletQuarrel$Pamphlet;", Cond.fieldLink RX9 18 "PamphletQuarrel$State" "blank" "LPamphletQuarrel$Pamphlet;", Cond.methodLink RL 39 yX10_changesByTable, Cond.instanceMethod yX10_changesByTable, Cond.selects RX10 yX10_changesByTable yX10_changesByTable, Cond.code yX10_changesByTable cX10_changesByTable 3 (some .int), Cond.fieldLink RX10 40 "PamphletQuarrel" "quotations" "LPamphletQuarrel$Quotations;", Cond.methodLink RX10 102 yX10_needQuotation, Cond.instanceMethod yX10_needQuotation, Cond.selects RX10 yX10_needQuotation yX10_needQuotation, Cond.code yX10_needQuotation cX10_needQuotation 3 none, Cond.methodLink RX10 106 yX5_find, Cond.instanceMethod yX5_find, Cond.selects RX5 yX5_find yX5_find, Cond.initialized RX5, Cond.code yX5_find cX5_find 5 (some .int), Cond.fieldLink RX5 12 "PamphletQuarrel$Quotations" "search" "LPamphletQuarrel$Search;", Cond.methodLink RX5 18 yX9_at, Cond.methodLink RX5 30 yX7_number, Cond.instanceMethod yX7_number, Cond.selects RX7 yX7_number yX7_number, Cond.initialized RX7]
def wsL_isBlame_r3 : List Cond := [Cond.code yX7_number cX7_number 2 (some .int), Cond.fieldLink RX7 13 "PamphletQuarrel$Row" "cells" "[J", Cond.methodLink RX5 36 yX8_byTable, Cond.instanceMethod yX8_byTable, Cond.selects RX8 yX8_byTable yX8_byTable, Cond.initialized RX8, Cond.code yX8_byTable cX8_byTable 7 none, Cond.fieldLink RX8 14 "PamphletQuarrel$Search" "cells" "LPamphletQuarrel$Row;", Cond.methodLink RX8 25 yX7_number, Cond.methodLink RX8 36 yX7_put, Cond.instanceMethod yX7_put, Cond.selects RX7 yX7_put yX7_put, Cond.code yX7_put cX7_put 4 none, Cond.methodLink RX8 43 yX7_at, Cond.instanceMethod yX7_at, Cond.selects RX7 yX7_at yX7_at, Cond.code yX7_at cX7_at 2 (some .long), Cond.methodLink RX8 47 yX8_takeWord, Cond.instanceMethod yX8_takeWord, Cond.selects RX8 yX8_takeWord yX8_takeWord, Cond.code yX8_takeWord cX8_takeWord 11 none, Cond.methodLink RX8 67 Lib.Math.min.name, Cond.static Lib.Math.min.name, Cond.initialized "java/lang/Math"]
def wsL_isBlame_r4 : List Cond := [Cond.code Lib.Math.min.name Lib.Math.min.code 2 (some .int), Cond.methodLink RX8 51 yX8_chooseEnd, Cond.instanceMethod yX8_chooseEnd, Cond.selects RX8 yX8_chooseEnd yX8_chooseEnd, Cond.code yX8_chooseEnd cX8_chooseEnd 4 none, Cond.fieldLink RX8 54 "PamphletQuarrel$Search" "changes" "I", Cond.fieldLink RX8 57 "PamphletQuarrel$Search" "begin" "I", Cond.fieldLink RX8 60 "PamphletQuarrel$Search" "length" "I", Cond.methodLink RL 107 yX10_quotedAgain, Cond.instanceMethod yX10_quotedAgain, Cond.selects RX10 yX10_quotedAgain yX10_quotedAgain, Cond.code yX10_quotedAgain cX10_quotedAgain 3 (some .int), Cond.methodLink RX10 241 yX5_children, Cond.instanceMethod yX5_children, Cond.selects RX5 yX5_children yX5_children, Cond.code yX5_children cX5_children 9 (some .int), Cond.methodLink RX5 51 yX5_find, Cond.methodLink RX5 77 yX4_isWithin, Cond.instanceMethod yX4_isWithin, Cond.selects RX4 yX4_isWithin yX4_isWithin, Cond.initialized RX4, Cond.code yX4_isWithin cX4_isWithin 5 (some .boolean), Cond.fieldLink RX4 23 "PamphletQuarrel$Pamphlet" "begins" "LPamphletQuarrel$Row;", Cond.fieldLink RX4 26 "PamphletQuarrel$Pamphlet" "lengths" "LPamphletQuarrel$Row;"]
def wsL_isBlame_r5 : List Cond := [Cond.methodLink RX4 50 yX7_number, Cond.methodLink RL 48 yX10_comesFrom, Cond.instanceMethod yX10_comesFrom, Cond.selects RX10 yX10_comesFrom yX10_comesFrom, Cond.code yX10_comesFrom cX10_comesFrom 3 (some .int), Cond.methodLink RX10 226 yX5_parent, Cond.instanceMethod yX5_parent, Cond.selects RX5 yX5_parent yX5_parent, Cond.code yX5_parent cX5_parent 5 (some .int), Cond.methodLink RX5 61 yX4_quotationAround, Cond.instanceMethod yX4_quotationAround, Cond.selects RX4 yX4_quotationAround yX4_quotationAround, Cond.code yX4_quotationAround cX4_quotationAround 4 (some .int), Cond.fieldLink RX4 39 "PamphletQuarrel$Pamphlet" "quotationCount" "I", Cond.methodLink RX4 54 yX4_isWithin, Cond.methodLink RL 110 yL_isQuotation, Cond.static yL_isQuotation, Cond.initialized RL, Cond.code yL_isQuotation cL_isQuotation 16 (some .boolean), Cond.methodLink RL 30 yX10_sourceOf, Cond.instanceMethod yX10_sourceOf, Cond.selects RX10 yX10_sourceOf yX10_sourceOf, Cond.code yX10_sourceOf cX10_sourceOf 3 (some .int), Cond.methodLink RX10 203 yX7_number]
def wsL_isBlame_r6 : List Cond := [Cond.methodLink RL 33 yX10_beginOf, Cond.instanceMethod yX10_beginOf, Cond.selects RX10 yX10_beginOf yX10_beginOf, Cond.code yX10_beginOf cX10_beginOf 3 (some .int), Cond.methodLink RL 36 yX10_lengthOf, Cond.instanceMethod yX10_lengthOf, Cond.selects RX10 yX10_lengthOf yX10_lengthOf, Cond.code yX10_lengthOf cX10_lengthOf 3 (some .int), Cond.methodLink RL 42 yX10_passageOf, Cond.instanceMethod yX10_passageOf, Cond.selects RX10 yX10_passageOf yX10_passageOf, Cond.code yX10_passageOf cX10_passageOf 3 (some .int), Cond.methodLink RL 45 yX10_passageLength, Cond.instanceMethod yX10_passageLength, Cond.selects RX10 yX10_passageLength yX10_passageLength, Cond.code yX10_passageLength cX10_passageLength 3 (some .int), Cond.methodLink RL 51 yX10_traceOf, Cond.instanceMethod yX10_traceOf, Cond.selects RX10 yX10_traceOf yX10_traceOf, Cond.code yX10_traceOf cX10_traceOf 3 (some .int), Cond.methodLink RX10 229 yX5_trace, Cond.instanceMethod yX5_trace, Cond.selects RX5 yX5_trace yX5_trace, Cond.code yX5_trace cX5_trace 6 none]
def wsL_isBlame_r7 : List Cond := [Cond.fieldLink RX5 65 "PamphletQuarrel$Quotations" "traced" "I", Cond.fieldLink RX5 48 "PamphletQuarrel$Quotations" "origin" "I", Cond.methodLink RX5 68 yX5_parent, Cond.methodLink RL 54 yX10_originOf, Cond.instanceMethod yX10_originOf, Cond.selects RX10 yX10_originOf yX10_originOf, Cond.code yX10_originOf cX10_originOf 3 (some .int), Cond.methodLink RL 57 yX10_dayOf, Cond.instanceMethod yX10_dayOf, Cond.selects RX10 yX10_dayOf yX10_dayOf, Cond.code yX10_dayOf cX10_dayOf 2 (some .int), Cond.methodLink RL 60 yX10_wordsOf, Cond.instanceMethod yX10_wordsOf, Cond.selects RX10 yX10_wordsOf yX10_wordsOf, Cond.code yX10_wordsOf cX10_wordsOf 2 (some .int), Cond.methodLink RL 63 yX10_changesByPassages, Cond.instanceMethod yX10_changesByPassages, Cond.selects RX10 yX10_changesByPassages yX10_changesByPassages, Cond.code yX10_changesByPassages cX10_changesByPassages 3 (some .int), Cond.methodLink RX10 213 yX5_findByPassages, Cond.instanceMethod yX5_findByPassages, Cond.selects RX5 yX5_findByPassages yX5_findByPassages, Cond.code yX5_findByPassages cX5_findByPassages 6 (some .int), Cond.methodLink RX5 44 yX8_byPassages]
def wsL_isBlame_r8 : List Cond := [Cond.instanceMethod yX8_byPassages, Cond.selects RX8 yX8_byPassages yX8_byPassages, Cond.code yX8_byPassages cX8_byPassages 7 (some .int), Cond.methodLink RX8 63 yX8_leastFrom, Cond.instanceMethod yX8_leastFrom, Cond.selects RX8 yX8_leastFrom yX8_leastFrom, Cond.code yX8_leastFrom cX8_leastFrom 9 (some .int), Cond.methodLink RL 66 yX10_isSameWord, Cond.instanceMethod yX10_isSameWord, Cond.selects RX10 yX10_isSameWord yX10_isSameWord, Cond.code yX10_isSameWord cX10_isSameWord 5 (some .boolean), Cond.methodLink RX10 163 yX10_needWord, Cond.instanceMethod yX10_needWord, Cond.selects RX10 yX10_needWord yX10_needWord, Cond.code yX10_needWord cX10_needWord 3 none, Cond.methodLink RX10 173 yX7_at, Cond.methodLink RL 70 yX10_pageOf, Cond.instanceMethod yX10_pageOf, Cond.selects RX10 yX10_pageOf yX10_pageOf, Cond.code yX10_pageOf cX10_pageOf 3 (some .int), Cond.methodLink RL 73 yX10_wordsOn, Cond.instanceMethod yX10_wordsOn, Cond.selects RX10 yX10_wordsOn yX10_wordsOn, Cond.code yX10_wordsOn cX10_wordsOn 4 (some .int)]
def wsL_isBlame_r9 : List Cond := [Cond.methodLink RX10 157 Lib.Math.min.name, Cond.methodLink RX10 149 yX4_pageCount, Cond.instanceMethod yX4_pageCount, Cond.selects RX4 yX4_pageCount yX4_pageCount, Cond.code yX4_pageCount cX4_pageCount 1 (some .int), Cond.fieldLink RX4 36 "PamphletQuarrel$Pamphlet" "wordCount" "I", Cond.methodLink RL 76 yX10_changesAtOrigin, Cond.instanceMethod yX10_changesAtOrigin, Cond.selects RX10 yX10_changesAtOrigin yX10_changesAtOrigin, Cond.code yX10_changesAtOrigin cX10_changesAtOrigin 3 (some .int), Cond.methodLink RX10 238 yX5_findAtOrigin, Cond.instanceMethod yX5_findAtOrigin, Cond.selects RX5 yX5_findAtOrigin yX5_findAtOrigin, Cond.code yX5_findAtOrigin cX5_findAtOrigin 4 (some .int), Cond.methodLink RL 116 yX10_blameOf, Cond.instanceMethod yX10_blameOf, Cond.selects RX10 yX10_blameOf yX10_blameOf, Cond.code yX10_blameOf cX10_blameOf 2 (some .int), Cond.methodLink RX10 244 yX10_needAuthor, Cond.static yX10_needAuthor, Cond.code yX10_needAuthor cX10_needAuthor 1 none, Cond.methodLink RX10 58 yX10_isAuthor, Cond.static yX10_isAuthor, Cond.code yX10_isAuthor cX10_isAuthor 1 (some .boolean)]
def wsL_isBlame_r10 : List Cond := [Cond.methodLink RX10 247 yX5_changesWritten, Cond.instanceMethod yX5_changesWritten, Cond.selects RX5 yX5_changesWritten yX5_changesWritten, Cond.code yX5_changesWritten cX5_changesWritten 6 (some .int), Cond.methodLink RX5 102 yX5_changesIn, Cond.instanceMethod yX5_changesIn, Cond.selects RX5 yX5_changesIn yX5_changesIn, Cond.code yX5_changesIn cX5_changesIn 8 (some .int), Cond.methodLink RL 119 yX10_wrongs, Cond.instanceMethod yX10_wrongs, Cond.selects RX10 yX10_wrongs yX10_wrongs, Cond.code yX10_wrongs cX10_wrongs 3 (some .int), Cond.methodLink RL 122 yX10_blameByAuthors, Cond.instanceMethod yX10_blameByAuthors, Cond.selects RX10 yX10_blameByAuthors yX10_blameByAuthors, Cond.code yX10_blameByAuthors cX10_blameByAuthors 3 (some .int), Cond.methodLink RL 125 yX10_blameBySources, Cond.instanceMethod yX10_blameBySources, Cond.selects RX10 yX10_blameBySources yX10_blameBySources, Cond.code yX10_blameBySources cX10_blameBySources 3 (some .int), Cond.methodLink RX10 250 yX5_changesSuffered, Cond.instanceMethod yX5_changesSuffered, Cond.selects RX5 yX5_changesSuffered yX5_changesSuffered, Cond.code yX5_changesSuffered cX5_changesSuffered 7 (some .int)]
def wsL_isBlame_r11 : List Cond := [Cond.methodLink RL 128 yX10_faithfulShare, Cond.instanceMethod yX10_faithfulShare, Cond.selects RX10 yX10_faithfulShare yX10_faithfulShare, Cond.code yX10_faithfulShare cX10_faithfulShare 4 (some .double), Cond.methodLink RX10 253 yX5_faithfulIn, Cond.instanceMethod yX5_faithfulIn, Cond.selects RX5 yX5_faithfulIn yX5_faithfulIn, Cond.code yX5_faithfulIn cX5_faithfulIn 6 (some .int)]
def wsL_isBlame : List Cond := .code yL_isBlame cL_isBlame 10 (some .boolean) :: ((wsL_isBlame_r1 ++ (wsL_isBlame_r2 ++ (wsL_isBlame_r3 ++ (wsL_isBlame_r4 ++ (wsL_isBlame_r5 ++ (wsL_isBlame_r6 ++ (wsL_isBlame_r7 ++ (wsL_isBlame_r8 ++ (wsL_isBlame_r9 ++ (wsL_isBlame_r10 ++ wsL_isBlame_r11)))))))))) ++ wsX100 ++ wsX90 ++ wsX40 ++ wsX50 ++ wsX80 ++ wsX70 ++ (vx_atS RX10 156 "java/lang/IndexOutOfBoundsException" ["java/lang/RuntimeException", "java/lang/Exception"]).filter goodWord)
def wsL_isGlossary_r1 : List Cond := [Cond.methodLink RL 132 yX10_glossary, Cond.instanceMethod yX10_glossary, Cond.selects RX10 yX10_glossary yX10_glossary, Cond.initialized RX10, Cond.code yX10_glossary cX10_glossary 1 (some .int), Cond.fieldLink RX10 54 "PamphletQuarrel" "glossary" "LPamphletQuarrel$Glossary;", Cond.fieldLink RX10 10 "PamphletQuarrel" "state" "LPamphletQuarrel$State;", Cond.methodLink RX10 274 yX1_gather, Cond.instanceMethod yX1_gather, Cond.selects RX1 yX1_gather yX1_gather, Cond.initialized RX1, Cond.code yX1_gather cX1_gather 5 none, Cond.fieldLink RX1 23 "PamphletQuarrel$Glossary" "size" "I", Cond.methodLink RX1 32 yX9_at, Cond.instanceMethod yX9_at, Cond.selects RX9 yX9_at yX9_at, Cond.initialized RX9, Cond.code yX9_at cX9_at 3 (some (.object "PamphletQuarrel$Pamphlet")), Cond.fieldLink RX9 11 "PamphletQuarrel$State" "printed" "[LPamphletQuarrel$Pamphlet;", Cond.fieldLink RX9 18 "PamphletQuarrel$State" "blank" "LPamphletQuarrel$Pamphlet;", Cond.methodLink RX1 44 yX7_at, Cond.instanceMethod yX7_at, Cond.selects RX7 yX7_at yX7_at, Cond.initialized RX7]
def wsL_isGlossary_r2 : List Cond := [Cond.code yX7_at cX7_at 2 (some .long), Cond.fieldLink RX7 13 "PamphletQuarrel$Row" "cells" "[J", Cond.methodLink RX1 47 yX1_count, Cond.instanceMethod yX1_count, Cond.selects RX1 yX1_count yX1_count, Cond.code yX1_count cX1_count 4 none, Cond.fieldLink RX1 14 "PamphletQuarrel$Glossary" "entries" "LPamphletQuarrel$Row;", Cond.fieldLink RX1 20 "PamphletQuarrel$Glossary" "times" "LPamphletQuarrel$Row;", Cond.methodLink RX1 53 yX7_put, Cond.instanceMethod yX7_put, Cond.selects RX7 yX7_put yX7_put, Cond.code yX7_put cX7_put 4 none, Cond.methodLink RX1 57 yX7_number, Cond.instanceMethod yX7_number, Cond.selects RX7 yX7_number yX7_number, Cond.code yX7_number cX7_number 2 (some .int), Cond.methodLink RX1 50 yX1_moveForward, Cond.instanceMethod yX1_moveForward, Cond.selects RX1 yX1_moveForward yX1_moveForward, Cond.code yX1_moveForward cX1_moveForward 6 none, Cond.methodLink RX1 61 yX1_isBefore, Cond.instanceMethod yX1_isBefore, Cond.selects RX1 yX1_isBefore yX1_isBefore, Cond.code yX1_isBefore cX1_isBefore 6 (some .boolean)]
def wsL_isGlossary_r3 : List Cond := [Cond.methodLink RL 79 yX10_pamphlets, Cond.instanceMethod yX10_pamphlets, Cond.selects RX10 yX10_pamphlets yX10_pamphlets, Cond.code yX10_pamphlets cX10_pamphlets 1 (some .int), Cond.methodLink RL 60 yX10_wordsOf, Cond.instanceMethod yX10_wordsOf, Cond.selects RX10 yX10_wordsOf yX10_wordsOf, Cond.code yX10_wordsOf cX10_wordsOf 2 (some .int), Cond.methodLink RX10 139 yX10_needPamphlet, Cond.instanceMethod yX10_needPamphlet, Cond.selects RX10 yX10_needPamphlet yX10_needPamphlet, Cond.code yX10_needPamphlet cX10_needPamphlet 2 none, Cond.classLink RX10 152 "java/lang/IndexOutOfBoundsException", Cond.initialized "java/lang/IndexOutOfBoundsException", Cond.methodLink RX10 315 yX9_has, Cond.instanceMethod yX9_has, Cond.selects RX9 yX9_has yX9_has, Cond.code yX9_has cX9_has 2 (some .boolean), Cond.fieldLink RX9 22 "PamphletQuarrel$State" "count" "I", Cond.methodLink RX10 128 yX9_at, Cond.methodLink RL 135 yX10_timesOf, Cond.instanceMethod yX10_timesOf, Cond.selects RX10 yX10_timesOf yX10_timesOf, Cond.code yX10_timesOf cX10_timesOf 2 (some .int)]
def wsL_isGlossary_r4 : List Cond := [Cond.methodLink RX10 268 yX10_needPlace, Cond.static yX10_needPlace, Cond.code yX10_needPlace cX10_needPlace 2 none, Cond.methodLink RX10 203 yX7_number, Cond.methodLink RL 138 yX10_glossaryLetter, Cond.instanceMethod yX10_glossaryLetter, Cond.selects RX10 yX10_glossaryLetter yX10_glossaryLetter, Cond.code yX10_glossaryLetter cX10_glossaryLetter 3 (some .int), Cond.methodLink RX10 166 yX10_needIndex, Cond.static yX10_needIndex, Cond.code yX10_needIndex cX10_needIndex 1 none, Cond.methodLink RX10 173 yX7_at, Cond.methodLink RX10 178 yX10_letterIn, Cond.static yX10_letterIn, Cond.code yX10_letterIn cX10_letterIn 4 (some .int)]
def wsL_isGlossary : List Cond := .code yL_isGlossary cL_isGlossary 10 (some .boolean) :: ((wsL_isGlossary_r1 ++ (wsL_isGlossary_r2 ++ (wsL_isGlossary_r3 ++ wsL_isGlossary_r4))) ++ wsX100 ++ wsX10 ++ wsX90 ++ wsX40 ++ wsX70 ++ (vx_atS RX10 156 "java/lang/IndexOutOfBoundsException" ["java/lang/RuntimeException", "java/lang/Exception"]).filter goodWord)
def wsL_holds_r1 : List Cond := [Cond.methodLink RL 141 yX10_errorPosition, Cond.instanceMethod yX10_errorPosition, Cond.selects RX10 yX10_errorPosition yX10_errorPosition, Cond.initialized RX10, Cond.code yX10_errorPosition cX10_errorPosition 1 (some .int), Cond.fieldLink RX10 33 "PamphletQuarrel" "reader" "LPamphletQuarrel$Reader;", Cond.fieldLink RX10 26 "PamphletQuarrel" "buffer" "LPamphletQuarrel$Buffer;", Cond.methodLink RX10 182 yX6_read, Cond.instanceMethod yX6_read, Cond.selects RX6 yX6_read yX6_read, Cond.initialized RX6, Cond.code yX6_read cX6_read 3 none, Cond.fieldLink RX6 12 "PamphletQuarrel$Reader" "text" "LPamphletQuarrel$Pamphlet;", Cond.fieldLink RX6 21 "PamphletQuarrel$Reader" "position" "I", Cond.fieldLink RX6 25 "PamphletQuarrel$Reader" "place" "I", Cond.methodLink RX6 18 yX4_empty, Cond.instanceMethod yX4_empty, Cond.selects RX4 yX4_empty yX4_empty, Cond.initialized RX4, Cond.code yX4_empty cX4_empty 1 none, Cond.fieldLink RX4 36 "PamphletQuarrel$Pamphlet" "wordCount" "I", Cond.fieldLink RX4 39 "PamphletQuarrel$Pamphlet" "quotationCount" "I", Cond.methodLink RX6 37 yX7_number, Cond.instanceMethod yX7_number]
def wsL_holds_r2 : List Cond := [Cond.selects RX7 yX7_number yX7_number, Cond.initialized RX7, Cond.code yX7_number cX7_number 2 (some .int), Cond.fieldLink RX7 13 "PamphletQuarrel$Row" "cells" "[J", Cond.methodLink RX6 43 yX6_placeAfter, Cond.instanceMethod yX6_placeAfter, Cond.selects RX6 yX6_placeAfter yX6_placeAfter, Cond.code yX6_placeAfter cX6_placeAfter 2 (some .int), Cond.methodLink RX6 46 yX6_afterOpening, Cond.instanceMethod yX6_afterOpening, Cond.selects RX6 yX6_afterOpening yX6_afterOpening, Cond.code yX6_afterOpening cX6_afterOpening 1 (some .int), Cond.fieldLink RX6 66 "PamphletQuarrel$Reader" "begin" "I", Cond.methodLink RX6 50 yX6_afterFirstLetter, Cond.instanceMethod yX6_afterFirstLetter, Cond.selects RX6 yX6_afterFirstLetter yX6_afterFirstLetter, Cond.code yX6_afterFirstLetter cX6_afterFirstLetter 3 (some .int), Cond.fieldLink RX6 77 "PamphletQuarrel$Reader" "letters" "I", Cond.static yX10_withLetter, Cond.code yX10_withLetter cX10_withLetter 4 (some .long), Cond.methodLink RX6 73 yX4_addWord, Cond.instanceMethod yX4_addWord, Cond.selects RX4 yX4_addWord yX4_addWord, Cond.code yX4_addWord cX4_addWord 3 none]
def wsL_holds_r3 : List Cond := [Cond.fieldLink RX4 14 "PamphletQuarrel$Pamphlet" "words" "LPamphletQuarrel$Row;", Cond.methodLink RX4 46 yX7_put, Cond.instanceMethod yX7_put, Cond.selects RX7 yX7_put yX7_put, Cond.code yX7_put cX7_put 4 none, Cond.methodLink RX6 54 yX6_afterLetter, Cond.instanceMethod yX6_afterLetter, Cond.selects RX6 yX6_afterLetter yX6_afterLetter, Cond.code yX6_afterLetter cX6_afterLetter 3 (some .int), Cond.methodLink RX6 83 yX7_at, Cond.instanceMethod yX7_at, Cond.selects RX7 yX7_at yX7_at, Cond.code yX7_at cX7_at 2 (some .long), Cond.methodLink RX6 87 yX7_put, Cond.methodLink RX6 57 yX6_afterFirstDigit, Cond.instanceMethod yX6_afterFirstDigit, Cond.selects RX6 yX6_afterFirstDigit yX6_afterFirstDigit, Cond.code yX6_afterFirstDigit cX6_afterFirstDigit 2 (some .int), Cond.methodLink RX6 91 yX4_addQuotation, Cond.instanceMethod yX4_addQuotation, Cond.selects RX4 yX4_addQuotation yX4_addQuotation, Cond.code yX4_addQuotation cX4_addQuotation 3 none, Cond.fieldLink RX4 20 "PamphletQuarrel$Pamphlet" "sources" "LPamphletQuarrel$Row;", Cond.fieldLink RX4 23 "PamphletQuarrel$Pamphlet" "begins" "LPamphletQuarrel$Row;"]
def wsL_holds_r4 : List Cond := [Cond.fieldLink RX4 26 "PamphletQuarrel$Pamphlet" "lengths" "LPamphletQuarrel$Row;", Cond.methodLink RX6 60 yX6_afterSecondDigit, Cond.instanceMethod yX6_afterSecondDigit, Cond.selects RX6 yX6_afterSecondDigit yX6_afterSecondDigit, Cond.code yX6_afterSecondDigit cX6_afterSecondDigit 2 (some .int), Cond.methodLink RL 144 yL_arePamphlets, Cond.static yL_arePamphlets, Cond.initialized RL, Cond.code yL_arePamphlets cL_arePamphlets 10 (some .boolean), Cond.methodLink RL 79 yX10_pamphlets, Cond.instanceMethod yX10_pamphlets, Cond.selects RX10 yX10_pamphlets yX10_pamphlets, Cond.code yX10_pamphlets cX10_pamphlets 1 (some .int), Cond.fieldLink RX10 10 "PamphletQuarrel" "state" "LPamphletQuarrel$State;", Cond.methodLink RL 60 yX10_wordsOf, Cond.instanceMethod yX10_wordsOf, Cond.selects RX10 yX10_wordsOf yX10_wordsOf, Cond.code yX10_wordsOf cX10_wordsOf 2 (some .int), Cond.methodLink RX10 139 yX10_needPamphlet, Cond.instanceMethod yX10_needPamphlet, Cond.selects RX10 yX10_needPamphlet yX10_needPamphlet, Cond.code yX10_needPamphlet cX10_needPamphlet 2 none, Cond.classLink RX10 152 "java/lang/IndexOutOfBoundsException", Cond.initialized "java/lang/IndexOutOfBoundsException"]
def wsL_holds_r5 : List Cond := [Cond.methodLink RX10 315 yX9_has, Cond.instanceMethod yX9_has, Cond.selects RX9 yX9_has yX9_has, Cond.initialized RX9, Cond.code yX9_has cX9_has 2 (some .boolean), Cond.fieldLink RX9 22 "PamphletQuarrel$State" "count" "I", Cond.methodLink RX10 128 yX9_at, Cond.instanceMethod yX9_at, Cond.selects RX9 yX9_at yX9_at, Cond.code yX9_at cX9_at 3 (some (.object "PamphletQuarrel$Pamphlet")), Cond.fieldLink RX9 11 "PamphletQuarrel$State" "printed" "[LPamphletQuarrel$Pamphlet;", Cond.fieldLink RX9 18 "PamphletQuarrel$State" "blank" "LPamphletQuarrel$Pamphlet;", Cond.methodLink RL 82 yX10_quotationsOf, Cond.instanceMethod yX10_quotationsOf, Cond.selects RX10 yX10_quotationsOf yX10_quotationsOf, Cond.code yX10_quotationsOf cX10_quotationsOf 2 (some .int), Cond.methodLink RL 85 yX10_pagesOf, Cond.instanceMethod yX10_pagesOf, Cond.selects RX10 yX10_pagesOf yX10_pagesOf, Cond.code yX10_pagesOf cX10_pagesOf 2 (some .int), Cond.methodLink RX10 149 yX4_pageCount, Cond.instanceMethod yX4_pageCount, Cond.selects RX4 yX4_pageCount yX4_pageCount, Cond.code yX4_pageCount cX4_pageCount 1 (some .int)]
def wsL_holds_r6 : List Cond := [Cond.methodLink RL 73 yX10_wordsOn, Cond.instanceMethod yX10_wordsOn, Cond.selects RX10 yX10_wordsOn yX10_wordsOn, Cond.code yX10_wordsOn cX10_wordsOn 4 (some .int), Cond.methodLink RX10 157 Lib.Math.min.name, Cond.static Lib.Math.min.name, Cond.initialized "java/lang/Math", Cond.code Lib.Math.min.name Lib.Math.min.code 2 (some .int), Cond.methodLink RL 30 yX10_sourceOf, Cond.instanceMethod yX10_sourceOf, Cond.selects RX10 yX10_sourceOf yX10_sourceOf, Cond.code yX10_sourceOf cX10_sourceOf 3 (some .int), Cond.methodLink RX10 102 yX10_needQuotation, Cond.instanceMethod yX10_needQuotation, Cond.selects RX10 yX10_needQuotation yX10_needQuotation, Cond.code yX10_needQuotation cX10_needQuotation 3 none, Cond.methodLink RX10 203 yX7_number, Cond.methodLink RL 88 yX10_ladderOf, Cond.instanceMethod yX10_ladderOf, Cond.selects RX10 yX10_ladderOf yX10_ladderOf, Cond.code yX10_ladderOf cX10_ladderOf 2 (some .int), Cond.fieldLink RX10 47 "PamphletQuarrel" "ladders" "LPamphletQuarrel$Ladders;", Cond.methodLink RX10 259 yX3_longest, Cond.instanceMethod yX3_longest]
def wsL_holds_r7 : List Cond := [Cond.selects RX3 yX3_longest yX3_longest, Cond.initialized RX3, Cond.code yX3_longest cX3_longest 6 (some .int), Cond.fieldLink RX3 14 "PamphletQuarrel$Ladders" "tallies" "LPamphletQuarrel$Row;", Cond.methodLink RX3 36 Lib.Math.max.name, Cond.static Lib.Math.max.name, Cond.code Lib.Math.max.name Lib.Math.max.code 2 (some .int), Cond.methodLink RX3 20 yX9_at, Cond.methodLink RX3 26 yX4_quotes, Cond.instanceMethod yX4_quotes, Cond.selects RX4 yX4_quotes yX4_quotes, Cond.code yX4_quotes cX4_quotes 3 (some .boolean), Cond.methodLink RX4 50 yX7_number, Cond.methodLink RX3 32 yX7_number, Cond.methodLink RX3 42 yX7_put, Cond.methodLink RL 91 yX10_laddersOf, Cond.instanceMethod yX10_laddersOf, Cond.selects RX10 yX10_laddersOf yX10_laddersOf, Cond.code yX10_laddersOf cX10_laddersOf 2 (some .int), Cond.methodLink RX10 262 yX3_fromTheGround, Cond.instanceMethod yX3_fromTheGround, Cond.selects RX3 yX3_fromTheGround yX3_fromTheGround, Cond.code yX3_fromTheGround cX3_fromTheGround 6 (some .int), Cond.methodLink RL 94 yX10_answers]
def wsL_holds_r8 : List Cond := [Cond.instanceMethod yX10_answers, Cond.selects RX10 yX10_answers yX10_answers, Cond.code yX10_answers cX10_answers 3 (some .boolean), Cond.methodLink RX10 256 yX4_quotes, Cond.methodLink RL 98 yX10_readingOf, Cond.instanceMethod yX10_readingOf, Cond.selects RX10 yX10_readingOf yX10_readingOf, Cond.code yX10_readingOf cX10_readingOf 2 (some .int), Cond.methodLink RX10 265 yX3_gatherReading, Cond.instanceMethod yX3_gatherReading, Cond.selects RX3 yX3_gatherReading yX3_gatherReading, Cond.code yX3_gatherReading cX3_gatherReading 5 (some .int), Cond.methodLink RX3 50 yX3_markSources, Cond.instanceMethod yX3_markSources, Cond.selects RX3 yX3_markSources yX3_markSources, Cond.code yX3_markSources cX3_markSources 3 none, Cond.methodLink RL 101 yX10_readAt, Cond.instanceMethod yX10_readAt, Cond.selects RX10 yX10_readAt yX10_readAt, Cond.code yX10_readAt cX10_readAt 3 (some .int), Cond.methodLink RX10 268 yX10_needPlace, Cond.static yX10_needPlace, Cond.code yX10_needPlace cX10_needPlace 2 none, Cond.methodLink RX10 271 yX3_readIn]
def wsL_holds_r9 : List Cond := [Cond.instanceMethod yX3_readIn, Cond.selects RX3 yX3_readIn yX3_readIn, Cond.code yX3_readIn cX3_readIn 4 (some .int), Cond.methodLink RL 57 yX10_dayOf, Cond.instanceMethod yX10_dayOf, Cond.selects RX10 yX10_dayOf yX10_dayOf, Cond.code yX10_dayOf cX10_dayOf 2 (some .int), Cond.methodLink RL 104 yX10_day, Cond.instanceMethod yX10_day, Cond.selects RX10 yX10_day yX10_day, Cond.code yX10_day cX10_day 1 (some .int), Cond.methodLink RL 148 yL_isBlame, Cond.static yL_isBlame, Cond.code yL_isBlame cL_isBlame 10 (some .boolean), Cond.methodLink RL 39 yX10_changesByTable, Cond.instanceMethod yX10_changesByTable, Cond.selects RX10 yX10_changesByTable yX10_changesByTable, Cond.code yX10_changesByTable cX10_changesByTable 3 (some .int), Cond.fieldLink RX10 40 "PamphletQuarrel" "quotations" "LPamphletQuarrel$Quotations;", Cond.methodLink RX10 106 yX5_find, Cond.instanceMethod yX5_find, Cond.selects RX5 yX5_find yX5_find, Cond.initialized RX5, Cond.code yX5_find cX5_find 5 (some .int)]
def wsL_holds_r10 : List Cond := [Cond.fieldLink RX5 12 "PamphletQuarrel$Quotations" "search" "LPamphletQuarrel$Search;", Cond.methodLink RX5 18 yX9_at, Cond.methodLink RX5 30 yX7_number, Cond.methodLink RX5 36 yX8_byTable, Cond.instanceMethod yX8_byTable, Cond.selects RX8 yX8_byTable yX8_byTable, Cond.initialized RX8, Cond.code yX8_byTable cX8_byTable 7 none, Cond.fieldLink RX8 14 "PamphletQuarrel$Search" "cells" "LPamphletQuarrel$Row;", Cond.methodLink RX8 25 yX7_number, Cond.methodLink RX8 36 yX7_put, Cond.methodLink RX8 43 yX7_at, Cond.methodLink RX8 47 yX8_takeWord, Cond.instanceMethod yX8_takeWord, Cond.selects RX8 yX8_takeWord yX8_takeWord, Cond.code yX8_takeWord cX8_takeWord 11 none, Cond.methodLink RX8 67 Lib.Math.min.name, Cond.methodLink RX8 51 yX8_chooseEnd, Cond.instanceMethod yX8_chooseEnd, Cond.selects RX8 yX8_chooseEnd yX8_chooseEnd, Cond.code yX8_chooseEnd cX8_chooseEnd 4 none, Cond.fieldLink RX8 54 "PamphletQuarrel$Search" "changes" "I", Cond.fieldLink RX8 57 "PamphletQuarrel$Search" "begin" "I", Cond.fieldLink RX8 60 "PamphletQuarrel$Search" "length" "I"]
def wsL_holds_r11 : List Cond := [Cond.methodLink RL 107 yX10_quotedAgain, Cond.instanceMethod yX10_quotedAgain, Cond.selects RX10 yX10_quotedAgain yX10_quotedAgain, Cond.code yX10_quotedAgain cX10_quotedAgain 3 (some .int), Cond.methodLink RX10 241 yX5_children, Cond.instanceMethod yX5_children, Cond.selects RX5 yX5_children yX5_children, Cond.code yX5_children cX5_children 9 (some .int), Cond.methodLink RX5 51 yX5_find, Cond.methodLink RX5 77 yX4_isWithin, Cond.instanceMethod yX4_isWithin, Cond.selects RX4 yX4_isWithin yX4_isWithin, Cond.code yX4_isWithin cX4_isWithin 5 (some .boolean), Cond.methodLink RL 48 yX10_comesFrom, Cond.instanceMethod yX10_comesFrom, Cond.selects RX10 yX10_comesFrom yX10_comesFrom, Cond.code yX10_comesFrom cX10_comesFrom 3 (some .int), Cond.methodLink RX10 226 yX5_parent, Cond.instanceMethod yX5_parent, Cond.selects RX5 yX5_parent yX5_parent, Cond.code yX5_parent cX5_parent 5 (some .int), Cond.methodLink RX5 61 yX4_quotationAround, Cond.instanceMethod yX4_quotationAround, Cond.selects RX4 yX4_quotationAround yX4_quotationAround]
def wsL_holds_r12 : List Cond := [Cond.code yX4_quotationAround cX4_quotationAround 4 (some .int), Cond.methodLink RX4 54 yX4_isWithin, Cond.methodLink RL 110 yL_isQuotation, Cond.static yL_isQuotation, Cond.code yL_isQuotation cL_isQuotation 16 (some .boolean), Cond.methodLink RL 33 yX10_beginOf, Cond.instanceMethod yX10_beginOf, Cond.selects RX10 yX10_beginOf yX10_beginOf, Cond.code yX10_beginOf cX10_beginOf 3 (some .int), Cond.methodLink RL 36 yX10_lengthOf, Cond.instanceMethod yX10_lengthOf, Cond.selects RX10 yX10_lengthOf yX10_lengthOf, Cond.code yX10_lengthOf cX10_lengthOf 3 (some .int), Cond.methodLink RL 42 yX10_passageOf, Cond.instanceMethod yX10_passageOf, Cond.selects RX10 yX10_passageOf yX10_passageOf, Cond.code yX10_passageOf cX10_passageOf 3 (some .int), Cond.methodLink RL 45 yX10_passageLength, Cond.instanceMethod yX10_passageLength, Cond.selects RX10 yX10_passageLength yX10_passageLength, Cond.code yX10_passageLength cX10_passageLength 3 (some .int), Cond.methodLink RL 51 yX10_traceOf, Cond.instanceMethod yX10_traceOf, Cond.selects RX10 yX10_traceOf yX10_traceOf]
def wsL_holds_r13 : List Cond := [Cond.code yX10_traceOf cX10_traceOf 3 (some .int), Cond.methodLink RX10 229 yX5_trace, Cond.instanceMethod yX5_trace, Cond.selects RX5 yX5_trace yX5_trace, Cond.code yX5_trace cX5_trace 6 none, Cond.fieldLink RX5 65 "PamphletQuarrel$Quotations" "traced" "I", Cond.fieldLink RX5 48 "PamphletQuarrel$Quotations" "origin" "I", Cond.methodLink RX5 68 yX5_parent, Cond.methodLink RL 54 yX10_originOf, Cond.instanceMethod yX10_originOf, Cond.selects RX10 yX10_originOf yX10_originOf, Cond.code yX10_originOf cX10_originOf 3 (some .int), Cond.methodLink RL 63 yX10_changesByPassages, Cond.instanceMethod yX10_changesByPassages, Cond.selects RX10 yX10_changesByPassages yX10_changesByPassages, Cond.code yX10_changesByPassages cX10_changesByPassages 3 (some .int), Cond.methodLink RX10 213 yX5_findByPassages, Cond.instanceMethod yX5_findByPassages, Cond.selects RX5 yX5_findByPassages yX5_findByPassages, Cond.code yX5_findByPassages cX5_findByPassages 6 (some .int), Cond.methodLink RX5 44 yX8_byPassages, Cond.instanceMethod yX8_byPassages, Cond.selects RX8 yX8_byPassages yX8_byPassages, Cond.code yX8_byPassages cX8_byPassages 7 (some .int)]
def wsL_holds_r14 : List Cond := [Cond.methodLink RX8 63 yX8_leastFrom, Cond.instanceMethod yX8_leastFrom, Cond.selects RX8 yX8_leastFrom yX8_leastFrom, Cond.code yX8_leastFrom cX8_leastFrom 9 (some .int), Cond.methodLink RL 66 yX10_isSameWord, Cond.instanceMethod yX10_isSameWord, Cond.selects RX10 yX10_isSameWord yX10_isSameWord, Cond.code yX10_isSameWord cX10_isSameWord 5 (some .boolean), Cond.methodLink RX10 163 yX10_needWord, Cond.instanceMethod yX10_needWord, Cond.selects RX10 yX10_needWord yX10_needWord, Cond.code yX10_needWord cX10_needWord 3 none, Cond.methodLink RX10 173 yX7_at, Cond.methodLink RL 70 yX10_pageOf, Cond.instanceMethod yX10_pageOf, Cond.selects RX10 yX10_pageOf yX10_pageOf, Cond.code yX10_pageOf cX10_pageOf 3 (some .int), Cond.methodLink RL 76 yX10_changesAtOrigin, Cond.instanceMethod yX10_changesAtOrigin, Cond.selects RX10 yX10_changesAtOrigin yX10_changesAtOrigin, Cond.code yX10_changesAtOrigin cX10_changesAtOrigin 3 (some .int), Cond.methodLink RX10 238 yX5_findAtOrigin, Cond.instanceMethod yX5_findAtOrigin, Cond.selects RX5 yX5_findAtOrigin yX5_findAtOrigin]
def wsL_holds_r15 : List Cond := [Cond.code yX5_findAtOrigin cX5_findAtOrigin 4 (some .int), Cond.methodLink RL 116 yX10_blameOf, Cond.instanceMethod yX10_blameOf, Cond.selects RX10 yX10_blameOf yX10_blameOf, Cond.code yX10_blameOf cX10_blameOf 2 (some .int), Cond.methodLink RX10 244 yX10_needAuthor, Cond.static yX10_needAuthor, Cond.code yX10_needAuthor cX10_needAuthor 1 none, Cond.methodLink RX10 58 yX10_isAuthor, Cond.static yX10_isAuthor, Cond.code yX10_isAuthor cX10_isAuthor 1 (some .boolean), Cond.methodLink RX10 247 yX5_changesWritten, Cond.instanceMethod yX5_changesWritten, Cond.selects RX5 yX5_changesWritten yX5_changesWritten, Cond.code yX5_changesWritten cX5_changesWritten 6 (some .int), Cond.methodLink RX5 102 yX5_changesIn, Cond.instanceMethod yX5_changesIn, Cond.selects RX5 yX5_changesIn yX5_changesIn, Cond.code yX5_changesIn cX5_changesIn 8 (some .int), Cond.methodLink RL 119 yX10_wrongs, Cond.instanceMethod yX10_wrongs, Cond.selects RX10 yX10_wrongs yX10_wrongs, Cond.code yX10_wrongs cX10_wrongs 3 (some .int), Cond.methodLink RL 122 yX10_blameByAuthors]
def wsL_holds_r16 : List Cond := [Cond.instanceMethod yX10_blameByAuthors, Cond.selects RX10 yX10_blameByAuthors yX10_blameByAuthors, Cond.code yX10_blameByAuthors cX10_blameByAuthors 3 (some .int), Cond.methodLink RL 125 yX10_blameBySources, Cond.instanceMethod yX10_blameBySources, Cond.selects RX10 yX10_blameBySources yX10_blameBySources, Cond.code yX10_blameBySources cX10_blameBySources 3 (some .int), Cond.methodLink RX10 250 yX5_changesSuffered, Cond.instanceMethod yX5_changesSuffered, Cond.selects RX5 yX5_changesSuffered yX5_changesSuffered, Cond.code yX5_changesSuffered cX5_changesSuffered 7 (some .int), Cond.methodLink RL 128 yX10_faithfulShare, Cond.instanceMethod yX10_faithfulShare, Cond.selects RX10 yX10_faithfulShare yX10_faithfulShare, Cond.code yX10_faithfulShare cX10_faithfulShare 4 (some .double), Cond.methodLink RX10 253 yX5_faithfulIn, Cond.instanceMethod yX5_faithfulIn, Cond.selects RX5 yX5_faithfulIn yX5_faithfulIn, Cond.code yX5_faithfulIn cX5_faithfulIn 6 (some .int), Cond.methodLink RL 151 yL_isGlossary, Cond.static yL_isGlossary, Cond.code yL_isGlossary cL_isGlossary 10 (some .boolean), Cond.methodLink RL 132 yX10_glossary, Cond.instanceMethod yX10_glossary]
def wsL_holds_r17 : List Cond := [Cond.selects RX10 yX10_glossary yX10_glossary, Cond.code yX10_glossary cX10_glossary 1 (some .int), Cond.fieldLink RX10 54 "PamphletQuarrel" "glossary" "LPamphletQuarrel$Glossary;", Cond.methodLink RX10 274 yX1_gather, Cond.instanceMethod yX1_gather, Cond.selects RX1 yX1_gather yX1_gather, Cond.initialized RX1, Cond.code yX1_gather cX1_gather 5 none, Cond.fieldLink RX1 23 "PamphletQuarrel$Glossary" "size" "I", Cond.methodLink RX1 32 yX9_at, Cond.methodLink RX1 44 yX7_at, Cond.methodLink RX1 47 yX1_count, Cond.instanceMethod yX1_count, Cond.selects RX1 yX1_count yX1_count, Cond.code yX1_count cX1_count 4 none, Cond.fieldLink RX1 14 "PamphletQuarrel$Glossary" "entries" "LPamphletQuarrel$Row;", Cond.fieldLink RX1 20 "PamphletQuarrel$Glossary" "times" "LPamphletQuarrel$Row;", Cond.methodLink RX1 53 yX7_put, Cond.methodLink RX1 57 yX7_number, Cond.methodLink RX1 50 yX1_moveForward, Cond.instanceMethod yX1_moveForward, Cond.selects RX1 yX1_moveForward yX1_moveForward, Cond.code yX1_moveForward cX1_moveForward 6 none, Cond.methodLink RX1 61 yX1_isBefore]
def wsL_holds_r18 : List Cond := [Cond.instanceMethod yX1_isBefore, Cond.selects RX1 yX1_isBefore yX1_isBefore, Cond.code yX1_isBefore cX1_isBefore 6 (some .boolean), Cond.methodLink RL 135 yX10_timesOf, Cond.instanceMethod yX10_timesOf, Cond.selects RX10 yX10_timesOf yX10_timesOf, Cond.code yX10_timesOf cX10_timesOf 2 (some .int), Cond.methodLink RL 138 yX10_glossaryLetter, Cond.instanceMethod yX10_glossaryLetter, Cond.selects RX10 yX10_glossaryLetter yX10_glossaryLetter, Cond.code yX10_glossaryLetter cX10_glossaryLetter 3 (some .int), Cond.methodLink RX10 166 yX10_needIndex, Cond.static yX10_needIndex, Cond.code yX10_needIndex cX10_needIndex 1 none, Cond.methodLink RX10 178 yX10_letterIn, Cond.static yX10_letterIn, Cond.code yX10_letterIn cX10_letterIn 4 (some .int), Cond.methodLink RL 154 yX10_whyNotPrinted, Cond.instanceMethod yX10_whyNotPrinted, Cond.selects RX10 yX10_whyNotPrinted yX10_whyNotPrinted, Cond.code yX10_whyNotPrinted cX10_whyNotPrinted 1 (some .int), Cond.methodLink RX10 186 yX6_isAtEndOfText, Cond.instanceMethod yX6_isAtEndOfText, Cond.selects RX6 yX6_isAtEndOfText yX6_isAtEndOfText]
def wsL_holds_r19 : List Cond := [Cond.code yX6_isAtEndOfText cX6_isAtEndOfText 2 (some .boolean), Cond.methodLink RX10 190 yX9_hasSourcesOf, Cond.instanceMethod yX9_hasSourcesOf, Cond.selects RX9 yX9_hasSourcesOf yX9_hasSourcesOf, Cond.code yX9_hasSourcesOf cX9_hasSourcesOf 3 (some .boolean), Cond.methodLink RX9 50 yX7_number, Cond.methodLink RX9 56 yX9_has, Cond.methodLink RX10 194 yX9_isSourceOfToday, Cond.instanceMethod yX9_isSourceOfToday, Cond.selects RX9 yX9_isSourceOfToday yX9_isSourceOfToday, Cond.code yX9_isSourceOfToday cX9_isSourceOfToday 3 (some .boolean), Cond.fieldLink RX9 26 "PamphletQuarrel$State" "today" "I", Cond.methodLink RX9 29 yX9_at]
def wsL_holds : List Cond := .code yL_holds cL_holds 3 (some .boolean) :: ((wsL_holds_r1 ++ (wsL_holds_r2 ++ (wsL_holds_r3 ++ (wsL_holds_r4 ++ (wsL_holds_r5 ++ (wsL_holds_r6 ++ (wsL_holds_r7 ++ (wsL_holds_r8 ++ (wsL_holds_r9 ++ (wsL_holds_r10 ++ (wsL_holds_r11 ++ (wsL_holds_r12 ++ (wsL_holds_r13 ++ (wsL_holds_r14 ++ (wsL_holds_r15 ++ (wsL_holds_r16 ++ (wsL_holds_r17 ++ (wsL_holds_r18 ++ wsL_holds_r19)))))))))))))))))) ++ wsX100 ++ wsX60 ++ wsX00 ++ wsX40 ++ wsX70 ++ wsX90 ++ wsX30 ++ wsX50 ++ wsX80 ++ wsX10 ++ (vx_atS RX10 156 "java/lang/IndexOutOfBoundsException" ["java/lang/RuntimeException", "java/lang/Exception"]).filter goodWord)
def wsL_tale_r1 : List Cond := [Cond.constantLong RL 157 (31), Cond.methodLink RL 104 yX10_day, Cond.instanceMethod yX10_day, Cond.selects RX10 yX10_day yX10_day, Cond.initialized RX10, Cond.code yX10_day cX10_day 1 (some .int), Cond.fieldLink RX10 10 "PamphletQuarrel" "state" "LPamphletQuarrel$State;", Cond.methodLink RL 79 yX10_pamphlets, Cond.instanceMethod yX10_pamphlets, Cond.selects RX10 yX10_pamphlets yX10_pamphlets, Cond.code yX10_pamphlets cX10_pamphlets 1 (some .int), Cond.methodLink RL 159 yX10_authorOf, Cond.instanceMethod yX10_authorOf, Cond.selects RX10 yX10_authorOf yX10_authorOf, Cond.code yX10_authorOf cX10_authorOf 2 (some .int), Cond.methodLink RX10 139 yX10_needPamphlet, Cond.instanceMethod yX10_needPamphlet, Cond.selects RX10 yX10_needPamphlet yX10_needPamphlet, Cond.code yX10_needPamphlet cX10_needPamphlet 2 none, Cond.classLink RX10 152 "java/lang/IndexOutOfBoundsException", Cond.initialized "java/lang/IndexOutOfBoundsException", Cond.methodLink RX10 315 yX9_has, Cond.instanceMethod yX9_has, Cond.selects RX9 yX9_has yX9_has]
def wsL_tale_r2 : List Cond := [Cond.initialized RX9, Cond.code yX9_has cX9_has 2 (some .boolean), Cond.fieldLink RX9 22 "PamphletQuarrel$State" "count" "I", Cond.methodLink RX10 128 yX9_at, Cond.instanceMethod yX9_at, Cond.selects RX9 yX9_at yX9_at, Cond.code yX9_at cX9_at 3 (some (.object "PamphletQuarrel$Pamphlet")), Cond.fieldLink RX9 11 "PamphletQuarrel$State" "printed" "[LPamphletQuarrel$Pamphlet;", Cond.fieldLink RX9 18 "PamphletQuarrel$State" "blank" "LPamphletQuarrel$Pamphlet;", Cond.methodLink RL 57 yX10_dayOf, Cond.instanceMethod yX10_dayOf, Cond.selects RX10 yX10_dayOf yX10_dayOf, Cond.code yX10_dayOf cX10_dayOf 2 (some .int), Cond.methodLink RL 60 yX10_wordsOf, Cond.instanceMethod yX10_wordsOf, Cond.selects RX10 yX10_wordsOf yX10_wordsOf, Cond.code yX10_wordsOf cX10_wordsOf 2 (some .int), Cond.methodLink RL 162 yX10_letterOf, Cond.instanceMethod yX10_letterOf, Cond.selects RX10 yX10_letterOf yX10_letterOf, Cond.code yX10_letterOf cX10_letterOf 4 (some .int), Cond.methodLink RX10 163 yX10_needWord, Cond.instanceMethod yX10_needWord, Cond.selects RX10 yX10_needWord yX10_needWord]
def wsL_tale_r3 : List Cond := [Cond.code yX10_needWord cX10_needWord 3 none, Cond.methodLink RX10 166 yX10_needIndex, Cond.static yX10_needIndex, Cond.code yX10_needIndex cX10_needIndex 1 none, Cond.methodLink RX10 173 yX7_at, Cond.instanceMethod yX7_at, Cond.selects RX7 yX7_at yX7_at, Cond.initialized RX7, Cond.code yX7_at cX7_at 2 (some .long), Cond.fieldLink RX7 13 "PamphletQuarrel$Row" "cells" "[J", Cond.methodLink RX10 178 yX10_letterIn, Cond.static yX10_letterIn, Cond.code yX10_letterIn cX10_letterIn 4 (some .int), Cond.methodLink RL 82 yX10_quotationsOf, Cond.instanceMethod yX10_quotationsOf, Cond.selects RX10 yX10_quotationsOf yX10_quotationsOf, Cond.code yX10_quotationsOf cX10_quotationsOf 2 (some .int), Cond.methodLink RL 30 yX10_sourceOf, Cond.instanceMethod yX10_sourceOf, Cond.selects RX10 yX10_sourceOf yX10_sourceOf, Cond.code yX10_sourceOf cX10_sourceOf 3 (some .int), Cond.methodLink RX10 102 yX10_needQuotation, Cond.instanceMethod yX10_needQuotation, Cond.selects RX10 yX10_needQuotation yX10_needQuotation]
def wsL_tale_r4 : List Cond := [Cond.code yX10_needQuotation cX10_needQuotation 3 none, Cond.methodLink RX10 203 yX7_number, Cond.instanceMethod yX7_number, Cond.selects RX7 yX7_number yX7_number, Cond.code yX7_number cX7_number 2 (some .int), Cond.methodLink RL 33 yX10_beginOf, Cond.instanceMethod yX10_beginOf, Cond.selects RX10 yX10_beginOf yX10_beginOf, Cond.code yX10_beginOf cX10_beginOf 3 (some .int), Cond.methodLink RL 36 yX10_lengthOf, Cond.instanceMethod yX10_lengthOf, Cond.selects RX10 yX10_lengthOf yX10_lengthOf, Cond.code yX10_lengthOf cX10_lengthOf 3 (some .int)]
def wsL_tale : List Cond := .code yL_tale cL_tale 5 (some .long) :: ((wsL_tale_r1 ++ (wsL_tale_r2 ++ (wsL_tale_r3 ++ wsL_tale_r4))) ++ wsX100 ++ wsX90 ++ wsX40 ++ wsX70 ++ (vx_atS RX10 156 "java/lang/IndexOutOfBoundsException" ["java/lang/RuntimeException", "java/lang/Exception"]).filter goodWord)
def wsL_typeWord_r1 : List Cond := [Cond.methodLink RL 166 yL_low, Cond.static yL_low, Cond.initialized RL, Cond.code yL_low cL_low 2 (some .int), Cond.constant RL 9 (2147483647), Cond.methodLink RL 169 yX10_append, Cond.instanceMethod yX10_append, Cond.selects RX10 yX10_append yX10_append, Cond.initialized RX10, Cond.code yX10_append cX10_append 2 (some .int), Cond.classLink RX10 62 "java/lang/IllegalArgumentException", Cond.initialized "java/lang/IllegalArgumentException", Cond.classLink RX10 73 "java/lang/IllegalStateException", Cond.initialized "java/lang/IllegalStateException", Cond.fieldLink RX10 26 "PamphletQuarrel" "buffer" "LPamphletQuarrel$Buffer;", Cond.methodLink RX10 290 yX0_add, Cond.instanceMethod yX0_add, Cond.selects RX0 yX0_add yX0_add, Cond.initialized RX0, Cond.code yX0_add cX0_add 2 none, Cond.fieldLink RX0 14 "PamphletQuarrel$Buffer" "codes" "LPamphletQuarrel$Row;", Cond.fieldLink RX0 20 "PamphletQuarrel$Buffer" "length" "I", Cond.methodLink RX0 24 yX7_put, Cond.instanceMethod yX7_put]
def wsL_typeWord_r2 : List Cond := [Cond.selects RX7 yX7_put yX7_put, Cond.initialized RX7, Cond.code yX7_put cX7_put 4 none, Cond.fieldLink RX7 13 "PamphletQuarrel$Row" "cells" "[J"]
def wsL_typeWord : List Cond := .code yL_typeWord cL_typeWord 3 (some .int) :: ((wsL_typeWord_r1 ++ wsL_typeWord_r2) ++ wsX100 ++ wsX00 ++ wsX70 ++ (vx_atS RX10 66 "java/lang/IllegalArgumentException" ["java/lang/RuntimeException", "java/lang/Exception"]).filter goodWord ++ (vx_atS RX10 77 "java/lang/IllegalStateException" ["java/lang/RuntimeException", "java/lang/Exception"]).filter goodWord)
def wsL_typeSame_r1 : List Cond := [Cond.methodLink RL 79 yX10_pamphlets, Cond.instanceMethod yX10_pamphlets, Cond.selects RX10 yX10_pamphlets yX10_pamphlets, Cond.initialized RX10, Cond.code yX10_pamphlets cX10_pamphlets 1 (some .int), Cond.fieldLink RX10 10 "PamphletQuarrel" "state" "LPamphletQuarrel$State;", Cond.methodLink RL 166 yL_low, Cond.static yL_low, Cond.initialized RL, Cond.code yL_low cL_low 2 (some .int), Cond.constant RL 9 (2147483647), Cond.methodLink RL 172 yL_typeWord, Cond.static yL_typeWord, Cond.code yL_typeWord cL_typeWord 3 (some .int), Cond.methodLink RL 169 yX10_append, Cond.instanceMethod yX10_append, Cond.selects RX10 yX10_append yX10_append, Cond.code yX10_append cX10_append 2 (some .int), Cond.classLink RX10 62 "java/lang/IllegalArgumentException", Cond.initialized "java/lang/IllegalArgumentException", Cond.classLink RX10 73 "java/lang/IllegalStateException", Cond.initialized "java/lang/IllegalStateException", Cond.fieldLink RX10 26 "PamphletQuarrel" "buffer" "LPamphletQuarrel$Buffer;", Cond.methodLink RX10 290 yX0_add]
def wsL_typeSame_r2 : List Cond := [Cond.instanceMethod yX0_add, Cond.selects RX0 yX0_add yX0_add, Cond.initialized RX0, Cond.code yX0_add cX0_add 2 none, Cond.fieldLink RX0 14 "PamphletQuarrel$Buffer" "codes" "LPamphletQuarrel$Row;", Cond.fieldLink RX0 20 "PamphletQuarrel$Buffer" "length" "I", Cond.methodLink RX0 24 yX7_put, Cond.instanceMethod yX7_put, Cond.selects RX7 yX7_put yX7_put, Cond.initialized RX7, Cond.code yX7_put cX7_put 4 none, Cond.fieldLink RX7 13 "PamphletQuarrel$Row" "cells" "[J", Cond.methodLink RL 60 yX10_wordsOf, Cond.instanceMethod yX10_wordsOf, Cond.selects RX10 yX10_wordsOf yX10_wordsOf, Cond.code yX10_wordsOf cX10_wordsOf 2 (some .int), Cond.methodLink RX10 139 yX10_needPamphlet, Cond.instanceMethod yX10_needPamphlet, Cond.selects RX10 yX10_needPamphlet yX10_needPamphlet, Cond.code yX10_needPamphlet cX10_needPamphlet 2 none, Cond.classLink RX10 152 "java/lang/IndexOutOfBoundsException", Cond.initialized "java/lang/IndexOutOfBoundsException", Cond.methodLink RX10 315 yX9_has, Cond.instanceMethod yX9_has]
def wsL_typeSame_r3 : List Cond := [Cond.selects RX9 yX9_has yX9_has, Cond.initialized RX9, Cond.code yX9_has cX9_has 2 (some .boolean), Cond.fieldLink RX9 22 "PamphletQuarrel$State" "count" "I", Cond.methodLink RX10 128 yX9_at, Cond.instanceMethod yX9_at, Cond.selects RX9 yX9_at yX9_at, Cond.code yX9_at cX9_at 3 (some (.object "PamphletQuarrel$Pamphlet")), Cond.fieldLink RX9 11 "PamphletQuarrel$State" "printed" "[LPamphletQuarrel$Pamphlet;", Cond.fieldLink RX9 18 "PamphletQuarrel$State" "blank" "LPamphletQuarrel$Pamphlet;", Cond.methodLink RL 162 yX10_letterOf, Cond.instanceMethod yX10_letterOf, Cond.selects RX10 yX10_letterOf yX10_letterOf, Cond.code yX10_letterOf cX10_letterOf 4 (some .int), Cond.methodLink RX10 163 yX10_needWord, Cond.instanceMethod yX10_needWord, Cond.selects RX10 yX10_needWord yX10_needWord, Cond.code yX10_needWord cX10_needWord 3 none, Cond.methodLink RX10 166 yX10_needIndex, Cond.static yX10_needIndex, Cond.code yX10_needIndex cX10_needIndex 1 none, Cond.methodLink RX10 173 yX7_at, Cond.instanceMethod yX7_at, Cond.selects RX7 yX7_at yX7_at]
def wsL_typeSame_r4 : List Cond := [Cond.code yX7_at cX7_at 2 (some .long), Cond.methodLink RX10 178 yX10_letterIn, Cond.static yX10_letterIn, Cond.code yX10_letterIn cX10_letterIn 4 (some .int)]
def wsL_typeSame : List Cond := .code yL_typeSame cL_typeSame 6 (some .int) :: ((wsL_typeSame_r1 ++ (wsL_typeSame_r2 ++ (wsL_typeSame_r3 ++ wsL_typeSame_r4))) ++ wsX100 ++ wsX90 ++ wsX00 ++ wsX70 ++ wsX40 ++ (vx_atS RX10 66 "java/lang/IllegalArgumentException" ["java/lang/RuntimeException", "java/lang/Exception"]).filter goodWord ++ (vx_atS RX10 77 "java/lang/IllegalStateException" ["java/lang/RuntimeException", "java/lang/Exception"]).filter goodWord ++ (vx_atS RX10 156 "java/lang/IndexOutOfBoundsException" ["java/lang/RuntimeException", "java/lang/Exception"]).filter goodWord)
def wsL_typeQuotation_r1 : List Cond := [Cond.methodLink RL 166 yL_low, Cond.static yL_low, Cond.initialized RL, Cond.code yL_low cL_low 2 (some .int), Cond.constant RL 9 (2147483647), Cond.methodLink RL 169 yX10_append, Cond.instanceMethod yX10_append, Cond.selects RX10 yX10_append yX10_append, Cond.initialized RX10, Cond.code yX10_append cX10_append 2 (some .int), Cond.classLink RX10 62 "java/lang/IllegalArgumentException", Cond.initialized "java/lang/IllegalArgumentException", Cond.classLink RX10 73 "java/lang/IllegalStateException", Cond.initialized "java/lang/IllegalStateException", Cond.fieldLink RX10 26 "PamphletQuarrel" "buffer" "LPamphletQuarrel$Buffer;", Cond.methodLink RX10 290 yX0_add, Cond.instanceMethod yX0_add, Cond.selects RX0 yX0_add yX0_add, Cond.initialized RX0, Cond.code yX0_add cX0_add 2 none, Cond.fieldLink RX0 14 "PamphletQuarrel$Buffer" "codes" "LPamphletQuarrel$Row;", Cond.fieldLink RX0 20 "PamphletQuarrel$Buffer" "length" "I", Cond.methodLink RX0 24 yX7_put, Cond.instanceMethod yX7_put]
def wsL_typeQuotation_r2 : List Cond := [Cond.selects RX7 yX7_put yX7_put, Cond.initialized RX7, Cond.code yX7_put cX7_put 4 none, Cond.fieldLink RX7 13 "PamphletQuarrel$Row" "cells" "[J", Cond.methodLink RL 176 yL_typeSame, Cond.static yL_typeSame, Cond.code yL_typeSame cL_typeSame 6 (some .int), Cond.methodLink RL 79 yX10_pamphlets, Cond.instanceMethod yX10_pamphlets, Cond.selects RX10 yX10_pamphlets yX10_pamphlets, Cond.code yX10_pamphlets cX10_pamphlets 1 (some .int), Cond.fieldLink RX10 10 "PamphletQuarrel" "state" "LPamphletQuarrel$State;", Cond.methodLink RL 172 yL_typeWord, Cond.static yL_typeWord, Cond.code yL_typeWord cL_typeWord 3 (some .int), Cond.methodLink RL 60 yX10_wordsOf, Cond.instanceMethod yX10_wordsOf, Cond.selects RX10 yX10_wordsOf yX10_wordsOf, Cond.code yX10_wordsOf cX10_wordsOf 2 (some .int), Cond.methodLink RX10 139 yX10_needPamphlet, Cond.instanceMethod yX10_needPamphlet, Cond.selects RX10 yX10_needPamphlet yX10_needPamphlet, Cond.code yX10_needPamphlet cX10_needPamphlet 2 none, Cond.classLink RX10 152 "java/lang/IndexOutOfBoundsException"]
def wsL_typeQuotation_r3 : List Cond := [Cond.initialized "java/lang/IndexOutOfBoundsException", Cond.methodLink RX10 315 yX9_has, Cond.instanceMethod yX9_has, Cond.selects RX9 yX9_has yX9_has, Cond.initialized RX9, Cond.code yX9_has cX9_has 2 (some .boolean), Cond.fieldLink RX9 22 "PamphletQuarrel$State" "count" "I", Cond.methodLink RX10 128 yX9_at, Cond.instanceMethod yX9_at, Cond.selects RX9 yX9_at yX9_at, Cond.code yX9_at cX9_at 3 (some (.object "PamphletQuarrel$Pamphlet")), Cond.fieldLink RX9 11 "PamphletQuarrel$State" "printed" "[LPamphletQuarrel$Pamphlet;", Cond.fieldLink RX9 18 "PamphletQuarrel$State" "blank" "LPamphletQuarrel$Pamphlet;", Cond.methodLink RL 162 yX10_letterOf, Cond.instanceMethod yX10_letterOf, Cond.selects RX10 yX10_letterOf yX10_letterOf, Cond.code yX10_letterOf cX10_letterOf 4 (some .int), Cond.methodLink RX10 163 yX10_needWord, Cond.instanceMethod yX10_needWord, Cond.selects RX10 yX10_needWord yX10_needWord, Cond.code yX10_needWord cX10_needWord 3 none, Cond.methodLink RX10 166 yX10_needIndex, Cond.static yX10_needIndex, Cond.code yX10_needIndex cX10_needIndex 1 none]
def wsL_typeQuotation_r4 : List Cond := [Cond.methodLink RX10 173 yX7_at, Cond.instanceMethod yX7_at, Cond.selects RX7 yX7_at yX7_at, Cond.code yX7_at cX7_at 2 (some .long), Cond.methodLink RX10 178 yX10_letterIn, Cond.static yX10_letterIn, Cond.code yX10_letterIn cX10_letterIn 4 (some .int)]
def wsL_typeQuotation : List Cond := .code yL_typeQuotation cL_typeQuotation 7 (some .int) :: ((wsL_typeQuotation_r1 ++ (wsL_typeQuotation_r2 ++ (wsL_typeQuotation_r3 ++ wsL_typeQuotation_r4))) ++ wsX100 ++ wsX00 ++ wsX70 ++ wsX90 ++ wsX40 ++ (vx_atS RX10 66 "java/lang/IllegalArgumentException" ["java/lang/RuntimeException", "java/lang/Exception"]).filter goodWord ++ (vx_atS RX10 77 "java/lang/IllegalStateException" ["java/lang/RuntimeException", "java/lang/Exception"]).filter goodWord ++ (vx_atS RX10 156 "java/lang/IndexOutOfBoundsException" ["java/lang/RuntimeException", "java/lang/Exception"]).filter goodWord)
def wsL_prints_r1 : List Cond := [Cond.methodLink RL 79 yX10_pamphlets, Cond.instanceMethod yX10_pamphlets, Cond.selects RX10 yX10_pamphlets yX10_pamphlets, Cond.initialized RX10, Cond.code yX10_pamphlets cX10_pamphlets 1 (some .int), Cond.fieldLink RX10 10 "PamphletQuarrel" "state" "LPamphletQuarrel$State;", Cond.methodLink RL 166 yL_low, Cond.static yL_low, Cond.initialized RL, Cond.code yL_low cL_low 2 (some .int), Cond.constant RL 9 (2147483647), Cond.methodLink RL 180 yX10_clearText, Cond.instanceMethod yX10_clearText, Cond.selects RX10 yX10_clearText yX10_clearText, Cond.code yX10_clearText cX10_clearText 2 (some .int), Cond.fieldLink RX10 26 "PamphletQuarrel" "buffer" "LPamphletQuarrel$Buffer;", Cond.methodLink RL 169 yX10_append, Cond.instanceMethod yX10_append, Cond.selects RX10 yX10_append yX10_append, Cond.code yX10_append cX10_append 2 (some .int), Cond.classLink RX10 62 "java/lang/IllegalArgumentException", Cond.initialized "java/lang/IllegalArgumentException", Cond.classLink RX10 73 "java/lang/IllegalStateException", Cond.initialized "java/lang/IllegalStateException"]
def wsL_prints_r2 : List Cond := [Cond.methodLink RX10 290 yX0_add, Cond.instanceMethod yX0_add, Cond.selects RX0 yX0_add yX0_add, Cond.initialized RX0, Cond.code yX0_add cX0_add 2 none, Cond.fieldLink RX0 14 "PamphletQuarrel$Buffer" "codes" "LPamphletQuarrel$Row;", Cond.fieldLink RX0 20 "PamphletQuarrel$Buffer" "length" "I", Cond.methodLink RX0 24 yX7_put, Cond.instanceMethod yX7_put, Cond.selects RX7 yX7_put yX7_put, Cond.initialized RX7, Cond.code yX7_put cX7_put 4 none, Cond.fieldLink RX7 13 "PamphletQuarrel$Row" "cells" "[J", Cond.methodLink RL 183 yL_typeQuotation, Cond.static yL_typeQuotation, Cond.code yL_typeQuotation cL_typeQuotation 7 (some .int), Cond.methodLink RL 176 yL_typeSame, Cond.static yL_typeSame, Cond.code yL_typeSame cL_typeSame 6 (some .int), Cond.methodLink RL 172 yL_typeWord, Cond.static yL_typeWord, Cond.code yL_typeWord cL_typeWord 3 (some .int), Cond.methodLink RL 60 yX10_wordsOf, Cond.instanceMethod yX10_wordsOf]
def wsL_prints_r3 : List Cond := [Cond.selects RX10 yX10_wordsOf yX10_wordsOf, Cond.code yX10_wordsOf cX10_wordsOf 2 (some .int), Cond.methodLink RX10 139 yX10_needPamphlet, Cond.instanceMethod yX10_needPamphlet, Cond.selects RX10 yX10_needPamphlet yX10_needPamphlet, Cond.code yX10_needPamphlet cX10_needPamphlet 2 none, Cond.classLink RX10 152 "java/lang/IndexOutOfBoundsException", Cond.initialized "java/lang/IndexOutOfBoundsException", Cond.methodLink RX10 315 yX9_has, Cond.instanceMethod yX9_has, Cond.selects RX9 yX9_has yX9_has, Cond.initialized RX9, Cond.code yX9_has cX9_has 2 (some .boolean), Cond.fieldLink RX9 22 "PamphletQuarrel$State" "count" "I", Cond.methodLink RX10 128 yX9_at, Cond.instanceMethod yX9_at, Cond.selects RX9 yX9_at yX9_at, Cond.code yX9_at cX9_at 3 (some (.object "PamphletQuarrel$Pamphlet")), Cond.fieldLink RX9 11 "PamphletQuarrel$State" "printed" "[LPamphletQuarrel$Pamphlet;", Cond.fieldLink RX9 18 "PamphletQuarrel$State" "blank" "LPamphletQuarrel$Pamphlet;", Cond.methodLink RL 162 yX10_letterOf, Cond.instanceMethod yX10_letterOf, Cond.selects RX10 yX10_letterOf yX10_letterOf, Cond.code yX10_letterOf cX10_letterOf 4 (some .int)]
def wsL_prints_r4 : List Cond := [Cond.methodLink RX10 163 yX10_needWord, Cond.instanceMethod yX10_needWord, Cond.selects RX10 yX10_needWord yX10_needWord, Cond.code yX10_needWord cX10_needWord 3 none, Cond.methodLink RX10 166 yX10_needIndex, Cond.static yX10_needIndex, Cond.code yX10_needIndex cX10_needIndex 1 none, Cond.methodLink RX10 173 yX7_at, Cond.instanceMethod yX7_at, Cond.selects RX7 yX7_at yX7_at, Cond.code yX7_at cX7_at 2 (some .long), Cond.methodLink RX10 178 yX10_letterIn, Cond.static yX10_letterIn, Cond.code yX10_letterIn cX10_letterIn 4 (some .int), Cond.methodLink RL 57 yX10_dayOf, Cond.instanceMethod yX10_dayOf, Cond.selects RX10 yX10_dayOf yX10_dayOf, Cond.code yX10_dayOf cX10_dayOf 2 (some .int), Cond.methodLink RL 104 yX10_day, Cond.instanceMethod yX10_day, Cond.selects RX10 yX10_day yX10_day, Cond.code yX10_day cX10_day 1 (some .int), Cond.methodLink RL 141 yX10_errorPosition, Cond.instanceMethod yX10_errorPosition]
def wsL_prints_r5 : List Cond := [Cond.selects RX10 yX10_errorPosition yX10_errorPosition, Cond.code yX10_errorPosition cX10_errorPosition 1 (some .int), Cond.fieldLink RX10 33 "PamphletQuarrel" "reader" "LPamphletQuarrel$Reader;", Cond.methodLink RX10 182 yX6_read, Cond.instanceMethod yX6_read, Cond.selects RX6 yX6_read yX6_read, Cond.initialized RX6, Cond.code yX6_read cX6_read 3 none, Cond.fieldLink RX6 12 "PamphletQuarrel$Reader" "text" "LPamphletQuarrel$Pamphlet;", Cond.fieldLink RX6 21 "PamphletQuarrel$Reader" "position" "I", Cond.fieldLink RX6 25 "PamphletQuarrel$Reader" "place" "I", Cond.methodLink RX6 18 yX4_empty, Cond.instanceMethod yX4_empty, Cond.selects RX4 yX4_empty yX4_empty, Cond.initialized RX4, Cond.code yX4_empty cX4_empty 1 none, Cond.fieldLink RX4 36 "PamphletQuarrel$Pamphlet" "wordCount" "I", Cond.fieldLink RX4 39 "PamphletQuarrel$Pamphlet" "quotationCount" "I", Cond.methodLink RX6 37 yX7_number, Cond.instanceMethod yX7_number, Cond.selects RX7 yX7_number yX7_number, Cond.code yX7_number cX7_number 2 (some .int), Cond.methodLink RX6 43 yX6_placeAfter, Cond.instanceMethod yX6_placeAfter]
def wsL_prints_r6 : List Cond := [Cond.selects RX6 yX6_placeAfter yX6_placeAfter, Cond.code yX6_placeAfter cX6_placeAfter 2 (some .int), Cond.methodLink RX6 46 yX6_afterOpening, Cond.instanceMethod yX6_afterOpening, Cond.selects RX6 yX6_afterOpening yX6_afterOpening, Cond.code yX6_afterOpening cX6_afterOpening 1 (some .int), Cond.fieldLink RX6 66 "PamphletQuarrel$Reader" "begin" "I", Cond.methodLink RX6 50 yX6_afterFirstLetter, Cond.instanceMethod yX6_afterFirstLetter, Cond.selects RX6 yX6_afterFirstLetter yX6_afterFirstLetter, Cond.code yX6_afterFirstLetter cX6_afterFirstLetter 3 (some .int), Cond.fieldLink RX6 77 "PamphletQuarrel$Reader" "letters" "I", Cond.static yX10_withLetter, Cond.code yX10_withLetter cX10_withLetter 4 (some .long), Cond.methodLink RX6 73 yX4_addWord, Cond.instanceMethod yX4_addWord, Cond.selects RX4 yX4_addWord yX4_addWord, Cond.code yX4_addWord cX4_addWord 3 none, Cond.fieldLink RX4 14 "PamphletQuarrel$Pamphlet" "words" "LPamphletQuarrel$Row;", Cond.methodLink RX4 46 yX7_put, Cond.methodLink RX6 54 yX6_afterLetter, Cond.instanceMethod yX6_afterLetter, Cond.selects RX6 yX6_afterLetter yX6_afterLetter, Cond.code yX6_afterLetter cX6_afterLetter 3 (some .int)]
def wsL_prints_r7 : List Cond := [Cond.methodLink RX6 83 yX7_at, Cond.methodLink RX6 87 yX7_put, Cond.methodLink RX6 57 yX6_afterFirstDigit, Cond.instanceMethod yX6_afterFirstDigit, Cond.selects RX6 yX6_afterFirstDigit yX6_afterFirstDigit, Cond.code yX6_afterFirstDigit cX6_afterFirstDigit 2 (some .int), Cond.methodLink RX6 91 yX4_addQuotation, Cond.instanceMethod yX4_addQuotation, Cond.selects RX4 yX4_addQuotation yX4_addQuotation, Cond.code yX4_addQuotation cX4_addQuotation 3 none, Cond.fieldLink RX4 20 "PamphletQuarrel$Pamphlet" "sources" "LPamphletQuarrel$Row;", Cond.fieldLink RX4 23 "PamphletQuarrel$Pamphlet" "begins" "LPamphletQuarrel$Row;", Cond.fieldLink RX4 26 "PamphletQuarrel$Pamphlet" "lengths" "LPamphletQuarrel$Row;", Cond.methodLink RX6 60 yX6_afterSecondDigit, Cond.instanceMethod yX6_afterSecondDigit, Cond.selects RX6 yX6_afterSecondDigit yX6_afterSecondDigit, Cond.code yX6_afterSecondDigit cX6_afterSecondDigit 2 (some .int), Cond.methodLink RL 154 yX10_whyNotPrinted, Cond.instanceMethod yX10_whyNotPrinted, Cond.selects RX10 yX10_whyNotPrinted yX10_whyNotPrinted, Cond.code yX10_whyNotPrinted cX10_whyNotPrinted 1 (some .int), Cond.methodLink RX10 186 yX6_isAtEndOfText, Cond.instanceMethod yX6_isAtEndOfText, Cond.selects RX6 yX6_isAtEndOfText yX6_isAtEndOfText]
def wsL_prints_r8 : List Cond := [Cond.code yX6_isAtEndOfText cX6_isAtEndOfText 2 (some .boolean), Cond.methodLink RX10 190 yX9_hasSourcesOf, Cond.instanceMethod yX9_hasSourcesOf, Cond.selects RX9 yX9_hasSourcesOf yX9_hasSourcesOf, Cond.code yX9_hasSourcesOf cX9_hasSourcesOf 3 (some .boolean), Cond.methodLink RX9 50 yX7_number, Cond.methodLink RX9 56 yX9_has, Cond.methodLink RX10 194 yX9_isSourceOfToday, Cond.instanceMethod yX9_isSourceOfToday, Cond.selects RX9 yX9_isSourceOfToday yX9_isSourceOfToday, Cond.code yX9_isSourceOfToday cX9_isSourceOfToday 3 (some .boolean), Cond.fieldLink RX9 26 "PamphletQuarrel$State" "today" "I", Cond.methodLink RX9 29 yX9_at, Cond.methodLink RL 187 yL_tryPrint, Cond.static yL_tryPrint, Cond.codeWith yL_tryPrint cL_tryPrint 3 (some .int) [(0, 5, 6, 16), (0, 5, 11, 18)], Cond.classLink RL 16 "java/lang/IllegalArgumentException", Cond.classLink RL 18 "java/lang/IllegalStateException", Cond.methodLink RL 10 yX10_print, Cond.instanceMethod yX10_print, Cond.selects RX10 yX10_print yX10_print, Cond.code yX10_print cX10_print 2 (some .int), Cond.fieldLink RX10 19 "PamphletQuarrel" "history" "LPamphletQuarrel$History;", Cond.methodLink RX10 58 yX10_isAuthor]
def wsL_prints_r9 : List Cond := [Cond.static yX10_isAuthor, Cond.code yX10_isAuthor cX10_isAuthor 1 (some .boolean), Cond.methodLink RX10 69 yX10_whyNotPrinted, Cond.methodLink RX10 78 yX2_save, Cond.instanceMethod yX2_save, Cond.selects RX2 yX2_save yX2_save, Cond.initialized RX2, Cond.code yX2_save cX2_save 3 none, Cond.fieldLink RX2 26 "PamphletQuarrel$History" "size" "I", Cond.fieldLink RX2 22 "PamphletQuarrel$History" "oldest" "I", Cond.methodLink RX2 29 yX2_slot, Cond.instanceMethod yX2_slot, Cond.selects RX2 yX2_slot yX2_slot, Cond.code yX2_slot cX2_slot 3 (some (.object "PamphletQuarrel$State")), Cond.fieldLink RX2 11 "PamphletQuarrel$History" "saved" "[LPamphletQuarrel$State;", Cond.methodLink RX2 33 yX9_copy, Cond.instanceMethod yX9_copy, Cond.selects RX9 yX9_copy yX9_copy, Cond.code yX9_copy cX9_copy 3 none, Cond.methodLink RX9 33 yX4_copy, Cond.instanceMethod yX4_copy, Cond.selects RX4 yX4_copy yX4_copy, Cond.code yX4_copy cX4_copy 2 none, Cond.fieldLink RX4 29 "PamphletQuarrel$Pamphlet" "author" "I"]
def wsL_prints_r10 : List Cond := [Cond.fieldLink RX4 33 "PamphletQuarrel$Pamphlet" "printedOn" "I", Cond.methodLink RX4 42 yX7_copy, Cond.instanceMethod yX7_copy, Cond.selects RX7 yX7_copy yX7_copy, Cond.code yX7_copy cX7_copy 3 none, Cond.methodLink RX7 19 arraycopyName, Cond.native arraycopyName, Cond.static arraycopyName, Cond.initialized "java/lang/System", Cond.methodLink RX10 86 yX9_add, Cond.instanceMethod yX9_add, Cond.selects RX9 yX9_add yX9_add, Cond.code yX9_add cX9_add 4 none, Cond.methodLink RL 159 yX10_authorOf, Cond.instanceMethod yX10_authorOf, Cond.selects RX10 yX10_authorOf yX10_authorOf, Cond.code yX10_authorOf cX10_authorOf 2 (some .int)]
def wsL_prints : List Cond := .code yL_prints cL_prints 11 (some .boolean) :: ((wsL_prints_r1 ++ (wsL_prints_r2 ++ (wsL_prints_r3 ++ (wsL_prints_r4 ++ (wsL_prints_r5 ++ (wsL_prints_r6 ++ (wsL_prints_r7 ++ (wsL_prints_r8 ++ (wsL_prints_r9 ++ wsL_prints_r10))))))))) ++ wsX100 ++ wsX90 ++ wsX00 ++ wsX70 ++ wsX40 ++ wsX60 ++ wsX20 ++ (vx_atS RX10 66 "java/lang/IllegalArgumentException" ["java/lang/RuntimeException", "java/lang/Exception"]).filter goodWord ++ (vx_atS RX10 77 "java/lang/IllegalStateException" ["java/lang/RuntimeException", "java/lang/Exception"]).filter goodWord ++ (vx_atS RX10 156 "java/lang/IndexOutOfBoundsException" ["java/lang/RuntimeException", "java/lang/Exception"]).filter goodWord)
def wsL_mends_r1 : List Cond := [Cond.methodLink RL 82 yX10_quotationsOf, Cond.instanceMethod yX10_quotationsOf, Cond.selects RX10 yX10_quotationsOf yX10_quotationsOf, Cond.initialized RX10, Cond.code yX10_quotationsOf cX10_quotationsOf 2 (some .int), Cond.fieldLink RX10 10 "PamphletQuarrel" "state" "LPamphletQuarrel$State;", Cond.methodLink RX10 139 yX10_needPamphlet, Cond.instanceMethod yX10_needPamphlet, Cond.selects RX10 yX10_needPamphlet yX10_needPamphlet, Cond.code yX10_needPamphlet cX10_needPamphlet 2 none, Cond.classLink RX10 152 "java/lang/IndexOutOfBoundsException", Cond.initialized "java/lang/IndexOutOfBoundsException", Cond.methodLink RX10 315 yX9_has, Cond.instanceMethod yX9_has, Cond.selects RX9 yX9_has yX9_has, Cond.initialized RX9, Cond.code yX9_has cX9_has 2 (some .boolean), Cond.fieldLink RX9 22 "PamphletQuarrel$State" "count" "I", Cond.methodLink RX10 128 yX9_at, Cond.instanceMethod yX9_at, Cond.selects RX9 yX9_at yX9_at, Cond.code yX9_at cX9_at 3 (some (.object "PamphletQuarrel$Pamphlet")), Cond.fieldLink RX9 11 "PamphletQuarrel$State" "printed" "[LPamphletQuarrel$Pamphlet;", Cond.fieldLink RX9 18 "PamphletQuarrel$State" "blank" "LPamphletQuarrel$Pamphlet;"]
def wsL_mends_r2 : List Cond := [Cond.methodLink RL 190 yL_tryMend, Cond.static yL_tryMend, Cond.initialized RL, Cond.codeWith yL_tryMend cL_tryMend 4 (some .int) [(0, 6, 7, 24), (0, 6, 12, 18)], Cond.classLink RL 24 "java/lang/IndexOutOfBoundsException", Cond.classLink RL 18 "java/lang/IllegalStateException", Cond.methodLink RL 20 yX10_mend, Cond.instanceMethod yX10_mend, Cond.selects RX10 yX10_mend yX10_mend, Cond.code yX10_mend cX10_mend 4 (some .int), Cond.classLink RX10 73 "java/lang/IllegalStateException", Cond.initialized "java/lang/IllegalStateException", Cond.fieldLink RX10 40 "PamphletQuarrel" "quotations" "LPamphletQuarrel$Quotations;", Cond.fieldLink RX10 19 "PamphletQuarrel" "history" "LPamphletQuarrel$History;", Cond.methodLink RX10 102 yX10_needQuotation, Cond.instanceMethod yX10_needQuotation, Cond.selects RX10 yX10_needQuotation yX10_needQuotation, Cond.code yX10_needQuotation cX10_needQuotation 3 none, Cond.methodLink RX10 106 yX5_find, Cond.instanceMethod yX5_find, Cond.selects RX5 yX5_find yX5_find, Cond.initialized RX5, Cond.code yX5_find cX5_find 5 (some .int), Cond.fieldLink RX5 12 "PamphletQuarrel$Quotations" "search" "LPamphletQuarrel$Search;"]
def wsL_mends_r3 : List Cond := [Cond.methodLink RX5 18 yX9_at, Cond.methodLink RX5 30 yX7_number, Cond.instanceMethod yX7_number, Cond.selects RX7 yX7_number yX7_number, Cond.initialized RX7, Cond.code yX7_number cX7_number 2 (some .int), Cond.fieldLink RX7 13 "PamphletQuarrel$Row" "cells" "[J", Cond.methodLink RX5 36 yX8_byTable, Cond.instanceMethod yX8_byTable, Cond.selects RX8 yX8_byTable yX8_byTable, Cond.initialized RX8, Cond.code yX8_byTable cX8_byTable 7 none, Cond.fieldLink RX8 14 "PamphletQuarrel$Search" "cells" "LPamphletQuarrel$Row;", Cond.methodLink RX8 25 yX7_number, Cond.methodLink RX8 36 yX7_put, Cond.instanceMethod yX7_put, Cond.selects RX7 yX7_put yX7_put, Cond.code yX7_put cX7_put 4 none, Cond.methodLink RX8 43 yX7_at, Cond.instanceMethod yX7_at, Cond.selects RX7 yX7_at yX7_at, Cond.code yX7_at cX7_at 2 (some .long), Cond.methodLink RX8 47 yX8_takeWord, Cond.instanceMethod yX8_takeWord]
def wsL_mends_r4 : List Cond := [Cond.selects RX8 yX8_takeWord yX8_takeWord, Cond.code yX8_takeWord cX8_takeWord 11 none, Cond.methodLink RX8 67 Lib.Math.min.name, Cond.static Lib.Math.min.name, Cond.initialized "java/lang/Math", Cond.code Lib.Math.min.name Lib.Math.min.code 2 (some .int), Cond.methodLink RX8 51 yX8_chooseEnd, Cond.instanceMethod yX8_chooseEnd, Cond.selects RX8 yX8_chooseEnd yX8_chooseEnd, Cond.code yX8_chooseEnd cX8_chooseEnd 4 none, Cond.fieldLink RX8 54 "PamphletQuarrel$Search" "changes" "I", Cond.fieldLink RX8 57 "PamphletQuarrel$Search" "begin" "I", Cond.fieldLink RX8 60 "PamphletQuarrel$Search" "length" "I", Cond.methodLink RX10 112 yX5_isRoomFor, Cond.instanceMethod yX5_isRoomFor, Cond.selects RX5 yX5_isRoomFor yX5_isRoomFor, Cond.code yX5_isRoomFor cX5_isRoomFor 5 (some .boolean), Cond.methodLink RX5 84 yX4_growth, Cond.instanceMethod yX4_growth, Cond.selects RX4 yX4_growth yX4_growth, Cond.initialized RX4, Cond.code yX4_growth cX4_growth 3 (some .int), Cond.fieldLink RX4 26 "PamphletQuarrel$Pamphlet" "lengths" "LPamphletQuarrel$Row;", Cond.methodLink RX4 50 yX7_number]
def wsL_mends_r5 : List Cond := [Cond.methodLink RX10 78 yX2_save, Cond.instanceMethod yX2_save, Cond.selects RX2 yX2_save yX2_save, Cond.initialized RX2, Cond.code yX2_save cX2_save 3 none, Cond.fieldLink RX2 26 "PamphletQuarrel$History" "size" "I", Cond.fieldLink RX2 22 "PamphletQuarrel$History" "oldest" "I", Cond.methodLink RX2 29 yX2_slot, Cond.instanceMethod yX2_slot, Cond.selects RX2 yX2_slot yX2_slot, Cond.code yX2_slot cX2_slot 3 (some (.object "PamphletQuarrel$State")), Cond.fieldLink RX2 11 "PamphletQuarrel$History" "saved" "[LPamphletQuarrel$State;", Cond.methodLink RX2 33 yX9_copy, Cond.instanceMethod yX9_copy, Cond.selects RX9 yX9_copy yX9_copy, Cond.code yX9_copy cX9_copy 3 none, Cond.fieldLink RX9 26 "PamphletQuarrel$State" "today" "I", Cond.methodLink RX9 29 yX9_at, Cond.methodLink RX9 33 yX4_copy, Cond.instanceMethod yX4_copy, Cond.selects RX4 yX4_copy yX4_copy, Cond.code yX4_copy cX4_copy 2 none, Cond.fieldLink RX4 29 "PamphletQuarrel$Pamphlet" "author" "I", Cond.fieldLink RX4 33 "PamphletQuarrel$Pamphlet" "printedOn" "I"]
def wsL_mends_r6 : List Cond := [Cond.fieldLink RX4 36 "PamphletQuarrel$Pamphlet" "wordCount" "I", Cond.fieldLink RX4 39 "PamphletQuarrel$Pamphlet" "quotationCount" "I", Cond.fieldLink RX4 14 "PamphletQuarrel$Pamphlet" "words" "LPamphletQuarrel$Row;", Cond.fieldLink RX4 20 "PamphletQuarrel$Pamphlet" "sources" "LPamphletQuarrel$Row;", Cond.fieldLink RX4 23 "PamphletQuarrel$Pamphlet" "begins" "LPamphletQuarrel$Row;", Cond.methodLink RX4 42 yX7_copy, Cond.instanceMethod yX7_copy, Cond.selects RX7 yX7_copy yX7_copy, Cond.code yX7_copy cX7_copy 3 none, Cond.methodLink RX7 19 arraycopyName, Cond.native arraycopyName, Cond.static arraycopyName, Cond.initialized "java/lang/System", Cond.methodLink RX10 118 yX5_putRight, Cond.instanceMethod yX5_putRight, Cond.selects RX5 yX5_putRight yX5_putRight, Cond.code yX5_putRight cX5_putRight 6 none, Cond.methodLink RX5 87 yX4_replace, Cond.instanceMethod yX4_replace, Cond.selects RX4 yX4_replace yX4_replace, Cond.code yX4_replace cX4_replace 9 none, Cond.methodLink RX4 58 yX4_growth, Cond.methodLink RX4 62 yX7_move, Cond.instanceMethod yX7_move]
def wsL_mends_r7 : List Cond := [Cond.selects RX7 yX7_move yX7_move, Cond.code yX7_move cX7_move 4 none, Cond.methodLink RX4 66 yX7_at, Cond.methodLink RX4 46 yX7_put, Cond.methodLink RL 166 yL_low, Cond.static yL_low, Cond.code yL_low cL_low 2 (some .int), Cond.constant RL 9 (2147483647), Cond.methodLink RL 39 yX10_changesByTable, Cond.instanceMethod yX10_changesByTable, Cond.selects RX10 yX10_changesByTable yX10_changesByTable, Cond.code yX10_changesByTable cX10_changesByTable 3 (some .int), Cond.methodLink RL 60 yX10_wordsOf, Cond.instanceMethod yX10_wordsOf, Cond.selects RX10 yX10_wordsOf yX10_wordsOf, Cond.code yX10_wordsOf cX10_wordsOf 2 (some .int), Cond.methodLink RL 36 yX10_lengthOf, Cond.instanceMethod yX10_lengthOf, Cond.selects RX10 yX10_lengthOf yX10_lengthOf, Cond.code yX10_lengthOf cX10_lengthOf 3 (some .int), Cond.methodLink RX10 203 yX7_number, Cond.methodLink RL 45 yX10_passageLength, Cond.instanceMethod yX10_passageLength, Cond.selects RX10 yX10_passageLength yX10_passageLength]
def wsL_mends_r8 : List Cond := [Cond.code yX10_passageLength cX10_passageLength 3 (some .int), Cond.methodLink RL 193 yL_tale, Cond.static yL_tale, Cond.code yL_tale cL_tale 5 (some .long), Cond.constantLong RL 157 (31), Cond.methodLink RL 104 yX10_day, Cond.instanceMethod yX10_day, Cond.selects RX10 yX10_day yX10_day, Cond.code yX10_day cX10_day 1 (some .int), Cond.methodLink RL 79 yX10_pamphlets, Cond.instanceMethod yX10_pamphlets, Cond.selects RX10 yX10_pamphlets yX10_pamphlets, Cond.code yX10_pamphlets cX10_pamphlets 1 (some .int), Cond.methodLink RL 159 yX10_authorOf, Cond.instanceMethod yX10_authorOf, Cond.selects RX10 yX10_authorOf yX10_authorOf, Cond.code yX10_authorOf cX10_authorOf 2 (some .int), Cond.methodLink RL 57 yX10_dayOf, Cond.instanceMethod yX10_dayOf, Cond.selects RX10 yX10_dayOf yX10_dayOf, Cond.code yX10_dayOf cX10_dayOf 2 (some .int), Cond.methodLink RL 162 yX10_letterOf, Cond.instanceMethod yX10_letterOf, Cond.selects RX10 yX10_letterOf yX10_letterOf]
def wsL_mends_r9 : List Cond := [Cond.code yX10_letterOf cX10_letterOf 4 (some .int), Cond.methodLink RX10 163 yX10_needWord, Cond.instanceMethod yX10_needWord, Cond.selects RX10 yX10_needWord yX10_needWord, Cond.code yX10_needWord cX10_needWord 3 none, Cond.methodLink RX10 166 yX10_needIndex, Cond.static yX10_needIndex, Cond.code yX10_needIndex cX10_needIndex 1 none, Cond.methodLink RX10 173 yX7_at, Cond.methodLink RX10 178 yX10_letterIn, Cond.static yX10_letterIn, Cond.code yX10_letterIn cX10_letterIn 4 (some .int), Cond.methodLink RL 30 yX10_sourceOf, Cond.instanceMethod yX10_sourceOf, Cond.selects RX10 yX10_sourceOf yX10_sourceOf, Cond.code yX10_sourceOf cX10_sourceOf 3 (some .int), Cond.methodLink RL 33 yX10_beginOf, Cond.instanceMethod yX10_beginOf, Cond.selects RX10 yX10_beginOf yX10_beginOf, Cond.code yX10_beginOf cX10_beginOf 3 (some .int)]
def wsL_mends : List Cond := .code yL_mends cL_mends 10 (some .boolean) :: ((wsL_mends_r1 ++ (wsL_mends_r2 ++ (wsL_mends_r3 ++ (wsL_mends_r4 ++ (wsL_mends_r5 ++ (wsL_mends_r6 ++ (wsL_mends_r7 ++ (wsL_mends_r8 ++ wsL_mends_r9)))))))) ++ wsX100 ++ wsX40 ++ wsX90 ++ wsX50 ++ wsX80 ++ wsX70 ++ wsX20 ++ (vx_atS RX10 156 "java/lang/IndexOutOfBoundsException" ["java/lang/RuntimeException", "java/lang/Exception"]).filter goodWord ++ (vx_atS RX10 77 "java/lang/IllegalStateException" ["java/lang/RuntimeException", "java/lang/Exception"]).filter goodWord)
def wsL_mendsAll_r1 : List Cond := [Cond.methodLink RL 79 yX10_pamphlets, Cond.instanceMethod yX10_pamphlets, Cond.selects RX10 yX10_pamphlets yX10_pamphlets, Cond.initialized RX10, Cond.code yX10_pamphlets cX10_pamphlets 1 (some .int), Cond.fieldLink RX10 10 "PamphletQuarrel" "state" "LPamphletQuarrel$State;", Cond.methodLink RL 60 yX10_wordsOf, Cond.instanceMethod yX10_wordsOf, Cond.selects RX10 yX10_wordsOf yX10_wordsOf, Cond.code yX10_wordsOf cX10_wordsOf 2 (some .int), Cond.methodLink RX10 139 yX10_needPamphlet, Cond.instanceMethod yX10_needPamphlet, Cond.selects RX10 yX10_needPamphlet yX10_needPamphlet, Cond.code yX10_needPamphlet cX10_needPamphlet 2 none, Cond.classLink RX10 152 "java/lang/IndexOutOfBoundsException", Cond.initialized "java/lang/IndexOutOfBoundsException", Cond.methodLink RX10 315 yX9_has, Cond.instanceMethod yX9_has, Cond.selects RX9 yX9_has yX9_has, Cond.initialized RX9, Cond.code yX9_has cX9_has 2 (some .boolean), Cond.fieldLink RX9 22 "PamphletQuarrel$State" "count" "I", Cond.methodLink RX10 128 yX9_at, Cond.instanceMethod yX9_at]
def wsL_mendsAll_r2 : List Cond := [Cond.selects RX9 yX9_at yX9_at, Cond.code yX9_at cX9_at 3 (some (.object "PamphletQuarrel$Pamphlet")), Cond.fieldLink RX9 11 "PamphletQuarrel$State" "printed" "[LPamphletQuarrel$Pamphlet;", Cond.fieldLink RX9 18 "PamphletQuarrel$State" "blank" "LPamphletQuarrel$Pamphlet;", Cond.methodLink RL 197 yX10_mendAll, Cond.instanceMethod yX10_mendAll, Cond.selects RX10 yX10_mendAll yX10_mendAll, Cond.code yX10_mendAll cX10_mendAll 3 (some .int), Cond.fieldLink RX10 19 "PamphletQuarrel" "history" "LPamphletQuarrel$History;", Cond.fieldLink RX10 40 "PamphletQuarrel" "quotations" "LPamphletQuarrel$Quotations;", Cond.methodLink RX10 78 yX2_save, Cond.instanceMethod yX2_save, Cond.selects RX2 yX2_save yX2_save, Cond.initialized RX2, Cond.code yX2_save cX2_save 3 none, Cond.fieldLink RX2 26 "PamphletQuarrel$History" "size" "I", Cond.fieldLink RX2 22 "PamphletQuarrel$History" "oldest" "I", Cond.methodLink RX2 29 yX2_slot, Cond.instanceMethod yX2_slot, Cond.selects RX2 yX2_slot yX2_slot, Cond.code yX2_slot cX2_slot 3 (some (.object "PamphletQuarrel$State")), Cond.fieldLink RX2 11 "PamphletQuarrel$History" "saved" "[LPamphletQuarrel$State;", Cond.methodLink RX2 33 yX9_copy, Cond.instanceMethod yX9_copy]
def wsL_mendsAll_r3 : List Cond := [Cond.selects RX9 yX9_copy yX9_copy, Cond.code yX9_copy cX9_copy 3 none, Cond.fieldLink RX9 26 "PamphletQuarrel$State" "today" "I", Cond.methodLink RX9 29 yX9_at, Cond.methodLink RX9 33 yX4_copy, Cond.instanceMethod yX4_copy, Cond.selects RX4 yX4_copy yX4_copy, Cond.initialized RX4, Cond.code yX4_copy cX4_copy 2 none, Cond.fieldLink RX4 29 "PamphletQuarrel$Pamphlet" "author" "I", Cond.fieldLink RX4 33 "PamphletQuarrel$Pamphlet" "printedOn" "I", Cond.fieldLink RX4 36 "PamphletQuarrel$Pamphlet" "wordCount" "I", Cond.fieldLink RX4 39 "PamphletQuarrel$Pamphlet" "quotationCount" "I", Cond.fieldLink RX4 14 "PamphletQuarrel$Pamphlet" "words" "LPamphletQuarrel$Row;", Cond.fieldLink RX4 20 "PamphletQuarrel$Pamphlet" "sources" "LPamphletQuarrel$Row;", Cond.fieldLink RX4 23 "PamphletQuarrel$Pamphlet" "begins" "LPamphletQuarrel$Row;", Cond.fieldLink RX4 26 "PamphletQuarrel$Pamphlet" "lengths" "LPamphletQuarrel$Row;", Cond.methodLink RX4 42 yX7_copy, Cond.instanceMethod yX7_copy, Cond.selects RX7 yX7_copy yX7_copy, Cond.initialized RX7, Cond.code yX7_copy cX7_copy 3 none, Cond.fieldLink RX7 13 "PamphletQuarrel$Row" "cells" "[J", Cond.methodLink RX7 19 arraycopyName]
def wsL_mendsAll_r4 : List Cond := [Cond.native arraycopyName, Cond.static arraycopyName, Cond.initialized "java/lang/System", Cond.methodLink RX10 122 yX5_putAllRight, Cond.instanceMethod yX5_putAllRight, Cond.selects RX5 yX5_putAllRight yX5_putAllRight, Cond.initialized RX5, Cond.code yX5_putAllRight cX5_putAllRight 6 (some .int), Cond.methodLink RX5 18 yX9_at, Cond.methodLink RX5 51 yX5_find, Cond.instanceMethod yX5_find, Cond.selects RX5 yX5_find yX5_find, Cond.code yX5_find cX5_find 5 (some .int), Cond.fieldLink RX5 12 "PamphletQuarrel$Quotations" "search" "LPamphletQuarrel$Search;", Cond.methodLink RX5 30 yX7_number, Cond.instanceMethod yX7_number, Cond.selects RX7 yX7_number yX7_number, Cond.code yX7_number cX7_number 2 (some .int), Cond.methodLink RX5 36 yX8_byTable, Cond.instanceMethod yX8_byTable, Cond.selects RX8 yX8_byTable yX8_byTable, Cond.initialized RX8, Cond.code yX8_byTable cX8_byTable 7 none, Cond.fieldLink RX8 14 "PamphletQuarrel$Search" "cells" "LPamphletQuarrel$Row;"]
def wsL_mendsAll_r5 : List Cond := [Cond.methodLink RX8 25 yX7_number, Cond.methodLink RX8 36 yX7_put, Cond.instanceMethod yX7_put, Cond.selects RX7 yX7_put yX7_put, Cond.code yX7_put cX7_put 4 none, Cond.methodLink RX8 43 yX7_at, Cond.instanceMethod yX7_at, Cond.selects RX7 yX7_at yX7_at, Cond.code yX7_at cX7_at 2 (some .long), Cond.methodLink RX8 47 yX8_takeWord, Cond.instanceMethod yX8_takeWord, Cond.selects RX8 yX8_takeWord yX8_takeWord, Cond.code yX8_takeWord cX8_takeWord 11 none, Cond.methodLink RX8 67 Lib.Math.min.name, Cond.static Lib.Math.min.name, Cond.initialized "java/lang/Math", Cond.code Lib.Math.min.name Lib.Math.min.code 2 (some .int), Cond.methodLink RX8 51 yX8_chooseEnd, Cond.instanceMethod yX8_chooseEnd, Cond.selects RX8 yX8_chooseEnd yX8_chooseEnd, Cond.code yX8_chooseEnd cX8_chooseEnd 4 none, Cond.fieldLink RX8 54 "PamphletQuarrel$Search" "changes" "I", Cond.fieldLink RX8 57 "PamphletQuarrel$Search" "begin" "I", Cond.fieldLink RX8 60 "PamphletQuarrel$Search" "length" "I"]
def wsL_mendsAll_r6 : List Cond := [Cond.methodLink RX5 91 yX5_isRoomFor, Cond.instanceMethod yX5_isRoomFor, Cond.selects RX5 yX5_isRoomFor yX5_isRoomFor, Cond.code yX5_isRoomFor cX5_isRoomFor 5 (some .boolean), Cond.methodLink RX5 84 yX4_growth, Cond.instanceMethod yX4_growth, Cond.selects RX4 yX4_growth yX4_growth, Cond.code yX4_growth cX4_growth 3 (some .int), Cond.methodLink RX4 50 yX7_number, Cond.methodLink RX5 95 yX5_putRight, Cond.instanceMethod yX5_putRight, Cond.selects RX5 yX5_putRight yX5_putRight, Cond.code yX5_putRight cX5_putRight 6 none, Cond.methodLink RX5 87 yX4_replace, Cond.instanceMethod yX4_replace, Cond.selects RX4 yX4_replace yX4_replace, Cond.code yX4_replace cX4_replace 9 none, Cond.methodLink RX4 58 yX4_growth, Cond.methodLink RX4 62 yX7_move, Cond.instanceMethod yX7_move, Cond.selects RX7 yX7_move yX7_move, Cond.code yX7_move cX7_move 4 none, Cond.methodLink RX4 66 yX7_at, Cond.methodLink RX4 46 yX7_put]
def wsL_mendsAll_r7 : List Cond := [Cond.methodLink RL 122 yX10_blameByAuthors, Cond.instanceMethod yX10_blameByAuthors, Cond.selects RX10 yX10_blameByAuthors yX10_blameByAuthors, Cond.code yX10_blameByAuthors cX10_blameByAuthors 3 (some .int), Cond.methodLink RX10 247 yX5_changesWritten, Cond.instanceMethod yX5_changesWritten, Cond.selects RX5 yX5_changesWritten yX5_changesWritten, Cond.code yX5_changesWritten cX5_changesWritten 6 (some .int), Cond.methodLink RX5 102 yX5_changesIn, Cond.instanceMethod yX5_changesIn, Cond.selects RX5 yX5_changesIn yX5_changesIn, Cond.code yX5_changesIn cX5_changesIn 8 (some .int)]
def wsL_mendsAll : List Cond := .code yL_mendsAll cL_mendsAll 3 (some .boolean) :: ((wsL_mendsAll_r1 ++ (wsL_mendsAll_r2 ++ (wsL_mendsAll_r3 ++ (wsL_mendsAll_r4 ++ (wsL_mendsAll_r5 ++ (wsL_mendsAll_r6 ++ wsL_mendsAll_r7)))))) ++ wsX100 ++ wsX90 ++ wsX40 ++ wsX20 ++ wsX70 ++ wsX50 ++ wsX80 ++ (vx_atS RX10 156 "java/lang/IndexOutOfBoundsException" ["java/lang/RuntimeException", "java/lang/Exception"]).filter goodWord)
def wsL_returns_r1 : List Cond := [Cond.methodLink RL 193 yL_tale, Cond.static yL_tale, Cond.initialized RL, Cond.code yL_tale cL_tale 5 (some .long), Cond.constantLong RL 157 (31), Cond.methodLink RL 104 yX10_day, Cond.instanceMethod yX10_day, Cond.selects RX10 yX10_day yX10_day, Cond.initialized RX10, Cond.code yX10_day cX10_day 1 (some .int), Cond.fieldLink RX10 10 "PamphletQuarrel" "state" "LPamphletQuarrel$State;", Cond.methodLink RL 79 yX10_pamphlets, Cond.instanceMethod yX10_pamphlets, Cond.selects RX10 yX10_pamphlets yX10_pamphlets, Cond.code yX10_pamphlets cX10_pamphlets 1 (some .int), Cond.methodLink RL 159 yX10_authorOf, Cond.instanceMethod yX10_authorOf, Cond.selects RX10 yX10_authorOf yX10_authorOf, Cond.code yX10_authorOf cX10_authorOf 2 (some .int), Cond.methodLink RX10 139 yX10_needPamphlet, Cond.instanceMethod yX10_needPamphlet, Cond.selects RX10 yX10_needPamphlet yX10_needPamphlet, Cond.code yX10_needPamphlet cX10_needPamphlet 2 none, Cond.classLink RX10 152 "java/lang/IndexOutOfBoundsException"]
def wsL_returns_r2 : List Cond := [Cond.initialized "java/lang/IndexOutOfBoundsException", Cond.methodLink RX10 315 yX9_has, Cond.instanceMethod yX9_has, Cond.selects RX9 yX9_has yX9_has, Cond.initialized RX9, Cond.code yX9_has cX9_has 2 (some .boolean), Cond.fieldLink RX9 22 "PamphletQuarrel$State" "count" "I", Cond.methodLink RX10 128 yX9_at, Cond.instanceMethod yX9_at, Cond.selects RX9 yX9_at yX9_at, Cond.code yX9_at cX9_at 3 (some (.object "PamphletQuarrel$Pamphlet")), Cond.fieldLink RX9 11 "PamphletQuarrel$State" "printed" "[LPamphletQuarrel$Pamphlet;", Cond.fieldLink RX9 18 "PamphletQuarrel$State" "blank" "LPamphletQuarrel$Pamphlet;", Cond.methodLink RL 57 yX10_dayOf, Cond.instanceMethod yX10_dayOf, Cond.selects RX10 yX10_dayOf yX10_dayOf, Cond.code yX10_dayOf cX10_dayOf 2 (some .int), Cond.methodLink RL 60 yX10_wordsOf, Cond.instanceMethod yX10_wordsOf, Cond.selects RX10 yX10_wordsOf yX10_wordsOf, Cond.code yX10_wordsOf cX10_wordsOf 2 (some .int), Cond.methodLink RL 162 yX10_letterOf, Cond.instanceMethod yX10_letterOf, Cond.selects RX10 yX10_letterOf yX10_letterOf]
def wsL_returns_r3 : List Cond := [Cond.code yX10_letterOf cX10_letterOf 4 (some .int), Cond.methodLink RX10 163 yX10_needWord, Cond.instanceMethod yX10_needWord, Cond.selects RX10 yX10_needWord yX10_needWord, Cond.code yX10_needWord cX10_needWord 3 none, Cond.methodLink RX10 166 yX10_needIndex, Cond.static yX10_needIndex, Cond.code yX10_needIndex cX10_needIndex 1 none, Cond.methodLink RX10 173 yX7_at, Cond.instanceMethod yX7_at, Cond.selects RX7 yX7_at yX7_at, Cond.initialized RX7, Cond.code yX7_at cX7_at 2 (some .long), Cond.fieldLink RX7 13 "PamphletQuarrel$Row" "cells" "[J", Cond.methodLink RX10 178 yX10_letterIn, Cond.static yX10_letterIn, Cond.code yX10_letterIn cX10_letterIn 4 (some .int), Cond.methodLink RL 82 yX10_quotationsOf, Cond.instanceMethod yX10_quotationsOf, Cond.selects RX10 yX10_quotationsOf yX10_quotationsOf, Cond.code yX10_quotationsOf cX10_quotationsOf 2 (some .int), Cond.methodLink RL 30 yX10_sourceOf, Cond.instanceMethod yX10_sourceOf, Cond.selects RX10 yX10_sourceOf yX10_sourceOf]
def wsL_returns_r4 : List Cond := [Cond.code yX10_sourceOf cX10_sourceOf 3 (some .int), Cond.methodLink RX10 102 yX10_needQuotation, Cond.instanceMethod yX10_needQuotation, Cond.selects RX10 yX10_needQuotation yX10_needQuotation, Cond.code yX10_needQuotation cX10_needQuotation 3 none, Cond.methodLink RX10 203 yX7_number, Cond.instanceMethod yX7_number, Cond.selects RX7 yX7_number yX7_number, Cond.code yX7_number cX7_number 2 (some .int), Cond.methodLink RL 33 yX10_beginOf, Cond.instanceMethod yX10_beginOf, Cond.selects RX10 yX10_beginOf yX10_beginOf, Cond.code yX10_beginOf cX10_beginOf 3 (some .int), Cond.methodLink RL 36 yX10_lengthOf, Cond.instanceMethod yX10_lengthOf, Cond.selects RX10 yX10_lengthOf yX10_lengthOf, Cond.code yX10_lengthOf cX10_lengthOf 3 (some .int), Cond.methodLink RL 200 yX10_takeSnapshot, Cond.instanceMethod yX10_takeSnapshot, Cond.selects RX10 yX10_takeSnapshot yX10_takeSnapshot, Cond.code yX10_takeSnapshot cX10_takeSnapshot 1 (some .int), Cond.fieldLink RX10 19 "PamphletQuarrel" "history" "LPamphletQuarrel$History;", Cond.methodLink RX10 304 yX9_copy, Cond.instanceMethod yX9_copy]
def wsL_returns_r5 : List Cond := [Cond.selects RX9 yX9_copy yX9_copy, Cond.code yX9_copy cX9_copy 3 none, Cond.fieldLink RX9 26 "PamphletQuarrel$State" "today" "I", Cond.methodLink RX9 29 yX9_at, Cond.methodLink RX9 33 yX4_copy, Cond.instanceMethod yX4_copy, Cond.selects RX4 yX4_copy yX4_copy, Cond.initialized RX4, Cond.code yX4_copy cX4_copy 2 none, Cond.fieldLink RX4 29 "PamphletQuarrel$Pamphlet" "author" "I", Cond.fieldLink RX4 33 "PamphletQuarrel$Pamphlet" "printedOn" "I", Cond.fieldLink RX4 36 "PamphletQuarrel$Pamphlet" "wordCount" "I", Cond.fieldLink RX4 39 "PamphletQuarrel$Pamphlet" "quotationCount" "I", Cond.fieldLink RX4 14 "PamphletQuarrel$Pamphlet" "words" "LPamphletQuarrel$Row;", Cond.fieldLink RX4 20 "PamphletQuarrel$Pamphlet" "sources" "LPamphletQuarrel$Row;", Cond.fieldLink RX4 23 "PamphletQuarrel$Pamphlet" "begins" "LPamphletQuarrel$Row;", Cond.fieldLink RX4 26 "PamphletQuarrel$Pamphlet" "lengths" "LPamphletQuarrel$Row;", Cond.methodLink RX4 42 yX7_copy, Cond.instanceMethod yX7_copy, Cond.selects RX7 yX7_copy yX7_copy, Cond.code yX7_copy cX7_copy 3 none, Cond.methodLink RX7 19 arraycopyName, Cond.native arraycopyName, Cond.static arraycopyName]
def wsL_returns_r6 : List Cond := [Cond.initialized "java/lang/System", Cond.methodLink RL 203 yX10_savedStates, Cond.instanceMethod yX10_savedStates, Cond.selects RX10 yX10_savedStates yX10_savedStates, Cond.code yX10_savedStates cX10_savedStates 1 (some .int), Cond.methodLink RL 206 yX10_pass, Cond.instanceMethod yX10_pass, Cond.selects RX10 yX10_pass yX10_pass, Cond.code yX10_pass cX10_pass 2 (some .int), Cond.classLink RX10 62 "java/lang/IllegalArgumentException", Cond.initialized "java/lang/IllegalArgumentException", Cond.methodLink RX10 78 yX2_save, Cond.instanceMethod yX2_save, Cond.selects RX2 yX2_save yX2_save, Cond.initialized RX2, Cond.code yX2_save cX2_save 3 none, Cond.fieldLink RX2 26 "PamphletQuarrel$History" "size" "I", Cond.fieldLink RX2 22 "PamphletQuarrel$History" "oldest" "I", Cond.methodLink RX2 29 yX2_slot, Cond.instanceMethod yX2_slot, Cond.selects RX2 yX2_slot yX2_slot, Cond.code yX2_slot cX2_slot 3 (some (.object "PamphletQuarrel$State")), Cond.fieldLink RX2 11 "PamphletQuarrel$History" "saved" "[LPamphletQuarrel$State;", Cond.methodLink RX2 33 yX9_copy]
def wsL_returns_r7 : List Cond := [Cond.methodLink RL 197 yX10_mendAll, Cond.instanceMethod yX10_mendAll, Cond.selects RX10 yX10_mendAll yX10_mendAll, Cond.code yX10_mendAll cX10_mendAll 3 (some .int), Cond.fieldLink RX10 40 "PamphletQuarrel" "quotations" "LPamphletQuarrel$Quotations;", Cond.methodLink RX10 122 yX5_putAllRight, Cond.instanceMethod yX5_putAllRight, Cond.selects RX5 yX5_putAllRight yX5_putAllRight, Cond.initialized RX5, Cond.code yX5_putAllRight cX5_putAllRight 6 (some .int), Cond.methodLink RX5 18 yX9_at, Cond.methodLink RX5 51 yX5_find, Cond.instanceMethod yX5_find, Cond.selects RX5 yX5_find yX5_find, Cond.code yX5_find cX5_find 5 (some .int), Cond.fieldLink RX5 12 "PamphletQuarrel$Quotations" "search" "LPamphletQuarrel$Search;", Cond.methodLink RX5 30 yX7_number, Cond.methodLink RX5 36 yX8_byTable, Cond.instanceMethod yX8_byTable, Cond.selects RX8 yX8_byTable yX8_byTable, Cond.initialized RX8, Cond.code yX8_byTable cX8_byTable 7 none, Cond.fieldLink RX8 14 "PamphletQuarrel$Search" "cells" "LPamphletQuarrel$Row;", Cond.methodLink RX8 25 yX7_number]
def wsL_returns_r8 : List Cond := [Cond.methodLink RX8 36 yX7_put, Cond.instanceMethod yX7_put, Cond.selects RX7 yX7_put yX7_put, Cond.code yX7_put cX7_put 4 none, Cond.methodLink RX8 43 yX7_at, Cond.methodLink RX8 47 yX8_takeWord, Cond.instanceMethod yX8_takeWord, Cond.selects RX8 yX8_takeWord yX8_takeWord, Cond.code yX8_takeWord cX8_takeWord 11 none, Cond.methodLink RX8 67 Lib.Math.min.name, Cond.static Lib.Math.min.name, Cond.initialized "java/lang/Math", Cond.code Lib.Math.min.name Lib.Math.min.code 2 (some .int), Cond.methodLink RX8 51 yX8_chooseEnd, Cond.instanceMethod yX8_chooseEnd, Cond.selects RX8 yX8_chooseEnd yX8_chooseEnd, Cond.code yX8_chooseEnd cX8_chooseEnd 4 none, Cond.fieldLink RX8 54 "PamphletQuarrel$Search" "changes" "I", Cond.fieldLink RX8 57 "PamphletQuarrel$Search" "begin" "I", Cond.fieldLink RX8 60 "PamphletQuarrel$Search" "length" "I", Cond.methodLink RX5 91 yX5_isRoomFor, Cond.instanceMethod yX5_isRoomFor, Cond.selects RX5 yX5_isRoomFor yX5_isRoomFor, Cond.code yX5_isRoomFor cX5_isRoomFor 5 (some .boolean)]
def wsL_returns_r9 : List Cond := [Cond.methodLink RX5 84 yX4_growth, Cond.instanceMethod yX4_growth, Cond.selects RX4 yX4_growth yX4_growth, Cond.code yX4_growth cX4_growth 3 (some .int), Cond.methodLink RX4 50 yX7_number, Cond.methodLink RX5 95 yX5_putRight, Cond.instanceMethod yX5_putRight, Cond.selects RX5 yX5_putRight yX5_putRight, Cond.code yX5_putRight cX5_putRight 6 none, Cond.methodLink RX5 87 yX4_replace, Cond.instanceMethod yX4_replace, Cond.selects RX4 yX4_replace yX4_replace, Cond.code yX4_replace cX4_replace 9 none, Cond.methodLink RX4 58 yX4_growth, Cond.methodLink RX4 62 yX7_move, Cond.instanceMethod yX7_move, Cond.selects RX7 yX7_move yX7_move, Cond.code yX7_move cX7_move 4 none, Cond.methodLink RX4 66 yX7_at, Cond.methodLink RX4 46 yX7_put, Cond.methodLink RL 209 yX10_restoreSnapshot, Cond.instanceMethod yX10_restoreSnapshot, Cond.selects RX10 yX10_restoreSnapshot yX10_restoreSnapshot, Cond.code yX10_restoreSnapshot cX10_restoreSnapshot 1 (some .int)]
def wsL_returns_r10 : List Cond := [Cond.classLink RX10 73 "java/lang/IllegalStateException", Cond.initialized "java/lang/IllegalStateException", Cond.methodLink RL 212 yX10_undo, Cond.instanceMethod yX10_undo, Cond.selects RX10 yX10_undo yX10_undo, Cond.code yX10_undo cX10_undo 1 (some .int), Cond.methodLink RX10 298 yX2_takeBack, Cond.instanceMethod yX2_takeBack, Cond.selects RX2 yX2_takeBack yX2_takeBack, Cond.code yX2_takeBack cX2_takeBack 3 none]
def wsL_returns : List Cond := .code yL_returns cL_returns 7 (some .boolean) :: ((wsL_returns_r1 ++ (wsL_returns_r2 ++ (wsL_returns_r3 ++ (wsL_returns_r4 ++ (wsL_returns_r5 ++ (wsL_returns_r6 ++ (wsL_returns_r7 ++ (wsL_returns_r8 ++ (wsL_returns_r9 ++ wsL_returns_r10))))))))) ++ wsX100 ++ wsX90 ++ wsX40 ++ wsX70 ++ wsX20 ++ wsX50 ++ wsX80 ++ (vx_atS RX10 156 "java/lang/IndexOutOfBoundsException" ["java/lang/RuntimeException", "java/lang/Exception"]).filter goodWord ++ (vx_atS RX10 66 "java/lang/IllegalArgumentException" ["java/lang/RuntimeException", "java/lang/Exception"]).filter goodWord ++ (vx_atS RX10 77 "java/lang/IllegalStateException" ["java/lang/RuntimeException", "java/lang/Exception"]).filter goodWord)
def wsL_act_r1 : List Cond := [Cond.methodLink RL 166 yL_low, Cond.static yL_low, Cond.initialized RL, Cond.code yL_low cL_low 2 (some .int), Cond.constant RL 9 (2147483647), Cond.methodLink RL 215 yL_prints, Cond.static yL_prints, Cond.code yL_prints cL_prints 11 (some .boolean), Cond.methodLink RL 79 yX10_pamphlets, Cond.instanceMethod yX10_pamphlets, Cond.selects RX10 yX10_pamphlets yX10_pamphlets, Cond.initialized RX10, Cond.code yX10_pamphlets cX10_pamphlets 1 (some .int), Cond.fieldLink RX10 10 "PamphletQuarrel" "state" "LPamphletQuarrel$State;", Cond.methodLink RL 180 yX10_clearText, Cond.instanceMethod yX10_clearText, Cond.selects RX10 yX10_clearText yX10_clearText, Cond.code yX10_clearText cX10_clearText 2 (some .int), Cond.fieldLink RX10 26 "PamphletQuarrel" "buffer" "LPamphletQuarrel$Buffer;", Cond.methodLink RL 169 yX10_append, Cond.instanceMethod yX10_append, Cond.selects RX10 yX10_append yX10_append, Cond.code yX10_append cX10_append 2 (some .int), Cond.classLink RX10 62 "java/lang/IllegalArgumentException"]
def wsL_act_r2 : List Cond := [Cond.initialized "java/lang/IllegalArgumentException", Cond.classLink RX10 73 "java/lang/IllegalStateException", Cond.initialized "java/lang/IllegalStateException", Cond.methodLink RX10 290 yX0_add, Cond.instanceMethod yX0_add, Cond.selects RX0 yX0_add yX0_add, Cond.initialized RX0, Cond.code yX0_add cX0_add 2 none, Cond.fieldLink RX0 14 "PamphletQuarrel$Buffer" "codes" "LPamphletQuarrel$Row;", Cond.fieldLink RX0 20 "PamphletQuarrel$Buffer" "length" "I", Cond.methodLink RX0 24 yX7_put, Cond.instanceMethod yX7_put, Cond.selects RX7 yX7_put yX7_put, Cond.initialized RX7, Cond.code yX7_put cX7_put 4 none, Cond.fieldLink RX7 13 "PamphletQuarrel$Row" "cells" "[J", Cond.methodLink RL 183 yL_typeQuotation, Cond.static yL_typeQuotation, Cond.code yL_typeQuotation cL_typeQuotation 7 (some .int), Cond.methodLink RL 176 yL_typeSame, Cond.static yL_typeSame, Cond.code yL_typeSame cL_typeSame 6 (some .int), Cond.methodLink RL 172 yL_typeWord, Cond.static yL_typeWord]
def wsL_act_r3 : List Cond := [Cond.code yL_typeWord cL_typeWord 3 (some .int), Cond.methodLink RL 60 yX10_wordsOf, Cond.instanceMethod yX10_wordsOf, Cond.selects RX10 yX10_wordsOf yX10_wordsOf, Cond.code yX10_wordsOf cX10_wordsOf 2 (some .int), Cond.methodLink RX10 139 yX10_needPamphlet, Cond.instanceMethod yX10_needPamphlet, Cond.selects RX10 yX10_needPamphlet yX10_needPamphlet, Cond.code yX10_needPamphlet cX10_needPamphlet 2 none, Cond.classLink RX10 152 "java/lang/IndexOutOfBoundsException", Cond.initialized "java/lang/IndexOutOfBoundsException", Cond.methodLink RX10 315 yX9_has, Cond.instanceMethod yX9_has, Cond.selects RX9 yX9_has yX9_has, Cond.initialized RX9, Cond.code yX9_has cX9_has 2 (some .boolean), Cond.fieldLink RX9 22 "PamphletQuarrel$State" "count" "I", Cond.methodLink RX10 128 yX9_at, Cond.instanceMethod yX9_at, Cond.selects RX9 yX9_at yX9_at, Cond.code yX9_at cX9_at 3 (some (.object "PamphletQuarrel$Pamphlet")), Cond.fieldLink RX9 11 "PamphletQuarrel$State" "printed" "[LPamphletQuarrel$Pamphlet;", Cond.fieldLink RX9 18 "PamphletQuarrel$State" "blank" "LPamphletQuarrel$Pamphlet;", Cond.methodLink RL 162 yX10_letterOf]
def wsL_act_r4 : List Cond := [Cond.instanceMethod yX10_letterOf, Cond.selects RX10 yX10_letterOf yX10_letterOf, Cond.code yX10_letterOf cX10_letterOf 4 (some .int), Cond.methodLink RX10 163 yX10_needWord, Cond.instanceMethod yX10_needWord, Cond.selects RX10 yX10_needWord yX10_needWord, Cond.code yX10_needWord cX10_needWord 3 none, Cond.methodLink RX10 166 yX10_needIndex, Cond.static yX10_needIndex, Cond.code yX10_needIndex cX10_needIndex 1 none, Cond.methodLink RX10 173 yX7_at, Cond.instanceMethod yX7_at, Cond.selects RX7 yX7_at yX7_at, Cond.code yX7_at cX7_at 2 (some .long), Cond.methodLink RX10 178 yX10_letterIn, Cond.static yX10_letterIn, Cond.code yX10_letterIn cX10_letterIn 4 (some .int), Cond.methodLink RL 57 yX10_dayOf, Cond.instanceMethod yX10_dayOf, Cond.selects RX10 yX10_dayOf yX10_dayOf, Cond.code yX10_dayOf cX10_dayOf 2 (some .int), Cond.methodLink RL 104 yX10_day, Cond.instanceMethod yX10_day, Cond.selects RX10 yX10_day yX10_day]
def wsL_act_r5 : List Cond := [Cond.code yX10_day cX10_day 1 (some .int), Cond.methodLink RL 141 yX10_errorPosition, Cond.instanceMethod yX10_errorPosition, Cond.selects RX10 yX10_errorPosition yX10_errorPosition, Cond.code yX10_errorPosition cX10_errorPosition 1 (some .int), Cond.fieldLink RX10 33 "PamphletQuarrel" "reader" "LPamphletQuarrel$Reader;", Cond.methodLink RX10 182 yX6_read, Cond.instanceMethod yX6_read, Cond.selects RX6 yX6_read yX6_read, Cond.initialized RX6, Cond.code yX6_read cX6_read 3 none, Cond.fieldLink RX6 12 "PamphletQuarrel$Reader" "text" "LPamphletQuarrel$Pamphlet;", Cond.fieldLink RX6 21 "PamphletQuarrel$Reader" "position" "I", Cond.fieldLink RX6 25 "PamphletQuarrel$Reader" "place" "I", Cond.methodLink RX6 18 yX4_empty, Cond.instanceMethod yX4_empty, Cond.selects RX4 yX4_empty yX4_empty, Cond.initialized RX4, Cond.code yX4_empty cX4_empty 1 none, Cond.fieldLink RX4 36 "PamphletQuarrel$Pamphlet" "wordCount" "I", Cond.fieldLink RX4 39 "PamphletQuarrel$Pamphlet" "quotationCount" "I", Cond.methodLink RX6 37 yX7_number, Cond.instanceMethod yX7_number, Cond.selects RX7 yX7_number yX7_number]
def wsL_act_r6 : List Cond := [Cond.code yX7_number cX7_number 2 (some .int), Cond.methodLink RX6 43 yX6_placeAfter, Cond.instanceMethod yX6_placeAfter, Cond.selects RX6 yX6_placeAfter yX6_placeAfter, Cond.code yX6_placeAfter cX6_placeAfter 2 (some .int), Cond.methodLink RX6 46 yX6_afterOpening, Cond.instanceMethod yX6_afterOpening, Cond.selects RX6 yX6_afterOpening yX6_afterOpening, Cond.code yX6_afterOpening cX6_afterOpening 1 (some .int), Cond.fieldLink RX6 66 "PamphletQuarrel$Reader" "begin" "I", Cond.methodLink RX6 50 yX6_afterFirstLetter, Cond.instanceMethod yX6_afterFirstLetter, Cond.selects RX6 yX6_afterFirstLetter yX6_afterFirstLetter, Cond.code yX6_afterFirstLetter cX6_afterFirstLetter 3 (some .int), Cond.fieldLink RX6 77 "PamphletQuarrel$Reader" "letters" "I", Cond.static yX10_withLetter, Cond.code yX10_withLetter cX10_withLetter 4 (some .long), Cond.methodLink RX6 73 yX4_addWord, Cond.instanceMethod yX4_addWord, Cond.selects RX4 yX4_addWord yX4_addWord, Cond.code yX4_addWord cX4_addWord 3 none, Cond.fieldLink RX4 14 "PamphletQuarrel$Pamphlet" "words" "LPamphletQuarrel$Row;", Cond.methodLink RX4 46 yX7_put, Cond.methodLink RX6 54 yX6_afterLetter]
def wsL_act_r7 : List Cond := [Cond.instanceMethod yX6_afterLetter, Cond.selects RX6 yX6_afterLetter yX6_afterLetter, Cond.code yX6_afterLetter cX6_afterLetter 3 (some .int), Cond.methodLink RX6 83 yX7_at, Cond.methodLink RX6 87 yX7_put, Cond.methodLink RX6 57 yX6_afterFirstDigit, Cond.instanceMethod yX6_afterFirstDigit, Cond.selects RX6 yX6_afterFirstDigit yX6_afterFirstDigit, Cond.code yX6_afterFirstDigit cX6_afterFirstDigit 2 (some .int), Cond.methodLink RX6 91 yX4_addQuotation, Cond.instanceMethod yX4_addQuotation, Cond.selects RX4 yX4_addQuotation yX4_addQuotation, Cond.code yX4_addQuotation cX4_addQuotation 3 none, Cond.fieldLink RX4 20 "PamphletQuarrel$Pamphlet" "sources" "LPamphletQuarrel$Row;", Cond.fieldLink RX4 23 "PamphletQuarrel$Pamphlet" "begins" "LPamphletQuarrel$Row;", Cond.fieldLink RX4 26 "PamphletQuarrel$Pamphlet" "lengths" "LPamphletQuarrel$Row;", Cond.methodLink RX6 60 yX6_afterSecondDigit, Cond.instanceMethod yX6_afterSecondDigit, Cond.selects RX6 yX6_afterSecondDigit yX6_afterSecondDigit, Cond.code yX6_afterSecondDigit cX6_afterSecondDigit 2 (some .int), Cond.methodLink RL 154 yX10_whyNotPrinted, Cond.instanceMethod yX10_whyNotPrinted, Cond.selects RX10 yX10_whyNotPrinted yX10_whyNotPrinted, Cond.code yX10_whyNotPrinted cX10_whyNotPrinted 1 (some .int)]
def wsL_act_r8 : List Cond := [Cond.methodLink RX10 186 yX6_isAtEndOfText, Cond.instanceMethod yX6_isAtEndOfText, Cond.selects RX6 yX6_isAtEndOfText yX6_isAtEndOfText, Cond.code yX6_isAtEndOfText cX6_isAtEndOfText 2 (some .boolean), Cond.methodLink RX10 190 yX9_hasSourcesOf, Cond.instanceMethod yX9_hasSourcesOf, Cond.selects RX9 yX9_hasSourcesOf yX9_hasSourcesOf, Cond.code yX9_hasSourcesOf cX9_hasSourcesOf 3 (some .boolean), Cond.methodLink RX9 50 yX7_number, Cond.methodLink RX9 56 yX9_has, Cond.methodLink RX10 194 yX9_isSourceOfToday, Cond.instanceMethod yX9_isSourceOfToday, Cond.selects RX9 yX9_isSourceOfToday yX9_isSourceOfToday, Cond.code yX9_isSourceOfToday cX9_isSourceOfToday 3 (some .boolean), Cond.fieldLink RX9 26 "PamphletQuarrel$State" "today" "I", Cond.methodLink RX9 29 yX9_at, Cond.methodLink RL 187 yL_tryPrint, Cond.static yL_tryPrint, Cond.codeWith yL_tryPrint cL_tryPrint 3 (some .int) [(0, 5, 6, 16), (0, 5, 11, 18)], Cond.classLink RL 16 "java/lang/IllegalArgumentException", Cond.classLink RL 18 "java/lang/IllegalStateException", Cond.methodLink RL 10 yX10_print, Cond.instanceMethod yX10_print, Cond.selects RX10 yX10_print yX10_print]
def wsL_act_r9 : List Cond := [Cond.code yX10_print cX10_print 2 (some .int), Cond.fieldLink RX10 19 "PamphletQuarrel" "history" "LPamphletQuarrel$History;", Cond.methodLink RX10 58 yX10_isAuthor, Cond.static yX10_isAuthor, Cond.code yX10_isAuthor cX10_isAuthor 1 (some .boolean), Cond.methodLink RX10 69 yX10_whyNotPrinted, Cond.methodLink RX10 78 yX2_save, Cond.instanceMethod yX2_save, Cond.selects RX2 yX2_save yX2_save, Cond.initialized RX2, Cond.code yX2_save cX2_save 3 none, Cond.fieldLink RX2 26 "PamphletQuarrel$History" "size" "I", Cond.fieldLink RX2 22 "PamphletQuarrel$History" "oldest" "I", Cond.methodLink RX2 29 yX2_slot, Cond.instanceMethod yX2_slot, Cond.selects RX2 yX2_slot yX2_slot, Cond.code yX2_slot cX2_slot 3 (some (.object "PamphletQuarrel$State")), Cond.fieldLink RX2 11 "PamphletQuarrel$History" "saved" "[LPamphletQuarrel$State;", Cond.methodLink RX2 33 yX9_copy, Cond.instanceMethod yX9_copy, Cond.selects RX9 yX9_copy yX9_copy, Cond.code yX9_copy cX9_copy 3 none, Cond.methodLink RX9 33 yX4_copy, Cond.instanceMethod yX4_copy]
def wsL_act_r10 : List Cond := [Cond.selects RX4 yX4_copy yX4_copy, Cond.code yX4_copy cX4_copy 2 none, Cond.fieldLink RX4 29 "PamphletQuarrel$Pamphlet" "author" "I", Cond.fieldLink RX4 33 "PamphletQuarrel$Pamphlet" "printedOn" "I", Cond.methodLink RX4 42 yX7_copy, Cond.instanceMethod yX7_copy, Cond.selects RX7 yX7_copy yX7_copy, Cond.code yX7_copy cX7_copy 3 none, Cond.methodLink RX7 19 arraycopyName, Cond.native arraycopyName, Cond.static arraycopyName, Cond.initialized "java/lang/System", Cond.methodLink RX10 86 yX9_add, Cond.instanceMethod yX9_add, Cond.selects RX9 yX9_add yX9_add, Cond.code yX9_add cX9_add 4 none, Cond.methodLink RL 159 yX10_authorOf, Cond.instanceMethod yX10_authorOf, Cond.selects RX10 yX10_authorOf yX10_authorOf, Cond.code yX10_authorOf cX10_authorOf 2 (some .int), Cond.methodLink RL 206 yX10_pass, Cond.instanceMethod yX10_pass, Cond.selects RX10 yX10_pass yX10_pass, Cond.code yX10_pass cX10_pass 2 (some .int)]
def wsL_act_r11 : List Cond := [Cond.methodLink RL 218 yL_mends, Cond.static yL_mends, Cond.code yL_mends cL_mends 10 (some .boolean), Cond.methodLink RL 82 yX10_quotationsOf, Cond.instanceMethod yX10_quotationsOf, Cond.selects RX10 yX10_quotationsOf yX10_quotationsOf, Cond.code yX10_quotationsOf cX10_quotationsOf 2 (some .int), Cond.methodLink RL 190 yL_tryMend, Cond.static yL_tryMend, Cond.codeWith yL_tryMend cL_tryMend 4 (some .int) [(0, 6, 7, 24), (0, 6, 12, 18)], Cond.classLink RL 24 "java/lang/IndexOutOfBoundsException", Cond.methodLink RL 20 yX10_mend, Cond.instanceMethod yX10_mend, Cond.selects RX10 yX10_mend yX10_mend, Cond.code yX10_mend cX10_mend 4 (some .int), Cond.fieldLink RX10 40 "PamphletQuarrel" "quotations" "LPamphletQuarrel$Quotations;", Cond.methodLink RX10 102 yX10_needQuotation, Cond.instanceMethod yX10_needQuotation, Cond.selects RX10 yX10_needQuotation yX10_needQuotation, Cond.code yX10_needQuotation cX10_needQuotation 3 none, Cond.methodLink RX10 106 yX5_find, Cond.instanceMethod yX5_find, Cond.selects RX5 yX5_find yX5_find, Cond.initialized RX5]
def wsL_act_r12 : List Cond := [Cond.code yX5_find cX5_find 5 (some .int), Cond.fieldLink RX5 12 "PamphletQuarrel$Quotations" "search" "LPamphletQuarrel$Search;", Cond.methodLink RX5 18 yX9_at, Cond.methodLink RX5 30 yX7_number, Cond.methodLink RX5 36 yX8_byTable, Cond.instanceMethod yX8_byTable, Cond.selects RX8 yX8_byTable yX8_byTable, Cond.initialized RX8, Cond.code yX8_byTable cX8_byTable 7 none, Cond.fieldLink RX8 14 "PamphletQuarrel$Search" "cells" "LPamphletQuarrel$Row;", Cond.methodLink RX8 25 yX7_number, Cond.methodLink RX8 36 yX7_put, Cond.methodLink RX8 43 yX7_at, Cond.methodLink RX8 47 yX8_takeWord, Cond.instanceMethod yX8_takeWord, Cond.selects RX8 yX8_takeWord yX8_takeWord, Cond.code yX8_takeWord cX8_takeWord 11 none, Cond.methodLink RX8 67 Lib.Math.min.name, Cond.static Lib.Math.min.name, Cond.initialized "java/lang/Math", Cond.code Lib.Math.min.name Lib.Math.min.code 2 (some .int), Cond.methodLink RX8 51 yX8_chooseEnd, Cond.instanceMethod yX8_chooseEnd, Cond.selects RX8 yX8_chooseEnd yX8_chooseEnd]
def wsL_act_r13 : List Cond := [Cond.code yX8_chooseEnd cX8_chooseEnd 4 none, Cond.fieldLink RX8 54 "PamphletQuarrel$Search" "changes" "I", Cond.fieldLink RX8 57 "PamphletQuarrel$Search" "begin" "I", Cond.fieldLink RX8 60 "PamphletQuarrel$Search" "length" "I", Cond.methodLink RX10 112 yX5_isRoomFor, Cond.instanceMethod yX5_isRoomFor, Cond.selects RX5 yX5_isRoomFor yX5_isRoomFor, Cond.code yX5_isRoomFor cX5_isRoomFor 5 (some .boolean), Cond.methodLink RX5 84 yX4_growth, Cond.instanceMethod yX4_growth, Cond.selects RX4 yX4_growth yX4_growth, Cond.code yX4_growth cX4_growth 3 (some .int), Cond.methodLink RX4 50 yX7_number, Cond.methodLink RX10 118 yX5_putRight, Cond.instanceMethod yX5_putRight, Cond.selects RX5 yX5_putRight yX5_putRight, Cond.code yX5_putRight cX5_putRight 6 none, Cond.methodLink RX5 87 yX4_replace, Cond.instanceMethod yX4_replace, Cond.selects RX4 yX4_replace yX4_replace, Cond.code yX4_replace cX4_replace 9 none, Cond.methodLink RX4 58 yX4_growth, Cond.methodLink RX4 62 yX7_move, Cond.instanceMethod yX7_move]
def wsL_act_r14 : List Cond := [Cond.selects RX7 yX7_move yX7_move, Cond.code yX7_move cX7_move 4 none, Cond.methodLink RX4 66 yX7_at, Cond.methodLink RL 39 yX10_changesByTable, Cond.instanceMethod yX10_changesByTable, Cond.selects RX10 yX10_changesByTable yX10_changesByTable, Cond.code yX10_changesByTable cX10_changesByTable 3 (some .int), Cond.methodLink RL 36 yX10_lengthOf, Cond.instanceMethod yX10_lengthOf, Cond.selects RX10 yX10_lengthOf yX10_lengthOf, Cond.code yX10_lengthOf cX10_lengthOf 3 (some .int), Cond.methodLink RX10 203 yX7_number, Cond.methodLink RL 45 yX10_passageLength, Cond.instanceMethod yX10_passageLength, Cond.selects RX10 yX10_passageLength yX10_passageLength, Cond.code yX10_passageLength cX10_passageLength 3 (some .int), Cond.methodLink RL 193 yL_tale, Cond.static yL_tale, Cond.code yL_tale cL_tale 5 (some .long), Cond.constantLong RL 157 (31), Cond.methodLink RL 30 yX10_sourceOf, Cond.instanceMethod yX10_sourceOf, Cond.selects RX10 yX10_sourceOf yX10_sourceOf, Cond.code yX10_sourceOf cX10_sourceOf 3 (some .int)]
def wsL_act_r15 : List Cond := [Cond.methodLink RL 33 yX10_beginOf, Cond.instanceMethod yX10_beginOf, Cond.selects RX10 yX10_beginOf yX10_beginOf, Cond.code yX10_beginOf cX10_beginOf 3 (some .int), Cond.methodLink RL 221 yL_mendsAll, Cond.static yL_mendsAll, Cond.code yL_mendsAll cL_mendsAll 3 (some .boolean), Cond.methodLink RL 197 yX10_mendAll, Cond.instanceMethod yX10_mendAll, Cond.selects RX10 yX10_mendAll yX10_mendAll, Cond.code yX10_mendAll cX10_mendAll 3 (some .int), Cond.methodLink RX10 122 yX5_putAllRight, Cond.instanceMethod yX5_putAllRight, Cond.selects RX5 yX5_putAllRight yX5_putAllRight, Cond.code yX5_putAllRight cX5_putAllRight 6 (some .int), Cond.methodLink RX5 51 yX5_find, Cond.methodLink RX5 91 yX5_isRoomFor, Cond.methodLink RX5 95 yX5_putRight, Cond.methodLink RL 122 yX10_blameByAuthors, Cond.instanceMethod yX10_blameByAuthors, Cond.selects RX10 yX10_blameByAuthors yX10_blameByAuthors, Cond.code yX10_blameByAuthors cX10_blameByAuthors 3 (some .int), Cond.methodLink RX10 247 yX5_changesWritten, Cond.instanceMethod yX5_changesWritten]
def wsL_act_r16 : List Cond := [Cond.selects RX5 yX5_changesWritten yX5_changesWritten, Cond.code yX5_changesWritten cX5_changesWritten 6 (some .int), Cond.methodLink RX5 102 yX5_changesIn, Cond.instanceMethod yX5_changesIn, Cond.selects RX5 yX5_changesIn yX5_changesIn, Cond.code yX5_changesIn cX5_changesIn 8 (some .int), Cond.methodLink RL 224 yL_returns, Cond.static yL_returns, Cond.code yL_returns cL_returns 7 (some .boolean), Cond.methodLink RL 200 yX10_takeSnapshot, Cond.instanceMethod yX10_takeSnapshot, Cond.selects RX10 yX10_takeSnapshot yX10_takeSnapshot, Cond.code yX10_takeSnapshot cX10_takeSnapshot 1 (some .int), Cond.methodLink RX10 304 yX9_copy, Cond.methodLink RL 203 yX10_savedStates, Cond.instanceMethod yX10_savedStates, Cond.selects RX10 yX10_savedStates yX10_savedStates, Cond.code yX10_savedStates cX10_savedStates 1 (some .int), Cond.methodLink RL 209 yX10_restoreSnapshot, Cond.instanceMethod yX10_restoreSnapshot, Cond.selects RX10 yX10_restoreSnapshot yX10_restoreSnapshot, Cond.code yX10_restoreSnapshot cX10_restoreSnapshot 1 (some .int), Cond.methodLink RL 212 yX10_undo, Cond.instanceMethod yX10_undo]
def wsL_act_r17 : List Cond := [Cond.selects RX10 yX10_undo yX10_undo, Cond.code yX10_undo cX10_undo 1 (some .int), Cond.methodLink RX10 298 yX2_takeBack, Cond.instanceMethod yX2_takeBack, Cond.selects RX2 yX2_takeBack yX2_takeBack, Cond.code yX2_takeBack cX2_takeBack 3 none, Cond.methodLink RL 227 yL_tryWithdraw, Cond.static yL_tryWithdraw, Cond.codeWith yL_tryWithdraw cL_tryWithdraw 2 (some .int) [(0, 4, 5, 18)], Cond.methodLink RL 26 yX10_withdraw, Cond.instanceMethod yX10_withdraw, Cond.selects RX10 yX10_withdraw yX10_withdraw, Cond.code yX10_withdraw cX10_withdraw 1 (some .int)]
def wsL_act : List Cond := .code yL_act cL_act 8 (some .boolean) :: ((wsL_act_r1 ++ (wsL_act_r2 ++ (wsL_act_r3 ++ (wsL_act_r4 ++ (wsL_act_r5 ++ (wsL_act_r6 ++ (wsL_act_r7 ++ (wsL_act_r8 ++ (wsL_act_r9 ++ (wsL_act_r10 ++ (wsL_act_r11 ++ (wsL_act_r12 ++ (wsL_act_r13 ++ (wsL_act_r14 ++ (wsL_act_r15 ++ (wsL_act_r16 ++ wsL_act_r17)))))))))))))))) ++ wsX100 ++ wsX90 ++ wsX00 ++ wsX70 ++ wsX40 ++ wsX60 ++ wsX20 ++ wsX50 ++ wsX80 ++ (vx_atS RX10 66 "java/lang/IllegalArgumentException" ["java/lang/RuntimeException", "java/lang/Exception"]).filter goodWord ++ (vx_atS RX10 77 "java/lang/IllegalStateException" ["java/lang/RuntimeException", "java/lang/Exception"]).filter goodWord ++ (vx_atS RX10 156 "java/lang/IndexOutOfBoundsException" ["java/lang/RuntimeException", "java/lang/Exception"]).filter goodWord)
def wsL_law0_r1 : List Cond := [Cond.classLink RL 11 RX10, Cond.instantiable RX10 7, Cond.initialized RX10, Cond.methodLink RL 231 yX10_init, Cond.instanceMethod yX10_init, Cond.code yX10_init cX10_init 1 none, Cond.methodLink RX10 1 objectInit, Cond.instanceMethod objectInit, Cond.code objectInit ⟨#[0xb1]⟩ 1 none, Cond.classLink RX10 7 RX9, Cond.instantiable RX9 4, Cond.initialized RX9, Cond.fieldLink RX10 10 "PamphletQuarrel" "state" "LPamphletQuarrel$State;", Cond.classLink RX10 16 RX2, Cond.instantiable RX2 5, Cond.initialized RX2, Cond.fieldLink RX10 19 "PamphletQuarrel" "history" "LPamphletQuarrel$History;", Cond.classLink RX10 23 RX0, Cond.instantiable RX0 2, Cond.initialized RX0, Cond.fieldLink RX10 26 "PamphletQuarrel" "buffer" "LPamphletQuarrel$Buffer;", Cond.classLink RX10 30 RX6, Cond.instantiable RX6 5, Cond.initialized RX6]
def wsL_law0_r2 : List Cond := [Cond.fieldLink RX10 33 "PamphletQuarrel" "reader" "LPamphletQuarrel$Reader;", Cond.classLink RX10 37 RX5, Cond.instantiable RX5 3, Cond.initialized RX5, Cond.fieldLink RX10 40 "PamphletQuarrel" "quotations" "LPamphletQuarrel$Quotations;", Cond.classLink RX10 44 RX3, Cond.instantiable RX3 1, Cond.initialized RX3, Cond.fieldLink RX10 47 "PamphletQuarrel" "ladders" "LPamphletQuarrel$Ladders;", Cond.classLink RX10 51 RX1, Cond.instantiable RX1 3, Cond.initialized RX1, Cond.fieldLink RX10 54 "PamphletQuarrel" "glossary" "LPamphletQuarrel$Glossary;", Cond.methodLink RX10 9 yX9_init, Cond.instanceMethod yX9_init, Cond.code yX9_init cX9_init 2 none, Cond.methodLink RX9 3 objectInit, Cond.classLink RX9 9 RX4, Cond.fieldLink RX9 11 "PamphletQuarrel$State" "printed" "[LPamphletQuarrel$Pamphlet;", Cond.instantiable RX4 8, Cond.initialized RX4, Cond.fieldLink RX9 18 "PamphletQuarrel$State" "blank" "LPamphletQuarrel$Pamphlet;", Cond.instanceMethod yX4_init, Cond.code yX4_init cX4_init 1 none]
def wsL_law0_r3 : List Cond := [Cond.methodLink RX4 3 objectInit, Cond.classLink RX4 9 RX7, Cond.instantiable RX7 1, Cond.initialized RX7, Cond.fieldLink RX4 14 "PamphletQuarrel$Pamphlet" "words" "LPamphletQuarrel$Row;", Cond.fieldLink RX4 20 "PamphletQuarrel$Pamphlet" "sources" "LPamphletQuarrel$Row;", Cond.fieldLink RX4 23 "PamphletQuarrel$Pamphlet" "begins" "LPamphletQuarrel$Row;", Cond.fieldLink RX4 26 "PamphletQuarrel$Pamphlet" "lengths" "LPamphletQuarrel$Row;", Cond.methodLink RX4 11 yX7_init, Cond.instanceMethod yX7_init, Cond.code yX7_init cX7_init 2 none, Cond.methodLink RX7 1 objectInit, Cond.methodLink RX7 7 Lib.Math.max.name, Cond.static Lib.Math.max.name, Cond.initialized "java/lang/Math", Cond.code Lib.Math.max.name Lib.Math.max.code 2 (some .int), Cond.arrayClass .long, Cond.fieldLink RX7 13 "PamphletQuarrel$Row" "cells" "[J", Cond.methodLink RX10 18 yX2_init, Cond.instanceMethod yX2_init, Cond.code yX2_init cX2_init 2 none, Cond.methodLink RX2 3 objectInit, Cond.classLink RX2 9 RX9, Cond.fieldLink RX2 11 "PamphletQuarrel$History" "saved" "[LPamphletQuarrel$State;"]
def wsL_law0_r4 : List Cond := [Cond.fieldLink RX2 18 "PamphletQuarrel$History" "snapshot" "LPamphletQuarrel$State;", Cond.methodLink RX2 17 yX9_init, Cond.instanceMethod yX0_init, Cond.code yX0_init cX0_init 1 none, Cond.methodLink RX0 3 objectInit, Cond.classLink RX0 9 RX7, Cond.fieldLink RX0 14 "PamphletQuarrel$Buffer" "codes" "LPamphletQuarrel$Row;", Cond.methodLink RX0 11 yX7_init, Cond.instanceMethod yX6_init, Cond.code yX6_init cX6_init 1 none, Cond.methodLink RX6 3 objectInit, Cond.classLink RX6 9 RX4, Cond.fieldLink RX6 12 "PamphletQuarrel$Reader" "text" "LPamphletQuarrel$Pamphlet;", Cond.instanceMethod yX5_init, Cond.code yX5_init cX5_init 1 none, Cond.methodLink RX5 3 objectInit, Cond.classLink RX5 9 RX8, Cond.instantiable RX8 4, Cond.initialized RX8, Cond.fieldLink RX5 12 "PamphletQuarrel$Quotations" "search" "LPamphletQuarrel$Search;", Cond.instanceMethod yX8_init, Cond.code yX8_init cX8_init 1 none, Cond.methodLink RX8 3 objectInit, Cond.classLink RX8 9 RX7]
def wsL_law0_r5 : List Cond := [Cond.fieldLink RX8 14 "PamphletQuarrel$Search" "cells" "LPamphletQuarrel$Row;", Cond.methodLink RX8 11 yX7_init, Cond.instanceMethod yX3_init, Cond.code yX3_init cX3_init 1 none, Cond.methodLink RX3 3 objectInit, Cond.classLink RX3 9 RX7, Cond.fieldLink RX3 14 "PamphletQuarrel$Ladders" "tallies" "LPamphletQuarrel$Row;", Cond.methodLink RX3 11 yX7_init, Cond.instanceMethod yX1_init, Cond.code yX1_init cX1_init 1 none, Cond.methodLink RX1 3 objectInit, Cond.classLink RX1 9 RX7, Cond.fieldLink RX1 14 "PamphletQuarrel$Glossary" "entries" "LPamphletQuarrel$Row;", Cond.fieldLink RX1 20 "PamphletQuarrel$Glossary" "times" "LPamphletQuarrel$Row;", Cond.methodLink RX1 11 yX7_init, Cond.methodLink RL 232 yL_holds, Cond.static yL_holds, Cond.initialized RL, Cond.code yL_holds cL_holds 3 (some .boolean), Cond.methodLink RL 141 yX10_errorPosition, Cond.instanceMethod yX10_errorPosition, Cond.selects RX10 yX10_errorPosition yX10_errorPosition, Cond.code yX10_errorPosition cX10_errorPosition 1 (some .int), Cond.methodLink RX10 182 yX6_read]
def wsL_law0_r6 : List Cond := [Cond.instanceMethod yX6_read, Cond.selects RX6 yX6_read yX6_read, Cond.code yX6_read cX6_read 3 none, Cond.fieldLink RX6 21 "PamphletQuarrel$Reader" "position" "I", Cond.fieldLink RX6 25 "PamphletQuarrel$Reader" "place" "I", Cond.methodLink RX6 18 yX4_empty, Cond.instanceMethod yX4_empty, Cond.selects RX4 yX4_empty yX4_empty, Cond.code yX4_empty cX4_empty 1 none, Cond.fieldLink RX4 36 "PamphletQuarrel$Pamphlet" "wordCount" "I", Cond.fieldLink RX4 39 "PamphletQuarrel$Pamphlet" "quotationCount" "I", Cond.methodLink RX6 37 yX7_number, Cond.instanceMethod yX7_number, Cond.selects RX7 yX7_number yX7_number, Cond.code yX7_number cX7_number 2 (some .int), Cond.methodLink RX6 43 yX6_placeAfter, Cond.instanceMethod yX6_placeAfter, Cond.selects RX6 yX6_placeAfter yX6_placeAfter, Cond.code yX6_placeAfter cX6_placeAfter 2 (some .int), Cond.methodLink RX6 46 yX6_afterOpening, Cond.instanceMethod yX6_afterOpening, Cond.selects RX6 yX6_afterOpening yX6_afterOpening, Cond.code yX6_afterOpening cX6_afterOpening 1 (some .int), Cond.fieldLink RX6 66 "PamphletQuarrel$Reader" "begin" "I"]
def wsL_law0_r7 : List Cond := [Cond.methodLink RX6 50 yX6_afterFirstLetter, Cond.instanceMethod yX6_afterFirstLetter, Cond.selects RX6 yX6_afterFirstLetter yX6_afterFirstLetter, Cond.code yX6_afterFirstLetter cX6_afterFirstLetter 3 (some .int), Cond.fieldLink RX6 77 "PamphletQuarrel$Reader" "letters" "I", Cond.static yX10_withLetter, Cond.code yX10_withLetter cX10_withLetter 4 (some .long), Cond.methodLink RX6 73 yX4_addWord, Cond.instanceMethod yX4_addWord, Cond.selects RX4 yX4_addWord yX4_addWord, Cond.code yX4_addWord cX4_addWord 3 none, Cond.methodLink RX4 46 yX7_put, Cond.instanceMethod yX7_put, Cond.selects RX7 yX7_put yX7_put, Cond.code yX7_put cX7_put 4 none, Cond.methodLink RX6 54 yX6_afterLetter, Cond.instanceMethod yX6_afterLetter, Cond.selects RX6 yX6_afterLetter yX6_afterLetter, Cond.code yX6_afterLetter cX6_afterLetter 3 (some .int), Cond.methodLink RX6 83 yX7_at, Cond.instanceMethod yX7_at, Cond.selects RX7 yX7_at yX7_at, Cond.code yX7_at cX7_at 2 (some .long), Cond.methodLink RX6 87 yX7_put]
def wsL_law0_r8 : List Cond := [Cond.methodLink RX6 57 yX6_afterFirstDigit, Cond.instanceMethod yX6_afterFirstDigit, Cond.selects RX6 yX6_afterFirstDigit yX6_afterFirstDigit, Cond.code yX6_afterFirstDigit cX6_afterFirstDigit 2 (some .int), Cond.methodLink RX6 91 yX4_addQuotation, Cond.instanceMethod yX4_addQuotation, Cond.selects RX4 yX4_addQuotation yX4_addQuotation, Cond.code yX4_addQuotation cX4_addQuotation 3 none, Cond.methodLink RX6 60 yX6_afterSecondDigit, Cond.instanceMethod yX6_afterSecondDigit, Cond.selects RX6 yX6_afterSecondDigit yX6_afterSecondDigit, Cond.code yX6_afterSecondDigit cX6_afterSecondDigit 2 (some .int), Cond.methodLink RL 144 yL_arePamphlets, Cond.static yL_arePamphlets, Cond.code yL_arePamphlets cL_arePamphlets 10 (some .boolean), Cond.methodLink RL 79 yX10_pamphlets, Cond.instanceMethod yX10_pamphlets, Cond.selects RX10 yX10_pamphlets yX10_pamphlets, Cond.code yX10_pamphlets cX10_pamphlets 1 (some .int), Cond.methodLink RL 60 yX10_wordsOf, Cond.instanceMethod yX10_wordsOf, Cond.selects RX10 yX10_wordsOf yX10_wordsOf, Cond.code yX10_wordsOf cX10_wordsOf 2 (some .int), Cond.methodLink RX10 139 yX10_needPamphlet]
def wsL_law0_r9 : List Cond := [Cond.instanceMethod yX10_needPamphlet, Cond.selects RX10 yX10_needPamphlet yX10_needPamphlet, Cond.code yX10_needPamphlet cX10_needPamphlet 2 none, Cond.classLink RX10 152 "java/lang/IndexOutOfBoundsException", Cond.initialized "java/lang/IndexOutOfBoundsException", Cond.methodLink RX10 315 yX9_has, Cond.instanceMethod yX9_has, Cond.selects RX9 yX9_has yX9_has, Cond.code yX9_has cX9_has 2 (some .boolean), Cond.fieldLink RX9 22 "PamphletQuarrel$State" "count" "I", Cond.methodLink RX10 128 yX9_at, Cond.instanceMethod yX9_at, Cond.selects RX9 yX9_at yX9_at, Cond.code yX9_at cX9_at 3 (some (.object "PamphletQuarrel$Pamphlet")), Cond.methodLink RL 82 yX10_quotationsOf, Cond.instanceMethod yX10_quotationsOf, Cond.selects RX10 yX10_quotationsOf yX10_quotationsOf, Cond.code yX10_quotationsOf cX10_quotationsOf 2 (some .int), Cond.methodLink RL 85 yX10_pagesOf, Cond.instanceMethod yX10_pagesOf, Cond.selects RX10 yX10_pagesOf yX10_pagesOf, Cond.code yX10_pagesOf cX10_pagesOf 2 (some .int), Cond.methodLink RX10 149 yX4_pageCount, Cond.instanceMethod yX4_pageCount]
def wsL_law0_r10 : List Cond := [Cond.selects RX4 yX4_pageCount yX4_pageCount, Cond.code yX4_pageCount cX4_pageCount 1 (some .int), Cond.methodLink RL 73 yX10_wordsOn, Cond.instanceMethod yX10_wordsOn, Cond.selects RX10 yX10_wordsOn yX10_wordsOn, Cond.code yX10_wordsOn cX10_wordsOn 4 (some .int), Cond.methodLink RX10 157 Lib.Math.min.name, Cond.static Lib.Math.min.name, Cond.code Lib.Math.min.name Lib.Math.min.code 2 (some .int), Cond.methodLink RL 30 yX10_sourceOf, Cond.instanceMethod yX10_sourceOf, Cond.selects RX10 yX10_sourceOf yX10_sourceOf, Cond.code yX10_sourceOf cX10_sourceOf 3 (some .int), Cond.methodLink RX10 102 yX10_needQuotation, Cond.instanceMethod yX10_needQuotation, Cond.selects RX10 yX10_needQuotation yX10_needQuotation, Cond.code yX10_needQuotation cX10_needQuotation 3 none, Cond.methodLink RX10 203 yX7_number, Cond.methodLink RL 88 yX10_ladderOf, Cond.instanceMethod yX10_ladderOf, Cond.selects RX10 yX10_ladderOf yX10_ladderOf, Cond.code yX10_ladderOf cX10_ladderOf 2 (some .int), Cond.methodLink RX10 259 yX3_longest, Cond.instanceMethod yX3_longest]
def wsL_law0_r11 : List Cond := [Cond.selects RX3 yX3_longest yX3_longest, Cond.code yX3_longest cX3_longest 6 (some .int), Cond.methodLink RX3 36 Lib.Math.max.name, Cond.methodLink RX3 20 yX9_at, Cond.methodLink RX3 26 yX4_quotes, Cond.instanceMethod yX4_quotes, Cond.selects RX4 yX4_quotes yX4_quotes, Cond.code yX4_quotes cX4_quotes 3 (some .boolean), Cond.methodLink RX4 50 yX7_number, Cond.methodLink RX3 32 yX7_number, Cond.methodLink RX3 42 yX7_put, Cond.methodLink RL 91 yX10_laddersOf, Cond.instanceMethod yX10_laddersOf, Cond.selects RX10 yX10_laddersOf yX10_laddersOf, Cond.code yX10_laddersOf cX10_laddersOf 2 (some .int), Cond.methodLink RX10 262 yX3_fromTheGround, Cond.instanceMethod yX3_fromTheGround, Cond.selects RX3 yX3_fromTheGround yX3_fromTheGround, Cond.code yX3_fromTheGround cX3_fromTheGround 6 (some .int), Cond.methodLink RL 94 yX10_answers, Cond.instanceMethod yX10_answers, Cond.selects RX10 yX10_answers yX10_answers, Cond.code yX10_answers cX10_answers 3 (some .boolean), Cond.methodLink RX10 256 yX4_quotes]
def wsL_law0_r12 : List Cond := [Cond.methodLink RL 98 yX10_readingOf, Cond.instanceMethod yX10_readingOf, Cond.selects RX10 yX10_readingOf yX10_readingOf, Cond.code yX10_readingOf cX10_readingOf 2 (some .int), Cond.methodLink RX10 265 yX3_gatherReading, Cond.instanceMethod yX3_gatherReading, Cond.selects RX3 yX3_gatherReading yX3_gatherReading, Cond.code yX3_gatherReading cX3_gatherReading 5 (some .int), Cond.methodLink RX3 50 yX3_markSources, Cond.instanceMethod yX3_markSources, Cond.selects RX3 yX3_markSources yX3_markSources, Cond.code yX3_markSources cX3_markSources 3 none, Cond.methodLink RL 101 yX10_readAt, Cond.instanceMethod yX10_readAt, Cond.selects RX10 yX10_readAt yX10_readAt, Cond.code yX10_readAt cX10_readAt 3 (some .int), Cond.methodLink RX10 268 yX10_needPlace, Cond.static yX10_needPlace, Cond.code yX10_needPlace cX10_needPlace 2 none, Cond.methodLink RX10 271 yX3_readIn, Cond.instanceMethod yX3_readIn, Cond.selects RX3 yX3_readIn yX3_readIn, Cond.code yX3_readIn cX3_readIn 4 (some .int), Cond.methodLink RL 57 yX10_dayOf]
def wsL_law0_r13 : List Cond := [Cond.instanceMethod yX10_dayOf, Cond.selects RX10 yX10_dayOf yX10_dayOf, Cond.code yX10_dayOf cX10_dayOf 2 (some .int), Cond.methodLink RL 104 yX10_day, Cond.instanceMethod yX10_day, Cond.selects RX10 yX10_day yX10_day, Cond.code yX10_day cX10_day 1 (some .int), Cond.methodLink RL 148 yL_isBlame, Cond.static yL_isBlame, Cond.code yL_isBlame cL_isBlame 10 (some .boolean), Cond.methodLink RL 39 yX10_changesByTable, Cond.instanceMethod yX10_changesByTable, Cond.selects RX10 yX10_changesByTable yX10_changesByTable, Cond.code yX10_changesByTable cX10_changesByTable 3 (some .int), Cond.methodLink RX10 106 yX5_find, Cond.instanceMethod yX5_find, Cond.selects RX5 yX5_find yX5_find, Cond.code yX5_find cX5_find 5 (some .int), Cond.methodLink RX5 18 yX9_at, Cond.methodLink RX5 30 yX7_number, Cond.methodLink RX5 36 yX8_byTable, Cond.instanceMethod yX8_byTable, Cond.selects RX8 yX8_byTable yX8_byTable, Cond.code yX8_byTable cX8_byTable 7 none]
def wsL_law0_r14 : List Cond := [Cond.methodLink RX8 25 yX7_number, Cond.methodLink RX8 36 yX7_put, Cond.methodLink RX8 43 yX7_at, Cond.methodLink RX8 47 yX8_takeWord, Cond.instanceMethod yX8_takeWord, Cond.selects RX8 yX8_takeWord yX8_takeWord, Cond.code yX8_takeWord cX8_takeWord 11 none, Cond.methodLink RX8 67 Lib.Math.min.name, Cond.methodLink RX8 51 yX8_chooseEnd, Cond.instanceMethod yX8_chooseEnd, Cond.selects RX8 yX8_chooseEnd yX8_chooseEnd, Cond.code yX8_chooseEnd cX8_chooseEnd 4 none, Cond.fieldLink RX8 54 "PamphletQuarrel$Search" "changes" "I", Cond.fieldLink RX8 57 "PamphletQuarrel$Search" "begin" "I", Cond.fieldLink RX8 60 "PamphletQuarrel$Search" "length" "I", Cond.methodLink RL 107 yX10_quotedAgain, Cond.instanceMethod yX10_quotedAgain, Cond.selects RX10 yX10_quotedAgain yX10_quotedAgain, Cond.code yX10_quotedAgain cX10_quotedAgain 3 (some .int), Cond.methodLink RX10 241 yX5_children, Cond.instanceMethod yX5_children, Cond.selects RX5 yX5_children yX5_children, Cond.code yX5_children cX5_children 9 (some .int), Cond.methodLink RX5 51 yX5_find]
def wsL_law0_r15 : List Cond := [Cond.methodLink RX5 77 yX4_isWithin, Cond.instanceMethod yX4_isWithin, Cond.selects RX4 yX4_isWithin yX4_isWithin, Cond.code yX4_isWithin cX4_isWithin 5 (some .boolean), Cond.methodLink RL 48 yX10_comesFrom, Cond.instanceMethod yX10_comesFrom, Cond.selects RX10 yX10_comesFrom yX10_comesFrom, Cond.code yX10_comesFrom cX10_comesFrom 3 (some .int), Cond.methodLink RX10 226 yX5_parent, Cond.instanceMethod yX5_parent, Cond.selects RX5 yX5_parent yX5_parent, Cond.code yX5_parent cX5_parent 5 (some .int), Cond.methodLink RX5 61 yX4_quotationAround, Cond.instanceMethod yX4_quotationAround, Cond.selects RX4 yX4_quotationAround yX4_quotationAround, Cond.code yX4_quotationAround cX4_quotationAround 4 (some .int), Cond.methodLink RX4 54 yX4_isWithin, Cond.methodLink RL 110 yL_isQuotation, Cond.static yL_isQuotation, Cond.code yL_isQuotation cL_isQuotation 16 (some .boolean), Cond.methodLink RL 33 yX10_beginOf, Cond.instanceMethod yX10_beginOf, Cond.selects RX10 yX10_beginOf yX10_beginOf, Cond.code yX10_beginOf cX10_beginOf 3 (some .int)]
def wsL_law0_r16 : List Cond := [Cond.methodLink RL 36 yX10_lengthOf, Cond.instanceMethod yX10_lengthOf, Cond.selects RX10 yX10_lengthOf yX10_lengthOf, Cond.code yX10_lengthOf cX10_lengthOf 3 (some .int), Cond.methodLink RL 42 yX10_passageOf, Cond.instanceMethod yX10_passageOf, Cond.selects RX10 yX10_passageOf yX10_passageOf, Cond.code yX10_passageOf cX10_passageOf 3 (some .int), Cond.methodLink RL 45 yX10_passageLength, Cond.instanceMethod yX10_passageLength, Cond.selects RX10 yX10_passageLength yX10_passageLength, Cond.code yX10_passageLength cX10_passageLength 3 (some .int), Cond.methodLink RL 51 yX10_traceOf, Cond.instanceMethod yX10_traceOf, Cond.selects RX10 yX10_traceOf yX10_traceOf, Cond.code yX10_traceOf cX10_traceOf 3 (some .int), Cond.methodLink RX10 229 yX5_trace, Cond.instanceMethod yX5_trace, Cond.selects RX5 yX5_trace yX5_trace, Cond.code yX5_trace cX5_trace 6 none, Cond.fieldLink RX5 65 "PamphletQuarrel$Quotations" "traced" "I", Cond.fieldLink RX5 48 "PamphletQuarrel$Quotations" "origin" "I", Cond.methodLink RX5 68 yX5_parent, Cond.methodLink RL 54 yX10_originOf]
def wsL_law0_r17 : List Cond := [Cond.instanceMethod yX10_originOf, Cond.selects RX10 yX10_originOf yX10_originOf, Cond.code yX10_originOf cX10_originOf 3 (some .int), Cond.methodLink RL 63 yX10_changesByPassages, Cond.instanceMethod yX10_changesByPassages, Cond.selects RX10 yX10_changesByPassages yX10_changesByPassages, Cond.code yX10_changesByPassages cX10_changesByPassages 3 (some .int), Cond.methodLink RX10 213 yX5_findByPassages, Cond.instanceMethod yX5_findByPassages, Cond.selects RX5 yX5_findByPassages yX5_findByPassages, Cond.code yX5_findByPassages cX5_findByPassages 6 (some .int), Cond.methodLink RX5 44 yX8_byPassages, Cond.instanceMethod yX8_byPassages, Cond.selects RX8 yX8_byPassages yX8_byPassages, Cond.code yX8_byPassages cX8_byPassages 7 (some .int), Cond.methodLink RX8 63 yX8_leastFrom, Cond.instanceMethod yX8_leastFrom, Cond.selects RX8 yX8_leastFrom yX8_leastFrom, Cond.code yX8_leastFrom cX8_leastFrom 9 (some .int), Cond.methodLink RL 66 yX10_isSameWord, Cond.instanceMethod yX10_isSameWord, Cond.selects RX10 yX10_isSameWord yX10_isSameWord, Cond.code yX10_isSameWord cX10_isSameWord 5 (some .boolean), Cond.methodLink RX10 163 yX10_needWord]
def wsL_law0_r18 : List Cond := [Cond.instanceMethod yX10_needWord, Cond.selects RX10 yX10_needWord yX10_needWord, Cond.code yX10_needWord cX10_needWord 3 none, Cond.methodLink RX10 173 yX7_at, Cond.methodLink RL 70 yX10_pageOf, Cond.instanceMethod yX10_pageOf, Cond.selects RX10 yX10_pageOf yX10_pageOf, Cond.code yX10_pageOf cX10_pageOf 3 (some .int), Cond.methodLink RL 76 yX10_changesAtOrigin, Cond.instanceMethod yX10_changesAtOrigin, Cond.selects RX10 yX10_changesAtOrigin yX10_changesAtOrigin, Cond.code yX10_changesAtOrigin cX10_changesAtOrigin 3 (some .int), Cond.methodLink RX10 238 yX5_findAtOrigin, Cond.instanceMethod yX5_findAtOrigin, Cond.selects RX5 yX5_findAtOrigin yX5_findAtOrigin, Cond.code yX5_findAtOrigin cX5_findAtOrigin 4 (some .int), Cond.methodLink RL 116 yX10_blameOf, Cond.instanceMethod yX10_blameOf, Cond.selects RX10 yX10_blameOf yX10_blameOf, Cond.code yX10_blameOf cX10_blameOf 2 (some .int), Cond.methodLink RX10 244 yX10_needAuthor, Cond.static yX10_needAuthor, Cond.code yX10_needAuthor cX10_needAuthor 1 none, Cond.methodLink RX10 58 yX10_isAuthor]
def wsL_law0_r19 : List Cond := [Cond.static yX10_isAuthor, Cond.code yX10_isAuthor cX10_isAuthor 1 (some .boolean), Cond.methodLink RX10 247 yX5_changesWritten, Cond.instanceMethod yX5_changesWritten, Cond.selects RX5 yX5_changesWritten yX5_changesWritten, Cond.code yX5_changesWritten cX5_changesWritten 6 (some .int), Cond.methodLink RX5 102 yX5_changesIn, Cond.instanceMethod yX5_changesIn, Cond.selects RX5 yX5_changesIn yX5_changesIn, Cond.code yX5_changesIn cX5_changesIn 8 (some .int), Cond.methodLink RL 119 yX10_wrongs, Cond.instanceMethod yX10_wrongs, Cond.selects RX10 yX10_wrongs yX10_wrongs, Cond.code yX10_wrongs cX10_wrongs 3 (some .int), Cond.methodLink RL 122 yX10_blameByAuthors, Cond.instanceMethod yX10_blameByAuthors, Cond.selects RX10 yX10_blameByAuthors yX10_blameByAuthors, Cond.code yX10_blameByAuthors cX10_blameByAuthors 3 (some .int), Cond.methodLink RL 125 yX10_blameBySources, Cond.instanceMethod yX10_blameBySources, Cond.selects RX10 yX10_blameBySources yX10_blameBySources, Cond.code yX10_blameBySources cX10_blameBySources 3 (some .int), Cond.methodLink RX10 250 yX5_changesSuffered, Cond.instanceMethod yX5_changesSuffered]
def wsL_law0_r20 : List Cond := [Cond.selects RX5 yX5_changesSuffered yX5_changesSuffered, Cond.code yX5_changesSuffered cX5_changesSuffered 7 (some .int), Cond.methodLink RL 128 yX10_faithfulShare, Cond.instanceMethod yX10_faithfulShare, Cond.selects RX10 yX10_faithfulShare yX10_faithfulShare, Cond.code yX10_faithfulShare cX10_faithfulShare 4 (some .double), Cond.methodLink RX10 253 yX5_faithfulIn, Cond.instanceMethod yX5_faithfulIn, Cond.selects RX5 yX5_faithfulIn yX5_faithfulIn, Cond.code yX5_faithfulIn cX5_faithfulIn 6 (some .int), Cond.methodLink RL 151 yL_isGlossary, Cond.static yL_isGlossary, Cond.code yL_isGlossary cL_isGlossary 10 (some .boolean), Cond.methodLink RL 132 yX10_glossary, Cond.instanceMethod yX10_glossary, Cond.selects RX10 yX10_glossary yX10_glossary, Cond.code yX10_glossary cX10_glossary 1 (some .int), Cond.methodLink RX10 274 yX1_gather, Cond.instanceMethod yX1_gather, Cond.selects RX1 yX1_gather yX1_gather, Cond.code yX1_gather cX1_gather 5 none, Cond.fieldLink RX1 23 "PamphletQuarrel$Glossary" "size" "I", Cond.methodLink RX1 32 yX9_at, Cond.methodLink RX1 44 yX7_at]
def wsL_law0_r21 : List Cond := [Cond.methodLink RX1 47 yX1_count, Cond.instanceMethod yX1_count, Cond.selects RX1 yX1_count yX1_count, Cond.code yX1_count cX1_count 4 none, Cond.methodLink RX1 53 yX7_put, Cond.methodLink RX1 57 yX7_number, Cond.methodLink RX1 50 yX1_moveForward, Cond.instanceMethod yX1_moveForward, Cond.selects RX1 yX1_moveForward yX1_moveForward, Cond.code yX1_moveForward cX1_moveForward 6 none, Cond.methodLink RX1 61 yX1_isBefore, Cond.instanceMethod yX1_isBefore, Cond.selects RX1 yX1_isBefore yX1_isBefore, Cond.code yX1_isBefore cX1_isBefore 6 (some .boolean), Cond.methodLink RL 135 yX10_timesOf, Cond.instanceMethod yX10_timesOf, Cond.selects RX10 yX10_timesOf yX10_timesOf, Cond.code yX10_timesOf cX10_timesOf 2 (some .int), Cond.methodLink RL 138 yX10_glossaryLetter, Cond.instanceMethod yX10_glossaryLetter, Cond.selects RX10 yX10_glossaryLetter yX10_glossaryLetter, Cond.code yX10_glossaryLetter cX10_glossaryLetter 3 (some .int), Cond.methodLink RX10 166 yX10_needIndex, Cond.static yX10_needIndex]
def wsL_law0_r22 : List Cond := [Cond.code yX10_needIndex cX10_needIndex 1 none, Cond.methodLink RX10 178 yX10_letterIn, Cond.static yX10_letterIn, Cond.code yX10_letterIn cX10_letterIn 4 (some .int), Cond.methodLink RL 154 yX10_whyNotPrinted, Cond.instanceMethod yX10_whyNotPrinted, Cond.selects RX10 yX10_whyNotPrinted yX10_whyNotPrinted, Cond.code yX10_whyNotPrinted cX10_whyNotPrinted 1 (some .int), Cond.methodLink RX10 186 yX6_isAtEndOfText, Cond.instanceMethod yX6_isAtEndOfText, Cond.selects RX6 yX6_isAtEndOfText yX6_isAtEndOfText, Cond.code yX6_isAtEndOfText cX6_isAtEndOfText 2 (some .boolean), Cond.methodLink RX10 190 yX9_hasSourcesOf, Cond.instanceMethod yX9_hasSourcesOf, Cond.selects RX9 yX9_hasSourcesOf yX9_hasSourcesOf, Cond.code yX9_hasSourcesOf cX9_hasSourcesOf 3 (some .boolean), Cond.methodLink RX9 50 yX7_number, Cond.methodLink RX9 56 yX9_has, Cond.methodLink RX10 194 yX9_isSourceOfToday, Cond.instanceMethod yX9_isSourceOfToday, Cond.selects RX9 yX9_isSourceOfToday yX9_isSourceOfToday, Cond.code yX9_isSourceOfToday cX9_isSourceOfToday 3 (some .boolean), Cond.fieldLink RX9 26 "PamphletQuarrel$State" "today" "I", Cond.methodLink RX9 29 yX9_at]
def wsL_law0_r23 : List Cond := [Cond.methodLink RL 236 yL_cell, Cond.static yL_cell, Cond.code yL_cell cL_cell 2 (some .int), Cond.constant RL 7 (934660563), Cond.constant RL 8 (764535719), Cond.methodLink RL 240 yL_act, Cond.static yL_act, Cond.code yL_act cL_act 8 (some .boolean), Cond.methodLink RL 166 yL_low, Cond.static yL_low, Cond.code yL_low cL_low 2 (some .int), Cond.constant RL 9 (2147483647), Cond.methodLink RL 215 yL_prints, Cond.static yL_prints, Cond.code yL_prints cL_prints 11 (some .boolean), Cond.methodLink RL 180 yX10_clearText, Cond.instanceMethod yX10_clearText, Cond.selects RX10 yX10_clearText yX10_clearText, Cond.code yX10_clearText cX10_clearText 2 (some .int), Cond.methodLink RL 169 yX10_append, Cond.instanceMethod yX10_append, Cond.selects RX10 yX10_append yX10_append, Cond.code yX10_append cX10_append 2 (some .int), Cond.classLink RX10 62 "java/lang/IllegalArgumentException"]
def wsL_law0_r24 : List Cond := [Cond.initialized "java/lang/IllegalArgumentException", Cond.classLink RX10 73 "java/lang/IllegalStateException", Cond.initialized "java/lang/IllegalStateException", Cond.methodLink RX10 290 yX0_add, Cond.instanceMethod yX0_add, Cond.selects RX0 yX0_add yX0_add, Cond.code yX0_add cX0_add 2 none, Cond.fieldLink RX0 20 "PamphletQuarrel$Buffer" "length" "I", Cond.methodLink RX0 24 yX7_put, Cond.methodLink RL 183 yL_typeQuotation, Cond.static yL_typeQuotation, Cond.code yL_typeQuotation cL_typeQuotation 7 (some .int), Cond.methodLink RL 176 yL_typeSame, Cond.static yL_typeSame, Cond.code yL_typeSame cL_typeSame 6 (some .int), Cond.methodLink RL 172 yL_typeWord, Cond.static yL_typeWord, Cond.code yL_typeWord cL_typeWord 3 (some .int), Cond.methodLink RL 162 yX10_letterOf, Cond.instanceMethod yX10_letterOf, Cond.selects RX10 yX10_letterOf yX10_letterOf, Cond.code yX10_letterOf cX10_letterOf 4 (some .int), Cond.methodLink RL 187 yL_tryPrint, Cond.static yL_tryPrint]
def wsL_law0_r25 : List Cond := [Cond.codeWith yL_tryPrint cL_tryPrint 3 (some .int) [(0, 5, 6, 16), (0, 5, 11, 18)], Cond.classLink RL 16 "java/lang/IllegalArgumentException", Cond.classLink RL 18 "java/lang/IllegalStateException", Cond.methodLink RL 10 yX10_print, Cond.instanceMethod yX10_print, Cond.selects RX10 yX10_print yX10_print, Cond.code yX10_print cX10_print 2 (some .int), Cond.methodLink RX10 69 yX10_whyNotPrinted, Cond.methodLink RX10 78 yX2_save, Cond.instanceMethod yX2_save, Cond.selects RX2 yX2_save yX2_save, Cond.code yX2_save cX2_save 3 none, Cond.fieldLink RX2 26 "PamphletQuarrel$History" "size" "I", Cond.fieldLink RX2 22 "PamphletQuarrel$History" "oldest" "I", Cond.methodLink RX2 29 yX2_slot, Cond.instanceMethod yX2_slot, Cond.selects RX2 yX2_slot yX2_slot, Cond.code yX2_slot cX2_slot 3 (some (.object "PamphletQuarrel$State")), Cond.methodLink RX2 33 yX9_copy, Cond.instanceMethod yX9_copy, Cond.selects RX9 yX9_copy yX9_copy, Cond.code yX9_copy cX9_copy 3 none, Cond.methodLink RX9 33 yX4_copy, Cond.instanceMethod yX4_copy]
def wsL_law0_r26 : List Cond := [Cond.selects RX4 yX4_copy yX4_copy, Cond.code yX4_copy cX4_copy 2 none, Cond.fieldLink RX4 29 "PamphletQuarrel$Pamphlet" "author" "I", Cond.fieldLink RX4 33 "PamphletQuarrel$Pamphlet" "printedOn" "I", Cond.methodLink RX4 42 yX7_copy, Cond.instanceMethod yX7_copy, Cond.selects RX7 yX7_copy yX7_copy, Cond.code yX7_copy cX7_copy 3 none, Cond.methodLink RX7 19 arraycopyName, Cond.native arraycopyName, Cond.static arraycopyName, Cond.initialized "java/lang/System", Cond.methodLink RX10 86 yX9_add, Cond.instanceMethod yX9_add, Cond.selects RX9 yX9_add yX9_add, Cond.code yX9_add cX9_add 4 none, Cond.methodLink RL 159 yX10_authorOf, Cond.instanceMethod yX10_authorOf, Cond.selects RX10 yX10_authorOf yX10_authorOf, Cond.code yX10_authorOf cX10_authorOf 2 (some .int), Cond.methodLink RL 206 yX10_pass, Cond.instanceMethod yX10_pass, Cond.selects RX10 yX10_pass yX10_pass, Cond.code yX10_pass cX10_pass 2 (some .int)]
def wsL_law0_r27 : List Cond := [Cond.methodLink RL 218 yL_mends, Cond.static yL_mends, Cond.code yL_mends cL_mends 10 (some .boolean), Cond.methodLink RL 190 yL_tryMend, Cond.static yL_tryMend, Cond.codeWith yL_tryMend cL_tryMend 4 (some .int) [(0, 6, 7, 24), (0, 6, 12, 18)], Cond.classLink RL 24 "java/lang/IndexOutOfBoundsException", Cond.methodLink RL 20 yX10_mend, Cond.instanceMethod yX10_mend, Cond.selects RX10 yX10_mend yX10_mend, Cond.code yX10_mend cX10_mend 4 (some .int), Cond.methodLink RX10 112 yX5_isRoomFor, Cond.instanceMethod yX5_isRoomFor, Cond.selects RX5 yX5_isRoomFor yX5_isRoomFor, Cond.code yX5_isRoomFor cX5_isRoomFor 5 (some .boolean), Cond.methodLink RX5 84 yX4_growth, Cond.instanceMethod yX4_growth, Cond.selects RX4 yX4_growth yX4_growth, Cond.code yX4_growth cX4_growth 3 (some .int), Cond.methodLink RX10 118 yX5_putRight, Cond.instanceMethod yX5_putRight, Cond.selects RX5 yX5_putRight yX5_putRight, Cond.code yX5_putRight cX5_putRight 6 none, Cond.methodLink RX5 87 yX4_replace]
def wsL_law0_r28 : List Cond := [Cond.instanceMethod yX4_replace, Cond.selects RX4 yX4_replace yX4_replace, Cond.code yX4_replace cX4_replace 9 none, Cond.methodLink RX4 58 yX4_growth, Cond.methodLink RX4 62 yX7_move, Cond.instanceMethod yX7_move, Cond.selects RX7 yX7_move yX7_move, Cond.code yX7_move cX7_move 4 none, Cond.methodLink RX4 66 yX7_at, Cond.methodLink RL 193 yL_tale, Cond.static yL_tale, Cond.code yL_tale cL_tale 5 (some .long), Cond.constantLong RL 157 (31), Cond.methodLink RL 221 yL_mendsAll, Cond.static yL_mendsAll, Cond.code yL_mendsAll cL_mendsAll 3 (some .boolean), Cond.methodLink RL 197 yX10_mendAll, Cond.instanceMethod yX10_mendAll, Cond.selects RX10 yX10_mendAll yX10_mendAll, Cond.code yX10_mendAll cX10_mendAll 3 (some .int), Cond.methodLink RX10 122 yX5_putAllRight, Cond.instanceMethod yX5_putAllRight, Cond.selects RX5 yX5_putAllRight yX5_putAllRight, Cond.code yX5_putAllRight cX5_putAllRight 6 (some .int)]
def wsL_law0_r29 : List Cond := [Cond.methodLink RX5 91 yX5_isRoomFor, Cond.methodLink RX5 95 yX5_putRight, Cond.methodLink RL 224 yL_returns, Cond.static yL_returns, Cond.code yL_returns cL_returns 7 (some .boolean), Cond.methodLink RL 200 yX10_takeSnapshot, Cond.instanceMethod yX10_takeSnapshot, Cond.selects RX10 yX10_takeSnapshot yX10_takeSnapshot, Cond.code yX10_takeSnapshot cX10_takeSnapshot 1 (some .int), Cond.methodLink RX10 304 yX9_copy, Cond.methodLink RL 203 yX10_savedStates, Cond.instanceMethod yX10_savedStates, Cond.selects RX10 yX10_savedStates yX10_savedStates, Cond.code yX10_savedStates cX10_savedStates 1 (some .int), Cond.methodLink RL 209 yX10_restoreSnapshot, Cond.instanceMethod yX10_restoreSnapshot, Cond.selects RX10 yX10_restoreSnapshot yX10_restoreSnapshot, Cond.code yX10_restoreSnapshot cX10_restoreSnapshot 1 (some .int), Cond.methodLink RL 212 yX10_undo, Cond.instanceMethod yX10_undo, Cond.selects RX10 yX10_undo yX10_undo, Cond.code yX10_undo cX10_undo 1 (some .int), Cond.methodLink RX10 298 yX2_takeBack, Cond.instanceMethod yX2_takeBack]
def wsL_law0_r30 : List Cond := [Cond.selects RX2 yX2_takeBack yX2_takeBack, Cond.code yX2_takeBack cX2_takeBack 3 none, Cond.methodLink RL 227 yL_tryWithdraw, Cond.static yL_tryWithdraw, Cond.codeWith yL_tryWithdraw cL_tryWithdraw 2 (some .int) [(0, 4, 5, 18)], Cond.methodLink RL 26 yX10_withdraw, Cond.instanceMethod yX10_withdraw, Cond.selects RX10 yX10_withdraw yX10_withdraw, Cond.code yX10_withdraw cX10_withdraw 1 (some .int)]
def wsL_law0 : List Cond := (wsL_law0_r1 ++ (wsL_law0_r2 ++ (wsL_law0_r3 ++ (wsL_law0_r4 ++ (wsL_law0_r5 ++ (wsL_law0_r6 ++ (wsL_law0_r7 ++ (wsL_law0_r8 ++ (wsL_law0_r9 ++ (wsL_law0_r10 ++ (wsL_law0_r11 ++ (wsL_law0_r12 ++ (wsL_law0_r13 ++ (wsL_law0_r14 ++ (wsL_law0_r15 ++ (wsL_law0_r16 ++ (wsL_law0_r17 ++ (wsL_law0_r18 ++ (wsL_law0_r19 ++ (wsL_law0_r20 ++ (wsL_law0_r21 ++ (wsL_law0_r22 ++ (wsL_law0_r23 ++ (wsL_law0_r24 ++ (wsL_law0_r25 ++ (wsL_law0_r26 ++ (wsL_law0_r27 ++ (wsL_law0_r28 ++ (wsL_law0_r29 ++ wsL_law0_r30))))))))))))))))))))))))))))) ++ wsX100 ++ wsX90 ++ wsX20 ++ wsX00 ++ wsX60 ++ wsX50 ++ wsX30 ++ wsX10 ++ wsX40 ++ wsX70 ++ wsX80 ++ ([] : List Cond)
end
section
set_option maxRecDepth 20000 in
theorem ggX0_init_X7_init : GoodIn wsX0_init wsX7_init := goodIn_r _ [10, 11, 2, 3, 12, 13, 14, 15, 16, 17, 18] (by decide +kernel) (by decide +kernel)
set_option maxRecDepth 20000 in
theorem gX0_init_X7_init : GoodIn wsX0_init (wsX7_init) := ggX0_init_X7_init
theorem dX0_init_0 : decode cX0_init 0 = .ok (.aload_n 0, 1) := by decide +kernel
theorem dX0_init_1 : decode cX0_init 1 = .ok (.invokespecial 3, 3) := by decide +kernel
theorem dX0_init_4 : decode cX0_init 4 = .ok (.aload_n 0, 1) := by decide +kernel
theorem dX0_init_5 : decode cX0_init 5 = .ok (.new 9, 3) := by decide +kernel
theorem dX0_init_8 : decode cX0_init 8 = .ok (.dup, 1) := by decide +kernel
theorem dX0_init_9 : decode cX0_init 9 = .ok (.bipush 100, 2) := by decide +kernel
theorem dX0_init_11 : decode cX0_init 11 = .ok (.invokespecial 11, 3) := by decide +kernel
theorem dX0_init_14 : decode cX0_init 14 = .ok (.putfield 14, 3) := by decide +kernel
theorem dX0_init_17 : decode cX0_init 17 = .ok (.return_, 1) := by decide +kernel
set_option maxRecDepth 20000 in
theorem ggX0_add_X7_put : GoodIn wsX0_add wsX7_put := goodIn_r _ [7, 8, 11] (by decide +kernel) (by decide +kernel)
set_option maxRecDepth 20000 in
theorem gX0_add_X7_put : GoodIn wsX0_add (wsV RX0 24 RX7 yX7_put wsX7_put) := goodIn_app (goodIn_of _ (by decide +kernel)) ggX0_add_X7_put
theorem dX0_add_0 : decode cX0_add 0 = .ok (.aload_n 0, 1) := by decide +kernel
theorem dX0_add_1 : decode cX0_add 1 = .ok (.getfield 14, 3) := by decide +kernel
theorem dX0_add_4 : decode cX0_add 4 = .ok (.aload_n 0, 1) := by decide +kernel
theorem dX0_add_5 : decode cX0_add 5 = .ok (.getfield 20, 3) := by decide +kernel
theorem dX0_add_8 : decode cX0_add 8 = .ok (.iload_n 1, 1) := by decide +kernel
theorem dX0_add_9 : decode cX0_add 9 = .ok (.i2l, 1) := by decide +kernel
theorem dX0_add_10 : decode cX0_add 10 = .ok (.invokevirtual 24, 3) := by decide +kernel
theorem dX0_add_13 : decode cX0_add 13 = .ok (.aload_n 0, 1) := by decide +kernel
theorem dX0_add_14 : decode cX0_add 14 = .ok (.dup, 1) := by decide +kernel
theorem dX0_add_15 : decode cX0_add 15 = .ok (.getfield 20, 3) := by decide +kernel
theorem dX0_add_18 : decode cX0_add 18 = .ok (.iconst 1, 1) := by decide +kernel
theorem dX0_add_19 : decode cX0_add 19 = .ok (.iadd, 1) := by decide +kernel
theorem dX0_add_20 : decode cX0_add 20 = .ok (.putfield 20, 3) := by decide +kernel
theorem dX0_add_23 : decode cX0_add 23 = .ok (.return_, 1) := by decide +kernel
set_option maxRecDepth 20000 in
theorem ggX1_init_X7_init : GoodIn wsX1_init wsX7_init := goodIn_r _ [11, 12, 2, 3, 13, 14, 15, 16, 17, 18, 19] (by decide +kernel) (by decide +kernel)
set_option maxRecDepth 20000 in
theorem gX1_init_X7_init : GoodIn wsX1_init (wsX7_init) := ggX1_init_X7_init
theorem dX1_init_0 : decode cX1_init 0 = .ok (.aload_n 0, 1) := by decide +kernel
theorem dX1_init_1 : decode cX1_init 1 = .ok (.invokespecial 3, 3) := by decide +kernel
theorem dX1_init_4 : decode cX1_init 4 = .ok (.aload_n 0, 1) := by decide +kernel
theorem dX1_init_5 : decode cX1_init 5 = .ok (.new 9, 3) := by decide +kernel
theorem dX1_init_8 : decode cX1_init 8 = .ok (.dup, 1) := by decide +kernel
theorem dX1_init_9 : decode cX1_init 9 = .ok (.sipush 1200, 3) := by decide +kernel
theorem dX1_init_12 : decode cX1_init 12 = .ok (.invokespecial 11, 3) := by decide +kernel
theorem dX1_init_15 : decode cX1_init 15 = .ok (.putfield 14, 3) := by decide +kernel
theorem dX1_init_18 : decode cX1_init 18 = .ok (.aload_n 0, 1) := by decide +kernel
theorem dX1_init_19 : decode cX1_init 19 = .ok (.new 9, 3) := by decide +kernel
theorem dX1_init_22 : decode cX1_init 22 = .ok (.dup, 1) := by decide +kernel
theorem dX1_init_23 : decode cX1_init 23 = .ok (.sipush 1200, 3) := by decide +kernel
theorem dX1_init_26 : decode cX1_init 26 = .ok (.invokespecial 11, 3) := by decide +kernel
theorem dX1_init_29 : decode cX1_init 29 = .ok (.putfield 20, 3) := by decide +kernel
theorem dX1_init_32 : decode cX1_init 32 = .ok (.return_, 1) := by decide +kernel
set_option maxRecDepth 20000 in
theorem ggX1_gather_X9_at : GoodIn wsX1_gather wsX9_at := goodIn_r _ [6, 7, 8, 41, 42, 43, 44] (by decide +kernel) (by decide +kernel)
set_option maxRecDepth 20000 in
theorem gX1_gather_X9_at : GoodIn wsX1_gather (wsV RX1 32 RX9 yX9_at wsX9_at) := goodIn_app (goodIn_of _ (by decide +kernel)) ggX1_gather_X9_at
set_option maxRecDepth 20000 in
theorem ggX1_gather_X7_at : GoodIn wsX1_gather wsX7_at := goodIn_r _ [13, 14, 53] (by decide +kernel) (by decide +kernel)
set_option maxRecDepth 20000 in
theorem gX1_gather_X7_at : GoodIn wsX1_gather (wsV RX1 44 RX7 yX7_at wsX7_at) := goodIn_app (goodIn_of _ (by decide +kernel)) ggX1_gather_X7_at
set_option maxRecDepth 20000 in
theorem ggX1_gather_X1_count : GoodIn wsX1_gather wsX1_count := goodIn_r _ [19, 1, 20, 21, 9, 10, 11, 12, 13, 14, 22, 23, 24, 25, 26, 27, 28, 29, 38, 39, 40, 53] (by decide +kernel) (by decide +kernel)
set_option maxRecDepth 20000 in
theorem gX1_gather_X1_count : GoodIn wsX1_gather (wsV RX1 47 RX1 yX1_count wsX1_count) := goodIn_app (goodIn_of _ (by decide +kernel)) ggX1_gather_X1_count
set_option maxRecDepth 20000 in
theorem ggX1_gather_X1_moveForward : GoodIn wsX1_gather wsX1_moveForward := goodIn_r _ [33, 20, 21, 9, 10, 11, 12, 13, 14, 26, 27, 28, 29, 34, 35, 36, 18, 37, 22, 23, 24, 25, 38, 39, 40, 53] (by decide +kernel) (by decide +kernel)
set_option maxRecDepth 20000 in
theorem gX1_gather_X1_moveForward : GoodIn wsX1_gather (wsV RX1 50 RX1 yX1_moveForward wsX1_moveForward) := goodIn_app (goodIn_of _ (by decide +kernel)) ggX1_gather_X1_moveForward
theorem dX1_gather_0 : decode cX1_gather 0 = .ok (.aload_n 0, 1) := by decide +kernel
theorem dX1_gather_1 : decode cX1_gather 1 = .ok (.iconst 0, 1) := by decide +kernel
theorem dX1_gather_2 : decode cX1_gather 2 = .ok (.putfield 23, 3) := by decide +kernel
theorem dX1_gather_5 : decode cX1_gather 5 = .ok (.iconst 0, 1) := by decide +kernel
theorem dX1_gather_6 : decode cX1_gather 6 = .ok (.istore_n 2, 1) := by decide +kernel
theorem dX1_gather_7 : decode cX1_gather 7 = .ok (.iload_n 2, 1) := by decide +kernel
theorem dX1_gather_8 : decode cX1_gather 8 = .ok (.aload_n 1, 1) := by decide +kernel
theorem dX1_gather_9 : decode cX1_gather 9 = .ok (.getfield 27, 3) := by decide +kernel
theorem dX1_gather_12 : decode cX1_gather 12 = .ok (.if_icmp .ge 46, 3) := by decide +kernel
theorem dX1_gather_15 : decode cX1_gather 15 = .ok (.aload_n 1, 1) := by decide +kernel
theorem dX1_gather_16 : decode cX1_gather 16 = .ok (.iload_n 2, 1) := by decide +kernel
theorem dX1_gather_17 : decode cX1_gather 17 = .ok (.invokevirtual 32, 3) := by decide +kernel
theorem dX1_gather_20 : decode cX1_gather 20 = .ok (.astore_n 3, 1) := by decide +kernel
theorem dX1_gather_21 : decode cX1_gather 21 = .ok (.iconst 0, 1) := by decide +kernel
theorem dX1_gather_22 : decode cX1_gather 22 = .ok (.istore 4, 2) := by decide +kernel
theorem dX1_gather_24 : decode cX1_gather 24 = .ok (.iload 4, 2) := by decide +kernel
theorem dX1_gather_26 : decode cX1_gather 26 = .ok (.aload_n 3, 1) := by decide +kernel
theorem dX1_gather_27 : decode cX1_gather 27 = .ok (.getfield 36, 3) := by decide +kernel
theorem dX1_gather_30 : decode cX1_gather 30 = .ok (.if_icmp .ge 22, 3) := by decide +kernel
theorem dX1_gather_33 : decode cX1_gather 33 = .ok (.aload_n 0, 1) := by decide +kernel
theorem dX1_gather_34 : decode cX1_gather 34 = .ok (.aload_n 3, 1) := by decide +kernel
theorem dX1_gather_35 : decode cX1_gather 35 = .ok (.getfield 41, 3) := by decide +kernel
theorem dX1_gather_38 : decode cX1_gather 38 = .ok (.iload 4, 2) := by decide +kernel
theorem dX1_gather_40 : decode cX1_gather 40 = .ok (.invokevirtual 44, 3) := by decide +kernel
theorem dX1_gather_43 : decode cX1_gather 43 = .ok (.invokevirtual 47, 3) := by decide +kernel
theorem dX1_gather_46 : decode cX1_gather 46 = .ok (.iinc 4 1, 3) := by decide +kernel
theorem dX1_gather_49 : decode cX1_gather 49 = .ok (.goto (-25), 3) := by decide +kernel
theorem dX1_gather_52 : decode cX1_gather 52 = .ok (.iinc 2 1, 3) := by decide +kernel
theorem dX1_gather_55 : decode cX1_gather 55 = .ok (.goto (-48), 3) := by decide +kernel
theorem dX1_gather_58 : decode cX1_gather 58 = .ok (.iconst 1, 1) := by decide +kernel
theorem dX1_gather_59 : decode cX1_gather 59 = .ok (.istore_n 2, 1) := by decide +kernel
theorem dX1_gather_60 : decode cX1_gather 60 = .ok (.iload_n 2, 1) := by decide +kernel
theorem dX1_gather_61 : decode cX1_gather 61 = .ok (.aload_n 0, 1) := by decide +kernel
theorem dX1_gather_62 : decode cX1_gather 62 = .ok (.getfield 23, 3) := by decide +kernel
theorem dX1_gather_65 : decode cX1_gather 65 = .ok (.if_icmp .ge 14, 3) := by decide +kernel
theorem dX1_gather_68 : decode cX1_gather 68 = .ok (.aload_n 0, 1) := by decide +kernel
theorem dX1_gather_69 : decode cX1_gather 69 = .ok (.iload_n 2, 1) := by decide +kernel
theorem dX1_gather_70 : decode cX1_gather 70 = .ok (.invokevirtual 50, 3) := by decide +kernel
theorem dX1_gather_73 : decode cX1_gather 73 = .ok (.iinc 2 1, 3) := by decide +kernel
theorem dX1_gather_76 : decode cX1_gather 76 = .ok (.goto (-16), 3) := by decide +kernel
theorem dX1_gather_79 : decode cX1_gather 79 = .ok (.return_, 1) := by decide +kernel
set_option maxRecDepth 20000 in
theorem ggX1_count_X7_at : GoodIn wsX1_count wsX7_at := goodIn_r _ [8, 9, 21] (by decide +kernel) (by decide +kernel)
set_option maxRecDepth 20000 in
theorem gX1_count_X7_at : GoodIn wsX1_count (wsV RX1 44 RX7 yX7_at wsX7_at) := goodIn_app (goodIn_of _ (by decide +kernel)) ggX1_count_X7_at
set_option maxRecDepth 20000 in
theorem ggX1_count_X7_put : GoodIn wsX1_count wsX7_put := goodIn_r _ [13, 9, 21] (by decide +kernel) (by decide +kernel)
set_option maxRecDepth 20000 in
theorem gX1_count_X7_put : GoodIn wsX1_count (wsV RX1 53 RX7 yX7_put wsX7_put) := goodIn_app (goodIn_of _ (by decide +kernel)) ggX1_count_X7_put
set_option maxRecDepth 20000 in
theorem ggX1_count_X7_number : GoodIn wsX1_count wsX7_number := goodIn_r _ [17, 9, 21] (by decide +kernel) (by decide +kernel)
set_option maxRecDepth 20000 in
theorem gX1_count_X7_number : GoodIn wsX1_count (wsV RX1 57 RX7 yX7_number wsX7_number) := goodIn_app (goodIn_of _ (by decide +kernel)) ggX1_count_X7_number
theorem dX1_count_0 : decode cX1_count 0 = .ok (.iconst 0, 1) := by decide +kernel
theorem dX1_count_1 : decode cX1_count 1 = .ok (.istore_n 3, 1) := by decide +kernel
theorem dX1_count_2 : decode cX1_count 2 = .ok (.iload_n 3, 1) := by decide +kernel
theorem dX1_count_3 : decode cX1_count 3 = .ok (.aload_n 0, 1) := by decide +kernel
theorem dX1_count_4 : decode cX1_count 4 = .ok (.getfield 23, 3) := by decide +kernel
theorem dX1_count_7 : decode cX1_count 7 = .ok (.if_icmp .ge 22, 3) := by decide +kernel
theorem dX1_count_10 : decode cX1_count 10 = .ok (.aload_n 0, 1) := by decide +kernel
theorem dX1_count_11 : decode cX1_count 11 = .ok (.getfield 14, 3) := by decide +kernel
theorem dX1_count_14 : decode cX1_count 14 = .ok (.iload_n 3, 1) := by decide +kernel
theorem dX1_count_15 : decode cX1_count 15 = .ok (.invokevirtual 44, 3) := by decide +kernel
theorem dX1_count_18 : decode cX1_count 18 = .ok (.lload_n 1, 1) := by decide +kernel
theorem dX1_count_19 : decode cX1_count 19 = .ok (.lcmp, 1) := by decide +kernel
theorem dX1_count_20 : decode cX1_count 20 = .ok (.ifCond .eq 9, 3) := by decide +kernel
theorem dX1_count_23 : decode cX1_count 23 = .ok (.iinc 3 1, 3) := by decide +kernel
theorem dX1_count_26 : decode cX1_count 26 = .ok (.goto (-24), 3) := by decide +kernel
theorem dX1_count_29 : decode cX1_count 29 = .ok (.iload_n 3, 1) := by decide +kernel
theorem dX1_count_30 : decode cX1_count 30 = .ok (.aload_n 0, 1) := by decide +kernel
theorem dX1_count_31 : decode cX1_count 31 = .ok (.getfield 23, 3) := by decide +kernel
theorem dX1_count_34 : decode cX1_count 34 = .ok (.if_icmp .ne 31, 3) := by decide +kernel
theorem dX1_count_37 : decode cX1_count 37 = .ok (.aload_n 0, 1) := by decide +kernel
theorem dX1_count_38 : decode cX1_count 38 = .ok (.getfield 14, 3) := by decide +kernel
theorem dX1_count_41 : decode cX1_count 41 = .ok (.iload_n 3, 1) := by decide +kernel
theorem dX1_count_42 : decode cX1_count 42 = .ok (.lload_n 1, 1) := by decide +kernel
theorem dX1_count_43 : decode cX1_count 43 = .ok (.invokevirtual 53, 3) := by decide +kernel
theorem dX1_count_46 : decode cX1_count 46 = .ok (.aload_n 0, 1) := by decide +kernel
theorem dX1_count_47 : decode cX1_count 47 = .ok (.getfield 20, 3) := by decide +kernel
theorem dX1_count_50 : decode cX1_count 50 = .ok (.iload_n 3, 1) := by decide +kernel
theorem dX1_count_51 : decode cX1_count 51 = .ok (.lconst 0, 1) := by decide +kernel
theorem dX1_count_52 : decode cX1_count 52 = .ok (.invokevirtual 53, 3) := by decide +kernel
theorem dX1_count_55 : decode cX1_count 55 = .ok (.aload_n 0, 1) := by decide +kernel
theorem dX1_count_56 : decode cX1_count 56 = .ok (.dup, 1) := by decide +kernel
theorem dX1_count_57 : decode cX1_count 57 = .ok (.getfield 23, 3) := by decide +kernel
theorem dX1_count_60 : decode cX1_count 60 = .ok (.iconst 1, 1) := by decide +kernel
theorem dX1_count_61 : decode cX1_count 61 = .ok (.iadd, 1) := by decide +kernel
theorem dX1_count_62 : decode cX1_count 62 = .ok (.putfield 23, 3) := by decide +kernel
theorem dX1_count_65 : decode cX1_count 65 = .ok (.aload_n 0, 1) := by decide +kernel
theorem dX1_count_66 : decode cX1_count 66 = .ok (.getfield 20, 3) := by decide +kernel
theorem dX1_count_69 : decode cX1_count 69 = .ok (.iload_n 3, 1) := by decide +kernel
theorem dX1_count_70 : decode cX1_count 70 = .ok (.aload_n 0, 1) := by decide +kernel
theorem dX1_count_71 : decode cX1_count 71 = .ok (.getfield 20, 3) := by decide +kernel
theorem dX1_count_74 : decode cX1_count 74 = .ok (.iload_n 3, 1) := by decide +kernel
theorem dX1_count_75 : decode cX1_count 75 = .ok (.invokevirtual 57, 3) := by decide +kernel
theorem dX1_count_78 : decode cX1_count 78 = .ok (.iconst 1, 1) := by decide +kernel
theorem dX1_count_79 : decode cX1_count 79 = .ok (.iadd, 1) := by decide +kernel
theorem dX1_count_80 : decode cX1_count 80 = .ok (.i2l, 1) := by decide +kernel
theorem dX1_count_81 : decode cX1_count 81 = .ok (.invokevirtual 53, 3) := by decide +kernel
theorem dX1_count_84 : decode cX1_count 84 = .ok (.return_, 1) := by decide +kernel
set_option maxRecDepth 20000 in
theorem ggX1_moveForward_X7_at : GoodIn wsX1_moveForward wsX7_at := goodIn_r _ [7, 8, 25] (by decide +kernel) (by decide +kernel)
set_option maxRecDepth 20000 in
theorem gX1_moveForward_X7_at : GoodIn wsX1_moveForward (wsV RX1 44 RX7 yX7_at wsX7_at) := goodIn_app (goodIn_of _ (by decide +kernel)) ggX1_moveForward_X7_at
set_option maxRecDepth 20000 in
theorem ggX1_moveForward_X7_number : GoodIn wsX1_moveForward wsX7_number := goodIn_r _ [12, 8, 25] (by decide +kernel) (by decide +kernel)
set_option maxRecDepth 20000 in
theorem gX1_moveForward_X7_number : GoodIn wsX1_moveForward (wsV RX1 57 RX7 yX7_number wsX7_number) := goodIn_app (goodIn_of _ (by decide +kernel)) ggX1_moveForward_X7_number
set_option maxRecDepth 20000 in
theorem ggX1_moveForward_X1_isBefore : GoodIn wsX1_moveForward wsX1_isBefore := goodIn_r _ [17, 2, 1, 9, 10, 11, 6, 12, 8, 3, 4, 5, 7, 22, 23, 24, 25] (by decide +kernel) (by decide +kernel)
set_option maxRecDepth 20000 in
theorem gX1_moveForward_X1_isBefore : GoodIn wsX1_moveForward (wsV RX1 61 RX1 yX1_isBefore wsX1_isBefore) := goodIn_app (goodIn_of _ (by decide +kernel)) ggX1_moveForward_X1_isBefore
set_option maxRecDepth 20000 in
theorem ggX1_moveForward_X7_put : GoodIn wsX1_moveForward wsX7_put := goodIn_r _ [21, 8, 25] (by decide +kernel) (by decide +kernel)
set_option maxRecDepth 20000 in
theorem gX1_moveForward_X7_put : GoodIn wsX1_moveForward (wsV RX1 53 RX7 yX7_put wsX7_put) := goodIn_app (goodIn_of _ (by decide +kernel)) ggX1_moveForward_X7_put
theorem dX1_moveForward_0 : decode cX1_moveForward 0 = .ok (.aload_n 0, 1) := by decide +kernel
theorem dX1_moveForward_1 : decode cX1_moveForward 1 = .ok (.getfield 14, 3) := by decide +kernel
theorem dX1_moveForward_4 : decode cX1_moveForward 4 = .ok (.iload_n 1, 1) := by decide +kernel
theorem dX1_moveForward_5 : decode cX1_moveForward 5 = .ok (.invokevirtual 44, 3) := by decide +kernel
theorem dX1_moveForward_8 : decode cX1_moveForward 8 = .ok (.lstore_n 2, 1) := by decide +kernel
theorem dX1_moveForward_9 : decode cX1_moveForward 9 = .ok (.aload_n 0, 1) := by decide +kernel
theorem dX1_moveForward_10 : decode cX1_moveForward 10 = .ok (.getfield 20, 3) := by decide +kernel
theorem dX1_moveForward_13 : decode cX1_moveForward 13 = .ok (.iload_n 1, 1) := by decide +kernel
theorem dX1_moveForward_14 : decode cX1_moveForward 14 = .ok (.invokevirtual 57, 3) := by decide +kernel
theorem dX1_moveForward_17 : decode cX1_moveForward 17 = .ok (.istore 4, 2) := by decide +kernel
theorem dX1_moveForward_19 : decode cX1_moveForward 19 = .ok (.iload_n 1, 1) := by decide +kernel
theorem dX1_moveForward_20 : decode cX1_moveForward 20 = .ok (.istore 5, 2) := by decide +kernel
theorem dX1_moveForward_22 : decode cX1_moveForward 22 = .ok (.iload 5, 2) := by decide +kernel
theorem dX1_moveForward_24 : decode cX1_moveForward 24 = .ok (.ifCond .le 64, 3) := by decide +kernel
theorem dX1_moveForward_27 : decode cX1_moveForward 27 = .ok (.aload_n 0, 1) := by decide +kernel
theorem dX1_moveForward_28 : decode cX1_moveForward 28 = .ok (.lload_n 2, 1) := by decide +kernel
theorem dX1_moveForward_29 : decode cX1_moveForward 29 = .ok (.iload 4, 2) := by decide +kernel
theorem dX1_moveForward_31 : decode cX1_moveForward 31 = .ok (.iload 5, 2) := by decide +kernel
theorem dX1_moveForward_33 : decode cX1_moveForward 33 = .ok (.iconst 1, 1) := by decide +kernel
theorem dX1_moveForward_34 : decode cX1_moveForward 34 = .ok (.isub, 1) := by decide +kernel
theorem dX1_moveForward_35 : decode cX1_moveForward 35 = .ok (.invokevirtual 61, 3) := by decide +kernel
theorem dX1_moveForward_38 : decode cX1_moveForward 38 = .ok (.ifCond .eq 50, 3) := by decide +kernel
theorem dX1_moveForward_41 : decode cX1_moveForward 41 = .ok (.aload_n 0, 1) := by decide +kernel
theorem dX1_moveForward_42 : decode cX1_moveForward 42 = .ok (.getfield 14, 3) := by decide +kernel
theorem dX1_moveForward_45 : decode cX1_moveForward 45 = .ok (.iload 5, 2) := by decide +kernel
theorem dX1_moveForward_47 : decode cX1_moveForward 47 = .ok (.aload_n 0, 1) := by decide +kernel
theorem dX1_moveForward_48 : decode cX1_moveForward 48 = .ok (.getfield 14, 3) := by decide +kernel
theorem dX1_moveForward_51 : decode cX1_moveForward 51 = .ok (.iload 5, 2) := by decide +kernel
theorem dX1_moveForward_53 : decode cX1_moveForward 53 = .ok (.iconst 1, 1) := by decide +kernel
theorem dX1_moveForward_54 : decode cX1_moveForward 54 = .ok (.isub, 1) := by decide +kernel
theorem dX1_moveForward_55 : decode cX1_moveForward 55 = .ok (.invokevirtual 44, 3) := by decide +kernel
theorem dX1_moveForward_58 : decode cX1_moveForward 58 = .ok (.invokevirtual 53, 3) := by decide +kernel
theorem dX1_moveForward_61 : decode cX1_moveForward 61 = .ok (.aload_n 0, 1) := by decide +kernel
theorem dX1_moveForward_62 : decode cX1_moveForward 62 = .ok (.getfield 20, 3) := by decide +kernel
theorem dX1_moveForward_65 : decode cX1_moveForward 65 = .ok (.iload 5, 2) := by decide +kernel
theorem dX1_moveForward_67 : decode cX1_moveForward 67 = .ok (.aload_n 0, 1) := by decide +kernel
theorem dX1_moveForward_68 : decode cX1_moveForward 68 = .ok (.getfield 20, 3) := by decide +kernel
theorem dX1_moveForward_71 : decode cX1_moveForward 71 = .ok (.iload 5, 2) := by decide +kernel
theorem dX1_moveForward_73 : decode cX1_moveForward 73 = .ok (.iconst 1, 1) := by decide +kernel
theorem dX1_moveForward_74 : decode cX1_moveForward 74 = .ok (.isub, 1) := by decide +kernel
theorem dX1_moveForward_75 : decode cX1_moveForward 75 = .ok (.invokevirtual 57, 3) := by decide +kernel
theorem dX1_moveForward_78 : decode cX1_moveForward 78 = .ok (.i2l, 1) := by decide +kernel
theorem dX1_moveForward_79 : decode cX1_moveForward 79 = .ok (.invokevirtual 53, 3) := by decide +kernel
theorem dX1_moveForward_82 : decode cX1_moveForward 82 = .ok (.iinc 5 (-1), 3) := by decide +kernel
theorem dX1_moveForward_85 : decode cX1_moveForward 85 = .ok (.goto (-63), 3) := by decide +kernel
theorem dX1_moveForward_88 : decode cX1_moveForward 88 = .ok (.aload_n 0, 1) := by decide +kernel
theorem dX1_moveForward_89 : decode cX1_moveForward 89 = .ok (.getfield 14, 3) := by decide +kernel
theorem dX1_moveForward_92 : decode cX1_moveForward 92 = .ok (.iload 5, 2) := by decide +kernel
theorem dX1_moveForward_94 : decode cX1_moveForward 94 = .ok (.lload_n 2, 1) := by decide +kernel
theorem dX1_moveForward_95 : decode cX1_moveForward 95 = .ok (.invokevirtual 53, 3) := by decide +kernel
theorem dX1_moveForward_98 : decode cX1_moveForward 98 = .ok (.aload_n 0, 1) := by decide +kernel
theorem dX1_moveForward_99 : decode cX1_moveForward 99 = .ok (.getfield 20, 3) := by decide +kernel
theorem dX1_moveForward_102 : decode cX1_moveForward 102 = .ok (.iload 5, 2) := by decide +kernel
theorem dX1_moveForward_104 : decode cX1_moveForward 104 = .ok (.iload 4, 2) := by decide +kernel
theorem dX1_moveForward_106 : decode cX1_moveForward 106 = .ok (.i2l, 1) := by decide +kernel
theorem dX1_moveForward_107 : decode cX1_moveForward 107 = .ok (.invokevirtual 53, 3) := by decide +kernel
theorem dX1_moveForward_110 : decode cX1_moveForward 110 = .ok (.return_, 1) := by decide +kernel
set_option maxRecDepth 20000 in
theorem ggX1_isBefore_X7_number : GoodIn wsX1_isBefore wsX7_number := goodIn_r _ [7, 8, 16] (by decide +kernel) (by decide +kernel)
set_option maxRecDepth 20000 in
theorem gX1_isBefore_X7_number : GoodIn wsX1_isBefore (wsV RX1 57 RX7 yX7_number wsX7_number) := goodIn_app (goodIn_of _ (by decide +kernel)) ggX1_isBefore_X7_number
set_option maxRecDepth 20000 in
theorem ggX1_isBefore_X7_at : GoodIn wsX1_isBefore wsX7_at := goodIn_r _ [12, 8, 16] (by decide +kernel) (by decide +kernel)
set_option maxRecDepth 20000 in
theorem gX1_isBefore_X7_at : GoodIn wsX1_isBefore (wsV RX1 44 RX7 yX7_at wsX7_at) := goodIn_app (goodIn_of _ (by decide +kernel)) ggX1_isBefore_X7_at
theorem dX1_isBefore_0 : decode cX1_isBefore 0 = .ok (.aload_n 0, 1) := by decide +kernel
theorem dX1_isBefore_1 : decode cX1_isBefore 1 = .ok (.getfield 20, 3) := by decide +kernel
theorem dX1_isBefore_4 : decode cX1_isBefore 4 = .ok (.iload 4, 2) := by decide +kernel
theorem dX1_isBefore_6 : decode cX1_isBefore 6 = .ok (.invokevirtual 57, 3) := by decide +kernel
theorem dX1_isBefore_9 : decode cX1_isBefore 9 = .ok (.istore 5, 2) := by decide +kernel
theorem dX1_isBefore_11 : decode cX1_isBefore 11 = .ok (.iload_n 3, 1) := by decide +kernel
theorem dX1_isBefore_12 : decode cX1_isBefore 12 = .ok (.iload 5, 2) := by decide +kernel
theorem dX1_isBefore_14 : decode cX1_isBefore 14 = .ok (.if_icmp .eq 17, 3) := by decide +kernel
theorem dX1_isBefore_17 : decode cX1_isBefore 17 = .ok (.iload_n 3, 1) := by decide +kernel
theorem dX1_isBefore_18 : decode cX1_isBefore 18 = .ok (.iload 5, 2) := by decide +kernel
theorem dX1_isBefore_20 : decode cX1_isBefore 20 = .ok (.if_icmp .le 7, 3) := by decide +kernel
theorem dX1_isBefore_23 : decode cX1_isBefore 23 = .ok (.iconst 1, 1) := by decide +kernel
theorem dX1_isBefore_24 : decode cX1_isBefore 24 = .ok (.goto 26, 3) := by decide +kernel
theorem dX1_isBefore_27 : decode cX1_isBefore 27 = .ok (.iconst 0, 1) := by decide +kernel
theorem dX1_isBefore_28 : decode cX1_isBefore 28 = .ok (.goto 22, 3) := by decide +kernel
theorem dX1_isBefore_31 : decode cX1_isBefore 31 = .ok (.lload_n 1, 1) := by decide +kernel
theorem dX1_isBefore_32 : decode cX1_isBefore 32 = .ok (.aload_n 0, 1) := by decide +kernel
theorem dX1_isBefore_33 : decode cX1_isBefore 33 = .ok (.getfield 14, 3) := by decide +kernel
theorem dX1_isBefore_36 : decode cX1_isBefore 36 = .ok (.iload 4, 2) := by decide +kernel
theorem dX1_isBefore_38 : decode cX1_isBefore 38 = .ok (.invokevirtual 44, 3) := by decide +kernel
theorem dX1_isBefore_41 : decode cX1_isBefore 41 = .ok (.lcmp, 1) := by decide +kernel
theorem dX1_isBefore_42 : decode cX1_isBefore 42 = .ok (.ifCond .ge 7, 3) := by decide +kernel
theorem dX1_isBefore_45 : decode cX1_isBefore 45 = .ok (.iconst 1, 1) := by decide +kernel
theorem dX1_isBefore_46 : decode cX1_isBefore 46 = .ok (.goto 4, 3) := by decide +kernel
theorem dX1_isBefore_49 : decode cX1_isBefore 49 = .ok (.iconst 0, 1) := by decide +kernel
theorem dX1_isBefore_50 : decode cX1_isBefore 50 = .ok (.ireturn, 1) := by decide +kernel
set_option maxRecDepth 20000 in
theorem ggX2_init_X9_init : GoodIn wsX2_init wsX9_init := goodIn_r _ [11, 12, 2, 3, 13, 14, 15, 16, 17, 18, 19, 20, 21, 22, 23, 24, 25, 26, 27, 28, 29, 30, 31, 32, 33, 34, 35, 36, 37, 43, 44, 45, 46, 47, 48, 49, 50, 51, 52, 53, 54, 55] (by decide +kernel) (by decide +kernel)
set_option maxRecDepth 20000 in
theorem gX2_init_X9_init : GoodIn wsX2_init (wsX9_init) := ggX2_init_X9_init
theorem dX2_init_0 : decode cX2_init 0 = .ok (.aload_n 0, 1) := by decide +kernel
theorem dX2_init_1 : decode cX2_init 1 = .ok (.invokespecial 3, 3) := by decide +kernel
theorem dX2_init_4 : decode cX2_init 4 = .ok (.aload_n 0, 1) := by decide +kernel
theorem dX2_init_5 : decode cX2_init 5 = .ok (.iconst 5, 1) := by decide +kernel
theorem dX2_init_6 : decode cX2_init 6 = .ok (.anewarray 9, 3) := by decide +kernel
theorem dX2_init_9 : decode cX2_init 9 = .ok (.putfield 11, 3) := by decide +kernel
theorem dX2_init_12 : decode cX2_init 12 = .ok (.aload_n 0, 1) := by decide +kernel
theorem dX2_init_13 : decode cX2_init 13 = .ok (.new 9, 3) := by decide +kernel
theorem dX2_init_16 : decode cX2_init 16 = .ok (.dup, 1) := by decide +kernel
theorem dX2_init_17 : decode cX2_init 17 = .ok (.invokespecial 17, 3) := by decide +kernel
theorem dX2_init_20 : decode cX2_init 20 = .ok (.putfield 18, 3) := by decide +kernel
theorem dX2_init_23 : decode cX2_init 23 = .ok (.iconst 0, 1) := by decide +kernel
theorem dX2_init_24 : decode cX2_init 24 = .ok (.istore_n 1, 1) := by decide +kernel
theorem dX2_init_25 : decode cX2_init 25 = .ok (.iload_n 1, 1) := by decide +kernel
theorem dX2_init_26 : decode cX2_init 26 = .ok (.aload_n 0, 1) := by decide +kernel
theorem dX2_init_27 : decode cX2_init 27 = .ok (.getfield 11, 3) := by decide +kernel
theorem dX2_init_30 : decode cX2_init 30 = .ok (.arraylength, 1) := by decide +kernel
theorem dX2_init_31 : decode cX2_init 31 = .ok (.if_icmp .ge 22, 3) := by decide +kernel
theorem dX2_init_34 : decode cX2_init 34 = .ok (.aload_n 0, 1) := by decide +kernel
theorem dX2_init_35 : decode cX2_init 35 = .ok (.getfield 11, 3) := by decide +kernel
theorem dX2_init_38 : decode cX2_init 38 = .ok (.iload_n 1, 1) := by decide +kernel
theorem dX2_init_39 : decode cX2_init 39 = .ok (.new 9, 3) := by decide +kernel
theorem dX2_init_42 : decode cX2_init 42 = .ok (.dup, 1) := by decide +kernel
theorem dX2_init_43 : decode cX2_init 43 = .ok (.invokespecial 17, 3) := by decide +kernel
theorem dX2_init_46 : decode cX2_init 46 = .ok (.aastore, 1) := by decide +kernel
theorem dX2_init_47 : decode cX2_init 47 = .ok (.iinc 1 1, 3) := by decide +kernel
theorem dX2_init_50 : decode cX2_init 50 = .ok (.goto (-25), 3) := by decide +kernel
theorem dX2_init_53 : decode cX2_init 53 = .ok (.return_, 1) := by decide +kernel
theorem dX2_slot_0 : decode cX2_slot 0 = .ok (.aload_n 0, 1) := by decide +kernel
theorem dX2_slot_1 : decode cX2_slot 1 = .ok (.getfield 22, 3) := by decide +kernel
theorem dX2_slot_4 : decode cX2_slot 4 = .ok (.iload_n 1, 1) := by decide +kernel
theorem dX2_slot_5 : decode cX2_slot 5 = .ok (.iadd, 1) := by decide +kernel
theorem dX2_slot_6 : decode cX2_slot 6 = .ok (.iconst 5, 1) := by decide +kernel
theorem dX2_slot_7 : decode cX2_slot 7 = .ok (.irem, 1) := by decide +kernel
theorem dX2_slot_8 : decode cX2_slot 8 = .ok (.istore_n 2, 1) := by decide +kernel
theorem dX2_slot_9 : decode cX2_slot 9 = .ok (.iload_n 2, 1) := by decide +kernel
theorem dX2_slot_10 : decode cX2_slot 10 = .ok (.ifCond .lt 21, 3) := by decide +kernel
theorem dX2_slot_13 : decode cX2_slot 13 = .ok (.iload_n 2, 1) := by decide +kernel
theorem dX2_slot_14 : decode cX2_slot 14 = .ok (.aload_n 0, 1) := by decide +kernel
theorem dX2_slot_15 : decode cX2_slot 15 = .ok (.getfield 11, 3) := by decide +kernel
theorem dX2_slot_18 : decode cX2_slot 18 = .ok (.arraylength, 1) := by decide +kernel
theorem dX2_slot_19 : decode cX2_slot 19 = .ok (.if_icmp .ge 12, 3) := by decide +kernel
theorem dX2_slot_22 : decode cX2_slot 22 = .ok (.aload_n 0, 1) := by decide +kernel
theorem dX2_slot_23 : decode cX2_slot 23 = .ok (.getfield 11, 3) := by decide +kernel
theorem dX2_slot_26 : decode cX2_slot 26 = .ok (.iload_n 2, 1) := by decide +kernel
theorem dX2_slot_27 : decode cX2_slot 27 = .ok (.aaload, 1) := by decide +kernel
theorem dX2_slot_28 : decode cX2_slot 28 = .ok (.goto 4, 3) := by decide +kernel
theorem dX2_slot_31 : decode cX2_slot 31 = .ok (.aconst_null, 1) := by decide +kernel
theorem dX2_slot_32 : decode cX2_slot 32 = .ok (.areturn, 1) := by decide +kernel
set_option maxRecDepth 20000 in
theorem ggX2_save_X2_slot : GoodIn wsX2_save wsX2_slot := goodIn_r _ [7, 2, 8, 45, 46, 47, 48, 49] (by decide +kernel) (by decide +kernel)
set_option maxRecDepth 20000 in
theorem gX2_save_X2_slot : GoodIn wsX2_save (wsV RX2 29 RX2 yX2_slot wsX2_slot) := goodIn_app (goodIn_of _ (by decide +kernel)) ggX2_save_X2_slot
set_option maxRecDepth 20000 in
theorem ggX2_save_X9_copy : GoodIn wsX2_save wsX9_copy := goodIn_r _ [13, 14, 15, 16, 17, 18, 12, 19, 20, 21, 22, 23, 24, 25, 26, 27, 28, 29, 30, 31, 32, 33, 34, 35, 36, 37, 38, 39, 40, 41, 42, 43, 44, 50, 51, 52, 53, 54, 55, 56, 57, 58, 59, 60, 61, 62] (by decide +kernel) (by decide +kernel)
set_option maxRecDepth 20000 in
theorem gX2_save_X9_copy : GoodIn wsX2_save (wsV RX2 33 RX9 yX9_copy wsX9_copy) := goodIn_app (goodIn_of _ (by decide +kernel)) ggX2_save_X9_copy
theorem dX2_save_0 : decode cX2_save 0 = .ok (.aload_n 0, 1) := by decide +kernel
theorem dX2_save_1 : decode cX2_save 1 = .ok (.getfield 26, 3) := by decide +kernel
theorem dX2_save_4 : decode cX2_save 4 = .ok (.iconst 5, 1) := by decide +kernel
theorem dX2_save_5 : decode cX2_save 5 = .ok (.if_icmp .ne 25, 3) := by decide +kernel
theorem dX2_save_8 : decode cX2_save 8 = .ok (.aload_n 0, 1) := by decide +kernel
theorem dX2_save_9 : decode cX2_save 9 = .ok (.aload_n 0, 1) := by decide +kernel
theorem dX2_save_10 : decode cX2_save 10 = .ok (.getfield 22, 3) := by decide +kernel
theorem dX2_save_13 : decode cX2_save 13 = .ok (.iconst 1, 1) := by decide +kernel
theorem dX2_save_14 : decode cX2_save 14 = .ok (.iadd, 1) := by decide +kernel
theorem dX2_save_15 : decode cX2_save 15 = .ok (.iconst 5, 1) := by decide +kernel
theorem dX2_save_16 : decode cX2_save 16 = .ok (.irem, 1) := by decide +kernel
theorem dX2_save_17 : decode cX2_save 17 = .ok (.putfield 22, 3) := by decide +kernel
theorem dX2_save_20 : decode cX2_save 20 = .ok (.aload_n 0, 1) := by decide +kernel
theorem dX2_save_21 : decode cX2_save 21 = .ok (.dup, 1) := by decide +kernel
theorem dX2_save_22 : decode cX2_save 22 = .ok (.getfield 26, 3) := by decide +kernel
theorem dX2_save_25 : decode cX2_save 25 = .ok (.iconst 1, 1) := by decide +kernel
theorem dX2_save_26 : decode cX2_save 26 = .ok (.isub, 1) := by decide +kernel
theorem dX2_save_27 : decode cX2_save 27 = .ok (.putfield 26, 3) := by decide +kernel
theorem dX2_save_30 : decode cX2_save 30 = .ok (.aload_n 0, 1) := by decide +kernel
theorem dX2_save_31 : decode cX2_save 31 = .ok (.aload_n 0, 1) := by decide +kernel
theorem dX2_save_32 : decode cX2_save 32 = .ok (.getfield 26, 3) := by decide +kernel
theorem dX2_save_35 : decode cX2_save 35 = .ok (.invokevirtual 29, 3) := by decide +kernel
theorem dX2_save_38 : decode cX2_save 38 = .ok (.astore_n 2, 1) := by decide +kernel
theorem dX2_save_39 : decode cX2_save 39 = .ok (.aload_n 2, 1) := by decide +kernel
theorem dX2_save_40 : decode cX2_save 40 = .ok (.ifnull 18, 3) := by decide +kernel
theorem dX2_save_43 : decode cX2_save 43 = .ok (.aload_n 2, 1) := by decide +kernel
theorem dX2_save_44 : decode cX2_save 44 = .ok (.aload_n 1, 1) := by decide +kernel
theorem dX2_save_45 : decode cX2_save 45 = .ok (.invokevirtual 33, 3) := by decide +kernel
theorem dX2_save_48 : decode cX2_save 48 = .ok (.aload_n 0, 1) := by decide +kernel
theorem dX2_save_49 : decode cX2_save 49 = .ok (.dup, 1) := by decide +kernel
theorem dX2_save_50 : decode cX2_save 50 = .ok (.getfield 26, 3) := by decide +kernel
theorem dX2_save_53 : decode cX2_save 53 = .ok (.iconst 1, 1) := by decide +kernel
theorem dX2_save_54 : decode cX2_save 54 = .ok (.iadd, 1) := by decide +kernel
theorem dX2_save_55 : decode cX2_save 55 = .ok (.putfield 26, 3) := by decide +kernel
theorem dX2_save_58 : decode cX2_save 58 = .ok (.return_, 1) := by decide +kernel
set_option maxRecDepth 20000 in
theorem ggX2_takeBack_X2_slot : GoodIn wsX2_takeBack wsX2_slot := goodIn_r _ [6, 7, 8, 45, 46, 47, 48, 49] (by decide +kernel) (by decide +kernel)
set_option maxRecDepth 20000 in
theorem gX2_takeBack_X2_slot : GoodIn wsX2_takeBack (wsV RX2 29 RX2 yX2_slot wsX2_slot) := goodIn_app (goodIn_of _ (by decide +kernel)) ggX2_takeBack_X2_slot
set_option maxRecDepth 20000 in
theorem ggX2_takeBack_X9_copy : GoodIn wsX2_takeBack wsX9_copy := goodIn_r _ [13, 14, 15, 16, 17, 18, 12, 19, 20, 21, 22, 23, 24, 25, 26, 27, 28, 29, 30, 31, 32, 33, 34, 35, 36, 37, 38, 39, 40, 41, 42, 43, 44, 50, 51, 52, 53, 54, 55, 56, 57, 58, 59, 60, 61, 62] (by decide +kernel) (by decide +kernel)
set_option maxRecDepth 20000 in
theorem gX2_takeBack_X9_copy : GoodIn wsX2_takeBack (wsV RX2 33 RX9 yX9_copy wsX9_copy) := goodIn_app (goodIn_of _ (by decide +kernel)) ggX2_takeBack_X9_copy
theorem dX2_takeBack_0 : decode cX2_takeBack 0 = .ok (.aload_n 0, 1) := by decide +kernel
theorem dX2_takeBack_1 : decode cX2_takeBack 1 = .ok (.aload_n 0, 1) := by decide +kernel
theorem dX2_takeBack_2 : decode cX2_takeBack 2 = .ok (.getfield 26, 3) := by decide +kernel
theorem dX2_takeBack_5 : decode cX2_takeBack 5 = .ok (.iconst 1, 1) := by decide +kernel
theorem dX2_takeBack_6 : decode cX2_takeBack 6 = .ok (.isub, 1) := by decide +kernel
theorem dX2_takeBack_7 : decode cX2_takeBack 7 = .ok (.invokevirtual 29, 3) := by decide +kernel
theorem dX2_takeBack_10 : decode cX2_takeBack 10 = .ok (.astore_n 2, 1) := by decide +kernel
theorem dX2_takeBack_11 : decode cX2_takeBack 11 = .ok (.aload_n 2, 1) := by decide +kernel
theorem dX2_takeBack_12 : decode cX2_takeBack 12 = .ok (.ifnull 18, 3) := by decide +kernel
theorem dX2_takeBack_15 : decode cX2_takeBack 15 = .ok (.aload_n 1, 1) := by decide +kernel
theorem dX2_takeBack_16 : decode cX2_takeBack 16 = .ok (.aload_n 2, 1) := by decide +kernel
theorem dX2_takeBack_17 : decode cX2_takeBack 17 = .ok (.invokevirtual 33, 3) := by decide +kernel
theorem dX2_takeBack_20 : decode cX2_takeBack 20 = .ok (.aload_n 0, 1) := by decide +kernel
theorem dX2_takeBack_21 : decode cX2_takeBack 21 = .ok (.dup, 1) := by decide +kernel
theorem dX2_takeBack_22 : decode cX2_takeBack 22 = .ok (.getfield 26, 3) := by decide +kernel
theorem dX2_takeBack_25 : decode cX2_takeBack 25 = .ok (.iconst 1, 1) := by decide +kernel
theorem dX2_takeBack_26 : decode cX2_takeBack 26 = .ok (.isub, 1) := by decide +kernel
theorem dX2_takeBack_27 : decode cX2_takeBack 27 = .ok (.putfield 26, 3) := by decide +kernel
theorem dX2_takeBack_30 : decode cX2_takeBack 30 = .ok (.return_, 1) := by decide +kernel
set_option maxRecDepth 20000 in
theorem ggX3_init_X7_init : GoodIn wsX3_init wsX7_init := goodIn_r _ [10, 11, 2, 3, 12, 13, 14, 15, 16, 17, 18] (by decide +kernel) (by decide +kernel)
set_option maxRecDepth 20000 in
theorem gX3_init_X7_init : GoodIn wsX3_init (wsX7_init) := ggX3_init_X7_init
theorem dX3_init_0 : decode cX3_init 0 = .ok (.aload_n 0, 1) := by decide +kernel
theorem dX3_init_1 : decode cX3_init 1 = .ok (.invokespecial 3, 3) := by decide +kernel
theorem dX3_init_4 : decode cX3_init 4 = .ok (.aload_n 0, 1) := by decide +kernel
theorem dX3_init_5 : decode cX3_init 5 = .ok (.new 9, 3) := by decide +kernel
theorem dX3_init_8 : decode cX3_init 8 = .ok (.dup, 1) := by decide +kernel
theorem dX3_init_9 : decode cX3_init 9 = .ok (.bipush 20, 2) := by decide +kernel
theorem dX3_init_11 : decode cX3_init 11 = .ok (.invokespecial 11, 3) := by decide +kernel
theorem dX3_init_14 : decode cX3_init 14 = .ok (.putfield 14, 3) := by decide +kernel
theorem dX3_init_17 : decode cX3_init 17 = .ok (.return_, 1) := by decide +kernel
set_option maxRecDepth 20000 in
theorem ggX3_longest_X9_at : GoodIn wsX3_longest wsX9_at := goodIn_r _ [10, 11, 12, 32, 33, 34, 35] (by decide +kernel) (by decide +kernel)
set_option maxRecDepth 20000 in
theorem gX3_longest_X9_at : GoodIn wsX3_longest (wsV RX3 20 RX9 yX9_at wsX9_at) := goodIn_app (goodIn_of _ (by decide +kernel)) ggX3_longest_X9_at
set_option maxRecDepth 20000 in
theorem ggX3_longest_X4_quotes : GoodIn wsX3_longest wsX4_quotes := goodIn_r _ [17, 18, 19, 20, 21, 22, 23, 24, 25, 36, 37, 38, 39, 40, 41, 42, 43, 44] (by decide +kernel) (by decide +kernel)
set_option maxRecDepth 20000 in
theorem gX3_longest_X4_quotes : GoodIn wsX3_longest (wsV RX3 26 RX4 yX4_quotes wsX4_quotes) := goodIn_app (goodIn_of _ (by decide +kernel)) ggX3_longest_X4_quotes
set_option maxRecDepth 20000 in
theorem ggX3_longest_X7_number : GoodIn wsX3_longest wsX7_number := goodIn_r _ [24, 25, 44] (by decide +kernel) (by decide +kernel)
set_option maxRecDepth 20000 in
theorem gX3_longest_X7_number : GoodIn wsX3_longest (wsV RX3 32 RX7 yX7_number wsX7_number) := goodIn_app (goodIn_of _ (by decide +kernel)) ggX3_longest_X7_number
set_option maxRecDepth 20000 in
theorem ggX3_longest_X7_put : GoodIn wsX3_longest wsX7_put := goodIn_r _ [30, 25, 44] (by decide +kernel) (by decide +kernel)
set_option maxRecDepth 20000 in
theorem gX3_longest_X7_put : GoodIn wsX3_longest (wsV RX3 42 RX7 yX7_put wsX7_put) := goodIn_app (goodIn_of _ (by decide +kernel)) ggX3_longest_X7_put
theorem dX3_longest_0 : decode cX3_longest 0 = .ok (.iconst 0, 1) := by decide +kernel
theorem dX3_longest_1 : decode cX3_longest 1 = .ok (.istore_n 3, 1) := by decide +kernel
theorem dX3_longest_2 : decode cX3_longest 2 = .ok (.iload_n 3, 1) := by decide +kernel
theorem dX3_longest_3 : decode cX3_longest 3 = .ok (.iload_n 2, 1) := by decide +kernel
theorem dX3_longest_4 : decode cX3_longest 4 = .ok (.if_icmp .gt 75, 3) := by decide +kernel
theorem dX3_longest_7 : decode cX3_longest 7 = .ok (.iload_n 3, 1) := by decide +kernel
theorem dX3_longest_8 : decode cX3_longest 8 = .ok (.bipush 20, 2) := by decide +kernel
theorem dX3_longest_10 : decode cX3_longest 10 = .ok (.if_icmp .ge 69, 3) := by decide +kernel
theorem dX3_longest_13 : decode cX3_longest 13 = .ok (.iconst 0, 1) := by decide +kernel
theorem dX3_longest_14 : decode cX3_longest 14 = .ok (.istore 4, 2) := by decide +kernel
theorem dX3_longest_16 : decode cX3_longest 16 = .ok (.iconst 0, 1) := by decide +kernel
theorem dX3_longest_17 : decode cX3_longest 17 = .ok (.istore 5, 2) := by decide +kernel
theorem dX3_longest_19 : decode cX3_longest 19 = .ok (.iload 5, 2) := by decide +kernel
theorem dX3_longest_21 : decode cX3_longest 21 = .ok (.iload_n 3, 1) := by decide +kernel
theorem dX3_longest_22 : decode cX3_longest 22 = .ok (.if_icmp .ge 38, 3) := by decide +kernel
theorem dX3_longest_25 : decode cX3_longest 25 = .ok (.aload_n 1, 1) := by decide +kernel
theorem dX3_longest_26 : decode cX3_longest 26 = .ok (.iload_n 3, 1) := by decide +kernel
theorem dX3_longest_27 : decode cX3_longest 27 = .ok (.invokevirtual 20, 3) := by decide +kernel
theorem dX3_longest_30 : decode cX3_longest 30 = .ok (.iload 5, 2) := by decide +kernel
theorem dX3_longest_32 : decode cX3_longest 32 = .ok (.invokevirtual 26, 3) := by decide +kernel
theorem dX3_longest_35 : decode cX3_longest 35 = .ok (.ifCond .eq 19, 3) := by decide +kernel
theorem dX3_longest_38 : decode cX3_longest 38 = .ok (.iload 4, 2) := by decide +kernel
theorem dX3_longest_40 : decode cX3_longest 40 = .ok (.aload_n 0, 1) := by decide +kernel
theorem dX3_longest_41 : decode cX3_longest 41 = .ok (.getfield 14, 3) := by decide +kernel
theorem dX3_longest_44 : decode cX3_longest 44 = .ok (.iload 5, 2) := by decide +kernel
theorem dX3_longest_46 : decode cX3_longest 46 = .ok (.invokevirtual 32, 3) := by decide +kernel
theorem dX3_longest_49 : decode cX3_longest 49 = .ok (.invokestatic 36, 3) := by decide +kernel
theorem dX3_longest_52 : decode cX3_longest 52 = .ok (.istore 4, 2) := by decide +kernel
theorem dX3_longest_54 : decode cX3_longest 54 = .ok (.iinc 5 1, 3) := by decide +kernel
theorem dX3_longest_57 : decode cX3_longest 57 = .ok (.goto (-38), 3) := by decide +kernel
theorem dX3_longest_60 : decode cX3_longest 60 = .ok (.aload_n 0, 1) := by decide +kernel
theorem dX3_longest_61 : decode cX3_longest 61 = .ok (.getfield 14, 3) := by decide +kernel
theorem dX3_longest_64 : decode cX3_longest 64 = .ok (.iload_n 3, 1) := by decide +kernel
theorem dX3_longest_65 : decode cX3_longest 65 = .ok (.iload 4, 2) := by decide +kernel
theorem dX3_longest_67 : decode cX3_longest 67 = .ok (.iconst 1, 1) := by decide +kernel
theorem dX3_longest_68 : decode cX3_longest 68 = .ok (.iadd, 1) := by decide +kernel
theorem dX3_longest_69 : decode cX3_longest 69 = .ok (.i2l, 1) := by decide +kernel
theorem dX3_longest_70 : decode cX3_longest 70 = .ok (.invokevirtual 42, 3) := by decide +kernel
theorem dX3_longest_73 : decode cX3_longest 73 = .ok (.iinc 3 1, 3) := by decide +kernel
theorem dX3_longest_76 : decode cX3_longest 76 = .ok (.goto (-74), 3) := by decide +kernel
theorem dX3_longest_79 : decode cX3_longest 79 = .ok (.aload_n 0, 1) := by decide +kernel
theorem dX3_longest_80 : decode cX3_longest 80 = .ok (.getfield 14, 3) := by decide +kernel
theorem dX3_longest_83 : decode cX3_longest 83 = .ok (.iload_n 2, 1) := by decide +kernel
theorem dX3_longest_84 : decode cX3_longest 84 = .ok (.invokevirtual 32, 3) := by decide +kernel
theorem dX3_longest_87 : decode cX3_longest 87 = .ok (.ireturn, 1) := by decide +kernel
set_option maxRecDepth 20000 in
theorem ggX3_fromTheGround_X9_at : GoodIn wsX3_fromTheGround wsX9_at := goodIn_r _ [6, 7, 8, 36, 37, 38, 39] (by decide +kernel) (by decide +kernel)
set_option maxRecDepth 20000 in
theorem gX3_fromTheGround_X9_at : GoodIn wsX3_fromTheGround (wsV RX3 20 RX9 yX9_at wsX9_at) := goodIn_app (goodIn_of _ (by decide +kernel)) ggX3_fromTheGround_X9_at
set_option maxRecDepth 20000 in
theorem ggX3_fromTheGround_X4_quotes : GoodIn wsX3_fromTheGround wsX4_quotes := goodIn_r _ [13, 14, 15, 16, 17, 18, 19, 20, 21, 28, 29, 30, 31, 32, 33, 34, 35, 40] (by decide +kernel) (by decide +kernel)
set_option maxRecDepth 20000 in
theorem gX3_fromTheGround_X4_quotes : GoodIn wsX3_fromTheGround (wsV RX3 26 RX4 yX4_quotes wsX4_quotes) := goodIn_app (goodIn_of _ (by decide +kernel)) ggX3_fromTheGround_X4_quotes
set_option maxRecDepth 20000 in
theorem ggX3_fromTheGround_X7_number : GoodIn wsX3_fromTheGround wsX7_number := goodIn_r _ [20, 21, 40] (by decide +kernel) (by decide +kernel)
set_option maxRecDepth 20000 in
theorem gX3_fromTheGround_X7_number : GoodIn wsX3_fromTheGround (wsV RX3 32 RX7 yX7_number wsX7_number) := goodIn_app (goodIn_of _ (by decide +kernel)) ggX3_fromTheGround_X7_number
set_option maxRecDepth 20000 in
theorem ggX3_fromTheGround_X7_put : GoodIn wsX3_fromTheGround wsX7_put := goodIn_r _ [26, 21, 40] (by decide +kernel) (by decide +kernel)
set_option maxRecDepth 20000 in
theorem gX3_fromTheGround_X7_put : GoodIn wsX3_fromTheGround (wsV RX3 42 RX7 yX7_put wsX7_put) := goodIn_app (goodIn_of _ (by decide +kernel)) ggX3_fromTheGround_X7_put
theorem dX3_fromTheGround_0 : decode cX3_fromTheGround 0 = .ok (.iconst 0, 1) := by decide +kernel
theorem dX3_fromTheGround_1 : decode cX3_fromTheGround 1 = .ok (.istore_n 3, 1) := by decide +kernel
theorem dX3_fromTheGround_2 : decode cX3_fromTheGround 2 = .ok (.iload_n 3, 1) := by decide +kernel
theorem dX3_fromTheGround_3 : decode cX3_fromTheGround 3 = .ok (.iload_n 2, 1) := by decide +kernel
theorem dX3_fromTheGround_4 : decode cX3_fromTheGround 4 = .ok (.if_icmp .gt 86, 3) := by decide +kernel
theorem dX3_fromTheGround_7 : decode cX3_fromTheGround 7 = .ok (.iload_n 3, 1) := by decide +kernel
theorem dX3_fromTheGround_8 : decode cX3_fromTheGround 8 = .ok (.bipush 20, 2) := by decide +kernel
theorem dX3_fromTheGround_10 : decode cX3_fromTheGround 10 = .ok (.if_icmp .ge 80, 3) := by decide +kernel
theorem dX3_fromTheGround_13 : decode cX3_fromTheGround 13 = .ok (.iconst 0, 1) := by decide +kernel
theorem dX3_fromTheGround_14 : decode cX3_fromTheGround 14 = .ok (.istore 4, 2) := by decide +kernel
theorem dX3_fromTheGround_16 : decode cX3_fromTheGround 16 = .ok (.iconst 0, 1) := by decide +kernel
theorem dX3_fromTheGround_17 : decode cX3_fromTheGround 17 = .ok (.istore 5, 2) := by decide +kernel
theorem dX3_fromTheGround_19 : decode cX3_fromTheGround 19 = .ok (.iload 5, 2) := by decide +kernel
theorem dX3_fromTheGround_21 : decode cX3_fromTheGround 21 = .ok (.iload_n 3, 1) := by decide +kernel
theorem dX3_fromTheGround_22 : decode cX3_fromTheGround 22 = .ok (.if_icmp .ge 36, 3) := by decide +kernel
theorem dX3_fromTheGround_25 : decode cX3_fromTheGround 25 = .ok (.aload_n 1, 1) := by decide +kernel
theorem dX3_fromTheGround_26 : decode cX3_fromTheGround 26 = .ok (.iload_n 3, 1) := by decide +kernel
theorem dX3_fromTheGround_27 : decode cX3_fromTheGround 27 = .ok (.invokevirtual 20, 3) := by decide +kernel
theorem dX3_fromTheGround_30 : decode cX3_fromTheGround 30 = .ok (.iload 5, 2) := by decide +kernel
theorem dX3_fromTheGround_32 : decode cX3_fromTheGround 32 = .ok (.invokevirtual 26, 3) := by decide +kernel
theorem dX3_fromTheGround_35 : decode cX3_fromTheGround 35 = .ok (.ifCond .eq 17, 3) := by decide +kernel
theorem dX3_fromTheGround_38 : decode cX3_fromTheGround 38 = .ok (.iload 4, 2) := by decide +kernel
theorem dX3_fromTheGround_40 : decode cX3_fromTheGround 40 = .ok (.aload_n 0, 1) := by decide +kernel
theorem dX3_fromTheGround_41 : decode cX3_fromTheGround 41 = .ok (.getfield 14, 3) := by decide +kernel
theorem dX3_fromTheGround_44 : decode cX3_fromTheGround 44 = .ok (.iload 5, 2) := by decide +kernel
theorem dX3_fromTheGround_46 : decode cX3_fromTheGround 46 = .ok (.invokevirtual 32, 3) := by decide +kernel
theorem dX3_fromTheGround_49 : decode cX3_fromTheGround 49 = .ok (.iadd, 1) := by decide +kernel
theorem dX3_fromTheGround_50 : decode cX3_fromTheGround 50 = .ok (.istore 4, 2) := by decide +kernel
theorem dX3_fromTheGround_52 : decode cX3_fromTheGround 52 = .ok (.iinc 5 1, 3) := by decide +kernel
theorem dX3_fromTheGround_55 : decode cX3_fromTheGround 55 = .ok (.goto (-36), 3) := by decide +kernel
theorem dX3_fromTheGround_58 : decode cX3_fromTheGround 58 = .ok (.aload_n 0, 1) := by decide +kernel
theorem dX3_fromTheGround_59 : decode cX3_fromTheGround 59 = .ok (.getfield 14, 3) := by decide +kernel
theorem dX3_fromTheGround_62 : decode cX3_fromTheGround 62 = .ok (.iload_n 3, 1) := by decide +kernel
theorem dX3_fromTheGround_63 : decode cX3_fromTheGround 63 = .ok (.aload_n 1, 1) := by decide +kernel
theorem dX3_fromTheGround_64 : decode cX3_fromTheGround 64 = .ok (.iload_n 3, 1) := by decide +kernel
theorem dX3_fromTheGround_65 : decode cX3_fromTheGround 65 = .ok (.invokevirtual 20, 3) := by decide +kernel
theorem dX3_fromTheGround_68 : decode cX3_fromTheGround 68 = .ok (.getfield 46, 3) := by decide +kernel
theorem dX3_fromTheGround_71 : decode cX3_fromTheGround 71 = .ok (.ifCond .ne 7, 3) := by decide +kernel
theorem dX3_fromTheGround_74 : decode cX3_fromTheGround 74 = .ok (.lconst 1, 1) := by decide +kernel
theorem dX3_fromTheGround_75 : decode cX3_fromTheGround 75 = .ok (.goto 6, 3) := by decide +kernel
theorem dX3_fromTheGround_78 : decode cX3_fromTheGround 78 = .ok (.iload 4, 2) := by decide +kernel
theorem dX3_fromTheGround_80 : decode cX3_fromTheGround 80 = .ok (.i2l, 1) := by decide +kernel
theorem dX3_fromTheGround_81 : decode cX3_fromTheGround 81 = .ok (.invokevirtual 42, 3) := by decide +kernel
theorem dX3_fromTheGround_84 : decode cX3_fromTheGround 84 = .ok (.iinc 3 1, 3) := by decide +kernel
theorem dX3_fromTheGround_87 : decode cX3_fromTheGround 87 = .ok (.goto (-85), 3) := by decide +kernel
theorem dX3_fromTheGround_90 : decode cX3_fromTheGround 90 = .ok (.aload_n 0, 1) := by decide +kernel
theorem dX3_fromTheGround_91 : decode cX3_fromTheGround 91 = .ok (.getfield 14, 3) := by decide +kernel
theorem dX3_fromTheGround_94 : decode cX3_fromTheGround 94 = .ok (.iload_n 2, 1) := by decide +kernel
theorem dX3_fromTheGround_95 : decode cX3_fromTheGround 95 = .ok (.invokevirtual 32, 3) := by decide +kernel
theorem dX3_fromTheGround_98 : decode cX3_fromTheGround 98 = .ok (.ireturn, 1) := by decide +kernel
set_option maxRecDepth 20000 in
theorem ggX3_gatherReading_X7_put : GoodIn wsX3_gatherReading wsX7_put := goodIn_r _ [6, 7, 25] (by decide +kernel) (by decide +kernel)
set_option maxRecDepth 20000 in
theorem gX3_gatherReading_X7_put : GoodIn wsX3_gatherReading (wsV RX3 42 RX7 yX7_put wsX7_put) := goodIn_app (goodIn_of _ (by decide +kernel)) ggX3_gatherReading_X7_put
set_option maxRecDepth 20000 in
theorem ggX3_gatherReading_X7_number : GoodIn wsX3_gatherReading wsX7_number := goodIn_r _ [11, 7, 25] (by decide +kernel) (by decide +kernel)
set_option maxRecDepth 20000 in
theorem gX3_gatherReading_X7_number : GoodIn wsX3_gatherReading (wsV RX3 32 RX7 yX7_number wsX7_number) := goodIn_app (goodIn_of _ (by decide +kernel)) ggX3_gatherReading_X7_number
set_option maxRecDepth 20000 in
theorem ggX3_gatherReading_X9_at : GoodIn wsX3_gatherReading wsX9_at := goodIn_r _ [16, 17, 18, 26, 27, 28, 29] (by decide +kernel) (by decide +kernel)
set_option maxRecDepth 20000 in
theorem gX3_gatherReading_X9_at : GoodIn wsX3_gatherReading (wsV RX3 20 RX9 yX9_at wsX9_at) := goodIn_app (goodIn_of _ (by decide +kernel)) ggX3_gatherReading_X9_at
set_option maxRecDepth 20000 in
theorem ggX3_gatherReading_X3_markSources : GoodIn wsX3_gatherReading wsX3_markSources := goodIn_r _ [23, 1, 8, 9, 10, 5, 11, 7, 2, 3, 4, 6, 30, 31, 32, 33, 34, 35, 36, 37, 24, 25] (by decide +kernel) (by decide +kernel)
set_option maxRecDepth 20000 in
theorem gX3_gatherReading_X3_markSources : GoodIn wsX3_gatherReading (wsV RX3 50 RX3 yX3_markSources wsX3_markSources) := goodIn_app (goodIn_of _ (by decide +kernel)) ggX3_gatherReading_X3_markSources
theorem dX3_gatherReading_0 : decode cX3_gatherReading 0 = .ok (.iconst 0, 1) := by decide +kernel
theorem dX3_gatherReading_1 : decode cX3_gatherReading 1 = .ok (.istore_n 3, 1) := by decide +kernel
theorem dX3_gatherReading_2 : decode cX3_gatherReading 2 = .ok (.iload_n 3, 1) := by decide +kernel
theorem dX3_gatherReading_3 : decode cX3_gatherReading 3 = .ok (.bipush 20, 2) := by decide +kernel
theorem dX3_gatherReading_5 : decode cX3_gatherReading 5 = .ok (.if_icmp .ge 27, 3) := by decide +kernel
theorem dX3_gatherReading_8 : decode cX3_gatherReading 8 = .ok (.aload_n 0, 1) := by decide +kernel
theorem dX3_gatherReading_9 : decode cX3_gatherReading 9 = .ok (.getfield 14, 3) := by decide +kernel
theorem dX3_gatherReading_12 : decode cX3_gatherReading 12 = .ok (.iload_n 3, 1) := by decide +kernel
theorem dX3_gatherReading_13 : decode cX3_gatherReading 13 = .ok (.iload_n 3, 1) := by decide +kernel
theorem dX3_gatherReading_14 : decode cX3_gatherReading 14 = .ok (.iload_n 2, 1) := by decide +kernel
theorem dX3_gatherReading_15 : decode cX3_gatherReading 15 = .ok (.if_icmp .ne 7, 3) := by decide +kernel
theorem dX3_gatherReading_18 : decode cX3_gatherReading 18 = .ok (.lconst 1, 1) := by decide +kernel
theorem dX3_gatherReading_19 : decode cX3_gatherReading 19 = .ok (.goto 4, 3) := by decide +kernel
theorem dX3_gatherReading_22 : decode cX3_gatherReading 22 = .ok (.lconst 0, 1) := by decide +kernel
theorem dX3_gatherReading_23 : decode cX3_gatherReading 23 = .ok (.invokevirtual 42, 3) := by decide +kernel
theorem dX3_gatherReading_26 : decode cX3_gatherReading 26 = .ok (.iinc 3 1, 3) := by decide +kernel
theorem dX3_gatherReading_29 : decode cX3_gatherReading 29 = .ok (.goto (-27), 3) := by decide +kernel
theorem dX3_gatherReading_32 : decode cX3_gatherReading 32 = .ok (.iconst 0, 1) := by decide +kernel
theorem dX3_gatherReading_33 : decode cX3_gatherReading 33 = .ok (.istore_n 3, 1) := by decide +kernel
theorem dX3_gatherReading_34 : decode cX3_gatherReading 34 = .ok (.iload_n 2, 1) := by decide +kernel
theorem dX3_gatherReading_35 : decode cX3_gatherReading 35 = .ok (.istore 4, 2) := by decide +kernel
theorem dX3_gatherReading_37 : decode cX3_gatherReading 37 = .ok (.iload 4, 2) := by decide +kernel
theorem dX3_gatherReading_39 : decode cX3_gatherReading 39 = .ok (.ifCond .lt 35, 3) := by decide +kernel
theorem dX3_gatherReading_42 : decode cX3_gatherReading 42 = .ok (.aload_n 0, 1) := by decide +kernel
theorem dX3_gatherReading_43 : decode cX3_gatherReading 43 = .ok (.getfield 14, 3) := by decide +kernel
theorem dX3_gatherReading_46 : decode cX3_gatherReading 46 = .ok (.iload 4, 2) := by decide +kernel
theorem dX3_gatherReading_48 : decode cX3_gatherReading 48 = .ok (.invokevirtual 32, 3) := by decide +kernel
theorem dX3_gatherReading_51 : decode cX3_gatherReading 51 = .ok (.iconst 1, 1) := by decide +kernel
theorem dX3_gatherReading_52 : decode cX3_gatherReading 52 = .ok (.if_icmp .ne 16, 3) := by decide +kernel
theorem dX3_gatherReading_55 : decode cX3_gatherReading 55 = .ok (.aload_n 0, 1) := by decide +kernel
theorem dX3_gatherReading_56 : decode cX3_gatherReading 56 = .ok (.aload_n 1, 1) := by decide +kernel
theorem dX3_gatherReading_57 : decode cX3_gatherReading 57 = .ok (.iload 4, 2) := by decide +kernel
theorem dX3_gatherReading_59 : decode cX3_gatherReading 59 = .ok (.invokevirtual 20, 3) := by decide +kernel
theorem dX3_gatherReading_62 : decode cX3_gatherReading 62 = .ok (.invokevirtual 50, 3) := by decide +kernel
theorem dX3_gatherReading_65 : decode cX3_gatherReading 65 = .ok (.iinc 3 1, 3) := by decide +kernel
theorem dX3_gatherReading_68 : decode cX3_gatherReading 68 = .ok (.iinc 4 (-1), 3) := by decide +kernel
theorem dX3_gatherReading_71 : decode cX3_gatherReading 71 = .ok (.goto (-34), 3) := by decide +kernel
theorem dX3_gatherReading_74 : decode cX3_gatherReading 74 = .ok (.iload_n 3, 1) := by decide +kernel
theorem dX3_gatherReading_75 : decode cX3_gatherReading 75 = .ok (.ireturn, 1) := by decide +kernel
set_option maxRecDepth 20000 in
theorem ggX3_markSources_X7_number : GoodIn wsX3_markSources wsX7_number := goodIn_r _ [6, 7, 21] (by decide +kernel) (by decide +kernel)
set_option maxRecDepth 20000 in
theorem gX3_markSources_X7_number : GoodIn wsX3_markSources (wsV RX3 32 RX7 yX7_number wsX7_number) := goodIn_app (goodIn_of _ (by decide +kernel)) ggX3_markSources_X7_number
set_option maxRecDepth 20000 in
theorem ggX3_markSources_X7_put : GoodIn wsX3_markSources wsX7_put := goodIn_r _ [11, 7, 21] (by decide +kernel) (by decide +kernel)
set_option maxRecDepth 20000 in
theorem gX3_markSources_X7_put : GoodIn wsX3_markSources (wsV RX3 42 RX7 yX7_put wsX7_put) := goodIn_app (goodIn_of _ (by decide +kernel)) ggX3_markSources_X7_put
theorem dX3_markSources_0 : decode cX3_markSources 0 = .ok (.iconst 0, 1) := by decide +kernel
theorem dX3_markSources_1 : decode cX3_markSources 1 = .ok (.istore_n 2, 1) := by decide +kernel
theorem dX3_markSources_2 : decode cX3_markSources 2 = .ok (.iload_n 2, 1) := by decide +kernel
theorem dX3_markSources_3 : decode cX3_markSources 3 = .ok (.aload_n 1, 1) := by decide +kernel
theorem dX3_markSources_4 : decode cX3_markSources 4 = .ok (.getfield 46, 3) := by decide +kernel
theorem dX3_markSources_7 : decode cX3_markSources 7 = .ok (.if_icmp .ge 25, 3) := by decide +kernel
theorem dX3_markSources_10 : decode cX3_markSources 10 = .ok (.aload_n 0, 1) := by decide +kernel
theorem dX3_markSources_11 : decode cX3_markSources 11 = .ok (.getfield 14, 3) := by decide +kernel
theorem dX3_markSources_14 : decode cX3_markSources 14 = .ok (.aload_n 1, 1) := by decide +kernel
theorem dX3_markSources_15 : decode cX3_markSources 15 = .ok (.getfield 54, 3) := by decide +kernel
theorem dX3_markSources_18 : decode cX3_markSources 18 = .ok (.iload_n 2, 1) := by decide +kernel
theorem dX3_markSources_19 : decode cX3_markSources 19 = .ok (.invokevirtual 32, 3) := by decide +kernel
theorem dX3_markSources_22 : decode cX3_markSources 22 = .ok (.lconst 1, 1) := by decide +kernel
theorem dX3_markSources_23 : decode cX3_markSources 23 = .ok (.invokevirtual 42, 3) := by decide +kernel
theorem dX3_markSources_26 : decode cX3_markSources 26 = .ok (.iinc 2 1, 3) := by decide +kernel
theorem dX3_markSources_29 : decode cX3_markSources 29 = .ok (.goto (-27), 3) := by decide +kernel
theorem dX3_markSources_32 : decode cX3_markSources 32 = .ok (.return_, 1) := by decide +kernel
set_option maxRecDepth 20000 in
theorem ggX3_readIn_X7_number : GoodIn wsX3_readIn wsX7_number := goodIn_r _ [6, 7, 9] (by decide +kernel) (by decide +kernel)
set_option maxRecDepth 20000 in
theorem gX3_readIn_X7_number : GoodIn wsX3_readIn (wsV RX3 32 RX7 yX7_number wsX7_number) := goodIn_app (goodIn_of _ (by decide +kernel)) ggX3_readIn_X7_number
theorem dX3_readIn_0 : decode cX3_readIn 0 = .ok (.iload_n 1, 1) := by decide +kernel
theorem dX3_readIn_1 : decode cX3_readIn 1 = .ok (.istore_n 2, 1) := by decide +kernel
theorem dX3_readIn_2 : decode cX3_readIn 2 = .ok (.iconst 0, 1) := by decide +kernel
theorem dX3_readIn_3 : decode cX3_readIn 3 = .ok (.istore_n 3, 1) := by decide +kernel
theorem dX3_readIn_4 : decode cX3_readIn 4 = .ok (.iload_n 3, 1) := by decide +kernel
theorem dX3_readIn_5 : decode cX3_readIn 5 = .ok (.bipush 20, 2) := by decide +kernel
theorem dX3_readIn_7 : decode cX3_readIn 7 = .ok (.if_icmp .ge 30, 3) := by decide +kernel
theorem dX3_readIn_10 : decode cX3_readIn 10 = .ok (.aload_n 0, 1) := by decide +kernel
theorem dX3_readIn_11 : decode cX3_readIn 11 = .ok (.getfield 14, 3) := by decide +kernel
theorem dX3_readIn_14 : decode cX3_readIn 14 = .ok (.iload_n 3, 1) := by decide +kernel
theorem dX3_readIn_15 : decode cX3_readIn 15 = .ok (.invokevirtual 32, 3) := by decide +kernel
theorem dX3_readIn_18 : decode cX3_readIn 18 = .ok (.iconst 1, 1) := by decide +kernel
theorem dX3_readIn_19 : decode cX3_readIn 19 = .ok (.if_icmp .ne 12, 3) := by decide +kernel
theorem dX3_readIn_22 : decode cX3_readIn 22 = .ok (.iload_n 2, 1) := by decide +kernel
theorem dX3_readIn_23 : decode cX3_readIn 23 = .ok (.ifCond .ne 5, 3) := by decide +kernel
theorem dX3_readIn_26 : decode cX3_readIn 26 = .ok (.iload_n 3, 1) := by decide +kernel
theorem dX3_readIn_27 : decode cX3_readIn 27 = .ok (.ireturn, 1) := by decide +kernel
theorem dX3_readIn_28 : decode cX3_readIn 28 = .ok (.iinc 2 (-1), 3) := by decide +kernel
theorem dX3_readIn_31 : decode cX3_readIn 31 = .ok (.iinc 3 1, 3) := by decide +kernel
theorem dX3_readIn_34 : decode cX3_readIn 34 = .ok (.goto (-30), 3) := by decide +kernel
theorem dX3_readIn_37 : decode cX3_readIn 37 = .ok (.iconst (-1), 1) := by decide +kernel
theorem dX3_readIn_38 : decode cX3_readIn 38 = .ok (.ireturn, 1) := by decide +kernel
set_option maxRecDepth 20000 in
theorem ggX4_init_X7_init : GoodIn wsX4_init wsX7_init := goodIn_r _ [13, 14, 2, 3, 15, 16, 17, 18, 19, 20, 21] (by decide +kernel) (by decide +kernel)
set_option maxRecDepth 20000 in
theorem gX4_init_X7_init : GoodIn wsX4_init (wsX7_init) := ggX4_init_X7_init
theorem dX4_init_0 : decode cX4_init 0 = .ok (.aload_n 0, 1) := by decide +kernel
theorem dX4_init_1 : decode cX4_init 1 = .ok (.invokespecial 3, 3) := by decide +kernel
theorem dX4_init_4 : decode cX4_init 4 = .ok (.aload_n 0, 1) := by decide +kernel
theorem dX4_init_5 : decode cX4_init 5 = .ok (.new 9, 3) := by decide +kernel
theorem dX4_init_8 : decode cX4_init 8 = .ok (.dup, 1) := by decide +kernel
theorem dX4_init_9 : decode cX4_init 9 = .ok (.bipush 60, 2) := by decide +kernel
theorem dX4_init_11 : decode cX4_init 11 = .ok (.invokespecial 11, 3) := by decide +kernel
theorem dX4_init_14 : decode cX4_init 14 = .ok (.putfield 14, 3) := by decide +kernel
theorem dX4_init_17 : decode cX4_init 17 = .ok (.aload_n 0, 1) := by decide +kernel
theorem dX4_init_18 : decode cX4_init 18 = .ok (.new 9, 3) := by decide +kernel
theorem dX4_init_21 : decode cX4_init 21 = .ok (.dup, 1) := by decide +kernel
theorem dX4_init_22 : decode cX4_init 22 = .ok (.bipush 16, 2) := by decide +kernel
theorem dX4_init_24 : decode cX4_init 24 = .ok (.invokespecial 11, 3) := by decide +kernel
theorem dX4_init_27 : decode cX4_init 27 = .ok (.putfield 20, 3) := by decide +kernel
theorem dX4_init_30 : decode cX4_init 30 = .ok (.aload_n 0, 1) := by decide +kernel
theorem dX4_init_31 : decode cX4_init 31 = .ok (.new 9, 3) := by decide +kernel
theorem dX4_init_34 : decode cX4_init 34 = .ok (.dup, 1) := by decide +kernel
theorem dX4_init_35 : decode cX4_init 35 = .ok (.bipush 16, 2) := by decide +kernel
theorem dX4_init_37 : decode cX4_init 37 = .ok (.invokespecial 11, 3) := by decide +kernel
theorem dX4_init_40 : decode cX4_init 40 = .ok (.putfield 23, 3) := by decide +kernel
theorem dX4_init_43 : decode cX4_init 43 = .ok (.aload_n 0, 1) := by decide +kernel
theorem dX4_init_44 : decode cX4_init 44 = .ok (.new 9, 3) := by decide +kernel
theorem dX4_init_47 : decode cX4_init 47 = .ok (.dup, 1) := by decide +kernel
theorem dX4_init_48 : decode cX4_init 48 = .ok (.bipush 16, 2) := by decide +kernel
theorem dX4_init_50 : decode cX4_init 50 = .ok (.invokespecial 11, 3) := by decide +kernel
theorem dX4_init_53 : decode cX4_init 53 = .ok (.putfield 26, 3) := by decide +kernel
theorem dX4_init_56 : decode cX4_init 56 = .ok (.return_, 1) := by decide +kernel
set_option maxRecDepth 20000 in
theorem ggX4_copy_X7_copy : GoodIn wsX4_copy wsX7_copy := goodIn_r _ [13, 14, 15, 16, 17, 18, 27] (by decide +kernel) (by decide +kernel)
set_option maxRecDepth 20000 in
theorem gX4_copy_X7_copy : GoodIn wsX4_copy (wsV RX4 42 RX7 yX7_copy wsX7_copy) := goodIn_app (goodIn_of _ (by decide +kernel)) ggX4_copy_X7_copy
theorem dX4_copy_0 : decode cX4_copy 0 = .ok (.aload_n 0, 1) := by decide +kernel
theorem dX4_copy_1 : decode cX4_copy 1 = .ok (.aload_n 1, 1) := by decide +kernel
theorem dX4_copy_2 : decode cX4_copy 2 = .ok (.getfield 29, 3) := by decide +kernel
theorem dX4_copy_5 : decode cX4_copy 5 = .ok (.putfield 29, 3) := by decide +kernel
theorem dX4_copy_8 : decode cX4_copy 8 = .ok (.aload_n 0, 1) := by decide +kernel
theorem dX4_copy_9 : decode cX4_copy 9 = .ok (.aload_n 1, 1) := by decide +kernel
theorem dX4_copy_10 : decode cX4_copy 10 = .ok (.getfield 33, 3) := by decide +kernel
theorem dX4_copy_13 : decode cX4_copy 13 = .ok (.putfield 33, 3) := by decide +kernel
theorem dX4_copy_16 : decode cX4_copy 16 = .ok (.aload_n 0, 1) := by decide +kernel
theorem dX4_copy_17 : decode cX4_copy 17 = .ok (.aload_n 1, 1) := by decide +kernel
theorem dX4_copy_18 : decode cX4_copy 18 = .ok (.getfield 36, 3) := by decide +kernel
theorem dX4_copy_21 : decode cX4_copy 21 = .ok (.putfield 36, 3) := by decide +kernel
theorem dX4_copy_24 : decode cX4_copy 24 = .ok (.aload_n 0, 1) := by decide +kernel
theorem dX4_copy_25 : decode cX4_copy 25 = .ok (.aload_n 1, 1) := by decide +kernel
theorem dX4_copy_26 : decode cX4_copy 26 = .ok (.getfield 39, 3) := by decide +kernel
theorem dX4_copy_29 : decode cX4_copy 29 = .ok (.putfield 39, 3) := by decide +kernel
theorem dX4_copy_32 : decode cX4_copy 32 = .ok (.aload_n 0, 1) := by decide +kernel
theorem dX4_copy_33 : decode cX4_copy 33 = .ok (.getfield 14, 3) := by decide +kernel
theorem dX4_copy_36 : decode cX4_copy 36 = .ok (.aload_n 1, 1) := by decide +kernel
theorem dX4_copy_37 : decode cX4_copy 37 = .ok (.getfield 14, 3) := by decide +kernel
theorem dX4_copy_40 : decode cX4_copy 40 = .ok (.aload_n 0, 1) := by decide +kernel
theorem dX4_copy_41 : decode cX4_copy 41 = .ok (.getfield 36, 3) := by decide +kernel
theorem dX4_copy_44 : decode cX4_copy 44 = .ok (.invokevirtual 42, 3) := by decide +kernel
theorem dX4_copy_47 : decode cX4_copy 47 = .ok (.aload_n 0, 1) := by decide +kernel
theorem dX4_copy_48 : decode cX4_copy 48 = .ok (.getfield 20, 3) := by decide +kernel
theorem dX4_copy_51 : decode cX4_copy 51 = .ok (.aload_n 1, 1) := by decide +kernel
theorem dX4_copy_52 : decode cX4_copy 52 = .ok (.getfield 20, 3) := by decide +kernel
theorem dX4_copy_55 : decode cX4_copy 55 = .ok (.aload_n 0, 1) := by decide +kernel
theorem dX4_copy_56 : decode cX4_copy 56 = .ok (.getfield 39, 3) := by decide +kernel
theorem dX4_copy_59 : decode cX4_copy 59 = .ok (.invokevirtual 42, 3) := by decide +kernel
theorem dX4_copy_62 : decode cX4_copy 62 = .ok (.aload_n 0, 1) := by decide +kernel
theorem dX4_copy_63 : decode cX4_copy 63 = .ok (.getfield 23, 3) := by decide +kernel
theorem dX4_copy_66 : decode cX4_copy 66 = .ok (.aload_n 1, 1) := by decide +kernel
theorem dX4_copy_67 : decode cX4_copy 67 = .ok (.getfield 23, 3) := by decide +kernel
theorem dX4_copy_70 : decode cX4_copy 70 = .ok (.aload_n 0, 1) := by decide +kernel
theorem dX4_copy_71 : decode cX4_copy 71 = .ok (.getfield 39, 3) := by decide +kernel
theorem dX4_copy_74 : decode cX4_copy 74 = .ok (.invokevirtual 42, 3) := by decide +kernel
theorem dX4_copy_77 : decode cX4_copy 77 = .ok (.aload_n 0, 1) := by decide +kernel
theorem dX4_copy_78 : decode cX4_copy 78 = .ok (.getfield 26, 3) := by decide +kernel
theorem dX4_copy_81 : decode cX4_copy 81 = .ok (.aload_n 1, 1) := by decide +kernel
theorem dX4_copy_82 : decode cX4_copy 82 = .ok (.getfield 26, 3) := by decide +kernel
theorem dX4_copy_85 : decode cX4_copy 85 = .ok (.aload_n 0, 1) := by decide +kernel
theorem dX4_copy_86 : decode cX4_copy 86 = .ok (.getfield 39, 3) := by decide +kernel
theorem dX4_copy_89 : decode cX4_copy 89 = .ok (.invokevirtual 42, 3) := by decide +kernel
theorem dX4_copy_92 : decode cX4_copy 92 = .ok (.return_, 1) := by decide +kernel
theorem dX4_empty_0 : decode cX4_empty 0 = .ok (.aload_n 0, 1) := by decide +kernel
theorem dX4_empty_1 : decode cX4_empty 1 = .ok (.iconst 0, 1) := by decide +kernel
theorem dX4_empty_2 : decode cX4_empty 2 = .ok (.putfield 36, 3) := by decide +kernel
theorem dX4_empty_5 : decode cX4_empty 5 = .ok (.aload_n 0, 1) := by decide +kernel
theorem dX4_empty_6 : decode cX4_empty 6 = .ok (.iconst 0, 1) := by decide +kernel
theorem dX4_empty_7 : decode cX4_empty 7 = .ok (.putfield 39, 3) := by decide +kernel
theorem dX4_empty_10 : decode cX4_empty 10 = .ok (.return_, 1) := by decide +kernel
set_option maxRecDepth 20000 in
theorem ggX4_addWord_X7_put : GoodIn wsX4_addWord wsX7_put := goodIn_r _ [7, 8, 17] (by decide +kernel) (by decide +kernel)
set_option maxRecDepth 20000 in
theorem gX4_addWord_X7_put : GoodIn wsX4_addWord (wsV RX4 46 RX7 yX7_put wsX7_put) := goodIn_app (goodIn_of _ (by decide +kernel)) ggX4_addWord_X7_put
theorem dX4_addWord_0 : decode cX4_addWord 0 = .ok (.aload_n 0, 1) := by decide +kernel
theorem dX4_addWord_1 : decode cX4_addWord 1 = .ok (.getfield 14, 3) := by decide +kernel
theorem dX4_addWord_4 : decode cX4_addWord 4 = .ok (.aload_n 0, 1) := by decide +kernel
theorem dX4_addWord_5 : decode cX4_addWord 5 = .ok (.getfield 36, 3) := by decide +kernel
theorem dX4_addWord_8 : decode cX4_addWord 8 = .ok (.lload_n 1, 1) := by decide +kernel
theorem dX4_addWord_9 : decode cX4_addWord 9 = .ok (.invokevirtual 46, 3) := by decide +kernel
theorem dX4_addWord_12 : decode cX4_addWord 12 = .ok (.aload_n 0, 1) := by decide +kernel
theorem dX4_addWord_13 : decode cX4_addWord 13 = .ok (.dup, 1) := by decide +kernel
theorem dX4_addWord_14 : decode cX4_addWord 14 = .ok (.getfield 36, 3) := by decide +kernel
theorem dX4_addWord_17 : decode cX4_addWord 17 = .ok (.iconst 1, 1) := by decide +kernel
theorem dX4_addWord_18 : decode cX4_addWord 18 = .ok (.iadd, 1) := by decide +kernel
theorem dX4_addWord_19 : decode cX4_addWord 19 = .ok (.putfield 36, 3) := by decide +kernel
theorem dX4_addWord_22 : decode cX4_addWord 22 = .ok (.return_, 1) := by decide +kernel
set_option maxRecDepth 20000 in
theorem ggX4_addQuotation_X7_put : GoodIn wsX4_addQuotation wsX7_put := goodIn_r _ [10, 11, 20] (by decide +kernel) (by decide +kernel)
set_option maxRecDepth 20000 in
theorem gX4_addQuotation_X7_put : GoodIn wsX4_addQuotation (wsV RX4 46 RX7 yX7_put wsX7_put) := goodIn_app (goodIn_of _ (by decide +kernel)) ggX4_addQuotation_X7_put
theorem dX4_addQuotation_0 : decode cX4_addQuotation 0 = .ok (.aload_n 0, 1) := by decide +kernel
theorem dX4_addQuotation_1 : decode cX4_addQuotation 1 = .ok (.getfield 20, 3) := by decide +kernel
theorem dX4_addQuotation_4 : decode cX4_addQuotation 4 = .ok (.aload_n 0, 1) := by decide +kernel
theorem dX4_addQuotation_5 : decode cX4_addQuotation 5 = .ok (.getfield 39, 3) := by decide +kernel
theorem dX4_addQuotation_8 : decode cX4_addQuotation 8 = .ok (.iload_n 1, 1) := by decide +kernel
theorem dX4_addQuotation_9 : decode cX4_addQuotation 9 = .ok (.i2l, 1) := by decide +kernel
theorem dX4_addQuotation_10 : decode cX4_addQuotation 10 = .ok (.invokevirtual 46, 3) := by decide +kernel
theorem dX4_addQuotation_13 : decode cX4_addQuotation 13 = .ok (.aload_n 0, 1) := by decide +kernel
theorem dX4_addQuotation_14 : decode cX4_addQuotation 14 = .ok (.getfield 23, 3) := by decide +kernel
theorem dX4_addQuotation_17 : decode cX4_addQuotation 17 = .ok (.aload_n 0, 1) := by decide +kernel
theorem dX4_addQuotation_18 : decode cX4_addQuotation 18 = .ok (.getfield 39, 3) := by decide +kernel
theorem dX4_addQuotation_21 : decode cX4_addQuotation 21 = .ok (.iload_n 2, 1) := by decide +kernel
theorem dX4_addQuotation_22 : decode cX4_addQuotation 22 = .ok (.i2l, 1) := by decide +kernel
theorem dX4_addQuotation_23 : decode cX4_addQuotation 23 = .ok (.invokevirtual 46, 3) := by decide +kernel
theorem dX4_addQuotation_26 : decode cX4_addQuotation 26 = .ok (.aload_n 0, 1) := by decide +kernel
theorem dX4_addQuotation_27 : decode cX4_addQuotation 27 = .ok (.getfield 26, 3) := by decide +kernel
theorem dX4_addQuotation_30 : decode cX4_addQuotation 30 = .ok (.aload_n 0, 1) := by decide +kernel
theorem dX4_addQuotation_31 : decode cX4_addQuotation 31 = .ok (.getfield 39, 3) := by decide +kernel
theorem dX4_addQuotation_34 : decode cX4_addQuotation 34 = .ok (.aload_n 0, 1) := by decide +kernel
theorem dX4_addQuotation_35 : decode cX4_addQuotation 35 = .ok (.getfield 36, 3) := by decide +kernel
theorem dX4_addQuotation_38 : decode cX4_addQuotation 38 = .ok (.iload_n 2, 1) := by decide +kernel
theorem dX4_addQuotation_39 : decode cX4_addQuotation 39 = .ok (.isub, 1) := by decide +kernel
theorem dX4_addQuotation_40 : decode cX4_addQuotation 40 = .ok (.i2l, 1) := by decide +kernel
theorem dX4_addQuotation_41 : decode cX4_addQuotation 41 = .ok (.invokevirtual 46, 3) := by decide +kernel
theorem dX4_addQuotation_44 : decode cX4_addQuotation 44 = .ok (.aload_n 0, 1) := by decide +kernel
theorem dX4_addQuotation_45 : decode cX4_addQuotation 45 = .ok (.dup, 1) := by decide +kernel
theorem dX4_addQuotation_46 : decode cX4_addQuotation 46 = .ok (.getfield 39, 3) := by decide +kernel
theorem dX4_addQuotation_49 : decode cX4_addQuotation 49 = .ok (.iconst 1, 1) := by decide +kernel
theorem dX4_addQuotation_50 : decode cX4_addQuotation 50 = .ok (.iadd, 1) := by decide +kernel
theorem dX4_addQuotation_51 : decode cX4_addQuotation 51 = .ok (.putfield 39, 3) := by decide +kernel
theorem dX4_addQuotation_54 : decode cX4_addQuotation 54 = .ok (.return_, 1) := by decide +kernel
theorem dX4_pageCount_0 : decode cX4_pageCount 0 = .ok (.aload_n 0, 1) := by decide +kernel
theorem dX4_pageCount_1 : decode cX4_pageCount 1 = .ok (.getfield 36, 3) := by decide +kernel
theorem dX4_pageCount_4 : decode cX4_pageCount 4 = .ok (.bipush 8, 2) := by decide +kernel
theorem dX4_pageCount_6 : decode cX4_pageCount 6 = .ok (.iadd, 1) := by decide +kernel
theorem dX4_pageCount_7 : decode cX4_pageCount 7 = .ok (.iconst 1, 1) := by decide +kernel
theorem dX4_pageCount_8 : decode cX4_pageCount 8 = .ok (.isub, 1) := by decide +kernel
theorem dX4_pageCount_9 : decode cX4_pageCount 9 = .ok (.bipush 8, 2) := by decide +kernel
theorem dX4_pageCount_11 : decode cX4_pageCount 11 = .ok (.idiv, 1) := by decide +kernel
theorem dX4_pageCount_12 : decode cX4_pageCount 12 = .ok (.ireturn, 1) := by decide +kernel
set_option maxRecDepth 20000 in
theorem ggX4_quotes_X7_number : GoodIn wsX4_quotes wsX7_number := goodIn_r _ [7, 8, 17] (by decide +kernel) (by decide +kernel)
set_option maxRecDepth 20000 in
theorem gX4_quotes_X7_number : GoodIn wsX4_quotes (wsV RX4 50 RX7 yX7_number wsX7_number) := goodIn_app (goodIn_of _ (by decide +kernel)) ggX4_quotes_X7_number
theorem dX4_quotes_0 : decode cX4_quotes 0 = .ok (.iconst 0, 1) := by decide +kernel
theorem dX4_quotes_1 : decode cX4_quotes 1 = .ok (.istore_n 2, 1) := by decide +kernel
theorem dX4_quotes_2 : decode cX4_quotes 2 = .ok (.iload_n 2, 1) := by decide +kernel
theorem dX4_quotes_3 : decode cX4_quotes 3 = .ok (.aload_n 0, 1) := by decide +kernel
theorem dX4_quotes_4 : decode cX4_quotes 4 = .ok (.getfield 39, 3) := by decide +kernel
theorem dX4_quotes_7 : decode cX4_quotes 7 = .ok (.if_icmp .ge 23, 3) := by decide +kernel
theorem dX4_quotes_10 : decode cX4_quotes 10 = .ok (.aload_n 0, 1) := by decide +kernel
theorem dX4_quotes_11 : decode cX4_quotes 11 = .ok (.getfield 20, 3) := by decide +kernel
theorem dX4_quotes_14 : decode cX4_quotes 14 = .ok (.iload_n 2, 1) := by decide +kernel
theorem dX4_quotes_15 : decode cX4_quotes 15 = .ok (.invokevirtual 50, 3) := by decide +kernel
theorem dX4_quotes_18 : decode cX4_quotes 18 = .ok (.iload_n 1, 1) := by decide +kernel
theorem dX4_quotes_19 : decode cX4_quotes 19 = .ok (.if_icmp .ne 5, 3) := by decide +kernel
theorem dX4_quotes_22 : decode cX4_quotes 22 = .ok (.iconst 1, 1) := by decide +kernel
theorem dX4_quotes_23 : decode cX4_quotes 23 = .ok (.ireturn, 1) := by decide +kernel
theorem dX4_quotes_24 : decode cX4_quotes 24 = .ok (.iinc 2 1, 3) := by decide +kernel
theorem dX4_quotes_27 : decode cX4_quotes 27 = .ok (.goto (-25), 3) := by decide +kernel
theorem dX4_quotes_30 : decode cX4_quotes 30 = .ok (.iconst 0, 1) := by decide +kernel
theorem dX4_quotes_31 : decode cX4_quotes 31 = .ok (.ireturn, 1) := by decide +kernel
set_option maxRecDepth 20000 in
theorem ggX4_isWithin_X7_number : GoodIn wsX4_isWithin wsX7_number := goodIn_r _ [7, 8, 17] (by decide +kernel) (by decide +kernel)
set_option maxRecDepth 20000 in
theorem gX4_isWithin_X7_number : GoodIn wsX4_isWithin (wsV RX4 50 RX7 yX7_number wsX7_number) := goodIn_app (goodIn_of _ (by decide +kernel)) ggX4_isWithin_X7_number
theorem dX4_isWithin_0 : decode cX4_isWithin 0 = .ok (.aload_n 0, 1) := by decide +kernel
theorem dX4_isWithin_1 : decode cX4_isWithin 1 = .ok (.getfield 23, 3) := by decide +kernel
theorem dX4_isWithin_4 : decode cX4_isWithin 4 = .ok (.iload_n 1, 1) := by decide +kernel
theorem dX4_isWithin_5 : decode cX4_isWithin 5 = .ok (.invokevirtual 50, 3) := by decide +kernel
theorem dX4_isWithin_8 : decode cX4_isWithin 8 = .ok (.istore 4, 2) := by decide +kernel
theorem dX4_isWithin_10 : decode cX4_isWithin 10 = .ok (.iload_n 2, 1) := by decide +kernel
theorem dX4_isWithin_11 : decode cX4_isWithin 11 = .ok (.iload 4, 2) := by decide +kernel
theorem dX4_isWithin_13 : decode cX4_isWithin 13 = .ok (.if_icmp .lt 24, 3) := by decide +kernel
theorem dX4_isWithin_16 : decode cX4_isWithin 16 = .ok (.iload_n 2, 1) := by decide +kernel
theorem dX4_isWithin_17 : decode cX4_isWithin 17 = .ok (.iload_n 3, 1) := by decide +kernel
theorem dX4_isWithin_18 : decode cX4_isWithin 18 = .ok (.iadd, 1) := by decide +kernel
theorem dX4_isWithin_19 : decode cX4_isWithin 19 = .ok (.iload 4, 2) := by decide +kernel
theorem dX4_isWithin_21 : decode cX4_isWithin 21 = .ok (.aload_n 0, 1) := by decide +kernel
theorem dX4_isWithin_22 : decode cX4_isWithin 22 = .ok (.getfield 26, 3) := by decide +kernel
theorem dX4_isWithin_25 : decode cX4_isWithin 25 = .ok (.iload_n 1, 1) := by decide +kernel
theorem dX4_isWithin_26 : decode cX4_isWithin 26 = .ok (.invokevirtual 50, 3) := by decide +kernel
theorem dX4_isWithin_29 : decode cX4_isWithin 29 = .ok (.iadd, 1) := by decide +kernel
theorem dX4_isWithin_30 : decode cX4_isWithin 30 = .ok (.if_icmp .gt 7, 3) := by decide +kernel
theorem dX4_isWithin_33 : decode cX4_isWithin 33 = .ok (.iconst 1, 1) := by decide +kernel
theorem dX4_isWithin_34 : decode cX4_isWithin 34 = .ok (.goto 4, 3) := by decide +kernel
theorem dX4_isWithin_37 : decode cX4_isWithin 37 = .ok (.iconst 0, 1) := by decide +kernel
theorem dX4_isWithin_38 : decode cX4_isWithin 38 = .ok (.ireturn, 1) := by decide +kernel
set_option maxRecDepth 20000 in
theorem ggX4_quotationAround_X4_isWithin : GoodIn wsX4_quotationAround wsX4_isWithin := goodIn_r _ [6, 7, 8, 9, 10, 11, 12, 13, 14, 15, 16, 17, 18, 19, 20, 21, 22, 23] (by decide +kernel) (by decide +kernel)
set_option maxRecDepth 20000 in
theorem gX4_quotationAround_X4_isWithin : GoodIn wsX4_quotationAround (wsV RX4 54 RX4 yX4_isWithin wsX4_isWithin) := goodIn_app (goodIn_of _ (by decide +kernel)) ggX4_quotationAround_X4_isWithin
theorem dX4_quotationAround_0 : decode cX4_quotationAround 0 = .ok (.iconst 0, 1) := by decide +kernel
theorem dX4_quotationAround_1 : decode cX4_quotationAround 1 = .ok (.istore_n 3, 1) := by decide +kernel
theorem dX4_quotationAround_2 : decode cX4_quotationAround 2 = .ok (.iload_n 3, 1) := by decide +kernel
theorem dX4_quotationAround_3 : decode cX4_quotationAround 3 = .ok (.aload_n 0, 1) := by decide +kernel
theorem dX4_quotationAround_4 : decode cX4_quotationAround 4 = .ok (.getfield 39, 3) := by decide +kernel
theorem dX4_quotationAround_7 : decode cX4_quotationAround 7 = .ok (.if_icmp .ge 21, 3) := by decide +kernel
theorem dX4_quotationAround_10 : decode cX4_quotationAround 10 = .ok (.aload_n 0, 1) := by decide +kernel
theorem dX4_quotationAround_11 : decode cX4_quotationAround 11 = .ok (.iload_n 3, 1) := by decide +kernel
theorem dX4_quotationAround_12 : decode cX4_quotationAround 12 = .ok (.iload_n 1, 1) := by decide +kernel
theorem dX4_quotationAround_13 : decode cX4_quotationAround 13 = .ok (.iload_n 2, 1) := by decide +kernel
theorem dX4_quotationAround_14 : decode cX4_quotationAround 14 = .ok (.invokevirtual 54, 3) := by decide +kernel
theorem dX4_quotationAround_17 : decode cX4_quotationAround 17 = .ok (.ifCond .eq 5, 3) := by decide +kernel
theorem dX4_quotationAround_20 : decode cX4_quotationAround 20 = .ok (.iload_n 3, 1) := by decide +kernel
theorem dX4_quotationAround_21 : decode cX4_quotationAround 21 = .ok (.ireturn, 1) := by decide +kernel
theorem dX4_quotationAround_22 : decode cX4_quotationAround 22 = .ok (.iinc 3 1, 3) := by decide +kernel
theorem dX4_quotationAround_25 : decode cX4_quotationAround 25 = .ok (.goto (-23), 3) := by decide +kernel
theorem dX4_quotationAround_28 : decode cX4_quotationAround 28 = .ok (.iconst (-1), 1) := by decide +kernel
theorem dX4_quotationAround_29 : decode cX4_quotationAround 29 = .ok (.ireturn, 1) := by decide +kernel
set_option maxRecDepth 20000 in
theorem ggX4_growth_X7_number : GoodIn wsX4_growth wsX7_number := goodIn_r _ [6, 7, 16] (by decide +kernel) (by decide +kernel)
set_option maxRecDepth 20000 in
theorem gX4_growth_X7_number : GoodIn wsX4_growth (wsV RX4 50 RX7 yX7_number wsX7_number) := goodIn_app (goodIn_of _ (by decide +kernel)) ggX4_growth_X7_number
theorem dX4_growth_0 : decode cX4_growth 0 = .ok (.iload_n 2, 1) := by decide +kernel
theorem dX4_growth_1 : decode cX4_growth 1 = .ok (.aload_n 0, 1) := by decide +kernel
theorem dX4_growth_2 : decode cX4_growth 2 = .ok (.getfield 26, 3) := by decide +kernel
theorem dX4_growth_5 : decode cX4_growth 5 = .ok (.iload_n 1, 1) := by decide +kernel
theorem dX4_growth_6 : decode cX4_growth 6 = .ok (.invokevirtual 50, 3) := by decide +kernel
theorem dX4_growth_9 : decode cX4_growth 9 = .ok (.isub, 1) := by decide +kernel
theorem dX4_growth_10 : decode cX4_growth 10 = .ok (.ireturn, 1) := by decide +kernel
set_option maxRecDepth 20000 in
theorem ggX4_replace_X7_number : GoodIn wsX4_replace wsX7_number := goodIn_r _ [10, 11, 41] (by decide +kernel) (by decide +kernel)
set_option maxRecDepth 20000 in
theorem gX4_replace_X7_number : GoodIn wsX4_replace (wsV RX4 50 RX7 yX7_number wsX7_number) := goodIn_app (goodIn_of _ (by decide +kernel)) ggX4_replace_X7_number
set_option maxRecDepth 20000 in
theorem ggX4_replace_X4_growth : GoodIn wsX4_replace wsX4_growth := goodIn_r _ [16, 2, 6, 7, 8, 9, 10, 11, 33, 34, 35, 36, 37, 38, 39, 40, 41] (by decide +kernel) (by decide +kernel)
set_option maxRecDepth 20000 in
theorem gX4_replace_X4_growth : GoodIn wsX4_replace (wsV RX4 58 RX4 yX4_growth wsX4_growth) := goodIn_app (goodIn_of _ (by decide +kernel)) ggX4_replace_X4_growth
set_option maxRecDepth 20000 in
theorem ggX4_replace_X7_move : GoodIn wsX4_replace wsX7_move := goodIn_r _ [20, 11, 21, 22, 23, 24, 41] (by decide +kernel) (by decide +kernel)
set_option maxRecDepth 20000 in
theorem gX4_replace_X7_move : GoodIn wsX4_replace (wsV RX4 62 RX7 yX7_move wsX7_move) := goodIn_app (goodIn_of _ (by decide +kernel)) ggX4_replace_X7_move
set_option maxRecDepth 20000 in
theorem ggX4_replace_X7_at : GoodIn wsX4_replace wsX7_at := goodIn_r _ [28, 11, 41] (by decide +kernel) (by decide +kernel)
set_option maxRecDepth 20000 in
theorem gX4_replace_X7_at : GoodIn wsX4_replace (wsV RX4 66 RX7 yX7_at wsX7_at) := goodIn_app (goodIn_of _ (by decide +kernel)) ggX4_replace_X7_at
set_option maxRecDepth 20000 in
theorem ggX4_replace_X7_put : GoodIn wsX4_replace wsX7_put := goodIn_r _ [32, 11, 41] (by decide +kernel) (by decide +kernel)
set_option maxRecDepth 20000 in
theorem gX4_replace_X7_put : GoodIn wsX4_replace (wsV RX4 46 RX7 yX7_put wsX7_put) := goodIn_app (goodIn_of _ (by decide +kernel)) ggX4_replace_X7_put
theorem dX4_replace_0 : decode cX4_replace 0 = .ok (.aload_n 0, 1) := by decide +kernel
theorem dX4_replace_1 : decode cX4_replace 1 = .ok (.getfield 23, 3) := by decide +kernel
theorem dX4_replace_4 : decode cX4_replace 4 = .ok (.iload_n 1, 1) := by decide +kernel
theorem dX4_replace_5 : decode cX4_replace 5 = .ok (.invokevirtual 50, 3) := by decide +kernel
theorem dX4_replace_8 : decode cX4_replace 8 = .ok (.istore 5, 2) := by decide +kernel
theorem dX4_replace_10 : decode cX4_replace 10 = .ok (.iload 5, 2) := by decide +kernel
theorem dX4_replace_12 : decode cX4_replace 12 = .ok (.aload_n 0, 1) := by decide +kernel
theorem dX4_replace_13 : decode cX4_replace 13 = .ok (.getfield 26, 3) := by decide +kernel
theorem dX4_replace_16 : decode cX4_replace 16 = .ok (.iload_n 1, 1) := by decide +kernel
theorem dX4_replace_17 : decode cX4_replace 17 = .ok (.invokevirtual 50, 3) := by decide +kernel
theorem dX4_replace_20 : decode cX4_replace 20 = .ok (.iadd, 1) := by decide +kernel
theorem dX4_replace_21 : decode cX4_replace 21 = .ok (.istore 6, 2) := by decide +kernel
theorem dX4_replace_23 : decode cX4_replace 23 = .ok (.aload_n 0, 1) := by decide +kernel
theorem dX4_replace_24 : decode cX4_replace 24 = .ok (.iload_n 1, 1) := by decide +kernel
theorem dX4_replace_25 : decode cX4_replace 25 = .ok (.iload 4, 2) := by decide +kernel
theorem dX4_replace_27 : decode cX4_replace 27 = .ok (.invokevirtual 58, 3) := by decide +kernel
theorem dX4_replace_30 : decode cX4_replace 30 = .ok (.istore 7, 2) := by decide +kernel
theorem dX4_replace_32 : decode cX4_replace 32 = .ok (.aload_n 0, 1) := by decide +kernel
theorem dX4_replace_33 : decode cX4_replace 33 = .ok (.getfield 14, 3) := by decide +kernel
theorem dX4_replace_36 : decode cX4_replace 36 = .ok (.iload 6, 2) := by decide +kernel
theorem dX4_replace_38 : decode cX4_replace 38 = .ok (.iload 6, 2) := by decide +kernel
theorem dX4_replace_40 : decode cX4_replace 40 = .ok (.iload 7, 2) := by decide +kernel
theorem dX4_replace_42 : decode cX4_replace 42 = .ok (.iadd, 1) := by decide +kernel
theorem dX4_replace_43 : decode cX4_replace 43 = .ok (.aload_n 0, 1) := by decide +kernel
theorem dX4_replace_44 : decode cX4_replace 44 = .ok (.getfield 36, 3) := by decide +kernel
theorem dX4_replace_47 : decode cX4_replace 47 = .ok (.iload 6, 2) := by decide +kernel
theorem dX4_replace_49 : decode cX4_replace 49 = .ok (.isub, 1) := by decide +kernel
theorem dX4_replace_50 : decode cX4_replace 50 = .ok (.invokevirtual 62, 3) := by decide +kernel
theorem dX4_replace_53 : decode cX4_replace 53 = .ok (.iconst 0, 1) := by decide +kernel
theorem dX4_replace_54 : decode cX4_replace 54 = .ok (.istore 8, 2) := by decide +kernel
theorem dX4_replace_56 : decode cX4_replace 56 = .ok (.iload 8, 2) := by decide +kernel
theorem dX4_replace_58 : decode cX4_replace 58 = .ok (.iload 4, 2) := by decide +kernel
theorem dX4_replace_60 : decode cX4_replace 60 = .ok (.if_icmp .ge 32, 3) := by decide +kernel
theorem dX4_replace_63 : decode cX4_replace 63 = .ok (.aload_n 0, 1) := by decide +kernel
theorem dX4_replace_64 : decode cX4_replace 64 = .ok (.getfield 14, 3) := by decide +kernel
theorem dX4_replace_67 : decode cX4_replace 67 = .ok (.iload 5, 2) := by decide +kernel
theorem dX4_replace_69 : decode cX4_replace 69 = .ok (.iload 8, 2) := by decide +kernel
theorem dX4_replace_71 : decode cX4_replace 71 = .ok (.iadd, 1) := by decide +kernel
theorem dX4_replace_72 : decode cX4_replace 72 = .ok (.aload_n 2, 1) := by decide +kernel
theorem dX4_replace_73 : decode cX4_replace 73 = .ok (.getfield 14, 3) := by decide +kernel
theorem dX4_replace_76 : decode cX4_replace 76 = .ok (.iload_n 3, 1) := by decide +kernel
theorem dX4_replace_77 : decode cX4_replace 77 = .ok (.iload 8, 2) := by decide +kernel
theorem dX4_replace_79 : decode cX4_replace 79 = .ok (.iadd, 1) := by decide +kernel
theorem dX4_replace_80 : decode cX4_replace 80 = .ok (.invokevirtual 66, 3) := by decide +kernel
theorem dX4_replace_83 : decode cX4_replace 83 = .ok (.invokevirtual 46, 3) := by decide +kernel
theorem dX4_replace_86 : decode cX4_replace 86 = .ok (.iinc 8 1, 3) := by decide +kernel
theorem dX4_replace_89 : decode cX4_replace 89 = .ok (.goto (-33), 3) := by decide +kernel
theorem dX4_replace_92 : decode cX4_replace 92 = .ok (.aload_n 0, 1) := by decide +kernel
theorem dX4_replace_93 : decode cX4_replace 93 = .ok (.dup, 1) := by decide +kernel
theorem dX4_replace_94 : decode cX4_replace 94 = .ok (.getfield 36, 3) := by decide +kernel
theorem dX4_replace_97 : decode cX4_replace 97 = .ok (.iload 7, 2) := by decide +kernel
theorem dX4_replace_99 : decode cX4_replace 99 = .ok (.iadd, 1) := by decide +kernel
theorem dX4_replace_100 : decode cX4_replace 100 = .ok (.putfield 36, 3) := by decide +kernel
theorem dX4_replace_103 : decode cX4_replace 103 = .ok (.aload_n 0, 1) := by decide +kernel
theorem dX4_replace_104 : decode cX4_replace 104 = .ok (.getfield 26, 3) := by decide +kernel
theorem dX4_replace_107 : decode cX4_replace 107 = .ok (.iload_n 1, 1) := by decide +kernel
theorem dX4_replace_108 : decode cX4_replace 108 = .ok (.iload 4, 2) := by decide +kernel
theorem dX4_replace_110 : decode cX4_replace 110 = .ok (.i2l, 1) := by decide +kernel
theorem dX4_replace_111 : decode cX4_replace 111 = .ok (.invokevirtual 46, 3) := by decide +kernel
theorem dX4_replace_114 : decode cX4_replace 114 = .ok (.iload_n 1, 1) := by decide +kernel
theorem dX4_replace_115 : decode cX4_replace 115 = .ok (.iconst 1, 1) := by decide +kernel
theorem dX4_replace_116 : decode cX4_replace 116 = .ok (.iadd, 1) := by decide +kernel
theorem dX4_replace_117 : decode cX4_replace 117 = .ok (.istore 8, 2) := by decide +kernel
theorem dX4_replace_119 : decode cX4_replace 119 = .ok (.iload 8, 2) := by decide +kernel
theorem dX4_replace_121 : decode cX4_replace 121 = .ok (.aload_n 0, 1) := by decide +kernel
theorem dX4_replace_122 : decode cX4_replace 122 = .ok (.getfield 39, 3) := by decide +kernel
theorem dX4_replace_125 : decode cX4_replace 125 = .ok (.if_icmp .ge 31, 3) := by decide +kernel
theorem dX4_replace_128 : decode cX4_replace 128 = .ok (.aload_n 0, 1) := by decide +kernel
theorem dX4_replace_129 : decode cX4_replace 129 = .ok (.getfield 23, 3) := by decide +kernel
theorem dX4_replace_132 : decode cX4_replace 132 = .ok (.iload 8, 2) := by decide +kernel
theorem dX4_replace_134 : decode cX4_replace 134 = .ok (.aload_n 0, 1) := by decide +kernel
theorem dX4_replace_135 : decode cX4_replace 135 = .ok (.getfield 23, 3) := by decide +kernel
theorem dX4_replace_138 : decode cX4_replace 138 = .ok (.iload 8, 2) := by decide +kernel
theorem dX4_replace_140 : decode cX4_replace 140 = .ok (.invokevirtual 50, 3) := by decide +kernel
theorem dX4_replace_143 : decode cX4_replace 143 = .ok (.iload 7, 2) := by decide +kernel
theorem dX4_replace_145 : decode cX4_replace 145 = .ok (.iadd, 1) := by decide +kernel
theorem dX4_replace_146 : decode cX4_replace 146 = .ok (.i2l, 1) := by decide +kernel
theorem dX4_replace_147 : decode cX4_replace 147 = .ok (.invokevirtual 46, 3) := by decide +kernel
theorem dX4_replace_150 : decode cX4_replace 150 = .ok (.iinc 8 1, 3) := by decide +kernel
theorem dX4_replace_153 : decode cX4_replace 153 = .ok (.goto (-34), 3) := by decide +kernel
theorem dX4_replace_156 : decode cX4_replace 156 = .ok (.return_, 1) := by decide +kernel
set_option maxRecDepth 20000 in
theorem ggX5_init_X8_init : GoodIn wsX5_init wsX8_init := goodIn_r _ [9, 10, 2, 3, 11, 12, 13, 14, 15, 16, 17, 18, 19, 20, 21, 22, 23, 24, 32, 25, 26, 27, 28] (by decide +kernel) (by decide +kernel)
set_option maxRecDepth 20000 in
theorem gX5_init_X8_init_n11 : GoodIn wsX5_init (wsX8_init) := ggX5_init_X8_init
theorem dX5_init_0 : decode cX5_init 0 = .ok (.aload_n 0, 1) := by decide +kernel
theorem dX5_init_1 : decode cX5_init 1 = .ok (.invokespecial 3, 3) := by decide +kernel
theorem dX5_init_4 : decode cX5_init 4 = .ok (.aload_n 0, 1) := by decide +kernel
theorem dX5_init_5 : decode cX5_init 5 = .ok (.new 9, 3) := by decide +kernel
theorem dX5_init_8 : decode cX5_init 8 = .ok (.dup, 1) := by decide +kernel
theorem dX5_init_9 : decode cX5_init 9 = .ok (.invokespecial 11, 3) := by decide +kernel
theorem dX5_init_12 : decode cX5_init 12 = .ok (.putfield 12, 3) := by decide +kernel
theorem dX5_init_15 : decode cX5_init 15 = .ok (.return_, 1) := by decide +kernel
set_option maxRecDepth 20000 in
theorem ggX5_find_X9_at : GoodIn wsX5_find wsX9_at := goodIn_r _ [6, 7, 8, 60, 61, 62, 63] (by decide +kernel) (by decide +kernel)
set_option maxRecDepth 20000 in
theorem gX5_find_X9_at : GoodIn wsX5_find (wsV RX5 18 RX9 yX9_at wsX9_at) := goodIn_app (goodIn_of _ (by decide +kernel)) ggX5_find_X9_at
set_option maxRecDepth 20000 in
theorem ggX5_find_X7_number : GoodIn wsX5_find wsX7_number := goodIn_r _ [13, 14, 64] (by decide +kernel) (by decide +kernel)
set_option maxRecDepth 20000 in
theorem gX5_find_X7_number : GoodIn wsX5_find (wsV RX5 30 RX7 yX7_number wsX7_number) := goodIn_app (goodIn_of _ (by decide +kernel)) ggX5_find_X7_number
set_option maxRecDepth 20000 in
theorem ggX5_find_X8_byTable : GoodIn wsX5_find wsX8_byTable := goodIn_r _ [19, 20, 21, 10, 11, 12, 13, 14, 22, 23, 24, 25, 26, 27, 28, 29, 30, 31, 32, 18, 33, 34, 35, 36, 37, 38, 39, 40, 41, 42, 43, 44, 48, 49, 50, 51, 52, 53, 54, 55, 56, 57, 58, 59, 64] (by decide +kernel) (by decide +kernel)
set_option maxRecDepth 20000 in
theorem gX5_find_X8_byTable : GoodIn wsX5_find (wsV RX5 36 RX8 yX8_byTable wsX8_byTable) := goodIn_app (goodIn_of _ (by decide +kernel)) ggX5_find_X8_byTable
theorem dX5_find_0 : decode cX5_find 0 = .ok (.aload_n 1, 1) := by decide +kernel
theorem dX5_find_1 : decode cX5_find 1 = .ok (.iload_n 2, 1) := by decide +kernel
theorem dX5_find_2 : decode cX5_find 2 = .ok (.invokevirtual 18, 3) := by decide +kernel
theorem dX5_find_5 : decode cX5_find 5 = .ok (.astore 4, 2) := by decide +kernel
theorem dX5_find_7 : decode cX5_find 7 = .ok (.aload_n 0, 1) := by decide +kernel
theorem dX5_find_8 : decode cX5_find 8 = .ok (.getfield 12, 3) := by decide +kernel
theorem dX5_find_11 : decode cX5_find 11 = .ok (.aload 4, 2) := by decide +kernel
theorem dX5_find_13 : decode cX5_find 13 = .ok (.iload_n 3, 1) := by decide +kernel
theorem dX5_find_14 : decode cX5_find 14 = .ok (.aload_n 1, 1) := by decide +kernel
theorem dX5_find_15 : decode cX5_find 15 = .ok (.aload 4, 2) := by decide +kernel
theorem dX5_find_17 : decode cX5_find 17 = .ok (.getfield 24, 3) := by decide +kernel
theorem dX5_find_20 : decode cX5_find 20 = .ok (.iload_n 3, 1) := by decide +kernel
theorem dX5_find_21 : decode cX5_find 21 = .ok (.invokevirtual 30, 3) := by decide +kernel
theorem dX5_find_24 : decode cX5_find 24 = .ok (.invokevirtual 18, 3) := by decide +kernel
theorem dX5_find_27 : decode cX5_find 27 = .ok (.invokevirtual 36, 3) := by decide +kernel
theorem dX5_find_30 : decode cX5_find 30 = .ok (.aload_n 0, 1) := by decide +kernel
theorem dX5_find_31 : decode cX5_find 31 = .ok (.getfield 12, 3) := by decide +kernel
theorem dX5_find_34 : decode cX5_find 34 = .ok (.getfield 40, 3) := by decide +kernel
theorem dX5_find_37 : decode cX5_find 37 = .ok (.ireturn, 1) := by decide +kernel
set_option maxRecDepth 20000 in
theorem ggX5_findByPassages_X9_at : GoodIn wsX5_findByPassages wsX9_at := goodIn_r _ [6, 7, 8, 53, 54, 55, 56] (by decide +kernel) (by decide +kernel)
set_option maxRecDepth 20000 in
theorem gX5_findByPassages_X9_at : GoodIn wsX5_findByPassages (wsV RX5 18 RX9 yX9_at wsX9_at) := goodIn_app (goodIn_of _ (by decide +kernel)) ggX5_findByPassages_X9_at
set_option maxRecDepth 20000 in
theorem ggX5_findByPassages_X7_number : GoodIn wsX5_findByPassages wsX7_number := goodIn_r _ [13, 14, 57] (by decide +kernel) (by decide +kernel)
set_option maxRecDepth 20000 in
theorem gX5_findByPassages_X7_number : GoodIn wsX5_findByPassages (wsV RX5 30 RX7 yX7_number wsX7_number) := goodIn_app (goodIn_of _ (by decide +kernel)) ggX5_findByPassages_X7_number
set_option maxRecDepth 20000 in
theorem ggX5_findByPassages_X8_byPassages : GoodIn wsX5_findByPassages wsX8_byPassages := goodIn_r _ [19, 20, 21, 22, 23, 24, 10, 11, 12, 13, 14, 25, 26, 27, 18, 28, 29, 30, 31, 32, 33, 34, 35, 36, 37, 38, 39, 40, 41, 42, 43, 44, 45, 46, 47, 48, 49, 57, 58, 59, 60, 61] (by decide +kernel) (by decide +kernel)
set_option maxRecDepth 20000 in
theorem gX5_findByPassages_X8_byPassages : GoodIn wsX5_findByPassages (wsV RX5 44 RX8 yX8_byPassages wsX8_byPassages) := goodIn_app (goodIn_of _ (by decide +kernel)) ggX5_findByPassages_X8_byPassages
theorem dX5_findByPassages_0 : decode cX5_findByPassages 0 = .ok (.aload_n 1, 1) := by decide +kernel
theorem dX5_findByPassages_1 : decode cX5_findByPassages 1 = .ok (.iload_n 2, 1) := by decide +kernel
theorem dX5_findByPassages_2 : decode cX5_findByPassages 2 = .ok (.invokevirtual 18, 3) := by decide +kernel
theorem dX5_findByPassages_5 : decode cX5_findByPassages 5 = .ok (.astore 4, 2) := by decide +kernel
theorem dX5_findByPassages_7 : decode cX5_findByPassages 7 = .ok (.aload_n 1, 1) := by decide +kernel
theorem dX5_findByPassages_8 : decode cX5_findByPassages 8 = .ok (.aload 4, 2) := by decide +kernel
theorem dX5_findByPassages_10 : decode cX5_findByPassages 10 = .ok (.getfield 24, 3) := by decide +kernel
theorem dX5_findByPassages_13 : decode cX5_findByPassages 13 = .ok (.iload_n 3, 1) := by decide +kernel
theorem dX5_findByPassages_14 : decode cX5_findByPassages 14 = .ok (.invokevirtual 30, 3) := by decide +kernel
theorem dX5_findByPassages_17 : decode cX5_findByPassages 17 = .ok (.invokevirtual 18, 3) := by decide +kernel
theorem dX5_findByPassages_20 : decode cX5_findByPassages 20 = .ok (.astore 5, 2) := by decide +kernel
theorem dX5_findByPassages_22 : decode cX5_findByPassages 22 = .ok (.aload_n 0, 1) := by decide +kernel
theorem dX5_findByPassages_23 : decode cX5_findByPassages 23 = .ok (.getfield 12, 3) := by decide +kernel
theorem dX5_findByPassages_26 : decode cX5_findByPassages 26 = .ok (.aload 4, 2) := by decide +kernel
theorem dX5_findByPassages_28 : decode cX5_findByPassages 28 = .ok (.iload_n 3, 1) := by decide +kernel
theorem dX5_findByPassages_29 : decode cX5_findByPassages 29 = .ok (.aload 5, 2) := by decide +kernel
theorem dX5_findByPassages_31 : decode cX5_findByPassages 31 = .ok (.invokevirtual 44, 3) := by decide +kernel
theorem dX5_findByPassages_34 : decode cX5_findByPassages 34 = .ok (.ireturn, 1) := by decide +kernel
set_option maxRecDepth 20000 in
theorem ggX5_findAtOrigin_X9_at : GoodIn wsX5_findAtOrigin wsX9_at := goodIn_r _ [7, 8, 9, 52, 53, 54, 55] (by decide +kernel) (by decide +kernel)
set_option maxRecDepth 20000 in
theorem gX5_findAtOrigin_X9_at : GoodIn wsX5_findAtOrigin (wsV RX5 18 RX9 yX9_at wsX9_at) := goodIn_app (goodIn_of _ (by decide +kernel)) ggX5_findAtOrigin_X9_at
set_option maxRecDepth 20000 in
theorem ggX5_findAtOrigin_X8_byTable : GoodIn wsX5_findAtOrigin wsX8_byTable := goodIn_r _ [14, 15, 16, 17, 18, 19, 20, 21, 22, 23, 24, 25, 26, 27, 28, 29, 30, 31, 32, 13, 33, 34, 35, 36, 37, 38, 39, 40, 41, 42, 43, 44, 56, 57, 58, 59, 60, 61, 62, 63, 48, 49, 50, 51, 64] (by decide +kernel) (by decide +kernel)
set_option maxRecDepth 20000 in
theorem gX5_findAtOrigin_X8_byTable : GoodIn wsX5_findAtOrigin (wsV RX5 36 RX8 yX8_byTable wsX8_byTable) := goodIn_app (goodIn_of _ (by decide +kernel)) ggX5_findAtOrigin_X8_byTable
theorem dX5_findAtOrigin_0 : decode cX5_findAtOrigin 0 = .ok (.aload_n 0, 1) := by decide +kernel
theorem dX5_findAtOrigin_1 : decode cX5_findAtOrigin 1 = .ok (.getfield 12, 3) := by decide +kernel
theorem dX5_findAtOrigin_4 : decode cX5_findAtOrigin 4 = .ok (.aload_n 1, 1) := by decide +kernel
theorem dX5_findAtOrigin_5 : decode cX5_findAtOrigin 5 = .ok (.iload_n 2, 1) := by decide +kernel
theorem dX5_findAtOrigin_6 : decode cX5_findAtOrigin 6 = .ok (.invokevirtual 18, 3) := by decide +kernel
theorem dX5_findAtOrigin_9 : decode cX5_findAtOrigin 9 = .ok (.iload_n 3, 1) := by decide +kernel
theorem dX5_findAtOrigin_10 : decode cX5_findAtOrigin 10 = .ok (.aload_n 1, 1) := by decide +kernel
theorem dX5_findAtOrigin_11 : decode cX5_findAtOrigin 11 = .ok (.aload_n 0, 1) := by decide +kernel
theorem dX5_findAtOrigin_12 : decode cX5_findAtOrigin 12 = .ok (.getfield 48, 3) := by decide +kernel
theorem dX5_findAtOrigin_15 : decode cX5_findAtOrigin 15 = .ok (.invokevirtual 18, 3) := by decide +kernel
theorem dX5_findAtOrigin_18 : decode cX5_findAtOrigin 18 = .ok (.invokevirtual 36, 3) := by decide +kernel
theorem dX5_findAtOrigin_21 : decode cX5_findAtOrigin 21 = .ok (.aload_n 0, 1) := by decide +kernel
theorem dX5_findAtOrigin_22 : decode cX5_findAtOrigin 22 = .ok (.getfield 12, 3) := by decide +kernel
theorem dX5_findAtOrigin_25 : decode cX5_findAtOrigin 25 = .ok (.getfield 40, 3) := by decide +kernel
theorem dX5_findAtOrigin_28 : decode cX5_findAtOrigin 28 = .ok (.ireturn, 1) := by decide +kernel
set_option maxRecDepth 20000 in
theorem ggX5_parent_X5_find : GoodIn wsX5_parent wsX5_find := goodIn_r _ [6, 1, 7, 8, 9, 10, 11, 12, 13, 14, 15, 16, 17, 18, 19, 20, 21, 22, 23, 24, 25, 26, 27, 28, 29, 30, 31, 32, 33, 34, 35, 36, 37, 38, 39, 40, 41, 42, 43, 44, 45, 46, 47, 48, 49, 71, 72, 73, 63, 64, 65, 66, 67, 68, 69, 70, 74, 75, 76, 77, 78, 79, 80, 81, 82] (by decide +kernel) (by decide +kernel)
set_option maxRecDepth 20000 in
theorem gX5_parent_X5_find : GoodIn wsX5_parent (wsV RX5 51 RX5 yX5_find wsX5_find) := goodIn_app (goodIn_of _ (by decide +kernel)) ggX5_parent_X5_find
set_option maxRecDepth 20000 in
theorem ggX5_parent_X9_at : GoodIn wsX5_parent wsX9_at := goodIn_r _ [11, 12, 13, 78, 79, 80, 81] (by decide +kernel) (by decide +kernel)
set_option maxRecDepth 20000 in
theorem gX5_parent_X9_at : GoodIn wsX5_parent (wsV RX5 18 RX9 yX9_at wsX9_at) := goodIn_app (goodIn_of _ (by decide +kernel)) ggX5_parent_X9_at
set_option maxRecDepth 20000 in
theorem ggX5_parent_X7_number : GoodIn wsX5_parent wsX7_number := goodIn_r _ [18, 19, 82] (by decide +kernel) (by decide +kernel)
set_option maxRecDepth 20000 in
theorem gX5_parent_X7_number : GoodIn wsX5_parent (wsV RX5 30 RX7 yX7_number wsX7_number) := goodIn_app (goodIn_of _ (by decide +kernel)) ggX5_parent_X7_number
set_option maxRecDepth 20000 in
theorem ggX5_parent_X4_quotationAround : GoodIn wsX5_parent wsX4_quotationAround := goodIn_r _ [54, 55, 56, 57, 58, 53, 59, 60, 61, 62, 15, 16, 17, 18, 19, 63, 64, 65, 66, 67, 68, 69, 70, 82] (by decide +kernel) (by decide +kernel)
set_option maxRecDepth 20000 in
theorem gX5_parent_X4_quotationAround : GoodIn wsX5_parent (wsV RX5 61 RX4 yX4_quotationAround wsX4_quotationAround) := goodIn_app (goodIn_of _ (by decide +kernel)) ggX5_parent_X4_quotationAround
theorem dX5_parent_0 : decode cX5_parent 0 = .ok (.aload_n 0, 1) := by decide +kernel
theorem dX5_parent_1 : decode cX5_parent 1 = .ok (.aload_n 1, 1) := by decide +kernel
theorem dX5_parent_2 : decode cX5_parent 2 = .ok (.iload_n 2, 1) := by decide +kernel
theorem dX5_parent_3 : decode cX5_parent 3 = .ok (.iload_n 3, 1) := by decide +kernel
theorem dX5_parent_4 : decode cX5_parent 4 = .ok (.invokevirtual 51, 3) := by decide +kernel
theorem dX5_parent_7 : decode cX5_parent 7 = .ok (.pop, 1) := by decide +kernel
theorem dX5_parent_8 : decode cX5_parent 8 = .ok (.aload_n 1, 1) := by decide +kernel
theorem dX5_parent_9 : decode cX5_parent 9 = .ok (.aload_n 1, 1) := by decide +kernel
theorem dX5_parent_10 : decode cX5_parent 10 = .ok (.iload_n 2, 1) := by decide +kernel
theorem dX5_parent_11 : decode cX5_parent 11 = .ok (.invokevirtual 18, 3) := by decide +kernel
theorem dX5_parent_14 : decode cX5_parent 14 = .ok (.getfield 24, 3) := by decide +kernel
theorem dX5_parent_17 : decode cX5_parent 17 = .ok (.iload_n 3, 1) := by decide +kernel
theorem dX5_parent_18 : decode cX5_parent 18 = .ok (.invokevirtual 30, 3) := by decide +kernel
theorem dX5_parent_21 : decode cX5_parent 21 = .ok (.invokevirtual 18, 3) := by decide +kernel
theorem dX5_parent_24 : decode cX5_parent 24 = .ok (.astore 4, 2) := by decide +kernel
theorem dX5_parent_26 : decode cX5_parent 26 = .ok (.aload 4, 2) := by decide +kernel
theorem dX5_parent_28 : decode cX5_parent 28 = .ok (.aload_n 0, 1) := by decide +kernel
theorem dX5_parent_29 : decode cX5_parent 29 = .ok (.getfield 12, 3) := by decide +kernel
theorem dX5_parent_32 : decode cX5_parent 32 = .ok (.getfield 55, 3) := by decide +kernel
theorem dX5_parent_35 : decode cX5_parent 35 = .ok (.aload_n 0, 1) := by decide +kernel
theorem dX5_parent_36 : decode cX5_parent 36 = .ok (.getfield 12, 3) := by decide +kernel
theorem dX5_parent_39 : decode cX5_parent 39 = .ok (.getfield 58, 3) := by decide +kernel
theorem dX5_parent_42 : decode cX5_parent 42 = .ok (.invokevirtual 61, 3) := by decide +kernel
theorem dX5_parent_45 : decode cX5_parent 45 = .ok (.ireturn, 1) := by decide +kernel
set_option maxRecDepth 20000 in
theorem ggX5_trace_X9_at : GoodIn wsX5_trace wsX9_at := goodIn_r _ [7, 8, 9, 80, 81, 82, 83] (by decide +kernel) (by decide +kernel)
set_option maxRecDepth 20000 in
theorem gX5_trace_X9_at : GoodIn wsX5_trace (wsV RX5 18 RX9 yX9_at wsX9_at) := goodIn_app (goodIn_of _ (by decide +kernel)) ggX5_trace_X9_at
set_option maxRecDepth 20000 in
theorem ggX5_trace_X7_number : GoodIn wsX5_trace wsX7_number := goodIn_r _ [14, 15, 84] (by decide +kernel) (by decide +kernel)
set_option maxRecDepth 20000 in
theorem gX5_trace_X7_number : GoodIn wsX5_trace (wsV RX5 30 RX7 yX7_number wsX7_number) := goodIn_app (goodIn_of _ (by decide +kernel)) ggX5_trace_X7_number
set_option maxRecDepth 20000 in
theorem ggX5_trace_X5_parent : GoodIn wsX5_trace wsX5_parent := goodIn_r _ [20, 21, 22, 23, 24, 19, 25, 3, 4, 5, 6, 7, 8, 9, 10, 11, 12, 13, 14, 15, 26, 27, 28, 29, 30, 31, 32, 33, 34, 35, 36, 37, 38, 39, 40, 41, 42, 43, 44, 45, 46, 47, 48, 49, 50, 51, 52, 53, 54, 55, 56, 57, 58, 59, 60, 61, 62, 63, 64, 65, 66, 67, 68, 72, 73, 74, 75, 76, 77, 78, 79, 69, 70, 71, 85, 86, 87, 88, 80, 81, 82, 83, 84] (by decide +kernel) (by decide +kernel)
set_option maxRecDepth 20000 in
theorem gX5_trace_X5_parent : GoodIn wsX5_trace (wsV RX5 68 RX5 yX5_parent wsX5_parent) := goodIn_app (goodIn_of _ (by decide +kernel)) ggX5_trace_X5_parent
theorem dX5_trace_0 : decode cX5_trace 0 = .ok (.iload_n 2, 1) := by decide +kernel
theorem dX5_trace_1 : decode cX5_trace 1 = .ok (.istore 4, 2) := by decide +kernel
theorem dX5_trace_3 : decode cX5_trace 3 = .ok (.iload_n 3, 1) := by decide +kernel
theorem dX5_trace_4 : decode cX5_trace 4 = .ok (.istore 5, 2) := by decide +kernel
theorem dX5_trace_6 : decode cX5_trace 6 = .ok (.aload_n 0, 1) := by decide +kernel
theorem dX5_trace_7 : decode cX5_trace 7 = .ok (.iconst 0, 1) := by decide +kernel
theorem dX5_trace_8 : decode cX5_trace 8 = .ok (.putfield 65, 3) := by decide +kernel
theorem dX5_trace_11 : decode cX5_trace 11 = .ok (.iload 5, 2) := by decide +kernel
theorem dX5_trace_13 : decode cX5_trace 13 = .ok (.iconst (-1), 1) := by decide +kernel
theorem dX5_trace_14 : decode cX5_trace 14 = .ok (.if_icmp .eq 60, 3) := by decide +kernel
theorem dX5_trace_17 : decode cX5_trace 17 = .ok (.aload_n 0, 1) := by decide +kernel
theorem dX5_trace_18 : decode cX5_trace 18 = .ok (.getfield 65, 3) := by decide +kernel
theorem dX5_trace_21 : decode cX5_trace 21 = .ok (.bipush 20, 2) := by decide +kernel
theorem dX5_trace_23 : decode cX5_trace 23 = .ok (.if_icmp .ge 51, 3) := by decide +kernel
theorem dX5_trace_26 : decode cX5_trace 26 = .ok (.aload_n 0, 1) := by decide +kernel
theorem dX5_trace_27 : decode cX5_trace 27 = .ok (.aload_n 1, 1) := by decide +kernel
theorem dX5_trace_28 : decode cX5_trace 28 = .ok (.iload 4, 2) := by decide +kernel
theorem dX5_trace_30 : decode cX5_trace 30 = .ok (.invokevirtual 18, 3) := by decide +kernel
theorem dX5_trace_33 : decode cX5_trace 33 = .ok (.getfield 24, 3) := by decide +kernel
theorem dX5_trace_36 : decode cX5_trace 36 = .ok (.iload 5, 2) := by decide +kernel
theorem dX5_trace_38 : decode cX5_trace 38 = .ok (.invokevirtual 30, 3) := by decide +kernel
theorem dX5_trace_41 : decode cX5_trace 41 = .ok (.putfield 48, 3) := by decide +kernel
theorem dX5_trace_44 : decode cX5_trace 44 = .ok (.aload_n 0, 1) := by decide +kernel
theorem dX5_trace_45 : decode cX5_trace 45 = .ok (.aload_n 1, 1) := by decide +kernel
theorem dX5_trace_46 : decode cX5_trace 46 = .ok (.iload 4, 2) := by decide +kernel
theorem dX5_trace_48 : decode cX5_trace 48 = .ok (.iload 5, 2) := by decide +kernel
theorem dX5_trace_50 : decode cX5_trace 50 = .ok (.invokevirtual 68, 3) := by decide +kernel
theorem dX5_trace_53 : decode cX5_trace 53 = .ok (.istore 5, 2) := by decide +kernel
theorem dX5_trace_55 : decode cX5_trace 55 = .ok (.aload_n 0, 1) := by decide +kernel
theorem dX5_trace_56 : decode cX5_trace 56 = .ok (.getfield 48, 3) := by decide +kernel
theorem dX5_trace_59 : decode cX5_trace 59 = .ok (.istore 4, 2) := by decide +kernel
theorem dX5_trace_61 : decode cX5_trace 61 = .ok (.aload_n 0, 1) := by decide +kernel
theorem dX5_trace_62 : decode cX5_trace 62 = .ok (.dup, 1) := by decide +kernel
theorem dX5_trace_63 : decode cX5_trace 63 = .ok (.getfield 65, 3) := by decide +kernel
theorem dX5_trace_66 : decode cX5_trace 66 = .ok (.iconst 1, 1) := by decide +kernel
theorem dX5_trace_67 : decode cX5_trace 67 = .ok (.iadd, 1) := by decide +kernel
theorem dX5_trace_68 : decode cX5_trace 68 = .ok (.putfield 65, 3) := by decide +kernel
theorem dX5_trace_71 : decode cX5_trace 71 = .ok (.goto (-60), 3) := by decide +kernel
theorem dX5_trace_74 : decode cX5_trace 74 = .ok (.return_, 1) := by decide +kernel
set_option maxRecDepth 20000 in
theorem ggX5_children_X9_at : GoodIn wsX5_children wsX9_at := goodIn_r _ [6, 7, 8, 58, 59, 60, 61] (by decide +kernel) (by decide +kernel)
set_option maxRecDepth 20000 in
theorem gX5_children_X9_at : GoodIn wsX5_children (wsV RX5 18 RX9 yX9_at wsX9_at) := goodIn_app (goodIn_of _ (by decide +kernel)) ggX5_children_X9_at
set_option maxRecDepth 20000 in
theorem ggX5_children_X7_number : GoodIn wsX5_children wsX7_number := goodIn_r _ [13, 14, 77] (by decide +kernel) (by decide +kernel)
set_option maxRecDepth 20000 in
theorem gX5_children_X7_number : GoodIn wsX5_children (wsV RX5 30 RX7 yX7_number wsX7_number) := goodIn_app (goodIn_of _ (by decide +kernel)) ggX5_children_X7_number
set_option maxRecDepth 20000 in
theorem ggX5_children_X5_find : GoodIn wsX5_children wsX5_find := goodIn_r _ [19, 1, 2, 3, 4, 5, 6, 7, 8, 9, 10, 11, 12, 13, 14, 20, 21, 22, 23, 24, 25, 26, 27, 28, 29, 30, 31, 32, 33, 34, 35, 36, 37, 38, 39, 40, 41, 42, 43, 44, 45, 46, 47, 48, 49, 70, 71, 72, 62, 63, 64, 65, 66, 67, 68, 69, 73, 74, 75, 76, 58, 59, 60, 61, 77] (by decide +kernel) (by decide +kernel)
set_option maxRecDepth 20000 in
theorem gX5_children_X5_find : GoodIn wsX5_children (wsV RX5 51 RX5 yX5_find wsX5_find) := goodIn_app (goodIn_of _ (by decide +kernel)) ggX5_children_X5_find
set_option maxRecDepth 20000 in
theorem ggX5_children_X4_isWithin : GoodIn wsX5_children wsX4_isWithin := goodIn_r _ [54, 55, 56, 57, 10, 11, 12, 13, 14, 62, 63, 64, 65, 66, 67, 68, 69, 77] (by decide +kernel) (by decide +kernel)
set_option maxRecDepth 20000 in
theorem gX5_children_X4_isWithin : GoodIn wsX5_children (wsV RX5 77 RX4 yX4_isWithin wsX4_isWithin) := goodIn_app (goodIn_of _ (by decide +kernel)) ggX5_children_X4_isWithin
theorem dX5_children_0 : decode cX5_children 0 = .ok (.aload_n 1, 1) := by decide +kernel
theorem dX5_children_1 : decode cX5_children 1 = .ok (.iload_n 2, 1) := by decide +kernel
theorem dX5_children_2 : decode cX5_children 2 = .ok (.invokevirtual 18, 3) := by decide +kernel
theorem dX5_children_5 : decode cX5_children 5 = .ok (.astore 4, 2) := by decide +kernel
theorem dX5_children_7 : decode cX5_children 7 = .ok (.iconst 0, 1) := by decide +kernel
theorem dX5_children_8 : decode cX5_children 8 = .ok (.istore 5, 2) := by decide +kernel
theorem dX5_children_10 : decode cX5_children 10 = .ok (.iload_n 2, 1) := by decide +kernel
theorem dX5_children_11 : decode cX5_children 11 = .ok (.iconst 1, 1) := by decide +kernel
theorem dX5_children_12 : decode cX5_children 12 = .ok (.iadd, 1) := by decide +kernel
theorem dX5_children_13 : decode cX5_children 13 = .ok (.istore 6, 2) := by decide +kernel
theorem dX5_children_15 : decode cX5_children 15 = .ok (.iload 6, 2) := by decide +kernel
theorem dX5_children_17 : decode cX5_children 17 = .ok (.aload_n 1, 1) := by decide +kernel
theorem dX5_children_18 : decode cX5_children 18 = .ok (.getfield 71, 3) := by decide +kernel
theorem dX5_children_21 : decode cX5_children 21 = .ok (.if_icmp .ge 93, 3) := by decide +kernel
theorem dX5_children_24 : decode cX5_children 24 = .ok (.aload_n 1, 1) := by decide +kernel
theorem dX5_children_25 : decode cX5_children 25 = .ok (.iload 6, 2) := by decide +kernel
theorem dX5_children_27 : decode cX5_children 27 = .ok (.invokevirtual 18, 3) := by decide +kernel
theorem dX5_children_30 : decode cX5_children 30 = .ok (.astore 7, 2) := by decide +kernel
theorem dX5_children_32 : decode cX5_children 32 = .ok (.iconst 0, 1) := by decide +kernel
theorem dX5_children_33 : decode cX5_children 33 = .ok (.istore 8, 2) := by decide +kernel
theorem dX5_children_35 : decode cX5_children 35 = .ok (.iload 8, 2) := by decide +kernel
theorem dX5_children_37 : decode cX5_children 37 = .ok (.aload 7, 2) := by decide +kernel
theorem dX5_children_39 : decode cX5_children 39 = .ok (.getfield 74, 3) := by decide +kernel
theorem dX5_children_42 : decode cX5_children 42 = .ok (.if_icmp .ge 66, 3) := by decide +kernel
theorem dX5_children_45 : decode cX5_children 45 = .ok (.aload 7, 2) := by decide +kernel
theorem dX5_children_47 : decode cX5_children 47 = .ok (.getfield 24, 3) := by decide +kernel
theorem dX5_children_50 : decode cX5_children 50 = .ok (.iload 8, 2) := by decide +kernel
theorem dX5_children_52 : decode cX5_children 52 = .ok (.invokevirtual 30, 3) := by decide +kernel
theorem dX5_children_55 : decode cX5_children 55 = .ok (.iload_n 2, 1) := by decide +kernel
theorem dX5_children_56 : decode cX5_children 56 = .ok (.if_icmp .ne 46, 3) := by decide +kernel
theorem dX5_children_59 : decode cX5_children 59 = .ok (.aload_n 0, 1) := by decide +kernel
theorem dX5_children_60 : decode cX5_children 60 = .ok (.aload_n 1, 1) := by decide +kernel
theorem dX5_children_61 : decode cX5_children 61 = .ok (.iload 6, 2) := by decide +kernel
theorem dX5_children_63 : decode cX5_children 63 = .ok (.iload 8, 2) := by decide +kernel
theorem dX5_children_65 : decode cX5_children 65 = .ok (.invokevirtual 51, 3) := by decide +kernel
theorem dX5_children_68 : decode cX5_children 68 = .ok (.pop, 1) := by decide +kernel
theorem dX5_children_69 : decode cX5_children 69 = .ok (.iload 5, 2) := by decide +kernel
theorem dX5_children_71 : decode cX5_children 71 = .ok (.aload 4, 2) := by decide +kernel
theorem dX5_children_73 : decode cX5_children 73 = .ok (.iload_n 3, 1) := by decide +kernel
theorem dX5_children_74 : decode cX5_children 74 = .ok (.aload_n 0, 1) := by decide +kernel
theorem dX5_children_75 : decode cX5_children 75 = .ok (.getfield 12, 3) := by decide +kernel
theorem dX5_children_78 : decode cX5_children 78 = .ok (.getfield 55, 3) := by decide +kernel
theorem dX5_children_81 : decode cX5_children 81 = .ok (.aload_n 0, 1) := by decide +kernel
theorem dX5_children_82 : decode cX5_children 82 = .ok (.getfield 12, 3) := by decide +kernel
theorem dX5_children_85 : decode cX5_children 85 = .ok (.getfield 58, 3) := by decide +kernel
theorem dX5_children_88 : decode cX5_children 88 = .ok (.invokevirtual 77, 3) := by decide +kernel
theorem dX5_children_91 : decode cX5_children 91 = .ok (.ifCond .eq 7, 3) := by decide +kernel
theorem dX5_children_94 : decode cX5_children 94 = .ok (.iconst 1, 1) := by decide +kernel
theorem dX5_children_95 : decode cX5_children 95 = .ok (.goto 4, 3) := by decide +kernel
theorem dX5_children_98 : decode cX5_children 98 = .ok (.iconst 0, 1) := by decide +kernel
theorem dX5_children_99 : decode cX5_children 99 = .ok (.iadd, 1) := by decide +kernel
theorem dX5_children_100 : decode cX5_children 100 = .ok (.istore 5, 2) := by decide +kernel
theorem dX5_children_102 : decode cX5_children 102 = .ok (.iinc 8 1, 3) := by decide +kernel
theorem dX5_children_105 : decode cX5_children 105 = .ok (.goto (-70), 3) := by decide +kernel
theorem dX5_children_108 : decode cX5_children 108 = .ok (.iinc 6 1, 3) := by decide +kernel
theorem dX5_children_111 : decode cX5_children 111 = .ok (.goto (-96), 3) := by decide +kernel
theorem dX5_children_114 : decode cX5_children 114 = .ok (.iload 5, 2) := by decide +kernel
theorem dX5_children_116 : decode cX5_children 116 = .ok (.ireturn, 1) := by decide +kernel
set_option maxRecDepth 20000 in
theorem ggX5_isRoomFor_X9_at : GoodIn wsX5_isRoomFor wsX9_at := goodIn_r _ [6, 7, 8, 36, 37, 38, 39] (by decide +kernel) (by decide +kernel)
set_option maxRecDepth 20000 in
theorem gX5_isRoomFor_X9_at : GoodIn wsX5_isRoomFor (wsV RX5 18 RX9 yX9_at wsX9_at) := goodIn_app (goodIn_of _ (by decide +kernel)) ggX5_isRoomFor_X9_at
set_option maxRecDepth 20000 in
theorem ggX5_isRoomFor_X4_growth : GoodIn wsX5_isRoomFor wsX4_growth := goodIn_r _ [13, 14, 15, 16, 17, 18, 19, 20, 21, 22, 23, 24, 25, 26, 27, 28, 40] (by decide +kernel) (by decide +kernel)
set_option maxRecDepth 20000 in
theorem gX5_isRoomFor_X4_growth : GoodIn wsX5_isRoomFor (wsV RX5 84 RX4 yX4_growth wsX4_growth) := goodIn_app (goodIn_of _ (by decide +kernel)) ggX5_isRoomFor_X4_growth
theorem dX5_isRoomFor_0 : decode cX5_isRoomFor 0 = .ok (.aload_n 1, 1) := by decide +kernel
theorem dX5_isRoomFor_1 : decode cX5_isRoomFor 1 = .ok (.iload_n 2, 1) := by decide +kernel
theorem dX5_isRoomFor_2 : decode cX5_isRoomFor 2 = .ok (.invokevirtual 18, 3) := by decide +kernel
theorem dX5_isRoomFor_5 : decode cX5_isRoomFor 5 = .ok (.astore 4, 2) := by decide +kernel
theorem dX5_isRoomFor_7 : decode cX5_isRoomFor 7 = .ok (.aload 4, 2) := by decide +kernel
theorem dX5_isRoomFor_9 : decode cX5_isRoomFor 9 = .ok (.getfield 81, 3) := by decide +kernel
theorem dX5_isRoomFor_12 : decode cX5_isRoomFor 12 = .ok (.aload 4, 2) := by decide +kernel
theorem dX5_isRoomFor_14 : decode cX5_isRoomFor 14 = .ok (.iload_n 3, 1) := by decide +kernel
theorem dX5_isRoomFor_15 : decode cX5_isRoomFor 15 = .ok (.aload_n 0, 1) := by decide +kernel
theorem dX5_isRoomFor_16 : decode cX5_isRoomFor 16 = .ok (.getfield 12, 3) := by decide +kernel
theorem dX5_isRoomFor_19 : decode cX5_isRoomFor 19 = .ok (.getfield 58, 3) := by decide +kernel
theorem dX5_isRoomFor_22 : decode cX5_isRoomFor 22 = .ok (.invokevirtual 84, 3) := by decide +kernel
theorem dX5_isRoomFor_25 : decode cX5_isRoomFor 25 = .ok (.iadd, 1) := by decide +kernel
theorem dX5_isRoomFor_26 : decode cX5_isRoomFor 26 = .ok (.bipush 60, 2) := by decide +kernel
theorem dX5_isRoomFor_28 : decode cX5_isRoomFor 28 = .ok (.if_icmp .gt 7, 3) := by decide +kernel
theorem dX5_isRoomFor_31 : decode cX5_isRoomFor 31 = .ok (.iconst 1, 1) := by decide +kernel
theorem dX5_isRoomFor_32 : decode cX5_isRoomFor 32 = .ok (.goto 4, 3) := by decide +kernel
theorem dX5_isRoomFor_35 : decode cX5_isRoomFor 35 = .ok (.iconst 0, 1) := by decide +kernel
theorem dX5_isRoomFor_36 : decode cX5_isRoomFor 36 = .ok (.ireturn, 1) := by decide +kernel
set_option maxRecDepth 20000 in
theorem ggX5_putRight_X9_at : GoodIn wsX5_putRight wsX9_at := goodIn_r _ [6, 7, 8, 61, 62, 63, 64] (by decide +kernel) (by decide +kernel)
set_option maxRecDepth 20000 in
theorem gX5_putRight_X9_at : GoodIn wsX5_putRight (wsV RX5 18 RX9 yX9_at wsX9_at) := goodIn_app (goodIn_of _ (by decide +kernel)) ggX5_putRight_X9_at
set_option maxRecDepth 20000 in
theorem ggX5_putRight_X7_number : GoodIn wsX5_putRight wsX7_number := goodIn_r _ [13, 14, 65] (by decide +kernel) (by decide +kernel)
set_option maxRecDepth 20000 in
theorem gX5_putRight_X7_number : GoodIn wsX5_putRight (wsV RX5 30 RX7 yX7_number wsX7_number) := goodIn_app (goodIn_of _ (by decide +kernel)) ggX5_putRight_X7_number
set_option maxRecDepth 20000 in
theorem ggX5_putRight_X4_replace : GoodIn wsX5_putRight wsX4_replace := goodIn_r _ [19, 20, 21, 22, 23, 24, 25, 10, 11, 12, 13, 14, 26, 27, 28, 18, 29, 30, 31, 32, 33, 34, 35, 36, 37, 38, 39, 40, 41, 42, 43, 44, 45, 46, 47, 48, 49, 50, 51, 52, 53, 65] (by decide +kernel) (by decide +kernel)
set_option maxRecDepth 20000 in
theorem gX5_putRight_X4_replace : GoodIn wsX5_putRight (wsV RX5 87 RX4 yX4_replace wsX4_replace) := goodIn_app (goodIn_of _ (by decide +kernel)) ggX5_putRight_X4_replace
theorem dX5_putRight_0 : decode cX5_putRight 0 = .ok (.aload_n 1, 1) := by decide +kernel
theorem dX5_putRight_1 : decode cX5_putRight 1 = .ok (.iload_n 2, 1) := by decide +kernel
theorem dX5_putRight_2 : decode cX5_putRight 2 = .ok (.invokevirtual 18, 3) := by decide +kernel
theorem dX5_putRight_5 : decode cX5_putRight 5 = .ok (.astore 4, 2) := by decide +kernel
theorem dX5_putRight_7 : decode cX5_putRight 7 = .ok (.aload_n 1, 1) := by decide +kernel
theorem dX5_putRight_8 : decode cX5_putRight 8 = .ok (.aload 4, 2) := by decide +kernel
theorem dX5_putRight_10 : decode cX5_putRight 10 = .ok (.getfield 24, 3) := by decide +kernel
theorem dX5_putRight_13 : decode cX5_putRight 13 = .ok (.iload_n 3, 1) := by decide +kernel
theorem dX5_putRight_14 : decode cX5_putRight 14 = .ok (.invokevirtual 30, 3) := by decide +kernel
theorem dX5_putRight_17 : decode cX5_putRight 17 = .ok (.invokevirtual 18, 3) := by decide +kernel
theorem dX5_putRight_20 : decode cX5_putRight 20 = .ok (.astore 5, 2) := by decide +kernel
theorem dX5_putRight_22 : decode cX5_putRight 22 = .ok (.aload 4, 2) := by decide +kernel
theorem dX5_putRight_24 : decode cX5_putRight 24 = .ok (.iload_n 3, 1) := by decide +kernel
theorem dX5_putRight_25 : decode cX5_putRight 25 = .ok (.aload 5, 2) := by decide +kernel
theorem dX5_putRight_27 : decode cX5_putRight 27 = .ok (.aload_n 0, 1) := by decide +kernel
theorem dX5_putRight_28 : decode cX5_putRight 28 = .ok (.getfield 12, 3) := by decide +kernel
theorem dX5_putRight_31 : decode cX5_putRight 31 = .ok (.getfield 55, 3) := by decide +kernel
theorem dX5_putRight_34 : decode cX5_putRight 34 = .ok (.aload_n 0, 1) := by decide +kernel
theorem dX5_putRight_35 : decode cX5_putRight 35 = .ok (.getfield 12, 3) := by decide +kernel
theorem dX5_putRight_38 : decode cX5_putRight 38 = .ok (.getfield 58, 3) := by decide +kernel
theorem dX5_putRight_41 : decode cX5_putRight 41 = .ok (.invokevirtual 87, 3) := by decide +kernel
theorem dX5_putRight_44 : decode cX5_putRight 44 = .ok (.return_, 1) := by decide +kernel
set_option maxRecDepth 20000 in
theorem ggX5_putAllRight_X9_at : GoodIn wsX5_putAllRight wsX9_at := goodIn_r _ [5, 6, 7, 92, 93, 94, 95] (by decide +kernel) (by decide +kernel)
set_option maxRecDepth 20000 in
theorem gX5_putAllRight_X9_at : GoodIn wsX5_putAllRight (wsV RX5 18 RX9 yX9_at wsX9_at) := goodIn_app (goodIn_of _ (by decide +kernel)) ggX5_putAllRight_X9_at
set_option maxRecDepth 20000 in
theorem ggX5_putAllRight_X5_find : GoodIn wsX5_putAllRight wsX5_find := goodIn_r _ [12, 13, 1, 2, 3, 4, 5, 6, 7, 14, 15, 16, 17, 18, 19, 20, 21, 22, 23, 24, 25, 26, 27, 28, 29, 30, 31, 32, 33, 34, 35, 36, 37, 38, 39, 40, 41, 42, 43, 44, 45, 46, 47, 48, 49, 96, 97, 98, 84, 85, 86, 87, 88, 89, 90, 91, 99, 100, 101, 102, 92, 93, 94, 95, 103] (by decide +kernel) (by decide +kernel)
set_option maxRecDepth 20000 in
theorem gX5_putAllRight_X5_find : GoodIn wsX5_putAllRight (wsV RX5 51 RX5 yX5_find wsX5_find) := goodIn_app (goodIn_of _ (by decide +kernel)) ggX5_putAllRight_X5_find
set_option maxRecDepth 20000 in
theorem ggX5_putAllRight_X5_isRoomFor : GoodIn wsX5_putAllRight wsX5_isRoomFor := goodIn_r _ [53, 13, 1, 2, 3, 4, 5, 6, 7, 54, 55, 56, 57, 58, 59, 60, 15, 16, 17, 18, 19, 84, 85, 86, 87, 88, 89, 90, 91, 96, 97, 98, 99, 100, 101, 102, 92, 93, 94, 95, 103] (by decide +kernel) (by decide +kernel)
set_option maxRecDepth 20000 in
theorem gX5_putAllRight_X5_isRoomFor : GoodIn wsX5_putAllRight (wsV RX5 91 RX5 yX5_isRoomFor wsX5_isRoomFor) := goodIn_app (goodIn_of _ (by decide +kernel)) ggX5_putAllRight_X5_isRoomFor
set_option maxRecDepth 20000 in
theorem ggX5_putAllRight_X5_putRight : GoodIn wsX5_putAllRight wsX5_putRight := goodIn_r _ [64, 13, 1, 2, 3, 4, 5, 6, 7, 14, 15, 16, 17, 18, 19, 65, 66, 67, 57, 68, 69, 59, 70, 71, 72, 60, 73, 55, 56, 58, 74, 75, 76, 77, 78, 79, 80, 81, 82, 32, 33, 34, 83, 28, 29, 30, 84, 85, 86, 87, 88, 89, 90, 91, 96, 97, 98, 99, 100, 101, 102, 92, 93, 94, 95, 103] (by decide +kernel) (by decide +kernel)
set_option maxRecDepth 20000 in
theorem gX5_putAllRight_X5_putRight : GoodIn wsX5_putAllRight (wsV RX5 95 RX5 yX5_putRight wsX5_putRight) := goodIn_app (goodIn_of _ (by decide +kernel)) ggX5_putAllRight_X5_putRight
theorem dX5_putAllRight_0 : decode cX5_putAllRight 0 = .ok (.aload_n 1, 1) := by decide +kernel
theorem dX5_putAllRight_1 : decode cX5_putAllRight 1 = .ok (.iload_n 2, 1) := by decide +kernel
theorem dX5_putAllRight_2 : decode cX5_putAllRight 2 = .ok (.invokevirtual 18, 3) := by decide +kernel
theorem dX5_putAllRight_5 : decode cX5_putAllRight 5 = .ok (.getfield 74, 3) := by decide +kernel
theorem dX5_putAllRight_8 : decode cX5_putAllRight 8 = .ok (.istore_n 3, 1) := by decide +kernel
theorem dX5_putAllRight_9 : decode cX5_putAllRight 9 = .ok (.iconst 0, 1) := by decide +kernel
theorem dX5_putAllRight_10 : decode cX5_putAllRight 10 = .ok (.istore 4, 2) := by decide +kernel
theorem dX5_putAllRight_12 : decode cX5_putAllRight 12 = .ok (.iconst 0, 1) := by decide +kernel
theorem dX5_putAllRight_13 : decode cX5_putAllRight 13 = .ok (.istore 5, 2) := by decide +kernel
theorem dX5_putAllRight_15 : decode cX5_putAllRight 15 = .ok (.iload 5, 2) := by decide +kernel
theorem dX5_putAllRight_17 : decode cX5_putAllRight 17 = .ok (.iload_n 3, 1) := by decide +kernel
theorem dX5_putAllRight_18 : decode cX5_putAllRight 18 = .ok (.if_icmp .ge 42, 3) := by decide +kernel
theorem dX5_putAllRight_21 : decode cX5_putAllRight 21 = .ok (.aload_n 0, 1) := by decide +kernel
theorem dX5_putAllRight_22 : decode cX5_putAllRight 22 = .ok (.aload_n 1, 1) := by decide +kernel
theorem dX5_putAllRight_23 : decode cX5_putAllRight 23 = .ok (.iload_n 2, 1) := by decide +kernel
theorem dX5_putAllRight_24 : decode cX5_putAllRight 24 = .ok (.iload 5, 2) := by decide +kernel
theorem dX5_putAllRight_26 : decode cX5_putAllRight 26 = .ok (.invokevirtual 51, 3) := by decide +kernel
theorem dX5_putAllRight_29 : decode cX5_putAllRight 29 = .ok (.ifCond .le 25, 3) := by decide +kernel
theorem dX5_putAllRight_32 : decode cX5_putAllRight 32 = .ok (.aload_n 0, 1) := by decide +kernel
theorem dX5_putAllRight_33 : decode cX5_putAllRight 33 = .ok (.aload_n 1, 1) := by decide +kernel
theorem dX5_putAllRight_34 : decode cX5_putAllRight 34 = .ok (.iload_n 2, 1) := by decide +kernel
theorem dX5_putAllRight_35 : decode cX5_putAllRight 35 = .ok (.iload 5, 2) := by decide +kernel
theorem dX5_putAllRight_37 : decode cX5_putAllRight 37 = .ok (.invokevirtual 91, 3) := by decide +kernel
theorem dX5_putAllRight_40 : decode cX5_putAllRight 40 = .ok (.ifCond .eq 14, 3) := by decide +kernel
theorem dX5_putAllRight_43 : decode cX5_putAllRight 43 = .ok (.aload_n 0, 1) := by decide +kernel
theorem dX5_putAllRight_44 : decode cX5_putAllRight 44 = .ok (.aload_n 1, 1) := by decide +kernel
theorem dX5_putAllRight_45 : decode cX5_putAllRight 45 = .ok (.iload_n 2, 1) := by decide +kernel
theorem dX5_putAllRight_46 : decode cX5_putAllRight 46 = .ok (.iload 5, 2) := by decide +kernel
theorem dX5_putAllRight_48 : decode cX5_putAllRight 48 = .ok (.invokevirtual 95, 3) := by decide +kernel
theorem dX5_putAllRight_51 : decode cX5_putAllRight 51 = .ok (.iinc 4 1, 3) := by decide +kernel
theorem dX5_putAllRight_54 : decode cX5_putAllRight 54 = .ok (.iinc 5 1, 3) := by decide +kernel
theorem dX5_putAllRight_57 : decode cX5_putAllRight 57 = .ok (.goto (-42), 3) := by decide +kernel
theorem dX5_putAllRight_60 : decode cX5_putAllRight 60 = .ok (.iload 4, 2) := by decide +kernel
theorem dX5_putAllRight_62 : decode cX5_putAllRight 62 = .ok (.ireturn, 1) := by decide +kernel
set_option maxRecDepth 20000 in
theorem ggX5_changesWritten_X9_at : GoodIn wsX5_changesWritten wsX9_at := goodIn_r _ [5, 6, 7, 54, 55, 56, 57] (by decide +kernel) (by decide +kernel)
set_option maxRecDepth 20000 in
theorem gX5_changesWritten_X9_at : GoodIn wsX5_changesWritten (wsV RX5 18 RX9 yX9_at wsX9_at) := goodIn_app (goodIn_of _ (by decide +kernel)) ggX5_changesWritten_X9_at
set_option maxRecDepth 20000 in
theorem ggX5_changesWritten_X5_changesIn : GoodIn wsX5_changesWritten wsX5_changesIn := goodIn_r _ [12, 1, 2, 3, 4, 5, 6, 7, 13, 14, 15, 16, 17, 18, 19, 20, 21, 11, 22, 23, 24, 25, 26, 27, 28, 29, 30, 31, 32, 33, 34, 35, 36, 37, 38, 39, 40, 41, 42, 43, 44, 45, 46, 47, 48, 49, 50, 51, 52, 53, 58, 59, 60, 61, 62, 63, 64, 65, 54, 55, 56, 57, 66, 67, 68, 69, 70, 71, 72, 73] (by decide +kernel) (by decide +kernel)
set_option maxRecDepth 20000 in
theorem gX5_changesWritten_X5_changesIn : GoodIn wsX5_changesWritten (wsV RX5 102 RX5 yX5_changesIn wsX5_changesIn) := goodIn_app (goodIn_of _ (by decide +kernel)) ggX5_changesWritten_X5_changesIn
theorem dX5_changesWritten_0 : decode cX5_changesWritten 0 = .ok (.iconst 0, 1) := by decide +kernel
theorem dX5_changesWritten_1 : decode cX5_changesWritten 1 = .ok (.istore 4, 2) := by decide +kernel
theorem dX5_changesWritten_3 : decode cX5_changesWritten 3 = .ok (.iconst 0, 1) := by decide +kernel
theorem dX5_changesWritten_4 : decode cX5_changesWritten 4 = .ok (.istore 5, 2) := by decide +kernel
theorem dX5_changesWritten_6 : decode cX5_changesWritten 6 = .ok (.iload 5, 2) := by decide +kernel
theorem dX5_changesWritten_8 : decode cX5_changesWritten 8 = .ok (.aload_n 1, 1) := by decide +kernel
theorem dX5_changesWritten_9 : decode cX5_changesWritten 9 = .ok (.getfield 71, 3) := by decide +kernel
theorem dX5_changesWritten_12 : decode cX5_changesWritten 12 = .ok (.if_icmp .ge 35, 3) := by decide +kernel
theorem dX5_changesWritten_15 : decode cX5_changesWritten 15 = .ok (.aload_n 1, 1) := by decide +kernel
theorem dX5_changesWritten_16 : decode cX5_changesWritten 16 = .ok (.iload 5, 2) := by decide +kernel
theorem dX5_changesWritten_18 : decode cX5_changesWritten 18 = .ok (.invokevirtual 18, 3) := by decide +kernel
theorem dX5_changesWritten_21 : decode cX5_changesWritten 21 = .ok (.getfield 99, 3) := by decide +kernel
theorem dX5_changesWritten_24 : decode cX5_changesWritten 24 = .ok (.iload_n 2, 1) := by decide +kernel
theorem dX5_changesWritten_25 : decode cX5_changesWritten 25 = .ok (.if_icmp .ne 16, 3) := by decide +kernel
theorem dX5_changesWritten_28 : decode cX5_changesWritten 28 = .ok (.iload 4, 2) := by decide +kernel
theorem dX5_changesWritten_30 : decode cX5_changesWritten 30 = .ok (.aload_n 0, 1) := by decide +kernel
theorem dX5_changesWritten_31 : decode cX5_changesWritten 31 = .ok (.aload_n 1, 1) := by decide +kernel
theorem dX5_changesWritten_32 : decode cX5_changesWritten 32 = .ok (.iload 5, 2) := by decide +kernel
theorem dX5_changesWritten_34 : decode cX5_changesWritten 34 = .ok (.iload_n 3, 1) := by decide +kernel
theorem dX5_changesWritten_35 : decode cX5_changesWritten 35 = .ok (.invokevirtual 102, 3) := by decide +kernel
theorem dX5_changesWritten_38 : decode cX5_changesWritten 38 = .ok (.iadd, 1) := by decide +kernel
theorem dX5_changesWritten_39 : decode cX5_changesWritten 39 = .ok (.istore 4, 2) := by decide +kernel
theorem dX5_changesWritten_41 : decode cX5_changesWritten 41 = .ok (.iinc 5 1, 3) := by decide +kernel
theorem dX5_changesWritten_44 : decode cX5_changesWritten 44 = .ok (.goto (-38), 3) := by decide +kernel
theorem dX5_changesWritten_47 : decode cX5_changesWritten 47 = .ok (.iload 4, 2) := by decide +kernel
theorem dX5_changesWritten_49 : decode cX5_changesWritten 49 = .ok (.ireturn, 1) := by decide +kernel
set_option maxRecDepth 20000 in
theorem ggX5_changesIn_X9_at : GoodIn wsX5_changesIn wsX9_at := goodIn_r _ [5, 6, 7, 58, 59, 60, 61] (by decide +kernel) (by decide +kernel)
set_option maxRecDepth 20000 in
theorem gX5_changesIn_X9_at : GoodIn wsX5_changesIn (wsV RX5 18 RX9 yX9_at wsX9_at) := goodIn_app (goodIn_of _ (by decide +kernel)) ggX5_changesIn_X9_at
set_option maxRecDepth 20000 in
theorem ggX5_changesIn_X7_number : GoodIn wsX5_changesIn wsX7_number := goodIn_r _ [12, 13, 62] (by decide +kernel) (by decide +kernel)
set_option maxRecDepth 20000 in
theorem gX5_changesIn_X7_number : GoodIn wsX5_changesIn (wsV RX5 30 RX7 yX7_number wsX7_number) := goodIn_app (goodIn_of _ (by decide +kernel)) ggX5_changesIn_X7_number
set_option maxRecDepth 20000 in
theorem ggX5_changesIn_X5_find : GoodIn wsX5_changesIn wsX5_find := goodIn_r _ [18, 19, 1, 2, 3, 4, 5, 6, 7, 8, 9, 10, 11, 12, 13, 20, 21, 22, 23, 24, 25, 26, 27, 28, 29, 30, 31, 32, 33, 34, 35, 36, 37, 38, 39, 40, 41, 42, 43, 44, 45, 46, 47, 48, 49, 63, 64, 65, 50, 51, 52, 53, 54, 55, 56, 57, 66, 67, 68, 69, 58, 59, 60, 61, 62] (by decide +kernel) (by decide +kernel)
set_option maxRecDepth 20000 in
theorem gX5_changesIn_X5_find : GoodIn wsX5_changesIn (wsV RX5 51 RX5 yX5_find wsX5_find) := goodIn_app (goodIn_of _ (by decide +kernel)) ggX5_changesIn_X5_find
theorem dX5_changesIn_0 : decode cX5_changesIn 0 = .ok (.aload_n 1, 1) := by decide +kernel
theorem dX5_changesIn_1 : decode cX5_changesIn 1 = .ok (.iload_n 2, 1) := by decide +kernel
theorem dX5_changesIn_2 : decode cX5_changesIn 2 = .ok (.invokevirtual 18, 3) := by decide +kernel
theorem dX5_changesIn_5 : decode cX5_changesIn 5 = .ok (.astore 4, 2) := by decide +kernel
theorem dX5_changesIn_7 : decode cX5_changesIn 7 = .ok (.iconst 0, 1) := by decide +kernel
theorem dX5_changesIn_8 : decode cX5_changesIn 8 = .ok (.istore 5, 2) := by decide +kernel
theorem dX5_changesIn_10 : decode cX5_changesIn 10 = .ok (.iconst 0, 1) := by decide +kernel
theorem dX5_changesIn_11 : decode cX5_changesIn 11 = .ok (.istore 6, 2) := by decide +kernel
theorem dX5_changesIn_13 : decode cX5_changesIn 13 = .ok (.iload 6, 2) := by decide +kernel
theorem dX5_changesIn_15 : decode cX5_changesIn 15 = .ok (.aload 4, 2) := by decide +kernel
theorem dX5_changesIn_17 : decode cX5_changesIn 17 = .ok (.getfield 74, 3) := by decide +kernel
theorem dX5_changesIn_20 : decode cX5_changesIn 20 = .ok (.if_icmp .ge 52, 3) := by decide +kernel
theorem dX5_changesIn_23 : decode cX5_changesIn 23 = .ok (.aload_n 1, 1) := by decide +kernel
theorem dX5_changesIn_24 : decode cX5_changesIn 24 = .ok (.aload 4, 2) := by decide +kernel
theorem dX5_changesIn_26 : decode cX5_changesIn 26 = .ok (.getfield 24, 3) := by decide +kernel
theorem dX5_changesIn_29 : decode cX5_changesIn 29 = .ok (.iload 6, 2) := by decide +kernel
theorem dX5_changesIn_31 : decode cX5_changesIn 31 = .ok (.invokevirtual 30, 3) := by decide +kernel
theorem dX5_changesIn_34 : decode cX5_changesIn 34 = .ok (.invokevirtual 18, 3) := by decide +kernel
theorem dX5_changesIn_37 : decode cX5_changesIn 37 = .ok (.getfield 99, 3) := by decide +kernel
theorem dX5_changesIn_40 : decode cX5_changesIn 40 = .ok (.istore 7, 2) := by decide +kernel
theorem dX5_changesIn_42 : decode cX5_changesIn 42 = .ok (.iload_n 3, 1) := by decide +kernel
theorem dX5_changesIn_43 : decode cX5_changesIn 43 = .ok (.iconst (-1), 1) := by decide +kernel
theorem dX5_changesIn_44 : decode cX5_changesIn 44 = .ok (.if_icmp .eq 9, 3) := by decide +kernel
theorem dX5_changesIn_47 : decode cX5_changesIn 47 = .ok (.iload_n 3, 1) := by decide +kernel
theorem dX5_changesIn_48 : decode cX5_changesIn 48 = .ok (.iload 7, 2) := by decide +kernel
theorem dX5_changesIn_50 : decode cX5_changesIn 50 = .ok (.if_icmp .ne 16, 3) := by decide +kernel
theorem dX5_changesIn_53 : decode cX5_changesIn 53 = .ok (.iload 5, 2) := by decide +kernel
theorem dX5_changesIn_55 : decode cX5_changesIn 55 = .ok (.aload_n 0, 1) := by decide +kernel
theorem dX5_changesIn_56 : decode cX5_changesIn 56 = .ok (.aload_n 1, 1) := by decide +kernel
theorem dX5_changesIn_57 : decode cX5_changesIn 57 = .ok (.iload_n 2, 1) := by decide +kernel
theorem dX5_changesIn_58 : decode cX5_changesIn 58 = .ok (.iload 6, 2) := by decide +kernel
theorem dX5_changesIn_60 : decode cX5_changesIn 60 = .ok (.invokevirtual 51, 3) := by decide +kernel
theorem dX5_changesIn_63 : decode cX5_changesIn 63 = .ok (.iadd, 1) := by decide +kernel
theorem dX5_changesIn_64 : decode cX5_changesIn 64 = .ok (.istore 5, 2) := by decide +kernel
theorem dX5_changesIn_66 : decode cX5_changesIn 66 = .ok (.iinc 6 1, 3) := by decide +kernel
theorem dX5_changesIn_69 : decode cX5_changesIn 69 = .ok (.goto (-56), 3) := by decide +kernel
theorem dX5_changesIn_72 : decode cX5_changesIn 72 = .ok (.iload 5, 2) := by decide +kernel
theorem dX5_changesIn_74 : decode cX5_changesIn 74 = .ok (.ireturn, 1) := by decide +kernel
set_option maxRecDepth 20000 in
theorem ggX5_changesSuffered_X9_at : GoodIn wsX5_changesSuffered wsX9_at := goodIn_r _ [5, 6, 7, 50, 51, 52, 53] (by decide +kernel) (by decide +kernel)
set_option maxRecDepth 20000 in
theorem gX5_changesSuffered_X9_at : GoodIn wsX5_changesSuffered (wsV RX5 18 RX9 yX9_at wsX9_at) := goodIn_app (goodIn_of _ (by decide +kernel)) ggX5_changesSuffered_X9_at
set_option maxRecDepth 20000 in
theorem ggX5_changesSuffered_X7_number : GoodIn wsX5_changesSuffered wsX7_number := goodIn_r _ [12, 13, 62] (by decide +kernel) (by decide +kernel)
set_option maxRecDepth 20000 in
theorem gX5_changesSuffered_X7_number : GoodIn wsX5_changesSuffered (wsV RX5 30 RX7 yX7_number wsX7_number) := goodIn_app (goodIn_of _ (by decide +kernel)) ggX5_changesSuffered_X7_number
set_option maxRecDepth 20000 in
theorem ggX5_changesSuffered_X5_find : GoodIn wsX5_changesSuffered wsX5_find := goodIn_r _ [18, 19, 1, 2, 3, 4, 5, 6, 7, 8, 9, 10, 11, 12, 13, 20, 21, 22, 23, 24, 25, 26, 27, 28, 29, 30, 31, 32, 33, 34, 35, 36, 37, 38, 39, 40, 41, 42, 43, 44, 45, 46, 47, 48, 49, 63, 64, 65, 54, 55, 56, 57, 58, 59, 60, 61, 66, 67, 68, 69, 50, 51, 52, 53, 62] (by decide +kernel) (by decide +kernel)
set_option maxRecDepth 20000 in
theorem gX5_changesSuffered_X5_find : GoodIn wsX5_changesSuffered (wsV RX5 51 RX5 yX5_find wsX5_find) := goodIn_app (goodIn_of _ (by decide +kernel)) ggX5_changesSuffered_X5_find
theorem dX5_changesSuffered_0 : decode cX5_changesSuffered 0 = .ok (.iconst 0, 1) := by decide +kernel
theorem dX5_changesSuffered_1 : decode cX5_changesSuffered 1 = .ok (.istore_n 3, 1) := by decide +kernel
theorem dX5_changesSuffered_2 : decode cX5_changesSuffered 2 = .ok (.iload_n 2, 1) := by decide +kernel
theorem dX5_changesSuffered_3 : decode cX5_changesSuffered 3 = .ok (.iconst 1, 1) := by decide +kernel
theorem dX5_changesSuffered_4 : decode cX5_changesSuffered 4 = .ok (.iadd, 1) := by decide +kernel
theorem dX5_changesSuffered_5 : decode cX5_changesSuffered 5 = .ok (.istore 4, 2) := by decide +kernel
theorem dX5_changesSuffered_7 : decode cX5_changesSuffered 7 = .ok (.iload 4, 2) := by decide +kernel
theorem dX5_changesSuffered_9 : decode cX5_changesSuffered 9 = .ok (.aload_n 1, 1) := by decide +kernel
theorem dX5_changesSuffered_10 : decode cX5_changesSuffered 10 = .ok (.getfield 71, 3) := by decide +kernel
theorem dX5_changesSuffered_13 : decode cX5_changesSuffered 13 = .ok (.if_icmp .ge 62, 3) := by decide +kernel
theorem dX5_changesSuffered_16 : decode cX5_changesSuffered 16 = .ok (.aload_n 1, 1) := by decide +kernel
theorem dX5_changesSuffered_17 : decode cX5_changesSuffered 17 = .ok (.iload 4, 2) := by decide +kernel
theorem dX5_changesSuffered_19 : decode cX5_changesSuffered 19 = .ok (.invokevirtual 18, 3) := by decide +kernel
theorem dX5_changesSuffered_22 : decode cX5_changesSuffered 22 = .ok (.astore 5, 2) := by decide +kernel
theorem dX5_changesSuffered_24 : decode cX5_changesSuffered 24 = .ok (.iconst 0, 1) := by decide +kernel
theorem dX5_changesSuffered_25 : decode cX5_changesSuffered 25 = .ok (.istore 6, 2) := by decide +kernel
theorem dX5_changesSuffered_27 : decode cX5_changesSuffered 27 = .ok (.iload 6, 2) := by decide +kernel
theorem dX5_changesSuffered_29 : decode cX5_changesSuffered 29 = .ok (.aload 5, 2) := by decide +kernel
theorem dX5_changesSuffered_31 : decode cX5_changesSuffered 31 = .ok (.getfield 74, 3) := by decide +kernel
theorem dX5_changesSuffered_34 : decode cX5_changesSuffered 34 = .ok (.if_icmp .ge 35, 3) := by decide +kernel
theorem dX5_changesSuffered_37 : decode cX5_changesSuffered 37 = .ok (.aload 5, 2) := by decide +kernel
theorem dX5_changesSuffered_39 : decode cX5_changesSuffered 39 = .ok (.getfield 24, 3) := by decide +kernel
theorem dX5_changesSuffered_42 : decode cX5_changesSuffered 42 = .ok (.iload 6, 2) := by decide +kernel
theorem dX5_changesSuffered_44 : decode cX5_changesSuffered 44 = .ok (.invokevirtual 30, 3) := by decide +kernel
theorem dX5_changesSuffered_47 : decode cX5_changesSuffered 47 = .ok (.iload_n 2, 1) := by decide +kernel
theorem dX5_changesSuffered_48 : decode cX5_changesSuffered 48 = .ok (.if_icmp .ne 15, 3) := by decide +kernel
theorem dX5_changesSuffered_51 : decode cX5_changesSuffered 51 = .ok (.iload_n 3, 1) := by decide +kernel
theorem dX5_changesSuffered_52 : decode cX5_changesSuffered 52 = .ok (.aload_n 0, 1) := by decide +kernel
theorem dX5_changesSuffered_53 : decode cX5_changesSuffered 53 = .ok (.aload_n 1, 1) := by decide +kernel
theorem dX5_changesSuffered_54 : decode cX5_changesSuffered 54 = .ok (.iload 4, 2) := by decide +kernel
theorem dX5_changesSuffered_56 : decode cX5_changesSuffered 56 = .ok (.iload 6, 2) := by decide +kernel
theorem dX5_changesSuffered_58 : decode cX5_changesSuffered 58 = .ok (.invokevirtual 51, 3) := by decide +kernel
theorem dX5_changesSuffered_61 : decode cX5_changesSuffered 61 = .ok (.iadd, 1) := by decide +kernel
theorem dX5_changesSuffered_62 : decode cX5_changesSuffered 62 = .ok (.istore_n 3, 1) := by decide +kernel
theorem dX5_changesSuffered_63 : decode cX5_changesSuffered 63 = .ok (.iinc 6 1, 3) := by decide +kernel
theorem dX5_changesSuffered_66 : decode cX5_changesSuffered 66 = .ok (.goto (-39), 3) := by decide +kernel
theorem dX5_changesSuffered_69 : decode cX5_changesSuffered 69 = .ok (.iinc 4 1, 3) := by decide +kernel
theorem dX5_changesSuffered_72 : decode cX5_changesSuffered 72 = .ok (.goto (-65), 3) := by decide +kernel
theorem dX5_changesSuffered_75 : decode cX5_changesSuffered 75 = .ok (.iload_n 3, 1) := by decide +kernel
theorem dX5_changesSuffered_76 : decode cX5_changesSuffered 76 = .ok (.ireturn, 1) := by decide +kernel
set_option maxRecDepth 20000 in
theorem ggX5_faithfulIn_X9_at : GoodIn wsX5_faithfulIn wsX9_at := goodIn_r _ [5, 6, 7, 58, 59, 60, 61] (by decide +kernel) (by decide +kernel)
set_option maxRecDepth 20000 in
theorem gX5_faithfulIn_X9_at : GoodIn wsX5_faithfulIn (wsV RX5 18 RX9 yX9_at wsX9_at) := goodIn_app (goodIn_of _ (by decide +kernel)) ggX5_faithfulIn_X9_at
set_option maxRecDepth 20000 in
theorem ggX5_faithfulIn_X5_find : GoodIn wsX5_faithfulIn wsX5_find := goodIn_r _ [12, 13, 1, 2, 3, 4, 5, 6, 7, 14, 15, 16, 17, 18, 19, 20, 21, 22, 23, 24, 25, 26, 27, 28, 29, 30, 31, 32, 33, 34, 35, 36, 37, 38, 39, 40, 41, 42, 43, 44, 45, 46, 47, 48, 49, 62, 63, 64, 50, 51, 52, 53, 54, 55, 56, 57, 65, 66, 67, 68, 58, 59, 60, 61, 69] (by decide +kernel) (by decide +kernel)
set_option maxRecDepth 20000 in
theorem gX5_faithfulIn_X5_find : GoodIn wsX5_faithfulIn (wsV RX5 51 RX5 yX5_find wsX5_find) := goodIn_app (goodIn_of _ (by decide +kernel)) ggX5_faithfulIn_X5_find
theorem dX5_faithfulIn_0 : decode cX5_faithfulIn 0 = .ok (.aload_n 1, 1) := by decide +kernel
theorem dX5_faithfulIn_1 : decode cX5_faithfulIn 1 = .ok (.iload_n 2, 1) := by decide +kernel
theorem dX5_faithfulIn_2 : decode cX5_faithfulIn 2 = .ok (.invokevirtual 18, 3) := by decide +kernel
theorem dX5_faithfulIn_5 : decode cX5_faithfulIn 5 = .ok (.getfield 74, 3) := by decide +kernel
theorem dX5_faithfulIn_8 : decode cX5_faithfulIn 8 = .ok (.istore_n 3, 1) := by decide +kernel
theorem dX5_faithfulIn_9 : decode cX5_faithfulIn 9 = .ok (.iconst 0, 1) := by decide +kernel
theorem dX5_faithfulIn_10 : decode cX5_faithfulIn 10 = .ok (.istore 4, 2) := by decide +kernel
theorem dX5_faithfulIn_12 : decode cX5_faithfulIn 12 = .ok (.iconst 0, 1) := by decide +kernel
theorem dX5_faithfulIn_13 : decode cX5_faithfulIn 13 = .ok (.istore 5, 2) := by decide +kernel
theorem dX5_faithfulIn_15 : decode cX5_faithfulIn 15 = .ok (.iload 5, 2) := by decide +kernel
theorem dX5_faithfulIn_17 : decode cX5_faithfulIn 17 = .ok (.iload_n 3, 1) := by decide +kernel
theorem dX5_faithfulIn_18 : decode cX5_faithfulIn 18 = .ok (.if_icmp .ge 30, 3) := by decide +kernel
theorem dX5_faithfulIn_21 : decode cX5_faithfulIn 21 = .ok (.iload 4, 2) := by decide +kernel
theorem dX5_faithfulIn_23 : decode cX5_faithfulIn 23 = .ok (.aload_n 0, 1) := by decide +kernel
theorem dX5_faithfulIn_24 : decode cX5_faithfulIn 24 = .ok (.aload_n 1, 1) := by decide +kernel
theorem dX5_faithfulIn_25 : decode cX5_faithfulIn 25 = .ok (.iload_n 2, 1) := by decide +kernel
theorem dX5_faithfulIn_26 : decode cX5_faithfulIn 26 = .ok (.iload 5, 2) := by decide +kernel
theorem dX5_faithfulIn_28 : decode cX5_faithfulIn 28 = .ok (.invokevirtual 51, 3) := by decide +kernel
theorem dX5_faithfulIn_31 : decode cX5_faithfulIn 31 = .ok (.ifCond .ne 7, 3) := by decide +kernel
theorem dX5_faithfulIn_34 : decode cX5_faithfulIn 34 = .ok (.iconst 1, 1) := by decide +kernel
theorem dX5_faithfulIn_35 : decode cX5_faithfulIn 35 = .ok (.goto 4, 3) := by decide +kernel
theorem dX5_faithfulIn_38 : decode cX5_faithfulIn 38 = .ok (.iconst 0, 1) := by decide +kernel
theorem dX5_faithfulIn_39 : decode cX5_faithfulIn 39 = .ok (.iadd, 1) := by decide +kernel
theorem dX5_faithfulIn_40 : decode cX5_faithfulIn 40 = .ok (.istore 4, 2) := by decide +kernel
theorem dX5_faithfulIn_42 : decode cX5_faithfulIn 42 = .ok (.iinc 5 1, 3) := by decide +kernel
theorem dX5_faithfulIn_45 : decode cX5_faithfulIn 45 = .ok (.goto (-30), 3) := by decide +kernel
theorem dX5_faithfulIn_48 : decode cX5_faithfulIn 48 = .ok (.iload 4, 2) := by decide +kernel
theorem dX5_faithfulIn_50 : decode cX5_faithfulIn 50 = .ok (.ireturn, 1) := by decide +kernel
set_option maxRecDepth 20000 in
theorem ggX6_init_X4_init : GoodIn wsX6_init wsX4_init := goodIn_r _ [9, 10, 2, 3, 11, 12, 13, 14, 15, 16, 17, 18, 19, 20, 21, 22, 23, 24, 25, 26, 27, 41, 28, 29, 30, 31, 32, 33, 34, 35] (by decide +kernel) (by decide +kernel)
set_option maxRecDepth 20000 in
theorem gX6_init_X4_init_n11 : GoodIn wsX6_init (wsX4_init) := ggX6_init_X4_init
theorem dX6_init_0 : decode cX6_init 0 = .ok (.aload_n 0, 1) := by decide +kernel
theorem dX6_init_1 : decode cX6_init 1 = .ok (.invokespecial 3, 3) := by decide +kernel
theorem dX6_init_4 : decode cX6_init 4 = .ok (.aload_n 0, 1) := by decide +kernel
theorem dX6_init_5 : decode cX6_init 5 = .ok (.new 9, 3) := by decide +kernel
theorem dX6_init_8 : decode cX6_init 8 = .ok (.dup, 1) := by decide +kernel
theorem dX6_init_9 : decode cX6_init 9 = .ok (.invokespecial 11, 3) := by decide +kernel
theorem dX6_init_12 : decode cX6_init 12 = .ok (.putfield 12, 3) := by decide +kernel
theorem dX6_init_15 : decode cX6_init 15 = .ok (.return_, 1) := by decide +kernel
set_option maxRecDepth 20000 in
theorem ggX6_read_X4_empty : GoodIn wsX6_read wsX4_empty := goodIn_r _ [8, 9, 10, 75, 76, 77, 78, 79, 80, 81, 82] (by decide +kernel) (by decide +kernel)
set_option maxRecDepth 20000 in
theorem gX6_read_X4_empty : GoodIn wsX6_read (wsV RX6 18 RX4 yX4_empty wsX4_empty) := goodIn_app (goodIn_of _ (by decide +kernel)) ggX6_read_X4_empty
set_option maxRecDepth 20000 in
theorem ggX6_read_X7_number : GoodIn wsX6_read wsX7_number := goodIn_r _ [15, 16, 83] (by decide +kernel) (by decide +kernel)
set_option maxRecDepth 20000 in
theorem gX6_read_X7_number : GoodIn wsX6_read (wsV RX6 37 RX7 yX7_number wsX7_number) := goodIn_app (goodIn_of _ (by decide +kernel)) ggX6_read_X7_number
set_option maxRecDepth 20000 in
theorem ggX6_read_X6_placeAfter : GoodIn wsX6_read wsX6_placeAfter := goodIn_r _ [21, 3, 22, 23, 24, 20, 25, 1, 26, 27, 28, 29, 30, 31, 32, 33, 34, 35, 36, 37, 7, 38, 39, 9, 40, 41, 42, 14, 43, 16, 44, 45, 46, 47, 48, 49, 50, 51, 52, 53, 54, 55, 56, 57, 58, 59, 60, 61, 10, 62, 63, 64, 65, 66, 67, 68, 69, 70, 71, 72, 75, 76, 77, 78, 79, 80, 81, 82, 83] (by decide +kernel) (by decide +kernel)
set_option maxRecDepth 20000 in
theorem gX6_read_X6_placeAfter : GoodIn wsX6_read (wsV RX6 43 RX6 yX6_placeAfter wsX6_placeAfter) := goodIn_app (goodIn_of _ (by decide +kernel)) ggX6_read_X6_placeAfter
theorem dX6_read_0 : decode cX6_read 0 = .ok (.aload_n 0, 1) := by decide +kernel
theorem dX6_read_1 : decode cX6_read 1 = .ok (.getfield 12, 3) := by decide +kernel
theorem dX6_read_4 : decode cX6_read 4 = .ok (.invokevirtual 18, 3) := by decide +kernel
theorem dX6_read_7 : decode cX6_read 7 = .ok (.aload_n 0, 1) := by decide +kernel
theorem dX6_read_8 : decode cX6_read 8 = .ok (.iconst 0, 1) := by decide +kernel
theorem dX6_read_9 : decode cX6_read 9 = .ok (.putfield 21, 3) := by decide +kernel
theorem dX6_read_12 : decode cX6_read 12 = .ok (.aload_n 0, 1) := by decide +kernel
theorem dX6_read_13 : decode cX6_read 13 = .ok (.iconst 1, 1) := by decide +kernel
theorem dX6_read_14 : decode cX6_read 14 = .ok (.putfield 25, 3) := by decide +kernel
theorem dX6_read_17 : decode cX6_read 17 = .ok (.aload_n 0, 1) := by decide +kernel
theorem dX6_read_18 : decode cX6_read 18 = .ok (.getfield 21, 3) := by decide +kernel
theorem dX6_read_21 : decode cX6_read 21 = .ok (.aload_n 1, 1) := by decide +kernel
theorem dX6_read_22 : decode cX6_read 22 = .ok (.getfield 28, 3) := by decide +kernel
theorem dX6_read_25 : decode cX6_read 25 = .ok (.if_icmp .ge 42, 3) := by decide +kernel
theorem dX6_read_28 : decode cX6_read 28 = .ok (.aload_n 0, 1) := by decide +kernel
theorem dX6_read_29 : decode cX6_read 29 = .ok (.aload_n 1, 1) := by decide +kernel
theorem dX6_read_30 : decode cX6_read 30 = .ok (.getfield 33, 3) := by decide +kernel
theorem dX6_read_33 : decode cX6_read 33 = .ok (.aload_n 0, 1) := by decide +kernel
theorem dX6_read_34 : decode cX6_read 34 = .ok (.getfield 21, 3) := by decide +kernel
theorem dX6_read_37 : decode cX6_read 37 = .ok (.invokevirtual 37, 3) := by decide +kernel
theorem dX6_read_40 : decode cX6_read 40 = .ok (.invokevirtual 43, 3) := by decide +kernel
theorem dX6_read_43 : decode cX6_read 43 = .ok (.istore_n 2, 1) := by decide +kernel
theorem dX6_read_44 : decode cX6_read 44 = .ok (.iload_n 2, 1) := by decide +kernel
theorem dX6_read_45 : decode cX6_read 45 = .ok (.ifCond .ne 4, 3) := by decide +kernel
theorem dX6_read_48 : decode cX6_read 48 = .ok (.return_, 1) := by decide +kernel
theorem dX6_read_49 : decode cX6_read 49 = .ok (.aload_n 0, 1) := by decide +kernel
theorem dX6_read_50 : decode cX6_read 50 = .ok (.iload_n 2, 1) := by decide +kernel
theorem dX6_read_51 : decode cX6_read 51 = .ok (.putfield 25, 3) := by decide +kernel
theorem dX6_read_54 : decode cX6_read 54 = .ok (.aload_n 0, 1) := by decide +kernel
theorem dX6_read_55 : decode cX6_read 55 = .ok (.dup, 1) := by decide +kernel
theorem dX6_read_56 : decode cX6_read 56 = .ok (.getfield 21, 3) := by decide +kernel
theorem dX6_read_59 : decode cX6_read 59 = .ok (.iconst 1, 1) := by decide +kernel
theorem dX6_read_60 : decode cX6_read 60 = .ok (.iadd, 1) := by decide +kernel
theorem dX6_read_61 : decode cX6_read 61 = .ok (.putfield 21, 3) := by decide +kernel
theorem dX6_read_64 : decode cX6_read 64 = .ok (.goto (-47), 3) := by decide +kernel
theorem dX6_read_67 : decode cX6_read 67 = .ok (.return_, 1) := by decide +kernel
theorem dX6_isAtEndOfText_0 : decode cX6_isAtEndOfText 0 = .ok (.aload_n 0, 1) := by decide +kernel
theorem dX6_isAtEndOfText_1 : decode cX6_isAtEndOfText 1 = .ok (.getfield 21, 3) := by decide +kernel
theorem dX6_isAtEndOfText_4 : decode cX6_isAtEndOfText 4 = .ok (.aload_n 1, 1) := by decide +kernel
theorem dX6_isAtEndOfText_5 : decode cX6_isAtEndOfText 5 = .ok (.getfield 28, 3) := by decide +kernel
theorem dX6_isAtEndOfText_8 : decode cX6_isAtEndOfText 8 = .ok (.if_icmp .ne 33, 3) := by decide +kernel
theorem dX6_isAtEndOfText_11 : decode cX6_isAtEndOfText 11 = .ok (.aload_n 0, 1) := by decide +kernel
theorem dX6_isAtEndOfText_12 : decode cX6_isAtEndOfText 12 = .ok (.getfield 25, 3) := by decide +kernel
theorem dX6_isAtEndOfText_15 : decode cX6_isAtEndOfText 15 = .ok (.iconst 2, 1) := by decide +kernel
theorem dX6_isAtEndOfText_16 : decode cX6_isAtEndOfText 16 = .ok (.if_icmp .eq 21, 3) := by decide +kernel
theorem dX6_isAtEndOfText_19 : decode cX6_isAtEndOfText 19 = .ok (.aload_n 0, 1) := by decide +kernel
theorem dX6_isAtEndOfText_20 : decode cX6_isAtEndOfText 20 = .ok (.getfield 25, 3) := by decide +kernel
theorem dX6_isAtEndOfText_23 : decode cX6_isAtEndOfText 23 = .ok (.bipush 7, 2) := by decide +kernel
theorem dX6_isAtEndOfText_25 : decode cX6_isAtEndOfText 25 = .ok (.if_icmp .eq 12, 3) := by decide +kernel
theorem dX6_isAtEndOfText_28 : decode cX6_isAtEndOfText 28 = .ok (.aload_n 0, 1) := by decide +kernel
theorem dX6_isAtEndOfText_29 : decode cX6_isAtEndOfText 29 = .ok (.getfield 25, 3) := by decide +kernel
theorem dX6_isAtEndOfText_32 : decode cX6_isAtEndOfText 32 = .ok (.bipush 8, 2) := by decide +kernel
theorem dX6_isAtEndOfText_34 : decode cX6_isAtEndOfText 34 = .ok (.if_icmp .ne 7, 3) := by decide +kernel
theorem dX6_isAtEndOfText_37 : decode cX6_isAtEndOfText 37 = .ok (.iconst 1, 1) := by decide +kernel
theorem dX6_isAtEndOfText_38 : decode cX6_isAtEndOfText 38 = .ok (.goto 4, 3) := by decide +kernel
theorem dX6_isAtEndOfText_41 : decode cX6_isAtEndOfText 41 = .ok (.iconst 0, 1) := by decide +kernel
theorem dX6_isAtEndOfText_42 : decode cX6_isAtEndOfText 42 = .ok (.ireturn, 1) := by decide +kernel
set_option maxRecDepth 20000 in
theorem ggX6_placeAfter_X6_afterOpening : GoodIn wsX6_placeAfter wsX6_afterOpening := goodIn_r _ [6, 7, 8, 55, 56, 57, 58, 59, 60, 61, 62, 63, 64, 65, 66, 67] (by decide +kernel) (by decide +kernel)
set_option maxRecDepth 20000 in
theorem gX6_placeAfter_X6_afterOpening : GoodIn wsX6_placeAfter (wsV RX6 46 RX6 yX6_afterOpening wsX6_afterOpening) := goodIn_app (goodIn_of _ (by decide +kernel)) ggX6_placeAfter_X6_afterOpening
set_option maxRecDepth 20000 in
theorem ggX6_placeAfter_X6_afterFirstLetter : GoodIn wsX6_placeAfter wsX6_afterFirstLetter := goodIn_r _ [12, 7, 13, 14, 15, 16, 17, 18, 19, 20, 21, 22, 23, 24, 25, 26, 27, 28, 29, 55, 56, 57, 58, 59, 60, 61, 62, 63, 64, 65, 66, 67, 68] (by decide +kernel) (by decide +kernel)
set_option maxRecDepth 20000 in
theorem gX6_placeAfter_X6_afterFirstLetter : GoodIn wsX6_placeAfter (wsV RX6 50 RX6 yX6_afterFirstLetter wsX6_afterFirstLetter) := goodIn_app (goodIn_of _ (by decide +kernel)) ggX6_placeAfter_X6_afterFirstLetter
set_option maxRecDepth 20000 in
theorem ggX6_placeAfter_X6_afterLetter : GoodIn wsX6_placeAfter wsX6_afterLetter := goodIn_r _ [33, 13, 7, 1, 34, 35, 36, 27, 37, 29, 14, 15, 16, 38, 25, 26, 28, 55, 56, 57, 58, 59, 60, 61, 62, 63, 64, 65, 66, 67, 68] (by decide +kernel) (by decide +kernel)
set_option maxRecDepth 20000 in
theorem gX6_placeAfter_X6_afterLetter : GoodIn wsX6_placeAfter (wsV RX6 54 RX6 yX6_afterLetter wsX6_afterLetter) := goodIn_app (goodIn_of _ (by decide +kernel)) ggX6_placeAfter_X6_afterLetter
set_option maxRecDepth 20000 in
theorem ggX6_placeAfter_X6_afterFirstDigit : GoodIn wsX6_placeAfter wsX6_afterFirstDigit := goodIn_r _ [42, 7, 8, 43, 44, 45, 20, 46, 47, 48, 49, 50, 23, 24, 25, 26, 27, 28, 29, 55, 56, 57, 58, 59, 60, 61, 62, 63, 64, 65, 66, 67, 68] (by decide +kernel) (by decide +kernel)
set_option maxRecDepth 20000 in
theorem gX6_placeAfter_X6_afterFirstDigit : GoodIn wsX6_placeAfter (wsV RX6 57 RX6 yX6_afterFirstDigit wsX6_afterFirstDigit) := goodIn_app (goodIn_of _ (by decide +kernel)) ggX6_placeAfter_X6_afterFirstDigit
set_option maxRecDepth 20000 in
theorem ggX6_placeAfter_X6_afterSecondDigit : GoodIn wsX6_placeAfter wsX6_afterSecondDigit := goodIn_r _ [54, 7, 38, 25, 26, 27, 28, 29, 55, 56, 57, 58, 59, 60, 61, 62, 63, 64, 65, 66, 67, 68] (by decide +kernel) (by decide +kernel)
set_option maxRecDepth 20000 in
theorem gX6_placeAfter_X6_afterSecondDigit : GoodIn wsX6_placeAfter (wsV RX6 60 RX6 yX6_afterSecondDigit wsX6_afterSecondDigit) := goodIn_app (goodIn_of _ (by decide +kernel)) ggX6_placeAfter_X6_afterSecondDigit
theorem dX6_placeAfter_0 : decode cX6_placeAfter 0 = .ok (.aload_n 0, 1) := by decide +kernel
theorem dX6_placeAfter_1 : decode cX6_placeAfter 1 = .ok (.getfield 25, 3) := by decide +kernel
theorem dX6_placeAfter_4 : decode cX6_placeAfter 4 = .ok (.tableswitch 162 1 8 #[48, 68, 84, 91, 115, 128, 134, 150], 48) := by decide +kernel
theorem dX6_placeAfter_52 : decode cX6_placeAfter 52 = .ok (.iload_n 1, 1) := by decide +kernel
theorem dX6_placeAfter_53 : decode cX6_placeAfter 53 = .ok (.bipush 34, 2) := by decide +kernel
theorem dX6_placeAfter_55 : decode cX6_placeAfter 55 = .ok (.if_icmp .ne 10, 3) := by decide +kernel
theorem dX6_placeAfter_58 : decode cX6_placeAfter 58 = .ok (.aload_n 0, 1) := by decide +kernel
theorem dX6_placeAfter_59 : decode cX6_placeAfter 59 = .ok (.invokevirtual 46, 3) := by decide +kernel
theorem dX6_placeAfter_62 : decode cX6_placeAfter 62 = .ok (.goto 9, 3) := by decide +kernel
theorem dX6_placeAfter_65 : decode cX6_placeAfter 65 = .ok (.aload_n 0, 1) := by decide +kernel
theorem dX6_placeAfter_66 : decode cX6_placeAfter 66 = .ok (.iload_n 1, 1) := by decide +kernel
theorem dX6_placeAfter_67 : decode cX6_placeAfter 67 = .ok (.iconst 2, 1) := by decide +kernel
theorem dX6_placeAfter_68 : decode cX6_placeAfter 68 = .ok (.invokevirtual 50, 3) := by decide +kernel
theorem dX6_placeAfter_71 : decode cX6_placeAfter 71 = .ok (.ireturn, 1) := by decide +kernel
theorem dX6_placeAfter_72 : decode cX6_placeAfter 72 = .ok (.iload_n 1, 1) := by decide +kernel
theorem dX6_placeAfter_73 : decode cX6_placeAfter 73 = .ok (.bipush 32, 2) := by decide +kernel
theorem dX6_placeAfter_75 : decode cX6_placeAfter 75 = .ok (.if_icmp .ne 7, 3) := by decide +kernel
theorem dX6_placeAfter_78 : decode cX6_placeAfter 78 = .ok (.iconst 1, 1) := by decide +kernel
theorem dX6_placeAfter_79 : decode cX6_placeAfter 79 = .ok (.goto 8, 3) := by decide +kernel
theorem dX6_placeAfter_82 : decode cX6_placeAfter 82 = .ok (.aload_n 0, 1) := by decide +kernel
theorem dX6_placeAfter_83 : decode cX6_placeAfter 83 = .ok (.iload_n 1, 1) := by decide +kernel
theorem dX6_placeAfter_84 : decode cX6_placeAfter 84 = .ok (.invokevirtual 54, 3) := by decide +kernel
theorem dX6_placeAfter_87 : decode cX6_placeAfter 87 = .ok (.ireturn, 1) := by decide +kernel
theorem dX6_placeAfter_88 : decode cX6_placeAfter 88 = .ok (.aload_n 0, 1) := by decide +kernel
theorem dX6_placeAfter_89 : decode cX6_placeAfter 89 = .ok (.iload_n 1, 1) := by decide +kernel
theorem dX6_placeAfter_90 : decode cX6_placeAfter 90 = .ok (.iconst 4, 1) := by decide +kernel
theorem dX6_placeAfter_91 : decode cX6_placeAfter 91 = .ok (.invokevirtual 50, 3) := by decide +kernel
theorem dX6_placeAfter_94 : decode cX6_placeAfter 94 = .ok (.ireturn, 1) := by decide +kernel
theorem dX6_placeAfter_95 : decode cX6_placeAfter 95 = .ok (.iload_n 1, 1) := by decide +kernel
theorem dX6_placeAfter_96 : decode cX6_placeAfter 96 = .ok (.bipush 34, 2) := by decide +kernel
theorem dX6_placeAfter_98 : decode cX6_placeAfter 98 = .ok (.if_icmp .ne 5, 3) := by decide +kernel
theorem dX6_placeAfter_101 : decode cX6_placeAfter 101 = .ok (.iconst 5, 1) := by decide +kernel
theorem dX6_placeAfter_102 : decode cX6_placeAfter 102 = .ok (.ireturn, 1) := by decide +kernel
theorem dX6_placeAfter_103 : decode cX6_placeAfter 103 = .ok (.iload_n 1, 1) := by decide +kernel
theorem dX6_placeAfter_104 : decode cX6_placeAfter 104 = .ok (.bipush 32, 2) := by decide +kernel
theorem dX6_placeAfter_106 : decode cX6_placeAfter 106 = .ok (.if_icmp .ne 7, 3) := by decide +kernel
theorem dX6_placeAfter_109 : decode cX6_placeAfter 109 = .ok (.iconst 3, 1) := by decide +kernel
theorem dX6_placeAfter_110 : decode cX6_placeAfter 110 = .ok (.goto 8, 3) := by decide +kernel
theorem dX6_placeAfter_113 : decode cX6_placeAfter 113 = .ok (.aload_n 0, 1) := by decide +kernel
theorem dX6_placeAfter_114 : decode cX6_placeAfter 114 = .ok (.iload_n 1, 1) := by decide +kernel
theorem dX6_placeAfter_115 : decode cX6_placeAfter 115 = .ok (.invokevirtual 54, 3) := by decide +kernel
theorem dX6_placeAfter_118 : decode cX6_placeAfter 118 = .ok (.ireturn, 1) := by decide +kernel
theorem dX6_placeAfter_119 : decode cX6_placeAfter 119 = .ok (.iload_n 1, 1) := by decide +kernel
theorem dX6_placeAfter_120 : decode cX6_placeAfter 120 = .ok (.bipush 64, 2) := by decide +kernel
theorem dX6_placeAfter_122 : decode cX6_placeAfter 122 = .ok (.if_icmp .ne 8, 3) := by decide +kernel
theorem dX6_placeAfter_125 : decode cX6_placeAfter 125 = .ok (.bipush 6, 2) := by decide +kernel
theorem dX6_placeAfter_127 : decode cX6_placeAfter 127 = .ok (.goto 4, 3) := by decide +kernel
theorem dX6_placeAfter_130 : decode cX6_placeAfter 130 = .ok (.iconst 0, 1) := by decide +kernel
theorem dX6_placeAfter_131 : decode cX6_placeAfter 131 = .ok (.ireturn, 1) := by decide +kernel
theorem dX6_placeAfter_132 : decode cX6_placeAfter 132 = .ok (.aload_n 0, 1) := by decide +kernel
theorem dX6_placeAfter_133 : decode cX6_placeAfter 133 = .ok (.iload_n 1, 1) := by decide +kernel
theorem dX6_placeAfter_134 : decode cX6_placeAfter 134 = .ok (.invokevirtual 57, 3) := by decide +kernel
theorem dX6_placeAfter_137 : decode cX6_placeAfter 137 = .ok (.ireturn, 1) := by decide +kernel
theorem dX6_placeAfter_138 : decode cX6_placeAfter 138 = .ok (.iload_n 1, 1) := by decide +kernel
theorem dX6_placeAfter_139 : decode cX6_placeAfter 139 = .ok (.bipush 32, 2) := by decide +kernel
theorem dX6_placeAfter_141 : decode cX6_placeAfter 141 = .ok (.if_icmp .ne 7, 3) := by decide +kernel
theorem dX6_placeAfter_144 : decode cX6_placeAfter 144 = .ok (.iconst 1, 1) := by decide +kernel
theorem dX6_placeAfter_145 : decode cX6_placeAfter 145 = .ok (.goto 8, 3) := by decide +kernel
theorem dX6_placeAfter_148 : decode cX6_placeAfter 148 = .ok (.aload_n 0, 1) := by decide +kernel
theorem dX6_placeAfter_149 : decode cX6_placeAfter 149 = .ok (.iload_n 1, 1) := by decide +kernel
theorem dX6_placeAfter_150 : decode cX6_placeAfter 150 = .ok (.invokevirtual 60, 3) := by decide +kernel
theorem dX6_placeAfter_153 : decode cX6_placeAfter 153 = .ok (.ireturn, 1) := by decide +kernel
theorem dX6_placeAfter_154 : decode cX6_placeAfter 154 = .ok (.iload_n 1, 1) := by decide +kernel
theorem dX6_placeAfter_155 : decode cX6_placeAfter 155 = .ok (.bipush 32, 2) := by decide +kernel
theorem dX6_placeAfter_157 : decode cX6_placeAfter 157 = .ok (.if_icmp .ne 7, 3) := by decide +kernel
theorem dX6_placeAfter_160 : decode cX6_placeAfter 160 = .ok (.iconst 1, 1) := by decide +kernel
theorem dX6_placeAfter_161 : decode cX6_placeAfter 161 = .ok (.goto 4, 3) := by decide +kernel
theorem dX6_placeAfter_164 : decode cX6_placeAfter 164 = .ok (.iconst 0, 1) := by decide +kernel
theorem dX6_placeAfter_165 : decode cX6_placeAfter 165 = .ok (.ireturn, 1) := by decide +kernel
theorem dX6_placeAfter_166 : decode cX6_placeAfter 166 = .ok (.iconst 0, 1) := by decide +kernel
theorem dX6_placeAfter_167 : decode cX6_placeAfter 167 = .ok (.ireturn, 1) := by decide +kernel
theorem dX6_afterOpening_0 : decode cX6_afterOpening 0 = .ok (.aload_n 0, 1) := by decide +kernel
theorem dX6_afterOpening_1 : decode cX6_afterOpening 1 = .ok (.aload_n 0, 1) := by decide +kernel
theorem dX6_afterOpening_2 : decode cX6_afterOpening 2 = .ok (.getfield 12, 3) := by decide +kernel
theorem dX6_afterOpening_5 : decode cX6_afterOpening 5 = .ok (.getfield 63, 3) := by decide +kernel
theorem dX6_afterOpening_8 : decode cX6_afterOpening 8 = .ok (.putfield 66, 3) := by decide +kernel
theorem dX6_afterOpening_11 : decode cX6_afterOpening 11 = .ok (.iconst 3, 1) := by decide +kernel
theorem dX6_afterOpening_12 : decode cX6_afterOpening 12 = .ok (.ireturn, 1) := by decide +kernel
set_option maxRecDepth 20000 in
theorem ggX6_afterFirstLetter_X10_withLetter : GoodIn wsX6_afterFirstLetter wsX10_withLetter := goodIn_r _ [5] (by decide +kernel) (by decide +kernel)
set_option maxRecDepth 20000 in
theorem gX6_afterFirstLetter_X10_withLetter_n69 : GoodIn wsX6_afterFirstLetter (wsX10_withLetter) := ggX6_afterFirstLetter_X10_withLetter
set_option maxRecDepth 20000 in
theorem ggX6_afterFirstLetter_X4_addWord : GoodIn wsX6_afterFirstLetter wsX4_addWord := goodIn_r _ [10, 11, 12, 13, 14, 15, 16, 17, 18, 24, 25, 26, 27, 28, 29, 30, 31, 32] (by decide +kernel) (by decide +kernel)
set_option maxRecDepth 20000 in
theorem gX6_afterFirstLetter_X4_addWord : GoodIn wsX6_afterFirstLetter (wsV RX6 73 RX4 yX4_addWord wsX4_addWord) := goodIn_app (goodIn_of _ (by decide +kernel)) ggX6_afterFirstLetter_X4_addWord
theorem dX6_afterFirstLetter_0 : decode cX6_afterFirstLetter 0 = .ok (.iload_n 1, 1) := by decide +kernel
theorem dX6_afterFirstLetter_1 : decode cX6_afterFirstLetter 1 = .ok (.bipush 97, 2) := by decide +kernel
theorem dX6_afterFirstLetter_3 : decode cX6_afterFirstLetter 3 = .ok (.if_icmp .lt 9, 3) := by decide +kernel
theorem dX6_afterFirstLetter_6 : decode cX6_afterFirstLetter 6 = .ok (.iload_n 1, 1) := by decide +kernel
theorem dX6_afterFirstLetter_7 : decode cX6_afterFirstLetter 7 = .ok (.bipush 122, 2) := by decide +kernel
theorem dX6_afterFirstLetter_9 : decode cX6_afterFirstLetter 9 = .ok (.if_icmp .le 5, 3) := by decide +kernel
theorem dX6_afterFirstLetter_12 : decode cX6_afterFirstLetter 12 = .ok (.iconst 0, 1) := by decide +kernel
theorem dX6_afterFirstLetter_13 : decode cX6_afterFirstLetter 13 = .ok (.ireturn, 1) := by decide +kernel
theorem dX6_afterFirstLetter_14 : decode cX6_afterFirstLetter 14 = .ok (.aload_n 0, 1) := by decide +kernel
theorem dX6_afterFirstLetter_15 : decode cX6_afterFirstLetter 15 = .ok (.getfield 12, 3) := by decide +kernel
theorem dX6_afterFirstLetter_18 : decode cX6_afterFirstLetter 18 = .ok (.lconst 0, 1) := by decide +kernel
theorem dX6_afterFirstLetter_19 : decode cX6_afterFirstLetter 19 = .ok (.iconst 0, 1) := by decide +kernel
theorem dX6_afterFirstLetter_20 : decode cX6_afterFirstLetter 20 = .ok (.iload_n 1, 1) := by decide +kernel
theorem dX6_afterFirstLetter_21 : decode cX6_afterFirstLetter 21 = .ok (.invokestatic 69, 3) := by decide +kernel
theorem dX6_afterFirstLetter_24 : decode cX6_afterFirstLetter 24 = .ok (.invokevirtual 73, 3) := by decide +kernel
theorem dX6_afterFirstLetter_27 : decode cX6_afterFirstLetter 27 = .ok (.aload_n 0, 1) := by decide +kernel
theorem dX6_afterFirstLetter_28 : decode cX6_afterFirstLetter 28 = .ok (.iconst 1, 1) := by decide +kernel
theorem dX6_afterFirstLetter_29 : decode cX6_afterFirstLetter 29 = .ok (.putfield 77, 3) := by decide +kernel
theorem dX6_afterFirstLetter_32 : decode cX6_afterFirstLetter 32 = .ok (.iload_n 2, 1) := by decide +kernel
theorem dX6_afterFirstLetter_33 : decode cX6_afterFirstLetter 33 = .ok (.ireturn, 1) := by decide +kernel
set_option maxRecDepth 20000 in
theorem ggX6_afterLetter_X7_at : GoodIn wsX6_afterLetter wsX7_at := goodIn_r _ [8, 9, 30] (by decide +kernel) (by decide +kernel)
set_option maxRecDepth 20000 in
theorem gX6_afterLetter_X7_at : GoodIn wsX6_afterLetter (wsV RX6 83 RX7 yX7_at wsX7_at) := goodIn_app (goodIn_of _ (by decide +kernel)) ggX6_afterLetter_X7_at
set_option maxRecDepth 20000 in
theorem ggX6_afterLetter_X10_withLetter : GoodIn wsX6_afterLetter wsX10_withLetter := goodIn_r _ [12] (by decide +kernel) (by decide +kernel)
set_option maxRecDepth 20000 in
theorem gX6_afterLetter_X10_withLetter_n69 : GoodIn wsX6_afterLetter (wsX10_withLetter) := ggX6_afterLetter_X10_withLetter
set_option maxRecDepth 20000 in
theorem ggX6_afterLetter_X7_put : GoodIn wsX6_afterLetter wsX7_put := goodIn_r _ [16, 9, 30] (by decide +kernel) (by decide +kernel)
set_option maxRecDepth 20000 in
theorem gX6_afterLetter_X7_put : GoodIn wsX6_afterLetter (wsV RX6 87 RX7 yX7_put wsX7_put) := goodIn_app (goodIn_of _ (by decide +kernel)) ggX6_afterLetter_X7_put
theorem dX6_afterLetter_0 : decode cX6_afterLetter 0 = .ok (.iload_n 1, 1) := by decide +kernel
theorem dX6_afterLetter_1 : decode cX6_afterLetter 1 = .ok (.bipush 97, 2) := by decide +kernel
theorem dX6_afterLetter_3 : decode cX6_afterLetter 3 = .ok (.if_icmp .lt 18, 3) := by decide +kernel
theorem dX6_afterLetter_6 : decode cX6_afterLetter 6 = .ok (.iload_n 1, 1) := by decide +kernel
theorem dX6_afterLetter_7 : decode cX6_afterLetter 7 = .ok (.bipush 122, 2) := by decide +kernel
theorem dX6_afterLetter_9 : decode cX6_afterLetter 9 = .ok (.if_icmp .gt 12, 3) := by decide +kernel
theorem dX6_afterLetter_12 : decode cX6_afterLetter 12 = .ok (.aload_n 0, 1) := by decide +kernel
theorem dX6_afterLetter_13 : decode cX6_afterLetter 13 = .ok (.getfield 77, 3) := by decide +kernel
theorem dX6_afterLetter_16 : decode cX6_afterLetter 16 = .ok (.bipush 7, 2) := by decide +kernel
theorem dX6_afterLetter_18 : decode cX6_afterLetter 18 = .ok (.if_icmp .lt 5, 3) := by decide +kernel
theorem dX6_afterLetter_21 : decode cX6_afterLetter 21 = .ok (.iconst 0, 1) := by decide +kernel
theorem dX6_afterLetter_22 : decode cX6_afterLetter 22 = .ok (.ireturn, 1) := by decide +kernel
theorem dX6_afterLetter_23 : decode cX6_afterLetter 23 = .ok (.aload_n 0, 1) := by decide +kernel
theorem dX6_afterLetter_24 : decode cX6_afterLetter 24 = .ok (.getfield 12, 3) := by decide +kernel
theorem dX6_afterLetter_27 : decode cX6_afterLetter 27 = .ok (.getfield 63, 3) := by decide +kernel
theorem dX6_afterLetter_30 : decode cX6_afterLetter 30 = .ok (.iconst 1, 1) := by decide +kernel
theorem dX6_afterLetter_31 : decode cX6_afterLetter 31 = .ok (.isub, 1) := by decide +kernel
theorem dX6_afterLetter_32 : decode cX6_afterLetter 32 = .ok (.istore_n 2, 1) := by decide +kernel
theorem dX6_afterLetter_33 : decode cX6_afterLetter 33 = .ok (.aload_n 0, 1) := by decide +kernel
theorem dX6_afterLetter_34 : decode cX6_afterLetter 34 = .ok (.getfield 12, 3) := by decide +kernel
theorem dX6_afterLetter_37 : decode cX6_afterLetter 37 = .ok (.getfield 80, 3) := by decide +kernel
theorem dX6_afterLetter_40 : decode cX6_afterLetter 40 = .ok (.iload_n 2, 1) := by decide +kernel
theorem dX6_afterLetter_41 : decode cX6_afterLetter 41 = .ok (.aload_n 0, 1) := by decide +kernel
theorem dX6_afterLetter_42 : decode cX6_afterLetter 42 = .ok (.getfield 12, 3) := by decide +kernel
theorem dX6_afterLetter_45 : decode cX6_afterLetter 45 = .ok (.getfield 80, 3) := by decide +kernel
theorem dX6_afterLetter_48 : decode cX6_afterLetter 48 = .ok (.iload_n 2, 1) := by decide +kernel
theorem dX6_afterLetter_49 : decode cX6_afterLetter 49 = .ok (.invokevirtual 83, 3) := by decide +kernel
theorem dX6_afterLetter_52 : decode cX6_afterLetter 52 = .ok (.aload_n 0, 1) := by decide +kernel
theorem dX6_afterLetter_53 : decode cX6_afterLetter 53 = .ok (.getfield 77, 3) := by decide +kernel
theorem dX6_afterLetter_56 : decode cX6_afterLetter 56 = .ok (.iload_n 1, 1) := by decide +kernel
theorem dX6_afterLetter_57 : decode cX6_afterLetter 57 = .ok (.invokestatic 69, 3) := by decide +kernel
theorem dX6_afterLetter_60 : decode cX6_afterLetter 60 = .ok (.invokevirtual 87, 3) := by decide +kernel
theorem dX6_afterLetter_63 : decode cX6_afterLetter 63 = .ok (.aload_n 0, 1) := by decide +kernel
theorem dX6_afterLetter_64 : decode cX6_afterLetter 64 = .ok (.dup, 1) := by decide +kernel
theorem dX6_afterLetter_65 : decode cX6_afterLetter 65 = .ok (.getfield 77, 3) := by decide +kernel
theorem dX6_afterLetter_68 : decode cX6_afterLetter 68 = .ok (.iconst 1, 1) := by decide +kernel
theorem dX6_afterLetter_69 : decode cX6_afterLetter 69 = .ok (.iadd, 1) := by decide +kernel
theorem dX6_afterLetter_70 : decode cX6_afterLetter 70 = .ok (.putfield 77, 3) := by decide +kernel
theorem dX6_afterLetter_73 : decode cX6_afterLetter 73 = .ok (.aload_n 0, 1) := by decide +kernel
theorem dX6_afterLetter_74 : decode cX6_afterLetter 74 = .ok (.getfield 25, 3) := by decide +kernel
theorem dX6_afterLetter_77 : decode cX6_afterLetter 77 = .ok (.ireturn, 1) := by decide +kernel
set_option maxRecDepth 20000 in
theorem ggX6_afterFirstDigit_X4_addQuotation : GoodIn wsX6_afterFirstDigit wsX4_addQuotation := goodIn_r _ [7, 8, 9, 10, 11, 12, 13, 14, 15, 16, 17, 18, 24, 25, 26, 27, 28, 29, 30, 31, 32] (by decide +kernel) (by decide +kernel)
set_option maxRecDepth 20000 in
theorem gX6_afterFirstDigit_X4_addQuotation : GoodIn wsX6_afterFirstDigit (wsV RX6 91 RX4 yX4_addQuotation wsX4_addQuotation) := goodIn_app (goodIn_of _ (by decide +kernel)) ggX6_afterFirstDigit_X4_addQuotation
theorem dX6_afterFirstDigit_0 : decode cX6_afterFirstDigit 0 = .ok (.iload_n 1, 1) := by decide +kernel
theorem dX6_afterFirstDigit_1 : decode cX6_afterFirstDigit 1 = .ok (.bipush 48, 2) := by decide +kernel
theorem dX6_afterFirstDigit_3 : decode cX6_afterFirstDigit 3 = .ok (.if_icmp .lt 9, 3) := by decide +kernel
theorem dX6_afterFirstDigit_6 : decode cX6_afterFirstDigit 6 = .ok (.iload_n 1, 1) := by decide +kernel
theorem dX6_afterFirstDigit_7 : decode cX6_afterFirstDigit 7 = .ok (.bipush 57, 2) := by decide +kernel
theorem dX6_afterFirstDigit_9 : decode cX6_afterFirstDigit 9 = .ok (.if_icmp .le 5, 3) := by decide +kernel
theorem dX6_afterFirstDigit_12 : decode cX6_afterFirstDigit 12 = .ok (.iconst 0, 1) := by decide +kernel
theorem dX6_afterFirstDigit_13 : decode cX6_afterFirstDigit 13 = .ok (.ireturn, 1) := by decide +kernel
theorem dX6_afterFirstDigit_14 : decode cX6_afterFirstDigit 14 = .ok (.aload_n 0, 1) := by decide +kernel
theorem dX6_afterFirstDigit_15 : decode cX6_afterFirstDigit 15 = .ok (.getfield 12, 3) := by decide +kernel
theorem dX6_afterFirstDigit_18 : decode cX6_afterFirstDigit 18 = .ok (.iload_n 1, 1) := by decide +kernel
theorem dX6_afterFirstDigit_19 : decode cX6_afterFirstDigit 19 = .ok (.bipush 48, 2) := by decide +kernel
theorem dX6_afterFirstDigit_21 : decode cX6_afterFirstDigit 21 = .ok (.isub, 1) := by decide +kernel
theorem dX6_afterFirstDigit_22 : decode cX6_afterFirstDigit 22 = .ok (.aload_n 0, 1) := by decide +kernel
theorem dX6_afterFirstDigit_23 : decode cX6_afterFirstDigit 23 = .ok (.getfield 66, 3) := by decide +kernel
theorem dX6_afterFirstDigit_26 : decode cX6_afterFirstDigit 26 = .ok (.invokevirtual 91, 3) := by decide +kernel
theorem dX6_afterFirstDigit_29 : decode cX6_afterFirstDigit 29 = .ok (.iload_n 1, 1) := by decide +kernel
theorem dX6_afterFirstDigit_30 : decode cX6_afterFirstDigit 30 = .ok (.bipush 49, 2) := by decide +kernel
theorem dX6_afterFirstDigit_32 : decode cX6_afterFirstDigit 32 = .ok (.if_icmp .ne 8, 3) := by decide +kernel
theorem dX6_afterFirstDigit_35 : decode cX6_afterFirstDigit 35 = .ok (.bipush 7, 2) := by decide +kernel
theorem dX6_afterFirstDigit_37 : decode cX6_afterFirstDigit 37 = .ok (.goto 5, 3) := by decide +kernel
theorem dX6_afterFirstDigit_40 : decode cX6_afterFirstDigit 40 = .ok (.bipush 8, 2) := by decide +kernel
theorem dX6_afterFirstDigit_42 : decode cX6_afterFirstDigit 42 = .ok (.ireturn, 1) := by decide +kernel
set_option maxRecDepth 20000 in
theorem ggX6_afterSecondDigit_X7_put : GoodIn wsX6_afterSecondDigit wsX7_put := goodIn_r _ [6, 7, 21] (by decide +kernel) (by decide +kernel)
set_option maxRecDepth 20000 in
theorem gX6_afterSecondDigit_X7_put : GoodIn wsX6_afterSecondDigit (wsV RX6 87 RX7 yX7_put wsX7_put) := goodIn_app (goodIn_of _ (by decide +kernel)) ggX6_afterSecondDigit_X7_put
theorem dX6_afterSecondDigit_0 : decode cX6_afterSecondDigit 0 = .ok (.iload_n 1, 1) := by decide +kernel
theorem dX6_afterSecondDigit_1 : decode cX6_afterSecondDigit 1 = .ok (.bipush 48, 2) := by decide +kernel
theorem dX6_afterSecondDigit_3 : decode cX6_afterSecondDigit 3 = .ok (.if_icmp .lt 9, 3) := by decide +kernel
theorem dX6_afterSecondDigit_6 : decode cX6_afterSecondDigit 6 = .ok (.iload_n 1, 1) := by decide +kernel
theorem dX6_afterSecondDigit_7 : decode cX6_afterSecondDigit 7 = .ok (.bipush 57, 2) := by decide +kernel
theorem dX6_afterSecondDigit_9 : decode cX6_afterSecondDigit 9 = .ok (.if_icmp .le 5, 3) := by decide +kernel
theorem dX6_afterSecondDigit_12 : decode cX6_afterSecondDigit 12 = .ok (.iconst 0, 1) := by decide +kernel
theorem dX6_afterSecondDigit_13 : decode cX6_afterSecondDigit 13 = .ok (.ireturn, 1) := by decide +kernel
theorem dX6_afterSecondDigit_14 : decode cX6_afterSecondDigit 14 = .ok (.aload_n 0, 1) := by decide +kernel
theorem dX6_afterSecondDigit_15 : decode cX6_afterSecondDigit 15 = .ok (.getfield 12, 3) := by decide +kernel
theorem dX6_afterSecondDigit_18 : decode cX6_afterSecondDigit 18 = .ok (.getfield 95, 3) := by decide +kernel
theorem dX6_afterSecondDigit_21 : decode cX6_afterSecondDigit 21 = .ok (.aload_n 0, 1) := by decide +kernel
theorem dX6_afterSecondDigit_22 : decode cX6_afterSecondDigit 22 = .ok (.getfield 12, 3) := by decide +kernel
theorem dX6_afterSecondDigit_25 : decode cX6_afterSecondDigit 25 = .ok (.getfield 98, 3) := by decide +kernel
theorem dX6_afterSecondDigit_28 : decode cX6_afterSecondDigit 28 = .ok (.iconst 1, 1) := by decide +kernel
theorem dX6_afterSecondDigit_29 : decode cX6_afterSecondDigit 29 = .ok (.isub, 1) := by decide +kernel
theorem dX6_afterSecondDigit_30 : decode cX6_afterSecondDigit 30 = .ok (.bipush 10, 2) := by decide +kernel
theorem dX6_afterSecondDigit_32 : decode cX6_afterSecondDigit 32 = .ok (.iload_n 1, 1) := by decide +kernel
theorem dX6_afterSecondDigit_33 : decode cX6_afterSecondDigit 33 = .ok (.iadd, 1) := by decide +kernel
theorem dX6_afterSecondDigit_34 : decode cX6_afterSecondDigit 34 = .ok (.bipush 48, 2) := by decide +kernel
theorem dX6_afterSecondDigit_36 : decode cX6_afterSecondDigit 36 = .ok (.isub, 1) := by decide +kernel
theorem dX6_afterSecondDigit_37 : decode cX6_afterSecondDigit 37 = .ok (.i2l, 1) := by decide +kernel
theorem dX6_afterSecondDigit_38 : decode cX6_afterSecondDigit 38 = .ok (.invokevirtual 87, 3) := by decide +kernel
theorem dX6_afterSecondDigit_41 : decode cX6_afterSecondDigit 41 = .ok (.bipush 8, 2) := by decide +kernel
theorem dX6_afterSecondDigit_43 : decode cX6_afterSecondDigit 43 = .ok (.ireturn, 1) := by decide +kernel
theorem dX7_init_0 : decode cX7_init 0 = .ok (.aload_n 0, 1) := by decide +kernel
theorem dX7_init_1 : decode cX7_init 1 = .ok (.invokespecial 1, 3) := by decide +kernel
theorem dX7_init_4 : decode cX7_init 4 = .ok (.aload_n 0, 1) := by decide +kernel
theorem dX7_init_5 : decode cX7_init 5 = .ok (.iload_n 1, 1) := by decide +kernel
theorem dX7_init_6 : decode cX7_init 6 = .ok (.iconst 0, 1) := by decide +kernel
theorem dX7_init_7 : decode cX7_init 7 = .ok (.invokestatic 7, 3) := by decide +kernel
theorem dX7_init_10 : decode cX7_init 10 = .ok (.newarray .long, 2) := by decide +kernel
theorem dX7_init_12 : decode cX7_init 12 = .ok (.putfield 13, 3) := by decide +kernel
theorem dX7_init_15 : decode cX7_init 15 = .ok (.return_, 1) := by decide +kernel
theorem dX7_at_0 : decode cX7_at 0 = .ok (.iload_n 1, 1) := by decide +kernel
theorem dX7_at_1 : decode cX7_at 1 = .ok (.ifCond .lt 21, 3) := by decide +kernel
theorem dX7_at_4 : decode cX7_at 4 = .ok (.iload_n 1, 1) := by decide +kernel
theorem dX7_at_5 : decode cX7_at 5 = .ok (.aload_n 0, 1) := by decide +kernel
theorem dX7_at_6 : decode cX7_at 6 = .ok (.getfield 13, 3) := by decide +kernel
theorem dX7_at_9 : decode cX7_at 9 = .ok (.arraylength, 1) := by decide +kernel
theorem dX7_at_10 : decode cX7_at 10 = .ok (.if_icmp .ge 12, 3) := by decide +kernel
theorem dX7_at_13 : decode cX7_at 13 = .ok (.aload_n 0, 1) := by decide +kernel
theorem dX7_at_14 : decode cX7_at 14 = .ok (.getfield 13, 3) := by decide +kernel
theorem dX7_at_17 : decode cX7_at 17 = .ok (.iload_n 1, 1) := by decide +kernel
theorem dX7_at_18 : decode cX7_at 18 = .ok (.laload, 1) := by decide +kernel
theorem dX7_at_19 : decode cX7_at 19 = .ok (.goto 4, 3) := by decide +kernel
theorem dX7_at_22 : decode cX7_at 22 = .ok (.lconst 0, 1) := by decide +kernel
theorem dX7_at_23 : decode cX7_at 23 = .ok (.lreturn, 1) := by decide +kernel
theorem dX7_number_0 : decode cX7_number 0 = .ok (.iload_n 1, 1) := by decide +kernel
theorem dX7_number_1 : decode cX7_number 1 = .ok (.ifCond .lt 22, 3) := by decide +kernel
theorem dX7_number_4 : decode cX7_number 4 = .ok (.iload_n 1, 1) := by decide +kernel
theorem dX7_number_5 : decode cX7_number 5 = .ok (.aload_n 0, 1) := by decide +kernel
theorem dX7_number_6 : decode cX7_number 6 = .ok (.getfield 13, 3) := by decide +kernel
theorem dX7_number_9 : decode cX7_number 9 = .ok (.arraylength, 1) := by decide +kernel
theorem dX7_number_10 : decode cX7_number 10 = .ok (.if_icmp .ge 13, 3) := by decide +kernel
theorem dX7_number_13 : decode cX7_number 13 = .ok (.aload_n 0, 1) := by decide +kernel
theorem dX7_number_14 : decode cX7_number 14 = .ok (.getfield 13, 3) := by decide +kernel
theorem dX7_number_17 : decode cX7_number 17 = .ok (.iload_n 1, 1) := by decide +kernel
theorem dX7_number_18 : decode cX7_number 18 = .ok (.laload, 1) := by decide +kernel
theorem dX7_number_19 : decode cX7_number 19 = .ok (.l2i, 1) := by decide +kernel
theorem dX7_number_20 : decode cX7_number 20 = .ok (.goto 4, 3) := by decide +kernel
theorem dX7_number_23 : decode cX7_number 23 = .ok (.iconst 0, 1) := by decide +kernel
theorem dX7_number_24 : decode cX7_number 24 = .ok (.ireturn, 1) := by decide +kernel
theorem dX7_put_0 : decode cX7_put 0 = .ok (.iload_n 1, 1) := by decide +kernel
theorem dX7_put_1 : decode cX7_put 1 = .ok (.ifCond .lt 19, 3) := by decide +kernel
theorem dX7_put_4 : decode cX7_put 4 = .ok (.iload_n 1, 1) := by decide +kernel
theorem dX7_put_5 : decode cX7_put 5 = .ok (.aload_n 0, 1) := by decide +kernel
theorem dX7_put_6 : decode cX7_put 6 = .ok (.getfield 13, 3) := by decide +kernel
theorem dX7_put_9 : decode cX7_put 9 = .ok (.arraylength, 1) := by decide +kernel
theorem dX7_put_10 : decode cX7_put 10 = .ok (.if_icmp .ge 10, 3) := by decide +kernel
theorem dX7_put_13 : decode cX7_put 13 = .ok (.aload_n 0, 1) := by decide +kernel
theorem dX7_put_14 : decode cX7_put 14 = .ok (.getfield 13, 3) := by decide +kernel
theorem dX7_put_17 : decode cX7_put 17 = .ok (.iload_n 1, 1) := by decide +kernel
theorem dX7_put_18 : decode cX7_put 18 = .ok (.lload_n 2, 1) := by decide +kernel
theorem dX7_put_19 : decode cX7_put 19 = .ok (.lastore, 1) := by decide +kernel
theorem dX7_put_20 : decode cX7_put 20 = .ok (.return_, 1) := by decide +kernel
theorem dX7_copy_0 : decode cX7_copy 0 = .ok (.iload_n 2, 1) := by decide +kernel
theorem dX7_copy_1 : decode cX7_copy 1 = .ok (.ifCond .le 35, 3) := by decide +kernel
theorem dX7_copy_4 : decode cX7_copy 4 = .ok (.iload_n 2, 1) := by decide +kernel
theorem dX7_copy_5 : decode cX7_copy 5 = .ok (.aload_n 0, 1) := by decide +kernel
theorem dX7_copy_6 : decode cX7_copy 6 = .ok (.getfield 13, 3) := by decide +kernel
theorem dX7_copy_9 : decode cX7_copy 9 = .ok (.arraylength, 1) := by decide +kernel
theorem dX7_copy_10 : decode cX7_copy 10 = .ok (.if_icmp .gt 26, 3) := by decide +kernel
theorem dX7_copy_13 : decode cX7_copy 13 = .ok (.iload_n 2, 1) := by decide +kernel
theorem dX7_copy_14 : decode cX7_copy 14 = .ok (.aload_n 1, 1) := by decide +kernel
theorem dX7_copy_15 : decode cX7_copy 15 = .ok (.getfield 13, 3) := by decide +kernel
theorem dX7_copy_18 : decode cX7_copy 18 = .ok (.arraylength, 1) := by decide +kernel
theorem dX7_copy_19 : decode cX7_copy 19 = .ok (.if_icmp .gt 17, 3) := by decide +kernel
theorem dX7_copy_22 : decode cX7_copy 22 = .ok (.aload_n 1, 1) := by decide +kernel
theorem dX7_copy_23 : decode cX7_copy 23 = .ok (.getfield 13, 3) := by decide +kernel
theorem dX7_copy_26 : decode cX7_copy 26 = .ok (.iconst 0, 1) := by decide +kernel
theorem dX7_copy_27 : decode cX7_copy 27 = .ok (.aload_n 0, 1) := by decide +kernel
theorem dX7_copy_28 : decode cX7_copy 28 = .ok (.getfield 13, 3) := by decide +kernel
theorem dX7_copy_31 : decode cX7_copy 31 = .ok (.iconst 0, 1) := by decide +kernel
theorem dX7_copy_32 : decode cX7_copy 32 = .ok (.iload_n 2, 1) := by decide +kernel
theorem dX7_copy_33 : decode cX7_copy 33 = .ok (.invokestatic 19, 3) := by decide +kernel
theorem dX7_copy_36 : decode cX7_copy 36 = .ok (.return_, 1) := by decide +kernel
theorem dX7_move_0 : decode cX7_move 0 = .ok (.iload_n 1, 1) := by decide +kernel
theorem dX7_move_1 : decode cX7_move 1 = .ok (.ifCond .lt 47, 3) := by decide +kernel
theorem dX7_move_4 : decode cX7_move 4 = .ok (.iload_n 2, 1) := by decide +kernel
theorem dX7_move_5 : decode cX7_move 5 = .ok (.ifCond .lt 43, 3) := by decide +kernel
theorem dX7_move_8 : decode cX7_move 8 = .ok (.iload_n 3, 1) := by decide +kernel
theorem dX7_move_9 : decode cX7_move 9 = .ok (.ifCond .le 39, 3) := by decide +kernel
theorem dX7_move_12 : decode cX7_move 12 = .ok (.iload_n 3, 1) := by decide +kernel
theorem dX7_move_13 : decode cX7_move 13 = .ok (.aload_n 0, 1) := by decide +kernel
theorem dX7_move_14 : decode cX7_move 14 = .ok (.getfield 13, 3) := by decide +kernel
theorem dX7_move_17 : decode cX7_move 17 = .ok (.arraylength, 1) := by decide +kernel
theorem dX7_move_18 : decode cX7_move 18 = .ok (.iload_n 1, 1) := by decide +kernel
theorem dX7_move_19 : decode cX7_move 19 = .ok (.isub, 1) := by decide +kernel
theorem dX7_move_20 : decode cX7_move 20 = .ok (.if_icmp .gt 28, 3) := by decide +kernel
theorem dX7_move_23 : decode cX7_move 23 = .ok (.iload_n 3, 1) := by decide +kernel
theorem dX7_move_24 : decode cX7_move 24 = .ok (.aload_n 0, 1) := by decide +kernel
theorem dX7_move_25 : decode cX7_move 25 = .ok (.getfield 13, 3) := by decide +kernel
theorem dX7_move_28 : decode cX7_move 28 = .ok (.arraylength, 1) := by decide +kernel
theorem dX7_move_29 : decode cX7_move 29 = .ok (.iload_n 2, 1) := by decide +kernel
theorem dX7_move_30 : decode cX7_move 30 = .ok (.isub, 1) := by decide +kernel
theorem dX7_move_31 : decode cX7_move 31 = .ok (.if_icmp .gt 17, 3) := by decide +kernel
theorem dX7_move_34 : decode cX7_move 34 = .ok (.aload_n 0, 1) := by decide +kernel
theorem dX7_move_35 : decode cX7_move 35 = .ok (.getfield 13, 3) := by decide +kernel
theorem dX7_move_38 : decode cX7_move 38 = .ok (.iload_n 1, 1) := by decide +kernel
theorem dX7_move_39 : decode cX7_move 39 = .ok (.aload_n 0, 1) := by decide +kernel
theorem dX7_move_40 : decode cX7_move 40 = .ok (.getfield 13, 3) := by decide +kernel
theorem dX7_move_43 : decode cX7_move 43 = .ok (.iload_n 2, 1) := by decide +kernel
theorem dX7_move_44 : decode cX7_move 44 = .ok (.iload_n 3, 1) := by decide +kernel
theorem dX7_move_45 : decode cX7_move 45 = .ok (.invokestatic 19, 3) := by decide +kernel
theorem dX7_move_48 : decode cX7_move 48 = .ok (.return_, 1) := by decide +kernel
set_option maxRecDepth 20000 in
theorem ggX8_init_X7_init : GoodIn wsX8_init wsX7_init := goodIn_r _ [10, 11, 2, 3, 12, 13, 14, 15, 16, 17, 18] (by decide +kernel) (by decide +kernel)
set_option maxRecDepth 20000 in
theorem gX8_init_X7_init : GoodIn wsX8_init (wsX7_init) := ggX8_init_X7_init
theorem dX8_init_0 : decode cX8_init 0 = .ok (.aload_n 0, 1) := by decide +kernel
theorem dX8_init_1 : decode cX8_init 1 = .ok (.invokespecial 3, 3) := by decide +kernel
theorem dX8_init_4 : decode cX8_init 4 = .ok (.aload_n 0, 1) := by decide +kernel
theorem dX8_init_5 : decode cX8_init 5 = .ok (.new 9, 3) := by decide +kernel
theorem dX8_init_8 : decode cX8_init 8 = .ok (.dup, 1) := by decide +kernel
theorem dX8_init_9 : decode cX8_init 9 = .ok (.bipush 61, 2) := by decide +kernel
theorem dX8_init_11 : decode cX8_init 11 = .ok (.invokespecial 11, 3) := by decide +kernel
theorem dX8_init_14 : decode cX8_init 14 = .ok (.putfield 14, 3) := by decide +kernel
theorem dX8_init_17 : decode cX8_init 17 = .ok (.return_, 1) := by decide +kernel
set_option maxRecDepth 20000 in
theorem ggX8_byTable_X7_number : GoodIn wsX8_byTable wsX7_number := goodIn_r _ [6, 7, 44] (by decide +kernel) (by decide +kernel)
set_option maxRecDepth 20000 in
theorem gX8_byTable_X7_number : GoodIn wsX8_byTable (wsV RX8 25 RX7 yX7_number wsX7_number) := goodIn_app (goodIn_of _ (by decide +kernel)) ggX8_byTable_X7_number
set_option maxRecDepth 20000 in
theorem ggX8_byTable_X7_put : GoodIn wsX8_byTable wsX7_put := goodIn_r _ [11, 7, 44] (by decide +kernel) (by decide +kernel)
set_option maxRecDepth 20000 in
theorem gX8_byTable_X7_put : GoodIn wsX8_byTable (wsV RX8 36 RX7 yX7_put wsX7_put) := goodIn_app (goodIn_of _ (by decide +kernel)) ggX8_byTable_X7_put
set_option maxRecDepth 20000 in
theorem ggX8_byTable_X7_at : GoodIn wsX8_byTable wsX7_at := goodIn_r _ [15, 7, 44] (by decide +kernel) (by decide +kernel)
set_option maxRecDepth 20000 in
theorem gX8_byTable_X7_at : GoodIn wsX8_byTable (wsV RX8 43 RX7 yX7_at wsX7_at) := goodIn_app (goodIn_of _ (by decide +kernel)) ggX8_byTable_X7_at
set_option maxRecDepth 20000 in
theorem ggX8_byTable_X8_takeWord : GoodIn wsX8_byTable wsX8_takeWord := goodIn_r _ [20, 1, 21, 22, 23, 24, 2, 3, 4, 5, 6, 7, 8, 9, 10, 11, 12, 13, 14, 15, 40, 41, 42, 43, 32, 33, 34, 35, 36, 37, 38, 39, 44] (by decide +kernel) (by decide +kernel)
set_option maxRecDepth 20000 in
theorem gX8_byTable_X8_takeWord : GoodIn wsX8_byTable (wsV RX8 47 RX8 yX8_takeWord wsX8_takeWord) := goodIn_app (goodIn_of _ (by decide +kernel)) ggX8_byTable_X8_takeWord
set_option maxRecDepth 20000 in
theorem ggX8_byTable_X8_chooseEnd : GoodIn wsX8_byTable wsX8_chooseEnd := goodIn_r _ [28, 1, 29, 30, 31, 2, 3, 4, 5, 6, 7, 40, 41, 42, 43, 44] (by decide +kernel) (by decide +kernel)
set_option maxRecDepth 20000 in
theorem gX8_byTable_X8_chooseEnd : GoodIn wsX8_byTable (wsV RX8 51 RX8 yX8_chooseEnd wsX8_chooseEnd) := goodIn_app (goodIn_of _ (by decide +kernel)) ggX8_byTable_X8_chooseEnd
theorem dX8_byTable_0 : decode cX8_byTable 0 = .ok (.aload_n 1, 1) := by decide +kernel
theorem dX8_byTable_1 : decode cX8_byTable 1 = .ok (.getfield 20, 3) := by decide +kernel
theorem dX8_byTable_4 : decode cX8_byTable 4 = .ok (.iload_n 2, 1) := by decide +kernel
theorem dX8_byTable_5 : decode cX8_byTable 5 = .ok (.invokevirtual 25, 3) := by decide +kernel
theorem dX8_byTable_8 : decode cX8_byTable 8 = .ok (.istore 4, 2) := by decide +kernel
theorem dX8_byTable_10 : decode cX8_byTable 10 = .ok (.iload 4, 2) := by decide +kernel
theorem dX8_byTable_12 : decode cX8_byTable 12 = .ok (.aload_n 1, 1) := by decide +kernel
theorem dX8_byTable_13 : decode cX8_byTable 13 = .ok (.getfield 29, 3) := by decide +kernel
theorem dX8_byTable_16 : decode cX8_byTable 16 = .ok (.iload_n 2, 1) := by decide +kernel
theorem dX8_byTable_17 : decode cX8_byTable 17 = .ok (.invokevirtual 25, 3) := by decide +kernel
theorem dX8_byTable_20 : decode cX8_byTable 20 = .ok (.iadd, 1) := by decide +kernel
theorem dX8_byTable_21 : decode cX8_byTable 21 = .ok (.istore 5, 2) := by decide +kernel
theorem dX8_byTable_23 : decode cX8_byTable 23 = .ok (.iconst 0, 1) := by decide +kernel
theorem dX8_byTable_24 : decode cX8_byTable 24 = .ok (.istore 6, 2) := by decide +kernel
theorem dX8_byTable_26 : decode cX8_byTable 26 = .ok (.iload 6, 2) := by decide +kernel
theorem dX8_byTable_28 : decode cX8_byTable 28 = .ok (.aload_n 3, 1) := by decide +kernel
theorem dX8_byTable_29 : decode cX8_byTable 29 = .ok (.getfield 32, 3) := by decide +kernel
theorem dX8_byTable_32 : decode cX8_byTable 32 = .ok (.if_icmp .gt 21, 3) := by decide +kernel
theorem dX8_byTable_35 : decode cX8_byTable 35 = .ok (.aload_n 0, 1) := by decide +kernel
theorem dX8_byTable_36 : decode cX8_byTable 36 = .ok (.getfield 14, 3) := by decide +kernel
theorem dX8_byTable_39 : decode cX8_byTable 39 = .ok (.iload 6, 2) := by decide +kernel
theorem dX8_byTable_41 : decode cX8_byTable 41 = .ok (.iload 6, 2) := by decide +kernel
theorem dX8_byTable_43 : decode cX8_byTable 43 = .ok (.i2l, 1) := by decide +kernel
theorem dX8_byTable_44 : decode cX8_byTable 44 = .ok (.invokevirtual 36, 3) := by decide +kernel
theorem dX8_byTable_47 : decode cX8_byTable 47 = .ok (.iinc 6 1, 3) := by decide +kernel
theorem dX8_byTable_50 : decode cX8_byTable 50 = .ok (.goto (-24), 3) := by decide +kernel
theorem dX8_byTable_53 : decode cX8_byTable 53 = .ok (.iload 4, 2) := by decide +kernel
theorem dX8_byTable_55 : decode cX8_byTable 55 = .ok (.istore 6, 2) := by decide +kernel
theorem dX8_byTable_57 : decode cX8_byTable 57 = .ok (.iload 6, 2) := by decide +kernel
theorem dX8_byTable_59 : decode cX8_byTable 59 = .ok (.iload 5, 2) := by decide +kernel
theorem dX8_byTable_61 : decode cX8_byTable 61 = .ok (.if_icmp .ge 28, 3) := by decide +kernel
theorem dX8_byTable_64 : decode cX8_byTable 64 = .ok (.aload_n 0, 1) := by decide +kernel
theorem dX8_byTable_65 : decode cX8_byTable 65 = .ok (.aload_n 1, 1) := by decide +kernel
theorem dX8_byTable_66 : decode cX8_byTable 66 = .ok (.getfield 40, 3) := by decide +kernel
theorem dX8_byTable_69 : decode cX8_byTable 69 = .ok (.iload 6, 2) := by decide +kernel
theorem dX8_byTable_71 : decode cX8_byTable 71 = .ok (.invokevirtual 43, 3) := by decide +kernel
theorem dX8_byTable_74 : decode cX8_byTable 74 = .ok (.aload_n 3, 1) := by decide +kernel
theorem dX8_byTable_75 : decode cX8_byTable 75 = .ok (.iconst 0, 1) := by decide +kernel
theorem dX8_byTable_76 : decode cX8_byTable 76 = .ok (.aload_n 3, 1) := by decide +kernel
theorem dX8_byTable_77 : decode cX8_byTable 77 = .ok (.getfield 32, 3) := by decide +kernel
theorem dX8_byTable_80 : decode cX8_byTable 80 = .ok (.invokevirtual 47, 3) := by decide +kernel
theorem dX8_byTable_83 : decode cX8_byTable 83 = .ok (.iinc 6 1, 3) := by decide +kernel
theorem dX8_byTable_86 : decode cX8_byTable 86 = .ok (.goto (-29), 3) := by decide +kernel
theorem dX8_byTable_89 : decode cX8_byTable 89 = .ok (.aload_n 0, 1) := by decide +kernel
theorem dX8_byTable_90 : decode cX8_byTable 90 = .ok (.aload_n 3, 1) := by decide +kernel
theorem dX8_byTable_91 : decode cX8_byTable 91 = .ok (.getfield 32, 3) := by decide +kernel
theorem dX8_byTable_94 : decode cX8_byTable 94 = .ok (.invokevirtual 51, 3) := by decide +kernel
theorem dX8_byTable_97 : decode cX8_byTable 97 = .ok (.return_, 1) := by decide +kernel
set_option maxRecDepth 20000 in
theorem ggX8_chooseEnd_X7_number : GoodIn wsX8_chooseEnd wsX7_number := goodIn_r _ [9, 10, 15] (by decide +kernel) (by decide +kernel)
set_option maxRecDepth 20000 in
theorem gX8_chooseEnd_X7_number : GoodIn wsX8_chooseEnd (wsV RX8 25 RX7 yX7_number wsX7_number) := goodIn_app (goodIn_of _ (by decide +kernel)) ggX8_chooseEnd_X7_number
theorem dX8_chooseEnd_0 : decode cX8_chooseEnd 0 = .ok (.iconst 1, 1) := by decide +kernel
theorem dX8_chooseEnd_1 : decode cX8_chooseEnd 1 = .ok (.istore_n 2, 1) := by decide +kernel
theorem dX8_chooseEnd_2 : decode cX8_chooseEnd 2 = .ok (.iconst 2, 1) := by decide +kernel
theorem dX8_chooseEnd_3 : decode cX8_chooseEnd 3 = .ok (.istore_n 3, 1) := by decide +kernel
theorem dX8_chooseEnd_4 : decode cX8_chooseEnd 4 = .ok (.iload_n 3, 1) := by decide +kernel
theorem dX8_chooseEnd_5 : decode cX8_chooseEnd 5 = .ok (.iload_n 1, 1) := by decide +kernel
theorem dX8_chooseEnd_6 : decode cX8_chooseEnd 6 = .ok (.if_icmp .gt 30, 3) := by decide +kernel
theorem dX8_chooseEnd_9 : decode cX8_chooseEnd 9 = .ok (.aload_n 0, 1) := by decide +kernel
theorem dX8_chooseEnd_10 : decode cX8_chooseEnd 10 = .ok (.getfield 14, 3) := by decide +kernel
theorem dX8_chooseEnd_13 : decode cX8_chooseEnd 13 = .ok (.iload_n 3, 1) := by decide +kernel
theorem dX8_chooseEnd_14 : decode cX8_chooseEnd 14 = .ok (.invokevirtual 25, 3) := by decide +kernel
theorem dX8_chooseEnd_17 : decode cX8_chooseEnd 17 = .ok (.aload_n 0, 1) := by decide +kernel
theorem dX8_chooseEnd_18 : decode cX8_chooseEnd 18 = .ok (.getfield 14, 3) := by decide +kernel
theorem dX8_chooseEnd_21 : decode cX8_chooseEnd 21 = .ok (.iload_n 2, 1) := by decide +kernel
theorem dX8_chooseEnd_22 : decode cX8_chooseEnd 22 = .ok (.invokevirtual 25, 3) := by decide +kernel
theorem dX8_chooseEnd_25 : decode cX8_chooseEnd 25 = .ok (.if_icmp .ge 5, 3) := by decide +kernel
theorem dX8_chooseEnd_28 : decode cX8_chooseEnd 28 = .ok (.iload_n 3, 1) := by decide +kernel
theorem dX8_chooseEnd_29 : decode cX8_chooseEnd 29 = .ok (.istore_n 2, 1) := by decide +kernel
theorem dX8_chooseEnd_30 : decode cX8_chooseEnd 30 = .ok (.iinc 3 1, 3) := by decide +kernel
theorem dX8_chooseEnd_33 : decode cX8_chooseEnd 33 = .ok (.goto (-29), 3) := by decide +kernel
theorem dX8_chooseEnd_36 : decode cX8_chooseEnd 36 = .ok (.aload_n 0, 1) := by decide +kernel
theorem dX8_chooseEnd_37 : decode cX8_chooseEnd 37 = .ok (.getfield 14, 3) := by decide +kernel
theorem dX8_chooseEnd_40 : decode cX8_chooseEnd 40 = .ok (.iload_n 2, 1) := by decide +kernel
theorem dX8_chooseEnd_41 : decode cX8_chooseEnd 41 = .ok (.invokevirtual 25, 3) := by decide +kernel
theorem dX8_chooseEnd_44 : decode cX8_chooseEnd 44 = .ok (.istore_n 3, 1) := by decide +kernel
theorem dX8_chooseEnd_45 : decode cX8_chooseEnd 45 = .ok (.aload_n 0, 1) := by decide +kernel
theorem dX8_chooseEnd_46 : decode cX8_chooseEnd 46 = .ok (.iload_n 3, 1) := by decide +kernel
theorem dX8_chooseEnd_47 : decode cX8_chooseEnd 47 = .ok (.bipush 64, 2) := by decide +kernel
theorem dX8_chooseEnd_49 : decode cX8_chooseEnd 49 = .ok (.idiv, 1) := by decide +kernel
theorem dX8_chooseEnd_50 : decode cX8_chooseEnd 50 = .ok (.putfield 54, 3) := by decide +kernel
theorem dX8_chooseEnd_53 : decode cX8_chooseEnd 53 = .ok (.aload_n 0, 1) := by decide +kernel
theorem dX8_chooseEnd_54 : decode cX8_chooseEnd 54 = .ok (.iload_n 3, 1) := by decide +kernel
theorem dX8_chooseEnd_55 : decode cX8_chooseEnd 55 = .ok (.bipush 64, 2) := by decide +kernel
theorem dX8_chooseEnd_57 : decode cX8_chooseEnd 57 = .ok (.irem, 1) := by decide +kernel
theorem dX8_chooseEnd_58 : decode cX8_chooseEnd 58 = .ok (.putfield 57, 3) := by decide +kernel
theorem dX8_chooseEnd_61 : decode cX8_chooseEnd 61 = .ok (.aload_n 0, 1) := by decide +kernel
theorem dX8_chooseEnd_62 : decode cX8_chooseEnd 62 = .ok (.iload_n 2, 1) := by decide +kernel
theorem dX8_chooseEnd_63 : decode cX8_chooseEnd 63 = .ok (.aload_n 0, 1) := by decide +kernel
theorem dX8_chooseEnd_64 : decode cX8_chooseEnd 64 = .ok (.getfield 57, 3) := by decide +kernel
theorem dX8_chooseEnd_67 : decode cX8_chooseEnd 67 = .ok (.isub, 1) := by decide +kernel
theorem dX8_chooseEnd_68 : decode cX8_chooseEnd 68 = .ok (.putfield 60, 3) := by decide +kernel
theorem dX8_chooseEnd_71 : decode cX8_chooseEnd 71 = .ok (.return_, 1) := by decide +kernel
set_option maxRecDepth 20000 in
theorem ggX8_byPassages_X7_number : GoodIn wsX8_byPassages wsX7_number := goodIn_r _ [9, 10, 37] (by decide +kernel) (by decide +kernel)
set_option maxRecDepth 20000 in
theorem gX8_byPassages_X7_number : GoodIn wsX8_byPassages (wsV RX8 25 RX7 yX7_number wsX7_number) := goodIn_app (goodIn_of _ (by decide +kernel)) ggX8_byPassages_X7_number
set_option maxRecDepth 20000 in
theorem ggX8_byPassages_X8_leastFrom : GoodIn wsX8_byPassages wsX8_leastFrom := goodIn_r _ [15, 16, 1, 2, 3, 4, 5, 6, 7, 8, 9, 10, 17, 18, 19, 20, 21, 22, 23, 24, 25, 26, 27, 14, 28, 29, 30, 31, 32, 33, 34, 35, 36, 38, 39, 40, 41, 37] (by decide +kernel) (by decide +kernel)
set_option maxRecDepth 20000 in
theorem gX8_byPassages_X8_leastFrom : GoodIn wsX8_byPassages (wsV RX8 63 RX8 yX8_leastFrom wsX8_leastFrom) := goodIn_app (goodIn_of _ (by decide +kernel)) ggX8_byPassages_X8_leastFrom
theorem dX8_byPassages_0 : decode cX8_byPassages 0 = .ok (.aload_n 1, 1) := by decide +kernel
theorem dX8_byPassages_1 : decode cX8_byPassages 1 = .ok (.getfield 29, 3) := by decide +kernel
theorem dX8_byPassages_4 : decode cX8_byPassages 4 = .ok (.iload_n 2, 1) := by decide +kernel
theorem dX8_byPassages_5 : decode cX8_byPassages 5 = .ok (.invokevirtual 25, 3) := by decide +kernel
theorem dX8_byPassages_8 : decode cX8_byPassages 8 = .ok (.istore 4, 2) := by decide +kernel
theorem dX8_byPassages_10 : decode cX8_byPassages 10 = .ok (.iload 4, 2) := by decide +kernel
theorem dX8_byPassages_12 : decode cX8_byPassages 12 = .ok (.istore 5, 2) := by decide +kernel
theorem dX8_byPassages_14 : decode cX8_byPassages 14 = .ok (.iconst 0, 1) := by decide +kernel
theorem dX8_byPassages_15 : decode cX8_byPassages 15 = .ok (.istore 6, 2) := by decide +kernel
theorem dX8_byPassages_17 : decode cX8_byPassages 17 = .ok (.iload 6, 2) := by decide +kernel
theorem dX8_byPassages_19 : decode cX8_byPassages 19 = .ok (.aload_n 3, 1) := by decide +kernel
theorem dX8_byPassages_20 : decode cX8_byPassages 20 = .ok (.getfield 32, 3) := by decide +kernel
theorem dX8_byPassages_23 : decode cX8_byPassages 23 = .ok (.if_icmp .ge 25, 3) := by decide +kernel
theorem dX8_byPassages_26 : decode cX8_byPassages 26 = .ok (.iload 5, 2) := by decide +kernel
theorem dX8_byPassages_28 : decode cX8_byPassages 28 = .ok (.aload_n 0, 1) := by decide +kernel
theorem dX8_byPassages_29 : decode cX8_byPassages 29 = .ok (.iload 6, 2) := by decide +kernel
theorem dX8_byPassages_31 : decode cX8_byPassages 31 = .ok (.aload_n 1, 1) := by decide +kernel
theorem dX8_byPassages_32 : decode cX8_byPassages 32 = .ok (.iload_n 2, 1) := by decide +kernel
theorem dX8_byPassages_33 : decode cX8_byPassages 33 = .ok (.aload_n 3, 1) := by decide +kernel
theorem dX8_byPassages_34 : decode cX8_byPassages 34 = .ok (.invokevirtual 63, 3) := by decide +kernel
theorem dX8_byPassages_37 : decode cX8_byPassages 37 = .ok (.invokestatic 67, 3) := by decide +kernel
theorem dX8_byPassages_40 : decode cX8_byPassages 40 = .ok (.istore 5, 2) := by decide +kernel
theorem dX8_byPassages_42 : decode cX8_byPassages 42 = .ok (.iinc 6 1, 3) := by decide +kernel
theorem dX8_byPassages_45 : decode cX8_byPassages 45 = .ok (.goto (-28), 3) := by decide +kernel
theorem dX8_byPassages_48 : decode cX8_byPassages 48 = .ok (.iload 5, 2) := by decide +kernel
theorem dX8_byPassages_50 : decode cX8_byPassages 50 = .ok (.ireturn, 1) := by decide +kernel
set_option maxRecDepth 20000 in
theorem ggX8_leastFrom_X7_number : GoodIn wsX8_leastFrom wsX7_number := goodIn_r _ [10, 11, 37] (by decide +kernel) (by decide +kernel)
set_option maxRecDepth 20000 in
theorem gX8_leastFrom_X7_number : GoodIn wsX8_leastFrom (wsV RX8 25 RX7 yX7_number wsX7_number) := goodIn_app (goodIn_of _ (by decide +kernel)) ggX8_leastFrom_X7_number
set_option maxRecDepth 20000 in
theorem ggX8_leastFrom_X7_put : GoodIn wsX8_leastFrom wsX7_put := goodIn_r _ [15, 11, 37] (by decide +kernel) (by decide +kernel)
set_option maxRecDepth 20000 in
theorem gX8_leastFrom_X7_put : GoodIn wsX8_leastFrom (wsV RX8 36 RX7 yX7_put wsX7_put) := goodIn_app (goodIn_of _ (by decide +kernel)) ggX8_leastFrom_X7_put
set_option maxRecDepth 20000 in
theorem ggX8_leastFrom_X7_at : GoodIn wsX8_leastFrom wsX7_at := goodIn_r _ [19, 11, 37] (by decide +kernel) (by decide +kernel)
set_option maxRecDepth 20000 in
theorem gX8_leastFrom_X7_at : GoodIn wsX8_leastFrom (wsV RX8 43 RX7 yX7_at wsX7_at) := goodIn_app (goodIn_of _ (by decide +kernel)) ggX8_leastFrom_X7_at
set_option maxRecDepth 20000 in
theorem ggX8_leastFrom_X8_takeWord : GoodIn wsX8_leastFrom wsX8_takeWord := goodIn_r _ [24, 1, 2, 3, 4, 5, 6, 7, 8, 9, 10, 11, 12, 13, 14, 15, 16, 17, 18, 19, 33, 34, 35, 36, 25, 26, 27, 28, 29, 30, 31, 32, 37] (by decide +kernel) (by decide +kernel)
set_option maxRecDepth 20000 in
theorem gX8_leastFrom_X8_takeWord : GoodIn wsX8_leastFrom (wsV RX8 47 RX8 yX8_takeWord wsX8_takeWord) := goodIn_app (goodIn_of _ (by decide +kernel)) ggX8_leastFrom_X8_takeWord
theorem dX8_leastFrom_0 : decode cX8_leastFrom 0 = .ok (.aload_n 2, 1) := by decide +kernel
theorem dX8_leastFrom_1 : decode cX8_leastFrom 1 = .ok (.getfield 20, 3) := by decide +kernel
theorem dX8_leastFrom_4 : decode cX8_leastFrom 4 = .ok (.iload_n 3, 1) := by decide +kernel
theorem dX8_leastFrom_5 : decode cX8_leastFrom 5 = .ok (.invokevirtual 25, 3) := by decide +kernel
theorem dX8_leastFrom_8 : decode cX8_leastFrom 8 = .ok (.istore 5, 2) := by decide +kernel
theorem dX8_leastFrom_10 : decode cX8_leastFrom 10 = .ok (.aload_n 2, 1) := by decide +kernel
theorem dX8_leastFrom_11 : decode cX8_leastFrom 11 = .ok (.getfield 29, 3) := by decide +kernel
theorem dX8_leastFrom_14 : decode cX8_leastFrom 14 = .ok (.iload_n 3, 1) := by decide +kernel
theorem dX8_leastFrom_15 : decode cX8_leastFrom 15 = .ok (.invokevirtual 25, 3) := by decide +kernel
theorem dX8_leastFrom_18 : decode cX8_leastFrom 18 = .ok (.istore 6, 2) := by decide +kernel
theorem dX8_leastFrom_20 : decode cX8_leastFrom 20 = .ok (.iconst 0, 1) := by decide +kernel
theorem dX8_leastFrom_21 : decode cX8_leastFrom 21 = .ok (.istore 7, 2) := by decide +kernel
theorem dX8_leastFrom_23 : decode cX8_leastFrom 23 = .ok (.iload 7, 2) := by decide +kernel
theorem dX8_leastFrom_25 : decode cX8_leastFrom 25 = .ok (.iload 6, 2) := by decide +kernel
theorem dX8_leastFrom_27 : decode cX8_leastFrom 27 = .ok (.if_icmp .gt 24, 3) := by decide +kernel
theorem dX8_leastFrom_30 : decode cX8_leastFrom 30 = .ok (.aload_n 0, 1) := by decide +kernel
theorem dX8_leastFrom_31 : decode cX8_leastFrom 31 = .ok (.getfield 14, 3) := by decide +kernel
theorem dX8_leastFrom_34 : decode cX8_leastFrom 34 = .ok (.iload 7, 2) := by decide +kernel
theorem dX8_leastFrom_36 : decode cX8_leastFrom 36 = .ok (.iload 7, 2) := by decide +kernel
theorem dX8_leastFrom_38 : decode cX8_leastFrom 38 = .ok (.bipush 64, 2) := by decide +kernel
theorem dX8_leastFrom_40 : decode cX8_leastFrom 40 = .ok (.imul, 1) := by decide +kernel
theorem dX8_leastFrom_41 : decode cX8_leastFrom 41 = .ok (.i2l, 1) := by decide +kernel
theorem dX8_leastFrom_42 : decode cX8_leastFrom 42 = .ok (.invokevirtual 36, 3) := by decide +kernel
theorem dX8_leastFrom_45 : decode cX8_leastFrom 45 = .ok (.iinc 7 1, 3) := by decide +kernel
theorem dX8_leastFrom_48 : decode cX8_leastFrom 48 = .ok (.goto (-25), 3) := by decide +kernel
theorem dX8_leastFrom_51 : decode cX8_leastFrom 51 = .ok (.iload 6, 2) := by decide +kernel
theorem dX8_leastFrom_53 : decode cX8_leastFrom 53 = .ok (.istore 7, 2) := by decide +kernel
theorem dX8_leastFrom_55 : decode cX8_leastFrom 55 = .ok (.iload_n 1, 1) := by decide +kernel
theorem dX8_leastFrom_56 : decode cX8_leastFrom 56 = .ok (.istore 8, 2) := by decide +kernel
theorem dX8_leastFrom_58 : decode cX8_leastFrom 58 = .ok (.iload 8, 2) := by decide +kernel
theorem dX8_leastFrom_60 : decode cX8_leastFrom 60 = .ok (.aload 4, 2) := by decide +kernel
theorem dX8_leastFrom_62 : decode cX8_leastFrom 62 = .ok (.getfield 32, 3) := by decide +kernel
theorem dX8_leastFrom_65 : decode cX8_leastFrom 65 = .ok (.if_icmp .ge 47, 3) := by decide +kernel
theorem dX8_leastFrom_68 : decode cX8_leastFrom 68 = .ok (.aload_n 0, 1) := by decide +kernel
theorem dX8_leastFrom_69 : decode cX8_leastFrom 69 = .ok (.aload 4, 2) := by decide +kernel
theorem dX8_leastFrom_71 : decode cX8_leastFrom 71 = .ok (.getfield 40, 3) := by decide +kernel
theorem dX8_leastFrom_74 : decode cX8_leastFrom 74 = .ok (.iload 8, 2) := by decide +kernel
theorem dX8_leastFrom_76 : decode cX8_leastFrom 76 = .ok (.invokevirtual 43, 3) := by decide +kernel
theorem dX8_leastFrom_79 : decode cX8_leastFrom 79 = .ok (.aload_n 2, 1) := by decide +kernel
theorem dX8_leastFrom_80 : decode cX8_leastFrom 80 = .ok (.iload 5, 2) := by decide +kernel
theorem dX8_leastFrom_82 : decode cX8_leastFrom 82 = .ok (.iload 6, 2) := by decide +kernel
theorem dX8_leastFrom_84 : decode cX8_leastFrom 84 = .ok (.invokevirtual 47, 3) := by decide +kernel
theorem dX8_leastFrom_87 : decode cX8_leastFrom 87 = .ok (.iload 7, 2) := by decide +kernel
theorem dX8_leastFrom_89 : decode cX8_leastFrom 89 = .ok (.aload_n 0, 1) := by decide +kernel
theorem dX8_leastFrom_90 : decode cX8_leastFrom 90 = .ok (.getfield 14, 3) := by decide +kernel
theorem dX8_leastFrom_93 : decode cX8_leastFrom 93 = .ok (.iload 6, 2) := by decide +kernel
theorem dX8_leastFrom_95 : decode cX8_leastFrom 95 = .ok (.invokevirtual 25, 3) := by decide +kernel
theorem dX8_leastFrom_98 : decode cX8_leastFrom 98 = .ok (.bipush 64, 2) := by decide +kernel
theorem dX8_leastFrom_100 : decode cX8_leastFrom 100 = .ok (.idiv, 1) := by decide +kernel
theorem dX8_leastFrom_101 : decode cX8_leastFrom 101 = .ok (.invokestatic 67, 3) := by decide +kernel
theorem dX8_leastFrom_104 : decode cX8_leastFrom 104 = .ok (.istore 7, 2) := by decide +kernel
theorem dX8_leastFrom_106 : decode cX8_leastFrom 106 = .ok (.iinc 8 1, 3) := by decide +kernel
theorem dX8_leastFrom_109 : decode cX8_leastFrom 109 = .ok (.goto (-51), 3) := by decide +kernel
theorem dX8_leastFrom_112 : decode cX8_leastFrom 112 = .ok (.iload 7, 2) := by decide +kernel
theorem dX8_leastFrom_114 : decode cX8_leastFrom 114 = .ok (.ireturn, 1) := by decide +kernel
set_option maxRecDepth 20000 in
theorem ggX8_takeWord_X7_number : GoodIn wsX8_takeWord wsX7_number := goodIn_r _ [10, 11, 32] (by decide +kernel) (by decide +kernel)
set_option maxRecDepth 20000 in
theorem gX8_takeWord_X7_number : GoodIn wsX8_takeWord (wsV RX8 25 RX7 yX7_number wsX7_number) := goodIn_app (goodIn_of _ (by decide +kernel)) ggX8_takeWord_X7_number
set_option maxRecDepth 20000 in
theorem ggX8_takeWord_X7_put : GoodIn wsX8_takeWord wsX7_put := goodIn_r _ [15, 11, 32] (by decide +kernel) (by decide +kernel)
set_option maxRecDepth 20000 in
theorem gX8_takeWord_X7_put : GoodIn wsX8_takeWord (wsV RX8 36 RX7 yX7_put wsX7_put) := goodIn_app (goodIn_of _ (by decide +kernel)) ggX8_takeWord_X7_put
set_option maxRecDepth 20000 in
theorem ggX8_takeWord_X7_at : GoodIn wsX8_takeWord wsX7_at := goodIn_r _ [19, 11, 32] (by decide +kernel) (by decide +kernel)
set_option maxRecDepth 20000 in
theorem gX8_takeWord_X7_at : GoodIn wsX8_takeWord (wsV RX8 43 RX7 yX7_at wsX7_at) := goodIn_app (goodIn_of _ (by decide +kernel)) ggX8_takeWord_X7_at
theorem dX8_takeWord_0 : decode cX8_takeWord 0 = .ok (.aload_n 0, 1) := by decide +kernel
theorem dX8_takeWord_1 : decode cX8_takeWord 1 = .ok (.getfield 14, 3) := by decide +kernel
theorem dX8_takeWord_4 : decode cX8_takeWord 4 = .ok (.iconst 0, 1) := by decide +kernel
theorem dX8_takeWord_5 : decode cX8_takeWord 5 = .ok (.invokevirtual 25, 3) := by decide +kernel
theorem dX8_takeWord_8 : decode cX8_takeWord 8 = .ok (.istore 6, 2) := by decide +kernel
theorem dX8_takeWord_10 : decode cX8_takeWord 10 = .ok (.iload 6, 2) := by decide +kernel
theorem dX8_takeWord_12 : decode cX8_takeWord 12 = .ok (.bipush 64, 2) := by decide +kernel
theorem dX8_takeWord_14 : decode cX8_takeWord 14 = .ok (.iadd, 1) := by decide +kernel
theorem dX8_takeWord_15 : decode cX8_takeWord 15 = .ok (.istore 7, 2) := by decide +kernel
theorem dX8_takeWord_17 : decode cX8_takeWord 17 = .ok (.aload_n 0, 1) := by decide +kernel
theorem dX8_takeWord_18 : decode cX8_takeWord 18 = .ok (.getfield 14, 3) := by decide +kernel
theorem dX8_takeWord_21 : decode cX8_takeWord 21 = .ok (.iconst 0, 1) := by decide +kernel
theorem dX8_takeWord_22 : decode cX8_takeWord 22 = .ok (.iload 7, 2) := by decide +kernel
theorem dX8_takeWord_24 : decode cX8_takeWord 24 = .ok (.i2l, 1) := by decide +kernel
theorem dX8_takeWord_25 : decode cX8_takeWord 25 = .ok (.invokevirtual 36, 3) := by decide +kernel
theorem dX8_takeWord_28 : decode cX8_takeWord 28 = .ok (.iconst 1, 1) := by decide +kernel
theorem dX8_takeWord_29 : decode cX8_takeWord 29 = .ok (.istore 8, 2) := by decide +kernel
theorem dX8_takeWord_31 : decode cX8_takeWord 31 = .ok (.iload 8, 2) := by decide +kernel
theorem dX8_takeWord_33 : decode cX8_takeWord 33 = .ok (.iload 5, 2) := by decide +kernel
theorem dX8_takeWord_35 : decode cX8_takeWord 35 = .ok (.if_icmp .gt 84, 3) := by decide +kernel
theorem dX8_takeWord_38 : decode cX8_takeWord 38 = .ok (.aload_n 0, 1) := by decide +kernel
theorem dX8_takeWord_39 : decode cX8_takeWord 39 = .ok (.getfield 14, 3) := by decide +kernel
theorem dX8_takeWord_42 : decode cX8_takeWord 42 = .ok (.iload 8, 2) := by decide +kernel
theorem dX8_takeWord_44 : decode cX8_takeWord 44 = .ok (.invokevirtual 25, 3) := by decide +kernel
theorem dX8_takeWord_47 : decode cX8_takeWord 47 = .ok (.istore 9, 2) := by decide +kernel
theorem dX8_takeWord_49 : decode cX8_takeWord 49 = .ok (.aload_n 3, 1) := by decide +kernel
theorem dX8_takeWord_50 : decode cX8_takeWord 50 = .ok (.getfield 40, 3) := by decide +kernel
theorem dX8_takeWord_53 : decode cX8_takeWord 53 = .ok (.iload 4, 2) := by decide +kernel
theorem dX8_takeWord_55 : decode cX8_takeWord 55 = .ok (.iload 8, 2) := by decide +kernel
theorem dX8_takeWord_57 : decode cX8_takeWord 57 = .ok (.iadd, 1) := by decide +kernel
theorem dX8_takeWord_58 : decode cX8_takeWord 58 = .ok (.iconst 1, 1) := by decide +kernel
theorem dX8_takeWord_59 : decode cX8_takeWord 59 = .ok (.isub, 1) := by decide +kernel
theorem dX8_takeWord_60 : decode cX8_takeWord 60 = .ok (.invokevirtual 43, 3) := by decide +kernel
theorem dX8_takeWord_63 : decode cX8_takeWord 63 = .ok (.lload_n 1, 1) := by decide +kernel
theorem dX8_takeWord_64 : decode cX8_takeWord 64 = .ok (.lcmp, 1) := by decide +kernel
theorem dX8_takeWord_65 : decode cX8_takeWord 65 = .ok (.ifCond .ne 8, 3) := by decide +kernel
theorem dX8_takeWord_68 : decode cX8_takeWord 68 = .ok (.iload 6, 2) := by decide +kernel
theorem dX8_takeWord_70 : decode cX8_takeWord 70 = .ok (.goto 8, 3) := by decide +kernel
theorem dX8_takeWord_73 : decode cX8_takeWord 73 = .ok (.iload 6, 2) := by decide +kernel
theorem dX8_takeWord_75 : decode cX8_takeWord 75 = .ok (.bipush 64, 2) := by decide +kernel
theorem dX8_takeWord_77 : decode cX8_takeWord 77 = .ok (.iadd, 1) := by decide +kernel
theorem dX8_takeWord_78 : decode cX8_takeWord 78 = .ok (.istore 10, 2) := by decide +kernel
theorem dX8_takeWord_80 : decode cX8_takeWord 80 = .ok (.iload 10, 2) := by decide +kernel
theorem dX8_takeWord_82 : decode cX8_takeWord 82 = .ok (.iload 9, 2) := by decide +kernel
theorem dX8_takeWord_84 : decode cX8_takeWord 84 = .ok (.iload 7, 2) := by decide +kernel
theorem dX8_takeWord_86 : decode cX8_takeWord 86 = .ok (.invokestatic 67, 3) := by decide +kernel
theorem dX8_takeWord_89 : decode cX8_takeWord 89 = .ok (.bipush 64, 2) := by decide +kernel
theorem dX8_takeWord_91 : decode cX8_takeWord 91 = .ok (.iadd, 1) := by decide +kernel
theorem dX8_takeWord_92 : decode cX8_takeWord 92 = .ok (.invokestatic 67, 3) := by decide +kernel
theorem dX8_takeWord_95 : decode cX8_takeWord 95 = .ok (.istore 7, 2) := by decide +kernel
theorem dX8_takeWord_97 : decode cX8_takeWord 97 = .ok (.aload_n 0, 1) := by decide +kernel
theorem dX8_takeWord_98 : decode cX8_takeWord 98 = .ok (.getfield 14, 3) := by decide +kernel
theorem dX8_takeWord_101 : decode cX8_takeWord 101 = .ok (.iload 8, 2) := by decide +kernel
theorem dX8_takeWord_103 : decode cX8_takeWord 103 = .ok (.iload 7, 2) := by decide +kernel
theorem dX8_takeWord_105 : decode cX8_takeWord 105 = .ok (.i2l, 1) := by decide +kernel
theorem dX8_takeWord_106 : decode cX8_takeWord 106 = .ok (.invokevirtual 36, 3) := by decide +kernel
theorem dX8_takeWord_109 : decode cX8_takeWord 109 = .ok (.iload 9, 2) := by decide +kernel
theorem dX8_takeWord_111 : decode cX8_takeWord 111 = .ok (.istore 6, 2) := by decide +kernel
theorem dX8_takeWord_113 : decode cX8_takeWord 113 = .ok (.iinc 8 1, 3) := by decide +kernel
theorem dX8_takeWord_116 : decode cX8_takeWord 116 = .ok (.goto (-85), 3) := by decide +kernel
theorem dX8_takeWord_119 : decode cX8_takeWord 119 = .ok (.return_, 1) := by decide +kernel
set_option maxRecDepth 20000 in
theorem ggX9_init_X4_init : GoodIn wsX9_init wsX4_init := goodIn_r _ [10, 11, 2, 3, 12, 13, 14, 15, 16, 17, 18, 19, 20, 21, 22, 23, 24, 25, 26, 27, 28, 41, 33, 34, 35, 36, 37, 38, 39, 40] (by decide +kernel) (by decide +kernel)
set_option maxRecDepth 20000 in
theorem gX9_init_X4_init_n17 : GoodIn wsX9_init (wsX4_init) := ggX9_init_X4_init
theorem dX9_init_0 : decode cX9_init 0 = .ok (.aload_n 0, 1) := by decide +kernel
theorem dX9_init_1 : decode cX9_init 1 = .ok (.invokespecial 3, 3) := by decide +kernel
theorem dX9_init_4 : decode cX9_init 4 = .ok (.aload_n 0, 1) := by decide +kernel
theorem dX9_init_5 : decode cX9_init 5 = .ok (.bipush 20, 2) := by decide +kernel
theorem dX9_init_7 : decode cX9_init 7 = .ok (.anewarray 9, 3) := by decide +kernel
theorem dX9_init_10 : decode cX9_init 10 = .ok (.putfield 11, 3) := by decide +kernel
theorem dX9_init_13 : decode cX9_init 13 = .ok (.aload_n 0, 1) := by decide +kernel
theorem dX9_init_14 : decode cX9_init 14 = .ok (.new 9, 3) := by decide +kernel
theorem dX9_init_17 : decode cX9_init 17 = .ok (.dup, 1) := by decide +kernel
theorem dX9_init_18 : decode cX9_init 18 = .ok (.invokespecial 17, 3) := by decide +kernel
theorem dX9_init_21 : decode cX9_init 21 = .ok (.putfield 18, 3) := by decide +kernel
theorem dX9_init_24 : decode cX9_init 24 = .ok (.iconst 0, 1) := by decide +kernel
theorem dX9_init_25 : decode cX9_init 25 = .ok (.istore_n 1, 1) := by decide +kernel
theorem dX9_init_26 : decode cX9_init 26 = .ok (.iload_n 1, 1) := by decide +kernel
theorem dX9_init_27 : decode cX9_init 27 = .ok (.aload_n 0, 1) := by decide +kernel
theorem dX9_init_28 : decode cX9_init 28 = .ok (.getfield 11, 3) := by decide +kernel
theorem dX9_init_31 : decode cX9_init 31 = .ok (.arraylength, 1) := by decide +kernel
theorem dX9_init_32 : decode cX9_init 32 = .ok (.if_icmp .ge 22, 3) := by decide +kernel
theorem dX9_init_35 : decode cX9_init 35 = .ok (.aload_n 0, 1) := by decide +kernel
theorem dX9_init_36 : decode cX9_init 36 = .ok (.getfield 11, 3) := by decide +kernel
theorem dX9_init_39 : decode cX9_init 39 = .ok (.iload_n 1, 1) := by decide +kernel
theorem dX9_init_40 : decode cX9_init 40 = .ok (.new 9, 3) := by decide +kernel
theorem dX9_init_43 : decode cX9_init 43 = .ok (.dup, 1) := by decide +kernel
theorem dX9_init_44 : decode cX9_init 44 = .ok (.invokespecial 17, 3) := by decide +kernel
theorem dX9_init_47 : decode cX9_init 47 = .ok (.aastore, 1) := by decide +kernel
theorem dX9_init_48 : decode cX9_init 48 = .ok (.iinc 1 1, 3) := by decide +kernel
theorem dX9_init_51 : decode cX9_init 51 = .ok (.goto (-25), 3) := by decide +kernel
theorem dX9_init_54 : decode cX9_init 54 = .ok (.return_, 1) := by decide +kernel
theorem dX9_has_0 : decode cX9_has 0 = .ok (.iload_n 1, 1) := by decide +kernel
theorem dX9_has_1 : decode cX9_has 1 = .ok (.ifCond .lt 15, 3) := by decide +kernel
theorem dX9_has_4 : decode cX9_has 4 = .ok (.iload_n 1, 1) := by decide +kernel
theorem dX9_has_5 : decode cX9_has 5 = .ok (.aload_n 0, 1) := by decide +kernel
theorem dX9_has_6 : decode cX9_has 6 = .ok (.getfield 22, 3) := by decide +kernel
theorem dX9_has_9 : decode cX9_has 9 = .ok (.if_icmp .ge 7, 3) := by decide +kernel
theorem dX9_has_12 : decode cX9_has 12 = .ok (.iconst 1, 1) := by decide +kernel
theorem dX9_has_13 : decode cX9_has 13 = .ok (.goto 4, 3) := by decide +kernel
theorem dX9_has_16 : decode cX9_has 16 = .ok (.iconst 0, 1) := by decide +kernel
theorem dX9_has_17 : decode cX9_has 17 = .ok (.ireturn, 1) := by decide +kernel
theorem dX9_at_0 : decode cX9_at 0 = .ok (.iload_n 1, 1) := by decide +kernel
theorem dX9_at_1 : decode cX9_at 1 = .ok (.ifCond .lt 12, 3) := by decide +kernel
theorem dX9_at_4 : decode cX9_at 4 = .ok (.iload_n 1, 1) := by decide +kernel
theorem dX9_at_5 : decode cX9_at 5 = .ok (.aload_n 0, 1) := by decide +kernel
theorem dX9_at_6 : decode cX9_at 6 = .ok (.getfield 11, 3) := by decide +kernel
theorem dX9_at_9 : decode cX9_at 9 = .ok (.arraylength, 1) := by decide +kernel
theorem dX9_at_10 : decode cX9_at 10 = .ok (.if_icmp .lt 8, 3) := by decide +kernel
theorem dX9_at_13 : decode cX9_at 13 = .ok (.aload_n 0, 1) := by decide +kernel
theorem dX9_at_14 : decode cX9_at 14 = .ok (.getfield 18, 3) := by decide +kernel
theorem dX9_at_17 : decode cX9_at 17 = .ok (.areturn, 1) := by decide +kernel
theorem dX9_at_18 : decode cX9_at 18 = .ok (.aload_n 0, 1) := by decide +kernel
theorem dX9_at_19 : decode cX9_at 19 = .ok (.getfield 11, 3) := by decide +kernel
theorem dX9_at_22 : decode cX9_at 22 = .ok (.iload_n 1, 1) := by decide +kernel
theorem dX9_at_23 : decode cX9_at 23 = .ok (.aaload, 1) := by decide +kernel
theorem dX9_at_24 : decode cX9_at 24 = .ok (.astore_n 2, 1) := by decide +kernel
theorem dX9_at_25 : decode cX9_at 25 = .ok (.aload_n 2, 1) := by decide +kernel
theorem dX9_at_26 : decode cX9_at 26 = .ok (.ifnonnull 10, 3) := by decide +kernel
theorem dX9_at_29 : decode cX9_at 29 = .ok (.aload_n 0, 1) := by decide +kernel
theorem dX9_at_30 : decode cX9_at 30 = .ok (.getfield 18, 3) := by decide +kernel
theorem dX9_at_33 : decode cX9_at 33 = .ok (.goto 4, 3) := by decide +kernel
theorem dX9_at_36 : decode cX9_at 36 = .ok (.aload_n 2, 1) := by decide +kernel
theorem dX9_at_37 : decode cX9_at 37 = .ok (.areturn, 1) := by decide +kernel
set_option maxRecDepth 20000 in
theorem ggX9_copy_X9_at : GoodIn wsX9_copy wsX9_at := goodIn_r _ [7, 8, 9, 33, 34, 35, 36] (by decide +kernel) (by decide +kernel)
set_option maxRecDepth 20000 in
theorem gX9_copy_X9_at : GoodIn wsX9_copy (wsV RX9 29 RX9 yX9_at wsX9_at) := goodIn_app (goodIn_of _ (by decide +kernel)) ggX9_copy_X9_at
set_option maxRecDepth 20000 in
theorem ggX9_copy_X4_copy : GoodIn wsX9_copy wsX4_copy := goodIn_r _ [14, 15, 16, 17, 18, 19, 20, 21, 22, 23, 24, 25, 26, 27, 28, 29, 30, 31, 32, 37, 38, 39, 40, 41, 42, 43, 44, 45] (by decide +kernel) (by decide +kernel)
set_option maxRecDepth 20000 in
theorem gX9_copy_X4_copy : GoodIn wsX9_copy (wsV RX9 33 RX4 yX4_copy wsX4_copy) := goodIn_app (goodIn_of _ (by decide +kernel)) ggX9_copy_X4_copy
theorem dX9_copy_0 : decode cX9_copy 0 = .ok (.aload_n 0, 1) := by decide +kernel
theorem dX9_copy_1 : decode cX9_copy 1 = .ok (.aload_n 1, 1) := by decide +kernel
theorem dX9_copy_2 : decode cX9_copy 2 = .ok (.getfield 22, 3) := by decide +kernel
theorem dX9_copy_5 : decode cX9_copy 5 = .ok (.putfield 22, 3) := by decide +kernel
theorem dX9_copy_8 : decode cX9_copy 8 = .ok (.aload_n 0, 1) := by decide +kernel
theorem dX9_copy_9 : decode cX9_copy 9 = .ok (.aload_n 1, 1) := by decide +kernel
theorem dX9_copy_10 : decode cX9_copy 10 = .ok (.getfield 26, 3) := by decide +kernel
theorem dX9_copy_13 : decode cX9_copy 13 = .ok (.putfield 26, 3) := by decide +kernel
theorem dX9_copy_16 : decode cX9_copy 16 = .ok (.iconst 0, 1) := by decide +kernel
theorem dX9_copy_17 : decode cX9_copy 17 = .ok (.istore_n 2, 1) := by decide +kernel
theorem dX9_copy_18 : decode cX9_copy 18 = .ok (.iload_n 2, 1) := by decide +kernel
theorem dX9_copy_19 : decode cX9_copy 19 = .ok (.aload_n 0, 1) := by decide +kernel
theorem dX9_copy_20 : decode cX9_copy 20 = .ok (.getfield 22, 3) := by decide +kernel
theorem dX9_copy_23 : decode cX9_copy 23 = .ok (.if_icmp .ge 22, 3) := by decide +kernel
theorem dX9_copy_26 : decode cX9_copy 26 = .ok (.aload_n 0, 1) := by decide +kernel
theorem dX9_copy_27 : decode cX9_copy 27 = .ok (.iload_n 2, 1) := by decide +kernel
theorem dX9_copy_28 : decode cX9_copy 28 = .ok (.invokevirtual 29, 3) := by decide +kernel
theorem dX9_copy_31 : decode cX9_copy 31 = .ok (.aload_n 1, 1) := by decide +kernel
theorem dX9_copy_32 : decode cX9_copy 32 = .ok (.iload_n 2, 1) := by decide +kernel
theorem dX9_copy_33 : decode cX9_copy 33 = .ok (.invokevirtual 29, 3) := by decide +kernel
theorem dX9_copy_36 : decode cX9_copy 36 = .ok (.invokevirtual 33, 3) := by decide +kernel
theorem dX9_copy_39 : decode cX9_copy 39 = .ok (.iinc 2 1, 3) := by decide +kernel
theorem dX9_copy_42 : decode cX9_copy 42 = .ok (.goto (-24), 3) := by decide +kernel
theorem dX9_copy_45 : decode cX9_copy 45 = .ok (.return_, 1) := by decide +kernel
set_option maxRecDepth 20000 in
theorem ggX9_add_X9_at : GoodIn wsX9_add wsX9_at := goodIn_r _ [7, 8, 9, 33, 34, 35, 36] (by decide +kernel) (by decide +kernel)
set_option maxRecDepth 20000 in
theorem gX9_add_X9_at : GoodIn wsX9_add (wsV RX9 29 RX9 yX9_at wsX9_at) := goodIn_app (goodIn_of _ (by decide +kernel)) ggX9_add_X9_at
set_option maxRecDepth 20000 in
theorem ggX9_add_X4_copy : GoodIn wsX9_add wsX4_copy := goodIn_r _ [14, 15, 16, 17, 18, 19, 20, 21, 22, 23, 24, 25, 26, 27, 28, 29, 30, 31, 32, 37, 38, 39, 40, 41, 42, 43, 44, 45] (by decide +kernel) (by decide +kernel)
set_option maxRecDepth 20000 in
theorem gX9_add_X4_copy : GoodIn wsX9_add (wsV RX9 33 RX4 yX4_copy wsX4_copy) := goodIn_app (goodIn_of _ (by decide +kernel)) ggX9_add_X4_copy
theorem dX9_add_0 : decode cX9_add 0 = .ok (.aload_n 0, 1) := by decide +kernel
theorem dX9_add_1 : decode cX9_add 1 = .ok (.aload_n 0, 1) := by decide +kernel
theorem dX9_add_2 : decode cX9_add 2 = .ok (.getfield 22, 3) := by decide +kernel
theorem dX9_add_5 : decode cX9_add 5 = .ok (.invokevirtual 29, 3) := by decide +kernel
theorem dX9_add_8 : decode cX9_add 8 = .ok (.astore_n 3, 1) := by decide +kernel
theorem dX9_add_9 : decode cX9_add 9 = .ok (.aload_n 3, 1) := by decide +kernel
theorem dX9_add_10 : decode cX9_add 10 = .ok (.aload_n 1, 1) := by decide +kernel
theorem dX9_add_11 : decode cX9_add 11 = .ok (.invokevirtual 33, 3) := by decide +kernel
theorem dX9_add_14 : decode cX9_add 14 = .ok (.aload_n 3, 1) := by decide +kernel
theorem dX9_add_15 : decode cX9_add 15 = .ok (.iload_n 2, 1) := by decide +kernel
theorem dX9_add_16 : decode cX9_add 16 = .ok (.putfield 37, 3) := by decide +kernel
theorem dX9_add_19 : decode cX9_add 19 = .ok (.aload_n 3, 1) := by decide +kernel
theorem dX9_add_20 : decode cX9_add 20 = .ok (.aload_n 0, 1) := by decide +kernel
theorem dX9_add_21 : decode cX9_add 21 = .ok (.getfield 26, 3) := by decide +kernel
theorem dX9_add_24 : decode cX9_add 24 = .ok (.putfield 40, 3) := by decide +kernel
theorem dX9_add_27 : decode cX9_add 27 = .ok (.aload_n 0, 1) := by decide +kernel
theorem dX9_add_28 : decode cX9_add 28 = .ok (.dup, 1) := by decide +kernel
theorem dX9_add_29 : decode cX9_add 29 = .ok (.getfield 22, 3) := by decide +kernel
theorem dX9_add_32 : decode cX9_add 32 = .ok (.iconst 1, 1) := by decide +kernel
theorem dX9_add_33 : decode cX9_add 33 = .ok (.iadd, 1) := by decide +kernel
theorem dX9_add_34 : decode cX9_add 34 = .ok (.putfield 22, 3) := by decide +kernel
theorem dX9_add_37 : decode cX9_add 37 = .ok (.return_, 1) := by decide +kernel
set_option maxRecDepth 20000 in
theorem ggX9_hasSourcesOf_X7_number : GoodIn wsX9_hasSourcesOf wsX7_number := goodIn_r _ [5, 6, 21] (by decide +kernel) (by decide +kernel)
set_option maxRecDepth 20000 in
theorem gX9_hasSourcesOf_X7_number : GoodIn wsX9_hasSourcesOf (wsV RX9 50 RX7 yX7_number wsX7_number) := goodIn_app (goodIn_of _ (by decide +kernel)) ggX9_hasSourcesOf_X7_number
set_option maxRecDepth 20000 in
theorem ggX9_hasSourcesOf_X9_has : GoodIn wsX9_hasSourcesOf wsX9_has := goodIn_r _ [11, 12, 22, 23, 24, 25] (by decide +kernel) (by decide +kernel)
set_option maxRecDepth 20000 in
theorem gX9_hasSourcesOf_X9_has : GoodIn wsX9_hasSourcesOf (wsV RX9 56 RX9 yX9_has wsX9_has) := goodIn_app (goodIn_of _ (by decide +kernel)) ggX9_hasSourcesOf_X9_has
theorem dX9_hasSourcesOf_0 : decode cX9_hasSourcesOf 0 = .ok (.iconst 0, 1) := by decide +kernel
theorem dX9_hasSourcesOf_1 : decode cX9_hasSourcesOf 1 = .ok (.istore_n 2, 1) := by decide +kernel
theorem dX9_hasSourcesOf_2 : decode cX9_hasSourcesOf 2 = .ok (.iload_n 2, 1) := by decide +kernel
theorem dX9_hasSourcesOf_3 : decode cX9_hasSourcesOf 3 = .ok (.aload_n 1, 1) := by decide +kernel
theorem dX9_hasSourcesOf_4 : decode cX9_hasSourcesOf 4 = .ok (.getfield 43, 3) := by decide +kernel
theorem dX9_hasSourcesOf_7 : decode cX9_hasSourcesOf 7 = .ok (.if_icmp .ge 26, 3) := by decide +kernel
theorem dX9_hasSourcesOf_10 : decode cX9_hasSourcesOf 10 = .ok (.aload_n 0, 1) := by decide +kernel
theorem dX9_hasSourcesOf_11 : decode cX9_hasSourcesOf 11 = .ok (.aload_n 1, 1) := by decide +kernel
theorem dX9_hasSourcesOf_12 : decode cX9_hasSourcesOf 12 = .ok (.getfield 46, 3) := by decide +kernel
theorem dX9_hasSourcesOf_15 : decode cX9_hasSourcesOf 15 = .ok (.iload_n 2, 1) := by decide +kernel
theorem dX9_hasSourcesOf_16 : decode cX9_hasSourcesOf 16 = .ok (.invokevirtual 50, 3) := by decide +kernel
theorem dX9_hasSourcesOf_19 : decode cX9_hasSourcesOf 19 = .ok (.invokevirtual 56, 3) := by decide +kernel
theorem dX9_hasSourcesOf_22 : decode cX9_hasSourcesOf 22 = .ok (.ifCond .ne 5, 3) := by decide +kernel
theorem dX9_hasSourcesOf_25 : decode cX9_hasSourcesOf 25 = .ok (.iconst 0, 1) := by decide +kernel
theorem dX9_hasSourcesOf_26 : decode cX9_hasSourcesOf 26 = .ok (.ireturn, 1) := by decide +kernel
theorem dX9_hasSourcesOf_27 : decode cX9_hasSourcesOf 27 = .ok (.iinc 2 1, 3) := by decide +kernel
theorem dX9_hasSourcesOf_30 : decode cX9_hasSourcesOf 30 = .ok (.goto (-28), 3) := by decide +kernel
theorem dX9_hasSourcesOf_33 : decode cX9_hasSourcesOf 33 = .ok (.iconst 1, 1) := by decide +kernel
theorem dX9_hasSourcesOf_34 : decode cX9_hasSourcesOf 34 = .ok (.ireturn, 1) := by decide +kernel
set_option maxRecDepth 20000 in
theorem ggX9_isSourceOfToday_X7_number : GoodIn wsX9_isSourceOfToday wsX7_number := goodIn_r _ [6, 7, 27] (by decide +kernel) (by decide +kernel)
set_option maxRecDepth 20000 in
theorem gX9_isSourceOfToday_X7_number : GoodIn wsX9_isSourceOfToday (wsV RX9 50 RX7 yX7_number wsX7_number) := goodIn_app (goodIn_of _ (by decide +kernel)) ggX9_isSourceOfToday_X7_number
set_option maxRecDepth 20000 in
theorem ggX9_isSourceOfToday_X9_at : GoodIn wsX9_isSourceOfToday wsX9_at := goodIn_r _ [12, 13, 14, 23, 24, 25, 26] (by decide +kernel) (by decide +kernel)
set_option maxRecDepth 20000 in
theorem gX9_isSourceOfToday_X9_at : GoodIn wsX9_isSourceOfToday (wsV RX9 29 RX9 yX9_at wsX9_at) := goodIn_app (goodIn_of _ (by decide +kernel)) ggX9_isSourceOfToday_X9_at
theorem dX9_isSourceOfToday_0 : decode cX9_isSourceOfToday 0 = .ok (.iconst 0, 1) := by decide +kernel
theorem dX9_isSourceOfToday_1 : decode cX9_isSourceOfToday 1 = .ok (.istore_n 2, 1) := by decide +kernel
theorem dX9_isSourceOfToday_2 : decode cX9_isSourceOfToday 2 = .ok (.iload_n 2, 1) := by decide +kernel
theorem dX9_isSourceOfToday_3 : decode cX9_isSourceOfToday 3 = .ok (.aload_n 1, 1) := by decide +kernel
theorem dX9_isSourceOfToday_4 : decode cX9_isSourceOfToday 4 = .ok (.getfield 43, 3) := by decide +kernel
theorem dX9_isSourceOfToday_7 : decode cX9_isSourceOfToday 7 = .ok (.if_icmp .ge 33, 3) := by decide +kernel
theorem dX9_isSourceOfToday_10 : decode cX9_isSourceOfToday 10 = .ok (.aload_n 0, 1) := by decide +kernel
theorem dX9_isSourceOfToday_11 : decode cX9_isSourceOfToday 11 = .ok (.aload_n 1, 1) := by decide +kernel
theorem dX9_isSourceOfToday_12 : decode cX9_isSourceOfToday 12 = .ok (.getfield 46, 3) := by decide +kernel
theorem dX9_isSourceOfToday_15 : decode cX9_isSourceOfToday 15 = .ok (.iload_n 2, 1) := by decide +kernel
theorem dX9_isSourceOfToday_16 : decode cX9_isSourceOfToday 16 = .ok (.invokevirtual 50, 3) := by decide +kernel
theorem dX9_isSourceOfToday_19 : decode cX9_isSourceOfToday 19 = .ok (.invokevirtual 29, 3) := by decide +kernel
theorem dX9_isSourceOfToday_22 : decode cX9_isSourceOfToday 22 = .ok (.getfield 40, 3) := by decide +kernel
theorem dX9_isSourceOfToday_25 : decode cX9_isSourceOfToday 25 = .ok (.aload_n 0, 1) := by decide +kernel
theorem dX9_isSourceOfToday_26 : decode cX9_isSourceOfToday 26 = .ok (.getfield 26, 3) := by decide +kernel
theorem dX9_isSourceOfToday_29 : decode cX9_isSourceOfToday 29 = .ok (.if_icmp .ne 5, 3) := by decide +kernel
theorem dX9_isSourceOfToday_32 : decode cX9_isSourceOfToday 32 = .ok (.iconst 1, 1) := by decide +kernel
theorem dX9_isSourceOfToday_33 : decode cX9_isSourceOfToday 33 = .ok (.ireturn, 1) := by decide +kernel
theorem dX9_isSourceOfToday_34 : decode cX9_isSourceOfToday 34 = .ok (.iinc 2 1, 3) := by decide +kernel
theorem dX9_isSourceOfToday_37 : decode cX9_isSourceOfToday 37 = .ok (.goto (-35), 3) := by decide +kernel
theorem dX9_isSourceOfToday_40 : decode cX9_isSourceOfToday 40 = .ok (.iconst 0, 1) := by decide +kernel
theorem dX9_isSourceOfToday_41 : decode cX9_isSourceOfToday 41 = .ok (.ireturn, 1) := by decide +kernel
end
section
set_option maxRecDepth 20000 in
theorem ggX10_init_X9_init : GoodIn wsX10_init wsX9_init := goodIn_r _ [34, 35, 2, 3, 36, 37, 38, 39, 40, 41, 42, 43, 44, 45, 46, 47, 48, 49, 50, 51, 52, 53, 54, 55, 56, 57, 58, 59, 60, 106, 107, 108, 109, 136, 137, 138, 139, 140, 141, 142, 143, 144] (by decide +kernel) (by decide +kernel)
set_option maxRecDepth 20000 in
theorem gX10_init_X9_init : GoodIn wsX10_init (wsX9_init) := ggX10_init_X9_init
set_option maxRecDepth 20000 in
theorem ggX10_init_X2_init : GoodIn wsX10_init wsX2_init := goodIn_r _ [63, 64, 2, 3, 65, 66, 5, 6, 67, 68, 33, 34, 35, 36, 37, 38, 39, 40, 41, 42, 43, 44, 45, 46, 47, 48, 49, 50, 51, 52, 53, 54, 55, 56, 57, 58, 59, 60, 117, 118, 119, 120, 121, 106, 107, 108, 109, 136, 137, 138, 139, 140, 141, 142, 143, 144] (by decide +kernel) (by decide +kernel)
set_option maxRecDepth 20000 in
theorem gX10_init_X2_init : GoodIn wsX10_init (wsX2_init) := ggX10_init_X2_init
set_option maxRecDepth 20000 in
theorem ggX10_init_X0_init : GoodIn wsX10_init wsX0_init := goodIn_r _ [70, 71, 2, 3, 72, 45, 46, 73, 74, 52, 53, 54, 55, 56, 57, 58, 59, 60, 144, 122, 123] (by decide +kernel) (by decide +kernel)
set_option maxRecDepth 20000 in
theorem gX10_init_X0_init_n25 : GoodIn wsX10_init (wsX0_init) := ggX10_init_X0_init
set_option maxRecDepth 20000 in
theorem ggX10_init_X6_init : GoodIn wsX10_init wsX6_init := goodIn_r _ [76, 77, 2, 3, 78, 38, 39, 79, 41, 42, 43, 44, 45, 46, 47, 48, 49, 50, 51, 52, 53, 54, 55, 56, 57, 58, 59, 60, 136, 137, 138, 139, 140, 141, 142, 143, 124, 125, 126, 127, 128, 144] (by decide +kernel) (by decide +kernel)
set_option maxRecDepth 20000 in
theorem gX10_init_X6_init_n32 : GoodIn wsX10_init (wsX6_init) := ggX10_init_X6_init
set_option maxRecDepth 20000 in
theorem ggX10_init_X5_init : GoodIn wsX10_init wsX5_init := goodIn_r _ [81, 82, 2, 3, 83, 84, 85, 86, 87, 88, 89, 90, 45, 46, 91, 92, 52, 53, 54, 55, 56, 57, 58, 59, 60, 145, 146, 147, 148, 129, 130, 131, 144] (by decide +kernel) (by decide +kernel)
set_option maxRecDepth 20000 in
theorem gX10_init_X5_init_n39 : GoodIn wsX10_init (wsX5_init) := ggX10_init_X5_init
set_option maxRecDepth 20000 in
theorem ggX10_init_X3_init : GoodIn wsX10_init wsX3_init := goodIn_r _ [94, 95, 2, 3, 96, 45, 46, 97, 98, 52, 53, 54, 55, 56, 57, 58, 59, 60, 144, 132] (by decide +kernel) (by decide +kernel)
set_option maxRecDepth 20000 in
theorem gX10_init_X3_init_n46 : GoodIn wsX10_init (wsX3_init) := ggX10_init_X3_init
set_option maxRecDepth 20000 in
theorem ggX10_init_X1_init : GoodIn wsX10_init wsX1_init := goodIn_r _ [100, 101, 2, 3, 102, 45, 46, 103, 104, 105, 52, 53, 54, 55, 56, 57, 58, 59, 60, 144, 133, 134, 135] (by decide +kernel) (by decide +kernel)
set_option maxRecDepth 20000 in
theorem gX10_init_X1_init_n53 : GoodIn wsX10_init (wsX1_init) := ggX10_init_X1_init
theorem dX10_init_0 : decode cX10_init 0 = .ok (.aload_n 0, 1) := by decide +kernel
theorem dX10_init_1 : decode cX10_init 1 = .ok (.invokespecial 1, 3) := by decide +kernel
theorem dX10_init_4 : decode cX10_init 4 = .ok (.aload_n 0, 1) := by decide +kernel
theorem dX10_init_5 : decode cX10_init 5 = .ok (.new 7, 3) := by decide +kernel
theorem dX10_init_8 : decode cX10_init 8 = .ok (.dup, 1) := by decide +kernel
theorem dX10_init_9 : decode cX10_init 9 = .ok (.invokespecial 9, 3) := by decide +kernel
theorem dX10_init_12 : decode cX10_init 12 = .ok (.putfield 10, 3) := by decide +kernel
theorem dX10_init_15 : decode cX10_init 15 = .ok (.aload_n 0, 1) := by decide +kernel
theorem dX10_init_16 : decode cX10_init 16 = .ok (.new 16, 3) := by decide +kernel
theorem dX10_init_19 : decode cX10_init 19 = .ok (.dup, 1) := by decide +kernel
theorem dX10_init_20 : decode cX10_init 20 = .ok (.invokespecial 18, 3) := by decide +kernel
theorem dX10_init_23 : decode cX10_init 23 = .ok (.putfield 19, 3) := by decide +kernel
theorem dX10_init_26 : decode cX10_init 26 = .ok (.aload_n 0, 1) := by decide +kernel
theorem dX10_init_27 : decode cX10_init 27 = .ok (.new 23, 3) := by decide +kernel
theorem dX10_init_30 : decode cX10_init 30 = .ok (.dup, 1) := by decide +kernel
theorem dX10_init_31 : decode cX10_init 31 = .ok (.invokespecial 25, 3) := by decide +kernel
theorem dX10_init_34 : decode cX10_init 34 = .ok (.putfield 26, 3) := by decide +kernel
theorem dX10_init_37 : decode cX10_init 37 = .ok (.aload_n 0, 1) := by decide +kernel
theorem dX10_init_38 : decode cX10_init 38 = .ok (.new 30, 3) := by decide +kernel
theorem dX10_init_41 : decode cX10_init 41 = .ok (.dup, 1) := by decide +kernel
theorem dX10_init_42 : decode cX10_init 42 = .ok (.invokespecial 32, 3) := by decide +kernel
theorem dX10_init_45 : decode cX10_init 45 = .ok (.putfield 33, 3) := by decide +kernel
theorem dX10_init_48 : decode cX10_init 48 = .ok (.aload_n 0, 1) := by decide +kernel
theorem dX10_init_49 : decode cX10_init 49 = .ok (.new 37, 3) := by decide +kernel
theorem dX10_init_52 : decode cX10_init 52 = .ok (.dup, 1) := by decide +kernel
theorem dX10_init_53 : decode cX10_init 53 = .ok (.invokespecial 39, 3) := by decide +kernel
theorem dX10_init_56 : decode cX10_init 56 = .ok (.putfield 40, 3) := by decide +kernel
theorem dX10_init_59 : decode cX10_init 59 = .ok (.aload_n 0, 1) := by decide +kernel
theorem dX10_init_60 : decode cX10_init 60 = .ok (.new 44, 3) := by decide +kernel
theorem dX10_init_63 : decode cX10_init 63 = .ok (.dup, 1) := by decide +kernel
theorem dX10_init_64 : decode cX10_init 64 = .ok (.invokespecial 46, 3) := by decide +kernel
theorem dX10_init_67 : decode cX10_init 67 = .ok (.putfield 47, 3) := by decide +kernel
theorem dX10_init_70 : decode cX10_init 70 = .ok (.aload_n 0, 1) := by decide +kernel
theorem dX10_init_71 : decode cX10_init 71 = .ok (.new 51, 3) := by decide +kernel
theorem dX10_init_74 : decode cX10_init 74 = .ok (.dup, 1) := by decide +kernel
theorem dX10_init_75 : decode cX10_init 75 = .ok (.invokespecial 53, 3) := by decide +kernel
theorem dX10_init_78 : decode cX10_init 78 = .ok (.putfield 54, 3) := by decide +kernel
theorem dX10_init_81 : decode cX10_init 81 = .ok (.return_, 1) := by decide +kernel
set_option maxRecDepth 20000 in
theorem ggX10_print_X10_isAuthor : GoodIn wsX10_print wsX10_isAuthor := goodIn_r _ [12] (by decide +kernel) (by decide +kernel)
set_option maxRecDepth 20000 in
theorem gX10_print_X10_isAuthor : GoodIn wsX10_print (va_wsS RX10 58 yX10_isAuthor wsX10_isAuthor) := goodIn_app (goodIn_of _ (by decide +kernel)) ggX10_print_X10_isAuthor
set_option maxRecDepth 20000 in
theorem ggX10_print_X10_whyNotPrinted : GoodIn wsX10_print wsX10_whyNotPrinted := goodIn_r _ [16, 6, 7, 8, 17, 18, 19, 20, 21, 22, 23, 24, 25, 26, 27, 28, 29, 30, 31, 32, 33, 34, 35, 36, 37, 38, 39, 40, 41, 42, 43, 44, 45, 46, 47, 48, 49, 50, 51, 52, 11, 53, 54, 55, 56, 57, 58, 59, 60, 61, 62, 63, 64, 65, 66, 67, 68, 69, 70, 71, 72, 73, 74, 75, 76, 77, 78, 79, 80, 81, 82, 83, 84, 85, 86, 87, 88, 89, 90, 91, 92, 93, 94, 95, 96, 97, 98, 99, 100, 101, 102, 103, 104, 105, 106, 107, 108, 109, 110, 111, 112, 147, 148, 149, 150, 151, 152, 153, 161, 162, 163, 164, 154, 155, 156, 157, 158, 159, 160, 165, 166, 167, 168, 169, 170, 171, 172, 173] (by decide +kernel) (by decide +kernel)
set_option maxRecDepth 20000 in
theorem gX10_print_X10_whyNotPrinted : GoodIn wsX10_print (wsV RX10 69 RX10 yX10_whyNotPrinted wsX10_whyNotPrinted) := goodIn_app (goodIn_of _ (by decide +kernel)) ggX10_print_X10_whyNotPrinted
set_option maxRecDepth 20000 in
theorem ggX10_print_X2_save : GoodIn wsX10_print wsX2_save := goodIn_r _ [117, 118, 119, 120, 121, 122, 116, 123, 124, 125, 126, 127, 94, 128, 101, 106, 107, 108, 109, 110, 111, 112, 129, 130, 131, 28, 132, 133, 134, 30, 31, 58, 80, 81, 82, 135, 136, 137, 35, 138, 37, 139, 140, 141, 142, 174, 175, 176, 177, 178, 161, 162, 163, 164, 165, 166, 167, 168, 169, 170, 171, 172, 173] (by decide +kernel) (by decide +kernel)
set_option maxRecDepth 20000 in
theorem gX10_print_X2_save : GoodIn wsX10_print (wsV RX10 78 RX2 yX2_save wsX2_save) := goodIn_app (goodIn_of _ (by decide +kernel)) ggX10_print_X2_save
set_option maxRecDepth 20000 in
theorem ggX10_print_X9_add : GoodIn wsX10_print wsX9_add := goodIn_r _ [146, 101, 106, 107, 108, 109, 94, 110, 111, 112, 129, 130, 131, 28, 132, 133, 134, 30, 31, 58, 80, 81, 82, 135, 136, 137, 35, 138, 37, 139, 140, 141, 142, 161, 162, 163, 164, 165, 166, 167, 168, 169, 170, 171, 172, 173] (by decide +kernel) (by decide +kernel)
set_option maxRecDepth 20000 in
theorem gX10_print_X9_add : GoodIn wsX10_print (wsV RX10 86 RX9 yX9_add wsX9_add) := goodIn_app (goodIn_of _ (by decide +kernel)) ggX10_print_X9_add
theorem dX10_print_0 : decode cX10_print 0 = .ok (.iload_n 1, 1) := by decide +kernel
theorem dX10_print_1 : decode cX10_print 1 = .ok (.invokestatic 58, 3) := by decide +kernel
theorem dX10_print_4 : decode cX10_print 4 = .ok (.ifCond .ne 13, 3) := by decide +kernel
theorem dX10_print_7 : decode cX10_print 7 = .ok (.new 62, 3) := by decide +kernel
theorem dX10_print_10 : decode cX10_print 10 = .ok (.dup, 1) := by decide +kernel
theorem dX10_print_11 : decode cX10_print 11 = .ok (.ldc 64, 2) := by decide +kernel
theorem dX10_print_13 : decode cX10_print 13 = .ok (.invokespecial 66, 3) := by decide +kernel
theorem dX10_print_16 : decode cX10_print 16 = .ok (.athrow, 1) := by decide +kernel
theorem dX10_print_17 : decode cX10_print 17 = .ok (.aload_n 0, 1) := by decide +kernel
theorem dX10_print_18 : decode cX10_print 18 = .ok (.invokevirtual 69, 3) := by decide +kernel
theorem dX10_print_21 : decode cX10_print 21 = .ok (.ifCond .le 13, 3) := by decide +kernel
theorem dX10_print_24 : decode cX10_print 24 = .ok (.new 73, 3) := by decide +kernel
theorem dX10_print_27 : decode cX10_print 27 = .ok (.dup, 1) := by decide +kernel
theorem dX10_print_28 : decode cX10_print 28 = .ok (.ldc 75, 2) := by decide +kernel
theorem dX10_print_30 : decode cX10_print 30 = .ok (.invokespecial 77, 3) := by decide +kernel
theorem dX10_print_33 : decode cX10_print 33 = .ok (.athrow, 1) := by decide +kernel
theorem dX10_print_34 : decode cX10_print 34 = .ok (.aload_n 0, 1) := by decide +kernel
theorem dX10_print_35 : decode cX10_print 35 = .ok (.getfield 19, 3) := by decide +kernel
theorem dX10_print_38 : decode cX10_print 38 = .ok (.aload_n 0, 1) := by decide +kernel
theorem dX10_print_39 : decode cX10_print 39 = .ok (.getfield 10, 3) := by decide +kernel
theorem dX10_print_42 : decode cX10_print 42 = .ok (.invokevirtual 78, 3) := by decide +kernel
theorem dX10_print_45 : decode cX10_print 45 = .ok (.aload_n 0, 1) := by decide +kernel
theorem dX10_print_46 : decode cX10_print 46 = .ok (.getfield 10, 3) := by decide +kernel
theorem dX10_print_49 : decode cX10_print 49 = .ok (.aload_n 0, 1) := by decide +kernel
theorem dX10_print_50 : decode cX10_print 50 = .ok (.getfield 33, 3) := by decide +kernel
theorem dX10_print_53 : decode cX10_print 53 = .ok (.getfield 82, 3) := by decide +kernel
theorem dX10_print_56 : decode cX10_print 56 = .ok (.iload_n 1, 1) := by decide +kernel
theorem dX10_print_57 : decode cX10_print 57 = .ok (.invokevirtual 86, 3) := by decide +kernel
theorem dX10_print_60 : decode cX10_print 60 = .ok (.aload_n 0, 1) := by decide +kernel
theorem dX10_print_61 : decode cX10_print 61 = .ok (.getfield 26, 3) := by decide +kernel
theorem dX10_print_64 : decode cX10_print 64 = .ok (.iconst 0, 1) := by decide +kernel
theorem dX10_print_65 : decode cX10_print 65 = .ok (.putfield 90, 3) := by decide +kernel
theorem dX10_print_68 : decode cX10_print 68 = .ok (.aload_n 0, 1) := by decide +kernel
theorem dX10_print_69 : decode cX10_print 69 = .ok (.getfield 10, 3) := by decide +kernel
theorem dX10_print_72 : decode cX10_print 72 = .ok (.getfield 94, 3) := by decide +kernel
theorem dX10_print_75 : decode cX10_print 75 = .ok (.iconst 1, 1) := by decide +kernel
theorem dX10_print_76 : decode cX10_print 76 = .ok (.isub, 1) := by decide +kernel
theorem dX10_print_77 : decode cX10_print 77 = .ok (.ireturn, 1) := by decide +kernel
set_option maxRecDepth 20000 in
theorem ggX10_pass_X2_save : GoodIn wsX10_pass wsX2_save := goodIn_r _ [9, 10, 11, 12, 13, 14, 8, 15, 16, 17, 18, 19, 20, 21, 22, 23, 24, 25, 26, 27, 28, 29, 30, 31, 32, 33, 34, 35, 36, 37, 38, 39, 40, 41, 42, 43, 44, 45, 46, 47, 48, 49, 50, 51, 52, 64, 65, 66, 67, 68, 60, 61, 62, 63, 69, 70, 71, 72, 73, 74, 75, 76, 77] (by decide +kernel) (by decide +kernel)
set_option maxRecDepth 20000 in
theorem gX10_pass_X2_save : GoodIn wsX10_pass (wsV RX10 78 RX2 yX2_save wsX2_save) := goodIn_app (goodIn_of _ (by decide +kernel)) ggX10_pass_X2_save
theorem dX10_pass_0 : decode cX10_pass 0 = .ok (.iload_n 1, 1) := by decide +kernel
theorem dX10_pass_1 : decode cX10_pass 1 = .ok (.iconst 1, 1) := by decide +kernel
theorem dX10_pass_2 : decode cX10_pass 2 = .ok (.if_icmp .lt 9, 3) := by decide +kernel
theorem dX10_pass_5 : decode cX10_pass 5 = .ok (.iload_n 1, 1) := by decide +kernel
theorem dX10_pass_6 : decode cX10_pass 6 = .ok (.bipush 100, 2) := by decide +kernel
theorem dX10_pass_8 : decode cX10_pass 8 = .ok (.if_icmp .le 13, 3) := by decide +kernel
theorem dX10_pass_11 : decode cX10_pass 11 = .ok (.new 62, 3) := by decide +kernel
theorem dX10_pass_14 : decode cX10_pass 14 = .ok (.dup, 1) := by decide +kernel
theorem dX10_pass_15 : decode cX10_pass 15 = .ok (.ldc 97, 2) := by decide +kernel
theorem dX10_pass_17 : decode cX10_pass 17 = .ok (.invokespecial 66, 3) := by decide +kernel
theorem dX10_pass_20 : decode cX10_pass 20 = .ok (.athrow, 1) := by decide +kernel
theorem dX10_pass_21 : decode cX10_pass 21 = .ok (.aload_n 0, 1) := by decide +kernel
theorem dX10_pass_22 : decode cX10_pass 22 = .ok (.getfield 19, 3) := by decide +kernel
theorem dX10_pass_25 : decode cX10_pass 25 = .ok (.aload_n 0, 1) := by decide +kernel
theorem dX10_pass_26 : decode cX10_pass 26 = .ok (.getfield 10, 3) := by decide +kernel
theorem dX10_pass_29 : decode cX10_pass 29 = .ok (.invokevirtual 78, 3) := by decide +kernel
theorem dX10_pass_32 : decode cX10_pass 32 = .ok (.aload_n 0, 1) := by decide +kernel
theorem dX10_pass_33 : decode cX10_pass 33 = .ok (.getfield 10, 3) := by decide +kernel
theorem dX10_pass_36 : decode cX10_pass 36 = .ok (.dup, 1) := by decide +kernel
theorem dX10_pass_37 : decode cX10_pass 37 = .ok (.getfield 99, 3) := by decide +kernel
theorem dX10_pass_40 : decode cX10_pass 40 = .ok (.iload_n 1, 1) := by decide +kernel
theorem dX10_pass_41 : decode cX10_pass 41 = .ok (.iadd, 1) := by decide +kernel
theorem dX10_pass_42 : decode cX10_pass 42 = .ok (.putfield 99, 3) := by decide +kernel
theorem dX10_pass_45 : decode cX10_pass 45 = .ok (.aload_n 0, 1) := by decide +kernel
theorem dX10_pass_46 : decode cX10_pass 46 = .ok (.getfield 10, 3) := by decide +kernel
theorem dX10_pass_49 : decode cX10_pass 49 = .ok (.getfield 99, 3) := by decide +kernel
theorem dX10_pass_52 : decode cX10_pass 52 = .ok (.ireturn, 1) := by decide +kernel
set_option maxRecDepth 20000 in
theorem ggX10_mend_X10_needQuotation : GoodIn wsX10_mend wsX10_needQuotation := goodIn_ca (goodIn_r _ [10, 11, 12, 4, 13, 14, 15, 9, 16, 17, 18, 19, 20, 21, 22, 23, 24, 25, 26, 27, 28, 135, 136, 137, 138, 139, 140, 141, 142, 143, 144, 145, 146, 147, 148, 149, 150, 151, 152, 153] (by decide +kernel) (by decide +kernel)) (goodIn_sub (fun _ h => List.mem_cons_of_mem _ (List.mem_append_right _ h)) (by decide +kernel))
set_option maxRecDepth 20000 in
theorem gX10_mend_X10_needQuotation : GoodIn wsX10_mend (wsV RX10 102 RX10 yX10_needQuotation wsX10_needQuotation) := goodIn_app (goodIn_of _ (by decide +kernel)) ggX10_mend_X10_needQuotation
set_option maxRecDepth 20000 in
theorem ggX10_mend_X5_find : GoodIn wsX10_mend wsX5_find := goodIn_r _ [33, 34, 35, 24, 25, 20, 26, 27, 28, 36, 37, 38, 39, 40, 41, 42, 43, 44, 45, 46, 47, 48, 49, 50, 51, 52, 53, 54, 55, 56, 57, 58, 59, 60, 61, 62, 63, 64, 65, 66, 67, 68, 69, 70, 71, 154, 155, 156, 142, 143, 144, 145, 146, 147, 148, 149, 157, 158, 159, 160, 150, 151, 152, 153, 161] (by decide +kernel) (by decide +kernel)
set_option maxRecDepth 20000 in
theorem gX10_mend_X5_find : GoodIn wsX10_mend (wsV RX10 106 RX5 yX5_find wsX5_find) := goodIn_app (goodIn_of _ (by decide +kernel)) ggX10_mend_X5_find
set_option maxRecDepth 20000 in
theorem ggX10_mend_X5_isRoomFor : GoodIn wsX10_mend wsX5_isRoomFor := goodIn_r _ [75, 34, 35, 24, 25, 20, 26, 27, 28, 76, 77, 78, 79, 80, 81, 82, 37, 38, 39, 40, 41, 142, 143, 144, 145, 146, 147, 148, 149, 154, 155, 156, 157, 158, 159, 160, 150, 151, 152, 153, 161] (by decide +kernel) (by decide +kernel)
set_option maxRecDepth 20000 in
theorem gX10_mend_X5_isRoomFor : GoodIn wsX10_mend (wsV RX10 112 RX5 yX5_isRoomFor wsX5_isRoomFor) := goodIn_app (goodIn_of _ (by decide +kernel)) ggX10_mend_X5_isRoomFor
set_option maxRecDepth 20000 in
theorem ggX10_mend_X2_save : GoodIn wsX10_mend wsX2_save := goodIn_r _ [87, 88, 89, 90, 91, 92, 86, 93, 94, 95, 96, 97, 20, 98, 22, 99, 100, 24, 25, 26, 27, 28, 101, 102, 103, 79, 104, 105, 106, 107, 108, 109, 110, 111, 81, 112, 113, 114, 39, 115, 41, 116, 117, 118, 119, 162, 163, 164, 165, 166, 150, 151, 152, 153, 142, 143, 144, 145, 146, 147, 148, 149, 161] (by decide +kernel) (by decide +kernel)
set_option maxRecDepth 20000 in
theorem gX10_mend_X2_save : GoodIn wsX10_mend (wsV RX10 78 RX2 yX2_save wsX2_save) := goodIn_app (goodIn_of _ (by decide +kernel)) ggX10_mend_X2_save
set_option maxRecDepth 20000 in
theorem ggX10_mend_X5_putRight : GoodIn wsX10_mend wsX5_putRight := goodIn_r _ [123, 34, 35, 24, 25, 20, 26, 27, 28, 36, 37, 38, 39, 40, 41, 124, 125, 126, 79, 127, 111, 81, 109, 107, 108, 82, 128, 77, 78, 80, 129, 130, 131, 132, 116, 117, 118, 119, 133, 54, 55, 56, 134, 50, 51, 52, 142, 143, 144, 145, 146, 147, 148, 149, 154, 155, 156, 157, 158, 159, 160, 150, 151, 152, 153, 161] (by decide +kernel) (by decide +kernel)
set_option maxRecDepth 20000 in
theorem gX10_mend_X5_putRight : GoodIn wsX10_mend (wsV RX10 118 RX5 yX5_putRight wsX5_putRight) := goodIn_app (goodIn_of _ (by decide +kernel)) ggX10_mend_X5_putRight
theorem dX10_mend_0 : decode cX10_mend 0 = .ok (.aload_n 0, 1) := by decide +kernel
theorem dX10_mend_1 : decode cX10_mend 1 = .ok (.iload_n 1, 1) := by decide +kernel
theorem dX10_mend_2 : decode cX10_mend 2 = .ok (.iload_n 2, 1) := by decide +kernel
theorem dX10_mend_3 : decode cX10_mend 3 = .ok (.invokevirtual 102, 3) := by decide +kernel
theorem dX10_mend_6 : decode cX10_mend 6 = .ok (.aload_n 0, 1) := by decide +kernel
theorem dX10_mend_7 : decode cX10_mend 7 = .ok (.getfield 40, 3) := by decide +kernel
theorem dX10_mend_10 : decode cX10_mend 10 = .ok (.aload_n 0, 1) := by decide +kernel
theorem dX10_mend_11 : decode cX10_mend 11 = .ok (.getfield 10, 3) := by decide +kernel
theorem dX10_mend_14 : decode cX10_mend 14 = .ok (.iload_n 1, 1) := by decide +kernel
theorem dX10_mend_15 : decode cX10_mend 15 = .ok (.iload_n 2, 1) := by decide +kernel
theorem dX10_mend_16 : decode cX10_mend 16 = .ok (.invokevirtual 106, 3) := by decide +kernel
theorem dX10_mend_19 : decode cX10_mend 19 = .ok (.istore_n 3, 1) := by decide +kernel
theorem dX10_mend_20 : decode cX10_mend 20 = .ok (.iload_n 3, 1) := by decide +kernel
theorem dX10_mend_21 : decode cX10_mend 21 = .ok (.ifCond .ne 13, 3) := by decide +kernel
theorem dX10_mend_24 : decode cX10_mend 24 = .ok (.new 73, 3) := by decide +kernel
theorem dX10_mend_27 : decode cX10_mend 27 = .ok (.dup, 1) := by decide +kernel
theorem dX10_mend_28 : decode cX10_mend 28 = .ok (.ldc 110, 2) := by decide +kernel
theorem dX10_mend_30 : decode cX10_mend 30 = .ok (.invokespecial 77, 3) := by decide +kernel
theorem dX10_mend_33 : decode cX10_mend 33 = .ok (.athrow, 1) := by decide +kernel
theorem dX10_mend_34 : decode cX10_mend 34 = .ok (.aload_n 0, 1) := by decide +kernel
theorem dX10_mend_35 : decode cX10_mend 35 = .ok (.getfield 40, 3) := by decide +kernel
theorem dX10_mend_38 : decode cX10_mend 38 = .ok (.aload_n 0, 1) := by decide +kernel
theorem dX10_mend_39 : decode cX10_mend 39 = .ok (.getfield 10, 3) := by decide +kernel
theorem dX10_mend_42 : decode cX10_mend 42 = .ok (.iload_n 1, 1) := by decide +kernel
theorem dX10_mend_43 : decode cX10_mend 43 = .ok (.iload_n 2, 1) := by decide +kernel
theorem dX10_mend_44 : decode cX10_mend 44 = .ok (.invokevirtual 112, 3) := by decide +kernel
theorem dX10_mend_47 : decode cX10_mend 47 = .ok (.ifCond .ne 13, 3) := by decide +kernel
theorem dX10_mend_50 : decode cX10_mend 50 = .ok (.new 73, 3) := by decide +kernel
theorem dX10_mend_53 : decode cX10_mend 53 = .ok (.dup, 1) := by decide +kernel
theorem dX10_mend_54 : decode cX10_mend 54 = .ok (.ldc 116, 2) := by decide +kernel
theorem dX10_mend_56 : decode cX10_mend 56 = .ok (.invokespecial 77, 3) := by decide +kernel
theorem dX10_mend_59 : decode cX10_mend 59 = .ok (.athrow, 1) := by decide +kernel
theorem dX10_mend_60 : decode cX10_mend 60 = .ok (.aload_n 0, 1) := by decide +kernel
theorem dX10_mend_61 : decode cX10_mend 61 = .ok (.getfield 19, 3) := by decide +kernel
theorem dX10_mend_64 : decode cX10_mend 64 = .ok (.aload_n 0, 1) := by decide +kernel
theorem dX10_mend_65 : decode cX10_mend 65 = .ok (.getfield 10, 3) := by decide +kernel
theorem dX10_mend_68 : decode cX10_mend 68 = .ok (.invokevirtual 78, 3) := by decide +kernel
theorem dX10_mend_71 : decode cX10_mend 71 = .ok (.aload_n 0, 1) := by decide +kernel
theorem dX10_mend_72 : decode cX10_mend 72 = .ok (.getfield 40, 3) := by decide +kernel
theorem dX10_mend_75 : decode cX10_mend 75 = .ok (.aload_n 0, 1) := by decide +kernel
theorem dX10_mend_76 : decode cX10_mend 76 = .ok (.getfield 10, 3) := by decide +kernel
theorem dX10_mend_79 : decode cX10_mend 79 = .ok (.iload_n 1, 1) := by decide +kernel
theorem dX10_mend_80 : decode cX10_mend 80 = .ok (.iload_n 2, 1) := by decide +kernel
theorem dX10_mend_81 : decode cX10_mend 81 = .ok (.invokevirtual 118, 3) := by decide +kernel
theorem dX10_mend_84 : decode cX10_mend 84 = .ok (.iload_n 3, 1) := by decide +kernel
theorem dX10_mend_85 : decode cX10_mend 85 = .ok (.ireturn, 1) := by decide +kernel
set_option maxRecDepth 20000 in
theorem ggX10_mendAll_X2_save : GoodIn wsX10_mendAll wsX2_save := goodIn_r _ [8, 9, 10, 11, 12, 13, 7, 14, 15, 16, 17, 18, 19, 20, 21, 22, 23, 24, 25, 26, 27, 28, 29, 30, 31, 32, 33, 34, 35, 36, 37, 38, 39, 40, 41, 42, 43, 44, 45, 46, 47, 48, 49, 50, 51, 132, 133, 134, 135, 136, 128, 129, 130, 131, 137, 138, 139, 140, 141, 142, 143, 144, 145] (by decide +kernel) (by decide +kernel)
set_option maxRecDepth 20000 in
theorem gX10_mendAll_X2_save : GoodIn wsX10_mendAll (wsV RX10 78 RX2 yX2_save wsX2_save) := goodIn_app (goodIn_of _ (by decide +kernel)) ggX10_mendAll_X2_save
set_option maxRecDepth 20000 in
theorem ggX10_mendAll_X5_putAllRight : GoodIn wsX10_mendAll wsX5_putAllRight := goodIn_r _ [56, 57, 24, 25, 19, 26, 27, 28, 58, 59, 60, 55, 61, 62, 63, 64, 65, 45, 66, 47, 67, 68, 69, 70, 71, 72, 73, 74, 75, 76, 77, 78, 79, 80, 81, 82, 83, 84, 85, 86, 87, 88, 89, 90, 91, 92, 93, 94, 95, 96, 97, 98, 99, 100, 101, 102, 103, 32, 104, 41, 105, 106, 107, 108, 109, 110, 111, 112, 113, 40, 38, 36, 37, 114, 115, 116, 117, 118, 48, 49, 50, 51, 119, 120, 137, 138, 139, 140, 141, 142, 143, 144, 128, 129, 130, 131, 146, 147, 148, 149, 150, 151, 152, 145] (by decide +kernel) (by decide +kernel)
set_option maxRecDepth 20000 in
theorem gX10_mendAll_X5_putAllRight : GoodIn wsX10_mendAll (wsV RX10 122 RX5 yX5_putAllRight wsX5_putAllRight) := goodIn_app (goodIn_of _ (by decide +kernel)) ggX10_mendAll_X5_putAllRight
theorem dX10_mendAll_0 : decode cX10_mendAll 0 = .ok (.aload_n 0, 1) := by decide +kernel
theorem dX10_mendAll_1 : decode cX10_mendAll 1 = .ok (.getfield 19, 3) := by decide +kernel
theorem dX10_mendAll_4 : decode cX10_mendAll 4 = .ok (.aload_n 0, 1) := by decide +kernel
theorem dX10_mendAll_5 : decode cX10_mendAll 5 = .ok (.getfield 10, 3) := by decide +kernel
theorem dX10_mendAll_8 : decode cX10_mendAll 8 = .ok (.invokevirtual 78, 3) := by decide +kernel
theorem dX10_mendAll_11 : decode cX10_mendAll 11 = .ok (.iconst 0, 1) := by decide +kernel
theorem dX10_mendAll_12 : decode cX10_mendAll 12 = .ok (.istore_n 1, 1) := by decide +kernel
theorem dX10_mendAll_13 : decode cX10_mendAll 13 = .ok (.iconst 0, 1) := by decide +kernel
theorem dX10_mendAll_14 : decode cX10_mendAll 14 = .ok (.istore_n 2, 1) := by decide +kernel
theorem dX10_mendAll_15 : decode cX10_mendAll 15 = .ok (.iload_n 2, 1) := by decide +kernel
theorem dX10_mendAll_16 : decode cX10_mendAll 16 = .ok (.aload_n 0, 1) := by decide +kernel
theorem dX10_mendAll_17 : decode cX10_mendAll 17 = .ok (.getfield 10, 3) := by decide +kernel
theorem dX10_mendAll_20 : decode cX10_mendAll 20 = .ok (.getfield 94, 3) := by decide +kernel
theorem dX10_mendAll_23 : decode cX10_mendAll 23 = .ok (.if_icmp .ge 24, 3) := by decide +kernel
theorem dX10_mendAll_26 : decode cX10_mendAll 26 = .ok (.iload_n 1, 1) := by decide +kernel
theorem dX10_mendAll_27 : decode cX10_mendAll 27 = .ok (.aload_n 0, 1) := by decide +kernel
theorem dX10_mendAll_28 : decode cX10_mendAll 28 = .ok (.getfield 40, 3) := by decide +kernel
theorem dX10_mendAll_31 : decode cX10_mendAll 31 = .ok (.aload_n 0, 1) := by decide +kernel
theorem dX10_mendAll_32 : decode cX10_mendAll 32 = .ok (.getfield 10, 3) := by decide +kernel
theorem dX10_mendAll_35 : decode cX10_mendAll 35 = .ok (.iload_n 2, 1) := by decide +kernel
theorem dX10_mendAll_36 : decode cX10_mendAll 36 = .ok (.invokevirtual 122, 3) := by decide +kernel
theorem dX10_mendAll_39 : decode cX10_mendAll 39 = .ok (.iadd, 1) := by decide +kernel
theorem dX10_mendAll_40 : decode cX10_mendAll 40 = .ok (.istore_n 1, 1) := by decide +kernel
theorem dX10_mendAll_41 : decode cX10_mendAll 41 = .ok (.iinc 2 1, 3) := by decide +kernel
theorem dX10_mendAll_44 : decode cX10_mendAll 44 = .ok (.goto (-29), 3) := by decide +kernel
theorem dX10_mendAll_47 : decode cX10_mendAll 47 = .ok (.iload_n 1, 1) := by decide +kernel
theorem dX10_mendAll_48 : decode cX10_mendAll 48 = .ok (.ireturn, 1) := by decide +kernel
set_option maxRecDepth 20000 in
theorem ggX10_withdraw_X9_at : GoodIn wsX10_withdraw wsX9_at := goodIn_r _ [9, 10, 11, 61, 62, 63, 64] (by decide +kernel) (by decide +kernel)
set_option maxRecDepth 20000 in
theorem gX10_withdraw_X9_at : GoodIn wsX10_withdraw (wsV RX10 128 RX9 yX9_at wsX9_at) := goodIn_app (goodIn_of _ (by decide +kernel)) ggX10_withdraw_X9_at
set_option maxRecDepth 20000 in
theorem ggX10_withdraw_X2_save : GoodIn wsX10_withdraw wsX2_save := goodIn_r _ [16, 17, 18, 19, 20, 21, 15, 22, 23, 24, 25, 26, 8, 27, 28, 29, 30, 6, 7, 9, 10, 11, 31, 32, 33, 34, 35, 36, 37, 38, 39, 40, 41, 42, 43, 44, 45, 46, 47, 48, 49, 50, 51, 52, 53, 73, 74, 75, 76, 77, 61, 62, 63, 64, 65, 66, 67, 68, 69, 70, 71, 72, 78] (by decide +kernel) (by decide +kernel)
set_option maxRecDepth 20000 in
theorem gX10_withdraw_X2_save : GoodIn wsX10_withdraw (wsV RX10 78 RX2 yX2_save wsX2_save) := goodIn_app (goodIn_of _ (by decide +kernel)) ggX10_withdraw_X2_save
theorem dX10_withdraw_0 : decode cX10_withdraw 0 = .ok (.aload_n 0, 1) := by decide +kernel
theorem dX10_withdraw_1 : decode cX10_withdraw 1 = .ok (.getfield 10, 3) := by decide +kernel
theorem dX10_withdraw_4 : decode cX10_withdraw 4 = .ok (.getfield 94, 3) := by decide +kernel
theorem dX10_withdraw_7 : decode cX10_withdraw 7 = .ok (.ifCond .ne 13, 3) := by decide +kernel
theorem dX10_withdraw_10 : decode cX10_withdraw 10 = .ok (.new 73, 3) := by decide +kernel
theorem dX10_withdraw_13 : decode cX10_withdraw 13 = .ok (.dup, 1) := by decide +kernel
theorem dX10_withdraw_14 : decode cX10_withdraw 14 = .ok (.ldc 126, 2) := by decide +kernel
theorem dX10_withdraw_16 : decode cX10_withdraw 16 = .ok (.invokespecial 77, 3) := by decide +kernel
theorem dX10_withdraw_19 : decode cX10_withdraw 19 = .ok (.athrow, 1) := by decide +kernel
theorem dX10_withdraw_20 : decode cX10_withdraw 20 = .ok (.aload_n 0, 1) := by decide +kernel
theorem dX10_withdraw_21 : decode cX10_withdraw 21 = .ok (.getfield 10, 3) := by decide +kernel
theorem dX10_withdraw_24 : decode cX10_withdraw 24 = .ok (.aload_n 0, 1) := by decide +kernel
theorem dX10_withdraw_25 : decode cX10_withdraw 25 = .ok (.getfield 10, 3) := by decide +kernel
theorem dX10_withdraw_28 : decode cX10_withdraw 28 = .ok (.getfield 94, 3) := by decide +kernel
theorem dX10_withdraw_31 : decode cX10_withdraw 31 = .ok (.iconst 1, 1) := by decide +kernel
theorem dX10_withdraw_32 : decode cX10_withdraw 32 = .ok (.isub, 1) := by decide +kernel
theorem dX10_withdraw_33 : decode cX10_withdraw 33 = .ok (.invokevirtual 128, 3) := by decide +kernel
theorem dX10_withdraw_36 : decode cX10_withdraw 36 = .ok (.getfield 132, 3) := by decide +kernel
theorem dX10_withdraw_39 : decode cX10_withdraw 39 = .ok (.aload_n 0, 1) := by decide +kernel
theorem dX10_withdraw_40 : decode cX10_withdraw 40 = .ok (.getfield 10, 3) := by decide +kernel
theorem dX10_withdraw_43 : decode cX10_withdraw 43 = .ok (.getfield 99, 3) := by decide +kernel
theorem dX10_withdraw_46 : decode cX10_withdraw 46 = .ok (.if_icmp .eq 13, 3) := by decide +kernel
theorem dX10_withdraw_49 : decode cX10_withdraw 49 = .ok (.new 73, 3) := by decide +kernel
theorem dX10_withdraw_52 : decode cX10_withdraw 52 = .ok (.dup, 1) := by decide +kernel
theorem dX10_withdraw_53 : decode cX10_withdraw 53 = .ok (.ldc 137, 2) := by decide +kernel
theorem dX10_withdraw_55 : decode cX10_withdraw 55 = .ok (.invokespecial 77, 3) := by decide +kernel
theorem dX10_withdraw_58 : decode cX10_withdraw 58 = .ok (.athrow, 1) := by decide +kernel
theorem dX10_withdraw_59 : decode cX10_withdraw 59 = .ok (.aload_n 0, 1) := by decide +kernel
theorem dX10_withdraw_60 : decode cX10_withdraw 60 = .ok (.getfield 19, 3) := by decide +kernel
theorem dX10_withdraw_63 : decode cX10_withdraw 63 = .ok (.aload_n 0, 1) := by decide +kernel
theorem dX10_withdraw_64 : decode cX10_withdraw 64 = .ok (.getfield 10, 3) := by decide +kernel
theorem dX10_withdraw_67 : decode cX10_withdraw 67 = .ok (.invokevirtual 78, 3) := by decide +kernel
theorem dX10_withdraw_70 : decode cX10_withdraw 70 = .ok (.aload_n 0, 1) := by decide +kernel
theorem dX10_withdraw_71 : decode cX10_withdraw 71 = .ok (.getfield 10, 3) := by decide +kernel
theorem dX10_withdraw_74 : decode cX10_withdraw 74 = .ok (.dup, 1) := by decide +kernel
theorem dX10_withdraw_75 : decode cX10_withdraw 75 = .ok (.getfield 94, 3) := by decide +kernel
theorem dX10_withdraw_78 : decode cX10_withdraw 78 = .ok (.iconst 1, 1) := by decide +kernel
theorem dX10_withdraw_79 : decode cX10_withdraw 79 = .ok (.isub, 1) := by decide +kernel
theorem dX10_withdraw_80 : decode cX10_withdraw 80 = .ok (.putfield 94, 3) := by decide +kernel
theorem dX10_withdraw_83 : decode cX10_withdraw 83 = .ok (.aload_n 0, 1) := by decide +kernel
theorem dX10_withdraw_84 : decode cX10_withdraw 84 = .ok (.getfield 10, 3) := by decide +kernel
theorem dX10_withdraw_87 : decode cX10_withdraw 87 = .ok (.getfield 94, 3) := by decide +kernel
theorem dX10_withdraw_90 : decode cX10_withdraw 90 = .ok (.ireturn, 1) := by decide +kernel
theorem dX10_day_0 : decode cX10_day 0 = .ok (.aload_n 0, 1) := by decide +kernel
theorem dX10_day_1 : decode cX10_day 1 = .ok (.getfield 10, 3) := by decide +kernel
theorem dX10_day_4 : decode cX10_day 4 = .ok (.getfield 99, 3) := by decide +kernel
theorem dX10_day_7 : decode cX10_day 7 = .ok (.ireturn, 1) := by decide +kernel
theorem dX10_pamphlets_0 : decode cX10_pamphlets 0 = .ok (.aload_n 0, 1) := by decide +kernel
theorem dX10_pamphlets_1 : decode cX10_pamphlets 1 = .ok (.getfield 10, 3) := by decide +kernel
theorem dX10_pamphlets_4 : decode cX10_pamphlets 4 = .ok (.getfield 94, 3) := by decide +kernel
theorem dX10_pamphlets_7 : decode cX10_pamphlets 7 = .ok (.ireturn, 1) := by decide +kernel
set_option maxRecDepth 20000 in
theorem ggX10_authorOf_X10_needPamphlet : GoodIn wsX10_authorOf wsX10_needPamphlet := goodIn_ca (goodIn_r _ [6, 7, 8, 1, 9, 10, 11, 12, 13, 14, 21, 22, 23, 24, 25, 26, 27, 36, 37, 38, 39] (by decide +kernel) (by decide +kernel)) (goodIn_sub (fun _ h => List.mem_cons_of_mem _ (List.mem_append_right _ h)) (by decide +kernel))
set_option maxRecDepth 20000 in
theorem gX10_authorOf_X10_needPamphlet : GoodIn wsX10_authorOf (wsV RX10 139 RX10 yX10_needPamphlet wsX10_needPamphlet) := goodIn_app (goodIn_of _ (by decide +kernel)) ggX10_authorOf_X10_needPamphlet
set_option maxRecDepth 20000 in
theorem ggX10_authorOf_X9_at : GoodIn wsX10_authorOf wsX9_at := goodIn_r _ [18, 19, 20, 36, 37, 38, 39] (by decide +kernel) (by decide +kernel)
set_option maxRecDepth 20000 in
theorem gX10_authorOf_X9_at : GoodIn wsX10_authorOf (wsV RX10 128 RX9 yX9_at wsX9_at) := goodIn_app (goodIn_of _ (by decide +kernel)) ggX10_authorOf_X9_at
theorem dX10_authorOf_0 : decode cX10_authorOf 0 = .ok (.aload_n 0, 1) := by decide +kernel
theorem dX10_authorOf_1 : decode cX10_authorOf 1 = .ok (.iload_n 1, 1) := by decide +kernel
theorem dX10_authorOf_2 : decode cX10_authorOf 2 = .ok (.invokevirtual 139, 3) := by decide +kernel
theorem dX10_authorOf_5 : decode cX10_authorOf 5 = .ok (.aload_n 0, 1) := by decide +kernel
theorem dX10_authorOf_6 : decode cX10_authorOf 6 = .ok (.getfield 10, 3) := by decide +kernel
theorem dX10_authorOf_9 : decode cX10_authorOf 9 = .ok (.iload_n 1, 1) := by decide +kernel
theorem dX10_authorOf_10 : decode cX10_authorOf 10 = .ok (.invokevirtual 128, 3) := by decide +kernel
theorem dX10_authorOf_13 : decode cX10_authorOf 13 = .ok (.getfield 143, 3) := by decide +kernel
theorem dX10_authorOf_16 : decode cX10_authorOf 16 = .ok (.ireturn, 1) := by decide +kernel
set_option maxRecDepth 20000 in
theorem ggX10_dayOf_X10_needPamphlet : GoodIn wsX10_dayOf wsX10_needPamphlet := goodIn_ca (goodIn_r _ [6, 7, 8, 1, 9, 10, 11, 12, 13, 14, 21, 22, 23, 24, 25, 26, 27, 36, 37, 38, 39] (by decide +kernel) (by decide +kernel)) (goodIn_sub (fun _ h => List.mem_cons_of_mem _ (List.mem_append_right _ h)) (by decide +kernel))
set_option maxRecDepth 20000 in
theorem gX10_dayOf_X10_needPamphlet : GoodIn wsX10_dayOf (wsV RX10 139 RX10 yX10_needPamphlet wsX10_needPamphlet) := goodIn_app (goodIn_of _ (by decide +kernel)) ggX10_dayOf_X10_needPamphlet
set_option maxRecDepth 20000 in
theorem ggX10_dayOf_X9_at : GoodIn wsX10_dayOf wsX9_at := goodIn_r _ [18, 19, 20, 36, 37, 38, 39] (by decide +kernel) (by decide +kernel)
set_option maxRecDepth 20000 in
theorem gX10_dayOf_X9_at : GoodIn wsX10_dayOf (wsV RX10 128 RX9 yX9_at wsX9_at) := goodIn_app (goodIn_of _ (by decide +kernel)) ggX10_dayOf_X9_at
theorem dX10_dayOf_0 : decode cX10_dayOf 0 = .ok (.aload_n 0, 1) := by decide +kernel
theorem dX10_dayOf_1 : decode cX10_dayOf 1 = .ok (.iload_n 1, 1) := by decide +kernel
theorem dX10_dayOf_2 : decode cX10_dayOf 2 = .ok (.invokevirtual 139, 3) := by decide +kernel
theorem dX10_dayOf_5 : decode cX10_dayOf 5 = .ok (.aload_n 0, 1) := by decide +kernel
theorem dX10_dayOf_6 : decode cX10_dayOf 6 = .ok (.getfield 10, 3) := by decide +kernel
theorem dX10_dayOf_9 : decode cX10_dayOf 9 = .ok (.iload_n 1, 1) := by decide +kernel
theorem dX10_dayOf_10 : decode cX10_dayOf 10 = .ok (.invokevirtual 128, 3) := by decide +kernel
theorem dX10_dayOf_13 : decode cX10_dayOf 13 = .ok (.getfield 132, 3) := by decide +kernel
theorem dX10_dayOf_16 : decode cX10_dayOf 16 = .ok (.ireturn, 1) := by decide +kernel
set_option maxRecDepth 20000 in
theorem ggX10_wordsOf_X10_needPamphlet : GoodIn wsX10_wordsOf wsX10_needPamphlet := goodIn_ca (goodIn_r _ [6, 7, 8, 1, 9, 10, 11, 12, 13, 14, 21, 22, 23, 24, 25, 26, 27, 36, 37, 38, 39] (by decide +kernel) (by decide +kernel)) (goodIn_sub (fun _ h => List.mem_cons_of_mem _ (List.mem_append_right _ h)) (by decide +kernel))
set_option maxRecDepth 20000 in
theorem gX10_wordsOf_X10_needPamphlet : GoodIn wsX10_wordsOf (wsV RX10 139 RX10 yX10_needPamphlet wsX10_needPamphlet) := goodIn_app (goodIn_of _ (by decide +kernel)) ggX10_wordsOf_X10_needPamphlet
set_option maxRecDepth 20000 in
theorem ggX10_wordsOf_X9_at : GoodIn wsX10_wordsOf wsX9_at := goodIn_r _ [18, 19, 20, 36, 37, 38, 39] (by decide +kernel) (by decide +kernel)
set_option maxRecDepth 20000 in
theorem gX10_wordsOf_X9_at : GoodIn wsX10_wordsOf (wsV RX10 128 RX9 yX9_at wsX9_at) := goodIn_app (goodIn_of _ (by decide +kernel)) ggX10_wordsOf_X9_at
theorem dX10_wordsOf_0 : decode cX10_wordsOf 0 = .ok (.aload_n 0, 1) := by decide +kernel
theorem dX10_wordsOf_1 : decode cX10_wordsOf 1 = .ok (.iload_n 1, 1) := by decide +kernel
theorem dX10_wordsOf_2 : decode cX10_wordsOf 2 = .ok (.invokevirtual 139, 3) := by decide +kernel
theorem dX10_wordsOf_5 : decode cX10_wordsOf 5 = .ok (.aload_n 0, 1) := by decide +kernel
theorem dX10_wordsOf_6 : decode cX10_wordsOf 6 = .ok (.getfield 10, 3) := by decide +kernel
theorem dX10_wordsOf_9 : decode cX10_wordsOf 9 = .ok (.iload_n 1, 1) := by decide +kernel
theorem dX10_wordsOf_10 : decode cX10_wordsOf 10 = .ok (.invokevirtual 128, 3) := by decide +kernel
theorem dX10_wordsOf_13 : decode cX10_wordsOf 13 = .ok (.getfield 146, 3) := by decide +kernel
theorem dX10_wordsOf_16 : decode cX10_wordsOf 16 = .ok (.ireturn, 1) := by decide +kernel
set_option maxRecDepth 20000 in
theorem ggX10_pagesOf_X10_needPamphlet : GoodIn wsX10_pagesOf wsX10_needPamphlet := goodIn_ca (goodIn_r _ [6, 7, 8, 1, 9, 10, 11, 12, 13, 14, 27, 28, 29, 30, 31, 32, 33, 34, 35, 36, 37] (by decide +kernel) (by decide +kernel)) (goodIn_sub (fun _ h => List.mem_cons_of_mem _ (List.mem_append_right _ h)) (by decide +kernel))
set_option maxRecDepth 20000 in
theorem gX10_pagesOf_X10_needPamphlet : GoodIn wsX10_pagesOf (wsV RX10 139 RX10 yX10_needPamphlet wsX10_needPamphlet) := goodIn_app (goodIn_of _ (by decide +kernel)) ggX10_pagesOf_X10_needPamphlet
set_option maxRecDepth 20000 in
theorem ggX10_pagesOf_X9_at : GoodIn wsX10_pagesOf wsX9_at := goodIn_r _ [18, 19, 20, 34, 35, 36, 37] (by decide +kernel) (by decide +kernel)
set_option maxRecDepth 20000 in
theorem gX10_pagesOf_X9_at : GoodIn wsX10_pagesOf (wsV RX10 128 RX9 yX9_at wsX9_at) := goodIn_app (goodIn_of _ (by decide +kernel)) ggX10_pagesOf_X9_at
set_option maxRecDepth 20000 in
theorem ggX10_pagesOf_X4_pageCount : GoodIn wsX10_pagesOf wsX4_pageCount := goodIn_r _ [25, 26, 38, 39, 40, 41, 42, 43, 44, 45] (by decide +kernel) (by decide +kernel)
set_option maxRecDepth 20000 in
theorem gX10_pagesOf_X4_pageCount : GoodIn wsX10_pagesOf (wsV RX10 149 RX4 yX4_pageCount wsX4_pageCount) := goodIn_app (goodIn_of _ (by decide +kernel)) ggX10_pagesOf_X4_pageCount
theorem dX10_pagesOf_0 : decode cX10_pagesOf 0 = .ok (.aload_n 0, 1) := by decide +kernel
theorem dX10_pagesOf_1 : decode cX10_pagesOf 1 = .ok (.iload_n 1, 1) := by decide +kernel
theorem dX10_pagesOf_2 : decode cX10_pagesOf 2 = .ok (.invokevirtual 139, 3) := by decide +kernel
theorem dX10_pagesOf_5 : decode cX10_pagesOf 5 = .ok (.aload_n 0, 1) := by decide +kernel
theorem dX10_pagesOf_6 : decode cX10_pagesOf 6 = .ok (.getfield 10, 3) := by decide +kernel
theorem dX10_pagesOf_9 : decode cX10_pagesOf 9 = .ok (.iload_n 1, 1) := by decide +kernel
theorem dX10_pagesOf_10 : decode cX10_pagesOf 10 = .ok (.invokevirtual 128, 3) := by decide +kernel
theorem dX10_pagesOf_13 : decode cX10_pagesOf 13 = .ok (.invokevirtual 149, 3) := by decide +kernel
theorem dX10_pagesOf_16 : decode cX10_pagesOf 16 = .ok (.ireturn, 1) := by decide +kernel
set_option maxRecDepth 20000 in
theorem ggX10_wordsOn_X10_needPamphlet : GoodIn wsX10_wordsOn wsX10_needPamphlet := goodIn_ca (goodIn_r _ [12, 1, 2, 3, 13, 14, 15, 16, 17, 18, 31, 32, 33, 34, 35, 36, 37, 46, 47, 48, 49] (by decide +kernel) (by decide +kernel)) (goodIn_sub (fun _ h => List.mem_cons_of_mem _ (List.mem_append_right _ h)) (by decide +kernel))
set_option maxRecDepth 20000 in
theorem gX10_wordsOn_X10_needPamphlet : GoodIn wsX10_wordsOn (wsV RX10 139 RX10 yX10_needPamphlet wsX10_needPamphlet) := goodIn_app (goodIn_of _ (by decide +kernel)) ggX10_wordsOn_X10_needPamphlet
set_option maxRecDepth 20000 in
theorem ggX10_wordsOn_X9_at : GoodIn wsX10_wordsOn wsX9_at := goodIn_r _ [22, 23, 24, 46, 47, 48, 49] (by decide +kernel) (by decide +kernel)
set_option maxRecDepth 20000 in
theorem gX10_wordsOn_X9_at : GoodIn wsX10_wordsOn (wsV RX10 128 RX9 yX9_at wsX9_at) := goodIn_app (goodIn_of _ (by decide +kernel)) ggX10_wordsOn_X9_at
set_option maxRecDepth 20000 in
theorem ggX10_wordsOn_X4_pageCount : GoodIn wsX10_wordsOn wsX4_pageCount := goodIn_r _ [29, 30, 38, 39, 40, 41, 42, 43, 44, 45] (by decide +kernel) (by decide +kernel)
set_option maxRecDepth 20000 in
theorem gX10_wordsOn_X4_pageCount : GoodIn wsX10_wordsOn (wsV RX10 149 RX4 yX4_pageCount wsX4_pageCount) := goodIn_app (goodIn_of _ (by decide +kernel)) ggX10_wordsOn_X4_pageCount
theorem dX10_wordsOn_0 : decode cX10_wordsOn 0 = .ok (.aload_n 0, 1) := by decide +kernel
theorem dX10_wordsOn_1 : decode cX10_wordsOn 1 = .ok (.iload_n 1, 1) := by decide +kernel
theorem dX10_wordsOn_2 : decode cX10_wordsOn 2 = .ok (.invokevirtual 139, 3) := by decide +kernel
theorem dX10_wordsOn_5 : decode cX10_wordsOn 5 = .ok (.aload_n 0, 1) := by decide +kernel
theorem dX10_wordsOn_6 : decode cX10_wordsOn 6 = .ok (.getfield 10, 3) := by decide +kernel
theorem dX10_wordsOn_9 : decode cX10_wordsOn 9 = .ok (.iload_n 1, 1) := by decide +kernel
theorem dX10_wordsOn_10 : decode cX10_wordsOn 10 = .ok (.invokevirtual 128, 3) := by decide +kernel
theorem dX10_wordsOn_13 : decode cX10_wordsOn 13 = .ok (.astore_n 3, 1) := by decide +kernel
theorem dX10_wordsOn_14 : decode cX10_wordsOn 14 = .ok (.iload_n 2, 1) := by decide +kernel
theorem dX10_wordsOn_15 : decode cX10_wordsOn 15 = .ok (.ifCond .lt 11, 3) := by decide +kernel
theorem dX10_wordsOn_18 : decode cX10_wordsOn 18 = .ok (.iload_n 2, 1) := by decide +kernel
theorem dX10_wordsOn_19 : decode cX10_wordsOn 19 = .ok (.aload_n 3, 1) := by decide +kernel
theorem dX10_wordsOn_20 : decode cX10_wordsOn 20 = .ok (.invokevirtual 149, 3) := by decide +kernel
theorem dX10_wordsOn_23 : decode cX10_wordsOn 23 = .ok (.if_icmp .lt 13, 3) := by decide +kernel
theorem dX10_wordsOn_26 : decode cX10_wordsOn 26 = .ok (.new 152, 3) := by decide +kernel
theorem dX10_wordsOn_29 : decode cX10_wordsOn 29 = .ok (.dup, 1) := by decide +kernel
theorem dX10_wordsOn_30 : decode cX10_wordsOn 30 = .ok (.ldc 154, 2) := by decide +kernel
theorem dX10_wordsOn_32 : decode cX10_wordsOn 32 = .ok (.invokespecial 156, 3) := by decide +kernel
theorem dX10_wordsOn_35 : decode cX10_wordsOn 35 = .ok (.athrow, 1) := by decide +kernel
theorem dX10_wordsOn_36 : decode cX10_wordsOn 36 = .ok (.bipush 8, 2) := by decide +kernel
theorem dX10_wordsOn_38 : decode cX10_wordsOn 38 = .ok (.aload_n 3, 1) := by decide +kernel
theorem dX10_wordsOn_39 : decode cX10_wordsOn 39 = .ok (.getfield 146, 3) := by decide +kernel
theorem dX10_wordsOn_42 : decode cX10_wordsOn 42 = .ok (.iload_n 2, 1) := by decide +kernel
theorem dX10_wordsOn_43 : decode cX10_wordsOn 43 = .ok (.bipush 8, 2) := by decide +kernel
theorem dX10_wordsOn_45 : decode cX10_wordsOn 45 = .ok (.imul, 1) := by decide +kernel
theorem dX10_wordsOn_46 : decode cX10_wordsOn 46 = .ok (.isub, 1) := by decide +kernel
theorem dX10_wordsOn_47 : decode cX10_wordsOn 47 = .ok (.invokestatic 157, 3) := by decide +kernel
theorem dX10_wordsOn_50 : decode cX10_wordsOn 50 = .ok (.ireturn, 1) := by decide +kernel
set_option maxRecDepth 20000 in
theorem ggX10_letterOf_X10_needWord : GoodIn wsX10_letterOf wsX10_needWord := goodIn_ca (goodIn_r _ [6, 7, 8, 1, 9, 10, 11, 5, 12, 13, 14, 15, 16, 17, 18, 19, 20, 21, 22, 23, 24, 37, 38, 39, 40, 41, 42, 43, 44, 45, 46, 47, 48, 49, 50, 51, 52, 53, 54, 55] (by decide +kernel) (by decide +kernel)) (goodIn_sub (fun _ h => List.mem_cons_of_mem _ (List.mem_append_right _ h)) (by decide +kernel))
set_option maxRecDepth 20000 in
theorem gX10_letterOf_X10_needWord : GoodIn wsX10_letterOf (wsV RX10 163 RX10 yX10_needWord wsX10_needWord) := goodIn_app (goodIn_of _ (by decide +kernel)) ggX10_letterOf_X10_needWord
set_option maxRecDepth 20000 in
theorem ggX10_letterOf_X10_needIndex : GoodIn wsX10_letterOf wsX10_needIndex := goodIn_ca (goodIn_r _ [27, 7, 8] (by decide +kernel) (by decide +kernel)) (goodIn_sub (fun _ h => List.mem_cons_of_mem _ (List.mem_append_right _ h)) (by decide +kernel))
set_option maxRecDepth 20000 in
theorem gX10_letterOf_X10_needIndex : GoodIn wsX10_letterOf (va_wsS RX10 166 yX10_needIndex wsX10_needIndex) := goodIn_app (goodIn_of _ (by decide +kernel)) ggX10_letterOf_X10_needIndex
set_option maxRecDepth 20000 in
theorem ggX10_letterOf_X9_at : GoodIn wsX10_letterOf wsX9_at := goodIn_r _ [22, 23, 24, 52, 53, 54, 55] (by decide +kernel) (by decide +kernel)
set_option maxRecDepth 20000 in
theorem gX10_letterOf_X9_at : GoodIn wsX10_letterOf (wsV RX10 128 RX9 yX9_at wsX9_at) := goodIn_app (goodIn_of _ (by decide +kernel)) ggX10_letterOf_X9_at
set_option maxRecDepth 20000 in
theorem ggX10_letterOf_X7_at : GoodIn wsX10_letterOf wsX7_at := goodIn_r _ [32, 33, 56] (by decide +kernel) (by decide +kernel)
set_option maxRecDepth 20000 in
theorem gX10_letterOf_X7_at : GoodIn wsX10_letterOf (wsV RX10 173 RX7 yX7_at wsX7_at) := goodIn_app (goodIn_of _ (by decide +kernel)) ggX10_letterOf_X7_at
set_option maxRecDepth 20000 in
theorem ggX10_letterOf_X10_letterIn : GoodIn wsX10_letterOf wsX10_letterIn := goodIn_r _ [36] (by decide +kernel) (by decide +kernel)
set_option maxRecDepth 20000 in
theorem gX10_letterOf_X10_letterIn : GoodIn wsX10_letterOf (va_wsS RX10 178 yX10_letterIn wsX10_letterIn) := goodIn_app (goodIn_of _ (by decide +kernel)) ggX10_letterOf_X10_letterIn
theorem dX10_letterOf_0 : decode cX10_letterOf 0 = .ok (.aload_n 0, 1) := by decide +kernel
theorem dX10_letterOf_1 : decode cX10_letterOf 1 = .ok (.iload_n 1, 1) := by decide +kernel
theorem dX10_letterOf_2 : decode cX10_letterOf 2 = .ok (.iload_n 2, 1) := by decide +kernel
theorem dX10_letterOf_3 : decode cX10_letterOf 3 = .ok (.invokevirtual 163, 3) := by decide +kernel
theorem dX10_letterOf_6 : decode cX10_letterOf 6 = .ok (.iload_n 3, 1) := by decide +kernel
theorem dX10_letterOf_7 : decode cX10_letterOf 7 = .ok (.invokestatic 166, 3) := by decide +kernel
theorem dX10_letterOf_10 : decode cX10_letterOf 10 = .ok (.aload_n 0, 1) := by decide +kernel
theorem dX10_letterOf_11 : decode cX10_letterOf 11 = .ok (.getfield 10, 3) := by decide +kernel
theorem dX10_letterOf_14 : decode cX10_letterOf 14 = .ok (.iload_n 1, 1) := by decide +kernel
theorem dX10_letterOf_15 : decode cX10_letterOf 15 = .ok (.invokevirtual 128, 3) := by decide +kernel
theorem dX10_letterOf_18 : decode cX10_letterOf 18 = .ok (.getfield 169, 3) := by decide +kernel
theorem dX10_letterOf_21 : decode cX10_letterOf 21 = .ok (.iload_n 2, 1) := by decide +kernel
theorem dX10_letterOf_22 : decode cX10_letterOf 22 = .ok (.invokevirtual 173, 3) := by decide +kernel
theorem dX10_letterOf_25 : decode cX10_letterOf 25 = .ok (.iload_n 3, 1) := by decide +kernel
theorem dX10_letterOf_26 : decode cX10_letterOf 26 = .ok (.invokestatic 178, 3) := by decide +kernel
theorem dX10_letterOf_29 : decode cX10_letterOf 29 = .ok (.ireturn, 1) := by decide +kernel
set_option maxRecDepth 20000 in
theorem ggX10_isSameWord_X10_needWord : GoodIn wsX10_isSameWord wsX10_needWord := goodIn_ca (goodIn_r _ [6, 7, 8, 1, 9, 10, 11, 5, 12, 13, 14, 15, 16, 17, 18, 19, 20, 21, 22, 23, 24, 31, 32, 33, 34, 35, 36, 37, 38, 39, 40, 41, 42, 43, 44, 45, 46, 47, 48, 49] (by decide +kernel) (by decide +kernel)) (goodIn_sub (fun _ h => List.mem_cons_of_mem _ (List.mem_append_right _ h)) (by decide +kernel))
set_option maxRecDepth 20000 in
theorem gX10_isSameWord_X10_needWord : GoodIn wsX10_isSameWord (wsV RX10 163 RX10 yX10_needWord wsX10_needWord) := goodIn_app (goodIn_of _ (by decide +kernel)) ggX10_isSameWord_X10_needWord
set_option maxRecDepth 20000 in
theorem ggX10_isSameWord_X9_at : GoodIn wsX10_isSameWord wsX9_at := goodIn_r _ [22, 23, 24, 46, 47, 48, 49] (by decide +kernel) (by decide +kernel)
set_option maxRecDepth 20000 in
theorem gX10_isSameWord_X9_at : GoodIn wsX10_isSameWord (wsV RX10 128 RX9 yX9_at wsX9_at) := goodIn_app (goodIn_of _ (by decide +kernel)) ggX10_isSameWord_X9_at
set_option maxRecDepth 20000 in
theorem ggX10_isSameWord_X7_at : GoodIn wsX10_isSameWord wsX7_at := goodIn_r _ [29, 30, 50] (by decide +kernel) (by decide +kernel)
set_option maxRecDepth 20000 in
theorem gX10_isSameWord_X7_at : GoodIn wsX10_isSameWord (wsV RX10 173 RX7 yX7_at wsX7_at) := goodIn_app (goodIn_of _ (by decide +kernel)) ggX10_isSameWord_X7_at
theorem dX10_isSameWord_0 : decode cX10_isSameWord 0 = .ok (.aload_n 0, 1) := by decide +kernel
theorem dX10_isSameWord_1 : decode cX10_isSameWord 1 = .ok (.iload_n 1, 1) := by decide +kernel
theorem dX10_isSameWord_2 : decode cX10_isSameWord 2 = .ok (.iload_n 2, 1) := by decide +kernel
theorem dX10_isSameWord_3 : decode cX10_isSameWord 3 = .ok (.invokevirtual 163, 3) := by decide +kernel
theorem dX10_isSameWord_6 : decode cX10_isSameWord 6 = .ok (.aload_n 0, 1) := by decide +kernel
theorem dX10_isSameWord_7 : decode cX10_isSameWord 7 = .ok (.iload_n 3, 1) := by decide +kernel
theorem dX10_isSameWord_8 : decode cX10_isSameWord 8 = .ok (.iload 4, 2) := by decide +kernel
theorem dX10_isSameWord_10 : decode cX10_isSameWord 10 = .ok (.invokevirtual 163, 3) := by decide +kernel
theorem dX10_isSameWord_13 : decode cX10_isSameWord 13 = .ok (.aload_n 0, 1) := by decide +kernel
theorem dX10_isSameWord_14 : decode cX10_isSameWord 14 = .ok (.getfield 10, 3) := by decide +kernel
theorem dX10_isSameWord_17 : decode cX10_isSameWord 17 = .ok (.iload_n 1, 1) := by decide +kernel
theorem dX10_isSameWord_18 : decode cX10_isSameWord 18 = .ok (.invokevirtual 128, 3) := by decide +kernel
theorem dX10_isSameWord_21 : decode cX10_isSameWord 21 = .ok (.getfield 169, 3) := by decide +kernel
theorem dX10_isSameWord_24 : decode cX10_isSameWord 24 = .ok (.iload_n 2, 1) := by decide +kernel
theorem dX10_isSameWord_25 : decode cX10_isSameWord 25 = .ok (.invokevirtual 173, 3) := by decide +kernel
theorem dX10_isSameWord_28 : decode cX10_isSameWord 28 = .ok (.aload_n 0, 1) := by decide +kernel
theorem dX10_isSameWord_29 : decode cX10_isSameWord 29 = .ok (.getfield 10, 3) := by decide +kernel
theorem dX10_isSameWord_32 : decode cX10_isSameWord 32 = .ok (.iload_n 3, 1) := by decide +kernel
theorem dX10_isSameWord_33 : decode cX10_isSameWord 33 = .ok (.invokevirtual 128, 3) := by decide +kernel
theorem dX10_isSameWord_36 : decode cX10_isSameWord 36 = .ok (.getfield 169, 3) := by decide +kernel
theorem dX10_isSameWord_39 : decode cX10_isSameWord 39 = .ok (.iload 4, 2) := by decide +kernel
theorem dX10_isSameWord_41 : decode cX10_isSameWord 41 = .ok (.invokevirtual 173, 3) := by decide +kernel
theorem dX10_isSameWord_44 : decode cX10_isSameWord 44 = .ok (.lcmp, 1) := by decide +kernel
theorem dX10_isSameWord_45 : decode cX10_isSameWord 45 = .ok (.ifCond .ne 7, 3) := by decide +kernel
theorem dX10_isSameWord_48 : decode cX10_isSameWord 48 = .ok (.iconst 1, 1) := by decide +kernel
theorem dX10_isSameWord_49 : decode cX10_isSameWord 49 = .ok (.goto 4, 3) := by decide +kernel
theorem dX10_isSameWord_52 : decode cX10_isSameWord 52 = .ok (.iconst 0, 1) := by decide +kernel
theorem dX10_isSameWord_53 : decode cX10_isSameWord 53 = .ok (.ireturn, 1) := by decide +kernel
set_option maxRecDepth 20000 in
theorem ggX10_whyNotPrinted_X6_read : GoodIn wsX10_whyNotPrinted wsX6_read := goodIn_r _ [8, 9, 10, 11, 12, 13, 14, 15, 16, 17, 18, 19, 20, 21, 22, 23, 24, 25, 26, 27, 7, 28, 29, 30, 31, 32, 33, 34, 35, 36, 37, 38, 39, 40, 41, 42, 43, 44, 45, 46, 47, 48, 49, 50, 51, 52, 53, 54, 55, 56, 57, 58, 59, 60, 61, 62, 63, 64, 65, 66, 67, 68, 69, 70, 71, 72, 73, 74, 112, 113, 114, 115, 116, 117, 118, 119, 120, 121, 122, 123, 124, 125, 126, 127] (by decide +kernel) (by decide +kernel)
set_option maxRecDepth 20000 in
theorem gX10_whyNotPrinted_X6_read : GoodIn wsX10_whyNotPrinted (wsV RX10 182 RX6 yX6_read wsX6_read) := goodIn_app (goodIn_of _ (by decide +kernel)) ggX10_whyNotPrinted_X6_read
set_option maxRecDepth 20000 in
theorem ggX10_whyNotPrinted_X6_isAtEndOfText : GoodIn wsX10_whyNotPrinted wsX6_isAtEndOfText := goodIn_r _ [78, 10, 11, 112, 113, 114, 115, 116, 117, 118] (by decide +kernel) (by decide +kernel)
set_option maxRecDepth 20000 in
theorem gX10_whyNotPrinted_X6_isAtEndOfText : GoodIn wsX10_whyNotPrinted (wsV RX10 186 RX6 yX6_isAtEndOfText wsX6_isAtEndOfText) := goodIn_app (goodIn_of _ (by decide +kernel)) ggX10_whyNotPrinted_X6_isAtEndOfText
set_option maxRecDepth 20000 in
theorem ggX10_whyNotPrinted_X9_hasSourcesOf : GoodIn wsX10_whyNotPrinted wsX9_hasSourcesOf := goodIn_r _ [83, 84, 20, 21, 22, 23, 24, 85, 86, 87, 82, 88, 89, 119, 120, 121, 122, 123, 124, 125, 126, 127, 108, 109, 110, 111] (by decide +kernel) (by decide +kernel)
set_option maxRecDepth 20000 in
theorem gX10_whyNotPrinted_X9_hasSourcesOf : GoodIn wsX10_whyNotPrinted (wsV RX10 190 RX9 yX9_hasSourcesOf wsX9_hasSourcesOf) := goodIn_app (goodIn_of _ (by decide +kernel)) ggX10_whyNotPrinted_X9_hasSourcesOf
set_option maxRecDepth 20000 in
theorem ggX10_whyNotPrinted_X9_isSourceOfToday : GoodIn wsX10_whyNotPrinted wsX9_isSourceOfToday := goodIn_r _ [93, 94, 84, 20, 21, 22, 23, 24, 95, 96, 97, 82, 98, 99, 100, 119, 120, 121, 122, 123, 124, 125, 126, 108, 109, 110, 111, 127] (by decide +kernel) (by decide +kernel)
set_option maxRecDepth 20000 in
theorem gX10_whyNotPrinted_X9_isSourceOfToday : GoodIn wsX10_whyNotPrinted (wsV RX10 194 RX9 yX9_isSourceOfToday wsX9_isSourceOfToday) := goodIn_app (goodIn_of _ (by decide +kernel)) ggX10_whyNotPrinted_X9_isSourceOfToday
theorem dX10_whyNotPrinted_0 : decode cX10_whyNotPrinted 0 = .ok (.aload_n 0, 1) := by decide +kernel
theorem dX10_whyNotPrinted_1 : decode cX10_whyNotPrinted 1 = .ok (.getfield 10, 3) := by decide +kernel
theorem dX10_whyNotPrinted_4 : decode cX10_whyNotPrinted 4 = .ok (.getfield 94, 3) := by decide +kernel
theorem dX10_whyNotPrinted_7 : decode cX10_whyNotPrinted 7 = .ok (.bipush 20, 2) := by decide +kernel
theorem dX10_whyNotPrinted_9 : decode cX10_whyNotPrinted 9 = .ok (.if_icmp .lt 5, 3) := by decide +kernel
theorem dX10_whyNotPrinted_12 : decode cX10_whyNotPrinted 12 = .ok (.iconst 1, 1) := by decide +kernel
theorem dX10_whyNotPrinted_13 : decode cX10_whyNotPrinted 13 = .ok (.ireturn, 1) := by decide +kernel
theorem dX10_whyNotPrinted_14 : decode cX10_whyNotPrinted 14 = .ok (.aload_n 0, 1) := by decide +kernel
theorem dX10_whyNotPrinted_15 : decode cX10_whyNotPrinted 15 = .ok (.getfield 33, 3) := by decide +kernel
theorem dX10_whyNotPrinted_18 : decode cX10_whyNotPrinted 18 = .ok (.aload_n 0, 1) := by decide +kernel
theorem dX10_whyNotPrinted_19 : decode cX10_whyNotPrinted 19 = .ok (.getfield 26, 3) := by decide +kernel
theorem dX10_whyNotPrinted_22 : decode cX10_whyNotPrinted 22 = .ok (.invokevirtual 182, 3) := by decide +kernel
theorem dX10_whyNotPrinted_25 : decode cX10_whyNotPrinted 25 = .ok (.aload_n 0, 1) := by decide +kernel
theorem dX10_whyNotPrinted_26 : decode cX10_whyNotPrinted 26 = .ok (.getfield 33, 3) := by decide +kernel
theorem dX10_whyNotPrinted_29 : decode cX10_whyNotPrinted 29 = .ok (.aload_n 0, 1) := by decide +kernel
theorem dX10_whyNotPrinted_30 : decode cX10_whyNotPrinted 30 = .ok (.getfield 26, 3) := by decide +kernel
theorem dX10_whyNotPrinted_33 : decode cX10_whyNotPrinted 33 = .ok (.invokevirtual 186, 3) := by decide +kernel
theorem dX10_whyNotPrinted_36 : decode cX10_whyNotPrinted 36 = .ok (.ifCond .ne 5, 3) := by decide +kernel
theorem dX10_whyNotPrinted_39 : decode cX10_whyNotPrinted 39 = .ok (.iconst 2, 1) := by decide +kernel
theorem dX10_whyNotPrinted_40 : decode cX10_whyNotPrinted 40 = .ok (.ireturn, 1) := by decide +kernel
theorem dX10_whyNotPrinted_41 : decode cX10_whyNotPrinted 41 = .ok (.aload_n 0, 1) := by decide +kernel
theorem dX10_whyNotPrinted_42 : decode cX10_whyNotPrinted 42 = .ok (.getfield 10, 3) := by decide +kernel
theorem dX10_whyNotPrinted_45 : decode cX10_whyNotPrinted 45 = .ok (.aload_n 0, 1) := by decide +kernel
theorem dX10_whyNotPrinted_46 : decode cX10_whyNotPrinted 46 = .ok (.getfield 33, 3) := by decide +kernel
theorem dX10_whyNotPrinted_49 : decode cX10_whyNotPrinted 49 = .ok (.getfield 82, 3) := by decide +kernel
theorem dX10_whyNotPrinted_52 : decode cX10_whyNotPrinted 52 = .ok (.invokevirtual 190, 3) := by decide +kernel
theorem dX10_whyNotPrinted_55 : decode cX10_whyNotPrinted 55 = .ok (.ifCond .ne 5, 3) := by decide +kernel
theorem dX10_whyNotPrinted_58 : decode cX10_whyNotPrinted 58 = .ok (.iconst 3, 1) := by decide +kernel
theorem dX10_whyNotPrinted_59 : decode cX10_whyNotPrinted 59 = .ok (.ireturn, 1) := by decide +kernel
theorem dX10_whyNotPrinted_60 : decode cX10_whyNotPrinted 60 = .ok (.aload_n 0, 1) := by decide +kernel
theorem dX10_whyNotPrinted_61 : decode cX10_whyNotPrinted 61 = .ok (.getfield 10, 3) := by decide +kernel
theorem dX10_whyNotPrinted_64 : decode cX10_whyNotPrinted 64 = .ok (.aload_n 0, 1) := by decide +kernel
theorem dX10_whyNotPrinted_65 : decode cX10_whyNotPrinted 65 = .ok (.getfield 33, 3) := by decide +kernel
theorem dX10_whyNotPrinted_68 : decode cX10_whyNotPrinted 68 = .ok (.getfield 82, 3) := by decide +kernel
theorem dX10_whyNotPrinted_71 : decode cX10_whyNotPrinted 71 = .ok (.invokevirtual 194, 3) := by decide +kernel
theorem dX10_whyNotPrinted_74 : decode cX10_whyNotPrinted 74 = .ok (.ifCond .eq 7, 3) := by decide +kernel
theorem dX10_whyNotPrinted_77 : decode cX10_whyNotPrinted 77 = .ok (.iconst 4, 1) := by decide +kernel
theorem dX10_whyNotPrinted_78 : decode cX10_whyNotPrinted 78 = .ok (.goto 4, 3) := by decide +kernel
theorem dX10_whyNotPrinted_81 : decode cX10_whyNotPrinted 81 = .ok (.iconst 0, 1) := by decide +kernel
theorem dX10_whyNotPrinted_82 : decode cX10_whyNotPrinted 82 = .ok (.ireturn, 1) := by decide +kernel
set_option maxRecDepth 20000 in
theorem ggX10_quotationsOf_X10_needPamphlet : GoodIn wsX10_quotationsOf wsX10_needPamphlet := goodIn_ca (goodIn_r _ [6, 7, 8, 1, 9, 10, 11, 12, 13, 14, 21, 22, 23, 24, 25, 26, 27, 36, 37, 38, 39] (by decide +kernel) (by decide +kernel)) (goodIn_sub (fun _ h => List.mem_cons_of_mem _ (List.mem_append_right _ h)) (by decide +kernel))
set_option maxRecDepth 20000 in
theorem gX10_quotationsOf_X10_needPamphlet : GoodIn wsX10_quotationsOf (wsV RX10 139 RX10 yX10_needPamphlet wsX10_needPamphlet) := goodIn_app (goodIn_of _ (by decide +kernel)) ggX10_quotationsOf_X10_needPamphlet
set_option maxRecDepth 20000 in
theorem ggX10_quotationsOf_X9_at : GoodIn wsX10_quotationsOf wsX9_at := goodIn_r _ [18, 19, 20, 36, 37, 38, 39] (by decide +kernel) (by decide +kernel)
set_option maxRecDepth 20000 in
theorem gX10_quotationsOf_X9_at : GoodIn wsX10_quotationsOf (wsV RX10 128 RX9 yX9_at wsX9_at) := goodIn_app (goodIn_of _ (by decide +kernel)) ggX10_quotationsOf_X9_at
theorem dX10_quotationsOf_0 : decode cX10_quotationsOf 0 = .ok (.aload_n 0, 1) := by decide +kernel
theorem dX10_quotationsOf_1 : decode cX10_quotationsOf 1 = .ok (.iload_n 1, 1) := by decide +kernel
theorem dX10_quotationsOf_2 : decode cX10_quotationsOf 2 = .ok (.invokevirtual 139, 3) := by decide +kernel
theorem dX10_quotationsOf_5 : decode cX10_quotationsOf 5 = .ok (.aload_n 0, 1) := by decide +kernel
theorem dX10_quotationsOf_6 : decode cX10_quotationsOf 6 = .ok (.getfield 10, 3) := by decide +kernel
theorem dX10_quotationsOf_9 : decode cX10_quotationsOf 9 = .ok (.iload_n 1, 1) := by decide +kernel
theorem dX10_quotationsOf_10 : decode cX10_quotationsOf 10 = .ok (.invokevirtual 128, 3) := by decide +kernel
theorem dX10_quotationsOf_13 : decode cX10_quotationsOf 13 = .ok (.getfield 197, 3) := by decide +kernel
theorem dX10_quotationsOf_16 : decode cX10_quotationsOf 16 = .ok (.ireturn, 1) := by decide +kernel
set_option maxRecDepth 20000 in
theorem ggX10_sourceOf_X10_needQuotation : GoodIn wsX10_sourceOf wsX10_needQuotation := goodIn_ca (goodIn_r _ [6, 7, 8, 1, 9, 10, 11, 5, 12, 13, 14, 15, 16, 17, 18, 19, 20, 21, 22, 23, 24, 31, 32, 33, 34, 35, 36, 37, 38, 39, 40, 41, 42, 43, 44, 45, 46, 47, 48, 49] (by decide +kernel) (by decide +kernel)) (goodIn_sub (fun _ h => List.mem_cons_of_mem _ (List.mem_append_right _ h)) (by decide +kernel))
set_option maxRecDepth 20000 in
theorem gX10_sourceOf_X10_needQuotation : GoodIn wsX10_sourceOf (wsV RX10 102 RX10 yX10_needQuotation wsX10_needQuotation) := goodIn_app (goodIn_of _ (by decide +kernel)) ggX10_sourceOf_X10_needQuotation
set_option maxRecDepth 20000 in
theorem ggX10_sourceOf_X9_at : GoodIn wsX10_sourceOf wsX9_at := goodIn_r _ [22, 23, 24, 46, 47, 48, 49] (by decide +kernel) (by decide +kernel)
set_option maxRecDepth 20000 in
theorem gX10_sourceOf_X9_at : GoodIn wsX10_sourceOf (wsV RX10 128 RX9 yX9_at wsX9_at) := goodIn_app (goodIn_of _ (by decide +kernel)) ggX10_sourceOf_X9_at
set_option maxRecDepth 20000 in
theorem ggX10_sourceOf_X7_number : GoodIn wsX10_sourceOf wsX7_number := goodIn_r _ [29, 30, 50] (by decide +kernel) (by decide +kernel)
set_option maxRecDepth 20000 in
theorem gX10_sourceOf_X7_number : GoodIn wsX10_sourceOf (wsV RX10 203 RX7 yX7_number wsX7_number) := goodIn_app (goodIn_of _ (by decide +kernel)) ggX10_sourceOf_X7_number
theorem dX10_sourceOf_0 : decode cX10_sourceOf 0 = .ok (.aload_n 0, 1) := by decide +kernel
theorem dX10_sourceOf_1 : decode cX10_sourceOf 1 = .ok (.iload_n 1, 1) := by decide +kernel
theorem dX10_sourceOf_2 : decode cX10_sourceOf 2 = .ok (.iload_n 2, 1) := by decide +kernel
theorem dX10_sourceOf_3 : decode cX10_sourceOf 3 = .ok (.invokevirtual 102, 3) := by decide +kernel
theorem dX10_sourceOf_6 : decode cX10_sourceOf 6 = .ok (.aload_n 0, 1) := by decide +kernel
theorem dX10_sourceOf_7 : decode cX10_sourceOf 7 = .ok (.getfield 10, 3) := by decide +kernel
theorem dX10_sourceOf_10 : decode cX10_sourceOf 10 = .ok (.iload_n 1, 1) := by decide +kernel
theorem dX10_sourceOf_11 : decode cX10_sourceOf 11 = .ok (.invokevirtual 128, 3) := by decide +kernel
theorem dX10_sourceOf_14 : decode cX10_sourceOf 14 = .ok (.getfield 200, 3) := by decide +kernel
theorem dX10_sourceOf_17 : decode cX10_sourceOf 17 = .ok (.iload_n 2, 1) := by decide +kernel
theorem dX10_sourceOf_18 : decode cX10_sourceOf 18 = .ok (.invokevirtual 203, 3) := by decide +kernel
theorem dX10_sourceOf_21 : decode cX10_sourceOf 21 = .ok (.ireturn, 1) := by decide +kernel
set_option maxRecDepth 20000 in
theorem ggX10_beginOf_X10_needQuotation : GoodIn wsX10_beginOf wsX10_needQuotation := goodIn_ca (goodIn_r _ [6, 7, 8, 1, 9, 10, 11, 5, 12, 13, 14, 15, 16, 17, 18, 19, 20, 21, 22, 23, 24, 31, 32, 33, 34, 35, 36, 37, 38, 39, 40, 41, 42, 43, 44, 45, 46, 47, 48, 49] (by decide +kernel) (by decide +kernel)) (goodIn_sub (fun _ h => List.mem_cons_of_mem _ (List.mem_append_right _ h)) (by decide +kernel))
set_option maxRecDepth 20000 in
theorem gX10_beginOf_X10_needQuotation : GoodIn wsX10_beginOf (wsV RX10 102 RX10 yX10_needQuotation wsX10_needQuotation) := goodIn_app (goodIn_of _ (by decide +kernel)) ggX10_beginOf_X10_needQuotation
set_option maxRecDepth 20000 in
theorem ggX10_beginOf_X9_at : GoodIn wsX10_beginOf wsX9_at := goodIn_r _ [22, 23, 24, 46, 47, 48, 49] (by decide +kernel) (by decide +kernel)
set_option maxRecDepth 20000 in
theorem gX10_beginOf_X9_at : GoodIn wsX10_beginOf (wsV RX10 128 RX9 yX9_at wsX9_at) := goodIn_app (goodIn_of _ (by decide +kernel)) ggX10_beginOf_X9_at
set_option maxRecDepth 20000 in
theorem ggX10_beginOf_X7_number : GoodIn wsX10_beginOf wsX7_number := goodIn_r _ [29, 30, 50] (by decide +kernel) (by decide +kernel)
set_option maxRecDepth 20000 in
theorem gX10_beginOf_X7_number : GoodIn wsX10_beginOf (wsV RX10 203 RX7 yX7_number wsX7_number) := goodIn_app (goodIn_of _ (by decide +kernel)) ggX10_beginOf_X7_number
theorem dX10_beginOf_0 : decode cX10_beginOf 0 = .ok (.aload_n 0, 1) := by decide +kernel
theorem dX10_beginOf_1 : decode cX10_beginOf 1 = .ok (.iload_n 1, 1) := by decide +kernel
theorem dX10_beginOf_2 : decode cX10_beginOf 2 = .ok (.iload_n 2, 1) := by decide +kernel
theorem dX10_beginOf_3 : decode cX10_beginOf 3 = .ok (.invokevirtual 102, 3) := by decide +kernel
theorem dX10_beginOf_6 : decode cX10_beginOf 6 = .ok (.aload_n 0, 1) := by decide +kernel
theorem dX10_beginOf_7 : decode cX10_beginOf 7 = .ok (.getfield 10, 3) := by decide +kernel
theorem dX10_beginOf_10 : decode cX10_beginOf 10 = .ok (.iload_n 1, 1) := by decide +kernel
theorem dX10_beginOf_11 : decode cX10_beginOf 11 = .ok (.invokevirtual 128, 3) := by decide +kernel
theorem dX10_beginOf_14 : decode cX10_beginOf 14 = .ok (.getfield 207, 3) := by decide +kernel
theorem dX10_beginOf_17 : decode cX10_beginOf 17 = .ok (.iload_n 2, 1) := by decide +kernel
theorem dX10_beginOf_18 : decode cX10_beginOf 18 = .ok (.invokevirtual 203, 3) := by decide +kernel
theorem dX10_beginOf_21 : decode cX10_beginOf 21 = .ok (.ireturn, 1) := by decide +kernel
set_option maxRecDepth 20000 in
theorem ggX10_lengthOf_X10_needQuotation : GoodIn wsX10_lengthOf wsX10_needQuotation := goodIn_ca (goodIn_r _ [6, 7, 8, 1, 9, 10, 11, 5, 12, 13, 14, 15, 16, 17, 18, 19, 20, 21, 22, 23, 24, 31, 32, 33, 34, 35, 36, 37, 38, 39, 40, 41, 42, 43, 44, 45, 46, 47, 48, 49] (by decide +kernel) (by decide +kernel)) (goodIn_sub (fun _ h => List.mem_cons_of_mem _ (List.mem_append_right _ h)) (by decide +kernel))
set_option maxRecDepth 20000 in
theorem gX10_lengthOf_X10_needQuotation : GoodIn wsX10_lengthOf (wsV RX10 102 RX10 yX10_needQuotation wsX10_needQuotation) := goodIn_app (goodIn_of _ (by decide +kernel)) ggX10_lengthOf_X10_needQuotation
set_option maxRecDepth 20000 in
theorem ggX10_lengthOf_X9_at : GoodIn wsX10_lengthOf wsX9_at := goodIn_r _ [22, 23, 24, 46, 47, 48, 49] (by decide +kernel) (by decide +kernel)
set_option maxRecDepth 20000 in
theorem gX10_lengthOf_X9_at : GoodIn wsX10_lengthOf (wsV RX10 128 RX9 yX9_at wsX9_at) := goodIn_app (goodIn_of _ (by decide +kernel)) ggX10_lengthOf_X9_at
set_option maxRecDepth 20000 in
theorem ggX10_lengthOf_X7_number : GoodIn wsX10_lengthOf wsX7_number := goodIn_r _ [29, 30, 50] (by decide +kernel) (by decide +kernel)
set_option maxRecDepth 20000 in
theorem gX10_lengthOf_X7_number : GoodIn wsX10_lengthOf (wsV RX10 203 RX7 yX7_number wsX7_number) := goodIn_app (goodIn_of _ (by decide +kernel)) ggX10_lengthOf_X7_number
theorem dX10_lengthOf_0 : decode cX10_lengthOf 0 = .ok (.aload_n 0, 1) := by decide +kernel
theorem dX10_lengthOf_1 : decode cX10_lengthOf 1 = .ok (.iload_n 1, 1) := by decide +kernel
theorem dX10_lengthOf_2 : decode cX10_lengthOf 2 = .ok (.iload_n 2, 1) := by decide +kernel
theorem dX10_lengthOf_3 : decode cX10_lengthOf 3 = .ok (.invokevirtual 102, 3) := by decide +kernel
theorem dX10_lengthOf_6 : decode cX10_lengthOf 6 = .ok (.aload_n 0, 1) := by decide +kernel
theorem dX10_lengthOf_7 : decode cX10_lengthOf 7 = .ok (.getfield 10, 3) := by decide +kernel
theorem dX10_lengthOf_10 : decode cX10_lengthOf 10 = .ok (.iload_n 1, 1) := by decide +kernel
theorem dX10_lengthOf_11 : decode cX10_lengthOf 11 = .ok (.invokevirtual 128, 3) := by decide +kernel
theorem dX10_lengthOf_14 : decode cX10_lengthOf 14 = .ok (.getfield 210, 3) := by decide +kernel
theorem dX10_lengthOf_17 : decode cX10_lengthOf 17 = .ok (.iload_n 2, 1) := by decide +kernel
theorem dX10_lengthOf_18 : decode cX10_lengthOf 18 = .ok (.invokevirtual 203, 3) := by decide +kernel
theorem dX10_lengthOf_21 : decode cX10_lengthOf 21 = .ok (.ireturn, 1) := by decide +kernel
set_option maxRecDepth 20000 in
theorem ggX10_changesByTable_X10_needQuotation : GoodIn wsX10_changesByTable wsX10_needQuotation := goodIn_ca (goodIn_r _ [7, 8, 9, 2, 10, 11, 12, 6, 13, 14, 15, 16, 17, 18, 19, 20, 21, 22, 23, 24, 25, 69, 70, 71, 72, 73, 74, 75, 76, 77, 78, 79, 80, 81, 82, 83, 84, 85, 86, 87] (by decide +kernel) (by decide +kernel)) (goodIn_sub (fun _ h => List.mem_cons_of_mem _ (List.mem_append_right _ h)) (by decide +kernel))
set_option maxRecDepth 20000 in
theorem gX10_changesByTable_X10_needQuotation : GoodIn wsX10_changesByTable (wsV RX10 102 RX10 yX10_needQuotation wsX10_needQuotation) := goodIn_app (goodIn_of _ (by decide +kernel)) ggX10_changesByTable_X10_needQuotation
set_option maxRecDepth 20000 in
theorem ggX10_changesByTable_X5_find : GoodIn wsX10_changesByTable wsX5_find := goodIn_r _ [30, 31, 32, 21, 22, 17, 23, 24, 25, 33, 34, 35, 36, 37, 38, 39, 40, 41, 42, 43, 44, 45, 46, 47, 48, 49, 50, 51, 52, 53, 54, 55, 56, 57, 58, 59, 60, 61, 62, 63, 64, 65, 66, 67, 68, 88, 89, 90, 76, 77, 78, 79, 80, 81, 82, 83, 91, 92, 93, 94, 84, 85, 86, 87, 95] (by decide +kernel) (by decide +kernel)
set_option maxRecDepth 20000 in
theorem gX10_changesByTable_X5_find : GoodIn wsX10_changesByTable (wsV RX10 106 RX5 yX5_find wsX5_find) := goodIn_app (goodIn_of _ (by decide +kernel)) ggX10_changesByTable_X5_find
theorem dX10_changesByTable_0 : decode cX10_changesByTable 0 = .ok (.aload_n 0, 1) := by decide +kernel
theorem dX10_changesByTable_1 : decode cX10_changesByTable 1 = .ok (.iload_n 1, 1) := by decide +kernel
theorem dX10_changesByTable_2 : decode cX10_changesByTable 2 = .ok (.iload_n 2, 1) := by decide +kernel
theorem dX10_changesByTable_3 : decode cX10_changesByTable 3 = .ok (.invokevirtual 102, 3) := by decide +kernel
theorem dX10_changesByTable_6 : decode cX10_changesByTable 6 = .ok (.aload_n 0, 1) := by decide +kernel
theorem dX10_changesByTable_7 : decode cX10_changesByTable 7 = .ok (.getfield 40, 3) := by decide +kernel
theorem dX10_changesByTable_10 : decode cX10_changesByTable 10 = .ok (.aload_n 0, 1) := by decide +kernel
theorem dX10_changesByTable_11 : decode cX10_changesByTable 11 = .ok (.getfield 10, 3) := by decide +kernel
theorem dX10_changesByTable_14 : decode cX10_changesByTable 14 = .ok (.iload_n 1, 1) := by decide +kernel
theorem dX10_changesByTable_15 : decode cX10_changesByTable 15 = .ok (.iload_n 2, 1) := by decide +kernel
theorem dX10_changesByTable_16 : decode cX10_changesByTable 16 = .ok (.invokevirtual 106, 3) := by decide +kernel
theorem dX10_changesByTable_19 : decode cX10_changesByTable 19 = .ok (.ireturn, 1) := by decide +kernel
set_option maxRecDepth 20000 in
theorem ggX10_changesByPassages_X10_needQuotation : GoodIn wsX10_changesByPassages wsX10_needQuotation := goodIn_ca (goodIn_r _ [7, 8, 9, 2, 10, 11, 12, 6, 13, 14, 15, 16, 17, 18, 19, 20, 21, 22, 23, 24, 25, 66, 67, 68, 69, 70, 71, 72, 73, 74, 75, 76, 77, 78, 79, 80, 81, 82, 83, 84] (by decide +kernel) (by decide +kernel)) (goodIn_sub (fun _ h => List.mem_cons_of_mem _ (List.mem_append_right _ h)) (by decide +kernel))
set_option maxRecDepth 20000 in
theorem gX10_changesByPassages_X10_needQuotation : GoodIn wsX10_changesByPassages (wsV RX10 102 RX10 yX10_needQuotation wsX10_needQuotation) := goodIn_app (goodIn_of _ (by decide +kernel)) ggX10_changesByPassages_X10_needQuotation
set_option maxRecDepth 20000 in
theorem ggX10_changesByPassages_X5_findByPassages : GoodIn wsX10_changesByPassages wsX5_findByPassages := goodIn_r _ [30, 31, 32, 21, 22, 17, 23, 24, 25, 33, 34, 35, 36, 37, 38, 39, 40, 41, 42, 43, 44, 45, 46, 47, 48, 49, 50, 51, 52, 53, 54, 55, 56, 57, 58, 59, 60, 61, 62, 63, 64, 65, 73, 74, 75, 76, 77, 78, 79, 80, 85, 86, 87, 81, 82, 83, 84, 88, 89, 90, 91, 92] (by decide +kernel) (by decide +kernel)
set_option maxRecDepth 20000 in
theorem gX10_changesByPassages_X5_findByPassages : GoodIn wsX10_changesByPassages (wsV RX10 213 RX5 yX5_findByPassages wsX5_findByPassages) := goodIn_app (goodIn_of _ (by decide +kernel)) ggX10_changesByPassages_X5_findByPassages
theorem dX10_changesByPassages_0 : decode cX10_changesByPassages 0 = .ok (.aload_n 0, 1) := by decide +kernel
theorem dX10_changesByPassages_1 : decode cX10_changesByPassages 1 = .ok (.iload_n 1, 1) := by decide +kernel
theorem dX10_changesByPassages_2 : decode cX10_changesByPassages 2 = .ok (.iload_n 2, 1) := by decide +kernel
theorem dX10_changesByPassages_3 : decode cX10_changesByPassages 3 = .ok (.invokevirtual 102, 3) := by decide +kernel
theorem dX10_changesByPassages_6 : decode cX10_changesByPassages 6 = .ok (.aload_n 0, 1) := by decide +kernel
theorem dX10_changesByPassages_7 : decode cX10_changesByPassages 7 = .ok (.getfield 40, 3) := by decide +kernel
theorem dX10_changesByPassages_10 : decode cX10_changesByPassages 10 = .ok (.aload_n 0, 1) := by decide +kernel
theorem dX10_changesByPassages_11 : decode cX10_changesByPassages 11 = .ok (.getfield 10, 3) := by decide +kernel
theorem dX10_changesByPassages_14 : decode cX10_changesByPassages 14 = .ok (.iload_n 1, 1) := by decide +kernel
theorem dX10_changesByPassages_15 : decode cX10_changesByPassages 15 = .ok (.iload_n 2, 1) := by decide +kernel
theorem dX10_changesByPassages_16 : decode cX10_changesByPassages 16 = .ok (.invokevirtual 213, 3) := by decide +kernel
theorem dX10_changesByPassages_19 : decode cX10_changesByPassages 19 = .ok (.ireturn, 1) := by decide +kernel
set_option maxRecDepth 20000 in
theorem ggX10_passageOf_X10_needQuotation : GoodIn wsX10_passageOf wsX10_needQuotation := goodIn_ca (goodIn_r _ [7, 8, 9, 2, 10, 11, 12, 6, 13, 14, 15, 16, 17, 18, 19, 20, 21, 22, 23, 24, 25, 69, 70, 71, 72, 73, 74, 75, 83, 84, 85, 86, 87, 88, 89, 90, 91, 92, 93, 94] (by decide +kernel) (by decide +kernel)) (goodIn_sub (fun _ h => List.mem_cons_of_mem _ (List.mem_append_right _ h)) (by decide +kernel))
set_option maxRecDepth 20000 in
theorem gX10_passageOf_X10_needQuotation : GoodIn wsX10_passageOf (wsV RX10 102 RX10 yX10_needQuotation wsX10_needQuotation) := goodIn_app (goodIn_of _ (by decide +kernel)) ggX10_passageOf_X10_needQuotation
set_option maxRecDepth 20000 in
theorem ggX10_passageOf_X5_find : GoodIn wsX10_passageOf wsX5_find := goodIn_r _ [30, 31, 32, 21, 22, 17, 23, 24, 25, 33, 34, 35, 36, 37, 38, 39, 40, 41, 42, 43, 44, 45, 46, 47, 48, 49, 50, 51, 52, 53, 54, 55, 56, 57, 58, 59, 60, 61, 62, 63, 64, 65, 66, 67, 68, 76, 77, 78, 83, 84, 85, 86, 87, 88, 89, 90, 79, 80, 81, 82, 91, 92, 93, 94, 95] (by decide +kernel) (by decide +kernel)
set_option maxRecDepth 20000 in
theorem gX10_passageOf_X5_find : GoodIn wsX10_passageOf (wsV RX10 106 RX5 yX5_find wsX5_find) := goodIn_app (goodIn_of _ (by decide +kernel)) ggX10_passageOf_X5_find
theorem dX10_passageOf_0 : decode cX10_passageOf 0 = .ok (.aload_n 0, 1) := by decide +kernel
theorem dX10_passageOf_1 : decode cX10_passageOf 1 = .ok (.iload_n 1, 1) := by decide +kernel
theorem dX10_passageOf_2 : decode cX10_passageOf 2 = .ok (.iload_n 2, 1) := by decide +kernel
theorem dX10_passageOf_3 : decode cX10_passageOf 3 = .ok (.invokevirtual 102, 3) := by decide +kernel
theorem dX10_passageOf_6 : decode cX10_passageOf 6 = .ok (.aload_n 0, 1) := by decide +kernel
theorem dX10_passageOf_7 : decode cX10_passageOf 7 = .ok (.getfield 40, 3) := by decide +kernel
theorem dX10_passageOf_10 : decode cX10_passageOf 10 = .ok (.aload_n 0, 1) := by decide +kernel
theorem dX10_passageOf_11 : decode cX10_passageOf 11 = .ok (.getfield 10, 3) := by decide +kernel
theorem dX10_passageOf_14 : decode cX10_passageOf 14 = .ok (.iload_n 1, 1) := by decide +kernel
theorem dX10_passageOf_15 : decode cX10_passageOf 15 = .ok (.iload_n 2, 1) := by decide +kernel
theorem dX10_passageOf_16 : decode cX10_passageOf 16 = .ok (.invokevirtual 106, 3) := by decide +kernel
theorem dX10_passageOf_19 : decode cX10_passageOf 19 = .ok (.pop, 1) := by decide +kernel
theorem dX10_passageOf_20 : decode cX10_passageOf 20 = .ok (.aload_n 0, 1) := by decide +kernel
theorem dX10_passageOf_21 : decode cX10_passageOf 21 = .ok (.getfield 40, 3) := by decide +kernel
theorem dX10_passageOf_24 : decode cX10_passageOf 24 = .ok (.getfield 216, 3) := by decide +kernel
theorem dX10_passageOf_27 : decode cX10_passageOf 27 = .ok (.getfield 220, 3) := by decide +kernel
theorem dX10_passageOf_30 : decode cX10_passageOf 30 = .ok (.ireturn, 1) := by decide +kernel
set_option maxRecDepth 20000 in
theorem ggX10_passageLength_X10_needQuotation : GoodIn wsX10_passageLength wsX10_needQuotation := goodIn_ca (goodIn_r _ [7, 8, 9, 2, 10, 11, 12, 6, 13, 14, 15, 16, 17, 18, 19, 20, 21, 22, 23, 24, 25, 69, 70, 71, 72, 73, 74, 75, 83, 84, 85, 86, 87, 88, 89, 90, 91, 92, 93, 94] (by decide +kernel) (by decide +kernel)) (goodIn_sub (fun _ h => List.mem_cons_of_mem _ (List.mem_append_right _ h)) (by decide +kernel))
set_option maxRecDepth 20000 in
theorem gX10_passageLength_X10_needQuotation : GoodIn wsX10_passageLength (wsV RX10 102 RX10 yX10_needQuotation wsX10_needQuotation) := goodIn_app (goodIn_of _ (by decide +kernel)) ggX10_passageLength_X10_needQuotation
set_option maxRecDepth 20000 in
theorem ggX10_passageLength_X5_find : GoodIn wsX10_passageLength wsX5_find := goodIn_r _ [30, 31, 32, 21, 22, 17, 23, 24, 25, 33, 34, 35, 36, 37, 38, 39, 40, 41, 42, 43, 44, 45, 46, 47, 48, 49, 50, 51, 52, 53, 54, 55, 56, 57, 58, 59, 60, 61, 62, 63, 64, 65, 66, 67, 68, 76, 77, 78, 83, 84, 85, 86, 87, 88, 89, 90, 79, 80, 81, 82, 91, 92, 93, 94, 95] (by decide +kernel) (by decide +kernel)
set_option maxRecDepth 20000 in
theorem gX10_passageLength_X5_find : GoodIn wsX10_passageLength (wsV RX10 106 RX5 yX5_find wsX5_find) := goodIn_app (goodIn_of _ (by decide +kernel)) ggX10_passageLength_X5_find
theorem dX10_passageLength_0 : decode cX10_passageLength 0 = .ok (.aload_n 0, 1) := by decide +kernel
theorem dX10_passageLength_1 : decode cX10_passageLength 1 = .ok (.iload_n 1, 1) := by decide +kernel
theorem dX10_passageLength_2 : decode cX10_passageLength 2 = .ok (.iload_n 2, 1) := by decide +kernel
theorem dX10_passageLength_3 : decode cX10_passageLength 3 = .ok (.invokevirtual 102, 3) := by decide +kernel
theorem dX10_passageLength_6 : decode cX10_passageLength 6 = .ok (.aload_n 0, 1) := by decide +kernel
theorem dX10_passageLength_7 : decode cX10_passageLength 7 = .ok (.getfield 40, 3) := by decide +kernel
theorem dX10_passageLength_10 : decode cX10_passageLength 10 = .ok (.aload_n 0, 1) := by decide +kernel
theorem dX10_passageLength_11 : decode cX10_passageLength 11 = .ok (.getfield 10, 3) := by decide +kernel
theorem dX10_passageLength_14 : decode cX10_passageLength 14 = .ok (.iload_n 1, 1) := by decide +kernel
theorem dX10_passageLength_15 : decode cX10_passageLength 15 = .ok (.iload_n 2, 1) := by decide +kernel
theorem dX10_passageLength_16 : decode cX10_passageLength 16 = .ok (.invokevirtual 106, 3) := by decide +kernel
theorem dX10_passageLength_19 : decode cX10_passageLength 19 = .ok (.pop, 1) := by decide +kernel
theorem dX10_passageLength_20 : decode cX10_passageLength 20 = .ok (.aload_n 0, 1) := by decide +kernel
theorem dX10_passageLength_21 : decode cX10_passageLength 21 = .ok (.getfield 40, 3) := by decide +kernel
theorem dX10_passageLength_24 : decode cX10_passageLength 24 = .ok (.getfield 216, 3) := by decide +kernel
theorem dX10_passageLength_27 : decode cX10_passageLength 27 = .ok (.getfield 225, 3) := by decide +kernel
theorem dX10_passageLength_30 : decode cX10_passageLength 30 = .ok (.ireturn, 1) := by decide +kernel
set_option maxRecDepth 20000 in
theorem ggX10_pageOf_X10_needQuotation : GoodIn wsX10_pageOf wsX10_needQuotation := goodIn_ca (goodIn_r _ [7, 8, 9, 2, 10, 11, 12, 6, 13, 14, 15, 16, 17, 18, 19, 20, 21, 22, 23, 24, 25, 69, 70, 71, 72, 73, 74, 75, 83, 84, 85, 86, 87, 88, 89, 90, 91, 92, 93, 94] (by decide +kernel) (by decide +kernel)) (goodIn_sub (fun _ h => List.mem_cons_of_mem _ (List.mem_append_right _ h)) (by decide +kernel))
set_option maxRecDepth 20000 in
theorem gX10_pageOf_X10_needQuotation : GoodIn wsX10_pageOf (wsV RX10 102 RX10 yX10_needQuotation wsX10_needQuotation) := goodIn_app (goodIn_of _ (by decide +kernel)) ggX10_pageOf_X10_needQuotation
set_option maxRecDepth 20000 in
theorem ggX10_pageOf_X5_find : GoodIn wsX10_pageOf wsX5_find := goodIn_r _ [30, 31, 32, 21, 22, 17, 23, 24, 25, 33, 34, 35, 36, 37, 38, 39, 40, 41, 42, 43, 44, 45, 46, 47, 48, 49, 50, 51, 52, 53, 54, 55, 56, 57, 58, 59, 60, 61, 62, 63, 64, 65, 66, 67, 68, 76, 77, 78, 83, 84, 85, 86, 87, 88, 89, 90, 79, 80, 81, 82, 91, 92, 93, 94, 95] (by decide +kernel) (by decide +kernel)
set_option maxRecDepth 20000 in
theorem gX10_pageOf_X5_find : GoodIn wsX10_pageOf (wsV RX10 106 RX5 yX5_find wsX5_find) := goodIn_app (goodIn_of _ (by decide +kernel)) ggX10_pageOf_X5_find
theorem dX10_pageOf_0 : decode cX10_pageOf 0 = .ok (.aload_n 0, 1) := by decide +kernel
theorem dX10_pageOf_1 : decode cX10_pageOf 1 = .ok (.iload_n 1, 1) := by decide +kernel
theorem dX10_pageOf_2 : decode cX10_pageOf 2 = .ok (.iload_n 2, 1) := by decide +kernel
theorem dX10_pageOf_3 : decode cX10_pageOf 3 = .ok (.invokevirtual 102, 3) := by decide +kernel
theorem dX10_pageOf_6 : decode cX10_pageOf 6 = .ok (.aload_n 0, 1) := by decide +kernel
theorem dX10_pageOf_7 : decode cX10_pageOf 7 = .ok (.getfield 40, 3) := by decide +kernel
theorem dX10_pageOf_10 : decode cX10_pageOf 10 = .ok (.aload_n 0, 1) := by decide +kernel
theorem dX10_pageOf_11 : decode cX10_pageOf 11 = .ok (.getfield 10, 3) := by decide +kernel
theorem dX10_pageOf_14 : decode cX10_pageOf 14 = .ok (.iload_n 1, 1) := by decide +kernel
theorem dX10_pageOf_15 : decode cX10_pageOf 15 = .ok (.iload_n 2, 1) := by decide +kernel
theorem dX10_pageOf_16 : decode cX10_pageOf 16 = .ok (.invokevirtual 106, 3) := by decide +kernel
theorem dX10_pageOf_19 : decode cX10_pageOf 19 = .ok (.pop, 1) := by decide +kernel
theorem dX10_pageOf_20 : decode cX10_pageOf 20 = .ok (.aload_n 0, 1) := by decide +kernel
theorem dX10_pageOf_21 : decode cX10_pageOf 21 = .ok (.getfield 40, 3) := by decide +kernel
theorem dX10_pageOf_24 : decode cX10_pageOf 24 = .ok (.getfield 216, 3) := by decide +kernel
theorem dX10_pageOf_27 : decode cX10_pageOf 27 = .ok (.getfield 220, 3) := by decide +kernel
theorem dX10_pageOf_30 : decode cX10_pageOf 30 = .ok (.bipush 8, 2) := by decide +kernel
theorem dX10_pageOf_32 : decode cX10_pageOf 32 = .ok (.idiv, 1) := by decide +kernel
theorem dX10_pageOf_33 : decode cX10_pageOf 33 = .ok (.ireturn, 1) := by decide +kernel
set_option maxRecDepth 20000 in
theorem ggX10_comesFrom_X10_needQuotation : GoodIn wsX10_comesFrom wsX10_needQuotation := goodIn_ca (goodIn_r _ [7, 8, 9, 2, 10, 11, 12, 6, 13, 14, 15, 16, 17, 18, 19, 20, 21, 22, 23, 24, 25, 86, 87, 88, 89, 90, 91, 92, 93, 94, 95, 96, 97, 98, 99, 100, 101, 102, 103, 104] (by decide +kernel) (by decide +kernel)) (goodIn_sub (fun _ h => List.mem_cons_of_mem _ (List.mem_append_right _ h)) (by decide +kernel))
set_option maxRecDepth 20000 in
theorem gX10_comesFrom_X10_needQuotation : GoodIn wsX10_comesFrom (wsV RX10 102 RX10 yX10_needQuotation wsX10_needQuotation) := goodIn_app (goodIn_of _ (by decide +kernel)) ggX10_comesFrom_X10_needQuotation
set_option maxRecDepth 20000 in
theorem ggX10_comesFrom_X5_parent : GoodIn wsX10_comesFrom wsX5_parent := goodIn_r _ [30, 31, 32, 33, 34, 29, 35, 36, 21, 22, 17, 23, 24, 25, 37, 38, 39, 40, 41, 42, 43, 44, 45, 46, 47, 48, 49, 50, 51, 52, 53, 54, 55, 56, 57, 58, 59, 60, 61, 62, 63, 64, 65, 66, 67, 68, 69, 70, 71, 72, 73, 74, 75, 76, 77, 78, 79, 80, 81, 82, 83, 84, 85, 93, 94, 95, 96, 97, 98, 99, 100, 105, 106, 107, 108, 109, 110, 111, 101, 102, 103, 104, 112] (by decide +kernel) (by decide +kernel)
set_option maxRecDepth 20000 in
theorem gX10_comesFrom_X5_parent : GoodIn wsX10_comesFrom (wsV RX10 226 RX5 yX5_parent wsX5_parent) := goodIn_app (goodIn_of _ (by decide +kernel)) ggX10_comesFrom_X5_parent
theorem dX10_comesFrom_0 : decode cX10_comesFrom 0 = .ok (.aload_n 0, 1) := by decide +kernel
theorem dX10_comesFrom_1 : decode cX10_comesFrom 1 = .ok (.iload_n 1, 1) := by decide +kernel
theorem dX10_comesFrom_2 : decode cX10_comesFrom 2 = .ok (.iload_n 2, 1) := by decide +kernel
theorem dX10_comesFrom_3 : decode cX10_comesFrom 3 = .ok (.invokevirtual 102, 3) := by decide +kernel
theorem dX10_comesFrom_6 : decode cX10_comesFrom 6 = .ok (.aload_n 0, 1) := by decide +kernel
theorem dX10_comesFrom_7 : decode cX10_comesFrom 7 = .ok (.getfield 40, 3) := by decide +kernel
theorem dX10_comesFrom_10 : decode cX10_comesFrom 10 = .ok (.aload_n 0, 1) := by decide +kernel
theorem dX10_comesFrom_11 : decode cX10_comesFrom 11 = .ok (.getfield 10, 3) := by decide +kernel
theorem dX10_comesFrom_14 : decode cX10_comesFrom 14 = .ok (.iload_n 1, 1) := by decide +kernel
theorem dX10_comesFrom_15 : decode cX10_comesFrom 15 = .ok (.iload_n 2, 1) := by decide +kernel
theorem dX10_comesFrom_16 : decode cX10_comesFrom 16 = .ok (.invokevirtual 226, 3) := by decide +kernel
theorem dX10_comesFrom_19 : decode cX10_comesFrom 19 = .ok (.ireturn, 1) := by decide +kernel
set_option maxRecDepth 20000 in
theorem ggX10_originOf_X10_needQuotation : GoodIn wsX10_originOf wsX10_needQuotation := goodIn_ca (goodIn_r _ [7, 8, 9, 2, 10, 11, 12, 6, 13, 14, 15, 16, 17, 18, 19, 20, 21, 22, 23, 24, 25, 92, 93, 94, 95, 96, 97, 98, 102, 103, 104, 105, 106, 107, 108, 109, 110, 111, 112, 113] (by decide +kernel) (by decide +kernel)) (goodIn_sub (fun _ h => List.mem_cons_of_mem _ (List.mem_append_right _ h)) (by decide +kernel))
set_option maxRecDepth 20000 in
theorem gX10_originOf_X10_needQuotation : GoodIn wsX10_originOf (wsV RX10 102 RX10 yX10_needQuotation wsX10_needQuotation) := goodIn_app (goodIn_of _ (by decide +kernel)) ggX10_originOf_X10_needQuotation
set_option maxRecDepth 20000 in
theorem ggX10_originOf_X5_trace : GoodIn wsX10_originOf wsX5_trace := goodIn_r _ [30, 31, 32, 33, 21, 22, 17, 23, 24, 25, 34, 35, 36, 37, 38, 39, 40, 41, 42, 29, 43, 44, 45, 46, 47, 48, 49, 50, 51, 52, 53, 54, 55, 56, 57, 58, 59, 60, 61, 62, 63, 64, 65, 66, 67, 68, 69, 70, 71, 72, 73, 74, 75, 76, 77, 78, 79, 80, 81, 82, 83, 84, 85, 86, 87, 88, 89, 90, 91, 99, 100, 101, 102, 103, 104, 105, 106, 107, 108, 109, 110, 111, 112, 113, 114, 115, 116, 117, 118] (by decide +kernel) (by decide +kernel)
set_option maxRecDepth 20000 in
theorem gX10_originOf_X5_trace : GoodIn wsX10_originOf (wsV RX10 229 RX5 yX5_trace wsX5_trace) := goodIn_app (goodIn_of _ (by decide +kernel)) ggX10_originOf_X5_trace
theorem dX10_originOf_0 : decode cX10_originOf 0 = .ok (.aload_n 0, 1) := by decide +kernel
theorem dX10_originOf_1 : decode cX10_originOf 1 = .ok (.iload_n 1, 1) := by decide +kernel
theorem dX10_originOf_2 : decode cX10_originOf 2 = .ok (.iload_n 2, 1) := by decide +kernel
theorem dX10_originOf_3 : decode cX10_originOf 3 = .ok (.invokevirtual 102, 3) := by decide +kernel
theorem dX10_originOf_6 : decode cX10_originOf 6 = .ok (.aload_n 0, 1) := by decide +kernel
theorem dX10_originOf_7 : decode cX10_originOf 7 = .ok (.getfield 40, 3) := by decide +kernel
theorem dX10_originOf_10 : decode cX10_originOf 10 = .ok (.aload_n 0, 1) := by decide +kernel
theorem dX10_originOf_11 : decode cX10_originOf 11 = .ok (.getfield 10, 3) := by decide +kernel
theorem dX10_originOf_14 : decode cX10_originOf 14 = .ok (.iload_n 1, 1) := by decide +kernel
theorem dX10_originOf_15 : decode cX10_originOf 15 = .ok (.iload_n 2, 1) := by decide +kernel
theorem dX10_originOf_16 : decode cX10_originOf 16 = .ok (.invokevirtual 229, 3) := by decide +kernel
theorem dX10_originOf_19 : decode cX10_originOf 19 = .ok (.aload_n 0, 1) := by decide +kernel
theorem dX10_originOf_20 : decode cX10_originOf 20 = .ok (.getfield 40, 3) := by decide +kernel
theorem dX10_originOf_23 : decode cX10_originOf 23 = .ok (.getfield 232, 3) := by decide +kernel
theorem dX10_originOf_26 : decode cX10_originOf 26 = .ok (.ireturn, 1) := by decide +kernel
set_option maxRecDepth 20000 in
theorem ggX10_traceOf_X10_needQuotation : GoodIn wsX10_traceOf wsX10_needQuotation := goodIn_ca (goodIn_r _ [7, 8, 9, 2, 10, 11, 12, 6, 13, 14, 15, 16, 17, 18, 19, 20, 21, 22, 23, 24, 25, 92, 93, 94, 95, 96, 97, 98, 102, 103, 104, 105, 106, 107, 108, 109, 110, 111, 112, 113] (by decide +kernel) (by decide +kernel)) (goodIn_sub (fun _ h => List.mem_cons_of_mem _ (List.mem_append_right _ h)) (by decide +kernel))
set_option maxRecDepth 20000 in
theorem gX10_traceOf_X10_needQuotation : GoodIn wsX10_traceOf (wsV RX10 102 RX10 yX10_needQuotation wsX10_needQuotation) := goodIn_app (goodIn_of _ (by decide +kernel)) ggX10_traceOf_X10_needQuotation
set_option maxRecDepth 20000 in
theorem ggX10_traceOf_X5_trace : GoodIn wsX10_traceOf wsX5_trace := goodIn_r _ [30, 31, 32, 33, 21, 22, 17, 23, 24, 25, 34, 35, 36, 37, 38, 39, 40, 41, 42, 29, 43, 44, 45, 46, 47, 48, 49, 50, 51, 52, 53, 54, 55, 56, 57, 58, 59, 60, 61, 62, 63, 64, 65, 66, 67, 68, 69, 70, 71, 72, 73, 74, 75, 76, 77, 78, 79, 80, 81, 82, 83, 84, 85, 86, 87, 88, 89, 90, 91, 99, 100, 101, 102, 103, 104, 105, 106, 107, 108, 109, 110, 111, 112, 113, 114, 115, 116, 117, 118] (by decide +kernel) (by decide +kernel)
set_option maxRecDepth 20000 in
theorem gX10_traceOf_X5_trace : GoodIn wsX10_traceOf (wsV RX10 229 RX5 yX5_trace wsX5_trace) := goodIn_app (goodIn_of _ (by decide +kernel)) ggX10_traceOf_X5_trace
theorem dX10_traceOf_0 : decode cX10_traceOf 0 = .ok (.aload_n 0, 1) := by decide +kernel
theorem dX10_traceOf_1 : decode cX10_traceOf 1 = .ok (.iload_n 1, 1) := by decide +kernel
theorem dX10_traceOf_2 : decode cX10_traceOf 2 = .ok (.iload_n 2, 1) := by decide +kernel
theorem dX10_traceOf_3 : decode cX10_traceOf 3 = .ok (.invokevirtual 102, 3) := by decide +kernel
theorem dX10_traceOf_6 : decode cX10_traceOf 6 = .ok (.aload_n 0, 1) := by decide +kernel
theorem dX10_traceOf_7 : decode cX10_traceOf 7 = .ok (.getfield 40, 3) := by decide +kernel
theorem dX10_traceOf_10 : decode cX10_traceOf 10 = .ok (.aload_n 0, 1) := by decide +kernel
theorem dX10_traceOf_11 : decode cX10_traceOf 11 = .ok (.getfield 10, 3) := by decide +kernel
theorem dX10_traceOf_14 : decode cX10_traceOf 14 = .ok (.iload_n 1, 1) := by decide +kernel
theorem dX10_traceOf_15 : decode cX10_traceOf 15 = .ok (.iload_n 2, 1) := by decide +kernel
theorem dX10_traceOf_16 : decode cX10_traceOf 16 = .ok (.invokevirtual 229, 3) := by decide +kernel
theorem dX10_traceOf_19 : decode cX10_traceOf 19 = .ok (.aload_n 0, 1) := by decide +kernel
theorem dX10_traceOf_20 : decode cX10_traceOf 20 = .ok (.getfield 40, 3) := by decide +kernel
theorem dX10_traceOf_23 : decode cX10_traceOf 23 = .ok (.getfield 235, 3) := by decide +kernel
theorem dX10_traceOf_26 : decode cX10_traceOf 26 = .ok (.ireturn, 1) := by decide +kernel
set_option maxRecDepth 20000 in
theorem ggX10_changesAtOrigin_X10_needQuotation : GoodIn wsX10_changesAtOrigin wsX10_needQuotation := goodIn_ca (goodIn_r _ [7, 8, 9, 2, 10, 11, 12, 6, 13, 14, 15, 16, 17, 18, 19, 20, 21, 22, 23, 24, 25, 96, 97, 98, 99, 100, 101, 102, 103, 104, 105, 106, 107, 108, 109, 110, 111, 112, 113, 114] (by decide +kernel) (by decide +kernel)) (goodIn_sub (fun _ h => List.mem_cons_of_mem _ (List.mem_append_right _ h)) (by decide +kernel))
set_option maxRecDepth 20000 in
theorem gX10_changesAtOrigin_X10_needQuotation : GoodIn wsX10_changesAtOrigin (wsV RX10 102 RX10 yX10_needQuotation wsX10_needQuotation) := goodIn_app (goodIn_of _ (by decide +kernel)) ggX10_changesAtOrigin_X10_needQuotation
set_option maxRecDepth 20000 in
theorem ggX10_changesAtOrigin_X5_trace : GoodIn wsX10_changesAtOrigin wsX5_trace := goodIn_r _ [30, 31, 32, 33, 21, 22, 17, 23, 24, 25, 34, 35, 36, 37, 38, 39, 40, 41, 42, 29, 43, 44, 45, 46, 47, 48, 49, 50, 51, 52, 53, 54, 55, 56, 57, 58, 59, 60, 61, 62, 63, 64, 65, 66, 67, 68, 69, 70, 71, 72, 73, 74, 75, 76, 77, 78, 79, 80, 81, 82, 83, 84, 85, 86, 87, 88, 89, 90, 91, 115, 116, 117, 103, 104, 105, 106, 107, 108, 109, 110, 111, 112, 113, 114, 118, 119, 120, 121, 122] (by decide +kernel) (by decide +kernel)
set_option maxRecDepth 20000 in
theorem gX10_changesAtOrigin_X5_trace : GoodIn wsX10_changesAtOrigin (wsV RX10 229 RX5 yX5_trace wsX5_trace) := goodIn_app (goodIn_of _ (by decide +kernel)) ggX10_changesAtOrigin_X5_trace
set_option maxRecDepth 20000 in
theorem ggX10_changesAtOrigin_X5_findAtOrigin : GoodIn wsX10_changesAtOrigin wsX5_findAtOrigin := goodIn_r _ [95, 44, 32, 33, 21, 22, 17, 23, 24, 25, 49, 50, 51, 52, 53, 54, 55, 35, 36, 37, 38, 39, 56, 57, 58, 59, 60, 61, 62, 63, 64, 65, 66, 67, 68, 69, 70, 71, 72, 73, 74, 75, 76, 77, 78, 115, 116, 117, 119, 120, 121, 122, 111, 112, 113, 114, 103, 104, 105, 106, 107, 108, 109, 110, 118] (by decide +kernel) (by decide +kernel)
set_option maxRecDepth 20000 in
theorem gX10_changesAtOrigin_X5_findAtOrigin : GoodIn wsX10_changesAtOrigin (wsV RX10 238 RX5 yX5_findAtOrigin wsX5_findAtOrigin) := goodIn_app (goodIn_of _ (by decide +kernel)) ggX10_changesAtOrigin_X5_findAtOrigin
theorem dX10_changesAtOrigin_0 : decode cX10_changesAtOrigin 0 = .ok (.aload_n 0, 1) := by decide +kernel
theorem dX10_changesAtOrigin_1 : decode cX10_changesAtOrigin 1 = .ok (.iload_n 1, 1) := by decide +kernel
theorem dX10_changesAtOrigin_2 : decode cX10_changesAtOrigin 2 = .ok (.iload_n 2, 1) := by decide +kernel
theorem dX10_changesAtOrigin_3 : decode cX10_changesAtOrigin 3 = .ok (.invokevirtual 102, 3) := by decide +kernel
theorem dX10_changesAtOrigin_6 : decode cX10_changesAtOrigin 6 = .ok (.aload_n 0, 1) := by decide +kernel
theorem dX10_changesAtOrigin_7 : decode cX10_changesAtOrigin 7 = .ok (.getfield 40, 3) := by decide +kernel
theorem dX10_changesAtOrigin_10 : decode cX10_changesAtOrigin 10 = .ok (.aload_n 0, 1) := by decide +kernel
theorem dX10_changesAtOrigin_11 : decode cX10_changesAtOrigin 11 = .ok (.getfield 10, 3) := by decide +kernel
theorem dX10_changesAtOrigin_14 : decode cX10_changesAtOrigin 14 = .ok (.iload_n 1, 1) := by decide +kernel
theorem dX10_changesAtOrigin_15 : decode cX10_changesAtOrigin 15 = .ok (.iload_n 2, 1) := by decide +kernel
theorem dX10_changesAtOrigin_16 : decode cX10_changesAtOrigin 16 = .ok (.invokevirtual 229, 3) := by decide +kernel
theorem dX10_changesAtOrigin_19 : decode cX10_changesAtOrigin 19 = .ok (.aload_n 0, 1) := by decide +kernel
theorem dX10_changesAtOrigin_20 : decode cX10_changesAtOrigin 20 = .ok (.getfield 40, 3) := by decide +kernel
theorem dX10_changesAtOrigin_23 : decode cX10_changesAtOrigin 23 = .ok (.aload_n 0, 1) := by decide +kernel
theorem dX10_changesAtOrigin_24 : decode cX10_changesAtOrigin 24 = .ok (.getfield 10, 3) := by decide +kernel
theorem dX10_changesAtOrigin_27 : decode cX10_changesAtOrigin 27 = .ok (.iload_n 1, 1) := by decide +kernel
theorem dX10_changesAtOrigin_28 : decode cX10_changesAtOrigin 28 = .ok (.iload_n 2, 1) := by decide +kernel
theorem dX10_changesAtOrigin_29 : decode cX10_changesAtOrigin 29 = .ok (.invokevirtual 238, 3) := by decide +kernel
theorem dX10_changesAtOrigin_32 : decode cX10_changesAtOrigin 32 = .ok (.ireturn, 1) := by decide +kernel
set_option maxRecDepth 20000 in
theorem ggX10_quotedAgain_X10_needQuotation : GoodIn wsX10_quotedAgain wsX10_needQuotation := goodIn_ca (goodIn_r _ [7, 8, 9, 2, 10, 11, 12, 6, 13, 14, 15, 16, 17, 18, 19, 20, 21, 22, 23, 24, 25, 81, 82, 83, 84, 85, 86, 87, 88, 89, 90, 91, 92, 93, 94, 95, 96, 97, 98, 99] (by decide +kernel) (by decide +kernel)) (goodIn_sub (fun _ h => List.mem_cons_of_mem _ (List.mem_append_right _ h)) (by decide +kernel))
set_option maxRecDepth 20000 in
theorem gX10_quotedAgain_X10_needQuotation : GoodIn wsX10_quotedAgain (wsV RX10 102 RX10 yX10_needQuotation wsX10_needQuotation) := goodIn_app (goodIn_of _ (by decide +kernel)) ggX10_quotedAgain_X10_needQuotation
set_option maxRecDepth 20000 in
theorem ggX10_quotedAgain_X5_children : GoodIn wsX10_quotedAgain wsX5_children := goodIn_r _ [30, 31, 32, 21, 22, 17, 23, 24, 25, 33, 34, 35, 36, 37, 38, 39, 40, 41, 29, 42, 43, 44, 45, 46, 47, 48, 49, 50, 51, 52, 53, 54, 55, 56, 57, 58, 59, 60, 61, 62, 63, 64, 65, 66, 67, 68, 69, 70, 71, 72, 73, 74, 75, 76, 77, 78, 79, 80, 96, 97, 98, 99, 88, 89, 90, 91, 92, 93, 94, 95, 100, 101, 102, 103, 104, 105, 106, 107] (by decide +kernel) (by decide +kernel)
set_option maxRecDepth 20000 in
theorem gX10_quotedAgain_X5_children : GoodIn wsX10_quotedAgain (wsV RX10 241 RX5 yX5_children wsX5_children) := goodIn_app (goodIn_of _ (by decide +kernel)) ggX10_quotedAgain_X5_children
theorem dX10_quotedAgain_0 : decode cX10_quotedAgain 0 = .ok (.aload_n 0, 1) := by decide +kernel
theorem dX10_quotedAgain_1 : decode cX10_quotedAgain 1 = .ok (.iload_n 1, 1) := by decide +kernel
theorem dX10_quotedAgain_2 : decode cX10_quotedAgain 2 = .ok (.iload_n 2, 1) := by decide +kernel
theorem dX10_quotedAgain_3 : decode cX10_quotedAgain 3 = .ok (.invokevirtual 102, 3) := by decide +kernel
theorem dX10_quotedAgain_6 : decode cX10_quotedAgain 6 = .ok (.aload_n 0, 1) := by decide +kernel
theorem dX10_quotedAgain_7 : decode cX10_quotedAgain 7 = .ok (.getfield 40, 3) := by decide +kernel
theorem dX10_quotedAgain_10 : decode cX10_quotedAgain 10 = .ok (.aload_n 0, 1) := by decide +kernel
theorem dX10_quotedAgain_11 : decode cX10_quotedAgain 11 = .ok (.getfield 10, 3) := by decide +kernel
theorem dX10_quotedAgain_14 : decode cX10_quotedAgain 14 = .ok (.iload_n 1, 1) := by decide +kernel
theorem dX10_quotedAgain_15 : decode cX10_quotedAgain 15 = .ok (.iload_n 2, 1) := by decide +kernel
theorem dX10_quotedAgain_16 : decode cX10_quotedAgain 16 = .ok (.invokevirtual 241, 3) := by decide +kernel
theorem dX10_quotedAgain_19 : decode cX10_quotedAgain 19 = .ok (.ireturn, 1) := by decide +kernel
set_option maxRecDepth 20000 in
theorem ggX10_blameOf_X10_needAuthor : GoodIn wsX10_blameOf wsX10_needAuthor := goodIn_ca (goodIn_r _ [6, 7, 8, 9, 10, 5, 11] (by decide +kernel) (by decide +kernel)) (goodIn_sub (fun _ h => List.mem_cons_of_mem _ (List.mem_append_right _ h)) (by decide +kernel))
set_option maxRecDepth 20000 in
theorem gX10_blameOf_X10_needAuthor : GoodIn wsX10_blameOf (va_wsS RX10 244 yX10_needAuthor wsX10_needAuthor) := goodIn_app (goodIn_of _ (by decide +kernel)) ggX10_blameOf_X10_needAuthor
set_option maxRecDepth 20000 in
theorem ggX10_blameOf_X5_changesWritten : GoodIn wsX10_blameOf wsX5_changesWritten := goodIn_r _ [16, 17, 18, 19, 20, 21, 22, 23, 24, 25, 26, 15, 27, 28, 29, 30, 31, 32, 33, 34, 35, 36, 37, 38, 39, 40, 41, 42, 43, 44, 45, 46, 47, 48, 49, 50, 51, 52, 53, 54, 55, 56, 57, 58, 59, 60, 61, 62, 63, 64, 65, 66, 67, 68, 76, 77, 78, 79, 80, 81, 82, 83, 84, 85, 86, 87, 88, 89, 90, 91, 92, 93, 94, 95] (by decide +kernel) (by decide +kernel)
set_option maxRecDepth 20000 in
theorem gX10_blameOf_X5_changesWritten : GoodIn wsX10_blameOf (wsV RX10 247 RX5 yX5_changesWritten wsX5_changesWritten) := goodIn_app (goodIn_of _ (by decide +kernel)) ggX10_blameOf_X5_changesWritten
theorem dX10_blameOf_0 : decode cX10_blameOf 0 = .ok (.iload_n 1, 1) := by decide +kernel
theorem dX10_blameOf_1 : decode cX10_blameOf 1 = .ok (.invokestatic 244, 3) := by decide +kernel
theorem dX10_blameOf_4 : decode cX10_blameOf 4 = .ok (.aload_n 0, 1) := by decide +kernel
theorem dX10_blameOf_5 : decode cX10_blameOf 5 = .ok (.getfield 40, 3) := by decide +kernel
theorem dX10_blameOf_8 : decode cX10_blameOf 8 = .ok (.aload_n 0, 1) := by decide +kernel
theorem dX10_blameOf_9 : decode cX10_blameOf 9 = .ok (.getfield 10, 3) := by decide +kernel
theorem dX10_blameOf_12 : decode cX10_blameOf 12 = .ok (.iload_n 1, 1) := by decide +kernel
theorem dX10_blameOf_13 : decode cX10_blameOf 13 = .ok (.iconst (-1), 1) := by decide +kernel
theorem dX10_blameOf_14 : decode cX10_blameOf 14 = .ok (.invokevirtual 247, 3) := by decide +kernel
theorem dX10_blameOf_17 : decode cX10_blameOf 17 = .ok (.ireturn, 1) := by decide +kernel
set_option maxRecDepth 20000 in
theorem ggX10_wrongs_X10_needAuthor : GoodIn wsX10_wrongs wsX10_needAuthor := goodIn_ca (goodIn_r _ [6, 7, 8, 9, 10, 5, 11] (by decide +kernel) (by decide +kernel)) (goodIn_sub (fun _ h => List.mem_cons_of_mem _ (List.mem_append_right _ h)) (by decide +kernel))
set_option maxRecDepth 20000 in
theorem gX10_wrongs_X10_needAuthor : GoodIn wsX10_wrongs (va_wsS RX10 244 yX10_needAuthor wsX10_needAuthor) := goodIn_app (goodIn_of _ (by decide +kernel)) ggX10_wrongs_X10_needAuthor
set_option maxRecDepth 20000 in
theorem ggX10_wrongs_X5_changesWritten : GoodIn wsX10_wrongs wsX5_changesWritten := goodIn_r _ [16, 17, 18, 19, 20, 21, 22, 23, 24, 25, 26, 15, 27, 28, 29, 30, 31, 32, 33, 34, 35, 36, 37, 38, 39, 40, 41, 42, 43, 44, 45, 46, 47, 48, 49, 50, 51, 52, 53, 54, 55, 56, 57, 58, 59, 60, 61, 62, 63, 64, 65, 66, 67, 68, 76, 77, 78, 79, 80, 81, 82, 83, 84, 85, 86, 87, 88, 89, 90, 91, 92, 93, 94, 95] (by decide +kernel) (by decide +kernel)
set_option maxRecDepth 20000 in
theorem gX10_wrongs_X5_changesWritten : GoodIn wsX10_wrongs (wsV RX10 247 RX5 yX5_changesWritten wsX5_changesWritten) := goodIn_app (goodIn_of _ (by decide +kernel)) ggX10_wrongs_X5_changesWritten
theorem dX10_wrongs_0 : decode cX10_wrongs 0 = .ok (.iload_n 1, 1) := by decide +kernel
theorem dX10_wrongs_1 : decode cX10_wrongs 1 = .ok (.invokestatic 244, 3) := by decide +kernel
theorem dX10_wrongs_4 : decode cX10_wrongs 4 = .ok (.iload_n 2, 1) := by decide +kernel
theorem dX10_wrongs_5 : decode cX10_wrongs 5 = .ok (.invokestatic 244, 3) := by decide +kernel
theorem dX10_wrongs_8 : decode cX10_wrongs 8 = .ok (.aload_n 0, 1) := by decide +kernel
theorem dX10_wrongs_9 : decode cX10_wrongs 9 = .ok (.getfield 40, 3) := by decide +kernel
theorem dX10_wrongs_12 : decode cX10_wrongs 12 = .ok (.aload_n 0, 1) := by decide +kernel
theorem dX10_wrongs_13 : decode cX10_wrongs 13 = .ok (.getfield 10, 3) := by decide +kernel
theorem dX10_wrongs_16 : decode cX10_wrongs 16 = .ok (.iload_n 1, 1) := by decide +kernel
theorem dX10_wrongs_17 : decode cX10_wrongs 17 = .ok (.iload_n 2, 1) := by decide +kernel
theorem dX10_wrongs_18 : decode cX10_wrongs 18 = .ok (.invokevirtual 247, 3) := by decide +kernel
theorem dX10_wrongs_21 : decode cX10_wrongs 21 = .ok (.ireturn, 1) := by decide +kernel
set_option maxRecDepth 20000 in
theorem ggX10_blameByAuthors_X5_changesWritten : GoodIn wsX10_blameByAuthors wsX5_changesWritten := goodIn_r _ [7, 8, 9, 10, 11, 12, 13, 14, 15, 16, 17, 6, 18, 19, 20, 21, 22, 23, 24, 25, 26, 27, 28, 29, 30, 31, 32, 33, 34, 35, 36, 37, 38, 39, 40, 41, 42, 43, 44, 45, 46, 47, 48, 49, 50, 51, 52, 53, 54, 55, 56, 57, 58, 59, 67, 68, 69, 70, 71, 72, 73, 74, 75, 76, 77, 78, 79, 80, 81, 82, 83, 84, 85, 86] (by decide +kernel) (by decide +kernel)
set_option maxRecDepth 20000 in
theorem gX10_blameByAuthors_X5_changesWritten : GoodIn wsX10_blameByAuthors (wsV RX10 247 RX5 yX5_changesWritten wsX5_changesWritten) := goodIn_app (goodIn_of _ (by decide +kernel)) ggX10_blameByAuthors_X5_changesWritten
theorem dX10_blameByAuthors_0 : decode cX10_blameByAuthors 0 = .ok (.iconst 0, 1) := by decide +kernel
theorem dX10_blameByAuthors_1 : decode cX10_blameByAuthors 1 = .ok (.istore_n 1, 1) := by decide +kernel
theorem dX10_blameByAuthors_2 : decode cX10_blameByAuthors 2 = .ok (.iconst 0, 1) := by decide +kernel
theorem dX10_blameByAuthors_3 : decode cX10_blameByAuthors 3 = .ok (.istore_n 2, 1) := by decide +kernel
theorem dX10_blameByAuthors_4 : decode cX10_blameByAuthors 4 = .ok (.iload_n 2, 1) := by decide +kernel
theorem dX10_blameByAuthors_5 : decode cX10_blameByAuthors 5 = .ok (.bipush 8, 2) := by decide +kernel
theorem dX10_blameByAuthors_7 : decode cX10_blameByAuthors 7 = .ok (.if_icmp .ge 25, 3) := by decide +kernel
theorem dX10_blameByAuthors_10 : decode cX10_blameByAuthors 10 = .ok (.iload_n 1, 1) := by decide +kernel
theorem dX10_blameByAuthors_11 : decode cX10_blameByAuthors 11 = .ok (.aload_n 0, 1) := by decide +kernel
theorem dX10_blameByAuthors_12 : decode cX10_blameByAuthors 12 = .ok (.getfield 40, 3) := by decide +kernel
theorem dX10_blameByAuthors_15 : decode cX10_blameByAuthors 15 = .ok (.aload_n 0, 1) := by decide +kernel
theorem dX10_blameByAuthors_16 : decode cX10_blameByAuthors 16 = .ok (.getfield 10, 3) := by decide +kernel
theorem dX10_blameByAuthors_19 : decode cX10_blameByAuthors 19 = .ok (.iload_n 2, 1) := by decide +kernel
theorem dX10_blameByAuthors_20 : decode cX10_blameByAuthors 20 = .ok (.iconst (-1), 1) := by decide +kernel
theorem dX10_blameByAuthors_21 : decode cX10_blameByAuthors 21 = .ok (.invokevirtual 247, 3) := by decide +kernel
theorem dX10_blameByAuthors_24 : decode cX10_blameByAuthors 24 = .ok (.iadd, 1) := by decide +kernel
theorem dX10_blameByAuthors_25 : decode cX10_blameByAuthors 25 = .ok (.istore_n 1, 1) := by decide +kernel
theorem dX10_blameByAuthors_26 : decode cX10_blameByAuthors 26 = .ok (.iinc 2 1, 3) := by decide +kernel
theorem dX10_blameByAuthors_29 : decode cX10_blameByAuthors 29 = .ok (.goto (-25), 3) := by decide +kernel
theorem dX10_blameByAuthors_32 : decode cX10_blameByAuthors 32 = .ok (.iload_n 1, 1) := by decide +kernel
theorem dX10_blameByAuthors_33 : decode cX10_blameByAuthors 33 = .ok (.ireturn, 1) := by decide +kernel
set_option maxRecDepth 20000 in
theorem ggX10_blameBySources_X5_changesSuffered : GoodIn wsX10_blameBySources wsX5_changesSuffered := goodIn_r _ [7, 8, 9, 10, 11, 12, 13, 14, 15, 16, 17, 18, 19, 20, 21, 22, 23, 6, 24, 25, 26, 27, 28, 29, 30, 31, 32, 33, 34, 35, 36, 37, 38, 39, 40, 41, 42, 43, 44, 45, 46, 47, 48, 49, 50, 51, 52, 53, 54, 55, 63, 64, 65, 66, 67, 68, 69, 70, 71, 72, 73, 74, 75, 76, 77, 78, 79, 80, 81, 82] (by decide +kernel) (by decide +kernel)
set_option maxRecDepth 20000 in
theorem gX10_blameBySources_X5_changesSuffered : GoodIn wsX10_blameBySources (wsV RX10 250 RX5 yX5_changesSuffered wsX5_changesSuffered) := goodIn_app (goodIn_of _ (by decide +kernel)) ggX10_blameBySources_X5_changesSuffered
theorem dX10_blameBySources_0 : decode cX10_blameBySources 0 = .ok (.iconst 0, 1) := by decide +kernel
theorem dX10_blameBySources_1 : decode cX10_blameBySources 1 = .ok (.istore_n 1, 1) := by decide +kernel
theorem dX10_blameBySources_2 : decode cX10_blameBySources 2 = .ok (.iconst 0, 1) := by decide +kernel
theorem dX10_blameBySources_3 : decode cX10_blameBySources 3 = .ok (.istore_n 2, 1) := by decide +kernel
theorem dX10_blameBySources_4 : decode cX10_blameBySources 4 = .ok (.iload_n 2, 1) := by decide +kernel
theorem dX10_blameBySources_5 : decode cX10_blameBySources 5 = .ok (.aload_n 0, 1) := by decide +kernel
theorem dX10_blameBySources_6 : decode cX10_blameBySources 6 = .ok (.getfield 10, 3) := by decide +kernel
theorem dX10_blameBySources_9 : decode cX10_blameBySources 9 = .ok (.getfield 94, 3) := by decide +kernel
theorem dX10_blameBySources_12 : decode cX10_blameBySources 12 = .ok (.if_icmp .ge 24, 3) := by decide +kernel
theorem dX10_blameBySources_15 : decode cX10_blameBySources 15 = .ok (.iload_n 1, 1) := by decide +kernel
theorem dX10_blameBySources_16 : decode cX10_blameBySources 16 = .ok (.aload_n 0, 1) := by decide +kernel
theorem dX10_blameBySources_17 : decode cX10_blameBySources 17 = .ok (.getfield 40, 3) := by decide +kernel
theorem dX10_blameBySources_20 : decode cX10_blameBySources 20 = .ok (.aload_n 0, 1) := by decide +kernel
theorem dX10_blameBySources_21 : decode cX10_blameBySources 21 = .ok (.getfield 10, 3) := by decide +kernel
theorem dX10_blameBySources_24 : decode cX10_blameBySources 24 = .ok (.iload_n 2, 1) := by decide +kernel
theorem dX10_blameBySources_25 : decode cX10_blameBySources 25 = .ok (.invokevirtual 250, 3) := by decide +kernel
theorem dX10_blameBySources_28 : decode cX10_blameBySources 28 = .ok (.iadd, 1) := by decide +kernel
theorem dX10_blameBySources_29 : decode cX10_blameBySources 29 = .ok (.istore_n 1, 1) := by decide +kernel
theorem dX10_blameBySources_30 : decode cX10_blameBySources 30 = .ok (.iinc 2 1, 3) := by decide +kernel
theorem dX10_blameBySources_33 : decode cX10_blameBySources 33 = .ok (.goto (-29), 3) := by decide +kernel
theorem dX10_blameBySources_36 : decode cX10_blameBySources 36 = .ok (.iload_n 1, 1) := by decide +kernel
theorem dX10_blameBySources_37 : decode cX10_blameBySources 37 = .ok (.ireturn, 1) := by decide +kernel
set_option maxRecDepth 20000 in
theorem ggX10_faithfulShare_X9_at : GoodIn wsX10_faithfulShare wsX9_at := goodIn_r _ [7, 8, 9, 64, 65, 66, 67] (by decide +kernel) (by decide +kernel)
set_option maxRecDepth 20000 in
theorem gX10_faithfulShare_X9_at : GoodIn wsX10_faithfulShare (wsV RX10 128 RX9 yX9_at wsX9_at) := goodIn_app (goodIn_of _ (by decide +kernel)) ggX10_faithfulShare_X9_at
set_option maxRecDepth 20000 in
theorem ggX10_faithfulShare_X5_faithfulIn : GoodIn wsX10_faithfulShare wsX5_faithfulIn := goodIn_r _ [14, 15, 4, 5, 6, 7, 8, 9, 16, 17, 18, 13, 19, 20, 21, 22, 23, 24, 25, 26, 27, 28, 29, 30, 31, 32, 33, 34, 35, 36, 37, 38, 39, 40, 41, 42, 43, 44, 45, 46, 47, 48, 49, 50, 51, 52, 53, 54, 55, 56, 68, 69, 70, 71, 72, 73, 74, 75, 64, 65, 66, 67, 76, 77, 78, 79, 80, 81, 82, 83] (by decide +kernel) (by decide +kernel)
set_option maxRecDepth 20000 in
theorem gX10_faithfulShare_X5_faithfulIn : GoodIn wsX10_faithfulShare (wsV RX10 253 RX5 yX5_faithfulIn wsX5_faithfulIn) := goodIn_app (goodIn_of _ (by decide +kernel)) ggX10_faithfulShare_X5_faithfulIn
theorem dX10_faithfulShare_0 : decode cX10_faithfulShare 0 = .ok (.iconst 0, 1) := by decide +kernel
theorem dX10_faithfulShare_1 : decode cX10_faithfulShare 1 = .ok (.istore_n 1, 1) := by decide +kernel
theorem dX10_faithfulShare_2 : decode cX10_faithfulShare 2 = .ok (.iconst 0, 1) := by decide +kernel
theorem dX10_faithfulShare_3 : decode cX10_faithfulShare 3 = .ok (.istore_n 2, 1) := by decide +kernel
theorem dX10_faithfulShare_4 : decode cX10_faithfulShare 4 = .ok (.iconst 0, 1) := by decide +kernel
theorem dX10_faithfulShare_5 : decode cX10_faithfulShare 5 = .ok (.istore_n 3, 1) := by decide +kernel
theorem dX10_faithfulShare_6 : decode cX10_faithfulShare 6 = .ok (.iload_n 3, 1) := by decide +kernel
theorem dX10_faithfulShare_7 : decode cX10_faithfulShare 7 = .ok (.aload_n 0, 1) := by decide +kernel
theorem dX10_faithfulShare_8 : decode cX10_faithfulShare 8 = .ok (.getfield 10, 3) := by decide +kernel
theorem dX10_faithfulShare_11 : decode cX10_faithfulShare 11 = .ok (.getfield 94, 3) := by decide +kernel
theorem dX10_faithfulShare_14 : decode cX10_faithfulShare 14 = .ok (.if_icmp .ge 38, 3) := by decide +kernel
theorem dX10_faithfulShare_17 : decode cX10_faithfulShare 17 = .ok (.iload_n 1, 1) := by decide +kernel
theorem dX10_faithfulShare_18 : decode cX10_faithfulShare 18 = .ok (.aload_n 0, 1) := by decide +kernel
theorem dX10_faithfulShare_19 : decode cX10_faithfulShare 19 = .ok (.getfield 10, 3) := by decide +kernel
theorem dX10_faithfulShare_22 : decode cX10_faithfulShare 22 = .ok (.iload_n 3, 1) := by decide +kernel
theorem dX10_faithfulShare_23 : decode cX10_faithfulShare 23 = .ok (.invokevirtual 128, 3) := by decide +kernel
theorem dX10_faithfulShare_26 : decode cX10_faithfulShare 26 = .ok (.getfield 197, 3) := by decide +kernel
theorem dX10_faithfulShare_29 : decode cX10_faithfulShare 29 = .ok (.iadd, 1) := by decide +kernel
theorem dX10_faithfulShare_30 : decode cX10_faithfulShare 30 = .ok (.istore_n 1, 1) := by decide +kernel
theorem dX10_faithfulShare_31 : decode cX10_faithfulShare 31 = .ok (.iload_n 2, 1) := by decide +kernel
theorem dX10_faithfulShare_32 : decode cX10_faithfulShare 32 = .ok (.aload_n 0, 1) := by decide +kernel
theorem dX10_faithfulShare_33 : decode cX10_faithfulShare 33 = .ok (.getfield 40, 3) := by decide +kernel
theorem dX10_faithfulShare_36 : decode cX10_faithfulShare 36 = .ok (.aload_n 0, 1) := by decide +kernel
theorem dX10_faithfulShare_37 : decode cX10_faithfulShare 37 = .ok (.getfield 10, 3) := by decide +kernel
theorem dX10_faithfulShare_40 : decode cX10_faithfulShare 40 = .ok (.iload_n 3, 1) := by decide +kernel
theorem dX10_faithfulShare_41 : decode cX10_faithfulShare 41 = .ok (.invokevirtual 253, 3) := by decide +kernel
theorem dX10_faithfulShare_44 : decode cX10_faithfulShare 44 = .ok (.iadd, 1) := by decide +kernel
theorem dX10_faithfulShare_45 : decode cX10_faithfulShare 45 = .ok (.istore_n 2, 1) := by decide +kernel
theorem dX10_faithfulShare_46 : decode cX10_faithfulShare 46 = .ok (.iinc 3 1, 3) := by decide +kernel
theorem dX10_faithfulShare_49 : decode cX10_faithfulShare 49 = .ok (.goto (-43), 3) := by decide +kernel
theorem dX10_faithfulShare_52 : decode cX10_faithfulShare 52 = .ok (.iload_n 1, 1) := by decide +kernel
theorem dX10_faithfulShare_53 : decode cX10_faithfulShare 53 = .ok (.ifCond .ne 7, 3) := by decide +kernel
theorem dX10_faithfulShare_56 : decode cX10_faithfulShare 56 = .ok (.dconst 0, 1) := by decide +kernel
theorem dX10_faithfulShare_57 : decode cX10_faithfulShare 57 = .ok (.goto 8, 3) := by decide +kernel
theorem dX10_faithfulShare_60 : decode cX10_faithfulShare 60 = .ok (.iload_n 2, 1) := by decide +kernel
theorem dX10_faithfulShare_61 : decode cX10_faithfulShare 61 = .ok (.i2d, 1) := by decide +kernel
theorem dX10_faithfulShare_62 : decode cX10_faithfulShare 62 = .ok (.iload_n 1, 1) := by decide +kernel
theorem dX10_faithfulShare_63 : decode cX10_faithfulShare 63 = .ok (.i2d, 1) := by decide +kernel
theorem dX10_faithfulShare_64 : decode cX10_faithfulShare 64 = .ok (.ddiv, 1) := by decide +kernel
theorem dX10_faithfulShare_65 : decode cX10_faithfulShare 65 = .ok (.dreturn, 1) := by decide +kernel
set_option maxRecDepth 20000 in
theorem ggX10_answers_X10_needPamphlet : GoodIn wsX10_answers wsX10_needPamphlet := goodIn_ca (goodIn_r _ [6, 7, 8, 1, 9, 10, 11, 12, 13, 14, 34, 35, 36, 37, 38, 39, 40, 41, 42, 43, 44] (by decide +kernel) (by decide +kernel)) (goodIn_sub (fun _ h => List.mem_cons_of_mem _ (List.mem_append_right _ h)) (by decide +kernel))
set_option maxRecDepth 20000 in
theorem gX10_answers_X10_needPamphlet : GoodIn wsX10_answers (wsV RX10 139 RX10 yX10_needPamphlet wsX10_needPamphlet) := goodIn_app (goodIn_of _ (by decide +kernel)) ggX10_answers_X10_needPamphlet
set_option maxRecDepth 20000 in
theorem ggX10_answers_X9_at : GoodIn wsX10_answers wsX9_at := goodIn_r _ [18, 19, 20, 41, 42, 43, 44] (by decide +kernel) (by decide +kernel)
set_option maxRecDepth 20000 in
theorem gX10_answers_X9_at : GoodIn wsX10_answers (wsV RX10 128 RX9 yX9_at wsX9_at) := goodIn_app (goodIn_of _ (by decide +kernel)) ggX10_answers_X9_at
set_option maxRecDepth 20000 in
theorem ggX10_answers_X4_quotes : GoodIn wsX10_answers wsX4_quotes := goodIn_r _ [25, 26, 27, 28, 29, 30, 31, 32, 33, 45, 46, 47, 48, 49, 50, 51, 52, 53] (by decide +kernel) (by decide +kernel)
set_option maxRecDepth 20000 in
theorem gX10_answers_X4_quotes : GoodIn wsX10_answers (wsV RX10 256 RX4 yX4_quotes wsX4_quotes) := goodIn_app (goodIn_of _ (by decide +kernel)) ggX10_answers_X4_quotes
theorem dX10_answers_0 : decode cX10_answers 0 = .ok (.aload_n 0, 1) := by decide +kernel
theorem dX10_answers_1 : decode cX10_answers 1 = .ok (.iload_n 1, 1) := by decide +kernel
theorem dX10_answers_2 : decode cX10_answers 2 = .ok (.invokevirtual 139, 3) := by decide +kernel
theorem dX10_answers_5 : decode cX10_answers 5 = .ok (.aload_n 0, 1) := by decide +kernel
theorem dX10_answers_6 : decode cX10_answers 6 = .ok (.iload_n 2, 1) := by decide +kernel
theorem dX10_answers_7 : decode cX10_answers 7 = .ok (.invokevirtual 139, 3) := by decide +kernel
theorem dX10_answers_10 : decode cX10_answers 10 = .ok (.aload_n 0, 1) := by decide +kernel
theorem dX10_answers_11 : decode cX10_answers 11 = .ok (.getfield 10, 3) := by decide +kernel
theorem dX10_answers_14 : decode cX10_answers 14 = .ok (.iload_n 1, 1) := by decide +kernel
theorem dX10_answers_15 : decode cX10_answers 15 = .ok (.invokevirtual 128, 3) := by decide +kernel
theorem dX10_answers_18 : decode cX10_answers 18 = .ok (.iload_n 2, 1) := by decide +kernel
theorem dX10_answers_19 : decode cX10_answers 19 = .ok (.invokevirtual 256, 3) := by decide +kernel
theorem dX10_answers_22 : decode cX10_answers 22 = .ok (.ireturn, 1) := by decide +kernel
set_option maxRecDepth 20000 in
theorem ggX10_ladderOf_X10_needPamphlet : GoodIn wsX10_ladderOf wsX10_needPamphlet := goodIn_ca (goodIn_r _ [7, 8, 9, 2, 10, 11, 12, 13, 14, 15, 50, 51, 52, 53, 54, 55, 56, 57, 58, 59, 60] (by decide +kernel) (by decide +kernel)) (goodIn_sub (fun _ h => List.mem_cons_of_mem _ (List.mem_append_right _ h)) (by decide +kernel))
set_option maxRecDepth 20000 in
theorem gX10_ladderOf_X10_needPamphlet : GoodIn wsX10_ladderOf (wsV RX10 139 RX10 yX10_needPamphlet wsX10_needPamphlet) := goodIn_app (goodIn_of _ (by decide +kernel)) ggX10_ladderOf_X10_needPamphlet
set_option maxRecDepth 20000 in
theorem ggX10_ladderOf_X3_longest : GoodIn wsX10_ladderOf wsX3_longest := goodIn_r _ [20, 21, 22, 23, 24, 25, 26, 27, 28, 13, 29, 30, 31, 32, 33, 34, 35, 36, 37, 38, 39, 40, 41, 42, 43, 44, 45, 46, 47, 48, 49, 61, 57, 58, 59, 60, 62, 63, 64, 65, 66, 67, 68, 69, 70] (by decide +kernel) (by decide +kernel)
set_option maxRecDepth 20000 in
theorem gX10_ladderOf_X3_longest : GoodIn wsX10_ladderOf (wsV RX10 259 RX3 yX3_longest wsX3_longest) := goodIn_app (goodIn_of _ (by decide +kernel)) ggX10_ladderOf_X3_longest
theorem dX10_ladderOf_0 : decode cX10_ladderOf 0 = .ok (.aload_n 0, 1) := by decide +kernel
theorem dX10_ladderOf_1 : decode cX10_ladderOf 1 = .ok (.iload_n 1, 1) := by decide +kernel
theorem dX10_ladderOf_2 : decode cX10_ladderOf 2 = .ok (.invokevirtual 139, 3) := by decide +kernel
theorem dX10_ladderOf_5 : decode cX10_ladderOf 5 = .ok (.aload_n 0, 1) := by decide +kernel
theorem dX10_ladderOf_6 : decode cX10_ladderOf 6 = .ok (.getfield 47, 3) := by decide +kernel
theorem dX10_ladderOf_9 : decode cX10_ladderOf 9 = .ok (.aload_n 0, 1) := by decide +kernel
theorem dX10_ladderOf_10 : decode cX10_ladderOf 10 = .ok (.getfield 10, 3) := by decide +kernel
theorem dX10_ladderOf_13 : decode cX10_ladderOf 13 = .ok (.iload_n 1, 1) := by decide +kernel
theorem dX10_ladderOf_14 : decode cX10_ladderOf 14 = .ok (.invokevirtual 259, 3) := by decide +kernel
theorem dX10_ladderOf_17 : decode cX10_ladderOf 17 = .ok (.ireturn, 1) := by decide +kernel
set_option maxRecDepth 20000 in
theorem ggX10_laddersOf_X10_needPamphlet : GoodIn wsX10_laddersOf wsX10_needPamphlet := goodIn_ca (goodIn_r _ [7, 8, 9, 2, 10, 11, 12, 13, 14, 15, 46, 47, 48, 49, 50, 51, 52, 53, 54, 55, 56] (by decide +kernel) (by decide +kernel)) (goodIn_sub (fun _ h => List.mem_cons_of_mem _ (List.mem_append_right _ h)) (by decide +kernel))
set_option maxRecDepth 20000 in
theorem gX10_laddersOf_X10_needPamphlet : GoodIn wsX10_laddersOf (wsV RX10 139 RX10 yX10_needPamphlet wsX10_needPamphlet) := goodIn_app (goodIn_of _ (by decide +kernel)) ggX10_laddersOf_X10_needPamphlet
set_option maxRecDepth 20000 in
theorem ggX10_laddersOf_X3_fromTheGround : GoodIn wsX10_laddersOf wsX3_fromTheGround := goodIn_r _ [20, 21, 22, 23, 24, 13, 25, 26, 27, 28, 29, 30, 31, 32, 33, 34, 35, 36, 37, 38, 39, 40, 41, 42, 43, 44, 45, 57, 58, 59, 60, 61, 62, 63, 64, 65, 53, 54, 55, 56, 66] (by decide +kernel) (by decide +kernel)
set_option maxRecDepth 20000 in
theorem gX10_laddersOf_X3_fromTheGround : GoodIn wsX10_laddersOf (wsV RX10 262 RX3 yX3_fromTheGround wsX3_fromTheGround) := goodIn_app (goodIn_of _ (by decide +kernel)) ggX10_laddersOf_X3_fromTheGround
theorem dX10_laddersOf_0 : decode cX10_laddersOf 0 = .ok (.aload_n 0, 1) := by decide +kernel
theorem dX10_laddersOf_1 : decode cX10_laddersOf 1 = .ok (.iload_n 1, 1) := by decide +kernel
theorem dX10_laddersOf_2 : decode cX10_laddersOf 2 = .ok (.invokevirtual 139, 3) := by decide +kernel
theorem dX10_laddersOf_5 : decode cX10_laddersOf 5 = .ok (.aload_n 0, 1) := by decide +kernel
theorem dX10_laddersOf_6 : decode cX10_laddersOf 6 = .ok (.getfield 47, 3) := by decide +kernel
theorem dX10_laddersOf_9 : decode cX10_laddersOf 9 = .ok (.aload_n 0, 1) := by decide +kernel
theorem dX10_laddersOf_10 : decode cX10_laddersOf 10 = .ok (.getfield 10, 3) := by decide +kernel
theorem dX10_laddersOf_13 : decode cX10_laddersOf 13 = .ok (.iload_n 1, 1) := by decide +kernel
theorem dX10_laddersOf_14 : decode cX10_laddersOf 14 = .ok (.invokevirtual 262, 3) := by decide +kernel
theorem dX10_laddersOf_17 : decode cX10_laddersOf 17 = .ok (.ireturn, 1) := by decide +kernel
set_option maxRecDepth 20000 in
theorem ggX10_readingOf_X10_needPamphlet : GoodIn wsX10_readingOf wsX10_needPamphlet := goodIn_ca (goodIn_r _ [7, 8, 9, 2, 10, 11, 12, 13, 14, 15, 42, 43, 44, 45, 46, 47, 48, 49, 50, 51, 52] (by decide +kernel) (by decide +kernel)) (goodIn_sub (fun _ h => List.mem_cons_of_mem _ (List.mem_append_right _ h)) (by decide +kernel))
set_option maxRecDepth 20000 in
theorem gX10_readingOf_X10_needPamphlet : GoodIn wsX10_readingOf (wsV RX10 139 RX10 yX10_needPamphlet wsX10_needPamphlet) := goodIn_app (goodIn_of _ (by decide +kernel)) ggX10_readingOf_X10_needPamphlet
set_option maxRecDepth 20000 in
theorem ggX10_readingOf_X3_gatherReading : GoodIn wsX10_readingOf wsX3_gatherReading := goodIn_r _ [20, 21, 22, 23, 24, 25, 26, 27, 28, 29, 30, 31, 32, 33, 34, 13, 35, 36, 37, 38, 39, 40, 19, 41, 53, 54, 49, 50, 51, 52, 55, 56, 57, 58, 59, 60, 61, 62] (by decide +kernel) (by decide +kernel)
set_option maxRecDepth 20000 in
theorem gX10_readingOf_X3_gatherReading : GoodIn wsX10_readingOf (wsV RX10 265 RX3 yX3_gatherReading wsX3_gatherReading) := goodIn_app (goodIn_of _ (by decide +kernel)) ggX10_readingOf_X3_gatherReading
theorem dX10_readingOf_0 : decode cX10_readingOf 0 = .ok (.aload_n 0, 1) := by decide +kernel
theorem dX10_readingOf_1 : decode cX10_readingOf 1 = .ok (.iload_n 1, 1) := by decide +kernel
theorem dX10_readingOf_2 : decode cX10_readingOf 2 = .ok (.invokevirtual 139, 3) := by decide +kernel
theorem dX10_readingOf_5 : decode cX10_readingOf 5 = .ok (.aload_n 0, 1) := by decide +kernel
theorem dX10_readingOf_6 : decode cX10_readingOf 6 = .ok (.getfield 47, 3) := by decide +kernel
theorem dX10_readingOf_9 : decode cX10_readingOf 9 = .ok (.aload_n 0, 1) := by decide +kernel
theorem dX10_readingOf_10 : decode cX10_readingOf 10 = .ok (.getfield 10, 3) := by decide +kernel
theorem dX10_readingOf_13 : decode cX10_readingOf 13 = .ok (.iload_n 1, 1) := by decide +kernel
theorem dX10_readingOf_14 : decode cX10_readingOf 14 = .ok (.invokevirtual 265, 3) := by decide +kernel
theorem dX10_readingOf_17 : decode cX10_readingOf 17 = .ok (.ireturn, 1) := by decide +kernel
set_option maxRecDepth 20000 in
theorem ggX10_readAt_X10_needPamphlet : GoodIn wsX10_readAt wsX10_needPamphlet := goodIn_ca (goodIn_r _ [7, 8, 9, 2, 10, 11, 12, 13, 14, 15, 49, 50, 51, 52, 53, 54, 55, 56, 57, 58, 59] (by decide +kernel) (by decide +kernel)) (goodIn_sub (fun _ h => List.mem_cons_of_mem _ (List.mem_append_right _ h)) (by decide +kernel))
set_option maxRecDepth 20000 in
theorem gX10_readAt_X10_needPamphlet : GoodIn wsX10_readAt (wsV RX10 139 RX10 yX10_needPamphlet wsX10_needPamphlet) := goodIn_app (goodIn_of _ (by decide +kernel)) ggX10_readAt_X10_needPamphlet
set_option maxRecDepth 20000 in
theorem ggX10_readAt_X3_gatherReading : GoodIn wsX10_readAt wsX3_gatherReading := goodIn_r _ [20, 21, 22, 23, 24, 25, 26, 27, 28, 29, 30, 31, 32, 33, 34, 13, 35, 36, 37, 38, 39, 40, 19, 41, 60, 61, 56, 57, 58, 59, 62, 63, 64, 65, 66, 67, 68, 69] (by decide +kernel) (by decide +kernel)
set_option maxRecDepth 20000 in
theorem gX10_readAt_X3_gatherReading : GoodIn wsX10_readAt (wsV RX10 265 RX3 yX3_gatherReading wsX3_gatherReading) := goodIn_app (goodIn_of _ (by decide +kernel)) ggX10_readAt_X3_gatherReading
set_option maxRecDepth 20000 in
theorem ggX10_readAt_X10_needPlace : GoodIn wsX10_readAt wsX10_needPlace := goodIn_ca (goodIn_r _ [44, 8, 9] (by decide +kernel) (by decide +kernel)) (goodIn_sub (fun _ h => List.mem_cons_of_mem _ (List.mem_append_right _ h)) (by decide +kernel))
set_option maxRecDepth 20000 in
theorem gX10_readAt_X10_needPlace : GoodIn wsX10_readAt (va_wsS RX10 268 yX10_needPlace wsX10_needPlace) := goodIn_app (goodIn_of _ (by decide +kernel)) ggX10_readAt_X10_needPlace
set_option maxRecDepth 20000 in
theorem ggX10_readAt_X3_readIn : GoodIn wsX10_readAt wsX3_readIn := goodIn_r _ [48, 21, 28, 29, 30, 25, 31, 27, 60, 61] (by decide +kernel) (by decide +kernel)
set_option maxRecDepth 20000 in
theorem gX10_readAt_X3_readIn : GoodIn wsX10_readAt (wsV RX10 271 RX3 yX3_readIn wsX3_readIn) := goodIn_app (goodIn_of _ (by decide +kernel)) ggX10_readAt_X3_readIn
theorem dX10_readAt_0 : decode cX10_readAt 0 = .ok (.aload_n 0, 1) := by decide +kernel
theorem dX10_readAt_1 : decode cX10_readAt 1 = .ok (.iload_n 1, 1) := by decide +kernel
theorem dX10_readAt_2 : decode cX10_readAt 2 = .ok (.invokevirtual 139, 3) := by decide +kernel
theorem dX10_readAt_5 : decode cX10_readAt 5 = .ok (.iload_n 2, 1) := by decide +kernel
theorem dX10_readAt_6 : decode cX10_readAt 6 = .ok (.aload_n 0, 1) := by decide +kernel
theorem dX10_readAt_7 : decode cX10_readAt 7 = .ok (.getfield 47, 3) := by decide +kernel
theorem dX10_readAt_10 : decode cX10_readAt 10 = .ok (.aload_n 0, 1) := by decide +kernel
theorem dX10_readAt_11 : decode cX10_readAt 11 = .ok (.getfield 10, 3) := by decide +kernel
theorem dX10_readAt_14 : decode cX10_readAt 14 = .ok (.iload_n 1, 1) := by decide +kernel
theorem dX10_readAt_15 : decode cX10_readAt 15 = .ok (.invokevirtual 265, 3) := by decide +kernel
theorem dX10_readAt_18 : decode cX10_readAt 18 = .ok (.invokestatic 268, 3) := by decide +kernel
theorem dX10_readAt_21 : decode cX10_readAt 21 = .ok (.aload_n 0, 1) := by decide +kernel
theorem dX10_readAt_22 : decode cX10_readAt 22 = .ok (.getfield 47, 3) := by decide +kernel
theorem dX10_readAt_25 : decode cX10_readAt 25 = .ok (.iload_n 2, 1) := by decide +kernel
theorem dX10_readAt_26 : decode cX10_readAt 26 = .ok (.invokevirtual 271, 3) := by decide +kernel
theorem dX10_readAt_29 : decode cX10_readAt 29 = .ok (.ireturn, 1) := by decide +kernel
set_option maxRecDepth 20000 in
theorem ggX10_glossary_X1_gather : GoodIn wsX10_glossary wsX1_gather := goodIn_r _ [7, 8, 9, 10, 11, 12, 13, 14, 15, 16, 17, 18, 19, 20, 21, 22, 23, 24, 6, 25, 26, 27, 28, 29, 30, 31, 32, 33, 34, 35, 36, 37, 38, 39, 40, 41, 42, 43, 51, 52, 53, 54, 55, 56, 57, 58, 59, 60, 61, 62, 63, 64, 65, 66] (by decide +kernel) (by decide +kernel)
set_option maxRecDepth 20000 in
theorem gX10_glossary_X1_gather : GoodIn wsX10_glossary (wsV RX10 274 RX1 yX1_gather wsX1_gather) := goodIn_app (goodIn_of _ (by decide +kernel)) ggX10_glossary_X1_gather
theorem dX10_glossary_0 : decode cX10_glossary 0 = .ok (.aload_n 0, 1) := by decide +kernel
theorem dX10_glossary_1 : decode cX10_glossary 1 = .ok (.getfield 54, 3) := by decide +kernel
theorem dX10_glossary_4 : decode cX10_glossary 4 = .ok (.aload_n 0, 1) := by decide +kernel
theorem dX10_glossary_5 : decode cX10_glossary 5 = .ok (.getfield 10, 3) := by decide +kernel
theorem dX10_glossary_8 : decode cX10_glossary 8 = .ok (.invokevirtual 274, 3) := by decide +kernel
theorem dX10_glossary_11 : decode cX10_glossary 11 = .ok (.aload_n 0, 1) := by decide +kernel
theorem dX10_glossary_12 : decode cX10_glossary 12 = .ok (.getfield 54, 3) := by decide +kernel
theorem dX10_glossary_15 : decode cX10_glossary 15 = .ok (.getfield 277, 3) := by decide +kernel
theorem dX10_glossary_18 : decode cX10_glossary 18 = .ok (.ireturn, 1) := by decide +kernel
set_option maxRecDepth 20000 in
theorem ggX10_timesOf_X1_gather : GoodIn wsX10_timesOf wsX1_gather := goodIn_r _ [7, 8, 9, 10, 11, 12, 13, 14, 15, 16, 17, 18, 19, 20, 21, 22, 23, 24, 6, 25, 26, 27, 28, 29, 30, 31, 32, 33, 34, 35, 36, 37, 38, 39, 40, 41, 42, 43, 58, 59, 60, 61, 62, 63, 64, 65, 66, 67, 68, 69, 70, 71, 72, 73] (by decide +kernel) (by decide +kernel)
set_option maxRecDepth 20000 in
theorem gX10_timesOf_X1_gather : GoodIn wsX10_timesOf (wsV RX10 274 RX1 yX1_gather wsX1_gather) := goodIn_app (goodIn_of _ (by decide +kernel)) ggX10_timesOf_X1_gather
set_option maxRecDepth 20000 in
theorem ggX10_timesOf_X10_needPlace : GoodIn wsX10_timesOf wsX10_needPlace := goodIn_ca (goodIn_r _ [47, 48, 49] (by decide +kernel) (by decide +kernel)) (goodIn_sub (fun _ h => List.mem_cons_of_mem _ (List.mem_append_right _ h)) (by decide +kernel))
set_option maxRecDepth 20000 in
theorem gX10_timesOf_X10_needPlace : GoodIn wsX10_timesOf (va_wsS RX10 268 yX10_needPlace wsX10_needPlace) := goodIn_app (goodIn_of _ (by decide +kernel)) ggX10_timesOf_X10_needPlace
set_option maxRecDepth 20000 in
theorem ggX10_timesOf_X7_number : GoodIn wsX10_timesOf wsX7_number := goodIn_r _ [35, 21, 73] (by decide +kernel) (by decide +kernel)
set_option maxRecDepth 20000 in
theorem gX10_timesOf_X7_number : GoodIn wsX10_timesOf (wsV RX10 203 RX7 yX7_number wsX7_number) := goodIn_app (goodIn_of _ (by decide +kernel)) ggX10_timesOf_X7_number
theorem dX10_timesOf_0 : decode cX10_timesOf 0 = .ok (.aload_n 0, 1) := by decide +kernel
theorem dX10_timesOf_1 : decode cX10_timesOf 1 = .ok (.getfield 54, 3) := by decide +kernel
theorem dX10_timesOf_4 : decode cX10_timesOf 4 = .ok (.aload_n 0, 1) := by decide +kernel
theorem dX10_timesOf_5 : decode cX10_timesOf 5 = .ok (.getfield 10, 3) := by decide +kernel
theorem dX10_timesOf_8 : decode cX10_timesOf 8 = .ok (.invokevirtual 274, 3) := by decide +kernel
theorem dX10_timesOf_11 : decode cX10_timesOf 11 = .ok (.iload_n 1, 1) := by decide +kernel
theorem dX10_timesOf_12 : decode cX10_timesOf 12 = .ok (.aload_n 0, 1) := by decide +kernel
theorem dX10_timesOf_13 : decode cX10_timesOf 13 = .ok (.getfield 54, 3) := by decide +kernel
theorem dX10_timesOf_16 : decode cX10_timesOf 16 = .ok (.getfield 277, 3) := by decide +kernel
theorem dX10_timesOf_19 : decode cX10_timesOf 19 = .ok (.invokestatic 268, 3) := by decide +kernel
theorem dX10_timesOf_22 : decode cX10_timesOf 22 = .ok (.aload_n 0, 1) := by decide +kernel
theorem dX10_timesOf_23 : decode cX10_timesOf 23 = .ok (.getfield 54, 3) := by decide +kernel
theorem dX10_timesOf_26 : decode cX10_timesOf 26 = .ok (.getfield 280, 3) := by decide +kernel
theorem dX10_timesOf_29 : decode cX10_timesOf 29 = .ok (.iload_n 1, 1) := by decide +kernel
theorem dX10_timesOf_30 : decode cX10_timesOf 30 = .ok (.invokevirtual 203, 3) := by decide +kernel
theorem dX10_timesOf_33 : decode cX10_timesOf 33 = .ok (.ireturn, 1) := by decide +kernel
set_option maxRecDepth 20000 in
theorem ggX10_glossaryLetter_X1_gather : GoodIn wsX10_glossaryLetter wsX1_gather := goodIn_r _ [7, 8, 9, 10, 11, 12, 13, 14, 15, 16, 17, 18, 19, 20, 21, 22, 23, 24, 6, 25, 26, 27, 28, 29, 30, 31, 32, 33, 34, 35, 36, 37, 38, 39, 40, 41, 42, 43, 64, 65, 66, 67, 68, 69, 70, 71, 72, 73, 74, 75, 76, 77, 78, 79] (by decide +kernel) (by decide +kernel)
set_option maxRecDepth 20000 in
theorem gX10_glossaryLetter_X1_gather : GoodIn wsX10_glossaryLetter (wsV RX10 274 RX1 yX1_gather wsX1_gather) := goodIn_app (goodIn_of _ (by decide +kernel)) ggX10_glossaryLetter_X1_gather
set_option maxRecDepth 20000 in
theorem ggX10_glossaryLetter_X10_needPlace : GoodIn wsX10_glossaryLetter wsX10_needPlace := goodIn_ca (goodIn_r _ [47, 48, 49] (by decide +kernel) (by decide +kernel)) (goodIn_sub (fun _ h => List.mem_cons_of_mem _ (List.mem_append_right _ h)) (by decide +kernel))
set_option maxRecDepth 20000 in
theorem gX10_glossaryLetter_X10_needPlace : GoodIn wsX10_glossaryLetter (va_wsS RX10 268 yX10_needPlace wsX10_needPlace) := goodIn_app (goodIn_of _ (by decide +kernel)) ggX10_glossaryLetter_X10_needPlace
set_option maxRecDepth 20000 in
theorem ggX10_glossaryLetter_X10_needIndex : GoodIn wsX10_glossaryLetter wsX10_needIndex := goodIn_ca (goodIn_r _ [52, 48, 49] (by decide +kernel) (by decide +kernel)) (goodIn_sub (fun _ h => List.mem_cons_of_mem _ (List.mem_append_right _ h)) (by decide +kernel))
set_option maxRecDepth 20000 in
theorem gX10_glossaryLetter_X10_needIndex : GoodIn wsX10_glossaryLetter (va_wsS RX10 166 yX10_needIndex wsX10_needIndex) := goodIn_app (goodIn_of _ (by decide +kernel)) ggX10_glossaryLetter_X10_needIndex
set_option maxRecDepth 20000 in
theorem ggX10_glossaryLetter_X7_at : GoodIn wsX10_glossaryLetter wsX7_at := goodIn_r _ [20, 21, 79] (by decide +kernel) (by decide +kernel)
set_option maxRecDepth 20000 in
theorem gX10_glossaryLetter_X7_at : GoodIn wsX10_glossaryLetter (wsV RX10 173 RX7 yX7_at wsX7_at) := goodIn_app (goodIn_of _ (by decide +kernel)) ggX10_glossaryLetter_X7_at
set_option maxRecDepth 20000 in
theorem ggX10_glossaryLetter_X10_letterIn : GoodIn wsX10_glossaryLetter wsX10_letterIn := goodIn_r _ [56] (by decide +kernel) (by decide +kernel)
set_option maxRecDepth 20000 in
theorem gX10_glossaryLetter_X10_letterIn : GoodIn wsX10_glossaryLetter (va_wsS RX10 178 yX10_letterIn wsX10_letterIn) := goodIn_app (goodIn_of _ (by decide +kernel)) ggX10_glossaryLetter_X10_letterIn
theorem dX10_glossaryLetter_0 : decode cX10_glossaryLetter 0 = .ok (.aload_n 0, 1) := by decide +kernel
theorem dX10_glossaryLetter_1 : decode cX10_glossaryLetter 1 = .ok (.getfield 54, 3) := by decide +kernel
theorem dX10_glossaryLetter_4 : decode cX10_glossaryLetter 4 = .ok (.aload_n 0, 1) := by decide +kernel
theorem dX10_glossaryLetter_5 : decode cX10_glossaryLetter 5 = .ok (.getfield 10, 3) := by decide +kernel
theorem dX10_glossaryLetter_8 : decode cX10_glossaryLetter 8 = .ok (.invokevirtual 274, 3) := by decide +kernel
theorem dX10_glossaryLetter_11 : decode cX10_glossaryLetter 11 = .ok (.iload_n 1, 1) := by decide +kernel
theorem dX10_glossaryLetter_12 : decode cX10_glossaryLetter 12 = .ok (.aload_n 0, 1) := by decide +kernel
theorem dX10_glossaryLetter_13 : decode cX10_glossaryLetter 13 = .ok (.getfield 54, 3) := by decide +kernel
theorem dX10_glossaryLetter_16 : decode cX10_glossaryLetter 16 = .ok (.getfield 277, 3) := by decide +kernel
theorem dX10_glossaryLetter_19 : decode cX10_glossaryLetter 19 = .ok (.invokestatic 268, 3) := by decide +kernel
theorem dX10_glossaryLetter_22 : decode cX10_glossaryLetter 22 = .ok (.iload_n 2, 1) := by decide +kernel
theorem dX10_glossaryLetter_23 : decode cX10_glossaryLetter 23 = .ok (.invokestatic 166, 3) := by decide +kernel
theorem dX10_glossaryLetter_26 : decode cX10_glossaryLetter 26 = .ok (.aload_n 0, 1) := by decide +kernel
theorem dX10_glossaryLetter_27 : decode cX10_glossaryLetter 27 = .ok (.getfield 54, 3) := by decide +kernel
theorem dX10_glossaryLetter_30 : decode cX10_glossaryLetter 30 = .ok (.getfield 283, 3) := by decide +kernel
theorem dX10_glossaryLetter_33 : decode cX10_glossaryLetter 33 = .ok (.iload_n 1, 1) := by decide +kernel
theorem dX10_glossaryLetter_34 : decode cX10_glossaryLetter 34 = .ok (.invokevirtual 173, 3) := by decide +kernel
theorem dX10_glossaryLetter_37 : decode cX10_glossaryLetter 37 = .ok (.iload_n 2, 1) := by decide +kernel
theorem dX10_glossaryLetter_38 : decode cX10_glossaryLetter 38 = .ok (.invokestatic 178, 3) := by decide +kernel
theorem dX10_glossaryLetter_41 : decode cX10_glossaryLetter 41 = .ok (.ireturn, 1) := by decide +kernel
set_option maxRecDepth 20000 in
theorem ggX10_append_X0_add : GoodIn wsX10_append wsX0_add := goodIn_r _ [10, 11, 12, 13, 14, 15, 16, 17, 18, 26, 27, 28] (by decide +kernel) (by decide +kernel)
set_option maxRecDepth 20000 in
theorem gX10_append_X0_add : GoodIn wsX10_append (wsV RX10 290 RX0 yX0_add wsX0_add) := goodIn_app (goodIn_of _ (by decide +kernel)) ggX10_append_X0_add
theorem dX10_append_0 : decode cX10_append 0 = .ok (.iload_n 1, 1) := by decide +kernel
theorem dX10_append_1 : decode cX10_append 1 = .ok (.bipush 32, 2) := by decide +kernel
theorem dX10_append_3 : decode cX10_append 3 = .ok (.if_icmp .lt 9, 3) := by decide +kernel
theorem dX10_append_6 : decode cX10_append 6 = .ok (.iload_n 1, 1) := by decide +kernel
theorem dX10_append_7 : decode cX10_append 7 = .ok (.bipush 126, 2) := by decide +kernel
theorem dX10_append_9 : decode cX10_append 9 = .ok (.if_icmp .le 14, 3) := by decide +kernel
theorem dX10_append_12 : decode cX10_append 12 = .ok (.new 62, 3) := by decide +kernel
theorem dX10_append_15 : decode cX10_append 15 = .ok (.dup, 1) := by decide +kernel
theorem dX10_append_16 : decode cX10_append 16 = .ok (.ldc_w 286, 3) := by decide +kernel
theorem dX10_append_19 : decode cX10_append 19 = .ok (.invokespecial 66, 3) := by decide +kernel
theorem dX10_append_22 : decode cX10_append 22 = .ok (.athrow, 1) := by decide +kernel
theorem dX10_append_23 : decode cX10_append 23 = .ok (.aload_n 0, 1) := by decide +kernel
theorem dX10_append_24 : decode cX10_append 24 = .ok (.getfield 26, 3) := by decide +kernel
theorem dX10_append_27 : decode cX10_append 27 = .ok (.getfield 90, 3) := by decide +kernel
theorem dX10_append_30 : decode cX10_append 30 = .ok (.bipush 100, 2) := by decide +kernel
theorem dX10_append_32 : decode cX10_append 32 = .ok (.if_icmp .lt 14, 3) := by decide +kernel
theorem dX10_append_35 : decode cX10_append 35 = .ok (.new 73, 3) := by decide +kernel
theorem dX10_append_38 : decode cX10_append 38 = .ok (.dup, 1) := by decide +kernel
theorem dX10_append_39 : decode cX10_append 39 = .ok (.ldc_w 288, 3) := by decide +kernel
theorem dX10_append_42 : decode cX10_append 42 = .ok (.invokespecial 77, 3) := by decide +kernel
theorem dX10_append_45 : decode cX10_append 45 = .ok (.athrow, 1) := by decide +kernel
theorem dX10_append_46 : decode cX10_append 46 = .ok (.aload_n 0, 1) := by decide +kernel
theorem dX10_append_47 : decode cX10_append 47 = .ok (.getfield 26, 3) := by decide +kernel
theorem dX10_append_50 : decode cX10_append 50 = .ok (.iload_n 1, 1) := by decide +kernel
theorem dX10_append_51 : decode cX10_append 51 = .ok (.invokevirtual 290, 3) := by decide +kernel
theorem dX10_append_54 : decode cX10_append 54 = .ok (.aload_n 0, 1) := by decide +kernel
theorem dX10_append_55 : decode cX10_append 55 = .ok (.getfield 26, 3) := by decide +kernel
theorem dX10_append_58 : decode cX10_append 58 = .ok (.getfield 90, 3) := by decide +kernel
theorem dX10_append_61 : decode cX10_append 61 = .ok (.ireturn, 1) := by decide +kernel
theorem dX10_clearText_0 : decode cX10_clearText 0 = .ok (.aload_n 0, 1) := by decide +kernel
theorem dX10_clearText_1 : decode cX10_clearText 1 = .ok (.getfield 26, 3) := by decide +kernel
theorem dX10_clearText_4 : decode cX10_clearText 4 = .ok (.getfield 90, 3) := by decide +kernel
theorem dX10_clearText_7 : decode cX10_clearText 7 = .ok (.istore_n 1, 1) := by decide +kernel
theorem dX10_clearText_8 : decode cX10_clearText 8 = .ok (.aload_n 0, 1) := by decide +kernel
theorem dX10_clearText_9 : decode cX10_clearText 9 = .ok (.getfield 26, 3) := by decide +kernel
theorem dX10_clearText_12 : decode cX10_clearText 12 = .ok (.iconst 0, 1) := by decide +kernel
theorem dX10_clearText_13 : decode cX10_clearText 13 = .ok (.putfield 90, 3) := by decide +kernel
theorem dX10_clearText_16 : decode cX10_clearText 16 = .ok (.iload_n 1, 1) := by decide +kernel
theorem dX10_clearText_17 : decode cX10_clearText 17 = .ok (.ireturn, 1) := by decide +kernel
set_option maxRecDepth 20000 in
theorem ggX10_errorPosition_X6_read : GoodIn wsX10_errorPosition wsX6_read := goodIn_r _ [7, 8, 9, 10, 11, 12, 13, 14, 15, 16, 17, 18, 19, 20, 21, 22, 23, 24, 25, 26, 6, 27, 28, 29, 30, 31, 32, 33, 34, 35, 36, 37, 38, 39, 40, 41, 42, 43, 44, 45, 46, 47, 48, 49, 50, 51, 52, 53, 54, 55, 56, 57, 58, 59, 60, 61, 62, 63, 64, 65, 66, 67, 68, 69, 70, 71, 72, 73, 81, 82, 83, 84, 85, 86, 87, 88, 89, 90, 91, 92, 93, 94, 95, 96] (by decide +kernel) (by decide +kernel)
set_option maxRecDepth 20000 in
theorem gX10_errorPosition_X6_read : GoodIn wsX10_errorPosition (wsV RX10 182 RX6 yX6_read wsX6_read) := goodIn_app (goodIn_of _ (by decide +kernel)) ggX10_errorPosition_X6_read
theorem dX10_errorPosition_0 : decode cX10_errorPosition 0 = .ok (.aload_n 0, 1) := by decide +kernel
theorem dX10_errorPosition_1 : decode cX10_errorPosition 1 = .ok (.getfield 33, 3) := by decide +kernel
theorem dX10_errorPosition_4 : decode cX10_errorPosition 4 = .ok (.aload_n 0, 1) := by decide +kernel
theorem dX10_errorPosition_5 : decode cX10_errorPosition 5 = .ok (.getfield 26, 3) := by decide +kernel
theorem dX10_errorPosition_8 : decode cX10_errorPosition 8 = .ok (.invokevirtual 182, 3) := by decide +kernel
theorem dX10_errorPosition_11 : decode cX10_errorPosition 11 = .ok (.aload_n 0, 1) := by decide +kernel
theorem dX10_errorPosition_12 : decode cX10_errorPosition 12 = .ok (.getfield 33, 3) := by decide +kernel
theorem dX10_errorPosition_15 : decode cX10_errorPosition 15 = .ok (.getfield 292, 3) := by decide +kernel
theorem dX10_errorPosition_18 : decode cX10_errorPosition 18 = .ok (.ireturn, 1) := by decide +kernel
set_option maxRecDepth 20000 in
theorem ggX10_undo_X2_takeBack : GoodIn wsX10_undo wsX2_takeBack := goodIn_r _ [9, 10, 11, 12, 13, 8, 14, 15, 16, 17, 18, 19, 20, 21, 22, 23, 24, 25, 26, 27, 28, 29, 30, 31, 32, 33, 34, 35, 36, 37, 38, 39, 40, 41, 42, 43, 44, 45, 46, 47, 48, 49, 50, 51, 52, 60, 61, 62, 63, 64, 65, 66, 67, 68, 69, 70, 71, 72, 73, 74, 75, 76, 77] (by decide +kernel) (by decide +kernel)
set_option maxRecDepth 20000 in
theorem gX10_undo_X2_takeBack : GoodIn wsX10_undo (wsV RX10 298 RX2 yX2_takeBack wsX2_takeBack) := goodIn_app (goodIn_of _ (by decide +kernel)) ggX10_undo_X2_takeBack
theorem dX10_undo_0 : decode cX10_undo 0 = .ok (.aload_n 0, 1) := by decide +kernel
theorem dX10_undo_1 : decode cX10_undo 1 = .ok (.getfield 19, 3) := by decide +kernel
theorem dX10_undo_4 : decode cX10_undo 4 = .ok (.getfield 295, 3) := by decide +kernel
theorem dX10_undo_7 : decode cX10_undo 7 = .ok (.ifCond .ne 14, 3) := by decide +kernel
theorem dX10_undo_10 : decode cX10_undo 10 = .ok (.new 73, 3) := by decide +kernel
theorem dX10_undo_13 : decode cX10_undo 13 = .ok (.dup, 1) := by decide +kernel
theorem dX10_undo_14 : decode cX10_undo 14 = .ok (.ldc_w 296, 3) := by decide +kernel
theorem dX10_undo_17 : decode cX10_undo 17 = .ok (.invokespecial 77, 3) := by decide +kernel
theorem dX10_undo_20 : decode cX10_undo 20 = .ok (.athrow, 1) := by decide +kernel
theorem dX10_undo_21 : decode cX10_undo 21 = .ok (.aload_n 0, 1) := by decide +kernel
theorem dX10_undo_22 : decode cX10_undo 22 = .ok (.getfield 19, 3) := by decide +kernel
theorem dX10_undo_25 : decode cX10_undo 25 = .ok (.aload_n 0, 1) := by decide +kernel
theorem dX10_undo_26 : decode cX10_undo 26 = .ok (.getfield 10, 3) := by decide +kernel
theorem dX10_undo_29 : decode cX10_undo 29 = .ok (.invokevirtual 298, 3) := by decide +kernel
theorem dX10_undo_32 : decode cX10_undo 32 = .ok (.aload_n 0, 1) := by decide +kernel
theorem dX10_undo_33 : decode cX10_undo 33 = .ok (.getfield 19, 3) := by decide +kernel
theorem dX10_undo_36 : decode cX10_undo 36 = .ok (.getfield 295, 3) := by decide +kernel
theorem dX10_undo_39 : decode cX10_undo 39 = .ok (.ireturn, 1) := by decide +kernel
theorem dX10_savedStates_0 : decode cX10_savedStates 0 = .ok (.aload_n 0, 1) := by decide +kernel
theorem dX10_savedStates_1 : decode cX10_savedStates 1 = .ok (.getfield 19, 3) := by decide +kernel
theorem dX10_savedStates_4 : decode cX10_savedStates 4 = .ok (.getfield 295, 3) := by decide +kernel
theorem dX10_savedStates_7 : decode cX10_savedStates 7 = .ok (.ireturn, 1) := by decide +kernel
set_option maxRecDepth 20000 in
theorem ggX10_takeSnapshot_X9_copy : GoodIn wsX10_takeSnapshot wsX9_copy := goodIn_r _ [7, 8, 9, 10, 11, 12, 6, 13, 14, 15, 16, 17, 18, 19, 20, 21, 22, 23, 24, 25, 26, 27, 28, 29, 30, 31, 32, 33, 34, 35, 36, 37, 38, 51, 52, 53, 54, 55, 56, 57, 58, 59, 60, 61, 62, 63] (by decide +kernel) (by decide +kernel)
set_option maxRecDepth 20000 in
theorem gX10_takeSnapshot_X9_copy : GoodIn wsX10_takeSnapshot (wsV RX10 304 RX9 yX9_copy wsX9_copy) := goodIn_app (goodIn_of _ (by decide +kernel)) ggX10_takeSnapshot_X9_copy
theorem dX10_takeSnapshot_0 : decode cX10_takeSnapshot 0 = .ok (.aload_n 0, 1) := by decide +kernel
theorem dX10_takeSnapshot_1 : decode cX10_takeSnapshot 1 = .ok (.getfield 19, 3) := by decide +kernel
theorem dX10_takeSnapshot_4 : decode cX10_takeSnapshot 4 = .ok (.getfield 301, 3) := by decide +kernel
theorem dX10_takeSnapshot_7 : decode cX10_takeSnapshot 7 = .ok (.aload_n 0, 1) := by decide +kernel
theorem dX10_takeSnapshot_8 : decode cX10_takeSnapshot 8 = .ok (.getfield 10, 3) := by decide +kernel
theorem dX10_takeSnapshot_11 : decode cX10_takeSnapshot 11 = .ok (.invokevirtual 304, 3) := by decide +kernel
theorem dX10_takeSnapshot_14 : decode cX10_takeSnapshot 14 = .ok (.aload_n 0, 1) := by decide +kernel
theorem dX10_takeSnapshot_15 : decode cX10_takeSnapshot 15 = .ok (.getfield 19, 3) := by decide +kernel
theorem dX10_takeSnapshot_18 : decode cX10_takeSnapshot 18 = .ok (.iconst 1, 1) := by decide +kernel
theorem dX10_takeSnapshot_19 : decode cX10_takeSnapshot 19 = .ok (.putfield 307, 3) := by decide +kernel
theorem dX10_takeSnapshot_22 : decode cX10_takeSnapshot 22 = .ok (.aload_n 0, 1) := by decide +kernel
theorem dX10_takeSnapshot_23 : decode cX10_takeSnapshot 23 = .ok (.getfield 10, 3) := by decide +kernel
theorem dX10_takeSnapshot_26 : decode cX10_takeSnapshot 26 = .ok (.getfield 94, 3) := by decide +kernel
theorem dX10_takeSnapshot_29 : decode cX10_takeSnapshot 29 = .ok (.ireturn, 1) := by decide +kernel
set_option maxRecDepth 20000 in
theorem ggX10_restoreSnapshot_X2_save : GoodIn wsX10_restoreSnapshot wsX2_save := goodIn_r _ [9, 10, 11, 12, 13, 14, 8, 15, 16, 17, 18, 19, 20, 21, 22, 23, 24, 25, 26, 27, 28, 29, 30, 31, 32, 33, 34, 35, 36, 37, 38, 39, 40, 41, 42, 43, 44, 45, 46, 47, 48, 49, 50, 51, 52, 61, 62, 63, 64, 65, 66, 67, 68, 69, 70, 71, 72, 73, 74, 75, 76, 77, 78] (by decide +kernel) (by decide +kernel)
set_option maxRecDepth 20000 in
theorem gX10_restoreSnapshot_X2_save : GoodIn wsX10_restoreSnapshot (wsV RX10 78 RX2 yX2_save wsX2_save) := goodIn_app (goodIn_of _ (by decide +kernel)) ggX10_restoreSnapshot_X2_save
set_option maxRecDepth 20000 in
theorem ggX10_restoreSnapshot_X9_copy : GoodIn wsX10_restoreSnapshot wsX9_copy := goodIn_r _ [21, 22, 23, 24, 25, 26, 20, 27, 28, 29, 30, 31, 32, 33, 34, 35, 36, 37, 38, 39, 40, 41, 42, 43, 44, 45, 46, 47, 48, 49, 50, 51, 52, 66, 67, 68, 69, 70, 71, 72, 73, 74, 75, 76, 77, 78] (by decide +kernel) (by decide +kernel)
set_option maxRecDepth 20000 in
theorem gX10_restoreSnapshot_X9_copy : GoodIn wsX10_restoreSnapshot (wsV RX10 304 RX9 yX9_copy wsX9_copy) := goodIn_app (goodIn_of _ (by decide +kernel)) ggX10_restoreSnapshot_X9_copy
theorem dX10_restoreSnapshot_0 : decode cX10_restoreSnapshot 0 = .ok (.aload_n 0, 1) := by decide +kernel
theorem dX10_restoreSnapshot_1 : decode cX10_restoreSnapshot 1 = .ok (.getfield 19, 3) := by decide +kernel
theorem dX10_restoreSnapshot_4 : decode cX10_restoreSnapshot 4 = .ok (.getfield 307, 3) := by decide +kernel
theorem dX10_restoreSnapshot_7 : decode cX10_restoreSnapshot 7 = .ok (.ifCond .ne 14, 3) := by decide +kernel
theorem dX10_restoreSnapshot_10 : decode cX10_restoreSnapshot 10 = .ok (.new 73, 3) := by decide +kernel
theorem dX10_restoreSnapshot_13 : decode cX10_restoreSnapshot 13 = .ok (.dup, 1) := by decide +kernel
theorem dX10_restoreSnapshot_14 : decode cX10_restoreSnapshot 14 = .ok (.ldc_w 311, 3) := by decide +kernel
theorem dX10_restoreSnapshot_17 : decode cX10_restoreSnapshot 17 = .ok (.invokespecial 77, 3) := by decide +kernel
theorem dX10_restoreSnapshot_20 : decode cX10_restoreSnapshot 20 = .ok (.athrow, 1) := by decide +kernel
theorem dX10_restoreSnapshot_21 : decode cX10_restoreSnapshot 21 = .ok (.aload_n 0, 1) := by decide +kernel
theorem dX10_restoreSnapshot_22 : decode cX10_restoreSnapshot 22 = .ok (.getfield 19, 3) := by decide +kernel
theorem dX10_restoreSnapshot_25 : decode cX10_restoreSnapshot 25 = .ok (.aload_n 0, 1) := by decide +kernel
theorem dX10_restoreSnapshot_26 : decode cX10_restoreSnapshot 26 = .ok (.getfield 10, 3) := by decide +kernel
theorem dX10_restoreSnapshot_29 : decode cX10_restoreSnapshot 29 = .ok (.invokevirtual 78, 3) := by decide +kernel
theorem dX10_restoreSnapshot_32 : decode cX10_restoreSnapshot 32 = .ok (.aload_n 0, 1) := by decide +kernel
theorem dX10_restoreSnapshot_33 : decode cX10_restoreSnapshot 33 = .ok (.getfield 10, 3) := by decide +kernel
theorem dX10_restoreSnapshot_36 : decode cX10_restoreSnapshot 36 = .ok (.aload_n 0, 1) := by decide +kernel
theorem dX10_restoreSnapshot_37 : decode cX10_restoreSnapshot 37 = .ok (.getfield 19, 3) := by decide +kernel
theorem dX10_restoreSnapshot_40 : decode cX10_restoreSnapshot 40 = .ok (.getfield 301, 3) := by decide +kernel
theorem dX10_restoreSnapshot_43 : decode cX10_restoreSnapshot 43 = .ok (.invokevirtual 304, 3) := by decide +kernel
theorem dX10_restoreSnapshot_46 : decode cX10_restoreSnapshot 46 = .ok (.aload_n 0, 1) := by decide +kernel
theorem dX10_restoreSnapshot_47 : decode cX10_restoreSnapshot 47 = .ok (.getfield 10, 3) := by decide +kernel
theorem dX10_restoreSnapshot_50 : decode cX10_restoreSnapshot 50 = .ok (.getfield 94, 3) := by decide +kernel
theorem dX10_restoreSnapshot_53 : decode cX10_restoreSnapshot 53 = .ok (.ireturn, 1) := by decide +kernel
theorem dX10_isAuthor_0 : decode cX10_isAuthor 0 = .ok (.iload_n 0, 1) := by decide +kernel
theorem dX10_isAuthor_1 : decode cX10_isAuthor 1 = .ok (.ifCond .lt 13, 3) := by decide +kernel
theorem dX10_isAuthor_4 : decode cX10_isAuthor 4 = .ok (.iload_n 0, 1) := by decide +kernel
theorem dX10_isAuthor_5 : decode cX10_isAuthor 5 = .ok (.bipush 8, 2) := by decide +kernel
theorem dX10_isAuthor_7 : decode cX10_isAuthor 7 = .ok (.if_icmp .ge 7, 3) := by decide +kernel
theorem dX10_isAuthor_10 : decode cX10_isAuthor 10 = .ok (.iconst 1, 1) := by decide +kernel
theorem dX10_isAuthor_11 : decode cX10_isAuthor 11 = .ok (.goto 4, 3) := by decide +kernel
theorem dX10_isAuthor_14 : decode cX10_isAuthor 14 = .ok (.iconst 0, 1) := by decide +kernel
theorem dX10_isAuthor_15 : decode cX10_isAuthor 15 = .ok (.ireturn, 1) := by decide +kernel
set_option maxRecDepth 20000 in
theorem ggX10_needAuthor_X10_isAuthor : GoodIn wsX10_needAuthor wsX10_isAuthor := goodIn_r _ [6] (by decide +kernel) (by decide +kernel)
set_option maxRecDepth 20000 in
theorem gX10_needAuthor_X10_isAuthor : GoodIn wsX10_needAuthor (va_wsS RX10 58 yX10_isAuthor wsX10_isAuthor) := goodIn_app (goodIn_of _ (by decide +kernel)) ggX10_needAuthor_X10_isAuthor
theorem dX10_needAuthor_0 : decode cX10_needAuthor 0 = .ok (.iload_n 0, 1) := by decide +kernel
theorem dX10_needAuthor_1 : decode cX10_needAuthor 1 = .ok (.invokestatic 58, 3) := by decide +kernel
theorem dX10_needAuthor_4 : decode cX10_needAuthor 4 = .ok (.ifCond .ne 14, 3) := by decide +kernel
theorem dX10_needAuthor_7 : decode cX10_needAuthor 7 = .ok (.new 152, 3) := by decide +kernel
theorem dX10_needAuthor_10 : decode cX10_needAuthor 10 = .ok (.dup, 1) := by decide +kernel
theorem dX10_needAuthor_11 : decode cX10_needAuthor 11 = .ok (.ldc_w 313, 3) := by decide +kernel
theorem dX10_needAuthor_14 : decode cX10_needAuthor 14 = .ok (.invokespecial 156, 3) := by decide +kernel
theorem dX10_needAuthor_17 : decode cX10_needAuthor 17 = .ok (.athrow, 1) := by decide +kernel
theorem dX10_needAuthor_18 : decode cX10_needAuthor 18 = .ok (.return_, 1) := by decide +kernel
set_option maxRecDepth 20000 in
theorem ggX10_needPamphlet_X9_has : GoodIn wsX10_needPamphlet wsX9_has := goodIn_r _ [8, 9, 17, 18, 19, 20] (by decide +kernel) (by decide +kernel)
set_option maxRecDepth 20000 in
theorem gX10_needPamphlet_X9_has : GoodIn wsX10_needPamphlet (wsV RX10 315 RX9 yX9_has wsX9_has) := goodIn_app (goodIn_of _ (by decide +kernel)) ggX10_needPamphlet_X9_has
theorem dX10_needPamphlet_0 : decode cX10_needPamphlet 0 = .ok (.aload_n 0, 1) := by decide +kernel
theorem dX10_needPamphlet_1 : decode cX10_needPamphlet 1 = .ok (.getfield 10, 3) := by decide +kernel
theorem dX10_needPamphlet_4 : decode cX10_needPamphlet 4 = .ok (.iload_n 1, 1) := by decide +kernel
theorem dX10_needPamphlet_5 : decode cX10_needPamphlet 5 = .ok (.invokevirtual 315, 3) := by decide +kernel
theorem dX10_needPamphlet_8 : decode cX10_needPamphlet 8 = .ok (.ifCond .ne 14, 3) := by decide +kernel
theorem dX10_needPamphlet_11 : decode cX10_needPamphlet 11 = .ok (.new 152, 3) := by decide +kernel
theorem dX10_needPamphlet_14 : decode cX10_needPamphlet 14 = .ok (.dup, 1) := by decide +kernel
theorem dX10_needPamphlet_15 : decode cX10_needPamphlet 15 = .ok (.ldc_w 318, 3) := by decide +kernel
theorem dX10_needPamphlet_18 : decode cX10_needPamphlet 18 = .ok (.invokespecial 156, 3) := by decide +kernel
theorem dX10_needPamphlet_21 : decode cX10_needPamphlet 21 = .ok (.athrow, 1) := by decide +kernel
theorem dX10_needPamphlet_22 : decode cX10_needPamphlet 22 = .ok (.return_, 1) := by decide +kernel
set_option maxRecDepth 20000 in
theorem ggX10_needWord_X10_needPamphlet : GoodIn wsX10_needWord wsX10_needPamphlet := goodIn_ca (goodIn_r _ [8, 1, 2, 3, 9, 10, 11, 12, 13, 14, 21, 22, 23, 24, 25, 26, 27, 36, 37, 38, 39] (by decide +kernel) (by decide +kernel)) (goodIn_sub (fun _ h => List.mem_cons_of_mem _ (List.mem_append_right _ h)) (by decide +kernel))
set_option maxRecDepth 20000 in
theorem gX10_needWord_X10_needPamphlet : GoodIn wsX10_needWord (wsV RX10 139 RX10 yX10_needPamphlet wsX10_needPamphlet) := goodIn_app (goodIn_of _ (by decide +kernel)) ggX10_needWord_X10_needPamphlet
set_option maxRecDepth 20000 in
theorem ggX10_needWord_X9_at : GoodIn wsX10_needWord wsX9_at := goodIn_r _ [18, 19, 20, 36, 37, 38, 39] (by decide +kernel) (by decide +kernel)
set_option maxRecDepth 20000 in
theorem gX10_needWord_X9_at : GoodIn wsX10_needWord (wsV RX10 128 RX9 yX9_at wsX9_at) := goodIn_app (goodIn_of _ (by decide +kernel)) ggX10_needWord_X9_at
theorem dX10_needWord_0 : decode cX10_needWord 0 = .ok (.aload_n 0, 1) := by decide +kernel
theorem dX10_needWord_1 : decode cX10_needWord 1 = .ok (.iload_n 1, 1) := by decide +kernel
theorem dX10_needWord_2 : decode cX10_needWord 2 = .ok (.invokevirtual 139, 3) := by decide +kernel
theorem dX10_needWord_5 : decode cX10_needWord 5 = .ok (.iload_n 2, 1) := by decide +kernel
theorem dX10_needWord_6 : decode cX10_needWord 6 = .ok (.ifCond .lt 18, 3) := by decide +kernel
theorem dX10_needWord_9 : decode cX10_needWord 9 = .ok (.iload_n 2, 1) := by decide +kernel
theorem dX10_needWord_10 : decode cX10_needWord 10 = .ok (.aload_n 0, 1) := by decide +kernel
theorem dX10_needWord_11 : decode cX10_needWord 11 = .ok (.getfield 10, 3) := by decide +kernel
theorem dX10_needWord_14 : decode cX10_needWord 14 = .ok (.iload_n 1, 1) := by decide +kernel
theorem dX10_needWord_15 : decode cX10_needWord 15 = .ok (.invokevirtual 128, 3) := by decide +kernel
theorem dX10_needWord_18 : decode cX10_needWord 18 = .ok (.getfield 146, 3) := by decide +kernel
theorem dX10_needWord_21 : decode cX10_needWord 21 = .ok (.if_icmp .lt 14, 3) := by decide +kernel
theorem dX10_needWord_24 : decode cX10_needWord 24 = .ok (.new 152, 3) := by decide +kernel
theorem dX10_needWord_27 : decode cX10_needWord 27 = .ok (.dup, 1) := by decide +kernel
theorem dX10_needWord_28 : decode cX10_needWord 28 = .ok (.ldc_w 320, 3) := by decide +kernel
theorem dX10_needWord_31 : decode cX10_needWord 31 = .ok (.invokespecial 156, 3) := by decide +kernel
theorem dX10_needWord_34 : decode cX10_needWord 34 = .ok (.athrow, 1) := by decide +kernel
theorem dX10_needWord_35 : decode cX10_needWord 35 = .ok (.return_, 1) := by decide +kernel
set_option maxRecDepth 20000 in
theorem ggX10_needQuotation_X10_needPamphlet : GoodIn wsX10_needQuotation wsX10_needPamphlet := goodIn_ca (goodIn_r _ [8, 1, 2, 3, 9, 10, 11, 12, 13, 14, 21, 22, 23, 24, 25, 26, 27, 36, 37, 38, 39] (by decide +kernel) (by decide +kernel)) (goodIn_sub (fun _ h => List.mem_cons_of_mem _ (List.mem_append_right _ h)) (by decide +kernel))
set_option maxRecDepth 20000 in
theorem gX10_needQuotation_X10_needPamphlet : GoodIn wsX10_needQuotation (wsV RX10 139 RX10 yX10_needPamphlet wsX10_needPamphlet) := goodIn_app (goodIn_of _ (by decide +kernel)) ggX10_needQuotation_X10_needPamphlet
set_option maxRecDepth 20000 in
theorem ggX10_needQuotation_X9_at : GoodIn wsX10_needQuotation wsX9_at := goodIn_r _ [18, 19, 20, 36, 37, 38, 39] (by decide +kernel) (by decide +kernel)
set_option maxRecDepth 20000 in
theorem gX10_needQuotation_X9_at : GoodIn wsX10_needQuotation (wsV RX10 128 RX9 yX9_at wsX9_at) := goodIn_app (goodIn_of _ (by decide +kernel)) ggX10_needQuotation_X9_at
theorem dX10_needQuotation_0 : decode cX10_needQuotation 0 = .ok (.aload_n 0, 1) := by decide +kernel
theorem dX10_needQuotation_1 : decode cX10_needQuotation 1 = .ok (.iload_n 1, 1) := by decide +kernel
theorem dX10_needQuotation_2 : decode cX10_needQuotation 2 = .ok (.invokevirtual 139, 3) := by decide +kernel
theorem dX10_needQuotation_5 : decode cX10_needQuotation 5 = .ok (.iload_n 2, 1) := by decide +kernel
theorem dX10_needQuotation_6 : decode cX10_needQuotation 6 = .ok (.ifCond .lt 18, 3) := by decide +kernel
theorem dX10_needQuotation_9 : decode cX10_needQuotation 9 = .ok (.iload_n 2, 1) := by decide +kernel
theorem dX10_needQuotation_10 : decode cX10_needQuotation 10 = .ok (.aload_n 0, 1) := by decide +kernel
theorem dX10_needQuotation_11 : decode cX10_needQuotation 11 = .ok (.getfield 10, 3) := by decide +kernel
theorem dX10_needQuotation_14 : decode cX10_needQuotation 14 = .ok (.iload_n 1, 1) := by decide +kernel
theorem dX10_needQuotation_15 : decode cX10_needQuotation 15 = .ok (.invokevirtual 128, 3) := by decide +kernel
theorem dX10_needQuotation_18 : decode cX10_needQuotation 18 = .ok (.getfield 197, 3) := by decide +kernel
theorem dX10_needQuotation_21 : decode cX10_needQuotation 21 = .ok (.if_icmp .lt 14, 3) := by decide +kernel
theorem dX10_needQuotation_24 : decode cX10_needQuotation 24 = .ok (.new 152, 3) := by decide +kernel
theorem dX10_needQuotation_27 : decode cX10_needQuotation 27 = .ok (.dup, 1) := by decide +kernel
theorem dX10_needQuotation_28 : decode cX10_needQuotation 28 = .ok (.ldc_w 322, 3) := by decide +kernel
theorem dX10_needQuotation_31 : decode cX10_needQuotation 31 = .ok (.invokespecial 156, 3) := by decide +kernel
theorem dX10_needQuotation_34 : decode cX10_needQuotation 34 = .ok (.athrow, 1) := by decide +kernel
theorem dX10_needQuotation_35 : decode cX10_needQuotation 35 = .ok (.return_, 1) := by decide +kernel
theorem dX10_needPlace_0 : decode cX10_needPlace 0 = .ok (.iload_n 0, 1) := by decide +kernel
theorem dX10_needPlace_1 : decode cX10_needPlace 1 = .ok (.ifCond .lt 8, 3) := by decide +kernel
theorem dX10_needPlace_4 : decode cX10_needPlace 4 = .ok (.iload_n 0, 1) := by decide +kernel
theorem dX10_needPlace_5 : decode cX10_needPlace 5 = .ok (.iload_n 1, 1) := by decide +kernel
theorem dX10_needPlace_6 : decode cX10_needPlace 6 = .ok (.if_icmp .lt 14, 3) := by decide +kernel
theorem dX10_needPlace_9 : decode cX10_needPlace 9 = .ok (.new 152, 3) := by decide +kernel
theorem dX10_needPlace_12 : decode cX10_needPlace 12 = .ok (.dup, 1) := by decide +kernel
theorem dX10_needPlace_13 : decode cX10_needPlace 13 = .ok (.ldc_w 324, 3) := by decide +kernel
theorem dX10_needPlace_16 : decode cX10_needPlace 16 = .ok (.invokespecial 156, 3) := by decide +kernel
theorem dX10_needPlace_19 : decode cX10_needPlace 19 = .ok (.athrow, 1) := by decide +kernel
theorem dX10_needPlace_20 : decode cX10_needPlace 20 = .ok (.return_, 1) := by decide +kernel
theorem dX10_needIndex_0 : decode cX10_needIndex 0 = .ok (.iload_n 0, 1) := by decide +kernel
theorem dX10_needIndex_1 : decode cX10_needIndex 1 = .ok (.ifCond .ge 14, 3) := by decide +kernel
theorem dX10_needIndex_4 : decode cX10_needIndex 4 = .ok (.new 152, 3) := by decide +kernel
theorem dX10_needIndex_7 : decode cX10_needIndex 7 = .ok (.dup, 1) := by decide +kernel
theorem dX10_needIndex_8 : decode cX10_needIndex 8 = .ok (.ldc_w 326, 3) := by decide +kernel
theorem dX10_needIndex_11 : decode cX10_needIndex 11 = .ok (.invokespecial 156, 3) := by decide +kernel
theorem dX10_needIndex_14 : decode cX10_needIndex 14 = .ok (.athrow, 1) := by decide +kernel
theorem dX10_needIndex_15 : decode cX10_needIndex 15 = .ok (.return_, 1) := by decide +kernel
theorem dX10_withLetter_0 : decode cX10_withLetter 0 = .ok (.lload_n 0, 1) := by decide +kernel
theorem dX10_withLetter_1 : decode cX10_withLetter 1 = .ok (.iload_n 3, 1) := by decide +kernel
theorem dX10_withLetter_2 : decode cX10_withLetter 2 = .ok (.bipush 97, 2) := by decide +kernel
theorem dX10_withLetter_4 : decode cX10_withLetter 4 = .ok (.isub, 1) := by decide +kernel
theorem dX10_withLetter_5 : decode cX10_withLetter 5 = .ok (.iconst 1, 1) := by decide +kernel
theorem dX10_withLetter_6 : decode cX10_withLetter 6 = .ok (.iadd, 1) := by decide +kernel
theorem dX10_withLetter_7 : decode cX10_withLetter 7 = .ok (.i2l, 1) := by decide +kernel
theorem dX10_withLetter_8 : decode cX10_withLetter 8 = .ok (.iconst 5, 1) := by decide +kernel
theorem dX10_withLetter_9 : decode cX10_withLetter 9 = .ok (.bipush 6, 2) := by decide +kernel
theorem dX10_withLetter_11 : decode cX10_withLetter 11 = .ok (.iload_n 2, 1) := by decide +kernel
theorem dX10_withLetter_12 : decode cX10_withLetter 12 = .ok (.isub, 1) := by decide +kernel
theorem dX10_withLetter_13 : decode cX10_withLetter 13 = .ok (.imul, 1) := by decide +kernel
theorem dX10_withLetter_14 : decode cX10_withLetter 14 = .ok (.lshl, 1) := by decide +kernel
theorem dX10_withLetter_15 : decode cX10_withLetter 15 = .ok (.lor, 1) := by decide +kernel
theorem dX10_withLetter_16 : decode cX10_withLetter 16 = .ok (.lreturn, 1) := by decide +kernel
theorem dX10_letterIn_0 : decode cX10_letterIn 0 = .ok (.iload_n 2, 1) := by decide +kernel
theorem dX10_letterIn_1 : decode cX10_letterIn 1 = .ok (.ifCond .lt 9, 3) := by decide +kernel
theorem dX10_letterIn_4 : decode cX10_letterIn 4 = .ok (.iload_n 2, 1) := by decide +kernel
theorem dX10_letterIn_5 : decode cX10_letterIn 5 = .ok (.bipush 7, 2) := by decide +kernel
theorem dX10_letterIn_7 : decode cX10_letterIn 7 = .ok (.if_icmp .lt 5, 3) := by decide +kernel
theorem dX10_letterIn_10 : decode cX10_letterIn 10 = .ok (.iconst (-1), 1) := by decide +kernel
theorem dX10_letterIn_11 : decode cX10_letterIn 11 = .ok (.ireturn, 1) := by decide +kernel
theorem dX10_letterIn_12 : decode cX10_letterIn 12 = .ok (.lload_n 0, 1) := by decide +kernel
theorem dX10_letterIn_13 : decode cX10_letterIn 13 = .ok (.iconst 5, 1) := by decide +kernel
theorem dX10_letterIn_14 : decode cX10_letterIn 14 = .ok (.bipush 6, 2) := by decide +kernel
theorem dX10_letterIn_16 : decode cX10_letterIn 16 = .ok (.iload_n 2, 1) := by decide +kernel
theorem dX10_letterIn_17 : decode cX10_letterIn 17 = .ok (.isub, 1) := by decide +kernel
theorem dX10_letterIn_18 : decode cX10_letterIn 18 = .ok (.imul, 1) := by decide +kernel
theorem dX10_letterIn_19 : decode cX10_letterIn 19 = .ok (.lshr, 1) := by decide +kernel
theorem dX10_letterIn_20 : decode cX10_letterIn 20 = .ok (.l2i, 1) := by decide +kernel
theorem dX10_letterIn_21 : decode cX10_letterIn 21 = .ok (.bipush 31, 2) := by decide +kernel
theorem dX10_letterIn_23 : decode cX10_letterIn 23 = .ok (.iand, 1) := by decide +kernel
theorem dX10_letterIn_24 : decode cX10_letterIn 24 = .ok (.istore_n 3, 1) := by decide +kernel
theorem dX10_letterIn_25 : decode cX10_letterIn 25 = .ok (.iload_n 3, 1) := by decide +kernel
theorem dX10_letterIn_26 : decode cX10_letterIn 26 = .ok (.ifCond .ne 7, 3) := by decide +kernel
theorem dX10_letterIn_29 : decode cX10_letterIn 29 = .ok (.iconst (-1), 1) := by decide +kernel
theorem dX10_letterIn_30 : decode cX10_letterIn 30 = .ok (.goto 9, 3) := by decide +kernel
theorem dX10_letterIn_33 : decode cX10_letterIn 33 = .ok (.bipush 97, 2) := by decide +kernel
theorem dX10_letterIn_35 : decode cX10_letterIn 35 = .ok (.iload_n 3, 1) := by decide +kernel
theorem dX10_letterIn_36 : decode cX10_letterIn 36 = .ok (.iadd, 1) := by decide +kernel
theorem dX10_letterIn_37 : decode cX10_letterIn 37 = .ok (.iconst 1, 1) := by decide +kernel
theorem dX10_letterIn_38 : decode cX10_letterIn 38 = .ok (.isub, 1) := by decide +kernel
theorem dX10_letterIn_39 : decode cX10_letterIn 39 = .ok (.ireturn, 1) := by decide +kernel
end
section
theorem dJ9_max_7cf53_0 : decode cJ9_max_7cf53 0 = .ok (.iload_n 0, 1) := by decide +kernel
theorem dJ9_max_7cf53_1 : decode cJ9_max_7cf53 1 = .ok (.iload_n 1, 1) := by decide +kernel
theorem dJ9_max_7cf53_2 : decode cJ9_max_7cf53 2 = .ok (.if_icmp .lt 7, 3) := by decide +kernel
theorem dJ9_max_7cf53_5 : decode cJ9_max_7cf53 5 = .ok (.iload_n 0, 1) := by decide +kernel
theorem dJ9_max_7cf53_6 : decode cJ9_max_7cf53 6 = .ok (.goto 4, 3) := by decide +kernel
theorem dJ9_max_7cf53_9 : decode cJ9_max_7cf53 9 = .ok (.iload_n 1, 1) := by decide +kernel
theorem dJ9_max_7cf53_10 : decode cJ9_max_7cf53 10 = .ok (.ireturn, 1) := by decide +kernel
theorem dJ9_min_7cf53_0 : decode cJ9_min_7cf53 0 = .ok (.iload_n 0, 1) := by decide +kernel
theorem dJ9_min_7cf53_1 : decode cJ9_min_7cf53 1 = .ok (.iload_n 1, 1) := by decide +kernel
theorem dJ9_min_7cf53_2 : decode cJ9_min_7cf53 2 = .ok (.if_icmp .gt 7, 3) := by decide +kernel
theorem dJ9_min_7cf53_5 : decode cJ9_min_7cf53 5 = .ok (.iload_n 0, 1) := by decide +kernel
theorem dJ9_min_7cf53_6 : decode cJ9_min_7cf53 6 = .ok (.goto 4, 3) := by decide +kernel
theorem dJ9_min_7cf53_9 : decode cJ9_min_7cf53 9 = .ok (.iload_n 1, 1) := by decide +kernel
theorem dJ9_min_7cf53_10 : decode cJ9_min_7cf53 10 = .ok (.ireturn, 1) := by decide +kernel
end
