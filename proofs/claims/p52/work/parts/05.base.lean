abbrev vwCl : List vw_C := [(RX0, TX0, 2), (RX1, TX1, 3), (RX2, TX2, 5), (RX3, TX3, 1), (RX4, TX4, 8), (RX5, TX5, 3), (RX6, TX6, 5), (RX7, TX7, 1), (RX8, TX8, 4), (RX9, TX9, 4), (RX10, TX10, 7)]
/-! THE POOL: one world for class and law. The skeleton (addresses, kinds, references, lengths) is fixed once the objects are made; the numbers (ints by address and place, longs) move. Kinds 0..11: the classes in the order of vwCl; 12 none, 13 long rows, 14 rows of pamphlets, 15 rows of states. -/
abbrev pq_G : Type := List Nat × (Nat → Nat) × (Nat → Nat → Option Nat) × (Nat → Nat)
abbrev pq_N : Type := (Nat → Nat → Int32) × (Nat → Nat → Int64)
abbrev pq_Y : Type := ClassId × ClassId × ClassId × ClassId
/-- which fields of a class are references -/
def pq_lyt : Nat → List Bool
  | 0 => [true, false]
  | 1 => [true, true, false]
  | 2 => [true, true, false, false, false]
  | 3 => [true]
  | 4 => [true, true, true, true, false, false, false, false]
  | 5 => [true, false, false]
  | 6 => [true, false, false, false, false]
  | 7 => [true]
  | 8 => [true, false, false, false]
  | 9 => [true, true, false, false]
  | 10 => [true, true, true, true, true, true, true]
  | _ => []
/-- the kind that a reference field leads to -/
def pq_rk : Nat → Nat → Option Nat
  | 0, 0 => some 7
  | 1, 0 => some 7
  | 1, 1 => some 7
  | 2, 0 => some 15
  | 2, 1 => some 9
  | 3, 0 => some 7
  | 4, 0 => some 7
  | 4, 1 => some 7
  | 4, 2 => some 7
  | 4, 3 => some 7
  | 5, 0 => some 8
  | 6, 0 => some 4
  | 7, 0 => some 13
  | 8, 0 => some 7
  | 9, 0 => some 14
  | 9, 1 => some 4
  | 10, 0 => some 9
  | 10, 1 => some 2
  | 10, 2 => some 0
  | 10, 3 => some 6
  | 10, 4 => some 5
  | 10, 5 => some 3
  | 10, 6 => some 1
  | _, _ => none
def pq_fv (G : pq_G) (S : pq_N) (a : Nat) (k : Nat) (b : Bool) : Value := if b then va_rf (G.2.2.1 a k) else .int (S.1 a k)
def pq_cel (y : pq_Y) (G : pq_G) (S : pq_N) (a : Nat) : va_E :=
  if G.2.1 a < 12 then .inr (G.2.1 a, (pq_lyt (G.2.1 a)).mapIdx (pq_fv G S a))
  else if G.2.1 a = 12 then .inl (y.1, G.2.2.2 a, .inl (S.1 a))
  else if G.2.1 a = 13 then .inl (y.2.1, G.2.2.2 a, .inr (.inl (S.2 a)))
  else if G.2.1 a = 14 then .inl (y.2.2.1, G.2.2.2 a, .inr (.inr (.inr (.inr (G.2.2.1 a)))))
  else .inl (y.2.2.2, G.2.2.2 a, .inr (.inr (.inr (.inr (G.2.2.1 a)))))
def pq_wl (y : pq_Y) (G : pq_G) (S : pq_N) : va_W := va_pl G.1 (pq_cel y G S)
def pq_ok (G : pq_G) (k a : Nat) : Prop := a ∈ G.1 ∧ G.2.1 a = k
/-- where a reference leads (0 for null) -/
def pq_r (G : pq_G) (a k : Nat) : Nat := (G.2.2.1 a k).getD 0
/-- the length of a row -/
def pq_n (G : pq_G) (a : Nat) : Nat := G.2.2.2 a
/-- every reference leads to a thing of its kind -/
def pq_WT (G : pq_G) : Prop :=
  (∀ a k d, a ∈ G.1 → pq_rk (G.2.1 a) k = some d → ∃ q, G.2.2.1 a k = some q ∧ pq_ok G d q) ∧
  (∀ a i, pq_ok G 14 a → i < G.2.2.2 a → ∃ q, G.2.2.1 a i = some q ∧ pq_ok G 4 q) ∧
  (∀ a i, pq_ok G 15 a → i < G.2.2.2 a → ∃ q, G.2.2.1 a i = some q ∧ pq_ok G 9 q)
theorem pq_wt {G : pq_G} (W : pq_WT G) {c a k d : Nat} (h : pq_ok G c a) (hk : pq_rk c k = some d) : G.2.2.1 a k = some (pq_r G a k) ∧ pq_ok G d (pq_r G a k) := by
  obtain ⟨h1, h2⟩ := h
  obtain ⟨q, e, o⟩ := W.1 a k d h1 (by rw [h2]; exact hk)
  have : pq_r G a k = q := by simp [pq_r, e]
  rw [this]; exact ⟨e, o⟩
theorem pq_wt14 {G : pq_G} (W : pq_WT G) {a i : Nat} (h : pq_ok G 14 a) (hi : i < pq_n G a) : G.2.2.1 a i = some (pq_r G a i) ∧ pq_ok G 4 (pq_r G a i) := by
  obtain ⟨q, e, o⟩ := W.2.1 a i h hi
  have : pq_r G a i = q := by simp [pq_r, e]
  rw [this]; exact ⟨e, o⟩
theorem pq_wt15 {G : pq_G} (W : pq_WT G) {a i : Nat} (h : pq_ok G 15 a) (hi : i < pq_n G a) : G.2.2.1 a i = some (pq_r G a i) ∧ pq_ok G 9 (pq_r G a i) := by
  obtain ⟨q, e, o⟩ := W.2.2 a i h hi
  have : pq_r G a i = q := by simp [pq_r, e]
  rw [this]; exact ⟨e, o⟩
/-- an int is written: field k of a, or place k of the row a -/
def pq_wi (S : pq_N) (a k : Nat) (v : Int32) : pq_N := (fun b => if b = a then upd (S.1 b) k v else S.1 b, S.2)
/-- a long is written -/
def pq_wj (S : pq_N) (a k : Nat) (v : Int64) : pq_N := (S.1, fun b => if b = a then vp_updL (S.2 b) k v else S.2 b)
/-- a row of longs becomes another one -/
def pq_wr (S : pq_N) (a : Nat) (f : Nat → Int64) : pq_N := (S.1, fun b => if b = a then f else S.2 b)
theorem pq_at {y : pq_Y} {G : pq_G} {S : pq_N} {a : Nat} (h : a ∈ G.1) : ∃ k : Nat, (pq_wl y G S)[k]? = some (a, pq_cel y G S a) := by
  obtain ⟨k, hk⟩ := va_pl_get (X := []) (f := pq_cel y G S) h
  exact ⟨k, hk⟩
theorem pq_celO {y : pq_Y} {G : pq_G} {S : pq_N} {a c : Nat} (h : pq_ok G c a) (hc : c < 12) : pq_cel y G S a = .inr (c, (pq_lyt c).mapIdx (pq_fv G S a)) := by
  unfold pq_cel; rw [h.2, if_pos hc]
theorem pq_celI {y : pq_Y} {G : pq_G} {S : pq_N} {a : Nat} (h : pq_ok G 12 a) : pq_cel y G S a = .inl (y.1, G.2.2.2 a, .inl (S.1 a)) := by
  unfold pq_cel; rw [h.2, if_neg (by decide), if_pos rfl]
theorem pq_celJ {y : pq_Y} {G : pq_G} {S : pq_N} {a : Nat} (h : pq_ok G 13 a) : pq_cel y G S a = .inl (y.2.1, G.2.2.2 a, .inr (.inl (S.2 a))) := by
  unfold pq_cel; rw [h.2, if_neg (by decide), if_neg (by decide), if_pos rfl]
theorem pq_celP {y : pq_Y} {G : pq_G} {S : pq_N} {a : Nat} (h : pq_ok G 14 a) : pq_cel y G S a = .inl (y.2.2.1, G.2.2.2 a, .inr (.inr (.inr (.inr (G.2.2.1 a))))) := by
  unfold pq_cel; rw [h.2, if_neg (by decide), if_neg (by decide), if_neg (by decide), if_pos rfl]
theorem pq_celS {y : pq_Y} {G : pq_G} {S : pq_N} {a : Nat} (h : pq_ok G 15 a) : pq_cel y G S a = .inl (y.2.2.2, G.2.2.2 a, .inr (.inr (.inr (.inr (G.2.2.1 a))))) := by
  unfold pq_cel; rw [h.2, if_neg (by decide), if_neg (by decide), if_neg (by decide), if_neg (by decide)]
theorem pq_fvO {G : pq_G} {S : pq_N} {a k : Nat} {l : List Bool} {b : Bool} (h : l[k]? = some b) : (l.mapIdx (pq_fv G S a))[k]? = some (pq_fv G S a k b) := by
  rw [List.getElem?_mapIdx, h]; rfl
theorem pq_fvSet {G : pq_G} {S : pq_N} {a k : Nat} {l : List Bool} {v : Int32} (h : l[k]? = some false) : (l.mapIdx (pq_fv G S a)).set k (.int v) = l.mapIdx (pq_fv G (pq_wi S a k v) a) := by
  apply List.ext_getElem?
  intro i
  have hl : k < l.length := (List.getElem?_eq_some_iff.mp h).1
  by_cases hik : i = k
  · subst hik
    rw [List.getElem?_set_self (by simpa using hl), List.getElem?_mapIdx, h]
    simp [pq_fv, pq_wi, upd]
  · rw [List.getElem?_set_ne (Ne.symm hik), List.getElem?_mapIdx, List.getElem?_mapIdx]
    cases hb : l[i]? with
    | none => rfl
    | some b => cases b <;> simp [pq_fv, pq_wi, upd, hik]
theorem pq_fvNe {G : pq_G} {S : pq_N} {a b k : Nat} {v : Int32} (h : b ≠ a) : pq_fv G (pq_wi S a k v) b = pq_fv G S b := by
  funext i z; simp [pq_fv, pq_wi, h]
theorem pq_celWi {y : pq_Y} {G : pq_G} {S : pq_N} {a k : Nat} {v : Int32} {e : va_E} (he : pq_cel y G (pq_wi S a k v) a = e) : va_pl G.1 (va_up (pq_cel y G S) a e) = pq_wl y G (pq_wi S a k v) := by
  refine va_pl_congr (fun b => ?_)
  by_cases hb : b = a
  · subst hb; rw [va_up_self, he]
  · rw [va_up_ne _ _ hb]
    unfold pq_cel
    rw [pq_fvNe hb]
    simp [pq_wi, hb]
theorem pq_celWj {y : pq_Y} {G : pq_G} {S : pq_N} {a : Nat} {f : Nat → Int64} {e : va_E} (he : pq_cel y G (pq_wr S a f) a = e) : va_pl G.1 (va_up (pq_cel y G S) a e) = pq_wl y G (pq_wr S a f) := by
  refine va_pl_congr (fun b => ?_)
  by_cases hb : b = a
  · subst hb; rw [va_up_self, he]
  · rw [va_up_ne _ _ hb]
    have hf : pq_fv G (pq_wr S a f) b = pq_fv G S b := by funext i z; simp [pq_fv, pq_wr]
    unfold pq_cel
    rw [hf]
    simp [pq_wr, hb]
theorem pq_wj_wr (S : pq_N) (a k : Nat) (v : Int64) : pq_wj S a k v = pq_wr S a (vp_updL (S.2 a) k v) := by
  unfold pq_wj pq_wr
  congr 1
  funext b
  by_cases h : b = a
  · subst h; simp
  · simp [h]
/-- what the tables say of the private members of nest mates -/
def pq_nw : List Cond := [.fieldLinkNest "PamphletQuarrel$Glossary" 41 "PamphletQuarrel$Pamphlet" "words" "LPamphletQuarrel$Row;" "PamphletQuarrel",
  .fieldLinkNest "PamphletQuarrel$Search" 40 "PamphletQuarrel$Pamphlet" "words" "LPamphletQuarrel$Row;" "PamphletQuarrel",
  .fieldLinkNest "PamphletQuarrel$Reader" 80 "PamphletQuarrel$Pamphlet" "words" "LPamphletQuarrel$Row;" "PamphletQuarrel",
  .fieldLinkNest "PamphletQuarrel" 169 "PamphletQuarrel$Pamphlet" "words" "LPamphletQuarrel$Row;" "PamphletQuarrel",
  .fieldLinkNest "PamphletQuarrel$Quotations" 24 "PamphletQuarrel$Pamphlet" "sources" "LPamphletQuarrel$Row;" "PamphletQuarrel",
  .fieldLinkNest "PamphletQuarrel$Ladders" 54 "PamphletQuarrel$Pamphlet" "sources" "LPamphletQuarrel$Row;" "PamphletQuarrel",
  .fieldLinkNest "PamphletQuarrel$State" 46 "PamphletQuarrel$Pamphlet" "sources" "LPamphletQuarrel$Row;" "PamphletQuarrel",
  .fieldLinkNest "PamphletQuarrel$Reader" 95 "PamphletQuarrel$Pamphlet" "sources" "LPamphletQuarrel$Row;" "PamphletQuarrel",
  .fieldLinkNest "PamphletQuarrel" 200 "PamphletQuarrel$Pamphlet" "sources" "LPamphletQuarrel$Row;" "PamphletQuarrel",
  .fieldLinkNest "PamphletQuarrel$Search" 20 "PamphletQuarrel$Pamphlet" "begins" "LPamphletQuarrel$Row;" "PamphletQuarrel",
  .fieldLinkNest "PamphletQuarrel" 207 "PamphletQuarrel$Pamphlet" "begins" "LPamphletQuarrel$Row;" "PamphletQuarrel",
  .fieldLinkNest "PamphletQuarrel$Search" 29 "PamphletQuarrel$Pamphlet" "lengths" "LPamphletQuarrel$Row;" "PamphletQuarrel",
  .fieldLinkNest "PamphletQuarrel" 210 "PamphletQuarrel$Pamphlet" "lengths" "LPamphletQuarrel$Row;" "PamphletQuarrel",
  .fieldLinkNest "PamphletQuarrel$State" 37 "PamphletQuarrel$Pamphlet" "author" "I" "PamphletQuarrel",
  .fieldLinkNest "PamphletQuarrel" 143 "PamphletQuarrel$Pamphlet" "author" "I" "PamphletQuarrel",
  .fieldLinkNest "PamphletQuarrel$Quotations" 99 "PamphletQuarrel$Pamphlet" "author" "I" "PamphletQuarrel",
  .fieldLinkNest "PamphletQuarrel$State" 40 "PamphletQuarrel$Pamphlet" "printedOn" "I" "PamphletQuarrel",
  .fieldLinkNest "PamphletQuarrel" 132 "PamphletQuarrel$Pamphlet" "printedOn" "I" "PamphletQuarrel",
  .fieldLinkNest "PamphletQuarrel$Glossary" 36 "PamphletQuarrel$Pamphlet" "wordCount" "I" "PamphletQuarrel",
  .fieldLinkNest "PamphletQuarrel$Search" 32 "PamphletQuarrel$Pamphlet" "wordCount" "I" "PamphletQuarrel",
  .fieldLinkNest "PamphletQuarrel$Reader" 63 "PamphletQuarrel$Pamphlet" "wordCount" "I" "PamphletQuarrel",
  .fieldLinkNest "PamphletQuarrel$Quotations" 81 "PamphletQuarrel$Pamphlet" "wordCount" "I" "PamphletQuarrel",
  .fieldLinkNest "PamphletQuarrel" 146 "PamphletQuarrel$Pamphlet" "wordCount" "I" "PamphletQuarrel",
  .fieldLinkNest "PamphletQuarrel$Ladders" 46 "PamphletQuarrel$Pamphlet" "quotationCount" "I" "PamphletQuarrel",
  .fieldLinkNest "PamphletQuarrel$State" 43 "PamphletQuarrel$Pamphlet" "quotationCount" "I" "PamphletQuarrel",
  .fieldLinkNest "PamphletQuarrel$Quotations" 74 "PamphletQuarrel$Pamphlet" "quotationCount" "I" "PamphletQuarrel",
  .fieldLinkNest "PamphletQuarrel$Reader" 98 "PamphletQuarrel$Pamphlet" "quotationCount" "I" "PamphletQuarrel",
  .fieldLinkNest "PamphletQuarrel" 197 "PamphletQuarrel$Pamphlet" "quotationCount" "I" "PamphletQuarrel",
  .fieldLinkNest "PamphletQuarrel$Glossary" 27 "PamphletQuarrel$State" "count" "I" "PamphletQuarrel",
  .fieldLinkNest "PamphletQuarrel" 94 "PamphletQuarrel$State" "count" "I" "PamphletQuarrel",
  .fieldLinkNest "PamphletQuarrel$Quotations" 71 "PamphletQuarrel$State" "count" "I" "PamphletQuarrel",
  .fieldLinkNest "PamphletQuarrel" 99 "PamphletQuarrel$State" "today" "I" "PamphletQuarrel",
  .fieldLinkNest "PamphletQuarrel" 301 "PamphletQuarrel$History" "snapshot" "LPamphletQuarrel$State;" "PamphletQuarrel",
  .fieldLinkNest "PamphletQuarrel" 307 "PamphletQuarrel$History" "hasSnapshot" "Z" "PamphletQuarrel",
  .fieldLinkNest "PamphletQuarrel" 295 "PamphletQuarrel$History" "size" "I" "PamphletQuarrel",
  .fieldLinkNest "PamphletQuarrel$Reader" 33 "PamphletQuarrel$Buffer" "codes" "LPamphletQuarrel$Row;" "PamphletQuarrel",
  .fieldLinkNest "PamphletQuarrel$Reader" 28 "PamphletQuarrel$Buffer" "length" "I" "PamphletQuarrel",
  .fieldLinkNest "PamphletQuarrel" 90 "PamphletQuarrel$Buffer" "length" "I" "PamphletQuarrel",
  .fieldLinkNest "PamphletQuarrel" 82 "PamphletQuarrel$Reader" "text" "LPamphletQuarrel$Pamphlet;" "PamphletQuarrel",
  .fieldLinkNest "PamphletQuarrel" 292 "PamphletQuarrel$Reader" "position" "I" "PamphletQuarrel",
  .fieldLinkNest "PamphletQuarrel$Quotations" 40 "PamphletQuarrel$Search" "changes" "I" "PamphletQuarrel",
  .fieldLinkNest "PamphletQuarrel$Quotations" 55 "PamphletQuarrel$Search" "begin" "I" "PamphletQuarrel",
  .fieldLinkNest "PamphletQuarrel" 220 "PamphletQuarrel$Search" "begin" "I" "PamphletQuarrel",
  .fieldLinkNest "PamphletQuarrel$Quotations" 58 "PamphletQuarrel$Search" "length" "I" "PamphletQuarrel",
  .fieldLinkNest "PamphletQuarrel" 225 "PamphletQuarrel$Search" "length" "I" "PamphletQuarrel",
  .fieldLinkNest "PamphletQuarrel" 216 "PamphletQuarrel$Quotations" "search" "LPamphletQuarrel$Search;" "PamphletQuarrel",
  .fieldLinkNest "PamphletQuarrel" 232 "PamphletQuarrel$Quotations" "origin" "I" "PamphletQuarrel",
  .fieldLinkNest "PamphletQuarrel" 235 "PamphletQuarrel$Quotations" "traced" "I" "PamphletQuarrel",
  .fieldLinkNest "PamphletQuarrel" 283 "PamphletQuarrel$Glossary" "entries" "LPamphletQuarrel$Row;" "PamphletQuarrel",
  .fieldLinkNest "PamphletQuarrel" 280 "PamphletQuarrel$Glossary" "times" "LPamphletQuarrel$Row;" "PamphletQuarrel",
  .fieldLinkNest "PamphletQuarrel" 277 "PamphletQuarrel$Glossary" "size" "I" "PamphletQuarrel",
  .methodLinkNest "PamphletQuarrel$State" 17 ⟨"PamphletQuarrel$Pamphlet", "<init>", "()V"⟩ "PamphletQuarrel",
  .methodLinkNest "PamphletQuarrel" 25 ⟨"PamphletQuarrel$Buffer", "<init>", "()V"⟩ "PamphletQuarrel",
  .methodLinkNest "PamphletQuarrel" 32 ⟨"PamphletQuarrel$Reader", "<init>", "()V"⟩ "PamphletQuarrel",
  .methodLinkNest "PamphletQuarrel$Reader" 11 ⟨"PamphletQuarrel$Pamphlet", "<init>", "()V"⟩ "PamphletQuarrel",
  .methodLinkNest "PamphletQuarrel" 39 ⟨"PamphletQuarrel$Quotations", "<init>", "()V"⟩ "PamphletQuarrel",
  .methodLinkNest "PamphletQuarrel$Quotations" 11 ⟨"PamphletQuarrel$Search", "<init>", "()V"⟩ "PamphletQuarrel",
  .methodLinkNest "PamphletQuarrel" 46 ⟨"PamphletQuarrel$Ladders", "<init>", "()V"⟩ "PamphletQuarrel",
  .methodLinkNest "PamphletQuarrel" 53 ⟨"PamphletQuarrel$Glossary", "<init>", "()V"⟩ "PamphletQuarrel",
  .methodLinkNest "PamphletQuarrel$Reader" 69 ⟨"PamphletQuarrel", "withLetter", "(JII)J"⟩ "PamphletQuarrel"]
def pq_isn : Cond → Bool
  | .fieldLinkNest _ _ _ _ _ _ => true
  | .methodLinkNest _ _ _ _ => true
  | _ => false
theorem pq_nwn : ∀ w ∈ pq_nw, pq_isn w = true := by decide +kernel
def pq_Tb (U : State) : Prop := (∀ w ∈ pq_nw, va_Nw w U) ∧ va_AO RX4 U ∧ va_AO RX9 U
theorem pq_Tb.warm {s U : State} (hW : s.WarmedH U.vm) (h : pq_Tb s) : pq_Tb U := by
  refine ⟨fun w hw => ?_, h.2.1.moved hW.alike, h.2.2.moved hW.alike⟩
  have h1 := h.1 w hw
  have h2 := pq_nwn w hw
  cases w <;> first | exact va_Nw.warmF hW h1 | exact va_Nw.warmM hW h1 | (simp [pq_isn] at h2)
theorem pq_Tb.same {s U : State} (he : s.vm = U.vm) (h : pq_Tb s) : pq_Tb U := by
  have hA : s.vm.Alike U.vm := by rw [he]; exact Vm.Alike.refl U.vm
  refine ⟨fun w hw => ?_, h.2.1.moved hA, h.2.2.moved hA⟩
  have h1 := h.1 w hw
  have h2 := pq_nwn w hw
  refine va_Nw.same ?_ he h1
  cases w <;> first | rfl | (simp [pq_isn] at h2)
abbrev pq_tys (y : pq_Y) : List (ClassId × FieldType) := [(y.2.1, .long), (y.2.1, .long), (y.2.2.1, .object "PamphletQuarrel$Pamphlet"), (y.2.2.2, .object "PamphletQuarrel$State")]
/-- the world at a method's start or end -/
def pq_B (D : va_G) (y : pq_Y) (G : pq_G) (S : pq_N) (U : State) : Prop := va_P D vwCl (pq_wl y G S) U.heap ∧ va_K D vwCl (pq_tys y) U ∧ va_D (fun _ => True) (pq_wl y G S) ∧ pq_Tb U
def pq_A (G : pq_G) (sz : Nat) : Nat → Prop := fun q => q ∈ G.1 ∨ sz ≤ q
def pq_P (D : va_G) (y : pq_Y) (G : pq_G) (S : pq_N) (sz : Nat) (av : List Value) : Array Value → State → Prop := va_Pc av (fun U => U.heap.size = sz ∧ pq_B D y G S U)
/-- what holds all through a method's walk -/
def pq_C (p : Program) (s : State) (m : MethodId) (args : Array Value) (c : Code) (D : va_G) (y : pq_Y) (own : String) (Ts : List Cond) (cc : ByteArray) (nL : Nat) : Prop := CallFix p m c cc nL s args Ts own ∧ va_K D vwCl (pq_tys y) s ∧ pq_Tb s
/-- enough turns for every loop -/
def pq_fuel : Nat := 100000
/-- a step that may fail, then the rest -/
def pq_bd {α β γ : Type} (x : Option (α × β)) (f : α → β → Option γ) : Option γ := match x with
  | none => none
  | some q => f q.1 q.2
/-- a name for what comes out, then the rest -/
def pq_lt {α β : Type} (x : α) (f : α → β) : β := f x
theorem pq_ls {α β : Type} {x a : α} {f : α → β} {z : β} (e : a = x) (h : pq_lt x f = z) : f a = z := by subst e; exact h
theorem pq_inu {C : String} {T : u_T} {N : Nat} {ws : List Cond} (i : Nat) (h : (ws.drop i).take N = u_ws C T N) : ∀ w ∈ u_ws C T N, w ∈ ws := fun w hw => by
  rw [← h] at hw
  exact List.mem_of_mem_drop (List.mem_of_mem_take hw)
section PV
variable {p : Program} {l : Launch} {e : Env} {R : Room} {s : State} {m : MethodId} {args : Array Value} {below : List Frame} {meth : Method} {c : Code} {cells slots : Nat} {Q : State → Prop} {D : va_G} {y : pq_Y} {own : String} {Ts : List Cond} {cc : ByteArray} {nL : Nat} {A : Nat → Prop} {z : Heap → Prop} {G : pq_G} {S : pq_N} {pc : Nat} {lo : List (Nat × Value)} {rest : List Value}
/-- THE JUDGEMENT: at pc, with these locals and this stack, over the world G, S -/
def pq_V (p : Program) (l : Launch) (e : Env) (R : Room) (s : State) (m : MethodId) (args : Array Value) (below : List Frame) (meth : Method) (c : Code) (cells slots : Nat) (Q : State → Prop) (D : va_G) (y : pq_Y) (nL : Nat) (A : Nat → Prop) (z : Heap → Prop) (G : pq_G) (S : pq_N) (pc : Nat) (lo : List (Nat × Value)) (st : List Value) : Prop :=
  ∀ (H : Heap) (locs : List Loc) (ls : Array Slot), z H → va_P D vwCl (pq_wl y G S) H → va_D A (pq_wl y G S) → va_S A s.heap H locs → lv_has ls nL lo → W p l e R s m args below meth c H locs cells slots Q (F0 m pc ls st)
theorem pv_iconst (C : pq_C p s m args c D y own Ts cc nL) {n : Int} {v : Int32} (hdg : decode cc pc = .ok (.iconst n, 1)) (hv : Int32.ofInt n = v) (k : pq_V p l e R s m args below meth c cells slots Q D y nL A z G S (pc + 1) lo (.int v :: rest)) : pq_V p l e R s m args below meth c cells slots Q D y nL A z G S pc lo (rest) := fun H locs ls hz hP hD hS hl => lv_iconst C.1.1 C.1.2.1 hdg hv (k H locs ls hz hP hD hS hl)
theorem pv_bipush (C : pq_C p s m args c D y own Ts cc nL) {n : Int} {v : Int32} (hdg : decode cc pc = .ok (.bipush n, 2)) (hv : (Int8.ofInt n).toInt32 = v) (k : pq_V p l e R s m args below meth c cells slots Q D y nL A z G S (pc + 2) lo (.int v :: rest)) : pq_V p l e R s m args below meth c cells slots Q D y nL A z G S pc lo (rest) := fun H locs ls hz hP hD hS hl => lv_bipush C.1.1 C.1.2.1 hdg hv (k H locs ls hz hP hD hS hl)
theorem pv_sipush (C : pq_C p s m args c D y own Ts cc nL) {n : Int} {v : Int32} (hdg : decode cc pc = .ok (.sipush n, 3)) (hv : (Int16.ofInt n).toInt32 = v) (k : pq_V p l e R s m args below meth c cells slots Q D y nL A z G S (pc + 3) lo (.int v :: rest)) : pq_V p l e R s m args below meth c cells slots Q D y nL A z G S pc lo (rest) := fun H locs ls hz hP hD hS hl => lv_sipush C.1.1 C.1.2.1 hdg hv (k H locs ls hz hP hD hS hl)
theorem pv_lconst (C : pq_C p s m args c D y own Ts cc nL) {n : Fin 2} {v : Int64} (hdg : decode cc pc = .ok (.lconst n, 1)) (hv : Int64.ofNat (n : Nat) = v) (k : pq_V p l e R s m args below meth c cells slots Q D y nL A z G S (pc + 1) lo (.long v :: rest)) : pq_V p l e R s m args below meth c cells slots Q D y nL A z G S pc lo (rest) := fun H locs ls hz hP hD hS hl => lv_lconst C.1.1 C.1.2.1 hdg hv (k H locs ls hz hP hD hS hl)
theorem pv_dconst0 (C : pq_C p s m args c D y own Ts cc nL)  (hdg : decode cc pc = .ok (.dconst 0, 1))  (k : pq_V p l e R s m args below meth c cells slots Q D y nL A z G S (pc + 1) lo (.double FP.dconst0 :: rest)) : pq_V p l e R s m args below meth c cells slots Q D y nL A z G S pc lo (rest) := fun H locs ls hz hP hD hS hl => lv_dconst0 C.1.1 C.1.2.1 hdg (k H locs ls hz hP hD hS hl)
theorem pv_iload_n (C : pq_C p s m args c D y own Ts cc nL) {k : Fin 4} {i : Nat} {x : Int32} (j : Nat) (hdg : decode cc pc = .ok (.iload_n k, 1)) (hi : (k : Nat) = i) (hj : lo[j]? = some (i, .int x)) (kk : pq_V p l e R s m args below meth c cells slots Q D y nL A z G S (pc + 1) lo (.int x :: rest)) : pq_V p l e R s m args below meth c cells slots Q D y nL A z G S pc lo rest := fun H locs ls hz hP hD hS hl => lv_iload_n C.1.1 C.1.2.1 hdg hi (lv_at hl j hj) (kk H locs ls hz hP hD hS hl)
theorem pv_iload (C : pq_C p s m args c D y own Ts cc nL) {i : Nat} {x : Int32} (j : Nat) (hdg : decode cc pc = .ok (.iload i, 2)) (hj : lo[j]? = some (i, .int x)) (kk : pq_V p l e R s m args below meth c cells slots Q D y nL A z G S (pc + 2) lo (.int x :: rest)) : pq_V p l e R s m args below meth c cells slots Q D y nL A z G S pc lo rest := fun H locs ls hz hP hD hS hl => lv_iload C.1.1 C.1.2.1 hdg (lv_at hl j hj) (kk H locs ls hz hP hD hS hl)
theorem pv_istore_n (C : pq_C p s m args c D y own Ts cc nL) {k : Fin 4} {i : Nat} {x : Int32} (lo' : List (Nat × Value)) (hdg : decode cc pc = .ok (.istore_n k, 1)) (hi : (k : Nat) = i) (hn : i < nL) (hf : (i, Value.int x) :: lo.filter (fun q => !(q.1 == i) && !(q.1 + 1 == i && q.2.category == 2)) = lo') (kk : pq_V p l e R s m args below meth c cells slots Q D y nL A z G S (pc + 1) lo' rest) : pq_V p l e R s m args below meth c cells slots Q D y nL A z G S pc lo (.int x :: rest) := fun H locs ls hz hP hD hS hl => lv_istore_n C.1.1 C.1.2.1 hdg hi hl hn hf (fun ls1 hl1 => kk H locs ls1 hz hP hD hS hl1)
theorem pv_istore (C : pq_C p s m args c D y own Ts cc nL) {i : Nat} {x : Int32} (lo' : List (Nat × Value)) (hdg : decode cc pc = .ok (.istore i, 2)) (hn : i < nL) (hf : (i, Value.int x) :: lo.filter (fun q => !(q.1 == i) && !(q.1 + 1 == i && q.2.category == 2)) = lo') (kk : pq_V p l e R s m args below meth c cells slots Q D y nL A z G S (pc + 2) lo' rest) : pq_V p l e R s m args below meth c cells slots Q D y nL A z G S pc lo (.int x :: rest) := fun H locs ls hz hP hD hS hl => lv_istore C.1.1 C.1.2.1 hdg hl hn hf (fun ls1 hl1 => kk H locs ls1 hz hP hD hS hl1)
theorem pv_lload_n (C : pq_C p s m args c D y own Ts cc nL) {k : Fin 4} {i : Nat} {x : Int64} (j : Nat) (hdg : decode cc pc = .ok (.lload_n k, 1)) (hi : (k : Nat) = i) (hj : lo[j]? = some (i, .long x)) (kk : pq_V p l e R s m args below meth c cells slots Q D y nL A z G S (pc + 1) lo (.long x :: rest)) : pq_V p l e R s m args below meth c cells slots Q D y nL A z G S pc lo rest := fun H locs ls hz hP hD hS hl => lv_lload_n C.1.1 C.1.2.1 hdg hi (lv_at hl j hj) (kk H locs ls hz hP hD hS hl)
theorem pv_lload (C : pq_C p s m args c D y own Ts cc nL) {i : Nat} {x : Int64} (j : Nat) (hdg : decode cc pc = .ok (.lload i, 2)) (hj : lo[j]? = some (i, .long x)) (kk : pq_V p l e R s m args below meth c cells slots Q D y nL A z G S (pc + 2) lo (.long x :: rest)) : pq_V p l e R s m args below meth c cells slots Q D y nL A z G S pc lo rest := fun H locs ls hz hP hD hS hl => lv_lload C.1.1 C.1.2.1 hdg (lv_at hl j hj) (kk H locs ls hz hP hD hS hl)
theorem pv_lstore_n (C : pq_C p s m args c D y own Ts cc nL) {k : Fin 4} {i : Nat} {x : Int64} (lo' : List (Nat × Value)) (hdg : decode cc pc = .ok (.lstore_n k, 1)) (hi : (k : Nat) = i) (hn : i + 1 < nL) (hf : (i, Value.long x) :: lo.filter (fun q => !(q.1 == i) && (!(q.1 == i + 1) && !(q.1 + 1 == i && q.2.category == 2))) = lo') (kk : pq_V p l e R s m args below meth c cells slots Q D y nL A z G S (pc + 1) lo' rest) : pq_V p l e R s m args below meth c cells slots Q D y nL A z G S pc lo (.long x :: rest) := fun H locs ls hz hP hD hS hl => lv_lstore_n C.1.1 C.1.2.1 hdg hi hl hn hf (fun ls1 hl1 => kk H locs ls1 hz hP hD hS hl1)
theorem pv_lstore (C : pq_C p s m args c D y own Ts cc nL) {i : Nat} {x : Int64} (lo' : List (Nat × Value)) (hdg : decode cc pc = .ok (.lstore i, 2)) (hn : i + 1 < nL) (hf : (i, Value.long x) :: lo.filter (fun q => !(q.1 == i) && (!(q.1 == i + 1) && !(q.1 + 1 == i && q.2.category == 2))) = lo') (kk : pq_V p l e R s m args below meth c cells slots Q D y nL A z G S (pc + 2) lo' rest) : pq_V p l e R s m args below meth c cells slots Q D y nL A z G S pc lo (.long x :: rest) := fun H locs ls hz hP hD hS hl => lv_lstore C.1.1 C.1.2.1 hdg hl hn hf (fun ls1 hl1 => kk H locs ls1 hz hP hD hS hl1)
theorem pv_aload_n (C : pq_C p s m args c D y own Ts cc nL) {k : Fin 4} {i : Nat} {x : Nat} (j : Nat) (hdg : decode cc pc = .ok (.aload_n k, 1)) (hi : (k : Nat) = i) (hj : lo[j]? = some (i, .ref x)) (kk : pq_V p l e R s m args below meth c cells slots Q D y nL A z G S (pc + 1) lo (.ref x :: rest)) : pq_V p l e R s m args below meth c cells slots Q D y nL A z G S pc lo rest := fun H locs ls hz hP hD hS hl => lv_aload_n C.1.1 C.1.2.1 hdg hi (lv_at hl j hj) (kk H locs ls hz hP hD hS hl)
theorem pv_aload (C : pq_C p s m args c D y own Ts cc nL) {i : Nat} {x : Nat} (j : Nat) (hdg : decode cc pc = .ok (.aload i, 2)) (hj : lo[j]? = some (i, .ref x)) (kk : pq_V p l e R s m args below meth c cells slots Q D y nL A z G S (pc + 2) lo (.ref x :: rest)) : pq_V p l e R s m args below meth c cells slots Q D y nL A z G S pc lo rest := fun H locs ls hz hP hD hS hl => lv_aload C.1.1 C.1.2.1 hdg (lv_at hl j hj) (kk H locs ls hz hP hD hS hl)
theorem pv_astore_n (C : pq_C p s m args c D y own Ts cc nL) {k : Fin 4} {i : Nat} {x : Nat} (lo' : List (Nat × Value)) (hdg : decode cc pc = .ok (.astore_n k, 1)) (hi : (k : Nat) = i) (hn : i < nL) (hf : (i, Value.ref x) :: lo.filter (fun q => !(q.1 == i) && !(q.1 + 1 == i && q.2.category == 2)) = lo') (kk : pq_V p l e R s m args below meth c cells slots Q D y nL A z G S (pc + 1) lo' rest) : pq_V p l e R s m args below meth c cells slots Q D y nL A z G S pc lo (.ref x :: rest) := fun H locs ls hz hP hD hS hl => lv_astore_n C.1.1 C.1.2.1 hdg hi hl hn hf (fun ls1 hl1 => kk H locs ls1 hz hP hD hS hl1)
theorem pv_astore (C : pq_C p s m args c D y own Ts cc nL) {i : Nat} {x : Nat} (lo' : List (Nat × Value)) (hdg : decode cc pc = .ok (.astore i, 2)) (hn : i < nL) (hf : (i, Value.ref x) :: lo.filter (fun q => !(q.1 == i) && !(q.1 + 1 == i && q.2.category == 2)) = lo') (kk : pq_V p l e R s m args below meth c cells slots Q D y nL A z G S (pc + 2) lo' rest) : pq_V p l e R s m args below meth c cells slots Q D y nL A z G S pc lo (.ref x :: rest) := fun H locs ls hz hP hD hS hl => lv_astore C.1.1 C.1.2.1 hdg hl hn hf (fun ls1 hl1 => kk H locs ls1 hz hP hD hS hl1)
theorem pv_dload_n (C : pq_C p s m args c D y own Ts cc nL) {k : Fin 4} {i : Nat} {x : UInt64} (j : Nat) (hdg : decode cc pc = .ok (.dload_n k, 1)) (hi : (k : Nat) = i) (hj : lo[j]? = some (i, .double x)) (kk : pq_V p l e R s m args below meth c cells slots Q D y nL A z G S (pc + 1) lo (.double x :: rest)) : pq_V p l e R s m args below meth c cells slots Q D y nL A z G S pc lo rest := fun H locs ls hz hP hD hS hl => lv_dload_n C.1.1 C.1.2.1 hdg hi (lv_at hl j hj) (kk H locs ls hz hP hD hS hl)
theorem pv_dload (C : pq_C p s m args c D y own Ts cc nL) {i : Nat} {x : UInt64} (j : Nat) (hdg : decode cc pc = .ok (.dload i, 2)) (hj : lo[j]? = some (i, .double x)) (kk : pq_V p l e R s m args below meth c cells slots Q D y nL A z G S (pc + 2) lo (.double x :: rest)) : pq_V p l e R s m args below meth c cells slots Q D y nL A z G S pc lo rest := fun H locs ls hz hP hD hS hl => lv_dload C.1.1 C.1.2.1 hdg (lv_at hl j hj) (kk H locs ls hz hP hD hS hl)
theorem pv_dstore (C : pq_C p s m args c D y own Ts cc nL) {i : Nat} {x : UInt64} (lo' : List (Nat × Value)) (hdg : decode cc pc = .ok (.dstore i, 2)) (hn : i + 1 < nL) (hf : (i, Value.double x) :: lo.filter (fun q => !(q.1 == i) && (!(q.1 == i + 1) && !(q.1 + 1 == i && q.2.category == 2))) = lo') (kk : pq_V p l e R s m args below meth c cells slots Q D y nL A z G S (pc + 2) lo' rest) : pq_V p l e R s m args below meth c cells slots Q D y nL A z G S pc lo (.double x :: rest) := fun H locs ls hz hP hD hS hl => lv_dstore C.1.1 C.1.2.1 hdg hl hn hf (fun ls1 hl1 => kk H locs ls1 hz hP hD hS hl1)
theorem pv_iinc (C : pq_C p s m args c D y own Ts cc nL) {i : Nat} {n : Int} {x v : Int32} (j : Nat) (lo' : List (Nat × Value)) (hdg : decode cc pc = .ok (.iinc i n, 3)) (hj : lo[j]? = some (i, .int x)) (hv : x + Int32.ofInt n = v) (hn : i < nL) (hf : (i, Value.int v) :: lo.filter (fun q => !(q.1 == i) && !(q.1 + 1 == i && q.2.category == 2)) = lo') (kk : pq_V p l e R s m args below meth c cells slots Q D y nL A z G S (pc + 3) lo' rest) : pq_V p l e R s m args below meth c cells slots Q D y nL A z G S pc lo rest := fun H locs ls hz hP hD hS hl => lv_iinc C.1.1 C.1.2.1 hdg hl hj hv hn hf (fun ls1 hl1 => kk H locs ls1 hz hP hD hS hl1)
theorem pv_iadd (C : pq_C p s m args c D y own Ts cc nL) {x w : Int32} (hdg : decode cc pc = .ok (.iadd, 1))  (k : pq_V p l e R s m args below meth c cells slots Q D y nL A z G S (pc + 1) lo (.int (x + w) :: rest)) : pq_V p l e R s m args below meth c cells slots Q D y nL A z G S pc lo (.int w :: .int x :: rest) := fun H locs ls hz hP hD hS hl => lv_iadd C.1.1 C.1.2.1 hdg (k H locs ls hz hP hD hS hl)
theorem pv_isub (C : pq_C p s m args c D y own Ts cc nL) {x w : Int32} (hdg : decode cc pc = .ok (.isub, 1))  (k : pq_V p l e R s m args below meth c cells slots Q D y nL A z G S (pc + 1) lo (.int (x - w) :: rest)) : pq_V p l e R s m args below meth c cells slots Q D y nL A z G S pc lo (.int w :: .int x :: rest) := fun H locs ls hz hP hD hS hl => lv_isub C.1.1 C.1.2.1 hdg (k H locs ls hz hP hD hS hl)
theorem pv_imul (C : pq_C p s m args c D y own Ts cc nL) {x w : Int32} (hdg : decode cc pc = .ok (.imul, 1))  (k : pq_V p l e R s m args below meth c cells slots Q D y nL A z G S (pc + 1) lo (.int (x * w) :: rest)) : pq_V p l e R s m args below meth c cells slots Q D y nL A z G S pc lo (.int w :: .int x :: rest) := fun H locs ls hz hP hD hS hl => lv_imul C.1.1 C.1.2.1 hdg (k H locs ls hz hP hD hS hl)
theorem pv_iand (C : pq_C p s m args c D y own Ts cc nL) {x w : Int32} (hdg : decode cc pc = .ok (.iand, 1))  (k : pq_V p l e R s m args below meth c cells slots Q D y nL A z G S (pc + 1) lo (.int (x &&& w) :: rest)) : pq_V p l e R s m args below meth c cells slots Q D y nL A z G S pc lo (.int w :: .int x :: rest) := fun H locs ls hz hP hD hS hl => lv_iand C.1.1 C.1.2.1 hdg (k H locs ls hz hP hD hS hl)
theorem pv_ior (C : pq_C p s m args c D y own Ts cc nL) {x w : Int32} (hdg : decode cc pc = .ok (.ior, 1))  (k : pq_V p l e R s m args below meth c cells slots Q D y nL A z G S (pc + 1) lo (.int (x ||| w) :: rest)) : pq_V p l e R s m args below meth c cells slots Q D y nL A z G S pc lo (.int w :: .int x :: rest) := fun H locs ls hz hP hD hS hl => lv_ior C.1.1 C.1.2.1 hdg (k H locs ls hz hP hD hS hl)
theorem pv_ishl (C : pq_C p s m args c D y own Ts cc nL) {x w : Int32} (hdg : decode cc pc = .ok (.ishl, 1))  (k : pq_V p l e R s m args below meth c cells slots Q D y nL A z G S (pc + 1) lo (.int (x <<< (w &&& 31)) :: rest)) : pq_V p l e R s m args below meth c cells slots Q D y nL A z G S pc lo (.int w :: .int x :: rest) := fun H locs ls hz hP hD hS hl => lv_ishl C.1.1 C.1.2.1 hdg (k H locs ls hz hP hD hS hl)
theorem pv_ishr (C : pq_C p s m args c D y own Ts cc nL) {x w : Int32} (hdg : decode cc pc = .ok (.ishr, 1))  (k : pq_V p l e R s m args below meth c cells slots Q D y nL A z G S (pc + 1) lo (.int (x >>> (w &&& 31)) :: rest)) : pq_V p l e R s m args below meth c cells slots Q D y nL A z G S pc lo (.int w :: .int x :: rest) := fun H locs ls hz hP hD hS hl => lv_ishr C.1.1 C.1.2.1 hdg (k H locs ls hz hP hD hS hl)
theorem pv_idiv (C : pq_C p s m args c D y own Ts cc nL) {x w : Int32} (hdg : decode cc pc = .ok (.idiv, 1)) (hne : ¬ w = 0) (k : pq_V p l e R s m args below meth c cells slots Q D y nL A z G S (pc + 1) lo (.int (x / w) :: rest)) : pq_V p l e R s m args below meth c cells slots Q D y nL A z G S pc lo (.int w :: .int x :: rest) := fun H locs ls hz hP hD hS hl => lv_idiv C.1.1 C.1.2.1 hdg hne (k H locs ls hz hP hD hS hl)
theorem pv_irem (C : pq_C p s m args c D y own Ts cc nL) {x w : Int32} (hdg : decode cc pc = .ok (.irem, 1)) (hne : ¬ w = 0) (k : pq_V p l e R s m args below meth c cells slots Q D y nL A z G S (pc + 1) lo (.int (x - x / w * w) :: rest)) : pq_V p l e R s m args below meth c cells slots Q D y nL A z G S pc lo (.int w :: .int x :: rest) := fun H locs ls hz hP hD hS hl => lv_irem C.1.1 C.1.2.1 hdg hne (k H locs ls hz hP hD hS hl)
theorem pv_lor (C : pq_C p s m args c D y own Ts cc nL) {x w : Int64} (hdg : decode cc pc = .ok (.lor, 1))  (k : pq_V p l e R s m args below meth c cells slots Q D y nL A z G S (pc + 1) lo (.long (x ||| w) :: rest)) : pq_V p l e R s m args below meth c cells slots Q D y nL A z G S pc lo (.long w :: .long x :: rest) := fun H locs ls hz hP hD hS hl => lv_lor C.1.1 C.1.2.1 hdg (k H locs ls hz hP hD hS hl)
theorem pv_land (C : pq_C p s m args c D y own Ts cc nL) {x w : Int64} (hdg : decode cc pc = .ok (.land, 1))  (k : pq_V p l e R s m args below meth c cells slots Q D y nL A z G S (pc + 1) lo (.long (x &&& w) :: rest)) : pq_V p l e R s m args below meth c cells slots Q D y nL A z G S pc lo (.long w :: .long x :: rest) := fun H locs ls hz hP hD hS hl => lv_land C.1.1 C.1.2.1 hdg (k H locs ls hz hP hD hS hl)
theorem pv_lcmp (C : pq_C p s m args c D y own Ts cc nL) {x w : Int64} (hdg : decode cc pc = .ok (.lcmp, 1))  (k : pq_V p l e R s m args below meth c cells slots Q D y nL A z G S (pc + 1) lo (.int (lg_cmp x w) :: rest)) : pq_V p l e R s m args below meth c cells slots Q D y nL A z G S pc lo (.long w :: .long x :: rest) := fun H locs ls hz hP hD hS hl => W.lcmp C.1.1 C.1.2.1 hdg (k H locs ls hz hP hD hS hl)
theorem pv_dcmp (C : pq_C p s m args c D y own Ts cc nL) {x w : UInt64} {op : CmpOp} (hdg : decode cc pc = .ok (.dcmp op, 1))  (k : pq_V p l e R s m args below meth c cells slots Q D y nL A z G S (pc + 1) lo (.int (Op.cmpValue (FP.dcmp x w) op) :: rest)) : pq_V p l e R s m args below meth c cells slots Q D y nL A z G S pc lo (.double w :: .double x :: rest) := fun H locs ls hz hP hD hS hl => lv_dcmp C.1.1 C.1.2.1 hdg (k H locs ls hz hP hD hS hl)
theorem pv_ddiv (C : pq_C p s m args c D y own Ts cc nL) {x w : UInt64} (hdg : decode cc pc = .ok (.ddiv, 1)) (hne : vf_n64 (FP.ddiv x w)) (k : pq_V p l e R s m args below meth c cells slots Q D y nL A z G S (pc + 1) lo (.double (FP.ddiv x w) :: rest)) : pq_V p l e R s m args below meth c cells slots Q D y nL A z G S pc lo (.double w :: .double x :: rest) := fun H locs ls hz hP hD hS hl => lv_ddiv C.1.1 C.1.2.1 hdg hne (k H locs ls hz hP hD hS hl)
theorem pv_i2d (C : pq_C p s m args c D y own Ts cc nL) {x : Int32} (hdg : decode cc pc = .ok (.i2d, 1))  (k : pq_V p l e R s m args below meth c cells slots Q D y nL A z G S (pc + 1) lo (.double (FP.i2d x) :: rest)) : pq_V p l e R s m args below meth c cells slots Q D y nL A z G S pc lo (.int x :: rest) := fun H locs ls hz hP hD hS hl => lv_i2d C.1.1 C.1.2.1 hdg (k H locs ls hz hP hD hS hl)
theorem pv_i2l (C : pq_C p s m args c D y own Ts cc nL) {x : Int32} (hdg : decode cc pc = .ok (.i2l, 1))  (k : pq_V p l e R s m args below meth c cells slots Q D y nL A z G S (pc + 1) lo (.long x.toInt64 :: rest)) : pq_V p l e R s m args below meth c cells slots Q D y nL A z G S pc lo (.int x :: rest) := fun H locs ls hz hP hD hS hl => lv_i2l C.1.1 C.1.2.1 hdg rfl (k H locs ls hz hP hD hS hl)
theorem pv_l2i (C : pq_C p s m args c D y own Ts cc nL) {x : Int64} (hdg : decode cc pc = .ok (.l2i, 1))  (k : pq_V p l e R s m args below meth c cells slots Q D y nL A z G S (pc + 1) lo (.int x.toInt32 :: rest)) : pq_V p l e R s m args below meth c cells slots Q D y nL A z G S pc lo (.long x :: rest) := fun H locs ls hz hP hD hS hl => lv_l2i C.1.1 C.1.2.1 hdg rfl (k H locs ls hz hP hD hS hl)
theorem pv_lshl (C : pq_C p s m args c D y own Ts cc nL) {x : Int64} {w : Int32} (hdg : decode cc pc = .ok (.lshl, 1))  (k : pq_V p l e R s m args below meth c cells slots Q D y nL A z G S (pc + 1) lo (.long (x <<< (w.toInt64 &&& 63)) :: rest)) : pq_V p l e R s m args below meth c cells slots Q D y nL A z G S pc lo (.int w :: .long x :: rest) := fun H locs ls hz hP hD hS hl => lv_lshl C.1.1 C.1.2.1 hdg rfl (k H locs ls hz hP hD hS hl)
theorem pv_lshr (C : pq_C p s m args c D y own Ts cc nL) {x : Int64} {w : Int32} (hdg : decode cc pc = .ok (.lshr, 1))  (k : pq_V p l e R s m args below meth c cells slots Q D y nL A z G S (pc + 1) lo (.long (x >>> (w.toInt64 &&& 63)) :: rest)) : pq_V p l e R s m args below meth c cells slots Q D y nL A z G S pc lo (.int w :: .long x :: rest) := fun H locs ls hz hP hD hS hl => lv_lshr C.1.1 C.1.2.1 hdg rfl (k H locs ls hz hP hD hS hl)
theorem pv_dup (C : pq_C p s m args c D y own Ts cc nL) {v : Value} (hdg : decode cc pc = .ok (.dup, 1)) (hv : v.category = 1) (k : pq_V p l e R s m args below meth c cells slots Q D y nL A z G S (pc + 1) lo (v :: v :: rest)) : pq_V p l e R s m args below meth c cells slots Q D y nL A z G S pc lo (v :: rest) := fun H locs ls hz hP hD hS hl => lv_dup C.1.1 C.1.2.1 hdg hv (k H locs ls hz hP hD hS hl)
theorem pv_pop (C : pq_C p s m args c D y own Ts cc nL) {v : Value} (hdg : decode cc pc = .ok (.pop, 1)) (hv : v.category = 1) (k : pq_V p l e R s m args below meth c cells slots Q D y nL A z G S (pc + 1) lo (rest)) : pq_V p l e R s m args below meth c cells slots Q D y nL A z G S pc lo (v :: rest) := fun H locs ls hz hP hD hS hl => lv_pop C.1.1 C.1.2.1 hdg hv (k H locs ls hz hP hD hS hl)
theorem pv_dup2 (C : pq_C p s m args c D y own Ts cc nL) {v w : Value} (hdg : decode cc pc = .ok (.dup2, 1)) (hv : v.category = 1) (hw : w.category = 1) (k : pq_V p l e R s m args below meth c cells slots Q D y nL A z G S (pc + 1) lo (v :: w :: v :: w :: rest)) : pq_V p l e R s m args below meth c cells slots Q D y nL A z G S pc lo (v :: w :: rest) := fun H locs ls hz hP hD hS hl => lv_dup2_11 C.1.1 C.1.2.1 hdg hv hw (k H locs ls hz hP hD hS hl)
theorem pv_goto (C : pq_C p s m args c D y own Ts cc nL) {off : Int} {tgt : Nat} (hdg : decode cc pc = .ok (.goto off, 3)) (ht : (pc : Int) + off = (tgt : Int)) (k : pq_V p l e R s m args below meth c cells slots Q D y nL A z G S tgt lo rest) : pq_V p l e R s m args below meth c cells slots Q D y nL A z G S pc lo rest := fun H locs ls hz hP hD hS hl => lv_goto C.1.1 C.1.2.1 hdg ht (k H locs ls hz hP hD hS hl)
theorem pv_ifnonnull (C : pq_C p s m args c D y own Ts cc nL) {x : Nat} {off : Int} {tgt : Nat} (hdg : decode cc pc = .ok (.ifnonnull off, 3)) (ht : (pc : Int) + off = (tgt : Int)) (k : pq_V p l e R s m args below meth c cells slots Q D y nL A z G S tgt lo rest) : pq_V p l e R s m args below meth c cells slots Q D y nL A z G S pc lo (.ref x :: rest) := fun H locs ls hz hP hD hS hl => lv_ifnonnull C.1.1 C.1.2.1 hdg ht (k H locs ls hz hP hD hS hl)
theorem pv_ifnull (C : pq_C p s m args c D y own Ts cc nL) {x : Nat} {off : Int} (hdg : decode cc pc = .ok (.ifnull off, 3)) (k : pq_V p l e R s m args below meth c cells slots Q D y nL A z G S (pc + 3) lo rest) : pq_V p l e R s m args below meth c cells slots Q D y nL A z G S pc lo (.ref x :: rest) := fun H locs ls hz hP hD hS hl => lv_ifnull C.1.1 C.1.2.1 hdg (k H locs ls hz hP hD hS hl)
theorem pv_if_eq (C : pq_C p s m args c D y own Ts cc nL) {x : Int32} {off : Int} {tgt : Nat} (hdg : decode cc pc = .ok (.ifCond .eq off, 3)) (ht : (pc : Int) + off = (tgt : Int)) (kt : x = 0 → pq_V p l e R s m args below meth c cells slots Q D y nL A z G S tgt lo rest) (kf : ¬ x = 0 → pq_V p l e R s m args below meth c cells slots Q D y nL A z G S (pc + 3) lo rest) : pq_V p l e R s m args below meth c cells slots Q D y nL A z G S pc lo (.int x :: rest) := fun H locs ls hz hP hD hS hl => lv_if_eq C.1.1 C.1.2.1 hdg ht (fun q => kt q H locs ls hz hP hD hS hl) (fun q => kf q H locs ls hz hP hD hS hl)
theorem pv_icmp_eq (C : pq_C p s m args c D y own Ts cc nL) {x w : Int32} {off : Int} {tgt : Nat} (hdg : decode cc pc = .ok (.if_icmp .eq off, 3)) (ht : (pc : Int) + off = (tgt : Int)) (kt : x = w → pq_V p l e R s m args below meth c cells slots Q D y nL A z G S tgt lo rest) (kf : ¬ x = w → pq_V p l e R s m args below meth c cells slots Q D y nL A z G S (pc + 3) lo rest) : pq_V p l e R s m args below meth c cells slots Q D y nL A z G S pc lo (.int w :: .int x :: rest) := fun H locs ls hz hP hD hS hl => lv_icmp_eq C.1.1 C.1.2.1 hdg ht (fun q => kt q H locs ls hz hP hD hS hl) (fun q => kf q H locs ls hz hP hD hS hl)
theorem pv_if_ne (C : pq_C p s m args c D y own Ts cc nL) {x : Int32} {off : Int} {tgt : Nat} (hdg : decode cc pc = .ok (.ifCond .ne off, 3)) (ht : (pc : Int) + off = (tgt : Int)) (kt : ¬ x = 0 → pq_V p l e R s m args below meth c cells slots Q D y nL A z G S tgt lo rest) (kf : x = 0 → pq_V p l e R s m args below meth c cells slots Q D y nL A z G S (pc + 3) lo rest) : pq_V p l e R s m args below meth c cells slots Q D y nL A z G S pc lo (.int x :: rest) := fun H locs ls hz hP hD hS hl => lv_if_ne C.1.1 C.1.2.1 hdg ht (fun q => kt q H locs ls hz hP hD hS hl) (fun q => kf q H locs ls hz hP hD hS hl)
theorem pv_icmp_ne (C : pq_C p s m args c D y own Ts cc nL) {x w : Int32} {off : Int} {tgt : Nat} (hdg : decode cc pc = .ok (.if_icmp .ne off, 3)) (ht : (pc : Int) + off = (tgt : Int)) (kt : ¬ x = w → pq_V p l e R s m args below meth c cells slots Q D y nL A z G S tgt lo rest) (kf : x = w → pq_V p l e R s m args below meth c cells slots Q D y nL A z G S (pc + 3) lo rest) : pq_V p l e R s m args below meth c cells slots Q D y nL A z G S pc lo (.int w :: .int x :: rest) := fun H locs ls hz hP hD hS hl => lv_icmp_ne C.1.1 C.1.2.1 hdg ht (fun q => kt q H locs ls hz hP hD hS hl) (fun q => kf q H locs ls hz hP hD hS hl)
theorem pv_if_lt (C : pq_C p s m args c D y own Ts cc nL) {x : Int32} {off : Int} {tgt : Nat} (hdg : decode cc pc = .ok (.ifCond .lt off, 3)) (ht : (pc : Int) + off = (tgt : Int)) (kt : x < 0 → pq_V p l e R s m args below meth c cells slots Q D y nL A z G S tgt lo rest) (kf : ¬ x < 0 → pq_V p l e R s m args below meth c cells slots Q D y nL A z G S (pc + 3) lo rest) : pq_V p l e R s m args below meth c cells slots Q D y nL A z G S pc lo (.int x :: rest) := fun H locs ls hz hP hD hS hl => lv_if_lt C.1.1 C.1.2.1 hdg ht (fun q => kt q H locs ls hz hP hD hS hl) (fun q => kf q H locs ls hz hP hD hS hl)
theorem pv_icmp_lt (C : pq_C p s m args c D y own Ts cc nL) {x w : Int32} {off : Int} {tgt : Nat} (hdg : decode cc pc = .ok (.if_icmp .lt off, 3)) (ht : (pc : Int) + off = (tgt : Int)) (kt : x < w → pq_V p l e R s m args below meth c cells slots Q D y nL A z G S tgt lo rest) (kf : ¬ x < w → pq_V p l e R s m args below meth c cells slots Q D y nL A z G S (pc + 3) lo rest) : pq_V p l e R s m args below meth c cells slots Q D y nL A z G S pc lo (.int w :: .int x :: rest) := fun H locs ls hz hP hD hS hl => lv_icmp_lt C.1.1 C.1.2.1 hdg ht (fun q => kt q H locs ls hz hP hD hS hl) (fun q => kf q H locs ls hz hP hD hS hl)
theorem pv_if_ge (C : pq_C p s m args c D y own Ts cc nL) {x : Int32} {off : Int} {tgt : Nat} (hdg : decode cc pc = .ok (.ifCond .ge off, 3)) (ht : (pc : Int) + off = (tgt : Int)) (kt : 0 ≤ x → pq_V p l e R s m args below meth c cells slots Q D y nL A z G S tgt lo rest) (kf : ¬ 0 ≤ x → pq_V p l e R s m args below meth c cells slots Q D y nL A z G S (pc + 3) lo rest) : pq_V p l e R s m args below meth c cells slots Q D y nL A z G S pc lo (.int x :: rest) := fun H locs ls hz hP hD hS hl => lv_if_ge C.1.1 C.1.2.1 hdg ht (fun q => kt q H locs ls hz hP hD hS hl) (fun q => kf q H locs ls hz hP hD hS hl)
theorem pv_icmp_ge (C : pq_C p s m args c D y own Ts cc nL) {x w : Int32} {off : Int} {tgt : Nat} (hdg : decode cc pc = .ok (.if_icmp .ge off, 3)) (ht : (pc : Int) + off = (tgt : Int)) (kt : w ≤ x → pq_V p l e R s m args below meth c cells slots Q D y nL A z G S tgt lo rest) (kf : ¬ w ≤ x → pq_V p l e R s m args below meth c cells slots Q D y nL A z G S (pc + 3) lo rest) : pq_V p l e R s m args below meth c cells slots Q D y nL A z G S pc lo (.int w :: .int x :: rest) := fun H locs ls hz hP hD hS hl => lv_icmp_ge C.1.1 C.1.2.1 hdg ht (fun q => kt q H locs ls hz hP hD hS hl) (fun q => kf q H locs ls hz hP hD hS hl)
theorem pv_if_gt (C : pq_C p s m args c D y own Ts cc nL) {x : Int32} {off : Int} {tgt : Nat} (hdg : decode cc pc = .ok (.ifCond .gt off, 3)) (ht : (pc : Int) + off = (tgt : Int)) (kt : 0 < x → pq_V p l e R s m args below meth c cells slots Q D y nL A z G S tgt lo rest) (kf : ¬ 0 < x → pq_V p l e R s m args below meth c cells slots Q D y nL A z G S (pc + 3) lo rest) : pq_V p l e R s m args below meth c cells slots Q D y nL A z G S pc lo (.int x :: rest) := fun H locs ls hz hP hD hS hl => lv_if_gt C.1.1 C.1.2.1 hdg ht (fun q => kt q H locs ls hz hP hD hS hl) (fun q => kf q H locs ls hz hP hD hS hl)
theorem pv_icmp_gt (C : pq_C p s m args c D y own Ts cc nL) {x w : Int32} {off : Int} {tgt : Nat} (hdg : decode cc pc = .ok (.if_icmp .gt off, 3)) (ht : (pc : Int) + off = (tgt : Int)) (kt : w < x → pq_V p l e R s m args below meth c cells slots Q D y nL A z G S tgt lo rest) (kf : ¬ w < x → pq_V p l e R s m args below meth c cells slots Q D y nL A z G S (pc + 3) lo rest) : pq_V p l e R s m args below meth c cells slots Q D y nL A z G S pc lo (.int w :: .int x :: rest) := fun H locs ls hz hP hD hS hl => lv_icmp_gt C.1.1 C.1.2.1 hdg ht (fun q => kt q H locs ls hz hP hD hS hl) (fun q => kf q H locs ls hz hP hD hS hl)
theorem pv_if_le (C : pq_C p s m args c D y own Ts cc nL) {x : Int32} {off : Int} {tgt : Nat} (hdg : decode cc pc = .ok (.ifCond .le off, 3)) (ht : (pc : Int) + off = (tgt : Int)) (kt : x ≤ 0 → pq_V p l e R s m args below meth c cells slots Q D y nL A z G S tgt lo rest) (kf : ¬ x ≤ 0 → pq_V p l e R s m args below meth c cells slots Q D y nL A z G S (pc + 3) lo rest) : pq_V p l e R s m args below meth c cells slots Q D y nL A z G S pc lo (.int x :: rest) := fun H locs ls hz hP hD hS hl => lv_if_le C.1.1 C.1.2.1 hdg ht (fun q => kt q H locs ls hz hP hD hS hl) (fun q => kf q H locs ls hz hP hD hS hl)
theorem pv_icmp_le (C : pq_C p s m args c D y own Ts cc nL) {x w : Int32} {off : Int} {tgt : Nat} (hdg : decode cc pc = .ok (.if_icmp .le off, 3)) (ht : (pc : Int) + off = (tgt : Int)) (kt : x ≤ w → pq_V p l e R s m args below meth c cells slots Q D y nL A z G S tgt lo rest) (kf : ¬ x ≤ w → pq_V p l e R s m args below meth c cells slots Q D y nL A z G S (pc + 3) lo rest) : pq_V p l e R s m args below meth c cells slots Q D y nL A z G S pc lo (.int w :: .int x :: rest) := fun H locs ls hz hP hD hS hl => lv_icmp_le C.1.1 C.1.2.1 hdg ht (fun q => kt q H locs ls hz hP hD hS hl) (fun q => kf q H locs ls hz hP hD hS hl)
theorem pv_ldc (C : pq_C p s m args c D y own Ts cc nL) {index : Nat} {v : Int32} (hw : Jvm.Cond.constant own index v ∈ Ts) (hdg : decode cc pc = .ok (.ldc index, 2)) (k : pq_V p l e R s m args below meth c cells slots Q D y nL A z G S (pc + 2) lo (.int v :: rest)) : pq_V p l e R s m args below meth c cells slots Q D y nL A z G S pc lo rest := fun H locs ls hz hP hD hS hl => lv_ldc C.1.1 C.1.2.1 C.1.2.2.2.1 (C.1.2.2.2.2 _ hw) hdg (k H locs ls hz hP hD hS hl)
theorem pv_ldcw (C : pq_C p s m args c D y own Ts cc nL) {index : Nat} {v : Int32} (hw : Jvm.Cond.constant own index v ∈ Ts) (hdg : decode cc pc = .ok (.ldc_w index, 3)) (k : pq_V p l e R s m args below meth c cells slots Q D y nL A z G S (pc + 3) lo (.int v :: rest)) : pq_V p l e R s m args below meth c cells slots Q D y nL A z G S pc lo rest := fun H locs ls hz hP hD hS hl => lv_ldcw C.1.1 C.1.2.1 C.1.2.2.2.1 (C.1.2.2.2.2 _ hw) hdg (k H locs ls hz hP hD hS hl)
theorem pv_ldc2 (C : pq_C p s m args c D y own Ts cc nL) {index : Nat} {v : Int64} (hw : Jvm.Cond.constantLong own index v ∈ Ts) (hdg : decode cc pc = .ok (.ldc2_w index, 3)) (k : pq_V p l e R s m args below meth c cells slots Q D y nL A z G S (pc + 3) lo (.long v :: rest)) : pq_V p l e R s m args below meth c cells slots Q D y nL A z G S pc lo rest := fun H locs ls hz hP hD hS hl => lv_ldc2 C.1.1 C.1.2.1 C.1.2.2.2.1 (C.1.2.2.2.2 _ hw) hdg (k H locs ls hz hP hD hS hl)
theorem pv_tabIn (C : pq_C p s m args c D y own Ts cc nL) {dflt lw hi : Int} {offs : Array Int} {len : Nat} {x : Int32} {off : Int} {tgt : Nat} (hdg : decode cc pc = .ok (.tableswitch dflt lw hi offs, len)) (h1 : ¬ x.toInt < lw) (h2 : ¬ hi < x.toInt) (ho : offs[(x.toInt - lw).toNat]? = some off) (ht : (pc : Int) + off = (tgt : Int)) (k : pq_V p l e R s m args below meth c cells slots Q D y nL A z G S tgt lo rest) : pq_V p l e R s m args below meth c cells slots Q D y nL A z G S pc lo (.int x :: rest) := fun H locs ls hz hP hD hS hl => lv_tableIn C.1.1 C.1.2.1 hdg h1 h2 ho ht (k H locs ls hz hP hD hS hl)
theorem pv_tabOut (C : pq_C p s m args c D y own Ts cc nL) {dflt lw hi : Int} {offs : Array Int} {len : Nat} {x : Int32} {tgt : Nat} (hdg : decode cc pc = .ok (.tableswitch dflt lw hi offs, len)) (h : x.toInt < lw ∨ hi < x.toInt) (ht : (pc : Int) + dflt = (tgt : Int)) (k : pq_V p l e R s m args below meth c cells slots Q D y nL A z G S tgt lo rest) : pq_V p l e R s m args below meth c cells slots Q D y nL A z G S pc lo (.int x :: rest) := fun H locs ls hz hP hD hS hl => lv_tableOut C.1.1 C.1.2.1 hdg h ht (k H locs ls hz hP hD hS hl)
theorem pv_sub {lo1 : List (Nat × Value)} {st : List Value} (ks : List Nat) (hk : lv_pick lo ks = lo1) (k : pq_V p l e R s m args below meth c cells slots Q D y nL A z G S pc lo1 st) : pq_V p l e R s m args below meth c cells slots Q D y nL A z G S pc lo st := fun H locs ls hz hP hD hS hl => k H locs ls hz hP hD hS (lv_sub hl ks hk)
theorem pv_nm {st : List Value} (k : ∀ S1 : pq_N, S1 = S → pq_V p l e R s m args below meth c cells slots Q D y nL A z G S1 pc lo st) : pq_V p l e R s m args below meth c cells slots Q D y nL A z G S pc lo st := k S rfl
theorem pv_nmi {x : Int32} (k : ∀ v : Int32, v = x → pq_V p l e R s m args below meth c cells slots Q D y nL A z G S pc lo (.int v :: rest)) : pq_V p l e R s m args below meth c cells slots Q D y nL A z G S pc lo (.int x :: rest) := k x rfl
theorem pv_geti (C : pq_C p s m args c D y own Ts cc nL) {ci : Nat} {Cn : String} {T : u_T} {N : Nat}  {index a : Nat} (k : Nat) (hin : ∀ w ∈ u_ws Cn T N, w ∈ Ts) (hc : vwCl[ci]? = some (Cn, T, N)) (hc2 : ci < 12) (hk : k < N) (hw : Cond.fieldLink own index (T k).1 (T k).2.1 (T k).2.2.1 ∈ Ts) (hb : (pq_lyt ci)[k]? = some false) (ha : pq_ok G ci a) (hdg : decode cc pc = .ok (.getfield index, 3)) (kk : pq_V p l e R s m args below meth c cells slots Q D y nL A z G S (pc + 3) lo (.int (S.1 a k) :: rest)) : pq_V p l e R s m args below meth c cells slots Q D y nL A z G S pc lo (.ref a :: rest) := by
  intro H locs ls hz hP hD hS hl
  obtain ⟨q0, h0⟩ := pq_at (y := y) (G := G) (S := S) ha.1
  rw [pq_celO ha hc2] at h0
  exact va_get C.1.1 C.1.2.1 C.1.2.2.2.2 hin C.1.2.2.2.1 C.2.1 hP q0 h0 hc k hk (C.1.2.2.2.2 _ hw) (fun _ h9 => h9) (pq_fvO hb) hdg (kk H locs ls hz hP hD hS hl)
theorem pv_getr (C : pq_C p s m args c D y own Ts cc nL) {ci : Nat} {Cn : String} {T : u_T} {N : Nat}  {index a q : Nat} (k : Nat) (hin : ∀ w ∈ u_ws Cn T N, w ∈ Ts) (hc : vwCl[ci]? = some (Cn, T, N)) (hc2 : ci < 12) (hk : k < N) (hw : Cond.fieldLink own index (T k).1 (T k).2.1 (T k).2.2.1 ∈ Ts) (hb : (pq_lyt ci)[k]? = some true) (ha : pq_ok G ci a) (hq : G.2.2.1 a k = some q) (hdg : decode cc pc = .ok (.getfield index, 3)) (kk : pq_V p l e R s m args below meth c cells slots Q D y nL A z G S (pc + 3) lo (.ref q :: rest)) : pq_V p l e R s m args below meth c cells slots Q D y nL A z G S pc lo (.ref a :: rest) := by
  intro H locs ls hz hP hD hS hl
  obtain ⟨q0, h0⟩ := pq_at (y := y) (G := G) (S := S) ha.1
  rw [pq_celO ha hc2] at h0
  exact va_get C.1.1 C.1.2.1 C.1.2.2.2.2 hin C.1.2.2.2.1 C.2.1 hP q0 h0 hc k hk (C.1.2.2.2.2 _ hw) (fun _ h9 => h9) ((pq_fvO hb).trans (by simp [pq_fv, hq, va_rf])) hdg (kk H locs ls hz hP hD hS hl)
theorem pv_put (C : pq_C p s m args c D y own Ts cc nL) {ci : Nat} {Cn : String} {T : u_T} {N : Nat}  {index a : Nat} {v : Int32} {ty : FieldType} (k : Nat) (hin : ∀ w ∈ u_ws Cn T N, w ∈ Ts) (hc : vwCl[ci]? = some (Cn, T, N)) (hc2 : ci < 12) (ty0 : Nat → FieldType) (hty : ∀ k, k < N → parseFieldDescriptor (T k).2.2.1 = some (ty0 k)) (hnm : ∀ a, a < N → ∀ b, b < N → a ≠ b → (T a).2.1 ≠ (T b).2.1) (hk : k < N) (hw : Cond.fieldLink own index (T k).1 (T k).2.1 (T k).2.2.1 ∈ Ts) (hb : (pq_lyt ci)[k]? = some false) (ha : pq_ok G ci a) (hfin : (T k).2.2.2 = false) (hd : parseFieldDescriptor (T k).2.2.1 = some ty) (hn : narrow ty (.int v) = .int v) (hfit : fits ty (.int v) = true) (hdg : decode cc pc = .ok (.putfield index, 3)) (kk : pq_V p l e R s m args below meth c cells slots Q D y nL A (fun _ => True) G (pq_wi S a k v) (pc + 3) lo rest) : pq_V p l e R s m args below meth c cells slots Q D y nL A z G S pc lo (.int v :: .ref a :: rest) := by
  intro H locs ls hz hP hD hS hl
  obtain ⟨q0, h0⟩ := pq_at (y := y) (G := G) (S := S) ha.1
  have h1 := h0
  rw [pq_celO ha hc2] at h0
  refine va_put C.1.1 C.1.2.1 C.1.2.2.2.2 hin ty0 hty hnm C.1.2.2.2.1 C.2.1 hP hD hS q0 h0 hc k hk (C.1.2.2.2.2 _ hw) (fun _ h9 => h9) hfin hd hn hfit (by have := (List.getElem?_eq_some_iff.mp hb).1; simpa using this) hdg (fun H1 locs1 hP1 hD1 hS1 => ?_)
  have e1 : (pq_wl y G S).set q0 (a, .inr (ci, ((pq_lyt ci).mapIdx (pq_fv G S a)).set k (.int v))) = pq_wl y G (pq_wi S a k v) := by
    have e2 := va_pl_set (X := []) (e := (.inr (ci, ((pq_lyt ci).mapIdx (pq_fv G S a)).set k (.int v)) : va_E)) hD ha.1 h1
    refine (show (pq_wl y G S).set q0 _ = _ from e2).trans ?_
    refine (List.nil_append _).trans (pq_celWi ?_)
    rw [pq_celO ha hc2, pq_fvSet hb]
  rw [e1] at hP1 hD1
  exact kk H1 locs1 ls trivial hP1 hD1 hS1 hl
theorem pv_getiN (C : pq_C p s m args c D y own Ts cc nL) {ci : Nat} {Cn : String} {T : u_T} {N : Nat} {host : String} {index a : Nat} (k : Nat) (hin : ∀ w ∈ u_ws Cn T N, w ∈ Ts) (hc : vwCl[ci]? = some (Cn, T, N)) (hc2 : ci < 12) (hk : k < N) (hw : Cond.fieldLinkNest own index (T k).1 (T k).2.1 (T k).2.2.1 host ∈ pq_nw) (hb : (pq_lyt ci)[k]? = some false) (ha : pq_ok G ci a) (hdg : decode cc pc = .ok (.getfield index, 3)) (kk : pq_V p l e R s m args below meth c cells slots Q D y nL A z G S (pc + 3) lo (.int (S.1 a k) :: rest)) : pq_V p l e R s m args below meth c cells slots Q D y nL A z G S pc lo (.ref a :: rest) := by
  intro H locs ls hz hP hD hS hl
  obtain ⟨q0, h0⟩ := pq_at (y := y) (G := G) (S := S) ha.1
  rw [pq_celO ha hc2] at h0
  exact va_getN C.1.1 C.1.2.1 C.1.2.2.2.2 hin C.1.2.2.2.1 C.2.1 hP q0 h0 hc k hk (va_Nw.use (by rfl) (C.2.2.1 _ hw)) (fun _ h9 => h9) (pq_fvO hb) hdg (kk H locs ls hz hP hD hS hl)
theorem pv_getrN (C : pq_C p s m args c D y own Ts cc nL) {ci : Nat} {Cn : String} {T : u_T} {N : Nat} {host : String} {index a q : Nat} (k : Nat) (hin : ∀ w ∈ u_ws Cn T N, w ∈ Ts) (hc : vwCl[ci]? = some (Cn, T, N)) (hc2 : ci < 12) (hk : k < N) (hw : Cond.fieldLinkNest own index (T k).1 (T k).2.1 (T k).2.2.1 host ∈ pq_nw) (hb : (pq_lyt ci)[k]? = some true) (ha : pq_ok G ci a) (hq : G.2.2.1 a k = some q) (hdg : decode cc pc = .ok (.getfield index, 3)) (kk : pq_V p l e R s m args below meth c cells slots Q D y nL A z G S (pc + 3) lo (.ref q :: rest)) : pq_V p l e R s m args below meth c cells slots Q D y nL A z G S pc lo (.ref a :: rest) := by
  intro H locs ls hz hP hD hS hl
  obtain ⟨q0, h0⟩ := pq_at (y := y) (G := G) (S := S) ha.1
  rw [pq_celO ha hc2] at h0
  exact va_getN C.1.1 C.1.2.1 C.1.2.2.2.2 hin C.1.2.2.2.1 C.2.1 hP q0 h0 hc k hk (va_Nw.use (by rfl) (C.2.2.1 _ hw)) (fun _ h9 => h9) ((pq_fvO hb).trans (by simp [pq_fv, hq, va_rf])) hdg (kk H locs ls hz hP hD hS hl)
theorem pv_putN (C : pq_C p s m args c D y own Ts cc nL) {ci : Nat} {Cn : String} {T : u_T} {N : Nat} {host : String} {index a : Nat} {v : Int32} {ty : FieldType} (k : Nat) (hin : ∀ w ∈ u_ws Cn T N, w ∈ Ts) (hc : vwCl[ci]? = some (Cn, T, N)) (hc2 : ci < 12) (ty0 : Nat → FieldType) (hty : ∀ k, k < N → parseFieldDescriptor (T k).2.2.1 = some (ty0 k)) (hnm : ∀ a, a < N → ∀ b, b < N → a ≠ b → (T a).2.1 ≠ (T b).2.1) (hk : k < N) (hw : Cond.fieldLinkNest own index (T k).1 (T k).2.1 (T k).2.2.1 host ∈ pq_nw) (hb : (pq_lyt ci)[k]? = some false) (ha : pq_ok G ci a) (hfin : (T k).2.2.2 = false) (hd : parseFieldDescriptor (T k).2.2.1 = some ty) (hn : narrow ty (.int v) = .int v) (hfit : fits ty (.int v) = true) (hdg : decode cc pc = .ok (.putfield index, 3)) (kk : pq_V p l e R s m args below meth c cells slots Q D y nL A (fun _ => True) G (pq_wi S a k v) (pc + 3) lo rest) : pq_V p l e R s m args below meth c cells slots Q D y nL A z G S pc lo (.int v :: .ref a :: rest) := by
  intro H locs ls hz hP hD hS hl
  obtain ⟨q0, h0⟩ := pq_at (y := y) (G := G) (S := S) ha.1
  have h1 := h0
  rw [pq_celO ha hc2] at h0
  refine va_putN C.1.1 C.1.2.1 C.1.2.2.2.2 hin ty0 hty hnm C.1.2.2.2.1 C.2.1 hP hD hS q0 h0 hc k hk (va_Nw.use (by rfl) (C.2.2.1 _ hw)) (fun _ h9 => h9) hfin hd hn hfit (by have := (List.getElem?_eq_some_iff.mp hb).1; simpa using this) hdg (fun H1 locs1 hP1 hD1 hS1 => ?_)
  have e1 : (pq_wl y G S).set q0 (a, .inr (ci, ((pq_lyt ci).mapIdx (pq_fv G S a)).set k (.int v))) = pq_wl y G (pq_wi S a k v) := by
    have e2 := va_pl_set (X := []) (e := (.inr (ci, ((pq_lyt ci).mapIdx (pq_fv G S a)).set k (.int v)) : va_E)) hD ha.1 h1
    refine (show (pq_wl y G S).set q0 _ = _ from e2).trans ?_
    refine (List.nil_append _).trans (pq_celWi ?_)
    rw [pq_celO ha hc2, pq_fvSet hb]
  rw [e1] at hP1 hD1
  exact kk H1 locs1 ls trivial hP1 hD1 hS1 hl
theorem pv_alen13 (C : pq_C p s m args c D y own Ts cc nL) {a : Nat} (ha : pq_ok G 13 a) (hdg : decode cc pc = .ok (.arraylength, 1)) (kk : pq_V p l e R s m args below meth c cells slots Q D y nL A z G S (pc + 1) lo (.int (nI (pq_n G a)) :: rest)) : pq_V p l e R s m args below meth c cells slots Q D y nL A z G S pc lo (.ref a :: rest) := by
  intro H locs ls hz hP hD hS hl
  obtain ⟨q0, h0⟩ := pq_at (y := y) (G := G) (S := S) ha.1
  rw [pq_celJ ha] at h0
  exact va_alen C.1.1 C.1.2.1 C.2.1 hP q0 1 h0 rfl rfl hdg (kk H locs ls hz hP hD hS hl)
theorem pv_alen14 (C : pq_C p s m args c D y own Ts cc nL) {a : Nat} (ha : pq_ok G 14 a) (hdg : decode cc pc = .ok (.arraylength, 1)) (kk : pq_V p l e R s m args below meth c cells slots Q D y nL A z G S (pc + 1) lo (.int (nI (pq_n G a)) :: rest)) : pq_V p l e R s m args below meth c cells slots Q D y nL A z G S pc lo (.ref a :: rest) := by
  intro H locs ls hz hP hD hS hl
  obtain ⟨q0, h0⟩ := pq_at (y := y) (G := G) (S := S) ha.1
  rw [pq_celP ha] at h0
  exact va_alen C.1.1 C.1.2.1 C.2.1 hP q0 2 h0 rfl rfl hdg (kk H locs ls hz hP hD hS hl)
theorem pv_alen15 (C : pq_C p s m args c D y own Ts cc nL) {a : Nat} (ha : pq_ok G 15 a) (hdg : decode cc pc = .ok (.arraylength, 1)) (kk : pq_V p l e R s m args below meth c cells slots Q D y nL A z G S (pc + 1) lo (.int (nI (pq_n G a)) :: rest)) : pq_V p l e R s m args below meth c cells slots Q D y nL A z G S pc lo (.ref a :: rest) := by
  intro H locs ls hz hP hD hS hl
  obtain ⟨q0, h0⟩ := pq_at (y := y) (G := G) (S := S) ha.1
  rw [pq_celS ha] at h0
  exact va_alen C.1.1 C.1.2.1 C.2.1 hP q0 3 h0 rfl rfl hdg (kk H locs ls hz hP hD hS hl)
theorem pv_laload (C : pq_C p s m args c D y own Ts cc nL) {a : Nat} {i : Int32} (ha : pq_ok G 13 a) (hin : vp_in i (pq_n G a)) (hdg : decode cc pc = .ok (.laload, 1)) (kk : pq_V p l e R s m args below meth c cells slots Q D y nL A z G S (pc + 1) lo (.long (S.2 a i.toNatClampNeg) :: rest)) : pq_V p l e R s m args below meth c cells slots Q D y nL A z G S pc lo (.int i :: .ref a :: rest) := by
  intro H locs ls hz hP hD hS hl
  obtain ⟨q0, h0⟩ := pq_at (y := y) (G := G) (S := S) ha.1
  rw [pq_celJ ha] at h0
  exact va_lald C.1.1 C.1.2.1 C.2.1 hP q0 1 h0 rfl hin hdg (kk H locs ls hz hP hD hS hl)
theorem pv_aaload14 (C : pq_C p s m args c D y own Ts cc nL) {a q : Nat} {i : Int32} (ha : pq_ok G 14 a) (hin : vp_in i (pq_n G a)) (hq : G.2.2.1 a i.toNatClampNeg = some q) (hdg : decode cc pc = .ok (.aaload, 1)) (kk : pq_V p l e R s m args below meth c cells slots Q D y nL A z G S (pc + 1) lo (.ref q :: rest)) : pq_V p l e R s m args below meth c cells slots Q D y nL A z G S pc lo (.int i :: .ref a :: rest) := by
  intro H locs ls hz hP hD hS hl
  obtain ⟨q0, h0⟩ := pq_at (y := y) (G := G) (S := S) ha.1
  rw [pq_celP ha] at h0
  refine va_aldq C.1.1 C.1.2.1 C.2.1 hP q0 2 h0 rfl hin hdg ?_
  rw [hq]
  exact kk H locs ls hz hP hD hS hl
theorem pv_aaload15 (C : pq_C p s m args c D y own Ts cc nL) {a q : Nat} {i : Int32} (ha : pq_ok G 15 a) (hin : vp_in i (pq_n G a)) (hq : G.2.2.1 a i.toNatClampNeg = some q) (hdg : decode cc pc = .ok (.aaload, 1)) (kk : pq_V p l e R s m args below meth c cells slots Q D y nL A z G S (pc + 1) lo (.ref q :: rest)) : pq_V p l e R s m args below meth c cells slots Q D y nL A z G S pc lo (.int i :: .ref a :: rest) := by
  intro H locs ls hz hP hD hS hl
  obtain ⟨q0, h0⟩ := pq_at (y := y) (G := G) (S := S) ha.1
  rw [pq_celS ha] at h0
  refine va_aldq C.1.1 C.1.2.1 C.2.1 hP q0 3 h0 rfl hin hdg ?_
  rw [hq]
  exact kk H locs ls hz hP hD hS hl
theorem pv_lastore (C : pq_C p s m args c D y own Ts cc nL) {a : Nat} {i : Int32} {v : Int64} (ha : pq_ok G 13 a) (hin : vp_in i (pq_n G a)) (hdg : decode cc pc = .ok (.lastore, 1)) (kk : pq_V p l e R s m args below meth c cells slots Q D y nL A (fun _ => True) G (pq_wj S a i.toNatClampNeg v) (pc + 1) lo rest) : pq_V p l e R s m args below meth c cells slots Q D y nL A z G S pc lo (.long v :: .int i :: .ref a :: rest) := by
  intro H locs ls hz hP hD hS hl
  obtain ⟨q0, h0⟩ := pq_at (y := y) (G := G) (S := S) ha.1
  have h1 := h0
  rw [pq_celJ ha] at h0
  refine va_last C.1.1 C.1.2.1 C.2.1 hP hD hS q0 1 h0 rfl hin hdg (fun H1 locs1 hP1 hD1 hS1 => ?_)
  have e1 : (pq_wl y G S).set q0 (a, .inl (y.2.1, G.2.2.2 a, .inr (.inl (vp_updL (S.2 a) i.toNatClampNeg v)))) = pq_wl y G (pq_wj S a i.toNatClampNeg v) := by
    rw [pq_wj_wr]
    have e2 := va_pl_set (X := []) (e := (.inl (y.2.1, G.2.2.2 a, .inr (.inl (vp_updL (S.2 a) i.toNatClampNeg v))) : va_E)) hD ha.1 h1
    refine (show (pq_wl y G S).set q0 _ = _ from e2).trans ?_
    refine (List.nil_append _).trans (pq_celWj ?_)
    rw [pq_celJ ha]; simp [pq_wr]
  rw [e1] at hP1 hD1
  exact kk H1 locs1 ls trivial hP1 hD1 hS1 hl
theorem pv_acopy (C : pq_C p s m args c D y own Ts cc nL) {index a0 a : Nat} {sp dp n : Int32} (hlink : Cond.methodLink own index arraycopyName ∈ Ts) (hnat : Cond.native arraycopyName ∈ Ts) (hstat : Cond.static arraycopyName ∈ Ts) (hini : Cond.initialized "java/lang/System" ∈ Ts) (ha0 : pq_ok G 13 a0) (ha : pq_ok G 13 a) (h1 : ¬ sp < 0) (h2 : ¬ dp < 0) (h3 : ¬ n < 0) (h4 : sp.toNatClampNeg + n.toNatClampNeg ≤ pq_n G a0) (h5 : dp.toNatClampNeg + n.toNatClampNeg ≤ pq_n G a) (hfr : 1 ≤ R.frames) (hlo : (rest.map fun v => v.category).sum + (nativeFrameWords "java/lang/System" "arraycopy" 5 + 11) ≤ R.locals) (hdg : decode cc pc = .ok (.invokestatic index, 3)) (kk : pq_V p l e R s m args below meth c cells slots Q D y nL A (fun _ => True) G (pq_wr S a (va_cpy (S.2 a0) (S.2 a) sp.toNatClampNeg dp.toNatClampNeg n.toNatClampNeg)) (pc + 3) lo rest) : pq_V p l e R s m args below meth c cells slots Q D y nL A z G S pc lo (.int n :: .int dp :: .ref a :: .int sp :: .ref a0 :: rest) := by
  intro H locs ls hz hP hD hS hl
  obtain ⟨q0, h0⟩ := pq_at (y := y) (G := G) (S := S) ha0.1
  rw [pq_celJ ha0] at h0
  obtain ⟨q1, g0⟩ := pq_at (y := y) (G := G) (S := S) ha.1
  have g1 := g0
  rw [pq_celJ ha] at g0
  refine va_copyl C.1.1 C.1.2.1 (C.1.2.2.1.trans hl.1.symm) C.1.2.2.2.1 (C.1.2.2.2.2 _ hlink) (C.1.2.2.2.2 _ hnat) (C.1.2.2.2.2 _ hstat) (C.1.2.2.2.2 _ hini) C.2.1 hP hD hS q0 q1 1 1 h0 g0 rfl rfl rfl h1 h2 h3 h4 h5 (fun i _ => rfl) hfr hlo hdg (fun H1 locs1 hP1 hD1 hS1 => ?_)
  have e1 : (pq_wl y G S).set q1 (a, .inl (y.2.1, G.2.2.2 a, .inr (.inl (va_cpy (S.2 a0) (S.2 a) sp.toNatClampNeg dp.toNatClampNeg n.toNatClampNeg)))) = pq_wl y G (pq_wr S a (va_cpy (S.2 a0) (S.2 a) sp.toNatClampNeg dp.toNatClampNeg n.toNatClampNeg)) := by
    have e2 := va_pl_set (X := []) (e := (.inl (y.2.1, G.2.2.2 a, .inr (.inl (va_cpy (S.2 a0) (S.2 a) sp.toNatClampNeg dp.toNatClampNeg n.toNatClampNeg))) : va_E)) hD ha.1 g1
    refine (show (pq_wl y G S).set q1 _ = _ from e2).trans ?_
    refine (List.nil_append _).trans (pq_celWj ?_)
    rw [pq_celJ ha]; simp [pq_wr]
  rw [e1] at hP1 hD1
  exact kk H1 locs1 ls trivial hP1 hD1 hS1 hl
theorem pv_mmax (C : pq_C p s m args c D y own Ts cc nL) {index : Nat} {x w : Int32} (hlink : Cond.methodLink own index Lib.Math.max.name ∈ Ts) (hstat : Cond.static Lib.Math.max.name ∈ Ts) (hini : Cond.initialized "java/lang/Math" ∈ Ts) (hcode : Cond.code Lib.Math.max.name Lib.Math.max.code 2 (some .int) ∈ Ts) (hfr : 1 ≤ R.frames) (hlo : (rest.map fun v => v.category).sum + 13 ≤ R.locals) (hcc : cells ≤ R.cells) (hss : slots ≤ R.slots) (hdg : decode cc pc = .ok (.invokestatic index, 3)) (kk : pq_V p l e R s m args below meth c cells slots Q D y nL A z G S (pc + 3) lo (.int (if x < w then w else x) :: rest)) : pq_V p l e R s m args below meth c cells slots Q D y nL A z G S pc lo (.int w :: .int x :: rest) := fun H locs ls hz hP hD hS hl => va_mmax C.1.1 C.1.2.1 (C.1.2.2.1.trans hl.1.symm) C.1.2.2.2.1 (C.1.2.2.2.2 _ hlink) (C.1.2.2.2.2 _ hstat) (C.1.2.2.2.2 _ hini) (C.1.2.2.2.2 _ hcode) hfr hlo hcc hss hdg (kk H locs ls hz hP hD hS hl)
theorem pv_mmin (C : pq_C p s m args c D y own Ts cc nL) {index : Nat} {x w : Int32} (hlink : Cond.methodLink own index Lib.Math.min.name ∈ Ts) (hstat : Cond.static Lib.Math.min.name ∈ Ts) (hini : Cond.initialized "java/lang/Math" ∈ Ts) (hcode : Cond.code Lib.Math.min.name Lib.Math.min.code 2 (some .int) ∈ Ts) (hfr : 1 ≤ R.frames) (hlo : (rest.map fun v => v.category).sum + 13 ≤ R.locals) (hcc : cells ≤ R.cells) (hss : slots ≤ R.slots) (hdg : decode cc pc = .ok (.invokestatic index, 3)) (kk : pq_V p l e R s m args below meth c cells slots Q D y nL A z G S (pc + 3) lo (.int (if w < x then w else x) :: rest)) : pq_V p l e R s m args below meth c cells slots Q D y nL A z G S pc lo (.int w :: .int x :: rest) := fun H locs ls hz hP hD hS hl => va_mmin C.1.1 C.1.2.1 (C.1.2.2.1.trans hl.1.symm) C.1.2.2.2.1 (C.1.2.2.2.2 _ hlink) (C.1.2.2.2.2 _ hstat) (C.1.2.2.2.2 _ hini) (C.1.2.2.2.2 _ hcode) hfr hlo hcc hss hdg (kk H locs ls hz hP hD hS hl)
theorem pq_blind {G1 : pq_G} {S1 : pq_N} {sz : Nat} {av : List Value} : FrameBlind (pq_P D y G1 S1 sz av) := fun a U g mk q => by
  obtain ⟨q0, q1, qP, qK, qD, qT⟩ := q
  exact ⟨q0, q1, qP, va_K.moved (u := U) (U := U.calling g mk a) (Vm.Alike.refl U.vm) qK, qD, pq_Tb.same (s := U) (U := U.calling g mk a) rfl qT⟩
theorem pq_pre (C : pq_C p s m args c D y own Ts cc nL) {H : Heap} {av : List Value} (hP : va_P D vwCl (pq_wl y G S) H) (hD : va_D (pq_A G s.heap.size) (pq_wl y G S)) (U : State) (hU : U.heap = H) (hW : s.WarmedH U.vm) : pq_P D y G S H.size av av.toArray U :=
  ⟨rfl, by rw [hU], by rw [hU]; exact hP, va_K.moved hW.alike C.2.1, hD.weaken (fun _ _ _ _ => trivial), pq_Tb.warm hW C.2.2⟩
theorem pq_recv (C : pq_C p s m args c D y own Ts cc nL) {H : Heap} {ci b : Nat} {q : vw_C} (hP : va_P D vwCl (pq_wl y G S) H) (ha : pq_ok G ci b) (hc : vwCl[ci]? = some q) (hc2 : ci < 12) : ∃ cellB : Cell, H[b]? = some cellB ∧ cellB.vm.isStatics = false ∧ s.vm.findClass q.1 = some cellB.cls := by
  obtain ⟨q0, h0⟩ := pq_at (y := y) (G := G) (S := S) ha.1
  rw [pq_celO ha hc2] at h0
  exact va_recv C.2.1 hP hc h0
theorem pq_back (C : pq_C p s m args c D y own Ts cc nL) {S1 : pq_N} {H1 : Heap} {t : State} (hD : va_D (pq_A G s.heap.size) (pq_wl y G S)) (ht : t.heap = H1) (hB : pq_B D y G S1 t) : va_P D vwCl (pq_wl y G S1) H1 ∧ va_D (pq_A G s.heap.size) (pq_wl y G S1) := by
  obtain ⟨b1, b2, b3, b4⟩ := hB
  refine ⟨by rw [← ht]; exact b1, b3.1, fun k q hk => Or.inl ?_⟩
  obtain ⟨a, ha, e⟩ := List.mem_map.mp (List.mem_of_getElem? hk)
  rw [← e]; exact ha
/-- what a method answers, and the world behind it -/
abbrev pq_Qi (D : va_G) (y : pq_Y) (G : pq_G) (sz : Nat) (r : Int32) (S1 : pq_N) : Array Value → State → Outcome → State → Prop := va_Qi (fun r1 u => r1 = r ∧ u = S1) (fun u t => pq_B D y G u t) (pq_A G sz)
theorem pv_calliV (C : pq_C p s m args c D y own Ts cc nL) {yy : MethodName} {bytes : ByteArray} {maxL n index : Nat} {ret : Option FieldType} {ws : List Cond} {rm : Room}  {ci b : Nat} {Cn : String} {T : u_T} {N : Nat} (hcl : vwCl[ci]? = some (Cn, T, N)) (hc2 : ci < 12) (hb : pq_ok G ci b) (As : List Value) {r : Int32} {S1 : pq_N} (hM : ∀ sz, Met l yy ws rm (pq_P D y G S sz (.ref b :: As)) (pq_Qi D y G sz r S1) 0 0 (pq_A G sz)) (cw : CallW R s args own Cn index yy bytes maxL ret ws rm 0 0 n) (hn : As.length = n) {st0 : List Value} (hst : st0 = As.reverse ++ .ref b :: rest) (hW : (rest.map fun v => v.category).sum ≤ 8) (hdg : decode cc pc = .ok (.invokevirtual index, 3)) (hf : cells ≤ R.cells ∧ slots ≤ R.slots) (kk : pq_V p l e R s m args below meth c cells slots Q D y nL (pq_A G s.heap.size) (fun _ => True) G S1 (pc + 3) lo (.int r :: rest)) : pq_V p l e R s m args below meth c cells slots Q D y nL (pq_A G s.heap.size) z G S pc lo st0 := by
  intro H locs ls hz hP hD hS hl
  refine va_calli (va_runV (As := As) (rest := rest) C.1 (hM H.size) cw ⟨pq_blind, pq_recv C hP hb hcl hc2, fun U hU hW => pq_pre C hP hD U hU hW⟩ rfl hn hl.1 hst (lv_room hW) hdg hf) hS (fun q hq h => h.elim Or.inl (fun h => absurd hq (Nat.not_lt.mpr h))) (fun q h => h.elim Or.inl (fun h => Or.inr (Nat.le_trans hS.1 h))) (fun r1 u t H1 locs1 ht hvm hw hB hz1 hk1 hS1 => ?_)
  obtain ⟨rfl, rfl⟩ := hw
  obtain ⟨hP1, hD1⟩ := pq_back C hD ht hB
  exact kk H1 locs1 ls trivial hP1 hD1 hS1 hl
theorem pv_calliVN (C : pq_C p s m args c D y own Ts cc nL) {yy : MethodName} {bytes : ByteArray} {maxL n index : Nat} {ret : Option FieldType} {ws : List Cond} {rm : Room} {host : String} {ci b : Nat} {Cn : String} {T : u_T} {N : Nat} (hcl : vwCl[ci]? = some (Cn, T, N)) (hc2 : ci < 12) (hb : pq_ok G ci b) (As : List Value) {r : Int32} {S1 : pq_N} (hM : ∀ sz, Met l yy ws rm (pq_P D y G S sz (.ref b :: As)) (pq_Qi D y G sz r S1) 0 0 (pq_A G sz)) (cw : va_CN R s args own index yy host bytes maxL ret ws rm 0 0 n ∧ (Cond.instanceMethod yy).before args s = true ∧ (Cond.selects Cn yy yy).before args s = true) (hn : As.length = n) {st0 : List Value} (hst : st0 = As.reverse ++ .ref b :: rest) (hW : (rest.map fun v => v.category).sum ≤ 8) (hdg : decode cc pc = .ok (.invokevirtual index, 3)) (hf : cells ≤ R.cells ∧ slots ≤ R.slots) (kk : pq_V p l e R s m args below meth c cells slots Q D y nL (pq_A G s.heap.size) (fun _ => True) G S1 (pc + 3) lo (.int r :: rest)) : pq_V p l e R s m args below meth c cells slots Q D y nL (pq_A G s.heap.size) z G S pc lo st0 := by
  intro H locs ls hz hP hD hS hl
  refine va_calli (va_runVN (As := As) (rest := rest) C.1 (hM H.size) cw ⟨pq_blind, pq_recv C hP hb hcl hc2, fun U hU hW => pq_pre C hP hD U hU hW⟩ rfl hn hl.1 hst (lv_room hW) hdg hf) hS (fun q hq h => h.elim Or.inl (fun h => absurd hq (Nat.not_lt.mpr h))) (fun q h => h.elim Or.inl (fun h => Or.inr (Nat.le_trans hS.1 h))) (fun r1 u t H1 locs1 ht hvm hw hB hz1 hk1 hS1 => ?_)
  obtain ⟨rfl, rfl⟩ := hw
  obtain ⟨hP1, hD1⟩ := pq_back C hD ht hB
  exact kk H1 locs1 ls trivial hP1 hD1 hS1 hl
theorem pv_calliS (C : pq_C p s m args c D y own Ts cc nL) {yy : MethodName} {bytes : ByteArray} {maxL n index : Nat} {ret : Option FieldType} {ws : List Cond} {rm : Room}   (As : List Value) {r : Int32} {S1 : pq_N} (hM : ∀ sz, Met l yy ws rm (pq_P D y G S sz As) (pq_Qi D y G sz r S1) 0 0 (pq_A G sz)) (cw : CallB R s args own index yy bytes maxL ret ws rm 0 0 n ∧ (Cond.static yy).before args s = true) (hn : As.length = n) {st0 : List Value} (hst : st0 = As.reverse ++ rest) (hW : (rest.map fun v => v.category).sum ≤ 8) (hdg : decode cc pc = .ok (.invokestatic index, 3)) (hf : cells ≤ R.cells ∧ slots ≤ R.slots) (kk : pq_V p l e R s m args below meth c cells slots Q D y nL (pq_A G s.heap.size) (fun _ => True) G S1 (pc + 3) lo (.int r :: rest)) : pq_V p l e R s m args below meth c cells slots Q D y nL (pq_A G s.heap.size) z G S pc lo st0 := by
  intro H locs ls hz hP hD hS hl
  refine va_calli (va_runS (As := As) (rest := rest) C.1 (hM H.size) cw ⟨pq_blind, fun U hU hW => pq_pre C hP hD U hU hW⟩ rfl hn hl.1 hst (lv_room hW) hdg hf) hS (fun q hq h => h.elim Or.inl (fun h => absurd hq (Nat.not_lt.mpr h))) (fun q h => h.elim Or.inl (fun h => Or.inr (Nat.le_trans hS.1 h))) (fun r1 u t H1 locs1 ht hvm hw hB hz1 hk1 hS1 => ?_)
  obtain ⟨rfl, rfl⟩ := hw
  obtain ⟨hP1, hD1⟩ := pq_back C hD ht hB
  exact kk H1 locs1 ls trivial hP1 hD1 hS1 hl
theorem pv_calliSN (C : pq_C p s m args c D y own Ts cc nL) {yy : MethodName} {bytes : ByteArray} {maxL n index : Nat} {ret : Option FieldType} {ws : List Cond} {rm : Room} {host : String}  (As : List Value) {r : Int32} {S1 : pq_N} (hM : ∀ sz, Met l yy ws rm (pq_P D y G S sz As) (pq_Qi D y G sz r S1) 0 0 (pq_A G sz)) (cw : va_CN R s args own index yy host bytes maxL ret ws rm 0 0 n ∧ (Cond.static yy).before args s = true ∧ True) (hn : As.length = n) {st0 : List Value} (hst : st0 = As.reverse ++ rest) (hW : (rest.map fun v => v.category).sum ≤ 8) (hdg : decode cc pc = .ok (.invokestatic index, 3)) (hf : cells ≤ R.cells ∧ slots ≤ R.slots) (kk : pq_V p l e R s m args below meth c cells slots Q D y nL (pq_A G s.heap.size) (fun _ => True) G S1 (pc + 3) lo (.int r :: rest)) : pq_V p l e R s m args below meth c cells slots Q D y nL (pq_A G s.heap.size) z G S pc lo st0 := by
  intro H locs ls hz hP hD hS hl
  refine va_calli (va_runSN (As := As) (rest := rest) C.1 (hM H.size) cw ⟨pq_blind, fun U hU hW => pq_pre C hP hD U hU hW⟩ rfl hn hl.1 hst (lv_room hW) hdg hf) hS (fun q hq h => h.elim Or.inl (fun h => absurd hq (Nat.not_lt.mpr h))) (fun q h => h.elim Or.inl (fun h => Or.inr (Nat.le_trans hS.1 h))) (fun r1 u t H1 locs1 ht hvm hw hB hz1 hk1 hS1 => ?_)
  obtain ⟨rfl, rfl⟩ := hw
  obtain ⟨hP1, hD1⟩ := pq_back C hD ht hB
  exact kk H1 locs1 ls trivial hP1 hD1 hS1 hl
/-- what a method answers, and the world behind it -/
abbrev pq_Ql (D : va_G) (y : pq_Y) (G : pq_G) (sz : Nat) (r : Int64) (S1 : pq_N) : Array Value → State → Outcome → State → Prop := va_Ql (fun r1 u => r1 = r ∧ u = S1) (fun u t => pq_B D y G u t) (pq_A G sz)
theorem pv_calllV (C : pq_C p s m args c D y own Ts cc nL) {yy : MethodName} {bytes : ByteArray} {maxL n index : Nat} {ret : Option FieldType} {ws : List Cond} {rm : Room}  {ci b : Nat} {Cn : String} {T : u_T} {N : Nat} (hcl : vwCl[ci]? = some (Cn, T, N)) (hc2 : ci < 12) (hb : pq_ok G ci b) (As : List Value) {r : Int64} {S1 : pq_N} (hM : ∀ sz, Met l yy ws rm (pq_P D y G S sz (.ref b :: As)) (pq_Ql D y G sz r S1) 0 0 (pq_A G sz)) (cw : CallW R s args own Cn index yy bytes maxL ret ws rm 0 0 n) (hn : As.length = n) {st0 : List Value} (hst : st0 = As.reverse ++ .ref b :: rest) (hW : (rest.map fun v => v.category).sum ≤ 8) (hdg : decode cc pc = .ok (.invokevirtual index, 3)) (hf : cells ≤ R.cells ∧ slots ≤ R.slots) (kk : pq_V p l e R s m args below meth c cells slots Q D y nL (pq_A G s.heap.size) (fun _ => True) G S1 (pc + 3) lo (.long r :: rest)) : pq_V p l e R s m args below meth c cells slots Q D y nL (pq_A G s.heap.size) z G S pc lo st0 := by
  intro H locs ls hz hP hD hS hl
  refine va_calll (va_runV (As := As) (rest := rest) C.1 (hM H.size) cw ⟨pq_blind, pq_recv C hP hb hcl hc2, fun U hU hW => pq_pre C hP hD U hU hW⟩ rfl hn hl.1 hst (lv_room hW) hdg hf) hS (fun q hq h => h.elim Or.inl (fun h => absurd hq (Nat.not_lt.mpr h))) (fun q h => h.elim Or.inl (fun h => Or.inr (Nat.le_trans hS.1 h))) (fun r1 u t H1 locs1 ht hvm hw hB hz1 hk1 hS1 => ?_)
  obtain ⟨rfl, rfl⟩ := hw
  obtain ⟨hP1, hD1⟩ := pq_back C hD ht hB
  exact kk H1 locs1 ls trivial hP1 hD1 hS1 hl
theorem pv_calllVN (C : pq_C p s m args c D y own Ts cc nL) {yy : MethodName} {bytes : ByteArray} {maxL n index : Nat} {ret : Option FieldType} {ws : List Cond} {rm : Room} {host : String} {ci b : Nat} {Cn : String} {T : u_T} {N : Nat} (hcl : vwCl[ci]? = some (Cn, T, N)) (hc2 : ci < 12) (hb : pq_ok G ci b) (As : List Value) {r : Int64} {S1 : pq_N} (hM : ∀ sz, Met l yy ws rm (pq_P D y G S sz (.ref b :: As)) (pq_Ql D y G sz r S1) 0 0 (pq_A G sz)) (cw : va_CN R s args own index yy host bytes maxL ret ws rm 0 0 n ∧ (Cond.instanceMethod yy).before args s = true ∧ (Cond.selects Cn yy yy).before args s = true) (hn : As.length = n) {st0 : List Value} (hst : st0 = As.reverse ++ .ref b :: rest) (hW : (rest.map fun v => v.category).sum ≤ 8) (hdg : decode cc pc = .ok (.invokevirtual index, 3)) (hf : cells ≤ R.cells ∧ slots ≤ R.slots) (kk : pq_V p l e R s m args below meth c cells slots Q D y nL (pq_A G s.heap.size) (fun _ => True) G S1 (pc + 3) lo (.long r :: rest)) : pq_V p l e R s m args below meth c cells slots Q D y nL (pq_A G s.heap.size) z G S pc lo st0 := by
  intro H locs ls hz hP hD hS hl
  refine va_calll (va_runVN (As := As) (rest := rest) C.1 (hM H.size) cw ⟨pq_blind, pq_recv C hP hb hcl hc2, fun U hU hW => pq_pre C hP hD U hU hW⟩ rfl hn hl.1 hst (lv_room hW) hdg hf) hS (fun q hq h => h.elim Or.inl (fun h => absurd hq (Nat.not_lt.mpr h))) (fun q h => h.elim Or.inl (fun h => Or.inr (Nat.le_trans hS.1 h))) (fun r1 u t H1 locs1 ht hvm hw hB hz1 hk1 hS1 => ?_)
  obtain ⟨rfl, rfl⟩ := hw
  obtain ⟨hP1, hD1⟩ := pq_back C hD ht hB
  exact kk H1 locs1 ls trivial hP1 hD1 hS1 hl
theorem pv_calllS (C : pq_C p s m args c D y own Ts cc nL) {yy : MethodName} {bytes : ByteArray} {maxL n index : Nat} {ret : Option FieldType} {ws : List Cond} {rm : Room}   (As : List Value) {r : Int64} {S1 : pq_N} (hM : ∀ sz, Met l yy ws rm (pq_P D y G S sz As) (pq_Ql D y G sz r S1) 0 0 (pq_A G sz)) (cw : CallB R s args own index yy bytes maxL ret ws rm 0 0 n ∧ (Cond.static yy).before args s = true) (hn : As.length = n) {st0 : List Value} (hst : st0 = As.reverse ++ rest) (hW : (rest.map fun v => v.category).sum ≤ 8) (hdg : decode cc pc = .ok (.invokestatic index, 3)) (hf : cells ≤ R.cells ∧ slots ≤ R.slots) (kk : pq_V p l e R s m args below meth c cells slots Q D y nL (pq_A G s.heap.size) (fun _ => True) G S1 (pc + 3) lo (.long r :: rest)) : pq_V p l e R s m args below meth c cells slots Q D y nL (pq_A G s.heap.size) z G S pc lo st0 := by
  intro H locs ls hz hP hD hS hl
  refine va_calll (va_runS (As := As) (rest := rest) C.1 (hM H.size) cw ⟨pq_blind, fun U hU hW => pq_pre C hP hD U hU hW⟩ rfl hn hl.1 hst (lv_room hW) hdg hf) hS (fun q hq h => h.elim Or.inl (fun h => absurd hq (Nat.not_lt.mpr h))) (fun q h => h.elim Or.inl (fun h => Or.inr (Nat.le_trans hS.1 h))) (fun r1 u t H1 locs1 ht hvm hw hB hz1 hk1 hS1 => ?_)
  obtain ⟨rfl, rfl⟩ := hw
  obtain ⟨hP1, hD1⟩ := pq_back C hD ht hB
  exact kk H1 locs1 ls trivial hP1 hD1 hS1 hl
theorem pv_calllSN (C : pq_C p s m args c D y own Ts cc nL) {yy : MethodName} {bytes : ByteArray} {maxL n index : Nat} {ret : Option FieldType} {ws : List Cond} {rm : Room} {host : String}  (As : List Value) {r : Int64} {S1 : pq_N} (hM : ∀ sz, Met l yy ws rm (pq_P D y G S sz As) (pq_Ql D y G sz r S1) 0 0 (pq_A G sz)) (cw : va_CN R s args own index yy host bytes maxL ret ws rm 0 0 n ∧ (Cond.static yy).before args s = true ∧ True) (hn : As.length = n) {st0 : List Value} (hst : st0 = As.reverse ++ rest) (hW : (rest.map fun v => v.category).sum ≤ 8) (hdg : decode cc pc = .ok (.invokestatic index, 3)) (hf : cells ≤ R.cells ∧ slots ≤ R.slots) (kk : pq_V p l e R s m args below meth c cells slots Q D y nL (pq_A G s.heap.size) (fun _ => True) G S1 (pc + 3) lo (.long r :: rest)) : pq_V p l e R s m args below meth c cells slots Q D y nL (pq_A G s.heap.size) z G S pc lo st0 := by
  intro H locs ls hz hP hD hS hl
  refine va_calll (va_runSN (As := As) (rest := rest) C.1 (hM H.size) cw ⟨pq_blind, fun U hU hW => pq_pre C hP hD U hU hW⟩ rfl hn hl.1 hst (lv_room hW) hdg hf) hS (fun q hq h => h.elim Or.inl (fun h => absurd hq (Nat.not_lt.mpr h))) (fun q h => h.elim Or.inl (fun h => Or.inr (Nat.le_trans hS.1 h))) (fun r1 u t H1 locs1 ht hvm hw hB hz1 hk1 hS1 => ?_)
  obtain ⟨rfl, rfl⟩ := hw
  obtain ⟨hP1, hD1⟩ := pq_back C hD ht hB
  exact kk H1 locs1 ls trivial hP1 hD1 hS1 hl
/-- what a method answers, and the world behind it -/
abbrev pq_Qd (D : va_G) (y : pq_Y) (G : pq_G) (sz : Nat) (r : UInt64) (S1 : pq_N) : Array Value → State → Outcome → State → Prop := va_Qd (fun r1 u => r1 = r ∧ u = S1) (fun u t => pq_B D y G u t) (pq_A G sz)
theorem pv_calldV (C : pq_C p s m args c D y own Ts cc nL) {yy : MethodName} {bytes : ByteArray} {maxL n index : Nat} {ret : Option FieldType} {ws : List Cond} {rm : Room}  {ci b : Nat} {Cn : String} {T : u_T} {N : Nat} (hcl : vwCl[ci]? = some (Cn, T, N)) (hc2 : ci < 12) (hb : pq_ok G ci b) (As : List Value) {r : UInt64} {S1 : pq_N} (hM : ∀ sz, Met l yy ws rm (pq_P D y G S sz (.ref b :: As)) (pq_Qd D y G sz r S1) 0 0 (pq_A G sz)) (cw : CallW R s args own Cn index yy bytes maxL ret ws rm 0 0 n) (hn : As.length = n) {st0 : List Value} (hst : st0 = As.reverse ++ .ref b :: rest) (hW : (rest.map fun v => v.category).sum ≤ 8) (hdg : decode cc pc = .ok (.invokevirtual index, 3)) (hf : cells ≤ R.cells ∧ slots ≤ R.slots) (kk : pq_V p l e R s m args below meth c cells slots Q D y nL (pq_A G s.heap.size) (fun _ => True) G S1 (pc + 3) lo (.double r :: rest)) : pq_V p l e R s m args below meth c cells slots Q D y nL (pq_A G s.heap.size) z G S pc lo st0 := by
  intro H locs ls hz hP hD hS hl
  refine va_calld (va_runV (As := As) (rest := rest) C.1 (hM H.size) cw ⟨pq_blind, pq_recv C hP hb hcl hc2, fun U hU hW => pq_pre C hP hD U hU hW⟩ rfl hn hl.1 hst (lv_room hW) hdg hf) hS (fun q hq h => h.elim Or.inl (fun h => absurd hq (Nat.not_lt.mpr h))) (fun q h => h.elim Or.inl (fun h => Or.inr (Nat.le_trans hS.1 h))) (fun r1 u t H1 locs1 ht hvm hw hB hz1 hk1 hS1 => ?_)
  obtain ⟨rfl, rfl⟩ := hw
  obtain ⟨hP1, hD1⟩ := pq_back C hD ht hB
  exact kk H1 locs1 ls trivial hP1 hD1 hS1 hl
theorem pv_calldVN (C : pq_C p s m args c D y own Ts cc nL) {yy : MethodName} {bytes : ByteArray} {maxL n index : Nat} {ret : Option FieldType} {ws : List Cond} {rm : Room} {host : String} {ci b : Nat} {Cn : String} {T : u_T} {N : Nat} (hcl : vwCl[ci]? = some (Cn, T, N)) (hc2 : ci < 12) (hb : pq_ok G ci b) (As : List Value) {r : UInt64} {S1 : pq_N} (hM : ∀ sz, Met l yy ws rm (pq_P D y G S sz (.ref b :: As)) (pq_Qd D y G sz r S1) 0 0 (pq_A G sz)) (cw : va_CN R s args own index yy host bytes maxL ret ws rm 0 0 n ∧ (Cond.instanceMethod yy).before args s = true ∧ (Cond.selects Cn yy yy).before args s = true) (hn : As.length = n) {st0 : List Value} (hst : st0 = As.reverse ++ .ref b :: rest) (hW : (rest.map fun v => v.category).sum ≤ 8) (hdg : decode cc pc = .ok (.invokevirtual index, 3)) (hf : cells ≤ R.cells ∧ slots ≤ R.slots) (kk : pq_V p l e R s m args below meth c cells slots Q D y nL (pq_A G s.heap.size) (fun _ => True) G S1 (pc + 3) lo (.double r :: rest)) : pq_V p l e R s m args below meth c cells slots Q D y nL (pq_A G s.heap.size) z G S pc lo st0 := by
  intro H locs ls hz hP hD hS hl
  refine va_calld (va_runVN (As := As) (rest := rest) C.1 (hM H.size) cw ⟨pq_blind, pq_recv C hP hb hcl hc2, fun U hU hW => pq_pre C hP hD U hU hW⟩ rfl hn hl.1 hst (lv_room hW) hdg hf) hS (fun q hq h => h.elim Or.inl (fun h => absurd hq (Nat.not_lt.mpr h))) (fun q h => h.elim Or.inl (fun h => Or.inr (Nat.le_trans hS.1 h))) (fun r1 u t H1 locs1 ht hvm hw hB hz1 hk1 hS1 => ?_)
  obtain ⟨rfl, rfl⟩ := hw
  obtain ⟨hP1, hD1⟩ := pq_back C hD ht hB
  exact kk H1 locs1 ls trivial hP1 hD1 hS1 hl
theorem pv_calldS (C : pq_C p s m args c D y own Ts cc nL) {yy : MethodName} {bytes : ByteArray} {maxL n index : Nat} {ret : Option FieldType} {ws : List Cond} {rm : Room}   (As : List Value) {r : UInt64} {S1 : pq_N} (hM : ∀ sz, Met l yy ws rm (pq_P D y G S sz As) (pq_Qd D y G sz r S1) 0 0 (pq_A G sz)) (cw : CallB R s args own index yy bytes maxL ret ws rm 0 0 n ∧ (Cond.static yy).before args s = true) (hn : As.length = n) {st0 : List Value} (hst : st0 = As.reverse ++ rest) (hW : (rest.map fun v => v.category).sum ≤ 8) (hdg : decode cc pc = .ok (.invokestatic index, 3)) (hf : cells ≤ R.cells ∧ slots ≤ R.slots) (kk : pq_V p l e R s m args below meth c cells slots Q D y nL (pq_A G s.heap.size) (fun _ => True) G S1 (pc + 3) lo (.double r :: rest)) : pq_V p l e R s m args below meth c cells slots Q D y nL (pq_A G s.heap.size) z G S pc lo st0 := by
  intro H locs ls hz hP hD hS hl
  refine va_calld (va_runS (As := As) (rest := rest) C.1 (hM H.size) cw ⟨pq_blind, fun U hU hW => pq_pre C hP hD U hU hW⟩ rfl hn hl.1 hst (lv_room hW) hdg hf) hS (fun q hq h => h.elim Or.inl (fun h => absurd hq (Nat.not_lt.mpr h))) (fun q h => h.elim Or.inl (fun h => Or.inr (Nat.le_trans hS.1 h))) (fun r1 u t H1 locs1 ht hvm hw hB hz1 hk1 hS1 => ?_)
  obtain ⟨rfl, rfl⟩ := hw
  obtain ⟨hP1, hD1⟩ := pq_back C hD ht hB
  exact kk H1 locs1 ls trivial hP1 hD1 hS1 hl
theorem pv_calldSN (C : pq_C p s m args c D y own Ts cc nL) {yy : MethodName} {bytes : ByteArray} {maxL n index : Nat} {ret : Option FieldType} {ws : List Cond} {rm : Room} {host : String}  (As : List Value) {r : UInt64} {S1 : pq_N} (hM : ∀ sz, Met l yy ws rm (pq_P D y G S sz As) (pq_Qd D y G sz r S1) 0 0 (pq_A G sz)) (cw : va_CN R s args own index yy host bytes maxL ret ws rm 0 0 n ∧ (Cond.static yy).before args s = true ∧ True) (hn : As.length = n) {st0 : List Value} (hst : st0 = As.reverse ++ rest) (hW : (rest.map fun v => v.category).sum ≤ 8) (hdg : decode cc pc = .ok (.invokestatic index, 3)) (hf : cells ≤ R.cells ∧ slots ≤ R.slots) (kk : pq_V p l e R s m args below meth c cells slots Q D y nL (pq_A G s.heap.size) (fun _ => True) G S1 (pc + 3) lo (.double r :: rest)) : pq_V p l e R s m args below meth c cells slots Q D y nL (pq_A G s.heap.size) z G S pc lo st0 := by
  intro H locs ls hz hP hD hS hl
  refine va_calld (va_runSN (As := As) (rest := rest) C.1 (hM H.size) cw ⟨pq_blind, fun U hU hW => pq_pre C hP hD U hU hW⟩ rfl hn hl.1 hst (lv_room hW) hdg hf) hS (fun q hq h => h.elim Or.inl (fun h => absurd hq (Nat.not_lt.mpr h))) (fun q h => h.elim Or.inl (fun h => Or.inr (Nat.le_trans hS.1 h))) (fun r1 u t H1 locs1 ht hvm hw hB hz1 hk1 hS1 => ?_)
  obtain ⟨rfl, rfl⟩ := hw
  obtain ⟨hP1, hD1⟩ := pq_back C hD ht hB
  exact kk H1 locs1 ls trivial hP1 hD1 hS1 hl
/-- what a method answers, and the world behind it -/
abbrev pq_Qv (D : va_G) (y : pq_Y) (G : pq_G) (sz : Nat)  (S1 : pq_N) : Array Value → State → Outcome → State → Prop := va_Qv (fun u => u = S1) (fun u t => pq_B D y G u t) (pq_A G sz)
theorem pv_callvV (C : pq_C p s m args c D y own Ts cc nL) {yy : MethodName} {bytes : ByteArray} {maxL n index : Nat} {ret : Option FieldType} {ws : List Cond} {rm : Room}  {ci b : Nat} {Cn : String} {T : u_T} {N : Nat} (hcl : vwCl[ci]? = some (Cn, T, N)) (hc2 : ci < 12) (hb : pq_ok G ci b) (As : List Value)  {S1 : pq_N} (hM : ∀ sz, Met l yy ws rm (pq_P D y G S sz (.ref b :: As)) (pq_Qv D y G sz S1) 0 0 (pq_A G sz)) (cw : CallW R s args own Cn index yy bytes maxL ret ws rm 0 0 n) (hn : As.length = n) {st0 : List Value} (hst : st0 = As.reverse ++ .ref b :: rest) (hW : (rest.map fun v => v.category).sum ≤ 8) (hdg : decode cc pc = .ok (.invokevirtual index, 3)) (hf : cells ≤ R.cells ∧ slots ≤ R.slots) (kk : pq_V p l e R s m args below meth c cells slots Q D y nL (pq_A G s.heap.size) (fun _ => True) G S1 (pc + 3) lo (rest)) : pq_V p l e R s m args below meth c cells slots Q D y nL (pq_A G s.heap.size) z G S pc lo st0 := by
  intro H locs ls hz hP hD hS hl
  refine va_callv (va_runV (As := As) (rest := rest) C.1 (hM H.size) cw ⟨pq_blind, pq_recv C hP hb hcl hc2, fun U hU hW => pq_pre C hP hD U hU hW⟩ rfl hn hl.1 hst (lv_room hW) hdg hf) hS (fun q hq h => h.elim Or.inl (fun h => absurd hq (Nat.not_lt.mpr h))) (fun q h => h.elim Or.inl (fun h => Or.inr (Nat.le_trans hS.1 h))) (fun u t H1 locs1 ht hvm hw hB hz1 hk1 hS1 => ?_)
  subst hw
  obtain ⟨hP1, hD1⟩ := pq_back C hD ht hB
  exact kk H1 locs1 ls trivial hP1 hD1 hS1 hl
theorem pv_callvVN (C : pq_C p s m args c D y own Ts cc nL) {yy : MethodName} {bytes : ByteArray} {maxL n index : Nat} {ret : Option FieldType} {ws : List Cond} {rm : Room} {host : String} {ci b : Nat} {Cn : String} {T : u_T} {N : Nat} (hcl : vwCl[ci]? = some (Cn, T, N)) (hc2 : ci < 12) (hb : pq_ok G ci b) (As : List Value)  {S1 : pq_N} (hM : ∀ sz, Met l yy ws rm (pq_P D y G S sz (.ref b :: As)) (pq_Qv D y G sz S1) 0 0 (pq_A G sz)) (cw : va_CN R s args own index yy host bytes maxL ret ws rm 0 0 n ∧ (Cond.instanceMethod yy).before args s = true ∧ (Cond.selects Cn yy yy).before args s = true) (hn : As.length = n) {st0 : List Value} (hst : st0 = As.reverse ++ .ref b :: rest) (hW : (rest.map fun v => v.category).sum ≤ 8) (hdg : decode cc pc = .ok (.invokevirtual index, 3)) (hf : cells ≤ R.cells ∧ slots ≤ R.slots) (kk : pq_V p l e R s m args below meth c cells slots Q D y nL (pq_A G s.heap.size) (fun _ => True) G S1 (pc + 3) lo (rest)) : pq_V p l e R s m args below meth c cells slots Q D y nL (pq_A G s.heap.size) z G S pc lo st0 := by
  intro H locs ls hz hP hD hS hl
  refine va_callv (va_runVN (As := As) (rest := rest) C.1 (hM H.size) cw ⟨pq_blind, pq_recv C hP hb hcl hc2, fun U hU hW => pq_pre C hP hD U hU hW⟩ rfl hn hl.1 hst (lv_room hW) hdg hf) hS (fun q hq h => h.elim Or.inl (fun h => absurd hq (Nat.not_lt.mpr h))) (fun q h => h.elim Or.inl (fun h => Or.inr (Nat.le_trans hS.1 h))) (fun u t H1 locs1 ht hvm hw hB hz1 hk1 hS1 => ?_)
  subst hw
  obtain ⟨hP1, hD1⟩ := pq_back C hD ht hB
  exact kk H1 locs1 ls trivial hP1 hD1 hS1 hl
theorem pv_callvS (C : pq_C p s m args c D y own Ts cc nL) {yy : MethodName} {bytes : ByteArray} {maxL n index : Nat} {ret : Option FieldType} {ws : List Cond} {rm : Room}   (As : List Value)  {S1 : pq_N} (hM : ∀ sz, Met l yy ws rm (pq_P D y G S sz As) (pq_Qv D y G sz S1) 0 0 (pq_A G sz)) (cw : CallB R s args own index yy bytes maxL ret ws rm 0 0 n ∧ (Cond.static yy).before args s = true) (hn : As.length = n) {st0 : List Value} (hst : st0 = As.reverse ++ rest) (hW : (rest.map fun v => v.category).sum ≤ 8) (hdg : decode cc pc = .ok (.invokestatic index, 3)) (hf : cells ≤ R.cells ∧ slots ≤ R.slots) (kk : pq_V p l e R s m args below meth c cells slots Q D y nL (pq_A G s.heap.size) (fun _ => True) G S1 (pc + 3) lo (rest)) : pq_V p l e R s m args below meth c cells slots Q D y nL (pq_A G s.heap.size) z G S pc lo st0 := by
  intro H locs ls hz hP hD hS hl
  refine va_callv (va_runS (As := As) (rest := rest) C.1 (hM H.size) cw ⟨pq_blind, fun U hU hW => pq_pre C hP hD U hU hW⟩ rfl hn hl.1 hst (lv_room hW) hdg hf) hS (fun q hq h => h.elim Or.inl (fun h => absurd hq (Nat.not_lt.mpr h))) (fun q h => h.elim Or.inl (fun h => Or.inr (Nat.le_trans hS.1 h))) (fun u t H1 locs1 ht hvm hw hB hz1 hk1 hS1 => ?_)
  subst hw
  obtain ⟨hP1, hD1⟩ := pq_back C hD ht hB
  exact kk H1 locs1 ls trivial hP1 hD1 hS1 hl
theorem pv_callvSN (C : pq_C p s m args c D y own Ts cc nL) {yy : MethodName} {bytes : ByteArray} {maxL n index : Nat} {ret : Option FieldType} {ws : List Cond} {rm : Room} {host : String}  (As : List Value)  {S1 : pq_N} (hM : ∀ sz, Met l yy ws rm (pq_P D y G S sz As) (pq_Qv D y G sz S1) 0 0 (pq_A G sz)) (cw : va_CN R s args own index yy host bytes maxL ret ws rm 0 0 n ∧ (Cond.static yy).before args s = true ∧ True) (hn : As.length = n) {st0 : List Value} (hst : st0 = As.reverse ++ rest) (hW : (rest.map fun v => v.category).sum ≤ 8) (hdg : decode cc pc = .ok (.invokestatic index, 3)) (hf : cells ≤ R.cells ∧ slots ≤ R.slots) (kk : pq_V p l e R s m args below meth c cells slots Q D y nL (pq_A G s.heap.size) (fun _ => True) G S1 (pc + 3) lo (rest)) : pq_V p l e R s m args below meth c cells slots Q D y nL (pq_A G s.heap.size) z G S pc lo st0 := by
  intro H locs ls hz hP hD hS hl
  refine va_callv (va_runSN (As := As) (rest := rest) C.1 (hM H.size) cw ⟨pq_blind, fun U hU hW => pq_pre C hP hD U hU hW⟩ rfl hn hl.1 hst (lv_room hW) hdg hf) hS (fun q hq h => h.elim Or.inl (fun h => absurd hq (Nat.not_lt.mpr h))) (fun q h => h.elim Or.inl (fun h => Or.inr (Nat.le_trans hS.1 h))) (fun u t H1 locs1 ht hvm hw hB hz1 hk1 hS1 => ?_)
  subst hw
  obtain ⟨hP1, hD1⟩ := pq_back C hD ht hB
  exact kk H1 locs1 ls trivial hP1 hD1 hS1 hl
/-- what a method answers, and the world behind it -/
abbrev pq_Qr (D : va_G) (y : pq_Y) (G : pq_G) (sz : Nat) (r : Nat) (S1 : pq_N) : Array Value → State → Outcome → State → Prop := va_Qr (fun u => u = (r, S1)) (fun u a t => a = u.1 ∧ pq_B D y G u.2 t) (pq_A G sz)
theorem pv_callrV (C : pq_C p s m args c D y own Ts cc nL) {yy : MethodName} {bytes : ByteArray} {maxL n index : Nat} {ret : Option FieldType} {ws : List Cond} {rm : Room}  {ci b : Nat} {Cn : String} {T : u_T} {N : Nat} (hcl : vwCl[ci]? = some (Cn, T, N)) (hc2 : ci < 12) (hb : pq_ok G ci b) (As : List Value) {r : Nat} {S1 : pq_N} (hM : ∀ sz, Met l yy ws rm (pq_P D y G S sz (.ref b :: As)) (pq_Qr D y G sz r S1) 0 0 (pq_A G sz)) (cw : CallW R s args own Cn index yy bytes maxL ret ws rm 0 0 n) (hn : As.length = n) {st0 : List Value} (hst : st0 = As.reverse ++ .ref b :: rest) (hW : (rest.map fun v => v.category).sum ≤ 8) (hdg : decode cc pc = .ok (.invokevirtual index, 3)) (hf : cells ≤ R.cells ∧ slots ≤ R.slots) (kk : pq_V p l e R s m args below meth c cells slots Q D y nL (pq_A G s.heap.size) (fun _ => True) G S1 (pc + 3) lo (.ref r :: rest)) : pq_V p l e R s m args below meth c cells slots Q D y nL (pq_A G s.heap.size) z G S pc lo st0 := by
  intro H locs ls hz hP hD hS hl
  refine va_callr (va_runV (As := As) (rest := rest) C.1 (hM H.size) cw ⟨pq_blind, pq_recv C hP hb hcl hc2, fun U hU hW => pq_pre C hP hD U hU hW⟩ rfl hn hl.1 hst (lv_room hW) hdg hf) hS (fun q hq h => h.elim Or.inl (fun h => absurd hq (Nat.not_lt.mpr h))) (fun q h => h.elim Or.inl (fun h => Or.inr (Nat.le_trans hS.1 h))) (fun u ra t H1 locs1 ht hvm hw hB hz1 hk1 hS1 => ?_)
  subst hw; obtain ⟨hra, hB⟩ := hB; subst hra
  obtain ⟨hP1, hD1⟩ := pq_back C hD ht hB
  exact kk H1 locs1 ls trivial hP1 hD1 hS1 hl
theorem pv_callrVN (C : pq_C p s m args c D y own Ts cc nL) {yy : MethodName} {bytes : ByteArray} {maxL n index : Nat} {ret : Option FieldType} {ws : List Cond} {rm : Room} {host : String} {ci b : Nat} {Cn : String} {T : u_T} {N : Nat} (hcl : vwCl[ci]? = some (Cn, T, N)) (hc2 : ci < 12) (hb : pq_ok G ci b) (As : List Value) {r : Nat} {S1 : pq_N} (hM : ∀ sz, Met l yy ws rm (pq_P D y G S sz (.ref b :: As)) (pq_Qr D y G sz r S1) 0 0 (pq_A G sz)) (cw : va_CN R s args own index yy host bytes maxL ret ws rm 0 0 n ∧ (Cond.instanceMethod yy).before args s = true ∧ (Cond.selects Cn yy yy).before args s = true) (hn : As.length = n) {st0 : List Value} (hst : st0 = As.reverse ++ .ref b :: rest) (hW : (rest.map fun v => v.category).sum ≤ 8) (hdg : decode cc pc = .ok (.invokevirtual index, 3)) (hf : cells ≤ R.cells ∧ slots ≤ R.slots) (kk : pq_V p l e R s m args below meth c cells slots Q D y nL (pq_A G s.heap.size) (fun _ => True) G S1 (pc + 3) lo (.ref r :: rest)) : pq_V p l e R s m args below meth c cells slots Q D y nL (pq_A G s.heap.size) z G S pc lo st0 := by
  intro H locs ls hz hP hD hS hl
  refine va_callr (va_runVN (As := As) (rest := rest) C.1 (hM H.size) cw ⟨pq_blind, pq_recv C hP hb hcl hc2, fun U hU hW => pq_pre C hP hD U hU hW⟩ rfl hn hl.1 hst (lv_room hW) hdg hf) hS (fun q hq h => h.elim Or.inl (fun h => absurd hq (Nat.not_lt.mpr h))) (fun q h => h.elim Or.inl (fun h => Or.inr (Nat.le_trans hS.1 h))) (fun u ra t H1 locs1 ht hvm hw hB hz1 hk1 hS1 => ?_)
  subst hw; obtain ⟨hra, hB⟩ := hB; subst hra
  obtain ⟨hP1, hD1⟩ := pq_back C hD ht hB
  exact kk H1 locs1 ls trivial hP1 hD1 hS1 hl
theorem pv_callrS (C : pq_C p s m args c D y own Ts cc nL) {yy : MethodName} {bytes : ByteArray} {maxL n index : Nat} {ret : Option FieldType} {ws : List Cond} {rm : Room}   (As : List Value) {r : Nat} {S1 : pq_N} (hM : ∀ sz, Met l yy ws rm (pq_P D y G S sz As) (pq_Qr D y G sz r S1) 0 0 (pq_A G sz)) (cw : CallB R s args own index yy bytes maxL ret ws rm 0 0 n ∧ (Cond.static yy).before args s = true) (hn : As.length = n) {st0 : List Value} (hst : st0 = As.reverse ++ rest) (hW : (rest.map fun v => v.category).sum ≤ 8) (hdg : decode cc pc = .ok (.invokestatic index, 3)) (hf : cells ≤ R.cells ∧ slots ≤ R.slots) (kk : pq_V p l e R s m args below meth c cells slots Q D y nL (pq_A G s.heap.size) (fun _ => True) G S1 (pc + 3) lo (.ref r :: rest)) : pq_V p l e R s m args below meth c cells slots Q D y nL (pq_A G s.heap.size) z G S pc lo st0 := by
  intro H locs ls hz hP hD hS hl
  refine va_callr (va_runS (As := As) (rest := rest) C.1 (hM H.size) cw ⟨pq_blind, fun U hU hW => pq_pre C hP hD U hU hW⟩ rfl hn hl.1 hst (lv_room hW) hdg hf) hS (fun q hq h => h.elim Or.inl (fun h => absurd hq (Nat.not_lt.mpr h))) (fun q h => h.elim Or.inl (fun h => Or.inr (Nat.le_trans hS.1 h))) (fun u ra t H1 locs1 ht hvm hw hB hz1 hk1 hS1 => ?_)
  subst hw; obtain ⟨hra, hB⟩ := hB; subst hra
  obtain ⟨hP1, hD1⟩ := pq_back C hD ht hB
  exact kk H1 locs1 ls trivial hP1 hD1 hS1 hl
theorem pv_callrSN (C : pq_C p s m args c D y own Ts cc nL) {yy : MethodName} {bytes : ByteArray} {maxL n index : Nat} {ret : Option FieldType} {ws : List Cond} {rm : Room} {host : String}  (As : List Value) {r : Nat} {S1 : pq_N} (hM : ∀ sz, Met l yy ws rm (pq_P D y G S sz As) (pq_Qr D y G sz r S1) 0 0 (pq_A G sz)) (cw : va_CN R s args own index yy host bytes maxL ret ws rm 0 0 n ∧ (Cond.static yy).before args s = true ∧ True) (hn : As.length = n) {st0 : List Value} (hst : st0 = As.reverse ++ rest) (hW : (rest.map fun v => v.category).sum ≤ 8) (hdg : decode cc pc = .ok (.invokestatic index, 3)) (hf : cells ≤ R.cells ∧ slots ≤ R.slots) (kk : pq_V p l e R s m args below meth c cells slots Q D y nL (pq_A G s.heap.size) (fun _ => True) G S1 (pc + 3) lo (.ref r :: rest)) : pq_V p l e R s m args below meth c cells slots Q D y nL (pq_A G s.heap.size) z G S pc lo st0 := by
  intro H locs ls hz hP hD hS hl
  refine va_callr (va_runSN (As := As) (rest := rest) C.1 (hM H.size) cw ⟨pq_blind, fun U hU hW => pq_pre C hP hD U hU hW⟩ rfl hn hl.1 hst (lv_room hW) hdg hf) hS (fun q hq h => h.elim Or.inl (fun h => absurd hq (Nat.not_lt.mpr h))) (fun q h => h.elim Or.inl (fun h => Or.inr (Nat.le_trans hS.1 h))) (fun u ra t H1 locs1 ht hvm hw hB hz1 hk1 hS1 => ?_)
  subst hw; obtain ⟨hra, hB⟩ := hB; subst hra
  obtain ⟨hP1, hD1⟩ := pq_back C hD ht hB
  exact kk H1 locs1 ls trivial hP1 hD1 hS1 hl
theorem pq_end (C : pq_C p s m args c D y own Ts cc nL) {H : Heap} {locs : List Loc} {t : State} (hP : va_P D vwCl (pq_wl y G S) H) (hD : va_D (pq_A G s.heap.size) (pq_wl y G S)) (hS : va_S (pq_A G s.heap.size) s.heap H locs) (ht : t.heap = H) (hW : s.WarmedH t.vm) : pq_B D y G S t ∧ va_F (pq_A G s.heap.size) s t :=
  ⟨⟨by rw [ht]; exact hP, va_K.moved hW.alike C.2.1, hD.weaken (fun _ _ _ _ => trivial), pq_Tb.warm hW C.2.2⟩, hS.F ht⟩
theorem pv_iret (C : pq_C p s m args c D y own Ts cc nL) {v r : Int32} {S1 : pq_N} (hr : meth.sig.returnType = some .int) (hlk : meth.locks = false) (h : some (v, S) = some (r, S1)) (hdg : decode cc pc = .ok (.ireturn, 1)) : pq_V p l e R s m args below meth c cells slots (MQ below (pq_Qi D y G s.heap.size r S1) args s cells slots (pq_A G s.heap.size)) D y nL (pq_A G s.heap.size) (fun _ => True) G S pc lo [.int v] := by
  cases h
  exact fun H locs ls hz hP hD hS hl => W.iret C.1.1 C.1.2.1 hr (fun t ht hW => ⟨⟨v, S, rfl, ⟨rfl, rfl⟩, (pq_end C hP hD hS ht hW).1⟩, (pq_end C hP hD hS ht hW).2⟩) hS.2.2 hdg hlk
theorem pv_zret (C : pq_C p s m args c D y own Ts cc nL) {v r : Int32} {S1 : pq_N} {ty : FieldType} (hr : meth.sig.returnType = some ty) (hn : narrow ty (.int v) = .int v) (hlk : meth.locks = false) (h : some (v, S) = some (r, S1)) (hdg : decode cc pc = .ok (.ireturn, 1)) : pq_V p l e R s m args below meth c cells slots (MQ below (pq_Qi D y G s.heap.size r S1) args s cells slots (pq_A G s.heap.size)) D y nL (pq_A G s.heap.size) (fun _ => True) G S pc lo [.int v] := by
  cases h
  exact fun H locs ls hz hP hD hS hl => W.zret C.1.1 C.1.2.1 hr hn (fun t ht hW => ⟨⟨v, S, rfl, ⟨rfl, rfl⟩, (pq_end C hP hD hS ht hW).1⟩, (pq_end C hP hD hS ht hW).2⟩) hS.2.2 hdg hlk
theorem pv_lret (C : pq_C p s m args c D y own Ts cc nL) {v r : Int64} {S1 : pq_N} (hr : meth.sig.returnType = some .long) (hlk : meth.locks = false) (h : some (v, S) = some (r, S1)) (hdg : decode cc pc = .ok (.lreturn, 1)) : pq_V p l e R s m args below meth c cells slots (MQ below (pq_Ql D y G s.heap.size r S1) args s cells slots (pq_A G s.heap.size)) D y nL (pq_A G s.heap.size) (fun _ => True) G S pc lo [.long v] := by
  cases h
  exact fun H locs ls hz hP hD hS hl => W.lret C.1.1 C.1.2.1 hr (fun t ht hW => ⟨⟨v, S, rfl, ⟨rfl, rfl⟩, (pq_end C hP hD hS ht hW).1⟩, (pq_end C hP hD hS ht hW).2⟩) hS.2.2 hdg hlk
theorem pv_dret (C : pq_C p s m args c D y own Ts cc nL) {v r : UInt64} {S1 : pq_N} (hr : meth.sig.returnType = some .double) (hlk : meth.locks = false) (h : some (v, S) = some (r, S1)) (hdg : decode cc pc = .ok (.dreturn, 1)) : pq_V p l e R s m args below meth c cells slots (MQ below (pq_Qd D y G s.heap.size r S1) args s cells slots (pq_A G s.heap.size)) D y nL (pq_A G s.heap.size) (fun _ => True) G S pc lo [.double v] := by
  cases h
  exact fun H locs ls hz hP hD hS hl => W.dret C.1.1 C.1.2.1 hr (fun t ht hW => ⟨⟨v, S, rfl, ⟨rfl, rfl⟩, (pq_end C hP hD hS ht hW).1⟩, (pq_end C hP hD hS ht hW).2⟩) hS.2.2 hdg hlk
theorem pv_vret (C : pq_C p s m args c D y own Ts cc nL) {S1 : pq_N} (hr : meth.sig.returnType = none) (hlk : meth.locks = false) (h : some ((), S) = some ((), S1)) (hdg : decode cc pc = .ok (.return_, 1)) : pq_V p l e R s m args below meth c cells slots (MQ below (pq_Qv D y G s.heap.size S1) args s cells slots (pq_A G s.heap.size)) D y nL (pq_A G s.heap.size) (fun _ => True) G S pc lo [] := by
  cases h
  exact fun H locs ls hz hP hD hS hl => W.vret C.1.1 C.1.2.1 hr (fun t ht hW => ⟨⟨S, rfl, rfl, (pq_end C hP hD hS ht hW).1⟩, (pq_end C hP hD hS ht hW).2⟩) hS.2.2 hdg hlk
theorem pv_aret (C : pq_C p s m args c D y own Ts cc nL) {v r : Nat} {S1 : pq_N} {rt : FieldType} (hr : meth.sig.returnType = some rt) (hrt : (∃ n, rt = .object n) ∨ ∃ t, rt = .array t) (hlk : meth.locks = false) (h : some (v, S) = some (r, S1)) (hdg : decode cc pc = .ok (.areturn, 1)) : pq_V p l e R s m args below meth c cells slots (MQ below (pq_Qr D y G s.heap.size r S1) args s cells slots (pq_A G s.heap.size)) D y nL (pq_A G s.heap.size) (fun _ => True) G S pc lo [.ref v] := by
  cases h
  exact fun H locs ls hz hP hD hS hl => W.aret C.1.1 C.1.2.1 hr hrt (Or.inr ⟨v, rfl⟩) (fun t ht hW => ⟨⟨(v, S), v, rfl, rfl, rfl, (pq_end C hP hD hS ht hW).1⟩, (pq_end C hP hD hS ht hW).2⟩) hS.2.2 hdg hlk
/-- a method's entry -/
theorem pq_enter {yy : MethodName} {ws ws' : List Cond} {rm : Room} {ret : Option FieldType} {mc ms sz : Nat} {Qc : Array Value → State → Outcome → State → Prop} {free : Addr → Prop} {av : List Value} (own : String) (nL : Nat) (hy : plainName yy.cls = true) (hw : ws = Cond.code yy cc nL ret :: ws') (ho : yy.cls = own) (hlen : Nat.ble (lg_sl av).length nL = true)
    (body : ∀ (p : Program) (e : Env) (s : State) (m : MethodId) (below : List Frame) (meth : Method) (c : Code), pq_C p s m av.toArray c D y own ws cc nL → s.heap.size = sz → meth.sig.returnType = ret → meth.locks = false → pq_V p l e (headSpec ws rm).room s m av.toArray below meth c 0 0 (MQ below Qc av.toArray s mc ms free) D y nL (pq_A G s.heap.size) (fun _ => True) G S 0 (lv_args 0 av) []) : Met l yy ws rm (pq_P D y G S sz av) Qc mc ms free := by
  refine Met.ofW (cc := cc) (maxL := nL) (ret := ret) hy hw ?_
  intro p e s m args below meth c s₁ B hml hv
  obtain ⟨rfl, hsz, hP, hK, hD0, hT⟩ := hv
  have hts := atoms_spec (ws := ws) B.pre
  have hown : s.vm.findClass own = some m.cls := by rw [← ho]; exact findClass_of_methodNamed B.named
  have hl := lv_entry av (n := nL) (Nat.le_of_ble_eq_true hlen)
  rw [lg_entry_eq]
  refine body p e s m below meth c ⟨⟨B.exec, B.bytes, hml, hown, hts⟩, hK, hT⟩ hsz B.returns B.notSynchronized s.heap [] _ trivial hP ⟨hD0.1, fun k q hk => Or.inl ?_⟩ va_S.rf hl
  obtain ⟨a, ha, e1⟩ := List.mem_map.mp (List.mem_of_getElem? hk)
  rw [← e1]; exact ha
end PV
theorem pq_bs {α β γ : Type} {x : Option (α × β)} {f : α → β → Option γ} {z : γ} (h : pq_bd x f = some z) : ∃ a b, x = some (a, b) ∧ f a b = some z := by
  cases x with
  | none => cases h
  | some q => exact ⟨q.1, q.2, rfl, h⟩
theorem pq_nz {v : Int32} (h : v = 0 ∨ v = 1) : narrow .boolean (.int v) = .int v := by
  rcases h with rfl | rfl <;> rfl
theorem pq_it {α : Type} {c : Prop} [Decidable c] {a b : Option α} {z : Option α} (hc : c) (h : (if c then a else b) = z) : a = z := by rwa [if_pos hc] at h
theorem pq_if {α : Type} {c : Prop} [Decidable c] {a b : Option α} {z : Option α} (hc : ¬ c) (h : (if c then a else b) = z) : b = z := by rwa [if_neg hc] at h
theorem pq_gd {α : Type} {c : Prop} [Decidable c] {b : Option α} {z : α} (h : (if c then none else b) = some z) : ¬ c ∧ b = some z := by
  by_cases hc : c
  · rw [if_pos hc] at h; cases h
  · rw [if_neg hc] at h; exact ⟨hc, h⟩
