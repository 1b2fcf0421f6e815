/-! THE LAW'S START: what the tables and the premises say of it -/
theorem fl_nw : ∀ w ∈ pq_nw, w ∈ lw_tbl := by decide +kernel
theorem fl_nwt : ∀ w ∈ pq_nw, w.onTables = true := by decide +kernel
theorem fl_xw : ∀ w ∈ pq_xw, w ∈ lw_tbl := by decide +kernel
theorem fl_xwt : ∀ w ∈ pq_xw, w.onTables = true := by decide +kernel
theorem fl_ao4 : Cond.arrayOver (.object RX4) ∈ lw_tbl := by decide +kernel
theorem fl_ao9 : Cond.arrayOver (.object RX9) ∈ lw_tbl := by decide +kernel
theorem fl_aj : Cond.arrayClass .long ∈ lw_tbl := by decide +kernel
theorem fl_ls1 : Cond.laysStatic Bundle.tN "UNASSIGNED_STACK" Bundle.steD ∈ lw_tbl := by decide +kernel
theorem fl_ls2 : Cond.laysStatic Bundle.tN "SUPPRESSED_SENTINEL" Bundle.listD ∈ lw_tbl := by decide +kernel
theorem fl_ini : Cond.initialized Bundle.tN ∈ lw_tbl := by decide +kernel
theorem fl_str : ∀ q ∈ pq_xs, Cond.stringRef RX10 q.1 q.2 ∈ lw_tbl := by decide +kernel
theorem fl_r1 : Cond.isRef (.static Bundle.tN "UNASSIGNED_STACK" Bundle.steD) ∈ flatC (Jvm.Cond.and given_1 narrow_1) := by decide +kernel
theorem fl_r2 : Cond.isRef (.static Bundle.tN "SUPPRESSED_SENTINEL" Bundle.listD) ∈ flatC (Jvm.Cond.and given_1 narrow_1) := by decide +kernel
theorem fl_ex : ∀ q ∈ pq_xs, Cond.exactly (.string RX10 q.1) "java/lang/String" ∈ flatC (Jvm.Cond.and given_1 narrow_1) := by decide +kernel
theorem fl_n1 : Cond.not (.castable (pq_E 2) (pq_E 1)) ∈ flatC (Jvm.Cond.and given_1 narrow_1) := by decide +kernel
theorem fl_n3 : Cond.not (.castable (pq_E 2) (pq_E 3)) ∈ flatC (Jvm.Cond.and given_1 narrow_1) := by decide +kernel
theorem fl_in0 : Cond.instantiable RX0 2 ∈ lw_tbl := by decide +kernel
theorem fl_in1 : Cond.instantiable RX1 3 ∈ lw_tbl := by decide +kernel
theorem fl_in2 : Cond.instantiable RX2 5 ∈ lw_tbl := by decide +kernel
theorem fl_in3 : Cond.instantiable RX3 1 ∈ lw_tbl := by decide +kernel
theorem fl_in4 : Cond.instantiable RX4 8 ∈ lw_tbl := by decide +kernel
theorem fl_in5 : Cond.instantiable RX5 3 ∈ lw_tbl := by decide +kernel
theorem fl_in6 : Cond.instantiable RX6 5 ∈ lw_tbl := by decide +kernel
theorem fl_in7 : Cond.instantiable RX7 1 ∈ lw_tbl := by decide +kernel
theorem fl_in8 : Cond.instantiable RX8 4 ∈ lw_tbl := by decide +kernel
theorem fl_in9 : Cond.instantiable RX9 4 ∈ lw_tbl := by decide +kernel
theorem fl_in10 : Cond.instantiable RX10 7 ∈ lw_tbl := by decide +kernel
section ST
variable {A : Array Value} {s : State}
theorem kn_all (hts : ∀ w ∈ lw_tbl, w.before A s = true) : ∃ D : va_G, ∀ (k : Nat) (q : vw_C), vwCl[k]? = some q → u_Kn s q.1 q.2.1 q.2.2 (D.1 k) (D.2 k) := by
  have h : ∀ k : Nat, ∃ (c : ClassId) (iS : Nat → Nat), ∀ q : vw_C, vwCl[k]? = some q → u_Kn s q.1 q.2.1 q.2.2 c iS := fun k => by
    match k with
    | 0 =>
      obtain ⟨c, iS, hK⟩ := u_known (C := RX0) (T := TX0) (N := 2) (n := 2) hts inX0 (hts _ fl_in0)
      exact ⟨c, iS, fun q hq => by cases hq; exact hK⟩
    | 1 =>
      obtain ⟨c, iS, hK⟩ := u_known (C := RX1) (T := TX1) (N := 3) (n := 3) hts inX1 (hts _ fl_in1)
      exact ⟨c, iS, fun q hq => by cases hq; exact hK⟩
    | 2 =>
      obtain ⟨c, iS, hK⟩ := u_known (C := RX2) (T := TX2) (N := 5) (n := 5) hts inX2 (hts _ fl_in2)
      exact ⟨c, iS, fun q hq => by cases hq; exact hK⟩
    | 3 =>
      obtain ⟨c, iS, hK⟩ := u_known (C := RX3) (T := TX3) (N := 1) (n := 1) hts inX3 (hts _ fl_in3)
      exact ⟨c, iS, fun q hq => by cases hq; exact hK⟩
    | 4 =>
      obtain ⟨c, iS, hK⟩ := u_known (C := RX4) (T := TX4) (N := 8) (n := 8) hts inX4 (hts _ fl_in4)
      exact ⟨c, iS, fun q hq => by cases hq; exact hK⟩
    | 5 =>
      obtain ⟨c, iS, hK⟩ := u_known (C := RX5) (T := TX5) (N := 3) (n := 3) hts inX5 (hts _ fl_in5)
      exact ⟨c, iS, fun q hq => by cases hq; exact hK⟩
    | 6 =>
      obtain ⟨c, iS, hK⟩ := u_known (C := RX6) (T := TX6) (N := 5) (n := 5) hts inX6 (hts _ fl_in6)
      exact ⟨c, iS, fun q hq => by cases hq; exact hK⟩
    | 7 =>
      obtain ⟨c, iS, hK⟩ := u_known (C := RX7) (T := TX7) (N := 1) (n := 1) hts inX7 (hts _ fl_in7)
      exact ⟨c, iS, fun q hq => by cases hq; exact hK⟩
    | 8 =>
      obtain ⟨c, iS, hK⟩ := u_known (C := RX8) (T := TX8) (N := 4) (n := 4) hts inX8 (hts _ fl_in8)
      exact ⟨c, iS, fun q hq => by cases hq; exact hK⟩
    | 9 =>
      obtain ⟨c, iS, hK⟩ := u_known (C := RX9) (T := TX9) (N := 4) (n := 4) hts inX9 (hts _ fl_in9)
      exact ⟨c, iS, fun q hq => by cases hq; exact hK⟩
    | 10 =>
      obtain ⟨c, iS, hK⟩ := u_known (C := RX10) (T := TX10) (N := 7) (n := 7) hts inX10 (hts _ fl_in10)
      exact ⟨c, iS, fun q hq => by cases hq; exact hK⟩
    | k + 11 =>
      refine ⟨0, fun _ => 0, fun q hq => ?_⟩
      have h' : (none : Option vw_C) = some q := hq
      cases h'
  exact ⟨(fun k => (h k).choose, fun k => (h k).choose_spec.choose), fun k q hq => (h k).choose_spec.choose_spec q hq⟩
theorem arr_p {ty : FieldType} (h0 : ∀ C, ty ≠ .object C) (h : (Cond.arrayClass ty).before A s = true) : ∃ cA, ArrOfT s cA ty ∧ va_RA s cA ty := by
  obtain ⟨cA, kA, comp, h1, h2, h3⟩ := Cond.arrayClass_spec (show (Cond.arrayClass ty).holds A s none s [] = true from h)
  refine ⟨cA, fun n z => ⟨(fun k h => by cases h), kA, h2, comp, h3⟩, ?_⟩
  cases ty with
  | object C => exact absurd rfl (h0 C)
  | _ => exact h1
theorem arr_o {C : String} (h : (Cond.arrayOver (.object C)).before A s = true) : ∃ cA, ArrOfT s cA (.object C) ∧ va_RA s cA (.object C) := by
  obtain ⟨comp, cA, kA, f1, f2, f3, f4, f5⟩ := Cond.arrayOver_spec (show (Cond.arrayOver (.object C)).holds A s none s [] = true from h)
  exact ⟨cA, fun n z => ⟨(fun k h => by cases h), kA, f3, comp, f4⟩, kA, comp, f3, f4, f1, f5⟩
theorem k_all (hts : ∀ w ∈ lw_tbl, w.before A s = true) : ∃ (D : va_G) (y : pq_Y), va_K D vwCl (pq_tys y) s := by
  obtain ⟨D, hD⟩ := kn_all hts
  obtain ⟨c1, h1⟩ := arr_p (ty := .long) (fun C h => by cases h) (hts _ fl_aj)
  obtain ⟨c3, h3⟩ := arr_o (hts _ fl_ao4)
  obtain ⟨c4, h4⟩ := arr_o (hts _ fl_ao9)
  refine ⟨D, (0, c1, c3, c4), hD, fun k q hq => ?_⟩
  match k, hq with
  | 0, hq => cases hq; exact h1
  | 1, hq => cases hq; exact h1
  | 2, hq => cases hq; exact h3
  | 3, hq => cases hq; exact h4
  | k + 4, hq =>
    have h' : (none : Option (ClassId × FieldType)) = some q := hq
    cases h'
theorem tb_all (hts : ∀ w ∈ lw_tbl, w.before A s = true) : pq_Tb s := ⟨fun w hw => va_Nw.of (fl_nwt w hw) (hts w (fl_nw w hw)), va_AO.of (hts _ fl_ao4), va_AO.of (hts _ fl_ao9)⟩
theorem x_all (hts : ∀ w ∈ lw_tbl, w.before A s = true) (hgv : (Jvm.Cond.and given_1 narrow_1).before A s = true) {B : Nat → Prop} (hB : ∀ a : Nat, a < s.heap.size → ¬ B a) : pq_X B s s.heap := by
  have hg := flat_of_before _ hgv
  refine ⟨vx_Zqof (hts _ fl_ls1) (hts _ fl_ini) (hg _ fl_r1) hB, vx_Zqof (hts _ fl_ls2) (hts _ fl_ini) (hg _ fl_r2) hB, fun w hw => va_Nw.of (fl_xwt w hw) (hts w (fl_xw w hw)), fun q hq => ?_, va_Nc.of (hg _ fl_n1), va_Nc.of (hg _ fl_n3)⟩
  obtain ⟨a, c, cell, k, h1, -⟩ := Cond.exactly_spec (show (Cond.exactly (.string RX10 q.1) "java/lang/String").holds A s none s [] = true from hg _ (fl_ex q hq))
  exact ⟨a, vk_R.of (A := A) (hts _ (fl_str q hq)) h1⟩
end ST
theorem no_traces {l : Launch} (h : l.flags = flags0) : l.stackTraces = false := by
  unfold Launch.stackTraces
  rw [h]
  decide +kernel
