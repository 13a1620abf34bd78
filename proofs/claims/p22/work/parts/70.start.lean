/-! the law's start: what the machine's tables and the Statement's premises give -/
theorem kp_int {A : Array Value} {s : State} (h : (Cond.arrayClass .int).before A s = true) : ∃ c, ArrOfT s c .int ∧ va_RA s c .int := by
  obtain ⟨c, k, comp, h1, h2, h3⟩ := Cond.arrayClass_spec h
  exact ⟨c, fun n z => ⟨fun k h => (by cases h), k, h2, comp, h3⟩, h1⟩
theorem kp_bool {A : Array Value} {s : State} (h : (Cond.arrayClass .boolean).before A s = true) : ∃ c, ArrOfT s c .boolean ∧ va_RA s c .boolean := by
  obtain ⟨c, k, comp, h1, h2, h3⟩ := Cond.arrayClass_spec h
  exact ⟨c, fun n z => ⟨fun k h => (by cases h), k, h2, comp, h3⟩, h1⟩
theorem kp_long {A : Array Value} {s : State} (h : (Cond.arrayClass .long).before A s = true) : ∃ c, ArrOfT s c .long ∧ va_RA s c .long := by
  obtain ⟨c, k, comp, h1, h2, h3⟩ := Cond.arrayClass_spec h
  exact ⟨c, fun n z => ⟨fun k h => (by cases h), k, h2, comp, h3⟩, h1⟩
theorem kp_obj {s : State} {C : String} (h : va_AO C s) : ∃ c, ArrOfT s c (.object C) ∧ va_RA s c (.object C) := by
  obtain ⟨comp, c, k, h1, h2, h3, h4, h5⟩ := Cond.arrayOver_spec h
  exact ⟨c, fun n z => ⟨fun k h => (by cases h), k, h3, comp, h4⟩, k, comp, h3, h4, h1, h5⟩
theorem kp_str {A : Array Value} {s : State} {own tx : String} {k : Nat} {C : String} (h1 : (Cond.stringRef own k tx).before A s = true) (h2 : (Cond.exactly (.string own k) C).before A s = true) : ∃ a : Nat, vk_R own k tx a s := by
  cases hv : (Term.string own k).eval A s none [] s with
  | none => simp [Cond.before, Cond.holds, Cond.value, hv] at h2
  | some w =>
    cases w with
    | ref a => exact ⟨a, vk_R.of h1 hv⟩
    | _ => cases hc : s.vm.findClass C <;> simp [Cond.before, Cond.holds, Cond.value, hv, hc] at h2
theorem l_noTrace {l : Launch} (h : l.flags = flags0) : l.stackTraces = false := by
  unfold Launch.stackTraces
  rw [h]
  decide +kernel
def gvL : List Cond := flatC (Cond.and given_1 narrow_1)
theorem tb_nl : ∀ w ∈ cNl, w ∈ lw_tbl := by decide +kernel
theorem tb_cl : ∀ q ∈ cCl, Cond.castable q.1 q.2 ∈ lw_tbl := by decide +kernel
theorem tb_str : ∀ q ∈ cStr, Cond.stringRef RX2 q.1 q.2 ∈ lw_tbl := by decide +kernel
theorem tb_ao : ∀ C ∈ cAo, Cond.arrayOver (.object C) ∈ lw_tbl := by decide +kernel
theorem tb_dl : ∀ y ∈ cDl, Cond.declares y ∈ lw_tbl := by decide +kernel
theorem gv_str : ∀ q ∈ cStr, Cond.exactly (.string RX2 q.1) "java/lang/String" ∈ gvL := by decide +kernel
theorem gv_nc : ∀ q ∈ cNc, Cond.not (.castable q.1 q.2) ∈ gvL := by decide +kernel
def stDC : Term := .static "java/util/ArrayList" "DEFAULTCAPACITY_EMPTY_ELEMENTDATA" "[Ljava/lang/Object;"
theorem gv_dc1 : Cond.arrayOf stDC (.object "java/lang/Object") ∈ gvL := by decide +kernel
theorem gv_dc2 : Cond.eq (.length stDC) (.int 0) ∈ gvL := by decide +kernel
theorem gv_us : Cond.isRef (.static Bundle.tN "UNASSIGNED_STACK" Bundle.steD) ∈ gvL := by decide +kernel
theorem gv_ss : Cond.isRef (.static Bundle.tN "SUPPRESSED_SENTINEL" Bundle.listD) ∈ gvL := by decide +kernel
theorem tb_s : Cond.laysStatic "java/util/ArrayList" "DEFAULTCAPACITY_EMPTY_ELEMENTDATA" "[Ljava/lang/Object;" ∈ lw_tbl ∧ Cond.initialized "java/util/ArrayList" ∈ lw_tbl ∧ Cond.laysStatic Bundle.tN "UNASSIGNED_STACK" Bundle.steD ∈ lw_tbl ∧ Cond.laysStatic Bundle.tN "SUPPRESSED_SENTINEL" Bundle.listD ∈ lw_tbl ∧ Cond.initialized Bundle.tN ∈ lw_tbl := ⟨by decide +kernel, by decide +kernel, by decide +kernel, by decide +kernel, by decide +kernel⟩
theorem tb_a : Cond.arrayClass .int ∈ lw_tbl := by decide +kernel
theorem cast_tab (a b : String) : (Cond.castable a b).onTables = true := rfl
theorem decl_tab (y : MethodName) : (Cond.declares y).onTables = true := rfl
/-- the classes, the array classes, and what else the class's methods take from the start -/
theorem st_know {p : Program} {s : State} {m : MethodId} {meth : Method} {c : Code} {b L : Nat} {xs : Nat → Int32} (C0 : lw_At p s m meth c b L xs) : ∃ (D : va_G) (E : cE) (ci : ClassId), lS D s 0 ci E ∧ jNc s := by
  obtain ⟨hx, hb, hr, hml, hown, hts, hX, hbl, hlocks, hgv⟩ := C0
  have hg : ∀ w ∈ gvL, w.before #[Value.ref b] s = true := flat_of_before _ hgv
  have hA : ∀ a : Nat, a < s.heap.size → ¬ (fun q : Nat => s.heap.size ≤ q) a := fun _ h => Nat.not_le.mpr h
  obtain ⟨c0, i0, k0⟩ := u_known (C := RJx4a65c) (T := TJx4a65c) (N := 3) (n := 3) hts inJx4a65c (hts (.instantiable RJx4a65c 3) (by decide +kernel))
  obtain ⟨c1, i1, k1⟩ := u_known (C := RX0) (T := TX0) (N := 6) (n := 6) hts inX0 (hts (.instantiable RX0 6) (by decide +kernel))
  obtain ⟨c2, i2, k2⟩ := u_known (C := RX1) (T := TX1) (N := 10) (n := 10) hts inX1 (hts (.instantiable RX1 10) (by decide +kernel))
  obtain ⟨c3, i3, k3⟩ := u_known (C := RX2) (T := TX2) (N := 3) (n := 3) hts inX2 (hts (.instantiable RX2 3) (by decide +kernel))
  have hao : ∀ C ∈ cAo, va_AO C s := fun C hC => va_AO.of (hts _ (tb_ao C hC))
  obtain ⟨aI, aI1, aI2⟩ := kp_int (hts _ tb_a)
  obtain ⟨aP, aP1, aP2⟩ := kp_obj (hao "FairFolio$Pavilion" (by decide))
  obtain ⟨aV, aV1, aV2⟩ := kp_obj (hao "FairFolio$Visitor" (by decide))
  obtain ⟨aB, aB1, aB2⟩ := kp_obj (hao "java/lang/Object" (by decide))
  obtain ⟨d, hd, hT⟩ := va_Tof (tm := stDC) (ty := .object "java/lang/Object") (N := 0) (f := fun _ => .null) (A := fun q : Nat => s.heap.size ≤ q) (by decide) (hg _ gv_dc1) (va_eqt (hg _ gv_dc2)) (fun j hj => absurd hj (Nat.not_lt_zero j)) hA
  refine ⟨(fun k => if k = 0 then c0 else if k = 1 then c1 else if k = 2 then c2 else c3, fun k => if k = 0 then i0 else if k = 1 then i1 else if k = 2 then i2 else i3), ((0, 0, 0, d), (fun _ => 0, fun _ => 0, fun _ => 0, fun _ => 0), (aI, aI, aP, aV, aB), fun _ _ => 0, fun _ _ => 0, fun _ => 0, []), aI, ⟨⟨?_, ?_⟩, ?_, rfl, rfl⟩, ?_⟩
  · intro k q hq
    match k, hq with
    | 0, hq => cases hq; exact k0
    | 1, hq => cases hq; exact k1
    | 2, hq => cases hq; exact k2
    | 3, hq => cases hq; exact k3
    | k + 4, hq => simp [vwCl] at hq
  · intro k q hq
    match k, hq with
    | 0, hq => cases hq; exact ⟨aI1, aI2⟩
    | 1, hq => cases hq; exact ⟨aI1, aI2⟩
    | 2, hq => cases hq; exact ⟨aP1, aP2⟩
    | 3, hq => cases hq; exact ⟨aV1, aV2⟩
    | 4, hq => cases hq; exact ⟨aB1, aB2⟩
    | k + 5, hq => simp [cT] at hq
  · exact ⟨fun w hw => va_tabs (cNl_tab w hw) rfl (hts w (tb_nl w hw)), fun q hq => va_tabs (cast_tab _ _) rfl (hts _ (tb_cl q hq)), fun q hq => kp_str (hts _ (tb_str q hq)) (hg _ (gv_str q hq)), vx_Zqof (hts _ tb_s.2.2.1) (hts _ tb_s.2.2.2.2) (hg _ gv_us) hA, vx_Zqof (hts _ tb_s.2.2.2.1) (hts _ tb_s.2.2.2.2) (hg _ gv_ss) hA, va_Zref (hts _ tb_s.1) (hts _ tb_s.2.1) hd hA, hT, hao, fun y hy => va_tabs (decl_tab y) rfl (hts _ (tb_dl y hy))⟩
  · exact fun q hq => va_Nc.of (hg _ (gv_nc q hq))
