/-! the law's calls: of its wrappers, of fits and of cell; each with its part of the world -/
theorem nI_mul (a b : Nat) : nI a * nI b = nI (a * b) := (Int32.ofNat_mul a b).symm
theorem nI_subN {a b : Nat} (h : b ≤ a) : nI a - nI b = nI (a - b) := by
  obtain ⟨k, rfl⟩ : ∃ k, a = k + b := ⟨a - b, by omega⟩
  rw [show k + b - b = k by omega, ← nI_add]
  exact Int32.add_sub_cancel _ _
theorem nI_rem {a b : Nat} (ha : a < 2 ^ 31) (hb : 0 < b) (hb2 : b < 2 ^ 31) : nI a - nI a / nI b * nI b = nI (a % b) := by
  rw [nI_divN ha hb hb2, nI_mul, nI_subN (Nat.div_mul_le_self a b)]
  congr 1
  have := Nat.div_add_mod a b
  rw [Nat.mul_comm] at this
  omega
section LCALL
variable {p : Program} {l : Launch} {e : Env} {R : Room} {s : State} {m : MethodId} {args : Array Value} {below : List Frame} {meth : Method} {c : Code} {H : Heap} {locs : List Loc} {cells slots : Nat} {Q : State → Prop}
variable {cc : ByteArray} {pc nL mc ms n index maxL : Nat} {ls : Array Slot} {rest st0 As : List Value} {D : va_G} {A : Nat → Prop} {E : cE} {tl tys1 : gTy} {pre sfx w1 : va_W} {y : MethodName} {bytes : ByteArray} {ret : Option FieldType} {hh : List (Nat × Nat × Nat × Nat)} {wsy Ts : List Cond} {rm : Room} {own C : String} {b : Addr}
theorem w_calls {S : Type} {post : Int32 → S → Prop} {wf : S → va_W} (F : CallFix p m c cc nL s args Ts own) (hC : jI l y wsy rm D E tl w1 As post wf mc ms) (cw : vx_CSW R s args own index y bytes maxL ret hh wsy rm mc ms n)
    (hK : va_K D vwCl (cT E tl) s) (hX : cX (eDf E) A s) (hN : jNc s) (hP : va_P D vwCl (pre ++ w1) H) (hD : va_D A (pre ++ w1)) (hS : va_S A s.heap H locs) (hA : ∀ q : Nat, s.heap.size ≤ q → A q) (hmap : ∀ r u, post r u → ∃ new : List Nat, (wf u).map Prod.fst = w1.map Prod.fst ++ new ∧ new.length ≤ 1)
    (hn : As.length = n) (hl : ls.size = nL) (hst : st0 = As.reverse ++ rest) (hW : (rest.map fun v => v.category).sum ≤ 8) (hdg : decode cc pc = .ok (.invokestatic index, 3)) (hf : cells + mc ≤ R.cells ∧ slots + ms ≤ R.slots)
    (kk : ∀ (r : Int32) (u : S) (H1 : Heap) (locs1 : List Loc), post r u → va_P D vwCl (pre ++ wf u) H1 → va_D A (pre ++ wf u) → va_S A s.heap H1 locs1 → W p l e R s m args below meth c H1 locs1 (cells + mc) (slots + ms) Q (F0 m (pc + 3) ls (.int r :: rest))) : W p l e R s m args below meth c H locs cells slots Q (F0 m pc ls st0) := by
  refine va_calli (vx_runSW F (hC H.size) cw ⟨jPre_blind, fun U hU hW => ⟨hPre_sub hK hX hP hD hS hA subPre (ndPre hD) _ U hU hW, fun q hq => va_Nc.moved hW.alike (hN q hq)⟩⟩ rfl hn hl hst (lv_room hW) hdg hf) hS (fun q _ h => gFreeS hD hS hA subPre q h) (gFreeS hD hS hA subPre) (fun r u t H1 locs1 ht hvm hw hB hz1 hk1 hS1 => ?_)
  obtain ⟨hP1, hK1, hD1⟩ := hB
  rw [ht] at hP1
  obtain ⟨g1, new, g2, g3⟩ := resPre hP hD hD1 (hmap r u hw)
  obtain ⟨k1, k2⟩ := gFrame hP hD subPre (gFreeS hD hS hA subPre) hk1 hP1 hD1 g1 new g2 g3
  exact kk r u H1 locs1 hw k1 k2 hS1
theorem q_divn (hexec : p.tables.exec = Jvm.exec) (hb : c.code = cc) {a d : Nat} (ha : a < 2 ^ 31) (h0 : 0 < d) (hd : d < 2 ^ 31) (hdg : decode cc pc = .ok (.idiv, 1)) (kk : W p l e R s m args below meth c H locs cells slots Q (F0 m (pc + 1) ls (.int (nI (a / d)) :: rest))) : W p l e R s m args below meth c H locs cells slots Q (F0 m pc ls (.int (nI d) :: .int (nI a) :: rest)) := by
  refine lv_idiv hexec hb hdg (nI_ne0 h0 hd) ?_
  rw [nI_divN ha h0 hd]
  exact kk
theorem q_remn (hexec : p.tables.exec = Jvm.exec) (hb : c.code = cc) {a d : Nat} (ha : a < 2 ^ 31) (h0 : 0 < d) (hd : d < 2 ^ 31) (hdg : decode cc pc = .ok (.irem, 1)) (kk : W p l e R s m args below meth c H locs cells slots Q (F0 m (pc + 1) ls (.int (nI (a % d)) :: rest))) : W p l e R s m args below meth c H locs cells slots Q (F0 m pc ls (.int (nI d) :: .int (nI a) :: rest)) := by
  refine lv_irem hexec hb hdg (nI_ne0 h0 hd) ?_
  rw [nI_rem ha h0 hd]
  exact kk
theorem w_callC {S : Type} {post : Int32 → S → Prop} {wf : S → va_W} (F : CallFix p m c cc nL s args Ts own) (hC : jI l y wsy rm D E tl w1 As post wf mc ms) (cw : CallB R s args own index y bytes maxL ret wsy rm mc ms n ∧ (Cond.static y).before args s = true)
    (hK : va_K D vwCl (cT E tl) s) (hX : cX (eDf E) A s) (hN : jNc s) (hP : va_P D vwCl (pre ++ w1) H) (hD : va_D A (pre ++ w1)) (hS : va_S A s.heap H locs) (hA : ∀ q : Nat, s.heap.size ≤ q → A q) (hmap : ∀ r u, post r u → ∃ new : List Nat, (wf u).map Prod.fst = w1.map Prod.fst ++ new ∧ new.length ≤ 1)
    (hn : As.length = n) (hl : ls.size = nL) (hst : st0 = As.reverse ++ rest) (hW : (rest.map fun v => v.category).sum ≤ 8) (hdg : decode cc pc = .ok (.invokestatic index, 3)) (hf : cells + mc ≤ R.cells ∧ slots + ms ≤ R.slots)
    (kk : ∀ (r : Int32) (u : S) (H1 : Heap) (locs1 : List Loc), post r u → va_P D vwCl (pre ++ wf u) H1 → va_D A (pre ++ wf u) → va_S A s.heap H1 locs1 → W p l e R s m args below meth c H1 locs1 (cells + mc) (slots + ms) Q (F0 m (pc + 3) ls (.int r :: rest))) : W p l e R s m args below meth c H locs cells slots Q (F0 m pc ls st0) := by
  refine va_calli (va_runS F (hC H.size) cw ⟨jPre_blind, fun U hU hW => ⟨hPre_sub hK hX hP hD hS hA subPre (ndPre hD) _ U hU hW, fun q hq => va_Nc.moved hW.alike (hN q hq)⟩⟩ rfl hn hl hst (lv_room hW) hdg hf) hS (fun q _ h => gFreeS hD hS hA subPre q h) (gFreeS hD hS hA subPre) (fun r u t H1 locs1 ht hvm hw hB hz1 hk1 hS1 => ?_)
  obtain ⟨hP1, hK1, hD1⟩ := hB
  rw [ht] at hP1
  obtain ⟨g1, new, g2, g3⟩ := resPre hP hD hD1 (hmap r u hw)
  obtain ⟨k1, k2⟩ := gFrame hP hD subPre (gFreeS hD hS hA subPre) hk1 hP1 hD1 g1 new g2 g3
  exact kk r u H1 locs1 hw k1 k2 hS1
end LCALL
/-- what no call changes: the classes, the object's place, the row that new lists share -/
def pS (E E1 : cE) : Prop := E1.2.2.1 = E.2.2.1 ∧ eDf E1 = eDf E ∧ eO E1 = eO E
theorem pS_rf {E : cE} : pS E E := ⟨rfl, rfl, rfl⟩
abbrev R8 (mc ms : Nat) : Room := { frames := 8, cells := mc, slots := ms, locals := 170 }
/-- a wrapper's call: what it answers, and the class's tables behind it -/
def kI (l : Launch) (y : MethodName) (ws : List Cond) (mc ms : Nat) (D : va_G) (E : cE) (x : T2) (av : List Value) (p2 : Int32 → cE → T2 → Prop) : Prop :=
  jI l y ws (R8 mc ms) D E [] (cW E x) av (fun r (u : cE × T2) => p2 r u.1 u.2 ∧ pS E u.1 ∧ ∃ new : List Nat, (cW u.1 u.2).map Prod.fst = (cW E x).map Prod.fst ++ new ∧ new.length ≤ 1) (fun u => cW u.1 u.2) mc ms
def kG (E : cE) (x : T2) (v : Int32) : Int32 → cE → T2 → Prop := fun r E1 x1 => r = v ∧ E1 = E ∧ x1 = x
/-- what a wrapper's theorem takes of the class's contract -/
def kQ {S : Type} (E : cE) (x : T2) (post : Int32 → S → Prop) (wf : S → va_W) (p2 : Int32 → cE → T2 → Prop) : Prop :=
  ∀ r u, post r u → ∃ E1 x1, wf u = cW E1 x1 ∧ p2 r E1 x1 ∧ pS E E1 ∧ ∃ new : List Nat, (cW E1 x1).map Prod.fst = (cW E x).map Prod.fst ++ new ∧ new.length ≤ 1
section XCALL
variable {p : Program} {l : Launch} {e : Env} {R : Room} {s : State} {m : MethodId} {args : Array Value} {below : List Frame} {meth : Method} {c : Code} {H : Heap} {locs : List Loc} {cells slots : Nat} {Q : State → Prop}
variable {cc : ByteArray} {pc nL mc ms n index maxL : Nat} {ls : Array Slot} {rest st0 As : List Value} {D : va_G} {A : Nat → Prop} {E : cE} {x : T2} {pre : va_W} {y : MethodName} {bytes : ByteArray} {ret : Option FieldType} {hh : List (Nat × Nat × Nat × Nat)} {wsy Ts : List Cond} {rm : Room} {own : String}
theorem x_call {p2 : Int32 → cE → T2 → Prop} (F : CallFix p m c cc nL s args Ts own) (hC : kI l y wsy mc ms D E x As p2) (hmc : mc ≤ 1) (hms : ms ≤ 10) (cw : vx_CSW R s args own index y bytes maxL ret hh wsy (R8 mc ms) mc ms n)
    (hK : va_K D vwCl (cT E []) s) (hX : cX (eDf E) A s) (hN : jNc s) (hP : va_P D vwCl (pre ++ cW E x) H) (hD : va_D A (pre ++ cW E x)) (hS : va_S A s.heap H locs) (hA : ∀ q : Nat, s.heap.size ≤ q → A q)
    (hn : As.length = n) (hl : ls.size = nL) (hst : st0 = As.reverse ++ rest) (hW : (rest.map fun v => v.category).sum ≤ 8) (hdg : decode cc pc = .ok (.invokestatic index, 3)) (hf : cells + 1 ≤ R.cells ∧ slots + 10 ≤ R.slots)
    (kk : ∀ (r : Int32) (E1 : cE) (x1 : T2) (H1 : Heap) (locs1 : List Loc), p2 r E1 x1 → pS E E1 → va_P D vwCl (pre ++ cW E1 x1) H1 → va_D A (pre ++ cW E1 x1) → va_S A s.heap H1 locs1 → W p l e R s m args below meth c H1 locs1 (cells + 1) (slots + 10) Q (F0 m (pc + 3) ls (.int r :: rest))) : W p l e R s m args below meth c H locs cells slots Q (F0 m pc ls st0) := by
  refine w_calls F hC cw hK hX hN hP hD hS hA (fun r u h => h.2.2) hn hl hst hW hdg ⟨by omega, by omega⟩ (fun r u H1 locs1 hw hP1 hD1 hS1 => ?_)
  exact W.widen (k := cells + 1) (n := slots + 10) (by omega) (by omega) (kk r u.1 u.2 H1 locs1 hw.1 hw.2.1 hP1 hD1 hS1)
theorem x_get {v : Int32} (F : CallFix p m c cc nL s args Ts own) (hC : kI l y wsy 0 0 D E x As (kG E x v)) (cw : vx_CSW R s args own index y bytes maxL ret hh wsy (R8 0 0) 0 0 n)
    (hK : va_K D vwCl (cT E []) s) (hX : cX (eDf E) A s) (hN : jNc s) (hP : va_P D vwCl (pre ++ cW E x) H) (hD : va_D A (pre ++ cW E x)) (hS : va_S A s.heap H locs) (hA : ∀ q : Nat, s.heap.size ≤ q → A q)
    (hn : As.length = n) (hl : ls.size = nL) (hst : st0 = As.reverse ++ rest) (hW : (rest.map fun v => v.category).sum ≤ 8) (hdg : decode cc pc = .ok (.invokestatic index, 3)) (hf : cells + 0 ≤ R.cells ∧ slots + 0 ≤ R.slots)
    (kk : ∀ (H1 : Heap) (locs1 : List Loc), va_P D vwCl (pre ++ cW E x) H1 → va_D A (pre ++ cW E x) → va_S A s.heap H1 locs1 → W p l e R s m args below meth c H1 locs1 cells slots Q (F0 m (pc + 3) ls (.int v :: rest))) : W p l e R s m args below meth c H locs cells slots Q (F0 m pc ls st0) := by
  refine w_calls F hC cw hK hX hN hP hD hS hA (fun r u h => h.2.2) hn hl hst hW hdg hf (fun r u H1 locs1 hw hP1 hD1 hS1 => ?_)
  obtain ⟨⟨h1, h2, h3⟩, -⟩ := hw
  rw [h2, h3] at hP1 hD1
  rw [h1]
  exact kk H1 locs1 hP1 hD1 hS1
end XCALL
theorem jI.startC {S : Type} {l : Launch} {y : MethodName} {ws ws' : List Cond} {rm : Room} {D : va_G} {E : cE} {tl : gTy} {w0 : va_W} {av : List Value} {post : Int32 → S → Prop} {wf : S → va_W} {mc ms : Nat} {cc : ByteArray} {maxL : Nat} {ret : Option FieldType} {own : String}
    (hc : y.cls = own) (hy : plainName y.cls = true) (hw : ws = Cond.code y cc maxL ret :: ws') (hn : (lg_sl av).length ≤ maxL)
    (k : ∀ (p : Program) (e : Env) (s : State) (m : MethodId) (args : Array Value) (below : List Frame) (meth : Method) (c : Code) (A : Nat → Prop) (ls : Array Slot) (H : Heap) (locs : List Loc), p.tables.exec = Jvm.exec → c.code = cc → c.maxLocals = maxL → meth.sig.returnType = ret → (∀ w ∈ ws, w.before args s = true) → s.vm.findClass own = some m.cls → meth.locks = false → (∀ q : Nat, s.heap.size ≤ q → A q) → va_K D vwCl (cT E tl) s → cX (eDf E) A s → jNc s → va_P D vwCl w0 H → va_D A w0 → va_S A s.heap H locs → lv_has ls maxL (lv_args 0 av) →
      W p l e rm s m args below meth c H locs 0 0 (MQ below (va_Qi post (gB D (cT E tl) wf A) A) args s mc ms A) (F0 m 0 ls [])) : jI l y ws rm D E tl w0 av post wf mc ms := by
  intro sz
  refine Met.ofW (cc := cc) (maxL := maxL) (ret := ret) hy hw ?_
  intro p e s m args below meth c s₁ B hml hv
  obtain ⟨⟨⟨rfl, hsz, hP, hK, hD0⟩, hX⟩, hN⟩ := hv
  have hown : s.vm.findClass own = some m.cls := hc ▸ findClass_of_methodNamed B.named
  subst hsz
  rw [lg_entry_eq]
  exact k p e s m _ below meth c _ _ s.heap [] B.exec B.bytes hml B.returns (atoms_spec (ws := ws) B.pre) hown B.notSynchronized (fun q h => Or.inr h) hK hX hN hP (hD0.self (sz := s.heap.size)) va_S.rf (lv_entry av hn)
/-! a cell of the script, as the law reads it: a number from 0 -/
def clPre (b L k : Nat) (xs : Nat → Int32) : Array Value → State → Prop := fun v U => v = ([.ref b, .int (nI k)] : List Value).toArray ∧ va_X b L xs U U.heap ∧ b < U.heap.size
theorem clPre_blind {b L k : Nat} {xs : Nat → Int32} : FrameBlind (clPre b L k xs) := fun a U g mk q => ⟨q.1, va_X.moved (u := U) (U := U.calling g mk a) (Vm.Alike.refl U.vm) q.2.1, q.2.2⟩
def clV : Int32 → Unit → Prop := fun r _ => ∃ z, z < 2 ^ 31 ∧ r = nI z
theorem cl_and (z : Int32) : clV (z &&& 2147483647) () := by
  have h : ¬ (z &&& 2147483647) < 0 := by
    intro h
    have h1 := Int32.lt_iff_toInt_lt.mp h
    have h2 : (z &&& 2147483647).toInt = (z.toBitVec &&& 2147483647#32).toInt := rfl
    have h3 : (z.toBitVec &&& 2147483647#32).msb = false := by
      rw [BitVec.msb_and]
      have : (2147483647#32).msb = false := by decide
      rw [this, Bool.and_false]
    rw [h2, BitVec.toInt_eq_toNat_of_msb h3] at h1
    have h4 : (0 : Int32).toInt = 0 := by decide
    omega
  obtain ⟨j, h1, h2⟩ := nI_of h
  exact ⟨j, h1, h2⟩
set_option maxHeartbeats 4000000 in
set_option maxRecDepth 100000 in
theorem c_cell (l : Launch) {b L k : Nat} {xs : Nat → Int32} (hL : L < 2 ^ 31) (hk : k < 2 ^ 31) : Met l yL_cell wsL_cell ({ frames := 0, cells := 0, slots := 0, locals := 0 } : Room) (clPre b L k xs) (va_Qi clV (fun _ _ => True) (fun _ => False)) 0 0 (fun _ => False) := by
  refine Met.ofW (cc := cL_cell) (maxL := 2) (ret := some .int) (by decide) rfl ?_
  intro p e s m args below meth c s₁ B hml hv
  obtain ⟨rfl, hX, hbl⟩ := hv
  have hown : s.vm.findClass RL = some m.cls := findClass_of_methodNamed B.named
  have hts := atoms_spec (ws := wsL_cell) B.pre
  have hx := B.exec
  have hb := B.bytes
  have hr := B.returns
  have hlocks := B.notSynchronized
  rw [lg_entry_eq]
  have hl := lv_entry (n := 2) ([.ref b, .int (nI k)]) (Nat.le_of_ble_eq_true rfl)
  have hS : va_S (fun _ : Nat => False) s.heap s.heap [] := va_S.rf
  generalize (lg_sl ([.ref b, .int (nI k)])  ++ List.replicate (2 - (lg_sl ([.ref b, .int (nI k)])).length) Slot.unset).toArray = ls at hl ⊢
  replace hl : lv_has ls 2 [(0, .ref b), (1, .int (nI k))] := hl
  refine lv_iload_n hx hb dL_cell_0 rfl (lv_at hl 1 rfl) ?_
  refine lv_aload_n hx hb dL_cell_1 rfl (lv_at hl 0 rfl) ?_
  refine va_slen hx hb hX hbl (fun h => h) hS dL_cell_2 ?_
  refine lv_icmp_ge (tgt := 12) hx hb dL_cell_3 (by decide) (fun c1 => ?_) (fun c1 => ?_)
  · refine lv_ldc (v := 53051) hx hb hown (hts (.constant RL 7 53051) (by decide +kernel)) dL_cell_12 ?_
    refine lv_iload_n hx hb dL_cell_14 rfl (lv_at hl 1 rfl) ?_
    refine lv_sipush (v := 6971) hx hb dL_cell_15 (by decide) ?_
    refine lv_irem hx hb dL_cell_18 (by decide) ?_
    refine lv_imul hx hb dL_cell_19 ?_
    refine lv_sipush (v := 3319) hx hb dL_cell_20 (by decide) ?_
    refine lv_iadd hx hb dL_cell_23 ?_
    refine lv_ldc (v := 2147483647) hx hb hown (hts (.constant RL 8 2147483647) (by decide +kernel)) dL_cell_24 ?_
    refine lv_iand hx hb dL_cell_26 ?_
    exact W.iret hx hb hr (fun t ht hW => ⟨⟨_, (), rfl, cl_and _, trivial⟩, hS.F ht⟩) hS.2.2 dL_cell_27
  · have hkL : k < L := Nat.lt_of_not_le (fun h => c1 ((nI_leI hL hk).mpr h))
    refine lv_aload_n hx hb dL_cell_6 rfl (lv_at hl 0 rfl) ?_
    refine lv_iload_n hx hb dL_cell_7 rfl (lv_at hl 1 rfl) ?_
    refine va_sld hx hb hX hbl (fun h => h) hS (vp_in_nI hkL hL) dL_cell_8 ?_
    refine lv_goto (tgt := 24) hx hb dL_cell_9 (by decide) ?_
    refine lv_ldc (v := 2147483647) hx hb hown (hts (.constant RL 8 2147483647) (by decide +kernel)) dL_cell_24 ?_
    refine lv_iand hx hb dL_cell_26 ?_
    exact W.iret hx hb hr (fun t ht hW => ⟨⟨_, (), rfl, cl_and _, trivial⟩, hS.F ht⟩) hS.2.2 dL_cell_27
