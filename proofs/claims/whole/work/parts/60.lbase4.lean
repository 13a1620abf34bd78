/-! the law's body: its calls of the wrappers and of the reference, each with its part of the world -/
section LCALL
variable {p : Program} {l : Launch} {e : Env} {R : Room} {s : State} {m : MethodId} {args : Array Value} {below : List Frame} {meth : Method} {c : Code} {H : Heap} {locs : List Loc} {cells slots : Nat} {Q : State → Prop}
variable {cc : ByteArray} {pc nL mc ms n index maxL : Nat} {ls : Array Slot} {rest st0 As : List Value} {D : va_G} {A : Nat → Prop} {E : cE} {tl tys1 : gTy} {pre sfx w1 : va_W} {y : MethodName} {bytes : ByteArray} {ret : Option FieldType} {hh : List (Nat × Nat × Nat × Nat)} {wsy Ts : List Cond} {rm : Room} {own C : String} {b : Addr}
theorem w_calls {S : Type} {post : Int32 → S → Prop} {wf : S → va_W} (F : CallFix p m c cc nL s args Ts own) (hC : jI l y wsy rm D E tl w1 As post wf mc ms) (cw : vx_CSW R s args own index y bytes maxL ret hh wsy rm mc ms n)
    (hK : va_K D vwCl (cT E tl) s) (hX : cX (eDf E) A s) (hN : jNc s) (hP : va_P D vwCl (pre ++ w1) H) (hD : va_D A (pre ++ w1)) (hS : va_S A s.heap H locs) (hA : ∀ q : Nat, s.heap.size ≤ q → A q) (hmap : ∀ r u, post r u → ∃ new : List Nat, (wf u).map Prod.fst = w1.map Prod.fst ++ new ∧ new.length ≤ 1)
    (hn : As.length = n) (hl : ls.size = nL) (hst : st0 = As.reverse ++ rest) (hW : (rest.map fun v => v.category).sum ≤ 8) (hdg : decode cc pc = .ok (.invokestatic index, 3)) (hf : cells + mc ≤ R.cells ∧ slots + ms ≤ R.slots)
    (kk : ∀ (r : Int32) (u : S) (H1 : Heap) (locs1 : List Loc), post r u → va_P D vwCl (pre ++ wf u) H1 → va_D A (pre ++ wf u) → va_S A s.heap H1 locs1 → W p l e R s m args below meth c H1 locs1 (cells + mc) (slots + ms) Q (F0 m (pc + 3) ls (.int r :: rest))) : W p l e R s m args below meth c H locs cells slots Q (F0 m pc ls st0) := by
  refine va_calli (vx_runSW F (hC H.size) cw ⟨jPre_blind, fun U hU hW => ⟨hPre_sub hK hX hP hD hS hA subPre (ndPre hD) _ U hU hW, fun q hq => va_Nc.moved hW.alike (hN q hq)⟩⟩ rfl hn hl hst (lv_room hW) hdg hf) hS (fun q _ h => gFreeS hD hS hA subPre q h) (gFreeS hD hS hA subPre) (fun r u t H1 locs1 ht hvm hw hB hz1 hk1 hS1 => ?_)
  obtain ⟨hP1, hK1, hD1⟩ := hB
  rw [ht] at hP1
  obtain ⟨g1, new, g2, g3⟩ := resPre hP hD hD1 (hmap r u hw)
  obtain ⟨k1, k2⟩ := gFrame hP hD subPre (gFreeS hD hS hA subPre) hk1 hP1 hD1 g1 new g2 g3
  exact kk r u H1 locs1 hw k1 k2 hS1
theorem subSfx : ∀ q ∈ w1, q ∈ w1 ++ sfx := fun _ h => List.mem_append_left _ h
theorem ndSfx (hD : va_D A (w1 ++ sfx)) : ∀ (i j : Nat) (p q : Nat × va_E), w1[i]? = some p → w1[j]? = some q → p.1 = q.1 → i = j := fun i j p q hi hj h =>
  hD.1 i j p q (by rw [List.getElem?_append_left (List.getElem?_eq_some_iff.mp hi).1]; exact hi) (by rw [List.getElem?_append_left (List.getElem?_eq_some_iff.mp hj).1]; exact hj) h
theorem resSfx (hD : va_D A (w1 ++ sfx)) {wfu : va_W} : ∀ q ∈ wfu ++ sfx, q ∈ wfu ∨ (q ∈ w1 ++ sfx ∧ ∀ q1 ∈ w1, q.1 ≠ q1.1) := by
  intro q hq
  rcases List.mem_append.mp hq with h | h
  · exact Or.inl h
  · refine Or.inr ⟨List.mem_append_right _ h, fun q1 h1 h2 => ?_⟩
    obtain ⟨i, hi⟩ := List.getElem?_of_mem h
    obtain ⟨j, hj⟩ := List.getElem?_of_mem h1
    have hlt : j < w1.length := (List.getElem?_eq_some_iff.mp hj).1
    have := hD.1 (w1.length + i) j q q1 (by rw [app_at]; exact hi) (by rw [List.getElem?_append_left hlt]; exact hj) h2
    omega
theorem w_calli {S : Type} {post : Int32 → S → Prop} {wf : S → va_W} (F : CallFix p m c cc nL s args Ts own) (hM : gI l y wsy rm D tys1 w1 (.ref b :: As) post wf mc ms) (cw : CallW R s args own C index y bytes maxL ret wsy rm mc ms n) (hr : ∃ cell : Cell, H[b]? = some cell ∧ cell.vm.isStatics = false ∧ s.vm.findClass C = some cell.cls)
    (hK : va_K D vwCl tys1 s) (hP : va_P D vwCl (w1 ++ sfx) H) (hD : va_D A (w1 ++ sfx)) (hS : va_S A s.heap H locs) (hA : ∀ q : Nat, s.heap.size ≤ q → A q) (hmap : ∀ r u, post r u → (wf u).map Prod.fst = w1.map Prod.fst)
    (hn : As.length = n) (hl : ls.size = nL) (hst : st0 = As.reverse ++ .ref b :: rest) (hW : (rest.map fun v => v.category).sum ≤ 8) (hdg : decode cc pc = .ok (.invokevirtual index, 3)) (hf : cells + mc ≤ R.cells ∧ slots + ms ≤ R.slots)
    (kk : ∀ (r : Int32) (u : S) (H1 : Heap) (locs1 : List Loc), post r u → va_P D vwCl (wf u ++ sfx) H1 → va_D A (wf u ++ sfx) → va_S A s.heap H1 locs1 → W p l e R s m args below meth c H1 locs1 (cells + mc) (slots + ms) Q (F0 m (pc + 3) ls (.int r :: rest))) : W p l e R s m args below meth c H locs cells slots Q (F0 m pc ls st0) := by
  refine va_calli (va_runV F (hM H.size) cw ⟨gPre_blind, hr, fun U hU hW => ⟨rfl, by rw [hU], by rw [hU]; exact gSubP hP subSfx, va_K.moved hW.alike hK, ndSfx hD, fun _ _ _ => trivial⟩⟩ rfl hn hl hst (lv_room hW) hdg hf) hS (fun q _ h => gFreeS hD hS hA subSfx q h) (gFreeS hD hS hA subSfx) (fun r u t H1 locs1 ht hvm hw hB hz1 hk1 hS1 => ?_)
  obtain ⟨hP1, hK1, hD1⟩ := hB
  rw [ht] at hP1
  obtain ⟨k1, k2⟩ := gFrame (w0' := wf u ++ sfx) hP hD subSfx (gFreeS hD hS hA subSfx) hk1 hP1 hD1 (resSfx hD) [] (by rw [List.map_append, List.map_append, hmap r u hw, List.append_nil]) (Or.inl rfl)
  exact kk r u H1 locs1 hw k1 k2 hS1
theorem w_callv {S : Type} {post : S → Prop} {wf : S → va_W} (F : CallFix p m c cc nL s args Ts own) (hM : gV l y wsy rm D tys1 w1 (.ref b :: As) post wf mc ms) (cw : CallW R s args own C index y bytes maxL ret wsy rm mc ms n) (hr : ∃ cell : Cell, H[b]? = some cell ∧ cell.vm.isStatics = false ∧ s.vm.findClass C = some cell.cls)
    (hK : va_K D vwCl tys1 s) (hP : va_P D vwCl (w1 ++ sfx) H) (hD : va_D A (w1 ++ sfx)) (hS : va_S A s.heap H locs) (hA : ∀ q : Nat, s.heap.size ≤ q → A q) (hmap : ∀ u, post u → (wf u).map Prod.fst = w1.map Prod.fst)
    (hn : As.length = n) (hl : ls.size = nL) (hst : st0 = As.reverse ++ .ref b :: rest) (hW : (rest.map fun v => v.category).sum ≤ 8) (hdg : decode cc pc = .ok (.invokevirtual index, 3)) (hf : cells + mc ≤ R.cells ∧ slots + ms ≤ R.slots)
    (kk : ∀ (u : S) (H1 : Heap) (locs1 : List Loc), post u → va_P D vwCl (wf u ++ sfx) H1 → va_D A (wf u ++ sfx) → va_S A s.heap H1 locs1 → W p l e R s m args below meth c H1 locs1 (cells + mc) (slots + ms) Q (F0 m (pc + 3) ls rest)) : W p l e R s m args below meth c H locs cells slots Q (F0 m pc ls st0) := by
  refine va_callv (va_runV F (hM H.size) cw ⟨gPre_blind, hr, fun U hU hW => ⟨rfl, by rw [hU], by rw [hU]; exact gSubP hP subSfx, va_K.moved hW.alike hK, ndSfx hD, fun _ _ _ => trivial⟩⟩ rfl hn hl hst (lv_room hW) hdg hf) hS (fun q _ h => gFreeS hD hS hA subSfx q h) (gFreeS hD hS hA subSfx) (fun u t H1 locs1 ht hvm hw hB hz1 hk1 hS1 => ?_)
  obtain ⟨hP1, hK1, hD1⟩ := hB
  rw [ht] at hP1
  obtain ⟨k1, k2⟩ := gFrame (w0' := wf u ++ sfx) hP hD subSfx (gFreeS hD hS hA subSfx) hk1 hP1 hD1 (resSfx hD) [] (by rw [List.map_append, List.map_append, hmap u hw, List.append_nil]) (Or.inl rfl)
  exact kk u H1 locs1 hw k1 k2 hS1
/-- an int of the script -/
theorem w_sld (hexec : p.tables.exec = Jvm.exec) (hb : c.code = cc) {H0 : Heap} {b L : Nat} {xs : Nat → Int32} (hX : va_X b L xs s H0) (hbl : b < H0.size) (hbA : ¬ A b) (hS : va_S A H0 H locs) {i : Nat} (hi : i < L) (hL : L ≤ 2048) (hdg : decode cc pc = .ok (.iaload, 1))
    (kk : W p l e R s m args below meth c H locs cells slots Q (F0 m (pc + 1) ls (.int (xs i) :: rest))) : W p l e R s m args below meth c H locs cells slots Q (F0 m pc ls (.int (nI i) :: .ref b :: rest)) := by
  refine va_sld hexec hb hX hbl hbA hS (vp_in_nI hi (by omega)) hdg ?_
  rw [nI_clamp (by omega)]
  exact kk
theorem w_lald (hexec : p.tables.exec = Jvm.exec) (hb : c.code = cc) {tys : gTy} {ws : va_W} {a : Nat} (hK : va_K D vwCl tys s) (hP : va_P D vwCl ws H) (q0 t0 : Nat) {cA : ClassId} {f : Nat → Int64} (ha : ws[q0]? = some (a, oC cA f)) (ht : tys[t0]? = some (cA, .long)) {v : Int64} (hv : f 0 = v) (hdg : decode cc pc = .ok (.laload, 1))
    (kk : W p l e R s m args below meth c H locs cells slots Q (F0 m (pc + 1) ls (.long v :: rest))) : W p l e R s m args below meth c H locs cells slots Q (F0 m pc ls (.int (nI 0) :: .ref a :: rest)) := by
  refine va_lald hexec hb hK hP q0 t0 ha ht (vp_in_nI (by decide) (by decide)) hdg ?_
  rw [nI_clamp (by decide), hv]
  exact kk
theorem w_lcmp (hexec : p.tables.exec = Jvm.exec) (hb : c.code = cc) {x y : Int64} (hxy : x = y) (hdg : decode cc pc = .ok (.lcmp, 1))
    (k : W p l e R s m args below meth c H locs cells slots Q (F0 m (pc + 1) ls (.int (nI 0) :: rest))) : W p l e R s m args below meth c H locs cells slots Q (F0 m pc ls (.long y :: .long x :: rest)) := by
  subst hxy
  intro T hT X
  obtain ⟨t, a, b⟩ := k T hT X
  refine ⟨t, ?_, b⟩
  jvm_step X.here [X.here.top, hexec, hb, hdg]
  exact a
end LCALL
/-- what holds between two calls: both tables tell the same, at minute m -/
def rI (E : cE) (x y : T2) (q : Nat → List Nat) (m : Nat) : Prop := wR E x y q m ∧ y 0 0 = nI m ∧ m ≤ 1200 ∧ wRm y
def lwKX (D : va_G) (lc : ClassId) (s : State) (E : cE) : Prop := va_K D vwCl (cT E [(lc, .long)]) s ∧ cX (eDf E) (fun q : Nat => s.heap.size ≤ q) s
def lwT (E : cE) (lc : ClassId) : gTy := (eP E, .object "FairFolio$Pavilion") :: (eV E, .object "FairFolio$Visitor") :: (eB E, .object "java/lang/Object") :: [(lc, .long)]
abbrev lwG (ou : Nat × (Nat → Nat)) (E : cE) (y : T2) (oo : Nat) (lc : ClassId) (f : Nat → Int64) (x : T2) : va_W := mW (ou, (eI E, eZ E)) y ++ ([(oo, oC lc f)] ++ cW E x)
/-- where all cases meet again, at the loop's step -/
def lwN (p : Program) (l : Launch) (e : Env) (s : State) (m : MethodId) (b : Nat) (below : List Frame) (meth : Method) (c : Code) (D : va_G) (ou : Nat × (Nat → Nat)) (oo : Nat) (lc : ClassId) (o : Nat) (z4 : Int32) (cells slots : Nat) : Prop :=
  ∀ (E : cE) (x y : T2) (q : Nat → List Nat) (mm : Nat) (f : Nat → Int64) (ls : Array Slot) (H : Heap) (locs : List Loc), lwKX D lc s E → eO E = o → rI E x y q mm → va_P D vwCl (lwG ou E y oo lc f x) H → va_D (fun q : Nat => s.heap.size ≤ q) (lwG ou E y oo lc f x) → va_S (fun q : Nat => s.heap.size ≤ q) s.heap H locs → lv_has ls 7 [(0, .ref b), (1, .ref o), (2, .ref ou.1), (3, .ref oo), (4, .int z4)] →
    W p l e room_1 s m #[Value.ref b] below meth c H locs (cells + 1) (slots + 10) (lw_Z below #[Value.ref b] s) (F0 m 1248 ls [])
