/-! the law's own calls of the class: each gives 0 and what the class answered, or the kind of what it threw -/
def cNc : List (String × String) := [("java/lang/IllegalArgumentException", "java/lang/IndexOutOfBoundsException"), ("java/lang/IllegalStateException", "java/lang/IndexOutOfBoundsException"), ("java/lang/IllegalStateException", "java/lang/IllegalArgumentException")]
def jNc (U : State) : Prop := ∀ q ∈ cNc, va_Nc q.1 q.2 U
def jPre (D : va_G) (E : cE) (tl : gTy) (w0 : va_W) (sz : Nat) (av : List Value) : Array Value → State → Prop := fun v U => hPre D E tl w0 sz av v U ∧ jNc U
theorem jPre_blind {D : va_G} {E : cE} {tl : gTy} {w0 : va_W} {sz : Nat} {av : List Value} : FrameBlind (jPre D E tl w0 sz av) := fun a U g mk q => ⟨hPre_blind a U g mk q.1, fun r hr => va_Nc.moved (u := U) (U := U.calling g mk a) (Vm.Alike.refl U.vm) (q.2 r hr)⟩
def jI {S : Type} (l : Launch) (y : MethodName) (ws : List Cond) (rm : Room) (D : va_G) (E : cE) (tl : gTy) (w0 : va_W) (av : List Value) (post : Int32 → S → Prop) (wf : S → va_W) (mc ms : Nat) : Prop :=
  ∀ sz : Nat, Met l y ws rm (jPre D E tl w0 sz av) (va_Qi post (gB D (cT E tl) wf (va_A w0 sz)) (va_A w0 sz)) mc ms (va_A w0 sz)
theorem jI.start {S : Type} {l : Launch} {y : MethodName} {ws ws' : List Cond} {rm : Room} {D : va_G} {E : cE} {tl : gTy} {w0 : va_W} {av : List Value} {post : Int32 → S → Prop} {wf : S → va_W} {mc ms : Nat} {cc : ByteArray} {maxL : Nat} {ret : Option FieldType} {own : String} {hh : List (Nat × Nat × Nat × Nat)}
    (hc : y.cls = own) (hy : plainName y.cls = true) (hw : ws = Cond.codeWith y cc maxL ret hh :: ws') (hn : (lg_sl av).length ≤ maxL)
    (k : ∀ (p : Program) (e : Env) (s : State) (m : MethodId) (args : Array Value) (below : List Frame) (meth : Method) (c : Code) (A : Nat → Prop) (ls : Array Slot) (H : Heap) (locs : List Loc), p.tables.exec = Jvm.exec → c.code = cc → c.maxLocals = maxL → meth.sig.returnType = ret → c.exceptionTable.toList = tableOf hh → (∀ w ∈ ws, w.before args s = true) → s.vm.findClass own = some m.cls → meth.locks = false → (∀ q : Nat, s.heap.size ≤ q → A q) → va_K D vwCl (cT E tl) s → cX (eDf E) A s → jNc s → va_P D vwCl w0 H → va_D A w0 → va_S A s.heap H locs → lv_has ls maxL (lv_args 0 av) →
      W p l e rm s m args below meth c H locs 0 0 (MQ below (va_Qi post (gB D (cT E tl) wf A) A) args s mc ms A) (F0 m 0 ls [])) : jI l y ws rm D E tl w0 av post wf mc ms := by
  intro sz
  refine va_MetW (cc := cc) (maxL := maxL) (ret := ret) (hh := hh) hy hw ?_
  intro p e s m args below meth c s₁ B hml hv
  obtain ⟨⟨⟨rfl, hsz, hP, hK, hD0⟩, hX⟩, hN⟩ := hv
  have hown : s.vm.findClass own = some m.cls := hc ▸ findClass_of_methodNamed B.named
  have hts := atoms_spec (ws := ws) B.pre
  subst hsz
  rw [lg_entry_eq]
  exact k p e s m _ below meth c _ _ s.heap [] B.exec B.bytes hml B.returns (vx_table (x := y) B (hts _ (by rw [hw]; exact List.mem_cons_self))) hts hown B.notSynchronized (fun q h => Or.inr h) hK hX hN hP (hD0.self (sz := s.heap.size)) va_S.rf (lv_entry av hn)
/-- the world behind a call that had its tail: what stood ahead stands as it was -/
theorem resPre {cl : List vw_C} {D : va_G} {A : Nat → Prop} {H : Heap} {pre w1 wfu : va_W} (hP : va_P D cl (pre ++ w1) H) (hD : va_D A (pre ++ w1)) (hDu : va_D (va_A w1 H.size) wfu) (hmap : ∃ new : List Nat, wfu.map Prod.fst = w1.map Prod.fst ++ new ∧ new.length ≤ 1) :
    (∀ q ∈ pre ++ wfu, q ∈ wfu ∨ (q ∈ pre ++ w1 ∧ ∀ q1 ∈ w1, q.1 ≠ q1.1)) ∧ ∃ new : List Nat, (pre ++ wfu).map Prod.fst = (pre ++ w1).map Prod.fst ++ new ∧ (new = [] ∨ ∃ a, new = [a] ∧ a ∉ (pre ++ w1).map Prod.fst) := by
  refine ⟨fun q hq => ?_, ?_⟩
  · rcases List.mem_append.mp hq with h | h
    · refine Or.inr ⟨List.mem_append_left _ h, fun q1 h1 h2 => ?_⟩
      obtain ⟨i, hi⟩ := List.getElem?_of_mem h
      obtain ⟨j, hj⟩ := List.getElem?_of_mem h1
      have hlt : i < pre.length := (List.getElem?_eq_some_iff.mp hi).1
      have := hD.1 i (pre.length + j) q q1 (by rw [List.getElem?_append_left hlt]; exact hi) (by rw [app_at]; exact hj) h2
      omega
    · exact Or.inl h
  · obtain ⟨new, h1, h2⟩ := hmap
    refine ⟨new, by rw [List.map_append, List.map_append, h1, List.append_assoc], ?_⟩
    match new, h1, h2 with
    | [], _, _ => exact Or.inl rfl
    | a :: b :: r, _, h2 => simp at h2
    | [a], h1, _ =>
      refine Or.inr ⟨a, rfl, fun hmem => ?_⟩
      have hlast : (wfu.map Prod.fst)[(w1.map Prod.fst).length]? = some a := by
        rw [h1, List.getElem?_append_right (Nat.le_refl _), Nat.sub_self]
        rfl
      rw [List.getElem?_map] at hlast
      cases hz : wfu[(w1.map Prod.fst).length]? with
      | none => rw [hz] at hlast; cases hlast
      | some z =>
        rw [hz] at hlast
        have hza : z.1 = a := Option.some.inj hlast
        have hfree := hDu.2 _ _ hz
        have hge : H.size ≤ z.1 := by
          rcases hfree with ⟨k, e', hk⟩ | hge
          · exfalso
            have hklt : k < w1.length := (List.getElem?_eq_some_iff.mp hk).1
            have hkk : (wfu.map Prod.fst)[k]? = some z.1 := by
              rw [h1, List.getElem?_append_left (by rw [List.length_map]; exact hklt), List.getElem?_map, hk]
              rfl
            rw [List.getElem?_map] at hkk
            cases hy : wfu[k]? with
            | none => rw [hy] at hkk; cases hkk
            | some y =>
              rw [hy] at hkk
              have h9 := hDu.1 k _ y z hy hz (Option.some.inj hkk)
              rw [List.length_map] at h9
              omega
          · exact hge
        obtain ⟨q, hq1, hq2⟩ := List.mem_map.mp hmem
        obtain ⟨i, hi⟩ := List.getElem?_of_mem hq1
        have hlt : q.1 < H.size := (hP i q hi).lt
        omega
section JCALL
variable {p : Program} {l : Launch} {e : Env} {R : Room} {s : State} {m : MethodId} {args : Array Value} {below : List Frame} {meth : Method} {c : Code} {H : Heap} {locs : List Loc} {cells slots : Nat} {Q : State → Prop}
variable {cc : ByteArray} {pc nL mc ms n index maxL : Nat} {ls : Array Slot} {rest st0 As : List Value} {D : va_G} {A : Nat → Prop} {E : cE} {tl : gTy} {pre w1 : va_W} {y : MethodName} {bytes : ByteArray} {ret : Option FieldType} {wsy Ts : List Cond} {rm : Room} {own C : String} {b : Addr} {X0 : String}
theorem subPre : ∀ q ∈ w1, q ∈ pre ++ w1 := fun _ h => List.mem_append_right _ h
theorem ndPre (hD : va_D A (pre ++ w1)) : ∀ (i j : Nat) (p q : Nat × va_E), w1[i]? = some p → w1[j]? = some q → p.1 = q.1 → i = j := fun i j p q hi hj h => by
  have := hD.1 (pre.length + i) (pre.length + j) p q (by rw [app_at]; exact hi) (by rw [app_at]; exact hj) h
  omega
theorem j_calli {S : Type} {post : Int32 → S → Prop} {wf : S → va_W} (F : CallFix p m c cc nL s args Ts own) (hC : hI l y wsy rm D E tl w1 (.ref b :: As) post wf mc ms) (cw : CallW R s args own C index y bytes maxL ret wsy rm mc ms n) (hr : ∃ cell : Cell, H[b]? = some cell ∧ cell.vm.isStatics = false ∧ s.vm.findClass C = some cell.cls)
    (hK : va_K D vwCl (cT E tl) s) (hX : cX (eDf E) A s) (hP : va_P D vwCl (pre ++ w1) H) (hD : va_D A (pre ++ w1)) (hS : va_S A s.heap H locs) (hA : ∀ q : Nat, s.heap.size ≤ q → A q) (hmap : ∀ r u, post r u → ∃ new : List Nat, (wf u).map Prod.fst = w1.map Prod.fst ++ new ∧ new.length ≤ 1)
    (hn : As.length = n) (hl : ls.size = nL) (hst : st0 = As.reverse ++ .ref b :: rest) (hW : (rest.map fun v => v.category).sum ≤ 8) (hdg : decode cc pc = .ok (.invokevirtual index, 3)) (hf : cells + mc ≤ R.cells ∧ slots + ms ≤ R.slots)
    (kk : ∀ (r : Int32) (u : S) (H1 : Heap) (locs1 : List Loc), post r u → va_P D vwCl (pre ++ wf u) H1 → va_D A (pre ++ wf u) → va_S A s.heap H1 locs1 → W p l e R s m args below meth c H1 locs1 (cells + mc) (slots + ms) Q (F0 m (pc + 3) ls (.int r :: rest))) : W p l e R s m args below meth c H locs cells slots Q (F0 m pc ls st0) :=
  f_calli (w0' := fun u => pre ++ wf u) F hC cw hr hK hX hP hD hS hA subPre (ndPre hD) (fun r u h hDu => resPre hP hD hDu (hmap r u h)) hn hl hst hW hdg hf kk
theorem j_callv {S : Type} {post : S → Prop} {wf : S → va_W} (F : CallFix p m c cc nL s args Ts own) (hC : hV l y wsy rm D E tl w1 (.ref b :: As) post wf mc ms) (cw : CallW R s args own C index y bytes maxL ret wsy rm mc ms n) (hr : ∃ cell : Cell, H[b]? = some cell ∧ cell.vm.isStatics = false ∧ s.vm.findClass C = some cell.cls)
    (hK : va_K D vwCl (cT E tl) s) (hX : cX (eDf E) A s) (hP : va_P D vwCl (pre ++ w1) H) (hD : va_D A (pre ++ w1)) (hS : va_S A s.heap H locs) (hA : ∀ q : Nat, s.heap.size ≤ q → A q) (hmap : ∀ u, post u → ∃ new : List Nat, (wf u).map Prod.fst = w1.map Prod.fst ++ new ∧ new.length ≤ 1)
    (hn : As.length = n) (hl : ls.size = nL) (hst : st0 = As.reverse ++ .ref b :: rest) (hW : (rest.map fun v => v.category).sum ≤ 8) (hdg : decode cc pc = .ok (.invokevirtual index, 3)) (hf : cells + mc ≤ R.cells ∧ slots + ms ≤ R.slots)
    (kk : ∀ (u : S) (H1 : Heap) (locs1 : List Loc), post u → va_P D vwCl (pre ++ wf u) H1 → va_D A (pre ++ wf u) → va_S A s.heap H1 locs1 → W p l e R s m args below meth c H1 locs1 (cells + mc) (slots + ms) Q (F0 m (pc + 3) ls rest)) : W p l e R s m args below meth c H locs cells slots Q (F0 m pc ls st0) := by
  refine va_callv (va_runV F (hC H.size) cw ⟨hPre_blind, hr, hPre_sub hK hX hP hD hS hA subPre (ndPre hD) _⟩ rfl hn hl hst (lv_room hW) hdg hf) hS (fun q _ h => gFreeS hD hS hA subPre q h) (gFreeS hD hS hA subPre) (fun u t H1 locs1 ht hvm hw hB hz1 hk1 hS1 => ?_)
  obtain ⟨hP1, hK1, hD1⟩ := hB
  rw [ht] at hP1
  obtain ⟨g1, new, g2, g3⟩ := resPre hP hD hD1 (hmap u hw)
  obtain ⟨k1, k2⟩ := gFrame hP hD subPre (gFreeS hD hS hA subPre) hk1 hP1 hD1 g1 new g2 g3
  exact kk u H1 locs1 hw k1 k2 hS1
theorem j_callt (F : CallFix p m c cc nL s args Ts own) (hC : hT l y wsy rm D E tl w1 (.ref b :: As) X0) (cw : CallW R s args own C index y bytes maxL ret wsy rm 1 6 n) (hr : ∃ cell : Cell, H[b]? = some cell ∧ cell.vm.isStatics = false ∧ s.vm.findClass C = some cell.cls)
    (hK : va_K D vwCl (cT E tl) s) (hX : cX (eDf E) A s) (hP : va_P D vwCl (pre ++ w1) H) (hD : va_D A (pre ++ w1)) (hS : va_S A s.heap H locs) (hA : ∀ q : Nat, s.heap.size ≤ q → A q)
    (hn : As.length = n) (hl : ls.size = nL) (hst : st0 = As.reverse ++ .ref b :: rest) (hW : (rest.map fun v => v.category).sum ≤ 8) (hdg : decode cc pc = .ok (.invokevirtual index, 3)) (hf : cells + 1 ≤ R.cells ∧ slots + 6 ≤ R.slots)
    (kx : ∀ (q9 : Addr) (ce : Cell) (H1 : Heap) (locs1 : List Loc), va_P D vwCl (pre ++ w1) H1 → va_S A s.heap H1 locs1 → H1[q9]? = some ce → ce.vm = .none → s.vm.findClass X0 = some ce.cls → vx_W p l e R s m args below meth c H1 locs1 (cells + 1) (slots + 6) Q (F0 m pc ls rest) q9) : W p l e R s m args below meth c H locs cells slots Q (F0 m pc ls st0) := by
  intro T hT X
  rcases (vx_runV F (hC H.size) cw ⟨hPre_blind, hr, hPre_sub hK hX hP hD hS hA subPre (ndPre hD) _⟩ rfl hn hl hst (lv_room hW) hdg hf) T hT X with ⟨v, st₀, t, T', L, h0, X', hL, e1, e2, hF, st⟩ | ⟨q, st₀, t, T', L, E9, ce, h0, X', hL, e1, e2, ⟨u, -, ⟨hE, hB⟩, hF⟩, hce, hcv, hcl, st⟩
  · exact hF.elim
  · obtain ⟨k1, k2, k3⟩ := vx_keep h0 e1 hS (fun q _ h => gFreeS hD hS hA subPre q h) (gFreeS hD hS hA subPre) hL hF
    obtain ⟨hP1, hK1, hD1⟩ := hB
    have hP2 : va_P D vwCl w1 T'.heap := by rw [e1]; exact hP1
    have hg := gFrame (w0' := pre ++ w1) hP hD subPre (gFreeS hD hS hA subPre) k2 hP2 hD1 (resPre hP hD hD1 ⟨[], by rw [List.append_nil], Nat.zero_le _⟩).1 [] (by rw [List.append_nil]) (Or.inl rfl)
    subst hE
    obtain ⟨t2, a1, b1⟩ := kx q ce T'.heap (locs ++ L) hg.1 k3 (by rw [e1]; exact hce) hcv hcl T' rfl X'
    exact ⟨t2, st.trans a1, b1⟩
end JCALL
