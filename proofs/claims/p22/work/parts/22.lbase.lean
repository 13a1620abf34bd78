/-! lists: an ArrayList's cell and the row behind it, as worlds of their own; a callee that gets a part of the world -/
def lC (m : Int32) (a : Nat) (n : Int32) : va_E := .inr (0, [.int m, .ref a, .int n])
def lR (cO : ClassId) (f : Nat → Option Nat) : va_E := .inl (cO, 10, .inr (.inr (.inr (.inr f))))
section LROWS
variable {p : Program} {l : Launch} {e : Env} {R : Room} {s : State} {m : MethodId} {args : Array Value} {below : List Frame} {meth : Method} {c : Code} {H : Heap} {locs : List Loc} {cells slots : Nat} {Q : State → Prop}
variable {cc : ByteArray} {pc nL mc ms n index maxL : Nat} {ls : Array Slot} {rest st0 As : List Value} {D : va_G} {A : Nat → Prop} {tys : gTy} {w0 w1 : va_W} {y : MethodName} {bytes : ByteArray} {ret : Option FieldType} {wsy Ts : List Cond} {rm : Room} {own C : String} {b : Addr} {E : cE} {tl : gTy}
theorem q_ald (hexec : p.tables.exec = Jvm.exec) (hb : c.code = cc) (hK : va_K D vwCl tys s) (hP : va_P D vwCl w0 H) (q0 t0 : Nat) {C : String} {cA : ClassId} {k : Nat} {f : Nat → Option Nat} (ha : w0[q0]? = some (b, .inl (cA, k, .inr (.inr (.inr (.inr f)))))) (ht : tys[t0]? = some (cA, .object C)) {i : Nat} (hi : i < k) (hk : k < 2 ^ 31) (hdg : decode cc pc = .ok (.aaload, 1))
    (kk : W p l e R s m args below meth c H locs cells slots Q (F0 m (pc + 1) ls (va_rf (f i) :: rest))) : W p l e R s m args below meth c H locs cells slots Q (F0 m pc ls (.int (nI i) :: .ref b :: rest)) := by
  refine va_aldq hexec hb hK hP q0 t0 ha ht (vp_in_nI hi hk) hdg ?_
  rw [nI_clamp (by omega)]
  exact kk
/-- the world behind a call that had a part of it: w1 is what the callee got, w1' what it gave back, w0' the whole -/
theorem gFrame {cl : List vw_C} {w1' w0' : va_W} {H1 : Heap} (hP : va_P D cl w0 H) (hD : va_D A w0) (hsub : ∀ q ∈ w1, q ∈ w0) (hF : ∀ q : Nat, va_A w1 H.size q → A q) (hk : ∀ q : Nat, q < H.size → ¬ va_A w1 H.size q → H1[q]? = H[q]?)
    (hP1 : va_P D cl w1' H1) (hD1 : va_D (va_A w1 H.size) w1') (hres : ∀ q ∈ w0', q ∈ w1' ∨ (q ∈ w0 ∧ ∀ q1 ∈ w1, q.1 ≠ q1.1)) (new : List Nat) (hmap : w0'.map Prod.fst = w0.map Prod.fst ++ new) (hnew : new = [] ∨ ∃ a, new = [a] ∧ a ∉ w0.map Prod.fst) : va_P D cl w0' H1 ∧ va_D A w0' := by
  have at0 : ∀ q, q ∈ w0' → va_at D cl q H1 ∧ A q.1 := by
    intro q hq
    rcases hres q hq with h | ⟨h, hne⟩
    · obtain ⟨i, hi⟩ := List.getElem?_of_mem h
      exact ⟨hP1 i q hi, hF q.1 (hD1.2 i q hi)⟩
    · obtain ⟨i, hi⟩ := List.getElem?_of_mem h
      have hlt := (hP i q hi).lt
      refine ⟨(hP i q hi).kept (hk q.1 hlt ?_), hD.2 i q hi⟩
      rintro (⟨k, e', hk'⟩ | hge)
      · exact hne _ (List.mem_of_getElem? hk') rfl
      · omega
  refine ⟨fun k q hq => (at0 q (List.mem_of_getElem? hq)).1, fun i j p q hi hj hpq => ?_, fun k q hq => (at0 q (List.mem_of_getElem? hq)).2⟩
  have hi1 : (w0'.map Prod.fst)[i]? = some p.1 := by rw [List.getElem?_map, hi]; rfl
  have hj1 : (w0'.map Prod.fst)[j]? = some q.1 := by rw [List.getElem?_map, hj]; rfl
  rw [hmap] at hi1 hj1
  have old : ∀ (k : Nat) (a : Nat), k < (w0.map Prod.fst).length → (w0.map Prod.fst ++ new)[k]? = some a → ∃ z, w0[k]? = some z ∧ z.1 = a := by
    intro k a hk9 ha
    rw [List.getElem?_append_left hk9, List.getElem?_map] at ha
    cases hz : w0[k]? with
    | none => rw [hz] at ha; cases ha
    | some z => rw [hz] at ha; exact ⟨z, rfl, Option.some.inj ha⟩
  have key : ∀ (k : Nat) (a : Nat), (w0.map Prod.fst ++ new)[k]? = some a → (k < (w0.map Prod.fst).length) ∨ (k = (w0.map Prod.fst).length ∧ new = [a] ∧ a ∉ w0.map Prod.fst) := by
    intro k a ha
    by_cases hlt : k < (w0.map Prod.fst).length
    · exact Or.inl hlt
    · refine Or.inr ?_
      rw [List.getElem?_append_right (by omega)] at ha
      rcases hnew with rfl | ⟨a', rfl, hna⟩
      · simp at ha
      · have hz : k - (w0.map Prod.fst).length < 1 := by
          have := (List.getElem?_eq_some_iff.mp ha).1
          simpa using this
        have h0 : k = (w0.map Prod.fst).length := by omega
        subst h0
        rw [Nat.sub_self] at ha
        have : a' = a := Option.some.inj ha
        subst this
        exact ⟨rfl, rfl, hna⟩
  rcases key i p.1 hi1 with h1 | ⟨h1, g1, g2⟩ <;> rcases key j q.1 hj1 with h2 | ⟨h2, g3, g4⟩
  · obtain ⟨z1, e1, f1⟩ := old i _ h1 hi1
    obtain ⟨z2, e2, f2⟩ := old j _ h2 hj1
    exact hD.1 i j z1 z2 e1 e2 (by rw [f1, f2]; exact hpq)
  · obtain ⟨z1, e1, f1⟩ := old i _ h1 hi1
    exact absurd (List.mem_map.mpr ⟨z1, List.mem_of_getElem? e1, f1.trans hpq⟩) g4
  · obtain ⟨z2, e2, f2⟩ := old j _ h2 hj1
    exact absurd (List.mem_map.mpr ⟨z2, List.mem_of_getElem? e2, f2.trans hpq.symm⟩) g2
  · omega
theorem gFreeS {H0 : Heap} (hD : va_D A w0) (hS : va_S A H0 H locs) (hA : ∀ q : Nat, H0.size ≤ q → A q) (hsub : ∀ q ∈ w1, q ∈ w0) : ∀ q : Nat, va_A w1 H.size q → A q := by
  intro q h
  rcases h with ⟨k, e, hk⟩ | h
  · obtain ⟨i, hi⟩ := List.getElem?_of_mem (hsub _ (List.mem_of_getElem? hk))
    exact hD.2 i (q, e) hi
  · exact hA q (Nat.le_trans hS.1 h)
theorem gSubP {cl : List vw_C} (hP : va_P D cl w0 H) (hsub : ∀ q ∈ w1, q ∈ w0) : va_P D cl w1 H := by
  intro k q hq
  obtain ⟨i, hi⟩ := List.getElem?_of_mem (hsub q (List.mem_of_getElem? hq))
  exact hP i q hi
theorem gSubD (hD : va_D A w0) (hsub : ∀ q ∈ w1, q ∈ w0) (hnd : ∀ (i j : Nat) (p q : Nat × va_E), w1[i]? = some p → w1[j]? = some q → p.1 = q.1 → i = j) : va_D (fun _ => True) w1 := ⟨hnd, fun _ _ _ => trivial⟩
theorem hPre_sub (hK : va_K D vwCl (cT E tl) s) (hX : cX (eDf E) A s) (hP : va_P D vwCl w0 H) (hD : va_D A w0) (hS : va_S A s.heap H locs) (hA : ∀ q : Nat, s.heap.size ≤ q → A q) (hsub : ∀ q ∈ w1, q ∈ w0) (hnd : ∀ (i j : Nat) (p q : Nat × va_E), w1[i]? = some p → w1[j]? = some q → p.1 = q.1 → i = j) (av : List Value) : ∀ U : State, U.heap = H → s.WarmedH U.vm → hPre D E tl w1 H.size av av.toArray U := fun U hU hW =>
  ⟨⟨rfl, by rw [hU], by rw [hU]; exact gSubP hP hsub, va_K.moved hW.alike hK, hnd, fun _ _ _ => trivial⟩, hX.step hW (fun a h1 h2 => by rw [hU]; exact hS.2.1 a h1 h2) (gFreeS hD hS hA hsub)⟩
/-- a call that gets a part of the world, and leaves the whole as w0' u -/
theorem f_calli {S : Type} {post : Int32 → S → Prop} {wf w0' : S → va_W} (F : CallFix p m c cc nL s args Ts own) (hC : hI l y wsy rm D E tl w1 (.ref b :: As) post wf mc ms) (cw : CallW R s args own C index y bytes maxL ret wsy rm mc ms n) (hr : ∃ cell : Cell, H[b]? = some cell ∧ cell.vm.isStatics = false ∧ s.vm.findClass C = some cell.cls)
    (hK : va_K D vwCl (cT E tl) s) (hX : cX (eDf E) A s) (hP : va_P D vwCl w0 H) (hD : va_D A w0) (hS : va_S A s.heap H locs) (hA : ∀ q : Nat, s.heap.size ≤ q → A q) (hsub : ∀ q ∈ w1, q ∈ w0) (hnd : ∀ (i j : Nat) (p q : Nat × va_E), w1[i]? = some p → w1[j]? = some q → p.1 = q.1 → i = j)
    (hres : ∀ r u, post r u → va_D (va_A w1 H.size) (wf u) → (∀ q ∈ w0' u, q ∈ wf u ∨ (q ∈ w0 ∧ ∀ q1 ∈ w1, q.1 ≠ q1.1)) ∧ ∃ new, (w0' u).map Prod.fst = w0.map Prod.fst ++ new ∧ (new = [] ∨ ∃ a, new = [a] ∧ a ∉ w0.map Prod.fst))
    (hn : As.length = n) (hl : ls.size = nL) (hst : st0 = As.reverse ++ .ref b :: rest) (hW : (rest.map fun v => v.category).sum ≤ 8) (hdg : decode cc pc = .ok (.invokevirtual index, 3)) (hf : cells + mc ≤ R.cells ∧ slots + ms ≤ R.slots)
    (kk : ∀ (r : Int32) (u : S) (H1 : Heap) (locs1 : List Loc), post r u → va_P D vwCl (w0' u) H1 → va_D A (w0' u) → va_S A s.heap H1 locs1 → W p l e R s m args below meth c H1 locs1 (cells + mc) (slots + ms) Q (F0 m (pc + 3) ls (.int r :: rest))) : W p l e R s m args below meth c H locs cells slots Q (F0 m pc ls st0) := by
  refine va_calli (va_runV F (hC H.size) cw ⟨hPre_blind, hr, hPre_sub hK hX hP hD hS hA hsub hnd _⟩ rfl hn hl hst (lv_room hW) hdg hf) hS (fun q _ h => gFreeS hD hS hA hsub q h) (gFreeS hD hS hA hsub) (fun r u t H1 locs1 ht hvm hw hB hz1 hk1 hS1 => ?_)
  obtain ⟨hP1, hK1, hD1⟩ := hB
  rw [ht] at hP1
  obtain ⟨g1, new, g2, g3⟩ := hres r u hw hD1
  obtain ⟨k1, k2⟩ := gFrame hP hD hsub (gFreeS hD hS hA hsub) hk1 hP1 hD1 g1 new g2 g3
  exact kk r u H1 locs1 hw k1 k2 hS1
theorem f_callq {S : Type} {post : Option Nat → S → Prop} {wf w0' : S → va_W} (F : CallFix p m c cc nL s args Ts own) (hC : hQ l y wsy rm D E tl w1 (.ref b :: As) post wf mc ms) (cw : CallW R s args own C index y bytes maxL ret wsy rm mc ms n) (hr : ∃ cell : Cell, H[b]? = some cell ∧ cell.vm.isStatics = false ∧ s.vm.findClass C = some cell.cls)
    (hK : va_K D vwCl (cT E tl) s) (hX : cX (eDf E) A s) (hP : va_P D vwCl w0 H) (hD : va_D A w0) (hS : va_S A s.heap H locs) (hA : ∀ q : Nat, s.heap.size ≤ q → A q) (hsub : ∀ q ∈ w1, q ∈ w0) (hnd : ∀ (i j : Nat) (p q : Nat × va_E), w1[i]? = some p → w1[j]? = some q → p.1 = q.1 → i = j)
    (hres : ∀ r u, post r u → va_D (va_A w1 H.size) (wf u) → (∀ q ∈ w0' u, q ∈ wf u ∨ (q ∈ w0 ∧ ∀ q1 ∈ w1, q.1 ≠ q1.1)) ∧ ∃ new, (w0' u).map Prod.fst = w0.map Prod.fst ++ new ∧ (new = [] ∨ ∃ a, new = [a] ∧ a ∉ w0.map Prod.fst))
    (hn : As.length = n) (hl : ls.size = nL) (hst : st0 = As.reverse ++ .ref b :: rest) (hW : (rest.map fun v => v.category).sum ≤ 8) (hdg : decode cc pc = .ok (.invokevirtual index, 3)) (hf : cells + mc ≤ R.cells ∧ slots + ms ≤ R.slots)
    (kk : ∀ (r : Option Nat) (u : S) (H1 : Heap) (locs1 : List Loc), post r u → va_P D vwCl (w0' u) H1 → va_D A (w0' u) → va_S A s.heap H1 locs1 → W p l e R s m args below meth c H1 locs1 (cells + mc) (slots + ms) Q (F0 m (pc + 3) ls (va_rf r :: rest))) : W p l e R s m args below meth c H locs cells slots Q (F0 m pc ls st0) := by
  refine va_callq (va_runV F (hC H.size) cw ⟨hPre_blind, hr, hPre_sub hK hX hP hD hS hA hsub hnd _⟩ rfl hn hl hst (lv_room hW) hdg hf) hS (fun q _ h => gFreeS hD hS hA hsub q h) (gFreeS hD hS hA hsub) (fun r u t H1 locs1 ht hvm hw hB hz1 hk1 hS1 => ?_)
  obtain ⟨hP1, hK1, hD1⟩ := hB
  rw [ht] at hP1
  obtain ⟨g1, new, g2, g3⟩ := hres r u hw hD1
  obtain ⟨k1, k2⟩ := gFrame hP hD hsub (gFreeS hD hS hA hsub) hk1 hP1 hD1 g1 new g2 g3
  exact kk r u H1 locs1 hw k1 k2 hS1
theorem h_scalli {S : Type} {post : Int32 → S → Prop} {wf : S → va_W} (F : CallFix p m c cc nL s args Ts own) (hC : hI l y wsy rm D E tl w0 As post wf mc ms) (cw : CallB R s args own index y bytes maxL ret wsy rm mc ms n ∧ (Cond.static y).before args s = true)
    (hK : va_K D vwCl (cT E tl) s) (hX : cX (eDf E) A s) (hP : va_P D vwCl w0 H) (hD : va_D A w0) (hS : va_S A s.heap H locs) (hA : ∀ q : Nat, s.heap.size ≤ q → A q) (hn : As.length = n) (hl : ls.size = nL) (hst : st0 = As.reverse ++ rest) (hW : (rest.map fun v => v.category).sum ≤ 8) (hdg : decode cc pc = .ok (.invokestatic index, 3)) (hf : cells + mc ≤ R.cells ∧ slots + ms ≤ R.slots)
    (kk : ∀ (r : Int32) (u : S) (H1 : Heap) (locs1 : List Loc), post r u → va_P D vwCl (wf u) H1 → va_D A (wf u) → va_S A s.heap H1 locs1 → W p l e R s m args below meth c H1 locs1 (cells + mc) (slots + ms) Q (F0 m (pc + 3) ls (.int r :: rest))) : W p l e R s m args below meth c H locs cells slots Q (F0 m pc ls st0) := by
  refine va_calli (va_runS F (hC H.size) cw ⟨hPre_blind, hPre_at hK hX hP hD hS hA _⟩ rfl hn hl hst (lv_room hW) hdg hf) hS (fun q _ h => gFree hD hS hA q h) (gFree hD hS hA) (fun r u t H1 locs1 ht hvm hw hB hz1 hk1 hS1 => ?_)
  obtain ⟨hP1, hK1, hD1⟩ := hB
  rw [ht] at hP1
  exact kk r u H1 locs1 hw hP1 (hD1.weaken (fun k q _ h => gFree hD hS hA q.1 h)) hS1
end LROWS
