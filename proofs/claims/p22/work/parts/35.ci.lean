/-! constructors of the class: a world that grows at its end -/
theorem app_at {w r : va_W} (k : Nat) : (w ++ r)[w.length + k]? = r[k]? := by
  rw [List.getElem?_append_right (by omega), Nat.add_sub_cancel_left]
theorem app_set {w r : va_W} (k : Nat) (q : Nat × va_E) : (w ++ r).set (w.length + k) q = w ++ r.set k q := by
  rw [List.set_append_right _ _ (by omega), Nat.add_sub_cancel_left]
theorem app_two (w : va_W) (a b : Nat × va_E) : w ++ [a, b] = (w ++ [a]) ++ [b] := by
  rw [List.append_assoc]
  rfl
section ICALL
variable {p : Program} {l : Launch} {e : Env} {R : Room} {s : State} {m : MethodId} {args : Array Value} {below : List Frame} {meth : Method} {c : Code} {H : Heap} {locs : List Loc} {cells slots : Nat} {Q : State → Prop}
variable {cc : ByteArray} {pc nL mc ms n index maxL : Nat} {ls : Array Slot} {rest st0 As : List Value} {D : va_G} {A : Nat → Prop} {E : cE} {tl : gTy} {w0 : va_W} {y : MethodName} {bytes : ByteArray} {wsy Ts : List Cond} {rm : Room} {own host : String} {b : Addr}
theorem h_callI {S : Type} {post : S → Prop} {wf : S → va_W} (F : CallFix p m c cc nL s args Ts own) (hC : hV l y wsy rm D E tl w0 (.ref b :: As) post wf mc ms) (cw : CallB R s args own index y bytes maxL none wsy rm mc ms n ∧ y.name = "<init>" ∧ (Cond.instanceMethod y).before args s = true)
    (hK : va_K D vwCl (cT E tl) s) (hX : cX (eDf E) A s) (hP : va_P D vwCl w0 H) (hD : va_D A w0) (hS : va_S A s.heap H locs) (hA : ∀ q : Nat, s.heap.size ≤ q → A q) (hn : As.length = n) (hl : ls.size = nL) (hst : st0 = As.reverse ++ .ref b :: rest) (hW : (rest.map fun v => v.category).sum ≤ 8) (hdg : decode cc pc = .ok (.invokespecial index, 3)) (hf : cells + mc ≤ R.cells ∧ slots + ms ≤ R.slots)
    (kk : ∀ (u : S) (H1 : Heap) (locs1 : List Loc), post u → va_P D vwCl (wf u) H1 → va_D A (wf u) → va_S A s.heap H1 locs1 → W p l e R s m args below meth c H1 locs1 (cells + mc) (slots + ms) Q (F0 m (pc + 3) ls rest)) : W p l e R s m args below meth c H locs cells slots Q (F0 m pc ls st0) := by
  refine va_callv (va_runI F (hC H.size) cw ⟨hPre_blind, hPre_at hK hX hP hD hS hA _⟩ rfl hn hl hst (lv_room hW) hdg hf) hS (fun q _ h => gFree hD hS hA q h) (gFree hD hS hA) (fun u t H1 locs1 ht hvm hw hB hz1 hk1 hS1 => ?_)
  obtain ⟨hP1, hK1, hD1⟩ := hB
  rw [ht] at hP1
  exact kk u H1 locs1 hw hP1 (hD1.weaken (fun k q _ h => gFree hD hS hA q.1 h)) hS1
theorem h_callN {S : Type} {post : S → Prop} {wf : S → va_W} (F : CallFix p m c cc nL s args Ts own) (hC : hV l y wsy rm D E tl w0 (.ref b :: As) post wf mc ms) (cw : va_CN R s args own index y host bytes maxL none wsy rm mc ms n ∧ y.name = "<init>" ∧ (Cond.instanceMethod y).before args s = true)
    (hK : va_K D vwCl (cT E tl) s) (hX : cX (eDf E) A s) (hP : va_P D vwCl w0 H) (hD : va_D A w0) (hS : va_S A s.heap H locs) (hA : ∀ q : Nat, s.heap.size ≤ q → A q) (hn : As.length = n) (hl : ls.size = nL) (hst : st0 = As.reverse ++ .ref b :: rest) (hW : (rest.map fun v => v.category).sum ≤ 8) (hdg : decode cc pc = .ok (.invokespecial index, 3)) (hf : cells + mc ≤ R.cells ∧ slots + ms ≤ R.slots)
    (kk : ∀ (u : S) (H1 : Heap) (locs1 : List Loc), post u → va_P D vwCl (wf u) H1 → va_D A (wf u) → va_S A s.heap H1 locs1 → W p l e R s m args below meth c H1 locs1 (cells + mc) (slots + ms) Q (F0 m (pc + 3) ls rest)) : W p l e R s m args below meth c H locs cells slots Q (F0 m pc ls st0) := by
  refine va_callv (va_runIN F (hC H.size) cw ⟨hPre_blind, hPre_at hK hX hP hD hS hA _⟩ rfl hn hl hst (lv_room hW) hdg hf) hS (fun q _ h => gFree hD hS hA q h) (gFree hD hS hA) (fun u t H1 locs1 ht hvm hw hB hz1 hk1 hS1 => ?_)
  obtain ⟨hP1, hK1, hD1⟩ := hB
  rw [ht] at hP1
  exact kk u H1 locs1 hw hP1 (hD1.weaken (fun k q _ h => gFree hD hS hA q.1 h)) hS1
end ICALL

set_option maxHeartbeats 4000000 in
set_option maxRecDepth 100000 in
theorem c_Jxa1e45_init_da8c8 (l : Launch) (D : va_G) (E : cE) (tl : gTy) (w : va_W) (la : Nat) : hV l yJxa1e45_init_da8c8 wsJxa1e45_init_da8c8 ({ frames := 1, cells := 0, slots := 0, locals := 12 } : Room) D E tl w [.ref la] (fun u : Unit => True) (fun _ => w) 0 0 := by
  refine hM.start (cc := cJxa1e45_init_da8c8) (maxL := 1) (ret := none) (own := RJxa1e45) rfl (by decide) rfl (Nat.le_of_ble_eq_true rfl) ?_
  intro pr e s m args below meth c A ls H locs hx hb hml hr hts hown hlocks hname hA hK hX hP hD hS hl
  replace hl : lv_has ls 1 [(0, .ref la)] := hl
  refine lv_aload_n hx hb dJxa1e45_init_da8c8_0 rfl (lv_at hl 0 rfl) ?_
  refine W.objInit hx hb hown (hts (.methodLink RJxa1e45 1 objectInit) (by decide +kernel)) (hts (.instanceMethod objectInit) (by decide +kernel)) (hts (.code objectInit ⟨#[0xb1]⟩ 1 none) (by decide +kernel)) rfl (by rw [hml]; exact hl.1) rfl dJxa1e45_init_da8c8_1 (Nat.le_of_ble_eq_true rfl) (Nat.le_of_ble_eq_true rfl) ?_
  refine W.eq (g2 := F0 m 4 ls []) rfl ?_
  exact W.vret hx hb hr (fun t ht hW => ⟨⟨(), rfl, trivial, by rw [ht]; exact hP, va_K.moved hW.alike hK, hD⟩, hS.F ht⟩) hS.2.2 dJxa1e45_init_da8c8_4

set_option maxHeartbeats 4000000 in
set_option maxRecDepth 100000 in
theorem c_Jxc12de_init_da8c8 (l : Launch) (D : va_G) (E : cE) (tl : gTy) (w : va_W) (la : Nat) (v : Value) : hV l yJxc12de_init_da8c8 wsJxc12de_init_da8c8 ({ frames := 2, cells := 0, slots := 0, locals := 32 } : Room) D E tl (w ++ [(la, .inr (0, [.int 0, v, .int 0]))]) [.ref la] (fun u : Unit => True) (fun _ => (w ++ [(la, .inr (0, [.int (nI 0), v, .int 0]))])) 0 0 := by
  refine hM.start (cc := cJxc12de_init_da8c8) (maxL := 1) (ret := none) (own := RJxc12de) rfl (by decide) rfl (Nat.le_of_ble_eq_true rfl) ?_
  intro pr e s m args below meth c A ls H locs hx hb hml hr hts hown hlocks hname hA hK hX hP hD hS hl
  replace hl : lv_has ls 1 [(0, .ref la)] := hl
  have hinC : ∀ w ∈ wsJx4a65c0, w ∈ wsJxc12de_init_da8c8 := by decide +kernel
  have k7 := hts (.fieldLink RJxc12de 7 "java/util/AbstractList" "modCount" "I") (by decide +kernel)
  refine lv_aload_n hx hb dJxc12de_init_da8c8_0 rfl (lv_at hl 0 rfl) ?_
  refine h_callI (As := []) (rest := []) ⟨hx, hb, hml, hown, hts⟩ (c_Jxa1e45_init_da8c8 l D E tl (w ++ [(la, .inr (0, [.int 0, v, .int 0]))]) la) (cwI 0 hts gJxc12de_init_da8c8_Jxa1e45_init_da8c8 rfl rfl rfl (hts (.initialized RJxa1e45) (by decide +kernel)) (hts (.methodLink RJxc12de 1 yJxa1e45_init_da8c8) (by decide +kernel)) (hts (.instanceMethod yJxa1e45_init_da8c8) (by decide +kernel)) rfl (by decide +kernel) ⟨Nat.le_of_ble_eq_true rfl, Nat.le_of_ble_eq_true rfl⟩) hK hX hP hD hS hA rfl hl.1 rfl (Nat.le_of_ble_eq_true rfl) dJxc12de_init_da8c8_1 ⟨Nat.le_of_ble_eq_true rfl, Nat.le_of_ble_eq_true rfl⟩ (fun u_1 H locs hw hP hD hS => ?_)
  refine lv_aload_n hx hb dJxc12de_init_da8c8_4 rfl (lv_at hl 0 rfl) ?_
  refine lv_iconst (v := nI 0) hx hb dJxc12de_init_da8c8_5 (by decide) ?_
  refine va_put (D := D) (ci := 0) (v := .int (nI 0)) (ty := .int) (C := RJx4a65c) (T := TJx4a65c) (N := 3) hx hb hts hinC tyJx4a65c tyJx4a65c_ok nmJx4a65c hown hK hP hD hS (w.length + 0) (app_at 0) rfl 0 (by decide) k7 (fun _ h9 => h9) rfl (by decide +kernel) rfl rfl (Nat.le_of_ble_eq_true rfl) dJxc12de_init_da8c8_6 (fun H locs hP hD hS => ?_)
  rw [app_set] at hP hD
  replace hP : va_P D vwCl (w ++ [(la, .inr (0, [.int (nI 0), v, .int 0]))]) H := hP
  replace hD : va_D A (w ++ [(la, .inr (0, [.int (nI 0), v, .int 0]))]) := hD
  exact W.vret hx hb hr (fun t ht hW => ⟨⟨(), rfl, trivial, by rw [ht]; exact hP, va_K.moved hW.alike hK, hD⟩, hS.F ht⟩) hS.2.2 dJxc12de_init_da8c8_9

set_option maxHeartbeats 4000000 in
set_option maxRecDepth 100000 in
theorem c_Jx4a65c_init_da8c8 (l : Launch) (D : va_G) (E : cE) (tl : gTy) (w : va_W) (la : Nat) : hV l yJx4a65c_init_da8c8 wsJx4a65c_init_da8c8 ({ frames := 3, cells := 0, slots := 0, locals := 52 } : Room) D E tl (w ++ [(la, .inr (0, [.int 0, .null, .int 0]))]) [.ref la] (fun u : Unit => True) (fun _ => (w ++ [(la, lC (nI 0) (eDf E) (nI 0))])) 0 0 := by
  refine hM.start (cc := cJx4a65c_init_da8c8) (maxL := 1) (ret := none) (own := RJx4a65c) rfl (by decide) rfl (Nat.le_of_ble_eq_true rfl) ?_
  intro pr e s m args below meth c A ls H locs hx hb hml hr hts hown hlocks hname hA hK hX hP hD hS hl
  replace hl : lv_has ls 1 [(0, .ref la)] := hl
  have hinC : ∀ w ∈ wsJx4a65c0, w ∈ wsJx4a65c_init_da8c8 := by decide +kernel
  have k39 := hts (.fieldLink RJx4a65c 39 "java/util/ArrayList" "DEFAULTCAPACITY_EMPTY_ELEMENTDATA" "[Ljava/lang/Object;") (by decide +kernel)
  have k9 := hts (.fieldLink RJx4a65c 9 "java/util/ArrayList" "elementData" "[Ljava/lang/Object;") (by decide +kernel)
  refine lv_aload_n hx hb dJx4a65c_init_da8c8_0 rfl (lv_at hl 0 rfl) ?_
  refine h_callI (As := []) (rest := []) ⟨hx, hb, hml, hown, hts⟩ (c_Jxc12de_init_da8c8 l D E tl w la .null) (cwI 0 hts gJx4a65c_init_da8c8_Jxc12de_init_da8c8 rfl rfl rfl (hts (.initialized RJxc12de) (by decide +kernel)) (hts (.methodLink RJx4a65c 1 yJxc12de_init_da8c8) (by decide +kernel)) (hts (.instanceMethod yJxc12de_init_da8c8) (by decide +kernel)) rfl (by decide +kernel) ⟨Nat.le_of_ble_eq_true rfl, Nat.le_of_ble_eq_true rfl⟩) hK hX hP hD hS hA rfl hl.1 rfl (Nat.le_of_ble_eq_true rfl) dJx4a65c_init_da8c8_1 ⟨Nat.le_of_ble_eq_true rfl, Nat.le_of_ble_eq_true rfl⟩ (fun u_1 H locs hw hP hD hS => ?_)
  refine lv_aload_n hx hb dJx4a65c_init_da8c8_4 rfl (lv_at hl 0 rfl) ?_
  refine va_gets (C := "java/util/ArrayList") (ref := "java/util/ArrayList") hx hb hX.2.2.2.2.2.1 hS hown k39 (fun _ h => h) dJx4a65c_init_da8c8_5 ?_
  refine va_put (D := D) (ci := 0) (v := .ref (eDf E)) (ty := .array (.object "java/lang/Object")) (C := RJx4a65c) (T := TJx4a65c) (N := 3) hx hb hts hinC tyJx4a65c tyJx4a65c_ok nmJx4a65c hown hK hP hD hS (w.length + 0) (app_at 0) rfl 1 (by decide) k9 (fun _ h9 => h9) rfl (by decide +kernel) rfl rfl (Nat.le_of_ble_eq_true rfl) dJx4a65c_init_da8c8_8 (fun H locs hP hD hS => ?_)
  rw [app_set] at hP hD
  replace hP : va_P D vwCl (w ++ [(la, .inr (0, [.int (nI 0), .ref (eDf E), .int 0]))]) H := hP
  replace hD : va_D A (w ++ [(la, .inr (0, [.int (nI 0), .ref (eDf E), .int 0]))]) := hD
  exact W.vret hx hb hr (fun t ht hW => ⟨⟨(), rfl, trivial, by rw [ht]; exact hP, va_K.moved hW.alike hK, hD⟩, hS.F ht⟩) hS.2.2 dJx4a65c_init_da8c8_11

set_option maxHeartbeats 4000000 in
set_option maxRecDepth 100000 in
theorem c_X0_init (l : Launch) (D : va_G) (E : cE) (tl : gTy) (w : va_W) (o j : Nat) : hV l yX0_init wsX0_init ({ frames := 1, cells := 0, slots := 0, locals := 12 } : Room) D E tl (w ++ [(o, .inr (1, [.int 0, .int 0, .int 0, .int 0, .int 0, .int 0]))]) [.ref o, .int (nI j)] (fun u : Unit => True) (fun _ => (w ++ [(o, .inr (1, [.int (nI j), .int (nI 2), .int (nI 5), .int (nI 1), .int (nI 10), .int (nI 0)]))])) 0 0 := by
  refine hM.start (cc := cX0_init) (maxL := 2) (ret := none) (own := RX0) rfl (by decide) rfl (Nat.le_of_ble_eq_true rfl) ?_
  intro pr e s m args below meth c A ls H locs hx hb hml hr hts hown hlocks hname hA hK hX hP hD hS hl
  replace hl : lv_has ls 2 [(0, .ref o), (1, .int (nI j))] := hl
  have hinC : ∀ w ∈ wsX00, w ∈ wsX0_init := by decide +kernel
  have k7 := hts (.fieldLink RX0 7 "FairFolio$Pavilion" "room" "I") (by decide +kernel)
  have k13 := hts (.fieldLink RX0 13 "FairFolio$Pavilion" "time" "I") (by decide +kernel)
  have k16 := hts (.fieldLink RX0 16 "FairFolio$Pavilion" "isOpen" "Z") (by decide +kernel)
  have k20 := hts (.fieldLink RX0 20 "FairFolio$Pavilion" "stock" "I") (by decide +kernel)
  have k23 := hts (.fieldLink RX0 23 "FairFolio$Pavilion" "demand" "I") (by decide +kernel)
  have k26 := hts (.fieldLink RX0 26 "FairFolio$Pavilion" "number" "I") (by decide +kernel)
  refine lv_aload_n hx hb dX0_init_0 rfl (lv_at hl 0 rfl) ?_
  refine W.objInit hx hb hown (hts (.methodLink RX0 1 objectInit) (by decide +kernel)) (hts (.instanceMethod objectInit) (by decide +kernel)) (hts (.code objectInit ⟨#[0xb1]⟩ 1 none) (by decide +kernel)) rfl (by rw [hml]; exact hl.1) rfl dX0_init_1 (Nat.le_of_ble_eq_true rfl) (Nat.le_of_ble_eq_true rfl) ?_
  refine W.eq (g2 := F0 m 4 ls []) rfl ?_
  refine lv_aload_n hx hb dX0_init_4 rfl (lv_at hl 0 rfl) ?_
  refine lv_iconst (v := nI 2) hx hb dX0_init_5 (by decide) ?_
  refine va_put (D := D) (ci := 1) (v := .int (nI 2)) (ty := .int) (C := RX0) (T := TX0) (N := 6) hx hb hts hinC tyX0 tyX0_ok nmX0 hown hK hP hD hS (w.length + 0) (app_at 0) rfl 1 (by decide) k7 (fun _ h9 => h9) rfl (by decide +kernel) rfl rfl (Nat.le_of_ble_eq_true rfl) dX0_init_6 (fun H locs hP hD hS => ?_)
  rw [app_set] at hP hD
  replace hP : va_P D vwCl (w ++ [(o, .inr (1, [.int 0, .int (nI 2), .int 0, .int 0, .int 0, .int 0]))]) H := hP
  replace hD : va_D A (w ++ [(o, .inr (1, [.int 0, .int (nI 2), .int 0, .int 0, .int 0, .int 0]))]) := hD
  refine lv_aload_n hx hb dX0_init_9 rfl (lv_at hl 0 rfl) ?_
  refine lv_iconst (v := nI 5) hx hb dX0_init_10 (by decide) ?_
  refine va_put (D := D) (ci := 1) (v := .int (nI 5)) (ty := .int) (C := RX0) (T := TX0) (N := 6) hx hb hts hinC tyX0 tyX0_ok nmX0 hown hK hP hD hS (w.length + 0) (app_at 0) rfl 2 (by decide) k13 (fun _ h9 => h9) rfl (by decide +kernel) rfl rfl (Nat.le_of_ble_eq_true rfl) dX0_init_11 (fun H locs hP hD hS => ?_)
  rw [app_set] at hP hD
  replace hP : va_P D vwCl (w ++ [(o, .inr (1, [.int 0, .int (nI 2), .int (nI 5), .int 0, .int 0, .int 0]))]) H := hP
  replace hD : va_D A (w ++ [(o, .inr (1, [.int 0, .int (nI 2), .int (nI 5), .int 0, .int 0, .int 0]))]) := hD
  refine lv_aload_n hx hb dX0_init_14 rfl (lv_at hl 0 rfl) ?_
  refine lv_iconst (v := nI 1) hx hb dX0_init_15 (by decide) ?_
  refine va_put (D := D) (ci := 1) (v := .int (nI 1)) (ty := .boolean) (C := RX0) (T := TX0) (N := 6) hx hb hts hinC tyX0 tyX0_ok nmX0 hown hK hP hD hS (w.length + 0) (app_at 0) rfl 3 (by decide) k16 (fun _ h9 => h9) rfl (by decide +kernel) rfl rfl (Nat.le_of_ble_eq_true rfl) dX0_init_16 (fun H locs hP hD hS => ?_)
  rw [app_set] at hP hD
  replace hP : va_P D vwCl (w ++ [(o, .inr (1, [.int 0, .int (nI 2), .int (nI 5), .int (nI 1), .int 0, .int 0]))]) H := hP
  replace hD : va_D A (w ++ [(o, .inr (1, [.int 0, .int (nI 2), .int (nI 5), .int (nI 1), .int 0, .int 0]))]) := hD
  refine lv_aload_n hx hb dX0_init_19 rfl (lv_at hl 0 rfl) ?_
  refine lv_bipush (v := nI 10) hx hb dX0_init_20 (by decide) ?_
  refine va_put (D := D) (ci := 1) (v := .int (nI 10)) (ty := .int) (C := RX0) (T := TX0) (N := 6) hx hb hts hinC tyX0 tyX0_ok nmX0 hown hK hP hD hS (w.length + 0) (app_at 0) rfl 4 (by decide) k20 (fun _ h9 => h9) rfl (by decide +kernel) rfl rfl (Nat.le_of_ble_eq_true rfl) dX0_init_22 (fun H locs hP hD hS => ?_)
  rw [app_set] at hP hD
  replace hP : va_P D vwCl (w ++ [(o, .inr (1, [.int 0, .int (nI 2), .int (nI 5), .int (nI 1), .int (nI 10), .int 0]))]) H := hP
  replace hD : va_D A (w ++ [(o, .inr (1, [.int 0, .int (nI 2), .int (nI 5), .int (nI 1), .int (nI 10), .int 0]))]) := hD
  refine lv_aload_n hx hb dX0_init_25 rfl (lv_at hl 0 rfl) ?_
  refine lv_iconst (v := nI 0) hx hb dX0_init_26 (by decide) ?_
  refine va_put (D := D) (ci := 1) (v := .int (nI 0)) (ty := .int) (C := RX0) (T := TX0) (N := 6) hx hb hts hinC tyX0 tyX0_ok nmX0 hown hK hP hD hS (w.length + 0) (app_at 0) rfl 5 (by decide) k23 (fun _ h9 => h9) rfl (by decide +kernel) rfl rfl (Nat.le_of_ble_eq_true rfl) dX0_init_27 (fun H locs hP hD hS => ?_)
  rw [app_set] at hP hD
  replace hP : va_P D vwCl (w ++ [(o, .inr (1, [.int 0, .int (nI 2), .int (nI 5), .int (nI 1), .int (nI 10), .int (nI 0)]))]) H := hP
  replace hD : va_D A (w ++ [(o, .inr (1, [.int 0, .int (nI 2), .int (nI 5), .int (nI 1), .int (nI 10), .int (nI 0)]))]) := hD
  refine lv_aload_n hx hb dX0_init_30 rfl (lv_at hl 0 rfl) ?_
  refine lv_iload_n hx hb dX0_init_31 rfl (lv_at hl 1 rfl) ?_
  refine va_putF (D := D) (ci := 1) (v := .int (nI j)) (ty := .int) (C := RX0) (T := TX0) (N := 6) hx hb hts hinC tyX0 tyX0_ok nmX0 hown hK hP hD hS (w.length + 0) (app_at 0) rfl 0 (by decide) k26 (fun _ h9 => h9) rfl hname rfl (by decide +kernel) rfl rfl (Nat.le_of_ble_eq_true rfl) dX0_init_32 (fun H locs hP hD hS => ?_)
  rw [app_set] at hP hD
  replace hP : va_P D vwCl (w ++ [(o, .inr (1, [.int (nI j), .int (nI 2), .int (nI 5), .int (nI 1), .int (nI 10), .int (nI 0)]))]) H := hP
  replace hD : va_D A (w ++ [(o, .inr (1, [.int (nI j), .int (nI 2), .int (nI 5), .int (nI 1), .int (nI 10), .int (nI 0)]))]) := hD
  exact W.vret hx hb hr (fun t ht hW => ⟨⟨(), rfl, trivial, by rw [ht]; exact hP, va_K.moved hW.alike hK, hD⟩, hS.F ht⟩) hS.2.2 dX0_init_35

set_option maxHeartbeats 4000000 in
set_option maxRecDepth 100000 in
theorem c_X1_init (l : Launch) (D : va_G) (E : cE) (tl : gTy) (w : va_W) (o : Nat) : hV l yX1_init wsX1_init ({ frames := 4, cells := 2, slots := 9, locals := 72 } : Room) D E tl (w ++ [(o, .inr (2, [.null, .null, .int 0, .int 0, .int 0, .int 0, .int 0, .int 0, .null, .int 0]))]) [.ref o] (fun u : Nat × Nat => True) (fun u => (w ++ [(o, .inr (2, [.ref u.1, .ref u.2, .int (nI 0), .int (-1), .int (-1), .int (-1), .int (nI 0), .int (-1), .null, .int (nI 0)])), (u.1, lC (nI 0) (eDf E) (nI 0)), (u.2, .inl (eI E, 6, .inl (fun _ => 0)))])) 2 9 := by
  refine hM.start (cc := cX1_init) (maxL := 1) (ret := none) (own := RX1) rfl (by decide) rfl (Nat.le_of_ble_eq_true rfl) ?_
  intro pr e s m args below meth c A ls H locs hx hb hml hr hts hown hlocks hname hA hK hX hP hD hS hl
  replace hl : lv_has ls 1 [(0, .ref o)] := hl
  have hinC : ∀ w ∈ wsX10, w ∈ wsX1_init := by decide +kernel
  have k12 := hts (.fieldLink RX1 12 "FairFolio$Visitor" "plan" "Ljava/util/ArrayList;") (by decide +kernel)
  have k18 := hts (.fieldLink RX1 18 "FairFolio$Visitor" "sent" "[I") (by decide +kernel)
  have k22 := hts (.fieldLink RX1 22 "FairFolio$Visitor" "state" "I") (by decide +kernel)
  have k26 := hts (.fieldLink RX1 26 "FairFolio$Visitor" "where" "I") (by decide +kernel)
  have k29 := hts (.fieldLink RX1 29 "FairFolio$Visitor" "place" "I") (by decide +kernel)
  have k32 := hts (.fieldLink RX1 32 "FairFolio$Visitor" "visitEnd" "I") (by decide +kernel)
  have k35 := hts (.fieldLink RX1 35 "FairFolio$Visitor" "stamps" "I") (by decide +kernel)
  have k38 := hts (.fieldLink RX1 38 "FairFolio$Visitor" "turnMinute" "I") (by decide +kernel)
  have k41 := hts (.fieldLink RX1 41 "FairFolio$Visitor" "turnPavilion" "LFairFolio$Pavilion;") (by decide +kernel)
  have k45 := hts (.fieldLink RX1 45 "FairFolio$Visitor" "waitsByTurn" "Z") (by decide +kernel)
  refine lv_aload_n hx hb dX1_init_0 rfl (lv_at hl 0 rfl) ?_
  refine W.objInit hx hb hown (hts (.methodLink RX1 3 objectInit) (by decide +kernel)) (hts (.instanceMethod objectInit) (by decide +kernel)) (hts (.code objectInit ⟨#[0xb1]⟩ 1 none) (by decide +kernel)) rfl (by rw [hml]; exact hl.1) rfl dX1_init_1 (Nat.le_of_ble_eq_true rfl) (Nat.le_of_ble_eq_true rfl) ?_
  refine W.eq (g2 := F0 m 4 ls []) rfl ?_
  refine lv_aload_n hx hb dX1_init_4 rfl (lv_at hl 0 rfl) ?_
  refine va_new (ci := 0) (fs := [.int 0, .null, .int 0]) (C := RJx4a65c) (T := TJx4a65c) (N := 3) hx hb hts (by decide +kernel) tyJx4a65c tyJx4a65c_ok hown (hts (.classLink RX1 9 RJx4a65c) (by decide +kernel)) (hts (.instantiable RJx4a65c 3) (by decide +kernel)) (hts (.initialized RJx4a65c) (by decide +kernel)) hK hP hD hS hA rfl (fun j hj => by rcases (show j = 0 ∨ j = 1 ∨ j = 2 by omega) with rfl | rfl | rfl <;> rfl) (Nat.le_of_ble_eq_true rfl) (Nat.le_of_ble_eq_true rfl) dX1_init_5 (fun la H hP hD hS => ?_)
  rw [List.append_assoc] at hP hD
  replace hP : va_P D vwCl (w ++ [(o, .inr (2, [.null, .null, .int 0, .int 0, .int 0, .int 0, .int 0, .int 0, .null, .int 0])), (la, .inr (0, [.int 0, .null, .int 0]))]) H := hP
  replace hD : va_D A (w ++ [(o, .inr (2, [.null, .null, .int 0, .int 0, .int 0, .int 0, .int 0, .int 0, .null, .int 0])), (la, .inr (0, [.int 0, .null, .int 0]))]) := hD
  refine lv_dup hx hb dX1_init_8 rfl ?_
  rw [app_two] at hP hD
  refine h_callI (As := []) (rest := [.ref la, .ref o]) ⟨hx, hb, hml, hown, hts⟩ (c_Jx4a65c_init_da8c8 l D E tl (w ++ [(o, .inr (2, [.null, .null, .int 0, .int 0, .int 0, .int 0, .int 0, .int 0, .null, .int 0]))]) la) (cwI 0 hts gX1_init_Jx4a65c_init_da8c8 rfl rfl rfl (hts (.initialized RJx4a65c) (by decide +kernel)) (hts (.methodLink RX1 11 yJx4a65c_init_da8c8) (by decide +kernel)) (hts (.instanceMethod yJx4a65c_init_da8c8) (by decide +kernel)) rfl (by decide +kernel) ⟨Nat.le_of_ble_eq_true rfl, Nat.le_of_ble_eq_true rfl⟩) hK hX hP hD hS hA rfl hl.1 rfl (Nat.le_of_ble_eq_true rfl) dX1_init_9 ⟨Nat.le_of_ble_eq_true rfl, Nat.le_of_ble_eq_true rfl⟩ (fun u_1 H locs hw hP hD hS => ?_)
  rw [List.append_assoc] at hP hD
  replace hP : va_P D vwCl (w ++ [(o, .inr (2, [.null, .null, .int 0, .int 0, .int 0, .int 0, .int 0, .int 0, .null, .int 0])), (la, lC (nI 0) (eDf E) (nI 0))]) H := hP
  replace hD : va_D A (w ++ [(o, .inr (2, [.null, .null, .int 0, .int 0, .int 0, .int 0, .int 0, .int 0, .null, .int 0])), (la, lC (nI 0) (eDf E) (nI 0))]) := hD
  refine va_putF (D := D) (ci := 2) (v := .ref la) (ty := .object "java/util/ArrayList") (C := RX1) (T := TX1) (N := 10) hx hb hts hinC tyX1 tyX1_ok nmX1 hown hK hP hD hS (w.length + 0) (app_at 0) rfl 0 (by decide) k12 (fun _ h9 => h9) rfl hname rfl (by decide +kernel) rfl rfl (Nat.le_of_ble_eq_true rfl) dX1_init_12 (fun H locs hP hD hS => ?_)
  rw [app_set] at hP hD
  replace hP : va_P D vwCl (w ++ [(o, .inr (2, [.ref la, .null, .int 0, .int 0, .int 0, .int 0, .int 0, .int 0, .null, .int 0])), (la, lC (nI 0) (eDf E) (nI 0))]) H := hP
  replace hD : va_D A (w ++ [(o, .inr (2, [.ref la, .null, .int 0, .int 0, .int 0, .int 0, .int 0, .int 0, .null, .int 0])), (la, lC (nI 0) (eDf E) (nI 0))]) := hD
  refine lv_aload_n hx hb dX1_init_15 rfl (lv_at hl 0 rfl) ?_
  refine lv_bipush (v := nI 6) hx hb dX1_init_16 (by decide) ?_
  refine va_newa (atype := .int) (ty := .int) hx hb (hts (.arrayClass .int) (by decide +kernel)) rfl hK hP hD hS hA (N' := 6) (a0 := (6, .inl (fun _ => 0))) (fun _ => rfl) (nI_pos (by decide)) (by decide +kernel) (by decide +kernel) (Nat.le_of_ble_eq_true rfl) (Nat.le_of_ble_eq_true rfl) dX1_init_18 (fun sa cA H hK9 hP hD hS => ?_)
  have hc9 : cA = eI E := nm_eq (K_last hK9) (hK.2 0 _ rfl).2
  rw [hc9] at hP hD
  clear hK9 hc9 cA
  rw [List.append_assoc] at hP hD
  replace hP : va_P D vwCl (w ++ [(o, .inr (2, [.ref la, .null, .int 0, .int 0, .int 0, .int 0, .int 0, .int 0, .null, .int 0])), (la, lC (nI 0) (eDf E) (nI 0)), (sa, .inl (eI E, 6, .inl (fun _ => 0)))]) H := hP
  replace hD : va_D A (w ++ [(o, .inr (2, [.ref la, .null, .int 0, .int 0, .int 0, .int 0, .int 0, .int 0, .null, .int 0])), (la, lC (nI 0) (eDf E) (nI 0)), (sa, .inl (eI E, 6, .inl (fun _ => 0)))]) := hD
  refine va_putF (D := D) (ci := 2) (v := .ref sa) (ty := .array .int) (C := RX1) (T := TX1) (N := 10) hx hb hts hinC tyX1 tyX1_ok nmX1 hown hK hP hD hS (w.length + 0) (app_at 0) rfl 1 (by decide) k18 (fun _ h9 => h9) rfl hname rfl (by decide +kernel) rfl rfl (Nat.le_of_ble_eq_true rfl) dX1_init_20 (fun H locs hP hD hS => ?_)
  rw [app_set] at hP hD
  replace hP : va_P D vwCl (w ++ [(o, .inr (2, [.ref la, .ref sa, .int 0, .int 0, .int 0, .int 0, .int 0, .int 0, .null, .int 0])), (la, lC (nI 0) (eDf E) (nI 0)), (sa, .inl (eI E, 6, .inl (fun _ => 0)))]) H := hP
  replace hD : va_D A (w ++ [(o, .inr (2, [.ref la, .ref sa, .int 0, .int 0, .int 0, .int 0, .int 0, .int 0, .null, .int 0])), (la, lC (nI 0) (eDf E) (nI 0)), (sa, .inl (eI E, 6, .inl (fun _ => 0)))]) := hD
  refine lv_aload_n hx hb dX1_init_23 rfl (lv_at hl 0 rfl) ?_
  refine lv_iconst (v := nI 0) hx hb dX1_init_24 (by decide) ?_
  refine va_put (D := D) (ci := 2) (v := .int (nI 0)) (ty := .int) (C := RX1) (T := TX1) (N := 10) hx hb hts hinC tyX1 tyX1_ok nmX1 hown hK hP hD hS (w.length + 0) (app_at 0) rfl 2 (by decide) k22 (fun _ h9 => h9) rfl (by decide +kernel) rfl rfl (Nat.le_of_ble_eq_true rfl) dX1_init_25 (fun H locs hP hD hS => ?_)
  rw [app_set] at hP hD
  replace hP : va_P D vwCl (w ++ [(o, .inr (2, [.ref la, .ref sa, .int (nI 0), .int 0, .int 0, .int 0, .int 0, .int 0, .null, .int 0])), (la, lC (nI 0) (eDf E) (nI 0)), (sa, .inl (eI E, 6, .inl (fun _ => 0)))]) H := hP
  replace hD : va_D A (w ++ [(o, .inr (2, [.ref la, .ref sa, .int (nI 0), .int 0, .int 0, .int 0, .int 0, .int 0, .null, .int 0])), (la, lC (nI 0) (eDf E) (nI 0)), (sa, .inl (eI E, 6, .inl (fun _ => 0)))]) := hD
  refine lv_aload_n hx hb dX1_init_28 rfl (lv_at hl 0 rfl) ?_
  refine lv_iconst (v := -1) hx hb dX1_init_29 (by decide) ?_
  refine va_put (D := D) (ci := 2) (v := .int (-1)) (ty := .int) (C := RX1) (T := TX1) (N := 10) hx hb hts hinC tyX1 tyX1_ok nmX1 hown hK hP hD hS (w.length + 0) (app_at 0) rfl 3 (by decide) k26 (fun _ h9 => h9) rfl (by decide +kernel) rfl rfl (Nat.le_of_ble_eq_true rfl) dX1_init_30 (fun H locs hP hD hS => ?_)
  rw [app_set] at hP hD
  replace hP : va_P D vwCl (w ++ [(o, .inr (2, [.ref la, .ref sa, .int (nI 0), .int (-1), .int 0, .int 0, .int 0, .int 0, .null, .int 0])), (la, lC (nI 0) (eDf E) (nI 0)), (sa, .inl (eI E, 6, .inl (fun _ => 0)))]) H := hP
  replace hD : va_D A (w ++ [(o, .inr (2, [.ref la, .ref sa, .int (nI 0), .int (-1), .int 0, .int 0, .int 0, .int 0, .null, .int 0])), (la, lC (nI 0) (eDf E) (nI 0)), (sa, .inl (eI E, 6, .inl (fun _ => 0)))]) := hD
  refine lv_aload_n hx hb dX1_init_33 rfl (lv_at hl 0 rfl) ?_
  refine lv_iconst (v := -1) hx hb dX1_init_34 (by decide) ?_
  refine va_put (D := D) (ci := 2) (v := .int (-1)) (ty := .int) (C := RX1) (T := TX1) (N := 10) hx hb hts hinC tyX1 tyX1_ok nmX1 hown hK hP hD hS (w.length + 0) (app_at 0) rfl 4 (by decide) k29 (fun _ h9 => h9) rfl (by decide +kernel) rfl rfl (Nat.le_of_ble_eq_true rfl) dX1_init_35 (fun H locs hP hD hS => ?_)
  rw [app_set] at hP hD
  replace hP : va_P D vwCl (w ++ [(o, .inr (2, [.ref la, .ref sa, .int (nI 0), .int (-1), .int (-1), .int 0, .int 0, .int 0, .null, .int 0])), (la, lC (nI 0) (eDf E) (nI 0)), (sa, .inl (eI E, 6, .inl (fun _ => 0)))]) H := hP
  replace hD : va_D A (w ++ [(o, .inr (2, [.ref la, .ref sa, .int (nI 0), .int (-1), .int (-1), .int 0, .int 0, .int 0, .null, .int 0])), (la, lC (nI 0) (eDf E) (nI 0)), (sa, .inl (eI E, 6, .inl (fun _ => 0)))]) := hD
  refine lv_aload_n hx hb dX1_init_38 rfl (lv_at hl 0 rfl) ?_
  refine lv_iconst (v := -1) hx hb dX1_init_39 (by decide) ?_
  refine va_put (D := D) (ci := 2) (v := .int (-1)) (ty := .int) (C := RX1) (T := TX1) (N := 10) hx hb hts hinC tyX1 tyX1_ok nmX1 hown hK hP hD hS (w.length + 0) (app_at 0) rfl 5 (by decide) k32 (fun _ h9 => h9) rfl (by decide +kernel) rfl rfl (Nat.le_of_ble_eq_true rfl) dX1_init_40 (fun H locs hP hD hS => ?_)
  rw [app_set] at hP hD
  replace hP : va_P D vwCl (w ++ [(o, .inr (2, [.ref la, .ref sa, .int (nI 0), .int (-1), .int (-1), .int (-1), .int 0, .int 0, .null, .int 0])), (la, lC (nI 0) (eDf E) (nI 0)), (sa, .inl (eI E, 6, .inl (fun _ => 0)))]) H := hP
  replace hD : va_D A (w ++ [(o, .inr (2, [.ref la, .ref sa, .int (nI 0), .int (-1), .int (-1), .int (-1), .int 0, .int 0, .null, .int 0])), (la, lC (nI 0) (eDf E) (nI 0)), (sa, .inl (eI E, 6, .inl (fun _ => 0)))]) := hD
  refine lv_aload_n hx hb dX1_init_43 rfl (lv_at hl 0 rfl) ?_
  refine lv_iconst (v := nI 0) hx hb dX1_init_44 (by decide) ?_
  refine va_put (D := D) (ci := 2) (v := .int (nI 0)) (ty := .int) (C := RX1) (T := TX1) (N := 10) hx hb hts hinC tyX1 tyX1_ok nmX1 hown hK hP hD hS (w.length + 0) (app_at 0) rfl 6 (by decide) k35 (fun _ h9 => h9) rfl (by decide +kernel) rfl rfl (Nat.le_of_ble_eq_true rfl) dX1_init_45 (fun H locs hP hD hS => ?_)
  rw [app_set] at hP hD
  replace hP : va_P D vwCl (w ++ [(o, .inr (2, [.ref la, .ref sa, .int (nI 0), .int (-1), .int (-1), .int (-1), .int (nI 0), .int 0, .null, .int 0])), (la, lC (nI 0) (eDf E) (nI 0)), (sa, .inl (eI E, 6, .inl (fun _ => 0)))]) H := hP
  replace hD : va_D A (w ++ [(o, .inr (2, [.ref la, .ref sa, .int (nI 0), .int (-1), .int (-1), .int (-1), .int (nI 0), .int 0, .null, .int 0])), (la, lC (nI 0) (eDf E) (nI 0)), (sa, .inl (eI E, 6, .inl (fun _ => 0)))]) := hD
  refine lv_aload_n hx hb dX1_init_48 rfl (lv_at hl 0 rfl) ?_
  refine lv_iconst (v := -1) hx hb dX1_init_49 (by decide) ?_
  refine va_put (D := D) (ci := 2) (v := .int (-1)) (ty := .int) (C := RX1) (T := TX1) (N := 10) hx hb hts hinC tyX1 tyX1_ok nmX1 hown hK hP hD hS (w.length + 0) (app_at 0) rfl 7 (by decide) k38 (fun _ h9 => h9) rfl (by decide +kernel) rfl rfl (Nat.le_of_ble_eq_true rfl) dX1_init_50 (fun H locs hP hD hS => ?_)
  rw [app_set] at hP hD
  replace hP : va_P D vwCl (w ++ [(o, .inr (2, [.ref la, .ref sa, .int (nI 0), .int (-1), .int (-1), .int (-1), .int (nI 0), .int (-1), .null, .int 0])), (la, lC (nI 0) (eDf E) (nI 0)), (sa, .inl (eI E, 6, .inl (fun _ => 0)))]) H := hP
  replace hD : va_D A (w ++ [(o, .inr (2, [.ref la, .ref sa, .int (nI 0), .int (-1), .int (-1), .int (-1), .int (nI 0), .int (-1), .null, .int 0])), (la, lC (nI 0) (eDf E) (nI 0)), (sa, .inl (eI E, 6, .inl (fun _ => 0)))]) := hD
  refine lv_aload_n hx hb dX1_init_53 rfl (lv_at hl 0 rfl) ?_
  refine lv_null hx hb dX1_init_54 ?_
  refine va_put (D := D) (ci := 2) (v := .null) (ty := .object "FairFolio$Pavilion") (C := RX1) (T := TX1) (N := 10) hx hb hts hinC tyX1 tyX1_ok nmX1 hown hK hP hD hS (w.length + 0) (app_at 0) rfl 8 (by decide) k41 (fun _ h9 => h9) rfl (by decide +kernel) rfl rfl (Nat.le_of_ble_eq_true rfl) dX1_init_55 (fun H locs hP hD hS => ?_)
  rw [app_set] at hP hD
  replace hP : va_P D vwCl (w ++ [(o, .inr (2, [.ref la, .ref sa, .int (nI 0), .int (-1), .int (-1), .int (-1), .int (nI 0), .int (-1), .null, .int 0])), (la, lC (nI 0) (eDf E) (nI 0)), (sa, .inl (eI E, 6, .inl (fun _ => 0)))]) H := hP
  replace hD : va_D A (w ++ [(o, .inr (2, [.ref la, .ref sa, .int (nI 0), .int (-1), .int (-1), .int (-1), .int (nI 0), .int (-1), .null, .int 0])), (la, lC (nI 0) (eDf E) (nI 0)), (sa, .inl (eI E, 6, .inl (fun _ => 0)))]) := hD
  refine lv_aload_n hx hb dX1_init_58 rfl (lv_at hl 0 rfl) ?_
  refine lv_iconst (v := nI 0) hx hb dX1_init_59 (by decide) ?_
  refine va_put (D := D) (ci := 2) (v := .int (nI 0)) (ty := .boolean) (C := RX1) (T := TX1) (N := 10) hx hb hts hinC tyX1 tyX1_ok nmX1 hown hK hP hD hS (w.length + 0) (app_at 0) rfl 9 (by decide) k45 (fun _ h9 => h9) rfl (by decide +kernel) rfl rfl (Nat.le_of_ble_eq_true rfl) dX1_init_60 (fun H locs hP hD hS => ?_)
  rw [app_set] at hP hD
  replace hP : va_P D vwCl (w ++ [(o, .inr (2, [.ref la, .ref sa, .int (nI 0), .int (-1), .int (-1), .int (-1), .int (nI 0), .int (-1), .null, .int (nI 0)])), (la, lC (nI 0) (eDf E) (nI 0)), (sa, .inl (eI E, 6, .inl (fun _ => 0)))]) H := hP
  replace hD : va_D A (w ++ [(o, .inr (2, [.ref la, .ref sa, .int (nI 0), .int (-1), .int (-1), .int (-1), .int (nI 0), .int (-1), .null, .int (nI 0)])), (la, lC (nI 0) (eDf E) (nI 0)), (sa, .inl (eI E, 6, .inl (fun _ => 0)))]) := hD
  exact W.vret hx hb hr (fun t ht hW => ⟨⟨(la, sa), rfl, trivial, by rw [ht]; exact hP, va_K.moved hW.alike hK, hD⟩, hS.F ht⟩) hS.2.2 dX1_init_63
