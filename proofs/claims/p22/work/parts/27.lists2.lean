set_option maxHeartbeats 4000000 in
set_option maxRecDepth 100000 in
theorem c_Jx4a65c_grow_92f84_f (l : Launch) (D : va_G) (E : cE) (tl : gTy) (la pe : Nat) (m0 : Int32) (ps : List Value)  : hQ l yJx4a65c_grow_92f84 wsJx4a65c_grow_92f84 ({ frames := 1, cells := 1, slots := 10, locals := 30 } : Room) D E tl [(la, lC m0 (eDf E) (nI 0)), (pe, .inr (1, ps))] [.ref la, .int (nI 1)] (fun (r : Option Nat) (u : Nat) => r = some u) (fun u : Nat => [(la, lC m0 u (nI 0)), (pe, .inr (1, ps)), (u, lR (eB E) (fun _ => none))]) 1 10 := by
  refine hM.start (cc := cJx4a65c_grow_92f84) (maxL := 4) (ret := (some (.array (.object "java/lang/Object")))) (own := RJx4a65c) rfl (by decide) rfl (Nat.le_of_ble_eq_true rfl) ?_
  intro pr e s m args below meth c A ls H locs hx hb hml hr hts hown hlocks hname hA hK hX hP hD hS hl
  replace hl : lv_has ls 4 [(0, .ref la), (1, .int (nI 1))] := hl
  have hinL : ∀ w ∈ wsJx4a65c0, w ∈ wsJx4a65c_grow_92f84 := by decide +kernel
  have k9 := hts (.fieldLink RJx4a65c 9 "java/util/ArrayList" "elementData" "[Ljava/lang/Object;") (by decide +kernel)
  have k39 := hts (.fieldLink RJx4a65c 39 "java/util/ArrayList" "DEFAULTCAPACITY_EMPTY_ELEMENTDATA" "[Ljava/lang/Object;") (by decide +kernel)
  refine lv_aload_n hx hb dJx4a65c_grow_92f84_0 rfl (lv_at hl 0 rfl) ?_
  refine va_get (D := D) (ci := 0) (C := RJx4a65c) (T := TJx4a65c) (N := 3) hx hb hts hinL hown hK hP 0 rfl rfl 1 (by decide) k9 (fun _ h9 => h9) rfl dJx4a65c_grow_92f84_1 ?_
  refine va_tlen hx hb hX.2.2.2.2.2.2.1 hS (v := nI 0) rfl dJx4a65c_grow_92f84_4 ?_
  refine lv_istore_n (lv' := [(2, .int (nI 0)), (0, .ref la), (1, .int (nI 1))]) hx hb dJx4a65c_grow_92f84_5 rfl hl (by decide) rfl (fun ls hl => ?_)
  refine lv_iload_n hx hb dJx4a65c_grow_92f84_6 rfl (lv_at hl 0 rfl) ?_
  refine q_if_gt (tgt := 20) hx hb (by omega) dJx4a65c_grow_92f84_7 (by decide) (fun c1 => absurd c1 (by omega)) (fun c1 => ?_)
  refine lv_aload_n hx hb dJx4a65c_grow_92f84_10 rfl (lv_at hl 1 rfl) ?_
  refine va_get (D := D) (ci := 0) (C := RJx4a65c) (T := TJx4a65c) (N := 3) hx hb hts hinL hown hK hP 0 rfl rfl 1 (by decide) k9 (fun _ h9 => h9) rfl dJx4a65c_grow_92f84_11 ?_
  refine va_gets (C := "java/util/ArrayList") (ref := "java/util/ArrayList") hx hb hX.2.2.2.2.2.1 hS hown k39 (fun _ h => h) dJx4a65c_grow_92f84_14 ?_
  refine lv_acmp_eq (rx := some (eDf E)) (ry := some (eDf E)) (tgt := 45) hx hb dJx4a65c_grow_92f84_17 (by decide) (fun c2 => ?_) (fun c2 => absurd rfl c2)
  refine lv_aload_n hx hb dJx4a65c_grow_92f84_45 rfl (lv_at hl 1 rfl) ?_
  refine lv_bipush (v := nI 10) hx hb dJx4a65c_grow_92f84_46 (by decide) ?_
  refine lv_iload_n hx hb dJx4a65c_grow_92f84_48 rfl (lv_at hl 2 rfl) ?_
  refine va_mmax hx hb (by rw [hml]; exact hl.1.symm) hown (hts (.methodLink RJx4a65c 79 Lib.Math.max.name) (by decide +kernel)) (hts (.static Lib.Math.max.name) (by decide +kernel)) (hts (.initialized "java/lang/Math") (by decide +kernel)) (hts (.code Lib.Math.max.name Lib.Math.max.code 2 (some .int)) (by decide +kernel)) (Nat.le_of_ble_eq_true rfl) (Nat.le_of_ble_eq_true rfl) (Nat.le_of_ble_eq_true rfl) (Nat.le_of_ble_eq_true rfl) dJx4a65c_grow_92f84_49 ?_
  refine q_top (x' := nI 10) (by decide) ?_
  refine va_newq (C := "java/lang/Object") hx hb hown (hts (.classLink RJx4a65c 7 "java/lang/Object") (by decide +kernel)) (hX.2.2.2.2.2.2.2.1 "java/lang/Object" (by decide)) hK hP hD hS hA (N' := 10) (by decide) (by decide) (by decide) (Nat.le_of_ble_eq_true rfl) (Nat.le_of_ble_eq_true rfl) dJx4a65c_grow_92f84_52 (fun q9 cA H hK9 hP hD hS => ?_)
  have hcA : cA = eB E := by
      have h1 := va_nmO (hK9.2 (5 + tl.length) (cA, .object "java/lang/Object") (by rw [List.getElem?_append_right (by show (cT E tl).length ≤ _; show tl.length + 5 ≤ 5 + tl.length; omega), show 5 + tl.length - (cT E tl).length = 0 from by show 5 + tl.length - (tl.length + 5) = 0; omega]; rfl)).2 rfl
      have h2 := va_nmO (hK.2 4 (eB E, .object "java/lang/Object") rfl).2 rfl
      exact Option.some.inj (h1.symm.trans h2)
  subst hcA
  replace hP : va_P D vwCl [(la, lC m0 (eDf E) (nI 0)), (pe, .inr (1, ps)), (q9, lR (eB E) (fun _ => none))] H := hP
  replace hD : va_D A [(la, lC m0 (eDf E) (nI 0)), (pe, .inr (1, ps)), (q9, lR (eB E) (fun _ => none))] := hD
  refine lv_dup_x1 hx hb dJx4a65c_grow_92f84_55 rfl rfl ?_
  refine va_put (D := D) (ci := 0) (v := .ref q9) (ty := .array (.object "java/lang/Object")) (C := RJx4a65c) (T := TJx4a65c) (N := 3) hx hb hts hinL tyJx4a65c tyJx4a65c_ok nmJx4a65c hown hK hP hD hS 0 rfl rfl 1 (by decide) k9 (fun _ h9 => h9) rfl (by decide +kernel) rfl rfl (Nat.le_of_ble_eq_true rfl) dJx4a65c_grow_92f84_56 (fun H locs hP hD hS => ?_)
  replace hP : va_P D vwCl [(la, lC m0 q9 (nI 0)), (pe, .inr (1, ps)), (q9, lR (eB E) (fun _ => none))] H := hP
  replace hD : va_D A [(la, lC m0 q9 (nI 0)), (pe, .inr (1, ps)), (q9, lR (eB E) (fun _ => none))] := hD
  exact W.aret (v := va_rf (some q9)) hx hb hr (Or.inr ⟨_, rfl⟩) (va_rf_or _) (fun t ht hW => ⟨⟨(some q9), q9, rfl, rfl, by rw [ht]; exact hP, va_K.moved hW.alike hK, hD⟩, hS.F ht⟩) hS.2.2 dJx4a65c_grow_92f84_59

set_option maxHeartbeats 4000000 in
set_option maxRecDepth 100000 in
theorem c_Jx4a65c_grow_d5877_f (l : Launch) (D : va_G) (E : cE) (tl : gTy) (la pe : Nat) (m0 : Int32) (ps : List Value)  : hQ l yJx4a65c_grow_d5877 wsJx4a65c_grow_d5877 ({ frames := 2, cells := 1, slots := 10, locals := 53 } : Room) D E tl [(la, lC m0 (eDf E) (nI 0)), (pe, .inr (1, ps))] [.ref la] (fun (r : Option Nat) (u : Nat) => r = some u) (fun u : Nat => [(la, lC m0 u (nI 0)), (pe, .inr (1, ps)), (u, lR (eB E) (fun _ => none))]) 1 10 := by
  refine hM.start (cc := cJx4a65c_grow_d5877) (maxL := 1) (ret := (some (.array (.object "java/lang/Object")))) (own := RJx4a65c) rfl (by decide) rfl (Nat.le_of_ble_eq_true rfl) ?_
  intro pr e s m args below meth c A ls H locs hx hb hml hr hts hown hlocks hname hA hK hX hP hD hS hl
  replace hl : lv_has ls 1 [(0, .ref la)] := hl
  have hinL : ∀ w ∈ wsJx4a65c0, w ∈ wsJx4a65c_grow_d5877 := by decide +kernel
  have k48 := hts (.fieldLink RJx4a65c 48 "java/util/ArrayList" "size" "I") (by decide +kernel)
  refine lv_aload_n hx hb dJx4a65c_grow_d5877_0 rfl (lv_at hl 0 rfl) ?_
  refine lv_aload_n hx hb dJx4a65c_grow_d5877_1 rfl (lv_at hl 0 rfl) ?_
  refine va_get (D := D) (ci := 0) (C := RJx4a65c) (T := TJx4a65c) (N := 3) hx hb hts hinL hown hK hP 0 rfl rfl 2 (by decide) k48 (fun _ h9 => h9) rfl dJx4a65c_grow_d5877_2 ?_
  refine lv_iconst (v := nI 1) hx hb dJx4a65c_grow_d5877_5 (by decide) ?_
  refine q_add hx hb dJx4a65c_grow_d5877_6 ?_
  refine q_top (x' := nI 1) rfl ?_
  refine h_callq (As := [.int (nI 1)]) (rest := []) ⟨hx, hb, hml, hown, hts⟩ (c_Jx4a65c_grow_92f84_f l D E tl la pe m0 ps) (cwV 1 hts gJx4a65c_grow_d5877_Jx4a65c_grow_92f84 rfl rfl rfl (by decide +kernel) ⟨Nat.le_of_ble_eq_true rfl, Nat.le_of_ble_eq_true rfl⟩) (va_recv hK hP (ci := 0) (q0 := 0) rfl rfl) hK hX hP hD hS hA rfl hl.1 rfl (Nat.le_of_ble_eq_true rfl) dJx4a65c_grow_d5877_7 ⟨Nat.le_of_ble_eq_true rfl, Nat.le_of_ble_eq_true rfl⟩ (fun r_1 u_2 H locs hw hP hD hS => ?_)
  replace hP : va_P D vwCl [(la, lC m0 u_2 (nI 0)), (pe, .inr (1, ps)), (u_2, lR (eB E) (fun _ => none))] H := hP
  replace hD : va_D A [(la, lC m0 u_2 (nI 0)), (pe, .inr (1, ps)), (u_2, lR (eB E) (fun _ => none))] := hD
  exact W.aret (v := va_rf r_1) hx hb hr (Or.inr ⟨_, rfl⟩) (va_rf_or _) (fun t ht hW => ⟨⟨r_1, u_2, rfl, hw, by rw [ht]; exact hP, va_K.moved hW.alike hK, hD⟩, hS.F ht⟩) hS.2.2 dJx4a65c_grow_d5877_10

set_option maxHeartbeats 4000000 in
set_option maxRecDepth 100000 in
theorem c_Jx4a65c_add_72be8_f (l : Launch) (D : va_G) (E : cE) (tl : gTy) (la pe : Nat) (m0 : Int32) (ps : List Value)  : hV l yJx4a65c_add_72be8 wsJx4a65c_add_72be8 ({ frames := 3, cells := 1, slots := 10, locals := 73 } : Room) D E tl [(la, lC m0 (eDf E) (nI 0)), (pe, .inr (1, ps))] [.ref la, .ref pe, .ref (eDf E), .int (nI 0)] (fun u : Nat => True) (fun u : Nat => [(la, lC m0 u (nI 1)), (pe, .inr (1, ps)), (u, lR (eB E) (va_up (fun _ => none) 0 (some pe)))]) 1 10 := by
  refine hM.start (cc := cJx4a65c_add_72be8) (maxL := 4) (ret := none) (own := RJx4a65c) rfl (by decide) rfl (Nat.le_of_ble_eq_true rfl) ?_
  intro pr e s m args below meth c A ls H locs hx hb hml hr hts hown hlocks hname hA hK hX hP hD hS hl
  replace hl : lv_has ls 4 [(0, .ref la), (1, .ref pe), (2, .ref (eDf E)), (3, .int (nI 0))] := hl
  have hinL : ∀ w ∈ wsJx4a65c0, w ∈ wsJx4a65c_add_72be8 := by decide +kernel
  have k48 := hts (.fieldLink RJx4a65c 48 "java/util/ArrayList" "size" "I") (by decide +kernel)
  refine lv_iload_n hx hb dJx4a65c_add_72be8_0 rfl (lv_at hl 3 rfl) ?_
  refine lv_aload_n hx hb dJx4a65c_add_72be8_1 rfl (lv_at hl 2 rfl) ?_
  refine va_tlen hx hb hX.2.2.2.2.2.2.1 hS (v := nI 0) rfl dJx4a65c_add_72be8_2 ?_
  refine q_icmp_ne (tgt := 11) hx hb (by omega) (by omega) dJx4a65c_add_72be8_3 (by decide) (fun c1 => absurd rfl c1) (fun c1 => ?_)
  refine lv_aload_n hx hb dJx4a65c_add_72be8_6 rfl (lv_at hl 0 rfl) ?_
  refine h_callq (As := []) (rest := []) ⟨hx, hb, hml, hown, hts⟩ (c_Jx4a65c_grow_d5877_f l D E tl la pe m0 ps) (cwV 0 hts gJx4a65c_add_72be8_Jx4a65c_grow_d5877 rfl rfl rfl (by decide +kernel) ⟨Nat.le_of_ble_eq_true rfl, Nat.le_of_ble_eq_true rfl⟩) (va_recv hK hP (ci := 0) (q0 := 0) rfl rfl) hK hX hP hD hS hA rfl hl.1 rfl (Nat.le_of_ble_eq_true rfl) dJx4a65c_add_72be8_7 ⟨Nat.le_of_ble_eq_true rfl, Nat.le_of_ble_eq_true rfl⟩ (fun r_1 u_2 H locs hw hP hD hS => ?_)
  replace hP : va_P D vwCl [(la, lC m0 u_2 (nI 0)), (pe, .inr (1, ps)), (u_2, lR (eB E) (fun _ => none))] H := hP
  replace hD : va_D A [(la, lC m0 u_2 (nI 0)), (pe, .inr (1, ps)), (u_2, lR (eB E) (fun _ => none))] := hD
  refine q_topv (v' := .ref u_2) (by rw [hw]; rfl) ?_
  refine lv_astore_n (lv' := [(2, .ref u_2), (0, .ref la), (1, .ref pe), (3, .int (nI 0))]) hx hb dJx4a65c_add_72be8_10 rfl hl (by decide) rfl (fun ls hl => ?_)
  refine lv_aload_n hx hb dJx4a65c_add_72be8_11 rfl (lv_at hl 0 rfl) ?_
  refine lv_iload_n hx hb dJx4a65c_add_72be8_12 rfl (lv_at hl 3 rfl) ?_
  refine lv_aload_n hx hb dJx4a65c_add_72be8_13 rfl (lv_at hl 2 rfl) ?_
  refine va_astqO (E := "java/lang/Object") hx hb hK hP hD hS 2 4 1 1 rfl rfl (hX.2.1 ("FairFolio$Pavilion", "java/lang/Object") (by decide)) rfl rfl (vp_in_nI (n := 0) (by omega) (by decide)) dJx4a65c_add_72be8_14 (fun H locs hP hD hS => ?_)
  rw [nI_clamp (by omega)] at hP hD
  replace hP : va_P D vwCl [(la, lC m0 u_2 (nI 0)), (pe, .inr (1, ps)), (u_2, lR (eB E) (va_up (fun _ => none) 0 (some pe)))] H := hP
  replace hD : va_D A [(la, lC m0 u_2 (nI 0)), (pe, .inr (1, ps)), (u_2, lR (eB E) (va_up (fun _ => none) 0 (some pe)))] := hD
  refine lv_aload_n hx hb dJx4a65c_add_72be8_15 rfl (lv_at hl 1 rfl) ?_
  refine lv_iload_n hx hb dJx4a65c_add_72be8_16 rfl (lv_at hl 3 rfl) ?_
  refine lv_iconst (v := nI 1) hx hb dJx4a65c_add_72be8_17 (by decide) ?_
  refine q_add hx hb dJx4a65c_add_72be8_18 ?_
  refine va_put (D := D) (ci := 0) (v := .int (nI (0 + 1))) (ty := .int) (C := RJx4a65c) (T := TJx4a65c) (N := 3) hx hb hts hinL tyJx4a65c tyJx4a65c_ok nmJx4a65c hown hK hP hD hS 0 rfl rfl 2 (by decide) k48 (fun _ h9 => h9) rfl (by decide +kernel) rfl rfl (Nat.le_of_ble_eq_true rfl) dJx4a65c_add_72be8_19 (fun H locs hP hD hS => ?_)
  replace hP : va_P D vwCl [(la, lC m0 u_2 (nI (0 + 1))), (pe, .inr (1, ps)), (u_2, lR (eB E) (va_up (fun _ => none) 0 (some pe)))] H := hP
  replace hD : va_D A [(la, lC m0 u_2 (nI (0 + 1))), (pe, .inr (1, ps)), (u_2, lR (eB E) (va_up (fun _ => none) 0 (some pe)))] := hD
  replace hP : va_P D vwCl [(la, lC m0 u_2 (nI 1)), (pe, .inr (1, ps)), (u_2, lR (eB E) (va_up (fun _ => none) 0 (some pe)))] H := hP
  replace hD : va_D A [(la, lC m0 u_2 (nI 1)), (pe, .inr (1, ps)), (u_2, lR (eB E) (va_up (fun _ => none) 0 (some pe)))] := hD
  exact W.vret hx hb hr (fun t ht hW => ⟨⟨u_2, rfl, trivial, by rw [ht]; exact hP, va_K.moved hW.alike hK, hD⟩, hS.F ht⟩) hS.2.2 dJx4a65c_add_72be8_22

set_option maxHeartbeats 4000000 in
set_option maxRecDepth 100000 in
theorem c_Jx4a65c_add_9ea2d_f (l : Launch) (D : va_G) (E : cE) (tl : gTy) (la pe : Nat) (m0 : Int32) (ps : List Value)  : hI l yJx4a65c_add_9ea2d wsJx4a65c_add_9ea2d ({ frames := 4, cells := 1, slots := 10, locals := 96 } : Room) D E tl [(la, lC m0 (eDf E) (nI 0)), (pe, .inr (1, ps))] [.ref la, .ref pe] (fun (r : Int32) (u : Nat) => True) (fun u : Nat => [(la, lC (m0 + nI 1) u (nI 1)), (pe, .inr (1, ps)), (u, lR (eB E) (va_up (fun _ => none) 0 (some pe)))]) 1 10 := by
  refine hM.start (cc := cJx4a65c_add_9ea2d) (maxL := 2) (ret := (some .boolean)) (own := RJx4a65c) rfl (by decide) rfl (Nat.le_of_ble_eq_true rfl) ?_
  intro pr e s m args below meth c A ls H locs hx hb hml hr hts hown hlocks hname hA hK hX hP hD hS hl
  replace hl : lv_has ls 2 [(0, .ref la), (1, .ref pe)] := hl
  have hinL : ∀ w ∈ wsJx4a65c0, w ∈ wsJx4a65c_add_9ea2d := by decide +kernel
  have k63 := hts (.fieldLink RJx4a65c 63 "java/util/ArrayList" "modCount" "I") (by decide +kernel)
  have k9 := hts (.fieldLink RJx4a65c 9 "java/util/ArrayList" "elementData" "[Ljava/lang/Object;") (by decide +kernel)
  have k48 := hts (.fieldLink RJx4a65c 48 "java/util/ArrayList" "size" "I") (by decide +kernel)
  refine lv_aload_n hx hb dJx4a65c_add_9ea2d_0 rfl (lv_at hl 0 rfl) ?_
  refine lv_dup hx hb dJx4a65c_add_9ea2d_1 rfl ?_
  refine va_get (D := D) (ci := 0) (C := RJx4a65c) (T := TJx4a65c) (N := 3) hx hb hts hinL hown hK hP 0 rfl rfl 0 (by decide) k63 (u_same (hts (.sameField "java/util/ArrayList" "java/util/AbstractList" "modCount" "I") (by decide +kernel))) rfl dJx4a65c_add_9ea2d_2 ?_
  refine lv_iconst (v := nI 1) hx hb dJx4a65c_add_9ea2d_5 (by decide) ?_
  refine lv_iadd hx hb dJx4a65c_add_9ea2d_6 ?_
  refine va_put (D := D) (ci := 0) (v := .int (m0 + (nI 1))) (ty := .int) (C := RJx4a65c) (T := TJx4a65c) (N := 3) hx hb hts hinL tyJx4a65c tyJx4a65c_ok nmJx4a65c hown hK hP hD hS 0 rfl rfl 0 (by decide) k63 (u_same (hts (.sameField "java/util/ArrayList" "java/util/AbstractList" "modCount" "I") (by decide +kernel))) rfl (by decide +kernel) rfl rfl (Nat.le_of_ble_eq_true rfl) dJx4a65c_add_9ea2d_7 (fun H locs hP hD hS => ?_)
  replace hP : va_P D vwCl [(la, lC (m0 + (nI 1)) (eDf E) (nI 0)), (pe, .inr (1, ps))] H := hP
  replace hD : va_D A [(la, lC (m0 + (nI 1)) (eDf E) (nI 0)), (pe, .inr (1, ps))] := hD
  refine lv_aload_n hx hb dJx4a65c_add_9ea2d_10 rfl (lv_at hl 0 rfl) ?_
  refine lv_aload_n hx hb dJx4a65c_add_9ea2d_11 rfl (lv_at hl 1 rfl) ?_
  refine lv_aload_n hx hb dJx4a65c_add_9ea2d_12 rfl (lv_at hl 0 rfl) ?_
  refine va_get (D := D) (ci := 0) (C := RJx4a65c) (T := TJx4a65c) (N := 3) hx hb hts hinL hown hK hP 0 rfl rfl 1 (by decide) k9 (fun _ h9 => h9) rfl dJx4a65c_add_9ea2d_13 ?_
  refine lv_aload_n hx hb dJx4a65c_add_9ea2d_16 rfl (lv_at hl 0 rfl) ?_
  refine va_get (D := D) (ci := 0) (C := RJx4a65c) (T := TJx4a65c) (N := 3) hx hb hts hinL hown hK hP 0 rfl rfl 2 (by decide) k48 (fun _ h9 => h9) rfl dJx4a65c_add_9ea2d_17 ?_
  refine h_callv (As := [.ref pe, .ref (eDf E), .int (nI 0)]) (rest := []) ⟨hx, hb, hml, hown, hts⟩ (c_Jx4a65c_add_72be8_f l D E tl la pe (m0 + nI 1) ps) (cwV 3 hts gJx4a65c_add_9ea2d_Jx4a65c_add_72be8 rfl rfl rfl (by decide +kernel) ⟨Nat.le_of_ble_eq_true rfl, Nat.le_of_ble_eq_true rfl⟩) (va_recv hK hP (ci := 0) (q0 := 0) rfl rfl) hK hX hP hD hS hA rfl hl.1 rfl (Nat.le_of_ble_eq_true rfl) dJx4a65c_add_9ea2d_20 ⟨Nat.le_of_ble_eq_true rfl, Nat.le_of_ble_eq_true rfl⟩ (fun u_2 H locs hw hP hD hS => ?_)
  refine lv_iconst (v := nI 1) hx hb dJx4a65c_add_9ea2d_23 (by decide) ?_
  exact W.zret (ty := .boolean) hx hb hr (by decide) (fun t ht hW => ⟨⟨_, u_2, rfl, trivial, by rw [ht]; exact hP, va_K.moved hW.alike hK, hD⟩, hS.F ht⟩) hS.2.2 dJx4a65c_add_9ea2d_24

set_option maxHeartbeats 4000000 in
set_option maxRecDepth 100000 in
theorem c_Jx4a65c_add_72be8_m (l : Launch) (D : va_G) (E : cE) (tl : gTy) (la a pe : Nat) (m0 : Int32) (n0 : Nat) (f : Nat → Option Nat) (ps : List Value) (hn : n0 < 10) : hV l yJx4a65c_add_72be8 wsJx4a65c_add_72be8 ({ frames := 3, cells := 0, slots := 0, locals := 73 } : Room) D E tl [(la, lC m0 a (nI n0)), (a, lR (eB E) f), (pe, .inr (1, ps))] [.ref la, .ref pe, .ref a, .int (nI n0)] (fun u : Unit => True) (fun _ : Unit => [(la, lC m0 a (nI (n0 + 1))), (a, lR (eB E) (va_up f n0 (some pe))), (pe, .inr (1, ps))]) 0 0 := by
  refine hM.start (cc := cJx4a65c_add_72be8) (maxL := 4) (ret := none) (own := RJx4a65c) rfl (by decide) rfl (Nat.le_of_ble_eq_true rfl) ?_
  intro pr e s m args below meth c A ls H locs hx hb hml hr hts hown hlocks hname hA hK hX hP hD hS hl
  replace hl : lv_has ls 4 [(0, .ref la), (1, .ref pe), (2, .ref a), (3, .int (nI n0))] := hl
  have hinL : ∀ w ∈ wsJx4a65c0, w ∈ wsJx4a65c_add_72be8 := by decide +kernel
  have k48 := hts (.fieldLink RJx4a65c 48 "java/util/ArrayList" "size" "I") (by decide +kernel)
  refine lv_iload_n hx hb dJx4a65c_add_72be8_0 rfl (lv_at hl 3 rfl) ?_
  refine lv_aload_n hx hb dJx4a65c_add_72be8_1 rfl (lv_at hl 2 rfl) ?_
  refine va_alen hx hb hK hP 1 4 rfl (ty := .object "java/lang/Object") rfl (v := nI 10) rfl dJx4a65c_add_72be8_2 ?_
  refine q_icmp_ne (tgt := 11) hx hb (by omega) (by omega) dJx4a65c_add_72be8_3 (by decide) (fun c1 => ?_) (fun c1 => absurd c1 (by omega))
  refine lv_aload_n hx hb dJx4a65c_add_72be8_11 rfl (lv_at hl 2 rfl) ?_
  refine lv_iload_n hx hb dJx4a65c_add_72be8_12 rfl (lv_at hl 3 rfl) ?_
  refine lv_aload_n hx hb dJx4a65c_add_72be8_13 rfl (lv_at hl 1 rfl) ?_
  refine va_astqO (E := "java/lang/Object") hx hb hK hP hD hS 1 4 2 1 rfl rfl (hX.2.1 ("FairFolio$Pavilion", "java/lang/Object") (by decide)) rfl rfl (vp_in_nI (n := n0) (by omega) (by decide)) dJx4a65c_add_72be8_14 (fun H locs hP hD hS => ?_)
  rw [nI_clamp (by omega)] at hP hD
  replace hP : va_P D vwCl [(la, lC m0 a (nI n0)), (a, lR (eB E) (va_up f n0 (some pe))), (pe, .inr (1, ps))] H := hP
  replace hD : va_D A [(la, lC m0 a (nI n0)), (a, lR (eB E) (va_up f n0 (some pe))), (pe, .inr (1, ps))] := hD
  refine lv_aload_n hx hb dJx4a65c_add_72be8_15 rfl (lv_at hl 0 rfl) ?_
  refine lv_iload_n hx hb dJx4a65c_add_72be8_16 rfl (lv_at hl 3 rfl) ?_
  refine lv_iconst (v := nI 1) hx hb dJx4a65c_add_72be8_17 (by decide) ?_
  refine q_add hx hb dJx4a65c_add_72be8_18 ?_
  refine va_put (D := D) (ci := 0) (v := .int (nI (n0 + 1))) (ty := .int) (C := RJx4a65c) (T := TJx4a65c) (N := 3) hx hb hts hinL tyJx4a65c tyJx4a65c_ok nmJx4a65c hown hK hP hD hS 0 rfl rfl 2 (by decide) k48 (fun _ h9 => h9) rfl (by decide +kernel) rfl rfl (Nat.le_of_ble_eq_true rfl) dJx4a65c_add_72be8_19 (fun H locs hP hD hS => ?_)
  replace hP : va_P D vwCl [(la, lC m0 a (nI (n0 + 1))), (a, lR (eB E) (va_up f n0 (some pe))), (pe, .inr (1, ps))] H := hP
  replace hD : va_D A [(la, lC m0 a (nI (n0 + 1))), (a, lR (eB E) (va_up f n0 (some pe))), (pe, .inr (1, ps))] := hD
  exact W.vret hx hb hr (fun t ht hW => ⟨⟨(), rfl, trivial, by rw [ht]; exact hP, va_K.moved hW.alike hK, hD⟩, hS.F ht⟩) hS.2.2 dJx4a65c_add_72be8_22

set_option maxHeartbeats 4000000 in
set_option maxRecDepth 100000 in
theorem c_Jx4a65c_add_9ea2d_m (l : Launch) (D : va_G) (E : cE) (tl : gTy) (la a pe : Nat) (m0 : Int32) (n0 : Nat) (f : Nat → Option Nat) (ps : List Value) (hn : n0 < 10) : hI l yJx4a65c_add_9ea2d wsJx4a65c_add_9ea2d ({ frames := 4, cells := 0, slots := 0, locals := 96 } : Room) D E tl [(la, lC m0 a (nI n0)), (a, lR (eB E) f), (pe, .inr (1, ps))] [.ref la, .ref pe] (fun (r : Int32) (u : Unit) => True) (fun _ : Unit => [(la, lC (m0 + nI 1) a (nI (n0 + 1))), (a, lR (eB E) (va_up f n0 (some pe))), (pe, .inr (1, ps))]) 0 0 := by
  refine hM.start (cc := cJx4a65c_add_9ea2d) (maxL := 2) (ret := (some .boolean)) (own := RJx4a65c) rfl (by decide) rfl (Nat.le_of_ble_eq_true rfl) ?_
  intro pr e s m args below meth c A ls H locs hx hb hml hr hts hown hlocks hname hA hK hX hP hD hS hl
  replace hl : lv_has ls 2 [(0, .ref la), (1, .ref pe)] := hl
  have hinL : ∀ w ∈ wsJx4a65c0, w ∈ wsJx4a65c_add_9ea2d := by decide +kernel
  have k63 := hts (.fieldLink RJx4a65c 63 "java/util/ArrayList" "modCount" "I") (by decide +kernel)
  have k9 := hts (.fieldLink RJx4a65c 9 "java/util/ArrayList" "elementData" "[Ljava/lang/Object;") (by decide +kernel)
  have k48 := hts (.fieldLink RJx4a65c 48 "java/util/ArrayList" "size" "I") (by decide +kernel)
  refine lv_aload_n hx hb dJx4a65c_add_9ea2d_0 rfl (lv_at hl 0 rfl) ?_
  refine lv_dup hx hb dJx4a65c_add_9ea2d_1 rfl ?_
  refine va_get (D := D) (ci := 0) (C := RJx4a65c) (T := TJx4a65c) (N := 3) hx hb hts hinL hown hK hP 0 rfl rfl 0 (by decide) k63 (u_same (hts (.sameField "java/util/ArrayList" "java/util/AbstractList" "modCount" "I") (by decide +kernel))) rfl dJx4a65c_add_9ea2d_2 ?_
  refine lv_iconst (v := nI 1) hx hb dJx4a65c_add_9ea2d_5 (by decide) ?_
  refine lv_iadd hx hb dJx4a65c_add_9ea2d_6 ?_
  refine va_put (D := D) (ci := 0) (v := .int (m0 + (nI 1))) (ty := .int) (C := RJx4a65c) (T := TJx4a65c) (N := 3) hx hb hts hinL tyJx4a65c tyJx4a65c_ok nmJx4a65c hown hK hP hD hS 0 rfl rfl 0 (by decide) k63 (u_same (hts (.sameField "java/util/ArrayList" "java/util/AbstractList" "modCount" "I") (by decide +kernel))) rfl (by decide +kernel) rfl rfl (Nat.le_of_ble_eq_true rfl) dJx4a65c_add_9ea2d_7 (fun H locs hP hD hS => ?_)
  replace hP : va_P D vwCl [(la, lC (m0 + (nI 1)) a (nI n0)), (a, lR (eB E) f), (pe, .inr (1, ps))] H := hP
  replace hD : va_D A [(la, lC (m0 + (nI 1)) a (nI n0)), (a, lR (eB E) f), (pe, .inr (1, ps))] := hD
  refine lv_aload_n hx hb dJx4a65c_add_9ea2d_10 rfl (lv_at hl 0 rfl) ?_
  refine lv_aload_n hx hb dJx4a65c_add_9ea2d_11 rfl (lv_at hl 1 rfl) ?_
  refine lv_aload_n hx hb dJx4a65c_add_9ea2d_12 rfl (lv_at hl 0 rfl) ?_
  refine va_get (D := D) (ci := 0) (C := RJx4a65c) (T := TJx4a65c) (N := 3) hx hb hts hinL hown hK hP 0 rfl rfl 1 (by decide) k9 (fun _ h9 => h9) rfl dJx4a65c_add_9ea2d_13 ?_
  refine lv_aload_n hx hb dJx4a65c_add_9ea2d_16 rfl (lv_at hl 0 rfl) ?_
  refine va_get (D := D) (ci := 0) (C := RJx4a65c) (T := TJx4a65c) (N := 3) hx hb hts hinL hown hK hP 0 rfl rfl 2 (by decide) k48 (fun _ h9 => h9) rfl dJx4a65c_add_9ea2d_17 ?_
  refine h_callv (As := [.ref pe, .ref a, .int (nI n0)]) (rest := []) ⟨hx, hb, hml, hown, hts⟩ (c_Jx4a65c_add_72be8_m l D E tl la a pe (m0 + nI 1) n0 f ps hn) (cwV 3 hts gJx4a65c_add_9ea2d_Jx4a65c_add_72be8 rfl rfl rfl (by decide +kernel) ⟨Nat.le_of_ble_eq_true rfl, Nat.le_of_ble_eq_true rfl⟩) (va_recv hK hP (ci := 0) (q0 := 0) rfl rfl) hK hX hP hD hS hA rfl hl.1 rfl (Nat.le_of_ble_eq_true rfl) dJx4a65c_add_9ea2d_20 ⟨Nat.le_of_ble_eq_true rfl, Nat.le_of_ble_eq_true rfl⟩ (fun u_2 H locs hw hP hD hS => ?_)
  refine lv_iconst (v := nI 1) hx hb dJx4a65c_add_9ea2d_23 (by decide) ?_
  exact W.zret (ty := .boolean) hx hb hr (by decide) (fun t ht hW => ⟨⟨_, (), rfl, trivial, by rw [ht]; exact hP, va_K.moved hW.alike hK, hD⟩, hS.F ht⟩) hS.2.2 dJx4a65c_add_9ea2d_24
