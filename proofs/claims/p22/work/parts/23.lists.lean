set_option maxHeartbeats 4000000 in
set_option maxRecDepth 100000 in
theorem c_Jx4a65c_size_8abf5 (l : Launch) (D : va_G) (E : cE) (tl : gTy) (la a : Nat) (m0 n1 : Int32)  : hI l yJx4a65c_size_8abf5 wsJx4a65c_size_8abf5 ({ frames := 0, cells := 0, slots := 0, locals := 0 } : Room) D E tl [(la, lC m0 a n1)] [.ref la] (fun (r : Int32) (u : Unit) => r = n1) (fun _ : Unit => [(la, lC m0 a n1)]) 0 0 := by
  refine hM.start (cc := cJx4a65c_size_8abf5) (maxL := 1) (ret := (some .int)) (own := RJx4a65c) rfl (by decide) rfl (Nat.le_of_ble_eq_true rfl) ?_
  intro pr e s m args below meth c A ls H locs hx hb hml hr hts hown hlocks hname hA hK hX hP hD hS hl
  replace hl : lv_has ls 1 [(0, .ref la)] := hl
  have hinL : ∀ w ∈ wsJx4a65c0, w ∈ wsJx4a65c_size_8abf5 := by decide +kernel
  have k48 := hts (.fieldLink RJx4a65c 48 "java/util/ArrayList" "size" "I") (by decide +kernel)
  refine lv_aload_n hx hb dJx4a65c_size_8abf5_0 rfl (lv_at hl 0 rfl) ?_
  refine va_get (D := D) (ci := 0) (C := RJx4a65c) (T := TJx4a65c) (N := 3) hx hb hts hinL hown hK hP 0 rfl rfl 2 (by decide) k48 (fun _ h9 => h9) rfl dJx4a65c_size_8abf5_1 ?_
  exact W.iret hx hb hr (fun t ht hW => ⟨⟨_, (), rfl, rfl, by rw [ht]; exact hP, va_K.moved hW.alike hK, hD⟩, hS.F ht⟩) hS.2.2 dJx4a65c_size_8abf5_4

set_option maxHeartbeats 4000000 in
set_option maxRecDepth 100000 in
theorem c_J3_checkIndex_8e157 (l : Launch) (D : va_G) (E : cE) (tl : gTy) (w0 : va_W) (k n0 : Nat) (hk : k < n0) (hn : n0 < 100) : hI l yJ3_checkIndex_8e157 wsJ3_checkIndex_8e157 ({ frames := 0, cells := 0, slots := 0, locals := 0 } : Room) D E tl w0 [.int (nI k), .int (nI n0), .null] (fun (r : Int32) (u : Unit) => r = nI k) (fun _ : Unit => w0) 0 0 := by
  refine hM.start (cc := cJ3_checkIndex_8e157) (maxL := 3) (ret := (some .int)) (own := RJ3) rfl (by decide) rfl (Nat.le_of_ble_eq_true rfl) ?_
  intro pr e s m args below meth c A ls H locs hx hb hml hr hts hown hlocks hname hA hK hX hP hD hS hl
  replace hl : lv_has ls 3 [(0, .int (nI k)), (1, .int (nI n0)), (2, .null)] := hl
  refine lv_iload_n hx hb dJ3_checkIndex_8e157_0 rfl (lv_at hl 0 rfl) ?_
  refine q_if_lt (tgt := 9) hx hb (by omega) dJ3_checkIndex_8e157_1 (by decide) (fun c1 => False.elim c1) (fun c1 => ?_)
  refine lv_iload_n hx hb dJ3_checkIndex_8e157_4 rfl (lv_at hl 0 rfl) ?_
  refine lv_iload_n hx hb dJ3_checkIndex_8e157_5 rfl (lv_at hl 1 rfl) ?_
  refine q_icmp_lt (tgt := 16) hx hb (by omega) (by omega) dJ3_checkIndex_8e157_6 (by decide) (fun c2 => ?_) (fun c2 => absurd c2 (by omega))
  refine lv_iload_n hx hb dJ3_checkIndex_8e157_16 rfl (lv_at hl 0 rfl) ?_
  exact W.iret hx hb hr (fun t ht hW => ⟨⟨_, (), rfl, rfl, by rw [ht]; exact hP, va_K.moved hW.alike hK, hD⟩, hS.F ht⟩) hS.2.2 dJ3_checkIndex_8e157_17

set_option maxHeartbeats 4000000 in
set_option maxRecDepth 100000 in
theorem c_J15_checkIndex_7cf53 (l : Launch) (D : va_G) (E : cE) (tl : gTy) (w0 : va_W) (k n0 : Nat) (hk : k < n0) (hn : n0 < 100) : hI l yJ15_checkIndex_7cf53 wsJ15_checkIndex_7cf53 ({ frames := 1, cells := 0, slots := 0, locals := 22 } : Room) D E tl w0 [.int (nI k), .int (nI n0)] (fun (r : Int32) (u : Unit) => r = nI k) (fun _ : Unit => w0) 0 0 := by
  refine hM.start (cc := cJ15_checkIndex_7cf53) (maxL := 2) (ret := (some .int)) (own := RJ15) rfl (by decide) rfl (Nat.le_of_ble_eq_true rfl) ?_
  intro pr e s m args below meth c A ls H locs hx hb hml hr hts hown hlocks hname hA hK hX hP hD hS hl
  replace hl : lv_has ls 2 [(0, .int (nI k)), (1, .int (nI n0))] := hl
  refine lv_iload_n hx hb dJ15_checkIndex_7cf53_0 rfl (lv_at hl 0 rfl) ?_
  refine lv_iload_n hx hb dJ15_checkIndex_7cf53_1 rfl (lv_at hl 1 rfl) ?_
  refine lv_null hx hb dJ15_checkIndex_7cf53_2 ?_
  refine h_scalli (As := [.int (nI k), .int (nI n0), .null]) (rest := []) ⟨hx, hb, hml, hown, hts⟩ (c_J3_checkIndex_8e157 l D E tl w0 k n0 hk hn) (va_cwS 3 hts gJ15_checkIndex_7cf53_J3_checkIndex_8e157 rfl rfl rfl (by decide +kernel) ⟨Nat.le_of_ble_eq_true rfl, Nat.le_of_ble_eq_true rfl⟩) hK hX hP hD hS hA rfl hl.1 rfl (Nat.le_of_ble_eq_true rfl) dJ15_checkIndex_7cf53_3 ⟨Nat.le_of_ble_eq_true rfl, Nat.le_of_ble_eq_true rfl⟩ (fun r_1 u_2 H locs hw hP hD hS => ?_)
  refine q_top (x' := (nI k)) hw ?_
  exact W.iret hx hb hr (fun t ht hW => ⟨⟨_, (), rfl, rfl, by rw [ht]; exact hP, va_K.moved hW.alike hK, hD⟩, hS.F ht⟩) hS.2.2 dJ15_checkIndex_7cf53_6

set_option maxHeartbeats 4000000 in
set_option maxRecDepth 100000 in
theorem c_Jx4a65c_elementData_915e3 (l : Launch) (D : va_G) (E : cE) (tl : gTy) (la a : Nat) (m0 n1 : Int32) (f : Nat → Option Nat) (k : Nat) (hk : k < 10) : hQ l yJx4a65c_elementData_915e3 wsJx4a65c_elementData_915e3 ({ frames := 0, cells := 0, slots := 0, locals := 0 } : Room) D E tl [(la, lC m0 a n1), (a, lR (eB E) f)] [.ref la, .int (nI k)] (fun (r : Option Nat) (u : Unit) => r = f k) (fun _ : Unit => [(la, lC m0 a n1), (a, lR (eB E) f)]) 0 0 := by
  refine hM.start (cc := cJx4a65c_elementData_915e3) (maxL := 2) (ret := (some (.object "java/lang/Object"))) (own := RJx4a65c) rfl (by decide) rfl (Nat.le_of_ble_eq_true rfl) ?_
  intro pr e s m args below meth c A ls H locs hx hb hml hr hts hown hlocks hname hA hK hX hP hD hS hl
  replace hl : lv_has ls 2 [(0, .ref la), (1, .int (nI k))] := hl
  have hinL : ∀ w ∈ wsJx4a65c0, w ∈ wsJx4a65c_elementData_915e3 := by decide +kernel
  have k9 := hts (.fieldLink RJx4a65c 9 "java/util/ArrayList" "elementData" "[Ljava/lang/Object;") (by decide +kernel)
  refine lv_aload_n hx hb dJx4a65c_elementData_915e3_0 rfl (lv_at hl 0 rfl) ?_
  refine va_get (D := D) (ci := 0) (C := RJx4a65c) (T := TJx4a65c) (N := 3) hx hb hts hinL hown hK hP 0 rfl rfl 1 (by decide) k9 (fun _ h9 => h9) rfl dJx4a65c_elementData_915e3_1 ?_
  refine lv_iload_n hx hb dJx4a65c_elementData_915e3_4 rfl (lv_at hl 1 rfl) ?_
  refine q_ald hx hb hK hP 1 4 (C := "java/lang/Object") rfl rfl (by omega) (by decide) dJx4a65c_elementData_915e3_5 ?_
  exact W.aret (v := va_rf (f k)) hx hb hr (Or.inl ⟨_, rfl⟩) (va_rf_or _) (fun t ht hW => ⟨⟨(f k), (), rfl, rfl, by rw [ht]; exact hP, va_K.moved hW.alike hK, hD⟩, hS.F ht⟩) hS.2.2 dJx4a65c_elementData_915e3_6

set_option maxHeartbeats 4000000 in
set_option maxRecDepth 100000 in
theorem c_Jx4a65c_get_915e3 (l : Launch) (D : va_G) (E : cE) (tl : gTy) (la a : Nat) (m0 : Int32) (n0 : Nat) (f : Nat → Option Nat) (k : Nat) (hk : k < n0) (hn : n0 ≤ 10) : hQ l yJx4a65c_get_915e3 wsJx4a65c_get_915e3 ({ frames := 2, cells := 0, slots := 0, locals := 43 } : Room) D E tl [(la, lC m0 a (nI n0)), (a, lR (eB E) f)] [.ref la, .int (nI k)] (fun (r : Option Nat) (u : Unit) => r = f k) (fun _ : Unit => [(la, lC m0 a (nI n0)), (a, lR (eB E) f)]) 0 0 := by
  refine hM.start (cc := cJx4a65c_get_915e3) (maxL := 2) (ret := (some (.object "java/lang/Object"))) (own := RJx4a65c) rfl (by decide) rfl (Nat.le_of_ble_eq_true rfl) ?_
  intro pr e s m args below meth c A ls H locs hx hb hml hr hts hown hlocks hname hA hK hX hP hD hS hl
  replace hl : lv_has ls 2 [(0, .ref la), (1, .int (nI k))] := hl
  have hinL : ∀ w ∈ wsJx4a65c0, w ∈ wsJx4a65c_get_915e3 := by decide +kernel
  have k48 := hts (.fieldLink RJx4a65c 48 "java/util/ArrayList" "size" "I") (by decide +kernel)
  refine lv_iload_n hx hb dJx4a65c_get_915e3_0 rfl (lv_at hl 1 rfl) ?_
  refine lv_aload_n hx hb dJx4a65c_get_915e3_1 rfl (lv_at hl 0 rfl) ?_
  refine va_get (D := D) (ci := 0) (C := RJx4a65c) (T := TJx4a65c) (N := 3) hx hb hts hinL hown hK hP 0 rfl rfl 2 (by decide) k48 (fun _ h9 => h9) rfl dJx4a65c_get_915e3_2 ?_
  refine h_scalli (As := [.int (nI k), .int (nI n0)]) (rest := []) ⟨hx, hb, hml, hown, hts⟩ (c_J15_checkIndex_7cf53 l D E tl [(la, lC m0 a (nI n0)), (a, lR (eB E) f)] k n0 hk (by omega)) (va_cwS 2 hts gJx4a65c_get_915e3_J15_checkIndex_7cf53 rfl rfl rfl (by decide +kernel) ⟨Nat.le_of_ble_eq_true rfl, Nat.le_of_ble_eq_true rfl⟩) hK hX hP hD hS hA rfl hl.1 rfl (Nat.le_of_ble_eq_true rfl) dJx4a65c_get_915e3_5 ⟨Nat.le_of_ble_eq_true rfl, Nat.le_of_ble_eq_true rfl⟩ (fun r_1 u_2 H locs hw hP hD hS => ?_)
  refine lv_pop hx hb dJx4a65c_get_915e3_8 rfl ?_
  refine lv_aload_n hx hb dJx4a65c_get_915e3_9 rfl (lv_at hl 0 rfl) ?_
  refine lv_iload_n hx hb dJx4a65c_get_915e3_10 rfl (lv_at hl 1 rfl) ?_
  refine h_callq (As := [.int (nI k)]) (rest := []) ⟨hx, hb, hml, hown, hts⟩ (c_Jx4a65c_elementData_915e3 l D E tl la a m0 (nI n0) f k (by omega)) (cwV 1 hts gJx4a65c_get_915e3_Jx4a65c_elementData_915e3 rfl rfl rfl (by decide +kernel) ⟨Nat.le_of_ble_eq_true rfl, Nat.le_of_ble_eq_true rfl⟩) (va_recv hK hP (ci := 0) (q0 := 0) rfl rfl) hK hX hP hD hS hA rfl hl.1 rfl (Nat.le_of_ble_eq_true rfl) dJx4a65c_get_915e3_11 ⟨Nat.le_of_ble_eq_true rfl, Nat.le_of_ble_eq_true rfl⟩ (fun r_3 u_4 H locs hw hP hD hS => ?_)
  exact W.aret (v := va_rf r_3) hx hb hr (Or.inl ⟨_, rfl⟩) (va_rf_or _) (fun t ht hW => ⟨⟨r_3, (), rfl, hw, by rw [ht]; exact hP, va_K.moved hW.alike hK, hD⟩, hS.F ht⟩) hS.2.2 dJx4a65c_get_915e3_14
