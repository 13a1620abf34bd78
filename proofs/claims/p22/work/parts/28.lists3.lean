def pT (pe : Nat → Nat) (ps : Nat → List Value) : va_W := (List.range 6).map (fun j => (pe j, .inr (1, ps j)))
theorem pT_at (pe : Nat → Nat) (ps : Nat → List Value) (l1 l2 : Nat × va_E) {j : Nat} (h : j < 6) : (l1 :: l2 :: pT pe ps)[2 + j]? = some (pe j, .inr (1, ps j)) :=
  lt6 (P := fun j => (l1 :: l2 :: pT pe ps)[2 + j]? = some (pe j, .inr (1, ps j))) rfl rfl rfl rfl rfl rfl h
/-- a row of n0 without its place k -/
def lDel (f : Nat → Option Nat) (n0 k : Nat) : Nat → Option Nat := fun q => if q < k then f q else if q + 1 < n0 then f (q + 1) else if q + 1 = n0 then none else f q
theorem lDel_last {f : Nat → Option Nat} {n0 k : Nat} (h : n0 = k + 1) : va_up f k none = lDel f n0 k := by
  funext q
  show (if q = k then none else f q) = (if q < k then f q else if q + 1 < n0 then f (q + 1) else if q + 1 = n0 then none else f q)
  by_cases h1 : q = k
  · rw [if_pos h1, if_neg (by omega), if_neg (by omega), if_pos (by omega)]
  · rw [if_neg h1]
    by_cases h2 : q < k
    · rw [if_pos h2]
    · rw [if_neg h2, if_neg (by omega), if_neg (by omega)]
theorem lDel_mid {f : Nat → Option Nat} {n0 k : Nat} (h : k < n0 - 1) : va_up (va_cpy f f (k + 1) k (n0 - 1 - k)) (n0 - 1) none = lDel f n0 k := by
  funext q
  show (if q = n0 - 1 then none else if k ≤ q ∧ q < k + (n0 - 1 - k) then f (k + 1 + (q - k)) else f q) = (if q < k then f q else if q + 1 < n0 then f (q + 1) else if q + 1 = n0 then none else f q)
  by_cases h1 : q = n0 - 1
  · rw [if_pos h1, if_neg (by omega), if_neg (by omega), if_pos (by omega)]
  · rw [if_neg h1]
    by_cases h2 : q < k
    · rw [if_pos h2, if_neg (by omega)]
    · rw [if_neg h2]
      by_cases h3 : q + 1 < n0
      · rw [if_pos (by omega), if_pos h3, show k + 1 + (q - k) = q + 1 by omega]
      · rw [if_neg (by omega), if_neg h3, if_neg (by omega)]

set_option maxHeartbeats 4000000 in
set_option maxRecDepth 100000 in
theorem c_Jx4a65c_fastRemove_b59b0_t (l : Launch) (D : va_G) (E : cE) (tl : gTy) (la a : Nat) (m0 : Int32) (n0 k : Nat) (f : Nat → Option Nat) (pe : Nat → Nat) (ps : Nat → List Value) (hk9 : k < n0) (hn9 : n0 ≤ 6) (hf9 : ∀ q y, f q = some y → ∃ j, j < 6 ∧ y = pe j) : hV l yJx4a65c_fastRemove_b59b0 wsJx4a65c_fastRemove_b59b0 ({ frames := 1, cells := 0, slots := 0, locals := 40 } : Room) D E tl ((la, lC m0 a (nI n0)) :: (a, lR (eB E) f) :: pT pe ps) [.ref la, .ref a, .int (nI k)] (fun u : Unit => True) (fun _ : Unit => ((la, lC (m0 + nI 1) a (nI (n0 - 1))) :: (a, lR (eB E) (lDel f n0 k)) :: pT pe ps)) 0 0 := by
  refine hM.start (cc := cJx4a65c_fastRemove_b59b0) (maxL := 4) (ret := none) (own := RJx4a65c) rfl (by decide) rfl (Nat.le_of_ble_eq_true rfl) ?_
  intro pr e s m args below meth c A ls H locs hx hb hml hr hts hown hlocks hname hA hK hX hP hD hS hl
  replace hl : lv_has ls 4 [(0, .ref la), (1, .ref a), (2, .int (nI k))] := hl
  have hinL : ∀ w ∈ wsJx4a65c0, w ∈ wsJx4a65c_fastRemove_b59b0 := by decide +kernel
  have k63 := hts (.fieldLink RJx4a65c 63 "java/util/ArrayList" "modCount" "I") (by decide +kernel)
  have k48 := hts (.fieldLink RJx4a65c 48 "java/util/ArrayList" "size" "I") (by decide +kernel)
  refine lv_aload_n hx hb dJx4a65c_fastRemove_b59b0_0 rfl (lv_at hl 0 rfl) ?_
  refine lv_dup hx hb dJx4a65c_fastRemove_b59b0_1 rfl ?_
  refine va_get (D := D) (ci := 0) (C := RJx4a65c) (T := TJx4a65c) (N := 3) hx hb hts hinL hown hK hP 0 rfl rfl 0 (by decide) k63 (u_same (hts (.sameField "java/util/ArrayList" "java/util/AbstractList" "modCount" "I") (by decide +kernel))) rfl dJx4a65c_fastRemove_b59b0_2 ?_
  refine lv_iconst (v := nI 1) hx hb dJx4a65c_fastRemove_b59b0_5 (by decide) ?_
  refine lv_iadd hx hb dJx4a65c_fastRemove_b59b0_6 ?_
  refine va_put (D := D) (ci := 0) (v := .int (m0 + (nI 1))) (ty := .int) (C := RJx4a65c) (T := TJx4a65c) (N := 3) hx hb hts hinL tyJx4a65c tyJx4a65c_ok nmJx4a65c hown hK hP hD hS 0 rfl rfl 0 (by decide) k63 (u_same (hts (.sameField "java/util/ArrayList" "java/util/AbstractList" "modCount" "I") (by decide +kernel))) rfl (by decide +kernel) rfl rfl (Nat.le_of_ble_eq_true rfl) dJx4a65c_fastRemove_b59b0_7 (fun H locs hP hD hS => ?_)
  replace hP : va_P D vwCl ((la, lC (m0 + (nI 1)) a (nI n0)) :: (a, lR (eB E) f) :: pT pe ps) H := hP
  replace hD : va_D A ((la, lC (m0 + (nI 1)) a (nI n0)) :: (a, lR (eB E) f) :: pT pe ps) := hD
  refine lv_aload_n hx hb dJx4a65c_fastRemove_b59b0_10 rfl (lv_at hl 0 rfl) ?_
  refine va_get (D := D) (ci := 0) (C := RJx4a65c) (T := TJx4a65c) (N := 3) hx hb hts hinL hown hK hP 0 rfl rfl 2 (by decide) k48 (fun _ h9 => h9) rfl dJx4a65c_fastRemove_b59b0_11 ?_
  refine lv_iconst (v := nI 1) hx hb dJx4a65c_fastRemove_b59b0_14 (by decide) ?_
  refine q_sub hx hb (by omega) dJx4a65c_fastRemove_b59b0_15 ?_
  refine lv_dup hx hb dJx4a65c_fastRemove_b59b0_16 rfl ?_
  refine lv_istore_n (lv' := [(3, .int (nI (n0 - 1))), (0, .ref la), (1, .ref a), (2, .int (nI k))]) hx hb dJx4a65c_fastRemove_b59b0_17 rfl hl (by decide) rfl (fun ls hl => ?_)
  refine lv_iload_n hx hb dJx4a65c_fastRemove_b59b0_18 rfl (lv_at hl 3 rfl) ?_
  refine q_icmp_le (tgt := 34) hx hb (by omega) (by omega) dJx4a65c_fastRemove_b59b0_19 (by decide) (fun c1 => ?_) (fun c1 => ?_)
  · refine lv_aload_n hx hb dJx4a65c_fastRemove_b59b0_34 rfl (lv_at hl 2 rfl) ?_
    refine lv_aload_n hx hb dJx4a65c_fastRemove_b59b0_35 rfl (lv_at hl 1 rfl) ?_
    refine lv_iload_n hx hb dJx4a65c_fastRemove_b59b0_36 rfl (lv_at hl 0 rfl) ?_
    refine lv_dup_x1 hx hb dJx4a65c_fastRemove_b59b0_37 rfl rfl ?_
    refine va_put (D := D) (ci := 0) (v := .int (nI (n0 - 1))) (ty := .int) (C := RJx4a65c) (T := TJx4a65c) (N := 3) hx hb hts hinL tyJx4a65c tyJx4a65c_ok nmJx4a65c hown hK hP hD hS 0 rfl rfl 2 (by decide) k48 (fun _ h9 => h9) rfl (by decide +kernel) rfl rfl (Nat.le_of_ble_eq_true rfl) dJx4a65c_fastRemove_b59b0_38 (fun H locs hP hD hS => ?_)
    replace hP : va_P D vwCl ((la, lC (m0 + (nI 1)) a (nI (n0 - 1))) :: (a, lR (eB E) f) :: pT pe ps) H := hP
    replace hD : va_D A ((la, lC (m0 + (nI 1)) a (nI (n0 - 1))) :: (a, lR (eB E) f) :: pT pe ps) := hD
    refine lv_null hx hb dJx4a65c_fastRemove_b59b0_41 ?_
    refine va_astqN (C := "java/lang/Object") hx hb hK hP hD hS 1 4 rfl rfl (i := nI (n0 - 1)) (vp_in_nI (by omega) (by decide)) dJx4a65c_fastRemove_b59b0_42 (fun H locs hP hD hS => ?_)
    rw [nI_clamp (by omega)] at hP hD
    have ed9 := (show va_up f (n0 - 1) none = lDel f n0 k from by rw [show n0 - 1 = k by omega]; exact lDel_last (by omega))
    have el9 : va_P D vwCl ((la, lC (m0 + (nI 1)) a (nI (n0 - 1))) :: (a, lR (eB E) (lDel f n0 k)) :: pT pe ps) H := ed9 ▸ hP
    have em9 : va_D A ((la, lC (m0 + (nI 1)) a (nI (n0 - 1))) :: (a, lR (eB E) (lDel f n0 k)) :: pT pe ps) := ed9 ▸ hD
    clear hP hD
    have hP := el9
    have hD := em9
    exact W.vret hx hb hr (fun t ht hW => ⟨⟨(), rfl, trivial, by rw [ht]; exact hP, va_K.moved hW.alike hK, hD⟩, hS.F ht⟩) hS.2.2 dJx4a65c_fastRemove_b59b0_43
  · refine lv_aload_n hx hb dJx4a65c_fastRemove_b59b0_22 rfl (lv_at hl 2 rfl) ?_
    refine lv_iload_n hx hb dJx4a65c_fastRemove_b59b0_23 rfl (lv_at hl 3 rfl) ?_
    refine lv_iconst (v := nI 1) hx hb dJx4a65c_fastRemove_b59b0_24 (by decide) ?_
    refine q_add hx hb dJx4a65c_fastRemove_b59b0_25 ?_
    refine lv_aload_n hx hb dJx4a65c_fastRemove_b59b0_26 rfl (lv_at hl 2 rfl) ?_
    refine lv_iload_n hx hb dJx4a65c_fastRemove_b59b0_27 rfl (lv_at hl 3 rfl) ?_
    refine lv_iload_n hx hb dJx4a65c_fastRemove_b59b0_28 rfl (lv_at hl 0 rfl) ?_
    refine lv_iload_n hx hb dJx4a65c_fastRemove_b59b0_29 rfl (lv_at hl 3 rfl) ?_
    refine q_sub hx hb (by omega) dJx4a65c_fastRemove_b59b0_30 ?_
    refine va_copyq hx hb (by rw [hml]; exact hl.1.symm) hown (hts (.methodLink RJx4a65c 112 arraycopyName) (by decide +kernel)) (hts (.native arraycopyName) (by decide +kernel)) (hts (.static arraycopyName) (by decide +kernel)) (hts (.initialized "java/lang/System") (by decide +kernel)) hK hP hD hS 1 1 4 4 (E0 := "java/lang/Object") (E1 := "java/lang/Object") (C := "FairFolio$Pavilion") rfl rfl rfl rfl (sp := nI (k + 1)) (dp := nI k) (n := nI (n0 - 1 - k)) (nI_pos (by omega)) (nI_pos (by omega)) (nI_pos (by omega)) (by rw [nI_clamp (by omega), nI_clamp (by omega)]; omega) (by rw [nI_clamp (by omega), nI_clamp (by omega)]; omega) (fun q _ y hy => ?_) (fun comp c9 q1 q2 => vb_asgC (hX.2.1 ("FairFolio$Pavilion", "java/lang/Object") (by decide)) comp c9 q1 q2) (Nat.le_of_ble_eq_true rfl) (Nat.le_of_ble_eq_true rfl) dJx4a65c_fastRemove_b59b0_31 (fun H locs hP hD hS => ?_)
    · obtain ⟨j, hj, rfl⟩ := hf9 _ _ hy
      exact va_recv hK hP (ci := 1) rfl (pT_at pe ps _ _ hj)
    rw [nI_clamp (by omega), nI_clamp (by omega), nI_clamp (by omega)] at hP hD
    replace hP : va_P D vwCl ((la, lC (m0 + (nI 1)) a (nI n0)) :: (a, lR (eB E) (va_cpy f f (k + 1) k (n0 - 1 - k))) :: pT pe ps) H := hP
    replace hD : va_D A ((la, lC (m0 + (nI 1)) a (nI n0)) :: (a, lR (eB E) (va_cpy f f (k + 1) k (n0 - 1 - k))) :: pT pe ps) := hD
    refine lv_aload_n hx hb dJx4a65c_fastRemove_b59b0_34 rfl (lv_at hl 2 rfl) ?_
    refine lv_aload_n hx hb dJx4a65c_fastRemove_b59b0_35 rfl (lv_at hl 1 rfl) ?_
    refine lv_iload_n hx hb dJx4a65c_fastRemove_b59b0_36 rfl (lv_at hl 0 rfl) ?_
    refine lv_dup_x1 hx hb dJx4a65c_fastRemove_b59b0_37 rfl rfl ?_
    refine va_put (D := D) (ci := 0) (v := .int (nI (n0 - 1))) (ty := .int) (C := RJx4a65c) (T := TJx4a65c) (N := 3) hx hb hts hinL tyJx4a65c tyJx4a65c_ok nmJx4a65c hown hK hP hD hS 0 rfl rfl 2 (by decide) k48 (fun _ h9 => h9) rfl (by decide +kernel) rfl rfl (Nat.le_of_ble_eq_true rfl) dJx4a65c_fastRemove_b59b0_38 (fun H locs hP hD hS => ?_)
    replace hP : va_P D vwCl ((la, lC (m0 + (nI 1)) a (nI (n0 - 1))) :: (a, lR (eB E) (va_cpy f f (k + 1) k (n0 - 1 - k))) :: pT pe ps) H := hP
    replace hD : va_D A ((la, lC (m0 + (nI 1)) a (nI (n0 - 1))) :: (a, lR (eB E) (va_cpy f f (k + 1) k (n0 - 1 - k))) :: pT pe ps) := hD
    refine lv_null hx hb dJx4a65c_fastRemove_b59b0_41 ?_
    refine va_astqN (C := "java/lang/Object") hx hb hK hP hD hS 1 4 rfl rfl (i := nI (n0 - 1)) (vp_in_nI (by omega) (by decide)) dJx4a65c_fastRemove_b59b0_42 (fun H locs hP hD hS => ?_)
    rw [nI_clamp (by omega)] at hP hD
    have ed9 := (lDel_mid (f := f) (n0 := n0) (k := k) (by omega))
    have el9 : va_P D vwCl ((la, lC (m0 + (nI 1)) a (nI (n0 - 1))) :: (a, lR (eB E) (lDel f n0 k)) :: pT pe ps) H := ed9 ▸ hP
    have em9 : va_D A ((la, lC (m0 + (nI 1)) a (nI (n0 - 1))) :: (a, lR (eB E) (lDel f n0 k)) :: pT pe ps) := ed9 ▸ hD
    clear hP hD
    have hP := el9
    have hD := em9
    exact W.vret hx hb hr (fun t ht hW => ⟨⟨(), rfl, trivial, by rw [ht]; exact hP, va_K.moved hW.alike hK, hD⟩, hS.F ht⟩) hS.2.2 dJx4a65c_fastRemove_b59b0_43

set_option maxHeartbeats 4000000 in
set_option maxRecDepth 100000 in
theorem c_Jx4a65c_remove_915e3_t (l : Launch) (D : va_G) (E : cE) (tl : gTy) (la a : Nat) (m0 : Int32) (n0 k : Nat) (f : Nat → Option Nat) (pe : Nat → Nat) (ps : Nat → List Value) (y9 : Nat) (hk9 : k < n0) (hn9 : n0 ≤ 6) (hf9 : ∀ q y, f q = some y → ∃ j, j < 6 ∧ y = pe j) (hy9 : f k = some y9) : hQ l yJx4a65c_remove_915e3 wsJx4a65c_remove_915e3 ({ frames := 2, cells := 0, slots := 0, locals := 63 } : Room) D E tl ((la, lC m0 a (nI n0)) :: (a, lR (eB E) f) :: pT pe ps) [.ref la, .int (nI k)] (fun (r : Option Nat) (u : Unit) => r = some y9) (fun _ : Unit => ((la, lC (m0 + nI 1) a (nI (n0 - 1))) :: (a, lR (eB E) (lDel f n0 k)) :: pT pe ps)) 0 0 := by
  refine hM.start (cc := cJx4a65c_remove_915e3) (maxL := 4) (ret := (some (.object "java/lang/Object"))) (own := RJx4a65c) rfl (by decide) rfl (Nat.le_of_ble_eq_true rfl) ?_
  intro pr e s m args below meth c A ls H locs hx hb hml hr hts hown hlocks hname hA hK hX hP hD hS hl
  replace hl : lv_has ls 4 [(0, .ref la), (1, .int (nI k))] := hl
  have hinL : ∀ w ∈ wsJx4a65c0, w ∈ wsJx4a65c_remove_915e3 := by decide +kernel
  have k48 := hts (.fieldLink RJx4a65c 48 "java/util/ArrayList" "size" "I") (by decide +kernel)
  have k9 := hts (.fieldLink RJx4a65c 9 "java/util/ArrayList" "elementData" "[Ljava/lang/Object;") (by decide +kernel)
  refine lv_iload_n hx hb dJx4a65c_remove_915e3_0 rfl (lv_at hl 1 rfl) ?_
  refine lv_aload_n hx hb dJx4a65c_remove_915e3_1 rfl (lv_at hl 0 rfl) ?_
  refine va_get (D := D) (ci := 0) (C := RJx4a65c) (T := TJx4a65c) (N := 3) hx hb hts hinL hown hK hP 0 rfl rfl 2 (by decide) k48 (fun _ h9 => h9) rfl dJx4a65c_remove_915e3_2 ?_
  refine h_scalli (As := [.int (nI k), .int (nI n0)]) (rest := []) ⟨hx, hb, hml, hown, hts⟩ (c_J15_checkIndex_7cf53 l D E tl ((la, lC m0 a (nI n0)) :: (a, lR (eB E) f) :: pT pe ps) k n0 hk9 (by omega)) (va_cwS 2 hts gJx4a65c_remove_915e3_J15_checkIndex_7cf53 rfl rfl rfl (by decide +kernel) ⟨Nat.le_of_ble_eq_true rfl, Nat.le_of_ble_eq_true rfl⟩) hK hX hP hD hS hA rfl hl.1 rfl (Nat.le_of_ble_eq_true rfl) dJx4a65c_remove_915e3_5 ⟨Nat.le_of_ble_eq_true rfl, Nat.le_of_ble_eq_true rfl⟩ (fun r_1 u_2 H locs hw hP hD hS => ?_)
  refine lv_pop hx hb dJx4a65c_remove_915e3_8 rfl ?_
  refine lv_aload_n hx hb dJx4a65c_remove_915e3_9 rfl (lv_at hl 0 rfl) ?_
  refine va_get (D := D) (ci := 0) (C := RJx4a65c) (T := TJx4a65c) (N := 3) hx hb hts hinL hown hK hP 0 rfl rfl 1 (by decide) k9 (fun _ h9 => h9) rfl dJx4a65c_remove_915e3_10 ?_
  refine lv_astore_n (lv' := [(2, .ref a), (0, .ref la), (1, .int (nI k))]) hx hb dJx4a65c_remove_915e3_13 rfl hl (by decide) rfl (fun ls hl => ?_)
  refine lv_aload_n hx hb dJx4a65c_remove_915e3_14 rfl (lv_at hl 0 rfl) ?_
  refine lv_iload_n hx hb dJx4a65c_remove_915e3_15 rfl (lv_at hl 2 rfl) ?_
  refine q_ald hx hb hK hP 1 4 (C := "java/lang/Object") rfl rfl (by omega) (by decide) dJx4a65c_remove_915e3_16 ?_
  refine q_topv (v' := .ref y9) (by rw [hy9]; rfl) ?_
  refine lv_astore_n (lv' := [(3, .ref y9), (2, .ref a), (0, .ref la), (1, .int (nI k))]) hx hb dJx4a65c_remove_915e3_17 rfl hl (by decide) rfl (fun ls hl => ?_)
  refine lv_aload_n hx hb dJx4a65c_remove_915e3_18 rfl (lv_at hl 2 rfl) ?_
  refine lv_aload_n hx hb dJx4a65c_remove_915e3_19 rfl (lv_at hl 1 rfl) ?_
  refine lv_iload_n hx hb dJx4a65c_remove_915e3_20 rfl (lv_at hl 3 rfl) ?_
  refine h_callv (As := [.ref a, .int (nI k)]) (rest := []) ⟨hx, hb, hml, hown, hts⟩ (c_Jx4a65c_fastRemove_b59b0_t l D E tl la a m0 n0 k f pe ps hk9 hn9 hf9) (cwV 2 hts gJx4a65c_remove_915e3_Jx4a65c_fastRemove_b59b0 rfl rfl rfl (by decide +kernel) ⟨Nat.le_of_ble_eq_true rfl, Nat.le_of_ble_eq_true rfl⟩) (va_recv hK hP (ci := 0) (q0 := 0) rfl rfl) hK hX hP hD hS hA rfl hl.1 rfl (Nat.le_of_ble_eq_true rfl) dJx4a65c_remove_915e3_21 ⟨Nat.le_of_ble_eq_true rfl, Nat.le_of_ble_eq_true rfl⟩ (fun u_4 H locs hw hP hD hS => ?_)
  refine lv_aload_n hx hb dJx4a65c_remove_915e3_24 rfl (lv_at hl 0 rfl) ?_
  exact W.aret (v := va_rf (some y9)) hx hb hr (Or.inl ⟨_, rfl⟩) (va_rf_or _) (fun t ht hW => ⟨⟨(some y9), (), rfl, rfl, by rw [ht]; exact hP, va_K.moved hW.alike hK, hD⟩, hS.F ht⟩) hS.2.2 dJx4a65c_remove_915e3_25
