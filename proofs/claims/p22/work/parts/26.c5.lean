set_option maxHeartbeats 4000000 in
set_option maxRecDepth 100000 in
theorem c_X2_pavilionAt (l : Launch) (D : va_G) (E : cE) (tl : gTy) (x : Nat → Nat → Int32) (j : Nat) (hj : j < 6)  : hQ l yX2_pavilionAt wsX2_pavilionAt ({ frames := 0, cells := 0, slots := 0, locals := 0 } : Room) D E tl (cW E x) [.ref (eO E), .int (nI j)] (fun (r : Option Nat) (u : Nat → Nat → Int32) => r = some (ePad E j) ∧ u = x) (cW E) 0 0 := by
  refine hM.start (cc := cX2_pavilionAt) (maxL := 2) (ret := (some (.object "FairFolio$Pavilion"))) (own := RX2) rfl (by decide) rfl (Nat.le_of_ble_eq_true rfl) ?_
  intro pr e s m args below meth c A ls H locs hx hb hml hr hts hown hlocks hname hA hK hX hP hD hS hl
  replace hl : lv_has ls 2 [(0, .ref (eO E)), (1, .int (nI j))] := hl
  have hinO : ∀ w ∈ wsX20, w ∈ wsX2_pavilionAt := by decide +kernel
  have k11 := hts (.fieldLink RX2 11 "FairFolio" "pavilions" "[LFairFolio$Pavilion;") (by decide +kernel)
  refine lv_iload_n hx hb dX2_pavilionAt_0 rfl (lv_at hl 1 rfl) ?_
  refine q_if_lt (tgt := 10) hx hb (by omega) dX2_pavilionAt_1 (by decide) (fun c1 => False.elim c1) (fun c1 => ?_)
  refine lv_iload_n hx hb dX2_pavilionAt_4 rfl (lv_at hl 1 rfl) ?_
  refine lv_bipush (v := nI 6) hx hb dX2_pavilionAt_5 (by decide) ?_
  refine q_icmp_lt (tgt := 20) hx hb (by omega) (by omega) dX2_pavilionAt_7 (by decide) (fun c2 => ?_) (fun c2 => absurd c2 (by omega))
  refine lv_aload_n hx hb dX2_pavilionAt_20 rfl (lv_at hl 0 rfl) ?_
  refine c_getO hx hb hts hinO hown hK hP 0 (by decide) k11 rfl rfl dX2_pavilionAt_21 ?_
  refine lv_iload_n hx hb dX2_pavilionAt_24 rfl (lv_at hl 1 rfl) ?_
  refine c_pald hx hb hK hP (by omega) dX2_pavilionAt_25 ?_
  exact W.aret (v := va_rf (some (ePad E j))) hx hb hr (Or.inl ⟨_, rfl⟩) (va_rf_or _) (fun t ht hW => ⟨⟨(some (ePad E j)), x, rfl, ⟨rfl, rfl⟩, by rw [ht]; exact hP, va_K.moved hW.alike hK, hD⟩, hS.F ht⟩) hS.2.2 dX2_pavilionAt_26

set_option maxHeartbeats 4000000 in
set_option maxRecDepth 100000 in
theorem c_X2_visitorAt (l : Launch) (D : va_G) (E : cE) (tl : gTy) (x : Nat → Nat → Int32) (i : Nat) (hj : i < 8)  : hQ l yX2_visitorAt wsX2_visitorAt ({ frames := 0, cells := 0, slots := 0, locals := 0 } : Room) D E tl (cW E x) [.ref (eO E), .int (nI i)] (fun (r : Option Nat) (u : Nat → Nat → Int32) => r = some (eVad E i) ∧ u = x) (cW E) 0 0 := by
  refine hM.start (cc := cX2_visitorAt) (maxL := 2) (ret := (some (.object "FairFolio$Visitor"))) (own := RX2) rfl (by decide) rfl (Nat.le_of_ble_eq_true rfl) ?_
  intro pr e s m args below meth c A ls H locs hx hb hml hr hts hown hlocks hname hA hK hX hP hD hS hl
  replace hl : lv_has ls 2 [(0, .ref (eO E)), (1, .int (nI i))] := hl
  have hinO : ∀ w ∈ wsX20, w ∈ wsX2_visitorAt := by decide +kernel
  have k17 := hts (.fieldLink RX2 17 "FairFolio" "visitors" "[LFairFolio$Visitor;") (by decide +kernel)
  refine lv_iload_n hx hb dX2_visitorAt_0 rfl (lv_at hl 1 rfl) ?_
  refine q_if_lt (tgt := 10) hx hb (by omega) dX2_visitorAt_1 (by decide) (fun c1 => False.elim c1) (fun c1 => ?_)
  refine lv_iload_n hx hb dX2_visitorAt_4 rfl (lv_at hl 1 rfl) ?_
  refine lv_bipush (v := nI 8) hx hb dX2_visitorAt_5 (by decide) ?_
  refine q_icmp_lt (tgt := 20) hx hb (by omega) (by omega) dX2_visitorAt_7 (by decide) (fun c2 => ?_) (fun c2 => absurd c2 (by omega))
  refine lv_aload_n hx hb dX2_visitorAt_20 rfl (lv_at hl 0 rfl) ?_
  refine c_getO hx hb hts hinO hown hK hP 1 (by decide) k17 rfl rfl dX2_visitorAt_21 ?_
  refine lv_iload_n hx hb dX2_visitorAt_24 rfl (lv_at hl 1 rfl) ?_
  refine c_vald hx hb hK hP (by omega) dX2_visitorAt_25 ?_
  exact W.aret (v := va_rf (some (eVad E i))) hx hb hr (Or.inl ⟨_, rfl⟩) (va_rf_or _) (fun t ht hW => ⟨⟨(some (eVad E i)), x, rfl, ⟨rfl, rfl⟩, by rw [ht]; exact hP, va_K.moved hW.alike hK, hD⟩, hS.F ht⟩) hS.2.2 dX2_visitorAt_26

set_option maxHeartbeats 4000000 in
set_option maxRecDepth 100000 in
theorem c_X2_stateOf (l : Launch) (D : va_G) (E : cE) (tl : gTy) (x : Nat → Nat → Int32) (i : Nat) (hi : i < 8)  : hI l yX2_stateOf wsX2_stateOf ({ frames := 1, cells := 0, slots := 0, locals := 21 } : Room) D E tl (cW E x) [.ref (eO E), .int (nI i)] (fun (r : Int32) (u : Nat → Nat → Int32) => r = x 6 i ∧ u = x) (cW E) 0 0 := by
  refine hM.start (cc := cX2_stateOf) (maxL := 2) (ret := (some .int)) (own := RX2) rfl (by decide) rfl (Nat.le_of_ble_eq_true rfl) ?_
  intro pr e s m args below meth c A ls H locs hx hb hml hr hts hown hlocks hname hA hK hX hP hD hS hl
  replace hl : lv_has ls 2 [(0, .ref (eO E)), (1, .int (nI i))] := hl
  have hinV : ∀ w ∈ wsX10, w ∈ wsX2_stateOf := by decide +kernel
  have k138 := va_Nw.use (A := args) rfl (hX.1 (.fieldLinkNest RX2 138 "FairFolio$Visitor" "state" "I" "FairFolio") (by decide +kernel))
  refine lv_aload_n hx hb dX2_stateOf_0 rfl (lv_at hl 0 rfl) ?_
  refine lv_iload_n hx hb dX2_stateOf_1 rfl (lv_at hl 1 rfl) ?_
  refine h_callq (As := [.int (nI i)]) (rest := []) ⟨hx, hb, hml, hown, hts⟩ (c_X2_visitorAt l D E tl x i hi) (cwV 1 hts gX2_stateOf_X2_visitorAt rfl rfl rfl (by decide +kernel) ⟨Nat.le_of_ble_eq_true rfl, Nat.le_of_ble_eq_true rfl⟩) (c_recv hK hP) hK hX hP hD hS hA rfl hl.1 rfl (Nat.le_of_ble_eq_true rfl) dX2_stateOf_2 ⟨Nat.le_of_ble_eq_true rfl, Nat.le_of_ble_eq_true rfl⟩ (fun r_3 u_2 H locs hw hP hD hS => ?_)
  obtain ⟨hr_3, hu_2⟩ := hw
  rw [hu_2] at hP hD
  refine q_topv (v' := .ref (eVad E i)) (by rw [hr_3]; rfl) ?_
  refine c_getV hx hb hts hinV hown hK hP (by omega) 2 (by decide) k138 rfl rfl dX2_stateOf_5 ?_
  exact W.iret hx hb hr (fun t ht hW => ⟨⟨_, x, rfl, ⟨rfl, rfl⟩, by rw [ht]; exact hP, va_K.moved hW.alike hK, hD⟩, hS.F ht⟩) hS.2.2 dX2_stateOf_8

set_option maxHeartbeats 4000000 in
set_option maxRecDepth 100000 in
theorem c_X2_whereIs (l : Launch) (D : va_G) (E : cE) (tl : gTy) (x : Nat → Nat → Int32) (i : Nat) (hi : i < 8)  : hI l yX2_whereIs wsX2_whereIs ({ frames := 1, cells := 0, slots := 0, locals := 21 } : Room) D E tl (cW E x) [.ref (eO E), .int (nI i)] (fun (r : Int32) (u : Nat → Nat → Int32) => r = x 7 i ∧ u = x) (cW E) 0 0 := by
  refine hM.start (cc := cX2_whereIs) (maxL := 2) (ret := (some .int)) (own := RX2) rfl (by decide) rfl (Nat.le_of_ble_eq_true rfl) ?_
  intro pr e s m args below meth c A ls H locs hx hb hml hr hts hown hlocks hname hA hK hX hP hD hS hl
  replace hl : lv_has ls 2 [(0, .ref (eO E)), (1, .int (nI i))] := hl
  have hinV : ∀ w ∈ wsX10, w ∈ wsX2_whereIs := by decide +kernel
  have k141 := va_Nw.use (A := args) rfl (hX.1 (.fieldLinkNest RX2 141 "FairFolio$Visitor" "where" "I" "FairFolio") (by decide +kernel))
  refine lv_aload_n hx hb dX2_whereIs_0 rfl (lv_at hl 0 rfl) ?_
  refine lv_iload_n hx hb dX2_whereIs_1 rfl (lv_at hl 1 rfl) ?_
  refine h_callq (As := [.int (nI i)]) (rest := []) ⟨hx, hb, hml, hown, hts⟩ (c_X2_visitorAt l D E tl x i hi) (cwV 1 hts gX2_whereIs_X2_visitorAt rfl rfl rfl (by decide +kernel) ⟨Nat.le_of_ble_eq_true rfl, Nat.le_of_ble_eq_true rfl⟩) (c_recv hK hP) hK hX hP hD hS hA rfl hl.1 rfl (Nat.le_of_ble_eq_true rfl) dX2_whereIs_2 ⟨Nat.le_of_ble_eq_true rfl, Nat.le_of_ble_eq_true rfl⟩ (fun r_3 u_2 H locs hw hP hD hS => ?_)
  obtain ⟨hr_3, hu_2⟩ := hw
  rw [hu_2] at hP hD
  refine q_topv (v' := .ref (eVad E i)) (by rw [hr_3]; rfl) ?_
  refine c_getV hx hb hts hinV hown hK hP (by omega) 3 (by decide) k141 rfl rfl dX2_whereIs_5 ?_
  exact W.iret hx hb hr (fun t ht hW => ⟨⟨_, x, rfl, ⟨rfl, rfl⟩, by rw [ht]; exact hP, va_K.moved hW.alike hK, hD⟩, hS.F ht⟩) hS.2.2 dX2_whereIs_8

set_option maxHeartbeats 4000000 in
set_option maxRecDepth 100000 in
theorem c_X2_placeOf (l : Launch) (D : va_G) (E : cE) (tl : gTy) (x : Nat → Nat → Int32) (i : Nat) (hi : i < 8)  : hI l yX2_placeOf wsX2_placeOf ({ frames := 1, cells := 0, slots := 0, locals := 21 } : Room) D E tl (cW E x) [.ref (eO E), .int (nI i)] (fun (r : Int32) (u : Nat → Nat → Int32) => r = x 8 i ∧ u = x) (cW E) 0 0 := by
  refine hM.start (cc := cX2_placeOf) (maxL := 2) (ret := (some .int)) (own := RX2) rfl (by decide) rfl (Nat.le_of_ble_eq_true rfl) ?_
  intro pr e s m args below meth c A ls H locs hx hb hml hr hts hown hlocks hname hA hK hX hP hD hS hl
  replace hl : lv_has ls 2 [(0, .ref (eO E)), (1, .int (nI i))] := hl
  have hinV : ∀ w ∈ wsX10, w ∈ wsX2_placeOf := by decide +kernel
  have k144 := va_Nw.use (A := args) rfl (hX.1 (.fieldLinkNest RX2 144 "FairFolio$Visitor" "place" "I" "FairFolio") (by decide +kernel))
  refine lv_aload_n hx hb dX2_placeOf_0 rfl (lv_at hl 0 rfl) ?_
  refine lv_iload_n hx hb dX2_placeOf_1 rfl (lv_at hl 1 rfl) ?_
  refine h_callq (As := [.int (nI i)]) (rest := []) ⟨hx, hb, hml, hown, hts⟩ (c_X2_visitorAt l D E tl x i hi) (cwV 1 hts gX2_placeOf_X2_visitorAt rfl rfl rfl (by decide +kernel) ⟨Nat.le_of_ble_eq_true rfl, Nat.le_of_ble_eq_true rfl⟩) (c_recv hK hP) hK hX hP hD hS hA rfl hl.1 rfl (Nat.le_of_ble_eq_true rfl) dX2_placeOf_2 ⟨Nat.le_of_ble_eq_true rfl, Nat.le_of_ble_eq_true rfl⟩ (fun r_3 u_2 H locs hw hP hD hS => ?_)
  obtain ⟨hr_3, hu_2⟩ := hw
  rw [hu_2] at hP hD
  refine q_topv (v' := .ref (eVad E i)) (by rw [hr_3]; rfl) ?_
  refine c_getV hx hb hts hinV hown hK hP (by omega) 4 (by decide) k144 rfl rfl dX2_placeOf_5 ?_
  exact W.iret hx hb hr (fun t ht hW => ⟨⟨_, x, rfl, ⟨rfl, rfl⟩, by rw [ht]; exact hP, va_K.moved hW.alike hK, hD⟩, hS.F ht⟩) hS.2.2 dX2_placeOf_8

set_option maxHeartbeats 4000000 in
set_option maxRecDepth 100000 in
theorem c_X2_turnOf (l : Launch) (D : va_G) (E : cE) (tl : gTy) (x : Nat → Nat → Int32) (i : Nat) (hi : i < 8)  : hI l yX2_turnOf wsX2_turnOf ({ frames := 1, cells := 0, slots := 0, locals := 21 } : Room) D E tl (cW E x) [.ref (eO E), .int (nI i)] (fun (r : Int32) (u : Nat → Nat → Int32) => r = x 11 i ∧ u = x) (cW E) 0 0 := by
  refine hM.start (cc := cX2_turnOf) (maxL := 2) (ret := (some .int)) (own := RX2) rfl (by decide) rfl (Nat.le_of_ble_eq_true rfl) ?_
  intro pr e s m args below meth c A ls H locs hx hb hml hr hts hown hlocks hname hA hK hX hP hD hS hl
  replace hl : lv_has ls 2 [(0, .ref (eO E)), (1, .int (nI i))] := hl
  have hinV : ∀ w ∈ wsX10, w ∈ wsX2_turnOf := by decide +kernel
  have k98 := va_Nw.use (A := args) rfl (hX.1 (.fieldLinkNest RX2 98 "FairFolio$Visitor" "turnMinute" "I" "FairFolio") (by decide +kernel))
  refine lv_aload_n hx hb dX2_turnOf_0 rfl (lv_at hl 0 rfl) ?_
  refine lv_iload_n hx hb dX2_turnOf_1 rfl (lv_at hl 1 rfl) ?_
  refine h_callq (As := [.int (nI i)]) (rest := []) ⟨hx, hb, hml, hown, hts⟩ (c_X2_visitorAt l D E tl x i hi) (cwV 1 hts gX2_turnOf_X2_visitorAt rfl rfl rfl (by decide +kernel) ⟨Nat.le_of_ble_eq_true rfl, Nat.le_of_ble_eq_true rfl⟩) (c_recv hK hP) hK hX hP hD hS hA rfl hl.1 rfl (Nat.le_of_ble_eq_true rfl) dX2_turnOf_2 ⟨Nat.le_of_ble_eq_true rfl, Nat.le_of_ble_eq_true rfl⟩ (fun r_3 u_2 H locs hw hP hD hS => ?_)
  obtain ⟨hr_3, hu_2⟩ := hw
  rw [hu_2] at hP hD
  refine q_topv (v' := .ref (eVad E i)) (by rw [hr_3]; rfl) ?_
  refine c_getV hx hb hts hinV hown hK hP (by omega) 7 (by decide) k98 rfl rfl dX2_turnOf_5 ?_
  exact W.iret hx hb hr (fun t ht hW => ⟨⟨_, x, rfl, ⟨rfl, rfl⟩, by rw [ht]; exact hP, va_K.moved hW.alike hK, hD⟩, hS.F ht⟩) hS.2.2 dX2_turnOf_8

set_option maxHeartbeats 4000000 in
set_option maxRecDepth 100000 in
theorem c_X2_stamps (l : Launch) (D : va_G) (E : cE) (tl : gTy) (x : Nat → Nat → Int32) (i : Nat) (hi : i < 8)  : hI l yX2_stamps wsX2_stamps ({ frames := 1, cells := 0, slots := 0, locals := 21 } : Room) D E tl (cW E x) [.ref (eO E), .int (nI i)] (fun (r : Int32) (u : Nat → Nat → Int32) => r = x 10 i ∧ u = x) (cW E) 0 0 := by
  refine hM.start (cc := cX2_stamps) (maxL := 2) (ret := (some .int)) (own := RX2) rfl (by decide) rfl (Nat.le_of_ble_eq_true rfl) ?_
  intro pr e s m args below meth c A ls H locs hx hb hml hr hts hown hlocks hname hA hK hX hP hD hS hl
  replace hl : lv_has ls 2 [(0, .ref (eO E)), (1, .int (nI i))] := hl
  have hinV : ∀ w ∈ wsX10, w ∈ wsX2_stamps := by decide +kernel
  have k147 := va_Nw.use (A := args) rfl (hX.1 (.fieldLinkNest RX2 147 "FairFolio$Visitor" "stamps" "I" "FairFolio") (by decide +kernel))
  refine lv_aload_n hx hb dX2_stamps_0 rfl (lv_at hl 0 rfl) ?_
  refine lv_iload_n hx hb dX2_stamps_1 rfl (lv_at hl 1 rfl) ?_
  refine h_callq (As := [.int (nI i)]) (rest := []) ⟨hx, hb, hml, hown, hts⟩ (c_X2_visitorAt l D E tl x i hi) (cwV 1 hts gX2_stamps_X2_visitorAt rfl rfl rfl (by decide +kernel) ⟨Nat.le_of_ble_eq_true rfl, Nat.le_of_ble_eq_true rfl⟩) (c_recv hK hP) hK hX hP hD hS hA rfl hl.1 rfl (Nat.le_of_ble_eq_true rfl) dX2_stamps_2 ⟨Nat.le_of_ble_eq_true rfl, Nat.le_of_ble_eq_true rfl⟩ (fun r_3 u_2 H locs hw hP hD hS => ?_)
  obtain ⟨hr_3, hu_2⟩ := hw
  rw [hu_2] at hP hD
  refine q_topv (v' := .ref (eVad E i)) (by rw [hr_3]; rfl) ?_
  refine c_getV hx hb hts hinV hown hK hP (by omega) 6 (by decide) k147 rfl rfl dX2_stamps_5 ?_
  exact W.iret hx hb hr (fun t ht hW => ⟨⟨_, x, rfl, ⟨rfl, rfl⟩, by rw [ht]; exact hP, va_K.moved hW.alike hK, hD⟩, hS.F ht⟩) hS.2.2 dX2_stamps_8

set_option maxHeartbeats 4000000 in
set_option maxRecDepth 100000 in
theorem c_X2_stock (l : Launch) (D : va_G) (E : cE) (tl : gTy) (x : Nat → Nat → Int32) (j : Nat) (hj : j < 6)  : hI l yX2_stock wsX2_stock ({ frames := 1, cells := 0, slots := 0, locals := 21 } : Room) D E tl (cW E x) [.ref (eO E), .int (nI j)] (fun (r : Int32) (u : Nat → Nat → Int32) => r = x 4 j ∧ u = x) (cW E) 0 0 := by
  refine hM.start (cc := cX2_stock) (maxL := 2) (ret := (some .int)) (own := RX2) rfl (by decide) rfl (Nat.le_of_ble_eq_true rfl) ?_
  intro pr e s m args below meth c A ls H locs hx hb hml hr hts hown hlocks hname hA hK hX hP hD hS hl
  replace hl : lv_has ls 2 [(0, .ref (eO E)), (1, .int (nI j))] := hl
  have hinP : ∀ w ∈ wsX00, w ∈ wsX2_stock := by decide +kernel
  have k123 := va_Nw.use (A := args) rfl (hX.1 (.fieldLinkNest RX2 123 "FairFolio$Pavilion" "stock" "I" "FairFolio") (by decide +kernel))
  refine lv_aload_n hx hb dX2_stock_0 rfl (lv_at hl 0 rfl) ?_
  refine lv_iload_n hx hb dX2_stock_1 rfl (lv_at hl 1 rfl) ?_
  refine h_callq (As := [.int (nI j)]) (rest := []) ⟨hx, hb, hml, hown, hts⟩ (c_X2_pavilionAt l D E tl x j hj) (cwV 1 hts gX2_stock_X2_pavilionAt rfl rfl rfl (by decide +kernel) ⟨Nat.le_of_ble_eq_true rfl, Nat.le_of_ble_eq_true rfl⟩) (c_recv hK hP) hK hX hP hD hS hA rfl hl.1 rfl (Nat.le_of_ble_eq_true rfl) dX2_stock_2 ⟨Nat.le_of_ble_eq_true rfl, Nat.le_of_ble_eq_true rfl⟩ (fun r_3 u_2 H locs hw hP hD hS => ?_)
  obtain ⟨hr_3, hu_2⟩ := hw
  rw [hu_2] at hP hD
  refine q_topv (v' := .ref (ePad E j)) (by rw [hr_3]; rfl) ?_
  refine c_getP hx hb hts hinP hown hK hP (by omega) 4 (by decide) k123 rfl rfl dX2_stock_5 ?_
  exact W.iret hx hb hr (fun t ht hW => ⟨⟨_, x, rfl, ⟨rfl, rfl⟩, by rw [ht]; exact hP, va_K.moved hW.alike hK, hD⟩, hS.F ht⟩) hS.2.2 dX2_stock_8

set_option maxHeartbeats 4000000 in
set_option maxRecDepth 100000 in
theorem c_X2_demand (l : Launch) (D : va_G) (E : cE) (tl : gTy) (x : Nat → Nat → Int32) (j : Nat) (hj : j < 6)  : hI l yX2_demand wsX2_demand ({ frames := 1, cells := 0, slots := 0, locals := 21 } : Room) D E tl (cW E x) [.ref (eO E), .int (nI j)] (fun (r : Int32) (u : Nat → Nat → Int32) => r = x 5 j ∧ u = x) (cW E) 0 0 := by
  refine hM.start (cc := cX2_demand) (maxL := 2) (ret := (some .int)) (own := RX2) rfl (by decide) rfl (Nat.le_of_ble_eq_true rfl) ?_
  intro pr e s m args below meth c A ls H locs hx hb hml hr hts hown hlocks hname hA hK hX hP hD hS hl
  replace hl : lv_has ls 2 [(0, .ref (eO E)), (1, .int (nI j))] := hl
  have hinP : ∀ w ∈ wsX00, w ∈ wsX2_demand := by decide +kernel
  have k126 := va_Nw.use (A := args) rfl (hX.1 (.fieldLinkNest RX2 126 "FairFolio$Pavilion" "demand" "I" "FairFolio") (by decide +kernel))
  refine lv_aload_n hx hb dX2_demand_0 rfl (lv_at hl 0 rfl) ?_
  refine lv_iload_n hx hb dX2_demand_1 rfl (lv_at hl 1 rfl) ?_
  refine h_callq (As := [.int (nI j)]) (rest := []) ⟨hx, hb, hml, hown, hts⟩ (c_X2_pavilionAt l D E tl x j hj) (cwV 1 hts gX2_demand_X2_pavilionAt rfl rfl rfl (by decide +kernel) ⟨Nat.le_of_ble_eq_true rfl, Nat.le_of_ble_eq_true rfl⟩) (c_recv hK hP) hK hX hP hD hS hA rfl hl.1 rfl (Nat.le_of_ble_eq_true rfl) dX2_demand_2 ⟨Nat.le_of_ble_eq_true rfl, Nat.le_of_ble_eq_true rfl⟩ (fun r_3 u_2 H locs hw hP hD hS => ?_)
  obtain ⟨hr_3, hu_2⟩ := hw
  rw [hu_2] at hP hD
  refine q_topv (v' := .ref (ePad E j)) (by rw [hr_3]; rfl) ?_
  refine c_getP hx hb hts hinP hown hK hP (by omega) 5 (by decide) k126 rfl rfl dX2_demand_5 ?_
  exact W.iret hx hb hr (fun t ht hW => ⟨⟨_, x, rfl, ⟨rfl, rfl⟩, by rw [ht]; exact hP, va_K.moved hW.alike hK, hD⟩, hS.F ht⟩) hS.2.2 dX2_demand_8

set_option maxHeartbeats 4000000 in
set_option maxRecDepth 100000 in
theorem c_X2_queue (l : Launch) (D : va_G) (E : cE) (tl : gTy) (x : Nat → Nat → Int32) (j : Nat) (hj : j < 6)  : hI l yX2_queue wsX2_queue ({ frames := 2, cells := 0, slots := 0, locals := 50 } : Room) D E tl (cW E x) [.ref (eO E), .int (nI j)] (fun (r : Int32) (u : Nat → Nat → Int32) => r = nI (cCnt x (nI 1) j 8) ∧ u = x) (cW E) 0 0 := by
  refine hM.start (cc := cX2_queue) (maxL := 2) (ret := (some .int)) (own := RX2) rfl (by decide) rfl (Nat.le_of_ble_eq_true rfl) ?_
  intro pr e s m args below meth c A ls H locs hx hb hml hr hts hown hlocks hname hA hK hX hP hD hS hl
  replace hl : lv_has ls 2 [(0, .ref (eO E)), (1, .int (nI j))] := hl
  refine lv_aload_n hx hb dX2_queue_0 rfl (lv_at hl 0 rfl) ?_
  refine lv_iconst (v := nI 1) hx hb dX2_queue_1 (by decide) ?_
  refine lv_aload_n hx hb dX2_queue_2 rfl (lv_at hl 0 rfl) ?_
  refine lv_iload_n hx hb dX2_queue_3 rfl (lv_at hl 1 rfl) ?_
  refine h_callq (As := [.int (nI j)]) (rest := [.int (nI 1), .ref (eO E)]) ⟨hx, hb, hml, hown, hts⟩ (c_X2_pavilionAt l D E tl x j hj) (cwV 1 hts gX2_queue_X2_pavilionAt rfl rfl rfl (by decide +kernel) ⟨Nat.le_of_ble_eq_true rfl, Nat.le_of_ble_eq_true rfl⟩) (c_recv hK hP) hK hX hP hD hS hA rfl hl.1 rfl (Nat.le_of_ble_eq_true rfl) dX2_queue_4 ⟨Nat.le_of_ble_eq_true rfl, Nat.le_of_ble_eq_true rfl⟩ (fun r_3 u_2 H locs hw hP hD hS => ?_)
  obtain ⟨hr_3, hu_2⟩ := hw
  rw [hu_2] at hP hD
  refine q_topv (v' := .ref (ePad E j)) (by rw [hr_3]; rfl) ?_
  refine h_calli (As := [.int (nI 1), .ref (ePad E j)]) (rest := []) ⟨hx, hb, hml, hown, hts⟩ (c_X2_countAt l D E tl x j (nI 1) hj) (cwV 2 hts gX2_queue_X2_countAt rfl rfl rfl (by decide +kernel) ⟨Nat.le_of_ble_eq_true rfl, Nat.le_of_ble_eq_true rfl⟩) (c_recv hK hP) hK hX hP hD hS hA rfl hl.1 rfl (Nat.le_of_ble_eq_true rfl) dX2_queue_7 ⟨Nat.le_of_ble_eq_true rfl, Nat.le_of_ble_eq_true rfl⟩ (fun r_6 u_5 H locs hw hP hD hS => ?_)
  obtain ⟨hr_6, hu_5⟩ := hw
  rw [hu_5] at hP hD
  refine q_top (x' := (nI (cCnt x (nI 1) j 8))) hr_6 ?_
  exact W.iret hx hb hr (fun t ht hW => ⟨⟨_, x, rfl, ⟨rfl, rfl⟩, by rw [ht]; exact hP, va_K.moved hW.alike hK, hD⟩, hS.F ht⟩) hS.2.2 dX2_queue_10

set_option maxHeartbeats 4000000 in
set_option maxRecDepth 100000 in
theorem c_X2_inside (l : Launch) (D : va_G) (E : cE) (tl : gTy) (x : Nat → Nat → Int32) (j : Nat) (hj : j < 6)  : hI l yX2_inside wsX2_inside ({ frames := 2, cells := 0, slots := 0, locals := 50 } : Room) D E tl (cW E x) [.ref (eO E), .int (nI j)] (fun (r : Int32) (u : Nat → Nat → Int32) => r = nI (cCnt x (nI 2) j 8) ∧ u = x) (cW E) 0 0 := by
  refine hM.start (cc := cX2_inside) (maxL := 2) (ret := (some .int)) (own := RX2) rfl (by decide) rfl (Nat.le_of_ble_eq_true rfl) ?_
  intro pr e s m args below meth c A ls H locs hx hb hml hr hts hown hlocks hname hA hK hX hP hD hS hl
  replace hl : lv_has ls 2 [(0, .ref (eO E)), (1, .int (nI j))] := hl
  refine lv_aload_n hx hb dX2_inside_0 rfl (lv_at hl 0 rfl) ?_
  refine lv_iconst (v := nI 2) hx hb dX2_inside_1 (by decide) ?_
  refine lv_aload_n hx hb dX2_inside_2 rfl (lv_at hl 0 rfl) ?_
  refine lv_iload_n hx hb dX2_inside_3 rfl (lv_at hl 1 rfl) ?_
  refine h_callq (As := [.int (nI j)]) (rest := [.int (nI 2), .ref (eO E)]) ⟨hx, hb, hml, hown, hts⟩ (c_X2_pavilionAt l D E tl x j hj) (cwV 1 hts gX2_inside_X2_pavilionAt rfl rfl rfl (by decide +kernel) ⟨Nat.le_of_ble_eq_true rfl, Nat.le_of_ble_eq_true rfl⟩) (c_recv hK hP) hK hX hP hD hS hA rfl hl.1 rfl (Nat.le_of_ble_eq_true rfl) dX2_inside_4 ⟨Nat.le_of_ble_eq_true rfl, Nat.le_of_ble_eq_true rfl⟩ (fun r_3 u_2 H locs hw hP hD hS => ?_)
  obtain ⟨hr_3, hu_2⟩ := hw
  rw [hu_2] at hP hD
  refine q_topv (v' := .ref (ePad E j)) (by rw [hr_3]; rfl) ?_
  refine h_calli (As := [.int (nI 2), .ref (ePad E j)]) (rest := []) ⟨hx, hb, hml, hown, hts⟩ (c_X2_countAt l D E tl x j (nI 2) hj) (cwV 2 hts gX2_inside_X2_countAt rfl rfl rfl (by decide +kernel) ⟨Nat.le_of_ble_eq_true rfl, Nat.le_of_ble_eq_true rfl⟩) (c_recv hK hP) hK hX hP hD hS hA rfl hl.1 rfl (Nat.le_of_ble_eq_true rfl) dX2_inside_7 ⟨Nat.le_of_ble_eq_true rfl, Nat.le_of_ble_eq_true rfl⟩ (fun r_6 u_5 H locs hw hP hD hS => ?_)
  obtain ⟨hr_6, hu_5⟩ := hw
  rw [hu_5] at hP hD
  refine q_top (x' := (nI (cCnt x (nI 2) j 8))) hr_6 ?_
  exact W.iret hx hb hr (fun t ht hW => ⟨⟨_, x, rfl, ⟨rfl, rfl⟩, by rw [ht]; exact hP, va_K.moved hW.alike hK, hD⟩, hS.F ht⟩) hS.2.2 dX2_inside_10

set_option maxHeartbeats 4000000 in
set_option maxRecDepth 100000 in
theorem c_X2_minute (l : Launch) (D : va_G) (E : cE) (tl : gTy) (x : Nat → Nat → Int32)   : hI l yX2_minute wsX2_minute ({ frames := 0, cells := 0, slots := 0, locals := 0 } : Room) D E tl (cW E x) [.ref (eO E)] (fun (r : Int32) (u : Nat → Nat → Int32) => r = x 0 0 ∧ u = x) (cW E) 0 0 := by
  refine hM.start (cc := cX2_minute) (maxL := 1) (ret := (some .int)) (own := RX2) rfl (by decide) rfl (Nat.le_of_ble_eq_true rfl) ?_
  intro pr e s m args below meth c A ls H locs hx hb hml hr hts hown hlocks hname hA hK hX hP hD hS hl
  replace hl : lv_has ls 1 [(0, .ref (eO E))] := hl
  have hinO : ∀ w ∈ wsX20, w ∈ wsX2_minute := by decide +kernel
  have k21 := hts (.fieldLink RX2 21 "FairFolio" "now" "I") (by decide +kernel)
  refine lv_aload_n hx hb dX2_minute_0 rfl (lv_at hl 0 rfl) ?_
  refine c_getO hx hb hts hinO hown hK hP 2 (by decide) k21 rfl rfl dX2_minute_1 ?_
  exact W.iret hx hb hr (fun t ht hW => ⟨⟨_, x, rfl, ⟨rfl, rfl⟩, by rw [ht]; exact hP, va_K.moved hW.alike hK, hD⟩, hS.F ht⟩) hS.2.2 dX2_minute_4

set_option maxHeartbeats 4000000 in
set_option maxRecDepth 100000 in
theorem c_X2_setPavilion (l : Launch) (D : va_G) (E : cE) (tl : gTy) (x : Nat → Nat → Int32) (j : Nat) (a b : Int32) (hj : j < 6) (hok : sOK a b)  : hV l yX2_setPavilion wsX2_setPavilion ({ frames := 1, cells := 0, slots := 0, locals := 21 } : Room) D E tl (cW E x) [.ref (eO E), .int (nI j), .int a, .int b] (fun u : Nat → Nat → Int32 => u = up2 (up2 x 1 j a) 2 j b) (cW E) 0 0 := by
  refine hM.start (cc := cX2_setPavilion) (maxL := 5) (ret := none) (own := RX2) rfl (by decide) rfl (Nat.le_of_ble_eq_true rfl) ?_
  intro pr e s m args below meth c A ls H locs hx hb hml hr hts hown hlocks hname hA hK hX hP hD hS hl
  replace hl : lv_has ls 5 [(0, .ref (eO E)), (1, .int (nI j)), (2, .int a), (3, .int b)] := hl
  have hinP : ∀ w ∈ wsX00, w ∈ wsX2_setPavilion := by decide +kernel
  have k40 := va_Nw.use (A := args) rfl (hX.1 (.fieldLinkNest RX2 40 "FairFolio$Pavilion" "room" "I" "FairFolio") (by decide +kernel))
  have k43 := va_Nw.use (A := args) rfl (hX.1 (.fieldLinkNest RX2 43 "FairFolio$Pavilion" "time" "I" "FairFolio") (by decide +kernel))
  refine lv_aload_n hx hb dX2_setPavilion_0 rfl (lv_at hl 0 rfl) ?_
  refine lv_iload_n hx hb dX2_setPavilion_1 rfl (lv_at hl 1 rfl) ?_
  refine h_callq (As := [.int (nI j)]) (rest := []) ⟨hx, hb, hml, hown, hts⟩ (c_X2_pavilionAt l D E tl x j hj) (cwV 1 hts gX2_setPavilion_X2_pavilionAt rfl rfl rfl (by decide +kernel) ⟨Nat.le_of_ble_eq_true rfl, Nat.le_of_ble_eq_true rfl⟩) (c_recv hK hP) hK hX hP hD hS hA rfl hl.1 rfl (Nat.le_of_ble_eq_true rfl) dX2_setPavilion_2 ⟨Nat.le_of_ble_eq_true rfl, Nat.le_of_ble_eq_true rfl⟩ (fun r_3 u_2 H locs hw hP hD hS => ?_)
  obtain ⟨hr_3, hu_2⟩ := hw
  rw [hu_2] at hP hD
  refine q_topv (v' := .ref (ePad E j)) (by rw [hr_3]; rfl) ?_
  refine lv_astore (lv' := [(4, .ref (ePad E j)), (0, .ref (eO E)), (1, .int (nI j)), (2, .int a), (3, .int b)]) hx hb dX2_setPavilion_5 hl (by decide) rfl (fun ls hl => ?_)
  refine lv_iload_n hx hb dX2_setPavilion_7 rfl (lv_at hl 3 rfl) ?_
  refine lv_iconst (v := nI 1) hx hb dX2_setPavilion_8 (by decide) ?_
  refine lv_icmp_lt (tgt := 29) hx hb dX2_setPavilion_9 (by decide) (fun c1 => absurd c1 hok.1) (fun c1 => ?_)
  refine lv_iload_n hx hb dX2_setPavilion_12 rfl (lv_at hl 3 rfl) ?_
  refine lv_bipush (v := nI 8) hx hb dX2_setPavilion_13 (by decide) ?_
  refine lv_icmp_gt (tgt := 29) hx hb dX2_setPavilion_15 (by decide) (fun c2 => absurd c2 hok.2.1) (fun c2 => ?_)
  refine lv_iload_n hx hb dX2_setPavilion_18 rfl (lv_at hl 4 rfl) ?_
  refine lv_iconst (v := nI 1) hx hb dX2_setPavilion_19 (by decide) ?_
  refine lv_icmp_lt (tgt := 29) hx hb dX2_setPavilion_20 (by decide) (fun c3 => absurd c3 hok.2.2.1) (fun c3 => ?_)
  refine lv_iload_n hx hb dX2_setPavilion_23 rfl (lv_at hl 4 rfl) ?_
  refine lv_bipush (v := nI 60) hx hb dX2_setPavilion_24 (by decide) ?_
  refine lv_icmp_le (tgt := 39) hx hb dX2_setPavilion_26 (by decide) (fun c4 => ?_) (fun c4 => absurd (Int32.not_le.mp c4) hok.2.2.2)
  refine lv_aload hx hb dX2_setPavilion_39 (lv_at hl 0 rfl) ?_
  refine lv_iload_n hx hb dX2_setPavilion_41 rfl (lv_at hl 3 rfl) ?_
  refine c_putP hx hb hts hinP hown hK hP hD hS (j := j) (by omega) 1 1 (by decide) (cW_setP1 E x _ (by omega)) k40 rfl rfl (ty := .int) (by decide +kernel) rfl rfl dX2_setPavilion_42 (fun H locs hP hD hS => ?_)
  refine lv_aload hx hb dX2_setPavilion_45 (lv_at hl 0 rfl) ?_
  refine lv_iload_n hx hb dX2_setPavilion_47 rfl (lv_at hl 4 rfl) ?_
  refine c_putP hx hb hts hinP hown hK hP hD hS (j := j) (by omega) 2 2 (by decide) (cW_setP2 E (up2 x 1 j a) _ (by omega)) k43 rfl rfl (ty := .int) (by decide +kernel) rfl rfl dX2_setPavilion_48 (fun H locs hP hD hS => ?_)
  exact W.vret hx hb hr (fun t ht hW => ⟨⟨up2 (up2 x 1 j a) 2 j b, rfl, rfl, by rw [ht]; exact hP, va_K.moved hW.alike hK, hD⟩, hS.F ht⟩) hS.2.2 dX2_setPavilion_51

set_option maxHeartbeats 4000000 in
set_option maxRecDepth 100000 in
theorem c_X2_open_o (l : Launch) (D : va_G) (E : cE) (tl : gTy) (x : Nat → Nat → Int32) (j : Nat) (hj : j < 6)  : hI l yX2_open wsX2_open ({ frames := 1, cells := 0, slots := 0, locals := 21 } : Room) D E tl (cW E x) [.ref (eO E), .int (nI j), .int (nI 1)] (fun (r : Int32) (u : Nat → Nat → Int32) => r = nI 0 ∧ u = up2 x 3 j (nI 1)) (cW E) 0 0 := by
  refine hM.start (cc := cX2_open) (maxL := 4) (ret := (some .int)) (own := RX2) rfl (by decide) rfl (Nat.le_of_ble_eq_true rfl) ?_
  intro pr e s m args below meth c A ls H locs hx hb hml hr hts hown hlocks hname hA hK hX hP hD hS hl
  replace hl : lv_has ls 4 [(0, .ref (eO E)), (1, .int (nI j)), (2, .int (nI 1))] := hl
  have hinP : ∀ w ∈ wsX00, w ∈ wsX2_open := by decide +kernel
  have k46 := va_Nw.use (A := args) rfl (hX.1 (.fieldLinkNest RX2 46 "FairFolio$Pavilion" "isOpen" "Z" "FairFolio") (by decide +kernel))
  refine lv_aload_n hx hb dX2_open_0 rfl (lv_at hl 0 rfl) ?_
  refine lv_iload_n hx hb dX2_open_1 rfl (lv_at hl 1 rfl) ?_
  refine h_callq (As := [.int (nI j)]) (rest := []) ⟨hx, hb, hml, hown, hts⟩ (c_X2_pavilionAt l D E tl x j hj) (cwV 1 hts gX2_open_X2_pavilionAt rfl rfl rfl (by decide +kernel) ⟨Nat.le_of_ble_eq_true rfl, Nat.le_of_ble_eq_true rfl⟩) (c_recv hK hP) hK hX hP hD hS hA rfl hl.1 rfl (Nat.le_of_ble_eq_true rfl) dX2_open_2 ⟨Nat.le_of_ble_eq_true rfl, Nat.le_of_ble_eq_true rfl⟩ (fun r_3 u_2 H locs hw hP hD hS => ?_)
  obtain ⟨hr_3, hu_2⟩ := hw
  rw [hu_2] at hP hD
  refine q_topv (v' := .ref (ePad E j)) (by rw [hr_3]; rfl) ?_
  refine lv_astore_n (lv' := [(3, .ref (ePad E j)), (0, .ref (eO E)), (1, .int (nI j)), (2, .int (nI 1))]) hx hb dX2_open_5 rfl hl (by decide) rfl (fun ls hl => ?_)
  refine lv_aload_n hx hb dX2_open_6 rfl (lv_at hl 0 rfl) ?_
  refine lv_iload_n hx hb dX2_open_7 rfl (lv_at hl 3 rfl) ?_
  refine c_putP hx hb hts hinP hown hK hP hD hS (j := j) (by omega) 3 3 (by decide) (cW_setP3 E x _ (by omega)) k46 rfl rfl (ty := .boolean) (by decide +kernel) rfl rfl dX2_open_8 (fun H locs hP hD hS => ?_)
  refine lv_iload_n hx hb dX2_open_11 rfl (lv_at hl 3 rfl) ?_
  refine q_if_eq (tgt := 19) hx hb (by omega) dX2_open_12 (by decide) (fun c_4 => absurd c_4 (by decide)) (fun c_4 => ?_)
  refine lv_iconst (v := nI 0) hx hb dX2_open_15 (by decide) ?_
  refine lv_goto (tgt := 24) hx hb dX2_open_16 (by decide) ?_
  exact W.iret hx hb hr (fun t ht hW => ⟨⟨_, up2 x 3 j (nI 1), rfl, ⟨rfl, rfl⟩, by rw [ht]; exact hP, va_K.moved hW.alike hK, hD⟩, hS.F ht⟩) hS.2.2 dX2_open_24

set_option maxHeartbeats 4000000 in
set_option maxRecDepth 100000 in
theorem c_X2_open_c (l : Launch) (D : va_G) (E : cE) (tl : gTy) (x : Nat → Nat → Int32) (j : Nat) (hj : j < 6)  : hI l yX2_open wsX2_open ({ frames := 3, cells := 0, slots := 0, locals := 72 } : Room) D E tl (cW E x) [.ref (eO E), .int (nI j), .int (nI 0)] (fun (r : Int32) (u : Nat → Nat → Int32) => r = nI (cEmpN (up2 x 3 j (nI 0)) j 8) ∧ u = cEmp (up2 x 3 j (nI 0)) j 8) (cW E) 0 0 := by
  refine hM.start (cc := cX2_open) (maxL := 4) (ret := (some .int)) (own := RX2) rfl (by decide) rfl (Nat.le_of_ble_eq_true rfl) ?_
  intro pr e s m args below meth c A ls H locs hx hb hml hr hts hown hlocks hname hA hK hX hP hD hS hl
  replace hl : lv_has ls 4 [(0, .ref (eO E)), (1, .int (nI j)), (2, .int (nI 0))] := hl
  have hinP : ∀ w ∈ wsX00, w ∈ wsX2_open := by decide +kernel
  have k46 := va_Nw.use (A := args) rfl (hX.1 (.fieldLinkNest RX2 46 "FairFolio$Pavilion" "isOpen" "Z" "FairFolio") (by decide +kernel))
  refine lv_aload_n hx hb dX2_open_0 rfl (lv_at hl 0 rfl) ?_
  refine lv_iload_n hx hb dX2_open_1 rfl (lv_at hl 1 rfl) ?_
  refine h_callq (As := [.int (nI j)]) (rest := []) ⟨hx, hb, hml, hown, hts⟩ (c_X2_pavilionAt l D E tl x j hj) (cwV 1 hts gX2_open_X2_pavilionAt rfl rfl rfl (by decide +kernel) ⟨Nat.le_of_ble_eq_true rfl, Nat.le_of_ble_eq_true rfl⟩) (c_recv hK hP) hK hX hP hD hS hA rfl hl.1 rfl (Nat.le_of_ble_eq_true rfl) dX2_open_2 ⟨Nat.le_of_ble_eq_true rfl, Nat.le_of_ble_eq_true rfl⟩ (fun r_3 u_2 H locs hw hP hD hS => ?_)
  obtain ⟨hr_3, hu_2⟩ := hw
  rw [hu_2] at hP hD
  refine q_topv (v' := .ref (ePad E j)) (by rw [hr_3]; rfl) ?_
  refine lv_astore_n (lv' := [(3, .ref (ePad E j)), (0, .ref (eO E)), (1, .int (nI j)), (2, .int (nI 0))]) hx hb dX2_open_5 rfl hl (by decide) rfl (fun ls hl => ?_)
  refine lv_aload_n hx hb dX2_open_6 rfl (lv_at hl 0 rfl) ?_
  refine lv_iload_n hx hb dX2_open_7 rfl (lv_at hl 3 rfl) ?_
  refine c_putP hx hb hts hinP hown hK hP hD hS (j := j) (by omega) 3 3 (by decide) (cW_setP3 E x _ (by omega)) k46 rfl rfl (ty := .boolean) (by decide +kernel) rfl rfl dX2_open_8 (fun H locs hP hD hS => ?_)
  refine lv_iload_n hx hb dX2_open_11 rfl (lv_at hl 3 rfl) ?_
  refine q_if_eq (tgt := 19) hx hb (by omega) dX2_open_12 (by decide) (fun c_4 => ?_) (fun c_4 => absurd c_4 (by decide))
  refine lv_aload_n hx hb dX2_open_19 rfl (lv_at hl 1 rfl) ?_
  refine lv_aload_n hx hb dX2_open_20 rfl (lv_at hl 0 rfl) ?_
  refine h_calli (As := [.ref (ePad E j)]) (rest := []) ⟨hx, hb, hml, hown, hts⟩ (c_X2_emptyQueue l D E tl (up2 x 3 j (nI 0)) j hj) (cwV 1 hts gX2_open_X2_emptyQueue rfl rfl rfl (by decide +kernel) ⟨Nat.le_of_ble_eq_true rfl, Nat.le_of_ble_eq_true rfl⟩) (c_recv hK hP) hK hX hP hD hS hA rfl hl.1 rfl (Nat.le_of_ble_eq_true rfl) dX2_open_21 ⟨Nat.le_of_ble_eq_true rfl, Nat.le_of_ble_eq_true rfl⟩ (fun r_7 u_6 H locs hw hP hD hS => ?_)
  obtain ⟨hr_7, hu_6⟩ := hw
  rw [hu_6] at hP hD
  refine q_top (x' := (nI (cEmpN (up2 x 3 j (nI 0)) j 8))) hr_7 ?_
  exact W.iret hx hb hr (fun t ht hW => ⟨⟨_, cEmp (up2 x 3 j (nI 0)) j 8, rfl, ⟨rfl, rfl⟩, by rw [ht]; exact hP, va_K.moved hW.alike hK, hD⟩, hS.F ht⟩) hS.2.2 dX2_open_24

theorem cFreeR_end {x : Nat → Nat → Int32} {j : Nat} : ∀ (n : Nat) (f r : Int32), cFreeR x j n f r → True := fun _ _ _ _ => trivial

set_option maxHeartbeats 4000000 in
set_option maxRecDepth 100000 in
theorem c_X2_firstFreeTurn (l : Launch) (D : va_G) (E : cE) (tl : gTy) (x : Nat → Nat → Int32) (j : Nat) (hj : j < 6) (hok : cTOk x)  : hI l yX2_firstFreeTurn wsX2_firstFreeTurn ({ frames := 1, cells := 0, slots := 0, locals := 26 } : Room) D E tl (cW E x) [.ref (eO E), .ref (ePad E j)] (fun (r : Int32) (u : Nat → Nat → Int32) => cFreeR x j 8 ((x 0 0 / nI 5 + nI 1) * nI 5) r ∧ u = x) (cW E) 0 0 := by
  refine hM.start (cc := cX2_firstFreeTurn) (maxL := 4) (ret := (some .int)) (own := RX2) rfl (by decide) rfl (Nat.le_of_ble_eq_true rfl) ?_
  intro pr e s m args below meth c A ls H locs hx hb hml hr hts hown hlocks hname hA hK hX hP hD hS hl
  replace hl : lv_has ls 4 [(0, .ref (eO E)), (1, .ref (ePad E j))] := hl
  have hinO : ∀ w ∈ wsX20, w ∈ wsX2_firstFreeTurn := by decide +kernel
  have k21 := hts (.fieldLink RX2 21 "FairFolio" "now" "I") (by decide +kernel)
  refine lv_aload_n hx hb dX2_firstFreeTurn_0 rfl (lv_at hl 0 rfl) ?_
  refine c_getO hx hb hts hinO hown hK hP 2 (by decide) k21 rfl rfl dX2_firstFreeTurn_1 ?_
  refine lv_iconst (v := nI 5) hx hb dX2_firstFreeTurn_4 (by decide) ?_
  refine lv_idiv hx hb dX2_firstFreeTurn_5 (by decide) ?_
  refine lv_iconst (v := nI 1) hx hb dX2_firstFreeTurn_6 (by decide) ?_
  refine lv_iadd hx hb dX2_firstFreeTurn_7 ?_
  refine lv_iconst (v := nI 5) hx hb dX2_firstFreeTurn_8 (by decide) ?_
  refine lv_imul hx hb dX2_firstFreeTurn_9 ?_
  refine lv_istore_n (lv' := [(2, .int ((((x 0 0) / (nI 5)) + (nI 1)) * (nI 5))), (0, .ref (eO E)), (1, .ref (ePad E j))]) hx hb dX2_firstFreeTurn_10 rfl hl (by decide) rfl (fun ls hl => ?_)
  refine lv_iconst (v := nI 0) hx hb dX2_firstFreeTurn_11 (by decide) ?_
  refine lv_istore_n (lv' := [(3, .int (nI 0)), (2, .int ((((x 0 0) / (nI 5)) + (nI 1)) * (nI 5))), (0, .ref (eO E)), (1, .ref (ePad E j))]) hx hb dX2_firstFreeTurn_12 rfl hl (by decide) rfl (fun ls hl => ?_)
  obtain ⟨k, hk⟩ : ∃ k : Nat, k = 0 := ⟨_, rfl⟩
  obtain ⟨nn, hn⟩ : ∃ nn : Nat, nn = 8 := ⟨_, rfl⟩
  obtain ⟨f, hf⟩ : ∃ f : Int32, f = ((x 0 0 / nI 5 + nI 1) * nI 5) := ⟨_, rfl⟩
  have hfr : ∀ r, cFreeR x j nn f r → cFreeR x j 8 ((x 0 0 / nI 5 + nI 1) * nI 5) r := fun r h => by rw [hn, hf] at h; exact h
  replace hl : lv_has ls 4 [(3, .int (nI k)), (2, .int f), (0, .ref (eO E)), (1, .ref (ePad E j))] := by rw [hk, hf]; exact hl
  replace hn : k + nn = 8 := by omega
  clear hk hf
  induction nn generalizing k f H locs ls with
  | zero =>
    obtain rfl : k = 8 := by omega
    refine lv_iload_n hx hb dX2_firstFreeTurn_13 rfl (lv_at hl 0 rfl) ?_
    refine lv_bipush (v := nI 8) hx hb dX2_firstFreeTurn_14 (by decide) ?_
    refine q_icmp_ge (tgt := 37) hx hb (by omega) (by omega) dX2_firstFreeTurn_16 (by decide) (fun c1 => ?_) (fun c1 => absurd c1 (by omega))
    refine lv_iload_n hx hb dX2_firstFreeTurn_37 rfl (lv_at hl 1 rfl) ?_
    exact W.iret hx hb hr (fun t ht hW => ⟨⟨_, x, rfl, ⟨hfr _ rfl, rfl⟩, by rw [ht]; exact hP, va_K.moved hW.alike hK, hD⟩, hS.F ht⟩) hS.2.2 dX2_firstFreeTurn_38
  | succ nn ih =>
    refine lv_iload_n hx hb dX2_firstFreeTurn_13 rfl (lv_at hl 0 rfl) ?_
    refine lv_bipush (v := nI 8) hx hb dX2_firstFreeTurn_14 (by decide) ?_
    refine q_icmp_ge (tgt := 37) hx hb (by omega) (by omega) dX2_firstFreeTurn_16 (by decide) (fun c1 => absurd c1 (by omega)) (fun c1 => ?_)
    refine lv_aload_n hx hb dX2_firstFreeTurn_19 rfl (lv_at hl 2 rfl) ?_
    refine lv_aload_n hx hb dX2_firstFreeTurn_20 rfl (lv_at hl 3 rfl) ?_
    refine lv_iload_n hx hb dX2_firstFreeTurn_21 rfl (lv_at hl 1 rfl) ?_
    refine h_calli (As := [.ref (ePad E j), .int f]) (rest := []) ⟨hx, hb, hml, hown, hts⟩ (c_X2_isTurnTaken l D E tl x j f hj hok) (cwV 2 hts gX2_firstFreeTurn_X2_isTurnTaken rfl rfl rfl (by decide +kernel) ⟨Nat.le_of_ble_eq_true rfl, Nat.le_of_ble_eq_true rfl⟩) (c_recv hK hP) hK hX hP hD hS hA rfl hl.1 rfl (Nat.le_of_ble_eq_true rfl) dX2_firstFreeTurn_22 ⟨Nat.le_of_ble_eq_true rfl, Nat.le_of_ble_eq_true rfl⟩ (fun r_3 u_2 H locs hw hP hD hS => ?_)
    obtain ⟨hr_3, hu_2⟩ := hw
    rw [hu_2] at hP hD
    rcases hr_3 with ⟨hr1, htk⟩ | ⟨hr1, htk⟩
    · refine q_top (x' := (nI 1)) hr1 ?_
      refine q_if_eq (tgt := 37) hx hb (by omega) dX2_firstFreeTurn_25 (by decide) (fun c_4 => absurd c_4 (by decide)) (fun c_4 => ?_)
      refine lv_iinc (k := 1) (v := (f + nI 5)) (lv' := [(2, .int (f + nI 5)), (3, .int (nI k)), (0, .ref (eO E)), (1, .ref (ePad E j))]) hx hb dX2_firstFreeTurn_28 hl rfl rfl (by decide) rfl (fun ls hl => ?_)
      refine q_inc (k := 1) (lv' := [(3, .int (nI (k + 1))), (2, .int (f + nI 5)), (0, .ref (eO E)), (1, .ref (ePad E j))]) hx hb dX2_firstFreeTurn_31 hl rfl (by decide) rfl (fun ls hl => ?_)
      refine lv_goto (tgt := 13) hx hb dX2_firstFreeTurn_34 (by decide) ?_
      exact ih (k := k + 1) (f := f + nI 5) (H := H) (locs := locs) (ls := ls) (hP := hP) (hS := hS) (hl := hl) (hn := by omega) (hfr := fun r h => hfr r (Or.inl ⟨htk, h⟩))
    · refine q_top (x' := (nI 0)) hr1 ?_
      refine q_if_eq (tgt := 37) hx hb (by omega) dX2_firstFreeTurn_25 (by decide) (fun c_5 => ?_) (fun c_5 => absurd c_5 (by decide))
      refine lv_iload_n hx hb dX2_firstFreeTurn_37 rfl (lv_at hl 1 rfl) ?_
      exact W.iret hx hb hr (fun t ht hW => ⟨⟨_, x, rfl, ⟨hfr _ (Or.inr ⟨htk, rfl⟩), rfl⟩, by rw [ht]; exact hP, va_K.moved hW.alike hK, hD⟩, hS.F ht⟩) hS.2.2 dX2_firstFreeTurn_38

set_option maxHeartbeats 4000000 in
set_option maxRecDepth 100000 in
theorem c_X2_ask (l : Launch) (D : va_G) (E : cE) (tl : gTy) (x : Nat → Nat → Int32) (i j : Nat) (hi : i < 8) (hj : j < 6) (hok : cTOk x) (h11 : x 11 i = -1) (h3 : ¬ x 3 j = nI 0)  : hI l yX2_ask wsX2_ask ({ frames := 2, cells := 0, slots := 0, locals := 49 } : Room) D E tl (cW E x) [.ref (eO E), .int (nI i), .int (nI j)] (fun (r : Int32) (u : Nat → Nat → Int32) => cFreeR x j 8 ((x 0 0 / nI 5 + nI 1) * nI 5) r ∧ u = up2 (up2 x 11 i r) 12 i (nI j)) (cW E) 0 0 := by
  refine hM.start (cc := cX2_ask) (maxL := 5) (ret := (some .int)) (own := RX2) rfl (by decide) rfl (Nat.le_of_ble_eq_true rfl) ?_
  intro pr e s m args below meth c A ls H locs hx hb hml hr hts hown hlocks hname hA hK hX hP hD hS hl
  replace hl : lv_has ls 5 [(0, .ref (eO E)), (1, .int (nI i)), (2, .int (nI j))] := hl
  have hinP : ∀ w ∈ wsX00, w ∈ wsX2_ask := by decide +kernel
  have hinV : ∀ w ∈ wsX10, w ∈ wsX2_ask := by decide +kernel
  have k98 := va_Nw.use (A := args) rfl (hX.1 (.fieldLinkNest RX2 98 "FairFolio$Visitor" "turnMinute" "I" "FairFolio") (by decide +kernel))
  have k46 := va_Nw.use (A := args) rfl (hX.1 (.fieldLinkNest RX2 46 "FairFolio$Pavilion" "isOpen" "Z" "FairFolio") (by decide +kernel))
  have k106 := va_Nw.use (A := args) rfl (hX.1 (.fieldLinkNest RX2 106 "FairFolio$Visitor" "turnPavilion" "LFairFolio$Pavilion;" "FairFolio") (by decide +kernel))
  refine lv_aload_n hx hb dX2_ask_0 rfl (lv_at hl 0 rfl) ?_
  refine lv_iload_n hx hb dX2_ask_1 rfl (lv_at hl 1 rfl) ?_
  refine h_callq (As := [.int (nI i)]) (rest := []) ⟨hx, hb, hml, hown, hts⟩ (c_X2_visitorAt l D E tl x i hi) (cwV 1 hts gX2_ask_X2_visitorAt rfl rfl rfl (by decide +kernel) ⟨Nat.le_of_ble_eq_true rfl, Nat.le_of_ble_eq_true rfl⟩) (c_recv hK hP) hK hX hP hD hS hA rfl hl.1 rfl (Nat.le_of_ble_eq_true rfl) dX2_ask_2 ⟨Nat.le_of_ble_eq_true rfl, Nat.le_of_ble_eq_true rfl⟩ (fun r_3 u_2 H locs hw hP hD hS => ?_)
  obtain ⟨hr_3, hu_2⟩ := hw
  rw [hu_2] at hP hD
  refine q_topv (v' := .ref (eVad E i)) (by rw [hr_3]; rfl) ?_
  refine lv_astore_n (lv' := [(3, .ref (eVad E i)), (0, .ref (eO E)), (1, .int (nI i)), (2, .int (nI j))]) hx hb dX2_ask_5 rfl hl (by decide) rfl (fun ls hl => ?_)
  refine lv_aload_n hx hb dX2_ask_6 rfl (lv_at hl 1 rfl) ?_
  refine lv_iload_n hx hb dX2_ask_7 rfl (lv_at hl 3 rfl) ?_
  refine h_callq (As := [.int (nI j)]) (rest := []) ⟨hx, hb, hml, hown, hts⟩ (c_X2_pavilionAt l D E tl x j hj) (cwV 1 hts gX2_ask_X2_pavilionAt rfl rfl rfl (by decide +kernel) ⟨Nat.le_of_ble_eq_true rfl, Nat.le_of_ble_eq_true rfl⟩) (c_recv hK hP) hK hX hP hD hS hA rfl hl.1 rfl (Nat.le_of_ble_eq_true rfl) dX2_ask_8 ⟨Nat.le_of_ble_eq_true rfl, Nat.le_of_ble_eq_true rfl⟩ (fun r_6 u_5 H locs hw hP hD hS => ?_)
  obtain ⟨hr_6, hu_5⟩ := hw
  rw [hu_5] at hP hD
  refine q_topv (v' := .ref (ePad E j)) (by rw [hr_6]; rfl) ?_
  refine lv_astore (lv' := [(4, .ref (ePad E j)), (3, .ref (eVad E i)), (0, .ref (eO E)), (1, .int (nI i)), (2, .int (nI j))]) hx hb dX2_ask_11 hl (by decide) rfl (fun ls hl => ?_)
  refine lv_aload_n hx hb dX2_ask_13 rfl (lv_at hl 1 rfl) ?_
  refine c_getV hx hb hts hinV hown hK hP (by omega) 7 (by decide) k98 rfl rfl dX2_ask_14 ?_
  refine lv_iconst (v := -1) hx hb dX2_ask_17 (by decide) ?_
  refine lv_icmp_ne (tgt := 29) hx hb dX2_ask_18 (by decide) (fun c1 => absurd h11 c1) (fun c1 => ?_)
  refine lv_aload hx hb dX2_ask_21 (lv_at hl 0 rfl) ?_
  refine c_getP hx hb hts hinP hown hK hP (by omega) 3 (by decide) k46 rfl rfl dX2_ask_23 ?_
  refine lv_if_ne (tgt := 39) hx hb dX2_ask_26 (by decide) (fun c2 => ?_) (fun c2 => absurd c2 h3)
  replace c2 : ¬ (x 3 j) = nI 0 := c2
  refine lv_aload_n hx hb dX2_ask_39 rfl (lv_at hl 1 rfl) ?_
  refine lv_aload_n hx hb dX2_ask_40 rfl (lv_at hl 2 rfl) ?_
  refine lv_aload hx hb dX2_ask_41 (lv_at hl 0 rfl) ?_
  refine h_calli (As := [.ref (ePad E j)]) (rest := [.ref (eVad E i)]) ⟨hx, hb, hml, hown, hts⟩ (c_X2_firstFreeTurn l D E tl x j hj hok) (cwV 1 hts gX2_ask_X2_firstFreeTurn rfl rfl rfl (by decide +kernel) ⟨Nat.le_of_ble_eq_true rfl, Nat.le_of_ble_eq_true rfl⟩) (c_recv hK hP) hK hX hP hD hS hA rfl hl.1 rfl (Nat.le_of_ble_eq_true rfl) dX2_ask_43 ⟨Nat.le_of_ble_eq_true rfl, Nat.le_of_ble_eq_true rfl⟩ (fun r_9 u_8 H locs hw hP hD hS => ?_)
  obtain ⟨hr_9, hu_8⟩ := hw
  rw [hu_8] at hP hD
  refine c_putV hx hb hts hinV hown hK hP hD hS (i := i) (by omega) 7 11 (by decide) (cW_setV11 E x _ (by omega)) k98 rfl rfl (ty := .int) (by decide +kernel) rfl rfl dX2_ask_46 (fun H locs hP hD hS => ?_)
  refine lv_aload_n hx hb dX2_ask_49 rfl (lv_at hl 1 rfl) ?_
  refine lv_aload hx hb dX2_ask_50 (lv_at hl 0 rfl) ?_
  refine c_putVT hx hb hts hinV hown hK hP hD hS (i := i) (by omega) (nI j) (by rw [tpO_s E hj]; rfl) k106 dX2_ask_52 (fun H locs hP hD hS => ?_)
  refine lv_aload_n hx hb dX2_ask_55 rfl (lv_at hl 1 rfl) ?_
  refine c_getV hx hb hts hinV hown hK hP (by omega) 7 (by decide) k98 rfl rfl dX2_ask_56 ?_
  refine q_top (x' := r_9) (by rw [up2_k _ _ _ _ (by decide), up2_s]) ?_
  exact W.iret hx hb hr (fun t ht hW => ⟨⟨_, up2 (up2 x 11 i r_9) 12 i (nI j), rfl, ⟨hr_9, rfl⟩, by rw [ht]; exact hP, va_K.moved hW.alike hK, hD⟩, hS.F ht⟩) hS.2.2 dX2_ask_59

set_option maxHeartbeats 4000000 in
set_option maxRecDepth 100000 in
theorem c_X2_advance (l : Launch) (D : va_G) (E : cE) (tl : gTy) (x : Nat → Nat → Int32) (mn : Nat) (x1 : Nat → Nat → Int32) (h1 : 1 ≤ mn) (h60 : mn ≤ 60) (hb1 : ¬ nI 1200 < x 0 0 + nI mn) (hm : cMins E mn x x1)  : hI l yX2_advance wsX2_advance ({ frames := 6, cells := 0, slots := 0, locals := 135 } : Room) D E tl (cW E x) [.ref (eO E), .int (nI mn)] (fun (r : Int32) (u : Nat → Nat → Int32) => r = x1 0 0 ∧ u = x1) (cW E) 0 0 := by
  refine hM.start (cc := cX2_advance) (maxL := 3) (ret := (some .int)) (own := RX2) rfl (by decide) rfl (Nat.le_of_ble_eq_true rfl) ?_
  intro pr e s m args below meth c A ls H locs hx hb hml hr hts hown hlocks hname hA hK hX hP hD hS hl
  replace hl : lv_has ls 3 [(0, .ref (eO E)), (1, .int (nI mn))] := hl
  have hinO : ∀ w ∈ wsX20, w ∈ wsX2_advance := by decide +kernel
  have k21 := hts (.fieldLink RX2 21 "FairFolio" "now" "I") (by decide +kernel)
  refine lv_iload_n hx hb dX2_advance_0 rfl (lv_at hl 1 rfl) ?_
  refine lv_iconst (v := nI 1) hx hb dX2_advance_1 (by decide) ?_
  refine q_icmp_lt (tgt := 11) hx hb (by omega) (by omega) dX2_advance_2 (by decide) (fun c1 => absurd c1 (by omega)) (fun c1 => ?_)
  refine lv_iload_n hx hb dX2_advance_5 rfl (lv_at hl 1 rfl) ?_
  refine lv_bipush (v := nI 60) hx hb dX2_advance_6 (by decide) ?_
  refine q_icmp_le (tgt := 21) hx hb (by omega) (by omega) dX2_advance_8 (by decide) (fun c2 => ?_) (fun c2 => absurd c2 (by omega))
  refine lv_aload_n hx hb dX2_advance_21 rfl (lv_at hl 0 rfl) ?_
  refine c_getO hx hb hts hinO hown hK hP 2 (by decide) k21 rfl rfl dX2_advance_22 ?_
  refine lv_iload_n hx hb dX2_advance_25 rfl (lv_at hl 1 rfl) ?_
  refine lv_iadd hx hb dX2_advance_26 ?_
  refine lv_sipush (v := nI 1200) hx hb dX2_advance_27 (by decide) ?_
  refine lv_icmp_le (tgt := 43) hx hb dX2_advance_30 (by decide) (fun c3 => ?_) (fun c3 => absurd (Int32.not_le.mp c3) hb1)
  refine lv_iconst (v := nI 0) hx hb dX2_advance_43 (by decide) ?_
  refine lv_istore_n (lv' := [(2, .int (nI 0)), (0, .ref (eO E)), (1, .int (nI mn))]) hx hb dX2_advance_44 rfl hl (by decide) rfl (fun ls hl => ?_)
  obtain ⟨z, hz⟩ : ∃ z, z = x := ⟨_, rfl⟩
  rw [← hz] at hP hD hm
  clear hz
  obtain ⟨k, hk⟩ : ∃ k : Nat, k = 0 := ⟨_, rfl⟩
  obtain ⟨nn, hn⟩ : ∃ nn : Nat, nn = mn := ⟨_, rfl⟩
  replace hl : lv_has ls 3 [(2, .int (nI k)), (0, .ref (eO E)), (1, .int (nI mn))] := by rw [hk]; exact hl
  replace hm : cMins E nn z x1 := by rw [hn]; exact hm
  replace hn : k + nn = mn := by omega
  clear hk
  induction nn generalizing z k H locs ls with
  | zero =>
    obtain rfl := hm
    refine lv_iload_n hx hb dX2_advance_45 rfl (lv_at hl 0 rfl) ?_
    refine lv_iload_n hx hb dX2_advance_46 rfl (lv_at hl 2 rfl) ?_
    refine q_icmp_ge (tgt := 60) hx hb (by omega) (by omega) dX2_advance_47 (by decide) (fun c8 => ?_) (fun c8 => absurd c8 (by omega))
    refine lv_aload_n hx hb dX2_advance_60 rfl (lv_at hl 1 rfl) ?_
    refine c_getO hx hb hts hinO hown hK hP 2 (by decide) k21 rfl rfl dX2_advance_61 ?_
    exact W.iret hx hb hr (fun t ht hW => ⟨⟨_, x1, rfl, ⟨rfl, rfl⟩, by rw [ht]; exact hP, va_K.moved hW.alike hK, hD⟩, hS.F ht⟩) hS.2.2 dX2_advance_64
  | succ nn ih =>
    obtain ⟨z1, hm1, hm⟩ := hm
    refine lv_iload_n hx hb dX2_advance_45 rfl (lv_at hl 0 rfl) ?_
    refine lv_iload_n hx hb dX2_advance_46 rfl (lv_at hl 2 rfl) ?_
    refine q_icmp_ge (tgt := 60) hx hb (by omega) (by omega) dX2_advance_47 (by decide) (fun c8 => absurd c8 (by omega)) (fun c8 => ?_)
    refine lv_aload_n hx hb dX2_advance_50 rfl (lv_at hl 1 rfl) ?_
    refine h_callv (As := []) (rest := []) ⟨hx, hb, hml, hown, hts⟩ (c_X2_passMinute l D E tl z z1 hm1) (cwV 0 hts gX2_advance_X2_passMinute rfl rfl rfl (by decide +kernel) ⟨Nat.le_of_ble_eq_true rfl, Nat.le_of_ble_eq_true rfl⟩) (c_recv hK hP) hK hX hP hD hS hA rfl hl.1 rfl (Nat.le_of_ble_eq_true rfl) dX2_advance_51 ⟨Nat.le_of_ble_eq_true rfl, Nat.le_of_ble_eq_true rfl⟩ (fun u_2 H locs hw hP hD hS => ?_)
    rw [hw] at hP hD
    refine q_inc (k := 0) (lv' := [(2, .int (nI (k + 1))), (0, .ref (eO E)), (1, .int (nI mn))]) hx hb dX2_advance_54 hl rfl (by decide) rfl (fun ls hl => ?_)
    refine lv_goto (tgt := 45) hx hb dX2_advance_57 (by decide) ?_
    exact ih (z := z1) (k := k + 1) (H := H) (locs := locs) (ls := ls) (hP := hP) (hD := hD) (hS := hS) (hl := hl) (hm := hm) (hn := by omega)

def cRepX (x : Nat → Nat → Int32) (t : Int32) : Nat → Nat → Nat → Int32
  | 0 => x
  | k + 1 => if cRepX x t k 5 k < t then cRepX x t k else up2 (up2 (cRepX x t k) 4 k (cRepX x t k 4 k + cRepX x t k 5 k)) 5 k (nI 0)
def cRepV (x : Nat → Nat → Int32) (t : Int32) : Nat → Int32
  | 0 => nI 0
  | k + 1 => if cRepX x t k 5 k < t then cRepV x t k else cRepV x t k + cRepX x t k 5 k

set_option maxHeartbeats 4000000 in
set_option maxRecDepth 100000 in
theorem c_X2_reprint (l : Launch) (D : va_G) (E : cE) (tl : gTy) (x : Nat → Nat → Int32) (tr : Int32) (h1 : ¬ tr < nI 1) (h2 : ¬ nI 1000 < tr)  : hI l yX2_reprint wsX2_reprint ({ frames := 0, cells := 0, slots := 0, locals := 0 } : Room) D E tl (cW E x) [.ref (eO E), .int tr] (fun (r : Int32) (u : Nat → Nat → Int32) => r = cRepV x tr 6 ∧ u = cRepX x tr 6) (cW E) 0 0 := by
  refine hM.start (cc := cX2_reprint) (maxL := 7) (ret := (some .int)) (own := RX2) rfl (by decide) rfl (Nat.le_of_ble_eq_true rfl) ?_
  intro pr e s m args below meth c A ls H locs hx hb hml hr hts hown hlocks hname hA hK hX hP hD hS hl
  replace hl : lv_has ls 7 [(0, .ref (eO E)), (1, .int tr)] := hl
  have hinO : ∀ w ∈ wsX20, w ∈ wsX2_reprint := by decide +kernel
  have hinP : ∀ w ∈ wsX00, w ∈ wsX2_reprint := by decide +kernel
  have k11 := hts (.fieldLink RX2 11 "FairFolio" "pavilions" "[LFairFolio$Pavilion;") (by decide +kernel)
  have k126 := va_Nw.use (A := args) rfl (hX.1 (.fieldLinkNest RX2 126 "FairFolio$Pavilion" "demand" "I" "FairFolio") (by decide +kernel))
  have k123 := va_Nw.use (A := args) rfl (hX.1 (.fieldLinkNest RX2 123 "FairFolio$Pavilion" "stock" "I" "FairFolio") (by decide +kernel))
  refine lv_iload_n hx hb dX2_reprint_0 rfl (lv_at hl 1 rfl) ?_
  refine lv_iconst (v := nI 1) hx hb dX2_reprint_1 (by decide) ?_
  refine lv_icmp_lt (tgt := 12) hx hb dX2_reprint_2 (by decide) (fun c1 => absurd c1 h1) (fun c1 => ?_)
  refine lv_iload_n hx hb dX2_reprint_5 rfl (lv_at hl 1 rfl) ?_
  refine lv_sipush (v := nI 1000) hx hb dX2_reprint_6 (by decide) ?_
  refine lv_icmp_le (tgt := 22) hx hb dX2_reprint_9 (by decide) (fun c2 => ?_) (fun c2 => absurd (Int32.not_le.mp c2) h2)
  refine lv_iconst (v := nI 0) hx hb dX2_reprint_22 (by decide) ?_
  refine lv_istore_n (lv' := [(2, .int (nI 0)), (0, .ref (eO E)), (1, .int tr)]) hx hb dX2_reprint_23 rfl hl (by decide) rfl (fun ls hl => ?_)
  refine lv_aload_n hx hb dX2_reprint_24 rfl (lv_at hl 1 rfl) ?_
  refine c_getO hx hb hts hinO hown hK hP 0 (by decide) k11 rfl rfl dX2_reprint_25 ?_
  refine lv_astore_n (lv' := [(3, .ref (ePa E)), (2, .int (nI 0)), (0, .ref (eO E)), (1, .int tr)]) hx hb dX2_reprint_28 rfl hl (by decide) rfl (fun ls hl => ?_)
  refine lv_aload_n hx hb dX2_reprint_29 rfl (lv_at hl 0 rfl) ?_
  refine c_plen hx hb hK hP dX2_reprint_30 ?_
  refine lv_istore (lv' := [(4, .int (nI 6)), (3, .ref (ePa E)), (2, .int (nI 0)), (0, .ref (eO E)), (1, .int tr)]) hx hb dX2_reprint_31 hl (by decide) rfl (fun ls hl => ?_)
  refine lv_iconst (v := nI 0) hx hb dX2_reprint_33 (by decide) ?_
  refine lv_istore (lv' := [(5, .int (nI 0)), (4, .int (nI 6)), (3, .ref (ePa E)), (2, .int (nI 0)), (0, .ref (eO E)), (1, .int tr)]) hx hb dX2_reprint_34 hl (by decide) rfl (fun ls hl => ?_)
  obtain ⟨k, hk⟩ : ∃ k : Nat, k = 0 := ⟨_, rfl⟩
  obtain ⟨nn, hn⟩ : ∃ nn : Nat, nn = 6 := ⟨_, rfl⟩
  replace hl : lv_has ls 7 [(5, .int (nI k)), (4, .int (nI 6)), (3, .ref (ePa E)), (2, .int (cRepV x tr k)), (0, .ref (eO E)), (1, .int tr)] := by rw [hk]; exact hl
  replace hP : va_P D vwCl (cW E (cRepX x tr k)) H := by rw [hk]; exact hP
  replace hD : va_D A (cW E (cRepX x tr k)) := by rw [hk]; exact hD
  replace hn : k + nn = 6 := by omega
  clear hk
  induction nn generalizing k H locs ls with
  | zero =>
    obtain rfl : k = 6 := by omega
    refine lv_iload hx hb dX2_reprint_36 (lv_at hl 0 rfl) ?_
    refine lv_iload hx hb dX2_reprint_38 (lv_at hl 1 rfl) ?_
    refine q_icmp_ge (tgt := 93) hx hb (by omega) (by omega) dX2_reprint_40 (by decide) (fun c8 => ?_) (fun c8 => absurd c8 (by omega))
    refine lv_iload_n hx hb dX2_reprint_93 rfl (lv_at hl 3 rfl) ?_
    exact W.iret hx hb hr (fun t ht hW => ⟨⟨_, cRepX x tr 6, rfl, ⟨rfl, rfl⟩, by rw [ht]; exact hP, va_K.moved hW.alike hK, hD⟩, hS.F ht⟩) hS.2.2 dX2_reprint_94
  | succ nn ih =>
    refine lv_iload hx hb dX2_reprint_36 (lv_at hl 0 rfl) ?_
    refine lv_iload hx hb dX2_reprint_38 (lv_at hl 1 rfl) ?_
    refine q_icmp_ge (tgt := 93) hx hb (by omega) (by omega) dX2_reprint_40 (by decide) (fun c8 => absurd c8 (by omega)) (fun c8 => ?_)
    refine lv_aload_n hx hb dX2_reprint_43 rfl (lv_at hl 2 rfl) ?_
    refine lv_iload hx hb dX2_reprint_44 (lv_at hl 0 rfl) ?_
    refine c_pald hx hb hK hP (by omega) dX2_reprint_46 ?_
    refine lv_astore (lv' := [(6, .ref (ePad E k)), (5, .int (nI k)), (4, .int (nI 6)), (3, .ref (ePa E)), (2, .int (cRepV x tr k)), (0, .ref (eO E)), (1, .int tr)]) hx hb dX2_reprint_47 hl (by decide) rfl (fun ls hl => ?_)
    refine lv_aload hx hb dX2_reprint_49 (lv_at hl 0 rfl) ?_
    refine c_getP hx hb hts hinP hown hK hP (by omega) 5 (by decide) k126 rfl rfl dX2_reprint_51 ?_
    refine lv_iload_n hx hb dX2_reprint_54 rfl (lv_at hl 6 rfl) ?_
    refine lv_icmp_lt (tgt := 87) hx hb dX2_reprint_55 (by decide) (fun c9 => ?_) (fun c9 => ?_)
    · have ey : cRepX x tr k = cRepX x tr (k + 1) := (by rw [cRepX, if_pos c9])
      rw [ey] at hP hD
      clear ey
      replace hl : lv_has ls 7 [(6, .ref (ePad E k)), (5, .int (nI k)), (4, .int (nI 6)), (3, .ref (ePa E)), (2, .int (cRepV x tr (k + 1))), (0, .ref (eO E)), (1, .int tr)] := by rw [show cRepV x tr (k + 1) = cRepV x tr k by rw [cRepV, if_pos c9]]; exact hl
      refine q_inc (k := 1) (lv' := [(5, .int (nI (k + 1))), (6, .ref (ePad E k)), (4, .int (nI 6)), (3, .ref (ePa E)), (2, .int (cRepV x tr (k + 1))), (0, .ref (eO E)), (1, .int tr)]) hx hb dX2_reprint_87 hl rfl (by decide) rfl (fun ls hl => ?_)
      refine lv_goto (tgt := 36) hx hb dX2_reprint_90 (by decide) ?_
      replace hl : lv_has ls 7 [(5, .int (nI (k + 1))), (4, .int (nI 6)), (3, .ref (ePa E)), (2, .int (cRepV x tr (k + 1))), (0, .ref (eO E)), (1, .int tr)] := lv_sub hl [0, 2, 3, 4, 5, 6] rfl
      exact ih (k := k + 1) (H := H) (locs := locs) (ls := ls) (hP := hP) (hD := hD) (hS := hS) (hl := hl) (hn := by omega)
    · refine lv_iload_n hx hb dX2_reprint_58 rfl (lv_at hl 4 rfl) ?_
      refine lv_aload hx hb dX2_reprint_59 (lv_at hl 0 rfl) ?_
      refine c_getP hx hb hts hinP hown hK hP (by omega) 5 (by decide) k126 rfl rfl dX2_reprint_61 ?_
      refine lv_iadd hx hb dX2_reprint_64 ?_
      refine q_top (x' := (cRepV x tr (k + 1))) (by rw [cRepV, if_neg c9]) ?_
      refine lv_istore_n (lv' := [(2, .int (cRepV x tr (k + 1))), (6, .ref (ePad E k)), (5, .int (nI k)), (4, .int (nI 6)), (3, .ref (ePa E)), (0, .ref (eO E)), (1, .int tr)]) hx hb dX2_reprint_65 rfl hl (by decide) rfl (fun ls hl => ?_)
      refine lv_aload hx hb dX2_reprint_66 (lv_at hl 1 rfl) ?_
      refine lv_dup hx hb dX2_reprint_68 rfl ?_
      refine c_getP hx hb hts hinP hown hK hP (by omega) 4 (by decide) k123 rfl rfl dX2_reprint_69 ?_
      refine lv_aload hx hb dX2_reprint_72 (lv_at hl 1 rfl) ?_
      refine c_getP hx hb hts hinP hown hK hP (by omega) 5 (by decide) k126 rfl rfl dX2_reprint_74 ?_
      refine lv_iadd hx hb dX2_reprint_77 ?_
      refine c_putP hx hb hts hinP hown hK hP hD hS (j := k) (by omega) 4 4 (by decide) (cW_setP4 E (cRepX x tr k) _ (by omega)) k123 rfl rfl (ty := .int) (by decide +kernel) rfl rfl dX2_reprint_78 (fun H locs hP hD hS => ?_)
      refine lv_aload hx hb dX2_reprint_81 (lv_at hl 1 rfl) ?_
      refine lv_iconst (v := nI 0) hx hb dX2_reprint_83 (by decide) ?_
      refine c_putP hx hb hts hinP hown hK hP hD hS (j := k) (by omega) 5 5 (by decide) (cW_setP5 E (up2 (cRepX x tr k) 4 k (((cRepX x tr k) 4 k) + ((cRepX x tr k) 5 k))) _ (by omega)) k126 rfl rfl (ty := .int) (by decide +kernel) rfl rfl dX2_reprint_84 (fun H locs hP hD hS => ?_)
      have ey : up2 (up2 (cRepX x tr k) 4 k (((cRepX x tr k) 4 k) + ((cRepX x tr k) 5 k))) 5 k (nI 0) = cRepX x tr (k + 1) := (by rw [cRepX, if_neg c9])
      rw [ey] at hP hD
      clear ey
      refine q_inc (k := 2) (lv' := [(5, .int (nI (k + 1))), (2, .int (cRepV x tr (k + 1))), (6, .ref (ePad E k)), (4, .int (nI 6)), (3, .ref (ePa E)), (0, .ref (eO E)), (1, .int tr)]) hx hb dX2_reprint_87 hl rfl (by decide) rfl (fun ls hl => ?_)
      refine lv_goto (tgt := 36) hx hb dX2_reprint_90 (by decide) ?_
      replace hl : lv_has ls 7 [(5, .int (nI (k + 1))), (4, .int (nI 6)), (3, .ref (ePa E)), (2, .int (cRepV x tr (k + 1))), (0, .ref (eO E)), (1, .int tr)] := lv_sub hl [0, 3, 4, 1, 5, 6] rfl
      exact ih (k := k + 1) (H := H) (locs := locs) (ls := ls) (hP := hP) (hD := hD) (hS := hS) (hl := hl) (hn := by omega)
