set_option maxHeartbeats 4000000 in
set_option maxRecDepth 100000 in
theorem c_X3_stateOf (l : Launch) (D : va_G) (E : mE) (tl : gTy) (y : Nat → Nat → Int32) (v : Nat) (hv : v < 8)  : gI l yX3_stateOf wsX3_stateOf ({ frames := 1, cells := 0, slots := 0, locals := 22 } : Room) D (mT E tl) (mW E y) [.ref E.1.1, .int (nI v)] (fun (r : Int32) (u : Nat → Nat → Int32) => r = y 8 v ∧ u = up2 y 18 0 (nI 0)) (mW E) 0 0 := by
  refine gM.start (cc := cX3_stateOf) (maxL := 2) (ret := (some .int)) (own := RX3) rfl (by decide) rfl (Nat.le_of_ble_eq_true rfl) ?_
  intro pr e s m args below meth c A ls H locs hx hb hml hr hts hown hlocks hname hA hK hP hD hS hl
  replace hl : lv_has ls 2 [(0, .ref E.1.1), (1, .int (nI v))] := hl
  have hin : ∀ w ∈ wsX30, w ∈ wsX3_stateOf := by decide +kernel
  have k32 := hts (.fieldLink RX3 32 "FairFolioModel" "state" "[I") (by decide +kernel)
  refine lv_aload_n hx hb dX3_stateOf_0 rfl (lv_at hl 0 rfl) ?_
  refine lv_iload_n hx hb dX3_stateOf_1 rfl (lv_at hl 1 rfl) ?_
  refine g_scalli (As := [.int (nI v)]) (rest := [.ref E.1.1]) ⟨hx, hb, hml, hown, hts⟩ (c_X3_isVisitor_y l D E tl y v hv) (va_cwS 1 hts gX3_stateOf_X3_isVisitor rfl rfl rfl (by decide +kernel) ⟨Nat.le_of_ble_eq_true rfl, Nat.le_of_ble_eq_true rfl⟩) hK hP hD hS hA rfl hl.1 rfl (Nat.le_of_ble_eq_true rfl) dX3_stateOf_2 ⟨Nat.le_of_ble_eq_true rfl, Nat.le_of_ble_eq_true rfl⟩ (fun r_3 u_2 H locs hw hP hD hS => ?_)
  obtain ⟨hr_3, hu_2⟩ := hw
  rw [hu_2] at hP hD
  refine q_top (x' := (nI 1)) hr_3 ?_
  refine lv_iconst (v := nI 1) hx hb dX3_stateOf_5 (by decide) ?_
  refine g_calli (As := [.int (nI 1), .int (nI 1)]) (rest := []) ⟨hx, hb, hml, hown, hts⟩ (c_X3_goes l D E tl y (nI 1) (nI 1)) (cwV 2 hts gX3_stateOf_X3_goes rfl rfl rfl (by decide +kernel) ⟨Nat.le_of_ble_eq_true rfl, Nat.le_of_ble_eq_true rfl⟩) (m_recv hK hP) hK hP hD hS hA rfl hl.1 rfl (Nat.le_of_ble_eq_true rfl) dX3_stateOf_6 ⟨Nat.le_of_ble_eq_true rfl, Nat.le_of_ble_eq_true rfl⟩ (fun r_6 u_5 H locs hw hP hD hS => ?_)
  obtain ⟨hr_6, hu_5⟩ := hw
  rw [hu_5] at hP hD
  rw [show mGt (nI 1) (nI 1) = nI 0 from by decide] at hP hD
  refine q_top (x' := (nI 1)) (hr_6.trans (by decide)) ?_
  refine q_if_eq (tgt := 21) hx hb (by omega) dX3_stateOf_9 (by decide) (fun c_7 => absurd c_7 (by decide)) (fun c_7 => ?_)
  refine lv_aload_n hx hb dX3_stateOf_12 rfl (lv_at hl 0 rfl) ?_
  refine m_get hx hb hts hin hown hK hP 8 (by decide) k32 rfl rfl dX3_stateOf_13 ?_
  refine lv_iload_n hx hb dX3_stateOf_16 rfl (lv_at hl 1 rfl) ?_
  refine q_ild hx hb hK hP 8 0 rfl rfl v rfl (by omega) (by decide) dX3_stateOf_17 ?_
  refine lv_goto (tgt := 22) hx hb dX3_stateOf_18 (by decide) ?_
  exact W.iret hx hb hr (fun t ht hW => ⟨⟨_, up2 y 18 0 (nI 0), rfl, ⟨rfl, rfl⟩, by rw [ht]; exact hP, va_K.moved hW.alike hK, hD⟩, hS.F ht⟩) hS.2.2 dX3_stateOf_22

set_option maxHeartbeats 4000000 in
set_option maxRecDepth 100000 in
theorem c_X3_stateOf_n (l : Launch) (D : va_G) (E : mE) (tl : gTy) (y : Nat → Nat → Int32) (v : Int32) (hv : v < 0 ∨ nI 8 ≤ v)  : gI l yX3_stateOf wsX3_stateOf ({ frames := 1, cells := 0, slots := 0, locals := 22 } : Room) D (mT E tl) (mW E y) [.ref E.1.1, .int v] (fun (r : Int32) (u : Nat → Nat → Int32) => u = up2 y 18 0 (nI 1)) (mW E) 0 0 := by
  refine gM.start (cc := cX3_stateOf) (maxL := 2) (ret := (some .int)) (own := RX3) rfl (by decide) rfl (Nat.le_of_ble_eq_true rfl) ?_
  intro pr e s m args below meth c A ls H locs hx hb hml hr hts hown hlocks hname hA hK hP hD hS hl
  replace hl : lv_has ls 2 [(0, .ref E.1.1), (1, .int v)] := hl
  refine lv_aload_n hx hb dX3_stateOf_0 rfl (lv_at hl 0 rfl) ?_
  refine lv_iload_n hx hb dX3_stateOf_1 rfl (lv_at hl 1 rfl) ?_
  refine g_scalli (As := [.int v]) (rest := [.ref E.1.1]) ⟨hx, hb, hml, hown, hts⟩ (c_X3_isVisitor_n l D E tl y v hv) (va_cwS 1 hts gX3_stateOf_X3_isVisitor rfl rfl rfl (by decide +kernel) ⟨Nat.le_of_ble_eq_true rfl, Nat.le_of_ble_eq_true rfl⟩) hK hP hD hS hA rfl hl.1 rfl (Nat.le_of_ble_eq_true rfl) dX3_stateOf_2 ⟨Nat.le_of_ble_eq_true rfl, Nat.le_of_ble_eq_true rfl⟩ (fun r_3 u_2 H locs hw hP hD hS => ?_)
  obtain ⟨hr_3, hu_2⟩ := hw
  rw [hu_2] at hP hD
  refine q_top (x' := (nI 0)) hr_3 ?_
  refine lv_iconst (v := nI 1) hx hb dX3_stateOf_5 (by decide) ?_
  refine g_calli (As := [.int (nI 0), .int (nI 1)]) (rest := []) ⟨hx, hb, hml, hown, hts⟩ (c_X3_goes l D E tl y (nI 0) (nI 1)) (cwV 2 hts gX3_stateOf_X3_goes rfl rfl rfl (by decide +kernel) ⟨Nat.le_of_ble_eq_true rfl, Nat.le_of_ble_eq_true rfl⟩) (m_recv hK hP) hK hP hD hS hA rfl hl.1 rfl (Nat.le_of_ble_eq_true rfl) dX3_stateOf_6 ⟨Nat.le_of_ble_eq_true rfl, Nat.le_of_ble_eq_true rfl⟩ (fun r_6 u_5 H locs hw hP hD hS => ?_)
  obtain ⟨hr_6, hu_5⟩ := hw
  rw [hu_5] at hP hD
  rw [show mGt (nI 0) (nI 1) = nI 1 from by decide] at hP hD
  refine q_top (x' := (nI 0)) (hr_6.trans (by decide)) ?_
  refine q_if_eq (tgt := 21) hx hb (by omega) dX3_stateOf_9 (by decide) (fun c_7 => ?_) (fun c_7 => absurd c_7 (by decide))
  refine lv_iconst (v := nI 0) hx hb dX3_stateOf_21 (by decide) ?_
  exact W.iret hx hb hr (fun t ht hW => ⟨⟨_, up2 y 18 0 (nI 1), rfl, rfl, by rw [ht]; exact hP, va_K.moved hW.alike hK, hD⟩, hS.F ht⟩) hS.2.2 dX3_stateOf_22

set_option maxHeartbeats 4000000 in
set_option maxRecDepth 100000 in
theorem c_X3_whereIs (l : Launch) (D : va_G) (E : mE) (tl : gTy) (y : Nat → Nat → Int32) (v : Nat) (hv : v < 8)  : gI l yX3_whereIs wsX3_whereIs ({ frames := 1, cells := 0, slots := 0, locals := 22 } : Room) D (mT E tl) (mW E y) [.ref E.1.1, .int (nI v)] (fun (r : Int32) (u : Nat → Nat → Int32) => r = y 9 v ∧ u = up2 y 18 0 (nI 0)) (mW E) 0 0 := by
  refine gM.start (cc := cX3_whereIs) (maxL := 2) (ret := (some .int)) (own := RX3) rfl (by decide) rfl (Nat.le_of_ble_eq_true rfl) ?_
  intro pr e s m args below meth c A ls H locs hx hb hml hr hts hown hlocks hname hA hK hP hD hS hl
  replace hl : lv_has ls 2 [(0, .ref E.1.1), (1, .int (nI v))] := hl
  have hin : ∀ w ∈ wsX30, w ∈ wsX3_whereIs := by decide +kernel
  have k35 := hts (.fieldLink RX3 35 "FairFolioModel" "where" "[I") (by decide +kernel)
  refine lv_aload_n hx hb dX3_whereIs_0 rfl (lv_at hl 0 rfl) ?_
  refine lv_iload_n hx hb dX3_whereIs_1 rfl (lv_at hl 1 rfl) ?_
  refine g_scalli (As := [.int (nI v)]) (rest := [.ref E.1.1]) ⟨hx, hb, hml, hown, hts⟩ (c_X3_isVisitor_y l D E tl y v hv) (va_cwS 1 hts gX3_whereIs_X3_isVisitor rfl rfl rfl (by decide +kernel) ⟨Nat.le_of_ble_eq_true rfl, Nat.le_of_ble_eq_true rfl⟩) hK hP hD hS hA rfl hl.1 rfl (Nat.le_of_ble_eq_true rfl) dX3_whereIs_2 ⟨Nat.le_of_ble_eq_true rfl, Nat.le_of_ble_eq_true rfl⟩ (fun r_3 u_2 H locs hw hP hD hS => ?_)
  obtain ⟨hr_3, hu_2⟩ := hw
  rw [hu_2] at hP hD
  refine q_top (x' := (nI 1)) hr_3 ?_
  refine lv_iconst (v := nI 1) hx hb dX3_whereIs_5 (by decide) ?_
  refine g_calli (As := [.int (nI 1), .int (nI 1)]) (rest := []) ⟨hx, hb, hml, hown, hts⟩ (c_X3_goes l D E tl y (nI 1) (nI 1)) (cwV 2 hts gX3_whereIs_X3_goes rfl rfl rfl (by decide +kernel) ⟨Nat.le_of_ble_eq_true rfl, Nat.le_of_ble_eq_true rfl⟩) (m_recv hK hP) hK hP hD hS hA rfl hl.1 rfl (Nat.le_of_ble_eq_true rfl) dX3_whereIs_6 ⟨Nat.le_of_ble_eq_true rfl, Nat.le_of_ble_eq_true rfl⟩ (fun r_6 u_5 H locs hw hP hD hS => ?_)
  obtain ⟨hr_6, hu_5⟩ := hw
  rw [hu_5] at hP hD
  rw [show mGt (nI 1) (nI 1) = nI 0 from by decide] at hP hD
  refine q_top (x' := (nI 1)) (hr_6.trans (by decide)) ?_
  refine q_if_eq (tgt := 21) hx hb (by omega) dX3_whereIs_9 (by decide) (fun c_7 => absurd c_7 (by decide)) (fun c_7 => ?_)
  refine lv_aload_n hx hb dX3_whereIs_12 rfl (lv_at hl 0 rfl) ?_
  refine m_get hx hb hts hin hown hK hP 9 (by decide) k35 rfl rfl dX3_whereIs_13 ?_
  refine lv_iload_n hx hb dX3_whereIs_16 rfl (lv_at hl 1 rfl) ?_
  refine q_ild hx hb hK hP 9 0 rfl rfl v rfl (by omega) (by decide) dX3_whereIs_17 ?_
  refine lv_goto (tgt := 22) hx hb dX3_whereIs_18 (by decide) ?_
  exact W.iret hx hb hr (fun t ht hW => ⟨⟨_, up2 y 18 0 (nI 0), rfl, ⟨rfl, rfl⟩, by rw [ht]; exact hP, va_K.moved hW.alike hK, hD⟩, hS.F ht⟩) hS.2.2 dX3_whereIs_22

set_option maxHeartbeats 4000000 in
set_option maxRecDepth 100000 in
theorem c_X3_whereIs_n (l : Launch) (D : va_G) (E : mE) (tl : gTy) (y : Nat → Nat → Int32) (v : Int32) (hv : v < 0 ∨ nI 8 ≤ v)  : gI l yX3_whereIs wsX3_whereIs ({ frames := 1, cells := 0, slots := 0, locals := 22 } : Room) D (mT E tl) (mW E y) [.ref E.1.1, .int v] (fun (r : Int32) (u : Nat → Nat → Int32) => u = up2 y 18 0 (nI 1)) (mW E) 0 0 := by
  refine gM.start (cc := cX3_whereIs) (maxL := 2) (ret := (some .int)) (own := RX3) rfl (by decide) rfl (Nat.le_of_ble_eq_true rfl) ?_
  intro pr e s m args below meth c A ls H locs hx hb hml hr hts hown hlocks hname hA hK hP hD hS hl
  replace hl : lv_has ls 2 [(0, .ref E.1.1), (1, .int v)] := hl
  refine lv_aload_n hx hb dX3_whereIs_0 rfl (lv_at hl 0 rfl) ?_
  refine lv_iload_n hx hb dX3_whereIs_1 rfl (lv_at hl 1 rfl) ?_
  refine g_scalli (As := [.int v]) (rest := [.ref E.1.1]) ⟨hx, hb, hml, hown, hts⟩ (c_X3_isVisitor_n l D E tl y v hv) (va_cwS 1 hts gX3_whereIs_X3_isVisitor rfl rfl rfl (by decide +kernel) ⟨Nat.le_of_ble_eq_true rfl, Nat.le_of_ble_eq_true rfl⟩) hK hP hD hS hA rfl hl.1 rfl (Nat.le_of_ble_eq_true rfl) dX3_whereIs_2 ⟨Nat.le_of_ble_eq_true rfl, Nat.le_of_ble_eq_true rfl⟩ (fun r_3 u_2 H locs hw hP hD hS => ?_)
  obtain ⟨hr_3, hu_2⟩ := hw
  rw [hu_2] at hP hD
  refine q_top (x' := (nI 0)) hr_3 ?_
  refine lv_iconst (v := nI 1) hx hb dX3_whereIs_5 (by decide) ?_
  refine g_calli (As := [.int (nI 0), .int (nI 1)]) (rest := []) ⟨hx, hb, hml, hown, hts⟩ (c_X3_goes l D E tl y (nI 0) (nI 1)) (cwV 2 hts gX3_whereIs_X3_goes rfl rfl rfl (by decide +kernel) ⟨Nat.le_of_ble_eq_true rfl, Nat.le_of_ble_eq_true rfl⟩) (m_recv hK hP) hK hP hD hS hA rfl hl.1 rfl (Nat.le_of_ble_eq_true rfl) dX3_whereIs_6 ⟨Nat.le_of_ble_eq_true rfl, Nat.le_of_ble_eq_true rfl⟩ (fun r_6 u_5 H locs hw hP hD hS => ?_)
  obtain ⟨hr_6, hu_5⟩ := hw
  rw [hu_5] at hP hD
  rw [show mGt (nI 0) (nI 1) = nI 1 from by decide] at hP hD
  refine q_top (x' := (nI 0)) (hr_6.trans (by decide)) ?_
  refine q_if_eq (tgt := 21) hx hb (by omega) dX3_whereIs_9 (by decide) (fun c_7 => ?_) (fun c_7 => absurd c_7 (by decide))
  refine lv_iconst (v := nI 0) hx hb dX3_whereIs_21 (by decide) ?_
  exact W.iret hx hb hr (fun t ht hW => ⟨⟨_, up2 y 18 0 (nI 1), rfl, rfl, by rw [ht]; exact hP, va_K.moved hW.alike hK, hD⟩, hS.F ht⟩) hS.2.2 dX3_whereIs_22

set_option maxHeartbeats 4000000 in
set_option maxRecDepth 100000 in
theorem c_X3_turnOf (l : Launch) (D : va_G) (E : mE) (tl : gTy) (y : Nat → Nat → Int32) (v : Nat) (hv : v < 8)  : gI l yX3_turnOf wsX3_turnOf ({ frames := 1, cells := 0, slots := 0, locals := 22 } : Room) D (mT E tl) (mW E y) [.ref E.1.1, .int (nI v)] (fun (r : Int32) (u : Nat → Nat → Int32) => r = y 12 v ∧ u = up2 y 18 0 (nI 0)) (mW E) 0 0 := by
  refine gM.start (cc := cX3_turnOf) (maxL := 2) (ret := (some .int)) (own := RX3) rfl (by decide) rfl (Nat.le_of_ble_eq_true rfl) ?_
  intro pr e s m args below meth c A ls H locs hx hb hml hr hts hown hlocks hname hA hK hP hD hS hl
  replace hl : lv_has ls 2 [(0, .ref E.1.1), (1, .int (nI v))] := hl
  have hin : ∀ w ∈ wsX30, w ∈ wsX3_turnOf := by decide +kernel
  have k44 := hts (.fieldLink RX3 44 "FairFolioModel" "turn" "[I") (by decide +kernel)
  refine lv_aload_n hx hb dX3_turnOf_0 rfl (lv_at hl 0 rfl) ?_
  refine lv_iload_n hx hb dX3_turnOf_1 rfl (lv_at hl 1 rfl) ?_
  refine g_scalli (As := [.int (nI v)]) (rest := [.ref E.1.1]) ⟨hx, hb, hml, hown, hts⟩ (c_X3_isVisitor_y l D E tl y v hv) (va_cwS 1 hts gX3_turnOf_X3_isVisitor rfl rfl rfl (by decide +kernel) ⟨Nat.le_of_ble_eq_true rfl, Nat.le_of_ble_eq_true rfl⟩) hK hP hD hS hA rfl hl.1 rfl (Nat.le_of_ble_eq_true rfl) dX3_turnOf_2 ⟨Nat.le_of_ble_eq_true rfl, Nat.le_of_ble_eq_true rfl⟩ (fun r_3 u_2 H locs hw hP hD hS => ?_)
  obtain ⟨hr_3, hu_2⟩ := hw
  rw [hu_2] at hP hD
  refine q_top (x' := (nI 1)) hr_3 ?_
  refine lv_iconst (v := nI 1) hx hb dX3_turnOf_5 (by decide) ?_
  refine g_calli (As := [.int (nI 1), .int (nI 1)]) (rest := []) ⟨hx, hb, hml, hown, hts⟩ (c_X3_goes l D E tl y (nI 1) (nI 1)) (cwV 2 hts gX3_turnOf_X3_goes rfl rfl rfl (by decide +kernel) ⟨Nat.le_of_ble_eq_true rfl, Nat.le_of_ble_eq_true rfl⟩) (m_recv hK hP) hK hP hD hS hA rfl hl.1 rfl (Nat.le_of_ble_eq_true rfl) dX3_turnOf_6 ⟨Nat.le_of_ble_eq_true rfl, Nat.le_of_ble_eq_true rfl⟩ (fun r_6 u_5 H locs hw hP hD hS => ?_)
  obtain ⟨hr_6, hu_5⟩ := hw
  rw [hu_5] at hP hD
  rw [show mGt (nI 1) (nI 1) = nI 0 from by decide] at hP hD
  refine q_top (x' := (nI 1)) (hr_6.trans (by decide)) ?_
  refine q_if_eq (tgt := 21) hx hb (by omega) dX3_turnOf_9 (by decide) (fun c_7 => absurd c_7 (by decide)) (fun c_7 => ?_)
  refine lv_aload_n hx hb dX3_turnOf_12 rfl (lv_at hl 0 rfl) ?_
  refine m_get hx hb hts hin hown hK hP 12 (by decide) k44 rfl rfl dX3_turnOf_13 ?_
  refine lv_iload_n hx hb dX3_turnOf_16 rfl (lv_at hl 1 rfl) ?_
  refine q_ild hx hb hK hP 12 0 rfl rfl v rfl (by omega) (by decide) dX3_turnOf_17 ?_
  refine lv_goto (tgt := 22) hx hb dX3_turnOf_18 (by decide) ?_
  exact W.iret hx hb hr (fun t ht hW => ⟨⟨_, up2 y 18 0 (nI 0), rfl, ⟨rfl, rfl⟩, by rw [ht]; exact hP, va_K.moved hW.alike hK, hD⟩, hS.F ht⟩) hS.2.2 dX3_turnOf_22

set_option maxHeartbeats 4000000 in
set_option maxRecDepth 100000 in
theorem c_X3_turnOf_n (l : Launch) (D : va_G) (E : mE) (tl : gTy) (y : Nat → Nat → Int32) (v : Int32) (hv : v < 0 ∨ nI 8 ≤ v)  : gI l yX3_turnOf wsX3_turnOf ({ frames := 1, cells := 0, slots := 0, locals := 22 } : Room) D (mT E tl) (mW E y) [.ref E.1.1, .int v] (fun (r : Int32) (u : Nat → Nat → Int32) => u = up2 y 18 0 (nI 1)) (mW E) 0 0 := by
  refine gM.start (cc := cX3_turnOf) (maxL := 2) (ret := (some .int)) (own := RX3) rfl (by decide) rfl (Nat.le_of_ble_eq_true rfl) ?_
  intro pr e s m args below meth c A ls H locs hx hb hml hr hts hown hlocks hname hA hK hP hD hS hl
  replace hl : lv_has ls 2 [(0, .ref E.1.1), (1, .int v)] := hl
  refine lv_aload_n hx hb dX3_turnOf_0 rfl (lv_at hl 0 rfl) ?_
  refine lv_iload_n hx hb dX3_turnOf_1 rfl (lv_at hl 1 rfl) ?_
  refine g_scalli (As := [.int v]) (rest := [.ref E.1.1]) ⟨hx, hb, hml, hown, hts⟩ (c_X3_isVisitor_n l D E tl y v hv) (va_cwS 1 hts gX3_turnOf_X3_isVisitor rfl rfl rfl (by decide +kernel) ⟨Nat.le_of_ble_eq_true rfl, Nat.le_of_ble_eq_true rfl⟩) hK hP hD hS hA rfl hl.1 rfl (Nat.le_of_ble_eq_true rfl) dX3_turnOf_2 ⟨Nat.le_of_ble_eq_true rfl, Nat.le_of_ble_eq_true rfl⟩ (fun r_3 u_2 H locs hw hP hD hS => ?_)
  obtain ⟨hr_3, hu_2⟩ := hw
  rw [hu_2] at hP hD
  refine q_top (x' := (nI 0)) hr_3 ?_
  refine lv_iconst (v := nI 1) hx hb dX3_turnOf_5 (by decide) ?_
  refine g_calli (As := [.int (nI 0), .int (nI 1)]) (rest := []) ⟨hx, hb, hml, hown, hts⟩ (c_X3_goes l D E tl y (nI 0) (nI 1)) (cwV 2 hts gX3_turnOf_X3_goes rfl rfl rfl (by decide +kernel) ⟨Nat.le_of_ble_eq_true rfl, Nat.le_of_ble_eq_true rfl⟩) (m_recv hK hP) hK hP hD hS hA rfl hl.1 rfl (Nat.le_of_ble_eq_true rfl) dX3_turnOf_6 ⟨Nat.le_of_ble_eq_true rfl, Nat.le_of_ble_eq_true rfl⟩ (fun r_6 u_5 H locs hw hP hD hS => ?_)
  obtain ⟨hr_6, hu_5⟩ := hw
  rw [hu_5] at hP hD
  rw [show mGt (nI 0) (nI 1) = nI 1 from by decide] at hP hD
  refine q_top (x' := (nI 0)) (hr_6.trans (by decide)) ?_
  refine q_if_eq (tgt := 21) hx hb (by omega) dX3_turnOf_9 (by decide) (fun c_7 => ?_) (fun c_7 => absurd c_7 (by decide))
  refine lv_iconst (v := nI 0) hx hb dX3_turnOf_21 (by decide) ?_
  exact W.iret hx hb hr (fun t ht hW => ⟨⟨_, up2 y 18 0 (nI 1), rfl, rfl, by rw [ht]; exact hP, va_K.moved hW.alike hK, hD⟩, hS.F ht⟩) hS.2.2 dX3_turnOf_22

set_option maxHeartbeats 4000000 in
set_option maxRecDepth 100000 in
theorem c_X3_stamps (l : Launch) (D : va_G) (E : mE) (tl : gTy) (y : Nat → Nat → Int32) (v : Nat) (hv : v < 8)  : gI l yX3_stamps wsX3_stamps ({ frames := 1, cells := 0, slots := 0, locals := 22 } : Room) D (mT E tl) (mW E y) [.ref E.1.1, .int (nI v)] (fun (r : Int32) (u : Nat → Nat → Int32) => r = y 11 v ∧ u = up2 y 18 0 (nI 0)) (mW E) 0 0 := by
  refine gM.start (cc := cX3_stamps) (maxL := 2) (ret := (some .int)) (own := RX3) rfl (by decide) rfl (Nat.le_of_ble_eq_true rfl) ?_
  intro pr e s m args below meth c A ls H locs hx hb hml hr hts hown hlocks hname hA hK hP hD hS hl
  replace hl : lv_has ls 2 [(0, .ref E.1.1), (1, .int (nI v))] := hl
  have hin : ∀ w ∈ wsX30, w ∈ wsX3_stamps := by decide +kernel
  have k41 := hts (.fieldLink RX3 41 "FairFolioModel" "stamps" "[I") (by decide +kernel)
  refine lv_aload_n hx hb dX3_stamps_0 rfl (lv_at hl 0 rfl) ?_
  refine lv_iload_n hx hb dX3_stamps_1 rfl (lv_at hl 1 rfl) ?_
  refine g_scalli (As := [.int (nI v)]) (rest := [.ref E.1.1]) ⟨hx, hb, hml, hown, hts⟩ (c_X3_isVisitor_y l D E tl y v hv) (va_cwS 1 hts gX3_stamps_X3_isVisitor rfl rfl rfl (by decide +kernel) ⟨Nat.le_of_ble_eq_true rfl, Nat.le_of_ble_eq_true rfl⟩) hK hP hD hS hA rfl hl.1 rfl (Nat.le_of_ble_eq_true rfl) dX3_stamps_2 ⟨Nat.le_of_ble_eq_true rfl, Nat.le_of_ble_eq_true rfl⟩ (fun r_3 u_2 H locs hw hP hD hS => ?_)
  obtain ⟨hr_3, hu_2⟩ := hw
  rw [hu_2] at hP hD
  refine q_top (x' := (nI 1)) hr_3 ?_
  refine lv_iconst (v := nI 1) hx hb dX3_stamps_5 (by decide) ?_
  refine g_calli (As := [.int (nI 1), .int (nI 1)]) (rest := []) ⟨hx, hb, hml, hown, hts⟩ (c_X3_goes l D E tl y (nI 1) (nI 1)) (cwV 2 hts gX3_stamps_X3_goes rfl rfl rfl (by decide +kernel) ⟨Nat.le_of_ble_eq_true rfl, Nat.le_of_ble_eq_true rfl⟩) (m_recv hK hP) hK hP hD hS hA rfl hl.1 rfl (Nat.le_of_ble_eq_true rfl) dX3_stamps_6 ⟨Nat.le_of_ble_eq_true rfl, Nat.le_of_ble_eq_true rfl⟩ (fun r_6 u_5 H locs hw hP hD hS => ?_)
  obtain ⟨hr_6, hu_5⟩ := hw
  rw [hu_5] at hP hD
  rw [show mGt (nI 1) (nI 1) = nI 0 from by decide] at hP hD
  refine q_top (x' := (nI 1)) (hr_6.trans (by decide)) ?_
  refine q_if_eq (tgt := 21) hx hb (by omega) dX3_stamps_9 (by decide) (fun c_7 => absurd c_7 (by decide)) (fun c_7 => ?_)
  refine lv_aload_n hx hb dX3_stamps_12 rfl (lv_at hl 0 rfl) ?_
  refine m_get hx hb hts hin hown hK hP 11 (by decide) k41 rfl rfl dX3_stamps_13 ?_
  refine lv_iload_n hx hb dX3_stamps_16 rfl (lv_at hl 1 rfl) ?_
  refine q_ild hx hb hK hP 11 0 rfl rfl v rfl (by omega) (by decide) dX3_stamps_17 ?_
  refine lv_goto (tgt := 22) hx hb dX3_stamps_18 (by decide) ?_
  exact W.iret hx hb hr (fun t ht hW => ⟨⟨_, up2 y 18 0 (nI 0), rfl, ⟨rfl, rfl⟩, by rw [ht]; exact hP, va_K.moved hW.alike hK, hD⟩, hS.F ht⟩) hS.2.2 dX3_stamps_22

set_option maxHeartbeats 4000000 in
set_option maxRecDepth 100000 in
theorem c_X3_stamps_n (l : Launch) (D : va_G) (E : mE) (tl : gTy) (y : Nat → Nat → Int32) (v : Int32) (hv : v < 0 ∨ nI 8 ≤ v)  : gI l yX3_stamps wsX3_stamps ({ frames := 1, cells := 0, slots := 0, locals := 22 } : Room) D (mT E tl) (mW E y) [.ref E.1.1, .int v] (fun (r : Int32) (u : Nat → Nat → Int32) => u = up2 y 18 0 (nI 1)) (mW E) 0 0 := by
  refine gM.start (cc := cX3_stamps) (maxL := 2) (ret := (some .int)) (own := RX3) rfl (by decide) rfl (Nat.le_of_ble_eq_true rfl) ?_
  intro pr e s m args below meth c A ls H locs hx hb hml hr hts hown hlocks hname hA hK hP hD hS hl
  replace hl : lv_has ls 2 [(0, .ref E.1.1), (1, .int v)] := hl
  refine lv_aload_n hx hb dX3_stamps_0 rfl (lv_at hl 0 rfl) ?_
  refine lv_iload_n hx hb dX3_stamps_1 rfl (lv_at hl 1 rfl) ?_
  refine g_scalli (As := [.int v]) (rest := [.ref E.1.1]) ⟨hx, hb, hml, hown, hts⟩ (c_X3_isVisitor_n l D E tl y v hv) (va_cwS 1 hts gX3_stamps_X3_isVisitor rfl rfl rfl (by decide +kernel) ⟨Nat.le_of_ble_eq_true rfl, Nat.le_of_ble_eq_true rfl⟩) hK hP hD hS hA rfl hl.1 rfl (Nat.le_of_ble_eq_true rfl) dX3_stamps_2 ⟨Nat.le_of_ble_eq_true rfl, Nat.le_of_ble_eq_true rfl⟩ (fun r_3 u_2 H locs hw hP hD hS => ?_)
  obtain ⟨hr_3, hu_2⟩ := hw
  rw [hu_2] at hP hD
  refine q_top (x' := (nI 0)) hr_3 ?_
  refine lv_iconst (v := nI 1) hx hb dX3_stamps_5 (by decide) ?_
  refine g_calli (As := [.int (nI 0), .int (nI 1)]) (rest := []) ⟨hx, hb, hml, hown, hts⟩ (c_X3_goes l D E tl y (nI 0) (nI 1)) (cwV 2 hts gX3_stamps_X3_goes rfl rfl rfl (by decide +kernel) ⟨Nat.le_of_ble_eq_true rfl, Nat.le_of_ble_eq_true rfl⟩) (m_recv hK hP) hK hP hD hS hA rfl hl.1 rfl (Nat.le_of_ble_eq_true rfl) dX3_stamps_6 ⟨Nat.le_of_ble_eq_true rfl, Nat.le_of_ble_eq_true rfl⟩ (fun r_6 u_5 H locs hw hP hD hS => ?_)
  obtain ⟨hr_6, hu_5⟩ := hw
  rw [hu_5] at hP hD
  rw [show mGt (nI 0) (nI 1) = nI 1 from by decide] at hP hD
  refine q_top (x' := (nI 0)) (hr_6.trans (by decide)) ?_
  refine q_if_eq (tgt := 21) hx hb (by omega) dX3_stamps_9 (by decide) (fun c_7 => ?_) (fun c_7 => absurd c_7 (by decide))
  refine lv_iconst (v := nI 0) hx hb dX3_stamps_21 (by decide) ?_
  exact W.iret hx hb hr (fun t ht hW => ⟨⟨_, up2 y 18 0 (nI 1), rfl, rfl, by rw [ht]; exact hP, va_K.moved hW.alike hK, hD⟩, hS.F ht⟩) hS.2.2 dX3_stamps_22

set_option maxHeartbeats 4000000 in
set_option maxRecDepth 100000 in
theorem c_X3_queue (l : Launch) (D : va_G) (E : mE) (tl : gTy) (y : Nat → Nat → Int32) (v : Nat) (hv : v < 6)  : gI l yX3_queue wsX3_queue ({ frames := 1, cells := 0, slots := 0, locals := 22 } : Room) D (mT E tl) (mW E y) [.ref E.1.1, .int (nI v)] (fun (r : Int32) (u : Nat → Nat → Int32) => r = y 5 v ∧ u = up2 y 18 0 (nI 0)) (mW E) 0 0 := by
  refine gM.start (cc := cX3_queue) (maxL := 2) (ret := (some .int)) (own := RX3) rfl (by decide) rfl (Nat.le_of_ble_eq_true rfl) ?_
  intro pr e s m args below meth c A ls H locs hx hb hml hr hts hown hlocks hname hA hK hP hD hS hl
  replace hl : lv_has ls 2 [(0, .ref E.1.1), (1, .int (nI v))] := hl
  have hin : ∀ w ∈ wsX30, w ∈ wsX3_queue := by decide +kernel
  have k23 := hts (.fieldLink RX3 23 "FairFolioModel" "waiting" "[I") (by decide +kernel)
  refine lv_aload_n hx hb dX3_queue_0 rfl (lv_at hl 0 rfl) ?_
  refine lv_iload_n hx hb dX3_queue_1 rfl (lv_at hl 1 rfl) ?_
  refine g_scalli (As := [.int (nI v)]) (rest := [.ref E.1.1]) ⟨hx, hb, hml, hown, hts⟩ (c_X3_isPavilion_y l D E tl y v hv) (va_cwS 1 hts gX3_queue_X3_isPavilion rfl rfl rfl (by decide +kernel) ⟨Nat.le_of_ble_eq_true rfl, Nat.le_of_ble_eq_true rfl⟩) hK hP hD hS hA rfl hl.1 rfl (Nat.le_of_ble_eq_true rfl) dX3_queue_2 ⟨Nat.le_of_ble_eq_true rfl, Nat.le_of_ble_eq_true rfl⟩ (fun r_3 u_2 H locs hw hP hD hS => ?_)
  obtain ⟨hr_3, hu_2⟩ := hw
  rw [hu_2] at hP hD
  refine q_top (x' := (nI 1)) hr_3 ?_
  refine lv_iconst (v := nI 1) hx hb dX3_queue_5 (by decide) ?_
  refine g_calli (As := [.int (nI 1), .int (nI 1)]) (rest := []) ⟨hx, hb, hml, hown, hts⟩ (c_X3_goes l D E tl y (nI 1) (nI 1)) (cwV 2 hts gX3_queue_X3_goes rfl rfl rfl (by decide +kernel) ⟨Nat.le_of_ble_eq_true rfl, Nat.le_of_ble_eq_true rfl⟩) (m_recv hK hP) hK hP hD hS hA rfl hl.1 rfl (Nat.le_of_ble_eq_true rfl) dX3_queue_6 ⟨Nat.le_of_ble_eq_true rfl, Nat.le_of_ble_eq_true rfl⟩ (fun r_6 u_5 H locs hw hP hD hS => ?_)
  obtain ⟨hr_6, hu_5⟩ := hw
  rw [hu_5] at hP hD
  rw [show mGt (nI 1) (nI 1) = nI 0 from by decide] at hP hD
  refine q_top (x' := (nI 1)) (hr_6.trans (by decide)) ?_
  refine q_if_eq (tgt := 21) hx hb (by omega) dX3_queue_9 (by decide) (fun c_7 => absurd c_7 (by decide)) (fun c_7 => ?_)
  refine lv_aload_n hx hb dX3_queue_12 rfl (lv_at hl 0 rfl) ?_
  refine m_get hx hb hts hin hown hK hP 5 (by decide) k23 rfl rfl dX3_queue_13 ?_
  refine lv_iload_n hx hb dX3_queue_16 rfl (lv_at hl 1 rfl) ?_
  refine q_ild hx hb hK hP 5 0 rfl rfl v rfl (by omega) (by decide) dX3_queue_17 ?_
  refine lv_goto (tgt := 22) hx hb dX3_queue_18 (by decide) ?_
  exact W.iret hx hb hr (fun t ht hW => ⟨⟨_, up2 y 18 0 (nI 0), rfl, ⟨rfl, rfl⟩, by rw [ht]; exact hP, va_K.moved hW.alike hK, hD⟩, hS.F ht⟩) hS.2.2 dX3_queue_22

set_option maxHeartbeats 4000000 in
set_option maxRecDepth 100000 in
theorem c_X3_queue_n (l : Launch) (D : va_G) (E : mE) (tl : gTy) (y : Nat → Nat → Int32) (v : Int32) (hv : v < 0 ∨ nI 6 ≤ v)  : gI l yX3_queue wsX3_queue ({ frames := 1, cells := 0, slots := 0, locals := 22 } : Room) D (mT E tl) (mW E y) [.ref E.1.1, .int v] (fun (r : Int32) (u : Nat → Nat → Int32) => u = up2 y 18 0 (nI 1)) (mW E) 0 0 := by
  refine gM.start (cc := cX3_queue) (maxL := 2) (ret := (some .int)) (own := RX3) rfl (by decide) rfl (Nat.le_of_ble_eq_true rfl) ?_
  intro pr e s m args below meth c A ls H locs hx hb hml hr hts hown hlocks hname hA hK hP hD hS hl
  replace hl : lv_has ls 2 [(0, .ref E.1.1), (1, .int v)] := hl
  refine lv_aload_n hx hb dX3_queue_0 rfl (lv_at hl 0 rfl) ?_
  refine lv_iload_n hx hb dX3_queue_1 rfl (lv_at hl 1 rfl) ?_
  refine g_scalli (As := [.int v]) (rest := [.ref E.1.1]) ⟨hx, hb, hml, hown, hts⟩ (c_X3_isPavilion_n l D E tl y v hv) (va_cwS 1 hts gX3_queue_X3_isPavilion rfl rfl rfl (by decide +kernel) ⟨Nat.le_of_ble_eq_true rfl, Nat.le_of_ble_eq_true rfl⟩) hK hP hD hS hA rfl hl.1 rfl (Nat.le_of_ble_eq_true rfl) dX3_queue_2 ⟨Nat.le_of_ble_eq_true rfl, Nat.le_of_ble_eq_true rfl⟩ (fun r_3 u_2 H locs hw hP hD hS => ?_)
  obtain ⟨hr_3, hu_2⟩ := hw
  rw [hu_2] at hP hD
  refine q_top (x' := (nI 0)) hr_3 ?_
  refine lv_iconst (v := nI 1) hx hb dX3_queue_5 (by decide) ?_
  refine g_calli (As := [.int (nI 0), .int (nI 1)]) (rest := []) ⟨hx, hb, hml, hown, hts⟩ (c_X3_goes l D E tl y (nI 0) (nI 1)) (cwV 2 hts gX3_queue_X3_goes rfl rfl rfl (by decide +kernel) ⟨Nat.le_of_ble_eq_true rfl, Nat.le_of_ble_eq_true rfl⟩) (m_recv hK hP) hK hP hD hS hA rfl hl.1 rfl (Nat.le_of_ble_eq_true rfl) dX3_queue_6 ⟨Nat.le_of_ble_eq_true rfl, Nat.le_of_ble_eq_true rfl⟩ (fun r_6 u_5 H locs hw hP hD hS => ?_)
  obtain ⟨hr_6, hu_5⟩ := hw
  rw [hu_5] at hP hD
  rw [show mGt (nI 0) (nI 1) = nI 1 from by decide] at hP hD
  refine q_top (x' := (nI 0)) (hr_6.trans (by decide)) ?_
  refine q_if_eq (tgt := 21) hx hb (by omega) dX3_queue_9 (by decide) (fun c_7 => ?_) (fun c_7 => absurd c_7 (by decide))
  refine lv_iconst (v := nI 0) hx hb dX3_queue_21 (by decide) ?_
  exact W.iret hx hb hr (fun t ht hW => ⟨⟨_, up2 y 18 0 (nI 1), rfl, rfl, by rw [ht]; exact hP, va_K.moved hW.alike hK, hD⟩, hS.F ht⟩) hS.2.2 dX3_queue_22

set_option maxHeartbeats 4000000 in
set_option maxRecDepth 100000 in
theorem c_X3_stock (l : Launch) (D : va_G) (E : mE) (tl : gTy) (y : Nat → Nat → Int32) (v : Nat) (hv : v < 6)  : gI l yX3_stock wsX3_stock ({ frames := 1, cells := 0, slots := 0, locals := 22 } : Room) D (mT E tl) (mW E y) [.ref E.1.1, .int (nI v)] (fun (r : Int32) (u : Nat → Nat → Int32) => r = y 15 v ∧ u = up2 y 18 0 (nI 0)) (mW E) 0 0 := by
  refine gM.start (cc := cX3_stock) (maxL := 2) (ret := (some .int)) (own := RX3) rfl (by decide) rfl (Nat.le_of_ble_eq_true rfl) ?_
  intro pr e s m args below meth c A ls H locs hx hb hml hr hts hown hlocks hname hA hK hP hD hS hl
  replace hl : lv_has ls 2 [(0, .ref E.1.1), (1, .int (nI v))] := hl
  have hin : ∀ w ∈ wsX30, w ∈ wsX3_stock := by decide +kernel
  have k53 := hts (.fieldLink RX3 53 "FairFolioModel" "stock" "[I") (by decide +kernel)
  refine lv_aload_n hx hb dX3_stock_0 rfl (lv_at hl 0 rfl) ?_
  refine lv_iload_n hx hb dX3_stock_1 rfl (lv_at hl 1 rfl) ?_
  refine g_scalli (As := [.int (nI v)]) (rest := [.ref E.1.1]) ⟨hx, hb, hml, hown, hts⟩ (c_X3_isPavilion_y l D E tl y v hv) (va_cwS 1 hts gX3_stock_X3_isPavilion rfl rfl rfl (by decide +kernel) ⟨Nat.le_of_ble_eq_true rfl, Nat.le_of_ble_eq_true rfl⟩) hK hP hD hS hA rfl hl.1 rfl (Nat.le_of_ble_eq_true rfl) dX3_stock_2 ⟨Nat.le_of_ble_eq_true rfl, Nat.le_of_ble_eq_true rfl⟩ (fun r_3 u_2 H locs hw hP hD hS => ?_)
  obtain ⟨hr_3, hu_2⟩ := hw
  rw [hu_2] at hP hD
  refine q_top (x' := (nI 1)) hr_3 ?_
  refine lv_iconst (v := nI 1) hx hb dX3_stock_5 (by decide) ?_
  refine g_calli (As := [.int (nI 1), .int (nI 1)]) (rest := []) ⟨hx, hb, hml, hown, hts⟩ (c_X3_goes l D E tl y (nI 1) (nI 1)) (cwV 2 hts gX3_stock_X3_goes rfl rfl rfl (by decide +kernel) ⟨Nat.le_of_ble_eq_true rfl, Nat.le_of_ble_eq_true rfl⟩) (m_recv hK hP) hK hP hD hS hA rfl hl.1 rfl (Nat.le_of_ble_eq_true rfl) dX3_stock_6 ⟨Nat.le_of_ble_eq_true rfl, Nat.le_of_ble_eq_true rfl⟩ (fun r_6 u_5 H locs hw hP hD hS => ?_)
  obtain ⟨hr_6, hu_5⟩ := hw
  rw [hu_5] at hP hD
  rw [show mGt (nI 1) (nI 1) = nI 0 from by decide] at hP hD
  refine q_top (x' := (nI 1)) (hr_6.trans (by decide)) ?_
  refine q_if_eq (tgt := 21) hx hb (by omega) dX3_stock_9 (by decide) (fun c_7 => absurd c_7 (by decide)) (fun c_7 => ?_)
  refine lv_aload_n hx hb dX3_stock_12 rfl (lv_at hl 0 rfl) ?_
  refine m_get hx hb hts hin hown hK hP 15 (by decide) k53 rfl rfl dX3_stock_13 ?_
  refine lv_iload_n hx hb dX3_stock_16 rfl (lv_at hl 1 rfl) ?_
  refine q_ild hx hb hK hP 15 0 rfl rfl v rfl (by omega) (by decide) dX3_stock_17 ?_
  refine lv_goto (tgt := 22) hx hb dX3_stock_18 (by decide) ?_
  exact W.iret hx hb hr (fun t ht hW => ⟨⟨_, up2 y 18 0 (nI 0), rfl, ⟨rfl, rfl⟩, by rw [ht]; exact hP, va_K.moved hW.alike hK, hD⟩, hS.F ht⟩) hS.2.2 dX3_stock_22

set_option maxHeartbeats 4000000 in
set_option maxRecDepth 100000 in
theorem c_X3_stock_n (l : Launch) (D : va_G) (E : mE) (tl : gTy) (y : Nat → Nat → Int32) (v : Int32) (hv : v < 0 ∨ nI 6 ≤ v)  : gI l yX3_stock wsX3_stock ({ frames := 1, cells := 0, slots := 0, locals := 22 } : Room) D (mT E tl) (mW E y) [.ref E.1.1, .int v] (fun (r : Int32) (u : Nat → Nat → Int32) => u = up2 y 18 0 (nI 1)) (mW E) 0 0 := by
  refine gM.start (cc := cX3_stock) (maxL := 2) (ret := (some .int)) (own := RX3) rfl (by decide) rfl (Nat.le_of_ble_eq_true rfl) ?_
  intro pr e s m args below meth c A ls H locs hx hb hml hr hts hown hlocks hname hA hK hP hD hS hl
  replace hl : lv_has ls 2 [(0, .ref E.1.1), (1, .int v)] := hl
  refine lv_aload_n hx hb dX3_stock_0 rfl (lv_at hl 0 rfl) ?_
  refine lv_iload_n hx hb dX3_stock_1 rfl (lv_at hl 1 rfl) ?_
  refine g_scalli (As := [.int v]) (rest := [.ref E.1.1]) ⟨hx, hb, hml, hown, hts⟩ (c_X3_isPavilion_n l D E tl y v hv) (va_cwS 1 hts gX3_stock_X3_isPavilion rfl rfl rfl (by decide +kernel) ⟨Nat.le_of_ble_eq_true rfl, Nat.le_of_ble_eq_true rfl⟩) hK hP hD hS hA rfl hl.1 rfl (Nat.le_of_ble_eq_true rfl) dX3_stock_2 ⟨Nat.le_of_ble_eq_true rfl, Nat.le_of_ble_eq_true rfl⟩ (fun r_3 u_2 H locs hw hP hD hS => ?_)
  obtain ⟨hr_3, hu_2⟩ := hw
  rw [hu_2] at hP hD
  refine q_top (x' := (nI 0)) hr_3 ?_
  refine lv_iconst (v := nI 1) hx hb dX3_stock_5 (by decide) ?_
  refine g_calli (As := [.int (nI 0), .int (nI 1)]) (rest := []) ⟨hx, hb, hml, hown, hts⟩ (c_X3_goes l D E tl y (nI 0) (nI 1)) (cwV 2 hts gX3_stock_X3_goes rfl rfl rfl (by decide +kernel) ⟨Nat.le_of_ble_eq_true rfl, Nat.le_of_ble_eq_true rfl⟩) (m_recv hK hP) hK hP hD hS hA rfl hl.1 rfl (Nat.le_of_ble_eq_true rfl) dX3_stock_6 ⟨Nat.le_of_ble_eq_true rfl, Nat.le_of_ble_eq_true rfl⟩ (fun r_6 u_5 H locs hw hP hD hS => ?_)
  obtain ⟨hr_6, hu_5⟩ := hw
  rw [hu_5] at hP hD
  rw [show mGt (nI 0) (nI 1) = nI 1 from by decide] at hP hD
  refine q_top (x' := (nI 0)) (hr_6.trans (by decide)) ?_
  refine q_if_eq (tgt := 21) hx hb (by omega) dX3_stock_9 (by decide) (fun c_7 => ?_) (fun c_7 => absurd c_7 (by decide))
  refine lv_iconst (v := nI 0) hx hb dX3_stock_21 (by decide) ?_
  exact W.iret hx hb hr (fun t ht hW => ⟨⟨_, up2 y 18 0 (nI 1), rfl, rfl, by rw [ht]; exact hP, va_K.moved hW.alike hK, hD⟩, hS.F ht⟩) hS.2.2 dX3_stock_22

set_option maxHeartbeats 4000000 in
set_option maxRecDepth 100000 in
theorem c_X3_demand (l : Launch) (D : va_G) (E : mE) (tl : gTy) (y : Nat → Nat → Int32) (v : Nat) (hv : v < 6)  : gI l yX3_demand wsX3_demand ({ frames := 1, cells := 0, slots := 0, locals := 22 } : Room) D (mT E tl) (mW E y) [.ref E.1.1, .int (nI v)] (fun (r : Int32) (u : Nat → Nat → Int32) => r = y 16 v ∧ u = up2 y 18 0 (nI 0)) (mW E) 0 0 := by
  refine gM.start (cc := cX3_demand) (maxL := 2) (ret := (some .int)) (own := RX3) rfl (by decide) rfl (Nat.le_of_ble_eq_true rfl) ?_
  intro pr e s m args below meth c A ls H locs hx hb hml hr hts hown hlocks hname hA hK hP hD hS hl
  replace hl : lv_has ls 2 [(0, .ref E.1.1), (1, .int (nI v))] := hl
  have hin : ∀ w ∈ wsX30, w ∈ wsX3_demand := by decide +kernel
  have k56 := hts (.fieldLink RX3 56 "FairFolioModel" "demand" "[I") (by decide +kernel)
  refine lv_aload_n hx hb dX3_demand_0 rfl (lv_at hl 0 rfl) ?_
  refine lv_iload_n hx hb dX3_demand_1 rfl (lv_at hl 1 rfl) ?_
  refine g_scalli (As := [.int (nI v)]) (rest := [.ref E.1.1]) ⟨hx, hb, hml, hown, hts⟩ (c_X3_isPavilion_y l D E tl y v hv) (va_cwS 1 hts gX3_demand_X3_isPavilion rfl rfl rfl (by decide +kernel) ⟨Nat.le_of_ble_eq_true rfl, Nat.le_of_ble_eq_true rfl⟩) hK hP hD hS hA rfl hl.1 rfl (Nat.le_of_ble_eq_true rfl) dX3_demand_2 ⟨Nat.le_of_ble_eq_true rfl, Nat.le_of_ble_eq_true rfl⟩ (fun r_3 u_2 H locs hw hP hD hS => ?_)
  obtain ⟨hr_3, hu_2⟩ := hw
  rw [hu_2] at hP hD
  refine q_top (x' := (nI 1)) hr_3 ?_
  refine lv_iconst (v := nI 1) hx hb dX3_demand_5 (by decide) ?_
  refine g_calli (As := [.int (nI 1), .int (nI 1)]) (rest := []) ⟨hx, hb, hml, hown, hts⟩ (c_X3_goes l D E tl y (nI 1) (nI 1)) (cwV 2 hts gX3_demand_X3_goes rfl rfl rfl (by decide +kernel) ⟨Nat.le_of_ble_eq_true rfl, Nat.le_of_ble_eq_true rfl⟩) (m_recv hK hP) hK hP hD hS hA rfl hl.1 rfl (Nat.le_of_ble_eq_true rfl) dX3_demand_6 ⟨Nat.le_of_ble_eq_true rfl, Nat.le_of_ble_eq_true rfl⟩ (fun r_6 u_5 H locs hw hP hD hS => ?_)
  obtain ⟨hr_6, hu_5⟩ := hw
  rw [hu_5] at hP hD
  rw [show mGt (nI 1) (nI 1) = nI 0 from by decide] at hP hD
  refine q_top (x' := (nI 1)) (hr_6.trans (by decide)) ?_
  refine q_if_eq (tgt := 21) hx hb (by omega) dX3_demand_9 (by decide) (fun c_7 => absurd c_7 (by decide)) (fun c_7 => ?_)
  refine lv_aload_n hx hb dX3_demand_12 rfl (lv_at hl 0 rfl) ?_
  refine m_get hx hb hts hin hown hK hP 16 (by decide) k56 rfl rfl dX3_demand_13 ?_
  refine lv_iload_n hx hb dX3_demand_16 rfl (lv_at hl 1 rfl) ?_
  refine q_ild hx hb hK hP 16 0 rfl rfl v rfl (by omega) (by decide) dX3_demand_17 ?_
  refine lv_goto (tgt := 22) hx hb dX3_demand_18 (by decide) ?_
  exact W.iret hx hb hr (fun t ht hW => ⟨⟨_, up2 y 18 0 (nI 0), rfl, ⟨rfl, rfl⟩, by rw [ht]; exact hP, va_K.moved hW.alike hK, hD⟩, hS.F ht⟩) hS.2.2 dX3_demand_22

set_option maxHeartbeats 4000000 in
set_option maxRecDepth 100000 in
theorem c_X3_demand_n (l : Launch) (D : va_G) (E : mE) (tl : gTy) (y : Nat → Nat → Int32) (v : Int32) (hv : v < 0 ∨ nI 6 ≤ v)  : gI l yX3_demand wsX3_demand ({ frames := 1, cells := 0, slots := 0, locals := 22 } : Room) D (mT E tl) (mW E y) [.ref E.1.1, .int v] (fun (r : Int32) (u : Nat → Nat → Int32) => u = up2 y 18 0 (nI 1)) (mW E) 0 0 := by
  refine gM.start (cc := cX3_demand) (maxL := 2) (ret := (some .int)) (own := RX3) rfl (by decide) rfl (Nat.le_of_ble_eq_true rfl) ?_
  intro pr e s m args below meth c A ls H locs hx hb hml hr hts hown hlocks hname hA hK hP hD hS hl
  replace hl : lv_has ls 2 [(0, .ref E.1.1), (1, .int v)] := hl
  refine lv_aload_n hx hb dX3_demand_0 rfl (lv_at hl 0 rfl) ?_
  refine lv_iload_n hx hb dX3_demand_1 rfl (lv_at hl 1 rfl) ?_
  refine g_scalli (As := [.int v]) (rest := [.ref E.1.1]) ⟨hx, hb, hml, hown, hts⟩ (c_X3_isPavilion_n l D E tl y v hv) (va_cwS 1 hts gX3_demand_X3_isPavilion rfl rfl rfl (by decide +kernel) ⟨Nat.le_of_ble_eq_true rfl, Nat.le_of_ble_eq_true rfl⟩) hK hP hD hS hA rfl hl.1 rfl (Nat.le_of_ble_eq_true rfl) dX3_demand_2 ⟨Nat.le_of_ble_eq_true rfl, Nat.le_of_ble_eq_true rfl⟩ (fun r_3 u_2 H locs hw hP hD hS => ?_)
  obtain ⟨hr_3, hu_2⟩ := hw
  rw [hu_2] at hP hD
  refine q_top (x' := (nI 0)) hr_3 ?_
  refine lv_iconst (v := nI 1) hx hb dX3_demand_5 (by decide) ?_
  refine g_calli (As := [.int (nI 0), .int (nI 1)]) (rest := []) ⟨hx, hb, hml, hown, hts⟩ (c_X3_goes l D E tl y (nI 0) (nI 1)) (cwV 2 hts gX3_demand_X3_goes rfl rfl rfl (by decide +kernel) ⟨Nat.le_of_ble_eq_true rfl, Nat.le_of_ble_eq_true rfl⟩) (m_recv hK hP) hK hP hD hS hA rfl hl.1 rfl (Nat.le_of_ble_eq_true rfl) dX3_demand_6 ⟨Nat.le_of_ble_eq_true rfl, Nat.le_of_ble_eq_true rfl⟩ (fun r_6 u_5 H locs hw hP hD hS => ?_)
  obtain ⟨hr_6, hu_5⟩ := hw
  rw [hu_5] at hP hD
  rw [show mGt (nI 0) (nI 1) = nI 1 from by decide] at hP hD
  refine q_top (x' := (nI 0)) (hr_6.trans (by decide)) ?_
  refine q_if_eq (tgt := 21) hx hb (by omega) dX3_demand_9 (by decide) (fun c_7 => ?_) (fun c_7 => absurd c_7 (by decide))
  refine lv_iconst (v := nI 0) hx hb dX3_demand_21 (by decide) ?_
  exact W.iret hx hb hr (fun t ht hW => ⟨⟨_, up2 y 18 0 (nI 1), rfl, rfl, by rw [ht]; exact hP, va_K.moved hW.alike hK, hD⟩, hS.F ht⟩) hS.2.2 dX3_demand_22
