set_option maxHeartbeats 4000000 in
set_option maxRecDepth 100000 in
theorem c_X3_inside (l : Launch) (D : va_G) (E : mE) (tl : gTy) (y : Nat → Nat → Int32) (p : Nat) (hp : p < 6)  : gI l yX3_inside wsX3_inside ({ frames := 1, cells := 0, slots := 0, locals := 23 } : Room) D (mT E tl) (mW E y) [.ref E.1.1, .int (nI p)] (fun (r : Int32) (u : Nat → Nat → Int32) => r = nI (mIns y p 8) ∧ u = up2 y 18 0 (nI 0)) (mW E) 0 0 := by
  refine gM.start (cc := cX3_inside) (maxL := 2) (ret := (some .int)) (own := RX3) rfl (by decide) rfl (Nat.le_of_ble_eq_true rfl) ?_
  intro pr e s m args below meth c A ls H locs hx hb hml hr hts hown hlocks hname hA hK hP hD hS hl
  replace hl : lv_has ls 2 [(0, .ref E.1.1), (1, .int (nI p))] := hl
  refine lv_aload_n hx hb dX3_inside_0 rfl (lv_at hl 0 rfl) ?_
  refine lv_iload_n hx hb dX3_inside_1 rfl (lv_at hl 1 rfl) ?_
  refine g_scalli (As := [.int (nI p)]) (rest := [.ref E.1.1]) ⟨hx, hb, hml, hown, hts⟩ (c_X3_isPavilion_y l D E tl y p hp) (va_cwS 1 hts gX3_inside_X3_isPavilion rfl rfl rfl (by decide +kernel) ⟨Nat.le_of_ble_eq_true rfl, Nat.le_of_ble_eq_true rfl⟩) hK hP hD hS hA rfl hl.1 rfl (Nat.le_of_ble_eq_true rfl) dX3_inside_2 ⟨Nat.le_of_ble_eq_true rfl, Nat.le_of_ble_eq_true rfl⟩ (fun r_3 u_2 H locs hw hP hD hS => ?_)
  obtain ⟨hr_3, hu_2⟩ := hw
  rw [hu_2] at hP hD
  refine q_top (x' := (nI 1)) hr_3 ?_
  refine lv_iconst (v := nI 1) hx hb dX3_inside_5 (by decide) ?_
  refine g_calli (As := [.int (nI 1), .int (nI 1)]) (rest := []) ⟨hx, hb, hml, hown, hts⟩ (c_X3_goes l D E tl y (nI 1) (nI 1)) (cwV 2 hts gX3_inside_X3_goes rfl rfl rfl (by decide +kernel) ⟨Nat.le_of_ble_eq_true rfl, Nat.le_of_ble_eq_true rfl⟩) (m_recv hK hP) hK hP hD hS hA rfl hl.1 rfl (Nat.le_of_ble_eq_true rfl) dX3_inside_6 ⟨Nat.le_of_ble_eq_true rfl, Nat.le_of_ble_eq_true rfl⟩ (fun r_6 u_5 H locs hw hP hD hS => ?_)
  obtain ⟨hr_6, hu_5⟩ := hw
  rw [hu_5] at hP hD
  rw [show mGt (nI 1) (nI 1) = nI 0 from by decide] at hP hD
  refine q_top (x' := (nI 1)) (hr_6.trans (by decide)) ?_
  refine q_if_eq (tgt := 20) hx hb (by omega) dX3_inside_9 (by decide) (fun c_7 => absurd c_7 (by decide)) (fun c_7 => ?_)
  refine lv_aload_n hx hb dX3_inside_12 rfl (lv_at hl 0 rfl) ?_
  refine lv_iload_n hx hb dX3_inside_13 rfl (lv_at hl 1 rfl) ?_
  refine g_calli (As := [.int (nI p)]) (rest := []) ⟨hx, hb, hml, hown, hts⟩ (c_X3_insideOf l D E tl (up2 y 18 0 (nI 0)) p hp) (cwV 1 hts gX3_inside_X3_insideOf rfl rfl rfl (by decide +kernel) ⟨Nat.le_of_ble_eq_true rfl, Nat.le_of_ble_eq_true rfl⟩) (m_recv hK hP) hK hP hD hS hA rfl hl.1 rfl (Nat.le_of_ble_eq_true rfl) dX3_inside_14 ⟨Nat.le_of_ble_eq_true rfl, Nat.le_of_ble_eq_true rfl⟩ (fun r_10 u_9 H locs hw hP hD hS => ?_)
  obtain ⟨hr_10, hu_9⟩ := hw
  rw [hu_9] at hP hD
  refine q_top (x' := (nI (mIns y p 8))) (hr_10.trans (by rw [show mIns (up2 y 18 0 (nI 0)) p 8 = mIns y p 8 from rfl])) ?_
  refine lv_goto (tgt := 21) hx hb dX3_inside_17 (by decide) ?_
  exact W.iret hx hb hr (fun t ht hW => ⟨⟨_, up2 y 18 0 (nI 0), rfl, ⟨rfl, rfl⟩, by rw [ht]; exact hP, va_K.moved hW.alike hK, hD⟩, hS.F ht⟩) hS.2.2 dX3_inside_21

set_option maxHeartbeats 4000000 in
set_option maxRecDepth 100000 in
theorem c_X3_inside_n (l : Launch) (D : va_G) (E : mE) (tl : gTy) (y : Nat → Nat → Int32) (v : Int32) (hv : v < 0 ∨ nI 6 ≤ v)  : gI l yX3_inside wsX3_inside ({ frames := 1, cells := 0, slots := 0, locals := 23 } : Room) D (mT E tl) (mW E y) [.ref E.1.1, .int v] (fun (r : Int32) (u : Nat → Nat → Int32) => u = up2 y 18 0 (nI 1)) (mW E) 0 0 := by
  refine gM.start (cc := cX3_inside) (maxL := 2) (ret := (some .int)) (own := RX3) rfl (by decide) rfl (Nat.le_of_ble_eq_true rfl) ?_
  intro pr e s m args below meth c A ls H locs hx hb hml hr hts hown hlocks hname hA hK hP hD hS hl
  replace hl : lv_has ls 2 [(0, .ref E.1.1), (1, .int v)] := hl
  refine lv_aload_n hx hb dX3_inside_0 rfl (lv_at hl 0 rfl) ?_
  refine lv_iload_n hx hb dX3_inside_1 rfl (lv_at hl 1 rfl) ?_
  refine g_scalli (As := [.int v]) (rest := [.ref E.1.1]) ⟨hx, hb, hml, hown, hts⟩ (c_X3_isPavilion_n l D E tl y v hv) (va_cwS 1 hts gX3_inside_X3_isPavilion rfl rfl rfl (by decide +kernel) ⟨Nat.le_of_ble_eq_true rfl, Nat.le_of_ble_eq_true rfl⟩) hK hP hD hS hA rfl hl.1 rfl (Nat.le_of_ble_eq_true rfl) dX3_inside_2 ⟨Nat.le_of_ble_eq_true rfl, Nat.le_of_ble_eq_true rfl⟩ (fun r_3 u_2 H locs hw hP hD hS => ?_)
  obtain ⟨hr_3, hu_2⟩ := hw
  rw [hu_2] at hP hD
  refine q_top (x' := (nI 0)) hr_3 ?_
  refine lv_iconst (v := nI 1) hx hb dX3_inside_5 (by decide) ?_
  refine g_calli (As := [.int (nI 0), .int (nI 1)]) (rest := []) ⟨hx, hb, hml, hown, hts⟩ (c_X3_goes l D E tl y (nI 0) (nI 1)) (cwV 2 hts gX3_inside_X3_goes rfl rfl rfl (by decide +kernel) ⟨Nat.le_of_ble_eq_true rfl, Nat.le_of_ble_eq_true rfl⟩) (m_recv hK hP) hK hP hD hS hA rfl hl.1 rfl (Nat.le_of_ble_eq_true rfl) dX3_inside_6 ⟨Nat.le_of_ble_eq_true rfl, Nat.le_of_ble_eq_true rfl⟩ (fun r_6 u_5 H locs hw hP hD hS => ?_)
  obtain ⟨hr_6, hu_5⟩ := hw
  rw [hu_5] at hP hD
  rw [show mGt (nI 0) (nI 1) = nI 1 from by decide] at hP hD
  refine q_top (x' := (nI 0)) (hr_6.trans (by decide)) ?_
  refine q_if_eq (tgt := 20) hx hb (by omega) dX3_inside_9 (by decide) (fun c_7 => ?_) (fun c_7 => absurd c_7 (by decide))
  refine lv_iconst (v := nI 0) hx hb dX3_inside_20 (by decide) ?_
  exact W.iret hx hb hr (fun t ht hW => ⟨⟨_, up2 y 18 0 (nI 1), rfl, rfl, by rw [ht]; exact hP, va_K.moved hW.alike hK, hD⟩, hS.F ht⟩) hS.2.2 dX3_inside_21

set_option maxHeartbeats 4000000 in
set_option maxRecDepth 100000 in
theorem c_X3_placeOf_i (l : Launch) (D : va_G) (E : mE) (tl : gTy) (y : Nat → Nat → Int32) (v : Nat) (hv : v < 8) (h8 : ¬ y 8 v = nI 1)  : gI l yX3_placeOf wsX3_placeOf ({ frames := 1, cells := 0, slots := 0, locals := 22 } : Room) D (mT E tl) (mW E y) [.ref E.1.1, .int (nI v)] (fun (r : Int32) (u : Nat → Nat → Int32) => r = -1 ∧ u = up2 y 18 0 (nI 0)) (mW E) 0 0 := by
  refine gM.start (cc := cX3_placeOf) (maxL := 2) (ret := (some .int)) (own := RX3) rfl (by decide) rfl (Nat.le_of_ble_eq_true rfl) ?_
  intro pr e s m args below meth c A ls H locs hx hb hml hr hts hown hlocks hname hA hK hP hD hS hl
  replace hl : lv_has ls 2 [(0, .ref E.1.1), (1, .int (nI v))] := hl
  have hin : ∀ w ∈ wsX30, w ∈ wsX3_placeOf := by decide +kernel
  have k32 := hts (.fieldLink RX3 32 "FairFolioModel" "state" "[I") (by decide +kernel)
  refine lv_aload_n hx hb dX3_placeOf_0 rfl (lv_at hl 0 rfl) ?_
  refine lv_iload_n hx hb dX3_placeOf_1 rfl (lv_at hl 1 rfl) ?_
  refine g_scalli (As := [.int (nI v)]) (rest := [.ref E.1.1]) ⟨hx, hb, hml, hown, hts⟩ (c_X3_isVisitor_y l D E tl y v hv) (va_cwS 1 hts gX3_placeOf_X3_isVisitor rfl rfl rfl (by decide +kernel) ⟨Nat.le_of_ble_eq_true rfl, Nat.le_of_ble_eq_true rfl⟩) hK hP hD hS hA rfl hl.1 rfl (Nat.le_of_ble_eq_true rfl) dX3_placeOf_2 ⟨Nat.le_of_ble_eq_true rfl, Nat.le_of_ble_eq_true rfl⟩ (fun r_3 u_2 H locs hw hP hD hS => ?_)
  obtain ⟨hr_3, hu_2⟩ := hw
  rw [hu_2] at hP hD
  refine q_top (x' := (nI 1)) hr_3 ?_
  refine lv_iconst (v := nI 1) hx hb dX3_placeOf_5 (by decide) ?_
  refine g_calli (As := [.int (nI 1), .int (nI 1)]) (rest := []) ⟨hx, hb, hml, hown, hts⟩ (c_X3_goes l D E tl y (nI 1) (nI 1)) (cwV 2 hts gX3_placeOf_X3_goes rfl rfl rfl (by decide +kernel) ⟨Nat.le_of_ble_eq_true rfl, Nat.le_of_ble_eq_true rfl⟩) (m_recv hK hP) hK hP hD hS hA rfl hl.1 rfl (Nat.le_of_ble_eq_true rfl) dX3_placeOf_6 ⟨Nat.le_of_ble_eq_true rfl, Nat.le_of_ble_eq_true rfl⟩ (fun r_6 u_5 H locs hw hP hD hS => ?_)
  obtain ⟨hr_6, hu_5⟩ := hw
  rw [hu_5] at hP hD
  rw [show mGt (nI 1) (nI 1) = nI 0 from by decide] at hP hD
  refine q_top (x' := (nI 1)) (hr_6.trans (by decide)) ?_
  refine q_if_ne (tgt := 14) hx hb (by omega) dX3_placeOf_9 (by decide) (fun c_7 => ?_) (fun c_7 => absurd c_7 (by decide))
  refine lv_aload_n hx hb dX3_placeOf_14 rfl (lv_at hl 0 rfl) ?_
  refine m_get hx hb hts hin hown hK hP 8 (by decide) k32 rfl rfl dX3_placeOf_15 ?_
  refine lv_iload_n hx hb dX3_placeOf_18 rfl (lv_at hl 1 rfl) ?_
  refine q_ild hx hb hK hP 8 0 rfl rfl v rfl (by omega) (by decide) dX3_placeOf_19 ?_
  refine lv_iconst (v := nI 1) hx hb dX3_placeOf_20 (by decide) ?_
  refine lv_icmp_ne (tgt := 38) hx hb dX3_placeOf_21 (by decide) (fun c2 => ?_) (fun c2 => absurd c2 h8)
  refine lv_iconst (v := -1) hx hb dX3_placeOf_38 (by decide) ?_
  exact W.iret hx hb hr (fun t ht hW => ⟨⟨_, up2 y 18 0 (nI 0), rfl, ⟨rfl, rfl⟩, by rw [ht]; exact hP, va_K.moved hW.alike hK, hD⟩, hS.F ht⟩) hS.2.2 dX3_placeOf_39

theorem mLast_18 (y : Nat → Nat → Int32) (p v w : Nat) (t : Int32) : mLast (up2 y 18 0 t) p v w = mLast y p v w := by
  induction w with
  | zero => rfl
  | succ w ih =>
    rw [mLast, mLast, ih]
    rfl

set_option maxHeartbeats 4000000 in
set_option maxRecDepth 100000 in
theorem c_X3_placeOf_w (l : Launch) (D : va_G) (E : mE) (tl : gTy) (y : Nat → Nat → Int32) (v p w a : Nat) (hv : v < 8) (hp : p < 6) (hw : w ≤ 8) (h8 : y 8 v = nI 1) (h9 : y 9 v = nI p) (h5 : y 5 p = nI w) (hla : mLast y p v w = nI a)  : gI l yX3_placeOf wsX3_placeOf ({ frames := 1, cells := 0, slots := 0, locals := 24 } : Room) D (mT E tl) (mW E y) [.ref E.1.1, .int (nI v)] (fun (r : Int32) (u : Nat → Nat → Int32) => r = nI a ∧ u = up2 y 18 0 (nI 0)) (mW E) 0 0 := by
  refine gM.start (cc := cX3_placeOf) (maxL := 2) (ret := (some .int)) (own := RX3) rfl (by decide) rfl (Nat.le_of_ble_eq_true rfl) ?_
  intro pr e s m args below meth c A ls H locs hx hb hml hr hts hown hlocks hname hA hK hP hD hS hl
  replace hl : lv_has ls 2 [(0, .ref E.1.1), (1, .int (nI v))] := hl
  have hin : ∀ w ∈ wsX30, w ∈ wsX3_placeOf := by decide +kernel
  have k32 := hts (.fieldLink RX3 32 "FairFolioModel" "state" "[I") (by decide +kernel)
  have k35 := hts (.fieldLink RX3 35 "FairFolioModel" "where" "[I") (by decide +kernel)
  refine lv_aload_n hx hb dX3_placeOf_0 rfl (lv_at hl 0 rfl) ?_
  refine lv_iload_n hx hb dX3_placeOf_1 rfl (lv_at hl 1 rfl) ?_
  refine g_scalli (As := [.int (nI v)]) (rest := [.ref E.1.1]) ⟨hx, hb, hml, hown, hts⟩ (c_X3_isVisitor_y l D E tl y v hv) (va_cwS 1 hts gX3_placeOf_X3_isVisitor rfl rfl rfl (by decide +kernel) ⟨Nat.le_of_ble_eq_true rfl, Nat.le_of_ble_eq_true rfl⟩) hK hP hD hS hA rfl hl.1 rfl (Nat.le_of_ble_eq_true rfl) dX3_placeOf_2 ⟨Nat.le_of_ble_eq_true rfl, Nat.le_of_ble_eq_true rfl⟩ (fun r_3 u_2 H locs hw hP hD hS => ?_)
  obtain ⟨hr_3, hu_2⟩ := hw
  rw [hu_2] at hP hD
  refine q_top (x' := (nI 1)) hr_3 ?_
  refine lv_iconst (v := nI 1) hx hb dX3_placeOf_5 (by decide) ?_
  refine g_calli (As := [.int (nI 1), .int (nI 1)]) (rest := []) ⟨hx, hb, hml, hown, hts⟩ (c_X3_goes l D E tl y (nI 1) (nI 1)) (cwV 2 hts gX3_placeOf_X3_goes rfl rfl rfl (by decide +kernel) ⟨Nat.le_of_ble_eq_true rfl, Nat.le_of_ble_eq_true rfl⟩) (m_recv hK hP) hK hP hD hS hA rfl hl.1 rfl (Nat.le_of_ble_eq_true rfl) dX3_placeOf_6 ⟨Nat.le_of_ble_eq_true rfl, Nat.le_of_ble_eq_true rfl⟩ (fun r_6 u_5 H locs hw hP hD hS => ?_)
  obtain ⟨hr_6, hu_5⟩ := hw
  rw [hu_5] at hP hD
  rw [show mGt (nI 1) (nI 1) = nI 0 from by decide] at hP hD
  refine q_top (x' := (nI 1)) (hr_6.trans (by decide)) ?_
  refine q_if_ne (tgt := 14) hx hb (by omega) dX3_placeOf_9 (by decide) (fun c_7 => ?_) (fun c_7 => absurd c_7 (by decide))
  refine lv_aload_n hx hb dX3_placeOf_14 rfl (lv_at hl 0 rfl) ?_
  refine m_get hx hb hts hin hown hK hP 8 (by decide) k32 rfl rfl dX3_placeOf_15 ?_
  refine lv_iload_n hx hb dX3_placeOf_18 rfl (lv_at hl 1 rfl) ?_
  refine q_ild hx hb hK hP 8 0 rfl rfl v rfl (by omega) (by decide) dX3_placeOf_19 ?_
  refine lv_iconst (v := nI 1) hx hb dX3_placeOf_20 (by decide) ?_
  refine lv_icmp_ne (tgt := 38) hx hb dX3_placeOf_21 (by decide) (fun c2 => absurd h8 c2) (fun c2 => ?_)
  refine lv_aload_n hx hb dX3_placeOf_24 rfl (lv_at hl 0 rfl) ?_
  refine lv_aload_n hx hb dX3_placeOf_25 rfl (lv_at hl 0 rfl) ?_
  refine m_get hx hb hts hin hown hK hP 9 (by decide) k35 rfl rfl dX3_placeOf_26 ?_
  refine lv_iload_n hx hb dX3_placeOf_29 rfl (lv_at hl 1 rfl) ?_
  refine q_ild hx hb hK hP 9 0 rfl rfl v rfl (by omega) (by decide) dX3_placeOf_30 ?_
  refine q_top (x' := (nI p)) h9 ?_
  refine lv_iload_n hx hb dX3_placeOf_31 rfl (lv_at hl 1 rfl) ?_
  refine g_calli (As := [.int (nI p), .int (nI v)]) (rest := []) ⟨hx, hb, hml, hown, hts⟩ (c_X3_placeIn l D E tl (up2 y 18 0 (nI 0)) p v w hp hv hw h5) (cwV 2 hts gX3_placeOf_X3_placeIn rfl rfl rfl (by decide +kernel) ⟨Nat.le_of_ble_eq_true rfl, Nat.le_of_ble_eq_true rfl⟩) (m_recv hK hP) hK hP hD hS hA rfl hl.1 rfl (Nat.le_of_ble_eq_true rfl) dX3_placeOf_32 ⟨Nat.le_of_ble_eq_true rfl, Nat.le_of_ble_eq_true rfl⟩ (fun r_10 u_9 H locs hw hP hD hS => ?_)
  obtain ⟨hr_10, hu_9⟩ := hw
  rw [hu_9] at hP hD
  refine q_top (x' := (nI a)) (hr_10.trans ((show mLast (up2 y 18 0 (nI 0)) p v w = mLast y p v w from mLast_18 y p v w (nI 0)).trans hla)) ?_
  refine lv_goto (tgt := 39) hx hb dX3_placeOf_35 (by decide) ?_
  exact W.iret hx hb hr (fun t ht hW => ⟨⟨_, up2 y 18 0 (nI 0), rfl, ⟨rfl, rfl⟩, by rw [ht]; exact hP, va_K.moved hW.alike hK, hD⟩, hS.F ht⟩) hS.2.2 dX3_placeOf_39

set_option maxHeartbeats 4000000 in
set_option maxRecDepth 100000 in
theorem c_X3_placeOf_n (l : Launch) (D : va_G) (E : mE) (tl : gTy) (y : Nat → Nat → Int32) (v : Int32) (hv : v < 0 ∨ nI 8 ≤ v)  : gI l yX3_placeOf wsX3_placeOf ({ frames := 1, cells := 0, slots := 0, locals := 24 } : Room) D (mT E tl) (mW E y) [.ref E.1.1, .int v] (fun (r : Int32) (u : Nat → Nat → Int32) => u = up2 y 18 0 (nI 1)) (mW E) 0 0 := by
  refine gM.start (cc := cX3_placeOf) (maxL := 2) (ret := (some .int)) (own := RX3) rfl (by decide) rfl (Nat.le_of_ble_eq_true rfl) ?_
  intro pr e s m args below meth c A ls H locs hx hb hml hr hts hown hlocks hname hA hK hP hD hS hl
  replace hl : lv_has ls 2 [(0, .ref E.1.1), (1, .int v)] := hl
  refine lv_aload_n hx hb dX3_placeOf_0 rfl (lv_at hl 0 rfl) ?_
  refine lv_iload_n hx hb dX3_placeOf_1 rfl (lv_at hl 1 rfl) ?_
  refine g_scalli (As := [.int v]) (rest := [.ref E.1.1]) ⟨hx, hb, hml, hown, hts⟩ (c_X3_isVisitor_n l D E tl y v hv) (va_cwS 1 hts gX3_placeOf_X3_isVisitor rfl rfl rfl (by decide +kernel) ⟨Nat.le_of_ble_eq_true rfl, Nat.le_of_ble_eq_true rfl⟩) hK hP hD hS hA rfl hl.1 rfl (Nat.le_of_ble_eq_true rfl) dX3_placeOf_2 ⟨Nat.le_of_ble_eq_true rfl, Nat.le_of_ble_eq_true rfl⟩ (fun r_3 u_2 H locs hw hP hD hS => ?_)
  obtain ⟨hr_3, hu_2⟩ := hw
  rw [hu_2] at hP hD
  refine q_top (x' := (nI 0)) hr_3 ?_
  refine lv_iconst (v := nI 1) hx hb dX3_placeOf_5 (by decide) ?_
  refine g_calli (As := [.int (nI 0), .int (nI 1)]) (rest := []) ⟨hx, hb, hml, hown, hts⟩ (c_X3_goes l D E tl y (nI 0) (nI 1)) (cwV 2 hts gX3_placeOf_X3_goes rfl rfl rfl (by decide +kernel) ⟨Nat.le_of_ble_eq_true rfl, Nat.le_of_ble_eq_true rfl⟩) (m_recv hK hP) hK hP hD hS hA rfl hl.1 rfl (Nat.le_of_ble_eq_true rfl) dX3_placeOf_6 ⟨Nat.le_of_ble_eq_true rfl, Nat.le_of_ble_eq_true rfl⟩ (fun r_6 u_5 H locs hw hP hD hS => ?_)
  obtain ⟨hr_6, hu_5⟩ := hw
  rw [hu_5] at hP hD
  rw [show mGt (nI 0) (nI 1) = nI 1 from by decide] at hP hD
  refine q_top (x' := (nI 0)) (hr_6.trans (by decide)) ?_
  refine q_if_ne (tgt := 14) hx hb (by omega) dX3_placeOf_9 (by decide) (fun c_7 => absurd c_7 (by decide)) (fun c_7 => ?_)
  refine lv_iconst (v := nI 0) hx hb dX3_placeOf_12 (by decide) ?_
  exact W.iret hx hb hr (fun t ht hW => ⟨⟨_, up2 y 18 0 (nI 1), rfl, rfl, by rw [ht]; exact hP, va_K.moved hW.alike hK, hD⟩, hS.F ht⟩) hS.2.2 dX3_placeOf_13

set_option maxHeartbeats 4000000 in
set_option maxRecDepth 100000 in
theorem c_X3_setPavilion (l : Launch) (D : va_G) (E : mE) (tl : gTy) (y : Nat → Nat → Int32) (p : Nat) (a b : Int32) (hp : p < 6) (hok : sOK a b)  : gV l yX3_setPavilion wsX3_setPavilion ({ frames := 1, cells := 0, slots := 0, locals := 22 } : Room) D (mT E tl) (mW E y) [.ref E.1.1, .int (nI p), .int a, .int b] (fun u : Nat → Nat → Int32 => u = up2 (up2 (up2 y 18 0 (nI 0)) 1 p a) 2 p b) (mW E) 0 0 := by
  refine gM.start (cc := cX3_setPavilion) (maxL := 4) (ret := none) (own := RX3) rfl (by decide) rfl (Nat.le_of_ble_eq_true rfl) ?_
  intro pr e s m args below meth c A ls H locs hx hb hml hr hts hown hlocks hname hA hK hP hD hS hl
  replace hl : lv_has ls 4 [(0, .ref E.1.1), (1, .int (nI p)), (2, .int a), (3, .int b)] := hl
  have hin : ∀ w ∈ wsX30, w ∈ wsX3_setPavilion := by decide +kernel
  have k7 := hts (.fieldLink RX3 7 "FairFolioModel" "room" "[I") (by decide +kernel)
  have k13 := hts (.fieldLink RX3 13 "FairFolioModel" "takes" "[I") (by decide +kernel)
  refine lv_aload_n hx hb dX3_setPavilion_0 rfl (lv_at hl 0 rfl) ?_
  refine lv_iload_n hx hb dX3_setPavilion_1 rfl (lv_at hl 1 rfl) ?_
  refine g_scalli (As := [.int (nI p)]) (rest := [.ref E.1.1]) ⟨hx, hb, hml, hown, hts⟩ (c_X3_isPavilion_y l D E tl y p hp) (va_cwS 1 hts gX3_setPavilion_X3_isPavilion rfl rfl rfl (by decide +kernel) ⟨Nat.le_of_ble_eq_true rfl, Nat.le_of_ble_eq_true rfl⟩) hK hP hD hS hA rfl hl.1 rfl (Nat.le_of_ble_eq_true rfl) dX3_setPavilion_2 ⟨Nat.le_of_ble_eq_true rfl, Nat.le_of_ble_eq_true rfl⟩ (fun r_3 u_2 H locs hw hP hD hS => ?_)
  obtain ⟨hr_3, hu_2⟩ := hw
  rw [hu_2] at hP hD
  refine q_top (x' := (nI 1)) hr_3 ?_
  refine lv_iload_n hx hb dX3_setPavilion_5 rfl (lv_at hl 2 rfl) ?_
  refine lv_iconst (v := nI 1) hx hb dX3_setPavilion_6 (by decide) ?_
  refine lv_icmp_lt (tgt := 31) hx hb dX3_setPavilion_7 (by decide) (fun c1 => absurd c1 hok.1) (fun c1 => ?_)
  refine lv_iload_n hx hb dX3_setPavilion_10 rfl (lv_at hl 2 rfl) ?_
  refine lv_bipush (v := nI 8) hx hb dX3_setPavilion_11 (by decide) ?_
  refine lv_icmp_gt (tgt := 31) hx hb dX3_setPavilion_13 (by decide) (fun c2 => absurd c2 hok.2.1) (fun c2 => ?_)
  refine lv_iload_n hx hb dX3_setPavilion_16 rfl (lv_at hl 3 rfl) ?_
  refine lv_iconst (v := nI 1) hx hb dX3_setPavilion_17 (by decide) ?_
  refine lv_icmp_lt (tgt := 31) hx hb dX3_setPavilion_18 (by decide) (fun c3 => absurd c3 hok.2.2.1) (fun c3 => ?_)
  refine lv_iload_n hx hb dX3_setPavilion_21 rfl (lv_at hl 3 rfl) ?_
  refine lv_bipush (v := nI 60) hx hb dX3_setPavilion_22 (by decide) ?_
  refine lv_icmp_gt (tgt := 31) hx hb dX3_setPavilion_24 (by decide) (fun c4 => absurd c4 hok.2.2.2) (fun c4 => ?_)
  refine lv_iconst (v := nI 1) hx hb dX3_setPavilion_27 (by decide) ?_
  refine lv_goto (tgt := 32) hx hb dX3_setPavilion_28 (by decide) ?_
  refine g_calli (As := [.int (nI 1), .int (nI 1)]) (rest := []) ⟨hx, hb, hml, hown, hts⟩ (c_X3_goes l D E tl y (nI 1) (nI 1)) (cwV 2 hts gX3_setPavilion_X3_goes rfl rfl rfl (by decide +kernel) ⟨Nat.le_of_ble_eq_true rfl, Nat.le_of_ble_eq_true rfl⟩) (m_recv hK hP) hK hP hD hS hA rfl hl.1 rfl (Nat.le_of_ble_eq_true rfl) dX3_setPavilion_32 ⟨Nat.le_of_ble_eq_true rfl, Nat.le_of_ble_eq_true rfl⟩ (fun r_6 u_5 H locs hw hP hD hS => ?_)
  obtain ⟨hr_6, hu_5⟩ := hw
  rw [hu_5] at hP hD
  rw [show mGt (nI 1) (nI 1) = nI 0 from by decide] at hP hD
  refine q_top (x' := (nI 1)) (hr_6.trans (by decide)) ?_
  refine q_if_eq (tgt := 52) hx hb (by omega) dX3_setPavilion_35 (by decide) (fun c_7 => absurd c_7 (by decide)) (fun c_7 => ?_)
  refine lv_aload_n hx hb dX3_setPavilion_38 rfl (lv_at hl 0 rfl) ?_
  refine m_get hx hb hts hin hown hK hP 1 (by decide) k7 rfl rfl dX3_setPavilion_39 ?_
  refine lv_iload_n hx hb dX3_setPavilion_42 rfl (lv_at hl 1 rfl) ?_
  refine lv_iload_n hx hb dX3_setPavilion_43 rfl (lv_at hl 2 rfl) ?_
  refine q_ist hx hb hK hP hD hS 1 0 rfl rfl p rfl (by omega) (by decide) dX3_setPavilion_44 (fun H locs hP hD hS => ?_)
  replace hP : va_P D vwCl (mW E (up2 (up2 y 18 0 (nI 0)) 1 p a)) H := hP
  replace hD : va_D A (mW E (up2 (up2 y 18 0 (nI 0)) 1 p a)) := hD
  refine lv_aload_n hx hb dX3_setPavilion_45 rfl (lv_at hl 0 rfl) ?_
  refine m_get hx hb hts hin hown hK hP 2 (by decide) k13 rfl rfl dX3_setPavilion_46 ?_
  refine lv_iload_n hx hb dX3_setPavilion_49 rfl (lv_at hl 1 rfl) ?_
  refine lv_iload_n hx hb dX3_setPavilion_50 rfl (lv_at hl 3 rfl) ?_
  refine q_ist hx hb hK hP hD hS 2 0 rfl rfl p rfl (by omega) (by decide) dX3_setPavilion_51 (fun H locs hP hD hS => ?_)
  replace hP : va_P D vwCl (mW E (up2 (up2 (up2 y 18 0 (nI 0)) 1 p a) 2 p b)) H := hP
  replace hD : va_D A (mW E (up2 (up2 (up2 y 18 0 (nI 0)) 1 p a) 2 p b)) := hD
  exact W.vret hx hb hr (fun t ht hW => ⟨⟨up2 (up2 (up2 y 18 0 (nI 0)) 1 p a) 2 p b, rfl, rfl, by rw [ht]; exact hP, va_K.moved hW.alike hK, hD⟩, hS.F ht⟩) hS.2.2 dX3_setPavilion_52

set_option maxHeartbeats 4000000 in
set_option maxRecDepth 100000 in
theorem c_X3_setPavilion_b (l : Launch) (D : va_G) (E : mE) (tl : gTy) (y : Nat → Nat → Int32) (p : Nat) (a b : Int32) (hp : p < 6) (hok : ¬ sOK a b)  : gV l yX3_setPavilion wsX3_setPavilion ({ frames := 1, cells := 0, slots := 0, locals := 22 } : Room) D (mT E tl) (mW E y) [.ref E.1.1, .int (nI p), .int a, .int b] (fun u : Nat → Nat → Int32 => u = up2 y 18 0 (nI 2)) (mW E) 0 0 := by
  refine gM.start (cc := cX3_setPavilion) (maxL := 4) (ret := none) (own := RX3) rfl (by decide) rfl (Nat.le_of_ble_eq_true rfl) ?_
  intro pr e s m args below meth c A ls H locs hx hb hml hr hts hown hlocks hname hA hK hP hD hS hl
  replace hl : lv_has ls 4 [(0, .ref E.1.1), (1, .int (nI p)), (2, .int a), (3, .int b)] := hl
  refine lv_aload_n hx hb dX3_setPavilion_0 rfl (lv_at hl 0 rfl) ?_
  refine lv_iload_n hx hb dX3_setPavilion_1 rfl (lv_at hl 1 rfl) ?_
  refine g_scalli (As := [.int (nI p)]) (rest := [.ref E.1.1]) ⟨hx, hb, hml, hown, hts⟩ (c_X3_isPavilion_y l D E tl y p hp) (va_cwS 1 hts gX3_setPavilion_X3_isPavilion rfl rfl rfl (by decide +kernel) ⟨Nat.le_of_ble_eq_true rfl, Nat.le_of_ble_eq_true rfl⟩) hK hP hD hS hA rfl hl.1 rfl (Nat.le_of_ble_eq_true rfl) dX3_setPavilion_2 ⟨Nat.le_of_ble_eq_true rfl, Nat.le_of_ble_eq_true rfl⟩ (fun r_3 u_2 H locs hw hP hD hS => ?_)
  obtain ⟨hr_3, hu_2⟩ := hw
  rw [hu_2] at hP hD
  refine q_top (x' := (nI 1)) hr_3 ?_
  refine lv_iload_n hx hb dX3_setPavilion_5 rfl (lv_at hl 2 rfl) ?_
  refine lv_iconst (v := nI 1) hx hb dX3_setPavilion_6 (by decide) ?_
  refine lv_icmp_lt (tgt := 31) hx hb dX3_setPavilion_7 (by decide) (fun c1 => ?_) (fun c1 => ?_)
  · refine lv_iconst (v := nI 0) hx hb dX3_setPavilion_31 (by decide) ?_
    refine g_calli (As := [.int (nI 1), .int (nI 0)]) (rest := []) ⟨hx, hb, hml, hown, hts⟩ (c_X3_goes l D E tl y (nI 1) (nI 0)) (cwV 2 hts gX3_setPavilion_X3_goes rfl rfl rfl (by decide +kernel) ⟨Nat.le_of_ble_eq_true rfl, Nat.le_of_ble_eq_true rfl⟩) (m_recv hK hP) hK hP hD hS hA rfl hl.1 rfl (Nat.le_of_ble_eq_true rfl) dX3_setPavilion_32 ⟨Nat.le_of_ble_eq_true rfl, Nat.le_of_ble_eq_true rfl⟩ (fun r_6 u_5 H locs hw hP hD hS => ?_)
    obtain ⟨hr_6, hu_5⟩ := hw
    rw [hu_5] at hP hD
    rw [show mGt (nI 1) (nI 0) = nI 2 from by decide] at hP hD
    refine q_top (x' := (nI 0)) (hr_6.trans (by decide)) ?_
    refine q_if_eq (tgt := 52) hx hb (by omega) dX3_setPavilion_35 (by decide) (fun c_7 => ?_) (fun c_7 => absurd c_7 (by decide))
    exact W.vret hx hb hr (fun t ht hW => ⟨⟨up2 y 18 0 (nI 2), rfl, rfl, by rw [ht]; exact hP, va_K.moved hW.alike hK, hD⟩, hS.F ht⟩) hS.2.2 dX3_setPavilion_52
  · refine lv_iload_n hx hb dX3_setPavilion_10 rfl (lv_at hl 2 rfl) ?_
    refine lv_bipush (v := nI 8) hx hb dX3_setPavilion_11 (by decide) ?_
    refine lv_icmp_gt (tgt := 31) hx hb dX3_setPavilion_13 (by decide) (fun c2 => ?_) (fun c2 => ?_)
    · refine lv_iconst (v := nI 0) hx hb dX3_setPavilion_31 (by decide) ?_
      refine g_calli (As := [.int (nI 1), .int (nI 0)]) (rest := []) ⟨hx, hb, hml, hown, hts⟩ (c_X3_goes l D E tl y (nI 1) (nI 0)) (cwV 2 hts gX3_setPavilion_X3_goes rfl rfl rfl (by decide +kernel) ⟨Nat.le_of_ble_eq_true rfl, Nat.le_of_ble_eq_true rfl⟩) (m_recv hK hP) hK hP hD hS hA rfl hl.1 rfl (Nat.le_of_ble_eq_true rfl) dX3_setPavilion_32 ⟨Nat.le_of_ble_eq_true rfl, Nat.le_of_ble_eq_true rfl⟩ (fun r_10 u_9 H locs hw hP hD hS => ?_)
      obtain ⟨hr_10, hu_9⟩ := hw
      rw [hu_9] at hP hD
      rw [show mGt (nI 1) (nI 0) = nI 2 from by decide] at hP hD
      refine q_top (x' := (nI 0)) (hr_10.trans (by decide)) ?_
      refine q_if_eq (tgt := 52) hx hb (by omega) dX3_setPavilion_35 (by decide) (fun c_11 => ?_) (fun c_11 => absurd c_11 (by decide))
      exact W.vret hx hb hr (fun t ht hW => ⟨⟨up2 y 18 0 (nI 2), rfl, rfl, by rw [ht]; exact hP, va_K.moved hW.alike hK, hD⟩, hS.F ht⟩) hS.2.2 dX3_setPavilion_52
    · refine lv_iload_n hx hb dX3_setPavilion_16 rfl (lv_at hl 3 rfl) ?_
      refine lv_iconst (v := nI 1) hx hb dX3_setPavilion_17 (by decide) ?_
      refine lv_icmp_lt (tgt := 31) hx hb dX3_setPavilion_18 (by decide) (fun c3 => ?_) (fun c3 => ?_)
      · refine lv_iconst (v := nI 0) hx hb dX3_setPavilion_31 (by decide) ?_
        refine g_calli (As := [.int (nI 1), .int (nI 0)]) (rest := []) ⟨hx, hb, hml, hown, hts⟩ (c_X3_goes l D E tl y (nI 1) (nI 0)) (cwV 2 hts gX3_setPavilion_X3_goes rfl rfl rfl (by decide +kernel) ⟨Nat.le_of_ble_eq_true rfl, Nat.le_of_ble_eq_true rfl⟩) (m_recv hK hP) hK hP hD hS hA rfl hl.1 rfl (Nat.le_of_ble_eq_true rfl) dX3_setPavilion_32 ⟨Nat.le_of_ble_eq_true rfl, Nat.le_of_ble_eq_true rfl⟩ (fun r_14 u_13 H locs hw hP hD hS => ?_)
        obtain ⟨hr_14, hu_13⟩ := hw
        rw [hu_13] at hP hD
        rw [show mGt (nI 1) (nI 0) = nI 2 from by decide] at hP hD
        refine q_top (x' := (nI 0)) (hr_14.trans (by decide)) ?_
        refine q_if_eq (tgt := 52) hx hb (by omega) dX3_setPavilion_35 (by decide) (fun c_15 => ?_) (fun c_15 => absurd c_15 (by decide))
        exact W.vret hx hb hr (fun t ht hW => ⟨⟨up2 y 18 0 (nI 2), rfl, rfl, by rw [ht]; exact hP, va_K.moved hW.alike hK, hD⟩, hS.F ht⟩) hS.2.2 dX3_setPavilion_52
      · refine lv_iload_n hx hb dX3_setPavilion_21 rfl (lv_at hl 3 rfl) ?_
        refine lv_bipush (v := nI 60) hx hb dX3_setPavilion_22 (by decide) ?_
        refine lv_icmp_gt (tgt := 31) hx hb dX3_setPavilion_24 (by decide) (fun c4 => ?_) (fun c4 => absurd ⟨c1, c2, c3, c4⟩ hok)
        refine lv_iconst (v := nI 0) hx hb dX3_setPavilion_31 (by decide) ?_
        refine g_calli (As := [.int (nI 1), .int (nI 0)]) (rest := []) ⟨hx, hb, hml, hown, hts⟩ (c_X3_goes l D E tl y (nI 1) (nI 0)) (cwV 2 hts gX3_setPavilion_X3_goes rfl rfl rfl (by decide +kernel) ⟨Nat.le_of_ble_eq_true rfl, Nat.le_of_ble_eq_true rfl⟩) (m_recv hK hP) hK hP hD hS hA rfl hl.1 rfl (Nat.le_of_ble_eq_true rfl) dX3_setPavilion_32 ⟨Nat.le_of_ble_eq_true rfl, Nat.le_of_ble_eq_true rfl⟩ (fun r_18 u_17 H locs hw hP hD hS => ?_)
        obtain ⟨hr_18, hu_17⟩ := hw
        rw [hu_17] at hP hD
        rw [show mGt (nI 1) (nI 0) = nI 2 from by decide] at hP hD
        refine q_top (x' := (nI 0)) (hr_18.trans (by decide)) ?_
        refine q_if_eq (tgt := 52) hx hb (by omega) dX3_setPavilion_35 (by decide) (fun c_19 => ?_) (fun c_19 => absurd c_19 (by decide))
        exact W.vret hx hb hr (fun t ht hW => ⟨⟨up2 y 18 0 (nI 2), rfl, rfl, by rw [ht]; exact hP, va_K.moved hW.alike hK, hD⟩, hS.F ht⟩) hS.2.2 dX3_setPavilion_52

set_option maxHeartbeats 4000000 in
set_option maxRecDepth 100000 in
theorem c_X3_setPavilion_n (l : Launch) (D : va_G) (E : mE) (tl : gTy) (y : Nat → Nat → Int32) (p a b : Int32) (hp : p < 0 ∨ nI 6 ≤ p)  : gV l yX3_setPavilion wsX3_setPavilion ({ frames := 1, cells := 0, slots := 0, locals := 22 } : Room) D (mT E tl) (mW E y) [.ref E.1.1, .int p, .int a, .int b] (fun u : Nat → Nat → Int32 => u = up2 y 18 0 (nI 1)) (mW E) 0 0 := by
  refine gM.start (cc := cX3_setPavilion) (maxL := 4) (ret := none) (own := RX3) rfl (by decide) rfl (Nat.le_of_ble_eq_true rfl) ?_
  intro pr e s m args below meth c A ls H locs hx hb hml hr hts hown hlocks hname hA hK hP hD hS hl
  replace hl : lv_has ls 4 [(0, .ref E.1.1), (1, .int p), (2, .int a), (3, .int b)] := hl
  refine lv_aload_n hx hb dX3_setPavilion_0 rfl (lv_at hl 0 rfl) ?_
  refine lv_iload_n hx hb dX3_setPavilion_1 rfl (lv_at hl 1 rfl) ?_
  refine g_scalli (As := [.int p]) (rest := [.ref E.1.1]) ⟨hx, hb, hml, hown, hts⟩ (c_X3_isPavilion_n l D E tl y p hp) (va_cwS 1 hts gX3_setPavilion_X3_isPavilion rfl rfl rfl (by decide +kernel) ⟨Nat.le_of_ble_eq_true rfl, Nat.le_of_ble_eq_true rfl⟩) hK hP hD hS hA rfl hl.1 rfl (Nat.le_of_ble_eq_true rfl) dX3_setPavilion_2 ⟨Nat.le_of_ble_eq_true rfl, Nat.le_of_ble_eq_true rfl⟩ (fun r_3 u_2 H locs hw hP hD hS => ?_)
  obtain ⟨hr_3, hu_2⟩ := hw
  rw [hu_2] at hP hD
  refine q_top (x' := (nI 0)) hr_3 ?_
  refine lv_iload_n hx hb dX3_setPavilion_5 rfl (lv_at hl 2 rfl) ?_
  refine lv_iconst (v := nI 1) hx hb dX3_setPavilion_6 (by decide) ?_
  refine lv_icmp_lt (tgt := 31) hx hb dX3_setPavilion_7 (by decide) (fun c1 => ?_) (fun c1 => ?_)
  · refine lv_iconst (v := nI 0) hx hb dX3_setPavilion_31 (by decide) ?_
    refine g_calli (As := [.int (nI 0), .int (nI 0)]) (rest := []) ⟨hx, hb, hml, hown, hts⟩ (c_X3_goes l D E tl y (nI 0) (nI 0)) (cwV 2 hts gX3_setPavilion_X3_goes rfl rfl rfl (by decide +kernel) ⟨Nat.le_of_ble_eq_true rfl, Nat.le_of_ble_eq_true rfl⟩) (m_recv hK hP) hK hP hD hS hA rfl hl.1 rfl (Nat.le_of_ble_eq_true rfl) dX3_setPavilion_32 ⟨Nat.le_of_ble_eq_true rfl, Nat.le_of_ble_eq_true rfl⟩ (fun r_6 u_5 H locs hw hP hD hS => ?_)
    obtain ⟨hr_6, hu_5⟩ := hw
    rw [hu_5] at hP hD
    rw [show mGt (nI 0) (nI 0) = nI 1 from by decide] at hP hD
    refine q_top (x' := (nI 0)) (hr_6.trans (by decide)) ?_
    refine q_if_eq (tgt := 52) hx hb (by omega) dX3_setPavilion_35 (by decide) (fun c_7 => ?_) (fun c_7 => absurd c_7 (by decide))
    exact W.vret hx hb hr (fun t ht hW => ⟨⟨up2 y 18 0 (nI 1), rfl, rfl, by rw [ht]; exact hP, va_K.moved hW.alike hK, hD⟩, hS.F ht⟩) hS.2.2 dX3_setPavilion_52
  · refine lv_iload_n hx hb dX3_setPavilion_10 rfl (lv_at hl 2 rfl) ?_
    refine lv_bipush (v := nI 8) hx hb dX3_setPavilion_11 (by decide) ?_
    refine lv_icmp_gt (tgt := 31) hx hb dX3_setPavilion_13 (by decide) (fun c2 => ?_) (fun c2 => ?_)
    · refine lv_iconst (v := nI 0) hx hb dX3_setPavilion_31 (by decide) ?_
      refine g_calli (As := [.int (nI 0), .int (nI 0)]) (rest := []) ⟨hx, hb, hml, hown, hts⟩ (c_X3_goes l D E tl y (nI 0) (nI 0)) (cwV 2 hts gX3_setPavilion_X3_goes rfl rfl rfl (by decide +kernel) ⟨Nat.le_of_ble_eq_true rfl, Nat.le_of_ble_eq_true rfl⟩) (m_recv hK hP) hK hP hD hS hA rfl hl.1 rfl (Nat.le_of_ble_eq_true rfl) dX3_setPavilion_32 ⟨Nat.le_of_ble_eq_true rfl, Nat.le_of_ble_eq_true rfl⟩ (fun r_10 u_9 H locs hw hP hD hS => ?_)
      obtain ⟨hr_10, hu_9⟩ := hw
      rw [hu_9] at hP hD
      rw [show mGt (nI 0) (nI 0) = nI 1 from by decide] at hP hD
      refine q_top (x' := (nI 0)) (hr_10.trans (by decide)) ?_
      refine q_if_eq (tgt := 52) hx hb (by omega) dX3_setPavilion_35 (by decide) (fun c_11 => ?_) (fun c_11 => absurd c_11 (by decide))
      exact W.vret hx hb hr (fun t ht hW => ⟨⟨up2 y 18 0 (nI 1), rfl, rfl, by rw [ht]; exact hP, va_K.moved hW.alike hK, hD⟩, hS.F ht⟩) hS.2.2 dX3_setPavilion_52
    · refine lv_iload_n hx hb dX3_setPavilion_16 rfl (lv_at hl 3 rfl) ?_
      refine lv_iconst (v := nI 1) hx hb dX3_setPavilion_17 (by decide) ?_
      refine lv_icmp_lt (tgt := 31) hx hb dX3_setPavilion_18 (by decide) (fun c3 => ?_) (fun c3 => ?_)
      · refine lv_iconst (v := nI 0) hx hb dX3_setPavilion_31 (by decide) ?_
        refine g_calli (As := [.int (nI 0), .int (nI 0)]) (rest := []) ⟨hx, hb, hml, hown, hts⟩ (c_X3_goes l D E tl y (nI 0) (nI 0)) (cwV 2 hts gX3_setPavilion_X3_goes rfl rfl rfl (by decide +kernel) ⟨Nat.le_of_ble_eq_true rfl, Nat.le_of_ble_eq_true rfl⟩) (m_recv hK hP) hK hP hD hS hA rfl hl.1 rfl (Nat.le_of_ble_eq_true rfl) dX3_setPavilion_32 ⟨Nat.le_of_ble_eq_true rfl, Nat.le_of_ble_eq_true rfl⟩ (fun r_14 u_13 H locs hw hP hD hS => ?_)
        obtain ⟨hr_14, hu_13⟩ := hw
        rw [hu_13] at hP hD
        rw [show mGt (nI 0) (nI 0) = nI 1 from by decide] at hP hD
        refine q_top (x' := (nI 0)) (hr_14.trans (by decide)) ?_
        refine q_if_eq (tgt := 52) hx hb (by omega) dX3_setPavilion_35 (by decide) (fun c_15 => ?_) (fun c_15 => absurd c_15 (by decide))
        exact W.vret hx hb hr (fun t ht hW => ⟨⟨up2 y 18 0 (nI 1), rfl, rfl, by rw [ht]; exact hP, va_K.moved hW.alike hK, hD⟩, hS.F ht⟩) hS.2.2 dX3_setPavilion_52
      · refine lv_iload_n hx hb dX3_setPavilion_21 rfl (lv_at hl 3 rfl) ?_
        refine lv_bipush (v := nI 60) hx hb dX3_setPavilion_22 (by decide) ?_
        refine lv_icmp_gt (tgt := 31) hx hb dX3_setPavilion_24 (by decide) (fun c4 => ?_) (fun c4 => ?_)
        · refine lv_iconst (v := nI 0) hx hb dX3_setPavilion_31 (by decide) ?_
          refine g_calli (As := [.int (nI 0), .int (nI 0)]) (rest := []) ⟨hx, hb, hml, hown, hts⟩ (c_X3_goes l D E tl y (nI 0) (nI 0)) (cwV 2 hts gX3_setPavilion_X3_goes rfl rfl rfl (by decide +kernel) ⟨Nat.le_of_ble_eq_true rfl, Nat.le_of_ble_eq_true rfl⟩) (m_recv hK hP) hK hP hD hS hA rfl hl.1 rfl (Nat.le_of_ble_eq_true rfl) dX3_setPavilion_32 ⟨Nat.le_of_ble_eq_true rfl, Nat.le_of_ble_eq_true rfl⟩ (fun r_18 u_17 H locs hw hP hD hS => ?_)
          obtain ⟨hr_18, hu_17⟩ := hw
          rw [hu_17] at hP hD
          rw [show mGt (nI 0) (nI 0) = nI 1 from by decide] at hP hD
          refine q_top (x' := (nI 0)) (hr_18.trans (by decide)) ?_
          refine q_if_eq (tgt := 52) hx hb (by omega) dX3_setPavilion_35 (by decide) (fun c_19 => ?_) (fun c_19 => absurd c_19 (by decide))
          exact W.vret hx hb hr (fun t ht hW => ⟨⟨up2 y 18 0 (nI 1), rfl, rfl, by rw [ht]; exact hP, va_K.moved hW.alike hK, hD⟩, hS.F ht⟩) hS.2.2 dX3_setPavilion_52
        · refine lv_iconst (v := nI 1) hx hb dX3_setPavilion_27 (by decide) ?_
          refine lv_goto (tgt := 32) hx hb dX3_setPavilion_28 (by decide) ?_
          refine g_calli (As := [.int (nI 0), .int (nI 1)]) (rest := []) ⟨hx, hb, hml, hown, hts⟩ (c_X3_goes l D E tl y (nI 0) (nI 1)) (cwV 2 hts gX3_setPavilion_X3_goes rfl rfl rfl (by decide +kernel) ⟨Nat.le_of_ble_eq_true rfl, Nat.le_of_ble_eq_true rfl⟩) (m_recv hK hP) hK hP hD hS hA rfl hl.1 rfl (Nat.le_of_ble_eq_true rfl) dX3_setPavilion_32 ⟨Nat.le_of_ble_eq_true rfl, Nat.le_of_ble_eq_true rfl⟩ (fun r_22 u_21 H locs hw hP hD hS => ?_)
          obtain ⟨hr_22, hu_21⟩ := hw
          rw [hu_21] at hP hD
          rw [show mGt (nI 0) (nI 1) = nI 1 from by decide] at hP hD
          refine q_top (x' := (nI 0)) (hr_22.trans (by decide)) ?_
          refine q_if_eq (tgt := 52) hx hb (by omega) dX3_setPavilion_35 (by decide) (fun c_23 => ?_) (fun c_23 => absurd c_23 (by decide))
          exact W.vret hx hb hr (fun t ht hW => ⟨⟨up2 y 18 0 (nI 1), rfl, rfl, by rw [ht]; exact hP, va_K.moved hW.alike hK, hD⟩, hS.F ht⟩) hS.2.2 dX3_setPavilion_52

set_option maxHeartbeats 4000000 in
set_option maxRecDepth 100000 in
theorem c_X3_open_o (l : Launch) (D : va_G) (E : mE) (tl : gTy) (y : Nat → Nat → Int32) (p : Nat) (hp : p < 6)  : gI l yX3_open wsX3_open ({ frames := 1, cells := 0, slots := 0, locals := 22 } : Room) D (mT E tl) (mW E y) [.ref E.1.1, .int (nI p), .int (nI 1)] (fun (r : Int32) (u : Nat → Nat → Int32) => r = nI 0 ∧ u = up2 (up2 y 18 0 (nI 0)) 3 p (nI 0)) (mW E) 0 0 := by
  refine gM.start (cc := cX3_open) (maxL := 5) (ret := (some .int)) (own := RX3) rfl (by decide) rfl (Nat.le_of_ble_eq_true rfl) ?_
  intro pr e s m args below meth c A ls H locs hx hb hml hr hts hown hlocks hname hA hK hP hD hS hl
  replace hl : lv_has ls 5 [(0, .ref E.1.1), (1, .int (nI p)), (2, .int (nI 1))] := hl
  have hin : ∀ w ∈ wsX30, w ∈ wsX3_open := by decide +kernel
  have k16 := hts (.fieldLink RX3 16 "FairFolioModel" "isClosed" "[Z") (by decide +kernel)
  refine lv_aload_n hx hb dX3_open_0 rfl (lv_at hl 0 rfl) ?_
  refine lv_iload_n hx hb dX3_open_1 rfl (lv_at hl 1 rfl) ?_
  refine g_scalli (As := [.int (nI p)]) (rest := [.ref E.1.1]) ⟨hx, hb, hml, hown, hts⟩ (c_X3_isPavilion_y l D E tl y p hp) (va_cwS 1 hts gX3_open_X3_isPavilion rfl rfl rfl (by decide +kernel) ⟨Nat.le_of_ble_eq_true rfl, Nat.le_of_ble_eq_true rfl⟩) hK hP hD hS hA rfl hl.1 rfl (Nat.le_of_ble_eq_true rfl) dX3_open_2 ⟨Nat.le_of_ble_eq_true rfl, Nat.le_of_ble_eq_true rfl⟩ (fun r_3 u_2 H locs hw hP hD hS => ?_)
  obtain ⟨hr_3, hu_2⟩ := hw
  rw [hu_2] at hP hD
  refine q_top (x' := (nI 1)) hr_3 ?_
  refine lv_iconst (v := nI 1) hx hb dX3_open_5 (by decide) ?_
  refine g_calli (As := [.int (nI 1), .int (nI 1)]) (rest := []) ⟨hx, hb, hml, hown, hts⟩ (c_X3_goes l D E tl y (nI 1) (nI 1)) (cwV 2 hts gX3_open_X3_goes rfl rfl rfl (by decide +kernel) ⟨Nat.le_of_ble_eq_true rfl, Nat.le_of_ble_eq_true rfl⟩) (m_recv hK hP) hK hP hD hS hA rfl hl.1 rfl (Nat.le_of_ble_eq_true rfl) dX3_open_6 ⟨Nat.le_of_ble_eq_true rfl, Nat.le_of_ble_eq_true rfl⟩ (fun r_6 u_5 H locs hw hP hD hS => ?_)
  obtain ⟨hr_6, hu_5⟩ := hw
  rw [hu_5] at hP hD
  rw [show mGt (nI 1) (nI 1) = nI 0 from by decide] at hP hD
  refine q_top (x' := (nI 1)) (hr_6.trans (by decide)) ?_
  refine q_if_ne (tgt := 14) hx hb (by omega) dX3_open_9 (by decide) (fun c_7 => ?_) (fun c_7 => absurd c_7 (by decide))
  refine lv_iconst (v := nI 0) hx hb dX3_open_14 (by decide) ?_
  refine lv_istore_n (lv' := [(3, .int (nI 0)), (0, .ref E.1.1), (1, .int (nI p)), (2, .int (nI 1))]) hx hb dX3_open_15 rfl hl (by decide) rfl (fun ls hl => ?_)
  refine lv_aload_n hx hb dX3_open_16 rfl (lv_at hl 1 rfl) ?_
  refine m_get hx hb hts hin hown hK hP 3 (by decide) k16 rfl rfl dX3_open_17 ?_
  refine lv_iload_n hx hb dX3_open_20 rfl (lv_at hl 2 rfl) ?_
  refine lv_iload_n hx hb dX3_open_21 rfl (lv_at hl 3 rfl) ?_
  refine q_if_ne (tgt := 29) hx hb (by omega) dX3_open_22 (by decide) (fun c_8 => ?_) (fun c_8 => absurd c_8 (by decide))
  refine lv_iconst (v := nI 0) hx hb dX3_open_29 (by decide) ?_
  refine q_zst hx hb hK hP hD hS 3 1 rfl rfl p rfl (by omega) (by decide) (Or.inl rfl) dX3_open_30 (fun H locs hP hD hS => ?_)
  replace hP : va_P D vwCl (mW E (up2 (up2 y 18 0 (nI 0)) 3 p (nI 0))) H := hP
  replace hD : va_D A (mW E (up2 (up2 y 18 0 (nI 0)) 3 p (nI 0))) := hD
  refine lv_iload_n hx hb dX3_open_31 rfl (lv_at hl 3 rfl) ?_
  refine q_if_ne (tgt := 83) hx hb (by omega) dX3_open_32 (by decide) (fun c_9 => ?_) (fun c_9 => absurd c_9 (by decide))
  refine lv_iload_n hx hb dX3_open_83 rfl (lv_at hl 0 rfl) ?_
  exact W.iret hx hb hr (fun t ht hW => ⟨⟨_, up2 (up2 y 18 0 (nI 0)) 3 p (nI 0), rfl, ⟨rfl, rfl⟩, by rw [ht]; exact hP, va_K.moved hW.alike hK, hD⟩, hS.F ht⟩) hS.2.2 dX3_open_84

set_option maxHeartbeats 4000000 in
set_option maxRecDepth 100000 in
theorem c_X3_open_c (l : Launch) (D : va_G) (E : mE) (tl : gTy) (y : Nat → Nat → Int32) (p : Nat) (hp : p < 6) (n0 : Nat) (y1 : Nat → Nat → Int32) (hdr : mDrain p n0 (up2 (up2 y 18 0 (nI 0)) 3 p (nI 1)) y1)  : gI l yX3_open wsX3_open ({ frames := 2, cells := 0, slots := 0, locals := 48 } : Room) D (mT E tl) (mW E y) [.ref E.1.1, .int (nI p), .int (nI 0)] (fun (r : Int32) (u : Nat → Nat → Int32) => r = nI n0 ∧ u = y1) (mW E) 0 0 := by
  refine gM.start (cc := cX3_open) (maxL := 5) (ret := (some .int)) (own := RX3) rfl (by decide) rfl (Nat.le_of_ble_eq_true rfl) ?_
  intro pr e s m args below meth c A ls H locs hx hb hml hr hts hown hlocks hname hA hK hP hD hS hl
  replace hl : lv_has ls 5 [(0, .ref E.1.1), (1, .int (nI p)), (2, .int (nI 0))] := hl
  have hin : ∀ w ∈ wsX30, w ∈ wsX3_open := by decide +kernel
  have k16 := hts (.fieldLink RX3 16 "FairFolioModel" "isClosed" "[Z") (by decide +kernel)
  have k23 := hts (.fieldLink RX3 23 "FairFolioModel" "waiting" "[I") (by decide +kernel)
  have k20 := hts (.fieldLink RX3 20 "FairFolioModel" "queue" "[I") (by decide +kernel)
  have k50 := hts (.fieldLink RX3 50 "FairFolioModel" "isByTurn" "[Z") (by decide +kernel)
  refine lv_aload_n hx hb dX3_open_0 rfl (lv_at hl 0 rfl) ?_
  refine lv_iload_n hx hb dX3_open_1 rfl (lv_at hl 1 rfl) ?_
  refine g_scalli (As := [.int (nI p)]) (rest := [.ref E.1.1]) ⟨hx, hb, hml, hown, hts⟩ (c_X3_isPavilion_y l D E tl y p hp) (va_cwS 1 hts gX3_open_X3_isPavilion rfl rfl rfl (by decide +kernel) ⟨Nat.le_of_ble_eq_true rfl, Nat.le_of_ble_eq_true rfl⟩) hK hP hD hS hA rfl hl.1 rfl (Nat.le_of_ble_eq_true rfl) dX3_open_2 ⟨Nat.le_of_ble_eq_true rfl, Nat.le_of_ble_eq_true rfl⟩ (fun r_3 u_2 H locs hw hP hD hS => ?_)
  obtain ⟨hr_3, hu_2⟩ := hw
  rw [hu_2] at hP hD
  refine q_top (x' := (nI 1)) hr_3 ?_
  refine lv_iconst (v := nI 1) hx hb dX3_open_5 (by decide) ?_
  refine g_calli (As := [.int (nI 1), .int (nI 1)]) (rest := []) ⟨hx, hb, hml, hown, hts⟩ (c_X3_goes l D E tl y (nI 1) (nI 1)) (cwV 2 hts gX3_open_X3_goes rfl rfl rfl (by decide +kernel) ⟨Nat.le_of_ble_eq_true rfl, Nat.le_of_ble_eq_true rfl⟩) (m_recv hK hP) hK hP hD hS hA rfl hl.1 rfl (Nat.le_of_ble_eq_true rfl) dX3_open_6 ⟨Nat.le_of_ble_eq_true rfl, Nat.le_of_ble_eq_true rfl⟩ (fun r_6 u_5 H locs hw hP hD hS => ?_)
  obtain ⟨hr_6, hu_5⟩ := hw
  rw [hu_5] at hP hD
  rw [show mGt (nI 1) (nI 1) = nI 0 from by decide] at hP hD
  refine q_top (x' := (nI 1)) (hr_6.trans (by decide)) ?_
  refine q_if_ne (tgt := 14) hx hb (by omega) dX3_open_9 (by decide) (fun c_7 => ?_) (fun c_7 => absurd c_7 (by decide))
  refine lv_iconst (v := nI 0) hx hb dX3_open_14 (by decide) ?_
  refine lv_istore_n (lv' := [(3, .int (nI 0)), (0, .ref E.1.1), (1, .int (nI p)), (2, .int (nI 0))]) hx hb dX3_open_15 rfl hl (by decide) rfl (fun ls hl => ?_)
  refine lv_aload_n hx hb dX3_open_16 rfl (lv_at hl 1 rfl) ?_
  refine m_get hx hb hts hin hown hK hP 3 (by decide) k16 rfl rfl dX3_open_17 ?_
  refine lv_iload_n hx hb dX3_open_20 rfl (lv_at hl 2 rfl) ?_
  refine lv_iload_n hx hb dX3_open_21 rfl (lv_at hl 3 rfl) ?_
  refine q_if_ne (tgt := 29) hx hb (by omega) dX3_open_22 (by decide) (fun c_8 => absurd c_8 (by decide)) (fun c_8 => ?_)
  refine lv_iconst (v := nI 1) hx hb dX3_open_25 (by decide) ?_
  refine lv_goto (tgt := 30) hx hb dX3_open_26 (by decide) ?_
  refine q_zst hx hb hK hP hD hS 3 1 rfl rfl p rfl (by omega) (by decide) (Or.inr rfl) dX3_open_30 (fun H locs hP hD hS => ?_)
  replace hP : va_P D vwCl (mW E (up2 (up2 y 18 0 (nI 0)) 3 p (nI 1))) H := hP
  replace hD : va_D A (mW E (up2 (up2 y 18 0 (nI 0)) 3 p (nI 1))) := hD
  generalize up2 (up2 y 18 0 (nI 0)) 3 p (nI 1) = z at hP hD hdr
  obtain ⟨k, hk⟩ : ∃ k : Nat, k = 0 := ⟨_, rfl⟩
  obtain ⟨nn, hnn⟩ : ∃ nn : Nat, nn = n0 := ⟨_, rfl⟩
  replace hl : lv_has ls 5 [(3, .int (nI k)), (0, .ref E.1.1), (1, .int (nI p)), (2, .int (nI 0))] := by rw [hk]; exact hl
  have hkn : k + nn = n0 := by omega
  rw [← hnn] at hdr
  clear hk hnn
  induction nn generalizing k z H locs ls with
  | zero =>
    obtain ⟨h5, rfl⟩ := hdr
    obtain rfl : k = n0 := by omega
    refine lv_iload_n hx hb dX3_open_31 rfl (lv_at hl 3 rfl) ?_
    refine q_if_ne (tgt := 83) hx hb (by omega) dX3_open_32 (by decide) (fun c_9 => absurd c_9 (by decide)) (fun c_9 => ?_)
    refine lv_aload_n hx hb dX3_open_35 rfl (lv_at hl 1 rfl) ?_
    refine m_get hx hb hts hin hown hK hP 5 (by decide) k23 rfl rfl dX3_open_36 ?_
    refine lv_iload_n hx hb dX3_open_39 rfl (lv_at hl 2 rfl) ?_
    refine q_ild hx hb hK hP 5 0 rfl rfl p rfl (by omega) (by decide) dX3_open_40 ?_
    refine q_top (x' := (nI 0)) h5 ?_
    refine q_if_le (tgt := 83) hx hb (by omega) dX3_open_41 (by decide) (fun c9 => ?_) (fun c9 => absurd c9 (by omega))
    refine lv_iload_n hx hb dX3_open_83 rfl (lv_at hl 0 rfl) ?_
    exact W.iret hx hb hr (fun t ht hW => ⟨⟨_, y1, rfl, ⟨rfl, rfl⟩, by rw [ht]; exact hP, va_K.moved hW.alike hK, hD⟩, hS.F ht⟩) hS.2.2 dX3_open_84
  | succ nn ih =>
    obtain ⟨h5, h8, v, y2, hv, hq, ⟨y3, ⟨p1, w1, a1, g1, g2, g3, g4, g5, g6, g7, rfl⟩, hof⟩, hdr⟩ := hdr
    refine lv_iload_n hx hb dX3_open_31 rfl (lv_at hl 3 rfl) ?_
    refine q_if_ne (tgt := 83) hx hb (by omega) dX3_open_32 (by decide) (fun c_10 => absurd c_10 (by decide)) (fun c_10 => ?_)
    refine lv_aload_n hx hb dX3_open_35 rfl (lv_at hl 1 rfl) ?_
    refine m_get hx hb hts hin hown hK hP 5 (by decide) k23 rfl rfl dX3_open_36 ?_
    refine lv_iload_n hx hb dX3_open_39 rfl (lv_at hl 2 rfl) ?_
    refine q_ild hx hb hK hP 5 0 rfl rfl p rfl (by omega) (by decide) dX3_open_40 ?_
    refine q_top (x' := (nI (nn + 1))) h5 ?_
    refine q_if_le (tgt := 83) hx hb (by omega) dX3_open_41 (by decide) (fun c8 => absurd c8 (by omega)) (fun c8 => ?_)
    refine lv_aload_n hx hb dX3_open_44 rfl (lv_at hl 1 rfl) ?_
    refine m_get hx hb hts hin hown hK hP 4 (by decide) k20 rfl rfl dX3_open_45 ?_
    refine lv_bipush (v := nI 8) hx hb dX3_open_48 (by decide) ?_
    refine lv_iload_n hx hb dX3_open_50 rfl (lv_at hl 2 rfl) ?_
    refine q_mul hx hb dX3_open_51 ?_
    refine q_ild hx hb hK hP 4 0 rfl rfl (8 * p) rfl (by omega) (by decide) dX3_open_52 ?_
    refine q_top (x' := (nI v)) hq ?_
    refine lv_istore (lv' := [(4, .int (nI v)), (3, .int (nI k)), (0, .ref E.1.1), (1, .int (nI p)), (2, .int (nI 0))]) hx hb dX3_open_53 hl (by decide) rfl (fun ls hl => ?_)
    refine lv_aload_n hx hb dX3_open_55 rfl (lv_at hl 2 rfl) ?_
    refine lv_iload hx hb dX3_open_56 (lv_at hl 0 rfl) ?_
    refine g_callv (As := [.int (nI v)]) (rest := []) ⟨hx, hb, hml, hown, hts⟩ (c_X3_leaves l D E tl z v p1 w1 a1 hv g1 g2 g3 g4 g5 g6 g7) (cwV 1 hts gX3_open_X3_leaves rfl rfl rfl (by decide +kernel) ⟨Nat.le_of_ble_eq_true rfl, Nat.le_of_ble_eq_true rfl⟩) (m_recv hK hP) hK hP hD hS hA rfl hl.1 rfl (Nat.le_of_ble_eq_true rfl) dX3_open_58 ⟨Nat.le_of_ble_eq_true rfl, Nat.le_of_ble_eq_true rfl⟩ (fun u_12 H locs hw hP hD hS => ?_)
    rw [hw] at hP hD
    rcases hof with ⟨g8, rfl⟩ | ⟨g8, rfl⟩
    · refine lv_aload_n hx hb dX3_open_61 rfl (lv_at hl 2 rfl) ?_
      refine m_get hx hb hts hin hown hK hP 14 (by decide) k50 rfl rfl dX3_open_62 ?_
      refine lv_iload hx hb dX3_open_65 (lv_at hl 0 rfl) ?_
      refine q_zld hx hb hK hP 14 1 rfl rfl v rfl (by omega) (by decide) dX3_open_67 ?_
      refine q_top (x' := (nI 0)) g8 ?_
      refine q_if_eq (tgt := 77) hx hb (by omega) dX3_open_68 (by decide) (fun c_14 => ?_) (fun c_14 => absurd c_14 (by decide))
      refine q_inc (k := 1) (lv' := [(3, .int (nI (k + 1))), (4, .int (nI v)), (0, .ref E.1.1), (1, .int (nI p)), (2, .int (nI 0))]) hx hb dX3_open_77 hl rfl (by decide) rfl (fun ls hl => ?_)
      refine lv_goto (tgt := 31) hx hb dX3_open_80 (by decide) ?_
      replace hl : lv_has ls 5 [(3, .int (nI (k + 1))), (0, .ref E.1.1), (1, .int (nI p)), (2, .int (nI 0))] := lv_sub hl [0, 2, 3, 4] rfl
      apply ih (k := k + 1) (H := H) (locs := locs) (ls := ls)
      all_goals first | omega | assumption
    · refine lv_aload_n hx hb dX3_open_61 rfl (lv_at hl 2 rfl) ?_
      refine m_get hx hb hts hin hown hK hP 14 (by decide) k50 rfl rfl dX3_open_62 ?_
      refine lv_iload hx hb dX3_open_65 (lv_at hl 0 rfl) ?_
      refine q_zld hx hb hK hP 14 1 rfl rfl v rfl (by omega) (by decide) dX3_open_67 ?_
      refine q_top (x' := (nI 1)) g8 ?_
      refine q_if_eq (tgt := 77) hx hb (by omega) dX3_open_68 (by decide) (fun c_15 => absurd c_15 (by decide)) (fun c_15 => ?_)
      refine lv_aload_n hx hb dX3_open_71 rfl (lv_at hl 2 rfl) ?_
      refine lv_iload hx hb dX3_open_72 (lv_at hl 0 rfl) ?_
      refine g_callv (As := [.int (nI v)]) (rest := []) ⟨hx, hb, hml, hown, hts⟩ (c_X3_loses l D E tl (mLeave z v p1 w1 a1) v hv) (cwV 1 hts gX3_open_X3_loses rfl rfl rfl (by decide +kernel) ⟨Nat.le_of_ble_eq_true rfl, Nat.le_of_ble_eq_true rfl⟩) (m_recv hK hP) hK hP hD hS hA rfl hl.1 rfl (Nat.le_of_ble_eq_true rfl) dX3_open_74 ⟨Nat.le_of_ble_eq_true rfl, Nat.le_of_ble_eq_true rfl⟩ (fun u_17 H locs hw hP hD hS => ?_)
      rw [hw] at hP hD
      refine q_inc (k := 1) (lv' := [(3, .int (nI (k + 1))), (4, .int (nI v)), (0, .ref E.1.1), (1, .int (nI p)), (2, .int (nI 0))]) hx hb dX3_open_77 hl rfl (by decide) rfl (fun ls hl => ?_)
      refine lv_goto (tgt := 31) hx hb dX3_open_80 (by decide) ?_
      replace hl : lv_has ls 5 [(3, .int (nI (k + 1))), (0, .ref E.1.1), (1, .int (nI p)), (2, .int (nI 0))] := lv_sub hl [0, 2, 3, 4] rfl
      apply ih (k := k + 1) (H := H) (locs := locs) (ls := ls)
      all_goals first | omega | assumption

set_option maxHeartbeats 4000000 in
set_option maxRecDepth 100000 in
theorem c_X3_open_n (l : Launch) (D : va_G) (E : mE) (tl : gTy) (y : Nat → Nat → Int32) (p : Int32) (b : Nat) (hp : p < 0 ∨ nI 6 ≤ p)  : gI l yX3_open wsX3_open ({ frames := 2, cells := 0, slots := 0, locals := 48 } : Room) D (mT E tl) (mW E y) [.ref E.1.1, .int p, .int (nI b)] (fun (r : Int32) (u : Nat → Nat → Int32) => u = up2 y 18 0 (nI 1)) (mW E) 0 0 := by
  refine gM.start (cc := cX3_open) (maxL := 5) (ret := (some .int)) (own := RX3) rfl (by decide) rfl (Nat.le_of_ble_eq_true rfl) ?_
  intro pr e s m args below meth c A ls H locs hx hb hml hr hts hown hlocks hname hA hK hP hD hS hl
  replace hl : lv_has ls 5 [(0, .ref E.1.1), (1, .int p), (2, .int (nI b))] := hl
  refine lv_aload_n hx hb dX3_open_0 rfl (lv_at hl 0 rfl) ?_
  refine lv_iload_n hx hb dX3_open_1 rfl (lv_at hl 1 rfl) ?_
  refine g_scalli (As := [.int p]) (rest := [.ref E.1.1]) ⟨hx, hb, hml, hown, hts⟩ (c_X3_isPavilion_n l D E tl y p hp) (va_cwS 1 hts gX3_open_X3_isPavilion rfl rfl rfl (by decide +kernel) ⟨Nat.le_of_ble_eq_true rfl, Nat.le_of_ble_eq_true rfl⟩) hK hP hD hS hA rfl hl.1 rfl (Nat.le_of_ble_eq_true rfl) dX3_open_2 ⟨Nat.le_of_ble_eq_true rfl, Nat.le_of_ble_eq_true rfl⟩ (fun r_3 u_2 H locs hw hP hD hS => ?_)
  obtain ⟨hr_3, hu_2⟩ := hw
  rw [hu_2] at hP hD
  refine q_top (x' := (nI 0)) hr_3 ?_
  refine lv_iconst (v := nI 1) hx hb dX3_open_5 (by decide) ?_
  refine g_calli (As := [.int (nI 0), .int (nI 1)]) (rest := []) ⟨hx, hb, hml, hown, hts⟩ (c_X3_goes l D E tl y (nI 0) (nI 1)) (cwV 2 hts gX3_open_X3_goes rfl rfl rfl (by decide +kernel) ⟨Nat.le_of_ble_eq_true rfl, Nat.le_of_ble_eq_true rfl⟩) (m_recv hK hP) hK hP hD hS hA rfl hl.1 rfl (Nat.le_of_ble_eq_true rfl) dX3_open_6 ⟨Nat.le_of_ble_eq_true rfl, Nat.le_of_ble_eq_true rfl⟩ (fun r_6 u_5 H locs hw hP hD hS => ?_)
  obtain ⟨hr_6, hu_5⟩ := hw
  rw [hu_5] at hP hD
  rw [show mGt (nI 0) (nI 1) = nI 1 from by decide] at hP hD
  refine q_top (x' := (nI 0)) (hr_6.trans (by decide)) ?_
  refine q_if_ne (tgt := 14) hx hb (by omega) dX3_open_9 (by decide) (fun c_7 => absurd c_7 (by decide)) (fun c_7 => ?_)
  refine lv_iconst (v := nI 0) hx hb dX3_open_12 (by decide) ?_
  exact W.iret hx hb hr (fun t ht hW => ⟨⟨_, up2 y 18 0 (nI 1), rfl, rfl, by rw [ht]; exact hP, va_K.moved hW.alike hK, hD⟩, hS.F ht⟩) hS.2.2 dX3_open_13
