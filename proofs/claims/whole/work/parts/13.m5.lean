set_option maxHeartbeats 4000000 in
set_option maxRecDepth 100000 in
theorem c_X3_send_b (l : Launch) (D : va_G) (E : mE) (tl : gTy) (y : Nat → Nat → Int32) (v p : Nat) (hv : v < 8) (hp : p < 6) (hbit : ¬ (y 11 v >>> (nI p &&& 31)) &&& nI 1 = nI 1)  : gI l yX3_send wsX3_send ({ frames := 1, cells := 0, slots := 0, locals := 22 } : Room) D (mT E tl) (mW E y) [.ref E.1.1, .int (nI v), .int (nI p)] (fun (r : Int32) (u : Nat → Nat → Int32) => u = up2 y 18 0 (nI 2)) (mW E) 0 0 := by
  refine gM.start (cc := cX3_send) (maxL := 4) (ret := (some .boolean)) (own := RX3) rfl (by decide) rfl (Nat.le_of_ble_eq_true rfl) ?_
  intro pr e s m args below meth c A ls H locs hx hb hml hr hts hown hlocks hname hA hK hP hD hS hl
  replace hl : lv_has ls 4 [(0, .ref E.1.1), (1, .int (nI v)), (2, .int (nI p))] := hl
  have hin : ∀ w ∈ wsX30, w ∈ wsX3_send := by decide +kernel
  have k41 := hts (.fieldLink RX3 41 "FairFolioModel" "stamps" "[I") (by decide +kernel)
  refine lv_iload_n hx hb dX3_send_0 rfl (lv_at hl 1 rfl) ?_
  refine g_scalli (As := [.int (nI v)]) (rest := []) ⟨hx, hb, hml, hown, hts⟩ (c_X3_isVisitor_y l D E tl y v hv) (va_cwS 1 hts gX3_send_X3_isVisitor rfl rfl rfl (by decide +kernel) ⟨Nat.le_of_ble_eq_true rfl, Nat.le_of_ble_eq_true rfl⟩) hK hP hD hS hA rfl hl.1 rfl (Nat.le_of_ble_eq_true rfl) dX3_send_1 ⟨Nat.le_of_ble_eq_true rfl, Nat.le_of_ble_eq_true rfl⟩ (fun r_3 u_2 H locs hw hP hD hS => ?_)
  obtain ⟨hr_3, hu_2⟩ := hw
  rw [hu_2] at hP hD
  refine q_top (x' := (nI 1)) hr_3 ?_
  refine q_if_eq (tgt := 18) hx hb (by omega) dX3_send_4 (by decide) (fun c_4 => absurd c_4 (by decide)) (fun c_4 => ?_)
  refine lv_iload_n hx hb dX3_send_7 rfl (lv_at hl 2 rfl) ?_
  refine g_scalli (As := [.int (nI p)]) (rest := []) ⟨hx, hb, hml, hown, hts⟩ (c_X3_isPavilion_y l D E tl y p hp) (va_cwS 1 hts gX3_send_X3_isPavilion rfl rfl rfl (by decide +kernel) ⟨Nat.le_of_ble_eq_true rfl, Nat.le_of_ble_eq_true rfl⟩) hK hP hD hS hA rfl hl.1 rfl (Nat.le_of_ble_eq_true rfl) dX3_send_8 ⟨Nat.le_of_ble_eq_true rfl, Nat.le_of_ble_eq_true rfl⟩ (fun r_7 u_6 H locs hw hP hD hS => ?_)
  obtain ⟨hr_7, hu_6⟩ := hw
  rw [hu_6] at hP hD
  refine q_top (x' := (nI 1)) hr_7 ?_
  refine q_if_eq (tgt := 18) hx hb (by omega) dX3_send_11 (by decide) (fun c_8 => absurd c_8 (by decide)) (fun c_8 => ?_)
  refine lv_iconst (v := nI 1) hx hb dX3_send_14 (by decide) ?_
  refine lv_goto (tgt := 19) hx hb dX3_send_15 (by decide) ?_
  refine lv_istore_n (lv' := [(3, .int (nI 1)), (0, .ref E.1.1), (1, .int (nI v)), (2, .int (nI p))]) hx hb dX3_send_19 rfl hl (by decide) rfl (fun ls hl => ?_)
  refine lv_aload_n hx hb dX3_send_20 rfl (lv_at hl 1 rfl) ?_
  refine lv_iload_n hx hb dX3_send_21 rfl (lv_at hl 0 rfl) ?_
  refine lv_iload_n hx hb dX3_send_22 rfl (lv_at hl 0 rfl) ?_
  refine q_if_eq (tgt := 44) hx hb (by omega) dX3_send_23 (by decide) (fun c_9 => absurd c_9 (by decide)) (fun c_9 => ?_)
  refine lv_aload_n hx hb dX3_send_26 rfl (lv_at hl 1 rfl) ?_
  refine m_get hx hb hts hin hown hK hP 11 (by decide) k41 rfl rfl dX3_send_27 ?_
  refine lv_iload_n hx hb dX3_send_30 rfl (lv_at hl 2 rfl) ?_
  refine q_ild hx hb hK hP 11 0 rfl rfl v rfl (by omega) (by decide) dX3_send_31 ?_
  refine lv_iload_n hx hb dX3_send_32 rfl (lv_at hl 3 rfl) ?_
  refine lv_ishr hx hb dX3_send_33 ?_
  refine lv_iconst (v := nI 1) hx hb dX3_send_34 (by decide) ?_
  refine lv_iand hx hb dX3_send_35 ?_
  refine lv_iconst (v := nI 1) hx hb dX3_send_36 (by decide) ?_
  refine lv_icmp_ne (tgt := 44) hx hb dX3_send_37 (by decide) (fun c7 => ?_) (fun c7 => absurd c7 hbit)
  refine lv_iconst (v := nI 0) hx hb dX3_send_44 (by decide) ?_
  refine g_calli (As := [.int (nI 1), .int (nI 0)]) (rest := []) ⟨hx, hb, hml, hown, hts⟩ (c_X3_goes l D E tl y (nI 1) (nI 0)) (cwV 2 hts gX3_send_X3_goes rfl rfl rfl (by decide +kernel) ⟨Nat.le_of_ble_eq_true rfl, Nat.le_of_ble_eq_true rfl⟩) (m_recv hK hP) hK hP hD hS hA rfl hl.1 rfl (Nat.le_of_ble_eq_true rfl) dX3_send_45 ⟨Nat.le_of_ble_eq_true rfl, Nat.le_of_ble_eq_true rfl⟩ (fun r_12 u_11 H locs hw hP hD hS => ?_)
  obtain ⟨hr_12, hu_11⟩ := hw
  rw [hu_11] at hP hD
  rw [show mGt (nI 1) (nI 0) = nI 2 from by decide] at hP hD
  refine q_top (x' := (nI 0)) (hr_12.trans (by decide)) ?_
  refine q_if_ne (tgt := 53) hx hb (by omega) dX3_send_48 (by decide) (fun c_13 => absurd c_13 (by decide)) (fun c_13 => ?_)
  refine lv_iconst (v := nI 0) hx hb dX3_send_51 (by decide) ?_
  exact W.zret (ty := .boolean) hx hb hr (by decide) (fun t ht hW => ⟨⟨_, up2 y 18 0 (nI 2), rfl, rfl, by rw [ht]; exact hP, va_K.moved hW.alike hK, hD⟩, hS.F ht⟩) hS.2.2 dX3_send_52

set_option maxHeartbeats 4000000 in
set_option maxRecDepth 100000 in
theorem c_X3_send_e (l : Launch) (D : va_G) (E : mE) (tl : gTy) (y : Nat → Nat → Int32) (v p : Nat) (hv : v < 8) (hp : p < 6) (hbit : (y 11 v >>> (nI p &&& 31)) &&& nI 1 = nI 1) (h0 : y 15 p = nI 0)  : gI l yX3_send wsX3_send ({ frames := 1, cells := 0, slots := 0, locals := 22 } : Room) D (mT E tl) (mW E y) [.ref E.1.1, .int (nI v), .int (nI p)] (fun (r : Int32) (u : Nat → Nat → Int32) => r = nI 0 ∧ u = up2 (up2 y 18 0 (nI 0)) 16 p (y 16 p + nI 1)) (mW E) 0 0 := by
  refine gM.start (cc := cX3_send) (maxL := 4) (ret := (some .boolean)) (own := RX3) rfl (by decide) rfl (Nat.le_of_ble_eq_true rfl) ?_
  intro pr e s m args below meth c A ls H locs hx hb hml hr hts hown hlocks hname hA hK hP hD hS hl
  replace hl : lv_has ls 4 [(0, .ref E.1.1), (1, .int (nI v)), (2, .int (nI p))] := hl
  have hin : ∀ w ∈ wsX30, w ∈ wsX3_send := by decide +kernel
  have k41 := hts (.fieldLink RX3 41 "FairFolioModel" "stamps" "[I") (by decide +kernel)
  have k53 := hts (.fieldLink RX3 53 "FairFolioModel" "stock" "[I") (by decide +kernel)
  have k56 := hts (.fieldLink RX3 56 "FairFolioModel" "demand" "[I") (by decide +kernel)
  refine lv_iload_n hx hb dX3_send_0 rfl (lv_at hl 1 rfl) ?_
  refine g_scalli (As := [.int (nI v)]) (rest := []) ⟨hx, hb, hml, hown, hts⟩ (c_X3_isVisitor_y l D E tl y v hv) (va_cwS 1 hts gX3_send_X3_isVisitor rfl rfl rfl (by decide +kernel) ⟨Nat.le_of_ble_eq_true rfl, Nat.le_of_ble_eq_true rfl⟩) hK hP hD hS hA rfl hl.1 rfl (Nat.le_of_ble_eq_true rfl) dX3_send_1 ⟨Nat.le_of_ble_eq_true rfl, Nat.le_of_ble_eq_true rfl⟩ (fun r_3 u_2 H locs hw hP hD hS => ?_)
  obtain ⟨hr_3, hu_2⟩ := hw
  rw [hu_2] at hP hD
  refine q_top (x' := (nI 1)) hr_3 ?_
  refine q_if_eq (tgt := 18) hx hb (by omega) dX3_send_4 (by decide) (fun c_4 => absurd c_4 (by decide)) (fun c_4 => ?_)
  refine lv_iload_n hx hb dX3_send_7 rfl (lv_at hl 2 rfl) ?_
  refine g_scalli (As := [.int (nI p)]) (rest := []) ⟨hx, hb, hml, hown, hts⟩ (c_X3_isPavilion_y l D E tl y p hp) (va_cwS 1 hts gX3_send_X3_isPavilion rfl rfl rfl (by decide +kernel) ⟨Nat.le_of_ble_eq_true rfl, Nat.le_of_ble_eq_true rfl⟩) hK hP hD hS hA rfl hl.1 rfl (Nat.le_of_ble_eq_true rfl) dX3_send_8 ⟨Nat.le_of_ble_eq_true rfl, Nat.le_of_ble_eq_true rfl⟩ (fun r_7 u_6 H locs hw hP hD hS => ?_)
  obtain ⟨hr_7, hu_6⟩ := hw
  rw [hu_6] at hP hD
  refine q_top (x' := (nI 1)) hr_7 ?_
  refine q_if_eq (tgt := 18) hx hb (by omega) dX3_send_11 (by decide) (fun c_8 => absurd c_8 (by decide)) (fun c_8 => ?_)
  refine lv_iconst (v := nI 1) hx hb dX3_send_14 (by decide) ?_
  refine lv_goto (tgt := 19) hx hb dX3_send_15 (by decide) ?_
  refine lv_istore_n (lv' := [(3, .int (nI 1)), (0, .ref E.1.1), (1, .int (nI v)), (2, .int (nI p))]) hx hb dX3_send_19 rfl hl (by decide) rfl (fun ls hl => ?_)
  refine lv_aload_n hx hb dX3_send_20 rfl (lv_at hl 1 rfl) ?_
  refine lv_iload_n hx hb dX3_send_21 rfl (lv_at hl 0 rfl) ?_
  refine lv_iload_n hx hb dX3_send_22 rfl (lv_at hl 0 rfl) ?_
  refine q_if_eq (tgt := 44) hx hb (by omega) dX3_send_23 (by decide) (fun c_9 => absurd c_9 (by decide)) (fun c_9 => ?_)
  refine lv_aload_n hx hb dX3_send_26 rfl (lv_at hl 1 rfl) ?_
  refine m_get hx hb hts hin hown hK hP 11 (by decide) k41 rfl rfl dX3_send_27 ?_
  refine lv_iload_n hx hb dX3_send_30 rfl (lv_at hl 2 rfl) ?_
  refine q_ild hx hb hK hP 11 0 rfl rfl v rfl (by omega) (by decide) dX3_send_31 ?_
  refine lv_iload_n hx hb dX3_send_32 rfl (lv_at hl 3 rfl) ?_
  refine lv_ishr hx hb dX3_send_33 ?_
  refine lv_iconst (v := nI 1) hx hb dX3_send_34 (by decide) ?_
  refine lv_iand hx hb dX3_send_35 ?_
  refine lv_iconst (v := nI 1) hx hb dX3_send_36 (by decide) ?_
  refine lv_icmp_ne (tgt := 44) hx hb dX3_send_37 (by decide) (fun c7 => absurd hbit c7) (fun c7 => ?_)
  refine lv_iconst (v := nI 1) hx hb dX3_send_40 (by decide) ?_
  refine lv_goto (tgt := 45) hx hb dX3_send_41 (by decide) ?_
  refine g_calli (As := [.int (nI 1), .int (nI 1)]) (rest := []) ⟨hx, hb, hml, hown, hts⟩ (c_X3_goes l D E tl y (nI 1) (nI 1)) (cwV 2 hts gX3_send_X3_goes rfl rfl rfl (by decide +kernel) ⟨Nat.le_of_ble_eq_true rfl, Nat.le_of_ble_eq_true rfl⟩) (m_recv hK hP) hK hP hD hS hA rfl hl.1 rfl (Nat.le_of_ble_eq_true rfl) dX3_send_45 ⟨Nat.le_of_ble_eq_true rfl, Nat.le_of_ble_eq_true rfl⟩ (fun r_12 u_11 H locs hw hP hD hS => ?_)
  obtain ⟨hr_12, hu_11⟩ := hw
  rw [hu_11] at hP hD
  rw [show mGt (nI 1) (nI 1) = nI 0 from by decide] at hP hD
  refine q_top (x' := (nI 1)) (hr_12.trans (by decide)) ?_
  refine q_if_ne (tgt := 53) hx hb (by omega) dX3_send_48 (by decide) (fun c_13 => ?_) (fun c_13 => absurd c_13 (by decide))
  refine lv_aload_n hx hb dX3_send_53 rfl (lv_at hl 1 rfl) ?_
  refine m_get hx hb hts hin hown hK hP 15 (by decide) k53 rfl rfl dX3_send_54 ?_
  refine lv_iload_n hx hb dX3_send_57 rfl (lv_at hl 3 rfl) ?_
  refine q_ild hx hb hK hP 15 0 rfl rfl p rfl (by omega) (by decide) dX3_send_58 ?_
  refine q_top (x' := (nI 0)) h0 ?_
  refine q_if_ne (tgt := 74) hx hb (by omega) dX3_send_59 (by decide) (fun c_14 => absurd c_14 (by decide)) (fun c_14 => ?_)
  refine lv_aload_n hx hb dX3_send_62 rfl (lv_at hl 1 rfl) ?_
  refine m_get hx hb hts hin hown hK hP 16 (by decide) k56 rfl rfl dX3_send_63 ?_
  refine lv_iload_n hx hb dX3_send_66 rfl (lv_at hl 3 rfl) ?_
  refine lv_dup2_11 hx hb dX3_send_67 rfl rfl ?_
  refine q_ild hx hb hK hP 16 0 rfl rfl p rfl (by omega) (by decide) dX3_send_68 ?_
  refine lv_iconst (v := nI 1) hx hb dX3_send_69 (by decide) ?_
  refine lv_iadd hx hb dX3_send_70 ?_
  refine q_ist hx hb hK hP hD hS 16 0 rfl rfl p rfl (by omega) (by decide) dX3_send_71 (fun H locs hP hD hS => ?_)
  replace hP : va_P D vwCl (mW E (up2 (up2 y 18 0 (nI 0)) 16 p (((up2 y 18 0 (nI 0)) 16 p) + (nI 1)))) H := hP
  replace hD : va_D A (mW E (up2 (up2 y 18 0 (nI 0)) 16 p (((up2 y 18 0 (nI 0)) 16 p) + (nI 1)))) := hD
  refine lv_iconst (v := nI 0) hx hb dX3_send_72 (by decide) ?_
  exact W.zret (ty := .boolean) hx hb hr (by decide) (fun t ht hW => ⟨⟨_, up2 (up2 y 18 0 (nI 0)) 16 p (((up2 y 18 0 (nI 0)) 16 p) + (nI 1)), rfl, ⟨rfl, rfl⟩, by rw [ht]; exact hP, va_K.moved hW.alike hK, hD⟩, hS.F ht⟩) hS.2.2 dX3_send_73

set_option maxHeartbeats 4000000 in
set_option maxRecDepth 100000 in
theorem c_X3_send (l : Launch) (D : va_G) (E : mE) (tl : gTy) (y : Nat → Nat → Int32) (v p : Nat) (hv : v < 8) (hp : p < 6) (hbit : (y 11 v >>> (nI p &&& 31)) &&& nI 1 = nI 1) (h0 : ¬ y 15 p = nI 0)  : gI l yX3_send wsX3_send ({ frames := 1, cells := 0, slots := 0, locals := 22 } : Room) D (mT E tl) (mW E y) [.ref E.1.1, .int (nI v), .int (nI p)] (fun (r : Int32) (u : Nat → Nat → Int32) => r = nI 1 ∧ u = up2 (up2 (up2 y 18 0 (nI 0)) 15 p (y 15 p - nI 1)) 17 (6 * v + p) (y 17 (6 * v + p) + nI 1)) (mW E) 0 0 := by
  refine gM.start (cc := cX3_send) (maxL := 4) (ret := (some .boolean)) (own := RX3) rfl (by decide) rfl (Nat.le_of_ble_eq_true rfl) ?_
  intro pr e s m args below meth c A ls H locs hx hb hml hr hts hown hlocks hname hA hK hP hD hS hl
  replace hl : lv_has ls 4 [(0, .ref E.1.1), (1, .int (nI v)), (2, .int (nI p))] := hl
  have hin : ∀ w ∈ wsX30, w ∈ wsX3_send := by decide +kernel
  have k41 := hts (.fieldLink RX3 41 "FairFolioModel" "stamps" "[I") (by decide +kernel)
  have k53 := hts (.fieldLink RX3 53 "FairFolioModel" "stock" "[I") (by decide +kernel)
  have k59 := hts (.fieldLink RX3 59 "FairFolioModel" "sent" "[I") (by decide +kernel)
  refine lv_iload_n hx hb dX3_send_0 rfl (lv_at hl 1 rfl) ?_
  refine g_scalli (As := [.int (nI v)]) (rest := []) ⟨hx, hb, hml, hown, hts⟩ (c_X3_isVisitor_y l D E tl y v hv) (va_cwS 1 hts gX3_send_X3_isVisitor rfl rfl rfl (by decide +kernel) ⟨Nat.le_of_ble_eq_true rfl, Nat.le_of_ble_eq_true rfl⟩) hK hP hD hS hA rfl hl.1 rfl (Nat.le_of_ble_eq_true rfl) dX3_send_1 ⟨Nat.le_of_ble_eq_true rfl, Nat.le_of_ble_eq_true rfl⟩ (fun r_3 u_2 H locs hw hP hD hS => ?_)
  obtain ⟨hr_3, hu_2⟩ := hw
  rw [hu_2] at hP hD
  refine q_top (x' := (nI 1)) hr_3 ?_
  refine q_if_eq (tgt := 18) hx hb (by omega) dX3_send_4 (by decide) (fun c_4 => absurd c_4 (by decide)) (fun c_4 => ?_)
  refine lv_iload_n hx hb dX3_send_7 rfl (lv_at hl 2 rfl) ?_
  refine g_scalli (As := [.int (nI p)]) (rest := []) ⟨hx, hb, hml, hown, hts⟩ (c_X3_isPavilion_y l D E tl y p hp) (va_cwS 1 hts gX3_send_X3_isPavilion rfl rfl rfl (by decide +kernel) ⟨Nat.le_of_ble_eq_true rfl, Nat.le_of_ble_eq_true rfl⟩) hK hP hD hS hA rfl hl.1 rfl (Nat.le_of_ble_eq_true rfl) dX3_send_8 ⟨Nat.le_of_ble_eq_true rfl, Nat.le_of_ble_eq_true rfl⟩ (fun r_7 u_6 H locs hw hP hD hS => ?_)
  obtain ⟨hr_7, hu_6⟩ := hw
  rw [hu_6] at hP hD
  refine q_top (x' := (nI 1)) hr_7 ?_
  refine q_if_eq (tgt := 18) hx hb (by omega) dX3_send_11 (by decide) (fun c_8 => absurd c_8 (by decide)) (fun c_8 => ?_)
  refine lv_iconst (v := nI 1) hx hb dX3_send_14 (by decide) ?_
  refine lv_goto (tgt := 19) hx hb dX3_send_15 (by decide) ?_
  refine lv_istore_n (lv' := [(3, .int (nI 1)), (0, .ref E.1.1), (1, .int (nI v)), (2, .int (nI p))]) hx hb dX3_send_19 rfl hl (by decide) rfl (fun ls hl => ?_)
  refine lv_aload_n hx hb dX3_send_20 rfl (lv_at hl 1 rfl) ?_
  refine lv_iload_n hx hb dX3_send_21 rfl (lv_at hl 0 rfl) ?_
  refine lv_iload_n hx hb dX3_send_22 rfl (lv_at hl 0 rfl) ?_
  refine q_if_eq (tgt := 44) hx hb (by omega) dX3_send_23 (by decide) (fun c_9 => absurd c_9 (by decide)) (fun c_9 => ?_)
  refine lv_aload_n hx hb dX3_send_26 rfl (lv_at hl 1 rfl) ?_
  refine m_get hx hb hts hin hown hK hP 11 (by decide) k41 rfl rfl dX3_send_27 ?_
  refine lv_iload_n hx hb dX3_send_30 rfl (lv_at hl 2 rfl) ?_
  refine q_ild hx hb hK hP 11 0 rfl rfl v rfl (by omega) (by decide) dX3_send_31 ?_
  refine lv_iload_n hx hb dX3_send_32 rfl (lv_at hl 3 rfl) ?_
  refine lv_ishr hx hb dX3_send_33 ?_
  refine lv_iconst (v := nI 1) hx hb dX3_send_34 (by decide) ?_
  refine lv_iand hx hb dX3_send_35 ?_
  refine lv_iconst (v := nI 1) hx hb dX3_send_36 (by decide) ?_
  refine lv_icmp_ne (tgt := 44) hx hb dX3_send_37 (by decide) (fun c7 => absurd hbit c7) (fun c7 => ?_)
  refine lv_iconst (v := nI 1) hx hb dX3_send_40 (by decide) ?_
  refine lv_goto (tgt := 45) hx hb dX3_send_41 (by decide) ?_
  refine g_calli (As := [.int (nI 1), .int (nI 1)]) (rest := []) ⟨hx, hb, hml, hown, hts⟩ (c_X3_goes l D E tl y (nI 1) (nI 1)) (cwV 2 hts gX3_send_X3_goes rfl rfl rfl (by decide +kernel) ⟨Nat.le_of_ble_eq_true rfl, Nat.le_of_ble_eq_true rfl⟩) (m_recv hK hP) hK hP hD hS hA rfl hl.1 rfl (Nat.le_of_ble_eq_true rfl) dX3_send_45 ⟨Nat.le_of_ble_eq_true rfl, Nat.le_of_ble_eq_true rfl⟩ (fun r_12 u_11 H locs hw hP hD hS => ?_)
  obtain ⟨hr_12, hu_11⟩ := hw
  rw [hu_11] at hP hD
  rw [show mGt (nI 1) (nI 1) = nI 0 from by decide] at hP hD
  refine q_top (x' := (nI 1)) (hr_12.trans (by decide)) ?_
  refine q_if_ne (tgt := 53) hx hb (by omega) dX3_send_48 (by decide) (fun c_13 => ?_) (fun c_13 => absurd c_13 (by decide))
  refine lv_aload_n hx hb dX3_send_53 rfl (lv_at hl 1 rfl) ?_
  refine m_get hx hb hts hin hown hK hP 15 (by decide) k53 rfl rfl dX3_send_54 ?_
  refine lv_iload_n hx hb dX3_send_57 rfl (lv_at hl 3 rfl) ?_
  refine q_ild hx hb hK hP 15 0 rfl rfl p rfl (by omega) (by decide) dX3_send_58 ?_
  refine lv_if_ne (tgt := 74) hx hb dX3_send_59 (by decide) (fun c8 => ?_) (fun c8 => absurd c8 h0)
  refine lv_aload_n hx hb dX3_send_74 rfl (lv_at hl 1 rfl) ?_
  refine m_get hx hb hts hin hown hK hP 15 (by decide) k53 rfl rfl dX3_send_75 ?_
  refine lv_iload_n hx hb dX3_send_78 rfl (lv_at hl 3 rfl) ?_
  refine lv_dup2_11 hx hb dX3_send_79 rfl rfl ?_
  refine q_ild hx hb hK hP 15 0 rfl rfl p rfl (by omega) (by decide) dX3_send_80 ?_
  refine lv_iconst (v := nI 1) hx hb dX3_send_81 (by decide) ?_
  refine lv_isub hx hb dX3_send_82 ?_
  refine q_ist hx hb hK hP hD hS 15 0 rfl rfl p rfl (by omega) (by decide) dX3_send_83 (fun H locs hP hD hS => ?_)
  replace hP : va_P D vwCl (mW E (up2 (up2 y 18 0 (nI 0)) 15 p (((up2 y 18 0 (nI 0)) 15 p) - (nI 1)))) H := hP
  replace hD : va_D A (mW E (up2 (up2 y 18 0 (nI 0)) 15 p (((up2 y 18 0 (nI 0)) 15 p) - (nI 1)))) := hD
  refine lv_aload_n hx hb dX3_send_84 rfl (lv_at hl 1 rfl) ?_
  refine m_get hx hb hts hin hown hK hP 17 (by decide) k59 rfl rfl dX3_send_85 ?_
  refine lv_bipush (v := nI 6) hx hb dX3_send_88 (by decide) ?_
  refine lv_iload_n hx hb dX3_send_90 rfl (lv_at hl 2 rfl) ?_
  refine q_mul hx hb dX3_send_91 ?_
  refine lv_iload_n hx hb dX3_send_92 rfl (lv_at hl 3 rfl) ?_
  refine q_add hx hb dX3_send_93 ?_
  refine lv_dup2_11 hx hb dX3_send_94 rfl rfl ?_
  refine q_ild hx hb hK hP 17 0 rfl rfl ((6 * v) + p) rfl (by omega) (by decide) dX3_send_95 ?_
  refine lv_iconst (v := nI 1) hx hb dX3_send_96 (by decide) ?_
  refine lv_iadd hx hb dX3_send_97 ?_
  refine q_ist hx hb hK hP hD hS 17 0 rfl rfl ((6 * v) + p) rfl (by omega) (by decide) dX3_send_98 (fun H locs hP hD hS => ?_)
  replace hP : va_P D vwCl (mW E (up2 (up2 (up2 y 18 0 (nI 0)) 15 p (((up2 y 18 0 (nI 0)) 15 p) - (nI 1))) 17 ((6 * v) + p) (((up2 (up2 y 18 0 (nI 0)) 15 p (((up2 y 18 0 (nI 0)) 15 p) - (nI 1))) 17 ((6 * v) + p)) + (nI 1)))) H := hP
  replace hD : va_D A (mW E (up2 (up2 (up2 y 18 0 (nI 0)) 15 p (((up2 y 18 0 (nI 0)) 15 p) - (nI 1))) 17 ((6 * v) + p) (((up2 (up2 y 18 0 (nI 0)) 15 p (((up2 y 18 0 (nI 0)) 15 p) - (nI 1))) 17 ((6 * v) + p)) + (nI 1)))) := hD
  refine lv_iconst (v := nI 1) hx hb dX3_send_99 (by decide) ?_
  exact W.zret (ty := .boolean) hx hb hr (by decide) (fun t ht hW => ⟨⟨_, up2 (up2 (up2 y 18 0 (nI 0)) 15 p (((up2 y 18 0 (nI 0)) 15 p) - (nI 1))) 17 ((6 * v) + p) (((up2 (up2 y 18 0 (nI 0)) 15 p (((up2 y 18 0 (nI 0)) 15 p) - (nI 1))) 17 ((6 * v) + p)) + (nI 1)), rfl, ⟨rfl, rfl⟩, by rw [ht]; exact hP, va_K.moved hW.alike hK, hD⟩, hS.F ht⟩) hS.2.2 dX3_send_100

set_option maxHeartbeats 4000000 in
set_option maxRecDepth 100000 in
theorem c_X3_send_nv (l : Launch) (D : va_G) (E : mE) (tl : gTy) (y : Nat → Nat → Int32) (v p : Int32) (hv : v < 0 ∨ nI 8 ≤ v)  : gI l yX3_send wsX3_send ({ frames := 1, cells := 0, slots := 0, locals := 22 } : Room) D (mT E tl) (mW E y) [.ref E.1.1, .int v, .int p] (fun (r : Int32) (u : Nat → Nat → Int32) => u = up2 y 18 0 (nI 1)) (mW E) 0 0 := by
  refine gM.start (cc := cX3_send) (maxL := 4) (ret := (some .boolean)) (own := RX3) rfl (by decide) rfl (Nat.le_of_ble_eq_true rfl) ?_
  intro pr e s m args below meth c A ls H locs hx hb hml hr hts hown hlocks hname hA hK hP hD hS hl
  replace hl : lv_has ls 4 [(0, .ref E.1.1), (1, .int v), (2, .int p)] := hl
  refine lv_iload_n hx hb dX3_send_0 rfl (lv_at hl 1 rfl) ?_
  refine g_scalli (As := [.int v]) (rest := []) ⟨hx, hb, hml, hown, hts⟩ (c_X3_isVisitor_n l D E tl y v hv) (va_cwS 1 hts gX3_send_X3_isVisitor rfl rfl rfl (by decide +kernel) ⟨Nat.le_of_ble_eq_true rfl, Nat.le_of_ble_eq_true rfl⟩) hK hP hD hS hA rfl hl.1 rfl (Nat.le_of_ble_eq_true rfl) dX3_send_1 ⟨Nat.le_of_ble_eq_true rfl, Nat.le_of_ble_eq_true rfl⟩ (fun r_3 u_2 H locs hw hP hD hS => ?_)
  obtain ⟨hr_3, hu_2⟩ := hw
  rw [hu_2] at hP hD
  refine q_top (x' := (nI 0)) hr_3 ?_
  refine q_if_eq (tgt := 18) hx hb (by omega) dX3_send_4 (by decide) (fun c_4 => ?_) (fun c_4 => absurd c_4 (by decide))
  refine lv_iconst (v := nI 0) hx hb dX3_send_18 (by decide) ?_
  refine lv_istore_n (lv' := [(3, .int (nI 0)), (0, .ref E.1.1), (1, .int v), (2, .int p)]) hx hb dX3_send_19 rfl hl (by decide) rfl (fun ls hl => ?_)
  refine lv_aload_n hx hb dX3_send_20 rfl (lv_at hl 1 rfl) ?_
  refine lv_iload_n hx hb dX3_send_21 rfl (lv_at hl 0 rfl) ?_
  refine lv_iload_n hx hb dX3_send_22 rfl (lv_at hl 0 rfl) ?_
  refine q_if_eq (tgt := 44) hx hb (by omega) dX3_send_23 (by decide) (fun c_5 => ?_) (fun c_5 => absurd c_5 (by decide))
  refine lv_iconst (v := nI 0) hx hb dX3_send_44 (by decide) ?_
  refine g_calli (As := [.int (nI 0), .int (nI 0)]) (rest := []) ⟨hx, hb, hml, hown, hts⟩ (c_X3_goes l D E tl y (nI 0) (nI 0)) (cwV 2 hts gX3_send_X3_goes rfl rfl rfl (by decide +kernel) ⟨Nat.le_of_ble_eq_true rfl, Nat.le_of_ble_eq_true rfl⟩) (m_recv hK hP) hK hP hD hS hA rfl hl.1 rfl (Nat.le_of_ble_eq_true rfl) dX3_send_45 ⟨Nat.le_of_ble_eq_true rfl, Nat.le_of_ble_eq_true rfl⟩ (fun r_8 u_7 H locs hw hP hD hS => ?_)
  obtain ⟨hr_8, hu_7⟩ := hw
  rw [hu_7] at hP hD
  rw [show mGt (nI 0) (nI 0) = nI 1 from by decide] at hP hD
  refine q_top (x' := (nI 0)) (hr_8.trans (by decide)) ?_
  refine q_if_ne (tgt := 53) hx hb (by omega) dX3_send_48 (by decide) (fun c_9 => absurd c_9 (by decide)) (fun c_9 => ?_)
  refine lv_iconst (v := nI 0) hx hb dX3_send_51 (by decide) ?_
  exact W.zret (ty := .boolean) hx hb hr (by decide) (fun t ht hW => ⟨⟨_, up2 y 18 0 (nI 1), rfl, rfl, by rw [ht]; exact hP, va_K.moved hW.alike hK, hD⟩, hS.F ht⟩) hS.2.2 dX3_send_52

set_option maxHeartbeats 4000000 in
set_option maxRecDepth 100000 in
theorem c_X3_send_np (l : Launch) (D : va_G) (E : mE) (tl : gTy) (y : Nat → Nat → Int32) (v : Nat) (p : Int32) (hv : v < 8) (hp : p < 0 ∨ nI 6 ≤ p)  : gI l yX3_send wsX3_send ({ frames := 1, cells := 0, slots := 0, locals := 22 } : Room) D (mT E tl) (mW E y) [.ref E.1.1, .int (nI v), .int p] (fun (r : Int32) (u : Nat → Nat → Int32) => u = up2 y 18 0 (nI 1)) (mW E) 0 0 := by
  refine gM.start (cc := cX3_send) (maxL := 4) (ret := (some .boolean)) (own := RX3) rfl (by decide) rfl (Nat.le_of_ble_eq_true rfl) ?_
  intro pr e s m args below meth c A ls H locs hx hb hml hr hts hown hlocks hname hA hK hP hD hS hl
  replace hl : lv_has ls 4 [(0, .ref E.1.1), (1, .int (nI v)), (2, .int p)] := hl
  refine lv_iload_n hx hb dX3_send_0 rfl (lv_at hl 1 rfl) ?_
  refine g_scalli (As := [.int (nI v)]) (rest := []) ⟨hx, hb, hml, hown, hts⟩ (c_X3_isVisitor_y l D E tl y v hv) (va_cwS 1 hts gX3_send_X3_isVisitor rfl rfl rfl (by decide +kernel) ⟨Nat.le_of_ble_eq_true rfl, Nat.le_of_ble_eq_true rfl⟩) hK hP hD hS hA rfl hl.1 rfl (Nat.le_of_ble_eq_true rfl) dX3_send_1 ⟨Nat.le_of_ble_eq_true rfl, Nat.le_of_ble_eq_true rfl⟩ (fun r_3 u_2 H locs hw hP hD hS => ?_)
  obtain ⟨hr_3, hu_2⟩ := hw
  rw [hu_2] at hP hD
  refine q_top (x' := (nI 1)) hr_3 ?_
  refine q_if_eq (tgt := 18) hx hb (by omega) dX3_send_4 (by decide) (fun c_4 => absurd c_4 (by decide)) (fun c_4 => ?_)
  refine lv_iload_n hx hb dX3_send_7 rfl (lv_at hl 2 rfl) ?_
  refine g_scalli (As := [.int p]) (rest := []) ⟨hx, hb, hml, hown, hts⟩ (c_X3_isPavilion_n l D E tl y p hp) (va_cwS 1 hts gX3_send_X3_isPavilion rfl rfl rfl (by decide +kernel) ⟨Nat.le_of_ble_eq_true rfl, Nat.le_of_ble_eq_true rfl⟩) hK hP hD hS hA rfl hl.1 rfl (Nat.le_of_ble_eq_true rfl) dX3_send_8 ⟨Nat.le_of_ble_eq_true rfl, Nat.le_of_ble_eq_true rfl⟩ (fun r_7 u_6 H locs hw hP hD hS => ?_)
  obtain ⟨hr_7, hu_6⟩ := hw
  rw [hu_6] at hP hD
  refine q_top (x' := (nI 0)) hr_7 ?_
  refine q_if_eq (tgt := 18) hx hb (by omega) dX3_send_11 (by decide) (fun c_8 => ?_) (fun c_8 => absurd c_8 (by decide))
  refine lv_iconst (v := nI 0) hx hb dX3_send_18 (by decide) ?_
  refine lv_istore_n (lv' := [(3, .int (nI 0)), (0, .ref E.1.1), (1, .int (nI v)), (2, .int p)]) hx hb dX3_send_19 rfl hl (by decide) rfl (fun ls hl => ?_)
  refine lv_aload_n hx hb dX3_send_20 rfl (lv_at hl 1 rfl) ?_
  refine lv_iload_n hx hb dX3_send_21 rfl (lv_at hl 0 rfl) ?_
  refine lv_iload_n hx hb dX3_send_22 rfl (lv_at hl 0 rfl) ?_
  refine q_if_eq (tgt := 44) hx hb (by omega) dX3_send_23 (by decide) (fun c_9 => ?_) (fun c_9 => absurd c_9 (by decide))
  refine lv_iconst (v := nI 0) hx hb dX3_send_44 (by decide) ?_
  refine g_calli (As := [.int (nI 0), .int (nI 0)]) (rest := []) ⟨hx, hb, hml, hown, hts⟩ (c_X3_goes l D E tl y (nI 0) (nI 0)) (cwV 2 hts gX3_send_X3_goes rfl rfl rfl (by decide +kernel) ⟨Nat.le_of_ble_eq_true rfl, Nat.le_of_ble_eq_true rfl⟩) (m_recv hK hP) hK hP hD hS hA rfl hl.1 rfl (Nat.le_of_ble_eq_true rfl) dX3_send_45 ⟨Nat.le_of_ble_eq_true rfl, Nat.le_of_ble_eq_true rfl⟩ (fun r_12 u_11 H locs hw hP hD hS => ?_)
  obtain ⟨hr_12, hu_11⟩ := hw
  rw [hu_11] at hP hD
  rw [show mGt (nI 0) (nI 0) = nI 1 from by decide] at hP hD
  refine q_top (x' := (nI 0)) (hr_12.trans (by decide)) ?_
  refine q_if_ne (tgt := 53) hx hb (by omega) dX3_send_48 (by decide) (fun c_13 => absurd c_13 (by decide)) (fun c_13 => ?_)
  refine lv_iconst (v := nI 0) hx hb dX3_send_51 (by decide) ?_
  exact W.zret (ty := .boolean) hx hb hr (by decide) (fun t ht hW => ⟨⟨_, up2 y 18 0 (nI 1), rfl, rfl, by rw [ht]; exact hP, va_K.moved hW.alike hK, hD⟩, hS.F ht⟩) hS.2.2 dX3_send_52

set_option maxHeartbeats 4000000 in
set_option maxRecDepth 100000 in
theorem c_X3_reprint_n (l : Launch) (D : va_G) (E : mE) (tl : gTy) (y : Nat → Nat → Int32) (tr : Int32) (htr : tr < nI 1 ∨ nI 1000 < tr)  : gI l yX3_reprint wsX3_reprint ({ frames := 1, cells := 0, slots := 0, locals := 22 } : Room) D (mT E tl) (mW E y) [.ref E.1.1, .int tr] (fun (r : Int32) (u : Nat → Nat → Int32) => u = up2 y 18 0 (nI 1)) (mW E) 0 0 := by
  refine gM.start (cc := cX3_reprint) (maxL := 4) (ret := (some .int)) (own := RX3) rfl (by decide) rfl (Nat.le_of_ble_eq_true rfl) ?_
  intro pr e s m args below meth c A ls H locs hx hb hml hr hts hown hlocks hname hA hK hP hD hS hl
  replace hl : lv_has ls 4 [(0, .ref E.1.1), (1, .int tr)] := hl
  refine lv_aload_n hx hb dX3_reprint_0 rfl (lv_at hl 0 rfl) ?_
  refine lv_iload_n hx hb dX3_reprint_1 rfl (lv_at hl 1 rfl) ?_
  refine lv_iconst (v := nI 1) hx hb dX3_reprint_2 (by decide) ?_
  refine lv_icmp_lt (tgt := 17) hx hb dX3_reprint_3 (by decide) (fun c1 => ?_) (fun c1 => ?_)
  · refine lv_iconst (v := nI 0) hx hb dX3_reprint_17 (by decide) ?_
    refine lv_iconst (v := nI 1) hx hb dX3_reprint_18 (by decide) ?_
    refine g_calli (As := [.int (nI 0), .int (nI 1)]) (rest := []) ⟨hx, hb, hml, hown, hts⟩ (c_X3_goes l D E tl y (nI 0) (nI 1)) (cwV 2 hts gX3_reprint_X3_goes rfl rfl rfl (by decide +kernel) ⟨Nat.le_of_ble_eq_true rfl, Nat.le_of_ble_eq_true rfl⟩) (m_recv hK hP) hK hP hD hS hA rfl hl.1 rfl (Nat.le_of_ble_eq_true rfl) dX3_reprint_19 ⟨Nat.le_of_ble_eq_true rfl, Nat.le_of_ble_eq_true rfl⟩ (fun r_3 u_2 H locs hw hP hD hS => ?_)
    obtain ⟨hr_3, hu_2⟩ := hw
    rw [hu_2] at hP hD
    rw [show mGt (nI 0) (nI 1) = nI 1 from by decide] at hP hD
    refine q_top (x' := (nI 0)) (hr_3.trans (by decide)) ?_
    refine q_if_ne (tgt := 27) hx hb (by omega) dX3_reprint_22 (by decide) (fun c_4 => absurd c_4 (by decide)) (fun c_4 => ?_)
    refine lv_iconst (v := nI 0) hx hb dX3_reprint_25 (by decide) ?_
    exact W.iret hx hb hr (fun t ht hW => ⟨⟨_, up2 y 18 0 (nI 1), rfl, rfl, by rw [ht]; exact hP, va_K.moved hW.alike hK, hD⟩, hS.F ht⟩) hS.2.2 dX3_reprint_26
  · refine lv_iload_n hx hb dX3_reprint_6 rfl (lv_at hl 1 rfl) ?_
    refine lv_sipush (v := nI 1000) hx hb dX3_reprint_7 (by decide) ?_
    refine lv_icmp_gt (tgt := 17) hx hb dX3_reprint_10 (by decide) (fun c2 => ?_) (fun c2 => absurd htr (fun h => h.elim c1 c2))
    refine lv_iconst (v := nI 0) hx hb dX3_reprint_17 (by decide) ?_
    refine lv_iconst (v := nI 1) hx hb dX3_reprint_18 (by decide) ?_
    refine g_calli (As := [.int (nI 0), .int (nI 1)]) (rest := []) ⟨hx, hb, hml, hown, hts⟩ (c_X3_goes l D E tl y (nI 0) (nI 1)) (cwV 2 hts gX3_reprint_X3_goes rfl rfl rfl (by decide +kernel) ⟨Nat.le_of_ble_eq_true rfl, Nat.le_of_ble_eq_true rfl⟩) (m_recv hK hP) hK hP hD hS hA rfl hl.1 rfl (Nat.le_of_ble_eq_true rfl) dX3_reprint_19 ⟨Nat.le_of_ble_eq_true rfl, Nat.le_of_ble_eq_true rfl⟩ (fun r_7 u_6 H locs hw hP hD hS => ?_)
    obtain ⟨hr_7, hu_6⟩ := hw
    rw [hu_6] at hP hD
    rw [show mGt (nI 0) (nI 1) = nI 1 from by decide] at hP hD
    refine q_top (x' := (nI 0)) (hr_7.trans (by decide)) ?_
    refine q_if_ne (tgt := 27) hx hb (by omega) dX3_reprint_22 (by decide) (fun c_8 => absurd c_8 (by decide)) (fun c_8 => ?_)
    refine lv_iconst (v := nI 0) hx hb dX3_reprint_25 (by decide) ?_
    exact W.iret hx hb hr (fun t ht hW => ⟨⟨_, up2 y 18 0 (nI 1), rfl, rfl, by rw [ht]; exact hP, va_K.moved hW.alike hK, hD⟩, hS.F ht⟩) hS.2.2 dX3_reprint_26

set_option maxHeartbeats 4000000 in
set_option maxRecDepth 100000 in
theorem c_X3_reprint (l : Launch) (D : va_G) (E : mE) (tl : gTy) (y : Nat → Nat → Int32) (tr : Int32) (h1 : ¬ tr < nI 1) (h2 : ¬ nI 1000 < tr)  : gI l yX3_reprint wsX3_reprint ({ frames := 1, cells := 0, slots := 0, locals := 22 } : Room) D (mT E tl) (mW E y) [.ref E.1.1, .int tr] (fun (r : Int32) (u : Nat → Nat → Int32) => r = mRepV (up2 y 18 0 (nI 0)) tr 6 ∧ u = mRepY (up2 y 18 0 (nI 0)) tr 6) (mW E) 0 0 := by
  refine gM.start (cc := cX3_reprint) (maxL := 4) (ret := (some .int)) (own := RX3) rfl (by decide) rfl (Nat.le_of_ble_eq_true rfl) ?_
  intro pr e s m args below meth c A ls H locs hx hb hml hr hts hown hlocks hname hA hK hP hD hS hl
  replace hl : lv_has ls 4 [(0, .ref E.1.1), (1, .int tr)] := hl
  have hin : ∀ w ∈ wsX30, w ∈ wsX3_reprint := by decide +kernel
  have k56 := hts (.fieldLink RX3 56 "FairFolioModel" "demand" "[I") (by decide +kernel)
  have k53 := hts (.fieldLink RX3 53 "FairFolioModel" "stock" "[I") (by decide +kernel)
  refine lv_aload_n hx hb dX3_reprint_0 rfl (lv_at hl 0 rfl) ?_
  refine lv_iload_n hx hb dX3_reprint_1 rfl (lv_at hl 1 rfl) ?_
  refine lv_iconst (v := nI 1) hx hb dX3_reprint_2 (by decide) ?_
  refine lv_icmp_lt (tgt := 17) hx hb dX3_reprint_3 (by decide) (fun c1 => absurd c1 h1) (fun c1 => ?_)
  refine lv_iload_n hx hb dX3_reprint_6 rfl (lv_at hl 1 rfl) ?_
  refine lv_sipush (v := nI 1000) hx hb dX3_reprint_7 (by decide) ?_
  refine lv_icmp_gt (tgt := 17) hx hb dX3_reprint_10 (by decide) (fun c2 => absurd c2 h2) (fun c2 => ?_)
  refine lv_iconst (v := nI 1) hx hb dX3_reprint_13 (by decide) ?_
  refine lv_goto (tgt := 18) hx hb dX3_reprint_14 (by decide) ?_
  refine lv_iconst (v := nI 1) hx hb dX3_reprint_18 (by decide) ?_
  refine g_calli (As := [.int (nI 1), .int (nI 1)]) (rest := []) ⟨hx, hb, hml, hown, hts⟩ (c_X3_goes l D E tl y (nI 1) (nI 1)) (cwV 2 hts gX3_reprint_X3_goes rfl rfl rfl (by decide +kernel) ⟨Nat.le_of_ble_eq_true rfl, Nat.le_of_ble_eq_true rfl⟩) (m_recv hK hP) hK hP hD hS hA rfl hl.1 rfl (Nat.le_of_ble_eq_true rfl) dX3_reprint_19 ⟨Nat.le_of_ble_eq_true rfl, Nat.le_of_ble_eq_true rfl⟩ (fun r_3 u_2 H locs hw hP hD hS => ?_)
  obtain ⟨hr_3, hu_2⟩ := hw
  rw [hu_2] at hP hD
  rw [show mGt (nI 1) (nI 1) = nI 0 from by decide] at hP hD
  refine q_top (x' := (nI 1)) (hr_3.trans (by decide)) ?_
  refine q_if_ne (tgt := 27) hx hb (by omega) dX3_reprint_22 (by decide) (fun c_4 => ?_) (fun c_4 => absurd c_4 (by decide))
  refine lv_iconst (v := nI 0) hx hb dX3_reprint_27 (by decide) ?_
  refine lv_istore_n (lv' := [(2, .int (nI 0)), (0, .ref E.1.1), (1, .int tr)]) hx hb dX3_reprint_28 rfl hl (by decide) rfl (fun ls hl => ?_)
  refine lv_iconst (v := nI 0) hx hb dX3_reprint_29 (by decide) ?_
  refine lv_istore_n (lv' := [(3, .int (nI 0)), (2, .int (nI 0)), (0, .ref E.1.1), (1, .int tr)]) hx hb dX3_reprint_30 rfl hl (by decide) rfl (fun ls hl => ?_)
  obtain ⟨k, hk⟩ : ∃ k : Nat, k = 0 := ⟨_, rfl⟩
  obtain ⟨nn, hn⟩ : ∃ nn : Nat, k + nn = 6 := ⟨6 - 0, by omega⟩
  replace hl : lv_has ls 4 [(3, .int (nI k)), (2, .int (mRepV (up2 y 18 0 (nI 0)) tr k)), (0, .ref E.1.1), (1, .int tr)] := by rw [hk]; exact hl
  replace hP : va_P D vwCl (mW E (mRepY (up2 y 18 0 (nI 0)) tr k)) H := by rw [hk]; exact hP
  replace hD : va_D A (mW E (mRepY (up2 y 18 0 (nI 0)) tr k)) := by rw [hk]; exact hD
  clear hk
  induction nn generalizing k H locs ls with
  | zero =>
    obtain rfl : k = 6 := by omega
    refine lv_iload_n hx hb dX3_reprint_31 rfl (lv_at hl 0 rfl) ?_
    refine lv_bipush (v := nI 6) hx hb dX3_reprint_32 (by decide) ?_
    refine q_icmp_ge (tgt := 84) hx hb (by omega) (by omega) dX3_reprint_34 (by decide) (fun c8 => ?_) (fun c8 => absurd c8 (by omega))
    refine lv_iload_n hx hb dX3_reprint_84 rfl (lv_at hl 1 rfl) ?_
    exact W.iret hx hb hr (fun t ht hW => ⟨⟨_, mRepY (up2 y 18 0 (nI 0)) tr 6, rfl, ⟨rfl, rfl⟩, by rw [ht]; exact hP, va_K.moved hW.alike hK, hD⟩, hS.F ht⟩) hS.2.2 dX3_reprint_85
  | succ nn ih =>
    refine lv_iload_n hx hb dX3_reprint_31 rfl (lv_at hl 0 rfl) ?_
    refine lv_bipush (v := nI 6) hx hb dX3_reprint_32 (by decide) ?_
    refine q_icmp_ge (tgt := 84) hx hb (by omega) (by omega) dX3_reprint_34 (by decide) (fun c8 => absurd c8 (by omega)) (fun c8 => ?_)
    refine lv_aload_n hx hb dX3_reprint_37 rfl (lv_at hl 2 rfl) ?_
    refine m_get hx hb hts hin hown hK hP 16 (by decide) k56 rfl rfl dX3_reprint_38 ?_
    refine lv_iload_n hx hb dX3_reprint_41 rfl (lv_at hl 0 rfl) ?_
    refine q_ild hx hb hK hP 16 0 rfl rfl k rfl (by omega) (by decide) dX3_reprint_42 ?_
    refine lv_iload_n hx hb dX3_reprint_43 rfl (lv_at hl 3 rfl) ?_
    refine lv_icmp_lt (tgt := 78) hx hb dX3_reprint_44 (by decide) (fun c9 => ?_) (fun c9 => ?_)
    · have ey : mRepY (up2 y 18 0 (nI 0)) tr k = mRepY (up2 y 18 0 (nI 0)) tr (k + 1) := (by rw [mRepY, if_pos c9])
      rw [ey] at hP hD
      clear ey
      replace hl : lv_has ls 4 [(3, .int (nI k)), (2, .int (mRepV (up2 y 18 0 (nI 0)) tr (k + 1))), (0, .ref E.1.1), (1, .int tr)] := by rw [mRepV, if_pos c9]; exact hl
      refine q_inc (k := 0) (lv' := [(3, .int (nI (k + 1))), (2, .int (mRepV (up2 y 18 0 (nI 0)) tr (k + 1))), (0, .ref E.1.1), (1, .int tr)]) hx hb dX3_reprint_78 hl rfl (by decide) rfl (fun ls hl => ?_)
      refine lv_goto (tgt := 31) hx hb dX3_reprint_81 (by decide) ?_
      apply ih (k := k + 1) (H := H) (locs := locs) (ls := ls)
      all_goals first | omega | assumption
    · refine lv_aload_n hx hb dX3_reprint_47 rfl (lv_at hl 2 rfl) ?_
      refine m_get hx hb hts hin hown hK hP 15 (by decide) k53 rfl rfl dX3_reprint_48 ?_
      refine lv_iload_n hx hb dX3_reprint_51 rfl (lv_at hl 0 rfl) ?_
      refine lv_dup2_11 hx hb dX3_reprint_52 rfl rfl ?_
      refine q_ild hx hb hK hP 15 0 rfl rfl k rfl (by omega) (by decide) dX3_reprint_53 ?_
      refine lv_aload_n hx hb dX3_reprint_54 rfl (lv_at hl 2 rfl) ?_
      refine m_get hx hb hts hin hown hK hP 16 (by decide) k56 rfl rfl dX3_reprint_55 ?_
      refine lv_iload_n hx hb dX3_reprint_58 rfl (lv_at hl 0 rfl) ?_
      refine q_ild hx hb hK hP 16 0 rfl rfl k rfl (by omega) (by decide) dX3_reprint_59 ?_
      refine lv_iadd hx hb dX3_reprint_60 ?_
      refine q_ist hx hb hK hP hD hS 15 0 rfl rfl k rfl (by omega) (by decide) dX3_reprint_61 (fun H locs hP hD hS => ?_)
      replace hP : va_P D vwCl (mW E (up2 (mRepY (up2 y 18 0 (nI 0)) tr k) 15 k (((mRepY (up2 y 18 0 (nI 0)) tr k) 15 k) + ((mRepY (up2 y 18 0 (nI 0)) tr k) 16 k)))) H := hP
      replace hD : va_D A (mW E (up2 (mRepY (up2 y 18 0 (nI 0)) tr k) 15 k (((mRepY (up2 y 18 0 (nI 0)) tr k) 15 k) + ((mRepY (up2 y 18 0 (nI 0)) tr k) 16 k)))) := hD
      refine lv_iload_n hx hb dX3_reprint_62 rfl (lv_at hl 1 rfl) ?_
      refine lv_aload_n hx hb dX3_reprint_63 rfl (lv_at hl 2 rfl) ?_
      refine m_get hx hb hts hin hown hK hP 16 (by decide) k56 rfl rfl dX3_reprint_64 ?_
      refine lv_iload_n hx hb dX3_reprint_67 rfl (lv_at hl 0 rfl) ?_
      refine q_ild hx hb hK hP 16 0 rfl rfl k rfl (by omega) (by decide) dX3_reprint_68 ?_
      refine lv_iadd hx hb dX3_reprint_69 ?_
      refine q_top (x' := (mRepV (up2 y 18 0 (nI 0)) tr (k + 1))) (by rw [mRepV, if_neg c9]; rfl) ?_
      refine lv_istore_n (lv' := [(2, .int (mRepV (up2 y 18 0 (nI 0)) tr (k + 1))), (3, .int (nI k)), (0, .ref E.1.1), (1, .int tr)]) hx hb dX3_reprint_70 rfl hl (by decide) rfl (fun ls hl => ?_)
      refine lv_aload_n hx hb dX3_reprint_71 rfl (lv_at hl 2 rfl) ?_
      refine m_get hx hb hts hin hown hK hP 16 (by decide) k56 rfl rfl dX3_reprint_72 ?_
      refine lv_iload_n hx hb dX3_reprint_75 rfl (lv_at hl 1 rfl) ?_
      refine lv_iconst (v := nI 0) hx hb dX3_reprint_76 (by decide) ?_
      refine q_ist hx hb hK hP hD hS 16 0 rfl rfl k rfl (by omega) (by decide) dX3_reprint_77 (fun H locs hP hD hS => ?_)
      replace hP : va_P D vwCl (mW E (up2 (up2 (mRepY (up2 y 18 0 (nI 0)) tr k) 15 k (((mRepY (up2 y 18 0 (nI 0)) tr k) 15 k) + ((mRepY (up2 y 18 0 (nI 0)) tr k) 16 k))) 16 k (nI 0))) H := hP
      replace hD : va_D A (mW E (up2 (up2 (mRepY (up2 y 18 0 (nI 0)) tr k) 15 k (((mRepY (up2 y 18 0 (nI 0)) tr k) 15 k) + ((mRepY (up2 y 18 0 (nI 0)) tr k) 16 k))) 16 k (nI 0))) := hD
      have ey : up2 (up2 (mRepY (up2 y 18 0 (nI 0)) tr k) 15 k (((mRepY (up2 y 18 0 (nI 0)) tr k) 15 k) + ((mRepY (up2 y 18 0 (nI 0)) tr k) 16 k))) 16 k (nI 0) = mRepY (up2 y 18 0 (nI 0)) tr (k + 1) := (by rw [mRepY, if_neg c9])
      rw [ey] at hP hD
      clear ey
      refine q_inc (k := 1) (lv' := [(3, .int (nI (k + 1))), (2, .int (mRepV (up2 y 18 0 (nI 0)) tr (k + 1))), (0, .ref E.1.1), (1, .int tr)]) hx hb dX3_reprint_78 hl rfl (by decide) rfl (fun ls hl => ?_)
      refine lv_goto (tgt := 31) hx hb dX3_reprint_81 (by decide) ?_
      apply ih (k := k + 1) (H := H) (locs := locs) (ls := ls)
      all_goals first | omega | assumption

set_option maxHeartbeats 4000000 in
set_option maxRecDepth 100000 in
theorem c_X3_comeOut (l : Launch) (D : va_G) (E : mE) (tl : gTy) (y : Nat → Nat → Int32)   : gV l yX3_comeOut wsX3_comeOut ({ frames := 0, cells := 0, slots := 0, locals := 0 } : Room) D (mT E tl) (mW E y) [.ref E.1.1] (fun u : Nat → Nat → Int32 => u = mOut y 8) (mW E) 0 0 := by
  refine gM.start (cc := cX3_comeOut) (maxL := 2) (ret := none) (own := RX3) rfl (by decide) rfl (Nat.le_of_ble_eq_true rfl) ?_
  intro pr e s m args below meth c A ls H locs hx hb hml hr hts hown hlocks hname hA hK hP hD hS hl
  replace hl : lv_has ls 2 [(0, .ref E.1.1)] := hl
  have hin : ∀ w ∈ wsX30, w ∈ wsX3_comeOut := by decide +kernel
  have k32 := hts (.fieldLink RX3 32 "FairFolioModel" "state" "[I") (by decide +kernel)
  have k38 := hts (.fieldLink RX3 38 "FairFolioModel" "until" "[I") (by decide +kernel)
  have k91 := hts (.fieldLink RX3 91 "FairFolioModel" "minute" "I") (by decide +kernel)
  have k41 := hts (.fieldLink RX3 41 "FairFolioModel" "stamps" "[I") (by decide +kernel)
  have k35 := hts (.fieldLink RX3 35 "FairFolioModel" "where" "[I") (by decide +kernel)
  refine lv_iconst (v := nI 0) hx hb dX3_comeOut_0 (by decide) ?_
  refine lv_istore_n (lv' := [(1, .int (nI 0)), (0, .ref E.1.1)]) hx hb dX3_comeOut_1 rfl hl (by decide) rfl (fun ls hl => ?_)
  obtain ⟨k, hk⟩ : ∃ k : Nat, k = 0 := ⟨_, rfl⟩
  obtain ⟨nn, hn⟩ : ∃ nn : Nat, k + nn = 8 := ⟨8 - 0, by omega⟩
  replace hl : lv_has ls 2 [(1, .int (nI k)), (0, .ref E.1.1)] := by rw [hk]; exact hl
  replace hP : va_P D vwCl (mW E (mOut y k)) H := by rw [hk]; exact hP
  replace hD : va_D A (mW E (mOut y k)) := by rw [hk]; exact hD
  clear hk
  induction nn generalizing k H locs ls with
  | zero =>
    obtain rfl : k = 8 := by omega
    refine lv_iload_n hx hb dX3_comeOut_2 rfl (lv_at hl 0 rfl) ?_
    refine lv_bipush (v := nI 8) hx hb dX3_comeOut_3 (by decide) ?_
    refine q_icmp_ge (tgt := 68) hx hb (by omega) (by omega) dX3_comeOut_5 (by decide) (fun c8 => ?_) (fun c8 => absurd c8 (by omega))
    exact W.vret hx hb hr (fun t ht hW => ⟨⟨mOut y 8, rfl, rfl, by rw [ht]; exact hP, va_K.moved hW.alike hK, hD⟩, hS.F ht⟩) hS.2.2 dX3_comeOut_68
  | succ nn ih =>
    refine lv_iload_n hx hb dX3_comeOut_2 rfl (lv_at hl 0 rfl) ?_
    refine lv_bipush (v := nI 8) hx hb dX3_comeOut_3 (by decide) ?_
    refine q_icmp_ge (tgt := 68) hx hb (by omega) (by omega) dX3_comeOut_5 (by decide) (fun c8 => absurd c8 (by omega)) (fun c8 => ?_)
    refine lv_aload_n hx hb dX3_comeOut_8 rfl (lv_at hl 1 rfl) ?_
    refine m_get hx hb hts hin hown hK hP 8 (by decide) k32 rfl rfl dX3_comeOut_9 ?_
    refine lv_iload_n hx hb dX3_comeOut_12 rfl (lv_at hl 0 rfl) ?_
    refine q_ild hx hb hK hP 8 0 rfl rfl k rfl (by omega) (by decide) dX3_comeOut_13 ?_
    refine lv_iconst (v := nI 2) hx hb dX3_comeOut_14 (by decide) ?_
    refine lv_icmp_ne (tgt := 62) hx hb dX3_comeOut_15 (by decide) (fun c9 => ?_) (fun c9 => ?_)
    · have ey : mOut y k = mOut y (k + 1) := (by rw [mOut, mOut1, if_neg (fun q => c9 q.1)])
      rw [ey] at hP hD
      clear ey
      refine q_inc (k := 0) (lv' := [(1, .int (nI (k + 1))), (0, .ref E.1.1)]) hx hb dX3_comeOut_62 hl rfl (by decide) rfl (fun ls hl => ?_)
      refine lv_goto (tgt := 2) hx hb dX3_comeOut_65 (by decide) ?_
      apply ih (k := k + 1) (H := H) (locs := locs) (ls := ls)
      all_goals first | omega | assumption
    · refine lv_aload_n hx hb dX3_comeOut_18 rfl (lv_at hl 1 rfl) ?_
      refine m_get hx hb hts hin hown hK hP 10 (by decide) k38 rfl rfl dX3_comeOut_19 ?_
      refine lv_iload_n hx hb dX3_comeOut_22 rfl (lv_at hl 0 rfl) ?_
      refine q_ild hx hb hK hP 10 0 rfl rfl k rfl (by omega) (by decide) dX3_comeOut_23 ?_
      refine lv_aload_n hx hb dX3_comeOut_24 rfl (lv_at hl 1 rfl) ?_
      refine m_get hx hb hts hin hown hK hP 0 (by decide) k91 rfl rfl dX3_comeOut_25 ?_
      refine lv_icmp_gt (tgt := 62) hx hb dX3_comeOut_28 (by decide) (fun c10 => ?_) (fun c10 => ?_)
      · have ey : mOut y k = mOut y (k + 1) := (by rw [mOut, mOut1, if_neg (fun q => absurd q.2 (Int32.not_le.mpr c10))])
        rw [ey] at hP hD
        clear ey
        refine q_inc (k := 0) (lv' := [(1, .int (nI (k + 1))), (0, .ref E.1.1)]) hx hb dX3_comeOut_62 hl rfl (by decide) rfl (fun ls hl => ?_)
        refine lv_goto (tgt := 2) hx hb dX3_comeOut_65 (by decide) ?_
        apply ih (k := k + 1) (H := H) (locs := locs) (ls := ls)
        all_goals first | omega | assumption
      · refine lv_aload_n hx hb dX3_comeOut_31 rfl (lv_at hl 1 rfl) ?_
        refine m_get hx hb hts hin hown hK hP 11 (by decide) k41 rfl rfl dX3_comeOut_32 ?_
        refine lv_iload_n hx hb dX3_comeOut_35 rfl (lv_at hl 0 rfl) ?_
        refine lv_dup2_11 hx hb dX3_comeOut_36 rfl rfl ?_
        refine q_ild hx hb hK hP 11 0 rfl rfl k rfl (by omega) (by decide) dX3_comeOut_37 ?_
        refine lv_iconst (v := nI 1) hx hb dX3_comeOut_38 (by decide) ?_
        refine lv_aload_n hx hb dX3_comeOut_39 rfl (lv_at hl 1 rfl) ?_
        refine m_get hx hb hts hin hown hK hP 9 (by decide) k35 rfl rfl dX3_comeOut_40 ?_
        refine lv_iload_n hx hb dX3_comeOut_43 rfl (lv_at hl 0 rfl) ?_
        refine q_ild hx hb hK hP 9 0 rfl rfl k rfl (by omega) (by decide) dX3_comeOut_44 ?_
        refine lv_ishl hx hb dX3_comeOut_45 ?_
        refine lv_ior hx hb dX3_comeOut_46 ?_
        refine q_ist hx hb hK hP hD hS 11 0 rfl rfl k rfl (by omega) (by decide) dX3_comeOut_47 (fun H locs hP hD hS => ?_)
        replace hP : va_P D vwCl (mW E (up2 (mOut y k) 11 k (((mOut y k) 11 k) ||| ((nI 1) <<< (((mOut y k) 9 k) &&& 31))))) H := hP
        replace hD : va_D A (mW E (up2 (mOut y k) 11 k (((mOut y k) 11 k) ||| ((nI 1) <<< (((mOut y k) 9 k) &&& 31))))) := hD
        refine lv_aload_n hx hb dX3_comeOut_48 rfl (lv_at hl 1 rfl) ?_
        refine m_get hx hb hts hin hown hK hP 8 (by decide) k32 rfl rfl dX3_comeOut_49 ?_
        refine lv_iload_n hx hb dX3_comeOut_52 rfl (lv_at hl 0 rfl) ?_
        refine lv_iconst (v := nI 0) hx hb dX3_comeOut_53 (by decide) ?_
        refine q_ist hx hb hK hP hD hS 8 0 rfl rfl k rfl (by omega) (by decide) dX3_comeOut_54 (fun H locs hP hD hS => ?_)
        replace hP : va_P D vwCl (mW E (up2 (up2 (mOut y k) 11 k (((mOut y k) 11 k) ||| ((nI 1) <<< (((mOut y k) 9 k) &&& 31)))) 8 k (nI 0))) H := hP
        replace hD : va_D A (mW E (up2 (up2 (mOut y k) 11 k (((mOut y k) 11 k) ||| ((nI 1) <<< (((mOut y k) 9 k) &&& 31)))) 8 k (nI 0))) := hD
        refine lv_aload_n hx hb dX3_comeOut_55 rfl (lv_at hl 1 rfl) ?_
        refine m_get hx hb hts hin hown hK hP 9 (by decide) k35 rfl rfl dX3_comeOut_56 ?_
        refine lv_iload_n hx hb dX3_comeOut_59 rfl (lv_at hl 0 rfl) ?_
        refine lv_iconst (v := -1) hx hb dX3_comeOut_60 (by decide) ?_
        refine q_ist hx hb hK hP hD hS 9 0 rfl rfl k rfl (by omega) (by decide) dX3_comeOut_61 (fun H locs hP hD hS => ?_)
        replace hP : va_P D vwCl (mW E (up2 (up2 (up2 (mOut y k) 11 k (((mOut y k) 11 k) ||| ((nI 1) <<< (((mOut y k) 9 k) &&& 31)))) 8 k (nI 0)) 9 k (-1))) H := hP
        replace hD : va_D A (mW E (up2 (up2 (up2 (mOut y k) 11 k (((mOut y k) 11 k) ||| ((nI 1) <<< (((mOut y k) 9 k) &&& 31)))) 8 k (nI 0)) 9 k (-1))) := hD
        have ey : up2 (up2 (up2 (mOut y k) 11 k (((mOut y k) 11 k) ||| ((nI 1) <<< (((mOut y k) 9 k) &&& 31)))) 8 k (nI 0)) 9 k (-1) = mOut y (k + 1) := (by rw [mOut, mOut1, if_pos ⟨c9, Int32.not_lt.mp c10⟩])
        rw [ey] at hP hD
        clear ey
        refine q_inc (k := 0) (lv' := [(1, .int (nI (k + 1))), (0, .ref E.1.1)]) hx hb dX3_comeOut_62 hl rfl (by decide) rfl (fun ls hl => ?_)
        refine lv_goto (tgt := 2) hx hb dX3_comeOut_65 (by decide) ?_
        apply ih (k := k + 1) (H := H) (locs := locs) (ls := ls)
        all_goals first | omega | assumption

set_option maxHeartbeats 4000000 in
set_option maxRecDepth 100000 in
theorem c_X3_takeTurns (l : Launch) (D : va_G) (E : mE) (tl : gTy) (y : Nat → Nat → Int32) (y1 : Nat → Nat → Int32) (ht : mTTs 8 0 y y1)  : gV l yX3_takeTurns wsX3_takeTurns ({ frames := 2, cells := 0, slots := 0, locals := 48 } : Room) D (mT E tl) (mW E y) [.ref E.1.1] (fun u : Nat → Nat → Int32 => u = y1) (mW E) 0 0 := by
  refine gM.start (cc := cX3_takeTurns) (maxL := 4) (ret := none) (own := RX3) rfl (by decide) rfl (Nat.le_of_ble_eq_true rfl) ?_
  intro pr e s m args below meth c A ls H locs hx hb hml hr hts hown hlocks hname hA hK hP hD hS hl
  replace hl : lv_has ls 4 [(0, .ref E.1.1)] := hl
  have hin : ∀ w ∈ wsX30, w ∈ wsX3_takeTurns := by decide +kernel
  have k44 := hts (.fieldLink RX3 44 "FairFolioModel" "turn" "[I") (by decide +kernel)
  have k91 := hts (.fieldLink RX3 91 "FairFolioModel" "minute" "I") (by decide +kernel)
  have k50 := hts (.fieldLink RX3 50 "FairFolioModel" "isByTurn" "[Z") (by decide +kernel)
  have k47 := hts (.fieldLink RX3 47 "FairFolioModel" "turnFor" "[I") (by decide +kernel)
  have k32 := hts (.fieldLink RX3 32 "FairFolioModel" "state" "[I") (by decide +kernel)
  have k16 := hts (.fieldLink RX3 16 "FairFolioModel" "isClosed" "[Z") (by decide +kernel)
  have k23 := hts (.fieldLink RX3 23 "FairFolioModel" "waiting" "[I") (by decide +kernel)
  have k20 := hts (.fieldLink RX3 20 "FairFolioModel" "queue" "[I") (by decide +kernel)
  refine lv_iconst (v := nI 0) hx hb dX3_takeTurns_0 (by decide) ?_
  refine lv_istore_n (lv' := [(1, .int (nI 0)), (0, .ref E.1.1)]) hx hb dX3_takeTurns_1 rfl hl (by decide) rfl (fun ls hl => ?_)
  obtain ⟨z, hz⟩ : ∃ z, z = y := ⟨_, rfl⟩
  rw [← hz] at hP hD ht
  clear hz
  obtain ⟨k, hk⟩ : ∃ k : Nat, k = 0 := ⟨_, rfl⟩
  obtain ⟨nn, hn⟩ : ∃ nn : Nat, nn = 8 := ⟨_, rfl⟩
  replace hl : lv_has ls 4 [(1, .int (nI k)), (0, .ref E.1.1)] := by rw [hk]; exact hl
  rw [← hk, ← hn] at ht
  replace hn : k + nn = 8 := by omega
  clear hk
  induction nn generalizing z k H locs ls with
  | zero =>
    obtain rfl := ht
    obtain rfl : k = 8 := by omega
    refine lv_iload_n hx hb dX3_takeTurns_2 rfl (lv_at hl 0 rfl) ?_
    refine lv_bipush (v := nI 8) hx hb dX3_takeTurns_3 (by decide) ?_
    refine q_icmp_ge (tgt := 136) hx hb (by omega) (by omega) dX3_takeTurns_5 (by decide) (fun c8 => ?_) (fun c8 => absurd c8 (by omega))
    exact W.vret hx hb hr (fun t ht hW => ⟨⟨y1, rfl, rfl, by rw [ht]; exact hP, va_K.moved hW.alike hK, hD⟩, hS.F ht⟩) hS.2.2 dX3_takeTurns_136
  | succ nn ih =>
    obtain ⟨z1, ht1, ht⟩ := ht
    refine lv_iload_n hx hb dX3_takeTurns_2 rfl (lv_at hl 0 rfl) ?_
    refine lv_bipush (v := nI 8) hx hb dX3_takeTurns_3 (by decide) ?_
    refine q_icmp_ge (tgt := 136) hx hb (by omega) (by omega) dX3_takeTurns_5 (by decide) (fun c8 => absurd c8 (by omega)) (fun c8 => ?_)
    refine lv_aload_n hx hb dX3_takeTurns_8 rfl (lv_at hl 1 rfl) ?_
    refine m_get hx hb hts hin hown hK hP 12 (by decide) k44 rfl rfl dX3_takeTurns_9 ?_
    refine lv_iload_n hx hb dX3_takeTurns_12 rfl (lv_at hl 0 rfl) ?_
    refine q_ild hx hb hK hP 12 0 rfl rfl k rfl (by omega) (by decide) dX3_takeTurns_13 ?_
    refine lv_aload_n hx hb dX3_takeTurns_14 rfl (lv_at hl 1 rfl) ?_
    refine m_get hx hb hts hin hown hK hP 0 (by decide) k91 rfl rfl dX3_takeTurns_15 ?_
    rcases ht1 with ⟨gn, hs⟩ | ⟨g1, g2, p, g3, g4, ⟨gl, hs⟩ | ⟨g5, g6, y2, w, a, hy, hw7, h5, hat, haw, hs⟩⟩
    · obtain rfl := hs
      refine lv_icmp_ne (tgt := 130) hx hb dX3_takeTurns_18 (by decide) (fun c9 => ?_) (fun c9 => ?_)
      · refine q_inc (k := 0) (lv' := [(1, .int (nI (k + 1))), (0, .ref E.1.1)]) hx hb dX3_takeTurns_130 hl rfl (by decide) rfl (fun ls hl => ?_)
        refine lv_goto (tgt := 2) hx hb dX3_takeTurns_133 (by decide) ?_
        apply ih (k := k + 1) (H := H) (locs := locs) (ls := ls)
        all_goals first | omega | assumption
      · refine lv_aload_n hx hb dX3_takeTurns_21 rfl (lv_at hl 1 rfl) ?_
        refine m_get hx hb hts hin hown hK hP 14 (by decide) k50 rfl rfl dX3_takeTurns_22 ?_
        refine lv_iload_n hx hb dX3_takeTurns_25 rfl (lv_at hl 0 rfl) ?_
        refine q_zld hx hb hK hP 14 1 rfl rfl k rfl (by omega) (by decide) dX3_takeTurns_26 ?_
        refine lv_if_ne (tgt := 130) hx hb dX3_takeTurns_27 (by decide) (fun c10 => ?_) (fun c10 => gn.elim (fun q => absurd c9 q) (fun q => absurd c10 q))
        refine q_inc (k := 0) (lv' := [(1, .int (nI (k + 1))), (0, .ref E.1.1)]) hx hb dX3_takeTurns_130 hl rfl (by decide) rfl (fun ls hl => ?_)
        refine lv_goto (tgt := 2) hx hb dX3_takeTurns_133 (by decide) ?_
        apply ih (k := k + 1) (H := H) (locs := locs) (ls := ls)
        all_goals first | omega | assumption
    · obtain rfl := hs
      refine lv_icmp_ne (tgt := 130) hx hb dX3_takeTurns_18 (by decide) (fun c9 => absurd g1 c9) (fun c9 => ?_)
      refine lv_aload_n hx hb dX3_takeTurns_21 rfl (lv_at hl 1 rfl) ?_
      refine m_get hx hb hts hin hown hK hP 14 (by decide) k50 rfl rfl dX3_takeTurns_22 ?_
      refine lv_iload_n hx hb dX3_takeTurns_25 rfl (lv_at hl 0 rfl) ?_
      refine q_zld hx hb hK hP 14 1 rfl rfl k rfl (by omega) (by decide) dX3_takeTurns_26 ?_
      refine q_top (x' := (nI 0)) g2 ?_
      refine q_if_ne (tgt := 130) hx hb (by omega) dX3_takeTurns_27 (by decide) (fun c_1 => absurd c_1 (by decide)) (fun c_1 => ?_)
      refine lv_aload_n hx hb dX3_takeTurns_30 rfl (lv_at hl 1 rfl) ?_
      refine m_get hx hb hts hin hown hK hP 13 (by decide) k47 rfl rfl dX3_takeTurns_31 ?_
      refine lv_iload_n hx hb dX3_takeTurns_34 rfl (lv_at hl 0 rfl) ?_
      refine q_ild hx hb hK hP 13 0 rfl rfl k rfl (by omega) (by decide) dX3_takeTurns_35 ?_
      refine q_top (x' := (nI p)) g4 ?_
      refine lv_istore_n (lv' := [(2, .int (nI p)), (1, .int (nI k)), (0, .ref E.1.1)]) hx hb dX3_takeTurns_36 rfl hl (by decide) rfl (fun ls hl => ?_)
      refine lv_aload_n hx hb dX3_takeTurns_37 rfl (lv_at hl 2 rfl) ?_
      refine m_get hx hb hts hin hown hK hP 8 (by decide) k32 rfl rfl dX3_takeTurns_38 ?_
      refine lv_iload_n hx hb dX3_takeTurns_41 rfl (lv_at hl 1 rfl) ?_
      refine q_ild hx hb hK hP 8 0 rfl rfl k rfl (by omega) (by decide) dX3_takeTurns_42 ?_
      refine lv_iconst (v := nI 2) hx hb dX3_takeTurns_43 (by decide) ?_
      refine lv_icmp_eq (tgt := 56) hx hb dX3_takeTurns_44 (by decide) (fun c11 => ?_) (fun c11 => ?_)
      · refine lv_aload_n hx hb dX3_takeTurns_56 rfl (lv_at hl 2 rfl) ?_
        refine lv_iload_n hx hb dX3_takeTurns_57 rfl (lv_at hl 1 rfl) ?_
        refine g_callv (As := [.int (nI k)]) (rest := []) ⟨hx, hb, hml, hown, hts⟩ (c_X3_loses l D E tl z k (by omega)) (cwV 1 hts gX3_takeTurns_X3_loses rfl rfl rfl (by decide +kernel) ⟨Nat.le_of_ble_eq_true rfl, Nat.le_of_ble_eq_true rfl⟩) (m_recv hK hP) hK hP hD hS hA rfl hl.1 rfl (Nat.le_of_ble_eq_true rfl) dX3_takeTurns_58 ⟨Nat.le_of_ble_eq_true rfl, Nat.le_of_ble_eq_true rfl⟩ (fun u_3 H locs hw hP hD hS => ?_)
        rw [hw] at hP hD
        refine lv_goto (tgt := 130) hx hb dX3_takeTurns_61 (by decide) ?_
        refine q_inc (k := 1) (lv' := [(1, .int (nI (k + 1))), (2, .int (nI p)), (0, .ref E.1.1)]) hx hb dX3_takeTurns_130 hl rfl (by decide) rfl (fun ls hl => ?_)
        refine lv_goto (tgt := 2) hx hb dX3_takeTurns_133 (by decide) ?_
        replace hl : lv_has ls 4 [(1, .int (nI (k + 1))), (0, .ref E.1.1)] := lv_sub hl [0, 2] rfl
        apply ih (k := k + 1) (H := H) (locs := locs) (ls := ls)
        all_goals first | omega | assumption
      · refine lv_aload_n hx hb dX3_takeTurns_47 rfl (lv_at hl 2 rfl) ?_
        refine m_get hx hb hts hin hown hK hP 3 (by decide) k16 rfl rfl dX3_takeTurns_48 ?_
        refine lv_iload_n hx hb dX3_takeTurns_51 rfl (lv_at hl 0 rfl) ?_
        refine q_zld hx hb hK hP 3 1 rfl rfl p rfl (by omega) (by decide) dX3_takeTurns_52 ?_
        refine lv_if_eq (tgt := 64) hx hb dX3_takeTurns_53 (by decide) (fun c12 => gl.elim (fun q => absurd q c11) (fun q => absurd c12 q)) (fun c12 => ?_)
        refine lv_aload_n hx hb dX3_takeTurns_56 rfl (lv_at hl 2 rfl) ?_
        refine lv_iload_n hx hb dX3_takeTurns_57 rfl (lv_at hl 1 rfl) ?_
        refine g_callv (As := [.int (nI k)]) (rest := []) ⟨hx, hb, hml, hown, hts⟩ (c_X3_loses l D E tl z k (by omega)) (cwV 1 hts gX3_takeTurns_X3_loses rfl rfl rfl (by decide +kernel) ⟨Nat.le_of_ble_eq_true rfl, Nat.le_of_ble_eq_true rfl⟩) (m_recv hK hP) hK hP hD hS hA rfl hl.1 rfl (Nat.le_of_ble_eq_true rfl) dX3_takeTurns_58 ⟨Nat.le_of_ble_eq_true rfl, Nat.le_of_ble_eq_true rfl⟩ (fun u_6 H locs hw hP hD hS => ?_)
        rw [hw] at hP hD
        refine lv_goto (tgt := 130) hx hb dX3_takeTurns_61 (by decide) ?_
        refine q_inc (k := 1) (lv' := [(1, .int (nI (k + 1))), (2, .int (nI p)), (0, .ref E.1.1)]) hx hb dX3_takeTurns_130 hl rfl (by decide) rfl (fun ls hl => ?_)
        refine lv_goto (tgt := 2) hx hb dX3_takeTurns_133 (by decide) ?_
        replace hl : lv_has ls 4 [(1, .int (nI (k + 1))), (0, .ref E.1.1)] := lv_sub hl [0, 2] rfl
        apply ih (k := k + 1) (H := H) (locs := locs) (ls := ls)
        all_goals first | omega | assumption
    · obtain rfl := hs
      refine lv_icmp_ne (tgt := 130) hx hb dX3_takeTurns_18 (by decide) (fun c9 => absurd g1 c9) (fun c9 => ?_)
      refine lv_aload_n hx hb dX3_takeTurns_21 rfl (lv_at hl 1 rfl) ?_
      refine m_get hx hb hts hin hown hK hP 14 (by decide) k50 rfl rfl dX3_takeTurns_22 ?_
      refine lv_iload_n hx hb dX3_takeTurns_25 rfl (lv_at hl 0 rfl) ?_
      refine q_zld hx hb hK hP 14 1 rfl rfl k rfl (by omega) (by decide) dX3_takeTurns_26 ?_
      refine q_top (x' := (nI 0)) g2 ?_
      refine q_if_ne (tgt := 130) hx hb (by omega) dX3_takeTurns_27 (by decide) (fun c_8 => absurd c_8 (by decide)) (fun c_8 => ?_)
      refine lv_aload_n hx hb dX3_takeTurns_30 rfl (lv_at hl 1 rfl) ?_
      refine m_get hx hb hts hin hown hK hP 13 (by decide) k47 rfl rfl dX3_takeTurns_31 ?_
      refine lv_iload_n hx hb dX3_takeTurns_34 rfl (lv_at hl 0 rfl) ?_
      refine q_ild hx hb hK hP 13 0 rfl rfl k rfl (by omega) (by decide) dX3_takeTurns_35 ?_
      refine q_top (x' := (nI p)) g4 ?_
      refine lv_istore_n (lv' := [(2, .int (nI p)), (1, .int (nI k)), (0, .ref E.1.1)]) hx hb dX3_takeTurns_36 rfl hl (by decide) rfl (fun ls hl => ?_)
      refine lv_aload_n hx hb dX3_takeTurns_37 rfl (lv_at hl 2 rfl) ?_
      refine m_get hx hb hts hin hown hK hP 8 (by decide) k32 rfl rfl dX3_takeTurns_38 ?_
      refine lv_iload_n hx hb dX3_takeTurns_41 rfl (lv_at hl 1 rfl) ?_
      refine q_ild hx hb hK hP 8 0 rfl rfl k rfl (by omega) (by decide) dX3_takeTurns_42 ?_
      refine lv_iconst (v := nI 2) hx hb dX3_takeTurns_43 (by decide) ?_
      refine lv_icmp_eq (tgt := 56) hx hb dX3_takeTurns_44 (by decide) (fun c11 => absurd c11 g5) (fun c11 => ?_)
      refine lv_aload_n hx hb dX3_takeTurns_47 rfl (lv_at hl 2 rfl) ?_
      refine m_get hx hb hts hin hown hK hP 3 (by decide) k16 rfl rfl dX3_takeTurns_48 ?_
      refine lv_iload_n hx hb dX3_takeTurns_51 rfl (lv_at hl 0 rfl) ?_
      refine q_zld hx hb hK hP 3 1 rfl rfl p rfl (by omega) (by decide) dX3_takeTurns_52 ?_
      refine q_top (x' := (nI 0)) g6 ?_
      refine q_if_eq (tgt := 64) hx hb (by omega) dX3_takeTurns_53 (by decide) (fun c_9 => ?_) (fun c_9 => absurd c_9 (by decide))
      refine lv_aload_n hx hb dX3_takeTurns_64 rfl (lv_at hl 2 rfl) ?_
      refine m_get hx hb hts hin hown hK hP 8 (by decide) k32 rfl rfl dX3_takeTurns_65 ?_
      refine lv_iload_n hx hb dX3_takeTurns_68 rfl (lv_at hl 1 rfl) ?_
      refine q_ild hx hb hK hP 8 0 rfl rfl k rfl (by omega) (by decide) dX3_takeTurns_69 ?_
      refine lv_iconst (v := nI 1) hx hb dX3_takeTurns_70 (by decide) ?_
      rcases hy with ⟨g7, hlv⟩ | ⟨g7, hlv⟩
      · refine lv_icmp_ne (tgt := 79) hx hb dX3_takeTurns_71 (by decide) (fun c15 => absurd g7 c15) (fun c15 => ?_)
        refine lv_aload_n hx hb dX3_takeTurns_74 rfl (lv_at hl 2 rfl) ?_
        refine lv_iload_n hx hb dX3_takeTurns_75 rfl (lv_at hl 1 rfl) ?_
        obtain ⟨p1, w1, a1, q1, q2, q3, q4, q5, q6, q7, rfl⟩ := hlv
        refine g_callv (As := [.int (nI k)]) (rest := []) ⟨hx, hb, hml, hown, hts⟩ (c_X3_leaves l D E tl z k p1 w1 a1 (by omega) q1 q2 q3 q4 q5 q6 q7) (cwV 1 hts gX3_takeTurns_X3_leaves rfl rfl rfl (by decide +kernel) ⟨Nat.le_of_ble_eq_true rfl, Nat.le_of_ble_eq_true rfl⟩) (m_recv hK hP) hK hP hD hS hA rfl hl.1 rfl (Nat.le_of_ble_eq_true rfl) dX3_takeTurns_76 ⟨Nat.le_of_ble_eq_true rfl, Nat.le_of_ble_eq_true rfl⟩ (fun u_11 H locs hw hP hD hS => ?_)
        rw [hw] at hP hD
        refine lv_iconst (v := nI 0) hx hb dX3_takeTurns_79 (by decide) ?_
        refine lv_istore_n (lv' := [(3, .int (nI 0)), (2, .int (nI p)), (1, .int (nI k)), (0, .ref E.1.1)]) hx hb dX3_takeTurns_80 rfl hl (by decide) rfl (fun ls hl => ?_)
        replace hl : lv_has ls 4 [(3, .int (nI 0)), (2, .int (nI p)), (1, .int (nI k)), (0, .ref E.1.1)] := lv_sub hl [0, 1, 2, 3] rfl
        obtain ⟨b, hb0⟩ : ∃ b : Nat, b = 0 := ⟨_, rfl⟩
        obtain ⟨mm, hm⟩ : ∃ mm : Nat, mm = w := ⟨_, rfl⟩
        replace hl : lv_has ls 4 [(3, .int (nI b)), (2, .int (nI p)), (1, .int (nI k)), (0, .ref E.1.1)] := by rw [hb0]; exact hl
        rw [← hb0, ← hm] at hat
        replace hm : b + mm = w := by omega
        clear hb0
        induction mm generalizing b ls with
        | zero =>
          have hbw : b = w := by omega
          obtain rfl := hat
          refine lv_iload_n hx hb dX3_takeTurns_81 rfl (lv_at hl 0 rfl) ?_
          refine lv_aload_n hx hb dX3_takeTurns_82 rfl (lv_at hl 3 rfl) ?_
          refine m_get hx hb hts hin hown hK hP 5 (by decide) k23 rfl rfl dX3_takeTurns_83 ?_
          refine lv_iload_n hx hb dX3_takeTurns_86 rfl (lv_at hl 1 rfl) ?_
          refine q_ild hx hb hK hP 5 0 rfl rfl p rfl (by omega) (by decide) dX3_takeTurns_87 ?_
          refine q_top (x' := (nI w)) h5 ?_
          refine q_icmp_ge (tgt := 116) hx hb (by omega) (by omega) dX3_takeTurns_88 (by decide) (fun c20 => ?_) (fun c20 => absurd c20 (by omega))
          refine lv_aload_n hx hb dX3_takeTurns_116 rfl (lv_at hl 3 rfl) ?_
          refine lv_iload_n hx hb dX3_takeTurns_117 rfl (lv_at hl 1 rfl) ?_
          refine lv_iload_n hx hb dX3_takeTurns_118 rfl (lv_at hl 0 rfl) ?_
          refine lv_iload_n hx hb dX3_takeTurns_119 rfl (lv_at hl 2 rfl) ?_
          refine g_callv (As := [.int (nI p), .int (nI a), .int (nI k)]) (rest := []) ⟨hx, hb, hml, hown, hts⟩ (c_X3_puts l D E tl (mLeave z k p1 w1 a1) p a k w g3 (by omega) hw7 (by omega) h5) (cwV 3 hts gX3_takeTurns_X3_puts rfl rfl rfl (by decide +kernel) ⟨Nat.le_of_ble_eq_true rfl, Nat.le_of_ble_eq_true rfl⟩) (m_recv hK hP) hK hP hD hS hA rfl hl.1 rfl (Nat.le_of_ble_eq_true rfl) dX3_takeTurns_120 ⟨Nat.le_of_ble_eq_true rfl, Nat.le_of_ble_eq_true rfl⟩ (fun u_14 H locs hw hP hD hS => ?_)
          rw [hw] at hP hD
          refine lv_aload_n hx hb dX3_takeTurns_123 rfl (lv_at hl 3 rfl) ?_
          refine m_get hx hb hts hin hown hK hP 14 (by decide) k50 rfl rfl dX3_takeTurns_124 ?_
          refine lv_iload_n hx hb dX3_takeTurns_127 rfl (lv_at hl 2 rfl) ?_
          refine lv_iconst (v := nI 1) hx hb dX3_takeTurns_128 (by decide) ?_
          refine q_zst hx hb hK hP hD hS 14 1 rfl rfl k rfl (by omega) (by decide) (Or.inr rfl) dX3_takeTurns_129 (fun H locs hP hD hS => ?_)
          replace hP : va_P D vwCl (mW E (up2 (mPuts (mLeave z k p1 w1 a1) p a k w) 14 k (nI 1))) H := hP
          replace hD : va_D A (mW E (up2 (mPuts (mLeave z k p1 w1 a1) p a k w) 14 k (nI 1))) := hD
          refine q_inc (k := 2) (lv' := [(1, .int (nI (k + 1))), (3, .int (nI a)), (2, .int (nI p)), (0, .ref E.1.1)]) hx hb dX3_takeTurns_130 hl rfl (by decide) rfl (fun ls hl => ?_)
          refine lv_goto (tgt := 2) hx hb dX3_takeTurns_133 (by decide) ?_
          replace hl : lv_has ls 4 [(1, .int (nI (k + 1))), (0, .ref E.1.1)] := lv_sub hl [0, 3] rfl
          apply ih (k := k + 1) (H := H) (locs := locs) (ls := ls)
          all_goals first | omega | assumption
        | succ mm ih2 =>
          obtain ⟨v, hv, hq, hat⟩ := hat
          refine lv_iload_n hx hb dX3_takeTurns_81 rfl (lv_at hl 0 rfl) ?_
          refine lv_aload_n hx hb dX3_takeTurns_82 rfl (lv_at hl 3 rfl) ?_
          refine m_get hx hb hts hin hown hK hP 5 (by decide) k23 rfl rfl dX3_takeTurns_83 ?_
          refine lv_iload_n hx hb dX3_takeTurns_86 rfl (lv_at hl 1 rfl) ?_
          refine q_ild hx hb hK hP 5 0 rfl rfl p rfl (by omega) (by decide) dX3_takeTurns_87 ?_
          refine q_top (x' := (nI w)) h5 ?_
          refine q_icmp_ge (tgt := 116) hx hb (by omega) (by omega) dX3_takeTurns_88 (by decide) (fun c20 => absurd c20 (by omega)) (fun c20 => ?_)
          refine lv_aload_n hx hb dX3_takeTurns_91 rfl (lv_at hl 3 rfl) ?_
          refine m_get hx hb hts hin hown hK hP 14 (by decide) k50 rfl rfl dX3_takeTurns_92 ?_
          refine lv_aload_n hx hb dX3_takeTurns_95 rfl (lv_at hl 3 rfl) ?_
          refine m_get hx hb hts hin hown hK hP 4 (by decide) k20 rfl rfl dX3_takeTurns_96 ?_
          refine lv_bipush (v := nI 8) hx hb dX3_takeTurns_99 (by decide) ?_
          refine lv_iload_n hx hb dX3_takeTurns_101 rfl (lv_at hl 1 rfl) ?_
          refine q_mul hx hb dX3_takeTurns_102 ?_
          refine lv_iload_n hx hb dX3_takeTurns_103 rfl (lv_at hl 0 rfl) ?_
          refine q_add hx hb dX3_takeTurns_104 ?_
          refine q_ild hx hb hK hP 4 0 rfl rfl ((8 * p) + b) rfl (by omega) (by decide) dX3_takeTurns_105 ?_
          refine q_top (x' := (nI v)) hq ?_
          rcases hat with ⟨g14, hs2⟩ | ⟨g14, hat⟩
          · obtain rfl := hs2
            refine q_zld hx hb hK hP 14 1 rfl rfl v rfl (by omega) (by decide) dX3_takeTurns_106 ?_
            refine q_top (x' := (nI 0)) g14 ?_
            refine q_if_eq (tgt := 116) hx hb (by omega) dX3_takeTurns_107 (by decide) (fun c_16 => ?_) (fun c_16 => absurd c_16 (by decide))
            refine lv_aload_n hx hb dX3_takeTurns_116 rfl (lv_at hl 3 rfl) ?_
            refine lv_iload_n hx hb dX3_takeTurns_117 rfl (lv_at hl 1 rfl) ?_
            refine lv_iload_n hx hb dX3_takeTurns_118 rfl (lv_at hl 0 rfl) ?_
            refine lv_iload_n hx hb dX3_takeTurns_119 rfl (lv_at hl 2 rfl) ?_
            refine g_callv (As := [.int (nI p), .int (nI a), .int (nI k)]) (rest := []) ⟨hx, hb, hml, hown, hts⟩ (c_X3_puts l D E tl (mLeave z k p1 w1 a1) p a k w g3 (by omega) hw7 (by omega) h5) (cwV 3 hts gX3_takeTurns_X3_puts rfl rfl rfl (by decide +kernel) ⟨Nat.le_of_ble_eq_true rfl, Nat.le_of_ble_eq_true rfl⟩) (m_recv hK hP) hK hP hD hS hA rfl hl.1 rfl (Nat.le_of_ble_eq_true rfl) dX3_takeTurns_120 ⟨Nat.le_of_ble_eq_true rfl, Nat.le_of_ble_eq_true rfl⟩ (fun u_18 H locs hw hP hD hS => ?_)
            rw [hw] at hP hD
            refine lv_aload_n hx hb dX3_takeTurns_123 rfl (lv_at hl 3 rfl) ?_
            refine m_get hx hb hts hin hown hK hP 14 (by decide) k50 rfl rfl dX3_takeTurns_124 ?_
            refine lv_iload_n hx hb dX3_takeTurns_127 rfl (lv_at hl 2 rfl) ?_
            refine lv_iconst (v := nI 1) hx hb dX3_takeTurns_128 (by decide) ?_
            refine q_zst hx hb hK hP hD hS 14 1 rfl rfl k rfl (by omega) (by decide) (Or.inr rfl) dX3_takeTurns_129 (fun H locs hP hD hS => ?_)
            replace hP : va_P D vwCl (mW E (up2 (mPuts (mLeave z k p1 w1 a1) p a k w) 14 k (nI 1))) H := hP
            replace hD : va_D A (mW E (up2 (mPuts (mLeave z k p1 w1 a1) p a k w) 14 k (nI 1))) := hD
            refine q_inc (k := 2) (lv' := [(1, .int (nI (k + 1))), (3, .int (nI a)), (2, .int (nI p)), (0, .ref E.1.1)]) hx hb dX3_takeTurns_130 hl rfl (by decide) rfl (fun ls hl => ?_)
            refine lv_goto (tgt := 2) hx hb dX3_takeTurns_133 (by decide) ?_
            replace hl : lv_has ls 4 [(1, .int (nI (k + 1))), (0, .ref E.1.1)] := lv_sub hl [0, 3] rfl
            apply ih (k := k + 1) (H := H) (locs := locs) (ls := ls)
            all_goals first | omega | assumption
          · refine q_zld hx hb hK hP 14 1 rfl rfl v rfl (by omega) (by decide) dX3_takeTurns_106 ?_
            refine q_top (x' := (nI 1)) g14 ?_
            refine q_if_eq (tgt := 116) hx hb (by omega) dX3_takeTurns_107 (by decide) (fun c_20 => absurd c_20 (by decide)) (fun c_20 => ?_)
            refine q_inc (k := 0) (lv' := [(3, .int (nI (b + 1))), (2, .int (nI p)), (1, .int (nI k)), (0, .ref E.1.1)]) hx hb dX3_takeTurns_110 hl rfl (by decide) rfl (fun ls hl => ?_)
            refine lv_goto (tgt := 81) hx hb dX3_takeTurns_113 (by decide) ?_
            apply ih2 (b := b + 1) (ls := ls)
            all_goals first | omega | assumption
      · refine lv_icmp_ne (tgt := 79) hx hb dX3_takeTurns_71 (by decide) (fun c15 => ?_) (fun c15 => absurd c15 g7)
        obtain rfl := hlv
        refine lv_iconst (v := nI 0) hx hb dX3_takeTurns_79 (by decide) ?_
        refine lv_istore_n (lv' := [(3, .int (nI 0)), (2, .int (nI p)), (1, .int (nI k)), (0, .ref E.1.1)]) hx hb dX3_takeTurns_80 rfl hl (by decide) rfl (fun ls hl => ?_)
        replace hl : lv_has ls 4 [(3, .int (nI 0)), (2, .int (nI p)), (1, .int (nI k)), (0, .ref E.1.1)] := lv_sub hl [0, 1, 2, 3] rfl
        obtain ⟨b, hb0⟩ : ∃ b : Nat, b = 0 := ⟨_, rfl⟩
        obtain ⟨mm, hm⟩ : ∃ mm : Nat, mm = w := ⟨_, rfl⟩
        replace hl : lv_has ls 4 [(3, .int (nI b)), (2, .int (nI p)), (1, .int (nI k)), (0, .ref E.1.1)] := by rw [hb0]; exact hl
        rw [← hb0, ← hm] at hat
        replace hm : b + mm = w := by omega
        clear hb0
        induction mm generalizing b ls with
        | zero =>
          have hbw : b = w := by omega
          obtain rfl := hat
          refine lv_iload_n hx hb dX3_takeTurns_81 rfl (lv_at hl 0 rfl) ?_
          refine lv_aload_n hx hb dX3_takeTurns_82 rfl (lv_at hl 3 rfl) ?_
          refine m_get hx hb hts hin hown hK hP 5 (by decide) k23 rfl rfl dX3_takeTurns_83 ?_
          refine lv_iload_n hx hb dX3_takeTurns_86 rfl (lv_at hl 1 rfl) ?_
          refine q_ild hx hb hK hP 5 0 rfl rfl p rfl (by omega) (by decide) dX3_takeTurns_87 ?_
          refine q_top (x' := (nI w)) h5 ?_
          refine q_icmp_ge (tgt := 116) hx hb (by omega) (by omega) dX3_takeTurns_88 (by decide) (fun c20 => ?_) (fun c20 => absurd c20 (by omega))
          refine lv_aload_n hx hb dX3_takeTurns_116 rfl (lv_at hl 3 rfl) ?_
          refine lv_iload_n hx hb dX3_takeTurns_117 rfl (lv_at hl 1 rfl) ?_
          refine lv_iload_n hx hb dX3_takeTurns_118 rfl (lv_at hl 0 rfl) ?_
          refine lv_iload_n hx hb dX3_takeTurns_119 rfl (lv_at hl 2 rfl) ?_
          refine g_callv (As := [.int (nI p), .int (nI a), .int (nI k)]) (rest := []) ⟨hx, hb, hml, hown, hts⟩ (c_X3_puts l D E tl y2 p a k w g3 (by omega) hw7 (by omega) h5) (cwV 3 hts gX3_takeTurns_X3_puts rfl rfl rfl (by decide +kernel) ⟨Nat.le_of_ble_eq_true rfl, Nat.le_of_ble_eq_true rfl⟩) (m_recv hK hP) hK hP hD hS hA rfl hl.1 rfl (Nat.le_of_ble_eq_true rfl) dX3_takeTurns_120 ⟨Nat.le_of_ble_eq_true rfl, Nat.le_of_ble_eq_true rfl⟩ (fun u_22 H locs hw hP hD hS => ?_)
          rw [hw] at hP hD
          refine lv_aload_n hx hb dX3_takeTurns_123 rfl (lv_at hl 3 rfl) ?_
          refine m_get hx hb hts hin hown hK hP 14 (by decide) k50 rfl rfl dX3_takeTurns_124 ?_
          refine lv_iload_n hx hb dX3_takeTurns_127 rfl (lv_at hl 2 rfl) ?_
          refine lv_iconst (v := nI 1) hx hb dX3_takeTurns_128 (by decide) ?_
          refine q_zst hx hb hK hP hD hS 14 1 rfl rfl k rfl (by omega) (by decide) (Or.inr rfl) dX3_takeTurns_129 (fun H locs hP hD hS => ?_)
          replace hP : va_P D vwCl (mW E (up2 (mPuts y2 p a k w) 14 k (nI 1))) H := hP
          replace hD : va_D A (mW E (up2 (mPuts y2 p a k w) 14 k (nI 1))) := hD
          refine q_inc (k := 2) (lv' := [(1, .int (nI (k + 1))), (3, .int (nI a)), (2, .int (nI p)), (0, .ref E.1.1)]) hx hb dX3_takeTurns_130 hl rfl (by decide) rfl (fun ls hl => ?_)
          refine lv_goto (tgt := 2) hx hb dX3_takeTurns_133 (by decide) ?_
          replace hl : lv_has ls 4 [(1, .int (nI (k + 1))), (0, .ref E.1.1)] := lv_sub hl [0, 3] rfl
          apply ih (k := k + 1) (H := H) (locs := locs) (ls := ls)
          all_goals first | omega | assumption
        | succ mm ih2 =>
          obtain ⟨v, hv, hq, hat⟩ := hat
          refine lv_iload_n hx hb dX3_takeTurns_81 rfl (lv_at hl 0 rfl) ?_
          refine lv_aload_n hx hb dX3_takeTurns_82 rfl (lv_at hl 3 rfl) ?_
          refine m_get hx hb hts hin hown hK hP 5 (by decide) k23 rfl rfl dX3_takeTurns_83 ?_
          refine lv_iload_n hx hb dX3_takeTurns_86 rfl (lv_at hl 1 rfl) ?_
          refine q_ild hx hb hK hP 5 0 rfl rfl p rfl (by omega) (by decide) dX3_takeTurns_87 ?_
          refine q_top (x' := (nI w)) h5 ?_
          refine q_icmp_ge (tgt := 116) hx hb (by omega) (by omega) dX3_takeTurns_88 (by decide) (fun c20 => absurd c20 (by omega)) (fun c20 => ?_)
          refine lv_aload_n hx hb dX3_takeTurns_91 rfl (lv_at hl 3 rfl) ?_
          refine m_get hx hb hts hin hown hK hP 14 (by decide) k50 rfl rfl dX3_takeTurns_92 ?_
          refine lv_aload_n hx hb dX3_takeTurns_95 rfl (lv_at hl 3 rfl) ?_
          refine m_get hx hb hts hin hown hK hP 4 (by decide) k20 rfl rfl dX3_takeTurns_96 ?_
          refine lv_bipush (v := nI 8) hx hb dX3_takeTurns_99 (by decide) ?_
          refine lv_iload_n hx hb dX3_takeTurns_101 rfl (lv_at hl 1 rfl) ?_
          refine q_mul hx hb dX3_takeTurns_102 ?_
          refine lv_iload_n hx hb dX3_takeTurns_103 rfl (lv_at hl 0 rfl) ?_
          refine q_add hx hb dX3_takeTurns_104 ?_
          refine q_ild hx hb hK hP 4 0 rfl rfl ((8 * p) + b) rfl (by omega) (by decide) dX3_takeTurns_105 ?_
          refine q_top (x' := (nI v)) hq ?_
          rcases hat with ⟨g14, hs2⟩ | ⟨g14, hat⟩
          · obtain rfl := hs2
            refine q_zld hx hb hK hP 14 1 rfl rfl v rfl (by omega) (by decide) dX3_takeTurns_106 ?_
            refine q_top (x' := (nI 0)) g14 ?_
            refine q_if_eq (tgt := 116) hx hb (by omega) dX3_takeTurns_107 (by decide) (fun c_24 => ?_) (fun c_24 => absurd c_24 (by decide))
            refine lv_aload_n hx hb dX3_takeTurns_116 rfl (lv_at hl 3 rfl) ?_
            refine lv_iload_n hx hb dX3_takeTurns_117 rfl (lv_at hl 1 rfl) ?_
            refine lv_iload_n hx hb dX3_takeTurns_118 rfl (lv_at hl 0 rfl) ?_
            refine lv_iload_n hx hb dX3_takeTurns_119 rfl (lv_at hl 2 rfl) ?_
            refine g_callv (As := [.int (nI p), .int (nI a), .int (nI k)]) (rest := []) ⟨hx, hb, hml, hown, hts⟩ (c_X3_puts l D E tl y2 p a k w g3 (by omega) hw7 (by omega) h5) (cwV 3 hts gX3_takeTurns_X3_puts rfl rfl rfl (by decide +kernel) ⟨Nat.le_of_ble_eq_true rfl, Nat.le_of_ble_eq_true rfl⟩) (m_recv hK hP) hK hP hD hS hA rfl hl.1 rfl (Nat.le_of_ble_eq_true rfl) dX3_takeTurns_120 ⟨Nat.le_of_ble_eq_true rfl, Nat.le_of_ble_eq_true rfl⟩ (fun u_26 H locs hw hP hD hS => ?_)
            rw [hw] at hP hD
            refine lv_aload_n hx hb dX3_takeTurns_123 rfl (lv_at hl 3 rfl) ?_
            refine m_get hx hb hts hin hown hK hP 14 (by decide) k50 rfl rfl dX3_takeTurns_124 ?_
            refine lv_iload_n hx hb dX3_takeTurns_127 rfl (lv_at hl 2 rfl) ?_
            refine lv_iconst (v := nI 1) hx hb dX3_takeTurns_128 (by decide) ?_
            refine q_zst hx hb hK hP hD hS 14 1 rfl rfl k rfl (by omega) (by decide) (Or.inr rfl) dX3_takeTurns_129 (fun H locs hP hD hS => ?_)
            replace hP : va_P D vwCl (mW E (up2 (mPuts y2 p a k w) 14 k (nI 1))) H := hP
            replace hD : va_D A (mW E (up2 (mPuts y2 p a k w) 14 k (nI 1))) := hD
            refine q_inc (k := 2) (lv' := [(1, .int (nI (k + 1))), (3, .int (nI a)), (2, .int (nI p)), (0, .ref E.1.1)]) hx hb dX3_takeTurns_130 hl rfl (by decide) rfl (fun ls hl => ?_)
            refine lv_goto (tgt := 2) hx hb dX3_takeTurns_133 (by decide) ?_
            replace hl : lv_has ls 4 [(1, .int (nI (k + 1))), (0, .ref E.1.1)] := lv_sub hl [0, 3] rfl
            apply ih (k := k + 1) (H := H) (locs := locs) (ls := ls)
            all_goals first | omega | assumption
          · refine q_zld hx hb hK hP 14 1 rfl rfl v rfl (by omega) (by decide) dX3_takeTurns_106 ?_
            refine q_top (x' := (nI 1)) g14 ?_
            refine q_if_eq (tgt := 116) hx hb (by omega) dX3_takeTurns_107 (by decide) (fun c_28 => absurd c_28 (by decide)) (fun c_28 => ?_)
            refine q_inc (k := 0) (lv' := [(3, .int (nI (b + 1))), (2, .int (nI p)), (1, .int (nI k)), (0, .ref E.1.1)]) hx hb dX3_takeTurns_110 hl rfl (by decide) rfl (fun ls hl => ?_)
            refine lv_goto (tgt := 81) hx hb dX3_takeTurns_113 (by decide) ?_
            apply ih2 (b := b + 1) (ls := ls)
            all_goals first | omega | assumption
