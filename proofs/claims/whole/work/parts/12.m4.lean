set_option maxHeartbeats 4000000 in
set_option maxRecDepth 100000 in
theorem c_X3_placeInPlan (l : Launch) (D : va_G) (E : mE) (tl : gTy) (y : Nat → Nat → Int32) (v p w : Nat) (hv : v < 8) (hw6 : w ≤ 6) (h7 : y 7 v = nI w)  : gI l yX3_placeInPlan wsX3_placeInPlan ({ frames := 0, cells := 0, slots := 0, locals := 0 } : Room) D (mT E tl) (mW E y) [.ref E.1.1, .int (nI v), .int (nI p)] (fun (r : Int32) (u : Nat → Nat → Int32) => r = mLastP y v p w ∧ u = y) (mW E) 0 0 := by
  refine gM.start (cc := cX3_placeInPlan) (maxL := 5) (ret := (some .int)) (own := RX3) rfl (by decide) rfl (Nat.le_of_ble_eq_true rfl) ?_
  intro pr e s m args below meth c A ls H locs hx hb hml hr hts hown hlocks hname hA hK hP hD hS hl
  replace hl : lv_has ls 5 [(0, .ref E.1.1), (1, .int (nI v)), (2, .int (nI p))] := hl
  have hin : ∀ w ∈ wsX30, w ∈ wsX3_placeInPlan := by decide +kernel
  have k29 := hts (.fieldLink RX3 29 "FairFolioModel" "planned" "[I") (by decide +kernel)
  have k26 := hts (.fieldLink RX3 26 "FairFolioModel" "plan" "[I") (by decide +kernel)
  refine lv_iconst (v := -1) hx hb dX3_placeInPlan_0 (by decide) ?_
  refine lv_istore_n (lv' := [(3, .int (-1)), (0, .ref E.1.1), (1, .int (nI v)), (2, .int (nI p))]) hx hb dX3_placeInPlan_1 rfl hl (by decide) rfl (fun ls hl => ?_)
  refine lv_iconst (v := nI 0) hx hb dX3_placeInPlan_2 (by decide) ?_
  refine lv_istore (lv' := [(4, .int (nI 0)), (3, .int (-1)), (0, .ref E.1.1), (1, .int (nI v)), (2, .int (nI p))]) hx hb dX3_placeInPlan_3 hl (by decide) rfl (fun ls hl => ?_)
  obtain ⟨k, hk⟩ : ∃ k : Nat, k = 0 := ⟨_, rfl⟩
  obtain ⟨nn, hn⟩ : ∃ nn : Nat, k + nn = w := ⟨w - 0, by omega⟩
  replace hl : lv_has ls 5 [(4, .int (nI k)), (3, .int (mLastP y v p k)), (0, .ref E.1.1), (1, .int (nI v)), (2, .int (nI p))] := by rw [hk]; exact hl
  clear hk
  induction nn generalizing k H locs ls with
  | zero =>
    obtain rfl : w = k := by omega
    refine lv_iload hx hb dX3_placeInPlan_5 (lv_at hl 0 rfl) ?_
    refine lv_aload_n hx hb dX3_placeInPlan_7 rfl (lv_at hl 2 rfl) ?_
    refine m_get hx hb hts hin hown hK hP 7 (by decide) k29 rfl rfl dX3_placeInPlan_8 ?_
    refine lv_iload_n hx hb dX3_placeInPlan_11 rfl (lv_at hl 3 rfl) ?_
    refine q_ild hx hb hK hP 7 0 rfl rfl v rfl (by omega) (by decide) dX3_placeInPlan_12 ?_
    refine q_top (x' := (nI w)) h7 ?_
    refine q_icmp_ge (tgt := 45) hx hb (by omega) (by omega) dX3_placeInPlan_13 (by decide) (fun c1 => ?_) (fun c1 => absurd c1 (by omega))
    refine lv_iload_n hx hb dX3_placeInPlan_45 rfl (lv_at hl 1 rfl) ?_
    exact W.iret hx hb hr (fun t ht hW => ⟨⟨_, y, rfl, ⟨rfl, rfl⟩, by rw [ht]; exact hP, va_K.moved hW.alike hK, hD⟩, hS.F ht⟩) hS.2.2 dX3_placeInPlan_46
  | succ nn ih =>
    refine lv_iload hx hb dX3_placeInPlan_5 (lv_at hl 0 rfl) ?_
    refine lv_aload_n hx hb dX3_placeInPlan_7 rfl (lv_at hl 2 rfl) ?_
    refine m_get hx hb hts hin hown hK hP 7 (by decide) k29 rfl rfl dX3_placeInPlan_8 ?_
    refine lv_iload_n hx hb dX3_placeInPlan_11 rfl (lv_at hl 3 rfl) ?_
    refine q_ild hx hb hK hP 7 0 rfl rfl v rfl (by omega) (by decide) dX3_placeInPlan_12 ?_
    refine q_top (x' := (nI w)) h7 ?_
    refine q_icmp_ge (tgt := 45) hx hb (by omega) (by omega) dX3_placeInPlan_13 (by decide) (fun c1 => absurd c1 (by omega)) (fun c1 => ?_)
    refine lv_aload_n hx hb dX3_placeInPlan_16 rfl (lv_at hl 2 rfl) ?_
    refine m_get hx hb hts hin hown hK hP 6 (by decide) k26 rfl rfl dX3_placeInPlan_17 ?_
    refine lv_bipush (v := nI 6) hx hb dX3_placeInPlan_20 (by decide) ?_
    refine lv_iload_n hx hb dX3_placeInPlan_22 rfl (lv_at hl 3 rfl) ?_
    refine q_mul hx hb dX3_placeInPlan_23 ?_
    refine lv_iload hx hb dX3_placeInPlan_24 (lv_at hl 0 rfl) ?_
    refine q_add hx hb dX3_placeInPlan_26 ?_
    refine q_ild hx hb hK hP 6 0 rfl rfl ((6 * v) + k) rfl (by omega) (by decide) dX3_placeInPlan_27 ?_
    refine lv_iload_n hx hb dX3_placeInPlan_28 rfl (lv_at hl 4 rfl) ?_
    refine lv_icmp_ne (tgt := 37) hx hb dX3_placeInPlan_29 (by decide) (fun c2 => ?_) (fun c2 => ?_)
    · refine lv_iload_n hx hb dX3_placeInPlan_37 rfl (lv_at hl 1 rfl) ?_
      refine q_top (x' := (mLastP y v p (k + 1))) (by rw [mLastP, if_neg c2]) ?_
      refine lv_istore_n (lv' := [(3, .int (mLastP y v p (k + 1))), (4, .int (nI k)), (0, .ref E.1.1), (1, .int (nI v)), (2, .int (nI p))]) hx hb dX3_placeInPlan_38 rfl hl (by decide) rfl (fun ls hl => ?_)
      refine q_inc (k := 1) (lv' := [(4, .int (nI (k + 1))), (3, .int (mLastP y v p (k + 1))), (0, .ref E.1.1), (1, .int (nI v)), (2, .int (nI p))]) hx hb dX3_placeInPlan_39 hl rfl (by decide) rfl (fun ls hl => ?_)
      refine lv_goto (tgt := 5) hx hb dX3_placeInPlan_42 (by decide) ?_
      apply ih (k := k + 1) (H := H) (locs := locs) (ls := ls)
      all_goals first | omega | assumption
    · refine lv_iload hx hb dX3_placeInPlan_32 (lv_at hl 0 rfl) ?_
      refine lv_goto (tgt := 38) hx hb dX3_placeInPlan_34 (by decide) ?_
      refine q_top (x' := (mLastP y v p (k + 1))) (by rw [mLastP, if_pos c2]) ?_
      refine lv_istore_n (lv' := [(3, .int (mLastP y v p (k + 1))), (4, .int (nI k)), (0, .ref E.1.1), (1, .int (nI v)), (2, .int (nI p))]) hx hb dX3_placeInPlan_38 rfl hl (by decide) rfl (fun ls hl => ?_)
      refine q_inc (k := 1) (lv' := [(4, .int (nI (k + 1))), (3, .int (mLastP y v p (k + 1))), (0, .ref E.1.1), (1, .int (nI v)), (2, .int (nI p))]) hx hb dX3_placeInPlan_39 hl rfl (by decide) rfl (fun ls hl => ?_)
      refine lv_goto (tgt := 5) hx hb dX3_placeInPlan_42 (by decide) ?_
      apply ih (k := k + 1) (H := H) (locs := locs) (ls := ls)
      all_goals first | omega | assumption

theorem mLastP_18 (y : Nat → Nat → Int32) (v p w : Nat) (t : Int32) : mLastP (up2 y 18 0 t) v p w = mLastP y v p w := by
  induction w with
  | zero => rfl
  | succ w ih =>
    rw [mLastP, mLastP, ih]
    rfl

set_option maxHeartbeats 4000000 in
set_option maxRecDepth 100000 in
theorem c_X3_plan (l : Launch) (D : va_G) (E : mE) (tl : gTy) (y : Nat → Nat → Int32) (v p w : Nat) (hv : v < 8) (hp : p < 6) (hw5 : w ≤ 5) (h7 : y 7 v = nI w) (hla : mLastP y v p w = -1)  : gI l yX3_plan wsX3_plan ({ frames := 1, cells := 0, slots := 0, locals := 24 } : Room) D (mT E tl) (mW E y) [.ref E.1.1, .int (nI v), .int (nI p)] (fun (r : Int32) (u : Nat → Nat → Int32) => r = nI (w + 1) ∧ u = up2 (up2 (up2 y 18 0 (nI 0)) 6 (6 * v + w) (nI p)) 7 v (nI (w + 1))) (mW E) 0 0 := by
  refine gM.start (cc := cX3_plan) (maxL := 4) (ret := (some .int)) (own := RX3) rfl (by decide) rfl (Nat.le_of_ble_eq_true rfl) ?_
  intro pr e s m args below meth c A ls H locs hx hb hml hr hts hown hlocks hname hA hK hP hD hS hl
  replace hl : lv_has ls 4 [(0, .ref E.1.1), (1, .int (nI v)), (2, .int (nI p))] := hl
  have hin : ∀ w ∈ wsX30, w ∈ wsX3_plan := by decide +kernel
  have k26 := hts (.fieldLink RX3 26 "FairFolioModel" "plan" "[I") (by decide +kernel)
  have k29 := hts (.fieldLink RX3 29 "FairFolioModel" "planned" "[I") (by decide +kernel)
  refine lv_iload_n hx hb dX3_plan_0 rfl (lv_at hl 1 rfl) ?_
  refine g_scalli (As := [.int (nI v)]) (rest := []) ⟨hx, hb, hml, hown, hts⟩ (c_X3_isVisitor_y l D E tl y v hv) (va_cwS 1 hts gX3_plan_X3_isVisitor rfl rfl rfl (by decide +kernel) ⟨Nat.le_of_ble_eq_true rfl, Nat.le_of_ble_eq_true rfl⟩) hK hP hD hS hA rfl hl.1 rfl (Nat.le_of_ble_eq_true rfl) dX3_plan_1 ⟨Nat.le_of_ble_eq_true rfl, Nat.le_of_ble_eq_true rfl⟩ (fun r_3 u_2 H locs hw hP hD hS => ?_)
  obtain ⟨hr_3, hu_2⟩ := hw
  rw [hu_2] at hP hD
  refine q_top (x' := (nI 1)) hr_3 ?_
  refine q_if_eq (tgt := 18) hx hb (by omega) dX3_plan_4 (by decide) (fun c_4 => absurd c_4 (by decide)) (fun c_4 => ?_)
  refine lv_iload_n hx hb dX3_plan_7 rfl (lv_at hl 2 rfl) ?_
  refine g_scalli (As := [.int (nI p)]) (rest := []) ⟨hx, hb, hml, hown, hts⟩ (c_X3_isPavilion_y l D E tl y p hp) (va_cwS 1 hts gX3_plan_X3_isPavilion rfl rfl rfl (by decide +kernel) ⟨Nat.le_of_ble_eq_true rfl, Nat.le_of_ble_eq_true rfl⟩) hK hP hD hS hA rfl hl.1 rfl (Nat.le_of_ble_eq_true rfl) dX3_plan_8 ⟨Nat.le_of_ble_eq_true rfl, Nat.le_of_ble_eq_true rfl⟩ (fun r_7 u_6 H locs hw hP hD hS => ?_)
  obtain ⟨hr_7, hu_6⟩ := hw
  rw [hu_6] at hP hD
  refine q_top (x' := (nI 1)) hr_7 ?_
  refine q_if_eq (tgt := 18) hx hb (by omega) dX3_plan_11 (by decide) (fun c_8 => absurd c_8 (by decide)) (fun c_8 => ?_)
  refine lv_iconst (v := nI 1) hx hb dX3_plan_14 (by decide) ?_
  refine lv_goto (tgt := 19) hx hb dX3_plan_15 (by decide) ?_
  refine lv_istore_n (lv' := [(3, .int (nI 1)), (0, .ref E.1.1), (1, .int (nI v)), (2, .int (nI p))]) hx hb dX3_plan_19 rfl hl (by decide) rfl (fun ls hl => ?_)
  refine lv_aload_n hx hb dX3_plan_20 rfl (lv_at hl 1 rfl) ?_
  refine lv_iload_n hx hb dX3_plan_21 rfl (lv_at hl 0 rfl) ?_
  refine lv_iload_n hx hb dX3_plan_22 rfl (lv_at hl 0 rfl) ?_
  refine q_if_eq (tgt := 39) hx hb (by omega) dX3_plan_23 (by decide) (fun c_9 => absurd c_9 (by decide)) (fun c_9 => ?_)
  refine lv_aload_n hx hb dX3_plan_26 rfl (lv_at hl 1 rfl) ?_
  refine lv_iload_n hx hb dX3_plan_27 rfl (lv_at hl 2 rfl) ?_
  refine lv_iload_n hx hb dX3_plan_28 rfl (lv_at hl 3 rfl) ?_
  refine g_calli (As := [.int (nI v), .int (nI p)]) (rest := [.int (nI 1), .ref E.1.1]) ⟨hx, hb, hml, hown, hts⟩ (c_X3_placeInPlan l D E tl y v p w hv (by omega) h7) (cwV 2 hts gX3_plan_X3_placeInPlan rfl rfl rfl (by decide +kernel) ⟨Nat.le_of_ble_eq_true rfl, Nat.le_of_ble_eq_true rfl⟩) (m_recv hK hP) hK hP hD hS hA rfl hl.1 rfl (Nat.le_of_ble_eq_true rfl) dX3_plan_29 ⟨Nat.le_of_ble_eq_true rfl, Nat.le_of_ble_eq_true rfl⟩ (fun r_12 u_11 H locs hw hP hD hS => ?_)
  obtain ⟨hr_12, hu_11⟩ := hw
  rw [hu_11] at hP hD
  refine q_top (x' := (-1)) (hr_12.trans hla) ?_
  refine lv_if_ge (tgt := 39) hx hb dX3_plan_32 (by decide) (fun c7 => absurd c7 (by decide)) (fun c7 => ?_)
  refine lv_iconst (v := nI 1) hx hb dX3_plan_35 (by decide) ?_
  refine lv_goto (tgt := 40) hx hb dX3_plan_36 (by decide) ?_
  refine g_calli (As := [.int (nI 1), .int (nI 1)]) (rest := []) ⟨hx, hb, hml, hown, hts⟩ (c_X3_goes l D E tl y (nI 1) (nI 1)) (cwV 2 hts gX3_plan_X3_goes rfl rfl rfl (by decide +kernel) ⟨Nat.le_of_ble_eq_true rfl, Nat.le_of_ble_eq_true rfl⟩) (m_recv hK hP) hK hP hD hS hA rfl hl.1 rfl (Nat.le_of_ble_eq_true rfl) dX3_plan_40 ⟨Nat.le_of_ble_eq_true rfl, Nat.le_of_ble_eq_true rfl⟩ (fun r_15 u_14 H locs hw hP hD hS => ?_)
  obtain ⟨hr_15, hu_14⟩ := hw
  rw [hu_14] at hP hD
  rw [show mGt (nI 1) (nI 1) = nI 0 from by decide] at hP hD
  refine q_top (x' := (nI 1)) (hr_15.trans (by decide)) ?_
  refine q_if_ne (tgt := 48) hx hb (by omega) dX3_plan_43 (by decide) (fun c_16 => ?_) (fun c_16 => absurd c_16 (by decide))
  refine lv_aload_n hx hb dX3_plan_48 rfl (lv_at hl 1 rfl) ?_
  refine m_get hx hb hts hin hown hK hP 6 (by decide) k26 rfl rfl dX3_plan_49 ?_
  refine lv_bipush (v := nI 6) hx hb dX3_plan_52 (by decide) ?_
  refine lv_iload_n hx hb dX3_plan_54 rfl (lv_at hl 2 rfl) ?_
  refine q_mul hx hb dX3_plan_55 ?_
  refine lv_aload_n hx hb dX3_plan_56 rfl (lv_at hl 1 rfl) ?_
  refine m_get hx hb hts hin hown hK hP 7 (by decide) k29 rfl rfl dX3_plan_57 ?_
  refine lv_iload_n hx hb dX3_plan_60 rfl (lv_at hl 2 rfl) ?_
  refine q_ild hx hb hK hP 7 0 rfl rfl v rfl (by omega) (by decide) dX3_plan_61 ?_
  refine q_top (x' := (nI w)) h7 ?_
  refine q_add hx hb dX3_plan_62 ?_
  refine lv_iload_n hx hb dX3_plan_63 rfl (lv_at hl 3 rfl) ?_
  refine q_ist hx hb hK hP hD hS 6 0 rfl rfl ((6 * v) + w) rfl (by omega) (by decide) dX3_plan_64 (fun H locs hP hD hS => ?_)
  replace hP : va_P D vwCl (mW E (up2 (up2 y 18 0 (nI 0)) 6 ((6 * v) + w) (nI p))) H := hP
  replace hD : va_D A (mW E (up2 (up2 y 18 0 (nI 0)) 6 ((6 * v) + w) (nI p))) := hD
  refine lv_aload_n hx hb dX3_plan_65 rfl (lv_at hl 1 rfl) ?_
  refine m_get hx hb hts hin hown hK hP 7 (by decide) k29 rfl rfl dX3_plan_66 ?_
  refine lv_iload_n hx hb dX3_plan_69 rfl (lv_at hl 2 rfl) ?_
  refine lv_dup2_11 hx hb dX3_plan_70 rfl rfl ?_
  refine q_ild hx hb hK hP 7 0 rfl rfl v rfl (by omega) (by decide) dX3_plan_71 ?_
  refine q_top (x' := (nI w)) h7 ?_
  refine lv_iconst (v := nI 1) hx hb dX3_plan_72 (by decide) ?_
  refine q_add hx hb dX3_plan_73 ?_
  refine q_ist hx hb hK hP hD hS 7 0 rfl rfl v rfl (by omega) (by decide) dX3_plan_74 (fun H locs hP hD hS => ?_)
  replace hP : va_P D vwCl (mW E (up2 (up2 (up2 y 18 0 (nI 0)) 6 ((6 * v) + w) (nI p)) 7 v (nI (w + 1)))) H := hP
  replace hD : va_D A (mW E (up2 (up2 (up2 y 18 0 (nI 0)) 6 ((6 * v) + w) (nI p)) 7 v (nI (w + 1)))) := hD
  refine lv_aload_n hx hb dX3_plan_75 rfl (lv_at hl 1 rfl) ?_
  refine m_get hx hb hts hin hown hK hP 7 (by decide) k29 rfl rfl dX3_plan_76 ?_
  refine lv_iload_n hx hb dX3_plan_79 rfl (lv_at hl 2 rfl) ?_
  refine q_ild hx hb hK hP 7 0 rfl rfl v rfl (by omega) (by decide) dX3_plan_80 ?_
  refine q_top (x' := (nI (w + 1))) (up2_s _ _ _ _) ?_
  exact W.iret hx hb hr (fun t ht hW => ⟨⟨_, up2 (up2 (up2 y 18 0 (nI 0)) 6 ((6 * v) + w) (nI p)) 7 v (nI (w + 1)), rfl, ⟨rfl, rfl⟩, by rw [ht]; exact hP, va_K.moved hW.alike hK, hD⟩, hS.F ht⟩) hS.2.2 dX3_plan_81

set_option maxHeartbeats 4000000 in
set_option maxRecDepth 100000 in
theorem c_X3_plan_b (l : Launch) (D : va_G) (E : mE) (tl : gTy) (y : Nat → Nat → Int32) (v p w a : Nat) (hv : v < 8) (hp : p < 6) (hw6 : w ≤ 6) (ha : a < w) (h7 : y 7 v = nI w) (hla : mLastP y v p w = nI a)  : gI l yX3_plan wsX3_plan ({ frames := 1, cells := 0, slots := 0, locals := 24 } : Room) D (mT E tl) (mW E y) [.ref E.1.1, .int (nI v), .int (nI p)] (fun (r : Int32) (u : Nat → Nat → Int32) => u = up2 y 18 0 (nI 2)) (mW E) 0 0 := by
  refine gM.start (cc := cX3_plan) (maxL := 4) (ret := (some .int)) (own := RX3) rfl (by decide) rfl (Nat.le_of_ble_eq_true rfl) ?_
  intro pr e s m args below meth c A ls H locs hx hb hml hr hts hown hlocks hname hA hK hP hD hS hl
  replace hl : lv_has ls 4 [(0, .ref E.1.1), (1, .int (nI v)), (2, .int (nI p))] := hl
  refine lv_iload_n hx hb dX3_plan_0 rfl (lv_at hl 1 rfl) ?_
  refine g_scalli (As := [.int (nI v)]) (rest := []) ⟨hx, hb, hml, hown, hts⟩ (c_X3_isVisitor_y l D E tl y v hv) (va_cwS 1 hts gX3_plan_X3_isVisitor rfl rfl rfl (by decide +kernel) ⟨Nat.le_of_ble_eq_true rfl, Nat.le_of_ble_eq_true rfl⟩) hK hP hD hS hA rfl hl.1 rfl (Nat.le_of_ble_eq_true rfl) dX3_plan_1 ⟨Nat.le_of_ble_eq_true rfl, Nat.le_of_ble_eq_true rfl⟩ (fun r_3 u_2 H locs hw hP hD hS => ?_)
  obtain ⟨hr_3, hu_2⟩ := hw
  rw [hu_2] at hP hD
  refine q_top (x' := (nI 1)) hr_3 ?_
  refine q_if_eq (tgt := 18) hx hb (by omega) dX3_plan_4 (by decide) (fun c_4 => absurd c_4 (by decide)) (fun c_4 => ?_)
  refine lv_iload_n hx hb dX3_plan_7 rfl (lv_at hl 2 rfl) ?_
  refine g_scalli (As := [.int (nI p)]) (rest := []) ⟨hx, hb, hml, hown, hts⟩ (c_X3_isPavilion_y l D E tl y p hp) (va_cwS 1 hts gX3_plan_X3_isPavilion rfl rfl rfl (by decide +kernel) ⟨Nat.le_of_ble_eq_true rfl, Nat.le_of_ble_eq_true rfl⟩) hK hP hD hS hA rfl hl.1 rfl (Nat.le_of_ble_eq_true rfl) dX3_plan_8 ⟨Nat.le_of_ble_eq_true rfl, Nat.le_of_ble_eq_true rfl⟩ (fun r_7 u_6 H locs hw hP hD hS => ?_)
  obtain ⟨hr_7, hu_6⟩ := hw
  rw [hu_6] at hP hD
  refine q_top (x' := (nI 1)) hr_7 ?_
  refine q_if_eq (tgt := 18) hx hb (by omega) dX3_plan_11 (by decide) (fun c_8 => absurd c_8 (by decide)) (fun c_8 => ?_)
  refine lv_iconst (v := nI 1) hx hb dX3_plan_14 (by decide) ?_
  refine lv_goto (tgt := 19) hx hb dX3_plan_15 (by decide) ?_
  refine lv_istore_n (lv' := [(3, .int (nI 1)), (0, .ref E.1.1), (1, .int (nI v)), (2, .int (nI p))]) hx hb dX3_plan_19 rfl hl (by decide) rfl (fun ls hl => ?_)
  refine lv_aload_n hx hb dX3_plan_20 rfl (lv_at hl 1 rfl) ?_
  refine lv_iload_n hx hb dX3_plan_21 rfl (lv_at hl 0 rfl) ?_
  refine lv_iload_n hx hb dX3_plan_22 rfl (lv_at hl 0 rfl) ?_
  refine q_if_eq (tgt := 39) hx hb (by omega) dX3_plan_23 (by decide) (fun c_9 => absurd c_9 (by decide)) (fun c_9 => ?_)
  refine lv_aload_n hx hb dX3_plan_26 rfl (lv_at hl 1 rfl) ?_
  refine lv_iload_n hx hb dX3_plan_27 rfl (lv_at hl 2 rfl) ?_
  refine lv_iload_n hx hb dX3_plan_28 rfl (lv_at hl 3 rfl) ?_
  refine g_calli (As := [.int (nI v), .int (nI p)]) (rest := [.int (nI 1), .ref E.1.1]) ⟨hx, hb, hml, hown, hts⟩ (c_X3_placeInPlan l D E tl y v p w hv hw6 h7) (cwV 2 hts gX3_plan_X3_placeInPlan rfl rfl rfl (by decide +kernel) ⟨Nat.le_of_ble_eq_true rfl, Nat.le_of_ble_eq_true rfl⟩) (m_recv hK hP) hK hP hD hS hA rfl hl.1 rfl (Nat.le_of_ble_eq_true rfl) dX3_plan_29 ⟨Nat.le_of_ble_eq_true rfl, Nat.le_of_ble_eq_true rfl⟩ (fun r_12 u_11 H locs hw hP hD hS => ?_)
  obtain ⟨hr_12, hu_11⟩ := hw
  rw [hu_11] at hP hD
  refine q_top (x' := (nI a)) (hr_12.trans hla) ?_
  refine q_if_ge (tgt := 39) hx hb (by omega) dX3_plan_32 (by decide) (fun c7 => ?_) (fun c7 => c7.elim)
  refine lv_iconst (v := nI 0) hx hb dX3_plan_39 (by decide) ?_
  refine g_calli (As := [.int (nI 1), .int (nI 0)]) (rest := []) ⟨hx, hb, hml, hown, hts⟩ (c_X3_goes l D E tl y (nI 1) (nI 0)) (cwV 2 hts gX3_plan_X3_goes rfl rfl rfl (by decide +kernel) ⟨Nat.le_of_ble_eq_true rfl, Nat.le_of_ble_eq_true rfl⟩) (m_recv hK hP) hK hP hD hS hA rfl hl.1 rfl (Nat.le_of_ble_eq_true rfl) dX3_plan_40 ⟨Nat.le_of_ble_eq_true rfl, Nat.le_of_ble_eq_true rfl⟩ (fun r_15 u_14 H locs hw hP hD hS => ?_)
  obtain ⟨hr_15, hu_14⟩ := hw
  rw [hu_14] at hP hD
  rw [show mGt (nI 1) (nI 0) = nI 2 from by decide] at hP hD
  refine q_top (x' := (nI 0)) (hr_15.trans (by decide)) ?_
  refine q_if_ne (tgt := 48) hx hb (by omega) dX3_plan_43 (by decide) (fun c_16 => absurd c_16 (by decide)) (fun c_16 => ?_)
  refine lv_iconst (v := nI 0) hx hb dX3_plan_46 (by decide) ?_
  exact W.iret hx hb hr (fun t ht hW => ⟨⟨_, up2 y 18 0 (nI 2), rfl, rfl, by rw [ht]; exact hP, va_K.moved hW.alike hK, hD⟩, hS.F ht⟩) hS.2.2 dX3_plan_47

set_option maxHeartbeats 4000000 in
set_option maxRecDepth 100000 in
theorem c_X3_plan_nv (l : Launch) (D : va_G) (E : mE) (tl : gTy) (y : Nat → Nat → Int32) (v p : Int32) (hv : v < 0 ∨ nI 8 ≤ v)  : gI l yX3_plan wsX3_plan ({ frames := 1, cells := 0, slots := 0, locals := 24 } : Room) D (mT E tl) (mW E y) [.ref E.1.1, .int v, .int p] (fun (r : Int32) (u : Nat → Nat → Int32) => u = up2 y 18 0 (nI 1)) (mW E) 0 0 := by
  refine gM.start (cc := cX3_plan) (maxL := 4) (ret := (some .int)) (own := RX3) rfl (by decide) rfl (Nat.le_of_ble_eq_true rfl) ?_
  intro pr e s m args below meth c A ls H locs hx hb hml hr hts hown hlocks hname hA hK hP hD hS hl
  replace hl : lv_has ls 4 [(0, .ref E.1.1), (1, .int v), (2, .int p)] := hl
  refine lv_iload_n hx hb dX3_plan_0 rfl (lv_at hl 1 rfl) ?_
  refine g_scalli (As := [.int v]) (rest := []) ⟨hx, hb, hml, hown, hts⟩ (c_X3_isVisitor_n l D E tl y v hv) (va_cwS 1 hts gX3_plan_X3_isVisitor rfl rfl rfl (by decide +kernel) ⟨Nat.le_of_ble_eq_true rfl, Nat.le_of_ble_eq_true rfl⟩) hK hP hD hS hA rfl hl.1 rfl (Nat.le_of_ble_eq_true rfl) dX3_plan_1 ⟨Nat.le_of_ble_eq_true rfl, Nat.le_of_ble_eq_true rfl⟩ (fun r_3 u_2 H locs hw hP hD hS => ?_)
  obtain ⟨hr_3, hu_2⟩ := hw
  rw [hu_2] at hP hD
  refine q_top (x' := (nI 0)) hr_3 ?_
  refine q_if_eq (tgt := 18) hx hb (by omega) dX3_plan_4 (by decide) (fun c_4 => ?_) (fun c_4 => absurd c_4 (by decide))
  refine lv_iconst (v := nI 0) hx hb dX3_plan_18 (by decide) ?_
  refine lv_istore_n (lv' := [(3, .int (nI 0)), (0, .ref E.1.1), (1, .int v), (2, .int p)]) hx hb dX3_plan_19 rfl hl (by decide) rfl (fun ls hl => ?_)
  refine lv_aload_n hx hb dX3_plan_20 rfl (lv_at hl 1 rfl) ?_
  refine lv_iload_n hx hb dX3_plan_21 rfl (lv_at hl 0 rfl) ?_
  refine lv_iload_n hx hb dX3_plan_22 rfl (lv_at hl 0 rfl) ?_
  refine q_if_eq (tgt := 39) hx hb (by omega) dX3_plan_23 (by decide) (fun c_5 => ?_) (fun c_5 => absurd c_5 (by decide))
  refine lv_iconst (v := nI 0) hx hb dX3_plan_39 (by decide) ?_
  refine g_calli (As := [.int (nI 0), .int (nI 0)]) (rest := []) ⟨hx, hb, hml, hown, hts⟩ (c_X3_goes l D E tl y (nI 0) (nI 0)) (cwV 2 hts gX3_plan_X3_goes rfl rfl rfl (by decide +kernel) ⟨Nat.le_of_ble_eq_true rfl, Nat.le_of_ble_eq_true rfl⟩) (m_recv hK hP) hK hP hD hS hA rfl hl.1 rfl (Nat.le_of_ble_eq_true rfl) dX3_plan_40 ⟨Nat.le_of_ble_eq_true rfl, Nat.le_of_ble_eq_true rfl⟩ (fun r_8 u_7 H locs hw hP hD hS => ?_)
  obtain ⟨hr_8, hu_7⟩ := hw
  rw [hu_7] at hP hD
  rw [show mGt (nI 0) (nI 0) = nI 1 from by decide] at hP hD
  refine q_top (x' := (nI 0)) (hr_8.trans (by decide)) ?_
  refine q_if_ne (tgt := 48) hx hb (by omega) dX3_plan_43 (by decide) (fun c_9 => absurd c_9 (by decide)) (fun c_9 => ?_)
  refine lv_iconst (v := nI 0) hx hb dX3_plan_46 (by decide) ?_
  exact W.iret hx hb hr (fun t ht hW => ⟨⟨_, up2 y 18 0 (nI 1), rfl, rfl, by rw [ht]; exact hP, va_K.moved hW.alike hK, hD⟩, hS.F ht⟩) hS.2.2 dX3_plan_47

set_option maxHeartbeats 4000000 in
set_option maxRecDepth 100000 in
theorem c_X3_plan_np (l : Launch) (D : va_G) (E : mE) (tl : gTy) (y : Nat → Nat → Int32) (v : Nat) (p : Int32) (hv : v < 8) (hp : p < 0 ∨ nI 6 ≤ p)  : gI l yX3_plan wsX3_plan ({ frames := 1, cells := 0, slots := 0, locals := 24 } : Room) D (mT E tl) (mW E y) [.ref E.1.1, .int (nI v), .int p] (fun (r : Int32) (u : Nat → Nat → Int32) => u = up2 y 18 0 (nI 1)) (mW E) 0 0 := by
  refine gM.start (cc := cX3_plan) (maxL := 4) (ret := (some .int)) (own := RX3) rfl (by decide) rfl (Nat.le_of_ble_eq_true rfl) ?_
  intro pr e s m args below meth c A ls H locs hx hb hml hr hts hown hlocks hname hA hK hP hD hS hl
  replace hl : lv_has ls 4 [(0, .ref E.1.1), (1, .int (nI v)), (2, .int p)] := hl
  refine lv_iload_n hx hb dX3_plan_0 rfl (lv_at hl 1 rfl) ?_
  refine g_scalli (As := [.int (nI v)]) (rest := []) ⟨hx, hb, hml, hown, hts⟩ (c_X3_isVisitor_y l D E tl y v hv) (va_cwS 1 hts gX3_plan_X3_isVisitor rfl rfl rfl (by decide +kernel) ⟨Nat.le_of_ble_eq_true rfl, Nat.le_of_ble_eq_true rfl⟩) hK hP hD hS hA rfl hl.1 rfl (Nat.le_of_ble_eq_true rfl) dX3_plan_1 ⟨Nat.le_of_ble_eq_true rfl, Nat.le_of_ble_eq_true rfl⟩ (fun r_3 u_2 H locs hw hP hD hS => ?_)
  obtain ⟨hr_3, hu_2⟩ := hw
  rw [hu_2] at hP hD
  refine q_top (x' := (nI 1)) hr_3 ?_
  refine q_if_eq (tgt := 18) hx hb (by omega) dX3_plan_4 (by decide) (fun c_4 => absurd c_4 (by decide)) (fun c_4 => ?_)
  refine lv_iload_n hx hb dX3_plan_7 rfl (lv_at hl 2 rfl) ?_
  refine g_scalli (As := [.int p]) (rest := []) ⟨hx, hb, hml, hown, hts⟩ (c_X3_isPavilion_n l D E tl y p hp) (va_cwS 1 hts gX3_plan_X3_isPavilion rfl rfl rfl (by decide +kernel) ⟨Nat.le_of_ble_eq_true rfl, Nat.le_of_ble_eq_true rfl⟩) hK hP hD hS hA rfl hl.1 rfl (Nat.le_of_ble_eq_true rfl) dX3_plan_8 ⟨Nat.le_of_ble_eq_true rfl, Nat.le_of_ble_eq_true rfl⟩ (fun r_7 u_6 H locs hw hP hD hS => ?_)
  obtain ⟨hr_7, hu_6⟩ := hw
  rw [hu_6] at hP hD
  refine q_top (x' := (nI 0)) hr_7 ?_
  refine q_if_eq (tgt := 18) hx hb (by omega) dX3_plan_11 (by decide) (fun c_8 => ?_) (fun c_8 => absurd c_8 (by decide))
  refine lv_iconst (v := nI 0) hx hb dX3_plan_18 (by decide) ?_
  refine lv_istore_n (lv' := [(3, .int (nI 0)), (0, .ref E.1.1), (1, .int (nI v)), (2, .int p)]) hx hb dX3_plan_19 rfl hl (by decide) rfl (fun ls hl => ?_)
  refine lv_aload_n hx hb dX3_plan_20 rfl (lv_at hl 1 rfl) ?_
  refine lv_iload_n hx hb dX3_plan_21 rfl (lv_at hl 0 rfl) ?_
  refine lv_iload_n hx hb dX3_plan_22 rfl (lv_at hl 0 rfl) ?_
  refine q_if_eq (tgt := 39) hx hb (by omega) dX3_plan_23 (by decide) (fun c_9 => ?_) (fun c_9 => absurd c_9 (by decide))
  refine lv_iconst (v := nI 0) hx hb dX3_plan_39 (by decide) ?_
  refine g_calli (As := [.int (nI 0), .int (nI 0)]) (rest := []) ⟨hx, hb, hml, hown, hts⟩ (c_X3_goes l D E tl y (nI 0) (nI 0)) (cwV 2 hts gX3_plan_X3_goes rfl rfl rfl (by decide +kernel) ⟨Nat.le_of_ble_eq_true rfl, Nat.le_of_ble_eq_true rfl⟩) (m_recv hK hP) hK hP hD hS hA rfl hl.1 rfl (Nat.le_of_ble_eq_true rfl) dX3_plan_40 ⟨Nat.le_of_ble_eq_true rfl, Nat.le_of_ble_eq_true rfl⟩ (fun r_12 u_11 H locs hw hP hD hS => ?_)
  obtain ⟨hr_12, hu_11⟩ := hw
  rw [hu_11] at hP hD
  rw [show mGt (nI 0) (nI 0) = nI 1 from by decide] at hP hD
  refine q_top (x' := (nI 0)) (hr_12.trans (by decide)) ?_
  refine q_if_ne (tgt := 48) hx hb (by omega) dX3_plan_43 (by decide) (fun c_13 => absurd c_13 (by decide)) (fun c_13 => ?_)
  refine lv_iconst (v := nI 0) hx hb dX3_plan_46 (by decide) ?_
  exact W.iret hx hb hr (fun t ht hW => ⟨⟨_, up2 y 18 0 (nI 1), rfl, rfl, by rw [ht]; exact hP, va_K.moved hW.alike hK, hD⟩, hS.F ht⟩) hS.2.2 dX3_plan_47

set_option maxHeartbeats 4000000 in
set_option maxRecDepth 100000 in
theorem c_X3_drop_b (l : Launch) (D : va_G) (E : mE) (tl : gTy) (y : Nat → Nat → Int32) (v p w : Nat) (hv : v < 8) (hp : p < 6) (hw6 : w ≤ 6) (h7 : y 7 v = nI w) (hla : mLastP y v p w = -1)  : gI l yX3_drop wsX3_drop ({ frames := 1, cells := 0, slots := 0, locals := 24 } : Room) D (mT E tl) (mW E y) [.ref E.1.1, .int (nI v), .int (nI p)] (fun (r : Int32) (u : Nat → Nat → Int32) => u = up2 y 18 0 (nI 2)) (mW E) 0 0 := by
  refine gM.start (cc := cX3_drop) (maxL := 6) (ret := (some .int)) (own := RX3) rfl (by decide) rfl (Nat.le_of_ble_eq_true rfl) ?_
  intro pr e s m args below meth c A ls H locs hx hb hml hr hts hown hlocks hname hA hK hP hD hS hl
  replace hl : lv_has ls 6 [(0, .ref E.1.1), (1, .int (nI v)), (2, .int (nI p))] := hl
  refine lv_iload_n hx hb dX3_drop_0 rfl (lv_at hl 1 rfl) ?_
  refine g_scalli (As := [.int (nI v)]) (rest := []) ⟨hx, hb, hml, hown, hts⟩ (c_X3_isVisitor_y l D E tl y v hv) (va_cwS 1 hts gX3_drop_X3_isVisitor rfl rfl rfl (by decide +kernel) ⟨Nat.le_of_ble_eq_true rfl, Nat.le_of_ble_eq_true rfl⟩) hK hP hD hS hA rfl hl.1 rfl (Nat.le_of_ble_eq_true rfl) dX3_drop_1 ⟨Nat.le_of_ble_eq_true rfl, Nat.le_of_ble_eq_true rfl⟩ (fun r_3 u_2 H locs hw hP hD hS => ?_)
  obtain ⟨hr_3, hu_2⟩ := hw
  rw [hu_2] at hP hD
  refine q_top (x' := (nI 1)) hr_3 ?_
  refine q_if_eq (tgt := 18) hx hb (by omega) dX3_drop_4 (by decide) (fun c_4 => absurd c_4 (by decide)) (fun c_4 => ?_)
  refine lv_iload_n hx hb dX3_drop_7 rfl (lv_at hl 2 rfl) ?_
  refine g_scalli (As := [.int (nI p)]) (rest := []) ⟨hx, hb, hml, hown, hts⟩ (c_X3_isPavilion_y l D E tl y p hp) (va_cwS 1 hts gX3_drop_X3_isPavilion rfl rfl rfl (by decide +kernel) ⟨Nat.le_of_ble_eq_true rfl, Nat.le_of_ble_eq_true rfl⟩) hK hP hD hS hA rfl hl.1 rfl (Nat.le_of_ble_eq_true rfl) dX3_drop_8 ⟨Nat.le_of_ble_eq_true rfl, Nat.le_of_ble_eq_true rfl⟩ (fun r_7 u_6 H locs hw hP hD hS => ?_)
  obtain ⟨hr_7, hu_6⟩ := hw
  rw [hu_6] at hP hD
  refine q_top (x' := (nI 1)) hr_7 ?_
  refine q_if_eq (tgt := 18) hx hb (by omega) dX3_drop_11 (by decide) (fun c_8 => absurd c_8 (by decide)) (fun c_8 => ?_)
  refine lv_iconst (v := nI 1) hx hb dX3_drop_14 (by decide) ?_
  refine lv_goto (tgt := 19) hx hb dX3_drop_15 (by decide) ?_
  refine lv_istore_n (lv' := [(3, .int (nI 1)), (0, .ref E.1.1), (1, .int (nI v)), (2, .int (nI p))]) hx hb dX3_drop_19 rfl hl (by decide) rfl (fun ls hl => ?_)
  refine lv_aload_n hx hb dX3_drop_20 rfl (lv_at hl 1 rfl) ?_
  refine lv_iload_n hx hb dX3_drop_21 rfl (lv_at hl 0 rfl) ?_
  refine lv_iload_n hx hb dX3_drop_22 rfl (lv_at hl 0 rfl) ?_
  refine q_if_eq (tgt := 39) hx hb (by omega) dX3_drop_23 (by decide) (fun c_9 => absurd c_9 (by decide)) (fun c_9 => ?_)
  refine lv_aload_n hx hb dX3_drop_26 rfl (lv_at hl 1 rfl) ?_
  refine lv_iload_n hx hb dX3_drop_27 rfl (lv_at hl 2 rfl) ?_
  refine lv_iload_n hx hb dX3_drop_28 rfl (lv_at hl 3 rfl) ?_
  refine g_calli (As := [.int (nI v), .int (nI p)]) (rest := [.int (nI 1), .ref E.1.1]) ⟨hx, hb, hml, hown, hts⟩ (c_X3_placeInPlan l D E tl y v p w hv hw6 h7) (cwV 2 hts gX3_drop_X3_placeInPlan rfl rfl rfl (by decide +kernel) ⟨Nat.le_of_ble_eq_true rfl, Nat.le_of_ble_eq_true rfl⟩) (m_recv hK hP) hK hP hD hS hA rfl hl.1 rfl (Nat.le_of_ble_eq_true rfl) dX3_drop_29 ⟨Nat.le_of_ble_eq_true rfl, Nat.le_of_ble_eq_true rfl⟩ (fun r_12 u_11 H locs hw hP hD hS => ?_)
  obtain ⟨hr_12, hu_11⟩ := hw
  rw [hu_11] at hP hD
  refine q_top (x' := (-1)) (hr_12.trans hla) ?_
  refine lv_if_lt (tgt := 39) hx hb dX3_drop_32 (by decide) (fun c7 => ?_) (fun c7 => absurd (show (-1 : Int32) < 0 by decide) c7)
  refine lv_iconst (v := nI 0) hx hb dX3_drop_39 (by decide) ?_
  refine g_calli (As := [.int (nI 1), .int (nI 0)]) (rest := []) ⟨hx, hb, hml, hown, hts⟩ (c_X3_goes l D E tl y (nI 1) (nI 0)) (cwV 2 hts gX3_drop_X3_goes rfl rfl rfl (by decide +kernel) ⟨Nat.le_of_ble_eq_true rfl, Nat.le_of_ble_eq_true rfl⟩) (m_recv hK hP) hK hP hD hS hA rfl hl.1 rfl (Nat.le_of_ble_eq_true rfl) dX3_drop_40 ⟨Nat.le_of_ble_eq_true rfl, Nat.le_of_ble_eq_true rfl⟩ (fun r_15 u_14 H locs hw hP hD hS => ?_)
  obtain ⟨hr_15, hu_14⟩ := hw
  rw [hu_14] at hP hD
  rw [show mGt (nI 1) (nI 0) = nI 2 from by decide] at hP hD
  refine q_top (x' := (nI 0)) (hr_15.trans (by decide)) ?_
  refine q_if_ne (tgt := 48) hx hb (by omega) dX3_drop_43 (by decide) (fun c_16 => absurd c_16 (by decide)) (fun c_16 => ?_)
  refine lv_iconst (v := nI 0) hx hb dX3_drop_46 (by decide) ?_
  exact W.iret hx hb hr (fun t ht hW => ⟨⟨_, up2 y 18 0 (nI 2), rfl, rfl, by rw [ht]; exact hP, va_K.moved hW.alike hK, hD⟩, hS.F ht⟩) hS.2.2 dX3_drop_47

set_option maxHeartbeats 4000000 in
set_option maxRecDepth 100000 in
theorem c_X3_drop (l : Launch) (D : va_G) (E : mE) (tl : gTy) (y : Nat → Nat → Int32) (v p w a : Nat) (y1 : Nat → Nat → Int32) (hv : v < 8) (hp : p < 6) (hw6 : w ≤ 6) (ha : a < w) (h7 : y 7 v = nI w) (hla : mLastP y v p w = nI a) (hdr : mDropR (mDs (up2 y 18 0 (nI 0)) v w a (w - 1)) v p w y1)  : gI l yX3_drop wsX3_drop ({ frames := 2, cells := 0, slots := 0, locals := 48 } : Room) D (mT E tl) (mW E y) [.ref E.1.1, .int (nI v), .int (nI p)] (fun (r : Int32) (u : Nat → Nat → Int32) => r = nI (w - 1) ∧ u = y1) (mW E) 0 0 := by
  refine gM.start (cc := cX3_drop) (maxL := 6) (ret := (some .int)) (own := RX3) rfl (by decide) rfl (Nat.le_of_ble_eq_true rfl) ?_
  intro pr e s m args below meth c A ls H locs hx hb hml hr hts hown hlocks hname hA hK hP hD hS hl
  replace hl : lv_has ls 6 [(0, .ref E.1.1), (1, .int (nI v)), (2, .int (nI p))] := hl
  have hin : ∀ w ∈ wsX30, w ∈ wsX3_drop := by decide +kernel
  have k29 := hts (.fieldLink RX3 29 "FairFolioModel" "planned" "[I") (by decide +kernel)
  have k32 := hts (.fieldLink RX3 32 "FairFolioModel" "state" "[I") (by decide +kernel)
  have k35 := hts (.fieldLink RX3 35 "FairFolioModel" "where" "[I") (by decide +kernel)
  have k50 := hts (.fieldLink RX3 50 "FairFolioModel" "isByTurn" "[Z") (by decide +kernel)
  have k26 := hts (.fieldLink RX3 26 "FairFolioModel" "plan" "[I") (by decide +kernel)
  refine lv_iload_n hx hb dX3_drop_0 rfl (lv_at hl 1 rfl) ?_
  refine g_scalli (As := [.int (nI v)]) (rest := []) ⟨hx, hb, hml, hown, hts⟩ (c_X3_isVisitor_y l D E tl y v hv) (va_cwS 1 hts gX3_drop_X3_isVisitor rfl rfl rfl (by decide +kernel) ⟨Nat.le_of_ble_eq_true rfl, Nat.le_of_ble_eq_true rfl⟩) hK hP hD hS hA rfl hl.1 rfl (Nat.le_of_ble_eq_true rfl) dX3_drop_1 ⟨Nat.le_of_ble_eq_true rfl, Nat.le_of_ble_eq_true rfl⟩ (fun r_3 u_2 H locs hw hP hD hS => ?_)
  obtain ⟨hr_3, hu_2⟩ := hw
  rw [hu_2] at hP hD
  refine q_top (x' := (nI 1)) hr_3 ?_
  refine q_if_eq (tgt := 18) hx hb (by omega) dX3_drop_4 (by decide) (fun c_4 => absurd c_4 (by decide)) (fun c_4 => ?_)
  refine lv_iload_n hx hb dX3_drop_7 rfl (lv_at hl 2 rfl) ?_
  refine g_scalli (As := [.int (nI p)]) (rest := []) ⟨hx, hb, hml, hown, hts⟩ (c_X3_isPavilion_y l D E tl y p hp) (va_cwS 1 hts gX3_drop_X3_isPavilion rfl rfl rfl (by decide +kernel) ⟨Nat.le_of_ble_eq_true rfl, Nat.le_of_ble_eq_true rfl⟩) hK hP hD hS hA rfl hl.1 rfl (Nat.le_of_ble_eq_true rfl) dX3_drop_8 ⟨Nat.le_of_ble_eq_true rfl, Nat.le_of_ble_eq_true rfl⟩ (fun r_7 u_6 H locs hw hP hD hS => ?_)
  obtain ⟨hr_7, hu_6⟩ := hw
  rw [hu_6] at hP hD
  refine q_top (x' := (nI 1)) hr_7 ?_
  refine q_if_eq (tgt := 18) hx hb (by omega) dX3_drop_11 (by decide) (fun c_8 => absurd c_8 (by decide)) (fun c_8 => ?_)
  refine lv_iconst (v := nI 1) hx hb dX3_drop_14 (by decide) ?_
  refine lv_goto (tgt := 19) hx hb dX3_drop_15 (by decide) ?_
  refine lv_istore_n (lv' := [(3, .int (nI 1)), (0, .ref E.1.1), (1, .int (nI v)), (2, .int (nI p))]) hx hb dX3_drop_19 rfl hl (by decide) rfl (fun ls hl => ?_)
  refine lv_aload_n hx hb dX3_drop_20 rfl (lv_at hl 1 rfl) ?_
  refine lv_iload_n hx hb dX3_drop_21 rfl (lv_at hl 0 rfl) ?_
  refine lv_iload_n hx hb dX3_drop_22 rfl (lv_at hl 0 rfl) ?_
  refine q_if_eq (tgt := 39) hx hb (by omega) dX3_drop_23 (by decide) (fun c_9 => absurd c_9 (by decide)) (fun c_9 => ?_)
  refine lv_aload_n hx hb dX3_drop_26 rfl (lv_at hl 1 rfl) ?_
  refine lv_iload_n hx hb dX3_drop_27 rfl (lv_at hl 2 rfl) ?_
  refine lv_iload_n hx hb dX3_drop_28 rfl (lv_at hl 3 rfl) ?_
  refine g_calli (As := [.int (nI v), .int (nI p)]) (rest := [.int (nI 1), .ref E.1.1]) ⟨hx, hb, hml, hown, hts⟩ (c_X3_placeInPlan l D E tl y v p w hv hw6 h7) (cwV 2 hts gX3_drop_X3_placeInPlan rfl rfl rfl (by decide +kernel) ⟨Nat.le_of_ble_eq_true rfl, Nat.le_of_ble_eq_true rfl⟩) (m_recv hK hP) hK hP hD hS hA rfl hl.1 rfl (Nat.le_of_ble_eq_true rfl) dX3_drop_29 ⟨Nat.le_of_ble_eq_true rfl, Nat.le_of_ble_eq_true rfl⟩ (fun r_12 u_11 H locs hw hP hD hS => ?_)
  obtain ⟨hr_12, hu_11⟩ := hw
  rw [hu_11] at hP hD
  refine q_top (x' := (nI a)) (hr_12.trans hla) ?_
  refine q_if_lt (tgt := 39) hx hb (by omega) dX3_drop_32 (by decide) (fun c7 => False.elim c7) (fun c7 => ?_)
  refine lv_iconst (v := nI 1) hx hb dX3_drop_35 (by decide) ?_
  refine lv_goto (tgt := 40) hx hb dX3_drop_36 (by decide) ?_
  refine g_calli (As := [.int (nI 1), .int (nI 1)]) (rest := []) ⟨hx, hb, hml, hown, hts⟩ (c_X3_goes l D E tl y (nI 1) (nI 1)) (cwV 2 hts gX3_drop_X3_goes rfl rfl rfl (by decide +kernel) ⟨Nat.le_of_ble_eq_true rfl, Nat.le_of_ble_eq_true rfl⟩) (m_recv hK hP) hK hP hD hS hA rfl hl.1 rfl (Nat.le_of_ble_eq_true rfl) dX3_drop_40 ⟨Nat.le_of_ble_eq_true rfl, Nat.le_of_ble_eq_true rfl⟩ (fun r_15 u_14 H locs hw hP hD hS => ?_)
  obtain ⟨hr_15, hu_14⟩ := hw
  rw [hu_14] at hP hD
  rw [show mGt (nI 1) (nI 1) = nI 0 from by decide] at hP hD
  refine q_top (x' := (nI 1)) (hr_15.trans (by decide)) ?_
  refine q_if_ne (tgt := 48) hx hb (by omega) dX3_drop_43 (by decide) (fun c_16 => ?_) (fun c_16 => absurd c_16 (by decide))
  refine lv_aload_n hx hb dX3_drop_48 rfl (lv_at hl 1 rfl) ?_
  refine lv_iload_n hx hb dX3_drop_49 rfl (lv_at hl 2 rfl) ?_
  refine lv_iload_n hx hb dX3_drop_50 rfl (lv_at hl 3 rfl) ?_
  refine g_calli (As := [.int (nI v), .int (nI p)]) (rest := []) ⟨hx, hb, hml, hown, hts⟩ (c_X3_placeInPlan l D E tl (up2 y 18 0 (nI 0)) v p w hv hw6 h7) (cwV 2 hts gX3_drop_X3_placeInPlan rfl rfl rfl (by decide +kernel) ⟨Nat.le_of_ble_eq_true rfl, Nat.le_of_ble_eq_true rfl⟩) (m_recv hK hP) hK hP hD hS hA rfl hl.1 rfl (Nat.le_of_ble_eq_true rfl) dX3_drop_51 ⟨Nat.le_of_ble_eq_true rfl, Nat.le_of_ble_eq_true rfl⟩ (fun r_19 u_18 H locs hw hP hD hS => ?_)
  obtain ⟨hr_19, hu_18⟩ := hw
  rw [hu_18] at hP hD
  refine q_top (x' := (nI a)) (hr_19.trans ((mLastP_18 y v p w (nI 0)).trans hla)) ?_
  refine lv_istore (lv' := [(4, .int (nI a)), (3, .int (nI 1)), (0, .ref E.1.1), (1, .int (nI v)), (2, .int (nI p))]) hx hb dX3_drop_54 hl (by decide) rfl (fun ls hl => ?_)
  refine lv_aload_n hx hb dX3_drop_56 rfl (lv_at hl 2 rfl) ?_
  refine m_get hx hb hts hin hown hK hP 7 (by decide) k29 rfl rfl dX3_drop_57 ?_
  refine lv_iload_n hx hb dX3_drop_60 rfl (lv_at hl 3 rfl) ?_
  refine lv_dup2_11 hx hb dX3_drop_61 rfl rfl ?_
  refine q_ild hx hb hK hP 7 0 rfl rfl v rfl (by omega) (by decide) dX3_drop_62 ?_
  refine q_top (x' := (nI w)) h7 ?_
  refine lv_iconst (v := nI 1) hx hb dX3_drop_63 (by decide) ?_
  refine q_sub hx hb (by omega) dX3_drop_64 ?_
  refine q_ist hx hb hK hP hD hS 7 0 rfl rfl v rfl (by omega) (by decide) dX3_drop_65 (fun H locs hP hD hS => ?_)
  replace hP : va_P D vwCl (mW E (up2 (up2 y 18 0 (nI 0)) 7 v (nI (w - 1)))) H := hP
  replace hD : va_D A (mW E (up2 (up2 y 18 0 (nI 0)) 7 v (nI (w - 1)))) := hD
  refine lv_iload hx hb dX3_drop_66 (lv_at hl 0 rfl) ?_
  refine lv_istore (lv' := [(5, .int (nI a)), (4, .int (nI a)), (3, .int (nI 1)), (0, .ref E.1.1), (1, .int (nI v)), (2, .int (nI p))]) hx hb dX3_drop_68 hl (by decide) rfl (fun ls hl => ?_)
  have ey : up2 (up2 y 18 0 (nI 0)) 7 v (nI (w - 1)) = mDs (up2 y 18 0 (nI 0)) v w a a := (mDs_0 (up2 y 18 0 (nI 0)) v w a)
  rw [ey] at hP hD
  clear ey
  obtain ⟨k, hk⟩ : ∃ k : Nat, k = a := ⟨_, rfl⟩
  obtain ⟨nn, hn⟩ : ∃ nn : Nat, k + nn = w - 1 := ⟨(w - 1) - a, by omega⟩
  replace hl : lv_has ls 6 [(5, .int (nI k)), (4, .int (nI a)), (3, .int (nI 1)), (0, .ref E.1.1), (1, .int (nI v)), (2, .int (nI p))] := by rw [hk]; exact hl
  replace hP : va_P D vwCl (mW E (mDs (up2 y 18 0 (nI 0)) v w a k)) H := by rw [hk]; exact hP
  replace hD : va_D A (mW E (mDs (up2 y 18 0 (nI 0)) v w a k)) := by rw [hk]; exact hD
  have hak : a ≤ k := by omega
  clear hk
  induction nn generalizing k H locs ls with
  | zero =>
    obtain rfl : k = w - 1 := by omega
    refine lv_iload hx hb dX3_drop_70 (lv_at hl 0 rfl) ?_
    refine lv_aload_n hx hb dX3_drop_72 rfl (lv_at hl 3 rfl) ?_
    refine m_get hx hb hts hin hown hK hP 7 (by decide) k29 rfl rfl dX3_drop_73 ?_
    refine lv_iload_n hx hb dX3_drop_76 rfl (lv_at hl 4 rfl) ?_
    refine q_ild hx hb hK hP 7 0 rfl rfl v rfl (by omega) (by decide) dX3_drop_77 ?_
    refine q_top (x' := (nI (w - 1))) (mDs_7 (up2 y 18 0 (nI 0)) v w a _) ?_
    refine q_icmp_ge (tgt := 113) hx hb (by omega) (by omega) dX3_drop_78 (by decide) (fun c1 => ?_) (fun c1 => absurd c1 (by omega))
    generalize hz : mDs (up2 y 18 0 (nI 0)) v w a (w - 1) = z at hP hD hdr
    have hz7 : z 7 v = nI (w - 1) := by rw [← hz]; exact mDs_7 _ v w a _
    rcases hdr with ⟨g1, g2, g3, p1, w1, a1, q1, q2, q3, q4, q5, q6, q7, rfl⟩ | ⟨gn, rfl⟩
    · refine lv_aload_n hx hb dX3_drop_113 rfl (lv_at hl 3 rfl) ?_
      refine m_get hx hb hts hin hown hK hP 8 (by decide) k32 rfl rfl dX3_drop_114 ?_
      refine lv_iload_n hx hb dX3_drop_117 rfl (lv_at hl 4 rfl) ?_
      refine q_ild hx hb hK hP 8 0 rfl rfl v rfl (by omega) (by decide) dX3_drop_118 ?_
      refine q_top (x' := (nI 1)) g1 ?_
      refine lv_iconst (v := nI 1) hx hb dX3_drop_119 (by decide) ?_
      refine q_icmp_ne (tgt := 147) hx hb (by omega) (by omega) dX3_drop_120 (by decide) (fun c_20 => absurd c_20 (by decide)) (fun c_20 => ?_)
      refine lv_aload_n hx hb dX3_drop_123 rfl (lv_at hl 3 rfl) ?_
      refine m_get hx hb hts hin hown hK hP 9 (by decide) k35 rfl rfl dX3_drop_124 ?_
      refine lv_iload_n hx hb dX3_drop_127 rfl (lv_at hl 4 rfl) ?_
      refine q_ild hx hb hK hP 9 0 rfl rfl v rfl (by omega) (by decide) dX3_drop_128 ?_
      refine q_top (x' := (nI p)) g2 ?_
      refine lv_iload_n hx hb dX3_drop_129 rfl (lv_at hl 5 rfl) ?_
      refine q_icmp_ne (tgt := 147) hx hb (by omega) (by omega) dX3_drop_130 (by decide) (fun c8 => absurd rfl c8) (fun c8 => ?_)
      refine lv_aload_n hx hb dX3_drop_133 rfl (lv_at hl 3 rfl) ?_
      refine m_get hx hb hts hin hown hK hP 14 (by decide) k50 rfl rfl dX3_drop_134 ?_
      refine lv_iload_n hx hb dX3_drop_137 rfl (lv_at hl 4 rfl) ?_
      refine q_zld hx hb hK hP 14 1 rfl rfl v rfl (by omega) (by decide) dX3_drop_138 ?_
      refine q_top (x' := (nI 0)) g3 ?_
      refine q_if_ne (tgt := 147) hx hb (by omega) dX3_drop_139 (by decide) (fun c_21 => absurd c_21 (by decide)) (fun c_21 => ?_)
      refine lv_aload_n hx hb dX3_drop_142 rfl (lv_at hl 3 rfl) ?_
      refine lv_iload_n hx hb dX3_drop_143 rfl (lv_at hl 4 rfl) ?_
      refine g_callv (As := [.int (nI v)]) (rest := []) ⟨hx, hb, hml, hown, hts⟩ (c_X3_leaves l D E tl z v p1 w1 a1 hv q1 q2 q3 q4 q5 q6 q7) (cwV 1 hts gX3_drop_X3_leaves rfl rfl rfl (by decide +kernel) ⟨Nat.le_of_ble_eq_true rfl, Nat.le_of_ble_eq_true rfl⟩) (m_recv hK hP) hK hP hD hS hA rfl hl.1 rfl (Nat.le_of_ble_eq_true rfl) dX3_drop_144 ⟨Nat.le_of_ble_eq_true rfl, Nat.le_of_ble_eq_true rfl⟩ (fun u_23 H locs hw hP hD hS => ?_)
      rw [hw] at hP hD
      refine lv_aload_n hx hb dX3_drop_147 rfl (lv_at hl 3 rfl) ?_
      refine m_get hx hb hts hin hown hK hP 7 (by decide) k29 rfl rfl dX3_drop_148 ?_
      refine lv_iload_n hx hb dX3_drop_151 rfl (lv_at hl 4 rfl) ?_
      refine q_ild hx hb hK hP 7 0 rfl rfl v rfl (by omega) (by decide) dX3_drop_152 ?_
      refine q_top (x' := (nI (w - 1))) hz7 ?_
      exact W.iret hx hb hr (fun t ht hW => ⟨⟨_, (mLeave z v p1 w1 a1), rfl, ⟨rfl, rfl⟩, by rw [ht]; exact hP, va_K.moved hW.alike hK, hD⟩, hS.F ht⟩) hS.2.2 dX3_drop_153
    · refine lv_aload_n hx hb dX3_drop_113 rfl (lv_at hl 3 rfl) ?_
      refine m_get hx hb hts hin hown hK hP 8 (by decide) k32 rfl rfl dX3_drop_114 ?_
      refine lv_iload_n hx hb dX3_drop_117 rfl (lv_at hl 4 rfl) ?_
      refine q_ild hx hb hK hP 8 0 rfl rfl v rfl (by omega) (by decide) dX3_drop_118 ?_
      refine lv_iconst (v := nI 1) hx hb dX3_drop_119 (by decide) ?_
      refine lv_icmp_ne (tgt := 147) hx hb dX3_drop_120 (by decide) (fun c8 => ?_) (fun c8 => ?_)
      · refine lv_aload_n hx hb dX3_drop_147 rfl (lv_at hl 3 rfl) ?_
        refine m_get hx hb hts hin hown hK hP 7 (by decide) k29 rfl rfl dX3_drop_148 ?_
        refine lv_iload_n hx hb dX3_drop_151 rfl (lv_at hl 4 rfl) ?_
        refine q_ild hx hb hK hP 7 0 rfl rfl v rfl (by omega) (by decide) dX3_drop_152 ?_
        refine q_top (x' := (nI (w - 1))) hz7 ?_
        exact W.iret hx hb hr (fun t ht hW => ⟨⟨_, y1, rfl, ⟨rfl, rfl⟩, by rw [ht]; exact hP, va_K.moved hW.alike hK, hD⟩, hS.F ht⟩) hS.2.2 dX3_drop_153
      · refine lv_aload_n hx hb dX3_drop_123 rfl (lv_at hl 3 rfl) ?_
        refine m_get hx hb hts hin hown hK hP 9 (by decide) k35 rfl rfl dX3_drop_124 ?_
        refine lv_iload_n hx hb dX3_drop_127 rfl (lv_at hl 4 rfl) ?_
        refine q_ild hx hb hK hP 9 0 rfl rfl v rfl (by omega) (by decide) dX3_drop_128 ?_
        refine lv_iload_n hx hb dX3_drop_129 rfl (lv_at hl 5 rfl) ?_
        refine lv_icmp_ne (tgt := 147) hx hb dX3_drop_130 (by decide) (fun c9 => ?_) (fun c9 => ?_)
        · refine lv_aload_n hx hb dX3_drop_147 rfl (lv_at hl 3 rfl) ?_
          refine m_get hx hb hts hin hown hK hP 7 (by decide) k29 rfl rfl dX3_drop_148 ?_
          refine lv_iload_n hx hb dX3_drop_151 rfl (lv_at hl 4 rfl) ?_
          refine q_ild hx hb hK hP 7 0 rfl rfl v rfl (by omega) (by decide) dX3_drop_152 ?_
          refine q_top (x' := (nI (w - 1))) hz7 ?_
          exact W.iret hx hb hr (fun t ht hW => ⟨⟨_, y1, rfl, ⟨rfl, rfl⟩, by rw [ht]; exact hP, va_K.moved hW.alike hK, hD⟩, hS.F ht⟩) hS.2.2 dX3_drop_153
        · refine lv_aload_n hx hb dX3_drop_133 rfl (lv_at hl 3 rfl) ?_
          refine m_get hx hb hts hin hown hK hP 14 (by decide) k50 rfl rfl dX3_drop_134 ?_
          refine lv_iload_n hx hb dX3_drop_137 rfl (lv_at hl 4 rfl) ?_
          refine q_zld hx hb hK hP 14 1 rfl rfl v rfl (by omega) (by decide) dX3_drop_138 ?_
          refine lv_if_ne (tgt := 147) hx hb dX3_drop_139 (by decide) (fun c10 => ?_) (fun c10 => gn.elim (fun q => absurd c8 q) (fun q => q.elim (fun q => absurd c9 q) (fun q => absurd c10 q)))
          refine lv_aload_n hx hb dX3_drop_147 rfl (lv_at hl 3 rfl) ?_
          refine m_get hx hb hts hin hown hK hP 7 (by decide) k29 rfl rfl dX3_drop_148 ?_
          refine lv_iload_n hx hb dX3_drop_151 rfl (lv_at hl 4 rfl) ?_
          refine q_ild hx hb hK hP 7 0 rfl rfl v rfl (by omega) (by decide) dX3_drop_152 ?_
          refine q_top (x' := (nI (w - 1))) hz7 ?_
          exact W.iret hx hb hr (fun t ht hW => ⟨⟨_, y1, rfl, ⟨rfl, rfl⟩, by rw [ht]; exact hP, va_K.moved hW.alike hK, hD⟩, hS.F ht⟩) hS.2.2 dX3_drop_153
  | succ nn ih =>
    refine lv_iload hx hb dX3_drop_70 (lv_at hl 0 rfl) ?_
    refine lv_aload_n hx hb dX3_drop_72 rfl (lv_at hl 3 rfl) ?_
    refine m_get hx hb hts hin hown hK hP 7 (by decide) k29 rfl rfl dX3_drop_73 ?_
    refine lv_iload_n hx hb dX3_drop_76 rfl (lv_at hl 4 rfl) ?_
    refine q_ild hx hb hK hP 7 0 rfl rfl v rfl (by omega) (by decide) dX3_drop_77 ?_
    refine q_top (x' := (nI (w - 1))) (mDs_7 (up2 y 18 0 (nI 0)) v w a k) ?_
    refine q_icmp_ge (tgt := 113) hx hb (by omega) (by omega) dX3_drop_78 (by decide) (fun c1 => absurd c1 (by omega)) (fun c1 => ?_)
    refine lv_aload_n hx hb dX3_drop_81 rfl (lv_at hl 3 rfl) ?_
    refine m_get hx hb hts hin hown hK hP 6 (by decide) k26 rfl rfl dX3_drop_82 ?_
    refine lv_bipush (v := nI 6) hx hb dX3_drop_85 (by decide) ?_
    refine lv_iload_n hx hb dX3_drop_87 rfl (lv_at hl 4 rfl) ?_
    refine q_mul hx hb dX3_drop_88 ?_
    refine lv_iload hx hb dX3_drop_89 (lv_at hl 0 rfl) ?_
    refine q_add hx hb dX3_drop_91 ?_
    refine lv_aload_n hx hb dX3_drop_92 rfl (lv_at hl 3 rfl) ?_
    refine m_get hx hb hts hin hown hK hP 6 (by decide) k26 rfl rfl dX3_drop_93 ?_
    refine lv_bipush (v := nI 6) hx hb dX3_drop_96 (by decide) ?_
    refine lv_iload_n hx hb dX3_drop_98 rfl (lv_at hl 4 rfl) ?_
    refine q_mul hx hb dX3_drop_99 ?_
    refine lv_iload hx hb dX3_drop_100 (lv_at hl 0 rfl) ?_
    refine q_add hx hb dX3_drop_102 ?_
    refine lv_iconst (v := nI 1) hx hb dX3_drop_103 (by decide) ?_
    refine q_add hx hb dX3_drop_104 ?_
    refine q_ild hx hb hK hP 6 0 rfl rfl (((6 * v) + k) + 1) rfl (by omega) (by decide) dX3_drop_105 ?_
    refine q_ist hx hb hK hP hD hS 6 0 rfl rfl ((6 * v) + k) rfl (by omega) (by decide) dX3_drop_106 (fun H locs hP hD hS => ?_)
    replace hP : va_P D vwCl (mW E (up2 (mDs (up2 y 18 0 (nI 0)) v w a k) 6 ((6 * v) + k) ((mDs (up2 y 18 0 (nI 0)) v w a k) 6 (((6 * v) + k) + 1)))) H := hP
    replace hD : va_D A (mW E (up2 (mDs (up2 y 18 0 (nI 0)) v w a k) 6 ((6 * v) + k) ((mDs (up2 y 18 0 (nI 0)) v w a k) 6 (((6 * v) + k) + 1)))) := hD
    have ey : up2 (mDs (up2 y 18 0 (nI 0)) v w a k) 6 ((6 * v) + k) ((mDs (up2 y 18 0 (nI 0)) v w a k) 6 (((6 * v) + k) + 1)) = mDs (up2 y 18 0 (nI 0)) v w a (k + 1) := (mDs_s (up2 y 18 0 (nI 0)) v w a k hak)
    rw [ey] at hP hD
    clear ey
    refine q_inc (k := 0) (lv' := [(5, .int (nI (k + 1))), (4, .int (nI a)), (3, .int (nI 1)), (0, .ref E.1.1), (1, .int (nI v)), (2, .int (nI p))]) hx hb dX3_drop_107 hl rfl (by decide) rfl (fun ls hl => ?_)
    refine lv_goto (tgt := 70) hx hb dX3_drop_110 (by decide) ?_
    apply ih (k := k + 1) (H := H) (locs := locs) (ls := ls)
    all_goals first | omega | assumption

set_option maxHeartbeats 4000000 in
set_option maxRecDepth 100000 in
theorem c_X3_drop_nv (l : Launch) (D : va_G) (E : mE) (tl : gTy) (y : Nat → Nat → Int32) (v p : Int32) (hv : v < 0 ∨ nI 8 ≤ v)  : gI l yX3_drop wsX3_drop ({ frames := 2, cells := 0, slots := 0, locals := 48 } : Room) D (mT E tl) (mW E y) [.ref E.1.1, .int v, .int p] (fun (r : Int32) (u : Nat → Nat → Int32) => u = up2 y 18 0 (nI 1)) (mW E) 0 0 := by
  refine gM.start (cc := cX3_drop) (maxL := 6) (ret := (some .int)) (own := RX3) rfl (by decide) rfl (Nat.le_of_ble_eq_true rfl) ?_
  intro pr e s m args below meth c A ls H locs hx hb hml hr hts hown hlocks hname hA hK hP hD hS hl
  replace hl : lv_has ls 6 [(0, .ref E.1.1), (1, .int v), (2, .int p)] := hl
  refine lv_iload_n hx hb dX3_drop_0 rfl (lv_at hl 1 rfl) ?_
  refine g_scalli (As := [.int v]) (rest := []) ⟨hx, hb, hml, hown, hts⟩ (c_X3_isVisitor_n l D E tl y v hv) (va_cwS 1 hts gX3_drop_X3_isVisitor rfl rfl rfl (by decide +kernel) ⟨Nat.le_of_ble_eq_true rfl, Nat.le_of_ble_eq_true rfl⟩) hK hP hD hS hA rfl hl.1 rfl (Nat.le_of_ble_eq_true rfl) dX3_drop_1 ⟨Nat.le_of_ble_eq_true rfl, Nat.le_of_ble_eq_true rfl⟩ (fun r_3 u_2 H locs hw hP hD hS => ?_)
  obtain ⟨hr_3, hu_2⟩ := hw
  rw [hu_2] at hP hD
  refine q_top (x' := (nI 0)) hr_3 ?_
  refine q_if_eq (tgt := 18) hx hb (by omega) dX3_drop_4 (by decide) (fun c_4 => ?_) (fun c_4 => absurd c_4 (by decide))
  refine lv_iconst (v := nI 0) hx hb dX3_drop_18 (by decide) ?_
  refine lv_istore_n (lv' := [(3, .int (nI 0)), (0, .ref E.1.1), (1, .int v), (2, .int p)]) hx hb dX3_drop_19 rfl hl (by decide) rfl (fun ls hl => ?_)
  refine lv_aload_n hx hb dX3_drop_20 rfl (lv_at hl 1 rfl) ?_
  refine lv_iload_n hx hb dX3_drop_21 rfl (lv_at hl 0 rfl) ?_
  refine lv_iload_n hx hb dX3_drop_22 rfl (lv_at hl 0 rfl) ?_
  refine q_if_eq (tgt := 39) hx hb (by omega) dX3_drop_23 (by decide) (fun c_5 => ?_) (fun c_5 => absurd c_5 (by decide))
  refine lv_iconst (v := nI 0) hx hb dX3_drop_39 (by decide) ?_
  refine g_calli (As := [.int (nI 0), .int (nI 0)]) (rest := []) ⟨hx, hb, hml, hown, hts⟩ (c_X3_goes l D E tl y (nI 0) (nI 0)) (cwV 2 hts gX3_drop_X3_goes rfl rfl rfl (by decide +kernel) ⟨Nat.le_of_ble_eq_true rfl, Nat.le_of_ble_eq_true rfl⟩) (m_recv hK hP) hK hP hD hS hA rfl hl.1 rfl (Nat.le_of_ble_eq_true rfl) dX3_drop_40 ⟨Nat.le_of_ble_eq_true rfl, Nat.le_of_ble_eq_true rfl⟩ (fun r_8 u_7 H locs hw hP hD hS => ?_)
  obtain ⟨hr_8, hu_7⟩ := hw
  rw [hu_7] at hP hD
  rw [show mGt (nI 0) (nI 0) = nI 1 from by decide] at hP hD
  refine q_top (x' := (nI 0)) (hr_8.trans (by decide)) ?_
  refine q_if_ne (tgt := 48) hx hb (by omega) dX3_drop_43 (by decide) (fun c_9 => absurd c_9 (by decide)) (fun c_9 => ?_)
  refine lv_iconst (v := nI 0) hx hb dX3_drop_46 (by decide) ?_
  exact W.iret hx hb hr (fun t ht hW => ⟨⟨_, up2 y 18 0 (nI 1), rfl, rfl, by rw [ht]; exact hP, va_K.moved hW.alike hK, hD⟩, hS.F ht⟩) hS.2.2 dX3_drop_47

set_option maxHeartbeats 4000000 in
set_option maxRecDepth 100000 in
theorem c_X3_drop_np (l : Launch) (D : va_G) (E : mE) (tl : gTy) (y : Nat → Nat → Int32) (v : Nat) (p : Int32) (hv : v < 8) (hp : p < 0 ∨ nI 6 ≤ p)  : gI l yX3_drop wsX3_drop ({ frames := 2, cells := 0, slots := 0, locals := 48 } : Room) D (mT E tl) (mW E y) [.ref E.1.1, .int (nI v), .int p] (fun (r : Int32) (u : Nat → Nat → Int32) => u = up2 y 18 0 (nI 1)) (mW E) 0 0 := by
  refine gM.start (cc := cX3_drop) (maxL := 6) (ret := (some .int)) (own := RX3) rfl (by decide) rfl (Nat.le_of_ble_eq_true rfl) ?_
  intro pr e s m args below meth c A ls H locs hx hb hml hr hts hown hlocks hname hA hK hP hD hS hl
  replace hl : lv_has ls 6 [(0, .ref E.1.1), (1, .int (nI v)), (2, .int p)] := hl
  refine lv_iload_n hx hb dX3_drop_0 rfl (lv_at hl 1 rfl) ?_
  refine g_scalli (As := [.int (nI v)]) (rest := []) ⟨hx, hb, hml, hown, hts⟩ (c_X3_isVisitor_y l D E tl y v hv) (va_cwS 1 hts gX3_drop_X3_isVisitor rfl rfl rfl (by decide +kernel) ⟨Nat.le_of_ble_eq_true rfl, Nat.le_of_ble_eq_true rfl⟩) hK hP hD hS hA rfl hl.1 rfl (Nat.le_of_ble_eq_true rfl) dX3_drop_1 ⟨Nat.le_of_ble_eq_true rfl, Nat.le_of_ble_eq_true rfl⟩ (fun r_3 u_2 H locs hw hP hD hS => ?_)
  obtain ⟨hr_3, hu_2⟩ := hw
  rw [hu_2] at hP hD
  refine q_top (x' := (nI 1)) hr_3 ?_
  refine q_if_eq (tgt := 18) hx hb (by omega) dX3_drop_4 (by decide) (fun c_4 => absurd c_4 (by decide)) (fun c_4 => ?_)
  refine lv_iload_n hx hb dX3_drop_7 rfl (lv_at hl 2 rfl) ?_
  refine g_scalli (As := [.int p]) (rest := []) ⟨hx, hb, hml, hown, hts⟩ (c_X3_isPavilion_n l D E tl y p hp) (va_cwS 1 hts gX3_drop_X3_isPavilion rfl rfl rfl (by decide +kernel) ⟨Nat.le_of_ble_eq_true rfl, Nat.le_of_ble_eq_true rfl⟩) hK hP hD hS hA rfl hl.1 rfl (Nat.le_of_ble_eq_true rfl) dX3_drop_8 ⟨Nat.le_of_ble_eq_true rfl, Nat.le_of_ble_eq_true rfl⟩ (fun r_7 u_6 H locs hw hP hD hS => ?_)
  obtain ⟨hr_7, hu_6⟩ := hw
  rw [hu_6] at hP hD
  refine q_top (x' := (nI 0)) hr_7 ?_
  refine q_if_eq (tgt := 18) hx hb (by omega) dX3_drop_11 (by decide) (fun c_8 => ?_) (fun c_8 => absurd c_8 (by decide))
  refine lv_iconst (v := nI 0) hx hb dX3_drop_18 (by decide) ?_
  refine lv_istore_n (lv' := [(3, .int (nI 0)), (0, .ref E.1.1), (1, .int (nI v)), (2, .int p)]) hx hb dX3_drop_19 rfl hl (by decide) rfl (fun ls hl => ?_)
  refine lv_aload_n hx hb dX3_drop_20 rfl (lv_at hl 1 rfl) ?_
  refine lv_iload_n hx hb dX3_drop_21 rfl (lv_at hl 0 rfl) ?_
  refine lv_iload_n hx hb dX3_drop_22 rfl (lv_at hl 0 rfl) ?_
  refine q_if_eq (tgt := 39) hx hb (by omega) dX3_drop_23 (by decide) (fun c_9 => ?_) (fun c_9 => absurd c_9 (by decide))
  refine lv_iconst (v := nI 0) hx hb dX3_drop_39 (by decide) ?_
  refine g_calli (As := [.int (nI 0), .int (nI 0)]) (rest := []) ⟨hx, hb, hml, hown, hts⟩ (c_X3_goes l D E tl y (nI 0) (nI 0)) (cwV 2 hts gX3_drop_X3_goes rfl rfl rfl (by decide +kernel) ⟨Nat.le_of_ble_eq_true rfl, Nat.le_of_ble_eq_true rfl⟩) (m_recv hK hP) hK hP hD hS hA rfl hl.1 rfl (Nat.le_of_ble_eq_true rfl) dX3_drop_40 ⟨Nat.le_of_ble_eq_true rfl, Nat.le_of_ble_eq_true rfl⟩ (fun r_12 u_11 H locs hw hP hD hS => ?_)
  obtain ⟨hr_12, hu_11⟩ := hw
  rw [hu_11] at hP hD
  rw [show mGt (nI 0) (nI 0) = nI 1 from by decide] at hP hD
  refine q_top (x' := (nI 0)) (hr_12.trans (by decide)) ?_
  refine q_if_ne (tgt := 48) hx hb (by omega) dX3_drop_43 (by decide) (fun c_13 => absurd c_13 (by decide)) (fun c_13 => ?_)
  refine lv_iconst (v := nI 0) hx hb dX3_drop_46 (by decide) ?_
  exact W.iret hx hb hr (fun t ht hW => ⟨⟨_, up2 y 18 0 (nI 1), rfl, rfl, by rw [ht]; exact hP, va_K.moved hW.alike hK, hD⟩, hS.F ht⟩) hS.2.2 dX3_drop_47

set_option maxHeartbeats 4000000 in
set_option maxRecDepth 100000 in
theorem c_X3_sent (l : Launch) (D : va_G) (E : mE) (tl : gTy) (y : Nat → Nat → Int32) (v p : Nat) (hv : v < 8) (hp : p < 6)  : gI l yX3_sent wsX3_sent ({ frames := 1, cells := 0, slots := 0, locals := 22 } : Room) D (mT E tl) (mW E y) [.ref E.1.1, .int (nI v), .int (nI p)] (fun (r : Int32) (u : Nat → Nat → Int32) => r = y 17 (6 * v + p) ∧ u = up2 y 18 0 (nI 0)) (mW E) 0 0 := by
  refine gM.start (cc := cX3_sent) (maxL := 3) (ret := (some .int)) (own := RX3) rfl (by decide) rfl (Nat.le_of_ble_eq_true rfl) ?_
  intro pr e s m args below meth c A ls H locs hx hb hml hr hts hown hlocks hname hA hK hP hD hS hl
  replace hl : lv_has ls 3 [(0, .ref E.1.1), (1, .int (nI v)), (2, .int (nI p))] := hl
  have hin : ∀ w ∈ wsX30, w ∈ wsX3_sent := by decide +kernel
  have k59 := hts (.fieldLink RX3 59 "FairFolioModel" "sent" "[I") (by decide +kernel)
  refine lv_aload_n hx hb dX3_sent_0 rfl (lv_at hl 0 rfl) ?_
  refine lv_iload_n hx hb dX3_sent_1 rfl (lv_at hl 1 rfl) ?_
  refine g_scalli (As := [.int (nI v)]) (rest := [.ref E.1.1]) ⟨hx, hb, hml, hown, hts⟩ (c_X3_isVisitor_y l D E tl y v hv) (va_cwS 1 hts gX3_sent_X3_isVisitor rfl rfl rfl (by decide +kernel) ⟨Nat.le_of_ble_eq_true rfl, Nat.le_of_ble_eq_true rfl⟩) hK hP hD hS hA rfl hl.1 rfl (Nat.le_of_ble_eq_true rfl) dX3_sent_2 ⟨Nat.le_of_ble_eq_true rfl, Nat.le_of_ble_eq_true rfl⟩ (fun r_3 u_2 H locs hw hP hD hS => ?_)
  obtain ⟨hr_3, hu_2⟩ := hw
  rw [hu_2] at hP hD
  refine q_top (x' := (nI 1)) hr_3 ?_
  refine q_if_eq (tgt := 19) hx hb (by omega) dX3_sent_5 (by decide) (fun c_4 => absurd c_4 (by decide)) (fun c_4 => ?_)
  refine lv_iload_n hx hb dX3_sent_8 rfl (lv_at hl 2 rfl) ?_
  refine g_scalli (As := [.int (nI p)]) (rest := [.ref E.1.1]) ⟨hx, hb, hml, hown, hts⟩ (c_X3_isPavilion_y l D E tl y p hp) (va_cwS 1 hts gX3_sent_X3_isPavilion rfl rfl rfl (by decide +kernel) ⟨Nat.le_of_ble_eq_true rfl, Nat.le_of_ble_eq_true rfl⟩) hK hP hD hS hA rfl hl.1 rfl (Nat.le_of_ble_eq_true rfl) dX3_sent_9 ⟨Nat.le_of_ble_eq_true rfl, Nat.le_of_ble_eq_true rfl⟩ (fun r_7 u_6 H locs hw hP hD hS => ?_)
  obtain ⟨hr_7, hu_6⟩ := hw
  rw [hu_6] at hP hD
  refine q_top (x' := (nI 1)) hr_7 ?_
  refine q_if_eq (tgt := 19) hx hb (by omega) dX3_sent_12 (by decide) (fun c_8 => absurd c_8 (by decide)) (fun c_8 => ?_)
  refine lv_iconst (v := nI 1) hx hb dX3_sent_15 (by decide) ?_
  refine lv_goto (tgt := 20) hx hb dX3_sent_16 (by decide) ?_
  refine lv_iconst (v := nI 1) hx hb dX3_sent_20 (by decide) ?_
  refine g_calli (As := [.int (nI 1), .int (nI 1)]) (rest := []) ⟨hx, hb, hml, hown, hts⟩ (c_X3_goes l D E tl y (nI 1) (nI 1)) (cwV 2 hts gX3_sent_X3_goes rfl rfl rfl (by decide +kernel) ⟨Nat.le_of_ble_eq_true rfl, Nat.le_of_ble_eq_true rfl⟩) (m_recv hK hP) hK hP hD hS hA rfl hl.1 rfl (Nat.le_of_ble_eq_true rfl) dX3_sent_21 ⟨Nat.le_of_ble_eq_true rfl, Nat.le_of_ble_eq_true rfl⟩ (fun r_11 u_10 H locs hw hP hD hS => ?_)
  obtain ⟨hr_11, hu_10⟩ := hw
  rw [hu_10] at hP hD
  rw [show mGt (nI 1) (nI 1) = nI 0 from by decide] at hP hD
  refine q_top (x' := (nI 1)) (hr_11.trans (by decide)) ?_
  refine q_if_eq (tgt := 41) hx hb (by omega) dX3_sent_24 (by decide) (fun c_12 => absurd c_12 (by decide)) (fun c_12 => ?_)
  refine lv_aload_n hx hb dX3_sent_27 rfl (lv_at hl 0 rfl) ?_
  refine m_get hx hb hts hin hown hK hP 17 (by decide) k59 rfl rfl dX3_sent_28 ?_
  refine lv_bipush (v := nI 6) hx hb dX3_sent_31 (by decide) ?_
  refine lv_iload_n hx hb dX3_sent_33 rfl (lv_at hl 1 rfl) ?_
  refine q_mul hx hb dX3_sent_34 ?_
  refine lv_iload_n hx hb dX3_sent_35 rfl (lv_at hl 2 rfl) ?_
  refine q_add hx hb dX3_sent_36 ?_
  refine q_ild hx hb hK hP 17 0 rfl rfl ((6 * v) + p) rfl (by omega) (by decide) dX3_sent_37 ?_
  refine lv_goto (tgt := 42) hx hb dX3_sent_38 (by decide) ?_
  exact W.iret hx hb hr (fun t ht hW => ⟨⟨_, up2 y 18 0 (nI 0), rfl, ⟨rfl, rfl⟩, by rw [ht]; exact hP, va_K.moved hW.alike hK, hD⟩, hS.F ht⟩) hS.2.2 dX3_sent_42

set_option maxHeartbeats 4000000 in
set_option maxRecDepth 100000 in
theorem c_X3_sent_nv (l : Launch) (D : va_G) (E : mE) (tl : gTy) (y : Nat → Nat → Int32) (v p : Int32) (hv : v < 0 ∨ nI 8 ≤ v)  : gI l yX3_sent wsX3_sent ({ frames := 1, cells := 0, slots := 0, locals := 22 } : Room) D (mT E tl) (mW E y) [.ref E.1.1, .int v, .int p] (fun (r : Int32) (u : Nat → Nat → Int32) => u = up2 y 18 0 (nI 1)) (mW E) 0 0 := by
  refine gM.start (cc := cX3_sent) (maxL := 3) (ret := (some .int)) (own := RX3) rfl (by decide) rfl (Nat.le_of_ble_eq_true rfl) ?_
  intro pr e s m args below meth c A ls H locs hx hb hml hr hts hown hlocks hname hA hK hP hD hS hl
  replace hl : lv_has ls 3 [(0, .ref E.1.1), (1, .int v), (2, .int p)] := hl
  refine lv_aload_n hx hb dX3_sent_0 rfl (lv_at hl 0 rfl) ?_
  refine lv_iload_n hx hb dX3_sent_1 rfl (lv_at hl 1 rfl) ?_
  refine g_scalli (As := [.int v]) (rest := [.ref E.1.1]) ⟨hx, hb, hml, hown, hts⟩ (c_X3_isVisitor_n l D E tl y v hv) (va_cwS 1 hts gX3_sent_X3_isVisitor rfl rfl rfl (by decide +kernel) ⟨Nat.le_of_ble_eq_true rfl, Nat.le_of_ble_eq_true rfl⟩) hK hP hD hS hA rfl hl.1 rfl (Nat.le_of_ble_eq_true rfl) dX3_sent_2 ⟨Nat.le_of_ble_eq_true rfl, Nat.le_of_ble_eq_true rfl⟩ (fun r_3 u_2 H locs hw hP hD hS => ?_)
  obtain ⟨hr_3, hu_2⟩ := hw
  rw [hu_2] at hP hD
  refine q_top (x' := (nI 0)) hr_3 ?_
  refine q_if_eq (tgt := 19) hx hb (by omega) dX3_sent_5 (by decide) (fun c_4 => ?_) (fun c_4 => absurd c_4 (by decide))
  refine lv_iconst (v := nI 0) hx hb dX3_sent_19 (by decide) ?_
  refine lv_iconst (v := nI 1) hx hb dX3_sent_20 (by decide) ?_
  refine g_calli (As := [.int (nI 0), .int (nI 1)]) (rest := []) ⟨hx, hb, hml, hown, hts⟩ (c_X3_goes l D E tl y (nI 0) (nI 1)) (cwV 2 hts gX3_sent_X3_goes rfl rfl rfl (by decide +kernel) ⟨Nat.le_of_ble_eq_true rfl, Nat.le_of_ble_eq_true rfl⟩) (m_recv hK hP) hK hP hD hS hA rfl hl.1 rfl (Nat.le_of_ble_eq_true rfl) dX3_sent_21 ⟨Nat.le_of_ble_eq_true rfl, Nat.le_of_ble_eq_true rfl⟩ (fun r_7 u_6 H locs hw hP hD hS => ?_)
  obtain ⟨hr_7, hu_6⟩ := hw
  rw [hu_6] at hP hD
  rw [show mGt (nI 0) (nI 1) = nI 1 from by decide] at hP hD
  refine q_top (x' := (nI 0)) (hr_7.trans (by decide)) ?_
  refine q_if_eq (tgt := 41) hx hb (by omega) dX3_sent_24 (by decide) (fun c_8 => ?_) (fun c_8 => absurd c_8 (by decide))
  refine lv_iconst (v := nI 0) hx hb dX3_sent_41 (by decide) ?_
  exact W.iret hx hb hr (fun t ht hW => ⟨⟨_, up2 y 18 0 (nI 1), rfl, rfl, by rw [ht]; exact hP, va_K.moved hW.alike hK, hD⟩, hS.F ht⟩) hS.2.2 dX3_sent_42

set_option maxHeartbeats 4000000 in
set_option maxRecDepth 100000 in
theorem c_X3_sent_np (l : Launch) (D : va_G) (E : mE) (tl : gTy) (y : Nat → Nat → Int32) (v : Nat) (p : Int32) (hv : v < 8) (hp : p < 0 ∨ nI 6 ≤ p)  : gI l yX3_sent wsX3_sent ({ frames := 1, cells := 0, slots := 0, locals := 22 } : Room) D (mT E tl) (mW E y) [.ref E.1.1, .int (nI v), .int p] (fun (r : Int32) (u : Nat → Nat → Int32) => u = up2 y 18 0 (nI 1)) (mW E) 0 0 := by
  refine gM.start (cc := cX3_sent) (maxL := 3) (ret := (some .int)) (own := RX3) rfl (by decide) rfl (Nat.le_of_ble_eq_true rfl) ?_
  intro pr e s m args below meth c A ls H locs hx hb hml hr hts hown hlocks hname hA hK hP hD hS hl
  replace hl : lv_has ls 3 [(0, .ref E.1.1), (1, .int (nI v)), (2, .int p)] := hl
  refine lv_aload_n hx hb dX3_sent_0 rfl (lv_at hl 0 rfl) ?_
  refine lv_iload_n hx hb dX3_sent_1 rfl (lv_at hl 1 rfl) ?_
  refine g_scalli (As := [.int (nI v)]) (rest := [.ref E.1.1]) ⟨hx, hb, hml, hown, hts⟩ (c_X3_isVisitor_y l D E tl y v hv) (va_cwS 1 hts gX3_sent_X3_isVisitor rfl rfl rfl (by decide +kernel) ⟨Nat.le_of_ble_eq_true rfl, Nat.le_of_ble_eq_true rfl⟩) hK hP hD hS hA rfl hl.1 rfl (Nat.le_of_ble_eq_true rfl) dX3_sent_2 ⟨Nat.le_of_ble_eq_true rfl, Nat.le_of_ble_eq_true rfl⟩ (fun r_3 u_2 H locs hw hP hD hS => ?_)
  obtain ⟨hr_3, hu_2⟩ := hw
  rw [hu_2] at hP hD
  refine q_top (x' := (nI 1)) hr_3 ?_
  refine q_if_eq (tgt := 19) hx hb (by omega) dX3_sent_5 (by decide) (fun c_4 => absurd c_4 (by decide)) (fun c_4 => ?_)
  refine lv_iload_n hx hb dX3_sent_8 rfl (lv_at hl 2 rfl) ?_
  refine g_scalli (As := [.int p]) (rest := [.ref E.1.1]) ⟨hx, hb, hml, hown, hts⟩ (c_X3_isPavilion_n l D E tl y p hp) (va_cwS 1 hts gX3_sent_X3_isPavilion rfl rfl rfl (by decide +kernel) ⟨Nat.le_of_ble_eq_true rfl, Nat.le_of_ble_eq_true rfl⟩) hK hP hD hS hA rfl hl.1 rfl (Nat.le_of_ble_eq_true rfl) dX3_sent_9 ⟨Nat.le_of_ble_eq_true rfl, Nat.le_of_ble_eq_true rfl⟩ (fun r_7 u_6 H locs hw hP hD hS => ?_)
  obtain ⟨hr_7, hu_6⟩ := hw
  rw [hu_6] at hP hD
  refine q_top (x' := (nI 0)) hr_7 ?_
  refine q_if_eq (tgt := 19) hx hb (by omega) dX3_sent_12 (by decide) (fun c_8 => ?_) (fun c_8 => absurd c_8 (by decide))
  refine lv_iconst (v := nI 0) hx hb dX3_sent_19 (by decide) ?_
  refine lv_iconst (v := nI 1) hx hb dX3_sent_20 (by decide) ?_
  refine g_calli (As := [.int (nI 0), .int (nI 1)]) (rest := []) ⟨hx, hb, hml, hown, hts⟩ (c_X3_goes l D E tl y (nI 0) (nI 1)) (cwV 2 hts gX3_sent_X3_goes rfl rfl rfl (by decide +kernel) ⟨Nat.le_of_ble_eq_true rfl, Nat.le_of_ble_eq_true rfl⟩) (m_recv hK hP) hK hP hD hS hA rfl hl.1 rfl (Nat.le_of_ble_eq_true rfl) dX3_sent_21 ⟨Nat.le_of_ble_eq_true rfl, Nat.le_of_ble_eq_true rfl⟩ (fun r_11 u_10 H locs hw hP hD hS => ?_)
  obtain ⟨hr_11, hu_10⟩ := hw
  rw [hu_10] at hP hD
  rw [show mGt (nI 0) (nI 1) = nI 1 from by decide] at hP hD
  refine q_top (x' := (nI 0)) (hr_11.trans (by decide)) ?_
  refine q_if_eq (tgt := 41) hx hb (by omega) dX3_sent_24 (by decide) (fun c_12 => ?_) (fun c_12 => absurd c_12 (by decide))
  refine lv_iconst (v := nI 0) hx hb dX3_sent_41 (by decide) ?_
  exact W.iret hx hb hr (fun t ht hW => ⟨⟨_, up2 y 18 0 (nI 1), rfl, rfl, by rw [ht]; exact hP, va_K.moved hW.alike hK, hD⟩, hS.F ht⟩) hS.2.2 dX3_sent_42
