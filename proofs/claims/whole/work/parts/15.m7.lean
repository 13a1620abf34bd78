theorem add_nI0 (f : Int32) : f + nI 0 = f := by
  rw [show nI 0 = (0 : Int32) from rfl]
  exact Int32.add_zero f

set_option maxHeartbeats 4000000 in
set_option maxRecDepth 100000 in
theorem c_X3_ask_b (l : Launch) (D : va_G) (E : mE) (tl : gTy) (y : Nat → Nat → Int32) (v p : Nat) (hv : v < 8) (hp : p < 6) (hno : 0 ≤ y 12 v ∨ ¬ y 3 p = nI 0)  : gI l yX3_ask wsX3_ask ({ frames := 1, cells := 0, slots := 0, locals := 22 } : Room) D (mT E tl) (mW E y) [.ref E.1.1, .int (nI v), .int (nI p)] (fun (r : Int32) (u : Nat → Nat → Int32) => u = up2 y 18 0 (nI 2)) (mW E) 0 0 := by
  refine gM.start (cc := cX3_ask) (maxL := 7) (ret := (some .int)) (own := RX3) rfl (by decide) rfl (Nat.le_of_ble_eq_true rfl) ?_
  intro pr e s m args below meth c A ls H locs hx hb hml hr hts hown hlocks hname hA hK hP hD hS hl
  replace hl : lv_has ls 7 [(0, .ref E.1.1), (1, .int (nI v)), (2, .int (nI p))] := hl
  have hin : ∀ w ∈ wsX30, w ∈ wsX3_ask := by decide +kernel
  have k44 := hts (.fieldLink RX3 44 "FairFolioModel" "turn" "[I") (by decide +kernel)
  have k16 := hts (.fieldLink RX3 16 "FairFolioModel" "isClosed" "[Z") (by decide +kernel)
  refine lv_iload_n hx hb dX3_ask_0 rfl (lv_at hl 1 rfl) ?_
  refine g_scalli (As := [.int (nI v)]) (rest := []) ⟨hx, hb, hml, hown, hts⟩ (c_X3_isVisitor_y l D E tl y v hv) (va_cwS 1 hts gX3_ask_X3_isVisitor rfl rfl rfl (by decide +kernel) ⟨Nat.le_of_ble_eq_true rfl, Nat.le_of_ble_eq_true rfl⟩) hK hP hD hS hA rfl hl.1 rfl (Nat.le_of_ble_eq_true rfl) dX3_ask_1 ⟨Nat.le_of_ble_eq_true rfl, Nat.le_of_ble_eq_true rfl⟩ (fun r_3 u_2 H locs hw hP hD hS => ?_)
  obtain ⟨hr_3, hu_2⟩ := hw
  rw [hu_2] at hP hD
  refine q_top (x' := (nI 1)) hr_3 ?_
  refine q_if_eq (tgt := 18) hx hb (by omega) dX3_ask_4 (by decide) (fun c_4 => absurd c_4 (by decide)) (fun c_4 => ?_)
  refine lv_iload_n hx hb dX3_ask_7 rfl (lv_at hl 2 rfl) ?_
  refine g_scalli (As := [.int (nI p)]) (rest := []) ⟨hx, hb, hml, hown, hts⟩ (c_X3_isPavilion_y l D E tl y p hp) (va_cwS 1 hts gX3_ask_X3_isPavilion rfl rfl rfl (by decide +kernel) ⟨Nat.le_of_ble_eq_true rfl, Nat.le_of_ble_eq_true rfl⟩) hK hP hD hS hA rfl hl.1 rfl (Nat.le_of_ble_eq_true rfl) dX3_ask_8 ⟨Nat.le_of_ble_eq_true rfl, Nat.le_of_ble_eq_true rfl⟩ (fun r_7 u_6 H locs hw hP hD hS => ?_)
  obtain ⟨hr_7, hu_6⟩ := hw
  rw [hu_6] at hP hD
  refine q_top (x' := (nI 1)) hr_7 ?_
  refine q_if_eq (tgt := 18) hx hb (by omega) dX3_ask_11 (by decide) (fun c_8 => absurd c_8 (by decide)) (fun c_8 => ?_)
  refine lv_iconst (v := nI 1) hx hb dX3_ask_14 (by decide) ?_
  refine lv_goto (tgt := 19) hx hb dX3_ask_15 (by decide) ?_
  refine lv_istore_n (lv' := [(3, .int (nI 1)), (0, .ref E.1.1), (1, .int (nI v)), (2, .int (nI p))]) hx hb dX3_ask_19 rfl hl (by decide) rfl (fun ls hl => ?_)
  refine lv_aload_n hx hb dX3_ask_20 rfl (lv_at hl 1 rfl) ?_
  refine lv_iload_n hx hb dX3_ask_21 rfl (lv_at hl 0 rfl) ?_
  refine lv_iload_n hx hb dX3_ask_22 rfl (lv_at hl 0 rfl) ?_
  refine q_if_eq (tgt := 48) hx hb (by omega) dX3_ask_23 (by decide) (fun c_9 => absurd c_9 (by decide)) (fun c_9 => ?_)
  refine lv_aload_n hx hb dX3_ask_26 rfl (lv_at hl 1 rfl) ?_
  refine m_get hx hb hts hin hown hK hP 12 (by decide) k44 rfl rfl dX3_ask_27 ?_
  refine lv_iload_n hx hb dX3_ask_30 rfl (lv_at hl 2 rfl) ?_
  refine q_ild hx hb hK hP 12 0 rfl rfl v rfl (by omega) (by decide) dX3_ask_31 ?_
  refine lv_if_ge (tgt := 48) hx hb dX3_ask_32 (by decide) (fun c7 => ?_) (fun c7 => ?_)
  · refine lv_iconst (v := nI 0) hx hb dX3_ask_48 (by decide) ?_
    refine g_calli (As := [.int (nI 1), .int (nI 0)]) (rest := []) ⟨hx, hb, hml, hown, hts⟩ (c_X3_goes l D E tl y (nI 1) (nI 0)) (cwV 2 hts gX3_ask_X3_goes rfl rfl rfl (by decide +kernel) ⟨Nat.le_of_ble_eq_true rfl, Nat.le_of_ble_eq_true rfl⟩) (m_recv hK hP) hK hP hD hS hA rfl hl.1 rfl (Nat.le_of_ble_eq_true rfl) dX3_ask_49 ⟨Nat.le_of_ble_eq_true rfl, Nat.le_of_ble_eq_true rfl⟩ (fun r_12 u_11 H locs hw hP hD hS => ?_)
    obtain ⟨hr_12, hu_11⟩ := hw
    rw [hu_11] at hP hD
    rw [show mGt (nI 1) (nI 0) = nI 2 from by decide] at hP hD
    refine q_top (x' := (nI 0)) (hr_12.trans (by decide)) ?_
    refine q_if_ne (tgt := 57) hx hb (by omega) dX3_ask_52 (by decide) (fun c_13 => absurd c_13 (by decide)) (fun c_13 => ?_)
    refine lv_iconst (v := nI 0) hx hb dX3_ask_55 (by decide) ?_
    exact W.iret hx hb hr (fun t ht hW => ⟨⟨_, up2 y 18 0 (nI 2), rfl, rfl, by rw [ht]; exact hP, va_K.moved hW.alike hK, hD⟩, hS.F ht⟩) hS.2.2 dX3_ask_56
  · refine lv_aload_n hx hb dX3_ask_35 rfl (lv_at hl 1 rfl) ?_
    refine m_get hx hb hts hin hown hK hP 3 (by decide) k16 rfl rfl dX3_ask_36 ?_
    refine lv_iload_n hx hb dX3_ask_39 rfl (lv_at hl 3 rfl) ?_
    refine q_zld hx hb hK hP 3 1 rfl rfl p rfl (by omega) (by decide) dX3_ask_40 ?_
    refine lv_if_ne (tgt := 48) hx hb dX3_ask_41 (by decide) (fun c8 => ?_) (fun c8 => absurd hno (fun h => h.elim c7 (fun q => q c8)))
    refine lv_iconst (v := nI 0) hx hb dX3_ask_48 (by decide) ?_
    refine g_calli (As := [.int (nI 1), .int (nI 0)]) (rest := []) ⟨hx, hb, hml, hown, hts⟩ (c_X3_goes l D E tl y (nI 1) (nI 0)) (cwV 2 hts gX3_ask_X3_goes rfl rfl rfl (by decide +kernel) ⟨Nat.le_of_ble_eq_true rfl, Nat.le_of_ble_eq_true rfl⟩) (m_recv hK hP) hK hP hD hS hA rfl hl.1 rfl (Nat.le_of_ble_eq_true rfl) dX3_ask_49 ⟨Nat.le_of_ble_eq_true rfl, Nat.le_of_ble_eq_true rfl⟩ (fun r_16 u_15 H locs hw hP hD hS => ?_)
    obtain ⟨hr_16, hu_15⟩ := hw
    rw [hu_15] at hP hD
    rw [show mGt (nI 1) (nI 0) = nI 2 from by decide] at hP hD
    refine q_top (x' := (nI 0)) (hr_16.trans (by decide)) ?_
    refine q_if_ne (tgt := 57) hx hb (by omega) dX3_ask_52 (by decide) (fun c_17 => absurd c_17 (by decide)) (fun c_17 => ?_)
    refine lv_iconst (v := nI 0) hx hb dX3_ask_55 (by decide) ?_
    exact W.iret hx hb hr (fun t ht hW => ⟨⟨_, up2 y 18 0 (nI 2), rfl, rfl, by rw [ht]; exact hP, va_K.moved hW.alike hK, hD⟩, hS.F ht⟩) hS.2.2 dX3_ask_56

set_option maxHeartbeats 4000000 in
set_option maxRecDepth 100000 in
theorem c_X3_ask (l : Launch) (D : va_G) (E : mE) (tl : gTy) (y : Nat → Nat → Int32) (v p n0 : Nat) (f1 : Int32) (hv : v < 8) (hp : p < 6) (hno : ¬ 0 ≤ y 12 v) (hcl : y 3 p = nI 0) (hask : mAskR (up2 y 18 0 (nI 0)) p n0 ((y 0 0 / nI 5 + nI 1) * nI 5) f1)  : gI l yX3_ask wsX3_ask ({ frames := 1, cells := 0, slots := 0, locals := 22 } : Room) D (mT E tl) (mW E y) [.ref E.1.1, .int (nI v), .int (nI p)] (fun (r : Int32) (u : Nat → Nat → Int32) => r = f1 ∧ u = up2 (up2 (up2 (up2 y 18 0 (nI 0)) 12 v f1) 13 v (nI p)) 14 v (nI 0)) (mW E) 0 0 := by
  refine gM.start (cc := cX3_ask) (maxL := 7) (ret := (some .int)) (own := RX3) rfl (by decide) rfl (Nat.le_of_ble_eq_true rfl) ?_
  intro pr e s m args below meth c A ls H locs hx hb hml hr hts hown hlocks hname hA hK hP hD hS hl
  replace hl : lv_has ls 7 [(0, .ref E.1.1), (1, .int (nI v)), (2, .int (nI p))] := hl
  have hin : ∀ w ∈ wsX30, w ∈ wsX3_ask := by decide +kernel
  have k44 := hts (.fieldLink RX3 44 "FairFolioModel" "turn" "[I") (by decide +kernel)
  have k16 := hts (.fieldLink RX3 16 "FairFolioModel" "isClosed" "[Z") (by decide +kernel)
  have k91 := hts (.fieldLink RX3 91 "FairFolioModel" "minute" "I") (by decide +kernel)
  have k47 := hts (.fieldLink RX3 47 "FairFolioModel" "turnFor" "[I") (by decide +kernel)
  have k50 := hts (.fieldLink RX3 50 "FairFolioModel" "isByTurn" "[Z") (by decide +kernel)
  refine lv_iload_n hx hb dX3_ask_0 rfl (lv_at hl 1 rfl) ?_
  refine g_scalli (As := [.int (nI v)]) (rest := []) ⟨hx, hb, hml, hown, hts⟩ (c_X3_isVisitor_y l D E tl y v hv) (va_cwS 1 hts gX3_ask_X3_isVisitor rfl rfl rfl (by decide +kernel) ⟨Nat.le_of_ble_eq_true rfl, Nat.le_of_ble_eq_true rfl⟩) hK hP hD hS hA rfl hl.1 rfl (Nat.le_of_ble_eq_true rfl) dX3_ask_1 ⟨Nat.le_of_ble_eq_true rfl, Nat.le_of_ble_eq_true rfl⟩ (fun r_3 u_2 H locs hw hP hD hS => ?_)
  obtain ⟨hr_3, hu_2⟩ := hw
  rw [hu_2] at hP hD
  refine q_top (x' := (nI 1)) hr_3 ?_
  refine q_if_eq (tgt := 18) hx hb (by omega) dX3_ask_4 (by decide) (fun c_4 => absurd c_4 (by decide)) (fun c_4 => ?_)
  refine lv_iload_n hx hb dX3_ask_7 rfl (lv_at hl 2 rfl) ?_
  refine g_scalli (As := [.int (nI p)]) (rest := []) ⟨hx, hb, hml, hown, hts⟩ (c_X3_isPavilion_y l D E tl y p hp) (va_cwS 1 hts gX3_ask_X3_isPavilion rfl rfl rfl (by decide +kernel) ⟨Nat.le_of_ble_eq_true rfl, Nat.le_of_ble_eq_true rfl⟩) hK hP hD hS hA rfl hl.1 rfl (Nat.le_of_ble_eq_true rfl) dX3_ask_8 ⟨Nat.le_of_ble_eq_true rfl, Nat.le_of_ble_eq_true rfl⟩ (fun r_7 u_6 H locs hw hP hD hS => ?_)
  obtain ⟨hr_7, hu_6⟩ := hw
  rw [hu_6] at hP hD
  refine q_top (x' := (nI 1)) hr_7 ?_
  refine q_if_eq (tgt := 18) hx hb (by omega) dX3_ask_11 (by decide) (fun c_8 => absurd c_8 (by decide)) (fun c_8 => ?_)
  refine lv_iconst (v := nI 1) hx hb dX3_ask_14 (by decide) ?_
  refine lv_goto (tgt := 19) hx hb dX3_ask_15 (by decide) ?_
  refine lv_istore_n (lv' := [(3, .int (nI 1)), (0, .ref E.1.1), (1, .int (nI v)), (2, .int (nI p))]) hx hb dX3_ask_19 rfl hl (by decide) rfl (fun ls hl => ?_)
  refine lv_aload_n hx hb dX3_ask_20 rfl (lv_at hl 1 rfl) ?_
  refine lv_iload_n hx hb dX3_ask_21 rfl (lv_at hl 0 rfl) ?_
  refine lv_iload_n hx hb dX3_ask_22 rfl (lv_at hl 0 rfl) ?_
  refine q_if_eq (tgt := 48) hx hb (by omega) dX3_ask_23 (by decide) (fun c_9 => absurd c_9 (by decide)) (fun c_9 => ?_)
  refine lv_aload_n hx hb dX3_ask_26 rfl (lv_at hl 1 rfl) ?_
  refine m_get hx hb hts hin hown hK hP 12 (by decide) k44 rfl rfl dX3_ask_27 ?_
  refine lv_iload_n hx hb dX3_ask_30 rfl (lv_at hl 2 rfl) ?_
  refine q_ild hx hb hK hP 12 0 rfl rfl v rfl (by omega) (by decide) dX3_ask_31 ?_
  refine lv_if_ge (tgt := 48) hx hb dX3_ask_32 (by decide) (fun c7 => absurd c7 hno) (fun c7 => ?_)
  refine lv_aload_n hx hb dX3_ask_35 rfl (lv_at hl 1 rfl) ?_
  refine m_get hx hb hts hin hown hK hP 3 (by decide) k16 rfl rfl dX3_ask_36 ?_
  refine lv_iload_n hx hb dX3_ask_39 rfl (lv_at hl 3 rfl) ?_
  refine q_zld hx hb hK hP 3 1 rfl rfl p rfl (by omega) (by decide) dX3_ask_40 ?_
  refine q_top (x' := (nI 0)) hcl ?_
  refine q_if_ne (tgt := 48) hx hb (by omega) dX3_ask_41 (by decide) (fun c_10 => absurd c_10 (by decide)) (fun c_10 => ?_)
  refine lv_iconst (v := nI 1) hx hb dX3_ask_44 (by decide) ?_
  refine lv_goto (tgt := 49) hx hb dX3_ask_45 (by decide) ?_
  refine g_calli (As := [.int (nI 1), .int (nI 1)]) (rest := []) ⟨hx, hb, hml, hown, hts⟩ (c_X3_goes l D E tl y (nI 1) (nI 1)) (cwV 2 hts gX3_ask_X3_goes rfl rfl rfl (by decide +kernel) ⟨Nat.le_of_ble_eq_true rfl, Nat.le_of_ble_eq_true rfl⟩) (m_recv hK hP) hK hP hD hS hA rfl hl.1 rfl (Nat.le_of_ble_eq_true rfl) dX3_ask_49 ⟨Nat.le_of_ble_eq_true rfl, Nat.le_of_ble_eq_true rfl⟩ (fun r_13 u_12 H locs hw hP hD hS => ?_)
  obtain ⟨hr_13, hu_12⟩ := hw
  rw [hu_12] at hP hD
  rw [show mGt (nI 1) (nI 1) = nI 0 from by decide] at hP hD
  refine q_top (x' := (nI 1)) (hr_13.trans (by decide)) ?_
  refine q_if_ne (tgt := 57) hx hb (by omega) dX3_ask_52 (by decide) (fun c_14 => ?_) (fun c_14 => absurd c_14 (by decide))
  refine lv_aload_n hx hb dX3_ask_57 rfl (lv_at hl 1 rfl) ?_
  refine m_get hx hb hts hin hown hK hP 0 (by decide) k91 rfl rfl dX3_ask_58 ?_
  refine lv_iconst (v := nI 5) hx hb dX3_ask_61 (by decide) ?_
  refine lv_idiv hx hb dX3_ask_62 (by decide) ?_
  refine lv_iconst (v := nI 1) hx hb dX3_ask_63 (by decide) ?_
  refine lv_iadd hx hb dX3_ask_64 ?_
  refine lv_iconst (v := nI 5) hx hb dX3_ask_65 (by decide) ?_
  refine lv_imul hx hb dX3_ask_66 ?_
  refine q_top (x' := ((y 0 0 / nI 5 + nI 1) * nI 5)) rfl ?_
  refine lv_istore (lv' := [(4, .int ((y 0 0 / nI 5 + nI 1) * nI 5)), (3, .int (nI 1)), (0, .ref E.1.1), (1, .int (nI v)), (2, .int (nI p))]) hx hb dX3_ask_67 hl (by decide) rfl (fun ls hl => ?_)
  refine lv_iconst (v := nI 1) hx hb dX3_ask_69 (by decide) ?_
  refine lv_istore (lv' := [(5, .int (nI 1)), (4, .int ((y 0 0 / nI 5 + nI 1) * nI 5)), (3, .int (nI 1)), (0, .ref E.1.1), (1, .int (nI v)), (2, .int (nI p))]) hx hb dX3_ask_70 hl (by decide) rfl (fun ls hl => ?_)
  generalize (y 0 0 / nI 5 + nI 1) * nI 5 = f at hask hl
  induction n0 generalizing f H locs ls with
  | zero =>
    refine lv_iload hx hb dX3_ask_72 (lv_at hl 0 rfl) ?_
    refine q_if_eq (tgt := 149) hx hb (by omega) dX3_ask_74 (by decide) (fun c_15 => absurd c_15 (by decide)) (fun c_15 => ?_)
    refine lv_iconst (v := nI 0) hx hb dX3_ask_77 (by decide) ?_
    refine lv_istore (lv' := [(5, .int (nI 0)), (4, .int f), (3, .int (nI 1)), (0, .ref E.1.1), (1, .int (nI v)), (2, .int (nI p))]) hx hb dX3_ask_78 hl (by decide) rfl (fun ls hl => ?_)
    refine lv_iconst (v := nI 0) hx hb dX3_ask_80 (by decide) ?_
    refine lv_istore (lv' := [(6, .int (nI 0)), (5, .int (nI 0)), (4, .int f), (3, .int (nI 1)), (0, .ref E.1.1), (1, .int (nI v)), (2, .int (nI p))]) hx hb dX3_ask_81 hl (by decide) rfl (fun ls hl => ?_)
    obtain ⟨k, hk⟩ : ∃ k : Nat, k = 0 := ⟨_, rfl⟩
    obtain ⟨mm, hmm⟩ : ∃ mm : Nat, mm = 8 := ⟨_, rfl⟩
    replace hl : lv_has ls 7 [(6, .int (nI k)), (5, .int (nI (mTaken (up2 y 18 0 (nI 0)) p f k))), (4, .int f), (3, .int (nI 1)), (0, .ref E.1.1), (1, .int (nI v)), (2, .int (nI p))] := by rw [hk]; exact hl
    replace hmm : k + mm = 8 := by omega
    clear hk
    induction mm generalizing k H locs ls with
    | zero =>
      obtain rfl : k = 8 := by omega
      refine lv_iload hx hb dX3_ask_83 (lv_at hl 0 rfl) ?_
      refine lv_bipush (v := nI 8) hx hb dX3_ask_85 (by decide) ?_
      refine q_icmp_ge (tgt := 131) hx hb (by omega) (by omega) dX3_ask_87 (by decide) (fun c20 => ?_) (fun c20 => absurd c20 (by omega))
      obtain ⟨h0, rfl⟩ := hask
      replace hl : lv_has ls 7 [(6, .int (nI 8)), (5, .int (nI 0)), (4, .int f1), (3, .int (nI 1)), (0, .ref E.1.1), (1, .int (nI v)), (2, .int (nI p))] := by rw [h0] at hl; exact hl
      refine lv_iload hx hb dX3_ask_131 (lv_at hl 2 rfl) ?_
      refine lv_iload hx hb dX3_ask_133 (lv_at hl 1 rfl) ?_
      refine q_if_eq (tgt := 142) hx hb (by omega) dX3_ask_135 (by decide) (fun c_16 => ?_) (fun c_16 => absurd c_16 (by decide))
      refine lv_iconst (v := nI 0) hx hb dX3_ask_142 (by decide) ?_
      refine lv_iadd hx hb dX3_ask_143 ?_
      refine q_top (x' := f1) (add_nI0 f1) ?_
      refine lv_istore (lv' := [(4, .int f1), (6, .int (nI 8)), (5, .int (nI 0)), (3, .int (nI 1)), (0, .ref E.1.1), (1, .int (nI v)), (2, .int (nI p))]) hx hb dX3_ask_144 hl (by decide) rfl (fun ls hl => ?_)
      refine lv_goto (tgt := 72) hx hb dX3_ask_146 (by decide) ?_
      refine lv_iload hx hb dX3_ask_72 (lv_at hl 2 rfl) ?_
      refine q_if_eq (tgt := 149) hx hb (by omega) dX3_ask_74 (by decide) (fun c_17 => ?_) (fun c_17 => absurd c_17 (by decide))
      refine lv_aload_n hx hb dX3_ask_149 rfl (lv_at hl 4 rfl) ?_
      refine m_get hx hb hts hin hown hK hP 12 (by decide) k44 rfl rfl dX3_ask_150 ?_
      refine lv_iload_n hx hb dX3_ask_153 rfl (lv_at hl 5 rfl) ?_
      refine lv_iload hx hb dX3_ask_154 (lv_at hl 0 rfl) ?_
      refine q_ist hx hb hK hP hD hS 12 0 rfl rfl v rfl (by omega) (by decide) dX3_ask_156 (fun H locs hP hD hS => ?_)
      replace hP : va_P D vwCl (mW E (up2 (up2 y 18 0 (nI 0)) 12 v f1)) H := hP
      replace hD : va_D A (mW E (up2 (up2 y 18 0 (nI 0)) 12 v f1)) := hD
      refine lv_aload_n hx hb dX3_ask_157 rfl (lv_at hl 4 rfl) ?_
      refine m_get hx hb hts hin hown hK hP 13 (by decide) k47 rfl rfl dX3_ask_158 ?_
      refine lv_iload_n hx hb dX3_ask_161 rfl (lv_at hl 5 rfl) ?_
      refine lv_iload_n hx hb dX3_ask_162 rfl (lv_at hl 6 rfl) ?_
      refine q_ist hx hb hK hP hD hS 13 0 rfl rfl v rfl (by omega) (by decide) dX3_ask_163 (fun H locs hP hD hS => ?_)
      replace hP : va_P D vwCl (mW E (up2 (up2 (up2 y 18 0 (nI 0)) 12 v f1) 13 v (nI p))) H := hP
      replace hD : va_D A (mW E (up2 (up2 (up2 y 18 0 (nI 0)) 12 v f1) 13 v (nI p))) := hD
      refine lv_aload_n hx hb dX3_ask_164 rfl (lv_at hl 4 rfl) ?_
      refine m_get hx hb hts hin hown hK hP 14 (by decide) k50 rfl rfl dX3_ask_165 ?_
      refine lv_iload_n hx hb dX3_ask_168 rfl (lv_at hl 5 rfl) ?_
      refine lv_iconst (v := nI 0) hx hb dX3_ask_169 (by decide) ?_
      refine q_zst hx hb hK hP hD hS 14 1 rfl rfl v rfl (by omega) (by decide) (Or.inl rfl) dX3_ask_170 (fun H locs hP hD hS => ?_)
      replace hP : va_P D vwCl (mW E (up2 (up2 (up2 (up2 y 18 0 (nI 0)) 12 v f1) 13 v (nI p)) 14 v (nI 0))) H := hP
      replace hD : va_D A (mW E (up2 (up2 (up2 (up2 y 18 0 (nI 0)) 12 v f1) 13 v (nI p)) 14 v (nI 0))) := hD
      refine lv_iload hx hb dX3_ask_171 (lv_at hl 0 rfl) ?_
      exact W.iret hx hb hr (fun t ht hW => ⟨⟨_, up2 (up2 (up2 (up2 y 18 0 (nI 0)) 12 v f1) 13 v (nI p)) 14 v (nI 0), rfl, ⟨rfl, rfl⟩, by rw [ht]; exact hP, va_K.moved hW.alike hK, hD⟩, hS.F ht⟩) hS.2.2 dX3_ask_173
    | succ mm ih2 =>
      refine lv_iload hx hb dX3_ask_83 (lv_at hl 0 rfl) ?_
      refine lv_bipush (v := nI 8) hx hb dX3_ask_85 (by decide) ?_
      refine q_icmp_ge (tgt := 131) hx hb (by omega) (by omega) dX3_ask_87 (by decide) (fun c20 => absurd c20 (by omega)) (fun c20 => ?_)
      refine lv_iload hx hb dX3_ask_90 (lv_at hl 1 rfl) ?_
      refine q_if_ne (tgt := 118) hx hb (by rcases mTaken_01 (up2 y 18 0 (nI 0)) p f k with q | q <;> omega) dX3_ask_92 (by decide) (fun c21 => ?_) (fun c21 => ?_)
      · refine lv_iconst (v := nI 1) hx hb dX3_ask_118 (by decide) ?_
        refine lv_goto (tgt := 123) hx hb dX3_ask_119 (by decide) ?_
        refine q_top (x' := (nI (mTaken (up2 y 18 0 (nI 0)) p f (k + 1)))) (by rw [mTaken, if_pos ((mTaken_01 _ p f k).resolve_left c21)]) ?_
        refine lv_istore (lv' := [(5, .int (nI (mTaken (up2 y 18 0 (nI 0)) p f (k + 1)))), (6, .int (nI k)), (4, .int f), (3, .int (nI 1)), (0, .ref E.1.1), (1, .int (nI v)), (2, .int (nI p))]) hx hb dX3_ask_123 hl (by decide) rfl (fun ls hl => ?_)
        refine q_inc (k := 1) (lv' := [(6, .int (nI (k + 1))), (5, .int (nI (mTaken (up2 y 18 0 (nI 0)) p f (k + 1)))), (4, .int f), (3, .int (nI 1)), (0, .ref E.1.1), (1, .int (nI v)), (2, .int (nI p))]) hx hb dX3_ask_125 hl rfl (by decide) rfl (fun ls hl => ?_)
        refine lv_goto (tgt := 83) hx hb dX3_ask_128 (by decide) ?_
        exact ih2 (k := k + 1) (H := H) (locs := locs) (ls := ls) (hP := hP) (hS := hS) (hl := lv_sub hl [0, 1, 2, 3, 4, 5, 6] rfl) (hmm := by omega)
      · refine lv_aload_n hx hb dX3_ask_95 rfl (lv_at hl 4 rfl) ?_
        refine m_get hx hb hts hin hown hK hP 12 (by decide) k44 rfl rfl dX3_ask_96 ?_
        refine lv_iload hx hb dX3_ask_99 (lv_at hl 0 rfl) ?_
        refine q_ild hx hb hK hP 12 0 rfl rfl k rfl (by omega) (by decide) dX3_ask_101 ?_
        refine lv_iload hx hb dX3_ask_102 (lv_at hl 2 rfl) ?_
        refine lv_icmp_ne (tgt := 122) hx hb dX3_ask_104 (by decide) (fun c22 => ?_) (fun c22 => ?_)
        · refine lv_iconst (v := nI 0) hx hb dX3_ask_122 (by decide) ?_
          refine q_top (x' := (nI (mTaken (up2 y 18 0 (nI 0)) p f (k + 1)))) (by rw [mTaken, if_neg (fun q => absurd (q.symm.trans c21) (by decide)), if_neg (fun q => c22 q.1)]) ?_
          refine lv_istore (lv' := [(5, .int (nI (mTaken (up2 y 18 0 (nI 0)) p f (k + 1)))), (6, .int (nI k)), (4, .int f), (3, .int (nI 1)), (0, .ref E.1.1), (1, .int (nI v)), (2, .int (nI p))]) hx hb dX3_ask_123 hl (by decide) rfl (fun ls hl => ?_)
          refine q_inc (k := 1) (lv' := [(6, .int (nI (k + 1))), (5, .int (nI (mTaken (up2 y 18 0 (nI 0)) p f (k + 1)))), (4, .int f), (3, .int (nI 1)), (0, .ref E.1.1), (1, .int (nI v)), (2, .int (nI p))]) hx hb dX3_ask_125 hl rfl (by decide) rfl (fun ls hl => ?_)
          refine lv_goto (tgt := 83) hx hb dX3_ask_128 (by decide) ?_
          exact ih2 (k := k + 1) (H := H) (locs := locs) (ls := ls) (hP := hP) (hS := hS) (hl := lv_sub hl [0, 1, 2, 3, 4, 5, 6] rfl) (hmm := by omega)
        · refine lv_aload_n hx hb dX3_ask_107 rfl (lv_at hl 4 rfl) ?_
          refine m_get hx hb hts hin hown hK hP 13 (by decide) k47 rfl rfl dX3_ask_108 ?_
          refine lv_iload hx hb dX3_ask_111 (lv_at hl 0 rfl) ?_
          refine q_ild hx hb hK hP 13 0 rfl rfl k rfl (by omega) (by decide) dX3_ask_113 ?_
          refine lv_iload_n hx hb dX3_ask_114 rfl (lv_at hl 6 rfl) ?_
          refine lv_icmp_ne (tgt := 122) hx hb dX3_ask_115 (by decide) (fun c23 => ?_) (fun c23 => ?_)
          · refine lv_iconst (v := nI 0) hx hb dX3_ask_122 (by decide) ?_
            refine q_top (x' := (nI (mTaken (up2 y 18 0 (nI 0)) p f (k + 1)))) (by rw [mTaken, if_neg (fun q => absurd (q.symm.trans c21) (by decide)), if_neg (fun q => c23 q.2)]) ?_
            refine lv_istore (lv' := [(5, .int (nI (mTaken (up2 y 18 0 (nI 0)) p f (k + 1)))), (6, .int (nI k)), (4, .int f), (3, .int (nI 1)), (0, .ref E.1.1), (1, .int (nI v)), (2, .int (nI p))]) hx hb dX3_ask_123 hl (by decide) rfl (fun ls hl => ?_)
            refine q_inc (k := 1) (lv' := [(6, .int (nI (k + 1))), (5, .int (nI (mTaken (up2 y 18 0 (nI 0)) p f (k + 1)))), (4, .int f), (3, .int (nI 1)), (0, .ref E.1.1), (1, .int (nI v)), (2, .int (nI p))]) hx hb dX3_ask_125 hl rfl (by decide) rfl (fun ls hl => ?_)
            refine lv_goto (tgt := 83) hx hb dX3_ask_128 (by decide) ?_
            exact ih2 (k := k + 1) (H := H) (locs := locs) (ls := ls) (hP := hP) (hS := hS) (hl := lv_sub hl [0, 1, 2, 3, 4, 5, 6] rfl) (hmm := by omega)
          · refine lv_iconst (v := nI 1) hx hb dX3_ask_118 (by decide) ?_
            refine lv_goto (tgt := 123) hx hb dX3_ask_119 (by decide) ?_
            refine q_top (x' := (nI (mTaken (up2 y 18 0 (nI 0)) p f (k + 1)))) (by rw [mTaken, if_neg (fun q => absurd (q.symm.trans c21) (by decide)), if_pos ⟨c22, c23⟩]) ?_
            refine lv_istore (lv' := [(5, .int (nI (mTaken (up2 y 18 0 (nI 0)) p f (k + 1)))), (6, .int (nI k)), (4, .int f), (3, .int (nI 1)), (0, .ref E.1.1), (1, .int (nI v)), (2, .int (nI p))]) hx hb dX3_ask_123 hl (by decide) rfl (fun ls hl => ?_)
            refine q_inc (k := 1) (lv' := [(6, .int (nI (k + 1))), (5, .int (nI (mTaken (up2 y 18 0 (nI 0)) p f (k + 1)))), (4, .int f), (3, .int (nI 1)), (0, .ref E.1.1), (1, .int (nI v)), (2, .int (nI p))]) hx hb dX3_ask_125 hl rfl (by decide) rfl (fun ls hl => ?_)
            refine lv_goto (tgt := 83) hx hb dX3_ask_128 (by decide) ?_
            exact ih2 (k := k + 1) (H := H) (locs := locs) (ls := ls) (hP := hP) (hS := hS) (hl := lv_sub hl [0, 1, 2, 3, 4, 5, 6] rfl) (hmm := by omega)
  | succ nn ih =>
    refine lv_iload hx hb dX3_ask_72 (lv_at hl 0 rfl) ?_
    refine q_if_eq (tgt := 149) hx hb (by omega) dX3_ask_74 (by decide) (fun c_18 => absurd c_18 (by decide)) (fun c_18 => ?_)
    refine lv_iconst (v := nI 0) hx hb dX3_ask_77 (by decide) ?_
    refine lv_istore (lv' := [(5, .int (nI 0)), (4, .int f), (3, .int (nI 1)), (0, .ref E.1.1), (1, .int (nI v)), (2, .int (nI p))]) hx hb dX3_ask_78 hl (by decide) rfl (fun ls hl => ?_)
    refine lv_iconst (v := nI 0) hx hb dX3_ask_80 (by decide) ?_
    refine lv_istore (lv' := [(6, .int (nI 0)), (5, .int (nI 0)), (4, .int f), (3, .int (nI 1)), (0, .ref E.1.1), (1, .int (nI v)), (2, .int (nI p))]) hx hb dX3_ask_81 hl (by decide) rfl (fun ls hl => ?_)
    obtain ⟨k, hk⟩ : ∃ k : Nat, k = 0 := ⟨_, rfl⟩
    obtain ⟨mm, hmm⟩ : ∃ mm : Nat, mm = 8 := ⟨_, rfl⟩
    replace hl : lv_has ls 7 [(6, .int (nI k)), (5, .int (nI (mTaken (up2 y 18 0 (nI 0)) p f k))), (4, .int f), (3, .int (nI 1)), (0, .ref E.1.1), (1, .int (nI v)), (2, .int (nI p))] := by rw [hk]; exact hl
    replace hmm : k + mm = 8 := by omega
    clear hk
    induction mm generalizing k H locs ls with
    | zero =>
      obtain rfl : k = 8 := by omega
      refine lv_iload hx hb dX3_ask_83 (lv_at hl 0 rfl) ?_
      refine lv_bipush (v := nI 8) hx hb dX3_ask_85 (by decide) ?_
      refine q_icmp_ge (tgt := 131) hx hb (by omega) (by omega) dX3_ask_87 (by decide) (fun c20 => ?_) (fun c20 => absurd c20 (by omega))
      obtain ⟨h0, hask⟩ := hask
      replace hl : lv_has ls 7 [(6, .int (nI 8)), (5, .int (nI 1)), (4, .int f), (3, .int (nI 1)), (0, .ref E.1.1), (1, .int (nI v)), (2, .int (nI p))] := by rw [h0] at hl; exact hl
      refine lv_iload hx hb dX3_ask_131 (lv_at hl 2 rfl) ?_
      refine lv_iload hx hb dX3_ask_133 (lv_at hl 1 rfl) ?_
      refine q_if_eq (tgt := 142) hx hb (by omega) dX3_ask_135 (by decide) (fun c_19 => absurd c_19 (by decide)) (fun c_19 => ?_)
      refine lv_iconst (v := nI 5) hx hb dX3_ask_138 (by decide) ?_
      refine lv_goto (tgt := 143) hx hb dX3_ask_139 (by decide) ?_
      refine lv_iadd hx hb dX3_ask_143 ?_
      refine lv_istore (lv' := [(4, .int (f + (nI 5))), (6, .int (nI 8)), (5, .int (nI 1)), (3, .int (nI 1)), (0, .ref E.1.1), (1, .int (nI v)), (2, .int (nI p))]) hx hb dX3_ask_144 hl (by decide) rfl (fun ls hl => ?_)
      refine lv_goto (tgt := 72) hx hb dX3_ask_146 (by decide) ?_
      exact ih (f := f + nI 5) (H := H) (locs := locs) (ls := ls) (hP := hP) (hS := hS) (hl := lv_sub hl [2, 0, 3, 4, 5, 6] rfl) (hask := hask)
    | succ mm ih2 =>
      refine lv_iload hx hb dX3_ask_83 (lv_at hl 0 rfl) ?_
      refine lv_bipush (v := nI 8) hx hb dX3_ask_85 (by decide) ?_
      refine q_icmp_ge (tgt := 131) hx hb (by omega) (by omega) dX3_ask_87 (by decide) (fun c20 => absurd c20 (by omega)) (fun c20 => ?_)
      refine lv_iload hx hb dX3_ask_90 (lv_at hl 1 rfl) ?_
      refine q_if_ne (tgt := 118) hx hb (by rcases mTaken_01 (up2 y 18 0 (nI 0)) p f k with q | q <;> omega) dX3_ask_92 (by decide) (fun c21 => ?_) (fun c21 => ?_)
      · refine lv_iconst (v := nI 1) hx hb dX3_ask_118 (by decide) ?_
        refine lv_goto (tgt := 123) hx hb dX3_ask_119 (by decide) ?_
        refine q_top (x' := (nI (mTaken (up2 y 18 0 (nI 0)) p f (k + 1)))) (by rw [mTaken, if_pos ((mTaken_01 _ p f k).resolve_left c21)]) ?_
        refine lv_istore (lv' := [(5, .int (nI (mTaken (up2 y 18 0 (nI 0)) p f (k + 1)))), (6, .int (nI k)), (4, .int f), (3, .int (nI 1)), (0, .ref E.1.1), (1, .int (nI v)), (2, .int (nI p))]) hx hb dX3_ask_123 hl (by decide) rfl (fun ls hl => ?_)
        refine q_inc (k := 1) (lv' := [(6, .int (nI (k + 1))), (5, .int (nI (mTaken (up2 y 18 0 (nI 0)) p f (k + 1)))), (4, .int f), (3, .int (nI 1)), (0, .ref E.1.1), (1, .int (nI v)), (2, .int (nI p))]) hx hb dX3_ask_125 hl rfl (by decide) rfl (fun ls hl => ?_)
        refine lv_goto (tgt := 83) hx hb dX3_ask_128 (by decide) ?_
        exact ih2 (k := k + 1) (H := H) (locs := locs) (ls := ls) (hP := hP) (hS := hS) (hl := lv_sub hl [0, 1, 2, 3, 4, 5, 6] rfl) (hmm := by omega)
      · refine lv_aload_n hx hb dX3_ask_95 rfl (lv_at hl 4 rfl) ?_
        refine m_get hx hb hts hin hown hK hP 12 (by decide) k44 rfl rfl dX3_ask_96 ?_
        refine lv_iload hx hb dX3_ask_99 (lv_at hl 0 rfl) ?_
        refine q_ild hx hb hK hP 12 0 rfl rfl k rfl (by omega) (by decide) dX3_ask_101 ?_
        refine lv_iload hx hb dX3_ask_102 (lv_at hl 2 rfl) ?_
        refine lv_icmp_ne (tgt := 122) hx hb dX3_ask_104 (by decide) (fun c22 => ?_) (fun c22 => ?_)
        · refine lv_iconst (v := nI 0) hx hb dX3_ask_122 (by decide) ?_
          refine q_top (x' := (nI (mTaken (up2 y 18 0 (nI 0)) p f (k + 1)))) (by rw [mTaken, if_neg (fun q => absurd (q.symm.trans c21) (by decide)), if_neg (fun q => c22 q.1)]) ?_
          refine lv_istore (lv' := [(5, .int (nI (mTaken (up2 y 18 0 (nI 0)) p f (k + 1)))), (6, .int (nI k)), (4, .int f), (3, .int (nI 1)), (0, .ref E.1.1), (1, .int (nI v)), (2, .int (nI p))]) hx hb dX3_ask_123 hl (by decide) rfl (fun ls hl => ?_)
          refine q_inc (k := 1) (lv' := [(6, .int (nI (k + 1))), (5, .int (nI (mTaken (up2 y 18 0 (nI 0)) p f (k + 1)))), (4, .int f), (3, .int (nI 1)), (0, .ref E.1.1), (1, .int (nI v)), (2, .int (nI p))]) hx hb dX3_ask_125 hl rfl (by decide) rfl (fun ls hl => ?_)
          refine lv_goto (tgt := 83) hx hb dX3_ask_128 (by decide) ?_
          exact ih2 (k := k + 1) (H := H) (locs := locs) (ls := ls) (hP := hP) (hS := hS) (hl := lv_sub hl [0, 1, 2, 3, 4, 5, 6] rfl) (hmm := by omega)
        · refine lv_aload_n hx hb dX3_ask_107 rfl (lv_at hl 4 rfl) ?_
          refine m_get hx hb hts hin hown hK hP 13 (by decide) k47 rfl rfl dX3_ask_108 ?_
          refine lv_iload hx hb dX3_ask_111 (lv_at hl 0 rfl) ?_
          refine q_ild hx hb hK hP 13 0 rfl rfl k rfl (by omega) (by decide) dX3_ask_113 ?_
          refine lv_iload_n hx hb dX3_ask_114 rfl (lv_at hl 6 rfl) ?_
          refine lv_icmp_ne (tgt := 122) hx hb dX3_ask_115 (by decide) (fun c23 => ?_) (fun c23 => ?_)
          · refine lv_iconst (v := nI 0) hx hb dX3_ask_122 (by decide) ?_
            refine q_top (x' := (nI (mTaken (up2 y 18 0 (nI 0)) p f (k + 1)))) (by rw [mTaken, if_neg (fun q => absurd (q.symm.trans c21) (by decide)), if_neg (fun q => c23 q.2)]) ?_
            refine lv_istore (lv' := [(5, .int (nI (mTaken (up2 y 18 0 (nI 0)) p f (k + 1)))), (6, .int (nI k)), (4, .int f), (3, .int (nI 1)), (0, .ref E.1.1), (1, .int (nI v)), (2, .int (nI p))]) hx hb dX3_ask_123 hl (by decide) rfl (fun ls hl => ?_)
            refine q_inc (k := 1) (lv' := [(6, .int (nI (k + 1))), (5, .int (nI (mTaken (up2 y 18 0 (nI 0)) p f (k + 1)))), (4, .int f), (3, .int (nI 1)), (0, .ref E.1.1), (1, .int (nI v)), (2, .int (nI p))]) hx hb dX3_ask_125 hl rfl (by decide) rfl (fun ls hl => ?_)
            refine lv_goto (tgt := 83) hx hb dX3_ask_128 (by decide) ?_
            exact ih2 (k := k + 1) (H := H) (locs := locs) (ls := ls) (hP := hP) (hS := hS) (hl := lv_sub hl [0, 1, 2, 3, 4, 5, 6] rfl) (hmm := by omega)
          · refine lv_iconst (v := nI 1) hx hb dX3_ask_118 (by decide) ?_
            refine lv_goto (tgt := 123) hx hb dX3_ask_119 (by decide) ?_
            refine q_top (x' := (nI (mTaken (up2 y 18 0 (nI 0)) p f (k + 1)))) (by rw [mTaken, if_neg (fun q => absurd (q.symm.trans c21) (by decide)), if_pos ⟨c22, c23⟩]) ?_
            refine lv_istore (lv' := [(5, .int (nI (mTaken (up2 y 18 0 (nI 0)) p f (k + 1)))), (6, .int (nI k)), (4, .int f), (3, .int (nI 1)), (0, .ref E.1.1), (1, .int (nI v)), (2, .int (nI p))]) hx hb dX3_ask_123 hl (by decide) rfl (fun ls hl => ?_)
            refine q_inc (k := 1) (lv' := [(6, .int (nI (k + 1))), (5, .int (nI (mTaken (up2 y 18 0 (nI 0)) p f (k + 1)))), (4, .int f), (3, .int (nI 1)), (0, .ref E.1.1), (1, .int (nI v)), (2, .int (nI p))]) hx hb dX3_ask_125 hl rfl (by decide) rfl (fun ls hl => ?_)
            refine lv_goto (tgt := 83) hx hb dX3_ask_128 (by decide) ?_
            exact ih2 (k := k + 1) (H := H) (locs := locs) (ls := ls) (hP := hP) (hS := hS) (hl := lv_sub hl [0, 1, 2, 3, 4, 5, 6] rfl) (hmm := by omega)

set_option maxHeartbeats 4000000 in
set_option maxRecDepth 100000 in
theorem c_X3_ask_nv (l : Launch) (D : va_G) (E : mE) (tl : gTy) (y : Nat → Nat → Int32) (v p : Int32) (hv : v < 0 ∨ nI 8 ≤ v)  : gI l yX3_ask wsX3_ask ({ frames := 1, cells := 0, slots := 0, locals := 22 } : Room) D (mT E tl) (mW E y) [.ref E.1.1, .int v, .int p] (fun (r : Int32) (u : Nat → Nat → Int32) => u = up2 y 18 0 (nI 1)) (mW E) 0 0 := by
  refine gM.start (cc := cX3_ask) (maxL := 7) (ret := (some .int)) (own := RX3) rfl (by decide) rfl (Nat.le_of_ble_eq_true rfl) ?_
  intro pr e s m args below meth c A ls H locs hx hb hml hr hts hown hlocks hname hA hK hP hD hS hl
  replace hl : lv_has ls 7 [(0, .ref E.1.1), (1, .int v), (2, .int p)] := hl
  refine lv_iload_n hx hb dX3_ask_0 rfl (lv_at hl 1 rfl) ?_
  refine g_scalli (As := [.int v]) (rest := []) ⟨hx, hb, hml, hown, hts⟩ (c_X3_isVisitor_n l D E tl y v hv) (va_cwS 1 hts gX3_ask_X3_isVisitor rfl rfl rfl (by decide +kernel) ⟨Nat.le_of_ble_eq_true rfl, Nat.le_of_ble_eq_true rfl⟩) hK hP hD hS hA rfl hl.1 rfl (Nat.le_of_ble_eq_true rfl) dX3_ask_1 ⟨Nat.le_of_ble_eq_true rfl, Nat.le_of_ble_eq_true rfl⟩ (fun r_3 u_2 H locs hw hP hD hS => ?_)
  obtain ⟨hr_3, hu_2⟩ := hw
  rw [hu_2] at hP hD
  refine q_top (x' := (nI 0)) hr_3 ?_
  refine q_if_eq (tgt := 18) hx hb (by omega) dX3_ask_4 (by decide) (fun c_4 => ?_) (fun c_4 => absurd c_4 (by decide))
  refine lv_iconst (v := nI 0) hx hb dX3_ask_18 (by decide) ?_
  refine lv_istore_n (lv' := [(3, .int (nI 0)), (0, .ref E.1.1), (1, .int v), (2, .int p)]) hx hb dX3_ask_19 rfl hl (by decide) rfl (fun ls hl => ?_)
  refine lv_aload_n hx hb dX3_ask_20 rfl (lv_at hl 1 rfl) ?_
  refine lv_iload_n hx hb dX3_ask_21 rfl (lv_at hl 0 rfl) ?_
  refine lv_iload_n hx hb dX3_ask_22 rfl (lv_at hl 0 rfl) ?_
  refine q_if_eq (tgt := 48) hx hb (by omega) dX3_ask_23 (by decide) (fun c_5 => ?_) (fun c_5 => absurd c_5 (by decide))
  refine lv_iconst (v := nI 0) hx hb dX3_ask_48 (by decide) ?_
  refine g_calli (As := [.int (nI 0), .int (nI 0)]) (rest := []) ⟨hx, hb, hml, hown, hts⟩ (c_X3_goes l D E tl y (nI 0) (nI 0)) (cwV 2 hts gX3_ask_X3_goes rfl rfl rfl (by decide +kernel) ⟨Nat.le_of_ble_eq_true rfl, Nat.le_of_ble_eq_true rfl⟩) (m_recv hK hP) hK hP hD hS hA rfl hl.1 rfl (Nat.le_of_ble_eq_true rfl) dX3_ask_49 ⟨Nat.le_of_ble_eq_true rfl, Nat.le_of_ble_eq_true rfl⟩ (fun r_8 u_7 H locs hw hP hD hS => ?_)
  obtain ⟨hr_8, hu_7⟩ := hw
  rw [hu_7] at hP hD
  rw [show mGt (nI 0) (nI 0) = nI 1 from by decide] at hP hD
  refine q_top (x' := (nI 0)) (hr_8.trans (by decide)) ?_
  refine q_if_ne (tgt := 57) hx hb (by omega) dX3_ask_52 (by decide) (fun c_9 => absurd c_9 (by decide)) (fun c_9 => ?_)
  refine lv_iconst (v := nI 0) hx hb dX3_ask_55 (by decide) ?_
  exact W.iret hx hb hr (fun t ht hW => ⟨⟨_, up2 y 18 0 (nI 1), rfl, rfl, by rw [ht]; exact hP, va_K.moved hW.alike hK, hD⟩, hS.F ht⟩) hS.2.2 dX3_ask_56

set_option maxHeartbeats 4000000 in
set_option maxRecDepth 100000 in
theorem c_X3_ask_np (l : Launch) (D : va_G) (E : mE) (tl : gTy) (y : Nat → Nat → Int32) (v : Nat) (p : Int32) (hv : v < 8) (hp : p < 0 ∨ nI 6 ≤ p)  : gI l yX3_ask wsX3_ask ({ frames := 1, cells := 0, slots := 0, locals := 22 } : Room) D (mT E tl) (mW E y) [.ref E.1.1, .int (nI v), .int p] (fun (r : Int32) (u : Nat → Nat → Int32) => u = up2 y 18 0 (nI 1)) (mW E) 0 0 := by
  refine gM.start (cc := cX3_ask) (maxL := 7) (ret := (some .int)) (own := RX3) rfl (by decide) rfl (Nat.le_of_ble_eq_true rfl) ?_
  intro pr e s m args below meth c A ls H locs hx hb hml hr hts hown hlocks hname hA hK hP hD hS hl
  replace hl : lv_has ls 7 [(0, .ref E.1.1), (1, .int (nI v)), (2, .int p)] := hl
  refine lv_iload_n hx hb dX3_ask_0 rfl (lv_at hl 1 rfl) ?_
  refine g_scalli (As := [.int (nI v)]) (rest := []) ⟨hx, hb, hml, hown, hts⟩ (c_X3_isVisitor_y l D E tl y v hv) (va_cwS 1 hts gX3_ask_X3_isVisitor rfl rfl rfl (by decide +kernel) ⟨Nat.le_of_ble_eq_true rfl, Nat.le_of_ble_eq_true rfl⟩) hK hP hD hS hA rfl hl.1 rfl (Nat.le_of_ble_eq_true rfl) dX3_ask_1 ⟨Nat.le_of_ble_eq_true rfl, Nat.le_of_ble_eq_true rfl⟩ (fun r_3 u_2 H locs hw hP hD hS => ?_)
  obtain ⟨hr_3, hu_2⟩ := hw
  rw [hu_2] at hP hD
  refine q_top (x' := (nI 1)) hr_3 ?_
  refine q_if_eq (tgt := 18) hx hb (by omega) dX3_ask_4 (by decide) (fun c_4 => absurd c_4 (by decide)) (fun c_4 => ?_)
  refine lv_iload_n hx hb dX3_ask_7 rfl (lv_at hl 2 rfl) ?_
  refine g_scalli (As := [.int p]) (rest := []) ⟨hx, hb, hml, hown, hts⟩ (c_X3_isPavilion_n l D E tl y p hp) (va_cwS 1 hts gX3_ask_X3_isPavilion rfl rfl rfl (by decide +kernel) ⟨Nat.le_of_ble_eq_true rfl, Nat.le_of_ble_eq_true rfl⟩) hK hP hD hS hA rfl hl.1 rfl (Nat.le_of_ble_eq_true rfl) dX3_ask_8 ⟨Nat.le_of_ble_eq_true rfl, Nat.le_of_ble_eq_true rfl⟩ (fun r_7 u_6 H locs hw hP hD hS => ?_)
  obtain ⟨hr_7, hu_6⟩ := hw
  rw [hu_6] at hP hD
  refine q_top (x' := (nI 0)) hr_7 ?_
  refine q_if_eq (tgt := 18) hx hb (by omega) dX3_ask_11 (by decide) (fun c_8 => ?_) (fun c_8 => absurd c_8 (by decide))
  refine lv_iconst (v := nI 0) hx hb dX3_ask_18 (by decide) ?_
  refine lv_istore_n (lv' := [(3, .int (nI 0)), (0, .ref E.1.1), (1, .int (nI v)), (2, .int p)]) hx hb dX3_ask_19 rfl hl (by decide) rfl (fun ls hl => ?_)
  refine lv_aload_n hx hb dX3_ask_20 rfl (lv_at hl 1 rfl) ?_
  refine lv_iload_n hx hb dX3_ask_21 rfl (lv_at hl 0 rfl) ?_
  refine lv_iload_n hx hb dX3_ask_22 rfl (lv_at hl 0 rfl) ?_
  refine q_if_eq (tgt := 48) hx hb (by omega) dX3_ask_23 (by decide) (fun c_9 => ?_) (fun c_9 => absurd c_9 (by decide))
  refine lv_iconst (v := nI 0) hx hb dX3_ask_48 (by decide) ?_
  refine g_calli (As := [.int (nI 0), .int (nI 0)]) (rest := []) ⟨hx, hb, hml, hown, hts⟩ (c_X3_goes l D E tl y (nI 0) (nI 0)) (cwV 2 hts gX3_ask_X3_goes rfl rfl rfl (by decide +kernel) ⟨Nat.le_of_ble_eq_true rfl, Nat.le_of_ble_eq_true rfl⟩) (m_recv hK hP) hK hP hD hS hA rfl hl.1 rfl (Nat.le_of_ble_eq_true rfl) dX3_ask_49 ⟨Nat.le_of_ble_eq_true rfl, Nat.le_of_ble_eq_true rfl⟩ (fun r_12 u_11 H locs hw hP hD hS => ?_)
  obtain ⟨hr_12, hu_11⟩ := hw
  rw [hu_11] at hP hD
  rw [show mGt (nI 0) (nI 0) = nI 1 from by decide] at hP hD
  refine q_top (x' := (nI 0)) (hr_12.trans (by decide)) ?_
  refine q_if_ne (tgt := 57) hx hb (by omega) dX3_ask_52 (by decide) (fun c_13 => absurd c_13 (by decide)) (fun c_13 => ?_)
  refine lv_iconst (v := nI 0) hx hb dX3_ask_55 (by decide) ?_
  exact W.iret hx hb hr (fun t ht hW => ⟨⟨_, up2 y 18 0 (nI 1), rfl, rfl, by rw [ht]; exact hP, va_K.moved hW.alike hK, hD⟩, hS.F ht⟩) hS.2.2 dX3_ask_56
