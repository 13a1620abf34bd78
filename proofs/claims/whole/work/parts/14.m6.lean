set_option maxHeartbeats 4000000 in
set_option maxRecDepth 100000 in
theorem c_X3_goOn (l : Launch) (D : va_G) (E : mE) (tl : gTy) (y : Nat → Nat → Int32) (v pm : Nat) (y1 : Nat → Nat → Int32) (hv : v < 8) (hm : pm ≤ 6) (h7 : y 7 v = nI pm) (hgo : mGoOn v pm pm 0 y y1)  : gV l yX3_goOn wsX3_goOn ({ frames := 1, cells := 0, slots := 0, locals := 24 } : Room) D (mT E tl) (mW E y) [.ref E.1.1, .int (nI v)] (fun u : Nat → Nat → Int32 => u = y1) (mW E) 0 0 := by
  refine gM.start (cc := cX3_goOn) (maxL := 4) (ret := none) (own := RX3) rfl (by decide) rfl (Nat.le_of_ble_eq_true rfl) ?_
  intro pr e s m args below meth c A ls H locs hx hb hml hr hts hown hlocks hname hA hK hP hD hS hl
  replace hl : lv_has ls 4 [(0, .ref E.1.1), (1, .int (nI v))] := hl
  have hin : ∀ w ∈ wsX30, w ∈ wsX3_goOn := by decide +kernel
  have k29 := hts (.fieldLink RX3 29 "FairFolioModel" "planned" "[I") (by decide +kernel)
  have k32 := hts (.fieldLink RX3 32 "FairFolioModel" "state" "[I") (by decide +kernel)
  have k26 := hts (.fieldLink RX3 26 "FairFolioModel" "plan" "[I") (by decide +kernel)
  have k16 := hts (.fieldLink RX3 16 "FairFolioModel" "isClosed" "[Z") (by decide +kernel)
  have k41 := hts (.fieldLink RX3 41 "FairFolioModel" "stamps" "[I") (by decide +kernel)
  have k23 := hts (.fieldLink RX3 23 "FairFolioModel" "waiting" "[I") (by decide +kernel)
  refine lv_iconst (v := nI 0) hx hb dX3_goOn_0 (by decide) ?_
  refine lv_istore_n (lv' := [(2, .int (nI 0)), (0, .ref E.1.1), (1, .int (nI v))]) hx hb dX3_goOn_1 rfl hl (by decide) rfl (fun ls hl => ?_)
  obtain ⟨z, hz⟩ : ∃ z, z = y := ⟨_, rfl⟩
  rw [← hz] at hP hD hgo h7
  clear hz
  obtain ⟨k, hk⟩ : ∃ k : Nat, k = 0 := ⟨_, rfl⟩
  obtain ⟨nn, hn⟩ : ∃ nn : Nat, nn = pm := ⟨_, rfl⟩
  replace hl : lv_has ls 4 [(2, .int (nI k)), (0, .ref E.1.1), (1, .int (nI v))] := by rw [hk]; exact hl
  rw [← hk] at hgo
  replace hgo : mGoOn v pm nn k z y1 := by rw [hn]; exact hgo
  replace hn : k + nn = pm := by omega
  clear hk
  induction nn generalizing z k H locs ls with
  | zero =>
    obtain rfl := hgo
    obtain rfl : pm = k := by omega
    refine lv_iload_n hx hb dX3_goOn_2 rfl (lv_at hl 0 rfl) ?_
    refine lv_aload_n hx hb dX3_goOn_3 rfl (lv_at hl 1 rfl) ?_
    refine m_get hx hb hts hin hown hK hP 7 (by decide) k29 rfl rfl dX3_goOn_4 ?_
    refine lv_iload_n hx hb dX3_goOn_7 rfl (lv_at hl 2 rfl) ?_
    refine q_ild hx hb hK hP 7 0 rfl rfl v rfl (by omega) (by decide) dX3_goOn_8 ?_
    refine q_top (x' := (nI pm)) h7 ?_
    refine q_icmp_ge (tgt := 73) hx hb (by omega) (by omega) dX3_goOn_9 (by decide) (fun c8 => ?_) (fun c8 => absurd c8 (by omega))
    exact W.vret hx hb hr (fun t ht hW => ⟨⟨y1, rfl, rfl, by rw [ht]; exact hP, va_K.moved hW.alike hK, hD⟩, hS.F ht⟩) hS.2.2 dX3_goOn_73
  | succ nn ih =>
    refine lv_iload_n hx hb dX3_goOn_2 rfl (lv_at hl 0 rfl) ?_
    refine lv_aload_n hx hb dX3_goOn_3 rfl (lv_at hl 1 rfl) ?_
    refine m_get hx hb hts hin hown hK hP 7 (by decide) k29 rfl rfl dX3_goOn_4 ?_
    refine lv_iload_n hx hb dX3_goOn_7 rfl (lv_at hl 2 rfl) ?_
    refine q_ild hx hb hK hP 7 0 rfl rfl v rfl (by omega) (by decide) dX3_goOn_8 ?_
    refine q_top (x' := (nI pm)) h7 ?_
    refine q_icmp_ge (tgt := 73) hx hb (by omega) (by omega) dX3_goOn_9 (by decide) (fun c8 => absurd c8 (by omega)) (fun c8 => ?_)
    refine lv_aload_n hx hb dX3_goOn_12 rfl (lv_at hl 1 rfl) ?_
    refine m_get hx hb hts hin hown hK hP 8 (by decide) k32 rfl rfl dX3_goOn_13 ?_
    refine lv_iload_n hx hb dX3_goOn_16 rfl (lv_at hl 2 rfl) ?_
    refine q_ild hx hb hK hP 8 0 rfl rfl v rfl (by omega) (by decide) dX3_goOn_17 ?_
    rcases hgo with ⟨g8, hs⟩ | ⟨g8, p, hp, g6, hg⟩
    · obtain rfl := hs
      refine lv_if_ne (tgt := 73) hx hb dX3_goOn_18 (by decide) (fun c9 => ?_) (fun c9 => absurd c9 g8)
      exact W.vret hx hb hr (fun t ht hW => ⟨⟨y1, rfl, rfl, by rw [ht]; exact hP, va_K.moved hW.alike hK, hD⟩, hS.F ht⟩) hS.2.2 dX3_goOn_73
    · refine lv_if_ne (tgt := 73) hx hb dX3_goOn_18 (by decide) (fun c9 => absurd g8 c9) (fun c9 => ?_)
      refine lv_aload_n hx hb dX3_goOn_21 rfl (lv_at hl 1 rfl) ?_
      refine m_get hx hb hts hin hown hK hP 6 (by decide) k26 rfl rfl dX3_goOn_22 ?_
      refine lv_bipush (v := nI 6) hx hb dX3_goOn_25 (by decide) ?_
      refine lv_iload_n hx hb dX3_goOn_27 rfl (lv_at hl 2 rfl) ?_
      refine q_mul hx hb dX3_goOn_28 ?_
      refine lv_iload_n hx hb dX3_goOn_29 rfl (lv_at hl 0 rfl) ?_
      refine q_add hx hb dX3_goOn_30 ?_
      refine q_ild hx hb hK hP 6 0 rfl rfl ((6 * v) + k) rfl (by omega) (by decide) dX3_goOn_31 ?_
      refine q_top (x' := (nI p)) g6 ?_
      refine lv_istore_n (lv' := [(3, .int (nI p)), (2, .int (nI k)), (0, .ref E.1.1), (1, .int (nI v))]) hx hb dX3_goOn_32 rfl hl (by decide) rfl (fun ls hl => ?_)
      refine lv_aload_n hx hb dX3_goOn_33 rfl (lv_at hl 2 rfl) ?_
      refine m_get hx hb hts hin hown hK hP 3 (by decide) k16 rfl rfl dX3_goOn_34 ?_
      refine lv_iload_n hx hb dX3_goOn_37 rfl (lv_at hl 0 rfl) ?_
      refine q_zld hx hb hK hP 3 1 rfl rfl p rfl (by omega) (by decide) dX3_goOn_38 ?_
      rcases hg with ⟨g3, hgo⟩ | ⟨g3, g11, hgo⟩ | ⟨g3, g11, w, hw7, g5, hgo⟩
      · refine lv_if_ne (tgt := 67) hx hb dX3_goOn_39 (by decide) (fun c10 => ?_) (fun c10 => absurd c10 g3)
        refine q_inc (k := 1) (lv' := [(2, .int (nI (k + 1))), (3, .int (nI p)), (0, .ref E.1.1), (1, .int (nI v))]) hx hb dX3_goOn_67 hl rfl (by decide) rfl (fun ls hl => ?_)
        refine lv_goto (tgt := 2) hx hb dX3_goOn_70 (by decide) ?_
        replace hl : lv_has ls 4 [(2, .int (nI (k + 1))), (0, .ref E.1.1), (1, .int (nI v))] := lv_sub hl [0, 2, 3] rfl
        apply ih (k := k + 1) (H := H) (locs := locs) (ls := ls) (hP := hP) (hD := hD) (hS := hS) (hl := hl) (z := z) (hgo := hgo) (h7 := h7)
        all_goals first | omega | assumption
      · refine q_top (x' := (nI 0)) g3 ?_
        refine q_if_ne (tgt := 67) hx hb (by omega) dX3_goOn_39 (by decide) (fun c_1 => absurd c_1 (by decide)) (fun c_1 => ?_)
        refine lv_aload_n hx hb dX3_goOn_42 rfl (lv_at hl 2 rfl) ?_
        refine m_get hx hb hts hin hown hK hP 11 (by decide) k41 rfl rfl dX3_goOn_43 ?_
        refine lv_iload_n hx hb dX3_goOn_46 rfl (lv_at hl 3 rfl) ?_
        refine q_ild hx hb hK hP 11 0 rfl rfl v rfl (by omega) (by decide) dX3_goOn_47 ?_
        refine lv_iload_n hx hb dX3_goOn_48 rfl (lv_at hl 0 rfl) ?_
        refine lv_ishr hx hb dX3_goOn_49 ?_
        refine lv_iconst (v := nI 1) hx hb dX3_goOn_50 (by decide) ?_
        refine lv_iand hx hb dX3_goOn_51 ?_
        refine lv_if_ne (tgt := 67) hx hb dX3_goOn_52 (by decide) (fun c11 => ?_) (fun c11 => absurd c11 g11)
        refine q_inc (k := 1) (lv' := [(2, .int (nI (k + 1))), (3, .int (nI p)), (0, .ref E.1.1), (1, .int (nI v))]) hx hb dX3_goOn_67 hl rfl (by decide) rfl (fun ls hl => ?_)
        refine lv_goto (tgt := 2) hx hb dX3_goOn_70 (by decide) ?_
        replace hl : lv_has ls 4 [(2, .int (nI (k + 1))), (0, .ref E.1.1), (1, .int (nI v))] := lv_sub hl [0, 2, 3] rfl
        apply ih (k := k + 1) (H := H) (locs := locs) (ls := ls) (hP := hP) (hD := hD) (hS := hS) (hl := hl) (z := z) (hgo := hgo) (h7 := h7)
        all_goals first | omega | assumption
      · refine q_top (x' := (nI 0)) g3 ?_
        refine q_if_ne (tgt := 67) hx hb (by omega) dX3_goOn_39 (by decide) (fun c_2 => absurd c_2 (by decide)) (fun c_2 => ?_)
        refine lv_aload_n hx hb dX3_goOn_42 rfl (lv_at hl 2 rfl) ?_
        refine m_get hx hb hts hin hown hK hP 11 (by decide) k41 rfl rfl dX3_goOn_43 ?_
        refine lv_iload_n hx hb dX3_goOn_46 rfl (lv_at hl 3 rfl) ?_
        refine q_ild hx hb hK hP 11 0 rfl rfl v rfl (by omega) (by decide) dX3_goOn_47 ?_
        refine lv_iload_n hx hb dX3_goOn_48 rfl (lv_at hl 0 rfl) ?_
        refine lv_ishr hx hb dX3_goOn_49 ?_
        refine lv_iconst (v := nI 1) hx hb dX3_goOn_50 (by decide) ?_
        refine lv_iand hx hb dX3_goOn_51 ?_
        refine lv_if_ne (tgt := 67) hx hb dX3_goOn_52 (by decide) (fun c11 => absurd g11 c11) (fun c11 => ?_)
        refine lv_aload_n hx hb dX3_goOn_55 rfl (lv_at hl 2 rfl) ?_
        refine lv_iload_n hx hb dX3_goOn_56 rfl (lv_at hl 0 rfl) ?_
        refine lv_aload_n hx hb dX3_goOn_57 rfl (lv_at hl 2 rfl) ?_
        refine m_get hx hb hts hin hown hK hP 5 (by decide) k23 rfl rfl dX3_goOn_58 ?_
        refine lv_iload_n hx hb dX3_goOn_61 rfl (lv_at hl 0 rfl) ?_
        refine q_ild hx hb hK hP 5 0 rfl rfl p rfl (by omega) (by decide) dX3_goOn_62 ?_
        refine q_top (x' := (nI w)) g5 ?_
        refine lv_iload_n hx hb dX3_goOn_63 rfl (lv_at hl 3 rfl) ?_
        refine g_callv (As := [.int (nI p), .int (nI w), .int (nI v)]) (rest := []) ⟨hx, hb, hml, hown, hts⟩ (c_X3_puts l D E tl z p w v w hp (Nat.le_refl _) hw7 hv g5) (cwV 3 hts gX3_goOn_X3_puts rfl rfl rfl (by decide +kernel) ⟨Nat.le_of_ble_eq_true rfl, Nat.le_of_ble_eq_true rfl⟩) (m_recv hK hP) hK hP hD hS hA rfl hl.1 rfl (Nat.le_of_ble_eq_true rfl) dX3_goOn_64 ⟨Nat.le_of_ble_eq_true rfl, Nat.le_of_ble_eq_true rfl⟩ (fun u_4 H locs hw hP hD hS => ?_)
        rw [hw] at hP hD
        refine q_inc (k := 1) (lv' := [(2, .int (nI (k + 1))), (3, .int (nI p)), (0, .ref E.1.1), (1, .int (nI v))]) hx hb dX3_goOn_67 hl rfl (by decide) rfl (fun ls hl => ?_)
        refine lv_goto (tgt := 2) hx hb dX3_goOn_70 (by decide) ?_
        replace hl : lv_has ls 4 [(2, .int (nI (k + 1))), (0, .ref E.1.1), (1, .int (nI v))] := lv_sub hl [0, 2, 3] rfl
        apply ih (k := k + 1) (H := H) (locs := locs) (ls := ls) (hP := hP) (hD := hD) (hS := hS) (hl := hl) (z := (mPuts z p w v w)) (hgo := hgo) (h7 := h7)
        all_goals first | omega | assumption

set_option maxHeartbeats 4000000 in
set_option maxRecDepth 100000 in
theorem c_X3_goIn (l : Launch) (D : va_G) (E : mE) (tl : gTy) (y : Nat → Nat → Int32) (p n0 : Nat) (y1 : Nat → Nat → Int32) (hp : p < 6) (hgi : mGoIn p n0 y y1)  : gV l yX3_goIn wsX3_goIn ({ frames := 2, cells := 0, slots := 0, locals := 48 } : Room) D (mT E tl) (mW E y) [.ref E.1.1, .int (nI p)] (fun u : Nat → Nat → Int32 => u = y1) (mW E) 0 0 := by
  refine gM.start (cc := cX3_goIn) (maxL := 3) (ret := none) (own := RX3) rfl (by decide) rfl (Nat.le_of_ble_eq_true rfl) ?_
  intro pr e s m args below meth c A ls H locs hx hb hml hr hts hown hlocks hname hA hK hP hD hS hl
  replace hl : lv_has ls 3 [(0, .ref E.1.1), (1, .int (nI p))] := hl
  have hin : ∀ w ∈ wsX30, w ∈ wsX3_goIn := by decide +kernel
  have k16 := hts (.fieldLink RX3 16 "FairFolioModel" "isClosed" "[Z") (by decide +kernel)
  have k23 := hts (.fieldLink RX3 23 "FairFolioModel" "waiting" "[I") (by decide +kernel)
  have k7 := hts (.fieldLink RX3 7 "FairFolioModel" "room" "[I") (by decide +kernel)
  have k20 := hts (.fieldLink RX3 20 "FairFolioModel" "queue" "[I") (by decide +kernel)
  have k50 := hts (.fieldLink RX3 50 "FairFolioModel" "isByTurn" "[Z") (by decide +kernel)
  have k32 := hts (.fieldLink RX3 32 "FairFolioModel" "state" "[I") (by decide +kernel)
  have k35 := hts (.fieldLink RX3 35 "FairFolioModel" "where" "[I") (by decide +kernel)
  have k38 := hts (.fieldLink RX3 38 "FairFolioModel" "until" "[I") (by decide +kernel)
  have k91 := hts (.fieldLink RX3 91 "FairFolioModel" "minute" "I") (by decide +kernel)
  have k13 := hts (.fieldLink RX3 13 "FairFolioModel" "takes" "[I") (by decide +kernel)
  obtain ⟨z, hz⟩ : ∃ z, z = y := ⟨_, rfl⟩
  rw [← hz] at hP hD hgi
  clear hz
  induction n0 generalizing z H locs ls with
  | zero =>
    obtain ⟨hst, rfl⟩ := hgi
    rcases hst with g3 | ⟨g3, g5⟩ | ⟨g3, ⟨w, hw8, g5⟩, g1⟩
    · refine lv_aload_n hx hb dX3_goIn_0 rfl (lv_at hl 0 rfl) ?_
      refine m_get hx hb hts hin hown hK hP 3 (by decide) k16 rfl rfl dX3_goIn_1 ?_
      refine lv_iload_n hx hb dX3_goIn_4 rfl (lv_at hl 1 rfl) ?_
      refine q_zld hx hb hK hP 3 1 rfl rfl p rfl (by omega) (by decide) dX3_goIn_5 ?_
      refine lv_if_ne (tgt := 95) hx hb dX3_goIn_6 (by decide) (fun c8 => ?_) (fun c8 => absurd c8 g3)
      exact W.vret hx hb hr (fun t ht hW => ⟨⟨y1, rfl, rfl, by rw [ht]; exact hP, va_K.moved hW.alike hK, hD⟩, hS.F ht⟩) hS.2.2 dX3_goIn_95
    · refine lv_aload_n hx hb dX3_goIn_0 rfl (lv_at hl 0 rfl) ?_
      refine m_get hx hb hts hin hown hK hP 3 (by decide) k16 rfl rfl dX3_goIn_1 ?_
      refine lv_iload_n hx hb dX3_goIn_4 rfl (lv_at hl 1 rfl) ?_
      refine q_zld hx hb hK hP 3 1 rfl rfl p rfl (by omega) (by decide) dX3_goIn_5 ?_
      refine q_top (x' := (nI 0)) g3 ?_
      refine q_if_ne (tgt := 95) hx hb (by omega) dX3_goIn_6 (by decide) (fun c_1 => absurd c_1 (by decide)) (fun c_1 => ?_)
      refine lv_aload_n hx hb dX3_goIn_9 rfl (lv_at hl 0 rfl) ?_
      refine m_get hx hb hts hin hown hK hP 5 (by decide) k23 rfl rfl dX3_goIn_10 ?_
      refine lv_iload_n hx hb dX3_goIn_13 rfl (lv_at hl 1 rfl) ?_
      refine q_ild hx hb hK hP 5 0 rfl rfl p rfl (by omega) (by decide) dX3_goIn_14 ?_
      refine q_top (x' := (nI 0)) g5 ?_
      refine q_if_le (tgt := 95) hx hb (by omega) dX3_goIn_15 (by decide) (fun c8 => ?_) (fun c8 => absurd c8 (by omega))
      exact W.vret hx hb hr (fun t ht hW => ⟨⟨y1, rfl, rfl, by rw [ht]; exact hP, va_K.moved hW.alike hK, hD⟩, hS.F ht⟩) hS.2.2 dX3_goIn_95
    · refine lv_aload_n hx hb dX3_goIn_0 rfl (lv_at hl 0 rfl) ?_
      refine m_get hx hb hts hin hown hK hP 3 (by decide) k16 rfl rfl dX3_goIn_1 ?_
      refine lv_iload_n hx hb dX3_goIn_4 rfl (lv_at hl 1 rfl) ?_
      refine q_zld hx hb hK hP 3 1 rfl rfl p rfl (by omega) (by decide) dX3_goIn_5 ?_
      refine q_top (x' := (nI 0)) g3 ?_
      refine q_if_ne (tgt := 95) hx hb (by omega) dX3_goIn_6 (by decide) (fun c_2 => absurd c_2 (by decide)) (fun c_2 => ?_)
      refine lv_aload_n hx hb dX3_goIn_9 rfl (lv_at hl 0 rfl) ?_
      refine m_get hx hb hts hin hown hK hP 5 (by decide) k23 rfl rfl dX3_goIn_10 ?_
      refine lv_iload_n hx hb dX3_goIn_13 rfl (lv_at hl 1 rfl) ?_
      refine q_ild hx hb hK hP 5 0 rfl rfl p rfl (by omega) (by decide) dX3_goIn_14 ?_
      refine q_top (x' := (nI w)) g5 ?_
      refine q_if_le (tgt := 95) hx hb (by omega) dX3_goIn_15 (by decide) (fun c8 => ?_) (fun c8 => ?_)
      · exact W.vret hx hb hr (fun t ht hW => ⟨⟨y1, rfl, rfl, by rw [ht]; exact hP, va_K.moved hW.alike hK, hD⟩, hS.F ht⟩) hS.2.2 dX3_goIn_95
      · refine lv_aload_n hx hb dX3_goIn_18 rfl (lv_at hl 0 rfl) ?_
        refine lv_iload_n hx hb dX3_goIn_19 rfl (lv_at hl 1 rfl) ?_
        refine g_calli (As := [.int (nI p)]) (rest := []) ⟨hx, hb, hml, hown, hts⟩ (c_X3_insideOf l D E tl y1 p hp) (cwV 1 hts gX3_goIn_X3_insideOf rfl rfl rfl (by decide +kernel) ⟨Nat.le_of_ble_eq_true rfl, Nat.le_of_ble_eq_true rfl⟩) (m_recv hK hP) hK hP hD hS hA rfl hl.1 rfl (Nat.le_of_ble_eq_true rfl) dX3_goIn_20 ⟨Nat.le_of_ble_eq_true rfl, Nat.le_of_ble_eq_true rfl⟩ (fun r_5 u_4 H locs hw hP hD hS => ?_)
        obtain ⟨hr_5, hu_4⟩ := hw
        rw [hu_4] at hP hD
        refine q_top (x' := (nI (mIns y1 p 8))) hr_5 ?_
        refine lv_aload_n hx hb dX3_goIn_23 rfl (lv_at hl 0 rfl) ?_
        refine m_get hx hb hts hin hown hK hP 1 (by decide) k7 rfl rfl dX3_goIn_24 ?_
        refine lv_iload_n hx hb dX3_goIn_27 rfl (lv_at hl 1 rfl) ?_
        refine q_ild hx hb hK hP 1 0 rfl rfl p rfl (by omega) (by decide) dX3_goIn_28 ?_
        refine lv_icmp_ge (tgt := 95) hx hb dX3_goIn_29 (by decide) (fun c9 => ?_) (fun c9 => absurd g1 c9)
        exact W.vret hx hb hr (fun t ht hW => ⟨⟨y1, rfl, rfl, by rw [ht]; exact hP, va_K.moved hW.alike hK, hD⟩, hS.F ht⟩) hS.2.2 dX3_goIn_95
  | succ nn ih =>
    obtain ⟨g3, g1, w, v, y2, hw8, g5, hv, hq, ⟨y3, ⟨p1, w1, a1, q1, q2, q3, q4, q5, q6, q7, rfl⟩, hof⟩, hgi⟩ := hgi
    refine lv_aload_n hx hb dX3_goIn_0 rfl (lv_at hl 0 rfl) ?_
    refine m_get hx hb hts hin hown hK hP 3 (by decide) k16 rfl rfl dX3_goIn_1 ?_
    refine lv_iload_n hx hb dX3_goIn_4 rfl (lv_at hl 1 rfl) ?_
    refine q_zld hx hb hK hP 3 1 rfl rfl p rfl (by omega) (by decide) dX3_goIn_5 ?_
    refine q_top (x' := (nI 0)) g3 ?_
    refine q_if_ne (tgt := 95) hx hb (by omega) dX3_goIn_6 (by decide) (fun c_6 => absurd c_6 (by decide)) (fun c_6 => ?_)
    refine lv_aload_n hx hb dX3_goIn_9 rfl (lv_at hl 0 rfl) ?_
    refine m_get hx hb hts hin hown hK hP 5 (by decide) k23 rfl rfl dX3_goIn_10 ?_
    refine lv_iload_n hx hb dX3_goIn_13 rfl (lv_at hl 1 rfl) ?_
    refine q_ild hx hb hK hP 5 0 rfl rfl p rfl (by omega) (by decide) dX3_goIn_14 ?_
    refine q_top (x' := (nI (w + 1))) g5 ?_
    refine q_if_le (tgt := 95) hx hb (by omega) dX3_goIn_15 (by decide) (fun c8 => absurd c8 (by omega)) (fun c8 => ?_)
    refine lv_aload_n hx hb dX3_goIn_18 rfl (lv_at hl 0 rfl) ?_
    refine lv_iload_n hx hb dX3_goIn_19 rfl (lv_at hl 1 rfl) ?_
    refine g_calli (As := [.int (nI p)]) (rest := []) ⟨hx, hb, hml, hown, hts⟩ (c_X3_insideOf l D E tl z p hp) (cwV 1 hts gX3_goIn_X3_insideOf rfl rfl rfl (by decide +kernel) ⟨Nat.le_of_ble_eq_true rfl, Nat.le_of_ble_eq_true rfl⟩) (m_recv hK hP) hK hP hD hS hA rfl hl.1 rfl (Nat.le_of_ble_eq_true rfl) dX3_goIn_20 ⟨Nat.le_of_ble_eq_true rfl, Nat.le_of_ble_eq_true rfl⟩ (fun r_9 u_8 H locs hw hP hD hS => ?_)
    obtain ⟨hr_9, hu_8⟩ := hw
    rw [hu_8] at hP hD
    refine q_top (x' := (nI (mIns z p 8))) hr_9 ?_
    refine lv_aload_n hx hb dX3_goIn_23 rfl (lv_at hl 0 rfl) ?_
    refine m_get hx hb hts hin hown hK hP 1 (by decide) k7 rfl rfl dX3_goIn_24 ?_
    refine lv_iload_n hx hb dX3_goIn_27 rfl (lv_at hl 1 rfl) ?_
    refine q_ild hx hb hK hP 1 0 rfl rfl p rfl (by omega) (by decide) dX3_goIn_28 ?_
    refine lv_icmp_ge (tgt := 95) hx hb dX3_goIn_29 (by decide) (fun c9 => absurd c9 g1) (fun c9 => ?_)
    refine lv_aload_n hx hb dX3_goIn_32 rfl (lv_at hl 0 rfl) ?_
    refine m_get hx hb hts hin hown hK hP 4 (by decide) k20 rfl rfl dX3_goIn_33 ?_
    refine lv_bipush (v := nI 8) hx hb dX3_goIn_36 (by decide) ?_
    refine lv_iload_n hx hb dX3_goIn_38 rfl (lv_at hl 1 rfl) ?_
    refine q_mul hx hb dX3_goIn_39 ?_
    refine q_ild hx hb hK hP 4 0 rfl rfl (8 * p) rfl (by omega) (by decide) dX3_goIn_40 ?_
    refine q_top (x' := (nI v)) hq ?_
    refine lv_istore_n (lv' := [(2, .int (nI v)), (0, .ref E.1.1), (1, .int (nI p))]) hx hb dX3_goIn_41 rfl hl (by decide) rfl (fun ls hl => ?_)
    refine lv_aload_n hx hb dX3_goIn_42 rfl (lv_at hl 1 rfl) ?_
    refine lv_iload_n hx hb dX3_goIn_43 rfl (lv_at hl 0 rfl) ?_
    refine g_callv (As := [.int (nI v)]) (rest := []) ⟨hx, hb, hml, hown, hts⟩ (c_X3_leaves l D E tl z v p1 w1 a1 hv q1 q2 q3 q4 q5 q6 q7) (cwV 1 hts gX3_goIn_X3_leaves rfl rfl rfl (by decide +kernel) ⟨Nat.le_of_ble_eq_true rfl, Nat.le_of_ble_eq_true rfl⟩) (m_recv hK hP) hK hP hD hS hA rfl hl.1 rfl (Nat.le_of_ble_eq_true rfl) dX3_goIn_44 ⟨Nat.le_of_ble_eq_true rfl, Nat.le_of_ble_eq_true rfl⟩ (fun u_11 H locs hw hP hD hS => ?_)
    rw [hw] at hP hD
    rcases hof with ⟨g14, rfl⟩ | ⟨g14, rfl⟩
    · refine lv_aload_n hx hb dX3_goIn_47 rfl (lv_at hl 1 rfl) ?_
      refine m_get hx hb hts hin hown hK hP 14 (by decide) k50 rfl rfl dX3_goIn_48 ?_
      refine lv_iload_n hx hb dX3_goIn_51 rfl (lv_at hl 0 rfl) ?_
      refine q_zld hx hb hK hP 14 1 rfl rfl v rfl (by omega) (by decide) dX3_goIn_52 ?_
      refine q_top (x' := (nI 0)) g14 ?_
      refine q_if_eq (tgt := 61) hx hb (by omega) dX3_goIn_53 (by decide) (fun c_13 => ?_) (fun c_13 => absurd c_13 (by decide))
      refine lv_aload_n hx hb dX3_goIn_61 rfl (lv_at hl 1 rfl) ?_
      refine m_get hx hb hts hin hown hK hP 8 (by decide) k32 rfl rfl dX3_goIn_62 ?_
      refine lv_iload_n hx hb dX3_goIn_65 rfl (lv_at hl 0 rfl) ?_
      refine lv_iconst (v := nI 2) hx hb dX3_goIn_66 (by decide) ?_
      refine q_ist hx hb hK hP hD hS 8 0 rfl rfl v rfl (by omega) (by decide) dX3_goIn_67 (fun H locs hP hD hS => ?_)
      replace hP : va_P D vwCl (mW E (up2 (mLeave z v p1 w1 a1) 8 v (nI 2))) H := hP
      replace hD : va_D A (mW E (up2 (mLeave z v p1 w1 a1) 8 v (nI 2))) := hD
      refine lv_aload_n hx hb dX3_goIn_68 rfl (lv_at hl 1 rfl) ?_
      refine m_get hx hb hts hin hown hK hP 9 (by decide) k35 rfl rfl dX3_goIn_69 ?_
      refine lv_iload_n hx hb dX3_goIn_72 rfl (lv_at hl 0 rfl) ?_
      refine lv_iload_n hx hb dX3_goIn_73 rfl (lv_at hl 2 rfl) ?_
      refine q_ist hx hb hK hP hD hS 9 0 rfl rfl v rfl (by omega) (by decide) dX3_goIn_74 (fun H locs hP hD hS => ?_)
      replace hP : va_P D vwCl (mW E (up2 (up2 (mLeave z v p1 w1 a1) 8 v (nI 2)) 9 v (nI p))) H := hP
      replace hD : va_D A (mW E (up2 (up2 (mLeave z v p1 w1 a1) 8 v (nI 2)) 9 v (nI p))) := hD
      refine lv_aload_n hx hb dX3_goIn_75 rfl (lv_at hl 1 rfl) ?_
      refine m_get hx hb hts hin hown hK hP 10 (by decide) k38 rfl rfl dX3_goIn_76 ?_
      refine lv_iload_n hx hb dX3_goIn_79 rfl (lv_at hl 0 rfl) ?_
      refine lv_aload_n hx hb dX3_goIn_80 rfl (lv_at hl 1 rfl) ?_
      refine m_get hx hb hts hin hown hK hP 0 (by decide) k91 rfl rfl dX3_goIn_81 ?_
      refine lv_aload_n hx hb dX3_goIn_84 rfl (lv_at hl 1 rfl) ?_
      refine m_get hx hb hts hin hown hK hP 2 (by decide) k13 rfl rfl dX3_goIn_85 ?_
      refine lv_iload_n hx hb dX3_goIn_88 rfl (lv_at hl 2 rfl) ?_
      refine q_ild hx hb hK hP 2 0 rfl rfl p rfl (by omega) (by decide) dX3_goIn_89 ?_
      refine lv_iadd hx hb dX3_goIn_90 ?_
      refine q_ist hx hb hK hP hD hS 10 0 rfl rfl v rfl (by omega) (by decide) dX3_goIn_91 (fun H locs hP hD hS => ?_)
      replace hP : va_P D vwCl (mW E (up2 (up2 (up2 (mLeave z v p1 w1 a1) 8 v (nI 2)) 9 v (nI p)) 10 v (((up2 (up2 (mLeave z v p1 w1 a1) 8 v (nI 2)) 9 v (nI p)) 0 0) + ((up2 (up2 (mLeave z v p1 w1 a1) 8 v (nI 2)) 9 v (nI p)) 2 p)))) H := hP
      replace hD : va_D A (mW E (up2 (up2 (up2 (mLeave z v p1 w1 a1) 8 v (nI 2)) 9 v (nI p)) 10 v (((up2 (up2 (mLeave z v p1 w1 a1) 8 v (nI 2)) 9 v (nI p)) 0 0) + ((up2 (up2 (mLeave z v p1 w1 a1) 8 v (nI 2)) 9 v (nI p)) 2 p)))) := hD
      refine lv_goto (tgt := 0) hx hb dX3_goIn_92 (by decide) ?_
      replace hl : lv_has ls 3 [(0, .ref E.1.1), (1, .int (nI p))] := lv_sub hl [1, 2] rfl
      apply ih (H := H) (locs := locs) (ls := ls) (hP := hP) (hD := hD) (hS := hS) (hl := hl) (hgi := hgi)
      all_goals first | omega | assumption
    · refine lv_aload_n hx hb dX3_goIn_47 rfl (lv_at hl 1 rfl) ?_
      refine m_get hx hb hts hin hown hK hP 14 (by decide) k50 rfl rfl dX3_goIn_48 ?_
      refine lv_iload_n hx hb dX3_goIn_51 rfl (lv_at hl 0 rfl) ?_
      refine q_zld hx hb hK hP 14 1 rfl rfl v rfl (by omega) (by decide) dX3_goIn_52 ?_
      refine q_top (x' := (nI 1)) g14 ?_
      refine q_if_eq (tgt := 61) hx hb (by omega) dX3_goIn_53 (by decide) (fun c_14 => absurd c_14 (by decide)) (fun c_14 => ?_)
      refine lv_aload_n hx hb dX3_goIn_56 rfl (lv_at hl 1 rfl) ?_
      refine lv_iload_n hx hb dX3_goIn_57 rfl (lv_at hl 0 rfl) ?_
      refine g_callv (As := [.int (nI v)]) (rest := []) ⟨hx, hb, hml, hown, hts⟩ (c_X3_loses l D E tl (mLeave z v p1 w1 a1) v hv) (cwV 1 hts gX3_goIn_X3_loses rfl rfl rfl (by decide +kernel) ⟨Nat.le_of_ble_eq_true rfl, Nat.le_of_ble_eq_true rfl⟩) (m_recv hK hP) hK hP hD hS hA rfl hl.1 rfl (Nat.le_of_ble_eq_true rfl) dX3_goIn_58 ⟨Nat.le_of_ble_eq_true rfl, Nat.le_of_ble_eq_true rfl⟩ (fun u_16 H locs hw hP hD hS => ?_)
      rw [hw] at hP hD
      refine lv_aload_n hx hb dX3_goIn_61 rfl (lv_at hl 1 rfl) ?_
      refine m_get hx hb hts hin hown hK hP 8 (by decide) k32 rfl rfl dX3_goIn_62 ?_
      refine lv_iload_n hx hb dX3_goIn_65 rfl (lv_at hl 0 rfl) ?_
      refine lv_iconst (v := nI 2) hx hb dX3_goIn_66 (by decide) ?_
      refine q_ist hx hb hK hP hD hS 8 0 rfl rfl v rfl (by omega) (by decide) dX3_goIn_67 (fun H locs hP hD hS => ?_)
      replace hP : va_P D vwCl (mW E (up2 (mLose (mLeave z v p1 w1 a1) v) 8 v (nI 2))) H := hP
      replace hD : va_D A (mW E (up2 (mLose (mLeave z v p1 w1 a1) v) 8 v (nI 2))) := hD
      refine lv_aload_n hx hb dX3_goIn_68 rfl (lv_at hl 1 rfl) ?_
      refine m_get hx hb hts hin hown hK hP 9 (by decide) k35 rfl rfl dX3_goIn_69 ?_
      refine lv_iload_n hx hb dX3_goIn_72 rfl (lv_at hl 0 rfl) ?_
      refine lv_iload_n hx hb dX3_goIn_73 rfl (lv_at hl 2 rfl) ?_
      refine q_ist hx hb hK hP hD hS 9 0 rfl rfl v rfl (by omega) (by decide) dX3_goIn_74 (fun H locs hP hD hS => ?_)
      replace hP : va_P D vwCl (mW E (up2 (up2 (mLose (mLeave z v p1 w1 a1) v) 8 v (nI 2)) 9 v (nI p))) H := hP
      replace hD : va_D A (mW E (up2 (up2 (mLose (mLeave z v p1 w1 a1) v) 8 v (nI 2)) 9 v (nI p))) := hD
      refine lv_aload_n hx hb dX3_goIn_75 rfl (lv_at hl 1 rfl) ?_
      refine m_get hx hb hts hin hown hK hP 10 (by decide) k38 rfl rfl dX3_goIn_76 ?_
      refine lv_iload_n hx hb dX3_goIn_79 rfl (lv_at hl 0 rfl) ?_
      refine lv_aload_n hx hb dX3_goIn_80 rfl (lv_at hl 1 rfl) ?_
      refine m_get hx hb hts hin hown hK hP 0 (by decide) k91 rfl rfl dX3_goIn_81 ?_
      refine lv_aload_n hx hb dX3_goIn_84 rfl (lv_at hl 1 rfl) ?_
      refine m_get hx hb hts hin hown hK hP 2 (by decide) k13 rfl rfl dX3_goIn_85 ?_
      refine lv_iload_n hx hb dX3_goIn_88 rfl (lv_at hl 2 rfl) ?_
      refine q_ild hx hb hK hP 2 0 rfl rfl p rfl (by omega) (by decide) dX3_goIn_89 ?_
      refine lv_iadd hx hb dX3_goIn_90 ?_
      refine q_ist hx hb hK hP hD hS 10 0 rfl rfl v rfl (by omega) (by decide) dX3_goIn_91 (fun H locs hP hD hS => ?_)
      replace hP : va_P D vwCl (mW E (up2 (up2 (up2 (mLose (mLeave z v p1 w1 a1) v) 8 v (nI 2)) 9 v (nI p)) 10 v (((up2 (up2 (mLose (mLeave z v p1 w1 a1) v) 8 v (nI 2)) 9 v (nI p)) 0 0) + ((up2 (up2 (mLose (mLeave z v p1 w1 a1) v) 8 v (nI 2)) 9 v (nI p)) 2 p)))) H := hP
      replace hD : va_D A (mW E (up2 (up2 (up2 (mLose (mLeave z v p1 w1 a1) v) 8 v (nI 2)) 9 v (nI p)) 10 v (((up2 (up2 (mLose (mLeave z v p1 w1 a1) v) 8 v (nI 2)) 9 v (nI p)) 0 0) + ((up2 (up2 (mLose (mLeave z v p1 w1 a1) v) 8 v (nI 2)) 9 v (nI p)) 2 p)))) := hD
      refine lv_goto (tgt := 0) hx hb dX3_goIn_92 (by decide) ?_
      replace hl : lv_has ls 3 [(0, .ref E.1.1), (1, .int (nI p))] := lv_sub hl [1, 2] rfl
      apply ih (H := H) (locs := locs) (ls := ls) (hP := hP) (hD := hD) (hS := hS) (hl := hl) (hgi := hgi)
      all_goals first | omega | assumption

set_option maxHeartbeats 4000000 in
set_option maxRecDepth 100000 in
theorem c_X3_advance_n (l : Launch) (D : va_G) (E : mE) (tl : gTy) (y : Nat → Nat → Int32) (mn : Int32) (hb1 : mn < nI 1 ∨ nI 60 < mn)  : gI l yX3_advance wsX3_advance ({ frames := 1, cells := 0, slots := 0, locals := 22 } : Room) D (mT E tl) (mW E y) [.ref E.1.1, .int mn] (fun (r : Int32) (u : Nat → Nat → Int32) => u = up2 y 18 0 (nI 1)) (mW E) 0 0 := by
  refine gM.start (cc := cX3_advance) (maxL := 4) (ret := (some .int)) (own := RX3) rfl (by decide) rfl (Nat.le_of_ble_eq_true rfl) ?_
  intro pr e s m args below meth c A ls H locs hx hb hml hr hts hown hlocks hname hA hK hP hD hS hl
  replace hl : lv_has ls 4 [(0, .ref E.1.1), (1, .int mn)] := hl
  have hin : ∀ w ∈ wsX30, w ∈ wsX3_advance := by decide +kernel
  have k91 := hts (.fieldLink RX3 91 "FairFolioModel" "minute" "I") (by decide +kernel)
  refine lv_aload_n hx hb dX3_advance_0 rfl (lv_at hl 0 rfl) ?_
  refine lv_iload_n hx hb dX3_advance_1 rfl (lv_at hl 1 rfl) ?_
  refine lv_iconst (v := nI 1) hx hb dX3_advance_2 (by decide) ?_
  refine lv_icmp_lt (tgt := 16) hx hb dX3_advance_3 (by decide) (fun c1 => ?_) (fun c1 => ?_)
  · refine lv_iconst (v := nI 0) hx hb dX3_advance_16 (by decide) ?_
    refine lv_aload_n hx hb dX3_advance_17 rfl (lv_at hl 0 rfl) ?_
    refine m_get hx hb hts hin hown hK hP 0 (by decide) k91 rfl rfl dX3_advance_18 ?_
    refine lv_iload_n hx hb dX3_advance_21 rfl (lv_at hl 1 rfl) ?_
    refine lv_iadd hx hb dX3_advance_22 ?_
    refine lv_sipush (v := nI 1200) hx hb dX3_advance_23 (by decide) ?_
    refine lv_icmp_gt (tgt := 33) hx hb dX3_advance_26 (by decide) (fun c3 => ?_) (fun c3 => ?_)
    · refine lv_iconst (v := nI 0) hx hb dX3_advance_33 (by decide) ?_
      refine g_calli (As := [.int (nI 0), .int (nI 0)]) (rest := []) ⟨hx, hb, hml, hown, hts⟩ (c_X3_goes l D E tl y (nI 0) (nI 0)) (cwV 2 hts gX3_advance_X3_goes rfl rfl rfl (by decide +kernel) ⟨Nat.le_of_ble_eq_true rfl, Nat.le_of_ble_eq_true rfl⟩) (m_recv hK hP) hK hP hD hS hA rfl hl.1 rfl (Nat.le_of_ble_eq_true rfl) dX3_advance_34 ⟨Nat.le_of_ble_eq_true rfl, Nat.le_of_ble_eq_true rfl⟩ (fun r_3 u_2 H locs hw hP hD hS => ?_)
      obtain ⟨hr_3, hu_2⟩ := hw
      rw [hu_2] at hP hD
      rw [show mGt (nI 0) (nI 0) = nI 1 from by decide] at hP hD
      refine q_top (x' := (nI 0)) (hr_3.trans (by decide)) ?_
      refine q_if_ne (tgt := 42) hx hb (by omega) dX3_advance_37 (by decide) (fun c_4 => absurd c_4 (by decide)) (fun c_4 => ?_)
      refine lv_iconst (v := nI 0) hx hb dX3_advance_40 (by decide) ?_
      exact W.iret hx hb hr (fun t ht hW => ⟨⟨_, up2 y 18 0 (nI 1), rfl, rfl, by rw [ht]; exact hP, va_K.moved hW.alike hK, hD⟩, hS.F ht⟩) hS.2.2 dX3_advance_41
    · refine lv_iconst (v := nI 1) hx hb dX3_advance_29 (by decide) ?_
      refine lv_goto (tgt := 34) hx hb dX3_advance_30 (by decide) ?_
      refine g_calli (As := [.int (nI 0), .int (nI 1)]) (rest := []) ⟨hx, hb, hml, hown, hts⟩ (c_X3_goes l D E tl y (nI 0) (nI 1)) (cwV 2 hts gX3_advance_X3_goes rfl rfl rfl (by decide +kernel) ⟨Nat.le_of_ble_eq_true rfl, Nat.le_of_ble_eq_true rfl⟩) (m_recv hK hP) hK hP hD hS hA rfl hl.1 rfl (Nat.le_of_ble_eq_true rfl) dX3_advance_34 ⟨Nat.le_of_ble_eq_true rfl, Nat.le_of_ble_eq_true rfl⟩ (fun r_7 u_6 H locs hw hP hD hS => ?_)
      obtain ⟨hr_7, hu_6⟩ := hw
      rw [hu_6] at hP hD
      rw [show mGt (nI 0) (nI 1) = nI 1 from by decide] at hP hD
      refine q_top (x' := (nI 0)) (hr_7.trans (by decide)) ?_
      refine q_if_ne (tgt := 42) hx hb (by omega) dX3_advance_37 (by decide) (fun c_8 => absurd c_8 (by decide)) (fun c_8 => ?_)
      refine lv_iconst (v := nI 0) hx hb dX3_advance_40 (by decide) ?_
      exact W.iret hx hb hr (fun t ht hW => ⟨⟨_, up2 y 18 0 (nI 1), rfl, rfl, by rw [ht]; exact hP, va_K.moved hW.alike hK, hD⟩, hS.F ht⟩) hS.2.2 dX3_advance_41
  · refine lv_iload_n hx hb dX3_advance_6 rfl (lv_at hl 1 rfl) ?_
    refine lv_bipush (v := nI 60) hx hb dX3_advance_7 (by decide) ?_
    refine lv_icmp_gt (tgt := 16) hx hb dX3_advance_9 (by decide) (fun c2 => ?_) (fun c2 => absurd hb1 (fun h => h.elim c1 c2))
    refine lv_iconst (v := nI 0) hx hb dX3_advance_16 (by decide) ?_
    refine lv_aload_n hx hb dX3_advance_17 rfl (lv_at hl 0 rfl) ?_
    refine m_get hx hb hts hin hown hK hP 0 (by decide) k91 rfl rfl dX3_advance_18 ?_
    refine lv_iload_n hx hb dX3_advance_21 rfl (lv_at hl 1 rfl) ?_
    refine lv_iadd hx hb dX3_advance_22 ?_
    refine lv_sipush (v := nI 1200) hx hb dX3_advance_23 (by decide) ?_
    refine lv_icmp_gt (tgt := 33) hx hb dX3_advance_26 (by decide) (fun c3 => ?_) (fun c3 => ?_)
    · refine lv_iconst (v := nI 0) hx hb dX3_advance_33 (by decide) ?_
      refine g_calli (As := [.int (nI 0), .int (nI 0)]) (rest := []) ⟨hx, hb, hml, hown, hts⟩ (c_X3_goes l D E tl y (nI 0) (nI 0)) (cwV 2 hts gX3_advance_X3_goes rfl rfl rfl (by decide +kernel) ⟨Nat.le_of_ble_eq_true rfl, Nat.le_of_ble_eq_true rfl⟩) (m_recv hK hP) hK hP hD hS hA rfl hl.1 rfl (Nat.le_of_ble_eq_true rfl) dX3_advance_34 ⟨Nat.le_of_ble_eq_true rfl, Nat.le_of_ble_eq_true rfl⟩ (fun r_11 u_10 H locs hw hP hD hS => ?_)
      obtain ⟨hr_11, hu_10⟩ := hw
      rw [hu_10] at hP hD
      rw [show mGt (nI 0) (nI 0) = nI 1 from by decide] at hP hD
      refine q_top (x' := (nI 0)) (hr_11.trans (by decide)) ?_
      refine q_if_ne (tgt := 42) hx hb (by omega) dX3_advance_37 (by decide) (fun c_12 => absurd c_12 (by decide)) (fun c_12 => ?_)
      refine lv_iconst (v := nI 0) hx hb dX3_advance_40 (by decide) ?_
      exact W.iret hx hb hr (fun t ht hW => ⟨⟨_, up2 y 18 0 (nI 1), rfl, rfl, by rw [ht]; exact hP, va_K.moved hW.alike hK, hD⟩, hS.F ht⟩) hS.2.2 dX3_advance_41
    · refine lv_iconst (v := nI 1) hx hb dX3_advance_29 (by decide) ?_
      refine lv_goto (tgt := 34) hx hb dX3_advance_30 (by decide) ?_
      refine g_calli (As := [.int (nI 0), .int (nI 1)]) (rest := []) ⟨hx, hb, hml, hown, hts⟩ (c_X3_goes l D E tl y (nI 0) (nI 1)) (cwV 2 hts gX3_advance_X3_goes rfl rfl rfl (by decide +kernel) ⟨Nat.le_of_ble_eq_true rfl, Nat.le_of_ble_eq_true rfl⟩) (m_recv hK hP) hK hP hD hS hA rfl hl.1 rfl (Nat.le_of_ble_eq_true rfl) dX3_advance_34 ⟨Nat.le_of_ble_eq_true rfl, Nat.le_of_ble_eq_true rfl⟩ (fun r_15 u_14 H locs hw hP hD hS => ?_)
      obtain ⟨hr_15, hu_14⟩ := hw
      rw [hu_14] at hP hD
      rw [show mGt (nI 0) (nI 1) = nI 1 from by decide] at hP hD
      refine q_top (x' := (nI 0)) (hr_15.trans (by decide)) ?_
      refine q_if_ne (tgt := 42) hx hb (by omega) dX3_advance_37 (by decide) (fun c_16 => absurd c_16 (by decide)) (fun c_16 => ?_)
      refine lv_iconst (v := nI 0) hx hb dX3_advance_40 (by decide) ?_
      exact W.iret hx hb hr (fun t ht hW => ⟨⟨_, up2 y 18 0 (nI 1), rfl, rfl, by rw [ht]; exact hP, va_K.moved hW.alike hK, hD⟩, hS.F ht⟩) hS.2.2 dX3_advance_41

set_option maxHeartbeats 4000000 in
set_option maxRecDepth 100000 in
theorem c_X3_advance_b (l : Launch) (D : va_G) (E : mE) (tl : gTy) (y : Nat → Nat → Int32) (mn : Int32) (h1 : ¬ mn < nI 1) (h60 : ¬ nI 60 < mn) (hb1 : nI 1200 < y 0 0 + mn)  : gI l yX3_advance wsX3_advance ({ frames := 1, cells := 0, slots := 0, locals := 22 } : Room) D (mT E tl) (mW E y) [.ref E.1.1, .int mn] (fun (r : Int32) (u : Nat → Nat → Int32) => u = up2 y 18 0 (nI 2)) (mW E) 0 0 := by
  refine gM.start (cc := cX3_advance) (maxL := 4) (ret := (some .int)) (own := RX3) rfl (by decide) rfl (Nat.le_of_ble_eq_true rfl) ?_
  intro pr e s m args below meth c A ls H locs hx hb hml hr hts hown hlocks hname hA hK hP hD hS hl
  replace hl : lv_has ls 4 [(0, .ref E.1.1), (1, .int mn)] := hl
  have hin : ∀ w ∈ wsX30, w ∈ wsX3_advance := by decide +kernel
  have k91 := hts (.fieldLink RX3 91 "FairFolioModel" "minute" "I") (by decide +kernel)
  refine lv_aload_n hx hb dX3_advance_0 rfl (lv_at hl 0 rfl) ?_
  refine lv_iload_n hx hb dX3_advance_1 rfl (lv_at hl 1 rfl) ?_
  refine lv_iconst (v := nI 1) hx hb dX3_advance_2 (by decide) ?_
  refine lv_icmp_lt (tgt := 16) hx hb dX3_advance_3 (by decide) (fun c1 => absurd c1 h1) (fun c1 => ?_)
  refine lv_iload_n hx hb dX3_advance_6 rfl (lv_at hl 1 rfl) ?_
  refine lv_bipush (v := nI 60) hx hb dX3_advance_7 (by decide) ?_
  refine lv_icmp_gt (tgt := 16) hx hb dX3_advance_9 (by decide) (fun c2 => absurd c2 h60) (fun c2 => ?_)
  refine lv_iconst (v := nI 1) hx hb dX3_advance_12 (by decide) ?_
  refine lv_goto (tgt := 17) hx hb dX3_advance_13 (by decide) ?_
  refine lv_aload_n hx hb dX3_advance_17 rfl (lv_at hl 0 rfl) ?_
  refine m_get hx hb hts hin hown hK hP 0 (by decide) k91 rfl rfl dX3_advance_18 ?_
  refine lv_iload_n hx hb dX3_advance_21 rfl (lv_at hl 1 rfl) ?_
  refine lv_iadd hx hb dX3_advance_22 ?_
  refine lv_sipush (v := nI 1200) hx hb dX3_advance_23 (by decide) ?_
  refine lv_icmp_gt (tgt := 33) hx hb dX3_advance_26 (by decide) (fun c3 => ?_) (fun c3 => absurd hb1 c3)
  refine lv_iconst (v := nI 0) hx hb dX3_advance_33 (by decide) ?_
  refine g_calli (As := [.int (nI 1), .int (nI 0)]) (rest := []) ⟨hx, hb, hml, hown, hts⟩ (c_X3_goes l D E tl y (nI 1) (nI 0)) (cwV 2 hts gX3_advance_X3_goes rfl rfl rfl (by decide +kernel) ⟨Nat.le_of_ble_eq_true rfl, Nat.le_of_ble_eq_true rfl⟩) (m_recv hK hP) hK hP hD hS hA rfl hl.1 rfl (Nat.le_of_ble_eq_true rfl) dX3_advance_34 ⟨Nat.le_of_ble_eq_true rfl, Nat.le_of_ble_eq_true rfl⟩ (fun r_3 u_2 H locs hw hP hD hS => ?_)
  obtain ⟨hr_3, hu_2⟩ := hw
  rw [hu_2] at hP hD
  rw [show mGt (nI 1) (nI 0) = nI 2 from by decide] at hP hD
  refine q_top (x' := (nI 0)) (hr_3.trans (by decide)) ?_
  refine q_if_ne (tgt := 42) hx hb (by omega) dX3_advance_37 (by decide) (fun c_4 => absurd c_4 (by decide)) (fun c_4 => ?_)
  refine lv_iconst (v := nI 0) hx hb dX3_advance_40 (by decide) ?_
  exact W.iret hx hb hr (fun t ht hW => ⟨⟨_, up2 y 18 0 (nI 2), rfl, rfl, by rw [ht]; exact hP, va_K.moved hW.alike hK, hD⟩, hS.F ht⟩) hS.2.2 dX3_advance_41

set_option maxHeartbeats 4000000 in
set_option maxRecDepth 100000 in
theorem c_X3_advance (l : Launch) (D : va_G) (E : mE) (tl : gTy) (y : Nat → Nat → Int32) (mn : Nat) (y1 : Nat → Nat → Int32) (h1 : 1 ≤ mn) (h60 : mn ≤ 60) (hb1 : ¬ nI 1200 < y 0 0 + nI mn) (hm : mMins mn (up2 y 18 0 (nI 0)) y1)  : gI l yX3_advance wsX3_advance ({ frames := 3, cells := 0, slots := 0, locals := 71 } : Room) D (mT E tl) (mW E y) [.ref E.1.1, .int (nI mn)] (fun (r : Int32) (u : Nat → Nat → Int32) => r = y1 0 0 ∧ u = y1) (mW E) 0 0 := by
  refine gM.start (cc := cX3_advance) (maxL := 4) (ret := (some .int)) (own := RX3) rfl (by decide) rfl (Nat.le_of_ble_eq_true rfl) ?_
  intro pr e s m args below meth c A ls H locs hx hb hml hr hts hown hlocks hname hA hK hP hD hS hl
  replace hl : lv_has ls 4 [(0, .ref E.1.1), (1, .int (nI mn))] := hl
  have hin : ∀ w ∈ wsX30, w ∈ wsX3_advance := by decide +kernel
  have k91 := hts (.fieldLink RX3 91 "FairFolioModel" "minute" "I") (by decide +kernel)
  refine lv_aload_n hx hb dX3_advance_0 rfl (lv_at hl 0 rfl) ?_
  refine lv_iload_n hx hb dX3_advance_1 rfl (lv_at hl 1 rfl) ?_
  refine lv_iconst (v := nI 1) hx hb dX3_advance_2 (by decide) ?_
  refine q_icmp_lt (tgt := 16) hx hb (by omega) (by omega) dX3_advance_3 (by decide) (fun c1 => absurd c1 (by omega)) (fun c1 => ?_)
  refine lv_iload_n hx hb dX3_advance_6 rfl (lv_at hl 1 rfl) ?_
  refine lv_bipush (v := nI 60) hx hb dX3_advance_7 (by decide) ?_
  refine q_icmp_gt (tgt := 16) hx hb (by omega) (by omega) dX3_advance_9 (by decide) (fun c2 => absurd c2 (by omega)) (fun c2 => ?_)
  refine lv_iconst (v := nI 1) hx hb dX3_advance_12 (by decide) ?_
  refine lv_goto (tgt := 17) hx hb dX3_advance_13 (by decide) ?_
  refine lv_aload_n hx hb dX3_advance_17 rfl (lv_at hl 0 rfl) ?_
  refine m_get hx hb hts hin hown hK hP 0 (by decide) k91 rfl rfl dX3_advance_18 ?_
  refine lv_iload_n hx hb dX3_advance_21 rfl (lv_at hl 1 rfl) ?_
  refine lv_iadd hx hb dX3_advance_22 ?_
  refine lv_sipush (v := nI 1200) hx hb dX3_advance_23 (by decide) ?_
  refine lv_icmp_gt (tgt := 33) hx hb dX3_advance_26 (by decide) (fun c3 => absurd c3 hb1) (fun c3 => ?_)
  refine lv_iconst (v := nI 1) hx hb dX3_advance_29 (by decide) ?_
  refine lv_goto (tgt := 34) hx hb dX3_advance_30 (by decide) ?_
  refine g_calli (As := [.int (nI 1), .int (nI 1)]) (rest := []) ⟨hx, hb, hml, hown, hts⟩ (c_X3_goes l D E tl y (nI 1) (nI 1)) (cwV 2 hts gX3_advance_X3_goes rfl rfl rfl (by decide +kernel) ⟨Nat.le_of_ble_eq_true rfl, Nat.le_of_ble_eq_true rfl⟩) (m_recv hK hP) hK hP hD hS hA rfl hl.1 rfl (Nat.le_of_ble_eq_true rfl) dX3_advance_34 ⟨Nat.le_of_ble_eq_true rfl, Nat.le_of_ble_eq_true rfl⟩ (fun r_3 u_2 H locs hw hP hD hS => ?_)
  obtain ⟨hr_3, hu_2⟩ := hw
  rw [hu_2] at hP hD
  rw [show mGt (nI 1) (nI 1) = nI 0 from by decide] at hP hD
  refine q_top (x' := (nI 1)) (hr_3.trans (by decide)) ?_
  refine q_if_ne (tgt := 42) hx hb (by omega) dX3_advance_37 (by decide) (fun c_4 => ?_) (fun c_4 => absurd c_4 (by decide))
  refine lv_iconst (v := nI 0) hx hb dX3_advance_42 (by decide) ?_
  refine lv_istore_n (lv' := [(2, .int (nI 0)), (0, .ref E.1.1), (1, .int (nI mn))]) hx hb dX3_advance_43 rfl hl (by decide) rfl (fun ls hl => ?_)
  generalize up2 y 18 0 (nI 0) = z at hP hD hm
  obtain ⟨k, hk⟩ : ∃ k : Nat, k = 0 := ⟨_, rfl⟩
  obtain ⟨nn, hn⟩ : ∃ nn : Nat, nn = mn := ⟨_, rfl⟩
  replace hl : lv_has ls 4 [(2, .int (nI k)), (0, .ref E.1.1), (1, .int (nI mn))] := by rw [hk]; exact hl
  replace hm : mMins nn z y1 := by rw [hn]; exact hm
  replace hn : k + nn = mn := by omega
  clear hk
  induction nn generalizing z k H locs ls with
  | zero =>
    obtain rfl := hm
    obtain rfl : mn = k := by omega
    refine lv_iload_n hx hb dX3_advance_44 rfl (lv_at hl 0 rfl) ?_
    refine lv_iload_n hx hb dX3_advance_45 rfl (lv_at hl 2 rfl) ?_
    refine q_icmp_ge (tgt := 111) hx hb (by omega) (by omega) dX3_advance_46 (by decide) (fun c8 => ?_) (fun c8 => absurd c8 (by omega))
    refine lv_aload_n hx hb dX3_advance_111 rfl (lv_at hl 1 rfl) ?_
    refine m_get hx hb hts hin hown hK hP 0 (by decide) k91 rfl rfl dX3_advance_112 ?_
    exact W.iret hx hb hr (fun t ht hW => ⟨⟨_, y1, rfl, ⟨rfl, rfl⟩, by rw [ht]; exact hP, va_K.moved hW.alike hK, hD⟩, hS.F ht⟩) hS.2.2 dX3_advance_115
  | succ nn ih =>
    obtain ⟨z1, ⟨y2, y3, t1, t2, t3⟩, hm⟩ := hm
    refine lv_iload_n hx hb dX3_advance_44 rfl (lv_at hl 0 rfl) ?_
    refine lv_iload_n hx hb dX3_advance_45 rfl (lv_at hl 2 rfl) ?_
    refine q_icmp_ge (tgt := 111) hx hb (by omega) (by omega) dX3_advance_46 (by decide) (fun c8 => absurd c8 (by omega)) (fun c8 => ?_)
    refine lv_aload_n hx hb dX3_advance_49 rfl (lv_at hl 1 rfl) ?_
    refine lv_dup hx hb dX3_advance_50 rfl ?_
    refine m_get hx hb hts hin hown hK hP 0 (by decide) k91 rfl rfl dX3_advance_51 ?_
    refine lv_iconst (v := nI 1) hx hb dX3_advance_54 (by decide) ?_
    refine lv_iadd hx hb dX3_advance_55 ?_
    refine va_put (D := D) (ci := 4) (v := .int ((z 0 0) + (nI 1))) (ty := .int) (C := RX3) (T := TX3) (N := 19) hx hb hts hin tyX3 tyX3_ok nmX3 hown hK hP hD hS 0 rfl rfl 0 (by decide) k91 (fun _ h9 => h9) rfl (by decide +kernel) rfl rfl (Nat.le_of_ble_eq_true rfl) dX3_advance_56 (fun H locs hP hD hS => ?_)
    replace hP : va_P D vwCl (mW E (up2 z 0 0 ((z 0 0) + (nI 1)))) H := hP
    replace hD : va_D A (mW E (up2 z 0 0 ((z 0 0) + (nI 1)))) := hD
    refine lv_aload_n hx hb dX3_advance_59 rfl (lv_at hl 1 rfl) ?_
    refine g_callv (As := []) (rest := []) ⟨hx, hb, hml, hown, hts⟩ (c_X3_comeOut l D E tl (up2 z 0 0 ((z 0 0) + (nI 1)))) (cwV 0 hts gX3_advance_X3_comeOut rfl rfl rfl (by decide +kernel) ⟨Nat.le_of_ble_eq_true rfl, Nat.le_of_ble_eq_true rfl⟩) (m_recv hK hP) hK hP hD hS hA rfl hl.1 rfl (Nat.le_of_ble_eq_true rfl) dX3_advance_60 ⟨Nat.le_of_ble_eq_true rfl, Nat.le_of_ble_eq_true rfl⟩ (fun u_6 H locs hw hP hD hS => ?_)
    rw [hw] at hP hD
    refine lv_aload_n hx hb dX3_advance_63 rfl (lv_at hl 1 rfl) ?_
    refine g_callv (As := []) (rest := []) ⟨hx, hb, hml, hown, hts⟩ (c_X3_takeTurns l D E tl (mOut (up2 z 0 0 ((z 0 0) + (nI 1))) 8) y2 t1) (cwV 0 hts gX3_advance_X3_takeTurns rfl rfl rfl (by decide +kernel) ⟨Nat.le_of_ble_eq_true rfl, Nat.le_of_ble_eq_true rfl⟩) (m_recv hK hP) hK hP hD hS hA rfl hl.1 rfl (Nat.le_of_ble_eq_true rfl) dX3_advance_64 ⟨Nat.le_of_ble_eq_true rfl, Nat.le_of_ble_eq_true rfl⟩ (fun u_9 H locs hw hP hD hS => ?_)
    rw [hw] at hP hD
    clear t1 hw
    refine lv_iconst (v := nI 0) hx hb dX3_advance_67 (by decide) ?_
    refine lv_istore_n (lv' := [(3, .int (nI 0)), (2, .int (nI k)), (0, .ref E.1.1), (1, .int (nI mn))]) hx hb dX3_advance_68 rfl hl (by decide) rfl (fun ls hl => ?_)
    obtain ⟨b, hb0⟩ : ∃ b : Nat, b = 0 := ⟨_, rfl⟩
    obtain ⟨mm, hmm⟩ : ∃ mm : Nat, mm = 8 := ⟨_, rfl⟩
    replace hl : lv_has ls 4 [(3, .int (nI b)), (2, .int (nI k)), (0, .ref E.1.1), (1, .int (nI mn))] := by rw [hb0]; exact hl
    rw [← hb0, ← hmm] at t2
    replace hmm : b + mm = 8 := by omega
    clear hb0
    induction mm generalizing y2 b H locs ls with
    | zero =>
      obtain rfl := t2
      obtain rfl : b = 8 := by omega
      refine lv_iload_n hx hb dX3_advance_69 rfl (lv_at hl 0 rfl) ?_
      refine lv_bipush (v := nI 8) hx hb dX3_advance_70 (by decide) ?_
      refine q_icmp_ge (tgt := 86) hx hb (by omega) (by omega) dX3_advance_72 (by decide) (fun c20 => ?_) (fun c20 => absurd c20 (by omega))
      refine lv_iconst (v := nI 0) hx hb dX3_advance_86 (by decide) ?_
      refine lv_istore_n (lv' := [(3, .int (nI 0)), (2, .int (nI k)), (0, .ref E.1.1), (1, .int (nI mn))]) hx hb dX3_advance_87 rfl hl (by decide) rfl (fun ls hl => ?_)
      obtain ⟨d, hb0⟩ : ∃ d : Nat, d = 0 := ⟨_, rfl⟩
      obtain ⟨mm, hmm⟩ : ∃ mm : Nat, mm = 6 := ⟨_, rfl⟩
      replace hl : lv_has ls 4 [(3, .int (nI d)), (2, .int (nI k)), (0, .ref E.1.1), (1, .int (nI mn))] := by rw [hb0]; exact hl
      rw [← hb0, ← hmm] at t3
      replace hmm : d + mm = 6 := by omega
      clear hb0
      induction mm generalizing y3 d H locs ls with
      | zero =>
        obtain rfl := t3
        obtain rfl : d = 6 := by omega
        refine lv_iload_n hx hb dX3_advance_88 rfl (lv_at hl 0 rfl) ?_
        refine lv_bipush (v := nI 6) hx hb dX3_advance_89 (by decide) ?_
        refine q_icmp_ge (tgt := 105) hx hb (by omega) (by omega) dX3_advance_91 (by decide) (fun c20 => ?_) (fun c20 => absurd c20 (by omega))
        refine q_inc (k := 1) (lv' := [(2, .int (nI (k + 1))), (3, .int (nI 6)), (0, .ref E.1.1), (1, .int (nI mn))]) hx hb dX3_advance_105 hl rfl (by decide) rfl (fun ls hl => ?_)
        refine lv_goto (tgt := 44) hx hb dX3_advance_108 (by decide) ?_
        replace hl : lv_has ls 4 [(2, .int (nI (k + 1))), (0, .ref E.1.1), (1, .int (nI mn))] := lv_sub hl [0, 2, 3] rfl
        apply ih (k := k + 1) (H := H) (locs := locs) (ls := ls) (hP := hP) (hD := hD) (hS := hS) (hl := hl) (hm := hm)
        all_goals first | omega | assumption
      | succ mm ih2 =>
        obtain ⟨i1, z2, g1, t3⟩ := t3
        refine lv_iload_n hx hb dX3_advance_88 rfl (lv_at hl 0 rfl) ?_
        refine lv_bipush (v := nI 6) hx hb dX3_advance_89 (by decide) ?_
        refine q_icmp_ge (tgt := 105) hx hb (by omega) (by omega) dX3_advance_91 (by decide) (fun c20 => absurd c20 (by omega)) (fun c20 => ?_)
        refine lv_aload_n hx hb dX3_advance_94 rfl (lv_at hl 2 rfl) ?_
        refine lv_iload_n hx hb dX3_advance_95 rfl (lv_at hl 0 rfl) ?_
        refine g_callv (As := [.int (nI d)]) (rest := []) ⟨hx, hb, hml, hown, hts⟩ (c_X3_goIn l D E tl y3 d i1 z2 (by omega) g1) (cwV 1 hts gX3_advance_X3_goIn rfl rfl rfl (by decide +kernel) ⟨Nat.le_of_ble_eq_true rfl, Nat.le_of_ble_eq_true rfl⟩) (m_recv hK hP) hK hP hD hS hA rfl hl.1 rfl (Nat.le_of_ble_eq_true rfl) dX3_advance_96 ⟨Nat.le_of_ble_eq_true rfl, Nat.le_of_ble_eq_true rfl⟩ (fun u_12 H locs hw hP hD hS => ?_)
        rw [hw] at hP hD
        refine q_inc (k := 0) (lv' := [(3, .int (nI (d + 1))), (2, .int (nI k)), (0, .ref E.1.1), (1, .int (nI mn))]) hx hb dX3_advance_99 hl rfl (by decide) rfl (fun ls hl => ?_)
        refine lv_goto (tgt := 88) hx hb dX3_advance_102 (by decide) ?_
        exact ih2 (d := d + 1) (H := H) (locs := locs) (ls := ls) (hP := hP) (hD := hD) (hS := hS) (hl := hl) (t3 := t3) (hmm := by omega)
    | succ mm ih2 =>
      obtain ⟨z2, ⟨pm, g1, g2, g3⟩, t2⟩ := t2
      refine lv_iload_n hx hb dX3_advance_69 rfl (lv_at hl 0 rfl) ?_
      refine lv_bipush (v := nI 8) hx hb dX3_advance_70 (by decide) ?_
      refine q_icmp_ge (tgt := 86) hx hb (by omega) (by omega) dX3_advance_72 (by decide) (fun c20 => absurd c20 (by omega)) (fun c20 => ?_)
      refine lv_aload_n hx hb dX3_advance_75 rfl (lv_at hl 2 rfl) ?_
      refine lv_iload_n hx hb dX3_advance_76 rfl (lv_at hl 0 rfl) ?_
      refine g_callv (As := [.int (nI b)]) (rest := []) ⟨hx, hb, hml, hown, hts⟩ (c_X3_goOn l D E tl y2 b pm z2 (by omega) g1 g2 g3) (cwV 1 hts gX3_advance_X3_goOn rfl rfl rfl (by decide +kernel) ⟨Nat.le_of_ble_eq_true rfl, Nat.le_of_ble_eq_true rfl⟩) (m_recv hK hP) hK hP hD hS hA rfl hl.1 rfl (Nat.le_of_ble_eq_true rfl) dX3_advance_77 ⟨Nat.le_of_ble_eq_true rfl, Nat.le_of_ble_eq_true rfl⟩ (fun u_15 H locs hw hP hD hS => ?_)
      rw [hw] at hP hD
      refine q_inc (k := 0) (lv' := [(3, .int (nI (b + 1))), (2, .int (nI k)), (0, .ref E.1.1), (1, .int (nI mn))]) hx hb dX3_advance_80 hl rfl (by decide) rfl (fun ls hl => ?_)
      refine lv_goto (tgt := 69) hx hb dX3_advance_83 (by decide) ?_
      exact ih2 (b := b + 1) (H := H) (locs := locs) (ls := ls) (hP := hP) (hD := hD) (hS := hS) (hl := hl) (t2 := t2) (hmm := by omega)
