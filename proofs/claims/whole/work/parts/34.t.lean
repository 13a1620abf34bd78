set_option maxHeartbeats 8000000 in
set_option maxRecDepth 100000 in
theorem c_X3_init (l : Launch) (D : va_G) (ci cz : ClassId) (tl : gTy) (o : Nat) : gV l yX3_init wsX3_init ({ frames := 1, cells := 17, slots := 244, locals := 12 } : Room) D ((ci, .int) :: (cz, .boolean) :: tl) [(o, .inr (4, [.int 0, .null, .null, .null, .null, .null, .null, .null, .null, .null, .null, .null, .null, .null, .null, .null, .null, .null, .int 0]))] [.ref o] (fun _ : Nat → Nat => True) (fun u => mW ((o, u), (ci, cz)) (mI2 8)) 17 244 := by
  refine gM.start (cc := cX3_init) (maxL := 2) (ret := none) (own := RX3) rfl (by decide) rfl (Nat.le_of_ble_eq_true rfl) ?_
  intro pr e s m args below meth c A ls H locs hx hb hml hr hts hown hlocks hname hA hK hP hD hS hl
  replace hl : lv_has ls 2 [(0, .ref o)] := hl
  have hin : ∀ w ∈ wsX30, w ∈ wsX3_init := by decide +kernel
  have k7 := hts (.fieldLink RX3 7 "FairFolioModel" "room" "[I") (by decide +kernel)
  have k13 := hts (.fieldLink RX3 13 "FairFolioModel" "takes" "[I") (by decide +kernel)
  have k16 := hts (.fieldLink RX3 16 "FairFolioModel" "isClosed" "[Z") (by decide +kernel)
  have k20 := hts (.fieldLink RX3 20 "FairFolioModel" "queue" "[I") (by decide +kernel)
  have k23 := hts (.fieldLink RX3 23 "FairFolioModel" "waiting" "[I") (by decide +kernel)
  have k26 := hts (.fieldLink RX3 26 "FairFolioModel" "plan" "[I") (by decide +kernel)
  have k29 := hts (.fieldLink RX3 29 "FairFolioModel" "planned" "[I") (by decide +kernel)
  have k32 := hts (.fieldLink RX3 32 "FairFolioModel" "state" "[I") (by decide +kernel)
  have k35 := hts (.fieldLink RX3 35 "FairFolioModel" "where" "[I") (by decide +kernel)
  have k38 := hts (.fieldLink RX3 38 "FairFolioModel" "until" "[I") (by decide +kernel)
  have k41 := hts (.fieldLink RX3 41 "FairFolioModel" "stamps" "[I") (by decide +kernel)
  have k44 := hts (.fieldLink RX3 44 "FairFolioModel" "turn" "[I") (by decide +kernel)
  have k47 := hts (.fieldLink RX3 47 "FairFolioModel" "turnFor" "[I") (by decide +kernel)
  have k50 := hts (.fieldLink RX3 50 "FairFolioModel" "isByTurn" "[Z") (by decide +kernel)
  have k53 := hts (.fieldLink RX3 53 "FairFolioModel" "stock" "[I") (by decide +kernel)
  have k56 := hts (.fieldLink RX3 56 "FairFolioModel" "demand" "[I") (by decide +kernel)
  have k59 := hts (.fieldLink RX3 59 "FairFolioModel" "sent" "[I") (by decide +kernel)
  refine lv_aload_n hx hb dX3_init_0 rfl (lv_at hl 0 rfl) ?_
  refine W.objInit hx hb hown (hts (.methodLink RX3 1 objectInit) (by decide +kernel)) (hts (.instanceMethod objectInit) (by decide +kernel)) (hts (.code objectInit ⟨#[0xb1]⟩ 1 none) (by decide +kernel)) rfl (by rw [hml]; exact hl.1) rfl dX3_init_1 (Nat.le_of_ble_eq_true rfl) (Nat.le_of_ble_eq_true rfl) ?_
  refine W.eq (g2 := F0 m 4 ls []) rfl ?_
  refine lv_aload_n hx hb dX3_init_4 rfl (lv_at hl 0 rfl) ?_
  refine lv_bipush (v := nI 6) hx hb dX3_init_5 (by decide) ?_
  refine va_newa hx hb (hts (.arrayClass .int) (by decide +kernel)) (ty := .int) rfl hK hP hD hS hA (N' := 6) (a0 := (6, .inl (fun _ => 0))) (fun _ => rfl) (nI_pos (by decide)) (by decide) (by decide) (Nat.le_of_ble_eq_true rfl) (Nat.le_of_ble_eq_true rfl) dX3_init_7 (fun q_1 cA H hK9 hP hD hS => ?_)
  have hc9 : cA = ci := nm_eq (K_last hK9) (hK.2 0 _ rfl).2
  rw [hc9] at hP hD
  clear hK9 hc9 cA
  replace hP : va_P D vwCl [(o, .inr (4, [.int 0, .null, .null, .null, .null, .null, .null, .null, .null, .null, .null, .null, .null, .null, .null, .null, .null, .null, .int 0])), (q_1, .inl (ci, 6, .inl (fun _ => 0)))] H := hP
  replace hD : va_D A [(o, .inr (4, [.int 0, .null, .null, .null, .null, .null, .null, .null, .null, .null, .null, .null, .null, .null, .null, .null, .null, .null, .int 0])), (q_1, .inl (ci, 6, .inl (fun _ => 0)))] := hD
  refine va_putF (D := D) (ci := 4) (v := .ref q_1) (ty := .array .int) (C := RX3) (T := TX3) (N := 19) hx hb hts hin tyX3 tyX3_ok nmX3 hown hK hP hD hS 0 rfl rfl 1 (by decide) k7 (fun _ h9 => h9) rfl hname rfl (by decide +kernel) rfl rfl (Nat.le_of_ble_eq_true rfl) dX3_init_9 (fun H locs hP hD hS => ?_)
  replace hP : va_P D vwCl [(o, .inr (4, [.int 0, .ref q_1, .null, .null, .null, .null, .null, .null, .null, .null, .null, .null, .null, .null, .null, .null, .null, .null, .int 0])), (q_1, .inl (ci, 6, .inl (fun _ => 0)))] H := hP
  replace hD : va_D A [(o, .inr (4, [.int 0, .ref q_1, .null, .null, .null, .null, .null, .null, .null, .null, .null, .null, .null, .null, .null, .null, .null, .null, .int 0])), (q_1, .inl (ci, 6, .inl (fun _ => 0)))] := hD
  refine lv_aload_n hx hb dX3_init_12 rfl (lv_at hl 0 rfl) ?_
  refine lv_bipush (v := nI 6) hx hb dX3_init_13 (by decide) ?_
  refine va_newa hx hb (hts (.arrayClass .int) (by decide +kernel)) (ty := .int) rfl hK hP hD hS hA (N' := 6) (a0 := (6, .inl (fun _ => 0))) (fun _ => rfl) (nI_pos (by decide)) (by decide) (by decide) (Nat.le_of_ble_eq_true rfl) (Nat.le_of_ble_eq_true rfl) dX3_init_15 (fun q_2 cA H hK9 hP hD hS => ?_)
  have hc9 : cA = ci := nm_eq (K_last hK9) (hK.2 0 _ rfl).2
  rw [hc9] at hP hD
  clear hK9 hc9 cA
  replace hP : va_P D vwCl [(o, .inr (4, [.int 0, .ref q_1, .null, .null, .null, .null, .null, .null, .null, .null, .null, .null, .null, .null, .null, .null, .null, .null, .int 0])), (q_1, .inl (ci, 6, .inl (fun _ => 0))), (q_2, .inl (ci, 6, .inl (fun _ => 0)))] H := hP
  replace hD : va_D A [(o, .inr (4, [.int 0, .ref q_1, .null, .null, .null, .null, .null, .null, .null, .null, .null, .null, .null, .null, .null, .null, .null, .null, .int 0])), (q_1, .inl (ci, 6, .inl (fun _ => 0))), (q_2, .inl (ci, 6, .inl (fun _ => 0)))] := hD
  refine va_putF (D := D) (ci := 4) (v := .ref q_2) (ty := .array .int) (C := RX3) (T := TX3) (N := 19) hx hb hts hin tyX3 tyX3_ok nmX3 hown hK hP hD hS 0 rfl rfl 2 (by decide) k13 (fun _ h9 => h9) rfl hname rfl (by decide +kernel) rfl rfl (Nat.le_of_ble_eq_true rfl) dX3_init_17 (fun H locs hP hD hS => ?_)
  replace hP : va_P D vwCl [(o, .inr (4, [.int 0, .ref q_1, .ref q_2, .null, .null, .null, .null, .null, .null, .null, .null, .null, .null, .null, .null, .null, .null, .null, .int 0])), (q_1, .inl (ci, 6, .inl (fun _ => 0))), (q_2, .inl (ci, 6, .inl (fun _ => 0)))] H := hP
  replace hD : va_D A [(o, .inr (4, [.int 0, .ref q_1, .ref q_2, .null, .null, .null, .null, .null, .null, .null, .null, .null, .null, .null, .null, .null, .null, .null, .int 0])), (q_1, .inl (ci, 6, .inl (fun _ => 0))), (q_2, .inl (ci, 6, .inl (fun _ => 0)))] := hD
  refine lv_aload_n hx hb dX3_init_20 rfl (lv_at hl 0 rfl) ?_
  refine lv_bipush (v := nI 6) hx hb dX3_init_21 (by decide) ?_
  refine va_newa hx hb (hts (.arrayClass .boolean) (by decide +kernel)) (ty := .boolean) rfl hK hP hD hS hA (N' := 6) (a0 := (6, .inl (fun _ => 0))) (fun _ => rfl) (nI_pos (by decide)) (by decide) (by decide) (Nat.le_of_ble_eq_true rfl) (Nat.le_of_ble_eq_true rfl) dX3_init_23 (fun q_3 cA H hK9 hP hD hS => ?_)
  have hc9 : cA = cz := nm_eq (K_last hK9) (hK.2 1 _ rfl).2
  rw [hc9] at hP hD
  clear hK9 hc9 cA
  replace hP : va_P D vwCl [(o, .inr (4, [.int 0, .ref q_1, .ref q_2, .null, .null, .null, .null, .null, .null, .null, .null, .null, .null, .null, .null, .null, .null, .null, .int 0])), (q_1, .inl (ci, 6, .inl (fun _ => 0))), (q_2, .inl (ci, 6, .inl (fun _ => 0))), (q_3, .inl (cz, 6, .inl (fun _ => 0)))] H := hP
  replace hD : va_D A [(o, .inr (4, [.int 0, .ref q_1, .ref q_2, .null, .null, .null, .null, .null, .null, .null, .null, .null, .null, .null, .null, .null, .null, .null, .int 0])), (q_1, .inl (ci, 6, .inl (fun _ => 0))), (q_2, .inl (ci, 6, .inl (fun _ => 0))), (q_3, .inl (cz, 6, .inl (fun _ => 0)))] := hD
  refine va_putF (D := D) (ci := 4) (v := .ref q_3) (ty := .array .boolean) (C := RX3) (T := TX3) (N := 19) hx hb hts hin tyX3 tyX3_ok nmX3 hown hK hP hD hS 0 rfl rfl 3 (by decide) k16 (fun _ h9 => h9) rfl hname rfl (by decide +kernel) rfl rfl (Nat.le_of_ble_eq_true rfl) dX3_init_25 (fun H locs hP hD hS => ?_)
  replace hP : va_P D vwCl [(o, .inr (4, [.int 0, .ref q_1, .ref q_2, .ref q_3, .null, .null, .null, .null, .null, .null, .null, .null, .null, .null, .null, .null, .null, .null, .int 0])), (q_1, .inl (ci, 6, .inl (fun _ => 0))), (q_2, .inl (ci, 6, .inl (fun _ => 0))), (q_3, .inl (cz, 6, .inl (fun _ => 0)))] H := hP
  replace hD : va_D A [(o, .inr (4, [.int 0, .ref q_1, .ref q_2, .ref q_3, .null, .null, .null, .null, .null, .null, .null, .null, .null, .null, .null, .null, .null, .null, .int 0])), (q_1, .inl (ci, 6, .inl (fun _ => 0))), (q_2, .inl (ci, 6, .inl (fun _ => 0))), (q_3, .inl (cz, 6, .inl (fun _ => 0)))] := hD
  refine lv_aload_n hx hb dX3_init_28 rfl (lv_at hl 0 rfl) ?_
  refine lv_bipush (v := nI 48) hx hb dX3_init_29 (by decide) ?_
  sorry
