/-! the class's constructor -/
def iPv (j : Nat) : List Value := [.int (nI j), .int (nI 2), .int (nI 5), .int (nI 1), .int (nI 10), .int (nI 0)]
def iPs (pad : Nat → Nat) : Nat → va_W
  | 0 => []
  | k + 1 => iPs pad k ++ [(pad k, .inr (1, iPv k))]
theorem iPs_len (pad : Nat → Nat) : ∀ k, (iPs pad k).length = k
  | 0 => rfl
  | k + 1 => by rw [iPs, List.length_append, iPs_len pad k]; rfl
theorem iPs_c {pad pad' : Nat → Nat} : ∀ k, (∀ j, j < k → pad' j = pad j) → iPs pad' k = iPs pad k
  | 0, _ => rfl
  | k + 1, h => by rw [iPs, iPs, iPs_c k (fun j hj => h j (by omega)), h k (by omega)]
def iRow (k : Nat) (ad : Nat → Nat) : Nat → Option Nat := fun j => if j < k then some (ad j) else none
theorem iRow_s (k : Nat) (ad : Nat → Nat) (q : Nat) : va_up (iRow k ad) k (some q) = iRow (k + 1) (va_up ad k q) := by
  funext j
  show (if j = k then some q else if j < k then some (ad j) else none) = (if j < k + 1 then some (if j = k then q else ad j) else none)
  by_cases h : j = k
  · rw [if_pos h, if_pos (show j < k + 1 by omega), if_pos h]
  · rw [if_neg h, if_neg h]
    by_cases h2 : j < k
    · rw [if_pos h2, if_pos (show j < k + 1 by omega)]
    · rw [if_neg h2, if_neg (show ¬ j < k + 1 by omega)]
def iH (E : cE) (o pa va : Nat) (f g : Nat → Option Nat) : va_W := [(o, .inr (3, [.ref pa, .ref va, .int (nI 0)])), (pa, .inl (eP E, 6, .inr (.inr (.inr (.inr f))))), (va, .inl (eV E, 8, .inr (.inr (.inr (.inr g)))))]
def iP (E : cE) (o pa va : Nat) (pad : Nat → Nat) (k : Nat) : va_W := iH E o pa va (iRow k pad) (fun _ => none) ++ iPs pad k
theorem up_old {ad : Nat → Nat} {k q : Nat} : ∀ j, j < k → va_up ad k q j = ad j := fun j hj => if_neg (by omega)
theorem up_new {ad : Nat → Nat} {k q : Nat} : va_up ad k q k = q := if_pos rfl
theorem iP_s {E : cE} {o pa va : Nat} {pad : Nat → Nat} {k q : Nat} : (iP E o pa va pad k ++ ([(q, .inr (1, iPv k))] : va_W)).set 1 ((pa, .inl (eP E, 6, .inr (.inr (.inr (.inr (va_up (iRow k pad) k (some q))))))) : Nat × va_E) = iP E o pa va (va_up pad k q) (k + 1) := by
  unfold iP
  rw [iPs, iPs_c k (up_old (ad := pad) (q := q)), up_new, iRow_s, List.append_assoc]
  rfl
def iVv (la sa : Nat) : List Value := [.ref la, .ref sa, .int (nI 0), .int (-1), .int (-1), .int (-1), .int (nI 0), .int (-1), .null, .int (nI 0)]
def iVs (E : cE) (vad lad sad : Nat → Nat) : Nat → va_W
  | 0 => []
  | k + 1 => iVs E vad lad sad k ++ [(vad k, .inr (2, iVv (lad k) (sad k))), (lad k, lC (nI 0) (eDf E) (nI 0)), (sad k, .inl (eI E, 6, .inl (fun _ => 0)))]
theorem iVs_c {E : cE} {vad lad sad vad' lad' sad' : Nat → Nat} : ∀ k, (∀ j, j < k → vad' j = vad j) → (∀ j, j < k → lad' j = lad j) → (∀ j, j < k → sad' j = sad j) → iVs E vad' lad' sad' k = iVs E vad lad sad k
  | 0, _, _, _ => rfl
  | k + 1, h1, h2, h3 => by rw [iVs, iVs, iVs_c k (fun j hj => h1 j (by omega)) (fun j hj => h2 j (by omega)) (fun j hj => h3 j (by omega)), h1 k (by omega), h2 k (by omega), h3 k (by omega)]
def iV (E : cE) (o pa va : Nat) (pad vad lad sad : Nat → Nat) (k : Nat) : va_W := (iH E o pa va (iRow 6 pad) (iRow k vad) ++ iPs pad 6) ++ iVs E vad lad sad k
theorem iV_s {E : cE} {o pa va : Nat} {pad vad lad sad : Nat → Nat} {k q a b : Nat} : (iV E o pa va pad vad lad sad k ++ ([(q, .inr (2, iVv a b)), (a, lC (nI 0) (eDf E) (nI 0)), (b, .inl (eI E, 6, .inl (fun _ => 0)))] : va_W)).set 2 ((va, .inl (eV E, 8, .inr (.inr (.inr (.inr (va_up (iRow k vad) k (some q))))))) : Nat × va_E) = iV E o pa va pad (va_up vad k q) (va_up lad k a) (va_up sad k b) (k + 1) := by
  unfold iV
  rw [iVs, iVs_c k (up_old (ad := vad) (q := q)) (up_old (ad := lad) (q := a)) (up_old (ad := sad) (q := b)), up_new, up_new, up_new, iRow_s, List.append_assoc, List.append_assoc, List.append_assoc]
  rfl
def iX : Nat → Nat → Int32 := fun f _ => if f = 1 then nI 2 else if f = 2 then nI 5 else if f = 3 then nI 1 else if f = 4 then nI 10 else if f = 7 then -1 else if f = 8 then -1 else if f = 9 then -1 else if f = 11 then -1 else if f = 12 then -1 else nI 0
abbrev iU : Type := (Nat × Nat) × (Nat → Nat) × (Nat → Nat) × (Nat → Nat) × (Nat → Nat)
def iE (E : cE) (o : Nat) (u : iU) : cE := ((o, u.1.1, u.1.2, eDf E), u.2, E.2.2.1, fun _ _ => 0, fun _ _ => 0, fun _ => eDf E, [])
theorem iP_0 {E : cE} {o pa va : Nat} : iH E o pa va (fun _ => none) (fun _ => none) = iP E o pa va (fun _ => 0) 0 := by
  unfold iP
  rw [show iRow 0 (fun _ => 0) = fun _ => none from funext fun j => if_neg (Nat.not_lt_zero j)]
  rfl
theorem iV_0 {E : cE} {o pa va : Nat} {pad : Nat → Nat} : iP E o pa va pad 6 = iV E o pa va pad (fun _ => 0) (fun _ => 0) (fun _ => 0) 0 := by
  unfold iV iP
  rw [show iRow 0 (fun _ => 0) = fun _ => none from funext fun j => if_neg (Nat.not_lt_zero j)]
  exact (List.append_nil _).symm
def iIs : List Nat := [0, 1, 2, 3, 4, 5, 6, 7, 8, 9, 12, 15, 18, 21, 24, 27, 30, 10, 13, 16, 19, 22, 25, 28, 31, 11, 14, 17, 20, 23, 26, 29, 32]

set_option maxRecDepth 100000 in
theorem iV_all (E : cE) (o pa va : Nat) (pad vad lad sad : Nat → Nat) : iIs.map (fun i => (iV E o pa va pad vad lad sad 8)[i]?) = (cW (iE E o ((pa, va), pad, vad, lad, sad)) iX).map some := rfl
theorem sub_of_map {α β : Type} {f : α → Option β} : ∀ {is : List α} {ws : List β}, is.map f = ws.map some → is.filterMap f = ws
  | [], [], _ => rfl
  | a :: is, [], h => by cases h
  | [], b :: ws, h => by cases h
  | a :: is, b :: ws, h => by
    rw [List.map_cons, List.map_cons, List.cons.injEq] at h
    rw [List.filterMap_cons, h.1]
    show b :: is.filterMap f = b :: ws
    rw [sub_of_map h.2]

set_option maxHeartbeats 4000000 in
set_option maxRecDepth 100000 in
theorem c_X2_init (l : Launch) (D : va_G) (E : cE) (tl : gTy) (o : Nat) : hV l yX2_init wsX2_init ({ frames := 5, cells := 32, slots := 202, locals := 92 } : Room) D E tl [(o, .inr (3, [.null, .null, .int 0]))] [.ref o] (fun u : iU => True) (fun u => cW (iE E o u) iX) 32 202 := by
  refine hM.start (cc := cX2_init) (maxL := 2) (ret := none) (own := RX2) rfl (by decide) rfl (Nat.le_of_ble_eq_true rfl) ?_
  intro pr e s m args below meth c A ls H locs hx hb hml hr hts hown hlocks hname hA hK hX hP hD hS hl
  replace hl : lv_has ls 2 [(0, .ref o)] := hl
  have hinC : ∀ w ∈ wsX20, w ∈ wsX2_init := by decide +kernel
  have k11 := hts (.fieldLink RX2 11 "FairFolio" "pavilions" "[LFairFolio$Pavilion;") (by decide +kernel)
  have k17 := hts (.fieldLink RX2 17 "FairFolio" "visitors" "[LFairFolio$Visitor;") (by decide +kernel)
  have k21 := hts (.fieldLink RX2 21 "FairFolio" "now" "I") (by decide +kernel)
  refine lv_aload_n hx hb dX2_init_0 rfl (lv_at hl 0 rfl) ?_
  refine W.objInit hx hb hown (hts (.methodLink RX2 1 objectInit) (by decide +kernel)) (hts (.instanceMethod objectInit) (by decide +kernel)) (hts (.code objectInit ⟨#[0xb1]⟩ 1 none) (by decide +kernel)) rfl (by rw [hml]; exact hl.1) rfl dX2_init_1 (Nat.le_of_ble_eq_true rfl) (Nat.le_of_ble_eq_true rfl) ?_
  refine W.eq (g2 := F0 m 4 ls []) rfl ?_
  refine lv_aload_n hx hb dX2_init_4 rfl (lv_at hl 0 rfl) ?_
  refine lv_bipush (v := nI 6) hx hb dX2_init_5 (by decide) ?_
  refine va_newq (C := "FairFolio$Pavilion") hx hb hown (hts (.classLink RX2 9 "FairFolio$Pavilion") (by decide +kernel)) (hX.2.2.2.2.2.2.2.1 "FairFolio$Pavilion" (by decide)) hK hP hD hS hA (N' := 6) (nI_pos (by decide)) (by decide +kernel) (by decide +kernel) (Nat.le_of_ble_eq_true rfl) (Nat.le_of_ble_eq_true rfl) dX2_init_7 (fun pa cA H hK9 hP hD hS => ?_)
  have hc9 : cA = eP E := nm_eq (K_last hK9) (hK.2 2 _ rfl).2
  rw [hc9] at hP hD
  clear hK9 hc9 cA
  replace hP : va_P D vwCl [(o, .inr (3, [.null, .null, .int 0])), (pa, .inl (eP E, 6, .inr (.inr (.inr (.inr (fun _ => none))))))] H := hP
  replace hD : va_D A [(o, .inr (3, [.null, .null, .int 0])), (pa, .inl (eP E, 6, .inr (.inr (.inr (.inr (fun _ => none))))))] := hD
  refine va_putF (D := D) (ci := 3) (v := .ref pa) (ty := .array (.object "FairFolio$Pavilion")) (C := RX2) (T := TX2) (N := 3) hx hb hts hinC tyX2 tyX2_ok nmX2 hown hK hP hD hS 0 rfl rfl 0 (by decide) k11 (fun _ h9 => h9) rfl hname rfl (by decide +kernel) rfl rfl (Nat.le_of_ble_eq_true rfl) dX2_init_10 (fun H locs hP hD hS => ?_)
  replace hP : va_P D vwCl [(o, .inr (3, [.ref pa, .null, .int 0])), (pa, .inl (eP E, 6, .inr (.inr (.inr (.inr (fun _ => none))))))] H := hP
  replace hD : va_D A [(o, .inr (3, [.ref pa, .null, .int 0])), (pa, .inl (eP E, 6, .inr (.inr (.inr (.inr (fun _ => none))))))] := hD
  refine lv_aload_n hx hb dX2_init_13 rfl (lv_at hl 0 rfl) ?_
  refine lv_bipush (v := nI 8) hx hb dX2_init_14 (by decide) ?_
  refine va_newq (C := "FairFolio$Visitor") hx hb hown (hts (.classLink RX2 15 "FairFolio$Visitor") (by decide +kernel)) (hX.2.2.2.2.2.2.2.1 "FairFolio$Visitor" (by decide)) hK hP hD hS hA (N' := 8) (nI_pos (by decide)) (by decide +kernel) (by decide +kernel) (Nat.le_of_ble_eq_true rfl) (Nat.le_of_ble_eq_true rfl) dX2_init_16 (fun va cA H hK9 hP hD hS => ?_)
  have hc9 : cA = eV E := nm_eq (K_last hK9) (hK.2 3 _ rfl).2
  rw [hc9] at hP hD
  clear hK9 hc9 cA
  replace hP : va_P D vwCl [(o, .inr (3, [.ref pa, .null, .int 0])), (pa, .inl (eP E, 6, .inr (.inr (.inr (.inr (fun _ => none)))))), (va, .inl (eV E, 8, .inr (.inr (.inr (.inr (fun _ => none))))))] H := hP
  replace hD : va_D A [(o, .inr (3, [.ref pa, .null, .int 0])), (pa, .inl (eP E, 6, .inr (.inr (.inr (.inr (fun _ => none)))))), (va, .inl (eV E, 8, .inr (.inr (.inr (.inr (fun _ => none))))))] := hD
  refine va_putF (D := D) (ci := 3) (v := .ref va) (ty := .array (.object "FairFolio$Visitor")) (C := RX2) (T := TX2) (N := 3) hx hb hts hinC tyX2 tyX2_ok nmX2 hown hK hP hD hS 0 rfl rfl 1 (by decide) k17 (fun _ h9 => h9) rfl hname rfl (by decide +kernel) rfl rfl (Nat.le_of_ble_eq_true rfl) dX2_init_19 (fun H locs hP hD hS => ?_)
  replace hP : va_P D vwCl [(o, .inr (3, [.ref pa, .ref va, .int 0])), (pa, .inl (eP E, 6, .inr (.inr (.inr (.inr (fun _ => none)))))), (va, .inl (eV E, 8, .inr (.inr (.inr (.inr (fun _ => none))))))] H := hP
  replace hD : va_D A [(o, .inr (3, [.ref pa, .ref va, .int 0])), (pa, .inl (eP E, 6, .inr (.inr (.inr (.inr (fun _ => none)))))), (va, .inl (eV E, 8, .inr (.inr (.inr (.inr (fun _ => none))))))] := hD
  refine lv_aload_n hx hb dX2_init_22 rfl (lv_at hl 0 rfl) ?_
  refine lv_iconst (v := nI 0) hx hb dX2_init_23 (by decide) ?_
  refine va_put (D := D) (ci := 3) (v := .int (nI 0)) (ty := .int) (C := RX2) (T := TX2) (N := 3) hx hb hts hinC tyX2 tyX2_ok nmX2 hown hK hP hD hS 0 rfl rfl 2 (by decide) k21 (fun _ h9 => h9) rfl (by decide +kernel) rfl rfl (Nat.le_of_ble_eq_true rfl) dX2_init_24 (fun H locs hP hD hS => ?_)
  replace hP : va_P D vwCl [(o, .inr (3, [.ref pa, .ref va, .int (nI 0)])), (pa, .inl (eP E, 6, .inr (.inr (.inr (.inr (fun _ => none)))))), (va, .inl (eV E, 8, .inr (.inr (.inr (.inr (fun _ => none))))))] H := hP
  replace hD : va_D A [(o, .inr (3, [.ref pa, .ref va, .int (nI 0)])), (pa, .inl (eP E, 6, .inr (.inr (.inr (.inr (fun _ => none)))))), (va, .inl (eV E, 8, .inr (.inr (.inr (.inr (fun _ => none))))))] := hD
  refine lv_iconst (v := nI 0) hx hb dX2_init_27 (by decide) ?_
  refine lv_istore_n (lv' := [(1, .int (nI 0)), (0, .ref o)]) hx hb dX2_init_28 rfl hl (by decide) rfl (fun ls hl => ?_)
  replace hP : va_P D vwCl (iH E o pa va (fun _ => none) (fun _ => none)) H := hP
  replace hD : va_D A (iH E o pa va (fun _ => none) (fun _ => none)) := hD
  rw [iP_0] at hP hD
  obtain ⟨pad, hpad⟩ : ∃ pad : Nat → Nat, pad = fun _ => 0 := ⟨_, rfl⟩
  rw [← hpad] at hP hD
  clear hpad
  obtain ⟨k, hk⟩ : ∃ k : Nat, k = 0 := ⟨_, rfl⟩
  obtain ⟨nn, hn⟩ : ∃ nn : Nat, nn = 6 := ⟨_, rfl⟩
  replace hl : lv_has ls 2 [(1, .int (nI k)), (0, .ref o)] := by rw [hk]; exact hl
  replace hP : va_P D vwCl (iP E o pa va pad k) H := by rw [hk]; exact hP
  replace hD : va_D A (iP E o pa va pad k) := by rw [hk]; exact hD
  replace hn : k + nn = 6 := by omega
  refine W.widen (k := 2 + k) (n := 14 + 6 * k) (by rw [hk]; exact Nat.le_of_ble_eq_true rfl) (by rw [hk]; exact Nat.le_of_ble_eq_true rfl) ?_
  clear hk
  induction nn generalizing k pad H locs ls with
  | zero =>
    obtain rfl : k = 6 := by omega
    refine lv_iload_n hx hb dX2_init_29 rfl (lv_at hl 0 rfl) ?_
    refine lv_bipush (v := nI 6) hx hb dX2_init_30 (by decide) ?_
    refine q_icmp_ge (tgt := 55) hx hb (by omega) (by omega) dX2_init_32 (by decide) (fun c1 => ?_) (fun c1 => absurd c1 (by omega))
    refine lv_iconst (v := nI 0) hx hb dX2_init_55 (by decide) ?_
    refine lv_istore_n (lv' := [(1, .int (nI 0)), (0, .ref o)]) hx hb dX2_init_56 rfl hl (by decide) rfl (fun ls hl => ?_)
    rw [iV_0] at hP hD
    obtain ⟨vad, hvad⟩ : ∃ vad : Nat → Nat, vad = fun _ => 0 := ⟨_, rfl⟩
    replace hP : va_P D vwCl (iV E o pa va pad vad vad vad 0) H := by rw [hvad]; exact hP
    replace hD : va_D A (iV E o pa va pad vad vad vad 0) := by rw [hvad]; exact hD
    clear hvad
    obtain ⟨lad, hlad⟩ : ∃ lad : Nat → Nat, lad = vad := ⟨_, rfl⟩
    obtain ⟨sad, hsad⟩ : ∃ sad : Nat → Nat, sad = vad := ⟨_, rfl⟩
    replace hP : va_P D vwCl (iV E o pa va pad vad lad sad 0) H := by rw [hlad, hsad]; exact hP
    replace hD : va_D A (iV E o pa va pad vad lad sad 0) := by rw [hlad, hsad]; exact hD
    clear hlad hsad
    obtain ⟨k, hk⟩ : ∃ k : Nat, k = 0 := ⟨_, rfl⟩
    obtain ⟨nn, hn⟩ : ∃ nn : Nat, nn = 8 := ⟨_, rfl⟩
    replace hl : lv_has ls 2 [(1, .int (nI k)), (0, .ref o)] := by rw [hk]; exact hl
    replace hP : va_P D vwCl (iV E o pa va pad vad lad sad k) H := by rw [hk]; exact hP
    replace hD : va_D A (iV E o pa va pad vad lad sad k) := by rw [hk]; exact hD
    replace hn : k + nn = 8 := by omega
    refine W.widen (k := 8 + 3 * k) (n := 50 + 19 * k) (by rw [hk]; exact Nat.le_of_ble_eq_true rfl) (by rw [hk]; exact Nat.le_of_ble_eq_true rfl) ?_
    clear hk
    induction nn generalizing k vad lad sad H locs ls with
    | zero =>
      obtain rfl : k = 8 := by omega
      refine lv_iload_n hx hb dX2_init_57 rfl (lv_at hl 0 rfl) ?_
      refine lv_bipush (v := nI 8) hx hb dX2_init_58 (by decide) ?_
      refine q_icmp_ge (tgt := 82) hx hb (by omega) (by omega) dX2_init_60 (by decide) (fun c2 => ?_) (fun c2 => absurd c2 (by omega))
      have hP8 := hP.sub (ws' := cW (iE E o ((pa, va), pad, vad, lad, sad)) iX) iIs (sub_of_map (iV_all E o pa va pad vad lad sad))
      have hD8 := hD.sub (ws' := cW (iE E o ((pa, va), pad, vad, lad, sad)) iX) iIs (by decide) (iV_all E o pa va pad vad lad sad)
      clear hP hD
      have hP := hP8
      have hD := hD8
      exact W.vret hx hb hr (fun t ht hW => ⟨⟨((pa, va), pad, vad, lad, sad), rfl, trivial, by rw [ht]; exact hP, va_K.moved hW.alike hK, hD⟩, hS.F ht⟩) hS.2.2 dX2_init_82
    | succ nn ih =>
      refine lv_iload_n hx hb dX2_init_57 rfl (lv_at hl 0 rfl) ?_
      refine lv_bipush (v := nI 8) hx hb dX2_init_58 (by decide) ?_
      refine q_icmp_ge (tgt := 82) hx hb (by omega) (by omega) dX2_init_60 (by decide) (fun c2 => absurd c2 (by omega)) (fun c2 => ?_)
      refine lv_aload_n hx hb dX2_init_63 rfl (lv_at hl 1 rfl) ?_
      refine va_get (D := D) (ci := 3) (C := RX2) (T := TX2) (N := 3) hx hb hts hinC hown hK hP 0 rfl rfl 1 (by decide) k17 (fun _ h9 => h9) rfl dX2_init_64 ?_
      refine lv_iload_n hx hb dX2_init_67 rfl (lv_at hl 0 rfl) ?_
      refine va_new (ci := 2) (fs := [.null, .null, .int 0, .int 0, .int 0, .int 0, .int 0, .int 0, .null, .int 0]) (C := RX1) (T := TX1) (N := 10) hx hb hts (by decide +kernel) tyX1 tyX1_ok hown (hts (.classLink RX2 15 RX1) (by decide +kernel)) (hts (.instantiable RX1 10) (by decide +kernel)) (hts (.initialized RX1) (by decide +kernel)) hK hP hD hS hA rfl (fun j hj => by rcases (show j = 0 ∨ j = 1 ∨ j = 2 ∨ j = 3 ∨ j = 4 ∨ j = 5 ∨ j = 6 ∨ j = 7 ∨ j = 8 ∨ j = 9 by omega) with rfl | rfl | rfl | rfl | rfl | rfl | rfl | rfl | rfl | rfl <;> rfl) (by show 8 + 3 * k + 1 ≤ 32; omega) (by show 50 + 19 * k + 10 ≤ 202; omega) dX2_init_68 (fun q H hP hD hS => ?_)
      refine lv_dup hx hb dX2_init_71 rfl ?_
      refine h_callN (As := []) (rest := [.ref q, .int (nI k), .ref va]) ⟨hx, hb, hml, hown, hts⟩ (c_X1_init l D E tl (iV E o pa va pad vad lad sad k) q) ⟨va_cnB 0 hts gX2_init_X1_init_n28 rfl rfl rfl (hX.1 (.methodLinkNest RX2 28 yX1_init "FairFolio") (by decide +kernel)) (hts (.initialized RX1) (by decide +kernel)) (by decide +kernel) ⟨Nat.le_of_ble_eq_true rfl, Nat.le_of_ble_eq_true rfl⟩, rfl, hts (.instanceMethod yX1_init) (by decide +kernel)⟩ hK hX hP hD hS hA rfl hl.1 rfl (Nat.le_of_ble_eq_true rfl) dX2_init_72 ⟨by show 8 + 3 * k + 1 + 2 ≤ 32; omega, by show 50 + 19 * k + 10 + 9 ≤ 202; omega⟩ (fun u_1 H locs hw hP hD hS => ?_)
      obtain ⟨a, b⟩ := u_1
      replace hP : va_P D vwCl (iV E o pa va pad vad lad sad k ++ [(q, .inr (2, iVv a b)), (a, lC (nI 0) (eDf E) (nI 0)), (b, .inl (eI E, 6, .inl (fun _ => 0)))]) H := hP
      replace hD : va_D A (iV E o pa va pad vad lad sad k ++ [(q, .inr (2, iVv a b)), (a, lC (nI 0) (eDf E) (nI 0)), (b, .inl (eI E, 6, .inl (fun _ => 0)))]) := hD
      obtain ⟨pos, hpos⟩ : ∃ pos : Nat, (iV E o pa va pad vad lad sad k ++ [(q, .inr (2, iVv a b)), (a, lC (nI 0) (eDf E) (nI 0)), (b, .inl (eI E, 6, .inl (fun _ => 0)))])[pos]? = some (q, .inr (2, iVv a b)) := ⟨_, app_at 0⟩
      refine vb_astq (E := "FairFolio$Visitor") (C := "FairFolio$Visitor") hx hb hK hP hD hS 2 3 rfl rfl (va_recv hK hP (ci := 2) rfl hpos) (fun comp c9 h1 h2 => vb_asgS comp c9 h1 h2) (vp_in_nI (by omega) (by decide)) dX2_init_75 (fun H locs hP hD hS => ?_)
      clear hpos pos
      rw [nI_clamp (by omega), iV_s] at hP hD
      refine q_inc (k := 0) (lv' := [(1, .int (nI (k + 1))), (0, .ref o)]) hx hb dX2_init_76 hl rfl (by decide) rfl (fun ls hl => ?_)
      refine lv_goto (tgt := 57) hx hb dX2_init_79 (by decide) ?_
      refine W.widen (k := 8 + 3 * (k + 1)) (n := 50 + 19 * (k + 1)) (by omega) (by omega) ?_
      exact ih (k := k + 1) (vad := va_up vad k q) (lad := va_up lad k a) (sad := va_up sad k b) (H := H) (locs := locs) (ls := ls) (hP := hP) (hD := hD) (hS := hS) (hl := hl) (hn := by omega)
  | succ nn ih =>
    refine lv_iload_n hx hb dX2_init_29 rfl (lv_at hl 0 rfl) ?_
    refine lv_bipush (v := nI 6) hx hb dX2_init_30 (by decide) ?_
    refine q_icmp_ge (tgt := 55) hx hb (by omega) (by omega) dX2_init_32 (by decide) (fun c1 => absurd c1 (by omega)) (fun c1 => ?_)
    refine lv_aload_n hx hb dX2_init_35 rfl (lv_at hl 1 rfl) ?_
    refine va_get (D := D) (ci := 3) (C := RX2) (T := TX2) (N := 3) hx hb hts hinC hown hK hP 0 rfl rfl 0 (by decide) k11 (fun _ h9 => h9) rfl dX2_init_36 ?_
    refine lv_iload_n hx hb dX2_init_39 rfl (lv_at hl 0 rfl) ?_
    refine va_new (ci := 1) (fs := [.int 0, .int 0, .int 0, .int 0, .int 0, .int 0]) (C := RX0) (T := TX0) (N := 6) hx hb hts (by decide +kernel) tyX0 tyX0_ok hown (hts (.classLink RX2 9 RX0) (by decide +kernel)) (hts (.instantiable RX0 6) (by decide +kernel)) (hts (.initialized RX0) (by decide +kernel)) hK hP hD hS hA rfl (fun j hj => by rcases (show j = 0 ∨ j = 1 ∨ j = 2 ∨ j = 3 ∨ j = 4 ∨ j = 5 by omega) with rfl | rfl | rfl | rfl | rfl | rfl <;> rfl) (by show 2 + k + 1 ≤ 32; omega) (by show 14 + 6 * k + 6 ≤ 202; omega) dX2_init_40 (fun q H hP hD hS => ?_)
    refine lv_dup hx hb dX2_init_43 rfl ?_
    refine lv_iload_n hx hb dX2_init_44 rfl (lv_at hl 0 rfl) ?_
    refine h_callN (As := [.int (nI k)]) (rest := [.ref q, .int (nI k), .ref pa]) ⟨hx, hb, hml, hown, hts⟩ (c_X0_init l D E tl (iP E o pa va pad k) q k) ⟨va_cnB 1 hts gX2_init_X0_init_n25 rfl rfl rfl (hX.1 (.methodLinkNest RX2 25 yX0_init "FairFolio") (by decide +kernel)) (hts (.initialized RX0) (by decide +kernel)) (by decide +kernel) ⟨Nat.le_of_ble_eq_true rfl, Nat.le_of_ble_eq_true rfl⟩, rfl, hts (.instanceMethod yX0_init) (by decide +kernel)⟩ hK hX hP hD hS hA rfl hl.1 rfl (Nat.le_of_ble_eq_true rfl) dX2_init_45 ⟨by show 2 + k + 1 + 0 ≤ 32; omega, by show 14 + 6 * k + 6 + 0 ≤ 202; omega⟩ (fun u_2 H locs hw hP hD hS => ?_)
    replace hP : va_P D vwCl (iP E o pa va pad k ++ [(q, .inr (1, iPv k))]) H := hP
    replace hD : va_D A (iP E o pa va pad k ++ [(q, .inr (1, iPv k))]) := hD
    obtain ⟨pos, hpos⟩ : ∃ pos : Nat, (iP E o pa va pad k ++ [(q, .inr (1, iPv k))])[pos]? = some (q, .inr (1, iPv k)) := ⟨_, app_at 0⟩
    refine vb_astq (E := "FairFolio$Pavilion") (C := "FairFolio$Pavilion") hx hb hK hP hD hS 1 2 rfl rfl (va_recv hK hP (ci := 1) rfl hpos) (fun comp c9 h1 h2 => vb_asgS comp c9 h1 h2) (vp_in_nI (by omega) (by decide)) dX2_init_48 (fun H locs hP hD hS => ?_)
    clear hpos pos
    rw [nI_clamp (by omega), iP_s] at hP hD
    refine q_inc (k := 0) (lv' := [(1, .int (nI (k + 1))), (0, .ref o)]) hx hb dX2_init_49 hl rfl (by decide) rfl (fun ls hl => ?_)
    refine lv_goto (tgt := 29) hx hb dX2_init_52 (by decide) ?_
    refine W.widen (k := 2 + (k + 1)) (n := 14 + 6 * (k + 1)) (by omega) (by omega) ?_
    exact ih (k := k + 1) (pad := va_up pad k q) (H := H) (locs := locs) (ls := ls) (hP := hP) (hD := hD) (hS := hS) (hl := hl) (hn := by omega)
