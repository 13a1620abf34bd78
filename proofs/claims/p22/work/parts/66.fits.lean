/-! fits: the whole state looked through, by pavilions and by visitors -/
abbrev RF : Room := { frames := 9, cells := 0, slots := 0, locals := 200 }

set_option maxHeartbeats 4000000 in
set_option maxRecDepth 100000 in
theorem fits_in {p : Program} {l : Launch} {e : Env} {s : State} {m : MethodId} {args : Array Value} {below : List Frame} {meth : Method} {c : Code} {Q : State → Prop} {D : va_G} {A : Nat → Prop} {E : cE} {x : T2} {pd : Int32} (hx : p.tables.exec = Jvm.exec) (hb : c.code = cL_fits) (hml : c.maxLocals = 10) (hts : ∀ w ∈ wsL_fits, w.before args s = true) (hown : s.vm.findClass RL = some m.cls) (hA : ∀ q : Nat, s.heap.size ≤ q → A q) (hK : va_K D vwCl (cT E []) s) (hX : cX (eDf E) A s) (hN : jNc s) {j : Nat} (hj : j < 6) (kk : ∀ (cb : Int32) (ls : Array Slot) (H : Heap) (locs : List Loc), cb = cdA E x j + cdV E j 8 → va_P D vwCl ([] ++ cW E x) H → va_D A ([] ++ cW E x) → va_S A s.heap H locs → lv_has ls 10 [(0, .ref (eO E)), (1, .int pd), (2, .int (nI 1)), (3, .int cb), (4, .int (nI j)), (5, .int (nI (cCnt x (nI 1) j 8))), (6, .int (nI (cCnt x (nI 2) j 8))), (7, .int (plc x j 8))] → W p l e RF s m args below meth c H locs 0 0 Q (F0 m 154 ls [])) : ∀ (d k a b : Nat) (ca pv : Int32) (ls : Array Slot) (H : Heap) (locs : List Loc), k + d = 8 → a = cCnt x (nI 1) j k → b = cCnt x (nI 2) j k → pv = plc x j k → ca = cdA E x j + cdV E j k → va_P D vwCl ([] ++ cW E x) H → va_D A ([] ++ cW E x) → va_S A s.heap H locs → lv_has ls 10 [(0, .ref (eO E)), (1, .int pd), (2, .int (nI 1)), (3, .int ca), (4, .int (nI j)), (5, .int (nI a)), (6, .int (nI b)), (7, .int pv), (8, .int (nI k))] → W p l e RF s m args below meth c H locs 0 0 Q (F0 m 30 ls []) := by
  intro d
  induction d with
  | zero =>
    intro k a b ca pv ls H locs hk h5 h6 h7 h3 hP hD hS hl
    obtain rfl : k = 8 := by omega
    subst h5 h6 h7
    refine lv_iload hx hb dL_fits_30 (lv_at hl 8 rfl) ?_
    refine lv_bipush (v := nI 8) hx hb dL_fits_32 (by decide) ?_
    refine lv_icmp_ge (tgt := 154) hx hb dL_fits_34 (by decide) (fun _ => ?_) (fun cz => absurd (nI_le (by decide) (by decide)) cz)
    exact kk ca _ _ _ h3 hP hD hS (lv_sub hl [0, 1, 2, 3, 4, 5, 6, 7] rfl)
  | succ d ih =>
    intro k a b ca pv ls H locs hk h5 h6 h7 h3 hP hD hS hl
    have hk8 : k < 8 := by omega
    refine lv_iload hx hb dL_fits_30 (lv_at hl 8 rfl) ?_
    refine lv_bipush (v := nI 8) hx hb dL_fits_32 (by decide) ?_
    refine lv_icmp_ge (tgt := 154) hx hb dL_fits_34 (by decide) (fun cz => absurd cz (nI_ge hk8 (by decide))) (fun _ => ?_)
    refine lv_aload_n hx hb dL_fits_37 rfl (lv_at hl 0 rfl) ?_
    refine lv_iload hx hb dL_fits_38 (lv_at hl 8 rfl) ?_
    refine x_get (pre := []) (As := [.ref (eO E), .int (nI k)]) (rest := []) ⟨hx, hb, hml, hown, hts⟩ (kg_where l D E x rfl hk8) (vx_cwSW 2 hts gL_fits_L_where rfl rfl rfl (by decide +kernel) ⟨Nat.le_of_ble_eq_true rfl, Nat.le_of_ble_eq_true rfl⟩) hK hX hN hP hD hS hA rfl hl.1 rfl (Nat.le_of_ble_eq_true rfl) dL_fits_40 ⟨Nat.le_of_ble_eq_true rfl, Nat.le_of_ble_eq_true rfl⟩ (fun H locs hP hD hS => ?_)
    refine lv_iload hx hb dL_fits_43 (lv_at hl 4 rfl) ?_
    by_cases c7 : x 7 k = nI j
    · by_cases c1 : x 6 k = nI 1
      · refine lv_icmp_ne (tgt := 52) hx hb dL_fits_45 (by decide) (fun cz => absurd c7 cz) (fun _ => ?_)
        refine lv_iconst (v := nI 1) hx hb dL_fits_48 (by decide) ?_
        refine lv_goto (tgt := 53) hx hb dL_fits_49 (by decide) ?_
        refine lv_istore (lv' := [(9, .int (nI 1)), (0, .ref (eO E)), (1, .int pd), (2, .int (nI 1)), (3, .int ca), (4, .int (nI j)), (5, .int (nI a)), (6, .int (nI b)), (7, .int pv), (8, .int (nI k))]) hx hb dL_fits_53 hl (by decide) rfl (fun ls hl => ?_)
        refine lv_iload hx hb dL_fits_55 (lv_at hl 6 rfl) ?_
        refine lv_iload hx hb dL_fits_57 (lv_at hl 0 rfl) ?_
        refine lv_if_eq (tgt := 76) hx hb dL_fits_59 (by decide) (fun cz => absurd cz (by decide)) (fun _ => ?_)
        refine lv_aload_n hx hb dL_fits_62 rfl (lv_at hl 1 rfl) ?_
        refine lv_iload hx hb dL_fits_63 (lv_at hl 9 rfl) ?_
        refine x_get (pre := []) (As := [.ref (eO E), .int (nI k)]) (rest := [.int (nI a)]) ⟨hx, hb, hml, hown, hts⟩ (kg_state l D E x rfl hk8) (vx_cwSW 2 hts gL_fits_L_state rfl rfl rfl (by decide +kernel) ⟨Nat.le_of_ble_eq_true rfl, Nat.le_of_ble_eq_true rfl⟩) hK hX hN hP hD hS hA rfl hl.1 rfl (Nat.le_of_ble_eq_true rfl) dL_fits_65 ⟨Nat.le_of_ble_eq_true rfl, Nat.le_of_ble_eq_true rfl⟩ (fun H locs hP hD hS => ?_)
        refine lv_iconst (v := nI 1) hx hb dL_fits_68 (by decide) ?_
        refine lv_icmp_ne (tgt := 76) hx hb dL_fits_69 (by decide) (fun cz => absurd c1 cz) (fun _ => ?_)
        refine lv_iconst (v := nI 1) hx hb dL_fits_72 (by decide) ?_
        refine lv_goto (tgt := 77) hx hb dL_fits_73 (by decide) ?_
        refine q_add hx hb dL_fits_77 ?_
        refine lv_istore (lv' := [(5, .int (nI (a + 1))), (9, .int (nI 1)), (0, .ref (eO E)), (1, .int pd), (2, .int (nI 1)), (3, .int ca), (4, .int (nI j)), (6, .int (nI b)), (7, .int pv), (8, .int (nI k))]) hx hb dL_fits_78 hl (by decide) rfl (fun ls hl => ?_)
        refine lv_iload hx hb dL_fits_80 (lv_at hl 7 rfl) ?_
        refine lv_iload hx hb dL_fits_82 (lv_at hl 1 rfl) ?_
        refine lv_if_eq (tgt := 101) hx hb dL_fits_84 (by decide) (fun cz => absurd cz (by decide)) (fun _ => ?_)
        refine lv_aload_n hx hb dL_fits_87 rfl (lv_at hl 2 rfl) ?_
        refine lv_iload hx hb dL_fits_88 (lv_at hl 9 rfl) ?_
        refine x_get (pre := []) (As := [.ref (eO E), .int (nI k)]) (rest := [.int (nI b)]) ⟨hx, hb, hml, hown, hts⟩ (kg_state l D E x rfl hk8) (vx_cwSW 2 hts gL_fits_L_state rfl rfl rfl (by decide +kernel) ⟨Nat.le_of_ble_eq_true rfl, Nat.le_of_ble_eq_true rfl⟩) hK hX hN hP hD hS hA rfl hl.1 rfl (Nat.le_of_ble_eq_true rfl) dL_fits_90 ⟨Nat.le_of_ble_eq_true rfl, Nat.le_of_ble_eq_true rfl⟩ (fun H locs hP hD hS => ?_)
        refine lv_iconst (v := nI 2) hx hb dL_fits_93 (by decide) ?_
        refine lv_icmp_ne (tgt := 101) hx hb dL_fits_94 (by decide) (fun _ => ?_) (fun cz => absurd (c1.symm.trans cz) nI_12)
        refine lv_iconst (v := nI 0) hx hb dL_fits_101 (by decide) ?_
        refine q_add hx hb dL_fits_102 ?_
        refine lv_istore (lv' := [(6, .int (nI (b + 0))), (5, .int (nI (a + 1))), (9, .int (nI 1)), (0, .ref (eO E)), (1, .int pd), (2, .int (nI 1)), (3, .int ca), (4, .int (nI j)), (7, .int pv), (8, .int (nI k))]) hx hb dL_fits_103 hl (by decide) rfl (fun ls hl => ?_)
        refine lv_iload hx hb dL_fits_105 (lv_at hl 8 rfl) ?_
        refine lv_iload hx hb dL_fits_107 (lv_at hl 2 rfl) ?_
        refine lv_if_eq (tgt := 133) hx hb dL_fits_109 (by decide) (fun cz => absurd cz (by decide)) (fun _ => ?_)
        refine lv_aload_n hx hb dL_fits_112 rfl (lv_at hl 3 rfl) ?_
        refine lv_iload hx hb dL_fits_113 (lv_at hl 9 rfl) ?_
        refine x_get (pre := []) (As := [.ref (eO E), .int (nI k)]) (rest := [.int pv]) ⟨hx, hb, hml, hown, hts⟩ (kg_state l D E x rfl hk8) (vx_cwSW 2 hts gL_fits_L_state rfl rfl rfl (by decide +kernel) ⟨Nat.le_of_ble_eq_true rfl, Nat.le_of_ble_eq_true rfl⟩) hK hX hN hP hD hS hA rfl hl.1 rfl (Nat.le_of_ble_eq_true rfl) dL_fits_115 ⟨Nat.le_of_ble_eq_true rfl, Nat.le_of_ble_eq_true rfl⟩ (fun H locs hP hD hS => ?_)
        refine lv_iconst (v := nI 1) hx hb dL_fits_118 (by decide) ?_
        refine lv_icmp_ne (tgt := 133) hx hb dL_fits_119 (by decide) (fun cz => absurd c1 cz) (fun _ => ?_)
        refine lv_iconst (v := nI 1) hx hb dL_fits_122 (by decide) ?_
        refine lv_aload_n hx hb dL_fits_123 rfl (lv_at hl 3 rfl) ?_
        refine lv_iload hx hb dL_fits_124 (lv_at hl 9 rfl) ?_
        refine x_get (pre := []) (As := [.ref (eO E), .int (nI k)]) (rest := [.int (nI 1), .int pv]) ⟨hx, hb, hml, hown, hts⟩ (kg_place l D E x rfl hk8) (vx_cwSW 2 hts gL_fits_L_place rfl rfl rfl (by decide +kernel) ⟨Nat.le_of_ble_eq_true rfl, Nat.le_of_ble_eq_true rfl⟩) hK hX hN hP hD hS hA rfl hl.1 rfl (Nat.le_of_ble_eq_true rfl) dL_fits_126 ⟨Nat.le_of_ble_eq_true rfl, Nat.le_of_ble_eq_true rfl⟩ (fun H locs hP hD hS => ?_)
        refine lv_ishl hx hb dL_fits_129 ?_
        refine lv_goto (tgt := 134) hx hb dL_fits_130 (by decide) ?_
        refine lv_ior hx hb dL_fits_134 ?_
        refine lv_istore (lv' := [(7, .int (pv ||| ((nI 1) <<< ((x 8 k) &&& 31)))), (6, .int (nI (b + 0))), (5, .int (nI (a + 1))), (9, .int (nI 1)), (0, .ref (eO E)), (1, .int pd), (2, .int (nI 1)), (3, .int ca), (4, .int (nI j)), (8, .int (nI k))]) hx hb dL_fits_135 hl (by decide) rfl (fun ls hl => ?_)
        refine lv_iload_n hx hb dL_fits_137 rfl (lv_at hl 7 rfl) ?_
        refine lv_aload_n hx hb dL_fits_138 rfl (lv_at hl 4 rfl) ?_
        refine lv_iload hx hb dL_fits_139 (lv_at hl 9 rfl) ?_
        refine lv_iload hx hb dL_fits_141 (lv_at hl 8 rfl) ?_
        refine x_get (pre := []) (As := [.ref (eO E), .int (nI k), .int (nI j)]) (rest := [.int ca]) ⟨hx, hb, hml, hown, hts⟩ (kg_sent l D E x rfl hk8 hj) (vx_cwSW 3 hts gL_fits_L_sent rfl rfl rfl (by decide +kernel) ⟨Nat.le_of_ble_eq_true rfl, Nat.le_of_ble_eq_true rfl⟩) hK hX hN hP hD hS hA rfl hl.1 rfl (Nat.le_of_ble_eq_true rfl) dL_fits_143 ⟨Nat.le_of_ble_eq_true rfl, Nat.le_of_ble_eq_true rfl⟩ (fun H locs hP hD hS => ?_)
        refine lv_iadd hx hb dL_fits_146 ?_
        refine lv_istore_n (lv' := [(3, .int (ca + (eS E k j))), (7, .int (pv ||| ((nI 1) <<< ((x 8 k) &&& 31)))), (6, .int (nI (b + 0))), (5, .int (nI (a + 1))), (9, .int (nI 1)), (0, .ref (eO E)), (1, .int pd), (2, .int (nI 1)), (4, .int (nI j)), (8, .int (nI k))]) hx hb dL_fits_147 rfl hl (by decide) rfl (fun ls hl => ?_)
        refine q_inc (k := 9) (lv' := [(8, .int (nI (k + 1))), (3, .int (ca + (eS E k j))), (7, .int (pv ||| ((nI 1) <<< ((x 8 k) &&& 31)))), (6, .int (nI (b + 0))), (5, .int (nI (a + 1))), (9, .int (nI 1)), (0, .ref (eO E)), (1, .int pd), (2, .int (nI 1)), (4, .int (nI j))]) hx hb dL_fits_148 hl rfl (by decide) rfl (fun ls hl => ?_)
        refine lv_goto (tgt := 30) hx hb dL_fits_151 (by decide) ?_
        exact ih (k + 1) _ _ _ _ _ _ _ (by omega) (by rw [h5, cCnt, cAt_1 ⟨c1, c7⟩]) (by rw [h6, cCnt, cAt_0 (fun q => nI_12 (c1.symm.trans q.1))]) (by rw [h7, plc, if_pos ⟨c7, c1⟩]) (by rw [h3, cdV, Int32.add_assoc]) hP hD hS (lv_sub hl [6, 7, 8, 1, 9, 4, 3, 2, 0] rfl)
      · by_cases c2 : x 6 k = nI 2
        · refine lv_icmp_ne (tgt := 52) hx hb dL_fits_45 (by decide) (fun cz => absurd c7 cz) (fun _ => ?_)
          refine lv_iconst (v := nI 1) hx hb dL_fits_48 (by decide) ?_
          refine lv_goto (tgt := 53) hx hb dL_fits_49 (by decide) ?_
          refine lv_istore (lv' := [(9, .int (nI 1)), (0, .ref (eO E)), (1, .int pd), (2, .int (nI 1)), (3, .int ca), (4, .int (nI j)), (5, .int (nI a)), (6, .int (nI b)), (7, .int pv), (8, .int (nI k))]) hx hb dL_fits_53 hl (by decide) rfl (fun ls hl => ?_)
          refine lv_iload hx hb dL_fits_55 (lv_at hl 6 rfl) ?_
          refine lv_iload hx hb dL_fits_57 (lv_at hl 0 rfl) ?_
          refine lv_if_eq (tgt := 76) hx hb dL_fits_59 (by decide) (fun cz => absurd cz (by decide)) (fun _ => ?_)
          refine lv_aload_n hx hb dL_fits_62 rfl (lv_at hl 1 rfl) ?_
          refine lv_iload hx hb dL_fits_63 (lv_at hl 9 rfl) ?_
          refine x_get (pre := []) (As := [.ref (eO E), .int (nI k)]) (rest := [.int (nI a)]) ⟨hx, hb, hml, hown, hts⟩ (kg_state l D E x rfl hk8) (vx_cwSW 2 hts gL_fits_L_state rfl rfl rfl (by decide +kernel) ⟨Nat.le_of_ble_eq_true rfl, Nat.le_of_ble_eq_true rfl⟩) hK hX hN hP hD hS hA rfl hl.1 rfl (Nat.le_of_ble_eq_true rfl) dL_fits_65 ⟨Nat.le_of_ble_eq_true rfl, Nat.le_of_ble_eq_true rfl⟩ (fun H locs hP hD hS => ?_)
          refine lv_iconst (v := nI 1) hx hb dL_fits_68 (by decide) ?_
          refine lv_icmp_ne (tgt := 76) hx hb dL_fits_69 (by decide) (fun _ => ?_) (fun cz => absurd cz c1)
          refine lv_iconst (v := nI 0) hx hb dL_fits_76 (by decide) ?_
          refine q_add hx hb dL_fits_77 ?_
          refine lv_istore (lv' := [(5, .int (nI (a + 0))), (9, .int (nI 1)), (0, .ref (eO E)), (1, .int pd), (2, .int (nI 1)), (3, .int ca), (4, .int (nI j)), (6, .int (nI b)), (7, .int pv), (8, .int (nI k))]) hx hb dL_fits_78 hl (by decide) rfl (fun ls hl => ?_)
          refine lv_iload hx hb dL_fits_80 (lv_at hl 7 rfl) ?_
          refine lv_iload hx hb dL_fits_82 (lv_at hl 1 rfl) ?_
          refine lv_if_eq (tgt := 101) hx hb dL_fits_84 (by decide) (fun cz => absurd cz (by decide)) (fun _ => ?_)
          refine lv_aload_n hx hb dL_fits_87 rfl (lv_at hl 2 rfl) ?_
          refine lv_iload hx hb dL_fits_88 (lv_at hl 9 rfl) ?_
          refine x_get (pre := []) (As := [.ref (eO E), .int (nI k)]) (rest := [.int (nI b)]) ⟨hx, hb, hml, hown, hts⟩ (kg_state l D E x rfl hk8) (vx_cwSW 2 hts gL_fits_L_state rfl rfl rfl (by decide +kernel) ⟨Nat.le_of_ble_eq_true rfl, Nat.le_of_ble_eq_true rfl⟩) hK hX hN hP hD hS hA rfl hl.1 rfl (Nat.le_of_ble_eq_true rfl) dL_fits_90 ⟨Nat.le_of_ble_eq_true rfl, Nat.le_of_ble_eq_true rfl⟩ (fun H locs hP hD hS => ?_)
          refine lv_iconst (v := nI 2) hx hb dL_fits_93 (by decide) ?_
          refine lv_icmp_ne (tgt := 101) hx hb dL_fits_94 (by decide) (fun cz => absurd c2 cz) (fun _ => ?_)
          refine lv_iconst (v := nI 1) hx hb dL_fits_97 (by decide) ?_
          refine lv_goto (tgt := 102) hx hb dL_fits_98 (by decide) ?_
          refine q_add hx hb dL_fits_102 ?_
          refine lv_istore (lv' := [(6, .int (nI (b + 1))), (5, .int (nI (a + 0))), (9, .int (nI 1)), (0, .ref (eO E)), (1, .int pd), (2, .int (nI 1)), (3, .int ca), (4, .int (nI j)), (7, .int pv), (8, .int (nI k))]) hx hb dL_fits_103 hl (by decide) rfl (fun ls hl => ?_)
          refine lv_iload hx hb dL_fits_105 (lv_at hl 8 rfl) ?_
          refine lv_iload hx hb dL_fits_107 (lv_at hl 2 rfl) ?_
          refine lv_if_eq (tgt := 133) hx hb dL_fits_109 (by decide) (fun cz => absurd cz (by decide)) (fun _ => ?_)
          refine lv_aload_n hx hb dL_fits_112 rfl (lv_at hl 3 rfl) ?_
          refine lv_iload hx hb dL_fits_113 (lv_at hl 9 rfl) ?_
          refine x_get (pre := []) (As := [.ref (eO E), .int (nI k)]) (rest := [.int pv]) ⟨hx, hb, hml, hown, hts⟩ (kg_state l D E x rfl hk8) (vx_cwSW 2 hts gL_fits_L_state rfl rfl rfl (by decide +kernel) ⟨Nat.le_of_ble_eq_true rfl, Nat.le_of_ble_eq_true rfl⟩) hK hX hN hP hD hS hA rfl hl.1 rfl (Nat.le_of_ble_eq_true rfl) dL_fits_115 ⟨Nat.le_of_ble_eq_true rfl, Nat.le_of_ble_eq_true rfl⟩ (fun H locs hP hD hS => ?_)
          refine lv_iconst (v := nI 1) hx hb dL_fits_118 (by decide) ?_
          refine lv_icmp_ne (tgt := 133) hx hb dL_fits_119 (by decide) (fun _ => ?_) (fun cz => absurd cz c1)
          refine lv_iconst (v := nI 0) hx hb dL_fits_133 (by decide) ?_
          refine lv_ior hx hb dL_fits_134 ?_
          refine lv_istore (lv' := [(7, .int (pv ||| (nI 0))), (6, .int (nI (b + 1))), (5, .int (nI (a + 0))), (9, .int (nI 1)), (0, .ref (eO E)), (1, .int pd), (2, .int (nI 1)), (3, .int ca), (4, .int (nI j)), (8, .int (nI k))]) hx hb dL_fits_135 hl (by decide) rfl (fun ls hl => ?_)
          refine lv_iload_n hx hb dL_fits_137 rfl (lv_at hl 7 rfl) ?_
          refine lv_aload_n hx hb dL_fits_138 rfl (lv_at hl 4 rfl) ?_
          refine lv_iload hx hb dL_fits_139 (lv_at hl 9 rfl) ?_
          refine lv_iload hx hb dL_fits_141 (lv_at hl 8 rfl) ?_
          refine x_get (pre := []) (As := [.ref (eO E), .int (nI k), .int (nI j)]) (rest := [.int ca]) ⟨hx, hb, hml, hown, hts⟩ (kg_sent l D E x rfl hk8 hj) (vx_cwSW 3 hts gL_fits_L_sent rfl rfl rfl (by decide +kernel) ⟨Nat.le_of_ble_eq_true rfl, Nat.le_of_ble_eq_true rfl⟩) hK hX hN hP hD hS hA rfl hl.1 rfl (Nat.le_of_ble_eq_true rfl) dL_fits_143 ⟨Nat.le_of_ble_eq_true rfl, Nat.le_of_ble_eq_true rfl⟩ (fun H locs hP hD hS => ?_)
          refine lv_iadd hx hb dL_fits_146 ?_
          refine lv_istore_n (lv' := [(3, .int (ca + (eS E k j))), (7, .int (pv ||| (nI 0))), (6, .int (nI (b + 1))), (5, .int (nI (a + 0))), (9, .int (nI 1)), (0, .ref (eO E)), (1, .int pd), (2, .int (nI 1)), (4, .int (nI j)), (8, .int (nI k))]) hx hb dL_fits_147 rfl hl (by decide) rfl (fun ls hl => ?_)
          refine q_inc (k := 9) (lv' := [(8, .int (nI (k + 1))), (3, .int (ca + (eS E k j))), (7, .int (pv ||| (nI 0))), (6, .int (nI (b + 1))), (5, .int (nI (a + 0))), (9, .int (nI 1)), (0, .ref (eO E)), (1, .int pd), (2, .int (nI 1)), (4, .int (nI j))]) hx hb dL_fits_148 hl rfl (by decide) rfl (fun ls hl => ?_)
          refine lv_goto (tgt := 30) hx hb dL_fits_151 (by decide) ?_
          exact ih (k + 1) _ _ _ _ _ _ _ (by omega) (by rw [h5, cCnt, cAt_0 (fun q => c1 q.1)]) (by rw [h6, cCnt, cAt_1 ⟨c2, c7⟩]) (by rw [h7, plc, if_neg (fun q => c1 q.2)]) (by rw [h3, cdV, Int32.add_assoc]) hP hD hS (lv_sub hl [6, 7, 8, 1, 9, 4, 3, 2, 0] rfl)
        · refine lv_icmp_ne (tgt := 52) hx hb dL_fits_45 (by decide) (fun cz => absurd c7 cz) (fun _ => ?_)
          refine lv_iconst (v := nI 1) hx hb dL_fits_48 (by decide) ?_
          refine lv_goto (tgt := 53) hx hb dL_fits_49 (by decide) ?_
          refine lv_istore (lv' := [(9, .int (nI 1)), (0, .ref (eO E)), (1, .int pd), (2, .int (nI 1)), (3, .int ca), (4, .int (nI j)), (5, .int (nI a)), (6, .int (nI b)), (7, .int pv), (8, .int (nI k))]) hx hb dL_fits_53 hl (by decide) rfl (fun ls hl => ?_)
          refine lv_iload hx hb dL_fits_55 (lv_at hl 6 rfl) ?_
          refine lv_iload hx hb dL_fits_57 (lv_at hl 0 rfl) ?_
          refine lv_if_eq (tgt := 76) hx hb dL_fits_59 (by decide) (fun cz => absurd cz (by decide)) (fun _ => ?_)
          refine lv_aload_n hx hb dL_fits_62 rfl (lv_at hl 1 rfl) ?_
          refine lv_iload hx hb dL_fits_63 (lv_at hl 9 rfl) ?_
          refine x_get (pre := []) (As := [.ref (eO E), .int (nI k)]) (rest := [.int (nI a)]) ⟨hx, hb, hml, hown, hts⟩ (kg_state l D E x rfl hk8) (vx_cwSW 2 hts gL_fits_L_state rfl rfl rfl (by decide +kernel) ⟨Nat.le_of_ble_eq_true rfl, Nat.le_of_ble_eq_true rfl⟩) hK hX hN hP hD hS hA rfl hl.1 rfl (Nat.le_of_ble_eq_true rfl) dL_fits_65 ⟨Nat.le_of_ble_eq_true rfl, Nat.le_of_ble_eq_true rfl⟩ (fun H locs hP hD hS => ?_)
          refine lv_iconst (v := nI 1) hx hb dL_fits_68 (by decide) ?_
          refine lv_icmp_ne (tgt := 76) hx hb dL_fits_69 (by decide) (fun _ => ?_) (fun cz => absurd cz c1)
          refine lv_iconst (v := nI 0) hx hb dL_fits_76 (by decide) ?_
          refine q_add hx hb dL_fits_77 ?_
          refine lv_istore (lv' := [(5, .int (nI (a + 0))), (9, .int (nI 1)), (0, .ref (eO E)), (1, .int pd), (2, .int (nI 1)), (3, .int ca), (4, .int (nI j)), (6, .int (nI b)), (7, .int pv), (8, .int (nI k))]) hx hb dL_fits_78 hl (by decide) rfl (fun ls hl => ?_)
          refine lv_iload hx hb dL_fits_80 (lv_at hl 7 rfl) ?_
          refine lv_iload hx hb dL_fits_82 (lv_at hl 1 rfl) ?_
          refine lv_if_eq (tgt := 101) hx hb dL_fits_84 (by decide) (fun cz => absurd cz (by decide)) (fun _ => ?_)
          refine lv_aload_n hx hb dL_fits_87 rfl (lv_at hl 2 rfl) ?_
          refine lv_iload hx hb dL_fits_88 (lv_at hl 9 rfl) ?_
          refine x_get (pre := []) (As := [.ref (eO E), .int (nI k)]) (rest := [.int (nI b)]) ⟨hx, hb, hml, hown, hts⟩ (kg_state l D E x rfl hk8) (vx_cwSW 2 hts gL_fits_L_state rfl rfl rfl (by decide +kernel) ⟨Nat.le_of_ble_eq_true rfl, Nat.le_of_ble_eq_true rfl⟩) hK hX hN hP hD hS hA rfl hl.1 rfl (Nat.le_of_ble_eq_true rfl) dL_fits_90 ⟨Nat.le_of_ble_eq_true rfl, Nat.le_of_ble_eq_true rfl⟩ (fun H locs hP hD hS => ?_)
          refine lv_iconst (v := nI 2) hx hb dL_fits_93 (by decide) ?_
          refine lv_icmp_ne (tgt := 101) hx hb dL_fits_94 (by decide) (fun _ => ?_) (fun cz => absurd cz c2)
          refine lv_iconst (v := nI 0) hx hb dL_fits_101 (by decide) ?_
          refine q_add hx hb dL_fits_102 ?_
          refine lv_istore (lv' := [(6, .int (nI (b + 0))), (5, .int (nI (a + 0))), (9, .int (nI 1)), (0, .ref (eO E)), (1, .int pd), (2, .int (nI 1)), (3, .int ca), (4, .int (nI j)), (7, .int pv), (8, .int (nI k))]) hx hb dL_fits_103 hl (by decide) rfl (fun ls hl => ?_)
          refine lv_iload hx hb dL_fits_105 (lv_at hl 8 rfl) ?_
          refine lv_iload hx hb dL_fits_107 (lv_at hl 2 rfl) ?_
          refine lv_if_eq (tgt := 133) hx hb dL_fits_109 (by decide) (fun cz => absurd cz (by decide)) (fun _ => ?_)
          refine lv_aload_n hx hb dL_fits_112 rfl (lv_at hl 3 rfl) ?_
          refine lv_iload hx hb dL_fits_113 (lv_at hl 9 rfl) ?_
          refine x_get (pre := []) (As := [.ref (eO E), .int (nI k)]) (rest := [.int pv]) ⟨hx, hb, hml, hown, hts⟩ (kg_state l D E x rfl hk8) (vx_cwSW 2 hts gL_fits_L_state rfl rfl rfl (by decide +kernel) ⟨Nat.le_of_ble_eq_true rfl, Nat.le_of_ble_eq_true rfl⟩) hK hX hN hP hD hS hA rfl hl.1 rfl (Nat.le_of_ble_eq_true rfl) dL_fits_115 ⟨Nat.le_of_ble_eq_true rfl, Nat.le_of_ble_eq_true rfl⟩ (fun H locs hP hD hS => ?_)
          refine lv_iconst (v := nI 1) hx hb dL_fits_118 (by decide) ?_
          refine lv_icmp_ne (tgt := 133) hx hb dL_fits_119 (by decide) (fun _ => ?_) (fun cz => absurd cz c1)
          refine lv_iconst (v := nI 0) hx hb dL_fits_133 (by decide) ?_
          refine lv_ior hx hb dL_fits_134 ?_
          refine lv_istore (lv' := [(7, .int (pv ||| (nI 0))), (6, .int (nI (b + 0))), (5, .int (nI (a + 0))), (9, .int (nI 1)), (0, .ref (eO E)), (1, .int pd), (2, .int (nI 1)), (3, .int ca), (4, .int (nI j)), (8, .int (nI k))]) hx hb dL_fits_135 hl (by decide) rfl (fun ls hl => ?_)
          refine lv_iload_n hx hb dL_fits_137 rfl (lv_at hl 7 rfl) ?_
          refine lv_aload_n hx hb dL_fits_138 rfl (lv_at hl 4 rfl) ?_
          refine lv_iload hx hb dL_fits_139 (lv_at hl 9 rfl) ?_
          refine lv_iload hx hb dL_fits_141 (lv_at hl 8 rfl) ?_
          refine x_get (pre := []) (As := [.ref (eO E), .int (nI k), .int (nI j)]) (rest := [.int ca]) ⟨hx, hb, hml, hown, hts⟩ (kg_sent l D E x rfl hk8 hj) (vx_cwSW 3 hts gL_fits_L_sent rfl rfl rfl (by decide +kernel) ⟨Nat.le_of_ble_eq_true rfl, Nat.le_of_ble_eq_true rfl⟩) hK hX hN hP hD hS hA rfl hl.1 rfl (Nat.le_of_ble_eq_true rfl) dL_fits_143 ⟨Nat.le_of_ble_eq_true rfl, Nat.le_of_ble_eq_true rfl⟩ (fun H locs hP hD hS => ?_)
          refine lv_iadd hx hb dL_fits_146 ?_
          refine lv_istore_n (lv' := [(3, .int (ca + (eS E k j))), (7, .int (pv ||| (nI 0))), (6, .int (nI (b + 0))), (5, .int (nI (a + 0))), (9, .int (nI 1)), (0, .ref (eO E)), (1, .int pd), (2, .int (nI 1)), (4, .int (nI j)), (8, .int (nI k))]) hx hb dL_fits_147 rfl hl (by decide) rfl (fun ls hl => ?_)
          refine q_inc (k := 9) (lv' := [(8, .int (nI (k + 1))), (3, .int (ca + (eS E k j))), (7, .int (pv ||| (nI 0))), (6, .int (nI (b + 0))), (5, .int (nI (a + 0))), (9, .int (nI 1)), (0, .ref (eO E)), (1, .int pd), (2, .int (nI 1)), (4, .int (nI j))]) hx hb dL_fits_148 hl rfl (by decide) rfl (fun ls hl => ?_)
          refine lv_goto (tgt := 30) hx hb dL_fits_151 (by decide) ?_
          exact ih (k + 1) _ _ _ _ _ _ _ (by omega) (by rw [h5, cCnt, cAt_0 (fun q => c1 q.1)]) (by rw [h6, cCnt, cAt_0 (fun q => c2 q.1)]) (by rw [h7, plc, if_neg (fun q => c1 q.2)]) (by rw [h3, cdV, Int32.add_assoc]) hP hD hS (lv_sub hl [6, 7, 8, 1, 9, 4, 3, 2, 0] rfl)
    · refine lv_icmp_ne (tgt := 52) hx hb dL_fits_45 (by decide) (fun _ => ?_) (fun cz => absurd cz c7)
      refine lv_iconst (v := nI 0) hx hb dL_fits_52 (by decide) ?_
      refine lv_istore (lv' := [(9, .int (nI 0)), (0, .ref (eO E)), (1, .int pd), (2, .int (nI 1)), (3, .int ca), (4, .int (nI j)), (5, .int (nI a)), (6, .int (nI b)), (7, .int pv), (8, .int (nI k))]) hx hb dL_fits_53 hl (by decide) rfl (fun ls hl => ?_)
      refine lv_iload hx hb dL_fits_55 (lv_at hl 6 rfl) ?_
      refine lv_iload hx hb dL_fits_57 (lv_at hl 0 rfl) ?_
      refine lv_if_eq (tgt := 76) hx hb dL_fits_59 (by decide) (fun _ => ?_) (fun cz => absurd rfl cz)
      refine lv_iconst (v := nI 0) hx hb dL_fits_76 (by decide) ?_
      refine q_add hx hb dL_fits_77 ?_
      refine lv_istore (lv' := [(5, .int (nI (a + 0))), (9, .int (nI 0)), (0, .ref (eO E)), (1, .int pd), (2, .int (nI 1)), (3, .int ca), (4, .int (nI j)), (6, .int (nI b)), (7, .int pv), (8, .int (nI k))]) hx hb dL_fits_78 hl (by decide) rfl (fun ls hl => ?_)
      refine lv_iload hx hb dL_fits_80 (lv_at hl 7 rfl) ?_
      refine lv_iload hx hb dL_fits_82 (lv_at hl 1 rfl) ?_
      refine lv_if_eq (tgt := 101) hx hb dL_fits_84 (by decide) (fun _ => ?_) (fun cz => absurd rfl cz)
      refine lv_iconst (v := nI 0) hx hb dL_fits_101 (by decide) ?_
      refine q_add hx hb dL_fits_102 ?_
      refine lv_istore (lv' := [(6, .int (nI (b + 0))), (5, .int (nI (a + 0))), (9, .int (nI 0)), (0, .ref (eO E)), (1, .int pd), (2, .int (nI 1)), (3, .int ca), (4, .int (nI j)), (7, .int pv), (8, .int (nI k))]) hx hb dL_fits_103 hl (by decide) rfl (fun ls hl => ?_)
      refine lv_iload hx hb dL_fits_105 (lv_at hl 8 rfl) ?_
      refine lv_iload hx hb dL_fits_107 (lv_at hl 2 rfl) ?_
      refine lv_if_eq (tgt := 133) hx hb dL_fits_109 (by decide) (fun _ => ?_) (fun cz => absurd rfl cz)
      refine lv_iconst (v := nI 0) hx hb dL_fits_133 (by decide) ?_
      refine lv_ior hx hb dL_fits_134 ?_
      refine lv_istore (lv' := [(7, .int (pv ||| (nI 0))), (6, .int (nI (b + 0))), (5, .int (nI (a + 0))), (9, .int (nI 0)), (0, .ref (eO E)), (1, .int pd), (2, .int (nI 1)), (3, .int ca), (4, .int (nI j)), (8, .int (nI k))]) hx hb dL_fits_135 hl (by decide) rfl (fun ls hl => ?_)
      refine lv_iload_n hx hb dL_fits_137 rfl (lv_at hl 7 rfl) ?_
      refine lv_aload_n hx hb dL_fits_138 rfl (lv_at hl 4 rfl) ?_
      refine lv_iload hx hb dL_fits_139 (lv_at hl 9 rfl) ?_
      refine lv_iload hx hb dL_fits_141 (lv_at hl 8 rfl) ?_
      refine x_get (pre := []) (As := [.ref (eO E), .int (nI k), .int (nI j)]) (rest := [.int ca]) ⟨hx, hb, hml, hown, hts⟩ (kg_sent l D E x rfl hk8 hj) (vx_cwSW 3 hts gL_fits_L_sent rfl rfl rfl (by decide +kernel) ⟨Nat.le_of_ble_eq_true rfl, Nat.le_of_ble_eq_true rfl⟩) hK hX hN hP hD hS hA rfl hl.1 rfl (Nat.le_of_ble_eq_true rfl) dL_fits_143 ⟨Nat.le_of_ble_eq_true rfl, Nat.le_of_ble_eq_true rfl⟩ (fun H locs hP hD hS => ?_)
      refine lv_iadd hx hb dL_fits_146 ?_
      refine lv_istore_n (lv' := [(3, .int (ca + (eS E k j))), (7, .int (pv ||| (nI 0))), (6, .int (nI (b + 0))), (5, .int (nI (a + 0))), (9, .int (nI 0)), (0, .ref (eO E)), (1, .int pd), (2, .int (nI 1)), (4, .int (nI j)), (8, .int (nI k))]) hx hb dL_fits_147 rfl hl (by decide) rfl (fun ls hl => ?_)
      refine q_inc (k := 9) (lv' := [(8, .int (nI (k + 1))), (3, .int (ca + (eS E k j))), (7, .int (pv ||| (nI 0))), (6, .int (nI (b + 0))), (5, .int (nI (a + 0))), (9, .int (nI 0)), (0, .ref (eO E)), (1, .int pd), (2, .int (nI 1)), (4, .int (nI j))]) hx hb dL_fits_148 hl rfl (by decide) rfl (fun ls hl => ?_)
      refine lv_goto (tgt := 30) hx hb dL_fits_151 (by decide) ?_
      exact ih (k + 1) _ _ _ _ _ _ _ (by omega) (by rw [h5, cCnt, cAt_0 (fun q => c7 q.2)]) (by rw [h6, cCnt, cAt_0 (fun q => c7 q.2)]) (by rw [h7, plc, if_neg (fun q => c7 q.1)]) (by rw [h3, cdV, Int32.add_assoc]) hP hD hS (lv_sub hl [6, 7, 8, 1, 9, 4, 3, 2, 0] rfl)

set_option maxHeartbeats 4000000 in
set_option maxRecDepth 100000 in
theorem fits_p {p : Program} {l : Launch} {e : Env} {s : State} {m : MethodId} {args : Array Value} {below : List Frame} {meth : Method} {c : Code} {Q : State → Prop} {D : va_G} {A : Nat → Prop} {E : cE} {x : T2} {pd : Int32} (hx : p.tables.exec = Jvm.exec) (hb : c.code = cL_fits) (hml : c.maxLocals = 10) (hts : ∀ w ∈ wsL_fits, w.before args s = true) (hown : s.vm.findClass RL = some m.cls) (hA : ∀ q : Nat, s.heap.size ≤ q → A q) (hK : va_K D vwCl (cT E []) s) (hX : cX (eDf E) A s) (hN : jNc s) (hq : ∀ j, j < 6 → plc x j 8 = (nI 1 <<< (nI (cCnt x (nI 1) j 8) &&& 31)) - nI 1) {n : Nat} (hn : n ≤ 1000) (hz : zK x n) (kk : ∀ (cb : Int32) (ls : Array Slot) (H : Heap) (locs : List Loc), cb = cdA E x 6 → va_P D vwCl ([] ++ cW E x) H → va_D A ([] ++ cW E x) → va_S A s.heap H locs → lv_has ls 10 [(0, .ref (eO E)), (1, .int pd), (2, .int (nI 1)), (3, .int cb)] → W p l e RF s m args below meth c H locs 0 0 Q (F0 m 226 ls [])) : ∀ (d j : Nat) (ca : Int32) (ls : Array Slot) (H : Heap) (locs : List Loc), j + d = 6 → ca = cdA E x j → va_P D vwCl ([] ++ cW E x) H → va_D A ([] ++ cW E x) → va_S A s.heap H locs → lv_has ls 10 [(0, .ref (eO E)), (1, .int pd), (2, .int (nI 1)), (3, .int ca), (4, .int (nI j))] → W p l e RF s m args below meth c H locs 0 0 Q (F0 m 7 ls []) := by
  intro d
  induction d with
  | zero =>
    intro j ca ls H locs hj h3 hP hD hS hl
    obtain rfl : j = 6 := by omega
    refine lv_iload hx hb dL_fits_7 (lv_at hl 4 rfl) ?_
    refine lv_bipush (v := nI 6) hx hb dL_fits_9 (by decide) ?_
    refine lv_icmp_ge (tgt := 226) hx hb dL_fits_11 (by decide) (fun _ => ?_) (fun cz => absurd (nI_le (by decide) (by decide)) cz)
    exact kk ca _ _ _ h3 hP hD hS (lv_sub hl [0, 1, 2, 3] rfl)
  | succ d ih =>
    intro j ca ls H locs hjd h3 hP hD hS hl
    have hj : j < 6 := by omega
    obtain ⟨a4, a5, g4, g5, g6⟩ := hz j hj
    have e4 : ¬ x 4 j < 0 := by rw [g4]; exact nI_pos (by omega)
    have e5 : ¬ x 5 j < 0 := by rw [g5]; exact nI_pos (by omega)
    refine lv_iload hx hb dL_fits_7 (lv_at hl 4 rfl) ?_
    refine lv_bipush (v := nI 6) hx hb dL_fits_9 (by decide) ?_
    refine lv_icmp_ge (tgt := 226) hx hb dL_fits_11 (by decide) (fun cz => absurd cz (nI_ge hj (by decide))) (fun _ => ?_)
    refine lv_iload_n hx hb dL_fits_14 rfl (lv_at hl 2 rfl) ?_
    refine lv_if_eq (tgt := 226) hx hb dL_fits_15 (by decide) (fun cz => absurd cz (by decide)) (fun _ => ?_)
    refine lv_iconst (v := nI 0) hx hb dL_fits_18 (by decide) ?_
    refine lv_istore (lv' := [(5, .int (nI 0)), (0, .ref (eO E)), (1, .int pd), (2, .int (nI 1)), (3, .int ca), (4, .int (nI j))]) hx hb dL_fits_19 hl (by decide) rfl (fun ls hl => ?_)
    refine lv_iconst (v := nI 0) hx hb dL_fits_21 (by decide) ?_
    refine lv_istore (lv' := [(6, .int (nI 0)), (5, .int (nI 0)), (0, .ref (eO E)), (1, .int pd), (2, .int (nI 1)), (3, .int ca), (4, .int (nI j))]) hx hb dL_fits_22 hl (by decide) rfl (fun ls hl => ?_)
    refine lv_iconst (v := nI 0) hx hb dL_fits_24 (by decide) ?_
    refine lv_istore (lv' := [(7, .int (nI 0)), (6, .int (nI 0)), (5, .int (nI 0)), (0, .ref (eO E)), (1, .int pd), (2, .int (nI 1)), (3, .int ca), (4, .int (nI j))]) hx hb dL_fits_25 hl (by decide) rfl (fun ls hl => ?_)
    refine lv_iconst (v := nI 0) hx hb dL_fits_27 (by decide) ?_
    refine lv_istore (lv' := [(8, .int (nI 0)), (7, .int (nI 0)), (6, .int (nI 0)), (5, .int (nI 0)), (0, .ref (eO E)), (1, .int pd), (2, .int (nI 1)), (3, .int ca), (4, .int (nI j))]) hx hb dL_fits_28 hl (by decide) rfl (fun ls hl => ?_)
    refine fits_in hx hb hml hts hown hA hK hX hN hj (fun cb ls H locs hcb hP hD hS hl => ?_) 8 0 0 0 _ _ _ _ _ rfl rfl rfl rfl (by rw [h3, cdV, Int32.add_zero]) hP hD hS (lv_sub hl [4, 5, 6, 7, 8, 3, 2, 1, 0] rfl)
    refine lv_iload_n hx hb dL_fits_154 rfl (lv_at hl 3 rfl) ?_
    refine lv_aload_n hx hb dL_fits_155 rfl (lv_at hl 0 rfl) ?_
    refine lv_iload hx hb dL_fits_156 (lv_at hl 4 rfl) ?_
    refine x_get (pre := []) (As := [.ref (eO E), .int (nI j)]) (rest := [.int cb]) ⟨hx, hb, hml, hown, hts⟩ (kg_stock l D E x rfl hj) (vx_cwSW 2 hts gL_fits_L_stock rfl rfl rfl (by decide +kernel) ⟨Nat.le_of_ble_eq_true rfl, Nat.le_of_ble_eq_true rfl⟩) hK hX hN hP hD hS hA rfl hl.1 rfl (Nat.le_of_ble_eq_true rfl) dL_fits_158 ⟨Nat.le_of_ble_eq_true rfl, Nat.le_of_ble_eq_true rfl⟩ (fun H locs hP hD hS => ?_)
    refine lv_iadd hx hb dL_fits_161 ?_
    refine lv_istore_n (lv' := [(3, .int (cb + (x 4 j))), (0, .ref (eO E)), (1, .int pd), (2, .int (nI 1)), (4, .int (nI j)), (5, .int (nI (cCnt x (nI 1) j 8))), (6, .int (nI (cCnt x (nI 2) j 8))), (7, .int (plc x j 8))]) hx hb dL_fits_162 rfl hl (by decide) rfl (fun ls hl => ?_)
    refine lv_aload_n hx hb dL_fits_163 rfl (lv_at hl 1 rfl) ?_
    refine lv_iload hx hb dL_fits_164 (lv_at hl 4 rfl) ?_
    refine x_get (pre := []) (As := [.ref (eO E), .int (nI j)]) (rest := []) ⟨hx, hb, hml, hown, hts⟩ (kg_queue l D E x rfl hj) (vx_cwSW 2 hts gL_fits_L_queue rfl rfl rfl (by decide +kernel) ⟨Nat.le_of_ble_eq_true rfl, Nat.le_of_ble_eq_true rfl⟩) hK hX hN hP hD hS hA rfl hl.1 rfl (Nat.le_of_ble_eq_true rfl) dL_fits_166 ⟨Nat.le_of_ble_eq_true rfl, Nat.le_of_ble_eq_true rfl⟩ (fun H locs hP hD hS => ?_)
    refine lv_iload hx hb dL_fits_169 (lv_at hl 5 rfl) ?_
    refine lv_icmp_ne (tgt := 218) hx hb dL_fits_171 (by decide) (fun cz => absurd rfl cz) (fun _ => ?_)
    refine lv_aload_n hx hb dL_fits_174 rfl (lv_at hl 1 rfl) ?_
    refine lv_iload hx hb dL_fits_175 (lv_at hl 4 rfl) ?_
    refine x_get (pre := []) (As := [.ref (eO E), .int (nI j)]) (rest := []) ⟨hx, hb, hml, hown, hts⟩ (kg_inside l D E x rfl hj) (vx_cwSW 2 hts gL_fits_L_inside rfl rfl rfl (by decide +kernel) ⟨Nat.le_of_ble_eq_true rfl, Nat.le_of_ble_eq_true rfl⟩) hK hX hN hP hD hS hA rfl hl.1 rfl (Nat.le_of_ble_eq_true rfl) dL_fits_177 ⟨Nat.le_of_ble_eq_true rfl, Nat.le_of_ble_eq_true rfl⟩ (fun H locs hP hD hS => ?_)
    refine lv_iload hx hb dL_fits_180 (lv_at hl 6 rfl) ?_
    refine lv_icmp_ne (tgt := 218) hx hb dL_fits_182 (by decide) (fun cz => absurd rfl cz) (fun _ => ?_)
    refine lv_iload hx hb dL_fits_185 (lv_at hl 7 rfl) ?_
    refine lv_iconst (v := nI 1) hx hb dL_fits_187 (by decide) ?_
    refine lv_iload hx hb dL_fits_188 (lv_at hl 5 rfl) ?_
    refine lv_ishl hx hb dL_fits_190 ?_
    refine lv_iconst (v := nI 1) hx hb dL_fits_191 (by decide) ?_
    refine lv_isub hx hb dL_fits_192 ?_
    refine lv_icmp_ne (tgt := 218) hx hb dL_fits_193 (by decide) (fun cz => absurd (hq j hj) cz) (fun _ => ?_)
    refine lv_aload_n hx hb dL_fits_196 rfl (lv_at hl 1 rfl) ?_
    refine lv_iload hx hb dL_fits_197 (lv_at hl 4 rfl) ?_
    refine x_get (pre := []) (As := [.ref (eO E), .int (nI j)]) (rest := []) ⟨hx, hb, hml, hown, hts⟩ (kg_stock l D E x rfl hj) (vx_cwSW 2 hts gL_fits_L_stock rfl rfl rfl (by decide +kernel) ⟨Nat.le_of_ble_eq_true rfl, Nat.le_of_ble_eq_true rfl⟩) hK hX hN hP hD hS hA rfl hl.1 rfl (Nat.le_of_ble_eq_true rfl) dL_fits_199 ⟨Nat.le_of_ble_eq_true rfl, Nat.le_of_ble_eq_true rfl⟩ (fun H locs hP hD hS => ?_)
    refine lv_if_lt (tgt := 218) hx hb dL_fits_202 (by decide) (fun cz => absurd cz e4) (fun _ => ?_)
    refine lv_aload_n hx hb dL_fits_205 rfl (lv_at hl 1 rfl) ?_
    refine lv_iload hx hb dL_fits_206 (lv_at hl 4 rfl) ?_
    refine x_get (pre := []) (As := [.ref (eO E), .int (nI j)]) (rest := []) ⟨hx, hb, hml, hown, hts⟩ (kg_demand l D E x rfl hj) (vx_cwSW 2 hts gL_fits_L_demand rfl rfl rfl (by decide +kernel) ⟨Nat.le_of_ble_eq_true rfl, Nat.le_of_ble_eq_true rfl⟩) hK hX hN hP hD hS hA rfl hl.1 rfl (Nat.le_of_ble_eq_true rfl) dL_fits_208 ⟨Nat.le_of_ble_eq_true rfl, Nat.le_of_ble_eq_true rfl⟩ (fun H locs hP hD hS => ?_)
    refine lv_if_lt (tgt := 218) hx hb dL_fits_211 (by decide) (fun cz => absurd cz e5) (fun _ => ?_)
    refine lv_iconst (v := nI 1) hx hb dL_fits_214 (by decide) ?_
    refine lv_goto (tgt := 219) hx hb dL_fits_215 (by decide) ?_
    refine lv_istore_n (lv' := [(2, .int (nI 1)), (3, .int (cb + (x 4 j))), (0, .ref (eO E)), (1, .int pd), (4, .int (nI j)), (5, .int (nI (cCnt x (nI 1) j 8))), (6, .int (nI (cCnt x (nI 2) j 8))), (7, .int (plc x j 8))]) hx hb dL_fits_219 rfl hl (by decide) rfl (fun ls hl => ?_)
    refine q_inc (k := 4) (lv' := [(4, .int (nI (j + 1))), (2, .int (nI 1)), (3, .int (cb + (x 4 j))), (0, .ref (eO E)), (1, .int pd), (5, .int (nI (cCnt x (nI 1) j 8))), (6, .int (nI (cCnt x (nI 2) j 8))), (7, .int (plc x j 8))]) hx hb dL_fits_220 hl rfl (by decide) rfl (fun ls hl => ?_)
    refine lv_goto (tgt := 7) hx hb dL_fits_223 (by decide) ?_
    exact ih (j + 1) _ _ _ _ (by omega) (by rw [hcb]; rfl) hP hD hS (lv_sub hl [3, 4, 1, 2, 0] rfl)

set_option maxHeartbeats 4000000 in
set_option maxRecDepth 100000 in
theorem fits_v {p : Program} {l : Launch} {e : Env} {s : State} {m : MethodId} {args : Array Value} {below : List Frame} {meth : Method} {c : Code} {Q : State → Prop} {D : va_G} {A : Nat → Prop} {E : cE} {x : T2} {pd : Int32} (hx : p.tables.exec = Jvm.exec) (hb : c.code = cL_fits) (hml : c.maxLocals = 10) (hts : ∀ w ∈ wsL_fits, w.before args s = true) (hown : s.vm.findClass RL = some m.cls) (hA : ∀ q : Nat, s.heap.size ≤ q → A q) (hK : va_K D vwCl (cT E []) s) (hX : cX (eDf E) A s) (hN : jNc s) {cb : Int32} {mi : Nat} (h0 : x 0 0 = nI mi) (hmi : mi ≤ 1200) (hc : ∀ k, k < 8 → (x 6 k = nI 0 ∧ x 7 k = -1 ∧ x 8 k = -1) ∨ (x 6 k = nI 1 ∧ (∃ p, p < 6 ∧ x 7 k = nI p) ∧ ∃ i, i < 8 ∧ x 8 k = nI i) ∨ (x 6 k = nI 2 ∧ (∃ p, p < 6 ∧ x 7 k = nI p) ∧ x 8 k = -1)) (ht : ∀ k, k < 8 → x 11 k = -1 ∨ ∃ t, 0 < t ∧ t % 5 = 0 ∧ t ≤ 2000 ∧ x 11 k = nI t ∧ (mi < t ∨ x 6 k = nI 1)) (hs : zS x) (kk : ∀ (ls : Array Slot) (H : Heap) (locs : List Loc), va_P D vwCl ([] ++ cW E x) H → va_D A ([] ++ cW E x) → va_S A s.heap H locs → lv_has ls 10 [(0, .ref (eO E)), (1, .int pd), (2, .int (nI 1)), (3, .int cb)] → W p l e RF s m args below meth c H locs 0 0 Q (F0 m 385 ls [])) : ∀ (d k : Nat) (ls : Array Slot) (H : Heap) (locs : List Loc), k + d = 8 → va_P D vwCl ([] ++ cW E x) H → va_D A ([] ++ cW E x) → va_S A s.heap H locs → lv_has ls 10 [(0, .ref (eO E)), (1, .int pd), (2, .int (nI 1)), (3, .int cb), (4, .int (nI k))] → W p l e RF s m args below meth c H locs 0 0 Q (F0 m 229 ls []) := by
  intro d
  induction d with
  | zero =>
    intro k ls H locs hk hP hD hS hl
    obtain rfl : k = 8 := by omega
    refine lv_iload hx hb dL_fits_229 (lv_at hl 4 rfl) ?_
    refine lv_bipush (v := nI 8) hx hb dL_fits_231 (by decide) ?_
    refine lv_icmp_ge (tgt := 385) hx hb dL_fits_233 (by decide) (fun _ => ?_) (fun cz => absurd (nI_le (by decide) (by decide)) cz)
    exact kk _ _ _ hP hD hS (lv_sub hl [0, 1, 2, 3] rfl)
  | succ d ih =>
    intro k ls H locs hkd hP hD hS hl
    have hk8 : k < 8 := by omega
    have h353 : ∀ (ls : Array Slot) (H : Heap) (locs : List Loc), va_P D vwCl ([] ++ cW E x) H → va_D A ([] ++ cW E x) → va_S A s.heap H locs → lv_has ls 10 [(0, .ref (eO E)), (1, .int pd), (2, .int (nI 1)), (3, .int cb), (4, .int (nI k)), (5, .int (x 6 k))] → W p l e RF s m args below meth c H locs 0 0 Q (F0 m 353 ls []) := by
      intro ls H locs hP hD hS hl
      obtain ⟨sv, s1, s2⟩ := hs k hk8
      refine lv_aload_n hx hb dL_fits_353 rfl (lv_at hl 0 rfl) ?_
      refine lv_iload hx hb dL_fits_354 (lv_at hl 4 rfl) ?_
      refine x_get (pre := []) (As := [.ref (eO E), .int (nI k)]) (rest := []) ⟨hx, hb, hml, hown, hts⟩ (kg_stamps l D E x rfl hk8) (vx_cwSW 2 hts gL_fits_L_stamps rfl rfl rfl (by decide +kernel) ⟨Nat.le_of_ble_eq_true rfl, Nat.le_of_ble_eq_true rfl⟩) hK hX hN hP hD hS hA rfl hl.1 rfl (Nat.le_of_ble_eq_true rfl) dL_fits_356 ⟨Nat.le_of_ble_eq_true rfl, Nat.le_of_ble_eq_true rfl⟩ (fun H locs hP hD hS => ?_)
      refine q_top (x' := (nI sv)) s2 ?_
      refine lv_if_lt (tgt := 377) hx hb dL_fits_359 (by decide) (fun cz => absurd cz (nI_pos (by omega))) (fun _ => ?_)
      refine lv_aload_n hx hb dL_fits_362 rfl (lv_at hl 0 rfl) ?_
      refine lv_iload hx hb dL_fits_363 (lv_at hl 4 rfl) ?_
      refine x_get (pre := []) (As := [.ref (eO E), .int (nI k)]) (rest := []) ⟨hx, hb, hml, hown, hts⟩ (kg_stamps l D E x rfl hk8) (vx_cwSW 2 hts gL_fits_L_stamps rfl rfl rfl (by decide +kernel) ⟨Nat.le_of_ble_eq_true rfl, Nat.le_of_ble_eq_true rfl⟩) hK hX hN hP hD hS hA rfl hl.1 rfl (Nat.le_of_ble_eq_true rfl) dL_fits_365 ⟨Nat.le_of_ble_eq_true rfl, Nat.le_of_ble_eq_true rfl⟩ (fun H locs hP hD hS => ?_)
      refine q_top (x' := (nI sv)) s2 ?_
      refine lv_bipush (v := nI 64) hx hb dL_fits_368 (by decide) ?_
      refine lv_icmp_ge (tgt := 377) hx hb dL_fits_370 (by decide) (fun cz => absurd cz (nI_ge s1 (by decide))) (fun _ => ?_)
      refine lv_iconst (v := nI 1) hx hb dL_fits_373 (by decide) ?_
      refine lv_goto (tgt := 378) hx hb dL_fits_374 (by decide) ?_
      refine lv_istore_n (lv' := [(2, .int (nI 1)), (0, .ref (eO E)), (1, .int pd), (3, .int cb), (4, .int (nI k)), (5, .int (x 6 k))]) hx hb dL_fits_378 rfl hl (by decide) rfl (fun ls hl => ?_)
      refine q_inc (k := 4) (lv' := [(4, .int (nI (k + 1))), (2, .int (nI 1)), (0, .ref (eO E)), (1, .int pd), (3, .int cb), (5, .int (x 6 k))]) hx hb dL_fits_379 hl rfl (by decide) rfl (fun ls hl => ?_)
      refine lv_goto (tgt := 229) hx hb dL_fits_382 (by decide) ?_
      exact ih (k + 1) _ _ _ (by omega) hP hD hS (lv_sub hl [2, 3, 1, 4, 0] rfl)
    have h304 : ∀ (ls : Array Slot) (H : Heap) (locs : List Loc), va_P D vwCl ([] ++ cW E x) H → va_D A ([] ++ cW E x) → va_S A s.heap H locs → lv_has ls 10 [(0, .ref (eO E)), (1, .int pd), (2, .int (nI 1)), (3, .int cb), (4, .int (nI k)), (5, .int (x 6 k))] → W p l e RF s m args below meth c H locs 0 0 Q (F0 m 304 ls []) := by
      intro ls H locs hP hD hS hl
      rcases ht k hk8 with t1 | ⟨t, t1, t2, t3, t4, t5⟩
      · refine lv_aload_n hx hb dL_fits_304 rfl (lv_at hl 0 rfl) ?_
        refine lv_iload hx hb dL_fits_305 (lv_at hl 4 rfl) ?_
        refine x_get (pre := []) (As := [.ref (eO E), .int (nI k)]) (rest := []) ⟨hx, hb, hml, hown, hts⟩ (kg_turn l D E x rfl hk8) (vx_cwSW 2 hts gL_fits_L_turn rfl rfl rfl (by decide +kernel) ⟨Nat.le_of_ble_eq_true rfl, Nat.le_of_ble_eq_true rfl⟩) hK hX hN hP hD hS hA rfl hl.1 rfl (Nat.le_of_ble_eq_true rfl) dL_fits_307 ⟨Nat.le_of_ble_eq_true rfl, Nat.le_of_ble_eq_true rfl⟩ (fun H locs hP hD hS => ?_)
        refine lv_iconst (v := -1) hx hb dL_fits_310 (by decide) ?_
        refine lv_icmp_eq (tgt := 353) hx hb dL_fits_311 (by decide) (fun _ => ?_) (fun cz => absurd t1 cz)
        exact h353 _ _ _ hP hD hS hl
      · refine lv_aload_n hx hb dL_fits_304 rfl (lv_at hl 0 rfl) ?_
        refine lv_iload hx hb dL_fits_305 (lv_at hl 4 rfl) ?_
        refine x_get (pre := []) (As := [.ref (eO E), .int (nI k)]) (rest := []) ⟨hx, hb, hml, hown, hts⟩ (kg_turn l D E x rfl hk8) (vx_cwSW 2 hts gL_fits_L_turn rfl rfl rfl (by decide +kernel) ⟨Nat.le_of_ble_eq_true rfl, Nat.le_of_ble_eq_true rfl⟩) hK hX hN hP hD hS hA rfl hl.1 rfl (Nat.le_of_ble_eq_true rfl) dL_fits_307 ⟨Nat.le_of_ble_eq_true rfl, Nat.le_of_ble_eq_true rfl⟩ (fun H locs hP hD hS => ?_)
        refine lv_iconst (v := -1) hx hb dL_fits_310 (by decide) ?_
        refine lv_icmp_eq (tgt := 353) hx hb dL_fits_311 (by decide) (fun cz => absurd (t4.symm.trans cz) (nI_nem1 (by omega))) (fun _ => ?_)
        refine lv_aload_n hx hb dL_fits_314 rfl (lv_at hl 0 rfl) ?_
        refine lv_iload hx hb dL_fits_315 (lv_at hl 4 rfl) ?_
        refine x_get (pre := []) (As := [.ref (eO E), .int (nI k)]) (rest := []) ⟨hx, hb, hml, hown, hts⟩ (kg_turn l D E x rfl hk8) (vx_cwSW 2 hts gL_fits_L_turn rfl rfl rfl (by decide +kernel) ⟨Nat.le_of_ble_eq_true rfl, Nat.le_of_ble_eq_true rfl⟩) hK hX hN hP hD hS hA rfl hl.1 rfl (Nat.le_of_ble_eq_true rfl) dL_fits_317 ⟨Nat.le_of_ble_eq_true rfl, Nat.le_of_ble_eq_true rfl⟩ (fun H locs hP hD hS => ?_)
        refine q_top (x' := (nI t)) t4 ?_
        refine lv_iconst (v := nI 5) hx hb dL_fits_320 (by decide) ?_
        refine q_remn hx hb (by omega) (by decide) (by decide) dL_fits_321 ?_
        refine lv_if_ne (tgt := 377) hx hb dL_fits_322 (by decide) (fun cz => absurd (by rw [t2]; rfl) cz) (fun _ => ?_)
        refine lv_aload_n hx hb dL_fits_325 rfl (lv_at hl 0 rfl) ?_
        refine lv_iload hx hb dL_fits_326 (lv_at hl 4 rfl) ?_
        refine x_get (pre := []) (As := [.ref (eO E), .int (nI k)]) (rest := []) ⟨hx, hb, hml, hown, hts⟩ (kg_turn l D E x rfl hk8) (vx_cwSW 2 hts gL_fits_L_turn rfl rfl rfl (by decide +kernel) ⟨Nat.le_of_ble_eq_true rfl, Nat.le_of_ble_eq_true rfl⟩) hK hX hN hP hD hS hA rfl hl.1 rfl (Nat.le_of_ble_eq_true rfl) dL_fits_328 ⟨Nat.le_of_ble_eq_true rfl, Nat.le_of_ble_eq_true rfl⟩ (fun H locs hP hD hS => ?_)
        refine q_top (x' := (nI t)) t4 ?_
        refine lv_if_le (tgt := 377) hx hb dL_fits_331 (by decide) (fun cz => absurd cz (nI_nle t1 (by omega))) (fun _ => ?_)
        refine lv_aload_n hx hb dL_fits_334 rfl (lv_at hl 0 rfl) ?_
        refine lv_iload hx hb dL_fits_335 (lv_at hl 4 rfl) ?_
        refine x_get (pre := []) (As := [.ref (eO E), .int (nI k)]) (rest := []) ⟨hx, hb, hml, hown, hts⟩ (kg_turn l D E x rfl hk8) (vx_cwSW 2 hts gL_fits_L_turn rfl rfl rfl (by decide +kernel) ⟨Nat.le_of_ble_eq_true rfl, Nat.le_of_ble_eq_true rfl⟩) hK hX hN hP hD hS hA rfl hl.1 rfl (Nat.le_of_ble_eq_true rfl) dL_fits_337 ⟨Nat.le_of_ble_eq_true rfl, Nat.le_of_ble_eq_true rfl⟩ (fun H locs hP hD hS => ?_)
        refine q_top (x' := (nI t)) t4 ?_
        refine lv_aload_n hx hb dL_fits_340 rfl (lv_at hl 0 rfl) ?_
        replace hP : va_P D vwCl (cW E x) H := hP
        replace hD : va_D A (cW E x) := hD
        refine h_calli (As := []) (rest := [.int (nI t)]) ⟨hx, hb, hml, hown, hts⟩ (c_X2_minute l D E [] x) (cwV 0 hts gL_fits_X2_minute rfl rfl rfl (by decide +kernel) ⟨Nat.le_of_ble_eq_true rfl, Nat.le_of_ble_eq_true rfl⟩) (c_recv hK hP) hK hX hP hD hS hA rfl hl.1 rfl (Nat.le_of_ble_eq_true rfl) dL_fits_341 ⟨Nat.le_of_ble_eq_true rfl, Nat.le_of_ble_eq_true rfl⟩ (fun r u H locs hw hP hD hS => ?_)
        obtain ⟨hw1, hw2⟩ := hw
        rw [hw2] at hP hD
        replace hP : va_P D vwCl ([] ++ cW E x) H := hP
        replace hD : va_D A ([] ++ cW E x) := hD
        refine q_top (x' := (nI mi)) (hw1.trans h0) ?_
        by_cases c9 : mi < t
        · refine lv_icmp_gt (tgt := 353) hx hb dL_fits_344 (by decide) (fun _ => ?_) (fun cz => absurd (nI_lt c9 (by omega)) cz)
          exact h353 _ _ _ hP hD hS hl
        · refine lv_icmp_gt (tgt := 353) hx hb dL_fits_344 (by decide) (fun cz => absurd cz (nI_nlt (by omega) (by omega))) (fun _ => ?_)
          refine lv_iload hx hb dL_fits_347 (lv_at hl 5 rfl) ?_
          refine lv_iconst (v := nI 1) hx hb dL_fits_349 (by decide) ?_
          refine lv_icmp_ne (tgt := 377) hx hb dL_fits_350 (by decide) (fun cz => absurd (t5.resolve_left c9) cz) (fun _ => ?_)
          exact h353 _ _ _ hP hD hS hl
    refine lv_iload hx hb dL_fits_229 (lv_at hl 4 rfl) ?_
    refine lv_bipush (v := nI 8) hx hb dL_fits_231 (by decide) ?_
    refine lv_icmp_ge (tgt := 385) hx hb dL_fits_233 (by decide) (fun cz => absurd cz (nI_ge hk8 (by decide))) (fun _ => ?_)
    refine lv_iload_n hx hb dL_fits_236 rfl (lv_at hl 2 rfl) ?_
    refine lv_if_eq (tgt := 385) hx hb dL_fits_237 (by decide) (fun cz => absurd cz (by decide)) (fun _ => ?_)
    refine lv_aload_n hx hb dL_fits_240 rfl (lv_at hl 0 rfl) ?_
    refine lv_iload hx hb dL_fits_241 (lv_at hl 4 rfl) ?_
    refine x_get (pre := []) (As := [.ref (eO E), .int (nI k)]) (rest := []) ⟨hx, hb, hml, hown, hts⟩ (kg_state l D E x rfl hk8) (vx_cwSW 2 hts gL_fits_L_state rfl rfl rfl (by decide +kernel) ⟨Nat.le_of_ble_eq_true rfl, Nat.le_of_ble_eq_true rfl⟩) hK hX hN hP hD hS hA rfl hl.1 rfl (Nat.le_of_ble_eq_true rfl) dL_fits_243 ⟨Nat.le_of_ble_eq_true rfl, Nat.le_of_ble_eq_true rfl⟩ (fun H locs hP hD hS => ?_)
    refine lv_istore (lv' := [(5, .int (x 6 k)), (0, .ref (eO E)), (1, .int pd), (2, .int (nI 1)), (3, .int cb), (4, .int (nI k))]) hx hb dL_fits_246 hl (by decide) rfl (fun ls hl => ?_)
    rcases hc k hk8 with ⟨s0, w0, p0⟩ | ⟨s0, ⟨jw, j1, w0⟩, ip, i1, p0⟩ | ⟨s0, ⟨jw, j1, w0⟩, p0⟩
    · refine lv_iload hx hb dL_fits_248 (lv_at hl 0 rfl) ?_
      refine lv_if_ne (tgt := 257) hx hb dL_fits_250 (by decide) (fun cz => absurd s0 cz) (fun _ => ?_)
      refine lv_iconst (v := nI 1) hx hb dL_fits_253 (by decide) ?_
      refine lv_goto (tgt := 258) hx hb dL_fits_254 (by decide) ?_
      refine lv_aload_n hx hb dL_fits_258 rfl (lv_at hl 1 rfl) ?_
      refine lv_iload hx hb dL_fits_259 (lv_at hl 5 rfl) ?_
      refine x_get (pre := []) (As := [.ref (eO E), .int (nI k)]) (rest := [.int (nI 1)]) ⟨hx, hb, hml, hown, hts⟩ (kg_where l D E x rfl hk8) (vx_cwSW 2 hts gL_fits_L_where rfl rfl rfl (by decide +kernel) ⟨Nat.le_of_ble_eq_true rfl, Nat.le_of_ble_eq_true rfl⟩) hK hX hN hP hD hS hA rfl hl.1 rfl (Nat.le_of_ble_eq_true rfl) dL_fits_261 ⟨Nat.le_of_ble_eq_true rfl, Nat.le_of_ble_eq_true rfl⟩ (fun H locs hP hD hS => ?_)
      refine lv_iconst (v := -1) hx hb dL_fits_264 (by decide) ?_
      refine lv_icmp_ne (tgt := 272) hx hb dL_fits_265 (by decide) (fun cz => absurd w0 cz) (fun _ => ?_)
      refine lv_iconst (v := nI 1) hx hb dL_fits_268 (by decide) ?_
      refine lv_goto (tgt := 273) hx hb dL_fits_269 (by decide) ?_
      refine lv_icmp_ne (tgt := 377) hx hb dL_fits_273 (by decide) (fun cz => absurd rfl cz) (fun _ => ?_)
      refine lv_iload hx hb dL_fits_276 (lv_at hl 0 rfl) ?_
      refine lv_iconst (v := nI 1) hx hb dL_fits_278 (by decide) ?_
      refine lv_icmp_ne (tgt := 286) hx hb dL_fits_279 (by decide) (fun _ => ?_) (fun cz => absurd (s0.symm.trans cz) nI_01)
      refine lv_iconst (v := nI 0) hx hb dL_fits_286 (by decide) ?_
      refine lv_aload_n hx hb dL_fits_287 rfl (lv_at hl 1 rfl) ?_
      refine lv_iload hx hb dL_fits_288 (lv_at hl 5 rfl) ?_
      refine x_get (pre := []) (As := [.ref (eO E), .int (nI k)]) (rest := [.int (nI 0)]) ⟨hx, hb, hml, hown, hts⟩ (kg_place l D E x rfl hk8) (vx_cwSW 2 hts gL_fits_L_place rfl rfl rfl (by decide +kernel) ⟨Nat.le_of_ble_eq_true rfl, Nat.le_of_ble_eq_true rfl⟩) hK hX hN hP hD hS hA rfl hl.1 rfl (Nat.le_of_ble_eq_true rfl) dL_fits_290 ⟨Nat.le_of_ble_eq_true rfl, Nat.le_of_ble_eq_true rfl⟩ (fun H locs hP hD hS => ?_)
      refine lv_if_lt (tgt := 300) hx hb dL_fits_293 (by decide) (fun _ => ?_) (fun cz => absurd (by rw [p0]; decide) cz)
      refine lv_iconst (v := nI 0) hx hb dL_fits_300 (by decide) ?_
      refine lv_icmp_ne (tgt := 377) hx hb dL_fits_301 (by decide) (fun cz => absurd rfl cz) (fun _ => ?_)
      exact h304 _ _ _ hP hD hS (lv_sub hl [1, 2, 3, 4, 5, 0] rfl)
    · refine lv_iload hx hb dL_fits_248 (lv_at hl 0 rfl) ?_
      refine lv_if_ne (tgt := 257) hx hb dL_fits_250 (by decide) (fun _ => ?_) (fun cz => absurd (cz.symm.trans s0) nI_01)
      refine lv_iconst (v := nI 0) hx hb dL_fits_257 (by decide) ?_
      refine lv_aload_n hx hb dL_fits_258 rfl (lv_at hl 1 rfl) ?_
      refine lv_iload hx hb dL_fits_259 (lv_at hl 5 rfl) ?_
      refine x_get (pre := []) (As := [.ref (eO E), .int (nI k)]) (rest := [.int (nI 0)]) ⟨hx, hb, hml, hown, hts⟩ (kg_where l D E x rfl hk8) (vx_cwSW 2 hts gL_fits_L_where rfl rfl rfl (by decide +kernel) ⟨Nat.le_of_ble_eq_true rfl, Nat.le_of_ble_eq_true rfl⟩) hK hX hN hP hD hS hA rfl hl.1 rfl (Nat.le_of_ble_eq_true rfl) dL_fits_261 ⟨Nat.le_of_ble_eq_true rfl, Nat.le_of_ble_eq_true rfl⟩ (fun H locs hP hD hS => ?_)
      refine lv_iconst (v := -1) hx hb dL_fits_264 (by decide) ?_
      refine lv_icmp_ne (tgt := 272) hx hb dL_fits_265 (by decide) (fun _ => ?_) (fun cz => absurd (w0.symm.trans cz) (nI_nem1 (by omega)))
      refine lv_iconst (v := nI 0) hx hb dL_fits_272 (by decide) ?_
      refine lv_icmp_ne (tgt := 377) hx hb dL_fits_273 (by decide) (fun cz => absurd rfl cz) (fun _ => ?_)
      refine lv_iload hx hb dL_fits_276 (lv_at hl 0 rfl) ?_
      refine lv_iconst (v := nI 1) hx hb dL_fits_278 (by decide) ?_
      refine lv_icmp_ne (tgt := 286) hx hb dL_fits_279 (by decide) (fun cz => absurd s0 cz) (fun _ => ?_)
      refine lv_iconst (v := nI 1) hx hb dL_fits_282 (by decide) ?_
      refine lv_goto (tgt := 287) hx hb dL_fits_283 (by decide) ?_
      refine lv_aload_n hx hb dL_fits_287 rfl (lv_at hl 1 rfl) ?_
      refine lv_iload hx hb dL_fits_288 (lv_at hl 5 rfl) ?_
      refine x_get (pre := []) (As := [.ref (eO E), .int (nI k)]) (rest := [.int (nI 1)]) ⟨hx, hb, hml, hown, hts⟩ (kg_place l D E x rfl hk8) (vx_cwSW 2 hts gL_fits_L_place rfl rfl rfl (by decide +kernel) ⟨Nat.le_of_ble_eq_true rfl, Nat.le_of_ble_eq_true rfl⟩) hK hX hN hP hD hS hA rfl hl.1 rfl (Nat.le_of_ble_eq_true rfl) dL_fits_290 ⟨Nat.le_of_ble_eq_true rfl, Nat.le_of_ble_eq_true rfl⟩ (fun H locs hP hD hS => ?_)
      refine lv_if_lt (tgt := 300) hx hb dL_fits_293 (by decide) (fun cz => absurd cz (by rw [p0]; exact nI_pos (by omega))) (fun _ => ?_)
      refine lv_iconst (v := nI 1) hx hb dL_fits_296 (by decide) ?_
      refine lv_goto (tgt := 301) hx hb dL_fits_297 (by decide) ?_
      refine lv_icmp_ne (tgt := 377) hx hb dL_fits_301 (by decide) (fun cz => absurd rfl cz) (fun _ => ?_)
      exact h304 _ _ _ hP hD hS (lv_sub hl [1, 2, 3, 4, 5, 0] rfl)
    · refine lv_iload hx hb dL_fits_248 (lv_at hl 0 rfl) ?_
      refine lv_if_ne (tgt := 257) hx hb dL_fits_250 (by decide) (fun _ => ?_) (fun cz => absurd (cz.symm.trans s0) nI_02)
      refine lv_iconst (v := nI 0) hx hb dL_fits_257 (by decide) ?_
      refine lv_aload_n hx hb dL_fits_258 rfl (lv_at hl 1 rfl) ?_
      refine lv_iload hx hb dL_fits_259 (lv_at hl 5 rfl) ?_
      refine x_get (pre := []) (As := [.ref (eO E), .int (nI k)]) (rest := [.int (nI 0)]) ⟨hx, hb, hml, hown, hts⟩ (kg_where l D E x rfl hk8) (vx_cwSW 2 hts gL_fits_L_where rfl rfl rfl (by decide +kernel) ⟨Nat.le_of_ble_eq_true rfl, Nat.le_of_ble_eq_true rfl⟩) hK hX hN hP hD hS hA rfl hl.1 rfl (Nat.le_of_ble_eq_true rfl) dL_fits_261 ⟨Nat.le_of_ble_eq_true rfl, Nat.le_of_ble_eq_true rfl⟩ (fun H locs hP hD hS => ?_)
      refine lv_iconst (v := -1) hx hb dL_fits_264 (by decide) ?_
      refine lv_icmp_ne (tgt := 272) hx hb dL_fits_265 (by decide) (fun _ => ?_) (fun cz => absurd (w0.symm.trans cz) (nI_nem1 (by omega)))
      refine lv_iconst (v := nI 0) hx hb dL_fits_272 (by decide) ?_
      refine lv_icmp_ne (tgt := 377) hx hb dL_fits_273 (by decide) (fun cz => absurd rfl cz) (fun _ => ?_)
      refine lv_iload hx hb dL_fits_276 (lv_at hl 0 rfl) ?_
      refine lv_iconst (v := nI 1) hx hb dL_fits_278 (by decide) ?_
      refine lv_icmp_ne (tgt := 286) hx hb dL_fits_279 (by decide) (fun _ => ?_) (fun cz => absurd (cz.symm.trans s0) nI_12)
      refine lv_iconst (v := nI 0) hx hb dL_fits_286 (by decide) ?_
      refine lv_aload_n hx hb dL_fits_287 rfl (lv_at hl 1 rfl) ?_
      refine lv_iload hx hb dL_fits_288 (lv_at hl 5 rfl) ?_
      refine x_get (pre := []) (As := [.ref (eO E), .int (nI k)]) (rest := [.int (nI 0)]) ⟨hx, hb, hml, hown, hts⟩ (kg_place l D E x rfl hk8) (vx_cwSW 2 hts gL_fits_L_place rfl rfl rfl (by decide +kernel) ⟨Nat.le_of_ble_eq_true rfl, Nat.le_of_ble_eq_true rfl⟩) hK hX hN hP hD hS hA rfl hl.1 rfl (Nat.le_of_ble_eq_true rfl) dL_fits_290 ⟨Nat.le_of_ble_eq_true rfl, Nat.le_of_ble_eq_true rfl⟩ (fun H locs hP hD hS => ?_)
      refine lv_if_lt (tgt := 300) hx hb dL_fits_293 (by decide) (fun _ => ?_) (fun cz => absurd (by rw [p0]; decide) cz)
      refine lv_iconst (v := nI 0) hx hb dL_fits_300 (by decide) ?_
      refine lv_icmp_ne (tgt := 377) hx hb dL_fits_301 (by decide) (fun cz => absurd rfl cz) (fun _ => ?_)
      exact h304 _ _ _ hP hD hS (lv_sub hl [1, 2, 3, 4, 5, 0] rfl)

set_option maxHeartbeats 4000000 in
set_option maxRecDepth 100000 in
theorem k_fits (l : Launch) (D : va_G) {E : cE} {x : T2} {o mi n : Nat} {pd : Int32} (hO : eO E = o) (hn : n ≤ 1000) (h : pI E x mi n pd) : jI l yL_fits wsL_fits RF D E [] (cW E x) [.ref o, .int pd] (fun r (u : T2) => r = nI 1 ∧ u = x) (cW E) 0 0 := by
  subst hO
  have h0 := pI_now h
  obtain ⟨⟨y, q, w1, w2, w3⟩, hmi, hs, ht, hz, hcd⟩ := h
  have ht2 : ∀ k, k < 8 → x 11 k = -1 ∨ ∃ t, 0 < t ∧ t % 5 = 0 ∧ t ≤ 2000 ∧ x 11 k = nI t ∧ (mi < t ∨ x 6 k = nI 1) := fun k hk => (ht k hk).imp id (fun ⟨t, t1, t2, t3, t4, t5⟩ => ⟨t, t1, t2, t3, t4, t5.imp id (fun c => t_wait w1 hk c)⟩)
  refine jI.startC (cc := cL_fits) (maxL := 10) (ret := some .boolean) (own := RL) rfl (by decide) rfl (Nat.le_of_ble_eq_true rfl) ?_
  intro p e s m args below meth c A ls H locs hx hb hml hr hts hown hlocks hA hK hX hN hP hD hS hl
  replace hl : lv_has ls 10 [(0, .ref (eO E)), (1, .int pd)] := hl
  replace hP : va_P D vwCl ([] ++ cW E x) H := hP
  replace hD : va_D A ([] ++ cW E x) := hD
  refine lv_iconst (v := nI 1) hx hb dL_fits_0 (by decide) ?_
  refine lv_istore_n (lv' := [(2, .int (nI 1)), (0, .ref (eO E)), (1, .int pd)]) hx hb dL_fits_1 rfl hl (by decide) rfl (fun ls hl => ?_)
  refine lv_iconst (v := nI 0) hx hb dL_fits_2 (by decide) ?_
  refine lv_istore_n (lv' := [(3, .int (nI 0)), (2, .int (nI 1)), (0, .ref (eO E)), (1, .int pd)]) hx hb dL_fits_3 rfl hl (by decide) rfl (fun ls hl => ?_)
  refine lv_iconst (v := nI 0) hx hb dL_fits_4 (by decide) ?_
  refine lv_istore (lv' := [(4, .int (nI 0)), (3, .int (nI 0)), (2, .int (nI 1)), (0, .ref (eO E)), (1, .int pd)]) hx hb dL_fits_5 hl (by decide) rfl (fun ls hl => ?_)
  refine fits_p hx hb hml hts hown hA hK hX hN (fun j hj => plc_all w1 hj) hn hz (fun cb ls H locs hcb hP hD hS hl => ?_) 6 0 _ _ _ _ rfl rfl hP hD hS (lv_sub hl [3, 4, 2, 1, 0] rfl)
  refine lv_iconst (v := nI 0) hx hb dL_fits_226 (by decide) ?_
  refine lv_istore (lv' := [(4, .int (nI 0)), (0, .ref (eO E)), (1, .int pd), (2, .int (nI 1)), (3, .int cb)]) hx hb dL_fits_227 hl (by decide) rfl (fun ls hl => ?_)
  refine fits_v hx hb hml hts hown hA hK hX hN h0 hmi (fun k hk => v_cases w1 hk) ht2 hs (fun ls H locs hP hD hS hl => ?_) 8 0 _ _ _ rfl hP hD hS (lv_sub hl [1, 2, 3, 4, 0] rfl)
  refine lv_iload_n hx hb dL_fits_385 rfl (lv_at hl 2 rfl) ?_
  refine lv_if_eq (tgt := 401) hx hb dL_fits_386 (by decide) (fun cz => absurd cz (by decide)) (fun _ => ?_)
  refine lv_iload_n hx hb dL_fits_389 rfl (lv_at hl 3 rfl) ?_
  refine lv_bipush (v := nI 60) hx hb dL_fits_390 (by decide) ?_
  refine lv_iload_n hx hb dL_fits_392 rfl (lv_at hl 1 rfl) ?_
  refine lv_iadd hx hb dL_fits_393 ?_
  refine lv_icmp_ne (tgt := 401) hx hb dL_fits_394 (by decide) (fun cz => absurd (hcb.trans hcd) cz) (fun _ => ?_)
  refine lv_iconst (v := nI 1) hx hb dL_fits_397 (by decide) ?_
  refine lv_goto (tgt := 402) hx hb dL_fits_398 (by decide) ?_
  exact W.zret (ty := .boolean) hx hb hr (by decide) (fun t ht hW => ⟨⟨_, x, rfl, ⟨rfl, rfl⟩, by rw [ht]; exact hP, va_K.moved hW.alike hK, hD⟩, hS.F ht⟩) hS.2.2 dL_fits_402
