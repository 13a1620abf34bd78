/-! the cases of the law: a call of each kind, from its test to where all meet -/

set_option maxHeartbeats 4000000 in
set_option maxRecDepth 100000 in
theorem cs_plan {p : Program} {e : Env} {s : State} {m : MethodId} {below : List Frame} {meth : Method} {c : Code} {b L : Nat} {xs : Nat → Int32} {D : va_G} {o ha : Nat} {ci : ClassId} {f : Nat → Int32} {E : cE} {x : T2} {i mi cells slots z v j : Nat} {pd : Int32} {ls : Array Slot} {H : Heap} {locs : List Loc} (l : Launch) (hl0 : l.stackTraces = false) (C0 : lw_At p s m meth c b L xs) (hN : jNc s) (hE : lS D s o ci E) (h : pI E x mi i pd) (hm9 : mi ≤ 9 * i) (hi : i < 56) (hf : ∀ v, v < 8 → f v = x 10 v) (hz : z < 2 ^ 31) (hv : v < 8) (hj : j < 6) (hcl : cells + 12 ≤ 671634) (hsl : slots + 120 ≤ 7086567) (hn : lwN p l e s m b below meth c D o ha ci f i cells slots) (hP : va_P D vwCl (lW ha ci f E x) H) (hD : va_D (fun q : Nat => s.heap.size ≤ q) (lW ha ci f E x)) (hS : va_S (fun q : Nat => s.heap.size ≤ q) s.heap H locs) (hl : lv_has ls 17 [(0, .ref b), (1, .ref o), (2, .ref ha), (3, .int pd), (4, .int (nI mi)), (5, .int (nI 1)), (6, .int (nI i)), (8, .int (nI z)), (10, .int (nI v)), (11, .int (nI j))]) : W p l e room_1 s m #[Value.ref b] below meth c H locs (cells) (slots) (lw_Z below #[Value.ref b] s) (F0 m 85 ls []) := by
  obtain ⟨hx, hb, hr, hml, hown, hts0, hX, hbl, hlocks, hgv⟩ := C0
  have hown : s.vm.findClass RL = some m.cls := hown
  have hts : ∀ w ∈ wsL_law, w.before #[Value.ref b] s = true := fun w h => hts0 w (wsL_law_in w h)
  have hA : ∀ q : Nat, s.heap.size ≤ q → (fun q : Nat => s.heap.size ≤ q) q := fun _ h => h
  unfold lwN at hn
  rcases p_or h hv hj with ⟨k, a, hk⟩ | ⟨k, hk⟩
  · have hk6 := hk.1
    have hka := hk.2.1
    refine lv_aload_n hx hb dL_law_85 rfl (lv_at hl 1 rfl) ?_
    refine lv_iload hx hb dL_law_86 (lv_at hl 8 rfl) ?_
    refine lv_iload hx hb dL_law_88 (lv_at hl 9 rfl) ?_
    refine x_ref (pre := [(ha, .inl (ci, 8, .inl f))]) (As := [.ref o, .int (nI v), .int (nI j)]) (rest := []) ⟨hx, hb, hml, hown, hts⟩ (ks_plan_yes l D hl0 hE.2.2.1 hv hj hk) (vx_cwSW 3 hts gL_law_L_plan rfl rfl rfl (by decide +kernel) ⟨Nat.le_of_ble_eq_true rfl, Nat.le_of_ble_eq_true rfl⟩) hE.1 hE.2.1 hN hP hD hS hA rfl hl.1 rfl (Nat.le_of_ble_eq_true rfl) dL_law_90 ⟨by show cells + 1 ≤ 671634; omega, by show slots + 10 ≤ 7086567; omega⟩ (fun H locs hP hD hS => ?_)
    refine lv_istore (lv' := [(12, .int (-103)), (0, .ref b), (1, .ref o), (2, .ref ha), (3, .int pd), (4, .int (nI mi)), (5, .int (nI 1)), (6, .int (nI i)), (8, .int (nI z)), (10, .int (nI v)), (11, .int (nI j))]) hx hb dL_law_93 hl (by decide) rfl (fun ls hl => ?_)
    refine lv_iload hx hb dL_law_95 (lv_at hl 0 rfl) ?_
    refine lv_bipush (v := -103) hx hb dL_law_97 (by decide) ?_
    refine lv_icmp_ne (tgt := 133) hx hb dL_law_99 (by decide) (fun cz => absurd rfl cz) (fun _ => ?_)
    refine lv_aload_n hx hb dL_law_102 rfl (lv_at hl 2 rfl) ?_
    refine lv_iload hx hb dL_law_103 (lv_at hl 9 rfl) ?_
    refine lv_iload hx hb dL_law_105 (lv_at hl 10 rfl) ?_
    refine x_call (pre := [(ha, .inl (ci, 8, .inl f))]) (As := [.ref o, .int (nI v), .int (nI j)]) (rest := []) ⟨hx, hb, hml, hown, hts⟩ (ks_drop_yes l D hE.2.2.1 h hv hj hk) (by decide) (by decide) (vx_cwSW 3 hts gL_law_L_drop rfl rfl rfl (by decide +kernel) ⟨Nat.le_of_ble_eq_true rfl, Nat.le_of_ble_eq_true rfl⟩) hE.1 hE.2.1 hN hP hD hS hA rfl hl.1 rfl (Nat.le_of_ble_eq_true rfl) dL_law_107 ⟨by show cells + 1 + 1 ≤ 671634; omega, by show slots + 10 + 10 ≤ 7086567; omega⟩ (fun r1 E1 x1 H locs hw hg hP hD hS => ?_)
    have hE1 := lS_s hE hg
    obtain ⟨hr1, hp1, hn1, -, hz1⟩ := hw
    refine q_top (x' := (nI (k - 1))) hr1 ?_
    refine lv_if_lt (tgt := 129) hx hb dL_law_110 (by decide) (fun cz => absurd cz (nI_pos (by omega))) (fun _ => ?_)
    obtain ⟨mc, ms, hmc, hms, hk2⟩ := ks_plan_no l D hE1.2.2.1 hp1 hv hj hn1
    refine lv_aload_n hx hb dL_law_113 rfl (lv_at hl 2 rfl) ?_
    refine lv_iload hx hb dL_law_114 (lv_at hl 9 rfl) ?_
    refine lv_iload hx hb dL_law_116 (lv_at hl 10 rfl) ?_
    refine x_call (pre := [(ha, .inl (ci, 8, .inl f))]) (As := [.ref o, .int (nI v), .int (nI j)]) (rest := []) ⟨hx, hb, hml, hown, hts⟩ (hk2) hmc hms (vx_cwSW 3 hts gL_law_L_plan rfl rfl rfl (by decide +kernel) ⟨Nat.le_of_ble_eq_true rfl, Nat.le_of_ble_eq_true rfl⟩) hE1.1 hE1.2.1 hN hP hD hS hA rfl hl.1 rfl (Nat.le_of_ble_eq_true rfl) dL_law_118 ⟨by show cells + 1 + 1 + 1 ≤ 671634; omega, by show slots + 10 + 10 + 10 ≤ 7086567; omega⟩ (fun r2 E2 x2 H locs hw hg hP hD hS => ?_)
    have hE2 := lS_s hE1 hg
    obtain ⟨hr2, hp2, -, hz2⟩ := hw
    refine q_top (x' := (nI (k - 1 + 1))) hr2 ?_
    refine lv_iconst (v := nI 1) hx hb dL_law_121 (by decide) ?_
    refine lv_icmp_lt (tgt := 129) hx hb dL_law_122 (by decide) (fun cz => absurd cz (nI_nlt (by omega) (by omega))) (fun _ => ?_)
    refine lv_iconst (v := nI 1) hx hb dL_law_125 (by decide) ?_
    refine lv_goto (tgt := 164) hx hb dL_law_126 (by decide) ?_
    refine lv_istore (lv' := [(5, .int (nI 1)), (12, .int (-103)), (0, .ref b), (1, .ref o), (2, .ref ha), (3, .int pd), (4, .int (nI mi)), (6, .int (nI i)), (8, .int (nI z)), (10, .int (nI v)), (11, .int (nI j))]) hx hb dL_law_164 hl (by decide) rfl (fun ls hl => ?_)
    refine lv_goto (tgt := 911) hx hb dL_law_166 (by decide) ?_
    refine W.widen (k := cells + 12) (n := slots + 120) (by omega) (by omega) ?_
    exact hn E2 x2 _ _ _ _ _ hE2 (pI_le hp2 (Nat.le_succ i)) (by omega) (had_of hf (zM_tr hz1 hz2)) hP hD hS (lv_sub hl [2, 3, 4, 5, 6, 0, 7] rfl)
  · have hk5 := hk.1
    obtain ⟨mc, ms, hmc, hms, hk2⟩ := ks_plan_no l D hE.2.2.1 h hv hj hk
    refine lv_aload_n hx hb dL_law_85 rfl (lv_at hl 1 rfl) ?_
    refine lv_iload hx hb dL_law_86 (lv_at hl 8 rfl) ?_
    refine lv_iload hx hb dL_law_88 (lv_at hl 9 rfl) ?_
    refine x_call (pre := [(ha, .inl (ci, 8, .inl f))]) (As := [.ref o, .int (nI v), .int (nI j)]) (rest := []) ⟨hx, hb, hml, hown, hts⟩ (hk2) hmc hms (vx_cwSW 3 hts gL_law_L_plan rfl rfl rfl (by decide +kernel) ⟨Nat.le_of_ble_eq_true rfl, Nat.le_of_ble_eq_true rfl⟩) hE.1 hE.2.1 hN hP hD hS hA rfl hl.1 rfl (Nat.le_of_ble_eq_true rfl) dL_law_90 ⟨by show cells + 1 ≤ 671634; omega, by show slots + 10 ≤ 7086567; omega⟩ (fun r1 E1 x1 H locs hw hg hP hD hS => ?_)
    have hE1 := lS_s hE hg
    obtain ⟨hr1, hp1, ⟨a1, ha1⟩, hz1⟩ := hw
    refine q_top (x' := (nI (k + 1))) hr1 ?_
    refine lv_istore (lv' := [(12, .int (nI (k + 1))), (0, .ref b), (1, .ref o), (2, .ref ha), (3, .int pd), (4, .int (nI mi)), (5, .int (nI 1)), (6, .int (nI i)), (8, .int (nI z)), (10, .int (nI v)), (11, .int (nI j))]) hx hb dL_law_93 hl (by decide) rfl (fun ls hl => ?_)
    refine lv_iload hx hb dL_law_95 (lv_at hl 0 rfl) ?_
    refine lv_bipush (v := -103) hx hb dL_law_97 (by decide) ?_
    refine lv_icmp_ne (tgt := 133) hx hb dL_law_99 (by decide) (fun _ => ?_) (fun cz => absurd cz (nI_ne103 (by omega)))
    refine lv_iload hx hb dL_law_133 (lv_at hl 0 rfl) ?_
    refine lv_iconst (v := nI 1) hx hb dL_law_135 (by decide) ?_
    refine lv_icmp_lt (tgt := 163) hx hb dL_law_136 (by decide) (fun cz => absurd cz (nI_nlt (by omega) (by omega))) (fun _ => ?_)
    refine lv_iload hx hb dL_law_139 (lv_at hl 0 rfl) ?_
    refine lv_bipush (v := nI 6) hx hb dL_law_141 (by decide) ?_
    refine lv_icmp_gt (tgt := 163) hx hb dL_law_143 (by decide) (fun cz => absurd cz (nI_nlt (by omega) (by decide))) (fun _ => ?_)
    refine lv_aload_n hx hb dL_law_146 rfl (lv_at hl 2 rfl) ?_
    refine lv_iload hx hb dL_law_147 (lv_at hl 9 rfl) ?_
    refine lv_iload hx hb dL_law_149 (lv_at hl 10 rfl) ?_
    refine x_ref (pre := [(ha, .inl (ci, 8, .inl f))]) (As := [.ref o, .int (nI v), .int (nI j)]) (rest := []) ⟨hx, hb, hml, hown, hts⟩ (ks_plan_yes l D hl0 hE1.2.2.1 hv hj ha1) (vx_cwSW 3 hts gL_law_L_plan rfl rfl rfl (by decide +kernel) ⟨Nat.le_of_ble_eq_true rfl, Nat.le_of_ble_eq_true rfl⟩) hE1.1 hE1.2.1 hN hP hD hS hA rfl hl.1 rfl (Nat.le_of_ble_eq_true rfl) dL_law_151 ⟨by show cells + 1 + 1 ≤ 671634; omega, by show slots + 10 + 10 ≤ 7086567; omega⟩ (fun H locs hP hD hS => ?_)
    refine lv_bipush (v := -103) hx hb dL_law_154 (by decide) ?_
    refine lv_icmp_ne (tgt := 163) hx hb dL_law_156 (by decide) (fun cz => absurd rfl cz) (fun _ => ?_)
    refine lv_iconst (v := nI 1) hx hb dL_law_159 (by decide) ?_
    refine lv_goto (tgt := 164) hx hb dL_law_160 (by decide) ?_
    refine lv_istore (lv' := [(5, .int (nI 1)), (12, .int (nI (k + 1))), (0, .ref b), (1, .ref o), (2, .ref ha), (3, .int pd), (4, .int (nI mi)), (6, .int (nI i)), (8, .int (nI z)), (10, .int (nI v)), (11, .int (nI j))]) hx hb dL_law_164 hl (by decide) rfl (fun ls hl => ?_)
    refine lv_goto (tgt := 911) hx hb dL_law_166 (by decide) ?_
    refine W.widen (k := cells + 12) (n := slots + 120) (by omega) (by omega) ?_
    exact hn E1 x1 _ _ _ _ _ hE1 (pI_le hp1 (Nat.le_succ i)) (by omega) (had_of hf hz1) hP hD hS (lv_sub hl [2, 3, 4, 5, 6, 0, 7] rfl)

set_option maxHeartbeats 4000000 in
set_option maxRecDepth 100000 in
theorem cs_drop {p : Program} {e : Env} {s : State} {m : MethodId} {below : List Frame} {meth : Method} {c : Code} {b L : Nat} {xs : Nat → Int32} {D : va_G} {o ha : Nat} {ci : ClassId} {f : Nat → Int32} {E : cE} {x : T2} {i mi cells slots z v j : Nat} {pd : Int32} {ls : Array Slot} {H : Heap} {locs : List Loc} (l : Launch) (hl0 : l.stackTraces = false) (C0 : lw_At p s m meth c b L xs) (hN : jNc s) (hE : lS D s o ci E) (h : pI E x mi i pd) (hm9 : mi ≤ 9 * i) (hi : i < 56) (hf : ∀ v, v < 8 → f v = x 10 v) (hz : z < 2 ^ 31) (hv : v < 8) (hj : j < 6) (hcl : cells + 12 ≤ 671634) (hsl : slots + 120 ≤ 7086567) (hn : lwN p l e s m b below meth c D o ha ci f i cells slots) (hP : va_P D vwCl (lW ha ci f E x) H) (hD : va_D (fun q : Nat => s.heap.size ≤ q) (lW ha ci f E x)) (hS : va_S (fun q : Nat => s.heap.size ≤ q) s.heap H locs) (hl : lv_has ls 17 [(0, .ref b), (1, .ref o), (2, .ref ha), (3, .int pd), (4, .int (nI mi)), (5, .int (nI 1)), (6, .int (nI i)), (8, .int (nI z)), (10, .int (nI v)), (11, .int (nI j))]) : W p l e room_1 s m #[Value.ref b] below meth c H locs (cells) (slots) (lw_Z below #[Value.ref b] s) (F0 m 175 ls []) := by
  obtain ⟨hx, hb, hr, hml, hown, hts0, hX, hbl, hlocks, hgv⟩ := C0
  have hown : s.vm.findClass RL = some m.cls := hown
  have hts : ∀ w ∈ wsL_law, w.before #[Value.ref b] s = true := fun w h => hts0 w (wsL_law_in w h)
  have hA : ∀ q : Nat, s.heap.size ≤ q → (fun q : Nat => s.heap.size ≤ q) q := fun _ h => h
  unfold lwN at hn
  rcases p_or h hv hj with ⟨k, a, hk⟩ | ⟨k, hk⟩
  · have hk6 := hk.1
    have hka := hk.2.1
    refine lv_aload_n hx hb dL_law_175 rfl (lv_at hl 1 rfl) ?_
    refine lv_iload hx hb dL_law_176 (lv_at hl 8 rfl) ?_
    refine x_get (pre := [(ha, .inl (ci, 8, .inl f))]) (As := [.ref o, .int (nI v)]) (rest := []) ⟨hx, hb, hml, hown, hts⟩ (kg_state l D E x hE.2.2.1 hv) (vx_cwSW 2 hts gL_law_L_state rfl rfl rfl (by decide +kernel) ⟨Nat.le_of_ble_eq_true rfl, Nat.le_of_ble_eq_true rfl⟩) hE.1 hE.2.1 hN hP hD hS hA rfl hl.1 rfl (Nat.le_of_ble_eq_true rfl) dL_law_178 ⟨by show cells + 0 ≤ 671634; omega, by show slots + 0 ≤ 7086567; omega⟩ (fun H locs hP hD hS => ?_)
    refine lv_istore (lv' := [(12, .int (x 6 v)), (0, .ref b), (1, .ref o), (2, .ref ha), (3, .int pd), (4, .int (nI mi)), (5, .int (nI 1)), (6, .int (nI i)), (8, .int (nI z)), (10, .int (nI v)), (11, .int (nI j))]) hx hb dL_law_181 hl (by decide) rfl (fun ls hl => ?_)
    refine lv_aload_n hx hb dL_law_183 rfl (lv_at hl 2 rfl) ?_
    refine lv_iload hx hb dL_law_184 (lv_at hl 9 rfl) ?_
    refine lv_iload hx hb dL_law_186 (lv_at hl 10 rfl) ?_
    refine x_call (pre := [(ha, .inl (ci, 8, .inl f))]) (As := [.ref o, .int (nI v), .int (nI j)]) (rest := []) ⟨hx, hb, hml, hown, hts⟩ (ks_drop_yes l D hE.2.2.1 h hv hj hk) (by decide) (by decide) (vx_cwSW 3 hts gL_law_L_drop rfl rfl rfl (by decide +kernel) ⟨Nat.le_of_ble_eq_true rfl, Nat.le_of_ble_eq_true rfl⟩) hE.1 hE.2.1 hN hP hD hS hA rfl hl.1 rfl (Nat.le_of_ble_eq_true rfl) dL_law_188 ⟨by show cells + 1 ≤ 671634; omega, by show slots + 10 ≤ 7086567; omega⟩ (fun r1 E1 x1 H locs hw hg hP hD hS => ?_)
    have hE1 := lS_s hE hg
    obtain ⟨hr1, hp1, hn1, hst, hz1⟩ := hw
    refine q_top (x' := (nI (k - 1))) hr1 ?_
    refine lv_istore (lv' := [(13, .int (nI (k - 1))), (12, .int (x 6 v)), (0, .ref b), (1, .ref o), (2, .ref ha), (3, .int pd), (4, .int (nI mi)), (5, .int (nI 1)), (6, .int (nI i)), (8, .int (nI z)), (10, .int (nI v)), (11, .int (nI j))]) hx hb dL_law_191 hl (by decide) rfl (fun ls hl => ?_)
    refine lv_iload hx hb dL_law_193 (lv_at hl 0 rfl) ?_
    refine lv_bipush (v := -103) hx hb dL_law_195 (by decide) ?_
    refine lv_icmp_eq (tgt := 251) hx hb dL_law_197 (by decide) (fun cz => absurd cz (nI_ne103 (by omega))) (fun _ => ?_)
    refine lv_iload hx hb dL_law_200 (lv_at hl 0 rfl) ?_
    refine lv_if_lt (tgt := 255) hx hb dL_law_202 (by decide) (fun cz => absurd cz (nI_pos (by omega))) (fun _ => ?_)
    refine lv_iload hx hb dL_law_205 (lv_at hl 0 rfl) ?_
    refine lv_bipush (v := nI 6) hx hb dL_law_207 (by decide) ?_
    refine lv_icmp_ge (tgt := 255) hx hb dL_law_209 (by decide) (fun cz => absurd cz (nI_ge (by omega) (by decide))) (fun _ => ?_)
    refine lv_aload_n hx hb dL_law_212 rfl (lv_at hl 3 rfl) ?_
    refine lv_iload hx hb dL_law_213 (lv_at hl 10 rfl) ?_
    refine lv_iload hx hb dL_law_215 (lv_at hl 11 rfl) ?_
    refine x_ref (pre := [(ha, .inl (ci, 8, .inl f))]) (As := [.ref o, .int (nI v), .int (nI j)]) (rest := []) ⟨hx, hb, hml, hown, hts⟩ (ks_drop_no l D hl0 hE1.2.2.1 hv hj hn1) (vx_cwSW 3 hts gL_law_L_drop rfl rfl rfl (by decide +kernel) ⟨Nat.le_of_ble_eq_true rfl, Nat.le_of_ble_eq_true rfl⟩) hE1.1 hE1.2.1 hN hP hD hS hA rfl hl.1 rfl (Nat.le_of_ble_eq_true rfl) dL_law_217 ⟨by show cells + 1 + 1 ≤ 671634; omega, by show slots + 10 + 10 ≤ 7086567; omega⟩ (fun H locs hP hD hS => ?_)
    refine lv_bipush (v := -103) hx hb dL_law_220 (by decide) ?_
    refine lv_icmp_ne (tgt := 255) hx hb dL_law_222 (by decide) (fun cz => absurd rfl cz) (fun _ => ?_)
    refine lv_aload_n hx hb dL_law_225 rfl (lv_at hl 3 rfl) ?_
    refine lv_iload hx hb dL_law_226 (lv_at hl 10 rfl) ?_
    refine x_get (pre := [(ha, .inl (ci, 8, .inl f))]) (As := [.ref o, .int (nI v)]) (rest := []) ⟨hx, hb, hml, hown, hts⟩ (kg_state l D E1 x1 hE1.2.2.1 hv) (vx_cwSW 2 hts gL_law_L_state rfl rfl rfl (by decide +kernel) ⟨Nat.le_of_ble_eq_true rfl, Nat.le_of_ble_eq_true rfl⟩) hE1.1 hE1.2.1 hN hP hD hS hA rfl hl.1 rfl (Nat.le_of_ble_eq_true rfl) dL_law_228 ⟨by show cells + 1 + 1 + 0 ≤ 671634; omega, by show slots + 10 + 10 + 0 ≤ 7086567; omega⟩ (fun H locs hP hD hS => ?_)
    refine lv_iload hx hb dL_law_231 (lv_at hl 1 rfl) ?_
    rcases hst with c1 | ⟨c1, c2⟩
    · refine lv_icmp_eq (tgt := 251) hx hb dL_law_233 (by decide) (fun _ => ?_) (fun cz => absurd c1 cz)
      refine lv_iconst (v := nI 1) hx hb dL_law_251 (by decide) ?_
      refine lv_goto (tgt := 256) hx hb dL_law_252 (by decide) ?_
      refine lv_istore (lv' := [(5, .int (nI 1)), (13, .int (nI (k - 1))), (12, .int (x 6 v)), (0, .ref b), (1, .ref o), (2, .ref ha), (3, .int pd), (4, .int (nI mi)), (6, .int (nI i)), (8, .int (nI z)), (10, .int (nI v)), (11, .int (nI j))]) hx hb dL_law_256 hl (by decide) rfl (fun ls hl => ?_)
      refine lv_goto (tgt := 911) hx hb dL_law_258 (by decide) ?_
      refine W.widen (k := cells + 12) (n := slots + 120) (by omega) (by omega) ?_
      exact hn E1 x1 _ _ _ _ _ hE1 (pI_le hp1 (Nat.le_succ i)) (by omega) (had_of hf hz1) hP hD hS (lv_sub hl [3, 4, 5, 6, 7, 0, 8] rfl)
    · refine lv_icmp_eq (tgt := 251) hx hb dL_law_233 (by decide) (fun cz => absurd (c2.symm.trans (cz.trans c1)) nI_01) (fun _ => ?_)
      refine lv_iload hx hb dL_law_236 (lv_at hl 1 rfl) ?_
      refine lv_iconst (v := nI 1) hx hb dL_law_238 (by decide) ?_
      refine lv_icmp_ne (tgt := 255) hx hb dL_law_239 (by decide) (fun cz => absurd c1 cz) (fun _ => ?_)
      refine lv_aload_n hx hb dL_law_242 rfl (lv_at hl 3 rfl) ?_
      refine lv_iload hx hb dL_law_243 (lv_at hl 10 rfl) ?_
      refine x_get (pre := [(ha, .inl (ci, 8, .inl f))]) (As := [.ref o, .int (nI v)]) (rest := []) ⟨hx, hb, hml, hown, hts⟩ (kg_state l D E1 x1 hE1.2.2.1 hv) (vx_cwSW 2 hts gL_law_L_state rfl rfl rfl (by decide +kernel) ⟨Nat.le_of_ble_eq_true rfl, Nat.le_of_ble_eq_true rfl⟩) hE1.1 hE1.2.1 hN hP hD hS hA rfl hl.1 rfl (Nat.le_of_ble_eq_true rfl) dL_law_245 ⟨by show cells + 1 + 1 + 0 ≤ 671634; omega, by show slots + 10 + 10 + 0 ≤ 7086567; omega⟩ (fun H locs hP hD hS => ?_)
      refine lv_if_ne (tgt := 255) hx hb dL_law_248 (by decide) (fun cz => absurd c2 cz) (fun _ => ?_)
      refine lv_iconst (v := nI 1) hx hb dL_law_251 (by decide) ?_
      refine lv_goto (tgt := 256) hx hb dL_law_252 (by decide) ?_
      refine lv_istore (lv' := [(5, .int (nI 1)), (13, .int (nI (k - 1))), (12, .int (x 6 v)), (0, .ref b), (1, .ref o), (2, .ref ha), (3, .int pd), (4, .int (nI mi)), (6, .int (nI i)), (8, .int (nI z)), (10, .int (nI v)), (11, .int (nI j))]) hx hb dL_law_256 hl (by decide) rfl (fun ls hl => ?_)
      refine lv_goto (tgt := 911) hx hb dL_law_258 (by decide) ?_
      refine W.widen (k := cells + 12) (n := slots + 120) (by omega) (by omega) ?_
      exact hn E1 x1 _ _ _ _ _ hE1 (pI_le hp1 (Nat.le_succ i)) (by omega) (had_of hf hz1) hP hD hS (lv_sub hl [3, 4, 5, 6, 7, 0, 8] rfl)
  · refine lv_aload_n hx hb dL_law_175 rfl (lv_at hl 1 rfl) ?_
    refine lv_iload hx hb dL_law_176 (lv_at hl 8 rfl) ?_
    refine x_get (pre := [(ha, .inl (ci, 8, .inl f))]) (As := [.ref o, .int (nI v)]) (rest := []) ⟨hx, hb, hml, hown, hts⟩ (kg_state l D E x hE.2.2.1 hv) (vx_cwSW 2 hts gL_law_L_state rfl rfl rfl (by decide +kernel) ⟨Nat.le_of_ble_eq_true rfl, Nat.le_of_ble_eq_true rfl⟩) hE.1 hE.2.1 hN hP hD hS hA rfl hl.1 rfl (Nat.le_of_ble_eq_true rfl) dL_law_178 ⟨by show cells + 0 ≤ 671634; omega, by show slots + 0 ≤ 7086567; omega⟩ (fun H locs hP hD hS => ?_)
    refine lv_istore (lv' := [(12, .int (x 6 v)), (0, .ref b), (1, .ref o), (2, .ref ha), (3, .int pd), (4, .int (nI mi)), (5, .int (nI 1)), (6, .int (nI i)), (8, .int (nI z)), (10, .int (nI v)), (11, .int (nI j))]) hx hb dL_law_181 hl (by decide) rfl (fun ls hl => ?_)
    refine lv_aload_n hx hb dL_law_183 rfl (lv_at hl 2 rfl) ?_
    refine lv_iload hx hb dL_law_184 (lv_at hl 9 rfl) ?_
    refine lv_iload hx hb dL_law_186 (lv_at hl 10 rfl) ?_
    refine x_ref (pre := [(ha, .inl (ci, 8, .inl f))]) (As := [.ref o, .int (nI v), .int (nI j)]) (rest := []) ⟨hx, hb, hml, hown, hts⟩ (ks_drop_no l D hl0 hE.2.2.1 hv hj hk) (vx_cwSW 3 hts gL_law_L_drop rfl rfl rfl (by decide +kernel) ⟨Nat.le_of_ble_eq_true rfl, Nat.le_of_ble_eq_true rfl⟩) hE.1 hE.2.1 hN hP hD hS hA rfl hl.1 rfl (Nat.le_of_ble_eq_true rfl) dL_law_188 ⟨by show cells + 1 ≤ 671634; omega, by show slots + 10 ≤ 7086567; omega⟩ (fun H locs hP hD hS => ?_)
    refine lv_istore (lv' := [(13, .int (-103)), (12, .int (x 6 v)), (0, .ref b), (1, .ref o), (2, .ref ha), (3, .int pd), (4, .int (nI mi)), (5, .int (nI 1)), (6, .int (nI i)), (8, .int (nI z)), (10, .int (nI v)), (11, .int (nI j))]) hx hb dL_law_191 hl (by decide) rfl (fun ls hl => ?_)
    refine lv_iload hx hb dL_law_193 (lv_at hl 0 rfl) ?_
    refine lv_bipush (v := -103) hx hb dL_law_195 (by decide) ?_
    refine lv_icmp_eq (tgt := 251) hx hb dL_law_197 (by decide) (fun _ => ?_) (fun cz => absurd rfl cz)
    refine lv_iconst (v := nI 1) hx hb dL_law_251 (by decide) ?_
    refine lv_goto (tgt := 256) hx hb dL_law_252 (by decide) ?_
    refine lv_istore (lv' := [(5, .int (nI 1)), (13, .int (-103)), (12, .int (x 6 v)), (0, .ref b), (1, .ref o), (2, .ref ha), (3, .int pd), (4, .int (nI mi)), (6, .int (nI i)), (8, .int (nI z)), (10, .int (nI v)), (11, .int (nI j))]) hx hb dL_law_256 hl (by decide) rfl (fun ls hl => ?_)
    refine lv_goto (tgt := 911) hx hb dL_law_258 (by decide) ?_
    refine W.widen (k := cells + 12) (n := slots + 120) (by omega) (by omega) ?_
    exact hn E x _ _ _ _ _ hE (pI_le h (Nat.le_succ i)) (by omega) (had_of hf (zM_rf (pI_S h))) hP hD hS (lv_sub hl [3, 4, 5, 6, 7, 0, 8] rfl)

set_option maxHeartbeats 4000000 in
set_option maxRecDepth 100000 in
theorem ask_loop {p : Program} {e : Env} {s : State} {m : MethodId} {below : List Frame} {meth : Method} {c : Code} {b L : Nat} {xs : Nat → Int32} {D : va_G} {o ha : Nat} {ci : ClassId} {f : Nat → Int32} {E : cE} {x : T2} {i mi cells slots v j : Nat} {pd : Int32} {t : Nat} (ht1 : 0 < t) (ht2 : t ≤ 2000) (l : Launch) (hl0 : l.stackTraces = false) (C0 : lw_At p s m meth c b L xs) (hN : jNc s) (hE : lS D s o ci E) (h : pI E x mi i pd) (hm9 : mi ≤ 9 * i) (hf : ∀ v, v < 8 → f v &&& (x 10 v ^^^ -1) = nI 0) (hv : v < 8) (hj : j < 6) (hcl : cells + 12 ≤ 671634) (hsl : slots + 120 ≤ 7086567) (hn : lwN p l e s m b below meth c D o ha ci f i cells slots) : ∀ (d u ce sl : Nat) (ls : Array Slot) (H : Heap) (locs : List Loc), u + d = 8 → ce + d ≤ cells + 12 → sl + 10 * d ≤ slots + 120 → va_P D vwCl (lW ha ci f E x) H → va_D (fun q : Nat => s.heap.size ≤ q) (lW ha ci f E x) → va_S (fun q : Nat => s.heap.size ≤ q) s.heap H locs → lv_has ls 17 [(0, .ref b), (1, .ref o), (2, .ref ha), (3, .int pd), (4, .int (nI mi)), (5, .int (nI 1)), (6, .int (nI i)), (10, .int (nI v)), (11, .int (nI j)), (13, .int (nI t)), (14, .int (nI u))] → W p l e room_1 s m #[Value.ref b] below meth c H locs (ce) (sl) (lw_Z below #[Value.ref b] s) (F0 m 366 ls []) := by
  obtain ⟨hx, hb, hr, hml, hown, hts0, hX, hbl, hlocks, hgv⟩ := C0
  have hown : s.vm.findClass RL = some m.cls := hown
  have hts : ∀ w ∈ wsL_law, w.before #[Value.ref b] s = true := fun w h => hts0 w (wsL_law_in w h)
  have hA : ∀ q : Nat, s.heap.size ≤ q → (fun q : Nat => s.heap.size ≤ q) q := fun _ h => h
  unfold lwN at hn
  intro d
  induction d with
  | zero =>
    intro u ce sl ls H locs hu hc1 hs1 hP hD hS hl
    obtain rfl : u = 8 := by omega
    refine lv_iload hx hb dL_law_366 (lv_at hl 10 rfl) ?_
    refine lv_bipush (v := nI 8) hx hb dL_law_368 (by decide) ?_
    refine lv_icmp_ge (tgt := 427) hx hb dL_law_370 (by decide) (fun _ => ?_) (fun cz => absurd (nI_le (by decide) (by decide)) cz)
    refine lv_goto (tgt := 911) hx hb dL_law_427 (by decide) ?_
    refine W.widen (k := cells + 12) (n := slots + 120) (by omega) (by omega) ?_
    exact hn E x _ _ _ _ _ hE (pI_le h (Nat.le_succ i)) (by omega) hf hP hD hS (lv_sub hl [0, 1, 2, 3, 4, 5, 6] rfl)
  | succ d ih =>
    intro u ce sl ls H locs hud hc1 hs1 hP hD hS hl
    have hu : u < 8 := by omega
    refine lv_iload hx hb dL_law_366 (lv_at hl 10 rfl) ?_
    refine lv_bipush (v := nI 8) hx hb dL_law_368 (by decide) ?_
    refine lv_icmp_ge (tgt := 427) hx hb dL_law_370 (by decide) (fun cz => absurd cz (nI_ge hu (by decide))) (fun _ => ?_)
    refine lv_iload hx hb dL_law_373 (lv_at hl 5 rfl) ?_
    refine lv_if_eq (tgt := 427) hx hb dL_law_375 (by decide) (fun cz => absurd cz (by decide)) (fun _ => ?_)
    refine lv_iload hx hb dL_law_378 (lv_at hl 9 rfl) ?_
    refine lv_if_le (tgt := 427) hx hb dL_law_380 (by decide) (fun cz => absurd cz (nI_nle ht1 (by omega))) (fun _ => ?_)
    refine lv_iload hx hb dL_law_383 (lv_at hl 10 rfl) ?_
    refine lv_iload hx hb dL_law_385 (lv_at hl 7 rfl) ?_
    by_cases c5 : u = v
    · refine lv_icmp_eq (tgt := 414) hx hb dL_law_387 (by decide) (fun _ => ?_) (fun cz => absurd (by rw [c5]) cz)
      refine lv_iconst (v := nI 1) hx hb dL_law_414 (by decide) ?_
      refine lv_goto (tgt := 419) hx hb dL_law_415 (by decide) ?_
      refine lv_istore (lv' := [(5, .int (nI 1)), (0, .ref b), (1, .ref o), (2, .ref ha), (3, .int pd), (4, .int (nI mi)), (6, .int (nI i)), (10, .int (nI v)), (11, .int (nI j)), (13, .int (nI t)), (14, .int (nI u))]) hx hb dL_law_419 hl (by decide) rfl (fun ls hl => ?_)
      refine q_inc (k := 10) (lv' := [(14, .int (nI (u + 1))), (5, .int (nI 1)), (0, .ref b), (1, .ref o), (2, .ref ha), (3, .int pd), (4, .int (nI mi)), (6, .int (nI i)), (10, .int (nI v)), (11, .int (nI j)), (13, .int (nI t))]) hx hb dL_law_421 hl rfl (by decide) rfl (fun ls hl => ?_)
      refine lv_goto (tgt := 366) hx hb dL_law_424 (by decide) ?_
      exact ih (u + 1) _ _ _ _ _ (by omega) (by omega) (by omega) hP hD hS (lv_sub hl [2, 3, 4, 5, 6, 1, 7, 8, 9, 10, 0] rfl)
    · refine lv_icmp_eq (tgt := 414) hx hb dL_law_387 (by decide) (fun cz => absurd (nI_inj (by omega) (by omega) cz) c5) (fun _ => ?_)
      refine lv_aload_n hx hb dL_law_390 rfl (lv_at hl 1 rfl) ?_
      refine lv_iload hx hb dL_law_391 (lv_at hl 10 rfl) ?_
      refine x_get (pre := [(ha, .inl (ci, 8, .inl f))]) (As := [.ref o, .int (nI u)]) (rest := []) ⟨hx, hb, hml, hown, hts⟩ (kg_turn l D E x hE.2.2.1 hu) (vx_cwSW 2 hts gL_law_L_turn rfl rfl rfl (by decide +kernel) ⟨Nat.le_of_ble_eq_true rfl, Nat.le_of_ble_eq_true rfl⟩) hE.1 hE.2.1 hN hP hD hS hA rfl hl.1 rfl (Nat.le_of_ble_eq_true rfl) dL_law_393 ⟨by show ce + 0 ≤ 671634; omega, by show sl + 0 ≤ 7086567; omega⟩ (fun H locs hP hD hS => ?_)
      refine lv_iload hx hb dL_law_396 (lv_at hl 9 rfl) ?_
      by_cases c6 : x 11 u = nI t
      · refine lv_icmp_ne (tgt := 414) hx hb dL_law_398 (by decide) (fun cz => absurd c6 cz) (fun _ => ?_)
        refine lv_aload_n hx hb dL_law_401 rfl (lv_at hl 1 rfl) ?_
        refine lv_iload hx hb dL_law_402 (lv_at hl 10 rfl) ?_
        refine lv_iload hx hb dL_law_404 (lv_at hl 8 rfl) ?_
        refine x_ref (pre := [(ha, .inl (ci, 8, .inl f))]) (As := [.ref o, .int (nI u), .int (nI j)]) (rest := []) ⟨hx, hb, hml, hown, hts⟩ (ks_ask_no l D hl0 hE.2.2.1 hu hj (Or.inl (fun q => nI_nem1 (by omega) (c6.symm.trans q)))) (vx_cwSW 3 hts gL_law_L_ask rfl rfl rfl (by decide +kernel) ⟨Nat.le_of_ble_eq_true rfl, Nat.le_of_ble_eq_true rfl⟩) hE.1 hE.2.1 hN hP hD hS hA rfl hl.1 rfl (Nat.le_of_ble_eq_true rfl) dL_law_406 ⟨by show ce + 1 ≤ 671634; omega, by show sl + 10 ≤ 7086567; omega⟩ (fun H locs hP hD hS => ?_)
        refine lv_bipush (v := -103) hx hb dL_law_409 (by decide) ?_
        refine lv_icmp_ne (tgt := 418) hx hb dL_law_411 (by decide) (fun cz => absurd rfl cz) (fun _ => ?_)
        refine lv_iconst (v := nI 1) hx hb dL_law_414 (by decide) ?_
        refine lv_goto (tgt := 419) hx hb dL_law_415 (by decide) ?_
        refine lv_istore (lv' := [(5, .int (nI 1)), (0, .ref b), (1, .ref o), (2, .ref ha), (3, .int pd), (4, .int (nI mi)), (6, .int (nI i)), (10, .int (nI v)), (11, .int (nI j)), (13, .int (nI t)), (14, .int (nI u))]) hx hb dL_law_419 hl (by decide) rfl (fun ls hl => ?_)
        refine q_inc (k := 10) (lv' := [(14, .int (nI (u + 1))), (5, .int (nI 1)), (0, .ref b), (1, .ref o), (2, .ref ha), (3, .int pd), (4, .int (nI mi)), (6, .int (nI i)), (10, .int (nI v)), (11, .int (nI j)), (13, .int (nI t))]) hx hb dL_law_421 hl rfl (by decide) rfl (fun ls hl => ?_)
        refine lv_goto (tgt := 366) hx hb dL_law_424 (by decide) ?_
        exact ih (u + 1) _ _ _ _ _ (by omega) (by omega) (by omega) hP hD hS (lv_sub hl [2, 3, 4, 5, 6, 1, 7, 8, 9, 10, 0] rfl)
      · refine lv_icmp_ne (tgt := 414) hx hb dL_law_398 (by decide) (fun _ => ?_) (fun cz => absurd cz c6)
        refine lv_iconst (v := nI 1) hx hb dL_law_414 (by decide) ?_
        refine lv_goto (tgt := 419) hx hb dL_law_415 (by decide) ?_
        refine lv_istore (lv' := [(5, .int (nI 1)), (0, .ref b), (1, .ref o), (2, .ref ha), (3, .int pd), (4, .int (nI mi)), (6, .int (nI i)), (10, .int (nI v)), (11, .int (nI j)), (13, .int (nI t)), (14, .int (nI u))]) hx hb dL_law_419 hl (by decide) rfl (fun ls hl => ?_)
        refine q_inc (k := 10) (lv' := [(14, .int (nI (u + 1))), (5, .int (nI 1)), (0, .ref b), (1, .ref o), (2, .ref ha), (3, .int pd), (4, .int (nI mi)), (6, .int (nI i)), (10, .int (nI v)), (11, .int (nI j)), (13, .int (nI t))]) hx hb dL_law_421 hl rfl (by decide) rfl (fun ls hl => ?_)
        refine lv_goto (tgt := 366) hx hb dL_law_424 (by decide) ?_
        exact ih (u + 1) _ _ _ _ _ (by omega) (by omega) (by omega) hP hD hS (lv_sub hl [2, 3, 4, 5, 6, 1, 7, 8, 9, 10, 0] rfl)

set_option maxHeartbeats 4000000 in
set_option maxRecDepth 100000 in
theorem cs_ask {p : Program} {e : Env} {s : State} {m : MethodId} {below : List Frame} {meth : Method} {c : Code} {b L : Nat} {xs : Nat → Int32} {D : va_G} {o ha : Nat} {ci : ClassId} {f : Nat → Int32} {E : cE} {x : T2} {i mi cells slots z v j : Nat} {pd : Int32} {ls : Array Slot} {H : Heap} {locs : List Loc} (l : Launch) (hl0 : l.stackTraces = false) (C0 : lw_At p s m meth c b L xs) (hN : jNc s) (hE : lS D s o ci E) (h : pI E x mi i pd) (hm9 : mi ≤ 9 * i) (hi : i < 56) (hf : ∀ v, v < 8 → f v = x 10 v) (hz : z < 2 ^ 31) (hv : v < 8) (hj : j < 6) (hcl : cells + 12 ≤ 671634) (hsl : slots + 120 ≤ 7086567) (hn : lwN p l e s m b below meth c D o ha ci f i cells slots) (hP : va_P D vwCl (lW ha ci f E x) H) (hD : va_D (fun q : Nat => s.heap.size ≤ q) (lW ha ci f E x)) (hS : va_S (fun q : Nat => s.heap.size ≤ q) s.heap H locs) (hl : lv_has ls 17 [(0, .ref b), (1, .ref o), (2, .ref ha), (3, .int pd), (4, .int (nI mi)), (5, .int (nI 1)), (6, .int (nI i)), (8, .int (nI z)), (10, .int (nI v)), (11, .int (nI j))]) : W p l e room_1 s m #[Value.ref b] below meth c H locs (cells) (slots) (lw_Z below #[Value.ref b] s) (F0 m 268 ls []) := by
  obtain ⟨hx, hb, hr, hml, hown, hts0, hX, hbl, hlocks, hgv⟩ := C0
  have hown : s.vm.findClass RL = some m.cls := hown
  have hts : ∀ w ∈ wsL_law, w.before #[Value.ref b] s = true := fun w h => hts0 w (wsL_law_in w h)
  have hA : ∀ q : Nat, s.heap.size ≤ q → (fun q : Nat => s.heap.size ≤ q) q := fun _ h => h
  unfold lwN at hn
  by_cases hs : ¬ x 11 v = -1 ∨ x 3 j = nI 0
  · refine lv_aload_n hx hb dL_law_268 rfl (lv_at hl 1 rfl) ?_
    refine lv_iload hx hb dL_law_269 (lv_at hl 8 rfl) ?_
    refine x_get (pre := [(ha, .inl (ci, 8, .inl f))]) (As := [.ref o, .int (nI v)]) (rest := []) ⟨hx, hb, hml, hown, hts⟩ (kg_turn l D E x hE.2.2.1 hv) (vx_cwSW 2 hts gL_law_L_turn rfl rfl rfl (by decide +kernel) ⟨Nat.le_of_ble_eq_true rfl, Nat.le_of_ble_eq_true rfl⟩) hE.1 hE.2.1 hN hP hD hS hA rfl hl.1 rfl (Nat.le_of_ble_eq_true rfl) dL_law_271 ⟨by show cells + 0 ≤ 671634; omega, by show slots + 0 ≤ 7086567; omega⟩ (fun H locs hP hD hS => ?_)
    refine lv_istore (lv' := [(12, .int (x 11 v)), (0, .ref b), (1, .ref o), (2, .ref ha), (3, .int pd), (4, .int (nI mi)), (5, .int (nI 1)), (6, .int (nI i)), (8, .int (nI z)), (10, .int (nI v)), (11, .int (nI j))]) hx hb dL_law_274 hl (by decide) rfl (fun ls hl => ?_)
    refine lv_aload_n hx hb dL_law_276 rfl (lv_at hl 2 rfl) ?_
    refine lv_iload hx hb dL_law_277 (lv_at hl 9 rfl) ?_
    refine lv_iload hx hb dL_law_279 (lv_at hl 10 rfl) ?_
    refine x_ref (pre := [(ha, .inl (ci, 8, .inl f))]) (As := [.ref o, .int (nI v), .int (nI j)]) (rest := []) ⟨hx, hb, hml, hown, hts⟩ (ks_ask_no l D hl0 hE.2.2.1 hv hj hs) (vx_cwSW 3 hts gL_law_L_ask rfl rfl rfl (by decide +kernel) ⟨Nat.le_of_ble_eq_true rfl, Nat.le_of_ble_eq_true rfl⟩) hE.1 hE.2.1 hN hP hD hS hA rfl hl.1 rfl (Nat.le_of_ble_eq_true rfl) dL_law_281 ⟨by show cells + 1 ≤ 671634; omega, by show slots + 10 ≤ 7086567; omega⟩ (fun H locs hP hD hS => ?_)
    refine lv_istore (lv' := [(13, .int (-103)), (12, .int (x 11 v)), (0, .ref b), (1, .ref o), (2, .ref ha), (3, .int pd), (4, .int (nI mi)), (5, .int (nI 1)), (6, .int (nI i)), (8, .int (nI z)), (10, .int (nI v)), (11, .int (nI j))]) hx hb dL_law_284 hl (by decide) rfl (fun ls hl => ?_)
    refine lv_iload hx hb dL_law_286 (lv_at hl 0 rfl) ?_
    refine lv_bipush (v := -103) hx hb dL_law_288 (by decide) ?_
    refine lv_icmp_ne (tgt := 312) hx hb dL_law_290 (by decide) (fun cz => absurd rfl cz) (fun _ => ?_)
    refine lv_aload_n hx hb dL_law_293 rfl (lv_at hl 3 rfl) ?_
    refine lv_iload hx hb dL_law_294 (lv_at hl 10 rfl) ?_
    refine x_get (pre := [(ha, .inl (ci, 8, .inl f))]) (As := [.ref o, .int (nI v)]) (rest := []) ⟨hx, hb, hml, hown, hts⟩ (kg_turn l D E x hE.2.2.1 hv) (vx_cwSW 2 hts gL_law_L_turn rfl rfl rfl (by decide +kernel) ⟨Nat.le_of_ble_eq_true rfl, Nat.le_of_ble_eq_true rfl⟩) hE.1 hE.2.1 hN hP hD hS hA rfl hl.1 rfl (Nat.le_of_ble_eq_true rfl) dL_law_296 ⟨by show cells + 1 + 0 ≤ 671634; omega, by show slots + 10 + 0 ≤ 7086567; omega⟩ (fun H locs hP hD hS => ?_)
    refine lv_iload hx hb dL_law_299 (lv_at hl 1 rfl) ?_
    refine lv_icmp_ne (tgt := 308) hx hb dL_law_301 (by decide) (fun cz => absurd rfl cz) (fun _ => ?_)
    refine lv_iconst (v := nI 1) hx hb dL_law_304 (by decide) ?_
    refine lv_goto (tgt := 361) hx hb dL_law_305 (by decide) ?_
    refine lv_istore (lv' := [(5, .int (nI 1)), (13, .int (-103)), (12, .int (x 11 v)), (0, .ref b), (1, .ref o), (2, .ref ha), (3, .int pd), (4, .int (nI mi)), (6, .int (nI i)), (8, .int (nI z)), (10, .int (nI v)), (11, .int (nI j))]) hx hb dL_law_361 hl (by decide) rfl (fun ls hl => ?_)
    refine lv_iconst (v := nI 0) hx hb dL_law_363 (by decide) ?_
    refine lv_istore (lv' := [(14, .int (nI 0)), (5, .int (nI 1)), (13, .int (-103)), (12, .int (x 11 v)), (0, .ref b), (1, .ref o), (2, .ref ha), (3, .int pd), (4, .int (nI mi)), (6, .int (nI i)), (8, .int (nI z)), (10, .int (nI v)), (11, .int (nI j))]) hx hb dL_law_364 hl (by decide) rfl (fun ls hl => ?_)
    refine lv_iload hx hb dL_law_366 (lv_at hl 0 rfl) ?_
    refine lv_bipush (v := nI 8) hx hb dL_law_368 (by decide) ?_
    refine lv_icmp_ge (tgt := 427) hx hb dL_law_370 (by decide) (fun cz => absurd cz (by decide)) (fun _ => ?_)
    refine lv_iload hx hb dL_law_373 (lv_at hl 1 rfl) ?_
    refine lv_if_eq (tgt := 427) hx hb dL_law_375 (by decide) (fun cz => absurd cz (by decide)) (fun _ => ?_)
    refine lv_iload hx hb dL_law_378 (lv_at hl 2 rfl) ?_
    refine lv_if_le (tgt := 427) hx hb dL_law_380 (by decide) (fun _ => ?_) (fun cz => absurd (by decide) cz)
    refine lv_goto (tgt := 911) hx hb dL_law_427 (by decide) ?_
    refine W.widen (k := cells + 12) (n := slots + 120) (by omega) (by omega) ?_
    exact hn E x _ _ _ _ _ hE (pI_le h (Nat.le_succ i)) (by omega) (had_of hf (zM_rf (pI_S h))) hP hD hS (lv_sub hl [4, 5, 6, 7, 8, 1, 9] rfl)
  · have h11 : x 11 v = -1 := Classical.byContradiction (fun q => hs (Or.inl q))
    have h3 : ¬ x 3 j = nI 0 := fun q => hs (Or.inr q)
    refine lv_aload_n hx hb dL_law_268 rfl (lv_at hl 1 rfl) ?_
    refine lv_iload hx hb dL_law_269 (lv_at hl 8 rfl) ?_
    refine x_get (pre := [(ha, .inl (ci, 8, .inl f))]) (As := [.ref o, .int (nI v)]) (rest := []) ⟨hx, hb, hml, hown, hts⟩ (kg_turn l D E x hE.2.2.1 hv) (vx_cwSW 2 hts gL_law_L_turn rfl rfl rfl (by decide +kernel) ⟨Nat.le_of_ble_eq_true rfl, Nat.le_of_ble_eq_true rfl⟩) hE.1 hE.2.1 hN hP hD hS hA rfl hl.1 rfl (Nat.le_of_ble_eq_true rfl) dL_law_271 ⟨by show cells + 0 ≤ 671634; omega, by show slots + 0 ≤ 7086567; omega⟩ (fun H locs hP hD hS => ?_)
    refine lv_istore (lv' := [(12, .int (x 11 v)), (0, .ref b), (1, .ref o), (2, .ref ha), (3, .int pd), (4, .int (nI mi)), (5, .int (nI 1)), (6, .int (nI i)), (8, .int (nI z)), (10, .int (nI v)), (11, .int (nI j))]) hx hb dL_law_274 hl (by decide) rfl (fun ls hl => ?_)
    refine lv_aload_n hx hb dL_law_276 rfl (lv_at hl 2 rfl) ?_
    refine lv_iload hx hb dL_law_277 (lv_at hl 9 rfl) ?_
    refine lv_iload hx hb dL_law_279 (lv_at hl 10 rfl) ?_
    refine x_call (pre := [(ha, .inl (ci, 8, .inl f))]) (As := [.ref o, .int (nI v), .int (nI j)]) (rest := []) ⟨hx, hb, hml, hown, hts⟩ (ks_ask_ok l D hE.2.2.1 h hv hj h11 h3) (by decide) (by decide) (vx_cwSW 3 hts gL_law_L_ask rfl rfl rfl (by decide +kernel) ⟨Nat.le_of_ble_eq_true rfl, Nat.le_of_ble_eq_true rfl⟩) hE.1 hE.2.1 hN hP hD hS hA rfl hl.1 rfl (Nat.le_of_ble_eq_true rfl) dL_law_281 ⟨by show cells + 1 ≤ 671634; omega, by show slots + 10 ≤ 7086567; omega⟩ (fun r1 E1 x1 H locs hw hg hP hD hS => ?_)
    have hE1 := lS_s hE hg
    obtain ⟨⟨t, hr1, t1, t2, t3⟩, hp1, h9, hz1⟩ := hw
    refine q_top (x' := (nI t)) hr1 ?_
    refine lv_istore (lv' := [(13, .int (nI t)), (12, .int (x 11 v)), (0, .ref b), (1, .ref o), (2, .ref ha), (3, .int pd), (4, .int (nI mi)), (5, .int (nI 1)), (6, .int (nI i)), (8, .int (nI z)), (10, .int (nI v)), (11, .int (nI j))]) hx hb dL_law_284 hl (by decide) rfl (fun ls hl => ?_)
    refine lv_iload hx hb dL_law_286 (lv_at hl 0 rfl) ?_
    refine lv_bipush (v := -103) hx hb dL_law_288 (by decide) ?_
    refine lv_icmp_ne (tgt := 312) hx hb dL_law_290 (by decide) (fun _ => ?_) (fun cz => absurd cz (nI_ne103 (by omega)))
    have h8 : x1 11 v = nI t := h9.trans hr1
    refine lv_iload hx hb dL_law_312 (lv_at hl 1 rfl) ?_
    refine lv_iconst (v := -1) hx hb dL_law_314 (by decide) ?_
    refine lv_icmp_ne (tgt := 360) hx hb dL_law_315 (by decide) (fun cz => absurd h11 cz) (fun _ => ?_)
    refine lv_iload hx hb dL_law_318 (lv_at hl 0 rfl) ?_
    refine lv_iload hx hb dL_law_320 (lv_at hl 6 rfl) ?_
    refine lv_icmp_le (tgt := 360) hx hb dL_law_322 (by decide) (fun cz => absurd cz (nI_ge t1 (by omega))) (fun _ => ?_)
    refine lv_iload hx hb dL_law_325 (lv_at hl 0 rfl) ?_
    refine lv_iconst (v := nI 5) hx hb dL_law_327 (by decide) ?_
    refine q_remn hx hb (by omega) (by decide) (by decide) dL_law_328 ?_
    refine lv_if_ne (tgt := 360) hx hb dL_law_329 (by decide) (fun cz => absurd (by rw [t2]; rfl) cz) (fun _ => ?_)
    refine lv_aload_n hx hb dL_law_332 rfl (lv_at hl 3 rfl) ?_
    refine lv_iload hx hb dL_law_333 (lv_at hl 10 rfl) ?_
    refine x_get (pre := [(ha, .inl (ci, 8, .inl f))]) (As := [.ref o, .int (nI v)]) (rest := []) ⟨hx, hb, hml, hown, hts⟩ (kg_turn l D E1 x1 hE1.2.2.1 hv) (vx_cwSW 2 hts gL_law_L_turn rfl rfl rfl (by decide +kernel) ⟨Nat.le_of_ble_eq_true rfl, Nat.le_of_ble_eq_true rfl⟩) hE1.1 hE1.2.1 hN hP hD hS hA rfl hl.1 rfl (Nat.le_of_ble_eq_true rfl) dL_law_335 ⟨by show cells + 1 + 0 ≤ 671634; omega, by show slots + 10 + 0 ≤ 7086567; omega⟩ (fun H locs hP hD hS => ?_)
    refine q_top (x' := (nI t)) h8 ?_
    refine lv_iload hx hb dL_law_338 (lv_at hl 0 rfl) ?_
    refine lv_icmp_ne (tgt := 360) hx hb dL_law_340 (by decide) (fun cz => absurd rfl cz) (fun _ => ?_)
    refine lv_aload_n hx hb dL_law_343 rfl (lv_at hl 3 rfl) ?_
    refine lv_iload hx hb dL_law_344 (lv_at hl 10 rfl) ?_
    refine lv_iload hx hb dL_law_346 (lv_at hl 11 rfl) ?_
    refine x_ref (pre := [(ha, .inl (ci, 8, .inl f))]) (As := [.ref o, .int (nI v), .int (nI j)]) (rest := []) ⟨hx, hb, hml, hown, hts⟩ (ks_ask_no l D hl0 hE1.2.2.1 hv hj (Or.inl (fun q => nI_nem1 (by omega) (h8.symm.trans q)))) (vx_cwSW 3 hts gL_law_L_ask rfl rfl rfl (by decide +kernel) ⟨Nat.le_of_ble_eq_true rfl, Nat.le_of_ble_eq_true rfl⟩) hE1.1 hE1.2.1 hN hP hD hS hA rfl hl.1 rfl (Nat.le_of_ble_eq_true rfl) dL_law_348 ⟨by show cells + 1 + 1 ≤ 671634; omega, by show slots + 10 + 10 ≤ 7086567; omega⟩ (fun H locs hP hD hS => ?_)
    refine lv_bipush (v := -103) hx hb dL_law_351 (by decide) ?_
    refine lv_icmp_ne (tgt := 360) hx hb dL_law_353 (by decide) (fun cz => absurd rfl cz) (fun _ => ?_)
    refine lv_iconst (v := nI 1) hx hb dL_law_356 (by decide) ?_
    refine lv_goto (tgt := 361) hx hb dL_law_357 (by decide) ?_
    refine lv_istore (lv' := [(5, .int (nI 1)), (13, .int (nI t)), (12, .int (x 11 v)), (0, .ref b), (1, .ref o), (2, .ref ha), (3, .int pd), (4, .int (nI mi)), (6, .int (nI i)), (8, .int (nI z)), (10, .int (nI v)), (11, .int (nI j))]) hx hb dL_law_361 hl (by decide) rfl (fun ls hl => ?_)
    refine lv_iconst (v := nI 0) hx hb dL_law_363 (by decide) ?_
    refine lv_istore (lv' := [(14, .int (nI 0)), (5, .int (nI 1)), (13, .int (nI t)), (12, .int (x 11 v)), (0, .ref b), (1, .ref o), (2, .ref ha), (3, .int pd), (4, .int (nI mi)), (6, .int (nI i)), (8, .int (nI z)), (10, .int (nI v)), (11, .int (nI j))]) hx hb dL_law_364 hl (by decide) rfl (fun ls hl => ?_)
    refine ask_loop (t := t) (by omega) t3 l hl0 ⟨hx, hb, hr, hml, hown, hts0, hX, hbl, hlocks, hgv⟩ hN hE1 hp1 hm9 (had_of hf hz1) hv hj hcl hsl hn 8 0 _ _ _ _ _ rfl (by omega) (by omega) hP hD hS (lv_sub hl [4, 5, 6, 7, 8, 1, 9, 11, 12, 2, 0] rfl)

set_option maxHeartbeats 4000000 in
set_option maxRecDepth 100000 in
theorem cs_open {p : Program} {e : Env} {s : State} {m : MethodId} {below : List Frame} {meth : Method} {c : Code} {b L : Nat} {xs : Nat → Int32} {D : va_G} {o ha : Nat} {ci : ClassId} {f : Nat → Int32} {E : cE} {x : T2} {i mi cells slots z v j : Nat} {pd : Int32} {ls : Array Slot} {H : Heap} {locs : List Loc} (l : Launch) (hl0 : l.stackTraces = false) (C0 : lw_At p s m meth c b L xs) (hN : jNc s) (hE : lS D s o ci E) (h : pI E x mi i pd) (hm9 : mi ≤ 9 * i) (hi : i < 56) (hf : ∀ v, v < 8 → f v = x 10 v) (hz : z < 2 ^ 31) (hv : v < 8) (hj : j < 6) (hcl : cells + 12 ≤ 671634) (hsl : slots + 120 ≤ 7086567) (hn : lwN p l e s m b below meth c D o ha ci f i cells slots) (hP : va_P D vwCl (lW ha ci f E x) H) (hD : va_D (fun q : Nat => s.heap.size ≤ q) (lW ha ci f E x)) (hS : va_S (fun q : Nat => s.heap.size ≤ q) s.heap H locs) (hl : lv_has ls 17 [(0, .ref b), (1, .ref o), (2, .ref ha), (3, .int pd), (4, .int (nI mi)), (5, .int (nI 1)), (6, .int (nI i)), (8, .int (nI z)), (10, .int (nI v)), (11, .int (nI j))]) : W p l e room_1 s m #[Value.ref b] below meth c H locs (cells) (slots) (lw_Z below #[Value.ref b] s) (F0 m 437 ls []) := by
  obtain ⟨hx, hb, hr, hml, hown, hts0, hX, hbl, hlocks, hgv⟩ := C0
  have hown : s.vm.findClass RL = some m.cls := hown
  have hts : ∀ w ∈ wsL_law, w.before #[Value.ref b] s = true := fun w h => hts0 w (wsL_law_in w h)
  have hA : ∀ q : Nat, s.heap.size ≤ q → (fun q : Nat => s.heap.size ≤ q) q := fun _ h => h
  unfold lwN at hn
  refine lv_aload_n hx hb dL_law_437 rfl (lv_at hl 1 rfl) ?_
  refine lv_iload hx hb dL_law_438 (lv_at hl 9 rfl) ?_
  refine x_get (pre := [(ha, .inl (ci, 8, .inl f))]) (As := [.ref o, .int (nI j)]) (rest := []) ⟨hx, hb, hml, hown, hts⟩ (kg_queue l D E x hE.2.2.1 hj) (vx_cwSW 2 hts gL_law_L_queue rfl rfl rfl (by decide +kernel) ⟨Nat.le_of_ble_eq_true rfl, Nat.le_of_ble_eq_true rfl⟩) hE.1 hE.2.1 hN hP hD hS hA rfl hl.1 rfl (Nat.le_of_ble_eq_true rfl) dL_law_440 ⟨by show cells + 0 ≤ 671634; omega, by show slots + 0 ≤ 7086567; omega⟩ (fun H locs hP hD hS => ?_)
  refine lv_istore (lv' := [(12, .int (nI (cCnt x (nI 1) j 8))), (0, .ref b), (1, .ref o), (2, .ref ha), (3, .int pd), (4, .int (nI mi)), (5, .int (nI 1)), (6, .int (nI i)), (8, .int (nI z)), (10, .int (nI v)), (11, .int (nI j))]) hx hb dL_law_443 hl (by decide) rfl (fun ls hl => ?_)
  refine lv_aload_n hx hb dL_law_445 rfl (lv_at hl 2 rfl) ?_
  refine lv_iload hx hb dL_law_446 (lv_at hl 10 rfl) ?_
  refine x_get (pre := [(ha, .inl (ci, 8, .inl f))]) (As := [.ref o, .int (nI j)]) (rest := []) ⟨hx, hb, hml, hown, hts⟩ (kg_inside l D E x hE.2.2.1 hj) (vx_cwSW 2 hts gL_law_L_inside rfl rfl rfl (by decide +kernel) ⟨Nat.le_of_ble_eq_true rfl, Nat.le_of_ble_eq_true rfl⟩) hE.1 hE.2.1 hN hP hD hS hA rfl hl.1 rfl (Nat.le_of_ble_eq_true rfl) dL_law_448 ⟨by show cells + 0 ≤ 671634; omega, by show slots + 0 ≤ 7086567; omega⟩ (fun H locs hP hD hS => ?_)
  refine lv_istore (lv' := [(13, .int (nI (cCnt x (nI 2) j 8))), (12, .int (nI (cCnt x (nI 1) j 8))), (0, .ref b), (1, .ref o), (2, .ref ha), (3, .int pd), (4, .int (nI mi)), (5, .int (nI 1)), (6, .int (nI i)), (8, .int (nI z)), (10, .int (nI v)), (11, .int (nI j))]) hx hb dL_law_451 hl (by decide) rfl (fun ls hl => ?_)
  refine lv_iload hx hb dL_law_453 (lv_at hl 9 rfl) ?_
  refine lv_bipush (v := nI 48) hx hb dL_law_455 (by decide) ?_
  refine q_divn hx hb (by omega) (by decide) (by decide) dL_law_457 ?_
  refine lv_iconst (v := nI 2) hx hb dL_law_458 (by decide) ?_
  refine q_remn hx hb (by omega) (by decide) (by decide) dL_law_459 ?_
  by_cases c2 : z / 48 % 2 = 0
  · refine lv_if_ne (tgt := 467) hx hb dL_law_460 (by decide) (fun cz => absurd (by rw [c2]; rfl) cz) (fun _ => ?_)
    refine lv_iconst (v := nI 1) hx hb dL_law_463 (by decide) ?_
    refine lv_goto (tgt := 468) hx hb dL_law_464 (by decide) ?_
    refine lv_istore (lv' := [(14, .int (nI 1)), (13, .int (nI (cCnt x (nI 2) j 8))), (12, .int (nI (cCnt x (nI 1) j 8))), (0, .ref b), (1, .ref o), (2, .ref ha), (3, .int pd), (4, .int (nI mi)), (5, .int (nI 1)), (6, .int (nI i)), (8, .int (nI z)), (10, .int (nI v)), (11, .int (nI j))]) hx hb dL_law_468 hl (by decide) rfl (fun ls hl => ?_)
    refine lv_aload_n hx hb dL_law_470 rfl (lv_at hl 4 rfl) ?_
    refine lv_iload hx hb dL_law_471 (lv_at hl 12 rfl) ?_
    refine lv_iload hx hb dL_law_473 (lv_at hl 0 rfl) ?_
    refine x_call (pre := [(ha, .inl (ci, 8, .inl f))]) (As := [.ref o, .int (nI j), .int (nI 1)]) (rest := []) ⟨hx, hb, hml, hown, hts⟩ (ks_open_o l D hE.2.2.1 h hj) (by decide) (by decide) (vx_cwSW 3 hts gL_law_L_open rfl rfl rfl (by decide +kernel) ⟨Nat.le_of_ble_eq_true rfl, Nat.le_of_ble_eq_true rfl⟩) hE.1 hE.2.1 hN hP hD hS hA rfl hl.1 rfl (Nat.le_of_ble_eq_true rfl) dL_law_475 ⟨by show cells + 1 ≤ 671634; omega, by show slots + 10 ≤ 7086567; omega⟩ (fun r1 E1 x1 H locs hw hg hP hD hS => ?_)
    have hE1 := lS_s hE hg
    obtain ⟨hr1, hp1, hq1, hi1, hz1⟩ := hw
    refine q_top (x' := (nI 0)) hr1 ?_
    refine lv_iload hx hb dL_law_478 (lv_at hl 0 rfl) ?_
    refine lv_if_eq (tgt := 487) hx hb dL_law_480 (by decide) (fun cz => absurd cz (by decide)) (fun _ => ?_)
    refine lv_iconst (v := nI 0) hx hb dL_law_483 (by decide) ?_
    refine lv_goto (tgt := 489) hx hb dL_law_484 (by decide) ?_
    refine lv_icmp_ne (tgt := 527) hx hb dL_law_489 (by decide) (fun cz => absurd rfl cz) (fun _ => ?_)
    refine lv_aload_n hx hb dL_law_492 rfl (lv_at hl 4 rfl) ?_
    refine lv_iload hx hb dL_law_493 (lv_at hl 12 rfl) ?_
    refine x_get (pre := [(ha, .inl (ci, 8, .inl f))]) (As := [.ref o, .int (nI j)]) (rest := []) ⟨hx, hb, hml, hown, hts⟩ (kg_queue l D E1 x1 hE1.2.2.1 hj) (vx_cwSW 2 hts gL_law_L_queue rfl rfl rfl (by decide +kernel) ⟨Nat.le_of_ble_eq_true rfl, Nat.le_of_ble_eq_true rfl⟩) hE1.1 hE1.2.1 hN hP hD hS hA rfl hl.1 rfl (Nat.le_of_ble_eq_true rfl) dL_law_495 ⟨by show cells + 1 + 0 ≤ 671634; omega, by show slots + 10 + 0 ≤ 7086567; omega⟩ (fun H locs hP hD hS => ?_)
    refine q_top (x' := (nI (cCnt x (nI 1) j 8))) (by rw [hq1]) ?_
    refine lv_iload hx hb dL_law_498 (lv_at hl 0 rfl) ?_
    refine lv_if_eq (tgt := 508) hx hb dL_law_500 (by decide) (fun cz => absurd cz (by decide)) (fun _ => ?_)
    refine lv_iload hx hb dL_law_503 (lv_at hl 2 rfl) ?_
    refine lv_goto (tgt := 509) hx hb dL_law_505 (by decide) ?_
    refine lv_icmp_ne (tgt := 527) hx hb dL_law_509 (by decide) (fun cz => absurd rfl cz) (fun _ => ?_)
    refine lv_aload_n hx hb dL_law_512 rfl (lv_at hl 4 rfl) ?_
    refine lv_iload hx hb dL_law_513 (lv_at hl 12 rfl) ?_
    refine x_get (pre := [(ha, .inl (ci, 8, .inl f))]) (As := [.ref o, .int (nI j)]) (rest := []) ⟨hx, hb, hml, hown, hts⟩ (kg_inside l D E1 x1 hE1.2.2.1 hj) (vx_cwSW 2 hts gL_law_L_inside rfl rfl rfl (by decide +kernel) ⟨Nat.le_of_ble_eq_true rfl, Nat.le_of_ble_eq_true rfl⟩) hE1.1 hE1.2.1 hN hP hD hS hA rfl hl.1 rfl (Nat.le_of_ble_eq_true rfl) dL_law_515 ⟨by show cells + 1 + 0 ≤ 671634; omega, by show slots + 10 + 0 ≤ 7086567; omega⟩ (fun H locs hP hD hS => ?_)
    refine q_top (x' := (nI (cCnt x (nI 2) j 8))) (by rw [hi1]) ?_
    refine lv_iload hx hb dL_law_518 (lv_at hl 1 rfl) ?_
    refine lv_icmp_ne (tgt := 527) hx hb dL_law_520 (by decide) (fun cz => absurd rfl cz) (fun _ => ?_)
    refine lv_iconst (v := nI 1) hx hb dL_law_523 (by decide) ?_
    refine lv_goto (tgt := 528) hx hb dL_law_524 (by decide) ?_
    refine lv_istore (lv' := [(5, .int (nI 1)), (14, .int (nI 1)), (13, .int (nI (cCnt x (nI 2) j 8))), (12, .int (nI (cCnt x (nI 1) j 8))), (0, .ref b), (1, .ref o), (2, .ref ha), (3, .int pd), (4, .int (nI mi)), (6, .int (nI i)), (8, .int (nI z)), (10, .int (nI v)), (11, .int (nI j))]) hx hb dL_law_528 hl (by decide) rfl (fun ls hl => ?_)
    refine lv_iload hx hb dL_law_530 (lv_at hl 0 rfl) ?_
    refine lv_if_eq (tgt := 563) hx hb dL_law_532 (by decide) (fun cz => absurd cz (by decide)) (fun _ => ?_)
    refine lv_iload hx hb dL_law_535 (lv_at hl 1 rfl) ?_
    refine lv_if_ne (tgt := 559) hx hb dL_law_537 (by decide) (fun _ => ?_) (fun cz => absurd cz (by decide))
    refine lv_iconst (v := nI 1) hx hb dL_law_559 (by decide) ?_
    refine lv_goto (tgt := 564) hx hb dL_law_560 (by decide) ?_
    refine lv_istore (lv' := [(5, .int (nI 1)), (14, .int (nI 1)), (13, .int (nI (cCnt x (nI 2) j 8))), (12, .int (nI (cCnt x (nI 1) j 8))), (0, .ref b), (1, .ref o), (2, .ref ha), (3, .int pd), (4, .int (nI mi)), (6, .int (nI i)), (8, .int (nI z)), (10, .int (nI v)), (11, .int (nI j))]) hx hb dL_law_564 hl (by decide) rfl (fun ls hl => ?_)
    refine lv_goto (tgt := 911) hx hb dL_law_566 (by decide) ?_
    refine W.widen (k := cells + 12) (n := slots + 120) (by omega) (by omega) ?_
    exact hn E1 x1 _ _ _ _ _ hE1 (pI_le hp1 (Nat.le_succ i)) (by omega) (had_of hf hz1) hP hD hS (lv_sub hl [4, 5, 6, 7, 8, 0, 9] rfl)
  · refine lv_if_ne (tgt := 467) hx hb dL_law_460 (by decide) (fun _ => ?_) (fun cz => absurd ((nI_eq (by omega) (by decide)).mp cz) c2)
    refine lv_iconst (v := nI 0) hx hb dL_law_467 (by decide) ?_
    refine lv_istore (lv' := [(14, .int (nI 0)), (13, .int (nI (cCnt x (nI 2) j 8))), (12, .int (nI (cCnt x (nI 1) j 8))), (0, .ref b), (1, .ref o), (2, .ref ha), (3, .int pd), (4, .int (nI mi)), (5, .int (nI 1)), (6, .int (nI i)), (8, .int (nI z)), (10, .int (nI v)), (11, .int (nI j))]) hx hb dL_law_468 hl (by decide) rfl (fun ls hl => ?_)
    refine lv_aload_n hx hb dL_law_470 rfl (lv_at hl 4 rfl) ?_
    refine lv_iload hx hb dL_law_471 (lv_at hl 12 rfl) ?_
    refine lv_iload hx hb dL_law_473 (lv_at hl 0 rfl) ?_
    refine x_call (pre := [(ha, .inl (ci, 8, .inl f))]) (As := [.ref o, .int (nI j), .int (nI 0)]) (rest := []) ⟨hx, hb, hml, hown, hts⟩ (ks_open_c l D hE.2.2.1 h hj) (by decide) (by decide) (vx_cwSW 3 hts gL_law_L_open rfl rfl rfl (by decide +kernel) ⟨Nat.le_of_ble_eq_true rfl, Nat.le_of_ble_eq_true rfl⟩) hE.1 hE.2.1 hN hP hD hS hA rfl hl.1 rfl (Nat.le_of_ble_eq_true rfl) dL_law_475 ⟨by show cells + 1 ≤ 671634; omega, by show slots + 10 ≤ 7086567; omega⟩ (fun r1 E1 x1 H locs hw hg hP hD hS => ?_)
    have hE1 := lS_s hE hg
    obtain ⟨hr1, hp1, hq1, hi1, hz1⟩ := hw
    refine q_top (x' := (nI (cCnt x (nI 1) j 8))) hr1 ?_
    refine lv_iload hx hb dL_law_478 (lv_at hl 0 rfl) ?_
    refine lv_if_eq (tgt := 487) hx hb dL_law_480 (by decide) (fun _ => ?_) (fun cz => absurd rfl cz)
    refine lv_iload hx hb dL_law_487 (lv_at hl 2 rfl) ?_
    refine lv_icmp_ne (tgt := 527) hx hb dL_law_489 (by decide) (fun cz => absurd rfl cz) (fun _ => ?_)
    refine lv_aload_n hx hb dL_law_492 rfl (lv_at hl 4 rfl) ?_
    refine lv_iload hx hb dL_law_493 (lv_at hl 12 rfl) ?_
    refine x_get (pre := [(ha, .inl (ci, 8, .inl f))]) (As := [.ref o, .int (nI j)]) (rest := []) ⟨hx, hb, hml, hown, hts⟩ (kg_queue l D E1 x1 hE1.2.2.1 hj) (vx_cwSW 2 hts gL_law_L_queue rfl rfl rfl (by decide +kernel) ⟨Nat.le_of_ble_eq_true rfl, Nat.le_of_ble_eq_true rfl⟩) hE1.1 hE1.2.1 hN hP hD hS hA rfl hl.1 rfl (Nat.le_of_ble_eq_true rfl) dL_law_495 ⟨by show cells + 1 + 0 ≤ 671634; omega, by show slots + 10 + 0 ≤ 7086567; omega⟩ (fun H locs hP hD hS => ?_)
    refine q_top (x' := (nI 0)) (by rw [hq1]) ?_
    refine lv_iload hx hb dL_law_498 (lv_at hl 0 rfl) ?_
    refine lv_if_eq (tgt := 508) hx hb dL_law_500 (by decide) (fun _ => ?_) (fun cz => absurd rfl cz)
    refine lv_iconst (v := nI 0) hx hb dL_law_508 (by decide) ?_
    refine lv_icmp_ne (tgt := 527) hx hb dL_law_509 (by decide) (fun cz => absurd rfl cz) (fun _ => ?_)
    refine lv_aload_n hx hb dL_law_512 rfl (lv_at hl 4 rfl) ?_
    refine lv_iload hx hb dL_law_513 (lv_at hl 12 rfl) ?_
    refine x_get (pre := [(ha, .inl (ci, 8, .inl f))]) (As := [.ref o, .int (nI j)]) (rest := []) ⟨hx, hb, hml, hown, hts⟩ (kg_inside l D E1 x1 hE1.2.2.1 hj) (vx_cwSW 2 hts gL_law_L_inside rfl rfl rfl (by decide +kernel) ⟨Nat.le_of_ble_eq_true rfl, Nat.le_of_ble_eq_true rfl⟩) hE1.1 hE1.2.1 hN hP hD hS hA rfl hl.1 rfl (Nat.le_of_ble_eq_true rfl) dL_law_515 ⟨by show cells + 1 + 0 ≤ 671634; omega, by show slots + 10 + 0 ≤ 7086567; omega⟩ (fun H locs hP hD hS => ?_)
    refine q_top (x' := (nI (cCnt x (nI 2) j 8))) (by rw [hi1]) ?_
    refine lv_iload hx hb dL_law_518 (lv_at hl 1 rfl) ?_
    refine lv_icmp_ne (tgt := 527) hx hb dL_law_520 (by decide) (fun cz => absurd rfl cz) (fun _ => ?_)
    refine lv_iconst (v := nI 1) hx hb dL_law_523 (by decide) ?_
    refine lv_goto (tgt := 528) hx hb dL_law_524 (by decide) ?_
    refine lv_istore (lv' := [(5, .int (nI 1)), (14, .int (nI 0)), (13, .int (nI (cCnt x (nI 2) j 8))), (12, .int (nI (cCnt x (nI 1) j 8))), (0, .ref b), (1, .ref o), (2, .ref ha), (3, .int pd), (4, .int (nI mi)), (6, .int (nI i)), (8, .int (nI z)), (10, .int (nI v)), (11, .int (nI j))]) hx hb dL_law_528 hl (by decide) rfl (fun ls hl => ?_)
    refine lv_iload hx hb dL_law_530 (lv_at hl 0 rfl) ?_
    refine lv_if_eq (tgt := 563) hx hb dL_law_532 (by decide) (fun cz => absurd cz (by decide)) (fun _ => ?_)
    refine lv_iload hx hb dL_law_535 (lv_at hl 1 rfl) ?_
    refine lv_if_ne (tgt := 559) hx hb dL_law_537 (by decide) (fun cz => absurd rfl cz) (fun _ => ?_)
    refine lv_aload_n hx hb dL_law_540 rfl (lv_at hl 5 rfl) ?_
    refine lv_iload hx hb dL_law_541 (lv_at hl 12 rfl) ?_
    refine lv_iconst (v := nI 1) hx hb dL_law_543 (by decide) ?_
    refine x_call (pre := [(ha, .inl (ci, 8, .inl f))]) (As := [.ref o, .int (nI j), .int (nI 1)]) (rest := []) ⟨hx, hb, hml, hown, hts⟩ (ks_open_o l D hE1.2.2.1 hp1 hj) (by decide) (by decide) (vx_cwSW 3 hts gL_law_L_open rfl rfl rfl (by decide +kernel) ⟨Nat.le_of_ble_eq_true rfl, Nat.le_of_ble_eq_true rfl⟩) hE1.1 hE1.2.1 hN hP hD hS hA rfl hl.1 rfl (Nat.le_of_ble_eq_true rfl) dL_law_544 ⟨by show cells + 1 + 1 ≤ 671634; omega, by show slots + 10 + 10 ≤ 7086567; omega⟩ (fun r2 E2 x2 H locs hw hg hP hD hS => ?_)
    have hE2 := lS_s hE1 hg
    obtain ⟨hr2, hp2, hq2, -, hz2⟩ := hw
    refine q_top (x' := (nI 0)) hr2 ?_
    refine lv_if_ne (tgt := 563) hx hb dL_law_547 (by decide) (fun cz => absurd rfl cz) (fun _ => ?_)
    refine lv_aload_n hx hb dL_law_550 rfl (lv_at hl 5 rfl) ?_
    refine lv_iload hx hb dL_law_551 (lv_at hl 12 rfl) ?_
    refine x_get (pre := [(ha, .inl (ci, 8, .inl f))]) (As := [.ref o, .int (nI j)]) (rest := []) ⟨hx, hb, hml, hown, hts⟩ (kg_queue l D E2 x2 hE2.2.2.1 hj) (vx_cwSW 2 hts gL_law_L_queue rfl rfl rfl (by decide +kernel) ⟨Nat.le_of_ble_eq_true rfl, Nat.le_of_ble_eq_true rfl⟩) hE2.1 hE2.2.1 hN hP hD hS hA rfl hl.1 rfl (Nat.le_of_ble_eq_true rfl) dL_law_553 ⟨by show cells + 1 + 1 + 0 ≤ 671634; omega, by show slots + 10 + 10 + 0 ≤ 7086567; omega⟩ (fun H locs hP hD hS => ?_)
    refine q_top (x' := (nI 0)) (by rw [hq2, hq1]) ?_
    refine lv_if_ne (tgt := 563) hx hb dL_law_556 (by decide) (fun cz => absurd rfl cz) (fun _ => ?_)
    refine lv_iconst (v := nI 1) hx hb dL_law_559 (by decide) ?_
    refine lv_goto (tgt := 564) hx hb dL_law_560 (by decide) ?_
    refine lv_istore (lv' := [(5, .int (nI 1)), (14, .int (nI 0)), (13, .int (nI (cCnt x (nI 2) j 8))), (12, .int (nI (cCnt x (nI 1) j 8))), (0, .ref b), (1, .ref o), (2, .ref ha), (3, .int pd), (4, .int (nI mi)), (6, .int (nI i)), (8, .int (nI z)), (10, .int (nI v)), (11, .int (nI j))]) hx hb dL_law_564 hl (by decide) rfl (fun ls hl => ?_)
    refine lv_goto (tgt := 911) hx hb dL_law_566 (by decide) ?_
    refine W.widen (k := cells + 12) (n := slots + 120) (by omega) (by omega) ?_
    exact hn E2 x2 _ _ _ _ _ hE2 (pI_le hp2 (Nat.le_succ i)) (by omega) (had_of hf (zM_tr hz1 hz2)) hP hD hS (lv_sub hl [4, 5, 6, 7, 8, 0, 9] rfl)

set_option maxHeartbeats 4000000 in
set_option maxRecDepth 100000 in
theorem cs_setp {p : Program} {e : Env} {s : State} {m : MethodId} {below : List Frame} {meth : Method} {c : Code} {b L : Nat} {xs : Nat → Int32} {D : va_G} {o ha : Nat} {ci : ClassId} {f : Nat → Int32} {E : cE} {x : T2} {i mi cells slots z v j : Nat} {pd : Int32} {ls : Array Slot} {H : Heap} {locs : List Loc} (l : Launch) (hl0 : l.stackTraces = false) (C0 : lw_At p s m meth c b L xs) (hN : jNc s) (hE : lS D s o ci E) (h : pI E x mi i pd) (hm9 : mi ≤ 9 * i) (hi : i < 56) (hf : ∀ v, v < 8 → f v = x 10 v) (hz : z < 2 ^ 31) (hv : v < 8) (hj : j < 6) (hcl : cells + 12 ≤ 671634) (hsl : slots + 120 ≤ 7086567) (hn : lwN p l e s m b below meth c D o ha ci f i cells slots) (hP : va_P D vwCl (lW ha ci f E x) H) (hD : va_D (fun q : Nat => s.heap.size ≤ q) (lW ha ci f E x)) (hS : va_S (fun q : Nat => s.heap.size ≤ q) s.heap H locs) (hl : lv_has ls 17 [(0, .ref b), (1, .ref o), (2, .ref ha), (3, .int pd), (4, .int (nI mi)), (5, .int (nI 1)), (6, .int (nI i)), (8, .int (nI z)), (10, .int (nI v)), (11, .int (nI j))]) : W p l e room_1 s m #[Value.ref b] below meth c H locs (cells) (slots) (lw_Z below #[Value.ref b] s) (F0 m 576 ls []) := by
  obtain ⟨hx, hb, hr, hml, hown, hts0, hX, hbl, hlocks, hgv⟩ := C0
  have hown : s.vm.findClass RL = some m.cls := hown
  have hts : ∀ w ∈ wsL_law, w.before #[Value.ref b] s = true := fun w h => hts0 w (wsL_law_in w h)
  have hA : ∀ q : Nat, s.heap.size ≤ q → (fun q : Nat => s.heap.size ≤ q) q := fun _ h => h
  unfold lwN at hn
  refine lv_aload_n hx hb dL_law_576 rfl (lv_at hl 1 rfl) ?_
  refine lv_iload hx hb dL_law_577 (lv_at hl 9 rfl) ?_
  refine x_get (pre := [(ha, .inl (ci, 8, .inl f))]) (As := [.ref o, .int (nI j)]) (rest := []) ⟨hx, hb, hml, hown, hts⟩ (kg_inside l D E x hE.2.2.1 hj) (vx_cwSW 2 hts gL_law_L_inside rfl rfl rfl (by decide +kernel) ⟨Nat.le_of_ble_eq_true rfl, Nat.le_of_ble_eq_true rfl⟩) hE.1 hE.2.1 hN hP hD hS hA rfl hl.1 rfl (Nat.le_of_ble_eq_true rfl) dL_law_579 ⟨by show cells + 0 ≤ 671634; omega, by show slots + 0 ≤ 7086567; omega⟩ (fun H locs hP hD hS => ?_)
  refine lv_istore (lv' := [(12, .int (nI (cCnt x (nI 2) j 8))), (0, .ref b), (1, .ref o), (2, .ref ha), (3, .int pd), (4, .int (nI mi)), (5, .int (nI 1)), (6, .int (nI i)), (8, .int (nI z)), (10, .int (nI v)), (11, .int (nI j))]) hx hb dL_law_582 hl (by decide) rfl (fun ls hl => ?_)
  refine lv_aload_n hx hb dL_law_584 rfl (lv_at hl 2 rfl) ?_
  refine lv_iload hx hb dL_law_585 (lv_at hl 10 rfl) ?_
  refine lv_iconst (v := nI 1) hx hb dL_law_587 (by decide) ?_
  refine lv_iload hx hb dL_law_588 (lv_at hl 8 rfl) ?_
  refine lv_bipush (v := nI 48) hx hb dL_law_590 (by decide) ?_
  refine q_divn hx hb (by omega) (by decide) (by decide) dL_law_592 ?_
  refine lv_bipush (v := nI 8) hx hb dL_law_593 (by decide) ?_
  refine q_remn hx hb (by omega) (by decide) (by decide) dL_law_595 ?_
  refine q_add hx hb dL_law_596 ?_
  refine lv_iconst (v := nI 1) hx hb dL_law_597 (by decide) ?_
  refine lv_iload hx hb dL_law_598 (lv_at hl 8 rfl) ?_
  refine lv_sipush (v := nI 384) hx hb dL_law_600 (by decide) ?_
  refine q_divn hx hb (by omega) (by decide) (by decide) dL_law_603 ?_
  refine lv_bipush (v := nI 12) hx hb dL_law_604 (by decide) ?_
  refine q_remn hx hb (by omega) (by decide) (by decide) dL_law_606 ?_
  refine q_add hx hb dL_law_607 ?_
  refine x_call (pre := [(ha, .inl (ci, 8, .inl f))]) (As := [.ref o, .int (nI j), .int (nI (1 + ((z / 48) % 8))), .int (nI (1 + ((z / 384) % 12)))]) (rest := []) ⟨hx, hb, hml, hown, hts⟩ (ks_setp l D hE.2.2.1 h hj (by omega) (by omega) (by omega) (by omega)) (by decide) (by decide) (vx_cwSW 4 hts gL_law_L_setPavilion rfl rfl rfl (by decide +kernel) ⟨Nat.le_of_ble_eq_true rfl, Nat.le_of_ble_eq_true rfl⟩) hE.1 hE.2.1 hN hP hD hS hA rfl hl.1 rfl (Nat.le_of_ble_eq_true rfl) dL_law_608 ⟨by show cells + 1 ≤ 671634; omega, by show slots + 10 ≤ 7086567; omega⟩ (fun r1 E1 x1 H locs hw hg hP hD hS => ?_)
  have hE1 := lS_s hE hg
  obtain ⟨hr1, hp1, hi1, hz1⟩ := hw
  refine q_top (x' := (nI 0)) hr1 ?_
  refine lv_if_ne (tgt := 629) hx hb dL_law_611 (by decide) (fun cz => absurd rfl cz) (fun _ => ?_)
  refine lv_aload_n hx hb dL_law_614 rfl (lv_at hl 2 rfl) ?_
  refine lv_iload hx hb dL_law_615 (lv_at hl 10 rfl) ?_
  refine x_get (pre := [(ha, .inl (ci, 8, .inl f))]) (As := [.ref o, .int (nI j)]) (rest := []) ⟨hx, hb, hml, hown, hts⟩ (kg_inside l D E1 x1 hE1.2.2.1 hj) (vx_cwSW 2 hts gL_law_L_inside rfl rfl rfl (by decide +kernel) ⟨Nat.le_of_ble_eq_true rfl, Nat.le_of_ble_eq_true rfl⟩) hE1.1 hE1.2.1 hN hP hD hS hA rfl hl.1 rfl (Nat.le_of_ble_eq_true rfl) dL_law_617 ⟨by show cells + 1 + 0 ≤ 671634; omega, by show slots + 10 + 0 ≤ 7086567; omega⟩ (fun H locs hP hD hS => ?_)
  refine q_top (x' := (nI (cCnt x (nI 2) j 8))) (by rw [hi1]) ?_
  refine lv_iload hx hb dL_law_620 (lv_at hl 0 rfl) ?_
  refine lv_icmp_ne (tgt := 629) hx hb dL_law_622 (by decide) (fun cz => absurd rfl cz) (fun _ => ?_)
  refine lv_iconst (v := nI 1) hx hb dL_law_625 (by decide) ?_
  refine lv_goto (tgt := 630) hx hb dL_law_626 (by decide) ?_
  refine lv_istore (lv' := [(5, .int (nI 1)), (12, .int (nI (cCnt x (nI 2) j 8))), (0, .ref b), (1, .ref o), (2, .ref ha), (3, .int pd), (4, .int (nI mi)), (6, .int (nI i)), (8, .int (nI z)), (10, .int (nI v)), (11, .int (nI j))]) hx hb dL_law_630 hl (by decide) rfl (fun ls hl => ?_)
  refine lv_goto (tgt := 911) hx hb dL_law_632 (by decide) ?_
  refine W.widen (k := cells + 12) (n := slots + 120) (by omega) (by omega) ?_
  exact hn E1 x1 _ _ _ _ _ hE1 (pI_le hp1 (Nat.le_succ i)) (by omega) (had_of hf hz1) hP hD hS (lv_sub hl [2, 3, 4, 5, 6, 0, 7] rfl)

set_option maxHeartbeats 4000000 in
set_option maxRecDepth 100000 in
theorem cs_send {p : Program} {e : Env} {s : State} {m : MethodId} {below : List Frame} {meth : Method} {c : Code} {b L : Nat} {xs : Nat → Int32} {D : va_G} {o ha : Nat} {ci : ClassId} {f : Nat → Int32} {E : cE} {x : T2} {i mi cells slots z v j : Nat} {pd : Int32} {ls : Array Slot} {H : Heap} {locs : List Loc} (l : Launch) (hl0 : l.stackTraces = false) (C0 : lw_At p s m meth c b L xs) (hN : jNc s) (hE : lS D s o ci E) (h : pI E x mi i pd) (hm9 : mi ≤ 9 * i) (hi : i < 56) (hf : ∀ v, v < 8 → f v = x 10 v) (hz : z < 2 ^ 31) (hv : v < 8) (hj : j < 6) (hcl : cells + 12 ≤ 671634) (hsl : slots + 120 ≤ 7086567) (hn : lwN p l e s m b below meth c D o ha ci f i cells slots) (hP : va_P D vwCl (lW ha ci f E x) H) (hD : va_D (fun q : Nat => s.heap.size ≤ q) (lW ha ci f E x)) (hS : va_S (fun q : Nat => s.heap.size ≤ q) s.heap H locs) (hl : lv_has ls 17 [(0, .ref b), (1, .ref o), (2, .ref ha), (3, .int pd), (4, .int (nI mi)), (5, .int (nI 1)), (6, .int (nI i)), (8, .int (nI z)), (10, .int (nI v)), (11, .int (nI j))]) : W p l e room_1 s m #[Value.ref b] below meth c H locs (cells) (slots) (lw_Z below #[Value.ref b] s) (F0 m 642 ls []) := by
  obtain ⟨hx, hb, hr, hml, hown, hts0, hX, hbl, hlocks, hgv⟩ := C0
  have hown : s.vm.findClass RL = some m.cls := hown
  have hts : ∀ w ∈ wsL_law, w.before #[Value.ref b] s = true := fun w h => hts0 w (wsL_law_in w h)
  have hA : ∀ q : Nat, s.heap.size ≤ q → (fun q : Nat => s.heap.size ≤ q) q := fun _ h => h
  unfold lwN at hn
  refine lv_aload_n hx hb dL_law_642 rfl (lv_at hl 1 rfl) ?_
  refine lv_iload hx hb dL_law_643 (lv_at hl 9 rfl) ?_
  refine x_get (pre := [(ha, .inl (ci, 8, .inl f))]) (As := [.ref o, .int (nI j)]) (rest := []) ⟨hx, hb, hml, hown, hts⟩ (kg_stock l D E x hE.2.2.1 hj) (vx_cwSW 2 hts gL_law_L_stock rfl rfl rfl (by decide +kernel) ⟨Nat.le_of_ble_eq_true rfl, Nat.le_of_ble_eq_true rfl⟩) hE.1 hE.2.1 hN hP hD hS hA rfl hl.1 rfl (Nat.le_of_ble_eq_true rfl) dL_law_645 ⟨by show cells + 0 ≤ 671634; omega, by show slots + 0 ≤ 7086567; omega⟩ (fun H locs hP hD hS => ?_)
  refine lv_istore (lv' := [(12, .int (x 4 j)), (0, .ref b), (1, .ref o), (2, .ref ha), (3, .int pd), (4, .int (nI mi)), (5, .int (nI 1)), (6, .int (nI i)), (8, .int (nI z)), (10, .int (nI v)), (11, .int (nI j))]) hx hb dL_law_648 hl (by decide) rfl (fun ls hl => ?_)
  refine lv_aload_n hx hb dL_law_650 rfl (lv_at hl 2 rfl) ?_
  refine lv_iload hx hb dL_law_651 (lv_at hl 10 rfl) ?_
  refine x_get (pre := [(ha, .inl (ci, 8, .inl f))]) (As := [.ref o, .int (nI j)]) (rest := []) ⟨hx, hb, hml, hown, hts⟩ (kg_demand l D E x hE.2.2.1 hj) (vx_cwSW 2 hts gL_law_L_demand rfl rfl rfl (by decide +kernel) ⟨Nat.le_of_ble_eq_true rfl, Nat.le_of_ble_eq_true rfl⟩) hE.1 hE.2.1 hN hP hD hS hA rfl hl.1 rfl (Nat.le_of_ble_eq_true rfl) dL_law_653 ⟨by show cells + 0 ≤ 671634; omega, by show slots + 0 ≤ 7086567; omega⟩ (fun H locs hP hD hS => ?_)
  refine lv_istore (lv' := [(13, .int (x 5 j)), (12, .int (x 4 j)), (0, .ref b), (1, .ref o), (2, .ref ha), (3, .int pd), (4, .int (nI mi)), (5, .int (nI 1)), (6, .int (nI i)), (8, .int (nI z)), (10, .int (nI v)), (11, .int (nI j))]) hx hb dL_law_656 hl (by decide) rfl (fun ls hl => ?_)
  refine lv_aload_n hx hb dL_law_658 rfl (lv_at hl 3 rfl) ?_
  refine lv_iload hx hb dL_law_659 (lv_at hl 10 rfl) ?_
  refine lv_iload hx hb dL_law_661 (lv_at hl 11 rfl) ?_
  refine x_get (pre := [(ha, .inl (ci, 8, .inl f))]) (As := [.ref o, .int (nI v), .int (nI j)]) (rest := []) ⟨hx, hb, hml, hown, hts⟩ (kg_sent l D E x hE.2.2.1 hv hj) (vx_cwSW 3 hts gL_law_L_sent rfl rfl rfl (by decide +kernel) ⟨Nat.le_of_ble_eq_true rfl, Nat.le_of_ble_eq_true rfl⟩) hE.1 hE.2.1 hN hP hD hS hA rfl hl.1 rfl (Nat.le_of_ble_eq_true rfl) dL_law_663 ⟨by show cells + 0 ≤ 671634; omega, by show slots + 0 ≤ 7086567; omega⟩ (fun H locs hP hD hS => ?_)
  refine lv_istore (lv' := [(14, .int (eS E v j)), (13, .int (x 5 j)), (12, .int (x 4 j)), (0, .ref b), (1, .ref o), (2, .ref ha), (3, .int pd), (4, .int (nI mi)), (5, .int (nI 1)), (6, .int (nI i)), (8, .int (nI z)), (10, .int (nI v)), (11, .int (nI j))]) hx hb dL_law_666 hl (by decide) rfl (fun ls hl => ?_)
  refine lv_aload_n hx hb dL_law_668 rfl (lv_at hl 4 rfl) ?_
  refine lv_iload hx hb dL_law_669 (lv_at hl 11 rfl) ?_
  refine lv_iload hx hb dL_law_671 (lv_at hl 12 rfl) ?_
  by_cases cb : (x 10 v >>> (nI j &&& 31)) &&& nI 1 = nI 0
  · have hst : cHas x v j = 0 := if_pos ((w_bit (x 10 v) hj).mp cb)
    refine x_ref (pre := [(ha, .inl (ci, 8, .inl f))]) (As := [.ref o, .int (nI v), .int (nI j)]) (rest := []) ⟨hx, hb, hml, hown, hts⟩ (ks_send_x l D hl0 hE.2.2.1 hv hj hst) (vx_cwSW 3 hts gL_law_L_send rfl rfl rfl (by decide +kernel) ⟨Nat.le_of_ble_eq_true rfl, Nat.le_of_ble_eq_true rfl⟩) hE.1 hE.2.1 hN hP hD hS hA rfl hl.1 rfl (Nat.le_of_ble_eq_true rfl) dL_law_673 ⟨by show cells + 1 ≤ 671634; omega, by show slots + 10 ≤ 7086567; omega⟩ (fun H locs hP hD hS => ?_)
    refine lv_istore (lv' := [(15, .int (-103)), (14, .int (eS E v j)), (13, .int (x 5 j)), (12, .int (x 4 j)), (0, .ref b), (1, .ref o), (2, .ref ha), (3, .int pd), (4, .int (nI mi)), (5, .int (nI 1)), (6, .int (nI i)), (8, .int (nI z)), (10, .int (nI v)), (11, .int (nI j))]) hx hb dL_law_676 hl (by decide) rfl (fun ls hl => ?_)
    refine lv_aload_n hx hb dL_law_678 rfl (lv_at hl 5 rfl) ?_
    refine lv_iload hx hb dL_law_679 (lv_at hl 12 rfl) ?_
    refine x_get (pre := [(ha, .inl (ci, 8, .inl f))]) (As := [.ref o, .int (nI v)]) (rest := []) ⟨hx, hb, hml, hown, hts⟩ (kg_stamps l D E x hE.2.2.1 hv) (vx_cwSW 2 hts gL_law_L_stamps rfl rfl rfl (by decide +kernel) ⟨Nat.le_of_ble_eq_true rfl, Nat.le_of_ble_eq_true rfl⟩) hE.1 hE.2.1 hN hP hD hS hA rfl hl.1 rfl (Nat.le_of_ble_eq_true rfl) dL_law_681 ⟨by show cells + 1 + 0 ≤ 671634; omega, by show slots + 10 + 0 ≤ 7086567; omega⟩ (fun H locs hP hD hS => ?_)
    refine lv_iload hx hb dL_law_684 (lv_at hl 13 rfl) ?_
    refine lv_ishr hx hb dL_law_686 ?_
    refine lv_iconst (v := nI 1) hx hb dL_law_687 (by decide) ?_
    refine lv_iand hx hb dL_law_688 ?_
    refine lv_iconst (v := nI 1) hx hb dL_law_689 (by decide) ?_
    refine lv_icmp_ne (tgt := 697) hx hb dL_law_690 (by decide) (fun _ => ?_) (fun cz => absurd (cb.symm.trans cz) nI_01)
    refine lv_iconst (v := nI 0) hx hb dL_law_697 (by decide) ?_
    refine lv_istore (lv' := [(16, .int (nI 0)), (15, .int (-103)), (14, .int (eS E v j)), (13, .int (x 5 j)), (12, .int (x 4 j)), (0, .ref b), (1, .ref o), (2, .ref ha), (3, .int pd), (4, .int (nI mi)), (5, .int (nI 1)), (6, .int (nI i)), (8, .int (nI z)), (10, .int (nI v)), (11, .int (nI j))]) hx hb dL_law_698 hl (by decide) rfl (fun ls hl => ?_)
    refine lv_iload hx hb dL_law_700 (lv_at hl 0 rfl) ?_
    refine lv_if_ne (tgt := 720) hx hb dL_law_702 (by decide) (fun cz => absurd rfl cz) (fun _ => ?_)
    refine lv_iload hx hb dL_law_705 (lv_at hl 1 rfl) ?_
    refine lv_bipush (v := -103) hx hb dL_law_707 (by decide) ?_
    refine lv_icmp_ne (tgt := 716) hx hb dL_law_709 (by decide) (fun cz => absurd rfl cz) (fun _ => ?_)
    refine lv_iconst (v := nI 1) hx hb dL_law_712 (by decide) ?_
    refine lv_goto (tgt := 810) hx hb dL_law_713 (by decide) ?_
    refine lv_istore (lv' := [(5, .int (nI 1)), (16, .int (nI 0)), (15, .int (-103)), (14, .int (eS E v j)), (13, .int (x 5 j)), (12, .int (x 4 j)), (0, .ref b), (1, .ref o), (2, .ref ha), (3, .int pd), (4, .int (nI mi)), (6, .int (nI i)), (8, .int (nI z)), (10, .int (nI v)), (11, .int (nI j))]) hx hb dL_law_810 hl (by decide) rfl (fun ls hl => ?_)
    refine lv_goto (tgt := 911) hx hb dL_law_812 (by decide) ?_
    refine W.widen (k := cells + 12) (n := slots + 120) (by omega) (by omega) ?_
    exact hn E x _ _ _ _ _ hE (pI_le h (Nat.le_succ i)) (by omega) (had_of hf (zM_rf (pI_S h))) hP hD hS (lv_sub hl [6, 7, 8, 9, 10, 0, 11] rfl)
  · have hst : cHas x v j = 1 := if_neg (fun q => cb ((w_bit (x 10 v) hj).mpr q))
    have cb1 := bit_01 (x 10 v) hj cb
    obtain ⟨a4, a5, g4, g5, g6⟩ := h.2.2.2.2.1 j hj
    by_cases c4 : x 4 j = nI 0
    · refine x_call (pre := [(ha, .inl (ci, 8, .inl f))]) (As := [.ref o, .int (nI v), .int (nI j)]) (rest := []) ⟨hx, hb, hml, hown, hts⟩ (ks_send_e l D hE.2.2.1 h hv hj hst c4) (by decide) (by decide) (vx_cwSW 3 hts gL_law_L_send rfl rfl rfl (by decide +kernel) ⟨Nat.le_of_ble_eq_true rfl, Nat.le_of_ble_eq_true rfl⟩) hE.1 hE.2.1 hN hP hD hS hA rfl hl.1 rfl (Nat.le_of_ble_eq_true rfl) dL_law_673 ⟨by show cells + 1 ≤ 671634; omega, by show slots + 10 ≤ 7086567; omega⟩ (fun r1 E1 x1 H locs hw hg hP hD hS => ?_)
      have hE1 := lS_s hE hg
      obtain ⟨hr1, hp1, h5, h4, h10, hz1⟩ := hw
      refine q_top (x' := (nI 0)) hr1 ?_
      refine lv_istore (lv' := [(15, .int (nI 0)), (14, .int (eS E v j)), (13, .int (x 5 j)), (12, .int (x 4 j)), (0, .ref b), (1, .ref o), (2, .ref ha), (3, .int pd), (4, .int (nI mi)), (5, .int (nI 1)), (6, .int (nI i)), (8, .int (nI z)), (10, .int (nI v)), (11, .int (nI j))]) hx hb dL_law_676 hl (by decide) rfl (fun ls hl => ?_)
      refine lv_aload_n hx hb dL_law_678 rfl (lv_at hl 5 rfl) ?_
      refine lv_iload hx hb dL_law_679 (lv_at hl 12 rfl) ?_
      refine x_get (pre := [(ha, .inl (ci, 8, .inl f))]) (As := [.ref o, .int (nI v)]) (rest := []) ⟨hx, hb, hml, hown, hts⟩ (kg_stamps l D E1 x1 hE1.2.2.1 hv) (vx_cwSW 2 hts gL_law_L_stamps rfl rfl rfl (by decide +kernel) ⟨Nat.le_of_ble_eq_true rfl, Nat.le_of_ble_eq_true rfl⟩) hE1.1 hE1.2.1 hN hP hD hS hA rfl hl.1 rfl (Nat.le_of_ble_eq_true rfl) dL_law_681 ⟨by show cells + 1 + 0 ≤ 671634; omega, by show slots + 10 + 0 ≤ 7086567; omega⟩ (fun H locs hP hD hS => ?_)
      refine q_top (x' := (x 10 v)) h10 ?_
      refine lv_iload hx hb dL_law_684 (lv_at hl 13 rfl) ?_
      refine lv_ishr hx hb dL_law_686 ?_
      refine lv_iconst (v := nI 1) hx hb dL_law_687 (by decide) ?_
      refine lv_iand hx hb dL_law_688 ?_
      refine lv_iconst (v := nI 1) hx hb dL_law_689 (by decide) ?_
      refine lv_icmp_ne (tgt := 697) hx hb dL_law_690 (by decide) (fun cz => absurd cb1 cz) (fun _ => ?_)
      refine lv_iconst (v := nI 1) hx hb dL_law_693 (by decide) ?_
      refine lv_goto (tgt := 698) hx hb dL_law_694 (by decide) ?_
      refine lv_istore (lv' := [(16, .int (nI 1)), (15, .int (nI 0)), (14, .int (eS E v j)), (13, .int (x 5 j)), (12, .int (x 4 j)), (0, .ref b), (1, .ref o), (2, .ref ha), (3, .int pd), (4, .int (nI mi)), (5, .int (nI 1)), (6, .int (nI i)), (8, .int (nI z)), (10, .int (nI v)), (11, .int (nI j))]) hx hb dL_law_698 hl (by decide) rfl (fun ls hl => ?_)
      refine lv_iload hx hb dL_law_700 (lv_at hl 0 rfl) ?_
      refine lv_if_ne (tgt := 720) hx hb dL_law_702 (by decide) (fun _ => ?_) (fun cz => absurd cz (by decide))
      refine lv_iload hx hb dL_law_720 (lv_at hl 4 rfl) ?_
      refine lv_if_le (tgt := 778) hx hb dL_law_722 (by decide) (fun _ => ?_) (fun cz => absurd (by rw [c4]; decide) cz)
      refine lv_iload hx hb dL_law_778 (lv_at hl 1 rfl) ?_
      refine lv_if_ne (tgt := 809) hx hb dL_law_780 (by decide) (fun cz => absurd rfl cz) (fun _ => ?_)
      refine lv_aload_n hx hb dL_law_783 rfl (lv_at hl 6 rfl) ?_
      refine lv_iload hx hb dL_law_784 (lv_at hl 14 rfl) ?_
      refine x_get (pre := [(ha, .inl (ci, 8, .inl f))]) (As := [.ref o, .int (nI j)]) (rest := []) ⟨hx, hb, hml, hown, hts⟩ (kg_demand l D E1 x1 hE1.2.2.1 hj) (vx_cwSW 2 hts gL_law_L_demand rfl rfl rfl (by decide +kernel) ⟨Nat.le_of_ble_eq_true rfl, Nat.le_of_ble_eq_true rfl⟩) hE1.1 hE1.2.1 hN hP hD hS hA rfl hl.1 rfl (Nat.le_of_ble_eq_true rfl) dL_law_786 ⟨by show cells + 1 + 0 ≤ 671634; omega, by show slots + 10 + 0 ≤ 7086567; omega⟩ (fun H locs hP hD hS => ?_)
      refine q_top (x' := (x 5 j + nI 1)) h5 ?_
      refine lv_iload hx hb dL_law_789 (lv_at hl 3 rfl) ?_
      refine lv_iconst (v := nI 1) hx hb dL_law_791 (by decide) ?_
      refine lv_iadd hx hb dL_law_792 ?_
      refine lv_icmp_ne (tgt := 809) hx hb dL_law_793 (by decide) (fun cz => absurd rfl cz) (fun _ => ?_)
      refine lv_aload_n hx hb dL_law_796 rfl (lv_at hl 6 rfl) ?_
      refine lv_iload hx hb dL_law_797 (lv_at hl 14 rfl) ?_
      refine x_get (pre := [(ha, .inl (ci, 8, .inl f))]) (As := [.ref o, .int (nI j)]) (rest := []) ⟨hx, hb, hml, hown, hts⟩ (kg_stock l D E1 x1 hE1.2.2.1 hj) (vx_cwSW 2 hts gL_law_L_stock rfl rfl rfl (by decide +kernel) ⟨Nat.le_of_ble_eq_true rfl, Nat.le_of_ble_eq_true rfl⟩) hE1.1 hE1.2.1 hN hP hD hS hA rfl hl.1 rfl (Nat.le_of_ble_eq_true rfl) dL_law_799 ⟨by show cells + 1 + 0 ≤ 671634; omega, by show slots + 10 + 0 ≤ 7086567; omega⟩ (fun H locs hP hD hS => ?_)
      refine q_top (x' := (nI 0)) h4 ?_
      refine lv_if_ne (tgt := 809) hx hb dL_law_802 (by decide) (fun cz => absurd rfl cz) (fun _ => ?_)
      refine lv_iconst (v := nI 1) hx hb dL_law_805 (by decide) ?_
      refine lv_goto (tgt := 810) hx hb dL_law_806 (by decide) ?_
      refine lv_istore (lv' := [(5, .int (nI 1)), (16, .int (nI 1)), (15, .int (nI 0)), (14, .int (eS E v j)), (13, .int (x 5 j)), (12, .int (x 4 j)), (0, .ref b), (1, .ref o), (2, .ref ha), (3, .int pd), (4, .int (nI mi)), (6, .int (nI i)), (8, .int (nI z)), (10, .int (nI v)), (11, .int (nI j))]) hx hb dL_law_810 hl (by decide) rfl (fun ls hl => ?_)
      refine lv_goto (tgt := 911) hx hb dL_law_812 (by decide) ?_
      refine W.widen (k := cells + 12) (n := slots + 120) (by omega) (by omega) ?_
      exact hn E1 x1 _ _ _ _ _ hE1 (hp1) (by omega) (had_of hf hz1) hP hD hS (lv_sub hl [6, 7, 8, 9, 10, 0, 11] rfl)
    · have ha4 : 0 < a4 := Nat.pos_of_ne_zero (fun q => c4 (by rw [g4, q]))
      refine x_call (pre := [(ha, .inl (ci, 8, .inl f))]) (As := [.ref o, .int (nI v), .int (nI j)]) (rest := []) ⟨hx, hb, hml, hown, hts⟩ (ks_send_s l D hE.2.2.1 h hv hj hst c4) (by decide) (by decide) (vx_cwSW 3 hts gL_law_L_send rfl rfl rfl (by decide +kernel) ⟨Nat.le_of_ble_eq_true rfl, Nat.le_of_ble_eq_true rfl⟩) hE.1 hE.2.1 hN hP hD hS hA rfl hl.1 rfl (Nat.le_of_ble_eq_true rfl) dL_law_673 ⟨by show cells + 1 ≤ 671634; omega, by show slots + 10 ≤ 7086567; omega⟩ (fun r1 E1 x1 H locs hw hg hP hD hS => ?_)
      have hE1 := lS_s hE hg
      obtain ⟨hr1, hp1, h4, h6, h5, h10, hz1⟩ := hw
      refine q_top (x' := (nI 1)) hr1 ?_
      refine lv_istore (lv' := [(15, .int (nI 1)), (14, .int (eS E v j)), (13, .int (x 5 j)), (12, .int (x 4 j)), (0, .ref b), (1, .ref o), (2, .ref ha), (3, .int pd), (4, .int (nI mi)), (5, .int (nI 1)), (6, .int (nI i)), (8, .int (nI z)), (10, .int (nI v)), (11, .int (nI j))]) hx hb dL_law_676 hl (by decide) rfl (fun ls hl => ?_)
      refine lv_aload_n hx hb dL_law_678 rfl (lv_at hl 5 rfl) ?_
      refine lv_iload hx hb dL_law_679 (lv_at hl 12 rfl) ?_
      refine x_get (pre := [(ha, .inl (ci, 8, .inl f))]) (As := [.ref o, .int (nI v)]) (rest := []) ⟨hx, hb, hml, hown, hts⟩ (kg_stamps l D E1 x1 hE1.2.2.1 hv) (vx_cwSW 2 hts gL_law_L_stamps rfl rfl rfl (by decide +kernel) ⟨Nat.le_of_ble_eq_true rfl, Nat.le_of_ble_eq_true rfl⟩) hE1.1 hE1.2.1 hN hP hD hS hA rfl hl.1 rfl (Nat.le_of_ble_eq_true rfl) dL_law_681 ⟨by show cells + 1 + 0 ≤ 671634; omega, by show slots + 10 + 0 ≤ 7086567; omega⟩ (fun H locs hP hD hS => ?_)
      refine q_top (x' := (x 10 v)) h10 ?_
      refine lv_iload hx hb dL_law_684 (lv_at hl 13 rfl) ?_
      refine lv_ishr hx hb dL_law_686 ?_
      refine lv_iconst (v := nI 1) hx hb dL_law_687 (by decide) ?_
      refine lv_iand hx hb dL_law_688 ?_
      refine lv_iconst (v := nI 1) hx hb dL_law_689 (by decide) ?_
      refine lv_icmp_ne (tgt := 697) hx hb dL_law_690 (by decide) (fun cz => absurd cb1 cz) (fun _ => ?_)
      refine lv_iconst (v := nI 1) hx hb dL_law_693 (by decide) ?_
      refine lv_goto (tgt := 698) hx hb dL_law_694 (by decide) ?_
      refine lv_istore (lv' := [(16, .int (nI 1)), (15, .int (nI 1)), (14, .int (eS E v j)), (13, .int (x 5 j)), (12, .int (x 4 j)), (0, .ref b), (1, .ref o), (2, .ref ha), (3, .int pd), (4, .int (nI mi)), (5, .int (nI 1)), (6, .int (nI i)), (8, .int (nI z)), (10, .int (nI v)), (11, .int (nI j))]) hx hb dL_law_698 hl (by decide) rfl (fun ls hl => ?_)
      refine lv_iload hx hb dL_law_700 (lv_at hl 0 rfl) ?_
      refine lv_if_ne (tgt := 720) hx hb dL_law_702 (by decide) (fun _ => ?_) (fun cz => absurd cz (by decide))
      refine lv_iload hx hb dL_law_720 (lv_at hl 4 rfl) ?_
      refine lv_if_le (tgt := 778) hx hb dL_law_722 (by decide) (fun cz => absurd cz (by rw [g4]; exact nI_nle ha4 (by omega))) (fun _ => ?_)
      refine lv_iload hx hb dL_law_725 (lv_at hl 1 rfl) ?_
      refine lv_iconst (v := nI 1) hx hb dL_law_727 (by decide) ?_
      refine lv_icmp_ne (tgt := 774) hx hb dL_law_728 (by decide) (fun cz => absurd rfl cz) (fun _ => ?_)
      refine lv_aload_n hx hb dL_law_731 rfl (lv_at hl 6 rfl) ?_
      refine lv_iload hx hb dL_law_732 (lv_at hl 14 rfl) ?_
      refine x_get (pre := [(ha, .inl (ci, 8, .inl f))]) (As := [.ref o, .int (nI j)]) (rest := []) ⟨hx, hb, hml, hown, hts⟩ (kg_stock l D E1 x1 hE1.2.2.1 hj) (vx_cwSW 2 hts gL_law_L_stock rfl rfl rfl (by decide +kernel) ⟨Nat.le_of_ble_eq_true rfl, Nat.le_of_ble_eq_true rfl⟩) hE1.1 hE1.2.1 hN hP hD hS hA rfl hl.1 rfl (Nat.le_of_ble_eq_true rfl) dL_law_734 ⟨by show cells + 1 + 0 ≤ 671634; omega, by show slots + 10 + 0 ≤ 7086567; omega⟩ (fun H locs hP hD hS => ?_)
      refine q_top (x' := (x 4 j - nI 1)) h4 ?_
      refine lv_iload hx hb dL_law_737 (lv_at hl 4 rfl) ?_
      refine lv_iconst (v := nI 1) hx hb dL_law_739 (by decide) ?_
      refine lv_isub hx hb dL_law_740 ?_
      refine lv_icmp_ne (tgt := 774) hx hb dL_law_741 (by decide) (fun cz => absurd rfl cz) (fun _ => ?_)
      refine lv_aload_n hx hb dL_law_744 rfl (lv_at hl 6 rfl) ?_
      refine lv_iload hx hb dL_law_745 (lv_at hl 13 rfl) ?_
      refine lv_iload hx hb dL_law_747 (lv_at hl 14 rfl) ?_
      refine x_get (pre := [(ha, .inl (ci, 8, .inl f))]) (As := [.ref o, .int (nI v), .int (nI j)]) (rest := []) ⟨hx, hb, hml, hown, hts⟩ (kg_sent l D E1 x1 hE1.2.2.1 hv hj) (vx_cwSW 3 hts gL_law_L_sent rfl rfl rfl (by decide +kernel) ⟨Nat.le_of_ble_eq_true rfl, Nat.le_of_ble_eq_true rfl⟩) hE1.1 hE1.2.1 hN hP hD hS hA rfl hl.1 rfl (Nat.le_of_ble_eq_true rfl) dL_law_749 ⟨by show cells + 1 + 0 ≤ 671634; omega, by show slots + 10 + 0 ≤ 7086567; omega⟩ (fun H locs hP hD hS => ?_)
      refine q_top (x' := (eS E v j + nI 1)) h6 ?_
      refine lv_iload hx hb dL_law_752 (lv_at hl 2 rfl) ?_
      refine lv_iconst (v := nI 1) hx hb dL_law_754 (by decide) ?_
      refine lv_iadd hx hb dL_law_755 ?_
      refine lv_icmp_ne (tgt := 774) hx hb dL_law_756 (by decide) (fun cz => absurd rfl cz) (fun _ => ?_)
      refine lv_aload_n hx hb dL_law_759 rfl (lv_at hl 6 rfl) ?_
      refine lv_iload hx hb dL_law_760 (lv_at hl 14 rfl) ?_
      refine x_get (pre := [(ha, .inl (ci, 8, .inl f))]) (As := [.ref o, .int (nI j)]) (rest := []) ⟨hx, hb, hml, hown, hts⟩ (kg_demand l D E1 x1 hE1.2.2.1 hj) (vx_cwSW 2 hts gL_law_L_demand rfl rfl rfl (by decide +kernel) ⟨Nat.le_of_ble_eq_true rfl, Nat.le_of_ble_eq_true rfl⟩) hE1.1 hE1.2.1 hN hP hD hS hA rfl hl.1 rfl (Nat.le_of_ble_eq_true rfl) dL_law_762 ⟨by show cells + 1 + 0 ≤ 671634; omega, by show slots + 10 + 0 ≤ 7086567; omega⟩ (fun H locs hP hD hS => ?_)
      refine q_top (x' := (x 5 j)) h5 ?_
      refine lv_iload hx hb dL_law_765 (lv_at hl 3 rfl) ?_
      refine lv_icmp_ne (tgt := 774) hx hb dL_law_767 (by decide) (fun cz => absurd rfl cz) (fun _ => ?_)
      refine lv_iconst (v := nI 1) hx hb dL_law_770 (by decide) ?_
      refine lv_goto (tgt := 810) hx hb dL_law_771 (by decide) ?_
      refine lv_istore (lv' := [(5, .int (nI 1)), (16, .int (nI 1)), (15, .int (nI 1)), (14, .int (eS E v j)), (13, .int (x 5 j)), (12, .int (x 4 j)), (0, .ref b), (1, .ref o), (2, .ref ha), (3, .int pd), (4, .int (nI mi)), (6, .int (nI i)), (8, .int (nI z)), (10, .int (nI v)), (11, .int (nI j))]) hx hb dL_law_810 hl (by decide) rfl (fun ls hl => ?_)
      refine lv_goto (tgt := 911) hx hb dL_law_812 (by decide) ?_
      refine W.widen (k := cells + 12) (n := slots + 120) (by omega) (by omega) ?_
      exact hn E1 x1 _ _ _ _ _ hE1 (pI_le hp1 (Nat.le_succ i)) (by omega) (had_of hf hz1) hP hD hS (lv_sub hl [6, 7, 8, 9, 10, 0, 11] rfl)

set_option maxHeartbeats 4000000 in
set_option maxRecDepth 100000 in
theorem cs_rep {p : Program} {e : Env} {s : State} {m : MethodId} {below : List Frame} {meth : Method} {c : Code} {b L : Nat} {xs : Nat → Int32} {D : va_G} {o ha : Nat} {ci : ClassId} {f : Nat → Int32} {E : cE} {x : T2} {i mi cells slots z v j : Nat} {pd : Int32} {ls : Array Slot} {H : Heap} {locs : List Loc} (l : Launch) (hl0 : l.stackTraces = false) (C0 : lw_At p s m meth c b L xs) (hN : jNc s) (hE : lS D s o ci E) (h : pI E x mi i pd) (hm9 : mi ≤ 9 * i) (hi : i < 56) (hf : ∀ v, v < 8 → f v = x 10 v) (hz : z < 2 ^ 31) (hv : v < 8) (hj : j < 6) (hcl : cells + 12 ≤ 671634) (hsl : slots + 120 ≤ 7086567) (hn : lwN p l e s m b below meth c D o ha ci f i cells slots) (hP : va_P D vwCl (lW ha ci f E x) H) (hD : va_D (fun q : Nat => s.heap.size ≤ q) (lW ha ci f E x)) (hS : va_S (fun q : Nat => s.heap.size ≤ q) s.heap H locs) (hl : lv_has ls 17 [(0, .ref b), (1, .ref o), (2, .ref ha), (3, .int pd), (4, .int (nI mi)), (5, .int (nI 1)), (6, .int (nI i)), (8, .int (nI z)), (10, .int (nI v)), (11, .int (nI j))]) : W p l e room_1 s m #[Value.ref b] below meth c H locs (cells) (slots) (lw_Z below #[Value.ref b] s) (F0 m 822 ls []) := by
  obtain ⟨hx, hb, hr, hml, hown, hts0, hX, hbl, hlocks, hgv⟩ := C0
  have hown : s.vm.findClass RL = some m.cls := hown
  have hts : ∀ w ∈ wsL_law, w.before #[Value.ref b] s = true := fun w h => hts0 w (wsL_law_in w h)
  have hA : ∀ q : Nat, s.heap.size ≤ q → (fun q : Nat => s.heap.size ≤ q) q := fun _ h => h
  unfold lwN at hn
  obtain ⟨w9, w1, w2⟩ := rp_val (t := nI (1 + z % 3)) h.2.2.2.2.1 6 (Nat.le_refl 6)
  refine lv_aload_n hx hb dL_law_822 rfl (lv_at hl 1 rfl) ?_
  refine lv_iconst (v := nI 1) hx hb dL_law_823 (by decide) ?_
  refine lv_iload hx hb dL_law_824 (lv_at hl 7 rfl) ?_
  refine lv_iconst (v := nI 3) hx hb dL_law_826 (by decide) ?_
  refine q_remn hx hb (by omega) (by decide) (by decide) dL_law_827 ?_
  refine q_add hx hb dL_law_828 ?_
  refine x_call (pre := [(ha, .inl (ci, 8, .inl f))]) (As := [.ref o, .int (nI (1 + (z % 3)))]) (rest := []) ⟨hx, hb, hml, hown, hts⟩ (ks_rep l D hE.2.2.1 h (by omega) (by omega)) (by decide) (by decide) (vx_cwSW 2 hts gL_law_L_reprint rfl rfl rfl (by decide +kernel) ⟨Nat.le_of_ble_eq_true rfl, Nat.le_of_ble_eq_true rfl⟩) hE.1 hE.2.1 hN hP hD hS hA rfl hl.1 rfl (Nat.le_of_ble_eq_true rfl) dL_law_829 ⟨by show cells + 1 ≤ 671634; omega, by show slots + 10 ≤ 7086567; omega⟩ (fun r1 E1 x1 H locs hw hg hP hD hS => ?_)
  have hE1 := lS_s hE hg
  obtain ⟨hr1, hp1, hx1, hz1⟩ := hw
  refine q_top (x' := (cRepV x (nI (1 + z % 3)) 6)) hr1 ?_
  refine lv_istore (lv' := [(12, .int (cRepV x (nI (1 + z % 3)) 6)), (0, .ref b), (1, .ref o), (2, .ref ha), (3, .int pd), (4, .int (nI mi)), (5, .int (nI 1)), (6, .int (nI i)), (8, .int (nI z)), (10, .int (nI v)), (11, .int (nI j))]) hx hb dL_law_832 hl (by decide) rfl (fun ls hl => ?_)
  refine lv_iload_n hx hb dL_law_834 rfl (lv_at hl 4 rfl) ?_
  refine lv_iload hx hb dL_law_835 (lv_at hl 0 rfl) ?_
  refine lv_iadd hx hb dL_law_837 ?_
  refine lv_istore_n (lv' := [(3, .int (pd + (cRepV x (nI (1 + z % 3)) 6))), (12, .int (cRepV x (nI (1 + z % 3)) 6)), (0, .ref b), (1, .ref o), (2, .ref ha), (4, .int (nI mi)), (5, .int (nI 1)), (6, .int (nI i)), (8, .int (nI z)), (10, .int (nI v)), (11, .int (nI j))]) hx hb dL_law_838 rfl hl (by decide) rfl (fun ls hl => ?_)
  refine lv_iload hx hb dL_law_839 (lv_at hl 1 rfl) ?_
  refine lv_if_lt (tgt := 861) hx hb dL_law_841 (by decide) (fun cz => absurd cz (by rw [w2]; exact nI_pos (by omega))) (fun _ => ?_)
  have e2 : cRepV x1 (nI (1 + z % 3)) 6 = nI 0 := by rw [hx1]; exact rp_two (by omega) (by omega) 6 (Nat.le_refl 6)
  refine lv_aload_n hx hb dL_law_844 rfl (lv_at hl 3 rfl) ?_
  refine lv_iconst (v := nI 1) hx hb dL_law_845 (by decide) ?_
  refine lv_iload hx hb dL_law_846 (lv_at hl 8 rfl) ?_
  refine lv_iconst (v := nI 3) hx hb dL_law_848 (by decide) ?_
  refine q_remn hx hb (by omega) (by decide) (by decide) dL_law_849 ?_
  refine q_add hx hb dL_law_850 ?_
  refine x_call (pre := [(ha, .inl (ci, 8, .inl f))]) (As := [.ref o, .int (nI (1 + (z % 3)))]) (rest := []) ⟨hx, hb, hml, hown, hts⟩ (ks_rep l D hE1.2.2.1 hp1 (by omega) (by omega)) (by decide) (by decide) (vx_cwSW 2 hts gL_law_L_reprint rfl rfl rfl (by decide +kernel) ⟨Nat.le_of_ble_eq_true rfl, Nat.le_of_ble_eq_true rfl⟩) hE1.1 hE1.2.1 hN hP hD hS hA rfl hl.1 rfl (Nat.le_of_ble_eq_true rfl) dL_law_851 ⟨by show cells + 1 + 1 ≤ 671634; omega, by show slots + 10 + 10 ≤ 7086567; omega⟩ (fun r2 E2 x2 H locs hw hg hP hD hS => ?_)
  have hE2 := lS_s hE1 hg
  obtain ⟨hr2, hp2, -, hz2⟩ := hw
  refine q_top (x' := (nI 0)) (hr2.trans e2) ?_
  refine lv_if_ne (tgt := 861) hx hb dL_law_854 (by decide) (fun cz => absurd rfl cz) (fun _ => ?_)
  refine lv_iconst (v := nI 1) hx hb dL_law_857 (by decide) ?_
  refine lv_goto (tgt := 862) hx hb dL_law_858 (by decide) ?_
  refine lv_istore (lv' := [(5, .int (nI 1)), (3, .int (pd + (cRepV x (nI (1 + z % 3)) 6))), (12, .int (cRepV x (nI (1 + z % 3)) 6)), (0, .ref b), (1, .ref o), (2, .ref ha), (4, .int (nI mi)), (6, .int (nI i)), (8, .int (nI z)), (10, .int (nI v)), (11, .int (nI j))]) hx hb dL_law_862 hl (by decide) rfl (fun ls hl => ?_)
  refine lv_goto (tgt := 911) hx hb dL_law_864 (by decide) ?_
  have e3 : pd + (cRepV x (nI (1 + z % 3)) 6) + cRepV x1 (nI (1 + z % 3)) 6 = pd + (cRepV x (nI (1 + z % 3)) 6) := by rw [e2]; exact Int32.add_zero _
  rw [e3] at hp2
  refine W.widen (k := cells + 12) (n := slots + 120) (by omega) (by omega) ?_
  exact hn E2 x2 _ _ _ _ _ hE2 (pI_le hp2 (Nat.le_succ i)) (by omega) (had_of hf (zM_tr hz1 hz2)) hP hD hS (lv_sub hl [3, 4, 5, 1, 6, 0, 7] rfl)

set_option maxHeartbeats 4000000 in
set_option maxRecDepth 100000 in
theorem cs_adv {p : Program} {e : Env} {s : State} {m : MethodId} {below : List Frame} {meth : Method} {c : Code} {b L : Nat} {xs : Nat → Int32} {D : va_G} {o ha : Nat} {ci : ClassId} {f : Nat → Int32} {E : cE} {x : T2} {i mi cells slots z v j : Nat} {pd : Int32} {ls : Array Slot} {H : Heap} {locs : List Loc} (l : Launch) (hl0 : l.stackTraces = false) (C0 : lw_At p s m meth c b L xs) (hN : jNc s) (hE : lS D s o ci E) (h : pI E x mi i pd) (hm9 : mi ≤ 9 * i) (hi : i < 56) (hf : ∀ v, v < 8 → f v = x 10 v) (hz : z < 2 ^ 31) (hv : v < 8) (hj : j < 6) (hcl : cells + 12 ≤ 671634) (hsl : slots + 120 ≤ 7086567) (hn : lwN p l e s m b below meth c D o ha ci f i cells slots) (hP : va_P D vwCl (lW ha ci f E x) H) (hD : va_D (fun q : Nat => s.heap.size ≤ q) (lW ha ci f E x)) (hS : va_S (fun q : Nat => s.heap.size ≤ q) s.heap H locs) (hl : lv_has ls 17 [(0, .ref b), (1, .ref o), (2, .ref ha), (3, .int pd), (4, .int (nI mi)), (5, .int (nI 1)), (6, .int (nI i)), (8, .int (nI z)), (10, .int (nI v)), (11, .int (nI j))]) : W p l e room_1 s m #[Value.ref b] below meth c H locs (cells) (slots) (lw_Z below #[Value.ref b] s) (F0 m 867 ls []) := by
  obtain ⟨hx, hb, hr, hml, hown, hts0, hX, hbl, hlocks, hgv⟩ := C0
  have hown : s.vm.findClass RL = some m.cls := hown
  have hts : ∀ w ∈ wsL_law, w.before #[Value.ref b] s = true := fun w h => hts0 w (wsL_law_in w h)
  have hA : ∀ q : Nat, s.heap.size ≤ q → (fun q : Nat => s.heap.size ≤ q) q := fun _ h => h
  unfold lwN at hn
  refine lv_iload hx hb dL_law_867 (lv_at hl 4 rfl) ?_
  refine lv_iconst (v := nI 1) hx hb dL_law_869 (by decide) ?_
  refine lv_iload hx hb dL_law_870 (lv_at hl 7 rfl) ?_
  refine lv_bipush (v := nI 9) hx hb dL_law_872 (by decide) ?_
  refine q_remn hx hb (by omega) (by decide) (by decide) dL_law_874 ?_
  refine q_add hx hb dL_law_875 ?_
  refine q_add hx hb dL_law_876 ?_
  refine lv_istore (lv' := [(4, .int (nI (mi + (1 + (z % 9))))), (0, .ref b), (1, .ref o), (2, .ref ha), (3, .int pd), (5, .int (nI 1)), (6, .int (nI i)), (8, .int (nI z)), (10, .int (nI v)), (11, .int (nI j))]) hx hb dL_law_877 hl (by decide) rfl (fun ls hl => ?_)
  refine lv_aload_n hx hb dL_law_879 rfl (lv_at hl 2 rfl) ?_
  refine lv_iconst (v := nI 1) hx hb dL_law_880 (by decide) ?_
  refine lv_iload hx hb dL_law_881 (lv_at hl 7 rfl) ?_
  refine lv_bipush (v := nI 9) hx hb dL_law_883 (by decide) ?_
  refine q_remn hx hb (by omega) (by decide) (by decide) dL_law_885 ?_
  refine q_add hx hb dL_law_886 ?_
  refine x_call (pre := [(ha, .inl (ci, 8, .inl f))]) (As := [.ref o, .int (nI (1 + (z % 9)))]) (rest := []) ⟨hx, hb, hml, hown, hts⟩ (ks_adv l D hE.2.2.1 h (by omega) (by omega) (by omega)) (by decide) (by decide) (vx_cwSW 2 hts gL_law_L_advance rfl rfl rfl (by decide +kernel) ⟨Nat.le_of_ble_eq_true rfl, Nat.le_of_ble_eq_true rfl⟩) hE.1 hE.2.1 hN hP hD hS hA rfl hl.1 rfl (Nat.le_of_ble_eq_true rfl) dL_law_887 ⟨by show cells + 1 ≤ 671634; omega, by show slots + 10 ≤ 7086567; omega⟩ (fun r1 E1 x1 H locs hw hg hP hD hS => ?_)
  have hE1 := lS_s hE hg
  obtain ⟨hr1, hp1, -, hz1⟩ := hw
  refine q_top (x' := (nI (mi + (1 + z % 9)))) hr1 ?_
  refine lv_iload hx hb dL_law_890 (lv_at hl 0 rfl) ?_
  refine lv_icmp_ne (tgt := 908) hx hb dL_law_892 (by decide) (fun cz => absurd rfl cz) (fun _ => ?_)
  refine lv_aload_n hx hb dL_law_895 rfl (lv_at hl 2 rfl) ?_
  refine x_min (pre := [(ha, .inl (ci, 8, .inl f))]) (rest := []) ⟨hx, hb, hml, hown, hts⟩ hE1.2.2.1 (cwV 0 hts gL_law_X2_minute rfl rfl rfl (by decide +kernel) ⟨Nat.le_of_ble_eq_true rfl, Nat.le_of_ble_eq_true rfl⟩) hE1.1 hE1.2.1 hP hD hS hA hl.1 (Nat.le_of_ble_eq_true rfl) dL_law_896 ⟨by show cells + 1 + 0 ≤ 671634; omega, by show slots + 10 + 0 ≤ 7086567; omega⟩ (fun H locs hP hD hS => ?_)
  refine q_top (x' := (nI (mi + (1 + z % 9)))) (pI_now hp1) ?_
  refine lv_iload hx hb dL_law_899 (lv_at hl 0 rfl) ?_
  refine lv_icmp_ne (tgt := 908) hx hb dL_law_901 (by decide) (fun cz => absurd rfl cz) (fun _ => ?_)
  refine lv_iconst (v := nI 1) hx hb dL_law_904 (by decide) ?_
  refine lv_goto (tgt := 909) hx hb dL_law_905 (by decide) ?_
  refine lv_istore (lv' := [(5, .int (nI 1)), (4, .int (nI (mi + (1 + (z % 9))))), (0, .ref b), (1, .ref o), (2, .ref ha), (3, .int pd), (6, .int (nI i)), (8, .int (nI z)), (10, .int (nI v)), (11, .int (nI j))]) hx hb dL_law_909 hl (by decide) rfl (fun ls hl => ?_)
  refine W.widen (k := cells + 12) (n := slots + 120) (by omega) (by omega) ?_
  exact hn E1 x1 _ _ _ _ _ hE1 (pI_le hp1 (Nat.le_succ i)) (by omega) (had_of hf hz1) hP hD hS (lv_sub hl [2, 3, 4, 5, 1, 0, 6] rfl)
