/-! the law: its loops, and its end -/

theorem upd_h1 {f : Nat → Int32} {x : T2} {u : Nat} (h : ∀ v, v < u → f v = x 10 v) : ∀ v, v < u + 1 → upd f u (x 10 u) v = x 10 v := fun v hv => by
  unfold upd
  by_cases e : v = u
  · rw [if_pos e, e]
  · rw [if_neg e]; exact h v (by omega)
theorem upd_h2 {f : Nat → Int32} {x : T2} {u : Nat} {z : Int32} (h : ∀ v, u ≤ v → v < 8 → f v &&& (x 10 v ^^^ -1) = nI 0) : ∀ v, u + 1 ≤ v → v < 8 → upd f u z v &&& (x 10 v ^^^ -1) = nI 0 := fun v hv hv8 => by
  unfold upd
  rw [if_neg (by omega)]; exact h v (by omega) hv8

set_option maxHeartbeats 4000000 in
set_option maxRecDepth 100000 in
theorem had_loop {p : Program} {e : Env} {s : State} {m : MethodId} {below : List Frame} {meth : Method} {c : Code} {b L : Nat} {xs : Nat → Int32} {D : va_G} {o ha : Nat} {ci : ClassId} {E : cE} {x : T2} {i mi ce sl : Nat} {pd : Int32} (l : Launch) (C0 : lw_At p s m meth c b L xs) (hN : jNc s) (hE : lS D s o ci E) (hcl : ce ≤ 671634) (hsl : sl ≤ 7086567) (kk : ∀ (f : Nat → Int32) (ls : Array Slot) (H : Heap) (locs : List Loc), (∀ v, v < 8 → f v = x 10 v) → va_P D vwCl (lW ha ci f E x) H → va_D (fun q : Nat => s.heap.size ≤ q) (lW ha ci f E x) → va_S (fun q : Nat => s.heap.size ≤ q) s.heap H locs → lv_has ls 17 [(0, .ref b), (1, .ref o), (2, .ref ha), (3, .int pd), (4, .int (nI mi)), (5, .int (nI 1)), (6, .int (nI i))] → W p l e room_1 s m #[Value.ref b] below meth c H locs (ce) (sl) (lw_Z below #[Value.ref b] s) (F0 m 965 ls [])) : ∀ (d u : Nat) (f : Nat → Int32) (ls : Array Slot) (H : Heap) (locs : List Loc), u + d = 8 → (∀ v, v < u → f v = x 10 v) → (∀ v, u ≤ v → v < 8 → f v &&& (x 10 v ^^^ -1) = nI 0) → va_P D vwCl (lW ha ci f E x) H → va_D (fun q : Nat => s.heap.size ≤ q) (lW ha ci f E x) → va_S (fun q : Nat => s.heap.size ≤ q) s.heap H locs → lv_has ls 17 [(0, .ref b), (1, .ref o), (2, .ref ha), (3, .int pd), (4, .int (nI mi)), (5, .int (nI 1)), (6, .int (nI i)), (12, .int (nI u))] → W p l e room_1 s m #[Value.ref b] below meth c H locs (ce) (sl) (lw_Z below #[Value.ref b] s) (F0 m 914 ls []) := by
  obtain ⟨hx, hb, hr, hml, hown, hts0, hX, hbl, hlocks, hgv⟩ := C0
  have hown : s.vm.findClass RL = some m.cls := hown
  have hts : ∀ w ∈ wsL_law, w.before #[Value.ref b] s = true := fun w h => hts0 w (wsL_law_in w h)
  have hA : ∀ q : Nat, s.heap.size ≤ q → (fun q : Nat => s.heap.size ≤ q) q := fun _ h => h
  intro d
  induction d with
  | zero =>
    intro u f ls H locs hu h1 h2 hP hD hS hl
    obtain rfl : u = 8 := by omega
    refine lv_iload hx hb dL_law_914 (lv_at hl 7 rfl) ?_
    refine lv_bipush (v := nI 8) hx hb dL_law_916 (by decide) ?_
    refine lv_icmp_ge (tgt := 965) hx hb dL_law_918 (by decide) (fun _ => ?_) (fun cz => absurd (nI_le (by decide) (by decide)) cz)
    exact kk f _ _ _ h1 hP hD hS (lv_sub hl [0, 1, 2, 3, 4, 5, 6] rfl)
  | succ d ih =>
    intro u f ls H locs hud h1 h2 hP hD hS hl
    have hu : u < 8 := by omega
    refine lv_iload hx hb dL_law_914 (lv_at hl 7 rfl) ?_
    refine lv_bipush (v := nI 8) hx hb dL_law_916 (by decide) ?_
    refine lv_icmp_ge (tgt := 965) hx hb dL_law_918 (by decide) (fun cz => absurd cz (nI_ge hu (by decide))) (fun _ => ?_)
    refine lv_iload hx hb dL_law_921 (lv_at hl 5 rfl) ?_
    refine lv_if_eq (tgt := 965) hx hb dL_law_923 (by decide) (fun cz => absurd cz (by decide)) (fun _ => ?_)
    refine lv_aload_n hx hb dL_law_926 rfl (lv_at hl 2 rfl) ?_
    refine lv_iload hx hb dL_law_927 (lv_at hl 7 rfl) ?_
    refine q_ild hx hb hE.1 hP 0 0 rfl (by rw [← hE.2.2.2]; rfl) u rfl hu (by decide) dL_law_929 ?_
    refine lv_aload_n hx hb dL_law_930 rfl (lv_at hl 1 rfl) ?_
    refine lv_iload hx hb dL_law_931 (lv_at hl 7 rfl) ?_
    refine x_get (pre := [(ha, .inl (ci, 8, .inl f))]) (As := [.ref o, .int (nI u)]) (rest := [.int (f u)]) ⟨hx, hb, hml, hown, hts⟩ (kg_stamps l D E x hE.2.2.1 hu) (vx_cwSW 2 hts gL_law_L_stamps rfl rfl rfl (by decide +kernel) ⟨Nat.le_of_ble_eq_true rfl, Nat.le_of_ble_eq_true rfl⟩) hE.1 hE.2.1 hN hP hD hS hA rfl hl.1 rfl (Nat.le_of_ble_eq_true rfl) dL_law_933 ⟨by show ce + 0 ≤ 671634; omega, by show sl + 0 ≤ 7086567; omega⟩ (fun H locs hP hD hS => ?_)
    refine lv_iconst (v := -1) hx hb dL_law_936 (by decide) ?_
    refine lv_ixor hx hb dL_law_937 ?_
    refine lv_iand hx hb dL_law_938 ?_
    refine lv_if_ne (tgt := 946) hx hb dL_law_939 (by decide) (fun cz => absurd (h2 u (Nat.le_refl u) hu) cz) (fun _ => ?_)
    refine lv_iconst (v := nI 1) hx hb dL_law_942 (by decide) ?_
    refine lv_goto (tgt := 947) hx hb dL_law_943 (by decide) ?_
    refine lv_istore (lv' := [(5, .int (nI 1)), (0, .ref b), (1, .ref o), (2, .ref ha), (3, .int pd), (4, .int (nI mi)), (6, .int (nI i)), (12, .int (nI u))]) hx hb dL_law_947 hl (by decide) rfl (fun ls hl => ?_)
    refine lv_aload_n hx hb dL_law_949 rfl (lv_at hl 3 rfl) ?_
    refine lv_iload hx hb dL_law_950 (lv_at hl 7 rfl) ?_
    refine lv_aload_n hx hb dL_law_952 rfl (lv_at hl 2 rfl) ?_
    refine lv_iload hx hb dL_law_953 (lv_at hl 7 rfl) ?_
    refine x_get (pre := [(ha, .inl (ci, 8, .inl f))]) (As := [.ref o, .int (nI u)]) (rest := [.int (nI u), .ref ha]) ⟨hx, hb, hml, hown, hts⟩ (kg_stamps l D E x hE.2.2.1 hu) (vx_cwSW 2 hts gL_law_L_stamps rfl rfl rfl (by decide +kernel) ⟨Nat.le_of_ble_eq_true rfl, Nat.le_of_ble_eq_true rfl⟩) hE.1 hE.2.1 hN hP hD hS hA rfl hl.1 rfl (Nat.le_of_ble_eq_true rfl) dL_law_955 ⟨by show ce + 0 ≤ 671634; omega, by show sl + 0 ≤ 7086567; omega⟩ (fun H locs hP hD hS => ?_)
    refine q_ist hx hb hE.1 hP hD hS 0 0 rfl (by rw [← hE.2.2.2]; rfl) u rfl hu (by decide) dL_law_958 (fun H locs hP hD hS => ?_)
    replace hP : va_P D vwCl (lW ha ci (upd f u (x 10 u)) E x) H := hP
    replace hD : va_D (fun q : Nat => s.heap.size ≤ q) (lW ha ci (upd f u (x 10 u)) E x) := hD
    refine q_inc (k := 7) (lv' := [(12, .int (nI (u + 1))), (5, .int (nI 1)), (0, .ref b), (1, .ref o), (2, .ref ha), (3, .int pd), (4, .int (nI mi)), (6, .int (nI i))]) hx hb dL_law_959 hl rfl (by decide) rfl (fun ls hl => ?_)
    refine lv_goto (tgt := 914) hx hb dL_law_962 (by decide) ?_
    exact ih (u + 1) _ _ _ _ (by omega) (upd_h1 h1) (upd_h2 h2) hP hD hS (lv_sub hl [2, 3, 4, 5, 6, 1, 7, 0] rfl)

set_option maxHeartbeats 4000000 in
set_option maxRecDepth 100000 in
theorem law_loop {p : Program} {e : Env} {s : State} {m : MethodId} {below : List Frame} {meth : Method} {c : Code} {b L : Nat} {xs : Nat → Int32} {D : va_G} {o ha : Nat} {ci : ClassId} (l : Launch) (hl0 : l.stackTraces = false) (hL : L < 2 ^ 31) (C0 : lw_At p s m meth c b L xs) (hN : jNc s) : ∀ (d i : Nat) (E : cE) (x : T2) (mi cells slots : Nat) (pd : Int32) (f : Nat → Int32) (ls : Array Slot) (H : Heap) (locs : List Loc), i + d = 56 → cells + 12 * d ≤ 671634 → slots + 120 * d ≤ 7086567 → lS D s o ci E → pI E x mi i pd → mi ≤ 9 * i → (∀ v, v < 8 → f v = x 10 v) → va_P D vwCl (lW ha ci f E x) H → va_D (fun q : Nat => s.heap.size ≤ q) (lW ha ci f E x) → va_S (fun q : Nat => s.heap.size ≤ q) s.heap H locs → lv_has ls 17 [(0, .ref b), (1, .ref o), (2, .ref ha), (3, .int pd), (4, .int (nI mi)), (5, .int (nI 1)), (6, .int (nI i))] → W p l e room_1 s m #[Value.ref b] below meth c H locs (cells) (slots) (lw_Z below #[Value.ref b] s) (F0 m 28 ls []) := by
  obtain ⟨hx, hb, hr, hml, hown, hts0, hX, hbl, hlocks, hgv⟩ := C0
  have hown : s.vm.findClass RL = some m.cls := hown
  have hts : ∀ w ∈ wsL_law, w.before #[Value.ref b] s = true := fun w h => hts0 w (wsL_law_in w h)
  have hA : ∀ q : Nat, s.heap.size ≤ q → (fun q : Nat => s.heap.size ≤ q) q := fun _ h => h
  have hbA : ¬ (fun q : Nat => s.heap.size ≤ q) b := Nat.not_le.mpr hbl
  intro d
  induction d with
  | zero =>
    intro i E x mi cells slots pd f ls H locs hid hc hs hE h hm9 hf hP hD hS hl
    obtain rfl : i = 56 := by omega
    refine lv_iload hx hb dL_law_28 (lv_at hl 6 rfl) ?_
    refine lv_bipush (v := nI 56) hx hb dL_law_30 (by decide) ?_
    refine lv_icmp_ge (tgt := 998) hx hb dL_law_32 (by decide) (fun _ => ?_) (fun cz => absurd (nI_le (by decide) (by decide)) cz)
    refine lv_iload hx hb dL_law_998 (lv_at hl 5 rfl) ?_
    refine q_top (x' := 1) rfl ?_
    refine va_forget (fun q hq => hS.2.2 q hq) ?_
    refine W.widen (k := 671634) (n := 7086567) (by omega) (by omega) ?_
    exact lw_ret hx hb hr hlocks dL_law_1000
  | succ d ih =>
    intro i E x mi cells slots pd f ls H locs hid hc hs hE h hm9 hf hP hD hS hl
    have hi : i < 56 := by omega
    refine lv_iload hx hb dL_law_28 (lv_at hl 6 rfl) ?_
    refine lv_bipush (v := nI 56) hx hb dL_law_30 (by decide) ?_
    refine lv_icmp_ge (tgt := 998) hx hb dL_law_32 (by decide) (fun cz => absurd cz (nI_ge hi (by decide))) (fun _ => ?_)
    refine lv_iload hx hb dL_law_35 (lv_at hl 5 rfl) ?_
    refine lv_if_eq (tgt := 998) hx hb dL_law_37 (by decide) (fun cz => absurd cz (by decide)) (fun _ => ?_)
    refine lv_aload_n hx hb dL_law_40 rfl (lv_at hl 0 rfl) ?_
    refine lv_iload hx hb dL_law_41 (lv_at hl 6 rfl) ?_
    refine x_cell (b := b) (xs := xs) ⟨hx, hb, hml, hown, hts⟩ hL (by omega) hX hbl hbA (va_cwS 2 hts gL_law_L_cell rfl rfl rfl (by decide +kernel) ⟨Nat.le_of_ble_eq_true rfl, Nat.le_of_ble_eq_true rfl⟩) hP hS hl.1 (Nat.le_of_ble_eq_true rfl) dL_law_43 ⟨by show cells + 0 ≤ 671634; omega, by show slots + 0 ≤ 7086567; omega⟩ (fun y H locs hy hP hS => ?_)
    refine lv_istore (lv' := [(7, .int (nI y)), (0, .ref b), (1, .ref o), (2, .ref ha), (3, .int pd), (4, .int (nI mi)), (5, .int (nI 1)), (6, .int (nI i))]) hx hb dL_law_46 hl (by decide) rfl (fun ls hl => ?_)
    refine lv_iload hx hb dL_law_48 (lv_at hl 0 rfl) ?_
    refine lv_bipush (v := nI 16) hx hb dL_law_50 (by decide) ?_
    refine q_divn hx hb (by omega) (by decide) (by decide) dL_law_52 ?_
    refine lv_istore (lv' := [(8, .int (nI (y / 16))), (7, .int (nI y)), (0, .ref b), (1, .ref o), (2, .ref ha), (3, .int pd), (4, .int (nI mi)), (5, .int (nI 1)), (6, .int (nI i))]) hx hb dL_law_53 hl (by decide) rfl (fun ls hl => ?_)
    refine lv_iload hx hb dL_law_55 (lv_at hl 1 rfl) ?_
    refine lv_bipush (v := nI 16) hx hb dL_law_57 (by decide) ?_
    refine q_remn hx hb (by omega) (by decide) (by decide) dL_law_59 ?_
    refine lv_istore (lv' := [(9, .int (nI (y % 16))), (8, .int (nI (y / 16))), (7, .int (nI y)), (0, .ref b), (1, .ref o), (2, .ref ha), (3, .int pd), (4, .int (nI mi)), (5, .int (nI 1)), (6, .int (nI i))]) hx hb dL_law_60 hl (by decide) rfl (fun ls hl => ?_)
    refine lv_iload hx hb dL_law_62 (lv_at hl 1 rfl) ?_
    refine lv_bipush (v := nI 8) hx hb dL_law_64 (by decide) ?_
    refine q_remn hx hb (by omega) (by decide) (by decide) dL_law_66 ?_
    refine lv_istore (lv' := [(10, .int (nI ((y / 16) % 8))), (9, .int (nI (y % 16))), (8, .int (nI (y / 16))), (7, .int (nI y)), (0, .ref b), (1, .ref o), (2, .ref ha), (3, .int pd), (4, .int (nI mi)), (5, .int (nI 1)), (6, .int (nI i))]) hx hb dL_law_67 hl (by decide) rfl (fun ls hl => ?_)
    refine lv_iload hx hb dL_law_69 (lv_at hl 2 rfl) ?_
    refine lv_bipush (v := nI 8) hx hb dL_law_71 (by decide) ?_
    refine q_divn hx hb (by omega) (by decide) (by decide) dL_law_73 ?_
    refine lv_bipush (v := nI 6) hx hb dL_law_74 (by decide) ?_
    refine q_remn hx hb (by omega) (by decide) (by decide) dL_law_76 ?_
    refine lv_istore (lv' := [(11, .int (nI (((y / 16) / 8) % 6))), (10, .int (nI ((y / 16) % 8))), (9, .int (nI (y % 16))), (8, .int (nI (y / 16))), (7, .int (nI y)), (0, .ref b), (1, .ref o), (2, .ref ha), (3, .int pd), (4, .int (nI mi)), (5, .int (nI 1)), (6, .int (nI i))]) hx hb dL_law_77 hl (by decide) rfl (fun ls hl => ?_)
    have hn : lwN p l e s m b below meth c D o ha ci f i cells slots := by
      intro E1 x1 m1 pd1 ls H locs hE1 hp1 hm1 hf1 hP hD hS hl
      refine lv_iconst (v := nI 0) hx hb dL_law_911 (by decide) ?_
      refine lv_istore (lv' := [(12, .int (nI 0)), (0, .ref b), (1, .ref o), (2, .ref ha), (3, .int pd1), (4, .int (nI m1)), (5, .int (nI 1)), (6, .int (nI i))]) hx hb dL_law_912 hl (by decide) rfl (fun ls hl => ?_)
      refine had_loop l ⟨hx, hb, hr, hml, hown, hts0, hX, hbl, hlocks, hgv⟩ hN hE1 (by omega) (by omega) (fun f1 ls H locs hf2 hP hD hS hl => ?_) 8 0 f _ _ _ rfl (fun v hv => absurd hv (Nat.not_lt_zero v)) (fun v _ hv => hf1 v hv) hP hD hS (lv_sub hl [1, 2, 3, 4, 5, 6, 7, 0] rfl)
      refine lv_iload hx hb dL_law_965 (lv_at hl 5 rfl) ?_
      refine lv_if_eq (tgt := 989) hx hb dL_law_967 (by decide) (fun cz => absurd cz (by decide)) (fun _ => ?_)
      refine lv_iload hx hb dL_law_970 (lv_at hl 6 rfl) ?_
      refine lv_iconst (v := nI 2) hx hb dL_law_972 (by decide) ?_
      refine q_remn hx hb (by omega) (by decide) (by decide) dL_law_973 ?_
      by_cases c2 : i % 2 = 0
      · refine lv_if_gt (tgt := 985) hx hb dL_law_974 (by decide) (fun cz => absurd cz (by rw [c2]; decide)) (fun _ => ?_)
        refine lv_aload_n hx hb dL_law_977 rfl (lv_at hl 1 rfl) ?_
        refine lv_iload_n hx hb dL_law_978 rfl (lv_at hl 3 rfl) ?_
        refine x_fits (pre := [(ha, .inl (ci, 8, .inl f1))]) (rest := []) ⟨hx, hb, hml, hown, hts⟩ hE1.2.2.1 (by omega) hp1 (va_cwS 2 hts gL_law_L_fits rfl rfl rfl (by decide +kernel) ⟨Nat.le_of_ble_eq_true rfl, Nat.le_of_ble_eq_true rfl⟩) hE1.1 hE1.2.1 hN hP hD hS hA hl.1 (Nat.le_of_ble_eq_true rfl) dL_law_979 ⟨by show cells + 12 + 0 ≤ 671634; omega, by show slots + 120 + 0 ≤ 7086567; omega⟩ (fun H locs hP hD hS => ?_)
        refine lv_if_eq (tgt := 989) hx hb dL_law_982 (by decide) (fun cz => absurd cz (by decide)) (fun _ => ?_)
        refine lv_iconst (v := nI 1) hx hb dL_law_985 (by decide) ?_
        refine lv_goto (tgt := 990) hx hb dL_law_986 (by decide) ?_
        refine lv_istore (lv' := [(5, .int (nI 1)), (0, .ref b), (1, .ref o), (2, .ref ha), (3, .int pd1), (4, .int (nI m1)), (6, .int (nI i))]) hx hb dL_law_990 hl (by decide) rfl (fun ls hl => ?_)
        refine q_inc (k := 6) (lv' := [(6, .int (nI (i + 1))), (5, .int (nI 1)), (0, .ref b), (1, .ref o), (2, .ref ha), (3, .int pd1), (4, .int (nI m1))]) hx hb dL_law_992 hl rfl (by decide) rfl (fun ls hl => ?_)
        refine lv_goto (tgt := 28) hx hb dL_law_995 (by decide) ?_
        exact ih (i + 1) E1 x1 m1 (cells + 12) (slots + 120) pd1 f1 _ _ _ (by omega) (by omega) (by omega) hE1 hp1 hm1 hf2 hP hD hS (lv_sub hl [2, 3, 4, 5, 6, 1, 0] rfl)
      · refine lv_if_gt (tgt := 985) hx hb dL_law_974 (by decide) (fun _ => ?_) (fun cz => absurd (by rw [show i % 2 = 1 by omega]; decide) cz)
        refine lv_iconst (v := nI 1) hx hb dL_law_985 (by decide) ?_
        refine lv_goto (tgt := 990) hx hb dL_law_986 (by decide) ?_
        refine lv_istore (lv' := [(5, .int (nI 1)), (0, .ref b), (1, .ref o), (2, .ref ha), (3, .int pd1), (4, .int (nI m1)), (6, .int (nI i))]) hx hb dL_law_990 hl (by decide) rfl (fun ls hl => ?_)
        refine q_inc (k := 6) (lv' := [(6, .int (nI (i + 1))), (5, .int (nI 1)), (0, .ref b), (1, .ref o), (2, .ref ha), (3, .int pd1), (4, .int (nI m1))]) hx hb dL_law_992 hl rfl (by decide) rfl (fun ls hl => ?_)
        refine lv_goto (tgt := 28) hx hb dL_law_995 (by decide) ?_
        exact ih (i + 1) E1 x1 m1 (cells + 12) (slots + 120) pd1 f1 _ _ _ (by omega) (by omega) (by omega) hE1 hp1 hm1 hf2 hP hD hS (lv_sub hl [2, 3, 4, 5, 6, 1, 0] rfl)
    have hm : y / 16 / 8 % 6 < 6 := Nat.mod_lt _ (by decide)
    have hv8 : y / 16 % 8 < 8 := Nat.mod_lt _ (by decide)
    have hz : y / 16 < 2 ^ 31 := by omega
    have C1 : lw_At p s m meth c b L xs := ⟨hx, hb, hr, hml, hown, hts0, hX, hbl, hlocks, hgv⟩
    refine lv_iload hx hb dL_law_79 (lv_at hl 2 rfl) ?_
    refine lv_iconst (v := nI 4) hx hb dL_law_81 (by decide) ?_
    refine q_icmp_ge (tgt := 169) hx hb (by omega) (by decide) dL_law_82 (by decide) (fun c0 => ?_) (fun c0 => ?_)
    · refine lv_iload hx hb dL_law_169 (lv_at hl 2 rfl) ?_
      refine lv_iconst (v := nI 4) hx hb dL_law_171 (by decide) ?_
      refine q_icmp_ne (tgt := 261) hx hb (by omega) (by decide) dL_law_172 (by decide) (fun c1 => ?_) (fun c1 => ?_)
      · refine lv_iload hx hb dL_law_261 (lv_at hl 2 rfl) ?_
        refine lv_bipush (v := nI 7) hx hb dL_law_263 (by decide) ?_
        refine q_icmp_ge (tgt := 430) hx hb (by omega) (by decide) dL_law_265 (by decide) (fun c2 => ?_) (fun c2 => ?_)
        · refine lv_iload hx hb dL_law_430 (lv_at hl 2 rfl) ?_
          refine lv_bipush (v := nI 7) hx hb dL_law_432 (by decide) ?_
          refine q_icmp_ne (tgt := 569) hx hb (by omega) (by decide) dL_law_434 (by decide) (fun c3 => ?_) (fun c3 => ?_)
          · refine lv_iload hx hb dL_law_569 (lv_at hl 2 rfl) ?_
            refine lv_bipush (v := nI 8) hx hb dL_law_571 (by decide) ?_
            refine q_icmp_ne (tgt := 635) hx hb (by omega) (by decide) dL_law_573 (by decide) (fun c4 => ?_) (fun c4 => ?_)
            · refine lv_iload hx hb dL_law_635 (lv_at hl 2 rfl) ?_
              refine lv_bipush (v := nI 11) hx hb dL_law_637 (by decide) ?_
              refine q_icmp_ge (tgt := 815) hx hb (by omega) (by decide) dL_law_639 (by decide) (fun c5 => ?_) (fun c5 => ?_)
              · refine lv_iload hx hb dL_law_815 (lv_at hl 2 rfl) ?_
                refine lv_bipush (v := nI 11) hx hb dL_law_817 (by decide) ?_
                refine q_icmp_ne (tgt := 867) hx hb (by omega) (by decide) dL_law_819 (by decide) (fun c6 => ?_) (fun c6 => ?_)
                · exact cs_adv l hl0 C1 hN hE h hm9 hi hf hz hv8 hm (by omega) (by omega) hn hP hD hS (lv_sub hl [5, 6, 7, 8, 9, 10, 11, 3, 1, 0] rfl)
                · exact cs_rep l hl0 C1 hN hE h hm9 hi hf hz hv8 hm (by omega) (by omega) hn hP hD hS (lv_sub hl [5, 6, 7, 8, 9, 10, 11, 3, 1, 0] rfl)
              · exact cs_send l hl0 C1 hN hE h hm9 hi hf hz hv8 hm (by omega) (by omega) hn hP hD hS (lv_sub hl [5, 6, 7, 8, 9, 10, 11, 3, 1, 0] rfl)
            · exact cs_setp l hl0 C1 hN hE h hm9 hi hf hz hv8 hm (by omega) (by omega) hn hP hD hS (lv_sub hl [5, 6, 7, 8, 9, 10, 11, 3, 1, 0] rfl)
          · exact cs_open l hl0 C1 hN hE h hm9 hi hf hz hv8 hm (by omega) (by omega) hn hP hD hS (lv_sub hl [5, 6, 7, 8, 9, 10, 11, 3, 1, 0] rfl)
        · exact cs_ask l hl0 C1 hN hE h hm9 hi hf hz hv8 hm (by omega) (by omega) hn hP hD hS (lv_sub hl [5, 6, 7, 8, 9, 10, 11, 3, 1, 0] rfl)
      · exact cs_drop l hl0 C1 hN hE h hm9 hi hf hz hv8 hm (by omega) (by omega) hn hP hD hS (lv_sub hl [5, 6, 7, 8, 9, 10, 11, 3, 1, 0] rfl)
    · exact cs_plan l hl0 C1 hN hE h hm9 hi hf hz hv8 hm (by omega) (by omega) hn hP hD hS (lv_sub hl [5, 6, 7, 8, 9, 10, 11, 3, 1, 0] rfl)
