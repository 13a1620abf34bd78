set_option maxHeartbeats 4000000 in
set_option maxRecDepth 100000 in
theorem br_whereIs {p : Program} {e : Env} {s : State} {m : MethodId} {below : List Frame} {meth : Method} {c : Code} {b L : Nat} {xs : Nat → Int32} {D : va_G} {ou : Nat × (Nat → Nat)} {oo : Nat} {lc : ClassId} {E : cE} {x y : T2} {f : Nat → Int64} {cells slots : Nat} {ls : Array Slot} {H : Heap} {locs : List Loc} {S : Type} {post : Int32 → S → Prop} {wf : S → va_W} {pm : Int32 → T2 → Prop} (l : Launch) (hL : L ≤ 2048) (C0 : lw_At p s m meth c b L xs) (hN : jNc s) (hKX : lwKX D lc s E) {i : Nat} (hi : i + 4 ≤ L) (hcl : cells + 1 ≤ 601024) (hsl : slots + 10 ≤ 7293034) {mc ms : Nat} (hmc : mc ≤ 1) (hms : ms ≤ 10) {rmm : Room} (hr1 : rmm.cells = 0) (hr2 : rmm.slots = 0) (hr3 : rmm.frames ≤ 3) (hr4 : rmm.locals ≤ 71) {a1 : Int32} (ha1 : xs (i + 1) = a1) (hJ : jI l yL_whereIs wsL_whereIs ({ frames := 8, cells := mc, slots := ms, locals := 170 } : Room) D E [(lc, .long)] ([(oo, oC lc f)] ++ cW E x) [.ref (eO E), .int a1, .ref oo] post wf mc ms) (hmap : ∀ r u, post r u → ∃ new : List Nat, (wf u).map Prod.fst = ([(oo, oC lc f)] ++ cW E x).map Prod.fst ++ new ∧ new.length ≤ 1) (hM : gI l yX3_whereIs wsX3_whereIs rmm D (mT (ou, (eI E, eZ E)) (lwT E lc)) (mW (ou, (eI E, eZ E)) y) [.ref ou.1, .int a1] pm (mW (ou, (eI E, eZ E))) 0 0) (hfin : ∀ (k : Int32) (u : S) (r : Int32) (y1 : T2), post k u → pm r y1 → ∃ (E1 : cE) (x1 : T2) (f1 : Nat → Int64) (q1 : Nat → List Nat) (m1 : Nat), wf u = [(oo, oC lc f1)] ++ cW E1 x1 ∧ eI E1 = eI E ∧ eZ E1 = eZ E ∧ lwKX D lc s E1 ∧ eO E1 = eO E ∧ rI E1 x1 y1 q1 m1 ∧ y1 18 0 = k ∧ (k = nI 0 → f1 0 = r.toInt64)) (hn : lwN p l e s m b below meth c D ou oo lc (eO E) (nI i) cells slots) (hP : va_P D vwCl (lwG ou E y oo lc f x) H) (hD : va_D (fun q : Nat => s.heap.size ≤ q) (lwG ou E y oo lc f x)) (hS : va_S (fun q : Nat => s.heap.size ≤ q) s.heap H locs) (hl : lv_has ls 7 [(0, .ref b), (1, .ref (eO E)), (2, .ref ou.1), (3, .ref oo), (4, .int (nI i))]) : W p l e room_1 s m #[Value.ref b] below meth c H locs cells slots (lw_Z below #[Value.ref b] s) (F0 m 732 ls []) := by
  obtain ⟨hx, hb, hr, hml, hown, hts0, hX, hbl, hlocks, hgv⟩ := C0
  have hown : s.vm.findClass RL = some m.cls := hown
  have hts : ∀ w ∈ wsL_law, w.before #[Value.ref b] s = true := fun w h => hts0 w (wsL_law_in w h)
  have hA : ∀ q : Nat, s.heap.size ≤ q → (fun q : Nat => s.heap.size ≤ q) q := fun _ h => h
  have hbA : ¬ (fun q : Nat => s.heap.size ≤ q) b := Nat.not_le.mpr hbl
  unfold lwN at hn
  subst ha1
  refine lv_aload_n hx hb dL_law_732 rfl (lv_at hl 1 rfl) ?_
  refine lv_aload_n hx hb dL_law_733 rfl (lv_at hl 0 rfl) ?_
  refine lv_iload hx hb dL_law_734 (lv_at hl 4 rfl) ?_
  refine lv_iconst (v := nI 1) hx hb dL_law_736 (by decide) ?_
  refine q_add hx hb dL_law_737 ?_
  refine w_sld hx hb hX hbl hbA hS (by omega) hL dL_law_738 ?_
  refine lv_aload_n hx hb dL_law_739 rfl (lv_at hl 3 rfl) ?_
  refine w_calls (pre := mW (ou, (eI E, eZ E)) y) (w1 := [(oo, oC lc f)] ++ cW E x) (As := [.ref (eO E), .int (xs (i + 1)), .ref oo]) (rest := []) ⟨hx, hb, hml, hown, hts⟩ hJ (vx_cwSW 3 hts gL_law_L_whereIs rfl rfl rfl (by decide +kernel) ⟨Nat.le_of_ble_eq_true rfl, Nat.le_of_ble_eq_true rfl⟩) hKX.1 hKX.2 hN hP hD hS hA hmap rfl hl.1 rfl (Nat.le_of_ble_eq_true rfl) dL_law_740 ⟨by show cells + mc ≤ 601024; omega, by show slots + ms ≤ 7293034; omega⟩ (fun k u H locs hw hP hD hS => ?_)
  refine lv_istore (lv' := [(5, .int k), (0, .ref b), (1, .ref (eO E)), (2, .ref ou.1), (3, .ref oo), (4, .int (nI i))]) hx hb dL_law_743 hl (by decide) rfl (fun ls hl => ?_)
  refine lv_aload_n hx hb dL_law_745 rfl (lv_at hl 3 rfl) ?_
  refine lv_aload_n hx hb dL_law_746 rfl (lv_at hl 1 rfl) ?_
  refine lv_iload hx hb dL_law_747 (lv_at hl 5 rfl) ?_
  refine lv_iconst (v := nI 1) hx hb dL_law_749 (by decide) ?_
  refine q_add hx hb dL_law_750 ?_
  refine w_sld hx hb hX hbl hbA hS (by omega) hL dL_law_751 ?_
  refine w_calli (w1 := mW (ou, (eI E, eZ E)) y) (sfx := wf u) (As := [.int (xs (i + 1))]) (rest := []) ⟨hx, hb, hml, hown, hts⟩ hM (cwV 1 hts gL_law_X3_whereIs rfl hr1 hr2 (by decide +kernel) ⟨by have := hr3; show rmm.frames + 1 ≤ 11; omega, by have := hr4; show 8 + (2 + 11) + rmm.locals ≤ 406; omega⟩) (va_recv hKX.1 hP (ci := 4) (q0 := 0) rfl rfl) hKX.1 hP hD hS hA (fun _ _ _ => rfl) rfl hl.1 rfl (Nat.le_of_ble_eq_true rfl) dL_law_752 ⟨by show cells + mc + 0 ≤ 601024; omega, by show slots + ms + 0 ≤ 7293034; omega⟩ (fun r y1 H locs hw2 hP hD hS => ?_)
  obtain ⟨E1, x1, f1, q1, m1, hwf, hI, hZ, hKX1, hO, hR, h18, hout⟩ := hfin k u r y1 hw hw2
  rw [hwf, ← hI, ← hZ] at hP hD
  refine lv_istore (lv' := [(6, .int r), (5, .int k), (0, .ref b), (1, .ref (eO E)), (2, .ref ou.1), (3, .ref oo), (4, .int (nI i))]) hx hb dL_law_755 hl (by decide) rfl (fun ls hl => ?_)
  refine lv_aload_n hx hb dL_law_757 rfl (lv_at hl 4 rfl) ?_
  refine w_calli (w1 := mW (ou, (eI E1, eZ E1)) y1) (sfx := [(oo, oC lc f1)] ++ cW E1 x1) (As := []) (rest := []) ⟨hx, hb, hml, hown, hts⟩ (c_X3_thrown l D (ou, (eI E1, eZ E1)) (lwT E1 lc) y1) (cwV 0 hts gL_law_X3_thrown rfl rfl rfl (by decide +kernel) ⟨Nat.le_of_ble_eq_true rfl, Nat.le_of_ble_eq_true rfl⟩) (va_recv hKX1.1 hP (ci := 4) (q0 := 0) rfl rfl) hKX1.1 hP hD hS hA (fun _ _ _ => rfl) rfl hl.1 rfl (Nat.le_of_ble_eq_true rfl) dL_law_758 ⟨by show cells + mc + 0 + 0 ≤ 601024; omega, by show slots + ms + 0 + 0 ≤ 7293034; omega⟩ (fun t y2 H locs hw3 hP hD hS => ?_)
  obtain ⟨hw4, hw5⟩ := hw3
  rw [hw5] at hP hD
  refine lv_iload hx hb dL_law_761 (lv_at hl 1 rfl) ?_
  refine lv_icmp_eq (tgt := 768) hx hb dL_law_763 (by decide) (fun _ => ?_) (fun c1 => absurd (hw4.trans h18) c1)
  refine lv_iload hx hb dL_law_768 (lv_at hl 1 rfl) ?_
  refine lv_if_ne (tgt := 785) hx hb dL_law_770 (by decide) (fun _ => ?_) (fun c1 => ?_)
  · refine lv_goto (tgt := 1248) hx hb dL_law_785 (by decide) ?_
    refine W.widen (k := cells + 1) (n := slots + 10) (by omega) (by omega) ?_
    exact hn E1 x1 y1 q1 m1 f1 _ _ _ hKX1 hO hR hP hD hS (lv_sub hl [2, 3, 4, 5, 6] rfl)
  · refine lv_aload_n hx hb dL_law_773 rfl (lv_at hl 5 rfl) ?_
    refine lv_iconst (v := nI 0) hx hb dL_law_774 (by decide) ?_
    refine w_lald (tys := cT E1 [(lc, .long)]) hx hb hKX1.1 hP 18 5 rfl rfl (hout c1) dL_law_775 ?_
    refine lv_iload hx hb dL_law_776 (lv_at hl 0 rfl) ?_
    refine lv_i2l (v := r.toInt64) hx hb dL_law_778 rfl ?_
    refine w_lcmp hx hb rfl dL_law_779 ?_
    refine lv_if_eq (tgt := 785) hx hb dL_law_780 (by decide) (fun _ => ?_) (fun c2 => absurd rfl c2)
    refine lv_goto (tgt := 1248) hx hb dL_law_785 (by decide) ?_
    refine W.widen (k := cells + 1) (n := slots + 10) (by omega) (by omega) ?_
    exact hn E1 x1 y1 q1 m1 f1 _ _ _ hKX1 hO hR hP hD hS (lv_sub hl [2, 3, 4, 5, 6] rfl)

set_option maxHeartbeats 4000000 in
set_option maxRecDepth 100000 in
theorem br_placeOf {p : Program} {e : Env} {s : State} {m : MethodId} {below : List Frame} {meth : Method} {c : Code} {b L : Nat} {xs : Nat → Int32} {D : va_G} {ou : Nat × (Nat → Nat)} {oo : Nat} {lc : ClassId} {E : cE} {x y : T2} {f : Nat → Int64} {cells slots : Nat} {ls : Array Slot} {H : Heap} {locs : List Loc} {S : Type} {post : Int32 → S → Prop} {wf : S → va_W} {pm : Int32 → T2 → Prop} (l : Launch) (hL : L ≤ 2048) (C0 : lw_At p s m meth c b L xs) (hN : jNc s) (hKX : lwKX D lc s E) {i : Nat} (hi : i + 4 ≤ L) (hcl : cells + 1 ≤ 601024) (hsl : slots + 10 ≤ 7293034) {mc ms : Nat} (hmc : mc ≤ 1) (hms : ms ≤ 10) {rmm : Room} (hr1 : rmm.cells = 0) (hr2 : rmm.slots = 0) (hr3 : rmm.frames ≤ 3) (hr4 : rmm.locals ≤ 71) {a1 : Int32} (ha1 : xs (i + 1) = a1) (hJ : jI l yL_placeOf wsL_placeOf ({ frames := 8, cells := mc, slots := ms, locals := 170 } : Room) D E [(lc, .long)] ([(oo, oC lc f)] ++ cW E x) [.ref (eO E), .int a1, .ref oo] post wf mc ms) (hmap : ∀ r u, post r u → ∃ new : List Nat, (wf u).map Prod.fst = ([(oo, oC lc f)] ++ cW E x).map Prod.fst ++ new ∧ new.length ≤ 1) (hM : gI l yX3_placeOf wsX3_placeOf rmm D (mT (ou, (eI E, eZ E)) (lwT E lc)) (mW (ou, (eI E, eZ E)) y) [.ref ou.1, .int a1] pm (mW (ou, (eI E, eZ E))) 0 0) (hfin : ∀ (k : Int32) (u : S) (r : Int32) (y1 : T2), post k u → pm r y1 → ∃ (E1 : cE) (x1 : T2) (f1 : Nat → Int64) (q1 : Nat → List Nat) (m1 : Nat), wf u = [(oo, oC lc f1)] ++ cW E1 x1 ∧ eI E1 = eI E ∧ eZ E1 = eZ E ∧ lwKX D lc s E1 ∧ eO E1 = eO E ∧ rI E1 x1 y1 q1 m1 ∧ y1 18 0 = k ∧ (k = nI 0 → f1 0 = r.toInt64)) (hn : lwN p l e s m b below meth c D ou oo lc (eO E) (nI i) cells slots) (hP : va_P D vwCl (lwG ou E y oo lc f x) H) (hD : va_D (fun q : Nat => s.heap.size ≤ q) (lwG ou E y oo lc f x)) (hS : va_S (fun q : Nat => s.heap.size ≤ q) s.heap H locs) (hl : lv_has ls 7 [(0, .ref b), (1, .ref (eO E)), (2, .ref ou.1), (3, .ref oo), (4, .int (nI i))]) : W p l e room_1 s m #[Value.ref b] below meth c H locs cells slots (lw_Z below #[Value.ref b] s) (F0 m 788 ls []) := by
  obtain ⟨hx, hb, hr, hml, hown, hts0, hX, hbl, hlocks, hgv⟩ := C0
  have hown : s.vm.findClass RL = some m.cls := hown
  have hts : ∀ w ∈ wsL_law, w.before #[Value.ref b] s = true := fun w h => hts0 w (wsL_law_in w h)
  have hA : ∀ q : Nat, s.heap.size ≤ q → (fun q : Nat => s.heap.size ≤ q) q := fun _ h => h
  have hbA : ¬ (fun q : Nat => s.heap.size ≤ q) b := Nat.not_le.mpr hbl
  unfold lwN at hn
  subst ha1
  refine lv_aload_n hx hb dL_law_788 rfl (lv_at hl 1 rfl) ?_
  refine lv_aload_n hx hb dL_law_789 rfl (lv_at hl 0 rfl) ?_
  refine lv_iload hx hb dL_law_790 (lv_at hl 4 rfl) ?_
  refine lv_iconst (v := nI 1) hx hb dL_law_792 (by decide) ?_
  refine q_add hx hb dL_law_793 ?_
  refine w_sld hx hb hX hbl hbA hS (by omega) hL dL_law_794 ?_
  refine lv_aload_n hx hb dL_law_795 rfl (lv_at hl 3 rfl) ?_
  refine w_calls (pre := mW (ou, (eI E, eZ E)) y) (w1 := [(oo, oC lc f)] ++ cW E x) (As := [.ref (eO E), .int (xs (i + 1)), .ref oo]) (rest := []) ⟨hx, hb, hml, hown, hts⟩ hJ (vx_cwSW 3 hts gL_law_L_placeOf rfl rfl rfl (by decide +kernel) ⟨Nat.le_of_ble_eq_true rfl, Nat.le_of_ble_eq_true rfl⟩) hKX.1 hKX.2 hN hP hD hS hA hmap rfl hl.1 rfl (Nat.le_of_ble_eq_true rfl) dL_law_796 ⟨by show cells + mc ≤ 601024; omega, by show slots + ms ≤ 7293034; omega⟩ (fun k u H locs hw hP hD hS => ?_)
  refine lv_istore (lv' := [(5, .int k), (0, .ref b), (1, .ref (eO E)), (2, .ref ou.1), (3, .ref oo), (4, .int (nI i))]) hx hb dL_law_799 hl (by decide) rfl (fun ls hl => ?_)
  refine lv_aload_n hx hb dL_law_801 rfl (lv_at hl 3 rfl) ?_
  refine lv_aload_n hx hb dL_law_802 rfl (lv_at hl 1 rfl) ?_
  refine lv_iload hx hb dL_law_803 (lv_at hl 5 rfl) ?_
  refine lv_iconst (v := nI 1) hx hb dL_law_805 (by decide) ?_
  refine q_add hx hb dL_law_806 ?_
  refine w_sld hx hb hX hbl hbA hS (by omega) hL dL_law_807 ?_
  refine w_calli (w1 := mW (ou, (eI E, eZ E)) y) (sfx := wf u) (As := [.int (xs (i + 1))]) (rest := []) ⟨hx, hb, hml, hown, hts⟩ hM (cwV 1 hts gL_law_X3_placeOf rfl hr1 hr2 (by decide +kernel) ⟨by have := hr3; show rmm.frames + 1 ≤ 11; omega, by have := hr4; show 8 + (2 + 11) + rmm.locals ≤ 406; omega⟩) (va_recv hKX.1 hP (ci := 4) (q0 := 0) rfl rfl) hKX.1 hP hD hS hA (fun _ _ _ => rfl) rfl hl.1 rfl (Nat.le_of_ble_eq_true rfl) dL_law_808 ⟨by show cells + mc + 0 ≤ 601024; omega, by show slots + ms + 0 ≤ 7293034; omega⟩ (fun r y1 H locs hw2 hP hD hS => ?_)
  obtain ⟨E1, x1, f1, q1, m1, hwf, hI, hZ, hKX1, hO, hR, h18, hout⟩ := hfin k u r y1 hw hw2
  rw [hwf, ← hI, ← hZ] at hP hD
  refine lv_istore (lv' := [(6, .int r), (5, .int k), (0, .ref b), (1, .ref (eO E)), (2, .ref ou.1), (3, .ref oo), (4, .int (nI i))]) hx hb dL_law_811 hl (by decide) rfl (fun ls hl => ?_)
  refine lv_aload_n hx hb dL_law_813 rfl (lv_at hl 4 rfl) ?_
  refine w_calli (w1 := mW (ou, (eI E1, eZ E1)) y1) (sfx := [(oo, oC lc f1)] ++ cW E1 x1) (As := []) (rest := []) ⟨hx, hb, hml, hown, hts⟩ (c_X3_thrown l D (ou, (eI E1, eZ E1)) (lwT E1 lc) y1) (cwV 0 hts gL_law_X3_thrown rfl rfl rfl (by decide +kernel) ⟨Nat.le_of_ble_eq_true rfl, Nat.le_of_ble_eq_true rfl⟩) (va_recv hKX1.1 hP (ci := 4) (q0 := 0) rfl rfl) hKX1.1 hP hD hS hA (fun _ _ _ => rfl) rfl hl.1 rfl (Nat.le_of_ble_eq_true rfl) dL_law_814 ⟨by show cells + mc + 0 + 0 ≤ 601024; omega, by show slots + ms + 0 + 0 ≤ 7293034; omega⟩ (fun t y2 H locs hw3 hP hD hS => ?_)
  obtain ⟨hw4, hw5⟩ := hw3
  rw [hw5] at hP hD
  refine lv_iload hx hb dL_law_817 (lv_at hl 1 rfl) ?_
  refine lv_icmp_eq (tgt := 824) hx hb dL_law_819 (by decide) (fun _ => ?_) (fun c1 => absurd (hw4.trans h18) c1)
  refine lv_iload hx hb dL_law_824 (lv_at hl 1 rfl) ?_
  refine lv_if_ne (tgt := 841) hx hb dL_law_826 (by decide) (fun _ => ?_) (fun c1 => ?_)
  · refine lv_goto (tgt := 1248) hx hb dL_law_841 (by decide) ?_
    refine W.widen (k := cells + 1) (n := slots + 10) (by omega) (by omega) ?_
    exact hn E1 x1 y1 q1 m1 f1 _ _ _ hKX1 hO hR hP hD hS (lv_sub hl [2, 3, 4, 5, 6] rfl)
  · refine lv_aload_n hx hb dL_law_829 rfl (lv_at hl 5 rfl) ?_
    refine lv_iconst (v := nI 0) hx hb dL_law_830 (by decide) ?_
    refine w_lald (tys := cT E1 [(lc, .long)]) hx hb hKX1.1 hP 18 5 rfl rfl (hout c1) dL_law_831 ?_
    refine lv_iload hx hb dL_law_832 (lv_at hl 0 rfl) ?_
    refine lv_i2l (v := r.toInt64) hx hb dL_law_834 rfl ?_
    refine w_lcmp hx hb rfl dL_law_835 ?_
    refine lv_if_eq (tgt := 841) hx hb dL_law_836 (by decide) (fun _ => ?_) (fun c2 => absurd rfl c2)
    refine lv_goto (tgt := 1248) hx hb dL_law_841 (by decide) ?_
    refine W.widen (k := cells + 1) (n := slots + 10) (by omega) (by omega) ?_
    exact hn E1 x1 y1 q1 m1 f1 _ _ _ hKX1 hO hR hP hD hS (lv_sub hl [2, 3, 4, 5, 6] rfl)

set_option maxHeartbeats 4000000 in
set_option maxRecDepth 100000 in
theorem br_turnOf {p : Program} {e : Env} {s : State} {m : MethodId} {below : List Frame} {meth : Method} {c : Code} {b L : Nat} {xs : Nat → Int32} {D : va_G} {ou : Nat × (Nat → Nat)} {oo : Nat} {lc : ClassId} {E : cE} {x y : T2} {f : Nat → Int64} {cells slots : Nat} {ls : Array Slot} {H : Heap} {locs : List Loc} {S : Type} {post : Int32 → S → Prop} {wf : S → va_W} {pm : Int32 → T2 → Prop} (l : Launch) (hL : L ≤ 2048) (C0 : lw_At p s m meth c b L xs) (hN : jNc s) (hKX : lwKX D lc s E) {i : Nat} (hi : i + 4 ≤ L) (hcl : cells + 1 ≤ 601024) (hsl : slots + 10 ≤ 7293034) {mc ms : Nat} (hmc : mc ≤ 1) (hms : ms ≤ 10) {rmm : Room} (hr1 : rmm.cells = 0) (hr2 : rmm.slots = 0) (hr3 : rmm.frames ≤ 3) (hr4 : rmm.locals ≤ 71) {a1 : Int32} (ha1 : xs (i + 1) = a1) (hJ : jI l yL_turnOf wsL_turnOf ({ frames := 8, cells := mc, slots := ms, locals := 170 } : Room) D E [(lc, .long)] ([(oo, oC lc f)] ++ cW E x) [.ref (eO E), .int a1, .ref oo] post wf mc ms) (hmap : ∀ r u, post r u → ∃ new : List Nat, (wf u).map Prod.fst = ([(oo, oC lc f)] ++ cW E x).map Prod.fst ++ new ∧ new.length ≤ 1) (hM : gI l yX3_turnOf wsX3_turnOf rmm D (mT (ou, (eI E, eZ E)) (lwT E lc)) (mW (ou, (eI E, eZ E)) y) [.ref ou.1, .int a1] pm (mW (ou, (eI E, eZ E))) 0 0) (hfin : ∀ (k : Int32) (u : S) (r : Int32) (y1 : T2), post k u → pm r y1 → ∃ (E1 : cE) (x1 : T2) (f1 : Nat → Int64) (q1 : Nat → List Nat) (m1 : Nat), wf u = [(oo, oC lc f1)] ++ cW E1 x1 ∧ eI E1 = eI E ∧ eZ E1 = eZ E ∧ lwKX D lc s E1 ∧ eO E1 = eO E ∧ rI E1 x1 y1 q1 m1 ∧ y1 18 0 = k ∧ (k = nI 0 → f1 0 = r.toInt64)) (hn : lwN p l e s m b below meth c D ou oo lc (eO E) (nI i) cells slots) (hP : va_P D vwCl (lwG ou E y oo lc f x) H) (hD : va_D (fun q : Nat => s.heap.size ≤ q) (lwG ou E y oo lc f x)) (hS : va_S (fun q : Nat => s.heap.size ≤ q) s.heap H locs) (hl : lv_has ls 7 [(0, .ref b), (1, .ref (eO E)), (2, .ref ou.1), (3, .ref oo), (4, .int (nI i))]) : W p l e room_1 s m #[Value.ref b] below meth c H locs cells slots (lw_Z below #[Value.ref b] s) (F0 m 844 ls []) := by
  obtain ⟨hx, hb, hr, hml, hown, hts0, hX, hbl, hlocks, hgv⟩ := C0
  have hown : s.vm.findClass RL = some m.cls := hown
  have hts : ∀ w ∈ wsL_law, w.before #[Value.ref b] s = true := fun w h => hts0 w (wsL_law_in w h)
  have hA : ∀ q : Nat, s.heap.size ≤ q → (fun q : Nat => s.heap.size ≤ q) q := fun _ h => h
  have hbA : ¬ (fun q : Nat => s.heap.size ≤ q) b := Nat.not_le.mpr hbl
  unfold lwN at hn
  subst ha1
  refine lv_aload_n hx hb dL_law_844 rfl (lv_at hl 1 rfl) ?_
  refine lv_aload_n hx hb dL_law_845 rfl (lv_at hl 0 rfl) ?_
  refine lv_iload hx hb dL_law_846 (lv_at hl 4 rfl) ?_
  refine lv_iconst (v := nI 1) hx hb dL_law_848 (by decide) ?_
  refine q_add hx hb dL_law_849 ?_
  refine w_sld hx hb hX hbl hbA hS (by omega) hL dL_law_850 ?_
  refine lv_aload_n hx hb dL_law_851 rfl (lv_at hl 3 rfl) ?_
  refine w_calls (pre := mW (ou, (eI E, eZ E)) y) (w1 := [(oo, oC lc f)] ++ cW E x) (As := [.ref (eO E), .int (xs (i + 1)), .ref oo]) (rest := []) ⟨hx, hb, hml, hown, hts⟩ hJ (vx_cwSW 3 hts gL_law_L_turnOf rfl rfl rfl (by decide +kernel) ⟨Nat.le_of_ble_eq_true rfl, Nat.le_of_ble_eq_true rfl⟩) hKX.1 hKX.2 hN hP hD hS hA hmap rfl hl.1 rfl (Nat.le_of_ble_eq_true rfl) dL_law_852 ⟨by show cells + mc ≤ 601024; omega, by show slots + ms ≤ 7293034; omega⟩ (fun k u H locs hw hP hD hS => ?_)
  refine lv_istore (lv' := [(5, .int k), (0, .ref b), (1, .ref (eO E)), (2, .ref ou.1), (3, .ref oo), (4, .int (nI i))]) hx hb dL_law_855 hl (by decide) rfl (fun ls hl => ?_)
  refine lv_aload_n hx hb dL_law_857 rfl (lv_at hl 3 rfl) ?_
  refine lv_aload_n hx hb dL_law_858 rfl (lv_at hl 1 rfl) ?_
  refine lv_iload hx hb dL_law_859 (lv_at hl 5 rfl) ?_
  refine lv_iconst (v := nI 1) hx hb dL_law_861 (by decide) ?_
  refine q_add hx hb dL_law_862 ?_
  refine w_sld hx hb hX hbl hbA hS (by omega) hL dL_law_863 ?_
  refine w_calli (w1 := mW (ou, (eI E, eZ E)) y) (sfx := wf u) (As := [.int (xs (i + 1))]) (rest := []) ⟨hx, hb, hml, hown, hts⟩ hM (cwV 1 hts gL_law_X3_turnOf rfl hr1 hr2 (by decide +kernel) ⟨by have := hr3; show rmm.frames + 1 ≤ 11; omega, by have := hr4; show 8 + (2 + 11) + rmm.locals ≤ 406; omega⟩) (va_recv hKX.1 hP (ci := 4) (q0 := 0) rfl rfl) hKX.1 hP hD hS hA (fun _ _ _ => rfl) rfl hl.1 rfl (Nat.le_of_ble_eq_true rfl) dL_law_864 ⟨by show cells + mc + 0 ≤ 601024; omega, by show slots + ms + 0 ≤ 7293034; omega⟩ (fun r y1 H locs hw2 hP hD hS => ?_)
  obtain ⟨E1, x1, f1, q1, m1, hwf, hI, hZ, hKX1, hO, hR, h18, hout⟩ := hfin k u r y1 hw hw2
  rw [hwf, ← hI, ← hZ] at hP hD
  refine lv_istore (lv' := [(6, .int r), (5, .int k), (0, .ref b), (1, .ref (eO E)), (2, .ref ou.1), (3, .ref oo), (4, .int (nI i))]) hx hb dL_law_867 hl (by decide) rfl (fun ls hl => ?_)
  refine lv_aload_n hx hb dL_law_869 rfl (lv_at hl 4 rfl) ?_
  refine w_calli (w1 := mW (ou, (eI E1, eZ E1)) y1) (sfx := [(oo, oC lc f1)] ++ cW E1 x1) (As := []) (rest := []) ⟨hx, hb, hml, hown, hts⟩ (c_X3_thrown l D (ou, (eI E1, eZ E1)) (lwT E1 lc) y1) (cwV 0 hts gL_law_X3_thrown rfl rfl rfl (by decide +kernel) ⟨Nat.le_of_ble_eq_true rfl, Nat.le_of_ble_eq_true rfl⟩) (va_recv hKX1.1 hP (ci := 4) (q0 := 0) rfl rfl) hKX1.1 hP hD hS hA (fun _ _ _ => rfl) rfl hl.1 rfl (Nat.le_of_ble_eq_true rfl) dL_law_870 ⟨by show cells + mc + 0 + 0 ≤ 601024; omega, by show slots + ms + 0 + 0 ≤ 7293034; omega⟩ (fun t y2 H locs hw3 hP hD hS => ?_)
  obtain ⟨hw4, hw5⟩ := hw3
  rw [hw5] at hP hD
  refine lv_iload hx hb dL_law_873 (lv_at hl 1 rfl) ?_
  refine lv_icmp_eq (tgt := 880) hx hb dL_law_875 (by decide) (fun _ => ?_) (fun c1 => absurd (hw4.trans h18) c1)
  refine lv_iload hx hb dL_law_880 (lv_at hl 1 rfl) ?_
  refine lv_if_ne (tgt := 897) hx hb dL_law_882 (by decide) (fun _ => ?_) (fun c1 => ?_)
  · refine lv_goto (tgt := 1248) hx hb dL_law_897 (by decide) ?_
    refine W.widen (k := cells + 1) (n := slots + 10) (by omega) (by omega) ?_
    exact hn E1 x1 y1 q1 m1 f1 _ _ _ hKX1 hO hR hP hD hS (lv_sub hl [2, 3, 4, 5, 6] rfl)
  · refine lv_aload_n hx hb dL_law_885 rfl (lv_at hl 5 rfl) ?_
    refine lv_iconst (v := nI 0) hx hb dL_law_886 (by decide) ?_
    refine w_lald (tys := cT E1 [(lc, .long)]) hx hb hKX1.1 hP 18 5 rfl rfl (hout c1) dL_law_887 ?_
    refine lv_iload hx hb dL_law_888 (lv_at hl 0 rfl) ?_
    refine lv_i2l (v := r.toInt64) hx hb dL_law_890 rfl ?_
    refine w_lcmp hx hb rfl dL_law_891 ?_
    refine lv_if_eq (tgt := 897) hx hb dL_law_892 (by decide) (fun _ => ?_) (fun c2 => absurd rfl c2)
    refine lv_goto (tgt := 1248) hx hb dL_law_897 (by decide) ?_
    refine W.widen (k := cells + 1) (n := slots + 10) (by omega) (by omega) ?_
    exact hn E1 x1 y1 q1 m1 f1 _ _ _ hKX1 hO hR hP hD hS (lv_sub hl [2, 3, 4, 5, 6] rfl)

set_option maxHeartbeats 4000000 in
set_option maxRecDepth 100000 in
theorem br_stamps {p : Program} {e : Env} {s : State} {m : MethodId} {below : List Frame} {meth : Method} {c : Code} {b L : Nat} {xs : Nat → Int32} {D : va_G} {ou : Nat × (Nat → Nat)} {oo : Nat} {lc : ClassId} {E : cE} {x y : T2} {f : Nat → Int64} {cells slots : Nat} {ls : Array Slot} {H : Heap} {locs : List Loc} {S : Type} {post : Int32 → S → Prop} {wf : S → va_W} {pm : Int32 → T2 → Prop} (l : Launch) (hL : L ≤ 2048) (C0 : lw_At p s m meth c b L xs) (hN : jNc s) (hKX : lwKX D lc s E) {i : Nat} (hi : i + 4 ≤ L) (hcl : cells + 1 ≤ 601024) (hsl : slots + 10 ≤ 7293034) {mc ms : Nat} (hmc : mc ≤ 1) (hms : ms ≤ 10) {rmm : Room} (hr1 : rmm.cells = 0) (hr2 : rmm.slots = 0) (hr3 : rmm.frames ≤ 3) (hr4 : rmm.locals ≤ 71) {a1 : Int32} (ha1 : xs (i + 1) = a1) (hJ : jI l yL_stamps wsL_stamps ({ frames := 8, cells := mc, slots := ms, locals := 170 } : Room) D E [(lc, .long)] ([(oo, oC lc f)] ++ cW E x) [.ref (eO E), .int a1, .ref oo] post wf mc ms) (hmap : ∀ r u, post r u → ∃ new : List Nat, (wf u).map Prod.fst = ([(oo, oC lc f)] ++ cW E x).map Prod.fst ++ new ∧ new.length ≤ 1) (hM : gI l yX3_stamps wsX3_stamps rmm D (mT (ou, (eI E, eZ E)) (lwT E lc)) (mW (ou, (eI E, eZ E)) y) [.ref ou.1, .int a1] pm (mW (ou, (eI E, eZ E))) 0 0) (hfin : ∀ (k : Int32) (u : S) (r : Int32) (y1 : T2), post k u → pm r y1 → ∃ (E1 : cE) (x1 : T2) (f1 : Nat → Int64) (q1 : Nat → List Nat) (m1 : Nat), wf u = [(oo, oC lc f1)] ++ cW E1 x1 ∧ eI E1 = eI E ∧ eZ E1 = eZ E ∧ lwKX D lc s E1 ∧ eO E1 = eO E ∧ rI E1 x1 y1 q1 m1 ∧ y1 18 0 = k ∧ (k = nI 0 → f1 0 = r.toInt64)) (hn : lwN p l e s m b below meth c D ou oo lc (eO E) (nI i) cells slots) (hP : va_P D vwCl (lwG ou E y oo lc f x) H) (hD : va_D (fun q : Nat => s.heap.size ≤ q) (lwG ou E y oo lc f x)) (hS : va_S (fun q : Nat => s.heap.size ≤ q) s.heap H locs) (hl : lv_has ls 7 [(0, .ref b), (1, .ref (eO E)), (2, .ref ou.1), (3, .ref oo), (4, .int (nI i))]) : W p l e room_1 s m #[Value.ref b] below meth c H locs cells slots (lw_Z below #[Value.ref b] s) (F0 m 900 ls []) := by
  obtain ⟨hx, hb, hr, hml, hown, hts0, hX, hbl, hlocks, hgv⟩ := C0
  have hown : s.vm.findClass RL = some m.cls := hown
  have hts : ∀ w ∈ wsL_law, w.before #[Value.ref b] s = true := fun w h => hts0 w (wsL_law_in w h)
  have hA : ∀ q : Nat, s.heap.size ≤ q → (fun q : Nat => s.heap.size ≤ q) q := fun _ h => h
  have hbA : ¬ (fun q : Nat => s.heap.size ≤ q) b := Nat.not_le.mpr hbl
  unfold lwN at hn
  subst ha1
  refine lv_aload_n hx hb dL_law_900 rfl (lv_at hl 1 rfl) ?_
  refine lv_aload_n hx hb dL_law_901 rfl (lv_at hl 0 rfl) ?_
  refine lv_iload hx hb dL_law_902 (lv_at hl 4 rfl) ?_
  refine lv_iconst (v := nI 1) hx hb dL_law_904 (by decide) ?_
  refine q_add hx hb dL_law_905 ?_
  refine w_sld hx hb hX hbl hbA hS (by omega) hL dL_law_906 ?_
  refine lv_aload_n hx hb dL_law_907 rfl (lv_at hl 3 rfl) ?_
  refine w_calls (pre := mW (ou, (eI E, eZ E)) y) (w1 := [(oo, oC lc f)] ++ cW E x) (As := [.ref (eO E), .int (xs (i + 1)), .ref oo]) (rest := []) ⟨hx, hb, hml, hown, hts⟩ hJ (vx_cwSW 3 hts gL_law_L_stamps rfl rfl rfl (by decide +kernel) ⟨Nat.le_of_ble_eq_true rfl, Nat.le_of_ble_eq_true rfl⟩) hKX.1 hKX.2 hN hP hD hS hA hmap rfl hl.1 rfl (Nat.le_of_ble_eq_true rfl) dL_law_908 ⟨by show cells + mc ≤ 601024; omega, by show slots + ms ≤ 7293034; omega⟩ (fun k u H locs hw hP hD hS => ?_)
  refine lv_istore (lv' := [(5, .int k), (0, .ref b), (1, .ref (eO E)), (2, .ref ou.1), (3, .ref oo), (4, .int (nI i))]) hx hb dL_law_911 hl (by decide) rfl (fun ls hl => ?_)
  refine lv_aload_n hx hb dL_law_913 rfl (lv_at hl 3 rfl) ?_
  refine lv_aload_n hx hb dL_law_914 rfl (lv_at hl 1 rfl) ?_
  refine lv_iload hx hb dL_law_915 (lv_at hl 5 rfl) ?_
  refine lv_iconst (v := nI 1) hx hb dL_law_917 (by decide) ?_
  refine q_add hx hb dL_law_918 ?_
  refine w_sld hx hb hX hbl hbA hS (by omega) hL dL_law_919 ?_
  refine w_calli (w1 := mW (ou, (eI E, eZ E)) y) (sfx := wf u) (As := [.int (xs (i + 1))]) (rest := []) ⟨hx, hb, hml, hown, hts⟩ hM (cwV 1 hts gL_law_X3_stamps rfl hr1 hr2 (by decide +kernel) ⟨by have := hr3; show rmm.frames + 1 ≤ 11; omega, by have := hr4; show 8 + (2 + 11) + rmm.locals ≤ 406; omega⟩) (va_recv hKX.1 hP (ci := 4) (q0 := 0) rfl rfl) hKX.1 hP hD hS hA (fun _ _ _ => rfl) rfl hl.1 rfl (Nat.le_of_ble_eq_true rfl) dL_law_920 ⟨by show cells + mc + 0 ≤ 601024; omega, by show slots + ms + 0 ≤ 7293034; omega⟩ (fun r y1 H locs hw2 hP hD hS => ?_)
  obtain ⟨E1, x1, f1, q1, m1, hwf, hI, hZ, hKX1, hO, hR, h18, hout⟩ := hfin k u r y1 hw hw2
  rw [hwf, ← hI, ← hZ] at hP hD
  refine lv_istore (lv' := [(6, .int r), (5, .int k), (0, .ref b), (1, .ref (eO E)), (2, .ref ou.1), (3, .ref oo), (4, .int (nI i))]) hx hb dL_law_923 hl (by decide) rfl (fun ls hl => ?_)
  refine lv_aload_n hx hb dL_law_925 rfl (lv_at hl 4 rfl) ?_
  refine w_calli (w1 := mW (ou, (eI E1, eZ E1)) y1) (sfx := [(oo, oC lc f1)] ++ cW E1 x1) (As := []) (rest := []) ⟨hx, hb, hml, hown, hts⟩ (c_X3_thrown l D (ou, (eI E1, eZ E1)) (lwT E1 lc) y1) (cwV 0 hts gL_law_X3_thrown rfl rfl rfl (by decide +kernel) ⟨Nat.le_of_ble_eq_true rfl, Nat.le_of_ble_eq_true rfl⟩) (va_recv hKX1.1 hP (ci := 4) (q0 := 0) rfl rfl) hKX1.1 hP hD hS hA (fun _ _ _ => rfl) rfl hl.1 rfl (Nat.le_of_ble_eq_true rfl) dL_law_926 ⟨by show cells + mc + 0 + 0 ≤ 601024; omega, by show slots + ms + 0 + 0 ≤ 7293034; omega⟩ (fun t y2 H locs hw3 hP hD hS => ?_)
  obtain ⟨hw4, hw5⟩ := hw3
  rw [hw5] at hP hD
  refine lv_iload hx hb dL_law_929 (lv_at hl 1 rfl) ?_
  refine lv_icmp_eq (tgt := 936) hx hb dL_law_931 (by decide) (fun _ => ?_) (fun c1 => absurd (hw4.trans h18) c1)
  refine lv_iload hx hb dL_law_936 (lv_at hl 1 rfl) ?_
  refine lv_if_ne (tgt := 953) hx hb dL_law_938 (by decide) (fun _ => ?_) (fun c1 => ?_)
  · refine lv_goto (tgt := 1248) hx hb dL_law_953 (by decide) ?_
    refine W.widen (k := cells + 1) (n := slots + 10) (by omega) (by omega) ?_
    exact hn E1 x1 y1 q1 m1 f1 _ _ _ hKX1 hO hR hP hD hS (lv_sub hl [2, 3, 4, 5, 6] rfl)
  · refine lv_aload_n hx hb dL_law_941 rfl (lv_at hl 5 rfl) ?_
    refine lv_iconst (v := nI 0) hx hb dL_law_942 (by decide) ?_
    refine w_lald (tys := cT E1 [(lc, .long)]) hx hb hKX1.1 hP 18 5 rfl rfl (hout c1) dL_law_943 ?_
    refine lv_iload hx hb dL_law_944 (lv_at hl 0 rfl) ?_
    refine lv_i2l (v := r.toInt64) hx hb dL_law_946 rfl ?_
    refine w_lcmp hx hb rfl dL_law_947 ?_
    refine lv_if_eq (tgt := 953) hx hb dL_law_948 (by decide) (fun _ => ?_) (fun c2 => absurd rfl c2)
    refine lv_goto (tgt := 1248) hx hb dL_law_953 (by decide) ?_
    refine W.widen (k := cells + 1) (n := slots + 10) (by omega) (by omega) ?_
    exact hn E1 x1 y1 q1 m1 f1 _ _ _ hKX1 hO hR hP hD hS (lv_sub hl [2, 3, 4, 5, 6] rfl)

set_option maxHeartbeats 4000000 in
set_option maxRecDepth 100000 in
theorem br_queue {p : Program} {e : Env} {s : State} {m : MethodId} {below : List Frame} {meth : Method} {c : Code} {b L : Nat} {xs : Nat → Int32} {D : va_G} {ou : Nat × (Nat → Nat)} {oo : Nat} {lc : ClassId} {E : cE} {x y : T2} {f : Nat → Int64} {cells slots : Nat} {ls : Array Slot} {H : Heap} {locs : List Loc} {S : Type} {post : Int32 → S → Prop} {wf : S → va_W} {pm : Int32 → T2 → Prop} (l : Launch) (hL : L ≤ 2048) (C0 : lw_At p s m meth c b L xs) (hN : jNc s) (hKX : lwKX D lc s E) {i : Nat} (hi : i + 4 ≤ L) (hcl : cells + 1 ≤ 601024) (hsl : slots + 10 ≤ 7293034) {mc ms : Nat} (hmc : mc ≤ 1) (hms : ms ≤ 10) {rmm : Room} (hr1 : rmm.cells = 0) (hr2 : rmm.slots = 0) (hr3 : rmm.frames ≤ 3) (hr4 : rmm.locals ≤ 71) {a1 : Int32} (ha1 : xs (i + 1) = a1) (hJ : jI l yL_queue wsL_queue ({ frames := 8, cells := mc, slots := ms, locals := 170 } : Room) D E [(lc, .long)] ([(oo, oC lc f)] ++ cW E x) [.ref (eO E), .int a1, .ref oo] post wf mc ms) (hmap : ∀ r u, post r u → ∃ new : List Nat, (wf u).map Prod.fst = ([(oo, oC lc f)] ++ cW E x).map Prod.fst ++ new ∧ new.length ≤ 1) (hM : gI l yX3_queue wsX3_queue rmm D (mT (ou, (eI E, eZ E)) (lwT E lc)) (mW (ou, (eI E, eZ E)) y) [.ref ou.1, .int a1] pm (mW (ou, (eI E, eZ E))) 0 0) (hfin : ∀ (k : Int32) (u : S) (r : Int32) (y1 : T2), post k u → pm r y1 → ∃ (E1 : cE) (x1 : T2) (f1 : Nat → Int64) (q1 : Nat → List Nat) (m1 : Nat), wf u = [(oo, oC lc f1)] ++ cW E1 x1 ∧ eI E1 = eI E ∧ eZ E1 = eZ E ∧ lwKX D lc s E1 ∧ eO E1 = eO E ∧ rI E1 x1 y1 q1 m1 ∧ y1 18 0 = k ∧ (k = nI 0 → f1 0 = r.toInt64)) (hn : lwN p l e s m b below meth c D ou oo lc (eO E) (nI i) cells slots) (hP : va_P D vwCl (lwG ou E y oo lc f x) H) (hD : va_D (fun q : Nat => s.heap.size ≤ q) (lwG ou E y oo lc f x)) (hS : va_S (fun q : Nat => s.heap.size ≤ q) s.heap H locs) (hl : lv_has ls 7 [(0, .ref b), (1, .ref (eO E)), (2, .ref ou.1), (3, .ref oo), (4, .int (nI i))]) : W p l e room_1 s m #[Value.ref b] below meth c H locs cells slots (lw_Z below #[Value.ref b] s) (F0 m 956 ls []) := by
  obtain ⟨hx, hb, hr, hml, hown, hts0, hX, hbl, hlocks, hgv⟩ := C0
  have hown : s.vm.findClass RL = some m.cls := hown
  have hts : ∀ w ∈ wsL_law, w.before #[Value.ref b] s = true := fun w h => hts0 w (wsL_law_in w h)
  have hA : ∀ q : Nat, s.heap.size ≤ q → (fun q : Nat => s.heap.size ≤ q) q := fun _ h => h
  have hbA : ¬ (fun q : Nat => s.heap.size ≤ q) b := Nat.not_le.mpr hbl
  unfold lwN at hn
  subst ha1
  refine lv_aload_n hx hb dL_law_956 rfl (lv_at hl 1 rfl) ?_
  refine lv_aload_n hx hb dL_law_957 rfl (lv_at hl 0 rfl) ?_
  refine lv_iload hx hb dL_law_958 (lv_at hl 4 rfl) ?_
  refine lv_iconst (v := nI 1) hx hb dL_law_960 (by decide) ?_
  refine q_add hx hb dL_law_961 ?_
  refine w_sld hx hb hX hbl hbA hS (by omega) hL dL_law_962 ?_
  refine lv_aload_n hx hb dL_law_963 rfl (lv_at hl 3 rfl) ?_
  refine w_calls (pre := mW (ou, (eI E, eZ E)) y) (w1 := [(oo, oC lc f)] ++ cW E x) (As := [.ref (eO E), .int (xs (i + 1)), .ref oo]) (rest := []) ⟨hx, hb, hml, hown, hts⟩ hJ (vx_cwSW 3 hts gL_law_L_queue rfl rfl rfl (by decide +kernel) ⟨Nat.le_of_ble_eq_true rfl, Nat.le_of_ble_eq_true rfl⟩) hKX.1 hKX.2 hN hP hD hS hA hmap rfl hl.1 rfl (Nat.le_of_ble_eq_true rfl) dL_law_964 ⟨by show cells + mc ≤ 601024; omega, by show slots + ms ≤ 7293034; omega⟩ (fun k u H locs hw hP hD hS => ?_)
  refine lv_istore (lv' := [(5, .int k), (0, .ref b), (1, .ref (eO E)), (2, .ref ou.1), (3, .ref oo), (4, .int (nI i))]) hx hb dL_law_967 hl (by decide) rfl (fun ls hl => ?_)
  refine lv_aload_n hx hb dL_law_969 rfl (lv_at hl 3 rfl) ?_
  refine lv_aload_n hx hb dL_law_970 rfl (lv_at hl 1 rfl) ?_
  refine lv_iload hx hb dL_law_971 (lv_at hl 5 rfl) ?_
  refine lv_iconst (v := nI 1) hx hb dL_law_973 (by decide) ?_
  refine q_add hx hb dL_law_974 ?_
  refine w_sld hx hb hX hbl hbA hS (by omega) hL dL_law_975 ?_
  refine w_calli (w1 := mW (ou, (eI E, eZ E)) y) (sfx := wf u) (As := [.int (xs (i + 1))]) (rest := []) ⟨hx, hb, hml, hown, hts⟩ hM (cwV 1 hts gL_law_X3_queue rfl hr1 hr2 (by decide +kernel) ⟨by have := hr3; show rmm.frames + 1 ≤ 11; omega, by have := hr4; show 8 + (2 + 11) + rmm.locals ≤ 406; omega⟩) (va_recv hKX.1 hP (ci := 4) (q0 := 0) rfl rfl) hKX.1 hP hD hS hA (fun _ _ _ => rfl) rfl hl.1 rfl (Nat.le_of_ble_eq_true rfl) dL_law_976 ⟨by show cells + mc + 0 ≤ 601024; omega, by show slots + ms + 0 ≤ 7293034; omega⟩ (fun r y1 H locs hw2 hP hD hS => ?_)
  obtain ⟨E1, x1, f1, q1, m1, hwf, hI, hZ, hKX1, hO, hR, h18, hout⟩ := hfin k u r y1 hw hw2
  rw [hwf, ← hI, ← hZ] at hP hD
  refine lv_istore (lv' := [(6, .int r), (5, .int k), (0, .ref b), (1, .ref (eO E)), (2, .ref ou.1), (3, .ref oo), (4, .int (nI i))]) hx hb dL_law_979 hl (by decide) rfl (fun ls hl => ?_)
  refine lv_aload_n hx hb dL_law_981 rfl (lv_at hl 4 rfl) ?_
  refine w_calli (w1 := mW (ou, (eI E1, eZ E1)) y1) (sfx := [(oo, oC lc f1)] ++ cW E1 x1) (As := []) (rest := []) ⟨hx, hb, hml, hown, hts⟩ (c_X3_thrown l D (ou, (eI E1, eZ E1)) (lwT E1 lc) y1) (cwV 0 hts gL_law_X3_thrown rfl rfl rfl (by decide +kernel) ⟨Nat.le_of_ble_eq_true rfl, Nat.le_of_ble_eq_true rfl⟩) (va_recv hKX1.1 hP (ci := 4) (q0 := 0) rfl rfl) hKX1.1 hP hD hS hA (fun _ _ _ => rfl) rfl hl.1 rfl (Nat.le_of_ble_eq_true rfl) dL_law_982 ⟨by show cells + mc + 0 + 0 ≤ 601024; omega, by show slots + ms + 0 + 0 ≤ 7293034; omega⟩ (fun t y2 H locs hw3 hP hD hS => ?_)
  obtain ⟨hw4, hw5⟩ := hw3
  rw [hw5] at hP hD
  refine lv_iload hx hb dL_law_985 (lv_at hl 1 rfl) ?_
  refine lv_icmp_eq (tgt := 992) hx hb dL_law_987 (by decide) (fun _ => ?_) (fun c1 => absurd (hw4.trans h18) c1)
  refine lv_iload hx hb dL_law_992 (lv_at hl 1 rfl) ?_
  refine lv_if_ne (tgt := 1009) hx hb dL_law_994 (by decide) (fun _ => ?_) (fun c1 => ?_)
  · refine lv_goto (tgt := 1248) hx hb dL_law_1009 (by decide) ?_
    refine W.widen (k := cells + 1) (n := slots + 10) (by omega) (by omega) ?_
    exact hn E1 x1 y1 q1 m1 f1 _ _ _ hKX1 hO hR hP hD hS (lv_sub hl [2, 3, 4, 5, 6] rfl)
  · refine lv_aload_n hx hb dL_law_997 rfl (lv_at hl 5 rfl) ?_
    refine lv_iconst (v := nI 0) hx hb dL_law_998 (by decide) ?_
    refine w_lald (tys := cT E1 [(lc, .long)]) hx hb hKX1.1 hP 18 5 rfl rfl (hout c1) dL_law_999 ?_
    refine lv_iload hx hb dL_law_1000 (lv_at hl 0 rfl) ?_
    refine lv_i2l (v := r.toInt64) hx hb dL_law_1002 rfl ?_
    refine w_lcmp hx hb rfl dL_law_1003 ?_
    refine lv_if_eq (tgt := 1009) hx hb dL_law_1004 (by decide) (fun _ => ?_) (fun c2 => absurd rfl c2)
    refine lv_goto (tgt := 1248) hx hb dL_law_1009 (by decide) ?_
    refine W.widen (k := cells + 1) (n := slots + 10) (by omega) (by omega) ?_
    exact hn E1 x1 y1 q1 m1 f1 _ _ _ hKX1 hO hR hP hD hS (lv_sub hl [2, 3, 4, 5, 6] rfl)

set_option maxHeartbeats 4000000 in
set_option maxRecDepth 100000 in
theorem br_inside {p : Program} {e : Env} {s : State} {m : MethodId} {below : List Frame} {meth : Method} {c : Code} {b L : Nat} {xs : Nat → Int32} {D : va_G} {ou : Nat × (Nat → Nat)} {oo : Nat} {lc : ClassId} {E : cE} {x y : T2} {f : Nat → Int64} {cells slots : Nat} {ls : Array Slot} {H : Heap} {locs : List Loc} {S : Type} {post : Int32 → S → Prop} {wf : S → va_W} {pm : Int32 → T2 → Prop} (l : Launch) (hL : L ≤ 2048) (C0 : lw_At p s m meth c b L xs) (hN : jNc s) (hKX : lwKX D lc s E) {i : Nat} (hi : i + 4 ≤ L) (hcl : cells + 1 ≤ 601024) (hsl : slots + 10 ≤ 7293034) {mc ms : Nat} (hmc : mc ≤ 1) (hms : ms ≤ 10) {rmm : Room} (hr1 : rmm.cells = 0) (hr2 : rmm.slots = 0) (hr3 : rmm.frames ≤ 3) (hr4 : rmm.locals ≤ 71) {a1 : Int32} (ha1 : xs (i + 1) = a1) (hJ : jI l yL_inside wsL_inside ({ frames := 8, cells := mc, slots := ms, locals := 170 } : Room) D E [(lc, .long)] ([(oo, oC lc f)] ++ cW E x) [.ref (eO E), .int a1, .ref oo] post wf mc ms) (hmap : ∀ r u, post r u → ∃ new : List Nat, (wf u).map Prod.fst = ([(oo, oC lc f)] ++ cW E x).map Prod.fst ++ new ∧ new.length ≤ 1) (hM : gI l yX3_inside wsX3_inside rmm D (mT (ou, (eI E, eZ E)) (lwT E lc)) (mW (ou, (eI E, eZ E)) y) [.ref ou.1, .int a1] pm (mW (ou, (eI E, eZ E))) 0 0) (hfin : ∀ (k : Int32) (u : S) (r : Int32) (y1 : T2), post k u → pm r y1 → ∃ (E1 : cE) (x1 : T2) (f1 : Nat → Int64) (q1 : Nat → List Nat) (m1 : Nat), wf u = [(oo, oC lc f1)] ++ cW E1 x1 ∧ eI E1 = eI E ∧ eZ E1 = eZ E ∧ lwKX D lc s E1 ∧ eO E1 = eO E ∧ rI E1 x1 y1 q1 m1 ∧ y1 18 0 = k ∧ (k = nI 0 → f1 0 = r.toInt64)) (hn : lwN p l e s m b below meth c D ou oo lc (eO E) (nI i) cells slots) (hP : va_P D vwCl (lwG ou E y oo lc f x) H) (hD : va_D (fun q : Nat => s.heap.size ≤ q) (lwG ou E y oo lc f x)) (hS : va_S (fun q : Nat => s.heap.size ≤ q) s.heap H locs) (hl : lv_has ls 7 [(0, .ref b), (1, .ref (eO E)), (2, .ref ou.1), (3, .ref oo), (4, .int (nI i))]) : W p l e room_1 s m #[Value.ref b] below meth c H locs cells slots (lw_Z below #[Value.ref b] s) (F0 m 1012 ls []) := by
  obtain ⟨hx, hb, hr, hml, hown, hts0, hX, hbl, hlocks, hgv⟩ := C0
  have hown : s.vm.findClass RL = some m.cls := hown
  have hts : ∀ w ∈ wsL_law, w.before #[Value.ref b] s = true := fun w h => hts0 w (wsL_law_in w h)
  have hA : ∀ q : Nat, s.heap.size ≤ q → (fun q : Nat => s.heap.size ≤ q) q := fun _ h => h
  have hbA : ¬ (fun q : Nat => s.heap.size ≤ q) b := Nat.not_le.mpr hbl
  unfold lwN at hn
  subst ha1
  refine lv_aload_n hx hb dL_law_1012 rfl (lv_at hl 1 rfl) ?_
  refine lv_aload_n hx hb dL_law_1013 rfl (lv_at hl 0 rfl) ?_
  refine lv_iload hx hb dL_law_1014 (lv_at hl 4 rfl) ?_
  refine lv_iconst (v := nI 1) hx hb dL_law_1016 (by decide) ?_
  refine q_add hx hb dL_law_1017 ?_
  refine w_sld hx hb hX hbl hbA hS (by omega) hL dL_law_1018 ?_
  refine lv_aload_n hx hb dL_law_1019 rfl (lv_at hl 3 rfl) ?_
  refine w_calls (pre := mW (ou, (eI E, eZ E)) y) (w1 := [(oo, oC lc f)] ++ cW E x) (As := [.ref (eO E), .int (xs (i + 1)), .ref oo]) (rest := []) ⟨hx, hb, hml, hown, hts⟩ hJ (vx_cwSW 3 hts gL_law_L_inside rfl rfl rfl (by decide +kernel) ⟨Nat.le_of_ble_eq_true rfl, Nat.le_of_ble_eq_true rfl⟩) hKX.1 hKX.2 hN hP hD hS hA hmap rfl hl.1 rfl (Nat.le_of_ble_eq_true rfl) dL_law_1020 ⟨by show cells + mc ≤ 601024; omega, by show slots + ms ≤ 7293034; omega⟩ (fun k u H locs hw hP hD hS => ?_)
  refine lv_istore (lv' := [(5, .int k), (0, .ref b), (1, .ref (eO E)), (2, .ref ou.1), (3, .ref oo), (4, .int (nI i))]) hx hb dL_law_1023 hl (by decide) rfl (fun ls hl => ?_)
  refine lv_aload_n hx hb dL_law_1025 rfl (lv_at hl 3 rfl) ?_
  refine lv_aload_n hx hb dL_law_1026 rfl (lv_at hl 1 rfl) ?_
  refine lv_iload hx hb dL_law_1027 (lv_at hl 5 rfl) ?_
  refine lv_iconst (v := nI 1) hx hb dL_law_1029 (by decide) ?_
  refine q_add hx hb dL_law_1030 ?_
  refine w_sld hx hb hX hbl hbA hS (by omega) hL dL_law_1031 ?_
  refine w_calli (w1 := mW (ou, (eI E, eZ E)) y) (sfx := wf u) (As := [.int (xs (i + 1))]) (rest := []) ⟨hx, hb, hml, hown, hts⟩ hM (cwV 1 hts gL_law_X3_inside rfl hr1 hr2 (by decide +kernel) ⟨by have := hr3; show rmm.frames + 1 ≤ 11; omega, by have := hr4; show 8 + (2 + 11) + rmm.locals ≤ 406; omega⟩) (va_recv hKX.1 hP (ci := 4) (q0 := 0) rfl rfl) hKX.1 hP hD hS hA (fun _ _ _ => rfl) rfl hl.1 rfl (Nat.le_of_ble_eq_true rfl) dL_law_1032 ⟨by show cells + mc + 0 ≤ 601024; omega, by show slots + ms + 0 ≤ 7293034; omega⟩ (fun r y1 H locs hw2 hP hD hS => ?_)
  obtain ⟨E1, x1, f1, q1, m1, hwf, hI, hZ, hKX1, hO, hR, h18, hout⟩ := hfin k u r y1 hw hw2
  rw [hwf, ← hI, ← hZ] at hP hD
  refine lv_istore (lv' := [(6, .int r), (5, .int k), (0, .ref b), (1, .ref (eO E)), (2, .ref ou.1), (3, .ref oo), (4, .int (nI i))]) hx hb dL_law_1035 hl (by decide) rfl (fun ls hl => ?_)
  refine lv_aload_n hx hb dL_law_1037 rfl (lv_at hl 4 rfl) ?_
  refine w_calli (w1 := mW (ou, (eI E1, eZ E1)) y1) (sfx := [(oo, oC lc f1)] ++ cW E1 x1) (As := []) (rest := []) ⟨hx, hb, hml, hown, hts⟩ (c_X3_thrown l D (ou, (eI E1, eZ E1)) (lwT E1 lc) y1) (cwV 0 hts gL_law_X3_thrown rfl rfl rfl (by decide +kernel) ⟨Nat.le_of_ble_eq_true rfl, Nat.le_of_ble_eq_true rfl⟩) (va_recv hKX1.1 hP (ci := 4) (q0 := 0) rfl rfl) hKX1.1 hP hD hS hA (fun _ _ _ => rfl) rfl hl.1 rfl (Nat.le_of_ble_eq_true rfl) dL_law_1038 ⟨by show cells + mc + 0 + 0 ≤ 601024; omega, by show slots + ms + 0 + 0 ≤ 7293034; omega⟩ (fun t y2 H locs hw3 hP hD hS => ?_)
  obtain ⟨hw4, hw5⟩ := hw3
  rw [hw5] at hP hD
  refine lv_iload hx hb dL_law_1041 (lv_at hl 1 rfl) ?_
  refine lv_icmp_eq (tgt := 1048) hx hb dL_law_1043 (by decide) (fun _ => ?_) (fun c1 => absurd (hw4.trans h18) c1)
  refine lv_iload hx hb dL_law_1048 (lv_at hl 1 rfl) ?_
  refine lv_if_ne (tgt := 1065) hx hb dL_law_1050 (by decide) (fun _ => ?_) (fun c1 => ?_)
  · refine lv_goto (tgt := 1248) hx hb dL_law_1065 (by decide) ?_
    refine W.widen (k := cells + 1) (n := slots + 10) (by omega) (by omega) ?_
    exact hn E1 x1 y1 q1 m1 f1 _ _ _ hKX1 hO hR hP hD hS (lv_sub hl [2, 3, 4, 5, 6] rfl)
  · refine lv_aload_n hx hb dL_law_1053 rfl (lv_at hl 5 rfl) ?_
    refine lv_iconst (v := nI 0) hx hb dL_law_1054 (by decide) ?_
    refine w_lald (tys := cT E1 [(lc, .long)]) hx hb hKX1.1 hP 18 5 rfl rfl (hout c1) dL_law_1055 ?_
    refine lv_iload hx hb dL_law_1056 (lv_at hl 0 rfl) ?_
    refine lv_i2l (v := r.toInt64) hx hb dL_law_1058 rfl ?_
    refine w_lcmp hx hb rfl dL_law_1059 ?_
    refine lv_if_eq (tgt := 1065) hx hb dL_law_1060 (by decide) (fun _ => ?_) (fun c2 => absurd rfl c2)
    refine lv_goto (tgt := 1248) hx hb dL_law_1065 (by decide) ?_
    refine W.widen (k := cells + 1) (n := slots + 10) (by omega) (by omega) ?_
    exact hn E1 x1 y1 q1 m1 f1 _ _ _ hKX1 hO hR hP hD hS (lv_sub hl [2, 3, 4, 5, 6] rfl)

set_option maxHeartbeats 4000000 in
set_option maxRecDepth 100000 in
theorem br_stock {p : Program} {e : Env} {s : State} {m : MethodId} {below : List Frame} {meth : Method} {c : Code} {b L : Nat} {xs : Nat → Int32} {D : va_G} {ou : Nat × (Nat → Nat)} {oo : Nat} {lc : ClassId} {E : cE} {x y : T2} {f : Nat → Int64} {cells slots : Nat} {ls : Array Slot} {H : Heap} {locs : List Loc} {S : Type} {post : Int32 → S → Prop} {wf : S → va_W} {pm : Int32 → T2 → Prop} (l : Launch) (hL : L ≤ 2048) (C0 : lw_At p s m meth c b L xs) (hN : jNc s) (hKX : lwKX D lc s E) {i : Nat} (hi : i + 4 ≤ L) (hcl : cells + 1 ≤ 601024) (hsl : slots + 10 ≤ 7293034) {mc ms : Nat} (hmc : mc ≤ 1) (hms : ms ≤ 10) {rmm : Room} (hr1 : rmm.cells = 0) (hr2 : rmm.slots = 0) (hr3 : rmm.frames ≤ 3) (hr4 : rmm.locals ≤ 71) {a1 : Int32} (ha1 : xs (i + 1) = a1) (hJ : jI l yL_stock wsL_stock ({ frames := 8, cells := mc, slots := ms, locals := 170 } : Room) D E [(lc, .long)] ([(oo, oC lc f)] ++ cW E x) [.ref (eO E), .int a1, .ref oo] post wf mc ms) (hmap : ∀ r u, post r u → ∃ new : List Nat, (wf u).map Prod.fst = ([(oo, oC lc f)] ++ cW E x).map Prod.fst ++ new ∧ new.length ≤ 1) (hM : gI l yX3_stock wsX3_stock rmm D (mT (ou, (eI E, eZ E)) (lwT E lc)) (mW (ou, (eI E, eZ E)) y) [.ref ou.1, .int a1] pm (mW (ou, (eI E, eZ E))) 0 0) (hfin : ∀ (k : Int32) (u : S) (r : Int32) (y1 : T2), post k u → pm r y1 → ∃ (E1 : cE) (x1 : T2) (f1 : Nat → Int64) (q1 : Nat → List Nat) (m1 : Nat), wf u = [(oo, oC lc f1)] ++ cW E1 x1 ∧ eI E1 = eI E ∧ eZ E1 = eZ E ∧ lwKX D lc s E1 ∧ eO E1 = eO E ∧ rI E1 x1 y1 q1 m1 ∧ y1 18 0 = k ∧ (k = nI 0 → f1 0 = r.toInt64)) (hn : lwN p l e s m b below meth c D ou oo lc (eO E) (nI i) cells slots) (hP : va_P D vwCl (lwG ou E y oo lc f x) H) (hD : va_D (fun q : Nat => s.heap.size ≤ q) (lwG ou E y oo lc f x)) (hS : va_S (fun q : Nat => s.heap.size ≤ q) s.heap H locs) (hl : lv_has ls 7 [(0, .ref b), (1, .ref (eO E)), (2, .ref ou.1), (3, .ref oo), (4, .int (nI i))]) : W p l e room_1 s m #[Value.ref b] below meth c H locs cells slots (lw_Z below #[Value.ref b] s) (F0 m 1068 ls []) := by
  obtain ⟨hx, hb, hr, hml, hown, hts0, hX, hbl, hlocks, hgv⟩ := C0
  have hown : s.vm.findClass RL = some m.cls := hown
  have hts : ∀ w ∈ wsL_law, w.before #[Value.ref b] s = true := fun w h => hts0 w (wsL_law_in w h)
  have hA : ∀ q : Nat, s.heap.size ≤ q → (fun q : Nat => s.heap.size ≤ q) q := fun _ h => h
  have hbA : ¬ (fun q : Nat => s.heap.size ≤ q) b := Nat.not_le.mpr hbl
  unfold lwN at hn
  subst ha1
  refine lv_aload_n hx hb dL_law_1068 rfl (lv_at hl 1 rfl) ?_
  refine lv_aload_n hx hb dL_law_1069 rfl (lv_at hl 0 rfl) ?_
  refine lv_iload hx hb dL_law_1070 (lv_at hl 4 rfl) ?_
  refine lv_iconst (v := nI 1) hx hb dL_law_1072 (by decide) ?_
  refine q_add hx hb dL_law_1073 ?_
  refine w_sld hx hb hX hbl hbA hS (by omega) hL dL_law_1074 ?_
  refine lv_aload_n hx hb dL_law_1075 rfl (lv_at hl 3 rfl) ?_
  refine w_calls (pre := mW (ou, (eI E, eZ E)) y) (w1 := [(oo, oC lc f)] ++ cW E x) (As := [.ref (eO E), .int (xs (i + 1)), .ref oo]) (rest := []) ⟨hx, hb, hml, hown, hts⟩ hJ (vx_cwSW 3 hts gL_law_L_stock rfl rfl rfl (by decide +kernel) ⟨Nat.le_of_ble_eq_true rfl, Nat.le_of_ble_eq_true rfl⟩) hKX.1 hKX.2 hN hP hD hS hA hmap rfl hl.1 rfl (Nat.le_of_ble_eq_true rfl) dL_law_1076 ⟨by show cells + mc ≤ 601024; omega, by show slots + ms ≤ 7293034; omega⟩ (fun k u H locs hw hP hD hS => ?_)
  refine lv_istore (lv' := [(5, .int k), (0, .ref b), (1, .ref (eO E)), (2, .ref ou.1), (3, .ref oo), (4, .int (nI i))]) hx hb dL_law_1079 hl (by decide) rfl (fun ls hl => ?_)
  refine lv_aload_n hx hb dL_law_1081 rfl (lv_at hl 3 rfl) ?_
  refine lv_aload_n hx hb dL_law_1082 rfl (lv_at hl 1 rfl) ?_
  refine lv_iload hx hb dL_law_1083 (lv_at hl 5 rfl) ?_
  refine lv_iconst (v := nI 1) hx hb dL_law_1085 (by decide) ?_
  refine q_add hx hb dL_law_1086 ?_
  refine w_sld hx hb hX hbl hbA hS (by omega) hL dL_law_1087 ?_
  refine w_calli (w1 := mW (ou, (eI E, eZ E)) y) (sfx := wf u) (As := [.int (xs (i + 1))]) (rest := []) ⟨hx, hb, hml, hown, hts⟩ hM (cwV 1 hts gL_law_X3_stock rfl hr1 hr2 (by decide +kernel) ⟨by have := hr3; show rmm.frames + 1 ≤ 11; omega, by have := hr4; show 8 + (2 + 11) + rmm.locals ≤ 406; omega⟩) (va_recv hKX.1 hP (ci := 4) (q0 := 0) rfl rfl) hKX.1 hP hD hS hA (fun _ _ _ => rfl) rfl hl.1 rfl (Nat.le_of_ble_eq_true rfl) dL_law_1088 ⟨by show cells + mc + 0 ≤ 601024; omega, by show slots + ms + 0 ≤ 7293034; omega⟩ (fun r y1 H locs hw2 hP hD hS => ?_)
  obtain ⟨E1, x1, f1, q1, m1, hwf, hI, hZ, hKX1, hO, hR, h18, hout⟩ := hfin k u r y1 hw hw2
  rw [hwf, ← hI, ← hZ] at hP hD
  refine lv_istore (lv' := [(6, .int r), (5, .int k), (0, .ref b), (1, .ref (eO E)), (2, .ref ou.1), (3, .ref oo), (4, .int (nI i))]) hx hb dL_law_1091 hl (by decide) rfl (fun ls hl => ?_)
  refine lv_aload_n hx hb dL_law_1093 rfl (lv_at hl 4 rfl) ?_
  refine w_calli (w1 := mW (ou, (eI E1, eZ E1)) y1) (sfx := [(oo, oC lc f1)] ++ cW E1 x1) (As := []) (rest := []) ⟨hx, hb, hml, hown, hts⟩ (c_X3_thrown l D (ou, (eI E1, eZ E1)) (lwT E1 lc) y1) (cwV 0 hts gL_law_X3_thrown rfl rfl rfl (by decide +kernel) ⟨Nat.le_of_ble_eq_true rfl, Nat.le_of_ble_eq_true rfl⟩) (va_recv hKX1.1 hP (ci := 4) (q0 := 0) rfl rfl) hKX1.1 hP hD hS hA (fun _ _ _ => rfl) rfl hl.1 rfl (Nat.le_of_ble_eq_true rfl) dL_law_1094 ⟨by show cells + mc + 0 + 0 ≤ 601024; omega, by show slots + ms + 0 + 0 ≤ 7293034; omega⟩ (fun t y2 H locs hw3 hP hD hS => ?_)
  obtain ⟨hw4, hw5⟩ := hw3
  rw [hw5] at hP hD
  refine lv_iload hx hb dL_law_1097 (lv_at hl 1 rfl) ?_
  refine lv_icmp_eq (tgt := 1104) hx hb dL_law_1099 (by decide) (fun _ => ?_) (fun c1 => absurd (hw4.trans h18) c1)
  refine lv_iload hx hb dL_law_1104 (lv_at hl 1 rfl) ?_
  refine lv_if_ne (tgt := 1121) hx hb dL_law_1106 (by decide) (fun _ => ?_) (fun c1 => ?_)
  · refine lv_goto (tgt := 1248) hx hb dL_law_1121 (by decide) ?_
    refine W.widen (k := cells + 1) (n := slots + 10) (by omega) (by omega) ?_
    exact hn E1 x1 y1 q1 m1 f1 _ _ _ hKX1 hO hR hP hD hS (lv_sub hl [2, 3, 4, 5, 6] rfl)
  · refine lv_aload_n hx hb dL_law_1109 rfl (lv_at hl 5 rfl) ?_
    refine lv_iconst (v := nI 0) hx hb dL_law_1110 (by decide) ?_
    refine w_lald (tys := cT E1 [(lc, .long)]) hx hb hKX1.1 hP 18 5 rfl rfl (hout c1) dL_law_1111 ?_
    refine lv_iload hx hb dL_law_1112 (lv_at hl 0 rfl) ?_
    refine lv_i2l (v := r.toInt64) hx hb dL_law_1114 rfl ?_
    refine w_lcmp hx hb rfl dL_law_1115 ?_
    refine lv_if_eq (tgt := 1121) hx hb dL_law_1116 (by decide) (fun _ => ?_) (fun c2 => absurd rfl c2)
    refine lv_goto (tgt := 1248) hx hb dL_law_1121 (by decide) ?_
    refine W.widen (k := cells + 1) (n := slots + 10) (by omega) (by omega) ?_
    exact hn E1 x1 y1 q1 m1 f1 _ _ _ hKX1 hO hR hP hD hS (lv_sub hl [2, 3, 4, 5, 6] rfl)

set_option maxHeartbeats 4000000 in
set_option maxRecDepth 100000 in
theorem br_demand {p : Program} {e : Env} {s : State} {m : MethodId} {below : List Frame} {meth : Method} {c : Code} {b L : Nat} {xs : Nat → Int32} {D : va_G} {ou : Nat × (Nat → Nat)} {oo : Nat} {lc : ClassId} {E : cE} {x y : T2} {f : Nat → Int64} {cells slots : Nat} {ls : Array Slot} {H : Heap} {locs : List Loc} {S : Type} {post : Int32 → S → Prop} {wf : S → va_W} {pm : Int32 → T2 → Prop} (l : Launch) (hL : L ≤ 2048) (C0 : lw_At p s m meth c b L xs) (hN : jNc s) (hKX : lwKX D lc s E) {i : Nat} (hi : i + 4 ≤ L) (hcl : cells + 1 ≤ 601024) (hsl : slots + 10 ≤ 7293034) {mc ms : Nat} (hmc : mc ≤ 1) (hms : ms ≤ 10) {rmm : Room} (hr1 : rmm.cells = 0) (hr2 : rmm.slots = 0) (hr3 : rmm.frames ≤ 3) (hr4 : rmm.locals ≤ 71) {a1 : Int32} (ha1 : xs (i + 1) = a1) (hJ : jI l yL_demand wsL_demand ({ frames := 8, cells := mc, slots := ms, locals := 170 } : Room) D E [(lc, .long)] ([(oo, oC lc f)] ++ cW E x) [.ref (eO E), .int a1, .ref oo] post wf mc ms) (hmap : ∀ r u, post r u → ∃ new : List Nat, (wf u).map Prod.fst = ([(oo, oC lc f)] ++ cW E x).map Prod.fst ++ new ∧ new.length ≤ 1) (hM : gI l yX3_demand wsX3_demand rmm D (mT (ou, (eI E, eZ E)) (lwT E lc)) (mW (ou, (eI E, eZ E)) y) [.ref ou.1, .int a1] pm (mW (ou, (eI E, eZ E))) 0 0) (hfin : ∀ (k : Int32) (u : S) (r : Int32) (y1 : T2), post k u → pm r y1 → ∃ (E1 : cE) (x1 : T2) (f1 : Nat → Int64) (q1 : Nat → List Nat) (m1 : Nat), wf u = [(oo, oC lc f1)] ++ cW E1 x1 ∧ eI E1 = eI E ∧ eZ E1 = eZ E ∧ lwKX D lc s E1 ∧ eO E1 = eO E ∧ rI E1 x1 y1 q1 m1 ∧ y1 18 0 = k ∧ (k = nI 0 → f1 0 = r.toInt64)) (hn : lwN p l e s m b below meth c D ou oo lc (eO E) (nI i) cells slots) (hP : va_P D vwCl (lwG ou E y oo lc f x) H) (hD : va_D (fun q : Nat => s.heap.size ≤ q) (lwG ou E y oo lc f x)) (hS : va_S (fun q : Nat => s.heap.size ≤ q) s.heap H locs) (hl : lv_has ls 7 [(0, .ref b), (1, .ref (eO E)), (2, .ref ou.1), (3, .ref oo), (4, .int (nI i))]) : W p l e room_1 s m #[Value.ref b] below meth c H locs cells slots (lw_Z below #[Value.ref b] s) (F0 m 1124 ls []) := by
  obtain ⟨hx, hb, hr, hml, hown, hts0, hX, hbl, hlocks, hgv⟩ := C0
  have hown : s.vm.findClass RL = some m.cls := hown
  have hts : ∀ w ∈ wsL_law, w.before #[Value.ref b] s = true := fun w h => hts0 w (wsL_law_in w h)
  have hA : ∀ q : Nat, s.heap.size ≤ q → (fun q : Nat => s.heap.size ≤ q) q := fun _ h => h
  have hbA : ¬ (fun q : Nat => s.heap.size ≤ q) b := Nat.not_le.mpr hbl
  unfold lwN at hn
  subst ha1
  refine lv_aload_n hx hb dL_law_1124 rfl (lv_at hl 1 rfl) ?_
  refine lv_aload_n hx hb dL_law_1125 rfl (lv_at hl 0 rfl) ?_
  refine lv_iload hx hb dL_law_1126 (lv_at hl 4 rfl) ?_
  refine lv_iconst (v := nI 1) hx hb dL_law_1128 (by decide) ?_
  refine q_add hx hb dL_law_1129 ?_
  refine w_sld hx hb hX hbl hbA hS (by omega) hL dL_law_1130 ?_
  refine lv_aload_n hx hb dL_law_1131 rfl (lv_at hl 3 rfl) ?_
  refine w_calls (pre := mW (ou, (eI E, eZ E)) y) (w1 := [(oo, oC lc f)] ++ cW E x) (As := [.ref (eO E), .int (xs (i + 1)), .ref oo]) (rest := []) ⟨hx, hb, hml, hown, hts⟩ hJ (vx_cwSW 3 hts gL_law_L_demand rfl rfl rfl (by decide +kernel) ⟨Nat.le_of_ble_eq_true rfl, Nat.le_of_ble_eq_true rfl⟩) hKX.1 hKX.2 hN hP hD hS hA hmap rfl hl.1 rfl (Nat.le_of_ble_eq_true rfl) dL_law_1132 ⟨by show cells + mc ≤ 601024; omega, by show slots + ms ≤ 7293034; omega⟩ (fun k u H locs hw hP hD hS => ?_)
  refine lv_istore (lv' := [(5, .int k), (0, .ref b), (1, .ref (eO E)), (2, .ref ou.1), (3, .ref oo), (4, .int (nI i))]) hx hb dL_law_1135 hl (by decide) rfl (fun ls hl => ?_)
  refine lv_aload_n hx hb dL_law_1137 rfl (lv_at hl 3 rfl) ?_
  refine lv_aload_n hx hb dL_law_1138 rfl (lv_at hl 1 rfl) ?_
  refine lv_iload hx hb dL_law_1139 (lv_at hl 5 rfl) ?_
  refine lv_iconst (v := nI 1) hx hb dL_law_1141 (by decide) ?_
  refine q_add hx hb dL_law_1142 ?_
  refine w_sld hx hb hX hbl hbA hS (by omega) hL dL_law_1143 ?_
  refine w_calli (w1 := mW (ou, (eI E, eZ E)) y) (sfx := wf u) (As := [.int (xs (i + 1))]) (rest := []) ⟨hx, hb, hml, hown, hts⟩ hM (cwV 1 hts gL_law_X3_demand rfl hr1 hr2 (by decide +kernel) ⟨by have := hr3; show rmm.frames + 1 ≤ 11; omega, by have := hr4; show 8 + (2 + 11) + rmm.locals ≤ 406; omega⟩) (va_recv hKX.1 hP (ci := 4) (q0 := 0) rfl rfl) hKX.1 hP hD hS hA (fun _ _ _ => rfl) rfl hl.1 rfl (Nat.le_of_ble_eq_true rfl) dL_law_1144 ⟨by show cells + mc + 0 ≤ 601024; omega, by show slots + ms + 0 ≤ 7293034; omega⟩ (fun r y1 H locs hw2 hP hD hS => ?_)
  obtain ⟨E1, x1, f1, q1, m1, hwf, hI, hZ, hKX1, hO, hR, h18, hout⟩ := hfin k u r y1 hw hw2
  rw [hwf, ← hI, ← hZ] at hP hD
  refine lv_istore (lv' := [(6, .int r), (5, .int k), (0, .ref b), (1, .ref (eO E)), (2, .ref ou.1), (3, .ref oo), (4, .int (nI i))]) hx hb dL_law_1147 hl (by decide) rfl (fun ls hl => ?_)
  refine lv_aload_n hx hb dL_law_1149 rfl (lv_at hl 4 rfl) ?_
  refine w_calli (w1 := mW (ou, (eI E1, eZ E1)) y1) (sfx := [(oo, oC lc f1)] ++ cW E1 x1) (As := []) (rest := []) ⟨hx, hb, hml, hown, hts⟩ (c_X3_thrown l D (ou, (eI E1, eZ E1)) (lwT E1 lc) y1) (cwV 0 hts gL_law_X3_thrown rfl rfl rfl (by decide +kernel) ⟨Nat.le_of_ble_eq_true rfl, Nat.le_of_ble_eq_true rfl⟩) (va_recv hKX1.1 hP (ci := 4) (q0 := 0) rfl rfl) hKX1.1 hP hD hS hA (fun _ _ _ => rfl) rfl hl.1 rfl (Nat.le_of_ble_eq_true rfl) dL_law_1150 ⟨by show cells + mc + 0 + 0 ≤ 601024; omega, by show slots + ms + 0 + 0 ≤ 7293034; omega⟩ (fun t y2 H locs hw3 hP hD hS => ?_)
  obtain ⟨hw4, hw5⟩ := hw3
  rw [hw5] at hP hD
  refine lv_iload hx hb dL_law_1153 (lv_at hl 1 rfl) ?_
  refine lv_icmp_eq (tgt := 1160) hx hb dL_law_1155 (by decide) (fun _ => ?_) (fun c1 => absurd (hw4.trans h18) c1)
  refine lv_iload hx hb dL_law_1160 (lv_at hl 1 rfl) ?_
  refine lv_if_ne (tgt := 1177) hx hb dL_law_1162 (by decide) (fun _ => ?_) (fun c1 => ?_)
  · refine lv_goto (tgt := 1248) hx hb dL_law_1177 (by decide) ?_
    refine W.widen (k := cells + 1) (n := slots + 10) (by omega) (by omega) ?_
    exact hn E1 x1 y1 q1 m1 f1 _ _ _ hKX1 hO hR hP hD hS (lv_sub hl [2, 3, 4, 5, 6] rfl)
  · refine lv_aload_n hx hb dL_law_1165 rfl (lv_at hl 5 rfl) ?_
    refine lv_iconst (v := nI 0) hx hb dL_law_1166 (by decide) ?_
    refine w_lald (tys := cT E1 [(lc, .long)]) hx hb hKX1.1 hP 18 5 rfl rfl (hout c1) dL_law_1167 ?_
    refine lv_iload hx hb dL_law_1168 (lv_at hl 0 rfl) ?_
    refine lv_i2l (v := r.toInt64) hx hb dL_law_1170 rfl ?_
    refine w_lcmp hx hb rfl dL_law_1171 ?_
    refine lv_if_eq (tgt := 1177) hx hb dL_law_1172 (by decide) (fun _ => ?_) (fun c2 => absurd rfl c2)
    refine lv_goto (tgt := 1248) hx hb dL_law_1177 (by decide) ?_
    refine W.widen (k := cells + 1) (n := slots + 10) (by omega) (by omega) ?_
    exact hn E1 x1 y1 q1 m1 f1 _ _ _ hKX1 hO hR hP hD hS (lv_sub hl [2, 3, 4, 5, 6] rfl)

set_option maxHeartbeats 4000000 in
set_option maxRecDepth 100000 in
theorem br_sent {p : Program} {e : Env} {s : State} {m : MethodId} {below : List Frame} {meth : Method} {c : Code} {b L : Nat} {xs : Nat → Int32} {D : va_G} {ou : Nat × (Nat → Nat)} {oo : Nat} {lc : ClassId} {E : cE} {x y : T2} {f : Nat → Int64} {cells slots : Nat} {ls : Array Slot} {H : Heap} {locs : List Loc} {S : Type} {post : Int32 → S → Prop} {wf : S → va_W} {pm : Int32 → T2 → Prop} (l : Launch) (hL : L ≤ 2048) (C0 : lw_At p s m meth c b L xs) (hN : jNc s) (hKX : lwKX D lc s E) {i : Nat} (hi : i + 4 ≤ L) (hcl : cells + 1 ≤ 601024) (hsl : slots + 10 ≤ 7293034) {mc ms : Nat} (hmc : mc ≤ 1) (hms : ms ≤ 10) {rmm : Room} (hr1 : rmm.cells = 0) (hr2 : rmm.slots = 0) (hr3 : rmm.frames ≤ 3) (hr4 : rmm.locals ≤ 71) {a1 : Int32} (ha1 : xs (i + 1) = a1) {a2 : Int32} (ha2 : xs (i + 2) = a2) (hJ : jI l yL_sent wsL_sent ({ frames := 8, cells := mc, slots := ms, locals := 170 } : Room) D E [(lc, .long)] ([(oo, oC lc f)] ++ cW E x) [.ref (eO E), .int a1, .int a2, .ref oo] post wf mc ms) (hmap : ∀ r u, post r u → ∃ new : List Nat, (wf u).map Prod.fst = ([(oo, oC lc f)] ++ cW E x).map Prod.fst ++ new ∧ new.length ≤ 1) (hM : gI l yX3_sent wsX3_sent rmm D (mT (ou, (eI E, eZ E)) (lwT E lc)) (mW (ou, (eI E, eZ E)) y) [.ref ou.1, .int a1, .int a2] pm (mW (ou, (eI E, eZ E))) 0 0) (hfin : ∀ (k : Int32) (u : S) (r : Int32) (y1 : T2), post k u → pm r y1 → ∃ (E1 : cE) (x1 : T2) (f1 : Nat → Int64) (q1 : Nat → List Nat) (m1 : Nat), wf u = [(oo, oC lc f1)] ++ cW E1 x1 ∧ eI E1 = eI E ∧ eZ E1 = eZ E ∧ lwKX D lc s E1 ∧ eO E1 = eO E ∧ rI E1 x1 y1 q1 m1 ∧ y1 18 0 = k ∧ (k = nI 0 → f1 0 = r.toInt64)) (hn : lwN p l e s m b below meth c D ou oo lc (eO E) (nI i) cells slots) (hP : va_P D vwCl (lwG ou E y oo lc f x) H) (hD : va_D (fun q : Nat => s.heap.size ≤ q) (lwG ou E y oo lc f x)) (hS : va_S (fun q : Nat => s.heap.size ≤ q) s.heap H locs) (hl : lv_has ls 7 [(0, .ref b), (1, .ref (eO E)), (2, .ref ou.1), (3, .ref oo), (4, .int (nI i))]) : W p l e room_1 s m #[Value.ref b] below meth c H locs cells slots (lw_Z below #[Value.ref b] s) (F0 m 1180 ls []) := by
  obtain ⟨hx, hb, hr, hml, hown, hts0, hX, hbl, hlocks, hgv⟩ := C0
  have hown : s.vm.findClass RL = some m.cls := hown
  have hts : ∀ w ∈ wsL_law, w.before #[Value.ref b] s = true := fun w h => hts0 w (wsL_law_in w h)
  have hA : ∀ q : Nat, s.heap.size ≤ q → (fun q : Nat => s.heap.size ≤ q) q := fun _ h => h
  have hbA : ¬ (fun q : Nat => s.heap.size ≤ q) b := Nat.not_le.mpr hbl
  unfold lwN at hn
  subst ha1
  subst ha2
  refine lv_aload_n hx hb dL_law_1180 rfl (lv_at hl 1 rfl) ?_
  refine lv_aload_n hx hb dL_law_1181 rfl (lv_at hl 0 rfl) ?_
  refine lv_iload hx hb dL_law_1182 (lv_at hl 4 rfl) ?_
  refine lv_iconst (v := nI 1) hx hb dL_law_1184 (by decide) ?_
  refine q_add hx hb dL_law_1185 ?_
  refine w_sld hx hb hX hbl hbA hS (by omega) hL dL_law_1186 ?_
  refine lv_aload_n hx hb dL_law_1187 rfl (lv_at hl 0 rfl) ?_
  refine lv_iload hx hb dL_law_1188 (lv_at hl 4 rfl) ?_
  refine lv_iconst (v := nI 2) hx hb dL_law_1190 (by decide) ?_
  refine q_add hx hb dL_law_1191 ?_
  refine w_sld hx hb hX hbl hbA hS (by omega) hL dL_law_1192 ?_
  refine lv_aload_n hx hb dL_law_1193 rfl (lv_at hl 3 rfl) ?_
  refine w_calls (pre := mW (ou, (eI E, eZ E)) y) (w1 := [(oo, oC lc f)] ++ cW E x) (As := [.ref (eO E), .int (xs (i + 1)), .int (xs (i + 2)), .ref oo]) (rest := []) ⟨hx, hb, hml, hown, hts⟩ hJ (vx_cwSW 4 hts gL_law_L_sent rfl rfl rfl (by decide +kernel) ⟨Nat.le_of_ble_eq_true rfl, Nat.le_of_ble_eq_true rfl⟩) hKX.1 hKX.2 hN hP hD hS hA hmap rfl hl.1 rfl (Nat.le_of_ble_eq_true rfl) dL_law_1194 ⟨by show cells + mc ≤ 601024; omega, by show slots + ms ≤ 7293034; omega⟩ (fun k u H locs hw hP hD hS => ?_)
  refine lv_istore (lv' := [(5, .int k), (0, .ref b), (1, .ref (eO E)), (2, .ref ou.1), (3, .ref oo), (4, .int (nI i))]) hx hb dL_law_1197 hl (by decide) rfl (fun ls hl => ?_)
  refine lv_aload_n hx hb dL_law_1199 rfl (lv_at hl 3 rfl) ?_
  refine lv_aload_n hx hb dL_law_1200 rfl (lv_at hl 1 rfl) ?_
  refine lv_iload hx hb dL_law_1201 (lv_at hl 5 rfl) ?_
  refine lv_iconst (v := nI 1) hx hb dL_law_1203 (by decide) ?_
  refine q_add hx hb dL_law_1204 ?_
  refine w_sld hx hb hX hbl hbA hS (by omega) hL dL_law_1205 ?_
  refine lv_aload_n hx hb dL_law_1206 rfl (lv_at hl 1 rfl) ?_
  refine lv_iload hx hb dL_law_1207 (lv_at hl 5 rfl) ?_
  refine lv_iconst (v := nI 2) hx hb dL_law_1209 (by decide) ?_
  refine q_add hx hb dL_law_1210 ?_
  refine w_sld hx hb hX hbl hbA hS (by omega) hL dL_law_1211 ?_
  refine w_calli (w1 := mW (ou, (eI E, eZ E)) y) (sfx := wf u) (As := [.int (xs (i + 1)), .int (xs (i + 2))]) (rest := []) ⟨hx, hb, hml, hown, hts⟩ hM (cwV 2 hts gL_law_X3_sent rfl hr1 hr2 (by decide +kernel) ⟨by have := hr3; show rmm.frames + 1 ≤ 11; omega, by have := hr4; show 8 + (3 + 11) + rmm.locals ≤ 406; omega⟩) (va_recv hKX.1 hP (ci := 4) (q0 := 0) rfl rfl) hKX.1 hP hD hS hA (fun _ _ _ => rfl) rfl hl.1 rfl (Nat.le_of_ble_eq_true rfl) dL_law_1212 ⟨by show cells + mc + 0 ≤ 601024; omega, by show slots + ms + 0 ≤ 7293034; omega⟩ (fun r y1 H locs hw2 hP hD hS => ?_)
  obtain ⟨E1, x1, f1, q1, m1, hwf, hI, hZ, hKX1, hO, hR, h18, hout⟩ := hfin k u r y1 hw hw2
  rw [hwf, ← hI, ← hZ] at hP hD
  refine lv_istore (lv' := [(6, .int r), (5, .int k), (0, .ref b), (1, .ref (eO E)), (2, .ref ou.1), (3, .ref oo), (4, .int (nI i))]) hx hb dL_law_1215 hl (by decide) rfl (fun ls hl => ?_)
  refine lv_aload_n hx hb dL_law_1217 rfl (lv_at hl 4 rfl) ?_
  refine w_calli (w1 := mW (ou, (eI E1, eZ E1)) y1) (sfx := [(oo, oC lc f1)] ++ cW E1 x1) (As := []) (rest := []) ⟨hx, hb, hml, hown, hts⟩ (c_X3_thrown l D (ou, (eI E1, eZ E1)) (lwT E1 lc) y1) (cwV 0 hts gL_law_X3_thrown rfl rfl rfl (by decide +kernel) ⟨Nat.le_of_ble_eq_true rfl, Nat.le_of_ble_eq_true rfl⟩) (va_recv hKX1.1 hP (ci := 4) (q0 := 0) rfl rfl) hKX1.1 hP hD hS hA (fun _ _ _ => rfl) rfl hl.1 rfl (Nat.le_of_ble_eq_true rfl) dL_law_1218 ⟨by show cells + mc + 0 + 0 ≤ 601024; omega, by show slots + ms + 0 + 0 ≤ 7293034; omega⟩ (fun t y2 H locs hw3 hP hD hS => ?_)
  obtain ⟨hw4, hw5⟩ := hw3
  rw [hw5] at hP hD
  refine lv_iload hx hb dL_law_1221 (lv_at hl 1 rfl) ?_
  refine lv_icmp_eq (tgt := 1228) hx hb dL_law_1223 (by decide) (fun _ => ?_) (fun c1 => absurd (hw4.trans h18) c1)
  refine lv_iload hx hb dL_law_1228 (lv_at hl 1 rfl) ?_
  refine lv_if_ne (tgt := 1245) hx hb dL_law_1230 (by decide) (fun _ => ?_) (fun c1 => ?_)
  · refine lv_goto (tgt := 1248) hx hb dL_law_1245 (by decide) ?_
    refine W.widen (k := cells + 1) (n := slots + 10) (by omega) (by omega) ?_
    exact hn E1 x1 y1 q1 m1 f1 _ _ _ hKX1 hO hR hP hD hS (lv_sub hl [2, 3, 4, 5, 6] rfl)
  · refine lv_aload_n hx hb dL_law_1233 rfl (lv_at hl 5 rfl) ?_
    refine lv_iconst (v := nI 0) hx hb dL_law_1234 (by decide) ?_
    refine w_lald (tys := cT E1 [(lc, .long)]) hx hb hKX1.1 hP 18 5 rfl rfl (hout c1) dL_law_1235 ?_
    refine lv_iload hx hb dL_law_1236 (lv_at hl 0 rfl) ?_
    refine lv_i2l (v := r.toInt64) hx hb dL_law_1238 rfl ?_
    refine w_lcmp hx hb rfl dL_law_1239 ?_
    refine lv_if_eq (tgt := 1245) hx hb dL_law_1240 (by decide) (fun _ => ?_) (fun c2 => absurd rfl c2)
    refine lv_goto (tgt := 1248) hx hb dL_law_1245 (by decide) ?_
    refine W.widen (k := cells + 1) (n := slots + 10) (by omega) (by omega) ?_
    exact hn E1 x1 y1 q1 m1 f1 _ _ _ hKX1 hO hR hP hD hS (lv_sub hl [2, 3, 4, 5, 6] rfl)

set_option maxHeartbeats 4000000 in
set_option maxRecDepth 100000 in
theorem br_minute {p : Program} {e : Env} {s : State} {m : MethodId} {below : List Frame} {meth : Method} {c : Code} {b L : Nat} {xs : Nat → Int32} {D : va_G} {ou : Nat × (Nat → Nat)} {oo : Nat} {lc : ClassId} {E : cE} {x y : T2} {f : Nat → Int64} {cells slots : Nat} {ls : Array Slot} {H : Heap} {locs : List Loc} (l : Launch) (hL : L ≤ 2048) (C0 : lw_At p s m meth c b L xs) (hN : jNc s) (hKX : lwKX D lc s E) {i : Nat} (hi : i + 4 ≤ L) (hcl : cells + 1 ≤ 601024) (hsl : slots + 10 ≤ 7293034) (hR : ∀ y1, y1 = up2 y 18 0 (nI 0) → x 0 0 = y 0 0 ∧ ∃ q1 m1, rI E x y1 q1 m1) (hn : lwN p l e s m b below meth c D ou oo lc (eO E) (nI i) cells slots) (hP : va_P D vwCl (lwG ou E y oo lc f x) H) (hD : va_D (fun q : Nat => s.heap.size ≤ q) (lwG ou E y oo lc f x)) (hS : va_S (fun q : Nat => s.heap.size ≤ q) s.heap H locs) (hl : lv_has ls 7 [(0, .ref b), (1, .ref (eO E)), (2, .ref ou.1), (3, .ref oo), (4, .int (nI i))]) : W p l e room_1 s m #[Value.ref b] below meth c H locs cells slots (lw_Z below #[Value.ref b] s) (F0 m 663 ls []) := by
  obtain ⟨hx, hb, hr, hml, hown, hts0, hX, hbl, hlocks, hgv⟩ := C0
  have hown : s.vm.findClass RL = some m.cls := hown
  have hts : ∀ w ∈ wsL_law, w.before #[Value.ref b] s = true := fun w h => hts0 w (wsL_law_in w h)
  have hA : ∀ q : Nat, s.heap.size ≤ q → (fun q : Nat => s.heap.size ≤ q) q := fun _ h => h
  have hbA : ¬ (fun q : Nat => s.heap.size ≤ q) b := Nat.not_le.mpr hbl
  unfold lwN at hn
  refine lv_aload_n hx hb dL_law_663 rfl (lv_at hl 1 rfl) ?_
  rw [show lwG ou E y oo lc f x = (mW (ou, (eI E, eZ E)) y ++ [(oo, oC lc f)]) ++ cW E x from (List.append_assoc _ _ _).symm] at hP hD
  refine j_calli (pre := mW (ou, (eI E, eZ E)) y ++ [(oo, oC lc f)]) (w1 := cW E x) (As := []) (rest := []) ⟨hx, hb, hml, hown, hts⟩ (c_X2_minute l D E [(lc, .long)] x) (cwV 0 hts gL_law_X2_minute rfl rfl rfl (by decide +kernel) ⟨Nat.le_of_ble_eq_true rfl, Nat.le_of_ble_eq_true rfl⟩) (va_recv hKX.1 hP (ci := 3) (q0 := 19) rfl rfl) hKX.1 hKX.2 hP hD hS hA (fun r u h => ⟨[], by rw [h.2, List.append_nil], Nat.zero_le _⟩) rfl hl.1 rfl (Nat.le_of_ble_eq_true rfl) dL_law_664 ⟨by show cells + 0 ≤ 601024; omega, by show slots + 0 ≤ 7293034; omega⟩ (fun r u H locs hw hP hD hS => ?_)
  obtain ⟨hw1, hw2⟩ := hw
  rw [hw2, List.append_assoc] at hP hD
  refine lv_aload_n hx hb dL_law_667 rfl (lv_at hl 2 rfl) ?_
  refine w_calli (w1 := mW (ou, (eI E, eZ E)) y) (sfx := [(oo, oC lc f)] ++ cW E x) (As := []) (rest := [.int r]) ⟨hx, hb, hml, hown, hts⟩ (c_X3_minute l D (ou, (eI E, eZ E)) (lwT E lc) y) (cwV 0 hts gL_law_X3_minute rfl rfl rfl (by decide +kernel) ⟨Nat.le_of_ble_eq_true rfl, Nat.le_of_ble_eq_true rfl⟩) (va_recv hKX.1 hP (ci := 4) (q0 := 0) rfl rfl) hKX.1 hP hD hS hA (fun _ _ _ => rfl) rfl hl.1 rfl (Nat.le_of_ble_eq_true rfl) dL_law_668 ⟨by show cells + 0 + 0 ≤ 601024; omega, by show slots + 0 + 0 ≤ 7293034; omega⟩ (fun t y1 H locs hw3 hP hD hS => ?_)
  obtain ⟨hw4, hw5⟩ := hw3
  obtain ⟨e0, q1, m1, hR1⟩ := hR y1 hw5
  refine lv_icmp_eq (tgt := 1248) hx hb dL_law_671 (by decide) (fun _ => ?_) (fun c1 => absurd (hw1.trans (e0.trans hw4.symm)) c1)
  refine W.widen (k := cells + 1) (n := slots + 10) (by omega) (by omega) ?_
  exact hn E x y1 q1 m1 f _ _ _ hKX rfl hR1 hP hD hS hl
