set_option maxHeartbeats 4000000 in
set_option maxRecDepth 100000 in
theorem br_setPavilion {p : Program} {e : Env} {s : State} {m : MethodId} {below : List Frame} {meth : Method} {c : Code} {b L : Nat} {xs : Nat → Int32} {D : va_G} {ou : Nat × (Nat → Nat)} {oo : Nat} {lc : ClassId} {E : cE} {x y : T2} {f : Nat → Int64} {cells slots : Nat} {ls : Array Slot} {H : Heap} {locs : List Loc} {S : Type} {post : Int32 → S → Prop} {wf : S → va_W} {pm : T2 → Prop} (l : Launch) (hL : L ≤ 2048) (C0 : lw_At p s m meth c b L xs) (hN : jNc s) (hKX : lwKX D lc s E) {i : Nat} (hi : i + 4 ≤ L) (hcl : cells + 1 ≤ 601024) (hsl : slots + 10 ≤ 7293034) {mc ms : Nat} (hmc : mc ≤ 1) (hms : ms ≤ 10) {rmm : Room} (hr1 : rmm.cells = 0) (hr2 : rmm.slots = 0) (hr3 : rmm.frames ≤ 3) (hr4 : rmm.locals ≤ 71) {a1 : Int32} (ha1 : xs (i + 1) = a1) {a2 : Int32} (ha2 : xs (i + 2) = a2) {a3 : Int32} (ha3 : xs (i + 3) = a3) (hJ : jI l yL_setPavilion wsL_setPavilion ({ frames := 8, cells := mc, slots := ms, locals := 170 } : Room) D E [(lc, .long)] ([(oo, oC lc f)] ++ cW E x) [.ref (eO E), .int a1, .int a2, .int a3] post wf mc ms) (hmap : ∀ r u, post r u → ∃ new : List Nat, (wf u).map Prod.fst = ([(oo, oC lc f)] ++ cW E x).map Prod.fst ++ new ∧ new.length ≤ 1) (hM : gV l yX3_setPavilion wsX3_setPavilion rmm D (mT (ou, (eI E, eZ E)) (lwT E lc)) (mW (ou, (eI E, eZ E)) y) [.ref ou.1, .int a1, .int a2, .int a3] pm (mW (ou, (eI E, eZ E))) 0 0) (hfin : ∀ (k : Int32) (u : S) (y1 : T2), post k u → pm y1 → ∃ (E1 : cE) (x1 : T2) (f1 : Nat → Int64) (q1 : Nat → List Nat) (m1 : Nat), wf u = [(oo, oC lc f1)] ++ cW E1 x1 ∧ eI E1 = eI E ∧ eZ E1 = eZ E ∧ lwKX D lc s E1 ∧ eO E1 = eO E ∧ rI E1 x1 y1 q1 m1 ∧ y1 18 0 = k ∧ True) (hn : lwN p l e s m b below meth c D ou oo lc (eO E) (nI i) cells slots) (hP : va_P D vwCl (lwG ou E y oo lc f x) H) (hD : va_D (fun q : Nat => s.heap.size ≤ q) (lwG ou E y oo lc f x)) (hS : va_S (fun q : Nat => s.heap.size ≤ q) s.heap H locs) (hl : lv_has ls 7 [(0, .ref b), (1, .ref (eO E)), (2, .ref ou.1), (3, .ref oo), (4, .int (nI i))]) : W p l e room_1 s m #[Value.ref b] below meth c H locs cells slots (lw_Z below #[Value.ref b] s) (F0 m 128 ls []) := by
  obtain ⟨hx, hb, hr, hml, hown, hts0, hX, hbl, hlocks, hgv⟩ := C0
  have hown : s.vm.findClass RL = some m.cls := hown
  have hts : ∀ w ∈ wsL_law, w.before #[Value.ref b] s = true := fun w h => hts0 w (wsL_law_in w h)
  have hA : ∀ q : Nat, s.heap.size ≤ q → (fun q : Nat => s.heap.size ≤ q) q := fun _ h => h
  have hbA : ¬ (fun q : Nat => s.heap.size ≤ q) b := Nat.not_le.mpr hbl
  unfold lwN at hn
  subst ha1
  subst ha2
  subst ha3
  refine lv_aload_n hx hb dL_law_128 rfl (lv_at hl 1 rfl) ?_
  refine lv_aload_n hx hb dL_law_129 rfl (lv_at hl 0 rfl) ?_
  refine lv_iload hx hb dL_law_130 (lv_at hl 4 rfl) ?_
  refine lv_iconst (v := nI 1) hx hb dL_law_132 (by decide) ?_
  refine q_add hx hb dL_law_133 ?_
  refine w_sld hx hb hX hbl hbA hS (by omega) hL dL_law_134 ?_
  refine lv_aload_n hx hb dL_law_135 rfl (lv_at hl 0 rfl) ?_
  refine lv_iload hx hb dL_law_136 (lv_at hl 4 rfl) ?_
  refine lv_iconst (v := nI 2) hx hb dL_law_138 (by decide) ?_
  refine q_add hx hb dL_law_139 ?_
  refine w_sld hx hb hX hbl hbA hS (by omega) hL dL_law_140 ?_
  refine lv_aload_n hx hb dL_law_141 rfl (lv_at hl 0 rfl) ?_
  refine lv_iload hx hb dL_law_142 (lv_at hl 4 rfl) ?_
  refine lv_iconst (v := nI 3) hx hb dL_law_144 (by decide) ?_
  refine q_add hx hb dL_law_145 ?_
  refine w_sld hx hb hX hbl hbA hS (by omega) hL dL_law_146 ?_
  refine w_calls (pre := mW (ou, (eI E, eZ E)) y) (w1 := [(oo, oC lc f)] ++ cW E x) (As := [.ref (eO E), .int (xs (i + 1)), .int (xs (i + 2)), .int (xs (i + 3))]) (rest := []) ⟨hx, hb, hml, hown, hts⟩ hJ (vx_cwSW 4 hts gL_law_L_setPavilion rfl rfl rfl (by decide +kernel) ⟨Nat.le_of_ble_eq_true rfl, Nat.le_of_ble_eq_true rfl⟩) hKX.1 hKX.2 hN hP hD hS hA hmap rfl hl.1 rfl (Nat.le_of_ble_eq_true rfl) dL_law_147 ⟨by show cells + mc ≤ 601024; omega, by show slots + ms ≤ 7293034; omega⟩ (fun k u H locs hw hP hD hS => ?_)
  refine lv_istore (lv' := [(5, .int k), (0, .ref b), (1, .ref (eO E)), (2, .ref ou.1), (3, .ref oo), (4, .int (nI i))]) hx hb dL_law_150 hl (by decide) rfl (fun ls hl => ?_)
  refine lv_aload_n hx hb dL_law_152 rfl (lv_at hl 3 rfl) ?_
  refine lv_aload_n hx hb dL_law_153 rfl (lv_at hl 1 rfl) ?_
  refine lv_iload hx hb dL_law_154 (lv_at hl 5 rfl) ?_
  refine lv_iconst (v := nI 1) hx hb dL_law_156 (by decide) ?_
  refine q_add hx hb dL_law_157 ?_
  refine w_sld hx hb hX hbl hbA hS (by omega) hL dL_law_158 ?_
  refine lv_aload_n hx hb dL_law_159 rfl (lv_at hl 1 rfl) ?_
  refine lv_iload hx hb dL_law_160 (lv_at hl 5 rfl) ?_
  refine lv_iconst (v := nI 2) hx hb dL_law_162 (by decide) ?_
  refine q_add hx hb dL_law_163 ?_
  refine w_sld hx hb hX hbl hbA hS (by omega) hL dL_law_164 ?_
  refine lv_aload_n hx hb dL_law_165 rfl (lv_at hl 1 rfl) ?_
  refine lv_iload hx hb dL_law_166 (lv_at hl 5 rfl) ?_
  refine lv_iconst (v := nI 3) hx hb dL_law_168 (by decide) ?_
  refine q_add hx hb dL_law_169 ?_
  refine w_sld hx hb hX hbl hbA hS (by omega) hL dL_law_170 ?_
  refine w_callv (w1 := mW (ou, (eI E, eZ E)) y) (sfx := wf u) (As := [.int (xs (i + 1)), .int (xs (i + 2)), .int (xs (i + 3))]) (rest := []) ⟨hx, hb, hml, hown, hts⟩ hM (cwV 3 hts gL_law_X3_setPavilion rfl hr1 hr2 (by decide +kernel) ⟨by have := hr3; show rmm.frames + 1 ≤ 11; omega, by have := hr4; show 8 + (4 + 11) + rmm.locals ≤ 406; omega⟩) (va_recv hKX.1 hP (ci := 4) (q0 := 0) rfl rfl) hKX.1 hP hD hS hA (fun _ _ => rfl) rfl hl.1 rfl (Nat.le_of_ble_eq_true rfl) dL_law_171 ⟨by show cells + mc + 0 ≤ 601024; omega, by show slots + ms + 0 ≤ 7293034; omega⟩ (fun y1 H locs hw2 hP hD hS => ?_)
  obtain ⟨E1, x1, f1, q1, m1, hwf, hI, hZ, hKX1, hO, hR, h18, hout⟩ := hfin k u y1 hw hw2
  rw [hwf, ← hI, ← hZ] at hP hD
  refine lv_aload_n hx hb dL_law_174 rfl (lv_at hl 3 rfl) ?_
  refine w_calli (w1 := mW (ou, (eI E1, eZ E1)) y1) (sfx := [(oo, oC lc f1)] ++ cW E1 x1) (As := []) (rest := []) ⟨hx, hb, hml, hown, hts⟩ (c_X3_thrown l D (ou, (eI E1, eZ E1)) (lwT E1 lc) y1) (cwV 0 hts gL_law_X3_thrown rfl rfl rfl (by decide +kernel) ⟨Nat.le_of_ble_eq_true rfl, Nat.le_of_ble_eq_true rfl⟩) (va_recv hKX1.1 hP (ci := 4) (q0 := 0) rfl rfl) hKX1.1 hP hD hS hA (fun _ _ _ => rfl) rfl hl.1 rfl (Nat.le_of_ble_eq_true rfl) dL_law_175 ⟨by show cells + mc + 0 + 0 ≤ 601024; omega, by show slots + ms + 0 + 0 ≤ 7293034; omega⟩ (fun t y2 H locs hw3 hP hD hS => ?_)
  obtain ⟨hw4, hw5⟩ := hw3
  rw [hw5] at hP hD
  refine lv_iload hx hb dL_law_178 (lv_at hl 0 rfl) ?_
  refine lv_icmp_eq (tgt := 185) hx hb dL_law_180 (by decide) (fun _ => ?_) (fun c1 => absurd (hw4.trans h18) c1)
  refine lv_goto (tgt := 1248) hx hb dL_law_185 (by decide) ?_
  refine W.widen (k := cells + 1) (n := slots + 10) (by omega) (by omega) ?_
  exact hn E1 x1 y1 q1 m1 f1 _ _ _ hKX1 hO hR hP hD hS (lv_sub hl [1, 2, 3, 4, 5] rfl)

set_option maxHeartbeats 4000000 in
set_option maxRecDepth 100000 in
theorem br_open {p : Program} {e : Env} {s : State} {m : MethodId} {below : List Frame} {meth : Method} {c : Code} {b L : Nat} {xs : Nat → Int32} {D : va_G} {ou : Nat × (Nat → Nat)} {oo : Nat} {lc : ClassId} {E : cE} {x y : T2} {f : Nat → Int64} {cells slots : Nat} {ls : Array Slot} {H : Heap} {locs : List Loc} {S : Type} {post : Int32 → S → Prop} {wf : S → va_W} {pm : Int32 → T2 → Prop} (l : Launch) (hL : L ≤ 2048) (C0 : lw_At p s m meth c b L xs) (hN : jNc s) (hKX : lwKX D lc s E) {i : Nat} (hi : i + 4 ≤ L) (hcl : cells + 1 ≤ 601024) (hsl : slots + 10 ≤ 7293034) {mc ms : Nat} (hmc : mc ≤ 1) (hms : ms ≤ 10) {rmm : Room} (hr1 : rmm.cells = 0) (hr2 : rmm.slots = 0) (hr3 : rmm.frames ≤ 3) (hr4 : rmm.locals ≤ 71) {a1 : Int32} (ha1 : xs (i + 1) = a1) {ob : Nat} (hob : (xs (i + 2) = 0 ∧ ob = 0) ∨ (¬ xs (i + 2) = 0 ∧ ob = 1)) (hJ : jI l yL_open wsL_open ({ frames := 8, cells := mc, slots := ms, locals := 170 } : Room) D E [(lc, .long)] ([(oo, oC lc f)] ++ cW E x) [.ref (eO E), .int a1, .int (nI ob), .ref oo] post wf mc ms) (hmap : ∀ r u, post r u → ∃ new : List Nat, (wf u).map Prod.fst = ([(oo, oC lc f)] ++ cW E x).map Prod.fst ++ new ∧ new.length ≤ 1) (hM : gI l yX3_open wsX3_open rmm D (mT (ou, (eI E, eZ E)) (lwT E lc)) (mW (ou, (eI E, eZ E)) y) [.ref ou.1, .int a1, .int (nI ob)] pm (mW (ou, (eI E, eZ E))) 0 0) (hfin : ∀ (k : Int32) (u : S) (r : Int32) (y1 : T2), post k u → pm r y1 → ∃ (E1 : cE) (x1 : T2) (f1 : Nat → Int64) (q1 : Nat → List Nat) (m1 : Nat), wf u = [(oo, oC lc f1)] ++ cW E1 x1 ∧ eI E1 = eI E ∧ eZ E1 = eZ E ∧ lwKX D lc s E1 ∧ eO E1 = eO E ∧ rI E1 x1 y1 q1 m1 ∧ y1 18 0 = k ∧ (k = nI 0 → f1 0 = r.toInt64)) (hn : lwN p l e s m b below meth c D ou oo lc (eO E) (nI i) cells slots) (hP : va_P D vwCl (lwG ou E y oo lc f x) H) (hD : va_D (fun q : Nat => s.heap.size ≤ q) (lwG ou E y oo lc f x)) (hS : va_S (fun q : Nat => s.heap.size ≤ q) s.heap H locs) (hl : lv_has ls 7 [(0, .ref b), (1, .ref (eO E)), (2, .ref ou.1), (3, .ref oo), (4, .int (nI i))]) : W p l e room_1 s m #[Value.ref b] below meth c H locs cells slots (lw_Z below #[Value.ref b] s) (F0 m 188 ls []) := by
  obtain ⟨hx, hb, hr, hml, hown, hts0, hX, hbl, hlocks, hgv⟩ := C0
  have hown : s.vm.findClass RL = some m.cls := hown
  have hts : ∀ w ∈ wsL_law, w.before #[Value.ref b] s = true := fun w h => hts0 w (wsL_law_in w h)
  have hA : ∀ q : Nat, s.heap.size ≤ q → (fun q : Nat => s.heap.size ≤ q) q := fun _ h => h
  have hbA : ¬ (fun q : Nat => s.heap.size ≤ q) b := Nat.not_le.mpr hbl
  unfold lwN at hn
  subst ha1
  rcases hob with ⟨ho, ho1⟩ | ⟨ho, ho1⟩
  · subst ho1
    refine lv_aload_n hx hb dL_law_188 rfl (lv_at hl 1 rfl) ?_
    refine lv_aload_n hx hb dL_law_189 rfl (lv_at hl 0 rfl) ?_
    refine lv_iload hx hb dL_law_190 (lv_at hl 4 rfl) ?_
    refine lv_iconst (v := nI 1) hx hb dL_law_192 (by decide) ?_
    refine q_add hx hb dL_law_193 ?_
    refine w_sld hx hb hX hbl hbA hS (by omega) hL dL_law_194 ?_
    refine lv_aload_n hx hb dL_law_195 rfl (lv_at hl 0 rfl) ?_
    refine lv_iload hx hb dL_law_196 (lv_at hl 4 rfl) ?_
    refine lv_iconst (v := nI 2) hx hb dL_law_198 (by decide) ?_
    refine q_add hx hb dL_law_199 ?_
    refine w_sld hx hb hX hbl hbA hS (by omega) hL dL_law_200 ?_
    refine lv_if_eq (tgt := 208) hx hb dL_law_201 (by decide) (fun _ => ?_) (fun c2 => absurd ho c2)
    refine lv_iconst (v := nI 0) hx hb dL_law_208 (by decide) ?_
    refine lv_aload_n hx hb dL_law_209 rfl (lv_at hl 3 rfl) ?_
    refine w_calls (pre := mW (ou, (eI E, eZ E)) y) (w1 := [(oo, oC lc f)] ++ cW E x) (As := [.ref (eO E), .int (xs (i + 1)), .int (nI 0), .ref oo]) (rest := []) ⟨hx, hb, hml, hown, hts⟩ hJ (vx_cwSW 4 hts gL_law_L_open rfl rfl rfl (by decide +kernel) ⟨Nat.le_of_ble_eq_true rfl, Nat.le_of_ble_eq_true rfl⟩) hKX.1 hKX.2 hN hP hD hS hA hmap rfl hl.1 rfl (Nat.le_of_ble_eq_true rfl) dL_law_210 ⟨by show cells + mc ≤ 601024; omega, by show slots + ms ≤ 7293034; omega⟩ (fun k u H locs hw hP hD hS => ?_)
    refine lv_istore (lv' := [(5, .int k), (0, .ref b), (1, .ref (eO E)), (2, .ref ou.1), (3, .ref oo), (4, .int (nI i))]) hx hb dL_law_213 hl (by decide) rfl (fun ls hl => ?_)
    refine lv_aload_n hx hb dL_law_215 rfl (lv_at hl 3 rfl) ?_
    refine lv_aload_n hx hb dL_law_216 rfl (lv_at hl 1 rfl) ?_
    refine lv_iload hx hb dL_law_217 (lv_at hl 5 rfl) ?_
    refine lv_iconst (v := nI 1) hx hb dL_law_219 (by decide) ?_
    refine q_add hx hb dL_law_220 ?_
    refine w_sld hx hb hX hbl hbA hS (by omega) hL dL_law_221 ?_
    refine lv_aload_n hx hb dL_law_222 rfl (lv_at hl 1 rfl) ?_
    refine lv_iload hx hb dL_law_223 (lv_at hl 5 rfl) ?_
    refine lv_iconst (v := nI 2) hx hb dL_law_225 (by decide) ?_
    refine q_add hx hb dL_law_226 ?_
    refine w_sld hx hb hX hbl hbA hS (by omega) hL dL_law_227 ?_
    refine lv_if_eq (tgt := 235) hx hb dL_law_228 (by decide) (fun _ => ?_) (fun c2 => absurd ho c2)
    refine lv_iconst (v := nI 0) hx hb dL_law_235 (by decide) ?_
    refine w_calli (w1 := mW (ou, (eI E, eZ E)) y) (sfx := wf u) (As := [.int (xs (i + 1)), .int (nI 0)]) (rest := []) ⟨hx, hb, hml, hown, hts⟩ hM (cwV 2 hts gL_law_X3_open rfl hr1 hr2 (by decide +kernel) ⟨by have := hr3; show rmm.frames + 1 ≤ 11; omega, by have := hr4; show 8 + (5 + 11) + rmm.locals ≤ 406; omega⟩) (va_recv hKX.1 hP (ci := 4) (q0 := 0) rfl rfl) hKX.1 hP hD hS hA (fun _ _ _ => rfl) rfl hl.1 rfl (Nat.le_of_ble_eq_true rfl) dL_law_236 ⟨by show cells + mc + 0 ≤ 601024; omega, by show slots + ms + 0 ≤ 7293034; omega⟩ (fun r y1 H locs hw2 hP hD hS => ?_)
    obtain ⟨E1, x1, f1, q1, m1, hwf, hI, hZ, hKX1, hO, hR, h18, hout⟩ := hfin k u r y1 hw hw2
    rw [hwf, ← hI, ← hZ] at hP hD
    refine lv_istore (lv' := [(6, .int r), (5, .int k), (0, .ref b), (1, .ref (eO E)), (2, .ref ou.1), (3, .ref oo), (4, .int (nI i))]) hx hb dL_law_239 hl (by decide) rfl (fun ls hl => ?_)
    refine lv_aload_n hx hb dL_law_241 rfl (lv_at hl 4 rfl) ?_
    refine w_calli (w1 := mW (ou, (eI E1, eZ E1)) y1) (sfx := [(oo, oC lc f1)] ++ cW E1 x1) (As := []) (rest := []) ⟨hx, hb, hml, hown, hts⟩ (c_X3_thrown l D (ou, (eI E1, eZ E1)) (lwT E1 lc) y1) (cwV 0 hts gL_law_X3_thrown rfl rfl rfl (by decide +kernel) ⟨Nat.le_of_ble_eq_true rfl, Nat.le_of_ble_eq_true rfl⟩) (va_recv hKX1.1 hP (ci := 4) (q0 := 0) rfl rfl) hKX1.1 hP hD hS hA (fun _ _ _ => rfl) rfl hl.1 rfl (Nat.le_of_ble_eq_true rfl) dL_law_242 ⟨by show cells + mc + 0 + 0 ≤ 601024; omega, by show slots + ms + 0 + 0 ≤ 7293034; omega⟩ (fun t y2 H locs hw3 hP hD hS => ?_)
    obtain ⟨hw4, hw5⟩ := hw3
    rw [hw5] at hP hD
    refine lv_iload hx hb dL_law_245 (lv_at hl 1 rfl) ?_
    refine lv_icmp_eq (tgt := 252) hx hb dL_law_247 (by decide) (fun _ => ?_) (fun c1 => absurd (hw4.trans h18) c1)
    refine lv_iload hx hb dL_law_252 (lv_at hl 1 rfl) ?_
    refine lv_if_ne (tgt := 269) hx hb dL_law_254 (by decide) (fun _ => ?_) (fun c1 => ?_)
    · refine lv_goto (tgt := 1248) hx hb dL_law_269 (by decide) ?_
      refine W.widen (k := cells + 1) (n := slots + 10) (by omega) (by omega) ?_
      exact hn E1 x1 y1 q1 m1 f1 _ _ _ hKX1 hO hR hP hD hS (lv_sub hl [2, 3, 4, 5, 6] rfl)
    · refine lv_aload_n hx hb dL_law_257 rfl (lv_at hl 5 rfl) ?_
      refine lv_iconst (v := nI 0) hx hb dL_law_258 (by decide) ?_
      refine w_lald (tys := cT E1 [(lc, .long)]) hx hb hKX1.1 hP 18 5 rfl rfl (hout c1) dL_law_259 ?_
      refine lv_iload hx hb dL_law_260 (lv_at hl 0 rfl) ?_
      refine lv_i2l (v := r.toInt64) hx hb dL_law_262 rfl ?_
      refine w_lcmp hx hb rfl dL_law_263 ?_
      refine lv_if_eq (tgt := 269) hx hb dL_law_264 (by decide) (fun _ => ?_) (fun c2 => absurd rfl c2)
      refine lv_goto (tgt := 1248) hx hb dL_law_269 (by decide) ?_
      refine W.widen (k := cells + 1) (n := slots + 10) (by omega) (by omega) ?_
      exact hn E1 x1 y1 q1 m1 f1 _ _ _ hKX1 hO hR hP hD hS (lv_sub hl [2, 3, 4, 5, 6] rfl)
  · subst ho1
    refine lv_aload_n hx hb dL_law_188 rfl (lv_at hl 1 rfl) ?_
    refine lv_aload_n hx hb dL_law_189 rfl (lv_at hl 0 rfl) ?_
    refine lv_iload hx hb dL_law_190 (lv_at hl 4 rfl) ?_
    refine lv_iconst (v := nI 1) hx hb dL_law_192 (by decide) ?_
    refine q_add hx hb dL_law_193 ?_
    refine w_sld hx hb hX hbl hbA hS (by omega) hL dL_law_194 ?_
    refine lv_aload_n hx hb dL_law_195 rfl (lv_at hl 0 rfl) ?_
    refine lv_iload hx hb dL_law_196 (lv_at hl 4 rfl) ?_
    refine lv_iconst (v := nI 2) hx hb dL_law_198 (by decide) ?_
    refine q_add hx hb dL_law_199 ?_
    refine w_sld hx hb hX hbl hbA hS (by omega) hL dL_law_200 ?_
    refine lv_if_eq (tgt := 208) hx hb dL_law_201 (by decide) (fun c2 => absurd c2 ho) (fun _ => ?_)
    refine lv_iconst (v := nI 1) hx hb dL_law_204 (by decide) ?_
    refine lv_goto (tgt := 209) hx hb dL_law_205 (by decide) ?_
    refine lv_aload_n hx hb dL_law_209 rfl (lv_at hl 3 rfl) ?_
    refine w_calls (pre := mW (ou, (eI E, eZ E)) y) (w1 := [(oo, oC lc f)] ++ cW E x) (As := [.ref (eO E), .int (xs (i + 1)), .int (nI 1), .ref oo]) (rest := []) ⟨hx, hb, hml, hown, hts⟩ hJ (vx_cwSW 4 hts gL_law_L_open rfl rfl rfl (by decide +kernel) ⟨Nat.le_of_ble_eq_true rfl, Nat.le_of_ble_eq_true rfl⟩) hKX.1 hKX.2 hN hP hD hS hA hmap rfl hl.1 rfl (Nat.le_of_ble_eq_true rfl) dL_law_210 ⟨by show cells + mc ≤ 601024; omega, by show slots + ms ≤ 7293034; omega⟩ (fun k u H locs hw hP hD hS => ?_)
    refine lv_istore (lv' := [(5, .int k), (0, .ref b), (1, .ref (eO E)), (2, .ref ou.1), (3, .ref oo), (4, .int (nI i))]) hx hb dL_law_213 hl (by decide) rfl (fun ls hl => ?_)
    refine lv_aload_n hx hb dL_law_215 rfl (lv_at hl 3 rfl) ?_
    refine lv_aload_n hx hb dL_law_216 rfl (lv_at hl 1 rfl) ?_
    refine lv_iload hx hb dL_law_217 (lv_at hl 5 rfl) ?_
    refine lv_iconst (v := nI 1) hx hb dL_law_219 (by decide) ?_
    refine q_add hx hb dL_law_220 ?_
    refine w_sld hx hb hX hbl hbA hS (by omega) hL dL_law_221 ?_
    refine lv_aload_n hx hb dL_law_222 rfl (lv_at hl 1 rfl) ?_
    refine lv_iload hx hb dL_law_223 (lv_at hl 5 rfl) ?_
    refine lv_iconst (v := nI 2) hx hb dL_law_225 (by decide) ?_
    refine q_add hx hb dL_law_226 ?_
    refine w_sld hx hb hX hbl hbA hS (by omega) hL dL_law_227 ?_
    refine lv_if_eq (tgt := 235) hx hb dL_law_228 (by decide) (fun c2 => absurd c2 ho) (fun _ => ?_)
    refine lv_iconst (v := nI 1) hx hb dL_law_231 (by decide) ?_
    refine lv_goto (tgt := 236) hx hb dL_law_232 (by decide) ?_
    refine w_calli (w1 := mW (ou, (eI E, eZ E)) y) (sfx := wf u) (As := [.int (xs (i + 1)), .int (nI 1)]) (rest := []) ⟨hx, hb, hml, hown, hts⟩ hM (cwV 2 hts gL_law_X3_open rfl hr1 hr2 (by decide +kernel) ⟨by have := hr3; show rmm.frames + 1 ≤ 11; omega, by have := hr4; show 8 + (5 + 11) + rmm.locals ≤ 406; omega⟩) (va_recv hKX.1 hP (ci := 4) (q0 := 0) rfl rfl) hKX.1 hP hD hS hA (fun _ _ _ => rfl) rfl hl.1 rfl (Nat.le_of_ble_eq_true rfl) dL_law_236 ⟨by show cells + mc + 0 ≤ 601024; omega, by show slots + ms + 0 ≤ 7293034; omega⟩ (fun r y1 H locs hw2 hP hD hS => ?_)
    obtain ⟨E1, x1, f1, q1, m1, hwf, hI, hZ, hKX1, hO, hR, h18, hout⟩ := hfin k u r y1 hw hw2
    rw [hwf, ← hI, ← hZ] at hP hD
    refine lv_istore (lv' := [(6, .int r), (5, .int k), (0, .ref b), (1, .ref (eO E)), (2, .ref ou.1), (3, .ref oo), (4, .int (nI i))]) hx hb dL_law_239 hl (by decide) rfl (fun ls hl => ?_)
    refine lv_aload_n hx hb dL_law_241 rfl (lv_at hl 4 rfl) ?_
    refine w_calli (w1 := mW (ou, (eI E1, eZ E1)) y1) (sfx := [(oo, oC lc f1)] ++ cW E1 x1) (As := []) (rest := []) ⟨hx, hb, hml, hown, hts⟩ (c_X3_thrown l D (ou, (eI E1, eZ E1)) (lwT E1 lc) y1) (cwV 0 hts gL_law_X3_thrown rfl rfl rfl (by decide +kernel) ⟨Nat.le_of_ble_eq_true rfl, Nat.le_of_ble_eq_true rfl⟩) (va_recv hKX1.1 hP (ci := 4) (q0 := 0) rfl rfl) hKX1.1 hP hD hS hA (fun _ _ _ => rfl) rfl hl.1 rfl (Nat.le_of_ble_eq_true rfl) dL_law_242 ⟨by show cells + mc + 0 + 0 ≤ 601024; omega, by show slots + ms + 0 + 0 ≤ 7293034; omega⟩ (fun t y2 H locs hw3 hP hD hS => ?_)
    obtain ⟨hw4, hw5⟩ := hw3
    rw [hw5] at hP hD
    refine lv_iload hx hb dL_law_245 (lv_at hl 1 rfl) ?_
    refine lv_icmp_eq (tgt := 252) hx hb dL_law_247 (by decide) (fun _ => ?_) (fun c1 => absurd (hw4.trans h18) c1)
    refine lv_iload hx hb dL_law_252 (lv_at hl 1 rfl) ?_
    refine lv_if_ne (tgt := 269) hx hb dL_law_254 (by decide) (fun _ => ?_) (fun c1 => ?_)
    · refine lv_goto (tgt := 1248) hx hb dL_law_269 (by decide) ?_
      refine W.widen (k := cells + 1) (n := slots + 10) (by omega) (by omega) ?_
      exact hn E1 x1 y1 q1 m1 f1 _ _ _ hKX1 hO hR hP hD hS (lv_sub hl [2, 3, 4, 5, 6] rfl)
    · refine lv_aload_n hx hb dL_law_257 rfl (lv_at hl 5 rfl) ?_
      refine lv_iconst (v := nI 0) hx hb dL_law_258 (by decide) ?_
      refine w_lald (tys := cT E1 [(lc, .long)]) hx hb hKX1.1 hP 18 5 rfl rfl (hout c1) dL_law_259 ?_
      refine lv_iload hx hb dL_law_260 (lv_at hl 0 rfl) ?_
      refine lv_i2l (v := r.toInt64) hx hb dL_law_262 rfl ?_
      refine w_lcmp hx hb rfl dL_law_263 ?_
      refine lv_if_eq (tgt := 269) hx hb dL_law_264 (by decide) (fun _ => ?_) (fun c2 => absurd rfl c2)
      refine lv_goto (tgt := 1248) hx hb dL_law_269 (by decide) ?_
      refine W.widen (k := cells + 1) (n := slots + 10) (by omega) (by omega) ?_
      exact hn E1 x1 y1 q1 m1 f1 _ _ _ hKX1 hO hR hP hD hS (lv_sub hl [2, 3, 4, 5, 6] rfl)

set_option maxHeartbeats 4000000 in
set_option maxRecDepth 100000 in
theorem br_plan {p : Program} {e : Env} {s : State} {m : MethodId} {below : List Frame} {meth : Method} {c : Code} {b L : Nat} {xs : Nat → Int32} {D : va_G} {ou : Nat × (Nat → Nat)} {oo : Nat} {lc : ClassId} {E : cE} {x y : T2} {f : Nat → Int64} {cells slots : Nat} {ls : Array Slot} {H : Heap} {locs : List Loc} {S : Type} {post : Int32 → S → Prop} {wf : S → va_W} {pm : Int32 → T2 → Prop} (l : Launch) (hL : L ≤ 2048) (C0 : lw_At p s m meth c b L xs) (hN : jNc s) (hKX : lwKX D lc s E) {i : Nat} (hi : i + 4 ≤ L) (hcl : cells + 1 ≤ 601024) (hsl : slots + 10 ≤ 7293034) {mc ms : Nat} (hmc : mc ≤ 1) (hms : ms ≤ 10) {rmm : Room} (hr1 : rmm.cells = 0) (hr2 : rmm.slots = 0) (hr3 : rmm.frames ≤ 3) (hr4 : rmm.locals ≤ 71) {a1 : Int32} (ha1 : xs (i + 1) = a1) {a2 : Int32} (ha2 : xs (i + 2) = a2) (hJ : jI l yL_plan wsL_plan ({ frames := 8, cells := mc, slots := ms, locals := 170 } : Room) D E [(lc, .long)] ([(oo, oC lc f)] ++ cW E x) [.ref (eO E), .int a1, .int a2, .ref oo] post wf mc ms) (hmap : ∀ r u, post r u → ∃ new : List Nat, (wf u).map Prod.fst = ([(oo, oC lc f)] ++ cW E x).map Prod.fst ++ new ∧ new.length ≤ 1) (hM : gI l yX3_plan wsX3_plan rmm D (mT (ou, (eI E, eZ E)) (lwT E lc)) (mW (ou, (eI E, eZ E)) y) [.ref ou.1, .int a1, .int a2] pm (mW (ou, (eI E, eZ E))) 0 0) (hfin : ∀ (k : Int32) (u : S) (r : Int32) (y1 : T2), post k u → pm r y1 → ∃ (E1 : cE) (x1 : T2) (f1 : Nat → Int64) (q1 : Nat → List Nat) (m1 : Nat), wf u = [(oo, oC lc f1)] ++ cW E1 x1 ∧ eI E1 = eI E ∧ eZ E1 = eZ E ∧ lwKX D lc s E1 ∧ eO E1 = eO E ∧ rI E1 x1 y1 q1 m1 ∧ y1 18 0 = k ∧ (k = nI 0 → f1 0 = r.toInt64)) (hn : lwN p l e s m b below meth c D ou oo lc (eO E) (nI i) cells slots) (hP : va_P D vwCl (lwG ou E y oo lc f x) H) (hD : va_D (fun q : Nat => s.heap.size ≤ q) (lwG ou E y oo lc f x)) (hS : va_S (fun q : Nat => s.heap.size ≤ q) s.heap H locs) (hl : lv_has ls 7 [(0, .ref b), (1, .ref (eO E)), (2, .ref ou.1), (3, .ref oo), (4, .int (nI i))]) : W p l e room_1 s m #[Value.ref b] below meth c H locs cells slots (lw_Z below #[Value.ref b] s) (F0 m 272 ls []) := by
  obtain ⟨hx, hb, hr, hml, hown, hts0, hX, hbl, hlocks, hgv⟩ := C0
  have hown : s.vm.findClass RL = some m.cls := hown
  have hts : ∀ w ∈ wsL_law, w.before #[Value.ref b] s = true := fun w h => hts0 w (wsL_law_in w h)
  have hA : ∀ q : Nat, s.heap.size ≤ q → (fun q : Nat => s.heap.size ≤ q) q := fun _ h => h
  have hbA : ¬ (fun q : Nat => s.heap.size ≤ q) b := Nat.not_le.mpr hbl
  unfold lwN at hn
  subst ha1
  subst ha2
  refine lv_aload_n hx hb dL_law_272 rfl (lv_at hl 1 rfl) ?_
  refine lv_aload_n hx hb dL_law_273 rfl (lv_at hl 0 rfl) ?_
  refine lv_iload hx hb dL_law_274 (lv_at hl 4 rfl) ?_
  refine lv_iconst (v := nI 1) hx hb dL_law_276 (by decide) ?_
  refine q_add hx hb dL_law_277 ?_
  refine w_sld hx hb hX hbl hbA hS (by omega) hL dL_law_278 ?_
  refine lv_aload_n hx hb dL_law_279 rfl (lv_at hl 0 rfl) ?_
  refine lv_iload hx hb dL_law_280 (lv_at hl 4 rfl) ?_
  refine lv_iconst (v := nI 2) hx hb dL_law_282 (by decide) ?_
  refine q_add hx hb dL_law_283 ?_
  refine w_sld hx hb hX hbl hbA hS (by omega) hL dL_law_284 ?_
  refine lv_aload_n hx hb dL_law_285 rfl (lv_at hl 3 rfl) ?_
  refine w_calls (pre := mW (ou, (eI E, eZ E)) y) (w1 := [(oo, oC lc f)] ++ cW E x) (As := [.ref (eO E), .int (xs (i + 1)), .int (xs (i + 2)), .ref oo]) (rest := []) ⟨hx, hb, hml, hown, hts⟩ hJ (vx_cwSW 4 hts gL_law_L_plan rfl rfl rfl (by decide +kernel) ⟨Nat.le_of_ble_eq_true rfl, Nat.le_of_ble_eq_true rfl⟩) hKX.1 hKX.2 hN hP hD hS hA hmap rfl hl.1 rfl (Nat.le_of_ble_eq_true rfl) dL_law_286 ⟨by show cells + mc ≤ 601024; omega, by show slots + ms ≤ 7293034; omega⟩ (fun k u H locs hw hP hD hS => ?_)
  refine lv_istore (lv' := [(5, .int k), (0, .ref b), (1, .ref (eO E)), (2, .ref ou.1), (3, .ref oo), (4, .int (nI i))]) hx hb dL_law_289 hl (by decide) rfl (fun ls hl => ?_)
  refine lv_aload_n hx hb dL_law_291 rfl (lv_at hl 3 rfl) ?_
  refine lv_aload_n hx hb dL_law_292 rfl (lv_at hl 1 rfl) ?_
  refine lv_iload hx hb dL_law_293 (lv_at hl 5 rfl) ?_
  refine lv_iconst (v := nI 1) hx hb dL_law_295 (by decide) ?_
  refine q_add hx hb dL_law_296 ?_
  refine w_sld hx hb hX hbl hbA hS (by omega) hL dL_law_297 ?_
  refine lv_aload_n hx hb dL_law_298 rfl (lv_at hl 1 rfl) ?_
  refine lv_iload hx hb dL_law_299 (lv_at hl 5 rfl) ?_
  refine lv_iconst (v := nI 2) hx hb dL_law_301 (by decide) ?_
  refine q_add hx hb dL_law_302 ?_
  refine w_sld hx hb hX hbl hbA hS (by omega) hL dL_law_303 ?_
  refine w_calli (w1 := mW (ou, (eI E, eZ E)) y) (sfx := wf u) (As := [.int (xs (i + 1)), .int (xs (i + 2))]) (rest := []) ⟨hx, hb, hml, hown, hts⟩ hM (cwV 2 hts gL_law_X3_plan rfl hr1 hr2 (by decide +kernel) ⟨by have := hr3; show rmm.frames + 1 ≤ 11; omega, by have := hr4; show 8 + (4 + 11) + rmm.locals ≤ 406; omega⟩) (va_recv hKX.1 hP (ci := 4) (q0 := 0) rfl rfl) hKX.1 hP hD hS hA (fun _ _ _ => rfl) rfl hl.1 rfl (Nat.le_of_ble_eq_true rfl) dL_law_304 ⟨by show cells + mc + 0 ≤ 601024; omega, by show slots + ms + 0 ≤ 7293034; omega⟩ (fun r y1 H locs hw2 hP hD hS => ?_)
  obtain ⟨E1, x1, f1, q1, m1, hwf, hI, hZ, hKX1, hO, hR, h18, hout⟩ := hfin k u r y1 hw hw2
  rw [hwf, ← hI, ← hZ] at hP hD
  refine lv_istore (lv' := [(6, .int r), (5, .int k), (0, .ref b), (1, .ref (eO E)), (2, .ref ou.1), (3, .ref oo), (4, .int (nI i))]) hx hb dL_law_307 hl (by decide) rfl (fun ls hl => ?_)
  refine lv_aload_n hx hb dL_law_309 rfl (lv_at hl 4 rfl) ?_
  refine w_calli (w1 := mW (ou, (eI E1, eZ E1)) y1) (sfx := [(oo, oC lc f1)] ++ cW E1 x1) (As := []) (rest := []) ⟨hx, hb, hml, hown, hts⟩ (c_X3_thrown l D (ou, (eI E1, eZ E1)) (lwT E1 lc) y1) (cwV 0 hts gL_law_X3_thrown rfl rfl rfl (by decide +kernel) ⟨Nat.le_of_ble_eq_true rfl, Nat.le_of_ble_eq_true rfl⟩) (va_recv hKX1.1 hP (ci := 4) (q0 := 0) rfl rfl) hKX1.1 hP hD hS hA (fun _ _ _ => rfl) rfl hl.1 rfl (Nat.le_of_ble_eq_true rfl) dL_law_310 ⟨by show cells + mc + 0 + 0 ≤ 601024; omega, by show slots + ms + 0 + 0 ≤ 7293034; omega⟩ (fun t y2 H locs hw3 hP hD hS => ?_)
  obtain ⟨hw4, hw5⟩ := hw3
  rw [hw5] at hP hD
  refine lv_iload hx hb dL_law_313 (lv_at hl 1 rfl) ?_
  refine lv_icmp_eq (tgt := 320) hx hb dL_law_315 (by decide) (fun _ => ?_) (fun c1 => absurd (hw4.trans h18) c1)
  refine lv_iload hx hb dL_law_320 (lv_at hl 1 rfl) ?_
  refine lv_if_ne (tgt := 337) hx hb dL_law_322 (by decide) (fun _ => ?_) (fun c1 => ?_)
  · refine lv_goto (tgt := 1248) hx hb dL_law_337 (by decide) ?_
    refine W.widen (k := cells + 1) (n := slots + 10) (by omega) (by omega) ?_
    exact hn E1 x1 y1 q1 m1 f1 _ _ _ hKX1 hO hR hP hD hS (lv_sub hl [2, 3, 4, 5, 6] rfl)
  · refine lv_aload_n hx hb dL_law_325 rfl (lv_at hl 5 rfl) ?_
    refine lv_iconst (v := nI 0) hx hb dL_law_326 (by decide) ?_
    refine w_lald (tys := cT E1 [(lc, .long)]) hx hb hKX1.1 hP 18 5 rfl rfl (hout c1) dL_law_327 ?_
    refine lv_iload hx hb dL_law_328 (lv_at hl 0 rfl) ?_
    refine lv_i2l (v := r.toInt64) hx hb dL_law_330 rfl ?_
    refine w_lcmp hx hb rfl dL_law_331 ?_
    refine lv_if_eq (tgt := 337) hx hb dL_law_332 (by decide) (fun _ => ?_) (fun c2 => absurd rfl c2)
    refine lv_goto (tgt := 1248) hx hb dL_law_337 (by decide) ?_
    refine W.widen (k := cells + 1) (n := slots + 10) (by omega) (by omega) ?_
    exact hn E1 x1 y1 q1 m1 f1 _ _ _ hKX1 hO hR hP hD hS (lv_sub hl [2, 3, 4, 5, 6] rfl)

set_option maxHeartbeats 4000000 in
set_option maxRecDepth 100000 in
theorem br_drop {p : Program} {e : Env} {s : State} {m : MethodId} {below : List Frame} {meth : Method} {c : Code} {b L : Nat} {xs : Nat → Int32} {D : va_G} {ou : Nat × (Nat → Nat)} {oo : Nat} {lc : ClassId} {E : cE} {x y : T2} {f : Nat → Int64} {cells slots : Nat} {ls : Array Slot} {H : Heap} {locs : List Loc} {S : Type} {post : Int32 → S → Prop} {wf : S → va_W} {pm : Int32 → T2 → Prop} (l : Launch) (hL : L ≤ 2048) (C0 : lw_At p s m meth c b L xs) (hN : jNc s) (hKX : lwKX D lc s E) {i : Nat} (hi : i + 4 ≤ L) (hcl : cells + 1 ≤ 601024) (hsl : slots + 10 ≤ 7293034) {mc ms : Nat} (hmc : mc ≤ 1) (hms : ms ≤ 10) {rmm : Room} (hr1 : rmm.cells = 0) (hr2 : rmm.slots = 0) (hr3 : rmm.frames ≤ 3) (hr4 : rmm.locals ≤ 71) {a1 : Int32} (ha1 : xs (i + 1) = a1) {a2 : Int32} (ha2 : xs (i + 2) = a2) (hJ : jI l yL_drop wsL_drop ({ frames := 8, cells := mc, slots := ms, locals := 170 } : Room) D E [(lc, .long)] ([(oo, oC lc f)] ++ cW E x) [.ref (eO E), .int a1, .int a2, .ref oo] post wf mc ms) (hmap : ∀ r u, post r u → ∃ new : List Nat, (wf u).map Prod.fst = ([(oo, oC lc f)] ++ cW E x).map Prod.fst ++ new ∧ new.length ≤ 1) (hM : gI l yX3_drop wsX3_drop rmm D (mT (ou, (eI E, eZ E)) (lwT E lc)) (mW (ou, (eI E, eZ E)) y) [.ref ou.1, .int a1, .int a2] pm (mW (ou, (eI E, eZ E))) 0 0) (hfin : ∀ (k : Int32) (u : S) (r : Int32) (y1 : T2), post k u → pm r y1 → ∃ (E1 : cE) (x1 : T2) (f1 : Nat → Int64) (q1 : Nat → List Nat) (m1 : Nat), wf u = [(oo, oC lc f1)] ++ cW E1 x1 ∧ eI E1 = eI E ∧ eZ E1 = eZ E ∧ lwKX D lc s E1 ∧ eO E1 = eO E ∧ rI E1 x1 y1 q1 m1 ∧ y1 18 0 = k ∧ (k = nI 0 → f1 0 = r.toInt64)) (hn : lwN p l e s m b below meth c D ou oo lc (eO E) (nI i) cells slots) (hP : va_P D vwCl (lwG ou E y oo lc f x) H) (hD : va_D (fun q : Nat => s.heap.size ≤ q) (lwG ou E y oo lc f x)) (hS : va_S (fun q : Nat => s.heap.size ≤ q) s.heap H locs) (hl : lv_has ls 7 [(0, .ref b), (1, .ref (eO E)), (2, .ref ou.1), (3, .ref oo), (4, .int (nI i))]) : W p l e room_1 s m #[Value.ref b] below meth c H locs cells slots (lw_Z below #[Value.ref b] s) (F0 m 340 ls []) := by
  obtain ⟨hx, hb, hr, hml, hown, hts0, hX, hbl, hlocks, hgv⟩ := C0
  have hown : s.vm.findClass RL = some m.cls := hown
  have hts : ∀ w ∈ wsL_law, w.before #[Value.ref b] s = true := fun w h => hts0 w (wsL_law_in w h)
  have hA : ∀ q : Nat, s.heap.size ≤ q → (fun q : Nat => s.heap.size ≤ q) q := fun _ h => h
  have hbA : ¬ (fun q : Nat => s.heap.size ≤ q) b := Nat.not_le.mpr hbl
  unfold lwN at hn
  subst ha1
  subst ha2
  refine lv_aload_n hx hb dL_law_340 rfl (lv_at hl 1 rfl) ?_
  refine lv_aload_n hx hb dL_law_341 rfl (lv_at hl 0 rfl) ?_
  refine lv_iload hx hb dL_law_342 (lv_at hl 4 rfl) ?_
  refine lv_iconst (v := nI 1) hx hb dL_law_344 (by decide) ?_
  refine q_add hx hb dL_law_345 ?_
  refine w_sld hx hb hX hbl hbA hS (by omega) hL dL_law_346 ?_
  refine lv_aload_n hx hb dL_law_347 rfl (lv_at hl 0 rfl) ?_
  refine lv_iload hx hb dL_law_348 (lv_at hl 4 rfl) ?_
  refine lv_iconst (v := nI 2) hx hb dL_law_350 (by decide) ?_
  refine q_add hx hb dL_law_351 ?_
  refine w_sld hx hb hX hbl hbA hS (by omega) hL dL_law_352 ?_
  refine lv_aload_n hx hb dL_law_353 rfl (lv_at hl 3 rfl) ?_
  refine w_calls (pre := mW (ou, (eI E, eZ E)) y) (w1 := [(oo, oC lc f)] ++ cW E x) (As := [.ref (eO E), .int (xs (i + 1)), .int (xs (i + 2)), .ref oo]) (rest := []) ⟨hx, hb, hml, hown, hts⟩ hJ (vx_cwSW 4 hts gL_law_L_drop rfl rfl rfl (by decide +kernel) ⟨Nat.le_of_ble_eq_true rfl, Nat.le_of_ble_eq_true rfl⟩) hKX.1 hKX.2 hN hP hD hS hA hmap rfl hl.1 rfl (Nat.le_of_ble_eq_true rfl) dL_law_354 ⟨by show cells + mc ≤ 601024; omega, by show slots + ms ≤ 7293034; omega⟩ (fun k u H locs hw hP hD hS => ?_)
  refine lv_istore (lv' := [(5, .int k), (0, .ref b), (1, .ref (eO E)), (2, .ref ou.1), (3, .ref oo), (4, .int (nI i))]) hx hb dL_law_357 hl (by decide) rfl (fun ls hl => ?_)
  refine lv_aload_n hx hb dL_law_359 rfl (lv_at hl 3 rfl) ?_
  refine lv_aload_n hx hb dL_law_360 rfl (lv_at hl 1 rfl) ?_
  refine lv_iload hx hb dL_law_361 (lv_at hl 5 rfl) ?_
  refine lv_iconst (v := nI 1) hx hb dL_law_363 (by decide) ?_
  refine q_add hx hb dL_law_364 ?_
  refine w_sld hx hb hX hbl hbA hS (by omega) hL dL_law_365 ?_
  refine lv_aload_n hx hb dL_law_366 rfl (lv_at hl 1 rfl) ?_
  refine lv_iload hx hb dL_law_367 (lv_at hl 5 rfl) ?_
  refine lv_iconst (v := nI 2) hx hb dL_law_369 (by decide) ?_
  refine q_add hx hb dL_law_370 ?_
  refine w_sld hx hb hX hbl hbA hS (by omega) hL dL_law_371 ?_
  refine w_calli (w1 := mW (ou, (eI E, eZ E)) y) (sfx := wf u) (As := [.int (xs (i + 1)), .int (xs (i + 2))]) (rest := []) ⟨hx, hb, hml, hown, hts⟩ hM (cwV 2 hts gL_law_X3_drop rfl hr1 hr2 (by decide +kernel) ⟨by have := hr3; show rmm.frames + 1 ≤ 11; omega, by have := hr4; show 8 + (6 + 11) + rmm.locals ≤ 406; omega⟩) (va_recv hKX.1 hP (ci := 4) (q0 := 0) rfl rfl) hKX.1 hP hD hS hA (fun _ _ _ => rfl) rfl hl.1 rfl (Nat.le_of_ble_eq_true rfl) dL_law_372 ⟨by show cells + mc + 0 ≤ 601024; omega, by show slots + ms + 0 ≤ 7293034; omega⟩ (fun r y1 H locs hw2 hP hD hS => ?_)
  obtain ⟨E1, x1, f1, q1, m1, hwf, hI, hZ, hKX1, hO, hR, h18, hout⟩ := hfin k u r y1 hw hw2
  rw [hwf, ← hI, ← hZ] at hP hD
  refine lv_istore (lv' := [(6, .int r), (5, .int k), (0, .ref b), (1, .ref (eO E)), (2, .ref ou.1), (3, .ref oo), (4, .int (nI i))]) hx hb dL_law_375 hl (by decide) rfl (fun ls hl => ?_)
  refine lv_aload_n hx hb dL_law_377 rfl (lv_at hl 4 rfl) ?_
  refine w_calli (w1 := mW (ou, (eI E1, eZ E1)) y1) (sfx := [(oo, oC lc f1)] ++ cW E1 x1) (As := []) (rest := []) ⟨hx, hb, hml, hown, hts⟩ (c_X3_thrown l D (ou, (eI E1, eZ E1)) (lwT E1 lc) y1) (cwV 0 hts gL_law_X3_thrown rfl rfl rfl (by decide +kernel) ⟨Nat.le_of_ble_eq_true rfl, Nat.le_of_ble_eq_true rfl⟩) (va_recv hKX1.1 hP (ci := 4) (q0 := 0) rfl rfl) hKX1.1 hP hD hS hA (fun _ _ _ => rfl) rfl hl.1 rfl (Nat.le_of_ble_eq_true rfl) dL_law_378 ⟨by show cells + mc + 0 + 0 ≤ 601024; omega, by show slots + ms + 0 + 0 ≤ 7293034; omega⟩ (fun t y2 H locs hw3 hP hD hS => ?_)
  obtain ⟨hw4, hw5⟩ := hw3
  rw [hw5] at hP hD
  refine lv_iload hx hb dL_law_381 (lv_at hl 1 rfl) ?_
  refine lv_icmp_eq (tgt := 388) hx hb dL_law_383 (by decide) (fun _ => ?_) (fun c1 => absurd (hw4.trans h18) c1)
  refine lv_iload hx hb dL_law_388 (lv_at hl 1 rfl) ?_
  refine lv_if_ne (tgt := 405) hx hb dL_law_390 (by decide) (fun _ => ?_) (fun c1 => ?_)
  · refine lv_goto (tgt := 1248) hx hb dL_law_405 (by decide) ?_
    refine W.widen (k := cells + 1) (n := slots + 10) (by omega) (by omega) ?_
    exact hn E1 x1 y1 q1 m1 f1 _ _ _ hKX1 hO hR hP hD hS (lv_sub hl [2, 3, 4, 5, 6] rfl)
  · refine lv_aload_n hx hb dL_law_393 rfl (lv_at hl 5 rfl) ?_
    refine lv_iconst (v := nI 0) hx hb dL_law_394 (by decide) ?_
    refine w_lald (tys := cT E1 [(lc, .long)]) hx hb hKX1.1 hP 18 5 rfl rfl (hout c1) dL_law_395 ?_
    refine lv_iload hx hb dL_law_396 (lv_at hl 0 rfl) ?_
    refine lv_i2l (v := r.toInt64) hx hb dL_law_398 rfl ?_
    refine w_lcmp hx hb rfl dL_law_399 ?_
    refine lv_if_eq (tgt := 405) hx hb dL_law_400 (by decide) (fun _ => ?_) (fun c2 => absurd rfl c2)
    refine lv_goto (tgt := 1248) hx hb dL_law_405 (by decide) ?_
    refine W.widen (k := cells + 1) (n := slots + 10) (by omega) (by omega) ?_
    exact hn E1 x1 y1 q1 m1 f1 _ _ _ hKX1 hO hR hP hD hS (lv_sub hl [2, 3, 4, 5, 6] rfl)

set_option maxHeartbeats 4000000 in
set_option maxRecDepth 100000 in
theorem br_ask {p : Program} {e : Env} {s : State} {m : MethodId} {below : List Frame} {meth : Method} {c : Code} {b L : Nat} {xs : Nat → Int32} {D : va_G} {ou : Nat × (Nat → Nat)} {oo : Nat} {lc : ClassId} {E : cE} {x y : T2} {f : Nat → Int64} {cells slots : Nat} {ls : Array Slot} {H : Heap} {locs : List Loc} {S : Type} {post : Int32 → S → Prop} {wf : S → va_W} {pm : Int32 → T2 → Prop} (l : Launch) (hL : L ≤ 2048) (C0 : lw_At p s m meth c b L xs) (hN : jNc s) (hKX : lwKX D lc s E) {i : Nat} (hi : i + 4 ≤ L) (hcl : cells + 1 ≤ 601024) (hsl : slots + 10 ≤ 7293034) {mc ms : Nat} (hmc : mc ≤ 1) (hms : ms ≤ 10) {rmm : Room} (hr1 : rmm.cells = 0) (hr2 : rmm.slots = 0) (hr3 : rmm.frames ≤ 3) (hr4 : rmm.locals ≤ 71) {a1 : Int32} (ha1 : xs (i + 1) = a1) {a2 : Int32} (ha2 : xs (i + 2) = a2) (hJ : jI l yL_ask wsL_ask ({ frames := 8, cells := mc, slots := ms, locals := 170 } : Room) D E [(lc, .long)] ([(oo, oC lc f)] ++ cW E x) [.ref (eO E), .int a1, .int a2, .ref oo] post wf mc ms) (hmap : ∀ r u, post r u → ∃ new : List Nat, (wf u).map Prod.fst = ([(oo, oC lc f)] ++ cW E x).map Prod.fst ++ new ∧ new.length ≤ 1) (hM : gI l yX3_ask wsX3_ask rmm D (mT (ou, (eI E, eZ E)) (lwT E lc)) (mW (ou, (eI E, eZ E)) y) [.ref ou.1, .int a1, .int a2] pm (mW (ou, (eI E, eZ E))) 0 0) (hfin : ∀ (k : Int32) (u : S) (r : Int32) (y1 : T2), post k u → pm r y1 → ∃ (E1 : cE) (x1 : T2) (f1 : Nat → Int64) (q1 : Nat → List Nat) (m1 : Nat), wf u = [(oo, oC lc f1)] ++ cW E1 x1 ∧ eI E1 = eI E ∧ eZ E1 = eZ E ∧ lwKX D lc s E1 ∧ eO E1 = eO E ∧ rI E1 x1 y1 q1 m1 ∧ y1 18 0 = k ∧ (k = nI 0 → f1 0 = r.toInt64)) (hn : lwN p l e s m b below meth c D ou oo lc (eO E) (nI i) cells slots) (hP : va_P D vwCl (lwG ou E y oo lc f x) H) (hD : va_D (fun q : Nat => s.heap.size ≤ q) (lwG ou E y oo lc f x)) (hS : va_S (fun q : Nat => s.heap.size ≤ q) s.heap H locs) (hl : lv_has ls 7 [(0, .ref b), (1, .ref (eO E)), (2, .ref ou.1), (3, .ref oo), (4, .int (nI i))]) : W p l e room_1 s m #[Value.ref b] below meth c H locs cells slots (lw_Z below #[Value.ref b] s) (F0 m 408 ls []) := by
  obtain ⟨hx, hb, hr, hml, hown, hts0, hX, hbl, hlocks, hgv⟩ := C0
  have hown : s.vm.findClass RL = some m.cls := hown
  have hts : ∀ w ∈ wsL_law, w.before #[Value.ref b] s = true := fun w h => hts0 w (wsL_law_in w h)
  have hA : ∀ q : Nat, s.heap.size ≤ q → (fun q : Nat => s.heap.size ≤ q) q := fun _ h => h
  have hbA : ¬ (fun q : Nat => s.heap.size ≤ q) b := Nat.not_le.mpr hbl
  unfold lwN at hn
  subst ha1
  subst ha2
  refine lv_aload_n hx hb dL_law_408 rfl (lv_at hl 1 rfl) ?_
  refine lv_aload_n hx hb dL_law_409 rfl (lv_at hl 0 rfl) ?_
  refine lv_iload hx hb dL_law_410 (lv_at hl 4 rfl) ?_
  refine lv_iconst (v := nI 1) hx hb dL_law_412 (by decide) ?_
  refine q_add hx hb dL_law_413 ?_
  refine w_sld hx hb hX hbl hbA hS (by omega) hL dL_law_414 ?_
  refine lv_aload_n hx hb dL_law_415 rfl (lv_at hl 0 rfl) ?_
  refine lv_iload hx hb dL_law_416 (lv_at hl 4 rfl) ?_
  refine lv_iconst (v := nI 2) hx hb dL_law_418 (by decide) ?_
  refine q_add hx hb dL_law_419 ?_
  refine w_sld hx hb hX hbl hbA hS (by omega) hL dL_law_420 ?_
  refine lv_aload_n hx hb dL_law_421 rfl (lv_at hl 3 rfl) ?_
  refine w_calls (pre := mW (ou, (eI E, eZ E)) y) (w1 := [(oo, oC lc f)] ++ cW E x) (As := [.ref (eO E), .int (xs (i + 1)), .int (xs (i + 2)), .ref oo]) (rest := []) ⟨hx, hb, hml, hown, hts⟩ hJ (vx_cwSW 4 hts gL_law_L_ask rfl rfl rfl (by decide +kernel) ⟨Nat.le_of_ble_eq_true rfl, Nat.le_of_ble_eq_true rfl⟩) hKX.1 hKX.2 hN hP hD hS hA hmap rfl hl.1 rfl (Nat.le_of_ble_eq_true rfl) dL_law_422 ⟨by show cells + mc ≤ 601024; omega, by show slots + ms ≤ 7293034; omega⟩ (fun k u H locs hw hP hD hS => ?_)
  refine lv_istore (lv' := [(5, .int k), (0, .ref b), (1, .ref (eO E)), (2, .ref ou.1), (3, .ref oo), (4, .int (nI i))]) hx hb dL_law_425 hl (by decide) rfl (fun ls hl => ?_)
  refine lv_aload_n hx hb dL_law_427 rfl (lv_at hl 3 rfl) ?_
  refine lv_aload_n hx hb dL_law_428 rfl (lv_at hl 1 rfl) ?_
  refine lv_iload hx hb dL_law_429 (lv_at hl 5 rfl) ?_
  refine lv_iconst (v := nI 1) hx hb dL_law_431 (by decide) ?_
  refine q_add hx hb dL_law_432 ?_
  refine w_sld hx hb hX hbl hbA hS (by omega) hL dL_law_433 ?_
  refine lv_aload_n hx hb dL_law_434 rfl (lv_at hl 1 rfl) ?_
  refine lv_iload hx hb dL_law_435 (lv_at hl 5 rfl) ?_
  refine lv_iconst (v := nI 2) hx hb dL_law_437 (by decide) ?_
  refine q_add hx hb dL_law_438 ?_
  refine w_sld hx hb hX hbl hbA hS (by omega) hL dL_law_439 ?_
  refine w_calli (w1 := mW (ou, (eI E, eZ E)) y) (sfx := wf u) (As := [.int (xs (i + 1)), .int (xs (i + 2))]) (rest := []) ⟨hx, hb, hml, hown, hts⟩ hM (cwV 2 hts gL_law_X3_ask rfl hr1 hr2 (by decide +kernel) ⟨by have := hr3; show rmm.frames + 1 ≤ 11; omega, by have := hr4; show 8 + (7 + 11) + rmm.locals ≤ 406; omega⟩) (va_recv hKX.1 hP (ci := 4) (q0 := 0) rfl rfl) hKX.1 hP hD hS hA (fun _ _ _ => rfl) rfl hl.1 rfl (Nat.le_of_ble_eq_true rfl) dL_law_440 ⟨by show cells + mc + 0 ≤ 601024; omega, by show slots + ms + 0 ≤ 7293034; omega⟩ (fun r y1 H locs hw2 hP hD hS => ?_)
  obtain ⟨E1, x1, f1, q1, m1, hwf, hI, hZ, hKX1, hO, hR, h18, hout⟩ := hfin k u r y1 hw hw2
  rw [hwf, ← hI, ← hZ] at hP hD
  refine lv_istore (lv' := [(6, .int r), (5, .int k), (0, .ref b), (1, .ref (eO E)), (2, .ref ou.1), (3, .ref oo), (4, .int (nI i))]) hx hb dL_law_443 hl (by decide) rfl (fun ls hl => ?_)
  refine lv_aload_n hx hb dL_law_445 rfl (lv_at hl 4 rfl) ?_
  refine w_calli (w1 := mW (ou, (eI E1, eZ E1)) y1) (sfx := [(oo, oC lc f1)] ++ cW E1 x1) (As := []) (rest := []) ⟨hx, hb, hml, hown, hts⟩ (c_X3_thrown l D (ou, (eI E1, eZ E1)) (lwT E1 lc) y1) (cwV 0 hts gL_law_X3_thrown rfl rfl rfl (by decide +kernel) ⟨Nat.le_of_ble_eq_true rfl, Nat.le_of_ble_eq_true rfl⟩) (va_recv hKX1.1 hP (ci := 4) (q0 := 0) rfl rfl) hKX1.1 hP hD hS hA (fun _ _ _ => rfl) rfl hl.1 rfl (Nat.le_of_ble_eq_true rfl) dL_law_446 ⟨by show cells + mc + 0 + 0 ≤ 601024; omega, by show slots + ms + 0 + 0 ≤ 7293034; omega⟩ (fun t y2 H locs hw3 hP hD hS => ?_)
  obtain ⟨hw4, hw5⟩ := hw3
  rw [hw5] at hP hD
  refine lv_iload hx hb dL_law_449 (lv_at hl 1 rfl) ?_
  refine lv_icmp_eq (tgt := 456) hx hb dL_law_451 (by decide) (fun _ => ?_) (fun c1 => absurd (hw4.trans h18) c1)
  refine lv_iload hx hb dL_law_456 (lv_at hl 1 rfl) ?_
  refine lv_if_ne (tgt := 473) hx hb dL_law_458 (by decide) (fun _ => ?_) (fun c1 => ?_)
  · refine lv_goto (tgt := 1248) hx hb dL_law_473 (by decide) ?_
    refine W.widen (k := cells + 1) (n := slots + 10) (by omega) (by omega) ?_
    exact hn E1 x1 y1 q1 m1 f1 _ _ _ hKX1 hO hR hP hD hS (lv_sub hl [2, 3, 4, 5, 6] rfl)
  · refine lv_aload_n hx hb dL_law_461 rfl (lv_at hl 5 rfl) ?_
    refine lv_iconst (v := nI 0) hx hb dL_law_462 (by decide) ?_
    refine w_lald (tys := cT E1 [(lc, .long)]) hx hb hKX1.1 hP 18 5 rfl rfl (hout c1) dL_law_463 ?_
    refine lv_iload hx hb dL_law_464 (lv_at hl 0 rfl) ?_
    refine lv_i2l (v := r.toInt64) hx hb dL_law_466 rfl ?_
    refine w_lcmp hx hb rfl dL_law_467 ?_
    refine lv_if_eq (tgt := 473) hx hb dL_law_468 (by decide) (fun _ => ?_) (fun c2 => absurd rfl c2)
    refine lv_goto (tgt := 1248) hx hb dL_law_473 (by decide) ?_
    refine W.widen (k := cells + 1) (n := slots + 10) (by omega) (by omega) ?_
    exact hn E1 x1 y1 q1 m1 f1 _ _ _ hKX1 hO hR hP hD hS (lv_sub hl [2, 3, 4, 5, 6] rfl)

set_option maxHeartbeats 4000000 in
set_option maxRecDepth 100000 in
theorem br_advance {p : Program} {e : Env} {s : State} {m : MethodId} {below : List Frame} {meth : Method} {c : Code} {b L : Nat} {xs : Nat → Int32} {D : va_G} {ou : Nat × (Nat → Nat)} {oo : Nat} {lc : ClassId} {E : cE} {x y : T2} {f : Nat → Int64} {cells slots : Nat} {ls : Array Slot} {H : Heap} {locs : List Loc} {S : Type} {post : Int32 → S → Prop} {wf : S → va_W} {pm : Int32 → T2 → Prop} (l : Launch) (hL : L ≤ 2048) (C0 : lw_At p s m meth c b L xs) (hN : jNc s) (hKX : lwKX D lc s E) {i : Nat} (hi : i + 4 ≤ L) (hcl : cells + 1 ≤ 601024) (hsl : slots + 10 ≤ 7293034) {mc ms : Nat} (hmc : mc ≤ 1) (hms : ms ≤ 10) {rmm : Room} (hr1 : rmm.cells = 0) (hr2 : rmm.slots = 0) (hr3 : rmm.frames ≤ 3) (hr4 : rmm.locals ≤ 71) {a1 : Int32} (ha1 : xs (i + 1) = a1) (hJ : jI l yL_advance wsL_advance ({ frames := 8, cells := mc, slots := ms, locals := 170 } : Room) D E [(lc, .long)] ([(oo, oC lc f)] ++ cW E x) [.ref (eO E), .int a1, .ref oo] post wf mc ms) (hmap : ∀ r u, post r u → ∃ new : List Nat, (wf u).map Prod.fst = ([(oo, oC lc f)] ++ cW E x).map Prod.fst ++ new ∧ new.length ≤ 1) (hM : gI l yX3_advance wsX3_advance rmm D (mT (ou, (eI E, eZ E)) (lwT E lc)) (mW (ou, (eI E, eZ E)) y) [.ref ou.1, .int a1] pm (mW (ou, (eI E, eZ E))) 0 0) (hfin : ∀ (k : Int32) (u : S) (r : Int32) (y1 : T2), post k u → pm r y1 → ∃ (E1 : cE) (x1 : T2) (f1 : Nat → Int64) (q1 : Nat → List Nat) (m1 : Nat), wf u = [(oo, oC lc f1)] ++ cW E1 x1 ∧ eI E1 = eI E ∧ eZ E1 = eZ E ∧ lwKX D lc s E1 ∧ eO E1 = eO E ∧ rI E1 x1 y1 q1 m1 ∧ y1 18 0 = k ∧ (k = nI 0 → f1 0 = r.toInt64)) (hn : lwN p l e s m b below meth c D ou oo lc (eO E) (nI i) cells slots) (hP : va_P D vwCl (lwG ou E y oo lc f x) H) (hD : va_D (fun q : Nat => s.heap.size ≤ q) (lwG ou E y oo lc f x)) (hS : va_S (fun q : Nat => s.heap.size ≤ q) s.heap H locs) (hl : lv_has ls 7 [(0, .ref b), (1, .ref (eO E)), (2, .ref ou.1), (3, .ref oo), (4, .int (nI i))]) : W p l e room_1 s m #[Value.ref b] below meth c H locs cells slots (lw_Z below #[Value.ref b] s) (F0 m 476 ls []) := by
  obtain ⟨hx, hb, hr, hml, hown, hts0, hX, hbl, hlocks, hgv⟩ := C0
  have hown : s.vm.findClass RL = some m.cls := hown
  have hts : ∀ w ∈ wsL_law, w.before #[Value.ref b] s = true := fun w h => hts0 w (wsL_law_in w h)
  have hA : ∀ q : Nat, s.heap.size ≤ q → (fun q : Nat => s.heap.size ≤ q) q := fun _ h => h
  have hbA : ¬ (fun q : Nat => s.heap.size ≤ q) b := Nat.not_le.mpr hbl
  unfold lwN at hn
  subst ha1
  refine lv_aload_n hx hb dL_law_476 rfl (lv_at hl 1 rfl) ?_
  refine lv_aload_n hx hb dL_law_477 rfl (lv_at hl 0 rfl) ?_
  refine lv_iload hx hb dL_law_478 (lv_at hl 4 rfl) ?_
  refine lv_iconst (v := nI 1) hx hb dL_law_480 (by decide) ?_
  refine q_add hx hb dL_law_481 ?_
  refine w_sld hx hb hX hbl hbA hS (by omega) hL dL_law_482 ?_
  refine lv_aload_n hx hb dL_law_483 rfl (lv_at hl 3 rfl) ?_
  refine w_calls (pre := mW (ou, (eI E, eZ E)) y) (w1 := [(oo, oC lc f)] ++ cW E x) (As := [.ref (eO E), .int (xs (i + 1)), .ref oo]) (rest := []) ⟨hx, hb, hml, hown, hts⟩ hJ (vx_cwSW 3 hts gL_law_L_advance rfl rfl rfl (by decide +kernel) ⟨Nat.le_of_ble_eq_true rfl, Nat.le_of_ble_eq_true rfl⟩) hKX.1 hKX.2 hN hP hD hS hA hmap rfl hl.1 rfl (Nat.le_of_ble_eq_true rfl) dL_law_484 ⟨by show cells + mc ≤ 601024; omega, by show slots + ms ≤ 7293034; omega⟩ (fun k u H locs hw hP hD hS => ?_)
  refine lv_istore (lv' := [(5, .int k), (0, .ref b), (1, .ref (eO E)), (2, .ref ou.1), (3, .ref oo), (4, .int (nI i))]) hx hb dL_law_487 hl (by decide) rfl (fun ls hl => ?_)
  refine lv_aload_n hx hb dL_law_489 rfl (lv_at hl 3 rfl) ?_
  refine lv_aload_n hx hb dL_law_490 rfl (lv_at hl 1 rfl) ?_
  refine lv_iload hx hb dL_law_491 (lv_at hl 5 rfl) ?_
  refine lv_iconst (v := nI 1) hx hb dL_law_493 (by decide) ?_
  refine q_add hx hb dL_law_494 ?_
  refine w_sld hx hb hX hbl hbA hS (by omega) hL dL_law_495 ?_
  refine w_calli (w1 := mW (ou, (eI E, eZ E)) y) (sfx := wf u) (As := [.int (xs (i + 1))]) (rest := []) ⟨hx, hb, hml, hown, hts⟩ hM (cwV 1 hts gL_law_X3_advance rfl hr1 hr2 (by decide +kernel) ⟨by have := hr3; show rmm.frames + 1 ≤ 11; omega, by have := hr4; show 8 + (4 + 11) + rmm.locals ≤ 406; omega⟩) (va_recv hKX.1 hP (ci := 4) (q0 := 0) rfl rfl) hKX.1 hP hD hS hA (fun _ _ _ => rfl) rfl hl.1 rfl (Nat.le_of_ble_eq_true rfl) dL_law_496 ⟨by show cells + mc + 0 ≤ 601024; omega, by show slots + ms + 0 ≤ 7293034; omega⟩ (fun r y1 H locs hw2 hP hD hS => ?_)
  obtain ⟨E1, x1, f1, q1, m1, hwf, hI, hZ, hKX1, hO, hR, h18, hout⟩ := hfin k u r y1 hw hw2
  rw [hwf, ← hI, ← hZ] at hP hD
  refine lv_istore (lv' := [(6, .int r), (5, .int k), (0, .ref b), (1, .ref (eO E)), (2, .ref ou.1), (3, .ref oo), (4, .int (nI i))]) hx hb dL_law_499 hl (by decide) rfl (fun ls hl => ?_)
  refine lv_aload_n hx hb dL_law_501 rfl (lv_at hl 4 rfl) ?_
  refine w_calli (w1 := mW (ou, (eI E1, eZ E1)) y1) (sfx := [(oo, oC lc f1)] ++ cW E1 x1) (As := []) (rest := []) ⟨hx, hb, hml, hown, hts⟩ (c_X3_thrown l D (ou, (eI E1, eZ E1)) (lwT E1 lc) y1) (cwV 0 hts gL_law_X3_thrown rfl rfl rfl (by decide +kernel) ⟨Nat.le_of_ble_eq_true rfl, Nat.le_of_ble_eq_true rfl⟩) (va_recv hKX1.1 hP (ci := 4) (q0 := 0) rfl rfl) hKX1.1 hP hD hS hA (fun _ _ _ => rfl) rfl hl.1 rfl (Nat.le_of_ble_eq_true rfl) dL_law_502 ⟨by show cells + mc + 0 + 0 ≤ 601024; omega, by show slots + ms + 0 + 0 ≤ 7293034; omega⟩ (fun t y2 H locs hw3 hP hD hS => ?_)
  obtain ⟨hw4, hw5⟩ := hw3
  rw [hw5] at hP hD
  refine lv_iload hx hb dL_law_505 (lv_at hl 1 rfl) ?_
  refine lv_icmp_eq (tgt := 512) hx hb dL_law_507 (by decide) (fun _ => ?_) (fun c1 => absurd (hw4.trans h18) c1)
  refine lv_iload hx hb dL_law_512 (lv_at hl 1 rfl) ?_
  refine lv_if_ne (tgt := 529) hx hb dL_law_514 (by decide) (fun _ => ?_) (fun c1 => ?_)
  · refine lv_goto (tgt := 1248) hx hb dL_law_529 (by decide) ?_
    refine W.widen (k := cells + 1) (n := slots + 10) (by omega) (by omega) ?_
    exact hn E1 x1 y1 q1 m1 f1 _ _ _ hKX1 hO hR hP hD hS (lv_sub hl [2, 3, 4, 5, 6] rfl)
  · refine lv_aload_n hx hb dL_law_517 rfl (lv_at hl 5 rfl) ?_
    refine lv_iconst (v := nI 0) hx hb dL_law_518 (by decide) ?_
    refine w_lald (tys := cT E1 [(lc, .long)]) hx hb hKX1.1 hP 18 5 rfl rfl (hout c1) dL_law_519 ?_
    refine lv_iload hx hb dL_law_520 (lv_at hl 0 rfl) ?_
    refine lv_i2l (v := r.toInt64) hx hb dL_law_522 rfl ?_
    refine w_lcmp hx hb rfl dL_law_523 ?_
    refine lv_if_eq (tgt := 529) hx hb dL_law_524 (by decide) (fun _ => ?_) (fun c2 => absurd rfl c2)
    refine lv_goto (tgt := 1248) hx hb dL_law_529 (by decide) ?_
    refine W.widen (k := cells + 1) (n := slots + 10) (by omega) (by omega) ?_
    exact hn E1 x1 y1 q1 m1 f1 _ _ _ hKX1 hO hR hP hD hS (lv_sub hl [2, 3, 4, 5, 6] rfl)

set_option maxHeartbeats 4000000 in
set_option maxRecDepth 100000 in
theorem br_send {p : Program} {e : Env} {s : State} {m : MethodId} {below : List Frame} {meth : Method} {c : Code} {b L : Nat} {xs : Nat → Int32} {D : va_G} {ou : Nat × (Nat → Nat)} {oo : Nat} {lc : ClassId} {E : cE} {x y : T2} {f : Nat → Int64} {cells slots : Nat} {ls : Array Slot} {H : Heap} {locs : List Loc} {S : Type} {post : Int32 → S → Prop} {wf : S → va_W} {pm : Int32 → T2 → Prop} (l : Launch) (hL : L ≤ 2048) (C0 : lw_At p s m meth c b L xs) (hN : jNc s) (hKX : lwKX D lc s E) {i : Nat} (hi : i + 4 ≤ L) (hcl : cells + 1 ≤ 601024) (hsl : slots + 10 ≤ 7293034) {mc ms : Nat} (hmc : mc ≤ 1) (hms : ms ≤ 10) {rmm : Room} (hr1 : rmm.cells = 0) (hr2 : rmm.slots = 0) (hr3 : rmm.frames ≤ 3) (hr4 : rmm.locals ≤ 71) {a1 : Int32} (ha1 : xs (i + 1) = a1) {a2 : Int32} (ha2 : xs (i + 2) = a2) (hJ : jI l yL_send wsL_send ({ frames := 8, cells := mc, slots := ms, locals := 170 } : Room) D E [(lc, .long)] ([(oo, oC lc f)] ++ cW E x) [.ref (eO E), .int a1, .int a2, .ref oo] post wf mc ms) (hmap : ∀ r u, post r u → ∃ new : List Nat, (wf u).map Prod.fst = ([(oo, oC lc f)] ++ cW E x).map Prod.fst ++ new ∧ new.length ≤ 1) (hM : gI l yX3_send wsX3_send rmm D (mT (ou, (eI E, eZ E)) (lwT E lc)) (mW (ou, (eI E, eZ E)) y) [.ref ou.1, .int a1, .int a2] pm (mW (ou, (eI E, eZ E))) 0 0) (hfin : ∀ (k : Int32) (u : S) (r : Int32) (y1 : T2), post k u → pm r y1 → ∃ (E1 : cE) (x1 : T2) (f1 : Nat → Int64) (q1 : Nat → List Nat) (m1 : Nat), wf u = [(oo, oC lc f1)] ++ cW E1 x1 ∧ eI E1 = eI E ∧ eZ E1 = eZ E ∧ lwKX D lc s E1 ∧ eO E1 = eO E ∧ rI E1 x1 y1 q1 m1 ∧ y1 18 0 = k ∧ (k = nI 0 → f1 0 = sL r)) (hn : lwN p l e s m b below meth c D ou oo lc (eO E) (nI i) cells slots) (hP : va_P D vwCl (lwG ou E y oo lc f x) H) (hD : va_D (fun q : Nat => s.heap.size ≤ q) (lwG ou E y oo lc f x)) (hS : va_S (fun q : Nat => s.heap.size ≤ q) s.heap H locs) (hl : lv_has ls 7 [(0, .ref b), (1, .ref (eO E)), (2, .ref ou.1), (3, .ref oo), (4, .int (nI i))]) : W p l e room_1 s m #[Value.ref b] below meth c H locs cells slots (lw_Z below #[Value.ref b] s) (F0 m 532 ls []) := by
  obtain ⟨hx, hb, hr, hml, hown, hts0, hX, hbl, hlocks, hgv⟩ := C0
  have hown : s.vm.findClass RL = some m.cls := hown
  have hts : ∀ w ∈ wsL_law, w.before #[Value.ref b] s = true := fun w h => hts0 w (wsL_law_in w h)
  have hA : ∀ q : Nat, s.heap.size ≤ q → (fun q : Nat => s.heap.size ≤ q) q := fun _ h => h
  have hbA : ¬ (fun q : Nat => s.heap.size ≤ q) b := Nat.not_le.mpr hbl
  unfold lwN at hn
  subst ha1
  subst ha2
  refine lv_aload_n hx hb dL_law_532 rfl (lv_at hl 1 rfl) ?_
  refine lv_aload_n hx hb dL_law_533 rfl (lv_at hl 0 rfl) ?_
  refine lv_iload hx hb dL_law_534 (lv_at hl 4 rfl) ?_
  refine lv_iconst (v := nI 1) hx hb dL_law_536 (by decide) ?_
  refine q_add hx hb dL_law_537 ?_
  refine w_sld hx hb hX hbl hbA hS (by omega) hL dL_law_538 ?_
  refine lv_aload_n hx hb dL_law_539 rfl (lv_at hl 0 rfl) ?_
  refine lv_iload hx hb dL_law_540 (lv_at hl 4 rfl) ?_
  refine lv_iconst (v := nI 2) hx hb dL_law_542 (by decide) ?_
  refine q_add hx hb dL_law_543 ?_
  refine w_sld hx hb hX hbl hbA hS (by omega) hL dL_law_544 ?_
  refine lv_aload_n hx hb dL_law_545 rfl (lv_at hl 3 rfl) ?_
  refine w_calls (pre := mW (ou, (eI E, eZ E)) y) (w1 := [(oo, oC lc f)] ++ cW E x) (As := [.ref (eO E), .int (xs (i + 1)), .int (xs (i + 2)), .ref oo]) (rest := []) ⟨hx, hb, hml, hown, hts⟩ hJ (vx_cwSW 4 hts gL_law_L_send rfl rfl rfl (by decide +kernel) ⟨Nat.le_of_ble_eq_true rfl, Nat.le_of_ble_eq_true rfl⟩) hKX.1 hKX.2 hN hP hD hS hA hmap rfl hl.1 rfl (Nat.le_of_ble_eq_true rfl) dL_law_546 ⟨by show cells + mc ≤ 601024; omega, by show slots + ms ≤ 7293034; omega⟩ (fun k u H locs hw hP hD hS => ?_)
  refine lv_istore (lv' := [(5, .int k), (0, .ref b), (1, .ref (eO E)), (2, .ref ou.1), (3, .ref oo), (4, .int (nI i))]) hx hb dL_law_549 hl (by decide) rfl (fun ls hl => ?_)
  refine lv_aload_n hx hb dL_law_551 rfl (lv_at hl 3 rfl) ?_
  refine lv_aload_n hx hb dL_law_552 rfl (lv_at hl 1 rfl) ?_
  refine lv_iload hx hb dL_law_553 (lv_at hl 5 rfl) ?_
  refine lv_iconst (v := nI 1) hx hb dL_law_555 (by decide) ?_
  refine q_add hx hb dL_law_556 ?_
  refine w_sld hx hb hX hbl hbA hS (by omega) hL dL_law_557 ?_
  refine lv_aload_n hx hb dL_law_558 rfl (lv_at hl 1 rfl) ?_
  refine lv_iload hx hb dL_law_559 (lv_at hl 5 rfl) ?_
  refine lv_iconst (v := nI 2) hx hb dL_law_561 (by decide) ?_
  refine q_add hx hb dL_law_562 ?_
  refine w_sld hx hb hX hbl hbA hS (by omega) hL dL_law_563 ?_
  refine w_calli (w1 := mW (ou, (eI E, eZ E)) y) (sfx := wf u) (As := [.int (xs (i + 1)), .int (xs (i + 2))]) (rest := []) ⟨hx, hb, hml, hown, hts⟩ hM (cwV 2 hts gL_law_X3_send rfl hr1 hr2 (by decide +kernel) ⟨by have := hr3; show rmm.frames + 1 ≤ 11; omega, by have := hr4; show 8 + (4 + 11) + rmm.locals ≤ 406; omega⟩) (va_recv hKX.1 hP (ci := 4) (q0 := 0) rfl rfl) hKX.1 hP hD hS hA (fun _ _ _ => rfl) rfl hl.1 rfl (Nat.le_of_ble_eq_true rfl) dL_law_564 ⟨by show cells + mc + 0 ≤ 601024; omega, by show slots + ms + 0 ≤ 7293034; omega⟩ (fun r y1 H locs hw2 hP hD hS => ?_)
  obtain ⟨E1, x1, f1, q1, m1, hwf, hI, hZ, hKX1, hO, hR, h18, hout⟩ := hfin k u r y1 hw hw2
  rw [hwf, ← hI, ← hZ] at hP hD
  refine lv_istore (lv' := [(6, .int r), (5, .int k), (0, .ref b), (1, .ref (eO E)), (2, .ref ou.1), (3, .ref oo), (4, .int (nI i))]) hx hb dL_law_567 hl (by decide) rfl (fun ls hl => ?_)
  refine lv_aload_n hx hb dL_law_569 rfl (lv_at hl 4 rfl) ?_
  refine w_calli (w1 := mW (ou, (eI E1, eZ E1)) y1) (sfx := [(oo, oC lc f1)] ++ cW E1 x1) (As := []) (rest := []) ⟨hx, hb, hml, hown, hts⟩ (c_X3_thrown l D (ou, (eI E1, eZ E1)) (lwT E1 lc) y1) (cwV 0 hts gL_law_X3_thrown rfl rfl rfl (by decide +kernel) ⟨Nat.le_of_ble_eq_true rfl, Nat.le_of_ble_eq_true rfl⟩) (va_recv hKX1.1 hP (ci := 4) (q0 := 0) rfl rfl) hKX1.1 hP hD hS hA (fun _ _ _ => rfl) rfl hl.1 rfl (Nat.le_of_ble_eq_true rfl) dL_law_570 ⟨by show cells + mc + 0 + 0 ≤ 601024; omega, by show slots + ms + 0 + 0 ≤ 7293034; omega⟩ (fun t y2 H locs hw3 hP hD hS => ?_)
  obtain ⟨hw4, hw5⟩ := hw3
  rw [hw5] at hP hD
  refine lv_iload hx hb dL_law_573 (lv_at hl 1 rfl) ?_
  refine lv_icmp_eq (tgt := 580) hx hb dL_law_575 (by decide) (fun _ => ?_) (fun c1 => absurd (hw4.trans h18) c1)
  refine lv_iload hx hb dL_law_580 (lv_at hl 1 rfl) ?_
  refine lv_if_ne (tgt := 604) hx hb dL_law_582 (by decide) (fun _ => ?_) (fun c1 => ?_)
  · refine lv_goto (tgt := 1248) hx hb dL_law_604 (by decide) ?_
    refine W.widen (k := cells + 1) (n := slots + 10) (by omega) (by omega) ?_
    exact hn E1 x1 y1 q1 m1 f1 _ _ _ hKX1 hO hR hP hD hS (lv_sub hl [2, 3, 4, 5, 6] rfl)
  · refine lv_aload_n hx hb dL_law_585 rfl (lv_at hl 5 rfl) ?_
    refine lv_iconst (v := nI 0) hx hb dL_law_586 (by decide) ?_
    refine w_lald (tys := cT E1 [(lc, .long)]) hx hb hKX1.1 hP 18 5 rfl rfl (hout c1) dL_law_587 ?_
    refine lv_iload hx hb dL_law_588 (lv_at hl 0 rfl) ?_
    by_cases c3 : r = nI 0
    · refine lv_if_eq (tgt := 597) hx hb dL_law_590 (by decide) (fun _ => ?_) (fun c2 => absurd c3 c2)
      refine lv_lconst (v := sL r) hx hb dL_law_597 (by rw [c3]; rfl) ?_
      refine w_lcmp hx hb rfl dL_law_598 ?_
      refine lv_if_eq (tgt := 604) hx hb dL_law_599 (by decide) (fun _ => ?_) (fun c2 => absurd rfl c2)
      refine lv_goto (tgt := 1248) hx hb dL_law_604 (by decide) ?_
      refine W.widen (k := cells + 1) (n := slots + 10) (by omega) (by omega) ?_
      exact hn E1 x1 y1 q1 m1 f1 _ _ _ hKX1 hO hR hP hD hS (lv_sub hl [2, 3, 4, 5, 6] rfl)
    · refine lv_if_eq (tgt := 597) hx hb dL_law_590 (by decide) (fun c2 => absurd c2 c3) (fun _ => ?_)
      refine lv_lconst (v := sL r) hx hb dL_law_593 (by unfold sL; rw [if_neg c3]; rfl) ?_
      refine lv_goto (tgt := 598) hx hb dL_law_594 (by decide) ?_
      refine w_lcmp hx hb rfl dL_law_598 ?_
      refine lv_if_eq (tgt := 604) hx hb dL_law_599 (by decide) (fun _ => ?_) (fun c2 => absurd rfl c2)
      refine lv_goto (tgt := 1248) hx hb dL_law_604 (by decide) ?_
      refine W.widen (k := cells + 1) (n := slots + 10) (by omega) (by omega) ?_
      exact hn E1 x1 y1 q1 m1 f1 _ _ _ hKX1 hO hR hP hD hS (lv_sub hl [2, 3, 4, 5, 6] rfl)

set_option maxHeartbeats 4000000 in
set_option maxRecDepth 100000 in
theorem br_reprint {p : Program} {e : Env} {s : State} {m : MethodId} {below : List Frame} {meth : Method} {c : Code} {b L : Nat} {xs : Nat → Int32} {D : va_G} {ou : Nat × (Nat → Nat)} {oo : Nat} {lc : ClassId} {E : cE} {x y : T2} {f : Nat → Int64} {cells slots : Nat} {ls : Array Slot} {H : Heap} {locs : List Loc} {S : Type} {post : Int32 → S → Prop} {wf : S → va_W} {pm : Int32 → T2 → Prop} (l : Launch) (hL : L ≤ 2048) (C0 : lw_At p s m meth c b L xs) (hN : jNc s) (hKX : lwKX D lc s E) {i : Nat} (hi : i + 4 ≤ L) (hcl : cells + 1 ≤ 601024) (hsl : slots + 10 ≤ 7293034) {mc ms : Nat} (hmc : mc ≤ 1) (hms : ms ≤ 10) {rmm : Room} (hr1 : rmm.cells = 0) (hr2 : rmm.slots = 0) (hr3 : rmm.frames ≤ 3) (hr4 : rmm.locals ≤ 71) {a1 : Int32} (ha1 : xs (i + 1) = a1) (hJ : jI l yL_reprint wsL_reprint ({ frames := 8, cells := mc, slots := ms, locals := 170 } : Room) D E [(lc, .long)] ([(oo, oC lc f)] ++ cW E x) [.ref (eO E), .int a1, .ref oo] post wf mc ms) (hmap : ∀ r u, post r u → ∃ new : List Nat, (wf u).map Prod.fst = ([(oo, oC lc f)] ++ cW E x).map Prod.fst ++ new ∧ new.length ≤ 1) (hM : gI l yX3_reprint wsX3_reprint rmm D (mT (ou, (eI E, eZ E)) (lwT E lc)) (mW (ou, (eI E, eZ E)) y) [.ref ou.1, .int a1] pm (mW (ou, (eI E, eZ E))) 0 0) (hfin : ∀ (k : Int32) (u : S) (r : Int32) (y1 : T2), post k u → pm r y1 → ∃ (E1 : cE) (x1 : T2) (f1 : Nat → Int64) (q1 : Nat → List Nat) (m1 : Nat), wf u = [(oo, oC lc f1)] ++ cW E1 x1 ∧ eI E1 = eI E ∧ eZ E1 = eZ E ∧ lwKX D lc s E1 ∧ eO E1 = eO E ∧ rI E1 x1 y1 q1 m1 ∧ y1 18 0 = k ∧ (k = nI 0 → f1 0 = r.toInt64)) (hn : lwN p l e s m b below meth c D ou oo lc (eO E) (nI i) cells slots) (hP : va_P D vwCl (lwG ou E y oo lc f x) H) (hD : va_D (fun q : Nat => s.heap.size ≤ q) (lwG ou E y oo lc f x)) (hS : va_S (fun q : Nat => s.heap.size ≤ q) s.heap H locs) (hl : lv_has ls 7 [(0, .ref b), (1, .ref (eO E)), (2, .ref ou.1), (3, .ref oo), (4, .int (nI i))]) : W p l e room_1 s m #[Value.ref b] below meth c H locs cells slots (lw_Z below #[Value.ref b] s) (F0 m 607 ls []) := by
  obtain ⟨hx, hb, hr, hml, hown, hts0, hX, hbl, hlocks, hgv⟩ := C0
  have hown : s.vm.findClass RL = some m.cls := hown
  have hts : ∀ w ∈ wsL_law, w.before #[Value.ref b] s = true := fun w h => hts0 w (wsL_law_in w h)
  have hA : ∀ q : Nat, s.heap.size ≤ q → (fun q : Nat => s.heap.size ≤ q) q := fun _ h => h
  have hbA : ¬ (fun q : Nat => s.heap.size ≤ q) b := Nat.not_le.mpr hbl
  unfold lwN at hn
  subst ha1
  refine lv_aload_n hx hb dL_law_607 rfl (lv_at hl 1 rfl) ?_
  refine lv_aload_n hx hb dL_law_608 rfl (lv_at hl 0 rfl) ?_
  refine lv_iload hx hb dL_law_609 (lv_at hl 4 rfl) ?_
  refine lv_iconst (v := nI 1) hx hb dL_law_611 (by decide) ?_
  refine q_add hx hb dL_law_612 ?_
  refine w_sld hx hb hX hbl hbA hS (by omega) hL dL_law_613 ?_
  refine lv_aload_n hx hb dL_law_614 rfl (lv_at hl 3 rfl) ?_
  refine w_calls (pre := mW (ou, (eI E, eZ E)) y) (w1 := [(oo, oC lc f)] ++ cW E x) (As := [.ref (eO E), .int (xs (i + 1)), .ref oo]) (rest := []) ⟨hx, hb, hml, hown, hts⟩ hJ (vx_cwSW 3 hts gL_law_L_reprint rfl rfl rfl (by decide +kernel) ⟨Nat.le_of_ble_eq_true rfl, Nat.le_of_ble_eq_true rfl⟩) hKX.1 hKX.2 hN hP hD hS hA hmap rfl hl.1 rfl (Nat.le_of_ble_eq_true rfl) dL_law_615 ⟨by show cells + mc ≤ 601024; omega, by show slots + ms ≤ 7293034; omega⟩ (fun k u H locs hw hP hD hS => ?_)
  refine lv_istore (lv' := [(5, .int k), (0, .ref b), (1, .ref (eO E)), (2, .ref ou.1), (3, .ref oo), (4, .int (nI i))]) hx hb dL_law_618 hl (by decide) rfl (fun ls hl => ?_)
  refine lv_aload_n hx hb dL_law_620 rfl (lv_at hl 3 rfl) ?_
  refine lv_aload_n hx hb dL_law_621 rfl (lv_at hl 1 rfl) ?_
  refine lv_iload hx hb dL_law_622 (lv_at hl 5 rfl) ?_
  refine lv_iconst (v := nI 1) hx hb dL_law_624 (by decide) ?_
  refine q_add hx hb dL_law_625 ?_
  refine w_sld hx hb hX hbl hbA hS (by omega) hL dL_law_626 ?_
  refine w_calli (w1 := mW (ou, (eI E, eZ E)) y) (sfx := wf u) (As := [.int (xs (i + 1))]) (rest := []) ⟨hx, hb, hml, hown, hts⟩ hM (cwV 1 hts gL_law_X3_reprint rfl hr1 hr2 (by decide +kernel) ⟨by have := hr3; show rmm.frames + 1 ≤ 11; omega, by have := hr4; show 8 + (4 + 11) + rmm.locals ≤ 406; omega⟩) (va_recv hKX.1 hP (ci := 4) (q0 := 0) rfl rfl) hKX.1 hP hD hS hA (fun _ _ _ => rfl) rfl hl.1 rfl (Nat.le_of_ble_eq_true rfl) dL_law_627 ⟨by show cells + mc + 0 ≤ 601024; omega, by show slots + ms + 0 ≤ 7293034; omega⟩ (fun r y1 H locs hw2 hP hD hS => ?_)
  obtain ⟨E1, x1, f1, q1, m1, hwf, hI, hZ, hKX1, hO, hR, h18, hout⟩ := hfin k u r y1 hw hw2
  rw [hwf, ← hI, ← hZ] at hP hD
  refine lv_istore (lv' := [(6, .int r), (5, .int k), (0, .ref b), (1, .ref (eO E)), (2, .ref ou.1), (3, .ref oo), (4, .int (nI i))]) hx hb dL_law_630 hl (by decide) rfl (fun ls hl => ?_)
  refine lv_aload_n hx hb dL_law_632 rfl (lv_at hl 4 rfl) ?_
  refine w_calli (w1 := mW (ou, (eI E1, eZ E1)) y1) (sfx := [(oo, oC lc f1)] ++ cW E1 x1) (As := []) (rest := []) ⟨hx, hb, hml, hown, hts⟩ (c_X3_thrown l D (ou, (eI E1, eZ E1)) (lwT E1 lc) y1) (cwV 0 hts gL_law_X3_thrown rfl rfl rfl (by decide +kernel) ⟨Nat.le_of_ble_eq_true rfl, Nat.le_of_ble_eq_true rfl⟩) (va_recv hKX1.1 hP (ci := 4) (q0 := 0) rfl rfl) hKX1.1 hP hD hS hA (fun _ _ _ => rfl) rfl hl.1 rfl (Nat.le_of_ble_eq_true rfl) dL_law_633 ⟨by show cells + mc + 0 + 0 ≤ 601024; omega, by show slots + ms + 0 + 0 ≤ 7293034; omega⟩ (fun t y2 H locs hw3 hP hD hS => ?_)
  obtain ⟨hw4, hw5⟩ := hw3
  rw [hw5] at hP hD
  refine lv_iload hx hb dL_law_636 (lv_at hl 1 rfl) ?_
  refine lv_icmp_eq (tgt := 643) hx hb dL_law_638 (by decide) (fun _ => ?_) (fun c1 => absurd (hw4.trans h18) c1)
  refine lv_iload hx hb dL_law_643 (lv_at hl 1 rfl) ?_
  refine lv_if_ne (tgt := 660) hx hb dL_law_645 (by decide) (fun _ => ?_) (fun c1 => ?_)
  · refine lv_goto (tgt := 1248) hx hb dL_law_660 (by decide) ?_
    refine W.widen (k := cells + 1) (n := slots + 10) (by omega) (by omega) ?_
    exact hn E1 x1 y1 q1 m1 f1 _ _ _ hKX1 hO hR hP hD hS (lv_sub hl [2, 3, 4, 5, 6] rfl)
  · refine lv_aload_n hx hb dL_law_648 rfl (lv_at hl 5 rfl) ?_
    refine lv_iconst (v := nI 0) hx hb dL_law_649 (by decide) ?_
    refine w_lald (tys := cT E1 [(lc, .long)]) hx hb hKX1.1 hP 18 5 rfl rfl (hout c1) dL_law_650 ?_
    refine lv_iload hx hb dL_law_651 (lv_at hl 0 rfl) ?_
    refine lv_i2l (v := r.toInt64) hx hb dL_law_653 rfl ?_
    refine w_lcmp hx hb rfl dL_law_654 ?_
    refine lv_if_eq (tgt := 660) hx hb dL_law_655 (by decide) (fun _ => ?_) (fun c2 => absurd rfl c2)
    refine lv_goto (tgt := 1248) hx hb dL_law_660 (by decide) ?_
    refine W.widen (k := cells + 1) (n := slots + 10) (by omega) (by omega) ?_
    exact hn E1 x1 y1 q1 m1 f1 _ _ _ hKX1 hO hR hP hD hS (lv_sub hl [2, 3, 4, 5, 6] rfl)

set_option maxHeartbeats 4000000 in
set_option maxRecDepth 100000 in
theorem br_stateOf {p : Program} {e : Env} {s : State} {m : MethodId} {below : List Frame} {meth : Method} {c : Code} {b L : Nat} {xs : Nat → Int32} {D : va_G} {ou : Nat × (Nat → Nat)} {oo : Nat} {lc : ClassId} {E : cE} {x y : T2} {f : Nat → Int64} {cells slots : Nat} {ls : Array Slot} {H : Heap} {locs : List Loc} {S : Type} {post : Int32 → S → Prop} {wf : S → va_W} {pm : Int32 → T2 → Prop} (l : Launch) (hL : L ≤ 2048) (C0 : lw_At p s m meth c b L xs) (hN : jNc s) (hKX : lwKX D lc s E) {i : Nat} (hi : i + 4 ≤ L) (hcl : cells + 1 ≤ 601024) (hsl : slots + 10 ≤ 7293034) {mc ms : Nat} (hmc : mc ≤ 1) (hms : ms ≤ 10) {rmm : Room} (hr1 : rmm.cells = 0) (hr2 : rmm.slots = 0) (hr3 : rmm.frames ≤ 3) (hr4 : rmm.locals ≤ 71) {a1 : Int32} (ha1 : xs (i + 1) = a1) (hJ : jI l yL_stateOf wsL_stateOf ({ frames := 8, cells := mc, slots := ms, locals := 170 } : Room) D E [(lc, .long)] ([(oo, oC lc f)] ++ cW E x) [.ref (eO E), .int a1, .ref oo] post wf mc ms) (hmap : ∀ r u, post r u → ∃ new : List Nat, (wf u).map Prod.fst = ([(oo, oC lc f)] ++ cW E x).map Prod.fst ++ new ∧ new.length ≤ 1) (hM : gI l yX3_stateOf wsX3_stateOf rmm D (mT (ou, (eI E, eZ E)) (lwT E lc)) (mW (ou, (eI E, eZ E)) y) [.ref ou.1, .int a1] pm (mW (ou, (eI E, eZ E))) 0 0) (hfin : ∀ (k : Int32) (u : S) (r : Int32) (y1 : T2), post k u → pm r y1 → ∃ (E1 : cE) (x1 : T2) (f1 : Nat → Int64) (q1 : Nat → List Nat) (m1 : Nat), wf u = [(oo, oC lc f1)] ++ cW E1 x1 ∧ eI E1 = eI E ∧ eZ E1 = eZ E ∧ lwKX D lc s E1 ∧ eO E1 = eO E ∧ rI E1 x1 y1 q1 m1 ∧ y1 18 0 = k ∧ (k = nI 0 → f1 0 = r.toInt64)) (hn : lwN p l e s m b below meth c D ou oo lc (eO E) (nI i) cells slots) (hP : va_P D vwCl (lwG ou E y oo lc f x) H) (hD : va_D (fun q : Nat => s.heap.size ≤ q) (lwG ou E y oo lc f x)) (hS : va_S (fun q : Nat => s.heap.size ≤ q) s.heap H locs) (hl : lv_has ls 7 [(0, .ref b), (1, .ref (eO E)), (2, .ref ou.1), (3, .ref oo), (4, .int (nI i))]) : W p l e room_1 s m #[Value.ref b] below meth c H locs cells slots (lw_Z below #[Value.ref b] s) (F0 m 676 ls []) := by
  obtain ⟨hx, hb, hr, hml, hown, hts0, hX, hbl, hlocks, hgv⟩ := C0
  have hown : s.vm.findClass RL = some m.cls := hown
  have hts : ∀ w ∈ wsL_law, w.before #[Value.ref b] s = true := fun w h => hts0 w (wsL_law_in w h)
  have hA : ∀ q : Nat, s.heap.size ≤ q → (fun q : Nat => s.heap.size ≤ q) q := fun _ h => h
  have hbA : ¬ (fun q : Nat => s.heap.size ≤ q) b := Nat.not_le.mpr hbl
  unfold lwN at hn
  subst ha1
  refine lv_aload_n hx hb dL_law_676 rfl (lv_at hl 1 rfl) ?_
  refine lv_aload_n hx hb dL_law_677 rfl (lv_at hl 0 rfl) ?_
  refine lv_iload hx hb dL_law_678 (lv_at hl 4 rfl) ?_
  refine lv_iconst (v := nI 1) hx hb dL_law_680 (by decide) ?_
  refine q_add hx hb dL_law_681 ?_
  refine w_sld hx hb hX hbl hbA hS (by omega) hL dL_law_682 ?_
  refine lv_aload_n hx hb dL_law_683 rfl (lv_at hl 3 rfl) ?_
  refine w_calls (pre := mW (ou, (eI E, eZ E)) y) (w1 := [(oo, oC lc f)] ++ cW E x) (As := [.ref (eO E), .int (xs (i + 1)), .ref oo]) (rest := []) ⟨hx, hb, hml, hown, hts⟩ hJ (vx_cwSW 3 hts gL_law_L_stateOf rfl rfl rfl (by decide +kernel) ⟨Nat.le_of_ble_eq_true rfl, Nat.le_of_ble_eq_true rfl⟩) hKX.1 hKX.2 hN hP hD hS hA hmap rfl hl.1 rfl (Nat.le_of_ble_eq_true rfl) dL_law_684 ⟨by show cells + mc ≤ 601024; omega, by show slots + ms ≤ 7293034; omega⟩ (fun k u H locs hw hP hD hS => ?_)
  refine lv_istore (lv' := [(5, .int k), (0, .ref b), (1, .ref (eO E)), (2, .ref ou.1), (3, .ref oo), (4, .int (nI i))]) hx hb dL_law_687 hl (by decide) rfl (fun ls hl => ?_)
  refine lv_aload_n hx hb dL_law_689 rfl (lv_at hl 3 rfl) ?_
  refine lv_aload_n hx hb dL_law_690 rfl (lv_at hl 1 rfl) ?_
  refine lv_iload hx hb dL_law_691 (lv_at hl 5 rfl) ?_
  refine lv_iconst (v := nI 1) hx hb dL_law_693 (by decide) ?_
  refine q_add hx hb dL_law_694 ?_
  refine w_sld hx hb hX hbl hbA hS (by omega) hL dL_law_695 ?_
  refine w_calli (w1 := mW (ou, (eI E, eZ E)) y) (sfx := wf u) (As := [.int (xs (i + 1))]) (rest := []) ⟨hx, hb, hml, hown, hts⟩ hM (cwV 1 hts gL_law_X3_stateOf rfl hr1 hr2 (by decide +kernel) ⟨by have := hr3; show rmm.frames + 1 ≤ 11; omega, by have := hr4; show 8 + (2 + 11) + rmm.locals ≤ 406; omega⟩) (va_recv hKX.1 hP (ci := 4) (q0 := 0) rfl rfl) hKX.1 hP hD hS hA (fun _ _ _ => rfl) rfl hl.1 rfl (Nat.le_of_ble_eq_true rfl) dL_law_696 ⟨by show cells + mc + 0 ≤ 601024; omega, by show slots + ms + 0 ≤ 7293034; omega⟩ (fun r y1 H locs hw2 hP hD hS => ?_)
  obtain ⟨E1, x1, f1, q1, m1, hwf, hI, hZ, hKX1, hO, hR, h18, hout⟩ := hfin k u r y1 hw hw2
  rw [hwf, ← hI, ← hZ] at hP hD
  refine lv_istore (lv' := [(6, .int r), (5, .int k), (0, .ref b), (1, .ref (eO E)), (2, .ref ou.1), (3, .ref oo), (4, .int (nI i))]) hx hb dL_law_699 hl (by decide) rfl (fun ls hl => ?_)
  refine lv_aload_n hx hb dL_law_701 rfl (lv_at hl 4 rfl) ?_
  refine w_calli (w1 := mW (ou, (eI E1, eZ E1)) y1) (sfx := [(oo, oC lc f1)] ++ cW E1 x1) (As := []) (rest := []) ⟨hx, hb, hml, hown, hts⟩ (c_X3_thrown l D (ou, (eI E1, eZ E1)) (lwT E1 lc) y1) (cwV 0 hts gL_law_X3_thrown rfl rfl rfl (by decide +kernel) ⟨Nat.le_of_ble_eq_true rfl, Nat.le_of_ble_eq_true rfl⟩) (va_recv hKX1.1 hP (ci := 4) (q0 := 0) rfl rfl) hKX1.1 hP hD hS hA (fun _ _ _ => rfl) rfl hl.1 rfl (Nat.le_of_ble_eq_true rfl) dL_law_702 ⟨by show cells + mc + 0 + 0 ≤ 601024; omega, by show slots + ms + 0 + 0 ≤ 7293034; omega⟩ (fun t y2 H locs hw3 hP hD hS => ?_)
  obtain ⟨hw4, hw5⟩ := hw3
  rw [hw5] at hP hD
  refine lv_iload hx hb dL_law_705 (lv_at hl 1 rfl) ?_
  refine lv_icmp_eq (tgt := 712) hx hb dL_law_707 (by decide) (fun _ => ?_) (fun c1 => absurd (hw4.trans h18) c1)
  refine lv_iload hx hb dL_law_712 (lv_at hl 1 rfl) ?_
  refine lv_if_ne (tgt := 729) hx hb dL_law_714 (by decide) (fun _ => ?_) (fun c1 => ?_)
  · refine lv_goto (tgt := 1248) hx hb dL_law_729 (by decide) ?_
    refine W.widen (k := cells + 1) (n := slots + 10) (by omega) (by omega) ?_
    exact hn E1 x1 y1 q1 m1 f1 _ _ _ hKX1 hO hR hP hD hS (lv_sub hl [2, 3, 4, 5, 6] rfl)
  · refine lv_aload_n hx hb dL_law_717 rfl (lv_at hl 5 rfl) ?_
    refine lv_iconst (v := nI 0) hx hb dL_law_718 (by decide) ?_
    refine w_lald (tys := cT E1 [(lc, .long)]) hx hb hKX1.1 hP 18 5 rfl rfl (hout c1) dL_law_719 ?_
    refine lv_iload hx hb dL_law_720 (lv_at hl 0 rfl) ?_
    refine lv_i2l (v := r.toInt64) hx hb dL_law_722 rfl ?_
    refine w_lcmp hx hb rfl dL_law_723 ?_
    refine lv_if_eq (tgt := 729) hx hb dL_law_724 (by decide) (fun _ => ?_) (fun c2 => absurd rfl c2)
    refine lv_goto (tgt := 1248) hx hb dL_law_729 (by decide) ?_
    refine W.widen (k := cells + 1) (n := slots + 10) (by omega) (by omega) ?_
    exact hn E1 x1 y1 q1 m1 f1 _ _ _ hKX1 hO hR hP hD hS (lv_sub hl [2, 3, 4, 5, 6] rfl)

