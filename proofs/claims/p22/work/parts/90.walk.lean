/-! the start -/
def rI (E : cE) (x y : T2) (q : Nat → List Nat) (m : Nat) : Prop := wR E x y q m ∧ y 0 0 = nI m ∧ m ≤ 1200 ∧ wRm y
theorem w_start {E : cE} {o : Nat} {u : iU} : rI (iE E o u) iX (mI2 8) (fun _ => []) 0 := by
  have hz : ∀ f, f ≠ 1 → f ≠ 2 → f ≠ 9 → f ≠ 12 → f ≠ 15 → ∀ i, mI2 8 f i = nI 0 := fun f h1 h2 h3 h4 h5 i => by
    unfold mI2 mI1
    rw [if_neg (by omega)]
    by_cases h : i < 6
    · rw [if_pos h, if_neg h1, if_neg h2, if_neg h5]
    · rw [if_neg h]
  have h9 : ∀ i, i < 8 → mI2 8 9 i = -1 := fun i hi => by
    unfold mI2
    rw [if_pos ⟨hi, Or.inl rfl⟩]
  have h12 : ∀ i, i < 8 → mI2 8 12 i = -1 := fun i hi => by
    unfold mI2
    rw [if_pos ⟨hi, Or.inr rfl⟩]
  have h1 : ∀ j, j < 6 → mI2 8 1 j = nI 2 := fun j hj => by
    unfold mI2 mI1
    rw [if_neg (by omega), if_pos hj, if_pos rfl]
  have h2 : ∀ j, j < 6 → mI2 8 2 j = nI 5 := fun j hj => by
    unfold mI2 mI1
    rw [if_neg (by omega), if_pos hj, if_neg (by decide), if_pos rfl]
  have h15 : ∀ j, j < 6 → mI2 8 15 j = nI 10 := fun j hj => by
    unfold mI2 mI1
    rw [if_neg (by omega), if_pos hj, if_neg (by decide), if_neg (by decide), if_pos rfl]
  have z0 := hz 0 (by decide) (by decide) (by decide) (by decide) (by decide)
  have z3 := hz 3 (by decide) (by decide) (by decide) (by decide) (by decide)
  have z5 := hz 5 (by decide) (by decide) (by decide) (by decide) (by decide)
  have z7 := hz 7 (by decide) (by decide) (by decide) (by decide) (by decide)
  have z8 := hz 8 (by decide) (by decide) (by decide) (by decide) (by decide)
  have z10 := hz 10 (by decide) (by decide) (by decide) (by decide) (by decide)
  have z11 := hz 11 (by decide) (by decide) (by decide) (by decide) (by decide)
  have z14 := hz 14 (by decide) (by decide) (by decide) (by decide) (by decide)
  have z16 := hz 16 (by decide) (by decide) (by decide) (by decide) (by decide)
  have z17 := hz 17 (by decide) (by decide) (by decide) (by decide) (by decide)
  refine ⟨⟨⟨fun p hp => ⟨List.nodup_nil, z5 p, fun k v h => by cases h⟩, fun i hi => ⟨(z8 i).symm ▸ rfl, (h9 i hi).symm ▸ rfl⟩, fun p hp k v h => by cases h⟩,
    ⟨fun v hv => Or.inl ⟨z8 v, h9 v hv⟩, fun v hv => ⟨Or.inl (z14 v), Or.inl (h12 v hv)⟩, fun p hp => ⟨0, Nat.zero_le _, fun k v h => by cases h⟩⟩,
    ⟨⟨(z0 0).symm ▸ rfl, fun j hj => ⟨(h1 j hj).symm ▸ rfl, (h2 j hj).symm ▸ rfl, Or.inl ⟨rfl, z3 j⟩, (h15 j hj).symm ▸ rfl, (z16 j).symm ▸ rfl⟩⟩,
      fun i hi => ⟨fun c => absurd ((z8 i).symm.trans c) nI_02, (z11 i).symm ▸ rfl, (h12 i hi).symm ▸ rfl, Or.inl ⟨h12 i hi, rfl⟩, (z14 i).symm ▸ rfl, fun _ => rfl⟩⟩,
    fun v hv => ⟨0, Nat.zero_le _, z7 v, rfl, fun k hk => absurd hk (Nat.not_lt_zero k), fun i k _ hk => absurd hk (Nat.not_lt_zero k), Or.inr ⟨rfl, List.not_mem_nil, rfl⟩⟩,
    fun v j hv hj => (z17 _).symm ▸ rfl⟩, z0 0, by decide, fun p hp => ⟨2, by decide, h1 p hp⟩⟩

theorem cdV_0 {E : cE} {o : Nat} {u : iU} (j : Nat) : ∀ n, cdV (iE E o u) j n = 0
  | 0 => rfl
  | n + 1 => by
    rw [cdV, cdV_0 j n]
    rfl
theorem cdA_0 {E : cE} {o : Nat} {u : iU} : ∀ n, cdA (iE E o u) iX n = nI (10 * n)
  | 0 => rfl
  | n + 1 => by
    rw [cdA, cdA_0 n, cdV_0, Int32.add_zero]
    show nI (10 * n) + nI 10 = nI (10 * (n + 1))
    rw [nI_add]
    rfl
theorem z_start {E : cE} {o : Nat} {u : iU} : pI (iE E o u) iX 0 0 (nI 0) := by
  obtain ⟨h1, h2, h3, h4⟩ := w_start (E := E) (o := o) (u := u)
  exact ⟨⟨_, _, h1, h2, h4⟩, h3, fun v hv => ⟨0, by decide, rfl⟩, fun v hv => Or.inl rfl, fun j hj => ⟨10, 0, rfl, rfl, by decide⟩, by rw [cdA_0]; decide⟩
set_option maxHeartbeats 4000000 in
set_option maxRecDepth 100000 in
/-- from the entry, for every script of at most 260 ints, the law comes to its end with true -/
theorem whole_start {p : Program} {e : Env} {s : State} {m : MethodId} {below : List Frame} {meth : Method} {c : Code} (l : Launch) (hflags : l.flags = flags0) {b L : Nat} {xs : Nat → Int32} (hL : L ≤ 260) (C0 : lw_At p s m meth c b L xs) : W p l e room_1 s m #[Value.ref b] below meth c s.heap [] 0 0 (lw_Z below #[Value.ref b] s) (entryFrame m ([Value.ref b] : List Value).toArray 17) := by
  have hl0 := l_noTrace hflags
  obtain ⟨D, E0, ci, hE0, hN⟩ := st_know C0
  have C1 := C0
  obtain ⟨hx, hb, hr, hml, hown, hts0, hX0, hbl, hlocks, hgv⟩ := C1
  have hown : s.vm.findClass RL = some m.cls := hown
  have hts : ∀ w ∈ wsL_law, w.before #[Value.ref b] s = true := fun w h => hts0 w (wsL_law_in w h)
  have hA : ∀ q : Nat, s.heap.size ≤ q → (fun q : Nat => s.heap.size ≤ q) q := fun _ h => h
  have hS : va_S (fun q : Nat => s.heap.size ≤ q) s.heap s.heap [] := va_S.rf
  have hK := hE0.1
  have hX := hE0.2.1
  have hP : va_P D vwCl [] s.heap := fun k q h => by simp at h
  have hD : va_D (fun q : Nat => s.heap.size ≤ q) [] := ⟨fun i j p q h => by simp at h, fun k q h => by simp at h⟩
  have hl := lv_entry ([.ref b]) (n := 17) (Nat.le_of_ble_eq_true rfl)
  rw [lg_entry_eq]
  generalize (lg_sl ([.ref b]) ++ List.replicate (17 - (lg_sl ([.ref b])).length) Slot.unset).toArray = ls at hl ⊢
  have hl : lv_has ls 17 [(0, .ref b)] := hl
  refine va_new (ci := 3) (fs := [.null, .null, .int 0]) (C := RX2) (T := TX2) (N := 3) hx hb hts inlX2 tyX2 tyX2_ok hown (hts (.classLink RL 10 RX2) (by decide +kernel)) (hts (.instantiable RX2 3) (by decide +kernel)) (hts (.initialized RX2) (by decide +kernel)) hK hP hD hS hA rfl (fun j hj => by rcases (show j = 0 ∨ j = 1 ∨ j = 2 by omega) with rfl | rfl | rfl <;> rfl) (Nat.le_of_ble_eq_true rfl) (Nat.le_of_ble_eq_true rfl) dL_law_0 (fun o H hP hD hS => ?_)
  have hP : va_P D vwCl [(o, .inr (3, [.null, .null, .int 0]))] H := hP
  have hD : va_D (fun q : Nat => s.heap.size ≤ q) [(o, .inr (3, [.null, .null, .int 0]))] := hD
  refine W.widen (k := 1) (n := 3) (by omega) (by omega) ?_
  refine lv_dup hx hb dL_law_3 rfl ?_
  refine h_callI (As := []) (rest := [.ref o]) ⟨hx, hb, hml, hown, hts⟩ (c_X2_init l D E0 [] o) (cwI 0 hts gL_law_X2_init rfl rfl rfl (hts (.initialized RX2) (by decide +kernel)) (hts (.methodLink RL 108 yX2_init) (by decide +kernel)) (hts (.instanceMethod yX2_init) (by decide +kernel)) rfl (by decide +kernel) ⟨Nat.le_of_ble_eq_true rfl, Nat.le_of_ble_eq_true rfl⟩) hK hX hP hD hS hA rfl hl.1 rfl (Nat.le_of_ble_eq_true rfl) dL_law_4 ⟨Nat.le_of_ble_eq_true rfl, Nat.le_of_ble_eq_true rfl⟩ (fun u2 H locs _ hP hD hS => ?_)
  refine W.widen (k := 33) (n := 205) (by omega) (by omega) ?_
  refine lv_astore_n (lv' := [(1, .ref o), (0, .ref b)]) hx hb dL_law_7 rfl hl (by decide) rfl (fun ls hl => ?_)
  refine lv_bipush (v := nI 8) hx hb dL_law_8 (by decide) ?_
  refine va_newa (atype := .int) (ty := .int) hx hb (hts (.arrayClass .int) (by decide +kernel)) rfl hK hP hD hS hA (N' := 8) (a0 := (8, .inl (fun _ => 0))) (fun _ => rfl) (nI_pos (by decide)) (by decide +kernel) (by decide +kernel) (Nat.le_of_ble_eq_true rfl) (Nat.le_of_ble_eq_true rfl) dL_law_10 (fun ha cA H hK9 hP hD hS => ?_)
  have hcA : cA = eI E0 := nm_eq (K_last hK9) (hK.2 0 _ rfl).2
  have hci : cA = ci := hcA.trans hE0.2.2.2
  subst hci
  have hP := hP.sub (ws' := lW ha cA (fun _ => 0) (iE E0 o u2) iX) [33, 0, 1, 2, 3, 4, 5, 6, 7, 8, 9, 10, 11, 12, 13, 14, 15, 16, 17, 18, 19, 20, 21, 22, 23, 24, 25, 26, 27, 28, 29, 30, 31, 32] rfl
  have hD := hD.sub (ws' := lW ha cA (fun _ => 0) (iE E0 o u2) iX) [33, 0, 1, 2, 3, 4, 5, 6, 7, 8, 9, 10, 11, 12, 13, 14, 15, 16, 17, 18, 19, 20, 21, 22, 23, 24, 25, 26, 27, 28, 29, 30, 31, 32] (by decide) rfl
  have hE : lS D s o cA (iE E0 o u2) := ⟨hE0.1, hE0.2.1, rfl, hE0.2.2.2⟩
  refine lv_astore_n (lv' := [(2, .ref ha), (1, .ref o), (0, .ref b)]) hx hb dL_law_12 rfl hl (by decide) rfl (fun ls hl => ?_)
  refine lv_iconst (v := nI 0) hx hb dL_law_13 (by decide) ?_
  refine lv_istore_n (lv' := [(3, .int (nI 0)), (2, .ref ha), (1, .ref o), (0, .ref b)]) hx hb dL_law_14 rfl hl (by decide) rfl (fun ls hl => ?_)
  refine lv_iconst (v := nI 0) hx hb dL_law_15 (by decide) ?_
  refine lv_istore (lv' := [(4, .int (nI 0)), (3, .int (nI 0)), (2, .ref ha), (1, .ref o), (0, .ref b)]) hx hb dL_law_16 hl (by decide) rfl (fun ls hl => ?_)
  refine lv_aload_n hx hb dL_law_18 rfl (lv_at hl 3 rfl) ?_
  refine lv_iconst (v := nI 0) hx hb dL_law_19 (by decide) ?_
  refine x_fits (pre := [(ha, .inl (cA, 8, .inl (fun _ => 0)))]) (rest := []) ⟨hx, hb, hml, hown, hts⟩ hE.2.2.1 (by decide) z_start (va_cwS 2 hts gL_law_L_fits rfl rfl rfl (by decide +kernel) ⟨Nat.le_of_ble_eq_true rfl, Nat.le_of_ble_eq_true rfl⟩) hE.1 hE.2.1 hN hP hD hS hA hl.1 (Nat.le_of_ble_eq_true rfl) dL_law_20 ⟨Nat.le_of_ble_eq_true rfl, Nat.le_of_ble_eq_true rfl⟩ (fun H locs hP hD hS => ?_)
  refine lv_istore (lv' := [(5, .int (nI 1)), (4, .int (nI 0)), (3, .int (nI 0)), (2, .ref ha), (1, .ref o), (0, .ref b)]) hx hb dL_law_23 hl (by decide) rfl (fun ls hl => ?_)
  refine lv_iconst (v := nI 0) hx hb dL_law_25 (by decide) ?_
  refine lv_istore (lv' := [(6, .int (nI 0)), (5, .int (nI 1)), (4, .int (nI 0)), (3, .int (nI 0)), (2, .ref ha), (1, .ref o), (0, .ref b)]) hx hb dL_law_26 hl (by decide) rfl (fun ls hl => ?_)
  refine W.widen (k := 100) (n := 300) (Nat.le_of_ble_eq_true rfl) (Nat.le_of_ble_eq_true rfl) ?_
  exact law_loop l hl0 (by omega) C0 hN 56 0 (iE E0 o u2) iX 0 100 300 (nI 0) (fun _ => 0) _ _ _ rfl (by decide) (by decide) hE z_start (by decide) (fun v hv => rfl) hP hD hS (lv_sub hl [6, 5, 4, 3, 2, 1, 0] rfl)
