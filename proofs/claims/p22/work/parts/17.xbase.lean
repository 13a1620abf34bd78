/-! what the class's methods take from the start of the law: words on nest mates, text constants, statics that nobody writes -/
def cNl : List Cond := [.fieldLinkNest RX2 133 "FairFolio$Pavilion" "number" "I" "FairFolio", .fieldLinkNest RX2 40 "FairFolio$Pavilion" "room" "I" "FairFolio", .fieldLinkNest RX2 43 "FairFolio$Pavilion" "time" "I" "FairFolio", .fieldLinkNest RX2 46 "FairFolio$Pavilion" "isOpen" "Z" "FairFolio", .fieldLinkNest RX2 123 "FairFolio$Pavilion" "stock" "I" "FairFolio", .fieldLinkNest RX2 126 "FairFolio$Pavilion" "demand" "I" "FairFolio", .fieldLinkNest RX2 67 "FairFolio$Visitor" "plan" "Ljava/util/ArrayList;" "FairFolio", .fieldLinkNest RX2 129 "FairFolio$Visitor" "sent" "[I" "FairFolio", .fieldLinkNest RX2 138 "FairFolio$Visitor" "state" "I" "FairFolio", .fieldLinkNest RX2 141 "FairFolio$Visitor" "where" "I" "FairFolio", .fieldLinkNest RX2 144 "FairFolio$Visitor" "place" "I" "FairFolio", .fieldLinkNest RX2 180 "FairFolio$Visitor" "visitEnd" "I" "FairFolio", .fieldLinkNest RX2 147 "FairFolio$Visitor" "stamps" "I" "FairFolio", .fieldLinkNest RX2 98 "FairFolio$Visitor" "turnMinute" "I" "FairFolio", .fieldLinkNest RX2 106 "FairFolio$Visitor" "turnPavilion" "LFairFolio$Pavilion;" "FairFolio", .fieldLinkNest RX2 91 "FairFolio$Visitor" "waitsByTurn" "Z" "FairFolio", .methodLinkNest RX2 25 yX0_init "FairFolio", .methodLinkNest RX2 28 yX1_init "FairFolio"]
def cCl : List (String × String) := [("FairFolio$Pavilion", "java/lang/Object"), ("java/lang/IllegalArgumentException", "java/lang/IllegalArgumentException"), ("java/lang/IndexOutOfBoundsException", "java/lang/IndexOutOfBoundsException"), ("java/lang/IllegalStateException", "java/lang/IllegalStateException")]
/-- the text constants that the class's throws load: their places and what they say -/
def cStr : List (Nat × String) := [(35, "room or time is out of range"), (64, "the pavilion is in the plan"), (81, "the pavilion is not in the plan"), (101, "the visitor has a turn, or the pavilion is closed"), (110, "minutes is out of range"), (112, "the minute would be above 1200"), (121, "the visitor has no stamp of the pavilion"), (136, "threshold is out of range"), (156, "no such pavilion"), (159, "no such visitor")]
def cAo : List String := ["java/lang/Object", "FairFolio$Pavilion", "FairFolio$Visitor"]
def cDl : List MethodName := [Bundle.initS "java/lang/RuntimeException", Bundle.initS "java/lang/Exception", Bundle.initS Bundle.tN]
def cX (d : Nat) (A : Nat → Prop) (U : State) : Prop :=
  (∀ w ∈ cNl, va_Nw w U) ∧ (∀ q ∈ cCl, va_Nw (.castable q.1 q.2) U) ∧ (∀ q ∈ cStr, ∃ a : Nat, vk_R RX2 q.1 q.2 a U) ∧
  vx_Zq Bundle.tN "UNASSIGNED_STACK" Bundle.steD A U U.heap ∧ vx_Zq Bundle.tN "SUPPRESSED_SENTINEL" Bundle.listD A U U.heap ∧
  va_Z "java/util/ArrayList" "DEFAULTCAPACITY_EMPTY_ELEMENTDATA" "[Ljava/lang/Object;" (.ref d) A U U.heap ∧ va_T (.object "java/lang/Object") d 0 (fun _ => .null) A U U.heap ∧
  (∀ C ∈ cAo, va_AO C U) ∧ (∀ y ∈ cDl, va_Nw (.declares y) U)
theorem cNl_tab : ∀ w ∈ cNl, w.onTables = true := by decide +kernel
theorem cNl_warm {s U : State} (hW : s.WarmedH U.vm) : ∀ w ∈ cNl, va_Nw w s → va_Nw w U := by
  intro w hw
  simp only [cNl, List.mem_cons, List.not_mem_nil, or_false] at hw
  rcases hw with rfl | rfl | rfl | rfl | rfl | rfl | rfl | rfl | rfl | rfl | rfl | rfl | rfl | rfl | rfl | rfl | rfl | rfl
  all_goals first | exact va_Nw.warmF hW | exact va_Nw.warmM hW
/-- in another heap that agrees with the old one where nobody writes -/
theorem cX.step {d : Nat} {A B : Nat → Prop} {s U : State} (hW : s.WarmedH U.vm) (hq : ∀ a : Nat, a < s.heap.size → ¬ A a → U.heap[a]? = s.heap[a]?) (hAB : ∀ q : Nat, B q → A q) (h : cX d A s) : cX d B U := by
  obtain ⟨h1, h2, h3, h4, h5, h6, h7, h8, h9⟩ := h
  refine ⟨fun w hw => cNl_warm hW w hw (h1 w hw), fun q hq => va_Nw.warmC hW (h2 q hq), fun q hq => ?_, ?_, ?_, ?_, ?_, fun C hC => va_AO.moved hW.alike (h8 C hC), fun y hy => va_Nw.warmD hW (h9 y hy)⟩
  · obtain ⟨a, ha⟩ := h3 q hq
    exact ⟨a, vk_R.warm hW ha⟩
  · exact ((h4.kept hq).moved hW.alike).narrow hAB
  · exact ((h5.kept hq).moved hW.alike).narrow hAB
  · exact ((h6.kept hq).moved hW.alike).narrow hAB
  · exact ((h7.kept hq).moved hW.alike).narrow hAB
theorem cX.calling {d : Nat} {A : Nat → Prop} {U : State} (a : Array Value) (g : JFrame) (mk : MethodId) (h : cX d A U) : cX d A (U.calling g mk a) :=
  cX.step (s := U) (U := U.calling g mk a) (State.WarmedH.refl U) (fun _ _ _ => rfl) (fun _ h => h) h
def hPre (D : va_G) (E : cE) (tl : gTy) (w0 : va_W) (sz : Nat) (av : List Value) : Array Value → State → Prop := fun v U => gPre D (cT E tl) w0 sz av v U ∧ cX (eDf E) (va_A w0 sz) U
theorem hPre_blind {D : va_G} {E : cE} {tl : gTy} {w0 : va_W} {sz : Nat} {av : List Value} : FrameBlind (hPre D E tl w0 sz av) := fun a U g mk q => ⟨gPre_blind a U g mk q.1, q.2.calling a g mk⟩
def hM (l : Launch) (y : MethodName) (ws : List Cond) (rm : Room) (D : va_G) (E : cE) (tl : gTy) (w0 : va_W) (av : List Value) (Qf : (Nat → Prop) → Array Value → State → Outcome → State → Prop) (mc ms : Nat) : Prop :=
  ∀ sz : Nat, Met l y ws rm (hPre D E tl w0 sz av) (Qf (va_A w0 sz)) mc ms (va_A w0 sz)
def hI {S : Type} (l : Launch) (y : MethodName) (ws : List Cond) (rm : Room) (D : va_G) (E : cE) (tl : gTy) (w0 : va_W) (av : List Value) (post : Int32 → S → Prop) (wf : S → va_W) (mc ms : Nat) : Prop :=
  hM l y ws rm D E tl w0 av (fun A => va_Qi post (gB D (cT E tl) wf A) A) mc ms
def hV {S : Type} (l : Launch) (y : MethodName) (ws : List Cond) (rm : Room) (D : va_G) (E : cE) (tl : gTy) (w0 : va_W) (av : List Value) (post : S → Prop) (wf : S → va_W) (mc ms : Nat) : Prop :=
  hM l y ws rm D E tl w0 av (fun A => va_Qv post (gB D (cT E tl) wf A) A) mc ms
def hQ {S : Type} (l : Launch) (y : MethodName) (ws : List Cond) (rm : Room) (D : va_G) (E : cE) (tl : gTy) (w0 : va_W) (av : List Value) (post : Option Nat → S → Prop) (wf : S → va_W) (mc ms : Nat) : Prop :=
  hM l y ws rm D E tl w0 av (fun A => va_Qq post (gB D (cT E tl) wf A) A) mc ms
theorem hM.start {l : Launch} {y : MethodName} {ws ws' : List Cond} {rm : Room} {D : va_G} {E : cE} {tl : gTy} {w0 : va_W} {av : List Value} {Qf : (Nat → Prop) → Array Value → State → Outcome → State → Prop} {mc ms : Nat} {cc : ByteArray} {maxL : Nat} {ret : Option FieldType} {own : String}
    (hc : y.cls = own) (hy : plainName y.cls = true) (hw : ws = Cond.code y cc maxL ret :: ws') (hn : (lg_sl av).length ≤ maxL)
    (k : ∀ (p : Program) (e : Env) (s : State) (m : MethodId) (args : Array Value) (below : List Frame) (meth : Method) (c : Code) (A : Nat → Prop) (ls : Array Slot) (H : Heap) (locs : List Loc), p.tables.exec = Jvm.exec → c.code = cc → c.maxLocals = maxL → meth.sig.returnType = ret → (∀ w ∈ ws, w.before args s = true) → s.vm.findClass own = some m.cls → meth.locks = false → meth.name = y.name → (∀ q : Nat, s.heap.size ≤ q → A q) → va_K D vwCl (cT E tl) s → cX (eDf E) A s → va_P D vwCl w0 H → va_D A w0 → va_S A s.heap H locs → lv_has ls maxL (lv_args 0 av) →
      W p l e rm s m args below meth c H locs 0 0 (MQ below (Qf A) args s mc ms A) (F0 m 0 ls [])) : hM l y ws rm D E tl w0 av Qf mc ms := by
  intro sz
  refine Met.ofW (cc := cc) (maxL := maxL) (ret := ret) hy hw ?_
  intro p e s m args below meth c s₁ B hml hv
  obtain ⟨⟨rfl, hsz, hP, hK, hD0⟩, hX⟩ := hv
  have hown : s.vm.findClass own = some m.cls := hc ▸ findClass_of_methodNamed B.named
  subst hsz
  rw [lg_entry_eq]
  exact k p e s m _ below meth c _ _ s.heap [] B.exec B.bytes hml B.returns (atoms_spec (ws := ws) B.pre) hown B.notSynchronized (name_of_methodNamed B.named B.method).1 (fun q h => Or.inr h) hK hX hP (hD0.self (sz := s.heap.size)) va_S.rf (lv_entry av hn)
section HCALL
variable {p : Program} {l : Launch} {e : Env} {R : Room} {s : State} {m : MethodId} {args : Array Value} {below : List Frame} {meth : Method} {c : Code} {H : Heap} {locs : List Loc} {cells slots : Nat} {Q : State → Prop}
variable {cc : ByteArray} {pc nL mc ms n index maxL : Nat} {ls : Array Slot} {rest st0 As : List Value} {D : va_G} {A : Nat → Prop} {E : cE} {tl : gTy} {w0 : va_W} {y : MethodName} {bytes : ByteArray} {ret : Option FieldType} {wsy Ts : List Cond} {rm : Room} {own C : String} {b : Addr}
theorem hPre_at (hK : va_K D vwCl (cT E tl) s) (hX : cX (eDf E) A s) (hP : va_P D vwCl w0 H) (hD : va_D A w0) (hS : va_S A s.heap H locs) (hA : ∀ q : Nat, s.heap.size ≤ q → A q) (av : List Value) : ∀ U : State, U.heap = H → s.WarmedH U.vm → hPre D E tl w0 H.size av av.toArray U := fun U hU hW =>
  ⟨⟨rfl, by rw [hU], by rw [hU]; exact hP, va_K.moved hW.alike hK, hD.weaken (fun _ _ _ _ => trivial)⟩, hX.step hW (fun a h1 h2 => by rw [hU]; exact hS.2.1 a h1 h2) (gFree hD hS hA)⟩
theorem h_calli {S : Type} {post : Int32 → S → Prop} {wf : S → va_W} (F : CallFix p m c cc nL s args Ts own) (hC : hI l y wsy rm D E tl w0 (.ref b :: As) post wf mc ms) (cw : CallW R s args own C index y bytes maxL ret wsy rm mc ms n) (hr : ∃ cell : Cell, H[b]? = some cell ∧ cell.vm.isStatics = false ∧ s.vm.findClass C = some cell.cls)
    (hK : va_K D vwCl (cT E tl) s) (hX : cX (eDf E) A s) (hP : va_P D vwCl w0 H) (hD : va_D A w0) (hS : va_S A s.heap H locs) (hA : ∀ q : Nat, s.heap.size ≤ q → A q) (hn : As.length = n) (hl : ls.size = nL) (hst : st0 = As.reverse ++ .ref b :: rest) (hW : (rest.map fun v => v.category).sum ≤ 8) (hdg : decode cc pc = .ok (.invokevirtual index, 3)) (hf : cells + mc ≤ R.cells ∧ slots + ms ≤ R.slots)
    (kk : ∀ (r : Int32) (u : S) (H1 : Heap) (locs1 : List Loc), post r u → va_P D vwCl (wf u) H1 → va_D A (wf u) → va_S A s.heap H1 locs1 → W p l e R s m args below meth c H1 locs1 (cells + mc) (slots + ms) Q (F0 m (pc + 3) ls (.int r :: rest))) : W p l e R s m args below meth c H locs cells slots Q (F0 m pc ls st0) := by
  refine va_calli (va_runV F (hC H.size) cw ⟨hPre_blind, hr, hPre_at hK hX hP hD hS hA _⟩ rfl hn hl hst (lv_room hW) hdg hf) hS (fun q _ h => gFree hD hS hA q h) (gFree hD hS hA) (fun r u t H1 locs1 ht hvm hw hB hz1 hk1 hS1 => ?_)
  obtain ⟨hP1, hK1, hD1⟩ := hB
  rw [ht] at hP1
  exact kk r u H1 locs1 hw hP1 (hD1.weaken (fun k q _ h => gFree hD hS hA q.1 h)) hS1
theorem h_callv {S : Type} {post : S → Prop} {wf : S → va_W} (F : CallFix p m c cc nL s args Ts own) (hC : hV l y wsy rm D E tl w0 (.ref b :: As) post wf mc ms) (cw : CallW R s args own C index y bytes maxL ret wsy rm mc ms n) (hr : ∃ cell : Cell, H[b]? = some cell ∧ cell.vm.isStatics = false ∧ s.vm.findClass C = some cell.cls)
    (hK : va_K D vwCl (cT E tl) s) (hX : cX (eDf E) A s) (hP : va_P D vwCl w0 H) (hD : va_D A w0) (hS : va_S A s.heap H locs) (hA : ∀ q : Nat, s.heap.size ≤ q → A q) (hn : As.length = n) (hl : ls.size = nL) (hst : st0 = As.reverse ++ .ref b :: rest) (hW : (rest.map fun v => v.category).sum ≤ 8) (hdg : decode cc pc = .ok (.invokevirtual index, 3)) (hf : cells + mc ≤ R.cells ∧ slots + ms ≤ R.slots)
    (kk : ∀ (u : S) (H1 : Heap) (locs1 : List Loc), post u → va_P D vwCl (wf u) H1 → va_D A (wf u) → va_S A s.heap H1 locs1 → W p l e R s m args below meth c H1 locs1 (cells + mc) (slots + ms) Q (F0 m (pc + 3) ls rest)) : W p l e R s m args below meth c H locs cells slots Q (F0 m pc ls st0) := by
  refine va_callv (va_runV F (hC H.size) cw ⟨hPre_blind, hr, hPre_at hK hX hP hD hS hA _⟩ rfl hn hl hst (lv_room hW) hdg hf) hS (fun q _ h => gFree hD hS hA q h) (gFree hD hS hA) (fun u t H1 locs1 ht hvm hw hB hz1 hk1 hS1 => ?_)
  obtain ⟨hP1, hK1, hD1⟩ := hB
  rw [ht] at hP1
  exact kk u H1 locs1 hw hP1 (hD1.weaken (fun k q _ h => gFree hD hS hA q.1 h)) hS1
theorem h_callq {S : Type} {post : Option Nat → S → Prop} {wf : S → va_W} (F : CallFix p m c cc nL s args Ts own) (hC : hQ l y wsy rm D E tl w0 (.ref b :: As) post wf mc ms) (cw : CallW R s args own C index y bytes maxL ret wsy rm mc ms n) (hr : ∃ cell : Cell, H[b]? = some cell ∧ cell.vm.isStatics = false ∧ s.vm.findClass C = some cell.cls)
    (hK : va_K D vwCl (cT E tl) s) (hX : cX (eDf E) A s) (hP : va_P D vwCl w0 H) (hD : va_D A w0) (hS : va_S A s.heap H locs) (hA : ∀ q : Nat, s.heap.size ≤ q → A q) (hn : As.length = n) (hl : ls.size = nL) (hst : st0 = As.reverse ++ .ref b :: rest) (hW : (rest.map fun v => v.category).sum ≤ 8) (hdg : decode cc pc = .ok (.invokevirtual index, 3)) (hf : cells + mc ≤ R.cells ∧ slots + ms ≤ R.slots)
    (kk : ∀ (r : Option Nat) (u : S) (H1 : Heap) (locs1 : List Loc), post r u → va_P D vwCl (wf u) H1 → va_D A (wf u) → va_S A s.heap H1 locs1 → W p l e R s m args below meth c H1 locs1 (cells + mc) (slots + ms) Q (F0 m (pc + 3) ls (va_rf r :: rest))) : W p l e R s m args below meth c H locs cells slots Q (F0 m pc ls st0) := by
  refine va_callq (va_runV F (hC H.size) cw ⟨hPre_blind, hr, hPre_at hK hX hP hD hS hA _⟩ rfl hn hl hst (lv_room hW) hdg hf) hS (fun q _ h => gFree hD hS hA q h) (gFree hD hS hA) (fun r u t H1 locs1 ht hvm hw hB hz1 hk1 hS1 => ?_)
  obtain ⟨hP1, hK1, hD1⟩ := hB
  rw [ht] at hP1
  exact kk r u H1 locs1 hw hP1 (hD1.weaken (fun k q _ h => gFree hD hS hA q.1 h)) hS1
end HCALL
