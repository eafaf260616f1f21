/-! CONTRACTS: a method from world w0 to world w1, its answer ov -/
def PcS (D : va_G) (cy : Nat → ClassId) (ad : AD) (av : List Value) (w0 : va_W) (sz : Nat) : Array Value → State → Prop := va_Pc av (fun U => U.heap.size = sz ∧ va_P D vwCl w0 U.heap ∧ KK D cy ad U ∧ va_D (fun _ => True) w0 ∧ SX ad (va_A w0 sz) U U.heap)
def QS (D : va_G) (ov : Option Value) (w0 w1 : va_W) (sz : Nat) : Array Value → State → Outcome → State → Prop := fun _ st oc t => (oc = .returned ov ∧ va_P D vwCl w1 t.heap ∧ va_D (va_A w0 sz) w1) ∧ va_F (va_A w0 sz) st t
def Ct (l : Launch) (y : MethodName) (cb : ByteArray) (mL : Nat) (rt : Option FieldType) (rm : Room) (D : va_G) (cy : Nat → ClassId) (ad : AD) (av : List Value) (w0 w1 : va_W) (ov : Option Value) : Prop :=
  ∀ sz : Nat, Met l y (Cond.code y cb mL rt :: WL) rm (PcS D cy ad av w0 sz) (QS D ov w0 w1 sz) 0 0 (va_A w0 sz)
theorem PcS_blind {D : va_G} {cy : Nat → ClassId} {ad : AD} {av : List Value} {w0 : va_W} {sz : Nat} : FrameBlind (PcS D cy ad av w0 sz) := by
  intro a U g mk q
  obtain ⟨q0, q1, qP, qK, qD, qX⟩ := q
  exact ⟨q0, q1, qP, KK.call qK, qD, SX.call qX⟩
/-- what holds in a method's body -/
theorem Ct.body {l : Launch} {y : MethodName} {cb : ByteArray} {mL j : Nat} {rt : Option FieldType} {rm : Room} {D : va_G} {cy : Nat → ClassId} {ad : AD} {av : List Value} {w0 w1 : va_W} {ov : Option Value} {L0 : List (Option Value)}
    (hy : plainFor y = true) (hn : Nat.ble (lg_sl av).length mL = true) (hL : initL av ++ List.replicate j none = L0)
    (hb : ∀ (E : EE) (sz : Nat), Cx E cb y.cls rm → eL E = l → eD E = D → eCy E = cy → eAd E = ad → eN E = mL → (eMt E).sig.returnType = rt → eA E = va_A w0 sz → eQ E = MQ (eB E) (QS D ov w0 w1 sz) (eAr E) (eS E) 0 0 (va_A w0 sz) → GG E 0 0 w0 L0 0 []) : Ct l y cb mL rt rm D cy ad av w0 w1 ov := by
  intro sz
  refine va_MetF (cc := cb) (maxL := mL) (ret := rt) hy rfl ?_
  intro p e s m args below meth c s₁ B hml hv
  obtain ⟨rfl, hsz, hP, hK, hD0, hX⟩ := hv
  have hts := atoms_spec (ws := Cond.code y cb mL rt :: WL) B.pre
  have hown : s.vm.findClass y.cls = some m.cls := findClass_of_methodNamed B.named
  subst hsz
  have hD := hD0.self (sz := s.heap.size)
  rw [lg_entry_eq]
  have h := hb (p, l, e, rm, s, m, av.toArray, below, meth, c, MQ below (QS D ov w0 w1 s.heap.size) av.toArray s 0 0 (va_A w0 s.heap.size), D, cy, ad, va_A w0 s.heap.size, mL) s.heap.size
    ⟨B.exec, B.bytes, hml, hown, fun w hw => hts w (List.mem_cons_of_mem _ hw), hK, fun q h => Or.inr h, hX, B.notSynchronized, rfl⟩ rfl rfl rfl rfl rfl B.returns rfl rfl
  exact h s.heap [] _ hP hD va_S.rf (hL ▸ lh.entry (Nat.ble_eq.mp hn))
section GC
variable {E : EE} {cc : ByteArray} {own : String} {rm : Room} {k n pc : Nat} {ws : va_W} {L : List (Option Value)} {st : List Value}
theorem Ct.introI {l : Launch} {y : MethodName} {cb : ByteArray} {mL j : Nat} {rm : Room} {D : va_G} {cy : Nat → ClassId} {ad : AD} {av : List Value} {w0 w1 : va_W} {r : Int} {L0 : List (Option Value)}
    (hy : plainFor y = true) (hn : Nat.ble (lg_sl av).length mL = true) (hL : initL av ++ List.replicate j none = L0)
    (hb : ∀ (E : EE), Cx E cb y.cls rm → eL E = l → eD E = D → eCy E = cy → eAd E = ad → eN E = mL → (∀ (pc : Nat) (L : List (Option Value)), decode cb pc = .ok (.ireturn, 1) → GG E 0 0 w1 L pc [.int (wI r)]) → GG E 0 0 w0 L0 0 []) : Ct l y cb mL (some .int) rm D cy ad av w0 w1 (some (.int (wI r))) := by
  refine Ct.body hy hn hL (fun E sz C e1 e2 e3 e4 e5 hr hA hQ => ?_)
  refine hb E C e1 e2 e3 e4 e5 (fun pc L d => ?_)
  intro H locs ls hP hD hS hl
  rw [hQ]
  refine W.iret C.x C.b hr (fun t ht hW => ?_) (fun q hq => ?_) d C.lk
  · rw [hA] at hD hS
    rw [e2] at hP
    exact ⟨⟨rfl, by rw [ht]; exact hP, hD⟩, hS.F ht⟩
  · rw [← hA]
    exact hS.2.2 q hq
theorem Ct.introZ {l : Launch} {y : MethodName} {cb : ByteArray} {mL j : Nat} {ty : FieldType} {rm : Room} {D : va_G} {cy : Nat → ClassId} {ad : AD} {av : List Value} {w0 w1 : va_W} {r : Int} {L0 : List (Option Value)}
    (hy : plainFor y = true) (hn : Nat.ble (lg_sl av).length mL = true) (hL : initL av ++ List.replicate j none = L0)
    (hb : ∀ (E : EE), Cx E cb y.cls rm → eL E = l → eD E = D → eCy E = cy → eAd E = ad → eN E = mL → (∀ (pc : Nat) (L : List (Option Value)), narrow ty (.int (wI r)) = .int (wI r) → decode cb pc = .ok (.ireturn, 1) → GG E 0 0 w1 L pc [.int (wI r)]) → GG E 0 0 w0 L0 0 []) : Ct l y cb mL (some ty) rm D cy ad av w0 w1 (some (.int (wI r))) := by
  refine Ct.body hy hn hL (fun E sz C e1 e2 e3 e4 e5 hr hA hQ => ?_)
  refine hb E C e1 e2 e3 e4 e5 (fun pc L hnar d => ?_)
  intro H locs ls hP hD hS hl
  rw [hQ]
  refine W.zret C.x C.b hr hnar (fun t ht hW => ?_) (fun q hq => ?_) d C.lk
  · rw [hA] at hD hS
    rw [e2] at hP
    exact ⟨⟨rfl, by rw [ht]; exact hP, hD⟩, hS.F ht⟩
  · rw [← hA]
    exact hS.2.2 q hq
theorem Ct.introJ {l : Launch} {y : MethodName} {cb : ByteArray} {mL j : Nat} {rm : Room} {D : va_G} {cy : Nat → ClassId} {ad : AD} {av : List Value} {w0 w1 : va_W} {r : Int} {L0 : List (Option Value)}
    (hy : plainFor y = true) (hn : Nat.ble (lg_sl av).length mL = true) (hL : initL av ++ List.replicate j none = L0)
    (hb : ∀ (E : EE), Cx E cb y.cls rm → eL E = l → eD E = D → eCy E = cy → eAd E = ad → eN E = mL → (∀ (pc : Nat) (L : List (Option Value)), decode cb pc = .ok (.lreturn, 1) → GG E 0 0 w1 L pc [.long (wJ r)]) → GG E 0 0 w0 L0 0 []) : Ct l y cb mL (some .long) rm D cy ad av w0 w1 (some (.long (wJ r))) := by
  refine Ct.body hy hn hL (fun E sz C e1 e2 e3 e4 e5 hr hA hQ => ?_)
  refine hb E C e1 e2 e3 e4 e5 (fun pc L d => ?_)
  intro H locs ls hP hD hS hl
  rw [hQ]
  refine W.lret C.x C.b hr (fun t ht hW => ?_) (fun q hq => ?_) d C.lk
  · rw [hA] at hD hS
    rw [e2] at hP
    exact ⟨⟨rfl, by rw [ht]; exact hP, hD⟩, hS.F ht⟩
  · rw [← hA]
    exact hS.2.2 q hq
theorem Ct.introV {l : Launch} {y : MethodName} {cb : ByteArray} {mL j : Nat} {rm : Room} {D : va_G} {cy : Nat → ClassId} {ad : AD} {av : List Value} {w0 w1 : va_W} {L0 : List (Option Value)}
    (hy : plainFor y = true) (hn : Nat.ble (lg_sl av).length mL = true) (hL : initL av ++ List.replicate j none = L0)
    (hb : ∀ (E : EE), Cx E cb y.cls rm → eL E = l → eD E = D → eCy E = cy → eAd E = ad → eN E = mL → (∀ (pc : Nat) (L : List (Option Value)), decode cb pc = .ok (.return_, 1) → GG E 0 0 w1 L pc []) → GG E 0 0 w0 L0 0 []) : Ct l y cb mL none rm D cy ad av w0 w1 none := by
  refine Ct.body hy hn hL (fun E sz C e1 e2 e3 e4 e5 hr hA hQ => ?_)
  refine hb E C e1 e2 e3 e4 e5 (fun pc L d => ?_)
  intro H locs ls hP hD hS hl
  rw [hQ]
  refine W.vret C.x C.b hr (fun t ht hW => ?_) (fun q hq => ?_) d C.lk
  · rw [hA] at hD hS
    rw [e2] at hP
    exact ⟨⟨rfl, by rw [ht]; exact hP, hD⟩, hS.F ht⟩
  · rw [← hA]
    exact hS.2.2 q hq
/-! CALLS -/
def roomOK (rc rm : Room) (mL k n : Nat) : Bool := Nat.beq rc.cells 0 && (Nat.beq rc.slots 0 && (Nat.ble (rc.frames + 1) rm.frames && (Nat.ble (8 + (mL + 11) + rc.locals) rm.locals && (Nat.ble k rm.cells && Nat.ble n rm.slots))))
theorem roomOK_spec {rc rm : Room} {mL k n : Nat} (h : roomOK rc rm mL k n = true) : rc.cells = 0 ∧ rc.slots = 0 ∧ rc.frames + 1 ≤ rm.frames ∧ 8 + (mL + 11) + rc.locals ≤ rm.locals ∧ k ≤ rm.cells ∧ n ≤ rm.slots := by
  unfold roomOK at h
  simp only [Bool.and_eq_true] at h
  exact ⟨Nat.eq_of_beq_eq_true h.1, Nat.eq_of_beq_eq_true h.2.1, Nat.ble_eq.mp h.2.2.1, Nat.ble_eq.mp h.2.2.2.1, Nat.ble_eq.mp h.2.2.2.2.1, Nat.ble_eq.mp h.2.2.2.2.2⟩
def placesOK (isC isR is2 : List Nat) : Bool := va_nd isR && (isR.all (fun i => !isC.contains i) && (va_nd is2 && va_nd isC))
/-- words of a callee, however it is called -/
def MtB (own : String) (y : MethodName) (cb : ByteArray) (mL : Nat) (rt : Option FieldType) (nA : Nat) : Prop := Cond.code y cb mL rt ∈ WL ∧ Cond.initialized y.cls ∈ WL ∧ (y.cls ≠ "java/lang/invoke/MethodHandle" ∧ y.cls ≠ "java/lang/invoke/VarHandle" ∧ (parseMethodDescriptor y.desc).map (fun d => d.parameters.length) = some nA)
def MtV (own : String) (index : Nat) (y : MethodName) (cb : ByteArray) (mL : Nat) (rt : Option FieldType) (nA : Nat) : Prop := MtB own y cb mL rt nA ∧ Cond.methodLink own index y ∈ WL ∧ Cond.instanceMethod y ∈ WL ∧ Cond.selects y.cls y y ∈ WL
def MtS (own : String) (index : Nat) (y : MethodName) (cb : ByteArray) (mL : Nat) (rt : Option FieldType) (nA : Nat) : Prop := MtB own y cb mL rt nA ∧ Cond.methodLink own index y ∈ WL ∧ Cond.static y ∈ WL
theorem MtB.cb {y : MethodName} {cb : ByteArray} {mL nA index : Nat} {rt : Option FieldType} {rc : Room} (M : MtB own y cb mL rt nA) (hl : Cond.methodLink own index y ∈ WL) (C : Cx E cc own rm) (hR : roomOK rc rm mL k n = true) : CallB rm (eS E) (eAr E) own index y cb mL rt (Cond.code y cb mL rt :: WL) rc 0 0 nA := by
  obtain ⟨r1, r2, r3, r4, -, -⟩ := roomOK_spec hR
  exact callB_of nA C.ts (wl_GoodIn M.1) rfl r1 r2 (C.ts _ M.2.1) (C.ts _ hl) M.2.2 ⟨r3, r4⟩
theorem rest_map {ws : va_W} : ∀ {isR : List Nat}, isR.all (fun i => Nat.blt i ws.length) = true → isR.map (fun i => ws[i]?) = (isR.filterMap (fun i => ws[i]?)).map some
  | [], _ => rfl
  | i :: l, h => by
    simp only [List.all_cons, Bool.and_eq_true] at h
    have hi : i < ws.length := Nat.blt_eq.mp h.1
    have := rest_map (isR := l) h.2
    rw [List.map_cons, this, List.filterMap_cons, List.getElem?_eq_getElem hi, List.map_cons]
/-- behind a call: the world with the callee's cells as it left them -/
theorem g_after {ov : Option Value} {rest : List Value} {wc wc' ws2 : va_W} {isC isR is2 : List Nat} {av : Array Value} {H : Heap} {locs : List Loc} {ls : Array Slot} (C : Cx E cc own rm)
    (hC : isC.map (fun i => ws[i]?) = wc.map some) (hRl : isR.all (fun i => Nat.blt i ws.length) = true) (h2 : is2.map (fun i => (isR.filterMap (fun i => ws[i]?) ++ wc')[i]?) = ws2.map some) (hp : placesOK isC isR is2 = true)
    (hP : va_P (eD E) vwCl ws H) (hD : va_D (eA E) ws) (hS : va_S (eA E) (eS E).heap H locs) (hl : lh ls (eN E) L)
    (hr : va_Run (eP E) (eL E) (eE E) (eR E) (eS E) (eM E) (eAr E) (eB E) (eMt E) (eC E) H locs k n 0 0 (F0 (eM E) pc ls st) rest (QS (eD E) ov wc wc' H.size av) (va_A wc H.size))
    (kk : GG E k n ws2 L (pc + 3) (ov.toList ++ rest)) : W (eP E) (eL E) (eE E) (eR E) (eS E) (eM E) (eAr E) (eB E) (eMt E) (eC E) H locs k n (eQ E) (F0 (eM E) pc ls st) := by
  have hF := va_free (wc := wc) hD hS C.a isC hC
  have hR := rest_map hRl
  unfold placesOK at hp
  simp only [Bool.and_eq_true] at hp
  intro T hT X
  obtain ⟨v, st₀, t, T', LL, h0, X', hL, e1, e2, ⟨⟨hv, hP1, hD1⟩, hz, hk⟩, stp⟩ := hr T hT X
  cases hv
  rw [h0] at hz hk
  rw [← e1] at hP1 hz hk
  obtain ⟨jP, jD⟩ := va_join (wr := isR.filterMap (fun i => ws[i]?)) (w1 := wc') hP hD isC isR hC hR hp.1 (fun i hi => by have := List.all_eq_true.mp hp.2.1 i hi; simpa using this) hk hF hP1 hD1
  have jS : va_S (eA E) (eS E).heap T'.heap (locs ++ LL) := ⟨Nat.le_trans hS.1 hz, fun q h1 h2 => by rw [hk q (Nat.lt_of_lt_of_le h1 hS.1) (fun z => h2 (hF q z))]; exact hS.2.1 q h1 h2, fun q hq => by
    rcases List.mem_append.mp hq with h | h
    · exact hS.2.2 q h
    · exact hF _ (hL q h)⟩
  have hfm : is2.filterMap (fun i => (isR.filterMap (fun i => ws[i]?) ++ wc')[i]?) = ws2 := by
    have := congrArg (List.filterMap id) h2
    simpa [List.filterMap_map, Function.comp_def] using this
  obtain ⟨t2, a1, b1⟩ := kk T'.heap (locs ++ LL) ls (jP.sub is2 hfm) (jD.sub is2 hp.2.2.1 h2) jS hl T' rfl X'
  exact ⟨t2, stp t2 a1, b1⟩
theorem cut_world {A : Nat → Prop} {wc : va_W} {isC isR is2 : List Nat} {H : Heap} {D : va_G} (hP : va_P D vwCl ws H) (hD : va_D A ws) (hC : isC.map (fun i => ws[i]?) = wc.map some) (hp : placesOK isC isR is2 = true) : va_P D vwCl wc H ∧ va_D (fun _ => True) wc := by
  unfold placesOK at hp
  simp only [Bool.and_eq_true] at hp
  refine ⟨hP.sub isC ?_, (hD.sub isC hp.2.2.2 hC).weaken (fun _ _ _ _ => trivial)⟩
  have := congrArg (List.filterMap id) hC
  simpa [List.filterMap_map, Function.comp_def] using this
theorem g_xcallV {y : MethodName} {cb : ByteArray} {mL nA index b ci q0 : Nat} {rt : Option FieldType} {rc : Room} {As rest fs : List Value} {wc wc' ws2 : va_W} {ov : Option Value} {T : u_T} {N : Nat} (isC isR is2 : List Nat) (C : Cx E cc own rm) (M : MtV own index y cb mL rt nA)
    (hc : Ct (eL E) y cb mL rt rc (eD E) (eCy E) (eAd E) (.ref b :: As) wc wc' ov) (hq : wc[q0]? = some (b, .inr (ci, fs))) (hci : vwCl[ci]? = some (y.cls, T, N))
    (hC : isC.map (fun i => ws[i]?) = wc.map some) (hRl : isR.all (fun i => Nat.blt i ws.length) = true) (h2 : is2.map (fun i => (isR.filterMap (fun i => ws[i]?) ++ wc')[i]?) = ws2.map some) (hp : placesOK isC isR is2 = true)
    (hnA : As.length = nA) (hst : st = As.reverse ++ .ref b :: rest) (hcat : Nat.ble (rest.map fun v => v.category).sum 8 = true) (hrm : roomOK rc rm mL k n = true) (d : decode cc pc = .ok (.invokevirtual index, 3)) (kk : GG E k n ws2 L (pc + 3) (ov.toList ++ rest)) : GG E k n ws L pc st := by
  intro H locs ls hP hD hS hl
  obtain ⟨-, -, -, -, r5, r6⟩ := roomOK_spec hrm
  have hF := va_free (wc := wc) hD hS C.a isC hC
  obtain ⟨hPc, hDc⟩ := cut_world hP hD hC hp
  have hB := M.1.cb (k := k) (n := n) (rc := rc) M.2.1 C hrm
  rw [← C.r] at hB
  exact g_after C hC hRl h2 hp hP hD hS hl (va_runV (As := As) (rest := rest) ⟨C.x, C.b, C.ml, C.ow, C.ts⟩ (hc H.size) ⟨hB, C.ts _ M.2.2.1, C.ts _ M.2.2.2⟩ ⟨PcS_blind, va_recv C.kk.1 hPc hci hq, fun U hU hW => ⟨rfl, by rw [hU], by rw [hU]; exact hPc, KK.warm hW C.kk, hDc, SX.to C.sx hS hW hU hF⟩⟩ rfl hnA hl.1 hst (lv_room (Nat.ble_eq.mp hcat)) d ⟨by rw [C.r]; exact r5, by rw [C.r]; exact r6⟩) kk
theorem g_xcallS {y : MethodName} {cb : ByteArray} {mL nA index : Nat} {rt : Option FieldType} {rc : Room} {As rest : List Value} {wc wc' ws2 : va_W} {ov : Option Value} (isC isR is2 : List Nat) (C : Cx E cc own rm) (M : MtS own index y cb mL rt nA)
    (hc : Ct (eL E) y cb mL rt rc (eD E) (eCy E) (eAd E) As wc wc' ov)
    (hC : isC.map (fun i => ws[i]?) = wc.map some) (hRl : isR.all (fun i => Nat.blt i ws.length) = true) (h2 : is2.map (fun i => (isR.filterMap (fun i => ws[i]?) ++ wc')[i]?) = ws2.map some) (hp : placesOK isC isR is2 = true)
    (hnA : As.length = nA) (hst : st = As.reverse ++ rest) (hcat : Nat.ble (rest.map fun v => v.category).sum 8 = true) (hrm : roomOK rc rm mL k n = true) (d : decode cc pc = .ok (.invokestatic index, 3)) (kk : GG E k n ws2 L (pc + 3) (ov.toList ++ rest)) : GG E k n ws L pc st := by
  intro H locs ls hP hD hS hl
  obtain ⟨-, -, -, -, r5, r6⟩ := roomOK_spec hrm
  have hF := va_free (wc := wc) hD hS C.a isC hC
  obtain ⟨hPc, hDc⟩ := cut_world hP hD hC hp
  have hB := M.1.cb (k := k) (n := n) (rc := rc) M.2.1 C hrm
  rw [← C.r] at hB
  exact g_after C hC hRl h2 hp hP hD hS hl (va_runS (As := As) (rest := rest) ⟨C.x, C.b, C.ml, C.ow, C.ts⟩ (hc H.size) ⟨hB, C.ts _ M.2.2⟩ ⟨PcS_blind, fun U hU hW => ⟨rfl, by rw [hU], by rw [hU]; exact hPc, KK.warm hW C.kk, hDc, SX.to C.sx hS hW hU hF⟩⟩ rfl hnA hl.1 hst (lv_room (Nat.ble_eq.mp hcat)) d ⟨by rw [C.r]; exact r5, by rw [C.r]; exact r6⟩) kk
/-- a nest mate's static method -/
theorem g_xcallSN {y : MethodName} {cb : ByteArray} {mL nA index : Nat} {host : String} {rt : Option FieldType} {rc : Room} {As rest : List Value} {wc wc' ws2 : va_W} {ov : Option Value} (isC isR is2 : List Nat) (C : Cx E cc own rm) (M : MtB own y cb mL rt nA) (hnest : Cond.methodLinkNest own index y host ∈ nestL) (hstat : Cond.static y ∈ WL)
    (hc : Ct (eL E) y cb mL rt rc (eD E) (eCy E) (eAd E) As wc wc' ov)
    (hC : isC.map (fun i => ws[i]?) = wc.map some) (hRl : isR.all (fun i => Nat.blt i ws.length) = true) (h2 : is2.map (fun i => (isR.filterMap (fun i => ws[i]?) ++ wc')[i]?) = ws2.map some) (hp : placesOK isC isR is2 = true)
    (hnA : As.length = nA) (hst : st = As.reverse ++ rest) (hcat : Nat.ble (rest.map fun v => v.category).sum 8 = true) (hrm : roomOK rc rm mL k n = true) (d : decode cc pc = .ok (.invokestatic index, 3)) (kk : GG E k n ws2 L (pc + 3) (ov.toList ++ rest)) : GG E k n ws L pc st := by
  intro H locs ls hP hD hS hl
  obtain ⟨r1, r2, r3, r4, r5, r6⟩ := roomOK_spec hrm
  have hF := va_free (wc := wc) hD hS C.a isC hC
  obtain ⟨hPc, hDc⟩ := cut_world hP hD hC hp
  have hB := va_cnB (R := rm) (mc := 0) (ms := 0) nA C.ts (wl_GoodIn M.1) rfl r1 r2 (C.kk.2.1 _ hnest) (C.ts _ M.2.1) M.2.2 ⟨r3, r4⟩
  rw [← C.r] at hB
  exact g_after C hC hRl h2 hp hP hD hS hl (va_runSN (As := As) (rest := rest) ⟨C.x, C.b, C.ml, C.ow, C.ts⟩ (hc H.size) ⟨hB, C.ts _ hstat, trivial⟩ ⟨PcS_blind, fun U hU hW => ⟨rfl, by rw [hU], by rw [hU]; exact hPc, KK.warm hW C.kk, hDc, SX.to C.sx hS hW hU hF⟩⟩ rfl hnA hl.1 hst (lv_room (Nat.ble_eq.mp hcat)) d ⟨by rw [C.r]; exact r5, by rw [C.r]; exact r6⟩) kk
theorem g_callI {y : MethodName} {cb : ByteArray} {mL nA index b ci q0 : Nat} {rt : Option FieldType} {rc : Room} {As rest fs : List Value} {wc wc' ws2 : va_W} {r : Int32} {T : u_T} {N : Nat} (isC isR is2 : List Nat) (C : Cx E cc own rm) (M : MtV own index y cb mL rt nA)
    (hc : Ct (eL E) y cb mL rt rc (eD E) (eCy E) (eAd E) (.ref b :: As) wc wc' (some (.int r))) (hq : wc[q0]? = some (b, .inr (ci, fs))) (hci : vwCl[ci]? = some (y.cls, T, N))
    (hC : isC.map (fun i => ws[i]?) = wc.map some) (hRl : isR.all (fun i => Nat.blt i ws.length) = true) (h2 : is2.map (fun i => (isR.filterMap (fun i => ws[i]?) ++ wc')[i]?) = ws2.map some) (hp : placesOK isC isR is2 = true)
    (hnA : As.length = nA) (hst : st = As.reverse ++ .ref b :: rest) (hcat : Nat.ble (rest.map fun v => v.category).sum 8 = true) (hrm : roomOK rc rm mL k n = true) (d : decode cc pc = .ok (.invokevirtual index, 3)) (kk : GG E k n ws2 L (pc + 3) (.int r :: rest)) : GG E k n ws L pc st := g_xcallV isC isR is2 C M hc hq hci hC hRl h2 hp hnA hst hcat hrm d kk
theorem g_callJ {y : MethodName} {cb : ByteArray} {mL nA index b ci q0 : Nat} {rt : Option FieldType} {rc : Room} {As rest fs : List Value} {wc wc' ws2 : va_W} {r : Int64} {T : u_T} {N : Nat} (isC isR is2 : List Nat) (C : Cx E cc own rm) (M : MtV own index y cb mL rt nA)
    (hc : Ct (eL E) y cb mL rt rc (eD E) (eCy E) (eAd E) (.ref b :: As) wc wc' (some (.long r))) (hq : wc[q0]? = some (b, .inr (ci, fs))) (hci : vwCl[ci]? = some (y.cls, T, N))
    (hC : isC.map (fun i => ws[i]?) = wc.map some) (hRl : isR.all (fun i => Nat.blt i ws.length) = true) (h2 : is2.map (fun i => (isR.filterMap (fun i => ws[i]?) ++ wc')[i]?) = ws2.map some) (hp : placesOK isC isR is2 = true)
    (hnA : As.length = nA) (hst : st = As.reverse ++ .ref b :: rest) (hcat : Nat.ble (rest.map fun v => v.category).sum 8 = true) (hrm : roomOK rc rm mL k n = true) (d : decode cc pc = .ok (.invokevirtual index, 3)) (kk : GG E k n ws2 L (pc + 3) (.long r :: rest)) : GG E k n ws L pc st := g_xcallV isC isR is2 C M hc hq hci hC hRl h2 hp hnA hst hcat hrm d kk
theorem g_callV {y : MethodName} {cb : ByteArray} {mL nA index b ci q0 : Nat} {rt : Option FieldType} {rc : Room} {As rest fs : List Value} {wc wc' ws2 : va_W}  {T : u_T} {N : Nat} (isC isR is2 : List Nat) (C : Cx E cc own rm) (M : MtV own index y cb mL rt nA)
    (hc : Ct (eL E) y cb mL rt rc (eD E) (eCy E) (eAd E) (.ref b :: As) wc wc' none) (hq : wc[q0]? = some (b, .inr (ci, fs))) (hci : vwCl[ci]? = some (y.cls, T, N))
    (hC : isC.map (fun i => ws[i]?) = wc.map some) (hRl : isR.all (fun i => Nat.blt i ws.length) = true) (h2 : is2.map (fun i => (isR.filterMap (fun i => ws[i]?) ++ wc')[i]?) = ws2.map some) (hp : placesOK isC isR is2 = true)
    (hnA : As.length = nA) (hst : st = As.reverse ++ .ref b :: rest) (hcat : Nat.ble (rest.map fun v => v.category).sum 8 = true) (hrm : roomOK rc rm mL k n = true) (d : decode cc pc = .ok (.invokevirtual index, 3)) (kk : GG E k n ws2 L (pc + 3) rest) : GG E k n ws L pc st := g_xcallV isC isR is2 C M hc hq hci hC hRl h2 hp hnA hst hcat hrm d kk
theorem g_callSI {y : MethodName} {cb : ByteArray} {mL nA index : Nat} {rt : Option FieldType} {rc : Room} {As rest : List Value} {wc wc' ws2 : va_W} {r : Int32} (isC isR is2 : List Nat) (C : Cx E cc own rm) (M : MtS own index y cb mL rt nA)
    (hc : Ct (eL E) y cb mL rt rc (eD E) (eCy E) (eAd E) As wc wc' (some (.int r)))
    (hC : isC.map (fun i => ws[i]?) = wc.map some) (hRl : isR.all (fun i => Nat.blt i ws.length) = true) (h2 : is2.map (fun i => (isR.filterMap (fun i => ws[i]?) ++ wc')[i]?) = ws2.map some) (hp : placesOK isC isR is2 = true)
    (hnA : As.length = nA) (hst : st = As.reverse ++ rest) (hcat : Nat.ble (rest.map fun v => v.category).sum 8 = true) (hrm : roomOK rc rm mL k n = true) (d : decode cc pc = .ok (.invokestatic index, 3)) (kk : GG E k n ws2 L (pc + 3) (.int r :: rest)) : GG E k n ws L pc st := g_xcallS isC isR is2 C M hc hC hRl h2 hp hnA hst hcat hrm d kk
theorem g_callSJ {y : MethodName} {cb : ByteArray} {mL nA index : Nat} {rt : Option FieldType} {rc : Room} {As rest : List Value} {wc wc' ws2 : va_W} {r : Int64} (isC isR is2 : List Nat) (C : Cx E cc own rm) (M : MtS own index y cb mL rt nA)
    (hc : Ct (eL E) y cb mL rt rc (eD E) (eCy E) (eAd E) As wc wc' (some (.long r)))
    (hC : isC.map (fun i => ws[i]?) = wc.map some) (hRl : isR.all (fun i => Nat.blt i ws.length) = true) (h2 : is2.map (fun i => (isR.filterMap (fun i => ws[i]?) ++ wc')[i]?) = ws2.map some) (hp : placesOK isC isR is2 = true)
    (hnA : As.length = nA) (hst : st = As.reverse ++ rest) (hcat : Nat.ble (rest.map fun v => v.category).sum 8 = true) (hrm : roomOK rc rm mL k n = true) (d : decode cc pc = .ok (.invokestatic index, 3)) (kk : GG E k n ws2 L (pc + 3) (.long r :: rest)) : GG E k n ws L pc st := g_xcallS isC isR is2 C M hc hC hRl h2 hp hnA hst hcat hrm d kk
theorem g_callSV {y : MethodName} {cb : ByteArray} {mL nA index : Nat} {rt : Option FieldType} {rc : Room} {As rest : List Value} {wc wc' ws2 : va_W}  (isC isR is2 : List Nat) (C : Cx E cc own rm) (M : MtS own index y cb mL rt nA)
    (hc : Ct (eL E) y cb mL rt rc (eD E) (eCy E) (eAd E) As wc wc' none)
    (hC : isC.map (fun i => ws[i]?) = wc.map some) (hRl : isR.all (fun i => Nat.blt i ws.length) = true) (h2 : is2.map (fun i => (isR.filterMap (fun i => ws[i]?) ++ wc')[i]?) = ws2.map some) (hp : placesOK isC isR is2 = true)
    (hnA : As.length = nA) (hst : st = As.reverse ++ rest) (hcat : Nat.ble (rest.map fun v => v.category).sum 8 = true) (hrm : roomOK rc rm mL k n = true) (d : decode cc pc = .ok (.invokestatic index, 3)) (kk : GG E k n ws2 L (pc + 3) rest) : GG E k n ws L pc st := g_xcallS isC isR is2 C M hc hC hRl h2 hp hnA hst hcat hrm d kk
theorem g_callNI {y : MethodName} {cb : ByteArray} {mL nA index : Nat} {host : String} {rt : Option FieldType} {rc : Room} {As rest : List Value} {wc wc' ws2 : va_W} {r : Int32} (isC isR is2 : List Nat) (C : Cx E cc own rm) (M : MtB own y cb mL rt nA) (hnest : Cond.methodLinkNest own index y host ∈ nestL) (hstat : Cond.static y ∈ WL)
    (hc : Ct (eL E) y cb mL rt rc (eD E) (eCy E) (eAd E) As wc wc' (some (.int r)))
    (hC : isC.map (fun i => ws[i]?) = wc.map some) (hRl : isR.all (fun i => Nat.blt i ws.length) = true) (h2 : is2.map (fun i => (isR.filterMap (fun i => ws[i]?) ++ wc')[i]?) = ws2.map some) (hp : placesOK isC isR is2 = true)
    (hnA : As.length = nA) (hst : st = As.reverse ++ rest) (hcat : Nat.ble (rest.map fun v => v.category).sum 8 = true) (hrm : roomOK rc rm mL k n = true) (d : decode cc pc = .ok (.invokestatic index, 3)) (kk : GG E k n ws2 L (pc + 3) (.int r :: rest)) : GG E k n ws L pc st := g_xcallSN isC isR is2 C M hnest hstat hc hC hRl h2 hp hnA hst hcat hrm d kk
theorem g_callNJ {y : MethodName} {cb : ByteArray} {mL nA index : Nat} {host : String} {rt : Option FieldType} {rc : Room} {As rest : List Value} {wc wc' ws2 : va_W} {r : Int64} (isC isR is2 : List Nat) (C : Cx E cc own rm) (M : MtB own y cb mL rt nA) (hnest : Cond.methodLinkNest own index y host ∈ nestL) (hstat : Cond.static y ∈ WL)
    (hc : Ct (eL E) y cb mL rt rc (eD E) (eCy E) (eAd E) As wc wc' (some (.long r)))
    (hC : isC.map (fun i => ws[i]?) = wc.map some) (hRl : isR.all (fun i => Nat.blt i ws.length) = true) (h2 : is2.map (fun i => (isR.filterMap (fun i => ws[i]?) ++ wc')[i]?) = ws2.map some) (hp : placesOK isC isR is2 = true)
    (hnA : As.length = nA) (hst : st = As.reverse ++ rest) (hcat : Nat.ble (rest.map fun v => v.category).sum 8 = true) (hrm : roomOK rc rm mL k n = true) (d : decode cc pc = .ok (.invokestatic index, 3)) (kk : GG E k n ws2 L (pc + 3) (.long r :: rest)) : GG E k n ws L pc st := g_xcallSN isC isR is2 C M hnest hstat hc hC hRl h2 hp hnA hst hcat hrm d kk
theorem g_callNV {y : MethodName} {cb : ByteArray} {mL nA index : Nat} {host : String} {rt : Option FieldType} {rc : Room} {As rest : List Value} {wc wc' ws2 : va_W}  (isC isR is2 : List Nat) (C : Cx E cc own rm) (M : MtB own y cb mL rt nA) (hnest : Cond.methodLinkNest own index y host ∈ nestL) (hstat : Cond.static y ∈ WL)
    (hc : Ct (eL E) y cb mL rt rc (eD E) (eCy E) (eAd E) As wc wc' none)
    (hC : isC.map (fun i => ws[i]?) = wc.map some) (hRl : isR.all (fun i => Nat.blt i ws.length) = true) (h2 : is2.map (fun i => (isR.filterMap (fun i => ws[i]?) ++ wc')[i]?) = ws2.map some) (hp : placesOK isC isR is2 = true)
    (hnA : As.length = nA) (hst : st = As.reverse ++ rest) (hcat : Nat.ble (rest.map fun v => v.category).sum 8 = true) (hrm : roomOK rc rm mL k n = true) (d : decode cc pc = .ok (.invokestatic index, 3)) (kk : GG E k n ws2 L (pc + 3) rest) : GG E k n ws L pc st := g_xcallSN isC isR is2 C M hnest hstat hc hC hRl h2 hp hnA hst hcat hrm d kk
theorem g_ifs {ρ : Type} {c : Prop} [Decidable c] {X Y : Option ρ} {v : ρ} (h : (if c then X else Y) = some v) (kt : c → X = some v → GG E k n ws L pc st) (kf : ¬ c → Y = some v → GG E k n ws L pc st) : GG E k n ws L pc st := by
  by_cases hc : c
  · exact kt hc ((ite_some h).1 hc)
  · exact kf hc ((ite_some h).2 hc)
theorem g_tableIn {dflt lo hi a j off : Int} {offs : Array Int} {len : Nat} (tgt : Nat) (C : Cx E cc own rm) (d : decode cc pc = .ok (.tableswitch dflt lo hi offs, len)) (hx : wI a = wI j) (h1 : ¬ (wI j).toInt < lo) (h2 : ¬ hi < (wI j).toInt) (ho : offs[((wI j).toInt - lo).toNat]? = some off) (ht : (pc : Int) + off = (tgt : Int)) (kk : GG E k n ws L tgt st) : GG E k n ws L pc (.int (wI a) :: st) := by
  rw [hx]
  intro H locs ls hP hD hS hl
  exact lv_tableIn C.x C.b d h1 h2 ho ht (kk H locs ls hP hD hS hl)
theorem g_tableOut {dflt lo hi a : Int} {offs : Array Int} {len : Nat} (tgt : Nat) (C : Cx E cc own rm) (d : decode cc pc = .ok (.tableswitch dflt lo hi offs, len)) (hx : (wI a).toInt < lo ∨ hi < (wI a).toInt) (ht : (pc : Int) + dflt = (tgt : Int)) (kk : GG E k n ws L tgt st) : GG E k n ws L pc (.int (wI a) :: st) := by
  intro H locs ls hP hD hS hl
  exact lv_tableOut C.x C.b d hx ht (kk H locs ls hP hD hS hl)
end GC
theorem tab_out {x : Int32} {lo hi : Int} (h : ∀ j, lo ≤ j → j ≤ hi → ¬ x = wI j) : x.toInt < lo ∨ hi < x.toInt := by
  rcases Int.lt_or_le x.toInt lo with h1 | h1
  · exact Or.inl h1
  · rcases Int.lt_or_le hi x.toInt with h2 | h2
    · exact Or.inr h2
    · exact absurd (wI_of x).symm (h x.toInt h1 h2)
