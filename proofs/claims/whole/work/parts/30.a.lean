/-! ALLOCATION: new arrays, new objects, constructors -/
theorem RA_uniq {U : State} {c c' : ClassId} {ty : FieldType} (h : va_RA U c ty) (h' : va_RA U c' ty) : c = c' := by
  cases ty with
  | object C =>
    obtain ⟨_, _, _, _, _, h4⟩ := h
    obtain ⟨_, _, _, _, _, h4'⟩ := h'
    exact Option.some.inj (h4.symm.trans h4')
  | _ => exact Option.some.inj (Eq.trans (Eq.symm h) h')
section ALLOC
variable {E : EE} {cc : ByteArray} {own : String} {rm : Room} {k n pc : Nat} {ws : va_W} {L : List (Option Value)} {st : List Value}
theorem g_newarr {atype : ArrayType} {ty : FieldType} {N : Nat} {v : Int} {a0 : vp_A} (ti : Nat) (C : Cx E cc own rm) (hty : newarray.typeOf atype = ty) (hi : (tyL (eCy E))[ti]? = some (eCy E ti, ty)) (hw : Cond.arrayClass ty ∈ WL)
    (ha : ∀ cA : ClassId, vp_cell cA a0 = arrV cA N (fun _ => defaultValue ty)) (hv : ¬ wI v < 0) (hN : (wI v).toNatClampNeg = N) (hb : N * componentBytes ty ≤ 536870912) (hr : Nat.ble (k + 1) rm.cells = true ∧ Nat.ble (n + N) rm.slots = true) (d : decode cc pc = .ok (.newarray atype, 2))
    (kk : ∀ q : Nat, GG E (k + 1) (n + N) (ws ++ [(q, .inl (eCy E ti, a0))]) L (pc + 2) (.ref q :: st)) : GG E k n ws L pc (.int (wI v) :: st) := by
  intro H locs ls hP hD hS hl
  refine va_newa (a0 := a0) C.x C.b (by rw [hty]; exact C.ts _ hw) hty C.kk.1 hP hD hS C.a ha hv hN hb (by rw [C.r]; exact Nat.ble_eq.mp hr.1) (by rw [C.r]; exact Nat.ble_eq.mp hr.2) d (fun q cA H1 hK hP1 hD1 hS1 => ?_)
  have h1 : va_RA (eS E) cA ty := (hK.2 (tyL (eCy E)).length (cA, ty) (by rw [List.getElem?_append_right (Nat.le_refl _), Nat.sub_self]; rfl)).2
  have h2 : va_RA (eS E) (eCy E ti) ty := (C.kk.1.2 ti _ hi).2
  have e := RA_uniq h1 h2
  subst e
  exact kk q H1 locs ls hP1 hD1 hS1 hl
theorem g_anew {Cn : String} {N index : Nat} {v : Int} (ti : Nat) (C : Cx E cc own rm) (hi : (tyL (eCy E))[ti]? = some (eCy E ti, .object Cn)) (hcl : Cond.classLink own index Cn ∈ WL) (hov : va_AO Cn (eS E))
    (hv : ¬ wI v < 0) (hN : (wI v).toNatClampNeg = N) (hb : N * 4 ≤ 536870912) (hr : Nat.ble (k + 1) rm.cells = true ∧ Nat.ble (n + N) rm.slots = true) (d : decode cc pc = .ok (.anewarray index, 3))
    (kk : ∀ q : Nat, GG E (k + 1) (n + N) (ws ++ [(q, .inl (eCy E ti, N, .inr (.inr (.inr (.inr (fun _ => none))))))]) L (pc + 3) (.ref q :: st)) : GG E k n ws L pc (.int (wI v) :: st) := by
  intro H locs ls hP hD hS hl
  refine va_newq C.x C.b C.ow (C.ts _ hcl) hov C.kk.1 hP hD hS C.a hv hN hb (by rw [C.r]; exact Nat.ble_eq.mp hr.1) (by rw [C.r]; exact Nat.ble_eq.mp hr.2) d (fun q cA H1 hK hP1 hD1 hS1 => ?_)
  have h1 : va_RA (eS E) cA (.object Cn) := (hK.2 (tyL (eCy E)).length (cA, .object Cn) (by rw [List.getElem?_append_right (Nat.le_refl _), Nat.sub_self]; rfl)).2
  have h2 : va_RA (eS E) (eCy E ti) (.object Cn) := (C.kk.1.2 ti _ hi).2
  have e := RA_uniq h1 h2
  subst e
  exact kk q H1 locs ls hP1 hD1 hS1 hl
def NewW (own : String) (index ci N : Nat) (fs : List Value) : Prop := ∃ (Cn : String) (T : u_T) (ty : Nat → FieldType), vwCl[ci]? = some (Cn, T, N) ∧ (∀ w ∈ u_ws Cn T N, w ∈ WL) ∧ (∀ k, k < N → parseFieldDescriptor (T k).2.2.1 = some (ty k)) ∧ Cond.classLink own index Cn ∈ WL ∧ Cond.instantiable Cn N ∈ WL ∧ Cond.initialized Cn ∈ WL ∧ ∀ j, j < N → defaultValue (ty j) = vp_V fs j
theorem g_new {index ci N : Nat} {fs : List Value} (C : Cx E cc own rm) (hN : NewW own index ci N fs) (hr : Nat.ble (k + 1) rm.cells = true ∧ Nat.ble (n + N) rm.slots = true) (d : decode cc pc = .ok (.new index, 3))
    (kk : ∀ q : Nat, GG E (k + 1) (n + N) (ws ++ [(q, .inr (ci, fs))]) L (pc + 3) (.ref q :: st)) : GG E k n ws L pc st := by
  obtain ⟨Cn, T, ty, h1, h2, h3, h4, h5, h6, h7⟩ := hN
  intro H locs ls hP hD hS hl
  exact va_new (ci := ci) C.x C.b C.ts h2 ty h3 C.ow (C.ts _ h4) (C.ts _ h5) (C.ts _ h6) C.kk.1 hP hD hS C.a h1 h7 (by rw [C.r]; exact Nat.ble_eq.mp hr.1) (by rw [C.r]; exact Nat.ble_eq.mp hr.2) d (fun q H1 hP1 hD1 hS1 => kk q H1 locs ls hP1 hD1 hS1 hl)
def FldF (own : String) (index ci j : Nat) (ty : FieldType) : Prop := ∃ (Cn : String) (T : u_T) (N : Nat) (ty0 : Nat → FieldType), vwCl[ci]? = some (Cn, T, N) ∧ j < N ∧ (∀ w ∈ u_ws Cn T N, w ∈ WL) ∧ Cond.fieldLink own index (T j).1 (T j).2.1 (T j).2.2.1 ∈ WL ∧ (∀ k, k < N → parseFieldDescriptor (T k).2.2.1 = some (ty0 k)) ∧ (∀ a, a < N → ∀ b, b < N → a ≠ b → (T a).2.1 ≠ (T b).2.1) ∧ (T j).2.2.2 = true ∧ (T j).1 = own ∧ parseFieldDescriptor (T j).2.2.1 = some ty
theorem g_putF {index ci j a : Nat} {fs : List Value} {v : Value} {ty : FieldType} {ws' : va_W} (C : Cx E cc own rm) (hin : (eMt E).name = "<init>") (hf : FldF own index ci j ty) (q0 : Nat) (he : ws[q0]? = some (a, .inr (ci, fs))) (hn : narrow ty v = v) (hfit : fits ty v = true) (hj : Nat.blt j fs.length = true) (e : ws.set q0 (a, .inr (ci, fs.set j v)) = ws') (d : decode cc pc = .ok (.putfield index, 3)) (kk : GG E k n ws' L (pc + 3) st) : GG E k n ws L pc (v :: .ref a :: st) := by
  obtain ⟨Cn, T, N, ty0, h1, h2, h3, h4, h5, h6, h7, h8, h9⟩ := hf
  intro H locs ls hP hD hS hl
  exact va_putF (D := eD E) C.x C.b C.ts h3 ty0 h5 h6 C.ow C.kk.1 hP hD hS q0 he h1 j h2 (C.ts _ h4) (fun _ h => h) h7 hin h8 h9 hn hfit (Nat.blt_eq.mp hj) d (fun H1 locs1 hP1 hD1 hS1 => kk H1 locs1 ls (e ▸ hP1) (e ▸ hD1) hS1 hl)
theorem oi_i : Cond.instanceMethod Lib.objectInit ∈ WL := by decide +kernel
theorem oi_c : Cond.code Lib.objectInit ⟨#[0xb1]⟩ 1 none ∈ WL := by decide +kernel
theorem g_objInit {idx a : Nat} (C : Cx E cc own rm) (hl : Cond.methodLink own idx Lib.objectInit ∈ WL) (hr : Nat.ble 1 rm.frames = true ∧ Nat.ble ((st.map fun v => v.category).sum + 12) rm.locals = true) (d : decode cc pc = .ok (.invokespecial idx, 3)) (kk : GG E k n ws L (pc + 3) st) : GG E k n ws L pc (.ref a :: st) := by
  intro H locs ls hP hD hS hls
  refine W.objInit C.x C.b C.ow (C.ts _ hl) (C.ts _ oi_i) (C.ts _ oi_c) rfl (hls.1.trans C.ml.symm) rfl d (by rw [C.r]; exact Nat.ble_eq.mp hr.1) ?_ (kk H locs ls hP hD hS hls)
  rw [C.r]
  have := Nat.ble_eq.mp hr.2
  simpa [F0] using this
end ALLOC
/-! contracts of constructors -/
def PcX (D : va_G) (cy : Nat → ClassId) (ad : AD) (av : List Value) (w0 : va_W) (sz : Nat) (X : State → Prop) : Array Value → State → Prop := va_Pc av (fun U => U.heap.size = sz ∧ va_P D vwCl w0 U.heap ∧ KK D cy ad U ∧ va_D (fun _ => True) w0 ∧ SX ad (va_A w0 sz) U U.heap ∧ X U)
def QSn (D : va_G) (w0 : va_W) (P1 : va_W → Prop) (sz : Nat) : Array Value → State → Outcome → State → Prop := fun _ st oc t => (oc = .returned none ∧ ∃ w1, P1 w1 ∧ va_P D vwCl w1 t.heap ∧ va_D (va_A w0 sz) w1) ∧ va_F (va_A w0 sz) st t
def Ci (l : Launch) (y : MethodName) (cb : ByteArray) (mL : Nat) (rm : Room) (D : va_G) (cy : Nat → ClassId) (ad : AD) (av : List Value) (w0 : va_W) (X : State → Prop) (P1 : va_W → Prop) : Prop :=
  ∀ sz : Nat, Met l y (Cond.code y cb mL none :: WL) rm (PcX D cy ad av w0 sz X) (QSn D w0 P1 sz) rm.cells rm.slots (va_A w0 sz)
/-- what a callee's state keeps -/
def Mvd (X : State → Prop) : Prop := (∀ {u U : State}, u.vm.Alike U.vm → X u → X U)
theorem PcX_blind {D : va_G} {cy : Nat → ClassId} {ad : AD} {av : List Value} {w0 : va_W} {sz : Nat} {X : State → Prop} (hX : Mvd X) : FrameBlind (PcX D cy ad av w0 sz X) := by
  intro a U g mk q
  obtain ⟨q0, q1, qP, qK, qD, qX, q6⟩ := q
  exact ⟨q0, q1, qP, KK.call qK, qD, SX.call qX, hX (u := U) (U := U.calling g mk a) (Vm.Alike.refl U.vm) q6⟩
theorem Ci.intro {l : Launch} {y : MethodName} {cb : ByteArray} {mL j : Nat} {rm : Room} {D : va_G} {cy : Nat → ClassId} {ad : AD} {av : List Value} {w0 : va_W} {X : State → Prop} {P1 : va_W → Prop} {L0 : List (Option Value)}
    (hy : plainFor y = true) (hi : y.name = "<init>") (hn : Nat.ble (lg_sl av).length mL = true) (hL : initL av ++ List.replicate j none = L0)
    (hb : ∀ (E : EE), Cx E cb y.cls rm → eL E = l → eD E = D → eCy E = cy → eAd E = ad → eN E = mL → (eMt E).name = "<init>" → X (eS E) → (∀ (pc : Nat) (L : List (Option Value)) (w1 : va_W), P1 w1 → decode cb pc = .ok (.return_, 1) → GG E rm.cells rm.slots w1 L pc []) → GG E 0 0 w0 L0 0 []) : Ci l y cb mL rm D cy ad av w0 X P1 := by
  intro sz
  refine va_MetF (cc := cb) (maxL := mL) (ret := none) hy rfl ?_
  intro p e s m args below meth c s₁ B hml hv
  obtain ⟨rfl, hsz, hP, hK, hD0, hX, hXX⟩ := hv
  have hts := atoms_spec (ws := Cond.code y cb mL none :: WL) B.pre
  have hown : s.vm.findClass y.cls = some m.cls := findClass_of_methodNamed B.named
  have hname : meth.name = "<init>" := (name_of_methodNamed B.named B.method).1.trans hi
  subst hsz
  have hD := hD0.self (sz := s.heap.size)
  rw [lg_entry_eq]
  refine (hb (p, l, e, rm, s, m, av.toArray, below, meth, c, MQ below (QSn D w0 P1 s.heap.size) av.toArray s rm.cells rm.slots (va_A w0 s.heap.size), D, cy, ad, va_A w0 s.heap.size, mL)
    ⟨B.exec, B.bytes, hml, hown, fun w hw => hts w (List.mem_cons_of_mem _ hw), hK, fun q h => Or.inr h, hX, B.notSynchronized, rfl⟩ rfl rfl rfl rfl rfl hname hXX ?_) s.heap [] _ hP hD va_S.rf (hL ▸ lh.entry (Nat.ble_eq.mp hn))
  intro pc L w1 hw1 d H locs ls hP1 hD1 hS1 hl
  exact W.vret B.exec B.bytes B.returns (fun t ht hW => ⟨⟨rfl, w1, hw1, by rw [ht]; exact hP1, hD1⟩, hS1.F ht⟩) (fun q hq => hS1.2.2 q hq) d B.notSynchronized
