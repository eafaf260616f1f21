/-! THE JUDGEMENT: at pc, with world ws, locals L and stack st, the method comes to its end -/
abbrev EE := Program × Launch × Env × Room × State × MethodId × Array Value × List Frame × Method × Code × (State → Prop) × va_G × (Nat → ClassId) × AD × (Nat → Prop) × Nat
abbrev eP (E : EE) := E.1
abbrev eL (E : EE) := E.2.1
abbrev eE (E : EE) := E.2.2.1
abbrev eR (E : EE) := E.2.2.2.1
abbrev eS (E : EE) := E.2.2.2.2.1
abbrev eM (E : EE) := E.2.2.2.2.2.1
abbrev eAr (E : EE) := E.2.2.2.2.2.2.1
abbrev eB (E : EE) := E.2.2.2.2.2.2.2.1
abbrev eMt (E : EE) := E.2.2.2.2.2.2.2.2.1
abbrev eC (E : EE) := E.2.2.2.2.2.2.2.2.2.1
abbrev eQ (E : EE) := E.2.2.2.2.2.2.2.2.2.2.1
abbrev eD (E : EE) := E.2.2.2.2.2.2.2.2.2.2.2.1
abbrev eCy (E : EE) := E.2.2.2.2.2.2.2.2.2.2.2.2.1
abbrev eAd (E : EE) := E.2.2.2.2.2.2.2.2.2.2.2.2.2.1
abbrev eA (E : EE) := E.2.2.2.2.2.2.2.2.2.2.2.2.2.2.1
abbrev eN (E : EE) := E.2.2.2.2.2.2.2.2.2.2.2.2.2.2.2
def GG (E : EE) (k n : Nat) (ws : va_W) (L : List (Option Value)) (pc : Nat) (st : List Value) : Prop :=
  ∀ (H : Heap) (locs : List Loc) (ls : Array Slot), va_P (eD E) vwCl ws H → va_D (eA E) ws → va_S (eA E) (eS E).heap H locs → lh ls (eN E) L → W (eP E) (eL E) (eE E) (eR E) (eS E) (eM E) (eAr E) (eB E) (eMt E) (eC E) H locs k n (eQ E) (F0 (eM E) pc ls st)
def Cx (E : EE) (cc : ByteArray) (own : String) (rm : Room) : Prop :=
  (eP E).tables.exec = Jvm.exec ∧ (eC E).code = cc ∧ (eC E).maxLocals = eN E ∧ (eS E).vm.findClass own = some (eM E).cls ∧ (∀ w ∈ WL, w.before (eAr E) (eS E) = true) ∧ KK (eD E) (eCy E) (eAd E) (eS E) ∧ (∀ q, (eS E).heap.size ≤ q → eA E q) ∧ SX (eAd E) (eA E) (eS E) (eS E).heap ∧ (eMt E).locks = false ∧ eR E = rm
section GR
variable {E : EE} {cc : ByteArray} {own : String} {rm : Room} {k n pc : Nat} {ws : va_W} {L : List (Option Value)} {st : List Value}
theorem Cx.x (C : Cx E cc own rm) : (eP E).tables.exec = Jvm.exec := C.1
theorem Cx.b (C : Cx E cc own rm) : (eC E).code = cc := C.2.1
theorem Cx.ml (C : Cx E cc own rm) : (eC E).maxLocals = eN E := C.2.2.1
theorem Cx.ow (C : Cx E cc own rm) : (eS E).vm.findClass own = some (eM E).cls := C.2.2.2.1
theorem Cx.ts (C : Cx E cc own rm) : ∀ w ∈ WL, w.before (eAr E) (eS E) = true := C.2.2.2.2.1
theorem Cx.kk (C : Cx E cc own rm) : KK (eD E) (eCy E) (eAd E) (eS E) := C.2.2.2.2.2.1
theorem Cx.a (C : Cx E cc own rm) : ∀ q, (eS E).heap.size ≤ q → eA E q := C.2.2.2.2.2.2.1
theorem Cx.sx (C : Cx E cc own rm) : SX (eAd E) (eA E) (eS E) (eS E).heap := C.2.2.2.2.2.2.2.1
theorem Cx.lk (C : Cx E cc own rm) : (eMt E).locks = false := C.2.2.2.2.2.2.2.2.1
theorem Cx.r (C : Cx E cc own rm) : eR E = rm := C.2.2.2.2.2.2.2.2.2
/-- fewer locals -/
theorem g_mask (bs : List Bool) {L' : List (Option Value)} (e : maskL bs L = L') (kk : GG E k n ws L' pc st) : GG E k n ws L pc st := by
  intro H locs ls hP hD hS hl
  exact kk H locs ls hP hD hS (e ▸ hl.mask bs)
theorem g_ws {ws' : va_W} (e : ws = ws') (kk : GG E k n ws' L pc st) : GG E k n ws L pc st := e ▸ kk
theorem g_st {st' : List Value} (e : st = st') (kk : GG E k n ws L pc st') : GG E k n ws L pc st := e ▸ kk
theorem g_topI {a x : Int} (e : x = a) (kk : GG E k n ws L pc (.int (wI x) :: st)) : GG E k n ws L pc (.int (wI a) :: st) := e ▸ kk
theorem g_topJ {a x : Int} (e : x = a) (kk : GG E k n ws L pc (.long (wJ x) :: st)) : GG E k n ws L pc (.long (wJ a) :: st) := e ▸ kk
theorem g_iconst {v : Int} (C : Cx E cc own rm) (d : decode cc pc = .ok (.iconst v, 1)) (kk : GG E k n ws L (pc + 1) (.int (wI v) :: st)) : GG E k n ws L pc st := by
  intro H locs ls hP hD hS hl
  exact lv_iconst (v := wI v) C.x C.b d rfl (kk H locs ls hP hD hS hl)
theorem g_bipush {v : Int} (C : Cx E cc own rm) (d : decode cc pc = .ok (.bipush v, 2)) (hv : (Int8.ofInt v).toInt32 = wI v) (kk : GG E k n ws L (pc + 2) (.int (wI v) :: st)) : GG E k n ws L pc st := by
  intro H locs ls hP hD hS hl
  exact lv_bipush (v := wI v) C.x C.b d hv (kk H locs ls hP hD hS hl)
theorem g_sipush {v : Int} (C : Cx E cc own rm) (d : decode cc pc = .ok (.sipush v, 3)) (hv : (Int16.ofInt v).toInt32 = wI v) (kk : GG E k n ws L (pc + 3) (.int (wI v) :: st)) : GG E k n ws L pc st := by
  intro H locs ls hP hD hS hl
  exact lv_sipush (v := wI v) C.x C.b d hv (kk H locs ls hP hD hS hl)
theorem g_lconst {v : Fin 2} {x : Int} (C : Cx E cc own rm) (d : decode cc pc = .ok (.lconst v, 1)) (hx : ((v : Nat) : Int) = x) (kk : GG E k n ws L (pc + 1) (.long (wJ x) :: st)) : GG E k n ws L pc st := by
  intro H locs ls hP hD hS hl
  exact lv_lconst (v := wJ x) C.x C.b d (by rw [← hx]; exact (Int64.ofInt_eq_ofNat).symm) (kk H locs ls hP hD hS hl)
theorem g_ldc {v : Int} {index : Nat} (C : Cx E cc own rm) (hw : Cond.constant own index (wI v) ∈ WL) (d : decode cc pc = .ok (.ldc index, 2)) (kk : GG E k n ws L (pc + 2) (.int (wI v) :: st)) : GG E k n ws L pc st := by
  intro H locs ls hP hD hS hl
  exact lv_ldc (v := wI v) C.x C.b C.ow (C.ts _ hw) d (kk H locs ls hP hD hS hl)
theorem g_ldc2 {v : Int} {index : Nat} (C : Cx E cc own rm) (hw : Cond.constantLong own index (wJ v) ∈ WL) (d : decode cc pc = .ok (.ldc2_w index, 3)) (kk : GG E k n ws L (pc + 3) (.long (wJ v) :: st)) : GG E k n ws L pc st := by
  intro H locs ls hP hD hS hl
  exact lv_ldc2 (v := wJ v) C.x C.b C.ow (C.ts _ hw) d (kk H locs ls hP hD hS hl)
theorem g_ldcw {v : Int} {index : Nat} (C : Cx E cc own rm) (hw : Cond.constant own index (wI v) ∈ WL) (d : decode cc pc = .ok (.ldc_w index, 3)) (kk : GG E k n ws L (pc + 3) (.int (wI v) :: st)) : GG E k n ws L pc st := by
  intro H locs ls hP hD hS hl
  exact lv_ldcw (v := wI v) C.x C.b C.ow (C.ts _ hw) d (kk H locs ls hP hD hS hl)
theorem g_iload_n {j : Fin 4} {x : Int} (i : Nat) (C : Cx E cc own rm) (d : decode cc pc = .ok (.iload_n j, 1)) (hi : (j : Nat) = i) (hL : L[i]? = some (some (.int (wI x)))) (kk : GG E k n ws L (pc + 1) (.int (wI x) :: st)) : GG E k n ws L pc st := by
  intro H locs ls hP hD hS hl
  exact lv_iload_n C.x C.b d hi (hl.2.2 _ _ hL) (kk H locs ls hP hD hS hl)
theorem g_iload {i : Nat} {x : Int} (C : Cx E cc own rm) (d : decode cc pc = .ok (.iload i, 2)) (hL : L[i]? = some (some (.int (wI x)))) (kk : GG E k n ws L (pc + 2) (.int (wI x) :: st)) : GG E k n ws L pc st := by
  intro H locs ls hP hD hS hl
  exact lv_iload C.x C.b d (hl.2.2 _ _ hL) (kk H locs ls hP hD hS hl)
theorem g_lload_n {j : Fin 4} {x : Int} (i : Nat) (C : Cx E cc own rm) (d : decode cc pc = .ok (.lload_n j, 1)) (hi : (j : Nat) = i) (hL : L[i]? = some (some (.long (wJ x)))) (kk : GG E k n ws L (pc + 1) (.long (wJ x) :: st)) : GG E k n ws L pc st := by
  intro H locs ls hP hD hS hl
  exact lv_lload_n C.x C.b d hi (hl.2.2 _ _ hL) (kk H locs ls hP hD hS hl)
theorem g_lload {i : Nat} {x : Int} (C : Cx E cc own rm) (d : decode cc pc = .ok (.lload i, 2)) (hL : L[i]? = some (some (.long (wJ x)))) (kk : GG E k n ws L (pc + 2) (.long (wJ x) :: st)) : GG E k n ws L pc st := by
  intro H locs ls hP hD hS hl
  exact lv_lload C.x C.b d (hl.2.2 _ _ hL) (kk H locs ls hP hD hS hl)
theorem g_aload_n {j : Fin 4} {x : Nat} (i : Nat) (C : Cx E cc own rm) (d : decode cc pc = .ok (.aload_n j, 1)) (hi : (j : Nat) = i) (hL : L[i]? = some (some (.ref x))) (kk : GG E k n ws L (pc + 1) (.ref x :: st)) : GG E k n ws L pc st := by
  intro H locs ls hP hD hS hl
  exact lv_aload_n C.x C.b d hi (hl.2.2 _ _ hL) (kk H locs ls hP hD hS hl)
theorem g_aload {i x : Nat} (C : Cx E cc own rm) (d : decode cc pc = .ok (.aload i, 2)) (hL : L[i]? = some (some (.ref x))) (kk : GG E k n ws L (pc + 2) (.ref x :: st)) : GG E k n ws L pc st := by
  intro H locs ls hP hD hS hl
  exact lv_aload C.x C.b d (hl.2.2 _ _ hL) (kk H locs ls hP hD hS hl)
theorem g_istore_n {j : Fin 4} {x : Int} {L' : List (Option Value)} (i : Nat) (C : Cx E cc own rm) (hn : eN E = L.length) (d : decode cc pc = .ok (.istore_n j, 1)) (hi : (j : Nat) = i) (hk : (okL L i && Nat.blt i L.length) = true) (e : L.set i (some (.int (wI x))) = L') (kk : GG E k n ws L' (pc + 1) st) : GG E k n ws L pc (.int (wI x) :: st) := by
  intro H locs ls hP hD hS hl
  rw [Bool.and_eq_true] at hk
  exact lv_istore_n C.x C.b d hi hl.has (by rw [hn]; exact Nat.blt_eq.mp hk.2) rfl (fun ls' h => kk H locs ls' hP hD hS (e ▸ lh.store1 hk.1 h))
theorem g_istore {i : Nat} {x : Int} {L' : List (Option Value)} (C : Cx E cc own rm) (hn : eN E = L.length) (d : decode cc pc = .ok (.istore i, 2)) (hk : (okL L i && Nat.blt i L.length) = true) (e : L.set i (some (.int (wI x))) = L') (kk : GG E k n ws L' (pc + 2) st) : GG E k n ws L pc (.int (wI x) :: st) := by
  intro H locs ls hP hD hS hl
  rw [Bool.and_eq_true] at hk
  exact lv_istore C.x C.b d hl.has (by rw [hn]; exact Nat.blt_eq.mp hk.2) rfl (fun ls' h => kk H locs ls' hP hD hS (e ▸ lh.store1 hk.1 h))
theorem g_astore_n {j : Fin 4} {x : Nat} {L' : List (Option Value)} (i : Nat) (C : Cx E cc own rm) (hn : eN E = L.length) (d : decode cc pc = .ok (.astore_n j, 1)) (hi : (j : Nat) = i) (hk : (okL L i && Nat.blt i L.length) = true) (e : L.set i (some (.ref (x))) = L') (kk : GG E k n ws L' (pc + 1) st) : GG E k n ws L pc (.ref (x) :: st) := by
  intro H locs ls hP hD hS hl
  rw [Bool.and_eq_true] at hk
  exact lv_astore_n C.x C.b d hi hl.has (by rw [hn]; exact Nat.blt_eq.mp hk.2) rfl (fun ls' h => kk H locs ls' hP hD hS (e ▸ lh.store1 hk.1 h))
theorem g_astore {i : Nat} {x : Nat} {L' : List (Option Value)} (C : Cx E cc own rm) (hn : eN E = L.length) (d : decode cc pc = .ok (.astore i, 2)) (hk : (okL L i && Nat.blt i L.length) = true) (e : L.set i (some (.ref (x))) = L') (kk : GG E k n ws L' (pc + 2) st) : GG E k n ws L pc (.ref (x) :: st) := by
  intro H locs ls hP hD hS hl
  rw [Bool.and_eq_true] at hk
  exact lv_astore C.x C.b d hl.has (by rw [hn]; exact Nat.blt_eq.mp hk.2) rfl (fun ls' h => kk H locs ls' hP hD hS (e ▸ lh.store1 hk.1 h))
theorem g_lstore_n {j : Fin 4} {x : Int} {L' : List (Option Value)} (i : Nat) (C : Cx E cc own rm) (hn : eN E = L.length) (d : decode cc pc = .ok (.lstore_n j, 1)) (hi : (j : Nat) = i) (hk : (okL L i && Nat.blt (i + 1) L.length) = true) (e : (L.set i (some (.long (wJ x)))).set (i + 1) none = L') (kk : GG E k n ws L' (pc + 1) st) : GG E k n ws L pc (.long (wJ x) :: st) := by
  intro H locs ls hP hD hS hl
  rw [Bool.and_eq_true] at hk
  exact lv_lstore_n C.x C.b d hi hl.has (by rw [hn]; exact Nat.blt_eq.mp hk.2) rfl (fun ls' h => kk H locs ls' hP hD hS (e ▸ lh.store2 hk.1 h))
theorem g_lstore {i : Nat} {x : Int} {L' : List (Option Value)} (C : Cx E cc own rm) (hn : eN E = L.length) (d : decode cc pc = .ok (.lstore i, 2)) (hk : (okL L i && Nat.blt (i + 1) L.length) = true) (e : (L.set i (some (.long (wJ x)))).set (i + 1) none = L') (kk : GG E k n ws L' (pc + 2) st) : GG E k n ws L pc (.long (wJ x) :: st) := by
  intro H locs ls hP hD hS hl
  rw [Bool.and_eq_true] at hk
  exact lv_lstore C.x C.b d hl.has (by rw [hn]; exact Nat.blt_eq.mp hk.2) rfl (fun ls' h => kk H locs ls' hP hD hS (e ▸ lh.store2 hk.1 h))
theorem g_iinc {i : Nat} {v x : Int} {L' : List (Option Value)} (C : Cx E cc own rm) (hn : eN E = L.length) (d : decode cc pc = .ok (.iinc i v, 3)) (hL : L[i]? = some (some (.int (wI x)))) (hk : (okL L i && Nat.blt i L.length) = true) (e : L.set i (some (.int (wI (x + v)))) = L') (kk : GG E k n ws L' (pc + 3) st) : GG E k n ws L pc st := by
  intro H locs ls hP hD hS hl
  rw [Bool.and_eq_true] at hk
  obtain ⟨q, hq⟩ := List.getElem?_of_mem (lpairs_mem.mpr hL)
  exact lv_iinc C.x C.b d hl.has hq (v := wI (x + v)) (wI_add x v) (by rw [hn]; exact Nat.blt_eq.mp hk.2) rfl (fun ls' h => kk H locs ls' hP hD hS (e ▸ lh.store1 hk.1 h))
theorem g_iadd {a b : Int} (C : Cx E cc own rm) (d : decode cc pc = .ok (.iadd, 1)) (kk : GG E k n ws L (pc + 1) (.int (wI (a + b)) :: st)) : GG E k n ws L pc (.int (wI b) :: .int (wI a) :: st) := by
  intro H locs ls hP hD hS hl
  refine lv_iadd C.x C.b d ?_
  rw [wI_add]
  exact kk H locs ls hP hD hS hl
theorem g_isub {a b : Int} (C : Cx E cc own rm) (d : decode cc pc = .ok (.isub, 1)) (kk : GG E k n ws L (pc + 1) (.int (wI (a - b)) :: st)) : GG E k n ws L pc (.int (wI b) :: .int (wI a) :: st) := by
  intro H locs ls hP hD hS hl
  refine lv_isub C.x C.b d ?_
  rw [wI_sub]
  exact kk H locs ls hP hD hS hl
theorem g_imul {a b : Int} (C : Cx E cc own rm) (d : decode cc pc = .ok (.imul, 1)) (kk : GG E k n ws L (pc + 1) (.int (wI (a * b)) :: st)) : GG E k n ws L pc (.int (wI b) :: .int (wI a) :: st) := by
  intro H locs ls hP hD hS hl
  refine lv_imul C.x C.b d ?_
  rw [wI_mul]
  exact kk H locs ls hP hD hS hl
theorem g_ladd {a b : Int} (C : Cx E cc own rm) (d : decode cc pc = .ok (.ladd, 1)) (kk : GG E k n ws L (pc + 1) (.long (wJ (a + b)) :: st)) : GG E k n ws L pc (.long (wJ b) :: .long (wJ a) :: st) := by
  intro H locs ls hP hD hS hl
  refine lv_ladd C.x C.b d ?_
  rw [wJ_add]
  exact kk H locs ls hP hD hS hl
theorem g_lsub {a b : Int} (C : Cx E cc own rm) (d : decode cc pc = .ok (.lsub, 1)) (kk : GG E k n ws L (pc + 1) (.long (wJ (a - b)) :: st)) : GG E k n ws L pc (.long (wJ b) :: .long (wJ a) :: st) := by
  intro H locs ls hP hD hS hl
  refine lv_lsub C.x C.b d ?_
  rw [wJ_sub]
  exact kk H locs ls hP hD hS hl
theorem g_lmul {a b : Int} (C : Cx E cc own rm) (d : decode cc pc = .ok (.lmul, 1)) (kk : GG E k n ws L (pc + 1) (.long (wJ (a * b)) :: st)) : GG E k n ws L pc (.long (wJ b) :: .long (wJ a) :: st) := by
  intro H locs ls hP hD hS hl
  refine lv_lmul C.x C.b d ?_
  rw [wJ_mul]
  exact kk H locs ls hP hD hS hl
theorem g_ineg {a : Int} (C : Cx E cc own rm) (d : decode cc pc = .ok (.ineg, 1)) (kk : GG E k n ws L (pc + 1) (.int (wI (-a)) :: st)) : GG E k n ws L pc (.int (wI a) :: st) := by
  intro H locs ls hP hD hS hl
  refine lv_ineg C.x C.b d ?_
  rw [wI_neg]
  exact kk H locs ls hP hD hS hl
theorem g_lneg {a : Int} (C : Cx E cc own rm) (d : decode cc pc = .ok (.lneg, 1)) (kk : GG E k n ws L (pc + 1) (.long (wJ (-a)) :: st)) : GG E k n ws L pc (.long (wJ a) :: st) := by
  intro H locs ls hP hD hS hl
  refine lv_lneg C.x C.b d ?_
  rw [wJ_neg]
  exact kk H locs ls hP hD hS hl
theorem g_idiv {a b : Int} (C : Cx E cc own rm) (d : decode cc pc = .ok (.idiv, 1)) (hr : ((-2147483648 ≤ a ∧ a ≤ 2147483647) ∧ (-2147483648 ≤ b ∧ b ≤ 2147483647)) ∧ ¬ b = 0) (kk : GG E k n ws L (pc + 1) (.int (wI (a.tdiv b)) :: st)) : GG E k n ws L pc (.int (wI b) :: .int (wI a) :: st) := by
  intro H locs ls hP hD hS hl
  refine lv_idiv C.x C.b d (fun h => hr.2 ?_) ?_
  · have h2 : wI b = wI 0 := h
    rw [wI_eq hr.1.2 (by decide)] at h2
    exact h2
  · rw [wI_div hr.1]
    exact kk H locs ls hP hD hS hl
theorem g_irem {a b : Int} (C : Cx E cc own rm) (d : decode cc pc = .ok (.irem, 1)) (hr : ((-2147483648 ≤ a ∧ a ≤ 2147483647) ∧ (-2147483648 ≤ b ∧ b ≤ 2147483647)) ∧ ¬ b = 0) (kk : GG E k n ws L (pc + 1) (.int (wI (a.tmod b)) :: st)) : GG E k n ws L pc (.int (wI b) :: .int (wI a) :: st) := by
  intro H locs ls hP hD hS hl
  refine lv_irem C.x C.b d (fun h => hr.2 ?_) ?_
  · have h2 : wI b = wI 0 := h
    rw [wI_eq hr.1.2 (by decide)] at h2
    exact h2
  · rw [wI_rem hr.1]
    exact kk H locs ls hP hD hS hl
theorem g_ldiv {a b : Int} (C : Cx E cc own rm) (d : decode cc pc = .ok (.ldiv, 1)) (hr : ((-9223372036854775808 ≤ a ∧ a ≤ 9223372036854775807) ∧ (-9223372036854775808 ≤ b ∧ b ≤ 9223372036854775807)) ∧ ¬ b = 0) (kk : GG E k n ws L (pc + 1) (.long (wJ (a.tdiv b)) :: st)) : GG E k n ws L pc (.long (wJ b) :: .long (wJ a) :: st) := by
  intro H locs ls hP hD hS hl
  refine lv_ldiv C.x C.b d (fun h => hr.2 ?_) ?_
  · have h2 : wJ b = wJ 0 := h
    rw [wJ_eq hr.1.2 (by decide)] at h2
    exact h2
  · rw [wJ_div hr.1]
    exact kk H locs ls hP hD hS hl
theorem g_lrem {a b : Int} (C : Cx E cc own rm) (d : decode cc pc = .ok (.lrem, 1)) (hr : ((-9223372036854775808 ≤ a ∧ a ≤ 9223372036854775807) ∧ (-9223372036854775808 ≤ b ∧ b ≤ 9223372036854775807)) ∧ ¬ b = 0) (kk : GG E k n ws L (pc + 1) (.long (wJ (a.tmod b)) :: st)) : GG E k n ws L pc (.long (wJ b) :: .long (wJ a) :: st) := by
  intro H locs ls hP hD hS hl
  refine lv_lrem C.x C.b d (fun h => hr.2 ?_) ?_
  · have h2 : wJ b = wJ 0 := h
    rw [wJ_eq hr.1.2 (by decide)] at h2
    exact h2
  · rw [wJ_rem hr.1]
    exact kk H locs ls hP hD hS hl
theorem g_iand {a b : Int} (C : Cx E cc own rm) (d : decode cc pc = .ok (.iand, 1)) (kk : GG E k n ws L (pc + 1) (.int (wI (andI a b)) :: st)) : GG E k n ws L pc (.int (wI b) :: .int (wI a) :: st) := by
  intro H locs ls hP hD hS hl
  refine lv_iand C.x C.b d ?_
  have h := kk H locs ls hP hD hS hl
  rw [show wI (andI a b) = _ from wI_of _] at h
  exact h
theorem g_ior {a b : Int} (C : Cx E cc own rm) (d : decode cc pc = .ok (.ior, 1)) (kk : GG E k n ws L (pc + 1) (.int (wI (orI a b)) :: st)) : GG E k n ws L pc (.int (wI b) :: .int (wI a) :: st) := by
  intro H locs ls hP hD hS hl
  refine lv_ior C.x C.b d ?_
  have h := kk H locs ls hP hD hS hl
  rw [show wI (orI a b) = _ from wI_of _] at h
  exact h
theorem g_ixor {a b : Int} (C : Cx E cc own rm) (d : decode cc pc = .ok (.ixor, 1)) (kk : GG E k n ws L (pc + 1) (.int (wI (xorI a b)) :: st)) : GG E k n ws L pc (.int (wI b) :: .int (wI a) :: st) := by
  intro H locs ls hP hD hS hl
  refine lv_ixor C.x C.b d ?_
  have h := kk H locs ls hP hD hS hl
  rw [show wI (xorI a b) = _ from wI_of _] at h
  exact h
theorem g_ishl {a b : Int} (C : Cx E cc own rm) (d : decode cc pc = .ok (.ishl, 1)) (kk : GG E k n ws L (pc + 1) (.int (wI (shlI a b)) :: st)) : GG E k n ws L pc (.int (wI b) :: .int (wI a) :: st) := by
  intro H locs ls hP hD hS hl
  refine lv_ishl C.x C.b d ?_
  have h := kk H locs ls hP hD hS hl
  rw [show wI (shlI a b) = _ from wI_of _] at h
  exact h
theorem g_ishr {a b : Int} (C : Cx E cc own rm) (d : decode cc pc = .ok (.ishr, 1)) (kk : GG E k n ws L (pc + 1) (.int (wI (shrI a b)) :: st)) : GG E k n ws L pc (.int (wI b) :: .int (wI a) :: st) := by
  intro H locs ls hP hD hS hl
  refine lv_ishr C.x C.b d ?_
  have h := kk H locs ls hP hD hS hl
  rw [show wI (shrI a b) = _ from wI_of _] at h
  exact h
theorem g_iushr {a b : Int} (C : Cx E cc own rm) (d : decode cc pc = .ok (.iushr, 1)) (kk : GG E k n ws L (pc + 1) (.int (wI (ushrI a b)) :: st)) : GG E k n ws L pc (.int (wI b) :: .int (wI a) :: st) := by
  intro H locs ls hP hD hS hl
  exact lv_iushr (v := wI (ushrI a b)) C.x C.b d (wI_of _).symm (kk H locs ls hP hD hS hl)
theorem g_lshl {a b : Int} (C : Cx E cc own rm) (d : decode cc pc = .ok (.lshl, 1)) (kk : GG E k n ws L (pc + 1) (.long (wJ (shlJ a b)) :: st)) : GG E k n ws L pc (.int (wI b) :: .long (wJ a) :: st) := by
  intro H locs ls hP hD hS hl
  exact lv_lshl (v := wJ (shlJ a b)) C.x C.b d (wJ_of _).symm (kk H locs ls hP hD hS hl)
theorem g_land {a b : Int} (C : Cx E cc own rm) (d : decode cc pc = .ok (.land, 1)) (kk : GG E k n ws L (pc + 1) (.long (wJ (andJ a b)) :: st)) : GG E k n ws L pc (.long (wJ b) :: .long (wJ a) :: st) := by
  intro H locs ls hP hD hS hl
  refine lv_land C.x C.b d ?_
  have h := kk H locs ls hP hD hS hl
  rw [show wJ (andJ a b) = _ from wJ_of _] at h
  exact h
theorem g_lor {a b : Int} (C : Cx E cc own rm) (d : decode cc pc = .ok (.lor, 1)) (kk : GG E k n ws L (pc + 1) (.long (wJ (orJ a b)) :: st)) : GG E k n ws L pc (.long (wJ b) :: .long (wJ a) :: st) := by
  intro H locs ls hP hD hS hl
  refine lv_lor C.x C.b d ?_
  have h := kk H locs ls hP hD hS hl
  rw [show wJ (orJ a b) = _ from wJ_of _] at h
  exact h
theorem g_lxor {a b : Int} (C : Cx E cc own rm) (d : decode cc pc = .ok (.lxor, 1)) (kk : GG E k n ws L (pc + 1) (.long (wJ (xorJ a b)) :: st)) : GG E k n ws L pc (.long (wJ b) :: .long (wJ a) :: st) := by
  intro H locs ls hP hD hS hl
  refine lv_lxor C.x C.b d ?_
  have h := kk H locs ls hP hD hS hl
  rw [show wJ (xorJ a b) = _ from wJ_of _] at h
  exact h
theorem g_i2l {a : Int} (C : Cx E cc own rm) (d : decode cc pc = .ok (.i2l, 1)) (hr : (-2147483648 ≤ a ∧ a ≤ 2147483647)) (kk : GG E k n ws L (pc + 1) (.long (wJ a) :: st)) : GG E k n ws L pc (.int (wI a) :: st) := by
  intro H locs ls hP hD hS hl
  exact lv_i2l C.x C.b d (wI_l hr) (kk H locs ls hP hD hS hl)
theorem g_l2i {a : Int} (C : Cx E cc own rm) (d : decode cc pc = .ok (.l2i, 1)) (kk : GG E k n ws L (pc + 1) (.int (wI a) :: st)) : GG E k n ws L pc (.long (wJ a) :: st) := by
  intro H locs ls hP hD hS hl
  exact lv_l2i C.x C.b d (wJ_i a) (kk H locs ls hP hD hS hl)
theorem g_i2b {a : Int} (C : Cx E cc own rm) (d : decode cc pc = .ok (.i2b, 1)) (kk : GG E k n ws L (pc + 1) (.int (wI (b8 a)) :: st)) : GG E k n ws L pc (.int (wI a) :: st) := by
  intro H locs ls hP hD hS hl
  exact lv_i2b C.x C.b d (wI_b a) (kk H locs ls hP hD hS hl)
theorem g_i2s {a : Int} (C : Cx E cc own rm) (d : decode cc pc = .ok (.i2s, 1)) (kk : GG E k n ws L (pc + 1) (.int (wI (b16 a)) :: st)) : GG E k n ws L pc (.int (wI a) :: st) := by
  intro H locs ls hP hD hS hl
  exact lv_i2s C.x C.b d (wI_s a) (kk H locs ls hP hD hS hl)
theorem g_i2c {a : Int} (C : Cx E cc own rm) (d : decode cc pc = .ok (.i2c, 1)) (kk : GG E k n ws L (pc + 1) (.int (wI (c16 a)) :: st)) : GG E k n ws L pc (.int (wI a) :: st) := by
  intro H locs ls hP hD hS hl
  exact lv_i2c C.x C.b d (wI_of _).symm (kk H locs ls hP hD hS hl)
theorem g_dup {va : Value} (C : Cx E cc own rm) (d : decode cc pc = .ok (.dup, 1)) (hv : va.category = 1) (kk : GG E k n ws L (pc + 1) (va :: va :: st)) : GG E k n ws L pc (va :: st) := by
  intro H locs ls hP hD hS hl
  exact lv_dup C.x C.b d hv (kk H locs ls hP hD hS hl)
theorem g_dup2_11 {va vb : Value} (C : Cx E cc own rm) (d : decode cc pc = .ok (.dup2, 1)) (hv : va.category = 1) (hw : vb.category = 1) (kk : GG E k n ws L (pc + 1) (va :: vb :: va :: vb :: st)) : GG E k n ws L pc (va :: vb :: st) := by
  intro H locs ls hP hD hS hl
  exact lv_dup2_11 C.x C.b d hv hw (kk H locs ls hP hD hS hl)
theorem g_pop {va : Value} (C : Cx E cc own rm) (d : decode cc pc = .ok (.pop, 1)) (hv : va.category = 1) (kk : GG E k n ws L (pc + 1) st) : GG E k n ws L pc (va :: st) := by
  intro H locs ls hP hD hS hl
  exact lv_pop C.x C.b d hv (kk H locs ls hP hD hS hl)
theorem g_pop2 {va : Value} (C : Cx E cc own rm) (d : decode cc pc = .ok (.pop2, 1)) (hv : va.category = 2) (kk : GG E k n ws L (pc + 1) st) : GG E k n ws L pc (va :: st) := by
  intro H locs ls hP hD hS hl
  exact lv_pop2_2 C.x C.b d hv (kk H locs ls hP hD hS hl)
theorem g_goto {off : Int} {tgt : Nat} (C : Cx E cc own rm) (d : decode cc pc = .ok (.goto off, 3)) (ht : (pc : Int) + off = (tgt : Int)) (kk : GG E k n ws L tgt st) : GG E k n ws L pc st := by
  intro H locs ls hP hD hS hl
  exact lv_goto C.x C.b d ht (kk H locs ls hP hD hS hl)
theorem g_icmp_eq {ρ : Type} {X Y : Option ρ} {v : ρ} {a b off : Int} (tgt : Nat) (C : Cx E cc own rm) (d : decode cc pc = .ok (.if_icmp .eq off, 3)) (ht : (pc : Int) + off = (tgt : Int)) (h : (if wI a = wI b then X else Y) = some v) (kt : X = some v → GG E k n ws L tgt st) (kf : Y = some v → GG E k n ws L (pc + 3) st) : GG E k n ws L pc (.int (wI b) :: .int (wI a) :: st) := by
  intro H locs ls hP hD hS hl
  exact lv_icmp_eq C.x C.b d ht (fun q => kt ((ite_some h).1 q) H locs ls hP hD hS hl) (fun q => kf ((ite_some h).2 q) H locs ls hP hD hS hl)
theorem g_if_eq {ρ : Type} {X Y : Option ρ} {v : ρ} {a off : Int} (tgt : Nat) (C : Cx E cc own rm) (d : decode cc pc = .ok (.ifCond .eq off, 3)) (ht : (pc : Int) + off = (tgt : Int)) (h : (if wI a = wI 0 then X else Y) = some v) (kt : X = some v → GG E k n ws L tgt st) (kf : Y = some v → GG E k n ws L (pc + 3) st) : GG E k n ws L pc (.int (wI a) :: st) := by
  intro H locs ls hP hD hS hl
  exact lv_if_eq C.x C.b d ht (fun q => kt ((ite_some h).1 q) H locs ls hP hD hS hl) (fun q => kf ((ite_some h).2 q) H locs ls hP hD hS hl)
theorem g_icmp_ne {ρ : Type} {X Y : Option ρ} {v : ρ} {a b off : Int} (tgt : Nat) (C : Cx E cc own rm) (d : decode cc pc = .ok (.if_icmp .ne off, 3)) (ht : (pc : Int) + off = (tgt : Int)) (h : (if wI a = wI b then Y else X) = some v) (kt : X = some v → GG E k n ws L tgt st) (kf : Y = some v → GG E k n ws L (pc + 3) st) : GG E k n ws L pc (.int (wI b) :: .int (wI a) :: st) := by
  intro H locs ls hP hD hS hl
  exact lv_icmp_ne C.x C.b d ht (fun q => kt ((ite_some h).2 q) H locs ls hP hD hS hl) (fun q => kf ((ite_some h).1 q) H locs ls hP hD hS hl)
theorem g_if_ne {ρ : Type} {X Y : Option ρ} {v : ρ} {a off : Int} (tgt : Nat) (C : Cx E cc own rm) (d : decode cc pc = .ok (.ifCond .ne off, 3)) (ht : (pc : Int) + off = (tgt : Int)) (h : (if wI a = wI 0 then Y else X) = some v) (kt : X = some v → GG E k n ws L tgt st) (kf : Y = some v → GG E k n ws L (pc + 3) st) : GG E k n ws L pc (.int (wI a) :: st) := by
  intro H locs ls hP hD hS hl
  exact lv_if_ne C.x C.b d ht (fun q => kt ((ite_some h).2 q) H locs ls hP hD hS hl) (fun q => kf ((ite_some h).1 q) H locs ls hP hD hS hl)
theorem g_icmp_lt {ρ : Type} {X Y : Option ρ} {v : ρ} {a b off : Int} (tgt : Nat) (C : Cx E cc own rm) (d : decode cc pc = .ok (.if_icmp .lt off, 3)) (ht : (pc : Int) + off = (tgt : Int)) (h : (if wI a < wI b then X else Y) = some v) (kt : X = some v → GG E k n ws L tgt st) (kf : Y = some v → GG E k n ws L (pc + 3) st) : GG E k n ws L pc (.int (wI b) :: .int (wI a) :: st) := by
  intro H locs ls hP hD hS hl
  exact lv_icmp_lt C.x C.b d ht (fun q => kt ((ite_some h).1 q) H locs ls hP hD hS hl) (fun q => kf ((ite_some h).2 q) H locs ls hP hD hS hl)
theorem g_if_lt {ρ : Type} {X Y : Option ρ} {v : ρ} {a off : Int} (tgt : Nat) (C : Cx E cc own rm) (d : decode cc pc = .ok (.ifCond .lt off, 3)) (ht : (pc : Int) + off = (tgt : Int)) (h : (if wI a < wI 0 then X else Y) = some v) (kt : X = some v → GG E k n ws L tgt st) (kf : Y = some v → GG E k n ws L (pc + 3) st) : GG E k n ws L pc (.int (wI a) :: st) := by
  intro H locs ls hP hD hS hl
  exact lv_if_lt C.x C.b d ht (fun q => kt ((ite_some h).1 q) H locs ls hP hD hS hl) (fun q => kf ((ite_some h).2 q) H locs ls hP hD hS hl)
theorem g_icmp_ge {ρ : Type} {X Y : Option ρ} {v : ρ} {a b off : Int} (tgt : Nat) (C : Cx E cc own rm) (d : decode cc pc = .ok (.if_icmp .ge off, 3)) (ht : (pc : Int) + off = (tgt : Int)) (h : (if wI b ≤ wI a then X else Y) = some v) (kt : X = some v → GG E k n ws L tgt st) (kf : Y = some v → GG E k n ws L (pc + 3) st) : GG E k n ws L pc (.int (wI b) :: .int (wI a) :: st) := by
  intro H locs ls hP hD hS hl
  exact lv_icmp_ge C.x C.b d ht (fun q => kt ((ite_some h).1 q) H locs ls hP hD hS hl) (fun q => kf ((ite_some h).2 q) H locs ls hP hD hS hl)
theorem g_if_ge {ρ : Type} {X Y : Option ρ} {v : ρ} {a off : Int} (tgt : Nat) (C : Cx E cc own rm) (d : decode cc pc = .ok (.ifCond .ge off, 3)) (ht : (pc : Int) + off = (tgt : Int)) (h : (if wI 0 ≤ wI a then X else Y) = some v) (kt : X = some v → GG E k n ws L tgt st) (kf : Y = some v → GG E k n ws L (pc + 3) st) : GG E k n ws L pc (.int (wI a) :: st) := by
  intro H locs ls hP hD hS hl
  exact lv_if_ge C.x C.b d ht (fun q => kt ((ite_some h).1 q) H locs ls hP hD hS hl) (fun q => kf ((ite_some h).2 q) H locs ls hP hD hS hl)
theorem g_icmp_gt {ρ : Type} {X Y : Option ρ} {v : ρ} {a b off : Int} (tgt : Nat) (C : Cx E cc own rm) (d : decode cc pc = .ok (.if_icmp .gt off, 3)) (ht : (pc : Int) + off = (tgt : Int)) (h : (if wI b < wI a then X else Y) = some v) (kt : X = some v → GG E k n ws L tgt st) (kf : Y = some v → GG E k n ws L (pc + 3) st) : GG E k n ws L pc (.int (wI b) :: .int (wI a) :: st) := by
  intro H locs ls hP hD hS hl
  exact lv_icmp_gt C.x C.b d ht (fun q => kt ((ite_some h).1 q) H locs ls hP hD hS hl) (fun q => kf ((ite_some h).2 q) H locs ls hP hD hS hl)
theorem g_if_gt {ρ : Type} {X Y : Option ρ} {v : ρ} {a off : Int} (tgt : Nat) (C : Cx E cc own rm) (d : decode cc pc = .ok (.ifCond .gt off, 3)) (ht : (pc : Int) + off = (tgt : Int)) (h : (if wI 0 < wI a then X else Y) = some v) (kt : X = some v → GG E k n ws L tgt st) (kf : Y = some v → GG E k n ws L (pc + 3) st) : GG E k n ws L pc (.int (wI a) :: st) := by
  intro H locs ls hP hD hS hl
  exact lv_if_gt C.x C.b d ht (fun q => kt ((ite_some h).1 q) H locs ls hP hD hS hl) (fun q => kf ((ite_some h).2 q) H locs ls hP hD hS hl)
theorem g_icmp_le {ρ : Type} {X Y : Option ρ} {v : ρ} {a b off : Int} (tgt : Nat) (C : Cx E cc own rm) (d : decode cc pc = .ok (.if_icmp .le off, 3)) (ht : (pc : Int) + off = (tgt : Int)) (h : (if wI a ≤ wI b then X else Y) = some v) (kt : X = some v → GG E k n ws L tgt st) (kf : Y = some v → GG E k n ws L (pc + 3) st) : GG E k n ws L pc (.int (wI b) :: .int (wI a) :: st) := by
  intro H locs ls hP hD hS hl
  exact lv_icmp_le C.x C.b d ht (fun q => kt ((ite_some h).1 q) H locs ls hP hD hS hl) (fun q => kf ((ite_some h).2 q) H locs ls hP hD hS hl)
theorem g_if_le {ρ : Type} {X Y : Option ρ} {v : ρ} {a off : Int} (tgt : Nat) (C : Cx E cc own rm) (d : decode cc pc = .ok (.ifCond .le off, 3)) (ht : (pc : Int) + off = (tgt : Int)) (h : (if wI a ≤ wI 0 then X else Y) = some v) (kt : X = some v → GG E k n ws L tgt st) (kf : Y = some v → GG E k n ws L (pc + 3) st) : GG E k n ws L pc (.int (wI a) :: st) := by
  intro H locs ls hP hD hS hl
  exact lv_if_le C.x C.b d ht (fun q => kt ((ite_some h).1 q) H locs ls hP hD hS hl) (fun q => kf ((ite_some h).2 q) H locs ls hP hD hS hl)
theorem lg_cmp_ne (x y : Int64) : (¬ lg_cmp x y = 0) ↔ ¬ x = y := not_congr (lg_cmp_eq x y)
theorem g_lcmp_eq {ρ : Type} {X Y : Option ρ} {v : ρ} {a b off : Int} (tgt : Nat) (C : Cx E cc own rm) (d1 : decode cc pc = .ok (.lcmp, 1)) (d : decode cc (pc + 1) = .ok (.ifCond .eq off, 3)) (ht : ((pc + 1 : Nat) : Int) + off = (tgt : Int)) (h : (if wJ a = wJ b then X else Y) = some v) (kt : X = some v → GG E k n ws L tgt st) (kf : Y = some v → GG E k n ws L (pc + 4) st) : GG E k n ws L pc (.long (wJ b) :: .long (wJ a) :: st) := by
  intro H locs ls hP hD hS hl
  refine W.lcmp C.x C.b d1 ?_
  exact lv_if_eq C.x C.b d ht (fun q => kt ((ite_some h).1 ((lg_cmp_eq _ _).mp q)) H locs ls hP hD hS hl) (fun q => kf ((ite_some h).2 (fun q2 => q ((lg_cmp_eq _ _).mpr q2))) H locs ls hP hD hS hl)
theorem g_lcmp_ne {ρ : Type} {X Y : Option ρ} {v : ρ} {a b off : Int} (tgt : Nat) (C : Cx E cc own rm) (d1 : decode cc pc = .ok (.lcmp, 1)) (d : decode cc (pc + 1) = .ok (.ifCond .ne off, 3)) (ht : ((pc + 1 : Nat) : Int) + off = (tgt : Int)) (h : (if wJ a = wJ b then Y else X) = some v) (kt : X = some v → GG E k n ws L tgt st) (kf : Y = some v → GG E k n ws L (pc + 4) st) : GG E k n ws L pc (.long (wJ b) :: .long (wJ a) :: st) := by
  intro H locs ls hP hD hS hl
  refine W.lcmp C.x C.b d1 ?_
  exact lv_if_ne C.x C.b d ht (fun q => kt ((ite_some h).2 (fun q2 => q ((lg_cmp_eq _ _).mpr q2))) H locs ls hP hD hS hl) (fun q => kf ((ite_some h).1 ((lg_cmp_eq _ _).mp q)) H locs ls hP hD hS hl)
theorem g_lcmp_lt {ρ : Type} {X Y : Option ρ} {v : ρ} {a b off : Int} (tgt : Nat) (C : Cx E cc own rm) (d1 : decode cc pc = .ok (.lcmp, 1)) (d : decode cc (pc + 1) = .ok (.ifCond .lt off, 3)) (ht : ((pc + 1 : Nat) : Int) + off = (tgt : Int)) (h : (if wJ a < wJ b then X else Y) = some v) (kt : X = some v → GG E k n ws L tgt st) (kf : Y = some v → GG E k n ws L (pc + 4) st) : GG E k n ws L pc (.long (wJ b) :: .long (wJ a) :: st) := by
  intro H locs ls hP hD hS hl
  refine W.lcmp C.x C.b d1 ?_
  exact lv_if_lt C.x C.b d ht (fun q => kt ((ite_some h).1 ((lg_cmp_lt _ _).mp q)) H locs ls hP hD hS hl) (fun q => kf ((ite_some h).2 (fun q2 => q ((lg_cmp_lt _ _).mpr q2))) H locs ls hP hD hS hl)
theorem g_lcmp_ge {ρ : Type} {X Y : Option ρ} {v : ρ} {a b off : Int} (tgt : Nat) (C : Cx E cc own rm) (d1 : decode cc pc = .ok (.lcmp, 1)) (d : decode cc (pc + 1) = .ok (.ifCond .ge off, 3)) (ht : ((pc + 1 : Nat) : Int) + off = (tgt : Int)) (h : (if wJ b ≤ wJ a then X else Y) = some v) (kt : X = some v → GG E k n ws L tgt st) (kf : Y = some v → GG E k n ws L (pc + 4) st) : GG E k n ws L pc (.long (wJ b) :: .long (wJ a) :: st) := by
  intro H locs ls hP hD hS hl
  refine W.lcmp C.x C.b d1 ?_
  exact lv_if_ge C.x C.b d ht (fun q => kt ((ite_some h).1 ((lg_cmp_ge _ _).mp q)) H locs ls hP hD hS hl) (fun q => kf ((ite_some h).2 (fun q2 => q ((lg_cmp_ge _ _).mpr q2))) H locs ls hP hD hS hl)
theorem g_lcmp_gt {ρ : Type} {X Y : Option ρ} {v : ρ} {a b off : Int} (tgt : Nat) (C : Cx E cc own rm) (d1 : decode cc pc = .ok (.lcmp, 1)) (d : decode cc (pc + 1) = .ok (.ifCond .gt off, 3)) (ht : ((pc + 1 : Nat) : Int) + off = (tgt : Int)) (h : (if wJ b < wJ a then X else Y) = some v) (kt : X = some v → GG E k n ws L tgt st) (kf : Y = some v → GG E k n ws L (pc + 4) st) : GG E k n ws L pc (.long (wJ b) :: .long (wJ a) :: st) := by
  intro H locs ls hP hD hS hl
  refine W.lcmp C.x C.b d1 ?_
  exact lv_if_gt C.x C.b d ht (fun q => kt ((ite_some h).1 ((lg_cmp_gt _ _).mp q)) H locs ls hP hD hS hl) (fun q => kf ((ite_some h).2 (fun q2 => q ((lg_cmp_gt _ _).mpr q2))) H locs ls hP hD hS hl)
theorem g_lcmp_le {ρ : Type} {X Y : Option ρ} {v : ρ} {a b off : Int} (tgt : Nat) (C : Cx E cc own rm) (d1 : decode cc pc = .ok (.lcmp, 1)) (d : decode cc (pc + 1) = .ok (.ifCond .le off, 3)) (ht : ((pc + 1 : Nat) : Int) + off = (tgt : Int)) (h : (if wJ a ≤ wJ b then X else Y) = some v) (kt : X = some v → GG E k n ws L tgt st) (kf : Y = some v → GG E k n ws L (pc + 4) st) : GG E k n ws L pc (.long (wJ b) :: .long (wJ a) :: st) := by
  intro H locs ls hP hD hS hl
  refine W.lcmp C.x C.b d1 ?_
  exact lv_if_le C.x C.b d ht (fun q => kt ((ite_some h).1 ((lg_cmp_le _ _).mp q)) H locs ls hP hD hS hl) (fun q => kf ((ite_some h).2 (fun q2 => q ((lg_cmp_le _ _).mpr q2))) H locs ls hP hD hS hl)
def FldG (own : String) (index ci j : Nat) : Prop := ∃ (Cn : String) (T : u_T) (N : Nat), vwCl[ci]? = some (Cn, T, N) ∧ j < N ∧ (∀ w ∈ u_ws Cn T N, w ∈ WL) ∧ Cond.fieldLink own index (T j).1 (T j).2.1 (T j).2.2.1 ∈ WL
def FldP (own : String) (index ci j : Nat) (ty : FieldType) : Prop := ∃ (Cn : String) (T : u_T) (N : Nat) (ty0 : Nat → FieldType), vwCl[ci]? = some (Cn, T, N) ∧ j < N ∧ (∀ w ∈ u_ws Cn T N, w ∈ WL) ∧ Cond.fieldLink own index (T j).1 (T j).2.1 (T j).2.2.1 ∈ WL ∧ (∀ k, k < N → parseFieldDescriptor (T k).2.2.1 = some (ty0 k)) ∧ (∀ a, a < N → ∀ b, b < N → a ≠ b → (T a).2.1 ≠ (T b).2.1) ∧ (T j).2.2.2 = false ∧ parseFieldDescriptor (T j).2.2.1 = some ty
theorem g_get {index ci j a : Nat} {fs : List Value} {v : Value} (C : Cx E cc own rm) (hf : FldG own index ci j) (q0 : Nat) (he : ws[q0]? = some (a, .inr (ci, fs))) (hv : fs[j]? = some v) (d : decode cc pc = .ok (.getfield index, 3)) (kk : GG E k n ws L (pc + 3) (v :: st)) : GG E k n ws L pc (.ref a :: st) := by
  obtain ⟨Cn, T, N, h1, h2, h3, h4⟩ := hf
  intro H locs ls hP hD hS hl
  exact va_get (D := eD E) C.x C.b C.ts h3 C.ow C.kk.1 hP q0 he h1 j h2 (C.ts _ h4) (fun _ h => h) hv d (kk H locs ls hP hD hS hl)
theorem g_put {index ci j a : Nat} {fs : List Value} {v : Value} {ty : FieldType} {ws' : va_W} (C : Cx E cc own rm) (hf : FldP own index ci j ty) (q0 : Nat) (he : ws[q0]? = some (a, .inr (ci, fs))) (hn : narrow ty v = v) (hfit : fits ty v = true) (hj : Nat.blt j fs.length = true) (e : ws.set q0 (a, .inr (ci, fs.set j v)) = ws') (d : decode cc pc = .ok (.putfield index, 3)) (kk : GG E k n ws' L (pc + 3) st) : GG E k n ws L pc (v :: .ref a :: st) := by
  obtain ⟨Cn, T, N, ty0, h1, h2, h3, h4, h5, h6, h7, h8⟩ := hf
  intro H locs ls hP hD hS hl
  exact va_put (D := eD E) C.x C.b C.ts h3 ty0 h5 h6 C.ow C.kk.1 hP hD hS q0 he h1 j h2 (C.ts _ h4) (fun _ h => h) h7 h8 hn hfit (Nat.blt_eq.mp hj) d (fun H1 locs1 hP1 hD1 hS1 => kk H1 locs1 ls (e ▸ hP1) (e ▸ hD1) hS1 hl)
theorem g_putI {index ci j a : Nat} {fs : List Value} {x : Int} {ws' : va_W} (C : Cx E cc own rm) (hf : FldP own index ci j .int) (q0 : Nat) (he : ws[q0]? = some (a, .inr (ci, fs))) (hj : Nat.blt j fs.length = true) (e : ws.set q0 (a, .inr (ci, fs.set j (.int (wI x)))) = ws') (d : decode cc pc = .ok (.putfield index, 3)) (kk : GG E k n ws' L (pc + 3) st) : GG E k n ws L pc (.int (wI x) :: .ref a :: st) := g_put C hf q0 he rfl rfl hj e d kk
theorem g_putJ {index ci j a : Nat} {fs : List Value} {x : Int} {ws' : va_W} (C : Cx E cc own rm) (hf : FldP own index ci j .long) (q0 : Nat) (he : ws[q0]? = some (a, .inr (ci, fs))) (hj : Nat.blt j fs.length = true) (e : ws.set q0 (a, .inr (ci, fs.set j (.long (wJ x)))) = ws') (d : decode cc pc = .ok (.putfield index, 3)) (kk : GG E k n ws' L (pc + 3) st) : GG E k n ws L pc (.long (wJ x) :: .ref a :: st) := g_put C hf q0 he rfl rfl hj e d kk
theorem bool_nar {x : Int} (h : x = 0 ∨ x = 1) : narrow .boolean (.int (wI x)) = .int (wI x) ∧ fits .boolean (.int (wI x)) = true ∧ vp_nar .boolean (wI x) = wI x := by
  rcases h with rfl | rfl <;> decide
theorem bn0 : narrow .boolean (.int (wI 0)) = .int (wI 0) := by decide
theorem bn1 : narrow .boolean (.int (wI 1)) = .int (wI 1) := by decide
theorem g_putZ {index ci j a : Nat} {fs : List Value} {x : Int} {ws' : va_W} (C : Cx E cc own rm) (hf : FldP own index ci j .boolean) (q0 : Nat) (he : ws[q0]? = some (a, .inr (ci, fs))) (hx : x = 0 ∨ x = 1) (hj : Nat.blt j fs.length = true) (e : ws.set q0 (a, .inr (ci, fs.set j (.int (wI x)))) = ws') (d : decode cc pc = .ok (.putfield index, 3)) (kk : GG E k n ws' L (pc + 3) st) : GG E k n ws L pc (.int (wI x) :: .ref a :: st) := g_put C hf q0 he (bool_nar hx).1 (bool_nar hx).2.1 hj e d kk
theorem g_iald {a N : Nat} {f : Int → Int} {i : Int} (C : Cx E cc own rm) (q0 : Nat) (he : ws[q0]? = some (a, .inl (eCy E 1, N, .inl (aI f)))) (hi : 0 ≤ i ∧ i < (N : Int)) (hN : Nat.blt N 2147483648 = true) (d : decode cc pc = .ok (.iaload, 1)) (kk : GG E k n ws L (pc + 1) (.int (wI (f i)) :: st)) : GG E k n ws L pc (.int (wI i) :: .ref a :: st) := by
  have hN := Nat.blt_eq.mp hN
  intro H locs ls hP hD hS hl
  refine va_iald (D := eD E) C.x C.b C.kk.1 hP q0 1 he rfl (wI_in hi hN) d ?_
  rw [aI_at hi hN]
  exact kk H locs ls hP hD hS hl
theorem g_bald {a N : Nat} {f : Int → Int} {i : Int} (C : Cx E cc own rm) (q0 : Nat) (he : ws[q0]? = some (a, .inl (eCy E 0, N, .inl (aI f)))) (hi : 0 ≤ i ∧ i < (N : Int)) (hN : Nat.blt N 2147483648 = true) (d : decode cc pc = .ok (.baload, 1)) (kk : GG E k n ws L (pc + 1) (.int (wI (f i)) :: st)) : GG E k n ws L pc (.int (wI i) :: .ref a :: st) := by
  have hN := Nat.blt_eq.mp hN
  intro H locs ls hP hD hS hl
  refine va_bald (D := eD E) C.x C.b C.kk.1 hP q0 0 he rfl (wI_in hi hN) d ?_
  rw [aI_at hi hN]
  exact kk H locs ls hP hD hS hl
theorem g_zald {a N : Nat} {f : Int → Int} {i : Int} (C : Cx E cc own rm) (q0 : Nat) (he : ws[q0]? = some (a, .inl (eCy E 3, N, .inl (aI f)))) (hi : 0 ≤ i ∧ i < (N : Int)) (hN : Nat.blt N 2147483648 = true) (d : decode cc pc = .ok (.baload, 1)) (kk : GG E k n ws L (pc + 1) (.int (wI (f i)) :: st)) : GG E k n ws L pc (.int (wI i) :: .ref a :: st) := by
  have hN := Nat.blt_eq.mp hN
  intro H locs ls hP hD hS hl
  refine va_zald (D := eD E) C.x C.b C.kk.1 hP q0 3 he rfl (wI_in hi hN) d ?_
  rw [aI_at hi hN]
  exact kk H locs ls hP hD hS hl
theorem g_lald {a N : Nat} {f : Int → Int} {i : Int} (C : Cx E cc own rm) (q0 : Nat) (he : ws[q0]? = some (a, .inl (eCy E 2, N, .inr (.inl (aJ f))))) (hi : 0 ≤ i ∧ i < (N : Int)) (hN : Nat.blt N 2147483648 = true) (d : decode cc pc = .ok (.laload, 1)) (kk : GG E k n ws L (pc + 1) (.long (wJ (f i)) :: st)) : GG E k n ws L pc (.int (wI i) :: .ref a :: st) := by
  have hN := Nat.blt_eq.mp hN
  intro H locs ls hP hD hS hl
  refine va_lald (D := eD E) C.x C.b C.kk.1 hP q0 2 he rfl (wI_in hi hN) d ?_
  rw [aJ_at hi hN]
  exact kk H locs ls hP hD hS hl
theorem g_iast {a N : Nat} {f : Int → Int} {i x : Int} {ws' : va_W} (C : Cx E cc own rm) (q0 : Nat) (he : ws[q0]? = some (a, .inl (eCy E 1, N, .inl (aI f)))) (hi : 0 ≤ i ∧ i < (N : Int)) (hN : Nat.blt N 2147483648 = true) (e : ws.set q0 (a, .inl (eCy E 1, N, .inl (aI (up f i (x))))) = ws') (d : decode cc pc = .ok (.iastore, 1)) (kk : GG E k n ws' L (pc + 1) st) : GG E k n ws L pc (.int (wI x) :: .int (wI i) :: .ref a :: st) := by
  have hN := Nat.blt_eq.mp hN
  intro H locs ls hP hD hS hl
  refine va_iast (D := eD E) C.x C.b C.kk.1 hP hD hS q0 1 he rfl (wI_in hi hN) d (fun H1 locs1 hP1 hD1 hS1 => ?_)
  rw [aI_up hi hN] at hP1 hD1
  exact kk H1 locs1 ls (e ▸ hP1) (e ▸ hD1) hS1 hl
theorem g_last {a N : Nat} {f : Int → Int} {i x : Int} {ws' : va_W} (C : Cx E cc own rm) (q0 : Nat) (he : ws[q0]? = some (a, .inl (eCy E 2, N, .inr (.inl (aJ f))))) (hi : 0 ≤ i ∧ i < (N : Int)) (hN : Nat.blt N 2147483648 = true) (e : ws.set q0 (a, .inl (eCy E 2, N, .inr (.inl (aJ (up f i (x)))))) = ws') (d : decode cc pc = .ok (.lastore, 1)) (kk : GG E k n ws' L (pc + 1) st) : GG E k n ws L pc (.long (wJ x) :: .int (wI i) :: .ref a :: st) := by
  have hN := Nat.blt_eq.mp hN
  intro H locs ls hP hD hS hl
  refine va_last (D := eD E) C.x C.b C.kk.1 hP hD hS q0 2 he rfl (wI_in hi hN) d (fun H1 locs1 hP1 hD1 hS1 => ?_)
  rw [aJ_up hi hN] at hP1 hD1
  exact kk H1 locs1 ls (e ▸ hP1) (e ▸ hD1) hS1 hl
theorem g_bast {a N : Nat} {f : Int → Int} {i x : Int} {ws' : va_W} (C : Cx E cc own rm) (q0 : Nat) (he : ws[q0]? = some (a, .inl (eCy E 0, N, .inl (aI f)))) (hi : 0 ≤ i ∧ i < (N : Int)) (hN : Nat.blt N 2147483648 = true) (e : ws.set q0 (a, .inl (eCy E 0, N, .inl (aI (up f i (b8 x))))) = ws') (d : decode cc pc = .ok (.bastore, 1)) (kk : GG E k n ws' L (pc + 1) st) : GG E k n ws L pc (.int (wI x) :: .int (wI i) :: .ref a :: st) := by
  have hN := Nat.blt_eq.mp hN
  intro H locs ls hP hD hS hl
  refine va_bast (D := eD E) C.x C.b C.kk.1 hP hD hS q0 0 he rfl (wI_in hi hN) d (fun H1 locs1 hP1 hD1 hS1 => ?_)
  rw [vp_nar_byte, wI_b, aI_up hi hN] at hP1 hD1
  exact kk H1 locs1 ls (e ▸ hP1) (e ▸ hD1) hS1 hl
theorem g_zast {a N : Nat} {f : Int → Int} {i x : Int} {ws' : va_W} (C : Cx E cc own rm) (q0 : Nat) (he : ws[q0]? = some (a, .inl (eCy E 3, N, .inl (aI f)))) (hi : 0 ≤ i ∧ i < (N : Int)) (hN : Nat.blt N 2147483648 = true) (hx : x = 0 ∨ x = 1) (e : ws.set q0 (a, .inl (eCy E 3, N, .inl (aI (up f i (x))))) = ws') (d : decode cc pc = .ok (.bastore, 1)) (kk : GG E k n ws' L (pc + 1) st) : GG E k n ws L pc (.int (wI x) :: .int (wI i) :: .ref a :: st) := by
  have hN := Nat.blt_eq.mp hN
  intro H locs ls hP hD hS hl
  refine va_zast (D := eD E) C.x C.b C.kk.1 hP hD hS q0 3 he rfl (wI_in hi hN) d (fun H1 locs1 hP1 hD1 hS1 => ?_)
  rw [(bool_nar hx).2.2, aI_up hi hN] at hP1 hD1
  exact kk H1 locs1 ls (e ▸ hP1) (e ▸ hD1) hS1 hl
theorem g_alen {a N t0 : Nat} {x : vp_A} {ty : FieldType} {cA : ClassId} (C : Cx E cc own rm) (q0 : Nat) (he : ws[q0]? = some (a, .inl (cA, x))) (ht : (tyL (eCy E))[t0]? = some (cA, ty)) (hx : x.1 = N) (d : decode cc pc = .ok (.arraylength, 1)) (kk : GG E k n ws L (pc + 1) (.int (wI (N : Int)) :: st)) : GG E k n ws L pc (.ref a :: st) := by
  intro H locs ls hP hD hS hl
  exact va_alen (D := eD E) C.x C.b C.kk.1 hP q0 t0 he ht (v := wI (N : Int)) (by rw [hx]; exact (Int32.ofInt_eq_ofNat).symm) d (kk H locs ls hP hD hS hl)
end GR
