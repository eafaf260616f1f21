/-! an array of rows (multianewarray with two counts), walked from the instruction's own words: outer array, then row by row -/
def mr_out (cA : ClassId) (N z i : Nat) : Cell := arrV cA N (fun j => if j < i then .ref (z + 1 + j) else .null)
def mr_in (cB : ClassId) (K : Nat) (v : Value) : Cell := { cls := cB, slots := Array.replicate K v, vm := .none }
def mr_push (x : Cell) : Nat → State → State
  | 0, S => S
  | i + 1, S => (mr_push x i S).pushCell x
def mr_st (S : State) (cA cB : ClassId) (N K : Nat) (v : Value) (i : Nat) : State := mr_push (mr_in cB K v) i (S.pushCell (mr_out cA N S.heap.size i))
theorem mr_out_zero (cA : ClassId) (N z : Nat) : ({ cls := cA, slots := Array.replicate N .null, vm := .none } : Cell) = mr_out cA N z 0 := by
  rw [arrV_new]
  rfl
theorem mr_out_succ (cA : ClassId) (N z i : Nat) : (mr_out cA N z i).setSlot i (.ref (z + 1 + i)) = mr_out cA N z (i + 1) := by
  unfold mr_out
  rw [arrV_store]
  congr 1
  funext j
  unfold updV
  by_cases h : j = i
  · rw [if_pos h, if_pos (by omega), h]
  · rw [if_neg h]
    show (if j < i then Value.ref (z + 1 + j) else Value.null) = _
    by_cases h2 : j < i
    · rw [if_pos h2, if_pos (by omega)]
    · rw [if_neg h2, if_neg (by omega)]
theorem mr_push_heap (x : Cell) (S : State) : ∀ i : Nat, (mr_push x i S).heap = S.heap ++ Array.replicate i x
  | 0 => by simp [mr_push]
  | i + 1 => by
    show ((mr_push x i S).heap).push x = _
    rw [mr_push_heap x S i, Array.replicate_succ, Array.push_append]
theorem mr_push_used (x : Cell) (S : State) : ∀ i : Nat, (mr_push x i S).slotsUsed = S.slotsUsed + i * x.slots.size
  | 0 => by simp [mr_push]
  | i + 1 => by
    show (mr_push x i S).slotsUsed + x.slots.size = _
    rw [mr_push_used x S i, Nat.succ_mul]
    omega
theorem mr_push_vm (x : Cell) (S : State) : ∀ i : Nat, (mr_push x i S).vm = S.vm
  | 0 => rfl
  | i + 1 => (show (mr_push x i S).vm = _ from mr_push_vm x S i)
theorem mr_push_top (x : Cell) (S : State) (f : JFrame) : ∀ i : Nat, mr_push x i (S.setTop f) = (mr_push x i S).setTop f
  | 0 => rfl
  | i + 1 => by
    show (mr_push x i (S.setTop f)).pushCell x = ((mr_push x i S).pushCell x).setTop f
    rw [mr_push_top x S f i]
    rfl
theorem mr_push_topJava (x : Cell) (S : State) : ∀ i : Nat, (mr_push x i S).topJava? = S.topJava?
  | 0 => rfl
  | i + 1 => (show (mr_push x i S).topJava? = _ from mr_push_topJava x S i)
theorem mr_set_push {S : State} {z : Nat} (b x : Cell) (hz : z < S.heap.size) : (S.pushCell x).setCell z b = (S.setCell z b).pushCell x := by
  have h : (S.heap.push x).setIfInBounds z b = (S.heap.setIfInBounds z b).push x := by
    apply Array.ext_getElem?
    intro j
    rw [Array.getElem?_setIfInBounds, Array.getElem?_push, Array.getElem?_push, Array.getElem?_setIfInBounds, Array.size_push, Array.size_setIfInBounds]
    by_cases h1 : z = j
    · subst h1
      rw [if_pos rfl, if_pos (by omega), if_neg (by omega), if_pos rfl, if_pos hz]
    · rw [if_neg h1, if_neg h1]
  show ({ S with heap := (S.heap.push x).setIfInBounds z b, slotsUsed := S.slotsUsed + x.slots.size } : State) = { S with heap := (S.heap.setIfInBounds z b).push x, slotsUsed := S.slotsUsed + x.slots.size }
  rw [h]
theorem mr_set_last {S : State} (a b : Cell) (hs : a.slots.size = b.slots.size) : (S.pushCell a).setCell S.heap.size b = S.pushCell b := by
  have h : (S.heap.push a).setIfInBounds S.heap.size b = S.heap.push b := by
    apply Array.ext_getElem?
    intro j
    rw [Array.getElem?_setIfInBounds, Array.getElem?_push, Array.getElem?_push, Array.size_push]
    by_cases h1 : S.heap.size = j
    · rw [if_pos h1, if_pos (by omega), if_pos h1.symm]
    · rw [if_neg h1, if_neg (Ne.symm h1), if_neg (Ne.symm h1)]
  show ({ S with heap := (S.heap.push a).setIfInBounds S.heap.size b, slotsUsed := S.slotsUsed + a.slots.size } : State) = { S with heap := S.heap.push b, slotsUsed := S.slotsUsed + b.slots.size }
  rw [h, hs]
theorem mr_set {S : State} (a b x : Cell) (hs : a.slots.size = b.slots.size) : ∀ i : Nat, (mr_push x i (S.pushCell a)).setCell S.heap.size b = mr_push x i (S.pushCell b)
  | 0 => mr_set_last a b hs
  | i + 1 => by
    show ((mr_push x i (S.pushCell a)).pushCell x).setCell S.heap.size b = (mr_push x i (S.pushCell b)).pushCell x
    rw [mr_set_push b x (by rw [mr_push_heap]; simp [State.pushCell]; omega), mr_set a b x hs i]
theorem mr_st_heap (S : State) (cA cB : ClassId) (N K : Nat) (v : Value) (i : Nat) : (mr_st S cA cB N K v i).heap = S.heap.push (mr_out cA N S.heap.size i) ++ Array.replicate i (mr_in cB K v) := mr_push_heap _ _ i
theorem mr_st_size (S : State) (cA cB : ClassId) (N K : Nat) (v : Value) (i : Nat) : (mr_st S cA cB N K v i).heap.size = S.heap.size + 1 + i := by
  rw [mr_st_heap]
  simp
theorem mr_st_used (S : State) (cA cB : ClassId) (N K : Nat) (v : Value) (i : Nat) : (mr_st S cA cB N K v i).slotsUsed = S.slotsUsed + N + i * K := by
  have h1 : (mr_in cB K v).slots.size = K := by simp [mr_in]
  have h2 : (mr_out cA N S.heap.size i).slots.size = N := arrV_size _ _ _
  have h3 := mr_push_used (mr_in cB K v) (S.pushCell (mr_out cA N S.heap.size i)) i
  rw [h1] at h3
  have h4 : (S.pushCell (mr_out cA N S.heap.size i)).slotsUsed = S.slotsUsed + N := by
    show S.slotsUsed + (mr_out cA N S.heap.size i).slots.size = _
    rw [h2]
  rw [h4] at h3
  exact h3
theorem mr_st_vm (S : State) (cA cB : ClassId) (N K : Nat) (v : Value) (i : Nat) : (mr_st S cA cB N K v i).vm = S.vm := mr_push_vm _ _ i
theorem mr_st_outer (S : State) (cA cB : ClassId) (N K : Nat) (v : Value) (i : Nat) : (mr_st S cA cB N K v i).heap[S.heap.size]? = some (mr_out cA N S.heap.size i) := by
  rw [mr_st_heap, Array.getElem?_append_left (by simp), Array.getElem?_push, if_pos rfl]
theorem mr_st_inner (S : State) (cA cB : ClassId) (N K : Nat) (v : Value) (i j : Nat) (hj : j < i) : (mr_st S cA cB N K v i).heap[S.heap.size + 1 + j]? = some (mr_in cB K v) := by
  rw [mr_st_heap, Array.getElem?_append_right (by rw [Array.size_push]; omega), Array.getElem?_replicate, if_pos (by rw [Array.size_push]; omega)]
theorem mr_st_old (S : State) (cA cB : ClassId) (N K : Nat) (v : Value) (i : Nat) {a : Nat} (ha : a < S.heap.size) : (mr_st S cA cB N K v i).heap[a]? = S.heap[a]? := by
  rw [mr_st_heap, Array.getElem?_append_left (by simp; omega), Array.getElem?_push, if_neg (by omega)]
theorem mr_st_step (S : State) (cA cB : ClassId) (N K : Nat) (v : Value) (i : Nat) : ((mr_st S cA cB N K v i).pushCell (mr_in cB K v)).setCell S.heap.size ((mr_out cA N S.heap.size i).setSlot i (.ref (S.heap.size + 1 + i))) = mr_st S cA cB N K v (i + 1) := by
  rw [mr_out_succ]
  exact mr_set (mr_out cA N S.heap.size i) (mr_out cA N S.heap.size (i + 1)) (mr_in cB K v) (by rw [mr_out, mr_out, arrV_size, arrV_size]) (i + 1)
section MULTI
variable {R0 : CtlPost} {e : Env} {d : Bool} {acts : List Action} {S : State}
theorem mr_inner {Q : Addr → Pre} {cB comp : ClassId} {kB : Class} {ty : FieldType} {k : Int32} (hk : S.vm.classes[cB]? = some kB) (hkind : kB.kind = .array comp ty) (h0 : ¬ k < 0)
    (hl : ¬ k.toNatClampNeg > e.platform.arrayLengthLimit) (hh : ¬ k.toNatClampNeg * componentBytes ty > e.platform.maxHeapBytes) (hc : S.heap.size < e.platform.maxCells) (hu : S.slotsUsed + k.toNatClampNeg ≤ e.platform.maxSlots)
    (hf : fits ty (defaultValue ty) = true) (hq : ∀ acts', Q S.heap.size d acts' (S.pushCell (mr_in cB k.toNatClampNeg (defaultValue ty)))) : wp (multianewarray.make cB [k]) Q R0 e d acts S := by
  unfold multianewarray.make
  simp only [wp_bind', W.ite, h0, if_false, wp_pure', W.theClass, hk, Option.some.injEq, exists_eq_left', hkind]
  exact W.newArray_of hk hkind hl hh hc hu hf hq
theorem mr_make {Q : Addr → Pre} {cA cB comp : ClassId} {kA kB : Class} {ty : FieldType} {n k : Int32} (hkA : S.vm.classes[cA]? = some kA) (hA : kA.kind = .array cB (.array ty)) (hkB : S.vm.classes[cB]? = some kB) (hB : kB.kind = .array comp ty)
    (hn : ¬ n < 0) (hn0 : (n == 0) = false) (hk : ¬ k < 0) (hl : ¬ n.toNatClampNeg > e.platform.arrayLengthLimit) (hh : ¬ n.toNatClampNeg * componentBytes (.array ty) > e.platform.maxHeapBytes)
    (hl2 : ¬ k.toNatClampNeg > e.platform.arrayLengthLimit) (hh2 : ¬ k.toNatClampNeg * componentBytes ty > e.platform.maxHeapBytes)
    (hc : S.heap.size + 1 + n.toNatClampNeg ≤ e.platform.maxCells) (hu : S.slotsUsed + n.toNatClampNeg + n.toNatClampNeg * k.toNatClampNeg ≤ e.platform.maxSlots) (hf : fits ty (defaultValue ty) = true)
    (hq : ∀ d' acts', Q S.heap.size d' acts' (mr_st S cA cB n.toNatClampNeg k.toNatClampNeg (defaultValue ty) n.toNatClampNeg)) : wp (multianewarray.make cA [n, k]) Q R0 e d acts S := by
  unfold multianewarray.make
  simp only [wp_bind', W.ite, hn, if_false, wp_pure', W.theClass, hkA, Option.some.injEq, exists_eq_left', hA]
  refine W.newArray_of hkA hA hl hh (by omega) (by omega) rfl (fun acts1 => ?_)
  rw [mr_out_zero cA n.toNatClampNeg S.heap.size]
  simp only [hn0, Bool.false_eq_true, if_false, wp_pure', wp_bind', W.ite, Std.Legacy.Range.forIn_eq_forIn_range']
  refine wp_forIn_inv (I := fun rest s' => ∃ i, i ≤ n.toNatClampNeg ∧ rest = List.range' i (n.toNatClampNeg - i) ∧ s' = mr_st S cA cB n.toNatClampNeg k.toNatClampNeg (defaultValue ty) i) _ _ ⟨0, Nat.zero_le _, by simp [Std.Legacy.Range.size], rfl⟩ ?_ ?_
  · rintro x rest s' d' acts' Q' ⟨i, hi, hr, rfl⟩ hQ
    have hlt : i < n.toNatClampNeg := by
      rcases Nat.lt_or_ge i n.toNatClampNeg with h | h
      · exact h
      · rw [Nat.sub_eq_zero_of_le h] at hr
        cases hr
    have hsub : n.toNatClampNeg - i = (n.toNatClampNeg - (i + 1)) + 1 := by omega
    rw [hsub, List.range'_succ] at hr
    obtain ⟨rfl, rfl⟩ := List.cons.inj hr
    have hmul : (x + 1) * k.toNatClampNeg ≤ n.toNatClampNeg * k.toNatClampNeg := Nat.mul_le_mul_right _ hlt
    rw [Nat.succ_mul] at hmul
    simp only [wp_bind']
    refine mr_inner (by rw [mr_st_vm]; exact hkB) hB hk hl2 hh2 (by rw [mr_st_size]; omega) (by rw [mr_st_used]; omega) hf (fun acts2 => ?_)
    simp only [wp_bind', W.writeLoc, wp_pure']
    refine ⟨mr_out cA n.toNatClampNeg S.heap.size x, ?_, by simp [mr_out, arrV], ?_, ?_, ?_⟩
    · show ((mr_st S cA cB n.toNatClampNeg k.toNatClampNeg (defaultValue ty) x).heap.push _)[S.heap.size]? = _
      rw [Array.getElem?_push, if_neg (by rw [mr_st_size]; omega)]
      exact mr_st_outer _ _ _ _ _ _ _
    · rw [mr_out, arrV_size]
      exact hlt
    · show (mr_st S cA cB n.toNatClampNeg k.toNatClampNeg (defaultValue ty) x).fitsSlot cA .none x _ = true
      simp [State.fitsSlot, State.slotType?, mr_st_vm, hkA, hA, fits]
    · rw [mr_st_size, mr_st_step]
      exact hQ _ _ _ ⟨x + 1, hlt, rfl, rfl⟩
  · rintro s' d' acts' ⟨i, hi, hr, rfl⟩
    have hi2 : i = n.toNatClampNeg := by
      rcases Nat.lt_or_ge i n.toNatClampNeg with h | h
      · have hsub : n.toNatClampNeg - i = (n.toNatClampNeg - (i + 1)) + 1 := by omega
        rw [hsub, List.range'_succ] at hr
        cases hr
      · omega
    subst hi2
    exact hq _ _
theorem mr_cold {Q : Unit → Pre} {f : JFrame} {index q c : Nat} {vm' : Vm} (hs : S.topJava?.isSome) (hg : (Jvm.resolveClass f.method.cls index).Gives e.toSetting S.vm (.ok c) vm') (hr : vm'.classReady f.method.cls index c)
    (hsz : vm'.classes.size ≤ S.vm.classes.size := by no_record) : wp (multianewarray.sem index q) Q R0 e d acts (S.setTop f) ↔ wp (multianewarray.sem index q) Q R0 e d acts ((S.setVm vm').setTop f) := by
  simp only [multianewarray.sem, wp_bind']
  exact W.resolveClassAt_transfer (s := S.setTop f) (State.method?_setTop f hs) hg hr
theorem mr_sem {Q : Unit → Pre} {f : JFrame} {index : Nat} {cA cB comp : ClassId} {kA kB : Class} {ty : FieldType} {n k : Int32} {rest : List Value} (hs : S.topJava?.isSome) (hr : S.vm.classReady f.method.cls index cA) (hst : f.stack = .int k :: .int n :: rest)
    (hkA : S.vm.classes[cA]? = some kA) (hA : kA.kind = .array cB (.array ty)) (hkB : S.vm.classes[cB]? = some kB) (hB : kB.kind = .array comp ty)
    (hn : ¬ n < 0) (hn0 : (n == 0) = false) (hk : ¬ k < 0) (hl : ¬ n.toNatClampNeg > e.platform.arrayLengthLimit) (hh : ¬ n.toNatClampNeg * componentBytes (.array ty) > e.platform.maxHeapBytes)
    (hl2 : ¬ k.toNatClampNeg > e.platform.arrayLengthLimit) (hh2 : ¬ k.toNatClampNeg * componentBytes ty > e.platform.maxHeapBytes)
    (hc : S.heap.size + 1 + n.toNatClampNeg ≤ e.platform.maxCells) (hu : S.slotsUsed + n.toNatClampNeg + n.toNatClampNeg * k.toNatClampNeg ≤ e.platform.maxSlots) (hf : fits ty (defaultValue ty) = true)
    (hq : ∀ acts', Q () true acts' ((mr_st S cA cB n.toNatClampNeg k.toNatClampNeg (defaultValue ty) n.toNatClampNeg).setTop { f with stack := .ref S.heap.size :: rest })) : wp (multianewarray.sem index 2) Q R0 e d acts (S.setTop f) := by
  simp only [multianewarray.sem, wp_bind', W.resolveClassAt_ready (State.method?_setTop f hs) hr]
  refine (popN_top (args := [.int n, .int k]) (rest := rest) hs (by rw [hst]; rfl)).mpr ?_
  simp only [List.mapM_cons, List.mapM_nil, wp_bind', wp_pure']
  refine mr_make (S := S.setTop { f with stack := rest }) hkA hA hkB hB hn hn0 hk hl hh hl2 hh2 hc hu hf (fun d' acts' => ?_)
  simp only [wp_bind', W.mark, W.pushRef]
  have ht : mr_st (S.setTop { f with stack := rest }) cA cB n.toNatClampNeg k.toNatClampNeg (defaultValue ty) n.toNatClampNeg = (mr_st S cA cB n.toNatClampNeg k.toNatClampNeg (defaultValue ty) n.toNatClampNeg).setTop { f with stack := rest } := mr_push_top (mr_in cB k.toNatClampNeg (defaultValue ty)) (S.pushCell (mr_out cA n.toNatClampNeg S.heap.size n.toNatClampNeg)) { f with stack := rest } n.toNatClampNeg
  rw [ht]
  have hs2 : (mr_st S cA cB n.toNatClampNeg k.toNatClampNeg (defaultValue ty) n.toNatClampNeg).topJava?.isSome := by
    rw [show (mr_st S cA cB n.toNatClampNeg k.toNatClampNeg (defaultValue ty) n.toNatClampNeg).topJava? = S.topJava? from mr_push_topJava _ _ _]
    exact hs
  refine ⟨_, State.topJava?_setTop' _ hs2, ?_⟩
  rw [State.setTop_setTop]
  exact hq _
end MULTI
section MULTI2
variable {p : Program} {l : Launch} {e : Env} {R : Room} {s : State} {m : MethodId} {args : Array Value} {below : List Frame} {meth : Method} {c : Code} {T : State} {locs : List Loc} {cells slots : Nat}
theorem mr_pushed (X : Stand p l e R s m args below meth c T locs cells slots) (x : Cell) : ∀ i : Nat, Stand p l e R s m args below meth c (mr_push x i T) locs (cells + i) (slots + i * x.slots.size)
  | 0 => by
    rw [Nat.zero_mul]
    exact X
  | i + 1 => by
    have h := (mr_pushed X x i).pushed x
    rw [Nat.succ_mul, ← Nat.add_assoc, ← Nat.add_assoc]
    exact h
theorem mr_stand (X : Stand p l e R s m args below meth c T locs cells slots) (hexec : p.tables.exec = Jvm.exec) {own C : String} {index : Nat} (hown : s.vm.findClass own = some m.cls) (hclink : (Cond.classLink own index C).before args s = true)
    {cA cB comp : ClassId} {kA kB : Class} {ty : FieldType} (hfA : s.vm.findClass C = some cA) (hkA : s.vm.classes[cA]? = some kA) (hA : kA.kind = .array cB (.array ty)) (hkB : s.vm.classes[cB]? = some kB) (hB : kB.kind = .array comp ty)
    {g : JFrame} (hg : g.method = m) (hdg : decode c.code g.pc = .ok (.multianewarray index 2, 4)) {n k : Int32} {rest : List Value} (hst : g.stack = .int k :: .int n :: rest)
    (hn : ¬ n < 0) (hn0 : (n == 0) = false) (hk : ¬ k < 0) (hb : n.toNatClampNeg * 4 ≤ 536870912) (hb2 : k.toNatClampNeg * componentBytes ty ≤ 536870912) (hf : fits ty (defaultValue ty) = true)
    (hcells : cells + (1 + n.toNatClampNeg) ≤ R.cells) (hslots : slots + (n.toNatClampNeg + n.toNatClampNeg * k.toNatClampNeg) ≤ R.slots) :
    ∃ vm₁ : Vm, Stand p l e R s m args below meth c (mr_st (T.setVm vm₁) cA cB n.toNatClampNeg k.toNatClampNeg (defaultValue ty) n.toNatClampNeg) locs (cells + 1 + n.toNatClampNeg) (slots + n.toNatClampNeg + n.toNatClampNeg * k.toNatClampNeg) ∧
      ∀ target, Steps p.tables e below ((mr_st (T.setVm vm₁) cA cB n.toNatClampNeg k.toNatClampNeg (defaultValue ty) n.toNatClampNeg).setTop { g with pc := g.pc + 4, stack := .ref T.heap.size :: rest }) target → Steps p.tables e below (T.setTop g) target := by
  subst hg
  have hpl : e.platform.magicAccessors = ({} : Platform).magicAccessors := by rw [X.admits.platform]
  obtain ⟨cc, hfcc, hcl⟩ := Cond.classLink_spec hown hclink e.platform hpl
  cases hfA.symm.trans hfcc
  obtain ⟨hg₁, hwarm₁, hready₁⟩ := State.classEntry (e := e) X.warmed hcl
  generalize T.vm.noted g.method.cls index (.cls cA) = vm₁ at hg₁ hwarm₁ hready₁
  have hal : s.vm.Alike vm₁ := hwarm₁.alike
  obtain ⟨kA₁, hkA₁, heA⟩ := hal.2.2 _ _ hkA
  obtain ⟨kB₁, hkB₁, heB⟩ := hal.2.2 _ _ hkB
  have hA₁ : kA₁.kind = .array cB (.array ty) := by rw [heA]; exact hA
  have hB₁ : kB₁.kind = .array comp ty := by rw [heB]; exact hB
  have hlim : e.platform.arrayLengthLimit = 2147483645 := Launch.admits_arrayLengthLimit X.admits
  have hmx : e.platform.maxHeapBytes = 536870912 := Launch.admits_maxHeapBytes X.admits
  have hkl : k.toNatClampNeg ≤ 536870912 := by
    have h1 : 1 ≤ componentBytes ty := by cases ty <;> simp [componentBytes]
    exact Nat.le_trans (Nat.le_mul_of_pos_right _ h1) hb2
  obtain ⟨hr1, hr2⟩ := X.roomAbove hcells hslots
  refine ⟨vm₁, ?_, fun target hrest => ?_⟩
  · have h1 : (mr_out cA n.toNatClampNeg T.heap.size n.toNatClampNeg).slots.size = n.toNatClampNeg := arrV_size _ _ _
    have h2 : (mr_in cB k.toNatClampNeg (defaultValue ty)).slots.size = k.toNatClampNeg := by simp [mr_in]
    have X2 := mr_pushed ((X.noted hwarm₁).pushed (mr_out cA n.toNatClampNeg T.heap.size n.toNatClampNeg)) (mr_in cB k.toNatClampNeg (defaultValue ty)) n.toNatClampNeg
    rw [h1, h2] at X2
    exact X2
  · refine Steps.instr (c := c) X.here ?_
    rw [hdg]
    show wpRun (p.tables.exec (.multianewarray index 2)) _ _ e (T.setTop g)
    rw [hexec]
    show wp (multianewarray.sem index 2) _ _ e false [] (T.setTop g)
    refine (mr_cold X.here.top hg₁ hready₁).mpr ?_
    refine mr_sem (S := T.setVm vm₁) X.here.top hready₁ hst hkA₁ hA₁ hkB₁ hB₁ hn hn0 hk (by omega) (by rw [hmx]; show ¬ n.toNatClampNeg * 4 > _; omega) (by omega) (by rw [hmx]; omega) (by show T.heap.size + 1 + _ ≤ _; omega) (by show T.slotsUsed + _ + _ ≤ _; omega) hf (fun acts1 => ?_)
    intro acts2
    rw [afterInstr_ok]
    exact hrest
end MULTI2
