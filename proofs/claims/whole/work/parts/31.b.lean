/-! rows of rows, arrays of objects -/
def XA : State → Prop := fun U => (Cond.arrayOver (.array .int)).before #[] U = true
theorem XA_mvd : Mvd XA := by
  intro u U hvm h
  obtain ⟨comp, c, k, h1, h2, h3, h4, h5⟩ := arrayOverA_spec h
  obtain ⟨k', hk', he⟩ := hvm.2.2 _ _ h3
  have hi : (U.vm.classes.findIdx? fun (x : Class) => match x.kind with | .array component _ => component == comp | _ => false) = some c := by
    rw [hvm.findIdx?_eq _ (fun _ => rfl)]
    exact h2
  have hkind : k'.kind = .array comp (.array .int) := by rw [he]; exact h4
  have f1 : U.vm.findClass (FieldType.array .int).toString = some comp := by rw [hvm.findClass]; exact h1
  have f2 : U.vm.findClass ("[" ++ (FieldType.array .int).toString) = some c := by rw [hvm.findClass]; exact h5
  unfold XA Cond.before Cond.holds
  simp only [Cond.value]
  rw [f1, Option.bind_some]
  refine (congrArg (fun o : Option Nat => (o.bind (fun c => (U.vm.classes[c]?).map fun (k : Class) => match k.kind with | .array _ ty => decide (ty = FieldType.array .int) && decide (U.vm.findClass ("[" ++ (FieldType.array .int).toString) = some c) | _ => false) == some true)) hi).trans ?_
  simp [hk', hkind, f2]
def XO : State → Prop := fun U => (va_AO "MovingStair$Layout" U ∧ va_AO "MovingStair$Slot" U) ∧ XA U
theorem XO_mvd : Mvd XO := fun hvm h => ⟨⟨va_AO.moved hvm h.1.1, va_AO.moved hvm h.1.2⟩, XA_mvd hvm h.2⟩
theorem selO_nil : (fun _ : Nat => (none : Option Nat)) = selO [] := by
  funext i
  simp [selO]
theorem selO_snoc {l : List Nat} {i v : Nat} (hi : i = l.length) : va_up (selO l) i (some v) = selO (l ++ [v]) := by
  funext j
  subst hi
  unfold va_up selO
  by_cases h : j = l.length
  · rw [if_pos h, h]
    simp
  · rw [if_neg h]
    rcases Nat.lt_or_gt_of_ne h with z | z
    · rw [List.getElem?_append_left z]
    · rw [List.getElem?_eq_none (by omega), List.getElem?_eq_none (by simp; omega)]
section ROWS
variable {E : EE} {cc : ByteArray} {own : String} {rm : Room} {k n pc : Nat} {ws : va_W} {L : List (Option Value)} {st : List Value}
theorem g_aast {a N v ci : Nat} {lst : List Nat} {i : Int} {r : vw_C} {vs : List Value} {ws' : va_W} (t0 : Nat) (C : Cx E cc own rm) (q0 qk : Nat) (he : ws[q0]? = some (a, .inl (eCy E t0, N, .inr (.inr (.inr (.inr (selO lst))))))) (ht : (tyL (eCy E))[t0]? = some (eCy E t0, .object r.1)) (hv : ws[qk]? = some (v, .inr (ci, vs))) (hc : vwCl[ci]? = some r) (hi : (0 ≤ i ∧ i < (N : Int)) ∧ N < 2147483648) (hil : i.toNat = lst.length) (e : ws.set q0 (a, .inl (eCy E t0, N, .inr (.inr (.inr (.inr (selO (lst ++ [v]))))))) = ws') (d : decode cc pc = .ok (.aastore, 1)) (kk : GG E k n ws' L (pc + 1) st) : GG E k n ws L pc (.ref v :: .int (wI i) :: .ref a :: st) := by
  intro H locs ls hP hD hS hl
  refine va_astq (D := eD E) C.x C.b C.kk.1 hP hD hS q0 t0 qk ci he ht hv hc (wI_in hi.1 hi.2) d (fun H1 locs1 hP1 hD1 hS1 => ?_)
  rw [wI_clamp hi.1 hi.2, selO_snoc hil, e] at hP1 hD1
  exact kk H1 locs1 ls hP1 hD1 hS1 hl
theorem VD_app {A : Nat → Prop} {ws new : va_W} {z : Nat} (hD : va_D A ws) (hlt : ∀ (k : Nat) (x : Nat × va_E), ws[k]? = some x → x.1 < z) (hnew : ∀ (i : Nat) (x : Nat × va_E), new[i]? = some x → x.1 = z + i) (hA : ∀ q, z ≤ q → A q) : va_D A (ws ++ new) := by
  have key : ∀ (k : Nat) (x : Nat × va_E), (ws ++ new)[k]? = some x → (ws[k]? = some x ∧ x.1 < z) ∨ (ws.length ≤ k ∧ x.1 = z + (k - ws.length)) := by
    intro k x hx
    by_cases h : k < ws.length
    · rw [List.getElem?_append_left h] at hx
      exact Or.inl ⟨hx, hlt k x hx⟩
    · rw [List.getElem?_append_right (by omega)] at hx
      exact Or.inr ⟨by omega, hnew _ x hx⟩
  refine ⟨fun i j p q hi hj hpq => ?_, fun k q hk => ?_⟩
  · rcases key i p hi with ⟨a1, a2⟩ | ⟨a1, a2⟩ <;> rcases key j q hj with ⟨b1, b2⟩ | ⟨b1, b2⟩
    · exact hD.1 i j p q a1 b1 hpq
    · omega
    · omega
    · omega
  · rcases key k q hk with ⟨a1, a2⟩ | ⟨a1, a2⟩
    · exact hD.2 k q a1
    · exact hA _ (by omega)
theorem arrV_congr {cA : ClassId} {N : Nat} {f g : Nat → Value} (h : ∀ j, j < N → f j = g j) : arrV cA N f = arrV cA N g := by
  unfold arrV
  congr 1
  congr 1
  funext j
  exact h j.val j.isLt
theorem outer_eq {cA : ClassId} {N z : Nat} : mr_out cA N z N = arrV cA N (fun j => va_rf (selO ((List.range N).map (fun j => z + 1 + j)) j)) := by
  unfold mr_out
  refine arrV_congr (fun j hj => ?_)
  unfold selO
  rw [if_pos hj, List.getElem?_map, List.getElem?_range hj]
  rfl
theorem g_multi {index : Nat} (C : Cx E cc own rm) (hcl : Cond.classLink own index "[[I" ∈ WL) (hov : XA (eS E)) (hac : Cond.arrayClass .int ∈ WL) (hr : Nat.ble (k + 31) rm.cells = true ∧ Nat.ble (n + 510) rm.slots = true) (d : decode cc pc = .ok (.multianewarray index 2, 4))
    (kk : ∀ (q : Nat) (rs : List Nat), rs.length = 30 → GG E (k + 31) (n + 510) (ws ++ ((q, .inl (eCy E 6, 30, .inr (.inr (.inr (.inr (selO rs)))))) :: rs.map (fun r => (r, .inl (eCy E 1, 16, .inl (aI zF)))))) L (pc + 4) (.ref q :: st)) : GG E k n ws L pc (.int (wI 16) :: .int (wI 30) :: st) := by
  intro H locs ls hP hD hS hl T hT X
  have e30 : (wI 30).toNatClampNeg = 30 := by decide
  have e16 : (wI 16).toNatClampNeg = 16 := by decide
  have r1 := Nat.ble_eq.mp hr.1
  have r2 := Nat.ble_eq.mp hr.2
  have h6 : va_RA (eS E) (eCy E 6) (.array .int) := (C.kk.1.2 6 _ rfl).2
  have h1 : va_RA (eS E) (eCy E 1) .int := (C.kk.1.2 1 _ rfl).2
  obtain ⟨cB, cA, kA, hcomp, -, hkA, hkindA, hnameA⟩ := arrayOverA_spec hov
  obtain ⟨cB2, kB, ci, hB1, hB2, hB3⟩ := Cond.arrayClass_spec (C.ts _ hac)
  have c6 : cA = eCy E 6 := Option.some.inj (hnameA.symm.trans h6)
  have cb : cB = cB2 := Option.some.inj (hcomp.symm.trans hB1)
  have c1 : cB2 = eCy E 1 := Option.some.inj (hB1.symm.trans h1)
  have hnm : ("[" ++ (FieldType.array .int).toString) = "[[I" := by decide
  rw [hnm] at hnameA
  subst cb
  subst c6
  subst c1
  subst hT
  obtain ⟨vm₁, X1, step⟩ := mr_stand (ty := .int) (own := own) (index := index) (g := F0 (eM E) pc ls (.int (wI 16) :: .int (wI 30) :: st)) (n := wI 30) (k := wI 16) (rest := st) X C.x C.ow (C.ts _ hcl) hnameA hkA hkindA hB2 hB3 rfl (by rw [C.b]; exact d) rfl (by decide) (by decide) (by decide) (by decide) (by decide) rfl (by rw [C.r, e30]; omega) (by rw [C.r, e30, e16]; omega)
  rw [e30, e16] at X1 step
  have f1 := mr_st_size (T.setVm vm₁) (eCy E 6) (eCy E 1) 30 16 (defaultValue .int) 30
  have f2 := mr_st_outer (T.setVm vm₁) (eCy E 6) (eCy E 1) 30 16 (defaultValue .int) 30
  have f3 := fun j hj => mr_st_inner (T.setVm vm₁) (eCy E 6) (eCy E 1) 30 16 (defaultValue .int) 30 j hj
  have f4' : ∀ a : Nat, a < T.heap.size → (mr_st (T.setVm vm₁) (eCy E 6) (eCy E 1) 30 16 (defaultValue .int) 30).heap[a]? = T.heap[a]? := fun a ha => mr_st_old (T.setVm vm₁) (eCy E 6) (eCy E 1) 30 16 (defaultValue .int) 30 ha
  have hsz : (T.setVm vm₁).heap.size = T.heap.size := rfl
  rw [hsz] at f1 f2 f3
  generalize hTT : mr_st (T.setVm vm₁) (eCy E 6) (eCy E 1) 30 16 (defaultValue .int) 30 = T2 at X1 step f1 f2 f3 f4'
  have hk : ∀ (k : Nat) (x : Nat × va_E), ws[k]? = some x → T2.heap[x.1]? = T.heap[x.1]? := fun k x hx => f4' x.1 ((hP k x hx).lt)
  have hmem : ∀ (i : Nat) (x : Nat × va_E), (((T.heap.size, (.inl (eCy E 6, 30, .inr (.inr (.inr (.inr (selO ((List.range 30).map (fun j => T.heap.size + 1 + j))))))) : va_E)) :: ((List.range 30).map (fun j => T.heap.size + 1 + j)).map (fun r => (r, (.inl (eCy E 1, 16, .inl (aI zF)) : va_E)))) : va_W)[i]? = some x → x.1 = T.heap.size + i ∧ va_at (eD E) vwCl x T2.heap := by
    intro i x hx
    cases i with
    | zero =>
      cases hx
      refine ⟨rfl, ?_⟩
      show T2.heap[T.heap.size]? = some (vp_cell _ _)
      rw [vp_cell_q, f2, outer_eq]
    | succ i =>
      rw [List.getElem?_cons_succ, List.getElem?_map, List.getElem?_map] at hx
      by_cases h : i < 30
      · rw [List.getElem?_range h] at hx
        cases hx
        refine ⟨by simp only; omega, ?_⟩
        show T2.heap[T.heap.size + 1 + i]? = some (vp_cell _ _)
        rw [f3 i h]
        exact congrArg some (arrV_new _ _ _)
      · rw [List.getElem?_eq_none (by simpa using h)] at hx
        cases hx
  obtain ⟨t, a1, b1⟩ := kk T.heap.size ((List.range 30).map (fun j => T.heap.size + 1 + j)) (by simp) T2.heap locs ls
    ((hP.kept hk).app (fun k x hx => (hmem k x hx).2))
    (VD_app hD (fun k x hx => (hP k x hx).lt) (fun i x hx => (hmem i x hx).1) (fun q hq => C.a q (Nat.le_trans hS.1 hq)))
    ⟨Nat.le_trans hS.1 (by omega), fun x h1 h2 => (f4' x (Nat.lt_of_lt_of_le h1 hS.1)).trans (hS.2.1 x h1 h2), hS.2.2⟩ hl T2 rfl X1
  exact ⟨t, step t a1, b1⟩
end ROWS
theorem list30 {rs : List Nat} (h : rs.length = 30) : ∃ a0 a1 a2 a3 a4 a5 a6 a7 a8 a9 a10 a11 a12 a13 a14 a15 a16 a17 a18 a19 a20 a21 a22 a23 a24 a25 a26 a27 a28 a29 : Nat, rs = [a0, a1, a2, a3, a4, a5, a6, a7, a8, a9, a10, a11, a12, a13, a14, a15, a16, a17, a18, a19, a20, a21, a22, a23, a24, a25, a26, a27, a28, a29] := by
  match rs, h with
  | [a0, a1, a2, a3, a4, a5, a6, a7, a8, a9, a10, a11, a12, a13, a14, a15, a16, a17, a18, a19, a20, a21, a22, a23, a24, a25, a26, a27, a28, a29], _ => exact ⟨a0, a1, a2, a3, a4, a5, a6, a7, a8, a9, a10, a11, a12, a13, a14, a15, a16, a17, a18, a19, a20, a21, a22, a23, a24, a25, a26, a27, a28, a29, rfl⟩
theorem oi_X7_3 : Cond.methodLink RX7 3 Lib.objectInit ∈ WL := wl_in (List.mem_of_getElem? (i := 412) (by decide +kernel)) (by decide +kernel)
theorem ip_X7_9 : FldP RX7 9 7 0 .int := ⟨RX7, TX7, 8, tyX7, rfl, by decide, inX7, wl_in (List.mem_of_getElem? (i := 415) (by decide +kernel)) (by decide +kernel), tyX7_ok, nmX7, rfl, by decide +kernel⟩
theorem ip_X7_15 : FldP RX7 15 7 1 .int := ⟨RX7, TX7, 8, tyX7, rfl, by decide, inX7, wl_in (List.mem_of_getElem? (i := 417) (by decide +kernel)) (by decide +kernel), tyX7_ok, nmX7, rfl, by decide +kernel⟩
theorem ip_X7_18 : FldP RX7 18 7 2 .int := ⟨RX7, TX7, 8, tyX7, rfl, by decide, inX7, wl_in (List.mem_of_getElem? (i := 419) (by decide +kernel)) (by decide +kernel), tyX7_ok, nmX7, rfl, by decide +kernel⟩
theorem if_X7_21 : FldF RX7 21 7 3 (.array .int) := ⟨RX7, TX7, 8, tyX7, rfl, by decide, inX7, wl_in (List.mem_of_getElem? (i := 421) (by decide +kernel)) (by decide +kernel), tyX7_ok, nmX7, rfl, rfl, by decide +kernel⟩
theorem ip_X7_25 : FldP RX7 25 7 4 .int := ⟨RX7, TX7, 8, tyX7, rfl, by decide, inX7, wl_in (List.mem_of_getElem? (i := 423) (by decide +kernel)) (by decide +kernel), tyX7_ok, nmX7, rfl, by decide +kernel⟩
theorem ip_X7_28 : FldP RX7 28 7 5 .int := ⟨RX7, TX7, 8, tyX7, rfl, by decide, inX7, wl_in (List.mem_of_getElem? (i := 424) (by decide +kernel)) (by decide +kernel), tyX7_ok, nmX7, rfl, by decide +kernel⟩
theorem if_X7_31 : FldF RX7 31 7 6 (.array .int) := ⟨RX7, TX7, 8, tyX7, rfl, by decide, inX7, wl_in (List.mem_of_getElem? (i := 425) (by decide +kernel)) (by decide +kernel), tyX7_ok, nmX7, rfl, rfl, by decide +kernel⟩
theorem mcl_X7_34 : Cond.classLink RX7 34 "[[I" ∈ WL := wl_in (List.mem_of_getElem? (i := 413) (by decide +kernel)) (by decide +kernel)
theorem if_X7_36 : FldF RX7 36 7 7 (.array (.array .int)) := ⟨RX7, TX7, 8, tyX7, rfl, by decide, inX7, wl_in (List.mem_of_getElem? (i := 426) (by decide +kernel)) (by decide +kernel), tyX7_ok, nmX7, rfl, rfl, by decide +kernel⟩
theorem i_X7 (l : Launch) (D : va_G) (cy : Nat → ClassId) (ad : AD) (o : Nat) : Ci l yX7_init cX7_init 1 { frames := 1, cells := 33, slots := 556, locals := 12 } D cy ad [.ref o] [(o, .inr (7, [.int (wI 0), .int (wI 0), .int (wI 0), .null, .int (wI 0), .int (wI 0), .null, .null]))] XA (fun w1 => ∃ q1 q2 q3 q4 q5 q6 q7 q8 q9 q10 q11 q12 q13 q14 q15 q16 q17 q18 q19 q20 q21 q22 q23 q24 q25 q26 q27 q28 q29 q30 q31 q32 q33 : Nat, w1 = [(o, .inr (7, [.int (wI 0), .int (wI 0), .int (wI 0), .ref q1, .int (wI 1), .int (wI 0), .ref q2, .ref q3])), (q1, .inl (cy 1, 30, .inl (aI zF))), (q2, .inl (cy 1, 16, .inl (aI zF))), (q3, .inl (cy 6, 30, .inr (.inr (.inr (.inr (selO [q4, q5, q6, q7, q8, q9, q10, q11, q12, q13, q14, q15, q16, q17, q18, q19, q20, q21, q22, q23, q24, q25, q26, q27, q28, q29, q30, q31, q32, q33])))))), (q4, .inl (cy 1, 16, .inl (aI zF))), (q5, .inl (cy 1, 16, .inl (aI zF))), (q6, .inl (cy 1, 16, .inl (aI zF))), (q7, .inl (cy 1, 16, .inl (aI zF))), (q8, .inl (cy 1, 16, .inl (aI zF))), (q9, .inl (cy 1, 16, .inl (aI zF))), (q10, .inl (cy 1, 16, .inl (aI zF))), (q11, .inl (cy 1, 16, .inl (aI zF))), (q12, .inl (cy 1, 16, .inl (aI zF))), (q13, .inl (cy 1, 16, .inl (aI zF))), (q14, .inl (cy 1, 16, .inl (aI zF))), (q15, .inl (cy 1, 16, .inl (aI zF))), (q16, .inl (cy 1, 16, .inl (aI zF))), (q17, .inl (cy 1, 16, .inl (aI zF))), (q18, .inl (cy 1, 16, .inl (aI zF))), (q19, .inl (cy 1, 16, .inl (aI zF))), (q20, .inl (cy 1, 16, .inl (aI zF))), (q21, .inl (cy 1, 16, .inl (aI zF))), (q22, .inl (cy 1, 16, .inl (aI zF))), (q23, .inl (cy 1, 16, .inl (aI zF))), (q24, .inl (cy 1, 16, .inl (aI zF))), (q25, .inl (cy 1, 16, .inl (aI zF))), (q26, .inl (cy 1, 16, .inl (aI zF))), (q27, .inl (cy 1, 16, .inl (aI zF))), (q28, .inl (cy 1, 16, .inl (aI zF))), (q29, .inl (cy 1, 16, .inl (aI zF))), (q30, .inl (cy 1, 16, .inl (aI zF))), (q31, .inl (cy 1, 16, .inl (aI zF))), (q32, .inl (cy 1, 16, .inl (aI zF))), (q33, .inl (cy 1, 16, .inl (aI zF)))]) := by
  refine Ci.intro (j := 0) (by decide +kernel) rfl rfl rfl (fun E C e1 e2 e3 e4 e5 hin hX fin => ?_)
  refine g_aload_n 0 C dX7_init_0 rfl rfl ?_
  refine g_objInit C oi_X7_3 ⟨rfl, rfl⟩ dX7_init_1 ?_
  refine g_aload_n 0 C dX7_init_4 rfl rfl ?_
  refine g_iconst C dX7_init_5 ?_
  refine g_put (ws' := [(o, .inr (7, [.int (wI 0), .int (wI 0), .int (wI 0), .null, .int (wI 0), .int (wI 0), .null, .null]))]) C ip_X7_9 0 rfl (by decide +kernel) (by decide +kernel) rfl rfl dX7_init_6 ?_
  refine g_aload_n 0 C dX7_init_9 rfl rfl ?_
  refine g_iconst C dX7_init_10 ?_
  refine g_put (ws' := [(o, .inr (7, [.int (wI 0), .int (wI 0), .int (wI 0), .null, .int (wI 0), .int (wI 0), .null, .null]))]) C ip_X7_15 0 rfl (by decide +kernel) (by decide +kernel) rfl rfl dX7_init_11 ?_
  refine g_aload_n 0 C dX7_init_14 rfl rfl ?_
  refine g_iconst C dX7_init_15 ?_
  refine g_put (ws' := [(o, .inr (7, [.int (wI 0), .int (wI 0), .int (wI 0), .null, .int (wI 0), .int (wI 0), .null, .null]))]) C ip_X7_18 0 rfl (by decide +kernel) (by decide +kernel) rfl rfl dX7_init_16 ?_
  refine g_aload_n 0 C dX7_init_19 rfl rfl ?_
  refine g_bipush C dX7_init_20 rfl ?_
  refine g_newarr (atype := .int) (ty := .int) (a0 := (30, .inl (aI zF))) 1 C rfl rfl ac_int (fun _ => rfl) (by decide) rfl (by decide) ⟨rfl, rfl⟩ dX7_init_22 (fun q1 => ?_)
  rw [e3]
  refine g_putF (ws' := [(o, .inr (7, [.int (wI 0), .int (wI 0), .int (wI 0), .ref q1, .int (wI 0), .int (wI 0), .null, .null])), (q1, .inl (cy 1, 30, .inl (aI zF)))]) C hin if_X7_21 0 rfl rfl rfl rfl rfl dX7_init_24 ?_
  refine g_aload_n 0 C dX7_init_27 rfl rfl ?_
  refine g_iconst C dX7_init_28 ?_
  refine g_put (ws' := [(o, .inr (7, [.int (wI 0), .int (wI 0), .int (wI 0), .ref q1, .int (wI 1), .int (wI 0), .null, .null])), (q1, .inl (cy 1, 30, .inl (aI zF)))]) C ip_X7_25 0 rfl (by decide +kernel) (by decide +kernel) rfl rfl dX7_init_29 ?_
  refine g_aload_n 0 C dX7_init_32 rfl rfl ?_
  refine g_iconst C dX7_init_33 ?_
  refine g_put (ws' := [(o, .inr (7, [.int (wI 0), .int (wI 0), .int (wI 0), .ref q1, .int (wI 1), .int (wI 0), .null, .null])), (q1, .inl (cy 1, 30, .inl (aI zF)))]) C ip_X7_28 0 rfl (by decide +kernel) (by decide +kernel) rfl rfl dX7_init_34 ?_
  refine g_aload_n 0 C dX7_init_37 rfl rfl ?_
  refine g_bipush C dX7_init_38 rfl ?_
  refine g_newarr (atype := .int) (ty := .int) (a0 := (16, .inl (aI zF))) 1 C rfl rfl ac_int (fun _ => rfl) (by decide) rfl (by decide) ⟨rfl, rfl⟩ dX7_init_40 (fun q2 => ?_)
  rw [e3]
  refine g_putF (ws' := [(o, .inr (7, [.int (wI 0), .int (wI 0), .int (wI 0), .ref q1, .int (wI 1), .int (wI 0), .ref q2, .null])), (q1, .inl (cy 1, 30, .inl (aI zF))), (q2, .inl (cy 1, 16, .inl (aI zF)))]) C hin if_X7_31 0 rfl rfl rfl rfl rfl dX7_init_42 ?_
  refine g_aload_n 0 C dX7_init_45 rfl rfl ?_
  refine g_bipush C dX7_init_46 rfl ?_
  refine g_bipush C dX7_init_48 rfl ?_
  refine g_multi C mcl_X7_34 hX ac_int ⟨rfl, rfl⟩ dX7_init_50 (fun q3 rs hrs => ?_)
  obtain ⟨q4, q5, q6, q7, q8, q9, q10, q11, q12, q13, q14, q15, q16, q17, q18, q19, q20, q21, q22, q23, q24, q25, q26, q27, q28, q29, q30, q31, q32, q33, rfl⟩ := list30 hrs
  rw [e3]
  refine g_putF (ws' := [(o, .inr (7, [.int (wI 0), .int (wI 0), .int (wI 0), .ref q1, .int (wI 1), .int (wI 0), .ref q2, .ref q3])), (q1, .inl (cy 1, 30, .inl (aI zF))), (q2, .inl (cy 1, 16, .inl (aI zF))), (q3, .inl (cy 6, 30, .inr (.inr (.inr (.inr (selO [q4, q5, q6, q7, q8, q9, q10, q11, q12, q13, q14, q15, q16, q17, q18, q19, q20, q21, q22, q23, q24, q25, q26, q27, q28, q29, q30, q31, q32, q33])))))), (q4, .inl (cy 1, 16, .inl (aI zF))), (q5, .inl (cy 1, 16, .inl (aI zF))), (q6, .inl (cy 1, 16, .inl (aI zF))), (q7, .inl (cy 1, 16, .inl (aI zF))), (q8, .inl (cy 1, 16, .inl (aI zF))), (q9, .inl (cy 1, 16, .inl (aI zF))), (q10, .inl (cy 1, 16, .inl (aI zF))), (q11, .inl (cy 1, 16, .inl (aI zF))), (q12, .inl (cy 1, 16, .inl (aI zF))), (q13, .inl (cy 1, 16, .inl (aI zF))), (q14, .inl (cy 1, 16, .inl (aI zF))), (q15, .inl (cy 1, 16, .inl (aI zF))), (q16, .inl (cy 1, 16, .inl (aI zF))), (q17, .inl (cy 1, 16, .inl (aI zF))), (q18, .inl (cy 1, 16, .inl (aI zF))), (q19, .inl (cy 1, 16, .inl (aI zF))), (q20, .inl (cy 1, 16, .inl (aI zF))), (q21, .inl (cy 1, 16, .inl (aI zF))), (q22, .inl (cy 1, 16, .inl (aI zF))), (q23, .inl (cy 1, 16, .inl (aI zF))), (q24, .inl (cy 1, 16, .inl (aI zF))), (q25, .inl (cy 1, 16, .inl (aI zF))), (q26, .inl (cy 1, 16, .inl (aI zF))), (q27, .inl (cy 1, 16, .inl (aI zF))), (q28, .inl (cy 1, 16, .inl (aI zF))), (q29, .inl (cy 1, 16, .inl (aI zF))), (q30, .inl (cy 1, 16, .inl (aI zF))), (q31, .inl (cy 1, 16, .inl (aI zF))), (q32, .inl (cy 1, 16, .inl (aI zF))), (q33, .inl (cy 1, 16, .inl (aI zF)))]) C hin if_X7_36 0 rfl rfl rfl rfl rfl dX7_init_54 ?_
  exact fin 57 _ _ ⟨q1, q2, q3, q4, q5, q6, q7, q8, q9, q10, q11, q12, q13, q14, q15, q16, q17, q18, q19, q20, q21, q22, q23, q24, q25, q26, q27, q28, q29, q30, q31, q32, q33, rfl⟩ dX7_init_57
