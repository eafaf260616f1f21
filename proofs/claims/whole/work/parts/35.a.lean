/-! the law's start: what the tables and the statement's words say -/
abbrev gvF : List Cond := flatC (Jvm.Cond.and given_1 narrow_1)
abbrev sTm (i : Nat) : Term := .string RX4 (sKey.getD i 0)
theorem gv_ex : ∀ i, i < 13 → Cond.exactly (sTm i) "java/lang/String" ∈ gvF := by decide +kernel
theorem gv_co : ∀ i, i < 13 → Cond.eq (.field (sTm i) "java/lang/String" "coder" "B") (.int 0) ∈ gvF := by decide +kernel
theorem gv_ar : ∀ i, i < 13 → Cond.arrayOf (.field (sTm i) "java/lang/String" "value" "[B") .byte ∈ gvF := by decide +kernel
theorem gv_le : ∀ i, i < 13 → Cond.eq (.length (.field (sTm i) "java/lang/String" "value" "[B")) (.int (Int32.ofNat (sLen.getD i 0))) ∈ gvF := by decide +kernel
theorem gv_el : ∀ i, i < 13 → ∀ j, j < sLen.getD i 0 → Cond.eq (.elem (.field (sTm i) "java/lang/String" "value" "[B") (.int (Int32.ofNat j))) (.int ((sByt.getD i []).getD j 0)) ∈ gvF := by decide +kernel
def neX : List (List Nat) := [[], [46], [55, 56], [66, 67, 68], [78, 79, 80, 81], [90, 91, 92, 93, 94], [105, 106, 107, 108, 109, 110], [119, 120, 121, 122, 123, 124, 125], [135, 136, 137, 138, 139, 140, 141, 142], [152, 153, 154, 155, 156, 157, 158, 159, 160], [169, 170, 171, 172, 173, 174, 175, 176, 177, 178], [188, 189, 190, 191, 192, 193, 194, 195, 196, 197, 198], [207, 208, 209, 210, 211, 212, 213, 214, 215, 216, 217, 218]]
theorem gv_ne0 : ∀ j, j < 13 → ∀ i, i < j → gvF[(neX.getD j []).getD i 0]? = some (Cond.not (Cond.eq (sTm i) (sTm j))) := by decide +kernel
theorem gv_ne (i : Nat) (hi : i < 13) (j : Nat) (hj : j < 13) (hij : i ≠ j) : Cond.not (Cond.eq (sTm i) (sTm j)) ∈ gvF ∨ Cond.not (Cond.eq (sTm j) (sTm i)) ∈ gvF := by
  rcases Nat.lt_or_gt_of_ne hij with h | h
  · exact Or.inl (List.mem_of_getElem? (gv_ne0 j hj i h))
  · exact Or.inr (List.mem_of_getElem? (gv_ne0 i hi j h))
theorem gv_sr : ∀ i, i < 13 → Cond.stringRef RX4 (sKey.getD i 0) (sTxt.getD i "") ∈ lw_tbl := by decide +kernel
theorem gv_nest : ∀ w ∈ nestL, w ∈ lw_tbl ∧ w.onTables = true := by decide +kernel
theorem arr_prim {s : State} {A : Array Value} {ty : FieldType} (h : (Cond.arrayClass ty).before A s = true) : ∃ c : ClassId, ArrOfT s c ty ∧ s.vm.findClass ("[" ++ ty.toString) = some c := by
  obtain ⟨c, k, comp, h1, h2, h3⟩ := Cond.arrayClass_spec h
  exact ⟨c, fun N z => ⟨(fun k h => by cases h), k, h2, comp, h3⟩, h1⟩
theorem arr_obj {s : State} {C : String} (h : va_AO C s) : ∃ c : ClassId, ArrOfT s c (.object C) ∧ va_RA s c (.object C) := by
  obtain ⟨comp, c, k, h1, h2, h3, h4, h5⟩ := Cond.arrayOver_spec h
  exact ⟨c, fun N z => ⟨(fun k h => by cases h), k, h3, comp, h4⟩, k, comp, h3, h4, h1, h5⟩
theorem arr_arr {s : State} (h : XA s) : ∃ c : ClassId, ArrOfT s c (.array .int) ∧ s.vm.findClass ("[" ++ (FieldType.array .int).toString) = some c := by
  obtain ⟨comp, c, k, h1, h2, h3, h4, h5⟩ := arrayOverA_spec h
  exact ⟨c, fun N z => ⟨(fun k h => by cases h), k, h3, comp, h4⟩, h5⟩
theorem start_known {s : State} {b : Nat} (hts : ∀ w ∈ lw_tbl, w.before #[Value.ref b] s = true) (hgv : (Jvm.Cond.and given_1 narrow_1).before #[Value.ref b] s = true) : ∃ (D : va_G) (cy : Nat → ClassId) (ad : AD), KK D cy ad s ∧ SX ad (fun q : Nat => s.heap.size ≤ q) s s.heap ∧ XO s := by
  have hw : ∀ w ∈ WL, w.before #[Value.ref b] s = true := fun w h => hts w (List.mem_filter.mp h).1
  have hf := flat_of_before _ hgv
  have hA : ∀ a : Nat, a < s.heap.size → ¬ (fun q : Nat => s.heap.size ≤ q) a := fun a h => Nat.not_le.mpr h
  obtain ⟨d0, j0, K0⟩ := u_known (C := RX0) (T := TX0) (N := 16) (n := 16) hw inX0 (hts (.instantiable RX0 16) (by decide +kernel))
  obtain ⟨d1, j1, K1⟩ := u_known (C := RX1) (T := TX1) (N := 2) (n := 2) hw inX1 (hts (.instantiable RX1 2) (by decide +kernel))
  obtain ⟨d2, j2, K2⟩ := u_known (C := RX2) (T := TX2) (N := 17) (n := 17) hw inX2 (hts (.instantiable RX2 17) (by decide +kernel))
  obtain ⟨d3, j3, K3⟩ := u_known (C := RX3) (T := TX3) (N := 9) (n := 9) hw inX3 (hts (.instantiable RX3 9) (by decide +kernel))
  obtain ⟨d4, j4, K4⟩ := u_known (C := RX4) (T := TX4) (N := 8) (n := 8) hw inX4 (hts (.instantiable RX4 8) (by decide +kernel))
  obtain ⟨d5, j5, K5⟩ := u_known (C := RX5) (T := TX5) (N := 4) (n := 4) hw inX5 (hts (.instantiable RX5 4) (by decide +kernel))
  obtain ⟨d6, j6, K6⟩ := u_known (C := RX6) (T := TX6) (N := 3) (n := 3) hw inX6 (hts (.instantiable RX6 3) (by decide +kernel))
  obtain ⟨d7, j7, K7⟩ := u_known (C := RX7) (T := TX7) (N := 8) (n := 8) hw inX7 (hts (.instantiable RX7 8) (by decide +kernel))
  obtain ⟨d8, j8, K8⟩ := u_known (C := RX8) (T := TX8) (N := 14) (n := 14) hw inX8 (hts (.instantiable RX8 14) (by decide +kernel))
  obtain ⟨d9, j9, K9⟩ := u_known (C := RX9) (T := TX9) (N := 44) (n := 44) hw inX9 (hts (.instantiable RX9 44) (by decide +kernel))
  have O1 : va_AO "MovingStair$Layout" s := va_AO.of (hts (.arrayOver (.object "MovingStair$Layout")) (by decide +kernel))
  have O2 : va_AO "MovingStair$Slot" s := va_AO.of (hts (.arrayOver (.object "MovingStair$Slot")) (by decide +kernel))
  have O3 : XA s := hts (.arrayOver (.array .int)) (by decide +kernel)
  obtain ⟨y0, A0, B0⟩ := arr_prim (hw _ ac_byte)
  obtain ⟨y1, A1, B1⟩ := arr_prim (hw _ ac_int)
  obtain ⟨y2, A2, B2⟩ := arr_prim (hw _ ac_long)
  obtain ⟨y3, A3, B3⟩ := arr_prim (hw _ ac_boolean)
  obtain ⟨y4, A4, B4⟩ := arr_obj O1
  obtain ⟨y5, A5, B5⟩ := arr_obj O2
  obtain ⟨y6, A6, B6⟩ := arr_arr O3
  obtain ⟨adK, adV, hS, hE⟩ := vk_Sof (N := 13) (tm := sTm) (len := sLen) (byt := sByt) (by decide +kernel) (fun i hi => hf _ (gv_ex i hi)) (fun i hi => hf _ (gv_co i hi)) (fun i hi => hf _ (gv_ar i hi)) (fun i hi => hf _ (gv_le i hi)) (fun i hi j hj => hf _ (gv_el i hi j hj)) (fun i j hi hj hij => (gv_ne i hi j hj hij).imp (fun h => hf _ h) (fun h => hf _ h)) hA
  refine ⟨(fun k => [d0, d1, d2, d3, d4, d5, d6, d7, d8, d9].getD k d0, fun k => ([j0, j1, j2, j3, j4, j5, j6, j7, j8, j9] : List (Nat → Nat)).getD k j0), fun k => [y0, y1, y2, y3, y4, y5, y6].getD k y0, (adK, adV), ⟨⟨fun k q hq => ?_, fun k q hq => ?_⟩, fun w h => va_Nw.of (gv_nest w h).2 (hts w (gv_nest w h).1), fun i hi => vk_R.of (hts _ (gv_sr i hi)) (hE i hi)⟩, ⟨hS, va_Zof (hts (.laysStatic "java/lang/String" "COMPACT_STRINGS" "Z") (by decide +kernel)) (hts (.initialized "java/lang/String") (by decide +kernel)) (va_eqt (hf (.eq (.static "java/lang/String" "COMPACT_STRINGS" "Z") (.int 1)) (by decide +kernel))) hA, va_Zqof (hts (.laysStatic "jdk/internal/util/Preconditions" "SIOOBE_FORMATTER" "Ljava/util/function/BiFunction;") (by decide +kernel)) (hts (.initialized "jdk/internal/util/Preconditions") (by decide +kernel)) (hf (.isRef (.static "jdk/internal/util/Preconditions" "SIOOBE_FORMATTER" "Ljava/util/function/BiFunction;")) (by decide +kernel)) hA⟩, ⟨O1, O2⟩, O3⟩
  · match k, hq with
    | 0, hq => cases hq; exact K0
    | 1, hq => cases hq; exact K1
    | 2, hq => cases hq; exact K2
    | 3, hq => cases hq; exact K3
    | 4, hq => cases hq; exact K4
    | 5, hq => cases hq; exact K5
    | 6, hq => cases hq; exact K6
    | 7, hq => cases hq; exact K7
    | 8, hq => cases hq; exact K8
    | 9, hq => cases hq; exact K9
    | k + 10, hq => simp [vwCl] at hq
  · match k, hq with
    | 0, hq => cases hq; exact ⟨A0, B0⟩
    | 1, hq => cases hq; exact ⟨A1, B1⟩
    | 2, hq => cases hq; exact ⟨A2, B2⟩
    | 3, hq => cases hq; exact ⟨A3, B3⟩
    | 4, hq => cases hq; exact ⟨A4, B4⟩
    | 5, hq => cases hq; exact ⟨A5, B5⟩
    | 6, hq => cases hq; exact ⟨A6, B6⟩
    | k + 7, hq => simp [tyL] at hq
