-- MovingStairModel.in(JJJ)Z
def W_X9_in (cy : Nat → ClassId) : va_W := []
def m_X9_in (F : Nat) (x0 : Int) (x2 : Int) (x4 : Int) : Option (Int) :=
  if wJ x0 < wJ x2 then
    (some 0)
  else
    (if wJ x4 < wJ x0 then
    (some 0)
  else
    (some 1))
section S_X9_in
variable {E : EE}
set_option maxRecDepth 100000 in
set_option maxHeartbeats 4000000 in
theorem wm_X9_in {F : Nat} {v : Int} {x0 : Int} {x2 : Int} {x4 : Int} (C : Cx E cX9_in RX9 { frames := 0, cells := 0, slots := 0, locals := 0 }) (hN : eN E = 6) (h : m_X9_in F x0 x2 x4 = some v) (hret : ∀ (pc : Nat) (L : List (Option Value)), narrow .boolean (.int (wI v)) = .int (wI v) → decode cX9_in pc = .ok (.ireturn, 1) → GG E 0 0 (W_X9_in (eCy E)) L pc [.int (wI v)]) : GG E 0 0 (W_X9_in (eCy E)) [some (.long (wJ x0)), none, some (.long (wJ x2)), none, some (.long (wJ x4)), none] 0 [] := by
  unfold m_X9_in at h
  refine g_lload_n 0 C dX9_in_0 rfl rfl ?_
  refine g_lload_n 2 C dX9_in_1 rfl rfl ?_
  refine g_lcmp_lt 17 C dX9_in_2 dX9_in_3 (by decide) h (fun h => ?_) (fun h => ?_)
  · refine g_iconst C dX9_in_17 ?_
    cases h
    exact hret 18 _ bn0 dX9_in_18
  · refine g_lload_n 0 C dX9_in_6 rfl rfl ?_
    refine g_lload C dX9_in_7 rfl ?_
    refine g_lcmp_gt 17 C dX9_in_9 dX9_in_10 (by decide) h (fun h => ?_) (fun h => ?_)
    · refine g_iconst C dX9_in_17 ?_
      cases h
      exact hret 18 _ bn0 dX9_in_18
    · refine g_iconst C dX9_in_13 ?_
      refine g_goto (tgt := 18) C dX9_in_14 (by decide) ?_
      cases h
      exact hret 18 _ bn1 dX9_in_18
end S_X9_in
set_option maxRecDepth 100000 in
set_option maxHeartbeats 4000000 in
theorem c_X9_in (l : Launch) (D : va_G) (cy : Nat → ClassId) (ad : AD) (x0 : Int) (x2 : Int) (x4 : Int) (F : Nat) {v : Int} (h : m_X9_in F x0 x2 x4 = some v) : Ct l yX9_in cX9_in 6 (some .boolean) { frames := 0, cells := 0, slots := 0, locals := 0 } D cy ad [.long (wJ x0), .long (wJ x2), .long (wJ x4)] (W_X9_in cy) (W_X9_in cy) (some (.int (wI v))) := by
  refine Ct.introZ (j := 0) (plainFor_of_name (by decide)) rfl rfl (fun E C e1 e2 e3 e4 e5 hret => ?_)
  subst e1; subst e2; subst e3; subst e4
  exact wm_X9_in C e5 h hret
-- MovingStairModel.isSlot(I)Z
def W_X9_isSlot (cy : Nat → ClassId) : va_W := []
def m_X9_isSlot (F : Nat) (x0 : Int) : Option (Int) :=
  chk (r32 x0) <| bnd1 (m_X9_in F x0 0 3) fun r2 => chk (r2 = 0 ∨ r2 = 1) <| some r2
section S_X9_isSlot
variable {E : EE}
set_option maxRecDepth 100000 in
set_option maxHeartbeats 4000000 in
theorem wm_X9_isSlot {F : Nat} {v : Int} {x0 : Int} (C : Cx E cX9_isSlot RX9 { frames := 1, cells := 0, slots := 0, locals := 25 }) (hN : eN E = 1) (h : m_X9_isSlot F x0 = some v) (hret : ∀ (pc : Nat) (L : List (Option Value)), narrow .boolean (.int (wI v)) = .int (wI v) → decode cX9_isSlot pc = .ok (.ireturn, 1) → GG E 0 0 (W_X9_isSlot (eCy E)) L pc [.int (wI v)]) : GG E 0 0 (W_X9_isSlot (eCy E)) [some (.int (wI x0))] 0 [] := by
  unfold m_X9_isSlot at h
  refine g_iload_n 0 C dX9_isSlot_0 rfl rfl ?_
  obtain ⟨hc1, h⟩ := chk_some h
  refine g_i2l C dX9_isSlot_1 hc1 ?_
  refine g_lconst (x := 0) C dX9_isSlot_2 (by decide) ?_
  refine g_ldc2 (v := 3) C mc_X9_74 dX9_isSlot_3 ?_
  obtain ⟨r2, hr3, h⟩ := bnd1_some h
  refine g_callSI [] [] [] C mt_X9_76 (c_X9_in _ _ _ _ x0 0 3 F hr3) rfl rfl (ws2 := (W_X9_isSlot (eCy E))) rfl rfl rfl (rest := []) rfl rfl rfl dX9_isSlot_6 ?_
  obtain ⟨hc4, h⟩ := chk_some h
  cases h
  exact hret 9 _ (bool_nar hc4).1 dX9_isSlot_9
end S_X9_isSlot
set_option maxRecDepth 100000 in
set_option maxHeartbeats 4000000 in
theorem c_X9_isSlot (l : Launch) (D : va_G) (cy : Nat → ClassId) (ad : AD) (x0 : Int) (F : Nat) {v : Int} (h : m_X9_isSlot F x0 = some v) : Ct l yX9_isSlot cX9_isSlot 1 (some .boolean) { frames := 1, cells := 0, slots := 0, locals := 25 } D cy ad [.int (wI x0)] (W_X9_isSlot cy) (W_X9_isSlot cy) (some (.int (wI v))) := by
  refine Ct.introZ (j := 0) (plainFor_of_name (by decide)) rfl rfl (fun E C e1 e2 e3 e4 e5 hret => ?_)
  subst e1; subst e2; subst e3; subst e4
  exact wm_X9_isSlot C e5 h hret
-- MovingStairModel.row(III)I
def W_X9_row (cy : Nat → ClassId) (a_t a_t_cells a_t_many a_t_width : Nat) (g_t_4 : Value) (g_t_5 : Value) (g_t_6 : Value) (g_t_7 : Value) (g_t_8 : Value) (g_t_9 : Value) (g_t_10 : Value) (g_t_11 : Value) (g_t_12 : Value) (g_t_13 : Value) (g_t_14 : Value) (g_t_15 : Value) (g_t_16 : Value) (g_t_17 : Value) (g_t_18 : Value) (g_t_19 : Value) (g_t_20 : Value) (g_t_21 : Value) (g_t_22 : Value) (g_t_23 : Value) (g_t_24 : Value) (g_t_25 : Value) (g_t_26 : Value) (g_t_27 : Value) (g_t_28 : Value) (g_t_29 : Value) (g_t_30 : Value) (g_t_31 : Value) (g_t_32 : Value) (g_t_33 : Value) (g_t_34 : Value) (g_t_35 : Value) (g_t_36 : Value) (g_t_37 : Value) (g_t_38 : Value) (g_t_39 : Value) (g_t_40 : Value) (g_t_41 : Value) (g_t_42 : Value) (g_t_43 : Value) (c_thrown : Int) (c_cells : Int → Int) (c_many : Int → Int) (c_width : Int → Int) : va_W := [(a_t, .inr (9, [.int (wI c_thrown), .ref a_t_width, .ref a_t_many, .ref a_t_cells, g_t_4, g_t_5, g_t_6, g_t_7, g_t_8, g_t_9, g_t_10, g_t_11, g_t_12, g_t_13, g_t_14, g_t_15, g_t_16, g_t_17, g_t_18, g_t_19, g_t_20, g_t_21, g_t_22, g_t_23, g_t_24, g_t_25, g_t_26, g_t_27, g_t_28, g_t_29, g_t_30, g_t_31, g_t_32, g_t_33, g_t_34, g_t_35, g_t_36, g_t_37, g_t_38, g_t_39, g_t_40, g_t_41, g_t_42, g_t_43])), (a_t_cells, .inl (cy 2, 240, .inr (.inl (aJ c_cells)))), (a_t_many, .inl (cy 1, 4, .inl (aI c_many))), (a_t_width, .inl (cy 1, 4, .inl (aI c_width)))]
def mb_X9_row_57 (F : Nat) (k57 : Int → (Int → Int) → Option (Int × Int × (Int → Int) × (Int → Int) × (Int → Int))) (x1 : Int) (x3 : Int) (x4 : Int) (c_thrown : Int) (c_cells : Int → Int) (c_many : Int → Int) (c_width : Int → Int) : Option (Int × Int × (Int → Int) × (Int → Int) × (Int → Int)) :=
  if wI x3 ≤ wI x4 then
    (some (0, c_thrown, c_cells, c_many, c_width))
  else
    (chk (0 ≤ ((60 * x1) + x4) ∧ ((60 * x1) + x4) < 240) <| k57 (x4 + 1) (up c_cells ((60 * x1) + x4) 0))
def ml_X9_row_57 (F : Nat) (x1 : Int) (x3 : Int) (x4 : Int) (c_thrown : Int) (c_cells : Int → Int) (c_many : Int → Int) (c_width : Int → Int) : Option (Int × Int × (Int → Int) × (Int → Int) × (Int → Int)) :=
  loopN (fun (k : Int × (Int → Int) → Option (Int × Int × (Int → Int) × (Int → Int) × (Int → Int))) q => mb_X9_row_57 F (fun y0 y1 => k (y0, y1)) x1 x3 q.1 c_thrown q.2 c_many c_width) F (x4, c_cells)
def m_X9_row (F : Nat) (x1 : Int) (x2 : Int) (x3 : Int) (c_cells : Int → Int) (c_many : Int → Int) (c_width : Int → Int) : Option (Int × Int × (Int → Int) × (Int → Int) × (Int → Int)) :=
  bnd1 (m_X9_isSlot F x1) fun r1 => if wI r1 = wI 0 then
    (some ((-2), 0, c_cells, c_many, c_width))
  else
    (chk (r32 x2) <| bnd1 (m_X9_in F x2 0 3) fun r4 => if wI r4 = wI 0 then
    (some ((-2), 0, c_cells, c_many, c_width))
  else
    (if wI x3 ≤ wI 60 then
    (if wI 0 ≤ wI x3 then
    (chk (0 ≤ x1 ∧ x1 < 4) <| chk (0 ≤ x1 ∧ x1 < 4) <| ml_X9_row_57 F x1 x3 0 0 c_cells (up c_many x1 x3) (up c_width x1 x2))
  else
    (some ((-3), 0, c_cells, c_many, c_width)))
  else
    (some ((-2), 0, c_cells, c_many, c_width))))
section S_X9_row
variable {E : EE} {a_t a_t_cells a_t_many a_t_width : Nat} {g_t_4 : Value} {g_t_5 : Value} {g_t_6 : Value} {g_t_7 : Value} {g_t_8 : Value} {g_t_9 : Value} {g_t_10 : Value} {g_t_11 : Value} {g_t_12 : Value} {g_t_13 : Value} {g_t_14 : Value} {g_t_15 : Value} {g_t_16 : Value} {g_t_17 : Value} {g_t_18 : Value} {g_t_19 : Value} {g_t_20 : Value} {g_t_21 : Value} {g_t_22 : Value} {g_t_23 : Value} {g_t_24 : Value} {g_t_25 : Value} {g_t_26 : Value} {g_t_27 : Value} {g_t_28 : Value} {g_t_29 : Value} {g_t_30 : Value} {g_t_31 : Value} {g_t_32 : Value} {g_t_33 : Value} {g_t_34 : Value} {g_t_35 : Value} {g_t_36 : Value} {g_t_37 : Value} {g_t_38 : Value} {g_t_39 : Value} {g_t_40 : Value} {g_t_41 : Value} {g_t_42 : Value} {g_t_43 : Value}
set_option maxRecDepth 100000 in
set_option maxHeartbeats 4000000 in
theorem wb_X9_row_57 {F : Nat} {k57 : Int → (Int → Int) → Option (Int × Int × (Int → Int) × (Int → Int) × (Int → Int))} {v : Int × Int × (Int → Int) × (Int → Int) × (Int → Int)} {x1 : Int} {x3 : Int} {x4 : Int} {c_thrown : Int} {c_cells : Int → Int} {c_many : Int → Int} {c_width : Int → Int} (C : Cx E cX9_row RX9 { frames := 2, cells := 0, slots := 0, locals := 45 }) (hN : eN E = 5) (h : mb_X9_row_57 F k57 x1 x3 x4 c_thrown c_cells c_many c_width = some v) (hk57 : ∀ (y_x4 : Int) (y_c_cells : Int → Int), k57 y_x4 y_c_cells = some v → GG E 0 0 (W_X9_row (eCy E) a_t a_t_cells a_t_many a_t_width g_t_4 g_t_5 g_t_6 g_t_7 g_t_8 g_t_9 g_t_10 g_t_11 g_t_12 g_t_13 g_t_14 g_t_15 g_t_16 g_t_17 g_t_18 g_t_19 g_t_20 g_t_21 g_t_22 g_t_23 g_t_24 g_t_25 g_t_26 g_t_27 g_t_28 g_t_29 g_t_30 g_t_31 g_t_32 g_t_33 g_t_34 g_t_35 g_t_36 g_t_37 g_t_38 g_t_39 g_t_40 g_t_41 g_t_42 g_t_43 c_thrown y_c_cells c_many c_width) [some (.ref a_t), some (.int (wI x1)), none, some (.int (wI x3)), some (.int (wI y_x4))] 57 []) (hret : ∀ (pc : Nat) (L : List (Option Value)), decode cX9_row pc = .ok (.ireturn, 1) → GG E 0 0 (W_X9_row (eCy E) a_t a_t_cells a_t_many a_t_width g_t_4 g_t_5 g_t_6 g_t_7 g_t_8 g_t_9 g_t_10 g_t_11 g_t_12 g_t_13 g_t_14 g_t_15 g_t_16 g_t_17 g_t_18 g_t_19 g_t_20 g_t_21 g_t_22 g_t_23 g_t_24 g_t_25 g_t_26 g_t_27 g_t_28 g_t_29 g_t_30 g_t_31 g_t_32 g_t_33 g_t_34 g_t_35 g_t_36 g_t_37 g_t_38 g_t_39 g_t_40 g_t_41 g_t_42 g_t_43 (v.2.1) (v.2.2.1) (v.2.2.2.1) (v.2.2.2.2)) L pc [.int (wI (v.1))]) : GG E 0 0 (W_X9_row (eCy E) a_t a_t_cells a_t_many a_t_width g_t_4 g_t_5 g_t_6 g_t_7 g_t_8 g_t_9 g_t_10 g_t_11 g_t_12 g_t_13 g_t_14 g_t_15 g_t_16 g_t_17 g_t_18 g_t_19 g_t_20 g_t_21 g_t_22 g_t_23 g_t_24 g_t_25 g_t_26 g_t_27 g_t_28 g_t_29 g_t_30 g_t_31 g_t_32 g_t_33 g_t_34 g_t_35 g_t_36 g_t_37 g_t_38 g_t_39 g_t_40 g_t_41 g_t_42 g_t_43 c_thrown c_cells c_many c_width) [some (.ref a_t), some (.int (wI x1)), none, some (.int (wI x3)), some (.int (wI x4))] 57 [] := by
  unfold mb_X9_row_57 at h
  refine g_iload C dX9_row_57 rfl ?_
  refine g_iload_n 3 C dX9_row_59 rfl rfl ?_
  refine g_icmp_ge 82 C dX9_row_60 (by decide) h (fun h => ?_) (fun h => ?_)
  · refine g_iconst C dX9_row_82 ?_
    cases h
    exact hret 83 _ dX9_row_83
  · refine g_aload_n 0 C dX9_row_63 rfl rfl ?_
    refine g_get C fg_X9_16 0 rfl rfl dX9_row_64 ?_
    refine g_bipush C dX9_row_67 (by decide) ?_
    refine g_iload_n 1 C dX9_row_69 rfl rfl ?_
    refine g_imul C dX9_row_70 ?_
    refine g_iload C dX9_row_71 rfl ?_
    refine g_iadd C dX9_row_73 ?_
    refine g_lconst (x := 0) C dX9_row_74 (by decide) ?_
    obtain ⟨hc1, h⟩ := chk_some h
    refine g_last C 1 rfl hc1 rfl (ws' := (W_X9_row (eCy E) a_t a_t_cells a_t_many a_t_width g_t_4 g_t_5 g_t_6 g_t_7 g_t_8 g_t_9 g_t_10 g_t_11 g_t_12 g_t_13 g_t_14 g_t_15 g_t_16 g_t_17 g_t_18 g_t_19 g_t_20 g_t_21 g_t_22 g_t_23 g_t_24 g_t_25 g_t_26 g_t_27 g_t_28 g_t_29 g_t_30 g_t_31 g_t_32 g_t_33 g_t_34 g_t_35 g_t_36 g_t_37 g_t_38 g_t_39 g_t_40 g_t_41 g_t_42 g_t_43 c_thrown (up c_cells ((60 * x1) + x4) 0) c_many c_width)) rfl dX9_row_75 ?_
    refine g_iinc C hN dX9_row_76 rfl rfl (L' := [some (.ref a_t), some (.int (wI x1)), none, some (.int (wI x3)), some (.int (wI (x4 + 1)))]) rfl ?_
    refine g_goto (tgt := 57) C dX9_row_79 (by decide) ?_
    exact hk57 _ _ h
set_option maxRecDepth 100000 in
set_option maxHeartbeats 4000000 in
theorem wl_X9_row_57 {F : Nat} {v : Int × Int × (Int → Int) × (Int → Int) × (Int → Int)} {x1 : Int} {x3 : Int} {x4 : Int} {c_thrown : Int} {c_cells : Int → Int} {c_many : Int → Int} {c_width : Int → Int} (C : Cx E cX9_row RX9 { frames := 2, cells := 0, slots := 0, locals := 45 }) (hN : eN E = 5) (h : ml_X9_row_57 F x1 x3 x4 c_thrown c_cells c_many c_width = some v) (hret : ∀ (pc : Nat) (L : List (Option Value)), decode cX9_row pc = .ok (.ireturn, 1) → GG E 0 0 (W_X9_row (eCy E) a_t a_t_cells a_t_many a_t_width g_t_4 g_t_5 g_t_6 g_t_7 g_t_8 g_t_9 g_t_10 g_t_11 g_t_12 g_t_13 g_t_14 g_t_15 g_t_16 g_t_17 g_t_18 g_t_19 g_t_20 g_t_21 g_t_22 g_t_23 g_t_24 g_t_25 g_t_26 g_t_27 g_t_28 g_t_29 g_t_30 g_t_31 g_t_32 g_t_33 g_t_34 g_t_35 g_t_36 g_t_37 g_t_38 g_t_39 g_t_40 g_t_41 g_t_42 g_t_43 (v.2.1) (v.2.2.1) (v.2.2.2.1) (v.2.2.2.2)) L pc [.int (wI (v.1))]) : GG E 0 0 (W_X9_row (eCy E) a_t a_t_cells a_t_many a_t_width g_t_4 g_t_5 g_t_6 g_t_7 g_t_8 g_t_9 g_t_10 g_t_11 g_t_12 g_t_13 g_t_14 g_t_15 g_t_16 g_t_17 g_t_18 g_t_19 g_t_20 g_t_21 g_t_22 g_t_23 g_t_24 g_t_25 g_t_26 g_t_27 g_t_28 g_t_29 g_t_30 g_t_31 g_t_32 g_t_33 g_t_34 g_t_35 g_t_36 g_t_37 g_t_38 g_t_39 g_t_40 g_t_41 g_t_42 g_t_43 c_thrown c_cells c_many c_width) [some (.ref a_t), some (.int (wI x1)), none, some (.int (wI x3)), some (.int (wI x4))] 57 [] := by
  unfold ml_X9_row_57 at h
  exact loop_walk (g := fun (q : Int × (Int → Int)) => GG E 0 0 (W_X9_row (eCy E) a_t a_t_cells a_t_many a_t_width g_t_4 g_t_5 g_t_6 g_t_7 g_t_8 g_t_9 g_t_10 g_t_11 g_t_12 g_t_13 g_t_14 g_t_15 g_t_16 g_t_17 g_t_18 g_t_19 g_t_20 g_t_21 g_t_22 g_t_23 g_t_24 g_t_25 g_t_26 g_t_27 g_t_28 g_t_29 g_t_30 g_t_31 g_t_32 g_t_33 g_t_34 g_t_35 g_t_36 g_t_37 g_t_38 g_t_39 g_t_40 g_t_41 g_t_42 g_t_43 c_thrown (q.2) c_many c_width) [some (.ref a_t), some (.int (wI x1)), none, some (.int (wI x3)), some (.int (wI (q.1)))] 57 []) (fun k hk q h => wb_X9_row_57 C hN h (fun y0 y1 hh => hk (y0, y1) hh) hret) F (x4, c_cells) h
set_option maxRecDepth 100000 in
set_option maxHeartbeats 4000000 in
theorem wm_X9_row {F : Nat} {v : Int × Int × (Int → Int) × (Int → Int) × (Int → Int)} {x1 : Int} {x2 : Int} {x3 : Int} {c_cells : Int → Int} {c_many : Int → Int} {c_width : Int → Int} {c_thrown : Int} (C : Cx E cX9_row RX9 { frames := 2, cells := 0, slots := 0, locals := 45 }) (hN : eN E = 5) (h : m_X9_row F x1 x2 x3 c_cells c_many c_width = some v) (hret : ∀ (pc : Nat) (L : List (Option Value)), decode cX9_row pc = .ok (.ireturn, 1) → GG E 0 0 (W_X9_row (eCy E) a_t a_t_cells a_t_many a_t_width g_t_4 g_t_5 g_t_6 g_t_7 g_t_8 g_t_9 g_t_10 g_t_11 g_t_12 g_t_13 g_t_14 g_t_15 g_t_16 g_t_17 g_t_18 g_t_19 g_t_20 g_t_21 g_t_22 g_t_23 g_t_24 g_t_25 g_t_26 g_t_27 g_t_28 g_t_29 g_t_30 g_t_31 g_t_32 g_t_33 g_t_34 g_t_35 g_t_36 g_t_37 g_t_38 g_t_39 g_t_40 g_t_41 g_t_42 g_t_43 (v.2.1) (v.2.2.1) (v.2.2.2.1) (v.2.2.2.2)) L pc [.int (wI (v.1))]) : GG E 0 0 (W_X9_row (eCy E) a_t a_t_cells a_t_many a_t_width g_t_4 g_t_5 g_t_6 g_t_7 g_t_8 g_t_9 g_t_10 g_t_11 g_t_12 g_t_13 g_t_14 g_t_15 g_t_16 g_t_17 g_t_18 g_t_19 g_t_20 g_t_21 g_t_22 g_t_23 g_t_24 g_t_25 g_t_26 g_t_27 g_t_28 g_t_29 g_t_30 g_t_31 g_t_32 g_t_33 g_t_34 g_t_35 g_t_36 g_t_37 g_t_38 g_t_39 g_t_40 g_t_41 g_t_42 g_t_43 c_thrown c_cells c_many c_width) [some (.ref a_t), some (.int (wI x1)), some (.int (wI x2)), some (.int (wI x3)), none] 0 [] := by
  unfold m_X9_row at h
  refine g_aload_n 0 C dX9_row_0 rfl rfl ?_
  refine g_iconst C dX9_row_1 ?_
  refine g_putI C fp_X9_71 0 rfl rfl (ws' := (W_X9_row (eCy E) a_t a_t_cells a_t_many a_t_width g_t_4 g_t_5 g_t_6 g_t_7 g_t_8 g_t_9 g_t_10 g_t_11 g_t_12 g_t_13 g_t_14 g_t_15 g_t_16 g_t_17 g_t_18 g_t_19 g_t_20 g_t_21 g_t_22 g_t_23 g_t_24 g_t_25 g_t_26 g_t_27 g_t_28 g_t_29 g_t_30 g_t_31 g_t_32 g_t_33 g_t_34 g_t_35 g_t_36 g_t_37 g_t_38 g_t_39 g_t_40 g_t_41 g_t_42 g_t_43 0 c_cells c_many c_width)) rfl dX9_row_2 ?_
  refine g_iload_n 1 C dX9_row_5 rfl rfl ?_
  obtain ⟨r1, hr2, h⟩ := bnd1_some h
  refine g_callSI [] [0, 1, 2, 3] [0, 1, 2, 3] C mt_X9_80 (c_X9_isSlot _ _ _ _ x1 F hr2) rfl rfl (ws2 := (W_X9_row (eCy E) a_t a_t_cells a_t_many a_t_width g_t_4 g_t_5 g_t_6 g_t_7 g_t_8 g_t_9 g_t_10 g_t_11 g_t_12 g_t_13 g_t_14 g_t_15 g_t_16 g_t_17 g_t_18 g_t_19 g_t_20 g_t_21 g_t_22 g_t_23 g_t_24 g_t_25 g_t_26 g_t_27 g_t_28 g_t_29 g_t_30 g_t_31 g_t_32 g_t_33 g_t_34 g_t_35 g_t_36 g_t_37 g_t_38 g_t_39 g_t_40 g_t_41 g_t_42 g_t_43 0 c_cells c_many c_width)) rfl rfl rfl (rest := []) rfl rfl rfl dX9_row_6 ?_
  refine g_if_eq 30 C dX9_row_9 (by decide) h (fun h => ?_) (fun h => ?_)
  · refine g_bipush C dX9_row_30 (by decide) ?_
    cases h
    exact hret 32 _ dX9_row_32
  · refine g_iload_n 2 C dX9_row_12 rfl rfl ?_
    obtain ⟨hc3, h⟩ := chk_some h
    refine g_i2l C dX9_row_13 hc3 ?_
    refine g_lconst (x := 0) C dX9_row_14 (by decide) ?_
    refine g_ldc2 (v := 3) C mc_X9_74 dX9_row_15 ?_
    obtain ⟨r4, hr5, h⟩ := bnd1_some h
    refine g_callSI [] [0, 1, 2, 3] [0, 1, 2, 3] C mt_X9_76 (c_X9_in _ _ _ _ x2 0 3 F hr5) rfl rfl (ws2 := (W_X9_row (eCy E) a_t a_t_cells a_t_many a_t_width g_t_4 g_t_5 g_t_6 g_t_7 g_t_8 g_t_9 g_t_10 g_t_11 g_t_12 g_t_13 g_t_14 g_t_15 g_t_16 g_t_17 g_t_18 g_t_19 g_t_20 g_t_21 g_t_22 g_t_23 g_t_24 g_t_25 g_t_26 g_t_27 g_t_28 g_t_29 g_t_30 g_t_31 g_t_32 g_t_33 g_t_34 g_t_35 g_t_36 g_t_37 g_t_38 g_t_39 g_t_40 g_t_41 g_t_42 g_t_43 0 c_cells c_many c_width)) rfl rfl rfl (rest := []) rfl rfl rfl dX9_row_18 ?_
    refine g_if_eq 30 C dX9_row_21 (by decide) h (fun h => ?_) (fun h => ?_)
    · refine g_bipush C dX9_row_30 (by decide) ?_
      cases h
      exact hret 32 _ dX9_row_32
    · refine g_iload_n 3 C dX9_row_24 rfl rfl ?_
      refine g_bipush C dX9_row_25 (by decide) ?_
      refine g_icmp_le 33 C dX9_row_27 (by decide) h (fun h => ?_) (fun h => ?_)
      · refine g_iload_n 3 C dX9_row_33 rfl rfl ?_
        refine g_if_ge 40 C dX9_row_34 (by decide) h (fun h => ?_) (fun h => ?_)
        · refine g_aload_n 0 C dX9_row_40 rfl rfl ?_
          refine g_get C fg_X9_7 0 rfl rfl dX9_row_41 ?_
          refine g_iload_n 1 C dX9_row_44 rfl rfl ?_
          refine g_iload_n 2 C dX9_row_45 rfl rfl ?_
          obtain ⟨hc6, h⟩ := chk_some h
          refine g_iast C 3 rfl hc6 rfl (ws' := (W_X9_row (eCy E) a_t a_t_cells a_t_many a_t_width g_t_4 g_t_5 g_t_6 g_t_7 g_t_8 g_t_9 g_t_10 g_t_11 g_t_12 g_t_13 g_t_14 g_t_15 g_t_16 g_t_17 g_t_18 g_t_19 g_t_20 g_t_21 g_t_22 g_t_23 g_t_24 g_t_25 g_t_26 g_t_27 g_t_28 g_t_29 g_t_30 g_t_31 g_t_32 g_t_33 g_t_34 g_t_35 g_t_36 g_t_37 g_t_38 g_t_39 g_t_40 g_t_41 g_t_42 g_t_43 0 c_cells c_many (up c_width x1 x2))) rfl dX9_row_46 ?_
          refine g_aload_n 0 C dX9_row_47 rfl rfl ?_
          refine g_get C fg_X9_13 0 rfl rfl dX9_row_48 ?_
          refine g_iload_n 1 C dX9_row_51 rfl rfl ?_
          refine g_iload_n 3 C dX9_row_52 rfl rfl ?_
          obtain ⟨hc7, h⟩ := chk_some h
          refine g_iast C 2 rfl hc7 rfl (ws' := (W_X9_row (eCy E) a_t a_t_cells a_t_many a_t_width g_t_4 g_t_5 g_t_6 g_t_7 g_t_8 g_t_9 g_t_10 g_t_11 g_t_12 g_t_13 g_t_14 g_t_15 g_t_16 g_t_17 g_t_18 g_t_19 g_t_20 g_t_21 g_t_22 g_t_23 g_t_24 g_t_25 g_t_26 g_t_27 g_t_28 g_t_29 g_t_30 g_t_31 g_t_32 g_t_33 g_t_34 g_t_35 g_t_36 g_t_37 g_t_38 g_t_39 g_t_40 g_t_41 g_t_42 g_t_43 0 c_cells (up c_many x1 x3) (up c_width x1 x2))) rfl dX9_row_53 ?_
          refine g_iconst C dX9_row_54 ?_
          refine g_istore C hN dX9_row_55 rfl (L' := [some (.ref a_t), some (.int (wI x1)), some (.int (wI x2)), some (.int (wI x3)), some (.int (wI 0))]) rfl ?_
          refine g_mask [true, true, false, true, true] (L' := [some (.ref a_t), some (.int (wI x1)), none, some (.int (wI x3)), some (.int (wI 0))]) rfl ?_
          exact wl_X9_row_57 C hN h hret
        · refine g_bipush C dX9_row_37 (by decide) ?_
          cases h
          exact hret 39 _ dX9_row_39
      · refine g_bipush C dX9_row_30 (by decide) ?_
        cases h
        exact hret 32 _ dX9_row_32
end S_X9_row
set_option maxRecDepth 100000 in
set_option maxHeartbeats 4000000 in
theorem c_X9_row (l : Launch) (D : va_G) (cy : Nat → ClassId) (ad : AD) (a_t a_t_cells a_t_many a_t_width : Nat) (g_t_4 : Value) (g_t_5 : Value) (g_t_6 : Value) (g_t_7 : Value) (g_t_8 : Value) (g_t_9 : Value) (g_t_10 : Value) (g_t_11 : Value) (g_t_12 : Value) (g_t_13 : Value) (g_t_14 : Value) (g_t_15 : Value) (g_t_16 : Value) (g_t_17 : Value) (g_t_18 : Value) (g_t_19 : Value) (g_t_20 : Value) (g_t_21 : Value) (g_t_22 : Value) (g_t_23 : Value) (g_t_24 : Value) (g_t_25 : Value) (g_t_26 : Value) (g_t_27 : Value) (g_t_28 : Value) (g_t_29 : Value) (g_t_30 : Value) (g_t_31 : Value) (g_t_32 : Value) (g_t_33 : Value) (g_t_34 : Value) (g_t_35 : Value) (g_t_36 : Value) (g_t_37 : Value) (g_t_38 : Value) (g_t_39 : Value) (g_t_40 : Value) (g_t_41 : Value) (g_t_42 : Value) (g_t_43 : Value) (x1 : Int) (x2 : Int) (x3 : Int) (c_thrown : Int) (c_cells : Int → Int) (c_many : Int → Int) (c_width : Int → Int) (F : Nat) {v : Int × Int × (Int → Int) × (Int → Int) × (Int → Int)} (h : m_X9_row F x1 x2 x3 c_cells c_many c_width = some v) : Ct l yX9_row cX9_row 5 (some .int) { frames := 2, cells := 0, slots := 0, locals := 45 } D cy ad [.ref a_t, .int (wI x1), .int (wI x2), .int (wI x3)] (W_X9_row cy a_t a_t_cells a_t_many a_t_width g_t_4 g_t_5 g_t_6 g_t_7 g_t_8 g_t_9 g_t_10 g_t_11 g_t_12 g_t_13 g_t_14 g_t_15 g_t_16 g_t_17 g_t_18 g_t_19 g_t_20 g_t_21 g_t_22 g_t_23 g_t_24 g_t_25 g_t_26 g_t_27 g_t_28 g_t_29 g_t_30 g_t_31 g_t_32 g_t_33 g_t_34 g_t_35 g_t_36 g_t_37 g_t_38 g_t_39 g_t_40 g_t_41 g_t_42 g_t_43 c_thrown c_cells c_many c_width) (W_X9_row cy a_t a_t_cells a_t_many a_t_width g_t_4 g_t_5 g_t_6 g_t_7 g_t_8 g_t_9 g_t_10 g_t_11 g_t_12 g_t_13 g_t_14 g_t_15 g_t_16 g_t_17 g_t_18 g_t_19 g_t_20 g_t_21 g_t_22 g_t_23 g_t_24 g_t_25 g_t_26 g_t_27 g_t_28 g_t_29 g_t_30 g_t_31 g_t_32 g_t_33 g_t_34 g_t_35 g_t_36 g_t_37 g_t_38 g_t_39 g_t_40 g_t_41 g_t_42 g_t_43 (v.2.1) (v.2.2.1) (v.2.2.2.1) (v.2.2.2.2)) (some (.int (wI (v.1)))) := by
  refine Ct.introI (j := 1) (plainFor_of_name (by decide)) rfl rfl (fun E C e1 e2 e3 e4 e5 hret => ?_)
  subst e1; subst e2; subst e3; subst e4
  exact wm_X9_row C e5 h hret
-- MovingStairModel.cut(JI)J
def W_X9_cut (cy : Nat → ClassId) : va_W := []
def m_X9_cut (F : Nat) (x0 : Int) (x2 : Int) : Option (Int) :=
  if wI x2 = wI 0 then
    (chk (r32 (b8 x0)) <| some (b8 x0))
  else
    (if wI x2 = wI 1 then
    (chk (r32 (b16 x0)) <| some (b16 x0))
  else
    (if wI x2 = wI 2 then
    (some (w32 x0))
  else
    (some x0)))
section S_X9_cut
variable {E : EE}
set_option maxRecDepth 100000 in
set_option maxHeartbeats 4000000 in
theorem wm_X9_cut {F : Nat} {v : Int} {x0 : Int} {x2 : Int} (C : Cx E cX9_cut RX9 { frames := 0, cells := 0, slots := 0, locals := 0 }) (hN : eN E = 3) (h : m_X9_cut F x0 x2 = some v) (hret : ∀ (pc : Nat) (L : List (Option Value)), decode cX9_cut pc = .ok (.lreturn, 1) → GG E 0 0 (W_X9_cut (eCy E)) L pc [.long (wJ v)]) : GG E 0 0 (W_X9_cut (eCy E)) [some (.long (wJ x0)), none, some (.int (wI x2))] 0 [] := by
  unfold m_X9_cut at h
  refine g_iload_n 2 C dX9_cut_0 rfl rfl ?_
  refine g_if_ne 11 C dX9_cut_1 (by decide) h (fun h => ?_) (fun h => ?_)
  · refine g_iload_n 2 C dX9_cut_11 rfl rfl ?_
    refine g_iconst C dX9_cut_12 ?_
    refine g_icmp_ne 23 C dX9_cut_13 (by decide) h (fun h => ?_) (fun h => ?_)
    · refine g_iload_n 2 C dX9_cut_23 rfl rfl ?_
      refine g_iconst C dX9_cut_24 ?_
      refine g_icmp_ne 34 C dX9_cut_25 (by decide) h (fun h => ?_) (fun h => ?_)
      · refine g_lload_n 0 C dX9_cut_34 rfl rfl ?_
        cases h
        exact hret 35 _ dX9_cut_35
      · refine g_lload_n 0 C dX9_cut_28 rfl rfl ?_
        refine g_l2i C dX9_cut_29 ?_
        refine g_i2lw C dX9_cut_30 ?_
        refine g_goto (tgt := 35) C dX9_cut_31 (by decide) ?_
        cases h
        exact hret 35 _ dX9_cut_35
    · refine g_lload_n 0 C dX9_cut_16 rfl rfl ?_
      refine g_l2i C dX9_cut_17 ?_
      refine g_i2s C dX9_cut_18 ?_
      obtain ⟨hc1, h⟩ := chk_some h
      refine g_i2l C dX9_cut_19 hc1 ?_
      refine g_goto (tgt := 35) C dX9_cut_20 (by decide) ?_
      cases h
      exact hret 35 _ dX9_cut_35
  · refine g_lload_n 0 C dX9_cut_4 rfl rfl ?_
    refine g_l2i C dX9_cut_5 ?_
    refine g_i2b C dX9_cut_6 ?_
    obtain ⟨hc1, h⟩ := chk_some h
    refine g_i2l C dX9_cut_7 hc1 ?_
    refine g_goto (tgt := 35) C dX9_cut_8 (by decide) ?_
    cases h
    exact hret 35 _ dX9_cut_35
end S_X9_cut
set_option maxRecDepth 100000 in
set_option maxHeartbeats 4000000 in
theorem c_X9_cut (l : Launch) (D : va_G) (cy : Nat → ClassId) (ad : AD) (x0 : Int) (x2 : Int) (F : Nat) {v : Int} (h : m_X9_cut F x0 x2 = some v) : Ct l yX9_cut cX9_cut 3 (some .long) { frames := 0, cells := 0, slots := 0, locals := 0 } D cy ad [.long (wJ x0), .int (wI x2)] (W_X9_cut cy) (W_X9_cut cy) (some (.long (wJ v))) := by
  refine Ct.introJ (j := 0) (plainFor_of_name (by decide)) rfl rfl (fun E C e1 e2 e3 e4 e5 hret => ?_)
  subst e1; subst e2; subst e3; subst e4
  exact wm_X9_cut C e5 h hret
-- MovingStairModel.write(IIJ)I
def W_X9_write (cy : Nat → ClassId) (a_t a_t_cells a_t_many a_t_width : Nat) (g_t_4 : Value) (g_t_5 : Value) (g_t_6 : Value) (g_t_7 : Value) (g_t_8 : Value) (g_t_9 : Value) (g_t_10 : Value) (g_t_11 : Value) (g_t_12 : Value) (g_t_13 : Value) (g_t_14 : Value) (g_t_15 : Value) (g_t_16 : Value) (g_t_17 : Value) (g_t_18 : Value) (g_t_19 : Value) (g_t_20 : Value) (g_t_21 : Value) (g_t_22 : Value) (g_t_23 : Value) (g_t_24 : Value) (g_t_25 : Value) (g_t_26 : Value) (g_t_27 : Value) (g_t_28 : Value) (g_t_29 : Value) (g_t_30 : Value) (g_t_31 : Value) (g_t_32 : Value) (g_t_33 : Value) (g_t_34 : Value) (g_t_35 : Value) (g_t_36 : Value) (g_t_37 : Value) (g_t_38 : Value) (g_t_39 : Value) (g_t_40 : Value) (g_t_41 : Value) (g_t_42 : Value) (g_t_43 : Value) (c_thrown : Int) (c_cells : Int → Int) (c_many : Int → Int) (c_width : Int → Int) : va_W := [(a_t, .inr (9, [.int (wI c_thrown), .ref a_t_width, .ref a_t_many, .ref a_t_cells, g_t_4, g_t_5, g_t_6, g_t_7, g_t_8, g_t_9, g_t_10, g_t_11, g_t_12, g_t_13, g_t_14, g_t_15, g_t_16, g_t_17, g_t_18, g_t_19, g_t_20, g_t_21, g_t_22, g_t_23, g_t_24, g_t_25, g_t_26, g_t_27, g_t_28, g_t_29, g_t_30, g_t_31, g_t_32, g_t_33, g_t_34, g_t_35, g_t_36, g_t_37, g_t_38, g_t_39, g_t_40, g_t_41, g_t_42, g_t_43])), (a_t_cells, .inl (cy 2, 240, .inr (.inl (aJ c_cells)))), (a_t_many, .inl (cy 1, 4, .inl (aI c_many))), (a_t_width, .inl (cy 1, 4, .inl (aI c_width)))]
def m_X9_write (F : Nat) (x1 : Int) (x2 : Int) (x3 : Int) (c_cells : Int → Int) (c_many : Int → Int) (c_width : Int → Int) : Option (Int × Int × (Int → Int)) :=
  bnd1 (m_X9_isSlot F x1) fun r1 => if wI r1 = wI 0 then
    (some ((-2), 0, c_cells))
  else
    (chk (0 ≤ x1 ∧ x1 < 4) <| if wI (c_width x1) = wI (-1) then
    (some ((-6), 0, c_cells))
  else
    (chk (r32 x2) <| chk (0 ≤ x1 ∧ x1 < 4) <| chk (r32 ((c_many x1) - 1)) <| bnd1 (m_X9_in F x2 0 ((c_many x1) - 1)) fun r7 => if wI r7 = wI 0 then
    (some ((-7), 0, c_cells))
  else
    (chk (0 ≤ x1 ∧ x1 < 4) <| bnd1 (m_X9_cut F x3 (c_width x1)) fun r10 => chk (0 ≤ ((60 * x1) + x2) ∧ ((60 * x1) + x2) < 240) <| some (0, 0, up c_cells ((60 * x1) + x2) r10))))
section S_X9_write
variable {E : EE} {a_t a_t_cells a_t_many a_t_width : Nat} {g_t_4 : Value} {g_t_5 : Value} {g_t_6 : Value} {g_t_7 : Value} {g_t_8 : Value} {g_t_9 : Value} {g_t_10 : Value} {g_t_11 : Value} {g_t_12 : Value} {g_t_13 : Value} {g_t_14 : Value} {g_t_15 : Value} {g_t_16 : Value} {g_t_17 : Value} {g_t_18 : Value} {g_t_19 : Value} {g_t_20 : Value} {g_t_21 : Value} {g_t_22 : Value} {g_t_23 : Value} {g_t_24 : Value} {g_t_25 : Value} {g_t_26 : Value} {g_t_27 : Value} {g_t_28 : Value} {g_t_29 : Value} {g_t_30 : Value} {g_t_31 : Value} {g_t_32 : Value} {g_t_33 : Value} {g_t_34 : Value} {g_t_35 : Value} {g_t_36 : Value} {g_t_37 : Value} {g_t_38 : Value} {g_t_39 : Value} {g_t_40 : Value} {g_t_41 : Value} {g_t_42 : Value} {g_t_43 : Value}
set_option maxRecDepth 100000 in
set_option maxHeartbeats 4000000 in
theorem wm_X9_write {F : Nat} {v : Int × Int × (Int → Int)} {x1 : Int} {x2 : Int} {x3 : Int} {c_cells : Int → Int} {c_many : Int → Int} {c_width : Int → Int} {c_thrown : Int} (C : Cx E cX9_write RX9 { frames := 2, cells := 0, slots := 0, locals := 45 }) (hN : eN E = 5) (h : m_X9_write F x1 x2 x3 c_cells c_many c_width = some v) (hret : ∀ (pc : Nat) (L : List (Option Value)), decode cX9_write pc = .ok (.ireturn, 1) → GG E 0 0 (W_X9_write (eCy E) a_t a_t_cells a_t_many a_t_width g_t_4 g_t_5 g_t_6 g_t_7 g_t_8 g_t_9 g_t_10 g_t_11 g_t_12 g_t_13 g_t_14 g_t_15 g_t_16 g_t_17 g_t_18 g_t_19 g_t_20 g_t_21 g_t_22 g_t_23 g_t_24 g_t_25 g_t_26 g_t_27 g_t_28 g_t_29 g_t_30 g_t_31 g_t_32 g_t_33 g_t_34 g_t_35 g_t_36 g_t_37 g_t_38 g_t_39 g_t_40 g_t_41 g_t_42 g_t_43 (v.2.1) (v.2.2) c_many c_width) L pc [.int (wI (v.1))]) : GG E 0 0 (W_X9_write (eCy E) a_t a_t_cells a_t_many a_t_width g_t_4 g_t_5 g_t_6 g_t_7 g_t_8 g_t_9 g_t_10 g_t_11 g_t_12 g_t_13 g_t_14 g_t_15 g_t_16 g_t_17 g_t_18 g_t_19 g_t_20 g_t_21 g_t_22 g_t_23 g_t_24 g_t_25 g_t_26 g_t_27 g_t_28 g_t_29 g_t_30 g_t_31 g_t_32 g_t_33 g_t_34 g_t_35 g_t_36 g_t_37 g_t_38 g_t_39 g_t_40 g_t_41 g_t_42 g_t_43 c_thrown c_cells c_many c_width) [some (.ref a_t), some (.int (wI x1)), some (.int (wI x2)), some (.long (wJ x3)), none] 0 [] := by
  unfold m_X9_write at h
  refine g_aload_n 0 C dX9_write_0 rfl rfl ?_
  refine g_iconst C dX9_write_1 ?_
  refine g_putI C fp_X9_71 0 rfl rfl (ws' := (W_X9_write (eCy E) a_t a_t_cells a_t_many a_t_width g_t_4 g_t_5 g_t_6 g_t_7 g_t_8 g_t_9 g_t_10 g_t_11 g_t_12 g_t_13 g_t_14 g_t_15 g_t_16 g_t_17 g_t_18 g_t_19 g_t_20 g_t_21 g_t_22 g_t_23 g_t_24 g_t_25 g_t_26 g_t_27 g_t_28 g_t_29 g_t_30 g_t_31 g_t_32 g_t_33 g_t_34 g_t_35 g_t_36 g_t_37 g_t_38 g_t_39 g_t_40 g_t_41 g_t_42 g_t_43 0 c_cells c_many c_width)) rfl dX9_write_2 ?_
  refine g_iload_n 1 C dX9_write_5 rfl rfl ?_
  obtain ⟨r1, hr2, h⟩ := bnd1_some h
  refine g_callSI [] [0, 1, 2, 3] [0, 1, 2, 3] C mt_X9_80 (c_X9_isSlot _ _ _ _ x1 F hr2) rfl rfl (ws2 := (W_X9_write (eCy E) a_t a_t_cells a_t_many a_t_width g_t_4 g_t_5 g_t_6 g_t_7 g_t_8 g_t_9 g_t_10 g_t_11 g_t_12 g_t_13 g_t_14 g_t_15 g_t_16 g_t_17 g_t_18 g_t_19 g_t_20 g_t_21 g_t_22 g_t_23 g_t_24 g_t_25 g_t_26 g_t_27 g_t_28 g_t_29 g_t_30 g_t_31 g_t_32 g_t_33 g_t_34 g_t_35 g_t_36 g_t_37 g_t_38 g_t_39 g_t_40 g_t_41 g_t_42 g_t_43 0 c_cells c_many c_width)) rfl rfl rfl (rest := []) rfl rfl rfl dX9_write_6 ?_
  refine g_if_ne 15 C dX9_write_9 (by decide) h (fun h => ?_) (fun h => ?_)
  · refine g_aload_n 0 C dX9_write_15 rfl rfl ?_
    refine g_get C fg_X9_7 0 rfl rfl dX9_write_16 ?_
    refine g_iload_n 1 C dX9_write_19 rfl rfl ?_
    obtain ⟨hc3, h⟩ := chk_some h
    refine g_iald C 3 rfl hc3 rfl dX9_write_20 ?_
    refine g_iconst C dX9_write_21 ?_
    refine g_icmp_ne 28 C dX9_write_22 (by decide) h (fun h => ?_) (fun h => ?_)
    · refine g_iload_n 2 C dX9_write_28 rfl rfl ?_
      obtain ⟨hc4, h⟩ := chk_some h
      refine g_i2l C dX9_write_29 hc4 ?_
      refine g_lconst (x := 0) C dX9_write_30 (by decide) ?_
      refine g_aload_n 0 C dX9_write_31 rfl rfl ?_
      refine g_get C fg_X9_13 0 rfl rfl dX9_write_32 ?_
      refine g_iload_n 1 C dX9_write_35 rfl rfl ?_
      obtain ⟨hc5, h⟩ := chk_some h
      refine g_iald C 2 rfl hc5 rfl dX9_write_36 ?_
      refine g_iconst C dX9_write_37 ?_
      refine g_isub C dX9_write_38 ?_
      obtain ⟨hc6, h⟩ := chk_some h
      refine g_i2l C dX9_write_39 hc6 ?_
      obtain ⟨r7, hr8, h⟩ := bnd1_some h
      refine g_callSI [] [0, 1, 2, 3] [0, 1, 2, 3] C mt_X9_76 (c_X9_in _ _ _ _ x2 0 ((c_many x1) - 1) F hr8) rfl rfl (ws2 := (W_X9_write (eCy E) a_t a_t_cells a_t_many a_t_width g_t_4 g_t_5 g_t_6 g_t_7 g_t_8 g_t_9 g_t_10 g_t_11 g_t_12 g_t_13 g_t_14 g_t_15 g_t_16 g_t_17 g_t_18 g_t_19 g_t_20 g_t_21 g_t_22 g_t_23 g_t_24 g_t_25 g_t_26 g_t_27 g_t_28 g_t_29 g_t_30 g_t_31 g_t_32 g_t_33 g_t_34 g_t_35 g_t_36 g_t_37 g_t_38 g_t_39 g_t_40 g_t_41 g_t_42 g_t_43 0 c_cells c_many c_width)) rfl rfl rfl (rest := []) rfl rfl rfl dX9_write_40 ?_
      refine g_if_ne 49 C dX9_write_43 (by decide) h (fun h => ?_) (fun h => ?_)
      · refine g_aload_n 0 C dX9_write_49 rfl rfl ?_
        refine g_get C fg_X9_16 0 rfl rfl dX9_write_50 ?_
        refine g_bipush C dX9_write_53 (by decide) ?_
        refine g_iload_n 1 C dX9_write_55 rfl rfl ?_
        refine g_imul C dX9_write_56 ?_
        refine g_iload_n 2 C dX9_write_57 rfl rfl ?_
        refine g_iadd C dX9_write_58 ?_
        refine g_lload_n 3 C dX9_write_59 rfl rfl ?_
        refine g_aload_n 0 C dX9_write_60 rfl rfl ?_
        refine g_get C fg_X9_7 0 rfl rfl dX9_write_61 ?_
        refine g_iload_n 1 C dX9_write_64 rfl rfl ?_
        obtain ⟨hc9, h⟩ := chk_some h
        refine g_iald C 3 rfl hc9 rfl dX9_write_65 ?_
        obtain ⟨r10, hr11, h⟩ := bnd1_some h
        refine g_callSJ [] [0, 1, 2, 3] [0, 1, 2, 3] C mt_X9_84 (c_X9_cut _ _ _ _ x3 (c_width x1) F hr11) rfl rfl (ws2 := (W_X9_write (eCy E) a_t a_t_cells a_t_many a_t_width g_t_4 g_t_5 g_t_6 g_t_7 g_t_8 g_t_9 g_t_10 g_t_11 g_t_12 g_t_13 g_t_14 g_t_15 g_t_16 g_t_17 g_t_18 g_t_19 g_t_20 g_t_21 g_t_22 g_t_23 g_t_24 g_t_25 g_t_26 g_t_27 g_t_28 g_t_29 g_t_30 g_t_31 g_t_32 g_t_33 g_t_34 g_t_35 g_t_36 g_t_37 g_t_38 g_t_39 g_t_40 g_t_41 g_t_42 g_t_43 0 c_cells c_many c_width)) rfl rfl rfl (rest := [.int (wI ((60 * x1) + x2)), .ref a_t_cells]) rfl rfl rfl dX9_write_66 ?_
        obtain ⟨hc12, h⟩ := chk_some h
        refine g_last C 1 rfl hc12 rfl (ws' := (W_X9_write (eCy E) a_t a_t_cells a_t_many a_t_width g_t_4 g_t_5 g_t_6 g_t_7 g_t_8 g_t_9 g_t_10 g_t_11 g_t_12 g_t_13 g_t_14 g_t_15 g_t_16 g_t_17 g_t_18 g_t_19 g_t_20 g_t_21 g_t_22 g_t_23 g_t_24 g_t_25 g_t_26 g_t_27 g_t_28 g_t_29 g_t_30 g_t_31 g_t_32 g_t_33 g_t_34 g_t_35 g_t_36 g_t_37 g_t_38 g_t_39 g_t_40 g_t_41 g_t_42 g_t_43 0 (up c_cells ((60 * x1) + x2) r10) c_many c_width)) rfl dX9_write_69 ?_
        refine g_iconst C dX9_write_70 ?_
        cases h
        exact hret 71 _ dX9_write_71
      · refine g_bipush C dX9_write_46 (by decide) ?_
        cases h
        exact hret 48 _ dX9_write_48
    · refine g_bipush C dX9_write_25 (by decide) ?_
      cases h
      exact hret 27 _ dX9_write_27
  · refine g_bipush C dX9_write_12 (by decide) ?_
    cases h
    exact hret 14 _ dX9_write_14
end S_X9_write
set_option maxRecDepth 100000 in
set_option maxHeartbeats 4000000 in
theorem c_X9_write (l : Launch) (D : va_G) (cy : Nat → ClassId) (ad : AD) (a_t a_t_cells a_t_many a_t_width : Nat) (g_t_4 : Value) (g_t_5 : Value) (g_t_6 : Value) (g_t_7 : Value) (g_t_8 : Value) (g_t_9 : Value) (g_t_10 : Value) (g_t_11 : Value) (g_t_12 : Value) (g_t_13 : Value) (g_t_14 : Value) (g_t_15 : Value) (g_t_16 : Value) (g_t_17 : Value) (g_t_18 : Value) (g_t_19 : Value) (g_t_20 : Value) (g_t_21 : Value) (g_t_22 : Value) (g_t_23 : Value) (g_t_24 : Value) (g_t_25 : Value) (g_t_26 : Value) (g_t_27 : Value) (g_t_28 : Value) (g_t_29 : Value) (g_t_30 : Value) (g_t_31 : Value) (g_t_32 : Value) (g_t_33 : Value) (g_t_34 : Value) (g_t_35 : Value) (g_t_36 : Value) (g_t_37 : Value) (g_t_38 : Value) (g_t_39 : Value) (g_t_40 : Value) (g_t_41 : Value) (g_t_42 : Value) (g_t_43 : Value) (x1 : Int) (x2 : Int) (x3 : Int) (c_thrown : Int) (c_cells : Int → Int) (c_many : Int → Int) (c_width : Int → Int) (F : Nat) {v : Int × Int × (Int → Int)} (h : m_X9_write F x1 x2 x3 c_cells c_many c_width = some v) : Ct l yX9_write cX9_write 5 (some .int) { frames := 2, cells := 0, slots := 0, locals := 45 } D cy ad [.ref a_t, .int (wI x1), .int (wI x2), .long (wJ x3)] (W_X9_write cy a_t a_t_cells a_t_many a_t_width g_t_4 g_t_5 g_t_6 g_t_7 g_t_8 g_t_9 g_t_10 g_t_11 g_t_12 g_t_13 g_t_14 g_t_15 g_t_16 g_t_17 g_t_18 g_t_19 g_t_20 g_t_21 g_t_22 g_t_23 g_t_24 g_t_25 g_t_26 g_t_27 g_t_28 g_t_29 g_t_30 g_t_31 g_t_32 g_t_33 g_t_34 g_t_35 g_t_36 g_t_37 g_t_38 g_t_39 g_t_40 g_t_41 g_t_42 g_t_43 c_thrown c_cells c_many c_width) (W_X9_write cy a_t a_t_cells a_t_many a_t_width g_t_4 g_t_5 g_t_6 g_t_7 g_t_8 g_t_9 g_t_10 g_t_11 g_t_12 g_t_13 g_t_14 g_t_15 g_t_16 g_t_17 g_t_18 g_t_19 g_t_20 g_t_21 g_t_22 g_t_23 g_t_24 g_t_25 g_t_26 g_t_27 g_t_28 g_t_29 g_t_30 g_t_31 g_t_32 g_t_33 g_t_34 g_t_35 g_t_36 g_t_37 g_t_38 g_t_39 g_t_40 g_t_41 g_t_42 g_t_43 (v.2.1) (v.2.2) c_many c_width) (some (.int (wI (v.1)))) := by
  refine Ct.introI (j := 0) (plainFor_of_name (by decide)) rfl rfl (fun E C e1 e2 e3 e4 e5 hret => ?_)
  subst e1; subst e2; subst e3; subst e4
  exact wm_X9_write C e5 h hret
-- MovingStairModel.paste(IIIII)I
def W_X9_paste (cy : Nat → ClassId) (a_t a_t_cells a_t_many a_t_moved a_t_width : Nat) (g_t_5 : Value) (g_t_6 : Value) (g_t_7 : Value) (g_t_8 : Value) (g_t_9 : Value) (g_t_10 : Value) (g_t_11 : Value) (g_t_12 : Value) (g_t_13 : Value) (g_t_14 : Value) (g_t_15 : Value) (g_t_16 : Value) (g_t_17 : Value) (g_t_18 : Value) (g_t_19 : Value) (g_t_20 : Value) (g_t_21 : Value) (g_t_22 : Value) (g_t_23 : Value) (g_t_24 : Value) (g_t_25 : Value) (g_t_26 : Value) (g_t_27 : Value) (g_t_28 : Value) (g_t_29 : Value) (g_t_30 : Value) (g_t_31 : Value) (g_t_32 : Value) (g_t_33 : Value) (g_t_34 : Value) (g_t_35 : Value) (g_t_36 : Value) (g_t_37 : Value) (g_t_38 : Value) (g_t_39 : Value) (g_t_40 : Value) (g_t_41 : Value) (g_t_42 : Value) (g_t_43 : Value) (c_thrown : Int) (c_cells : Int → Int) (c_many : Int → Int) (c_moved : Int → Int) (c_width : Int → Int) : va_W := [(a_t, .inr (9, [.int (wI c_thrown), .ref a_t_width, .ref a_t_many, .ref a_t_cells, .ref a_t_moved, g_t_5, g_t_6, g_t_7, g_t_8, g_t_9, g_t_10, g_t_11, g_t_12, g_t_13, g_t_14, g_t_15, g_t_16, g_t_17, g_t_18, g_t_19, g_t_20, g_t_21, g_t_22, g_t_23, g_t_24, g_t_25, g_t_26, g_t_27, g_t_28, g_t_29, g_t_30, g_t_31, g_t_32, g_t_33, g_t_34, g_t_35, g_t_36, g_t_37, g_t_38, g_t_39, g_t_40, g_t_41, g_t_42, g_t_43])), (a_t_cells, .inl (cy 2, 240, .inr (.inl (aJ c_cells)))), (a_t_many, .inl (cy 1, 4, .inl (aI c_many))), (a_t_moved, .inl (cy 2, 60, .inr (.inl (aJ c_moved)))), (a_t_width, .inl (cy 1, 4, .inl (aI c_width)))]
def mb_X9_paste_155 (F : Nat) (k155 : Int → (Int → Int) → Option (Int × Int × (Int → Int) × (Int → Int))) (x3 : Int) (x4 : Int) (x5 : Int) (x6 : Int) (c_thrown : Int) (c_cells : Int → Int) (c_moved : Int → Int) : Option (Int × Int × (Int → Int) × (Int → Int)) :=
  if wI x5 ≤ wI x6 then
    (some (0, c_thrown, c_cells, c_moved))
  else
    (chk (0 ≤ x6 ∧ x6 < 60) <| nam (c_moved x6) fun y2 => chk (0 ≤ (((60 * x3) + x4) + x6) ∧ (((60 * x3) + x4) + x6) < 240) <| k155 (x6 + 1) (up c_cells (((60 * x3) + x4) + x6) y2))
def ml_X9_paste_155 (F : Nat) (x3 : Int) (x4 : Int) (x5 : Int) (x6 : Int) (c_thrown : Int) (c_cells : Int → Int) (c_moved : Int → Int) : Option (Int × Int × (Int → Int) × (Int → Int)) :=
  loopN (fun (k : Int × (Int → Int) → Option (Int × Int × (Int → Int) × (Int → Int))) q => mb_X9_paste_155 F (fun y0 y1 => k (y0, y1)) x3 x4 x5 q.1 c_thrown q.2 c_moved) F (x6, c_cells)
def mb_X9_paste_118 (F : Nat) (k118 : Int → (Int → Int) → Option (Int × Int × (Int → Int) × (Int → Int))) (x1 : Int) (x2 : Int) (x3 : Int) (x4 : Int) (x5 : Int) (x6 : Int) (c_thrown : Int) (c_cells : Int → Int) (c_moved : Int → Int) : Option (Int × Int × (Int → Int) × (Int → Int)) :=
  if wI x5 ≤ wI x6 then
    (ml_X9_paste_155 F x3 x4 x5 0 c_thrown c_cells c_moved)
  else
    (chk (0 ≤ (((60 * x1) + x2) + x6) ∧ (((60 * x1) + x2) + x6) < 240) <| nam (c_cells (((60 * x1) + x2) + x6)) fun y2 => chk (0 ≤ x6 ∧ x6 < 60) <| k118 (x6 + 1) (up c_moved x6 y2))
def ml_X9_paste_118 (F : Nat) (x1 : Int) (x2 : Int) (x3 : Int) (x4 : Int) (x5 : Int) (x6 : Int) (c_thrown : Int) (c_cells : Int → Int) (c_moved : Int → Int) : Option (Int × Int × (Int → Int) × (Int → Int)) :=
  loopN (fun (k : Int × (Int → Int) → Option (Int × Int × (Int → Int) × (Int → Int))) q => mb_X9_paste_118 F (fun y0 y1 => k (y0, y1)) x1 x2 x3 x4 x5 q.1 c_thrown c_cells q.2) F (x6, c_moved)
def m_X9_paste (F : Nat) (x1 : Int) (x2 : Int) (x3 : Int) (x4 : Int) (x5 : Int) (c_cells : Int → Int) (c_many : Int → Int) (c_moved : Int → Int) (c_width : Int → Int) : Option (Int × Int × (Int → Int) × (Int → Int)) :=
  bnd1 (m_X9_isSlot F x1) fun r1 => if wI r1 = wI 0 then
    (some ((-2), 0, c_cells, c_moved))
  else
    (bnd1 (m_X9_isSlot F x3) fun r3 => if wI r3 = wI 0 then
    (some ((-2), 0, c_cells, c_moved))
  else
    (chk (0 ≤ x1 ∧ x1 < 4) <| if wI (c_width x1) = wI (-1) then
    (some ((-6), 0, c_cells, c_moved))
  else
    (chk (0 ≤ x3 ∧ x3 < 4) <| if wI (c_width x3) = wI (-1) then
    (some ((-6), 0, c_cells, c_moved))
  else
    (chk (0 ≤ x1 ∧ x1 < 4) <| chk (0 ≤ x3 ∧ x3 < 4) <| if wI (c_width x1) = wI (c_width x3) then
    (if wI x2 < wI 0 then
    (some ((-7), 0, c_cells, c_moved))
  else
    (if wI x4 < wI 0 then
    (some ((-7), 0, c_cells, c_moved))
  else
    (if wI x5 < wI 0 then
    (some ((-7), 0, c_cells, c_moved))
  else
    (chk (r32 x2) <| chk (r32 x5) <| chk (0 ≤ x1 ∧ x1 < 4) <| chk (r32 (c_many x1)) <| if wJ (c_many x1) < wJ (x2 + x5) then
    (some ((-7), 0, c_cells, c_moved))
  else
    (chk (r32 x4) <| chk (r32 x5) <| chk (0 ≤ x3 ∧ x3 < 4) <| chk (r32 (c_many x3)) <| if wJ (x4 + x5) ≤ wJ (c_many x3) then
    (ml_X9_paste_118 F x1 x2 x3 x4 x5 0 0 c_cells c_moved)
  else
    (some ((-7), 0, c_cells, c_moved)))))))
  else
    (some ((-8), 0, c_cells, c_moved))))))
section S_X9_paste
variable {E : EE} {a_t a_t_cells a_t_many a_t_moved a_t_width : Nat} {g_t_5 : Value} {g_t_6 : Value} {g_t_7 : Value} {g_t_8 : Value} {g_t_9 : Value} {g_t_10 : Value} {g_t_11 : Value} {g_t_12 : Value} {g_t_13 : Value} {g_t_14 : Value} {g_t_15 : Value} {g_t_16 : Value} {g_t_17 : Value} {g_t_18 : Value} {g_t_19 : Value} {g_t_20 : Value} {g_t_21 : Value} {g_t_22 : Value} {g_t_23 : Value} {g_t_24 : Value} {g_t_25 : Value} {g_t_26 : Value} {g_t_27 : Value} {g_t_28 : Value} {g_t_29 : Value} {g_t_30 : Value} {g_t_31 : Value} {g_t_32 : Value} {g_t_33 : Value} {g_t_34 : Value} {g_t_35 : Value} {g_t_36 : Value} {g_t_37 : Value} {g_t_38 : Value} {g_t_39 : Value} {g_t_40 : Value} {g_t_41 : Value} {g_t_42 : Value} {g_t_43 : Value}
set_option maxRecDepth 100000 in
set_option maxHeartbeats 4000000 in
theorem wb_X9_paste_155 {F : Nat} {k155 : Int → (Int → Int) → Option (Int × Int × (Int → Int) × (Int → Int))} {v : Int × Int × (Int → Int) × (Int → Int)} {x3 : Int} {x4 : Int} {x5 : Int} {x6 : Int} {c_thrown : Int} {c_cells : Int → Int} {c_moved : Int → Int} {c_many : Int → Int} {c_width : Int → Int} (C : Cx E cX9_paste RX9 { frames := 2, cells := 0, slots := 0, locals := 45 }) (hN : eN E = 7) (h : mb_X9_paste_155 F k155 x3 x4 x5 x6 c_thrown c_cells c_moved = some v) (hk155 : ∀ (y_x6 : Int) (y_c_cells : Int → Int), k155 y_x6 y_c_cells = some v → GG E 0 0 (W_X9_paste (eCy E) a_t a_t_cells a_t_many a_t_moved a_t_width g_t_5 g_t_6 g_t_7 g_t_8 g_t_9 g_t_10 g_t_11 g_t_12 g_t_13 g_t_14 g_t_15 g_t_16 g_t_17 g_t_18 g_t_19 g_t_20 g_t_21 g_t_22 g_t_23 g_t_24 g_t_25 g_t_26 g_t_27 g_t_28 g_t_29 g_t_30 g_t_31 g_t_32 g_t_33 g_t_34 g_t_35 g_t_36 g_t_37 g_t_38 g_t_39 g_t_40 g_t_41 g_t_42 g_t_43 c_thrown y_c_cells c_many c_moved c_width) [some (.ref a_t), none, none, some (.int (wI x3)), some (.int (wI x4)), some (.int (wI x5)), some (.int (wI y_x6))] 155 []) (hret : ∀ (pc : Nat) (L : List (Option Value)), decode cX9_paste pc = .ok (.ireturn, 1) → GG E 0 0 (W_X9_paste (eCy E) a_t a_t_cells a_t_many a_t_moved a_t_width g_t_5 g_t_6 g_t_7 g_t_8 g_t_9 g_t_10 g_t_11 g_t_12 g_t_13 g_t_14 g_t_15 g_t_16 g_t_17 g_t_18 g_t_19 g_t_20 g_t_21 g_t_22 g_t_23 g_t_24 g_t_25 g_t_26 g_t_27 g_t_28 g_t_29 g_t_30 g_t_31 g_t_32 g_t_33 g_t_34 g_t_35 g_t_36 g_t_37 g_t_38 g_t_39 g_t_40 g_t_41 g_t_42 g_t_43 (v.2.1) (v.2.2.1) c_many (v.2.2.2) c_width) L pc [.int (wI (v.1))]) : GG E 0 0 (W_X9_paste (eCy E) a_t a_t_cells a_t_many a_t_moved a_t_width g_t_5 g_t_6 g_t_7 g_t_8 g_t_9 g_t_10 g_t_11 g_t_12 g_t_13 g_t_14 g_t_15 g_t_16 g_t_17 g_t_18 g_t_19 g_t_20 g_t_21 g_t_22 g_t_23 g_t_24 g_t_25 g_t_26 g_t_27 g_t_28 g_t_29 g_t_30 g_t_31 g_t_32 g_t_33 g_t_34 g_t_35 g_t_36 g_t_37 g_t_38 g_t_39 g_t_40 g_t_41 g_t_42 g_t_43 c_thrown c_cells c_many c_moved c_width) [some (.ref a_t), none, none, some (.int (wI x3)), some (.int (wI x4)), some (.int (wI x5)), some (.int (wI x6))] 155 [] := by
  unfold mb_X9_paste_155 at h
  refine g_iload C dX9_paste_155 rfl ?_
  refine g_iload C dX9_paste_157 rfl ?_
  refine g_icmp_ge 190 C dX9_paste_159 (by decide) h (fun h => ?_) (fun h => ?_)
  · refine g_iconst C dX9_paste_190 ?_
    cases h
    exact hret 191 _ dX9_paste_191
  · refine g_aload_n 0 C dX9_paste_162 rfl rfl ?_
    refine g_get C fg_X9_16 0 rfl rfl dX9_paste_163 ?_
    refine g_bipush C dX9_paste_166 (by decide) ?_
    refine g_iload_n 3 C dX9_paste_168 rfl rfl ?_
    refine g_imul C dX9_paste_169 ?_
    refine g_iload C dX9_paste_170 rfl ?_
    refine g_iadd C dX9_paste_172 ?_
    refine g_iload C dX9_paste_173 rfl ?_
    refine g_iadd C dX9_paste_175 ?_
    refine g_aload_n 0 C dX9_paste_176 rfl rfl ?_
    refine g_get C fg_X9_20 0 rfl rfl dX9_paste_177 ?_
    refine g_iload C dX9_paste_180 rfl ?_
    obtain ⟨hc1, h⟩ := chk_some h
    refine g_lald C 3 rfl hc1 rfl dX9_paste_182 ?_
    obtain ⟨y2, e_y2, h⟩ := nam_some h
    refine g_topJ e_y2 ?_
    obtain ⟨hc3, h⟩ := chk_some h
    refine g_last C 1 rfl hc3 rfl (ws' := (W_X9_paste (eCy E) a_t a_t_cells a_t_many a_t_moved a_t_width g_t_5 g_t_6 g_t_7 g_t_8 g_t_9 g_t_10 g_t_11 g_t_12 g_t_13 g_t_14 g_t_15 g_t_16 g_t_17 g_t_18 g_t_19 g_t_20 g_t_21 g_t_22 g_t_23 g_t_24 g_t_25 g_t_26 g_t_27 g_t_28 g_t_29 g_t_30 g_t_31 g_t_32 g_t_33 g_t_34 g_t_35 g_t_36 g_t_37 g_t_38 g_t_39 g_t_40 g_t_41 g_t_42 g_t_43 c_thrown (up c_cells (((60 * x3) + x4) + x6) y2) c_many c_moved c_width)) rfl dX9_paste_183 ?_
    refine g_iinc C hN dX9_paste_184 rfl rfl (L' := [some (.ref a_t), none, none, some (.int (wI x3)), some (.int (wI x4)), some (.int (wI x5)), some (.int (wI (x6 + 1)))]) rfl ?_
    refine g_goto (tgt := 155) C dX9_paste_187 (by decide) ?_
    exact hk155 _ _ h
set_option maxRecDepth 100000 in
set_option maxHeartbeats 4000000 in
theorem wl_X9_paste_155 {F : Nat} {v : Int × Int × (Int → Int) × (Int → Int)} {x3 : Int} {x4 : Int} {x5 : Int} {x6 : Int} {c_thrown : Int} {c_cells : Int → Int} {c_moved : Int → Int} {c_many : Int → Int} {c_width : Int → Int} (C : Cx E cX9_paste RX9 { frames := 2, cells := 0, slots := 0, locals := 45 }) (hN : eN E = 7) (h : ml_X9_paste_155 F x3 x4 x5 x6 c_thrown c_cells c_moved = some v) (hret : ∀ (pc : Nat) (L : List (Option Value)), decode cX9_paste pc = .ok (.ireturn, 1) → GG E 0 0 (W_X9_paste (eCy E) a_t a_t_cells a_t_many a_t_moved a_t_width g_t_5 g_t_6 g_t_7 g_t_8 g_t_9 g_t_10 g_t_11 g_t_12 g_t_13 g_t_14 g_t_15 g_t_16 g_t_17 g_t_18 g_t_19 g_t_20 g_t_21 g_t_22 g_t_23 g_t_24 g_t_25 g_t_26 g_t_27 g_t_28 g_t_29 g_t_30 g_t_31 g_t_32 g_t_33 g_t_34 g_t_35 g_t_36 g_t_37 g_t_38 g_t_39 g_t_40 g_t_41 g_t_42 g_t_43 (v.2.1) (v.2.2.1) c_many (v.2.2.2) c_width) L pc [.int (wI (v.1))]) : GG E 0 0 (W_X9_paste (eCy E) a_t a_t_cells a_t_many a_t_moved a_t_width g_t_5 g_t_6 g_t_7 g_t_8 g_t_9 g_t_10 g_t_11 g_t_12 g_t_13 g_t_14 g_t_15 g_t_16 g_t_17 g_t_18 g_t_19 g_t_20 g_t_21 g_t_22 g_t_23 g_t_24 g_t_25 g_t_26 g_t_27 g_t_28 g_t_29 g_t_30 g_t_31 g_t_32 g_t_33 g_t_34 g_t_35 g_t_36 g_t_37 g_t_38 g_t_39 g_t_40 g_t_41 g_t_42 g_t_43 c_thrown c_cells c_many c_moved c_width) [some (.ref a_t), none, none, some (.int (wI x3)), some (.int (wI x4)), some (.int (wI x5)), some (.int (wI x6))] 155 [] := by
  unfold ml_X9_paste_155 at h
  exact loop_walk (g := fun (q : Int × (Int → Int)) => GG E 0 0 (W_X9_paste (eCy E) a_t a_t_cells a_t_many a_t_moved a_t_width g_t_5 g_t_6 g_t_7 g_t_8 g_t_9 g_t_10 g_t_11 g_t_12 g_t_13 g_t_14 g_t_15 g_t_16 g_t_17 g_t_18 g_t_19 g_t_20 g_t_21 g_t_22 g_t_23 g_t_24 g_t_25 g_t_26 g_t_27 g_t_28 g_t_29 g_t_30 g_t_31 g_t_32 g_t_33 g_t_34 g_t_35 g_t_36 g_t_37 g_t_38 g_t_39 g_t_40 g_t_41 g_t_42 g_t_43 c_thrown (q.2) c_many c_moved c_width) [some (.ref a_t), none, none, some (.int (wI x3)), some (.int (wI x4)), some (.int (wI x5)), some (.int (wI (q.1)))] 155 []) (fun k hk q h => wb_X9_paste_155 C hN h (fun y0 y1 hh => hk (y0, y1) hh) hret) F (x6, c_cells) h
set_option maxRecDepth 100000 in
set_option maxHeartbeats 4000000 in
theorem wb_X9_paste_118 {F : Nat} {k118 : Int → (Int → Int) → Option (Int × Int × (Int → Int) × (Int → Int))} {v : Int × Int × (Int → Int) × (Int → Int)} {x1 : Int} {x2 : Int} {x3 : Int} {x4 : Int} {x5 : Int} {x6 : Int} {c_thrown : Int} {c_cells : Int → Int} {c_moved : Int → Int} {c_many : Int → Int} {c_width : Int → Int} (C : Cx E cX9_paste RX9 { frames := 2, cells := 0, slots := 0, locals := 45 }) (hN : eN E = 7) (h : mb_X9_paste_118 F k118 x1 x2 x3 x4 x5 x6 c_thrown c_cells c_moved = some v) (hk118 : ∀ (y_x6 : Int) (y_c_moved : Int → Int), k118 y_x6 y_c_moved = some v → GG E 0 0 (W_X9_paste (eCy E) a_t a_t_cells a_t_many a_t_moved a_t_width g_t_5 g_t_6 g_t_7 g_t_8 g_t_9 g_t_10 g_t_11 g_t_12 g_t_13 g_t_14 g_t_15 g_t_16 g_t_17 g_t_18 g_t_19 g_t_20 g_t_21 g_t_22 g_t_23 g_t_24 g_t_25 g_t_26 g_t_27 g_t_28 g_t_29 g_t_30 g_t_31 g_t_32 g_t_33 g_t_34 g_t_35 g_t_36 g_t_37 g_t_38 g_t_39 g_t_40 g_t_41 g_t_42 g_t_43 c_thrown c_cells c_many y_c_moved c_width) [some (.ref a_t), some (.int (wI x1)), some (.int (wI x2)), some (.int (wI x3)), some (.int (wI x4)), some (.int (wI x5)), some (.int (wI y_x6))] 118 []) (hret : ∀ (pc : Nat) (L : List (Option Value)), decode cX9_paste pc = .ok (.ireturn, 1) → GG E 0 0 (W_X9_paste (eCy E) a_t a_t_cells a_t_many a_t_moved a_t_width g_t_5 g_t_6 g_t_7 g_t_8 g_t_9 g_t_10 g_t_11 g_t_12 g_t_13 g_t_14 g_t_15 g_t_16 g_t_17 g_t_18 g_t_19 g_t_20 g_t_21 g_t_22 g_t_23 g_t_24 g_t_25 g_t_26 g_t_27 g_t_28 g_t_29 g_t_30 g_t_31 g_t_32 g_t_33 g_t_34 g_t_35 g_t_36 g_t_37 g_t_38 g_t_39 g_t_40 g_t_41 g_t_42 g_t_43 (v.2.1) (v.2.2.1) c_many (v.2.2.2) c_width) L pc [.int (wI (v.1))]) : GG E 0 0 (W_X9_paste (eCy E) a_t a_t_cells a_t_many a_t_moved a_t_width g_t_5 g_t_6 g_t_7 g_t_8 g_t_9 g_t_10 g_t_11 g_t_12 g_t_13 g_t_14 g_t_15 g_t_16 g_t_17 g_t_18 g_t_19 g_t_20 g_t_21 g_t_22 g_t_23 g_t_24 g_t_25 g_t_26 g_t_27 g_t_28 g_t_29 g_t_30 g_t_31 g_t_32 g_t_33 g_t_34 g_t_35 g_t_36 g_t_37 g_t_38 g_t_39 g_t_40 g_t_41 g_t_42 g_t_43 c_thrown c_cells c_many c_moved c_width) [some (.ref a_t), some (.int (wI x1)), some (.int (wI x2)), some (.int (wI x3)), some (.int (wI x4)), some (.int (wI x5)), some (.int (wI x6))] 118 [] := by
  unfold mb_X9_paste_118 at h
  refine g_iload C dX9_paste_118 rfl ?_
  refine g_iload C dX9_paste_120 rfl ?_
  refine g_icmp_ge 152 C dX9_paste_122 (by decide) h (fun h => ?_) (fun h => ?_)
  · refine g_iconst C dX9_paste_152 ?_
    refine g_istore C hN dX9_paste_153 rfl (L' := [some (.ref a_t), some (.int (wI x1)), some (.int (wI x2)), some (.int (wI x3)), some (.int (wI x4)), some (.int (wI x5)), some (.int (wI 0))]) rfl ?_
    refine g_mask [true, false, false, true, true, true, true] (L' := [some (.ref a_t), none, none, some (.int (wI x3)), some (.int (wI x4)), some (.int (wI x5)), some (.int (wI 0))]) rfl ?_
    exact wl_X9_paste_155 C hN h hret
  · refine g_aload_n 0 C dX9_paste_125 rfl rfl ?_
    refine g_get C fg_X9_20 0 rfl rfl dX9_paste_126 ?_
    refine g_iload C dX9_paste_129 rfl ?_
    refine g_aload_n 0 C dX9_paste_131 rfl rfl ?_
    refine g_get C fg_X9_16 0 rfl rfl dX9_paste_132 ?_
    refine g_bipush C dX9_paste_135 (by decide) ?_
    refine g_iload_n 1 C dX9_paste_137 rfl rfl ?_
    refine g_imul C dX9_paste_138 ?_
    refine g_iload_n 2 C dX9_paste_139 rfl rfl ?_
    refine g_iadd C dX9_paste_140 ?_
    refine g_iload C dX9_paste_141 rfl ?_
    refine g_iadd C dX9_paste_143 ?_
    obtain ⟨hc1, h⟩ := chk_some h
    refine g_lald C 1 rfl hc1 rfl dX9_paste_144 ?_
    obtain ⟨y2, e_y2, h⟩ := nam_some h
    refine g_topJ e_y2 ?_
    obtain ⟨hc3, h⟩ := chk_some h
    refine g_last C 3 rfl hc3 rfl (ws' := (W_X9_paste (eCy E) a_t a_t_cells a_t_many a_t_moved a_t_width g_t_5 g_t_6 g_t_7 g_t_8 g_t_9 g_t_10 g_t_11 g_t_12 g_t_13 g_t_14 g_t_15 g_t_16 g_t_17 g_t_18 g_t_19 g_t_20 g_t_21 g_t_22 g_t_23 g_t_24 g_t_25 g_t_26 g_t_27 g_t_28 g_t_29 g_t_30 g_t_31 g_t_32 g_t_33 g_t_34 g_t_35 g_t_36 g_t_37 g_t_38 g_t_39 g_t_40 g_t_41 g_t_42 g_t_43 c_thrown c_cells c_many (up c_moved x6 y2) c_width)) rfl dX9_paste_145 ?_
    refine g_iinc C hN dX9_paste_146 rfl rfl (L' := [some (.ref a_t), some (.int (wI x1)), some (.int (wI x2)), some (.int (wI x3)), some (.int (wI x4)), some (.int (wI x5)), some (.int (wI (x6 + 1)))]) rfl ?_
    refine g_goto (tgt := 118) C dX9_paste_149 (by decide) ?_
    exact hk118 _ _ h
set_option maxRecDepth 100000 in
set_option maxHeartbeats 4000000 in
theorem wl_X9_paste_118 {F : Nat} {v : Int × Int × (Int → Int) × (Int → Int)} {x1 : Int} {x2 : Int} {x3 : Int} {x4 : Int} {x5 : Int} {x6 : Int} {c_thrown : Int} {c_cells : Int → Int} {c_moved : Int → Int} {c_many : Int → Int} {c_width : Int → Int} (C : Cx E cX9_paste RX9 { frames := 2, cells := 0, slots := 0, locals := 45 }) (hN : eN E = 7) (h : ml_X9_paste_118 F x1 x2 x3 x4 x5 x6 c_thrown c_cells c_moved = some v) (hret : ∀ (pc : Nat) (L : List (Option Value)), decode cX9_paste pc = .ok (.ireturn, 1) → GG E 0 0 (W_X9_paste (eCy E) a_t a_t_cells a_t_many a_t_moved a_t_width g_t_5 g_t_6 g_t_7 g_t_8 g_t_9 g_t_10 g_t_11 g_t_12 g_t_13 g_t_14 g_t_15 g_t_16 g_t_17 g_t_18 g_t_19 g_t_20 g_t_21 g_t_22 g_t_23 g_t_24 g_t_25 g_t_26 g_t_27 g_t_28 g_t_29 g_t_30 g_t_31 g_t_32 g_t_33 g_t_34 g_t_35 g_t_36 g_t_37 g_t_38 g_t_39 g_t_40 g_t_41 g_t_42 g_t_43 (v.2.1) (v.2.2.1) c_many (v.2.2.2) c_width) L pc [.int (wI (v.1))]) : GG E 0 0 (W_X9_paste (eCy E) a_t a_t_cells a_t_many a_t_moved a_t_width g_t_5 g_t_6 g_t_7 g_t_8 g_t_9 g_t_10 g_t_11 g_t_12 g_t_13 g_t_14 g_t_15 g_t_16 g_t_17 g_t_18 g_t_19 g_t_20 g_t_21 g_t_22 g_t_23 g_t_24 g_t_25 g_t_26 g_t_27 g_t_28 g_t_29 g_t_30 g_t_31 g_t_32 g_t_33 g_t_34 g_t_35 g_t_36 g_t_37 g_t_38 g_t_39 g_t_40 g_t_41 g_t_42 g_t_43 c_thrown c_cells c_many c_moved c_width) [some (.ref a_t), some (.int (wI x1)), some (.int (wI x2)), some (.int (wI x3)), some (.int (wI x4)), some (.int (wI x5)), some (.int (wI x6))] 118 [] := by
  unfold ml_X9_paste_118 at h
  exact loop_walk (g := fun (q : Int × (Int → Int)) => GG E 0 0 (W_X9_paste (eCy E) a_t a_t_cells a_t_many a_t_moved a_t_width g_t_5 g_t_6 g_t_7 g_t_8 g_t_9 g_t_10 g_t_11 g_t_12 g_t_13 g_t_14 g_t_15 g_t_16 g_t_17 g_t_18 g_t_19 g_t_20 g_t_21 g_t_22 g_t_23 g_t_24 g_t_25 g_t_26 g_t_27 g_t_28 g_t_29 g_t_30 g_t_31 g_t_32 g_t_33 g_t_34 g_t_35 g_t_36 g_t_37 g_t_38 g_t_39 g_t_40 g_t_41 g_t_42 g_t_43 c_thrown c_cells c_many (q.2) c_width) [some (.ref a_t), some (.int (wI x1)), some (.int (wI x2)), some (.int (wI x3)), some (.int (wI x4)), some (.int (wI x5)), some (.int (wI (q.1)))] 118 []) (fun k hk q h => wb_X9_paste_118 C hN h (fun y0 y1 hh => hk (y0, y1) hh) hret) F (x6, c_moved) h
set_option maxRecDepth 100000 in
set_option maxHeartbeats 4000000 in
theorem wm_X9_paste {F : Nat} {v : Int × Int × (Int → Int) × (Int → Int)} {x1 : Int} {x2 : Int} {x3 : Int} {x4 : Int} {x5 : Int} {c_cells : Int → Int} {c_many : Int → Int} {c_moved : Int → Int} {c_width : Int → Int} {c_thrown : Int} (C : Cx E cX9_paste RX9 { frames := 2, cells := 0, slots := 0, locals := 45 }) (hN : eN E = 7) (h : m_X9_paste F x1 x2 x3 x4 x5 c_cells c_many c_moved c_width = some v) (hret : ∀ (pc : Nat) (L : List (Option Value)), decode cX9_paste pc = .ok (.ireturn, 1) → GG E 0 0 (W_X9_paste (eCy E) a_t a_t_cells a_t_many a_t_moved a_t_width g_t_5 g_t_6 g_t_7 g_t_8 g_t_9 g_t_10 g_t_11 g_t_12 g_t_13 g_t_14 g_t_15 g_t_16 g_t_17 g_t_18 g_t_19 g_t_20 g_t_21 g_t_22 g_t_23 g_t_24 g_t_25 g_t_26 g_t_27 g_t_28 g_t_29 g_t_30 g_t_31 g_t_32 g_t_33 g_t_34 g_t_35 g_t_36 g_t_37 g_t_38 g_t_39 g_t_40 g_t_41 g_t_42 g_t_43 (v.2.1) (v.2.2.1) c_many (v.2.2.2) c_width) L pc [.int (wI (v.1))]) : GG E 0 0 (W_X9_paste (eCy E) a_t a_t_cells a_t_many a_t_moved a_t_width g_t_5 g_t_6 g_t_7 g_t_8 g_t_9 g_t_10 g_t_11 g_t_12 g_t_13 g_t_14 g_t_15 g_t_16 g_t_17 g_t_18 g_t_19 g_t_20 g_t_21 g_t_22 g_t_23 g_t_24 g_t_25 g_t_26 g_t_27 g_t_28 g_t_29 g_t_30 g_t_31 g_t_32 g_t_33 g_t_34 g_t_35 g_t_36 g_t_37 g_t_38 g_t_39 g_t_40 g_t_41 g_t_42 g_t_43 c_thrown c_cells c_many c_moved c_width) [some (.ref a_t), some (.int (wI x1)), some (.int (wI x2)), some (.int (wI x3)), some (.int (wI x4)), some (.int (wI x5)), none] 0 [] := by
  unfold m_X9_paste at h
  refine g_aload_n 0 C dX9_paste_0 rfl rfl ?_
  refine g_iconst C dX9_paste_1 ?_
  refine g_putI C fp_X9_71 0 rfl rfl (ws' := (W_X9_paste (eCy E) a_t a_t_cells a_t_many a_t_moved a_t_width g_t_5 g_t_6 g_t_7 g_t_8 g_t_9 g_t_10 g_t_11 g_t_12 g_t_13 g_t_14 g_t_15 g_t_16 g_t_17 g_t_18 g_t_19 g_t_20 g_t_21 g_t_22 g_t_23 g_t_24 g_t_25 g_t_26 g_t_27 g_t_28 g_t_29 g_t_30 g_t_31 g_t_32 g_t_33 g_t_34 g_t_35 g_t_36 g_t_37 g_t_38 g_t_39 g_t_40 g_t_41 g_t_42 g_t_43 0 c_cells c_many c_moved c_width)) rfl dX9_paste_2 ?_
  refine g_iload_n 1 C dX9_paste_5 rfl rfl ?_
  obtain ⟨r1, hr2, h⟩ := bnd1_some h
  refine g_callSI [] [0, 1, 2, 3, 4] [0, 1, 2, 3, 4] C mt_X9_80 (c_X9_isSlot _ _ _ _ x1 F hr2) rfl rfl (ws2 := (W_X9_paste (eCy E) a_t a_t_cells a_t_many a_t_moved a_t_width g_t_5 g_t_6 g_t_7 g_t_8 g_t_9 g_t_10 g_t_11 g_t_12 g_t_13 g_t_14 g_t_15 g_t_16 g_t_17 g_t_18 g_t_19 g_t_20 g_t_21 g_t_22 g_t_23 g_t_24 g_t_25 g_t_26 g_t_27 g_t_28 g_t_29 g_t_30 g_t_31 g_t_32 g_t_33 g_t_34 g_t_35 g_t_36 g_t_37 g_t_38 g_t_39 g_t_40 g_t_41 g_t_42 g_t_43 0 c_cells c_many c_moved c_width)) rfl rfl rfl (rest := []) rfl rfl rfl dX9_paste_6 ?_
  refine g_if_eq 19 C dX9_paste_9 (by decide) h (fun h => ?_) (fun h => ?_)
  · refine g_bipush C dX9_paste_19 (by decide) ?_
    cases h
    exact hret 21 _ dX9_paste_21
  · refine g_iload_n 3 C dX9_paste_12 rfl rfl ?_
    obtain ⟨r3, hr4, h⟩ := bnd1_some h
    refine g_callSI [] [0, 1, 2, 3, 4] [0, 1, 2, 3, 4] C mt_X9_80 (c_X9_isSlot _ _ _ _ x3 F hr4) rfl rfl (ws2 := (W_X9_paste (eCy E) a_t a_t_cells a_t_many a_t_moved a_t_width g_t_5 g_t_6 g_t_7 g_t_8 g_t_9 g_t_10 g_t_11 g_t_12 g_t_13 g_t_14 g_t_15 g_t_16 g_t_17 g_t_18 g_t_19 g_t_20 g_t_21 g_t_22 g_t_23 g_t_24 g_t_25 g_t_26 g_t_27 g_t_28 g_t_29 g_t_30 g_t_31 g_t_32 g_t_33 g_t_34 g_t_35 g_t_36 g_t_37 g_t_38 g_t_39 g_t_40 g_t_41 g_t_42 g_t_43 0 c_cells c_many c_moved c_width)) rfl rfl rfl (rest := []) rfl rfl rfl dX9_paste_13 ?_
    refine g_if_ne 22 C dX9_paste_16 (by decide) h (fun h => ?_) (fun h => ?_)
    · refine g_aload_n 0 C dX9_paste_22 rfl rfl ?_
      refine g_get C fg_X9_7 0 rfl rfl dX9_paste_23 ?_
      refine g_iload_n 1 C dX9_paste_26 rfl rfl ?_
      obtain ⟨hc5, h⟩ := chk_some h
      refine g_iald C 4 rfl hc5 rfl dX9_paste_27 ?_
      refine g_iconst C dX9_paste_28 ?_
      refine g_icmp_eq 42 C dX9_paste_29 (by decide) h (fun h => ?_) (fun h => ?_)
      · refine g_bipush C dX9_paste_42 (by decide) ?_
        cases h
        exact hret 44 _ dX9_paste_44
      · refine g_aload_n 0 C dX9_paste_32 rfl rfl ?_
        refine g_get C fg_X9_7 0 rfl rfl dX9_paste_33 ?_
        refine g_iload_n 3 C dX9_paste_36 rfl rfl ?_
        obtain ⟨hc6, h⟩ := chk_some h
        refine g_iald C 4 rfl hc6 rfl dX9_paste_37 ?_
        refine g_iconst C dX9_paste_38 ?_
        refine g_icmp_ne 45 C dX9_paste_39 (by decide) h (fun h => ?_) (fun h => ?_)
        · refine g_aload_n 0 C dX9_paste_45 rfl rfl ?_
          refine g_get C fg_X9_7 0 rfl rfl dX9_paste_46 ?_
          refine g_iload_n 1 C dX9_paste_49 rfl rfl ?_
          obtain ⟨hc7, h⟩ := chk_some h
          refine g_iald C 4 rfl hc7 rfl dX9_paste_50 ?_
          refine g_aload_n 0 C dX9_paste_51 rfl rfl ?_
          refine g_get C fg_X9_7 0 rfl rfl dX9_paste_52 ?_
          refine g_iload_n 3 C dX9_paste_55 rfl rfl ?_
          obtain ⟨hc8, h⟩ := chk_some h
          refine g_iald C 4 rfl hc8 rfl dX9_paste_56 ?_
          refine g_icmp_eq 63 C dX9_paste_57 (by decide) h (fun h => ?_) (fun h => ?_)
          · refine g_iload_n 2 C dX9_paste_63 rfl rfl ?_
            refine g_if_lt 112 C dX9_paste_64 (by decide) h (fun h => ?_) (fun h => ?_)
            · refine g_bipush C dX9_paste_112 (by decide) ?_
              cases h
              exact hret 114 _ dX9_paste_114
            · refine g_iload C dX9_paste_67 rfl ?_
              refine g_if_lt 112 C dX9_paste_69 (by decide) h (fun h => ?_) (fun h => ?_)
              · refine g_bipush C dX9_paste_112 (by decide) ?_
                cases h
                exact hret 114 _ dX9_paste_114
              · refine g_iload C dX9_paste_72 rfl ?_
                refine g_if_lt 112 C dX9_paste_74 (by decide) h (fun h => ?_) (fun h => ?_)
                · refine g_bipush C dX9_paste_112 (by decide) ?_
                  cases h
                  exact hret 114 _ dX9_paste_114
                · refine g_iload_n 2 C dX9_paste_77 rfl rfl ?_
                  obtain ⟨hc9, h⟩ := chk_some h
                  refine g_i2l C dX9_paste_78 hc9 ?_
                  refine g_iload C dX9_paste_79 rfl ?_
                  obtain ⟨hc10, h⟩ := chk_some h
                  refine g_i2l C dX9_paste_81 hc10 ?_
                  refine g_ladd C dX9_paste_82 ?_
                  refine g_aload_n 0 C dX9_paste_83 rfl rfl ?_
                  refine g_get C fg_X9_13 0 rfl rfl dX9_paste_84 ?_
                  refine g_iload_n 1 C dX9_paste_87 rfl rfl ?_
                  obtain ⟨hc11, h⟩ := chk_some h
                  refine g_iald C 2 rfl hc11 rfl dX9_paste_88 ?_
                  obtain ⟨hc12, h⟩ := chk_some h
                  refine g_i2l C dX9_paste_89 hc12 ?_
                  refine g_lcmp_gt 112 C dX9_paste_90 dX9_paste_91 (by decide) h (fun h => ?_) (fun h => ?_)
                  · refine g_bipush C dX9_paste_112 (by decide) ?_
                    cases h
                    exact hret 114 _ dX9_paste_114
                  · refine g_iload C dX9_paste_94 rfl ?_
                    obtain ⟨hc13, h⟩ := chk_some h
                    refine g_i2l C dX9_paste_96 hc13 ?_
                    refine g_iload C dX9_paste_97 rfl ?_
                    obtain ⟨hc14, h⟩ := chk_some h
                    refine g_i2l C dX9_paste_99 hc14 ?_
                    refine g_ladd C dX9_paste_100 ?_
                    refine g_aload_n 0 C dX9_paste_101 rfl rfl ?_
                    refine g_get C fg_X9_13 0 rfl rfl dX9_paste_102 ?_
                    refine g_iload_n 3 C dX9_paste_105 rfl rfl ?_
                    obtain ⟨hc15, h⟩ := chk_some h
                    refine g_iald C 2 rfl hc15 rfl dX9_paste_106 ?_
                    obtain ⟨hc16, h⟩ := chk_some h
                    refine g_i2l C dX9_paste_107 hc16 ?_
                    refine g_lcmp_le 115 C dX9_paste_108 dX9_paste_109 (by decide) h (fun h => ?_) (fun h => ?_)
                    · refine g_iconst C dX9_paste_115 ?_
                      refine g_istore C hN dX9_paste_116 rfl (L' := [some (.ref a_t), some (.int (wI x1)), some (.int (wI x2)), some (.int (wI x3)), some (.int (wI x4)), some (.int (wI x5)), some (.int (wI 0))]) rfl ?_
                      exact wl_X9_paste_118 C hN h hret
                    · refine g_bipush C dX9_paste_112 (by decide) ?_
                      cases h
                      exact hret 114 _ dX9_paste_114
          · refine g_bipush C dX9_paste_60 (by decide) ?_
            cases h
            exact hret 62 _ dX9_paste_62
        · refine g_bipush C dX9_paste_42 (by decide) ?_
          cases h
          exact hret 44 _ dX9_paste_44
    · refine g_bipush C dX9_paste_19 (by decide) ?_
      cases h
      exact hret 21 _ dX9_paste_21
end S_X9_paste
set_option maxRecDepth 100000 in
set_option maxHeartbeats 4000000 in
theorem c_X9_paste (l : Launch) (D : va_G) (cy : Nat → ClassId) (ad : AD) (a_t a_t_cells a_t_many a_t_moved a_t_width : Nat) (g_t_5 : Value) (g_t_6 : Value) (g_t_7 : Value) (g_t_8 : Value) (g_t_9 : Value) (g_t_10 : Value) (g_t_11 : Value) (g_t_12 : Value) (g_t_13 : Value) (g_t_14 : Value) (g_t_15 : Value) (g_t_16 : Value) (g_t_17 : Value) (g_t_18 : Value) (g_t_19 : Value) (g_t_20 : Value) (g_t_21 : Value) (g_t_22 : Value) (g_t_23 : Value) (g_t_24 : Value) (g_t_25 : Value) (g_t_26 : Value) (g_t_27 : Value) (g_t_28 : Value) (g_t_29 : Value) (g_t_30 : Value) (g_t_31 : Value) (g_t_32 : Value) (g_t_33 : Value) (g_t_34 : Value) (g_t_35 : Value) (g_t_36 : Value) (g_t_37 : Value) (g_t_38 : Value) (g_t_39 : Value) (g_t_40 : Value) (g_t_41 : Value) (g_t_42 : Value) (g_t_43 : Value) (x1 : Int) (x2 : Int) (x3 : Int) (x4 : Int) (x5 : Int) (c_thrown : Int) (c_cells : Int → Int) (c_many : Int → Int) (c_moved : Int → Int) (c_width : Int → Int) (F : Nat) {v : Int × Int × (Int → Int) × (Int → Int)} (h : m_X9_paste F x1 x2 x3 x4 x5 c_cells c_many c_moved c_width = some v) : Ct l yX9_paste cX9_paste 7 (some .int) { frames := 2, cells := 0, slots := 0, locals := 45 } D cy ad [.ref a_t, .int (wI x1), .int (wI x2), .int (wI x3), .int (wI x4), .int (wI x5)] (W_X9_paste cy a_t a_t_cells a_t_many a_t_moved a_t_width g_t_5 g_t_6 g_t_7 g_t_8 g_t_9 g_t_10 g_t_11 g_t_12 g_t_13 g_t_14 g_t_15 g_t_16 g_t_17 g_t_18 g_t_19 g_t_20 g_t_21 g_t_22 g_t_23 g_t_24 g_t_25 g_t_26 g_t_27 g_t_28 g_t_29 g_t_30 g_t_31 g_t_32 g_t_33 g_t_34 g_t_35 g_t_36 g_t_37 g_t_38 g_t_39 g_t_40 g_t_41 g_t_42 g_t_43 c_thrown c_cells c_many c_moved c_width) (W_X9_paste cy a_t a_t_cells a_t_many a_t_moved a_t_width g_t_5 g_t_6 g_t_7 g_t_8 g_t_9 g_t_10 g_t_11 g_t_12 g_t_13 g_t_14 g_t_15 g_t_16 g_t_17 g_t_18 g_t_19 g_t_20 g_t_21 g_t_22 g_t_23 g_t_24 g_t_25 g_t_26 g_t_27 g_t_28 g_t_29 g_t_30 g_t_31 g_t_32 g_t_33 g_t_34 g_t_35 g_t_36 g_t_37 g_t_38 g_t_39 g_t_40 g_t_41 g_t_42 g_t_43 (v.2.1) (v.2.2.1) c_many (v.2.2.2) c_width) (some (.int (wI (v.1)))) := by
  refine Ct.introI (j := 1) (plainFor_of_name (by decide)) rfl rfl (fun E C e1 e2 e3 e4 e5 hret => ?_)
  subst e1; subst e2; subst e3; subst e4
  exact wm_X9_paste C e5 h hret
-- MovingStairModel.four(I)V
def W_X9_four (cy : Nat → ClassId) (a_t a_t_tape : Nat) (g_t_0 : Value) (g_t_1 : Value) (g_t_2 : Value) (g_t_3 : Value) (g_t_4 : Value) (g_t_7 : Value) (g_t_8 : Value) (g_t_9 : Value) (g_t_10 : Value) (g_t_11 : Value) (g_t_12 : Value) (g_t_13 : Value) (g_t_14 : Value) (g_t_15 : Value) (g_t_16 : Value) (g_t_17 : Value) (g_t_18 : Value) (g_t_19 : Value) (g_t_20 : Value) (g_t_21 : Value) (g_t_22 : Value) (g_t_23 : Value) (g_t_24 : Value) (g_t_25 : Value) (g_t_26 : Value) (g_t_27 : Value) (g_t_28 : Value) (g_t_29 : Value) (g_t_30 : Value) (g_t_31 : Value) (g_t_32 : Value) (g_t_33 : Value) (g_t_34 : Value) (g_t_35 : Value) (g_t_36 : Value) (g_t_37 : Value) (g_t_38 : Value) (g_t_39 : Value) (g_t_40 : Value) (g_t_41 : Value) (g_t_42 : Value) (g_t_43 : Value) (c_taped : Int) (c_tape : Int → Int) : va_W := [(a_t, .inr (9, [g_t_0, g_t_1, g_t_2, g_t_3, g_t_4, .ref a_t_tape, .int (wI c_taped), g_t_7, g_t_8, g_t_9, g_t_10, g_t_11, g_t_12, g_t_13, g_t_14, g_t_15, g_t_16, g_t_17, g_t_18, g_t_19, g_t_20, g_t_21, g_t_22, g_t_23, g_t_24, g_t_25, g_t_26, g_t_27, g_t_28, g_t_29, g_t_30, g_t_31, g_t_32, g_t_33, g_t_34, g_t_35, g_t_36, g_t_37, g_t_38, g_t_39, g_t_40, g_t_41, g_t_42, g_t_43])), (a_t_tape, .inl (cy 0, 900, .inl (aI c_tape)))]
def mb_X9_four_3 (F : Nat) (k3 : Int → Int → (Int → Int) → Option (Int × (Int → Int))) (x1 : Int) (x2 : Int) (c_taped : Int) (c_tape : Int → Int) : Option (Int × (Int → Int)) :=
  if wI x2 < wI 0 then
    (some (c_taped, c_tape))
  else
    (nam (b8 (shrI x1 x2)) fun y1 => chk (0 ≤ c_taped ∧ c_taped < 900) <| nam (c_taped + 1) fun y3 => k3 (x2 + (-8)) y3 (up c_tape c_taped (b8 y1)))
def ml_X9_four_3 (F : Nat) (x1 : Int) (x2 : Int) (c_taped : Int) (c_tape : Int → Int) : Option (Int × (Int → Int)) :=
  loopN (fun (k : Int × Int × (Int → Int) → Option (Int × (Int → Int))) q => mb_X9_four_3 F (fun y0 y1 y2 => k (y0, y1, y2)) x1 q.1 q.2.1 q.2.2) F (x2, c_taped, c_tape)
def m_X9_four (F : Nat) (x1 : Int) (c_taped : Int) (c_tape : Int → Int) : Option (Int × (Int → Int)) :=
  ml_X9_four_3 F x1 24 c_taped c_tape
section S_X9_four
variable {E : EE} {a_t a_t_tape : Nat} {g_t_0 : Value} {g_t_1 : Value} {g_t_2 : Value} {g_t_3 : Value} {g_t_4 : Value} {g_t_7 : Value} {g_t_8 : Value} {g_t_9 : Value} {g_t_10 : Value} {g_t_11 : Value} {g_t_12 : Value} {g_t_13 : Value} {g_t_14 : Value} {g_t_15 : Value} {g_t_16 : Value} {g_t_17 : Value} {g_t_18 : Value} {g_t_19 : Value} {g_t_20 : Value} {g_t_21 : Value} {g_t_22 : Value} {g_t_23 : Value} {g_t_24 : Value} {g_t_25 : Value} {g_t_26 : Value} {g_t_27 : Value} {g_t_28 : Value} {g_t_29 : Value} {g_t_30 : Value} {g_t_31 : Value} {g_t_32 : Value} {g_t_33 : Value} {g_t_34 : Value} {g_t_35 : Value} {g_t_36 : Value} {g_t_37 : Value} {g_t_38 : Value} {g_t_39 : Value} {g_t_40 : Value} {g_t_41 : Value} {g_t_42 : Value} {g_t_43 : Value}
set_option maxRecDepth 100000 in
set_option maxHeartbeats 4000000 in
theorem wb_X9_four_3 {F : Nat} {k3 : Int → Int → (Int → Int) → Option (Int × (Int → Int))} {v : Int × (Int → Int)} {x1 : Int} {x2 : Int} {c_taped : Int} {c_tape : Int → Int} (C : Cx E cX9_four RX9 { frames := 0, cells := 0, slots := 0, locals := 0 }) (hN : eN E = 3) (h : mb_X9_four_3 F k3 x1 x2 c_taped c_tape = some v) (hk3 : ∀ (y_x2 : Int) (y_c_taped : Int) (y_c_tape : Int → Int), k3 y_x2 y_c_taped y_c_tape = some v → GG E 0 0 (W_X9_four (eCy E) a_t a_t_tape g_t_0 g_t_1 g_t_2 g_t_3 g_t_4 g_t_7 g_t_8 g_t_9 g_t_10 g_t_11 g_t_12 g_t_13 g_t_14 g_t_15 g_t_16 g_t_17 g_t_18 g_t_19 g_t_20 g_t_21 g_t_22 g_t_23 g_t_24 g_t_25 g_t_26 g_t_27 g_t_28 g_t_29 g_t_30 g_t_31 g_t_32 g_t_33 g_t_34 g_t_35 g_t_36 g_t_37 g_t_38 g_t_39 g_t_40 g_t_41 g_t_42 g_t_43 y_c_taped y_c_tape) [some (.ref a_t), some (.int (wI x1)), some (.int (wI y_x2))] 3 []) (hret : ∀ (pc : Nat) (L : List (Option Value)), decode cX9_four pc = .ok (.return_, 1) → GG E 0 0 (W_X9_four (eCy E) a_t a_t_tape g_t_0 g_t_1 g_t_2 g_t_3 g_t_4 g_t_7 g_t_8 g_t_9 g_t_10 g_t_11 g_t_12 g_t_13 g_t_14 g_t_15 g_t_16 g_t_17 g_t_18 g_t_19 g_t_20 g_t_21 g_t_22 g_t_23 g_t_24 g_t_25 g_t_26 g_t_27 g_t_28 g_t_29 g_t_30 g_t_31 g_t_32 g_t_33 g_t_34 g_t_35 g_t_36 g_t_37 g_t_38 g_t_39 g_t_40 g_t_41 g_t_42 g_t_43 (v.1) (v.2)) L pc []) : GG E 0 0 (W_X9_four (eCy E) a_t a_t_tape g_t_0 g_t_1 g_t_2 g_t_3 g_t_4 g_t_7 g_t_8 g_t_9 g_t_10 g_t_11 g_t_12 g_t_13 g_t_14 g_t_15 g_t_16 g_t_17 g_t_18 g_t_19 g_t_20 g_t_21 g_t_22 g_t_23 g_t_24 g_t_25 g_t_26 g_t_27 g_t_28 g_t_29 g_t_30 g_t_31 g_t_32 g_t_33 g_t_34 g_t_35 g_t_36 g_t_37 g_t_38 g_t_39 g_t_40 g_t_41 g_t_42 g_t_43 c_taped c_tape) [some (.ref a_t), some (.int (wI x1)), some (.int (wI x2))] 3 [] := by
  unfold mb_X9_four_3 at h
  refine g_iload_n 2 C dX9_four_3 rfl rfl ?_
  refine g_if_lt 36 C dX9_four_4 (by decide) h (fun h => ?_) (fun h => ?_)
  · cases h
    exact hret 36 _ dX9_four_36
  · refine g_aload_n 0 C dX9_four_7 rfl rfl ?_
    refine g_get C fg_X9_23 0 rfl rfl dX9_four_8 ?_
    refine g_aload_n 0 C dX9_four_11 rfl rfl ?_
    refine g_get C fg_X9_88 0 rfl rfl dX9_four_12 ?_
    refine g_st (st' := [.int (wI c_taped), .ref a_t_tape]) rfl ?_
    refine g_iload_n 1 C dX9_four_15 rfl rfl ?_
    refine g_iload_n 2 C dX9_four_16 rfl rfl ?_
    refine g_ishr C dX9_four_17 ?_
    refine g_i2b C dX9_four_18 ?_
    obtain ⟨y1, e_y1, h⟩ := nam_some h
    refine g_topI e_y1 ?_
    obtain ⟨hc2, h⟩ := chk_some h
    refine g_bast C 1 rfl hc2 rfl (ws' := (W_X9_four (eCy E) a_t a_t_tape g_t_0 g_t_1 g_t_2 g_t_3 g_t_4 g_t_7 g_t_8 g_t_9 g_t_10 g_t_11 g_t_12 g_t_13 g_t_14 g_t_15 g_t_16 g_t_17 g_t_18 g_t_19 g_t_20 g_t_21 g_t_22 g_t_23 g_t_24 g_t_25 g_t_26 g_t_27 g_t_28 g_t_29 g_t_30 g_t_31 g_t_32 g_t_33 g_t_34 g_t_35 g_t_36 g_t_37 g_t_38 g_t_39 g_t_40 g_t_41 g_t_42 g_t_43 c_taped (up c_tape c_taped (b8 y1)))) rfl dX9_four_19 ?_
    refine g_aload_n 0 C dX9_four_20 rfl rfl ?_
    refine g_dup C dX9_four_21 rfl ?_
    refine g_get C fg_X9_88 0 rfl rfl dX9_four_22 ?_
    refine g_st (st' := [.int (wI c_taped), .ref a_t]) rfl ?_
    refine g_iconst C dX9_four_25 ?_
    refine g_iadd C dX9_four_26 ?_
    obtain ⟨y3, e_y3, h⟩ := nam_some h
    refine g_topI e_y3 ?_
    refine g_putI C fp_X9_88 0 rfl rfl (ws' := (W_X9_four (eCy E) a_t a_t_tape g_t_0 g_t_1 g_t_2 g_t_3 g_t_4 g_t_7 g_t_8 g_t_9 g_t_10 g_t_11 g_t_12 g_t_13 g_t_14 g_t_15 g_t_16 g_t_17 g_t_18 g_t_19 g_t_20 g_t_21 g_t_22 g_t_23 g_t_24 g_t_25 g_t_26 g_t_27 g_t_28 g_t_29 g_t_30 g_t_31 g_t_32 g_t_33 g_t_34 g_t_35 g_t_36 g_t_37 g_t_38 g_t_39 g_t_40 g_t_41 g_t_42 g_t_43 y3 (up c_tape c_taped (b8 y1)))) rfl dX9_four_27 ?_
    refine g_iinc C hN dX9_four_30 rfl rfl (L' := [some (.ref a_t), some (.int (wI x1)), some (.int (wI (x2 + (-8))))]) rfl ?_
    refine g_goto (tgt := 3) C dX9_four_33 (by decide) ?_
    exact hk3 _ _ _ h
set_option maxRecDepth 100000 in
set_option maxHeartbeats 4000000 in
theorem wl_X9_four_3 {F : Nat} {v : Int × (Int → Int)} {x1 : Int} {x2 : Int} {c_taped : Int} {c_tape : Int → Int} (C : Cx E cX9_four RX9 { frames := 0, cells := 0, slots := 0, locals := 0 }) (hN : eN E = 3) (h : ml_X9_four_3 F x1 x2 c_taped c_tape = some v) (hret : ∀ (pc : Nat) (L : List (Option Value)), decode cX9_four pc = .ok (.return_, 1) → GG E 0 0 (W_X9_four (eCy E) a_t a_t_tape g_t_0 g_t_1 g_t_2 g_t_3 g_t_4 g_t_7 g_t_8 g_t_9 g_t_10 g_t_11 g_t_12 g_t_13 g_t_14 g_t_15 g_t_16 g_t_17 g_t_18 g_t_19 g_t_20 g_t_21 g_t_22 g_t_23 g_t_24 g_t_25 g_t_26 g_t_27 g_t_28 g_t_29 g_t_30 g_t_31 g_t_32 g_t_33 g_t_34 g_t_35 g_t_36 g_t_37 g_t_38 g_t_39 g_t_40 g_t_41 g_t_42 g_t_43 (v.1) (v.2)) L pc []) : GG E 0 0 (W_X9_four (eCy E) a_t a_t_tape g_t_0 g_t_1 g_t_2 g_t_3 g_t_4 g_t_7 g_t_8 g_t_9 g_t_10 g_t_11 g_t_12 g_t_13 g_t_14 g_t_15 g_t_16 g_t_17 g_t_18 g_t_19 g_t_20 g_t_21 g_t_22 g_t_23 g_t_24 g_t_25 g_t_26 g_t_27 g_t_28 g_t_29 g_t_30 g_t_31 g_t_32 g_t_33 g_t_34 g_t_35 g_t_36 g_t_37 g_t_38 g_t_39 g_t_40 g_t_41 g_t_42 g_t_43 c_taped c_tape) [some (.ref a_t), some (.int (wI x1)), some (.int (wI x2))] 3 [] := by
  unfold ml_X9_four_3 at h
  exact loop_walk (g := fun (q : Int × Int × (Int → Int)) => GG E 0 0 (W_X9_four (eCy E) a_t a_t_tape g_t_0 g_t_1 g_t_2 g_t_3 g_t_4 g_t_7 g_t_8 g_t_9 g_t_10 g_t_11 g_t_12 g_t_13 g_t_14 g_t_15 g_t_16 g_t_17 g_t_18 g_t_19 g_t_20 g_t_21 g_t_22 g_t_23 g_t_24 g_t_25 g_t_26 g_t_27 g_t_28 g_t_29 g_t_30 g_t_31 g_t_32 g_t_33 g_t_34 g_t_35 g_t_36 g_t_37 g_t_38 g_t_39 g_t_40 g_t_41 g_t_42 g_t_43 (q.2.1) (q.2.2)) [some (.ref a_t), some (.int (wI x1)), some (.int (wI (q.1)))] 3 []) (fun k hk q h => wb_X9_four_3 C hN h (fun y0 y1 y2 hh => hk (y0, y1, y2) hh) hret) F (x2, c_taped, c_tape) h
set_option maxRecDepth 100000 in
set_option maxHeartbeats 4000000 in
theorem wm_X9_four {F : Nat} {v : Int × (Int → Int)} {x1 : Int} {c_taped : Int} {c_tape : Int → Int} (C : Cx E cX9_four RX9 { frames := 0, cells := 0, slots := 0, locals := 0 }) (hN : eN E = 3) (h : m_X9_four F x1 c_taped c_tape = some v) (hret : ∀ (pc : Nat) (L : List (Option Value)), decode cX9_four pc = .ok (.return_, 1) → GG E 0 0 (W_X9_four (eCy E) a_t a_t_tape g_t_0 g_t_1 g_t_2 g_t_3 g_t_4 g_t_7 g_t_8 g_t_9 g_t_10 g_t_11 g_t_12 g_t_13 g_t_14 g_t_15 g_t_16 g_t_17 g_t_18 g_t_19 g_t_20 g_t_21 g_t_22 g_t_23 g_t_24 g_t_25 g_t_26 g_t_27 g_t_28 g_t_29 g_t_30 g_t_31 g_t_32 g_t_33 g_t_34 g_t_35 g_t_36 g_t_37 g_t_38 g_t_39 g_t_40 g_t_41 g_t_42 g_t_43 (v.1) (v.2)) L pc []) : GG E 0 0 (W_X9_four (eCy E) a_t a_t_tape g_t_0 g_t_1 g_t_2 g_t_3 g_t_4 g_t_7 g_t_8 g_t_9 g_t_10 g_t_11 g_t_12 g_t_13 g_t_14 g_t_15 g_t_16 g_t_17 g_t_18 g_t_19 g_t_20 g_t_21 g_t_22 g_t_23 g_t_24 g_t_25 g_t_26 g_t_27 g_t_28 g_t_29 g_t_30 g_t_31 g_t_32 g_t_33 g_t_34 g_t_35 g_t_36 g_t_37 g_t_38 g_t_39 g_t_40 g_t_41 g_t_42 g_t_43 c_taped c_tape) [some (.ref a_t), some (.int (wI x1)), none] 0 [] := by
  unfold m_X9_four at h
  refine g_bipush C dX9_four_0 (by decide) ?_
  refine g_istore_n 2 C hN dX9_four_2 rfl rfl (L' := [some (.ref a_t), some (.int (wI x1)), some (.int (wI 24))]) rfl ?_
  exact wl_X9_four_3 C hN h hret
end S_X9_four
set_option maxRecDepth 100000 in
set_option maxHeartbeats 4000000 in
theorem c_X9_four (l : Launch) (D : va_G) (cy : Nat → ClassId) (ad : AD) (a_t a_t_tape : Nat) (g_t_0 : Value) (g_t_1 : Value) (g_t_2 : Value) (g_t_3 : Value) (g_t_4 : Value) (g_t_7 : Value) (g_t_8 : Value) (g_t_9 : Value) (g_t_10 : Value) (g_t_11 : Value) (g_t_12 : Value) (g_t_13 : Value) (g_t_14 : Value) (g_t_15 : Value) (g_t_16 : Value) (g_t_17 : Value) (g_t_18 : Value) (g_t_19 : Value) (g_t_20 : Value) (g_t_21 : Value) (g_t_22 : Value) (g_t_23 : Value) (g_t_24 : Value) (g_t_25 : Value) (g_t_26 : Value) (g_t_27 : Value) (g_t_28 : Value) (g_t_29 : Value) (g_t_30 : Value) (g_t_31 : Value) (g_t_32 : Value) (g_t_33 : Value) (g_t_34 : Value) (g_t_35 : Value) (g_t_36 : Value) (g_t_37 : Value) (g_t_38 : Value) (g_t_39 : Value) (g_t_40 : Value) (g_t_41 : Value) (g_t_42 : Value) (g_t_43 : Value) (x1 : Int) (c_taped : Int) (c_tape : Int → Int) (F : Nat) {v : Int × (Int → Int)} (h : m_X9_four F x1 c_taped c_tape = some v) : Ct l yX9_four cX9_four 3 none { frames := 0, cells := 0, slots := 0, locals := 0 } D cy ad [.ref a_t, .int (wI x1)] (W_X9_four cy a_t a_t_tape g_t_0 g_t_1 g_t_2 g_t_3 g_t_4 g_t_7 g_t_8 g_t_9 g_t_10 g_t_11 g_t_12 g_t_13 g_t_14 g_t_15 g_t_16 g_t_17 g_t_18 g_t_19 g_t_20 g_t_21 g_t_22 g_t_23 g_t_24 g_t_25 g_t_26 g_t_27 g_t_28 g_t_29 g_t_30 g_t_31 g_t_32 g_t_33 g_t_34 g_t_35 g_t_36 g_t_37 g_t_38 g_t_39 g_t_40 g_t_41 g_t_42 g_t_43 c_taped c_tape) (W_X9_four cy a_t a_t_tape g_t_0 g_t_1 g_t_2 g_t_3 g_t_4 g_t_7 g_t_8 g_t_9 g_t_10 g_t_11 g_t_12 g_t_13 g_t_14 g_t_15 g_t_16 g_t_17 g_t_18 g_t_19 g_t_20 g_t_21 g_t_22 g_t_23 g_t_24 g_t_25 g_t_26 g_t_27 g_t_28 g_t_29 g_t_30 g_t_31 g_t_32 g_t_33 g_t_34 g_t_35 g_t_36 g_t_37 g_t_38 g_t_39 g_t_40 g_t_41 g_t_42 g_t_43 (v.1) (v.2)) none := by
  refine Ct.introV (j := 1) (plainFor_of_name (by decide)) rfl rfl (fun E C e1 e2 e3 e4 e5 hret => ?_)
  subst e1; subst e2; subst e3; subst e4
  exact wm_X9_four C e5 h hret
-- MovingStairModel.feed(IIIII)I
def W_X9_feed (cy : Nat → ClassId) (a_t a_t_tape : Nat) (g_t_1 : Value) (g_t_2 : Value) (g_t_3 : Value) (g_t_4 : Value) (g_t_7 : Value) (g_t_8 : Value) (g_t_9 : Value) (g_t_10 : Value) (g_t_11 : Value) (g_t_12 : Value) (g_t_13 : Value) (g_t_14 : Value) (g_t_15 : Value) (g_t_16 : Value) (g_t_17 : Value) (g_t_18 : Value) (g_t_19 : Value) (g_t_20 : Value) (g_t_21 : Value) (g_t_22 : Value) (g_t_23 : Value) (g_t_24 : Value) (g_t_25 : Value) (g_t_26 : Value) (g_t_27 : Value) (g_t_28 : Value) (g_t_29 : Value) (g_t_30 : Value) (g_t_31 : Value) (g_t_32 : Value) (g_t_33 : Value) (g_t_34 : Value) (g_t_35 : Value) (g_t_36 : Value) (g_t_37 : Value) (g_t_38 : Value) (g_t_39 : Value) (g_t_40 : Value) (g_t_41 : Value) (g_t_42 : Value) (g_t_43 : Value) (c_thrown : Int) (c_taped : Int) (c_tape : Int → Int) : va_W := [(a_t, .inr (9, [.int (wI c_thrown), g_t_1, g_t_2, g_t_3, g_t_4, .ref a_t_tape, .int (wI c_taped), g_t_7, g_t_8, g_t_9, g_t_10, g_t_11, g_t_12, g_t_13, g_t_14, g_t_15, g_t_16, g_t_17, g_t_18, g_t_19, g_t_20, g_t_21, g_t_22, g_t_23, g_t_24, g_t_25, g_t_26, g_t_27, g_t_28, g_t_29, g_t_30, g_t_31, g_t_32, g_t_33, g_t_34, g_t_35, g_t_36, g_t_37, g_t_38, g_t_39, g_t_40, g_t_41, g_t_42, g_t_43])), (a_t_tape, .inl (cy 0, 900, .inl (aI c_tape)))]
def m_X9_feed (F : Nat) (x1 : Int) (x2 : Int) (x3 : Int) (x4 : Int) (x5 : Int) (c_taped : Int) (c_tape : Int → Int) : Option (Int × Int × Int × (Int → Int)) :=
  if wI (c_taped + 20) ≤ wI 900 then
    (bnd2 (m_X9_four F x1 c_taped c_tape) fun o1 o2 => bnd2 (m_X9_four F x2 o1 o2) fun o4 o5 => bnd2 (m_X9_four F x3 o4 o5) fun o7 o8 => bnd2 (m_X9_four F x4 o7 o8) fun o10 o11 => bnd2 (m_X9_four F x5 o10 o11) fun o13 o14 => some (o13, 0, o13, o14))
  else
    (some ((-1), 0, c_taped, c_tape))
section S_X9_feed
variable {E : EE} {a_t a_t_tape : Nat} {g_t_1 : Value} {g_t_2 : Value} {g_t_3 : Value} {g_t_4 : Value} {g_t_7 : Value} {g_t_8 : Value} {g_t_9 : Value} {g_t_10 : Value} {g_t_11 : Value} {g_t_12 : Value} {g_t_13 : Value} {g_t_14 : Value} {g_t_15 : Value} {g_t_16 : Value} {g_t_17 : Value} {g_t_18 : Value} {g_t_19 : Value} {g_t_20 : Value} {g_t_21 : Value} {g_t_22 : Value} {g_t_23 : Value} {g_t_24 : Value} {g_t_25 : Value} {g_t_26 : Value} {g_t_27 : Value} {g_t_28 : Value} {g_t_29 : Value} {g_t_30 : Value} {g_t_31 : Value} {g_t_32 : Value} {g_t_33 : Value} {g_t_34 : Value} {g_t_35 : Value} {g_t_36 : Value} {g_t_37 : Value} {g_t_38 : Value} {g_t_39 : Value} {g_t_40 : Value} {g_t_41 : Value} {g_t_42 : Value} {g_t_43 : Value}
set_option maxRecDepth 100000 in
set_option maxHeartbeats 4000000 in
theorem wm_X9_feed {F : Nat} {v : Int × Int × Int × (Int → Int)} {x1 : Int} {x2 : Int} {x3 : Int} {x4 : Int} {x5 : Int} {c_taped : Int} {c_tape : Int → Int} {c_thrown : Int} (C : Cx E cX9_feed RX9 { frames := 1, cells := 0, slots := 0, locals := 22 }) (hN : eN E = 6) (h : m_X9_feed F x1 x2 x3 x4 x5 c_taped c_tape = some v) (hret : ∀ (pc : Nat) (L : List (Option Value)), decode cX9_feed pc = .ok (.ireturn, 1) → GG E 0 0 (W_X9_feed (eCy E) a_t a_t_tape g_t_1 g_t_2 g_t_3 g_t_4 g_t_7 g_t_8 g_t_9 g_t_10 g_t_11 g_t_12 g_t_13 g_t_14 g_t_15 g_t_16 g_t_17 g_t_18 g_t_19 g_t_20 g_t_21 g_t_22 g_t_23 g_t_24 g_t_25 g_t_26 g_t_27 g_t_28 g_t_29 g_t_30 g_t_31 g_t_32 g_t_33 g_t_34 g_t_35 g_t_36 g_t_37 g_t_38 g_t_39 g_t_40 g_t_41 g_t_42 g_t_43 (v.2.1) (v.2.2.1) (v.2.2.2)) L pc [.int (wI (v.1))]) : GG E 0 0 (W_X9_feed (eCy E) a_t a_t_tape g_t_1 g_t_2 g_t_3 g_t_4 g_t_7 g_t_8 g_t_9 g_t_10 g_t_11 g_t_12 g_t_13 g_t_14 g_t_15 g_t_16 g_t_17 g_t_18 g_t_19 g_t_20 g_t_21 g_t_22 g_t_23 g_t_24 g_t_25 g_t_26 g_t_27 g_t_28 g_t_29 g_t_30 g_t_31 g_t_32 g_t_33 g_t_34 g_t_35 g_t_36 g_t_37 g_t_38 g_t_39 g_t_40 g_t_41 g_t_42 g_t_43 c_thrown c_taped c_tape) [some (.ref a_t), some (.int (wI x1)), some (.int (wI x2)), some (.int (wI x3)), some (.int (wI x4)), some (.int (wI x5))] 0 [] := by
  unfold m_X9_feed at h
  refine g_aload_n 0 C dX9_feed_0 rfl rfl ?_
  refine g_iconst C dX9_feed_1 ?_
  refine g_putI C fp_X9_71 0 rfl rfl (ws' := (W_X9_feed (eCy E) a_t a_t_tape g_t_1 g_t_2 g_t_3 g_t_4 g_t_7 g_t_8 g_t_9 g_t_10 g_t_11 g_t_12 g_t_13 g_t_14 g_t_15 g_t_16 g_t_17 g_t_18 g_t_19 g_t_20 g_t_21 g_t_22 g_t_23 g_t_24 g_t_25 g_t_26 g_t_27 g_t_28 g_t_29 g_t_30 g_t_31 g_t_32 g_t_33 g_t_34 g_t_35 g_t_36 g_t_37 g_t_38 g_t_39 g_t_40 g_t_41 g_t_42 g_t_43 0 c_taped c_tape)) rfl dX9_feed_2 ?_
  refine g_aload_n 0 C dX9_feed_5 rfl rfl ?_
  refine g_get C fg_X9_88 0 rfl rfl dX9_feed_6 ?_
  refine g_st (st' := [.int (wI c_taped)]) rfl ?_
  refine g_bipush C dX9_feed_9 (by decide) ?_
  refine g_iadd C dX9_feed_11 ?_
  refine g_sipush C dX9_feed_12 (by decide) ?_
  refine g_icmp_le 20 C dX9_feed_15 (by decide) h (fun h => ?_) (fun h => ?_)
  · refine g_aload_n 0 C dX9_feed_20 rfl rfl ?_
    refine g_iload_n 1 C dX9_feed_21 rfl rfl ?_
    obtain ⟨o1, o2, hr3, h⟩ := bnd2_some h
    refine g_callV [0, 1] [] [0, 1] C mt_X9_91 (c_X9_four _ _ _ _ a_t a_t_tape (.int (wI 0)) (g_t_1) (g_t_2) (g_t_3) (g_t_4) (g_t_7) (g_t_8) (g_t_9) (g_t_10) (g_t_11) (g_t_12) (g_t_13) (g_t_14) (g_t_15) (g_t_16) (g_t_17) (g_t_18) (g_t_19) (g_t_20) (g_t_21) (g_t_22) (g_t_23) (g_t_24) (g_t_25) (g_t_26) (g_t_27) (g_t_28) (g_t_29) (g_t_30) (g_t_31) (g_t_32) (g_t_33) (g_t_34) (g_t_35) (g_t_36) (g_t_37) (g_t_38) (g_t_39) (g_t_40) (g_t_41) (g_t_42) (g_t_43) x1 c_taped c_tape F hr3) (q0 := 0) rfl (ci := 9) rfl rfl rfl (ws2 := (W_X9_feed (eCy E) a_t a_t_tape g_t_1 g_t_2 g_t_3 g_t_4 g_t_7 g_t_8 g_t_9 g_t_10 g_t_11 g_t_12 g_t_13 g_t_14 g_t_15 g_t_16 g_t_17 g_t_18 g_t_19 g_t_20 g_t_21 g_t_22 g_t_23 g_t_24 g_t_25 g_t_26 g_t_27 g_t_28 g_t_29 g_t_30 g_t_31 g_t_32 g_t_33 g_t_34 g_t_35 g_t_36 g_t_37 g_t_38 g_t_39 g_t_40 g_t_41 g_t_42 g_t_43 0 o1 o2)) rfl rfl rfl (rest := []) rfl rfl rfl dX9_feed_22 ?_
    refine g_aload_n 0 C dX9_feed_25 rfl rfl ?_
    refine g_iload_n 2 C dX9_feed_26 rfl rfl ?_
    obtain ⟨o4, o5, hr6, h⟩ := bnd2_some h
    refine g_callV [0, 1] [] [0, 1] C mt_X9_91 (c_X9_four _ _ _ _ a_t a_t_tape (.int (wI 0)) (g_t_1) (g_t_2) (g_t_3) (g_t_4) (g_t_7) (g_t_8) (g_t_9) (g_t_10) (g_t_11) (g_t_12) (g_t_13) (g_t_14) (g_t_15) (g_t_16) (g_t_17) (g_t_18) (g_t_19) (g_t_20) (g_t_21) (g_t_22) (g_t_23) (g_t_24) (g_t_25) (g_t_26) (g_t_27) (g_t_28) (g_t_29) (g_t_30) (g_t_31) (g_t_32) (g_t_33) (g_t_34) (g_t_35) (g_t_36) (g_t_37) (g_t_38) (g_t_39) (g_t_40) (g_t_41) (g_t_42) (g_t_43) x2 o1 o2 F hr6) (q0 := 0) rfl (ci := 9) rfl rfl rfl (ws2 := (W_X9_feed (eCy E) a_t a_t_tape g_t_1 g_t_2 g_t_3 g_t_4 g_t_7 g_t_8 g_t_9 g_t_10 g_t_11 g_t_12 g_t_13 g_t_14 g_t_15 g_t_16 g_t_17 g_t_18 g_t_19 g_t_20 g_t_21 g_t_22 g_t_23 g_t_24 g_t_25 g_t_26 g_t_27 g_t_28 g_t_29 g_t_30 g_t_31 g_t_32 g_t_33 g_t_34 g_t_35 g_t_36 g_t_37 g_t_38 g_t_39 g_t_40 g_t_41 g_t_42 g_t_43 0 o4 o5)) rfl rfl rfl (rest := []) rfl rfl rfl dX9_feed_27 ?_
    refine g_aload_n 0 C dX9_feed_30 rfl rfl ?_
    refine g_iload_n 3 C dX9_feed_31 rfl rfl ?_
    obtain ⟨o7, o8, hr9, h⟩ := bnd2_some h
    refine g_callV [0, 1] [] [0, 1] C mt_X9_91 (c_X9_four _ _ _ _ a_t a_t_tape (.int (wI 0)) (g_t_1) (g_t_2) (g_t_3) (g_t_4) (g_t_7) (g_t_8) (g_t_9) (g_t_10) (g_t_11) (g_t_12) (g_t_13) (g_t_14) (g_t_15) (g_t_16) (g_t_17) (g_t_18) (g_t_19) (g_t_20) (g_t_21) (g_t_22) (g_t_23) (g_t_24) (g_t_25) (g_t_26) (g_t_27) (g_t_28) (g_t_29) (g_t_30) (g_t_31) (g_t_32) (g_t_33) (g_t_34) (g_t_35) (g_t_36) (g_t_37) (g_t_38) (g_t_39) (g_t_40) (g_t_41) (g_t_42) (g_t_43) x3 o4 o5 F hr9) (q0 := 0) rfl (ci := 9) rfl rfl rfl (ws2 := (W_X9_feed (eCy E) a_t a_t_tape g_t_1 g_t_2 g_t_3 g_t_4 g_t_7 g_t_8 g_t_9 g_t_10 g_t_11 g_t_12 g_t_13 g_t_14 g_t_15 g_t_16 g_t_17 g_t_18 g_t_19 g_t_20 g_t_21 g_t_22 g_t_23 g_t_24 g_t_25 g_t_26 g_t_27 g_t_28 g_t_29 g_t_30 g_t_31 g_t_32 g_t_33 g_t_34 g_t_35 g_t_36 g_t_37 g_t_38 g_t_39 g_t_40 g_t_41 g_t_42 g_t_43 0 o7 o8)) rfl rfl rfl (rest := []) rfl rfl rfl dX9_feed_32 ?_
    refine g_aload_n 0 C dX9_feed_35 rfl rfl ?_
    refine g_iload C dX9_feed_36 rfl ?_
    obtain ⟨o10, o11, hr12, h⟩ := bnd2_some h
    refine g_callV [0, 1] [] [0, 1] C mt_X9_91 (c_X9_four _ _ _ _ a_t a_t_tape (.int (wI 0)) (g_t_1) (g_t_2) (g_t_3) (g_t_4) (g_t_7) (g_t_8) (g_t_9) (g_t_10) (g_t_11) (g_t_12) (g_t_13) (g_t_14) (g_t_15) (g_t_16) (g_t_17) (g_t_18) (g_t_19) (g_t_20) (g_t_21) (g_t_22) (g_t_23) (g_t_24) (g_t_25) (g_t_26) (g_t_27) (g_t_28) (g_t_29) (g_t_30) (g_t_31) (g_t_32) (g_t_33) (g_t_34) (g_t_35) (g_t_36) (g_t_37) (g_t_38) (g_t_39) (g_t_40) (g_t_41) (g_t_42) (g_t_43) x4 o7 o8 F hr12) (q0 := 0) rfl (ci := 9) rfl rfl rfl (ws2 := (W_X9_feed (eCy E) a_t a_t_tape g_t_1 g_t_2 g_t_3 g_t_4 g_t_7 g_t_8 g_t_9 g_t_10 g_t_11 g_t_12 g_t_13 g_t_14 g_t_15 g_t_16 g_t_17 g_t_18 g_t_19 g_t_20 g_t_21 g_t_22 g_t_23 g_t_24 g_t_25 g_t_26 g_t_27 g_t_28 g_t_29 g_t_30 g_t_31 g_t_32 g_t_33 g_t_34 g_t_35 g_t_36 g_t_37 g_t_38 g_t_39 g_t_40 g_t_41 g_t_42 g_t_43 0 o10 o11)) rfl rfl rfl (rest := []) rfl rfl rfl dX9_feed_38 ?_
    refine g_aload_n 0 C dX9_feed_41 rfl rfl ?_
    refine g_iload C dX9_feed_42 rfl ?_
    obtain ⟨o13, o14, hr15, h⟩ := bnd2_some h
    refine g_callV [0, 1] [] [0, 1] C mt_X9_91 (c_X9_four _ _ _ _ a_t a_t_tape (.int (wI 0)) (g_t_1) (g_t_2) (g_t_3) (g_t_4) (g_t_7) (g_t_8) (g_t_9) (g_t_10) (g_t_11) (g_t_12) (g_t_13) (g_t_14) (g_t_15) (g_t_16) (g_t_17) (g_t_18) (g_t_19) (g_t_20) (g_t_21) (g_t_22) (g_t_23) (g_t_24) (g_t_25) (g_t_26) (g_t_27) (g_t_28) (g_t_29) (g_t_30) (g_t_31) (g_t_32) (g_t_33) (g_t_34) (g_t_35) (g_t_36) (g_t_37) (g_t_38) (g_t_39) (g_t_40) (g_t_41) (g_t_42) (g_t_43) x5 o10 o11 F hr15) (q0 := 0) rfl (ci := 9) rfl rfl rfl (ws2 := (W_X9_feed (eCy E) a_t a_t_tape g_t_1 g_t_2 g_t_3 g_t_4 g_t_7 g_t_8 g_t_9 g_t_10 g_t_11 g_t_12 g_t_13 g_t_14 g_t_15 g_t_16 g_t_17 g_t_18 g_t_19 g_t_20 g_t_21 g_t_22 g_t_23 g_t_24 g_t_25 g_t_26 g_t_27 g_t_28 g_t_29 g_t_30 g_t_31 g_t_32 g_t_33 g_t_34 g_t_35 g_t_36 g_t_37 g_t_38 g_t_39 g_t_40 g_t_41 g_t_42 g_t_43 0 o13 o14)) rfl rfl rfl (rest := []) rfl rfl rfl dX9_feed_44 ?_
    refine g_aload_n 0 C dX9_feed_47 rfl rfl ?_
    refine g_get C fg_X9_88 0 rfl rfl dX9_feed_48 ?_
    refine g_st (st' := [.int (wI o13)]) rfl ?_
    cases h
    exact hret 51 _ dX9_feed_51
  · refine g_iconst C dX9_feed_18 ?_
    cases h
    exact hret 19 _ dX9_feed_19
end S_X9_feed
set_option maxRecDepth 100000 in
set_option maxHeartbeats 4000000 in
theorem c_X9_feed (l : Launch) (D : va_G) (cy : Nat → ClassId) (ad : AD) (a_t a_t_tape : Nat) (g_t_1 : Value) (g_t_2 : Value) (g_t_3 : Value) (g_t_4 : Value) (g_t_7 : Value) (g_t_8 : Value) (g_t_9 : Value) (g_t_10 : Value) (g_t_11 : Value) (g_t_12 : Value) (g_t_13 : Value) (g_t_14 : Value) (g_t_15 : Value) (g_t_16 : Value) (g_t_17 : Value) (g_t_18 : Value) (g_t_19 : Value) (g_t_20 : Value) (g_t_21 : Value) (g_t_22 : Value) (g_t_23 : Value) (g_t_24 : Value) (g_t_25 : Value) (g_t_26 : Value) (g_t_27 : Value) (g_t_28 : Value) (g_t_29 : Value) (g_t_30 : Value) (g_t_31 : Value) (g_t_32 : Value) (g_t_33 : Value) (g_t_34 : Value) (g_t_35 : Value) (g_t_36 : Value) (g_t_37 : Value) (g_t_38 : Value) (g_t_39 : Value) (g_t_40 : Value) (g_t_41 : Value) (g_t_42 : Value) (g_t_43 : Value) (x1 : Int) (x2 : Int) (x3 : Int) (x4 : Int) (x5 : Int) (c_thrown : Int) (c_taped : Int) (c_tape : Int → Int) (F : Nat) {v : Int × Int × Int × (Int → Int)} (h : m_X9_feed F x1 x2 x3 x4 x5 c_taped c_tape = some v) : Ct l yX9_feed cX9_feed 6 (some .int) { frames := 1, cells := 0, slots := 0, locals := 22 } D cy ad [.ref a_t, .int (wI x1), .int (wI x2), .int (wI x3), .int (wI x4), .int (wI x5)] (W_X9_feed cy a_t a_t_tape g_t_1 g_t_2 g_t_3 g_t_4 g_t_7 g_t_8 g_t_9 g_t_10 g_t_11 g_t_12 g_t_13 g_t_14 g_t_15 g_t_16 g_t_17 g_t_18 g_t_19 g_t_20 g_t_21 g_t_22 g_t_23 g_t_24 g_t_25 g_t_26 g_t_27 g_t_28 g_t_29 g_t_30 g_t_31 g_t_32 g_t_33 g_t_34 g_t_35 g_t_36 g_t_37 g_t_38 g_t_39 g_t_40 g_t_41 g_t_42 g_t_43 c_thrown c_taped c_tape) (W_X9_feed cy a_t a_t_tape g_t_1 g_t_2 g_t_3 g_t_4 g_t_7 g_t_8 g_t_9 g_t_10 g_t_11 g_t_12 g_t_13 g_t_14 g_t_15 g_t_16 g_t_17 g_t_18 g_t_19 g_t_20 g_t_21 g_t_22 g_t_23 g_t_24 g_t_25 g_t_26 g_t_27 g_t_28 g_t_29 g_t_30 g_t_31 g_t_32 g_t_33 g_t_34 g_t_35 g_t_36 g_t_37 g_t_38 g_t_39 g_t_40 g_t_41 g_t_42 g_t_43 (v.2.1) (v.2.2.1) (v.2.2.2)) (some (.int (wI (v.1)))) := by
  refine Ct.introI (j := 0) (plainFor_of_name (by decide)) rfl rfl (fun E C e1 e2 e3 e4 e5 hret => ?_)
  subst e1; subst e2; subst e3; subst e4
  exact wm_X9_feed C e5 h hret
-- MovingStairModel.end(I)I
def W_X9_end (cy : Nat → ClassId) (a_t : Nat) (g_t_1 : Value) (g_t_2 : Value) (g_t_3 : Value) (g_t_4 : Value) (g_t_5 : Value) (g_t_7 : Value) (g_t_8 : Value) (g_t_9 : Value) (g_t_10 : Value) (g_t_11 : Value) (g_t_12 : Value) (g_t_13 : Value) (g_t_14 : Value) (g_t_15 : Value) (g_t_16 : Value) (g_t_17 : Value) (g_t_18 : Value) (g_t_19 : Value) (g_t_20 : Value) (g_t_21 : Value) (g_t_22 : Value) (g_t_23 : Value) (g_t_24 : Value) (g_t_25 : Value) (g_t_26 : Value) (g_t_27 : Value) (g_t_28 : Value) (g_t_29 : Value) (g_t_30 : Value) (g_t_31 : Value) (g_t_32 : Value) (g_t_33 : Value) (g_t_34 : Value) (g_t_35 : Value) (g_t_36 : Value) (g_t_37 : Value) (g_t_38 : Value) (g_t_39 : Value) (g_t_40 : Value) (g_t_41 : Value) (g_t_42 : Value) (g_t_43 : Value) (c_thrown : Int) (c_taped : Int) : va_W := [(a_t, .inr (9, [.int (wI c_thrown), g_t_1, g_t_2, g_t_3, g_t_4, g_t_5, .int (wI c_taped), g_t_7, g_t_8, g_t_9, g_t_10, g_t_11, g_t_12, g_t_13, g_t_14, g_t_15, g_t_16, g_t_17, g_t_18, g_t_19, g_t_20, g_t_21, g_t_22, g_t_23, g_t_24, g_t_25, g_t_26, g_t_27, g_t_28, g_t_29, g_t_30, g_t_31, g_t_32, g_t_33, g_t_34, g_t_35, g_t_36, g_t_37, g_t_38, g_t_39, g_t_40, g_t_41, g_t_42, g_t_43]))]
def m_X9_end (F : Nat) (x1 : Int) (c_taped : Int) : Option (Int × Int × Int) :=
  chk (r32 x1) <| chk (r32 c_taped) <| bnd1 (m_X9_in F x1 0 c_taped) fun r3 => if wI r3 = wI 0 then
    (some ((-1), 0, c_taped))
  else
    (some (x1, 0, x1))
section S_X9_end
variable {E : EE} {a_t : Nat} {g_t_1 : Value} {g_t_2 : Value} {g_t_3 : Value} {g_t_4 : Value} {g_t_5 : Value} {g_t_7 : Value} {g_t_8 : Value} {g_t_9 : Value} {g_t_10 : Value} {g_t_11 : Value} {g_t_12 : Value} {g_t_13 : Value} {g_t_14 : Value} {g_t_15 : Value} {g_t_16 : Value} {g_t_17 : Value} {g_t_18 : Value} {g_t_19 : Value} {g_t_20 : Value} {g_t_21 : Value} {g_t_22 : Value} {g_t_23 : Value} {g_t_24 : Value} {g_t_25 : Value} {g_t_26 : Value} {g_t_27 : Value} {g_t_28 : Value} {g_t_29 : Value} {g_t_30 : Value} {g_t_31 : Value} {g_t_32 : Value} {g_t_33 : Value} {g_t_34 : Value} {g_t_35 : Value} {g_t_36 : Value} {g_t_37 : Value} {g_t_38 : Value} {g_t_39 : Value} {g_t_40 : Value} {g_t_41 : Value} {g_t_42 : Value} {g_t_43 : Value}
set_option maxRecDepth 100000 in
set_option maxHeartbeats 4000000 in
theorem wm_X9_end {F : Nat} {v : Int × Int × Int} {x1 : Int} {c_taped : Int} {c_thrown : Int} (C : Cx E cX9_end RX9 { frames := 1, cells := 0, slots := 0, locals := 25 }) (hN : eN E = 2) (h : m_X9_end F x1 c_taped = some v) (hret : ∀ (pc : Nat) (L : List (Option Value)), decode cX9_end pc = .ok (.ireturn, 1) → GG E 0 0 (W_X9_end (eCy E) a_t g_t_1 g_t_2 g_t_3 g_t_4 g_t_5 g_t_7 g_t_8 g_t_9 g_t_10 g_t_11 g_t_12 g_t_13 g_t_14 g_t_15 g_t_16 g_t_17 g_t_18 g_t_19 g_t_20 g_t_21 g_t_22 g_t_23 g_t_24 g_t_25 g_t_26 g_t_27 g_t_28 g_t_29 g_t_30 g_t_31 g_t_32 g_t_33 g_t_34 g_t_35 g_t_36 g_t_37 g_t_38 g_t_39 g_t_40 g_t_41 g_t_42 g_t_43 (v.2.1) (v.2.2)) L pc [.int (wI (v.1))]) : GG E 0 0 (W_X9_end (eCy E) a_t g_t_1 g_t_2 g_t_3 g_t_4 g_t_5 g_t_7 g_t_8 g_t_9 g_t_10 g_t_11 g_t_12 g_t_13 g_t_14 g_t_15 g_t_16 g_t_17 g_t_18 g_t_19 g_t_20 g_t_21 g_t_22 g_t_23 g_t_24 g_t_25 g_t_26 g_t_27 g_t_28 g_t_29 g_t_30 g_t_31 g_t_32 g_t_33 g_t_34 g_t_35 g_t_36 g_t_37 g_t_38 g_t_39 g_t_40 g_t_41 g_t_42 g_t_43 c_thrown c_taped) [some (.ref a_t), some (.int (wI x1))] 0 [] := by
  unfold m_X9_end at h
  refine g_aload_n 0 C dX9_end_0 rfl rfl ?_
  refine g_iconst C dX9_end_1 ?_
  refine g_putI C fp_X9_71 0 rfl rfl (ws' := (W_X9_end (eCy E) a_t g_t_1 g_t_2 g_t_3 g_t_4 g_t_5 g_t_7 g_t_8 g_t_9 g_t_10 g_t_11 g_t_12 g_t_13 g_t_14 g_t_15 g_t_16 g_t_17 g_t_18 g_t_19 g_t_20 g_t_21 g_t_22 g_t_23 g_t_24 g_t_25 g_t_26 g_t_27 g_t_28 g_t_29 g_t_30 g_t_31 g_t_32 g_t_33 g_t_34 g_t_35 g_t_36 g_t_37 g_t_38 g_t_39 g_t_40 g_t_41 g_t_42 g_t_43 0 c_taped)) rfl dX9_end_2 ?_
  refine g_iload_n 1 C dX9_end_5 rfl rfl ?_
  obtain ⟨hc1, h⟩ := chk_some h
  refine g_i2l C dX9_end_6 hc1 ?_
  refine g_lconst (x := 0) C dX9_end_7 (by decide) ?_
  refine g_aload_n 0 C dX9_end_8 rfl rfl ?_
  refine g_get C fg_X9_88 0 rfl rfl dX9_end_9 ?_
  refine g_st (st' := [.int (wI c_taped), .long (wJ 0), .long (wJ x1)]) rfl ?_
  obtain ⟨hc2, h⟩ := chk_some h
  refine g_i2l C dX9_end_12 hc2 ?_
  obtain ⟨r3, hr4, h⟩ := bnd1_some h
  refine g_callSI [] [0] [0] C mt_X9_76 (c_X9_in _ _ _ _ x1 0 c_taped F hr4) rfl rfl (ws2 := (W_X9_end (eCy E) a_t g_t_1 g_t_2 g_t_3 g_t_4 g_t_5 g_t_7 g_t_8 g_t_9 g_t_10 g_t_11 g_t_12 g_t_13 g_t_14 g_t_15 g_t_16 g_t_17 g_t_18 g_t_19 g_t_20 g_t_21 g_t_22 g_t_23 g_t_24 g_t_25 g_t_26 g_t_27 g_t_28 g_t_29 g_t_30 g_t_31 g_t_32 g_t_33 g_t_34 g_t_35 g_t_36 g_t_37 g_t_38 g_t_39 g_t_40 g_t_41 g_t_42 g_t_43 0 c_taped)) rfl rfl rfl (rest := []) rfl rfl rfl dX9_end_13 ?_
  refine g_if_ne 21 C dX9_end_16 (by decide) h (fun h => ?_) (fun h => ?_)
  · refine g_aload_n 0 C dX9_end_21 rfl rfl ?_
    refine g_iload_n 1 C dX9_end_22 rfl rfl ?_
    refine g_putI C fp_X9_88 0 rfl rfl (ws' := (W_X9_end (eCy E) a_t g_t_1 g_t_2 g_t_3 g_t_4 g_t_5 g_t_7 g_t_8 g_t_9 g_t_10 g_t_11 g_t_12 g_t_13 g_t_14 g_t_15 g_t_16 g_t_17 g_t_18 g_t_19 g_t_20 g_t_21 g_t_22 g_t_23 g_t_24 g_t_25 g_t_26 g_t_27 g_t_28 g_t_29 g_t_30 g_t_31 g_t_32 g_t_33 g_t_34 g_t_35 g_t_36 g_t_37 g_t_38 g_t_39 g_t_40 g_t_41 g_t_42 g_t_43 0 x1)) rfl dX9_end_23 ?_
    refine g_iload_n 1 C dX9_end_26 rfl rfl ?_
    cases h
    exact hret 27 _ dX9_end_27
  · refine g_iconst C dX9_end_19 ?_
    cases h
    exact hret 20 _ dX9_end_20
end S_X9_end
set_option maxRecDepth 100000 in
set_option maxHeartbeats 4000000 in
theorem c_X9_end (l : Launch) (D : va_G) (cy : Nat → ClassId) (ad : AD) (a_t : Nat) (g_t_1 : Value) (g_t_2 : Value) (g_t_3 : Value) (g_t_4 : Value) (g_t_5 : Value) (g_t_7 : Value) (g_t_8 : Value) (g_t_9 : Value) (g_t_10 : Value) (g_t_11 : Value) (g_t_12 : Value) (g_t_13 : Value) (g_t_14 : Value) (g_t_15 : Value) (g_t_16 : Value) (g_t_17 : Value) (g_t_18 : Value) (g_t_19 : Value) (g_t_20 : Value) (g_t_21 : Value) (g_t_22 : Value) (g_t_23 : Value) (g_t_24 : Value) (g_t_25 : Value) (g_t_26 : Value) (g_t_27 : Value) (g_t_28 : Value) (g_t_29 : Value) (g_t_30 : Value) (g_t_31 : Value) (g_t_32 : Value) (g_t_33 : Value) (g_t_34 : Value) (g_t_35 : Value) (g_t_36 : Value) (g_t_37 : Value) (g_t_38 : Value) (g_t_39 : Value) (g_t_40 : Value) (g_t_41 : Value) (g_t_42 : Value) (g_t_43 : Value) (x1 : Int) (c_thrown : Int) (c_taped : Int) (F : Nat) {v : Int × Int × Int} (h : m_X9_end F x1 c_taped = some v) : Ct l yX9_end cX9_end 2 (some .int) { frames := 1, cells := 0, slots := 0, locals := 25 } D cy ad [.ref a_t, .int (wI x1)] (W_X9_end cy a_t g_t_1 g_t_2 g_t_3 g_t_4 g_t_5 g_t_7 g_t_8 g_t_9 g_t_10 g_t_11 g_t_12 g_t_13 g_t_14 g_t_15 g_t_16 g_t_17 g_t_18 g_t_19 g_t_20 g_t_21 g_t_22 g_t_23 g_t_24 g_t_25 g_t_26 g_t_27 g_t_28 g_t_29 g_t_30 g_t_31 g_t_32 g_t_33 g_t_34 g_t_35 g_t_36 g_t_37 g_t_38 g_t_39 g_t_40 g_t_41 g_t_42 g_t_43 c_thrown c_taped) (W_X9_end cy a_t g_t_1 g_t_2 g_t_3 g_t_4 g_t_5 g_t_7 g_t_8 g_t_9 g_t_10 g_t_11 g_t_12 g_t_13 g_t_14 g_t_15 g_t_16 g_t_17 g_t_18 g_t_19 g_t_20 g_t_21 g_t_22 g_t_23 g_t_24 g_t_25 g_t_26 g_t_27 g_t_28 g_t_29 g_t_30 g_t_31 g_t_32 g_t_33 g_t_34 g_t_35 g_t_36 g_t_37 g_t_38 g_t_39 g_t_40 g_t_41 g_t_42 g_t_43 (v.2.1) (v.2.2)) (some (.int (wI (v.1)))) := by
  refine Ct.introI (j := 0) (plainFor_of_name (by decide)) rfl rfl (fun E C e1 e2 e3 e4 e5 hret => ?_)
  subst e1; subst e2; subst e3; subst e4
  exact wm_X9_end C e5 h hret
-- MovingStairModel.isByte(III)Z
def W_X9_isByte (cy : Nat → ClassId) (a_t a_t_tape : Nat) (g_t_0 : Value) (g_t_1 : Value) (g_t_2 : Value) (g_t_3 : Value) (g_t_4 : Value) (g_t_7 : Value) (g_t_8 : Value) (g_t_9 : Value) (g_t_10 : Value) (g_t_11 : Value) (g_t_12 : Value) (g_t_13 : Value) (g_t_14 : Value) (g_t_15 : Value) (g_t_16 : Value) (g_t_17 : Value) (g_t_18 : Value) (g_t_19 : Value) (g_t_20 : Value) (g_t_21 : Value) (g_t_22 : Value) (g_t_23 : Value) (g_t_24 : Value) (g_t_25 : Value) (g_t_26 : Value) (g_t_27 : Value) (g_t_28 : Value) (g_t_29 : Value) (g_t_30 : Value) (g_t_31 : Value) (g_t_32 : Value) (g_t_33 : Value) (g_t_34 : Value) (g_t_35 : Value) (g_t_36 : Value) (g_t_37 : Value) (g_t_38 : Value) (g_t_39 : Value) (g_t_40 : Value) (g_t_41 : Value) (g_t_42 : Value) (g_t_43 : Value) (c_taped : Int) (c_tape : Int → Int) : va_W := [(a_t, .inr (9, [g_t_0, g_t_1, g_t_2, g_t_3, g_t_4, .ref a_t_tape, .int (wI c_taped), g_t_7, g_t_8, g_t_9, g_t_10, g_t_11, g_t_12, g_t_13, g_t_14, g_t_15, g_t_16, g_t_17, g_t_18, g_t_19, g_t_20, g_t_21, g_t_22, g_t_23, g_t_24, g_t_25, g_t_26, g_t_27, g_t_28, g_t_29, g_t_30, g_t_31, g_t_32, g_t_33, g_t_34, g_t_35, g_t_36, g_t_37, g_t_38, g_t_39, g_t_40, g_t_41, g_t_42, g_t_43])), (a_t_tape, .inl (cy 0, 900, .inl (aI c_tape)))]
def m_X9_isByte (F : Nat) (x1 : Int) (x2 : Int) (x3 : Int) (c_taped : Int) (c_tape : Int → Int) : Option (Int) :=
  if wI c_taped ≤ wI x1 then
    (some 0)
  else
    (chk (0 ≤ x1 ∧ x1 < 900) <| if wI (c_tape x1) < wI x2 then
    (some 0)
  else
    (chk (0 ≤ x1 ∧ x1 < 900) <| if wI x3 < wI (c_tape x1) then
    (some 0)
  else
    (some 1)))
section S_X9_isByte
variable {E : EE} {a_t a_t_tape : Nat} {g_t_0 : Value} {g_t_1 : Value} {g_t_2 : Value} {g_t_3 : Value} {g_t_4 : Value} {g_t_7 : Value} {g_t_8 : Value} {g_t_9 : Value} {g_t_10 : Value} {g_t_11 : Value} {g_t_12 : Value} {g_t_13 : Value} {g_t_14 : Value} {g_t_15 : Value} {g_t_16 : Value} {g_t_17 : Value} {g_t_18 : Value} {g_t_19 : Value} {g_t_20 : Value} {g_t_21 : Value} {g_t_22 : Value} {g_t_23 : Value} {g_t_24 : Value} {g_t_25 : Value} {g_t_26 : Value} {g_t_27 : Value} {g_t_28 : Value} {g_t_29 : Value} {g_t_30 : Value} {g_t_31 : Value} {g_t_32 : Value} {g_t_33 : Value} {g_t_34 : Value} {g_t_35 : Value} {g_t_36 : Value} {g_t_37 : Value} {g_t_38 : Value} {g_t_39 : Value} {g_t_40 : Value} {g_t_41 : Value} {g_t_42 : Value} {g_t_43 : Value}
set_option maxRecDepth 100000 in
set_option maxHeartbeats 4000000 in
theorem wm_X9_isByte {F : Nat} {v : Int} {x1 : Int} {x2 : Int} {x3 : Int} {c_taped : Int} {c_tape : Int → Int} (C : Cx E cX9_isByte RX9 { frames := 0, cells := 0, slots := 0, locals := 0 }) (hN : eN E = 4) (h : m_X9_isByte F x1 x2 x3 c_taped c_tape = some v) (hret : ∀ (pc : Nat) (L : List (Option Value)), narrow .boolean (.int (wI v)) = .int (wI v) → decode cX9_isByte pc = .ok (.ireturn, 1) → GG E 0 0 (W_X9_isByte (eCy E) a_t a_t_tape g_t_0 g_t_1 g_t_2 g_t_3 g_t_4 g_t_7 g_t_8 g_t_9 g_t_10 g_t_11 g_t_12 g_t_13 g_t_14 g_t_15 g_t_16 g_t_17 g_t_18 g_t_19 g_t_20 g_t_21 g_t_22 g_t_23 g_t_24 g_t_25 g_t_26 g_t_27 g_t_28 g_t_29 g_t_30 g_t_31 g_t_32 g_t_33 g_t_34 g_t_35 g_t_36 g_t_37 g_t_38 g_t_39 g_t_40 g_t_41 g_t_42 g_t_43 c_taped c_tape) L pc [.int (wI v)]) : GG E 0 0 (W_X9_isByte (eCy E) a_t a_t_tape g_t_0 g_t_1 g_t_2 g_t_3 g_t_4 g_t_7 g_t_8 g_t_9 g_t_10 g_t_11 g_t_12 g_t_13 g_t_14 g_t_15 g_t_16 g_t_17 g_t_18 g_t_19 g_t_20 g_t_21 g_t_22 g_t_23 g_t_24 g_t_25 g_t_26 g_t_27 g_t_28 g_t_29 g_t_30 g_t_31 g_t_32 g_t_33 g_t_34 g_t_35 g_t_36 g_t_37 g_t_38 g_t_39 g_t_40 g_t_41 g_t_42 g_t_43 c_taped c_tape) [some (.ref a_t), some (.int (wI x1)), some (.int (wI x2)), some (.int (wI x3))] 0 [] := by
  unfold m_X9_isByte at h
  refine g_iload_n 1 C dX9_isByte_0 rfl rfl ?_
  refine g_aload_n 0 C dX9_isByte_1 rfl rfl ?_
  refine g_get C fg_X9_88 0 rfl rfl dX9_isByte_2 ?_
  refine g_st (st' := [.int (wI c_taped), .int (wI x1)]) rfl ?_
  refine g_icmp_ge 32 C dX9_isByte_5 (by decide) h (fun h => ?_) (fun h => ?_)
  · refine g_iconst C dX9_isByte_32 ?_
    cases h
    exact hret 33 _ bn0 dX9_isByte_33
  · refine g_aload_n 0 C dX9_isByte_8 rfl rfl ?_
    refine g_get C fg_X9_23 0 rfl rfl dX9_isByte_9 ?_
    refine g_iload_n 1 C dX9_isByte_12 rfl rfl ?_
    obtain ⟨hc1, h⟩ := chk_some h
    refine g_bald C 1 rfl hc1 rfl dX9_isByte_13 ?_
    refine g_iload_n 2 C dX9_isByte_14 rfl rfl ?_
    refine g_icmp_lt 32 C dX9_isByte_15 (by decide) h (fun h => ?_) (fun h => ?_)
    · refine g_iconst C dX9_isByte_32 ?_
      cases h
      exact hret 33 _ bn0 dX9_isByte_33
    · refine g_aload_n 0 C dX9_isByte_18 rfl rfl ?_
      refine g_get C fg_X9_23 0 rfl rfl dX9_isByte_19 ?_
      refine g_iload_n 1 C dX9_isByte_22 rfl rfl ?_
      obtain ⟨hc2, h⟩ := chk_some h
      refine g_bald C 1 rfl hc2 rfl dX9_isByte_23 ?_
      refine g_iload_n 3 C dX9_isByte_24 rfl rfl ?_
      refine g_icmp_gt 32 C dX9_isByte_25 (by decide) h (fun h => ?_) (fun h => ?_)
      · refine g_iconst C dX9_isByte_32 ?_
        cases h
        exact hret 33 _ bn0 dX9_isByte_33
      · refine g_iconst C dX9_isByte_28 ?_
        refine g_goto (tgt := 33) C dX9_isByte_29 (by decide) ?_
        cases h
        exact hret 33 _ bn1 dX9_isByte_33
end S_X9_isByte
set_option maxRecDepth 100000 in
set_option maxHeartbeats 4000000 in
theorem c_X9_isByte (l : Launch) (D : va_G) (cy : Nat → ClassId) (ad : AD) (a_t a_t_tape : Nat) (g_t_0 : Value) (g_t_1 : Value) (g_t_2 : Value) (g_t_3 : Value) (g_t_4 : Value) (g_t_7 : Value) (g_t_8 : Value) (g_t_9 : Value) (g_t_10 : Value) (g_t_11 : Value) (g_t_12 : Value) (g_t_13 : Value) (g_t_14 : Value) (g_t_15 : Value) (g_t_16 : Value) (g_t_17 : Value) (g_t_18 : Value) (g_t_19 : Value) (g_t_20 : Value) (g_t_21 : Value) (g_t_22 : Value) (g_t_23 : Value) (g_t_24 : Value) (g_t_25 : Value) (g_t_26 : Value) (g_t_27 : Value) (g_t_28 : Value) (g_t_29 : Value) (g_t_30 : Value) (g_t_31 : Value) (g_t_32 : Value) (g_t_33 : Value) (g_t_34 : Value) (g_t_35 : Value) (g_t_36 : Value) (g_t_37 : Value) (g_t_38 : Value) (g_t_39 : Value) (g_t_40 : Value) (g_t_41 : Value) (g_t_42 : Value) (g_t_43 : Value) (x1 : Int) (x2 : Int) (x3 : Int) (c_taped : Int) (c_tape : Int → Int) (F : Nat) {v : Int} (h : m_X9_isByte F x1 x2 x3 c_taped c_tape = some v) : Ct l yX9_isByte cX9_isByte 4 (some .boolean) { frames := 0, cells := 0, slots := 0, locals := 0 } D cy ad [.ref a_t, .int (wI x1), .int (wI x2), .int (wI x3)] (W_X9_isByte cy a_t a_t_tape g_t_0 g_t_1 g_t_2 g_t_3 g_t_4 g_t_7 g_t_8 g_t_9 g_t_10 g_t_11 g_t_12 g_t_13 g_t_14 g_t_15 g_t_16 g_t_17 g_t_18 g_t_19 g_t_20 g_t_21 g_t_22 g_t_23 g_t_24 g_t_25 g_t_26 g_t_27 g_t_28 g_t_29 g_t_30 g_t_31 g_t_32 g_t_33 g_t_34 g_t_35 g_t_36 g_t_37 g_t_38 g_t_39 g_t_40 g_t_41 g_t_42 g_t_43 c_taped c_tape) (W_X9_isByte cy a_t a_t_tape g_t_0 g_t_1 g_t_2 g_t_3 g_t_4 g_t_7 g_t_8 g_t_9 g_t_10 g_t_11 g_t_12 g_t_13 g_t_14 g_t_15 g_t_16 g_t_17 g_t_18 g_t_19 g_t_20 g_t_21 g_t_22 g_t_23 g_t_24 g_t_25 g_t_26 g_t_27 g_t_28 g_t_29 g_t_30 g_t_31 g_t_32 g_t_33 g_t_34 g_t_35 g_t_36 g_t_37 g_t_38 g_t_39 g_t_40 g_t_41 g_t_42 g_t_43 c_taped c_tape) (some (.int (wI v))) := by
  refine Ct.introZ (j := 0) (plainFor_of_name (by decide)) rfl rfl (fun E C e1 e2 e3 e4 e5 hret => ?_)
  subst e1; subst e2; subst e3; subst e4
  exact wm_X9_isByte C e5 h hret
-- MovingStairModel.next()V
def W_X9_next (cy : Nat → ClassId) (a_t a_t_tape : Nat) (g_t_0 : Value) (g_t_1 : Value) (g_t_2 : Value) (g_t_3 : Value) (g_t_4 : Value) (g_t_12 : Value) (g_t_13 : Value) (g_t_14 : Value) (g_t_15 : Value) (g_t_16 : Value) (g_t_17 : Value) (g_t_18 : Value) (g_t_19 : Value) (g_t_20 : Value) (g_t_21 : Value) (g_t_22 : Value) (g_t_23 : Value) (g_t_24 : Value) (g_t_25 : Value) (g_t_26 : Value) (g_t_27 : Value) (g_t_28 : Value) (g_t_29 : Value) (g_t_30 : Value) (g_t_31 : Value) (g_t_32 : Value) (g_t_33 : Value) (g_t_34 : Value) (g_t_35 : Value) (g_t_36 : Value) (g_t_37 : Value) (g_t_38 : Value) (g_t_39 : Value) (g_t_40 : Value) (g_t_41 : Value) (g_t_42 : Value) (g_t_43 : Value) (c_taped : Int) (c_at : Int) (c_token : Int) (c_place : Int) (c_value : Int) (c_word : Int) (c_tape : Int → Int) : va_W := [(a_t, .inr (9, [g_t_0, g_t_1, g_t_2, g_t_3, g_t_4, .ref a_t_tape, .int (wI c_taped), .int (wI c_at), .int (wI c_token), .int (wI c_place), .int (wI c_value), .long (wJ c_word), g_t_12, g_t_13, g_t_14, g_t_15, g_t_16, g_t_17, g_t_18, g_t_19, g_t_20, g_t_21, g_t_22, g_t_23, g_t_24, g_t_25, g_t_26, g_t_27, g_t_28, g_t_29, g_t_30, g_t_31, g_t_32, g_t_33, g_t_34, g_t_35, g_t_36, g_t_37, g_t_38, g_t_39, g_t_40, g_t_41, g_t_42, g_t_43])), (a_t_tape, .inl (cy 0, 900, .inl (aI c_tape)))]
def mb_X9_next_30 (F : Nat) (k0 : Int → Option (Int × Int × Int × Int × Int)) (c_taped : Int) (c_at : Int) (c_tape : Int → Int) : Option (Int × Int × Int × Int × Int) :=
  nam (c_at + 1) fun y1 => k0 y1
def mb_X9_next_169 (F : Nat) (k102 : Int → Int → Int → Option (Int × Int × Int × Int × Int)) (x1 : Int) (c_taped : Int) (c_at : Int) (c_token : Int) (c_place : Int) (c_value : Int) (c_word : Int) (c_tape : Int → Int) : Option (Int × Int × Int × Int × Int) :=
  nam (c_at + 1) fun y1 => k102 (x1 + 1) y1 c_word
def mb_X9_next_153 (F : Nat) (k102 : Int → Int → Int → Option (Int × Int × Int × Int × Int)) (x1 : Int) (s1 : Int) (c_taped : Int) (c_at : Int) (c_token : Int) (c_place : Int) (c_value : Int) (c_tape : Int → Int) : Option (Int × Int × Int × Int × Int) :=
  if wI x1 ≤ wI 11 then
    (mb_X9_next_169 F k102 x1 c_taped c_at c_token c_place c_value s1 c_tape)
  else
    (mb_X9_next_169 F k102 x1 c_taped c_at c_token c_place c_value (-1) c_tape)
def mb_X9_next_102 (F : Nat) (k102 : Int → Int → Int → Option (Int × Int × Int × Int × Int)) (x1 : Int) (c_taped : Int) (c_at : Int) (c_token : Int) (c_place : Int) (c_value : Int) (c_word : Int) (c_tape : Int → Int) : Option (Int × Int × Int × Int × Int) :=
  bnd1 (m_X9_isByte F c_at 97 122 c_taped c_tape) fun r1 => if wI r1 = wI 0 then
    (some (c_at, c_token, c_place, c_value, c_word))
  else
    (if wI x1 ≤ wI 11 then
    (chk (0 ≤ c_at ∧ c_at < 900) <| chk (r32 (c_tape c_at)) <| mb_X9_next_153 F k102 x1 (((27 * c_word) + (c_tape c_at)) - 96) c_taped c_at c_token c_place c_value c_tape)
  else
    (mb_X9_next_153 F k102 x1 (-1) c_taped c_at c_token c_place c_value c_tape))
def ml_X9_next_102 (F : Nat) (x1 : Int) (c_taped : Int) (c_at : Int) (c_token : Int) (c_place : Int) (c_value : Int) (c_word : Int) (c_tape : Int → Int) : Option (Int × Int × Int × Int × Int) :=
  loopN (fun (k : Int × Int × Int → Option (Int × Int × Int × Int × Int)) q => mb_X9_next_102 F (fun y0 y1 y2 => k (y0, y1, y2)) q.1 c_taped q.2.1 c_token c_place c_value q.2.2 c_tape) F (x1, c_at, c_word)
def mb_X9_next_258 (F : Nat) (k208 : Int → Int → Option (Int × Int × Int × Int × Int)) (s1 : Int) (c_taped : Int) (c_at : Int) (c_token : Int) (c_place : Int) (c_word : Int) (c_tape : Int → Int) : Option (Int × Int × Int × Int × Int) :=
  nam (c_at + 1) fun y1 => k208 y1 s1
def mb_X9_next_208 (F : Nat) (k208 : Int → Int → Option (Int × Int × Int × Int × Int)) (c_taped : Int) (c_at : Int) (c_token : Int) (c_place : Int) (c_value : Int) (c_word : Int) (c_tape : Int → Int) : Option (Int × Int × Int × Int × Int) :=
  bnd1 (m_X9_isByte F c_at 48 57 c_taped c_tape) fun r1 => if wI r1 = wI 0 then
    (some (c_at, c_token, c_place, c_value, c_word))
  else
    (if wI c_value ≤ wI 100000 then
    (chk (0 ≤ c_at ∧ c_at < 900) <| mb_X9_next_258 F k208 (((10 * c_value) + (c_tape c_at)) - 48) c_taped c_at c_token c_place c_word c_tape)
  else
    (mb_X9_next_258 F k208 1000000 c_taped c_at c_token c_place c_word c_tape))
def ml_X9_next_208 (F : Nat) (c_taped : Int) (c_at : Int) (c_token : Int) (c_place : Int) (c_value : Int) (c_word : Int) (c_tape : Int → Int) : Option (Int × Int × Int × Int × Int) :=
  loopN (fun (k : Int × Int → Option (Int × Int × Int × Int × Int)) q => mb_X9_next_208 F (fun y0 y1 => k (y0, y1)) c_taped q.1 c_token c_place q.2 c_word c_tape) F (c_at, c_value)
def mb_X9_next_294 (F : Nat) (s1 : Int) (c_at : Int) (c_place : Int) (c_value : Int) (c_word : Int) : Option (Int × Int × Int × Int × Int) :=
  nam (c_at + 1) fun y1 => some (y1, s1, c_place, c_value, c_word)
def mb_X9_next_0 (F : Nat) (k0 : Int → Option (Int × Int × Int × Int × Int)) (c_taped : Int) (c_at : Int) (c_tape : Int → Int) : Option (Int × Int × Int × Int × Int) :=
  bnd1 (m_X9_isByte F c_at 32 32 c_taped c_tape) fun r1 => if wI r1 = wI 0 then
    (bnd1 (m_X9_isByte F c_at 10 10 c_taped c_tape) fun r3 => if wI r3 = wI 0 then
    (if wI c_at = wI c_taped then
    (some (c_at, 0, c_at, 0, 0))
  else
    (bnd1 (m_X9_isByte F c_at 97 122 c_taped c_tape) fun r5 => if wI r5 = wI 0 then
    (bnd1 (m_X9_isByte F c_at 48 57 c_taped c_tape) fun r7 => if wI r7 = wI 0 then
    (chk (0 ≤ c_at ∧ c_at < 900) <| if wI (c_tape c_at) = wI 59 then
    (mb_X9_next_294 F 3 c_at c_at 0 0)
  else
    (mb_X9_next_294 F 4 c_at c_at 0 0))
  else
    (ml_X9_next_208 F c_taped c_at 2 c_at 0 0 c_tape))
  else
    (ml_X9_next_102 F 0 c_taped c_at 1 c_at 0 0 c_tape)))
  else
    (mb_X9_next_30 F k0 c_taped c_at c_tape))
  else
    (mb_X9_next_30 F k0 c_taped c_at c_tape)
def ml_X9_next_0 (F : Nat) (c_taped : Int) (c_at : Int) (c_tape : Int → Int) : Option (Int × Int × Int × Int × Int) :=
  loopN (fun (k : Int → Option (Int × Int × Int × Int × Int)) q => mb_X9_next_0 F k c_taped q c_tape) F c_at
def m_X9_next (F : Nat) (c_taped : Int) (c_at : Int) (c_tape : Int → Int) : Option (Int × Int × Int × Int × Int) :=
  ml_X9_next_0 F c_taped c_at c_tape
section S_X9_next
variable {E : EE} {a_t a_t_tape : Nat} {g_t_0 : Value} {g_t_1 : Value} {g_t_2 : Value} {g_t_3 : Value} {g_t_4 : Value} {g_t_12 : Value} {g_t_13 : Value} {g_t_14 : Value} {g_t_15 : Value} {g_t_16 : Value} {g_t_17 : Value} {g_t_18 : Value} {g_t_19 : Value} {g_t_20 : Value} {g_t_21 : Value} {g_t_22 : Value} {g_t_23 : Value} {g_t_24 : Value} {g_t_25 : Value} {g_t_26 : Value} {g_t_27 : Value} {g_t_28 : Value} {g_t_29 : Value} {g_t_30 : Value} {g_t_31 : Value} {g_t_32 : Value} {g_t_33 : Value} {g_t_34 : Value} {g_t_35 : Value} {g_t_36 : Value} {g_t_37 : Value} {g_t_38 : Value} {g_t_39 : Value} {g_t_40 : Value} {g_t_41 : Value} {g_t_42 : Value} {g_t_43 : Value}
set_option maxRecDepth 100000 in
set_option maxHeartbeats 4000000 in
theorem wb_X9_next_30 {F : Nat} {k0 : Int → Option (Int × Int × Int × Int × Int)} {v : Int × Int × Int × Int × Int} {c_taped : Int} {c_at : Int} {c_tape : Int → Int} {c_token : Int} {c_place : Int} {c_value : Int} {c_word : Int} (C : Cx E cX9_next RX9 { frames := 1, cells := 0, slots := 0, locals := 23 }) (hN : eN E = 2) (h : mb_X9_next_30 F k0 c_taped c_at c_tape = some v) (hk0 : ∀ (y_c_at : Int) (z_c_token : Int) (z_c_place : Int) (z_c_value : Int) (z_c_word : Int), k0 y_c_at = some v → GG E 0 0 (W_X9_next (eCy E) a_t a_t_tape g_t_0 g_t_1 g_t_2 g_t_3 g_t_4 g_t_12 g_t_13 g_t_14 g_t_15 g_t_16 g_t_17 g_t_18 g_t_19 g_t_20 g_t_21 g_t_22 g_t_23 g_t_24 g_t_25 g_t_26 g_t_27 g_t_28 g_t_29 g_t_30 g_t_31 g_t_32 g_t_33 g_t_34 g_t_35 g_t_36 g_t_37 g_t_38 g_t_39 g_t_40 g_t_41 g_t_42 g_t_43 c_taped y_c_at z_c_token z_c_place z_c_value z_c_word c_tape) [some (.ref a_t), none] 0 []) (hret : ∀ (pc : Nat) (L : List (Option Value)), decode cX9_next pc = .ok (.return_, 1) → GG E 0 0 (W_X9_next (eCy E) a_t a_t_tape g_t_0 g_t_1 g_t_2 g_t_3 g_t_4 g_t_12 g_t_13 g_t_14 g_t_15 g_t_16 g_t_17 g_t_18 g_t_19 g_t_20 g_t_21 g_t_22 g_t_23 g_t_24 g_t_25 g_t_26 g_t_27 g_t_28 g_t_29 g_t_30 g_t_31 g_t_32 g_t_33 g_t_34 g_t_35 g_t_36 g_t_37 g_t_38 g_t_39 g_t_40 g_t_41 g_t_42 g_t_43 c_taped (v.1) (v.2.1) (v.2.2.1) (v.2.2.2.1) (v.2.2.2.2) c_tape) L pc []) : GG E 0 0 (W_X9_next (eCy E) a_t a_t_tape g_t_0 g_t_1 g_t_2 g_t_3 g_t_4 g_t_12 g_t_13 g_t_14 g_t_15 g_t_16 g_t_17 g_t_18 g_t_19 g_t_20 g_t_21 g_t_22 g_t_23 g_t_24 g_t_25 g_t_26 g_t_27 g_t_28 g_t_29 g_t_30 g_t_31 g_t_32 g_t_33 g_t_34 g_t_35 g_t_36 g_t_37 g_t_38 g_t_39 g_t_40 g_t_41 g_t_42 g_t_43 c_taped c_at c_token c_place c_value c_word c_tape) [some (.ref a_t), none] 30 [] := by
  unfold mb_X9_next_30 at h
  refine g_aload_n 0 C dX9_next_30 rfl rfl ?_
  refine g_dup C dX9_next_31 rfl ?_
  refine g_get C fg_X9_95 0 rfl rfl dX9_next_32 ?_
  refine g_st (st' := [.int (wI c_at), .ref a_t]) rfl ?_
  refine g_iconst C dX9_next_35 ?_
  refine g_iadd C dX9_next_36 ?_
  obtain ⟨y1, e_y1, h⟩ := nam_some h
  refine g_topI e_y1 ?_
  refine g_putI C fp_X9_95 0 rfl rfl (ws' := (W_X9_next (eCy E) a_t a_t_tape g_t_0 g_t_1 g_t_2 g_t_3 g_t_4 g_t_12 g_t_13 g_t_14 g_t_15 g_t_16 g_t_17 g_t_18 g_t_19 g_t_20 g_t_21 g_t_22 g_t_23 g_t_24 g_t_25 g_t_26 g_t_27 g_t_28 g_t_29 g_t_30 g_t_31 g_t_32 g_t_33 g_t_34 g_t_35 g_t_36 g_t_37 g_t_38 g_t_39 g_t_40 g_t_41 g_t_42 g_t_43 c_taped y1 c_token c_place c_value c_word c_tape)) rfl dX9_next_37 ?_
  refine g_goto (tgt := 0) C dX9_next_40 (by decide) ?_
  exact hk0 _ _ _ _ _ h
set_option maxRecDepth 100000 in
set_option maxHeartbeats 4000000 in
theorem wb_X9_next_169 {F : Nat} {k102 : Int → Int → Int → Option (Int × Int × Int × Int × Int)} {v : Int × Int × Int × Int × Int} {x1 : Int} {c_taped : Int} {c_at : Int} {c_token : Int} {c_place : Int} {c_value : Int} {c_word : Int} {c_tape : Int → Int} (C : Cx E cX9_next RX9 { frames := 1, cells := 0, slots := 0, locals := 23 }) (hN : eN E = 2) (h : mb_X9_next_169 F k102 x1 c_taped c_at c_token c_place c_value c_word c_tape = some v) (hk102 : ∀ (y_x1 : Int) (y_c_at : Int) (y_c_word : Int), k102 y_x1 y_c_at y_c_word = some v → GG E 0 0 (W_X9_next (eCy E) a_t a_t_tape g_t_0 g_t_1 g_t_2 g_t_3 g_t_4 g_t_12 g_t_13 g_t_14 g_t_15 g_t_16 g_t_17 g_t_18 g_t_19 g_t_20 g_t_21 g_t_22 g_t_23 g_t_24 g_t_25 g_t_26 g_t_27 g_t_28 g_t_29 g_t_30 g_t_31 g_t_32 g_t_33 g_t_34 g_t_35 g_t_36 g_t_37 g_t_38 g_t_39 g_t_40 g_t_41 g_t_42 g_t_43 c_taped y_c_at c_token c_place c_value y_c_word c_tape) [some (.ref a_t), some (.int (wI y_x1))] 102 []) (hret : ∀ (pc : Nat) (L : List (Option Value)), decode cX9_next pc = .ok (.return_, 1) → GG E 0 0 (W_X9_next (eCy E) a_t a_t_tape g_t_0 g_t_1 g_t_2 g_t_3 g_t_4 g_t_12 g_t_13 g_t_14 g_t_15 g_t_16 g_t_17 g_t_18 g_t_19 g_t_20 g_t_21 g_t_22 g_t_23 g_t_24 g_t_25 g_t_26 g_t_27 g_t_28 g_t_29 g_t_30 g_t_31 g_t_32 g_t_33 g_t_34 g_t_35 g_t_36 g_t_37 g_t_38 g_t_39 g_t_40 g_t_41 g_t_42 g_t_43 c_taped (v.1) (v.2.1) (v.2.2.1) (v.2.2.2.1) (v.2.2.2.2) c_tape) L pc []) : GG E 0 0 (W_X9_next (eCy E) a_t a_t_tape g_t_0 g_t_1 g_t_2 g_t_3 g_t_4 g_t_12 g_t_13 g_t_14 g_t_15 g_t_16 g_t_17 g_t_18 g_t_19 g_t_20 g_t_21 g_t_22 g_t_23 g_t_24 g_t_25 g_t_26 g_t_27 g_t_28 g_t_29 g_t_30 g_t_31 g_t_32 g_t_33 g_t_34 g_t_35 g_t_36 g_t_37 g_t_38 g_t_39 g_t_40 g_t_41 g_t_42 g_t_43 c_taped c_at c_token c_place c_value c_word c_tape) [some (.ref a_t), some (.int (wI x1))] 169 [] := by
  unfold mb_X9_next_169 at h
  refine g_aload_n 0 C dX9_next_169 rfl rfl ?_
  refine g_dup C dX9_next_170 rfl ?_
  refine g_get C fg_X9_95 0 rfl rfl dX9_next_171 ?_
  refine g_st (st' := [.int (wI c_at), .ref a_t]) rfl ?_
  refine g_iconst C dX9_next_174 ?_
  refine g_iadd C dX9_next_175 ?_
  obtain ⟨y1, e_y1, h⟩ := nam_some h
  refine g_topI e_y1 ?_
  refine g_putI C fp_X9_95 0 rfl rfl (ws' := (W_X9_next (eCy E) a_t a_t_tape g_t_0 g_t_1 g_t_2 g_t_3 g_t_4 g_t_12 g_t_13 g_t_14 g_t_15 g_t_16 g_t_17 g_t_18 g_t_19 g_t_20 g_t_21 g_t_22 g_t_23 g_t_24 g_t_25 g_t_26 g_t_27 g_t_28 g_t_29 g_t_30 g_t_31 g_t_32 g_t_33 g_t_34 g_t_35 g_t_36 g_t_37 g_t_38 g_t_39 g_t_40 g_t_41 g_t_42 g_t_43 c_taped y1 c_token c_place c_value c_word c_tape)) rfl dX9_next_176 ?_
  refine g_iinc C hN dX9_next_179 rfl rfl (L' := [some (.ref a_t), some (.int (wI (x1 + 1)))]) rfl ?_
  refine g_goto (tgt := 102) C dX9_next_182 (by decide) ?_
  exact hk102 _ _ _ h
set_option maxRecDepth 100000 in
set_option maxHeartbeats 4000000 in
theorem wb_X9_next_153 {F : Nat} {k102 : Int → Int → Int → Option (Int × Int × Int × Int × Int)} {v : Int × Int × Int × Int × Int} {x1 : Int} {s1 : Int} {c_taped : Int} {c_at : Int} {c_token : Int} {c_place : Int} {c_value : Int} {c_tape : Int → Int} {c_word : Int} (C : Cx E cX9_next RX9 { frames := 1, cells := 0, slots := 0, locals := 23 }) (hN : eN E = 2) (h : mb_X9_next_153 F k102 x1 s1 c_taped c_at c_token c_place c_value c_tape = some v) (hk102 : ∀ (y_x1 : Int) (y_c_at : Int) (y_c_word : Int), k102 y_x1 y_c_at y_c_word = some v → GG E 0 0 (W_X9_next (eCy E) a_t a_t_tape g_t_0 g_t_1 g_t_2 g_t_3 g_t_4 g_t_12 g_t_13 g_t_14 g_t_15 g_t_16 g_t_17 g_t_18 g_t_19 g_t_20 g_t_21 g_t_22 g_t_23 g_t_24 g_t_25 g_t_26 g_t_27 g_t_28 g_t_29 g_t_30 g_t_31 g_t_32 g_t_33 g_t_34 g_t_35 g_t_36 g_t_37 g_t_38 g_t_39 g_t_40 g_t_41 g_t_42 g_t_43 c_taped y_c_at c_token c_place c_value y_c_word c_tape) [some (.ref a_t), some (.int (wI y_x1))] 102 []) (hret : ∀ (pc : Nat) (L : List (Option Value)), decode cX9_next pc = .ok (.return_, 1) → GG E 0 0 (W_X9_next (eCy E) a_t a_t_tape g_t_0 g_t_1 g_t_2 g_t_3 g_t_4 g_t_12 g_t_13 g_t_14 g_t_15 g_t_16 g_t_17 g_t_18 g_t_19 g_t_20 g_t_21 g_t_22 g_t_23 g_t_24 g_t_25 g_t_26 g_t_27 g_t_28 g_t_29 g_t_30 g_t_31 g_t_32 g_t_33 g_t_34 g_t_35 g_t_36 g_t_37 g_t_38 g_t_39 g_t_40 g_t_41 g_t_42 g_t_43 c_taped (v.1) (v.2.1) (v.2.2.1) (v.2.2.2.1) (v.2.2.2.2) c_tape) L pc []) : GG E 0 0 (W_X9_next (eCy E) a_t a_t_tape g_t_0 g_t_1 g_t_2 g_t_3 g_t_4 g_t_12 g_t_13 g_t_14 g_t_15 g_t_16 g_t_17 g_t_18 g_t_19 g_t_20 g_t_21 g_t_22 g_t_23 g_t_24 g_t_25 g_t_26 g_t_27 g_t_28 g_t_29 g_t_30 g_t_31 g_t_32 g_t_33 g_t_34 g_t_35 g_t_36 g_t_37 g_t_38 g_t_39 g_t_40 g_t_41 g_t_42 g_t_43 c_taped c_at c_token c_place c_value c_word c_tape) [some (.ref a_t), some (.int (wI x1))] 153 [.long (wJ s1), .ref a_t] := by
  unfold mb_X9_next_153 at h
  refine g_putJ C fp_X9_108 0 rfl rfl (ws' := (W_X9_next (eCy E) a_t a_t_tape g_t_0 g_t_1 g_t_2 g_t_3 g_t_4 g_t_12 g_t_13 g_t_14 g_t_15 g_t_16 g_t_17 g_t_18 g_t_19 g_t_20 g_t_21 g_t_22 g_t_23 g_t_24 g_t_25 g_t_26 g_t_27 g_t_28 g_t_29 g_t_30 g_t_31 g_t_32 g_t_33 g_t_34 g_t_35 g_t_36 g_t_37 g_t_38 g_t_39 g_t_40 g_t_41 g_t_42 g_t_43 c_taped c_at c_token c_place c_value s1 c_tape)) rfl dX9_next_153 ?_
  refine g_iload_n 1 C dX9_next_156 rfl rfl ?_
  refine g_bipush C dX9_next_157 (by decide) ?_
  refine g_icmp_le 169 C dX9_next_159 (by decide) h (fun h => ?_) (fun h => ?_)
  · exact wb_X9_next_169 C hN h hk102 hret
  · refine g_aload_n 0 C dX9_next_162 rfl rfl ?_
    refine g_ldc2 (v := -1) C mc_X9_115 dX9_next_163 ?_
    refine g_putJ C fp_X9_108 0 rfl rfl (ws' := (W_X9_next (eCy E) a_t a_t_tape g_t_0 g_t_1 g_t_2 g_t_3 g_t_4 g_t_12 g_t_13 g_t_14 g_t_15 g_t_16 g_t_17 g_t_18 g_t_19 g_t_20 g_t_21 g_t_22 g_t_23 g_t_24 g_t_25 g_t_26 g_t_27 g_t_28 g_t_29 g_t_30 g_t_31 g_t_32 g_t_33 g_t_34 g_t_35 g_t_36 g_t_37 g_t_38 g_t_39 g_t_40 g_t_41 g_t_42 g_t_43 c_taped c_at c_token c_place c_value (-1) c_tape)) rfl dX9_next_166 ?_
    exact wb_X9_next_169 C hN h hk102 hret
set_option maxRecDepth 100000 in
set_option maxHeartbeats 4000000 in
theorem wb_X9_next_102 {F : Nat} {k102 : Int → Int → Int → Option (Int × Int × Int × Int × Int)} {v : Int × Int × Int × Int × Int} {x1 : Int} {c_taped : Int} {c_at : Int} {c_token : Int} {c_place : Int} {c_value : Int} {c_word : Int} {c_tape : Int → Int} (C : Cx E cX9_next RX9 { frames := 1, cells := 0, slots := 0, locals := 23 }) (hN : eN E = 2) (h : mb_X9_next_102 F k102 x1 c_taped c_at c_token c_place c_value c_word c_tape = some v) (hk102 : ∀ (y_x1 : Int) (y_c_at : Int) (y_c_word : Int), k102 y_x1 y_c_at y_c_word = some v → GG E 0 0 (W_X9_next (eCy E) a_t a_t_tape g_t_0 g_t_1 g_t_2 g_t_3 g_t_4 g_t_12 g_t_13 g_t_14 g_t_15 g_t_16 g_t_17 g_t_18 g_t_19 g_t_20 g_t_21 g_t_22 g_t_23 g_t_24 g_t_25 g_t_26 g_t_27 g_t_28 g_t_29 g_t_30 g_t_31 g_t_32 g_t_33 g_t_34 g_t_35 g_t_36 g_t_37 g_t_38 g_t_39 g_t_40 g_t_41 g_t_42 g_t_43 c_taped y_c_at c_token c_place c_value y_c_word c_tape) [some (.ref a_t), some (.int (wI y_x1))] 102 []) (hret : ∀ (pc : Nat) (L : List (Option Value)), decode cX9_next pc = .ok (.return_, 1) → GG E 0 0 (W_X9_next (eCy E) a_t a_t_tape g_t_0 g_t_1 g_t_2 g_t_3 g_t_4 g_t_12 g_t_13 g_t_14 g_t_15 g_t_16 g_t_17 g_t_18 g_t_19 g_t_20 g_t_21 g_t_22 g_t_23 g_t_24 g_t_25 g_t_26 g_t_27 g_t_28 g_t_29 g_t_30 g_t_31 g_t_32 g_t_33 g_t_34 g_t_35 g_t_36 g_t_37 g_t_38 g_t_39 g_t_40 g_t_41 g_t_42 g_t_43 c_taped (v.1) (v.2.1) (v.2.2.1) (v.2.2.2.1) (v.2.2.2.2) c_tape) L pc []) : GG E 0 0 (W_X9_next (eCy E) a_t a_t_tape g_t_0 g_t_1 g_t_2 g_t_3 g_t_4 g_t_12 g_t_13 g_t_14 g_t_15 g_t_16 g_t_17 g_t_18 g_t_19 g_t_20 g_t_21 g_t_22 g_t_23 g_t_24 g_t_25 g_t_26 g_t_27 g_t_28 g_t_29 g_t_30 g_t_31 g_t_32 g_t_33 g_t_34 g_t_35 g_t_36 g_t_37 g_t_38 g_t_39 g_t_40 g_t_41 g_t_42 g_t_43 c_taped c_at c_token c_place c_value c_word c_tape) [some (.ref a_t), some (.int (wI x1))] 102 [] := by
  unfold mb_X9_next_102 at h
  refine g_aload_n 0 C dX9_next_102 rfl rfl ?_
  refine g_aload_n 0 C dX9_next_103 rfl rfl ?_
  refine g_get C fg_X9_95 0 rfl rfl dX9_next_104 ?_
  refine g_st (st' := [.int (wI c_at), .ref a_t]) rfl ?_
  refine g_bipush C dX9_next_107 (by decide) ?_
  refine g_bipush C dX9_next_109 (by decide) ?_
  obtain ⟨r1, hr2, h⟩ := bnd1_some h
  refine g_callI [0, 1] [] [0, 1] C mt_X9_98 (c_X9_isByte _ _ _ _ a_t a_t_tape (g_t_0) (g_t_1) (g_t_2) (g_t_3) (g_t_4) (.int (wI c_at)) (.int (wI c_token)) (.int (wI c_place)) (.int (wI c_value)) (.long (wJ c_word)) (g_t_12) (g_t_13) (g_t_14) (g_t_15) (g_t_16) (g_t_17) (g_t_18) (g_t_19) (g_t_20) (g_t_21) (g_t_22) (g_t_23) (g_t_24) (g_t_25) (g_t_26) (g_t_27) (g_t_28) (g_t_29) (g_t_30) (g_t_31) (g_t_32) (g_t_33) (g_t_34) (g_t_35) (g_t_36) (g_t_37) (g_t_38) (g_t_39) (g_t_40) (g_t_41) (g_t_42) (g_t_43) c_at 97 122 c_taped c_tape F hr2) (q0 := 0) rfl (ci := 9) rfl rfl rfl (ws2 := (W_X9_next (eCy E) a_t a_t_tape g_t_0 g_t_1 g_t_2 g_t_3 g_t_4 g_t_12 g_t_13 g_t_14 g_t_15 g_t_16 g_t_17 g_t_18 g_t_19 g_t_20 g_t_21 g_t_22 g_t_23 g_t_24 g_t_25 g_t_26 g_t_27 g_t_28 g_t_29 g_t_30 g_t_31 g_t_32 g_t_33 g_t_34 g_t_35 g_t_36 g_t_37 g_t_38 g_t_39 g_t_40 g_t_41 g_t_42 g_t_43 c_taped c_at c_token c_place c_value c_word c_tape)) rfl rfl rfl (rest := []) rfl rfl rfl dX9_next_111 ?_
  refine g_if_eq 185 C dX9_next_114 (by decide) h (fun h => ?_) (fun h => ?_)
  · refine g_goto (tgt := 307) C dX9_next_185 (by decide) ?_
    cases h
    exact hret 307 _ dX9_next_307
  · refine g_aload_n 0 C dX9_next_117 rfl rfl ?_
    refine g_iload_n 1 C dX9_next_118 rfl rfl ?_
    refine g_bipush C dX9_next_119 (by decide) ?_
    refine g_icmp_le 130 C dX9_next_121 (by decide) h (fun h => ?_) (fun h => ?_)
    · refine g_ldc2 (v := 27) C mc_X9_117 dX9_next_130 ?_
      refine g_aload_n 0 C dX9_next_133 rfl rfl ?_
      refine g_get C fg_X9_108 0 rfl rfl dX9_next_134 ?_
      refine g_st (st' := [.long (wJ c_word), .long (wJ 27), .ref a_t]) rfl ?_
      refine g_lmul C dX9_next_137 ?_
      refine g_aload_n 0 C dX9_next_138 rfl rfl ?_
      refine g_get C fg_X9_23 0 rfl rfl dX9_next_139 ?_
      refine g_aload_n 0 C dX9_next_142 rfl rfl ?_
      refine g_get C fg_X9_95 0 rfl rfl dX9_next_143 ?_
      refine g_st (st' := [.int (wI c_at), .ref a_t_tape, .long (wJ (27 * c_word)), .ref a_t]) rfl ?_
      obtain ⟨hc3, h⟩ := chk_some h
      refine g_bald C 1 rfl hc3 rfl dX9_next_146 ?_
      obtain ⟨hc4, h⟩ := chk_some h
      refine g_i2l C dX9_next_147 hc4 ?_
      refine g_ladd C dX9_next_148 ?_
      refine g_ldc2 (v := 96) C mc_X9_119 dX9_next_149 ?_
      refine g_lsub C dX9_next_152 ?_
      exact wb_X9_next_153 C hN h hk102 hret
    · refine g_ldc2 (v := -1) C mc_X9_115 dX9_next_124 ?_
      refine g_goto (tgt := 153) C dX9_next_127 (by decide) ?_
      exact wb_X9_next_153 C hN h hk102 hret
set_option maxRecDepth 100000 in
set_option maxHeartbeats 4000000 in
theorem wl_X9_next_102 {F : Nat} {v : Int × Int × Int × Int × Int} {x1 : Int} {c_taped : Int} {c_at : Int} {c_token : Int} {c_place : Int} {c_value : Int} {c_word : Int} {c_tape : Int → Int} (C : Cx E cX9_next RX9 { frames := 1, cells := 0, slots := 0, locals := 23 }) (hN : eN E = 2) (h : ml_X9_next_102 F x1 c_taped c_at c_token c_place c_value c_word c_tape = some v) (hret : ∀ (pc : Nat) (L : List (Option Value)), decode cX9_next pc = .ok (.return_, 1) → GG E 0 0 (W_X9_next (eCy E) a_t a_t_tape g_t_0 g_t_1 g_t_2 g_t_3 g_t_4 g_t_12 g_t_13 g_t_14 g_t_15 g_t_16 g_t_17 g_t_18 g_t_19 g_t_20 g_t_21 g_t_22 g_t_23 g_t_24 g_t_25 g_t_26 g_t_27 g_t_28 g_t_29 g_t_30 g_t_31 g_t_32 g_t_33 g_t_34 g_t_35 g_t_36 g_t_37 g_t_38 g_t_39 g_t_40 g_t_41 g_t_42 g_t_43 c_taped (v.1) (v.2.1) (v.2.2.1) (v.2.2.2.1) (v.2.2.2.2) c_tape) L pc []) : GG E 0 0 (W_X9_next (eCy E) a_t a_t_tape g_t_0 g_t_1 g_t_2 g_t_3 g_t_4 g_t_12 g_t_13 g_t_14 g_t_15 g_t_16 g_t_17 g_t_18 g_t_19 g_t_20 g_t_21 g_t_22 g_t_23 g_t_24 g_t_25 g_t_26 g_t_27 g_t_28 g_t_29 g_t_30 g_t_31 g_t_32 g_t_33 g_t_34 g_t_35 g_t_36 g_t_37 g_t_38 g_t_39 g_t_40 g_t_41 g_t_42 g_t_43 c_taped c_at c_token c_place c_value c_word c_tape) [some (.ref a_t), some (.int (wI x1))] 102 [] := by
  unfold ml_X9_next_102 at h
  exact loop_walk (g := fun (q : Int × Int × Int) => GG E 0 0 (W_X9_next (eCy E) a_t a_t_tape g_t_0 g_t_1 g_t_2 g_t_3 g_t_4 g_t_12 g_t_13 g_t_14 g_t_15 g_t_16 g_t_17 g_t_18 g_t_19 g_t_20 g_t_21 g_t_22 g_t_23 g_t_24 g_t_25 g_t_26 g_t_27 g_t_28 g_t_29 g_t_30 g_t_31 g_t_32 g_t_33 g_t_34 g_t_35 g_t_36 g_t_37 g_t_38 g_t_39 g_t_40 g_t_41 g_t_42 g_t_43 c_taped (q.2.1) c_token c_place c_value (q.2.2) c_tape) [some (.ref a_t), some (.int (wI (q.1)))] 102 []) (fun k hk q h => wb_X9_next_102 C hN h (fun y0 y1 y2 hh => hk (y0, y1, y2) hh) hret) F (x1, c_at, c_word) h
set_option maxRecDepth 100000 in
set_option maxHeartbeats 4000000 in
theorem wb_X9_next_258 {F : Nat} {k208 : Int → Int → Option (Int × Int × Int × Int × Int)} {v : Int × Int × Int × Int × Int} {s1 : Int} {c_taped : Int} {c_at : Int} {c_token : Int} {c_place : Int} {c_word : Int} {c_tape : Int → Int} {c_value : Int} (C : Cx E cX9_next RX9 { frames := 1, cells := 0, slots := 0, locals := 23 }) (hN : eN E = 2) (h : mb_X9_next_258 F k208 s1 c_taped c_at c_token c_place c_word c_tape = some v) (hk208 : ∀ (y_c_at : Int) (y_c_value : Int), k208 y_c_at y_c_value = some v → GG E 0 0 (W_X9_next (eCy E) a_t a_t_tape g_t_0 g_t_1 g_t_2 g_t_3 g_t_4 g_t_12 g_t_13 g_t_14 g_t_15 g_t_16 g_t_17 g_t_18 g_t_19 g_t_20 g_t_21 g_t_22 g_t_23 g_t_24 g_t_25 g_t_26 g_t_27 g_t_28 g_t_29 g_t_30 g_t_31 g_t_32 g_t_33 g_t_34 g_t_35 g_t_36 g_t_37 g_t_38 g_t_39 g_t_40 g_t_41 g_t_42 g_t_43 c_taped y_c_at c_token c_place y_c_value c_word c_tape) [some (.ref a_t), none] 208 []) (hret : ∀ (pc : Nat) (L : List (Option Value)), decode cX9_next pc = .ok (.return_, 1) → GG E 0 0 (W_X9_next (eCy E) a_t a_t_tape g_t_0 g_t_1 g_t_2 g_t_3 g_t_4 g_t_12 g_t_13 g_t_14 g_t_15 g_t_16 g_t_17 g_t_18 g_t_19 g_t_20 g_t_21 g_t_22 g_t_23 g_t_24 g_t_25 g_t_26 g_t_27 g_t_28 g_t_29 g_t_30 g_t_31 g_t_32 g_t_33 g_t_34 g_t_35 g_t_36 g_t_37 g_t_38 g_t_39 g_t_40 g_t_41 g_t_42 g_t_43 c_taped (v.1) (v.2.1) (v.2.2.1) (v.2.2.2.1) (v.2.2.2.2) c_tape) L pc []) : GG E 0 0 (W_X9_next (eCy E) a_t a_t_tape g_t_0 g_t_1 g_t_2 g_t_3 g_t_4 g_t_12 g_t_13 g_t_14 g_t_15 g_t_16 g_t_17 g_t_18 g_t_19 g_t_20 g_t_21 g_t_22 g_t_23 g_t_24 g_t_25 g_t_26 g_t_27 g_t_28 g_t_29 g_t_30 g_t_31 g_t_32 g_t_33 g_t_34 g_t_35 g_t_36 g_t_37 g_t_38 g_t_39 g_t_40 g_t_41 g_t_42 g_t_43 c_taped c_at c_token c_place c_value c_word c_tape) [some (.ref a_t), none] 258 [.int (wI s1), .ref a_t] := by
  unfold mb_X9_next_258 at h
  refine g_putI C fp_X9_105 0 rfl rfl (ws' := (W_X9_next (eCy E) a_t a_t_tape g_t_0 g_t_1 g_t_2 g_t_3 g_t_4 g_t_12 g_t_13 g_t_14 g_t_15 g_t_16 g_t_17 g_t_18 g_t_19 g_t_20 g_t_21 g_t_22 g_t_23 g_t_24 g_t_25 g_t_26 g_t_27 g_t_28 g_t_29 g_t_30 g_t_31 g_t_32 g_t_33 g_t_34 g_t_35 g_t_36 g_t_37 g_t_38 g_t_39 g_t_40 g_t_41 g_t_42 g_t_43 c_taped c_at c_token c_place s1 c_word c_tape)) rfl dX9_next_258 ?_
  refine g_aload_n 0 C dX9_next_261 rfl rfl ?_
  refine g_dup C dX9_next_262 rfl ?_
  refine g_get C fg_X9_95 0 rfl rfl dX9_next_263 ?_
  refine g_st (st' := [.int (wI c_at), .ref a_t]) rfl ?_
  refine g_iconst C dX9_next_266 ?_
  refine g_iadd C dX9_next_267 ?_
  obtain ⟨y1, e_y1, h⟩ := nam_some h
  refine g_topI e_y1 ?_
  refine g_putI C fp_X9_95 0 rfl rfl (ws' := (W_X9_next (eCy E) a_t a_t_tape g_t_0 g_t_1 g_t_2 g_t_3 g_t_4 g_t_12 g_t_13 g_t_14 g_t_15 g_t_16 g_t_17 g_t_18 g_t_19 g_t_20 g_t_21 g_t_22 g_t_23 g_t_24 g_t_25 g_t_26 g_t_27 g_t_28 g_t_29 g_t_30 g_t_31 g_t_32 g_t_33 g_t_34 g_t_35 g_t_36 g_t_37 g_t_38 g_t_39 g_t_40 g_t_41 g_t_42 g_t_43 c_taped y1 c_token c_place s1 c_word c_tape)) rfl dX9_next_268 ?_
  refine g_goto (tgt := 208) C dX9_next_271 (by decide) ?_
  exact hk208 _ _ h
set_option maxRecDepth 100000 in
set_option maxHeartbeats 4000000 in
theorem wb_X9_next_208 {F : Nat} {k208 : Int → Int → Option (Int × Int × Int × Int × Int)} {v : Int × Int × Int × Int × Int} {c_taped : Int} {c_at : Int} {c_token : Int} {c_place : Int} {c_value : Int} {c_word : Int} {c_tape : Int → Int} (C : Cx E cX9_next RX9 { frames := 1, cells := 0, slots := 0, locals := 23 }) (hN : eN E = 2) (h : mb_X9_next_208 F k208 c_taped c_at c_token c_place c_value c_word c_tape = some v) (hk208 : ∀ (y_c_at : Int) (y_c_value : Int), k208 y_c_at y_c_value = some v → GG E 0 0 (W_X9_next (eCy E) a_t a_t_tape g_t_0 g_t_1 g_t_2 g_t_3 g_t_4 g_t_12 g_t_13 g_t_14 g_t_15 g_t_16 g_t_17 g_t_18 g_t_19 g_t_20 g_t_21 g_t_22 g_t_23 g_t_24 g_t_25 g_t_26 g_t_27 g_t_28 g_t_29 g_t_30 g_t_31 g_t_32 g_t_33 g_t_34 g_t_35 g_t_36 g_t_37 g_t_38 g_t_39 g_t_40 g_t_41 g_t_42 g_t_43 c_taped y_c_at c_token c_place y_c_value c_word c_tape) [some (.ref a_t), none] 208 []) (hret : ∀ (pc : Nat) (L : List (Option Value)), decode cX9_next pc = .ok (.return_, 1) → GG E 0 0 (W_X9_next (eCy E) a_t a_t_tape g_t_0 g_t_1 g_t_2 g_t_3 g_t_4 g_t_12 g_t_13 g_t_14 g_t_15 g_t_16 g_t_17 g_t_18 g_t_19 g_t_20 g_t_21 g_t_22 g_t_23 g_t_24 g_t_25 g_t_26 g_t_27 g_t_28 g_t_29 g_t_30 g_t_31 g_t_32 g_t_33 g_t_34 g_t_35 g_t_36 g_t_37 g_t_38 g_t_39 g_t_40 g_t_41 g_t_42 g_t_43 c_taped (v.1) (v.2.1) (v.2.2.1) (v.2.2.2.1) (v.2.2.2.2) c_tape) L pc []) : GG E 0 0 (W_X9_next (eCy E) a_t a_t_tape g_t_0 g_t_1 g_t_2 g_t_3 g_t_4 g_t_12 g_t_13 g_t_14 g_t_15 g_t_16 g_t_17 g_t_18 g_t_19 g_t_20 g_t_21 g_t_22 g_t_23 g_t_24 g_t_25 g_t_26 g_t_27 g_t_28 g_t_29 g_t_30 g_t_31 g_t_32 g_t_33 g_t_34 g_t_35 g_t_36 g_t_37 g_t_38 g_t_39 g_t_40 g_t_41 g_t_42 g_t_43 c_taped c_at c_token c_place c_value c_word c_tape) [some (.ref a_t), none] 208 [] := by
  unfold mb_X9_next_208 at h
  refine g_aload_n 0 C dX9_next_208 rfl rfl ?_
  refine g_aload_n 0 C dX9_next_209 rfl rfl ?_
  refine g_get C fg_X9_95 0 rfl rfl dX9_next_210 ?_
  refine g_st (st' := [.int (wI c_at), .ref a_t]) rfl ?_
  refine g_bipush C dX9_next_213 (by decide) ?_
  refine g_bipush C dX9_next_215 (by decide) ?_
  obtain ⟨r1, hr2, h⟩ := bnd1_some h
  refine g_callI [0, 1] [] [0, 1] C mt_X9_98 (c_X9_isByte _ _ _ _ a_t a_t_tape (g_t_0) (g_t_1) (g_t_2) (g_t_3) (g_t_4) (.int (wI c_at)) (.int (wI c_token)) (.int (wI c_place)) (.int (wI c_value)) (.long (wJ c_word)) (g_t_12) (g_t_13) (g_t_14) (g_t_15) (g_t_16) (g_t_17) (g_t_18) (g_t_19) (g_t_20) (g_t_21) (g_t_22) (g_t_23) (g_t_24) (g_t_25) (g_t_26) (g_t_27) (g_t_28) (g_t_29) (g_t_30) (g_t_31) (g_t_32) (g_t_33) (g_t_34) (g_t_35) (g_t_36) (g_t_37) (g_t_38) (g_t_39) (g_t_40) (g_t_41) (g_t_42) (g_t_43) c_at 48 57 c_taped c_tape F hr2) (q0 := 0) rfl (ci := 9) rfl rfl rfl (ws2 := (W_X9_next (eCy E) a_t a_t_tape g_t_0 g_t_1 g_t_2 g_t_3 g_t_4 g_t_12 g_t_13 g_t_14 g_t_15 g_t_16 g_t_17 g_t_18 g_t_19 g_t_20 g_t_21 g_t_22 g_t_23 g_t_24 g_t_25 g_t_26 g_t_27 g_t_28 g_t_29 g_t_30 g_t_31 g_t_32 g_t_33 g_t_34 g_t_35 g_t_36 g_t_37 g_t_38 g_t_39 g_t_40 g_t_41 g_t_42 g_t_43 c_taped c_at c_token c_place c_value c_word c_tape)) rfl rfl rfl (rest := []) rfl rfl rfl dX9_next_217 ?_
  refine g_if_eq 307 C dX9_next_220 (by decide) h (fun h => ?_) (fun h => ?_)
  · cases h
    exact hret 307 _ dX9_next_307
  · refine g_aload_n 0 C dX9_next_223 rfl rfl ?_
    refine g_aload_n 0 C dX9_next_224 rfl rfl ?_
    refine g_get C fg_X9_105 0 rfl rfl dX9_next_225 ?_
    refine g_st (st' := [.int (wI c_value), .ref a_t]) rfl ?_
    refine g_ldc (v := 100000) C mc_X9_121 dX9_next_228 ?_
    refine g_icmp_le 238 C dX9_next_230 (by decide) h (fun h => ?_) (fun h => ?_)
    · refine g_bipush C dX9_next_238 (by decide) ?_
      refine g_aload_n 0 C dX9_next_240 rfl rfl ?_
      refine g_get C fg_X9_105 0 rfl rfl dX9_next_241 ?_
      refine g_st (st' := [.int (wI c_value), .int (wI 10), .ref a_t]) rfl ?_
      refine g_imul C dX9_next_244 ?_
      refine g_aload_n 0 C dX9_next_245 rfl rfl ?_
      refine g_get C fg_X9_23 0 rfl rfl dX9_next_246 ?_
      refine g_aload_n 0 C dX9_next_249 rfl rfl ?_
      refine g_get C fg_X9_95 0 rfl rfl dX9_next_250 ?_
      refine g_st (st' := [.int (wI c_at), .ref a_t_tape, .int (wI (10 * c_value)), .ref a_t]) rfl ?_
      obtain ⟨hc3, h⟩ := chk_some h
      refine g_bald C 1 rfl hc3 rfl dX9_next_253 ?_
      refine g_iadd C dX9_next_254 ?_
      refine g_bipush C dX9_next_255 (by decide) ?_
      refine g_isub C dX9_next_257 ?_
      exact wb_X9_next_258 C hN h hk208 hret
    · refine g_ldc (v := 1000000) C mc_X9_122 dX9_next_233 ?_
      refine g_goto (tgt := 258) C dX9_next_235 (by decide) ?_
      exact wb_X9_next_258 C hN h hk208 hret
set_option maxRecDepth 100000 in
set_option maxHeartbeats 4000000 in
theorem wl_X9_next_208 {F : Nat} {v : Int × Int × Int × Int × Int} {c_taped : Int} {c_at : Int} {c_token : Int} {c_place : Int} {c_value : Int} {c_word : Int} {c_tape : Int → Int} (C : Cx E cX9_next RX9 { frames := 1, cells := 0, slots := 0, locals := 23 }) (hN : eN E = 2) (h : ml_X9_next_208 F c_taped c_at c_token c_place c_value c_word c_tape = some v) (hret : ∀ (pc : Nat) (L : List (Option Value)), decode cX9_next pc = .ok (.return_, 1) → GG E 0 0 (W_X9_next (eCy E) a_t a_t_tape g_t_0 g_t_1 g_t_2 g_t_3 g_t_4 g_t_12 g_t_13 g_t_14 g_t_15 g_t_16 g_t_17 g_t_18 g_t_19 g_t_20 g_t_21 g_t_22 g_t_23 g_t_24 g_t_25 g_t_26 g_t_27 g_t_28 g_t_29 g_t_30 g_t_31 g_t_32 g_t_33 g_t_34 g_t_35 g_t_36 g_t_37 g_t_38 g_t_39 g_t_40 g_t_41 g_t_42 g_t_43 c_taped (v.1) (v.2.1) (v.2.2.1) (v.2.2.2.1) (v.2.2.2.2) c_tape) L pc []) : GG E 0 0 (W_X9_next (eCy E) a_t a_t_tape g_t_0 g_t_1 g_t_2 g_t_3 g_t_4 g_t_12 g_t_13 g_t_14 g_t_15 g_t_16 g_t_17 g_t_18 g_t_19 g_t_20 g_t_21 g_t_22 g_t_23 g_t_24 g_t_25 g_t_26 g_t_27 g_t_28 g_t_29 g_t_30 g_t_31 g_t_32 g_t_33 g_t_34 g_t_35 g_t_36 g_t_37 g_t_38 g_t_39 g_t_40 g_t_41 g_t_42 g_t_43 c_taped c_at c_token c_place c_value c_word c_tape) [some (.ref a_t), none] 208 [] := by
  unfold ml_X9_next_208 at h
  exact loop_walk (g := fun (q : Int × Int) => GG E 0 0 (W_X9_next (eCy E) a_t a_t_tape g_t_0 g_t_1 g_t_2 g_t_3 g_t_4 g_t_12 g_t_13 g_t_14 g_t_15 g_t_16 g_t_17 g_t_18 g_t_19 g_t_20 g_t_21 g_t_22 g_t_23 g_t_24 g_t_25 g_t_26 g_t_27 g_t_28 g_t_29 g_t_30 g_t_31 g_t_32 g_t_33 g_t_34 g_t_35 g_t_36 g_t_37 g_t_38 g_t_39 g_t_40 g_t_41 g_t_42 g_t_43 c_taped (q.1) c_token c_place (q.2) c_word c_tape) [some (.ref a_t), none] 208 []) (fun k hk q h => wb_X9_next_208 C hN h (fun y0 y1 hh => hk (y0, y1) hh) hret) F (c_at, c_value) h
set_option maxRecDepth 100000 in
set_option maxHeartbeats 4000000 in
theorem wb_X9_next_294 {F : Nat} {v : Int × Int × Int × Int × Int} {s1 : Int} {c_at : Int} {c_place : Int} {c_value : Int} {c_word : Int} {c_taped : Int} {c_token : Int} {c_tape : Int → Int} (C : Cx E cX9_next RX9 { frames := 1, cells := 0, slots := 0, locals := 23 }) (hN : eN E = 2) (h : mb_X9_next_294 F s1 c_at c_place c_value c_word = some v) (hret : ∀ (pc : Nat) (L : List (Option Value)), decode cX9_next pc = .ok (.return_, 1) → GG E 0 0 (W_X9_next (eCy E) a_t a_t_tape g_t_0 g_t_1 g_t_2 g_t_3 g_t_4 g_t_12 g_t_13 g_t_14 g_t_15 g_t_16 g_t_17 g_t_18 g_t_19 g_t_20 g_t_21 g_t_22 g_t_23 g_t_24 g_t_25 g_t_26 g_t_27 g_t_28 g_t_29 g_t_30 g_t_31 g_t_32 g_t_33 g_t_34 g_t_35 g_t_36 g_t_37 g_t_38 g_t_39 g_t_40 g_t_41 g_t_42 g_t_43 c_taped (v.1) (v.2.1) (v.2.2.1) (v.2.2.2.1) (v.2.2.2.2) c_tape) L pc []) : GG E 0 0 (W_X9_next (eCy E) a_t a_t_tape g_t_0 g_t_1 g_t_2 g_t_3 g_t_4 g_t_12 g_t_13 g_t_14 g_t_15 g_t_16 g_t_17 g_t_18 g_t_19 g_t_20 g_t_21 g_t_22 g_t_23 g_t_24 g_t_25 g_t_26 g_t_27 g_t_28 g_t_29 g_t_30 g_t_31 g_t_32 g_t_33 g_t_34 g_t_35 g_t_36 g_t_37 g_t_38 g_t_39 g_t_40 g_t_41 g_t_42 g_t_43 c_taped c_at c_token c_place c_value c_word c_tape) [some (.ref a_t), none] 294 [.int (wI s1), .ref a_t] := by
  unfold mb_X9_next_294 at h
  refine g_putI C fp_X9_112 0 rfl rfl (ws' := (W_X9_next (eCy E) a_t a_t_tape g_t_0 g_t_1 g_t_2 g_t_3 g_t_4 g_t_12 g_t_13 g_t_14 g_t_15 g_t_16 g_t_17 g_t_18 g_t_19 g_t_20 g_t_21 g_t_22 g_t_23 g_t_24 g_t_25 g_t_26 g_t_27 g_t_28 g_t_29 g_t_30 g_t_31 g_t_32 g_t_33 g_t_34 g_t_35 g_t_36 g_t_37 g_t_38 g_t_39 g_t_40 g_t_41 g_t_42 g_t_43 c_taped c_at s1 c_place c_value c_word c_tape)) rfl dX9_next_294 ?_
  refine g_aload_n 0 C dX9_next_297 rfl rfl ?_
  refine g_dup C dX9_next_298 rfl ?_
  refine g_get C fg_X9_95 0 rfl rfl dX9_next_299 ?_
  refine g_st (st' := [.int (wI c_at), .ref a_t]) rfl ?_
  refine g_iconst C dX9_next_302 ?_
  refine g_iadd C dX9_next_303 ?_
  obtain ⟨y1, e_y1, h⟩ := nam_some h
  refine g_topI e_y1 ?_
  refine g_putI C fp_X9_95 0 rfl rfl (ws' := (W_X9_next (eCy E) a_t a_t_tape g_t_0 g_t_1 g_t_2 g_t_3 g_t_4 g_t_12 g_t_13 g_t_14 g_t_15 g_t_16 g_t_17 g_t_18 g_t_19 g_t_20 g_t_21 g_t_22 g_t_23 g_t_24 g_t_25 g_t_26 g_t_27 g_t_28 g_t_29 g_t_30 g_t_31 g_t_32 g_t_33 g_t_34 g_t_35 g_t_36 g_t_37 g_t_38 g_t_39 g_t_40 g_t_41 g_t_42 g_t_43 c_taped y1 s1 c_place c_value c_word c_tape)) rfl dX9_next_304 ?_
  cases h
  exact hret 307 _ dX9_next_307
set_option maxRecDepth 100000 in
set_option maxHeartbeats 4000000 in
theorem wb_X9_next_0 {F : Nat} {k0 : Int → Option (Int × Int × Int × Int × Int)} {v : Int × Int × Int × Int × Int} {c_taped : Int} {c_at : Int} {c_tape : Int → Int} {c_token : Int} {c_place : Int} {c_value : Int} {c_word : Int} (C : Cx E cX9_next RX9 { frames := 1, cells := 0, slots := 0, locals := 23 }) (hN : eN E = 2) (h : mb_X9_next_0 F k0 c_taped c_at c_tape = some v) (hk0 : ∀ (y_c_at : Int) (z_c_token : Int) (z_c_place : Int) (z_c_value : Int) (z_c_word : Int), k0 y_c_at = some v → GG E 0 0 (W_X9_next (eCy E) a_t a_t_tape g_t_0 g_t_1 g_t_2 g_t_3 g_t_4 g_t_12 g_t_13 g_t_14 g_t_15 g_t_16 g_t_17 g_t_18 g_t_19 g_t_20 g_t_21 g_t_22 g_t_23 g_t_24 g_t_25 g_t_26 g_t_27 g_t_28 g_t_29 g_t_30 g_t_31 g_t_32 g_t_33 g_t_34 g_t_35 g_t_36 g_t_37 g_t_38 g_t_39 g_t_40 g_t_41 g_t_42 g_t_43 c_taped y_c_at z_c_token z_c_place z_c_value z_c_word c_tape) [some (.ref a_t), none] 0 []) (hret : ∀ (pc : Nat) (L : List (Option Value)), decode cX9_next pc = .ok (.return_, 1) → GG E 0 0 (W_X9_next (eCy E) a_t a_t_tape g_t_0 g_t_1 g_t_2 g_t_3 g_t_4 g_t_12 g_t_13 g_t_14 g_t_15 g_t_16 g_t_17 g_t_18 g_t_19 g_t_20 g_t_21 g_t_22 g_t_23 g_t_24 g_t_25 g_t_26 g_t_27 g_t_28 g_t_29 g_t_30 g_t_31 g_t_32 g_t_33 g_t_34 g_t_35 g_t_36 g_t_37 g_t_38 g_t_39 g_t_40 g_t_41 g_t_42 g_t_43 c_taped (v.1) (v.2.1) (v.2.2.1) (v.2.2.2.1) (v.2.2.2.2) c_tape) L pc []) : GG E 0 0 (W_X9_next (eCy E) a_t a_t_tape g_t_0 g_t_1 g_t_2 g_t_3 g_t_4 g_t_12 g_t_13 g_t_14 g_t_15 g_t_16 g_t_17 g_t_18 g_t_19 g_t_20 g_t_21 g_t_22 g_t_23 g_t_24 g_t_25 g_t_26 g_t_27 g_t_28 g_t_29 g_t_30 g_t_31 g_t_32 g_t_33 g_t_34 g_t_35 g_t_36 g_t_37 g_t_38 g_t_39 g_t_40 g_t_41 g_t_42 g_t_43 c_taped c_at c_token c_place c_value c_word c_tape) [some (.ref a_t), none] 0 [] := by
  unfold mb_X9_next_0 at h
  refine g_aload_n 0 C dX9_next_0 rfl rfl ?_
  refine g_aload_n 0 C dX9_next_1 rfl rfl ?_
  refine g_get C fg_X9_95 0 rfl rfl dX9_next_2 ?_
  refine g_st (st' := [.int (wI c_at), .ref a_t]) rfl ?_
  refine g_bipush C dX9_next_5 (by decide) ?_
  refine g_bipush C dX9_next_7 (by decide) ?_
  obtain ⟨r1, hr2, h⟩ := bnd1_some h
  refine g_callI [0, 1] [] [0, 1] C mt_X9_98 (c_X9_isByte _ _ _ _ a_t a_t_tape (g_t_0) (g_t_1) (g_t_2) (g_t_3) (g_t_4) (.int (wI c_at)) (.int (wI c_token)) (.int (wI c_place)) (.int (wI c_value)) (.long (wJ c_word)) (g_t_12) (g_t_13) (g_t_14) (g_t_15) (g_t_16) (g_t_17) (g_t_18) (g_t_19) (g_t_20) (g_t_21) (g_t_22) (g_t_23) (g_t_24) (g_t_25) (g_t_26) (g_t_27) (g_t_28) (g_t_29) (g_t_30) (g_t_31) (g_t_32) (g_t_33) (g_t_34) (g_t_35) (g_t_36) (g_t_37) (g_t_38) (g_t_39) (g_t_40) (g_t_41) (g_t_42) (g_t_43) c_at 32 32 c_taped c_tape F hr2) (q0 := 0) rfl (ci := 9) rfl rfl rfl (ws2 := (W_X9_next (eCy E) a_t a_t_tape g_t_0 g_t_1 g_t_2 g_t_3 g_t_4 g_t_12 g_t_13 g_t_14 g_t_15 g_t_16 g_t_17 g_t_18 g_t_19 g_t_20 g_t_21 g_t_22 g_t_23 g_t_24 g_t_25 g_t_26 g_t_27 g_t_28 g_t_29 g_t_30 g_t_31 g_t_32 g_t_33 g_t_34 g_t_35 g_t_36 g_t_37 g_t_38 g_t_39 g_t_40 g_t_41 g_t_42 g_t_43 c_taped c_at c_token c_place c_value c_word c_tape)) rfl rfl rfl (rest := []) rfl rfl rfl dX9_next_9 ?_
  refine g_if_ne 30 C dX9_next_12 (by decide) h (fun h => ?_) (fun h => ?_)
  · exact wb_X9_next_30 C hN h hk0 hret
  · refine g_aload_n 0 C dX9_next_15 rfl rfl ?_
    refine g_aload_n 0 C dX9_next_16 rfl rfl ?_
    refine g_get C fg_X9_95 0 rfl rfl dX9_next_17 ?_
    refine g_st (st' := [.int (wI c_at), .ref a_t]) rfl ?_
    refine g_bipush C dX9_next_20 (by decide) ?_
    refine g_bipush C dX9_next_22 (by decide) ?_
    obtain ⟨r3, hr4, h⟩ := bnd1_some h
    refine g_callI [0, 1] [] [0, 1] C mt_X9_98 (c_X9_isByte _ _ _ _ a_t a_t_tape (g_t_0) (g_t_1) (g_t_2) (g_t_3) (g_t_4) (.int (wI c_at)) (.int (wI c_token)) (.int (wI c_place)) (.int (wI c_value)) (.long (wJ c_word)) (g_t_12) (g_t_13) (g_t_14) (g_t_15) (g_t_16) (g_t_17) (g_t_18) (g_t_19) (g_t_20) (g_t_21) (g_t_22) (g_t_23) (g_t_24) (g_t_25) (g_t_26) (g_t_27) (g_t_28) (g_t_29) (g_t_30) (g_t_31) (g_t_32) (g_t_33) (g_t_34) (g_t_35) (g_t_36) (g_t_37) (g_t_38) (g_t_39) (g_t_40) (g_t_41) (g_t_42) (g_t_43) c_at 10 10 c_taped c_tape F hr4) (q0 := 0) rfl (ci := 9) rfl rfl rfl (ws2 := (W_X9_next (eCy E) a_t a_t_tape g_t_0 g_t_1 g_t_2 g_t_3 g_t_4 g_t_12 g_t_13 g_t_14 g_t_15 g_t_16 g_t_17 g_t_18 g_t_19 g_t_20 g_t_21 g_t_22 g_t_23 g_t_24 g_t_25 g_t_26 g_t_27 g_t_28 g_t_29 g_t_30 g_t_31 g_t_32 g_t_33 g_t_34 g_t_35 g_t_36 g_t_37 g_t_38 g_t_39 g_t_40 g_t_41 g_t_42 g_t_43 c_taped c_at c_token c_place c_value c_word c_tape)) rfl rfl rfl (rest := []) rfl rfl rfl dX9_next_24 ?_
    refine g_if_eq 43 C dX9_next_27 (by decide) h (fun h => ?_) (fun h => ?_)
    · refine g_aload_n 0 C dX9_next_43 rfl rfl ?_
      refine g_aload_n 0 C dX9_next_44 rfl rfl ?_
      refine g_get C fg_X9_95 0 rfl rfl dX9_next_45 ?_
      refine g_st (st' := [.int (wI c_at), .ref a_t]) rfl ?_
      refine g_putI C fp_X9_102 0 rfl rfl (ws' := (W_X9_next (eCy E) a_t a_t_tape g_t_0 g_t_1 g_t_2 g_t_3 g_t_4 g_t_12 g_t_13 g_t_14 g_t_15 g_t_16 g_t_17 g_t_18 g_t_19 g_t_20 g_t_21 g_t_22 g_t_23 g_t_24 g_t_25 g_t_26 g_t_27 g_t_28 g_t_29 g_t_30 g_t_31 g_t_32 g_t_33 g_t_34 g_t_35 g_t_36 g_t_37 g_t_38 g_t_39 g_t_40 g_t_41 g_t_42 g_t_43 c_taped c_at c_token c_at c_value c_word c_tape)) rfl dX9_next_48 ?_
      refine g_aload_n 0 C dX9_next_51 rfl rfl ?_
      refine g_iconst C dX9_next_52 ?_
      refine g_putI C fp_X9_105 0 rfl rfl (ws' := (W_X9_next (eCy E) a_t a_t_tape g_t_0 g_t_1 g_t_2 g_t_3 g_t_4 g_t_12 g_t_13 g_t_14 g_t_15 g_t_16 g_t_17 g_t_18 g_t_19 g_t_20 g_t_21 g_t_22 g_t_23 g_t_24 g_t_25 g_t_26 g_t_27 g_t_28 g_t_29 g_t_30 g_t_31 g_t_32 g_t_33 g_t_34 g_t_35 g_t_36 g_t_37 g_t_38 g_t_39 g_t_40 g_t_41 g_t_42 g_t_43 c_taped c_at c_token c_at 0 c_word c_tape)) rfl dX9_next_53 ?_
      refine g_aload_n 0 C dX9_next_56 rfl rfl ?_
      refine g_lconst (x := 0) C dX9_next_57 (by decide) ?_
      refine g_putJ C fp_X9_108 0 rfl rfl (ws' := (W_X9_next (eCy E) a_t a_t_tape g_t_0 g_t_1 g_t_2 g_t_3 g_t_4 g_t_12 g_t_13 g_t_14 g_t_15 g_t_16 g_t_17 g_t_18 g_t_19 g_t_20 g_t_21 g_t_22 g_t_23 g_t_24 g_t_25 g_t_26 g_t_27 g_t_28 g_t_29 g_t_30 g_t_31 g_t_32 g_t_33 g_t_34 g_t_35 g_t_36 g_t_37 g_t_38 g_t_39 g_t_40 g_t_41 g_t_42 g_t_43 c_taped c_at c_token c_at 0 0 c_tape)) rfl dX9_next_58 ?_
      refine g_aload_n 0 C dX9_next_61 rfl rfl ?_
      refine g_get C fg_X9_95 0 rfl rfl dX9_next_62 ?_
      refine g_st (st' := [.int (wI c_at)]) rfl ?_
      refine g_aload_n 0 C dX9_next_65 rfl rfl ?_
      refine g_get C fg_X9_88 0 rfl rfl dX9_next_66 ?_
      refine g_st (st' := [.int (wI c_taped), .int (wI c_at)]) rfl ?_
      refine g_icmp_ne 80 C dX9_next_69 (by decide) h (fun h => ?_) (fun h => ?_)
      · refine g_aload_n 0 C dX9_next_80 rfl rfl ?_
        refine g_aload_n 0 C dX9_next_81 rfl rfl ?_
        refine g_get C fg_X9_95 0 rfl rfl dX9_next_82 ?_
        refine g_st (st' := [.int (wI c_at), .ref a_t]) rfl ?_
        refine g_bipush C dX9_next_85 (by decide) ?_
        refine g_bipush C dX9_next_87 (by decide) ?_
        obtain ⟨r5, hr6, h⟩ := bnd1_some h
        refine g_callI [0, 1] [] [0, 1] C mt_X9_98 (c_X9_isByte _ _ _ _ a_t a_t_tape (g_t_0) (g_t_1) (g_t_2) (g_t_3) (g_t_4) (.int (wI c_at)) (.int (wI c_token)) (.int (wI c_at)) (.int (wI 0)) (.long (wJ 0)) (g_t_12) (g_t_13) (g_t_14) (g_t_15) (g_t_16) (g_t_17) (g_t_18) (g_t_19) (g_t_20) (g_t_21) (g_t_22) (g_t_23) (g_t_24) (g_t_25) (g_t_26) (g_t_27) (g_t_28) (g_t_29) (g_t_30) (g_t_31) (g_t_32) (g_t_33) (g_t_34) (g_t_35) (g_t_36) (g_t_37) (g_t_38) (g_t_39) (g_t_40) (g_t_41) (g_t_42) (g_t_43) c_at 97 122 c_taped c_tape F hr6) (q0 := 0) rfl (ci := 9) rfl rfl rfl (ws2 := (W_X9_next (eCy E) a_t a_t_tape g_t_0 g_t_1 g_t_2 g_t_3 g_t_4 g_t_12 g_t_13 g_t_14 g_t_15 g_t_16 g_t_17 g_t_18 g_t_19 g_t_20 g_t_21 g_t_22 g_t_23 g_t_24 g_t_25 g_t_26 g_t_27 g_t_28 g_t_29 g_t_30 g_t_31 g_t_32 g_t_33 g_t_34 g_t_35 g_t_36 g_t_37 g_t_38 g_t_39 g_t_40 g_t_41 g_t_42 g_t_43 c_taped c_at c_token c_at 0 0 c_tape)) rfl rfl rfl (rest := []) rfl rfl rfl dX9_next_89 ?_
        refine g_if_eq 188 C dX9_next_92 (by decide) h (fun h => ?_) (fun h => ?_)
        · refine g_aload_n 0 C dX9_next_188 rfl rfl ?_
          refine g_aload_n 0 C dX9_next_189 rfl rfl ?_
          refine g_get C fg_X9_95 0 rfl rfl dX9_next_190 ?_
          refine g_st (st' := [.int (wI c_at), .ref a_t]) rfl ?_
          refine g_bipush C dX9_next_193 (by decide) ?_
          refine g_bipush C dX9_next_195 (by decide) ?_
          obtain ⟨r7, hr8, h⟩ := bnd1_some h
          refine g_callI [0, 1] [] [0, 1] C mt_X9_98 (c_X9_isByte _ _ _ _ a_t a_t_tape (g_t_0) (g_t_1) (g_t_2) (g_t_3) (g_t_4) (.int (wI c_at)) (.int (wI c_token)) (.int (wI c_at)) (.int (wI 0)) (.long (wJ 0)) (g_t_12) (g_t_13) (g_t_14) (g_t_15) (g_t_16) (g_t_17) (g_t_18) (g_t_19) (g_t_20) (g_t_21) (g_t_22) (g_t_23) (g_t_24) (g_t_25) (g_t_26) (g_t_27) (g_t_28) (g_t_29) (g_t_30) (g_t_31) (g_t_32) (g_t_33) (g_t_34) (g_t_35) (g_t_36) (g_t_37) (g_t_38) (g_t_39) (g_t_40) (g_t_41) (g_t_42) (g_t_43) c_at 48 57 c_taped c_tape F hr8) (q0 := 0) rfl (ci := 9) rfl rfl rfl (ws2 := (W_X9_next (eCy E) a_t a_t_tape g_t_0 g_t_1 g_t_2 g_t_3 g_t_4 g_t_12 g_t_13 g_t_14 g_t_15 g_t_16 g_t_17 g_t_18 g_t_19 g_t_20 g_t_21 g_t_22 g_t_23 g_t_24 g_t_25 g_t_26 g_t_27 g_t_28 g_t_29 g_t_30 g_t_31 g_t_32 g_t_33 g_t_34 g_t_35 g_t_36 g_t_37 g_t_38 g_t_39 g_t_40 g_t_41 g_t_42 g_t_43 c_taped c_at c_token c_at 0 0 c_tape)) rfl rfl rfl (rest := []) rfl rfl rfl dX9_next_197 ?_
          refine g_if_eq 274 C dX9_next_200 (by decide) h (fun h => ?_) (fun h => ?_)
          · refine g_aload_n 0 C dX9_next_274 rfl rfl ?_
            refine g_aload_n 0 C dX9_next_275 rfl rfl ?_
            refine g_get C fg_X9_23 0 rfl rfl dX9_next_276 ?_
            refine g_aload_n 0 C dX9_next_279 rfl rfl ?_
            refine g_get C fg_X9_95 0 rfl rfl dX9_next_280 ?_
            refine g_st (st' := [.int (wI c_at), .ref a_t_tape, .ref a_t]) rfl ?_
            obtain ⟨hc9, h⟩ := chk_some h
            refine g_bald C 1 rfl hc9 rfl dX9_next_283 ?_
            refine g_bipush C dX9_next_284 (by decide) ?_
            refine g_icmp_ne 293 C dX9_next_286 (by decide) h (fun h => ?_) (fun h => ?_)
            · refine g_iconst C dX9_next_293 ?_
              exact wb_X9_next_294 C hN h hret
            · refine g_iconst C dX9_next_289 ?_
              refine g_goto (tgt := 294) C dX9_next_290 (by decide) ?_
              exact wb_X9_next_294 C hN h hret
          · refine g_aload_n 0 C dX9_next_203 rfl rfl ?_
            refine g_iconst C dX9_next_204 ?_
            refine g_putI C fp_X9_112 0 rfl rfl (ws' := (W_X9_next (eCy E) a_t a_t_tape g_t_0 g_t_1 g_t_2 g_t_3 g_t_4 g_t_12 g_t_13 g_t_14 g_t_15 g_t_16 g_t_17 g_t_18 g_t_19 g_t_20 g_t_21 g_t_22 g_t_23 g_t_24 g_t_25 g_t_26 g_t_27 g_t_28 g_t_29 g_t_30 g_t_31 g_t_32 g_t_33 g_t_34 g_t_35 g_t_36 g_t_37 g_t_38 g_t_39 g_t_40 g_t_41 g_t_42 g_t_43 c_taped c_at 2 c_at 0 0 c_tape)) rfl dX9_next_205 ?_
            exact wl_X9_next_208 C hN h hret
        · refine g_aload_n 0 C dX9_next_95 rfl rfl ?_
          refine g_iconst C dX9_next_96 ?_
          refine g_putI C fp_X9_112 0 rfl rfl (ws' := (W_X9_next (eCy E) a_t a_t_tape g_t_0 g_t_1 g_t_2 g_t_3 g_t_4 g_t_12 g_t_13 g_t_14 g_t_15 g_t_16 g_t_17 g_t_18 g_t_19 g_t_20 g_t_21 g_t_22 g_t_23 g_t_24 g_t_25 g_t_26 g_t_27 g_t_28 g_t_29 g_t_30 g_t_31 g_t_32 g_t_33 g_t_34 g_t_35 g_t_36 g_t_37 g_t_38 g_t_39 g_t_40 g_t_41 g_t_42 g_t_43 c_taped c_at 1 c_at 0 0 c_tape)) rfl dX9_next_97 ?_
          refine g_iconst C dX9_next_100 ?_
          refine g_istore_n 1 C hN dX9_next_101 rfl rfl (L' := [some (.ref a_t), some (.int (wI 0))]) rfl ?_
          exact wl_X9_next_102 C hN h hret
      · refine g_aload_n 0 C dX9_next_72 rfl rfl ?_
        refine g_iconst C dX9_next_73 ?_
        refine g_putI C fp_X9_112 0 rfl rfl (ws' := (W_X9_next (eCy E) a_t a_t_tape g_t_0 g_t_1 g_t_2 g_t_3 g_t_4 g_t_12 g_t_13 g_t_14 g_t_15 g_t_16 g_t_17 g_t_18 g_t_19 g_t_20 g_t_21 g_t_22 g_t_23 g_t_24 g_t_25 g_t_26 g_t_27 g_t_28 g_t_29 g_t_30 g_t_31 g_t_32 g_t_33 g_t_34 g_t_35 g_t_36 g_t_37 g_t_38 g_t_39 g_t_40 g_t_41 g_t_42 g_t_43 c_taped c_at 0 c_at 0 0 c_tape)) rfl dX9_next_74 ?_
        refine g_goto (tgt := 307) C dX9_next_77 (by decide) ?_
        cases h
        exact hret 307 _ dX9_next_307
    · exact wb_X9_next_30 C hN h hk0 hret
set_option maxRecDepth 100000 in
set_option maxHeartbeats 4000000 in
theorem wl_X9_next_0 {F : Nat} {v : Int × Int × Int × Int × Int} {c_taped : Int} {c_at : Int} {c_tape : Int → Int} {c_token : Int} {c_place : Int} {c_value : Int} {c_word : Int} (C : Cx E cX9_next RX9 { frames := 1, cells := 0, slots := 0, locals := 23 }) (hN : eN E = 2) (h : ml_X9_next_0 F c_taped c_at c_tape = some v) (hret : ∀ (pc : Nat) (L : List (Option Value)), decode cX9_next pc = .ok (.return_, 1) → GG E 0 0 (W_X9_next (eCy E) a_t a_t_tape g_t_0 g_t_1 g_t_2 g_t_3 g_t_4 g_t_12 g_t_13 g_t_14 g_t_15 g_t_16 g_t_17 g_t_18 g_t_19 g_t_20 g_t_21 g_t_22 g_t_23 g_t_24 g_t_25 g_t_26 g_t_27 g_t_28 g_t_29 g_t_30 g_t_31 g_t_32 g_t_33 g_t_34 g_t_35 g_t_36 g_t_37 g_t_38 g_t_39 g_t_40 g_t_41 g_t_42 g_t_43 c_taped (v.1) (v.2.1) (v.2.2.1) (v.2.2.2.1) (v.2.2.2.2) c_tape) L pc []) : GG E 0 0 (W_X9_next (eCy E) a_t a_t_tape g_t_0 g_t_1 g_t_2 g_t_3 g_t_4 g_t_12 g_t_13 g_t_14 g_t_15 g_t_16 g_t_17 g_t_18 g_t_19 g_t_20 g_t_21 g_t_22 g_t_23 g_t_24 g_t_25 g_t_26 g_t_27 g_t_28 g_t_29 g_t_30 g_t_31 g_t_32 g_t_33 g_t_34 g_t_35 g_t_36 g_t_37 g_t_38 g_t_39 g_t_40 g_t_41 g_t_42 g_t_43 c_taped c_at c_token c_place c_value c_word c_tape) [some (.ref a_t), none] 0 [] := by
  unfold ml_X9_next_0 at h
  exact loop_walk (g := fun (q : Int) => ∀ (z_c_token : Int) (z_c_place : Int) (z_c_value : Int) (z_c_word : Int), GG E 0 0 (W_X9_next (eCy E) a_t a_t_tape g_t_0 g_t_1 g_t_2 g_t_3 g_t_4 g_t_12 g_t_13 g_t_14 g_t_15 g_t_16 g_t_17 g_t_18 g_t_19 g_t_20 g_t_21 g_t_22 g_t_23 g_t_24 g_t_25 g_t_26 g_t_27 g_t_28 g_t_29 g_t_30 g_t_31 g_t_32 g_t_33 g_t_34 g_t_35 g_t_36 g_t_37 g_t_38 g_t_39 g_t_40 g_t_41 g_t_42 g_t_43 c_taped q z_c_token z_c_place z_c_value z_c_word c_tape) [some (.ref a_t), none] 0 []) (fun k hk q h z_c_token z_c_place z_c_value z_c_word => wb_X9_next_0 C hN h (fun y0 u0 u1 u2 u3 hh => hk y0 hh u0 u1 u2 u3) hret) F c_at h _ _ _ _
set_option maxRecDepth 100000 in
set_option maxHeartbeats 4000000 in
theorem wm_X9_next {F : Nat} {v : Int × Int × Int × Int × Int} {c_taped : Int} {c_at : Int} {c_tape : Int → Int} {c_token : Int} {c_place : Int} {c_value : Int} {c_word : Int} (C : Cx E cX9_next RX9 { frames := 1, cells := 0, slots := 0, locals := 23 }) (hN : eN E = 2) (h : m_X9_next F c_taped c_at c_tape = some v) (hret : ∀ (pc : Nat) (L : List (Option Value)), decode cX9_next pc = .ok (.return_, 1) → GG E 0 0 (W_X9_next (eCy E) a_t a_t_tape g_t_0 g_t_1 g_t_2 g_t_3 g_t_4 g_t_12 g_t_13 g_t_14 g_t_15 g_t_16 g_t_17 g_t_18 g_t_19 g_t_20 g_t_21 g_t_22 g_t_23 g_t_24 g_t_25 g_t_26 g_t_27 g_t_28 g_t_29 g_t_30 g_t_31 g_t_32 g_t_33 g_t_34 g_t_35 g_t_36 g_t_37 g_t_38 g_t_39 g_t_40 g_t_41 g_t_42 g_t_43 c_taped (v.1) (v.2.1) (v.2.2.1) (v.2.2.2.1) (v.2.2.2.2) c_tape) L pc []) : GG E 0 0 (W_X9_next (eCy E) a_t a_t_tape g_t_0 g_t_1 g_t_2 g_t_3 g_t_4 g_t_12 g_t_13 g_t_14 g_t_15 g_t_16 g_t_17 g_t_18 g_t_19 g_t_20 g_t_21 g_t_22 g_t_23 g_t_24 g_t_25 g_t_26 g_t_27 g_t_28 g_t_29 g_t_30 g_t_31 g_t_32 g_t_33 g_t_34 g_t_35 g_t_36 g_t_37 g_t_38 g_t_39 g_t_40 g_t_41 g_t_42 g_t_43 c_taped c_at c_token c_place c_value c_word c_tape) [some (.ref a_t), none] 0 [] := by
  unfold m_X9_next at h
  exact wl_X9_next_0 C hN h hret
end S_X9_next
set_option maxRecDepth 100000 in
set_option maxHeartbeats 4000000 in
theorem c_X9_next (l : Launch) (D : va_G) (cy : Nat → ClassId) (ad : AD) (a_t a_t_tape : Nat) (g_t_0 : Value) (g_t_1 : Value) (g_t_2 : Value) (g_t_3 : Value) (g_t_4 : Value) (g_t_12 : Value) (g_t_13 : Value) (g_t_14 : Value) (g_t_15 : Value) (g_t_16 : Value) (g_t_17 : Value) (g_t_18 : Value) (g_t_19 : Value) (g_t_20 : Value) (g_t_21 : Value) (g_t_22 : Value) (g_t_23 : Value) (g_t_24 : Value) (g_t_25 : Value) (g_t_26 : Value) (g_t_27 : Value) (g_t_28 : Value) (g_t_29 : Value) (g_t_30 : Value) (g_t_31 : Value) (g_t_32 : Value) (g_t_33 : Value) (g_t_34 : Value) (g_t_35 : Value) (g_t_36 : Value) (g_t_37 : Value) (g_t_38 : Value) (g_t_39 : Value) (g_t_40 : Value) (g_t_41 : Value) (g_t_42 : Value) (g_t_43 : Value) (c_taped : Int) (c_at : Int) (c_token : Int) (c_place : Int) (c_value : Int) (c_word : Int) (c_tape : Int → Int) (F : Nat) {v : Int × Int × Int × Int × Int} (h : m_X9_next F c_taped c_at c_tape = some v) : Ct l yX9_next cX9_next 2 none { frames := 1, cells := 0, slots := 0, locals := 23 } D cy ad [.ref a_t] (W_X9_next cy a_t a_t_tape g_t_0 g_t_1 g_t_2 g_t_3 g_t_4 g_t_12 g_t_13 g_t_14 g_t_15 g_t_16 g_t_17 g_t_18 g_t_19 g_t_20 g_t_21 g_t_22 g_t_23 g_t_24 g_t_25 g_t_26 g_t_27 g_t_28 g_t_29 g_t_30 g_t_31 g_t_32 g_t_33 g_t_34 g_t_35 g_t_36 g_t_37 g_t_38 g_t_39 g_t_40 g_t_41 g_t_42 g_t_43 c_taped c_at c_token c_place c_value c_word c_tape) (W_X9_next cy a_t a_t_tape g_t_0 g_t_1 g_t_2 g_t_3 g_t_4 g_t_12 g_t_13 g_t_14 g_t_15 g_t_16 g_t_17 g_t_18 g_t_19 g_t_20 g_t_21 g_t_22 g_t_23 g_t_24 g_t_25 g_t_26 g_t_27 g_t_28 g_t_29 g_t_30 g_t_31 g_t_32 g_t_33 g_t_34 g_t_35 g_t_36 g_t_37 g_t_38 g_t_39 g_t_40 g_t_41 g_t_42 g_t_43 c_taped (v.1) (v.2.1) (v.2.2.1) (v.2.2.2.1) (v.2.2.2.2) c_tape) none := by
  refine Ct.introV (j := 1) (plainFor_of_name (by decide)) rfl rfl (fun E C e1 e2 e3 e4 e5 hret => ?_)
  subst e1; subst e2; subst e3; subst e4
  exact wm_X9_next C e5 h hret
-- MovingStairModel.isGood()Z
def W_X9_isGood (cy : Nat → ClassId) (a_t : Nat) (g_t_0 : Value) (g_t_1 : Value) (g_t_2 : Value) (g_t_3 : Value) (g_t_4 : Value) (g_t_5 : Value) (g_t_6 : Value) (g_t_7 : Value) (g_t_8 : Value) (g_t_9 : Value) (g_t_10 : Value) (g_t_11 : Value) (g_t_13 : Value) (g_t_14 : Value) (g_t_15 : Value) (g_t_16 : Value) (g_t_17 : Value) (g_t_18 : Value) (g_t_19 : Value) (g_t_20 : Value) (g_t_21 : Value) (g_t_22 : Value) (g_t_23 : Value) (g_t_24 : Value) (g_t_25 : Value) (g_t_26 : Value) (g_t_27 : Value) (g_t_28 : Value) (g_t_29 : Value) (g_t_30 : Value) (g_t_31 : Value) (g_t_32 : Value) (g_t_33 : Value) (g_t_34 : Value) (g_t_35 : Value) (g_t_36 : Value) (g_t_37 : Value) (g_t_38 : Value) (g_t_39 : Value) (g_t_40 : Value) (g_t_41 : Value) (g_t_42 : Value) (g_t_43 : Value) (c_bad : Int) : va_W := [(a_t, .inr (9, [g_t_0, g_t_1, g_t_2, g_t_3, g_t_4, g_t_5, g_t_6, g_t_7, g_t_8, g_t_9, g_t_10, g_t_11, .int (wI c_bad), g_t_13, g_t_14, g_t_15, g_t_16, g_t_17, g_t_18, g_t_19, g_t_20, g_t_21, g_t_22, g_t_23, g_t_24, g_t_25, g_t_26, g_t_27, g_t_28, g_t_29, g_t_30, g_t_31, g_t_32, g_t_33, g_t_34, g_t_35, g_t_36, g_t_37, g_t_38, g_t_39, g_t_40, g_t_41, g_t_42, g_t_43]))]
def m_X9_isGood (F : Nat) (c_bad : Int) : Option (Int) :=
  if wI c_bad = wI 0 then
    (some 1)
  else
    (some 0)
section S_X9_isGood
variable {E : EE} {a_t : Nat} {g_t_0 : Value} {g_t_1 : Value} {g_t_2 : Value} {g_t_3 : Value} {g_t_4 : Value} {g_t_5 : Value} {g_t_6 : Value} {g_t_7 : Value} {g_t_8 : Value} {g_t_9 : Value} {g_t_10 : Value} {g_t_11 : Value} {g_t_13 : Value} {g_t_14 : Value} {g_t_15 : Value} {g_t_16 : Value} {g_t_17 : Value} {g_t_18 : Value} {g_t_19 : Value} {g_t_20 : Value} {g_t_21 : Value} {g_t_22 : Value} {g_t_23 : Value} {g_t_24 : Value} {g_t_25 : Value} {g_t_26 : Value} {g_t_27 : Value} {g_t_28 : Value} {g_t_29 : Value} {g_t_30 : Value} {g_t_31 : Value} {g_t_32 : Value} {g_t_33 : Value} {g_t_34 : Value} {g_t_35 : Value} {g_t_36 : Value} {g_t_37 : Value} {g_t_38 : Value} {g_t_39 : Value} {g_t_40 : Value} {g_t_41 : Value} {g_t_42 : Value} {g_t_43 : Value}
set_option maxRecDepth 100000 in
set_option maxHeartbeats 4000000 in
theorem wm_X9_isGood {F : Nat} {v : Int} {c_bad : Int} (C : Cx E cX9_isGood RX9 { frames := 0, cells := 0, slots := 0, locals := 0 }) (hN : eN E = 1) (h : m_X9_isGood F c_bad = some v) (hret : ∀ (pc : Nat) (L : List (Option Value)), narrow .boolean (.int (wI v)) = .int (wI v) → decode cX9_isGood pc = .ok (.ireturn, 1) → GG E 0 0 (W_X9_isGood (eCy E) a_t g_t_0 g_t_1 g_t_2 g_t_3 g_t_4 g_t_5 g_t_6 g_t_7 g_t_8 g_t_9 g_t_10 g_t_11 g_t_13 g_t_14 g_t_15 g_t_16 g_t_17 g_t_18 g_t_19 g_t_20 g_t_21 g_t_22 g_t_23 g_t_24 g_t_25 g_t_26 g_t_27 g_t_28 g_t_29 g_t_30 g_t_31 g_t_32 g_t_33 g_t_34 g_t_35 g_t_36 g_t_37 g_t_38 g_t_39 g_t_40 g_t_41 g_t_42 g_t_43 c_bad) L pc [.int (wI v)]) : GG E 0 0 (W_X9_isGood (eCy E) a_t g_t_0 g_t_1 g_t_2 g_t_3 g_t_4 g_t_5 g_t_6 g_t_7 g_t_8 g_t_9 g_t_10 g_t_11 g_t_13 g_t_14 g_t_15 g_t_16 g_t_17 g_t_18 g_t_19 g_t_20 g_t_21 g_t_22 g_t_23 g_t_24 g_t_25 g_t_26 g_t_27 g_t_28 g_t_29 g_t_30 g_t_31 g_t_32 g_t_33 g_t_34 g_t_35 g_t_36 g_t_37 g_t_38 g_t_39 g_t_40 g_t_41 g_t_42 g_t_43 c_bad) [some (.ref a_t)] 0 [] := by
  unfold m_X9_isGood at h
  refine g_aload_n 0 C dX9_isGood_0 rfl rfl ?_
  refine g_get C fg_X9_123 0 rfl rfl dX9_isGood_1 ?_
  refine g_st (st' := [.int (wI c_bad)]) rfl ?_
  refine g_if_ne 11 C dX9_isGood_4 (by decide) h (fun h => ?_) (fun h => ?_)
  · refine g_iconst C dX9_isGood_11 ?_
    cases h
    exact hret 12 _ bn0 dX9_isGood_12
  · refine g_iconst C dX9_isGood_7 ?_
    refine g_goto (tgt := 12) C dX9_isGood_8 (by decide) ?_
    cases h
    exact hret 12 _ bn1 dX9_isGood_12
end S_X9_isGood
set_option maxRecDepth 100000 in
set_option maxHeartbeats 4000000 in
theorem c_X9_isGood (l : Launch) (D : va_G) (cy : Nat → ClassId) (ad : AD) (a_t : Nat) (g_t_0 : Value) (g_t_1 : Value) (g_t_2 : Value) (g_t_3 : Value) (g_t_4 : Value) (g_t_5 : Value) (g_t_6 : Value) (g_t_7 : Value) (g_t_8 : Value) (g_t_9 : Value) (g_t_10 : Value) (g_t_11 : Value) (g_t_13 : Value) (g_t_14 : Value) (g_t_15 : Value) (g_t_16 : Value) (g_t_17 : Value) (g_t_18 : Value) (g_t_19 : Value) (g_t_20 : Value) (g_t_21 : Value) (g_t_22 : Value) (g_t_23 : Value) (g_t_24 : Value) (g_t_25 : Value) (g_t_26 : Value) (g_t_27 : Value) (g_t_28 : Value) (g_t_29 : Value) (g_t_30 : Value) (g_t_31 : Value) (g_t_32 : Value) (g_t_33 : Value) (g_t_34 : Value) (g_t_35 : Value) (g_t_36 : Value) (g_t_37 : Value) (g_t_38 : Value) (g_t_39 : Value) (g_t_40 : Value) (g_t_41 : Value) (g_t_42 : Value) (g_t_43 : Value) (c_bad : Int) (F : Nat) {v : Int} (h : m_X9_isGood F c_bad = some v) : Ct l yX9_isGood cX9_isGood 1 (some .boolean) { frames := 0, cells := 0, slots := 0, locals := 0 } D cy ad [.ref a_t] (W_X9_isGood cy a_t g_t_0 g_t_1 g_t_2 g_t_3 g_t_4 g_t_5 g_t_6 g_t_7 g_t_8 g_t_9 g_t_10 g_t_11 g_t_13 g_t_14 g_t_15 g_t_16 g_t_17 g_t_18 g_t_19 g_t_20 g_t_21 g_t_22 g_t_23 g_t_24 g_t_25 g_t_26 g_t_27 g_t_28 g_t_29 g_t_30 g_t_31 g_t_32 g_t_33 g_t_34 g_t_35 g_t_36 g_t_37 g_t_38 g_t_39 g_t_40 g_t_41 g_t_42 g_t_43 c_bad) (W_X9_isGood cy a_t g_t_0 g_t_1 g_t_2 g_t_3 g_t_4 g_t_5 g_t_6 g_t_7 g_t_8 g_t_9 g_t_10 g_t_11 g_t_13 g_t_14 g_t_15 g_t_16 g_t_17 g_t_18 g_t_19 g_t_20 g_t_21 g_t_22 g_t_23 g_t_24 g_t_25 g_t_26 g_t_27 g_t_28 g_t_29 g_t_30 g_t_31 g_t_32 g_t_33 g_t_34 g_t_35 g_t_36 g_t_37 g_t_38 g_t_39 g_t_40 g_t_41 g_t_42 g_t_43 c_bad) (some (.int (wI v))) := by
  refine Ct.introZ (j := 0) (plainFor_of_name (by decide)) rfl rfl (fun E C e1 e2 e3 e4 e5 hret => ?_)
  subst e1; subst e2; subst e3; subst e4
  exact wm_X9_isGood C e5 h hret
-- MovingStairModel.fails(I)V
def W_X9_fails (cy : Nat → ClassId) (a_t : Nat) (g_t_0 : Value) (g_t_1 : Value) (g_t_2 : Value) (g_t_3 : Value) (g_t_4 : Value) (g_t_5 : Value) (g_t_6 : Value) (g_t_7 : Value) (g_t_8 : Value) (g_t_10 : Value) (g_t_11 : Value) (g_t_14 : Value) (g_t_15 : Value) (g_t_16 : Value) (g_t_17 : Value) (g_t_18 : Value) (g_t_19 : Value) (g_t_20 : Value) (g_t_21 : Value) (g_t_22 : Value) (g_t_23 : Value) (g_t_24 : Value) (g_t_25 : Value) (g_t_26 : Value) (g_t_27 : Value) (g_t_28 : Value) (g_t_29 : Value) (g_t_30 : Value) (g_t_31 : Value) (g_t_32 : Value) (g_t_33 : Value) (g_t_34 : Value) (g_t_35 : Value) (g_t_36 : Value) (g_t_37 : Value) (g_t_38 : Value) (g_t_39 : Value) (g_t_40 : Value) (g_t_41 : Value) (g_t_42 : Value) (g_t_43 : Value) (c_place : Int) (c_bad : Int) (c_badPlace : Int) : va_W := [(a_t, .inr (9, [g_t_0, g_t_1, g_t_2, g_t_3, g_t_4, g_t_5, g_t_6, g_t_7, g_t_8, .int (wI c_place), g_t_10, g_t_11, .int (wI c_bad), .int (wI c_badPlace), g_t_14, g_t_15, g_t_16, g_t_17, g_t_18, g_t_19, g_t_20, g_t_21, g_t_22, g_t_23, g_t_24, g_t_25, g_t_26, g_t_27, g_t_28, g_t_29, g_t_30, g_t_31, g_t_32, g_t_33, g_t_34, g_t_35, g_t_36, g_t_37, g_t_38, g_t_39, g_t_40, g_t_41, g_t_42, g_t_43]))]
def m_X9_fails (F : Nat) (x1 : Int) (c_place : Int) (c_bad : Int) (c_badPlace : Int) : Option (Int × Int) :=
  if wI c_bad = wI 0 then
    (some (x1, c_place))
  else
    (some (c_bad, c_badPlace))
section S_X9_fails
variable {E : EE} {a_t : Nat} {g_t_0 : Value} {g_t_1 : Value} {g_t_2 : Value} {g_t_3 : Value} {g_t_4 : Value} {g_t_5 : Value} {g_t_6 : Value} {g_t_7 : Value} {g_t_8 : Value} {g_t_10 : Value} {g_t_11 : Value} {g_t_14 : Value} {g_t_15 : Value} {g_t_16 : Value} {g_t_17 : Value} {g_t_18 : Value} {g_t_19 : Value} {g_t_20 : Value} {g_t_21 : Value} {g_t_22 : Value} {g_t_23 : Value} {g_t_24 : Value} {g_t_25 : Value} {g_t_26 : Value} {g_t_27 : Value} {g_t_28 : Value} {g_t_29 : Value} {g_t_30 : Value} {g_t_31 : Value} {g_t_32 : Value} {g_t_33 : Value} {g_t_34 : Value} {g_t_35 : Value} {g_t_36 : Value} {g_t_37 : Value} {g_t_38 : Value} {g_t_39 : Value} {g_t_40 : Value} {g_t_41 : Value} {g_t_42 : Value} {g_t_43 : Value}
set_option maxRecDepth 100000 in
set_option maxHeartbeats 4000000 in
theorem wm_X9_fails {F : Nat} {v : Int × Int} {x1 : Int} {c_place : Int} {c_bad : Int} {c_badPlace : Int} (C : Cx E cX9_fails RX9 { frames := 0, cells := 0, slots := 0, locals := 0 }) (hN : eN E = 2) (h : m_X9_fails F x1 c_place c_bad c_badPlace = some v) (hret : ∀ (pc : Nat) (L : List (Option Value)), decode cX9_fails pc = .ok (.return_, 1) → GG E 0 0 (W_X9_fails (eCy E) a_t g_t_0 g_t_1 g_t_2 g_t_3 g_t_4 g_t_5 g_t_6 g_t_7 g_t_8 g_t_10 g_t_11 g_t_14 g_t_15 g_t_16 g_t_17 g_t_18 g_t_19 g_t_20 g_t_21 g_t_22 g_t_23 g_t_24 g_t_25 g_t_26 g_t_27 g_t_28 g_t_29 g_t_30 g_t_31 g_t_32 g_t_33 g_t_34 g_t_35 g_t_36 g_t_37 g_t_38 g_t_39 g_t_40 g_t_41 g_t_42 g_t_43 c_place (v.1) (v.2)) L pc []) : GG E 0 0 (W_X9_fails (eCy E) a_t g_t_0 g_t_1 g_t_2 g_t_3 g_t_4 g_t_5 g_t_6 g_t_7 g_t_8 g_t_10 g_t_11 g_t_14 g_t_15 g_t_16 g_t_17 g_t_18 g_t_19 g_t_20 g_t_21 g_t_22 g_t_23 g_t_24 g_t_25 g_t_26 g_t_27 g_t_28 g_t_29 g_t_30 g_t_31 g_t_32 g_t_33 g_t_34 g_t_35 g_t_36 g_t_37 g_t_38 g_t_39 g_t_40 g_t_41 g_t_42 g_t_43 c_place c_bad c_badPlace) [some (.ref a_t), some (.int (wI x1))] 0 [] := by
  unfold m_X9_fails at h
  refine g_aload_n 0 C dX9_fails_0 rfl rfl ?_
  refine g_get C fg_X9_123 0 rfl rfl dX9_fails_1 ?_
  refine g_st (st' := [.int (wI c_bad)]) rfl ?_
  refine g_if_eq 8 C dX9_fails_4 (by decide) h (fun h => ?_) (fun h => ?_)
  · refine g_aload_n 0 C dX9_fails_8 rfl rfl ?_
    refine g_iload_n 1 C dX9_fails_9 rfl rfl ?_
    refine g_putI C fp_X9_123 0 rfl rfl (ws' := (W_X9_fails (eCy E) a_t g_t_0 g_t_1 g_t_2 g_t_3 g_t_4 g_t_5 g_t_6 g_t_7 g_t_8 g_t_10 g_t_11 g_t_14 g_t_15 g_t_16 g_t_17 g_t_18 g_t_19 g_t_20 g_t_21 g_t_22 g_t_23 g_t_24 g_t_25 g_t_26 g_t_27 g_t_28 g_t_29 g_t_30 g_t_31 g_t_32 g_t_33 g_t_34 g_t_35 g_t_36 g_t_37 g_t_38 g_t_39 g_t_40 g_t_41 g_t_42 g_t_43 c_place x1 c_badPlace)) rfl dX9_fails_10 ?_
    refine g_aload_n 0 C dX9_fails_13 rfl rfl ?_
    refine g_aload_n 0 C dX9_fails_14 rfl rfl ?_
    refine g_get C fg_X9_102 0 rfl rfl dX9_fails_15 ?_
    refine g_st (st' := [.int (wI c_place), .ref a_t]) rfl ?_
    refine g_putI C fp_X9_126 0 rfl rfl (ws' := (W_X9_fails (eCy E) a_t g_t_0 g_t_1 g_t_2 g_t_3 g_t_4 g_t_5 g_t_6 g_t_7 g_t_8 g_t_10 g_t_11 g_t_14 g_t_15 g_t_16 g_t_17 g_t_18 g_t_19 g_t_20 g_t_21 g_t_22 g_t_23 g_t_24 g_t_25 g_t_26 g_t_27 g_t_28 g_t_29 g_t_30 g_t_31 g_t_32 g_t_33 g_t_34 g_t_35 g_t_36 g_t_37 g_t_38 g_t_39 g_t_40 g_t_41 g_t_42 g_t_43 c_place x1 c_place)) rfl dX9_fails_18 ?_
    cases h
    exact hret 21 _ dX9_fails_21
  · cases h
    exact hret 7 _ dX9_fails_7
end S_X9_fails
set_option maxRecDepth 100000 in
set_option maxHeartbeats 4000000 in
theorem c_X9_fails (l : Launch) (D : va_G) (cy : Nat → ClassId) (ad : AD) (a_t : Nat) (g_t_0 : Value) (g_t_1 : Value) (g_t_2 : Value) (g_t_3 : Value) (g_t_4 : Value) (g_t_5 : Value) (g_t_6 : Value) (g_t_7 : Value) (g_t_8 : Value) (g_t_10 : Value) (g_t_11 : Value) (g_t_14 : Value) (g_t_15 : Value) (g_t_16 : Value) (g_t_17 : Value) (g_t_18 : Value) (g_t_19 : Value) (g_t_20 : Value) (g_t_21 : Value) (g_t_22 : Value) (g_t_23 : Value) (g_t_24 : Value) (g_t_25 : Value) (g_t_26 : Value) (g_t_27 : Value) (g_t_28 : Value) (g_t_29 : Value) (g_t_30 : Value) (g_t_31 : Value) (g_t_32 : Value) (g_t_33 : Value) (g_t_34 : Value) (g_t_35 : Value) (g_t_36 : Value) (g_t_37 : Value) (g_t_38 : Value) (g_t_39 : Value) (g_t_40 : Value) (g_t_41 : Value) (g_t_42 : Value) (g_t_43 : Value) (x1 : Int) (c_place : Int) (c_bad : Int) (c_badPlace : Int) (F : Nat) {v : Int × Int} (h : m_X9_fails F x1 c_place c_bad c_badPlace = some v) : Ct l yX9_fails cX9_fails 2 none { frames := 0, cells := 0, slots := 0, locals := 0 } D cy ad [.ref a_t, .int (wI x1)] (W_X9_fails cy a_t g_t_0 g_t_1 g_t_2 g_t_3 g_t_4 g_t_5 g_t_6 g_t_7 g_t_8 g_t_10 g_t_11 g_t_14 g_t_15 g_t_16 g_t_17 g_t_18 g_t_19 g_t_20 g_t_21 g_t_22 g_t_23 g_t_24 g_t_25 g_t_26 g_t_27 g_t_28 g_t_29 g_t_30 g_t_31 g_t_32 g_t_33 g_t_34 g_t_35 g_t_36 g_t_37 g_t_38 g_t_39 g_t_40 g_t_41 g_t_42 g_t_43 c_place c_bad c_badPlace) (W_X9_fails cy a_t g_t_0 g_t_1 g_t_2 g_t_3 g_t_4 g_t_5 g_t_6 g_t_7 g_t_8 g_t_10 g_t_11 g_t_14 g_t_15 g_t_16 g_t_17 g_t_18 g_t_19 g_t_20 g_t_21 g_t_22 g_t_23 g_t_24 g_t_25 g_t_26 g_t_27 g_t_28 g_t_29 g_t_30 g_t_31 g_t_32 g_t_33 g_t_34 g_t_35 g_t_36 g_t_37 g_t_38 g_t_39 g_t_40 g_t_41 g_t_42 g_t_43 c_place (v.1) (v.2)) none := by
  refine Ct.introV (j := 0) (plainFor_of_name (by decide)) rfl rfl (fun E C e1 e2 e3 e4 e5 hret => ?_)
  subst e1; subst e2; subst e3; subst e4
  exact wm_X9_fails C e5 h hret
-- MovingStairModel.is(J)Z
def W_X9_is (cy : Nat → ClassId) (a_t : Nat) (g_t_0 : Value) (g_t_1 : Value) (g_t_2 : Value) (g_t_3 : Value) (g_t_4 : Value) (g_t_5 : Value) (g_t_6 : Value) (g_t_7 : Value) (g_t_9 : Value) (g_t_10 : Value) (g_t_13 : Value) (g_t_14 : Value) (g_t_15 : Value) (g_t_16 : Value) (g_t_17 : Value) (g_t_18 : Value) (g_t_19 : Value) (g_t_20 : Value) (g_t_21 : Value) (g_t_22 : Value) (g_t_23 : Value) (g_t_24 : Value) (g_t_25 : Value) (g_t_26 : Value) (g_t_27 : Value) (g_t_28 : Value) (g_t_29 : Value) (g_t_30 : Value) (g_t_31 : Value) (g_t_32 : Value) (g_t_33 : Value) (g_t_34 : Value) (g_t_35 : Value) (g_t_36 : Value) (g_t_37 : Value) (g_t_38 : Value) (g_t_39 : Value) (g_t_40 : Value) (g_t_41 : Value) (g_t_42 : Value) (g_t_43 : Value) (c_token : Int) (c_word : Int) (c_bad : Int) : va_W := [(a_t, .inr (9, [g_t_0, g_t_1, g_t_2, g_t_3, g_t_4, g_t_5, g_t_6, g_t_7, .int (wI c_token), g_t_9, g_t_10, .long (wJ c_word), .int (wI c_bad), g_t_13, g_t_14, g_t_15, g_t_16, g_t_17, g_t_18, g_t_19, g_t_20, g_t_21, g_t_22, g_t_23, g_t_24, g_t_25, g_t_26, g_t_27, g_t_28, g_t_29, g_t_30, g_t_31, g_t_32, g_t_33, g_t_34, g_t_35, g_t_36, g_t_37, g_t_38, g_t_39, g_t_40, g_t_41, g_t_42, g_t_43]))]
def m_X9_is (F : Nat) (x1 : Int) (c_token : Int) (c_word : Int) (c_bad : Int) : Option (Int) :=
  if wI c_bad = wI 0 then
    (if wI c_token = wI 1 then
    (if wJ c_word = wJ x1 then
    (some 1)
  else
    (some 0))
  else
    (some 0))
  else
    (some 0)
section S_X9_is
variable {E : EE} {a_t : Nat} {g_t_0 : Value} {g_t_1 : Value} {g_t_2 : Value} {g_t_3 : Value} {g_t_4 : Value} {g_t_5 : Value} {g_t_6 : Value} {g_t_7 : Value} {g_t_9 : Value} {g_t_10 : Value} {g_t_13 : Value} {g_t_14 : Value} {g_t_15 : Value} {g_t_16 : Value} {g_t_17 : Value} {g_t_18 : Value} {g_t_19 : Value} {g_t_20 : Value} {g_t_21 : Value} {g_t_22 : Value} {g_t_23 : Value} {g_t_24 : Value} {g_t_25 : Value} {g_t_26 : Value} {g_t_27 : Value} {g_t_28 : Value} {g_t_29 : Value} {g_t_30 : Value} {g_t_31 : Value} {g_t_32 : Value} {g_t_33 : Value} {g_t_34 : Value} {g_t_35 : Value} {g_t_36 : Value} {g_t_37 : Value} {g_t_38 : Value} {g_t_39 : Value} {g_t_40 : Value} {g_t_41 : Value} {g_t_42 : Value} {g_t_43 : Value}
set_option maxRecDepth 100000 in
set_option maxHeartbeats 4000000 in
theorem wm_X9_is {F : Nat} {v : Int} {x1 : Int} {c_token : Int} {c_word : Int} {c_bad : Int} (C : Cx E cX9_is RX9 { frames := 0, cells := 0, slots := 0, locals := 0 }) (hN : eN E = 3) (h : m_X9_is F x1 c_token c_word c_bad = some v) (hret : ∀ (pc : Nat) (L : List (Option Value)), narrow .boolean (.int (wI v)) = .int (wI v) → decode cX9_is pc = .ok (.ireturn, 1) → GG E 0 0 (W_X9_is (eCy E) a_t g_t_0 g_t_1 g_t_2 g_t_3 g_t_4 g_t_5 g_t_6 g_t_7 g_t_9 g_t_10 g_t_13 g_t_14 g_t_15 g_t_16 g_t_17 g_t_18 g_t_19 g_t_20 g_t_21 g_t_22 g_t_23 g_t_24 g_t_25 g_t_26 g_t_27 g_t_28 g_t_29 g_t_30 g_t_31 g_t_32 g_t_33 g_t_34 g_t_35 g_t_36 g_t_37 g_t_38 g_t_39 g_t_40 g_t_41 g_t_42 g_t_43 c_token c_word c_bad) L pc [.int (wI v)]) : GG E 0 0 (W_X9_is (eCy E) a_t g_t_0 g_t_1 g_t_2 g_t_3 g_t_4 g_t_5 g_t_6 g_t_7 g_t_9 g_t_10 g_t_13 g_t_14 g_t_15 g_t_16 g_t_17 g_t_18 g_t_19 g_t_20 g_t_21 g_t_22 g_t_23 g_t_24 g_t_25 g_t_26 g_t_27 g_t_28 g_t_29 g_t_30 g_t_31 g_t_32 g_t_33 g_t_34 g_t_35 g_t_36 g_t_37 g_t_38 g_t_39 g_t_40 g_t_41 g_t_42 g_t_43 c_token c_word c_bad) [some (.ref a_t), some (.long (wJ x1)), none] 0 [] := by
  unfold m_X9_is at h
  refine g_aload_n 0 C dX9_is_0 rfl rfl ?_
  refine g_get C fg_X9_123 0 rfl rfl dX9_is_1 ?_
  refine g_st (st' := [.int (wI c_bad)]) rfl ?_
  refine g_if_ne 28 C dX9_is_4 (by decide) h (fun h => ?_) (fun h => ?_)
  · refine g_iconst C dX9_is_28 ?_
    cases h
    exact hret 29 _ bn0 dX9_is_29
  · refine g_aload_n 0 C dX9_is_7 rfl rfl ?_
    refine g_get C fg_X9_112 0 rfl rfl dX9_is_8 ?_
    refine g_st (st' := [.int (wI c_token)]) rfl ?_
    refine g_iconst C dX9_is_11 ?_
    refine g_icmp_ne 28 C dX9_is_12 (by decide) h (fun h => ?_) (fun h => ?_)
    · refine g_iconst C dX9_is_28 ?_
      cases h
      exact hret 29 _ bn0 dX9_is_29
    · refine g_aload_n 0 C dX9_is_15 rfl rfl ?_
      refine g_get C fg_X9_108 0 rfl rfl dX9_is_16 ?_
      refine g_st (st' := [.long (wJ c_word)]) rfl ?_
      refine g_lload_n 1 C dX9_is_19 rfl rfl ?_
      refine g_lcmp_ne 28 C dX9_is_20 dX9_is_21 (by decide) h (fun h => ?_) (fun h => ?_)
      · refine g_iconst C dX9_is_28 ?_
        cases h
        exact hret 29 _ bn0 dX9_is_29
      · refine g_iconst C dX9_is_24 ?_
        refine g_goto (tgt := 29) C dX9_is_25 (by decide) ?_
        cases h
        exact hret 29 _ bn1 dX9_is_29
end S_X9_is
set_option maxRecDepth 100000 in
set_option maxHeartbeats 4000000 in
theorem c_X9_is (l : Launch) (D : va_G) (cy : Nat → ClassId) (ad : AD) (a_t : Nat) (g_t_0 : Value) (g_t_1 : Value) (g_t_2 : Value) (g_t_3 : Value) (g_t_4 : Value) (g_t_5 : Value) (g_t_6 : Value) (g_t_7 : Value) (g_t_9 : Value) (g_t_10 : Value) (g_t_13 : Value) (g_t_14 : Value) (g_t_15 : Value) (g_t_16 : Value) (g_t_17 : Value) (g_t_18 : Value) (g_t_19 : Value) (g_t_20 : Value) (g_t_21 : Value) (g_t_22 : Value) (g_t_23 : Value) (g_t_24 : Value) (g_t_25 : Value) (g_t_26 : Value) (g_t_27 : Value) (g_t_28 : Value) (g_t_29 : Value) (g_t_30 : Value) (g_t_31 : Value) (g_t_32 : Value) (g_t_33 : Value) (g_t_34 : Value) (g_t_35 : Value) (g_t_36 : Value) (g_t_37 : Value) (g_t_38 : Value) (g_t_39 : Value) (g_t_40 : Value) (g_t_41 : Value) (g_t_42 : Value) (g_t_43 : Value) (x1 : Int) (c_token : Int) (c_word : Int) (c_bad : Int) (F : Nat) {v : Int} (h : m_X9_is F x1 c_token c_word c_bad = some v) : Ct l yX9_is cX9_is 3 (some .boolean) { frames := 0, cells := 0, slots := 0, locals := 0 } D cy ad [.ref a_t, .long (wJ x1)] (W_X9_is cy a_t g_t_0 g_t_1 g_t_2 g_t_3 g_t_4 g_t_5 g_t_6 g_t_7 g_t_9 g_t_10 g_t_13 g_t_14 g_t_15 g_t_16 g_t_17 g_t_18 g_t_19 g_t_20 g_t_21 g_t_22 g_t_23 g_t_24 g_t_25 g_t_26 g_t_27 g_t_28 g_t_29 g_t_30 g_t_31 g_t_32 g_t_33 g_t_34 g_t_35 g_t_36 g_t_37 g_t_38 g_t_39 g_t_40 g_t_41 g_t_42 g_t_43 c_token c_word c_bad) (W_X9_is cy a_t g_t_0 g_t_1 g_t_2 g_t_3 g_t_4 g_t_5 g_t_6 g_t_7 g_t_9 g_t_10 g_t_13 g_t_14 g_t_15 g_t_16 g_t_17 g_t_18 g_t_19 g_t_20 g_t_21 g_t_22 g_t_23 g_t_24 g_t_25 g_t_26 g_t_27 g_t_28 g_t_29 g_t_30 g_t_31 g_t_32 g_t_33 g_t_34 g_t_35 g_t_36 g_t_37 g_t_38 g_t_39 g_t_40 g_t_41 g_t_42 g_t_43 c_token c_word c_bad) (some (.int (wI v))) := by
  refine Ct.introZ (j := 0) (plainFor_of_name (by decide)) rfl rfl (fun E C e1 e2 e3 e4 e5 hret => ?_)
  subst e1; subst e2; subst e3; subst e4
  exact wm_X9_is C e5 h hret
-- MovingStairModel.takes(J)Z
def W_X9_takes (cy : Nat → ClassId) (a_t a_t_tape : Nat) (g_t_0 : Value) (g_t_1 : Value) (g_t_2 : Value) (g_t_3 : Value) (g_t_4 : Value) (g_t_13 : Value) (g_t_14 : Value) (g_t_15 : Value) (g_t_16 : Value) (g_t_17 : Value) (g_t_18 : Value) (g_t_19 : Value) (g_t_20 : Value) (g_t_21 : Value) (g_t_22 : Value) (g_t_23 : Value) (g_t_24 : Value) (g_t_25 : Value) (g_t_26 : Value) (g_t_27 : Value) (g_t_28 : Value) (g_t_29 : Value) (g_t_30 : Value) (g_t_31 : Value) (g_t_32 : Value) (g_t_33 : Value) (g_t_34 : Value) (g_t_35 : Value) (g_t_36 : Value) (g_t_37 : Value) (g_t_38 : Value) (g_t_39 : Value) (g_t_40 : Value) (g_t_41 : Value) (g_t_42 : Value) (g_t_43 : Value) (c_taped : Int) (c_at : Int) (c_token : Int) (c_place : Int) (c_value : Int) (c_word : Int) (c_bad : Int) (c_tape : Int → Int) : va_W := [(a_t, .inr (9, [g_t_0, g_t_1, g_t_2, g_t_3, g_t_4, .ref a_t_tape, .int (wI c_taped), .int (wI c_at), .int (wI c_token), .int (wI c_place), .int (wI c_value), .long (wJ c_word), .int (wI c_bad), g_t_13, g_t_14, g_t_15, g_t_16, g_t_17, g_t_18, g_t_19, g_t_20, g_t_21, g_t_22, g_t_23, g_t_24, g_t_25, g_t_26, g_t_27, g_t_28, g_t_29, g_t_30, g_t_31, g_t_32, g_t_33, g_t_34, g_t_35, g_t_36, g_t_37, g_t_38, g_t_39, g_t_40, g_t_41, g_t_42, g_t_43])), (a_t_tape, .inl (cy 0, 900, .inl (aI c_tape)))]
def m_X9_takes (F : Nat) (x1 : Int) (c_taped : Int) (c_at : Int) (c_token : Int) (c_place : Int) (c_value : Int) (c_word : Int) (c_bad : Int) (c_tape : Int → Int) : Option (Int × Int × Int × Int × Int × Int) :=
  bnd1 (m_X9_is F x1 c_token c_word c_bad) fun r1 => if wI r1 = wI 0 then
    (some (0, c_at, c_token, c_place, c_value, c_word))
  else
    (bnd5 (m_X9_next F c_taped c_at c_tape) fun o3 o4 o5 o6 o7 => some (1, o3, o4, o5, o6, o7))
section S_X9_takes
variable {E : EE} {a_t a_t_tape : Nat} {g_t_0 : Value} {g_t_1 : Value} {g_t_2 : Value} {g_t_3 : Value} {g_t_4 : Value} {g_t_13 : Value} {g_t_14 : Value} {g_t_15 : Value} {g_t_16 : Value} {g_t_17 : Value} {g_t_18 : Value} {g_t_19 : Value} {g_t_20 : Value} {g_t_21 : Value} {g_t_22 : Value} {g_t_23 : Value} {g_t_24 : Value} {g_t_25 : Value} {g_t_26 : Value} {g_t_27 : Value} {g_t_28 : Value} {g_t_29 : Value} {g_t_30 : Value} {g_t_31 : Value} {g_t_32 : Value} {g_t_33 : Value} {g_t_34 : Value} {g_t_35 : Value} {g_t_36 : Value} {g_t_37 : Value} {g_t_38 : Value} {g_t_39 : Value} {g_t_40 : Value} {g_t_41 : Value} {g_t_42 : Value} {g_t_43 : Value}
set_option maxRecDepth 100000 in
set_option maxHeartbeats 4000000 in
theorem wm_X9_takes {F : Nat} {v : Int × Int × Int × Int × Int × Int} {x1 : Int} {c_taped : Int} {c_at : Int} {c_token : Int} {c_place : Int} {c_value : Int} {c_word : Int} {c_bad : Int} {c_tape : Int → Int} (C : Cx E cX9_takes RX9 { frames := 2, cells := 0, slots := 0, locals := 44 }) (hN : eN E = 3) (h : m_X9_takes F x1 c_taped c_at c_token c_place c_value c_word c_bad c_tape = some v) (hret : ∀ (pc : Nat) (L : List (Option Value)), narrow .boolean (.int (wI (v.1))) = .int (wI (v.1)) → decode cX9_takes pc = .ok (.ireturn, 1) → GG E 0 0 (W_X9_takes (eCy E) a_t a_t_tape g_t_0 g_t_1 g_t_2 g_t_3 g_t_4 g_t_13 g_t_14 g_t_15 g_t_16 g_t_17 g_t_18 g_t_19 g_t_20 g_t_21 g_t_22 g_t_23 g_t_24 g_t_25 g_t_26 g_t_27 g_t_28 g_t_29 g_t_30 g_t_31 g_t_32 g_t_33 g_t_34 g_t_35 g_t_36 g_t_37 g_t_38 g_t_39 g_t_40 g_t_41 g_t_42 g_t_43 c_taped (v.2.1) (v.2.2.1) (v.2.2.2.1) (v.2.2.2.2.1) (v.2.2.2.2.2) c_bad c_tape) L pc [.int (wI (v.1))]) : GG E 0 0 (W_X9_takes (eCy E) a_t a_t_tape g_t_0 g_t_1 g_t_2 g_t_3 g_t_4 g_t_13 g_t_14 g_t_15 g_t_16 g_t_17 g_t_18 g_t_19 g_t_20 g_t_21 g_t_22 g_t_23 g_t_24 g_t_25 g_t_26 g_t_27 g_t_28 g_t_29 g_t_30 g_t_31 g_t_32 g_t_33 g_t_34 g_t_35 g_t_36 g_t_37 g_t_38 g_t_39 g_t_40 g_t_41 g_t_42 g_t_43 c_taped c_at c_token c_place c_value c_word c_bad c_tape) [some (.ref a_t), some (.long (wJ x1)), none] 0 [] := by
  unfold m_X9_takes at h
  refine g_aload_n 0 C dX9_takes_0 rfl rfl ?_
  refine g_lload_n 1 C dX9_takes_1 rfl rfl ?_
  obtain ⟨r1, hr2, h⟩ := bnd1_some h
  refine g_callI [0] [1] [1, 0] C mt_X9_129 (c_X9_is _ _ _ _ a_t (g_t_0) (g_t_1) (g_t_2) (g_t_3) (g_t_4) (.ref a_t_tape) (.int (wI c_taped)) (.int (wI c_at)) (.int (wI c_place)) (.int (wI c_value)) (g_t_13) (g_t_14) (g_t_15) (g_t_16) (g_t_17) (g_t_18) (g_t_19) (g_t_20) (g_t_21) (g_t_22) (g_t_23) (g_t_24) (g_t_25) (g_t_26) (g_t_27) (g_t_28) (g_t_29) (g_t_30) (g_t_31) (g_t_32) (g_t_33) (g_t_34) (g_t_35) (g_t_36) (g_t_37) (g_t_38) (g_t_39) (g_t_40) (g_t_41) (g_t_42) (g_t_43) x1 c_token c_word c_bad F hr2) (q0 := 0) rfl (ci := 9) rfl rfl rfl (ws2 := (W_X9_takes (eCy E) a_t a_t_tape g_t_0 g_t_1 g_t_2 g_t_3 g_t_4 g_t_13 g_t_14 g_t_15 g_t_16 g_t_17 g_t_18 g_t_19 g_t_20 g_t_21 g_t_22 g_t_23 g_t_24 g_t_25 g_t_26 g_t_27 g_t_28 g_t_29 g_t_30 g_t_31 g_t_32 g_t_33 g_t_34 g_t_35 g_t_36 g_t_37 g_t_38 g_t_39 g_t_40 g_t_41 g_t_42 g_t_43 c_taped c_at c_token c_place c_value c_word c_bad c_tape)) rfl rfl rfl (rest := []) rfl rfl rfl dX9_takes_2 ?_
  refine g_if_ne 10 C dX9_takes_5 (by decide) h (fun h => ?_) (fun h => ?_)
  · refine g_aload_n 0 C dX9_takes_10 rfl rfl ?_
    obtain ⟨o3, o4, o5, o6, o7, hr8, h⟩ := bnd5_some h
    refine g_callV [0, 1] [] [0, 1] C mt_X9_133 (c_X9_next _ _ _ _ a_t a_t_tape (g_t_0) (g_t_1) (g_t_2) (g_t_3) (g_t_4) (.int (wI c_bad)) (g_t_13) (g_t_14) (g_t_15) (g_t_16) (g_t_17) (g_t_18) (g_t_19) (g_t_20) (g_t_21) (g_t_22) (g_t_23) (g_t_24) (g_t_25) (g_t_26) (g_t_27) (g_t_28) (g_t_29) (g_t_30) (g_t_31) (g_t_32) (g_t_33) (g_t_34) (g_t_35) (g_t_36) (g_t_37) (g_t_38) (g_t_39) (g_t_40) (g_t_41) (g_t_42) (g_t_43) c_taped c_at c_token c_place c_value c_word c_tape F hr8) (q0 := 0) rfl (ci := 9) rfl rfl rfl (ws2 := (W_X9_takes (eCy E) a_t a_t_tape g_t_0 g_t_1 g_t_2 g_t_3 g_t_4 g_t_13 g_t_14 g_t_15 g_t_16 g_t_17 g_t_18 g_t_19 g_t_20 g_t_21 g_t_22 g_t_23 g_t_24 g_t_25 g_t_26 g_t_27 g_t_28 g_t_29 g_t_30 g_t_31 g_t_32 g_t_33 g_t_34 g_t_35 g_t_36 g_t_37 g_t_38 g_t_39 g_t_40 g_t_41 g_t_42 g_t_43 c_taped o3 o4 o5 o6 o7 c_bad c_tape)) rfl rfl rfl (rest := []) rfl rfl rfl dX9_takes_11 ?_
    refine g_iconst C dX9_takes_14 ?_
    cases h
    exact hret 15 _ bn1 dX9_takes_15
  · refine g_iconst C dX9_takes_8 ?_
    cases h
    exact hret 9 _ bn0 dX9_takes_9
end S_X9_takes
set_option maxRecDepth 100000 in
set_option maxHeartbeats 4000000 in
theorem c_X9_takes (l : Launch) (D : va_G) (cy : Nat → ClassId) (ad : AD) (a_t a_t_tape : Nat) (g_t_0 : Value) (g_t_1 : Value) (g_t_2 : Value) (g_t_3 : Value) (g_t_4 : Value) (g_t_13 : Value) (g_t_14 : Value) (g_t_15 : Value) (g_t_16 : Value) (g_t_17 : Value) (g_t_18 : Value) (g_t_19 : Value) (g_t_20 : Value) (g_t_21 : Value) (g_t_22 : Value) (g_t_23 : Value) (g_t_24 : Value) (g_t_25 : Value) (g_t_26 : Value) (g_t_27 : Value) (g_t_28 : Value) (g_t_29 : Value) (g_t_30 : Value) (g_t_31 : Value) (g_t_32 : Value) (g_t_33 : Value) (g_t_34 : Value) (g_t_35 : Value) (g_t_36 : Value) (g_t_37 : Value) (g_t_38 : Value) (g_t_39 : Value) (g_t_40 : Value) (g_t_41 : Value) (g_t_42 : Value) (g_t_43 : Value) (x1 : Int) (c_taped : Int) (c_at : Int) (c_token : Int) (c_place : Int) (c_value : Int) (c_word : Int) (c_bad : Int) (c_tape : Int → Int) (F : Nat) {v : Int × Int × Int × Int × Int × Int} (h : m_X9_takes F x1 c_taped c_at c_token c_place c_value c_word c_bad c_tape = some v) : Ct l yX9_takes cX9_takes 3 (some .boolean) { frames := 2, cells := 0, slots := 0, locals := 44 } D cy ad [.ref a_t, .long (wJ x1)] (W_X9_takes cy a_t a_t_tape g_t_0 g_t_1 g_t_2 g_t_3 g_t_4 g_t_13 g_t_14 g_t_15 g_t_16 g_t_17 g_t_18 g_t_19 g_t_20 g_t_21 g_t_22 g_t_23 g_t_24 g_t_25 g_t_26 g_t_27 g_t_28 g_t_29 g_t_30 g_t_31 g_t_32 g_t_33 g_t_34 g_t_35 g_t_36 g_t_37 g_t_38 g_t_39 g_t_40 g_t_41 g_t_42 g_t_43 c_taped c_at c_token c_place c_value c_word c_bad c_tape) (W_X9_takes cy a_t a_t_tape g_t_0 g_t_1 g_t_2 g_t_3 g_t_4 g_t_13 g_t_14 g_t_15 g_t_16 g_t_17 g_t_18 g_t_19 g_t_20 g_t_21 g_t_22 g_t_23 g_t_24 g_t_25 g_t_26 g_t_27 g_t_28 g_t_29 g_t_30 g_t_31 g_t_32 g_t_33 g_t_34 g_t_35 g_t_36 g_t_37 g_t_38 g_t_39 g_t_40 g_t_41 g_t_42 g_t_43 c_taped (v.2.1) (v.2.2.1) (v.2.2.2.1) (v.2.2.2.2.1) (v.2.2.2.2.2) c_bad c_tape) (some (.int (wI (v.1)))) := by
  refine Ct.introZ (j := 0) (plainFor_of_name (by decide)) rfl rfl (fun E C e1 e2 e3 e4 e5 hret => ?_)
  subst e1; subst e2; subst e3; subst e4
  exact wm_X9_takes C e5 h hret
-- MovingStairModel.asks(J)V
def W_X9_asks (cy : Nat → ClassId) (a_t a_t_tape : Nat) (g_t_0 : Value) (g_t_1 : Value) (g_t_2 : Value) (g_t_3 : Value) (g_t_4 : Value) (g_t_14 : Value) (g_t_15 : Value) (g_t_16 : Value) (g_t_17 : Value) (g_t_18 : Value) (g_t_19 : Value) (g_t_20 : Value) (g_t_21 : Value) (g_t_22 : Value) (g_t_23 : Value) (g_t_24 : Value) (g_t_25 : Value) (g_t_26 : Value) (g_t_27 : Value) (g_t_28 : Value) (g_t_29 : Value) (g_t_30 : Value) (g_t_31 : Value) (g_t_32 : Value) (g_t_33 : Value) (g_t_34 : Value) (g_t_35 : Value) (g_t_36 : Value) (g_t_37 : Value) (g_t_38 : Value) (g_t_39 : Value) (g_t_40 : Value) (g_t_41 : Value) (g_t_42 : Value) (g_t_43 : Value) (c_taped : Int) (c_at : Int) (c_token : Int) (c_place : Int) (c_value : Int) (c_word : Int) (c_bad : Int) (c_badPlace : Int) (c_tape : Int → Int) : va_W := [(a_t, .inr (9, [g_t_0, g_t_1, g_t_2, g_t_3, g_t_4, .ref a_t_tape, .int (wI c_taped), .int (wI c_at), .int (wI c_token), .int (wI c_place), .int (wI c_value), .long (wJ c_word), .int (wI c_bad), .int (wI c_badPlace), g_t_14, g_t_15, g_t_16, g_t_17, g_t_18, g_t_19, g_t_20, g_t_21, g_t_22, g_t_23, g_t_24, g_t_25, g_t_26, g_t_27, g_t_28, g_t_29, g_t_30, g_t_31, g_t_32, g_t_33, g_t_34, g_t_35, g_t_36, g_t_37, g_t_38, g_t_39, g_t_40, g_t_41, g_t_42, g_t_43])), (a_t_tape, .inl (cy 0, 900, .inl (aI c_tape)))]
def m_X9_asks (F : Nat) (x1 : Int) (c_taped : Int) (c_at : Int) (c_token : Int) (c_place : Int) (c_value : Int) (c_word : Int) (c_bad : Int) (c_badPlace : Int) (c_tape : Int → Int) : Option (Int × Int × Int × Int × Int × Int × Int) :=
  bnd6 (m_X9_takes F x1 c_taped c_at c_token c_place c_value c_word c_bad c_tape) fun r1 o2 o3 o4 o5 o6 => if wI r1 = wI 0 then
    (bnd2 (m_X9_fails F 1 o4 c_bad c_badPlace) fun o8 o9 => some (o2, o3, o4, o5, o6, o8, o9))
  else
    (some (o2, o3, o4, o5, o6, c_bad, c_badPlace))
section S_X9_asks
variable {E : EE} {a_t a_t_tape : Nat} {g_t_0 : Value} {g_t_1 : Value} {g_t_2 : Value} {g_t_3 : Value} {g_t_4 : Value} {g_t_14 : Value} {g_t_15 : Value} {g_t_16 : Value} {g_t_17 : Value} {g_t_18 : Value} {g_t_19 : Value} {g_t_20 : Value} {g_t_21 : Value} {g_t_22 : Value} {g_t_23 : Value} {g_t_24 : Value} {g_t_25 : Value} {g_t_26 : Value} {g_t_27 : Value} {g_t_28 : Value} {g_t_29 : Value} {g_t_30 : Value} {g_t_31 : Value} {g_t_32 : Value} {g_t_33 : Value} {g_t_34 : Value} {g_t_35 : Value} {g_t_36 : Value} {g_t_37 : Value} {g_t_38 : Value} {g_t_39 : Value} {g_t_40 : Value} {g_t_41 : Value} {g_t_42 : Value} {g_t_43 : Value}
set_option maxRecDepth 100000 in
set_option maxHeartbeats 4000000 in
theorem wm_X9_asks {F : Nat} {v : Int × Int × Int × Int × Int × Int × Int} {x1 : Int} {c_taped : Int} {c_at : Int} {c_token : Int} {c_place : Int} {c_value : Int} {c_word : Int} {c_bad : Int} {c_badPlace : Int} {c_tape : Int → Int} (C : Cx E cX9_asks RX9 { frames := 3, cells := 0, slots := 0, locals := 66 }) (hN : eN E = 3) (h : m_X9_asks F x1 c_taped c_at c_token c_place c_value c_word c_bad c_badPlace c_tape = some v) (hret : ∀ (pc : Nat) (L : List (Option Value)), decode cX9_asks pc = .ok (.return_, 1) → GG E 0 0 (W_X9_asks (eCy E) a_t a_t_tape g_t_0 g_t_1 g_t_2 g_t_3 g_t_4 g_t_14 g_t_15 g_t_16 g_t_17 g_t_18 g_t_19 g_t_20 g_t_21 g_t_22 g_t_23 g_t_24 g_t_25 g_t_26 g_t_27 g_t_28 g_t_29 g_t_30 g_t_31 g_t_32 g_t_33 g_t_34 g_t_35 g_t_36 g_t_37 g_t_38 g_t_39 g_t_40 g_t_41 g_t_42 g_t_43 c_taped (v.1) (v.2.1) (v.2.2.1) (v.2.2.2.1) (v.2.2.2.2.1) (v.2.2.2.2.2.1) (v.2.2.2.2.2.2) c_tape) L pc []) : GG E 0 0 (W_X9_asks (eCy E) a_t a_t_tape g_t_0 g_t_1 g_t_2 g_t_3 g_t_4 g_t_14 g_t_15 g_t_16 g_t_17 g_t_18 g_t_19 g_t_20 g_t_21 g_t_22 g_t_23 g_t_24 g_t_25 g_t_26 g_t_27 g_t_28 g_t_29 g_t_30 g_t_31 g_t_32 g_t_33 g_t_34 g_t_35 g_t_36 g_t_37 g_t_38 g_t_39 g_t_40 g_t_41 g_t_42 g_t_43 c_taped c_at c_token c_place c_value c_word c_bad c_badPlace c_tape) [some (.ref a_t), some (.long (wJ x1)), none] 0 [] := by
  unfold m_X9_asks at h
  refine g_aload_n 0 C dX9_asks_0 rfl rfl ?_
  refine g_lload_n 1 C dX9_asks_1 rfl rfl ?_
  obtain ⟨r1, o2, o3, o4, o5, o6, hr7, h⟩ := bnd6_some h
  refine g_callI [0, 1] [] [0, 1] C mt_X9_136 (c_X9_takes _ _ _ _ a_t a_t_tape (g_t_0) (g_t_1) (g_t_2) (g_t_3) (g_t_4) (.int (wI c_badPlace)) (g_t_14) (g_t_15) (g_t_16) (g_t_17) (g_t_18) (g_t_19) (g_t_20) (g_t_21) (g_t_22) (g_t_23) (g_t_24) (g_t_25) (g_t_26) (g_t_27) (g_t_28) (g_t_29) (g_t_30) (g_t_31) (g_t_32) (g_t_33) (g_t_34) (g_t_35) (g_t_36) (g_t_37) (g_t_38) (g_t_39) (g_t_40) (g_t_41) (g_t_42) (g_t_43) x1 c_taped c_at c_token c_place c_value c_word c_bad c_tape F hr7) (q0 := 0) rfl (ci := 9) rfl rfl rfl (ws2 := (W_X9_asks (eCy E) a_t a_t_tape g_t_0 g_t_1 g_t_2 g_t_3 g_t_4 g_t_14 g_t_15 g_t_16 g_t_17 g_t_18 g_t_19 g_t_20 g_t_21 g_t_22 g_t_23 g_t_24 g_t_25 g_t_26 g_t_27 g_t_28 g_t_29 g_t_30 g_t_31 g_t_32 g_t_33 g_t_34 g_t_35 g_t_36 g_t_37 g_t_38 g_t_39 g_t_40 g_t_41 g_t_42 g_t_43 c_taped o2 o3 o4 o5 o6 c_bad c_badPlace c_tape)) rfl rfl rfl (rest := []) rfl rfl rfl dX9_asks_2 ?_
  refine g_if_ne 13 C dX9_asks_5 (by decide) h (fun h => ?_) (fun h => ?_)
  · cases h
    exact hret 13 _ dX9_asks_13
  · refine g_aload_n 0 C dX9_asks_8 rfl rfl ?_
    refine g_iconst C dX9_asks_9 ?_
    obtain ⟨o8, o9, hr10, h⟩ := bnd2_some h
    refine g_callV [0] [1] [1, 0] C mt_X9_139 (c_X9_fails _ _ _ _ a_t (g_t_0) (g_t_1) (g_t_2) (g_t_3) (g_t_4) (.ref a_t_tape) (.int (wI c_taped)) (.int (wI o2)) (.int (wI o3)) (.int (wI o5)) (.long (wJ o6)) (g_t_14) (g_t_15) (g_t_16) (g_t_17) (g_t_18) (g_t_19) (g_t_20) (g_t_21) (g_t_22) (g_t_23) (g_t_24) (g_t_25) (g_t_26) (g_t_27) (g_t_28) (g_t_29) (g_t_30) (g_t_31) (g_t_32) (g_t_33) (g_t_34) (g_t_35) (g_t_36) (g_t_37) (g_t_38) (g_t_39) (g_t_40) (g_t_41) (g_t_42) (g_t_43) 1 o4 c_bad c_badPlace F hr10) (q0 := 0) rfl (ci := 9) rfl rfl rfl (ws2 := (W_X9_asks (eCy E) a_t a_t_tape g_t_0 g_t_1 g_t_2 g_t_3 g_t_4 g_t_14 g_t_15 g_t_16 g_t_17 g_t_18 g_t_19 g_t_20 g_t_21 g_t_22 g_t_23 g_t_24 g_t_25 g_t_26 g_t_27 g_t_28 g_t_29 g_t_30 g_t_31 g_t_32 g_t_33 g_t_34 g_t_35 g_t_36 g_t_37 g_t_38 g_t_39 g_t_40 g_t_41 g_t_42 g_t_43 c_taped o2 o3 o4 o5 o6 o8 o9 c_tape)) rfl rfl rfl (rest := []) rfl rfl rfl dX9_asks_10 ?_
    cases h
    exact hret 13 _ dX9_asks_13
end S_X9_asks
set_option maxRecDepth 100000 in
set_option maxHeartbeats 4000000 in
theorem c_X9_asks (l : Launch) (D : va_G) (cy : Nat → ClassId) (ad : AD) (a_t a_t_tape : Nat) (g_t_0 : Value) (g_t_1 : Value) (g_t_2 : Value) (g_t_3 : Value) (g_t_4 : Value) (g_t_14 : Value) (g_t_15 : Value) (g_t_16 : Value) (g_t_17 : Value) (g_t_18 : Value) (g_t_19 : Value) (g_t_20 : Value) (g_t_21 : Value) (g_t_22 : Value) (g_t_23 : Value) (g_t_24 : Value) (g_t_25 : Value) (g_t_26 : Value) (g_t_27 : Value) (g_t_28 : Value) (g_t_29 : Value) (g_t_30 : Value) (g_t_31 : Value) (g_t_32 : Value) (g_t_33 : Value) (g_t_34 : Value) (g_t_35 : Value) (g_t_36 : Value) (g_t_37 : Value) (g_t_38 : Value) (g_t_39 : Value) (g_t_40 : Value) (g_t_41 : Value) (g_t_42 : Value) (g_t_43 : Value) (x1 : Int) (c_taped : Int) (c_at : Int) (c_token : Int) (c_place : Int) (c_value : Int) (c_word : Int) (c_bad : Int) (c_badPlace : Int) (c_tape : Int → Int) (F : Nat) {v : Int × Int × Int × Int × Int × Int × Int} (h : m_X9_asks F x1 c_taped c_at c_token c_place c_value c_word c_bad c_badPlace c_tape = some v) : Ct l yX9_asks cX9_asks 3 none { frames := 3, cells := 0, slots := 0, locals := 66 } D cy ad [.ref a_t, .long (wJ x1)] (W_X9_asks cy a_t a_t_tape g_t_0 g_t_1 g_t_2 g_t_3 g_t_4 g_t_14 g_t_15 g_t_16 g_t_17 g_t_18 g_t_19 g_t_20 g_t_21 g_t_22 g_t_23 g_t_24 g_t_25 g_t_26 g_t_27 g_t_28 g_t_29 g_t_30 g_t_31 g_t_32 g_t_33 g_t_34 g_t_35 g_t_36 g_t_37 g_t_38 g_t_39 g_t_40 g_t_41 g_t_42 g_t_43 c_taped c_at c_token c_place c_value c_word c_bad c_badPlace c_tape) (W_X9_asks cy a_t a_t_tape g_t_0 g_t_1 g_t_2 g_t_3 g_t_4 g_t_14 g_t_15 g_t_16 g_t_17 g_t_18 g_t_19 g_t_20 g_t_21 g_t_22 g_t_23 g_t_24 g_t_25 g_t_26 g_t_27 g_t_28 g_t_29 g_t_30 g_t_31 g_t_32 g_t_33 g_t_34 g_t_35 g_t_36 g_t_37 g_t_38 g_t_39 g_t_40 g_t_41 g_t_42 g_t_43 c_taped (v.1) (v.2.1) (v.2.2.1) (v.2.2.2.1) (v.2.2.2.2.1) (v.2.2.2.2.2.1) (v.2.2.2.2.2.2) c_tape) none := by
  refine Ct.introV (j := 0) (plainFor_of_name (by decide)) rfl rfl (fun E C e1 e2 e3 e4 e5 hret => ?_)
  subst e1; subst e2; subst e3; subst e4
  exact wm_X9_asks C e5 h hret
-- MovingStairModel.number(II)I
def W_X9_number (cy : Nat → ClassId) (a_t a_t_tape : Nat) (g_t_0 : Value) (g_t_1 : Value) (g_t_2 : Value) (g_t_3 : Value) (g_t_4 : Value) (g_t_14 : Value) (g_t_15 : Value) (g_t_16 : Value) (g_t_17 : Value) (g_t_18 : Value) (g_t_19 : Value) (g_t_20 : Value) (g_t_21 : Value) (g_t_22 : Value) (g_t_23 : Value) (g_t_24 : Value) (g_t_25 : Value) (g_t_26 : Value) (g_t_27 : Value) (g_t_28 : Value) (g_t_29 : Value) (g_t_30 : Value) (g_t_31 : Value) (g_t_32 : Value) (g_t_33 : Value) (g_t_34 : Value) (g_t_35 : Value) (g_t_36 : Value) (g_t_37 : Value) (g_t_38 : Value) (g_t_39 : Value) (g_t_40 : Value) (g_t_41 : Value) (g_t_42 : Value) (g_t_43 : Value) (c_taped : Int) (c_at : Int) (c_token : Int) (c_place : Int) (c_value : Int) (c_word : Int) (c_bad : Int) (c_badPlace : Int) (c_tape : Int → Int) : va_W := [(a_t, .inr (9, [g_t_0, g_t_1, g_t_2, g_t_3, g_t_4, .ref a_t_tape, .int (wI c_taped), .int (wI c_at), .int (wI c_token), .int (wI c_place), .int (wI c_value), .long (wJ c_word), .int (wI c_bad), .int (wI c_badPlace), g_t_14, g_t_15, g_t_16, g_t_17, g_t_18, g_t_19, g_t_20, g_t_21, g_t_22, g_t_23, g_t_24, g_t_25, g_t_26, g_t_27, g_t_28, g_t_29, g_t_30, g_t_31, g_t_32, g_t_33, g_t_34, g_t_35, g_t_36, g_t_37, g_t_38, g_t_39, g_t_40, g_t_41, g_t_42, g_t_43])), (a_t_tape, .inl (cy 0, 900, .inl (aI c_tape)))]
def m_X9_number (F : Nat) (x1 : Int) (x2 : Int) (c_taped : Int) (c_at : Int) (c_token : Int) (c_place : Int) (c_value : Int) (c_word : Int) (c_bad : Int) (c_badPlace : Int) (c_tape : Int → Int) : Option (Int × Int × Int × Int × Int × Int × Int × Int) :=
  if wI c_bad = wI 0 then
    (if wI c_token = wI 2 then
    (chk (r32 c_value) <| chk (r32 x1) <| chk (r32 x2) <| bnd1 (m_X9_in F c_value x1 x2) fun r4 => if wI r4 = wI 0 then
    (bnd2 (m_X9_fails F 2 c_place c_bad c_badPlace) fun o6 o7 => some (x1, c_at, c_token, c_place, c_value, c_word, o6, o7))
  else
    (bnd5 (m_X9_next F c_taped c_at c_tape) fun o6 o7 o8 o9 o10 => some (c_value, o6, o7, o8, o9, o10, c_bad, c_badPlace)))
  else
    (bnd2 (m_X9_fails F 1 c_place c_bad c_badPlace) fun o1 o2 => some (x1, c_at, c_token, c_place, c_value, c_word, o1, o2)))
  else
    (some (x1, c_at, c_token, c_place, c_value, c_word, c_bad, c_badPlace))
section S_X9_number
variable {E : EE} {a_t a_t_tape : Nat} {g_t_0 : Value} {g_t_1 : Value} {g_t_2 : Value} {g_t_3 : Value} {g_t_4 : Value} {g_t_14 : Value} {g_t_15 : Value} {g_t_16 : Value} {g_t_17 : Value} {g_t_18 : Value} {g_t_19 : Value} {g_t_20 : Value} {g_t_21 : Value} {g_t_22 : Value} {g_t_23 : Value} {g_t_24 : Value} {g_t_25 : Value} {g_t_26 : Value} {g_t_27 : Value} {g_t_28 : Value} {g_t_29 : Value} {g_t_30 : Value} {g_t_31 : Value} {g_t_32 : Value} {g_t_33 : Value} {g_t_34 : Value} {g_t_35 : Value} {g_t_36 : Value} {g_t_37 : Value} {g_t_38 : Value} {g_t_39 : Value} {g_t_40 : Value} {g_t_41 : Value} {g_t_42 : Value} {g_t_43 : Value}
set_option maxRecDepth 100000 in
set_option maxHeartbeats 4000000 in
theorem wm_X9_number {F : Nat} {v : Int × Int × Int × Int × Int × Int × Int × Int} {x1 : Int} {x2 : Int} {c_taped : Int} {c_at : Int} {c_token : Int} {c_place : Int} {c_value : Int} {c_word : Int} {c_bad : Int} {c_badPlace : Int} {c_tape : Int → Int} (C : Cx E cX9_number RX9 { frames := 2, cells := 0, slots := 0, locals := 44 }) (hN : eN E = 4) (h : m_X9_number F x1 x2 c_taped c_at c_token c_place c_value c_word c_bad c_badPlace c_tape = some v) (hret : ∀ (pc : Nat) (L : List (Option Value)), decode cX9_number pc = .ok (.ireturn, 1) → GG E 0 0 (W_X9_number (eCy E) a_t a_t_tape g_t_0 g_t_1 g_t_2 g_t_3 g_t_4 g_t_14 g_t_15 g_t_16 g_t_17 g_t_18 g_t_19 g_t_20 g_t_21 g_t_22 g_t_23 g_t_24 g_t_25 g_t_26 g_t_27 g_t_28 g_t_29 g_t_30 g_t_31 g_t_32 g_t_33 g_t_34 g_t_35 g_t_36 g_t_37 g_t_38 g_t_39 g_t_40 g_t_41 g_t_42 g_t_43 c_taped (v.2.1) (v.2.2.1) (v.2.2.2.1) (v.2.2.2.2.1) (v.2.2.2.2.2.1) (v.2.2.2.2.2.2.1) (v.2.2.2.2.2.2.2) c_tape) L pc [.int (wI (v.1))]) : GG E 0 0 (W_X9_number (eCy E) a_t a_t_tape g_t_0 g_t_1 g_t_2 g_t_3 g_t_4 g_t_14 g_t_15 g_t_16 g_t_17 g_t_18 g_t_19 g_t_20 g_t_21 g_t_22 g_t_23 g_t_24 g_t_25 g_t_26 g_t_27 g_t_28 g_t_29 g_t_30 g_t_31 g_t_32 g_t_33 g_t_34 g_t_35 g_t_36 g_t_37 g_t_38 g_t_39 g_t_40 g_t_41 g_t_42 g_t_43 c_taped c_at c_token c_place c_value c_word c_bad c_badPlace c_tape) [some (.ref a_t), some (.int (wI x1)), some (.int (wI x2)), none] 0 [] := by
  unfold m_X9_number at h
  refine g_aload_n 0 C dX9_number_0 rfl rfl ?_
  refine g_get C fg_X9_123 0 rfl rfl dX9_number_1 ?_
  refine g_st (st' := [.int (wI c_bad)]) rfl ?_
  refine g_if_eq 9 C dX9_number_4 (by decide) h (fun h => ?_) (fun h => ?_)
  · refine g_aload_n 0 C dX9_number_9 rfl rfl ?_
    refine g_get C fg_X9_112 0 rfl rfl dX9_number_10 ?_
    refine g_st (st' := [.int (wI c_token)]) rfl ?_
    refine g_iconst C dX9_number_13 ?_
    refine g_icmp_eq 24 C dX9_number_14 (by decide) h (fun h => ?_) (fun h => ?_)
    · refine g_aload_n 0 C dX9_number_24 rfl rfl ?_
      refine g_get C fg_X9_105 0 rfl rfl dX9_number_25 ?_
      refine g_st (st' := [.int (wI c_value)]) rfl ?_
      obtain ⟨hc1, h⟩ := chk_some h
      refine g_i2l C dX9_number_28 hc1 ?_
      refine g_iload_n 1 C dX9_number_29 rfl rfl ?_
      obtain ⟨hc2, h⟩ := chk_some h
      refine g_i2l C dX9_number_30 hc2 ?_
      refine g_iload_n 2 C dX9_number_31 rfl rfl ?_
      obtain ⟨hc3, h⟩ := chk_some h
      refine g_i2l C dX9_number_32 hc3 ?_
      obtain ⟨r4, hr5, h⟩ := bnd1_some h
      refine g_callSI [] [0, 1] [0, 1] C mt_X9_76 (c_X9_in _ _ _ _ c_value x1 x2 F hr5) rfl rfl (ws2 := (W_X9_number (eCy E) a_t a_t_tape g_t_0 g_t_1 g_t_2 g_t_3 g_t_4 g_t_14 g_t_15 g_t_16 g_t_17 g_t_18 g_t_19 g_t_20 g_t_21 g_t_22 g_t_23 g_t_24 g_t_25 g_t_26 g_t_27 g_t_28 g_t_29 g_t_30 g_t_31 g_t_32 g_t_33 g_t_34 g_t_35 g_t_36 g_t_37 g_t_38 g_t_39 g_t_40 g_t_41 g_t_42 g_t_43 c_taped c_at c_token c_place c_value c_word c_bad c_badPlace c_tape)) rfl rfl rfl (rest := []) rfl rfl rfl dX9_number_33 ?_
      refine g_if_ne 46 C dX9_number_36 (by decide) h (fun h => ?_) (fun h => ?_)
      · refine g_aload_n 0 C dX9_number_46 rfl rfl ?_
        refine g_get C fg_X9_105 0 rfl rfl dX9_number_47 ?_
        refine g_st (st' := [.int (wI c_value)]) rfl ?_
        refine g_istore_n 3 C hN dX9_number_50 rfl rfl (L' := [some (.ref a_t), some (.int (wI x1)), some (.int (wI x2)), some (.int (wI c_value))]) rfl ?_
        refine g_aload_n 0 C dX9_number_51 rfl rfl ?_
        obtain ⟨o6, o7, o8, o9, o10, hr11, h⟩ := bnd5_some h
        refine g_callV [0, 1] [] [0, 1] C mt_X9_133 (c_X9_next _ _ _ _ a_t a_t_tape (g_t_0) (g_t_1) (g_t_2) (g_t_3) (g_t_4) (.int (wI c_bad)) (.int (wI c_badPlace)) (g_t_14) (g_t_15) (g_t_16) (g_t_17) (g_t_18) (g_t_19) (g_t_20) (g_t_21) (g_t_22) (g_t_23) (g_t_24) (g_t_25) (g_t_26) (g_t_27) (g_t_28) (g_t_29) (g_t_30) (g_t_31) (g_t_32) (g_t_33) (g_t_34) (g_t_35) (g_t_36) (g_t_37) (g_t_38) (g_t_39) (g_t_40) (g_t_41) (g_t_42) (g_t_43) c_taped c_at c_token c_place c_value c_word c_tape F hr11) (q0 := 0) rfl (ci := 9) rfl rfl rfl (ws2 := (W_X9_number (eCy E) a_t a_t_tape g_t_0 g_t_1 g_t_2 g_t_3 g_t_4 g_t_14 g_t_15 g_t_16 g_t_17 g_t_18 g_t_19 g_t_20 g_t_21 g_t_22 g_t_23 g_t_24 g_t_25 g_t_26 g_t_27 g_t_28 g_t_29 g_t_30 g_t_31 g_t_32 g_t_33 g_t_34 g_t_35 g_t_36 g_t_37 g_t_38 g_t_39 g_t_40 g_t_41 g_t_42 g_t_43 c_taped o6 o7 o8 o9 o10 c_bad c_badPlace c_tape)) rfl rfl rfl (rest := []) rfl rfl rfl dX9_number_52 ?_
        refine g_iload_n 3 C dX9_number_55 rfl rfl ?_
        cases h
        exact hret 56 _ dX9_number_56
      · refine g_aload_n 0 C dX9_number_39 rfl rfl ?_
        refine g_iconst C dX9_number_40 ?_
        obtain ⟨o6, o7, hr8, h⟩ := bnd2_some h
        refine g_callV [0] [1] [1, 0] C mt_X9_139 (c_X9_fails _ _ _ _ a_t (g_t_0) (g_t_1) (g_t_2) (g_t_3) (g_t_4) (.ref a_t_tape) (.int (wI c_taped)) (.int (wI c_at)) (.int (wI c_token)) (.int (wI c_value)) (.long (wJ c_word)) (g_t_14) (g_t_15) (g_t_16) (g_t_17) (g_t_18) (g_t_19) (g_t_20) (g_t_21) (g_t_22) (g_t_23) (g_t_24) (g_t_25) (g_t_26) (g_t_27) (g_t_28) (g_t_29) (g_t_30) (g_t_31) (g_t_32) (g_t_33) (g_t_34) (g_t_35) (g_t_36) (g_t_37) (g_t_38) (g_t_39) (g_t_40) (g_t_41) (g_t_42) (g_t_43) 2 c_place c_bad c_badPlace F hr8) (q0 := 0) rfl (ci := 9) rfl rfl rfl (ws2 := (W_X9_number (eCy E) a_t a_t_tape g_t_0 g_t_1 g_t_2 g_t_3 g_t_4 g_t_14 g_t_15 g_t_16 g_t_17 g_t_18 g_t_19 g_t_20 g_t_21 g_t_22 g_t_23 g_t_24 g_t_25 g_t_26 g_t_27 g_t_28 g_t_29 g_t_30 g_t_31 g_t_32 g_t_33 g_t_34 g_t_35 g_t_36 g_t_37 g_t_38 g_t_39 g_t_40 g_t_41 g_t_42 g_t_43 c_taped c_at c_token c_place c_value c_word o6 o7 c_tape)) rfl rfl rfl (rest := []) rfl rfl rfl dX9_number_41 ?_
        refine g_iload_n 1 C dX9_number_44 rfl rfl ?_
        cases h
        exact hret 45 _ dX9_number_45
    · refine g_aload_n 0 C dX9_number_17 rfl rfl ?_
      refine g_iconst C dX9_number_18 ?_
      obtain ⟨o1, o2, hr3, h⟩ := bnd2_some h
      refine g_callV [0] [1] [1, 0] C mt_X9_139 (c_X9_fails _ _ _ _ a_t (g_t_0) (g_t_1) (g_t_2) (g_t_3) (g_t_4) (.ref a_t_tape) (.int (wI c_taped)) (.int (wI c_at)) (.int (wI c_token)) (.int (wI c_value)) (.long (wJ c_word)) (g_t_14) (g_t_15) (g_t_16) (g_t_17) (g_t_18) (g_t_19) (g_t_20) (g_t_21) (g_t_22) (g_t_23) (g_t_24) (g_t_25) (g_t_26) (g_t_27) (g_t_28) (g_t_29) (g_t_30) (g_t_31) (g_t_32) (g_t_33) (g_t_34) (g_t_35) (g_t_36) (g_t_37) (g_t_38) (g_t_39) (g_t_40) (g_t_41) (g_t_42) (g_t_43) 1 c_place c_bad c_badPlace F hr3) (q0 := 0) rfl (ci := 9) rfl rfl rfl (ws2 := (W_X9_number (eCy E) a_t a_t_tape g_t_0 g_t_1 g_t_2 g_t_3 g_t_4 g_t_14 g_t_15 g_t_16 g_t_17 g_t_18 g_t_19 g_t_20 g_t_21 g_t_22 g_t_23 g_t_24 g_t_25 g_t_26 g_t_27 g_t_28 g_t_29 g_t_30 g_t_31 g_t_32 g_t_33 g_t_34 g_t_35 g_t_36 g_t_37 g_t_38 g_t_39 g_t_40 g_t_41 g_t_42 g_t_43 c_taped c_at c_token c_place c_value c_word o1 o2 c_tape)) rfl rfl rfl (rest := []) rfl rfl rfl dX9_number_19 ?_
      refine g_iload_n 1 C dX9_number_22 rfl rfl ?_
      cases h
      exact hret 23 _ dX9_number_23
  · refine g_iload_n 1 C dX9_number_7 rfl rfl ?_
    cases h
    exact hret 8 _ dX9_number_8
end S_X9_number
set_option maxRecDepth 100000 in
set_option maxHeartbeats 4000000 in
theorem c_X9_number (l : Launch) (D : va_G) (cy : Nat → ClassId) (ad : AD) (a_t a_t_tape : Nat) (g_t_0 : Value) (g_t_1 : Value) (g_t_2 : Value) (g_t_3 : Value) (g_t_4 : Value) (g_t_14 : Value) (g_t_15 : Value) (g_t_16 : Value) (g_t_17 : Value) (g_t_18 : Value) (g_t_19 : Value) (g_t_20 : Value) (g_t_21 : Value) (g_t_22 : Value) (g_t_23 : Value) (g_t_24 : Value) (g_t_25 : Value) (g_t_26 : Value) (g_t_27 : Value) (g_t_28 : Value) (g_t_29 : Value) (g_t_30 : Value) (g_t_31 : Value) (g_t_32 : Value) (g_t_33 : Value) (g_t_34 : Value) (g_t_35 : Value) (g_t_36 : Value) (g_t_37 : Value) (g_t_38 : Value) (g_t_39 : Value) (g_t_40 : Value) (g_t_41 : Value) (g_t_42 : Value) (g_t_43 : Value) (x1 : Int) (x2 : Int) (c_taped : Int) (c_at : Int) (c_token : Int) (c_place : Int) (c_value : Int) (c_word : Int) (c_bad : Int) (c_badPlace : Int) (c_tape : Int → Int) (F : Nat) {v : Int × Int × Int × Int × Int × Int × Int × Int} (h : m_X9_number F x1 x2 c_taped c_at c_token c_place c_value c_word c_bad c_badPlace c_tape = some v) : Ct l yX9_number cX9_number 4 (some .int) { frames := 2, cells := 0, slots := 0, locals := 44 } D cy ad [.ref a_t, .int (wI x1), .int (wI x2)] (W_X9_number cy a_t a_t_tape g_t_0 g_t_1 g_t_2 g_t_3 g_t_4 g_t_14 g_t_15 g_t_16 g_t_17 g_t_18 g_t_19 g_t_20 g_t_21 g_t_22 g_t_23 g_t_24 g_t_25 g_t_26 g_t_27 g_t_28 g_t_29 g_t_30 g_t_31 g_t_32 g_t_33 g_t_34 g_t_35 g_t_36 g_t_37 g_t_38 g_t_39 g_t_40 g_t_41 g_t_42 g_t_43 c_taped c_at c_token c_place c_value c_word c_bad c_badPlace c_tape) (W_X9_number cy a_t a_t_tape g_t_0 g_t_1 g_t_2 g_t_3 g_t_4 g_t_14 g_t_15 g_t_16 g_t_17 g_t_18 g_t_19 g_t_20 g_t_21 g_t_22 g_t_23 g_t_24 g_t_25 g_t_26 g_t_27 g_t_28 g_t_29 g_t_30 g_t_31 g_t_32 g_t_33 g_t_34 g_t_35 g_t_36 g_t_37 g_t_38 g_t_39 g_t_40 g_t_41 g_t_42 g_t_43 c_taped (v.2.1) (v.2.2.1) (v.2.2.2.1) (v.2.2.2.2.1) (v.2.2.2.2.2.1) (v.2.2.2.2.2.2.1) (v.2.2.2.2.2.2.2) c_tape) (some (.int (wI (v.1)))) := by
  refine Ct.introI (j := 1) (plainFor_of_name (by decide)) rfl rfl (fun E C e1 e2 e3 e4 e5 hret => ?_)
  subst e1; subst e2; subst e3; subst e4
  exact wm_X9_number C e5 h hret
-- MovingStairModel.number(JII)I
def W_X9_number_ (cy : Nat → ClassId) (a_t a_t_tape : Nat) (g_t_0 : Value) (g_t_1 : Value) (g_t_2 : Value) (g_t_3 : Value) (g_t_4 : Value) (g_t_14 : Value) (g_t_15 : Value) (g_t_16 : Value) (g_t_17 : Value) (g_t_18 : Value) (g_t_19 : Value) (g_t_20 : Value) (g_t_21 : Value) (g_t_22 : Value) (g_t_23 : Value) (g_t_24 : Value) (g_t_25 : Value) (g_t_26 : Value) (g_t_27 : Value) (g_t_28 : Value) (g_t_29 : Value) (g_t_30 : Value) (g_t_31 : Value) (g_t_32 : Value) (g_t_33 : Value) (g_t_34 : Value) (g_t_35 : Value) (g_t_36 : Value) (g_t_37 : Value) (g_t_38 : Value) (g_t_39 : Value) (g_t_40 : Value) (g_t_41 : Value) (g_t_42 : Value) (g_t_43 : Value) (c_taped : Int) (c_at : Int) (c_token : Int) (c_place : Int) (c_value : Int) (c_word : Int) (c_bad : Int) (c_badPlace : Int) (c_tape : Int → Int) : va_W := [(a_t, .inr (9, [g_t_0, g_t_1, g_t_2, g_t_3, g_t_4, .ref a_t_tape, .int (wI c_taped), .int (wI c_at), .int (wI c_token), .int (wI c_place), .int (wI c_value), .long (wJ c_word), .int (wI c_bad), .int (wI c_badPlace), g_t_14, g_t_15, g_t_16, g_t_17, g_t_18, g_t_19, g_t_20, g_t_21, g_t_22, g_t_23, g_t_24, g_t_25, g_t_26, g_t_27, g_t_28, g_t_29, g_t_30, g_t_31, g_t_32, g_t_33, g_t_34, g_t_35, g_t_36, g_t_37, g_t_38, g_t_39, g_t_40, g_t_41, g_t_42, g_t_43])), (a_t_tape, .inl (cy 0, 900, .inl (aI c_tape)))]
def m_X9_number_ (F : Nat) (x1 : Int) (x3 : Int) (x4 : Int) (c_taped : Int) (c_at : Int) (c_token : Int) (c_place : Int) (c_value : Int) (c_word : Int) (c_bad : Int) (c_badPlace : Int) (c_tape : Int → Int) : Option (Int × Int × Int × Int × Int × Int × Int × Int) :=
  bnd7 (m_X9_asks F x1 c_taped c_at c_token c_place c_value c_word c_bad c_badPlace c_tape) fun o1 o2 o3 o4 o5 o6 o7 => bnd8 (m_X9_number F x3 x4 c_taped o1 o2 o3 o4 o5 o6 o7 c_tape) fun r9 o10 o11 o12 o13 o14 o15 o16 => some (r9, o10, o11, o12, o13, o14, o15, o16)
section S_X9_number_
variable {E : EE} {a_t a_t_tape : Nat} {g_t_0 : Value} {g_t_1 : Value} {g_t_2 : Value} {g_t_3 : Value} {g_t_4 : Value} {g_t_14 : Value} {g_t_15 : Value} {g_t_16 : Value} {g_t_17 : Value} {g_t_18 : Value} {g_t_19 : Value} {g_t_20 : Value} {g_t_21 : Value} {g_t_22 : Value} {g_t_23 : Value} {g_t_24 : Value} {g_t_25 : Value} {g_t_26 : Value} {g_t_27 : Value} {g_t_28 : Value} {g_t_29 : Value} {g_t_30 : Value} {g_t_31 : Value} {g_t_32 : Value} {g_t_33 : Value} {g_t_34 : Value} {g_t_35 : Value} {g_t_36 : Value} {g_t_37 : Value} {g_t_38 : Value} {g_t_39 : Value} {g_t_40 : Value} {g_t_41 : Value} {g_t_42 : Value} {g_t_43 : Value}
set_option maxRecDepth 100000 in
set_option maxHeartbeats 4000000 in
theorem wm_X9_number_ {F : Nat} {v : Int × Int × Int × Int × Int × Int × Int × Int} {x1 : Int} {x3 : Int} {x4 : Int} {c_taped : Int} {c_at : Int} {c_token : Int} {c_place : Int} {c_value : Int} {c_word : Int} {c_bad : Int} {c_badPlace : Int} {c_tape : Int → Int} (C : Cx E cX9_number_ RX9 { frames := 4, cells := 0, slots := 0, locals := 88 }) (hN : eN E = 5) (h : m_X9_number_ F x1 x3 x4 c_taped c_at c_token c_place c_value c_word c_bad c_badPlace c_tape = some v) (hret : ∀ (pc : Nat) (L : List (Option Value)), decode cX9_number_ pc = .ok (.ireturn, 1) → GG E 0 0 (W_X9_number_ (eCy E) a_t a_t_tape g_t_0 g_t_1 g_t_2 g_t_3 g_t_4 g_t_14 g_t_15 g_t_16 g_t_17 g_t_18 g_t_19 g_t_20 g_t_21 g_t_22 g_t_23 g_t_24 g_t_25 g_t_26 g_t_27 g_t_28 g_t_29 g_t_30 g_t_31 g_t_32 g_t_33 g_t_34 g_t_35 g_t_36 g_t_37 g_t_38 g_t_39 g_t_40 g_t_41 g_t_42 g_t_43 c_taped (v.2.1) (v.2.2.1) (v.2.2.2.1) (v.2.2.2.2.1) (v.2.2.2.2.2.1) (v.2.2.2.2.2.2.1) (v.2.2.2.2.2.2.2) c_tape) L pc [.int (wI (v.1))]) : GG E 0 0 (W_X9_number_ (eCy E) a_t a_t_tape g_t_0 g_t_1 g_t_2 g_t_3 g_t_4 g_t_14 g_t_15 g_t_16 g_t_17 g_t_18 g_t_19 g_t_20 g_t_21 g_t_22 g_t_23 g_t_24 g_t_25 g_t_26 g_t_27 g_t_28 g_t_29 g_t_30 g_t_31 g_t_32 g_t_33 g_t_34 g_t_35 g_t_36 g_t_37 g_t_38 g_t_39 g_t_40 g_t_41 g_t_42 g_t_43 c_taped c_at c_token c_place c_value c_word c_bad c_badPlace c_tape) [some (.ref a_t), some (.long (wJ x1)), none, some (.int (wI x3)), some (.int (wI x4))] 0 [] := by
  unfold m_X9_number_ at h
  refine g_aload_n 0 C dX9_number__0 rfl rfl ?_
  refine g_lload_n 1 C dX9_number__1 rfl rfl ?_
  obtain ⟨o1, o2, o3, o4, o5, o6, o7, hr8, h⟩ := bnd7_some h
  refine g_callV [0, 1] [] [0, 1] C mt_X9_142 (c_X9_asks _ _ _ _ a_t a_t_tape (g_t_0) (g_t_1) (g_t_2) (g_t_3) (g_t_4) (g_t_14) (g_t_15) (g_t_16) (g_t_17) (g_t_18) (g_t_19) (g_t_20) (g_t_21) (g_t_22) (g_t_23) (g_t_24) (g_t_25) (g_t_26) (g_t_27) (g_t_28) (g_t_29) (g_t_30) (g_t_31) (g_t_32) (g_t_33) (g_t_34) (g_t_35) (g_t_36) (g_t_37) (g_t_38) (g_t_39) (g_t_40) (g_t_41) (g_t_42) (g_t_43) x1 c_taped c_at c_token c_place c_value c_word c_bad c_badPlace c_tape F hr8) (q0 := 0) rfl (ci := 9) rfl rfl rfl (ws2 := (W_X9_number_ (eCy E) a_t a_t_tape g_t_0 g_t_1 g_t_2 g_t_3 g_t_4 g_t_14 g_t_15 g_t_16 g_t_17 g_t_18 g_t_19 g_t_20 g_t_21 g_t_22 g_t_23 g_t_24 g_t_25 g_t_26 g_t_27 g_t_28 g_t_29 g_t_30 g_t_31 g_t_32 g_t_33 g_t_34 g_t_35 g_t_36 g_t_37 g_t_38 g_t_39 g_t_40 g_t_41 g_t_42 g_t_43 c_taped o1 o2 o3 o4 o5 o6 o7 c_tape)) rfl rfl rfl (rest := []) rfl rfl rfl dX9_number__2 ?_
  refine g_aload_n 0 C dX9_number__5 rfl rfl ?_
  refine g_iload_n 3 C dX9_number__6 rfl rfl ?_
  refine g_iload C dX9_number__7 rfl ?_
  obtain ⟨r9, o10, o11, o12, o13, o14, o15, o16, hr17, h⟩ := bnd8_some h
  refine g_callI [0, 1] [] [0, 1] C mt_X9_146 (c_X9_number _ _ _ _ a_t a_t_tape (g_t_0) (g_t_1) (g_t_2) (g_t_3) (g_t_4) (g_t_14) (g_t_15) (g_t_16) (g_t_17) (g_t_18) (g_t_19) (g_t_20) (g_t_21) (g_t_22) (g_t_23) (g_t_24) (g_t_25) (g_t_26) (g_t_27) (g_t_28) (g_t_29) (g_t_30) (g_t_31) (g_t_32) (g_t_33) (g_t_34) (g_t_35) (g_t_36) (g_t_37) (g_t_38) (g_t_39) (g_t_40) (g_t_41) (g_t_42) (g_t_43) x3 x4 c_taped o1 o2 o3 o4 o5 o6 o7 c_tape F hr17) (q0 := 0) rfl (ci := 9) rfl rfl rfl (ws2 := (W_X9_number_ (eCy E) a_t a_t_tape g_t_0 g_t_1 g_t_2 g_t_3 g_t_4 g_t_14 g_t_15 g_t_16 g_t_17 g_t_18 g_t_19 g_t_20 g_t_21 g_t_22 g_t_23 g_t_24 g_t_25 g_t_26 g_t_27 g_t_28 g_t_29 g_t_30 g_t_31 g_t_32 g_t_33 g_t_34 g_t_35 g_t_36 g_t_37 g_t_38 g_t_39 g_t_40 g_t_41 g_t_42 g_t_43 c_taped o10 o11 o12 o13 o14 o15 o16 c_tape)) rfl rfl rfl (rest := []) rfl rfl rfl dX9_number__9 ?_
  cases h
  exact hret 12 _ dX9_number__12
end S_X9_number_
set_option maxRecDepth 100000 in
set_option maxHeartbeats 4000000 in
theorem c_X9_number_ (l : Launch) (D : va_G) (cy : Nat → ClassId) (ad : AD) (a_t a_t_tape : Nat) (g_t_0 : Value) (g_t_1 : Value) (g_t_2 : Value) (g_t_3 : Value) (g_t_4 : Value) (g_t_14 : Value) (g_t_15 : Value) (g_t_16 : Value) (g_t_17 : Value) (g_t_18 : Value) (g_t_19 : Value) (g_t_20 : Value) (g_t_21 : Value) (g_t_22 : Value) (g_t_23 : Value) (g_t_24 : Value) (g_t_25 : Value) (g_t_26 : Value) (g_t_27 : Value) (g_t_28 : Value) (g_t_29 : Value) (g_t_30 : Value) (g_t_31 : Value) (g_t_32 : Value) (g_t_33 : Value) (g_t_34 : Value) (g_t_35 : Value) (g_t_36 : Value) (g_t_37 : Value) (g_t_38 : Value) (g_t_39 : Value) (g_t_40 : Value) (g_t_41 : Value) (g_t_42 : Value) (g_t_43 : Value) (x1 : Int) (x3 : Int) (x4 : Int) (c_taped : Int) (c_at : Int) (c_token : Int) (c_place : Int) (c_value : Int) (c_word : Int) (c_bad : Int) (c_badPlace : Int) (c_tape : Int → Int) (F : Nat) {v : Int × Int × Int × Int × Int × Int × Int × Int} (h : m_X9_number_ F x1 x3 x4 c_taped c_at c_token c_place c_value c_word c_bad c_badPlace c_tape = some v) : Ct l yX9_number_ cX9_number_ 5 (some .int) { frames := 4, cells := 0, slots := 0, locals := 88 } D cy ad [.ref a_t, .long (wJ x1), .int (wI x3), .int (wI x4)] (W_X9_number_ cy a_t a_t_tape g_t_0 g_t_1 g_t_2 g_t_3 g_t_4 g_t_14 g_t_15 g_t_16 g_t_17 g_t_18 g_t_19 g_t_20 g_t_21 g_t_22 g_t_23 g_t_24 g_t_25 g_t_26 g_t_27 g_t_28 g_t_29 g_t_30 g_t_31 g_t_32 g_t_33 g_t_34 g_t_35 g_t_36 g_t_37 g_t_38 g_t_39 g_t_40 g_t_41 g_t_42 g_t_43 c_taped c_at c_token c_place c_value c_word c_bad c_badPlace c_tape) (W_X9_number_ cy a_t a_t_tape g_t_0 g_t_1 g_t_2 g_t_3 g_t_4 g_t_14 g_t_15 g_t_16 g_t_17 g_t_18 g_t_19 g_t_20 g_t_21 g_t_22 g_t_23 g_t_24 g_t_25 g_t_26 g_t_27 g_t_28 g_t_29 g_t_30 g_t_31 g_t_32 g_t_33 g_t_34 g_t_35 g_t_36 g_t_37 g_t_38 g_t_39 g_t_40 g_t_41 g_t_42 g_t_43 c_taped (v.2.1) (v.2.2.1) (v.2.2.2.1) (v.2.2.2.2.1) (v.2.2.2.2.2.1) (v.2.2.2.2.2.2.1) (v.2.2.2.2.2.2.2) c_tape) (some (.int (wI (v.1)))) := by
  refine Ct.introI (j := 0) (plainFor_of_name (by decide)) rfl rfl (fun E C e1 e2 e3 e4 e5 hret => ?_)
  subst e1; subst e2; subst e3; subst e4
  exact wm_X9_number_ C e5 h hret
-- MovingStairModel.ends()V
def W_X9_ends (cy : Nat → ClassId) (a_t a_t_tape : Nat) (g_t_0 : Value) (g_t_1 : Value) (g_t_2 : Value) (g_t_3 : Value) (g_t_4 : Value) (g_t_14 : Value) (g_t_15 : Value) (g_t_16 : Value) (g_t_17 : Value) (g_t_18 : Value) (g_t_19 : Value) (g_t_20 : Value) (g_t_21 : Value) (g_t_22 : Value) (g_t_23 : Value) (g_t_24 : Value) (g_t_25 : Value) (g_t_26 : Value) (g_t_27 : Value) (g_t_28 : Value) (g_t_29 : Value) (g_t_30 : Value) (g_t_31 : Value) (g_t_32 : Value) (g_t_33 : Value) (g_t_34 : Value) (g_t_35 : Value) (g_t_36 : Value) (g_t_37 : Value) (g_t_38 : Value) (g_t_39 : Value) (g_t_40 : Value) (g_t_41 : Value) (g_t_42 : Value) (g_t_43 : Value) (c_taped : Int) (c_at : Int) (c_token : Int) (c_place : Int) (c_value : Int) (c_word : Int) (c_bad : Int) (c_badPlace : Int) (c_tape : Int → Int) : va_W := [(a_t, .inr (9, [g_t_0, g_t_1, g_t_2, g_t_3, g_t_4, .ref a_t_tape, .int (wI c_taped), .int (wI c_at), .int (wI c_token), .int (wI c_place), .int (wI c_value), .long (wJ c_word), .int (wI c_bad), .int (wI c_badPlace), g_t_14, g_t_15, g_t_16, g_t_17, g_t_18, g_t_19, g_t_20, g_t_21, g_t_22, g_t_23, g_t_24, g_t_25, g_t_26, g_t_27, g_t_28, g_t_29, g_t_30, g_t_31, g_t_32, g_t_33, g_t_34, g_t_35, g_t_36, g_t_37, g_t_38, g_t_39, g_t_40, g_t_41, g_t_42, g_t_43])), (a_t_tape, .inl (cy 0, 900, .inl (aI c_tape)))]
def mb_X9_ends_13 (F : Nat) (c_taped : Int) (c_at : Int) (c_token : Int) (c_place : Int) (c_value : Int) (c_word : Int) (c_bad : Int) (c_badPlace : Int) (c_tape : Int → Int) : Option (Int × Int × Int × Int × Int × Int × Int) :=
  if wI c_bad = wI 0 then
    (bnd5 (m_X9_next F c_taped c_at c_tape) fun o1 o2 o3 o4 o5 => some (o1, o2, o3, o4, o5, c_bad, c_badPlace))
  else
    (some (c_at, c_token, c_place, c_value, c_word, c_bad, c_badPlace))
def m_X9_ends (F : Nat) (c_taped : Int) (c_at : Int) (c_token : Int) (c_place : Int) (c_value : Int) (c_word : Int) (c_bad : Int) (c_badPlace : Int) (c_tape : Int → Int) : Option (Int × Int × Int × Int × Int × Int × Int) :=
  if wI c_token = wI 3 then
    (mb_X9_ends_13 F c_taped c_at c_token c_place c_value c_word c_bad c_badPlace c_tape)
  else
    (bnd2 (m_X9_fails F 1 c_place c_bad c_badPlace) fun o1 o2 => mb_X9_ends_13 F c_taped c_at c_token c_place c_value c_word o1 o2 c_tape)
section S_X9_ends
variable {E : EE} {a_t a_t_tape : Nat} {g_t_0 : Value} {g_t_1 : Value} {g_t_2 : Value} {g_t_3 : Value} {g_t_4 : Value} {g_t_14 : Value} {g_t_15 : Value} {g_t_16 : Value} {g_t_17 : Value} {g_t_18 : Value} {g_t_19 : Value} {g_t_20 : Value} {g_t_21 : Value} {g_t_22 : Value} {g_t_23 : Value} {g_t_24 : Value} {g_t_25 : Value} {g_t_26 : Value} {g_t_27 : Value} {g_t_28 : Value} {g_t_29 : Value} {g_t_30 : Value} {g_t_31 : Value} {g_t_32 : Value} {g_t_33 : Value} {g_t_34 : Value} {g_t_35 : Value} {g_t_36 : Value} {g_t_37 : Value} {g_t_38 : Value} {g_t_39 : Value} {g_t_40 : Value} {g_t_41 : Value} {g_t_42 : Value} {g_t_43 : Value}
set_option maxRecDepth 100000 in
set_option maxHeartbeats 4000000 in
theorem wb_X9_ends_13 {F : Nat} {v : Int × Int × Int × Int × Int × Int × Int} {c_taped : Int} {c_at : Int} {c_token : Int} {c_place : Int} {c_value : Int} {c_word : Int} {c_bad : Int} {c_badPlace : Int} {c_tape : Int → Int} (C : Cx E cX9_ends RX9 { frames := 2, cells := 0, slots := 0, locals := 44 }) (hN : eN E = 1) (h : mb_X9_ends_13 F c_taped c_at c_token c_place c_value c_word c_bad c_badPlace c_tape = some v) (hret : ∀ (pc : Nat) (L : List (Option Value)), decode cX9_ends pc = .ok (.return_, 1) → GG E 0 0 (W_X9_ends (eCy E) a_t a_t_tape g_t_0 g_t_1 g_t_2 g_t_3 g_t_4 g_t_14 g_t_15 g_t_16 g_t_17 g_t_18 g_t_19 g_t_20 g_t_21 g_t_22 g_t_23 g_t_24 g_t_25 g_t_26 g_t_27 g_t_28 g_t_29 g_t_30 g_t_31 g_t_32 g_t_33 g_t_34 g_t_35 g_t_36 g_t_37 g_t_38 g_t_39 g_t_40 g_t_41 g_t_42 g_t_43 c_taped (v.1) (v.2.1) (v.2.2.1) (v.2.2.2.1) (v.2.2.2.2.1) (v.2.2.2.2.2.1) (v.2.2.2.2.2.2) c_tape) L pc []) : GG E 0 0 (W_X9_ends (eCy E) a_t a_t_tape g_t_0 g_t_1 g_t_2 g_t_3 g_t_4 g_t_14 g_t_15 g_t_16 g_t_17 g_t_18 g_t_19 g_t_20 g_t_21 g_t_22 g_t_23 g_t_24 g_t_25 g_t_26 g_t_27 g_t_28 g_t_29 g_t_30 g_t_31 g_t_32 g_t_33 g_t_34 g_t_35 g_t_36 g_t_37 g_t_38 g_t_39 g_t_40 g_t_41 g_t_42 g_t_43 c_taped c_at c_token c_place c_value c_word c_bad c_badPlace c_tape) [some (.ref a_t)] 13 [] := by
  unfold mb_X9_ends_13 at h
  refine g_aload_n 0 C dX9_ends_13 rfl rfl ?_
  refine g_get C fg_X9_123 0 rfl rfl dX9_ends_14 ?_
  refine g_st (st' := [.int (wI c_bad)]) rfl ?_
  refine g_if_ne 24 C dX9_ends_17 (by decide) h (fun h => ?_) (fun h => ?_)
  · cases h
    exact hret 24 _ dX9_ends_24
  · refine g_aload_n 0 C dX9_ends_20 rfl rfl ?_
    obtain ⟨o1, o2, o3, o4, o5, hr6, h⟩ := bnd5_some h
    refine g_callV [0, 1] [] [0, 1] C mt_X9_133 (c_X9_next _ _ _ _ a_t a_t_tape (g_t_0) (g_t_1) (g_t_2) (g_t_3) (g_t_4) (.int (wI c_bad)) (.int (wI c_badPlace)) (g_t_14) (g_t_15) (g_t_16) (g_t_17) (g_t_18) (g_t_19) (g_t_20) (g_t_21) (g_t_22) (g_t_23) (g_t_24) (g_t_25) (g_t_26) (g_t_27) (g_t_28) (g_t_29) (g_t_30) (g_t_31) (g_t_32) (g_t_33) (g_t_34) (g_t_35) (g_t_36) (g_t_37) (g_t_38) (g_t_39) (g_t_40) (g_t_41) (g_t_42) (g_t_43) c_taped c_at c_token c_place c_value c_word c_tape F hr6) (q0 := 0) rfl (ci := 9) rfl rfl rfl (ws2 := (W_X9_ends (eCy E) a_t a_t_tape g_t_0 g_t_1 g_t_2 g_t_3 g_t_4 g_t_14 g_t_15 g_t_16 g_t_17 g_t_18 g_t_19 g_t_20 g_t_21 g_t_22 g_t_23 g_t_24 g_t_25 g_t_26 g_t_27 g_t_28 g_t_29 g_t_30 g_t_31 g_t_32 g_t_33 g_t_34 g_t_35 g_t_36 g_t_37 g_t_38 g_t_39 g_t_40 g_t_41 g_t_42 g_t_43 c_taped o1 o2 o3 o4 o5 c_bad c_badPlace c_tape)) rfl rfl rfl (rest := []) rfl rfl rfl dX9_ends_21 ?_
    cases h
    exact hret 24 _ dX9_ends_24
set_option maxRecDepth 100000 in
set_option maxHeartbeats 4000000 in
theorem wm_X9_ends {F : Nat} {v : Int × Int × Int × Int × Int × Int × Int} {c_taped : Int} {c_at : Int} {c_token : Int} {c_place : Int} {c_value : Int} {c_word : Int} {c_bad : Int} {c_badPlace : Int} {c_tape : Int → Int} (C : Cx E cX9_ends RX9 { frames := 2, cells := 0, slots := 0, locals := 44 }) (hN : eN E = 1) (h : m_X9_ends F c_taped c_at c_token c_place c_value c_word c_bad c_badPlace c_tape = some v) (hret : ∀ (pc : Nat) (L : List (Option Value)), decode cX9_ends pc = .ok (.return_, 1) → GG E 0 0 (W_X9_ends (eCy E) a_t a_t_tape g_t_0 g_t_1 g_t_2 g_t_3 g_t_4 g_t_14 g_t_15 g_t_16 g_t_17 g_t_18 g_t_19 g_t_20 g_t_21 g_t_22 g_t_23 g_t_24 g_t_25 g_t_26 g_t_27 g_t_28 g_t_29 g_t_30 g_t_31 g_t_32 g_t_33 g_t_34 g_t_35 g_t_36 g_t_37 g_t_38 g_t_39 g_t_40 g_t_41 g_t_42 g_t_43 c_taped (v.1) (v.2.1) (v.2.2.1) (v.2.2.2.1) (v.2.2.2.2.1) (v.2.2.2.2.2.1) (v.2.2.2.2.2.2) c_tape) L pc []) : GG E 0 0 (W_X9_ends (eCy E) a_t a_t_tape g_t_0 g_t_1 g_t_2 g_t_3 g_t_4 g_t_14 g_t_15 g_t_16 g_t_17 g_t_18 g_t_19 g_t_20 g_t_21 g_t_22 g_t_23 g_t_24 g_t_25 g_t_26 g_t_27 g_t_28 g_t_29 g_t_30 g_t_31 g_t_32 g_t_33 g_t_34 g_t_35 g_t_36 g_t_37 g_t_38 g_t_39 g_t_40 g_t_41 g_t_42 g_t_43 c_taped c_at c_token c_place c_value c_word c_bad c_badPlace c_tape) [some (.ref a_t)] 0 [] := by
  unfold m_X9_ends at h
  refine g_aload_n 0 C dX9_ends_0 rfl rfl ?_
  refine g_get C fg_X9_112 0 rfl rfl dX9_ends_1 ?_
  refine g_st (st' := [.int (wI c_token)]) rfl ?_
  refine g_iconst C dX9_ends_4 ?_
  refine g_icmp_eq 13 C dX9_ends_5 (by decide) h (fun h => ?_) (fun h => ?_)
  · exact wb_X9_ends_13 C hN h hret
  · refine g_aload_n 0 C dX9_ends_8 rfl rfl ?_
    refine g_iconst C dX9_ends_9 ?_
    obtain ⟨o1, o2, hr3, h⟩ := bnd2_some h
    refine g_callV [0] [1] [1, 0] C mt_X9_139 (c_X9_fails _ _ _ _ a_t (g_t_0) (g_t_1) (g_t_2) (g_t_3) (g_t_4) (.ref a_t_tape) (.int (wI c_taped)) (.int (wI c_at)) (.int (wI c_token)) (.int (wI c_value)) (.long (wJ c_word)) (g_t_14) (g_t_15) (g_t_16) (g_t_17) (g_t_18) (g_t_19) (g_t_20) (g_t_21) (g_t_22) (g_t_23) (g_t_24) (g_t_25) (g_t_26) (g_t_27) (g_t_28) (g_t_29) (g_t_30) (g_t_31) (g_t_32) (g_t_33) (g_t_34) (g_t_35) (g_t_36) (g_t_37) (g_t_38) (g_t_39) (g_t_40) (g_t_41) (g_t_42) (g_t_43) 1 c_place c_bad c_badPlace F hr3) (q0 := 0) rfl (ci := 9) rfl rfl rfl (ws2 := (W_X9_ends (eCy E) a_t a_t_tape g_t_0 g_t_1 g_t_2 g_t_3 g_t_4 g_t_14 g_t_15 g_t_16 g_t_17 g_t_18 g_t_19 g_t_20 g_t_21 g_t_22 g_t_23 g_t_24 g_t_25 g_t_26 g_t_27 g_t_28 g_t_29 g_t_30 g_t_31 g_t_32 g_t_33 g_t_34 g_t_35 g_t_36 g_t_37 g_t_38 g_t_39 g_t_40 g_t_41 g_t_42 g_t_43 c_taped c_at c_token c_place c_value c_word o1 o2 c_tape)) rfl rfl rfl (rest := []) rfl rfl rfl dX9_ends_10 ?_
    exact wb_X9_ends_13 C hN h hret
end S_X9_ends
set_option maxRecDepth 100000 in
set_option maxHeartbeats 4000000 in
theorem c_X9_ends (l : Launch) (D : va_G) (cy : Nat → ClassId) (ad : AD) (a_t a_t_tape : Nat) (g_t_0 : Value) (g_t_1 : Value) (g_t_2 : Value) (g_t_3 : Value) (g_t_4 : Value) (g_t_14 : Value) (g_t_15 : Value) (g_t_16 : Value) (g_t_17 : Value) (g_t_18 : Value) (g_t_19 : Value) (g_t_20 : Value) (g_t_21 : Value) (g_t_22 : Value) (g_t_23 : Value) (g_t_24 : Value) (g_t_25 : Value) (g_t_26 : Value) (g_t_27 : Value) (g_t_28 : Value) (g_t_29 : Value) (g_t_30 : Value) (g_t_31 : Value) (g_t_32 : Value) (g_t_33 : Value) (g_t_34 : Value) (g_t_35 : Value) (g_t_36 : Value) (g_t_37 : Value) (g_t_38 : Value) (g_t_39 : Value) (g_t_40 : Value) (g_t_41 : Value) (g_t_42 : Value) (g_t_43 : Value) (c_taped : Int) (c_at : Int) (c_token : Int) (c_place : Int) (c_value : Int) (c_word : Int) (c_bad : Int) (c_badPlace : Int) (c_tape : Int → Int) (F : Nat) {v : Int × Int × Int × Int × Int × Int × Int} (h : m_X9_ends F c_taped c_at c_token c_place c_value c_word c_bad c_badPlace c_tape = some v) : Ct l yX9_ends cX9_ends 1 none { frames := 2, cells := 0, slots := 0, locals := 44 } D cy ad [.ref a_t] (W_X9_ends cy a_t a_t_tape g_t_0 g_t_1 g_t_2 g_t_3 g_t_4 g_t_14 g_t_15 g_t_16 g_t_17 g_t_18 g_t_19 g_t_20 g_t_21 g_t_22 g_t_23 g_t_24 g_t_25 g_t_26 g_t_27 g_t_28 g_t_29 g_t_30 g_t_31 g_t_32 g_t_33 g_t_34 g_t_35 g_t_36 g_t_37 g_t_38 g_t_39 g_t_40 g_t_41 g_t_42 g_t_43 c_taped c_at c_token c_place c_value c_word c_bad c_badPlace c_tape) (W_X9_ends cy a_t a_t_tape g_t_0 g_t_1 g_t_2 g_t_3 g_t_4 g_t_14 g_t_15 g_t_16 g_t_17 g_t_18 g_t_19 g_t_20 g_t_21 g_t_22 g_t_23 g_t_24 g_t_25 g_t_26 g_t_27 g_t_28 g_t_29 g_t_30 g_t_31 g_t_32 g_t_33 g_t_34 g_t_35 g_t_36 g_t_37 g_t_38 g_t_39 g_t_40 g_t_41 g_t_42 g_t_43 c_taped (v.1) (v.2.1) (v.2.2.1) (v.2.2.2.1) (v.2.2.2.2.1) (v.2.2.2.2.2.1) (v.2.2.2.2.2.2) c_tape) none := by
  refine Ct.introV (j := 0) (plainFor_of_name (by decide)) rfl rfl (fun E C e1 e2 e3 e4 e5 hret => ?_)
  subst e1; subst e2; subst e3; subst e4
  exact wm_X9_ends C e5 h hret
-- MovingStairModel.begins()V
def W_X9_begins (cy : Nat → ClassId) (a_t a_t_tape : Nat) (g_t_0 : Value) (g_t_1 : Value) (g_t_2 : Value) (g_t_3 : Value) (g_t_4 : Value) (g_t_14 : Value) (g_t_15 : Value) (g_t_16 : Value) (g_t_17 : Value) (g_t_18 : Value) (g_t_19 : Value) (g_t_20 : Value) (g_t_21 : Value) (g_t_22 : Value) (g_t_23 : Value) (g_t_24 : Value) (g_t_25 : Value) (g_t_26 : Value) (g_t_27 : Value) (g_t_28 : Value) (g_t_29 : Value) (g_t_30 : Value) (g_t_31 : Value) (g_t_32 : Value) (g_t_33 : Value) (g_t_34 : Value) (g_t_35 : Value) (g_t_36 : Value) (g_t_37 : Value) (g_t_38 : Value) (g_t_39 : Value) (g_t_40 : Value) (g_t_41 : Value) (g_t_42 : Value) (g_t_43 : Value) (c_taped : Int) (c_at : Int) (c_token : Int) (c_place : Int) (c_value : Int) (c_word : Int) (c_bad : Int) (c_badPlace : Int) (c_tape : Int → Int) : va_W := [(a_t, .inr (9, [g_t_0, g_t_1, g_t_2, g_t_3, g_t_4, .ref a_t_tape, .int (wI c_taped), .int (wI c_at), .int (wI c_token), .int (wI c_place), .int (wI c_value), .long (wJ c_word), .int (wI c_bad), .int (wI c_badPlace), g_t_14, g_t_15, g_t_16, g_t_17, g_t_18, g_t_19, g_t_20, g_t_21, g_t_22, g_t_23, g_t_24, g_t_25, g_t_26, g_t_27, g_t_28, g_t_29, g_t_30, g_t_31, g_t_32, g_t_33, g_t_34, g_t_35, g_t_36, g_t_37, g_t_38, g_t_39, g_t_40, g_t_41, g_t_42, g_t_43])), (a_t_tape, .inl (cy 0, 900, .inl (aI c_tape)))]
def m_X9_begins (F : Nat) (c_taped : Int) (c_tape : Int → Int) : Option (Int × Int × Int × Int × Int × Int × Int) :=
  bnd5 (m_X9_next F c_taped 0 c_tape) fun o1 o2 o3 o4 o5 => some (o1, o2, o3, o4, o5, 0, (-1))
section S_X9_begins
variable {E : EE} {a_t a_t_tape : Nat} {g_t_0 : Value} {g_t_1 : Value} {g_t_2 : Value} {g_t_3 : Value} {g_t_4 : Value} {g_t_14 : Value} {g_t_15 : Value} {g_t_16 : Value} {g_t_17 : Value} {g_t_18 : Value} {g_t_19 : Value} {g_t_20 : Value} {g_t_21 : Value} {g_t_22 : Value} {g_t_23 : Value} {g_t_24 : Value} {g_t_25 : Value} {g_t_26 : Value} {g_t_27 : Value} {g_t_28 : Value} {g_t_29 : Value} {g_t_30 : Value} {g_t_31 : Value} {g_t_32 : Value} {g_t_33 : Value} {g_t_34 : Value} {g_t_35 : Value} {g_t_36 : Value} {g_t_37 : Value} {g_t_38 : Value} {g_t_39 : Value} {g_t_40 : Value} {g_t_41 : Value} {g_t_42 : Value} {g_t_43 : Value}
set_option maxRecDepth 100000 in
set_option maxHeartbeats 4000000 in
theorem wm_X9_begins {F : Nat} {v : Int × Int × Int × Int × Int × Int × Int} {c_taped : Int} {c_tape : Int → Int} {c_at : Int} {c_token : Int} {c_place : Int} {c_value : Int} {c_word : Int} {c_bad : Int} {c_badPlace : Int} (C : Cx E cX9_begins RX9 { frames := 2, cells := 0, slots := 0, locals := 44 }) (hN : eN E = 1) (h : m_X9_begins F c_taped c_tape = some v) (hret : ∀ (pc : Nat) (L : List (Option Value)), decode cX9_begins pc = .ok (.return_, 1) → GG E 0 0 (W_X9_begins (eCy E) a_t a_t_tape g_t_0 g_t_1 g_t_2 g_t_3 g_t_4 g_t_14 g_t_15 g_t_16 g_t_17 g_t_18 g_t_19 g_t_20 g_t_21 g_t_22 g_t_23 g_t_24 g_t_25 g_t_26 g_t_27 g_t_28 g_t_29 g_t_30 g_t_31 g_t_32 g_t_33 g_t_34 g_t_35 g_t_36 g_t_37 g_t_38 g_t_39 g_t_40 g_t_41 g_t_42 g_t_43 c_taped (v.1) (v.2.1) (v.2.2.1) (v.2.2.2.1) (v.2.2.2.2.1) (v.2.2.2.2.2.1) (v.2.2.2.2.2.2) c_tape) L pc []) : GG E 0 0 (W_X9_begins (eCy E) a_t a_t_tape g_t_0 g_t_1 g_t_2 g_t_3 g_t_4 g_t_14 g_t_15 g_t_16 g_t_17 g_t_18 g_t_19 g_t_20 g_t_21 g_t_22 g_t_23 g_t_24 g_t_25 g_t_26 g_t_27 g_t_28 g_t_29 g_t_30 g_t_31 g_t_32 g_t_33 g_t_34 g_t_35 g_t_36 g_t_37 g_t_38 g_t_39 g_t_40 g_t_41 g_t_42 g_t_43 c_taped c_at c_token c_place c_value c_word c_bad c_badPlace c_tape) [some (.ref a_t)] 0 [] := by
  unfold m_X9_begins at h
  refine g_aload_n 0 C dX9_begins_0 rfl rfl ?_
  refine g_iconst C dX9_begins_1 ?_
  refine g_putI C fp_X9_123 0 rfl rfl (ws' := (W_X9_begins (eCy E) a_t a_t_tape g_t_0 g_t_1 g_t_2 g_t_3 g_t_4 g_t_14 g_t_15 g_t_16 g_t_17 g_t_18 g_t_19 g_t_20 g_t_21 g_t_22 g_t_23 g_t_24 g_t_25 g_t_26 g_t_27 g_t_28 g_t_29 g_t_30 g_t_31 g_t_32 g_t_33 g_t_34 g_t_35 g_t_36 g_t_37 g_t_38 g_t_39 g_t_40 g_t_41 g_t_42 g_t_43 c_taped c_at c_token c_place c_value c_word 0 c_badPlace c_tape)) rfl dX9_begins_2 ?_
  refine g_aload_n 0 C dX9_begins_5 rfl rfl ?_
  refine g_iconst C dX9_begins_6 ?_
  refine g_putI C fp_X9_126 0 rfl rfl (ws' := (W_X9_begins (eCy E) a_t a_t_tape g_t_0 g_t_1 g_t_2 g_t_3 g_t_4 g_t_14 g_t_15 g_t_16 g_t_17 g_t_18 g_t_19 g_t_20 g_t_21 g_t_22 g_t_23 g_t_24 g_t_25 g_t_26 g_t_27 g_t_28 g_t_29 g_t_30 g_t_31 g_t_32 g_t_33 g_t_34 g_t_35 g_t_36 g_t_37 g_t_38 g_t_39 g_t_40 g_t_41 g_t_42 g_t_43 c_taped c_at c_token c_place c_value c_word 0 (-1) c_tape)) rfl dX9_begins_7 ?_
  refine g_aload_n 0 C dX9_begins_10 rfl rfl ?_
  refine g_iconst C dX9_begins_11 ?_
  refine g_putI C fp_X9_95 0 rfl rfl (ws' := (W_X9_begins (eCy E) a_t a_t_tape g_t_0 g_t_1 g_t_2 g_t_3 g_t_4 g_t_14 g_t_15 g_t_16 g_t_17 g_t_18 g_t_19 g_t_20 g_t_21 g_t_22 g_t_23 g_t_24 g_t_25 g_t_26 g_t_27 g_t_28 g_t_29 g_t_30 g_t_31 g_t_32 g_t_33 g_t_34 g_t_35 g_t_36 g_t_37 g_t_38 g_t_39 g_t_40 g_t_41 g_t_42 g_t_43 c_taped 0 c_token c_place c_value c_word 0 (-1) c_tape)) rfl dX9_begins_12 ?_
  refine g_aload_n 0 C dX9_begins_15 rfl rfl ?_
  obtain ⟨o1, o2, o3, o4, o5, hr6, h⟩ := bnd5_some h
  refine g_callV [0, 1] [] [0, 1] C mt_X9_133 (c_X9_next _ _ _ _ a_t a_t_tape (g_t_0) (g_t_1) (g_t_2) (g_t_3) (g_t_4) (.int (wI 0)) (.int (wI (-1))) (g_t_14) (g_t_15) (g_t_16) (g_t_17) (g_t_18) (g_t_19) (g_t_20) (g_t_21) (g_t_22) (g_t_23) (g_t_24) (g_t_25) (g_t_26) (g_t_27) (g_t_28) (g_t_29) (g_t_30) (g_t_31) (g_t_32) (g_t_33) (g_t_34) (g_t_35) (g_t_36) (g_t_37) (g_t_38) (g_t_39) (g_t_40) (g_t_41) (g_t_42) (g_t_43) c_taped 0 c_token c_place c_value c_word c_tape F hr6) (q0 := 0) rfl (ci := 9) rfl rfl rfl (ws2 := (W_X9_begins (eCy E) a_t a_t_tape g_t_0 g_t_1 g_t_2 g_t_3 g_t_4 g_t_14 g_t_15 g_t_16 g_t_17 g_t_18 g_t_19 g_t_20 g_t_21 g_t_22 g_t_23 g_t_24 g_t_25 g_t_26 g_t_27 g_t_28 g_t_29 g_t_30 g_t_31 g_t_32 g_t_33 g_t_34 g_t_35 g_t_36 g_t_37 g_t_38 g_t_39 g_t_40 g_t_41 g_t_42 g_t_43 c_taped o1 o2 o3 o4 o5 0 (-1) c_tape)) rfl rfl rfl (rest := []) rfl rfl rfl dX9_begins_16 ?_
  cases h
  exact hret 19 _ dX9_begins_19
end S_X9_begins
set_option maxRecDepth 100000 in
set_option maxHeartbeats 4000000 in
theorem c_X9_begins (l : Launch) (D : va_G) (cy : Nat → ClassId) (ad : AD) (a_t a_t_tape : Nat) (g_t_0 : Value) (g_t_1 : Value) (g_t_2 : Value) (g_t_3 : Value) (g_t_4 : Value) (g_t_14 : Value) (g_t_15 : Value) (g_t_16 : Value) (g_t_17 : Value) (g_t_18 : Value) (g_t_19 : Value) (g_t_20 : Value) (g_t_21 : Value) (g_t_22 : Value) (g_t_23 : Value) (g_t_24 : Value) (g_t_25 : Value) (g_t_26 : Value) (g_t_27 : Value) (g_t_28 : Value) (g_t_29 : Value) (g_t_30 : Value) (g_t_31 : Value) (g_t_32 : Value) (g_t_33 : Value) (g_t_34 : Value) (g_t_35 : Value) (g_t_36 : Value) (g_t_37 : Value) (g_t_38 : Value) (g_t_39 : Value) (g_t_40 : Value) (g_t_41 : Value) (g_t_42 : Value) (g_t_43 : Value) (c_taped : Int) (c_at : Int) (c_token : Int) (c_place : Int) (c_value : Int) (c_word : Int) (c_bad : Int) (c_badPlace : Int) (c_tape : Int → Int) (F : Nat) {v : Int × Int × Int × Int × Int × Int × Int} (h : m_X9_begins F c_taped c_tape = some v) : Ct l yX9_begins cX9_begins 1 none { frames := 2, cells := 0, slots := 0, locals := 44 } D cy ad [.ref a_t] (W_X9_begins cy a_t a_t_tape g_t_0 g_t_1 g_t_2 g_t_3 g_t_4 g_t_14 g_t_15 g_t_16 g_t_17 g_t_18 g_t_19 g_t_20 g_t_21 g_t_22 g_t_23 g_t_24 g_t_25 g_t_26 g_t_27 g_t_28 g_t_29 g_t_30 g_t_31 g_t_32 g_t_33 g_t_34 g_t_35 g_t_36 g_t_37 g_t_38 g_t_39 g_t_40 g_t_41 g_t_42 g_t_43 c_taped c_at c_token c_place c_value c_word c_bad c_badPlace c_tape) (W_X9_begins cy a_t a_t_tape g_t_0 g_t_1 g_t_2 g_t_3 g_t_4 g_t_14 g_t_15 g_t_16 g_t_17 g_t_18 g_t_19 g_t_20 g_t_21 g_t_22 g_t_23 g_t_24 g_t_25 g_t_26 g_t_27 g_t_28 g_t_29 g_t_30 g_t_31 g_t_32 g_t_33 g_t_34 g_t_35 g_t_36 g_t_37 g_t_38 g_t_39 g_t_40 g_t_41 g_t_42 g_t_43 c_taped (v.1) (v.2.1) (v.2.2.1) (v.2.2.2.1) (v.2.2.2.2.1) (v.2.2.2.2.2.1) (v.2.2.2.2.2.2) c_tape) none := by
  refine Ct.introV (j := 0) (plainFor_of_name (by decide)) rfl rfl (fun E C e1 e2 e3 e4 e5 hret => ?_)
  subst e1; subst e2; subst e3; subst e4
  exact wm_X9_begins C e5 h hret
-- MovingStairModel.isOver()V
def W_X9_isOver (cy : Nat → ClassId) (a_t : Nat) (g_t_0 : Value) (g_t_1 : Value) (g_t_2 : Value) (g_t_3 : Value) (g_t_4 : Value) (g_t_5 : Value) (g_t_7 : Value) (g_t_8 : Value) (g_t_9 : Value) (g_t_10 : Value) (g_t_11 : Value) (g_t_16 : Value) (g_t_17 : Value) (g_t_18 : Value) (g_t_19 : Value) (g_t_20 : Value) (g_t_21 : Value) (g_t_22 : Value) (g_t_23 : Value) (g_t_24 : Value) (g_t_25 : Value) (g_t_26 : Value) (g_t_27 : Value) (g_t_28 : Value) (g_t_29 : Value) (g_t_30 : Value) (g_t_31 : Value) (g_t_32 : Value) (g_t_33 : Value) (g_t_34 : Value) (g_t_35 : Value) (g_t_36 : Value) (g_t_37 : Value) (g_t_38 : Value) (g_t_39 : Value) (g_t_40 : Value) (g_t_41 : Value) (g_t_42 : Value) (g_t_43 : Value) (c_taped : Int) (c_bad : Int) (c_badPlace : Int) (c_fault : Int) (c_faultPlace : Int) : va_W := [(a_t, .inr (9, [g_t_0, g_t_1, g_t_2, g_t_3, g_t_4, g_t_5, .int (wI c_taped), g_t_7, g_t_8, g_t_9, g_t_10, g_t_11, .int (wI c_bad), .int (wI c_badPlace), .int (wI c_fault), .int (wI c_faultPlace), g_t_16, g_t_17, g_t_18, g_t_19, g_t_20, g_t_21, g_t_22, g_t_23, g_t_24, g_t_25, g_t_26, g_t_27, g_t_28, g_t_29, g_t_30, g_t_31, g_t_32, g_t_33, g_t_34, g_t_35, g_t_36, g_t_37, g_t_38, g_t_39, g_t_40, g_t_41, g_t_42, g_t_43]))]
def mb_X9_isOver_29 (F : Nat) (s1 : Int) (c_taped : Int) (c_fault : Int) : Option (Int × Int × Int) :=
  some (c_taped, c_fault, s1)
def m_X9_isOver (F : Nat) (c_bad : Int) (c_badPlace : Int) : Option (Int × Int × Int) :=
  if wI c_bad = wI 0 then
    (mb_X9_isOver_29 F (-1) 0 c_bad)
  else
    (mb_X9_isOver_29 F c_badPlace 0 c_bad)
section S_X9_isOver
variable {E : EE} {a_t : Nat} {g_t_0 : Value} {g_t_1 : Value} {g_t_2 : Value} {g_t_3 : Value} {g_t_4 : Value} {g_t_5 : Value} {g_t_7 : Value} {g_t_8 : Value} {g_t_9 : Value} {g_t_10 : Value} {g_t_11 : Value} {g_t_16 : Value} {g_t_17 : Value} {g_t_18 : Value} {g_t_19 : Value} {g_t_20 : Value} {g_t_21 : Value} {g_t_22 : Value} {g_t_23 : Value} {g_t_24 : Value} {g_t_25 : Value} {g_t_26 : Value} {g_t_27 : Value} {g_t_28 : Value} {g_t_29 : Value} {g_t_30 : Value} {g_t_31 : Value} {g_t_32 : Value} {g_t_33 : Value} {g_t_34 : Value} {g_t_35 : Value} {g_t_36 : Value} {g_t_37 : Value} {g_t_38 : Value} {g_t_39 : Value} {g_t_40 : Value} {g_t_41 : Value} {g_t_42 : Value} {g_t_43 : Value}
set_option maxRecDepth 100000 in
set_option maxHeartbeats 4000000 in
theorem wb_X9_isOver_29 {F : Nat} {v : Int × Int × Int} {s1 : Int} {c_taped : Int} {c_fault : Int} {c_bad : Int} {c_badPlace : Int} {c_faultPlace : Int} (C : Cx E cX9_isOver RX9 { frames := 0, cells := 0, slots := 0, locals := 0 }) (hN : eN E = 1) (h : mb_X9_isOver_29 F s1 c_taped c_fault = some v) (hret : ∀ (pc : Nat) (L : List (Option Value)), decode cX9_isOver pc = .ok (.return_, 1) → GG E 0 0 (W_X9_isOver (eCy E) a_t g_t_0 g_t_1 g_t_2 g_t_3 g_t_4 g_t_5 g_t_7 g_t_8 g_t_9 g_t_10 g_t_11 g_t_16 g_t_17 g_t_18 g_t_19 g_t_20 g_t_21 g_t_22 g_t_23 g_t_24 g_t_25 g_t_26 g_t_27 g_t_28 g_t_29 g_t_30 g_t_31 g_t_32 g_t_33 g_t_34 g_t_35 g_t_36 g_t_37 g_t_38 g_t_39 g_t_40 g_t_41 g_t_42 g_t_43 (v.1) c_bad c_badPlace (v.2.1) (v.2.2)) L pc []) : GG E 0 0 (W_X9_isOver (eCy E) a_t g_t_0 g_t_1 g_t_2 g_t_3 g_t_4 g_t_5 g_t_7 g_t_8 g_t_9 g_t_10 g_t_11 g_t_16 g_t_17 g_t_18 g_t_19 g_t_20 g_t_21 g_t_22 g_t_23 g_t_24 g_t_25 g_t_26 g_t_27 g_t_28 g_t_29 g_t_30 g_t_31 g_t_32 g_t_33 g_t_34 g_t_35 g_t_36 g_t_37 g_t_38 g_t_39 g_t_40 g_t_41 g_t_42 g_t_43 c_taped c_bad c_badPlace c_fault c_faultPlace) [none] 29 [.int (wI s1), .ref a_t] := by
  unfold mb_X9_isOver_29 at h
  refine g_putI C fp_X9_27 0 rfl rfl (ws' := (W_X9_isOver (eCy E) a_t g_t_0 g_t_1 g_t_2 g_t_3 g_t_4 g_t_5 g_t_7 g_t_8 g_t_9 g_t_10 g_t_11 g_t_16 g_t_17 g_t_18 g_t_19 g_t_20 g_t_21 g_t_22 g_t_23 g_t_24 g_t_25 g_t_26 g_t_27 g_t_28 g_t_29 g_t_30 g_t_31 g_t_32 g_t_33 g_t_34 g_t_35 g_t_36 g_t_37 g_t_38 g_t_39 g_t_40 g_t_41 g_t_42 g_t_43 c_taped c_bad c_badPlace c_fault s1)) rfl dX9_isOver_29 ?_
  cases h
  exact hret 32 _ dX9_isOver_32
set_option maxRecDepth 100000 in
set_option maxHeartbeats 4000000 in
theorem wm_X9_isOver {F : Nat} {v : Int × Int × Int} {c_bad : Int} {c_badPlace : Int} {c_taped : Int} {c_fault : Int} {c_faultPlace : Int} (C : Cx E cX9_isOver RX9 { frames := 0, cells := 0, slots := 0, locals := 0 }) (hN : eN E = 1) (h : m_X9_isOver F c_bad c_badPlace = some v) (hret : ∀ (pc : Nat) (L : List (Option Value)), decode cX9_isOver pc = .ok (.return_, 1) → GG E 0 0 (W_X9_isOver (eCy E) a_t g_t_0 g_t_1 g_t_2 g_t_3 g_t_4 g_t_5 g_t_7 g_t_8 g_t_9 g_t_10 g_t_11 g_t_16 g_t_17 g_t_18 g_t_19 g_t_20 g_t_21 g_t_22 g_t_23 g_t_24 g_t_25 g_t_26 g_t_27 g_t_28 g_t_29 g_t_30 g_t_31 g_t_32 g_t_33 g_t_34 g_t_35 g_t_36 g_t_37 g_t_38 g_t_39 g_t_40 g_t_41 g_t_42 g_t_43 (v.1) c_bad c_badPlace (v.2.1) (v.2.2)) L pc []) : GG E 0 0 (W_X9_isOver (eCy E) a_t g_t_0 g_t_1 g_t_2 g_t_3 g_t_4 g_t_5 g_t_7 g_t_8 g_t_9 g_t_10 g_t_11 g_t_16 g_t_17 g_t_18 g_t_19 g_t_20 g_t_21 g_t_22 g_t_23 g_t_24 g_t_25 g_t_26 g_t_27 g_t_28 g_t_29 g_t_30 g_t_31 g_t_32 g_t_33 g_t_34 g_t_35 g_t_36 g_t_37 g_t_38 g_t_39 g_t_40 g_t_41 g_t_42 g_t_43 c_taped c_bad c_badPlace c_fault c_faultPlace) [some (.ref a_t)] 0 [] := by
  unfold m_X9_isOver at h
  refine g_aload_n 0 C dX9_isOver_0 rfl rfl ?_
  refine g_iconst C dX9_isOver_1 ?_
  refine g_putI C fp_X9_88 0 rfl rfl (ws' := (W_X9_isOver (eCy E) a_t g_t_0 g_t_1 g_t_2 g_t_3 g_t_4 g_t_5 g_t_7 g_t_8 g_t_9 g_t_10 g_t_11 g_t_16 g_t_17 g_t_18 g_t_19 g_t_20 g_t_21 g_t_22 g_t_23 g_t_24 g_t_25 g_t_26 g_t_27 g_t_28 g_t_29 g_t_30 g_t_31 g_t_32 g_t_33 g_t_34 g_t_35 g_t_36 g_t_37 g_t_38 g_t_39 g_t_40 g_t_41 g_t_42 g_t_43 0 c_bad c_badPlace c_fault c_faultPlace)) rfl dX9_isOver_2 ?_
  refine g_aload_n 0 C dX9_isOver_5 rfl rfl ?_
  refine g_aload_n 0 C dX9_isOver_6 rfl rfl ?_
  refine g_get C fg_X9_123 0 rfl rfl dX9_isOver_7 ?_
  refine g_st (st' := [.int (wI c_bad), .ref a_t]) rfl ?_
  refine g_putI C fp_X9_150 0 rfl rfl (ws' := (W_X9_isOver (eCy E) a_t g_t_0 g_t_1 g_t_2 g_t_3 g_t_4 g_t_5 g_t_7 g_t_8 g_t_9 g_t_10 g_t_11 g_t_16 g_t_17 g_t_18 g_t_19 g_t_20 g_t_21 g_t_22 g_t_23 g_t_24 g_t_25 g_t_26 g_t_27 g_t_28 g_t_29 g_t_30 g_t_31 g_t_32 g_t_33 g_t_34 g_t_35 g_t_36 g_t_37 g_t_38 g_t_39 g_t_40 g_t_41 g_t_42 g_t_43 0 c_bad c_badPlace c_bad c_faultPlace)) rfl dX9_isOver_10 ?_
  refine g_aload_n 0 C dX9_isOver_13 rfl rfl ?_
  refine g_aload_n 0 C dX9_isOver_14 rfl rfl ?_
  refine g_get C fg_X9_123 0 rfl rfl dX9_isOver_15 ?_
  refine g_st (st' := [.int (wI c_bad), .ref a_t]) rfl ?_
  refine g_if_ne 25 C dX9_isOver_18 (by decide) h (fun h => ?_) (fun h => ?_)
  · refine g_aload_n 0 C dX9_isOver_25 rfl rfl ?_
    refine g_get C fg_X9_126 0 rfl rfl dX9_isOver_26 ?_
    refine g_st (st' := [.int (wI c_badPlace), .ref a_t]) rfl ?_
    refine g_mask [false] (L' := [none]) rfl ?_
    exact wb_X9_isOver_29 C hN h hret
  · refine g_iconst C dX9_isOver_21 ?_
    refine g_goto (tgt := 29) C dX9_isOver_22 (by decide) ?_
    refine g_mask [false] (L' := [none]) rfl ?_
    exact wb_X9_isOver_29 C hN h hret
end S_X9_isOver
set_option maxRecDepth 100000 in
set_option maxHeartbeats 4000000 in
theorem c_X9_isOver (l : Launch) (D : va_G) (cy : Nat → ClassId) (ad : AD) (a_t : Nat) (g_t_0 : Value) (g_t_1 : Value) (g_t_2 : Value) (g_t_3 : Value) (g_t_4 : Value) (g_t_5 : Value) (g_t_7 : Value) (g_t_8 : Value) (g_t_9 : Value) (g_t_10 : Value) (g_t_11 : Value) (g_t_16 : Value) (g_t_17 : Value) (g_t_18 : Value) (g_t_19 : Value) (g_t_20 : Value) (g_t_21 : Value) (g_t_22 : Value) (g_t_23 : Value) (g_t_24 : Value) (g_t_25 : Value) (g_t_26 : Value) (g_t_27 : Value) (g_t_28 : Value) (g_t_29 : Value) (g_t_30 : Value) (g_t_31 : Value) (g_t_32 : Value) (g_t_33 : Value) (g_t_34 : Value) (g_t_35 : Value) (g_t_36 : Value) (g_t_37 : Value) (g_t_38 : Value) (g_t_39 : Value) (g_t_40 : Value) (g_t_41 : Value) (g_t_42 : Value) (g_t_43 : Value) (c_taped : Int) (c_bad : Int) (c_badPlace : Int) (c_fault : Int) (c_faultPlace : Int) (F : Nat) {v : Int × Int × Int} (h : m_X9_isOver F c_bad c_badPlace = some v) : Ct l yX9_isOver cX9_isOver 1 none { frames := 0, cells := 0, slots := 0, locals := 0 } D cy ad [.ref a_t] (W_X9_isOver cy a_t g_t_0 g_t_1 g_t_2 g_t_3 g_t_4 g_t_5 g_t_7 g_t_8 g_t_9 g_t_10 g_t_11 g_t_16 g_t_17 g_t_18 g_t_19 g_t_20 g_t_21 g_t_22 g_t_23 g_t_24 g_t_25 g_t_26 g_t_27 g_t_28 g_t_29 g_t_30 g_t_31 g_t_32 g_t_33 g_t_34 g_t_35 g_t_36 g_t_37 g_t_38 g_t_39 g_t_40 g_t_41 g_t_42 g_t_43 c_taped c_bad c_badPlace c_fault c_faultPlace) (W_X9_isOver cy a_t g_t_0 g_t_1 g_t_2 g_t_3 g_t_4 g_t_5 g_t_7 g_t_8 g_t_9 g_t_10 g_t_11 g_t_16 g_t_17 g_t_18 g_t_19 g_t_20 g_t_21 g_t_22 g_t_23 g_t_24 g_t_25 g_t_26 g_t_27 g_t_28 g_t_29 g_t_30 g_t_31 g_t_32 g_t_33 g_t_34 g_t_35 g_t_36 g_t_37 g_t_38 g_t_39 g_t_40 g_t_41 g_t_42 g_t_43 (v.1) c_bad c_badPlace (v.2.1) (v.2.2)) none := by
  refine Ct.introV (j := 0) (plainFor_of_name (by decide)) rfl rfl (fun E C e1 e2 e3 e4 e5 hret => ?_)
  subst e1; subst e2; subst e3; subst e4
  exact wm_X9_isOver C e5 h hret
-- MovingStairModel.fault(I)I
def W_X9_fault (cy : Nat → ClassId) (a_t : Nat) (g_t_1 : Value) (g_t_2 : Value) (g_t_3 : Value) (g_t_4 : Value) (g_t_5 : Value) (g_t_6 : Value) (g_t_7 : Value) (g_t_8 : Value) (g_t_9 : Value) (g_t_10 : Value) (g_t_11 : Value) (g_t_12 : Value) (g_t_13 : Value) (g_t_16 : Value) (g_t_17 : Value) (g_t_18 : Value) (g_t_19 : Value) (g_t_20 : Value) (g_t_21 : Value) (g_t_22 : Value) (g_t_23 : Value) (g_t_24 : Value) (g_t_25 : Value) (g_t_26 : Value) (g_t_27 : Value) (g_t_28 : Value) (g_t_29 : Value) (g_t_30 : Value) (g_t_31 : Value) (g_t_32 : Value) (g_t_33 : Value) (g_t_34 : Value) (g_t_35 : Value) (g_t_36 : Value) (g_t_37 : Value) (g_t_38 : Value) (g_t_39 : Value) (g_t_40 : Value) (g_t_41 : Value) (g_t_42 : Value) (g_t_43 : Value) (c_thrown : Int) (c_fault : Int) (c_faultPlace : Int) : va_W := [(a_t, .inr (9, [.int (wI c_thrown), g_t_1, g_t_2, g_t_3, g_t_4, g_t_5, g_t_6, g_t_7, g_t_8, g_t_9, g_t_10, g_t_11, g_t_12, g_t_13, .int (wI c_fault), .int (wI c_faultPlace), g_t_16, g_t_17, g_t_18, g_t_19, g_t_20, g_t_21, g_t_22, g_t_23, g_t_24, g_t_25, g_t_26, g_t_27, g_t_28, g_t_29, g_t_30, g_t_31, g_t_32, g_t_33, g_t_34, g_t_35, g_t_36, g_t_37, g_t_38, g_t_39, g_t_40, g_t_41, g_t_42, g_t_43]))]
def m_X9_fault (F : Nat) (x1 : Int) (c_fault : Int) (c_faultPlace : Int) : Option (Int × Int) :=
  if wI x1 = wI 0 then
    (some (c_fault, 0))
  else
    (if wI x1 = wI 1 then
    (some (c_faultPlace, 0))
  else
    (some ((-1), 0)))
section S_X9_fault
variable {E : EE} {a_t : Nat} {g_t_1 : Value} {g_t_2 : Value} {g_t_3 : Value} {g_t_4 : Value} {g_t_5 : Value} {g_t_6 : Value} {g_t_7 : Value} {g_t_8 : Value} {g_t_9 : Value} {g_t_10 : Value} {g_t_11 : Value} {g_t_12 : Value} {g_t_13 : Value} {g_t_16 : Value} {g_t_17 : Value} {g_t_18 : Value} {g_t_19 : Value} {g_t_20 : Value} {g_t_21 : Value} {g_t_22 : Value} {g_t_23 : Value} {g_t_24 : Value} {g_t_25 : Value} {g_t_26 : Value} {g_t_27 : Value} {g_t_28 : Value} {g_t_29 : Value} {g_t_30 : Value} {g_t_31 : Value} {g_t_32 : Value} {g_t_33 : Value} {g_t_34 : Value} {g_t_35 : Value} {g_t_36 : Value} {g_t_37 : Value} {g_t_38 : Value} {g_t_39 : Value} {g_t_40 : Value} {g_t_41 : Value} {g_t_42 : Value} {g_t_43 : Value}
set_option maxRecDepth 100000 in
set_option maxHeartbeats 4000000 in
theorem wm_X9_fault {F : Nat} {v : Int × Int} {x1 : Int} {c_fault : Int} {c_faultPlace : Int} {c_thrown : Int} (C : Cx E cX9_fault RX9 { frames := 0, cells := 0, slots := 0, locals := 0 }) (hN : eN E = 2) (h : m_X9_fault F x1 c_fault c_faultPlace = some v) (hret : ∀ (pc : Nat) (L : List (Option Value)), decode cX9_fault pc = .ok (.ireturn, 1) → GG E 0 0 (W_X9_fault (eCy E) a_t g_t_1 g_t_2 g_t_3 g_t_4 g_t_5 g_t_6 g_t_7 g_t_8 g_t_9 g_t_10 g_t_11 g_t_12 g_t_13 g_t_16 g_t_17 g_t_18 g_t_19 g_t_20 g_t_21 g_t_22 g_t_23 g_t_24 g_t_25 g_t_26 g_t_27 g_t_28 g_t_29 g_t_30 g_t_31 g_t_32 g_t_33 g_t_34 g_t_35 g_t_36 g_t_37 g_t_38 g_t_39 g_t_40 g_t_41 g_t_42 g_t_43 (v.2) c_fault c_faultPlace) L pc [.int (wI (v.1))]) : GG E 0 0 (W_X9_fault (eCy E) a_t g_t_1 g_t_2 g_t_3 g_t_4 g_t_5 g_t_6 g_t_7 g_t_8 g_t_9 g_t_10 g_t_11 g_t_12 g_t_13 g_t_16 g_t_17 g_t_18 g_t_19 g_t_20 g_t_21 g_t_22 g_t_23 g_t_24 g_t_25 g_t_26 g_t_27 g_t_28 g_t_29 g_t_30 g_t_31 g_t_32 g_t_33 g_t_34 g_t_35 g_t_36 g_t_37 g_t_38 g_t_39 g_t_40 g_t_41 g_t_42 g_t_43 c_thrown c_fault c_faultPlace) [some (.ref a_t), some (.int (wI x1))] 0 [] := by
  unfold m_X9_fault at h
  refine g_aload_n 0 C dX9_fault_0 rfl rfl ?_
  refine g_iconst C dX9_fault_1 ?_
  refine g_putI C fp_X9_71 0 rfl rfl (ws' := (W_X9_fault (eCy E) a_t g_t_1 g_t_2 g_t_3 g_t_4 g_t_5 g_t_6 g_t_7 g_t_8 g_t_9 g_t_10 g_t_11 g_t_12 g_t_13 g_t_16 g_t_17 g_t_18 g_t_19 g_t_20 g_t_21 g_t_22 g_t_23 g_t_24 g_t_25 g_t_26 g_t_27 g_t_28 g_t_29 g_t_30 g_t_31 g_t_32 g_t_33 g_t_34 g_t_35 g_t_36 g_t_37 g_t_38 g_t_39 g_t_40 g_t_41 g_t_42 g_t_43 0 c_fault c_faultPlace)) rfl dX9_fault_2 ?_
  refine g_iload_n 1 C dX9_fault_5 rfl rfl ?_
  refine g_if_ne 16 C dX9_fault_6 (by decide) h (fun h => ?_) (fun h => ?_)
  · refine g_iload_n 1 C dX9_fault_16 rfl rfl ?_
    refine g_iconst C dX9_fault_17 ?_
    refine g_icmp_ne 28 C dX9_fault_18 (by decide) h (fun h => ?_) (fun h => ?_)
    · refine g_iconst C dX9_fault_28 ?_
      cases h
      exact hret 29 _ dX9_fault_29
    · refine g_aload_n 0 C dX9_fault_21 rfl rfl ?_
      refine g_get C fg_X9_27 0 rfl rfl dX9_fault_22 ?_
      refine g_st (st' := [.int (wI c_faultPlace)]) rfl ?_
      refine g_goto (tgt := 29) C dX9_fault_25 (by decide) ?_
      cases h
      exact hret 29 _ dX9_fault_29
  · refine g_aload_n 0 C dX9_fault_9 rfl rfl ?_
    refine g_get C fg_X9_150 0 rfl rfl dX9_fault_10 ?_
    refine g_st (st' := [.int (wI c_fault)]) rfl ?_
    refine g_goto (tgt := 29) C dX9_fault_13 (by decide) ?_
    cases h
    exact hret 29 _ dX9_fault_29
end S_X9_fault
set_option maxRecDepth 100000 in
set_option maxHeartbeats 4000000 in
theorem c_X9_fault (l : Launch) (D : va_G) (cy : Nat → ClassId) (ad : AD) (a_t : Nat) (g_t_1 : Value) (g_t_2 : Value) (g_t_3 : Value) (g_t_4 : Value) (g_t_5 : Value) (g_t_6 : Value) (g_t_7 : Value) (g_t_8 : Value) (g_t_9 : Value) (g_t_10 : Value) (g_t_11 : Value) (g_t_12 : Value) (g_t_13 : Value) (g_t_16 : Value) (g_t_17 : Value) (g_t_18 : Value) (g_t_19 : Value) (g_t_20 : Value) (g_t_21 : Value) (g_t_22 : Value) (g_t_23 : Value) (g_t_24 : Value) (g_t_25 : Value) (g_t_26 : Value) (g_t_27 : Value) (g_t_28 : Value) (g_t_29 : Value) (g_t_30 : Value) (g_t_31 : Value) (g_t_32 : Value) (g_t_33 : Value) (g_t_34 : Value) (g_t_35 : Value) (g_t_36 : Value) (g_t_37 : Value) (g_t_38 : Value) (g_t_39 : Value) (g_t_40 : Value) (g_t_41 : Value) (g_t_42 : Value) (g_t_43 : Value) (x1 : Int) (c_thrown : Int) (c_fault : Int) (c_faultPlace : Int) (F : Nat) {v : Int × Int} (h : m_X9_fault F x1 c_fault c_faultPlace = some v) : Ct l yX9_fault cX9_fault 2 (some .int) { frames := 0, cells := 0, slots := 0, locals := 0 } D cy ad [.ref a_t, .int (wI x1)] (W_X9_fault cy a_t g_t_1 g_t_2 g_t_3 g_t_4 g_t_5 g_t_6 g_t_7 g_t_8 g_t_9 g_t_10 g_t_11 g_t_12 g_t_13 g_t_16 g_t_17 g_t_18 g_t_19 g_t_20 g_t_21 g_t_22 g_t_23 g_t_24 g_t_25 g_t_26 g_t_27 g_t_28 g_t_29 g_t_30 g_t_31 g_t_32 g_t_33 g_t_34 g_t_35 g_t_36 g_t_37 g_t_38 g_t_39 g_t_40 g_t_41 g_t_42 g_t_43 c_thrown c_fault c_faultPlace) (W_X9_fault cy a_t g_t_1 g_t_2 g_t_3 g_t_4 g_t_5 g_t_6 g_t_7 g_t_8 g_t_9 g_t_10 g_t_11 g_t_12 g_t_13 g_t_16 g_t_17 g_t_18 g_t_19 g_t_20 g_t_21 g_t_22 g_t_23 g_t_24 g_t_25 g_t_26 g_t_27 g_t_28 g_t_29 g_t_30 g_t_31 g_t_32 g_t_33 g_t_34 g_t_35 g_t_36 g_t_37 g_t_38 g_t_39 g_t_40 g_t_41 g_t_42 g_t_43 (v.2) c_fault c_faultPlace) (some (.int (wI (v.1)))) := by
  refine Ct.introI (j := 0) (plainFor_of_name (by decide)) rfl rfl (fun E C e1 e2 e3 e4 e5 hret => ?_)
  subst e1; subst e2; subst e3; subst e4
  exact wm_X9_fault C e5 h hret
-- MovingStairModel.hasRead(I)I
def W_X9_hasRead (cy : Nat → ClassId) (a_t a_t_has : Nat) (g_t_0 : Value) (g_t_1 : Value) (g_t_2 : Value) (g_t_3 : Value) (g_t_4 : Value) (g_t_5 : Value) (g_t_6 : Value) (g_t_7 : Value) (g_t_8 : Value) (g_t_9 : Value) (g_t_10 : Value) (g_t_11 : Value) (g_t_12 : Value) (g_t_13 : Value) (g_t_14 : Value) (g_t_15 : Value) (g_t_16 : Value) (g_t_18 : Value) (g_t_19 : Value) (g_t_20 : Value) (g_t_21 : Value) (g_t_22 : Value) (g_t_23 : Value) (g_t_24 : Value) (g_t_25 : Value) (g_t_26 : Value) (g_t_27 : Value) (g_t_28 : Value) (g_t_29 : Value) (g_t_30 : Value) (g_t_31 : Value) (g_t_32 : Value) (g_t_33 : Value) (g_t_34 : Value) (g_t_35 : Value) (g_t_36 : Value) (g_t_37 : Value) (g_t_38 : Value) (g_t_39 : Value) (g_t_40 : Value) (g_t_41 : Value) (g_t_42 : Value) (g_t_43 : Value) (c_has : Int → Int) : va_W := [(a_t, .inr (9, [g_t_0, g_t_1, g_t_2, g_t_3, g_t_4, g_t_5, g_t_6, g_t_7, g_t_8, g_t_9, g_t_10, g_t_11, g_t_12, g_t_13, g_t_14, g_t_15, g_t_16, .ref a_t_has, g_t_18, g_t_19, g_t_20, g_t_21, g_t_22, g_t_23, g_t_24, g_t_25, g_t_26, g_t_27, g_t_28, g_t_29, g_t_30, g_t_31, g_t_32, g_t_33, g_t_34, g_t_35, g_t_36, g_t_37, g_t_38, g_t_39, g_t_40, g_t_41, g_t_42, g_t_43])), (a_t_has, .inl (cy 1, 45, .inl (aI c_has)))]
def m_X9_hasRead (F : Nat) (x1 : Int) (c_has : Int → Int) : Option (Int) :=
  chk (0 ≤ (36 + x1) ∧ (36 + x1) < 45) <| some (c_has (36 + x1))
section S_X9_hasRead
variable {E : EE} {a_t a_t_has : Nat} {g_t_0 : Value} {g_t_1 : Value} {g_t_2 : Value} {g_t_3 : Value} {g_t_4 : Value} {g_t_5 : Value} {g_t_6 : Value} {g_t_7 : Value} {g_t_8 : Value} {g_t_9 : Value} {g_t_10 : Value} {g_t_11 : Value} {g_t_12 : Value} {g_t_13 : Value} {g_t_14 : Value} {g_t_15 : Value} {g_t_16 : Value} {g_t_18 : Value} {g_t_19 : Value} {g_t_20 : Value} {g_t_21 : Value} {g_t_22 : Value} {g_t_23 : Value} {g_t_24 : Value} {g_t_25 : Value} {g_t_26 : Value} {g_t_27 : Value} {g_t_28 : Value} {g_t_29 : Value} {g_t_30 : Value} {g_t_31 : Value} {g_t_32 : Value} {g_t_33 : Value} {g_t_34 : Value} {g_t_35 : Value} {g_t_36 : Value} {g_t_37 : Value} {g_t_38 : Value} {g_t_39 : Value} {g_t_40 : Value} {g_t_41 : Value} {g_t_42 : Value} {g_t_43 : Value}
set_option maxRecDepth 100000 in
set_option maxHeartbeats 4000000 in
theorem wm_X9_hasRead {F : Nat} {v : Int} {x1 : Int} {c_has : Int → Int} (C : Cx E cX9_hasRead RX9 { frames := 0, cells := 0, slots := 0, locals := 0 }) (hN : eN E = 2) (h : m_X9_hasRead F x1 c_has = some v) (hret : ∀ (pc : Nat) (L : List (Option Value)), decode cX9_hasRead pc = .ok (.ireturn, 1) → GG E 0 0 (W_X9_hasRead (eCy E) a_t a_t_has g_t_0 g_t_1 g_t_2 g_t_3 g_t_4 g_t_5 g_t_6 g_t_7 g_t_8 g_t_9 g_t_10 g_t_11 g_t_12 g_t_13 g_t_14 g_t_15 g_t_16 g_t_18 g_t_19 g_t_20 g_t_21 g_t_22 g_t_23 g_t_24 g_t_25 g_t_26 g_t_27 g_t_28 g_t_29 g_t_30 g_t_31 g_t_32 g_t_33 g_t_34 g_t_35 g_t_36 g_t_37 g_t_38 g_t_39 g_t_40 g_t_41 g_t_42 g_t_43 c_has) L pc [.int (wI v)]) : GG E 0 0 (W_X9_hasRead (eCy E) a_t a_t_has g_t_0 g_t_1 g_t_2 g_t_3 g_t_4 g_t_5 g_t_6 g_t_7 g_t_8 g_t_9 g_t_10 g_t_11 g_t_12 g_t_13 g_t_14 g_t_15 g_t_16 g_t_18 g_t_19 g_t_20 g_t_21 g_t_22 g_t_23 g_t_24 g_t_25 g_t_26 g_t_27 g_t_28 g_t_29 g_t_30 g_t_31 g_t_32 g_t_33 g_t_34 g_t_35 g_t_36 g_t_37 g_t_38 g_t_39 g_t_40 g_t_41 g_t_42 g_t_43 c_has) [some (.ref a_t), some (.int (wI x1))] 0 [] := by
  unfold m_X9_hasRead at h
  refine g_aload_n 0 C dX9_hasRead_0 rfl rfl ?_
  refine g_get C fg_X9_34 0 rfl rfl dX9_hasRead_1 ?_
  refine g_bipush C dX9_hasRead_4 (by decide) ?_
  refine g_iload_n 1 C dX9_hasRead_6 rfl rfl ?_
  refine g_iadd C dX9_hasRead_7 ?_
  obtain ⟨hc1, h⟩ := chk_some h
  refine g_iald C 1 rfl hc1 rfl dX9_hasRead_8 ?_
  cases h
  exact hret 9 _ dX9_hasRead_9
end S_X9_hasRead
set_option maxRecDepth 100000 in
set_option maxHeartbeats 4000000 in
theorem c_X9_hasRead (l : Launch) (D : va_G) (cy : Nat → ClassId) (ad : AD) (a_t a_t_has : Nat) (g_t_0 : Value) (g_t_1 : Value) (g_t_2 : Value) (g_t_3 : Value) (g_t_4 : Value) (g_t_5 : Value) (g_t_6 : Value) (g_t_7 : Value) (g_t_8 : Value) (g_t_9 : Value) (g_t_10 : Value) (g_t_11 : Value) (g_t_12 : Value) (g_t_13 : Value) (g_t_14 : Value) (g_t_15 : Value) (g_t_16 : Value) (g_t_18 : Value) (g_t_19 : Value) (g_t_20 : Value) (g_t_21 : Value) (g_t_22 : Value) (g_t_23 : Value) (g_t_24 : Value) (g_t_25 : Value) (g_t_26 : Value) (g_t_27 : Value) (g_t_28 : Value) (g_t_29 : Value) (g_t_30 : Value) (g_t_31 : Value) (g_t_32 : Value) (g_t_33 : Value) (g_t_34 : Value) (g_t_35 : Value) (g_t_36 : Value) (g_t_37 : Value) (g_t_38 : Value) (g_t_39 : Value) (g_t_40 : Value) (g_t_41 : Value) (g_t_42 : Value) (g_t_43 : Value) (x1 : Int) (c_has : Int → Int) (F : Nat) {v : Int} (h : m_X9_hasRead F x1 c_has = some v) : Ct l yX9_hasRead cX9_hasRead 2 (some .int) { frames := 0, cells := 0, slots := 0, locals := 0 } D cy ad [.ref a_t, .int (wI x1)] (W_X9_hasRead cy a_t a_t_has g_t_0 g_t_1 g_t_2 g_t_3 g_t_4 g_t_5 g_t_6 g_t_7 g_t_8 g_t_9 g_t_10 g_t_11 g_t_12 g_t_13 g_t_14 g_t_15 g_t_16 g_t_18 g_t_19 g_t_20 g_t_21 g_t_22 g_t_23 g_t_24 g_t_25 g_t_26 g_t_27 g_t_28 g_t_29 g_t_30 g_t_31 g_t_32 g_t_33 g_t_34 g_t_35 g_t_36 g_t_37 g_t_38 g_t_39 g_t_40 g_t_41 g_t_42 g_t_43 c_has) (W_X9_hasRead cy a_t a_t_has g_t_0 g_t_1 g_t_2 g_t_3 g_t_4 g_t_5 g_t_6 g_t_7 g_t_8 g_t_9 g_t_10 g_t_11 g_t_12 g_t_13 g_t_14 g_t_15 g_t_16 g_t_18 g_t_19 g_t_20 g_t_21 g_t_22 g_t_23 g_t_24 g_t_25 g_t_26 g_t_27 g_t_28 g_t_29 g_t_30 g_t_31 g_t_32 g_t_33 g_t_34 g_t_35 g_t_36 g_t_37 g_t_38 g_t_39 g_t_40 g_t_41 g_t_42 g_t_43 c_has) (some (.int (wI v))) := by
  refine Ct.introI (j := 0) (plainFor_of_name (by decide)) rfl rfl (fun E C e1 e2 e3 e4 e5 hret => ?_)
  subst e1; subst e2; subst e3; subst e4
  exact wm_X9_hasRead C e5 h hret
-- MovingStairModel.tells(II)V
def W_X9_tells (cy : Nat → ClassId) (a_t a_t_has : Nat) (g_t_0 : Value) (g_t_1 : Value) (g_t_2 : Value) (g_t_3 : Value) (g_t_4 : Value) (g_t_5 : Value) (g_t_6 : Value) (g_t_7 : Value) (g_t_8 : Value) (g_t_9 : Value) (g_t_10 : Value) (g_t_11 : Value) (g_t_12 : Value) (g_t_13 : Value) (g_t_14 : Value) (g_t_15 : Value) (g_t_16 : Value) (g_t_18 : Value) (g_t_19 : Value) (g_t_20 : Value) (g_t_21 : Value) (g_t_22 : Value) (g_t_23 : Value) (g_t_24 : Value) (g_t_25 : Value) (g_t_26 : Value) (g_t_27 : Value) (g_t_28 : Value) (g_t_29 : Value) (g_t_30 : Value) (g_t_31 : Value) (g_t_32 : Value) (g_t_33 : Value) (g_t_34 : Value) (g_t_35 : Value) (g_t_36 : Value) (g_t_37 : Value) (g_t_38 : Value) (g_t_39 : Value) (g_t_40 : Value) (g_t_41 : Value) (g_t_42 : Value) (g_t_43 : Value) (c_has : Int → Int) : va_W := [(a_t, .inr (9, [g_t_0, g_t_1, g_t_2, g_t_3, g_t_4, g_t_5, g_t_6, g_t_7, g_t_8, g_t_9, g_t_10, g_t_11, g_t_12, g_t_13, g_t_14, g_t_15, g_t_16, .ref a_t_has, g_t_18, g_t_19, g_t_20, g_t_21, g_t_22, g_t_23, g_t_24, g_t_25, g_t_26, g_t_27, g_t_28, g_t_29, g_t_30, g_t_31, g_t_32, g_t_33, g_t_34, g_t_35, g_t_36, g_t_37, g_t_38, g_t_39, g_t_40, g_t_41, g_t_42, g_t_43])), (a_t_has, .inl (cy 1, 45, .inl (aI c_has)))]
def m_X9_tells (F : Nat) (x1 : Int) (x2 : Int) (c_has : Int → Int) : Option ((Int → Int)) :=
  chk (0 ≤ (36 + x1) ∧ (36 + x1) < 45) <| some (up c_has (36 + x1) x2)
section S_X9_tells
variable {E : EE} {a_t a_t_has : Nat} {g_t_0 : Value} {g_t_1 : Value} {g_t_2 : Value} {g_t_3 : Value} {g_t_4 : Value} {g_t_5 : Value} {g_t_6 : Value} {g_t_7 : Value} {g_t_8 : Value} {g_t_9 : Value} {g_t_10 : Value} {g_t_11 : Value} {g_t_12 : Value} {g_t_13 : Value} {g_t_14 : Value} {g_t_15 : Value} {g_t_16 : Value} {g_t_18 : Value} {g_t_19 : Value} {g_t_20 : Value} {g_t_21 : Value} {g_t_22 : Value} {g_t_23 : Value} {g_t_24 : Value} {g_t_25 : Value} {g_t_26 : Value} {g_t_27 : Value} {g_t_28 : Value} {g_t_29 : Value} {g_t_30 : Value} {g_t_31 : Value} {g_t_32 : Value} {g_t_33 : Value} {g_t_34 : Value} {g_t_35 : Value} {g_t_36 : Value} {g_t_37 : Value} {g_t_38 : Value} {g_t_39 : Value} {g_t_40 : Value} {g_t_41 : Value} {g_t_42 : Value} {g_t_43 : Value}
set_option maxRecDepth 100000 in
set_option maxHeartbeats 4000000 in
theorem wm_X9_tells {F : Nat} {v : (Int → Int)} {x1 : Int} {x2 : Int} {c_has : Int → Int} (C : Cx E cX9_tells RX9 { frames := 0, cells := 0, slots := 0, locals := 0 }) (hN : eN E = 3) (h : m_X9_tells F x1 x2 c_has = some v) (hret : ∀ (pc : Nat) (L : List (Option Value)), decode cX9_tells pc = .ok (.return_, 1) → GG E 0 0 (W_X9_tells (eCy E) a_t a_t_has g_t_0 g_t_1 g_t_2 g_t_3 g_t_4 g_t_5 g_t_6 g_t_7 g_t_8 g_t_9 g_t_10 g_t_11 g_t_12 g_t_13 g_t_14 g_t_15 g_t_16 g_t_18 g_t_19 g_t_20 g_t_21 g_t_22 g_t_23 g_t_24 g_t_25 g_t_26 g_t_27 g_t_28 g_t_29 g_t_30 g_t_31 g_t_32 g_t_33 g_t_34 g_t_35 g_t_36 g_t_37 g_t_38 g_t_39 g_t_40 g_t_41 g_t_42 g_t_43 v) L pc []) : GG E 0 0 (W_X9_tells (eCy E) a_t a_t_has g_t_0 g_t_1 g_t_2 g_t_3 g_t_4 g_t_5 g_t_6 g_t_7 g_t_8 g_t_9 g_t_10 g_t_11 g_t_12 g_t_13 g_t_14 g_t_15 g_t_16 g_t_18 g_t_19 g_t_20 g_t_21 g_t_22 g_t_23 g_t_24 g_t_25 g_t_26 g_t_27 g_t_28 g_t_29 g_t_30 g_t_31 g_t_32 g_t_33 g_t_34 g_t_35 g_t_36 g_t_37 g_t_38 g_t_39 g_t_40 g_t_41 g_t_42 g_t_43 c_has) [some (.ref a_t), some (.int (wI x1)), some (.int (wI x2))] 0 [] := by
  unfold m_X9_tells at h
  refine g_aload_n 0 C dX9_tells_0 rfl rfl ?_
  refine g_get C fg_X9_34 0 rfl rfl dX9_tells_1 ?_
  refine g_bipush C dX9_tells_4 (by decide) ?_
  refine g_iload_n 1 C dX9_tells_6 rfl rfl ?_
  refine g_iadd C dX9_tells_7 ?_
  refine g_iload_n 2 C dX9_tells_8 rfl rfl ?_
  obtain ⟨hc1, h⟩ := chk_some h
  refine g_iast C 1 rfl hc1 rfl (ws' := (W_X9_tells (eCy E) a_t a_t_has g_t_0 g_t_1 g_t_2 g_t_3 g_t_4 g_t_5 g_t_6 g_t_7 g_t_8 g_t_9 g_t_10 g_t_11 g_t_12 g_t_13 g_t_14 g_t_15 g_t_16 g_t_18 g_t_19 g_t_20 g_t_21 g_t_22 g_t_23 g_t_24 g_t_25 g_t_26 g_t_27 g_t_28 g_t_29 g_t_30 g_t_31 g_t_32 g_t_33 g_t_34 g_t_35 g_t_36 g_t_37 g_t_38 g_t_39 g_t_40 g_t_41 g_t_42 g_t_43 (up c_has (36 + x1) x2))) rfl dX9_tells_9 ?_
  cases h
  exact hret 10 _ dX9_tells_10
end S_X9_tells
set_option maxRecDepth 100000 in
set_option maxHeartbeats 4000000 in
theorem c_X9_tells (l : Launch) (D : va_G) (cy : Nat → ClassId) (ad : AD) (a_t a_t_has : Nat) (g_t_0 : Value) (g_t_1 : Value) (g_t_2 : Value) (g_t_3 : Value) (g_t_4 : Value) (g_t_5 : Value) (g_t_6 : Value) (g_t_7 : Value) (g_t_8 : Value) (g_t_9 : Value) (g_t_10 : Value) (g_t_11 : Value) (g_t_12 : Value) (g_t_13 : Value) (g_t_14 : Value) (g_t_15 : Value) (g_t_16 : Value) (g_t_18 : Value) (g_t_19 : Value) (g_t_20 : Value) (g_t_21 : Value) (g_t_22 : Value) (g_t_23 : Value) (g_t_24 : Value) (g_t_25 : Value) (g_t_26 : Value) (g_t_27 : Value) (g_t_28 : Value) (g_t_29 : Value) (g_t_30 : Value) (g_t_31 : Value) (g_t_32 : Value) (g_t_33 : Value) (g_t_34 : Value) (g_t_35 : Value) (g_t_36 : Value) (g_t_37 : Value) (g_t_38 : Value) (g_t_39 : Value) (g_t_40 : Value) (g_t_41 : Value) (g_t_42 : Value) (g_t_43 : Value) (x1 : Int) (x2 : Int) (c_has : Int → Int) (F : Nat) {v : (Int → Int)} (h : m_X9_tells F x1 x2 c_has = some v) : Ct l yX9_tells cX9_tells 3 none { frames := 0, cells := 0, slots := 0, locals := 0 } D cy ad [.ref a_t, .int (wI x1), .int (wI x2)] (W_X9_tells cy a_t a_t_has g_t_0 g_t_1 g_t_2 g_t_3 g_t_4 g_t_5 g_t_6 g_t_7 g_t_8 g_t_9 g_t_10 g_t_11 g_t_12 g_t_13 g_t_14 g_t_15 g_t_16 g_t_18 g_t_19 g_t_20 g_t_21 g_t_22 g_t_23 g_t_24 g_t_25 g_t_26 g_t_27 g_t_28 g_t_29 g_t_30 g_t_31 g_t_32 g_t_33 g_t_34 g_t_35 g_t_36 g_t_37 g_t_38 g_t_39 g_t_40 g_t_41 g_t_42 g_t_43 c_has) (W_X9_tells cy a_t a_t_has g_t_0 g_t_1 g_t_2 g_t_3 g_t_4 g_t_5 g_t_6 g_t_7 g_t_8 g_t_9 g_t_10 g_t_11 g_t_12 g_t_13 g_t_14 g_t_15 g_t_16 g_t_18 g_t_19 g_t_20 g_t_21 g_t_22 g_t_23 g_t_24 g_t_25 g_t_26 g_t_27 g_t_28 g_t_29 g_t_30 g_t_31 g_t_32 g_t_33 g_t_34 g_t_35 g_t_36 g_t_37 g_t_38 g_t_39 g_t_40 g_t_41 g_t_42 g_t_43 v) none := by
  refine Ct.introV (j := 0) (plainFor_of_name (by decide)) rfl rfl (fun E C e1 e2 e3 e4 e5 hret => ?_)
  subst e1; subst e2; subst e3; subst e4
  exact wm_X9_tells C e5 h hret
-- MovingStairModel.partLine()V
def W_X9_partLine (cy : Nat → ClassId) (a_t a_t_has a_t_part a_t_tape : Nat) (g_t_0 : Value) (g_t_1 : Value) (g_t_2 : Value) (g_t_3 : Value) (g_t_4 : Value) (g_t_14 : Value) (g_t_15 : Value) (g_t_16 : Value) (g_t_19 : Value) (g_t_20 : Value) (g_t_21 : Value) (g_t_22 : Value) (g_t_23 : Value) (g_t_24 : Value) (g_t_25 : Value) (g_t_26 : Value) (g_t_27 : Value) (g_t_28 : Value) (g_t_29 : Value) (g_t_30 : Value) (g_t_31 : Value) (g_t_32 : Value) (g_t_33 : Value) (g_t_34 : Value) (g_t_35 : Value) (g_t_36 : Value) (g_t_37 : Value) (g_t_38 : Value) (g_t_39 : Value) (g_t_40 : Value) (g_t_41 : Value) (g_t_42 : Value) (g_t_43 : Value) (c_taped : Int) (c_at : Int) (c_token : Int) (c_place : Int) (c_value : Int) (c_word : Int) (c_bad : Int) (c_badPlace : Int) (c_has : Int → Int) (c_part : Int → Int) (c_tape : Int → Int) : va_W := [(a_t, .inr (9, [g_t_0, g_t_1, g_t_2, g_t_3, g_t_4, .ref a_t_tape, .int (wI c_taped), .int (wI c_at), .int (wI c_token), .int (wI c_place), .int (wI c_value), .long (wJ c_word), .int (wI c_bad), .int (wI c_badPlace), g_t_14, g_t_15, g_t_16, .ref a_t_has, .ref a_t_part, g_t_19, g_t_20, g_t_21, g_t_22, g_t_23, g_t_24, g_t_25, g_t_26, g_t_27, g_t_28, g_t_29, g_t_30, g_t_31, g_t_32, g_t_33, g_t_34, g_t_35, g_t_36, g_t_37, g_t_38, g_t_39, g_t_40, g_t_41, g_t_42, g_t_43])), (a_t_has, .inl (cy 1, 45, .inl (aI c_has))), (a_t_part, .inl (cy 1, 40, .inl (aI c_part))), (a_t_tape, .inl (cy 0, 900, .inl (aI c_tape)))]
def mb_X9_partLine_69 (F : Nat) (s1 : Int) (s2 : Int) (c_at : Int) (c_token : Int) (c_place : Int) (c_value : Int) (c_word : Int) (c_bad : Int) (c_badPlace : Int) (c_has : Int → Int) (c_part : Int → Int) : Option (Int × Int × Int × Int × Int × Int × Int × (Int → Int) × (Int → Int)) :=
  chk (0 ≤ s1 ∧ s1 < 40) <| bnd1 (m_X9_hasRead F 1 c_has) fun r2 => bnd1 (m_X9_tells F 1 (r2 + 1) c_has) fun o4 => some (c_at, c_token, c_place, c_value, c_word, c_bad, c_badPlace, o4, up c_part s1 s2)
def mb_X9_partLine_68 (F : Nat) (x2 : Int) (s1 : Int) (c_at : Int) (c_token : Int) (c_place : Int) (c_value : Int) (c_word : Int) (c_bad : Int) (c_badPlace : Int) (c_has : Int → Int) (c_part : Int → Int) : Option (Int × Int × Int × Int × Int × Int × Int × (Int → Int) × (Int → Int)) :=
  mb_X9_partLine_69 F s1 x2 c_at c_token c_place c_value c_word c_bad c_badPlace c_has c_part
def m_X9_partLine (F : Nat) (c_taped : Int) (c_at : Int) (c_token : Int) (c_place : Int) (c_value : Int) (c_word : Int) (c_bad : Int) (c_badPlace : Int) (c_has : Int → Int) (c_part : Int → Int) (c_tape : Int → Int) : Option (Int × Int × Int × Int × Int × Int × Int × (Int → Int) × (Int → Int)) :=
  bnd1 (m_X9_hasRead F 1 c_has) fun r1 => nam (2 * (16 + r1)) fun y3 => bnd8 (m_X9_number_ F 10495135 1 200 c_taped c_at c_token c_place c_value c_word c_bad c_badPlace c_tape) fun r4 o5 o6 o7 o8 o9 o10 o11 => chk (0 ≤ y3 ∧ y3 < 40) <| bnd8 (m_X9_number_ F 7220170 0 30 c_taped o5 o6 o7 o8 o9 o10 o11 c_tape) fun r14 o15 o16 o17 o18 o19 o20 o21 => if wI o20 = wI 0 then
    (bnd6 (m_X9_takes F 40187 c_taped o15 o16 o17 o18 o19 o20 c_tape) fun r23 o24 o25 o26 o27 o28 => if wI r23 = wI 0 then
    (mb_X9_partLine_68 F r14 (y3 + 1) o24 o25 o26 o27 o28 o20 o21 c_has (up c_part y3 r4))
  else
    (mb_X9_partLine_69 F (y3 + 1) (-r14) o24 o25 o26 o27 o28 o20 o21 c_has (up c_part y3 r4)))
  else
    (mb_X9_partLine_68 F r14 (y3 + 1) o15 o16 o17 o18 o19 o20 o21 c_has (up c_part y3 r4))
section S_X9_partLine
variable {E : EE} {a_t a_t_has a_t_part a_t_tape : Nat} {g_t_0 : Value} {g_t_1 : Value} {g_t_2 : Value} {g_t_3 : Value} {g_t_4 : Value} {g_t_14 : Value} {g_t_15 : Value} {g_t_16 : Value} {g_t_19 : Value} {g_t_20 : Value} {g_t_21 : Value} {g_t_22 : Value} {g_t_23 : Value} {g_t_24 : Value} {g_t_25 : Value} {g_t_26 : Value} {g_t_27 : Value} {g_t_28 : Value} {g_t_29 : Value} {g_t_30 : Value} {g_t_31 : Value} {g_t_32 : Value} {g_t_33 : Value} {g_t_34 : Value} {g_t_35 : Value} {g_t_36 : Value} {g_t_37 : Value} {g_t_38 : Value} {g_t_39 : Value} {g_t_40 : Value} {g_t_41 : Value} {g_t_42 : Value} {g_t_43 : Value}
set_option maxRecDepth 100000 in
set_option maxHeartbeats 4000000 in
theorem wb_X9_partLine_69 {F : Nat} {v : Int × Int × Int × Int × Int × Int × Int × (Int → Int) × (Int → Int)} {s1 : Int} {s2 : Int} {c_at : Int} {c_token : Int} {c_place : Int} {c_value : Int} {c_word : Int} {c_bad : Int} {c_badPlace : Int} {c_has : Int → Int} {c_part : Int → Int} {c_taped : Int} {c_tape : Int → Int} (C : Cx E cX9_partLine RX9 { frames := 5, cells := 0, slots := 0, locals := 112 }) (hN : eN E = 3) (h : mb_X9_partLine_69 F s1 s2 c_at c_token c_place c_value c_word c_bad c_badPlace c_has c_part = some v) (hret : ∀ (pc : Nat) (L : List (Option Value)), decode cX9_partLine pc = .ok (.return_, 1) → GG E 0 0 (W_X9_partLine (eCy E) a_t a_t_has a_t_part a_t_tape g_t_0 g_t_1 g_t_2 g_t_3 g_t_4 g_t_14 g_t_15 g_t_16 g_t_19 g_t_20 g_t_21 g_t_22 g_t_23 g_t_24 g_t_25 g_t_26 g_t_27 g_t_28 g_t_29 g_t_30 g_t_31 g_t_32 g_t_33 g_t_34 g_t_35 g_t_36 g_t_37 g_t_38 g_t_39 g_t_40 g_t_41 g_t_42 g_t_43 c_taped (v.1) (v.2.1) (v.2.2.1) (v.2.2.2.1) (v.2.2.2.2.1) (v.2.2.2.2.2.1) (v.2.2.2.2.2.2.1) (v.2.2.2.2.2.2.2.1) (v.2.2.2.2.2.2.2.2) c_tape) L pc []) : GG E 0 0 (W_X9_partLine (eCy E) a_t a_t_has a_t_part a_t_tape g_t_0 g_t_1 g_t_2 g_t_3 g_t_4 g_t_14 g_t_15 g_t_16 g_t_19 g_t_20 g_t_21 g_t_22 g_t_23 g_t_24 g_t_25 g_t_26 g_t_27 g_t_28 g_t_29 g_t_30 g_t_31 g_t_32 g_t_33 g_t_34 g_t_35 g_t_36 g_t_37 g_t_38 g_t_39 g_t_40 g_t_41 g_t_42 g_t_43 c_taped c_at c_token c_place c_value c_word c_bad c_badPlace c_has c_part c_tape) [some (.ref a_t), none, none] 69 [.int (wI s2), .int (wI s1), .ref a_t_part] := by
  unfold mb_X9_partLine_69 at h
  obtain ⟨hc1, h⟩ := chk_some h
  refine g_iast C 2 rfl hc1 rfl (ws' := (W_X9_partLine (eCy E) a_t a_t_has a_t_part a_t_tape g_t_0 g_t_1 g_t_2 g_t_3 g_t_4 g_t_14 g_t_15 g_t_16 g_t_19 g_t_20 g_t_21 g_t_22 g_t_23 g_t_24 g_t_25 g_t_26 g_t_27 g_t_28 g_t_29 g_t_30 g_t_31 g_t_32 g_t_33 g_t_34 g_t_35 g_t_36 g_t_37 g_t_38 g_t_39 g_t_40 g_t_41 g_t_42 g_t_43 c_taped c_at c_token c_place c_value c_word c_bad c_badPlace c_has (up c_part s1 s2) c_tape)) rfl dX9_partLine_69 ?_
  refine g_aload_n 0 C dX9_partLine_70 rfl rfl ?_
  refine g_iconst C dX9_partLine_71 ?_
  refine g_aload_n 0 C dX9_partLine_72 rfl rfl ?_
  refine g_iconst C dX9_partLine_73 ?_
  obtain ⟨r2, hr3, h⟩ := bnd1_some h
  refine g_callI [0, 1] [2, 3] [2, 3, 0, 1] C mt_X9_153 (c_X9_hasRead _ _ _ _ a_t a_t_has (g_t_0) (g_t_1) (g_t_2) (g_t_3) (g_t_4) (.ref a_t_tape) (.int (wI c_taped)) (.int (wI c_at)) (.int (wI c_token)) (.int (wI c_place)) (.int (wI c_value)) (.long (wJ c_word)) (.int (wI c_bad)) (.int (wI c_badPlace)) (g_t_14) (g_t_15) (g_t_16) (.ref a_t_part) (g_t_19) (g_t_20) (g_t_21) (g_t_22) (g_t_23) (g_t_24) (g_t_25) (g_t_26) (g_t_27) (g_t_28) (g_t_29) (g_t_30) (g_t_31) (g_t_32) (g_t_33) (g_t_34) (g_t_35) (g_t_36) (g_t_37) (g_t_38) (g_t_39) (g_t_40) (g_t_41) (g_t_42) (g_t_43) 1 c_has F hr3) (q0 := 0) rfl (ci := 9) rfl rfl rfl (ws2 := (W_X9_partLine (eCy E) a_t a_t_has a_t_part a_t_tape g_t_0 g_t_1 g_t_2 g_t_3 g_t_4 g_t_14 g_t_15 g_t_16 g_t_19 g_t_20 g_t_21 g_t_22 g_t_23 g_t_24 g_t_25 g_t_26 g_t_27 g_t_28 g_t_29 g_t_30 g_t_31 g_t_32 g_t_33 g_t_34 g_t_35 g_t_36 g_t_37 g_t_38 g_t_39 g_t_40 g_t_41 g_t_42 g_t_43 c_taped c_at c_token c_place c_value c_word c_bad c_badPlace c_has (up c_part s1 s2) c_tape)) rfl rfl rfl (rest := [.int (wI 1), .ref a_t]) rfl rfl rfl dX9_partLine_74 ?_
  refine g_iconst C dX9_partLine_77 ?_
  refine g_iadd C dX9_partLine_78 ?_
  obtain ⟨o4, hr5, h⟩ := bnd1_some h
  refine g_callV [0, 1] [2, 3] [2, 3, 0, 1] C mt_X9_166 (c_X9_tells _ _ _ _ a_t a_t_has (g_t_0) (g_t_1) (g_t_2) (g_t_3) (g_t_4) (.ref a_t_tape) (.int (wI c_taped)) (.int (wI c_at)) (.int (wI c_token)) (.int (wI c_place)) (.int (wI c_value)) (.long (wJ c_word)) (.int (wI c_bad)) (.int (wI c_badPlace)) (g_t_14) (g_t_15) (g_t_16) (.ref a_t_part) (g_t_19) (g_t_20) (g_t_21) (g_t_22) (g_t_23) (g_t_24) (g_t_25) (g_t_26) (g_t_27) (g_t_28) (g_t_29) (g_t_30) (g_t_31) (g_t_32) (g_t_33) (g_t_34) (g_t_35) (g_t_36) (g_t_37) (g_t_38) (g_t_39) (g_t_40) (g_t_41) (g_t_42) (g_t_43) 1 (r2 + 1) c_has F hr5) (q0 := 0) rfl (ci := 9) rfl rfl rfl (ws2 := (W_X9_partLine (eCy E) a_t a_t_has a_t_part a_t_tape g_t_0 g_t_1 g_t_2 g_t_3 g_t_4 g_t_14 g_t_15 g_t_16 g_t_19 g_t_20 g_t_21 g_t_22 g_t_23 g_t_24 g_t_25 g_t_26 g_t_27 g_t_28 g_t_29 g_t_30 g_t_31 g_t_32 g_t_33 g_t_34 g_t_35 g_t_36 g_t_37 g_t_38 g_t_39 g_t_40 g_t_41 g_t_42 g_t_43 c_taped c_at c_token c_place c_value c_word c_bad c_badPlace o4 (up c_part s1 s2) c_tape)) rfl rfl rfl (rest := []) rfl rfl rfl dX9_partLine_79 ?_
  cases h
  exact hret 82 _ dX9_partLine_82
set_option maxRecDepth 100000 in
set_option maxHeartbeats 4000000 in
theorem wb_X9_partLine_68 {F : Nat} {v : Int × Int × Int × Int × Int × Int × Int × (Int → Int) × (Int → Int)} {x2 : Int} {s1 : Int} {c_at : Int} {c_token : Int} {c_place : Int} {c_value : Int} {c_word : Int} {c_bad : Int} {c_badPlace : Int} {c_has : Int → Int} {c_part : Int → Int} {c_taped : Int} {c_tape : Int → Int} (C : Cx E cX9_partLine RX9 { frames := 5, cells := 0, slots := 0, locals := 112 }) (hN : eN E = 3) (h : mb_X9_partLine_68 F x2 s1 c_at c_token c_place c_value c_word c_bad c_badPlace c_has c_part = some v) (hret : ∀ (pc : Nat) (L : List (Option Value)), decode cX9_partLine pc = .ok (.return_, 1) → GG E 0 0 (W_X9_partLine (eCy E) a_t a_t_has a_t_part a_t_tape g_t_0 g_t_1 g_t_2 g_t_3 g_t_4 g_t_14 g_t_15 g_t_16 g_t_19 g_t_20 g_t_21 g_t_22 g_t_23 g_t_24 g_t_25 g_t_26 g_t_27 g_t_28 g_t_29 g_t_30 g_t_31 g_t_32 g_t_33 g_t_34 g_t_35 g_t_36 g_t_37 g_t_38 g_t_39 g_t_40 g_t_41 g_t_42 g_t_43 c_taped (v.1) (v.2.1) (v.2.2.1) (v.2.2.2.1) (v.2.2.2.2.1) (v.2.2.2.2.2.1) (v.2.2.2.2.2.2.1) (v.2.2.2.2.2.2.2.1) (v.2.2.2.2.2.2.2.2) c_tape) L pc []) : GG E 0 0 (W_X9_partLine (eCy E) a_t a_t_has a_t_part a_t_tape g_t_0 g_t_1 g_t_2 g_t_3 g_t_4 g_t_14 g_t_15 g_t_16 g_t_19 g_t_20 g_t_21 g_t_22 g_t_23 g_t_24 g_t_25 g_t_26 g_t_27 g_t_28 g_t_29 g_t_30 g_t_31 g_t_32 g_t_33 g_t_34 g_t_35 g_t_36 g_t_37 g_t_38 g_t_39 g_t_40 g_t_41 g_t_42 g_t_43 c_taped c_at c_token c_place c_value c_word c_bad c_badPlace c_has c_part c_tape) [some (.ref a_t), none, some (.int (wI x2))] 68 [.int (wI s1), .ref a_t_part] := by
  unfold mb_X9_partLine_68 at h
  refine g_iload_n 2 C dX9_partLine_68 rfl rfl ?_
  refine g_mask [true, false, false] (L' := [some (.ref a_t), none, none]) rfl ?_
  exact wb_X9_partLine_69 C hN h hret
set_option maxRecDepth 100000 in
set_option maxHeartbeats 4000000 in
theorem wm_X9_partLine {F : Nat} {v : Int × Int × Int × Int × Int × Int × Int × (Int → Int) × (Int → Int)} {c_taped : Int} {c_at : Int} {c_token : Int} {c_place : Int} {c_value : Int} {c_word : Int} {c_bad : Int} {c_badPlace : Int} {c_has : Int → Int} {c_part : Int → Int} {c_tape : Int → Int} (C : Cx E cX9_partLine RX9 { frames := 5, cells := 0, slots := 0, locals := 112 }) (hN : eN E = 3) (h : m_X9_partLine F c_taped c_at c_token c_place c_value c_word c_bad c_badPlace c_has c_part c_tape = some v) (hret : ∀ (pc : Nat) (L : List (Option Value)), decode cX9_partLine pc = .ok (.return_, 1) → GG E 0 0 (W_X9_partLine (eCy E) a_t a_t_has a_t_part a_t_tape g_t_0 g_t_1 g_t_2 g_t_3 g_t_4 g_t_14 g_t_15 g_t_16 g_t_19 g_t_20 g_t_21 g_t_22 g_t_23 g_t_24 g_t_25 g_t_26 g_t_27 g_t_28 g_t_29 g_t_30 g_t_31 g_t_32 g_t_33 g_t_34 g_t_35 g_t_36 g_t_37 g_t_38 g_t_39 g_t_40 g_t_41 g_t_42 g_t_43 c_taped (v.1) (v.2.1) (v.2.2.1) (v.2.2.2.1) (v.2.2.2.2.1) (v.2.2.2.2.2.1) (v.2.2.2.2.2.2.1) (v.2.2.2.2.2.2.2.1) (v.2.2.2.2.2.2.2.2) c_tape) L pc []) : GG E 0 0 (W_X9_partLine (eCy E) a_t a_t_has a_t_part a_t_tape g_t_0 g_t_1 g_t_2 g_t_3 g_t_4 g_t_14 g_t_15 g_t_16 g_t_19 g_t_20 g_t_21 g_t_22 g_t_23 g_t_24 g_t_25 g_t_26 g_t_27 g_t_28 g_t_29 g_t_30 g_t_31 g_t_32 g_t_33 g_t_34 g_t_35 g_t_36 g_t_37 g_t_38 g_t_39 g_t_40 g_t_41 g_t_42 g_t_43 c_taped c_at c_token c_place c_value c_word c_bad c_badPlace c_has c_part c_tape) [some (.ref a_t), none, none] 0 [] := by
  unfold m_X9_partLine at h
  refine g_iconst C dX9_partLine_0 ?_
  refine g_bipush C dX9_partLine_1 (by decide) ?_
  refine g_aload_n 0 C dX9_partLine_3 rfl rfl ?_
  refine g_iconst C dX9_partLine_4 ?_
  obtain ⟨r1, hr2, h⟩ := bnd1_some h
  refine g_callI [0, 1] [2, 3] [2, 3, 0, 1] C mt_X9_153 (c_X9_hasRead _ _ _ _ a_t a_t_has (g_t_0) (g_t_1) (g_t_2) (g_t_3) (g_t_4) (.ref a_t_tape) (.int (wI c_taped)) (.int (wI c_at)) (.int (wI c_token)) (.int (wI c_place)) (.int (wI c_value)) (.long (wJ c_word)) (.int (wI c_bad)) (.int (wI c_badPlace)) (g_t_14) (g_t_15) (g_t_16) (.ref a_t_part) (g_t_19) (g_t_20) (g_t_21) (g_t_22) (g_t_23) (g_t_24) (g_t_25) (g_t_26) (g_t_27) (g_t_28) (g_t_29) (g_t_30) (g_t_31) (g_t_32) (g_t_33) (g_t_34) (g_t_35) (g_t_36) (g_t_37) (g_t_38) (g_t_39) (g_t_40) (g_t_41) (g_t_42) (g_t_43) 1 c_has F hr2) (q0 := 0) rfl (ci := 9) rfl rfl rfl (ws2 := (W_X9_partLine (eCy E) a_t a_t_has a_t_part a_t_tape g_t_0 g_t_1 g_t_2 g_t_3 g_t_4 g_t_14 g_t_15 g_t_16 g_t_19 g_t_20 g_t_21 g_t_22 g_t_23 g_t_24 g_t_25 g_t_26 g_t_27 g_t_28 g_t_29 g_t_30 g_t_31 g_t_32 g_t_33 g_t_34 g_t_35 g_t_36 g_t_37 g_t_38 g_t_39 g_t_40 g_t_41 g_t_42 g_t_43 c_taped c_at c_token c_place c_value c_word c_bad c_badPlace c_has c_part c_tape)) rfl rfl rfl (rest := [.int (wI 16), .int (wI 2)]) rfl rfl rfl dX9_partLine_5 ?_
  refine g_iadd C dX9_partLine_8 ?_
  refine g_imul C dX9_partLine_9 ?_
  obtain ⟨y3, e_y3, h⟩ := nam_some h
  refine g_topI e_y3 ?_
  refine g_istore_n 1 C hN dX9_partLine_10 rfl rfl (L' := [some (.ref a_t), some (.int (wI y3)), none]) rfl ?_
  refine g_aload_n 0 C dX9_partLine_11 rfl rfl ?_
  refine g_get C fg_X9_37 0 rfl rfl dX9_partLine_12 ?_
  refine g_iload_n 1 C dX9_partLine_15 rfl rfl ?_
  refine g_aload_n 0 C dX9_partLine_16 rfl rfl ?_
  refine g_ldc2 (v := 10495135) C mc_X9_157 dX9_partLine_17 ?_
  refine g_iconst C dX9_partLine_20 ?_
  refine g_sipush C dX9_partLine_21 (by decide) ?_
  obtain ⟨r4, o5, o6, o7, o8, o9, o10, o11, hr12, h⟩ := bnd8_some h
  refine g_callI [0, 3] [1, 2] [2, 0, 1, 3] C mt_X9_159 (c_X9_number_ _ _ _ _ a_t a_t_tape (g_t_0) (g_t_1) (g_t_2) (g_t_3) (g_t_4) (g_t_14) (g_t_15) (g_t_16) (.ref a_t_has) (.ref a_t_part) (g_t_19) (g_t_20) (g_t_21) (g_t_22) (g_t_23) (g_t_24) (g_t_25) (g_t_26) (g_t_27) (g_t_28) (g_t_29) (g_t_30) (g_t_31) (g_t_32) (g_t_33) (g_t_34) (g_t_35) (g_t_36) (g_t_37) (g_t_38) (g_t_39) (g_t_40) (g_t_41) (g_t_42) (g_t_43) 10495135 1 200 c_taped c_at c_token c_place c_value c_word c_bad c_badPlace c_tape F hr12) (q0 := 0) rfl (ci := 9) rfl rfl rfl (ws2 := (W_X9_partLine (eCy E) a_t a_t_has a_t_part a_t_tape g_t_0 g_t_1 g_t_2 g_t_3 g_t_4 g_t_14 g_t_15 g_t_16 g_t_19 g_t_20 g_t_21 g_t_22 g_t_23 g_t_24 g_t_25 g_t_26 g_t_27 g_t_28 g_t_29 g_t_30 g_t_31 g_t_32 g_t_33 g_t_34 g_t_35 g_t_36 g_t_37 g_t_38 g_t_39 g_t_40 g_t_41 g_t_42 g_t_43 c_taped o5 o6 o7 o8 o9 o10 o11 c_has c_part c_tape)) rfl rfl rfl (rest := [.int (wI y3), .ref a_t_part]) rfl rfl rfl dX9_partLine_24 ?_
  obtain ⟨hc13, h⟩ := chk_some h
  refine g_iast C 2 rfl hc13 rfl (ws' := (W_X9_partLine (eCy E) a_t a_t_has a_t_part a_t_tape g_t_0 g_t_1 g_t_2 g_t_3 g_t_4 g_t_14 g_t_15 g_t_16 g_t_19 g_t_20 g_t_21 g_t_22 g_t_23 g_t_24 g_t_25 g_t_26 g_t_27 g_t_28 g_t_29 g_t_30 g_t_31 g_t_32 g_t_33 g_t_34 g_t_35 g_t_36 g_t_37 g_t_38 g_t_39 g_t_40 g_t_41 g_t_42 g_t_43 c_taped o5 o6 o7 o8 o9 o10 o11 c_has (up c_part y3 r4) c_tape)) rfl dX9_partLine_27 ?_
  refine g_aload_n 0 C dX9_partLine_28 rfl rfl ?_
  refine g_ldc2 (v := 7220170) C mc_X9_162 dX9_partLine_29 ?_
  refine g_iconst C dX9_partLine_32 ?_
  refine g_bipush C dX9_partLine_33 (by decide) ?_
  obtain ⟨r14, o15, o16, o17, o18, o19, o20, o21, hr22, h⟩ := bnd8_some h
  refine g_callI [0, 3] [1, 2] [2, 0, 1, 3] C mt_X9_159 (c_X9_number_ _ _ _ _ a_t a_t_tape (g_t_0) (g_t_1) (g_t_2) (g_t_3) (g_t_4) (g_t_14) (g_t_15) (g_t_16) (.ref a_t_has) (.ref a_t_part) (g_t_19) (g_t_20) (g_t_21) (g_t_22) (g_t_23) (g_t_24) (g_t_25) (g_t_26) (g_t_27) (g_t_28) (g_t_29) (g_t_30) (g_t_31) (g_t_32) (g_t_33) (g_t_34) (g_t_35) (g_t_36) (g_t_37) (g_t_38) (g_t_39) (g_t_40) (g_t_41) (g_t_42) (g_t_43) 7220170 0 30 c_taped o5 o6 o7 o8 o9 o10 o11 c_tape F hr22) (q0 := 0) rfl (ci := 9) rfl rfl rfl (ws2 := (W_X9_partLine (eCy E) a_t a_t_has a_t_part a_t_tape g_t_0 g_t_1 g_t_2 g_t_3 g_t_4 g_t_14 g_t_15 g_t_16 g_t_19 g_t_20 g_t_21 g_t_22 g_t_23 g_t_24 g_t_25 g_t_26 g_t_27 g_t_28 g_t_29 g_t_30 g_t_31 g_t_32 g_t_33 g_t_34 g_t_35 g_t_36 g_t_37 g_t_38 g_t_39 g_t_40 g_t_41 g_t_42 g_t_43 c_taped o15 o16 o17 o18 o19 o20 o21 c_has (up c_part y3 r4) c_tape)) rfl rfl rfl (rest := []) rfl rfl rfl dX9_partLine_35 ?_
  refine g_istore_n 2 C hN dX9_partLine_38 rfl rfl (L' := [some (.ref a_t), some (.int (wI y3)), some (.int (wI r14))]) rfl ?_
  refine g_aload_n 0 C dX9_partLine_39 rfl rfl ?_
  refine g_get C fg_X9_37 0 rfl rfl dX9_partLine_40 ?_
  refine g_iload_n 1 C dX9_partLine_43 rfl rfl ?_
  refine g_iconst C dX9_partLine_44 ?_
  refine g_iadd C dX9_partLine_45 ?_
  refine g_aload_n 0 C dX9_partLine_46 rfl rfl ?_
  refine g_get C fg_X9_123 0 rfl rfl dX9_partLine_47 ?_
  refine g_st (st' := [.int (wI o20), .int (wI (y3 + 1)), .ref a_t_part]) rfl ?_
  refine g_if_ne 68 C dX9_partLine_50 (by decide) h (fun h => ?_) (fun h => ?_)
  · refine g_mask [true, false, true] (L' := [some (.ref a_t), none, some (.int (wI r14))]) rfl ?_
    exact wb_X9_partLine_68 C hN h hret
  · refine g_aload_n 0 C dX9_partLine_53 rfl rfl ?_
    refine g_ldc2 (v := 40187) C mc_X9_164 dX9_partLine_54 ?_
    obtain ⟨r23, o24, o25, o26, o27, o28, hr29, h⟩ := bnd6_some h
    refine g_callI [0, 3] [1, 2] [2, 0, 1, 3] C mt_X9_136 (c_X9_takes _ _ _ _ a_t a_t_tape (g_t_0) (g_t_1) (g_t_2) (g_t_3) (g_t_4) (.int (wI o21)) (g_t_14) (g_t_15) (g_t_16) (.ref a_t_has) (.ref a_t_part) (g_t_19) (g_t_20) (g_t_21) (g_t_22) (g_t_23) (g_t_24) (g_t_25) (g_t_26) (g_t_27) (g_t_28) (g_t_29) (g_t_30) (g_t_31) (g_t_32) (g_t_33) (g_t_34) (g_t_35) (g_t_36) (g_t_37) (g_t_38) (g_t_39) (g_t_40) (g_t_41) (g_t_42) (g_t_43) 40187 c_taped o15 o16 o17 o18 o19 o20 c_tape F hr29) (q0 := 0) rfl (ci := 9) rfl rfl rfl (ws2 := (W_X9_partLine (eCy E) a_t a_t_has a_t_part a_t_tape g_t_0 g_t_1 g_t_2 g_t_3 g_t_4 g_t_14 g_t_15 g_t_16 g_t_19 g_t_20 g_t_21 g_t_22 g_t_23 g_t_24 g_t_25 g_t_26 g_t_27 g_t_28 g_t_29 g_t_30 g_t_31 g_t_32 g_t_33 g_t_34 g_t_35 g_t_36 g_t_37 g_t_38 g_t_39 g_t_40 g_t_41 g_t_42 g_t_43 c_taped o24 o25 o26 o27 o28 o20 o21 c_has (up c_part y3 r4) c_tape)) rfl rfl rfl (rest := [.int (wI (y3 + 1)), .ref a_t_part]) rfl rfl rfl dX9_partLine_57 ?_
    refine g_if_eq 68 C dX9_partLine_60 (by decide) h (fun h => ?_) (fun h => ?_)
    · refine g_mask [true, false, true] (L' := [some (.ref a_t), none, some (.int (wI r14))]) rfl ?_
      exact wb_X9_partLine_68 C hN h hret
    · refine g_iload_n 2 C dX9_partLine_63 rfl rfl ?_
      refine g_ineg C dX9_partLine_64 ?_
      refine g_goto (tgt := 69) C dX9_partLine_65 (by decide) ?_
      refine g_mask [true, false, false] (L' := [some (.ref a_t), none, none]) rfl ?_
      exact wb_X9_partLine_69 C hN h hret
end S_X9_partLine
set_option maxRecDepth 100000 in
set_option maxHeartbeats 4000000 in
theorem c_X9_partLine (l : Launch) (D : va_G) (cy : Nat → ClassId) (ad : AD) (a_t a_t_has a_t_part a_t_tape : Nat) (g_t_0 : Value) (g_t_1 : Value) (g_t_2 : Value) (g_t_3 : Value) (g_t_4 : Value) (g_t_14 : Value) (g_t_15 : Value) (g_t_16 : Value) (g_t_19 : Value) (g_t_20 : Value) (g_t_21 : Value) (g_t_22 : Value) (g_t_23 : Value) (g_t_24 : Value) (g_t_25 : Value) (g_t_26 : Value) (g_t_27 : Value) (g_t_28 : Value) (g_t_29 : Value) (g_t_30 : Value) (g_t_31 : Value) (g_t_32 : Value) (g_t_33 : Value) (g_t_34 : Value) (g_t_35 : Value) (g_t_36 : Value) (g_t_37 : Value) (g_t_38 : Value) (g_t_39 : Value) (g_t_40 : Value) (g_t_41 : Value) (g_t_42 : Value) (g_t_43 : Value) (c_taped : Int) (c_at : Int) (c_token : Int) (c_place : Int) (c_value : Int) (c_word : Int) (c_bad : Int) (c_badPlace : Int) (c_has : Int → Int) (c_part : Int → Int) (c_tape : Int → Int) (F : Nat) {v : Int × Int × Int × Int × Int × Int × Int × (Int → Int) × (Int → Int)} (h : m_X9_partLine F c_taped c_at c_token c_place c_value c_word c_bad c_badPlace c_has c_part c_tape = some v) : Ct l yX9_partLine cX9_partLine 3 none { frames := 5, cells := 0, slots := 0, locals := 112 } D cy ad [.ref a_t] (W_X9_partLine cy a_t a_t_has a_t_part a_t_tape g_t_0 g_t_1 g_t_2 g_t_3 g_t_4 g_t_14 g_t_15 g_t_16 g_t_19 g_t_20 g_t_21 g_t_22 g_t_23 g_t_24 g_t_25 g_t_26 g_t_27 g_t_28 g_t_29 g_t_30 g_t_31 g_t_32 g_t_33 g_t_34 g_t_35 g_t_36 g_t_37 g_t_38 g_t_39 g_t_40 g_t_41 g_t_42 g_t_43 c_taped c_at c_token c_place c_value c_word c_bad c_badPlace c_has c_part c_tape) (W_X9_partLine cy a_t a_t_has a_t_part a_t_tape g_t_0 g_t_1 g_t_2 g_t_3 g_t_4 g_t_14 g_t_15 g_t_16 g_t_19 g_t_20 g_t_21 g_t_22 g_t_23 g_t_24 g_t_25 g_t_26 g_t_27 g_t_28 g_t_29 g_t_30 g_t_31 g_t_32 g_t_33 g_t_34 g_t_35 g_t_36 g_t_37 g_t_38 g_t_39 g_t_40 g_t_41 g_t_42 g_t_43 c_taped (v.1) (v.2.1) (v.2.2.1) (v.2.2.2.1) (v.2.2.2.2.1) (v.2.2.2.2.2.1) (v.2.2.2.2.2.2.1) (v.2.2.2.2.2.2.2.1) (v.2.2.2.2.2.2.2.2) c_tape) none := by
  refine Ct.introV (j := 2) (plainFor_of_name (by decide)) rfl rfl (fun E C e1 e2 e3 e4 e5 hret => ?_)
  subst e1; subst e2; subst e3; subst e4
  exact wm_X9_partLine C e5 h hret
-- MovingStairModel.isRoom(ZII)Z
def W_X9_isRoom (cy : Nat → ClassId) (a_t a_t_has a_t_tape : Nat) (g_t_0 : Value) (g_t_1 : Value) (g_t_2 : Value) (g_t_3 : Value) (g_t_4 : Value) (g_t_14 : Value) (g_t_15 : Value) (g_t_16 : Value) (g_t_18 : Value) (g_t_19 : Value) (g_t_20 : Value) (g_t_21 : Value) (g_t_22 : Value) (g_t_23 : Value) (g_t_24 : Value) (g_t_25 : Value) (g_t_26 : Value) (g_t_27 : Value) (g_t_28 : Value) (g_t_29 : Value) (g_t_30 : Value) (g_t_31 : Value) (g_t_32 : Value) (g_t_33 : Value) (g_t_34 : Value) (g_t_35 : Value) (g_t_36 : Value) (g_t_37 : Value) (g_t_38 : Value) (g_t_39 : Value) (g_t_40 : Value) (g_t_41 : Value) (g_t_42 : Value) (g_t_43 : Value) (c_taped : Int) (c_at : Int) (c_token : Int) (c_place : Int) (c_value : Int) (c_word : Int) (c_bad : Int) (c_badPlace : Int) (c_has : Int → Int) (c_tape : Int → Int) : va_W := [(a_t, .inr (9, [g_t_0, g_t_1, g_t_2, g_t_3, g_t_4, .ref a_t_tape, .int (wI c_taped), .int (wI c_at), .int (wI c_token), .int (wI c_place), .int (wI c_value), .long (wJ c_word), .int (wI c_bad), .int (wI c_badPlace), g_t_14, g_t_15, g_t_16, .ref a_t_has, g_t_18, g_t_19, g_t_20, g_t_21, g_t_22, g_t_23, g_t_24, g_t_25, g_t_26, g_t_27, g_t_28, g_t_29, g_t_30, g_t_31, g_t_32, g_t_33, g_t_34, g_t_35, g_t_36, g_t_37, g_t_38, g_t_39, g_t_40, g_t_41, g_t_42, g_t_43])), (a_t_has, .inl (cy 1, 45, .inl (aI c_has))), (a_t_tape, .inl (cy 0, 900, .inl (aI c_tape)))]
def mb_X9_isRoom_33 (F : Nat) (x1 : Int) (c_at : Int) (c_token : Int) (c_place : Int) (c_value : Int) (c_word : Int) (c_bad : Int) (c_badPlace : Int) : Option (Int × Int × Int × Int × Int × Int × Int × Int) :=
  if wI x1 = wI 0 then
    (some (0, c_at, c_token, c_place, c_value, c_word, c_bad, c_badPlace))
  else
    (if wI c_bad = wI 0 then
    (some (1, c_at, c_token, c_place, c_value, c_word, c_bad, c_badPlace))
  else
    (some (0, c_at, c_token, c_place, c_value, c_word, c_bad, c_badPlace)))
def mb_X9_isRoom_18 (F : Nat) (x1 : Int) (c_taped : Int) (c_at : Int) (c_token : Int) (c_place : Int) (c_value : Int) (c_word : Int) (c_bad : Int) (c_badPlace : Int) (c_tape : Int → Int) : Option (Int × Int × Int × Int × Int × Int × Int × Int) :=
  if wI x1 = wI 0 then
    (mb_X9_isRoom_33 F x1 c_at c_token c_place c_value c_word c_bad c_badPlace)
  else
    (if wI c_bad = wI 0 then
    (bnd5 (m_X9_next F c_taped c_at c_tape) fun o1 o2 o3 o4 o5 => mb_X9_isRoom_33 F x1 o1 o2 o3 o4 o5 c_bad c_badPlace)
  else
    (mb_X9_isRoom_33 F x1 c_at c_token c_place c_value c_word c_bad c_badPlace))
def m_X9_isRoom (F : Nat) (x1 : Int) (x2 : Int) (x3 : Int) (c_taped : Int) (c_at : Int) (c_token : Int) (c_place : Int) (c_value : Int) (c_word : Int) (c_bad : Int) (c_badPlace : Int) (c_has : Int → Int) (c_tape : Int → Int) : Option (Int × Int × Int × Int × Int × Int × Int × Int) :=
  if wI x1 = wI 0 then
    (mb_X9_isRoom_18 F x1 c_taped c_at c_token c_place c_value c_word c_bad c_badPlace c_tape)
  else
    (bnd1 (m_X9_hasRead F x2 c_has) fun r1 => if wI r1 = wI x3 then
    (bnd2 (m_X9_fails F 3 c_place c_bad c_badPlace) fun o3 o4 => mb_X9_isRoom_18 F x1 c_taped c_at c_token c_place c_value c_word o3 o4 c_tape)
  else
    (mb_X9_isRoom_18 F x1 c_taped c_at c_token c_place c_value c_word c_bad c_badPlace c_tape))
section S_X9_isRoom
variable {E : EE} {a_t a_t_has a_t_tape : Nat} {g_t_0 : Value} {g_t_1 : Value} {g_t_2 : Value} {g_t_3 : Value} {g_t_4 : Value} {g_t_14 : Value} {g_t_15 : Value} {g_t_16 : Value} {g_t_18 : Value} {g_t_19 : Value} {g_t_20 : Value} {g_t_21 : Value} {g_t_22 : Value} {g_t_23 : Value} {g_t_24 : Value} {g_t_25 : Value} {g_t_26 : Value} {g_t_27 : Value} {g_t_28 : Value} {g_t_29 : Value} {g_t_30 : Value} {g_t_31 : Value} {g_t_32 : Value} {g_t_33 : Value} {g_t_34 : Value} {g_t_35 : Value} {g_t_36 : Value} {g_t_37 : Value} {g_t_38 : Value} {g_t_39 : Value} {g_t_40 : Value} {g_t_41 : Value} {g_t_42 : Value} {g_t_43 : Value}
set_option maxRecDepth 100000 in
set_option maxHeartbeats 4000000 in
theorem wb_X9_isRoom_33 {F : Nat} {v : Int × Int × Int × Int × Int × Int × Int × Int} {x1 : Int} {c_at : Int} {c_token : Int} {c_place : Int} {c_value : Int} {c_word : Int} {c_bad : Int} {c_badPlace : Int} {c_taped : Int} {c_has : Int → Int} {c_tape : Int → Int} (C : Cx E cX9_isRoom RX9 { frames := 2, cells := 0, slots := 0, locals := 44 }) (hN : eN E = 4) (h : mb_X9_isRoom_33 F x1 c_at c_token c_place c_value c_word c_bad c_badPlace = some v) (hret : ∀ (pc : Nat) (L : List (Option Value)), narrow .boolean (.int (wI (v.1))) = .int (wI (v.1)) → decode cX9_isRoom pc = .ok (.ireturn, 1) → GG E 0 0 (W_X9_isRoom (eCy E) a_t a_t_has a_t_tape g_t_0 g_t_1 g_t_2 g_t_3 g_t_4 g_t_14 g_t_15 g_t_16 g_t_18 g_t_19 g_t_20 g_t_21 g_t_22 g_t_23 g_t_24 g_t_25 g_t_26 g_t_27 g_t_28 g_t_29 g_t_30 g_t_31 g_t_32 g_t_33 g_t_34 g_t_35 g_t_36 g_t_37 g_t_38 g_t_39 g_t_40 g_t_41 g_t_42 g_t_43 c_taped (v.2.1) (v.2.2.1) (v.2.2.2.1) (v.2.2.2.2.1) (v.2.2.2.2.2.1) (v.2.2.2.2.2.2.1) (v.2.2.2.2.2.2.2) c_has c_tape) L pc [.int (wI (v.1))]) : GG E 0 0 (W_X9_isRoom (eCy E) a_t a_t_has a_t_tape g_t_0 g_t_1 g_t_2 g_t_3 g_t_4 g_t_14 g_t_15 g_t_16 g_t_18 g_t_19 g_t_20 g_t_21 g_t_22 g_t_23 g_t_24 g_t_25 g_t_26 g_t_27 g_t_28 g_t_29 g_t_30 g_t_31 g_t_32 g_t_33 g_t_34 g_t_35 g_t_36 g_t_37 g_t_38 g_t_39 g_t_40 g_t_41 g_t_42 g_t_43 c_taped c_at c_token c_place c_value c_word c_bad c_badPlace c_has c_tape) [some (.ref a_t), some (.int (wI x1)), none, none] 33 [] := by
  unfold mb_X9_isRoom_33 at h
  refine g_iload_n 1 C dX9_isRoom_33 rfl rfl ?_
  refine g_if_eq 48 C dX9_isRoom_34 (by decide) h (fun h => ?_) (fun h => ?_)
  · refine g_iconst C dX9_isRoom_48 ?_
    cases h
    exact hret 49 _ bn0 dX9_isRoom_49
  · refine g_aload_n 0 C dX9_isRoom_37 rfl rfl ?_
    refine g_get C fg_X9_123 0 rfl rfl dX9_isRoom_38 ?_
    refine g_st (st' := [.int (wI c_bad)]) rfl ?_
    refine g_if_ne 48 C dX9_isRoom_41 (by decide) h (fun h => ?_) (fun h => ?_)
    · refine g_iconst C dX9_isRoom_48 ?_
      cases h
      exact hret 49 _ bn0 dX9_isRoom_49
    · refine g_iconst C dX9_isRoom_44 ?_
      refine g_goto (tgt := 49) C dX9_isRoom_45 (by decide) ?_
      cases h
      exact hret 49 _ bn1 dX9_isRoom_49
set_option maxRecDepth 100000 in
set_option maxHeartbeats 4000000 in
theorem wb_X9_isRoom_18 {F : Nat} {v : Int × Int × Int × Int × Int × Int × Int × Int} {x1 : Int} {c_taped : Int} {c_at : Int} {c_token : Int} {c_place : Int} {c_value : Int} {c_word : Int} {c_bad : Int} {c_badPlace : Int} {c_tape : Int → Int} {c_has : Int → Int} (C : Cx E cX9_isRoom RX9 { frames := 2, cells := 0, slots := 0, locals := 44 }) (hN : eN E = 4) (h : mb_X9_isRoom_18 F x1 c_taped c_at c_token c_place c_value c_word c_bad c_badPlace c_tape = some v) (hret : ∀ (pc : Nat) (L : List (Option Value)), narrow .boolean (.int (wI (v.1))) = .int (wI (v.1)) → decode cX9_isRoom pc = .ok (.ireturn, 1) → GG E 0 0 (W_X9_isRoom (eCy E) a_t a_t_has a_t_tape g_t_0 g_t_1 g_t_2 g_t_3 g_t_4 g_t_14 g_t_15 g_t_16 g_t_18 g_t_19 g_t_20 g_t_21 g_t_22 g_t_23 g_t_24 g_t_25 g_t_26 g_t_27 g_t_28 g_t_29 g_t_30 g_t_31 g_t_32 g_t_33 g_t_34 g_t_35 g_t_36 g_t_37 g_t_38 g_t_39 g_t_40 g_t_41 g_t_42 g_t_43 c_taped (v.2.1) (v.2.2.1) (v.2.2.2.1) (v.2.2.2.2.1) (v.2.2.2.2.2.1) (v.2.2.2.2.2.2.1) (v.2.2.2.2.2.2.2) c_has c_tape) L pc [.int (wI (v.1))]) : GG E 0 0 (W_X9_isRoom (eCy E) a_t a_t_has a_t_tape g_t_0 g_t_1 g_t_2 g_t_3 g_t_4 g_t_14 g_t_15 g_t_16 g_t_18 g_t_19 g_t_20 g_t_21 g_t_22 g_t_23 g_t_24 g_t_25 g_t_26 g_t_27 g_t_28 g_t_29 g_t_30 g_t_31 g_t_32 g_t_33 g_t_34 g_t_35 g_t_36 g_t_37 g_t_38 g_t_39 g_t_40 g_t_41 g_t_42 g_t_43 c_taped c_at c_token c_place c_value c_word c_bad c_badPlace c_has c_tape) [some (.ref a_t), some (.int (wI x1)), none, none] 18 [] := by
  unfold mb_X9_isRoom_18 at h
  refine g_iload_n 1 C dX9_isRoom_18 rfl rfl ?_
  refine g_if_eq 33 C dX9_isRoom_19 (by decide) h (fun h => ?_) (fun h => ?_)
  · exact wb_X9_isRoom_33 C hN h hret
  · refine g_aload_n 0 C dX9_isRoom_22 rfl rfl ?_
    refine g_get C fg_X9_123 0 rfl rfl dX9_isRoom_23 ?_
    refine g_st (st' := [.int (wI c_bad)]) rfl ?_
    refine g_if_ne 33 C dX9_isRoom_26 (by decide) h (fun h => ?_) (fun h => ?_)
    · exact wb_X9_isRoom_33 C hN h hret
    · refine g_aload_n 0 C dX9_isRoom_29 rfl rfl ?_
      obtain ⟨o1, o2, o3, o4, o5, hr6, h⟩ := bnd5_some h
      refine g_callV [0, 2] [1] [1, 0, 2] C mt_X9_133 (c_X9_next _ _ _ _ a_t a_t_tape (g_t_0) (g_t_1) (g_t_2) (g_t_3) (g_t_4) (.int (wI c_bad)) (.int (wI c_badPlace)) (g_t_14) (g_t_15) (g_t_16) (.ref a_t_has) (g_t_18) (g_t_19) (g_t_20) (g_t_21) (g_t_22) (g_t_23) (g_t_24) (g_t_25) (g_t_26) (g_t_27) (g_t_28) (g_t_29) (g_t_30) (g_t_31) (g_t_32) (g_t_33) (g_t_34) (g_t_35) (g_t_36) (g_t_37) (g_t_38) (g_t_39) (g_t_40) (g_t_41) (g_t_42) (g_t_43) c_taped c_at c_token c_place c_value c_word c_tape F hr6) (q0 := 0) rfl (ci := 9) rfl rfl rfl (ws2 := (W_X9_isRoom (eCy E) a_t a_t_has a_t_tape g_t_0 g_t_1 g_t_2 g_t_3 g_t_4 g_t_14 g_t_15 g_t_16 g_t_18 g_t_19 g_t_20 g_t_21 g_t_22 g_t_23 g_t_24 g_t_25 g_t_26 g_t_27 g_t_28 g_t_29 g_t_30 g_t_31 g_t_32 g_t_33 g_t_34 g_t_35 g_t_36 g_t_37 g_t_38 g_t_39 g_t_40 g_t_41 g_t_42 g_t_43 c_taped o1 o2 o3 o4 o5 c_bad c_badPlace c_has c_tape)) rfl rfl rfl (rest := []) rfl rfl rfl dX9_isRoom_30 ?_
      exact wb_X9_isRoom_33 C hN h hret
set_option maxRecDepth 100000 in
set_option maxHeartbeats 4000000 in
theorem wm_X9_isRoom {F : Nat} {v : Int × Int × Int × Int × Int × Int × Int × Int} {x1 : Int} {x2 : Int} {x3 : Int} {c_taped : Int} {c_at : Int} {c_token : Int} {c_place : Int} {c_value : Int} {c_word : Int} {c_bad : Int} {c_badPlace : Int} {c_has : Int → Int} {c_tape : Int → Int} (C : Cx E cX9_isRoom RX9 { frames := 2, cells := 0, slots := 0, locals := 44 }) (hN : eN E = 4) (h : m_X9_isRoom F x1 x2 x3 c_taped c_at c_token c_place c_value c_word c_bad c_badPlace c_has c_tape = some v) (hret : ∀ (pc : Nat) (L : List (Option Value)), narrow .boolean (.int (wI (v.1))) = .int (wI (v.1)) → decode cX9_isRoom pc = .ok (.ireturn, 1) → GG E 0 0 (W_X9_isRoom (eCy E) a_t a_t_has a_t_tape g_t_0 g_t_1 g_t_2 g_t_3 g_t_4 g_t_14 g_t_15 g_t_16 g_t_18 g_t_19 g_t_20 g_t_21 g_t_22 g_t_23 g_t_24 g_t_25 g_t_26 g_t_27 g_t_28 g_t_29 g_t_30 g_t_31 g_t_32 g_t_33 g_t_34 g_t_35 g_t_36 g_t_37 g_t_38 g_t_39 g_t_40 g_t_41 g_t_42 g_t_43 c_taped (v.2.1) (v.2.2.1) (v.2.2.2.1) (v.2.2.2.2.1) (v.2.2.2.2.2.1) (v.2.2.2.2.2.2.1) (v.2.2.2.2.2.2.2) c_has c_tape) L pc [.int (wI (v.1))]) : GG E 0 0 (W_X9_isRoom (eCy E) a_t a_t_has a_t_tape g_t_0 g_t_1 g_t_2 g_t_3 g_t_4 g_t_14 g_t_15 g_t_16 g_t_18 g_t_19 g_t_20 g_t_21 g_t_22 g_t_23 g_t_24 g_t_25 g_t_26 g_t_27 g_t_28 g_t_29 g_t_30 g_t_31 g_t_32 g_t_33 g_t_34 g_t_35 g_t_36 g_t_37 g_t_38 g_t_39 g_t_40 g_t_41 g_t_42 g_t_43 c_taped c_at c_token c_place c_value c_word c_bad c_badPlace c_has c_tape) [some (.ref a_t), some (.int (wI x1)), some (.int (wI x2)), some (.int (wI x3))] 0 [] := by
  unfold m_X9_isRoom at h
  refine g_iload_n 1 C dX9_isRoom_0 rfl rfl ?_
  refine g_if_eq 18 C dX9_isRoom_1 (by decide) h (fun h => ?_) (fun h => ?_)
  · refine g_mask [true, true, false, false] (L' := [some (.ref a_t), some (.int (wI x1)), none, none]) rfl ?_
    exact wb_X9_isRoom_18 C hN h hret
  · refine g_aload_n 0 C dX9_isRoom_4 rfl rfl ?_
    refine g_iload_n 2 C dX9_isRoom_5 rfl rfl ?_
    obtain ⟨r1, hr2, h⟩ := bnd1_some h
    refine g_callI [0, 1] [2] [1, 2, 0] C mt_X9_153 (c_X9_hasRead _ _ _ _ a_t a_t_has (g_t_0) (g_t_1) (g_t_2) (g_t_3) (g_t_4) (.ref a_t_tape) (.int (wI c_taped)) (.int (wI c_at)) (.int (wI c_token)) (.int (wI c_place)) (.int (wI c_value)) (.long (wJ c_word)) (.int (wI c_bad)) (.int (wI c_badPlace)) (g_t_14) (g_t_15) (g_t_16) (g_t_18) (g_t_19) (g_t_20) (g_t_21) (g_t_22) (g_t_23) (g_t_24) (g_t_25) (g_t_26) (g_t_27) (g_t_28) (g_t_29) (g_t_30) (g_t_31) (g_t_32) (g_t_33) (g_t_34) (g_t_35) (g_t_36) (g_t_37) (g_t_38) (g_t_39) (g_t_40) (g_t_41) (g_t_42) (g_t_43) x2 c_has F hr2) (q0 := 0) rfl (ci := 9) rfl rfl rfl (ws2 := (W_X9_isRoom (eCy E) a_t a_t_has a_t_tape g_t_0 g_t_1 g_t_2 g_t_3 g_t_4 g_t_14 g_t_15 g_t_16 g_t_18 g_t_19 g_t_20 g_t_21 g_t_22 g_t_23 g_t_24 g_t_25 g_t_26 g_t_27 g_t_28 g_t_29 g_t_30 g_t_31 g_t_32 g_t_33 g_t_34 g_t_35 g_t_36 g_t_37 g_t_38 g_t_39 g_t_40 g_t_41 g_t_42 g_t_43 c_taped c_at c_token c_place c_value c_word c_bad c_badPlace c_has c_tape)) rfl rfl rfl (rest := []) rfl rfl rfl dX9_isRoom_6 ?_
    refine g_iload_n 3 C dX9_isRoom_9 rfl rfl ?_
    refine g_icmp_ne 18 C dX9_isRoom_10 (by decide) h (fun h => ?_) (fun h => ?_)
    · refine g_mask [true, true, false, false] (L' := [some (.ref a_t), some (.int (wI x1)), none, none]) rfl ?_
      exact wb_X9_isRoom_18 C hN h hret
    · refine g_aload_n 0 C dX9_isRoom_13 rfl rfl ?_
      refine g_iconst C dX9_isRoom_14 ?_
      obtain ⟨o3, o4, hr5, h⟩ := bnd2_some h
      refine g_callV [0] [1, 2] [2, 0, 1] C mt_X9_139 (c_X9_fails _ _ _ _ a_t (g_t_0) (g_t_1) (g_t_2) (g_t_3) (g_t_4) (.ref a_t_tape) (.int (wI c_taped)) (.int (wI c_at)) (.int (wI c_token)) (.int (wI c_value)) (.long (wJ c_word)) (g_t_14) (g_t_15) (g_t_16) (.ref a_t_has) (g_t_18) (g_t_19) (g_t_20) (g_t_21) (g_t_22) (g_t_23) (g_t_24) (g_t_25) (g_t_26) (g_t_27) (g_t_28) (g_t_29) (g_t_30) (g_t_31) (g_t_32) (g_t_33) (g_t_34) (g_t_35) (g_t_36) (g_t_37) (g_t_38) (g_t_39) (g_t_40) (g_t_41) (g_t_42) (g_t_43) 3 c_place c_bad c_badPlace F hr5) (q0 := 0) rfl (ci := 9) rfl rfl rfl (ws2 := (W_X9_isRoom (eCy E) a_t a_t_has a_t_tape g_t_0 g_t_1 g_t_2 g_t_3 g_t_4 g_t_14 g_t_15 g_t_16 g_t_18 g_t_19 g_t_20 g_t_21 g_t_22 g_t_23 g_t_24 g_t_25 g_t_26 g_t_27 g_t_28 g_t_29 g_t_30 g_t_31 g_t_32 g_t_33 g_t_34 g_t_35 g_t_36 g_t_37 g_t_38 g_t_39 g_t_40 g_t_41 g_t_42 g_t_43 c_taped c_at c_token c_place c_value c_word o3 o4 c_has c_tape)) rfl rfl rfl (rest := []) rfl rfl rfl dX9_isRoom_15 ?_
      refine g_mask [true, true, false, false] (L' := [some (.ref a_t), some (.int (wI x1)), none, none]) rfl ?_
      exact wb_X9_isRoom_18 C hN h hret
end S_X9_isRoom
set_option maxRecDepth 100000 in
set_option maxHeartbeats 4000000 in
theorem c_X9_isRoom (l : Launch) (D : va_G) (cy : Nat → ClassId) (ad : AD) (a_t a_t_has a_t_tape : Nat) (g_t_0 : Value) (g_t_1 : Value) (g_t_2 : Value) (g_t_3 : Value) (g_t_4 : Value) (g_t_14 : Value) (g_t_15 : Value) (g_t_16 : Value) (g_t_18 : Value) (g_t_19 : Value) (g_t_20 : Value) (g_t_21 : Value) (g_t_22 : Value) (g_t_23 : Value) (g_t_24 : Value) (g_t_25 : Value) (g_t_26 : Value) (g_t_27 : Value) (g_t_28 : Value) (g_t_29 : Value) (g_t_30 : Value) (g_t_31 : Value) (g_t_32 : Value) (g_t_33 : Value) (g_t_34 : Value) (g_t_35 : Value) (g_t_36 : Value) (g_t_37 : Value) (g_t_38 : Value) (g_t_39 : Value) (g_t_40 : Value) (g_t_41 : Value) (g_t_42 : Value) (g_t_43 : Value) (x1 : Int) (x2 : Int) (x3 : Int) (c_taped : Int) (c_at : Int) (c_token : Int) (c_place : Int) (c_value : Int) (c_word : Int) (c_bad : Int) (c_badPlace : Int) (c_has : Int → Int) (c_tape : Int → Int) (F : Nat) {v : Int × Int × Int × Int × Int × Int × Int × Int} (h : m_X9_isRoom F x1 x2 x3 c_taped c_at c_token c_place c_value c_word c_bad c_badPlace c_has c_tape = some v) : Ct l yX9_isRoom cX9_isRoom 4 (some .boolean) { frames := 2, cells := 0, slots := 0, locals := 44 } D cy ad [.ref a_t, .int (wI x1), .int (wI x2), .int (wI x3)] (W_X9_isRoom cy a_t a_t_has a_t_tape g_t_0 g_t_1 g_t_2 g_t_3 g_t_4 g_t_14 g_t_15 g_t_16 g_t_18 g_t_19 g_t_20 g_t_21 g_t_22 g_t_23 g_t_24 g_t_25 g_t_26 g_t_27 g_t_28 g_t_29 g_t_30 g_t_31 g_t_32 g_t_33 g_t_34 g_t_35 g_t_36 g_t_37 g_t_38 g_t_39 g_t_40 g_t_41 g_t_42 g_t_43 c_taped c_at c_token c_place c_value c_word c_bad c_badPlace c_has c_tape) (W_X9_isRoom cy a_t a_t_has a_t_tape g_t_0 g_t_1 g_t_2 g_t_3 g_t_4 g_t_14 g_t_15 g_t_16 g_t_18 g_t_19 g_t_20 g_t_21 g_t_22 g_t_23 g_t_24 g_t_25 g_t_26 g_t_27 g_t_28 g_t_29 g_t_30 g_t_31 g_t_32 g_t_33 g_t_34 g_t_35 g_t_36 g_t_37 g_t_38 g_t_39 g_t_40 g_t_41 g_t_42 g_t_43 c_taped (v.2.1) (v.2.2.1) (v.2.2.2.1) (v.2.2.2.2.1) (v.2.2.2.2.2.1) (v.2.2.2.2.2.2.1) (v.2.2.2.2.2.2.2) c_has c_tape) (some (.int (wI (v.1)))) := by
  refine Ct.introZ (j := 0) (plainFor_of_name (by decide)) rfl rfl (fun E C e1 e2 e3 e4 e5 hret => ?_)
  subst e1; subst e2; subst e3; subst e4
  exact wm_X9_isRoom C e5 h hret
-- MovingStairModel.valueHere()I
def W_X9_valueHere (cy : Nat → ClassId) (a_t a_t_tape : Nat) (g_t_0 : Value) (g_t_1 : Value) (g_t_2 : Value) (g_t_3 : Value) (g_t_4 : Value) (g_t_14 : Value) (g_t_15 : Value) (g_t_16 : Value) (g_t_17 : Value) (g_t_18 : Value) (g_t_19 : Value) (g_t_20 : Value) (g_t_21 : Value) (g_t_22 : Value) (g_t_23 : Value) (g_t_24 : Value) (g_t_25 : Value) (g_t_26 : Value) (g_t_27 : Value) (g_t_28 : Value) (g_t_29 : Value) (g_t_30 : Value) (g_t_31 : Value) (g_t_32 : Value) (g_t_33 : Value) (g_t_34 : Value) (g_t_35 : Value) (g_t_36 : Value) (g_t_37 : Value) (g_t_38 : Value) (g_t_39 : Value) (g_t_40 : Value) (g_t_41 : Value) (g_t_42 : Value) (g_t_43 : Value) (c_taped : Int) (c_at : Int) (c_token : Int) (c_place : Int) (c_value : Int) (c_word : Int) (c_bad : Int) (c_badPlace : Int) (c_tape : Int → Int) : va_W := [(a_t, .inr (9, [g_t_0, g_t_1, g_t_2, g_t_3, g_t_4, .ref a_t_tape, .int (wI c_taped), .int (wI c_at), .int (wI c_token), .int (wI c_place), .int (wI c_value), .long (wJ c_word), .int (wI c_bad), .int (wI c_badPlace), g_t_14, g_t_15, g_t_16, g_t_17, g_t_18, g_t_19, g_t_20, g_t_21, g_t_22, g_t_23, g_t_24, g_t_25, g_t_26, g_t_27, g_t_28, g_t_29, g_t_30, g_t_31, g_t_32, g_t_33, g_t_34, g_t_35, g_t_36, g_t_37, g_t_38, g_t_39, g_t_40, g_t_41, g_t_42, g_t_43])), (a_t_tape, .inl (cy 0, 900, .inl (aI c_tape)))]
def m_X9_valueHere (F : Nat) (c_taped : Int) (c_at : Int) (c_token : Int) (c_place : Int) (c_value : Int) (c_word : Int) (c_bad : Int) (c_badPlace : Int) (c_tape : Int → Int) : Option (Int × Int × Int × Int × Int × Int × Int × Int) :=
  bnd8 (m_X9_number F 1 9999 c_taped c_at c_token c_place c_value c_word c_bad c_badPlace c_tape) fun r1 o2 o3 o4 o5 o6 o7 o8 => some (r1, o2, o3, o4, o5, o6, o7, o8)
section S_X9_valueHere
variable {E : EE} {a_t a_t_tape : Nat} {g_t_0 : Value} {g_t_1 : Value} {g_t_2 : Value} {g_t_3 : Value} {g_t_4 : Value} {g_t_14 : Value} {g_t_15 : Value} {g_t_16 : Value} {g_t_17 : Value} {g_t_18 : Value} {g_t_19 : Value} {g_t_20 : Value} {g_t_21 : Value} {g_t_22 : Value} {g_t_23 : Value} {g_t_24 : Value} {g_t_25 : Value} {g_t_26 : Value} {g_t_27 : Value} {g_t_28 : Value} {g_t_29 : Value} {g_t_30 : Value} {g_t_31 : Value} {g_t_32 : Value} {g_t_33 : Value} {g_t_34 : Value} {g_t_35 : Value} {g_t_36 : Value} {g_t_37 : Value} {g_t_38 : Value} {g_t_39 : Value} {g_t_40 : Value} {g_t_41 : Value} {g_t_42 : Value} {g_t_43 : Value}
set_option maxRecDepth 100000 in
set_option maxHeartbeats 4000000 in
theorem wm_X9_valueHere {F : Nat} {v : Int × Int × Int × Int × Int × Int × Int × Int} {c_taped : Int} {c_at : Int} {c_token : Int} {c_place : Int} {c_value : Int} {c_word : Int} {c_bad : Int} {c_badPlace : Int} {c_tape : Int → Int} (C : Cx E cX9_valueHere RX9 { frames := 3, cells := 0, slots := 0, locals := 67 }) (hN : eN E = 1) (h : m_X9_valueHere F c_taped c_at c_token c_place c_value c_word c_bad c_badPlace c_tape = some v) (hret : ∀ (pc : Nat) (L : List (Option Value)), decode cX9_valueHere pc = .ok (.ireturn, 1) → GG E 0 0 (W_X9_valueHere (eCy E) a_t a_t_tape g_t_0 g_t_1 g_t_2 g_t_3 g_t_4 g_t_14 g_t_15 g_t_16 g_t_17 g_t_18 g_t_19 g_t_20 g_t_21 g_t_22 g_t_23 g_t_24 g_t_25 g_t_26 g_t_27 g_t_28 g_t_29 g_t_30 g_t_31 g_t_32 g_t_33 g_t_34 g_t_35 g_t_36 g_t_37 g_t_38 g_t_39 g_t_40 g_t_41 g_t_42 g_t_43 c_taped (v.2.1) (v.2.2.1) (v.2.2.2.1) (v.2.2.2.2.1) (v.2.2.2.2.2.1) (v.2.2.2.2.2.2.1) (v.2.2.2.2.2.2.2) c_tape) L pc [.int (wI (v.1))]) : GG E 0 0 (W_X9_valueHere (eCy E) a_t a_t_tape g_t_0 g_t_1 g_t_2 g_t_3 g_t_4 g_t_14 g_t_15 g_t_16 g_t_17 g_t_18 g_t_19 g_t_20 g_t_21 g_t_22 g_t_23 g_t_24 g_t_25 g_t_26 g_t_27 g_t_28 g_t_29 g_t_30 g_t_31 g_t_32 g_t_33 g_t_34 g_t_35 g_t_36 g_t_37 g_t_38 g_t_39 g_t_40 g_t_41 g_t_42 g_t_43 c_taped c_at c_token c_place c_value c_word c_bad c_badPlace c_tape) [some (.ref a_t)] 0 [] := by
  unfold m_X9_valueHere at h
  refine g_aload_n 0 C dX9_valueHere_0 rfl rfl ?_
  refine g_iconst C dX9_valueHere_1 ?_
  refine g_sipush C dX9_valueHere_2 (by decide) ?_
  obtain ⟨r1, o2, o3, o4, o5, o6, o7, o8, hr9, h⟩ := bnd8_some h
  refine g_callI [0, 1] [] [0, 1] C mt_X9_146 (c_X9_number _ _ _ _ a_t a_t_tape (g_t_0) (g_t_1) (g_t_2) (g_t_3) (g_t_4) (g_t_14) (g_t_15) (g_t_16) (g_t_17) (g_t_18) (g_t_19) (g_t_20) (g_t_21) (g_t_22) (g_t_23) (g_t_24) (g_t_25) (g_t_26) (g_t_27) (g_t_28) (g_t_29) (g_t_30) (g_t_31) (g_t_32) (g_t_33) (g_t_34) (g_t_35) (g_t_36) (g_t_37) (g_t_38) (g_t_39) (g_t_40) (g_t_41) (g_t_42) (g_t_43) 1 9999 c_taped c_at c_token c_place c_value c_word c_bad c_badPlace c_tape F hr9) (q0 := 0) rfl (ci := 9) rfl rfl rfl (ws2 := (W_X9_valueHere (eCy E) a_t a_t_tape g_t_0 g_t_1 g_t_2 g_t_3 g_t_4 g_t_14 g_t_15 g_t_16 g_t_17 g_t_18 g_t_19 g_t_20 g_t_21 g_t_22 g_t_23 g_t_24 g_t_25 g_t_26 g_t_27 g_t_28 g_t_29 g_t_30 g_t_31 g_t_32 g_t_33 g_t_34 g_t_35 g_t_36 g_t_37 g_t_38 g_t_39 g_t_40 g_t_41 g_t_42 g_t_43 c_taped o2 o3 o4 o5 o6 o7 o8 c_tape)) rfl rfl rfl (rest := []) rfl rfl rfl dX9_valueHere_5 ?_
  cases h
  exact hret 8 _ dX9_valueHere_8
end S_X9_valueHere
set_option maxRecDepth 100000 in
set_option maxHeartbeats 4000000 in
theorem c_X9_valueHere (l : Launch) (D : va_G) (cy : Nat → ClassId) (ad : AD) (a_t a_t_tape : Nat) (g_t_0 : Value) (g_t_1 : Value) (g_t_2 : Value) (g_t_3 : Value) (g_t_4 : Value) (g_t_14 : Value) (g_t_15 : Value) (g_t_16 : Value) (g_t_17 : Value) (g_t_18 : Value) (g_t_19 : Value) (g_t_20 : Value) (g_t_21 : Value) (g_t_22 : Value) (g_t_23 : Value) (g_t_24 : Value) (g_t_25 : Value) (g_t_26 : Value) (g_t_27 : Value) (g_t_28 : Value) (g_t_29 : Value) (g_t_30 : Value) (g_t_31 : Value) (g_t_32 : Value) (g_t_33 : Value) (g_t_34 : Value) (g_t_35 : Value) (g_t_36 : Value) (g_t_37 : Value) (g_t_38 : Value) (g_t_39 : Value) (g_t_40 : Value) (g_t_41 : Value) (g_t_42 : Value) (g_t_43 : Value) (c_taped : Int) (c_at : Int) (c_token : Int) (c_place : Int) (c_value : Int) (c_word : Int) (c_bad : Int) (c_badPlace : Int) (c_tape : Int → Int) (F : Nat) {v : Int × Int × Int × Int × Int × Int × Int × Int} (h : m_X9_valueHere F c_taped c_at c_token c_place c_value c_word c_bad c_badPlace c_tape = some v) : Ct l yX9_valueHere cX9_valueHere 1 (some .int) { frames := 3, cells := 0, slots := 0, locals := 67 } D cy ad [.ref a_t] (W_X9_valueHere cy a_t a_t_tape g_t_0 g_t_1 g_t_2 g_t_3 g_t_4 g_t_14 g_t_15 g_t_16 g_t_17 g_t_18 g_t_19 g_t_20 g_t_21 g_t_22 g_t_23 g_t_24 g_t_25 g_t_26 g_t_27 g_t_28 g_t_29 g_t_30 g_t_31 g_t_32 g_t_33 g_t_34 g_t_35 g_t_36 g_t_37 g_t_38 g_t_39 g_t_40 g_t_41 g_t_42 g_t_43 c_taped c_at c_token c_place c_value c_word c_bad c_badPlace c_tape) (W_X9_valueHere cy a_t a_t_tape g_t_0 g_t_1 g_t_2 g_t_3 g_t_4 g_t_14 g_t_15 g_t_16 g_t_17 g_t_18 g_t_19 g_t_20 g_t_21 g_t_22 g_t_23 g_t_24 g_t_25 g_t_26 g_t_27 g_t_28 g_t_29 g_t_30 g_t_31 g_t_32 g_t_33 g_t_34 g_t_35 g_t_36 g_t_37 g_t_38 g_t_39 g_t_40 g_t_41 g_t_42 g_t_43 c_taped (v.2.1) (v.2.2.1) (v.2.2.2.1) (v.2.2.2.2.1) (v.2.2.2.2.2.1) (v.2.2.2.2.2.2.1) (v.2.2.2.2.2.2.2) c_tape) (some (.int (wI (v.1)))) := by
  refine Ct.introI (j := 0) (plainFor_of_name (by decide)) rfl rfl (fun E C e1 e2 e3 e4 e5 hret => ?_)
  subst e1; subst e2; subst e3; subst e4
  exact wm_X9_valueHere C e5 h hret
-- MovingStairModel.line()V
def W_X9_line (cy : Nat → ClassId) (a_t a_t_band a_t_has a_t_pace a_t_part a_t_tape : Nat) (g_t_0 : Value) (g_t_1 : Value) (g_t_2 : Value) (g_t_3 : Value) (g_t_4 : Value) (g_t_14 : Value) (g_t_15 : Value) (g_t_16 : Value) (g_t_21 : Value) (g_t_22 : Value) (g_t_23 : Value) (g_t_24 : Value) (g_t_25 : Value) (g_t_26 : Value) (g_t_27 : Value) (g_t_28 : Value) (g_t_29 : Value) (g_t_30 : Value) (g_t_31 : Value) (g_t_32 : Value) (g_t_33 : Value) (g_t_34 : Value) (g_t_35 : Value) (g_t_36 : Value) (g_t_37 : Value) (g_t_38 : Value) (g_t_39 : Value) (g_t_40 : Value) (g_t_41 : Value) (g_t_42 : Value) (g_t_43 : Value) (c_taped : Int) (c_at : Int) (c_token : Int) (c_place : Int) (c_value : Int) (c_word : Int) (c_bad : Int) (c_badPlace : Int) (c_band : Int → Int) (c_has : Int → Int) (c_pace : Int → Int) (c_part : Int → Int) (c_tape : Int → Int) : va_W := [(a_t, .inr (9, [g_t_0, g_t_1, g_t_2, g_t_3, g_t_4, .ref a_t_tape, .int (wI c_taped), .int (wI c_at), .int (wI c_token), .int (wI c_place), .int (wI c_value), .long (wJ c_word), .int (wI c_bad), .int (wI c_badPlace), g_t_14, g_t_15, g_t_16, .ref a_t_has, .ref a_t_part, .ref a_t_pace, .ref a_t_band, g_t_21, g_t_22, g_t_23, g_t_24, g_t_25, g_t_26, g_t_27, g_t_28, g_t_29, g_t_30, g_t_31, g_t_32, g_t_33, g_t_34, g_t_35, g_t_36, g_t_37, g_t_38, g_t_39, g_t_40, g_t_41, g_t_42, g_t_43])), (a_t_band, .inl (cy 1, 20, .inl (aI c_band))), (a_t_has, .inl (cy 1, 45, .inl (aI c_has))), (a_t_pace, .inl (cy 1, 40, .inl (aI c_pace))), (a_t_part, .inl (cy 1, 40, .inl (aI c_part))), (a_t_tape, .inl (cy 0, 900, .inl (aI c_tape)))]
def mb_X9_line_140 (F : Nat) (c_taped : Int) (c_at : Int) (c_token : Int) (c_place : Int) (c_value : Int) (c_word : Int) (c_bad : Int) (c_badPlace : Int) (c_band : Int → Int) (c_has : Int → Int) (c_pace : Int → Int) (c_part : Int → Int) (c_tape : Int → Int) : Option (Int × Int × Int × Int × Int × Int × Int × (Int → Int) × (Int → Int) × (Int → Int) × (Int → Int)) :=
  if wI c_bad = wI 0 then
    (bnd7 (m_X9_asks F 10277596 c_taped c_at c_token c_place c_value c_word c_bad c_badPlace c_tape) fun o1 o2 o3 o4 o5 o6 o7 => bnd8 (m_X9_number_ F 10492150 1 9 c_taped o1 o2 o3 o4 o5 o6 o7 c_tape) fun r9 o10 o11 o12 o13 o14 o15 o16 => bnd8 (m_X9_number_ F 453773 1 9 c_taped o10 o11 o12 o13 o14 o15 o16 c_tape) fun r18 o19 o20 o21 o22 o23 o24 o25 => bnd8 (m_X9_number_ F 315743 1 30 c_taped o19 o20 o21 o22 o23 o24 o25 c_tape) fun r27 o28 o29 o30 o31 o32 o33 o34 => bnd8 (m_X9_number_ F 12534025 0 100 c_taped o28 o29 o30 o31 o32 o33 o34 c_tape) fun r36 o37 o38 o39 o40 o41 o42 o43 => bnd1 (m_X9_isGood F o42) fun r45 => if wI r45 = wI 0 then
    (some (o37, o38, o39, o40, o41, o42, o43, c_band, c_has, c_pace, c_part))
  else
    (bnd1 (m_X9_tells F 4 r9 c_has) fun o47 => bnd1 (m_X9_tells F 5 r18 o47) fun o49 => bnd1 (m_X9_tells F 6 r27 o49) fun o51 => bnd1 (m_X9_tells F 7 r36 o51) fun o53 => some (o37, o38, o39, o40, o41, o42, o43, c_band, o53, c_pace, c_part)))
  else
    (some (c_at, c_token, c_place, c_value, c_word, c_bad, c_badPlace, c_band, c_has, c_pace, c_part))
def mb_X9_line_85 (F : Nat) (c_taped : Int) (c_at : Int) (c_token : Int) (c_place : Int) (c_value : Int) (c_word : Int) (c_bad : Int) (c_badPlace : Int) (c_band : Int → Int) (c_has : Int → Int) (c_pace : Int → Int) (c_part : Int → Int) (c_tape : Int → Int) : Option (Int × Int × Int × Int × Int × Int × Int × (Int → Int) × (Int → Int) × (Int → Int) × (Int → Int)) :=
  if wI c_bad = wI 0 then
    (bnd1 (m_X9_is F 40477 c_token c_word c_bad) fun r1 => bnd8 (m_X9_isRoom F r1 3 4 c_taped c_at c_token c_place c_value c_word c_bad c_badPlace c_has c_tape) fun r3 o4 o5 o6 o7 o8 o9 o10 => if wI r3 = wI 0 then
    (mb_X9_line_140 F c_taped o4 o5 o6 o7 o8 o9 o10 c_band c_has c_pace c_part c_tape)
  else
    (bnd1 (m_X9_hasRead F 3 c_has) fun r12 => bnd8 (m_X9_valueHere F c_taped o4 o5 o6 o7 o8 o9 o10 c_tape) fun r14 o15 o16 o17 o18 o19 o20 o21 => chk (0 ≤ (16 + r12) ∧ (16 + r12) < 20) <| bnd1 (m_X9_hasRead F 3 c_has) fun r24 => bnd1 (m_X9_tells F 3 (r24 + 1) c_has) fun o26 => some (o15, o16, o17, o18, o19, o20, o21, up c_band (16 + r12) r14, o26, c_pace, c_part)))
  else
    (mb_X9_line_140 F c_taped c_at c_token c_place c_value c_word c_bad c_badPlace c_band c_has c_pace c_part c_tape)
def m_X9_line (F : Nat) (c_taped : Int) (c_at : Int) (c_token : Int) (c_place : Int) (c_value : Int) (c_word : Int) (c_bad : Int) (c_badPlace : Int) (c_band : Int → Int) (c_has : Int → Int) (c_pace : Int → Int) (c_part : Int → Int) (c_tape : Int → Int) : Option (Int × Int × Int × Int × Int × Int × Int × (Int → Int) × (Int → Int) × (Int → Int) × (Int → Int)) :=
  bnd1 (m_X9_is F 316163 c_token c_word c_bad) fun r1 => bnd8 (m_X9_isRoom F r1 1 4 c_taped c_at c_token c_place c_value c_word c_bad c_badPlace c_has c_tape) fun r3 o4 o5 o6 o7 o8 o9 o10 => if wI r3 = wI 0 then
    (if wI o9 = wI 0 then
    (bnd1 (m_X9_is F 330800670 o5 o8 o9) fun r12 => bnd8 (m_X9_isRoom F r12 2 8 c_taped o4 o5 o6 o7 o8 o9 o10 c_has c_tape) fun r14 o15 o16 o17 o18 o19 o20 o21 => if wI r14 = wI 0 then
    (mb_X9_line_85 F c_taped o15 o16 o17 o18 o19 o20 o21 c_band c_has c_pace c_part c_tape)
  else
    (bnd1 (m_X9_hasRead F 2 c_has) fun r23 => bnd8 (m_X9_number_ F 315743 0 30 c_taped o15 o16 o17 o18 o19 o20 o21 c_tape) fun r25 o26 o27 o28 o29 o30 o31 o32 => chk (0 ≤ (32 + r23) ∧ (32 + r23) < 40) <| bnd1 (m_X9_hasRead F 2 c_has) fun r35 => bnd1 (m_X9_tells F 2 (r35 + 1) c_has) fun o37 => some (o26, o27, o28, o29, o30, o31, o32, c_band, o37, up c_pace (32 + r23) r25, c_part)))
  else
    (mb_X9_line_85 F c_taped o4 o5 o6 o7 o8 o9 o10 c_band c_has c_pace c_part c_tape))
  else
    (bnd9 (m_X9_partLine F c_taped o4 o5 o6 o7 o8 o9 o10 c_has c_part c_tape) fun o12 o13 o14 o15 o16 o17 o18 o19 o20 => some (o12, o13, o14, o15, o16, o17, o18, c_band, o19, c_pace, o20))
section S_X9_line
variable {E : EE} {a_t a_t_band a_t_has a_t_pace a_t_part a_t_tape : Nat} {g_t_0 : Value} {g_t_1 : Value} {g_t_2 : Value} {g_t_3 : Value} {g_t_4 : Value} {g_t_14 : Value} {g_t_15 : Value} {g_t_16 : Value} {g_t_21 : Value} {g_t_22 : Value} {g_t_23 : Value} {g_t_24 : Value} {g_t_25 : Value} {g_t_26 : Value} {g_t_27 : Value} {g_t_28 : Value} {g_t_29 : Value} {g_t_30 : Value} {g_t_31 : Value} {g_t_32 : Value} {g_t_33 : Value} {g_t_34 : Value} {g_t_35 : Value} {g_t_36 : Value} {g_t_37 : Value} {g_t_38 : Value} {g_t_39 : Value} {g_t_40 : Value} {g_t_41 : Value} {g_t_42 : Value} {g_t_43 : Value}
set_option maxRecDepth 100000 in
set_option maxHeartbeats 4000000 in
theorem wb_X9_line_140 {F : Nat} {v : Int × Int × Int × Int × Int × Int × Int × (Int → Int) × (Int → Int) × (Int → Int) × (Int → Int)} {c_taped : Int} {c_at : Int} {c_token : Int} {c_place : Int} {c_value : Int} {c_word : Int} {c_bad : Int} {c_badPlace : Int} {c_band : Int → Int} {c_has : Int → Int} {c_pace : Int → Int} {c_part : Int → Int} {c_tape : Int → Int} (C : Cx E cX9_line RX9 { frames := 6, cells := 0, slots := 0, locals := 134 }) (hN : eN E = 5) (h : mb_X9_line_140 F c_taped c_at c_token c_place c_value c_word c_bad c_badPlace c_band c_has c_pace c_part c_tape = some v) (hret : ∀ (pc : Nat) (L : List (Option Value)), decode cX9_line pc = .ok (.return_, 1) → GG E 0 0 (W_X9_line (eCy E) a_t a_t_band a_t_has a_t_pace a_t_part a_t_tape g_t_0 g_t_1 g_t_2 g_t_3 g_t_4 g_t_14 g_t_15 g_t_16 g_t_21 g_t_22 g_t_23 g_t_24 g_t_25 g_t_26 g_t_27 g_t_28 g_t_29 g_t_30 g_t_31 g_t_32 g_t_33 g_t_34 g_t_35 g_t_36 g_t_37 g_t_38 g_t_39 g_t_40 g_t_41 g_t_42 g_t_43 c_taped (v.1) (v.2.1) (v.2.2.1) (v.2.2.2.1) (v.2.2.2.2.1) (v.2.2.2.2.2.1) (v.2.2.2.2.2.2.1) (v.2.2.2.2.2.2.2.1) (v.2.2.2.2.2.2.2.2.1) (v.2.2.2.2.2.2.2.2.2.1) (v.2.2.2.2.2.2.2.2.2.2) c_tape) L pc []) : GG E 0 0 (W_X9_line (eCy E) a_t a_t_band a_t_has a_t_pace a_t_part a_t_tape g_t_0 g_t_1 g_t_2 g_t_3 g_t_4 g_t_14 g_t_15 g_t_16 g_t_21 g_t_22 g_t_23 g_t_24 g_t_25 g_t_26 g_t_27 g_t_28 g_t_29 g_t_30 g_t_31 g_t_32 g_t_33 g_t_34 g_t_35 g_t_36 g_t_37 g_t_38 g_t_39 g_t_40 g_t_41 g_t_42 g_t_43 c_taped c_at c_token c_place c_value c_word c_bad c_badPlace c_band c_has c_pace c_part c_tape) [some (.ref a_t), none, none, none, none] 140 [] := by
  unfold mb_X9_line_140 at h
  refine g_aload_n 0 C dX9_line_140 rfl rfl ?_
  refine g_get C fg_X9_123 0 rfl rfl dX9_line_141 ?_
  refine g_st (st' := [.int (wI c_bad)]) rfl ?_
  refine g_if_ne 234 C dX9_line_144 (by decide) h (fun h => ?_) (fun h => ?_)
  · cases h
    exact hret 234 _ dX9_line_234
  · refine g_aload_n 0 C dX9_line_147 rfl rfl ?_
    refine g_ldc2 (v := 10277596) C mc_X9_189 dX9_line_148 ?_
    obtain ⟨o1, o2, o3, o4, o5, o6, o7, hr8, h⟩ := bnd7_some h
    refine g_callV [0, 5] [1, 2, 3, 4] [4, 0, 1, 2, 3, 5] C mt_X9_142 (c_X9_asks _ _ _ _ a_t a_t_tape (g_t_0) (g_t_1) (g_t_2) (g_t_3) (g_t_4) (g_t_14) (g_t_15) (g_t_16) (.ref a_t_has) (.ref a_t_part) (.ref a_t_pace) (.ref a_t_band) (g_t_21) (g_t_22) (g_t_23) (g_t_24) (g_t_25) (g_t_26) (g_t_27) (g_t_28) (g_t_29) (g_t_30) (g_t_31) (g_t_32) (g_t_33) (g_t_34) (g_t_35) (g_t_36) (g_t_37) (g_t_38) (g_t_39) (g_t_40) (g_t_41) (g_t_42) (g_t_43) 10277596 c_taped c_at c_token c_place c_value c_word c_bad c_badPlace c_tape F hr8) (q0 := 0) rfl (ci := 9) rfl rfl rfl (ws2 := (W_X9_line (eCy E) a_t a_t_band a_t_has a_t_pace a_t_part a_t_tape g_t_0 g_t_1 g_t_2 g_t_3 g_t_4 g_t_14 g_t_15 g_t_16 g_t_21 g_t_22 g_t_23 g_t_24 g_t_25 g_t_26 g_t_27 g_t_28 g_t_29 g_t_30 g_t_31 g_t_32 g_t_33 g_t_34 g_t_35 g_t_36 g_t_37 g_t_38 g_t_39 g_t_40 g_t_41 g_t_42 g_t_43 c_taped o1 o2 o3 o4 o5 o6 o7 c_band c_has c_pace c_part c_tape)) rfl rfl rfl (rest := []) rfl rfl rfl dX9_line_151 ?_
    refine g_aload_n 0 C dX9_line_154 rfl rfl ?_
    refine g_ldc2 (v := 10492150) C mc_X9_191 dX9_line_155 ?_
    refine g_iconst C dX9_line_158 ?_
    refine g_bipush C dX9_line_159 (by decide) ?_
    obtain ⟨r9, o10, o11, o12, o13, o14, o15, o16, hr17, h⟩ := bnd8_some h
    refine g_callI [0, 5] [1, 2, 3, 4] [4, 0, 1, 2, 3, 5] C mt_X9_159 (c_X9_number_ _ _ _ _ a_t a_t_tape (g_t_0) (g_t_1) (g_t_2) (g_t_3) (g_t_4) (g_t_14) (g_t_15) (g_t_16) (.ref a_t_has) (.ref a_t_part) (.ref a_t_pace) (.ref a_t_band) (g_t_21) (g_t_22) (g_t_23) (g_t_24) (g_t_25) (g_t_26) (g_t_27) (g_t_28) (g_t_29) (g_t_30) (g_t_31) (g_t_32) (g_t_33) (g_t_34) (g_t_35) (g_t_36) (g_t_37) (g_t_38) (g_t_39) (g_t_40) (g_t_41) (g_t_42) (g_t_43) 10492150 1 9 c_taped o1 o2 o3 o4 o5 o6 o7 c_tape F hr17) (q0 := 0) rfl (ci := 9) rfl rfl rfl (ws2 := (W_X9_line (eCy E) a_t a_t_band a_t_has a_t_pace a_t_part a_t_tape g_t_0 g_t_1 g_t_2 g_t_3 g_t_4 g_t_14 g_t_15 g_t_16 g_t_21 g_t_22 g_t_23 g_t_24 g_t_25 g_t_26 g_t_27 g_t_28 g_t_29 g_t_30 g_t_31 g_t_32 g_t_33 g_t_34 g_t_35 g_t_36 g_t_37 g_t_38 g_t_39 g_t_40 g_t_41 g_t_42 g_t_43 c_taped o10 o11 o12 o13 o14 o15 o16 c_band c_has c_pace c_part c_tape)) rfl rfl rfl (rest := []) rfl rfl rfl dX9_line_161 ?_
    refine g_istore_n 1 C hN dX9_line_164 rfl rfl (L' := [some (.ref a_t), some (.int (wI r9)), none, none, none]) rfl ?_
    refine g_aload_n 0 C dX9_line_165 rfl rfl ?_
    refine g_ldc2 (v := 453773) C mc_X9_193 dX9_line_166 ?_
    refine g_iconst C dX9_line_169 ?_
    refine g_bipush C dX9_line_170 (by decide) ?_
    obtain ⟨r18, o19, o20, o21, o22, o23, o24, o25, hr26, h⟩ := bnd8_some h
    refine g_callI [0, 5] [1, 2, 3, 4] [4, 0, 1, 2, 3, 5] C mt_X9_159 (c_X9_number_ _ _ _ _ a_t a_t_tape (g_t_0) (g_t_1) (g_t_2) (g_t_3) (g_t_4) (g_t_14) (g_t_15) (g_t_16) (.ref a_t_has) (.ref a_t_part) (.ref a_t_pace) (.ref a_t_band) (g_t_21) (g_t_22) (g_t_23) (g_t_24) (g_t_25) (g_t_26) (g_t_27) (g_t_28) (g_t_29) (g_t_30) (g_t_31) (g_t_32) (g_t_33) (g_t_34) (g_t_35) (g_t_36) (g_t_37) (g_t_38) (g_t_39) (g_t_40) (g_t_41) (g_t_42) (g_t_43) 453773 1 9 c_taped o10 o11 o12 o13 o14 o15 o16 c_tape F hr26) (q0 := 0) rfl (ci := 9) rfl rfl rfl (ws2 := (W_X9_line (eCy E) a_t a_t_band a_t_has a_t_pace a_t_part a_t_tape g_t_0 g_t_1 g_t_2 g_t_3 g_t_4 g_t_14 g_t_15 g_t_16 g_t_21 g_t_22 g_t_23 g_t_24 g_t_25 g_t_26 g_t_27 g_t_28 g_t_29 g_t_30 g_t_31 g_t_32 g_t_33 g_t_34 g_t_35 g_t_36 g_t_37 g_t_38 g_t_39 g_t_40 g_t_41 g_t_42 g_t_43 c_taped o19 o20 o21 o22 o23 o24 o25 c_band c_has c_pace c_part c_tape)) rfl rfl rfl (rest := []) rfl rfl rfl dX9_line_172 ?_
    refine g_istore_n 2 C hN dX9_line_175 rfl rfl (L' := [some (.ref a_t), some (.int (wI r9)), some (.int (wI r18)), none, none]) rfl ?_
    refine g_aload_n 0 C dX9_line_176 rfl rfl ?_
    refine g_ldc2 (v := 315743) C mc_X9_181 dX9_line_177 ?_
    refine g_iconst C dX9_line_180 ?_
    refine g_bipush C dX9_line_181 (by decide) ?_
    obtain ⟨r27, o28, o29, o30, o31, o32, o33, o34, hr35, h⟩ := bnd8_some h
    refine g_callI [0, 5] [1, 2, 3, 4] [4, 0, 1, 2, 3, 5] C mt_X9_159 (c_X9_number_ _ _ _ _ a_t a_t_tape (g_t_0) (g_t_1) (g_t_2) (g_t_3) (g_t_4) (g_t_14) (g_t_15) (g_t_16) (.ref a_t_has) (.ref a_t_part) (.ref a_t_pace) (.ref a_t_band) (g_t_21) (g_t_22) (g_t_23) (g_t_24) (g_t_25) (g_t_26) (g_t_27) (g_t_28) (g_t_29) (g_t_30) (g_t_31) (g_t_32) (g_t_33) (g_t_34) (g_t_35) (g_t_36) (g_t_37) (g_t_38) (g_t_39) (g_t_40) (g_t_41) (g_t_42) (g_t_43) 315743 1 30 c_taped o19 o20 o21 o22 o23 o24 o25 c_tape F hr35) (q0 := 0) rfl (ci := 9) rfl rfl rfl (ws2 := (W_X9_line (eCy E) a_t a_t_band a_t_has a_t_pace a_t_part a_t_tape g_t_0 g_t_1 g_t_2 g_t_3 g_t_4 g_t_14 g_t_15 g_t_16 g_t_21 g_t_22 g_t_23 g_t_24 g_t_25 g_t_26 g_t_27 g_t_28 g_t_29 g_t_30 g_t_31 g_t_32 g_t_33 g_t_34 g_t_35 g_t_36 g_t_37 g_t_38 g_t_39 g_t_40 g_t_41 g_t_42 g_t_43 c_taped o28 o29 o30 o31 o32 o33 o34 c_band c_has c_pace c_part c_tape)) rfl rfl rfl (rest := []) rfl rfl rfl dX9_line_183 ?_
    refine g_istore_n 3 C hN dX9_line_186 rfl rfl (L' := [some (.ref a_t), some (.int (wI r9)), some (.int (wI r18)), some (.int (wI r27)), none]) rfl ?_
    refine g_aload_n 0 C dX9_line_187 rfl rfl ?_
    refine g_ldc2 (v := 12534025) C mc_X9_195 dX9_line_188 ?_
    refine g_iconst C dX9_line_191 ?_
    refine g_bipush C dX9_line_192 (by decide) ?_
    obtain ⟨r36, o37, o38, o39, o40, o41, o42, o43, hr44, h⟩ := bnd8_some h
    refine g_callI [0, 5] [1, 2, 3, 4] [4, 0, 1, 2, 3, 5] C mt_X9_159 (c_X9_number_ _ _ _ _ a_t a_t_tape (g_t_0) (g_t_1) (g_t_2) (g_t_3) (g_t_4) (g_t_14) (g_t_15) (g_t_16) (.ref a_t_has) (.ref a_t_part) (.ref a_t_pace) (.ref a_t_band) (g_t_21) (g_t_22) (g_t_23) (g_t_24) (g_t_25) (g_t_26) (g_t_27) (g_t_28) (g_t_29) (g_t_30) (g_t_31) (g_t_32) (g_t_33) (g_t_34) (g_t_35) (g_t_36) (g_t_37) (g_t_38) (g_t_39) (g_t_40) (g_t_41) (g_t_42) (g_t_43) 12534025 0 100 c_taped o28 o29 o30 o31 o32 o33 o34 c_tape F hr44) (q0 := 0) rfl (ci := 9) rfl rfl rfl (ws2 := (W_X9_line (eCy E) a_t a_t_band a_t_has a_t_pace a_t_part a_t_tape g_t_0 g_t_1 g_t_2 g_t_3 g_t_4 g_t_14 g_t_15 g_t_16 g_t_21 g_t_22 g_t_23 g_t_24 g_t_25 g_t_26 g_t_27 g_t_28 g_t_29 g_t_30 g_t_31 g_t_32 g_t_33 g_t_34 g_t_35 g_t_36 g_t_37 g_t_38 g_t_39 g_t_40 g_t_41 g_t_42 g_t_43 c_taped o37 o38 o39 o40 o41 o42 o43 c_band c_has c_pace c_part c_tape)) rfl rfl rfl (rest := []) rfl rfl rfl dX9_line_194 ?_
    refine g_istore C hN dX9_line_197 rfl (L' := [some (.ref a_t), some (.int (wI r9)), some (.int (wI r18)), some (.int (wI r27)), some (.int (wI r36))]) rfl ?_
    refine g_aload_n 0 C dX9_line_199 rfl rfl ?_
    obtain ⟨r45, hr46, h⟩ := bnd1_some h
    refine g_callI [0] [1, 2, 3, 4, 5] [5, 0, 1, 2, 3, 4] C mt_X9_197 (c_X9_isGood _ _ _ _ a_t (g_t_0) (g_t_1) (g_t_2) (g_t_3) (g_t_4) (.ref a_t_tape) (.int (wI c_taped)) (.int (wI o37)) (.int (wI o38)) (.int (wI o39)) (.int (wI o40)) (.long (wJ o41)) (.int (wI o43)) (g_t_14) (g_t_15) (g_t_16) (.ref a_t_has) (.ref a_t_part) (.ref a_t_pace) (.ref a_t_band) (g_t_21) (g_t_22) (g_t_23) (g_t_24) (g_t_25) (g_t_26) (g_t_27) (g_t_28) (g_t_29) (g_t_30) (g_t_31) (g_t_32) (g_t_33) (g_t_34) (g_t_35) (g_t_36) (g_t_37) (g_t_38) (g_t_39) (g_t_40) (g_t_41) (g_t_42) (g_t_43) o42 F hr46) (q0 := 0) rfl (ci := 9) rfl rfl rfl (ws2 := (W_X9_line (eCy E) a_t a_t_band a_t_has a_t_pace a_t_part a_t_tape g_t_0 g_t_1 g_t_2 g_t_3 g_t_4 g_t_14 g_t_15 g_t_16 g_t_21 g_t_22 g_t_23 g_t_24 g_t_25 g_t_26 g_t_27 g_t_28 g_t_29 g_t_30 g_t_31 g_t_32 g_t_33 g_t_34 g_t_35 g_t_36 g_t_37 g_t_38 g_t_39 g_t_40 g_t_41 g_t_42 g_t_43 c_taped o37 o38 o39 o40 o41 o42 o43 c_band c_has c_pace c_part c_tape)) rfl rfl rfl (rest := []) rfl rfl rfl dX9_line_200 ?_
    refine g_if_ne 207 C dX9_line_203 (by decide) h (fun h => ?_) (fun h => ?_)
    · refine g_aload_n 0 C dX9_line_207 rfl rfl ?_
      refine g_iconst C dX9_line_208 ?_
      refine g_iload_n 1 C dX9_line_209 rfl rfl ?_
      obtain ⟨o47, hr48, h⟩ := bnd1_some h
      refine g_callV [0, 2] [1, 3, 4, 5] [4, 0, 5, 1, 2, 3] C mt_X9_166 (c_X9_tells _ _ _ _ a_t a_t_has (g_t_0) (g_t_1) (g_t_2) (g_t_3) (g_t_4) (.ref a_t_tape) (.int (wI c_taped)) (.int (wI o37)) (.int (wI o38)) (.int (wI o39)) (.int (wI o40)) (.long (wJ o41)) (.int (wI o42)) (.int (wI o43)) (g_t_14) (g_t_15) (g_t_16) (.ref a_t_part) (.ref a_t_pace) (.ref a_t_band) (g_t_21) (g_t_22) (g_t_23) (g_t_24) (g_t_25) (g_t_26) (g_t_27) (g_t_28) (g_t_29) (g_t_30) (g_t_31) (g_t_32) (g_t_33) (g_t_34) (g_t_35) (g_t_36) (g_t_37) (g_t_38) (g_t_39) (g_t_40) (g_t_41) (g_t_42) (g_t_43) 4 r9 c_has F hr48) (q0 := 0) rfl (ci := 9) rfl rfl rfl (ws2 := (W_X9_line (eCy E) a_t a_t_band a_t_has a_t_pace a_t_part a_t_tape g_t_0 g_t_1 g_t_2 g_t_3 g_t_4 g_t_14 g_t_15 g_t_16 g_t_21 g_t_22 g_t_23 g_t_24 g_t_25 g_t_26 g_t_27 g_t_28 g_t_29 g_t_30 g_t_31 g_t_32 g_t_33 g_t_34 g_t_35 g_t_36 g_t_37 g_t_38 g_t_39 g_t_40 g_t_41 g_t_42 g_t_43 c_taped o37 o38 o39 o40 o41 o42 o43 c_band o47 c_pace c_part c_tape)) rfl rfl rfl (rest := []) rfl rfl rfl dX9_line_210 ?_
      refine g_aload_n 0 C dX9_line_213 rfl rfl ?_
      refine g_iconst C dX9_line_214 ?_
      refine g_iload_n 2 C dX9_line_215 rfl rfl ?_
      obtain ⟨o49, hr50, h⟩ := bnd1_some h
      refine g_callV [0, 2] [1, 3, 4, 5] [4, 0, 5, 1, 2, 3] C mt_X9_166 (c_X9_tells _ _ _ _ a_t a_t_has (g_t_0) (g_t_1) (g_t_2) (g_t_3) (g_t_4) (.ref a_t_tape) (.int (wI c_taped)) (.int (wI o37)) (.int (wI o38)) (.int (wI o39)) (.int (wI o40)) (.long (wJ o41)) (.int (wI o42)) (.int (wI o43)) (g_t_14) (g_t_15) (g_t_16) (.ref a_t_part) (.ref a_t_pace) (.ref a_t_band) (g_t_21) (g_t_22) (g_t_23) (g_t_24) (g_t_25) (g_t_26) (g_t_27) (g_t_28) (g_t_29) (g_t_30) (g_t_31) (g_t_32) (g_t_33) (g_t_34) (g_t_35) (g_t_36) (g_t_37) (g_t_38) (g_t_39) (g_t_40) (g_t_41) (g_t_42) (g_t_43) 5 r18 o47 F hr50) (q0 := 0) rfl (ci := 9) rfl rfl rfl (ws2 := (W_X9_line (eCy E) a_t a_t_band a_t_has a_t_pace a_t_part a_t_tape g_t_0 g_t_1 g_t_2 g_t_3 g_t_4 g_t_14 g_t_15 g_t_16 g_t_21 g_t_22 g_t_23 g_t_24 g_t_25 g_t_26 g_t_27 g_t_28 g_t_29 g_t_30 g_t_31 g_t_32 g_t_33 g_t_34 g_t_35 g_t_36 g_t_37 g_t_38 g_t_39 g_t_40 g_t_41 g_t_42 g_t_43 c_taped o37 o38 o39 o40 o41 o42 o43 c_band o49 c_pace c_part c_tape)) rfl rfl rfl (rest := []) rfl rfl rfl dX9_line_216 ?_
      refine g_aload_n 0 C dX9_line_219 rfl rfl ?_
      refine g_bipush C dX9_line_220 (by decide) ?_
      refine g_iload_n 3 C dX9_line_222 rfl rfl ?_
      obtain ⟨o51, hr52, h⟩ := bnd1_some h
      refine g_callV [0, 2] [1, 3, 4, 5] [4, 0, 5, 1, 2, 3] C mt_X9_166 (c_X9_tells _ _ _ _ a_t a_t_has (g_t_0) (g_t_1) (g_t_2) (g_t_3) (g_t_4) (.ref a_t_tape) (.int (wI c_taped)) (.int (wI o37)) (.int (wI o38)) (.int (wI o39)) (.int (wI o40)) (.long (wJ o41)) (.int (wI o42)) (.int (wI o43)) (g_t_14) (g_t_15) (g_t_16) (.ref a_t_part) (.ref a_t_pace) (.ref a_t_band) (g_t_21) (g_t_22) (g_t_23) (g_t_24) (g_t_25) (g_t_26) (g_t_27) (g_t_28) (g_t_29) (g_t_30) (g_t_31) (g_t_32) (g_t_33) (g_t_34) (g_t_35) (g_t_36) (g_t_37) (g_t_38) (g_t_39) (g_t_40) (g_t_41) (g_t_42) (g_t_43) 6 r27 o49 F hr52) (q0 := 0) rfl (ci := 9) rfl rfl rfl (ws2 := (W_X9_line (eCy E) a_t a_t_band a_t_has a_t_pace a_t_part a_t_tape g_t_0 g_t_1 g_t_2 g_t_3 g_t_4 g_t_14 g_t_15 g_t_16 g_t_21 g_t_22 g_t_23 g_t_24 g_t_25 g_t_26 g_t_27 g_t_28 g_t_29 g_t_30 g_t_31 g_t_32 g_t_33 g_t_34 g_t_35 g_t_36 g_t_37 g_t_38 g_t_39 g_t_40 g_t_41 g_t_42 g_t_43 c_taped o37 o38 o39 o40 o41 o42 o43 c_band o51 c_pace c_part c_tape)) rfl rfl rfl (rest := []) rfl rfl rfl dX9_line_223 ?_
      refine g_aload_n 0 C dX9_line_226 rfl rfl ?_
      refine g_bipush C dX9_line_227 (by decide) ?_
      refine g_iload C dX9_line_229 rfl ?_
      obtain ⟨o53, hr54, h⟩ := bnd1_some h
      refine g_callV [0, 2] [1, 3, 4, 5] [4, 0, 5, 1, 2, 3] C mt_X9_166 (c_X9_tells _ _ _ _ a_t a_t_has (g_t_0) (g_t_1) (g_t_2) (g_t_3) (g_t_4) (.ref a_t_tape) (.int (wI c_taped)) (.int (wI o37)) (.int (wI o38)) (.int (wI o39)) (.int (wI o40)) (.long (wJ o41)) (.int (wI o42)) (.int (wI o43)) (g_t_14) (g_t_15) (g_t_16) (.ref a_t_part) (.ref a_t_pace) (.ref a_t_band) (g_t_21) (g_t_22) (g_t_23) (g_t_24) (g_t_25) (g_t_26) (g_t_27) (g_t_28) (g_t_29) (g_t_30) (g_t_31) (g_t_32) (g_t_33) (g_t_34) (g_t_35) (g_t_36) (g_t_37) (g_t_38) (g_t_39) (g_t_40) (g_t_41) (g_t_42) (g_t_43) 7 r36 o51 F hr54) (q0 := 0) rfl (ci := 9) rfl rfl rfl (ws2 := (W_X9_line (eCy E) a_t a_t_band a_t_has a_t_pace a_t_part a_t_tape g_t_0 g_t_1 g_t_2 g_t_3 g_t_4 g_t_14 g_t_15 g_t_16 g_t_21 g_t_22 g_t_23 g_t_24 g_t_25 g_t_26 g_t_27 g_t_28 g_t_29 g_t_30 g_t_31 g_t_32 g_t_33 g_t_34 g_t_35 g_t_36 g_t_37 g_t_38 g_t_39 g_t_40 g_t_41 g_t_42 g_t_43 c_taped o37 o38 o39 o40 o41 o42 o43 c_band o53 c_pace c_part c_tape)) rfl rfl rfl (rest := []) rfl rfl rfl dX9_line_231 ?_
      cases h
      exact hret 234 _ dX9_line_234
    · cases h
      exact hret 206 _ dX9_line_206
set_option maxRecDepth 100000 in
set_option maxHeartbeats 4000000 in
theorem wb_X9_line_85 {F : Nat} {v : Int × Int × Int × Int × Int × Int × Int × (Int → Int) × (Int → Int) × (Int → Int) × (Int → Int)} {c_taped : Int} {c_at : Int} {c_token : Int} {c_place : Int} {c_value : Int} {c_word : Int} {c_bad : Int} {c_badPlace : Int} {c_band : Int → Int} {c_has : Int → Int} {c_pace : Int → Int} {c_part : Int → Int} {c_tape : Int → Int} (C : Cx E cX9_line RX9 { frames := 6, cells := 0, slots := 0, locals := 134 }) (hN : eN E = 5) (h : mb_X9_line_85 F c_taped c_at c_token c_place c_value c_word c_bad c_badPlace c_band c_has c_pace c_part c_tape = some v) (hret : ∀ (pc : Nat) (L : List (Option Value)), decode cX9_line pc = .ok (.return_, 1) → GG E 0 0 (W_X9_line (eCy E) a_t a_t_band a_t_has a_t_pace a_t_part a_t_tape g_t_0 g_t_1 g_t_2 g_t_3 g_t_4 g_t_14 g_t_15 g_t_16 g_t_21 g_t_22 g_t_23 g_t_24 g_t_25 g_t_26 g_t_27 g_t_28 g_t_29 g_t_30 g_t_31 g_t_32 g_t_33 g_t_34 g_t_35 g_t_36 g_t_37 g_t_38 g_t_39 g_t_40 g_t_41 g_t_42 g_t_43 c_taped (v.1) (v.2.1) (v.2.2.1) (v.2.2.2.1) (v.2.2.2.2.1) (v.2.2.2.2.2.1) (v.2.2.2.2.2.2.1) (v.2.2.2.2.2.2.2.1) (v.2.2.2.2.2.2.2.2.1) (v.2.2.2.2.2.2.2.2.2.1) (v.2.2.2.2.2.2.2.2.2.2) c_tape) L pc []) : GG E 0 0 (W_X9_line (eCy E) a_t a_t_band a_t_has a_t_pace a_t_part a_t_tape g_t_0 g_t_1 g_t_2 g_t_3 g_t_4 g_t_14 g_t_15 g_t_16 g_t_21 g_t_22 g_t_23 g_t_24 g_t_25 g_t_26 g_t_27 g_t_28 g_t_29 g_t_30 g_t_31 g_t_32 g_t_33 g_t_34 g_t_35 g_t_36 g_t_37 g_t_38 g_t_39 g_t_40 g_t_41 g_t_42 g_t_43 c_taped c_at c_token c_place c_value c_word c_bad c_badPlace c_band c_has c_pace c_part c_tape) [some (.ref a_t), none, none, none, none] 85 [] := by
  unfold mb_X9_line_85 at h
  refine g_aload_n 0 C dX9_line_85 rfl rfl ?_
  refine g_get C fg_X9_123 0 rfl rfl dX9_line_86 ?_
  refine g_st (st' := [.int (wI c_bad)]) rfl ?_
  refine g_if_ne 140 C dX9_line_89 (by decide) h (fun h => ?_) (fun h => ?_)
  · exact wb_X9_line_140 C hN h hret
  · refine g_aload_n 0 C dX9_line_92 rfl rfl ?_
    refine g_aload_n 0 C dX9_line_93 rfl rfl ?_
    refine g_ldc2 (v := 40477) C mc_X9_183 dX9_line_94 ?_
    obtain ⟨r1, hr2, h⟩ := bnd1_some h
    refine g_callI [0] [1, 2, 3, 4, 5] [5, 0, 1, 2, 3, 4] C mt_X9_129 (c_X9_is _ _ _ _ a_t (g_t_0) (g_t_1) (g_t_2) (g_t_3) (g_t_4) (.ref a_t_tape) (.int (wI c_taped)) (.int (wI c_at)) (.int (wI c_place)) (.int (wI c_value)) (.int (wI c_badPlace)) (g_t_14) (g_t_15) (g_t_16) (.ref a_t_has) (.ref a_t_part) (.ref a_t_pace) (.ref a_t_band) (g_t_21) (g_t_22) (g_t_23) (g_t_24) (g_t_25) (g_t_26) (g_t_27) (g_t_28) (g_t_29) (g_t_30) (g_t_31) (g_t_32) (g_t_33) (g_t_34) (g_t_35) (g_t_36) (g_t_37) (g_t_38) (g_t_39) (g_t_40) (g_t_41) (g_t_42) (g_t_43) 40477 c_token c_word c_bad F hr2) (q0 := 0) rfl (ci := 9) rfl rfl rfl (ws2 := (W_X9_line (eCy E) a_t a_t_band a_t_has a_t_pace a_t_part a_t_tape g_t_0 g_t_1 g_t_2 g_t_3 g_t_4 g_t_14 g_t_15 g_t_16 g_t_21 g_t_22 g_t_23 g_t_24 g_t_25 g_t_26 g_t_27 g_t_28 g_t_29 g_t_30 g_t_31 g_t_32 g_t_33 g_t_34 g_t_35 g_t_36 g_t_37 g_t_38 g_t_39 g_t_40 g_t_41 g_t_42 g_t_43 c_taped c_at c_token c_place c_value c_word c_bad c_badPlace c_band c_has c_pace c_part c_tape)) rfl rfl rfl (rest := [.ref a_t]) rfl rfl rfl dX9_line_97 ?_
    refine g_iconst C dX9_line_100 ?_
    refine g_iconst C dX9_line_101 ?_
    obtain ⟨r3, o4, o5, o6, o7, o8, o9, o10, hr11, h⟩ := bnd8_some h
    refine g_callI [0, 2, 5] [1, 3, 4] [3, 0, 4, 1, 2, 5] C mt_X9_172 (c_X9_isRoom _ _ _ _ a_t a_t_has a_t_tape (g_t_0) (g_t_1) (g_t_2) (g_t_3) (g_t_4) (g_t_14) (g_t_15) (g_t_16) (.ref a_t_part) (.ref a_t_pace) (.ref a_t_band) (g_t_21) (g_t_22) (g_t_23) (g_t_24) (g_t_25) (g_t_26) (g_t_27) (g_t_28) (g_t_29) (g_t_30) (g_t_31) (g_t_32) (g_t_33) (g_t_34) (g_t_35) (g_t_36) (g_t_37) (g_t_38) (g_t_39) (g_t_40) (g_t_41) (g_t_42) (g_t_43) r1 3 4 c_taped c_at c_token c_place c_value c_word c_bad c_badPlace c_has c_tape F hr11) (q0 := 0) rfl (ci := 9) rfl rfl rfl (ws2 := (W_X9_line (eCy E) a_t a_t_band a_t_has a_t_pace a_t_part a_t_tape g_t_0 g_t_1 g_t_2 g_t_3 g_t_4 g_t_14 g_t_15 g_t_16 g_t_21 g_t_22 g_t_23 g_t_24 g_t_25 g_t_26 g_t_27 g_t_28 g_t_29 g_t_30 g_t_31 g_t_32 g_t_33 g_t_34 g_t_35 g_t_36 g_t_37 g_t_38 g_t_39 g_t_40 g_t_41 g_t_42 g_t_43 c_taped o4 o5 o6 o7 o8 o9 o10 c_band c_has c_pace c_part c_tape)) rfl rfl rfl (rest := []) rfl rfl rfl dX9_line_102 ?_
    refine g_if_eq 140 C dX9_line_105 (by decide) h (fun h => ?_) (fun h => ?_)
    · exact wb_X9_line_140 C hN h hret
    · refine g_aload_n 0 C dX9_line_108 rfl rfl ?_
      refine g_get C fg_X9_43 0 rfl rfl dX9_line_109 ?_
      refine g_bipush C dX9_line_112 (by decide) ?_
      refine g_aload_n 0 C dX9_line_114 rfl rfl ?_
      refine g_iconst C dX9_line_115 ?_
      obtain ⟨r12, hr13, h⟩ := bnd1_some h
      refine g_callI [0, 2] [1, 3, 4, 5] [4, 0, 5, 1, 2, 3] C mt_X9_153 (c_X9_hasRead _ _ _ _ a_t a_t_has (g_t_0) (g_t_1) (g_t_2) (g_t_3) (g_t_4) (.ref a_t_tape) (.int (wI c_taped)) (.int (wI o4)) (.int (wI o5)) (.int (wI o6)) (.int (wI o7)) (.long (wJ o8)) (.int (wI o9)) (.int (wI o10)) (g_t_14) (g_t_15) (g_t_16) (.ref a_t_part) (.ref a_t_pace) (.ref a_t_band) (g_t_21) (g_t_22) (g_t_23) (g_t_24) (g_t_25) (g_t_26) (g_t_27) (g_t_28) (g_t_29) (g_t_30) (g_t_31) (g_t_32) (g_t_33) (g_t_34) (g_t_35) (g_t_36) (g_t_37) (g_t_38) (g_t_39) (g_t_40) (g_t_41) (g_t_42) (g_t_43) 3 c_has F hr13) (q0 := 0) rfl (ci := 9) rfl rfl rfl (ws2 := (W_X9_line (eCy E) a_t a_t_band a_t_has a_t_pace a_t_part a_t_tape g_t_0 g_t_1 g_t_2 g_t_3 g_t_4 g_t_14 g_t_15 g_t_16 g_t_21 g_t_22 g_t_23 g_t_24 g_t_25 g_t_26 g_t_27 g_t_28 g_t_29 g_t_30 g_t_31 g_t_32 g_t_33 g_t_34 g_t_35 g_t_36 g_t_37 g_t_38 g_t_39 g_t_40 g_t_41 g_t_42 g_t_43 c_taped o4 o5 o6 o7 o8 o9 o10 c_band c_has c_pace c_part c_tape)) rfl rfl rfl (rest := [.int (wI 16), .ref a_t_band]) rfl rfl rfl dX9_line_116 ?_
      refine g_iadd C dX9_line_119 ?_
      refine g_aload_n 0 C dX9_line_120 rfl rfl ?_
      obtain ⟨r14, o15, o16, o17, o18, o19, o20, o21, hr22, h⟩ := bnd8_some h
      refine g_callI [0, 5] [1, 2, 3, 4] [4, 0, 1, 2, 3, 5] C mt_X9_185 (c_X9_valueHere _ _ _ _ a_t a_t_tape (g_t_0) (g_t_1) (g_t_2) (g_t_3) (g_t_4) (g_t_14) (g_t_15) (g_t_16) (.ref a_t_has) (.ref a_t_part) (.ref a_t_pace) (.ref a_t_band) (g_t_21) (g_t_22) (g_t_23) (g_t_24) (g_t_25) (g_t_26) (g_t_27) (g_t_28) (g_t_29) (g_t_30) (g_t_31) (g_t_32) (g_t_33) (g_t_34) (g_t_35) (g_t_36) (g_t_37) (g_t_38) (g_t_39) (g_t_40) (g_t_41) (g_t_42) (g_t_43) c_taped o4 o5 o6 o7 o8 o9 o10 c_tape F hr22) (q0 := 0) rfl (ci := 9) rfl rfl rfl (ws2 := (W_X9_line (eCy E) a_t a_t_band a_t_has a_t_pace a_t_part a_t_tape g_t_0 g_t_1 g_t_2 g_t_3 g_t_4 g_t_14 g_t_15 g_t_16 g_t_21 g_t_22 g_t_23 g_t_24 g_t_25 g_t_26 g_t_27 g_t_28 g_t_29 g_t_30 g_t_31 g_t_32 g_t_33 g_t_34 g_t_35 g_t_36 g_t_37 g_t_38 g_t_39 g_t_40 g_t_41 g_t_42 g_t_43 c_taped o15 o16 o17 o18 o19 o20 o21 c_band c_has c_pace c_part c_tape)) rfl rfl rfl (rest := [.int (wI (16 + r12)), .ref a_t_band]) rfl rfl rfl dX9_line_121 ?_
      obtain ⟨hc23, h⟩ := chk_some h
      refine g_iast C 1 rfl hc23 rfl (ws' := (W_X9_line (eCy E) a_t a_t_band a_t_has a_t_pace a_t_part a_t_tape g_t_0 g_t_1 g_t_2 g_t_3 g_t_4 g_t_14 g_t_15 g_t_16 g_t_21 g_t_22 g_t_23 g_t_24 g_t_25 g_t_26 g_t_27 g_t_28 g_t_29 g_t_30 g_t_31 g_t_32 g_t_33 g_t_34 g_t_35 g_t_36 g_t_37 g_t_38 g_t_39 g_t_40 g_t_41 g_t_42 g_t_43 c_taped o15 o16 o17 o18 o19 o20 o21 (up c_band (16 + r12) r14) c_has c_pace c_part c_tape)) rfl dX9_line_124 ?_
      refine g_aload_n 0 C dX9_line_125 rfl rfl ?_
      refine g_iconst C dX9_line_126 ?_
      refine g_aload_n 0 C dX9_line_127 rfl rfl ?_
      refine g_iconst C dX9_line_128 ?_
      obtain ⟨r24, hr25, h⟩ := bnd1_some h
      refine g_callI [0, 2] [1, 3, 4, 5] [4, 0, 5, 1, 2, 3] C mt_X9_153 (c_X9_hasRead _ _ _ _ a_t a_t_has (g_t_0) (g_t_1) (g_t_2) (g_t_3) (g_t_4) (.ref a_t_tape) (.int (wI c_taped)) (.int (wI o15)) (.int (wI o16)) (.int (wI o17)) (.int (wI o18)) (.long (wJ o19)) (.int (wI o20)) (.int (wI o21)) (g_t_14) (g_t_15) (g_t_16) (.ref a_t_part) (.ref a_t_pace) (.ref a_t_band) (g_t_21) (g_t_22) (g_t_23) (g_t_24) (g_t_25) (g_t_26) (g_t_27) (g_t_28) (g_t_29) (g_t_30) (g_t_31) (g_t_32) (g_t_33) (g_t_34) (g_t_35) (g_t_36) (g_t_37) (g_t_38) (g_t_39) (g_t_40) (g_t_41) (g_t_42) (g_t_43) 3 c_has F hr25) (q0 := 0) rfl (ci := 9) rfl rfl rfl (ws2 := (W_X9_line (eCy E) a_t a_t_band a_t_has a_t_pace a_t_part a_t_tape g_t_0 g_t_1 g_t_2 g_t_3 g_t_4 g_t_14 g_t_15 g_t_16 g_t_21 g_t_22 g_t_23 g_t_24 g_t_25 g_t_26 g_t_27 g_t_28 g_t_29 g_t_30 g_t_31 g_t_32 g_t_33 g_t_34 g_t_35 g_t_36 g_t_37 g_t_38 g_t_39 g_t_40 g_t_41 g_t_42 g_t_43 c_taped o15 o16 o17 o18 o19 o20 o21 (up c_band (16 + r12) r14) c_has c_pace c_part c_tape)) rfl rfl rfl (rest := [.int (wI 3), .ref a_t]) rfl rfl rfl dX9_line_129 ?_
      refine g_iconst C dX9_line_132 ?_
      refine g_iadd C dX9_line_133 ?_
      obtain ⟨o26, hr27, h⟩ := bnd1_some h
      refine g_callV [0, 2] [1, 3, 4, 5] [4, 0, 5, 1, 2, 3] C mt_X9_166 (c_X9_tells _ _ _ _ a_t a_t_has (g_t_0) (g_t_1) (g_t_2) (g_t_3) (g_t_4) (.ref a_t_tape) (.int (wI c_taped)) (.int (wI o15)) (.int (wI o16)) (.int (wI o17)) (.int (wI o18)) (.long (wJ o19)) (.int (wI o20)) (.int (wI o21)) (g_t_14) (g_t_15) (g_t_16) (.ref a_t_part) (.ref a_t_pace) (.ref a_t_band) (g_t_21) (g_t_22) (g_t_23) (g_t_24) (g_t_25) (g_t_26) (g_t_27) (g_t_28) (g_t_29) (g_t_30) (g_t_31) (g_t_32) (g_t_33) (g_t_34) (g_t_35) (g_t_36) (g_t_37) (g_t_38) (g_t_39) (g_t_40) (g_t_41) (g_t_42) (g_t_43) 3 (r24 + 1) c_has F hr27) (q0 := 0) rfl (ci := 9) rfl rfl rfl (ws2 := (W_X9_line (eCy E) a_t a_t_band a_t_has a_t_pace a_t_part a_t_tape g_t_0 g_t_1 g_t_2 g_t_3 g_t_4 g_t_14 g_t_15 g_t_16 g_t_21 g_t_22 g_t_23 g_t_24 g_t_25 g_t_26 g_t_27 g_t_28 g_t_29 g_t_30 g_t_31 g_t_32 g_t_33 g_t_34 g_t_35 g_t_36 g_t_37 g_t_38 g_t_39 g_t_40 g_t_41 g_t_42 g_t_43 c_taped o15 o16 o17 o18 o19 o20 o21 (up c_band (16 + r12) r14) o26 c_pace c_part c_tape)) rfl rfl rfl (rest := []) rfl rfl rfl dX9_line_134 ?_
      refine g_goto (tgt := 234) C dX9_line_137 (by decide) ?_
      cases h
      exact hret 234 _ dX9_line_234
set_option maxRecDepth 100000 in
set_option maxHeartbeats 4000000 in
theorem wm_X9_line {F : Nat} {v : Int × Int × Int × Int × Int × Int × Int × (Int → Int) × (Int → Int) × (Int → Int) × (Int → Int)} {c_taped : Int} {c_at : Int} {c_token : Int} {c_place : Int} {c_value : Int} {c_word : Int} {c_bad : Int} {c_badPlace : Int} {c_band : Int → Int} {c_has : Int → Int} {c_pace : Int → Int} {c_part : Int → Int} {c_tape : Int → Int} (C : Cx E cX9_line RX9 { frames := 6, cells := 0, slots := 0, locals := 134 }) (hN : eN E = 5) (h : m_X9_line F c_taped c_at c_token c_place c_value c_word c_bad c_badPlace c_band c_has c_pace c_part c_tape = some v) (hret : ∀ (pc : Nat) (L : List (Option Value)), decode cX9_line pc = .ok (.return_, 1) → GG E 0 0 (W_X9_line (eCy E) a_t a_t_band a_t_has a_t_pace a_t_part a_t_tape g_t_0 g_t_1 g_t_2 g_t_3 g_t_4 g_t_14 g_t_15 g_t_16 g_t_21 g_t_22 g_t_23 g_t_24 g_t_25 g_t_26 g_t_27 g_t_28 g_t_29 g_t_30 g_t_31 g_t_32 g_t_33 g_t_34 g_t_35 g_t_36 g_t_37 g_t_38 g_t_39 g_t_40 g_t_41 g_t_42 g_t_43 c_taped (v.1) (v.2.1) (v.2.2.1) (v.2.2.2.1) (v.2.2.2.2.1) (v.2.2.2.2.2.1) (v.2.2.2.2.2.2.1) (v.2.2.2.2.2.2.2.1) (v.2.2.2.2.2.2.2.2.1) (v.2.2.2.2.2.2.2.2.2.1) (v.2.2.2.2.2.2.2.2.2.2) c_tape) L pc []) : GG E 0 0 (W_X9_line (eCy E) a_t a_t_band a_t_has a_t_pace a_t_part a_t_tape g_t_0 g_t_1 g_t_2 g_t_3 g_t_4 g_t_14 g_t_15 g_t_16 g_t_21 g_t_22 g_t_23 g_t_24 g_t_25 g_t_26 g_t_27 g_t_28 g_t_29 g_t_30 g_t_31 g_t_32 g_t_33 g_t_34 g_t_35 g_t_36 g_t_37 g_t_38 g_t_39 g_t_40 g_t_41 g_t_42 g_t_43 c_taped c_at c_token c_place c_value c_word c_bad c_badPlace c_band c_has c_pace c_part c_tape) [some (.ref a_t), none, none, none, none] 0 [] := by
  unfold m_X9_line at h
  refine g_aload_n 0 C dX9_line_0 rfl rfl ?_
  refine g_aload_n 0 C dX9_line_1 rfl rfl ?_
  refine g_ldc2 (v := 316163) C mc_X9_170 dX9_line_2 ?_
  obtain ⟨r1, hr2, h⟩ := bnd1_some h
  refine g_callI [0] [1, 2, 3, 4, 5] [5, 0, 1, 2, 3, 4] C mt_X9_129 (c_X9_is _ _ _ _ a_t (g_t_0) (g_t_1) (g_t_2) (g_t_3) (g_t_4) (.ref a_t_tape) (.int (wI c_taped)) (.int (wI c_at)) (.int (wI c_place)) (.int (wI c_value)) (.int (wI c_badPlace)) (g_t_14) (g_t_15) (g_t_16) (.ref a_t_has) (.ref a_t_part) (.ref a_t_pace) (.ref a_t_band) (g_t_21) (g_t_22) (g_t_23) (g_t_24) (g_t_25) (g_t_26) (g_t_27) (g_t_28) (g_t_29) (g_t_30) (g_t_31) (g_t_32) (g_t_33) (g_t_34) (g_t_35) (g_t_36) (g_t_37) (g_t_38) (g_t_39) (g_t_40) (g_t_41) (g_t_42) (g_t_43) 316163 c_token c_word c_bad F hr2) (q0 := 0) rfl (ci := 9) rfl rfl rfl (ws2 := (W_X9_line (eCy E) a_t a_t_band a_t_has a_t_pace a_t_part a_t_tape g_t_0 g_t_1 g_t_2 g_t_3 g_t_4 g_t_14 g_t_15 g_t_16 g_t_21 g_t_22 g_t_23 g_t_24 g_t_25 g_t_26 g_t_27 g_t_28 g_t_29 g_t_30 g_t_31 g_t_32 g_t_33 g_t_34 g_t_35 g_t_36 g_t_37 g_t_38 g_t_39 g_t_40 g_t_41 g_t_42 g_t_43 c_taped c_at c_token c_place c_value c_word c_bad c_badPlace c_band c_has c_pace c_part c_tape)) rfl rfl rfl (rest := [.ref a_t]) rfl rfl rfl dX9_line_5 ?_
  refine g_iconst C dX9_line_8 ?_
  refine g_iconst C dX9_line_9 ?_
  obtain ⟨r3, o4, o5, o6, o7, o8, o9, o10, hr11, h⟩ := bnd8_some h
  refine g_callI [0, 2, 5] [1, 3, 4] [3, 0, 4, 1, 2, 5] C mt_X9_172 (c_X9_isRoom _ _ _ _ a_t a_t_has a_t_tape (g_t_0) (g_t_1) (g_t_2) (g_t_3) (g_t_4) (g_t_14) (g_t_15) (g_t_16) (.ref a_t_part) (.ref a_t_pace) (.ref a_t_band) (g_t_21) (g_t_22) (g_t_23) (g_t_24) (g_t_25) (g_t_26) (g_t_27) (g_t_28) (g_t_29) (g_t_30) (g_t_31) (g_t_32) (g_t_33) (g_t_34) (g_t_35) (g_t_36) (g_t_37) (g_t_38) (g_t_39) (g_t_40) (g_t_41) (g_t_42) (g_t_43) r1 1 4 c_taped c_at c_token c_place c_value c_word c_bad c_badPlace c_has c_tape F hr11) (q0 := 0) rfl (ci := 9) rfl rfl rfl (ws2 := (W_X9_line (eCy E) a_t a_t_band a_t_has a_t_pace a_t_part a_t_tape g_t_0 g_t_1 g_t_2 g_t_3 g_t_4 g_t_14 g_t_15 g_t_16 g_t_21 g_t_22 g_t_23 g_t_24 g_t_25 g_t_26 g_t_27 g_t_28 g_t_29 g_t_30 g_t_31 g_t_32 g_t_33 g_t_34 g_t_35 g_t_36 g_t_37 g_t_38 g_t_39 g_t_40 g_t_41 g_t_42 g_t_43 c_taped o4 o5 o6 o7 o8 o9 o10 c_band c_has c_pace c_part c_tape)) rfl rfl rfl (rest := []) rfl rfl rfl dX9_line_10 ?_
  refine g_if_eq 23 C dX9_line_13 (by decide) h (fun h => ?_) (fun h => ?_)
  · refine g_aload_n 0 C dX9_line_23 rfl rfl ?_
    refine g_get C fg_X9_123 0 rfl rfl dX9_line_24 ?_
    refine g_st (st' := [.int (wI o9)]) rfl ?_
    refine g_if_ne 85 C dX9_line_27 (by decide) h (fun h => ?_) (fun h => ?_)
    · exact wb_X9_line_85 C hN h hret
    · refine g_aload_n 0 C dX9_line_30 rfl rfl ?_
      refine g_aload_n 0 C dX9_line_31 rfl rfl ?_
      refine g_ldc2 (v := 330800670) C mc_X9_179 dX9_line_32 ?_
      obtain ⟨r12, hr13, h⟩ := bnd1_some h
      refine g_callI [0] [1, 2, 3, 4, 5] [5, 0, 1, 2, 3, 4] C mt_X9_129 (c_X9_is _ _ _ _ a_t (g_t_0) (g_t_1) (g_t_2) (g_t_3) (g_t_4) (.ref a_t_tape) (.int (wI c_taped)) (.int (wI o4)) (.int (wI o6)) (.int (wI o7)) (.int (wI o10)) (g_t_14) (g_t_15) (g_t_16) (.ref a_t_has) (.ref a_t_part) (.ref a_t_pace) (.ref a_t_band) (g_t_21) (g_t_22) (g_t_23) (g_t_24) (g_t_25) (g_t_26) (g_t_27) (g_t_28) (g_t_29) (g_t_30) (g_t_31) (g_t_32) (g_t_33) (g_t_34) (g_t_35) (g_t_36) (g_t_37) (g_t_38) (g_t_39) (g_t_40) (g_t_41) (g_t_42) (g_t_43) 330800670 o5 o8 o9 F hr13) (q0 := 0) rfl (ci := 9) rfl rfl rfl (ws2 := (W_X9_line (eCy E) a_t a_t_band a_t_has a_t_pace a_t_part a_t_tape g_t_0 g_t_1 g_t_2 g_t_3 g_t_4 g_t_14 g_t_15 g_t_16 g_t_21 g_t_22 g_t_23 g_t_24 g_t_25 g_t_26 g_t_27 g_t_28 g_t_29 g_t_30 g_t_31 g_t_32 g_t_33 g_t_34 g_t_35 g_t_36 g_t_37 g_t_38 g_t_39 g_t_40 g_t_41 g_t_42 g_t_43 c_taped o4 o5 o6 o7 o8 o9 o10 c_band c_has c_pace c_part c_tape)) rfl rfl rfl (rest := [.ref a_t]) rfl rfl rfl dX9_line_35 ?_
      refine g_iconst C dX9_line_38 ?_
      refine g_bipush C dX9_line_39 (by decide) ?_
      obtain ⟨r14, o15, o16, o17, o18, o19, o20, o21, hr22, h⟩ := bnd8_some h
      refine g_callI [0, 2, 5] [1, 3, 4] [3, 0, 4, 1, 2, 5] C mt_X9_172 (c_X9_isRoom _ _ _ _ a_t a_t_has a_t_tape (g_t_0) (g_t_1) (g_t_2) (g_t_3) (g_t_4) (g_t_14) (g_t_15) (g_t_16) (.ref a_t_part) (.ref a_t_pace) (.ref a_t_band) (g_t_21) (g_t_22) (g_t_23) (g_t_24) (g_t_25) (g_t_26) (g_t_27) (g_t_28) (g_t_29) (g_t_30) (g_t_31) (g_t_32) (g_t_33) (g_t_34) (g_t_35) (g_t_36) (g_t_37) (g_t_38) (g_t_39) (g_t_40) (g_t_41) (g_t_42) (g_t_43) r12 2 8 c_taped o4 o5 o6 o7 o8 o9 o10 c_has c_tape F hr22) (q0 := 0) rfl (ci := 9) rfl rfl rfl (ws2 := (W_X9_line (eCy E) a_t a_t_band a_t_has a_t_pace a_t_part a_t_tape g_t_0 g_t_1 g_t_2 g_t_3 g_t_4 g_t_14 g_t_15 g_t_16 g_t_21 g_t_22 g_t_23 g_t_24 g_t_25 g_t_26 g_t_27 g_t_28 g_t_29 g_t_30 g_t_31 g_t_32 g_t_33 g_t_34 g_t_35 g_t_36 g_t_37 g_t_38 g_t_39 g_t_40 g_t_41 g_t_42 g_t_43 c_taped o15 o16 o17 o18 o19 o20 o21 c_band c_has c_pace c_part c_tape)) rfl rfl rfl (rest := []) rfl rfl rfl dX9_line_41 ?_
      refine g_if_eq 85 C dX9_line_44 (by decide) h (fun h => ?_) (fun h => ?_)
      · exact wb_X9_line_85 C hN h hret
      · refine g_aload_n 0 C dX9_line_47 rfl rfl ?_
        refine g_get C fg_X9_40 0 rfl rfl dX9_line_48 ?_
        refine g_bipush C dX9_line_51 (by decide) ?_
        refine g_aload_n 0 C dX9_line_53 rfl rfl ?_
        refine g_iconst C dX9_line_54 ?_
        obtain ⟨r23, hr24, h⟩ := bnd1_some h
        refine g_callI [0, 2] [1, 3, 4, 5] [4, 0, 5, 1, 2, 3] C mt_X9_153 (c_X9_hasRead _ _ _ _ a_t a_t_has (g_t_0) (g_t_1) (g_t_2) (g_t_3) (g_t_4) (.ref a_t_tape) (.int (wI c_taped)) (.int (wI o15)) (.int (wI o16)) (.int (wI o17)) (.int (wI o18)) (.long (wJ o19)) (.int (wI o20)) (.int (wI o21)) (g_t_14) (g_t_15) (g_t_16) (.ref a_t_part) (.ref a_t_pace) (.ref a_t_band) (g_t_21) (g_t_22) (g_t_23) (g_t_24) (g_t_25) (g_t_26) (g_t_27) (g_t_28) (g_t_29) (g_t_30) (g_t_31) (g_t_32) (g_t_33) (g_t_34) (g_t_35) (g_t_36) (g_t_37) (g_t_38) (g_t_39) (g_t_40) (g_t_41) (g_t_42) (g_t_43) 2 c_has F hr24) (q0 := 0) rfl (ci := 9) rfl rfl rfl (ws2 := (W_X9_line (eCy E) a_t a_t_band a_t_has a_t_pace a_t_part a_t_tape g_t_0 g_t_1 g_t_2 g_t_3 g_t_4 g_t_14 g_t_15 g_t_16 g_t_21 g_t_22 g_t_23 g_t_24 g_t_25 g_t_26 g_t_27 g_t_28 g_t_29 g_t_30 g_t_31 g_t_32 g_t_33 g_t_34 g_t_35 g_t_36 g_t_37 g_t_38 g_t_39 g_t_40 g_t_41 g_t_42 g_t_43 c_taped o15 o16 o17 o18 o19 o20 o21 c_band c_has c_pace c_part c_tape)) rfl rfl rfl (rest := [.int (wI 32), .ref a_t_pace]) rfl rfl rfl dX9_line_55 ?_
        refine g_iadd C dX9_line_58 ?_
        refine g_aload_n 0 C dX9_line_59 rfl rfl ?_
        refine g_ldc2 (v := 315743) C mc_X9_181 dX9_line_60 ?_
        refine g_iconst C dX9_line_63 ?_
        refine g_bipush C dX9_line_64 (by decide) ?_
        obtain ⟨r25, o26, o27, o28, o29, o30, o31, o32, hr33, h⟩ := bnd8_some h
        refine g_callI [0, 5] [1, 2, 3, 4] [4, 0, 1, 2, 3, 5] C mt_X9_159 (c_X9_number_ _ _ _ _ a_t a_t_tape (g_t_0) (g_t_1) (g_t_2) (g_t_3) (g_t_4) (g_t_14) (g_t_15) (g_t_16) (.ref a_t_has) (.ref a_t_part) (.ref a_t_pace) (.ref a_t_band) (g_t_21) (g_t_22) (g_t_23) (g_t_24) (g_t_25) (g_t_26) (g_t_27) (g_t_28) (g_t_29) (g_t_30) (g_t_31) (g_t_32) (g_t_33) (g_t_34) (g_t_35) (g_t_36) (g_t_37) (g_t_38) (g_t_39) (g_t_40) (g_t_41) (g_t_42) (g_t_43) 315743 0 30 c_taped o15 o16 o17 o18 o19 o20 o21 c_tape F hr33) (q0 := 0) rfl (ci := 9) rfl rfl rfl (ws2 := (W_X9_line (eCy E) a_t a_t_band a_t_has a_t_pace a_t_part a_t_tape g_t_0 g_t_1 g_t_2 g_t_3 g_t_4 g_t_14 g_t_15 g_t_16 g_t_21 g_t_22 g_t_23 g_t_24 g_t_25 g_t_26 g_t_27 g_t_28 g_t_29 g_t_30 g_t_31 g_t_32 g_t_33 g_t_34 g_t_35 g_t_36 g_t_37 g_t_38 g_t_39 g_t_40 g_t_41 g_t_42 g_t_43 c_taped o26 o27 o28 o29 o30 o31 o32 c_band c_has c_pace c_part c_tape)) rfl rfl rfl (rest := [.int (wI (32 + r23)), .ref a_t_pace]) rfl rfl rfl dX9_line_66 ?_
        obtain ⟨hc34, h⟩ := chk_some h
        refine g_iast C 3 rfl hc34 rfl (ws' := (W_X9_line (eCy E) a_t a_t_band a_t_has a_t_pace a_t_part a_t_tape g_t_0 g_t_1 g_t_2 g_t_3 g_t_4 g_t_14 g_t_15 g_t_16 g_t_21 g_t_22 g_t_23 g_t_24 g_t_25 g_t_26 g_t_27 g_t_28 g_t_29 g_t_30 g_t_31 g_t_32 g_t_33 g_t_34 g_t_35 g_t_36 g_t_37 g_t_38 g_t_39 g_t_40 g_t_41 g_t_42 g_t_43 c_taped o26 o27 o28 o29 o30 o31 o32 c_band c_has (up c_pace (32 + r23) r25) c_part c_tape)) rfl dX9_line_69 ?_
        refine g_aload_n 0 C dX9_line_70 rfl rfl ?_
        refine g_iconst C dX9_line_71 ?_
        refine g_aload_n 0 C dX9_line_72 rfl rfl ?_
        refine g_iconst C dX9_line_73 ?_
        obtain ⟨r35, hr36, h⟩ := bnd1_some h
        refine g_callI [0, 2] [1, 3, 4, 5] [4, 0, 5, 1, 2, 3] C mt_X9_153 (c_X9_hasRead _ _ _ _ a_t a_t_has (g_t_0) (g_t_1) (g_t_2) (g_t_3) (g_t_4) (.ref a_t_tape) (.int (wI c_taped)) (.int (wI o26)) (.int (wI o27)) (.int (wI o28)) (.int (wI o29)) (.long (wJ o30)) (.int (wI o31)) (.int (wI o32)) (g_t_14) (g_t_15) (g_t_16) (.ref a_t_part) (.ref a_t_pace) (.ref a_t_band) (g_t_21) (g_t_22) (g_t_23) (g_t_24) (g_t_25) (g_t_26) (g_t_27) (g_t_28) (g_t_29) (g_t_30) (g_t_31) (g_t_32) (g_t_33) (g_t_34) (g_t_35) (g_t_36) (g_t_37) (g_t_38) (g_t_39) (g_t_40) (g_t_41) (g_t_42) (g_t_43) 2 c_has F hr36) (q0 := 0) rfl (ci := 9) rfl rfl rfl (ws2 := (W_X9_line (eCy E) a_t a_t_band a_t_has a_t_pace a_t_part a_t_tape g_t_0 g_t_1 g_t_2 g_t_3 g_t_4 g_t_14 g_t_15 g_t_16 g_t_21 g_t_22 g_t_23 g_t_24 g_t_25 g_t_26 g_t_27 g_t_28 g_t_29 g_t_30 g_t_31 g_t_32 g_t_33 g_t_34 g_t_35 g_t_36 g_t_37 g_t_38 g_t_39 g_t_40 g_t_41 g_t_42 g_t_43 c_taped o26 o27 o28 o29 o30 o31 o32 c_band c_has (up c_pace (32 + r23) r25) c_part c_tape)) rfl rfl rfl (rest := [.int (wI 2), .ref a_t]) rfl rfl rfl dX9_line_74 ?_
        refine g_iconst C dX9_line_77 ?_
        refine g_iadd C dX9_line_78 ?_
        obtain ⟨o37, hr38, h⟩ := bnd1_some h
        refine g_callV [0, 2] [1, 3, 4, 5] [4, 0, 5, 1, 2, 3] C mt_X9_166 (c_X9_tells _ _ _ _ a_t a_t_has (g_t_0) (g_t_1) (g_t_2) (g_t_3) (g_t_4) (.ref a_t_tape) (.int (wI c_taped)) (.int (wI o26)) (.int (wI o27)) (.int (wI o28)) (.int (wI o29)) (.long (wJ o30)) (.int (wI o31)) (.int (wI o32)) (g_t_14) (g_t_15) (g_t_16) (.ref a_t_part) (.ref a_t_pace) (.ref a_t_band) (g_t_21) (g_t_22) (g_t_23) (g_t_24) (g_t_25) (g_t_26) (g_t_27) (g_t_28) (g_t_29) (g_t_30) (g_t_31) (g_t_32) (g_t_33) (g_t_34) (g_t_35) (g_t_36) (g_t_37) (g_t_38) (g_t_39) (g_t_40) (g_t_41) (g_t_42) (g_t_43) 2 (r35 + 1) c_has F hr38) (q0 := 0) rfl (ci := 9) rfl rfl rfl (ws2 := (W_X9_line (eCy E) a_t a_t_band a_t_has a_t_pace a_t_part a_t_tape g_t_0 g_t_1 g_t_2 g_t_3 g_t_4 g_t_14 g_t_15 g_t_16 g_t_21 g_t_22 g_t_23 g_t_24 g_t_25 g_t_26 g_t_27 g_t_28 g_t_29 g_t_30 g_t_31 g_t_32 g_t_33 g_t_34 g_t_35 g_t_36 g_t_37 g_t_38 g_t_39 g_t_40 g_t_41 g_t_42 g_t_43 c_taped o26 o27 o28 o29 o30 o31 o32 c_band o37 (up c_pace (32 + r23) r25) c_part c_tape)) rfl rfl rfl (rest := []) rfl rfl rfl dX9_line_79 ?_
        refine g_goto (tgt := 234) C dX9_line_82 (by decide) ?_
        cases h
        exact hret 234 _ dX9_line_234
  · refine g_aload_n 0 C dX9_line_16 rfl rfl ?_
    obtain ⟨o12, o13, o14, o15, o16, o17, o18, o19, o20, hr21, h⟩ := bnd9_some h
    refine g_callV [0, 2, 4, 5] [1, 3] [2, 0, 3, 1, 4, 5] C mt_X9_176 (c_X9_partLine _ _ _ _ a_t a_t_has a_t_part a_t_tape (g_t_0) (g_t_1) (g_t_2) (g_t_3) (g_t_4) (g_t_14) (g_t_15) (g_t_16) (.ref a_t_pace) (.ref a_t_band) (g_t_21) (g_t_22) (g_t_23) (g_t_24) (g_t_25) (g_t_26) (g_t_27) (g_t_28) (g_t_29) (g_t_30) (g_t_31) (g_t_32) (g_t_33) (g_t_34) (g_t_35) (g_t_36) (g_t_37) (g_t_38) (g_t_39) (g_t_40) (g_t_41) (g_t_42) (g_t_43) c_taped o4 o5 o6 o7 o8 o9 o10 c_has c_part c_tape F hr21) (q0 := 0) rfl (ci := 9) rfl rfl rfl (ws2 := (W_X9_line (eCy E) a_t a_t_band a_t_has a_t_pace a_t_part a_t_tape g_t_0 g_t_1 g_t_2 g_t_3 g_t_4 g_t_14 g_t_15 g_t_16 g_t_21 g_t_22 g_t_23 g_t_24 g_t_25 g_t_26 g_t_27 g_t_28 g_t_29 g_t_30 g_t_31 g_t_32 g_t_33 g_t_34 g_t_35 g_t_36 g_t_37 g_t_38 g_t_39 g_t_40 g_t_41 g_t_42 g_t_43 c_taped o12 o13 o14 o15 o16 o17 o18 c_band o19 c_pace o20 c_tape)) rfl rfl rfl (rest := []) rfl rfl rfl dX9_line_17 ?_
    refine g_goto (tgt := 234) C dX9_line_20 (by decide) ?_
    cases h
    exact hret 234 _ dX9_line_234
end S_X9_line
set_option maxRecDepth 100000 in
set_option maxHeartbeats 4000000 in
theorem c_X9_line (l : Launch) (D : va_G) (cy : Nat → ClassId) (ad : AD) (a_t a_t_band a_t_has a_t_pace a_t_part a_t_tape : Nat) (g_t_0 : Value) (g_t_1 : Value) (g_t_2 : Value) (g_t_3 : Value) (g_t_4 : Value) (g_t_14 : Value) (g_t_15 : Value) (g_t_16 : Value) (g_t_21 : Value) (g_t_22 : Value) (g_t_23 : Value) (g_t_24 : Value) (g_t_25 : Value) (g_t_26 : Value) (g_t_27 : Value) (g_t_28 : Value) (g_t_29 : Value) (g_t_30 : Value) (g_t_31 : Value) (g_t_32 : Value) (g_t_33 : Value) (g_t_34 : Value) (g_t_35 : Value) (g_t_36 : Value) (g_t_37 : Value) (g_t_38 : Value) (g_t_39 : Value) (g_t_40 : Value) (g_t_41 : Value) (g_t_42 : Value) (g_t_43 : Value) (c_taped : Int) (c_at : Int) (c_token : Int) (c_place : Int) (c_value : Int) (c_word : Int) (c_bad : Int) (c_badPlace : Int) (c_band : Int → Int) (c_has : Int → Int) (c_pace : Int → Int) (c_part : Int → Int) (c_tape : Int → Int) (F : Nat) {v : Int × Int × Int × Int × Int × Int × Int × (Int → Int) × (Int → Int) × (Int → Int) × (Int → Int)} (h : m_X9_line F c_taped c_at c_token c_place c_value c_word c_bad c_badPlace c_band c_has c_pace c_part c_tape = some v) : Ct l yX9_line cX9_line 5 none { frames := 6, cells := 0, slots := 0, locals := 134 } D cy ad [.ref a_t] (W_X9_line cy a_t a_t_band a_t_has a_t_pace a_t_part a_t_tape g_t_0 g_t_1 g_t_2 g_t_3 g_t_4 g_t_14 g_t_15 g_t_16 g_t_21 g_t_22 g_t_23 g_t_24 g_t_25 g_t_26 g_t_27 g_t_28 g_t_29 g_t_30 g_t_31 g_t_32 g_t_33 g_t_34 g_t_35 g_t_36 g_t_37 g_t_38 g_t_39 g_t_40 g_t_41 g_t_42 g_t_43 c_taped c_at c_token c_place c_value c_word c_bad c_badPlace c_band c_has c_pace c_part c_tape) (W_X9_line cy a_t a_t_band a_t_has a_t_pace a_t_part a_t_tape g_t_0 g_t_1 g_t_2 g_t_3 g_t_4 g_t_14 g_t_15 g_t_16 g_t_21 g_t_22 g_t_23 g_t_24 g_t_25 g_t_26 g_t_27 g_t_28 g_t_29 g_t_30 g_t_31 g_t_32 g_t_33 g_t_34 g_t_35 g_t_36 g_t_37 g_t_38 g_t_39 g_t_40 g_t_41 g_t_42 g_t_43 c_taped (v.1) (v.2.1) (v.2.2.1) (v.2.2.2.1) (v.2.2.2.2.1) (v.2.2.2.2.2.1) (v.2.2.2.2.2.2.1) (v.2.2.2.2.2.2.2.1) (v.2.2.2.2.2.2.2.2.1) (v.2.2.2.2.2.2.2.2.2.1) (v.2.2.2.2.2.2.2.2.2.2) c_tape) none := by
  refine Ct.introV (j := 4) (plainFor_of_name (by decide)) rfl rfl (fun E C e1 e2 e3 e4 e5 hret => ?_)
  subst e1; subst e2; subst e3; subst e4
  exact wm_X9_line C e5 h hret
-- MovingStairModel.clears0()V
def W_X9_clears0 (cy : Nat → ClassId) (a_t a_t_has a_t_lines : Nat) (g_t_0 : Value) (g_t_1 : Value) (g_t_2 : Value) (g_t_3 : Value) (g_t_4 : Value) (g_t_5 : Value) (g_t_6 : Value) (g_t_7 : Value) (g_t_8 : Value) (g_t_9 : Value) (g_t_10 : Value) (g_t_11 : Value) (g_t_12 : Value) (g_t_13 : Value) (g_t_14 : Value) (g_t_15 : Value) (g_t_18 : Value) (g_t_19 : Value) (g_t_20 : Value) (g_t_21 : Value) (g_t_22 : Value) (g_t_23 : Value) (g_t_24 : Value) (g_t_25 : Value) (g_t_26 : Value) (g_t_27 : Value) (g_t_28 : Value) (g_t_29 : Value) (g_t_30 : Value) (g_t_31 : Value) (g_t_32 : Value) (g_t_33 : Value) (g_t_34 : Value) (g_t_35 : Value) (g_t_36 : Value) (g_t_37 : Value) (g_t_38 : Value) (g_t_39 : Value) (g_t_40 : Value) (g_t_41 : Value) (g_t_42 : Value) (g_t_43 : Value) (c_has : Int → Int) (c_lines : Int → Int) : va_W := [(a_t, .inr (9, [g_t_0, g_t_1, g_t_2, g_t_3, g_t_4, g_t_5, g_t_6, g_t_7, g_t_8, g_t_9, g_t_10, g_t_11, g_t_12, g_t_13, g_t_14, g_t_15, .ref a_t_lines, .ref a_t_has, g_t_18, g_t_19, g_t_20, g_t_21, g_t_22, g_t_23, g_t_24, g_t_25, g_t_26, g_t_27, g_t_28, g_t_29, g_t_30, g_t_31, g_t_32, g_t_33, g_t_34, g_t_35, g_t_36, g_t_37, g_t_38, g_t_39, g_t_40, g_t_41, g_t_42, g_t_43])), (a_t_has, .inl (cy 1, 45, .inl (aI c_has))), (a_t_lines, .inl (cy 1, 5, .inl (aI c_lines)))]
def mb_X9_clears0_9 (F : Nat) (k9 : Int → (Int → Int) → Option ((Int → Int) × (Int → Int))) (x1 : Int) (c_has : Int → Int) (c_lines : Int → Int) : Option ((Int → Int) × (Int → Int)) :=
  if wI 9 ≤ wI x1 then
    (some (c_has, c_lines))
  else
    (bnd1 (m_X9_tells F x1 0 c_has) fun o1 => k9 (x1 + 1) o1)
def ml_X9_clears0_9 (F : Nat) (x1 : Int) (c_has : Int → Int) (c_lines : Int → Int) : Option ((Int → Int) × (Int → Int)) :=
  loopN (fun (k : Int × (Int → Int) → Option ((Int → Int) × (Int → Int))) q => mb_X9_clears0_9 F (fun y0 y1 => k (y0, y1)) q.1 q.2 c_lines) F (x1, c_has)
def m_X9_clears0 (F : Nat) (c_has : Int → Int) (c_lines : Int → Int) : Option ((Int → Int) × (Int → Int)) :=
  ml_X9_clears0_9 F 0 c_has (up c_lines 4 0)
section S_X9_clears0
variable {E : EE} {a_t a_t_has a_t_lines : Nat} {g_t_0 : Value} {g_t_1 : Value} {g_t_2 : Value} {g_t_3 : Value} {g_t_4 : Value} {g_t_5 : Value} {g_t_6 : Value} {g_t_7 : Value} {g_t_8 : Value} {g_t_9 : Value} {g_t_10 : Value} {g_t_11 : Value} {g_t_12 : Value} {g_t_13 : Value} {g_t_14 : Value} {g_t_15 : Value} {g_t_18 : Value} {g_t_19 : Value} {g_t_20 : Value} {g_t_21 : Value} {g_t_22 : Value} {g_t_23 : Value} {g_t_24 : Value} {g_t_25 : Value} {g_t_26 : Value} {g_t_27 : Value} {g_t_28 : Value} {g_t_29 : Value} {g_t_30 : Value} {g_t_31 : Value} {g_t_32 : Value} {g_t_33 : Value} {g_t_34 : Value} {g_t_35 : Value} {g_t_36 : Value} {g_t_37 : Value} {g_t_38 : Value} {g_t_39 : Value} {g_t_40 : Value} {g_t_41 : Value} {g_t_42 : Value} {g_t_43 : Value}
set_option maxRecDepth 100000 in
set_option maxHeartbeats 4000000 in
theorem wb_X9_clears0_9 {F : Nat} {k9 : Int → (Int → Int) → Option ((Int → Int) × (Int → Int))} {v : (Int → Int) × (Int → Int)} {x1 : Int} {c_has : Int → Int} {c_lines : Int → Int} (C : Cx E cX9_clears0 RX9 { frames := 1, cells := 0, slots := 0, locals := 22 }) (hN : eN E = 2) (h : mb_X9_clears0_9 F k9 x1 c_has c_lines = some v) (hk9 : ∀ (y_x1 : Int) (y_c_has : Int → Int), k9 y_x1 y_c_has = some v → GG E 0 0 (W_X9_clears0 (eCy E) a_t a_t_has a_t_lines g_t_0 g_t_1 g_t_2 g_t_3 g_t_4 g_t_5 g_t_6 g_t_7 g_t_8 g_t_9 g_t_10 g_t_11 g_t_12 g_t_13 g_t_14 g_t_15 g_t_18 g_t_19 g_t_20 g_t_21 g_t_22 g_t_23 g_t_24 g_t_25 g_t_26 g_t_27 g_t_28 g_t_29 g_t_30 g_t_31 g_t_32 g_t_33 g_t_34 g_t_35 g_t_36 g_t_37 g_t_38 g_t_39 g_t_40 g_t_41 g_t_42 g_t_43 y_c_has c_lines) [some (.ref a_t), some (.int (wI y_x1))] 9 []) (hret : ∀ (pc : Nat) (L : List (Option Value)), decode cX9_clears0 pc = .ok (.return_, 1) → GG E 0 0 (W_X9_clears0 (eCy E) a_t a_t_has a_t_lines g_t_0 g_t_1 g_t_2 g_t_3 g_t_4 g_t_5 g_t_6 g_t_7 g_t_8 g_t_9 g_t_10 g_t_11 g_t_12 g_t_13 g_t_14 g_t_15 g_t_18 g_t_19 g_t_20 g_t_21 g_t_22 g_t_23 g_t_24 g_t_25 g_t_26 g_t_27 g_t_28 g_t_29 g_t_30 g_t_31 g_t_32 g_t_33 g_t_34 g_t_35 g_t_36 g_t_37 g_t_38 g_t_39 g_t_40 g_t_41 g_t_42 g_t_43 (v.1) (v.2)) L pc []) : GG E 0 0 (W_X9_clears0 (eCy E) a_t a_t_has a_t_lines g_t_0 g_t_1 g_t_2 g_t_3 g_t_4 g_t_5 g_t_6 g_t_7 g_t_8 g_t_9 g_t_10 g_t_11 g_t_12 g_t_13 g_t_14 g_t_15 g_t_18 g_t_19 g_t_20 g_t_21 g_t_22 g_t_23 g_t_24 g_t_25 g_t_26 g_t_27 g_t_28 g_t_29 g_t_30 g_t_31 g_t_32 g_t_33 g_t_34 g_t_35 g_t_36 g_t_37 g_t_38 g_t_39 g_t_40 g_t_41 g_t_42 g_t_43 c_has c_lines) [some (.ref a_t), some (.int (wI x1))] 9 [] := by
  unfold mb_X9_clears0_9 at h
  refine g_iload_n 1 C dX9_clears0_9 rfl rfl ?_
  refine g_bipush C dX9_clears0_10 (by decide) ?_
  refine g_icmp_ge 27 C dX9_clears0_12 (by decide) h (fun h => ?_) (fun h => ?_)
  · cases h
    exact hret 27 _ dX9_clears0_27
  · refine g_aload_n 0 C dX9_clears0_15 rfl rfl ?_
    refine g_iload_n 1 C dX9_clears0_16 rfl rfl ?_
    refine g_iconst C dX9_clears0_17 ?_
    obtain ⟨o1, hr2, h⟩ := bnd1_some h
    refine g_callV [0, 1] [2] [1, 2, 0] C mt_X9_166 (c_X9_tells _ _ _ _ a_t a_t_has (g_t_0) (g_t_1) (g_t_2) (g_t_3) (g_t_4) (g_t_5) (g_t_6) (g_t_7) (g_t_8) (g_t_9) (g_t_10) (g_t_11) (g_t_12) (g_t_13) (g_t_14) (g_t_15) (.ref a_t_lines) (g_t_18) (g_t_19) (g_t_20) (g_t_21) (g_t_22) (g_t_23) (g_t_24) (g_t_25) (g_t_26) (g_t_27) (g_t_28) (g_t_29) (g_t_30) (g_t_31) (g_t_32) (g_t_33) (g_t_34) (g_t_35) (g_t_36) (g_t_37) (g_t_38) (g_t_39) (g_t_40) (g_t_41) (g_t_42) (g_t_43) x1 0 c_has F hr2) (q0 := 0) rfl (ci := 9) rfl rfl rfl (ws2 := (W_X9_clears0 (eCy E) a_t a_t_has a_t_lines g_t_0 g_t_1 g_t_2 g_t_3 g_t_4 g_t_5 g_t_6 g_t_7 g_t_8 g_t_9 g_t_10 g_t_11 g_t_12 g_t_13 g_t_14 g_t_15 g_t_18 g_t_19 g_t_20 g_t_21 g_t_22 g_t_23 g_t_24 g_t_25 g_t_26 g_t_27 g_t_28 g_t_29 g_t_30 g_t_31 g_t_32 g_t_33 g_t_34 g_t_35 g_t_36 g_t_37 g_t_38 g_t_39 g_t_40 g_t_41 g_t_42 g_t_43 o1 c_lines)) rfl rfl rfl (rest := []) rfl rfl rfl dX9_clears0_18 ?_
    refine g_iinc C hN dX9_clears0_21 rfl rfl (L' := [some (.ref a_t), some (.int (wI (x1 + 1)))]) rfl ?_
    refine g_goto (tgt := 9) C dX9_clears0_24 (by decide) ?_
    exact hk9 _ _ h
set_option maxRecDepth 100000 in
set_option maxHeartbeats 4000000 in
theorem wl_X9_clears0_9 {F : Nat} {v : (Int → Int) × (Int → Int)} {x1 : Int} {c_has : Int → Int} {c_lines : Int → Int} (C : Cx E cX9_clears0 RX9 { frames := 1, cells := 0, slots := 0, locals := 22 }) (hN : eN E = 2) (h : ml_X9_clears0_9 F x1 c_has c_lines = some v) (hret : ∀ (pc : Nat) (L : List (Option Value)), decode cX9_clears0 pc = .ok (.return_, 1) → GG E 0 0 (W_X9_clears0 (eCy E) a_t a_t_has a_t_lines g_t_0 g_t_1 g_t_2 g_t_3 g_t_4 g_t_5 g_t_6 g_t_7 g_t_8 g_t_9 g_t_10 g_t_11 g_t_12 g_t_13 g_t_14 g_t_15 g_t_18 g_t_19 g_t_20 g_t_21 g_t_22 g_t_23 g_t_24 g_t_25 g_t_26 g_t_27 g_t_28 g_t_29 g_t_30 g_t_31 g_t_32 g_t_33 g_t_34 g_t_35 g_t_36 g_t_37 g_t_38 g_t_39 g_t_40 g_t_41 g_t_42 g_t_43 (v.1) (v.2)) L pc []) : GG E 0 0 (W_X9_clears0 (eCy E) a_t a_t_has a_t_lines g_t_0 g_t_1 g_t_2 g_t_3 g_t_4 g_t_5 g_t_6 g_t_7 g_t_8 g_t_9 g_t_10 g_t_11 g_t_12 g_t_13 g_t_14 g_t_15 g_t_18 g_t_19 g_t_20 g_t_21 g_t_22 g_t_23 g_t_24 g_t_25 g_t_26 g_t_27 g_t_28 g_t_29 g_t_30 g_t_31 g_t_32 g_t_33 g_t_34 g_t_35 g_t_36 g_t_37 g_t_38 g_t_39 g_t_40 g_t_41 g_t_42 g_t_43 c_has c_lines) [some (.ref a_t), some (.int (wI x1))] 9 [] := by
  unfold ml_X9_clears0_9 at h
  exact loop_walk (g := fun (q : Int × (Int → Int)) => GG E 0 0 (W_X9_clears0 (eCy E) a_t a_t_has a_t_lines g_t_0 g_t_1 g_t_2 g_t_3 g_t_4 g_t_5 g_t_6 g_t_7 g_t_8 g_t_9 g_t_10 g_t_11 g_t_12 g_t_13 g_t_14 g_t_15 g_t_18 g_t_19 g_t_20 g_t_21 g_t_22 g_t_23 g_t_24 g_t_25 g_t_26 g_t_27 g_t_28 g_t_29 g_t_30 g_t_31 g_t_32 g_t_33 g_t_34 g_t_35 g_t_36 g_t_37 g_t_38 g_t_39 g_t_40 g_t_41 g_t_42 g_t_43 (q.2) c_lines) [some (.ref a_t), some (.int (wI (q.1)))] 9 []) (fun k hk q h => wb_X9_clears0_9 C hN h (fun y0 y1 hh => hk (y0, y1) hh) hret) F (x1, c_has) h
set_option maxRecDepth 100000 in
set_option maxHeartbeats 4000000 in
theorem wm_X9_clears0 {F : Nat} {v : (Int → Int) × (Int → Int)} {c_has : Int → Int} {c_lines : Int → Int} (C : Cx E cX9_clears0 RX9 { frames := 1, cells := 0, slots := 0, locals := 22 }) (hN : eN E = 2) (h : m_X9_clears0 F c_has c_lines = some v) (hret : ∀ (pc : Nat) (L : List (Option Value)), decode cX9_clears0 pc = .ok (.return_, 1) → GG E 0 0 (W_X9_clears0 (eCy E) a_t a_t_has a_t_lines g_t_0 g_t_1 g_t_2 g_t_3 g_t_4 g_t_5 g_t_6 g_t_7 g_t_8 g_t_9 g_t_10 g_t_11 g_t_12 g_t_13 g_t_14 g_t_15 g_t_18 g_t_19 g_t_20 g_t_21 g_t_22 g_t_23 g_t_24 g_t_25 g_t_26 g_t_27 g_t_28 g_t_29 g_t_30 g_t_31 g_t_32 g_t_33 g_t_34 g_t_35 g_t_36 g_t_37 g_t_38 g_t_39 g_t_40 g_t_41 g_t_42 g_t_43 (v.1) (v.2)) L pc []) : GG E 0 0 (W_X9_clears0 (eCy E) a_t a_t_has a_t_lines g_t_0 g_t_1 g_t_2 g_t_3 g_t_4 g_t_5 g_t_6 g_t_7 g_t_8 g_t_9 g_t_10 g_t_11 g_t_12 g_t_13 g_t_14 g_t_15 g_t_18 g_t_19 g_t_20 g_t_21 g_t_22 g_t_23 g_t_24 g_t_25 g_t_26 g_t_27 g_t_28 g_t_29 g_t_30 g_t_31 g_t_32 g_t_33 g_t_34 g_t_35 g_t_36 g_t_37 g_t_38 g_t_39 g_t_40 g_t_41 g_t_42 g_t_43 c_has c_lines) [some (.ref a_t), none] 0 [] := by
  unfold m_X9_clears0 at h
  refine g_aload_n 0 C dX9_clears0_0 rfl rfl ?_
  refine g_get C fg_X9_31 0 rfl rfl dX9_clears0_1 ?_
  refine g_iconst C dX9_clears0_4 ?_
  refine g_iconst C dX9_clears0_5 ?_
  refine g_iast C 2 rfl (by decide) rfl (ws' := (W_X9_clears0 (eCy E) a_t a_t_has a_t_lines g_t_0 g_t_1 g_t_2 g_t_3 g_t_4 g_t_5 g_t_6 g_t_7 g_t_8 g_t_9 g_t_10 g_t_11 g_t_12 g_t_13 g_t_14 g_t_15 g_t_18 g_t_19 g_t_20 g_t_21 g_t_22 g_t_23 g_t_24 g_t_25 g_t_26 g_t_27 g_t_28 g_t_29 g_t_30 g_t_31 g_t_32 g_t_33 g_t_34 g_t_35 g_t_36 g_t_37 g_t_38 g_t_39 g_t_40 g_t_41 g_t_42 g_t_43 c_has (up c_lines 4 0))) rfl dX9_clears0_6 ?_
  refine g_iconst C dX9_clears0_7 ?_
  refine g_istore_n 1 C hN dX9_clears0_8 rfl rfl (L' := [some (.ref a_t), some (.int (wI 0))]) rfl ?_
  exact wl_X9_clears0_9 C hN h hret
end S_X9_clears0
set_option maxRecDepth 100000 in
set_option maxHeartbeats 4000000 in
theorem c_X9_clears0 (l : Launch) (D : va_G) (cy : Nat → ClassId) (ad : AD) (a_t a_t_has a_t_lines : Nat) (g_t_0 : Value) (g_t_1 : Value) (g_t_2 : Value) (g_t_3 : Value) (g_t_4 : Value) (g_t_5 : Value) (g_t_6 : Value) (g_t_7 : Value) (g_t_8 : Value) (g_t_9 : Value) (g_t_10 : Value) (g_t_11 : Value) (g_t_12 : Value) (g_t_13 : Value) (g_t_14 : Value) (g_t_15 : Value) (g_t_18 : Value) (g_t_19 : Value) (g_t_20 : Value) (g_t_21 : Value) (g_t_22 : Value) (g_t_23 : Value) (g_t_24 : Value) (g_t_25 : Value) (g_t_26 : Value) (g_t_27 : Value) (g_t_28 : Value) (g_t_29 : Value) (g_t_30 : Value) (g_t_31 : Value) (g_t_32 : Value) (g_t_33 : Value) (g_t_34 : Value) (g_t_35 : Value) (g_t_36 : Value) (g_t_37 : Value) (g_t_38 : Value) (g_t_39 : Value) (g_t_40 : Value) (g_t_41 : Value) (g_t_42 : Value) (g_t_43 : Value) (c_has : Int → Int) (c_lines : Int → Int) (F : Nat) {v : (Int → Int) × (Int → Int)} (h : m_X9_clears0 F c_has c_lines = some v) : Ct l yX9_clears0 cX9_clears0 2 none { frames := 1, cells := 0, slots := 0, locals := 22 } D cy ad [.ref a_t] (W_X9_clears0 cy a_t a_t_has a_t_lines g_t_0 g_t_1 g_t_2 g_t_3 g_t_4 g_t_5 g_t_6 g_t_7 g_t_8 g_t_9 g_t_10 g_t_11 g_t_12 g_t_13 g_t_14 g_t_15 g_t_18 g_t_19 g_t_20 g_t_21 g_t_22 g_t_23 g_t_24 g_t_25 g_t_26 g_t_27 g_t_28 g_t_29 g_t_30 g_t_31 g_t_32 g_t_33 g_t_34 g_t_35 g_t_36 g_t_37 g_t_38 g_t_39 g_t_40 g_t_41 g_t_42 g_t_43 c_has c_lines) (W_X9_clears0 cy a_t a_t_has a_t_lines g_t_0 g_t_1 g_t_2 g_t_3 g_t_4 g_t_5 g_t_6 g_t_7 g_t_8 g_t_9 g_t_10 g_t_11 g_t_12 g_t_13 g_t_14 g_t_15 g_t_18 g_t_19 g_t_20 g_t_21 g_t_22 g_t_23 g_t_24 g_t_25 g_t_26 g_t_27 g_t_28 g_t_29 g_t_30 g_t_31 g_t_32 g_t_33 g_t_34 g_t_35 g_t_36 g_t_37 g_t_38 g_t_39 g_t_40 g_t_41 g_t_42 g_t_43 (v.1) (v.2)) none := by
  refine Ct.introV (j := 1) (plainFor_of_name (by decide)) rfl rfl (fun E C e1 e2 e3 e4 e5 hret => ?_)
  subst e1; subst e2; subst e3; subst e4
  exact wm_X9_clears0 C e5 h hret
-- MovingStairModel.copyRow([IIII)V
def W_X9_copyRow (cy : Nat → ClassId) (a_p1 : Nat) (n_p1 : Nat) (c_p1 : Int → Int) : va_W := [(a_p1, .inl (cy 1, n_p1, .inl (aI c_p1)))]
def mb_X9_copyRow_3 (F : Nat) (k3 : Int → (Int → Int) → Option ((Int → Int))) (n_p1 : Nat) (x1 : Int) (x2 : Int) (x3 : Int) (x4 : Int) (c_p1 : Int → Int) : Option ((Int → Int)) :=
  if wI x1 ≤ wI x4 then
    (some c_p1)
  else
    (chk (0 ≤ ((x1 * x2) + x4) ∧ ((x1 * x2) + x4) < (n_p1 : Int)) <| nam (c_p1 ((x1 * x2) + x4)) fun y2 => chk (0 ≤ ((x1 * x3) + x4) ∧ ((x1 * x3) + x4) < (n_p1 : Int)) <| k3 (x4 + 1) (up c_p1 ((x1 * x3) + x4) y2))
def ml_X9_copyRow_3 (F : Nat) (n_p1 : Nat) (x1 : Int) (x2 : Int) (x3 : Int) (x4 : Int) (c_p1 : Int → Int) : Option ((Int → Int)) :=
  loopN (fun (k : Int × (Int → Int) → Option ((Int → Int))) q => mb_X9_copyRow_3 F (fun y0 y1 => k (y0, y1)) n_p1 x1 x2 x3 q.1 q.2) F (x4, c_p1)
def m_X9_copyRow (F : Nat) (n_p1 : Nat) (x1 : Int) (x2 : Int) (x3 : Int) (c_p1 : Int → Int) : Option ((Int → Int)) :=
  ml_X9_copyRow_3 F n_p1 x1 x2 x3 0 c_p1
section S_X9_copyRow
variable {E : EE} {a_p1 : Nat} {n_p1 : Nat}
set_option maxRecDepth 100000 in
set_option maxHeartbeats 4000000 in
theorem wb_X9_copyRow_3 {F : Nat} {k3 : Int → (Int → Int) → Option ((Int → Int))} {v : (Int → Int)} {x1 : Int} {x2 : Int} {x3 : Int} {x4 : Int} {c_p1 : Int → Int} (C : Cx E cX9_copyRow RX9 { frames := 0, cells := 0, slots := 0, locals := 0 }) (hN : eN E = 5) (h : mb_X9_copyRow_3 F k3 n_p1 x1 x2 x3 x4 c_p1 = some v) (hk3 : ∀ (y_x4 : Int) (y_c_p1 : Int → Int), k3 y_x4 y_c_p1 = some v → GG E 0 0 (W_X9_copyRow (eCy E) a_p1 n_p1 y_c_p1) [some (.ref a_p1), some (.int (wI x1)), some (.int (wI x2)), some (.int (wI x3)), some (.int (wI y_x4))] 3 []) (hlt_n_p1 : Nat.blt n_p1 2147483648 = true) (hret : ∀ (pc : Nat) (L : List (Option Value)), decode cX9_copyRow pc = .ok (.return_, 1) → GG E 0 0 (W_X9_copyRow (eCy E) a_p1 n_p1 v) L pc []) : GG E 0 0 (W_X9_copyRow (eCy E) a_p1 n_p1 c_p1) [some (.ref a_p1), some (.int (wI x1)), some (.int (wI x2)), some (.int (wI x3)), some (.int (wI x4))] 3 [] := by
  unfold mb_X9_copyRow_3 at h
  refine g_iload C dX9_copyRow_3 rfl ?_
  refine g_iload_n 1 C dX9_copyRow_5 rfl rfl ?_
  refine g_icmp_ge 31 C dX9_copyRow_6 (by decide) h (fun h => ?_) (fun h => ?_)
  · cases h
    exact hret 31 _ dX9_copyRow_31
  · refine g_aload_n 0 C dX9_copyRow_9 rfl rfl ?_
    refine g_iload_n 1 C dX9_copyRow_10 rfl rfl ?_
    refine g_iload_n 3 C dX9_copyRow_11 rfl rfl ?_
    refine g_imul C dX9_copyRow_12 ?_
    refine g_iload C dX9_copyRow_13 rfl ?_
    refine g_iadd C dX9_copyRow_15 ?_
    refine g_aload_n 0 C dX9_copyRow_16 rfl rfl ?_
    refine g_iload_n 1 C dX9_copyRow_17 rfl rfl ?_
    refine g_iload_n 2 C dX9_copyRow_18 rfl rfl ?_
    refine g_imul C dX9_copyRow_19 ?_
    refine g_iload C dX9_copyRow_20 rfl ?_
    refine g_iadd C dX9_copyRow_22 ?_
    obtain ⟨hc1, h⟩ := chk_some h
    refine g_iald C 0 rfl hc1 hlt_n_p1 dX9_copyRow_23 ?_
    obtain ⟨y2, e_y2, h⟩ := nam_some h
    refine g_topI e_y2 ?_
    obtain ⟨hc3, h⟩ := chk_some h
    refine g_iast C 0 rfl hc3 hlt_n_p1 (ws' := (W_X9_copyRow (eCy E) a_p1 n_p1 (up c_p1 ((x1 * x3) + x4) y2))) rfl dX9_copyRow_24 ?_
    refine g_iinc C hN dX9_copyRow_25 rfl rfl (L' := [some (.ref a_p1), some (.int (wI x1)), some (.int (wI x2)), some (.int (wI x3)), some (.int (wI (x4 + 1)))]) rfl ?_
    refine g_goto (tgt := 3) C dX9_copyRow_28 (by decide) ?_
    exact hk3 _ _ h
set_option maxRecDepth 100000 in
set_option maxHeartbeats 4000000 in
theorem wl_X9_copyRow_3 {F : Nat} {v : (Int → Int)} {x1 : Int} {x2 : Int} {x3 : Int} {x4 : Int} {c_p1 : Int → Int} (C : Cx E cX9_copyRow RX9 { frames := 0, cells := 0, slots := 0, locals := 0 }) (hN : eN E = 5) (h : ml_X9_copyRow_3 F n_p1 x1 x2 x3 x4 c_p1 = some v) (hlt_n_p1 : Nat.blt n_p1 2147483648 = true) (hret : ∀ (pc : Nat) (L : List (Option Value)), decode cX9_copyRow pc = .ok (.return_, 1) → GG E 0 0 (W_X9_copyRow (eCy E) a_p1 n_p1 v) L pc []) : GG E 0 0 (W_X9_copyRow (eCy E) a_p1 n_p1 c_p1) [some (.ref a_p1), some (.int (wI x1)), some (.int (wI x2)), some (.int (wI x3)), some (.int (wI x4))] 3 [] := by
  unfold ml_X9_copyRow_3 at h
  exact loop_walk (g := fun (q : Int × (Int → Int)) => GG E 0 0 (W_X9_copyRow (eCy E) a_p1 n_p1 (q.2)) [some (.ref a_p1), some (.int (wI x1)), some (.int (wI x2)), some (.int (wI x3)), some (.int (wI (q.1)))] 3 []) (fun k hk q h => wb_X9_copyRow_3 C hN h (fun y0 y1 hh => hk (y0, y1) hh) hlt_n_p1 hret) F (x4, c_p1) h
set_option maxRecDepth 100000 in
set_option maxHeartbeats 4000000 in
theorem wm_X9_copyRow {F : Nat} {v : (Int → Int)} {x1 : Int} {x2 : Int} {x3 : Int} {c_p1 : Int → Int} (C : Cx E cX9_copyRow RX9 { frames := 0, cells := 0, slots := 0, locals := 0 }) (hN : eN E = 5) (h : m_X9_copyRow F n_p1 x1 x2 x3 c_p1 = some v) (hlt_n_p1 : Nat.blt n_p1 2147483648 = true) (hret : ∀ (pc : Nat) (L : List (Option Value)), decode cX9_copyRow pc = .ok (.return_, 1) → GG E 0 0 (W_X9_copyRow (eCy E) a_p1 n_p1 v) L pc []) : GG E 0 0 (W_X9_copyRow (eCy E) a_p1 n_p1 c_p1) [some (.ref a_p1), some (.int (wI x1)), some (.int (wI x2)), some (.int (wI x3)), none] 0 [] := by
  unfold m_X9_copyRow at h
  refine g_iconst C dX9_copyRow_0 ?_
  refine g_istore C hN dX9_copyRow_1 rfl (L' := [some (.ref a_p1), some (.int (wI x1)), some (.int (wI x2)), some (.int (wI x3)), some (.int (wI 0))]) rfl ?_
  exact wl_X9_copyRow_3 C hN h hlt_n_p1 hret
end S_X9_copyRow
set_option maxRecDepth 100000 in
set_option maxHeartbeats 4000000 in
theorem c_X9_copyRow (l : Launch) (D : va_G) (cy : Nat → ClassId) (ad : AD) (a_p1 : Nat) (n_p1 : Nat) (x1 : Int) (x2 : Int) (x3 : Int) (c_p1 : Int → Int) (F : Nat) {v : (Int → Int)} (h : m_X9_copyRow F n_p1 x1 x2 x3 c_p1 = some v) (hlt_n_p1 : Nat.blt n_p1 2147483648 = true) : Ct l yX9_copyRow cX9_copyRow 5 none { frames := 0, cells := 0, slots := 0, locals := 0 } D cy ad [.ref a_p1, .int (wI x1), .int (wI x2), .int (wI x3)] (W_X9_copyRow cy a_p1 n_p1 c_p1) (W_X9_copyRow cy a_p1 n_p1 v) none := by
  refine Ct.introV (j := 1) (plainFor_of_name (by decide)) rfl rfl (fun E C e1 e2 e3 e4 e5 hret => ?_)
  subst e1; subst e2; subst e3; subst e4
  exact wm_X9_copyRow C e5 h hlt_n_p1 hret
-- MovingStairModel.copyStair(II)V
def W_X9_copyStair (cy : Nat → ClassId) (a_t a_t_act a_t_band a_t_has a_t_lines a_t_pace a_t_part : Nat) (g_t_0 : Value) (g_t_1 : Value) (g_t_2 : Value) (g_t_3 : Value) (g_t_4 : Value) (g_t_5 : Value) (g_t_6 : Value) (g_t_7 : Value) (g_t_8 : Value) (g_t_9 : Value) (g_t_10 : Value) (g_t_11 : Value) (g_t_12 : Value) (g_t_13 : Value) (g_t_14 : Value) (g_t_15 : Value) (g_t_22 : Value) (g_t_23 : Value) (g_t_24 : Value) (g_t_25 : Value) (g_t_26 : Value) (g_t_27 : Value) (g_t_28 : Value) (g_t_29 : Value) (g_t_30 : Value) (g_t_31 : Value) (g_t_32 : Value) (g_t_33 : Value) (g_t_34 : Value) (g_t_35 : Value) (g_t_36 : Value) (g_t_37 : Value) (g_t_38 : Value) (g_t_39 : Value) (g_t_40 : Value) (g_t_41 : Value) (g_t_42 : Value) (g_t_43 : Value) (c_act : Int → Int) (c_band : Int → Int) (c_has : Int → Int) (c_lines : Int → Int) (c_pace : Int → Int) (c_part : Int → Int) : va_W := [(a_t, .inr (9, [g_t_0, g_t_1, g_t_2, g_t_3, g_t_4, g_t_5, g_t_6, g_t_7, g_t_8, g_t_9, g_t_10, g_t_11, g_t_12, g_t_13, g_t_14, g_t_15, .ref a_t_lines, .ref a_t_has, .ref a_t_part, .ref a_t_pace, .ref a_t_band, .ref a_t_act, g_t_22, g_t_23, g_t_24, g_t_25, g_t_26, g_t_27, g_t_28, g_t_29, g_t_30, g_t_31, g_t_32, g_t_33, g_t_34, g_t_35, g_t_36, g_t_37, g_t_38, g_t_39, g_t_40, g_t_41, g_t_42, g_t_43])), (a_t_act, .inl (cy 1, 600, .inl (aI c_act))), (a_t_band, .inl (cy 1, 20, .inl (aI c_band))), (a_t_has, .inl (cy 1, 45, .inl (aI c_has))), (a_t_lines, .inl (cy 1, 5, .inl (aI c_lines))), (a_t_pace, .inl (cy 1, 40, .inl (aI c_pace))), (a_t_part, .inl (cy 1, 40, .inl (aI c_part)))]
def m_X9_copyStair (F : Nat) (x1 : Int) (x2 : Int) (c_act : Int → Int) (c_band : Int → Int) (c_has : Int → Int) (c_lines : Int → Int) (c_pace : Int → Int) (c_part : Int → Int) : Option ((Int → Int) × (Int → Int) × (Int → Int) × (Int → Int) × (Int → Int) × (Int → Int)) :=
  bnd1 (m_X9_copyRow F 5 1 x1 x2 c_lines) fun o1 => bnd1 (m_X9_copyRow F 45 9 x1 x2 c_has) fun o3 => bnd1 (m_X9_copyRow F 40 8 x1 x2 c_part) fun o5 => bnd1 (m_X9_copyRow F 40 8 x1 x2 c_pace) fun o7 => bnd1 (m_X9_copyRow F 20 4 x1 x2 c_band) fun o9 => bnd1 (m_X9_copyRow F 600 120 x1 x2 c_act) fun o11 => some (o11, o9, o3, o1, o7, o5)
section S_X9_copyStair
variable {E : EE} {a_t a_t_act a_t_band a_t_has a_t_lines a_t_pace a_t_part : Nat} {g_t_0 : Value} {g_t_1 : Value} {g_t_2 : Value} {g_t_3 : Value} {g_t_4 : Value} {g_t_5 : Value} {g_t_6 : Value} {g_t_7 : Value} {g_t_8 : Value} {g_t_9 : Value} {g_t_10 : Value} {g_t_11 : Value} {g_t_12 : Value} {g_t_13 : Value} {g_t_14 : Value} {g_t_15 : Value} {g_t_22 : Value} {g_t_23 : Value} {g_t_24 : Value} {g_t_25 : Value} {g_t_26 : Value} {g_t_27 : Value} {g_t_28 : Value} {g_t_29 : Value} {g_t_30 : Value} {g_t_31 : Value} {g_t_32 : Value} {g_t_33 : Value} {g_t_34 : Value} {g_t_35 : Value} {g_t_36 : Value} {g_t_37 : Value} {g_t_38 : Value} {g_t_39 : Value} {g_t_40 : Value} {g_t_41 : Value} {g_t_42 : Value} {g_t_43 : Value}
set_option maxRecDepth 100000 in
set_option maxHeartbeats 4000000 in
theorem wm_X9_copyStair {F : Nat} {v : (Int → Int) × (Int → Int) × (Int → Int) × (Int → Int) × (Int → Int) × (Int → Int)} {x1 : Int} {x2 : Int} {c_act : Int → Int} {c_band : Int → Int} {c_has : Int → Int} {c_lines : Int → Int} {c_pace : Int → Int} {c_part : Int → Int} (C : Cx E cX9_copyStair RX9 { frames := 1, cells := 0, slots := 0, locals := 24 }) (hN : eN E = 3) (h : m_X9_copyStair F x1 x2 c_act c_band c_has c_lines c_pace c_part = some v) (hret : ∀ (pc : Nat) (L : List (Option Value)), decode cX9_copyStair pc = .ok (.return_, 1) → GG E 0 0 (W_X9_copyStair (eCy E) a_t a_t_act a_t_band a_t_has a_t_lines a_t_pace a_t_part g_t_0 g_t_1 g_t_2 g_t_3 g_t_4 g_t_5 g_t_6 g_t_7 g_t_8 g_t_9 g_t_10 g_t_11 g_t_12 g_t_13 g_t_14 g_t_15 g_t_22 g_t_23 g_t_24 g_t_25 g_t_26 g_t_27 g_t_28 g_t_29 g_t_30 g_t_31 g_t_32 g_t_33 g_t_34 g_t_35 g_t_36 g_t_37 g_t_38 g_t_39 g_t_40 g_t_41 g_t_42 g_t_43 (v.1) (v.2.1) (v.2.2.1) (v.2.2.2.1) (v.2.2.2.2.1) (v.2.2.2.2.2)) L pc []) : GG E 0 0 (W_X9_copyStair (eCy E) a_t a_t_act a_t_band a_t_has a_t_lines a_t_pace a_t_part g_t_0 g_t_1 g_t_2 g_t_3 g_t_4 g_t_5 g_t_6 g_t_7 g_t_8 g_t_9 g_t_10 g_t_11 g_t_12 g_t_13 g_t_14 g_t_15 g_t_22 g_t_23 g_t_24 g_t_25 g_t_26 g_t_27 g_t_28 g_t_29 g_t_30 g_t_31 g_t_32 g_t_33 g_t_34 g_t_35 g_t_36 g_t_37 g_t_38 g_t_39 g_t_40 g_t_41 g_t_42 g_t_43 c_act c_band c_has c_lines c_pace c_part) [some (.ref a_t), some (.int (wI x1)), some (.int (wI x2))] 0 [] := by
  unfold m_X9_copyStair at h
  refine g_aload_n 0 C dX9_copyStair_0 rfl rfl ?_
  refine g_get C fg_X9_31 0 rfl rfl dX9_copyStair_1 ?_
  refine g_iconst C dX9_copyStair_4 ?_
  refine g_iload_n 1 C dX9_copyStair_5 rfl rfl ?_
  refine g_iload_n 2 C dX9_copyStair_6 rfl rfl ?_
  obtain ⟨o1, hr2, h⟩ := bnd1_some h
  refine g_callSV [4] [0, 1, 2, 3, 5, 6] [0, 1, 2, 3, 6, 4, 5] C mt_X9_223 (c_X9_copyRow _ _ _ _ a_t_lines 5 1 x1 x2 c_lines F hr2 rfl) rfl rfl (ws2 := (W_X9_copyStair (eCy E) a_t a_t_act a_t_band a_t_has a_t_lines a_t_pace a_t_part g_t_0 g_t_1 g_t_2 g_t_3 g_t_4 g_t_5 g_t_6 g_t_7 g_t_8 g_t_9 g_t_10 g_t_11 g_t_12 g_t_13 g_t_14 g_t_15 g_t_22 g_t_23 g_t_24 g_t_25 g_t_26 g_t_27 g_t_28 g_t_29 g_t_30 g_t_31 g_t_32 g_t_33 g_t_34 g_t_35 g_t_36 g_t_37 g_t_38 g_t_39 g_t_40 g_t_41 g_t_42 g_t_43 c_act c_band c_has o1 c_pace c_part)) rfl rfl rfl (rest := []) rfl rfl rfl dX9_copyStair_7 ?_
  refine g_aload_n 0 C dX9_copyStair_10 rfl rfl ?_
  refine g_get C fg_X9_34 0 rfl rfl dX9_copyStair_11 ?_
  refine g_bipush C dX9_copyStair_14 (by decide) ?_
  refine g_iload_n 1 C dX9_copyStair_16 rfl rfl ?_
  refine g_iload_n 2 C dX9_copyStair_17 rfl rfl ?_
  obtain ⟨o3, hr4, h⟩ := bnd1_some h
  refine g_callSV [3] [0, 1, 2, 4, 5, 6] [0, 1, 2, 6, 3, 4, 5] C mt_X9_223 (c_X9_copyRow _ _ _ _ a_t_has 45 9 x1 x2 c_has F hr4 rfl) rfl rfl (ws2 := (W_X9_copyStair (eCy E) a_t a_t_act a_t_band a_t_has a_t_lines a_t_pace a_t_part g_t_0 g_t_1 g_t_2 g_t_3 g_t_4 g_t_5 g_t_6 g_t_7 g_t_8 g_t_9 g_t_10 g_t_11 g_t_12 g_t_13 g_t_14 g_t_15 g_t_22 g_t_23 g_t_24 g_t_25 g_t_26 g_t_27 g_t_28 g_t_29 g_t_30 g_t_31 g_t_32 g_t_33 g_t_34 g_t_35 g_t_36 g_t_37 g_t_38 g_t_39 g_t_40 g_t_41 g_t_42 g_t_43 c_act c_band o3 o1 c_pace c_part)) rfl rfl rfl (rest := []) rfl rfl rfl dX9_copyStair_18 ?_
  refine g_aload_n 0 C dX9_copyStair_21 rfl rfl ?_
  refine g_get C fg_X9_37 0 rfl rfl dX9_copyStair_22 ?_
  refine g_bipush C dX9_copyStair_25 (by decide) ?_
  refine g_iload_n 1 C dX9_copyStair_27 rfl rfl ?_
  refine g_iload_n 2 C dX9_copyStair_28 rfl rfl ?_
  obtain ⟨o5, hr6, h⟩ := bnd1_some h
  refine g_callSV [6] [0, 1, 2, 3, 4, 5] [0, 1, 2, 3, 4, 5, 6] C mt_X9_223 (c_X9_copyRow _ _ _ _ a_t_part 40 8 x1 x2 c_part F hr6 rfl) rfl rfl (ws2 := (W_X9_copyStair (eCy E) a_t a_t_act a_t_band a_t_has a_t_lines a_t_pace a_t_part g_t_0 g_t_1 g_t_2 g_t_3 g_t_4 g_t_5 g_t_6 g_t_7 g_t_8 g_t_9 g_t_10 g_t_11 g_t_12 g_t_13 g_t_14 g_t_15 g_t_22 g_t_23 g_t_24 g_t_25 g_t_26 g_t_27 g_t_28 g_t_29 g_t_30 g_t_31 g_t_32 g_t_33 g_t_34 g_t_35 g_t_36 g_t_37 g_t_38 g_t_39 g_t_40 g_t_41 g_t_42 g_t_43 c_act c_band o3 o1 c_pace o5)) rfl rfl rfl (rest := []) rfl rfl rfl dX9_copyStair_29 ?_
  refine g_aload_n 0 C dX9_copyStair_32 rfl rfl ?_
  refine g_get C fg_X9_40 0 rfl rfl dX9_copyStair_33 ?_
  refine g_bipush C dX9_copyStair_36 (by decide) ?_
  refine g_iload_n 1 C dX9_copyStair_38 rfl rfl ?_
  refine g_iload_n 2 C dX9_copyStair_39 rfl rfl ?_
  obtain ⟨o7, hr8, h⟩ := bnd1_some h
  refine g_callSV [5] [0, 1, 2, 3, 4, 6] [0, 1, 2, 3, 4, 6, 5] C mt_X9_223 (c_X9_copyRow _ _ _ _ a_t_pace 40 8 x1 x2 c_pace F hr8 rfl) rfl rfl (ws2 := (W_X9_copyStair (eCy E) a_t a_t_act a_t_band a_t_has a_t_lines a_t_pace a_t_part g_t_0 g_t_1 g_t_2 g_t_3 g_t_4 g_t_5 g_t_6 g_t_7 g_t_8 g_t_9 g_t_10 g_t_11 g_t_12 g_t_13 g_t_14 g_t_15 g_t_22 g_t_23 g_t_24 g_t_25 g_t_26 g_t_27 g_t_28 g_t_29 g_t_30 g_t_31 g_t_32 g_t_33 g_t_34 g_t_35 g_t_36 g_t_37 g_t_38 g_t_39 g_t_40 g_t_41 g_t_42 g_t_43 c_act c_band o3 o1 o7 o5)) rfl rfl rfl (rest := []) rfl rfl rfl dX9_copyStair_40 ?_
  refine g_aload_n 0 C dX9_copyStair_43 rfl rfl ?_
  refine g_get C fg_X9_43 0 rfl rfl dX9_copyStair_44 ?_
  refine g_iconst C dX9_copyStair_47 ?_
  refine g_iload_n 1 C dX9_copyStair_48 rfl rfl ?_
  refine g_iload_n 2 C dX9_copyStair_49 rfl rfl ?_
  obtain ⟨o9, hr10, h⟩ := bnd1_some h
  refine g_callSV [2] [0, 1, 3, 4, 5, 6] [0, 1, 6, 2, 3, 4, 5] C mt_X9_223 (c_X9_copyRow _ _ _ _ a_t_band 20 4 x1 x2 c_band F hr10 rfl) rfl rfl (ws2 := (W_X9_copyStair (eCy E) a_t a_t_act a_t_band a_t_has a_t_lines a_t_pace a_t_part g_t_0 g_t_1 g_t_2 g_t_3 g_t_4 g_t_5 g_t_6 g_t_7 g_t_8 g_t_9 g_t_10 g_t_11 g_t_12 g_t_13 g_t_14 g_t_15 g_t_22 g_t_23 g_t_24 g_t_25 g_t_26 g_t_27 g_t_28 g_t_29 g_t_30 g_t_31 g_t_32 g_t_33 g_t_34 g_t_35 g_t_36 g_t_37 g_t_38 g_t_39 g_t_40 g_t_41 g_t_42 g_t_43 c_act o9 o3 o1 o7 o5)) rfl rfl rfl (rest := []) rfl rfl rfl dX9_copyStair_50 ?_
  refine g_aload_n 0 C dX9_copyStair_53 rfl rfl ?_
  refine g_get C fg_X9_46 0 rfl rfl dX9_copyStair_54 ?_
  refine g_bipush C dX9_copyStair_57 (by decide) ?_
  refine g_iload_n 1 C dX9_copyStair_59 rfl rfl ?_
  refine g_iload_n 2 C dX9_copyStair_60 rfl rfl ?_
  obtain ⟨o11, hr12, h⟩ := bnd1_some h
  refine g_callSV [1] [0, 2, 3, 4, 5, 6] [0, 6, 1, 2, 3, 4, 5] C mt_X9_223 (c_X9_copyRow _ _ _ _ a_t_act 600 120 x1 x2 c_act F hr12 rfl) rfl rfl (ws2 := (W_X9_copyStair (eCy E) a_t a_t_act a_t_band a_t_has a_t_lines a_t_pace a_t_part g_t_0 g_t_1 g_t_2 g_t_3 g_t_4 g_t_5 g_t_6 g_t_7 g_t_8 g_t_9 g_t_10 g_t_11 g_t_12 g_t_13 g_t_14 g_t_15 g_t_22 g_t_23 g_t_24 g_t_25 g_t_26 g_t_27 g_t_28 g_t_29 g_t_30 g_t_31 g_t_32 g_t_33 g_t_34 g_t_35 g_t_36 g_t_37 g_t_38 g_t_39 g_t_40 g_t_41 g_t_42 g_t_43 o11 o9 o3 o1 o7 o5)) rfl rfl rfl (rest := []) rfl rfl rfl dX9_copyStair_61 ?_
  cases h
  exact hret 64 _ dX9_copyStair_64
end S_X9_copyStair
set_option maxRecDepth 100000 in
set_option maxHeartbeats 4000000 in
theorem c_X9_copyStair (l : Launch) (D : va_G) (cy : Nat → ClassId) (ad : AD) (a_t a_t_act a_t_band a_t_has a_t_lines a_t_pace a_t_part : Nat) (g_t_0 : Value) (g_t_1 : Value) (g_t_2 : Value) (g_t_3 : Value) (g_t_4 : Value) (g_t_5 : Value) (g_t_6 : Value) (g_t_7 : Value) (g_t_8 : Value) (g_t_9 : Value) (g_t_10 : Value) (g_t_11 : Value) (g_t_12 : Value) (g_t_13 : Value) (g_t_14 : Value) (g_t_15 : Value) (g_t_22 : Value) (g_t_23 : Value) (g_t_24 : Value) (g_t_25 : Value) (g_t_26 : Value) (g_t_27 : Value) (g_t_28 : Value) (g_t_29 : Value) (g_t_30 : Value) (g_t_31 : Value) (g_t_32 : Value) (g_t_33 : Value) (g_t_34 : Value) (g_t_35 : Value) (g_t_36 : Value) (g_t_37 : Value) (g_t_38 : Value) (g_t_39 : Value) (g_t_40 : Value) (g_t_41 : Value) (g_t_42 : Value) (g_t_43 : Value) (x1 : Int) (x2 : Int) (c_act : Int → Int) (c_band : Int → Int) (c_has : Int → Int) (c_lines : Int → Int) (c_pace : Int → Int) (c_part : Int → Int) (F : Nat) {v : (Int → Int) × (Int → Int) × (Int → Int) × (Int → Int) × (Int → Int) × (Int → Int)} (h : m_X9_copyStair F x1 x2 c_act c_band c_has c_lines c_pace c_part = some v) : Ct l yX9_copyStair cX9_copyStair 3 none { frames := 1, cells := 0, slots := 0, locals := 24 } D cy ad [.ref a_t, .int (wI x1), .int (wI x2)] (W_X9_copyStair cy a_t a_t_act a_t_band a_t_has a_t_lines a_t_pace a_t_part g_t_0 g_t_1 g_t_2 g_t_3 g_t_4 g_t_5 g_t_6 g_t_7 g_t_8 g_t_9 g_t_10 g_t_11 g_t_12 g_t_13 g_t_14 g_t_15 g_t_22 g_t_23 g_t_24 g_t_25 g_t_26 g_t_27 g_t_28 g_t_29 g_t_30 g_t_31 g_t_32 g_t_33 g_t_34 g_t_35 g_t_36 g_t_37 g_t_38 g_t_39 g_t_40 g_t_41 g_t_42 g_t_43 c_act c_band c_has c_lines c_pace c_part) (W_X9_copyStair cy a_t a_t_act a_t_band a_t_has a_t_lines a_t_pace a_t_part g_t_0 g_t_1 g_t_2 g_t_3 g_t_4 g_t_5 g_t_6 g_t_7 g_t_8 g_t_9 g_t_10 g_t_11 g_t_12 g_t_13 g_t_14 g_t_15 g_t_22 g_t_23 g_t_24 g_t_25 g_t_26 g_t_27 g_t_28 g_t_29 g_t_30 g_t_31 g_t_32 g_t_33 g_t_34 g_t_35 g_t_36 g_t_37 g_t_38 g_t_39 g_t_40 g_t_41 g_t_42 g_t_43 (v.1) (v.2.1) (v.2.2.1) (v.2.2.2.1) (v.2.2.2.2.1) (v.2.2.2.2.2)) none := by
  refine Ct.introV (j := 0) (plainFor_of_name (by decide)) rfl rfl (fun E C e1 e2 e3 e4 e5 hret => ?_)
  subst e1; subst e2; subst e3; subst e4
  exact wm_X9_copyStair C e5 h hret
-- MovingStairModel.stair()I
def W_X9_stair (cy : Nat → ClassId) (a_t a_t_act a_t_band a_t_has a_t_lines a_t_pace a_t_part a_t_tape : Nat) (g_t_1 : Value) (g_t_2 : Value) (g_t_3 : Value) (g_t_4 : Value) (g_t_22 : Value) (g_t_23 : Value) (g_t_24 : Value) (g_t_25 : Value) (g_t_26 : Value) (g_t_27 : Value) (g_t_28 : Value) (g_t_29 : Value) (g_t_30 : Value) (g_t_31 : Value) (g_t_32 : Value) (g_t_33 : Value) (g_t_34 : Value) (g_t_35 : Value) (g_t_36 : Value) (g_t_37 : Value) (g_t_38 : Value) (g_t_39 : Value) (g_t_40 : Value) (g_t_41 : Value) (g_t_42 : Value) (g_t_43 : Value) (c_thrown : Int) (c_taped : Int) (c_at : Int) (c_token : Int) (c_place : Int) (c_value : Int) (c_word : Int) (c_bad : Int) (c_badPlace : Int) (c_fault : Int) (c_faultPlace : Int) (c_act : Int → Int) (c_band : Int → Int) (c_has : Int → Int) (c_lines : Int → Int) (c_pace : Int → Int) (c_part : Int → Int) (c_tape : Int → Int) : va_W := [(a_t, .inr (9, [.int (wI c_thrown), g_t_1, g_t_2, g_t_3, g_t_4, .ref a_t_tape, .int (wI c_taped), .int (wI c_at), .int (wI c_token), .int (wI c_place), .int (wI c_value), .long (wJ c_word), .int (wI c_bad), .int (wI c_badPlace), .int (wI c_fault), .int (wI c_faultPlace), .ref a_t_lines, .ref a_t_has, .ref a_t_part, .ref a_t_pace, .ref a_t_band, .ref a_t_act, g_t_22, g_t_23, g_t_24, g_t_25, g_t_26, g_t_27, g_t_28, g_t_29, g_t_30, g_t_31, g_t_32, g_t_33, g_t_34, g_t_35, g_t_36, g_t_37, g_t_38, g_t_39, g_t_40, g_t_41, g_t_42, g_t_43])), (a_t_act, .inl (cy 1, 600, .inl (aI c_act))), (a_t_band, .inl (cy 1, 20, .inl (aI c_band))), (a_t_has, .inl (cy 1, 45, .inl (aI c_has))), (a_t_lines, .inl (cy 1, 5, .inl (aI c_lines))), (a_t_pace, .inl (cy 1, 40, .inl (aI c_pace))), (a_t_part, .inl (cy 1, 40, .inl (aI c_part))), (a_t_tape, .inl (cy 0, 900, .inl (aI c_tape)))]
def mb_X9_stair_76 (F : Nat) (k13 : Int → Int → Int → Int → Int → Int → Int → (Int → Int) → (Int → Int) → (Int → Int) → (Int → Int) → (Int → Int) → Option (Int × Int × Int × Int × Int × Int × Int × Int × Int × Int × Int × Int × (Int → Int) × (Int → Int) × (Int → Int) × (Int → Int) × (Int → Int) × (Int → Int))) (c_thrown : Int) (c_taped : Int) (c_at : Int) (c_token : Int) (c_place : Int) (c_value : Int) (c_word : Int) (c_bad : Int) (c_badPlace : Int) (c_act : Int → Int) (c_band : Int → Int) (c_has : Int → Int) (c_lines : Int → Int) (c_pace : Int → Int) (c_part : Int → Int) (c_tape : Int → Int) : Option (Int × Int × Int × Int × Int × Int × Int × Int × Int × Int × Int × Int × (Int → Int) × (Int → Int) × (Int → Int) × (Int → Int) × (Int → Int) × (Int → Int)) :=
  nam ((c_lines 4) + 1) fun y1 => k13 c_at c_token c_place c_value c_word c_bad c_badPlace c_band c_has (up c_lines 4 y1) c_pace c_part
def mb_X9_stair_65 (F : Nat) (k13 : Int → Int → Int → Int → Int → Int → Int → (Int → Int) → (Int → Int) → (Int → Int) → (Int → Int) → (Int → Int) → Option (Int × Int × Int × Int × Int × Int × Int × Int × Int × Int × Int × Int × (Int → Int) × (Int → Int) × (Int → Int) × (Int → Int) × (Int → Int) × (Int → Int))) (c_thrown : Int) (c_taped : Int) (c_at : Int) (c_token : Int) (c_place : Int) (c_value : Int) (c_word : Int) (c_bad : Int) (c_badPlace : Int) (c_act : Int → Int) (c_band : Int → Int) (c_has : Int → Int) (c_lines : Int → Int) (c_pace : Int → Int) (c_part : Int → Int) (c_tape : Int → Int) : Option (Int × Int × Int × Int × Int × Int × Int × Int × Int × Int × Int × Int × (Int → Int) × (Int → Int) × (Int → Int) × (Int → Int) × (Int → Int) × (Int → Int)) :=
  bnd1 (m_X9_isGood F c_bad) fun r1 => if wI r1 = wI 0 then
    (mb_X9_stair_76 F k13 c_thrown c_taped c_at c_token c_place c_value c_word c_bad c_badPlace c_act c_band c_has c_lines c_pace c_part c_tape)
  else
    (bnd7 (m_X9_ends F c_taped c_at c_token c_place c_value c_word c_bad c_badPlace c_tape) fun o3 o4 o5 o6 o7 o8 o9 => mb_X9_stair_76 F k13 c_thrown c_taped o3 o4 o5 o6 o7 o8 o9 c_act c_band c_has c_lines c_pace c_part c_tape)
def mb_X9_stair_89 (F : Nat) (c_thrown : Int) (c_at : Int) (c_token : Int) (c_place : Int) (c_value : Int) (c_word : Int) (c_bad : Int) (c_badPlace : Int) (c_act : Int → Int) (c_band : Int → Int) (c_has : Int → Int) (c_lines : Int → Int) (c_pace : Int → Int) (c_part : Int → Int) : Option (Int × Int × Int × Int × Int × Int × Int × Int × Int × Int × Int × Int × (Int → Int) × (Int → Int) × (Int → Int) × (Int → Int) × (Int → Int) × (Int → Int)) :=
  bnd3 (m_X9_isOver F c_bad c_badPlace) fun o1 o2 o3 => if wI c_bad = wI 0 then
    (bnd6 (m_X9_copyStair F 4 0 c_act c_band c_has c_lines c_pace c_part) fun o5 o6 o7 o8 o9 o10 => some (o8 0, c_thrown, o1, c_at, c_token, c_place, c_value, c_word, c_bad, c_badPlace, o2, o3, o5, o6, o7, o8, o9, o10))
  else
    (some ((-4), c_thrown, o1, c_at, c_token, c_place, c_value, c_word, c_bad, c_badPlace, o2, o3, c_act, c_band, c_has, c_lines, c_pace, c_part))
def mb_X9_stair_13 (F : Nat) (k13 : Int → Int → Int → Int → Int → Int → Int → (Int → Int) → (Int → Int) → (Int → Int) → (Int → Int) → (Int → Int) → Option (Int × Int × Int × Int × Int × Int × Int × Int × Int × Int × Int × Int × (Int → Int) × (Int → Int) × (Int → Int) × (Int → Int) × (Int → Int) × (Int → Int))) (c_thrown : Int) (c_taped : Int) (c_at : Int) (c_token : Int) (c_place : Int) (c_value : Int) (c_word : Int) (c_bad : Int) (c_badPlace : Int) (c_act : Int → Int) (c_band : Int → Int) (c_has : Int → Int) (c_lines : Int → Int) (c_pace : Int → Int) (c_part : Int → Int) (c_tape : Int → Int) : Option (Int × Int × Int × Int × Int × Int × Int × Int × Int × Int × Int × Int × (Int → Int) × (Int → Int) × (Int → Int) × (Int → Int) × (Int → Int) × (Int → Int)) :=
  bnd1 (m_X9_isGood F c_bad) fun r1 => if wI r1 = wI 0 then
    (mb_X9_stair_89 F c_thrown c_at c_token c_place c_value c_word c_bad c_badPlace c_act c_band c_has c_lines c_pace c_part)
  else
    (if wI c_token = wI 0 then
    (mb_X9_stair_89 F c_thrown c_at c_token c_place c_value c_word c_bad c_badPlace c_act c_band c_has c_lines c_pace c_part)
  else
    (if wI (c_lines 4) = wI 0 then
    (bnd7 (m_X9_asks F 10492029 c_taped c_at c_token c_place c_value c_word c_bad c_badPlace c_tape) fun o3 o4 o5 o6 o7 o8 o9 => bnd8 (m_X9_number_ F 298288 0 100 c_taped o3 o4 o5 o6 o7 o8 o9 c_tape) fun r11 o12 o13 o14 o15 o16 o17 o18 => bnd1 (m_X9_tells F 0 r11 c_has) fun o20 => mb_X9_stair_65 F k13 c_thrown c_taped o12 o13 o14 o15 o16 o17 o18 c_act c_band o20 c_lines c_pace c_part c_tape)
  else
    (bnd11 (m_X9_line F c_taped c_at c_token c_place c_value c_word c_bad c_badPlace c_band c_has c_pace c_part c_tape) fun o3 o4 o5 o6 o7 o8 o9 o10 o11 o12 o13 => mb_X9_stair_65 F k13 c_thrown c_taped o3 o4 o5 o6 o7 o8 o9 c_act o10 o11 c_lines o12 o13 c_tape)))
def ml_X9_stair_13 (F : Nat) (c_thrown : Int) (c_taped : Int) (c_at : Int) (c_token : Int) (c_place : Int) (c_value : Int) (c_word : Int) (c_bad : Int) (c_badPlace : Int) (c_act : Int → Int) (c_band : Int → Int) (c_has : Int → Int) (c_lines : Int → Int) (c_pace : Int → Int) (c_part : Int → Int) (c_tape : Int → Int) : Option (Int × Int × Int × Int × Int × Int × Int × Int × Int × Int × Int × Int × (Int → Int) × (Int → Int) × (Int → Int) × (Int → Int) × (Int → Int) × (Int → Int)) :=
  loopN (fun (k : Int × Int × Int × Int × Int × Int × Int × (Int → Int) × (Int → Int) × (Int → Int) × (Int → Int) × (Int → Int) → Option (Int × Int × Int × Int × Int × Int × Int × Int × Int × Int × Int × Int × (Int → Int) × (Int → Int) × (Int → Int) × (Int → Int) × (Int → Int) × (Int → Int))) q => mb_X9_stair_13 F (fun y0 y1 y2 y3 y4 y5 y6 y7 y8 y9 y10 y11 => k (y0, y1, y2, y3, y4, y5, y6, y7, y8, y9, y10, y11)) c_thrown c_taped q.1 q.2.1 q.2.2.1 q.2.2.2.1 q.2.2.2.2.1 q.2.2.2.2.2.1 q.2.2.2.2.2.2.1 c_act q.2.2.2.2.2.2.2.1 q.2.2.2.2.2.2.2.2.1 q.2.2.2.2.2.2.2.2.2.1 q.2.2.2.2.2.2.2.2.2.2.1 q.2.2.2.2.2.2.2.2.2.2.2 c_tape) F (c_at, c_token, c_place, c_value, c_word, c_bad, c_badPlace, c_band, c_has, c_lines, c_pace, c_part)
def m_X9_stair (F : Nat) (c_taped : Int) (c_act : Int → Int) (c_band : Int → Int) (c_has : Int → Int) (c_lines : Int → Int) (c_pace : Int → Int) (c_part : Int → Int) (c_tape : Int → Int) : Option (Int × Int × Int × Int × Int × Int × Int × Int × Int × Int × Int × Int × (Int → Int) × (Int → Int) × (Int → Int) × (Int → Int) × (Int → Int) × (Int → Int)) :=
  bnd2 (m_X9_clears0 F c_has c_lines) fun o1 o2 => bnd7 (m_X9_begins F c_taped c_tape) fun o4 o5 o6 o7 o8 o9 o10 => ml_X9_stair_13 F 0 c_taped o4 o5 o6 o7 o8 o9 o10 c_act c_band o1 o2 c_pace c_part c_tape
section S_X9_stair
variable {E : EE} {a_t a_t_act a_t_band a_t_has a_t_lines a_t_pace a_t_part a_t_tape : Nat} {g_t_1 : Value} {g_t_2 : Value} {g_t_3 : Value} {g_t_4 : Value} {g_t_22 : Value} {g_t_23 : Value} {g_t_24 : Value} {g_t_25 : Value} {g_t_26 : Value} {g_t_27 : Value} {g_t_28 : Value} {g_t_29 : Value} {g_t_30 : Value} {g_t_31 : Value} {g_t_32 : Value} {g_t_33 : Value} {g_t_34 : Value} {g_t_35 : Value} {g_t_36 : Value} {g_t_37 : Value} {g_t_38 : Value} {g_t_39 : Value} {g_t_40 : Value} {g_t_41 : Value} {g_t_42 : Value} {g_t_43 : Value}
set_option maxRecDepth 100000 in
set_option maxHeartbeats 4000000 in
theorem wb_X9_stair_76 {F : Nat} {k13 : Int → Int → Int → Int → Int → Int → Int → (Int → Int) → (Int → Int) → (Int → Int) → (Int → Int) → (Int → Int) → Option (Int × Int × Int × Int × Int × Int × Int × Int × Int × Int × Int × Int × (Int → Int) × (Int → Int) × (Int → Int) × (Int → Int) × (Int → Int) × (Int → Int))} {v : Int × Int × Int × Int × Int × Int × Int × Int × Int × Int × Int × Int × (Int → Int) × (Int → Int) × (Int → Int) × (Int → Int) × (Int → Int) × (Int → Int)} {c_thrown : Int} {c_taped : Int} {c_at : Int} {c_token : Int} {c_place : Int} {c_value : Int} {c_word : Int} {c_bad : Int} {c_badPlace : Int} {c_act : Int → Int} {c_band : Int → Int} {c_has : Int → Int} {c_lines : Int → Int} {c_pace : Int → Int} {c_part : Int → Int} {c_tape : Int → Int} {c_fault : Int} {c_faultPlace : Int} (C : Cx E cX9_stair RX9 { frames := 7, cells := 0, slots := 0, locals := 158 }) (hN : eN E = 1) (h : mb_X9_stair_76 F k13 c_thrown c_taped c_at c_token c_place c_value c_word c_bad c_badPlace c_act c_band c_has c_lines c_pace c_part c_tape = some v) (hk13 : ∀ (y_c_at : Int) (y_c_token : Int) (y_c_place : Int) (y_c_value : Int) (y_c_word : Int) (y_c_bad : Int) (y_c_badPlace : Int) (y_c_band : Int → Int) (y_c_has : Int → Int) (y_c_lines : Int → Int) (y_c_pace : Int → Int) (y_c_part : Int → Int) (z_c_fault : Int) (z_c_faultPlace : Int), k13 y_c_at y_c_token y_c_place y_c_value y_c_word y_c_bad y_c_badPlace y_c_band y_c_has y_c_lines y_c_pace y_c_part = some v → GG E 0 0 (W_X9_stair (eCy E) a_t a_t_act a_t_band a_t_has a_t_lines a_t_pace a_t_part a_t_tape g_t_1 g_t_2 g_t_3 g_t_4 g_t_22 g_t_23 g_t_24 g_t_25 g_t_26 g_t_27 g_t_28 g_t_29 g_t_30 g_t_31 g_t_32 g_t_33 g_t_34 g_t_35 g_t_36 g_t_37 g_t_38 g_t_39 g_t_40 g_t_41 g_t_42 g_t_43 c_thrown c_taped y_c_at y_c_token y_c_place y_c_value y_c_word y_c_bad y_c_badPlace z_c_fault z_c_faultPlace c_act y_c_band y_c_has y_c_lines y_c_pace y_c_part c_tape) [some (.ref a_t)] 13 []) (hret : ∀ (pc : Nat) (L : List (Option Value)), decode cX9_stair pc = .ok (.ireturn, 1) → GG E 0 0 (W_X9_stair (eCy E) a_t a_t_act a_t_band a_t_has a_t_lines a_t_pace a_t_part a_t_tape g_t_1 g_t_2 g_t_3 g_t_4 g_t_22 g_t_23 g_t_24 g_t_25 g_t_26 g_t_27 g_t_28 g_t_29 g_t_30 g_t_31 g_t_32 g_t_33 g_t_34 g_t_35 g_t_36 g_t_37 g_t_38 g_t_39 g_t_40 g_t_41 g_t_42 g_t_43 (v.2.1) (v.2.2.1) (v.2.2.2.1) (v.2.2.2.2.1) (v.2.2.2.2.2.1) (v.2.2.2.2.2.2.1) (v.2.2.2.2.2.2.2.1) (v.2.2.2.2.2.2.2.2.1) (v.2.2.2.2.2.2.2.2.2.1) (v.2.2.2.2.2.2.2.2.2.2.1) (v.2.2.2.2.2.2.2.2.2.2.2.1) (v.2.2.2.2.2.2.2.2.2.2.2.2.1) (v.2.2.2.2.2.2.2.2.2.2.2.2.2.1) (v.2.2.2.2.2.2.2.2.2.2.2.2.2.2.1) (v.2.2.2.2.2.2.2.2.2.2.2.2.2.2.2.1) (v.2.2.2.2.2.2.2.2.2.2.2.2.2.2.2.2.1) (v.2.2.2.2.2.2.2.2.2.2.2.2.2.2.2.2.2) c_tape) L pc [.int (wI (v.1))]) : GG E 0 0 (W_X9_stair (eCy E) a_t a_t_act a_t_band a_t_has a_t_lines a_t_pace a_t_part a_t_tape g_t_1 g_t_2 g_t_3 g_t_4 g_t_22 g_t_23 g_t_24 g_t_25 g_t_26 g_t_27 g_t_28 g_t_29 g_t_30 g_t_31 g_t_32 g_t_33 g_t_34 g_t_35 g_t_36 g_t_37 g_t_38 g_t_39 g_t_40 g_t_41 g_t_42 g_t_43 c_thrown c_taped c_at c_token c_place c_value c_word c_bad c_badPlace c_fault c_faultPlace c_act c_band c_has c_lines c_pace c_part c_tape) [some (.ref a_t)] 76 [] := by
  unfold mb_X9_stair_76 at h
  refine g_aload_n 0 C dX9_stair_76 rfl rfl ?_
  refine g_get C fg_X9_31 0 rfl rfl dX9_stair_77 ?_
  refine g_iconst C dX9_stair_80 ?_
  refine g_dup2_11 C dX9_stair_81 rfl rfl ?_
  refine g_iald C 4 rfl (by decide) rfl dX9_stair_82 ?_
  refine g_iconst C dX9_stair_83 ?_
  refine g_iadd C dX9_stair_84 ?_
  obtain ⟨y1, e_y1, h⟩ := nam_some h
  refine g_topI e_y1 ?_
  refine g_iast C 4 rfl (by decide) rfl (ws' := (W_X9_stair (eCy E) a_t a_t_act a_t_band a_t_has a_t_lines a_t_pace a_t_part a_t_tape g_t_1 g_t_2 g_t_3 g_t_4 g_t_22 g_t_23 g_t_24 g_t_25 g_t_26 g_t_27 g_t_28 g_t_29 g_t_30 g_t_31 g_t_32 g_t_33 g_t_34 g_t_35 g_t_36 g_t_37 g_t_38 g_t_39 g_t_40 g_t_41 g_t_42 g_t_43 c_thrown c_taped c_at c_token c_place c_value c_word c_bad c_badPlace c_fault c_faultPlace c_act c_band c_has (up c_lines 4 y1) c_pace c_part c_tape)) rfl dX9_stair_85 ?_
  refine g_goto (tgt := 13) C dX9_stair_86 (by decide) ?_
  exact hk13 _ _ _ _ _ _ _ _ _ _ _ _ _ _ h
set_option maxRecDepth 100000 in
set_option maxHeartbeats 4000000 in
theorem wb_X9_stair_65 {F : Nat} {k13 : Int → Int → Int → Int → Int → Int → Int → (Int → Int) → (Int → Int) → (Int → Int) → (Int → Int) → (Int → Int) → Option (Int × Int × Int × Int × Int × Int × Int × Int × Int × Int × Int × Int × (Int → Int) × (Int → Int) × (Int → Int) × (Int → Int) × (Int → Int) × (Int → Int))} {v : Int × Int × Int × Int × Int × Int × Int × Int × Int × Int × Int × Int × (Int → Int) × (Int → Int) × (Int → Int) × (Int → Int) × (Int → Int) × (Int → Int)} {c_thrown : Int} {c_taped : Int} {c_at : Int} {c_token : Int} {c_place : Int} {c_value : Int} {c_word : Int} {c_bad : Int} {c_badPlace : Int} {c_act : Int → Int} {c_band : Int → Int} {c_has : Int → Int} {c_lines : Int → Int} {c_pace : Int → Int} {c_part : Int → Int} {c_tape : Int → Int} {c_fault : Int} {c_faultPlace : Int} (C : Cx E cX9_stair RX9 { frames := 7, cells := 0, slots := 0, locals := 158 }) (hN : eN E = 1) (h : mb_X9_stair_65 F k13 c_thrown c_taped c_at c_token c_place c_value c_word c_bad c_badPlace c_act c_band c_has c_lines c_pace c_part c_tape = some v) (hk13 : ∀ (y_c_at : Int) (y_c_token : Int) (y_c_place : Int) (y_c_value : Int) (y_c_word : Int) (y_c_bad : Int) (y_c_badPlace : Int) (y_c_band : Int → Int) (y_c_has : Int → Int) (y_c_lines : Int → Int) (y_c_pace : Int → Int) (y_c_part : Int → Int) (z_c_fault : Int) (z_c_faultPlace : Int), k13 y_c_at y_c_token y_c_place y_c_value y_c_word y_c_bad y_c_badPlace y_c_band y_c_has y_c_lines y_c_pace y_c_part = some v → GG E 0 0 (W_X9_stair (eCy E) a_t a_t_act a_t_band a_t_has a_t_lines a_t_pace a_t_part a_t_tape g_t_1 g_t_2 g_t_3 g_t_4 g_t_22 g_t_23 g_t_24 g_t_25 g_t_26 g_t_27 g_t_28 g_t_29 g_t_30 g_t_31 g_t_32 g_t_33 g_t_34 g_t_35 g_t_36 g_t_37 g_t_38 g_t_39 g_t_40 g_t_41 g_t_42 g_t_43 c_thrown c_taped y_c_at y_c_token y_c_place y_c_value y_c_word y_c_bad y_c_badPlace z_c_fault z_c_faultPlace c_act y_c_band y_c_has y_c_lines y_c_pace y_c_part c_tape) [some (.ref a_t)] 13 []) (hret : ∀ (pc : Nat) (L : List (Option Value)), decode cX9_stair pc = .ok (.ireturn, 1) → GG E 0 0 (W_X9_stair (eCy E) a_t a_t_act a_t_band a_t_has a_t_lines a_t_pace a_t_part a_t_tape g_t_1 g_t_2 g_t_3 g_t_4 g_t_22 g_t_23 g_t_24 g_t_25 g_t_26 g_t_27 g_t_28 g_t_29 g_t_30 g_t_31 g_t_32 g_t_33 g_t_34 g_t_35 g_t_36 g_t_37 g_t_38 g_t_39 g_t_40 g_t_41 g_t_42 g_t_43 (v.2.1) (v.2.2.1) (v.2.2.2.1) (v.2.2.2.2.1) (v.2.2.2.2.2.1) (v.2.2.2.2.2.2.1) (v.2.2.2.2.2.2.2.1) (v.2.2.2.2.2.2.2.2.1) (v.2.2.2.2.2.2.2.2.2.1) (v.2.2.2.2.2.2.2.2.2.2.1) (v.2.2.2.2.2.2.2.2.2.2.2.1) (v.2.2.2.2.2.2.2.2.2.2.2.2.1) (v.2.2.2.2.2.2.2.2.2.2.2.2.2.1) (v.2.2.2.2.2.2.2.2.2.2.2.2.2.2.1) (v.2.2.2.2.2.2.2.2.2.2.2.2.2.2.2.1) (v.2.2.2.2.2.2.2.2.2.2.2.2.2.2.2.2.1) (v.2.2.2.2.2.2.2.2.2.2.2.2.2.2.2.2.2) c_tape) L pc [.int (wI (v.1))]) : GG E 0 0 (W_X9_stair (eCy E) a_t a_t_act a_t_band a_t_has a_t_lines a_t_pace a_t_part a_t_tape g_t_1 g_t_2 g_t_3 g_t_4 g_t_22 g_t_23 g_t_24 g_t_25 g_t_26 g_t_27 g_t_28 g_t_29 g_t_30 g_t_31 g_t_32 g_t_33 g_t_34 g_t_35 g_t_36 g_t_37 g_t_38 g_t_39 g_t_40 g_t_41 g_t_42 g_t_43 c_thrown c_taped c_at c_token c_place c_value c_word c_bad c_badPlace c_fault c_faultPlace c_act c_band c_has c_lines c_pace c_part c_tape) [some (.ref a_t)] 65 [] := by
  unfold mb_X9_stair_65 at h
  refine g_aload_n 0 C dX9_stair_65 rfl rfl ?_
  obtain ⟨r1, hr2, h⟩ := bnd1_some h
  refine g_callI [0] [1, 2, 3, 4, 5, 6, 7] [7, 0, 1, 2, 3, 4, 5, 6] C mt_X9_197 (c_X9_isGood _ _ _ _ a_t (.int (wI c_thrown)) (g_t_1) (g_t_2) (g_t_3) (g_t_4) (.ref a_t_tape) (.int (wI c_taped)) (.int (wI c_at)) (.int (wI c_token)) (.int (wI c_place)) (.int (wI c_value)) (.long (wJ c_word)) (.int (wI c_badPlace)) (.int (wI c_fault)) (.int (wI c_faultPlace)) (.ref a_t_lines) (.ref a_t_has) (.ref a_t_part) (.ref a_t_pace) (.ref a_t_band) (.ref a_t_act) (g_t_22) (g_t_23) (g_t_24) (g_t_25) (g_t_26) (g_t_27) (g_t_28) (g_t_29) (g_t_30) (g_t_31) (g_t_32) (g_t_33) (g_t_34) (g_t_35) (g_t_36) (g_t_37) (g_t_38) (g_t_39) (g_t_40) (g_t_41) (g_t_42) (g_t_43) c_bad F hr2) (q0 := 0) rfl (ci := 9) rfl rfl rfl (ws2 := (W_X9_stair (eCy E) a_t a_t_act a_t_band a_t_has a_t_lines a_t_pace a_t_part a_t_tape g_t_1 g_t_2 g_t_3 g_t_4 g_t_22 g_t_23 g_t_24 g_t_25 g_t_26 g_t_27 g_t_28 g_t_29 g_t_30 g_t_31 g_t_32 g_t_33 g_t_34 g_t_35 g_t_36 g_t_37 g_t_38 g_t_39 g_t_40 g_t_41 g_t_42 g_t_43 c_thrown c_taped c_at c_token c_place c_value c_word c_bad c_badPlace c_fault c_faultPlace c_act c_band c_has c_lines c_pace c_part c_tape)) rfl rfl rfl (rest := []) rfl rfl rfl dX9_stair_66 ?_
  refine g_if_eq 76 C dX9_stair_69 (by decide) h (fun h => ?_) (fun h => ?_)
  · exact wb_X9_stair_76 C hN h hk13 hret
  · refine g_aload_n 0 C dX9_stair_72 rfl rfl ?_
    obtain ⟨o3, o4, o5, o6, o7, o8, o9, hr10, h⟩ := bnd7_some h
    refine g_callV [0, 7] [1, 2, 3, 4, 5, 6] [6, 0, 1, 2, 3, 4, 5, 7] C mt_X9_214 (c_X9_ends _ _ _ _ a_t a_t_tape (.int (wI c_thrown)) (g_t_1) (g_t_2) (g_t_3) (g_t_4) (.int (wI c_fault)) (.int (wI c_faultPlace)) (.ref a_t_lines) (.ref a_t_has) (.ref a_t_part) (.ref a_t_pace) (.ref a_t_band) (.ref a_t_act) (g_t_22) (g_t_23) (g_t_24) (g_t_25) (g_t_26) (g_t_27) (g_t_28) (g_t_29) (g_t_30) (g_t_31) (g_t_32) (g_t_33) (g_t_34) (g_t_35) (g_t_36) (g_t_37) (g_t_38) (g_t_39) (g_t_40) (g_t_41) (g_t_42) (g_t_43) c_taped c_at c_token c_place c_value c_word c_bad c_badPlace c_tape F hr10) (q0 := 0) rfl (ci := 9) rfl rfl rfl (ws2 := (W_X9_stair (eCy E) a_t a_t_act a_t_band a_t_has a_t_lines a_t_pace a_t_part a_t_tape g_t_1 g_t_2 g_t_3 g_t_4 g_t_22 g_t_23 g_t_24 g_t_25 g_t_26 g_t_27 g_t_28 g_t_29 g_t_30 g_t_31 g_t_32 g_t_33 g_t_34 g_t_35 g_t_36 g_t_37 g_t_38 g_t_39 g_t_40 g_t_41 g_t_42 g_t_43 c_thrown c_taped o3 o4 o5 o6 o7 o8 o9 c_fault c_faultPlace c_act c_band c_has c_lines c_pace c_part c_tape)) rfl rfl rfl (rest := []) rfl rfl rfl dX9_stair_73 ?_
    exact wb_X9_stair_76 C hN h hk13 hret
set_option maxRecDepth 100000 in
set_option maxHeartbeats 4000000 in
theorem wb_X9_stair_89 {F : Nat} {v : Int × Int × Int × Int × Int × Int × Int × Int × Int × Int × Int × Int × (Int → Int) × (Int → Int) × (Int → Int) × (Int → Int) × (Int → Int) × (Int → Int)} {c_thrown : Int} {c_at : Int} {c_token : Int} {c_place : Int} {c_value : Int} {c_word : Int} {c_bad : Int} {c_badPlace : Int} {c_act : Int → Int} {c_band : Int → Int} {c_has : Int → Int} {c_lines : Int → Int} {c_pace : Int → Int} {c_part : Int → Int} {c_taped : Int} {c_fault : Int} {c_faultPlace : Int} {c_tape : Int → Int} (C : Cx E cX9_stair RX9 { frames := 7, cells := 0, slots := 0, locals := 158 }) (hN : eN E = 1) (h : mb_X9_stair_89 F c_thrown c_at c_token c_place c_value c_word c_bad c_badPlace c_act c_band c_has c_lines c_pace c_part = some v) (hret : ∀ (pc : Nat) (L : List (Option Value)), decode cX9_stair pc = .ok (.ireturn, 1) → GG E 0 0 (W_X9_stair (eCy E) a_t a_t_act a_t_band a_t_has a_t_lines a_t_pace a_t_part a_t_tape g_t_1 g_t_2 g_t_3 g_t_4 g_t_22 g_t_23 g_t_24 g_t_25 g_t_26 g_t_27 g_t_28 g_t_29 g_t_30 g_t_31 g_t_32 g_t_33 g_t_34 g_t_35 g_t_36 g_t_37 g_t_38 g_t_39 g_t_40 g_t_41 g_t_42 g_t_43 (v.2.1) (v.2.2.1) (v.2.2.2.1) (v.2.2.2.2.1) (v.2.2.2.2.2.1) (v.2.2.2.2.2.2.1) (v.2.2.2.2.2.2.2.1) (v.2.2.2.2.2.2.2.2.1) (v.2.2.2.2.2.2.2.2.2.1) (v.2.2.2.2.2.2.2.2.2.2.1) (v.2.2.2.2.2.2.2.2.2.2.2.1) (v.2.2.2.2.2.2.2.2.2.2.2.2.1) (v.2.2.2.2.2.2.2.2.2.2.2.2.2.1) (v.2.2.2.2.2.2.2.2.2.2.2.2.2.2.1) (v.2.2.2.2.2.2.2.2.2.2.2.2.2.2.2.1) (v.2.2.2.2.2.2.2.2.2.2.2.2.2.2.2.2.1) (v.2.2.2.2.2.2.2.2.2.2.2.2.2.2.2.2.2) c_tape) L pc [.int (wI (v.1))]) : GG E 0 0 (W_X9_stair (eCy E) a_t a_t_act a_t_band a_t_has a_t_lines a_t_pace a_t_part a_t_tape g_t_1 g_t_2 g_t_3 g_t_4 g_t_22 g_t_23 g_t_24 g_t_25 g_t_26 g_t_27 g_t_28 g_t_29 g_t_30 g_t_31 g_t_32 g_t_33 g_t_34 g_t_35 g_t_36 g_t_37 g_t_38 g_t_39 g_t_40 g_t_41 g_t_42 g_t_43 c_thrown c_taped c_at c_token c_place c_value c_word c_bad c_badPlace c_fault c_faultPlace c_act c_band c_has c_lines c_pace c_part c_tape) [some (.ref a_t)] 89 [] := by
  unfold mb_X9_stair_89 at h
  refine g_aload_n 0 C dX9_stair_89 rfl rfl ?_
  obtain ⟨o1, o2, o3, hr4, h⟩ := bnd3_some h
  refine g_callV [0] [1, 2, 3, 4, 5, 6, 7] [7, 0, 1, 2, 3, 4, 5, 6] C mt_X9_217 (c_X9_isOver _ _ _ _ a_t (.int (wI c_thrown)) (g_t_1) (g_t_2) (g_t_3) (g_t_4) (.ref a_t_tape) (.int (wI c_at)) (.int (wI c_token)) (.int (wI c_place)) (.int (wI c_value)) (.long (wJ c_word)) (.ref a_t_lines) (.ref a_t_has) (.ref a_t_part) (.ref a_t_pace) (.ref a_t_band) (.ref a_t_act) (g_t_22) (g_t_23) (g_t_24) (g_t_25) (g_t_26) (g_t_27) (g_t_28) (g_t_29) (g_t_30) (g_t_31) (g_t_32) (g_t_33) (g_t_34) (g_t_35) (g_t_36) (g_t_37) (g_t_38) (g_t_39) (g_t_40) (g_t_41) (g_t_42) (g_t_43) c_taped c_bad c_badPlace c_fault c_faultPlace F hr4) (q0 := 0) rfl (ci := 9) rfl rfl rfl (ws2 := (W_X9_stair (eCy E) a_t a_t_act a_t_band a_t_has a_t_lines a_t_pace a_t_part a_t_tape g_t_1 g_t_2 g_t_3 g_t_4 g_t_22 g_t_23 g_t_24 g_t_25 g_t_26 g_t_27 g_t_28 g_t_29 g_t_30 g_t_31 g_t_32 g_t_33 g_t_34 g_t_35 g_t_36 g_t_37 g_t_38 g_t_39 g_t_40 g_t_41 g_t_42 g_t_43 c_thrown o1 c_at c_token c_place c_value c_word c_bad c_badPlace o2 o3 c_act c_band c_has c_lines c_pace c_part c_tape)) rfl rfl rfl (rest := []) rfl rfl rfl dX9_stair_90 ?_
  refine g_aload_n 0 C dX9_stair_93 rfl rfl ?_
  refine g_get C fg_X9_123 0 rfl rfl dX9_stair_94 ?_
  refine g_st (st' := [.int (wI c_bad)]) rfl ?_
  refine g_if_eq 103 C dX9_stair_97 (by decide) h (fun h => ?_) (fun h => ?_)
  · refine g_aload_n 0 C dX9_stair_103 rfl rfl ?_
    refine g_iconst C dX9_stair_104 ?_
    refine g_iconst C dX9_stair_105 ?_
    obtain ⟨o5, o6, o7, o8, o9, o10, hr11, h⟩ := bnd6_some h
    refine g_callV [0, 1, 2, 3, 4, 5, 6] [7] [1, 2, 3, 4, 5, 6, 7, 0] C mt_X9_220 (c_X9_copyStair _ _ _ _ a_t a_t_act a_t_band a_t_has a_t_lines a_t_pace a_t_part (.int (wI c_thrown)) (g_t_1) (g_t_2) (g_t_3) (g_t_4) (.ref a_t_tape) (.int (wI o1)) (.int (wI c_at)) (.int (wI c_token)) (.int (wI c_place)) (.int (wI c_value)) (.long (wJ c_word)) (.int (wI c_bad)) (.int (wI c_badPlace)) (.int (wI o2)) (.int (wI o3)) (g_t_22) (g_t_23) (g_t_24) (g_t_25) (g_t_26) (g_t_27) (g_t_28) (g_t_29) (g_t_30) (g_t_31) (g_t_32) (g_t_33) (g_t_34) (g_t_35) (g_t_36) (g_t_37) (g_t_38) (g_t_39) (g_t_40) (g_t_41) (g_t_42) (g_t_43) 4 0 c_act c_band c_has c_lines c_pace c_part F hr11) (q0 := 0) rfl (ci := 9) rfl rfl rfl (ws2 := (W_X9_stair (eCy E) a_t a_t_act a_t_band a_t_has a_t_lines a_t_pace a_t_part a_t_tape g_t_1 g_t_2 g_t_3 g_t_4 g_t_22 g_t_23 g_t_24 g_t_25 g_t_26 g_t_27 g_t_28 g_t_29 g_t_30 g_t_31 g_t_32 g_t_33 g_t_34 g_t_35 g_t_36 g_t_37 g_t_38 g_t_39 g_t_40 g_t_41 g_t_42 g_t_43 c_thrown o1 c_at c_token c_place c_value c_word c_bad c_badPlace o2 o3 o5 o6 o7 o8 o9 o10 c_tape)) rfl rfl rfl (rest := []) rfl rfl rfl dX9_stair_106 ?_
    refine g_aload_n 0 C dX9_stair_109 rfl rfl ?_
    refine g_get C fg_X9_31 0 rfl rfl dX9_stair_110 ?_
    refine g_iconst C dX9_stair_113 ?_
    refine g_iald C 4 rfl (by decide) rfl dX9_stair_114 ?_
    cases h
    exact hret 115 _ dX9_stair_115
  · refine g_bipush C dX9_stair_100 (by decide) ?_
    cases h
    exact hret 102 _ dX9_stair_102
set_option maxRecDepth 100000 in
set_option maxHeartbeats 4000000 in
theorem wb_X9_stair_13 {F : Nat} {k13 : Int → Int → Int → Int → Int → Int → Int → (Int → Int) → (Int → Int) → (Int → Int) → (Int → Int) → (Int → Int) → Option (Int × Int × Int × Int × Int × Int × Int × Int × Int × Int × Int × Int × (Int → Int) × (Int → Int) × (Int → Int) × (Int → Int) × (Int → Int) × (Int → Int))} {v : Int × Int × Int × Int × Int × Int × Int × Int × Int × Int × Int × Int × (Int → Int) × (Int → Int) × (Int → Int) × (Int → Int) × (Int → Int) × (Int → Int)} {c_thrown : Int} {c_taped : Int} {c_at : Int} {c_token : Int} {c_place : Int} {c_value : Int} {c_word : Int} {c_bad : Int} {c_badPlace : Int} {c_act : Int → Int} {c_band : Int → Int} {c_has : Int → Int} {c_lines : Int → Int} {c_pace : Int → Int} {c_part : Int → Int} {c_tape : Int → Int} {c_fault : Int} {c_faultPlace : Int} (C : Cx E cX9_stair RX9 { frames := 7, cells := 0, slots := 0, locals := 158 }) (hN : eN E = 1) (h : mb_X9_stair_13 F k13 c_thrown c_taped c_at c_token c_place c_value c_word c_bad c_badPlace c_act c_band c_has c_lines c_pace c_part c_tape = some v) (hk13 : ∀ (y_c_at : Int) (y_c_token : Int) (y_c_place : Int) (y_c_value : Int) (y_c_word : Int) (y_c_bad : Int) (y_c_badPlace : Int) (y_c_band : Int → Int) (y_c_has : Int → Int) (y_c_lines : Int → Int) (y_c_pace : Int → Int) (y_c_part : Int → Int) (z_c_fault : Int) (z_c_faultPlace : Int), k13 y_c_at y_c_token y_c_place y_c_value y_c_word y_c_bad y_c_badPlace y_c_band y_c_has y_c_lines y_c_pace y_c_part = some v → GG E 0 0 (W_X9_stair (eCy E) a_t a_t_act a_t_band a_t_has a_t_lines a_t_pace a_t_part a_t_tape g_t_1 g_t_2 g_t_3 g_t_4 g_t_22 g_t_23 g_t_24 g_t_25 g_t_26 g_t_27 g_t_28 g_t_29 g_t_30 g_t_31 g_t_32 g_t_33 g_t_34 g_t_35 g_t_36 g_t_37 g_t_38 g_t_39 g_t_40 g_t_41 g_t_42 g_t_43 c_thrown c_taped y_c_at y_c_token y_c_place y_c_value y_c_word y_c_bad y_c_badPlace z_c_fault z_c_faultPlace c_act y_c_band y_c_has y_c_lines y_c_pace y_c_part c_tape) [some (.ref a_t)] 13 []) (hret : ∀ (pc : Nat) (L : List (Option Value)), decode cX9_stair pc = .ok (.ireturn, 1) → GG E 0 0 (W_X9_stair (eCy E) a_t a_t_act a_t_band a_t_has a_t_lines a_t_pace a_t_part a_t_tape g_t_1 g_t_2 g_t_3 g_t_4 g_t_22 g_t_23 g_t_24 g_t_25 g_t_26 g_t_27 g_t_28 g_t_29 g_t_30 g_t_31 g_t_32 g_t_33 g_t_34 g_t_35 g_t_36 g_t_37 g_t_38 g_t_39 g_t_40 g_t_41 g_t_42 g_t_43 (v.2.1) (v.2.2.1) (v.2.2.2.1) (v.2.2.2.2.1) (v.2.2.2.2.2.1) (v.2.2.2.2.2.2.1) (v.2.2.2.2.2.2.2.1) (v.2.2.2.2.2.2.2.2.1) (v.2.2.2.2.2.2.2.2.2.1) (v.2.2.2.2.2.2.2.2.2.2.1) (v.2.2.2.2.2.2.2.2.2.2.2.1) (v.2.2.2.2.2.2.2.2.2.2.2.2.1) (v.2.2.2.2.2.2.2.2.2.2.2.2.2.1) (v.2.2.2.2.2.2.2.2.2.2.2.2.2.2.1) (v.2.2.2.2.2.2.2.2.2.2.2.2.2.2.2.1) (v.2.2.2.2.2.2.2.2.2.2.2.2.2.2.2.2.1) (v.2.2.2.2.2.2.2.2.2.2.2.2.2.2.2.2.2) c_tape) L pc [.int (wI (v.1))]) : GG E 0 0 (W_X9_stair (eCy E) a_t a_t_act a_t_band a_t_has a_t_lines a_t_pace a_t_part a_t_tape g_t_1 g_t_2 g_t_3 g_t_4 g_t_22 g_t_23 g_t_24 g_t_25 g_t_26 g_t_27 g_t_28 g_t_29 g_t_30 g_t_31 g_t_32 g_t_33 g_t_34 g_t_35 g_t_36 g_t_37 g_t_38 g_t_39 g_t_40 g_t_41 g_t_42 g_t_43 c_thrown c_taped c_at c_token c_place c_value c_word c_bad c_badPlace c_fault c_faultPlace c_act c_band c_has c_lines c_pace c_part c_tape) [some (.ref a_t)] 13 [] := by
  unfold mb_X9_stair_13 at h
  refine g_aload_n 0 C dX9_stair_13 rfl rfl ?_
  obtain ⟨r1, hr2, h⟩ := bnd1_some h
  refine g_callI [0] [1, 2, 3, 4, 5, 6, 7] [7, 0, 1, 2, 3, 4, 5, 6] C mt_X9_197 (c_X9_isGood _ _ _ _ a_t (.int (wI c_thrown)) (g_t_1) (g_t_2) (g_t_3) (g_t_4) (.ref a_t_tape) (.int (wI c_taped)) (.int (wI c_at)) (.int (wI c_token)) (.int (wI c_place)) (.int (wI c_value)) (.long (wJ c_word)) (.int (wI c_badPlace)) (.int (wI c_fault)) (.int (wI c_faultPlace)) (.ref a_t_lines) (.ref a_t_has) (.ref a_t_part) (.ref a_t_pace) (.ref a_t_band) (.ref a_t_act) (g_t_22) (g_t_23) (g_t_24) (g_t_25) (g_t_26) (g_t_27) (g_t_28) (g_t_29) (g_t_30) (g_t_31) (g_t_32) (g_t_33) (g_t_34) (g_t_35) (g_t_36) (g_t_37) (g_t_38) (g_t_39) (g_t_40) (g_t_41) (g_t_42) (g_t_43) c_bad F hr2) (q0 := 0) rfl (ci := 9) rfl rfl rfl (ws2 := (W_X9_stair (eCy E) a_t a_t_act a_t_band a_t_has a_t_lines a_t_pace a_t_part a_t_tape g_t_1 g_t_2 g_t_3 g_t_4 g_t_22 g_t_23 g_t_24 g_t_25 g_t_26 g_t_27 g_t_28 g_t_29 g_t_30 g_t_31 g_t_32 g_t_33 g_t_34 g_t_35 g_t_36 g_t_37 g_t_38 g_t_39 g_t_40 g_t_41 g_t_42 g_t_43 c_thrown c_taped c_at c_token c_place c_value c_word c_bad c_badPlace c_fault c_faultPlace c_act c_band c_has c_lines c_pace c_part c_tape)) rfl rfl rfl (rest := []) rfl rfl rfl dX9_stair_14 ?_
  refine g_if_eq 89 C dX9_stair_17 (by decide) h (fun h => ?_) (fun h => ?_)
  · exact wb_X9_stair_89 C hN h hret
  · refine g_aload_n 0 C dX9_stair_20 rfl rfl ?_
    refine g_get C fg_X9_112 0 rfl rfl dX9_stair_21 ?_
    refine g_st (st' := [.int (wI c_token)]) rfl ?_
    refine g_if_eq 89 C dX9_stair_24 (by decide) h (fun h => ?_) (fun h => ?_)
    · exact wb_X9_stair_89 C hN h hret
    · refine g_aload_n 0 C dX9_stair_27 rfl rfl ?_
      refine g_get C fg_X9_31 0 rfl rfl dX9_stair_28 ?_
      refine g_iconst C dX9_stair_31 ?_
      refine g_iald C 4 rfl (by decide) rfl dX9_stair_32 ?_
      refine g_if_ne 61 C dX9_stair_33 (by decide) h (fun h => ?_) (fun h => ?_)
      · refine g_aload_n 0 C dX9_stair_61 rfl rfl ?_
        obtain ⟨o3, o4, o5, o6, o7, o8, o9, o10, o11, o12, o13, hr14, h⟩ := bnd11_some h
        refine g_callV [0, 2, 3, 5, 6, 7] [1, 4] [2, 0, 3, 4, 1, 5, 6, 7] C mt_X9_211 (c_X9_line _ _ _ _ a_t a_t_band a_t_has a_t_pace a_t_part a_t_tape (.int (wI c_thrown)) (g_t_1) (g_t_2) (g_t_3) (g_t_4) (.int (wI c_fault)) (.int (wI c_faultPlace)) (.ref a_t_lines) (.ref a_t_act) (g_t_22) (g_t_23) (g_t_24) (g_t_25) (g_t_26) (g_t_27) (g_t_28) (g_t_29) (g_t_30) (g_t_31) (g_t_32) (g_t_33) (g_t_34) (g_t_35) (g_t_36) (g_t_37) (g_t_38) (g_t_39) (g_t_40) (g_t_41) (g_t_42) (g_t_43) c_taped c_at c_token c_place c_value c_word c_bad c_badPlace c_band c_has c_pace c_part c_tape F hr14) (q0 := 0) rfl (ci := 9) rfl rfl rfl (ws2 := (W_X9_stair (eCy E) a_t a_t_act a_t_band a_t_has a_t_lines a_t_pace a_t_part a_t_tape g_t_1 g_t_2 g_t_3 g_t_4 g_t_22 g_t_23 g_t_24 g_t_25 g_t_26 g_t_27 g_t_28 g_t_29 g_t_30 g_t_31 g_t_32 g_t_33 g_t_34 g_t_35 g_t_36 g_t_37 g_t_38 g_t_39 g_t_40 g_t_41 g_t_42 g_t_43 c_thrown c_taped o3 o4 o5 o6 o7 o8 o9 c_fault c_faultPlace c_act o10 o11 c_lines o12 o13 c_tape)) rfl rfl rfl (rest := []) rfl rfl rfl dX9_stair_62 ?_
        exact wb_X9_stair_65 C hN h hk13 hret
      · refine g_aload_n 0 C dX9_stair_36 rfl rfl ?_
        refine g_ldc2 (v := 10492029) C mc_X9_207 dX9_stair_37 ?_
        obtain ⟨o3, o4, o5, o6, o7, o8, o9, hr10, h⟩ := bnd7_some h
        refine g_callV [0, 7] [1, 2, 3, 4, 5, 6] [6, 0, 1, 2, 3, 4, 5, 7] C mt_X9_142 (c_X9_asks _ _ _ _ a_t a_t_tape (.int (wI c_thrown)) (g_t_1) (g_t_2) (g_t_3) (g_t_4) (.int (wI c_fault)) (.int (wI c_faultPlace)) (.ref a_t_lines) (.ref a_t_has) (.ref a_t_part) (.ref a_t_pace) (.ref a_t_band) (.ref a_t_act) (g_t_22) (g_t_23) (g_t_24) (g_t_25) (g_t_26) (g_t_27) (g_t_28) (g_t_29) (g_t_30) (g_t_31) (g_t_32) (g_t_33) (g_t_34) (g_t_35) (g_t_36) (g_t_37) (g_t_38) (g_t_39) (g_t_40) (g_t_41) (g_t_42) (g_t_43) 10492029 c_taped c_at c_token c_place c_value c_word c_bad c_badPlace c_tape F hr10) (q0 := 0) rfl (ci := 9) rfl rfl rfl (ws2 := (W_X9_stair (eCy E) a_t a_t_act a_t_band a_t_has a_t_lines a_t_pace a_t_part a_t_tape g_t_1 g_t_2 g_t_3 g_t_4 g_t_22 g_t_23 g_t_24 g_t_25 g_t_26 g_t_27 g_t_28 g_t_29 g_t_30 g_t_31 g_t_32 g_t_33 g_t_34 g_t_35 g_t_36 g_t_37 g_t_38 g_t_39 g_t_40 g_t_41 g_t_42 g_t_43 c_thrown c_taped o3 o4 o5 o6 o7 o8 o9 c_fault c_faultPlace c_act c_band c_has c_lines c_pace c_part c_tape)) rfl rfl rfl (rest := []) rfl rfl rfl dX9_stair_40 ?_
        refine g_aload_n 0 C dX9_stair_43 rfl rfl ?_
        refine g_iconst C dX9_stair_44 ?_
        refine g_aload_n 0 C dX9_stair_45 rfl rfl ?_
        refine g_ldc2 (v := 298288) C mc_X9_209 dX9_stair_46 ?_
        refine g_iconst C dX9_stair_49 ?_
        refine g_bipush C dX9_stair_50 (by decide) ?_
        obtain ⟨r11, o12, o13, o14, o15, o16, o17, o18, hr19, h⟩ := bnd8_some h
        refine g_callI [0, 7] [1, 2, 3, 4, 5, 6] [6, 0, 1, 2, 3, 4, 5, 7] C mt_X9_159 (c_X9_number_ _ _ _ _ a_t a_t_tape (.int (wI c_thrown)) (g_t_1) (g_t_2) (g_t_3) (g_t_4) (.int (wI c_fault)) (.int (wI c_faultPlace)) (.ref a_t_lines) (.ref a_t_has) (.ref a_t_part) (.ref a_t_pace) (.ref a_t_band) (.ref a_t_act) (g_t_22) (g_t_23) (g_t_24) (g_t_25) (g_t_26) (g_t_27) (g_t_28) (g_t_29) (g_t_30) (g_t_31) (g_t_32) (g_t_33) (g_t_34) (g_t_35) (g_t_36) (g_t_37) (g_t_38) (g_t_39) (g_t_40) (g_t_41) (g_t_42) (g_t_43) 298288 0 100 c_taped o3 o4 o5 o6 o7 o8 o9 c_tape F hr19) (q0 := 0) rfl (ci := 9) rfl rfl rfl (ws2 := (W_X9_stair (eCy E) a_t a_t_act a_t_band a_t_has a_t_lines a_t_pace a_t_part a_t_tape g_t_1 g_t_2 g_t_3 g_t_4 g_t_22 g_t_23 g_t_24 g_t_25 g_t_26 g_t_27 g_t_28 g_t_29 g_t_30 g_t_31 g_t_32 g_t_33 g_t_34 g_t_35 g_t_36 g_t_37 g_t_38 g_t_39 g_t_40 g_t_41 g_t_42 g_t_43 c_thrown c_taped o12 o13 o14 o15 o16 o17 o18 c_fault c_faultPlace c_act c_band c_has c_lines c_pace c_part c_tape)) rfl rfl rfl (rest := [.int (wI 0), .ref a_t]) rfl rfl rfl dX9_stair_52 ?_
        obtain ⟨o20, hr21, h⟩ := bnd1_some h
        refine g_callV [0, 3] [1, 2, 4, 5, 6, 7] [6, 0, 1, 7, 2, 3, 4, 5] C mt_X9_166 (c_X9_tells _ _ _ _ a_t a_t_has (.int (wI c_thrown)) (g_t_1) (g_t_2) (g_t_3) (g_t_4) (.ref a_t_tape) (.int (wI c_taped)) (.int (wI o12)) (.int (wI o13)) (.int (wI o14)) (.int (wI o15)) (.long (wJ o16)) (.int (wI o17)) (.int (wI o18)) (.int (wI c_fault)) (.int (wI c_faultPlace)) (.ref a_t_lines) (.ref a_t_part) (.ref a_t_pace) (.ref a_t_band) (.ref a_t_act) (g_t_22) (g_t_23) (g_t_24) (g_t_25) (g_t_26) (g_t_27) (g_t_28) (g_t_29) (g_t_30) (g_t_31) (g_t_32) (g_t_33) (g_t_34) (g_t_35) (g_t_36) (g_t_37) (g_t_38) (g_t_39) (g_t_40) (g_t_41) (g_t_42) (g_t_43) 0 r11 c_has F hr21) (q0 := 0) rfl (ci := 9) rfl rfl rfl (ws2 := (W_X9_stair (eCy E) a_t a_t_act a_t_band a_t_has a_t_lines a_t_pace a_t_part a_t_tape g_t_1 g_t_2 g_t_3 g_t_4 g_t_22 g_t_23 g_t_24 g_t_25 g_t_26 g_t_27 g_t_28 g_t_29 g_t_30 g_t_31 g_t_32 g_t_33 g_t_34 g_t_35 g_t_36 g_t_37 g_t_38 g_t_39 g_t_40 g_t_41 g_t_42 g_t_43 c_thrown c_taped o12 o13 o14 o15 o16 o17 o18 c_fault c_faultPlace c_act c_band o20 c_lines c_pace c_part c_tape)) rfl rfl rfl (rest := []) rfl rfl rfl dX9_stair_55 ?_
        refine g_goto (tgt := 65) C dX9_stair_58 (by decide) ?_
        exact wb_X9_stair_65 C hN h hk13 hret
set_option maxRecDepth 100000 in
set_option maxHeartbeats 4000000 in
theorem wl_X9_stair_13 {F : Nat} {v : Int × Int × Int × Int × Int × Int × Int × Int × Int × Int × Int × Int × (Int → Int) × (Int → Int) × (Int → Int) × (Int → Int) × (Int → Int) × (Int → Int)} {c_thrown : Int} {c_taped : Int} {c_at : Int} {c_token : Int} {c_place : Int} {c_value : Int} {c_word : Int} {c_bad : Int} {c_badPlace : Int} {c_act : Int → Int} {c_band : Int → Int} {c_has : Int → Int} {c_lines : Int → Int} {c_pace : Int → Int} {c_part : Int → Int} {c_tape : Int → Int} {c_fault : Int} {c_faultPlace : Int} (C : Cx E cX9_stair RX9 { frames := 7, cells := 0, slots := 0, locals := 158 }) (hN : eN E = 1) (h : ml_X9_stair_13 F c_thrown c_taped c_at c_token c_place c_value c_word c_bad c_badPlace c_act c_band c_has c_lines c_pace c_part c_tape = some v) (hret : ∀ (pc : Nat) (L : List (Option Value)), decode cX9_stair pc = .ok (.ireturn, 1) → GG E 0 0 (W_X9_stair (eCy E) a_t a_t_act a_t_band a_t_has a_t_lines a_t_pace a_t_part a_t_tape g_t_1 g_t_2 g_t_3 g_t_4 g_t_22 g_t_23 g_t_24 g_t_25 g_t_26 g_t_27 g_t_28 g_t_29 g_t_30 g_t_31 g_t_32 g_t_33 g_t_34 g_t_35 g_t_36 g_t_37 g_t_38 g_t_39 g_t_40 g_t_41 g_t_42 g_t_43 (v.2.1) (v.2.2.1) (v.2.2.2.1) (v.2.2.2.2.1) (v.2.2.2.2.2.1) (v.2.2.2.2.2.2.1) (v.2.2.2.2.2.2.2.1) (v.2.2.2.2.2.2.2.2.1) (v.2.2.2.2.2.2.2.2.2.1) (v.2.2.2.2.2.2.2.2.2.2.1) (v.2.2.2.2.2.2.2.2.2.2.2.1) (v.2.2.2.2.2.2.2.2.2.2.2.2.1) (v.2.2.2.2.2.2.2.2.2.2.2.2.2.1) (v.2.2.2.2.2.2.2.2.2.2.2.2.2.2.1) (v.2.2.2.2.2.2.2.2.2.2.2.2.2.2.2.1) (v.2.2.2.2.2.2.2.2.2.2.2.2.2.2.2.2.1) (v.2.2.2.2.2.2.2.2.2.2.2.2.2.2.2.2.2) c_tape) L pc [.int (wI (v.1))]) : GG E 0 0 (W_X9_stair (eCy E) a_t a_t_act a_t_band a_t_has a_t_lines a_t_pace a_t_part a_t_tape g_t_1 g_t_2 g_t_3 g_t_4 g_t_22 g_t_23 g_t_24 g_t_25 g_t_26 g_t_27 g_t_28 g_t_29 g_t_30 g_t_31 g_t_32 g_t_33 g_t_34 g_t_35 g_t_36 g_t_37 g_t_38 g_t_39 g_t_40 g_t_41 g_t_42 g_t_43 c_thrown c_taped c_at c_token c_place c_value c_word c_bad c_badPlace c_fault c_faultPlace c_act c_band c_has c_lines c_pace c_part c_tape) [some (.ref a_t)] 13 [] := by
  unfold ml_X9_stair_13 at h
  exact loop_walk (g := fun (q : Int × Int × Int × Int × Int × Int × Int × (Int → Int) × (Int → Int) × (Int → Int) × (Int → Int) × (Int → Int)) => ∀ (z_c_fault : Int) (z_c_faultPlace : Int), GG E 0 0 (W_X9_stair (eCy E) a_t a_t_act a_t_band a_t_has a_t_lines a_t_pace a_t_part a_t_tape g_t_1 g_t_2 g_t_3 g_t_4 g_t_22 g_t_23 g_t_24 g_t_25 g_t_26 g_t_27 g_t_28 g_t_29 g_t_30 g_t_31 g_t_32 g_t_33 g_t_34 g_t_35 g_t_36 g_t_37 g_t_38 g_t_39 g_t_40 g_t_41 g_t_42 g_t_43 c_thrown c_taped (q.1) (q.2.1) (q.2.2.1) (q.2.2.2.1) (q.2.2.2.2.1) (q.2.2.2.2.2.1) (q.2.2.2.2.2.2.1) z_c_fault z_c_faultPlace c_act (q.2.2.2.2.2.2.2.1) (q.2.2.2.2.2.2.2.2.1) (q.2.2.2.2.2.2.2.2.2.1) (q.2.2.2.2.2.2.2.2.2.2.1) (q.2.2.2.2.2.2.2.2.2.2.2) c_tape) [some (.ref a_t)] 13 []) (fun k hk q h z_c_fault z_c_faultPlace => wb_X9_stair_13 C hN h (fun y0 y1 y2 y3 y4 y5 y6 y7 y8 y9 y10 y11 u0 u1 hh => hk (y0, y1, y2, y3, y4, y5, y6, y7, y8, y9, y10, y11) hh u0 u1) hret) F (c_at, c_token, c_place, c_value, c_word, c_bad, c_badPlace, c_band, c_has, c_lines, c_pace, c_part) h _ _
set_option maxRecDepth 100000 in
set_option maxHeartbeats 4000000 in
theorem wm_X9_stair {F : Nat} {v : Int × Int × Int × Int × Int × Int × Int × Int × Int × Int × Int × Int × (Int → Int) × (Int → Int) × (Int → Int) × (Int → Int) × (Int → Int) × (Int → Int)} {c_taped : Int} {c_act : Int → Int} {c_band : Int → Int} {c_has : Int → Int} {c_lines : Int → Int} {c_pace : Int → Int} {c_part : Int → Int} {c_tape : Int → Int} {c_thrown : Int} {c_at : Int} {c_token : Int} {c_place : Int} {c_value : Int} {c_word : Int} {c_bad : Int} {c_badPlace : Int} {c_fault : Int} {c_faultPlace : Int} (C : Cx E cX9_stair RX9 { frames := 7, cells := 0, slots := 0, locals := 158 }) (hN : eN E = 1) (h : m_X9_stair F c_taped c_act c_band c_has c_lines c_pace c_part c_tape = some v) (hret : ∀ (pc : Nat) (L : List (Option Value)), decode cX9_stair pc = .ok (.ireturn, 1) → GG E 0 0 (W_X9_stair (eCy E) a_t a_t_act a_t_band a_t_has a_t_lines a_t_pace a_t_part a_t_tape g_t_1 g_t_2 g_t_3 g_t_4 g_t_22 g_t_23 g_t_24 g_t_25 g_t_26 g_t_27 g_t_28 g_t_29 g_t_30 g_t_31 g_t_32 g_t_33 g_t_34 g_t_35 g_t_36 g_t_37 g_t_38 g_t_39 g_t_40 g_t_41 g_t_42 g_t_43 (v.2.1) (v.2.2.1) (v.2.2.2.1) (v.2.2.2.2.1) (v.2.2.2.2.2.1) (v.2.2.2.2.2.2.1) (v.2.2.2.2.2.2.2.1) (v.2.2.2.2.2.2.2.2.1) (v.2.2.2.2.2.2.2.2.2.1) (v.2.2.2.2.2.2.2.2.2.2.1) (v.2.2.2.2.2.2.2.2.2.2.2.1) (v.2.2.2.2.2.2.2.2.2.2.2.2.1) (v.2.2.2.2.2.2.2.2.2.2.2.2.2.1) (v.2.2.2.2.2.2.2.2.2.2.2.2.2.2.1) (v.2.2.2.2.2.2.2.2.2.2.2.2.2.2.2.1) (v.2.2.2.2.2.2.2.2.2.2.2.2.2.2.2.2.1) (v.2.2.2.2.2.2.2.2.2.2.2.2.2.2.2.2.2) c_tape) L pc [.int (wI (v.1))]) : GG E 0 0 (W_X9_stair (eCy E) a_t a_t_act a_t_band a_t_has a_t_lines a_t_pace a_t_part a_t_tape g_t_1 g_t_2 g_t_3 g_t_4 g_t_22 g_t_23 g_t_24 g_t_25 g_t_26 g_t_27 g_t_28 g_t_29 g_t_30 g_t_31 g_t_32 g_t_33 g_t_34 g_t_35 g_t_36 g_t_37 g_t_38 g_t_39 g_t_40 g_t_41 g_t_42 g_t_43 c_thrown c_taped c_at c_token c_place c_value c_word c_bad c_badPlace c_fault c_faultPlace c_act c_band c_has c_lines c_pace c_part c_tape) [some (.ref a_t)] 0 [] := by
  unfold m_X9_stair at h
  refine g_aload_n 0 C dX9_stair_0 rfl rfl ?_
  refine g_iconst C dX9_stair_1 ?_
  refine g_putI C fp_X9_71 0 rfl rfl (ws' := (W_X9_stair (eCy E) a_t a_t_act a_t_band a_t_has a_t_lines a_t_pace a_t_part a_t_tape g_t_1 g_t_2 g_t_3 g_t_4 g_t_22 g_t_23 g_t_24 g_t_25 g_t_26 g_t_27 g_t_28 g_t_29 g_t_30 g_t_31 g_t_32 g_t_33 g_t_34 g_t_35 g_t_36 g_t_37 g_t_38 g_t_39 g_t_40 g_t_41 g_t_42 g_t_43 0 c_taped c_at c_token c_place c_value c_word c_bad c_badPlace c_fault c_faultPlace c_act c_band c_has c_lines c_pace c_part c_tape)) rfl dX9_stair_2 ?_
  refine g_aload_n 0 C dX9_stair_5 rfl rfl ?_
  obtain ⟨o1, o2, hr3, h⟩ := bnd2_some h
  refine g_callV [0, 3, 4] [1, 2, 5, 6, 7] [5, 0, 1, 6, 7, 2, 3, 4] C mt_X9_201 (c_X9_clears0 _ _ _ _ a_t a_t_has a_t_lines (.int (wI 0)) (g_t_1) (g_t_2) (g_t_3) (g_t_4) (.ref a_t_tape) (.int (wI c_taped)) (.int (wI c_at)) (.int (wI c_token)) (.int (wI c_place)) (.int (wI c_value)) (.long (wJ c_word)) (.int (wI c_bad)) (.int (wI c_badPlace)) (.int (wI c_fault)) (.int (wI c_faultPlace)) (.ref a_t_part) (.ref a_t_pace) (.ref a_t_band) (.ref a_t_act) (g_t_22) (g_t_23) (g_t_24) (g_t_25) (g_t_26) (g_t_27) (g_t_28) (g_t_29) (g_t_30) (g_t_31) (g_t_32) (g_t_33) (g_t_34) (g_t_35) (g_t_36) (g_t_37) (g_t_38) (g_t_39) (g_t_40) (g_t_41) (g_t_42) (g_t_43) c_has c_lines F hr3) (q0 := 0) rfl (ci := 9) rfl rfl rfl (ws2 := (W_X9_stair (eCy E) a_t a_t_act a_t_band a_t_has a_t_lines a_t_pace a_t_part a_t_tape g_t_1 g_t_2 g_t_3 g_t_4 g_t_22 g_t_23 g_t_24 g_t_25 g_t_26 g_t_27 g_t_28 g_t_29 g_t_30 g_t_31 g_t_32 g_t_33 g_t_34 g_t_35 g_t_36 g_t_37 g_t_38 g_t_39 g_t_40 g_t_41 g_t_42 g_t_43 0 c_taped c_at c_token c_place c_value c_word c_bad c_badPlace c_fault c_faultPlace c_act c_band o1 o2 c_pace c_part c_tape)) rfl rfl rfl (rest := []) rfl rfl rfl dX9_stair_6 ?_
  refine g_aload_n 0 C dX9_stair_9 rfl rfl ?_
  obtain ⟨o4, o5, o6, o7, o8, o9, o10, hr11, h⟩ := bnd7_some h
  refine g_callV [0, 7] [1, 2, 3, 4, 5, 6] [6, 0, 1, 2, 3, 4, 5, 7] C mt_X9_204 (c_X9_begins _ _ _ _ a_t a_t_tape (.int (wI 0)) (g_t_1) (g_t_2) (g_t_3) (g_t_4) (.int (wI c_fault)) (.int (wI c_faultPlace)) (.ref a_t_lines) (.ref a_t_has) (.ref a_t_part) (.ref a_t_pace) (.ref a_t_band) (.ref a_t_act) (g_t_22) (g_t_23) (g_t_24) (g_t_25) (g_t_26) (g_t_27) (g_t_28) (g_t_29) (g_t_30) (g_t_31) (g_t_32) (g_t_33) (g_t_34) (g_t_35) (g_t_36) (g_t_37) (g_t_38) (g_t_39) (g_t_40) (g_t_41) (g_t_42) (g_t_43) c_taped c_at c_token c_place c_value c_word c_bad c_badPlace c_tape F hr11) (q0 := 0) rfl (ci := 9) rfl rfl rfl (ws2 := (W_X9_stair (eCy E) a_t a_t_act a_t_band a_t_has a_t_lines a_t_pace a_t_part a_t_tape g_t_1 g_t_2 g_t_3 g_t_4 g_t_22 g_t_23 g_t_24 g_t_25 g_t_26 g_t_27 g_t_28 g_t_29 g_t_30 g_t_31 g_t_32 g_t_33 g_t_34 g_t_35 g_t_36 g_t_37 g_t_38 g_t_39 g_t_40 g_t_41 g_t_42 g_t_43 0 c_taped o4 o5 o6 o7 o8 o9 o10 c_fault c_faultPlace c_act c_band o1 o2 c_pace c_part c_tape)) rfl rfl rfl (rest := []) rfl rfl rfl dX9_stair_10 ?_
  exact wl_X9_stair_13 C hN h hret
end S_X9_stair
set_option maxRecDepth 100000 in
set_option maxHeartbeats 4000000 in
theorem c_X9_stair (l : Launch) (D : va_G) (cy : Nat → ClassId) (ad : AD) (a_t a_t_act a_t_band a_t_has a_t_lines a_t_pace a_t_part a_t_tape : Nat) (g_t_1 : Value) (g_t_2 : Value) (g_t_3 : Value) (g_t_4 : Value) (g_t_22 : Value) (g_t_23 : Value) (g_t_24 : Value) (g_t_25 : Value) (g_t_26 : Value) (g_t_27 : Value) (g_t_28 : Value) (g_t_29 : Value) (g_t_30 : Value) (g_t_31 : Value) (g_t_32 : Value) (g_t_33 : Value) (g_t_34 : Value) (g_t_35 : Value) (g_t_36 : Value) (g_t_37 : Value) (g_t_38 : Value) (g_t_39 : Value) (g_t_40 : Value) (g_t_41 : Value) (g_t_42 : Value) (g_t_43 : Value) (c_thrown : Int) (c_taped : Int) (c_at : Int) (c_token : Int) (c_place : Int) (c_value : Int) (c_word : Int) (c_bad : Int) (c_badPlace : Int) (c_fault : Int) (c_faultPlace : Int) (c_act : Int → Int) (c_band : Int → Int) (c_has : Int → Int) (c_lines : Int → Int) (c_pace : Int → Int) (c_part : Int → Int) (c_tape : Int → Int) (F : Nat) {v : Int × Int × Int × Int × Int × Int × Int × Int × Int × Int × Int × Int × (Int → Int) × (Int → Int) × (Int → Int) × (Int → Int) × (Int → Int) × (Int → Int)} (h : m_X9_stair F c_taped c_act c_band c_has c_lines c_pace c_part c_tape = some v) : Ct l yX9_stair cX9_stair 1 (some .int) { frames := 7, cells := 0, slots := 0, locals := 158 } D cy ad [.ref a_t] (W_X9_stair cy a_t a_t_act a_t_band a_t_has a_t_lines a_t_pace a_t_part a_t_tape g_t_1 g_t_2 g_t_3 g_t_4 g_t_22 g_t_23 g_t_24 g_t_25 g_t_26 g_t_27 g_t_28 g_t_29 g_t_30 g_t_31 g_t_32 g_t_33 g_t_34 g_t_35 g_t_36 g_t_37 g_t_38 g_t_39 g_t_40 g_t_41 g_t_42 g_t_43 c_thrown c_taped c_at c_token c_place c_value c_word c_bad c_badPlace c_fault c_faultPlace c_act c_band c_has c_lines c_pace c_part c_tape) (W_X9_stair cy a_t a_t_act a_t_band a_t_has a_t_lines a_t_pace a_t_part a_t_tape g_t_1 g_t_2 g_t_3 g_t_4 g_t_22 g_t_23 g_t_24 g_t_25 g_t_26 g_t_27 g_t_28 g_t_29 g_t_30 g_t_31 g_t_32 g_t_33 g_t_34 g_t_35 g_t_36 g_t_37 g_t_38 g_t_39 g_t_40 g_t_41 g_t_42 g_t_43 (v.2.1) (v.2.2.1) (v.2.2.2.1) (v.2.2.2.2.1) (v.2.2.2.2.2.1) (v.2.2.2.2.2.2.1) (v.2.2.2.2.2.2.2.1) (v.2.2.2.2.2.2.2.2.1) (v.2.2.2.2.2.2.2.2.2.1) (v.2.2.2.2.2.2.2.2.2.2.1) (v.2.2.2.2.2.2.2.2.2.2.2.1) (v.2.2.2.2.2.2.2.2.2.2.2.2.1) (v.2.2.2.2.2.2.2.2.2.2.2.2.2.1) (v.2.2.2.2.2.2.2.2.2.2.2.2.2.2.1) (v.2.2.2.2.2.2.2.2.2.2.2.2.2.2.2.1) (v.2.2.2.2.2.2.2.2.2.2.2.2.2.2.2.2.1) (v.2.2.2.2.2.2.2.2.2.2.2.2.2.2.2.2.2) c_tape) (some (.int (wI (v.1)))) := by
  refine Ct.introI (j := 0) (plainFor_of_name (by decide)) rfl rfl (fun E C e1 e2 e3 e4 e5 hret => ?_)
  subst e1; subst e2; subst e3; subst e4
  exact wm_X9_stair C e5 h hret
-- MovingStairModel.isStair()Z
def W_X9_isStair (cy : Nat → ClassId) (a_t a_t_lines : Nat) (g_t_0 : Value) (g_t_1 : Value) (g_t_2 : Value) (g_t_3 : Value) (g_t_4 : Value) (g_t_5 : Value) (g_t_6 : Value) (g_t_7 : Value) (g_t_8 : Value) (g_t_9 : Value) (g_t_10 : Value) (g_t_11 : Value) (g_t_12 : Value) (g_t_13 : Value) (g_t_14 : Value) (g_t_15 : Value) (g_t_17 : Value) (g_t_18 : Value) (g_t_19 : Value) (g_t_20 : Value) (g_t_21 : Value) (g_t_22 : Value) (g_t_23 : Value) (g_t_24 : Value) (g_t_25 : Value) (g_t_26 : Value) (g_t_27 : Value) (g_t_28 : Value) (g_t_29 : Value) (g_t_30 : Value) (g_t_31 : Value) (g_t_32 : Value) (g_t_33 : Value) (g_t_34 : Value) (g_t_35 : Value) (g_t_36 : Value) (g_t_37 : Value) (g_t_38 : Value) (g_t_39 : Value) (g_t_40 : Value) (g_t_41 : Value) (g_t_42 : Value) (g_t_43 : Value) (c_lines : Int → Int) : va_W := [(a_t, .inr (9, [g_t_0, g_t_1, g_t_2, g_t_3, g_t_4, g_t_5, g_t_6, g_t_7, g_t_8, g_t_9, g_t_10, g_t_11, g_t_12, g_t_13, g_t_14, g_t_15, .ref a_t_lines, g_t_17, g_t_18, g_t_19, g_t_20, g_t_21, g_t_22, g_t_23, g_t_24, g_t_25, g_t_26, g_t_27, g_t_28, g_t_29, g_t_30, g_t_31, g_t_32, g_t_33, g_t_34, g_t_35, g_t_36, g_t_37, g_t_38, g_t_39, g_t_40, g_t_41, g_t_42, g_t_43])), (a_t_lines, .inl (cy 1, 5, .inl (aI c_lines)))]
def m_X9_isStair (F : Nat) (c_lines : Int → Int) : Option (Int) :=
  if wI (c_lines 0) ≤ wI 0 then
    (some 0)
  else
    (some 1)
section S_X9_isStair
variable {E : EE} {a_t a_t_lines : Nat} {g_t_0 : Value} {g_t_1 : Value} {g_t_2 : Value} {g_t_3 : Value} {g_t_4 : Value} {g_t_5 : Value} {g_t_6 : Value} {g_t_7 : Value} {g_t_8 : Value} {g_t_9 : Value} {g_t_10 : Value} {g_t_11 : Value} {g_t_12 : Value} {g_t_13 : Value} {g_t_14 : Value} {g_t_15 : Value} {g_t_17 : Value} {g_t_18 : Value} {g_t_19 : Value} {g_t_20 : Value} {g_t_21 : Value} {g_t_22 : Value} {g_t_23 : Value} {g_t_24 : Value} {g_t_25 : Value} {g_t_26 : Value} {g_t_27 : Value} {g_t_28 : Value} {g_t_29 : Value} {g_t_30 : Value} {g_t_31 : Value} {g_t_32 : Value} {g_t_33 : Value} {g_t_34 : Value} {g_t_35 : Value} {g_t_36 : Value} {g_t_37 : Value} {g_t_38 : Value} {g_t_39 : Value} {g_t_40 : Value} {g_t_41 : Value} {g_t_42 : Value} {g_t_43 : Value}
set_option maxRecDepth 100000 in
set_option maxHeartbeats 4000000 in
theorem wm_X9_isStair {F : Nat} {v : Int} {c_lines : Int → Int} (C : Cx E cX9_isStair RX9 { frames := 0, cells := 0, slots := 0, locals := 0 }) (hN : eN E = 1) (h : m_X9_isStair F c_lines = some v) (hret : ∀ (pc : Nat) (L : List (Option Value)), narrow .boolean (.int (wI v)) = .int (wI v) → decode cX9_isStair pc = .ok (.ireturn, 1) → GG E 0 0 (W_X9_isStair (eCy E) a_t a_t_lines g_t_0 g_t_1 g_t_2 g_t_3 g_t_4 g_t_5 g_t_6 g_t_7 g_t_8 g_t_9 g_t_10 g_t_11 g_t_12 g_t_13 g_t_14 g_t_15 g_t_17 g_t_18 g_t_19 g_t_20 g_t_21 g_t_22 g_t_23 g_t_24 g_t_25 g_t_26 g_t_27 g_t_28 g_t_29 g_t_30 g_t_31 g_t_32 g_t_33 g_t_34 g_t_35 g_t_36 g_t_37 g_t_38 g_t_39 g_t_40 g_t_41 g_t_42 g_t_43 c_lines) L pc [.int (wI v)]) : GG E 0 0 (W_X9_isStair (eCy E) a_t a_t_lines g_t_0 g_t_1 g_t_2 g_t_3 g_t_4 g_t_5 g_t_6 g_t_7 g_t_8 g_t_9 g_t_10 g_t_11 g_t_12 g_t_13 g_t_14 g_t_15 g_t_17 g_t_18 g_t_19 g_t_20 g_t_21 g_t_22 g_t_23 g_t_24 g_t_25 g_t_26 g_t_27 g_t_28 g_t_29 g_t_30 g_t_31 g_t_32 g_t_33 g_t_34 g_t_35 g_t_36 g_t_37 g_t_38 g_t_39 g_t_40 g_t_41 g_t_42 g_t_43 c_lines) [some (.ref a_t)] 0 [] := by
  unfold m_X9_isStair at h
  refine g_aload_n 0 C dX9_isStair_0 rfl rfl ?_
  refine g_get C fg_X9_31 0 rfl rfl dX9_isStair_1 ?_
  refine g_iconst C dX9_isStair_4 ?_
  refine g_iald C 1 rfl (by decide) rfl dX9_isStair_5 ?_
  refine g_if_le 13 C dX9_isStair_6 (by decide) h (fun h => ?_) (fun h => ?_)
  · refine g_iconst C dX9_isStair_13 ?_
    cases h
    exact hret 14 _ bn0 dX9_isStair_14
  · refine g_iconst C dX9_isStair_9 ?_
    refine g_goto (tgt := 14) C dX9_isStair_10 (by decide) ?_
    cases h
    exact hret 14 _ bn1 dX9_isStair_14
end S_X9_isStair
set_option maxRecDepth 100000 in
set_option maxHeartbeats 4000000 in
theorem c_X9_isStair (l : Launch) (D : va_G) (cy : Nat → ClassId) (ad : AD) (a_t a_t_lines : Nat) (g_t_0 : Value) (g_t_1 : Value) (g_t_2 : Value) (g_t_3 : Value) (g_t_4 : Value) (g_t_5 : Value) (g_t_6 : Value) (g_t_7 : Value) (g_t_8 : Value) (g_t_9 : Value) (g_t_10 : Value) (g_t_11 : Value) (g_t_12 : Value) (g_t_13 : Value) (g_t_14 : Value) (g_t_15 : Value) (g_t_17 : Value) (g_t_18 : Value) (g_t_19 : Value) (g_t_20 : Value) (g_t_21 : Value) (g_t_22 : Value) (g_t_23 : Value) (g_t_24 : Value) (g_t_25 : Value) (g_t_26 : Value) (g_t_27 : Value) (g_t_28 : Value) (g_t_29 : Value) (g_t_30 : Value) (g_t_31 : Value) (g_t_32 : Value) (g_t_33 : Value) (g_t_34 : Value) (g_t_35 : Value) (g_t_36 : Value) (g_t_37 : Value) (g_t_38 : Value) (g_t_39 : Value) (g_t_40 : Value) (g_t_41 : Value) (g_t_42 : Value) (g_t_43 : Value) (c_lines : Int → Int) (F : Nat) {v : Int} (h : m_X9_isStair F c_lines = some v) : Ct l yX9_isStair cX9_isStair 1 (some .boolean) { frames := 0, cells := 0, slots := 0, locals := 0 } D cy ad [.ref a_t] (W_X9_isStair cy a_t a_t_lines g_t_0 g_t_1 g_t_2 g_t_3 g_t_4 g_t_5 g_t_6 g_t_7 g_t_8 g_t_9 g_t_10 g_t_11 g_t_12 g_t_13 g_t_14 g_t_15 g_t_17 g_t_18 g_t_19 g_t_20 g_t_21 g_t_22 g_t_23 g_t_24 g_t_25 g_t_26 g_t_27 g_t_28 g_t_29 g_t_30 g_t_31 g_t_32 g_t_33 g_t_34 g_t_35 g_t_36 g_t_37 g_t_38 g_t_39 g_t_40 g_t_41 g_t_42 g_t_43 c_lines) (W_X9_isStair cy a_t a_t_lines g_t_0 g_t_1 g_t_2 g_t_3 g_t_4 g_t_5 g_t_6 g_t_7 g_t_8 g_t_9 g_t_10 g_t_11 g_t_12 g_t_13 g_t_14 g_t_15 g_t_17 g_t_18 g_t_19 g_t_20 g_t_21 g_t_22 g_t_23 g_t_24 g_t_25 g_t_26 g_t_27 g_t_28 g_t_29 g_t_30 g_t_31 g_t_32 g_t_33 g_t_34 g_t_35 g_t_36 g_t_37 g_t_38 g_t_39 g_t_40 g_t_41 g_t_42 g_t_43 c_lines) (some (.int (wI v))) := by
  refine Ct.introZ (j := 0) (plainFor_of_name (by decide)) rfl rfl (fun E C e1 e2 e3 e4 e5 hret => ?_)
  subst e1; subst e2; subst e3; subst e4
  exact wm_X9_isStair C e5 h hret
-- MovingStairModel.isPart(I)Z
def W_X9_isPart (cy : Nat → ClassId) (a_t a_t_has : Nat) (g_t_0 : Value) (g_t_1 : Value) (g_t_2 : Value) (g_t_3 : Value) (g_t_4 : Value) (g_t_5 : Value) (g_t_6 : Value) (g_t_7 : Value) (g_t_8 : Value) (g_t_9 : Value) (g_t_10 : Value) (g_t_11 : Value) (g_t_12 : Value) (g_t_13 : Value) (g_t_14 : Value) (g_t_15 : Value) (g_t_16 : Value) (g_t_18 : Value) (g_t_19 : Value) (g_t_20 : Value) (g_t_21 : Value) (g_t_22 : Value) (g_t_23 : Value) (g_t_24 : Value) (g_t_25 : Value) (g_t_26 : Value) (g_t_27 : Value) (g_t_28 : Value) (g_t_29 : Value) (g_t_30 : Value) (g_t_31 : Value) (g_t_32 : Value) (g_t_33 : Value) (g_t_34 : Value) (g_t_35 : Value) (g_t_36 : Value) (g_t_37 : Value) (g_t_38 : Value) (g_t_39 : Value) (g_t_40 : Value) (g_t_41 : Value) (g_t_42 : Value) (g_t_43 : Value) (c_has : Int → Int) : va_W := [(a_t, .inr (9, [g_t_0, g_t_1, g_t_2, g_t_3, g_t_4, g_t_5, g_t_6, g_t_7, g_t_8, g_t_9, g_t_10, g_t_11, g_t_12, g_t_13, g_t_14, g_t_15, g_t_16, .ref a_t_has, g_t_18, g_t_19, g_t_20, g_t_21, g_t_22, g_t_23, g_t_24, g_t_25, g_t_26, g_t_27, g_t_28, g_t_29, g_t_30, g_t_31, g_t_32, g_t_33, g_t_34, g_t_35, g_t_36, g_t_37, g_t_38, g_t_39, g_t_40, g_t_41, g_t_42, g_t_43])), (a_t_has, .inl (cy 1, 45, .inl (aI c_has)))]
def m_X9_isPart (F : Nat) (x1 : Int) (c_has : Int → Int) : Option (Int) :=
  chk (r32 x1) <| chk (r32 ((c_has 1) - 1)) <| bnd1 (m_X9_in F x1 0 ((c_has 1) - 1)) fun r3 => chk (r3 = 0 ∨ r3 = 1) <| some r3
section S_X9_isPart
variable {E : EE} {a_t a_t_has : Nat} {g_t_0 : Value} {g_t_1 : Value} {g_t_2 : Value} {g_t_3 : Value} {g_t_4 : Value} {g_t_5 : Value} {g_t_6 : Value} {g_t_7 : Value} {g_t_8 : Value} {g_t_9 : Value} {g_t_10 : Value} {g_t_11 : Value} {g_t_12 : Value} {g_t_13 : Value} {g_t_14 : Value} {g_t_15 : Value} {g_t_16 : Value} {g_t_18 : Value} {g_t_19 : Value} {g_t_20 : Value} {g_t_21 : Value} {g_t_22 : Value} {g_t_23 : Value} {g_t_24 : Value} {g_t_25 : Value} {g_t_26 : Value} {g_t_27 : Value} {g_t_28 : Value} {g_t_29 : Value} {g_t_30 : Value} {g_t_31 : Value} {g_t_32 : Value} {g_t_33 : Value} {g_t_34 : Value} {g_t_35 : Value} {g_t_36 : Value} {g_t_37 : Value} {g_t_38 : Value} {g_t_39 : Value} {g_t_40 : Value} {g_t_41 : Value} {g_t_42 : Value} {g_t_43 : Value}
set_option maxRecDepth 100000 in
set_option maxHeartbeats 4000000 in
theorem wm_X9_isPart {F : Nat} {v : Int} {x1 : Int} {c_has : Int → Int} (C : Cx E cX9_isPart RX9 { frames := 1, cells := 0, slots := 0, locals := 25 }) (hN : eN E = 2) (h : m_X9_isPart F x1 c_has = some v) (hret : ∀ (pc : Nat) (L : List (Option Value)), narrow .boolean (.int (wI v)) = .int (wI v) → decode cX9_isPart pc = .ok (.ireturn, 1) → GG E 0 0 (W_X9_isPart (eCy E) a_t a_t_has g_t_0 g_t_1 g_t_2 g_t_3 g_t_4 g_t_5 g_t_6 g_t_7 g_t_8 g_t_9 g_t_10 g_t_11 g_t_12 g_t_13 g_t_14 g_t_15 g_t_16 g_t_18 g_t_19 g_t_20 g_t_21 g_t_22 g_t_23 g_t_24 g_t_25 g_t_26 g_t_27 g_t_28 g_t_29 g_t_30 g_t_31 g_t_32 g_t_33 g_t_34 g_t_35 g_t_36 g_t_37 g_t_38 g_t_39 g_t_40 g_t_41 g_t_42 g_t_43 c_has) L pc [.int (wI v)]) : GG E 0 0 (W_X9_isPart (eCy E) a_t a_t_has g_t_0 g_t_1 g_t_2 g_t_3 g_t_4 g_t_5 g_t_6 g_t_7 g_t_8 g_t_9 g_t_10 g_t_11 g_t_12 g_t_13 g_t_14 g_t_15 g_t_16 g_t_18 g_t_19 g_t_20 g_t_21 g_t_22 g_t_23 g_t_24 g_t_25 g_t_26 g_t_27 g_t_28 g_t_29 g_t_30 g_t_31 g_t_32 g_t_33 g_t_34 g_t_35 g_t_36 g_t_37 g_t_38 g_t_39 g_t_40 g_t_41 g_t_42 g_t_43 c_has) [some (.ref a_t), some (.int (wI x1))] 0 [] := by
  unfold m_X9_isPart at h
  refine g_iload_n 1 C dX9_isPart_0 rfl rfl ?_
  obtain ⟨hc1, h⟩ := chk_some h
  refine g_i2l C dX9_isPart_1 hc1 ?_
  refine g_lconst (x := 0) C dX9_isPart_2 (by decide) ?_
  refine g_aload_n 0 C dX9_isPart_3 rfl rfl ?_
  refine g_get C fg_X9_34 0 rfl rfl dX9_isPart_4 ?_
  refine g_iconst C dX9_isPart_7 ?_
  refine g_iald C 1 rfl (by decide) rfl dX9_isPart_8 ?_
  refine g_iconst C dX9_isPart_9 ?_
  refine g_isub C dX9_isPart_10 ?_
  obtain ⟨hc2, h⟩ := chk_some h
  refine g_i2l C dX9_isPart_11 hc2 ?_
  obtain ⟨r3, hr4, h⟩ := bnd1_some h
  refine g_callSI [] [0, 1] [0, 1] C mt_X9_76 (c_X9_in _ _ _ _ x1 0 ((c_has 1) - 1) F hr4) rfl rfl (ws2 := (W_X9_isPart (eCy E) a_t a_t_has g_t_0 g_t_1 g_t_2 g_t_3 g_t_4 g_t_5 g_t_6 g_t_7 g_t_8 g_t_9 g_t_10 g_t_11 g_t_12 g_t_13 g_t_14 g_t_15 g_t_16 g_t_18 g_t_19 g_t_20 g_t_21 g_t_22 g_t_23 g_t_24 g_t_25 g_t_26 g_t_27 g_t_28 g_t_29 g_t_30 g_t_31 g_t_32 g_t_33 g_t_34 g_t_35 g_t_36 g_t_37 g_t_38 g_t_39 g_t_40 g_t_41 g_t_42 g_t_43 c_has)) rfl rfl rfl (rest := []) rfl rfl rfl dX9_isPart_12 ?_
  obtain ⟨hc5, h⟩ := chk_some h
  cases h
  exact hret 15 _ (bool_nar hc5).1 dX9_isPart_15
end S_X9_isPart
set_option maxRecDepth 100000 in
set_option maxHeartbeats 4000000 in
theorem c_X9_isPart (l : Launch) (D : va_G) (cy : Nat → ClassId) (ad : AD) (a_t a_t_has : Nat) (g_t_0 : Value) (g_t_1 : Value) (g_t_2 : Value) (g_t_3 : Value) (g_t_4 : Value) (g_t_5 : Value) (g_t_6 : Value) (g_t_7 : Value) (g_t_8 : Value) (g_t_9 : Value) (g_t_10 : Value) (g_t_11 : Value) (g_t_12 : Value) (g_t_13 : Value) (g_t_14 : Value) (g_t_15 : Value) (g_t_16 : Value) (g_t_18 : Value) (g_t_19 : Value) (g_t_20 : Value) (g_t_21 : Value) (g_t_22 : Value) (g_t_23 : Value) (g_t_24 : Value) (g_t_25 : Value) (g_t_26 : Value) (g_t_27 : Value) (g_t_28 : Value) (g_t_29 : Value) (g_t_30 : Value) (g_t_31 : Value) (g_t_32 : Value) (g_t_33 : Value) (g_t_34 : Value) (g_t_35 : Value) (g_t_36 : Value) (g_t_37 : Value) (g_t_38 : Value) (g_t_39 : Value) (g_t_40 : Value) (g_t_41 : Value) (g_t_42 : Value) (g_t_43 : Value) (x1 : Int) (c_has : Int → Int) (F : Nat) {v : Int} (h : m_X9_isPart F x1 c_has = some v) : Ct l yX9_isPart cX9_isPart 2 (some .boolean) { frames := 1, cells := 0, slots := 0, locals := 25 } D cy ad [.ref a_t, .int (wI x1)] (W_X9_isPart cy a_t a_t_has g_t_0 g_t_1 g_t_2 g_t_3 g_t_4 g_t_5 g_t_6 g_t_7 g_t_8 g_t_9 g_t_10 g_t_11 g_t_12 g_t_13 g_t_14 g_t_15 g_t_16 g_t_18 g_t_19 g_t_20 g_t_21 g_t_22 g_t_23 g_t_24 g_t_25 g_t_26 g_t_27 g_t_28 g_t_29 g_t_30 g_t_31 g_t_32 g_t_33 g_t_34 g_t_35 g_t_36 g_t_37 g_t_38 g_t_39 g_t_40 g_t_41 g_t_42 g_t_43 c_has) (W_X9_isPart cy a_t a_t_has g_t_0 g_t_1 g_t_2 g_t_3 g_t_4 g_t_5 g_t_6 g_t_7 g_t_8 g_t_9 g_t_10 g_t_11 g_t_12 g_t_13 g_t_14 g_t_15 g_t_16 g_t_18 g_t_19 g_t_20 g_t_21 g_t_22 g_t_23 g_t_24 g_t_25 g_t_26 g_t_27 g_t_28 g_t_29 g_t_30 g_t_31 g_t_32 g_t_33 g_t_34 g_t_35 g_t_36 g_t_37 g_t_38 g_t_39 g_t_40 g_t_41 g_t_42 g_t_43 c_has) (some (.int (wI v))) := by
  refine Ct.introZ (j := 0) (plainFor_of_name (by decide)) rfl rfl (fun E C e1 e2 e3 e4 e5 hret => ?_)
  subst e1; subst e2; subst e3; subst e4
  exact wm_X9_isPart C e5 h hret
-- MovingStairModel.isWalker(I)Z
def W_X9_isWalker (cy : Nat → ClassId) (a_t a_t_has : Nat) (g_t_0 : Value) (g_t_1 : Value) (g_t_2 : Value) (g_t_3 : Value) (g_t_4 : Value) (g_t_5 : Value) (g_t_6 : Value) (g_t_7 : Value) (g_t_8 : Value) (g_t_9 : Value) (g_t_10 : Value) (g_t_11 : Value) (g_t_12 : Value) (g_t_13 : Value) (g_t_14 : Value) (g_t_15 : Value) (g_t_16 : Value) (g_t_18 : Value) (g_t_19 : Value) (g_t_20 : Value) (g_t_21 : Value) (g_t_22 : Value) (g_t_23 : Value) (g_t_24 : Value) (g_t_25 : Value) (g_t_26 : Value) (g_t_27 : Value) (g_t_28 : Value) (g_t_29 : Value) (g_t_30 : Value) (g_t_31 : Value) (g_t_32 : Value) (g_t_33 : Value) (g_t_34 : Value) (g_t_35 : Value) (g_t_36 : Value) (g_t_37 : Value) (g_t_38 : Value) (g_t_39 : Value) (g_t_40 : Value) (g_t_41 : Value) (g_t_42 : Value) (g_t_43 : Value) (c_has : Int → Int) : va_W := [(a_t, .inr (9, [g_t_0, g_t_1, g_t_2, g_t_3, g_t_4, g_t_5, g_t_6, g_t_7, g_t_8, g_t_9, g_t_10, g_t_11, g_t_12, g_t_13, g_t_14, g_t_15, g_t_16, .ref a_t_has, g_t_18, g_t_19, g_t_20, g_t_21, g_t_22, g_t_23, g_t_24, g_t_25, g_t_26, g_t_27, g_t_28, g_t_29, g_t_30, g_t_31, g_t_32, g_t_33, g_t_34, g_t_35, g_t_36, g_t_37, g_t_38, g_t_39, g_t_40, g_t_41, g_t_42, g_t_43])), (a_t_has, .inl (cy 1, 45, .inl (aI c_has)))]
def m_X9_isWalker (F : Nat) (x1 : Int) (c_has : Int → Int) : Option (Int) :=
  chk (r32 x1) <| chk (r32 ((c_has 2) - 1)) <| bnd1 (m_X9_in F x1 0 ((c_has 2) - 1)) fun r3 => chk (r3 = 0 ∨ r3 = 1) <| some r3
section S_X9_isWalker
variable {E : EE} {a_t a_t_has : Nat} {g_t_0 : Value} {g_t_1 : Value} {g_t_2 : Value} {g_t_3 : Value} {g_t_4 : Value} {g_t_5 : Value} {g_t_6 : Value} {g_t_7 : Value} {g_t_8 : Value} {g_t_9 : Value} {g_t_10 : Value} {g_t_11 : Value} {g_t_12 : Value} {g_t_13 : Value} {g_t_14 : Value} {g_t_15 : Value} {g_t_16 : Value} {g_t_18 : Value} {g_t_19 : Value} {g_t_20 : Value} {g_t_21 : Value} {g_t_22 : Value} {g_t_23 : Value} {g_t_24 : Value} {g_t_25 : Value} {g_t_26 : Value} {g_t_27 : Value} {g_t_28 : Value} {g_t_29 : Value} {g_t_30 : Value} {g_t_31 : Value} {g_t_32 : Value} {g_t_33 : Value} {g_t_34 : Value} {g_t_35 : Value} {g_t_36 : Value} {g_t_37 : Value} {g_t_38 : Value} {g_t_39 : Value} {g_t_40 : Value} {g_t_41 : Value} {g_t_42 : Value} {g_t_43 : Value}
set_option maxRecDepth 100000 in
set_option maxHeartbeats 4000000 in
theorem wm_X9_isWalker {F : Nat} {v : Int} {x1 : Int} {c_has : Int → Int} (C : Cx E cX9_isWalker RX9 { frames := 1, cells := 0, slots := 0, locals := 25 }) (hN : eN E = 2) (h : m_X9_isWalker F x1 c_has = some v) (hret : ∀ (pc : Nat) (L : List (Option Value)), narrow .boolean (.int (wI v)) = .int (wI v) → decode cX9_isWalker pc = .ok (.ireturn, 1) → GG E 0 0 (W_X9_isWalker (eCy E) a_t a_t_has g_t_0 g_t_1 g_t_2 g_t_3 g_t_4 g_t_5 g_t_6 g_t_7 g_t_8 g_t_9 g_t_10 g_t_11 g_t_12 g_t_13 g_t_14 g_t_15 g_t_16 g_t_18 g_t_19 g_t_20 g_t_21 g_t_22 g_t_23 g_t_24 g_t_25 g_t_26 g_t_27 g_t_28 g_t_29 g_t_30 g_t_31 g_t_32 g_t_33 g_t_34 g_t_35 g_t_36 g_t_37 g_t_38 g_t_39 g_t_40 g_t_41 g_t_42 g_t_43 c_has) L pc [.int (wI v)]) : GG E 0 0 (W_X9_isWalker (eCy E) a_t a_t_has g_t_0 g_t_1 g_t_2 g_t_3 g_t_4 g_t_5 g_t_6 g_t_7 g_t_8 g_t_9 g_t_10 g_t_11 g_t_12 g_t_13 g_t_14 g_t_15 g_t_16 g_t_18 g_t_19 g_t_20 g_t_21 g_t_22 g_t_23 g_t_24 g_t_25 g_t_26 g_t_27 g_t_28 g_t_29 g_t_30 g_t_31 g_t_32 g_t_33 g_t_34 g_t_35 g_t_36 g_t_37 g_t_38 g_t_39 g_t_40 g_t_41 g_t_42 g_t_43 c_has) [some (.ref a_t), some (.int (wI x1))] 0 [] := by
  unfold m_X9_isWalker at h
  refine g_iload_n 1 C dX9_isWalker_0 rfl rfl ?_
  obtain ⟨hc1, h⟩ := chk_some h
  refine g_i2l C dX9_isWalker_1 hc1 ?_
  refine g_lconst (x := 0) C dX9_isWalker_2 (by decide) ?_
  refine g_aload_n 0 C dX9_isWalker_3 rfl rfl ?_
  refine g_get C fg_X9_34 0 rfl rfl dX9_isWalker_4 ?_
  refine g_iconst C dX9_isWalker_7 ?_
  refine g_iald C 1 rfl (by decide) rfl dX9_isWalker_8 ?_
  refine g_iconst C dX9_isWalker_9 ?_
  refine g_isub C dX9_isWalker_10 ?_
  obtain ⟨hc2, h⟩ := chk_some h
  refine g_i2l C dX9_isWalker_11 hc2 ?_
  obtain ⟨r3, hr4, h⟩ := bnd1_some h
  refine g_callSI [] [0, 1] [0, 1] C mt_X9_76 (c_X9_in _ _ _ _ x1 0 ((c_has 2) - 1) F hr4) rfl rfl (ws2 := (W_X9_isWalker (eCy E) a_t a_t_has g_t_0 g_t_1 g_t_2 g_t_3 g_t_4 g_t_5 g_t_6 g_t_7 g_t_8 g_t_9 g_t_10 g_t_11 g_t_12 g_t_13 g_t_14 g_t_15 g_t_16 g_t_18 g_t_19 g_t_20 g_t_21 g_t_22 g_t_23 g_t_24 g_t_25 g_t_26 g_t_27 g_t_28 g_t_29 g_t_30 g_t_31 g_t_32 g_t_33 g_t_34 g_t_35 g_t_36 g_t_37 g_t_38 g_t_39 g_t_40 g_t_41 g_t_42 g_t_43 c_has)) rfl rfl rfl (rest := []) rfl rfl rfl dX9_isWalker_12 ?_
  obtain ⟨hc5, h⟩ := chk_some h
  cases h
  exact hret 15 _ (bool_nar hc5).1 dX9_isWalker_15
end S_X9_isWalker
set_option maxRecDepth 100000 in
set_option maxHeartbeats 4000000 in
theorem c_X9_isWalker (l : Launch) (D : va_G) (cy : Nat → ClassId) (ad : AD) (a_t a_t_has : Nat) (g_t_0 : Value) (g_t_1 : Value) (g_t_2 : Value) (g_t_3 : Value) (g_t_4 : Value) (g_t_5 : Value) (g_t_6 : Value) (g_t_7 : Value) (g_t_8 : Value) (g_t_9 : Value) (g_t_10 : Value) (g_t_11 : Value) (g_t_12 : Value) (g_t_13 : Value) (g_t_14 : Value) (g_t_15 : Value) (g_t_16 : Value) (g_t_18 : Value) (g_t_19 : Value) (g_t_20 : Value) (g_t_21 : Value) (g_t_22 : Value) (g_t_23 : Value) (g_t_24 : Value) (g_t_25 : Value) (g_t_26 : Value) (g_t_27 : Value) (g_t_28 : Value) (g_t_29 : Value) (g_t_30 : Value) (g_t_31 : Value) (g_t_32 : Value) (g_t_33 : Value) (g_t_34 : Value) (g_t_35 : Value) (g_t_36 : Value) (g_t_37 : Value) (g_t_38 : Value) (g_t_39 : Value) (g_t_40 : Value) (g_t_41 : Value) (g_t_42 : Value) (g_t_43 : Value) (x1 : Int) (c_has : Int → Int) (F : Nat) {v : Int} (h : m_X9_isWalker F x1 c_has = some v) : Ct l yX9_isWalker cX9_isWalker 2 (some .boolean) { frames := 1, cells := 0, slots := 0, locals := 25 } D cy ad [.ref a_t, .int (wI x1)] (W_X9_isWalker cy a_t a_t_has g_t_0 g_t_1 g_t_2 g_t_3 g_t_4 g_t_5 g_t_6 g_t_7 g_t_8 g_t_9 g_t_10 g_t_11 g_t_12 g_t_13 g_t_14 g_t_15 g_t_16 g_t_18 g_t_19 g_t_20 g_t_21 g_t_22 g_t_23 g_t_24 g_t_25 g_t_26 g_t_27 g_t_28 g_t_29 g_t_30 g_t_31 g_t_32 g_t_33 g_t_34 g_t_35 g_t_36 g_t_37 g_t_38 g_t_39 g_t_40 g_t_41 g_t_42 g_t_43 c_has) (W_X9_isWalker cy a_t a_t_has g_t_0 g_t_1 g_t_2 g_t_3 g_t_4 g_t_5 g_t_6 g_t_7 g_t_8 g_t_9 g_t_10 g_t_11 g_t_12 g_t_13 g_t_14 g_t_15 g_t_16 g_t_18 g_t_19 g_t_20 g_t_21 g_t_22 g_t_23 g_t_24 g_t_25 g_t_26 g_t_27 g_t_28 g_t_29 g_t_30 g_t_31 g_t_32 g_t_33 g_t_34 g_t_35 g_t_36 g_t_37 g_t_38 g_t_39 g_t_40 g_t_41 g_t_42 g_t_43 c_has) (some (.int (wI v))) := by
  refine Ct.introZ (j := 0) (plainFor_of_name (by decide)) rfl rfl (fun E C e1 e2 e3 e4 e5 hret => ?_)
  subst e1; subst e2; subst e3; subst e4
  exact wm_X9_isWalker C e5 h hret
-- MovingStairModel.isBit(II)Z
def W_X9_isBit (cy : Nat → ClassId) : va_W := []
def m_X9_isBit (F : Nat) (x0 : Int) (x1 : Int) : Option (Int) :=
  if wI (andI (shrI x0 x1) 1) = wI 1 then
    (some 1)
  else
    (some 0)
section S_X9_isBit
variable {E : EE}
set_option maxRecDepth 100000 in
set_option maxHeartbeats 4000000 in
theorem wm_X9_isBit {F : Nat} {v : Int} {x0 : Int} {x1 : Int} (C : Cx E cX9_isBit RX9 { frames := 0, cells := 0, slots := 0, locals := 0 }) (hN : eN E = 2) (h : m_X9_isBit F x0 x1 = some v) (hret : ∀ (pc : Nat) (L : List (Option Value)), narrow .boolean (.int (wI v)) = .int (wI v) → decode cX9_isBit pc = .ok (.ireturn, 1) → GG E 0 0 (W_X9_isBit (eCy E)) L pc [.int (wI v)]) : GG E 0 0 (W_X9_isBit (eCy E)) [some (.int (wI x0)), some (.int (wI x1))] 0 [] := by
  unfold m_X9_isBit at h
  refine g_iload_n 0 C dX9_isBit_0 rfl rfl ?_
  refine g_iload_n 1 C dX9_isBit_1 rfl rfl ?_
  refine g_ishr C dX9_isBit_2 ?_
  refine g_iconst C dX9_isBit_3 ?_
  refine g_iand C dX9_isBit_4 ?_
  refine g_iconst C dX9_isBit_5 ?_
  refine g_icmp_ne 13 C dX9_isBit_6 (by decide) h (fun h => ?_) (fun h => ?_)
  · refine g_iconst C dX9_isBit_13 ?_
    cases h
    exact hret 14 _ bn0 dX9_isBit_14
  · refine g_iconst C dX9_isBit_9 ?_
    refine g_goto (tgt := 14) C dX9_isBit_10 (by decide) ?_
    cases h
    exact hret 14 _ bn1 dX9_isBit_14
end S_X9_isBit
set_option maxRecDepth 100000 in
set_option maxHeartbeats 4000000 in
theorem c_X9_isBit (l : Launch) (D : va_G) (cy : Nat → ClassId) (ad : AD) (x0 : Int) (x1 : Int) (F : Nat) {v : Int} (h : m_X9_isBit F x0 x1 = some v) : Ct l yX9_isBit cX9_isBit 2 (some .boolean) { frames := 0, cells := 0, slots := 0, locals := 0 } D cy ad [.int (wI x0), .int (wI x1)] (W_X9_isBit cy) (W_X9_isBit cy) (some (.int (wI v))) := by
  refine Ct.introZ (j := 0) (plainFor_of_name (by decide)) rfl rfl (fun E C e1 e2 e3 e4 e5 hret => ?_)
  subst e1; subst e2; subst e3; subst e4
  exact wm_X9_isBit C e5 h hret
-- MovingStairModel.isHalf(I)Z
def W_X9_isHalf (cy : Nat → ClassId) : va_W := []
def m_X9_isHalf (F : Nat) (x0 : Int) : Option (Int) :=
  chk (r32 x0) <| bnd1 (m_X9_in F x0 0 1) fun r2 => chk (r2 = 0 ∨ r2 = 1) <| some r2
section S_X9_isHalf
variable {E : EE}
set_option maxRecDepth 100000 in
set_option maxHeartbeats 4000000 in
theorem wm_X9_isHalf {F : Nat} {v : Int} {x0 : Int} (C : Cx E cX9_isHalf RX9 { frames := 1, cells := 0, slots := 0, locals := 25 }) (hN : eN E = 1) (h : m_X9_isHalf F x0 = some v) (hret : ∀ (pc : Nat) (L : List (Option Value)), narrow .boolean (.int (wI v)) = .int (wI v) → decode cX9_isHalf pc = .ok (.ireturn, 1) → GG E 0 0 (W_X9_isHalf (eCy E)) L pc [.int (wI v)]) : GG E 0 0 (W_X9_isHalf (eCy E)) [some (.int (wI x0))] 0 [] := by
  unfold m_X9_isHalf at h
  refine g_iload_n 0 C dX9_isHalf_0 rfl rfl ?_
  obtain ⟨hc1, h⟩ := chk_some h
  refine g_i2l C dX9_isHalf_1 hc1 ?_
  refine g_lconst (x := 0) C dX9_isHalf_2 (by decide) ?_
  refine g_lconst (x := 1) C dX9_isHalf_3 (by decide) ?_
  obtain ⟨r2, hr3, h⟩ := bnd1_some h
  refine g_callSI [] [] [] C mt_X9_76 (c_X9_in _ _ _ _ x0 0 1 F hr3) rfl rfl (ws2 := (W_X9_isHalf (eCy E))) rfl rfl rfl (rest := []) rfl rfl rfl dX9_isHalf_4 ?_
  obtain ⟨hc4, h⟩ := chk_some h
  cases h
  exact hret 7 _ (bool_nar hc4).1 dX9_isHalf_7
end S_X9_isHalf
set_option maxRecDepth 100000 in
set_option maxHeartbeats 4000000 in
theorem c_X9_isHalf (l : Launch) (D : va_G) (cy : Nat → ClassId) (ad : AD) (x0 : Int) (F : Nat) {v : Int} (h : m_X9_isHalf F x0 = some v) : Ct l yX9_isHalf cX9_isHalf 1 (some .boolean) { frames := 1, cells := 0, slots := 0, locals := 25 } D cy ad [.int (wI x0)] (W_X9_isHalf cy) (W_X9_isHalf cy) (some (.int (wI v))) := by
  refine Ct.introZ (j := 0) (plainFor_of_name (by decide)) rfl rfl (fun E C e1 e2 e3 e4 e5 hret => ?_)
  subst e1; subst e2; subst e3; subst e4
  exact wm_X9_isHalf C e5 h hret
-- MovingStairModel.sizeOf(I)I
def W_X9_sizeOf (cy : Nat → ClassId) : va_W := []
def mb_X9_sizeOf_4 (F : Nat) (k4 : Int → Int → Option (Int)) (x1 : Int) (x2 : Int) : Option (Int) :=
  if wI x2 = wI 0 then
    (some x1)
  else
    (nam (andI x2 (x2 - 1)) fun y1 => k4 (x1 + 1) y1)
def ml_X9_sizeOf_4 (F : Nat) (x1 : Int) (x2 : Int) : Option (Int) :=
  loopN (fun (k : Int × Int → Option (Int)) q => mb_X9_sizeOf_4 F (fun y0 y1 => k (y0, y1)) q.1 q.2) F (x1, x2)
def m_X9_sizeOf (F : Nat) (x0 : Int) : Option (Int) :=
  ml_X9_sizeOf_4 F 0 x0
section S_X9_sizeOf
variable {E : EE}
set_option maxRecDepth 100000 in
set_option maxHeartbeats 4000000 in
theorem wb_X9_sizeOf_4 {F : Nat} {k4 : Int → Int → Option (Int)} {v : Int} {x1 : Int} {x2 : Int} (C : Cx E cX9_sizeOf RX9 { frames := 0, cells := 0, slots := 0, locals := 0 }) (hN : eN E = 3) (h : mb_X9_sizeOf_4 F k4 x1 x2 = some v) (hk4 : ∀ (y_x1 : Int) (y_x2 : Int), k4 y_x1 y_x2 = some v → GG E 0 0 (W_X9_sizeOf (eCy E)) [none, some (.int (wI y_x1)), some (.int (wI y_x2))] 4 []) (hret : ∀ (pc : Nat) (L : List (Option Value)), decode cX9_sizeOf pc = .ok (.ireturn, 1) → GG E 0 0 (W_X9_sizeOf (eCy E)) L pc [.int (wI v)]) : GG E 0 0 (W_X9_sizeOf (eCy E)) [none, some (.int (wI x1)), some (.int (wI x2))] 4 [] := by
  unfold mb_X9_sizeOf_4 at h
  refine g_iload_n 2 C dX9_sizeOf_4 rfl rfl ?_
  refine g_if_eq 20 C dX9_sizeOf_5 (by decide) h (fun h => ?_) (fun h => ?_)
  · refine g_iload_n 1 C dX9_sizeOf_20 rfl rfl ?_
    cases h
    exact hret 21 _ dX9_sizeOf_21
  · refine g_iinc C hN dX9_sizeOf_8 rfl rfl (L' := [none, some (.int (wI (x1 + 1))), some (.int (wI x2))]) rfl ?_
    refine g_iload_n 2 C dX9_sizeOf_11 rfl rfl ?_
    refine g_iload_n 2 C dX9_sizeOf_12 rfl rfl ?_
    refine g_iconst C dX9_sizeOf_13 ?_
    refine g_isub C dX9_sizeOf_14 ?_
    refine g_iand C dX9_sizeOf_15 ?_
    obtain ⟨y1, e_y1, h⟩ := nam_some h
    refine g_topI e_y1 ?_
    refine g_istore_n 2 C hN dX9_sizeOf_16 rfl rfl (L' := [none, some (.int (wI (x1 + 1))), some (.int (wI y1))]) rfl ?_
    refine g_goto (tgt := 4) C dX9_sizeOf_17 (by decide) ?_
    exact hk4 _ _ h
set_option maxRecDepth 100000 in
set_option maxHeartbeats 4000000 in
theorem wl_X9_sizeOf_4 {F : Nat} {v : Int} {x1 : Int} {x2 : Int} (C : Cx E cX9_sizeOf RX9 { frames := 0, cells := 0, slots := 0, locals := 0 }) (hN : eN E = 3) (h : ml_X9_sizeOf_4 F x1 x2 = some v) (hret : ∀ (pc : Nat) (L : List (Option Value)), decode cX9_sizeOf pc = .ok (.ireturn, 1) → GG E 0 0 (W_X9_sizeOf (eCy E)) L pc [.int (wI v)]) : GG E 0 0 (W_X9_sizeOf (eCy E)) [none, some (.int (wI x1)), some (.int (wI x2))] 4 [] := by
  unfold ml_X9_sizeOf_4 at h
  exact loop_walk (g := fun (q : Int × Int) => GG E 0 0 (W_X9_sizeOf (eCy E)) [none, some (.int (wI (q.1))), some (.int (wI (q.2)))] 4 []) (fun k hk q h => wb_X9_sizeOf_4 C hN h (fun y0 y1 hh => hk (y0, y1) hh) hret) F (x1, x2) h
set_option maxRecDepth 100000 in
set_option maxHeartbeats 4000000 in
theorem wm_X9_sizeOf {F : Nat} {v : Int} {x0 : Int} (C : Cx E cX9_sizeOf RX9 { frames := 0, cells := 0, slots := 0, locals := 0 }) (hN : eN E = 3) (h : m_X9_sizeOf F x0 = some v) (hret : ∀ (pc : Nat) (L : List (Option Value)), decode cX9_sizeOf pc = .ok (.ireturn, 1) → GG E 0 0 (W_X9_sizeOf (eCy E)) L pc [.int (wI v)]) : GG E 0 0 (W_X9_sizeOf (eCy E)) [some (.int (wI x0)), none, none] 0 [] := by
  unfold m_X9_sizeOf at h
  refine g_iconst C dX9_sizeOf_0 ?_
  refine g_istore_n 1 C hN dX9_sizeOf_1 rfl rfl (L' := [some (.int (wI x0)), some (.int (wI 0)), none]) rfl ?_
  refine g_iload_n 0 C dX9_sizeOf_2 rfl rfl ?_
  refine g_istore_n 2 C hN dX9_sizeOf_3 rfl rfl (L' := [some (.int (wI x0)), some (.int (wI 0)), some (.int (wI x0))]) rfl ?_
  refine g_mask [false, true, true] (L' := [none, some (.int (wI 0)), some (.int (wI x0))]) rfl ?_
  exact wl_X9_sizeOf_4 C hN h hret
end S_X9_sizeOf
set_option maxRecDepth 100000 in
set_option maxHeartbeats 4000000 in
theorem c_X9_sizeOf (l : Launch) (D : va_G) (cy : Nat → ClassId) (ad : AD) (x0 : Int) (F : Nat) {v : Int} (h : m_X9_sizeOf F x0 = some v) : Ct l yX9_sizeOf cX9_sizeOf 3 (some .int) { frames := 0, cells := 0, slots := 0, locals := 0 } D cy ad [.int (wI x0)] (W_X9_sizeOf cy) (W_X9_sizeOf cy) (some (.int (wI v))) := by
  refine Ct.introI (j := 2) (plainFor_of_name (by decide)) rfl rfl (fun E C e1 e2 e3 e4 e5 hret => ?_)
  subst e1; subst e2; subst e3; subst e4
  exact wm_X9_sizeOf C e5 h hret
-- MovingStairModel.lays()V
def W_X9_lays (cy : Nat → ClassId) (a_t a_t_act a_t_has a_t_part a_t_speed : Nat) (g_t_0 : Value) (g_t_1 : Value) (g_t_2 : Value) (g_t_3 : Value) (g_t_4 : Value) (g_t_5 : Value) (g_t_6 : Value) (g_t_7 : Value) (g_t_8 : Value) (g_t_9 : Value) (g_t_10 : Value) (g_t_11 : Value) (g_t_12 : Value) (g_t_13 : Value) (g_t_14 : Value) (g_t_15 : Value) (g_t_16 : Value) (g_t_19 : Value) (g_t_20 : Value) (g_t_22 : Value) (g_t_24 : Value) (g_t_25 : Value) (g_t_26 : Value) (g_t_27 : Value) (g_t_28 : Value) (g_t_29 : Value) (g_t_30 : Value) (g_t_31 : Value) (g_t_32 : Value) (g_t_33 : Value) (g_t_34 : Value) (g_t_35 : Value) (g_t_36 : Value) (g_t_37 : Value) (g_t_38 : Value) (g_t_39 : Value) (g_t_40 : Value) (g_t_41 : Value) (g_t_42 : Value) (g_t_43 : Value) (c_act : Int → Int) (c_has : Int → Int) (c_part : Int → Int) (c_speed : Int → Int) : va_W := [(a_t, .inr (9, [g_t_0, g_t_1, g_t_2, g_t_3, g_t_4, g_t_5, g_t_6, g_t_7, g_t_8, g_t_9, g_t_10, g_t_11, g_t_12, g_t_13, g_t_14, g_t_15, g_t_16, .ref a_t_has, .ref a_t_part, g_t_19, g_t_20, .ref a_t_act, g_t_22, .ref a_t_speed, g_t_24, g_t_25, g_t_26, g_t_27, g_t_28, g_t_29, g_t_30, g_t_31, g_t_32, g_t_33, g_t_34, g_t_35, g_t_36, g_t_37, g_t_38, g_t_39, g_t_40, g_t_41, g_t_42, g_t_43])), (a_t_act, .inl (cy 1, 600, .inl (aI c_act))), (a_t_has, .inl (cy 1, 45, .inl (aI c_has))), (a_t_part, .inl (cy 1, 40, .inl (aI c_part))), (a_t_speed, .inl (cy 1, 4, .inl (aI c_speed)))]
def mb_X9_lays_116 (F : Nat) (k36 : Int → (Int → Int) → Option ((Int → Int))) (x1 : Int) (c_act : Int → Int) (c_has : Int → Int) (c_speed : Int → Int) : Option ((Int → Int)) :=
  k36 (x1 + 1) c_speed
def mb_X9_lays_87 (F : Nat) (k36 : Int → (Int → Int) → Option ((Int → Int))) (k87 : Int → (Int → Int) → Option ((Int → Int))) (x1 : Int) (x2 : Int) (c_act : Int → Int) (c_has : Int → Int) (c_speed : Int → Int) : Option ((Int → Int)) :=
  if wI (c_has 1) ≤ wI x2 then
    (mb_X9_lays_116 F k36 x1 c_act c_has c_speed)
  else
    (chk (0 ≤ x2 ∧ x2 < 4) <| nam (-(c_speed x2)) fun y2 => chk (0 ≤ x2 ∧ x2 < 4) <| k87 (x2 + 1) (up c_speed x2 y2))
def ml_X9_lays_87 (F : Nat) (k36 : Int → (Int → Int) → Option ((Int → Int))) (x1 : Int) (x2 : Int) (c_act : Int → Int) (c_has : Int → Int) (c_speed : Int → Int) : Option ((Int → Int)) :=
  loopN (fun (k : Int × (Int → Int) → Option ((Int → Int))) q => mb_X9_lays_87 F k36 (fun y0 y1 => k (y0, y1)) x1 q.1 c_act c_has q.2) F (x2, c_speed)
def mb_X9_lays_36 (F : Nat) (k36 : Int → (Int → Int) → Option ((Int → Int))) (x1 : Int) (c_act : Int → Int) (c_has : Int → Int) (c_speed : Int → Int) : Option ((Int → Int)) :=
  if wI (c_has 8) ≤ wI x1 then
    (some c_speed)
  else
    (chk (0 ≤ (2 * x1) ∧ (2 * x1) < 600) <| if wI (c_act (2 * x1)) = wI (-1) then
    (ml_X9_lays_87 F k36 x1 0 c_act c_has c_speed)
  else
    (chk (0 ≤ (2 * x1) ∧ (2 * x1) < 600) <| chk (0 ≤ ((2 * x1) + 1) ∧ ((2 * x1) + 1) < 600) <| nam (c_act ((2 * x1) + 1)) fun y4 => chk (0 ≤ (c_act (2 * x1)) ∧ (c_act (2 * x1)) < 4) <| mb_X9_lays_116 F k36 x1 c_act c_has (up c_speed (c_act (2 * x1)) y4)))
def ml_X9_lays_36 (F : Nat) (x1 : Int) (c_act : Int → Int) (c_has : Int → Int) (c_speed : Int → Int) : Option ((Int → Int)) :=
  loopN (fun (k : Int × (Int → Int) → Option ((Int → Int))) q => mb_X9_lays_36 F (fun y0 y1 => k (y0, y1)) q.1 c_act c_has q.2) F (x1, c_speed)
def mb_X9_lays_2 (F : Nat) (k2 : Int → (Int → Int) → Option ((Int → Int))) (x1 : Int) (c_act : Int → Int) (c_has : Int → Int) (c_part : Int → Int) (c_speed : Int → Int) : Option ((Int → Int)) :=
  if wI (c_has 1) ≤ wI x1 then
    (ml_X9_lays_36 F 0 c_act c_has c_speed)
  else
    (chk (0 ≤ ((2 * x1) + 1) ∧ ((2 * x1) + 1) < 40) <| nam (c_part ((2 * x1) + 1)) fun y2 => chk (0 ≤ x1 ∧ x1 < 4) <| k2 (x1 + 1) (up c_speed x1 y2))
def ml_X9_lays_2 (F : Nat) (x1 : Int) (c_act : Int → Int) (c_has : Int → Int) (c_part : Int → Int) (c_speed : Int → Int) : Option ((Int → Int)) :=
  loopN (fun (k : Int × (Int → Int) → Option ((Int → Int))) q => mb_X9_lays_2 F (fun y0 y1 => k (y0, y1)) q.1 c_act c_has c_part q.2) F (x1, c_speed)
def m_X9_lays (F : Nat) (c_act : Int → Int) (c_has : Int → Int) (c_part : Int → Int) (c_speed : Int → Int) : Option ((Int → Int)) :=
  ml_X9_lays_2 F 0 c_act c_has c_part c_speed
section S_X9_lays
variable {E : EE} {a_t a_t_act a_t_has a_t_part a_t_speed : Nat} {g_t_0 : Value} {g_t_1 : Value} {g_t_2 : Value} {g_t_3 : Value} {g_t_4 : Value} {g_t_5 : Value} {g_t_6 : Value} {g_t_7 : Value} {g_t_8 : Value} {g_t_9 : Value} {g_t_10 : Value} {g_t_11 : Value} {g_t_12 : Value} {g_t_13 : Value} {g_t_14 : Value} {g_t_15 : Value} {g_t_16 : Value} {g_t_19 : Value} {g_t_20 : Value} {g_t_22 : Value} {g_t_24 : Value} {g_t_25 : Value} {g_t_26 : Value} {g_t_27 : Value} {g_t_28 : Value} {g_t_29 : Value} {g_t_30 : Value} {g_t_31 : Value} {g_t_32 : Value} {g_t_33 : Value} {g_t_34 : Value} {g_t_35 : Value} {g_t_36 : Value} {g_t_37 : Value} {g_t_38 : Value} {g_t_39 : Value} {g_t_40 : Value} {g_t_41 : Value} {g_t_42 : Value} {g_t_43 : Value}
set_option maxRecDepth 100000 in
set_option maxHeartbeats 4000000 in
theorem wb_X9_lays_116 {F : Nat} {k36 : Int → (Int → Int) → Option ((Int → Int))} {v : (Int → Int)} {x1 : Int} {c_act : Int → Int} {c_has : Int → Int} {c_speed : Int → Int} {c_part : Int → Int} (C : Cx E cX9_lays RX9 { frames := 0, cells := 0, slots := 0, locals := 0 }) (hN : eN E = 3) (h : mb_X9_lays_116 F k36 x1 c_act c_has c_speed = some v) (hk36 : ∀ (y_x1 : Int) (y_c_speed : Int → Int), k36 y_x1 y_c_speed = some v → GG E 0 0 (W_X9_lays (eCy E) a_t a_t_act a_t_has a_t_part a_t_speed g_t_0 g_t_1 g_t_2 g_t_3 g_t_4 g_t_5 g_t_6 g_t_7 g_t_8 g_t_9 g_t_10 g_t_11 g_t_12 g_t_13 g_t_14 g_t_15 g_t_16 g_t_19 g_t_20 g_t_22 g_t_24 g_t_25 g_t_26 g_t_27 g_t_28 g_t_29 g_t_30 g_t_31 g_t_32 g_t_33 g_t_34 g_t_35 g_t_36 g_t_37 g_t_38 g_t_39 g_t_40 g_t_41 g_t_42 g_t_43 c_act c_has c_part y_c_speed) [some (.ref a_t), some (.int (wI y_x1)), none] 36 []) (hret : ∀ (pc : Nat) (L : List (Option Value)), decode cX9_lays pc = .ok (.return_, 1) → GG E 0 0 (W_X9_lays (eCy E) a_t a_t_act a_t_has a_t_part a_t_speed g_t_0 g_t_1 g_t_2 g_t_3 g_t_4 g_t_5 g_t_6 g_t_7 g_t_8 g_t_9 g_t_10 g_t_11 g_t_12 g_t_13 g_t_14 g_t_15 g_t_16 g_t_19 g_t_20 g_t_22 g_t_24 g_t_25 g_t_26 g_t_27 g_t_28 g_t_29 g_t_30 g_t_31 g_t_32 g_t_33 g_t_34 g_t_35 g_t_36 g_t_37 g_t_38 g_t_39 g_t_40 g_t_41 g_t_42 g_t_43 c_act c_has c_part v) L pc []) : GG E 0 0 (W_X9_lays (eCy E) a_t a_t_act a_t_has a_t_part a_t_speed g_t_0 g_t_1 g_t_2 g_t_3 g_t_4 g_t_5 g_t_6 g_t_7 g_t_8 g_t_9 g_t_10 g_t_11 g_t_12 g_t_13 g_t_14 g_t_15 g_t_16 g_t_19 g_t_20 g_t_22 g_t_24 g_t_25 g_t_26 g_t_27 g_t_28 g_t_29 g_t_30 g_t_31 g_t_32 g_t_33 g_t_34 g_t_35 g_t_36 g_t_37 g_t_38 g_t_39 g_t_40 g_t_41 g_t_42 g_t_43 c_act c_has c_part c_speed) [some (.ref a_t), some (.int (wI x1)), none] 116 [] := by
  unfold mb_X9_lays_116 at h
  refine g_iinc C hN dX9_lays_116 rfl rfl (L' := [some (.ref a_t), some (.int (wI (x1 + 1))), none]) rfl ?_
  refine g_goto (tgt := 36) C dX9_lays_119 (by decide) ?_
  exact hk36 _ _ h
set_option maxRecDepth 100000 in
set_option maxHeartbeats 4000000 in
theorem wb_X9_lays_87 {F : Nat} {k36 : Int → (Int → Int) → Option ((Int → Int))} {k87 : Int → (Int → Int) → Option ((Int → Int))} {v : (Int → Int)} {x1 : Int} {x2 : Int} {c_act : Int → Int} {c_has : Int → Int} {c_speed : Int → Int} {c_part : Int → Int} (C : Cx E cX9_lays RX9 { frames := 0, cells := 0, slots := 0, locals := 0 }) (hN : eN E = 3) (h : mb_X9_lays_87 F k36 k87 x1 x2 c_act c_has c_speed = some v) (hk36 : ∀ (y_x1 : Int) (y_c_speed : Int → Int), k36 y_x1 y_c_speed = some v → GG E 0 0 (W_X9_lays (eCy E) a_t a_t_act a_t_has a_t_part a_t_speed g_t_0 g_t_1 g_t_2 g_t_3 g_t_4 g_t_5 g_t_6 g_t_7 g_t_8 g_t_9 g_t_10 g_t_11 g_t_12 g_t_13 g_t_14 g_t_15 g_t_16 g_t_19 g_t_20 g_t_22 g_t_24 g_t_25 g_t_26 g_t_27 g_t_28 g_t_29 g_t_30 g_t_31 g_t_32 g_t_33 g_t_34 g_t_35 g_t_36 g_t_37 g_t_38 g_t_39 g_t_40 g_t_41 g_t_42 g_t_43 c_act c_has c_part y_c_speed) [some (.ref a_t), some (.int (wI y_x1)), none] 36 []) (hk87 : ∀ (y_x2 : Int) (y_c_speed : Int → Int), k87 y_x2 y_c_speed = some v → GG E 0 0 (W_X9_lays (eCy E) a_t a_t_act a_t_has a_t_part a_t_speed g_t_0 g_t_1 g_t_2 g_t_3 g_t_4 g_t_5 g_t_6 g_t_7 g_t_8 g_t_9 g_t_10 g_t_11 g_t_12 g_t_13 g_t_14 g_t_15 g_t_16 g_t_19 g_t_20 g_t_22 g_t_24 g_t_25 g_t_26 g_t_27 g_t_28 g_t_29 g_t_30 g_t_31 g_t_32 g_t_33 g_t_34 g_t_35 g_t_36 g_t_37 g_t_38 g_t_39 g_t_40 g_t_41 g_t_42 g_t_43 c_act c_has c_part y_c_speed) [some (.ref a_t), some (.int (wI x1)), some (.int (wI y_x2))] 87 []) (hret : ∀ (pc : Nat) (L : List (Option Value)), decode cX9_lays pc = .ok (.return_, 1) → GG E 0 0 (W_X9_lays (eCy E) a_t a_t_act a_t_has a_t_part a_t_speed g_t_0 g_t_1 g_t_2 g_t_3 g_t_4 g_t_5 g_t_6 g_t_7 g_t_8 g_t_9 g_t_10 g_t_11 g_t_12 g_t_13 g_t_14 g_t_15 g_t_16 g_t_19 g_t_20 g_t_22 g_t_24 g_t_25 g_t_26 g_t_27 g_t_28 g_t_29 g_t_30 g_t_31 g_t_32 g_t_33 g_t_34 g_t_35 g_t_36 g_t_37 g_t_38 g_t_39 g_t_40 g_t_41 g_t_42 g_t_43 c_act c_has c_part v) L pc []) : GG E 0 0 (W_X9_lays (eCy E) a_t a_t_act a_t_has a_t_part a_t_speed g_t_0 g_t_1 g_t_2 g_t_3 g_t_4 g_t_5 g_t_6 g_t_7 g_t_8 g_t_9 g_t_10 g_t_11 g_t_12 g_t_13 g_t_14 g_t_15 g_t_16 g_t_19 g_t_20 g_t_22 g_t_24 g_t_25 g_t_26 g_t_27 g_t_28 g_t_29 g_t_30 g_t_31 g_t_32 g_t_33 g_t_34 g_t_35 g_t_36 g_t_37 g_t_38 g_t_39 g_t_40 g_t_41 g_t_42 g_t_43 c_act c_has c_part c_speed) [some (.ref a_t), some (.int (wI x1)), some (.int (wI x2))] 87 [] := by
  unfold mb_X9_lays_87 at h
  refine g_iload_n 2 C dX9_lays_87 rfl rfl ?_
  refine g_aload_n 0 C dX9_lays_88 rfl rfl ?_
  refine g_get C fg_X9_34 0 rfl rfl dX9_lays_89 ?_
  refine g_iconst C dX9_lays_92 ?_
  refine g_iald C 2 rfl (by decide) rfl dX9_lays_93 ?_
  refine g_icmp_ge 116 C dX9_lays_94 (by decide) h (fun h => ?_) (fun h => ?_)
  · refine g_mask [true, true, false] (L' := [some (.ref a_t), some (.int (wI x1)), none]) rfl ?_
    exact wb_X9_lays_116 C hN h hk36 hret
  · refine g_aload_n 0 C dX9_lays_97 rfl rfl ?_
    refine g_get C fg_X9_53 0 rfl rfl dX9_lays_98 ?_
    refine g_iload_n 2 C dX9_lays_101 rfl rfl ?_
    refine g_aload_n 0 C dX9_lays_102 rfl rfl ?_
    refine g_get C fg_X9_53 0 rfl rfl dX9_lays_103 ?_
    refine g_iload_n 2 C dX9_lays_106 rfl rfl ?_
    obtain ⟨hc1, h⟩ := chk_some h
    refine g_iald C 4 rfl hc1 rfl dX9_lays_107 ?_
    refine g_ineg C dX9_lays_108 ?_
    obtain ⟨y2, e_y2, h⟩ := nam_some h
    refine g_topI e_y2 ?_
    obtain ⟨hc3, h⟩ := chk_some h
    refine g_iast C 4 rfl hc3 rfl (ws' := (W_X9_lays (eCy E) a_t a_t_act a_t_has a_t_part a_t_speed g_t_0 g_t_1 g_t_2 g_t_3 g_t_4 g_t_5 g_t_6 g_t_7 g_t_8 g_t_9 g_t_10 g_t_11 g_t_12 g_t_13 g_t_14 g_t_15 g_t_16 g_t_19 g_t_20 g_t_22 g_t_24 g_t_25 g_t_26 g_t_27 g_t_28 g_t_29 g_t_30 g_t_31 g_t_32 g_t_33 g_t_34 g_t_35 g_t_36 g_t_37 g_t_38 g_t_39 g_t_40 g_t_41 g_t_42 g_t_43 c_act c_has c_part (up c_speed x2 y2))) rfl dX9_lays_109 ?_
    refine g_iinc C hN dX9_lays_110 rfl rfl (L' := [some (.ref a_t), some (.int (wI x1)), some (.int (wI (x2 + 1)))]) rfl ?_
    refine g_goto (tgt := 87) C dX9_lays_113 (by decide) ?_
    exact hk87 _ _ h
set_option maxRecDepth 100000 in
set_option maxHeartbeats 4000000 in
theorem wl_X9_lays_87 {F : Nat} {k36 : Int → (Int → Int) → Option ((Int → Int))} {v : (Int → Int)} {x1 : Int} {x2 : Int} {c_act : Int → Int} {c_has : Int → Int} {c_speed : Int → Int} {c_part : Int → Int} (C : Cx E cX9_lays RX9 { frames := 0, cells := 0, slots := 0, locals := 0 }) (hN : eN E = 3) (h : ml_X9_lays_87 F k36 x1 x2 c_act c_has c_speed = some v) (hk36 : ∀ (y_x1 : Int) (y_c_speed : Int → Int), k36 y_x1 y_c_speed = some v → GG E 0 0 (W_X9_lays (eCy E) a_t a_t_act a_t_has a_t_part a_t_speed g_t_0 g_t_1 g_t_2 g_t_3 g_t_4 g_t_5 g_t_6 g_t_7 g_t_8 g_t_9 g_t_10 g_t_11 g_t_12 g_t_13 g_t_14 g_t_15 g_t_16 g_t_19 g_t_20 g_t_22 g_t_24 g_t_25 g_t_26 g_t_27 g_t_28 g_t_29 g_t_30 g_t_31 g_t_32 g_t_33 g_t_34 g_t_35 g_t_36 g_t_37 g_t_38 g_t_39 g_t_40 g_t_41 g_t_42 g_t_43 c_act c_has c_part y_c_speed) [some (.ref a_t), some (.int (wI y_x1)), none] 36 []) (hret : ∀ (pc : Nat) (L : List (Option Value)), decode cX9_lays pc = .ok (.return_, 1) → GG E 0 0 (W_X9_lays (eCy E) a_t a_t_act a_t_has a_t_part a_t_speed g_t_0 g_t_1 g_t_2 g_t_3 g_t_4 g_t_5 g_t_6 g_t_7 g_t_8 g_t_9 g_t_10 g_t_11 g_t_12 g_t_13 g_t_14 g_t_15 g_t_16 g_t_19 g_t_20 g_t_22 g_t_24 g_t_25 g_t_26 g_t_27 g_t_28 g_t_29 g_t_30 g_t_31 g_t_32 g_t_33 g_t_34 g_t_35 g_t_36 g_t_37 g_t_38 g_t_39 g_t_40 g_t_41 g_t_42 g_t_43 c_act c_has c_part v) L pc []) : GG E 0 0 (W_X9_lays (eCy E) a_t a_t_act a_t_has a_t_part a_t_speed g_t_0 g_t_1 g_t_2 g_t_3 g_t_4 g_t_5 g_t_6 g_t_7 g_t_8 g_t_9 g_t_10 g_t_11 g_t_12 g_t_13 g_t_14 g_t_15 g_t_16 g_t_19 g_t_20 g_t_22 g_t_24 g_t_25 g_t_26 g_t_27 g_t_28 g_t_29 g_t_30 g_t_31 g_t_32 g_t_33 g_t_34 g_t_35 g_t_36 g_t_37 g_t_38 g_t_39 g_t_40 g_t_41 g_t_42 g_t_43 c_act c_has c_part c_speed) [some (.ref a_t), some (.int (wI x1)), some (.int (wI x2))] 87 [] := by
  unfold ml_X9_lays_87 at h
  exact loop_walk (g := fun (q : Int × (Int → Int)) => GG E 0 0 (W_X9_lays (eCy E) a_t a_t_act a_t_has a_t_part a_t_speed g_t_0 g_t_1 g_t_2 g_t_3 g_t_4 g_t_5 g_t_6 g_t_7 g_t_8 g_t_9 g_t_10 g_t_11 g_t_12 g_t_13 g_t_14 g_t_15 g_t_16 g_t_19 g_t_20 g_t_22 g_t_24 g_t_25 g_t_26 g_t_27 g_t_28 g_t_29 g_t_30 g_t_31 g_t_32 g_t_33 g_t_34 g_t_35 g_t_36 g_t_37 g_t_38 g_t_39 g_t_40 g_t_41 g_t_42 g_t_43 c_act c_has c_part (q.2)) [some (.ref a_t), some (.int (wI x1)), some (.int (wI (q.1)))] 87 []) (fun k hk q h => wb_X9_lays_87 C hN h hk36 (fun y0 y1 hh => hk (y0, y1) hh) hret) F (x2, c_speed) h
set_option maxRecDepth 100000 in
set_option maxHeartbeats 4000000 in
theorem wb_X9_lays_36 {F : Nat} {k36 : Int → (Int → Int) → Option ((Int → Int))} {v : (Int → Int)} {x1 : Int} {c_act : Int → Int} {c_has : Int → Int} {c_speed : Int → Int} {c_part : Int → Int} (C : Cx E cX9_lays RX9 { frames := 0, cells := 0, slots := 0, locals := 0 }) (hN : eN E = 3) (h : mb_X9_lays_36 F k36 x1 c_act c_has c_speed = some v) (hk36 : ∀ (y_x1 : Int) (y_c_speed : Int → Int), k36 y_x1 y_c_speed = some v → GG E 0 0 (W_X9_lays (eCy E) a_t a_t_act a_t_has a_t_part a_t_speed g_t_0 g_t_1 g_t_2 g_t_3 g_t_4 g_t_5 g_t_6 g_t_7 g_t_8 g_t_9 g_t_10 g_t_11 g_t_12 g_t_13 g_t_14 g_t_15 g_t_16 g_t_19 g_t_20 g_t_22 g_t_24 g_t_25 g_t_26 g_t_27 g_t_28 g_t_29 g_t_30 g_t_31 g_t_32 g_t_33 g_t_34 g_t_35 g_t_36 g_t_37 g_t_38 g_t_39 g_t_40 g_t_41 g_t_42 g_t_43 c_act c_has c_part y_c_speed) [some (.ref a_t), some (.int (wI y_x1)), none] 36 []) (hret : ∀ (pc : Nat) (L : List (Option Value)), decode cX9_lays pc = .ok (.return_, 1) → GG E 0 0 (W_X9_lays (eCy E) a_t a_t_act a_t_has a_t_part a_t_speed g_t_0 g_t_1 g_t_2 g_t_3 g_t_4 g_t_5 g_t_6 g_t_7 g_t_8 g_t_9 g_t_10 g_t_11 g_t_12 g_t_13 g_t_14 g_t_15 g_t_16 g_t_19 g_t_20 g_t_22 g_t_24 g_t_25 g_t_26 g_t_27 g_t_28 g_t_29 g_t_30 g_t_31 g_t_32 g_t_33 g_t_34 g_t_35 g_t_36 g_t_37 g_t_38 g_t_39 g_t_40 g_t_41 g_t_42 g_t_43 c_act c_has c_part v) L pc []) : GG E 0 0 (W_X9_lays (eCy E) a_t a_t_act a_t_has a_t_part a_t_speed g_t_0 g_t_1 g_t_2 g_t_3 g_t_4 g_t_5 g_t_6 g_t_7 g_t_8 g_t_9 g_t_10 g_t_11 g_t_12 g_t_13 g_t_14 g_t_15 g_t_16 g_t_19 g_t_20 g_t_22 g_t_24 g_t_25 g_t_26 g_t_27 g_t_28 g_t_29 g_t_30 g_t_31 g_t_32 g_t_33 g_t_34 g_t_35 g_t_36 g_t_37 g_t_38 g_t_39 g_t_40 g_t_41 g_t_42 g_t_43 c_act c_has c_part c_speed) [some (.ref a_t), some (.int (wI x1)), none] 36 [] := by
  unfold mb_X9_lays_36 at h
  refine g_iload_n 1 C dX9_lays_36 rfl rfl ?_
  refine g_aload_n 0 C dX9_lays_37 rfl rfl ?_
  refine g_get C fg_X9_34 0 rfl rfl dX9_lays_38 ?_
  refine g_bipush C dX9_lays_41 (by decide) ?_
  refine g_iald C 2 rfl (by decide) rfl dX9_lays_43 ?_
  refine g_icmp_ge 122 C dX9_lays_44 (by decide) h (fun h => ?_) (fun h => ?_)
  · cases h
    exact hret 122 _ dX9_lays_122
  · refine g_aload_n 0 C dX9_lays_47 rfl rfl ?_
    refine g_get C fg_X9_46 0 rfl rfl dX9_lays_48 ?_
    refine g_iconst C dX9_lays_51 ?_
    refine g_iload_n 1 C dX9_lays_52 rfl rfl ?_
    refine g_imul C dX9_lays_53 ?_
    obtain ⟨hc1, h⟩ := chk_some h
    refine g_iald C 1 rfl hc1 rfl dX9_lays_54 ?_
    refine g_iconst C dX9_lays_55 ?_
    refine g_icmp_eq 85 C dX9_lays_56 (by decide) h (fun h => ?_) (fun h => ?_)
    · refine g_iconst C dX9_lays_85 ?_
      refine g_istore_n 2 C hN dX9_lays_86 rfl rfl (L' := [some (.ref a_t), some (.int (wI x1)), some (.int (wI 0))]) rfl ?_
      exact wl_X9_lays_87 C hN h hk36 hret
    · refine g_aload_n 0 C dX9_lays_59 rfl rfl ?_
      refine g_get C fg_X9_53 0 rfl rfl dX9_lays_60 ?_
      refine g_aload_n 0 C dX9_lays_63 rfl rfl ?_
      refine g_get C fg_X9_46 0 rfl rfl dX9_lays_64 ?_
      refine g_iconst C dX9_lays_67 ?_
      refine g_iload_n 1 C dX9_lays_68 rfl rfl ?_
      refine g_imul C dX9_lays_69 ?_
      obtain ⟨hc2, h⟩ := chk_some h
      refine g_iald C 1 rfl hc2 rfl dX9_lays_70 ?_
      refine g_aload_n 0 C dX9_lays_71 rfl rfl ?_
      refine g_get C fg_X9_46 0 rfl rfl dX9_lays_72 ?_
      refine g_iconst C dX9_lays_75 ?_
      refine g_iload_n 1 C dX9_lays_76 rfl rfl ?_
      refine g_imul C dX9_lays_77 ?_
      refine g_iconst C dX9_lays_78 ?_
      refine g_iadd C dX9_lays_79 ?_
      obtain ⟨hc3, h⟩ := chk_some h
      refine g_iald C 1 rfl hc3 rfl dX9_lays_80 ?_
      obtain ⟨y4, e_y4, h⟩ := nam_some h
      refine g_topI e_y4 ?_
      obtain ⟨hc5, h⟩ := chk_some h
      refine g_iast C 4 rfl hc5 rfl (ws' := (W_X9_lays (eCy E) a_t a_t_act a_t_has a_t_part a_t_speed g_t_0 g_t_1 g_t_2 g_t_3 g_t_4 g_t_5 g_t_6 g_t_7 g_t_8 g_t_9 g_t_10 g_t_11 g_t_12 g_t_13 g_t_14 g_t_15 g_t_16 g_t_19 g_t_20 g_t_22 g_t_24 g_t_25 g_t_26 g_t_27 g_t_28 g_t_29 g_t_30 g_t_31 g_t_32 g_t_33 g_t_34 g_t_35 g_t_36 g_t_37 g_t_38 g_t_39 g_t_40 g_t_41 g_t_42 g_t_43 c_act c_has c_part (up c_speed (c_act (2 * x1)) y4))) rfl dX9_lays_81 ?_
      refine g_goto (tgt := 116) C dX9_lays_82 (by decide) ?_
      exact wb_X9_lays_116 C hN h hk36 hret
set_option maxRecDepth 100000 in
set_option maxHeartbeats 4000000 in
theorem wl_X9_lays_36 {F : Nat} {v : (Int → Int)} {x1 : Int} {c_act : Int → Int} {c_has : Int → Int} {c_speed : Int → Int} {c_part : Int → Int} (C : Cx E cX9_lays RX9 { frames := 0, cells := 0, slots := 0, locals := 0 }) (hN : eN E = 3) (h : ml_X9_lays_36 F x1 c_act c_has c_speed = some v) (hret : ∀ (pc : Nat) (L : List (Option Value)), decode cX9_lays pc = .ok (.return_, 1) → GG E 0 0 (W_X9_lays (eCy E) a_t a_t_act a_t_has a_t_part a_t_speed g_t_0 g_t_1 g_t_2 g_t_3 g_t_4 g_t_5 g_t_6 g_t_7 g_t_8 g_t_9 g_t_10 g_t_11 g_t_12 g_t_13 g_t_14 g_t_15 g_t_16 g_t_19 g_t_20 g_t_22 g_t_24 g_t_25 g_t_26 g_t_27 g_t_28 g_t_29 g_t_30 g_t_31 g_t_32 g_t_33 g_t_34 g_t_35 g_t_36 g_t_37 g_t_38 g_t_39 g_t_40 g_t_41 g_t_42 g_t_43 c_act c_has c_part v) L pc []) : GG E 0 0 (W_X9_lays (eCy E) a_t a_t_act a_t_has a_t_part a_t_speed g_t_0 g_t_1 g_t_2 g_t_3 g_t_4 g_t_5 g_t_6 g_t_7 g_t_8 g_t_9 g_t_10 g_t_11 g_t_12 g_t_13 g_t_14 g_t_15 g_t_16 g_t_19 g_t_20 g_t_22 g_t_24 g_t_25 g_t_26 g_t_27 g_t_28 g_t_29 g_t_30 g_t_31 g_t_32 g_t_33 g_t_34 g_t_35 g_t_36 g_t_37 g_t_38 g_t_39 g_t_40 g_t_41 g_t_42 g_t_43 c_act c_has c_part c_speed) [some (.ref a_t), some (.int (wI x1)), none] 36 [] := by
  unfold ml_X9_lays_36 at h
  exact loop_walk (g := fun (q : Int × (Int → Int)) => GG E 0 0 (W_X9_lays (eCy E) a_t a_t_act a_t_has a_t_part a_t_speed g_t_0 g_t_1 g_t_2 g_t_3 g_t_4 g_t_5 g_t_6 g_t_7 g_t_8 g_t_9 g_t_10 g_t_11 g_t_12 g_t_13 g_t_14 g_t_15 g_t_16 g_t_19 g_t_20 g_t_22 g_t_24 g_t_25 g_t_26 g_t_27 g_t_28 g_t_29 g_t_30 g_t_31 g_t_32 g_t_33 g_t_34 g_t_35 g_t_36 g_t_37 g_t_38 g_t_39 g_t_40 g_t_41 g_t_42 g_t_43 c_act c_has c_part (q.2)) [some (.ref a_t), some (.int (wI (q.1))), none] 36 []) (fun k hk q h => wb_X9_lays_36 C hN h (fun y0 y1 hh => hk (y0, y1) hh) hret) F (x1, c_speed) h
set_option maxRecDepth 100000 in
set_option maxHeartbeats 4000000 in
theorem wb_X9_lays_2 {F : Nat} {k2 : Int → (Int → Int) → Option ((Int → Int))} {v : (Int → Int)} {x1 : Int} {c_act : Int → Int} {c_has : Int → Int} {c_part : Int → Int} {c_speed : Int → Int} (C : Cx E cX9_lays RX9 { frames := 0, cells := 0, slots := 0, locals := 0 }) (hN : eN E = 3) (h : mb_X9_lays_2 F k2 x1 c_act c_has c_part c_speed = some v) (hk2 : ∀ (y_x1 : Int) (y_c_speed : Int → Int), k2 y_x1 y_c_speed = some v → GG E 0 0 (W_X9_lays (eCy E) a_t a_t_act a_t_has a_t_part a_t_speed g_t_0 g_t_1 g_t_2 g_t_3 g_t_4 g_t_5 g_t_6 g_t_7 g_t_8 g_t_9 g_t_10 g_t_11 g_t_12 g_t_13 g_t_14 g_t_15 g_t_16 g_t_19 g_t_20 g_t_22 g_t_24 g_t_25 g_t_26 g_t_27 g_t_28 g_t_29 g_t_30 g_t_31 g_t_32 g_t_33 g_t_34 g_t_35 g_t_36 g_t_37 g_t_38 g_t_39 g_t_40 g_t_41 g_t_42 g_t_43 c_act c_has c_part y_c_speed) [some (.ref a_t), some (.int (wI y_x1)), none] 2 []) (hret : ∀ (pc : Nat) (L : List (Option Value)), decode cX9_lays pc = .ok (.return_, 1) → GG E 0 0 (W_X9_lays (eCy E) a_t a_t_act a_t_has a_t_part a_t_speed g_t_0 g_t_1 g_t_2 g_t_3 g_t_4 g_t_5 g_t_6 g_t_7 g_t_8 g_t_9 g_t_10 g_t_11 g_t_12 g_t_13 g_t_14 g_t_15 g_t_16 g_t_19 g_t_20 g_t_22 g_t_24 g_t_25 g_t_26 g_t_27 g_t_28 g_t_29 g_t_30 g_t_31 g_t_32 g_t_33 g_t_34 g_t_35 g_t_36 g_t_37 g_t_38 g_t_39 g_t_40 g_t_41 g_t_42 g_t_43 c_act c_has c_part v) L pc []) : GG E 0 0 (W_X9_lays (eCy E) a_t a_t_act a_t_has a_t_part a_t_speed g_t_0 g_t_1 g_t_2 g_t_3 g_t_4 g_t_5 g_t_6 g_t_7 g_t_8 g_t_9 g_t_10 g_t_11 g_t_12 g_t_13 g_t_14 g_t_15 g_t_16 g_t_19 g_t_20 g_t_22 g_t_24 g_t_25 g_t_26 g_t_27 g_t_28 g_t_29 g_t_30 g_t_31 g_t_32 g_t_33 g_t_34 g_t_35 g_t_36 g_t_37 g_t_38 g_t_39 g_t_40 g_t_41 g_t_42 g_t_43 c_act c_has c_part c_speed) [some (.ref a_t), some (.int (wI x1)), none] 2 [] := by
  unfold mb_X9_lays_2 at h
  refine g_iload_n 1 C dX9_lays_2 rfl rfl ?_
  refine g_aload_n 0 C dX9_lays_3 rfl rfl ?_
  refine g_get C fg_X9_34 0 rfl rfl dX9_lays_4 ?_
  refine g_iconst C dX9_lays_7 ?_
  refine g_iald C 2 rfl (by decide) rfl dX9_lays_8 ?_
  refine g_icmp_ge 34 C dX9_lays_9 (by decide) h (fun h => ?_) (fun h => ?_)
  · refine g_iconst C dX9_lays_34 ?_
    refine g_istore_n 1 C hN dX9_lays_35 rfl rfl (L' := [some (.ref a_t), some (.int (wI 0)), none]) rfl ?_
    exact wl_X9_lays_36 C hN h hret
  · refine g_aload_n 0 C dX9_lays_12 rfl rfl ?_
    refine g_get C fg_X9_53 0 rfl rfl dX9_lays_13 ?_
    refine g_iload_n 1 C dX9_lays_16 rfl rfl ?_
    refine g_aload_n 0 C dX9_lays_17 rfl rfl ?_
    refine g_get C fg_X9_37 0 rfl rfl dX9_lays_18 ?_
    refine g_iconst C dX9_lays_21 ?_
    refine g_iload_n 1 C dX9_lays_22 rfl rfl ?_
    refine g_imul C dX9_lays_23 ?_
    refine g_iconst C dX9_lays_24 ?_
    refine g_iadd C dX9_lays_25 ?_
    obtain ⟨hc1, h⟩ := chk_some h
    refine g_iald C 3 rfl hc1 rfl dX9_lays_26 ?_
    obtain ⟨y2, e_y2, h⟩ := nam_some h
    refine g_topI e_y2 ?_
    obtain ⟨hc3, h⟩ := chk_some h
    refine g_iast C 4 rfl hc3 rfl (ws' := (W_X9_lays (eCy E) a_t a_t_act a_t_has a_t_part a_t_speed g_t_0 g_t_1 g_t_2 g_t_3 g_t_4 g_t_5 g_t_6 g_t_7 g_t_8 g_t_9 g_t_10 g_t_11 g_t_12 g_t_13 g_t_14 g_t_15 g_t_16 g_t_19 g_t_20 g_t_22 g_t_24 g_t_25 g_t_26 g_t_27 g_t_28 g_t_29 g_t_30 g_t_31 g_t_32 g_t_33 g_t_34 g_t_35 g_t_36 g_t_37 g_t_38 g_t_39 g_t_40 g_t_41 g_t_42 g_t_43 c_act c_has c_part (up c_speed x1 y2))) rfl dX9_lays_27 ?_
    refine g_iinc C hN dX9_lays_28 rfl rfl (L' := [some (.ref a_t), some (.int (wI (x1 + 1))), none]) rfl ?_
    refine g_goto (tgt := 2) C dX9_lays_31 (by decide) ?_
    exact hk2 _ _ h
set_option maxRecDepth 100000 in
set_option maxHeartbeats 4000000 in
theorem wl_X9_lays_2 {F : Nat} {v : (Int → Int)} {x1 : Int} {c_act : Int → Int} {c_has : Int → Int} {c_part : Int → Int} {c_speed : Int → Int} (C : Cx E cX9_lays RX9 { frames := 0, cells := 0, slots := 0, locals := 0 }) (hN : eN E = 3) (h : ml_X9_lays_2 F x1 c_act c_has c_part c_speed = some v) (hret : ∀ (pc : Nat) (L : List (Option Value)), decode cX9_lays pc = .ok (.return_, 1) → GG E 0 0 (W_X9_lays (eCy E) a_t a_t_act a_t_has a_t_part a_t_speed g_t_0 g_t_1 g_t_2 g_t_3 g_t_4 g_t_5 g_t_6 g_t_7 g_t_8 g_t_9 g_t_10 g_t_11 g_t_12 g_t_13 g_t_14 g_t_15 g_t_16 g_t_19 g_t_20 g_t_22 g_t_24 g_t_25 g_t_26 g_t_27 g_t_28 g_t_29 g_t_30 g_t_31 g_t_32 g_t_33 g_t_34 g_t_35 g_t_36 g_t_37 g_t_38 g_t_39 g_t_40 g_t_41 g_t_42 g_t_43 c_act c_has c_part v) L pc []) : GG E 0 0 (W_X9_lays (eCy E) a_t a_t_act a_t_has a_t_part a_t_speed g_t_0 g_t_1 g_t_2 g_t_3 g_t_4 g_t_5 g_t_6 g_t_7 g_t_8 g_t_9 g_t_10 g_t_11 g_t_12 g_t_13 g_t_14 g_t_15 g_t_16 g_t_19 g_t_20 g_t_22 g_t_24 g_t_25 g_t_26 g_t_27 g_t_28 g_t_29 g_t_30 g_t_31 g_t_32 g_t_33 g_t_34 g_t_35 g_t_36 g_t_37 g_t_38 g_t_39 g_t_40 g_t_41 g_t_42 g_t_43 c_act c_has c_part c_speed) [some (.ref a_t), some (.int (wI x1)), none] 2 [] := by
  unfold ml_X9_lays_2 at h
  exact loop_walk (g := fun (q : Int × (Int → Int)) => GG E 0 0 (W_X9_lays (eCy E) a_t a_t_act a_t_has a_t_part a_t_speed g_t_0 g_t_1 g_t_2 g_t_3 g_t_4 g_t_5 g_t_6 g_t_7 g_t_8 g_t_9 g_t_10 g_t_11 g_t_12 g_t_13 g_t_14 g_t_15 g_t_16 g_t_19 g_t_20 g_t_22 g_t_24 g_t_25 g_t_26 g_t_27 g_t_28 g_t_29 g_t_30 g_t_31 g_t_32 g_t_33 g_t_34 g_t_35 g_t_36 g_t_37 g_t_38 g_t_39 g_t_40 g_t_41 g_t_42 g_t_43 c_act c_has c_part (q.2)) [some (.ref a_t), some (.int (wI (q.1))), none] 2 []) (fun k hk q h => wb_X9_lays_2 C hN h (fun y0 y1 hh => hk (y0, y1) hh) hret) F (x1, c_speed) h
set_option maxRecDepth 100000 in
set_option maxHeartbeats 4000000 in
theorem wm_X9_lays {F : Nat} {v : (Int → Int)} {c_act : Int → Int} {c_has : Int → Int} {c_part : Int → Int} {c_speed : Int → Int} (C : Cx E cX9_lays RX9 { frames := 0, cells := 0, slots := 0, locals := 0 }) (hN : eN E = 3) (h : m_X9_lays F c_act c_has c_part c_speed = some v) (hret : ∀ (pc : Nat) (L : List (Option Value)), decode cX9_lays pc = .ok (.return_, 1) → GG E 0 0 (W_X9_lays (eCy E) a_t a_t_act a_t_has a_t_part a_t_speed g_t_0 g_t_1 g_t_2 g_t_3 g_t_4 g_t_5 g_t_6 g_t_7 g_t_8 g_t_9 g_t_10 g_t_11 g_t_12 g_t_13 g_t_14 g_t_15 g_t_16 g_t_19 g_t_20 g_t_22 g_t_24 g_t_25 g_t_26 g_t_27 g_t_28 g_t_29 g_t_30 g_t_31 g_t_32 g_t_33 g_t_34 g_t_35 g_t_36 g_t_37 g_t_38 g_t_39 g_t_40 g_t_41 g_t_42 g_t_43 c_act c_has c_part v) L pc []) : GG E 0 0 (W_X9_lays (eCy E) a_t a_t_act a_t_has a_t_part a_t_speed g_t_0 g_t_1 g_t_2 g_t_3 g_t_4 g_t_5 g_t_6 g_t_7 g_t_8 g_t_9 g_t_10 g_t_11 g_t_12 g_t_13 g_t_14 g_t_15 g_t_16 g_t_19 g_t_20 g_t_22 g_t_24 g_t_25 g_t_26 g_t_27 g_t_28 g_t_29 g_t_30 g_t_31 g_t_32 g_t_33 g_t_34 g_t_35 g_t_36 g_t_37 g_t_38 g_t_39 g_t_40 g_t_41 g_t_42 g_t_43 c_act c_has c_part c_speed) [some (.ref a_t), none, none] 0 [] := by
  unfold m_X9_lays at h
  refine g_iconst C dX9_lays_0 ?_
  refine g_istore_n 1 C hN dX9_lays_1 rfl rfl (L' := [some (.ref a_t), some (.int (wI 0)), none]) rfl ?_
  exact wl_X9_lays_2 C hN h hret
end S_X9_lays
set_option maxRecDepth 100000 in
set_option maxHeartbeats 4000000 in
theorem c_X9_lays (l : Launch) (D : va_G) (cy : Nat → ClassId) (ad : AD) (a_t a_t_act a_t_has a_t_part a_t_speed : Nat) (g_t_0 : Value) (g_t_1 : Value) (g_t_2 : Value) (g_t_3 : Value) (g_t_4 : Value) (g_t_5 : Value) (g_t_6 : Value) (g_t_7 : Value) (g_t_8 : Value) (g_t_9 : Value) (g_t_10 : Value) (g_t_11 : Value) (g_t_12 : Value) (g_t_13 : Value) (g_t_14 : Value) (g_t_15 : Value) (g_t_16 : Value) (g_t_19 : Value) (g_t_20 : Value) (g_t_22 : Value) (g_t_24 : Value) (g_t_25 : Value) (g_t_26 : Value) (g_t_27 : Value) (g_t_28 : Value) (g_t_29 : Value) (g_t_30 : Value) (g_t_31 : Value) (g_t_32 : Value) (g_t_33 : Value) (g_t_34 : Value) (g_t_35 : Value) (g_t_36 : Value) (g_t_37 : Value) (g_t_38 : Value) (g_t_39 : Value) (g_t_40 : Value) (g_t_41 : Value) (g_t_42 : Value) (g_t_43 : Value) (c_act : Int → Int) (c_has : Int → Int) (c_part : Int → Int) (c_speed : Int → Int) (F : Nat) {v : (Int → Int)} (h : m_X9_lays F c_act c_has c_part c_speed = some v) : Ct l yX9_lays cX9_lays 3 none { frames := 0, cells := 0, slots := 0, locals := 0 } D cy ad [.ref a_t] (W_X9_lays cy a_t a_t_act a_t_has a_t_part a_t_speed g_t_0 g_t_1 g_t_2 g_t_3 g_t_4 g_t_5 g_t_6 g_t_7 g_t_8 g_t_9 g_t_10 g_t_11 g_t_12 g_t_13 g_t_14 g_t_15 g_t_16 g_t_19 g_t_20 g_t_22 g_t_24 g_t_25 g_t_26 g_t_27 g_t_28 g_t_29 g_t_30 g_t_31 g_t_32 g_t_33 g_t_34 g_t_35 g_t_36 g_t_37 g_t_38 g_t_39 g_t_40 g_t_41 g_t_42 g_t_43 c_act c_has c_part c_speed) (W_X9_lays cy a_t a_t_act a_t_has a_t_part a_t_speed g_t_0 g_t_1 g_t_2 g_t_3 g_t_4 g_t_5 g_t_6 g_t_7 g_t_8 g_t_9 g_t_10 g_t_11 g_t_12 g_t_13 g_t_14 g_t_15 g_t_16 g_t_19 g_t_20 g_t_22 g_t_24 g_t_25 g_t_26 g_t_27 g_t_28 g_t_29 g_t_30 g_t_31 g_t_32 g_t_33 g_t_34 g_t_35 g_t_36 g_t_37 g_t_38 g_t_39 g_t_40 g_t_41 g_t_42 g_t_43 c_act c_has c_part v) none := by
  refine Ct.introV (j := 2) (plainFor_of_name (by decide)) rfl rfl (fun E C e1 e2 e3 e4 e5 hret => ?_)
  subst e1; subst e2; subst e3; subst e4
  exact wm_X9_lays C e5 h hret
-- MovingStairModel.stepsOf(I)I
def W_X9_stepsOf (cy : Nat → ClassId) (a_t a_t_part : Nat) (g_t_0 : Value) (g_t_1 : Value) (g_t_2 : Value) (g_t_3 : Value) (g_t_4 : Value) (g_t_5 : Value) (g_t_6 : Value) (g_t_7 : Value) (g_t_8 : Value) (g_t_9 : Value) (g_t_10 : Value) (g_t_11 : Value) (g_t_12 : Value) (g_t_13 : Value) (g_t_14 : Value) (g_t_15 : Value) (g_t_16 : Value) (g_t_17 : Value) (g_t_19 : Value) (g_t_20 : Value) (g_t_21 : Value) (g_t_22 : Value) (g_t_23 : Value) (g_t_24 : Value) (g_t_25 : Value) (g_t_26 : Value) (g_t_27 : Value) (g_t_28 : Value) (g_t_29 : Value) (g_t_30 : Value) (g_t_31 : Value) (g_t_32 : Value) (g_t_33 : Value) (g_t_34 : Value) (g_t_35 : Value) (g_t_36 : Value) (g_t_37 : Value) (g_t_38 : Value) (g_t_39 : Value) (g_t_40 : Value) (g_t_41 : Value) (g_t_42 : Value) (g_t_43 : Value) (c_part : Int → Int) : va_W := [(a_t, .inr (9, [g_t_0, g_t_1, g_t_2, g_t_3, g_t_4, g_t_5, g_t_6, g_t_7, g_t_8, g_t_9, g_t_10, g_t_11, g_t_12, g_t_13, g_t_14, g_t_15, g_t_16, g_t_17, .ref a_t_part, g_t_19, g_t_20, g_t_21, g_t_22, g_t_23, g_t_24, g_t_25, g_t_26, g_t_27, g_t_28, g_t_29, g_t_30, g_t_31, g_t_32, g_t_33, g_t_34, g_t_35, g_t_36, g_t_37, g_t_38, g_t_39, g_t_40, g_t_41, g_t_42, g_t_43])), (a_t_part, .inl (cy 1, 40, .inl (aI c_part)))]
def m_X9_stepsOf (F : Nat) (x1 : Int) (c_part : Int → Int) : Option (Int) :=
  chk (0 ≤ (2 * x1) ∧ (2 * x1) < 40) <| some (c_part (2 * x1))
section S_X9_stepsOf
variable {E : EE} {a_t a_t_part : Nat} {g_t_0 : Value} {g_t_1 : Value} {g_t_2 : Value} {g_t_3 : Value} {g_t_4 : Value} {g_t_5 : Value} {g_t_6 : Value} {g_t_7 : Value} {g_t_8 : Value} {g_t_9 : Value} {g_t_10 : Value} {g_t_11 : Value} {g_t_12 : Value} {g_t_13 : Value} {g_t_14 : Value} {g_t_15 : Value} {g_t_16 : Value} {g_t_17 : Value} {g_t_19 : Value} {g_t_20 : Value} {g_t_21 : Value} {g_t_22 : Value} {g_t_23 : Value} {g_t_24 : Value} {g_t_25 : Value} {g_t_26 : Value} {g_t_27 : Value} {g_t_28 : Value} {g_t_29 : Value} {g_t_30 : Value} {g_t_31 : Value} {g_t_32 : Value} {g_t_33 : Value} {g_t_34 : Value} {g_t_35 : Value} {g_t_36 : Value} {g_t_37 : Value} {g_t_38 : Value} {g_t_39 : Value} {g_t_40 : Value} {g_t_41 : Value} {g_t_42 : Value} {g_t_43 : Value}
set_option maxRecDepth 100000 in
set_option maxHeartbeats 4000000 in
theorem wm_X9_stepsOf {F : Nat} {v : Int} {x1 : Int} {c_part : Int → Int} (C : Cx E cX9_stepsOf RX9 { frames := 0, cells := 0, slots := 0, locals := 0 }) (hN : eN E = 2) (h : m_X9_stepsOf F x1 c_part = some v) (hret : ∀ (pc : Nat) (L : List (Option Value)), decode cX9_stepsOf pc = .ok (.ireturn, 1) → GG E 0 0 (W_X9_stepsOf (eCy E) a_t a_t_part g_t_0 g_t_1 g_t_2 g_t_3 g_t_4 g_t_5 g_t_6 g_t_7 g_t_8 g_t_9 g_t_10 g_t_11 g_t_12 g_t_13 g_t_14 g_t_15 g_t_16 g_t_17 g_t_19 g_t_20 g_t_21 g_t_22 g_t_23 g_t_24 g_t_25 g_t_26 g_t_27 g_t_28 g_t_29 g_t_30 g_t_31 g_t_32 g_t_33 g_t_34 g_t_35 g_t_36 g_t_37 g_t_38 g_t_39 g_t_40 g_t_41 g_t_42 g_t_43 c_part) L pc [.int (wI v)]) : GG E 0 0 (W_X9_stepsOf (eCy E) a_t a_t_part g_t_0 g_t_1 g_t_2 g_t_3 g_t_4 g_t_5 g_t_6 g_t_7 g_t_8 g_t_9 g_t_10 g_t_11 g_t_12 g_t_13 g_t_14 g_t_15 g_t_16 g_t_17 g_t_19 g_t_20 g_t_21 g_t_22 g_t_23 g_t_24 g_t_25 g_t_26 g_t_27 g_t_28 g_t_29 g_t_30 g_t_31 g_t_32 g_t_33 g_t_34 g_t_35 g_t_36 g_t_37 g_t_38 g_t_39 g_t_40 g_t_41 g_t_42 g_t_43 c_part) [some (.ref a_t), some (.int (wI x1))] 0 [] := by
  unfold m_X9_stepsOf at h
  refine g_aload_n 0 C dX9_stepsOf_0 rfl rfl ?_
  refine g_get C fg_X9_37 0 rfl rfl dX9_stepsOf_1 ?_
  refine g_iconst C dX9_stepsOf_4 ?_
  refine g_iload_n 1 C dX9_stepsOf_5 rfl rfl ?_
  refine g_imul C dX9_stepsOf_6 ?_
  obtain ⟨hc1, h⟩ := chk_some h
  refine g_iald C 1 rfl hc1 rfl dX9_stepsOf_7 ?_
  cases h
  exact hret 8 _ dX9_stepsOf_8
end S_X9_stepsOf
set_option maxRecDepth 100000 in
set_option maxHeartbeats 4000000 in
theorem c_X9_stepsOf (l : Launch) (D : va_G) (cy : Nat → ClassId) (ad : AD) (a_t a_t_part : Nat) (g_t_0 : Value) (g_t_1 : Value) (g_t_2 : Value) (g_t_3 : Value) (g_t_4 : Value) (g_t_5 : Value) (g_t_6 : Value) (g_t_7 : Value) (g_t_8 : Value) (g_t_9 : Value) (g_t_10 : Value) (g_t_11 : Value) (g_t_12 : Value) (g_t_13 : Value) (g_t_14 : Value) (g_t_15 : Value) (g_t_16 : Value) (g_t_17 : Value) (g_t_19 : Value) (g_t_20 : Value) (g_t_21 : Value) (g_t_22 : Value) (g_t_23 : Value) (g_t_24 : Value) (g_t_25 : Value) (g_t_26 : Value) (g_t_27 : Value) (g_t_28 : Value) (g_t_29 : Value) (g_t_30 : Value) (g_t_31 : Value) (g_t_32 : Value) (g_t_33 : Value) (g_t_34 : Value) (g_t_35 : Value) (g_t_36 : Value) (g_t_37 : Value) (g_t_38 : Value) (g_t_39 : Value) (g_t_40 : Value) (g_t_41 : Value) (g_t_42 : Value) (g_t_43 : Value) (x1 : Int) (c_part : Int → Int) (F : Nat) {v : Int} (h : m_X9_stepsOf F x1 c_part = some v) : Ct l yX9_stepsOf cX9_stepsOf 2 (some .int) { frames := 0, cells := 0, slots := 0, locals := 0 } D cy ad [.ref a_t, .int (wI x1)] (W_X9_stepsOf cy a_t a_t_part g_t_0 g_t_1 g_t_2 g_t_3 g_t_4 g_t_5 g_t_6 g_t_7 g_t_8 g_t_9 g_t_10 g_t_11 g_t_12 g_t_13 g_t_14 g_t_15 g_t_16 g_t_17 g_t_19 g_t_20 g_t_21 g_t_22 g_t_23 g_t_24 g_t_25 g_t_26 g_t_27 g_t_28 g_t_29 g_t_30 g_t_31 g_t_32 g_t_33 g_t_34 g_t_35 g_t_36 g_t_37 g_t_38 g_t_39 g_t_40 g_t_41 g_t_42 g_t_43 c_part) (W_X9_stepsOf cy a_t a_t_part g_t_0 g_t_1 g_t_2 g_t_3 g_t_4 g_t_5 g_t_6 g_t_7 g_t_8 g_t_9 g_t_10 g_t_11 g_t_12 g_t_13 g_t_14 g_t_15 g_t_16 g_t_17 g_t_19 g_t_20 g_t_21 g_t_22 g_t_23 g_t_24 g_t_25 g_t_26 g_t_27 g_t_28 g_t_29 g_t_30 g_t_31 g_t_32 g_t_33 g_t_34 g_t_35 g_t_36 g_t_37 g_t_38 g_t_39 g_t_40 g_t_41 g_t_42 g_t_43 c_part) (some (.int (wI v))) := by
  refine Ct.introI (j := 0) (plainFor_of_name (by decide)) rfl rfl (fun E C e1 e2 e3 e4 e5 hret => ?_)
  subst e1; subst e2; subst e3; subst e4
  exact wm_X9_stepsOf C e5 h hret
-- MovingStairModel.part(II)I
def W_X9_part (cy : Nat → ClassId) (a_t a_t_act a_t_has a_t_part a_t_speed : Nat) (g_t_1 : Value) (g_t_2 : Value) (g_t_3 : Value) (g_t_4 : Value) (g_t_5 : Value) (g_t_6 : Value) (g_t_7 : Value) (g_t_8 : Value) (g_t_9 : Value) (g_t_10 : Value) (g_t_11 : Value) (g_t_12 : Value) (g_t_13 : Value) (g_t_14 : Value) (g_t_15 : Value) (g_t_16 : Value) (g_t_19 : Value) (g_t_20 : Value) (g_t_22 : Value) (g_t_24 : Value) (g_t_25 : Value) (g_t_26 : Value) (g_t_27 : Value) (g_t_28 : Value) (g_t_29 : Value) (g_t_30 : Value) (g_t_31 : Value) (g_t_32 : Value) (g_t_33 : Value) (g_t_34 : Value) (g_t_35 : Value) (g_t_36 : Value) (g_t_37 : Value) (g_t_38 : Value) (g_t_39 : Value) (g_t_40 : Value) (g_t_41 : Value) (g_t_42 : Value) (g_t_43 : Value) (c_thrown : Int) (c_act : Int → Int) (c_has : Int → Int) (c_part : Int → Int) (c_speed : Int → Int) : va_W := [(a_t, .inr (9, [.int (wI c_thrown), g_t_1, g_t_2, g_t_3, g_t_4, g_t_5, g_t_6, g_t_7, g_t_8, g_t_9, g_t_10, g_t_11, g_t_12, g_t_13, g_t_14, g_t_15, g_t_16, .ref a_t_has, .ref a_t_part, g_t_19, g_t_20, .ref a_t_act, g_t_22, .ref a_t_speed, g_t_24, g_t_25, g_t_26, g_t_27, g_t_28, g_t_29, g_t_30, g_t_31, g_t_32, g_t_33, g_t_34, g_t_35, g_t_36, g_t_37, g_t_38, g_t_39, g_t_40, g_t_41, g_t_42, g_t_43])), (a_t_act, .inl (cy 1, 600, .inl (aI c_act))), (a_t_has, .inl (cy 1, 45, .inl (aI c_has))), (a_t_part, .inl (cy 1, 40, .inl (aI c_part))), (a_t_speed, .inl (cy 1, 4, .inl (aI c_speed)))]
def m_X9_part (F : Nat) (x1 : Int) (x2 : Int) (c_act : Int → Int) (c_has : Int → Int) (c_part : Int → Int) (c_speed : Int → Int) : Option (Int × Int × (Int → Int)) :=
  bnd1 (m_X9_isPart F x1 c_has) fun r1 => if wI r1 = wI 0 then
    (some ((-1000), 0, c_speed))
  else
    (chk (r32 x2) <| bnd1 (m_X9_in F x2 0 1) fun r4 => if wI r4 = wI 0 then
    (some ((-1000), 0, c_speed))
  else
    (bnd1 (m_X9_lays F c_act c_has c_part c_speed) fun o6 => if wI x2 = wI 0 then
    (bnd1 (m_X9_stepsOf F x1 c_part) fun r8 => some (r8, 0, o6))
  else
    (chk (0 ≤ x1 ∧ x1 < 4) <| some (o6 x1, 0, o6))))
section S_X9_part
variable {E : EE} {a_t a_t_act a_t_has a_t_part a_t_speed : Nat} {g_t_1 : Value} {g_t_2 : Value} {g_t_3 : Value} {g_t_4 : Value} {g_t_5 : Value} {g_t_6 : Value} {g_t_7 : Value} {g_t_8 : Value} {g_t_9 : Value} {g_t_10 : Value} {g_t_11 : Value} {g_t_12 : Value} {g_t_13 : Value} {g_t_14 : Value} {g_t_15 : Value} {g_t_16 : Value} {g_t_19 : Value} {g_t_20 : Value} {g_t_22 : Value} {g_t_24 : Value} {g_t_25 : Value} {g_t_26 : Value} {g_t_27 : Value} {g_t_28 : Value} {g_t_29 : Value} {g_t_30 : Value} {g_t_31 : Value} {g_t_32 : Value} {g_t_33 : Value} {g_t_34 : Value} {g_t_35 : Value} {g_t_36 : Value} {g_t_37 : Value} {g_t_38 : Value} {g_t_39 : Value} {g_t_40 : Value} {g_t_41 : Value} {g_t_42 : Value} {g_t_43 : Value}
set_option maxRecDepth 100000 in
set_option maxHeartbeats 4000000 in
theorem wm_X9_part {F : Nat} {v : Int × Int × (Int → Int)} {x1 : Int} {x2 : Int} {c_act : Int → Int} {c_has : Int → Int} {c_part : Int → Int} {c_speed : Int → Int} {c_thrown : Int} (C : Cx E cX9_part RX9 { frames := 2, cells := 0, slots := 0, locals := 46 }) (hN : eN E = 3) (h : m_X9_part F x1 x2 c_act c_has c_part c_speed = some v) (hret : ∀ (pc : Nat) (L : List (Option Value)), decode cX9_part pc = .ok (.ireturn, 1) → GG E 0 0 (W_X9_part (eCy E) a_t a_t_act a_t_has a_t_part a_t_speed g_t_1 g_t_2 g_t_3 g_t_4 g_t_5 g_t_6 g_t_7 g_t_8 g_t_9 g_t_10 g_t_11 g_t_12 g_t_13 g_t_14 g_t_15 g_t_16 g_t_19 g_t_20 g_t_22 g_t_24 g_t_25 g_t_26 g_t_27 g_t_28 g_t_29 g_t_30 g_t_31 g_t_32 g_t_33 g_t_34 g_t_35 g_t_36 g_t_37 g_t_38 g_t_39 g_t_40 g_t_41 g_t_42 g_t_43 (v.2.1) c_act c_has c_part (v.2.2)) L pc [.int (wI (v.1))]) : GG E 0 0 (W_X9_part (eCy E) a_t a_t_act a_t_has a_t_part a_t_speed g_t_1 g_t_2 g_t_3 g_t_4 g_t_5 g_t_6 g_t_7 g_t_8 g_t_9 g_t_10 g_t_11 g_t_12 g_t_13 g_t_14 g_t_15 g_t_16 g_t_19 g_t_20 g_t_22 g_t_24 g_t_25 g_t_26 g_t_27 g_t_28 g_t_29 g_t_30 g_t_31 g_t_32 g_t_33 g_t_34 g_t_35 g_t_36 g_t_37 g_t_38 g_t_39 g_t_40 g_t_41 g_t_42 g_t_43 c_thrown c_act c_has c_part c_speed) [some (.ref a_t), some (.int (wI x1)), some (.int (wI x2))] 0 [] := by
  unfold m_X9_part at h
  refine g_aload_n 0 C dX9_part_0 rfl rfl ?_
  refine g_iconst C dX9_part_1 ?_
  refine g_putI C fp_X9_71 0 rfl rfl (ws' := (W_X9_part (eCy E) a_t a_t_act a_t_has a_t_part a_t_speed g_t_1 g_t_2 g_t_3 g_t_4 g_t_5 g_t_6 g_t_7 g_t_8 g_t_9 g_t_10 g_t_11 g_t_12 g_t_13 g_t_14 g_t_15 g_t_16 g_t_19 g_t_20 g_t_22 g_t_24 g_t_25 g_t_26 g_t_27 g_t_28 g_t_29 g_t_30 g_t_31 g_t_32 g_t_33 g_t_34 g_t_35 g_t_36 g_t_37 g_t_38 g_t_39 g_t_40 g_t_41 g_t_42 g_t_43 0 c_act c_has c_part c_speed)) rfl dX9_part_2 ?_
  refine g_aload_n 0 C dX9_part_5 rfl rfl ?_
  refine g_iload_n 1 C dX9_part_6 rfl rfl ?_
  obtain ⟨r1, hr2, h⟩ := bnd1_some h
  refine g_callI [0, 2] [1, 3, 4] [3, 0, 4, 1, 2] C mt_X9_227 (c_X9_isPart _ _ _ _ a_t a_t_has (.int (wI 0)) (g_t_1) (g_t_2) (g_t_3) (g_t_4) (g_t_5) (g_t_6) (g_t_7) (g_t_8) (g_t_9) (g_t_10) (g_t_11) (g_t_12) (g_t_13) (g_t_14) (g_t_15) (g_t_16) (.ref a_t_part) (g_t_19) (g_t_20) (.ref a_t_act) (g_t_22) (.ref a_t_speed) (g_t_24) (g_t_25) (g_t_26) (g_t_27) (g_t_28) (g_t_29) (g_t_30) (g_t_31) (g_t_32) (g_t_33) (g_t_34) (g_t_35) (g_t_36) (g_t_37) (g_t_38) (g_t_39) (g_t_40) (g_t_41) (g_t_42) (g_t_43) x1 c_has F hr2) (q0 := 0) rfl (ci := 9) rfl rfl rfl (ws2 := (W_X9_part (eCy E) a_t a_t_act a_t_has a_t_part a_t_speed g_t_1 g_t_2 g_t_3 g_t_4 g_t_5 g_t_6 g_t_7 g_t_8 g_t_9 g_t_10 g_t_11 g_t_12 g_t_13 g_t_14 g_t_15 g_t_16 g_t_19 g_t_20 g_t_22 g_t_24 g_t_25 g_t_26 g_t_27 g_t_28 g_t_29 g_t_30 g_t_31 g_t_32 g_t_33 g_t_34 g_t_35 g_t_36 g_t_37 g_t_38 g_t_39 g_t_40 g_t_41 g_t_42 g_t_43 0 c_act c_has c_part c_speed)) rfl rfl rfl (rest := []) rfl rfl rfl dX9_part_7 ?_
  refine g_if_eq 23 C dX9_part_10 (by decide) h (fun h => ?_) (fun h => ?_)
  · refine g_sipush C dX9_part_23 (by decide) ?_
    cases h
    exact hret 26 _ dX9_part_26
  · refine g_iload_n 2 C dX9_part_13 rfl rfl ?_
    obtain ⟨hc3, h⟩ := chk_some h
    refine g_i2l C dX9_part_14 hc3 ?_
    refine g_lconst (x := 0) C dX9_part_15 (by decide) ?_
    refine g_lconst (x := 1) C dX9_part_16 (by decide) ?_
    obtain ⟨r4, hr5, h⟩ := bnd1_some h
    refine g_callSI [] [0, 1, 2, 3, 4] [0, 1, 2, 3, 4] C mt_X9_76 (c_X9_in _ _ _ _ x2 0 1 F hr5) rfl rfl (ws2 := (W_X9_part (eCy E) a_t a_t_act a_t_has a_t_part a_t_speed g_t_1 g_t_2 g_t_3 g_t_4 g_t_5 g_t_6 g_t_7 g_t_8 g_t_9 g_t_10 g_t_11 g_t_12 g_t_13 g_t_14 g_t_15 g_t_16 g_t_19 g_t_20 g_t_22 g_t_24 g_t_25 g_t_26 g_t_27 g_t_28 g_t_29 g_t_30 g_t_31 g_t_32 g_t_33 g_t_34 g_t_35 g_t_36 g_t_37 g_t_38 g_t_39 g_t_40 g_t_41 g_t_42 g_t_43 0 c_act c_has c_part c_speed)) rfl rfl rfl (rest := []) rfl rfl rfl dX9_part_17 ?_
    refine g_if_ne 27 C dX9_part_20 (by decide) h (fun h => ?_) (fun h => ?_)
    · refine g_aload_n 0 C dX9_part_27 rfl rfl ?_
      obtain ⟨o6, hr7, h⟩ := bnd1_some h
      refine g_callV [0, 1, 2, 3, 4] [] [0, 1, 2, 3, 4] C mt_X9_230 (c_X9_lays _ _ _ _ a_t a_t_act a_t_has a_t_part a_t_speed (.int (wI 0)) (g_t_1) (g_t_2) (g_t_3) (g_t_4) (g_t_5) (g_t_6) (g_t_7) (g_t_8) (g_t_9) (g_t_10) (g_t_11) (g_t_12) (g_t_13) (g_t_14) (g_t_15) (g_t_16) (g_t_19) (g_t_20) (g_t_22) (g_t_24) (g_t_25) (g_t_26) (g_t_27) (g_t_28) (g_t_29) (g_t_30) (g_t_31) (g_t_32) (g_t_33) (g_t_34) (g_t_35) (g_t_36) (g_t_37) (g_t_38) (g_t_39) (g_t_40) (g_t_41) (g_t_42) (g_t_43) c_act c_has c_part c_speed F hr7) (q0 := 0) rfl (ci := 9) rfl rfl rfl (ws2 := (W_X9_part (eCy E) a_t a_t_act a_t_has a_t_part a_t_speed g_t_1 g_t_2 g_t_3 g_t_4 g_t_5 g_t_6 g_t_7 g_t_8 g_t_9 g_t_10 g_t_11 g_t_12 g_t_13 g_t_14 g_t_15 g_t_16 g_t_19 g_t_20 g_t_22 g_t_24 g_t_25 g_t_26 g_t_27 g_t_28 g_t_29 g_t_30 g_t_31 g_t_32 g_t_33 g_t_34 g_t_35 g_t_36 g_t_37 g_t_38 g_t_39 g_t_40 g_t_41 g_t_42 g_t_43 0 c_act c_has c_part o6)) rfl rfl rfl (rest := []) rfl rfl rfl dX9_part_28 ?_
      refine g_iload_n 2 C dX9_part_31 rfl rfl ?_
      refine g_if_ne 43 C dX9_part_32 (by decide) h (fun h => ?_) (fun h => ?_)
      · refine g_aload_n 0 C dX9_part_43 rfl rfl ?_
        refine g_get C fg_X9_53 0 rfl rfl dX9_part_44 ?_
        refine g_iload_n 1 C dX9_part_47 rfl rfl ?_
        obtain ⟨hc8, h⟩ := chk_some h
        refine g_iald C 4 rfl hc8 rfl dX9_part_48 ?_
        cases h
        exact hret 49 _ dX9_part_49
      · refine g_aload_n 0 C dX9_part_35 rfl rfl ?_
        refine g_iload_n 1 C dX9_part_36 rfl rfl ?_
        obtain ⟨r8, hr9, h⟩ := bnd1_some h
        refine g_callI [0, 3] [1, 2, 4] [3, 0, 1, 4, 2] C mt_X9_233 (c_X9_stepsOf _ _ _ _ a_t a_t_part (.int (wI 0)) (g_t_1) (g_t_2) (g_t_3) (g_t_4) (g_t_5) (g_t_6) (g_t_7) (g_t_8) (g_t_9) (g_t_10) (g_t_11) (g_t_12) (g_t_13) (g_t_14) (g_t_15) (g_t_16) (.ref a_t_has) (g_t_19) (g_t_20) (.ref a_t_act) (g_t_22) (.ref a_t_speed) (g_t_24) (g_t_25) (g_t_26) (g_t_27) (g_t_28) (g_t_29) (g_t_30) (g_t_31) (g_t_32) (g_t_33) (g_t_34) (g_t_35) (g_t_36) (g_t_37) (g_t_38) (g_t_39) (g_t_40) (g_t_41) (g_t_42) (g_t_43) x1 c_part F hr9) (q0 := 0) rfl (ci := 9) rfl rfl rfl (ws2 := (W_X9_part (eCy E) a_t a_t_act a_t_has a_t_part a_t_speed g_t_1 g_t_2 g_t_3 g_t_4 g_t_5 g_t_6 g_t_7 g_t_8 g_t_9 g_t_10 g_t_11 g_t_12 g_t_13 g_t_14 g_t_15 g_t_16 g_t_19 g_t_20 g_t_22 g_t_24 g_t_25 g_t_26 g_t_27 g_t_28 g_t_29 g_t_30 g_t_31 g_t_32 g_t_33 g_t_34 g_t_35 g_t_36 g_t_37 g_t_38 g_t_39 g_t_40 g_t_41 g_t_42 g_t_43 0 c_act c_has c_part o6)) rfl rfl rfl (rest := []) rfl rfl rfl dX9_part_37 ?_
        refine g_goto (tgt := 49) C dX9_part_40 (by decide) ?_
        cases h
        exact hret 49 _ dX9_part_49
    · refine g_sipush C dX9_part_23 (by decide) ?_
      cases h
      exact hret 26 _ dX9_part_26
end S_X9_part
set_option maxRecDepth 100000 in
set_option maxHeartbeats 4000000 in
theorem c_X9_part (l : Launch) (D : va_G) (cy : Nat → ClassId) (ad : AD) (a_t a_t_act a_t_has a_t_part a_t_speed : Nat) (g_t_1 : Value) (g_t_2 : Value) (g_t_3 : Value) (g_t_4 : Value) (g_t_5 : Value) (g_t_6 : Value) (g_t_7 : Value) (g_t_8 : Value) (g_t_9 : Value) (g_t_10 : Value) (g_t_11 : Value) (g_t_12 : Value) (g_t_13 : Value) (g_t_14 : Value) (g_t_15 : Value) (g_t_16 : Value) (g_t_19 : Value) (g_t_20 : Value) (g_t_22 : Value) (g_t_24 : Value) (g_t_25 : Value) (g_t_26 : Value) (g_t_27 : Value) (g_t_28 : Value) (g_t_29 : Value) (g_t_30 : Value) (g_t_31 : Value) (g_t_32 : Value) (g_t_33 : Value) (g_t_34 : Value) (g_t_35 : Value) (g_t_36 : Value) (g_t_37 : Value) (g_t_38 : Value) (g_t_39 : Value) (g_t_40 : Value) (g_t_41 : Value) (g_t_42 : Value) (g_t_43 : Value) (x1 : Int) (x2 : Int) (c_thrown : Int) (c_act : Int → Int) (c_has : Int → Int) (c_part : Int → Int) (c_speed : Int → Int) (F : Nat) {v : Int × Int × (Int → Int)} (h : m_X9_part F x1 x2 c_act c_has c_part c_speed = some v) : Ct l yX9_part cX9_part 3 (some .int) { frames := 2, cells := 0, slots := 0, locals := 46 } D cy ad [.ref a_t, .int (wI x1), .int (wI x2)] (W_X9_part cy a_t a_t_act a_t_has a_t_part a_t_speed g_t_1 g_t_2 g_t_3 g_t_4 g_t_5 g_t_6 g_t_7 g_t_8 g_t_9 g_t_10 g_t_11 g_t_12 g_t_13 g_t_14 g_t_15 g_t_16 g_t_19 g_t_20 g_t_22 g_t_24 g_t_25 g_t_26 g_t_27 g_t_28 g_t_29 g_t_30 g_t_31 g_t_32 g_t_33 g_t_34 g_t_35 g_t_36 g_t_37 g_t_38 g_t_39 g_t_40 g_t_41 g_t_42 g_t_43 c_thrown c_act c_has c_part c_speed) (W_X9_part cy a_t a_t_act a_t_has a_t_part a_t_speed g_t_1 g_t_2 g_t_3 g_t_4 g_t_5 g_t_6 g_t_7 g_t_8 g_t_9 g_t_10 g_t_11 g_t_12 g_t_13 g_t_14 g_t_15 g_t_16 g_t_19 g_t_20 g_t_22 g_t_24 g_t_25 g_t_26 g_t_27 g_t_28 g_t_29 g_t_30 g_t_31 g_t_32 g_t_33 g_t_34 g_t_35 g_t_36 g_t_37 g_t_38 g_t_39 g_t_40 g_t_41 g_t_42 g_t_43 (v.2.1) c_act c_has c_part (v.2.2)) (some (.int (wI (v.1)))) := by
  refine Ct.introI (j := 0) (plainFor_of_name (by decide)) rfl rfl (fun E C e1 e2 e3 e4 e5 hret => ?_)
  subst e1; subst e2; subst e3; subst e4
  exact wm_X9_part C e5 h hret
-- MovingStairModel.walker(I)I
def W_X9_walker (cy : Nat → ClassId) (a_t a_t_has a_t_pace : Nat) (g_t_1 : Value) (g_t_2 : Value) (g_t_3 : Value) (g_t_4 : Value) (g_t_5 : Value) (g_t_6 : Value) (g_t_7 : Value) (g_t_8 : Value) (g_t_9 : Value) (g_t_10 : Value) (g_t_11 : Value) (g_t_12 : Value) (g_t_13 : Value) (g_t_14 : Value) (g_t_15 : Value) (g_t_16 : Value) (g_t_18 : Value) (g_t_20 : Value) (g_t_21 : Value) (g_t_22 : Value) (g_t_23 : Value) (g_t_24 : Value) (g_t_25 : Value) (g_t_26 : Value) (g_t_27 : Value) (g_t_28 : Value) (g_t_29 : Value) (g_t_30 : Value) (g_t_31 : Value) (g_t_32 : Value) (g_t_33 : Value) (g_t_34 : Value) (g_t_35 : Value) (g_t_36 : Value) (g_t_37 : Value) (g_t_38 : Value) (g_t_39 : Value) (g_t_40 : Value) (g_t_41 : Value) (g_t_42 : Value) (g_t_43 : Value) (c_thrown : Int) (c_has : Int → Int) (c_pace : Int → Int) : va_W := [(a_t, .inr (9, [.int (wI c_thrown), g_t_1, g_t_2, g_t_3, g_t_4, g_t_5, g_t_6, g_t_7, g_t_8, g_t_9, g_t_10, g_t_11, g_t_12, g_t_13, g_t_14, g_t_15, g_t_16, .ref a_t_has, g_t_18, .ref a_t_pace, g_t_20, g_t_21, g_t_22, g_t_23, g_t_24, g_t_25, g_t_26, g_t_27, g_t_28, g_t_29, g_t_30, g_t_31, g_t_32, g_t_33, g_t_34, g_t_35, g_t_36, g_t_37, g_t_38, g_t_39, g_t_40, g_t_41, g_t_42, g_t_43])), (a_t_has, .inl (cy 1, 45, .inl (aI c_has))), (a_t_pace, .inl (cy 1, 40, .inl (aI c_pace)))]
def m_X9_walker (F : Nat) (x1 : Int) (c_has : Int → Int) (c_pace : Int → Int) : Option (Int × Int) :=
  bnd1 (m_X9_isWalker F x1 c_has) fun r1 => if wI r1 = wI 0 then
    (some ((-2), 0))
  else
    (chk (0 ≤ x1 ∧ x1 < 40) <| some (c_pace x1, 0))
section S_X9_walker
variable {E : EE} {a_t a_t_has a_t_pace : Nat} {g_t_1 : Value} {g_t_2 : Value} {g_t_3 : Value} {g_t_4 : Value} {g_t_5 : Value} {g_t_6 : Value} {g_t_7 : Value} {g_t_8 : Value} {g_t_9 : Value} {g_t_10 : Value} {g_t_11 : Value} {g_t_12 : Value} {g_t_13 : Value} {g_t_14 : Value} {g_t_15 : Value} {g_t_16 : Value} {g_t_18 : Value} {g_t_20 : Value} {g_t_21 : Value} {g_t_22 : Value} {g_t_23 : Value} {g_t_24 : Value} {g_t_25 : Value} {g_t_26 : Value} {g_t_27 : Value} {g_t_28 : Value} {g_t_29 : Value} {g_t_30 : Value} {g_t_31 : Value} {g_t_32 : Value} {g_t_33 : Value} {g_t_34 : Value} {g_t_35 : Value} {g_t_36 : Value} {g_t_37 : Value} {g_t_38 : Value} {g_t_39 : Value} {g_t_40 : Value} {g_t_41 : Value} {g_t_42 : Value} {g_t_43 : Value}
set_option maxRecDepth 100000 in
set_option maxHeartbeats 4000000 in
theorem wm_X9_walker {F : Nat} {v : Int × Int} {x1 : Int} {c_has : Int → Int} {c_pace : Int → Int} {c_thrown : Int} (C : Cx E cX9_walker RX9 { frames := 2, cells := 0, slots := 0, locals := 46 }) (hN : eN E = 2) (h : m_X9_walker F x1 c_has c_pace = some v) (hret : ∀ (pc : Nat) (L : List (Option Value)), decode cX9_walker pc = .ok (.ireturn, 1) → GG E 0 0 (W_X9_walker (eCy E) a_t a_t_has a_t_pace g_t_1 g_t_2 g_t_3 g_t_4 g_t_5 g_t_6 g_t_7 g_t_8 g_t_9 g_t_10 g_t_11 g_t_12 g_t_13 g_t_14 g_t_15 g_t_16 g_t_18 g_t_20 g_t_21 g_t_22 g_t_23 g_t_24 g_t_25 g_t_26 g_t_27 g_t_28 g_t_29 g_t_30 g_t_31 g_t_32 g_t_33 g_t_34 g_t_35 g_t_36 g_t_37 g_t_38 g_t_39 g_t_40 g_t_41 g_t_42 g_t_43 (v.2) c_has c_pace) L pc [.int (wI (v.1))]) : GG E 0 0 (W_X9_walker (eCy E) a_t a_t_has a_t_pace g_t_1 g_t_2 g_t_3 g_t_4 g_t_5 g_t_6 g_t_7 g_t_8 g_t_9 g_t_10 g_t_11 g_t_12 g_t_13 g_t_14 g_t_15 g_t_16 g_t_18 g_t_20 g_t_21 g_t_22 g_t_23 g_t_24 g_t_25 g_t_26 g_t_27 g_t_28 g_t_29 g_t_30 g_t_31 g_t_32 g_t_33 g_t_34 g_t_35 g_t_36 g_t_37 g_t_38 g_t_39 g_t_40 g_t_41 g_t_42 g_t_43 c_thrown c_has c_pace) [some (.ref a_t), some (.int (wI x1))] 0 [] := by
  unfold m_X9_walker at h
  refine g_aload_n 0 C dX9_walker_0 rfl rfl ?_
  refine g_iconst C dX9_walker_1 ?_
  refine g_putI C fp_X9_71 0 rfl rfl (ws' := (W_X9_walker (eCy E) a_t a_t_has a_t_pace g_t_1 g_t_2 g_t_3 g_t_4 g_t_5 g_t_6 g_t_7 g_t_8 g_t_9 g_t_10 g_t_11 g_t_12 g_t_13 g_t_14 g_t_15 g_t_16 g_t_18 g_t_20 g_t_21 g_t_22 g_t_23 g_t_24 g_t_25 g_t_26 g_t_27 g_t_28 g_t_29 g_t_30 g_t_31 g_t_32 g_t_33 g_t_34 g_t_35 g_t_36 g_t_37 g_t_38 g_t_39 g_t_40 g_t_41 g_t_42 g_t_43 0 c_has c_pace)) rfl dX9_walker_2 ?_
  refine g_aload_n 0 C dX9_walker_5 rfl rfl ?_
  refine g_iload_n 1 C dX9_walker_6 rfl rfl ?_
  obtain ⟨r1, hr2, h⟩ := bnd1_some h
  refine g_callI [0, 1] [2] [1, 2, 0] C mt_X9_236 (c_X9_isWalker _ _ _ _ a_t a_t_has (.int (wI 0)) (g_t_1) (g_t_2) (g_t_3) (g_t_4) (g_t_5) (g_t_6) (g_t_7) (g_t_8) (g_t_9) (g_t_10) (g_t_11) (g_t_12) (g_t_13) (g_t_14) (g_t_15) (g_t_16) (g_t_18) (.ref a_t_pace) (g_t_20) (g_t_21) (g_t_22) (g_t_23) (g_t_24) (g_t_25) (g_t_26) (g_t_27) (g_t_28) (g_t_29) (g_t_30) (g_t_31) (g_t_32) (g_t_33) (g_t_34) (g_t_35) (g_t_36) (g_t_37) (g_t_38) (g_t_39) (g_t_40) (g_t_41) (g_t_42) (g_t_43) x1 c_has F hr2) (q0 := 0) rfl (ci := 9) rfl rfl rfl (ws2 := (W_X9_walker (eCy E) a_t a_t_has a_t_pace g_t_1 g_t_2 g_t_3 g_t_4 g_t_5 g_t_6 g_t_7 g_t_8 g_t_9 g_t_10 g_t_11 g_t_12 g_t_13 g_t_14 g_t_15 g_t_16 g_t_18 g_t_20 g_t_21 g_t_22 g_t_23 g_t_24 g_t_25 g_t_26 g_t_27 g_t_28 g_t_29 g_t_30 g_t_31 g_t_32 g_t_33 g_t_34 g_t_35 g_t_36 g_t_37 g_t_38 g_t_39 g_t_40 g_t_41 g_t_42 g_t_43 0 c_has c_pace)) rfl rfl rfl (rest := []) rfl rfl rfl dX9_walker_7 ?_
  refine g_if_eq 22 C dX9_walker_10 (by decide) h (fun h => ?_) (fun h => ?_)
  · refine g_bipush C dX9_walker_22 (by decide) ?_
    cases h
    exact hret 24 _ dX9_walker_24
  · refine g_aload_n 0 C dX9_walker_13 rfl rfl ?_
    refine g_get C fg_X9_40 0 rfl rfl dX9_walker_14 ?_
    refine g_iload_n 1 C dX9_walker_17 rfl rfl ?_
    obtain ⟨hc3, h⟩ := chk_some h
    refine g_iald C 2 rfl hc3 rfl dX9_walker_18 ?_
    refine g_goto (tgt := 24) C dX9_walker_19 (by decide) ?_
    cases h
    exact hret 24 _ dX9_walker_24
end S_X9_walker
set_option maxRecDepth 100000 in
set_option maxHeartbeats 4000000 in
theorem c_X9_walker (l : Launch) (D : va_G) (cy : Nat → ClassId) (ad : AD) (a_t a_t_has a_t_pace : Nat) (g_t_1 : Value) (g_t_2 : Value) (g_t_3 : Value) (g_t_4 : Value) (g_t_5 : Value) (g_t_6 : Value) (g_t_7 : Value) (g_t_8 : Value) (g_t_9 : Value) (g_t_10 : Value) (g_t_11 : Value) (g_t_12 : Value) (g_t_13 : Value) (g_t_14 : Value) (g_t_15 : Value) (g_t_16 : Value) (g_t_18 : Value) (g_t_20 : Value) (g_t_21 : Value) (g_t_22 : Value) (g_t_23 : Value) (g_t_24 : Value) (g_t_25 : Value) (g_t_26 : Value) (g_t_27 : Value) (g_t_28 : Value) (g_t_29 : Value) (g_t_30 : Value) (g_t_31 : Value) (g_t_32 : Value) (g_t_33 : Value) (g_t_34 : Value) (g_t_35 : Value) (g_t_36 : Value) (g_t_37 : Value) (g_t_38 : Value) (g_t_39 : Value) (g_t_40 : Value) (g_t_41 : Value) (g_t_42 : Value) (g_t_43 : Value) (x1 : Int) (c_thrown : Int) (c_has : Int → Int) (c_pace : Int → Int) (F : Nat) {v : Int × Int} (h : m_X9_walker F x1 c_has c_pace = some v) : Ct l yX9_walker cX9_walker 2 (some .int) { frames := 2, cells := 0, slots := 0, locals := 46 } D cy ad [.ref a_t, .int (wI x1)] (W_X9_walker cy a_t a_t_has a_t_pace g_t_1 g_t_2 g_t_3 g_t_4 g_t_5 g_t_6 g_t_7 g_t_8 g_t_9 g_t_10 g_t_11 g_t_12 g_t_13 g_t_14 g_t_15 g_t_16 g_t_18 g_t_20 g_t_21 g_t_22 g_t_23 g_t_24 g_t_25 g_t_26 g_t_27 g_t_28 g_t_29 g_t_30 g_t_31 g_t_32 g_t_33 g_t_34 g_t_35 g_t_36 g_t_37 g_t_38 g_t_39 g_t_40 g_t_41 g_t_42 g_t_43 c_thrown c_has c_pace) (W_X9_walker cy a_t a_t_has a_t_pace g_t_1 g_t_2 g_t_3 g_t_4 g_t_5 g_t_6 g_t_7 g_t_8 g_t_9 g_t_10 g_t_11 g_t_12 g_t_13 g_t_14 g_t_15 g_t_16 g_t_18 g_t_20 g_t_21 g_t_22 g_t_23 g_t_24 g_t_25 g_t_26 g_t_27 g_t_28 g_t_29 g_t_30 g_t_31 g_t_32 g_t_33 g_t_34 g_t_35 g_t_36 g_t_37 g_t_38 g_t_39 g_t_40 g_t_41 g_t_42 g_t_43 (v.2) c_has c_pace) (some (.int (wI (v.1)))) := by
  refine Ct.introI (j := 0) (plainFor_of_name (by decide)) rfl rfl (fun E C e1 e2 e3 e4 e5 hret => ?_)
  subst e1; subst e2; subst e3; subst e4
  exact wm_X9_walker C e5 h hret
-- MovingStairModel.common(JJ)J
def W_X9_common (cy : Nat → ClassId) : va_W := []
def mz_X9_common (F : Nat) (self : Int × Int → Option (Int)) (x0 : Int) (x2 : Int) : Option (Int) :=
  if wJ x2 = wJ 0 then
    (if wJ 0 ≤ wJ x0 then
    (some x0)
  else
    (some (-x0)))
  else
    (chk (dv64 x0 x2) <| bnd1 (self (x2, x0.tmod x2)) fun r2 => some r2)
def m_X9_common_at (F d : Nat) (x0 : Int) (x2 : Int) : Option (Int) :=
  loopN (fun self q => mz_X9_common F self q.1 q.2) d (x0, x2)
def m_X9_common (F : Nat) (x0 : Int) (x2 : Int) : Option (Int) := m_X9_common_at F 200 x0 x2
def rm_X9_common (d : Nat) : Room := { frames := 0 + d, cells := 0, slots := 0, locals := 0 + 23 * d }
theorem rm_step_X9_common (d : Nat) : roomOK (rm_X9_common d) (rm_X9_common (d + 1)) 4 0 0 = true := by
  unfold roomOK rm_X9_common
  simp only []
  rw [Nat.ble_eq.mpr (show 0 + d + 1 ≤ 0 + (d + 1) by omega), Nat.ble_eq.mpr (show 8 + (4 + 11) + (0 + 23 * d) ≤ 0 + 23 * (d + 1) by omega)]
  rfl
section S_X9_common
variable {E : EE}
set_option maxRecDepth 100000 in
set_option maxHeartbeats 4000000 in
theorem wm_X9_common {d : Nat} {self : Int × Int → Option (Int)} {F : Nat} {v : Int} {x0 : Int} {x2 : Int} (C : Cx E cX9_common RX9 (rm_X9_common (d + 1))) (hN : eN E = 4) (h : mz_X9_common F self x0 x2 = some v) (hself : ∀ (w_x0 : Int) (w_x2 : Int) (w : Int), self (w_x0, w_x2) = some w → Ct (eL E) yX9_common cX9_common 4 (some .long) (rm_X9_common d) (eD E) (eCy E) (eAd E) [.long (wJ w_x0), .long (wJ w_x2)] (W_X9_common (eCy E)) (W_X9_common (eCy E)) (some (.long (wJ w)))) (hret : ∀ (pc : Nat) (L : List (Option Value)), decode cX9_common pc = .ok (.lreturn, 1) → GG E 0 0 (W_X9_common (eCy E)) L pc [.long (wJ v)]) : GG E 0 0 (W_X9_common (eCy E)) [some (.long (wJ x0)), none, some (.long (wJ x2)), none] 0 [] := by
  unfold mz_X9_common at h
  refine g_lload_n 2 C dX9_common_0 rfl rfl ?_
  refine g_lconst (x := 0) C dX9_common_1 (by decide) ?_
  refine g_lcmp_ne 21 C dX9_common_2 dX9_common_3 (by decide) h (fun h => ?_) (fun h => ?_)
  · refine g_lload_n 2 C dX9_common_21 rfl rfl ?_
    refine g_lload_n 0 C dX9_common_22 rfl rfl ?_
    refine g_lload_n 2 C dX9_common_23 rfl rfl ?_
    obtain ⟨hc1, h⟩ := chk_some h
    refine g_lrem C dX9_common_24 hc1 ?_
    obtain ⟨r2, hr3, h⟩ := bnd1_some h
    refine g_callSJ [] [] [] C mt_X9_239 (hself _ _ _ hr3) rfl rfl (ws2 := (W_X9_common (eCy E))) rfl rfl rfl (rest := []) rfl rfl (rm_step_X9_common d) dX9_common_25 ?_
    cases h
    exact hret 28 _ dX9_common_28
  · refine g_lload_n 0 C dX9_common_6 rfl rfl ?_
    refine g_lconst (x := 0) C dX9_common_7 (by decide) ?_
    refine g_lcmp_ge 17 C dX9_common_8 dX9_common_9 (by decide) h (fun h => ?_) (fun h => ?_)
    · refine g_lload_n 0 C dX9_common_17 rfl rfl ?_
      refine g_goto (tgt := 28) C dX9_common_18 (by decide) ?_
      cases h
      exact hret 28 _ dX9_common_28
    · refine g_lload_n 0 C dX9_common_12 rfl rfl ?_
      refine g_lneg C dX9_common_13 ?_
      refine g_goto (tgt := 28) C dX9_common_14 (by decide) ?_
      cases h
      exact hret 28 _ dX9_common_28
end S_X9_common
set_option maxRecDepth 100000 in
set_option maxHeartbeats 4000000 in
theorem cr_X9_common (l : Launch) (D : va_G) (cy : Nat → ClassId) (ad : AD) (F : Nat) : ∀ (d : Nat) (x0 : Int) (x2 : Int) (v : Int), loopN (fun self q => mz_X9_common F self q.1 q.2) d (x0, x2) = some v → Ct l yX9_common cX9_common 4 (some .long) (rm_X9_common d) D cy ad [.long (wJ x0), .long (wJ x2)] (W_X9_common cy) (W_X9_common cy) (some (.long (wJ v))) := by
  intro d
  induction d with
  | zero =>
    intro x0 x2 v h
    cases h
  | succ d ih =>
    intro x0 x2 v h
    refine Ct.introJ (j := 0) (plainFor_of_name (by decide)) rfl rfl (fun E C e1 e2 e3 e4 e5 hret => ?_)
    subst e1; subst e2; subst e3; subst e4
    have h : mz_X9_common F (loopN (fun self q => mz_X9_common F self q.1 q.2) d) x0 x2 = some v := h
    exact wm_X9_common C e5 h ih hret
theorem c_X9_common (l : Launch) (D : va_G) (cy : Nat → ClassId) (ad : AD) (x0 : Int) (x2 : Int) (F : Nat) {v : Int} (h : m_X9_common F x0 x2 = some v) : Ct l yX9_common cX9_common 4 (some .long) (rm_X9_common 200) D cy ad [.long (wJ x0), .long (wJ x2)] (W_X9_common cy) (W_X9_common cy) (some (.long (wJ v))) := cr_X9_common l D cy ad F 200 x0 x2 v h
-- MovingStairModel.adds(JJ)V
def W_X9_adds (cy : Nat → ClassId) (a_t : Nat) (g_t_0 : Value) (g_t_1 : Value) (g_t_2 : Value) (g_t_3 : Value) (g_t_4 : Value) (g_t_5 : Value) (g_t_6 : Value) (g_t_7 : Value) (g_t_8 : Value) (g_t_9 : Value) (g_t_10 : Value) (g_t_11 : Value) (g_t_12 : Value) (g_t_13 : Value) (g_t_14 : Value) (g_t_15 : Value) (g_t_16 : Value) (g_t_17 : Value) (g_t_18 : Value) (g_t_19 : Value) (g_t_20 : Value) (g_t_21 : Value) (g_t_22 : Value) (g_t_23 : Value) (g_t_26 : Value) (g_t_27 : Value) (g_t_28 : Value) (g_t_29 : Value) (g_t_30 : Value) (g_t_31 : Value) (g_t_32 : Value) (g_t_33 : Value) (g_t_34 : Value) (g_t_35 : Value) (g_t_36 : Value) (g_t_37 : Value) (g_t_38 : Value) (g_t_39 : Value) (g_t_40 : Value) (g_t_41 : Value) (g_t_42 : Value) (g_t_43 : Value) (c_above : Int) (c_below : Int) : va_W := [(a_t, .inr (9, [g_t_0, g_t_1, g_t_2, g_t_3, g_t_4, g_t_5, g_t_6, g_t_7, g_t_8, g_t_9, g_t_10, g_t_11, g_t_12, g_t_13, g_t_14, g_t_15, g_t_16, g_t_17, g_t_18, g_t_19, g_t_20, g_t_21, g_t_22, g_t_23, .long (wJ c_above), .long (wJ c_below), g_t_26, g_t_27, g_t_28, g_t_29, g_t_30, g_t_31, g_t_32, g_t_33, g_t_34, g_t_35, g_t_36, g_t_37, g_t_38, g_t_39, g_t_40, g_t_41, g_t_42, g_t_43]))]
def m_X9_adds (F : Nat) (x1 : Int) (x3 : Int) (c_above : Int) (c_below : Int) : Option (Int × Int) :=
  bnd1 (m_X9_common F c_below x3) fun r1 => chk (dv64 x3 r1) <| chk (dv64 c_below r1) <| nam ((c_above * (x3.tdiv r1)) + (x1 * (c_below.tdiv r1))) fun y5 => chk (dv64 c_below r1) <| nam ((c_below.tdiv r1) * x3) fun y7 => bnd1 (m_X9_common F y5 y7) fun r8 => if wJ r8 ≤ wJ 1 then
    (some (y5, y7))
  else
    (chk (dv64 y5 r8) <| nam (y5.tdiv r8) fun y11 => chk (dv64 y7 r8) <| nam (y7.tdiv r8) fun y13 => some (y11, y13))
section S_X9_adds
variable {E : EE} {a_t : Nat} {g_t_0 : Value} {g_t_1 : Value} {g_t_2 : Value} {g_t_3 : Value} {g_t_4 : Value} {g_t_5 : Value} {g_t_6 : Value} {g_t_7 : Value} {g_t_8 : Value} {g_t_9 : Value} {g_t_10 : Value} {g_t_11 : Value} {g_t_12 : Value} {g_t_13 : Value} {g_t_14 : Value} {g_t_15 : Value} {g_t_16 : Value} {g_t_17 : Value} {g_t_18 : Value} {g_t_19 : Value} {g_t_20 : Value} {g_t_21 : Value} {g_t_22 : Value} {g_t_23 : Value} {g_t_26 : Value} {g_t_27 : Value} {g_t_28 : Value} {g_t_29 : Value} {g_t_30 : Value} {g_t_31 : Value} {g_t_32 : Value} {g_t_33 : Value} {g_t_34 : Value} {g_t_35 : Value} {g_t_36 : Value} {g_t_37 : Value} {g_t_38 : Value} {g_t_39 : Value} {g_t_40 : Value} {g_t_41 : Value} {g_t_42 : Value} {g_t_43 : Value}
set_option maxRecDepth 100000 in
set_option maxHeartbeats 4000000 in
theorem wm_X9_adds {F : Nat} {v : Int × Int} {x1 : Int} {x3 : Int} {c_above : Int} {c_below : Int} (C : Cx E cX9_adds RX9 { frames := 201, cells := 0, slots := 0, locals := 4623 }) (hN : eN E = 7) (h : m_X9_adds F x1 x3 c_above c_below = some v) (hret : ∀ (pc : Nat) (L : List (Option Value)), decode cX9_adds pc = .ok (.return_, 1) → GG E 0 0 (W_X9_adds (eCy E) a_t g_t_0 g_t_1 g_t_2 g_t_3 g_t_4 g_t_5 g_t_6 g_t_7 g_t_8 g_t_9 g_t_10 g_t_11 g_t_12 g_t_13 g_t_14 g_t_15 g_t_16 g_t_17 g_t_18 g_t_19 g_t_20 g_t_21 g_t_22 g_t_23 g_t_26 g_t_27 g_t_28 g_t_29 g_t_30 g_t_31 g_t_32 g_t_33 g_t_34 g_t_35 g_t_36 g_t_37 g_t_38 g_t_39 g_t_40 g_t_41 g_t_42 g_t_43 (v.1) (v.2)) L pc []) : GG E 0 0 (W_X9_adds (eCy E) a_t g_t_0 g_t_1 g_t_2 g_t_3 g_t_4 g_t_5 g_t_6 g_t_7 g_t_8 g_t_9 g_t_10 g_t_11 g_t_12 g_t_13 g_t_14 g_t_15 g_t_16 g_t_17 g_t_18 g_t_19 g_t_20 g_t_21 g_t_22 g_t_23 g_t_26 g_t_27 g_t_28 g_t_29 g_t_30 g_t_31 g_t_32 g_t_33 g_t_34 g_t_35 g_t_36 g_t_37 g_t_38 g_t_39 g_t_40 g_t_41 g_t_42 g_t_43 c_above c_below) [some (.ref a_t), some (.long (wJ x1)), none, some (.long (wJ x3)), none, none, none] 0 [] := by
  unfold m_X9_adds at h
  refine g_aload_n 0 C dX9_adds_0 rfl rfl ?_
  refine g_get C fg_X9_243 0 rfl rfl dX9_adds_1 ?_
  refine g_st (st' := [.long (wJ c_below)]) rfl ?_
  refine g_lload_n 3 C dX9_adds_4 rfl rfl ?_
  obtain ⟨r1, hr2, h⟩ := bnd1_some h
  refine g_callSJ [] [0] [0] C mt_X9_239 (c_X9_common _ _ _ _ c_below x3 F hr2) rfl rfl (ws2 := (W_X9_adds (eCy E) a_t g_t_0 g_t_1 g_t_2 g_t_3 g_t_4 g_t_5 g_t_6 g_t_7 g_t_8 g_t_9 g_t_10 g_t_11 g_t_12 g_t_13 g_t_14 g_t_15 g_t_16 g_t_17 g_t_18 g_t_19 g_t_20 g_t_21 g_t_22 g_t_23 g_t_26 g_t_27 g_t_28 g_t_29 g_t_30 g_t_31 g_t_32 g_t_33 g_t_34 g_t_35 g_t_36 g_t_37 g_t_38 g_t_39 g_t_40 g_t_41 g_t_42 g_t_43 c_above c_below)) rfl rfl rfl (rest := []) rfl rfl rfl dX9_adds_5 ?_
  refine g_lstore C hN dX9_adds_8 rfl (L' := [some (.ref a_t), some (.long (wJ x1)), none, some (.long (wJ x3)), none, some (.long (wJ r1)), none]) rfl ?_
  refine g_aload_n 0 C dX9_adds_10 rfl rfl ?_
  refine g_aload_n 0 C dX9_adds_11 rfl rfl ?_
  refine g_get C fg_X9_246 0 rfl rfl dX9_adds_12 ?_
  refine g_st (st' := [.long (wJ c_above), .ref a_t]) rfl ?_
  refine g_lload_n 3 C dX9_adds_15 rfl rfl ?_
  refine g_lload C dX9_adds_16 rfl ?_
  obtain ⟨hc3, h⟩ := chk_some h
  refine g_ldiv C dX9_adds_18 hc3 ?_
  refine g_lmul C dX9_adds_19 ?_
  refine g_lload_n 1 C dX9_adds_20 rfl rfl ?_
  refine g_aload_n 0 C dX9_adds_21 rfl rfl ?_
  refine g_get C fg_X9_243 0 rfl rfl dX9_adds_22 ?_
  refine g_st (st' := [.long (wJ c_below), .long (wJ x1), .long (wJ (c_above * (x3.tdiv r1))), .ref a_t]) rfl ?_
  refine g_lload C dX9_adds_25 rfl ?_
  obtain ⟨hc4, h⟩ := chk_some h
  refine g_ldiv C dX9_adds_27 hc4 ?_
  refine g_lmul C dX9_adds_28 ?_
  refine g_ladd C dX9_adds_29 ?_
  obtain ⟨y5, e_y5, h⟩ := nam_some h
  refine g_topJ e_y5 ?_
  refine g_putJ C fp_X9_246 0 rfl rfl (ws' := (W_X9_adds (eCy E) a_t g_t_0 g_t_1 g_t_2 g_t_3 g_t_4 g_t_5 g_t_6 g_t_7 g_t_8 g_t_9 g_t_10 g_t_11 g_t_12 g_t_13 g_t_14 g_t_15 g_t_16 g_t_17 g_t_18 g_t_19 g_t_20 g_t_21 g_t_22 g_t_23 g_t_26 g_t_27 g_t_28 g_t_29 g_t_30 g_t_31 g_t_32 g_t_33 g_t_34 g_t_35 g_t_36 g_t_37 g_t_38 g_t_39 g_t_40 g_t_41 g_t_42 g_t_43 y5 c_below)) rfl dX9_adds_30 ?_
  refine g_aload_n 0 C dX9_adds_33 rfl rfl ?_
  refine g_aload_n 0 C dX9_adds_34 rfl rfl ?_
  refine g_get C fg_X9_243 0 rfl rfl dX9_adds_35 ?_
  refine g_st (st' := [.long (wJ c_below), .ref a_t]) rfl ?_
  refine g_lload C dX9_adds_38 rfl ?_
  obtain ⟨hc6, h⟩ := chk_some h
  refine g_ldiv C dX9_adds_40 hc6 ?_
  refine g_lload_n 3 C dX9_adds_41 rfl rfl ?_
  refine g_lmul C dX9_adds_42 ?_
  obtain ⟨y7, e_y7, h⟩ := nam_some h
  refine g_topJ e_y7 ?_
  refine g_putJ C fp_X9_243 0 rfl rfl (ws' := (W_X9_adds (eCy E) a_t g_t_0 g_t_1 g_t_2 g_t_3 g_t_4 g_t_5 g_t_6 g_t_7 g_t_8 g_t_9 g_t_10 g_t_11 g_t_12 g_t_13 g_t_14 g_t_15 g_t_16 g_t_17 g_t_18 g_t_19 g_t_20 g_t_21 g_t_22 g_t_23 g_t_26 g_t_27 g_t_28 g_t_29 g_t_30 g_t_31 g_t_32 g_t_33 g_t_34 g_t_35 g_t_36 g_t_37 g_t_38 g_t_39 g_t_40 g_t_41 g_t_42 g_t_43 y5 y7)) rfl dX9_adds_43 ?_
  refine g_aload_n 0 C dX9_adds_46 rfl rfl ?_
  refine g_get C fg_X9_246 0 rfl rfl dX9_adds_47 ?_
  refine g_st (st' := [.long (wJ y5)]) rfl ?_
  refine g_aload_n 0 C dX9_adds_50 rfl rfl ?_
  refine g_get C fg_X9_243 0 rfl rfl dX9_adds_51 ?_
  refine g_st (st' := [.long (wJ y7), .long (wJ y5)]) rfl ?_
  obtain ⟨r8, hr9, h⟩ := bnd1_some h
  refine g_callSJ [] [0] [0] C mt_X9_239 (c_X9_common _ _ _ _ y5 y7 F hr9) rfl rfl (ws2 := (W_X9_adds (eCy E) a_t g_t_0 g_t_1 g_t_2 g_t_3 g_t_4 g_t_5 g_t_6 g_t_7 g_t_8 g_t_9 g_t_10 g_t_11 g_t_12 g_t_13 g_t_14 g_t_15 g_t_16 g_t_17 g_t_18 g_t_19 g_t_20 g_t_21 g_t_22 g_t_23 g_t_26 g_t_27 g_t_28 g_t_29 g_t_30 g_t_31 g_t_32 g_t_33 g_t_34 g_t_35 g_t_36 g_t_37 g_t_38 g_t_39 g_t_40 g_t_41 g_t_42 g_t_43 y5 y7)) rfl rfl rfl (rest := []) rfl rfl rfl dX9_adds_54 ?_
  refine g_lstore C hN dX9_adds_57 rfl (L' := [some (.ref a_t), some (.long (wJ x1)), none, some (.long (wJ x3)), none, some (.long (wJ r8)), none]) rfl ?_
  refine g_lload C dX9_adds_59 rfl ?_
  refine g_lconst (x := 1) C dX9_adds_61 (by decide) ?_
  refine g_lcmp_le 88 C dX9_adds_62 dX9_adds_63 (by decide) h (fun h => ?_) (fun h => ?_)
  · cases h
    exact hret 88 _ dX9_adds_88
  · refine g_aload_n 0 C dX9_adds_66 rfl rfl ?_
    refine g_dup C dX9_adds_67 rfl ?_
    refine g_get C fg_X9_246 0 rfl rfl dX9_adds_68 ?_
    refine g_st (st' := [.long (wJ y5), .ref a_t]) rfl ?_
    refine g_lload C dX9_adds_71 rfl ?_
    obtain ⟨hc10, h⟩ := chk_some h
    refine g_ldiv C dX9_adds_73 hc10 ?_
    obtain ⟨y11, e_y11, h⟩ := nam_some h
    refine g_topJ e_y11 ?_
    refine g_putJ C fp_X9_246 0 rfl rfl (ws' := (W_X9_adds (eCy E) a_t g_t_0 g_t_1 g_t_2 g_t_3 g_t_4 g_t_5 g_t_6 g_t_7 g_t_8 g_t_9 g_t_10 g_t_11 g_t_12 g_t_13 g_t_14 g_t_15 g_t_16 g_t_17 g_t_18 g_t_19 g_t_20 g_t_21 g_t_22 g_t_23 g_t_26 g_t_27 g_t_28 g_t_29 g_t_30 g_t_31 g_t_32 g_t_33 g_t_34 g_t_35 g_t_36 g_t_37 g_t_38 g_t_39 g_t_40 g_t_41 g_t_42 g_t_43 y11 y7)) rfl dX9_adds_74 ?_
    refine g_aload_n 0 C dX9_adds_77 rfl rfl ?_
    refine g_dup C dX9_adds_78 rfl ?_
    refine g_get C fg_X9_243 0 rfl rfl dX9_adds_79 ?_
    refine g_st (st' := [.long (wJ y7), .ref a_t]) rfl ?_
    refine g_lload C dX9_adds_82 rfl ?_
    obtain ⟨hc12, h⟩ := chk_some h
    refine g_ldiv C dX9_adds_84 hc12 ?_
    obtain ⟨y13, e_y13, h⟩ := nam_some h
    refine g_topJ e_y13 ?_
    refine g_putJ C fp_X9_243 0 rfl rfl (ws' := (W_X9_adds (eCy E) a_t g_t_0 g_t_1 g_t_2 g_t_3 g_t_4 g_t_5 g_t_6 g_t_7 g_t_8 g_t_9 g_t_10 g_t_11 g_t_12 g_t_13 g_t_14 g_t_15 g_t_16 g_t_17 g_t_18 g_t_19 g_t_20 g_t_21 g_t_22 g_t_23 g_t_26 g_t_27 g_t_28 g_t_29 g_t_30 g_t_31 g_t_32 g_t_33 g_t_34 g_t_35 g_t_36 g_t_37 g_t_38 g_t_39 g_t_40 g_t_41 g_t_42 g_t_43 y11 y13)) rfl dX9_adds_85 ?_
    cases h
    exact hret 88 _ dX9_adds_88
end S_X9_adds
set_option maxRecDepth 100000 in
set_option maxHeartbeats 4000000 in
theorem c_X9_adds (l : Launch) (D : va_G) (cy : Nat → ClassId) (ad : AD) (a_t : Nat) (g_t_0 : Value) (g_t_1 : Value) (g_t_2 : Value) (g_t_3 : Value) (g_t_4 : Value) (g_t_5 : Value) (g_t_6 : Value) (g_t_7 : Value) (g_t_8 : Value) (g_t_9 : Value) (g_t_10 : Value) (g_t_11 : Value) (g_t_12 : Value) (g_t_13 : Value) (g_t_14 : Value) (g_t_15 : Value) (g_t_16 : Value) (g_t_17 : Value) (g_t_18 : Value) (g_t_19 : Value) (g_t_20 : Value) (g_t_21 : Value) (g_t_22 : Value) (g_t_23 : Value) (g_t_26 : Value) (g_t_27 : Value) (g_t_28 : Value) (g_t_29 : Value) (g_t_30 : Value) (g_t_31 : Value) (g_t_32 : Value) (g_t_33 : Value) (g_t_34 : Value) (g_t_35 : Value) (g_t_36 : Value) (g_t_37 : Value) (g_t_38 : Value) (g_t_39 : Value) (g_t_40 : Value) (g_t_41 : Value) (g_t_42 : Value) (g_t_43 : Value) (x1 : Int) (x3 : Int) (c_above : Int) (c_below : Int) (F : Nat) {v : Int × Int} (h : m_X9_adds F x1 x3 c_above c_below = some v) : Ct l yX9_adds cX9_adds 7 none { frames := 201, cells := 0, slots := 0, locals := 4623 } D cy ad [.ref a_t, .long (wJ x1), .long (wJ x3)] (W_X9_adds cy a_t g_t_0 g_t_1 g_t_2 g_t_3 g_t_4 g_t_5 g_t_6 g_t_7 g_t_8 g_t_9 g_t_10 g_t_11 g_t_12 g_t_13 g_t_14 g_t_15 g_t_16 g_t_17 g_t_18 g_t_19 g_t_20 g_t_21 g_t_22 g_t_23 g_t_26 g_t_27 g_t_28 g_t_29 g_t_30 g_t_31 g_t_32 g_t_33 g_t_34 g_t_35 g_t_36 g_t_37 g_t_38 g_t_39 g_t_40 g_t_41 g_t_42 g_t_43 c_above c_below) (W_X9_adds cy a_t g_t_0 g_t_1 g_t_2 g_t_3 g_t_4 g_t_5 g_t_6 g_t_7 g_t_8 g_t_9 g_t_10 g_t_11 g_t_12 g_t_13 g_t_14 g_t_15 g_t_16 g_t_17 g_t_18 g_t_19 g_t_20 g_t_21 g_t_22 g_t_23 g_t_26 g_t_27 g_t_28 g_t_29 g_t_30 g_t_31 g_t_32 g_t_33 g_t_34 g_t_35 g_t_36 g_t_37 g_t_38 g_t_39 g_t_40 g_t_41 g_t_42 g_t_43 (v.1) (v.2)) none := by
  refine Ct.introV (j := 2) (plainFor_of_name (by decide)) rfl rfl (fun E C e1 e2 e3 e4 e5 hret => ?_)
  subst e1; subst e2; subst e3; subst e4
  exact wm_X9_adds C e5 h hret
-- MovingStairModel.zero()V
def W_X9_zero (cy : Nat → ClassId) (a_t : Nat) (g_t_0 : Value) (g_t_1 : Value) (g_t_2 : Value) (g_t_3 : Value) (g_t_4 : Value) (g_t_5 : Value) (g_t_6 : Value) (g_t_7 : Value) (g_t_8 : Value) (g_t_9 : Value) (g_t_10 : Value) (g_t_11 : Value) (g_t_12 : Value) (g_t_13 : Value) (g_t_14 : Value) (g_t_15 : Value) (g_t_16 : Value) (g_t_17 : Value) (g_t_18 : Value) (g_t_19 : Value) (g_t_20 : Value) (g_t_21 : Value) (g_t_22 : Value) (g_t_23 : Value) (g_t_26 : Value) (g_t_27 : Value) (g_t_28 : Value) (g_t_29 : Value) (g_t_30 : Value) (g_t_31 : Value) (g_t_32 : Value) (g_t_33 : Value) (g_t_34 : Value) (g_t_35 : Value) (g_t_36 : Value) (g_t_37 : Value) (g_t_38 : Value) (g_t_39 : Value) (g_t_40 : Value) (g_t_41 : Value) (g_t_42 : Value) (g_t_43 : Value) (c_above : Int) (c_below : Int) : va_W := [(a_t, .inr (9, [g_t_0, g_t_1, g_t_2, g_t_3, g_t_4, g_t_5, g_t_6, g_t_7, g_t_8, g_t_9, g_t_10, g_t_11, g_t_12, g_t_13, g_t_14, g_t_15, g_t_16, g_t_17, g_t_18, g_t_19, g_t_20, g_t_21, g_t_22, g_t_23, .long (wJ c_above), .long (wJ c_below), g_t_26, g_t_27, g_t_28, g_t_29, g_t_30, g_t_31, g_t_32, g_t_33, g_t_34, g_t_35, g_t_36, g_t_37, g_t_38, g_t_39, g_t_40, g_t_41, g_t_42, g_t_43]))]
def m_X9_zero (F : Nat) : Option (Int × Int) :=
  some (0, 1)
section S_X9_zero
variable {E : EE} {a_t : Nat} {g_t_0 : Value} {g_t_1 : Value} {g_t_2 : Value} {g_t_3 : Value} {g_t_4 : Value} {g_t_5 : Value} {g_t_6 : Value} {g_t_7 : Value} {g_t_8 : Value} {g_t_9 : Value} {g_t_10 : Value} {g_t_11 : Value} {g_t_12 : Value} {g_t_13 : Value} {g_t_14 : Value} {g_t_15 : Value} {g_t_16 : Value} {g_t_17 : Value} {g_t_18 : Value} {g_t_19 : Value} {g_t_20 : Value} {g_t_21 : Value} {g_t_22 : Value} {g_t_23 : Value} {g_t_26 : Value} {g_t_27 : Value} {g_t_28 : Value} {g_t_29 : Value} {g_t_30 : Value} {g_t_31 : Value} {g_t_32 : Value} {g_t_33 : Value} {g_t_34 : Value} {g_t_35 : Value} {g_t_36 : Value} {g_t_37 : Value} {g_t_38 : Value} {g_t_39 : Value} {g_t_40 : Value} {g_t_41 : Value} {g_t_42 : Value} {g_t_43 : Value}
set_option maxRecDepth 100000 in
set_option maxHeartbeats 4000000 in
theorem wm_X9_zero {F : Nat} {v : Int × Int} {c_above : Int} {c_below : Int} (C : Cx E cX9_zero RX9 { frames := 0, cells := 0, slots := 0, locals := 0 }) (hN : eN E = 1) (h : m_X9_zero F = some v) (hret : ∀ (pc : Nat) (L : List (Option Value)), decode cX9_zero pc = .ok (.return_, 1) → GG E 0 0 (W_X9_zero (eCy E) a_t g_t_0 g_t_1 g_t_2 g_t_3 g_t_4 g_t_5 g_t_6 g_t_7 g_t_8 g_t_9 g_t_10 g_t_11 g_t_12 g_t_13 g_t_14 g_t_15 g_t_16 g_t_17 g_t_18 g_t_19 g_t_20 g_t_21 g_t_22 g_t_23 g_t_26 g_t_27 g_t_28 g_t_29 g_t_30 g_t_31 g_t_32 g_t_33 g_t_34 g_t_35 g_t_36 g_t_37 g_t_38 g_t_39 g_t_40 g_t_41 g_t_42 g_t_43 (v.1) (v.2)) L pc []) : GG E 0 0 (W_X9_zero (eCy E) a_t g_t_0 g_t_1 g_t_2 g_t_3 g_t_4 g_t_5 g_t_6 g_t_7 g_t_8 g_t_9 g_t_10 g_t_11 g_t_12 g_t_13 g_t_14 g_t_15 g_t_16 g_t_17 g_t_18 g_t_19 g_t_20 g_t_21 g_t_22 g_t_23 g_t_26 g_t_27 g_t_28 g_t_29 g_t_30 g_t_31 g_t_32 g_t_33 g_t_34 g_t_35 g_t_36 g_t_37 g_t_38 g_t_39 g_t_40 g_t_41 g_t_42 g_t_43 c_above c_below) [some (.ref a_t)] 0 [] := by
  unfold m_X9_zero at h
  refine g_aload_n 0 C dX9_zero_0 rfl rfl ?_
  refine g_lconst (x := 0) C dX9_zero_1 (by decide) ?_
  refine g_putJ C fp_X9_246 0 rfl rfl (ws' := (W_X9_zero (eCy E) a_t g_t_0 g_t_1 g_t_2 g_t_3 g_t_4 g_t_5 g_t_6 g_t_7 g_t_8 g_t_9 g_t_10 g_t_11 g_t_12 g_t_13 g_t_14 g_t_15 g_t_16 g_t_17 g_t_18 g_t_19 g_t_20 g_t_21 g_t_22 g_t_23 g_t_26 g_t_27 g_t_28 g_t_29 g_t_30 g_t_31 g_t_32 g_t_33 g_t_34 g_t_35 g_t_36 g_t_37 g_t_38 g_t_39 g_t_40 g_t_41 g_t_42 g_t_43 0 c_below)) rfl dX9_zero_2 ?_
  refine g_aload_n 0 C dX9_zero_5 rfl rfl ?_
  refine g_lconst (x := 1) C dX9_zero_6 (by decide) ?_
  refine g_putJ C fp_X9_243 0 rfl rfl (ws' := (W_X9_zero (eCy E) a_t g_t_0 g_t_1 g_t_2 g_t_3 g_t_4 g_t_5 g_t_6 g_t_7 g_t_8 g_t_9 g_t_10 g_t_11 g_t_12 g_t_13 g_t_14 g_t_15 g_t_16 g_t_17 g_t_18 g_t_19 g_t_20 g_t_21 g_t_22 g_t_23 g_t_26 g_t_27 g_t_28 g_t_29 g_t_30 g_t_31 g_t_32 g_t_33 g_t_34 g_t_35 g_t_36 g_t_37 g_t_38 g_t_39 g_t_40 g_t_41 g_t_42 g_t_43 0 1)) rfl dX9_zero_7 ?_
  cases h
  exact hret 10 _ dX9_zero_10
end S_X9_zero
set_option maxRecDepth 100000 in
set_option maxHeartbeats 4000000 in
theorem c_X9_zero (l : Launch) (D : va_G) (cy : Nat → ClassId) (ad : AD) (a_t : Nat) (g_t_0 : Value) (g_t_1 : Value) (g_t_2 : Value) (g_t_3 : Value) (g_t_4 : Value) (g_t_5 : Value) (g_t_6 : Value) (g_t_7 : Value) (g_t_8 : Value) (g_t_9 : Value) (g_t_10 : Value) (g_t_11 : Value) (g_t_12 : Value) (g_t_13 : Value) (g_t_14 : Value) (g_t_15 : Value) (g_t_16 : Value) (g_t_17 : Value) (g_t_18 : Value) (g_t_19 : Value) (g_t_20 : Value) (g_t_21 : Value) (g_t_22 : Value) (g_t_23 : Value) (g_t_26 : Value) (g_t_27 : Value) (g_t_28 : Value) (g_t_29 : Value) (g_t_30 : Value) (g_t_31 : Value) (g_t_32 : Value) (g_t_33 : Value) (g_t_34 : Value) (g_t_35 : Value) (g_t_36 : Value) (g_t_37 : Value) (g_t_38 : Value) (g_t_39 : Value) (g_t_40 : Value) (g_t_41 : Value) (g_t_42 : Value) (g_t_43 : Value) (c_above : Int) (c_below : Int) (F : Nat) {v : Int × Int} (h : m_X9_zero F = some v) : Ct l yX9_zero cX9_zero 1 none { frames := 0, cells := 0, slots := 0, locals := 0 } D cy ad [.ref a_t] (W_X9_zero cy a_t g_t_0 g_t_1 g_t_2 g_t_3 g_t_4 g_t_5 g_t_6 g_t_7 g_t_8 g_t_9 g_t_10 g_t_11 g_t_12 g_t_13 g_t_14 g_t_15 g_t_16 g_t_17 g_t_18 g_t_19 g_t_20 g_t_21 g_t_22 g_t_23 g_t_26 g_t_27 g_t_28 g_t_29 g_t_30 g_t_31 g_t_32 g_t_33 g_t_34 g_t_35 g_t_36 g_t_37 g_t_38 g_t_39 g_t_40 g_t_41 g_t_42 g_t_43 c_above c_below) (W_X9_zero cy a_t g_t_0 g_t_1 g_t_2 g_t_3 g_t_4 g_t_5 g_t_6 g_t_7 g_t_8 g_t_9 g_t_10 g_t_11 g_t_12 g_t_13 g_t_14 g_t_15 g_t_16 g_t_17 g_t_18 g_t_19 g_t_20 g_t_21 g_t_22 g_t_23 g_t_26 g_t_27 g_t_28 g_t_29 g_t_30 g_t_31 g_t_32 g_t_33 g_t_34 g_t_35 g_t_36 g_t_37 g_t_38 g_t_39 g_t_40 g_t_41 g_t_42 g_t_43 (v.1) (v.2)) none := by
  refine Ct.introV (j := 0) (plainFor_of_name (by decide)) rfl rfl (fun E C e1 e2 e3 e4 e5 hret => ?_)
  subst e1; subst e2; subst e3; subst e4
  exact wm_X9_zero C e5 h hret
-- MovingStairModel.half(I)J
def W_X9_half (cy : Nat → ClassId) (a_t : Nat) (g_t_0 : Value) (g_t_1 : Value) (g_t_2 : Value) (g_t_3 : Value) (g_t_4 : Value) (g_t_5 : Value) (g_t_6 : Value) (g_t_7 : Value) (g_t_8 : Value) (g_t_9 : Value) (g_t_10 : Value) (g_t_11 : Value) (g_t_12 : Value) (g_t_13 : Value) (g_t_14 : Value) (g_t_15 : Value) (g_t_16 : Value) (g_t_17 : Value) (g_t_18 : Value) (g_t_19 : Value) (g_t_20 : Value) (g_t_21 : Value) (g_t_22 : Value) (g_t_23 : Value) (g_t_26 : Value) (g_t_27 : Value) (g_t_28 : Value) (g_t_29 : Value) (g_t_30 : Value) (g_t_31 : Value) (g_t_32 : Value) (g_t_33 : Value) (g_t_34 : Value) (g_t_35 : Value) (g_t_36 : Value) (g_t_37 : Value) (g_t_38 : Value) (g_t_39 : Value) (g_t_40 : Value) (g_t_41 : Value) (g_t_42 : Value) (g_t_43 : Value) (c_above : Int) (c_below : Int) : va_W := [(a_t, .inr (9, [g_t_0, g_t_1, g_t_2, g_t_3, g_t_4, g_t_5, g_t_6, g_t_7, g_t_8, g_t_9, g_t_10, g_t_11, g_t_12, g_t_13, g_t_14, g_t_15, g_t_16, g_t_17, g_t_18, g_t_19, g_t_20, g_t_21, g_t_22, g_t_23, .long (wJ c_above), .long (wJ c_below), g_t_26, g_t_27, g_t_28, g_t_29, g_t_30, g_t_31, g_t_32, g_t_33, g_t_34, g_t_35, g_t_36, g_t_37, g_t_38, g_t_39, g_t_40, g_t_41, g_t_42, g_t_43]))]
def m_X9_half (F : Nat) (x1 : Int) (c_above : Int) (c_below : Int) : Option (Int) :=
  if wI x1 = wI 0 then
    (some c_above)
  else
    (some c_below)
section S_X9_half
variable {E : EE} {a_t : Nat} {g_t_0 : Value} {g_t_1 : Value} {g_t_2 : Value} {g_t_3 : Value} {g_t_4 : Value} {g_t_5 : Value} {g_t_6 : Value} {g_t_7 : Value} {g_t_8 : Value} {g_t_9 : Value} {g_t_10 : Value} {g_t_11 : Value} {g_t_12 : Value} {g_t_13 : Value} {g_t_14 : Value} {g_t_15 : Value} {g_t_16 : Value} {g_t_17 : Value} {g_t_18 : Value} {g_t_19 : Value} {g_t_20 : Value} {g_t_21 : Value} {g_t_22 : Value} {g_t_23 : Value} {g_t_26 : Value} {g_t_27 : Value} {g_t_28 : Value} {g_t_29 : Value} {g_t_30 : Value} {g_t_31 : Value} {g_t_32 : Value} {g_t_33 : Value} {g_t_34 : Value} {g_t_35 : Value} {g_t_36 : Value} {g_t_37 : Value} {g_t_38 : Value} {g_t_39 : Value} {g_t_40 : Value} {g_t_41 : Value} {g_t_42 : Value} {g_t_43 : Value}
set_option maxRecDepth 100000 in
set_option maxHeartbeats 4000000 in
theorem wm_X9_half {F : Nat} {v : Int} {x1 : Int} {c_above : Int} {c_below : Int} (C : Cx E cX9_half RX9 { frames := 0, cells := 0, slots := 0, locals := 0 }) (hN : eN E = 2) (h : m_X9_half F x1 c_above c_below = some v) (hret : ∀ (pc : Nat) (L : List (Option Value)), decode cX9_half pc = .ok (.lreturn, 1) → GG E 0 0 (W_X9_half (eCy E) a_t g_t_0 g_t_1 g_t_2 g_t_3 g_t_4 g_t_5 g_t_6 g_t_7 g_t_8 g_t_9 g_t_10 g_t_11 g_t_12 g_t_13 g_t_14 g_t_15 g_t_16 g_t_17 g_t_18 g_t_19 g_t_20 g_t_21 g_t_22 g_t_23 g_t_26 g_t_27 g_t_28 g_t_29 g_t_30 g_t_31 g_t_32 g_t_33 g_t_34 g_t_35 g_t_36 g_t_37 g_t_38 g_t_39 g_t_40 g_t_41 g_t_42 g_t_43 c_above c_below) L pc [.long (wJ v)]) : GG E 0 0 (W_X9_half (eCy E) a_t g_t_0 g_t_1 g_t_2 g_t_3 g_t_4 g_t_5 g_t_6 g_t_7 g_t_8 g_t_9 g_t_10 g_t_11 g_t_12 g_t_13 g_t_14 g_t_15 g_t_16 g_t_17 g_t_18 g_t_19 g_t_20 g_t_21 g_t_22 g_t_23 g_t_26 g_t_27 g_t_28 g_t_29 g_t_30 g_t_31 g_t_32 g_t_33 g_t_34 g_t_35 g_t_36 g_t_37 g_t_38 g_t_39 g_t_40 g_t_41 g_t_42 g_t_43 c_above c_below) [some (.ref a_t), some (.int (wI x1))] 0 [] := by
  unfold m_X9_half at h
  refine g_iload_n 1 C dX9_half_0 rfl rfl ?_
  refine g_if_ne 11 C dX9_half_1 (by decide) h (fun h => ?_) (fun h => ?_)
  · refine g_aload_n 0 C dX9_half_11 rfl rfl ?_
    refine g_get C fg_X9_243 0 rfl rfl dX9_half_12 ?_
    refine g_st (st' := [.long (wJ c_below)]) rfl ?_
    cases h
    exact hret 15 _ dX9_half_15
  · refine g_aload_n 0 C dX9_half_4 rfl rfl ?_
    refine g_get C fg_X9_246 0 rfl rfl dX9_half_5 ?_
    refine g_st (st' := [.long (wJ c_above)]) rfl ?_
    refine g_goto (tgt := 15) C dX9_half_8 (by decide) ?_
    cases h
    exact hret 15 _ dX9_half_15
end S_X9_half
set_option maxRecDepth 100000 in
set_option maxHeartbeats 4000000 in
theorem c_X9_half (l : Launch) (D : va_G) (cy : Nat → ClassId) (ad : AD) (a_t : Nat) (g_t_0 : Value) (g_t_1 : Value) (g_t_2 : Value) (g_t_3 : Value) (g_t_4 : Value) (g_t_5 : Value) (g_t_6 : Value) (g_t_7 : Value) (g_t_8 : Value) (g_t_9 : Value) (g_t_10 : Value) (g_t_11 : Value) (g_t_12 : Value) (g_t_13 : Value) (g_t_14 : Value) (g_t_15 : Value) (g_t_16 : Value) (g_t_17 : Value) (g_t_18 : Value) (g_t_19 : Value) (g_t_20 : Value) (g_t_21 : Value) (g_t_22 : Value) (g_t_23 : Value) (g_t_26 : Value) (g_t_27 : Value) (g_t_28 : Value) (g_t_29 : Value) (g_t_30 : Value) (g_t_31 : Value) (g_t_32 : Value) (g_t_33 : Value) (g_t_34 : Value) (g_t_35 : Value) (g_t_36 : Value) (g_t_37 : Value) (g_t_38 : Value) (g_t_39 : Value) (g_t_40 : Value) (g_t_41 : Value) (g_t_42 : Value) (g_t_43 : Value) (x1 : Int) (c_above : Int) (c_below : Int) (F : Nat) {v : Int} (h : m_X9_half F x1 c_above c_below = some v) : Ct l yX9_half cX9_half 2 (some .long) { frames := 0, cells := 0, slots := 0, locals := 0 } D cy ad [.ref a_t, .int (wI x1)] (W_X9_half cy a_t g_t_0 g_t_1 g_t_2 g_t_3 g_t_4 g_t_5 g_t_6 g_t_7 g_t_8 g_t_9 g_t_10 g_t_11 g_t_12 g_t_13 g_t_14 g_t_15 g_t_16 g_t_17 g_t_18 g_t_19 g_t_20 g_t_21 g_t_22 g_t_23 g_t_26 g_t_27 g_t_28 g_t_29 g_t_30 g_t_31 g_t_32 g_t_33 g_t_34 g_t_35 g_t_36 g_t_37 g_t_38 g_t_39 g_t_40 g_t_41 g_t_42 g_t_43 c_above c_below) (W_X9_half cy a_t g_t_0 g_t_1 g_t_2 g_t_3 g_t_4 g_t_5 g_t_6 g_t_7 g_t_8 g_t_9 g_t_10 g_t_11 g_t_12 g_t_13 g_t_14 g_t_15 g_t_16 g_t_17 g_t_18 g_t_19 g_t_20 g_t_21 g_t_22 g_t_23 g_t_26 g_t_27 g_t_28 g_t_29 g_t_30 g_t_31 g_t_32 g_t_33 g_t_34 g_t_35 g_t_36 g_t_37 g_t_38 g_t_39 g_t_40 g_t_41 g_t_42 g_t_43 c_above c_below) (some (.long (wJ v))) := by
  refine Ct.introJ (j := 0) (plainFor_of_name (by decide)) rfl rfl (fun E C e1 e2 e3 e4 e5 hret => ?_)
  subst e1; subst e2; subst e3; subst e4
  exact wm_X9_half C e5 h hret
-- MovingStairModel.isLess(JJJJ)Z
def W_X9_isLess (cy : Nat → ClassId) : va_W := []
def mz_X9_isLess (F : Nat) (self : Int × Int × Int × Int → Option (Int)) (x0 : Int) (x2 : Int) (x4 : Int) (x6 : Int) : Option (Int) :=
  chk (dv64 x0 x2) <| nam (x0.tdiv x2) fun y2 => chk (dv64 x4 x6) <| nam (x4.tdiv x6) fun y4 => if wJ y2 = wJ y4 then
    (chk (dv64 x4 x6) <| if wJ (x4.tmod x6) = wJ 0 then
    (some 0)
  else
    (chk (dv64 x0 x2) <| if wJ (x0.tmod x2) = wJ 0 then
    (some 1)
  else
    (chk (dv64 x4 x6) <| chk (dv64 x0 x2) <| bnd1 (self (x6, x4.tmod x6, x2, x0.tmod x2)) fun r9 => if wI r9 = wI 0 then
    (some 0)
  else
    (some 1))))
  else
    (if wJ y4 ≤ wJ y2 then
    (some 0)
  else
    (some 1))
def m_X9_isLess_at (F d : Nat) (x0 : Int) (x2 : Int) (x4 : Int) (x6 : Int) : Option (Int) :=
  loopN (fun self q => mz_X9_isLess F self q.1 q.2.1 q.2.2.1 q.2.2.2) d (x0, x2, x4, x6)
def m_X9_isLess (F : Nat) (x0 : Int) (x2 : Int) (x4 : Int) (x6 : Int) : Option (Int) := m_X9_isLess_at F 200 x0 x2 x4 x6
def rm_X9_isLess (d : Nat) : Room := { frames := 0 + d, cells := 0, slots := 0, locals := 0 + 31 * d }
theorem rm_step_X9_isLess (d : Nat) : roomOK (rm_X9_isLess d) (rm_X9_isLess (d + 1)) 12 0 0 = true := by
  unfold roomOK rm_X9_isLess
  simp only []
  rw [Nat.ble_eq.mpr (show 0 + d + 1 ≤ 0 + (d + 1) by omega), Nat.ble_eq.mpr (show 8 + (12 + 11) + (0 + 31 * d) ≤ 0 + 31 * (d + 1) by omega)]
  rfl
section S_X9_isLess
variable {E : EE}
set_option maxRecDepth 100000 in
set_option maxHeartbeats 4000000 in
theorem wm_X9_isLess {d : Nat} {self : Int × Int × Int × Int → Option (Int)} {F : Nat} {v : Int} {x0 : Int} {x2 : Int} {x4 : Int} {x6 : Int} (C : Cx E cX9_isLess RX9 (rm_X9_isLess (d + 1))) (hN : eN E = 12) (h : mz_X9_isLess F self x0 x2 x4 x6 = some v) (hself : ∀ (w_x0 : Int) (w_x2 : Int) (w_x4 : Int) (w_x6 : Int) (w : Int), self (w_x0, w_x2, w_x4, w_x6) = some w → Ct (eL E) yX9_isLess cX9_isLess 12 (some .boolean) (rm_X9_isLess d) (eD E) (eCy E) (eAd E) [.long (wJ w_x0), .long (wJ w_x2), .long (wJ w_x4), .long (wJ w_x6)] (W_X9_isLess (eCy E)) (W_X9_isLess (eCy E)) (some (.int (wI w)))) (hret : ∀ (pc : Nat) (L : List (Option Value)), narrow .boolean (.int (wI v)) = .int (wI v) → decode cX9_isLess pc = .ok (.ireturn, 1) → GG E 0 0 (W_X9_isLess (eCy E)) L pc [.int (wI v)]) : GG E 0 0 (W_X9_isLess (eCy E)) [some (.long (wJ x0)), none, some (.long (wJ x2)), none, some (.long (wJ x4)), none, some (.long (wJ x6)), none, none, none, none, none] 0 [] := by
  unfold mz_X9_isLess at h
  refine g_lload_n 0 C dX9_isLess_0 rfl rfl ?_
  refine g_lload_n 2 C dX9_isLess_1 rfl rfl ?_
  obtain ⟨hc1, h⟩ := chk_some h
  refine g_ldiv C dX9_isLess_2 hc1 ?_
  obtain ⟨y2, e_y2, h⟩ := nam_some h
  refine g_topJ e_y2 ?_
  refine g_lstore C hN dX9_isLess_3 rfl (L' := [some (.long (wJ x0)), none, some (.long (wJ x2)), none, some (.long (wJ x4)), none, some (.long (wJ x6)), none, some (.long (wJ y2)), none, none, none]) rfl ?_
  refine g_lload C dX9_isLess_5 rfl ?_
  refine g_lload C dX9_isLess_7 rfl ?_
  obtain ⟨hc3, h⟩ := chk_some h
  refine g_ldiv C dX9_isLess_9 hc3 ?_
  obtain ⟨y4, e_y4, h⟩ := nam_some h
  refine g_topJ e_y4 ?_
  refine g_lstore C hN dX9_isLess_10 rfl (L' := [some (.long (wJ x0)), none, some (.long (wJ x2)), none, some (.long (wJ x4)), none, some (.long (wJ x6)), none, some (.long (wJ y2)), none, some (.long (wJ y4)), none]) rfl ?_
  refine g_lload C dX9_isLess_12 rfl ?_
  refine g_lload C dX9_isLess_14 rfl ?_
  refine g_lcmp_eq 34 C dX9_isLess_16 dX9_isLess_17 (by decide) h (fun h => ?_) (fun h => ?_)
  · refine g_lload C dX9_isLess_34 rfl ?_
    refine g_lload C dX9_isLess_36 rfl ?_
    obtain ⟨hc5, h⟩ := chk_some h
    refine g_lrem C dX9_isLess_38 hc5 ?_
    refine g_lconst (x := 0) C dX9_isLess_39 (by decide) ?_
    refine g_lcmp_ne 46 C dX9_isLess_40 dX9_isLess_41 (by decide) h (fun h => ?_) (fun h => ?_)
    · refine g_lload_n 0 C dX9_isLess_46 rfl rfl ?_
      refine g_lload_n 2 C dX9_isLess_47 rfl rfl ?_
      obtain ⟨hc6, h⟩ := chk_some h
      refine g_lrem C dX9_isLess_48 hc6 ?_
      refine g_lconst (x := 0) C dX9_isLess_49 (by decide) ?_
      refine g_lcmp_eq 71 C dX9_isLess_50 dX9_isLess_51 (by decide) h (fun h => ?_) (fun h => ?_)
      · refine g_iconst C dX9_isLess_71 ?_
        refine g_goto (tgt := 76) C dX9_isLess_72 (by decide) ?_
        cases h
        exact hret 76 _ bn1 dX9_isLess_76
      · refine g_lload C dX9_isLess_54 rfl ?_
        refine g_lload C dX9_isLess_56 rfl ?_
        refine g_lload C dX9_isLess_58 rfl ?_
        obtain ⟨hc7, h⟩ := chk_some h
        refine g_lrem C dX9_isLess_60 hc7 ?_
        refine g_lload_n 2 C dX9_isLess_61 rfl rfl ?_
        refine g_lload_n 0 C dX9_isLess_62 rfl rfl ?_
        refine g_lload_n 2 C dX9_isLess_63 rfl rfl ?_
        obtain ⟨hc8, h⟩ := chk_some h
        refine g_lrem C dX9_isLess_64 hc8 ?_
        obtain ⟨r9, hr10, h⟩ := bnd1_some h
        refine g_callSI [] [] [] C mt_X9_249 (hself _ _ _ _ _ hr10) rfl rfl (ws2 := (W_X9_isLess (eCy E))) rfl rfl rfl (rest := []) rfl rfl (rm_step_X9_isLess d) dX9_isLess_65 ?_
        refine g_if_eq 75 C dX9_isLess_68 (by decide) h (fun h => ?_) (fun h => ?_)
        · refine g_iconst C dX9_isLess_75 ?_
          cases h
          exact hret 76 _ bn0 dX9_isLess_76
        · refine g_iconst C dX9_isLess_71 ?_
          refine g_goto (tgt := 76) C dX9_isLess_72 (by decide) ?_
          cases h
          exact hret 76 _ bn1 dX9_isLess_76
    · refine g_iconst C dX9_isLess_44 ?_
      cases h
      exact hret 45 _ bn0 dX9_isLess_45
  · refine g_lload C dX9_isLess_20 rfl ?_
    refine g_lload C dX9_isLess_22 rfl ?_
    refine g_lcmp_ge 32 C dX9_isLess_24 dX9_isLess_25 (by decide) h (fun h => ?_) (fun h => ?_)
    · refine g_iconst C dX9_isLess_32 ?_
      cases h
      exact hret 33 _ bn0 dX9_isLess_33
    · refine g_iconst C dX9_isLess_28 ?_
      refine g_goto (tgt := 33) C dX9_isLess_29 (by decide) ?_
      cases h
      exact hret 33 _ bn1 dX9_isLess_33
end S_X9_isLess
set_option maxRecDepth 100000 in
set_option maxHeartbeats 4000000 in
theorem cr_X9_isLess (l : Launch) (D : va_G) (cy : Nat → ClassId) (ad : AD) (F : Nat) : ∀ (d : Nat) (x0 : Int) (x2 : Int) (x4 : Int) (x6 : Int) (v : Int), loopN (fun self q => mz_X9_isLess F self q.1 q.2.1 q.2.2.1 q.2.2.2) d (x0, x2, x4, x6) = some v → Ct l yX9_isLess cX9_isLess 12 (some .boolean) (rm_X9_isLess d) D cy ad [.long (wJ x0), .long (wJ x2), .long (wJ x4), .long (wJ x6)] (W_X9_isLess cy) (W_X9_isLess cy) (some (.int (wI v))) := by
  intro d
  induction d with
  | zero =>
    intro x0 x2 x4 x6 v h
    cases h
  | succ d ih =>
    intro x0 x2 x4 x6 v h
    refine Ct.introZ (j := 4) (plainFor_of_name (by decide)) rfl rfl (fun E C e1 e2 e3 e4 e5 hret => ?_)
    subst e1; subst e2; subst e3; subst e4
    have h : mz_X9_isLess F (loopN (fun self q => mz_X9_isLess F self q.1 q.2.1 q.2.2.1 q.2.2.2) d) x0 x2 x4 x6 = some v := h
    exact wm_X9_isLess C e5 h ih hret
theorem c_X9_isLess (l : Launch) (D : va_G) (cy : Nat → ClassId) (ad : AD) (x0 : Int) (x2 : Int) (x4 : Int) (x6 : Int) (F : Nat) {v : Int} (h : m_X9_isLess F x0 x2 x4 x6 = some v) : Ct l yX9_isLess cX9_isLess 12 (some .boolean) (rm_X9_isLess 200) D cy ad [.long (wJ x0), .long (wJ x2), .long (wJ x4), .long (wJ x6)] (W_X9_isLess cy) (W_X9_isLess cy) (some (.int (wI v))) := cr_X9_isLess l D cy ad F 200 x0 x2 x4 x6 v h
-- MovingStairModel.goes(II)Z
def W_X9_goes (cy : Nat → ClassId) (a_t a_t_has a_t_part a_t_speed : Nat) (g_t_0 : Value) (g_t_1 : Value) (g_t_2 : Value) (g_t_3 : Value) (g_t_4 : Value) (g_t_5 : Value) (g_t_6 : Value) (g_t_7 : Value) (g_t_8 : Value) (g_t_9 : Value) (g_t_10 : Value) (g_t_11 : Value) (g_t_12 : Value) (g_t_13 : Value) (g_t_14 : Value) (g_t_15 : Value) (g_t_16 : Value) (g_t_19 : Value) (g_t_20 : Value) (g_t_21 : Value) (g_t_22 : Value) (g_t_26 : Value) (g_t_27 : Value) (g_t_28 : Value) (g_t_29 : Value) (g_t_30 : Value) (g_t_31 : Value) (g_t_32 : Value) (g_t_33 : Value) (g_t_34 : Value) (g_t_35 : Value) (g_t_36 : Value) (g_t_37 : Value) (g_t_38 : Value) (g_t_39 : Value) (g_t_40 : Value) (g_t_41 : Value) (g_t_42 : Value) (g_t_43 : Value) (c_above : Int) (c_below : Int) (c_has : Int → Int) (c_part : Int → Int) (c_speed : Int → Int) : va_W := [(a_t, .inr (9, [g_t_0, g_t_1, g_t_2, g_t_3, g_t_4, g_t_5, g_t_6, g_t_7, g_t_8, g_t_9, g_t_10, g_t_11, g_t_12, g_t_13, g_t_14, g_t_15, g_t_16, .ref a_t_has, .ref a_t_part, g_t_19, g_t_20, g_t_21, g_t_22, .ref a_t_speed, .long (wJ c_above), .long (wJ c_below), g_t_26, g_t_27, g_t_28, g_t_29, g_t_30, g_t_31, g_t_32, g_t_33, g_t_34, g_t_35, g_t_36, g_t_37, g_t_38, g_t_39, g_t_40, g_t_41, g_t_42, g_t_43])), (a_t_has, .inl (cy 1, 45, .inl (aI c_has))), (a_t_part, .inl (cy 1, 40, .inl (aI c_part))), (a_t_speed, .inl (cy 1, 4, .inl (aI c_speed)))]
def mb_X9_goes_6 (F : Nat) (k6 : Int → Int → Int → Option (Int × Int × Int)) (x1 : Int) (x2 : Int) (x3 : Int) (c_above : Int) (c_below : Int) (c_has : Int → Int) (c_part : Int → Int) (c_speed : Int → Int) : Option (Int × Int × Int) :=
  if wI (c_has 1) ≤ wI x3 then
    (some (1, c_above, c_below))
  else
    (chk (0 ≤ x3 ∧ x3 < 4) <| nam (x1 + (x2 * (c_speed x3))) fun y2 => if wI 0 < wI y2 then
    (bnd1 (m_X9_stepsOf F x3 c_part) fun r3 => chk (r32 r3) <| chk (r32 y2) <| bnd2 (m_X9_adds F r3 y2 c_above c_below) fun o7 o8 => k6 (x3 + 1) o7 o8)
  else
    (some (0, c_above, c_below)))
def ml_X9_goes_6 (F : Nat) (x1 : Int) (x2 : Int) (x3 : Int) (c_above : Int) (c_below : Int) (c_has : Int → Int) (c_part : Int → Int) (c_speed : Int → Int) : Option (Int × Int × Int) :=
  loopN (fun (k : Int × Int × Int → Option (Int × Int × Int)) q => mb_X9_goes_6 F (fun y0 y1 y2 => k (y0, y1, y2)) x1 x2 q.1 q.2.1 q.2.2 c_has c_part c_speed) F (x3, c_above, c_below)
def m_X9_goes (F : Nat) (x1 : Int) (x2 : Int) (c_has : Int → Int) (c_part : Int → Int) (c_speed : Int → Int) : Option (Int × Int × Int) :=
  bnd2 (m_X9_zero F) fun o1 o2 => ml_X9_goes_6 F x1 x2 0 o1 o2 c_has c_part c_speed
section S_X9_goes
variable {E : EE} {a_t a_t_has a_t_part a_t_speed : Nat} {g_t_0 : Value} {g_t_1 : Value} {g_t_2 : Value} {g_t_3 : Value} {g_t_4 : Value} {g_t_5 : Value} {g_t_6 : Value} {g_t_7 : Value} {g_t_8 : Value} {g_t_9 : Value} {g_t_10 : Value} {g_t_11 : Value} {g_t_12 : Value} {g_t_13 : Value} {g_t_14 : Value} {g_t_15 : Value} {g_t_16 : Value} {g_t_19 : Value} {g_t_20 : Value} {g_t_21 : Value} {g_t_22 : Value} {g_t_26 : Value} {g_t_27 : Value} {g_t_28 : Value} {g_t_29 : Value} {g_t_30 : Value} {g_t_31 : Value} {g_t_32 : Value} {g_t_33 : Value} {g_t_34 : Value} {g_t_35 : Value} {g_t_36 : Value} {g_t_37 : Value} {g_t_38 : Value} {g_t_39 : Value} {g_t_40 : Value} {g_t_41 : Value} {g_t_42 : Value} {g_t_43 : Value}
set_option maxRecDepth 100000 in
set_option maxHeartbeats 4000000 in
theorem wb_X9_goes_6 {F : Nat} {k6 : Int → Int → Int → Option (Int × Int × Int)} {v : Int × Int × Int} {x1 : Int} {x2 : Int} {x3 : Int} {c_above : Int} {c_below : Int} {c_has : Int → Int} {c_part : Int → Int} {c_speed : Int → Int} (C : Cx E cX9_goes RX9 { frames := 202, cells := 0, slots := 0, locals := 4649 }) (hN : eN E = 5) (h : mb_X9_goes_6 F k6 x1 x2 x3 c_above c_below c_has c_part c_speed = some v) (hk6 : ∀ (y_x3 : Int) (y_c_above : Int) (y_c_below : Int), k6 y_x3 y_c_above y_c_below = some v → GG E 0 0 (W_X9_goes (eCy E) a_t a_t_has a_t_part a_t_speed g_t_0 g_t_1 g_t_2 g_t_3 g_t_4 g_t_5 g_t_6 g_t_7 g_t_8 g_t_9 g_t_10 g_t_11 g_t_12 g_t_13 g_t_14 g_t_15 g_t_16 g_t_19 g_t_20 g_t_21 g_t_22 g_t_26 g_t_27 g_t_28 g_t_29 g_t_30 g_t_31 g_t_32 g_t_33 g_t_34 g_t_35 g_t_36 g_t_37 g_t_38 g_t_39 g_t_40 g_t_41 g_t_42 g_t_43 y_c_above y_c_below c_has c_part c_speed) [some (.ref a_t), some (.int (wI x1)), some (.int (wI x2)), some (.int (wI y_x3)), none] 6 []) (hret : ∀ (pc : Nat) (L : List (Option Value)), narrow .boolean (.int (wI (v.1))) = .int (wI (v.1)) → decode cX9_goes pc = .ok (.ireturn, 1) → GG E 0 0 (W_X9_goes (eCy E) a_t a_t_has a_t_part a_t_speed g_t_0 g_t_1 g_t_2 g_t_3 g_t_4 g_t_5 g_t_6 g_t_7 g_t_8 g_t_9 g_t_10 g_t_11 g_t_12 g_t_13 g_t_14 g_t_15 g_t_16 g_t_19 g_t_20 g_t_21 g_t_22 g_t_26 g_t_27 g_t_28 g_t_29 g_t_30 g_t_31 g_t_32 g_t_33 g_t_34 g_t_35 g_t_36 g_t_37 g_t_38 g_t_39 g_t_40 g_t_41 g_t_42 g_t_43 (v.2.1) (v.2.2) c_has c_part c_speed) L pc [.int (wI (v.1))]) : GG E 0 0 (W_X9_goes (eCy E) a_t a_t_has a_t_part a_t_speed g_t_0 g_t_1 g_t_2 g_t_3 g_t_4 g_t_5 g_t_6 g_t_7 g_t_8 g_t_9 g_t_10 g_t_11 g_t_12 g_t_13 g_t_14 g_t_15 g_t_16 g_t_19 g_t_20 g_t_21 g_t_22 g_t_26 g_t_27 g_t_28 g_t_29 g_t_30 g_t_31 g_t_32 g_t_33 g_t_34 g_t_35 g_t_36 g_t_37 g_t_38 g_t_39 g_t_40 g_t_41 g_t_42 g_t_43 c_above c_below c_has c_part c_speed) [some (.ref a_t), some (.int (wI x1)), some (.int (wI x2)), some (.int (wI x3)), none] 6 [] := by
  unfold mb_X9_goes_6 at h
  refine g_iload_n 3 C dX9_goes_6 rfl rfl ?_
  refine g_aload_n 0 C dX9_goes_7 rfl rfl ?_
  refine g_get C fg_X9_34 0 rfl rfl dX9_goes_8 ?_
  refine g_iconst C dX9_goes_11 ?_
  refine g_iald C 1 rfl (by decide) rfl dX9_goes_12 ?_
  refine g_icmp_ge 54 C dX9_goes_13 (by decide) h (fun h => ?_) (fun h => ?_)
  · refine g_iconst C dX9_goes_54 ?_
    cases h
    exact hret 55 _ bn1 dX9_goes_55
  · refine g_iload_n 1 C dX9_goes_16 rfl rfl ?_
    refine g_iload_n 2 C dX9_goes_17 rfl rfl ?_
    refine g_aload_n 0 C dX9_goes_18 rfl rfl ?_
    refine g_get C fg_X9_53 0 rfl rfl dX9_goes_19 ?_
    refine g_iload_n 3 C dX9_goes_22 rfl rfl ?_
    obtain ⟨hc1, h⟩ := chk_some h
    refine g_iald C 3 rfl hc1 rfl dX9_goes_23 ?_
    refine g_imul C dX9_goes_24 ?_
    refine g_iadd C dX9_goes_25 ?_
    obtain ⟨y2, e_y2, h⟩ := nam_some h
    refine g_topI e_y2 ?_
    refine g_istore C hN dX9_goes_26 rfl (L' := [some (.ref a_t), some (.int (wI x1)), some (.int (wI x2)), some (.int (wI x3)), some (.int (wI y2))]) rfl ?_
    refine g_iload C dX9_goes_28 rfl ?_
    refine g_if_gt 35 C dX9_goes_30 (by decide) h (fun h => ?_) (fun h => ?_)
    · refine g_aload_n 0 C dX9_goes_35 rfl rfl ?_
      refine g_aload_n 0 C dX9_goes_36 rfl rfl ?_
      refine g_iload_n 3 C dX9_goes_37 rfl rfl ?_
      obtain ⟨r3, hr4, h⟩ := bnd1_some h
      refine g_callI [0, 2] [1, 3] [2, 0, 3, 1] C mt_X9_233 (c_X9_stepsOf _ _ _ _ a_t a_t_part (g_t_0) (g_t_1) (g_t_2) (g_t_3) (g_t_4) (g_t_5) (g_t_6) (g_t_7) (g_t_8) (g_t_9) (g_t_10) (g_t_11) (g_t_12) (g_t_13) (g_t_14) (g_t_15) (g_t_16) (.ref a_t_has) (g_t_19) (g_t_20) (g_t_21) (g_t_22) (.ref a_t_speed) (.long (wJ c_above)) (.long (wJ c_below)) (g_t_26) (g_t_27) (g_t_28) (g_t_29) (g_t_30) (g_t_31) (g_t_32) (g_t_33) (g_t_34) (g_t_35) (g_t_36) (g_t_37) (g_t_38) (g_t_39) (g_t_40) (g_t_41) (g_t_42) (g_t_43) x3 c_part F hr4) (q0 := 0) rfl (ci := 9) rfl rfl rfl (ws2 := (W_X9_goes (eCy E) a_t a_t_has a_t_part a_t_speed g_t_0 g_t_1 g_t_2 g_t_3 g_t_4 g_t_5 g_t_6 g_t_7 g_t_8 g_t_9 g_t_10 g_t_11 g_t_12 g_t_13 g_t_14 g_t_15 g_t_16 g_t_19 g_t_20 g_t_21 g_t_22 g_t_26 g_t_27 g_t_28 g_t_29 g_t_30 g_t_31 g_t_32 g_t_33 g_t_34 g_t_35 g_t_36 g_t_37 g_t_38 g_t_39 g_t_40 g_t_41 g_t_42 g_t_43 c_above c_below c_has c_part c_speed)) rfl rfl rfl (rest := [.ref a_t]) rfl rfl rfl dX9_goes_38 ?_
      obtain ⟨hc5, h⟩ := chk_some h
      refine g_i2l C dX9_goes_41 hc5 ?_
      refine g_iload C dX9_goes_42 rfl ?_
      obtain ⟨hc6, h⟩ := chk_some h
      refine g_i2l C dX9_goes_44 hc6 ?_
      obtain ⟨o7, o8, hr9, h⟩ := bnd2_some h
      refine g_callV [0] [1, 2, 3] [3, 0, 1, 2] C mt_X9_256 (c_X9_adds _ _ _ _ a_t (g_t_0) (g_t_1) (g_t_2) (g_t_3) (g_t_4) (g_t_5) (g_t_6) (g_t_7) (g_t_8) (g_t_9) (g_t_10) (g_t_11) (g_t_12) (g_t_13) (g_t_14) (g_t_15) (g_t_16) (.ref a_t_has) (.ref a_t_part) (g_t_19) (g_t_20) (g_t_21) (g_t_22) (.ref a_t_speed) (g_t_26) (g_t_27) (g_t_28) (g_t_29) (g_t_30) (g_t_31) (g_t_32) (g_t_33) (g_t_34) (g_t_35) (g_t_36) (g_t_37) (g_t_38) (g_t_39) (g_t_40) (g_t_41) (g_t_42) (g_t_43) r3 y2 c_above c_below F hr9) (q0 := 0) rfl (ci := 9) rfl rfl rfl (ws2 := (W_X9_goes (eCy E) a_t a_t_has a_t_part a_t_speed g_t_0 g_t_1 g_t_2 g_t_3 g_t_4 g_t_5 g_t_6 g_t_7 g_t_8 g_t_9 g_t_10 g_t_11 g_t_12 g_t_13 g_t_14 g_t_15 g_t_16 g_t_19 g_t_20 g_t_21 g_t_22 g_t_26 g_t_27 g_t_28 g_t_29 g_t_30 g_t_31 g_t_32 g_t_33 g_t_34 g_t_35 g_t_36 g_t_37 g_t_38 g_t_39 g_t_40 g_t_41 g_t_42 g_t_43 o7 o8 c_has c_part c_speed)) rfl rfl rfl (rest := []) rfl rfl rfl dX9_goes_45 ?_
      refine g_iinc C hN dX9_goes_48 rfl rfl (L' := [some (.ref a_t), some (.int (wI x1)), some (.int (wI x2)), some (.int (wI (x3 + 1))), some (.int (wI y2))]) rfl ?_
      refine g_goto (tgt := 6) C dX9_goes_51 (by decide) ?_
      refine g_mask [true, true, true, true, false] (L' := [some (.ref a_t), some (.int (wI x1)), some (.int (wI x2)), some (.int (wI (x3 + 1))), none]) rfl ?_
      exact hk6 _ _ _ h
    · refine g_iconst C dX9_goes_33 ?_
      cases h
      exact hret 34 _ bn0 dX9_goes_34
set_option maxRecDepth 100000 in
set_option maxHeartbeats 4000000 in
theorem wl_X9_goes_6 {F : Nat} {v : Int × Int × Int} {x1 : Int} {x2 : Int} {x3 : Int} {c_above : Int} {c_below : Int} {c_has : Int → Int} {c_part : Int → Int} {c_speed : Int → Int} (C : Cx E cX9_goes RX9 { frames := 202, cells := 0, slots := 0, locals := 4649 }) (hN : eN E = 5) (h : ml_X9_goes_6 F x1 x2 x3 c_above c_below c_has c_part c_speed = some v) (hret : ∀ (pc : Nat) (L : List (Option Value)), narrow .boolean (.int (wI (v.1))) = .int (wI (v.1)) → decode cX9_goes pc = .ok (.ireturn, 1) → GG E 0 0 (W_X9_goes (eCy E) a_t a_t_has a_t_part a_t_speed g_t_0 g_t_1 g_t_2 g_t_3 g_t_4 g_t_5 g_t_6 g_t_7 g_t_8 g_t_9 g_t_10 g_t_11 g_t_12 g_t_13 g_t_14 g_t_15 g_t_16 g_t_19 g_t_20 g_t_21 g_t_22 g_t_26 g_t_27 g_t_28 g_t_29 g_t_30 g_t_31 g_t_32 g_t_33 g_t_34 g_t_35 g_t_36 g_t_37 g_t_38 g_t_39 g_t_40 g_t_41 g_t_42 g_t_43 (v.2.1) (v.2.2) c_has c_part c_speed) L pc [.int (wI (v.1))]) : GG E 0 0 (W_X9_goes (eCy E) a_t a_t_has a_t_part a_t_speed g_t_0 g_t_1 g_t_2 g_t_3 g_t_4 g_t_5 g_t_6 g_t_7 g_t_8 g_t_9 g_t_10 g_t_11 g_t_12 g_t_13 g_t_14 g_t_15 g_t_16 g_t_19 g_t_20 g_t_21 g_t_22 g_t_26 g_t_27 g_t_28 g_t_29 g_t_30 g_t_31 g_t_32 g_t_33 g_t_34 g_t_35 g_t_36 g_t_37 g_t_38 g_t_39 g_t_40 g_t_41 g_t_42 g_t_43 c_above c_below c_has c_part c_speed) [some (.ref a_t), some (.int (wI x1)), some (.int (wI x2)), some (.int (wI x3)), none] 6 [] := by
  unfold ml_X9_goes_6 at h
  exact loop_walk (g := fun (q : Int × Int × Int) => GG E 0 0 (W_X9_goes (eCy E) a_t a_t_has a_t_part a_t_speed g_t_0 g_t_1 g_t_2 g_t_3 g_t_4 g_t_5 g_t_6 g_t_7 g_t_8 g_t_9 g_t_10 g_t_11 g_t_12 g_t_13 g_t_14 g_t_15 g_t_16 g_t_19 g_t_20 g_t_21 g_t_22 g_t_26 g_t_27 g_t_28 g_t_29 g_t_30 g_t_31 g_t_32 g_t_33 g_t_34 g_t_35 g_t_36 g_t_37 g_t_38 g_t_39 g_t_40 g_t_41 g_t_42 g_t_43 (q.2.1) (q.2.2) c_has c_part c_speed) [some (.ref a_t), some (.int (wI x1)), some (.int (wI x2)), some (.int (wI (q.1))), none] 6 []) (fun k hk q h => wb_X9_goes_6 C hN h (fun y0 y1 y2 hh => hk (y0, y1, y2) hh) hret) F (x3, c_above, c_below) h
set_option maxRecDepth 100000 in
set_option maxHeartbeats 4000000 in
theorem wm_X9_goes {F : Nat} {v : Int × Int × Int} {x1 : Int} {x2 : Int} {c_has : Int → Int} {c_part : Int → Int} {c_speed : Int → Int} {c_above : Int} {c_below : Int} (C : Cx E cX9_goes RX9 { frames := 202, cells := 0, slots := 0, locals := 4649 }) (hN : eN E = 5) (h : m_X9_goes F x1 x2 c_has c_part c_speed = some v) (hret : ∀ (pc : Nat) (L : List (Option Value)), narrow .boolean (.int (wI (v.1))) = .int (wI (v.1)) → decode cX9_goes pc = .ok (.ireturn, 1) → GG E 0 0 (W_X9_goes (eCy E) a_t a_t_has a_t_part a_t_speed g_t_0 g_t_1 g_t_2 g_t_3 g_t_4 g_t_5 g_t_6 g_t_7 g_t_8 g_t_9 g_t_10 g_t_11 g_t_12 g_t_13 g_t_14 g_t_15 g_t_16 g_t_19 g_t_20 g_t_21 g_t_22 g_t_26 g_t_27 g_t_28 g_t_29 g_t_30 g_t_31 g_t_32 g_t_33 g_t_34 g_t_35 g_t_36 g_t_37 g_t_38 g_t_39 g_t_40 g_t_41 g_t_42 g_t_43 (v.2.1) (v.2.2) c_has c_part c_speed) L pc [.int (wI (v.1))]) : GG E 0 0 (W_X9_goes (eCy E) a_t a_t_has a_t_part a_t_speed g_t_0 g_t_1 g_t_2 g_t_3 g_t_4 g_t_5 g_t_6 g_t_7 g_t_8 g_t_9 g_t_10 g_t_11 g_t_12 g_t_13 g_t_14 g_t_15 g_t_16 g_t_19 g_t_20 g_t_21 g_t_22 g_t_26 g_t_27 g_t_28 g_t_29 g_t_30 g_t_31 g_t_32 g_t_33 g_t_34 g_t_35 g_t_36 g_t_37 g_t_38 g_t_39 g_t_40 g_t_41 g_t_42 g_t_43 c_above c_below c_has c_part c_speed) [some (.ref a_t), some (.int (wI x1)), some (.int (wI x2)), none, none] 0 [] := by
  unfold m_X9_goes at h
  refine g_aload_n 0 C dX9_goes_0 rfl rfl ?_
  obtain ⟨o1, o2, hr3, h⟩ := bnd2_some h
  refine g_callV [0] [1, 2, 3] [3, 0, 1, 2] C mt_X9_253 (c_X9_zero _ _ _ _ a_t (g_t_0) (g_t_1) (g_t_2) (g_t_3) (g_t_4) (g_t_5) (g_t_6) (g_t_7) (g_t_8) (g_t_9) (g_t_10) (g_t_11) (g_t_12) (g_t_13) (g_t_14) (g_t_15) (g_t_16) (.ref a_t_has) (.ref a_t_part) (g_t_19) (g_t_20) (g_t_21) (g_t_22) (.ref a_t_speed) (g_t_26) (g_t_27) (g_t_28) (g_t_29) (g_t_30) (g_t_31) (g_t_32) (g_t_33) (g_t_34) (g_t_35) (g_t_36) (g_t_37) (g_t_38) (g_t_39) (g_t_40) (g_t_41) (g_t_42) (g_t_43) c_above c_below F hr3) (q0 := 0) rfl (ci := 9) rfl rfl rfl (ws2 := (W_X9_goes (eCy E) a_t a_t_has a_t_part a_t_speed g_t_0 g_t_1 g_t_2 g_t_3 g_t_4 g_t_5 g_t_6 g_t_7 g_t_8 g_t_9 g_t_10 g_t_11 g_t_12 g_t_13 g_t_14 g_t_15 g_t_16 g_t_19 g_t_20 g_t_21 g_t_22 g_t_26 g_t_27 g_t_28 g_t_29 g_t_30 g_t_31 g_t_32 g_t_33 g_t_34 g_t_35 g_t_36 g_t_37 g_t_38 g_t_39 g_t_40 g_t_41 g_t_42 g_t_43 o1 o2 c_has c_part c_speed)) rfl rfl rfl (rest := []) rfl rfl rfl dX9_goes_1 ?_
  refine g_iconst C dX9_goes_4 ?_
  refine g_istore_n 3 C hN dX9_goes_5 rfl rfl (L' := [some (.ref a_t), some (.int (wI x1)), some (.int (wI x2)), some (.int (wI 0)), none]) rfl ?_
  exact wl_X9_goes_6 C hN h hret
end S_X9_goes
set_option maxRecDepth 100000 in
set_option maxHeartbeats 4000000 in
theorem c_X9_goes (l : Launch) (D : va_G) (cy : Nat → ClassId) (ad : AD) (a_t a_t_has a_t_part a_t_speed : Nat) (g_t_0 : Value) (g_t_1 : Value) (g_t_2 : Value) (g_t_3 : Value) (g_t_4 : Value) (g_t_5 : Value) (g_t_6 : Value) (g_t_7 : Value) (g_t_8 : Value) (g_t_9 : Value) (g_t_10 : Value) (g_t_11 : Value) (g_t_12 : Value) (g_t_13 : Value) (g_t_14 : Value) (g_t_15 : Value) (g_t_16 : Value) (g_t_19 : Value) (g_t_20 : Value) (g_t_21 : Value) (g_t_22 : Value) (g_t_26 : Value) (g_t_27 : Value) (g_t_28 : Value) (g_t_29 : Value) (g_t_30 : Value) (g_t_31 : Value) (g_t_32 : Value) (g_t_33 : Value) (g_t_34 : Value) (g_t_35 : Value) (g_t_36 : Value) (g_t_37 : Value) (g_t_38 : Value) (g_t_39 : Value) (g_t_40 : Value) (g_t_41 : Value) (g_t_42 : Value) (g_t_43 : Value) (x1 : Int) (x2 : Int) (c_above : Int) (c_below : Int) (c_has : Int → Int) (c_part : Int → Int) (c_speed : Int → Int) (F : Nat) {v : Int × Int × Int} (h : m_X9_goes F x1 x2 c_has c_part c_speed = some v) : Ct l yX9_goes cX9_goes 5 (some .boolean) { frames := 202, cells := 0, slots := 0, locals := 4649 } D cy ad [.ref a_t, .int (wI x1), .int (wI x2)] (W_X9_goes cy a_t a_t_has a_t_part a_t_speed g_t_0 g_t_1 g_t_2 g_t_3 g_t_4 g_t_5 g_t_6 g_t_7 g_t_8 g_t_9 g_t_10 g_t_11 g_t_12 g_t_13 g_t_14 g_t_15 g_t_16 g_t_19 g_t_20 g_t_21 g_t_22 g_t_26 g_t_27 g_t_28 g_t_29 g_t_30 g_t_31 g_t_32 g_t_33 g_t_34 g_t_35 g_t_36 g_t_37 g_t_38 g_t_39 g_t_40 g_t_41 g_t_42 g_t_43 c_above c_below c_has c_part c_speed) (W_X9_goes cy a_t a_t_has a_t_part a_t_speed g_t_0 g_t_1 g_t_2 g_t_3 g_t_4 g_t_5 g_t_6 g_t_7 g_t_8 g_t_9 g_t_10 g_t_11 g_t_12 g_t_13 g_t_14 g_t_15 g_t_16 g_t_19 g_t_20 g_t_21 g_t_22 g_t_26 g_t_27 g_t_28 g_t_29 g_t_30 g_t_31 g_t_32 g_t_33 g_t_34 g_t_35 g_t_36 g_t_37 g_t_38 g_t_39 g_t_40 g_t_41 g_t_42 g_t_43 (v.2.1) (v.2.2) c_has c_part c_speed) (some (.int (wI (v.1)))) := by
  refine Ct.introZ (j := 2) (plainFor_of_name (by decide)) rfl rfl (fun E C e1 e2 e3 e4 e5 hret => ?_)
  subst e1; subst e2; subst e3; subst e4
  exact wm_X9_goes C e5 h hret
-- MovingStairModel.isWay(II)Z
def W_X9_isWay (cy : Nat → ClassId) (a_t a_t_act a_t_has a_t_part a_t_speed : Nat) (g_t_0 : Value) (g_t_1 : Value) (g_t_2 : Value) (g_t_3 : Value) (g_t_4 : Value) (g_t_5 : Value) (g_t_6 : Value) (g_t_7 : Value) (g_t_8 : Value) (g_t_9 : Value) (g_t_10 : Value) (g_t_11 : Value) (g_t_12 : Value) (g_t_13 : Value) (g_t_14 : Value) (g_t_15 : Value) (g_t_16 : Value) (g_t_19 : Value) (g_t_20 : Value) (g_t_22 : Value) (g_t_24 : Value) (g_t_25 : Value) (g_t_26 : Value) (g_t_27 : Value) (g_t_28 : Value) (g_t_29 : Value) (g_t_30 : Value) (g_t_31 : Value) (g_t_32 : Value) (g_t_33 : Value) (g_t_34 : Value) (g_t_35 : Value) (g_t_36 : Value) (g_t_37 : Value) (g_t_38 : Value) (g_t_39 : Value) (g_t_40 : Value) (g_t_41 : Value) (g_t_42 : Value) (g_t_43 : Value) (c_act : Int → Int) (c_has : Int → Int) (c_part : Int → Int) (c_speed : Int → Int) : va_W := [(a_t, .inr (9, [g_t_0, g_t_1, g_t_2, g_t_3, g_t_4, g_t_5, g_t_6, g_t_7, g_t_8, g_t_9, g_t_10, g_t_11, g_t_12, g_t_13, g_t_14, g_t_15, g_t_16, .ref a_t_has, .ref a_t_part, g_t_19, g_t_20, .ref a_t_act, g_t_22, .ref a_t_speed, g_t_24, g_t_25, g_t_26, g_t_27, g_t_28, g_t_29, g_t_30, g_t_31, g_t_32, g_t_33, g_t_34, g_t_35, g_t_36, g_t_37, g_t_38, g_t_39, g_t_40, g_t_41, g_t_42, g_t_43])), (a_t_act, .inl (cy 1, 600, .inl (aI c_act))), (a_t_has, .inl (cy 1, 45, .inl (aI c_has))), (a_t_part, .inl (cy 1, 40, .inl (aI c_part))), (a_t_speed, .inl (cy 1, 4, .inl (aI c_speed)))]
def m_X9_isWay (F : Nat) (x1 : Int) (x2 : Int) (c_act : Int → Int) (c_has : Int → Int) (c_part : Int → Int) (c_speed : Int → Int) : Option (Int × (Int → Int)) :=
  bnd1 (m_X9_isWalker F x1 c_has) fun r1 => if wI r1 = wI 0 then
    (some (0, c_speed))
  else
    (bnd1 (m_X9_isHalf F x2) fun r3 => if wI r3 = wI 0 then
    (some (0, c_speed))
  else
    (bnd1 (m_X9_lays F c_act c_has c_part c_speed) fun o5 => some (1, o5)))
section S_X9_isWay
variable {E : EE} {a_t a_t_act a_t_has a_t_part a_t_speed : Nat} {g_t_0 : Value} {g_t_1 : Value} {g_t_2 : Value} {g_t_3 : Value} {g_t_4 : Value} {g_t_5 : Value} {g_t_6 : Value} {g_t_7 : Value} {g_t_8 : Value} {g_t_9 : Value} {g_t_10 : Value} {g_t_11 : Value} {g_t_12 : Value} {g_t_13 : Value} {g_t_14 : Value} {g_t_15 : Value} {g_t_16 : Value} {g_t_19 : Value} {g_t_20 : Value} {g_t_22 : Value} {g_t_24 : Value} {g_t_25 : Value} {g_t_26 : Value} {g_t_27 : Value} {g_t_28 : Value} {g_t_29 : Value} {g_t_30 : Value} {g_t_31 : Value} {g_t_32 : Value} {g_t_33 : Value} {g_t_34 : Value} {g_t_35 : Value} {g_t_36 : Value} {g_t_37 : Value} {g_t_38 : Value} {g_t_39 : Value} {g_t_40 : Value} {g_t_41 : Value} {g_t_42 : Value} {g_t_43 : Value}
set_option maxRecDepth 100000 in
set_option maxHeartbeats 4000000 in
theorem wm_X9_isWay {F : Nat} {v : Int × (Int → Int)} {x1 : Int} {x2 : Int} {c_act : Int → Int} {c_has : Int → Int} {c_part : Int → Int} {c_speed : Int → Int} (C : Cx E cX9_isWay RX9 { frames := 2, cells := 0, slots := 0, locals := 46 }) (hN : eN E = 3) (h : m_X9_isWay F x1 x2 c_act c_has c_part c_speed = some v) (hret : ∀ (pc : Nat) (L : List (Option Value)), narrow .boolean (.int (wI (v.1))) = .int (wI (v.1)) → decode cX9_isWay pc = .ok (.ireturn, 1) → GG E 0 0 (W_X9_isWay (eCy E) a_t a_t_act a_t_has a_t_part a_t_speed g_t_0 g_t_1 g_t_2 g_t_3 g_t_4 g_t_5 g_t_6 g_t_7 g_t_8 g_t_9 g_t_10 g_t_11 g_t_12 g_t_13 g_t_14 g_t_15 g_t_16 g_t_19 g_t_20 g_t_22 g_t_24 g_t_25 g_t_26 g_t_27 g_t_28 g_t_29 g_t_30 g_t_31 g_t_32 g_t_33 g_t_34 g_t_35 g_t_36 g_t_37 g_t_38 g_t_39 g_t_40 g_t_41 g_t_42 g_t_43 c_act c_has c_part (v.2)) L pc [.int (wI (v.1))]) : GG E 0 0 (W_X9_isWay (eCy E) a_t a_t_act a_t_has a_t_part a_t_speed g_t_0 g_t_1 g_t_2 g_t_3 g_t_4 g_t_5 g_t_6 g_t_7 g_t_8 g_t_9 g_t_10 g_t_11 g_t_12 g_t_13 g_t_14 g_t_15 g_t_16 g_t_19 g_t_20 g_t_22 g_t_24 g_t_25 g_t_26 g_t_27 g_t_28 g_t_29 g_t_30 g_t_31 g_t_32 g_t_33 g_t_34 g_t_35 g_t_36 g_t_37 g_t_38 g_t_39 g_t_40 g_t_41 g_t_42 g_t_43 c_act c_has c_part c_speed) [some (.ref a_t), some (.int (wI x1)), some (.int (wI x2))] 0 [] := by
  unfold m_X9_isWay at h
  refine g_aload_n 0 C dX9_isWay_0 rfl rfl ?_
  refine g_iload_n 1 C dX9_isWay_1 rfl rfl ?_
  obtain ⟨r1, hr2, h⟩ := bnd1_some h
  refine g_callI [0, 2] [1, 3, 4] [3, 0, 4, 1, 2] C mt_X9_236 (c_X9_isWalker _ _ _ _ a_t a_t_has (g_t_0) (g_t_1) (g_t_2) (g_t_3) (g_t_4) (g_t_5) (g_t_6) (g_t_7) (g_t_8) (g_t_9) (g_t_10) (g_t_11) (g_t_12) (g_t_13) (g_t_14) (g_t_15) (g_t_16) (.ref a_t_part) (g_t_19) (g_t_20) (.ref a_t_act) (g_t_22) (.ref a_t_speed) (g_t_24) (g_t_25) (g_t_26) (g_t_27) (g_t_28) (g_t_29) (g_t_30) (g_t_31) (g_t_32) (g_t_33) (g_t_34) (g_t_35) (g_t_36) (g_t_37) (g_t_38) (g_t_39) (g_t_40) (g_t_41) (g_t_42) (g_t_43) x1 c_has F hr2) (q0 := 0) rfl (ci := 9) rfl rfl rfl (ws2 := (W_X9_isWay (eCy E) a_t a_t_act a_t_has a_t_part a_t_speed g_t_0 g_t_1 g_t_2 g_t_3 g_t_4 g_t_5 g_t_6 g_t_7 g_t_8 g_t_9 g_t_10 g_t_11 g_t_12 g_t_13 g_t_14 g_t_15 g_t_16 g_t_19 g_t_20 g_t_22 g_t_24 g_t_25 g_t_26 g_t_27 g_t_28 g_t_29 g_t_30 g_t_31 g_t_32 g_t_33 g_t_34 g_t_35 g_t_36 g_t_37 g_t_38 g_t_39 g_t_40 g_t_41 g_t_42 g_t_43 c_act c_has c_part c_speed)) rfl rfl rfl (rest := []) rfl rfl rfl dX9_isWay_2 ?_
  refine g_if_eq 15 C dX9_isWay_5 (by decide) h (fun h => ?_) (fun h => ?_)
  · refine g_iconst C dX9_isWay_15 ?_
    cases h
    exact hret 16 _ bn0 dX9_isWay_16
  · refine g_iload_n 2 C dX9_isWay_8 rfl rfl ?_
    obtain ⟨r3, hr4, h⟩ := bnd1_some h
    refine g_callSI [] [0, 1, 2, 3, 4] [0, 1, 2, 3, 4] C mt_X9_260 (c_X9_isHalf _ _ _ _ x2 F hr4) rfl rfl (ws2 := (W_X9_isWay (eCy E) a_t a_t_act a_t_has a_t_part a_t_speed g_t_0 g_t_1 g_t_2 g_t_3 g_t_4 g_t_5 g_t_6 g_t_7 g_t_8 g_t_9 g_t_10 g_t_11 g_t_12 g_t_13 g_t_14 g_t_15 g_t_16 g_t_19 g_t_20 g_t_22 g_t_24 g_t_25 g_t_26 g_t_27 g_t_28 g_t_29 g_t_30 g_t_31 g_t_32 g_t_33 g_t_34 g_t_35 g_t_36 g_t_37 g_t_38 g_t_39 g_t_40 g_t_41 g_t_42 g_t_43 c_act c_has c_part c_speed)) rfl rfl rfl (rest := []) rfl rfl rfl dX9_isWay_9 ?_
    refine g_if_ne 17 C dX9_isWay_12 (by decide) h (fun h => ?_) (fun h => ?_)
    · refine g_aload_n 0 C dX9_isWay_17 rfl rfl ?_
      obtain ⟨o5, hr6, h⟩ := bnd1_some h
      refine g_callV [0, 1, 2, 3, 4] [] [0, 1, 2, 3, 4] C mt_X9_230 (c_X9_lays _ _ _ _ a_t a_t_act a_t_has a_t_part a_t_speed (g_t_0) (g_t_1) (g_t_2) (g_t_3) (g_t_4) (g_t_5) (g_t_6) (g_t_7) (g_t_8) (g_t_9) (g_t_10) (g_t_11) (g_t_12) (g_t_13) (g_t_14) (g_t_15) (g_t_16) (g_t_19) (g_t_20) (g_t_22) (g_t_24) (g_t_25) (g_t_26) (g_t_27) (g_t_28) (g_t_29) (g_t_30) (g_t_31) (g_t_32) (g_t_33) (g_t_34) (g_t_35) (g_t_36) (g_t_37) (g_t_38) (g_t_39) (g_t_40) (g_t_41) (g_t_42) (g_t_43) c_act c_has c_part c_speed F hr6) (q0 := 0) rfl (ci := 9) rfl rfl rfl (ws2 := (W_X9_isWay (eCy E) a_t a_t_act a_t_has a_t_part a_t_speed g_t_0 g_t_1 g_t_2 g_t_3 g_t_4 g_t_5 g_t_6 g_t_7 g_t_8 g_t_9 g_t_10 g_t_11 g_t_12 g_t_13 g_t_14 g_t_15 g_t_16 g_t_19 g_t_20 g_t_22 g_t_24 g_t_25 g_t_26 g_t_27 g_t_28 g_t_29 g_t_30 g_t_31 g_t_32 g_t_33 g_t_34 g_t_35 g_t_36 g_t_37 g_t_38 g_t_39 g_t_40 g_t_41 g_t_42 g_t_43 c_act c_has c_part o5)) rfl rfl rfl (rest := []) rfl rfl rfl dX9_isWay_18 ?_
      refine g_iconst C dX9_isWay_21 ?_
      cases h
      exact hret 22 _ bn1 dX9_isWay_22
    · refine g_iconst C dX9_isWay_15 ?_
      cases h
      exact hret 16 _ bn0 dX9_isWay_16
end S_X9_isWay
set_option maxRecDepth 100000 in
set_option maxHeartbeats 4000000 in
theorem c_X9_isWay (l : Launch) (D : va_G) (cy : Nat → ClassId) (ad : AD) (a_t a_t_act a_t_has a_t_part a_t_speed : Nat) (g_t_0 : Value) (g_t_1 : Value) (g_t_2 : Value) (g_t_3 : Value) (g_t_4 : Value) (g_t_5 : Value) (g_t_6 : Value) (g_t_7 : Value) (g_t_8 : Value) (g_t_9 : Value) (g_t_10 : Value) (g_t_11 : Value) (g_t_12 : Value) (g_t_13 : Value) (g_t_14 : Value) (g_t_15 : Value) (g_t_16 : Value) (g_t_19 : Value) (g_t_20 : Value) (g_t_22 : Value) (g_t_24 : Value) (g_t_25 : Value) (g_t_26 : Value) (g_t_27 : Value) (g_t_28 : Value) (g_t_29 : Value) (g_t_30 : Value) (g_t_31 : Value) (g_t_32 : Value) (g_t_33 : Value) (g_t_34 : Value) (g_t_35 : Value) (g_t_36 : Value) (g_t_37 : Value) (g_t_38 : Value) (g_t_39 : Value) (g_t_40 : Value) (g_t_41 : Value) (g_t_42 : Value) (g_t_43 : Value) (x1 : Int) (x2 : Int) (c_act : Int → Int) (c_has : Int → Int) (c_part : Int → Int) (c_speed : Int → Int) (F : Nat) {v : Int × (Int → Int)} (h : m_X9_isWay F x1 x2 c_act c_has c_part c_speed = some v) : Ct l yX9_isWay cX9_isWay 3 (some .boolean) { frames := 2, cells := 0, slots := 0, locals := 46 } D cy ad [.ref a_t, .int (wI x1), .int (wI x2)] (W_X9_isWay cy a_t a_t_act a_t_has a_t_part a_t_speed g_t_0 g_t_1 g_t_2 g_t_3 g_t_4 g_t_5 g_t_6 g_t_7 g_t_8 g_t_9 g_t_10 g_t_11 g_t_12 g_t_13 g_t_14 g_t_15 g_t_16 g_t_19 g_t_20 g_t_22 g_t_24 g_t_25 g_t_26 g_t_27 g_t_28 g_t_29 g_t_30 g_t_31 g_t_32 g_t_33 g_t_34 g_t_35 g_t_36 g_t_37 g_t_38 g_t_39 g_t_40 g_t_41 g_t_42 g_t_43 c_act c_has c_part c_speed) (W_X9_isWay cy a_t a_t_act a_t_has a_t_part a_t_speed g_t_0 g_t_1 g_t_2 g_t_3 g_t_4 g_t_5 g_t_6 g_t_7 g_t_8 g_t_9 g_t_10 g_t_11 g_t_12 g_t_13 g_t_14 g_t_15 g_t_16 g_t_19 g_t_20 g_t_22 g_t_24 g_t_25 g_t_26 g_t_27 g_t_28 g_t_29 g_t_30 g_t_31 g_t_32 g_t_33 g_t_34 g_t_35 g_t_36 g_t_37 g_t_38 g_t_39 g_t_40 g_t_41 g_t_42 g_t_43 c_act c_has c_part (v.2)) (some (.int (wI (v.1)))) := by
  refine Ct.introZ (j := 0) (plainFor_of_name (by decide)) rfl rfl (fun E C e1 e2 e3 e4 e5 hret => ?_)
  subst e1; subst e2; subst e3; subst e4
  exact wm_X9_isWay C e5 h hret
-- MovingStairModel.time(II)J
def W_X9_time (cy : Nat → ClassId) (a_t a_t_act a_t_has a_t_pace a_t_part a_t_speed : Nat) (g_t_1 : Value) (g_t_2 : Value) (g_t_3 : Value) (g_t_4 : Value) (g_t_5 : Value) (g_t_6 : Value) (g_t_7 : Value) (g_t_8 : Value) (g_t_9 : Value) (g_t_10 : Value) (g_t_11 : Value) (g_t_12 : Value) (g_t_13 : Value) (g_t_14 : Value) (g_t_15 : Value) (g_t_16 : Value) (g_t_20 : Value) (g_t_22 : Value) (g_t_26 : Value) (g_t_27 : Value) (g_t_28 : Value) (g_t_29 : Value) (g_t_30 : Value) (g_t_31 : Value) (g_t_32 : Value) (g_t_33 : Value) (g_t_34 : Value) (g_t_35 : Value) (g_t_36 : Value) (g_t_37 : Value) (g_t_38 : Value) (g_t_39 : Value) (g_t_40 : Value) (g_t_41 : Value) (g_t_42 : Value) (g_t_43 : Value) (c_thrown : Int) (c_above : Int) (c_below : Int) (c_act : Int → Int) (c_has : Int → Int) (c_pace : Int → Int) (c_part : Int → Int) (c_speed : Int → Int) : va_W := [(a_t, .inr (9, [.int (wI c_thrown), g_t_1, g_t_2, g_t_3, g_t_4, g_t_5, g_t_6, g_t_7, g_t_8, g_t_9, g_t_10, g_t_11, g_t_12, g_t_13, g_t_14, g_t_15, g_t_16, .ref a_t_has, .ref a_t_part, .ref a_t_pace, g_t_20, .ref a_t_act, g_t_22, .ref a_t_speed, .long (wJ c_above), .long (wJ c_below), g_t_26, g_t_27, g_t_28, g_t_29, g_t_30, g_t_31, g_t_32, g_t_33, g_t_34, g_t_35, g_t_36, g_t_37, g_t_38, g_t_39, g_t_40, g_t_41, g_t_42, g_t_43])), (a_t_act, .inl (cy 1, 600, .inl (aI c_act))), (a_t_has, .inl (cy 1, 45, .inl (aI c_has))), (a_t_pace, .inl (cy 1, 40, .inl (aI c_pace))), (a_t_part, .inl (cy 1, 40, .inl (aI c_part))), (a_t_speed, .inl (cy 1, 4, .inl (aI c_speed)))]
def m_X9_time (F : Nat) (x1 : Int) (x2 : Int) (c_above : Int) (c_below : Int) (c_act : Int → Int) (c_has : Int → Int) (c_pace : Int → Int) (c_part : Int → Int) (c_speed : Int → Int) : Option (Int × Int × Int × Int × (Int → Int)) :=
  bnd2 (m_X9_isWay F x1 x2 c_act c_has c_part c_speed) fun r1 o2 => if wI r1 = wI 0 then
    (some ((-2), 0, c_above, c_below, o2))
  else
    (chk (0 ≤ x1 ∧ x1 < 40) <| bnd3 (m_X9_goes F (c_pace x1) 1 c_has c_part o2) fun r5 o6 o7 => if wI r5 = wI 0 then
    (some ((-1), 0, o6, o7, o2))
  else
    (bnd1 (m_X9_half F x2 o6 o7) fun r9 => some (r9, 0, o6, o7, o2)))
section S_X9_time
variable {E : EE} {a_t a_t_act a_t_has a_t_pace a_t_part a_t_speed : Nat} {g_t_1 : Value} {g_t_2 : Value} {g_t_3 : Value} {g_t_4 : Value} {g_t_5 : Value} {g_t_6 : Value} {g_t_7 : Value} {g_t_8 : Value} {g_t_9 : Value} {g_t_10 : Value} {g_t_11 : Value} {g_t_12 : Value} {g_t_13 : Value} {g_t_14 : Value} {g_t_15 : Value} {g_t_16 : Value} {g_t_20 : Value} {g_t_22 : Value} {g_t_26 : Value} {g_t_27 : Value} {g_t_28 : Value} {g_t_29 : Value} {g_t_30 : Value} {g_t_31 : Value} {g_t_32 : Value} {g_t_33 : Value} {g_t_34 : Value} {g_t_35 : Value} {g_t_36 : Value} {g_t_37 : Value} {g_t_38 : Value} {g_t_39 : Value} {g_t_40 : Value} {g_t_41 : Value} {g_t_42 : Value} {g_t_43 : Value}
set_option maxRecDepth 100000 in
set_option maxHeartbeats 4000000 in
theorem wm_X9_time {F : Nat} {v : Int × Int × Int × Int × (Int → Int)} {x1 : Int} {x2 : Int} {c_above : Int} {c_below : Int} {c_act : Int → Int} {c_has : Int → Int} {c_pace : Int → Int} {c_part : Int → Int} {c_speed : Int → Int} {c_thrown : Int} (C : Cx E cX9_time RX9 { frames := 203, cells := 0, slots := 0, locals := 4673 }) (hN : eN E = 3) (h : m_X9_time F x1 x2 c_above c_below c_act c_has c_pace c_part c_speed = some v) (hret : ∀ (pc : Nat) (L : List (Option Value)), decode cX9_time pc = .ok (.lreturn, 1) → GG E 0 0 (W_X9_time (eCy E) a_t a_t_act a_t_has a_t_pace a_t_part a_t_speed g_t_1 g_t_2 g_t_3 g_t_4 g_t_5 g_t_6 g_t_7 g_t_8 g_t_9 g_t_10 g_t_11 g_t_12 g_t_13 g_t_14 g_t_15 g_t_16 g_t_20 g_t_22 g_t_26 g_t_27 g_t_28 g_t_29 g_t_30 g_t_31 g_t_32 g_t_33 g_t_34 g_t_35 g_t_36 g_t_37 g_t_38 g_t_39 g_t_40 g_t_41 g_t_42 g_t_43 (v.2.1) (v.2.2.1) (v.2.2.2.1) c_act c_has c_pace c_part (v.2.2.2.2)) L pc [.long (wJ (v.1))]) : GG E 0 0 (W_X9_time (eCy E) a_t a_t_act a_t_has a_t_pace a_t_part a_t_speed g_t_1 g_t_2 g_t_3 g_t_4 g_t_5 g_t_6 g_t_7 g_t_8 g_t_9 g_t_10 g_t_11 g_t_12 g_t_13 g_t_14 g_t_15 g_t_16 g_t_20 g_t_22 g_t_26 g_t_27 g_t_28 g_t_29 g_t_30 g_t_31 g_t_32 g_t_33 g_t_34 g_t_35 g_t_36 g_t_37 g_t_38 g_t_39 g_t_40 g_t_41 g_t_42 g_t_43 c_thrown c_above c_below c_act c_has c_pace c_part c_speed) [some (.ref a_t), some (.int (wI x1)), some (.int (wI x2))] 0 [] := by
  unfold m_X9_time at h
  refine g_aload_n 0 C dX9_time_0 rfl rfl ?_
  refine g_iconst C dX9_time_1 ?_
  refine g_putI C fp_X9_71 0 rfl rfl (ws' := (W_X9_time (eCy E) a_t a_t_act a_t_has a_t_pace a_t_part a_t_speed g_t_1 g_t_2 g_t_3 g_t_4 g_t_5 g_t_6 g_t_7 g_t_8 g_t_9 g_t_10 g_t_11 g_t_12 g_t_13 g_t_14 g_t_15 g_t_16 g_t_20 g_t_22 g_t_26 g_t_27 g_t_28 g_t_29 g_t_30 g_t_31 g_t_32 g_t_33 g_t_34 g_t_35 g_t_36 g_t_37 g_t_38 g_t_39 g_t_40 g_t_41 g_t_42 g_t_43 0 c_above c_below c_act c_has c_pace c_part c_speed)) rfl dX9_time_2 ?_
  refine g_aload_n 0 C dX9_time_5 rfl rfl ?_
  refine g_iload_n 1 C dX9_time_6 rfl rfl ?_
  refine g_iload_n 2 C dX9_time_7 rfl rfl ?_
  obtain ⟨r1, o2, hr3, h⟩ := bnd2_some h
  refine g_callI [0, 1, 2, 4, 5] [3] [1, 2, 3, 0, 4, 5] C mt_X9_263 (c_X9_isWay _ _ _ _ a_t a_t_act a_t_has a_t_part a_t_speed (.int (wI 0)) (g_t_1) (g_t_2) (g_t_3) (g_t_4) (g_t_5) (g_t_6) (g_t_7) (g_t_8) (g_t_9) (g_t_10) (g_t_11) (g_t_12) (g_t_13) (g_t_14) (g_t_15) (g_t_16) (.ref a_t_pace) (g_t_20) (g_t_22) (.long (wJ c_above)) (.long (wJ c_below)) (g_t_26) (g_t_27) (g_t_28) (g_t_29) (g_t_30) (g_t_31) (g_t_32) (g_t_33) (g_t_34) (g_t_35) (g_t_36) (g_t_37) (g_t_38) (g_t_39) (g_t_40) (g_t_41) (g_t_42) (g_t_43) x1 x2 c_act c_has c_part c_speed F hr3) (q0 := 0) rfl (ci := 9) rfl rfl rfl (ws2 := (W_X9_time (eCy E) a_t a_t_act a_t_has a_t_pace a_t_part a_t_speed g_t_1 g_t_2 g_t_3 g_t_4 g_t_5 g_t_6 g_t_7 g_t_8 g_t_9 g_t_10 g_t_11 g_t_12 g_t_13 g_t_14 g_t_15 g_t_16 g_t_20 g_t_22 g_t_26 g_t_27 g_t_28 g_t_29 g_t_30 g_t_31 g_t_32 g_t_33 g_t_34 g_t_35 g_t_36 g_t_37 g_t_38 g_t_39 g_t_40 g_t_41 g_t_42 g_t_43 0 c_above c_below c_act c_has c_pace c_part o2)) rfl rfl rfl (rest := []) rfl rfl rfl dX9_time_8 ?_
  refine g_if_ne 20 C dX9_time_11 (by decide) h (fun h => ?_) (fun h => ?_)
  · refine g_aload_n 0 C dX9_time_20 rfl rfl ?_
    refine g_aload_n 0 C dX9_time_21 rfl rfl ?_
    refine g_get C fg_X9_40 0 rfl rfl dX9_time_22 ?_
    refine g_iload_n 1 C dX9_time_25 rfl rfl ?_
    obtain ⟨hc4, h⟩ := chk_some h
    refine g_iald C 3 rfl hc4 rfl dX9_time_26 ?_
    refine g_iconst C dX9_time_27 ?_
    obtain ⟨r5, o6, o7, hr8, h⟩ := bnd3_some h
    refine g_callI [0, 2, 4, 5] [1, 3] [2, 0, 3, 1, 4, 5] C mt_X9_269 (c_X9_goes _ _ _ _ a_t a_t_has a_t_part a_t_speed (.int (wI 0)) (g_t_1) (g_t_2) (g_t_3) (g_t_4) (g_t_5) (g_t_6) (g_t_7) (g_t_8) (g_t_9) (g_t_10) (g_t_11) (g_t_12) (g_t_13) (g_t_14) (g_t_15) (g_t_16) (.ref a_t_pace) (g_t_20) (.ref a_t_act) (g_t_22) (g_t_26) (g_t_27) (g_t_28) (g_t_29) (g_t_30) (g_t_31) (g_t_32) (g_t_33) (g_t_34) (g_t_35) (g_t_36) (g_t_37) (g_t_38) (g_t_39) (g_t_40) (g_t_41) (g_t_42) (g_t_43) (c_pace x1) 1 c_above c_below c_has c_part o2 F hr8) (q0 := 0) rfl (ci := 9) rfl rfl rfl (ws2 := (W_X9_time (eCy E) a_t a_t_act a_t_has a_t_pace a_t_part a_t_speed g_t_1 g_t_2 g_t_3 g_t_4 g_t_5 g_t_6 g_t_7 g_t_8 g_t_9 g_t_10 g_t_11 g_t_12 g_t_13 g_t_14 g_t_15 g_t_16 g_t_20 g_t_22 g_t_26 g_t_27 g_t_28 g_t_29 g_t_30 g_t_31 g_t_32 g_t_33 g_t_34 g_t_35 g_t_36 g_t_37 g_t_38 g_t_39 g_t_40 g_t_41 g_t_42 g_t_43 0 o6 o7 c_act c_has c_pace c_part o2)) rfl rfl rfl (rest := []) rfl rfl rfl dX9_time_28 ?_
    refine g_if_eq 42 C dX9_time_31 (by decide) h (fun h => ?_) (fun h => ?_)
    · refine g_ldc2 (v := -1) C mc_X9_115 dX9_time_42 ?_
      cases h
      exact hret 45 _ dX9_time_45
    · refine g_aload_n 0 C dX9_time_34 rfl rfl ?_
      refine g_iload_n 2 C dX9_time_35 rfl rfl ?_
      obtain ⟨r9, hr10, h⟩ := bnd1_some h
      refine g_callJ [0] [1, 2, 3, 4, 5] [5, 0, 1, 2, 3, 4] C mt_X9_272 (c_X9_half _ _ _ _ a_t (.int (wI 0)) (g_t_1) (g_t_2) (g_t_3) (g_t_4) (g_t_5) (g_t_6) (g_t_7) (g_t_8) (g_t_9) (g_t_10) (g_t_11) (g_t_12) (g_t_13) (g_t_14) (g_t_15) (g_t_16) (.ref a_t_has) (.ref a_t_part) (.ref a_t_pace) (g_t_20) (.ref a_t_act) (g_t_22) (.ref a_t_speed) (g_t_26) (g_t_27) (g_t_28) (g_t_29) (g_t_30) (g_t_31) (g_t_32) (g_t_33) (g_t_34) (g_t_35) (g_t_36) (g_t_37) (g_t_38) (g_t_39) (g_t_40) (g_t_41) (g_t_42) (g_t_43) x2 o6 o7 F hr10) (q0 := 0) rfl (ci := 9) rfl rfl rfl (ws2 := (W_X9_time (eCy E) a_t a_t_act a_t_has a_t_pace a_t_part a_t_speed g_t_1 g_t_2 g_t_3 g_t_4 g_t_5 g_t_6 g_t_7 g_t_8 g_t_9 g_t_10 g_t_11 g_t_12 g_t_13 g_t_14 g_t_15 g_t_16 g_t_20 g_t_22 g_t_26 g_t_27 g_t_28 g_t_29 g_t_30 g_t_31 g_t_32 g_t_33 g_t_34 g_t_35 g_t_36 g_t_37 g_t_38 g_t_39 g_t_40 g_t_41 g_t_42 g_t_43 0 o6 o7 c_act c_has c_pace c_part o2)) rfl rfl rfl (rest := []) rfl rfl rfl dX9_time_36 ?_
      refine g_goto (tgt := 45) C dX9_time_39 (by decide) ?_
      cases h
      exact hret 45 _ dX9_time_45
  · refine g_ldc2 (v := -2) C mc_X9_267 dX9_time_14 ?_
    refine g_goto (tgt := 45) C dX9_time_17 (by decide) ?_
    cases h
    exact hret 45 _ dX9_time_45
end S_X9_time
set_option maxRecDepth 100000 in
set_option maxHeartbeats 4000000 in
theorem c_X9_time (l : Launch) (D : va_G) (cy : Nat → ClassId) (ad : AD) (a_t a_t_act a_t_has a_t_pace a_t_part a_t_speed : Nat) (g_t_1 : Value) (g_t_2 : Value) (g_t_3 : Value) (g_t_4 : Value) (g_t_5 : Value) (g_t_6 : Value) (g_t_7 : Value) (g_t_8 : Value) (g_t_9 : Value) (g_t_10 : Value) (g_t_11 : Value) (g_t_12 : Value) (g_t_13 : Value) (g_t_14 : Value) (g_t_15 : Value) (g_t_16 : Value) (g_t_20 : Value) (g_t_22 : Value) (g_t_26 : Value) (g_t_27 : Value) (g_t_28 : Value) (g_t_29 : Value) (g_t_30 : Value) (g_t_31 : Value) (g_t_32 : Value) (g_t_33 : Value) (g_t_34 : Value) (g_t_35 : Value) (g_t_36 : Value) (g_t_37 : Value) (g_t_38 : Value) (g_t_39 : Value) (g_t_40 : Value) (g_t_41 : Value) (g_t_42 : Value) (g_t_43 : Value) (x1 : Int) (x2 : Int) (c_thrown : Int) (c_above : Int) (c_below : Int) (c_act : Int → Int) (c_has : Int → Int) (c_pace : Int → Int) (c_part : Int → Int) (c_speed : Int → Int) (F : Nat) {v : Int × Int × Int × Int × (Int → Int)} (h : m_X9_time F x1 x2 c_above c_below c_act c_has c_pace c_part c_speed = some v) : Ct l yX9_time cX9_time 3 (some .long) { frames := 203, cells := 0, slots := 0, locals := 4673 } D cy ad [.ref a_t, .int (wI x1), .int (wI x2)] (W_X9_time cy a_t a_t_act a_t_has a_t_pace a_t_part a_t_speed g_t_1 g_t_2 g_t_3 g_t_4 g_t_5 g_t_6 g_t_7 g_t_8 g_t_9 g_t_10 g_t_11 g_t_12 g_t_13 g_t_14 g_t_15 g_t_16 g_t_20 g_t_22 g_t_26 g_t_27 g_t_28 g_t_29 g_t_30 g_t_31 g_t_32 g_t_33 g_t_34 g_t_35 g_t_36 g_t_37 g_t_38 g_t_39 g_t_40 g_t_41 g_t_42 g_t_43 c_thrown c_above c_below c_act c_has c_pace c_part c_speed) (W_X9_time cy a_t a_t_act a_t_has a_t_pace a_t_part a_t_speed g_t_1 g_t_2 g_t_3 g_t_4 g_t_5 g_t_6 g_t_7 g_t_8 g_t_9 g_t_10 g_t_11 g_t_12 g_t_13 g_t_14 g_t_15 g_t_16 g_t_20 g_t_22 g_t_26 g_t_27 g_t_28 g_t_29 g_t_30 g_t_31 g_t_32 g_t_33 g_t_34 g_t_35 g_t_36 g_t_37 g_t_38 g_t_39 g_t_40 g_t_41 g_t_42 g_t_43 (v.2.1) (v.2.2.1) (v.2.2.2.1) c_act c_has c_pace c_part (v.2.2.2.2)) (some (.long (wJ (v.1)))) := by
  refine Ct.introJ (j := 0) (plainFor_of_name (by decide)) rfl rfl (fun E C e1 e2 e3 e4 e5 hret => ?_)
  subst e1; subst e2; subst e3; subst e4
  exact wm_X9_time C e5 h hret
-- MovingStairModel.spends(III)J
def W_X9_spends (cy : Nat → ClassId) (a_t a_t_act a_t_has a_t_pace a_t_part a_t_speed : Nat) (g_t_1 : Value) (g_t_2 : Value) (g_t_3 : Value) (g_t_4 : Value) (g_t_5 : Value) (g_t_6 : Value) (g_t_7 : Value) (g_t_8 : Value) (g_t_9 : Value) (g_t_10 : Value) (g_t_11 : Value) (g_t_12 : Value) (g_t_13 : Value) (g_t_14 : Value) (g_t_15 : Value) (g_t_16 : Value) (g_t_20 : Value) (g_t_22 : Value) (g_t_26 : Value) (g_t_27 : Value) (g_t_28 : Value) (g_t_29 : Value) (g_t_30 : Value) (g_t_31 : Value) (g_t_32 : Value) (g_t_33 : Value) (g_t_34 : Value) (g_t_35 : Value) (g_t_36 : Value) (g_t_37 : Value) (g_t_38 : Value) (g_t_39 : Value) (g_t_40 : Value) (g_t_41 : Value) (g_t_42 : Value) (g_t_43 : Value) (c_thrown : Int) (c_above : Int) (c_below : Int) (c_act : Int → Int) (c_has : Int → Int) (c_pace : Int → Int) (c_part : Int → Int) (c_speed : Int → Int) : va_W := [(a_t, .inr (9, [.int (wI c_thrown), g_t_1, g_t_2, g_t_3, g_t_4, g_t_5, g_t_6, g_t_7, g_t_8, g_t_9, g_t_10, g_t_11, g_t_12, g_t_13, g_t_14, g_t_15, g_t_16, .ref a_t_has, .ref a_t_part, .ref a_t_pace, g_t_20, .ref a_t_act, g_t_22, .ref a_t_speed, .long (wJ c_above), .long (wJ c_below), g_t_26, g_t_27, g_t_28, g_t_29, g_t_30, g_t_31, g_t_32, g_t_33, g_t_34, g_t_35, g_t_36, g_t_37, g_t_38, g_t_39, g_t_40, g_t_41, g_t_42, g_t_43])), (a_t_act, .inl (cy 1, 600, .inl (aI c_act))), (a_t_has, .inl (cy 1, 45, .inl (aI c_has))), (a_t_pace, .inl (cy 1, 40, .inl (aI c_pace))), (a_t_part, .inl (cy 1, 40, .inl (aI c_part))), (a_t_speed, .inl (cy 1, 4, .inl (aI c_speed)))]
def m_X9_spends (F : Nat) (x1 : Int) (x2 : Int) (x3 : Int) (c_above : Int) (c_below : Int) (c_act : Int → Int) (c_has : Int → Int) (c_pace : Int → Int) (c_part : Int → Int) (c_speed : Int → Int) : Option (Int × Int × Int × Int × (Int → Int)) :=
  bnd2 (m_X9_isWay F x1 x3 c_act c_has c_part c_speed) fun r1 o2 => if wI r1 = wI 0 then
    (some ((-2), 0, c_above, c_below, o2))
  else
    (bnd1 (m_X9_isPart F x2 c_has) fun r4 => if wI r4 = wI 0 then
    (some ((-2), 0, c_above, c_below, o2))
  else
    (chk (0 ≤ x1 ∧ x1 < 40) <| chk (0 ≤ x2 ∧ x2 < 4) <| nam ((c_pace x1) + (o2 x2)) fun y8 => if wI 0 < wI y8 then
    (bnd2 (m_X9_zero F) fun o9 o10 => bnd1 (m_X9_stepsOf F x2 c_part) fun r12 => chk (r32 r12) <| chk (r32 y8) <| bnd2 (m_X9_adds F r12 y8 o9 o10) fun o16 o17 => bnd1 (m_X9_half F x3 o16 o17) fun r19 => some (r19, 0, o16, o17, o2))
  else
    (some ((-1), 0, c_above, c_below, o2))))
section S_X9_spends
variable {E : EE} {a_t a_t_act a_t_has a_t_pace a_t_part a_t_speed : Nat} {g_t_1 : Value} {g_t_2 : Value} {g_t_3 : Value} {g_t_4 : Value} {g_t_5 : Value} {g_t_6 : Value} {g_t_7 : Value} {g_t_8 : Value} {g_t_9 : Value} {g_t_10 : Value} {g_t_11 : Value} {g_t_12 : Value} {g_t_13 : Value} {g_t_14 : Value} {g_t_15 : Value} {g_t_16 : Value} {g_t_20 : Value} {g_t_22 : Value} {g_t_26 : Value} {g_t_27 : Value} {g_t_28 : Value} {g_t_29 : Value} {g_t_30 : Value} {g_t_31 : Value} {g_t_32 : Value} {g_t_33 : Value} {g_t_34 : Value} {g_t_35 : Value} {g_t_36 : Value} {g_t_37 : Value} {g_t_38 : Value} {g_t_39 : Value} {g_t_40 : Value} {g_t_41 : Value} {g_t_42 : Value} {g_t_43 : Value}
set_option maxRecDepth 100000 in
set_option maxHeartbeats 4000000 in
theorem wm_X9_spends {F : Nat} {v : Int × Int × Int × Int × (Int → Int)} {x1 : Int} {x2 : Int} {x3 : Int} {c_above : Int} {c_below : Int} {c_act : Int → Int} {c_has : Int → Int} {c_pace : Int → Int} {c_part : Int → Int} {c_speed : Int → Int} {c_thrown : Int} (C : Cx E cX9_spends RX9 { frames := 202, cells := 0, slots := 0, locals := 4649 }) (hN : eN E = 5) (h : m_X9_spends F x1 x2 x3 c_above c_below c_act c_has c_pace c_part c_speed = some v) (hret : ∀ (pc : Nat) (L : List (Option Value)), decode cX9_spends pc = .ok (.lreturn, 1) → GG E 0 0 (W_X9_spends (eCy E) a_t a_t_act a_t_has a_t_pace a_t_part a_t_speed g_t_1 g_t_2 g_t_3 g_t_4 g_t_5 g_t_6 g_t_7 g_t_8 g_t_9 g_t_10 g_t_11 g_t_12 g_t_13 g_t_14 g_t_15 g_t_16 g_t_20 g_t_22 g_t_26 g_t_27 g_t_28 g_t_29 g_t_30 g_t_31 g_t_32 g_t_33 g_t_34 g_t_35 g_t_36 g_t_37 g_t_38 g_t_39 g_t_40 g_t_41 g_t_42 g_t_43 (v.2.1) (v.2.2.1) (v.2.2.2.1) c_act c_has c_pace c_part (v.2.2.2.2)) L pc [.long (wJ (v.1))]) : GG E 0 0 (W_X9_spends (eCy E) a_t a_t_act a_t_has a_t_pace a_t_part a_t_speed g_t_1 g_t_2 g_t_3 g_t_4 g_t_5 g_t_6 g_t_7 g_t_8 g_t_9 g_t_10 g_t_11 g_t_12 g_t_13 g_t_14 g_t_15 g_t_16 g_t_20 g_t_22 g_t_26 g_t_27 g_t_28 g_t_29 g_t_30 g_t_31 g_t_32 g_t_33 g_t_34 g_t_35 g_t_36 g_t_37 g_t_38 g_t_39 g_t_40 g_t_41 g_t_42 g_t_43 c_thrown c_above c_below c_act c_has c_pace c_part c_speed) [some (.ref a_t), some (.int (wI x1)), some (.int (wI x2)), some (.int (wI x3)), none] 0 [] := by
  unfold m_X9_spends at h
  refine g_aload_n 0 C dX9_spends_0 rfl rfl ?_
  refine g_iconst C dX9_spends_1 ?_
  refine g_putI C fp_X9_71 0 rfl rfl (ws' := (W_X9_spends (eCy E) a_t a_t_act a_t_has a_t_pace a_t_part a_t_speed g_t_1 g_t_2 g_t_3 g_t_4 g_t_5 g_t_6 g_t_7 g_t_8 g_t_9 g_t_10 g_t_11 g_t_12 g_t_13 g_t_14 g_t_15 g_t_16 g_t_20 g_t_22 g_t_26 g_t_27 g_t_28 g_t_29 g_t_30 g_t_31 g_t_32 g_t_33 g_t_34 g_t_35 g_t_36 g_t_37 g_t_38 g_t_39 g_t_40 g_t_41 g_t_42 g_t_43 0 c_above c_below c_act c_has c_pace c_part c_speed)) rfl dX9_spends_2 ?_
  refine g_aload_n 0 C dX9_spends_5 rfl rfl ?_
  refine g_iload_n 1 C dX9_spends_6 rfl rfl ?_
  refine g_iload_n 3 C dX9_spends_7 rfl rfl ?_
  obtain ⟨r1, o2, hr3, h⟩ := bnd2_some h
  refine g_callI [0, 1, 2, 4, 5] [3] [1, 2, 3, 0, 4, 5] C mt_X9_263 (c_X9_isWay _ _ _ _ a_t a_t_act a_t_has a_t_part a_t_speed (.int (wI 0)) (g_t_1) (g_t_2) (g_t_3) (g_t_4) (g_t_5) (g_t_6) (g_t_7) (g_t_8) (g_t_9) (g_t_10) (g_t_11) (g_t_12) (g_t_13) (g_t_14) (g_t_15) (g_t_16) (.ref a_t_pace) (g_t_20) (g_t_22) (.long (wJ c_above)) (.long (wJ c_below)) (g_t_26) (g_t_27) (g_t_28) (g_t_29) (g_t_30) (g_t_31) (g_t_32) (g_t_33) (g_t_34) (g_t_35) (g_t_36) (g_t_37) (g_t_38) (g_t_39) (g_t_40) (g_t_41) (g_t_42) (g_t_43) x1 x3 c_act c_has c_part c_speed F hr3) (q0 := 0) rfl (ci := 9) rfl rfl rfl (ws2 := (W_X9_spends (eCy E) a_t a_t_act a_t_has a_t_pace a_t_part a_t_speed g_t_1 g_t_2 g_t_3 g_t_4 g_t_5 g_t_6 g_t_7 g_t_8 g_t_9 g_t_10 g_t_11 g_t_12 g_t_13 g_t_14 g_t_15 g_t_16 g_t_20 g_t_22 g_t_26 g_t_27 g_t_28 g_t_29 g_t_30 g_t_31 g_t_32 g_t_33 g_t_34 g_t_35 g_t_36 g_t_37 g_t_38 g_t_39 g_t_40 g_t_41 g_t_42 g_t_43 0 c_above c_below c_act c_has c_pace c_part o2)) rfl rfl rfl (rest := []) rfl rfl rfl dX9_spends_8 ?_
  refine g_if_eq 22 C dX9_spends_11 (by decide) h (fun h => ?_) (fun h => ?_)
  · refine g_ldc2 (v := -2) C mc_X9_267 dX9_spends_22 ?_
    cases h
    exact hret 25 _ dX9_spends_25
  · refine g_aload_n 0 C dX9_spends_14 rfl rfl ?_
    refine g_iload_n 2 C dX9_spends_15 rfl rfl ?_
    obtain ⟨r4, hr5, h⟩ := bnd1_some h
    refine g_callI [0, 2] [1, 3, 4, 5] [4, 0, 5, 1, 2, 3] C mt_X9_227 (c_X9_isPart _ _ _ _ a_t a_t_has (.int (wI 0)) (g_t_1) (g_t_2) (g_t_3) (g_t_4) (g_t_5) (g_t_6) (g_t_7) (g_t_8) (g_t_9) (g_t_10) (g_t_11) (g_t_12) (g_t_13) (g_t_14) (g_t_15) (g_t_16) (.ref a_t_part) (.ref a_t_pace) (g_t_20) (.ref a_t_act) (g_t_22) (.ref a_t_speed) (.long (wJ c_above)) (.long (wJ c_below)) (g_t_26) (g_t_27) (g_t_28) (g_t_29) (g_t_30) (g_t_31) (g_t_32) (g_t_33) (g_t_34) (g_t_35) (g_t_36) (g_t_37) (g_t_38) (g_t_39) (g_t_40) (g_t_41) (g_t_42) (g_t_43) x2 c_has F hr5) (q0 := 0) rfl (ci := 9) rfl rfl rfl (ws2 := (W_X9_spends (eCy E) a_t a_t_act a_t_has a_t_pace a_t_part a_t_speed g_t_1 g_t_2 g_t_3 g_t_4 g_t_5 g_t_6 g_t_7 g_t_8 g_t_9 g_t_10 g_t_11 g_t_12 g_t_13 g_t_14 g_t_15 g_t_16 g_t_20 g_t_22 g_t_26 g_t_27 g_t_28 g_t_29 g_t_30 g_t_31 g_t_32 g_t_33 g_t_34 g_t_35 g_t_36 g_t_37 g_t_38 g_t_39 g_t_40 g_t_41 g_t_42 g_t_43 0 c_above c_below c_act c_has c_pace c_part o2)) rfl rfl rfl (rest := []) rfl rfl rfl dX9_spends_16 ?_
    refine g_if_ne 26 C dX9_spends_19 (by decide) h (fun h => ?_) (fun h => ?_)
    · refine g_aload_n 0 C dX9_spends_26 rfl rfl ?_
      refine g_get C fg_X9_40 0 rfl rfl dX9_spends_27 ?_
      refine g_iload_n 1 C dX9_spends_30 rfl rfl ?_
      obtain ⟨hc6, h⟩ := chk_some h
      refine g_iald C 3 rfl hc6 rfl dX9_spends_31 ?_
      refine g_aload_n 0 C dX9_spends_32 rfl rfl ?_
      refine g_get C fg_X9_53 0 rfl rfl dX9_spends_33 ?_
      refine g_iload_n 2 C dX9_spends_36 rfl rfl ?_
      obtain ⟨hc7, h⟩ := chk_some h
      refine g_iald C 5 rfl hc7 rfl dX9_spends_37 ?_
      refine g_iadd C dX9_spends_38 ?_
      obtain ⟨y8, e_y8, h⟩ := nam_some h
      refine g_topI e_y8 ?_
      refine g_istore C hN dX9_spends_39 rfl (L' := [some (.ref a_t), some (.int (wI x1)), some (.int (wI x2)), some (.int (wI x3)), some (.int (wI y8))]) rfl ?_
      refine g_iload C dX9_spends_41 rfl ?_
      refine g_if_gt 50 C dX9_spends_43 (by decide) h (fun h => ?_) (fun h => ?_)
      · refine g_aload_n 0 C dX9_spends_50 rfl rfl ?_
        obtain ⟨o9, o10, hr11, h⟩ := bnd2_some h
        refine g_callV [0] [1, 2, 3, 4, 5] [5, 0, 1, 2, 3, 4] C mt_X9_253 (c_X9_zero _ _ _ _ a_t (.int (wI 0)) (g_t_1) (g_t_2) (g_t_3) (g_t_4) (g_t_5) (g_t_6) (g_t_7) (g_t_8) (g_t_9) (g_t_10) (g_t_11) (g_t_12) (g_t_13) (g_t_14) (g_t_15) (g_t_16) (.ref a_t_has) (.ref a_t_part) (.ref a_t_pace) (g_t_20) (.ref a_t_act) (g_t_22) (.ref a_t_speed) (g_t_26) (g_t_27) (g_t_28) (g_t_29) (g_t_30) (g_t_31) (g_t_32) (g_t_33) (g_t_34) (g_t_35) (g_t_36) (g_t_37) (g_t_38) (g_t_39) (g_t_40) (g_t_41) (g_t_42) (g_t_43) c_above c_below F hr11) (q0 := 0) rfl (ci := 9) rfl rfl rfl (ws2 := (W_X9_spends (eCy E) a_t a_t_act a_t_has a_t_pace a_t_part a_t_speed g_t_1 g_t_2 g_t_3 g_t_4 g_t_5 g_t_6 g_t_7 g_t_8 g_t_9 g_t_10 g_t_11 g_t_12 g_t_13 g_t_14 g_t_15 g_t_16 g_t_20 g_t_22 g_t_26 g_t_27 g_t_28 g_t_29 g_t_30 g_t_31 g_t_32 g_t_33 g_t_34 g_t_35 g_t_36 g_t_37 g_t_38 g_t_39 g_t_40 g_t_41 g_t_42 g_t_43 0 o9 o10 c_act c_has c_pace c_part o2)) rfl rfl rfl (rest := []) rfl rfl rfl dX9_spends_51 ?_
        refine g_aload_n 0 C dX9_spends_54 rfl rfl ?_
        refine g_aload_n 0 C dX9_spends_55 rfl rfl ?_
        refine g_iload_n 2 C dX9_spends_56 rfl rfl ?_
        obtain ⟨r12, hr13, h⟩ := bnd1_some h
        refine g_callI [0, 4] [1, 2, 3, 5] [4, 0, 1, 2, 5, 3] C mt_X9_233 (c_X9_stepsOf _ _ _ _ a_t a_t_part (.int (wI 0)) (g_t_1) (g_t_2) (g_t_3) (g_t_4) (g_t_5) (g_t_6) (g_t_7) (g_t_8) (g_t_9) (g_t_10) (g_t_11) (g_t_12) (g_t_13) (g_t_14) (g_t_15) (g_t_16) (.ref a_t_has) (.ref a_t_pace) (g_t_20) (.ref a_t_act) (g_t_22) (.ref a_t_speed) (.long (wJ o9)) (.long (wJ o10)) (g_t_26) (g_t_27) (g_t_28) (g_t_29) (g_t_30) (g_t_31) (g_t_32) (g_t_33) (g_t_34) (g_t_35) (g_t_36) (g_t_37) (g_t_38) (g_t_39) (g_t_40) (g_t_41) (g_t_42) (g_t_43) x2 c_part F hr13) (q0 := 0) rfl (ci := 9) rfl rfl rfl (ws2 := (W_X9_spends (eCy E) a_t a_t_act a_t_has a_t_pace a_t_part a_t_speed g_t_1 g_t_2 g_t_3 g_t_4 g_t_5 g_t_6 g_t_7 g_t_8 g_t_9 g_t_10 g_t_11 g_t_12 g_t_13 g_t_14 g_t_15 g_t_16 g_t_20 g_t_22 g_t_26 g_t_27 g_t_28 g_t_29 g_t_30 g_t_31 g_t_32 g_t_33 g_t_34 g_t_35 g_t_36 g_t_37 g_t_38 g_t_39 g_t_40 g_t_41 g_t_42 g_t_43 0 o9 o10 c_act c_has c_pace c_part o2)) rfl rfl rfl (rest := [.ref a_t]) rfl rfl rfl dX9_spends_57 ?_
        obtain ⟨hc14, h⟩ := chk_some h
        refine g_i2l C dX9_spends_60 hc14 ?_
        refine g_iload C dX9_spends_61 rfl ?_
        obtain ⟨hc15, h⟩ := chk_some h
        refine g_i2l C dX9_spends_63 hc15 ?_
        obtain ⟨o16, o17, hr18, h⟩ := bnd2_some h
        refine g_callV [0] [1, 2, 3, 4, 5] [5, 0, 1, 2, 3, 4] C mt_X9_256 (c_X9_adds _ _ _ _ a_t (.int (wI 0)) (g_t_1) (g_t_2) (g_t_3) (g_t_4) (g_t_5) (g_t_6) (g_t_7) (g_t_8) (g_t_9) (g_t_10) (g_t_11) (g_t_12) (g_t_13) (g_t_14) (g_t_15) (g_t_16) (.ref a_t_has) (.ref a_t_part) (.ref a_t_pace) (g_t_20) (.ref a_t_act) (g_t_22) (.ref a_t_speed) (g_t_26) (g_t_27) (g_t_28) (g_t_29) (g_t_30) (g_t_31) (g_t_32) (g_t_33) (g_t_34) (g_t_35) (g_t_36) (g_t_37) (g_t_38) (g_t_39) (g_t_40) (g_t_41) (g_t_42) (g_t_43) r12 y8 o9 o10 F hr18) (q0 := 0) rfl (ci := 9) rfl rfl rfl (ws2 := (W_X9_spends (eCy E) a_t a_t_act a_t_has a_t_pace a_t_part a_t_speed g_t_1 g_t_2 g_t_3 g_t_4 g_t_5 g_t_6 g_t_7 g_t_8 g_t_9 g_t_10 g_t_11 g_t_12 g_t_13 g_t_14 g_t_15 g_t_16 g_t_20 g_t_22 g_t_26 g_t_27 g_t_28 g_t_29 g_t_30 g_t_31 g_t_32 g_t_33 g_t_34 g_t_35 g_t_36 g_t_37 g_t_38 g_t_39 g_t_40 g_t_41 g_t_42 g_t_43 0 o16 o17 c_act c_has c_pace c_part o2)) rfl rfl rfl (rest := []) rfl rfl rfl dX9_spends_64 ?_
        refine g_aload_n 0 C dX9_spends_67 rfl rfl ?_
        refine g_iload_n 3 C dX9_spends_68 rfl rfl ?_
        obtain ⟨r19, hr20, h⟩ := bnd1_some h
        refine g_callJ [0] [1, 2, 3, 4, 5] [5, 0, 1, 2, 3, 4] C mt_X9_272 (c_X9_half _ _ _ _ a_t (.int (wI 0)) (g_t_1) (g_t_2) (g_t_3) (g_t_4) (g_t_5) (g_t_6) (g_t_7) (g_t_8) (g_t_9) (g_t_10) (g_t_11) (g_t_12) (g_t_13) (g_t_14) (g_t_15) (g_t_16) (.ref a_t_has) (.ref a_t_part) (.ref a_t_pace) (g_t_20) (.ref a_t_act) (g_t_22) (.ref a_t_speed) (g_t_26) (g_t_27) (g_t_28) (g_t_29) (g_t_30) (g_t_31) (g_t_32) (g_t_33) (g_t_34) (g_t_35) (g_t_36) (g_t_37) (g_t_38) (g_t_39) (g_t_40) (g_t_41) (g_t_42) (g_t_43) x3 o16 o17 F hr20) (q0 := 0) rfl (ci := 9) rfl rfl rfl (ws2 := (W_X9_spends (eCy E) a_t a_t_act a_t_has a_t_pace a_t_part a_t_speed g_t_1 g_t_2 g_t_3 g_t_4 g_t_5 g_t_6 g_t_7 g_t_8 g_t_9 g_t_10 g_t_11 g_t_12 g_t_13 g_t_14 g_t_15 g_t_16 g_t_20 g_t_22 g_t_26 g_t_27 g_t_28 g_t_29 g_t_30 g_t_31 g_t_32 g_t_33 g_t_34 g_t_35 g_t_36 g_t_37 g_t_38 g_t_39 g_t_40 g_t_41 g_t_42 g_t_43 0 o16 o17 c_act c_has c_pace c_part o2)) rfl rfl rfl (rest := []) rfl rfl rfl dX9_spends_69 ?_
        cases h
        exact hret 72 _ dX9_spends_72
      · refine g_ldc2 (v := -1) C mc_X9_115 dX9_spends_46 ?_
        cases h
        exact hret 49 _ dX9_spends_49
    · refine g_ldc2 (v := -2) C mc_X9_267 dX9_spends_22 ?_
      cases h
      exact hret 25 _ dX9_spends_25
end S_X9_spends
set_option maxRecDepth 100000 in
set_option maxHeartbeats 4000000 in
theorem c_X9_spends (l : Launch) (D : va_G) (cy : Nat → ClassId) (ad : AD) (a_t a_t_act a_t_has a_t_pace a_t_part a_t_speed : Nat) (g_t_1 : Value) (g_t_2 : Value) (g_t_3 : Value) (g_t_4 : Value) (g_t_5 : Value) (g_t_6 : Value) (g_t_7 : Value) (g_t_8 : Value) (g_t_9 : Value) (g_t_10 : Value) (g_t_11 : Value) (g_t_12 : Value) (g_t_13 : Value) (g_t_14 : Value) (g_t_15 : Value) (g_t_16 : Value) (g_t_20 : Value) (g_t_22 : Value) (g_t_26 : Value) (g_t_27 : Value) (g_t_28 : Value) (g_t_29 : Value) (g_t_30 : Value) (g_t_31 : Value) (g_t_32 : Value) (g_t_33 : Value) (g_t_34 : Value) (g_t_35 : Value) (g_t_36 : Value) (g_t_37 : Value) (g_t_38 : Value) (g_t_39 : Value) (g_t_40 : Value) (g_t_41 : Value) (g_t_42 : Value) (g_t_43 : Value) (x1 : Int) (x2 : Int) (x3 : Int) (c_thrown : Int) (c_above : Int) (c_below : Int) (c_act : Int → Int) (c_has : Int → Int) (c_pace : Int → Int) (c_part : Int → Int) (c_speed : Int → Int) (F : Nat) {v : Int × Int × Int × Int × (Int → Int)} (h : m_X9_spends F x1 x2 x3 c_above c_below c_act c_has c_pace c_part c_speed = some v) : Ct l yX9_spends cX9_spends 5 (some .long) { frames := 202, cells := 0, slots := 0, locals := 4649 } D cy ad [.ref a_t, .int (wI x1), .int (wI x2), .int (wI x3)] (W_X9_spends cy a_t a_t_act a_t_has a_t_pace a_t_part a_t_speed g_t_1 g_t_2 g_t_3 g_t_4 g_t_5 g_t_6 g_t_7 g_t_8 g_t_9 g_t_10 g_t_11 g_t_12 g_t_13 g_t_14 g_t_15 g_t_16 g_t_20 g_t_22 g_t_26 g_t_27 g_t_28 g_t_29 g_t_30 g_t_31 g_t_32 g_t_33 g_t_34 g_t_35 g_t_36 g_t_37 g_t_38 g_t_39 g_t_40 g_t_41 g_t_42 g_t_43 c_thrown c_above c_below c_act c_has c_pace c_part c_speed) (W_X9_spends cy a_t a_t_act a_t_has a_t_pace a_t_part a_t_speed g_t_1 g_t_2 g_t_3 g_t_4 g_t_5 g_t_6 g_t_7 g_t_8 g_t_9 g_t_10 g_t_11 g_t_12 g_t_13 g_t_14 g_t_15 g_t_16 g_t_20 g_t_22 g_t_26 g_t_27 g_t_28 g_t_29 g_t_30 g_t_31 g_t_32 g_t_33 g_t_34 g_t_35 g_t_36 g_t_37 g_t_38 g_t_39 g_t_40 g_t_41 g_t_42 g_t_43 (v.2.1) (v.2.2.1) (v.2.2.2.1) c_act c_has c_pace c_part (v.2.2.2.2)) (some (.long (wJ (v.1)))) := by
  refine Ct.introJ (j := 1) (plainFor_of_name (by decide)) rfl rfl (fun E C e1 e2 e3 e4 e5 hret => ?_)
  subst e1; subst e2; subst e3; subst e4
  exact wm_X9_spends C e5 h hret
-- MovingStairModel.steps(II)J
def W_X9_steps (cy : Nat → ClassId) (a_t a_t_act a_t_has a_t_pace a_t_part a_t_speed : Nat) (g_t_1 : Value) (g_t_2 : Value) (g_t_3 : Value) (g_t_4 : Value) (g_t_5 : Value) (g_t_6 : Value) (g_t_7 : Value) (g_t_8 : Value) (g_t_9 : Value) (g_t_10 : Value) (g_t_11 : Value) (g_t_12 : Value) (g_t_13 : Value) (g_t_14 : Value) (g_t_15 : Value) (g_t_16 : Value) (g_t_20 : Value) (g_t_22 : Value) (g_t_26 : Value) (g_t_27 : Value) (g_t_28 : Value) (g_t_29 : Value) (g_t_30 : Value) (g_t_31 : Value) (g_t_32 : Value) (g_t_33 : Value) (g_t_34 : Value) (g_t_35 : Value) (g_t_36 : Value) (g_t_37 : Value) (g_t_38 : Value) (g_t_39 : Value) (g_t_40 : Value) (g_t_41 : Value) (g_t_42 : Value) (g_t_43 : Value) (c_thrown : Int) (c_above : Int) (c_below : Int) (c_act : Int → Int) (c_has : Int → Int) (c_pace : Int → Int) (c_part : Int → Int) (c_speed : Int → Int) : va_W := [(a_t, .inr (9, [.int (wI c_thrown), g_t_1, g_t_2, g_t_3, g_t_4, g_t_5, g_t_6, g_t_7, g_t_8, g_t_9, g_t_10, g_t_11, g_t_12, g_t_13, g_t_14, g_t_15, g_t_16, .ref a_t_has, .ref a_t_part, .ref a_t_pace, g_t_20, .ref a_t_act, g_t_22, .ref a_t_speed, .long (wJ c_above), .long (wJ c_below), g_t_26, g_t_27, g_t_28, g_t_29, g_t_30, g_t_31, g_t_32, g_t_33, g_t_34, g_t_35, g_t_36, g_t_37, g_t_38, g_t_39, g_t_40, g_t_41, g_t_42, g_t_43])), (a_t_act, .inl (cy 1, 600, .inl (aI c_act))), (a_t_has, .inl (cy 1, 45, .inl (aI c_has))), (a_t_pace, .inl (cy 1, 40, .inl (aI c_pace))), (a_t_part, .inl (cy 1, 40, .inl (aI c_part))), (a_t_speed, .inl (cy 1, 4, .inl (aI c_speed)))]
def mb_X9_steps_42 (F : Nat) (k42 : Int → Int → Int → Option (Int × Int × Int × Int × (Int → Int))) (x1 : Int) (x2 : Int) (x3 : Int) (c_thrown : Int) (c_above : Int) (c_below : Int) (c_has : Int → Int) (c_pace : Int → Int) (c_part : Int → Int) (c_speed : Int → Int) : Option (Int × Int × Int × Int × (Int → Int)) :=
  if wI (c_has 1) ≤ wI x3 then
    (bnd1 (m_X9_half F x2 c_above c_below) fun r1 => some (r1, c_thrown, c_above, c_below, c_speed))
  else
    (chk (0 ≤ x1 ∧ x1 < 40) <| chk (r32 (c_pace x1)) <| bnd1 (m_X9_stepsOf F x3 c_part) fun r3 => chk (r32 r3) <| chk (0 ≤ x1 ∧ x1 < 40) <| chk (0 ≤ x3 ∧ x3 < 4) <| chk (r32 ((c_pace x1) + (c_speed x3))) <| bnd2 (m_X9_adds F ((c_pace x1) * r3) ((c_pace x1) + (c_speed x3)) c_above c_below) fun o9 o10 => k42 (x3 + 1) o9 o10)
def ml_X9_steps_42 (F : Nat) (x1 : Int) (x2 : Int) (x3 : Int) (c_thrown : Int) (c_above : Int) (c_below : Int) (c_has : Int → Int) (c_pace : Int → Int) (c_part : Int → Int) (c_speed : Int → Int) : Option (Int × Int × Int × Int × (Int → Int)) :=
  loopN (fun (k : Int × Int × Int → Option (Int × Int × Int × Int × (Int → Int))) q => mb_X9_steps_42 F (fun y0 y1 y2 => k (y0, y1, y2)) x1 x2 q.1 c_thrown q.2.1 q.2.2 c_has c_pace c_part c_speed) F (x3, c_above, c_below)
def m_X9_steps (F : Nat) (x1 : Int) (x2 : Int) (c_above : Int) (c_below : Int) (c_act : Int → Int) (c_has : Int → Int) (c_pace : Int → Int) (c_part : Int → Int) (c_speed : Int → Int) : Option (Int × Int × Int × Int × (Int → Int)) :=
  bnd2 (m_X9_isWay F x1 x2 c_act c_has c_part c_speed) fun r1 o2 => if wI r1 = wI 0 then
    (some ((-2), 0, c_above, c_below, o2))
  else
    (chk (0 ≤ x1 ∧ x1 < 40) <| bnd3 (m_X9_goes F (c_pace x1) 1 c_has c_part o2) fun r5 o6 o7 => if wI r5 = wI 0 then
    (some ((-1), 0, o6, o7, o2))
  else
    (bnd2 (m_X9_zero F) fun o9 o10 => ml_X9_steps_42 F x1 x2 0 0 o9 o10 c_has c_pace c_part o2))
section S_X9_steps
variable {E : EE} {a_t a_t_act a_t_has a_t_pace a_t_part a_t_speed : Nat} {g_t_1 : Value} {g_t_2 : Value} {g_t_3 : Value} {g_t_4 : Value} {g_t_5 : Value} {g_t_6 : Value} {g_t_7 : Value} {g_t_8 : Value} {g_t_9 : Value} {g_t_10 : Value} {g_t_11 : Value} {g_t_12 : Value} {g_t_13 : Value} {g_t_14 : Value} {g_t_15 : Value} {g_t_16 : Value} {g_t_20 : Value} {g_t_22 : Value} {g_t_26 : Value} {g_t_27 : Value} {g_t_28 : Value} {g_t_29 : Value} {g_t_30 : Value} {g_t_31 : Value} {g_t_32 : Value} {g_t_33 : Value} {g_t_34 : Value} {g_t_35 : Value} {g_t_36 : Value} {g_t_37 : Value} {g_t_38 : Value} {g_t_39 : Value} {g_t_40 : Value} {g_t_41 : Value} {g_t_42 : Value} {g_t_43 : Value}
set_option maxRecDepth 100000 in
set_option maxHeartbeats 4000000 in
theorem wb_X9_steps_42 {F : Nat} {k42 : Int → Int → Int → Option (Int × Int × Int × Int × (Int → Int))} {v : Int × Int × Int × Int × (Int → Int)} {x1 : Int} {x2 : Int} {x3 : Int} {c_thrown : Int} {c_above : Int} {c_below : Int} {c_has : Int → Int} {c_pace : Int → Int} {c_part : Int → Int} {c_speed : Int → Int} {c_act : Int → Int} (C : Cx E cX9_steps RX9 { frames := 203, cells := 0, slots := 0, locals := 4673 }) (hN : eN E = 4) (h : mb_X9_steps_42 F k42 x1 x2 x3 c_thrown c_above c_below c_has c_pace c_part c_speed = some v) (hk42 : ∀ (y_x3 : Int) (y_c_above : Int) (y_c_below : Int), k42 y_x3 y_c_above y_c_below = some v → GG E 0 0 (W_X9_steps (eCy E) a_t a_t_act a_t_has a_t_pace a_t_part a_t_speed g_t_1 g_t_2 g_t_3 g_t_4 g_t_5 g_t_6 g_t_7 g_t_8 g_t_9 g_t_10 g_t_11 g_t_12 g_t_13 g_t_14 g_t_15 g_t_16 g_t_20 g_t_22 g_t_26 g_t_27 g_t_28 g_t_29 g_t_30 g_t_31 g_t_32 g_t_33 g_t_34 g_t_35 g_t_36 g_t_37 g_t_38 g_t_39 g_t_40 g_t_41 g_t_42 g_t_43 c_thrown y_c_above y_c_below c_act c_has c_pace c_part c_speed) [some (.ref a_t), some (.int (wI x1)), some (.int (wI x2)), some (.int (wI y_x3))] 42 []) (hret : ∀ (pc : Nat) (L : List (Option Value)), decode cX9_steps pc = .ok (.lreturn, 1) → GG E 0 0 (W_X9_steps (eCy E) a_t a_t_act a_t_has a_t_pace a_t_part a_t_speed g_t_1 g_t_2 g_t_3 g_t_4 g_t_5 g_t_6 g_t_7 g_t_8 g_t_9 g_t_10 g_t_11 g_t_12 g_t_13 g_t_14 g_t_15 g_t_16 g_t_20 g_t_22 g_t_26 g_t_27 g_t_28 g_t_29 g_t_30 g_t_31 g_t_32 g_t_33 g_t_34 g_t_35 g_t_36 g_t_37 g_t_38 g_t_39 g_t_40 g_t_41 g_t_42 g_t_43 (v.2.1) (v.2.2.1) (v.2.2.2.1) c_act c_has c_pace c_part (v.2.2.2.2)) L pc [.long (wJ (v.1))]) : GG E 0 0 (W_X9_steps (eCy E) a_t a_t_act a_t_has a_t_pace a_t_part a_t_speed g_t_1 g_t_2 g_t_3 g_t_4 g_t_5 g_t_6 g_t_7 g_t_8 g_t_9 g_t_10 g_t_11 g_t_12 g_t_13 g_t_14 g_t_15 g_t_16 g_t_20 g_t_22 g_t_26 g_t_27 g_t_28 g_t_29 g_t_30 g_t_31 g_t_32 g_t_33 g_t_34 g_t_35 g_t_36 g_t_37 g_t_38 g_t_39 g_t_40 g_t_41 g_t_42 g_t_43 c_thrown c_above c_below c_act c_has c_pace c_part c_speed) [some (.ref a_t), some (.int (wI x1)), some (.int (wI x2)), some (.int (wI x3))] 42 [] := by
  unfold mb_X9_steps_42 at h
  refine g_iload_n 3 C dX9_steps_42 rfl rfl ?_
  refine g_aload_n 0 C dX9_steps_43 rfl rfl ?_
  refine g_get C fg_X9_34 0 rfl rfl dX9_steps_44 ?_
  refine g_iconst C dX9_steps_47 ?_
  refine g_iald C 2 rfl (by decide) rfl dX9_steps_48 ?_
  refine g_icmp_ge 90 C dX9_steps_49 (by decide) h (fun h => ?_) (fun h => ?_)
  · refine g_aload_n 0 C dX9_steps_90 rfl rfl ?_
    refine g_iload_n 2 C dX9_steps_91 rfl rfl ?_
    obtain ⟨r1, hr2, h⟩ := bnd1_some h
    refine g_callJ [0] [1, 2, 3, 4, 5] [5, 0, 1, 2, 3, 4] C mt_X9_272 (c_X9_half _ _ _ _ a_t (.int (wI c_thrown)) (g_t_1) (g_t_2) (g_t_3) (g_t_4) (g_t_5) (g_t_6) (g_t_7) (g_t_8) (g_t_9) (g_t_10) (g_t_11) (g_t_12) (g_t_13) (g_t_14) (g_t_15) (g_t_16) (.ref a_t_has) (.ref a_t_part) (.ref a_t_pace) (g_t_20) (.ref a_t_act) (g_t_22) (.ref a_t_speed) (g_t_26) (g_t_27) (g_t_28) (g_t_29) (g_t_30) (g_t_31) (g_t_32) (g_t_33) (g_t_34) (g_t_35) (g_t_36) (g_t_37) (g_t_38) (g_t_39) (g_t_40) (g_t_41) (g_t_42) (g_t_43) x2 c_above c_below F hr2) (q0 := 0) rfl (ci := 9) rfl rfl rfl (ws2 := (W_X9_steps (eCy E) a_t a_t_act a_t_has a_t_pace a_t_part a_t_speed g_t_1 g_t_2 g_t_3 g_t_4 g_t_5 g_t_6 g_t_7 g_t_8 g_t_9 g_t_10 g_t_11 g_t_12 g_t_13 g_t_14 g_t_15 g_t_16 g_t_20 g_t_22 g_t_26 g_t_27 g_t_28 g_t_29 g_t_30 g_t_31 g_t_32 g_t_33 g_t_34 g_t_35 g_t_36 g_t_37 g_t_38 g_t_39 g_t_40 g_t_41 g_t_42 g_t_43 c_thrown c_above c_below c_act c_has c_pace c_part c_speed)) rfl rfl rfl (rest := []) rfl rfl rfl dX9_steps_92 ?_
    cases h
    exact hret 95 _ dX9_steps_95
  · refine g_aload_n 0 C dX9_steps_52 rfl rfl ?_
    refine g_aload_n 0 C dX9_steps_53 rfl rfl ?_
    refine g_get C fg_X9_40 0 rfl rfl dX9_steps_54 ?_
    refine g_iload_n 1 C dX9_steps_57 rfl rfl ?_
    obtain ⟨hc1, h⟩ := chk_some h
    refine g_iald C 3 rfl hc1 rfl dX9_steps_58 ?_
    obtain ⟨hc2, h⟩ := chk_some h
    refine g_i2l C dX9_steps_59 hc2 ?_
    refine g_aload_n 0 C dX9_steps_60 rfl rfl ?_
    refine g_iload_n 3 C dX9_steps_61 rfl rfl ?_
    obtain ⟨r3, hr4, h⟩ := bnd1_some h
    refine g_callI [0, 4] [1, 2, 3, 5] [4, 0, 1, 2, 5, 3] C mt_X9_233 (c_X9_stepsOf _ _ _ _ a_t a_t_part (.int (wI c_thrown)) (g_t_1) (g_t_2) (g_t_3) (g_t_4) (g_t_5) (g_t_6) (g_t_7) (g_t_8) (g_t_9) (g_t_10) (g_t_11) (g_t_12) (g_t_13) (g_t_14) (g_t_15) (g_t_16) (.ref a_t_has) (.ref a_t_pace) (g_t_20) (.ref a_t_act) (g_t_22) (.ref a_t_speed) (.long (wJ c_above)) (.long (wJ c_below)) (g_t_26) (g_t_27) (g_t_28) (g_t_29) (g_t_30) (g_t_31) (g_t_32) (g_t_33) (g_t_34) (g_t_35) (g_t_36) (g_t_37) (g_t_38) (g_t_39) (g_t_40) (g_t_41) (g_t_42) (g_t_43) x3 c_part F hr4) (q0 := 0) rfl (ci := 9) rfl rfl rfl (ws2 := (W_X9_steps (eCy E) a_t a_t_act a_t_has a_t_pace a_t_part a_t_speed g_t_1 g_t_2 g_t_3 g_t_4 g_t_5 g_t_6 g_t_7 g_t_8 g_t_9 g_t_10 g_t_11 g_t_12 g_t_13 g_t_14 g_t_15 g_t_16 g_t_20 g_t_22 g_t_26 g_t_27 g_t_28 g_t_29 g_t_30 g_t_31 g_t_32 g_t_33 g_t_34 g_t_35 g_t_36 g_t_37 g_t_38 g_t_39 g_t_40 g_t_41 g_t_42 g_t_43 c_thrown c_above c_below c_act c_has c_pace c_part c_speed)) rfl rfl rfl (rest := [.long (wJ (c_pace x1)), .ref a_t]) rfl rfl rfl dX9_steps_62 ?_
    obtain ⟨hc5, h⟩ := chk_some h
    refine g_i2l C dX9_steps_65 hc5 ?_
    refine g_lmul C dX9_steps_66 ?_
    refine g_aload_n 0 C dX9_steps_67 rfl rfl ?_
    refine g_get C fg_X9_40 0 rfl rfl dX9_steps_68 ?_
    refine g_iload_n 1 C dX9_steps_71 rfl rfl ?_
    obtain ⟨hc6, h⟩ := chk_some h
    refine g_iald C 3 rfl hc6 rfl dX9_steps_72 ?_
    refine g_aload_n 0 C dX9_steps_73 rfl rfl ?_
    refine g_get C fg_X9_53 0 rfl rfl dX9_steps_74 ?_
    refine g_iload_n 3 C dX9_steps_77 rfl rfl ?_
    obtain ⟨hc7, h⟩ := chk_some h
    refine g_iald C 5 rfl hc7 rfl dX9_steps_78 ?_
    refine g_iadd C dX9_steps_79 ?_
    obtain ⟨hc8, h⟩ := chk_some h
    refine g_i2l C dX9_steps_80 hc8 ?_
    obtain ⟨o9, o10, hr11, h⟩ := bnd2_some h
    refine g_callV [0] [1, 2, 3, 4, 5] [5, 0, 1, 2, 3, 4] C mt_X9_256 (c_X9_adds _ _ _ _ a_t (.int (wI c_thrown)) (g_t_1) (g_t_2) (g_t_3) (g_t_4) (g_t_5) (g_t_6) (g_t_7) (g_t_8) (g_t_9) (g_t_10) (g_t_11) (g_t_12) (g_t_13) (g_t_14) (g_t_15) (g_t_16) (.ref a_t_has) (.ref a_t_part) (.ref a_t_pace) (g_t_20) (.ref a_t_act) (g_t_22) (.ref a_t_speed) (g_t_26) (g_t_27) (g_t_28) (g_t_29) (g_t_30) (g_t_31) (g_t_32) (g_t_33) (g_t_34) (g_t_35) (g_t_36) (g_t_37) (g_t_38) (g_t_39) (g_t_40) (g_t_41) (g_t_42) (g_t_43) ((c_pace x1) * r3) ((c_pace x1) + (c_speed x3)) c_above c_below F hr11) (q0 := 0) rfl (ci := 9) rfl rfl rfl (ws2 := (W_X9_steps (eCy E) a_t a_t_act a_t_has a_t_pace a_t_part a_t_speed g_t_1 g_t_2 g_t_3 g_t_4 g_t_5 g_t_6 g_t_7 g_t_8 g_t_9 g_t_10 g_t_11 g_t_12 g_t_13 g_t_14 g_t_15 g_t_16 g_t_20 g_t_22 g_t_26 g_t_27 g_t_28 g_t_29 g_t_30 g_t_31 g_t_32 g_t_33 g_t_34 g_t_35 g_t_36 g_t_37 g_t_38 g_t_39 g_t_40 g_t_41 g_t_42 g_t_43 c_thrown o9 o10 c_act c_has c_pace c_part c_speed)) rfl rfl rfl (rest := []) rfl rfl rfl dX9_steps_81 ?_
    refine g_iinc C hN dX9_steps_84 rfl rfl (L' := [some (.ref a_t), some (.int (wI x1)), some (.int (wI x2)), some (.int (wI (x3 + 1)))]) rfl ?_
    refine g_goto (tgt := 42) C dX9_steps_87 (by decide) ?_
    exact hk42 _ _ _ h
set_option maxRecDepth 100000 in
set_option maxHeartbeats 4000000 in
theorem wl_X9_steps_42 {F : Nat} {v : Int × Int × Int × Int × (Int → Int)} {x1 : Int} {x2 : Int} {x3 : Int} {c_thrown : Int} {c_above : Int} {c_below : Int} {c_has : Int → Int} {c_pace : Int → Int} {c_part : Int → Int} {c_speed : Int → Int} {c_act : Int → Int} (C : Cx E cX9_steps RX9 { frames := 203, cells := 0, slots := 0, locals := 4673 }) (hN : eN E = 4) (h : ml_X9_steps_42 F x1 x2 x3 c_thrown c_above c_below c_has c_pace c_part c_speed = some v) (hret : ∀ (pc : Nat) (L : List (Option Value)), decode cX9_steps pc = .ok (.lreturn, 1) → GG E 0 0 (W_X9_steps (eCy E) a_t a_t_act a_t_has a_t_pace a_t_part a_t_speed g_t_1 g_t_2 g_t_3 g_t_4 g_t_5 g_t_6 g_t_7 g_t_8 g_t_9 g_t_10 g_t_11 g_t_12 g_t_13 g_t_14 g_t_15 g_t_16 g_t_20 g_t_22 g_t_26 g_t_27 g_t_28 g_t_29 g_t_30 g_t_31 g_t_32 g_t_33 g_t_34 g_t_35 g_t_36 g_t_37 g_t_38 g_t_39 g_t_40 g_t_41 g_t_42 g_t_43 (v.2.1) (v.2.2.1) (v.2.2.2.1) c_act c_has c_pace c_part (v.2.2.2.2)) L pc [.long (wJ (v.1))]) : GG E 0 0 (W_X9_steps (eCy E) a_t a_t_act a_t_has a_t_pace a_t_part a_t_speed g_t_1 g_t_2 g_t_3 g_t_4 g_t_5 g_t_6 g_t_7 g_t_8 g_t_9 g_t_10 g_t_11 g_t_12 g_t_13 g_t_14 g_t_15 g_t_16 g_t_20 g_t_22 g_t_26 g_t_27 g_t_28 g_t_29 g_t_30 g_t_31 g_t_32 g_t_33 g_t_34 g_t_35 g_t_36 g_t_37 g_t_38 g_t_39 g_t_40 g_t_41 g_t_42 g_t_43 c_thrown c_above c_below c_act c_has c_pace c_part c_speed) [some (.ref a_t), some (.int (wI x1)), some (.int (wI x2)), some (.int (wI x3))] 42 [] := by
  unfold ml_X9_steps_42 at h
  exact loop_walk (g := fun (q : Int × Int × Int) => GG E 0 0 (W_X9_steps (eCy E) a_t a_t_act a_t_has a_t_pace a_t_part a_t_speed g_t_1 g_t_2 g_t_3 g_t_4 g_t_5 g_t_6 g_t_7 g_t_8 g_t_9 g_t_10 g_t_11 g_t_12 g_t_13 g_t_14 g_t_15 g_t_16 g_t_20 g_t_22 g_t_26 g_t_27 g_t_28 g_t_29 g_t_30 g_t_31 g_t_32 g_t_33 g_t_34 g_t_35 g_t_36 g_t_37 g_t_38 g_t_39 g_t_40 g_t_41 g_t_42 g_t_43 c_thrown (q.2.1) (q.2.2) c_act c_has c_pace c_part c_speed) [some (.ref a_t), some (.int (wI x1)), some (.int (wI x2)), some (.int (wI (q.1)))] 42 []) (fun k hk q h => wb_X9_steps_42 C hN h (fun y0 y1 y2 hh => hk (y0, y1, y2) hh) hret) F (x3, c_above, c_below) h
set_option maxRecDepth 100000 in
set_option maxHeartbeats 4000000 in
theorem wm_X9_steps {F : Nat} {v : Int × Int × Int × Int × (Int → Int)} {x1 : Int} {x2 : Int} {c_above : Int} {c_below : Int} {c_act : Int → Int} {c_has : Int → Int} {c_pace : Int → Int} {c_part : Int → Int} {c_speed : Int → Int} {c_thrown : Int} (C : Cx E cX9_steps RX9 { frames := 203, cells := 0, slots := 0, locals := 4673 }) (hN : eN E = 4) (h : m_X9_steps F x1 x2 c_above c_below c_act c_has c_pace c_part c_speed = some v) (hret : ∀ (pc : Nat) (L : List (Option Value)), decode cX9_steps pc = .ok (.lreturn, 1) → GG E 0 0 (W_X9_steps (eCy E) a_t a_t_act a_t_has a_t_pace a_t_part a_t_speed g_t_1 g_t_2 g_t_3 g_t_4 g_t_5 g_t_6 g_t_7 g_t_8 g_t_9 g_t_10 g_t_11 g_t_12 g_t_13 g_t_14 g_t_15 g_t_16 g_t_20 g_t_22 g_t_26 g_t_27 g_t_28 g_t_29 g_t_30 g_t_31 g_t_32 g_t_33 g_t_34 g_t_35 g_t_36 g_t_37 g_t_38 g_t_39 g_t_40 g_t_41 g_t_42 g_t_43 (v.2.1) (v.2.2.1) (v.2.2.2.1) c_act c_has c_pace c_part (v.2.2.2.2)) L pc [.long (wJ (v.1))]) : GG E 0 0 (W_X9_steps (eCy E) a_t a_t_act a_t_has a_t_pace a_t_part a_t_speed g_t_1 g_t_2 g_t_3 g_t_4 g_t_5 g_t_6 g_t_7 g_t_8 g_t_9 g_t_10 g_t_11 g_t_12 g_t_13 g_t_14 g_t_15 g_t_16 g_t_20 g_t_22 g_t_26 g_t_27 g_t_28 g_t_29 g_t_30 g_t_31 g_t_32 g_t_33 g_t_34 g_t_35 g_t_36 g_t_37 g_t_38 g_t_39 g_t_40 g_t_41 g_t_42 g_t_43 c_thrown c_above c_below c_act c_has c_pace c_part c_speed) [some (.ref a_t), some (.int (wI x1)), some (.int (wI x2)), none] 0 [] := by
  unfold m_X9_steps at h
  refine g_aload_n 0 C dX9_steps_0 rfl rfl ?_
  refine g_iconst C dX9_steps_1 ?_
  refine g_putI C fp_X9_71 0 rfl rfl (ws' := (W_X9_steps (eCy E) a_t a_t_act a_t_has a_t_pace a_t_part a_t_speed g_t_1 g_t_2 g_t_3 g_t_4 g_t_5 g_t_6 g_t_7 g_t_8 g_t_9 g_t_10 g_t_11 g_t_12 g_t_13 g_t_14 g_t_15 g_t_16 g_t_20 g_t_22 g_t_26 g_t_27 g_t_28 g_t_29 g_t_30 g_t_31 g_t_32 g_t_33 g_t_34 g_t_35 g_t_36 g_t_37 g_t_38 g_t_39 g_t_40 g_t_41 g_t_42 g_t_43 0 c_above c_below c_act c_has c_pace c_part c_speed)) rfl dX9_steps_2 ?_
  refine g_aload_n 0 C dX9_steps_5 rfl rfl ?_
  refine g_iload_n 1 C dX9_steps_6 rfl rfl ?_
  refine g_iload_n 2 C dX9_steps_7 rfl rfl ?_
  obtain ⟨r1, o2, hr3, h⟩ := bnd2_some h
  refine g_callI [0, 1, 2, 4, 5] [3] [1, 2, 3, 0, 4, 5] C mt_X9_263 (c_X9_isWay _ _ _ _ a_t a_t_act a_t_has a_t_part a_t_speed (.int (wI 0)) (g_t_1) (g_t_2) (g_t_3) (g_t_4) (g_t_5) (g_t_6) (g_t_7) (g_t_8) (g_t_9) (g_t_10) (g_t_11) (g_t_12) (g_t_13) (g_t_14) (g_t_15) (g_t_16) (.ref a_t_pace) (g_t_20) (g_t_22) (.long (wJ c_above)) (.long (wJ c_below)) (g_t_26) (g_t_27) (g_t_28) (g_t_29) (g_t_30) (g_t_31) (g_t_32) (g_t_33) (g_t_34) (g_t_35) (g_t_36) (g_t_37) (g_t_38) (g_t_39) (g_t_40) (g_t_41) (g_t_42) (g_t_43) x1 x2 c_act c_has c_part c_speed F hr3) (q0 := 0) rfl (ci := 9) rfl rfl rfl (ws2 := (W_X9_steps (eCy E) a_t a_t_act a_t_has a_t_pace a_t_part a_t_speed g_t_1 g_t_2 g_t_3 g_t_4 g_t_5 g_t_6 g_t_7 g_t_8 g_t_9 g_t_10 g_t_11 g_t_12 g_t_13 g_t_14 g_t_15 g_t_16 g_t_20 g_t_22 g_t_26 g_t_27 g_t_28 g_t_29 g_t_30 g_t_31 g_t_32 g_t_33 g_t_34 g_t_35 g_t_36 g_t_37 g_t_38 g_t_39 g_t_40 g_t_41 g_t_42 g_t_43 0 c_above c_below c_act c_has c_pace c_part o2)) rfl rfl rfl (rest := []) rfl rfl rfl dX9_steps_8 ?_
  refine g_if_ne 18 C dX9_steps_11 (by decide) h (fun h => ?_) (fun h => ?_)
  · refine g_aload_n 0 C dX9_steps_18 rfl rfl ?_
    refine g_aload_n 0 C dX9_steps_19 rfl rfl ?_
    refine g_get C fg_X9_40 0 rfl rfl dX9_steps_20 ?_
    refine g_iload_n 1 C dX9_steps_23 rfl rfl ?_
    obtain ⟨hc4, h⟩ := chk_some h
    refine g_iald C 3 rfl hc4 rfl dX9_steps_24 ?_
    refine g_iconst C dX9_steps_25 ?_
    obtain ⟨r5, o6, o7, hr8, h⟩ := bnd3_some h
    refine g_callI [0, 2, 4, 5] [1, 3] [2, 0, 3, 1, 4, 5] C mt_X9_269 (c_X9_goes _ _ _ _ a_t a_t_has a_t_part a_t_speed (.int (wI 0)) (g_t_1) (g_t_2) (g_t_3) (g_t_4) (g_t_5) (g_t_6) (g_t_7) (g_t_8) (g_t_9) (g_t_10) (g_t_11) (g_t_12) (g_t_13) (g_t_14) (g_t_15) (g_t_16) (.ref a_t_pace) (g_t_20) (.ref a_t_act) (g_t_22) (g_t_26) (g_t_27) (g_t_28) (g_t_29) (g_t_30) (g_t_31) (g_t_32) (g_t_33) (g_t_34) (g_t_35) (g_t_36) (g_t_37) (g_t_38) (g_t_39) (g_t_40) (g_t_41) (g_t_42) (g_t_43) (c_pace x1) 1 c_above c_below c_has c_part o2 F hr8) (q0 := 0) rfl (ci := 9) rfl rfl rfl (ws2 := (W_X9_steps (eCy E) a_t a_t_act a_t_has a_t_pace a_t_part a_t_speed g_t_1 g_t_2 g_t_3 g_t_4 g_t_5 g_t_6 g_t_7 g_t_8 g_t_9 g_t_10 g_t_11 g_t_12 g_t_13 g_t_14 g_t_15 g_t_16 g_t_20 g_t_22 g_t_26 g_t_27 g_t_28 g_t_29 g_t_30 g_t_31 g_t_32 g_t_33 g_t_34 g_t_35 g_t_36 g_t_37 g_t_38 g_t_39 g_t_40 g_t_41 g_t_42 g_t_43 0 o6 o7 c_act c_has c_pace c_part o2)) rfl rfl rfl (rest := []) rfl rfl rfl dX9_steps_26 ?_
    refine g_if_ne 36 C dX9_steps_29 (by decide) h (fun h => ?_) (fun h => ?_)
    · refine g_aload_n 0 C dX9_steps_36 rfl rfl ?_
      obtain ⟨o9, o10, hr11, h⟩ := bnd2_some h
      refine g_callV [0] [1, 2, 3, 4, 5] [5, 0, 1, 2, 3, 4] C mt_X9_253 (c_X9_zero _ _ _ _ a_t (.int (wI 0)) (g_t_1) (g_t_2) (g_t_3) (g_t_4) (g_t_5) (g_t_6) (g_t_7) (g_t_8) (g_t_9) (g_t_10) (g_t_11) (g_t_12) (g_t_13) (g_t_14) (g_t_15) (g_t_16) (.ref a_t_has) (.ref a_t_part) (.ref a_t_pace) (g_t_20) (.ref a_t_act) (g_t_22) (.ref a_t_speed) (g_t_26) (g_t_27) (g_t_28) (g_t_29) (g_t_30) (g_t_31) (g_t_32) (g_t_33) (g_t_34) (g_t_35) (g_t_36) (g_t_37) (g_t_38) (g_t_39) (g_t_40) (g_t_41) (g_t_42) (g_t_43) o6 o7 F hr11) (q0 := 0) rfl (ci := 9) rfl rfl rfl (ws2 := (W_X9_steps (eCy E) a_t a_t_act a_t_has a_t_pace a_t_part a_t_speed g_t_1 g_t_2 g_t_3 g_t_4 g_t_5 g_t_6 g_t_7 g_t_8 g_t_9 g_t_10 g_t_11 g_t_12 g_t_13 g_t_14 g_t_15 g_t_16 g_t_20 g_t_22 g_t_26 g_t_27 g_t_28 g_t_29 g_t_30 g_t_31 g_t_32 g_t_33 g_t_34 g_t_35 g_t_36 g_t_37 g_t_38 g_t_39 g_t_40 g_t_41 g_t_42 g_t_43 0 o9 o10 c_act c_has c_pace c_part o2)) rfl rfl rfl (rest := []) rfl rfl rfl dX9_steps_37 ?_
      refine g_iconst C dX9_steps_40 ?_
      refine g_istore_n 3 C hN dX9_steps_41 rfl rfl (L' := [some (.ref a_t), some (.int (wI x1)), some (.int (wI x2)), some (.int (wI 0))]) rfl ?_
      exact wl_X9_steps_42 C hN h hret
    · refine g_ldc2 (v := -1) C mc_X9_115 dX9_steps_32 ?_
      cases h
      exact hret 35 _ dX9_steps_35
  · refine g_ldc2 (v := -2) C mc_X9_267 dX9_steps_14 ?_
    cases h
    exact hret 17 _ dX9_steps_17
end S_X9_steps
set_option maxRecDepth 100000 in
set_option maxHeartbeats 4000000 in
theorem c_X9_steps (l : Launch) (D : va_G) (cy : Nat → ClassId) (ad : AD) (a_t a_t_act a_t_has a_t_pace a_t_part a_t_speed : Nat) (g_t_1 : Value) (g_t_2 : Value) (g_t_3 : Value) (g_t_4 : Value) (g_t_5 : Value) (g_t_6 : Value) (g_t_7 : Value) (g_t_8 : Value) (g_t_9 : Value) (g_t_10 : Value) (g_t_11 : Value) (g_t_12 : Value) (g_t_13 : Value) (g_t_14 : Value) (g_t_15 : Value) (g_t_16 : Value) (g_t_20 : Value) (g_t_22 : Value) (g_t_26 : Value) (g_t_27 : Value) (g_t_28 : Value) (g_t_29 : Value) (g_t_30 : Value) (g_t_31 : Value) (g_t_32 : Value) (g_t_33 : Value) (g_t_34 : Value) (g_t_35 : Value) (g_t_36 : Value) (g_t_37 : Value) (g_t_38 : Value) (g_t_39 : Value) (g_t_40 : Value) (g_t_41 : Value) (g_t_42 : Value) (g_t_43 : Value) (x1 : Int) (x2 : Int) (c_thrown : Int) (c_above : Int) (c_below : Int) (c_act : Int → Int) (c_has : Int → Int) (c_pace : Int → Int) (c_part : Int → Int) (c_speed : Int → Int) (F : Nat) {v : Int × Int × Int × Int × (Int → Int)} (h : m_X9_steps F x1 x2 c_above c_below c_act c_has c_pace c_part c_speed = some v) : Ct l yX9_steps cX9_steps 4 (some .long) { frames := 203, cells := 0, slots := 0, locals := 4673 } D cy ad [.ref a_t, .int (wI x1), .int (wI x2)] (W_X9_steps cy a_t a_t_act a_t_has a_t_pace a_t_part a_t_speed g_t_1 g_t_2 g_t_3 g_t_4 g_t_5 g_t_6 g_t_7 g_t_8 g_t_9 g_t_10 g_t_11 g_t_12 g_t_13 g_t_14 g_t_15 g_t_16 g_t_20 g_t_22 g_t_26 g_t_27 g_t_28 g_t_29 g_t_30 g_t_31 g_t_32 g_t_33 g_t_34 g_t_35 g_t_36 g_t_37 g_t_38 g_t_39 g_t_40 g_t_41 g_t_42 g_t_43 c_thrown c_above c_below c_act c_has c_pace c_part c_speed) (W_X9_steps cy a_t a_t_act a_t_has a_t_pace a_t_part a_t_speed g_t_1 g_t_2 g_t_3 g_t_4 g_t_5 g_t_6 g_t_7 g_t_8 g_t_9 g_t_10 g_t_11 g_t_12 g_t_13 g_t_14 g_t_15 g_t_16 g_t_20 g_t_22 g_t_26 g_t_27 g_t_28 g_t_29 g_t_30 g_t_31 g_t_32 g_t_33 g_t_34 g_t_35 g_t_36 g_t_37 g_t_38 g_t_39 g_t_40 g_t_41 g_t_42 g_t_43 (v.2.1) (v.2.2.1) (v.2.2.2.1) c_act c_has c_pace c_part (v.2.2.2.2)) (some (.long (wJ (v.1)))) := by
  refine Ct.introJ (j := 1) (plainFor_of_name (by decide)) rfl rfl (fun E C e1 e2 e3 e4 e5 hret => ?_)
  subst e1; subst e2; subst e3; subst e4
  exact wm_X9_steps C e5 h hret
-- MovingStairModel.comes(II)I
def W_X9_comes (cy : Nat → ClassId) (a_t a_t_has a_t_pace a_t_part a_t_speed : Nat) (g_t_0 : Value) (g_t_1 : Value) (g_t_2 : Value) (g_t_3 : Value) (g_t_4 : Value) (g_t_5 : Value) (g_t_6 : Value) (g_t_7 : Value) (g_t_8 : Value) (g_t_9 : Value) (g_t_10 : Value) (g_t_11 : Value) (g_t_12 : Value) (g_t_13 : Value) (g_t_14 : Value) (g_t_15 : Value) (g_t_16 : Value) (g_t_20 : Value) (g_t_21 : Value) (g_t_22 : Value) (g_t_27 : Value) (g_t_28 : Value) (g_t_29 : Value) (g_t_30 : Value) (g_t_31 : Value) (g_t_32 : Value) (g_t_33 : Value) (g_t_34 : Value) (g_t_35 : Value) (g_t_36 : Value) (g_t_37 : Value) (g_t_38 : Value) (g_t_39 : Value) (g_t_40 : Value) (g_t_41 : Value) (g_t_42 : Value) (g_t_43 : Value) (c_above : Int) (c_below : Int) (c_onPart : Int) (c_has : Int → Int) (c_pace : Int → Int) (c_part : Int → Int) (c_speed : Int → Int) : va_W := [(a_t, .inr (9, [g_t_0, g_t_1, g_t_2, g_t_3, g_t_4, g_t_5, g_t_6, g_t_7, g_t_8, g_t_9, g_t_10, g_t_11, g_t_12, g_t_13, g_t_14, g_t_15, g_t_16, .ref a_t_has, .ref a_t_part, .ref a_t_pace, g_t_20, g_t_21, g_t_22, .ref a_t_speed, .long (wJ c_above), .long (wJ c_below), .int (wI c_onPart), g_t_27, g_t_28, g_t_29, g_t_30, g_t_31, g_t_32, g_t_33, g_t_34, g_t_35, g_t_36, g_t_37, g_t_38, g_t_39, g_t_40, g_t_41, g_t_42, g_t_43])), (a_t_has, .inl (cy 1, 45, .inl (aI c_has))), (a_t_pace, .inl (cy 1, 40, .inl (aI c_pace))), (a_t_part, .inl (cy 1, 40, .inl (aI c_part))), (a_t_speed, .inl (cy 1, 4, .inl (aI c_speed)))]
def mb_X9_comes_20 (F : Nat) (k20 : Int → Int → Int → Int → Option (Int × Int × Int × Int)) (x1 : Int) (x3 : Int) (c_above : Int) (c_below : Int) (c_onPart : Int) (c_has : Int → Int) (c_pace : Int → Int) (c_part : Int → Int) (c_speed : Int → Int) : Option (Int × Int × Int × Int) :=
  if wI (c_has 1) ≤ wI c_onPart then
    (some (x3, c_above, c_below, (-1)))
  else
    (chk (0 ≤ x1 ∧ x1 < 40) <| chk (0 ≤ c_onPart ∧ c_onPart < 4) <| nam ((c_pace x1) + (c_speed c_onPart)) fun y3 => if wI 0 < wI y3 then
    (bnd1 (m_X9_stepsOf F c_onPart c_part) fun r4 => chk (r32 r4) <| chk (r32 y3) <| bnd1 (m_X9_isLess F c_above c_below r4 y3) fun r8 => if wI r8 = wI 0 then
    (bnd1 (m_X9_stepsOf F c_onPart c_part) fun r10 => chk (r32 (-r10)) <| chk (r32 y3) <| bnd2 (m_X9_adds F (-r10) y3 c_above c_below) fun o14 o15 => bnd1 (m_X9_stepsOf F c_onPart c_part) fun r17 => nam (x3 + r17) fun y19 => nam (c_onPart + 1) fun y20 => k20 y19 o14 o15 y20)
  else
    (chk (r32 y3) <| chk (dv64 (c_above * y3) c_below) <| some (x3 + ((c_above * y3).tdiv c_below), c_above, c_below, c_onPart)))
  else
    (some (x3, c_above, c_below, c_onPart)))
def ml_X9_comes_20 (F : Nat) (x1 : Int) (x3 : Int) (c_above : Int) (c_below : Int) (c_onPart : Int) (c_has : Int → Int) (c_pace : Int → Int) (c_part : Int → Int) (c_speed : Int → Int) : Option (Int × Int × Int × Int) :=
  loopN (fun (k : Int × Int × Int × Int → Option (Int × Int × Int × Int)) q => mb_X9_comes_20 F (fun y0 y1 y2 y3 => k (y0, y1, y2, y3)) x1 q.1 q.2.1 q.2.2.1 q.2.2.2 c_has c_pace c_part c_speed) F (x3, c_above, c_below, c_onPart)
def m_X9_comes (F : Nat) (x1 : Int) (x2 : Int) (c_has : Int → Int) (c_pace : Int → Int) (c_part : Int → Int) (c_speed : Int → Int) : Option (Int × Int × Int × Int) :=
  bnd2 (m_X9_zero F) fun o1 o2 => chk (r32 x2) <| bnd2 (m_X9_adds F x2 60 o1 o2) fun o5 o6 => ml_X9_comes_20 F x1 0 o5 o6 0 c_has c_pace c_part c_speed
section S_X9_comes
variable {E : EE} {a_t a_t_has a_t_pace a_t_part a_t_speed : Nat} {g_t_0 : Value} {g_t_1 : Value} {g_t_2 : Value} {g_t_3 : Value} {g_t_4 : Value} {g_t_5 : Value} {g_t_6 : Value} {g_t_7 : Value} {g_t_8 : Value} {g_t_9 : Value} {g_t_10 : Value} {g_t_11 : Value} {g_t_12 : Value} {g_t_13 : Value} {g_t_14 : Value} {g_t_15 : Value} {g_t_16 : Value} {g_t_20 : Value} {g_t_21 : Value} {g_t_22 : Value} {g_t_27 : Value} {g_t_28 : Value} {g_t_29 : Value} {g_t_30 : Value} {g_t_31 : Value} {g_t_32 : Value} {g_t_33 : Value} {g_t_34 : Value} {g_t_35 : Value} {g_t_36 : Value} {g_t_37 : Value} {g_t_38 : Value} {g_t_39 : Value} {g_t_40 : Value} {g_t_41 : Value} {g_t_42 : Value} {g_t_43 : Value}
set_option maxRecDepth 100000 in
set_option maxHeartbeats 4000000 in
theorem wb_X9_comes_20 {F : Nat} {k20 : Int → Int → Int → Int → Option (Int × Int × Int × Int)} {v : Int × Int × Int × Int} {x1 : Int} {x3 : Int} {c_above : Int} {c_below : Int} {c_onPart : Int} {c_has : Int → Int} {c_pace : Int → Int} {c_part : Int → Int} {c_speed : Int → Int} (C : Cx E cX9_comes RX9 { frames := 202, cells := 0, slots := 0, locals := 6231 }) (hN : eN E = 5) (h : mb_X9_comes_20 F k20 x1 x3 c_above c_below c_onPart c_has c_pace c_part c_speed = some v) (hk20 : ∀ (y_x3 : Int) (y_c_above : Int) (y_c_below : Int) (y_c_onPart : Int), k20 y_x3 y_c_above y_c_below y_c_onPart = some v → GG E 0 0 (W_X9_comes (eCy E) a_t a_t_has a_t_pace a_t_part a_t_speed g_t_0 g_t_1 g_t_2 g_t_3 g_t_4 g_t_5 g_t_6 g_t_7 g_t_8 g_t_9 g_t_10 g_t_11 g_t_12 g_t_13 g_t_14 g_t_15 g_t_16 g_t_20 g_t_21 g_t_22 g_t_27 g_t_28 g_t_29 g_t_30 g_t_31 g_t_32 g_t_33 g_t_34 g_t_35 g_t_36 g_t_37 g_t_38 g_t_39 g_t_40 g_t_41 g_t_42 g_t_43 y_c_above y_c_below y_c_onPart c_has c_pace c_part c_speed) [some (.ref a_t), some (.int (wI x1)), none, some (.int (wI y_x3)), none] 20 []) (hret : ∀ (pc : Nat) (L : List (Option Value)), decode cX9_comes pc = .ok (.ireturn, 1) → GG E 0 0 (W_X9_comes (eCy E) a_t a_t_has a_t_pace a_t_part a_t_speed g_t_0 g_t_1 g_t_2 g_t_3 g_t_4 g_t_5 g_t_6 g_t_7 g_t_8 g_t_9 g_t_10 g_t_11 g_t_12 g_t_13 g_t_14 g_t_15 g_t_16 g_t_20 g_t_21 g_t_22 g_t_27 g_t_28 g_t_29 g_t_30 g_t_31 g_t_32 g_t_33 g_t_34 g_t_35 g_t_36 g_t_37 g_t_38 g_t_39 g_t_40 g_t_41 g_t_42 g_t_43 (v.2.1) (v.2.2.1) (v.2.2.2) c_has c_pace c_part c_speed) L pc [.int (wI (v.1))]) : GG E 0 0 (W_X9_comes (eCy E) a_t a_t_has a_t_pace a_t_part a_t_speed g_t_0 g_t_1 g_t_2 g_t_3 g_t_4 g_t_5 g_t_6 g_t_7 g_t_8 g_t_9 g_t_10 g_t_11 g_t_12 g_t_13 g_t_14 g_t_15 g_t_16 g_t_20 g_t_21 g_t_22 g_t_27 g_t_28 g_t_29 g_t_30 g_t_31 g_t_32 g_t_33 g_t_34 g_t_35 g_t_36 g_t_37 g_t_38 g_t_39 g_t_40 g_t_41 g_t_42 g_t_43 c_above c_below c_onPart c_has c_pace c_part c_speed) [some (.ref a_t), some (.int (wI x1)), none, some (.int (wI x3)), none] 20 [] := by
  unfold mb_X9_comes_20 at h
  refine g_aload_n 0 C dX9_comes_20 rfl rfl ?_
  refine g_get C fg_X9_278 0 rfl rfl dX9_comes_21 ?_
  refine g_st (st' := [.int (wI c_onPart)]) rfl ?_
  refine g_aload_n 0 C dX9_comes_24 rfl rfl ?_
  refine g_get C fg_X9_34 0 rfl rfl dX9_comes_25 ?_
  refine g_iconst C dX9_comes_28 ?_
  refine g_iald C 1 rfl (by decide) rfl dX9_comes_29 ?_
  refine g_icmp_ge 142 C dX9_comes_30 (by decide) h (fun h => ?_) (fun h => ?_)
  · refine g_aload_n 0 C dX9_comes_142 rfl rfl ?_
    refine g_iconst C dX9_comes_143 ?_
    refine g_putI C fp_X9_278 0 rfl rfl (ws' := (W_X9_comes (eCy E) a_t a_t_has a_t_pace a_t_part a_t_speed g_t_0 g_t_1 g_t_2 g_t_3 g_t_4 g_t_5 g_t_6 g_t_7 g_t_8 g_t_9 g_t_10 g_t_11 g_t_12 g_t_13 g_t_14 g_t_15 g_t_16 g_t_20 g_t_21 g_t_22 g_t_27 g_t_28 g_t_29 g_t_30 g_t_31 g_t_32 g_t_33 g_t_34 g_t_35 g_t_36 g_t_37 g_t_38 g_t_39 g_t_40 g_t_41 g_t_42 g_t_43 c_above c_below (-1) c_has c_pace c_part c_speed)) rfl dX9_comes_144 ?_
    refine g_iload_n 3 C dX9_comes_147 rfl rfl ?_
    cases h
    exact hret 148 _ dX9_comes_148
  · refine g_aload_n 0 C dX9_comes_33 rfl rfl ?_
    refine g_get C fg_X9_40 0 rfl rfl dX9_comes_34 ?_
    refine g_iload_n 1 C dX9_comes_37 rfl rfl ?_
    obtain ⟨hc1, h⟩ := chk_some h
    refine g_iald C 2 rfl hc1 rfl dX9_comes_38 ?_
    refine g_aload_n 0 C dX9_comes_39 rfl rfl ?_
    refine g_get C fg_X9_53 0 rfl rfl dX9_comes_40 ?_
    refine g_aload_n 0 C dX9_comes_43 rfl rfl ?_
    refine g_get C fg_X9_278 0 rfl rfl dX9_comes_44 ?_
    refine g_st (st' := [.int (wI c_onPart), .ref a_t_speed, .int (wI (c_pace x1))]) rfl ?_
    obtain ⟨hc2, h⟩ := chk_some h
    refine g_iald C 4 rfl hc2 rfl dX9_comes_47 ?_
    refine g_iadd C dX9_comes_48 ?_
    obtain ⟨y3, e_y3, h⟩ := nam_some h
    refine g_topI e_y3 ?_
    refine g_istore C hN dX9_comes_49 rfl (L' := [some (.ref a_t), some (.int (wI x1)), none, some (.int (wI x3)), some (.int (wI y3))]) rfl ?_
    refine g_iload C dX9_comes_51 rfl ?_
    refine g_if_gt 58 C dX9_comes_53 (by decide) h (fun h => ?_) (fun h => ?_)
    · refine g_aload_n 0 C dX9_comes_58 rfl rfl ?_
      refine g_get C fg_X9_246 0 rfl rfl dX9_comes_59 ?_
      refine g_st (st' := [.long (wJ c_above)]) rfl ?_
      refine g_aload_n 0 C dX9_comes_62 rfl rfl ?_
      refine g_get C fg_X9_243 0 rfl rfl dX9_comes_63 ?_
      refine g_st (st' := [.long (wJ c_below), .long (wJ c_above)]) rfl ?_
      refine g_aload_n 0 C dX9_comes_66 rfl rfl ?_
      refine g_aload_n 0 C dX9_comes_67 rfl rfl ?_
      refine g_get C fg_X9_278 0 rfl rfl dX9_comes_68 ?_
      refine g_st (st' := [.int (wI c_onPart), .ref a_t, .long (wJ c_below), .long (wJ c_above)]) rfl ?_
      obtain ⟨r4, hr5, h⟩ := bnd1_some h
      refine g_callI [0, 3] [1, 2, 4] [3, 0, 1, 4, 2] C mt_X9_233 (c_X9_stepsOf _ _ _ _ a_t a_t_part (g_t_0) (g_t_1) (g_t_2) (g_t_3) (g_t_4) (g_t_5) (g_t_6) (g_t_7) (g_t_8) (g_t_9) (g_t_10) (g_t_11) (g_t_12) (g_t_13) (g_t_14) (g_t_15) (g_t_16) (.ref a_t_has) (.ref a_t_pace) (g_t_20) (g_t_21) (g_t_22) (.ref a_t_speed) (.long (wJ c_above)) (.long (wJ c_below)) (.int (wI c_onPart)) (g_t_27) (g_t_28) (g_t_29) (g_t_30) (g_t_31) (g_t_32) (g_t_33) (g_t_34) (g_t_35) (g_t_36) (g_t_37) (g_t_38) (g_t_39) (g_t_40) (g_t_41) (g_t_42) (g_t_43) c_onPart c_part F hr5) (q0 := 0) rfl (ci := 9) rfl rfl rfl (ws2 := (W_X9_comes (eCy E) a_t a_t_has a_t_pace a_t_part a_t_speed g_t_0 g_t_1 g_t_2 g_t_3 g_t_4 g_t_5 g_t_6 g_t_7 g_t_8 g_t_9 g_t_10 g_t_11 g_t_12 g_t_13 g_t_14 g_t_15 g_t_16 g_t_20 g_t_21 g_t_22 g_t_27 g_t_28 g_t_29 g_t_30 g_t_31 g_t_32 g_t_33 g_t_34 g_t_35 g_t_36 g_t_37 g_t_38 g_t_39 g_t_40 g_t_41 g_t_42 g_t_43 c_above c_below c_onPart c_has c_pace c_part c_speed)) rfl rfl rfl (rest := [.long (wJ c_below), .long (wJ c_above)]) rfl rfl rfl dX9_comes_71 ?_
      obtain ⟨hc6, h⟩ := chk_some h
      refine g_i2l C dX9_comes_74 hc6 ?_
      refine g_iload C dX9_comes_75 rfl ?_
      obtain ⟨hc7, h⟩ := chk_some h
      refine g_i2l C dX9_comes_77 hc7 ?_
      obtain ⟨r8, hr9, h⟩ := bnd1_some h
      refine g_callSI [] [0, 1, 2, 3, 4] [0, 1, 2, 3, 4] C mt_X9_249 (c_X9_isLess _ _ _ _ c_above c_below r4 y3 F hr9) rfl rfl (ws2 := (W_X9_comes (eCy E) a_t a_t_has a_t_pace a_t_part a_t_speed g_t_0 g_t_1 g_t_2 g_t_3 g_t_4 g_t_5 g_t_6 g_t_7 g_t_8 g_t_9 g_t_10 g_t_11 g_t_12 g_t_13 g_t_14 g_t_15 g_t_16 g_t_20 g_t_21 g_t_22 g_t_27 g_t_28 g_t_29 g_t_30 g_t_31 g_t_32 g_t_33 g_t_34 g_t_35 g_t_36 g_t_37 g_t_38 g_t_39 g_t_40 g_t_41 g_t_42 g_t_43 c_above c_below c_onPart c_has c_pace c_part c_speed)) rfl rfl rfl (rest := []) rfl rfl rfl dX9_comes_78 ?_
      refine g_if_eq 101 C dX9_comes_81 (by decide) h (fun h => ?_) (fun h => ?_)
      · refine g_aload_n 0 C dX9_comes_101 rfl rfl ?_
        refine g_aload_n 0 C dX9_comes_102 rfl rfl ?_
        refine g_aload_n 0 C dX9_comes_103 rfl rfl ?_
        refine g_get C fg_X9_278 0 rfl rfl dX9_comes_104 ?_
        refine g_st (st' := [.int (wI c_onPart), .ref a_t, .ref a_t]) rfl ?_
        obtain ⟨r10, hr11, h⟩ := bnd1_some h
        refine g_callI [0, 3] [1, 2, 4] [3, 0, 1, 4, 2] C mt_X9_233 (c_X9_stepsOf _ _ _ _ a_t a_t_part (g_t_0) (g_t_1) (g_t_2) (g_t_3) (g_t_4) (g_t_5) (g_t_6) (g_t_7) (g_t_8) (g_t_9) (g_t_10) (g_t_11) (g_t_12) (g_t_13) (g_t_14) (g_t_15) (g_t_16) (.ref a_t_has) (.ref a_t_pace) (g_t_20) (g_t_21) (g_t_22) (.ref a_t_speed) (.long (wJ c_above)) (.long (wJ c_below)) (.int (wI c_onPart)) (g_t_27) (g_t_28) (g_t_29) (g_t_30) (g_t_31) (g_t_32) (g_t_33) (g_t_34) (g_t_35) (g_t_36) (g_t_37) (g_t_38) (g_t_39) (g_t_40) (g_t_41) (g_t_42) (g_t_43) c_onPart c_part F hr11) (q0 := 0) rfl (ci := 9) rfl rfl rfl (ws2 := (W_X9_comes (eCy E) a_t a_t_has a_t_pace a_t_part a_t_speed g_t_0 g_t_1 g_t_2 g_t_3 g_t_4 g_t_5 g_t_6 g_t_7 g_t_8 g_t_9 g_t_10 g_t_11 g_t_12 g_t_13 g_t_14 g_t_15 g_t_16 g_t_20 g_t_21 g_t_22 g_t_27 g_t_28 g_t_29 g_t_30 g_t_31 g_t_32 g_t_33 g_t_34 g_t_35 g_t_36 g_t_37 g_t_38 g_t_39 g_t_40 g_t_41 g_t_42 g_t_43 c_above c_below c_onPart c_has c_pace c_part c_speed)) rfl rfl rfl (rest := [.ref a_t]) rfl rfl rfl dX9_comes_107 ?_
        refine g_ineg C dX9_comes_110 ?_
        obtain ⟨hc12, h⟩ := chk_some h
        refine g_i2l C dX9_comes_111 hc12 ?_
        refine g_iload C dX9_comes_112 rfl ?_
        obtain ⟨hc13, h⟩ := chk_some h
        refine g_i2l C dX9_comes_114 hc13 ?_
        obtain ⟨o14, o15, hr16, h⟩ := bnd2_some h
        refine g_callV [0] [1, 2, 3, 4] [4, 0, 1, 2, 3] C mt_X9_256 (c_X9_adds _ _ _ _ a_t (g_t_0) (g_t_1) (g_t_2) (g_t_3) (g_t_4) (g_t_5) (g_t_6) (g_t_7) (g_t_8) (g_t_9) (g_t_10) (g_t_11) (g_t_12) (g_t_13) (g_t_14) (g_t_15) (g_t_16) (.ref a_t_has) (.ref a_t_part) (.ref a_t_pace) (g_t_20) (g_t_21) (g_t_22) (.ref a_t_speed) (.int (wI c_onPart)) (g_t_27) (g_t_28) (g_t_29) (g_t_30) (g_t_31) (g_t_32) (g_t_33) (g_t_34) (g_t_35) (g_t_36) (g_t_37) (g_t_38) (g_t_39) (g_t_40) (g_t_41) (g_t_42) (g_t_43) (-r10) y3 c_above c_below F hr16) (q0 := 0) rfl (ci := 9) rfl rfl rfl (ws2 := (W_X9_comes (eCy E) a_t a_t_has a_t_pace a_t_part a_t_speed g_t_0 g_t_1 g_t_2 g_t_3 g_t_4 g_t_5 g_t_6 g_t_7 g_t_8 g_t_9 g_t_10 g_t_11 g_t_12 g_t_13 g_t_14 g_t_15 g_t_16 g_t_20 g_t_21 g_t_22 g_t_27 g_t_28 g_t_29 g_t_30 g_t_31 g_t_32 g_t_33 g_t_34 g_t_35 g_t_36 g_t_37 g_t_38 g_t_39 g_t_40 g_t_41 g_t_42 g_t_43 o14 o15 c_onPart c_has c_pace c_part c_speed)) rfl rfl rfl (rest := []) rfl rfl rfl dX9_comes_115 ?_
        refine g_iload_n 3 C dX9_comes_118 rfl rfl ?_
        refine g_aload_n 0 C dX9_comes_119 rfl rfl ?_
        refine g_aload_n 0 C dX9_comes_120 rfl rfl ?_
        refine g_get C fg_X9_278 0 rfl rfl dX9_comes_121 ?_
        refine g_st (st' := [.int (wI c_onPart), .ref a_t, .int (wI x3)]) rfl ?_
        obtain ⟨r17, hr18, h⟩ := bnd1_some h
        refine g_callI [0, 3] [1, 2, 4] [3, 0, 1, 4, 2] C mt_X9_233 (c_X9_stepsOf _ _ _ _ a_t a_t_part (g_t_0) (g_t_1) (g_t_2) (g_t_3) (g_t_4) (g_t_5) (g_t_6) (g_t_7) (g_t_8) (g_t_9) (g_t_10) (g_t_11) (g_t_12) (g_t_13) (g_t_14) (g_t_15) (g_t_16) (.ref a_t_has) (.ref a_t_pace) (g_t_20) (g_t_21) (g_t_22) (.ref a_t_speed) (.long (wJ o14)) (.long (wJ o15)) (.int (wI c_onPart)) (g_t_27) (g_t_28) (g_t_29) (g_t_30) (g_t_31) (g_t_32) (g_t_33) (g_t_34) (g_t_35) (g_t_36) (g_t_37) (g_t_38) (g_t_39) (g_t_40) (g_t_41) (g_t_42) (g_t_43) c_onPart c_part F hr18) (q0 := 0) rfl (ci := 9) rfl rfl rfl (ws2 := (W_X9_comes (eCy E) a_t a_t_has a_t_pace a_t_part a_t_speed g_t_0 g_t_1 g_t_2 g_t_3 g_t_4 g_t_5 g_t_6 g_t_7 g_t_8 g_t_9 g_t_10 g_t_11 g_t_12 g_t_13 g_t_14 g_t_15 g_t_16 g_t_20 g_t_21 g_t_22 g_t_27 g_t_28 g_t_29 g_t_30 g_t_31 g_t_32 g_t_33 g_t_34 g_t_35 g_t_36 g_t_37 g_t_38 g_t_39 g_t_40 g_t_41 g_t_42 g_t_43 o14 o15 c_onPart c_has c_pace c_part c_speed)) rfl rfl rfl (rest := [.int (wI x3)]) rfl rfl rfl dX9_comes_124 ?_
        refine g_iadd C dX9_comes_127 ?_
        obtain ⟨y19, e_y19, h⟩ := nam_some h
        refine g_topI e_y19 ?_
        refine g_istore_n 3 C hN dX9_comes_128 rfl rfl (L' := [some (.ref a_t), some (.int (wI x1)), none, some (.int (wI y19)), some (.int (wI y3))]) rfl ?_
        refine g_aload_n 0 C dX9_comes_129 rfl rfl ?_
        refine g_dup C dX9_comes_130 rfl ?_
        refine g_get C fg_X9_278 0 rfl rfl dX9_comes_131 ?_
        refine g_st (st' := [.int (wI c_onPart), .ref a_t]) rfl ?_
        refine g_iconst C dX9_comes_134 ?_
        refine g_iadd C dX9_comes_135 ?_
        obtain ⟨y20, e_y20, h⟩ := nam_some h
        refine g_topI e_y20 ?_
        refine g_putI C fp_X9_278 0 rfl rfl (ws' := (W_X9_comes (eCy E) a_t a_t_has a_t_pace a_t_part a_t_speed g_t_0 g_t_1 g_t_2 g_t_3 g_t_4 g_t_5 g_t_6 g_t_7 g_t_8 g_t_9 g_t_10 g_t_11 g_t_12 g_t_13 g_t_14 g_t_15 g_t_16 g_t_20 g_t_21 g_t_22 g_t_27 g_t_28 g_t_29 g_t_30 g_t_31 g_t_32 g_t_33 g_t_34 g_t_35 g_t_36 g_t_37 g_t_38 g_t_39 g_t_40 g_t_41 g_t_42 g_t_43 o14 o15 y20 c_has c_pace c_part c_speed)) rfl dX9_comes_136 ?_
        refine g_goto (tgt := 20) C dX9_comes_139 (by decide) ?_
        refine g_mask [true, true, false, true, false] (L' := [some (.ref a_t), some (.int (wI x1)), none, some (.int (wI y19)), none]) rfl ?_
        exact hk20 _ _ _ _ h
      · refine g_iload_n 3 C dX9_comes_84 rfl rfl ?_
        refine g_aload_n 0 C dX9_comes_85 rfl rfl ?_
        refine g_get C fg_X9_246 0 rfl rfl dX9_comes_86 ?_
        refine g_st (st' := [.long (wJ c_above), .int (wI x3)]) rfl ?_
        refine g_iload C dX9_comes_89 rfl ?_
        obtain ⟨hc10, h⟩ := chk_some h
        refine g_i2l C dX9_comes_91 hc10 ?_
        refine g_lmul C dX9_comes_92 ?_
        refine g_aload_n 0 C dX9_comes_93 rfl rfl ?_
        refine g_get C fg_X9_243 0 rfl rfl dX9_comes_94 ?_
        refine g_st (st' := [.long (wJ c_below), .long (wJ (c_above * y3)), .int (wI x3)]) rfl ?_
        obtain ⟨hc11, h⟩ := chk_some h
        refine g_ldiv C dX9_comes_97 hc11 ?_
        refine g_l2i C dX9_comes_98 ?_
        refine g_iadd C dX9_comes_99 ?_
        cases h
        exact hret 100 _ dX9_comes_100
    · refine g_iload_n 3 C dX9_comes_56 rfl rfl ?_
      cases h
      exact hret 57 _ dX9_comes_57
set_option maxRecDepth 100000 in
set_option maxHeartbeats 4000000 in
theorem wl_X9_comes_20 {F : Nat} {v : Int × Int × Int × Int} {x1 : Int} {x3 : Int} {c_above : Int} {c_below : Int} {c_onPart : Int} {c_has : Int → Int} {c_pace : Int → Int} {c_part : Int → Int} {c_speed : Int → Int} (C : Cx E cX9_comes RX9 { frames := 202, cells := 0, slots := 0, locals := 6231 }) (hN : eN E = 5) (h : ml_X9_comes_20 F x1 x3 c_above c_below c_onPart c_has c_pace c_part c_speed = some v) (hret : ∀ (pc : Nat) (L : List (Option Value)), decode cX9_comes pc = .ok (.ireturn, 1) → GG E 0 0 (W_X9_comes (eCy E) a_t a_t_has a_t_pace a_t_part a_t_speed g_t_0 g_t_1 g_t_2 g_t_3 g_t_4 g_t_5 g_t_6 g_t_7 g_t_8 g_t_9 g_t_10 g_t_11 g_t_12 g_t_13 g_t_14 g_t_15 g_t_16 g_t_20 g_t_21 g_t_22 g_t_27 g_t_28 g_t_29 g_t_30 g_t_31 g_t_32 g_t_33 g_t_34 g_t_35 g_t_36 g_t_37 g_t_38 g_t_39 g_t_40 g_t_41 g_t_42 g_t_43 (v.2.1) (v.2.2.1) (v.2.2.2) c_has c_pace c_part c_speed) L pc [.int (wI (v.1))]) : GG E 0 0 (W_X9_comes (eCy E) a_t a_t_has a_t_pace a_t_part a_t_speed g_t_0 g_t_1 g_t_2 g_t_3 g_t_4 g_t_5 g_t_6 g_t_7 g_t_8 g_t_9 g_t_10 g_t_11 g_t_12 g_t_13 g_t_14 g_t_15 g_t_16 g_t_20 g_t_21 g_t_22 g_t_27 g_t_28 g_t_29 g_t_30 g_t_31 g_t_32 g_t_33 g_t_34 g_t_35 g_t_36 g_t_37 g_t_38 g_t_39 g_t_40 g_t_41 g_t_42 g_t_43 c_above c_below c_onPart c_has c_pace c_part c_speed) [some (.ref a_t), some (.int (wI x1)), none, some (.int (wI x3)), none] 20 [] := by
  unfold ml_X9_comes_20 at h
  exact loop_walk (g := fun (q : Int × Int × Int × Int) => GG E 0 0 (W_X9_comes (eCy E) a_t a_t_has a_t_pace a_t_part a_t_speed g_t_0 g_t_1 g_t_2 g_t_3 g_t_4 g_t_5 g_t_6 g_t_7 g_t_8 g_t_9 g_t_10 g_t_11 g_t_12 g_t_13 g_t_14 g_t_15 g_t_16 g_t_20 g_t_21 g_t_22 g_t_27 g_t_28 g_t_29 g_t_30 g_t_31 g_t_32 g_t_33 g_t_34 g_t_35 g_t_36 g_t_37 g_t_38 g_t_39 g_t_40 g_t_41 g_t_42 g_t_43 (q.2.1) (q.2.2.1) (q.2.2.2) c_has c_pace c_part c_speed) [some (.ref a_t), some (.int (wI x1)), none, some (.int (wI (q.1))), none] 20 []) (fun k hk q h => wb_X9_comes_20 C hN h (fun y0 y1 y2 y3 hh => hk (y0, y1, y2, y3) hh) hret) F (x3, c_above, c_below, c_onPart) h
set_option maxRecDepth 100000 in
set_option maxHeartbeats 4000000 in
theorem wm_X9_comes {F : Nat} {v : Int × Int × Int × Int} {x1 : Int} {x2 : Int} {c_has : Int → Int} {c_pace : Int → Int} {c_part : Int → Int} {c_speed : Int → Int} {c_above : Int} {c_below : Int} {c_onPart : Int} (C : Cx E cX9_comes RX9 { frames := 202, cells := 0, slots := 0, locals := 6231 }) (hN : eN E = 5) (h : m_X9_comes F x1 x2 c_has c_pace c_part c_speed = some v) (hret : ∀ (pc : Nat) (L : List (Option Value)), decode cX9_comes pc = .ok (.ireturn, 1) → GG E 0 0 (W_X9_comes (eCy E) a_t a_t_has a_t_pace a_t_part a_t_speed g_t_0 g_t_1 g_t_2 g_t_3 g_t_4 g_t_5 g_t_6 g_t_7 g_t_8 g_t_9 g_t_10 g_t_11 g_t_12 g_t_13 g_t_14 g_t_15 g_t_16 g_t_20 g_t_21 g_t_22 g_t_27 g_t_28 g_t_29 g_t_30 g_t_31 g_t_32 g_t_33 g_t_34 g_t_35 g_t_36 g_t_37 g_t_38 g_t_39 g_t_40 g_t_41 g_t_42 g_t_43 (v.2.1) (v.2.2.1) (v.2.2.2) c_has c_pace c_part c_speed) L pc [.int (wI (v.1))]) : GG E 0 0 (W_X9_comes (eCy E) a_t a_t_has a_t_pace a_t_part a_t_speed g_t_0 g_t_1 g_t_2 g_t_3 g_t_4 g_t_5 g_t_6 g_t_7 g_t_8 g_t_9 g_t_10 g_t_11 g_t_12 g_t_13 g_t_14 g_t_15 g_t_16 g_t_20 g_t_21 g_t_22 g_t_27 g_t_28 g_t_29 g_t_30 g_t_31 g_t_32 g_t_33 g_t_34 g_t_35 g_t_36 g_t_37 g_t_38 g_t_39 g_t_40 g_t_41 g_t_42 g_t_43 c_above c_below c_onPart c_has c_pace c_part c_speed) [some (.ref a_t), some (.int (wI x1)), some (.int (wI x2)), none, none] 0 [] := by
  unfold m_X9_comes at h
  refine g_iconst C dX9_comes_0 ?_
  refine g_istore_n 3 C hN dX9_comes_1 rfl rfl (L' := [some (.ref a_t), some (.int (wI x1)), some (.int (wI x2)), some (.int (wI 0)), none]) rfl ?_
  refine g_aload_n 0 C dX9_comes_2 rfl rfl ?_
  obtain ⟨o1, o2, hr3, h⟩ := bnd2_some h
  refine g_callV [0] [1, 2, 3, 4] [4, 0, 1, 2, 3] C mt_X9_253 (c_X9_zero _ _ _ _ a_t (g_t_0) (g_t_1) (g_t_2) (g_t_3) (g_t_4) (g_t_5) (g_t_6) (g_t_7) (g_t_8) (g_t_9) (g_t_10) (g_t_11) (g_t_12) (g_t_13) (g_t_14) (g_t_15) (g_t_16) (.ref a_t_has) (.ref a_t_part) (.ref a_t_pace) (g_t_20) (g_t_21) (g_t_22) (.ref a_t_speed) (.int (wI c_onPart)) (g_t_27) (g_t_28) (g_t_29) (g_t_30) (g_t_31) (g_t_32) (g_t_33) (g_t_34) (g_t_35) (g_t_36) (g_t_37) (g_t_38) (g_t_39) (g_t_40) (g_t_41) (g_t_42) (g_t_43) c_above c_below F hr3) (q0 := 0) rfl (ci := 9) rfl rfl rfl (ws2 := (W_X9_comes (eCy E) a_t a_t_has a_t_pace a_t_part a_t_speed g_t_0 g_t_1 g_t_2 g_t_3 g_t_4 g_t_5 g_t_6 g_t_7 g_t_8 g_t_9 g_t_10 g_t_11 g_t_12 g_t_13 g_t_14 g_t_15 g_t_16 g_t_20 g_t_21 g_t_22 g_t_27 g_t_28 g_t_29 g_t_30 g_t_31 g_t_32 g_t_33 g_t_34 g_t_35 g_t_36 g_t_37 g_t_38 g_t_39 g_t_40 g_t_41 g_t_42 g_t_43 o1 o2 c_onPart c_has c_pace c_part c_speed)) rfl rfl rfl (rest := []) rfl rfl rfl dX9_comes_3 ?_
  refine g_aload_n 0 C dX9_comes_6 rfl rfl ?_
  refine g_iload_n 2 C dX9_comes_7 rfl rfl ?_
  obtain ⟨hc4, h⟩ := chk_some h
  refine g_i2l C dX9_comes_8 hc4 ?_
  refine g_ldc2 (v := 60) C mc_X9_276 dX9_comes_9 ?_
  obtain ⟨o5, o6, hr7, h⟩ := bnd2_some h
  refine g_callV [0] [1, 2, 3, 4] [4, 0, 1, 2, 3] C mt_X9_256 (c_X9_adds _ _ _ _ a_t (g_t_0) (g_t_1) (g_t_2) (g_t_3) (g_t_4) (g_t_5) (g_t_6) (g_t_7) (g_t_8) (g_t_9) (g_t_10) (g_t_11) (g_t_12) (g_t_13) (g_t_14) (g_t_15) (g_t_16) (.ref a_t_has) (.ref a_t_part) (.ref a_t_pace) (g_t_20) (g_t_21) (g_t_22) (.ref a_t_speed) (.int (wI c_onPart)) (g_t_27) (g_t_28) (g_t_29) (g_t_30) (g_t_31) (g_t_32) (g_t_33) (g_t_34) (g_t_35) (g_t_36) (g_t_37) (g_t_38) (g_t_39) (g_t_40) (g_t_41) (g_t_42) (g_t_43) x2 60 o1 o2 F hr7) (q0 := 0) rfl (ci := 9) rfl rfl rfl (ws2 := (W_X9_comes (eCy E) a_t a_t_has a_t_pace a_t_part a_t_speed g_t_0 g_t_1 g_t_2 g_t_3 g_t_4 g_t_5 g_t_6 g_t_7 g_t_8 g_t_9 g_t_10 g_t_11 g_t_12 g_t_13 g_t_14 g_t_15 g_t_16 g_t_20 g_t_21 g_t_22 g_t_27 g_t_28 g_t_29 g_t_30 g_t_31 g_t_32 g_t_33 g_t_34 g_t_35 g_t_36 g_t_37 g_t_38 g_t_39 g_t_40 g_t_41 g_t_42 g_t_43 o5 o6 c_onPart c_has c_pace c_part c_speed)) rfl rfl rfl (rest := []) rfl rfl rfl dX9_comes_12 ?_
  refine g_aload_n 0 C dX9_comes_15 rfl rfl ?_
  refine g_iconst C dX9_comes_16 ?_
  refine g_putI C fp_X9_278 0 rfl rfl (ws' := (W_X9_comes (eCy E) a_t a_t_has a_t_pace a_t_part a_t_speed g_t_0 g_t_1 g_t_2 g_t_3 g_t_4 g_t_5 g_t_6 g_t_7 g_t_8 g_t_9 g_t_10 g_t_11 g_t_12 g_t_13 g_t_14 g_t_15 g_t_16 g_t_20 g_t_21 g_t_22 g_t_27 g_t_28 g_t_29 g_t_30 g_t_31 g_t_32 g_t_33 g_t_34 g_t_35 g_t_36 g_t_37 g_t_38 g_t_39 g_t_40 g_t_41 g_t_42 g_t_43 o5 o6 0 c_has c_pace c_part c_speed)) rfl dX9_comes_17 ?_
  refine g_mask [true, true, false, true, false] (L' := [some (.ref a_t), some (.int (wI x1)), none, some (.int (wI 0)), none]) rfl ?_
  exact wl_X9_comes_20 C hN h hret
end S_X9_comes
set_option maxRecDepth 100000 in
set_option maxHeartbeats 4000000 in
theorem c_X9_comes (l : Launch) (D : va_G) (cy : Nat → ClassId) (ad : AD) (a_t a_t_has a_t_pace a_t_part a_t_speed : Nat) (g_t_0 : Value) (g_t_1 : Value) (g_t_2 : Value) (g_t_3 : Value) (g_t_4 : Value) (g_t_5 : Value) (g_t_6 : Value) (g_t_7 : Value) (g_t_8 : Value) (g_t_9 : Value) (g_t_10 : Value) (g_t_11 : Value) (g_t_12 : Value) (g_t_13 : Value) (g_t_14 : Value) (g_t_15 : Value) (g_t_16 : Value) (g_t_20 : Value) (g_t_21 : Value) (g_t_22 : Value) (g_t_27 : Value) (g_t_28 : Value) (g_t_29 : Value) (g_t_30 : Value) (g_t_31 : Value) (g_t_32 : Value) (g_t_33 : Value) (g_t_34 : Value) (g_t_35 : Value) (g_t_36 : Value) (g_t_37 : Value) (g_t_38 : Value) (g_t_39 : Value) (g_t_40 : Value) (g_t_41 : Value) (g_t_42 : Value) (g_t_43 : Value) (x1 : Int) (x2 : Int) (c_above : Int) (c_below : Int) (c_onPart : Int) (c_has : Int → Int) (c_pace : Int → Int) (c_part : Int → Int) (c_speed : Int → Int) (F : Nat) {v : Int × Int × Int × Int} (h : m_X9_comes F x1 x2 c_has c_pace c_part c_speed = some v) : Ct l yX9_comes cX9_comes 5 (some .int) { frames := 202, cells := 0, slots := 0, locals := 6231 } D cy ad [.ref a_t, .int (wI x1), .int (wI x2)] (W_X9_comes cy a_t a_t_has a_t_pace a_t_part a_t_speed g_t_0 g_t_1 g_t_2 g_t_3 g_t_4 g_t_5 g_t_6 g_t_7 g_t_8 g_t_9 g_t_10 g_t_11 g_t_12 g_t_13 g_t_14 g_t_15 g_t_16 g_t_20 g_t_21 g_t_22 g_t_27 g_t_28 g_t_29 g_t_30 g_t_31 g_t_32 g_t_33 g_t_34 g_t_35 g_t_36 g_t_37 g_t_38 g_t_39 g_t_40 g_t_41 g_t_42 g_t_43 c_above c_below c_onPart c_has c_pace c_part c_speed) (W_X9_comes cy a_t a_t_has a_t_pace a_t_part a_t_speed g_t_0 g_t_1 g_t_2 g_t_3 g_t_4 g_t_5 g_t_6 g_t_7 g_t_8 g_t_9 g_t_10 g_t_11 g_t_12 g_t_13 g_t_14 g_t_15 g_t_16 g_t_20 g_t_21 g_t_22 g_t_27 g_t_28 g_t_29 g_t_30 g_t_31 g_t_32 g_t_33 g_t_34 g_t_35 g_t_36 g_t_37 g_t_38 g_t_39 g_t_40 g_t_41 g_t_42 g_t_43 (v.2.1) (v.2.2.1) (v.2.2.2) c_has c_pace c_part c_speed) (some (.int (wI (v.1)))) := by
  refine Ct.introI (j := 2) (plainFor_of_name (by decide)) rfl rfl (fun E C e1 e2 e3 e4 e5 hret => ?_)
  subst e1; subst e2; subst e3; subst e4
  exact wm_X9_comes C e5 h hret
-- MovingStairModel.areSeconds(III)Z
def W_X9_areSeconds (cy : Nat → ClassId) (a_t a_t_act a_t_has a_t_part a_t_speed : Nat) (g_t_0 : Value) (g_t_1 : Value) (g_t_2 : Value) (g_t_3 : Value) (g_t_4 : Value) (g_t_5 : Value) (g_t_6 : Value) (g_t_7 : Value) (g_t_8 : Value) (g_t_9 : Value) (g_t_10 : Value) (g_t_11 : Value) (g_t_12 : Value) (g_t_13 : Value) (g_t_14 : Value) (g_t_15 : Value) (g_t_16 : Value) (g_t_19 : Value) (g_t_20 : Value) (g_t_22 : Value) (g_t_24 : Value) (g_t_25 : Value) (g_t_26 : Value) (g_t_27 : Value) (g_t_28 : Value) (g_t_29 : Value) (g_t_30 : Value) (g_t_31 : Value) (g_t_32 : Value) (g_t_33 : Value) (g_t_34 : Value) (g_t_35 : Value) (g_t_36 : Value) (g_t_37 : Value) (g_t_38 : Value) (g_t_39 : Value) (g_t_40 : Value) (g_t_41 : Value) (g_t_42 : Value) (g_t_43 : Value) (c_act : Int → Int) (c_has : Int → Int) (c_part : Int → Int) (c_speed : Int → Int) : va_W := [(a_t, .inr (9, [g_t_0, g_t_1, g_t_2, g_t_3, g_t_4, g_t_5, g_t_6, g_t_7, g_t_8, g_t_9, g_t_10, g_t_11, g_t_12, g_t_13, g_t_14, g_t_15, g_t_16, .ref a_t_has, .ref a_t_part, g_t_19, g_t_20, .ref a_t_act, g_t_22, .ref a_t_speed, g_t_24, g_t_25, g_t_26, g_t_27, g_t_28, g_t_29, g_t_30, g_t_31, g_t_32, g_t_33, g_t_34, g_t_35, g_t_36, g_t_37, g_t_38, g_t_39, g_t_40, g_t_41, g_t_42, g_t_43])), (a_t_act, .inl (cy 1, 600, .inl (aI c_act))), (a_t_has, .inl (cy 1, 45, .inl (aI c_has))), (a_t_part, .inl (cy 1, 40, .inl (aI c_part))), (a_t_speed, .inl (cy 1, 4, .inl (aI c_speed)))]
def m_X9_areSeconds (F : Nat) (x1 : Int) (x2 : Int) (x3 : Int) (c_act : Int → Int) (c_has : Int → Int) (c_part : Int → Int) (c_speed : Int → Int) : Option (Int × (Int → Int)) :=
  bnd2 (m_X9_isWay F x1 0 c_act c_has c_part c_speed) fun r1 o2 => if wI r1 = wI 0 then
    (some (0, o2))
  else
    (chk (r32 x2) <| chk (r32 x3) <| bnd1 (m_X9_in F x2 0 x3) fun r6 => if wI r6 = wI 0 then
    (some (0, o2))
  else
    (some (1, o2)))
section S_X9_areSeconds
variable {E : EE} {a_t a_t_act a_t_has a_t_part a_t_speed : Nat} {g_t_0 : Value} {g_t_1 : Value} {g_t_2 : Value} {g_t_3 : Value} {g_t_4 : Value} {g_t_5 : Value} {g_t_6 : Value} {g_t_7 : Value} {g_t_8 : Value} {g_t_9 : Value} {g_t_10 : Value} {g_t_11 : Value} {g_t_12 : Value} {g_t_13 : Value} {g_t_14 : Value} {g_t_15 : Value} {g_t_16 : Value} {g_t_19 : Value} {g_t_20 : Value} {g_t_22 : Value} {g_t_24 : Value} {g_t_25 : Value} {g_t_26 : Value} {g_t_27 : Value} {g_t_28 : Value} {g_t_29 : Value} {g_t_30 : Value} {g_t_31 : Value} {g_t_32 : Value} {g_t_33 : Value} {g_t_34 : Value} {g_t_35 : Value} {g_t_36 : Value} {g_t_37 : Value} {g_t_38 : Value} {g_t_39 : Value} {g_t_40 : Value} {g_t_41 : Value} {g_t_42 : Value} {g_t_43 : Value}
set_option maxRecDepth 100000 in
set_option maxHeartbeats 4000000 in
theorem wm_X9_areSeconds {F : Nat} {v : Int × (Int → Int)} {x1 : Int} {x2 : Int} {x3 : Int} {c_act : Int → Int} {c_has : Int → Int} {c_part : Int → Int} {c_speed : Int → Int} (C : Cx E cX9_areSeconds RX9 { frames := 3, cells := 0, slots := 0, locals := 68 }) (hN : eN E = 4) (h : m_X9_areSeconds F x1 x2 x3 c_act c_has c_part c_speed = some v) (hret : ∀ (pc : Nat) (L : List (Option Value)), narrow .boolean (.int (wI (v.1))) = .int (wI (v.1)) → decode cX9_areSeconds pc = .ok (.ireturn, 1) → GG E 0 0 (W_X9_areSeconds (eCy E) a_t a_t_act a_t_has a_t_part a_t_speed g_t_0 g_t_1 g_t_2 g_t_3 g_t_4 g_t_5 g_t_6 g_t_7 g_t_8 g_t_9 g_t_10 g_t_11 g_t_12 g_t_13 g_t_14 g_t_15 g_t_16 g_t_19 g_t_20 g_t_22 g_t_24 g_t_25 g_t_26 g_t_27 g_t_28 g_t_29 g_t_30 g_t_31 g_t_32 g_t_33 g_t_34 g_t_35 g_t_36 g_t_37 g_t_38 g_t_39 g_t_40 g_t_41 g_t_42 g_t_43 c_act c_has c_part (v.2)) L pc [.int (wI (v.1))]) : GG E 0 0 (W_X9_areSeconds (eCy E) a_t a_t_act a_t_has a_t_part a_t_speed g_t_0 g_t_1 g_t_2 g_t_3 g_t_4 g_t_5 g_t_6 g_t_7 g_t_8 g_t_9 g_t_10 g_t_11 g_t_12 g_t_13 g_t_14 g_t_15 g_t_16 g_t_19 g_t_20 g_t_22 g_t_24 g_t_25 g_t_26 g_t_27 g_t_28 g_t_29 g_t_30 g_t_31 g_t_32 g_t_33 g_t_34 g_t_35 g_t_36 g_t_37 g_t_38 g_t_39 g_t_40 g_t_41 g_t_42 g_t_43 c_act c_has c_part c_speed) [some (.ref a_t), some (.int (wI x1)), some (.int (wI x2)), some (.int (wI x3))] 0 [] := by
  unfold m_X9_areSeconds at h
  refine g_aload_n 0 C dX9_areSeconds_0 rfl rfl ?_
  refine g_iload_n 1 C dX9_areSeconds_1 rfl rfl ?_
  refine g_iconst C dX9_areSeconds_2 ?_
  obtain ⟨r1, o2, hr3, h⟩ := bnd2_some h
  refine g_callI [0, 1, 2, 3, 4] [] [0, 1, 2, 3, 4] C mt_X9_263 (c_X9_isWay _ _ _ _ a_t a_t_act a_t_has a_t_part a_t_speed (g_t_0) (g_t_1) (g_t_2) (g_t_3) (g_t_4) (g_t_5) (g_t_6) (g_t_7) (g_t_8) (g_t_9) (g_t_10) (g_t_11) (g_t_12) (g_t_13) (g_t_14) (g_t_15) (g_t_16) (g_t_19) (g_t_20) (g_t_22) (g_t_24) (g_t_25) (g_t_26) (g_t_27) (g_t_28) (g_t_29) (g_t_30) (g_t_31) (g_t_32) (g_t_33) (g_t_34) (g_t_35) (g_t_36) (g_t_37) (g_t_38) (g_t_39) (g_t_40) (g_t_41) (g_t_42) (g_t_43) x1 0 c_act c_has c_part c_speed F hr3) (q0 := 0) rfl (ci := 9) rfl rfl rfl (ws2 := (W_X9_areSeconds (eCy E) a_t a_t_act a_t_has a_t_part a_t_speed g_t_0 g_t_1 g_t_2 g_t_3 g_t_4 g_t_5 g_t_6 g_t_7 g_t_8 g_t_9 g_t_10 g_t_11 g_t_12 g_t_13 g_t_14 g_t_15 g_t_16 g_t_19 g_t_20 g_t_22 g_t_24 g_t_25 g_t_26 g_t_27 g_t_28 g_t_29 g_t_30 g_t_31 g_t_32 g_t_33 g_t_34 g_t_35 g_t_36 g_t_37 g_t_38 g_t_39 g_t_40 g_t_41 g_t_42 g_t_43 c_act c_has c_part o2)) rfl rfl rfl (rest := []) rfl rfl rfl dX9_areSeconds_3 ?_
  refine g_if_eq 24 C dX9_areSeconds_6 (by decide) h (fun h => ?_) (fun h => ?_)
  · refine g_iconst C dX9_areSeconds_24 ?_
    cases h
    exact hret 25 _ bn0 dX9_areSeconds_25
  · refine g_iload_n 2 C dX9_areSeconds_9 rfl rfl ?_
    obtain ⟨hc4, h⟩ := chk_some h
    refine g_i2l C dX9_areSeconds_10 hc4 ?_
    refine g_lconst (x := 0) C dX9_areSeconds_11 (by decide) ?_
    refine g_iload_n 3 C dX9_areSeconds_12 rfl rfl ?_
    obtain ⟨hc5, h⟩ := chk_some h
    refine g_i2l C dX9_areSeconds_13 hc5 ?_
    obtain ⟨r6, hr7, h⟩ := bnd1_some h
    refine g_callSI [] [0, 1, 2, 3, 4] [0, 1, 2, 3, 4] C mt_X9_76 (c_X9_in _ _ _ _ x2 0 x3 F hr7) rfl rfl (ws2 := (W_X9_areSeconds (eCy E) a_t a_t_act a_t_has a_t_part a_t_speed g_t_0 g_t_1 g_t_2 g_t_3 g_t_4 g_t_5 g_t_6 g_t_7 g_t_8 g_t_9 g_t_10 g_t_11 g_t_12 g_t_13 g_t_14 g_t_15 g_t_16 g_t_19 g_t_20 g_t_22 g_t_24 g_t_25 g_t_26 g_t_27 g_t_28 g_t_29 g_t_30 g_t_31 g_t_32 g_t_33 g_t_34 g_t_35 g_t_36 g_t_37 g_t_38 g_t_39 g_t_40 g_t_41 g_t_42 g_t_43 c_act c_has c_part o2)) rfl rfl rfl (rest := []) rfl rfl rfl dX9_areSeconds_14 ?_
    refine g_if_eq 24 C dX9_areSeconds_17 (by decide) h (fun h => ?_) (fun h => ?_)
    · refine g_iconst C dX9_areSeconds_24 ?_
      cases h
      exact hret 25 _ bn0 dX9_areSeconds_25
    · refine g_iconst C dX9_areSeconds_20 ?_
      refine g_goto (tgt := 25) C dX9_areSeconds_21 (by decide) ?_
      cases h
      exact hret 25 _ bn1 dX9_areSeconds_25
end S_X9_areSeconds
set_option maxRecDepth 100000 in
set_option maxHeartbeats 4000000 in
theorem c_X9_areSeconds (l : Launch) (D : va_G) (cy : Nat → ClassId) (ad : AD) (a_t a_t_act a_t_has a_t_part a_t_speed : Nat) (g_t_0 : Value) (g_t_1 : Value) (g_t_2 : Value) (g_t_3 : Value) (g_t_4 : Value) (g_t_5 : Value) (g_t_6 : Value) (g_t_7 : Value) (g_t_8 : Value) (g_t_9 : Value) (g_t_10 : Value) (g_t_11 : Value) (g_t_12 : Value) (g_t_13 : Value) (g_t_14 : Value) (g_t_15 : Value) (g_t_16 : Value) (g_t_19 : Value) (g_t_20 : Value) (g_t_22 : Value) (g_t_24 : Value) (g_t_25 : Value) (g_t_26 : Value) (g_t_27 : Value) (g_t_28 : Value) (g_t_29 : Value) (g_t_30 : Value) (g_t_31 : Value) (g_t_32 : Value) (g_t_33 : Value) (g_t_34 : Value) (g_t_35 : Value) (g_t_36 : Value) (g_t_37 : Value) (g_t_38 : Value) (g_t_39 : Value) (g_t_40 : Value) (g_t_41 : Value) (g_t_42 : Value) (g_t_43 : Value) (x1 : Int) (x2 : Int) (x3 : Int) (c_act : Int → Int) (c_has : Int → Int) (c_part : Int → Int) (c_speed : Int → Int) (F : Nat) {v : Int × (Int → Int)} (h : m_X9_areSeconds F x1 x2 x3 c_act c_has c_part c_speed = some v) : Ct l yX9_areSeconds cX9_areSeconds 4 (some .boolean) { frames := 3, cells := 0, slots := 0, locals := 68 } D cy ad [.ref a_t, .int (wI x1), .int (wI x2), .int (wI x3)] (W_X9_areSeconds cy a_t a_t_act a_t_has a_t_part a_t_speed g_t_0 g_t_1 g_t_2 g_t_3 g_t_4 g_t_5 g_t_6 g_t_7 g_t_8 g_t_9 g_t_10 g_t_11 g_t_12 g_t_13 g_t_14 g_t_15 g_t_16 g_t_19 g_t_20 g_t_22 g_t_24 g_t_25 g_t_26 g_t_27 g_t_28 g_t_29 g_t_30 g_t_31 g_t_32 g_t_33 g_t_34 g_t_35 g_t_36 g_t_37 g_t_38 g_t_39 g_t_40 g_t_41 g_t_42 g_t_43 c_act c_has c_part c_speed) (W_X9_areSeconds cy a_t a_t_act a_t_has a_t_part a_t_speed g_t_0 g_t_1 g_t_2 g_t_3 g_t_4 g_t_5 g_t_6 g_t_7 g_t_8 g_t_9 g_t_10 g_t_11 g_t_12 g_t_13 g_t_14 g_t_15 g_t_16 g_t_19 g_t_20 g_t_22 g_t_24 g_t_25 g_t_26 g_t_27 g_t_28 g_t_29 g_t_30 g_t_31 g_t_32 g_t_33 g_t_34 g_t_35 g_t_36 g_t_37 g_t_38 g_t_39 g_t_40 g_t_41 g_t_42 g_t_43 c_act c_has c_part (v.2)) (some (.int (wI (v.1)))) := by
  refine Ct.introZ (j := 0) (plainFor_of_name (by decide)) rfl rfl (fun E C e1 e2 e3 e4 e5 hret => ?_)
  subst e1; subst e2; subst e3; subst e4
  exact wm_X9_areSeconds C e5 h hret
-- MovingStairModel.at(II)I
def W_X9_at (cy : Nat → ClassId) (a_t a_t_act a_t_has a_t_pace a_t_part a_t_speed : Nat) (g_t_1 : Value) (g_t_2 : Value) (g_t_3 : Value) (g_t_4 : Value) (g_t_5 : Value) (g_t_6 : Value) (g_t_7 : Value) (g_t_8 : Value) (g_t_9 : Value) (g_t_10 : Value) (g_t_11 : Value) (g_t_12 : Value) (g_t_13 : Value) (g_t_14 : Value) (g_t_15 : Value) (g_t_16 : Value) (g_t_20 : Value) (g_t_22 : Value) (g_t_27 : Value) (g_t_28 : Value) (g_t_29 : Value) (g_t_30 : Value) (g_t_31 : Value) (g_t_32 : Value) (g_t_33 : Value) (g_t_34 : Value) (g_t_35 : Value) (g_t_36 : Value) (g_t_37 : Value) (g_t_38 : Value) (g_t_39 : Value) (g_t_40 : Value) (g_t_41 : Value) (g_t_42 : Value) (g_t_43 : Value) (c_thrown : Int) (c_above : Int) (c_below : Int) (c_onPart : Int) (c_act : Int → Int) (c_has : Int → Int) (c_pace : Int → Int) (c_part : Int → Int) (c_speed : Int → Int) : va_W := [(a_t, .inr (9, [.int (wI c_thrown), g_t_1, g_t_2, g_t_3, g_t_4, g_t_5, g_t_6, g_t_7, g_t_8, g_t_9, g_t_10, g_t_11, g_t_12, g_t_13, g_t_14, g_t_15, g_t_16, .ref a_t_has, .ref a_t_part, .ref a_t_pace, g_t_20, .ref a_t_act, g_t_22, .ref a_t_speed, .long (wJ c_above), .long (wJ c_below), .int (wI c_onPart), g_t_27, g_t_28, g_t_29, g_t_30, g_t_31, g_t_32, g_t_33, g_t_34, g_t_35, g_t_36, g_t_37, g_t_38, g_t_39, g_t_40, g_t_41, g_t_42, g_t_43])), (a_t_act, .inl (cy 1, 600, .inl (aI c_act))), (a_t_has, .inl (cy 1, 45, .inl (aI c_has))), (a_t_pace, .inl (cy 1, 40, .inl (aI c_pace))), (a_t_part, .inl (cy 1, 40, .inl (aI c_part))), (a_t_speed, .inl (cy 1, 4, .inl (aI c_speed)))]
def m_X9_at (F : Nat) (x1 : Int) (x2 : Int) (c_above : Int) (c_below : Int) (c_onPart : Int) (c_act : Int → Int) (c_has : Int → Int) (c_pace : Int → Int) (c_part : Int → Int) (c_speed : Int → Int) : Option (Int × Int × Int × Int × Int × (Int → Int)) :=
  bnd2 (m_X9_areSeconds F x1 x2 36000 c_act c_has c_part c_speed) fun r1 o2 => if wI r1 = wI 0 then
    (some ((-2), 0, c_above, c_below, c_onPart, o2))
  else
    (bnd4 (m_X9_comes F x1 x2 c_has c_pace c_part o2) fun r4 o5 o6 o7 => some (r4, 0, o5, o6, o7, o2))
section S_X9_at
variable {E : EE} {a_t a_t_act a_t_has a_t_pace a_t_part a_t_speed : Nat} {g_t_1 : Value} {g_t_2 : Value} {g_t_3 : Value} {g_t_4 : Value} {g_t_5 : Value} {g_t_6 : Value} {g_t_7 : Value} {g_t_8 : Value} {g_t_9 : Value} {g_t_10 : Value} {g_t_11 : Value} {g_t_12 : Value} {g_t_13 : Value} {g_t_14 : Value} {g_t_15 : Value} {g_t_16 : Value} {g_t_20 : Value} {g_t_22 : Value} {g_t_27 : Value} {g_t_28 : Value} {g_t_29 : Value} {g_t_30 : Value} {g_t_31 : Value} {g_t_32 : Value} {g_t_33 : Value} {g_t_34 : Value} {g_t_35 : Value} {g_t_36 : Value} {g_t_37 : Value} {g_t_38 : Value} {g_t_39 : Value} {g_t_40 : Value} {g_t_41 : Value} {g_t_42 : Value} {g_t_43 : Value}
set_option maxRecDepth 100000 in
set_option maxHeartbeats 4000000 in
theorem wm_X9_at {F : Nat} {v : Int × Int × Int × Int × Int × (Int → Int)} {x1 : Int} {x2 : Int} {c_above : Int} {c_below : Int} {c_onPart : Int} {c_act : Int → Int} {c_has : Int → Int} {c_pace : Int → Int} {c_part : Int → Int} {c_speed : Int → Int} {c_thrown : Int} (C : Cx E cX9_at RX9 { frames := 203, cells := 0, slots := 0, locals := 6255 }) (hN : eN E = 3) (h : m_X9_at F x1 x2 c_above c_below c_onPart c_act c_has c_pace c_part c_speed = some v) (hret : ∀ (pc : Nat) (L : List (Option Value)), decode cX9_at pc = .ok (.ireturn, 1) → GG E 0 0 (W_X9_at (eCy E) a_t a_t_act a_t_has a_t_pace a_t_part a_t_speed g_t_1 g_t_2 g_t_3 g_t_4 g_t_5 g_t_6 g_t_7 g_t_8 g_t_9 g_t_10 g_t_11 g_t_12 g_t_13 g_t_14 g_t_15 g_t_16 g_t_20 g_t_22 g_t_27 g_t_28 g_t_29 g_t_30 g_t_31 g_t_32 g_t_33 g_t_34 g_t_35 g_t_36 g_t_37 g_t_38 g_t_39 g_t_40 g_t_41 g_t_42 g_t_43 (v.2.1) (v.2.2.1) (v.2.2.2.1) (v.2.2.2.2.1) c_act c_has c_pace c_part (v.2.2.2.2.2)) L pc [.int (wI (v.1))]) : GG E 0 0 (W_X9_at (eCy E) a_t a_t_act a_t_has a_t_pace a_t_part a_t_speed g_t_1 g_t_2 g_t_3 g_t_4 g_t_5 g_t_6 g_t_7 g_t_8 g_t_9 g_t_10 g_t_11 g_t_12 g_t_13 g_t_14 g_t_15 g_t_16 g_t_20 g_t_22 g_t_27 g_t_28 g_t_29 g_t_30 g_t_31 g_t_32 g_t_33 g_t_34 g_t_35 g_t_36 g_t_37 g_t_38 g_t_39 g_t_40 g_t_41 g_t_42 g_t_43 c_thrown c_above c_below c_onPart c_act c_has c_pace c_part c_speed) [some (.ref a_t), some (.int (wI x1)), some (.int (wI x2))] 0 [] := by
  unfold m_X9_at at h
  refine g_aload_n 0 C dX9_at_0 rfl rfl ?_
  refine g_iconst C dX9_at_1 ?_
  refine g_putI C fp_X9_71 0 rfl rfl (ws' := (W_X9_at (eCy E) a_t a_t_act a_t_has a_t_pace a_t_part a_t_speed g_t_1 g_t_2 g_t_3 g_t_4 g_t_5 g_t_6 g_t_7 g_t_8 g_t_9 g_t_10 g_t_11 g_t_12 g_t_13 g_t_14 g_t_15 g_t_16 g_t_20 g_t_22 g_t_27 g_t_28 g_t_29 g_t_30 g_t_31 g_t_32 g_t_33 g_t_34 g_t_35 g_t_36 g_t_37 g_t_38 g_t_39 g_t_40 g_t_41 g_t_42 g_t_43 0 c_above c_below c_onPart c_act c_has c_pace c_part c_speed)) rfl dX9_at_2 ?_
  refine g_aload_n 0 C dX9_at_5 rfl rfl ?_
  refine g_iload_n 1 C dX9_at_6 rfl rfl ?_
  refine g_iload_n 2 C dX9_at_7 rfl rfl ?_
  refine g_ldcw (v := 36000) C mc_X9_281 dX9_at_8 ?_
  obtain ⟨r1, o2, hr3, h⟩ := bnd2_some h
  refine g_callI [0, 1, 2, 4, 5] [3] [1, 2, 3, 0, 4, 5] C mt_X9_282 (c_X9_areSeconds _ _ _ _ a_t a_t_act a_t_has a_t_part a_t_speed (.int (wI 0)) (g_t_1) (g_t_2) (g_t_3) (g_t_4) (g_t_5) (g_t_6) (g_t_7) (g_t_8) (g_t_9) (g_t_10) (g_t_11) (g_t_12) (g_t_13) (g_t_14) (g_t_15) (g_t_16) (.ref a_t_pace) (g_t_20) (g_t_22) (.long (wJ c_above)) (.long (wJ c_below)) (.int (wI c_onPart)) (g_t_27) (g_t_28) (g_t_29) (g_t_30) (g_t_31) (g_t_32) (g_t_33) (g_t_34) (g_t_35) (g_t_36) (g_t_37) (g_t_38) (g_t_39) (g_t_40) (g_t_41) (g_t_42) (g_t_43) x1 x2 36000 c_act c_has c_part c_speed F hr3) (q0 := 0) rfl (ci := 9) rfl rfl rfl (ws2 := (W_X9_at (eCy E) a_t a_t_act a_t_has a_t_pace a_t_part a_t_speed g_t_1 g_t_2 g_t_3 g_t_4 g_t_5 g_t_6 g_t_7 g_t_8 g_t_9 g_t_10 g_t_11 g_t_12 g_t_13 g_t_14 g_t_15 g_t_16 g_t_20 g_t_22 g_t_27 g_t_28 g_t_29 g_t_30 g_t_31 g_t_32 g_t_33 g_t_34 g_t_35 g_t_36 g_t_37 g_t_38 g_t_39 g_t_40 g_t_41 g_t_42 g_t_43 0 c_above c_below c_onPart c_act c_has c_pace c_part o2)) rfl rfl rfl (rest := []) rfl rfl rfl dX9_at_11 ?_
  refine g_if_eq 26 C dX9_at_14 (by decide) h (fun h => ?_) (fun h => ?_)
  · refine g_bipush C dX9_at_26 (by decide) ?_
    cases h
    exact hret 28 _ dX9_at_28
  · refine g_aload_n 0 C dX9_at_17 rfl rfl ?_
    refine g_iload_n 1 C dX9_at_18 rfl rfl ?_
    refine g_iload_n 2 C dX9_at_19 rfl rfl ?_
    obtain ⟨r4, o5, o6, o7, hr8, h⟩ := bnd4_some h
    refine g_callI [0, 2, 3, 4, 5] [1] [1, 0, 2, 3, 4, 5] C mt_X9_285 (c_X9_comes _ _ _ _ a_t a_t_has a_t_pace a_t_part a_t_speed (.int (wI 0)) (g_t_1) (g_t_2) (g_t_3) (g_t_4) (g_t_5) (g_t_6) (g_t_7) (g_t_8) (g_t_9) (g_t_10) (g_t_11) (g_t_12) (g_t_13) (g_t_14) (g_t_15) (g_t_16) (g_t_20) (.ref a_t_act) (g_t_22) (g_t_27) (g_t_28) (g_t_29) (g_t_30) (g_t_31) (g_t_32) (g_t_33) (g_t_34) (g_t_35) (g_t_36) (g_t_37) (g_t_38) (g_t_39) (g_t_40) (g_t_41) (g_t_42) (g_t_43) x1 x2 c_above c_below c_onPart c_has c_pace c_part o2 F hr8) (q0 := 0) rfl (ci := 9) rfl rfl rfl (ws2 := (W_X9_at (eCy E) a_t a_t_act a_t_has a_t_pace a_t_part a_t_speed g_t_1 g_t_2 g_t_3 g_t_4 g_t_5 g_t_6 g_t_7 g_t_8 g_t_9 g_t_10 g_t_11 g_t_12 g_t_13 g_t_14 g_t_15 g_t_16 g_t_20 g_t_22 g_t_27 g_t_28 g_t_29 g_t_30 g_t_31 g_t_32 g_t_33 g_t_34 g_t_35 g_t_36 g_t_37 g_t_38 g_t_39 g_t_40 g_t_41 g_t_42 g_t_43 0 o5 o6 o7 c_act c_has c_pace c_part o2)) rfl rfl rfl (rest := []) rfl rfl rfl dX9_at_20 ?_
    refine g_goto (tgt := 28) C dX9_at_23 (by decide) ?_
    cases h
    exact hret 28 _ dX9_at_28
end S_X9_at
set_option maxRecDepth 100000 in
set_option maxHeartbeats 4000000 in
theorem c_X9_at (l : Launch) (D : va_G) (cy : Nat → ClassId) (ad : AD) (a_t a_t_act a_t_has a_t_pace a_t_part a_t_speed : Nat) (g_t_1 : Value) (g_t_2 : Value) (g_t_3 : Value) (g_t_4 : Value) (g_t_5 : Value) (g_t_6 : Value) (g_t_7 : Value) (g_t_8 : Value) (g_t_9 : Value) (g_t_10 : Value) (g_t_11 : Value) (g_t_12 : Value) (g_t_13 : Value) (g_t_14 : Value) (g_t_15 : Value) (g_t_16 : Value) (g_t_20 : Value) (g_t_22 : Value) (g_t_27 : Value) (g_t_28 : Value) (g_t_29 : Value) (g_t_30 : Value) (g_t_31 : Value) (g_t_32 : Value) (g_t_33 : Value) (g_t_34 : Value) (g_t_35 : Value) (g_t_36 : Value) (g_t_37 : Value) (g_t_38 : Value) (g_t_39 : Value) (g_t_40 : Value) (g_t_41 : Value) (g_t_42 : Value) (g_t_43 : Value) (x1 : Int) (x2 : Int) (c_thrown : Int) (c_above : Int) (c_below : Int) (c_onPart : Int) (c_act : Int → Int) (c_has : Int → Int) (c_pace : Int → Int) (c_part : Int → Int) (c_speed : Int → Int) (F : Nat) {v : Int × Int × Int × Int × Int × (Int → Int)} (h : m_X9_at F x1 x2 c_above c_below c_onPart c_act c_has c_pace c_part c_speed = some v) : Ct l yX9_at cX9_at 3 (some .int) { frames := 203, cells := 0, slots := 0, locals := 6255 } D cy ad [.ref a_t, .int (wI x1), .int (wI x2)] (W_X9_at cy a_t a_t_act a_t_has a_t_pace a_t_part a_t_speed g_t_1 g_t_2 g_t_3 g_t_4 g_t_5 g_t_6 g_t_7 g_t_8 g_t_9 g_t_10 g_t_11 g_t_12 g_t_13 g_t_14 g_t_15 g_t_16 g_t_20 g_t_22 g_t_27 g_t_28 g_t_29 g_t_30 g_t_31 g_t_32 g_t_33 g_t_34 g_t_35 g_t_36 g_t_37 g_t_38 g_t_39 g_t_40 g_t_41 g_t_42 g_t_43 c_thrown c_above c_below c_onPart c_act c_has c_pace c_part c_speed) (W_X9_at cy a_t a_t_act a_t_has a_t_pace a_t_part a_t_speed g_t_1 g_t_2 g_t_3 g_t_4 g_t_5 g_t_6 g_t_7 g_t_8 g_t_9 g_t_10 g_t_11 g_t_12 g_t_13 g_t_14 g_t_15 g_t_16 g_t_20 g_t_22 g_t_27 g_t_28 g_t_29 g_t_30 g_t_31 g_t_32 g_t_33 g_t_34 g_t_35 g_t_36 g_t_37 g_t_38 g_t_39 g_t_40 g_t_41 g_t_42 g_t_43 (v.2.1) (v.2.2.1) (v.2.2.2.1) (v.2.2.2.2.1) c_act c_has c_pace c_part (v.2.2.2.2.2)) (some (.int (wI (v.1)))) := by
  refine Ct.introI (j := 0) (plainFor_of_name (by decide)) rfl rfl (fun E C e1 e2 e3 e4 e5 hret => ?_)
  subst e1; subst e2; subst e3; subst e4
  exact wm_X9_at C e5 h hret
-- MovingStairModel.on(II)I
def W_X9_on (cy : Nat → ClassId) (a_t a_t_act a_t_has a_t_pace a_t_part a_t_speed : Nat) (g_t_1 : Value) (g_t_2 : Value) (g_t_3 : Value) (g_t_4 : Value) (g_t_5 : Value) (g_t_6 : Value) (g_t_7 : Value) (g_t_8 : Value) (g_t_9 : Value) (g_t_10 : Value) (g_t_11 : Value) (g_t_12 : Value) (g_t_13 : Value) (g_t_14 : Value) (g_t_15 : Value) (g_t_16 : Value) (g_t_20 : Value) (g_t_22 : Value) (g_t_27 : Value) (g_t_28 : Value) (g_t_29 : Value) (g_t_30 : Value) (g_t_31 : Value) (g_t_32 : Value) (g_t_33 : Value) (g_t_34 : Value) (g_t_35 : Value) (g_t_36 : Value) (g_t_37 : Value) (g_t_38 : Value) (g_t_39 : Value) (g_t_40 : Value) (g_t_41 : Value) (g_t_42 : Value) (g_t_43 : Value) (c_thrown : Int) (c_above : Int) (c_below : Int) (c_onPart : Int) (c_act : Int → Int) (c_has : Int → Int) (c_pace : Int → Int) (c_part : Int → Int) (c_speed : Int → Int) : va_W := [(a_t, .inr (9, [.int (wI c_thrown), g_t_1, g_t_2, g_t_3, g_t_4, g_t_5, g_t_6, g_t_7, g_t_8, g_t_9, g_t_10, g_t_11, g_t_12, g_t_13, g_t_14, g_t_15, g_t_16, .ref a_t_has, .ref a_t_part, .ref a_t_pace, g_t_20, .ref a_t_act, g_t_22, .ref a_t_speed, .long (wJ c_above), .long (wJ c_below), .int (wI c_onPart), g_t_27, g_t_28, g_t_29, g_t_30, g_t_31, g_t_32, g_t_33, g_t_34, g_t_35, g_t_36, g_t_37, g_t_38, g_t_39, g_t_40, g_t_41, g_t_42, g_t_43])), (a_t_act, .inl (cy 1, 600, .inl (aI c_act))), (a_t_has, .inl (cy 1, 45, .inl (aI c_has))), (a_t_pace, .inl (cy 1, 40, .inl (aI c_pace))), (a_t_part, .inl (cy 1, 40, .inl (aI c_part))), (a_t_speed, .inl (cy 1, 4, .inl (aI c_speed)))]
def m_X9_on (F : Nat) (x1 : Int) (x2 : Int) (c_above : Int) (c_below : Int) (c_onPart : Int) (c_act : Int → Int) (c_has : Int → Int) (c_pace : Int → Int) (c_part : Int → Int) (c_speed : Int → Int) : Option (Int × Int × Int × Int × Int × (Int → Int)) :=
  bnd2 (m_X9_areSeconds F x1 x2 36000 c_act c_has c_part c_speed) fun r1 o2 => if wI r1 = wI 0 then
    (some ((-2), 0, c_above, c_below, c_onPart, o2))
  else
    (bnd4 (m_X9_comes F x1 x2 c_has c_pace c_part o2) fun r4 o5 o6 o7 => some (o7, 0, o5, o6, o7, o2))
section S_X9_on
variable {E : EE} {a_t a_t_act a_t_has a_t_pace a_t_part a_t_speed : Nat} {g_t_1 : Value} {g_t_2 : Value} {g_t_3 : Value} {g_t_4 : Value} {g_t_5 : Value} {g_t_6 : Value} {g_t_7 : Value} {g_t_8 : Value} {g_t_9 : Value} {g_t_10 : Value} {g_t_11 : Value} {g_t_12 : Value} {g_t_13 : Value} {g_t_14 : Value} {g_t_15 : Value} {g_t_16 : Value} {g_t_20 : Value} {g_t_22 : Value} {g_t_27 : Value} {g_t_28 : Value} {g_t_29 : Value} {g_t_30 : Value} {g_t_31 : Value} {g_t_32 : Value} {g_t_33 : Value} {g_t_34 : Value} {g_t_35 : Value} {g_t_36 : Value} {g_t_37 : Value} {g_t_38 : Value} {g_t_39 : Value} {g_t_40 : Value} {g_t_41 : Value} {g_t_42 : Value} {g_t_43 : Value}
set_option maxRecDepth 100000 in
set_option maxHeartbeats 4000000 in
theorem wm_X9_on {F : Nat} {v : Int × Int × Int × Int × Int × (Int → Int)} {x1 : Int} {x2 : Int} {c_above : Int} {c_below : Int} {c_onPart : Int} {c_act : Int → Int} {c_has : Int → Int} {c_pace : Int → Int} {c_part : Int → Int} {c_speed : Int → Int} {c_thrown : Int} (C : Cx E cX9_on RX9 { frames := 203, cells := 0, slots := 0, locals := 6255 }) (hN : eN E = 3) (h : m_X9_on F x1 x2 c_above c_below c_onPart c_act c_has c_pace c_part c_speed = some v) (hret : ∀ (pc : Nat) (L : List (Option Value)), decode cX9_on pc = .ok (.ireturn, 1) → GG E 0 0 (W_X9_on (eCy E) a_t a_t_act a_t_has a_t_pace a_t_part a_t_speed g_t_1 g_t_2 g_t_3 g_t_4 g_t_5 g_t_6 g_t_7 g_t_8 g_t_9 g_t_10 g_t_11 g_t_12 g_t_13 g_t_14 g_t_15 g_t_16 g_t_20 g_t_22 g_t_27 g_t_28 g_t_29 g_t_30 g_t_31 g_t_32 g_t_33 g_t_34 g_t_35 g_t_36 g_t_37 g_t_38 g_t_39 g_t_40 g_t_41 g_t_42 g_t_43 (v.2.1) (v.2.2.1) (v.2.2.2.1) (v.2.2.2.2.1) c_act c_has c_pace c_part (v.2.2.2.2.2)) L pc [.int (wI (v.1))]) : GG E 0 0 (W_X9_on (eCy E) a_t a_t_act a_t_has a_t_pace a_t_part a_t_speed g_t_1 g_t_2 g_t_3 g_t_4 g_t_5 g_t_6 g_t_7 g_t_8 g_t_9 g_t_10 g_t_11 g_t_12 g_t_13 g_t_14 g_t_15 g_t_16 g_t_20 g_t_22 g_t_27 g_t_28 g_t_29 g_t_30 g_t_31 g_t_32 g_t_33 g_t_34 g_t_35 g_t_36 g_t_37 g_t_38 g_t_39 g_t_40 g_t_41 g_t_42 g_t_43 c_thrown c_above c_below c_onPart c_act c_has c_pace c_part c_speed) [some (.ref a_t), some (.int (wI x1)), some (.int (wI x2))] 0 [] := by
  unfold m_X9_on at h
  refine g_aload_n 0 C dX9_on_0 rfl rfl ?_
  refine g_iconst C dX9_on_1 ?_
  refine g_putI C fp_X9_71 0 rfl rfl (ws' := (W_X9_on (eCy E) a_t a_t_act a_t_has a_t_pace a_t_part a_t_speed g_t_1 g_t_2 g_t_3 g_t_4 g_t_5 g_t_6 g_t_7 g_t_8 g_t_9 g_t_10 g_t_11 g_t_12 g_t_13 g_t_14 g_t_15 g_t_16 g_t_20 g_t_22 g_t_27 g_t_28 g_t_29 g_t_30 g_t_31 g_t_32 g_t_33 g_t_34 g_t_35 g_t_36 g_t_37 g_t_38 g_t_39 g_t_40 g_t_41 g_t_42 g_t_43 0 c_above c_below c_onPart c_act c_has c_pace c_part c_speed)) rfl dX9_on_2 ?_
  refine g_aload_n 0 C dX9_on_5 rfl rfl ?_
  refine g_iload_n 1 C dX9_on_6 rfl rfl ?_
  refine g_iload_n 2 C dX9_on_7 rfl rfl ?_
  refine g_ldcw (v := 36000) C mc_X9_281 dX9_on_8 ?_
  obtain ⟨r1, o2, hr3, h⟩ := bnd2_some h
  refine g_callI [0, 1, 2, 4, 5] [3] [1, 2, 3, 0, 4, 5] C mt_X9_282 (c_X9_areSeconds _ _ _ _ a_t a_t_act a_t_has a_t_part a_t_speed (.int (wI 0)) (g_t_1) (g_t_2) (g_t_3) (g_t_4) (g_t_5) (g_t_6) (g_t_7) (g_t_8) (g_t_9) (g_t_10) (g_t_11) (g_t_12) (g_t_13) (g_t_14) (g_t_15) (g_t_16) (.ref a_t_pace) (g_t_20) (g_t_22) (.long (wJ c_above)) (.long (wJ c_below)) (.int (wI c_onPart)) (g_t_27) (g_t_28) (g_t_29) (g_t_30) (g_t_31) (g_t_32) (g_t_33) (g_t_34) (g_t_35) (g_t_36) (g_t_37) (g_t_38) (g_t_39) (g_t_40) (g_t_41) (g_t_42) (g_t_43) x1 x2 36000 c_act c_has c_part c_speed F hr3) (q0 := 0) rfl (ci := 9) rfl rfl rfl (ws2 := (W_X9_on (eCy E) a_t a_t_act a_t_has a_t_pace a_t_part a_t_speed g_t_1 g_t_2 g_t_3 g_t_4 g_t_5 g_t_6 g_t_7 g_t_8 g_t_9 g_t_10 g_t_11 g_t_12 g_t_13 g_t_14 g_t_15 g_t_16 g_t_20 g_t_22 g_t_27 g_t_28 g_t_29 g_t_30 g_t_31 g_t_32 g_t_33 g_t_34 g_t_35 g_t_36 g_t_37 g_t_38 g_t_39 g_t_40 g_t_41 g_t_42 g_t_43 0 c_above c_below c_onPart c_act c_has c_pace c_part o2)) rfl rfl rfl (rest := []) rfl rfl rfl dX9_on_11 ?_
  refine g_if_ne 20 C dX9_on_14 (by decide) h (fun h => ?_) (fun h => ?_)
  · refine g_aload_n 0 C dX9_on_20 rfl rfl ?_
    refine g_iload_n 1 C dX9_on_21 rfl rfl ?_
    refine g_iload_n 2 C dX9_on_22 rfl rfl ?_
    obtain ⟨r4, o5, o6, o7, hr8, h⟩ := bnd4_some h
    refine g_callI [0, 2, 3, 4, 5] [1] [1, 0, 2, 3, 4, 5] C mt_X9_285 (c_X9_comes _ _ _ _ a_t a_t_has a_t_pace a_t_part a_t_speed (.int (wI 0)) (g_t_1) (g_t_2) (g_t_3) (g_t_4) (g_t_5) (g_t_6) (g_t_7) (g_t_8) (g_t_9) (g_t_10) (g_t_11) (g_t_12) (g_t_13) (g_t_14) (g_t_15) (g_t_16) (g_t_20) (.ref a_t_act) (g_t_22) (g_t_27) (g_t_28) (g_t_29) (g_t_30) (g_t_31) (g_t_32) (g_t_33) (g_t_34) (g_t_35) (g_t_36) (g_t_37) (g_t_38) (g_t_39) (g_t_40) (g_t_41) (g_t_42) (g_t_43) x1 x2 c_above c_below c_onPart c_has c_pace c_part o2 F hr8) (q0 := 0) rfl (ci := 9) rfl rfl rfl (ws2 := (W_X9_on (eCy E) a_t a_t_act a_t_has a_t_pace a_t_part a_t_speed g_t_1 g_t_2 g_t_3 g_t_4 g_t_5 g_t_6 g_t_7 g_t_8 g_t_9 g_t_10 g_t_11 g_t_12 g_t_13 g_t_14 g_t_15 g_t_16 g_t_20 g_t_22 g_t_27 g_t_28 g_t_29 g_t_30 g_t_31 g_t_32 g_t_33 g_t_34 g_t_35 g_t_36 g_t_37 g_t_38 g_t_39 g_t_40 g_t_41 g_t_42 g_t_43 0 o5 o6 o7 c_act c_has c_pace c_part o2)) rfl rfl rfl (rest := []) rfl rfl rfl dX9_on_23 ?_
    refine g_pop C dX9_on_26 rfl ?_
    refine g_aload_n 0 C dX9_on_27 rfl rfl ?_
    refine g_get C fg_X9_278 0 rfl rfl dX9_on_28 ?_
    refine g_st (st' := [.int (wI o7)]) rfl ?_
    cases h
    exact hret 31 _ dX9_on_31
  · refine g_bipush C dX9_on_17 (by decide) ?_
    cases h
    exact hret 19 _ dX9_on_19
end S_X9_on
set_option maxRecDepth 100000 in
set_option maxHeartbeats 4000000 in
theorem c_X9_on (l : Launch) (D : va_G) (cy : Nat → ClassId) (ad : AD) (a_t a_t_act a_t_has a_t_pace a_t_part a_t_speed : Nat) (g_t_1 : Value) (g_t_2 : Value) (g_t_3 : Value) (g_t_4 : Value) (g_t_5 : Value) (g_t_6 : Value) (g_t_7 : Value) (g_t_8 : Value) (g_t_9 : Value) (g_t_10 : Value) (g_t_11 : Value) (g_t_12 : Value) (g_t_13 : Value) (g_t_14 : Value) (g_t_15 : Value) (g_t_16 : Value) (g_t_20 : Value) (g_t_22 : Value) (g_t_27 : Value) (g_t_28 : Value) (g_t_29 : Value) (g_t_30 : Value) (g_t_31 : Value) (g_t_32 : Value) (g_t_33 : Value) (g_t_34 : Value) (g_t_35 : Value) (g_t_36 : Value) (g_t_37 : Value) (g_t_38 : Value) (g_t_39 : Value) (g_t_40 : Value) (g_t_41 : Value) (g_t_42 : Value) (g_t_43 : Value) (x1 : Int) (x2 : Int) (c_thrown : Int) (c_above : Int) (c_below : Int) (c_onPart : Int) (c_act : Int → Int) (c_has : Int → Int) (c_pace : Int → Int) (c_part : Int → Int) (c_speed : Int → Int) (F : Nat) {v : Int × Int × Int × Int × Int × (Int → Int)} (h : m_X9_on F x1 x2 c_above c_below c_onPart c_act c_has c_pace c_part c_speed = some v) : Ct l yX9_on cX9_on 3 (some .int) { frames := 203, cells := 0, slots := 0, locals := 6255 } D cy ad [.ref a_t, .int (wI x1), .int (wI x2)] (W_X9_on cy a_t a_t_act a_t_has a_t_pace a_t_part a_t_speed g_t_1 g_t_2 g_t_3 g_t_4 g_t_5 g_t_6 g_t_7 g_t_8 g_t_9 g_t_10 g_t_11 g_t_12 g_t_13 g_t_14 g_t_15 g_t_16 g_t_20 g_t_22 g_t_27 g_t_28 g_t_29 g_t_30 g_t_31 g_t_32 g_t_33 g_t_34 g_t_35 g_t_36 g_t_37 g_t_38 g_t_39 g_t_40 g_t_41 g_t_42 g_t_43 c_thrown c_above c_below c_onPart c_act c_has c_pace c_part c_speed) (W_X9_on cy a_t a_t_act a_t_has a_t_pace a_t_part a_t_speed g_t_1 g_t_2 g_t_3 g_t_4 g_t_5 g_t_6 g_t_7 g_t_8 g_t_9 g_t_10 g_t_11 g_t_12 g_t_13 g_t_14 g_t_15 g_t_16 g_t_20 g_t_22 g_t_27 g_t_28 g_t_29 g_t_30 g_t_31 g_t_32 g_t_33 g_t_34 g_t_35 g_t_36 g_t_37 g_t_38 g_t_39 g_t_40 g_t_41 g_t_42 g_t_43 (v.2.1) (v.2.2.1) (v.2.2.2.1) (v.2.2.2.2.1) c_act c_has c_pace c_part (v.2.2.2.2.2)) (some (.int (wI (v.1)))) := by
  refine Ct.introI (j := 0) (plainFor_of_name (by decide)) rfl rfl (fun E C e1 e2 e3 e4 e5 hret => ?_)
  subst e1; subst e2; subst e3; subst e4
  exact wm_X9_on C e5 h hret
-- MovingStairModel.keeps(I)V
def W_X9_keeps (cy : Nat → ClassId) (a_t : Nat) (g_t_0 : Value) (g_t_1 : Value) (g_t_2 : Value) (g_t_3 : Value) (g_t_4 : Value) (g_t_5 : Value) (g_t_6 : Value) (g_t_7 : Value) (g_t_8 : Value) (g_t_9 : Value) (g_t_10 : Value) (g_t_11 : Value) (g_t_12 : Value) (g_t_13 : Value) (g_t_14 : Value) (g_t_15 : Value) (g_t_16 : Value) (g_t_17 : Value) (g_t_18 : Value) (g_t_19 : Value) (g_t_20 : Value) (g_t_21 : Value) (g_t_22 : Value) (g_t_23 : Value) (g_t_26 : Value) (g_t_30 : Value) (g_t_31 : Value) (g_t_32 : Value) (g_t_33 : Value) (g_t_34 : Value) (g_t_35 : Value) (g_t_36 : Value) (g_t_37 : Value) (g_t_38 : Value) (g_t_39 : Value) (g_t_40 : Value) (g_t_41 : Value) (g_t_42 : Value) (g_t_43 : Value) (c_above : Int) (c_below : Int) (c_leastAbove : Int) (c_leastBelow : Int) (c_leastOf : Int) : va_W := [(a_t, .inr (9, [g_t_0, g_t_1, g_t_2, g_t_3, g_t_4, g_t_5, g_t_6, g_t_7, g_t_8, g_t_9, g_t_10, g_t_11, g_t_12, g_t_13, g_t_14, g_t_15, g_t_16, g_t_17, g_t_18, g_t_19, g_t_20, g_t_21, g_t_22, g_t_23, .long (wJ c_above), .long (wJ c_below), g_t_26, .long (wJ c_leastAbove), .long (wJ c_leastBelow), .int (wI c_leastOf), g_t_30, g_t_31, g_t_32, g_t_33, g_t_34, g_t_35, g_t_36, g_t_37, g_t_38, g_t_39, g_t_40, g_t_41, g_t_42, g_t_43]))]
def mb_X9_keeps_31 (F : Nat) (x1 : Int) (c_above : Int) (c_below : Int) : Option (Int × Int × Int) :=
  some (c_above, c_below, x1)
def m_X9_keeps (F : Nat) (x1 : Int) (c_above : Int) (c_below : Int) (c_leastAbove : Int) (c_leastBelow : Int) (c_leastOf : Int) : Option (Int × Int × Int) :=
  if wI c_leastOf = wI (-1) then
    (mb_X9_keeps_31 F x1 c_above c_below)
  else
    (bnd1 (m_X9_isLess F c_above c_below c_leastAbove c_leastBelow) fun r1 => if wI r1 = wI 0 then
    (some (c_leastAbove, c_leastBelow, c_leastOf))
  else
    (mb_X9_keeps_31 F x1 c_above c_below))
section S_X9_keeps
variable {E : EE} {a_t : Nat} {g_t_0 : Value} {g_t_1 : Value} {g_t_2 : Value} {g_t_3 : Value} {g_t_4 : Value} {g_t_5 : Value} {g_t_6 : Value} {g_t_7 : Value} {g_t_8 : Value} {g_t_9 : Value} {g_t_10 : Value} {g_t_11 : Value} {g_t_12 : Value} {g_t_13 : Value} {g_t_14 : Value} {g_t_15 : Value} {g_t_16 : Value} {g_t_17 : Value} {g_t_18 : Value} {g_t_19 : Value} {g_t_20 : Value} {g_t_21 : Value} {g_t_22 : Value} {g_t_23 : Value} {g_t_26 : Value} {g_t_30 : Value} {g_t_31 : Value} {g_t_32 : Value} {g_t_33 : Value} {g_t_34 : Value} {g_t_35 : Value} {g_t_36 : Value} {g_t_37 : Value} {g_t_38 : Value} {g_t_39 : Value} {g_t_40 : Value} {g_t_41 : Value} {g_t_42 : Value} {g_t_43 : Value}
set_option maxRecDepth 100000 in
set_option maxHeartbeats 4000000 in
theorem wb_X9_keeps_31 {F : Nat} {v : Int × Int × Int} {x1 : Int} {c_above : Int} {c_below : Int} {c_leastAbove : Int} {c_leastBelow : Int} {c_leastOf : Int} (C : Cx E cX9_keeps RX9 { frames := 201, cells := 0, slots := 0, locals := 6231 }) (hN : eN E = 2) (h : mb_X9_keeps_31 F x1 c_above c_below = some v) (hret : ∀ (pc : Nat) (L : List (Option Value)), decode cX9_keeps pc = .ok (.return_, 1) → GG E 0 0 (W_X9_keeps (eCy E) a_t g_t_0 g_t_1 g_t_2 g_t_3 g_t_4 g_t_5 g_t_6 g_t_7 g_t_8 g_t_9 g_t_10 g_t_11 g_t_12 g_t_13 g_t_14 g_t_15 g_t_16 g_t_17 g_t_18 g_t_19 g_t_20 g_t_21 g_t_22 g_t_23 g_t_26 g_t_30 g_t_31 g_t_32 g_t_33 g_t_34 g_t_35 g_t_36 g_t_37 g_t_38 g_t_39 g_t_40 g_t_41 g_t_42 g_t_43 c_above c_below (v.1) (v.2.1) (v.2.2)) L pc []) : GG E 0 0 (W_X9_keeps (eCy E) a_t g_t_0 g_t_1 g_t_2 g_t_3 g_t_4 g_t_5 g_t_6 g_t_7 g_t_8 g_t_9 g_t_10 g_t_11 g_t_12 g_t_13 g_t_14 g_t_15 g_t_16 g_t_17 g_t_18 g_t_19 g_t_20 g_t_21 g_t_22 g_t_23 g_t_26 g_t_30 g_t_31 g_t_32 g_t_33 g_t_34 g_t_35 g_t_36 g_t_37 g_t_38 g_t_39 g_t_40 g_t_41 g_t_42 g_t_43 c_above c_below c_leastAbove c_leastBelow c_leastOf) [some (.ref a_t), some (.int (wI x1))] 31 [] := by
  unfold mb_X9_keeps_31 at h
  refine g_aload_n 0 C dX9_keeps_31 rfl rfl ?_
  refine g_aload_n 0 C dX9_keeps_32 rfl rfl ?_
  refine g_get C fg_X9_246 0 rfl rfl dX9_keeps_33 ?_
  refine g_st (st' := [.long (wJ c_above), .ref a_t]) rfl ?_
  refine g_putJ C fp_X9_291 0 rfl rfl (ws' := (W_X9_keeps (eCy E) a_t g_t_0 g_t_1 g_t_2 g_t_3 g_t_4 g_t_5 g_t_6 g_t_7 g_t_8 g_t_9 g_t_10 g_t_11 g_t_12 g_t_13 g_t_14 g_t_15 g_t_16 g_t_17 g_t_18 g_t_19 g_t_20 g_t_21 g_t_22 g_t_23 g_t_26 g_t_30 g_t_31 g_t_32 g_t_33 g_t_34 g_t_35 g_t_36 g_t_37 g_t_38 g_t_39 g_t_40 g_t_41 g_t_42 g_t_43 c_above c_below c_above c_leastBelow c_leastOf)) rfl dX9_keeps_36 ?_
  refine g_aload_n 0 C dX9_keeps_39 rfl rfl ?_
  refine g_aload_n 0 C dX9_keeps_40 rfl rfl ?_
  refine g_get C fg_X9_243 0 rfl rfl dX9_keeps_41 ?_
  refine g_st (st' := [.long (wJ c_below), .ref a_t]) rfl ?_
  refine g_putJ C fp_X9_294 0 rfl rfl (ws' := (W_X9_keeps (eCy E) a_t g_t_0 g_t_1 g_t_2 g_t_3 g_t_4 g_t_5 g_t_6 g_t_7 g_t_8 g_t_9 g_t_10 g_t_11 g_t_12 g_t_13 g_t_14 g_t_15 g_t_16 g_t_17 g_t_18 g_t_19 g_t_20 g_t_21 g_t_22 g_t_23 g_t_26 g_t_30 g_t_31 g_t_32 g_t_33 g_t_34 g_t_35 g_t_36 g_t_37 g_t_38 g_t_39 g_t_40 g_t_41 g_t_42 g_t_43 c_above c_below c_above c_below c_leastOf)) rfl dX9_keeps_44 ?_
  refine g_aload_n 0 C dX9_keeps_47 rfl rfl ?_
  refine g_iload_n 1 C dX9_keeps_48 rfl rfl ?_
  refine g_putI C fp_X9_288 0 rfl rfl (ws' := (W_X9_keeps (eCy E) a_t g_t_0 g_t_1 g_t_2 g_t_3 g_t_4 g_t_5 g_t_6 g_t_7 g_t_8 g_t_9 g_t_10 g_t_11 g_t_12 g_t_13 g_t_14 g_t_15 g_t_16 g_t_17 g_t_18 g_t_19 g_t_20 g_t_21 g_t_22 g_t_23 g_t_26 g_t_30 g_t_31 g_t_32 g_t_33 g_t_34 g_t_35 g_t_36 g_t_37 g_t_38 g_t_39 g_t_40 g_t_41 g_t_42 g_t_43 c_above c_below c_above c_below x1)) rfl dX9_keeps_49 ?_
  cases h
  exact hret 52 _ dX9_keeps_52
set_option maxRecDepth 100000 in
set_option maxHeartbeats 4000000 in
theorem wm_X9_keeps {F : Nat} {v : Int × Int × Int} {x1 : Int} {c_above : Int} {c_below : Int} {c_leastAbove : Int} {c_leastBelow : Int} {c_leastOf : Int} (C : Cx E cX9_keeps RX9 { frames := 201, cells := 0, slots := 0, locals := 6231 }) (hN : eN E = 2) (h : m_X9_keeps F x1 c_above c_below c_leastAbove c_leastBelow c_leastOf = some v) (hret : ∀ (pc : Nat) (L : List (Option Value)), decode cX9_keeps pc = .ok (.return_, 1) → GG E 0 0 (W_X9_keeps (eCy E) a_t g_t_0 g_t_1 g_t_2 g_t_3 g_t_4 g_t_5 g_t_6 g_t_7 g_t_8 g_t_9 g_t_10 g_t_11 g_t_12 g_t_13 g_t_14 g_t_15 g_t_16 g_t_17 g_t_18 g_t_19 g_t_20 g_t_21 g_t_22 g_t_23 g_t_26 g_t_30 g_t_31 g_t_32 g_t_33 g_t_34 g_t_35 g_t_36 g_t_37 g_t_38 g_t_39 g_t_40 g_t_41 g_t_42 g_t_43 c_above c_below (v.1) (v.2.1) (v.2.2)) L pc []) : GG E 0 0 (W_X9_keeps (eCy E) a_t g_t_0 g_t_1 g_t_2 g_t_3 g_t_4 g_t_5 g_t_6 g_t_7 g_t_8 g_t_9 g_t_10 g_t_11 g_t_12 g_t_13 g_t_14 g_t_15 g_t_16 g_t_17 g_t_18 g_t_19 g_t_20 g_t_21 g_t_22 g_t_23 g_t_26 g_t_30 g_t_31 g_t_32 g_t_33 g_t_34 g_t_35 g_t_36 g_t_37 g_t_38 g_t_39 g_t_40 g_t_41 g_t_42 g_t_43 c_above c_below c_leastAbove c_leastBelow c_leastOf) [some (.ref a_t), some (.int (wI x1))] 0 [] := by
  unfold m_X9_keeps at h
  refine g_aload_n 0 C dX9_keeps_0 rfl rfl ?_
  refine g_get C fg_X9_288 0 rfl rfl dX9_keeps_1 ?_
  refine g_st (st' := [.int (wI c_leastOf)]) rfl ?_
  refine g_iconst C dX9_keeps_4 ?_
  refine g_icmp_eq 31 C dX9_keeps_5 (by decide) h (fun h => ?_) (fun h => ?_)
  · exact wb_X9_keeps_31 C hN h hret
  · refine g_aload_n 0 C dX9_keeps_8 rfl rfl ?_
    refine g_get C fg_X9_246 0 rfl rfl dX9_keeps_9 ?_
    refine g_st (st' := [.long (wJ c_above)]) rfl ?_
    refine g_aload_n 0 C dX9_keeps_12 rfl rfl ?_
    refine g_get C fg_X9_243 0 rfl rfl dX9_keeps_13 ?_
    refine g_st (st' := [.long (wJ c_below), .long (wJ c_above)]) rfl ?_
    refine g_aload_n 0 C dX9_keeps_16 rfl rfl ?_
    refine g_get C fg_X9_291 0 rfl rfl dX9_keeps_17 ?_
    refine g_st (st' := [.long (wJ c_leastAbove), .long (wJ c_below), .long (wJ c_above)]) rfl ?_
    refine g_aload_n 0 C dX9_keeps_20 rfl rfl ?_
    refine g_get C fg_X9_294 0 rfl rfl dX9_keeps_21 ?_
    refine g_st (st' := [.long (wJ c_leastBelow), .long (wJ c_leastAbove), .long (wJ c_below), .long (wJ c_above)]) rfl ?_
    obtain ⟨r1, hr2, h⟩ := bnd1_some h
    refine g_callSI [] [0] [0] C mt_X9_249 (c_X9_isLess _ _ _ _ c_above c_below c_leastAbove c_leastBelow F hr2) rfl rfl (ws2 := (W_X9_keeps (eCy E) a_t g_t_0 g_t_1 g_t_2 g_t_3 g_t_4 g_t_5 g_t_6 g_t_7 g_t_8 g_t_9 g_t_10 g_t_11 g_t_12 g_t_13 g_t_14 g_t_15 g_t_16 g_t_17 g_t_18 g_t_19 g_t_20 g_t_21 g_t_22 g_t_23 g_t_26 g_t_30 g_t_31 g_t_32 g_t_33 g_t_34 g_t_35 g_t_36 g_t_37 g_t_38 g_t_39 g_t_40 g_t_41 g_t_42 g_t_43 c_above c_below c_leastAbove c_leastBelow c_leastOf)) rfl rfl rfl (rest := []) rfl rfl rfl dX9_keeps_24 ?_
    refine g_if_ne 31 C dX9_keeps_27 (by decide) h (fun h => ?_) (fun h => ?_)
    · exact wb_X9_keeps_31 C hN h hret
    · cases h
      exact hret 30 _ dX9_keeps_30
end S_X9_keeps
set_option maxRecDepth 100000 in
set_option maxHeartbeats 4000000 in
theorem c_X9_keeps (l : Launch) (D : va_G) (cy : Nat → ClassId) (ad : AD) (a_t : Nat) (g_t_0 : Value) (g_t_1 : Value) (g_t_2 : Value) (g_t_3 : Value) (g_t_4 : Value) (g_t_5 : Value) (g_t_6 : Value) (g_t_7 : Value) (g_t_8 : Value) (g_t_9 : Value) (g_t_10 : Value) (g_t_11 : Value) (g_t_12 : Value) (g_t_13 : Value) (g_t_14 : Value) (g_t_15 : Value) (g_t_16 : Value) (g_t_17 : Value) (g_t_18 : Value) (g_t_19 : Value) (g_t_20 : Value) (g_t_21 : Value) (g_t_22 : Value) (g_t_23 : Value) (g_t_26 : Value) (g_t_30 : Value) (g_t_31 : Value) (g_t_32 : Value) (g_t_33 : Value) (g_t_34 : Value) (g_t_35 : Value) (g_t_36 : Value) (g_t_37 : Value) (g_t_38 : Value) (g_t_39 : Value) (g_t_40 : Value) (g_t_41 : Value) (g_t_42 : Value) (g_t_43 : Value) (x1 : Int) (c_above : Int) (c_below : Int) (c_leastAbove : Int) (c_leastBelow : Int) (c_leastOf : Int) (F : Nat) {v : Int × Int × Int} (h : m_X9_keeps F x1 c_above c_below c_leastAbove c_leastBelow c_leastOf = some v) : Ct l yX9_keeps cX9_keeps 2 none { frames := 201, cells := 0, slots := 0, locals := 6231 } D cy ad [.ref a_t, .int (wI x1)] (W_X9_keeps cy a_t g_t_0 g_t_1 g_t_2 g_t_3 g_t_4 g_t_5 g_t_6 g_t_7 g_t_8 g_t_9 g_t_10 g_t_11 g_t_12 g_t_13 g_t_14 g_t_15 g_t_16 g_t_17 g_t_18 g_t_19 g_t_20 g_t_21 g_t_22 g_t_23 g_t_26 g_t_30 g_t_31 g_t_32 g_t_33 g_t_34 g_t_35 g_t_36 g_t_37 g_t_38 g_t_39 g_t_40 g_t_41 g_t_42 g_t_43 c_above c_below c_leastAbove c_leastBelow c_leastOf) (W_X9_keeps cy a_t g_t_0 g_t_1 g_t_2 g_t_3 g_t_4 g_t_5 g_t_6 g_t_7 g_t_8 g_t_9 g_t_10 g_t_11 g_t_12 g_t_13 g_t_14 g_t_15 g_t_16 g_t_17 g_t_18 g_t_19 g_t_20 g_t_21 g_t_22 g_t_23 g_t_26 g_t_30 g_t_31 g_t_32 g_t_33 g_t_34 g_t_35 g_t_36 g_t_37 g_t_38 g_t_39 g_t_40 g_t_41 g_t_42 g_t_43 c_above c_below (v.1) (v.2.1) (v.2.2)) none := by
  refine Ct.introV (j := 0) (plainFor_of_name (by decide)) rfl rfl (fun E C e1 e2 e3 e4 e5 hret => ?_)
  subst e1; subst e2; subst e3; subst e4
  exact wm_X9_keeps C e5 h hret
-- MovingStairModel.first()I
def W_X9_first (cy : Nat → ClassId) (a_t a_t_act a_t_has a_t_lines a_t_pace a_t_part a_t_speed : Nat) (g_t_1 : Value) (g_t_2 : Value) (g_t_3 : Value) (g_t_4 : Value) (g_t_5 : Value) (g_t_6 : Value) (g_t_7 : Value) (g_t_8 : Value) (g_t_9 : Value) (g_t_10 : Value) (g_t_11 : Value) (g_t_12 : Value) (g_t_13 : Value) (g_t_14 : Value) (g_t_15 : Value) (g_t_20 : Value) (g_t_22 : Value) (g_t_26 : Value) (g_t_30 : Value) (g_t_31 : Value) (g_t_32 : Value) (g_t_33 : Value) (g_t_34 : Value) (g_t_35 : Value) (g_t_36 : Value) (g_t_37 : Value) (g_t_38 : Value) (g_t_39 : Value) (g_t_40 : Value) (g_t_41 : Value) (g_t_42 : Value) (g_t_43 : Value) (c_thrown : Int) (c_above : Int) (c_below : Int) (c_leastAbove : Int) (c_leastBelow : Int) (c_leastOf : Int) (c_act : Int → Int) (c_has : Int → Int) (c_lines : Int → Int) (c_pace : Int → Int) (c_part : Int → Int) (c_speed : Int → Int) : va_W := [(a_t, .inr (9, [.int (wI c_thrown), g_t_1, g_t_2, g_t_3, g_t_4, g_t_5, g_t_6, g_t_7, g_t_8, g_t_9, g_t_10, g_t_11, g_t_12, g_t_13, g_t_14, g_t_15, .ref a_t_lines, .ref a_t_has, .ref a_t_part, .ref a_t_pace, g_t_20, .ref a_t_act, g_t_22, .ref a_t_speed, .long (wJ c_above), .long (wJ c_below), g_t_26, .long (wJ c_leastAbove), .long (wJ c_leastBelow), .int (wI c_leastOf), g_t_30, g_t_31, g_t_32, g_t_33, g_t_34, g_t_35, g_t_36, g_t_37, g_t_38, g_t_39, g_t_40, g_t_41, g_t_42, g_t_43])), (a_t_act, .inl (cy 1, 600, .inl (aI c_act))), (a_t_has, .inl (cy 1, 45, .inl (aI c_has))), (a_t_lines, .inl (cy 1, 5, .inl (aI c_lines))), (a_t_pace, .inl (cy 1, 40, .inl (aI c_pace))), (a_t_part, .inl (cy 1, 40, .inl (aI c_part))), (a_t_speed, .inl (cy 1, 4, .inl (aI c_speed)))]
def mb_X9_first_55 (F : Nat) (k26 : Int → Int → Int → Int → Int → Int → Option (Int × Int × Int × Int × Int × Int × Int × (Int → Int))) (x1 : Int) (c_thrown : Int) (c_above : Int) (c_below : Int) (c_leastAbove : Int) (c_leastBelow : Int) (c_leastOf : Int) (c_has : Int → Int) (c_pace : Int → Int) (c_part : Int → Int) (c_speed : Int → Int) : Option (Int × Int × Int × Int × Int × Int × Int × (Int → Int)) :=
  k26 (x1 + 1) c_above c_below c_leastAbove c_leastBelow c_leastOf
def mb_X9_first_26 (F : Nat) (k26 : Int → Int → Int → Int → Int → Int → Option (Int × Int × Int × Int × Int × Int × Int × (Int → Int))) (x1 : Int) (c_thrown : Int) (c_above : Int) (c_below : Int) (c_leastAbove : Int) (c_leastBelow : Int) (c_leastOf : Int) (c_has : Int → Int) (c_pace : Int → Int) (c_part : Int → Int) (c_speed : Int → Int) : Option (Int × Int × Int × Int × Int × Int × Int × (Int → Int)) :=
  if wI (c_has 2) ≤ wI x1 then
    (some (c_leastOf, c_thrown, c_above, c_below, c_leastAbove, c_leastBelow, c_leastOf, c_speed))
  else
    (chk (0 ≤ x1 ∧ x1 < 40) <| bnd3 (m_X9_goes F (c_pace x1) 1 c_has c_part c_speed) fun r2 o3 o4 => if wI r2 = wI 0 then
    (mb_X9_first_55 F k26 x1 c_thrown o3 o4 c_leastAbove c_leastBelow c_leastOf c_has c_pace c_part c_speed)
  else
    (bnd3 (m_X9_keeps F x1 o3 o4 c_leastAbove c_leastBelow c_leastOf) fun o6 o7 o8 => mb_X9_first_55 F k26 x1 c_thrown o3 o4 o6 o7 o8 c_has c_pace c_part c_speed))
def ml_X9_first_26 (F : Nat) (x1 : Int) (c_thrown : Int) (c_above : Int) (c_below : Int) (c_leastAbove : Int) (c_leastBelow : Int) (c_leastOf : Int) (c_has : Int → Int) (c_pace : Int → Int) (c_part : Int → Int) (c_speed : Int → Int) : Option (Int × Int × Int × Int × Int × Int × Int × (Int → Int)) :=
  loopN (fun (k : Int × Int × Int × Int × Int × Int → Option (Int × Int × Int × Int × Int × Int × Int × (Int → Int))) q => mb_X9_first_26 F (fun y0 y1 y2 y3 y4 y5 => k (y0, y1, y2, y3, y4, y5)) q.1 c_thrown q.2.1 q.2.2.1 q.2.2.2.1 q.2.2.2.2.1 q.2.2.2.2.2 c_has c_pace c_part c_speed) F (x1, c_above, c_below, c_leastAbove, c_leastBelow, c_leastOf)
def m_X9_first (F : Nat) (c_above : Int) (c_below : Int) (c_leastAbove : Int) (c_leastBelow : Int) (c_leastOf : Int) (c_act : Int → Int) (c_has : Int → Int) (c_lines : Int → Int) (c_pace : Int → Int) (c_part : Int → Int) (c_speed : Int → Int) : Option (Int × Int × Int × Int × Int × Int × Int × (Int → Int)) :=
  bnd1 (m_X9_isStair F c_lines) fun r1 => if wI r1 = wI 0 then
    (some ((-2), 0, c_above, c_below, c_leastAbove, c_leastBelow, c_leastOf, c_speed))
  else
    (bnd1 (m_X9_lays F c_act c_has c_part c_speed) fun o3 => ml_X9_first_26 F 0 0 c_above c_below c_leastAbove c_leastBelow (-1) c_has c_pace c_part o3)
section S_X9_first
variable {E : EE} {a_t a_t_act a_t_has a_t_lines a_t_pace a_t_part a_t_speed : Nat} {g_t_1 : Value} {g_t_2 : Value} {g_t_3 : Value} {g_t_4 : Value} {g_t_5 : Value} {g_t_6 : Value} {g_t_7 : Value} {g_t_8 : Value} {g_t_9 : Value} {g_t_10 : Value} {g_t_11 : Value} {g_t_12 : Value} {g_t_13 : Value} {g_t_14 : Value} {g_t_15 : Value} {g_t_20 : Value} {g_t_22 : Value} {g_t_26 : Value} {g_t_30 : Value} {g_t_31 : Value} {g_t_32 : Value} {g_t_33 : Value} {g_t_34 : Value} {g_t_35 : Value} {g_t_36 : Value} {g_t_37 : Value} {g_t_38 : Value} {g_t_39 : Value} {g_t_40 : Value} {g_t_41 : Value} {g_t_42 : Value} {g_t_43 : Value}
set_option maxRecDepth 100000 in
set_option maxHeartbeats 4000000 in
theorem wb_X9_first_55 {F : Nat} {k26 : Int → Int → Int → Int → Int → Int → Option (Int × Int × Int × Int × Int × Int × Int × (Int → Int))} {v : Int × Int × Int × Int × Int × Int × Int × (Int → Int)} {x1 : Int} {c_thrown : Int} {c_above : Int} {c_below : Int} {c_leastAbove : Int} {c_leastBelow : Int} {c_leastOf : Int} {c_has : Int → Int} {c_pace : Int → Int} {c_part : Int → Int} {c_speed : Int → Int} {c_act : Int → Int} {c_lines : Int → Int} (C : Cx E cX9_first RX9 { frames := 203, cells := 0, slots := 0, locals := 6252 }) (hN : eN E = 2) (h : mb_X9_first_55 F k26 x1 c_thrown c_above c_below c_leastAbove c_leastBelow c_leastOf c_has c_pace c_part c_speed = some v) (hk26 : ∀ (y_x1 : Int) (y_c_above : Int) (y_c_below : Int) (y_c_leastAbove : Int) (y_c_leastBelow : Int) (y_c_leastOf : Int), k26 y_x1 y_c_above y_c_below y_c_leastAbove y_c_leastBelow y_c_leastOf = some v → GG E 0 0 (W_X9_first (eCy E) a_t a_t_act a_t_has a_t_lines a_t_pace a_t_part a_t_speed g_t_1 g_t_2 g_t_3 g_t_4 g_t_5 g_t_6 g_t_7 g_t_8 g_t_9 g_t_10 g_t_11 g_t_12 g_t_13 g_t_14 g_t_15 g_t_20 g_t_22 g_t_26 g_t_30 g_t_31 g_t_32 g_t_33 g_t_34 g_t_35 g_t_36 g_t_37 g_t_38 g_t_39 g_t_40 g_t_41 g_t_42 g_t_43 c_thrown y_c_above y_c_below y_c_leastAbove y_c_leastBelow y_c_leastOf c_act c_has c_lines c_pace c_part c_speed) [some (.ref a_t), some (.int (wI y_x1))] 26 []) (hret : ∀ (pc : Nat) (L : List (Option Value)), decode cX9_first pc = .ok (.ireturn, 1) → GG E 0 0 (W_X9_first (eCy E) a_t a_t_act a_t_has a_t_lines a_t_pace a_t_part a_t_speed g_t_1 g_t_2 g_t_3 g_t_4 g_t_5 g_t_6 g_t_7 g_t_8 g_t_9 g_t_10 g_t_11 g_t_12 g_t_13 g_t_14 g_t_15 g_t_20 g_t_22 g_t_26 g_t_30 g_t_31 g_t_32 g_t_33 g_t_34 g_t_35 g_t_36 g_t_37 g_t_38 g_t_39 g_t_40 g_t_41 g_t_42 g_t_43 (v.2.1) (v.2.2.1) (v.2.2.2.1) (v.2.2.2.2.1) (v.2.2.2.2.2.1) (v.2.2.2.2.2.2.1) c_act c_has c_lines c_pace c_part (v.2.2.2.2.2.2.2)) L pc [.int (wI (v.1))]) : GG E 0 0 (W_X9_first (eCy E) a_t a_t_act a_t_has a_t_lines a_t_pace a_t_part a_t_speed g_t_1 g_t_2 g_t_3 g_t_4 g_t_5 g_t_6 g_t_7 g_t_8 g_t_9 g_t_10 g_t_11 g_t_12 g_t_13 g_t_14 g_t_15 g_t_20 g_t_22 g_t_26 g_t_30 g_t_31 g_t_32 g_t_33 g_t_34 g_t_35 g_t_36 g_t_37 g_t_38 g_t_39 g_t_40 g_t_41 g_t_42 g_t_43 c_thrown c_above c_below c_leastAbove c_leastBelow c_leastOf c_act c_has c_lines c_pace c_part c_speed) [some (.ref a_t), some (.int (wI x1))] 55 [] := by
  unfold mb_X9_first_55 at h
  refine g_iinc C hN dX9_first_55 rfl rfl (L' := [some (.ref a_t), some (.int (wI (x1 + 1)))]) rfl ?_
  refine g_goto (tgt := 26) C dX9_first_58 (by decide) ?_
  exact hk26 _ _ _ _ _ _ h
set_option maxRecDepth 100000 in
set_option maxHeartbeats 4000000 in
theorem wb_X9_first_26 {F : Nat} {k26 : Int → Int → Int → Int → Int → Int → Option (Int × Int × Int × Int × Int × Int × Int × (Int → Int))} {v : Int × Int × Int × Int × Int × Int × Int × (Int → Int)} {x1 : Int} {c_thrown : Int} {c_above : Int} {c_below : Int} {c_leastAbove : Int} {c_leastBelow : Int} {c_leastOf : Int} {c_has : Int → Int} {c_pace : Int → Int} {c_part : Int → Int} {c_speed : Int → Int} {c_act : Int → Int} {c_lines : Int → Int} (C : Cx E cX9_first RX9 { frames := 203, cells := 0, slots := 0, locals := 6252 }) (hN : eN E = 2) (h : mb_X9_first_26 F k26 x1 c_thrown c_above c_below c_leastAbove c_leastBelow c_leastOf c_has c_pace c_part c_speed = some v) (hk26 : ∀ (y_x1 : Int) (y_c_above : Int) (y_c_below : Int) (y_c_leastAbove : Int) (y_c_leastBelow : Int) (y_c_leastOf : Int), k26 y_x1 y_c_above y_c_below y_c_leastAbove y_c_leastBelow y_c_leastOf = some v → GG E 0 0 (W_X9_first (eCy E) a_t a_t_act a_t_has a_t_lines a_t_pace a_t_part a_t_speed g_t_1 g_t_2 g_t_3 g_t_4 g_t_5 g_t_6 g_t_7 g_t_8 g_t_9 g_t_10 g_t_11 g_t_12 g_t_13 g_t_14 g_t_15 g_t_20 g_t_22 g_t_26 g_t_30 g_t_31 g_t_32 g_t_33 g_t_34 g_t_35 g_t_36 g_t_37 g_t_38 g_t_39 g_t_40 g_t_41 g_t_42 g_t_43 c_thrown y_c_above y_c_below y_c_leastAbove y_c_leastBelow y_c_leastOf c_act c_has c_lines c_pace c_part c_speed) [some (.ref a_t), some (.int (wI y_x1))] 26 []) (hret : ∀ (pc : Nat) (L : List (Option Value)), decode cX9_first pc = .ok (.ireturn, 1) → GG E 0 0 (W_X9_first (eCy E) a_t a_t_act a_t_has a_t_lines a_t_pace a_t_part a_t_speed g_t_1 g_t_2 g_t_3 g_t_4 g_t_5 g_t_6 g_t_7 g_t_8 g_t_9 g_t_10 g_t_11 g_t_12 g_t_13 g_t_14 g_t_15 g_t_20 g_t_22 g_t_26 g_t_30 g_t_31 g_t_32 g_t_33 g_t_34 g_t_35 g_t_36 g_t_37 g_t_38 g_t_39 g_t_40 g_t_41 g_t_42 g_t_43 (v.2.1) (v.2.2.1) (v.2.2.2.1) (v.2.2.2.2.1) (v.2.2.2.2.2.1) (v.2.2.2.2.2.2.1) c_act c_has c_lines c_pace c_part (v.2.2.2.2.2.2.2)) L pc [.int (wI (v.1))]) : GG E 0 0 (W_X9_first (eCy E) a_t a_t_act a_t_has a_t_lines a_t_pace a_t_part a_t_speed g_t_1 g_t_2 g_t_3 g_t_4 g_t_5 g_t_6 g_t_7 g_t_8 g_t_9 g_t_10 g_t_11 g_t_12 g_t_13 g_t_14 g_t_15 g_t_20 g_t_22 g_t_26 g_t_30 g_t_31 g_t_32 g_t_33 g_t_34 g_t_35 g_t_36 g_t_37 g_t_38 g_t_39 g_t_40 g_t_41 g_t_42 g_t_43 c_thrown c_above c_below c_leastAbove c_leastBelow c_leastOf c_act c_has c_lines c_pace c_part c_speed) [some (.ref a_t), some (.int (wI x1))] 26 [] := by
  unfold mb_X9_first_26 at h
  refine g_iload_n 1 C dX9_first_26 rfl rfl ?_
  refine g_aload_n 0 C dX9_first_27 rfl rfl ?_
  refine g_get C fg_X9_34 0 rfl rfl dX9_first_28 ?_
  refine g_iconst C dX9_first_31 ?_
  refine g_iald C 2 rfl (by decide) rfl dX9_first_32 ?_
  refine g_icmp_ge 61 C dX9_first_33 (by decide) h (fun h => ?_) (fun h => ?_)
  · refine g_aload_n 0 C dX9_first_61 rfl rfl ?_
    refine g_get C fg_X9_288 0 rfl rfl dX9_first_62 ?_
    refine g_st (st' := [.int (wI c_leastOf)]) rfl ?_
    cases h
    exact hret 65 _ dX9_first_65
  · refine g_aload_n 0 C dX9_first_36 rfl rfl ?_
    refine g_aload_n 0 C dX9_first_37 rfl rfl ?_
    refine g_get C fg_X9_40 0 rfl rfl dX9_first_38 ?_
    refine g_iload_n 1 C dX9_first_41 rfl rfl ?_
    obtain ⟨hc1, h⟩ := chk_some h
    refine g_iald C 4 rfl hc1 rfl dX9_first_42 ?_
    refine g_iconst C dX9_first_43 ?_
    obtain ⟨r2, o3, o4, hr5, h⟩ := bnd3_some h
    refine g_callI [0, 2, 5, 6] [1, 3, 4] [3, 0, 4, 1, 2, 5, 6] C mt_X9_269 (c_X9_goes _ _ _ _ a_t a_t_has a_t_part a_t_speed (.int (wI c_thrown)) (g_t_1) (g_t_2) (g_t_3) (g_t_4) (g_t_5) (g_t_6) (g_t_7) (g_t_8) (g_t_9) (g_t_10) (g_t_11) (g_t_12) (g_t_13) (g_t_14) (g_t_15) (.ref a_t_lines) (.ref a_t_pace) (g_t_20) (.ref a_t_act) (g_t_22) (g_t_26) (.long (wJ c_leastAbove)) (.long (wJ c_leastBelow)) (.int (wI c_leastOf)) (g_t_30) (g_t_31) (g_t_32) (g_t_33) (g_t_34) (g_t_35) (g_t_36) (g_t_37) (g_t_38) (g_t_39) (g_t_40) (g_t_41) (g_t_42) (g_t_43) (c_pace x1) 1 c_above c_below c_has c_part c_speed F hr5) (q0 := 0) rfl (ci := 9) rfl rfl rfl (ws2 := (W_X9_first (eCy E) a_t a_t_act a_t_has a_t_lines a_t_pace a_t_part a_t_speed g_t_1 g_t_2 g_t_3 g_t_4 g_t_5 g_t_6 g_t_7 g_t_8 g_t_9 g_t_10 g_t_11 g_t_12 g_t_13 g_t_14 g_t_15 g_t_20 g_t_22 g_t_26 g_t_30 g_t_31 g_t_32 g_t_33 g_t_34 g_t_35 g_t_36 g_t_37 g_t_38 g_t_39 g_t_40 g_t_41 g_t_42 g_t_43 c_thrown o3 o4 c_leastAbove c_leastBelow c_leastOf c_act c_has c_lines c_pace c_part c_speed)) rfl rfl rfl (rest := []) rfl rfl rfl dX9_first_44 ?_
    refine g_if_eq 55 C dX9_first_47 (by decide) h (fun h => ?_) (fun h => ?_)
    · exact wb_X9_first_55 C hN h hk26 hret
    · refine g_aload_n 0 C dX9_first_50 rfl rfl ?_
      refine g_iload_n 1 C dX9_first_51 rfl rfl ?_
      obtain ⟨o6, o7, o8, hr9, h⟩ := bnd3_some h
      refine g_callV [0] [1, 2, 3, 4, 5, 6] [6, 0, 1, 2, 3, 4, 5] C mt_X9_300 (c_X9_keeps _ _ _ _ a_t (.int (wI c_thrown)) (g_t_1) (g_t_2) (g_t_3) (g_t_4) (g_t_5) (g_t_6) (g_t_7) (g_t_8) (g_t_9) (g_t_10) (g_t_11) (g_t_12) (g_t_13) (g_t_14) (g_t_15) (.ref a_t_lines) (.ref a_t_has) (.ref a_t_part) (.ref a_t_pace) (g_t_20) (.ref a_t_act) (g_t_22) (.ref a_t_speed) (g_t_26) (g_t_30) (g_t_31) (g_t_32) (g_t_33) (g_t_34) (g_t_35) (g_t_36) (g_t_37) (g_t_38) (g_t_39) (g_t_40) (g_t_41) (g_t_42) (g_t_43) x1 o3 o4 c_leastAbove c_leastBelow c_leastOf F hr9) (q0 := 0) rfl (ci := 9) rfl rfl rfl (ws2 := (W_X9_first (eCy E) a_t a_t_act a_t_has a_t_lines a_t_pace a_t_part a_t_speed g_t_1 g_t_2 g_t_3 g_t_4 g_t_5 g_t_6 g_t_7 g_t_8 g_t_9 g_t_10 g_t_11 g_t_12 g_t_13 g_t_14 g_t_15 g_t_20 g_t_22 g_t_26 g_t_30 g_t_31 g_t_32 g_t_33 g_t_34 g_t_35 g_t_36 g_t_37 g_t_38 g_t_39 g_t_40 g_t_41 g_t_42 g_t_43 c_thrown o3 o4 o6 o7 o8 c_act c_has c_lines c_pace c_part c_speed)) rfl rfl rfl (rest := []) rfl rfl rfl dX9_first_52 ?_
      exact wb_X9_first_55 C hN h hk26 hret
set_option maxRecDepth 100000 in
set_option maxHeartbeats 4000000 in
theorem wl_X9_first_26 {F : Nat} {v : Int × Int × Int × Int × Int × Int × Int × (Int → Int)} {x1 : Int} {c_thrown : Int} {c_above : Int} {c_below : Int} {c_leastAbove : Int} {c_leastBelow : Int} {c_leastOf : Int} {c_has : Int → Int} {c_pace : Int → Int} {c_part : Int → Int} {c_speed : Int → Int} {c_act : Int → Int} {c_lines : Int → Int} (C : Cx E cX9_first RX9 { frames := 203, cells := 0, slots := 0, locals := 6252 }) (hN : eN E = 2) (h : ml_X9_first_26 F x1 c_thrown c_above c_below c_leastAbove c_leastBelow c_leastOf c_has c_pace c_part c_speed = some v) (hret : ∀ (pc : Nat) (L : List (Option Value)), decode cX9_first pc = .ok (.ireturn, 1) → GG E 0 0 (W_X9_first (eCy E) a_t a_t_act a_t_has a_t_lines a_t_pace a_t_part a_t_speed g_t_1 g_t_2 g_t_3 g_t_4 g_t_5 g_t_6 g_t_7 g_t_8 g_t_9 g_t_10 g_t_11 g_t_12 g_t_13 g_t_14 g_t_15 g_t_20 g_t_22 g_t_26 g_t_30 g_t_31 g_t_32 g_t_33 g_t_34 g_t_35 g_t_36 g_t_37 g_t_38 g_t_39 g_t_40 g_t_41 g_t_42 g_t_43 (v.2.1) (v.2.2.1) (v.2.2.2.1) (v.2.2.2.2.1) (v.2.2.2.2.2.1) (v.2.2.2.2.2.2.1) c_act c_has c_lines c_pace c_part (v.2.2.2.2.2.2.2)) L pc [.int (wI (v.1))]) : GG E 0 0 (W_X9_first (eCy E) a_t a_t_act a_t_has a_t_lines a_t_pace a_t_part a_t_speed g_t_1 g_t_2 g_t_3 g_t_4 g_t_5 g_t_6 g_t_7 g_t_8 g_t_9 g_t_10 g_t_11 g_t_12 g_t_13 g_t_14 g_t_15 g_t_20 g_t_22 g_t_26 g_t_30 g_t_31 g_t_32 g_t_33 g_t_34 g_t_35 g_t_36 g_t_37 g_t_38 g_t_39 g_t_40 g_t_41 g_t_42 g_t_43 c_thrown c_above c_below c_leastAbove c_leastBelow c_leastOf c_act c_has c_lines c_pace c_part c_speed) [some (.ref a_t), some (.int (wI x1))] 26 [] := by
  unfold ml_X9_first_26 at h
  exact loop_walk (g := fun (q : Int × Int × Int × Int × Int × Int) => GG E 0 0 (W_X9_first (eCy E) a_t a_t_act a_t_has a_t_lines a_t_pace a_t_part a_t_speed g_t_1 g_t_2 g_t_3 g_t_4 g_t_5 g_t_6 g_t_7 g_t_8 g_t_9 g_t_10 g_t_11 g_t_12 g_t_13 g_t_14 g_t_15 g_t_20 g_t_22 g_t_26 g_t_30 g_t_31 g_t_32 g_t_33 g_t_34 g_t_35 g_t_36 g_t_37 g_t_38 g_t_39 g_t_40 g_t_41 g_t_42 g_t_43 c_thrown (q.2.1) (q.2.2.1) (q.2.2.2.1) (q.2.2.2.2.1) (q.2.2.2.2.2) c_act c_has c_lines c_pace c_part c_speed) [some (.ref a_t), some (.int (wI (q.1)))] 26 []) (fun k hk q h => wb_X9_first_26 C hN h (fun y0 y1 y2 y3 y4 y5 hh => hk (y0, y1, y2, y3, y4, y5) hh) hret) F (x1, c_above, c_below, c_leastAbove, c_leastBelow, c_leastOf) h
set_option maxRecDepth 100000 in
set_option maxHeartbeats 4000000 in
theorem wm_X9_first {F : Nat} {v : Int × Int × Int × Int × Int × Int × Int × (Int → Int)} {c_above : Int} {c_below : Int} {c_leastAbove : Int} {c_leastBelow : Int} {c_leastOf : Int} {c_act : Int → Int} {c_has : Int → Int} {c_lines : Int → Int} {c_pace : Int → Int} {c_part : Int → Int} {c_speed : Int → Int} {c_thrown : Int} (C : Cx E cX9_first RX9 { frames := 203, cells := 0, slots := 0, locals := 6252 }) (hN : eN E = 2) (h : m_X9_first F c_above c_below c_leastAbove c_leastBelow c_leastOf c_act c_has c_lines c_pace c_part c_speed = some v) (hret : ∀ (pc : Nat) (L : List (Option Value)), decode cX9_first pc = .ok (.ireturn, 1) → GG E 0 0 (W_X9_first (eCy E) a_t a_t_act a_t_has a_t_lines a_t_pace a_t_part a_t_speed g_t_1 g_t_2 g_t_3 g_t_4 g_t_5 g_t_6 g_t_7 g_t_8 g_t_9 g_t_10 g_t_11 g_t_12 g_t_13 g_t_14 g_t_15 g_t_20 g_t_22 g_t_26 g_t_30 g_t_31 g_t_32 g_t_33 g_t_34 g_t_35 g_t_36 g_t_37 g_t_38 g_t_39 g_t_40 g_t_41 g_t_42 g_t_43 (v.2.1) (v.2.2.1) (v.2.2.2.1) (v.2.2.2.2.1) (v.2.2.2.2.2.1) (v.2.2.2.2.2.2.1) c_act c_has c_lines c_pace c_part (v.2.2.2.2.2.2.2)) L pc [.int (wI (v.1))]) : GG E 0 0 (W_X9_first (eCy E) a_t a_t_act a_t_has a_t_lines a_t_pace a_t_part a_t_speed g_t_1 g_t_2 g_t_3 g_t_4 g_t_5 g_t_6 g_t_7 g_t_8 g_t_9 g_t_10 g_t_11 g_t_12 g_t_13 g_t_14 g_t_15 g_t_20 g_t_22 g_t_26 g_t_30 g_t_31 g_t_32 g_t_33 g_t_34 g_t_35 g_t_36 g_t_37 g_t_38 g_t_39 g_t_40 g_t_41 g_t_42 g_t_43 c_thrown c_above c_below c_leastAbove c_leastBelow c_leastOf c_act c_has c_lines c_pace c_part c_speed) [some (.ref a_t), none] 0 [] := by
  unfold m_X9_first at h
  refine g_aload_n 0 C dX9_first_0 rfl rfl ?_
  refine g_iconst C dX9_first_1 ?_
  refine g_putI C fp_X9_71 0 rfl rfl (ws' := (W_X9_first (eCy E) a_t a_t_act a_t_has a_t_lines a_t_pace a_t_part a_t_speed g_t_1 g_t_2 g_t_3 g_t_4 g_t_5 g_t_6 g_t_7 g_t_8 g_t_9 g_t_10 g_t_11 g_t_12 g_t_13 g_t_14 g_t_15 g_t_20 g_t_22 g_t_26 g_t_30 g_t_31 g_t_32 g_t_33 g_t_34 g_t_35 g_t_36 g_t_37 g_t_38 g_t_39 g_t_40 g_t_41 g_t_42 g_t_43 0 c_above c_below c_leastAbove c_leastBelow c_leastOf c_act c_has c_lines c_pace c_part c_speed)) rfl dX9_first_2 ?_
  refine g_aload_n 0 C dX9_first_5 rfl rfl ?_
  obtain ⟨r1, hr2, h⟩ := bnd1_some h
  refine g_callI [0, 3] [1, 2, 4, 5, 6] [5, 0, 1, 6, 2, 3, 4] C mt_X9_297 (c_X9_isStair _ _ _ _ a_t a_t_lines (.int (wI 0)) (g_t_1) (g_t_2) (g_t_3) (g_t_4) (g_t_5) (g_t_6) (g_t_7) (g_t_8) (g_t_9) (g_t_10) (g_t_11) (g_t_12) (g_t_13) (g_t_14) (g_t_15) (.ref a_t_has) (.ref a_t_part) (.ref a_t_pace) (g_t_20) (.ref a_t_act) (g_t_22) (.ref a_t_speed) (.long (wJ c_above)) (.long (wJ c_below)) (g_t_26) (.long (wJ c_leastAbove)) (.long (wJ c_leastBelow)) (.int (wI c_leastOf)) (g_t_30) (g_t_31) (g_t_32) (g_t_33) (g_t_34) (g_t_35) (g_t_36) (g_t_37) (g_t_38) (g_t_39) (g_t_40) (g_t_41) (g_t_42) (g_t_43) c_lines F hr2) (q0 := 0) rfl (ci := 9) rfl rfl rfl (ws2 := (W_X9_first (eCy E) a_t a_t_act a_t_has a_t_lines a_t_pace a_t_part a_t_speed g_t_1 g_t_2 g_t_3 g_t_4 g_t_5 g_t_6 g_t_7 g_t_8 g_t_9 g_t_10 g_t_11 g_t_12 g_t_13 g_t_14 g_t_15 g_t_20 g_t_22 g_t_26 g_t_30 g_t_31 g_t_32 g_t_33 g_t_34 g_t_35 g_t_36 g_t_37 g_t_38 g_t_39 g_t_40 g_t_41 g_t_42 g_t_43 0 c_above c_below c_leastAbove c_leastBelow c_leastOf c_act c_has c_lines c_pace c_part c_speed)) rfl rfl rfl (rest := []) rfl rfl rfl dX9_first_6 ?_
  refine g_if_ne 15 C dX9_first_9 (by decide) h (fun h => ?_) (fun h => ?_)
  · refine g_aload_n 0 C dX9_first_15 rfl rfl ?_
    obtain ⟨o3, hr4, h⟩ := bnd1_some h
    refine g_callV [0, 1, 2, 5, 6] [3, 4] [2, 3, 4, 0, 1, 5, 6] C mt_X9_230 (c_X9_lays _ _ _ _ a_t a_t_act a_t_has a_t_part a_t_speed (.int (wI 0)) (g_t_1) (g_t_2) (g_t_3) (g_t_4) (g_t_5) (g_t_6) (g_t_7) (g_t_8) (g_t_9) (g_t_10) (g_t_11) (g_t_12) (g_t_13) (g_t_14) (g_t_15) (.ref a_t_lines) (.ref a_t_pace) (g_t_20) (g_t_22) (.long (wJ c_above)) (.long (wJ c_below)) (g_t_26) (.long (wJ c_leastAbove)) (.long (wJ c_leastBelow)) (.int (wI c_leastOf)) (g_t_30) (g_t_31) (g_t_32) (g_t_33) (g_t_34) (g_t_35) (g_t_36) (g_t_37) (g_t_38) (g_t_39) (g_t_40) (g_t_41) (g_t_42) (g_t_43) c_act c_has c_part c_speed F hr4) (q0 := 0) rfl (ci := 9) rfl rfl rfl (ws2 := (W_X9_first (eCy E) a_t a_t_act a_t_has a_t_lines a_t_pace a_t_part a_t_speed g_t_1 g_t_2 g_t_3 g_t_4 g_t_5 g_t_6 g_t_7 g_t_8 g_t_9 g_t_10 g_t_11 g_t_12 g_t_13 g_t_14 g_t_15 g_t_20 g_t_22 g_t_26 g_t_30 g_t_31 g_t_32 g_t_33 g_t_34 g_t_35 g_t_36 g_t_37 g_t_38 g_t_39 g_t_40 g_t_41 g_t_42 g_t_43 0 c_above c_below c_leastAbove c_leastBelow c_leastOf c_act c_has c_lines c_pace c_part o3)) rfl rfl rfl (rest := []) rfl rfl rfl dX9_first_16 ?_
    refine g_aload_n 0 C dX9_first_19 rfl rfl ?_
    refine g_iconst C dX9_first_20 ?_
    refine g_putI C fp_X9_288 0 rfl rfl (ws' := (W_X9_first (eCy E) a_t a_t_act a_t_has a_t_lines a_t_pace a_t_part a_t_speed g_t_1 g_t_2 g_t_3 g_t_4 g_t_5 g_t_6 g_t_7 g_t_8 g_t_9 g_t_10 g_t_11 g_t_12 g_t_13 g_t_14 g_t_15 g_t_20 g_t_22 g_t_26 g_t_30 g_t_31 g_t_32 g_t_33 g_t_34 g_t_35 g_t_36 g_t_37 g_t_38 g_t_39 g_t_40 g_t_41 g_t_42 g_t_43 0 c_above c_below c_leastAbove c_leastBelow (-1) c_act c_has c_lines c_pace c_part o3)) rfl dX9_first_21 ?_
    refine g_iconst C dX9_first_24 ?_
    refine g_istore_n 1 C hN dX9_first_25 rfl rfl (L' := [some (.ref a_t), some (.int (wI 0))]) rfl ?_
    exact wl_X9_first_26 C hN h hret
  · refine g_bipush C dX9_first_12 (by decide) ?_
    cases h
    exact hret 14 _ dX9_first_14
end S_X9_first
set_option maxRecDepth 100000 in
set_option maxHeartbeats 4000000 in
theorem c_X9_first (l : Launch) (D : va_G) (cy : Nat → ClassId) (ad : AD) (a_t a_t_act a_t_has a_t_lines a_t_pace a_t_part a_t_speed : Nat) (g_t_1 : Value) (g_t_2 : Value) (g_t_3 : Value) (g_t_4 : Value) (g_t_5 : Value) (g_t_6 : Value) (g_t_7 : Value) (g_t_8 : Value) (g_t_9 : Value) (g_t_10 : Value) (g_t_11 : Value) (g_t_12 : Value) (g_t_13 : Value) (g_t_14 : Value) (g_t_15 : Value) (g_t_20 : Value) (g_t_22 : Value) (g_t_26 : Value) (g_t_30 : Value) (g_t_31 : Value) (g_t_32 : Value) (g_t_33 : Value) (g_t_34 : Value) (g_t_35 : Value) (g_t_36 : Value) (g_t_37 : Value) (g_t_38 : Value) (g_t_39 : Value) (g_t_40 : Value) (g_t_41 : Value) (g_t_42 : Value) (g_t_43 : Value) (c_thrown : Int) (c_above : Int) (c_below : Int) (c_leastAbove : Int) (c_leastBelow : Int) (c_leastOf : Int) (c_act : Int → Int) (c_has : Int → Int) (c_lines : Int → Int) (c_pace : Int → Int) (c_part : Int → Int) (c_speed : Int → Int) (F : Nat) {v : Int × Int × Int × Int × Int × Int × Int × (Int → Int)} (h : m_X9_first F c_above c_below c_leastAbove c_leastBelow c_leastOf c_act c_has c_lines c_pace c_part c_speed = some v) : Ct l yX9_first cX9_first 2 (some .int) { frames := 203, cells := 0, slots := 0, locals := 6252 } D cy ad [.ref a_t] (W_X9_first cy a_t a_t_act a_t_has a_t_lines a_t_pace a_t_part a_t_speed g_t_1 g_t_2 g_t_3 g_t_4 g_t_5 g_t_6 g_t_7 g_t_8 g_t_9 g_t_10 g_t_11 g_t_12 g_t_13 g_t_14 g_t_15 g_t_20 g_t_22 g_t_26 g_t_30 g_t_31 g_t_32 g_t_33 g_t_34 g_t_35 g_t_36 g_t_37 g_t_38 g_t_39 g_t_40 g_t_41 g_t_42 g_t_43 c_thrown c_above c_below c_leastAbove c_leastBelow c_leastOf c_act c_has c_lines c_pace c_part c_speed) (W_X9_first cy a_t a_t_act a_t_has a_t_lines a_t_pace a_t_part a_t_speed g_t_1 g_t_2 g_t_3 g_t_4 g_t_5 g_t_6 g_t_7 g_t_8 g_t_9 g_t_10 g_t_11 g_t_12 g_t_13 g_t_14 g_t_15 g_t_20 g_t_22 g_t_26 g_t_30 g_t_31 g_t_32 g_t_33 g_t_34 g_t_35 g_t_36 g_t_37 g_t_38 g_t_39 g_t_40 g_t_41 g_t_42 g_t_43 (v.2.1) (v.2.2.1) (v.2.2.2.1) (v.2.2.2.2.1) (v.2.2.2.2.2.1) (v.2.2.2.2.2.2.1) c_act c_has c_lines c_pace c_part (v.2.2.2.2.2.2.2)) (some (.int (wI (v.1)))) := by
  refine Ct.introI (j := 1) (plainFor_of_name (by decide)) rfl rfl (fun E C e1 e2 e3 e4 e5 hret => ?_)
  subst e1; subst e2; subst e3; subst e4
  exact wm_X9_first C e5 h hret
-- MovingStairModel.never()I
def W_X9_never (cy : Nat → ClassId) (a_t a_t_act a_t_has a_t_lines a_t_pace a_t_part a_t_speed : Nat) (g_t_1 : Value) (g_t_2 : Value) (g_t_3 : Value) (g_t_4 : Value) (g_t_5 : Value) (g_t_6 : Value) (g_t_7 : Value) (g_t_8 : Value) (g_t_9 : Value) (g_t_10 : Value) (g_t_11 : Value) (g_t_12 : Value) (g_t_13 : Value) (g_t_14 : Value) (g_t_15 : Value) (g_t_20 : Value) (g_t_22 : Value) (g_t_26 : Value) (g_t_27 : Value) (g_t_28 : Value) (g_t_29 : Value) (g_t_30 : Value) (g_t_31 : Value) (g_t_32 : Value) (g_t_33 : Value) (g_t_34 : Value) (g_t_35 : Value) (g_t_36 : Value) (g_t_37 : Value) (g_t_38 : Value) (g_t_39 : Value) (g_t_40 : Value) (g_t_41 : Value) (g_t_42 : Value) (g_t_43 : Value) (c_thrown : Int) (c_above : Int) (c_below : Int) (c_act : Int → Int) (c_has : Int → Int) (c_lines : Int → Int) (c_pace : Int → Int) (c_part : Int → Int) (c_speed : Int → Int) : va_W := [(a_t, .inr (9, [.int (wI c_thrown), g_t_1, g_t_2, g_t_3, g_t_4, g_t_5, g_t_6, g_t_7, g_t_8, g_t_9, g_t_10, g_t_11, g_t_12, g_t_13, g_t_14, g_t_15, .ref a_t_lines, .ref a_t_has, .ref a_t_part, .ref a_t_pace, g_t_20, .ref a_t_act, g_t_22, .ref a_t_speed, .long (wJ c_above), .long (wJ c_below), g_t_26, g_t_27, g_t_28, g_t_29, g_t_30, g_t_31, g_t_32, g_t_33, g_t_34, g_t_35, g_t_36, g_t_37, g_t_38, g_t_39, g_t_40, g_t_41, g_t_42, g_t_43])), (a_t_act, .inl (cy 1, 600, .inl (aI c_act))), (a_t_has, .inl (cy 1, 45, .inl (aI c_has))), (a_t_lines, .inl (cy 1, 5, .inl (aI c_lines))), (a_t_pace, .inl (cy 1, 40, .inl (aI c_pace))), (a_t_part, .inl (cy 1, 40, .inl (aI c_part))), (a_t_speed, .inl (cy 1, 4, .inl (aI c_speed)))]
def mb_X9_never_55 (F : Nat) (k23 : Int → Int → Int → Int → Option (Int × Int × Int × Int × (Int → Int))) (x2 : Int) (s0 : Int) (s1 : Int) (c_thrown : Int) (c_above : Int) (c_below : Int) (c_has : Int → Int) (c_pace : Int → Int) (c_part : Int → Int) (c_speed : Int → Int) : Option (Int × Int × Int × Int × (Int → Int)) :=
  nam (orI s0 s1) fun y1 => k23 y1 (x2 + 1) c_above c_below
def mb_X9_never_23 (F : Nat) (k23 : Int → Int → Int → Int → Option (Int × Int × Int × Int × (Int → Int))) (x1 : Int) (x2 : Int) (c_thrown : Int) (c_above : Int) (c_below : Int) (c_has : Int → Int) (c_pace : Int → Int) (c_part : Int → Int) (c_speed : Int → Int) : Option (Int × Int × Int × Int × (Int → Int)) :=
  if wI (c_has 2) ≤ wI x2 then
    (some (x1, c_thrown, c_above, c_below, c_speed))
  else
    (chk (0 ≤ x2 ∧ x2 < 40) <| bnd3 (m_X9_goes F (c_pace x2) 1 c_has c_part c_speed) fun r2 o3 o4 => if wI r2 = wI 0 then
    (mb_X9_never_55 F k23 x2 x1 (shlI 1 x2) c_thrown o3 o4 c_has c_pace c_part c_speed)
  else
    (mb_X9_never_55 F k23 x2 x1 0 c_thrown o3 o4 c_has c_pace c_part c_speed))
def ml_X9_never_23 (F : Nat) (x1 : Int) (x2 : Int) (c_thrown : Int) (c_above : Int) (c_below : Int) (c_has : Int → Int) (c_pace : Int → Int) (c_part : Int → Int) (c_speed : Int → Int) : Option (Int × Int × Int × Int × (Int → Int)) :=
  loopN (fun (k : Int × Int × Int × Int → Option (Int × Int × Int × Int × (Int → Int))) q => mb_X9_never_23 F (fun y0 y1 y2 y3 => k (y0, y1, y2, y3)) q.1 q.2.1 c_thrown q.2.2.1 q.2.2.2 c_has c_pace c_part c_speed) F (x1, x2, c_above, c_below)
def m_X9_never (F : Nat) (c_above : Int) (c_below : Int) (c_act : Int → Int) (c_has : Int → Int) (c_lines : Int → Int) (c_pace : Int → Int) (c_part : Int → Int) (c_speed : Int → Int) : Option (Int × Int × Int × Int × (Int → Int)) :=
  bnd1 (m_X9_isStair F c_lines) fun r1 => if wI r1 = wI 0 then
    (some ((-2), 0, c_above, c_below, c_speed))
  else
    (bnd1 (m_X9_lays F c_act c_has c_part c_speed) fun o3 => ml_X9_never_23 F 0 0 0 c_above c_below c_has c_pace c_part o3)
section S_X9_never
variable {E : EE} {a_t a_t_act a_t_has a_t_lines a_t_pace a_t_part a_t_speed : Nat} {g_t_1 : Value} {g_t_2 : Value} {g_t_3 : Value} {g_t_4 : Value} {g_t_5 : Value} {g_t_6 : Value} {g_t_7 : Value} {g_t_8 : Value} {g_t_9 : Value} {g_t_10 : Value} {g_t_11 : Value} {g_t_12 : Value} {g_t_13 : Value} {g_t_14 : Value} {g_t_15 : Value} {g_t_20 : Value} {g_t_22 : Value} {g_t_26 : Value} {g_t_27 : Value} {g_t_28 : Value} {g_t_29 : Value} {g_t_30 : Value} {g_t_31 : Value} {g_t_32 : Value} {g_t_33 : Value} {g_t_34 : Value} {g_t_35 : Value} {g_t_36 : Value} {g_t_37 : Value} {g_t_38 : Value} {g_t_39 : Value} {g_t_40 : Value} {g_t_41 : Value} {g_t_42 : Value} {g_t_43 : Value}
set_option maxRecDepth 100000 in
set_option maxHeartbeats 4000000 in
theorem wb_X9_never_55 {F : Nat} {k23 : Int → Int → Int → Int → Option (Int × Int × Int × Int × (Int → Int))} {v : Int × Int × Int × Int × (Int → Int)} {x2 : Int} {s0 : Int} {s1 : Int} {c_thrown : Int} {c_above : Int} {c_below : Int} {c_has : Int → Int} {c_pace : Int → Int} {c_part : Int → Int} {c_speed : Int → Int} {c_act : Int → Int} {c_lines : Int → Int} (C : Cx E cX9_never RX9 { frames := 203, cells := 0, slots := 0, locals := 4673 }) (hN : eN E = 3) (h : mb_X9_never_55 F k23 x2 s0 s1 c_thrown c_above c_below c_has c_pace c_part c_speed = some v) (hk23 : ∀ (y_x1 : Int) (y_x2 : Int) (y_c_above : Int) (y_c_below : Int), k23 y_x1 y_x2 y_c_above y_c_below = some v → GG E 0 0 (W_X9_never (eCy E) a_t a_t_act a_t_has a_t_lines a_t_pace a_t_part a_t_speed g_t_1 g_t_2 g_t_3 g_t_4 g_t_5 g_t_6 g_t_7 g_t_8 g_t_9 g_t_10 g_t_11 g_t_12 g_t_13 g_t_14 g_t_15 g_t_20 g_t_22 g_t_26 g_t_27 g_t_28 g_t_29 g_t_30 g_t_31 g_t_32 g_t_33 g_t_34 g_t_35 g_t_36 g_t_37 g_t_38 g_t_39 g_t_40 g_t_41 g_t_42 g_t_43 c_thrown y_c_above y_c_below c_act c_has c_lines c_pace c_part c_speed) [some (.ref a_t), some (.int (wI y_x1)), some (.int (wI y_x2))] 23 []) (hret : ∀ (pc : Nat) (L : List (Option Value)), decode cX9_never pc = .ok (.ireturn, 1) → GG E 0 0 (W_X9_never (eCy E) a_t a_t_act a_t_has a_t_lines a_t_pace a_t_part a_t_speed g_t_1 g_t_2 g_t_3 g_t_4 g_t_5 g_t_6 g_t_7 g_t_8 g_t_9 g_t_10 g_t_11 g_t_12 g_t_13 g_t_14 g_t_15 g_t_20 g_t_22 g_t_26 g_t_27 g_t_28 g_t_29 g_t_30 g_t_31 g_t_32 g_t_33 g_t_34 g_t_35 g_t_36 g_t_37 g_t_38 g_t_39 g_t_40 g_t_41 g_t_42 g_t_43 (v.2.1) (v.2.2.1) (v.2.2.2.1) c_act c_has c_lines c_pace c_part (v.2.2.2.2)) L pc [.int (wI (v.1))]) : GG E 0 0 (W_X9_never (eCy E) a_t a_t_act a_t_has a_t_lines a_t_pace a_t_part a_t_speed g_t_1 g_t_2 g_t_3 g_t_4 g_t_5 g_t_6 g_t_7 g_t_8 g_t_9 g_t_10 g_t_11 g_t_12 g_t_13 g_t_14 g_t_15 g_t_20 g_t_22 g_t_26 g_t_27 g_t_28 g_t_29 g_t_30 g_t_31 g_t_32 g_t_33 g_t_34 g_t_35 g_t_36 g_t_37 g_t_38 g_t_39 g_t_40 g_t_41 g_t_42 g_t_43 c_thrown c_above c_below c_act c_has c_lines c_pace c_part c_speed) [some (.ref a_t), none, some (.int (wI x2))] 55 [.int (wI s1), .int (wI s0)] := by
  unfold mb_X9_never_55 at h
  refine g_ior C dX9_never_55 ?_
  obtain ⟨y1, e_y1, h⟩ := nam_some h
  refine g_topI e_y1 ?_
  refine g_istore_n 1 C hN dX9_never_56 rfl rfl (L' := [some (.ref a_t), some (.int (wI y1)), some (.int (wI x2))]) rfl ?_
  refine g_iinc C hN dX9_never_57 rfl rfl (L' := [some (.ref a_t), some (.int (wI y1)), some (.int (wI (x2 + 1)))]) rfl ?_
  refine g_goto (tgt := 23) C dX9_never_60 (by decide) ?_
  exact hk23 _ _ _ _ h
set_option maxRecDepth 100000 in
set_option maxHeartbeats 4000000 in
theorem wb_X9_never_23 {F : Nat} {k23 : Int → Int → Int → Int → Option (Int × Int × Int × Int × (Int → Int))} {v : Int × Int × Int × Int × (Int → Int)} {x1 : Int} {x2 : Int} {c_thrown : Int} {c_above : Int} {c_below : Int} {c_has : Int → Int} {c_pace : Int → Int} {c_part : Int → Int} {c_speed : Int → Int} {c_act : Int → Int} {c_lines : Int → Int} (C : Cx E cX9_never RX9 { frames := 203, cells := 0, slots := 0, locals := 4673 }) (hN : eN E = 3) (h : mb_X9_never_23 F k23 x1 x2 c_thrown c_above c_below c_has c_pace c_part c_speed = some v) (hk23 : ∀ (y_x1 : Int) (y_x2 : Int) (y_c_above : Int) (y_c_below : Int), k23 y_x1 y_x2 y_c_above y_c_below = some v → GG E 0 0 (W_X9_never (eCy E) a_t a_t_act a_t_has a_t_lines a_t_pace a_t_part a_t_speed g_t_1 g_t_2 g_t_3 g_t_4 g_t_5 g_t_6 g_t_7 g_t_8 g_t_9 g_t_10 g_t_11 g_t_12 g_t_13 g_t_14 g_t_15 g_t_20 g_t_22 g_t_26 g_t_27 g_t_28 g_t_29 g_t_30 g_t_31 g_t_32 g_t_33 g_t_34 g_t_35 g_t_36 g_t_37 g_t_38 g_t_39 g_t_40 g_t_41 g_t_42 g_t_43 c_thrown y_c_above y_c_below c_act c_has c_lines c_pace c_part c_speed) [some (.ref a_t), some (.int (wI y_x1)), some (.int (wI y_x2))] 23 []) (hret : ∀ (pc : Nat) (L : List (Option Value)), decode cX9_never pc = .ok (.ireturn, 1) → GG E 0 0 (W_X9_never (eCy E) a_t a_t_act a_t_has a_t_lines a_t_pace a_t_part a_t_speed g_t_1 g_t_2 g_t_3 g_t_4 g_t_5 g_t_6 g_t_7 g_t_8 g_t_9 g_t_10 g_t_11 g_t_12 g_t_13 g_t_14 g_t_15 g_t_20 g_t_22 g_t_26 g_t_27 g_t_28 g_t_29 g_t_30 g_t_31 g_t_32 g_t_33 g_t_34 g_t_35 g_t_36 g_t_37 g_t_38 g_t_39 g_t_40 g_t_41 g_t_42 g_t_43 (v.2.1) (v.2.2.1) (v.2.2.2.1) c_act c_has c_lines c_pace c_part (v.2.2.2.2)) L pc [.int (wI (v.1))]) : GG E 0 0 (W_X9_never (eCy E) a_t a_t_act a_t_has a_t_lines a_t_pace a_t_part a_t_speed g_t_1 g_t_2 g_t_3 g_t_4 g_t_5 g_t_6 g_t_7 g_t_8 g_t_9 g_t_10 g_t_11 g_t_12 g_t_13 g_t_14 g_t_15 g_t_20 g_t_22 g_t_26 g_t_27 g_t_28 g_t_29 g_t_30 g_t_31 g_t_32 g_t_33 g_t_34 g_t_35 g_t_36 g_t_37 g_t_38 g_t_39 g_t_40 g_t_41 g_t_42 g_t_43 c_thrown c_above c_below c_act c_has c_lines c_pace c_part c_speed) [some (.ref a_t), some (.int (wI x1)), some (.int (wI x2))] 23 [] := by
  unfold mb_X9_never_23 at h
  refine g_iload_n 2 C dX9_never_23 rfl rfl ?_
  refine g_aload_n 0 C dX9_never_24 rfl rfl ?_
  refine g_get C fg_X9_34 0 rfl rfl dX9_never_25 ?_
  refine g_iconst C dX9_never_28 ?_
  refine g_iald C 2 rfl (by decide) rfl dX9_never_29 ?_
  refine g_icmp_ge 63 C dX9_never_30 (by decide) h (fun h => ?_) (fun h => ?_)
  · refine g_iload_n 1 C dX9_never_63 rfl rfl ?_
    cases h
    exact hret 64 _ dX9_never_64
  · refine g_iload_n 1 C dX9_never_33 rfl rfl ?_
    refine g_aload_n 0 C dX9_never_34 rfl rfl ?_
    refine g_aload_n 0 C dX9_never_35 rfl rfl ?_
    refine g_get C fg_X9_40 0 rfl rfl dX9_never_36 ?_
    refine g_iload_n 2 C dX9_never_39 rfl rfl ?_
    obtain ⟨hc1, h⟩ := chk_some h
    refine g_iald C 4 rfl hc1 rfl dX9_never_40 ?_
    refine g_iconst C dX9_never_41 ?_
    obtain ⟨r2, o3, o4, hr5, h⟩ := bnd3_some h
    refine g_callI [0, 2, 5, 6] [1, 3, 4] [3, 0, 4, 1, 2, 5, 6] C mt_X9_269 (c_X9_goes _ _ _ _ a_t a_t_has a_t_part a_t_speed (.int (wI c_thrown)) (g_t_1) (g_t_2) (g_t_3) (g_t_4) (g_t_5) (g_t_6) (g_t_7) (g_t_8) (g_t_9) (g_t_10) (g_t_11) (g_t_12) (g_t_13) (g_t_14) (g_t_15) (.ref a_t_lines) (.ref a_t_pace) (g_t_20) (.ref a_t_act) (g_t_22) (g_t_26) (g_t_27) (g_t_28) (g_t_29) (g_t_30) (g_t_31) (g_t_32) (g_t_33) (g_t_34) (g_t_35) (g_t_36) (g_t_37) (g_t_38) (g_t_39) (g_t_40) (g_t_41) (g_t_42) (g_t_43) (c_pace x2) 1 c_above c_below c_has c_part c_speed F hr5) (q0 := 0) rfl (ci := 9) rfl rfl rfl (ws2 := (W_X9_never (eCy E) a_t a_t_act a_t_has a_t_lines a_t_pace a_t_part a_t_speed g_t_1 g_t_2 g_t_3 g_t_4 g_t_5 g_t_6 g_t_7 g_t_8 g_t_9 g_t_10 g_t_11 g_t_12 g_t_13 g_t_14 g_t_15 g_t_20 g_t_22 g_t_26 g_t_27 g_t_28 g_t_29 g_t_30 g_t_31 g_t_32 g_t_33 g_t_34 g_t_35 g_t_36 g_t_37 g_t_38 g_t_39 g_t_40 g_t_41 g_t_42 g_t_43 c_thrown o3 o4 c_act c_has c_lines c_pace c_part c_speed)) rfl rfl rfl (rest := [.int (wI x1)]) rfl rfl rfl dX9_never_42 ?_
    refine g_if_eq 52 C dX9_never_45 (by decide) h (fun h => ?_) (fun h => ?_)
    · refine g_iconst C dX9_never_52 ?_
      refine g_iload_n 2 C dX9_never_53 rfl rfl ?_
      refine g_ishl C dX9_never_54 ?_
      refine g_mask [true, false, true] (L' := [some (.ref a_t), none, some (.int (wI x2))]) rfl ?_
      exact wb_X9_never_55 C hN h hk23 hret
    · refine g_iconst C dX9_never_48 ?_
      refine g_goto (tgt := 55) C dX9_never_49 (by decide) ?_
      refine g_mask [true, false, true] (L' := [some (.ref a_t), none, some (.int (wI x2))]) rfl ?_
      exact wb_X9_never_55 C hN h hk23 hret
set_option maxRecDepth 100000 in
set_option maxHeartbeats 4000000 in
theorem wl_X9_never_23 {F : Nat} {v : Int × Int × Int × Int × (Int → Int)} {x1 : Int} {x2 : Int} {c_thrown : Int} {c_above : Int} {c_below : Int} {c_has : Int → Int} {c_pace : Int → Int} {c_part : Int → Int} {c_speed : Int → Int} {c_act : Int → Int} {c_lines : Int → Int} (C : Cx E cX9_never RX9 { frames := 203, cells := 0, slots := 0, locals := 4673 }) (hN : eN E = 3) (h : ml_X9_never_23 F x1 x2 c_thrown c_above c_below c_has c_pace c_part c_speed = some v) (hret : ∀ (pc : Nat) (L : List (Option Value)), decode cX9_never pc = .ok (.ireturn, 1) → GG E 0 0 (W_X9_never (eCy E) a_t a_t_act a_t_has a_t_lines a_t_pace a_t_part a_t_speed g_t_1 g_t_2 g_t_3 g_t_4 g_t_5 g_t_6 g_t_7 g_t_8 g_t_9 g_t_10 g_t_11 g_t_12 g_t_13 g_t_14 g_t_15 g_t_20 g_t_22 g_t_26 g_t_27 g_t_28 g_t_29 g_t_30 g_t_31 g_t_32 g_t_33 g_t_34 g_t_35 g_t_36 g_t_37 g_t_38 g_t_39 g_t_40 g_t_41 g_t_42 g_t_43 (v.2.1) (v.2.2.1) (v.2.2.2.1) c_act c_has c_lines c_pace c_part (v.2.2.2.2)) L pc [.int (wI (v.1))]) : GG E 0 0 (W_X9_never (eCy E) a_t a_t_act a_t_has a_t_lines a_t_pace a_t_part a_t_speed g_t_1 g_t_2 g_t_3 g_t_4 g_t_5 g_t_6 g_t_7 g_t_8 g_t_9 g_t_10 g_t_11 g_t_12 g_t_13 g_t_14 g_t_15 g_t_20 g_t_22 g_t_26 g_t_27 g_t_28 g_t_29 g_t_30 g_t_31 g_t_32 g_t_33 g_t_34 g_t_35 g_t_36 g_t_37 g_t_38 g_t_39 g_t_40 g_t_41 g_t_42 g_t_43 c_thrown c_above c_below c_act c_has c_lines c_pace c_part c_speed) [some (.ref a_t), some (.int (wI x1)), some (.int (wI x2))] 23 [] := by
  unfold ml_X9_never_23 at h
  exact loop_walk (g := fun (q : Int × Int × Int × Int) => GG E 0 0 (W_X9_never (eCy E) a_t a_t_act a_t_has a_t_lines a_t_pace a_t_part a_t_speed g_t_1 g_t_2 g_t_3 g_t_4 g_t_5 g_t_6 g_t_7 g_t_8 g_t_9 g_t_10 g_t_11 g_t_12 g_t_13 g_t_14 g_t_15 g_t_20 g_t_22 g_t_26 g_t_27 g_t_28 g_t_29 g_t_30 g_t_31 g_t_32 g_t_33 g_t_34 g_t_35 g_t_36 g_t_37 g_t_38 g_t_39 g_t_40 g_t_41 g_t_42 g_t_43 c_thrown (q.2.2.1) (q.2.2.2) c_act c_has c_lines c_pace c_part c_speed) [some (.ref a_t), some (.int (wI (q.1))), some (.int (wI (q.2.1)))] 23 []) (fun k hk q h => wb_X9_never_23 C hN h (fun y0 y1 y2 y3 hh => hk (y0, y1, y2, y3) hh) hret) F (x1, x2, c_above, c_below) h
set_option maxRecDepth 100000 in
set_option maxHeartbeats 4000000 in
theorem wm_X9_never {F : Nat} {v : Int × Int × Int × Int × (Int → Int)} {c_above : Int} {c_below : Int} {c_act : Int → Int} {c_has : Int → Int} {c_lines : Int → Int} {c_pace : Int → Int} {c_part : Int → Int} {c_speed : Int → Int} {c_thrown : Int} (C : Cx E cX9_never RX9 { frames := 203, cells := 0, slots := 0, locals := 4673 }) (hN : eN E = 3) (h : m_X9_never F c_above c_below c_act c_has c_lines c_pace c_part c_speed = some v) (hret : ∀ (pc : Nat) (L : List (Option Value)), decode cX9_never pc = .ok (.ireturn, 1) → GG E 0 0 (W_X9_never (eCy E) a_t a_t_act a_t_has a_t_lines a_t_pace a_t_part a_t_speed g_t_1 g_t_2 g_t_3 g_t_4 g_t_5 g_t_6 g_t_7 g_t_8 g_t_9 g_t_10 g_t_11 g_t_12 g_t_13 g_t_14 g_t_15 g_t_20 g_t_22 g_t_26 g_t_27 g_t_28 g_t_29 g_t_30 g_t_31 g_t_32 g_t_33 g_t_34 g_t_35 g_t_36 g_t_37 g_t_38 g_t_39 g_t_40 g_t_41 g_t_42 g_t_43 (v.2.1) (v.2.2.1) (v.2.2.2.1) c_act c_has c_lines c_pace c_part (v.2.2.2.2)) L pc [.int (wI (v.1))]) : GG E 0 0 (W_X9_never (eCy E) a_t a_t_act a_t_has a_t_lines a_t_pace a_t_part a_t_speed g_t_1 g_t_2 g_t_3 g_t_4 g_t_5 g_t_6 g_t_7 g_t_8 g_t_9 g_t_10 g_t_11 g_t_12 g_t_13 g_t_14 g_t_15 g_t_20 g_t_22 g_t_26 g_t_27 g_t_28 g_t_29 g_t_30 g_t_31 g_t_32 g_t_33 g_t_34 g_t_35 g_t_36 g_t_37 g_t_38 g_t_39 g_t_40 g_t_41 g_t_42 g_t_43 c_thrown c_above c_below c_act c_has c_lines c_pace c_part c_speed) [some (.ref a_t), none, none] 0 [] := by
  unfold m_X9_never at h
  refine g_aload_n 0 C dX9_never_0 rfl rfl ?_
  refine g_iconst C dX9_never_1 ?_
  refine g_putI C fp_X9_71 0 rfl rfl (ws' := (W_X9_never (eCy E) a_t a_t_act a_t_has a_t_lines a_t_pace a_t_part a_t_speed g_t_1 g_t_2 g_t_3 g_t_4 g_t_5 g_t_6 g_t_7 g_t_8 g_t_9 g_t_10 g_t_11 g_t_12 g_t_13 g_t_14 g_t_15 g_t_20 g_t_22 g_t_26 g_t_27 g_t_28 g_t_29 g_t_30 g_t_31 g_t_32 g_t_33 g_t_34 g_t_35 g_t_36 g_t_37 g_t_38 g_t_39 g_t_40 g_t_41 g_t_42 g_t_43 0 c_above c_below c_act c_has c_lines c_pace c_part c_speed)) rfl dX9_never_2 ?_
  refine g_aload_n 0 C dX9_never_5 rfl rfl ?_
  obtain ⟨r1, hr2, h⟩ := bnd1_some h
  refine g_callI [0, 3] [1, 2, 4, 5, 6] [5, 0, 1, 6, 2, 3, 4] C mt_X9_297 (c_X9_isStair _ _ _ _ a_t a_t_lines (.int (wI 0)) (g_t_1) (g_t_2) (g_t_3) (g_t_4) (g_t_5) (g_t_6) (g_t_7) (g_t_8) (g_t_9) (g_t_10) (g_t_11) (g_t_12) (g_t_13) (g_t_14) (g_t_15) (.ref a_t_has) (.ref a_t_part) (.ref a_t_pace) (g_t_20) (.ref a_t_act) (g_t_22) (.ref a_t_speed) (.long (wJ c_above)) (.long (wJ c_below)) (g_t_26) (g_t_27) (g_t_28) (g_t_29) (g_t_30) (g_t_31) (g_t_32) (g_t_33) (g_t_34) (g_t_35) (g_t_36) (g_t_37) (g_t_38) (g_t_39) (g_t_40) (g_t_41) (g_t_42) (g_t_43) c_lines F hr2) (q0 := 0) rfl (ci := 9) rfl rfl rfl (ws2 := (W_X9_never (eCy E) a_t a_t_act a_t_has a_t_lines a_t_pace a_t_part a_t_speed g_t_1 g_t_2 g_t_3 g_t_4 g_t_5 g_t_6 g_t_7 g_t_8 g_t_9 g_t_10 g_t_11 g_t_12 g_t_13 g_t_14 g_t_15 g_t_20 g_t_22 g_t_26 g_t_27 g_t_28 g_t_29 g_t_30 g_t_31 g_t_32 g_t_33 g_t_34 g_t_35 g_t_36 g_t_37 g_t_38 g_t_39 g_t_40 g_t_41 g_t_42 g_t_43 0 c_above c_below c_act c_has c_lines c_pace c_part c_speed)) rfl rfl rfl (rest := []) rfl rfl rfl dX9_never_6 ?_
  refine g_if_ne 15 C dX9_never_9 (by decide) h (fun h => ?_) (fun h => ?_)
  · refine g_aload_n 0 C dX9_never_15 rfl rfl ?_
    obtain ⟨o3, hr4, h⟩ := bnd1_some h
    refine g_callV [0, 1, 2, 5, 6] [3, 4] [2, 3, 4, 0, 1, 5, 6] C mt_X9_230 (c_X9_lays _ _ _ _ a_t a_t_act a_t_has a_t_part a_t_speed (.int (wI 0)) (g_t_1) (g_t_2) (g_t_3) (g_t_4) (g_t_5) (g_t_6) (g_t_7) (g_t_8) (g_t_9) (g_t_10) (g_t_11) (g_t_12) (g_t_13) (g_t_14) (g_t_15) (.ref a_t_lines) (.ref a_t_pace) (g_t_20) (g_t_22) (.long (wJ c_above)) (.long (wJ c_below)) (g_t_26) (g_t_27) (g_t_28) (g_t_29) (g_t_30) (g_t_31) (g_t_32) (g_t_33) (g_t_34) (g_t_35) (g_t_36) (g_t_37) (g_t_38) (g_t_39) (g_t_40) (g_t_41) (g_t_42) (g_t_43) c_act c_has c_part c_speed F hr4) (q0 := 0) rfl (ci := 9) rfl rfl rfl (ws2 := (W_X9_never (eCy E) a_t a_t_act a_t_has a_t_lines a_t_pace a_t_part a_t_speed g_t_1 g_t_2 g_t_3 g_t_4 g_t_5 g_t_6 g_t_7 g_t_8 g_t_9 g_t_10 g_t_11 g_t_12 g_t_13 g_t_14 g_t_15 g_t_20 g_t_22 g_t_26 g_t_27 g_t_28 g_t_29 g_t_30 g_t_31 g_t_32 g_t_33 g_t_34 g_t_35 g_t_36 g_t_37 g_t_38 g_t_39 g_t_40 g_t_41 g_t_42 g_t_43 0 c_above c_below c_act c_has c_lines c_pace c_part o3)) rfl rfl rfl (rest := []) rfl rfl rfl dX9_never_16 ?_
    refine g_iconst C dX9_never_19 ?_
    refine g_istore_n 1 C hN dX9_never_20 rfl rfl (L' := [some (.ref a_t), some (.int (wI 0)), none]) rfl ?_
    refine g_iconst C dX9_never_21 ?_
    refine g_istore_n 2 C hN dX9_never_22 rfl rfl (L' := [some (.ref a_t), some (.int (wI 0)), some (.int (wI 0))]) rfl ?_
    exact wl_X9_never_23 C hN h hret
  · refine g_bipush C dX9_never_12 (by decide) ?_
    cases h
    exact hret 14 _ dX9_never_14
end S_X9_never
set_option maxRecDepth 100000 in
set_option maxHeartbeats 4000000 in
theorem c_X9_never (l : Launch) (D : va_G) (cy : Nat → ClassId) (ad : AD) (a_t a_t_act a_t_has a_t_lines a_t_pace a_t_part a_t_speed : Nat) (g_t_1 : Value) (g_t_2 : Value) (g_t_3 : Value) (g_t_4 : Value) (g_t_5 : Value) (g_t_6 : Value) (g_t_7 : Value) (g_t_8 : Value) (g_t_9 : Value) (g_t_10 : Value) (g_t_11 : Value) (g_t_12 : Value) (g_t_13 : Value) (g_t_14 : Value) (g_t_15 : Value) (g_t_20 : Value) (g_t_22 : Value) (g_t_26 : Value) (g_t_27 : Value) (g_t_28 : Value) (g_t_29 : Value) (g_t_30 : Value) (g_t_31 : Value) (g_t_32 : Value) (g_t_33 : Value) (g_t_34 : Value) (g_t_35 : Value) (g_t_36 : Value) (g_t_37 : Value) (g_t_38 : Value) (g_t_39 : Value) (g_t_40 : Value) (g_t_41 : Value) (g_t_42 : Value) (g_t_43 : Value) (c_thrown : Int) (c_above : Int) (c_below : Int) (c_act : Int → Int) (c_has : Int → Int) (c_lines : Int → Int) (c_pace : Int → Int) (c_part : Int → Int) (c_speed : Int → Int) (F : Nat) {v : Int × Int × Int × Int × (Int → Int)} (h : m_X9_never F c_above c_below c_act c_has c_lines c_pace c_part c_speed = some v) : Ct l yX9_never cX9_never 3 (some .int) { frames := 203, cells := 0, slots := 0, locals := 4673 } D cy ad [.ref a_t] (W_X9_never cy a_t a_t_act a_t_has a_t_lines a_t_pace a_t_part a_t_speed g_t_1 g_t_2 g_t_3 g_t_4 g_t_5 g_t_6 g_t_7 g_t_8 g_t_9 g_t_10 g_t_11 g_t_12 g_t_13 g_t_14 g_t_15 g_t_20 g_t_22 g_t_26 g_t_27 g_t_28 g_t_29 g_t_30 g_t_31 g_t_32 g_t_33 g_t_34 g_t_35 g_t_36 g_t_37 g_t_38 g_t_39 g_t_40 g_t_41 g_t_42 g_t_43 c_thrown c_above c_below c_act c_has c_lines c_pace c_part c_speed) (W_X9_never cy a_t a_t_act a_t_has a_t_lines a_t_pace a_t_part a_t_speed g_t_1 g_t_2 g_t_3 g_t_4 g_t_5 g_t_6 g_t_7 g_t_8 g_t_9 g_t_10 g_t_11 g_t_12 g_t_13 g_t_14 g_t_15 g_t_20 g_t_22 g_t_26 g_t_27 g_t_28 g_t_29 g_t_30 g_t_31 g_t_32 g_t_33 g_t_34 g_t_35 g_t_36 g_t_37 g_t_38 g_t_39 g_t_40 g_t_41 g_t_42 g_t_43 (v.2.1) (v.2.2.1) (v.2.2.2.1) c_act c_has c_lines c_pace c_part (v.2.2.2.2)) (some (.int (wI (v.1)))) := by
  refine Ct.introI (j := 2) (plainFor_of_name (by decide)) rfl rfl (fun E C e1 e2 e3 e4 e5 hret => ?_)
  subst e1; subst e2; subst e3; subst e4
  exact wm_X9_never C e5 h hret
-- MovingStairModel.catches(III)I
def W_X9_catches (cy : Nat → ClassId) (a_t a_t_act a_t_has a_t_pace a_t_part a_t_speed : Nat) (g_t_1 : Value) (g_t_2 : Value) (g_t_3 : Value) (g_t_4 : Value) (g_t_5 : Value) (g_t_6 : Value) (g_t_7 : Value) (g_t_8 : Value) (g_t_9 : Value) (g_t_10 : Value) (g_t_11 : Value) (g_t_12 : Value) (g_t_13 : Value) (g_t_14 : Value) (g_t_15 : Value) (g_t_16 : Value) (g_t_20 : Value) (g_t_22 : Value) (g_t_26 : Value) (g_t_27 : Value) (g_t_28 : Value) (g_t_29 : Value) (g_t_30 : Value) (g_t_31 : Value) (g_t_32 : Value) (g_t_33 : Value) (g_t_34 : Value) (g_t_35 : Value) (g_t_36 : Value) (g_t_37 : Value) (g_t_38 : Value) (g_t_39 : Value) (g_t_40 : Value) (g_t_41 : Value) (g_t_42 : Value) (g_t_43 : Value) (c_thrown : Int) (c_above : Int) (c_below : Int) (c_act : Int → Int) (c_has : Int → Int) (c_pace : Int → Int) (c_part : Int → Int) (c_speed : Int → Int) : va_W := [(a_t, .inr (9, [.int (wI c_thrown), g_t_1, g_t_2, g_t_3, g_t_4, g_t_5, g_t_6, g_t_7, g_t_8, g_t_9, g_t_10, g_t_11, g_t_12, g_t_13, g_t_14, g_t_15, g_t_16, .ref a_t_has, .ref a_t_part, .ref a_t_pace, g_t_20, .ref a_t_act, g_t_22, .ref a_t_speed, .long (wJ c_above), .long (wJ c_below), g_t_26, g_t_27, g_t_28, g_t_29, g_t_30, g_t_31, g_t_32, g_t_33, g_t_34, g_t_35, g_t_36, g_t_37, g_t_38, g_t_39, g_t_40, g_t_41, g_t_42, g_t_43])), (a_t_act, .inl (cy 1, 600, .inl (aI c_act))), (a_t_has, .inl (cy 1, 45, .inl (aI c_has))), (a_t_pace, .inl (cy 1, 40, .inl (aI c_pace))), (a_t_part, .inl (cy 1, 40, .inl (aI c_part))), (a_t_speed, .inl (cy 1, 4, .inl (aI c_speed)))]
def m_X9_catches (F : Nat) (x1 : Int) (x2 : Int) (x3 : Int) (c_above : Int) (c_below : Int) (c_act : Int → Int) (c_has : Int → Int) (c_pace : Int → Int) (c_part : Int → Int) (c_speed : Int → Int) : Option (Int × Int × Int × Int × (Int → Int)) :=
  bnd2 (m_X9_areSeconds F x1 x3 3600 c_act c_has c_part c_speed) fun r1 o2 => if wI r1 = wI 0 then
    (some ((-2), 0, c_above, c_below, o2))
  else
    (bnd1 (m_X9_isWalker F x2 c_has) fun r4 => if wI r4 = wI 0 then
    (some ((-2), 0, c_above, c_below, o2))
  else
    (chk (0 ≤ x1 ∧ x1 < 40) <| bnd3 (m_X9_goes F (c_pace x1) 1 c_has c_part o2) fun r7 o8 o9 => if wI r7 = wI 0 then
    (some (0, 0, o8, o9, o2))
  else
    (chk (r32 x3) <| bnd2 (m_X9_adds F x3 60 o8 o9) fun o12 o13 => chk (0 ≤ x2 ∧ x2 < 40) <| bnd3 (m_X9_goes F (c_pace x2) 1 c_has c_part o2) fun r16 o17 o18 => if wI r16 = wI 0 then
    (some (1, 0, o17, o18, o2))
  else
    (bnd1 (m_X9_isLess F o17 o18 o12 o13) fun r20 => if wI r20 = wI 0 then
    (some (1, 0, o17, o18, o2))
  else
    (some (0, 0, o17, o18, o2))))))
section S_X9_catches
variable {E : EE} {a_t a_t_act a_t_has a_t_pace a_t_part a_t_speed : Nat} {g_t_1 : Value} {g_t_2 : Value} {g_t_3 : Value} {g_t_4 : Value} {g_t_5 : Value} {g_t_6 : Value} {g_t_7 : Value} {g_t_8 : Value} {g_t_9 : Value} {g_t_10 : Value} {g_t_11 : Value} {g_t_12 : Value} {g_t_13 : Value} {g_t_14 : Value} {g_t_15 : Value} {g_t_16 : Value} {g_t_20 : Value} {g_t_22 : Value} {g_t_26 : Value} {g_t_27 : Value} {g_t_28 : Value} {g_t_29 : Value} {g_t_30 : Value} {g_t_31 : Value} {g_t_32 : Value} {g_t_33 : Value} {g_t_34 : Value} {g_t_35 : Value} {g_t_36 : Value} {g_t_37 : Value} {g_t_38 : Value} {g_t_39 : Value} {g_t_40 : Value} {g_t_41 : Value} {g_t_42 : Value} {g_t_43 : Value}
set_option maxRecDepth 100000 in
set_option maxHeartbeats 4000000 in
theorem wm_X9_catches {F : Nat} {v : Int × Int × Int × Int × (Int → Int)} {x1 : Int} {x2 : Int} {x3 : Int} {c_above : Int} {c_below : Int} {c_act : Int → Int} {c_has : Int → Int} {c_pace : Int → Int} {c_part : Int → Int} {c_speed : Int → Int} {c_thrown : Int} (C : Cx E cX9_catches RX9 { frames := 203, cells := 0, slots := 0, locals := 6231 }) (hN : eN E = 8) (h : m_X9_catches F x1 x2 x3 c_above c_below c_act c_has c_pace c_part c_speed = some v) (hret : ∀ (pc : Nat) (L : List (Option Value)), decode cX9_catches pc = .ok (.ireturn, 1) → GG E 0 0 (W_X9_catches (eCy E) a_t a_t_act a_t_has a_t_pace a_t_part a_t_speed g_t_1 g_t_2 g_t_3 g_t_4 g_t_5 g_t_6 g_t_7 g_t_8 g_t_9 g_t_10 g_t_11 g_t_12 g_t_13 g_t_14 g_t_15 g_t_16 g_t_20 g_t_22 g_t_26 g_t_27 g_t_28 g_t_29 g_t_30 g_t_31 g_t_32 g_t_33 g_t_34 g_t_35 g_t_36 g_t_37 g_t_38 g_t_39 g_t_40 g_t_41 g_t_42 g_t_43 (v.2.1) (v.2.2.1) (v.2.2.2.1) c_act c_has c_pace c_part (v.2.2.2.2)) L pc [.int (wI (v.1))]) : GG E 0 0 (W_X9_catches (eCy E) a_t a_t_act a_t_has a_t_pace a_t_part a_t_speed g_t_1 g_t_2 g_t_3 g_t_4 g_t_5 g_t_6 g_t_7 g_t_8 g_t_9 g_t_10 g_t_11 g_t_12 g_t_13 g_t_14 g_t_15 g_t_16 g_t_20 g_t_22 g_t_26 g_t_27 g_t_28 g_t_29 g_t_30 g_t_31 g_t_32 g_t_33 g_t_34 g_t_35 g_t_36 g_t_37 g_t_38 g_t_39 g_t_40 g_t_41 g_t_42 g_t_43 c_thrown c_above c_below c_act c_has c_pace c_part c_speed) [some (.ref a_t), some (.int (wI x1)), some (.int (wI x2)), some (.int (wI x3)), none, none, none, none] 0 [] := by
  unfold m_X9_catches at h
  refine g_aload_n 0 C dX9_catches_0 rfl rfl ?_
  refine g_iconst C dX9_catches_1 ?_
  refine g_putI C fp_X9_71 0 rfl rfl (ws' := (W_X9_catches (eCy E) a_t a_t_act a_t_has a_t_pace a_t_part a_t_speed g_t_1 g_t_2 g_t_3 g_t_4 g_t_5 g_t_6 g_t_7 g_t_8 g_t_9 g_t_10 g_t_11 g_t_12 g_t_13 g_t_14 g_t_15 g_t_16 g_t_20 g_t_22 g_t_26 g_t_27 g_t_28 g_t_29 g_t_30 g_t_31 g_t_32 g_t_33 g_t_34 g_t_35 g_t_36 g_t_37 g_t_38 g_t_39 g_t_40 g_t_41 g_t_42 g_t_43 0 c_above c_below c_act c_has c_pace c_part c_speed)) rfl dX9_catches_2 ?_
  refine g_aload_n 0 C dX9_catches_5 rfl rfl ?_
  refine g_iload_n 1 C dX9_catches_6 rfl rfl ?_
  refine g_iload_n 3 C dX9_catches_7 rfl rfl ?_
  refine g_sipush C dX9_catches_8 (by decide) ?_
  obtain ⟨r1, o2, hr3, h⟩ := bnd2_some h
  refine g_callI [0, 1, 2, 4, 5] [3] [1, 2, 3, 0, 4, 5] C mt_X9_282 (c_X9_areSeconds _ _ _ _ a_t a_t_act a_t_has a_t_part a_t_speed (.int (wI 0)) (g_t_1) (g_t_2) (g_t_3) (g_t_4) (g_t_5) (g_t_6) (g_t_7) (g_t_8) (g_t_9) (g_t_10) (g_t_11) (g_t_12) (g_t_13) (g_t_14) (g_t_15) (g_t_16) (.ref a_t_pace) (g_t_20) (g_t_22) (.long (wJ c_above)) (.long (wJ c_below)) (g_t_26) (g_t_27) (g_t_28) (g_t_29) (g_t_30) (g_t_31) (g_t_32) (g_t_33) (g_t_34) (g_t_35) (g_t_36) (g_t_37) (g_t_38) (g_t_39) (g_t_40) (g_t_41) (g_t_42) (g_t_43) x1 x3 3600 c_act c_has c_part c_speed F hr3) (q0 := 0) rfl (ci := 9) rfl rfl rfl (ws2 := (W_X9_catches (eCy E) a_t a_t_act a_t_has a_t_pace a_t_part a_t_speed g_t_1 g_t_2 g_t_3 g_t_4 g_t_5 g_t_6 g_t_7 g_t_8 g_t_9 g_t_10 g_t_11 g_t_12 g_t_13 g_t_14 g_t_15 g_t_16 g_t_20 g_t_22 g_t_26 g_t_27 g_t_28 g_t_29 g_t_30 g_t_31 g_t_32 g_t_33 g_t_34 g_t_35 g_t_36 g_t_37 g_t_38 g_t_39 g_t_40 g_t_41 g_t_42 g_t_43 0 c_above c_below c_act c_has c_pace c_part o2)) rfl rfl rfl (rest := []) rfl rfl rfl dX9_catches_11 ?_
  refine g_if_eq 25 C dX9_catches_14 (by decide) h (fun h => ?_) (fun h => ?_)
  · refine g_bipush C dX9_catches_25 (by decide) ?_
    cases h
    exact hret 27 _ dX9_catches_27
  · refine g_aload_n 0 C dX9_catches_17 rfl rfl ?_
    refine g_iload_n 2 C dX9_catches_18 rfl rfl ?_
    obtain ⟨r4, hr5, h⟩ := bnd1_some h
    refine g_callI [0, 2] [1, 3, 4, 5] [4, 0, 5, 1, 2, 3] C mt_X9_236 (c_X9_isWalker _ _ _ _ a_t a_t_has (.int (wI 0)) (g_t_1) (g_t_2) (g_t_3) (g_t_4) (g_t_5) (g_t_6) (g_t_7) (g_t_8) (g_t_9) (g_t_10) (g_t_11) (g_t_12) (g_t_13) (g_t_14) (g_t_15) (g_t_16) (.ref a_t_part) (.ref a_t_pace) (g_t_20) (.ref a_t_act) (g_t_22) (.ref a_t_speed) (.long (wJ c_above)) (.long (wJ c_below)) (g_t_26) (g_t_27) (g_t_28) (g_t_29) (g_t_30) (g_t_31) (g_t_32) (g_t_33) (g_t_34) (g_t_35) (g_t_36) (g_t_37) (g_t_38) (g_t_39) (g_t_40) (g_t_41) (g_t_42) (g_t_43) x2 c_has F hr5) (q0 := 0) rfl (ci := 9) rfl rfl rfl (ws2 := (W_X9_catches (eCy E) a_t a_t_act a_t_has a_t_pace a_t_part a_t_speed g_t_1 g_t_2 g_t_3 g_t_4 g_t_5 g_t_6 g_t_7 g_t_8 g_t_9 g_t_10 g_t_11 g_t_12 g_t_13 g_t_14 g_t_15 g_t_16 g_t_20 g_t_22 g_t_26 g_t_27 g_t_28 g_t_29 g_t_30 g_t_31 g_t_32 g_t_33 g_t_34 g_t_35 g_t_36 g_t_37 g_t_38 g_t_39 g_t_40 g_t_41 g_t_42 g_t_43 0 c_above c_below c_act c_has c_pace c_part o2)) rfl rfl rfl (rest := []) rfl rfl rfl dX9_catches_19 ?_
    refine g_if_ne 28 C dX9_catches_22 (by decide) h (fun h => ?_) (fun h => ?_)
    · refine g_aload_n 0 C dX9_catches_28 rfl rfl ?_
      refine g_aload_n 0 C dX9_catches_29 rfl rfl ?_
      refine g_get C fg_X9_40 0 rfl rfl dX9_catches_30 ?_
      refine g_iload_n 1 C dX9_catches_33 rfl rfl ?_
      obtain ⟨hc6, h⟩ := chk_some h
      refine g_iald C 3 rfl hc6 rfl dX9_catches_34 ?_
      refine g_iconst C dX9_catches_35 ?_
      obtain ⟨r7, o8, o9, hr10, h⟩ := bnd3_some h
      refine g_callI [0, 2, 4, 5] [1, 3] [2, 0, 3, 1, 4, 5] C mt_X9_269 (c_X9_goes _ _ _ _ a_t a_t_has a_t_part a_t_speed (.int (wI 0)) (g_t_1) (g_t_2) (g_t_3) (g_t_4) (g_t_5) (g_t_6) (g_t_7) (g_t_8) (g_t_9) (g_t_10) (g_t_11) (g_t_12) (g_t_13) (g_t_14) (g_t_15) (g_t_16) (.ref a_t_pace) (g_t_20) (.ref a_t_act) (g_t_22) (g_t_26) (g_t_27) (g_t_28) (g_t_29) (g_t_30) (g_t_31) (g_t_32) (g_t_33) (g_t_34) (g_t_35) (g_t_36) (g_t_37) (g_t_38) (g_t_39) (g_t_40) (g_t_41) (g_t_42) (g_t_43) (c_pace x1) 1 c_above c_below c_has c_part o2 F hr10) (q0 := 0) rfl (ci := 9) rfl rfl rfl (ws2 := (W_X9_catches (eCy E) a_t a_t_act a_t_has a_t_pace a_t_part a_t_speed g_t_1 g_t_2 g_t_3 g_t_4 g_t_5 g_t_6 g_t_7 g_t_8 g_t_9 g_t_10 g_t_11 g_t_12 g_t_13 g_t_14 g_t_15 g_t_16 g_t_20 g_t_22 g_t_26 g_t_27 g_t_28 g_t_29 g_t_30 g_t_31 g_t_32 g_t_33 g_t_34 g_t_35 g_t_36 g_t_37 g_t_38 g_t_39 g_t_40 g_t_41 g_t_42 g_t_43 0 o8 o9 c_act c_has c_pace c_part o2)) rfl rfl rfl (rest := []) rfl rfl rfl dX9_catches_36 ?_
      refine g_if_ne 44 C dX9_catches_39 (by decide) h (fun h => ?_) (fun h => ?_)
      · refine g_aload_n 0 C dX9_catches_44 rfl rfl ?_
        refine g_iload_n 3 C dX9_catches_45 rfl rfl ?_
        obtain ⟨hc11, h⟩ := chk_some h
        refine g_i2l C dX9_catches_46 hc11 ?_
        refine g_ldc2 (v := 60) C mc_X9_276 dX9_catches_47 ?_
        obtain ⟨o12, o13, hr14, h⟩ := bnd2_some h
        refine g_callV [0] [1, 2, 3, 4, 5] [5, 0, 1, 2, 3, 4] C mt_X9_256 (c_X9_adds _ _ _ _ a_t (.int (wI 0)) (g_t_1) (g_t_2) (g_t_3) (g_t_4) (g_t_5) (g_t_6) (g_t_7) (g_t_8) (g_t_9) (g_t_10) (g_t_11) (g_t_12) (g_t_13) (g_t_14) (g_t_15) (g_t_16) (.ref a_t_has) (.ref a_t_part) (.ref a_t_pace) (g_t_20) (.ref a_t_act) (g_t_22) (.ref a_t_speed) (g_t_26) (g_t_27) (g_t_28) (g_t_29) (g_t_30) (g_t_31) (g_t_32) (g_t_33) (g_t_34) (g_t_35) (g_t_36) (g_t_37) (g_t_38) (g_t_39) (g_t_40) (g_t_41) (g_t_42) (g_t_43) x3 60 o8 o9 F hr14) (q0 := 0) rfl (ci := 9) rfl rfl rfl (ws2 := (W_X9_catches (eCy E) a_t a_t_act a_t_has a_t_pace a_t_part a_t_speed g_t_1 g_t_2 g_t_3 g_t_4 g_t_5 g_t_6 g_t_7 g_t_8 g_t_9 g_t_10 g_t_11 g_t_12 g_t_13 g_t_14 g_t_15 g_t_16 g_t_20 g_t_22 g_t_26 g_t_27 g_t_28 g_t_29 g_t_30 g_t_31 g_t_32 g_t_33 g_t_34 g_t_35 g_t_36 g_t_37 g_t_38 g_t_39 g_t_40 g_t_41 g_t_42 g_t_43 0 o12 o13 c_act c_has c_pace c_part o2)) rfl rfl rfl (rest := []) rfl rfl rfl dX9_catches_50 ?_
        refine g_aload_n 0 C dX9_catches_53 rfl rfl ?_
        refine g_get C fg_X9_246 0 rfl rfl dX9_catches_54 ?_
        refine g_st (st' := [.long (wJ o12)]) rfl ?_
        refine g_lstore C hN dX9_catches_57 rfl (L' := [some (.ref a_t), some (.int (wI x1)), some (.int (wI x2)), some (.int (wI x3)), some (.long (wJ o12)), none, none, none]) rfl ?_
        refine g_aload_n 0 C dX9_catches_59 rfl rfl ?_
        refine g_get C fg_X9_243 0 rfl rfl dX9_catches_60 ?_
        refine g_st (st' := [.long (wJ o13)]) rfl ?_
        refine g_lstore C hN dX9_catches_63 rfl (L' := [some (.ref a_t), some (.int (wI x1)), some (.int (wI x2)), some (.int (wI x3)), some (.long (wJ o12)), none, some (.long (wJ o13)), none]) rfl ?_
        refine g_aload_n 0 C dX9_catches_65 rfl rfl ?_
        refine g_aload_n 0 C dX9_catches_66 rfl rfl ?_
        refine g_get C fg_X9_40 0 rfl rfl dX9_catches_67 ?_
        refine g_iload_n 2 C dX9_catches_70 rfl rfl ?_
        obtain ⟨hc15, h⟩ := chk_some h
        refine g_iald C 3 rfl hc15 rfl dX9_catches_71 ?_
        refine g_iconst C dX9_catches_72 ?_
        obtain ⟨r16, o17, o18, hr19, h⟩ := bnd3_some h
        refine g_callI [0, 2, 4, 5] [1, 3] [2, 0, 3, 1, 4, 5] C mt_X9_269 (c_X9_goes _ _ _ _ a_t a_t_has a_t_part a_t_speed (.int (wI 0)) (g_t_1) (g_t_2) (g_t_3) (g_t_4) (g_t_5) (g_t_6) (g_t_7) (g_t_8) (g_t_9) (g_t_10) (g_t_11) (g_t_12) (g_t_13) (g_t_14) (g_t_15) (g_t_16) (.ref a_t_pace) (g_t_20) (.ref a_t_act) (g_t_22) (g_t_26) (g_t_27) (g_t_28) (g_t_29) (g_t_30) (g_t_31) (g_t_32) (g_t_33) (g_t_34) (g_t_35) (g_t_36) (g_t_37) (g_t_38) (g_t_39) (g_t_40) (g_t_41) (g_t_42) (g_t_43) (c_pace x2) 1 o12 o13 c_has c_part o2 F hr19) (q0 := 0) rfl (ci := 9) rfl rfl rfl (ws2 := (W_X9_catches (eCy E) a_t a_t_act a_t_has a_t_pace a_t_part a_t_speed g_t_1 g_t_2 g_t_3 g_t_4 g_t_5 g_t_6 g_t_7 g_t_8 g_t_9 g_t_10 g_t_11 g_t_12 g_t_13 g_t_14 g_t_15 g_t_16 g_t_20 g_t_22 g_t_26 g_t_27 g_t_28 g_t_29 g_t_30 g_t_31 g_t_32 g_t_33 g_t_34 g_t_35 g_t_36 g_t_37 g_t_38 g_t_39 g_t_40 g_t_41 g_t_42 g_t_43 0 o17 o18 c_act c_has c_pace c_part o2)) rfl rfl rfl (rest := []) rfl rfl rfl dX9_catches_73 ?_
        refine g_if_eq 97 C dX9_catches_76 (by decide) h (fun h => ?_) (fun h => ?_)
        · refine g_iconst C dX9_catches_97 ?_
          refine g_goto (tgt := 102) C dX9_catches_98 (by decide) ?_
          cases h
          exact hret 102 _ dX9_catches_102
        · refine g_aload_n 0 C dX9_catches_79 rfl rfl ?_
          refine g_get C fg_X9_246 0 rfl rfl dX9_catches_80 ?_
          refine g_st (st' := [.long (wJ o17)]) rfl ?_
          refine g_aload_n 0 C dX9_catches_83 rfl rfl ?_
          refine g_get C fg_X9_243 0 rfl rfl dX9_catches_84 ?_
          refine g_st (st' := [.long (wJ o18), .long (wJ o17)]) rfl ?_
          refine g_lload C dX9_catches_87 rfl ?_
          refine g_lload C dX9_catches_89 rfl ?_
          obtain ⟨r20, hr21, h⟩ := bnd1_some h
          refine g_callSI [] [0, 1, 2, 3, 4, 5] [0, 1, 2, 3, 4, 5] C mt_X9_249 (c_X9_isLess _ _ _ _ o17 o18 o12 o13 F hr21) rfl rfl (ws2 := (W_X9_catches (eCy E) a_t a_t_act a_t_has a_t_pace a_t_part a_t_speed g_t_1 g_t_2 g_t_3 g_t_4 g_t_5 g_t_6 g_t_7 g_t_8 g_t_9 g_t_10 g_t_11 g_t_12 g_t_13 g_t_14 g_t_15 g_t_16 g_t_20 g_t_22 g_t_26 g_t_27 g_t_28 g_t_29 g_t_30 g_t_31 g_t_32 g_t_33 g_t_34 g_t_35 g_t_36 g_t_37 g_t_38 g_t_39 g_t_40 g_t_41 g_t_42 g_t_43 0 o17 o18 c_act c_has c_pace c_part o2)) rfl rfl rfl (rest := []) rfl rfl rfl dX9_catches_91 ?_
          refine g_if_ne 101 C dX9_catches_94 (by decide) h (fun h => ?_) (fun h => ?_)
          · refine g_iconst C dX9_catches_101 ?_
            cases h
            exact hret 102 _ dX9_catches_102
          · refine g_iconst C dX9_catches_97 ?_
            refine g_goto (tgt := 102) C dX9_catches_98 (by decide) ?_
            cases h
            exact hret 102 _ dX9_catches_102
      · refine g_iconst C dX9_catches_42 ?_
        cases h
        exact hret 43 _ dX9_catches_43
    · refine g_bipush C dX9_catches_25 (by decide) ?_
      cases h
      exact hret 27 _ dX9_catches_27
end S_X9_catches
set_option maxRecDepth 100000 in
set_option maxHeartbeats 4000000 in
theorem c_X9_catches (l : Launch) (D : va_G) (cy : Nat → ClassId) (ad : AD) (a_t a_t_act a_t_has a_t_pace a_t_part a_t_speed : Nat) (g_t_1 : Value) (g_t_2 : Value) (g_t_3 : Value) (g_t_4 : Value) (g_t_5 : Value) (g_t_6 : Value) (g_t_7 : Value) (g_t_8 : Value) (g_t_9 : Value) (g_t_10 : Value) (g_t_11 : Value) (g_t_12 : Value) (g_t_13 : Value) (g_t_14 : Value) (g_t_15 : Value) (g_t_16 : Value) (g_t_20 : Value) (g_t_22 : Value) (g_t_26 : Value) (g_t_27 : Value) (g_t_28 : Value) (g_t_29 : Value) (g_t_30 : Value) (g_t_31 : Value) (g_t_32 : Value) (g_t_33 : Value) (g_t_34 : Value) (g_t_35 : Value) (g_t_36 : Value) (g_t_37 : Value) (g_t_38 : Value) (g_t_39 : Value) (g_t_40 : Value) (g_t_41 : Value) (g_t_42 : Value) (g_t_43 : Value) (x1 : Int) (x2 : Int) (x3 : Int) (c_thrown : Int) (c_above : Int) (c_below : Int) (c_act : Int → Int) (c_has : Int → Int) (c_pace : Int → Int) (c_part : Int → Int) (c_speed : Int → Int) (F : Nat) {v : Int × Int × Int × Int × (Int → Int)} (h : m_X9_catches F x1 x2 x3 c_above c_below c_act c_has c_pace c_part c_speed = some v) : Ct l yX9_catches cX9_catches 8 (some .int) { frames := 203, cells := 0, slots := 0, locals := 6231 } D cy ad [.ref a_t, .int (wI x1), .int (wI x2), .int (wI x3)] (W_X9_catches cy a_t a_t_act a_t_has a_t_pace a_t_part a_t_speed g_t_1 g_t_2 g_t_3 g_t_4 g_t_5 g_t_6 g_t_7 g_t_8 g_t_9 g_t_10 g_t_11 g_t_12 g_t_13 g_t_14 g_t_15 g_t_16 g_t_20 g_t_22 g_t_26 g_t_27 g_t_28 g_t_29 g_t_30 g_t_31 g_t_32 g_t_33 g_t_34 g_t_35 g_t_36 g_t_37 g_t_38 g_t_39 g_t_40 g_t_41 g_t_42 g_t_43 c_thrown c_above c_below c_act c_has c_pace c_part c_speed) (W_X9_catches cy a_t a_t_act a_t_has a_t_pace a_t_part a_t_speed g_t_1 g_t_2 g_t_3 g_t_4 g_t_5 g_t_6 g_t_7 g_t_8 g_t_9 g_t_10 g_t_11 g_t_12 g_t_13 g_t_14 g_t_15 g_t_16 g_t_20 g_t_22 g_t_26 g_t_27 g_t_28 g_t_29 g_t_30 g_t_31 g_t_32 g_t_33 g_t_34 g_t_35 g_t_36 g_t_37 g_t_38 g_t_39 g_t_40 g_t_41 g_t_42 g_t_43 (v.2.1) (v.2.2.1) (v.2.2.2.1) c_act c_has c_pace c_part (v.2.2.2.2)) (some (.int (wI (v.1)))) := by
  refine Ct.introI (j := 4) (plainFor_of_name (by decide)) rfl rfl (fun E C e1 e2 e3 e4 e5 hret => ?_)
  subst e1; subst e2; subst e3; subst e4
  exact wm_X9_catches C e5 h hret
-- MovingStairModel.turnsAt(IIIIZ)Z
def W_X9_turnsAt (cy : Nat → ClassId) (a_t a_t_has a_t_part a_t_speed : Nat) (g_t_0 : Value) (g_t_1 : Value) (g_t_2 : Value) (g_t_3 : Value) (g_t_4 : Value) (g_t_5 : Value) (g_t_6 : Value) (g_t_7 : Value) (g_t_8 : Value) (g_t_9 : Value) (g_t_10 : Value) (g_t_11 : Value) (g_t_12 : Value) (g_t_13 : Value) (g_t_14 : Value) (g_t_15 : Value) (g_t_16 : Value) (g_t_19 : Value) (g_t_20 : Value) (g_t_21 : Value) (g_t_22 : Value) (g_t_26 : Value) (g_t_27 : Value) (g_t_28 : Value) (g_t_29 : Value) (g_t_30 : Value) (g_t_31 : Value) (g_t_32 : Value) (g_t_33 : Value) (g_t_34 : Value) (g_t_35 : Value) (g_t_36 : Value) (g_t_37 : Value) (g_t_38 : Value) (g_t_39 : Value) (g_t_40 : Value) (g_t_41 : Value) (g_t_42 : Value) (g_t_43 : Value) (c_above : Int) (c_below : Int) (c_has : Int → Int) (c_part : Int → Int) (c_speed : Int → Int) : va_W := [(a_t, .inr (9, [g_t_0, g_t_1, g_t_2, g_t_3, g_t_4, g_t_5, g_t_6, g_t_7, g_t_8, g_t_9, g_t_10, g_t_11, g_t_12, g_t_13, g_t_14, g_t_15, g_t_16, .ref a_t_has, .ref a_t_part, g_t_19, g_t_20, g_t_21, g_t_22, .ref a_t_speed, .long (wJ c_above), .long (wJ c_below), g_t_26, g_t_27, g_t_28, g_t_29, g_t_30, g_t_31, g_t_32, g_t_33, g_t_34, g_t_35, g_t_36, g_t_37, g_t_38, g_t_39, g_t_40, g_t_41, g_t_42, g_t_43])), (a_t_has, .inl (cy 1, 45, .inl (aI c_has))), (a_t_part, .inl (cy 1, 40, .inl (aI c_part))), (a_t_speed, .inl (cy 1, 4, .inl (aI c_speed)))]
def mb_X9_turnsAt_151 (F : Nat) (k81 : Int → Int → Int → Int → Option (Int × Int × Int)) (x1 : Int) (x2 : Int) (x4 : Int) (x5 : Int) (x6 : Int) (x8 : Int) (x10 : Int) (x12 : Int) (s0 : Int) (c_above : Int) (c_below : Int) (c_has : Int → Int) (c_part : Int → Int) (c_speed : Int → Int) : Option (Int × Int × Int) :=
  if wI s0 = wI 0 then
    (bnd1 (m_X9_stepsOf F x10 c_part) fun r1 => chk (r32 (-r1)) <| chk (r32 x12) <| bnd2 (m_X9_adds F (-r1) x12 c_above c_below) fun o5 o6 => k81 (x10 + 1) s0 o5 o6)
  else
    (k81 x10 s0 c_above c_below)
def mb_X9_turnsAt_146 (F : Nat) (k81 : Int → Int → Int → Int → Option (Int × Int × Int)) (x1 : Int) (x2 : Int) (x4 : Int) (x5 : Int) (x6 : Int) (x8 : Int) (x10 : Int) (x12 : Int) (c_above : Int) (c_below : Int) (c_has : Int → Int) (c_part : Int → Int) (c_speed : Int → Int) : Option (Int × Int × Int) :=
  mb_X9_turnsAt_151 F k81 x1 x2 x4 x5 x6 x8 x10 x12 1 c_above c_below c_has c_part c_speed
def mb_X9_turnsAt_339 (F : Nat) (k339 : Int → Int → Int → Option (Int × Int × Int)) (x1 : Int) (x18 : Int) (c_above : Int) (c_below : Int) (c_has : Int → Int) (c_part : Int → Int) (c_speed : Int → Int) : Option (Int × Int × Int) :=
  if wI (c_has 1) ≤ wI x18 then
    (some (1, c_above, c_below))
  else
    (chk (0 ≤ x18 ∧ x18 < 4) <| nam (x1 + (c_speed x18)) fun y2 => if wI 0 < wI y2 then
    (bnd1 (m_X9_stepsOf F x18 c_part) fun r3 => chk (r32 r3) <| chk (r32 y2) <| bnd2 (m_X9_adds F r3 y2 c_above c_below) fun o7 o8 => k339 (x18 + 1) o7 o8)
  else
    (some (0, c_above, c_below)))
def ml_X9_turnsAt_339 (F : Nat) (x1 : Int) (x18 : Int) (c_above : Int) (c_below : Int) (c_has : Int → Int) (c_part : Int → Int) (c_speed : Int → Int) : Option (Int × Int × Int) :=
  loopN (fun (k : Int × Int × Int → Option (Int × Int × Int)) q => mb_X9_turnsAt_339 F (fun y0 y1 y2 => k (y0, y1, y2)) x1 q.1 q.2.1 q.2.2 c_has c_part c_speed) F (x18, c_above, c_below)
def mb_X9_turnsAt_317 (F : Nat) (x1 : Int) (x4 : Int) (x6 : Int) (x8 : Int) (x10 : Int) (c_above : Int) (c_below : Int) (c_has : Int → Int) (c_part : Int → Int) (c_speed : Int → Int) : Option (Int × Int × Int) :=
  bnd2 (m_X9_adds F x6 x8 c_above c_below) fun o1 o2 => chk (r32 x4) <| bnd2 (m_X9_adds F x4 1 o1 o2) fun o5 o6 => nam (x10 + 1) fun y8 => ml_X9_turnsAt_339 F x1 y8 o5 o6 c_has c_part c_speed
def mb_X9_turnsAt_182 (F : Nat) (x1 : Int) (x2 : Int) (x4 : Int) (x5 : Int) (x6 : Int) (x8 : Int) (x10 : Int) (c_above : Int) (c_below : Int) (c_has : Int → Int) (c_part : Int → Int) (c_speed : Int → Int) : Option (Int × Int × Int) :=
  if wI x10 = wI (c_has 1) then
    (chk (r32 x4) <| bnd2 (m_X9_adds F x4 1 x6 x8) fun o2 o3 => if wI x5 = wI 0 then
    (bnd2 (m_X9_adds F (-c_above) c_below o2 o3) fun o5 o6 => some (1, o5, o6))
  else
    (some (1, o2, o3)))
  else
    (chk (0 ≤ x10 ∧ x10 < 4) <| nam (x1 + (c_speed x10)) fun y2 => if wI 0 < wI y2 then
    (bnd2 (m_X9_zero F) fun o3 o4 => bnd1 (m_X9_stepsOf F x10 c_part) fun r6 => chk (r32 r6) <| chk (r32 y2) <| bnd2 (m_X9_adds F r6 y2 o3 o4) fun o10 o11 => chk (0 ≤ x10 ∧ x10 < 4) <| nam (x2 + (c_speed x10)) fun y14 => if wI y14 ≤ wI 0 then
    (mb_X9_turnsAt_317 F x1 x4 x6 x8 x10 o10 o11 c_has c_part c_speed)
  else
    (if wJ c_above ≤ wJ 0 then
    (mb_X9_turnsAt_317 F x1 x4 x6 x8 x10 o10 o11 c_has c_part c_speed)
  else
    (chk (r32 y14) <| chk (r32 y2) <| bnd2 (m_X9_adds F ((-c_above) * y14) (c_below * y2) o10 o11) fun o17 o18 => mb_X9_turnsAt_317 F x1 x4 x6 x8 x10 o17 o18 c_has c_part c_speed)))
  else
    (some (0, c_above, c_below)))
def mb_X9_turnsAt_81 (F : Nat) (k81 : Int → Int → Int → Int → Option (Int × Int × Int)) (x1 : Int) (x2 : Int) (x4 : Int) (x5 : Int) (x6 : Int) (x8 : Int) (x10 : Int) (x11 : Int) (c_above : Int) (c_below : Int) (c_has : Int → Int) (c_part : Int → Int) (c_speed : Int → Int) : Option (Int × Int × Int) :=
  if wI (c_has 1) ≤ wI x10 then
    (mb_X9_turnsAt_182 F x1 x2 x4 x5 x6 x8 x10 c_above c_below c_has c_part c_speed)
  else
    (if wJ c_above ≤ wJ 0 then
    (mb_X9_turnsAt_182 F x1 x2 x4 x5 x6 x8 x10 c_above c_below c_has c_part c_speed)
  else
    (if wI x11 = wI 0 then
    (chk (0 ≤ x10 ∧ x10 < 4) <| nam (x2 + (c_speed x10)) fun y2 => if wI y2 ≤ wI 0 then
    (mb_X9_turnsAt_146 F k81 x1 x2 x4 x5 x6 x8 x10 y2 c_above c_below c_has c_part c_speed)
  else
    (bnd1 (m_X9_stepsOf F x10 c_part) fun r3 => chk (r32 r3) <| chk (r32 y2) <| bnd1 (m_X9_isLess F c_above c_below r3 y2) fun r7 => if wI r7 = wI 0 then
    (mb_X9_turnsAt_151 F k81 x1 x2 x4 x5 x6 x8 x10 y2 0 c_above c_below c_has c_part c_speed)
  else
    (mb_X9_turnsAt_146 F k81 x1 x2 x4 x5 x6 x8 x10 y2 c_above c_below c_has c_part c_speed)))
  else
    (mb_X9_turnsAt_182 F x1 x2 x4 x5 x6 x8 x10 c_above c_below c_has c_part c_speed)))
def ml_X9_turnsAt_81 (F : Nat) (x1 : Int) (x2 : Int) (x4 : Int) (x5 : Int) (x6 : Int) (x8 : Int) (x10 : Int) (x11 : Int) (c_above : Int) (c_below : Int) (c_has : Int → Int) (c_part : Int → Int) (c_speed : Int → Int) : Option (Int × Int × Int) :=
  loopN (fun (k : Int × Int × Int × Int → Option (Int × Int × Int)) q => mb_X9_turnsAt_81 F (fun y0 y1 y2 y3 => k (y0, y1, y2, y3)) x1 x2 x4 x5 x6 x8 q.1 q.2.1 q.2.2.1 q.2.2.2 c_has c_part c_speed) F (x10, x11, c_above, c_below)
def mb_X9_turnsAt_7 (F : Nat) (k7 : Int → Int → Int → Option (Int × Int × Int)) (x1 : Int) (x2 : Int) (x3 : Int) (x4 : Int) (x5 : Int) (x6 : Int) (c_above : Int) (c_below : Int) (c_has : Int → Int) (c_part : Int → Int) (c_speed : Int → Int) : Option (Int × Int × Int) :=
  if wI x3 ≤ wI x6 then
    (bnd2 (m_X9_zero F) fun o1 o2 => chk (r32 x4) <| bnd2 (m_X9_adds F x4 1 o1 o2) fun o5 o6 => ml_X9_turnsAt_81 F x1 x2 x4 x5 c_above c_below x3 0 o5 o6 c_has c_part c_speed)
  else
    (chk (0 ≤ x6 ∧ x6 < 4) <| nam (x1 + (c_speed x6)) fun y2 => if wI 0 < wI y2 then
    (bnd1 (m_X9_stepsOf F x6 c_part) fun r3 => chk (r32 r3) <| chk (r32 y2) <| bnd2 (m_X9_adds F r3 y2 c_above c_below) fun o7 o8 => k7 (x6 + 1) o7 o8)
  else
    (some (0, c_above, c_below)))
def ml_X9_turnsAt_7 (F : Nat) (x1 : Int) (x2 : Int) (x3 : Int) (x4 : Int) (x5 : Int) (x6 : Int) (c_above : Int) (c_below : Int) (c_has : Int → Int) (c_part : Int → Int) (c_speed : Int → Int) : Option (Int × Int × Int) :=
  loopN (fun (k : Int × Int × Int → Option (Int × Int × Int)) q => mb_X9_turnsAt_7 F (fun y0 y1 y2 => k (y0, y1, y2)) x1 x2 x3 x4 x5 q.1 q.2.1 q.2.2 c_has c_part c_speed) F (x6, c_above, c_below)
def m_X9_turnsAt (F : Nat) (x1 : Int) (x2 : Int) (x3 : Int) (x4 : Int) (x5 : Int) (c_has : Int → Int) (c_part : Int → Int) (c_speed : Int → Int) : Option (Int × Int × Int) :=
  bnd2 (m_X9_zero F) fun o1 o2 => ml_X9_turnsAt_7 F x1 x2 x3 x4 x5 0 o1 o2 c_has c_part c_speed
section S_X9_turnsAt
variable {E : EE} {a_t a_t_has a_t_part a_t_speed : Nat} {g_t_0 : Value} {g_t_1 : Value} {g_t_2 : Value} {g_t_3 : Value} {g_t_4 : Value} {g_t_5 : Value} {g_t_6 : Value} {g_t_7 : Value} {g_t_8 : Value} {g_t_9 : Value} {g_t_10 : Value} {g_t_11 : Value} {g_t_12 : Value} {g_t_13 : Value} {g_t_14 : Value} {g_t_15 : Value} {g_t_16 : Value} {g_t_19 : Value} {g_t_20 : Value} {g_t_21 : Value} {g_t_22 : Value} {g_t_26 : Value} {g_t_27 : Value} {g_t_28 : Value} {g_t_29 : Value} {g_t_30 : Value} {g_t_31 : Value} {g_t_32 : Value} {g_t_33 : Value} {g_t_34 : Value} {g_t_35 : Value} {g_t_36 : Value} {g_t_37 : Value} {g_t_38 : Value} {g_t_39 : Value} {g_t_40 : Value} {g_t_41 : Value} {g_t_42 : Value} {g_t_43 : Value}
set_option maxRecDepth 100000 in
set_option maxHeartbeats 4000000 in
theorem wb_X9_turnsAt_151 {F : Nat} {k81 : Int → Int → Int → Int → Option (Int × Int × Int)} {v : Int × Int × Int} {x1 : Int} {x2 : Int} {x4 : Int} {x5 : Int} {x6 : Int} {x8 : Int} {x10 : Int} {x12 : Int} {s0 : Int} {c_above : Int} {c_below : Int} {c_has : Int → Int} {c_part : Int → Int} {c_speed : Int → Int} (C : Cx E cX9_turnsAt RX9 { frames := 202, cells := 0, slots := 0, locals := 6231 }) (hN : eN E = 20) (h : mb_X9_turnsAt_151 F k81 x1 x2 x4 x5 x6 x8 x10 x12 s0 c_above c_below c_has c_part c_speed = some v) (hk81 : ∀ (y_x10 : Int) (y_x11 : Int) (y_c_above : Int) (y_c_below : Int), k81 y_x10 y_x11 y_c_above y_c_below = some v → GG E 0 0 (W_X9_turnsAt (eCy E) a_t a_t_has a_t_part a_t_speed g_t_0 g_t_1 g_t_2 g_t_3 g_t_4 g_t_5 g_t_6 g_t_7 g_t_8 g_t_9 g_t_10 g_t_11 g_t_12 g_t_13 g_t_14 g_t_15 g_t_16 g_t_19 g_t_20 g_t_21 g_t_22 g_t_26 g_t_27 g_t_28 g_t_29 g_t_30 g_t_31 g_t_32 g_t_33 g_t_34 g_t_35 g_t_36 g_t_37 g_t_38 g_t_39 g_t_40 g_t_41 g_t_42 g_t_43 y_c_above y_c_below c_has c_part c_speed) [some (.ref a_t), some (.int (wI x1)), some (.int (wI x2)), none, some (.int (wI x4)), some (.int (wI x5)), some (.long (wJ x6)), none, some (.long (wJ x8)), none, some (.int (wI y_x10)), some (.int (wI y_x11)), none, none, none, none, none, none, none, none] 81 []) (hret : ∀ (pc : Nat) (L : List (Option Value)), narrow .boolean (.int (wI (v.1))) = .int (wI (v.1)) → decode cX9_turnsAt pc = .ok (.ireturn, 1) → GG E 0 0 (W_X9_turnsAt (eCy E) a_t a_t_has a_t_part a_t_speed g_t_0 g_t_1 g_t_2 g_t_3 g_t_4 g_t_5 g_t_6 g_t_7 g_t_8 g_t_9 g_t_10 g_t_11 g_t_12 g_t_13 g_t_14 g_t_15 g_t_16 g_t_19 g_t_20 g_t_21 g_t_22 g_t_26 g_t_27 g_t_28 g_t_29 g_t_30 g_t_31 g_t_32 g_t_33 g_t_34 g_t_35 g_t_36 g_t_37 g_t_38 g_t_39 g_t_40 g_t_41 g_t_42 g_t_43 (v.2.1) (v.2.2) c_has c_part c_speed) L pc [.int (wI (v.1))]) : GG E 0 0 (W_X9_turnsAt (eCy E) a_t a_t_has a_t_part a_t_speed g_t_0 g_t_1 g_t_2 g_t_3 g_t_4 g_t_5 g_t_6 g_t_7 g_t_8 g_t_9 g_t_10 g_t_11 g_t_12 g_t_13 g_t_14 g_t_15 g_t_16 g_t_19 g_t_20 g_t_21 g_t_22 g_t_26 g_t_27 g_t_28 g_t_29 g_t_30 g_t_31 g_t_32 g_t_33 g_t_34 g_t_35 g_t_36 g_t_37 g_t_38 g_t_39 g_t_40 g_t_41 g_t_42 g_t_43 c_above c_below c_has c_part c_speed) [some (.ref a_t), some (.int (wI x1)), some (.int (wI x2)), none, some (.int (wI x4)), some (.int (wI x5)), some (.long (wJ x6)), none, some (.long (wJ x8)), none, some (.int (wI x10)), none, some (.int (wI x12)), none, none, none, none, none, none, none] 151 [.int (wI s0)] := by
  unfold mb_X9_turnsAt_151 at h
  refine g_istore C hN dX9_turnsAt_151 rfl (L' := [some (.ref a_t), some (.int (wI x1)), some (.int (wI x2)), none, some (.int (wI x4)), some (.int (wI x5)), some (.long (wJ x6)), none, some (.long (wJ x8)), none, some (.int (wI x10)), some (.int (wI s0)), some (.int (wI x12)), none, none, none, none, none, none, none]) rfl ?_
  refine g_iload C dX9_turnsAt_153 rfl ?_
  refine g_if_eq 161 C dX9_turnsAt_155 (by decide) h (fun h => ?_) (fun h => ?_)
  · refine g_aload_n 0 C dX9_turnsAt_161 rfl rfl ?_
    refine g_aload_n 0 C dX9_turnsAt_162 rfl rfl ?_
    refine g_iload C dX9_turnsAt_163 rfl ?_
    obtain ⟨r1, hr2, h⟩ := bnd1_some h
    refine g_callI [0, 2] [1, 3] [2, 0, 3, 1] C mt_X9_233 (c_X9_stepsOf _ _ _ _ a_t a_t_part (g_t_0) (g_t_1) (g_t_2) (g_t_3) (g_t_4) (g_t_5) (g_t_6) (g_t_7) (g_t_8) (g_t_9) (g_t_10) (g_t_11) (g_t_12) (g_t_13) (g_t_14) (g_t_15) (g_t_16) (.ref a_t_has) (g_t_19) (g_t_20) (g_t_21) (g_t_22) (.ref a_t_speed) (.long (wJ c_above)) (.long (wJ c_below)) (g_t_26) (g_t_27) (g_t_28) (g_t_29) (g_t_30) (g_t_31) (g_t_32) (g_t_33) (g_t_34) (g_t_35) (g_t_36) (g_t_37) (g_t_38) (g_t_39) (g_t_40) (g_t_41) (g_t_42) (g_t_43) x10 c_part F hr2) (q0 := 0) rfl (ci := 9) rfl rfl rfl (ws2 := (W_X9_turnsAt (eCy E) a_t a_t_has a_t_part a_t_speed g_t_0 g_t_1 g_t_2 g_t_3 g_t_4 g_t_5 g_t_6 g_t_7 g_t_8 g_t_9 g_t_10 g_t_11 g_t_12 g_t_13 g_t_14 g_t_15 g_t_16 g_t_19 g_t_20 g_t_21 g_t_22 g_t_26 g_t_27 g_t_28 g_t_29 g_t_30 g_t_31 g_t_32 g_t_33 g_t_34 g_t_35 g_t_36 g_t_37 g_t_38 g_t_39 g_t_40 g_t_41 g_t_42 g_t_43 c_above c_below c_has c_part c_speed)) rfl rfl rfl (rest := [.ref a_t]) rfl rfl rfl dX9_turnsAt_165 ?_
    refine g_ineg C dX9_turnsAt_168 ?_
    obtain ⟨hc3, h⟩ := chk_some h
    refine g_i2l C dX9_turnsAt_169 hc3 ?_
    refine g_iload C dX9_turnsAt_170 rfl ?_
    obtain ⟨hc4, h⟩ := chk_some h
    refine g_i2l C dX9_turnsAt_172 hc4 ?_
    obtain ⟨o5, o6, hr7, h⟩ := bnd2_some h
    refine g_callV [0] [1, 2, 3] [3, 0, 1, 2] C mt_X9_256 (c_X9_adds _ _ _ _ a_t (g_t_0) (g_t_1) (g_t_2) (g_t_3) (g_t_4) (g_t_5) (g_t_6) (g_t_7) (g_t_8) (g_t_9) (g_t_10) (g_t_11) (g_t_12) (g_t_13) (g_t_14) (g_t_15) (g_t_16) (.ref a_t_has) (.ref a_t_part) (g_t_19) (g_t_20) (g_t_21) (g_t_22) (.ref a_t_speed) (g_t_26) (g_t_27) (g_t_28) (g_t_29) (g_t_30) (g_t_31) (g_t_32) (g_t_33) (g_t_34) (g_t_35) (g_t_36) (g_t_37) (g_t_38) (g_t_39) (g_t_40) (g_t_41) (g_t_42) (g_t_43) (-r1) x12 c_above c_below F hr7) (q0 := 0) rfl (ci := 9) rfl rfl rfl (ws2 := (W_X9_turnsAt (eCy E) a_t a_t_has a_t_part a_t_speed g_t_0 g_t_1 g_t_2 g_t_3 g_t_4 g_t_5 g_t_6 g_t_7 g_t_8 g_t_9 g_t_10 g_t_11 g_t_12 g_t_13 g_t_14 g_t_15 g_t_16 g_t_19 g_t_20 g_t_21 g_t_22 g_t_26 g_t_27 g_t_28 g_t_29 g_t_30 g_t_31 g_t_32 g_t_33 g_t_34 g_t_35 g_t_36 g_t_37 g_t_38 g_t_39 g_t_40 g_t_41 g_t_42 g_t_43 o5 o6 c_has c_part c_speed)) rfl rfl rfl (rest := []) rfl rfl rfl dX9_turnsAt_173 ?_
    refine g_iinc C hN dX9_turnsAt_176 rfl rfl (L' := [some (.ref a_t), some (.int (wI x1)), some (.int (wI x2)), none, some (.int (wI x4)), some (.int (wI x5)), some (.long (wJ x6)), none, some (.long (wJ x8)), none, some (.int (wI (x10 + 1))), some (.int (wI s0)), some (.int (wI x12)), none, none, none, none, none, none, none]) rfl ?_
    refine g_goto (tgt := 81) C dX9_turnsAt_179 (by decide) ?_
    refine g_mask [true, true, true, false, true, true, true, false, true, false, true, true, false, false, false, false, false, false, false, false] (L' := [some (.ref a_t), some (.int (wI x1)), some (.int (wI x2)), none, some (.int (wI x4)), some (.int (wI x5)), some (.long (wJ x6)), none, some (.long (wJ x8)), none, some (.int (wI (x10 + 1))), some (.int (wI s0)), none, none, none, none, none, none, none, none]) rfl ?_
    exact hk81 _ _ _ _ h
  · refine g_goto (tgt := 81) C dX9_turnsAt_158 (by decide) ?_
    refine g_mask [true, true, true, false, true, true, true, false, true, false, true, true, false, false, false, false, false, false, false, false] (L' := [some (.ref a_t), some (.int (wI x1)), some (.int (wI x2)), none, some (.int (wI x4)), some (.int (wI x5)), some (.long (wJ x6)), none, some (.long (wJ x8)), none, some (.int (wI x10)), some (.int (wI s0)), none, none, none, none, none, none, none, none]) rfl ?_
    exact hk81 _ _ _ _ h
set_option maxRecDepth 100000 in
set_option maxHeartbeats 4000000 in
theorem wb_X9_turnsAt_146 {F : Nat} {k81 : Int → Int → Int → Int → Option (Int × Int × Int)} {v : Int × Int × Int} {x1 : Int} {x2 : Int} {x4 : Int} {x5 : Int} {x6 : Int} {x8 : Int} {x10 : Int} {x12 : Int} {c_above : Int} {c_below : Int} {c_has : Int → Int} {c_part : Int → Int} {c_speed : Int → Int} (C : Cx E cX9_turnsAt RX9 { frames := 202, cells := 0, slots := 0, locals := 6231 }) (hN : eN E = 20) (h : mb_X9_turnsAt_146 F k81 x1 x2 x4 x5 x6 x8 x10 x12 c_above c_below c_has c_part c_speed = some v) (hk81 : ∀ (y_x10 : Int) (y_x11 : Int) (y_c_above : Int) (y_c_below : Int), k81 y_x10 y_x11 y_c_above y_c_below = some v → GG E 0 0 (W_X9_turnsAt (eCy E) a_t a_t_has a_t_part a_t_speed g_t_0 g_t_1 g_t_2 g_t_3 g_t_4 g_t_5 g_t_6 g_t_7 g_t_8 g_t_9 g_t_10 g_t_11 g_t_12 g_t_13 g_t_14 g_t_15 g_t_16 g_t_19 g_t_20 g_t_21 g_t_22 g_t_26 g_t_27 g_t_28 g_t_29 g_t_30 g_t_31 g_t_32 g_t_33 g_t_34 g_t_35 g_t_36 g_t_37 g_t_38 g_t_39 g_t_40 g_t_41 g_t_42 g_t_43 y_c_above y_c_below c_has c_part c_speed) [some (.ref a_t), some (.int (wI x1)), some (.int (wI x2)), none, some (.int (wI x4)), some (.int (wI x5)), some (.long (wJ x6)), none, some (.long (wJ x8)), none, some (.int (wI y_x10)), some (.int (wI y_x11)), none, none, none, none, none, none, none, none] 81 []) (hret : ∀ (pc : Nat) (L : List (Option Value)), narrow .boolean (.int (wI (v.1))) = .int (wI (v.1)) → decode cX9_turnsAt pc = .ok (.ireturn, 1) → GG E 0 0 (W_X9_turnsAt (eCy E) a_t a_t_has a_t_part a_t_speed g_t_0 g_t_1 g_t_2 g_t_3 g_t_4 g_t_5 g_t_6 g_t_7 g_t_8 g_t_9 g_t_10 g_t_11 g_t_12 g_t_13 g_t_14 g_t_15 g_t_16 g_t_19 g_t_20 g_t_21 g_t_22 g_t_26 g_t_27 g_t_28 g_t_29 g_t_30 g_t_31 g_t_32 g_t_33 g_t_34 g_t_35 g_t_36 g_t_37 g_t_38 g_t_39 g_t_40 g_t_41 g_t_42 g_t_43 (v.2.1) (v.2.2) c_has c_part c_speed) L pc [.int (wI (v.1))]) : GG E 0 0 (W_X9_turnsAt (eCy E) a_t a_t_has a_t_part a_t_speed g_t_0 g_t_1 g_t_2 g_t_3 g_t_4 g_t_5 g_t_6 g_t_7 g_t_8 g_t_9 g_t_10 g_t_11 g_t_12 g_t_13 g_t_14 g_t_15 g_t_16 g_t_19 g_t_20 g_t_21 g_t_22 g_t_26 g_t_27 g_t_28 g_t_29 g_t_30 g_t_31 g_t_32 g_t_33 g_t_34 g_t_35 g_t_36 g_t_37 g_t_38 g_t_39 g_t_40 g_t_41 g_t_42 g_t_43 c_above c_below c_has c_part c_speed) [some (.ref a_t), some (.int (wI x1)), some (.int (wI x2)), none, some (.int (wI x4)), some (.int (wI x5)), some (.long (wJ x6)), none, some (.long (wJ x8)), none, some (.int (wI x10)), none, some (.int (wI x12)), none, none, none, none, none, none, none] 146 [] := by
  unfold mb_X9_turnsAt_146 at h
  refine g_iconst C dX9_turnsAt_146 ?_
  refine g_goto (tgt := 151) C dX9_turnsAt_147 (by decide) ?_
  exact wb_X9_turnsAt_151 C hN h hk81 hret
set_option maxRecDepth 100000 in
set_option maxHeartbeats 4000000 in
theorem wb_X9_turnsAt_339 {F : Nat} {k339 : Int → Int → Int → Option (Int × Int × Int)} {v : Int × Int × Int} {x1 : Int} {x18 : Int} {c_above : Int} {c_below : Int} {c_has : Int → Int} {c_part : Int → Int} {c_speed : Int → Int} (C : Cx E cX9_turnsAt RX9 { frames := 202, cells := 0, slots := 0, locals := 6231 }) (hN : eN E = 20) (h : mb_X9_turnsAt_339 F k339 x1 x18 c_above c_below c_has c_part c_speed = some v) (hk339 : ∀ (y_x18 : Int) (y_c_above : Int) (y_c_below : Int), k339 y_x18 y_c_above y_c_below = some v → GG E 0 0 (W_X9_turnsAt (eCy E) a_t a_t_has a_t_part a_t_speed g_t_0 g_t_1 g_t_2 g_t_3 g_t_4 g_t_5 g_t_6 g_t_7 g_t_8 g_t_9 g_t_10 g_t_11 g_t_12 g_t_13 g_t_14 g_t_15 g_t_16 g_t_19 g_t_20 g_t_21 g_t_22 g_t_26 g_t_27 g_t_28 g_t_29 g_t_30 g_t_31 g_t_32 g_t_33 g_t_34 g_t_35 g_t_36 g_t_37 g_t_38 g_t_39 g_t_40 g_t_41 g_t_42 g_t_43 y_c_above y_c_below c_has c_part c_speed) [some (.ref a_t), some (.int (wI x1)), none, none, none, none, none, none, none, none, none, none, none, none, none, none, none, none, some (.int (wI y_x18)), none] 339 []) (hret : ∀ (pc : Nat) (L : List (Option Value)), narrow .boolean (.int (wI (v.1))) = .int (wI (v.1)) → decode cX9_turnsAt pc = .ok (.ireturn, 1) → GG E 0 0 (W_X9_turnsAt (eCy E) a_t a_t_has a_t_part a_t_speed g_t_0 g_t_1 g_t_2 g_t_3 g_t_4 g_t_5 g_t_6 g_t_7 g_t_8 g_t_9 g_t_10 g_t_11 g_t_12 g_t_13 g_t_14 g_t_15 g_t_16 g_t_19 g_t_20 g_t_21 g_t_22 g_t_26 g_t_27 g_t_28 g_t_29 g_t_30 g_t_31 g_t_32 g_t_33 g_t_34 g_t_35 g_t_36 g_t_37 g_t_38 g_t_39 g_t_40 g_t_41 g_t_42 g_t_43 (v.2.1) (v.2.2) c_has c_part c_speed) L pc [.int (wI (v.1))]) : GG E 0 0 (W_X9_turnsAt (eCy E) a_t a_t_has a_t_part a_t_speed g_t_0 g_t_1 g_t_2 g_t_3 g_t_4 g_t_5 g_t_6 g_t_7 g_t_8 g_t_9 g_t_10 g_t_11 g_t_12 g_t_13 g_t_14 g_t_15 g_t_16 g_t_19 g_t_20 g_t_21 g_t_22 g_t_26 g_t_27 g_t_28 g_t_29 g_t_30 g_t_31 g_t_32 g_t_33 g_t_34 g_t_35 g_t_36 g_t_37 g_t_38 g_t_39 g_t_40 g_t_41 g_t_42 g_t_43 c_above c_below c_has c_part c_speed) [some (.ref a_t), some (.int (wI x1)), none, none, none, none, none, none, none, none, none, none, none, none, none, none, none, none, some (.int (wI x18)), none] 339 [] := by
  unfold mb_X9_turnsAt_339 at h
  refine g_iload C dX9_turnsAt_339 rfl ?_
  refine g_aload_n 0 C dX9_turnsAt_341 rfl rfl ?_
  refine g_get C fg_X9_34 0 rfl rfl dX9_turnsAt_342 ?_
  refine g_iconst C dX9_turnsAt_345 ?_
  refine g_iald C 1 rfl (by decide) rfl dX9_turnsAt_346 ?_
  refine g_icmp_ge 388 C dX9_turnsAt_347 (by decide) h (fun h => ?_) (fun h => ?_)
  · refine g_iconst C dX9_turnsAt_388 ?_
    cases h
    exact hret 389 _ bn1 dX9_turnsAt_389
  · refine g_iload_n 1 C dX9_turnsAt_350 rfl rfl ?_
    refine g_aload_n 0 C dX9_turnsAt_351 rfl rfl ?_
    refine g_get C fg_X9_53 0 rfl rfl dX9_turnsAt_352 ?_
    refine g_iload C dX9_turnsAt_355 rfl ?_
    obtain ⟨hc1, h⟩ := chk_some h
    refine g_iald C 3 rfl hc1 rfl dX9_turnsAt_357 ?_
    refine g_iadd C dX9_turnsAt_358 ?_
    obtain ⟨y2, e_y2, h⟩ := nam_some h
    refine g_topI e_y2 ?_
    refine g_istore C hN dX9_turnsAt_359 rfl (L' := [some (.ref a_t), some (.int (wI x1)), none, none, none, none, none, none, none, none, none, none, none, none, none, none, none, none, some (.int (wI x18)), some (.int (wI y2))]) rfl ?_
    refine g_iload C dX9_turnsAt_361 rfl ?_
    refine g_if_gt 368 C dX9_turnsAt_363 (by decide) h (fun h => ?_) (fun h => ?_)
    · refine g_aload_n 0 C dX9_turnsAt_368 rfl rfl ?_
      refine g_aload_n 0 C dX9_turnsAt_369 rfl rfl ?_
      refine g_iload C dX9_turnsAt_370 rfl ?_
      obtain ⟨r3, hr4, h⟩ := bnd1_some h
      refine g_callI [0, 2] [1, 3] [2, 0, 3, 1] C mt_X9_233 (c_X9_stepsOf _ _ _ _ a_t a_t_part (g_t_0) (g_t_1) (g_t_2) (g_t_3) (g_t_4) (g_t_5) (g_t_6) (g_t_7) (g_t_8) (g_t_9) (g_t_10) (g_t_11) (g_t_12) (g_t_13) (g_t_14) (g_t_15) (g_t_16) (.ref a_t_has) (g_t_19) (g_t_20) (g_t_21) (g_t_22) (.ref a_t_speed) (.long (wJ c_above)) (.long (wJ c_below)) (g_t_26) (g_t_27) (g_t_28) (g_t_29) (g_t_30) (g_t_31) (g_t_32) (g_t_33) (g_t_34) (g_t_35) (g_t_36) (g_t_37) (g_t_38) (g_t_39) (g_t_40) (g_t_41) (g_t_42) (g_t_43) x18 c_part F hr4) (q0 := 0) rfl (ci := 9) rfl rfl rfl (ws2 := (W_X9_turnsAt (eCy E) a_t a_t_has a_t_part a_t_speed g_t_0 g_t_1 g_t_2 g_t_3 g_t_4 g_t_5 g_t_6 g_t_7 g_t_8 g_t_9 g_t_10 g_t_11 g_t_12 g_t_13 g_t_14 g_t_15 g_t_16 g_t_19 g_t_20 g_t_21 g_t_22 g_t_26 g_t_27 g_t_28 g_t_29 g_t_30 g_t_31 g_t_32 g_t_33 g_t_34 g_t_35 g_t_36 g_t_37 g_t_38 g_t_39 g_t_40 g_t_41 g_t_42 g_t_43 c_above c_below c_has c_part c_speed)) rfl rfl rfl (rest := [.ref a_t]) rfl rfl rfl dX9_turnsAt_372 ?_
      obtain ⟨hc5, h⟩ := chk_some h
      refine g_i2l C dX9_turnsAt_375 hc5 ?_
      refine g_iload C dX9_turnsAt_376 rfl ?_
      obtain ⟨hc6, h⟩ := chk_some h
      refine g_i2l C dX9_turnsAt_378 hc6 ?_
      obtain ⟨o7, o8, hr9, h⟩ := bnd2_some h
      refine g_callV [0] [1, 2, 3] [3, 0, 1, 2] C mt_X9_256 (c_X9_adds _ _ _ _ a_t (g_t_0) (g_t_1) (g_t_2) (g_t_3) (g_t_4) (g_t_5) (g_t_6) (g_t_7) (g_t_8) (g_t_9) (g_t_10) (g_t_11) (g_t_12) (g_t_13) (g_t_14) (g_t_15) (g_t_16) (.ref a_t_has) (.ref a_t_part) (g_t_19) (g_t_20) (g_t_21) (g_t_22) (.ref a_t_speed) (g_t_26) (g_t_27) (g_t_28) (g_t_29) (g_t_30) (g_t_31) (g_t_32) (g_t_33) (g_t_34) (g_t_35) (g_t_36) (g_t_37) (g_t_38) (g_t_39) (g_t_40) (g_t_41) (g_t_42) (g_t_43) r3 y2 c_above c_below F hr9) (q0 := 0) rfl (ci := 9) rfl rfl rfl (ws2 := (W_X9_turnsAt (eCy E) a_t a_t_has a_t_part a_t_speed g_t_0 g_t_1 g_t_2 g_t_3 g_t_4 g_t_5 g_t_6 g_t_7 g_t_8 g_t_9 g_t_10 g_t_11 g_t_12 g_t_13 g_t_14 g_t_15 g_t_16 g_t_19 g_t_20 g_t_21 g_t_22 g_t_26 g_t_27 g_t_28 g_t_29 g_t_30 g_t_31 g_t_32 g_t_33 g_t_34 g_t_35 g_t_36 g_t_37 g_t_38 g_t_39 g_t_40 g_t_41 g_t_42 g_t_43 o7 o8 c_has c_part c_speed)) rfl rfl rfl (rest := []) rfl rfl rfl dX9_turnsAt_379 ?_
      refine g_iinc C hN dX9_turnsAt_382 rfl rfl (L' := [some (.ref a_t), some (.int (wI x1)), none, none, none, none, none, none, none, none, none, none, none, none, none, none, none, none, some (.int (wI (x18 + 1))), some (.int (wI y2))]) rfl ?_
      refine g_goto (tgt := 339) C dX9_turnsAt_385 (by decide) ?_
      refine g_mask [true, true, false, false, false, false, false, false, false, false, false, false, false, false, false, false, false, false, true, false] (L' := [some (.ref a_t), some (.int (wI x1)), none, none, none, none, none, none, none, none, none, none, none, none, none, none, none, none, some (.int (wI (x18 + 1))), none]) rfl ?_
      exact hk339 _ _ _ h
    · refine g_iconst C dX9_turnsAt_366 ?_
      cases h
      exact hret 367 _ bn0 dX9_turnsAt_367
set_option maxRecDepth 100000 in
set_option maxHeartbeats 4000000 in
theorem wl_X9_turnsAt_339 {F : Nat} {v : Int × Int × Int} {x1 : Int} {x18 : Int} {c_above : Int} {c_below : Int} {c_has : Int → Int} {c_part : Int → Int} {c_speed : Int → Int} (C : Cx E cX9_turnsAt RX9 { frames := 202, cells := 0, slots := 0, locals := 6231 }) (hN : eN E = 20) (h : ml_X9_turnsAt_339 F x1 x18 c_above c_below c_has c_part c_speed = some v) (hret : ∀ (pc : Nat) (L : List (Option Value)), narrow .boolean (.int (wI (v.1))) = .int (wI (v.1)) → decode cX9_turnsAt pc = .ok (.ireturn, 1) → GG E 0 0 (W_X9_turnsAt (eCy E) a_t a_t_has a_t_part a_t_speed g_t_0 g_t_1 g_t_2 g_t_3 g_t_4 g_t_5 g_t_6 g_t_7 g_t_8 g_t_9 g_t_10 g_t_11 g_t_12 g_t_13 g_t_14 g_t_15 g_t_16 g_t_19 g_t_20 g_t_21 g_t_22 g_t_26 g_t_27 g_t_28 g_t_29 g_t_30 g_t_31 g_t_32 g_t_33 g_t_34 g_t_35 g_t_36 g_t_37 g_t_38 g_t_39 g_t_40 g_t_41 g_t_42 g_t_43 (v.2.1) (v.2.2) c_has c_part c_speed) L pc [.int (wI (v.1))]) : GG E 0 0 (W_X9_turnsAt (eCy E) a_t a_t_has a_t_part a_t_speed g_t_0 g_t_1 g_t_2 g_t_3 g_t_4 g_t_5 g_t_6 g_t_7 g_t_8 g_t_9 g_t_10 g_t_11 g_t_12 g_t_13 g_t_14 g_t_15 g_t_16 g_t_19 g_t_20 g_t_21 g_t_22 g_t_26 g_t_27 g_t_28 g_t_29 g_t_30 g_t_31 g_t_32 g_t_33 g_t_34 g_t_35 g_t_36 g_t_37 g_t_38 g_t_39 g_t_40 g_t_41 g_t_42 g_t_43 c_above c_below c_has c_part c_speed) [some (.ref a_t), some (.int (wI x1)), none, none, none, none, none, none, none, none, none, none, none, none, none, none, none, none, some (.int (wI x18)), none] 339 [] := by
  unfold ml_X9_turnsAt_339 at h
  exact loop_walk (g := fun (q : Int × Int × Int) => GG E 0 0 (W_X9_turnsAt (eCy E) a_t a_t_has a_t_part a_t_speed g_t_0 g_t_1 g_t_2 g_t_3 g_t_4 g_t_5 g_t_6 g_t_7 g_t_8 g_t_9 g_t_10 g_t_11 g_t_12 g_t_13 g_t_14 g_t_15 g_t_16 g_t_19 g_t_20 g_t_21 g_t_22 g_t_26 g_t_27 g_t_28 g_t_29 g_t_30 g_t_31 g_t_32 g_t_33 g_t_34 g_t_35 g_t_36 g_t_37 g_t_38 g_t_39 g_t_40 g_t_41 g_t_42 g_t_43 (q.2.1) (q.2.2) c_has c_part c_speed) [some (.ref a_t), some (.int (wI x1)), none, none, none, none, none, none, none, none, none, none, none, none, none, none, none, none, some (.int (wI (q.1))), none] 339 []) (fun k hk q h => wb_X9_turnsAt_339 C hN h (fun y0 y1 y2 hh => hk (y0, y1, y2) hh) hret) F (x18, c_above, c_below) h
set_option maxRecDepth 100000 in
set_option maxHeartbeats 4000000 in
theorem wb_X9_turnsAt_317 {F : Nat} {v : Int × Int × Int} {x1 : Int} {x4 : Int} {x6 : Int} {x8 : Int} {x10 : Int} {c_above : Int} {c_below : Int} {c_has : Int → Int} {c_part : Int → Int} {c_speed : Int → Int} (C : Cx E cX9_turnsAt RX9 { frames := 202, cells := 0, slots := 0, locals := 6231 }) (hN : eN E = 20) (h : mb_X9_turnsAt_317 F x1 x4 x6 x8 x10 c_above c_below c_has c_part c_speed = some v) (hret : ∀ (pc : Nat) (L : List (Option Value)), narrow .boolean (.int (wI (v.1))) = .int (wI (v.1)) → decode cX9_turnsAt pc = .ok (.ireturn, 1) → GG E 0 0 (W_X9_turnsAt (eCy E) a_t a_t_has a_t_part a_t_speed g_t_0 g_t_1 g_t_2 g_t_3 g_t_4 g_t_5 g_t_6 g_t_7 g_t_8 g_t_9 g_t_10 g_t_11 g_t_12 g_t_13 g_t_14 g_t_15 g_t_16 g_t_19 g_t_20 g_t_21 g_t_22 g_t_26 g_t_27 g_t_28 g_t_29 g_t_30 g_t_31 g_t_32 g_t_33 g_t_34 g_t_35 g_t_36 g_t_37 g_t_38 g_t_39 g_t_40 g_t_41 g_t_42 g_t_43 (v.2.1) (v.2.2) c_has c_part c_speed) L pc [.int (wI (v.1))]) : GG E 0 0 (W_X9_turnsAt (eCy E) a_t a_t_has a_t_part a_t_speed g_t_0 g_t_1 g_t_2 g_t_3 g_t_4 g_t_5 g_t_6 g_t_7 g_t_8 g_t_9 g_t_10 g_t_11 g_t_12 g_t_13 g_t_14 g_t_15 g_t_16 g_t_19 g_t_20 g_t_21 g_t_22 g_t_26 g_t_27 g_t_28 g_t_29 g_t_30 g_t_31 g_t_32 g_t_33 g_t_34 g_t_35 g_t_36 g_t_37 g_t_38 g_t_39 g_t_40 g_t_41 g_t_42 g_t_43 c_above c_below c_has c_part c_speed) [some (.ref a_t), some (.int (wI x1)), none, none, some (.int (wI x4)), none, some (.long (wJ x6)), none, some (.long (wJ x8)), none, some (.int (wI x10)), none, none, none, none, none, none, none, none, none] 317 [] := by
  unfold mb_X9_turnsAt_317 at h
  refine g_aload_n 0 C dX9_turnsAt_317 rfl rfl ?_
  refine g_lload C dX9_turnsAt_318 rfl ?_
  refine g_lload C dX9_turnsAt_320 rfl ?_
  obtain ⟨o1, o2, hr3, h⟩ := bnd2_some h
  refine g_callV [0] [1, 2, 3] [3, 0, 1, 2] C mt_X9_256 (c_X9_adds _ _ _ _ a_t (g_t_0) (g_t_1) (g_t_2) (g_t_3) (g_t_4) (g_t_5) (g_t_6) (g_t_7) (g_t_8) (g_t_9) (g_t_10) (g_t_11) (g_t_12) (g_t_13) (g_t_14) (g_t_15) (g_t_16) (.ref a_t_has) (.ref a_t_part) (g_t_19) (g_t_20) (g_t_21) (g_t_22) (.ref a_t_speed) (g_t_26) (g_t_27) (g_t_28) (g_t_29) (g_t_30) (g_t_31) (g_t_32) (g_t_33) (g_t_34) (g_t_35) (g_t_36) (g_t_37) (g_t_38) (g_t_39) (g_t_40) (g_t_41) (g_t_42) (g_t_43) x6 x8 c_above c_below F hr3) (q0 := 0) rfl (ci := 9) rfl rfl rfl (ws2 := (W_X9_turnsAt (eCy E) a_t a_t_has a_t_part a_t_speed g_t_0 g_t_1 g_t_2 g_t_3 g_t_4 g_t_5 g_t_6 g_t_7 g_t_8 g_t_9 g_t_10 g_t_11 g_t_12 g_t_13 g_t_14 g_t_15 g_t_16 g_t_19 g_t_20 g_t_21 g_t_22 g_t_26 g_t_27 g_t_28 g_t_29 g_t_30 g_t_31 g_t_32 g_t_33 g_t_34 g_t_35 g_t_36 g_t_37 g_t_38 g_t_39 g_t_40 g_t_41 g_t_42 g_t_43 o1 o2 c_has c_part c_speed)) rfl rfl rfl (rest := []) rfl rfl rfl dX9_turnsAt_322 ?_
  refine g_aload_n 0 C dX9_turnsAt_325 rfl rfl ?_
  refine g_iload C dX9_turnsAt_326 rfl ?_
  obtain ⟨hc4, h⟩ := chk_some h
  refine g_i2l C dX9_turnsAt_328 hc4 ?_
  refine g_lconst (x := 1) C dX9_turnsAt_329 (by decide) ?_
  obtain ⟨o5, o6, hr7, h⟩ := bnd2_some h
  refine g_callV [0] [1, 2, 3] [3, 0, 1, 2] C mt_X9_256 (c_X9_adds _ _ _ _ a_t (g_t_0) (g_t_1) (g_t_2) (g_t_3) (g_t_4) (g_t_5) (g_t_6) (g_t_7) (g_t_8) (g_t_9) (g_t_10) (g_t_11) (g_t_12) (g_t_13) (g_t_14) (g_t_15) (g_t_16) (.ref a_t_has) (.ref a_t_part) (g_t_19) (g_t_20) (g_t_21) (g_t_22) (.ref a_t_speed) (g_t_26) (g_t_27) (g_t_28) (g_t_29) (g_t_30) (g_t_31) (g_t_32) (g_t_33) (g_t_34) (g_t_35) (g_t_36) (g_t_37) (g_t_38) (g_t_39) (g_t_40) (g_t_41) (g_t_42) (g_t_43) x4 1 o1 o2 F hr7) (q0 := 0) rfl (ci := 9) rfl rfl rfl (ws2 := (W_X9_turnsAt (eCy E) a_t a_t_has a_t_part a_t_speed g_t_0 g_t_1 g_t_2 g_t_3 g_t_4 g_t_5 g_t_6 g_t_7 g_t_8 g_t_9 g_t_10 g_t_11 g_t_12 g_t_13 g_t_14 g_t_15 g_t_16 g_t_19 g_t_20 g_t_21 g_t_22 g_t_26 g_t_27 g_t_28 g_t_29 g_t_30 g_t_31 g_t_32 g_t_33 g_t_34 g_t_35 g_t_36 g_t_37 g_t_38 g_t_39 g_t_40 g_t_41 g_t_42 g_t_43 o5 o6 c_has c_part c_speed)) rfl rfl rfl (rest := []) rfl rfl rfl dX9_turnsAt_330 ?_
  refine g_iload C dX9_turnsAt_333 rfl ?_
  refine g_iconst C dX9_turnsAt_335 ?_
  refine g_iadd C dX9_turnsAt_336 ?_
  obtain ⟨y8, e_y8, h⟩ := nam_some h
  refine g_topI e_y8 ?_
  refine g_istore C hN dX9_turnsAt_337 rfl (L' := [some (.ref a_t), some (.int (wI x1)), none, none, some (.int (wI x4)), none, some (.long (wJ x6)), none, some (.long (wJ x8)), none, some (.int (wI x10)), none, none, none, none, none, none, none, some (.int (wI y8)), none]) rfl ?_
  refine g_mask [true, true, false, false, false, false, false, false, false, false, false, false, false, false, false, false, false, false, true, false] (L' := [some (.ref a_t), some (.int (wI x1)), none, none, none, none, none, none, none, none, none, none, none, none, none, none, none, none, some (.int (wI y8)), none]) rfl ?_
  exact wl_X9_turnsAt_339 C hN h hret
set_option maxRecDepth 100000 in
set_option maxHeartbeats 4000000 in
theorem wb_X9_turnsAt_182 {F : Nat} {v : Int × Int × Int} {x1 : Int} {x2 : Int} {x4 : Int} {x5 : Int} {x6 : Int} {x8 : Int} {x10 : Int} {c_above : Int} {c_below : Int} {c_has : Int → Int} {c_part : Int → Int} {c_speed : Int → Int} (C : Cx E cX9_turnsAt RX9 { frames := 202, cells := 0, slots := 0, locals := 6231 }) (hN : eN E = 20) (h : mb_X9_turnsAt_182 F x1 x2 x4 x5 x6 x8 x10 c_above c_below c_has c_part c_speed = some v) (hret : ∀ (pc : Nat) (L : List (Option Value)), narrow .boolean (.int (wI (v.1))) = .int (wI (v.1)) → decode cX9_turnsAt pc = .ok (.ireturn, 1) → GG E 0 0 (W_X9_turnsAt (eCy E) a_t a_t_has a_t_part a_t_speed g_t_0 g_t_1 g_t_2 g_t_3 g_t_4 g_t_5 g_t_6 g_t_7 g_t_8 g_t_9 g_t_10 g_t_11 g_t_12 g_t_13 g_t_14 g_t_15 g_t_16 g_t_19 g_t_20 g_t_21 g_t_22 g_t_26 g_t_27 g_t_28 g_t_29 g_t_30 g_t_31 g_t_32 g_t_33 g_t_34 g_t_35 g_t_36 g_t_37 g_t_38 g_t_39 g_t_40 g_t_41 g_t_42 g_t_43 (v.2.1) (v.2.2) c_has c_part c_speed) L pc [.int (wI (v.1))]) : GG E 0 0 (W_X9_turnsAt (eCy E) a_t a_t_has a_t_part a_t_speed g_t_0 g_t_1 g_t_2 g_t_3 g_t_4 g_t_5 g_t_6 g_t_7 g_t_8 g_t_9 g_t_10 g_t_11 g_t_12 g_t_13 g_t_14 g_t_15 g_t_16 g_t_19 g_t_20 g_t_21 g_t_22 g_t_26 g_t_27 g_t_28 g_t_29 g_t_30 g_t_31 g_t_32 g_t_33 g_t_34 g_t_35 g_t_36 g_t_37 g_t_38 g_t_39 g_t_40 g_t_41 g_t_42 g_t_43 c_above c_below c_has c_part c_speed) [some (.ref a_t), some (.int (wI x1)), some (.int (wI x2)), none, some (.int (wI x4)), some (.int (wI x5)), some (.long (wJ x6)), none, some (.long (wJ x8)), none, some (.int (wI x10)), none, none, none, none, none, none, none, none, none] 182 [] := by
  unfold mb_X9_turnsAt_182 at h
  refine g_aload_n 0 C dX9_turnsAt_182 rfl rfl ?_
  refine g_get C fg_X9_246 0 rfl rfl dX9_turnsAt_183 ?_
  refine g_st (st' := [.long (wJ c_above)]) rfl ?_
  refine g_lstore C hN dX9_turnsAt_186 rfl (L' := [some (.ref a_t), some (.int (wI x1)), some (.int (wI x2)), none, some (.int (wI x4)), some (.int (wI x5)), some (.long (wJ x6)), none, some (.long (wJ x8)), none, some (.int (wI x10)), none, some (.long (wJ c_above)), none, none, none, none, none, none, none]) rfl ?_
  refine g_aload_n 0 C dX9_turnsAt_188 rfl rfl ?_
  refine g_get C fg_X9_243 0 rfl rfl dX9_turnsAt_189 ?_
  refine g_st (st' := [.long (wJ c_below)]) rfl ?_
  refine g_lstore C hN dX9_turnsAt_192 rfl (L' := [some (.ref a_t), some (.int (wI x1)), some (.int (wI x2)), none, some (.int (wI x4)), some (.int (wI x5)), some (.long (wJ x6)), none, some (.long (wJ x8)), none, some (.int (wI x10)), none, some (.long (wJ c_above)), none, some (.long (wJ c_below)), none, none, none, none, none]) rfl ?_
  refine g_iload C dX9_turnsAt_194 rfl ?_
  refine g_aload_n 0 C dX9_turnsAt_196 rfl rfl ?_
  refine g_get C fg_X9_34 0 rfl rfl dX9_turnsAt_197 ?_
  refine g_iconst C dX9_turnsAt_200 ?_
  refine g_iald C 1 rfl (by decide) rfl dX9_turnsAt_201 ?_
  refine g_icmp_ne 241 C dX9_turnsAt_202 (by decide) h (fun h => ?_) (fun h => ?_)
  · refine g_iload_n 1 C dX9_turnsAt_241 rfl rfl ?_
    refine g_aload_n 0 C dX9_turnsAt_242 rfl rfl ?_
    refine g_get C fg_X9_53 0 rfl rfl dX9_turnsAt_243 ?_
    refine g_iload C dX9_turnsAt_246 rfl ?_
    obtain ⟨hc1, h⟩ := chk_some h
    refine g_iald C 3 rfl hc1 rfl dX9_turnsAt_248 ?_
    refine g_iadd C dX9_turnsAt_249 ?_
    obtain ⟨y2, e_y2, h⟩ := nam_some h
    refine g_topI e_y2 ?_
    refine g_istore C hN dX9_turnsAt_250 rfl (L' := [some (.ref a_t), some (.int (wI x1)), some (.int (wI x2)), none, some (.int (wI x4)), some (.int (wI x5)), some (.long (wJ x6)), none, some (.long (wJ x8)), none, some (.int (wI x10)), none, some (.long (wJ c_above)), none, some (.long (wJ c_below)), none, some (.int (wI y2)), none, none, none]) rfl ?_
    refine g_iload C dX9_turnsAt_252 rfl ?_
    refine g_if_gt 259 C dX9_turnsAt_254 (by decide) h (fun h => ?_) (fun h => ?_)
    · refine g_aload_n 0 C dX9_turnsAt_259 rfl rfl ?_
      obtain ⟨o3, o4, hr5, h⟩ := bnd2_some h
      refine g_callV [0] [1, 2, 3] [3, 0, 1, 2] C mt_X9_253 (c_X9_zero _ _ _ _ a_t (g_t_0) (g_t_1) (g_t_2) (g_t_3) (g_t_4) (g_t_5) (g_t_6) (g_t_7) (g_t_8) (g_t_9) (g_t_10) (g_t_11) (g_t_12) (g_t_13) (g_t_14) (g_t_15) (g_t_16) (.ref a_t_has) (.ref a_t_part) (g_t_19) (g_t_20) (g_t_21) (g_t_22) (.ref a_t_speed) (g_t_26) (g_t_27) (g_t_28) (g_t_29) (g_t_30) (g_t_31) (g_t_32) (g_t_33) (g_t_34) (g_t_35) (g_t_36) (g_t_37) (g_t_38) (g_t_39) (g_t_40) (g_t_41) (g_t_42) (g_t_43) c_above c_below F hr5) (q0 := 0) rfl (ci := 9) rfl rfl rfl (ws2 := (W_X9_turnsAt (eCy E) a_t a_t_has a_t_part a_t_speed g_t_0 g_t_1 g_t_2 g_t_3 g_t_4 g_t_5 g_t_6 g_t_7 g_t_8 g_t_9 g_t_10 g_t_11 g_t_12 g_t_13 g_t_14 g_t_15 g_t_16 g_t_19 g_t_20 g_t_21 g_t_22 g_t_26 g_t_27 g_t_28 g_t_29 g_t_30 g_t_31 g_t_32 g_t_33 g_t_34 g_t_35 g_t_36 g_t_37 g_t_38 g_t_39 g_t_40 g_t_41 g_t_42 g_t_43 o3 o4 c_has c_part c_speed)) rfl rfl rfl (rest := []) rfl rfl rfl dX9_turnsAt_260 ?_
      refine g_aload_n 0 C dX9_turnsAt_263 rfl rfl ?_
      refine g_aload_n 0 C dX9_turnsAt_264 rfl rfl ?_
      refine g_iload C dX9_turnsAt_265 rfl ?_
      obtain ⟨r6, hr7, h⟩ := bnd1_some h
      refine g_callI [0, 2] [1, 3] [2, 0, 3, 1] C mt_X9_233 (c_X9_stepsOf _ _ _ _ a_t a_t_part (g_t_0) (g_t_1) (g_t_2) (g_t_3) (g_t_4) (g_t_5) (g_t_6) (g_t_7) (g_t_8) (g_t_9) (g_t_10) (g_t_11) (g_t_12) (g_t_13) (g_t_14) (g_t_15) (g_t_16) (.ref a_t_has) (g_t_19) (g_t_20) (g_t_21) (g_t_22) (.ref a_t_speed) (.long (wJ o3)) (.long (wJ o4)) (g_t_26) (g_t_27) (g_t_28) (g_t_29) (g_t_30) (g_t_31) (g_t_32) (g_t_33) (g_t_34) (g_t_35) (g_t_36) (g_t_37) (g_t_38) (g_t_39) (g_t_40) (g_t_41) (g_t_42) (g_t_43) x10 c_part F hr7) (q0 := 0) rfl (ci := 9) rfl rfl rfl (ws2 := (W_X9_turnsAt (eCy E) a_t a_t_has a_t_part a_t_speed g_t_0 g_t_1 g_t_2 g_t_3 g_t_4 g_t_5 g_t_6 g_t_7 g_t_8 g_t_9 g_t_10 g_t_11 g_t_12 g_t_13 g_t_14 g_t_15 g_t_16 g_t_19 g_t_20 g_t_21 g_t_22 g_t_26 g_t_27 g_t_28 g_t_29 g_t_30 g_t_31 g_t_32 g_t_33 g_t_34 g_t_35 g_t_36 g_t_37 g_t_38 g_t_39 g_t_40 g_t_41 g_t_42 g_t_43 o3 o4 c_has c_part c_speed)) rfl rfl rfl (rest := [.ref a_t]) rfl rfl rfl dX9_turnsAt_267 ?_
      obtain ⟨hc8, h⟩ := chk_some h
      refine g_i2l C dX9_turnsAt_270 hc8 ?_
      refine g_iload C dX9_turnsAt_271 rfl ?_
      obtain ⟨hc9, h⟩ := chk_some h
      refine g_i2l C dX9_turnsAt_273 hc9 ?_
      obtain ⟨o10, o11, hr12, h⟩ := bnd2_some h
      refine g_callV [0] [1, 2, 3] [3, 0, 1, 2] C mt_X9_256 (c_X9_adds _ _ _ _ a_t (g_t_0) (g_t_1) (g_t_2) (g_t_3) (g_t_4) (g_t_5) (g_t_6) (g_t_7) (g_t_8) (g_t_9) (g_t_10) (g_t_11) (g_t_12) (g_t_13) (g_t_14) (g_t_15) (g_t_16) (.ref a_t_has) (.ref a_t_part) (g_t_19) (g_t_20) (g_t_21) (g_t_22) (.ref a_t_speed) (g_t_26) (g_t_27) (g_t_28) (g_t_29) (g_t_30) (g_t_31) (g_t_32) (g_t_33) (g_t_34) (g_t_35) (g_t_36) (g_t_37) (g_t_38) (g_t_39) (g_t_40) (g_t_41) (g_t_42) (g_t_43) r6 y2 o3 o4 F hr12) (q0 := 0) rfl (ci := 9) rfl rfl rfl (ws2 := (W_X9_turnsAt (eCy E) a_t a_t_has a_t_part a_t_speed g_t_0 g_t_1 g_t_2 g_t_3 g_t_4 g_t_5 g_t_6 g_t_7 g_t_8 g_t_9 g_t_10 g_t_11 g_t_12 g_t_13 g_t_14 g_t_15 g_t_16 g_t_19 g_t_20 g_t_21 g_t_22 g_t_26 g_t_27 g_t_28 g_t_29 g_t_30 g_t_31 g_t_32 g_t_33 g_t_34 g_t_35 g_t_36 g_t_37 g_t_38 g_t_39 g_t_40 g_t_41 g_t_42 g_t_43 o10 o11 c_has c_part c_speed)) rfl rfl rfl (rest := []) rfl rfl rfl dX9_turnsAt_274 ?_
      refine g_iload_n 2 C dX9_turnsAt_277 rfl rfl ?_
      refine g_aload_n 0 C dX9_turnsAt_278 rfl rfl ?_
      refine g_get C fg_X9_53 0 rfl rfl dX9_turnsAt_279 ?_
      refine g_iload C dX9_turnsAt_282 rfl ?_
      obtain ⟨hc13, h⟩ := chk_some h
      refine g_iald C 3 rfl hc13 rfl dX9_turnsAt_284 ?_
      refine g_iadd C dX9_turnsAt_285 ?_
      obtain ⟨y14, e_y14, h⟩ := nam_some h
      refine g_topI e_y14 ?_
      refine g_istore C hN dX9_turnsAt_286 rfl (L' := [some (.ref a_t), some (.int (wI x1)), some (.int (wI x2)), none, some (.int (wI x4)), some (.int (wI x5)), some (.long (wJ x6)), none, some (.long (wJ x8)), none, some (.int (wI x10)), none, some (.long (wJ c_above)), none, some (.long (wJ c_below)), none, some (.int (wI y2)), some (.int (wI y14)), none, none]) rfl ?_
      refine g_iload C dX9_turnsAt_288 rfl ?_
      refine g_if_le 317 C dX9_turnsAt_290 (by decide) h (fun h => ?_) (fun h => ?_)
      · refine g_mask [true, true, false, false, true, false, true, false, true, false, true, false, false, false, false, false, false, false, false, false] (L' := [some (.ref a_t), some (.int (wI x1)), none, none, some (.int (wI x4)), none, some (.long (wJ x6)), none, some (.long (wJ x8)), none, some (.int (wI x10)), none, none, none, none, none, none, none, none, none]) rfl ?_
        exact wb_X9_turnsAt_317 C hN h hret
      · refine g_lload C dX9_turnsAt_293 rfl ?_
        refine g_lconst (x := 0) C dX9_turnsAt_295 (by decide) ?_
        refine g_lcmp_le 317 C dX9_turnsAt_296 dX9_turnsAt_297 (by decide) h (fun h => ?_) (fun h => ?_)
        · refine g_mask [true, true, false, false, true, false, true, false, true, false, true, false, false, false, false, false, false, false, false, false] (L' := [some (.ref a_t), some (.int (wI x1)), none, none, some (.int (wI x4)), none, some (.long (wJ x6)), none, some (.long (wJ x8)), none, some (.int (wI x10)), none, none, none, none, none, none, none, none, none]) rfl ?_
          exact wb_X9_turnsAt_317 C hN h hret
        · refine g_aload_n 0 C dX9_turnsAt_300 rfl rfl ?_
          refine g_lload C dX9_turnsAt_301 rfl ?_
          refine g_lneg C dX9_turnsAt_303 ?_
          refine g_iload C dX9_turnsAt_304 rfl ?_
          obtain ⟨hc15, h⟩ := chk_some h
          refine g_i2l C dX9_turnsAt_306 hc15 ?_
          refine g_lmul C dX9_turnsAt_307 ?_
          refine g_lload C dX9_turnsAt_308 rfl ?_
          refine g_iload C dX9_turnsAt_310 rfl ?_
          obtain ⟨hc16, h⟩ := chk_some h
          refine g_i2l C dX9_turnsAt_312 hc16 ?_
          refine g_lmul C dX9_turnsAt_313 ?_
          obtain ⟨o17, o18, hr19, h⟩ := bnd2_some h
          refine g_callV [0] [1, 2, 3] [3, 0, 1, 2] C mt_X9_256 (c_X9_adds _ _ _ _ a_t (g_t_0) (g_t_1) (g_t_2) (g_t_3) (g_t_4) (g_t_5) (g_t_6) (g_t_7) (g_t_8) (g_t_9) (g_t_10) (g_t_11) (g_t_12) (g_t_13) (g_t_14) (g_t_15) (g_t_16) (.ref a_t_has) (.ref a_t_part) (g_t_19) (g_t_20) (g_t_21) (g_t_22) (.ref a_t_speed) (g_t_26) (g_t_27) (g_t_28) (g_t_29) (g_t_30) (g_t_31) (g_t_32) (g_t_33) (g_t_34) (g_t_35) (g_t_36) (g_t_37) (g_t_38) (g_t_39) (g_t_40) (g_t_41) (g_t_42) (g_t_43) ((-c_above) * y14) (c_below * y2) o10 o11 F hr19) (q0 := 0) rfl (ci := 9) rfl rfl rfl (ws2 := (W_X9_turnsAt (eCy E) a_t a_t_has a_t_part a_t_speed g_t_0 g_t_1 g_t_2 g_t_3 g_t_4 g_t_5 g_t_6 g_t_7 g_t_8 g_t_9 g_t_10 g_t_11 g_t_12 g_t_13 g_t_14 g_t_15 g_t_16 g_t_19 g_t_20 g_t_21 g_t_22 g_t_26 g_t_27 g_t_28 g_t_29 g_t_30 g_t_31 g_t_32 g_t_33 g_t_34 g_t_35 g_t_36 g_t_37 g_t_38 g_t_39 g_t_40 g_t_41 g_t_42 g_t_43 o17 o18 c_has c_part c_speed)) rfl rfl rfl (rest := []) rfl rfl rfl dX9_turnsAt_314 ?_
          refine g_mask [true, true, false, false, true, false, true, false, true, false, true, false, false, false, false, false, false, false, false, false] (L' := [some (.ref a_t), some (.int (wI x1)), none, none, some (.int (wI x4)), none, some (.long (wJ x6)), none, some (.long (wJ x8)), none, some (.int (wI x10)), none, none, none, none, none, none, none, none, none]) rfl ?_
          exact wb_X9_turnsAt_317 C hN h hret
    · refine g_iconst C dX9_turnsAt_257 ?_
      cases h
      exact hret 258 _ bn0 dX9_turnsAt_258
  · refine g_aload_n 0 C dX9_turnsAt_205 rfl rfl ?_
    refine g_lload C dX9_turnsAt_206 rfl ?_
    refine g_putJ C fp_X9_246 0 rfl rfl (ws' := (W_X9_turnsAt (eCy E) a_t a_t_has a_t_part a_t_speed g_t_0 g_t_1 g_t_2 g_t_3 g_t_4 g_t_5 g_t_6 g_t_7 g_t_8 g_t_9 g_t_10 g_t_11 g_t_12 g_t_13 g_t_14 g_t_15 g_t_16 g_t_19 g_t_20 g_t_21 g_t_22 g_t_26 g_t_27 g_t_28 g_t_29 g_t_30 g_t_31 g_t_32 g_t_33 g_t_34 g_t_35 g_t_36 g_t_37 g_t_38 g_t_39 g_t_40 g_t_41 g_t_42 g_t_43 x6 c_below c_has c_part c_speed)) rfl dX9_turnsAt_208 ?_
    refine g_aload_n 0 C dX9_turnsAt_211 rfl rfl ?_
    refine g_lload C dX9_turnsAt_212 rfl ?_
    refine g_putJ C fp_X9_243 0 rfl rfl (ws' := (W_X9_turnsAt (eCy E) a_t a_t_has a_t_part a_t_speed g_t_0 g_t_1 g_t_2 g_t_3 g_t_4 g_t_5 g_t_6 g_t_7 g_t_8 g_t_9 g_t_10 g_t_11 g_t_12 g_t_13 g_t_14 g_t_15 g_t_16 g_t_19 g_t_20 g_t_21 g_t_22 g_t_26 g_t_27 g_t_28 g_t_29 g_t_30 g_t_31 g_t_32 g_t_33 g_t_34 g_t_35 g_t_36 g_t_37 g_t_38 g_t_39 g_t_40 g_t_41 g_t_42 g_t_43 x6 x8 c_has c_part c_speed)) rfl dX9_turnsAt_214 ?_
    refine g_aload_n 0 C dX9_turnsAt_217 rfl rfl ?_
    refine g_iload C dX9_turnsAt_218 rfl ?_
    obtain ⟨hc1, h⟩ := chk_some h
    refine g_i2l C dX9_turnsAt_220 hc1 ?_
    refine g_lconst (x := 1) C dX9_turnsAt_221 (by decide) ?_
    obtain ⟨o2, o3, hr4, h⟩ := bnd2_some h
    refine g_callV [0] [1, 2, 3] [3, 0, 1, 2] C mt_X9_256 (c_X9_adds _ _ _ _ a_t (g_t_0) (g_t_1) (g_t_2) (g_t_3) (g_t_4) (g_t_5) (g_t_6) (g_t_7) (g_t_8) (g_t_9) (g_t_10) (g_t_11) (g_t_12) (g_t_13) (g_t_14) (g_t_15) (g_t_16) (.ref a_t_has) (.ref a_t_part) (g_t_19) (g_t_20) (g_t_21) (g_t_22) (.ref a_t_speed) (g_t_26) (g_t_27) (g_t_28) (g_t_29) (g_t_30) (g_t_31) (g_t_32) (g_t_33) (g_t_34) (g_t_35) (g_t_36) (g_t_37) (g_t_38) (g_t_39) (g_t_40) (g_t_41) (g_t_42) (g_t_43) x4 1 x6 x8 F hr4) (q0 := 0) rfl (ci := 9) rfl rfl rfl (ws2 := (W_X9_turnsAt (eCy E) a_t a_t_has a_t_part a_t_speed g_t_0 g_t_1 g_t_2 g_t_3 g_t_4 g_t_5 g_t_6 g_t_7 g_t_8 g_t_9 g_t_10 g_t_11 g_t_12 g_t_13 g_t_14 g_t_15 g_t_16 g_t_19 g_t_20 g_t_21 g_t_22 g_t_26 g_t_27 g_t_28 g_t_29 g_t_30 g_t_31 g_t_32 g_t_33 g_t_34 g_t_35 g_t_36 g_t_37 g_t_38 g_t_39 g_t_40 g_t_41 g_t_42 g_t_43 o2 o3 c_has c_part c_speed)) rfl rfl rfl (rest := []) rfl rfl rfl dX9_turnsAt_222 ?_
    refine g_iload C dX9_turnsAt_225 rfl ?_
    refine g_if_ne 239 C dX9_turnsAt_227 (by decide) h (fun h => ?_) (fun h => ?_)
    · refine g_iconst C dX9_turnsAt_239 ?_
      cases h
      exact hret 240 _ bn1 dX9_turnsAt_240
    · refine g_aload_n 0 C dX9_turnsAt_230 rfl rfl ?_
      refine g_lload C dX9_turnsAt_231 rfl ?_
      refine g_lneg C dX9_turnsAt_233 ?_
      refine g_lload C dX9_turnsAt_234 rfl ?_
      obtain ⟨o5, o6, hr7, h⟩ := bnd2_some h
      refine g_callV [0] [1, 2, 3] [3, 0, 1, 2] C mt_X9_256 (c_X9_adds _ _ _ _ a_t (g_t_0) (g_t_1) (g_t_2) (g_t_3) (g_t_4) (g_t_5) (g_t_6) (g_t_7) (g_t_8) (g_t_9) (g_t_10) (g_t_11) (g_t_12) (g_t_13) (g_t_14) (g_t_15) (g_t_16) (.ref a_t_has) (.ref a_t_part) (g_t_19) (g_t_20) (g_t_21) (g_t_22) (.ref a_t_speed) (g_t_26) (g_t_27) (g_t_28) (g_t_29) (g_t_30) (g_t_31) (g_t_32) (g_t_33) (g_t_34) (g_t_35) (g_t_36) (g_t_37) (g_t_38) (g_t_39) (g_t_40) (g_t_41) (g_t_42) (g_t_43) (-c_above) c_below o2 o3 F hr7) (q0 := 0) rfl (ci := 9) rfl rfl rfl (ws2 := (W_X9_turnsAt (eCy E) a_t a_t_has a_t_part a_t_speed g_t_0 g_t_1 g_t_2 g_t_3 g_t_4 g_t_5 g_t_6 g_t_7 g_t_8 g_t_9 g_t_10 g_t_11 g_t_12 g_t_13 g_t_14 g_t_15 g_t_16 g_t_19 g_t_20 g_t_21 g_t_22 g_t_26 g_t_27 g_t_28 g_t_29 g_t_30 g_t_31 g_t_32 g_t_33 g_t_34 g_t_35 g_t_36 g_t_37 g_t_38 g_t_39 g_t_40 g_t_41 g_t_42 g_t_43 o5 o6 c_has c_part c_speed)) rfl rfl rfl (rest := []) rfl rfl rfl dX9_turnsAt_236 ?_
      refine g_iconst C dX9_turnsAt_239 ?_
      cases h
      exact hret 240 _ bn1 dX9_turnsAt_240
set_option maxRecDepth 100000 in
set_option maxHeartbeats 4000000 in
theorem wb_X9_turnsAt_81 {F : Nat} {k81 : Int → Int → Int → Int → Option (Int × Int × Int)} {v : Int × Int × Int} {x1 : Int} {x2 : Int} {x4 : Int} {x5 : Int} {x6 : Int} {x8 : Int} {x10 : Int} {x11 : Int} {c_above : Int} {c_below : Int} {c_has : Int → Int} {c_part : Int → Int} {c_speed : Int → Int} (C : Cx E cX9_turnsAt RX9 { frames := 202, cells := 0, slots := 0, locals := 6231 }) (hN : eN E = 20) (h : mb_X9_turnsAt_81 F k81 x1 x2 x4 x5 x6 x8 x10 x11 c_above c_below c_has c_part c_speed = some v) (hk81 : ∀ (y_x10 : Int) (y_x11 : Int) (y_c_above : Int) (y_c_below : Int), k81 y_x10 y_x11 y_c_above y_c_below = some v → GG E 0 0 (W_X9_turnsAt (eCy E) a_t a_t_has a_t_part a_t_speed g_t_0 g_t_1 g_t_2 g_t_3 g_t_4 g_t_5 g_t_6 g_t_7 g_t_8 g_t_9 g_t_10 g_t_11 g_t_12 g_t_13 g_t_14 g_t_15 g_t_16 g_t_19 g_t_20 g_t_21 g_t_22 g_t_26 g_t_27 g_t_28 g_t_29 g_t_30 g_t_31 g_t_32 g_t_33 g_t_34 g_t_35 g_t_36 g_t_37 g_t_38 g_t_39 g_t_40 g_t_41 g_t_42 g_t_43 y_c_above y_c_below c_has c_part c_speed) [some (.ref a_t), some (.int (wI x1)), some (.int (wI x2)), none, some (.int (wI x4)), some (.int (wI x5)), some (.long (wJ x6)), none, some (.long (wJ x8)), none, some (.int (wI y_x10)), some (.int (wI y_x11)), none, none, none, none, none, none, none, none] 81 []) (hret : ∀ (pc : Nat) (L : List (Option Value)), narrow .boolean (.int (wI (v.1))) = .int (wI (v.1)) → decode cX9_turnsAt pc = .ok (.ireturn, 1) → GG E 0 0 (W_X9_turnsAt (eCy E) a_t a_t_has a_t_part a_t_speed g_t_0 g_t_1 g_t_2 g_t_3 g_t_4 g_t_5 g_t_6 g_t_7 g_t_8 g_t_9 g_t_10 g_t_11 g_t_12 g_t_13 g_t_14 g_t_15 g_t_16 g_t_19 g_t_20 g_t_21 g_t_22 g_t_26 g_t_27 g_t_28 g_t_29 g_t_30 g_t_31 g_t_32 g_t_33 g_t_34 g_t_35 g_t_36 g_t_37 g_t_38 g_t_39 g_t_40 g_t_41 g_t_42 g_t_43 (v.2.1) (v.2.2) c_has c_part c_speed) L pc [.int (wI (v.1))]) : GG E 0 0 (W_X9_turnsAt (eCy E) a_t a_t_has a_t_part a_t_speed g_t_0 g_t_1 g_t_2 g_t_3 g_t_4 g_t_5 g_t_6 g_t_7 g_t_8 g_t_9 g_t_10 g_t_11 g_t_12 g_t_13 g_t_14 g_t_15 g_t_16 g_t_19 g_t_20 g_t_21 g_t_22 g_t_26 g_t_27 g_t_28 g_t_29 g_t_30 g_t_31 g_t_32 g_t_33 g_t_34 g_t_35 g_t_36 g_t_37 g_t_38 g_t_39 g_t_40 g_t_41 g_t_42 g_t_43 c_above c_below c_has c_part c_speed) [some (.ref a_t), some (.int (wI x1)), some (.int (wI x2)), none, some (.int (wI x4)), some (.int (wI x5)), some (.long (wJ x6)), none, some (.long (wJ x8)), none, some (.int (wI x10)), some (.int (wI x11)), none, none, none, none, none, none, none, none] 81 [] := by
  unfold mb_X9_turnsAt_81 at h
  refine g_iload C dX9_turnsAt_81 rfl ?_
  refine g_aload_n 0 C dX9_turnsAt_83 rfl rfl ?_
  refine g_get C fg_X9_34 0 rfl rfl dX9_turnsAt_84 ?_
  refine g_iconst C dX9_turnsAt_87 ?_
  refine g_iald C 1 rfl (by decide) rfl dX9_turnsAt_88 ?_
  refine g_icmp_ge 182 C dX9_turnsAt_89 (by decide) h (fun h => ?_) (fun h => ?_)
  · refine g_mask [true, true, true, false, true, true, true, false, true, false, true, false, false, false, false, false, false, false, false, false] (L' := [some (.ref a_t), some (.int (wI x1)), some (.int (wI x2)), none, some (.int (wI x4)), some (.int (wI x5)), some (.long (wJ x6)), none, some (.long (wJ x8)), none, some (.int (wI x10)), none, none, none, none, none, none, none, none, none]) rfl ?_
    exact wb_X9_turnsAt_182 C hN h hret
  · refine g_aload_n 0 C dX9_turnsAt_92 rfl rfl ?_
    refine g_get C fg_X9_246 0 rfl rfl dX9_turnsAt_93 ?_
    refine g_st (st' := [.long (wJ c_above)]) rfl ?_
    refine g_lconst (x := 0) C dX9_turnsAt_96 (by decide) ?_
    refine g_lcmp_le 182 C dX9_turnsAt_97 dX9_turnsAt_98 (by decide) h (fun h => ?_) (fun h => ?_)
    · refine g_mask [true, true, true, false, true, true, true, false, true, false, true, false, false, false, false, false, false, false, false, false] (L' := [some (.ref a_t), some (.int (wI x1)), some (.int (wI x2)), none, some (.int (wI x4)), some (.int (wI x5)), some (.long (wJ x6)), none, some (.long (wJ x8)), none, some (.int (wI x10)), none, none, none, none, none, none, none, none, none]) rfl ?_
      exact wb_X9_turnsAt_182 C hN h hret
    · refine g_iload C dX9_turnsAt_101 rfl ?_
      refine g_if_ne 182 C dX9_turnsAt_103 (by decide) h (fun h => ?_) (fun h => ?_)
      · refine g_mask [true, true, true, false, true, true, true, false, true, false, true, false, false, false, false, false, false, false, false, false] (L' := [some (.ref a_t), some (.int (wI x1)), some (.int (wI x2)), none, some (.int (wI x4)), some (.int (wI x5)), some (.long (wJ x6)), none, some (.long (wJ x8)), none, some (.int (wI x10)), none, none, none, none, none, none, none, none, none]) rfl ?_
        exact wb_X9_turnsAt_182 C hN h hret
      · refine g_iload_n 2 C dX9_turnsAt_106 rfl rfl ?_
        refine g_aload_n 0 C dX9_turnsAt_107 rfl rfl ?_
        refine g_get C fg_X9_53 0 rfl rfl dX9_turnsAt_108 ?_
        refine g_iload C dX9_turnsAt_111 rfl ?_
        obtain ⟨hc1, h⟩ := chk_some h
        refine g_iald C 3 rfl hc1 rfl dX9_turnsAt_113 ?_
        refine g_iadd C dX9_turnsAt_114 ?_
        obtain ⟨y2, e_y2, h⟩ := nam_some h
        refine g_topI e_y2 ?_
        refine g_istore C hN dX9_turnsAt_115 rfl (L' := [some (.ref a_t), some (.int (wI x1)), some (.int (wI x2)), none, some (.int (wI x4)), some (.int (wI x5)), some (.long (wJ x6)), none, some (.long (wJ x8)), none, some (.int (wI x10)), some (.int (wI x11)), some (.int (wI y2)), none, none, none, none, none, none, none]) rfl ?_
        refine g_iload C dX9_turnsAt_117 rfl ?_
        refine g_if_le 146 C dX9_turnsAt_119 (by decide) h (fun h => ?_) (fun h => ?_)
        · refine g_mask [true, true, true, false, true, true, true, false, true, false, true, false, true, false, false, false, false, false, false, false] (L' := [some (.ref a_t), some (.int (wI x1)), some (.int (wI x2)), none, some (.int (wI x4)), some (.int (wI x5)), some (.long (wJ x6)), none, some (.long (wJ x8)), none, some (.int (wI x10)), none, some (.int (wI y2)), none, none, none, none, none, none, none]) rfl ?_
          exact wb_X9_turnsAt_146 C hN h hk81 hret
        · refine g_aload_n 0 C dX9_turnsAt_122 rfl rfl ?_
          refine g_get C fg_X9_246 0 rfl rfl dX9_turnsAt_123 ?_
          refine g_st (st' := [.long (wJ c_above)]) rfl ?_
          refine g_aload_n 0 C dX9_turnsAt_126 rfl rfl ?_
          refine g_get C fg_X9_243 0 rfl rfl dX9_turnsAt_127 ?_
          refine g_st (st' := [.long (wJ c_below), .long (wJ c_above)]) rfl ?_
          refine g_aload_n 0 C dX9_turnsAt_130 rfl rfl ?_
          refine g_iload C dX9_turnsAt_131 rfl ?_
          obtain ⟨r3, hr4, h⟩ := bnd1_some h
          refine g_callI [0, 2] [1, 3] [2, 0, 3, 1] C mt_X9_233 (c_X9_stepsOf _ _ _ _ a_t a_t_part (g_t_0) (g_t_1) (g_t_2) (g_t_3) (g_t_4) (g_t_5) (g_t_6) (g_t_7) (g_t_8) (g_t_9) (g_t_10) (g_t_11) (g_t_12) (g_t_13) (g_t_14) (g_t_15) (g_t_16) (.ref a_t_has) (g_t_19) (g_t_20) (g_t_21) (g_t_22) (.ref a_t_speed) (.long (wJ c_above)) (.long (wJ c_below)) (g_t_26) (g_t_27) (g_t_28) (g_t_29) (g_t_30) (g_t_31) (g_t_32) (g_t_33) (g_t_34) (g_t_35) (g_t_36) (g_t_37) (g_t_38) (g_t_39) (g_t_40) (g_t_41) (g_t_42) (g_t_43) x10 c_part F hr4) (q0 := 0) rfl (ci := 9) rfl rfl rfl (ws2 := (W_X9_turnsAt (eCy E) a_t a_t_has a_t_part a_t_speed g_t_0 g_t_1 g_t_2 g_t_3 g_t_4 g_t_5 g_t_6 g_t_7 g_t_8 g_t_9 g_t_10 g_t_11 g_t_12 g_t_13 g_t_14 g_t_15 g_t_16 g_t_19 g_t_20 g_t_21 g_t_22 g_t_26 g_t_27 g_t_28 g_t_29 g_t_30 g_t_31 g_t_32 g_t_33 g_t_34 g_t_35 g_t_36 g_t_37 g_t_38 g_t_39 g_t_40 g_t_41 g_t_42 g_t_43 c_above c_below c_has c_part c_speed)) rfl rfl rfl (rest := [.long (wJ c_below), .long (wJ c_above)]) rfl rfl rfl dX9_turnsAt_133 ?_
          obtain ⟨hc5, h⟩ := chk_some h
          refine g_i2l C dX9_turnsAt_136 hc5 ?_
          refine g_iload C dX9_turnsAt_137 rfl ?_
          obtain ⟨hc6, h⟩ := chk_some h
          refine g_i2l C dX9_turnsAt_139 hc6 ?_
          obtain ⟨r7, hr8, h⟩ := bnd1_some h
          refine g_callSI [] [0, 1, 2, 3] [0, 1, 2, 3] C mt_X9_249 (c_X9_isLess _ _ _ _ c_above c_below r3 y2 F hr8) rfl rfl (ws2 := (W_X9_turnsAt (eCy E) a_t a_t_has a_t_part a_t_speed g_t_0 g_t_1 g_t_2 g_t_3 g_t_4 g_t_5 g_t_6 g_t_7 g_t_8 g_t_9 g_t_10 g_t_11 g_t_12 g_t_13 g_t_14 g_t_15 g_t_16 g_t_19 g_t_20 g_t_21 g_t_22 g_t_26 g_t_27 g_t_28 g_t_29 g_t_30 g_t_31 g_t_32 g_t_33 g_t_34 g_t_35 g_t_36 g_t_37 g_t_38 g_t_39 g_t_40 g_t_41 g_t_42 g_t_43 c_above c_below c_has c_part c_speed)) rfl rfl rfl (rest := []) rfl rfl rfl dX9_turnsAt_140 ?_
          refine g_if_eq 150 C dX9_turnsAt_143 (by decide) h (fun h => ?_) (fun h => ?_)
          · refine g_iconst C dX9_turnsAt_150 ?_
            refine g_mask [true, true, true, false, true, true, true, false, true, false, true, false, true, false, false, false, false, false, false, false] (L' := [some (.ref a_t), some (.int (wI x1)), some (.int (wI x2)), none, some (.int (wI x4)), some (.int (wI x5)), some (.long (wJ x6)), none, some (.long (wJ x8)), none, some (.int (wI x10)), none, some (.int (wI y2)), none, none, none, none, none, none, none]) rfl ?_
            exact wb_X9_turnsAt_151 C hN h hk81 hret
          · refine g_mask [true, true, true, false, true, true, true, false, true, false, true, false, true, false, false, false, false, false, false, false] (L' := [some (.ref a_t), some (.int (wI x1)), some (.int (wI x2)), none, some (.int (wI x4)), some (.int (wI x5)), some (.long (wJ x6)), none, some (.long (wJ x8)), none, some (.int (wI x10)), none, some (.int (wI y2)), none, none, none, none, none, none, none]) rfl ?_
            exact wb_X9_turnsAt_146 C hN h hk81 hret
set_option maxRecDepth 100000 in
set_option maxHeartbeats 4000000 in
theorem wl_X9_turnsAt_81 {F : Nat} {v : Int × Int × Int} {x1 : Int} {x2 : Int} {x4 : Int} {x5 : Int} {x6 : Int} {x8 : Int} {x10 : Int} {x11 : Int} {c_above : Int} {c_below : Int} {c_has : Int → Int} {c_part : Int → Int} {c_speed : Int → Int} (C : Cx E cX9_turnsAt RX9 { frames := 202, cells := 0, slots := 0, locals := 6231 }) (hN : eN E = 20) (h : ml_X9_turnsAt_81 F x1 x2 x4 x5 x6 x8 x10 x11 c_above c_below c_has c_part c_speed = some v) (hret : ∀ (pc : Nat) (L : List (Option Value)), narrow .boolean (.int (wI (v.1))) = .int (wI (v.1)) → decode cX9_turnsAt pc = .ok (.ireturn, 1) → GG E 0 0 (W_X9_turnsAt (eCy E) a_t a_t_has a_t_part a_t_speed g_t_0 g_t_1 g_t_2 g_t_3 g_t_4 g_t_5 g_t_6 g_t_7 g_t_8 g_t_9 g_t_10 g_t_11 g_t_12 g_t_13 g_t_14 g_t_15 g_t_16 g_t_19 g_t_20 g_t_21 g_t_22 g_t_26 g_t_27 g_t_28 g_t_29 g_t_30 g_t_31 g_t_32 g_t_33 g_t_34 g_t_35 g_t_36 g_t_37 g_t_38 g_t_39 g_t_40 g_t_41 g_t_42 g_t_43 (v.2.1) (v.2.2) c_has c_part c_speed) L pc [.int (wI (v.1))]) : GG E 0 0 (W_X9_turnsAt (eCy E) a_t a_t_has a_t_part a_t_speed g_t_0 g_t_1 g_t_2 g_t_3 g_t_4 g_t_5 g_t_6 g_t_7 g_t_8 g_t_9 g_t_10 g_t_11 g_t_12 g_t_13 g_t_14 g_t_15 g_t_16 g_t_19 g_t_20 g_t_21 g_t_22 g_t_26 g_t_27 g_t_28 g_t_29 g_t_30 g_t_31 g_t_32 g_t_33 g_t_34 g_t_35 g_t_36 g_t_37 g_t_38 g_t_39 g_t_40 g_t_41 g_t_42 g_t_43 c_above c_below c_has c_part c_speed) [some (.ref a_t), some (.int (wI x1)), some (.int (wI x2)), none, some (.int (wI x4)), some (.int (wI x5)), some (.long (wJ x6)), none, some (.long (wJ x8)), none, some (.int (wI x10)), some (.int (wI x11)), none, none, none, none, none, none, none, none] 81 [] := by
  unfold ml_X9_turnsAt_81 at h
  exact loop_walk (g := fun (q : Int × Int × Int × Int) => GG E 0 0 (W_X9_turnsAt (eCy E) a_t a_t_has a_t_part a_t_speed g_t_0 g_t_1 g_t_2 g_t_3 g_t_4 g_t_5 g_t_6 g_t_7 g_t_8 g_t_9 g_t_10 g_t_11 g_t_12 g_t_13 g_t_14 g_t_15 g_t_16 g_t_19 g_t_20 g_t_21 g_t_22 g_t_26 g_t_27 g_t_28 g_t_29 g_t_30 g_t_31 g_t_32 g_t_33 g_t_34 g_t_35 g_t_36 g_t_37 g_t_38 g_t_39 g_t_40 g_t_41 g_t_42 g_t_43 (q.2.2.1) (q.2.2.2) c_has c_part c_speed) [some (.ref a_t), some (.int (wI x1)), some (.int (wI x2)), none, some (.int (wI x4)), some (.int (wI x5)), some (.long (wJ x6)), none, some (.long (wJ x8)), none, some (.int (wI (q.1))), some (.int (wI (q.2.1))), none, none, none, none, none, none, none, none] 81 []) (fun k hk q h => wb_X9_turnsAt_81 C hN h (fun y0 y1 y2 y3 hh => hk (y0, y1, y2, y3) hh) hret) F (x10, x11, c_above, c_below) h
set_option maxRecDepth 100000 in
set_option maxHeartbeats 4000000 in
theorem wb_X9_turnsAt_7 {F : Nat} {k7 : Int → Int → Int → Option (Int × Int × Int)} {v : Int × Int × Int} {x1 : Int} {x2 : Int} {x3 : Int} {x4 : Int} {x5 : Int} {x6 : Int} {c_above : Int} {c_below : Int} {c_has : Int → Int} {c_part : Int → Int} {c_speed : Int → Int} (C : Cx E cX9_turnsAt RX9 { frames := 202, cells := 0, slots := 0, locals := 6231 }) (hN : eN E = 20) (h : mb_X9_turnsAt_7 F k7 x1 x2 x3 x4 x5 x6 c_above c_below c_has c_part c_speed = some v) (hk7 : ∀ (y_x6 : Int) (y_c_above : Int) (y_c_below : Int), k7 y_x6 y_c_above y_c_below = some v → GG E 0 0 (W_X9_turnsAt (eCy E) a_t a_t_has a_t_part a_t_speed g_t_0 g_t_1 g_t_2 g_t_3 g_t_4 g_t_5 g_t_6 g_t_7 g_t_8 g_t_9 g_t_10 g_t_11 g_t_12 g_t_13 g_t_14 g_t_15 g_t_16 g_t_19 g_t_20 g_t_21 g_t_22 g_t_26 g_t_27 g_t_28 g_t_29 g_t_30 g_t_31 g_t_32 g_t_33 g_t_34 g_t_35 g_t_36 g_t_37 g_t_38 g_t_39 g_t_40 g_t_41 g_t_42 g_t_43 y_c_above y_c_below c_has c_part c_speed) [some (.ref a_t), some (.int (wI x1)), some (.int (wI x2)), some (.int (wI x3)), some (.int (wI x4)), some (.int (wI x5)), some (.int (wI y_x6)), none, none, none, none, none, none, none, none, none, none, none, none, none] 7 []) (hret : ∀ (pc : Nat) (L : List (Option Value)), narrow .boolean (.int (wI (v.1))) = .int (wI (v.1)) → decode cX9_turnsAt pc = .ok (.ireturn, 1) → GG E 0 0 (W_X9_turnsAt (eCy E) a_t a_t_has a_t_part a_t_speed g_t_0 g_t_1 g_t_2 g_t_3 g_t_4 g_t_5 g_t_6 g_t_7 g_t_8 g_t_9 g_t_10 g_t_11 g_t_12 g_t_13 g_t_14 g_t_15 g_t_16 g_t_19 g_t_20 g_t_21 g_t_22 g_t_26 g_t_27 g_t_28 g_t_29 g_t_30 g_t_31 g_t_32 g_t_33 g_t_34 g_t_35 g_t_36 g_t_37 g_t_38 g_t_39 g_t_40 g_t_41 g_t_42 g_t_43 (v.2.1) (v.2.2) c_has c_part c_speed) L pc [.int (wI (v.1))]) : GG E 0 0 (W_X9_turnsAt (eCy E) a_t a_t_has a_t_part a_t_speed g_t_0 g_t_1 g_t_2 g_t_3 g_t_4 g_t_5 g_t_6 g_t_7 g_t_8 g_t_9 g_t_10 g_t_11 g_t_12 g_t_13 g_t_14 g_t_15 g_t_16 g_t_19 g_t_20 g_t_21 g_t_22 g_t_26 g_t_27 g_t_28 g_t_29 g_t_30 g_t_31 g_t_32 g_t_33 g_t_34 g_t_35 g_t_36 g_t_37 g_t_38 g_t_39 g_t_40 g_t_41 g_t_42 g_t_43 c_above c_below c_has c_part c_speed) [some (.ref a_t), some (.int (wI x1)), some (.int (wI x2)), some (.int (wI x3)), some (.int (wI x4)), some (.int (wI x5)), some (.int (wI x6)), none, none, none, none, none, none, none, none, none, none, none, none, none] 7 [] := by
  unfold mb_X9_turnsAt_7 at h
  refine g_iload C dX9_turnsAt_7 rfl ?_
  refine g_iload_n 3 C dX9_turnsAt_9 rfl rfl ?_
  refine g_icmp_ge 51 C dX9_turnsAt_10 (by decide) h (fun h => ?_) (fun h => ?_)
  · refine g_aload_n 0 C dX9_turnsAt_51 rfl rfl ?_
    refine g_get C fg_X9_246 0 rfl rfl dX9_turnsAt_52 ?_
    refine g_st (st' := [.long (wJ c_above)]) rfl ?_
    refine g_lstore C hN dX9_turnsAt_55 rfl (L' := [some (.ref a_t), some (.int (wI x1)), some (.int (wI x2)), some (.int (wI x3)), some (.int (wI x4)), some (.int (wI x5)), some (.long (wJ c_above)), none, none, none, none, none, none, none, none, none, none, none, none, none]) rfl ?_
    refine g_aload_n 0 C dX9_turnsAt_57 rfl rfl ?_
    refine g_get C fg_X9_243 0 rfl rfl dX9_turnsAt_58 ?_
    refine g_st (st' := [.long (wJ c_below)]) rfl ?_
    refine g_lstore C hN dX9_turnsAt_61 rfl (L' := [some (.ref a_t), some (.int (wI x1)), some (.int (wI x2)), some (.int (wI x3)), some (.int (wI x4)), some (.int (wI x5)), some (.long (wJ c_above)), none, some (.long (wJ c_below)), none, none, none, none, none, none, none, none, none, none, none]) rfl ?_
    refine g_aload_n 0 C dX9_turnsAt_63 rfl rfl ?_
    obtain ⟨o1, o2, hr3, h⟩ := bnd2_some h
    refine g_callV [0] [1, 2, 3] [3, 0, 1, 2] C mt_X9_253 (c_X9_zero _ _ _ _ a_t (g_t_0) (g_t_1) (g_t_2) (g_t_3) (g_t_4) (g_t_5) (g_t_6) (g_t_7) (g_t_8) (g_t_9) (g_t_10) (g_t_11) (g_t_12) (g_t_13) (g_t_14) (g_t_15) (g_t_16) (.ref a_t_has) (.ref a_t_part) (g_t_19) (g_t_20) (g_t_21) (g_t_22) (.ref a_t_speed) (g_t_26) (g_t_27) (g_t_28) (g_t_29) (g_t_30) (g_t_31) (g_t_32) (g_t_33) (g_t_34) (g_t_35) (g_t_36) (g_t_37) (g_t_38) (g_t_39) (g_t_40) (g_t_41) (g_t_42) (g_t_43) c_above c_below F hr3) (q0 := 0) rfl (ci := 9) rfl rfl rfl (ws2 := (W_X9_turnsAt (eCy E) a_t a_t_has a_t_part a_t_speed g_t_0 g_t_1 g_t_2 g_t_3 g_t_4 g_t_5 g_t_6 g_t_7 g_t_8 g_t_9 g_t_10 g_t_11 g_t_12 g_t_13 g_t_14 g_t_15 g_t_16 g_t_19 g_t_20 g_t_21 g_t_22 g_t_26 g_t_27 g_t_28 g_t_29 g_t_30 g_t_31 g_t_32 g_t_33 g_t_34 g_t_35 g_t_36 g_t_37 g_t_38 g_t_39 g_t_40 g_t_41 g_t_42 g_t_43 o1 o2 c_has c_part c_speed)) rfl rfl rfl (rest := []) rfl rfl rfl dX9_turnsAt_64 ?_
    refine g_aload_n 0 C dX9_turnsAt_67 rfl rfl ?_
    refine g_iload C dX9_turnsAt_68 rfl ?_
    obtain ⟨hc4, h⟩ := chk_some h
    refine g_i2l C dX9_turnsAt_70 hc4 ?_
    refine g_lconst (x := 1) C dX9_turnsAt_71 (by decide) ?_
    obtain ⟨o5, o6, hr7, h⟩ := bnd2_some h
    refine g_callV [0] [1, 2, 3] [3, 0, 1, 2] C mt_X9_256 (c_X9_adds _ _ _ _ a_t (g_t_0) (g_t_1) (g_t_2) (g_t_3) (g_t_4) (g_t_5) (g_t_6) (g_t_7) (g_t_8) (g_t_9) (g_t_10) (g_t_11) (g_t_12) (g_t_13) (g_t_14) (g_t_15) (g_t_16) (.ref a_t_has) (.ref a_t_part) (g_t_19) (g_t_20) (g_t_21) (g_t_22) (.ref a_t_speed) (g_t_26) (g_t_27) (g_t_28) (g_t_29) (g_t_30) (g_t_31) (g_t_32) (g_t_33) (g_t_34) (g_t_35) (g_t_36) (g_t_37) (g_t_38) (g_t_39) (g_t_40) (g_t_41) (g_t_42) (g_t_43) x4 1 o1 o2 F hr7) (q0 := 0) rfl (ci := 9) rfl rfl rfl (ws2 := (W_X9_turnsAt (eCy E) a_t a_t_has a_t_part a_t_speed g_t_0 g_t_1 g_t_2 g_t_3 g_t_4 g_t_5 g_t_6 g_t_7 g_t_8 g_t_9 g_t_10 g_t_11 g_t_12 g_t_13 g_t_14 g_t_15 g_t_16 g_t_19 g_t_20 g_t_21 g_t_22 g_t_26 g_t_27 g_t_28 g_t_29 g_t_30 g_t_31 g_t_32 g_t_33 g_t_34 g_t_35 g_t_36 g_t_37 g_t_38 g_t_39 g_t_40 g_t_41 g_t_42 g_t_43 o5 o6 c_has c_part c_speed)) rfl rfl rfl (rest := []) rfl rfl rfl dX9_turnsAt_72 ?_
    refine g_iload_n 3 C dX9_turnsAt_75 rfl rfl ?_
    refine g_istore C hN dX9_turnsAt_76 rfl (L' := [some (.ref a_t), some (.int (wI x1)), some (.int (wI x2)), some (.int (wI x3)), some (.int (wI x4)), some (.int (wI x5)), some (.long (wJ c_above)), none, some (.long (wJ c_below)), none, some (.int (wI x3)), none, none, none, none, none, none, none, none, none]) rfl ?_
    refine g_iconst C dX9_turnsAt_78 ?_
    refine g_istore C hN dX9_turnsAt_79 rfl (L' := [some (.ref a_t), some (.int (wI x1)), some (.int (wI x2)), some (.int (wI x3)), some (.int (wI x4)), some (.int (wI x5)), some (.long (wJ c_above)), none, some (.long (wJ c_below)), none, some (.int (wI x3)), some (.int (wI 0)), none, none, none, none, none, none, none, none]) rfl ?_
    refine g_mask [true, true, true, false, true, true, true, false, true, false, true, true, false, false, false, false, false, false, false, false] (L' := [some (.ref a_t), some (.int (wI x1)), some (.int (wI x2)), none, some (.int (wI x4)), some (.int (wI x5)), some (.long (wJ c_above)), none, some (.long (wJ c_below)), none, some (.int (wI x3)), some (.int (wI 0)), none, none, none, none, none, none, none, none]) rfl ?_
    exact wl_X9_turnsAt_81 C hN h hret
  · refine g_iload_n 1 C dX9_turnsAt_13 rfl rfl ?_
    refine g_aload_n 0 C dX9_turnsAt_14 rfl rfl ?_
    refine g_get C fg_X9_53 0 rfl rfl dX9_turnsAt_15 ?_
    refine g_iload C dX9_turnsAt_18 rfl ?_
    obtain ⟨hc1, h⟩ := chk_some h
    refine g_iald C 3 rfl hc1 rfl dX9_turnsAt_20 ?_
    refine g_iadd C dX9_turnsAt_21 ?_
    obtain ⟨y2, e_y2, h⟩ := nam_some h
    refine g_topI e_y2 ?_
    refine g_istore C hN dX9_turnsAt_22 rfl (L' := [some (.ref a_t), some (.int (wI x1)), some (.int (wI x2)), some (.int (wI x3)), some (.int (wI x4)), some (.int (wI x5)), some (.int (wI x6)), some (.int (wI y2)), none, none, none, none, none, none, none, none, none, none, none, none]) rfl ?_
    refine g_iload C dX9_turnsAt_24 rfl ?_
    refine g_if_gt 31 C dX9_turnsAt_26 (by decide) h (fun h => ?_) (fun h => ?_)
    · refine g_aload_n 0 C dX9_turnsAt_31 rfl rfl ?_
      refine g_aload_n 0 C dX9_turnsAt_32 rfl rfl ?_
      refine g_iload C dX9_turnsAt_33 rfl ?_
      obtain ⟨r3, hr4, h⟩ := bnd1_some h
      refine g_callI [0, 2] [1, 3] [2, 0, 3, 1] C mt_X9_233 (c_X9_stepsOf _ _ _ _ a_t a_t_part (g_t_0) (g_t_1) (g_t_2) (g_t_3) (g_t_4) (g_t_5) (g_t_6) (g_t_7) (g_t_8) (g_t_9) (g_t_10) (g_t_11) (g_t_12) (g_t_13) (g_t_14) (g_t_15) (g_t_16) (.ref a_t_has) (g_t_19) (g_t_20) (g_t_21) (g_t_22) (.ref a_t_speed) (.long (wJ c_above)) (.long (wJ c_below)) (g_t_26) (g_t_27) (g_t_28) (g_t_29) (g_t_30) (g_t_31) (g_t_32) (g_t_33) (g_t_34) (g_t_35) (g_t_36) (g_t_37) (g_t_38) (g_t_39) (g_t_40) (g_t_41) (g_t_42) (g_t_43) x6 c_part F hr4) (q0 := 0) rfl (ci := 9) rfl rfl rfl (ws2 := (W_X9_turnsAt (eCy E) a_t a_t_has a_t_part a_t_speed g_t_0 g_t_1 g_t_2 g_t_3 g_t_4 g_t_5 g_t_6 g_t_7 g_t_8 g_t_9 g_t_10 g_t_11 g_t_12 g_t_13 g_t_14 g_t_15 g_t_16 g_t_19 g_t_20 g_t_21 g_t_22 g_t_26 g_t_27 g_t_28 g_t_29 g_t_30 g_t_31 g_t_32 g_t_33 g_t_34 g_t_35 g_t_36 g_t_37 g_t_38 g_t_39 g_t_40 g_t_41 g_t_42 g_t_43 c_above c_below c_has c_part c_speed)) rfl rfl rfl (rest := [.ref a_t]) rfl rfl rfl dX9_turnsAt_35 ?_
      obtain ⟨hc5, h⟩ := chk_some h
      refine g_i2l C dX9_turnsAt_38 hc5 ?_
      refine g_iload C dX9_turnsAt_39 rfl ?_
      obtain ⟨hc6, h⟩ := chk_some h
      refine g_i2l C dX9_turnsAt_41 hc6 ?_
      obtain ⟨o7, o8, hr9, h⟩ := bnd2_some h
      refine g_callV [0] [1, 2, 3] [3, 0, 1, 2] C mt_X9_256 (c_X9_adds _ _ _ _ a_t (g_t_0) (g_t_1) (g_t_2) (g_t_3) (g_t_4) (g_t_5) (g_t_6) (g_t_7) (g_t_8) (g_t_9) (g_t_10) (g_t_11) (g_t_12) (g_t_13) (g_t_14) (g_t_15) (g_t_16) (.ref a_t_has) (.ref a_t_part) (g_t_19) (g_t_20) (g_t_21) (g_t_22) (.ref a_t_speed) (g_t_26) (g_t_27) (g_t_28) (g_t_29) (g_t_30) (g_t_31) (g_t_32) (g_t_33) (g_t_34) (g_t_35) (g_t_36) (g_t_37) (g_t_38) (g_t_39) (g_t_40) (g_t_41) (g_t_42) (g_t_43) r3 y2 c_above c_below F hr9) (q0 := 0) rfl (ci := 9) rfl rfl rfl (ws2 := (W_X9_turnsAt (eCy E) a_t a_t_has a_t_part a_t_speed g_t_0 g_t_1 g_t_2 g_t_3 g_t_4 g_t_5 g_t_6 g_t_7 g_t_8 g_t_9 g_t_10 g_t_11 g_t_12 g_t_13 g_t_14 g_t_15 g_t_16 g_t_19 g_t_20 g_t_21 g_t_22 g_t_26 g_t_27 g_t_28 g_t_29 g_t_30 g_t_31 g_t_32 g_t_33 g_t_34 g_t_35 g_t_36 g_t_37 g_t_38 g_t_39 g_t_40 g_t_41 g_t_42 g_t_43 o7 o8 c_has c_part c_speed)) rfl rfl rfl (rest := []) rfl rfl rfl dX9_turnsAt_42 ?_
      refine g_iinc C hN dX9_turnsAt_45 rfl rfl (L' := [some (.ref a_t), some (.int (wI x1)), some (.int (wI x2)), some (.int (wI x3)), some (.int (wI x4)), some (.int (wI x5)), some (.int (wI (x6 + 1))), some (.int (wI y2)), none, none, none, none, none, none, none, none, none, none, none, none]) rfl ?_
      refine g_goto (tgt := 7) C dX9_turnsAt_48 (by decide) ?_
      refine g_mask [true, true, true, true, true, true, true, false, false, false, false, false, false, false, false, false, false, false, false, false] (L' := [some (.ref a_t), some (.int (wI x1)), some (.int (wI x2)), some (.int (wI x3)), some (.int (wI x4)), some (.int (wI x5)), some (.int (wI (x6 + 1))), none, none, none, none, none, none, none, none, none, none, none, none, none]) rfl ?_
      exact hk7 _ _ _ h
    · refine g_iconst C dX9_turnsAt_29 ?_
      cases h
      exact hret 30 _ bn0 dX9_turnsAt_30
set_option maxRecDepth 100000 in
set_option maxHeartbeats 4000000 in
theorem wl_X9_turnsAt_7 {F : Nat} {v : Int × Int × Int} {x1 : Int} {x2 : Int} {x3 : Int} {x4 : Int} {x5 : Int} {x6 : Int} {c_above : Int} {c_below : Int} {c_has : Int → Int} {c_part : Int → Int} {c_speed : Int → Int} (C : Cx E cX9_turnsAt RX9 { frames := 202, cells := 0, slots := 0, locals := 6231 }) (hN : eN E = 20) (h : ml_X9_turnsAt_7 F x1 x2 x3 x4 x5 x6 c_above c_below c_has c_part c_speed = some v) (hret : ∀ (pc : Nat) (L : List (Option Value)), narrow .boolean (.int (wI (v.1))) = .int (wI (v.1)) → decode cX9_turnsAt pc = .ok (.ireturn, 1) → GG E 0 0 (W_X9_turnsAt (eCy E) a_t a_t_has a_t_part a_t_speed g_t_0 g_t_1 g_t_2 g_t_3 g_t_4 g_t_5 g_t_6 g_t_7 g_t_8 g_t_9 g_t_10 g_t_11 g_t_12 g_t_13 g_t_14 g_t_15 g_t_16 g_t_19 g_t_20 g_t_21 g_t_22 g_t_26 g_t_27 g_t_28 g_t_29 g_t_30 g_t_31 g_t_32 g_t_33 g_t_34 g_t_35 g_t_36 g_t_37 g_t_38 g_t_39 g_t_40 g_t_41 g_t_42 g_t_43 (v.2.1) (v.2.2) c_has c_part c_speed) L pc [.int (wI (v.1))]) : GG E 0 0 (W_X9_turnsAt (eCy E) a_t a_t_has a_t_part a_t_speed g_t_0 g_t_1 g_t_2 g_t_3 g_t_4 g_t_5 g_t_6 g_t_7 g_t_8 g_t_9 g_t_10 g_t_11 g_t_12 g_t_13 g_t_14 g_t_15 g_t_16 g_t_19 g_t_20 g_t_21 g_t_22 g_t_26 g_t_27 g_t_28 g_t_29 g_t_30 g_t_31 g_t_32 g_t_33 g_t_34 g_t_35 g_t_36 g_t_37 g_t_38 g_t_39 g_t_40 g_t_41 g_t_42 g_t_43 c_above c_below c_has c_part c_speed) [some (.ref a_t), some (.int (wI x1)), some (.int (wI x2)), some (.int (wI x3)), some (.int (wI x4)), some (.int (wI x5)), some (.int (wI x6)), none, none, none, none, none, none, none, none, none, none, none, none, none] 7 [] := by
  unfold ml_X9_turnsAt_7 at h
  exact loop_walk (g := fun (q : Int × Int × Int) => GG E 0 0 (W_X9_turnsAt (eCy E) a_t a_t_has a_t_part a_t_speed g_t_0 g_t_1 g_t_2 g_t_3 g_t_4 g_t_5 g_t_6 g_t_7 g_t_8 g_t_9 g_t_10 g_t_11 g_t_12 g_t_13 g_t_14 g_t_15 g_t_16 g_t_19 g_t_20 g_t_21 g_t_22 g_t_26 g_t_27 g_t_28 g_t_29 g_t_30 g_t_31 g_t_32 g_t_33 g_t_34 g_t_35 g_t_36 g_t_37 g_t_38 g_t_39 g_t_40 g_t_41 g_t_42 g_t_43 (q.2.1) (q.2.2) c_has c_part c_speed) [some (.ref a_t), some (.int (wI x1)), some (.int (wI x2)), some (.int (wI x3)), some (.int (wI x4)), some (.int (wI x5)), some (.int (wI (q.1))), none, none, none, none, none, none, none, none, none, none, none, none, none] 7 []) (fun k hk q h => wb_X9_turnsAt_7 C hN h (fun y0 y1 y2 hh => hk (y0, y1, y2) hh) hret) F (x6, c_above, c_below) h
set_option maxRecDepth 100000 in
set_option maxHeartbeats 4000000 in
theorem wm_X9_turnsAt {F : Nat} {v : Int × Int × Int} {x1 : Int} {x2 : Int} {x3 : Int} {x4 : Int} {x5 : Int} {c_has : Int → Int} {c_part : Int → Int} {c_speed : Int → Int} {c_above : Int} {c_below : Int} (C : Cx E cX9_turnsAt RX9 { frames := 202, cells := 0, slots := 0, locals := 6231 }) (hN : eN E = 20) (h : m_X9_turnsAt F x1 x2 x3 x4 x5 c_has c_part c_speed = some v) (hret : ∀ (pc : Nat) (L : List (Option Value)), narrow .boolean (.int (wI (v.1))) = .int (wI (v.1)) → decode cX9_turnsAt pc = .ok (.ireturn, 1) → GG E 0 0 (W_X9_turnsAt (eCy E) a_t a_t_has a_t_part a_t_speed g_t_0 g_t_1 g_t_2 g_t_3 g_t_4 g_t_5 g_t_6 g_t_7 g_t_8 g_t_9 g_t_10 g_t_11 g_t_12 g_t_13 g_t_14 g_t_15 g_t_16 g_t_19 g_t_20 g_t_21 g_t_22 g_t_26 g_t_27 g_t_28 g_t_29 g_t_30 g_t_31 g_t_32 g_t_33 g_t_34 g_t_35 g_t_36 g_t_37 g_t_38 g_t_39 g_t_40 g_t_41 g_t_42 g_t_43 (v.2.1) (v.2.2) c_has c_part c_speed) L pc [.int (wI (v.1))]) : GG E 0 0 (W_X9_turnsAt (eCy E) a_t a_t_has a_t_part a_t_speed g_t_0 g_t_1 g_t_2 g_t_3 g_t_4 g_t_5 g_t_6 g_t_7 g_t_8 g_t_9 g_t_10 g_t_11 g_t_12 g_t_13 g_t_14 g_t_15 g_t_16 g_t_19 g_t_20 g_t_21 g_t_22 g_t_26 g_t_27 g_t_28 g_t_29 g_t_30 g_t_31 g_t_32 g_t_33 g_t_34 g_t_35 g_t_36 g_t_37 g_t_38 g_t_39 g_t_40 g_t_41 g_t_42 g_t_43 c_above c_below c_has c_part c_speed) [some (.ref a_t), some (.int (wI x1)), some (.int (wI x2)), some (.int (wI x3)), some (.int (wI x4)), some (.int (wI x5)), none, none, none, none, none, none, none, none, none, none, none, none, none, none] 0 [] := by
  unfold m_X9_turnsAt at h
  refine g_aload_n 0 C dX9_turnsAt_0 rfl rfl ?_
  obtain ⟨o1, o2, hr3, h⟩ := bnd2_some h
  refine g_callV [0] [1, 2, 3] [3, 0, 1, 2] C mt_X9_253 (c_X9_zero _ _ _ _ a_t (g_t_0) (g_t_1) (g_t_2) (g_t_3) (g_t_4) (g_t_5) (g_t_6) (g_t_7) (g_t_8) (g_t_9) (g_t_10) (g_t_11) (g_t_12) (g_t_13) (g_t_14) (g_t_15) (g_t_16) (.ref a_t_has) (.ref a_t_part) (g_t_19) (g_t_20) (g_t_21) (g_t_22) (.ref a_t_speed) (g_t_26) (g_t_27) (g_t_28) (g_t_29) (g_t_30) (g_t_31) (g_t_32) (g_t_33) (g_t_34) (g_t_35) (g_t_36) (g_t_37) (g_t_38) (g_t_39) (g_t_40) (g_t_41) (g_t_42) (g_t_43) c_above c_below F hr3) (q0 := 0) rfl (ci := 9) rfl rfl rfl (ws2 := (W_X9_turnsAt (eCy E) a_t a_t_has a_t_part a_t_speed g_t_0 g_t_1 g_t_2 g_t_3 g_t_4 g_t_5 g_t_6 g_t_7 g_t_8 g_t_9 g_t_10 g_t_11 g_t_12 g_t_13 g_t_14 g_t_15 g_t_16 g_t_19 g_t_20 g_t_21 g_t_22 g_t_26 g_t_27 g_t_28 g_t_29 g_t_30 g_t_31 g_t_32 g_t_33 g_t_34 g_t_35 g_t_36 g_t_37 g_t_38 g_t_39 g_t_40 g_t_41 g_t_42 g_t_43 o1 o2 c_has c_part c_speed)) rfl rfl rfl (rest := []) rfl rfl rfl dX9_turnsAt_1 ?_
  refine g_iconst C dX9_turnsAt_4 ?_
  refine g_istore C hN dX9_turnsAt_5 rfl (L' := [some (.ref a_t), some (.int (wI x1)), some (.int (wI x2)), some (.int (wI x3)), some (.int (wI x4)), some (.int (wI x5)), some (.int (wI 0)), none, none, none, none, none, none, none, none, none, none, none, none, none]) rfl ?_
  exact wl_X9_turnsAt_7 C hN h hret
end S_X9_turnsAt
set_option maxRecDepth 100000 in
set_option maxHeartbeats 4000000 in
theorem c_X9_turnsAt (l : Launch) (D : va_G) (cy : Nat → ClassId) (ad : AD) (a_t a_t_has a_t_part a_t_speed : Nat) (g_t_0 : Value) (g_t_1 : Value) (g_t_2 : Value) (g_t_3 : Value) (g_t_4 : Value) (g_t_5 : Value) (g_t_6 : Value) (g_t_7 : Value) (g_t_8 : Value) (g_t_9 : Value) (g_t_10 : Value) (g_t_11 : Value) (g_t_12 : Value) (g_t_13 : Value) (g_t_14 : Value) (g_t_15 : Value) (g_t_16 : Value) (g_t_19 : Value) (g_t_20 : Value) (g_t_21 : Value) (g_t_22 : Value) (g_t_26 : Value) (g_t_27 : Value) (g_t_28 : Value) (g_t_29 : Value) (g_t_30 : Value) (g_t_31 : Value) (g_t_32 : Value) (g_t_33 : Value) (g_t_34 : Value) (g_t_35 : Value) (g_t_36 : Value) (g_t_37 : Value) (g_t_38 : Value) (g_t_39 : Value) (g_t_40 : Value) (g_t_41 : Value) (g_t_42 : Value) (g_t_43 : Value) (x1 : Int) (x2 : Int) (x3 : Int) (x4 : Int) (x5 : Int) (c_above : Int) (c_below : Int) (c_has : Int → Int) (c_part : Int → Int) (c_speed : Int → Int) (F : Nat) {v : Int × Int × Int} (h : m_X9_turnsAt F x1 x2 x3 x4 x5 c_has c_part c_speed = some v) : Ct l yX9_turnsAt cX9_turnsAt 20 (some .boolean) { frames := 202, cells := 0, slots := 0, locals := 6231 } D cy ad [.ref a_t, .int (wI x1), .int (wI x2), .int (wI x3), .int (wI x4), .int (wI x5)] (W_X9_turnsAt cy a_t a_t_has a_t_part a_t_speed g_t_0 g_t_1 g_t_2 g_t_3 g_t_4 g_t_5 g_t_6 g_t_7 g_t_8 g_t_9 g_t_10 g_t_11 g_t_12 g_t_13 g_t_14 g_t_15 g_t_16 g_t_19 g_t_20 g_t_21 g_t_22 g_t_26 g_t_27 g_t_28 g_t_29 g_t_30 g_t_31 g_t_32 g_t_33 g_t_34 g_t_35 g_t_36 g_t_37 g_t_38 g_t_39 g_t_40 g_t_41 g_t_42 g_t_43 c_above c_below c_has c_part c_speed) (W_X9_turnsAt cy a_t a_t_has a_t_part a_t_speed g_t_0 g_t_1 g_t_2 g_t_3 g_t_4 g_t_5 g_t_6 g_t_7 g_t_8 g_t_9 g_t_10 g_t_11 g_t_12 g_t_13 g_t_14 g_t_15 g_t_16 g_t_19 g_t_20 g_t_21 g_t_22 g_t_26 g_t_27 g_t_28 g_t_29 g_t_30 g_t_31 g_t_32 g_t_33 g_t_34 g_t_35 g_t_36 g_t_37 g_t_38 g_t_39 g_t_40 g_t_41 g_t_42 g_t_43 (v.2.1) (v.2.2) c_has c_part c_speed) (some (.int (wI (v.1)))) := by
  refine Ct.introZ (j := 14) (plainFor_of_name (by decide)) rfl rfl (fun E C e1 e2 e3 e4 e5 hret => ?_)
  subst e1; subst e2; subst e3; subst e4
  exact wm_X9_turnsAt C e5 h hret
-- MovingStairModel.laysTurns(IIIZ)V
def W_X9_laysTurns (cy : Nat → ClassId) (a_t a_t_has a_t_part a_t_speed : Nat) (g_t_0 : Value) (g_t_1 : Value) (g_t_2 : Value) (g_t_3 : Value) (g_t_4 : Value) (g_t_5 : Value) (g_t_6 : Value) (g_t_7 : Value) (g_t_8 : Value) (g_t_9 : Value) (g_t_10 : Value) (g_t_11 : Value) (g_t_12 : Value) (g_t_13 : Value) (g_t_14 : Value) (g_t_15 : Value) (g_t_16 : Value) (g_t_19 : Value) (g_t_20 : Value) (g_t_21 : Value) (g_t_22 : Value) (g_t_26 : Value) (g_t_30 : Value) (g_t_31 : Value) (g_t_32 : Value) (g_t_33 : Value) (g_t_34 : Value) (g_t_35 : Value) (g_t_36 : Value) (g_t_37 : Value) (g_t_38 : Value) (g_t_39 : Value) (g_t_40 : Value) (g_t_41 : Value) (g_t_42 : Value) (g_t_43 : Value) (c_above : Int) (c_below : Int) (c_leastAbove : Int) (c_leastBelow : Int) (c_leastOf : Int) (c_has : Int → Int) (c_part : Int → Int) (c_speed : Int → Int) : va_W := [(a_t, .inr (9, [g_t_0, g_t_1, g_t_2, g_t_3, g_t_4, g_t_5, g_t_6, g_t_7, g_t_8, g_t_9, g_t_10, g_t_11, g_t_12, g_t_13, g_t_14, g_t_15, g_t_16, .ref a_t_has, .ref a_t_part, g_t_19, g_t_20, g_t_21, g_t_22, .ref a_t_speed, .long (wJ c_above), .long (wJ c_below), g_t_26, .long (wJ c_leastAbove), .long (wJ c_leastBelow), .int (wI c_leastOf), g_t_30, g_t_31, g_t_32, g_t_33, g_t_34, g_t_35, g_t_36, g_t_37, g_t_38, g_t_39, g_t_40, g_t_41, g_t_42, g_t_43])), (a_t_has, .inl (cy 1, 45, .inl (aI c_has))), (a_t_part, .inl (cy 1, 40, .inl (aI c_part))), (a_t_speed, .inl (cy 1, 4, .inl (aI c_speed)))]
def mb_X9_laysTurns_39 (F : Nat) (k8 : Int → Int → Int → Int → Int → Int → Option (Int × Int × Int × Int × Int)) (x1 : Int) (x2 : Int) (x3 : Int) (x4 : Int) (x5 : Int) (c_above : Int) (c_below : Int) (c_leastAbove : Int) (c_leastBelow : Int) (c_leastOf : Int) (c_has : Int → Int) (c_part : Int → Int) (c_speed : Int → Int) : Option (Int × Int × Int × Int × Int) :=
  k8 (x5 + 1) c_above c_below c_leastAbove c_leastBelow c_leastOf
def mb_X9_laysTurns_8 (F : Nat) (k8 : Int → Int → Int → Int → Int → Int → Option (Int × Int × Int × Int × Int)) (x1 : Int) (x2 : Int) (x3 : Int) (x4 : Int) (x5 : Int) (c_above : Int) (c_below : Int) (c_leastAbove : Int) (c_leastBelow : Int) (c_leastOf : Int) (c_has : Int → Int) (c_part : Int → Int) (c_speed : Int → Int) : Option (Int × Int × Int × Int × Int) :=
  if wI (c_has 1) ≤ wI x5 then
    (some (c_above, c_below, c_leastAbove, c_leastBelow, c_leastOf))
  else
    (bnd3 (m_X9_turnsAt F x1 x2 x5 x3 x4 c_has c_part c_speed) fun r1 o2 o3 => if wI r1 = wI 0 then
    (mb_X9_laysTurns_39 F k8 x1 x2 x3 x4 x5 o2 o3 c_leastAbove c_leastBelow c_leastOf c_has c_part c_speed)
  else
    (bnd3 (m_X9_keeps F x5 o2 o3 c_leastAbove c_leastBelow c_leastOf) fun o5 o6 o7 => mb_X9_laysTurns_39 F k8 x1 x2 x3 x4 x5 o2 o3 o5 o6 o7 c_has c_part c_speed))
def ml_X9_laysTurns_8 (F : Nat) (x1 : Int) (x2 : Int) (x3 : Int) (x4 : Int) (x5 : Int) (c_above : Int) (c_below : Int) (c_leastAbove : Int) (c_leastBelow : Int) (c_leastOf : Int) (c_has : Int → Int) (c_part : Int → Int) (c_speed : Int → Int) : Option (Int × Int × Int × Int × Int) :=
  loopN (fun (k : Int × Int × Int × Int × Int × Int → Option (Int × Int × Int × Int × Int)) q => mb_X9_laysTurns_8 F (fun y0 y1 y2 y3 y4 y5 => k (y0, y1, y2, y3, y4, y5)) x1 x2 x3 x4 q.1 q.2.1 q.2.2.1 q.2.2.2.1 q.2.2.2.2.1 q.2.2.2.2.2 c_has c_part c_speed) F (x5, c_above, c_below, c_leastAbove, c_leastBelow, c_leastOf)
def m_X9_laysTurns (F : Nat) (x1 : Int) (x2 : Int) (x3 : Int) (x4 : Int) (c_above : Int) (c_below : Int) (c_leastAbove : Int) (c_leastBelow : Int) (c_has : Int → Int) (c_part : Int → Int) (c_speed : Int → Int) : Option (Int × Int × Int × Int × Int) :=
  ml_X9_laysTurns_8 F x1 x2 x3 x4 0 c_above c_below c_leastAbove c_leastBelow (-1) c_has c_part c_speed
section S_X9_laysTurns
variable {E : EE} {a_t a_t_has a_t_part a_t_speed : Nat} {g_t_0 : Value} {g_t_1 : Value} {g_t_2 : Value} {g_t_3 : Value} {g_t_4 : Value} {g_t_5 : Value} {g_t_6 : Value} {g_t_7 : Value} {g_t_8 : Value} {g_t_9 : Value} {g_t_10 : Value} {g_t_11 : Value} {g_t_12 : Value} {g_t_13 : Value} {g_t_14 : Value} {g_t_15 : Value} {g_t_16 : Value} {g_t_19 : Value} {g_t_20 : Value} {g_t_21 : Value} {g_t_22 : Value} {g_t_26 : Value} {g_t_30 : Value} {g_t_31 : Value} {g_t_32 : Value} {g_t_33 : Value} {g_t_34 : Value} {g_t_35 : Value} {g_t_36 : Value} {g_t_37 : Value} {g_t_38 : Value} {g_t_39 : Value} {g_t_40 : Value} {g_t_41 : Value} {g_t_42 : Value} {g_t_43 : Value}
set_option maxRecDepth 100000 in
set_option maxHeartbeats 4000000 in
theorem wb_X9_laysTurns_39 {F : Nat} {k8 : Int → Int → Int → Int → Int → Int → Option (Int × Int × Int × Int × Int)} {v : Int × Int × Int × Int × Int} {x1 : Int} {x2 : Int} {x3 : Int} {x4 : Int} {x5 : Int} {c_above : Int} {c_below : Int} {c_leastAbove : Int} {c_leastBelow : Int} {c_leastOf : Int} {c_has : Int → Int} {c_part : Int → Int} {c_speed : Int → Int} (C : Cx E cX9_laysTurns RX9 { frames := 203, cells := 0, slots := 0, locals := 6270 }) (hN : eN E = 6) (h : mb_X9_laysTurns_39 F k8 x1 x2 x3 x4 x5 c_above c_below c_leastAbove c_leastBelow c_leastOf c_has c_part c_speed = some v) (hk8 : ∀ (y_x5 : Int) (y_c_above : Int) (y_c_below : Int) (y_c_leastAbove : Int) (y_c_leastBelow : Int) (y_c_leastOf : Int), k8 y_x5 y_c_above y_c_below y_c_leastAbove y_c_leastBelow y_c_leastOf = some v → GG E 0 0 (W_X9_laysTurns (eCy E) a_t a_t_has a_t_part a_t_speed g_t_0 g_t_1 g_t_2 g_t_3 g_t_4 g_t_5 g_t_6 g_t_7 g_t_8 g_t_9 g_t_10 g_t_11 g_t_12 g_t_13 g_t_14 g_t_15 g_t_16 g_t_19 g_t_20 g_t_21 g_t_22 g_t_26 g_t_30 g_t_31 g_t_32 g_t_33 g_t_34 g_t_35 g_t_36 g_t_37 g_t_38 g_t_39 g_t_40 g_t_41 g_t_42 g_t_43 y_c_above y_c_below y_c_leastAbove y_c_leastBelow y_c_leastOf c_has c_part c_speed) [some (.ref a_t), some (.int (wI x1)), some (.int (wI x2)), some (.int (wI x3)), some (.int (wI x4)), some (.int (wI y_x5))] 8 []) (hret : ∀ (pc : Nat) (L : List (Option Value)), decode cX9_laysTurns pc = .ok (.return_, 1) → GG E 0 0 (W_X9_laysTurns (eCy E) a_t a_t_has a_t_part a_t_speed g_t_0 g_t_1 g_t_2 g_t_3 g_t_4 g_t_5 g_t_6 g_t_7 g_t_8 g_t_9 g_t_10 g_t_11 g_t_12 g_t_13 g_t_14 g_t_15 g_t_16 g_t_19 g_t_20 g_t_21 g_t_22 g_t_26 g_t_30 g_t_31 g_t_32 g_t_33 g_t_34 g_t_35 g_t_36 g_t_37 g_t_38 g_t_39 g_t_40 g_t_41 g_t_42 g_t_43 (v.1) (v.2.1) (v.2.2.1) (v.2.2.2.1) (v.2.2.2.2) c_has c_part c_speed) L pc []) : GG E 0 0 (W_X9_laysTurns (eCy E) a_t a_t_has a_t_part a_t_speed g_t_0 g_t_1 g_t_2 g_t_3 g_t_4 g_t_5 g_t_6 g_t_7 g_t_8 g_t_9 g_t_10 g_t_11 g_t_12 g_t_13 g_t_14 g_t_15 g_t_16 g_t_19 g_t_20 g_t_21 g_t_22 g_t_26 g_t_30 g_t_31 g_t_32 g_t_33 g_t_34 g_t_35 g_t_36 g_t_37 g_t_38 g_t_39 g_t_40 g_t_41 g_t_42 g_t_43 c_above c_below c_leastAbove c_leastBelow c_leastOf c_has c_part c_speed) [some (.ref a_t), some (.int (wI x1)), some (.int (wI x2)), some (.int (wI x3)), some (.int (wI x4)), some (.int (wI x5))] 39 [] := by
  unfold mb_X9_laysTurns_39 at h
  refine g_iinc C hN dX9_laysTurns_39 rfl rfl (L' := [some (.ref a_t), some (.int (wI x1)), some (.int (wI x2)), some (.int (wI x3)), some (.int (wI x4)), some (.int (wI (x5 + 1)))]) rfl ?_
  refine g_goto (tgt := 8) C dX9_laysTurns_42 (by decide) ?_
  exact hk8 _ _ _ _ _ _ h
set_option maxRecDepth 100000 in
set_option maxHeartbeats 4000000 in
theorem wb_X9_laysTurns_8 {F : Nat} {k8 : Int → Int → Int → Int → Int → Int → Option (Int × Int × Int × Int × Int)} {v : Int × Int × Int × Int × Int} {x1 : Int} {x2 : Int} {x3 : Int} {x4 : Int} {x5 : Int} {c_above : Int} {c_below : Int} {c_leastAbove : Int} {c_leastBelow : Int} {c_leastOf : Int} {c_has : Int → Int} {c_part : Int → Int} {c_speed : Int → Int} (C : Cx E cX9_laysTurns RX9 { frames := 203, cells := 0, slots := 0, locals := 6270 }) (hN : eN E = 6) (h : mb_X9_laysTurns_8 F k8 x1 x2 x3 x4 x5 c_above c_below c_leastAbove c_leastBelow c_leastOf c_has c_part c_speed = some v) (hk8 : ∀ (y_x5 : Int) (y_c_above : Int) (y_c_below : Int) (y_c_leastAbove : Int) (y_c_leastBelow : Int) (y_c_leastOf : Int), k8 y_x5 y_c_above y_c_below y_c_leastAbove y_c_leastBelow y_c_leastOf = some v → GG E 0 0 (W_X9_laysTurns (eCy E) a_t a_t_has a_t_part a_t_speed g_t_0 g_t_1 g_t_2 g_t_3 g_t_4 g_t_5 g_t_6 g_t_7 g_t_8 g_t_9 g_t_10 g_t_11 g_t_12 g_t_13 g_t_14 g_t_15 g_t_16 g_t_19 g_t_20 g_t_21 g_t_22 g_t_26 g_t_30 g_t_31 g_t_32 g_t_33 g_t_34 g_t_35 g_t_36 g_t_37 g_t_38 g_t_39 g_t_40 g_t_41 g_t_42 g_t_43 y_c_above y_c_below y_c_leastAbove y_c_leastBelow y_c_leastOf c_has c_part c_speed) [some (.ref a_t), some (.int (wI x1)), some (.int (wI x2)), some (.int (wI x3)), some (.int (wI x4)), some (.int (wI y_x5))] 8 []) (hret : ∀ (pc : Nat) (L : List (Option Value)), decode cX9_laysTurns pc = .ok (.return_, 1) → GG E 0 0 (W_X9_laysTurns (eCy E) a_t a_t_has a_t_part a_t_speed g_t_0 g_t_1 g_t_2 g_t_3 g_t_4 g_t_5 g_t_6 g_t_7 g_t_8 g_t_9 g_t_10 g_t_11 g_t_12 g_t_13 g_t_14 g_t_15 g_t_16 g_t_19 g_t_20 g_t_21 g_t_22 g_t_26 g_t_30 g_t_31 g_t_32 g_t_33 g_t_34 g_t_35 g_t_36 g_t_37 g_t_38 g_t_39 g_t_40 g_t_41 g_t_42 g_t_43 (v.1) (v.2.1) (v.2.2.1) (v.2.2.2.1) (v.2.2.2.2) c_has c_part c_speed) L pc []) : GG E 0 0 (W_X9_laysTurns (eCy E) a_t a_t_has a_t_part a_t_speed g_t_0 g_t_1 g_t_2 g_t_3 g_t_4 g_t_5 g_t_6 g_t_7 g_t_8 g_t_9 g_t_10 g_t_11 g_t_12 g_t_13 g_t_14 g_t_15 g_t_16 g_t_19 g_t_20 g_t_21 g_t_22 g_t_26 g_t_30 g_t_31 g_t_32 g_t_33 g_t_34 g_t_35 g_t_36 g_t_37 g_t_38 g_t_39 g_t_40 g_t_41 g_t_42 g_t_43 c_above c_below c_leastAbove c_leastBelow c_leastOf c_has c_part c_speed) [some (.ref a_t), some (.int (wI x1)), some (.int (wI x2)), some (.int (wI x3)), some (.int (wI x4)), some (.int (wI x5))] 8 [] := by
  unfold mb_X9_laysTurns_8 at h
  refine g_iload C dX9_laysTurns_8 rfl ?_
  refine g_aload_n 0 C dX9_laysTurns_10 rfl rfl ?_
  refine g_get C fg_X9_34 0 rfl rfl dX9_laysTurns_11 ?_
  refine g_iconst C dX9_laysTurns_14 ?_
  refine g_iald C 1 rfl (by decide) rfl dX9_laysTurns_15 ?_
  refine g_icmp_ge 45 C dX9_laysTurns_16 (by decide) h (fun h => ?_) (fun h => ?_)
  · cases h
    exact hret 45 _ dX9_laysTurns_45
  · refine g_aload_n 0 C dX9_laysTurns_19 rfl rfl ?_
    refine g_iload_n 1 C dX9_laysTurns_20 rfl rfl ?_
    refine g_iload_n 2 C dX9_laysTurns_21 rfl rfl ?_
    refine g_iload C dX9_laysTurns_22 rfl ?_
    refine g_iload_n 3 C dX9_laysTurns_24 rfl rfl ?_
    refine g_iload C dX9_laysTurns_25 rfl ?_
    obtain ⟨r1, o2, o3, hr4, h⟩ := bnd3_some h
    refine g_callI [0, 1, 2, 3] [] [0, 1, 2, 3] C mt_X9_303 (c_X9_turnsAt _ _ _ _ a_t a_t_has a_t_part a_t_speed (g_t_0) (g_t_1) (g_t_2) (g_t_3) (g_t_4) (g_t_5) (g_t_6) (g_t_7) (g_t_8) (g_t_9) (g_t_10) (g_t_11) (g_t_12) (g_t_13) (g_t_14) (g_t_15) (g_t_16) (g_t_19) (g_t_20) (g_t_21) (g_t_22) (g_t_26) (.long (wJ c_leastAbove)) (.long (wJ c_leastBelow)) (.int (wI c_leastOf)) (g_t_30) (g_t_31) (g_t_32) (g_t_33) (g_t_34) (g_t_35) (g_t_36) (g_t_37) (g_t_38) (g_t_39) (g_t_40) (g_t_41) (g_t_42) (g_t_43) x1 x2 x5 x3 x4 c_above c_below c_has c_part c_speed F hr4) (q0 := 0) rfl (ci := 9) rfl rfl rfl (ws2 := (W_X9_laysTurns (eCy E) a_t a_t_has a_t_part a_t_speed g_t_0 g_t_1 g_t_2 g_t_3 g_t_4 g_t_5 g_t_6 g_t_7 g_t_8 g_t_9 g_t_10 g_t_11 g_t_12 g_t_13 g_t_14 g_t_15 g_t_16 g_t_19 g_t_20 g_t_21 g_t_22 g_t_26 g_t_30 g_t_31 g_t_32 g_t_33 g_t_34 g_t_35 g_t_36 g_t_37 g_t_38 g_t_39 g_t_40 g_t_41 g_t_42 g_t_43 o2 o3 c_leastAbove c_leastBelow c_leastOf c_has c_part c_speed)) rfl rfl rfl (rest := []) rfl rfl rfl dX9_laysTurns_27 ?_
    refine g_if_eq 39 C dX9_laysTurns_30 (by decide) h (fun h => ?_) (fun h => ?_)
    · exact wb_X9_laysTurns_39 C hN h hk8 hret
    · refine g_aload_n 0 C dX9_laysTurns_33 rfl rfl ?_
      refine g_iload C dX9_laysTurns_34 rfl ?_
      obtain ⟨o5, o6, o7, hr8, h⟩ := bnd3_some h
      refine g_callV [0] [1, 2, 3] [3, 0, 1, 2] C mt_X9_300 (c_X9_keeps _ _ _ _ a_t (g_t_0) (g_t_1) (g_t_2) (g_t_3) (g_t_4) (g_t_5) (g_t_6) (g_t_7) (g_t_8) (g_t_9) (g_t_10) (g_t_11) (g_t_12) (g_t_13) (g_t_14) (g_t_15) (g_t_16) (.ref a_t_has) (.ref a_t_part) (g_t_19) (g_t_20) (g_t_21) (g_t_22) (.ref a_t_speed) (g_t_26) (g_t_30) (g_t_31) (g_t_32) (g_t_33) (g_t_34) (g_t_35) (g_t_36) (g_t_37) (g_t_38) (g_t_39) (g_t_40) (g_t_41) (g_t_42) (g_t_43) x5 o2 o3 c_leastAbove c_leastBelow c_leastOf F hr8) (q0 := 0) rfl (ci := 9) rfl rfl rfl (ws2 := (W_X9_laysTurns (eCy E) a_t a_t_has a_t_part a_t_speed g_t_0 g_t_1 g_t_2 g_t_3 g_t_4 g_t_5 g_t_6 g_t_7 g_t_8 g_t_9 g_t_10 g_t_11 g_t_12 g_t_13 g_t_14 g_t_15 g_t_16 g_t_19 g_t_20 g_t_21 g_t_22 g_t_26 g_t_30 g_t_31 g_t_32 g_t_33 g_t_34 g_t_35 g_t_36 g_t_37 g_t_38 g_t_39 g_t_40 g_t_41 g_t_42 g_t_43 o2 o3 o5 o6 o7 c_has c_part c_speed)) rfl rfl rfl (rest := []) rfl rfl rfl dX9_laysTurns_36 ?_
      exact wb_X9_laysTurns_39 C hN h hk8 hret
set_option maxRecDepth 100000 in
set_option maxHeartbeats 4000000 in
theorem wl_X9_laysTurns_8 {F : Nat} {v : Int × Int × Int × Int × Int} {x1 : Int} {x2 : Int} {x3 : Int} {x4 : Int} {x5 : Int} {c_above : Int} {c_below : Int} {c_leastAbove : Int} {c_leastBelow : Int} {c_leastOf : Int} {c_has : Int → Int} {c_part : Int → Int} {c_speed : Int → Int} (C : Cx E cX9_laysTurns RX9 { frames := 203, cells := 0, slots := 0, locals := 6270 }) (hN : eN E = 6) (h : ml_X9_laysTurns_8 F x1 x2 x3 x4 x5 c_above c_below c_leastAbove c_leastBelow c_leastOf c_has c_part c_speed = some v) (hret : ∀ (pc : Nat) (L : List (Option Value)), decode cX9_laysTurns pc = .ok (.return_, 1) → GG E 0 0 (W_X9_laysTurns (eCy E) a_t a_t_has a_t_part a_t_speed g_t_0 g_t_1 g_t_2 g_t_3 g_t_4 g_t_5 g_t_6 g_t_7 g_t_8 g_t_9 g_t_10 g_t_11 g_t_12 g_t_13 g_t_14 g_t_15 g_t_16 g_t_19 g_t_20 g_t_21 g_t_22 g_t_26 g_t_30 g_t_31 g_t_32 g_t_33 g_t_34 g_t_35 g_t_36 g_t_37 g_t_38 g_t_39 g_t_40 g_t_41 g_t_42 g_t_43 (v.1) (v.2.1) (v.2.2.1) (v.2.2.2.1) (v.2.2.2.2) c_has c_part c_speed) L pc []) : GG E 0 0 (W_X9_laysTurns (eCy E) a_t a_t_has a_t_part a_t_speed g_t_0 g_t_1 g_t_2 g_t_3 g_t_4 g_t_5 g_t_6 g_t_7 g_t_8 g_t_9 g_t_10 g_t_11 g_t_12 g_t_13 g_t_14 g_t_15 g_t_16 g_t_19 g_t_20 g_t_21 g_t_22 g_t_26 g_t_30 g_t_31 g_t_32 g_t_33 g_t_34 g_t_35 g_t_36 g_t_37 g_t_38 g_t_39 g_t_40 g_t_41 g_t_42 g_t_43 c_above c_below c_leastAbove c_leastBelow c_leastOf c_has c_part c_speed) [some (.ref a_t), some (.int (wI x1)), some (.int (wI x2)), some (.int (wI x3)), some (.int (wI x4)), some (.int (wI x5))] 8 [] := by
  unfold ml_X9_laysTurns_8 at h
  exact loop_walk (g := fun (q : Int × Int × Int × Int × Int × Int) => GG E 0 0 (W_X9_laysTurns (eCy E) a_t a_t_has a_t_part a_t_speed g_t_0 g_t_1 g_t_2 g_t_3 g_t_4 g_t_5 g_t_6 g_t_7 g_t_8 g_t_9 g_t_10 g_t_11 g_t_12 g_t_13 g_t_14 g_t_15 g_t_16 g_t_19 g_t_20 g_t_21 g_t_22 g_t_26 g_t_30 g_t_31 g_t_32 g_t_33 g_t_34 g_t_35 g_t_36 g_t_37 g_t_38 g_t_39 g_t_40 g_t_41 g_t_42 g_t_43 (q.2.1) (q.2.2.1) (q.2.2.2.1) (q.2.2.2.2.1) (q.2.2.2.2.2) c_has c_part c_speed) [some (.ref a_t), some (.int (wI x1)), some (.int (wI x2)), some (.int (wI x3)), some (.int (wI x4)), some (.int (wI (q.1)))] 8 []) (fun k hk q h => wb_X9_laysTurns_8 C hN h (fun y0 y1 y2 y3 y4 y5 hh => hk (y0, y1, y2, y3, y4, y5) hh) hret) F (x5, c_above, c_below, c_leastAbove, c_leastBelow, c_leastOf) h
set_option maxRecDepth 100000 in
set_option maxHeartbeats 4000000 in
theorem wm_X9_laysTurns {F : Nat} {v : Int × Int × Int × Int × Int} {x1 : Int} {x2 : Int} {x3 : Int} {x4 : Int} {c_above : Int} {c_below : Int} {c_leastAbove : Int} {c_leastBelow : Int} {c_has : Int → Int} {c_part : Int → Int} {c_speed : Int → Int} {c_leastOf : Int} (C : Cx E cX9_laysTurns RX9 { frames := 203, cells := 0, slots := 0, locals := 6270 }) (hN : eN E = 6) (h : m_X9_laysTurns F x1 x2 x3 x4 c_above c_below c_leastAbove c_leastBelow c_has c_part c_speed = some v) (hret : ∀ (pc : Nat) (L : List (Option Value)), decode cX9_laysTurns pc = .ok (.return_, 1) → GG E 0 0 (W_X9_laysTurns (eCy E) a_t a_t_has a_t_part a_t_speed g_t_0 g_t_1 g_t_2 g_t_3 g_t_4 g_t_5 g_t_6 g_t_7 g_t_8 g_t_9 g_t_10 g_t_11 g_t_12 g_t_13 g_t_14 g_t_15 g_t_16 g_t_19 g_t_20 g_t_21 g_t_22 g_t_26 g_t_30 g_t_31 g_t_32 g_t_33 g_t_34 g_t_35 g_t_36 g_t_37 g_t_38 g_t_39 g_t_40 g_t_41 g_t_42 g_t_43 (v.1) (v.2.1) (v.2.2.1) (v.2.2.2.1) (v.2.2.2.2) c_has c_part c_speed) L pc []) : GG E 0 0 (W_X9_laysTurns (eCy E) a_t a_t_has a_t_part a_t_speed g_t_0 g_t_1 g_t_2 g_t_3 g_t_4 g_t_5 g_t_6 g_t_7 g_t_8 g_t_9 g_t_10 g_t_11 g_t_12 g_t_13 g_t_14 g_t_15 g_t_16 g_t_19 g_t_20 g_t_21 g_t_22 g_t_26 g_t_30 g_t_31 g_t_32 g_t_33 g_t_34 g_t_35 g_t_36 g_t_37 g_t_38 g_t_39 g_t_40 g_t_41 g_t_42 g_t_43 c_above c_below c_leastAbove c_leastBelow c_leastOf c_has c_part c_speed) [some (.ref a_t), some (.int (wI x1)), some (.int (wI x2)), some (.int (wI x3)), some (.int (wI x4)), none] 0 [] := by
  unfold m_X9_laysTurns at h
  refine g_aload_n 0 C dX9_laysTurns_0 rfl rfl ?_
  refine g_iconst C dX9_laysTurns_1 ?_
  refine g_putI C fp_X9_288 0 rfl rfl (ws' := (W_X9_laysTurns (eCy E) a_t a_t_has a_t_part a_t_speed g_t_0 g_t_1 g_t_2 g_t_3 g_t_4 g_t_5 g_t_6 g_t_7 g_t_8 g_t_9 g_t_10 g_t_11 g_t_12 g_t_13 g_t_14 g_t_15 g_t_16 g_t_19 g_t_20 g_t_21 g_t_22 g_t_26 g_t_30 g_t_31 g_t_32 g_t_33 g_t_34 g_t_35 g_t_36 g_t_37 g_t_38 g_t_39 g_t_40 g_t_41 g_t_42 g_t_43 c_above c_below c_leastAbove c_leastBelow (-1) c_has c_part c_speed)) rfl dX9_laysTurns_2 ?_
  refine g_iconst C dX9_laysTurns_5 ?_
  refine g_istore C hN dX9_laysTurns_6 rfl (L' := [some (.ref a_t), some (.int (wI x1)), some (.int (wI x2)), some (.int (wI x3)), some (.int (wI x4)), some (.int (wI 0))]) rfl ?_
  exact wl_X9_laysTurns_8 C hN h hret
end S_X9_laysTurns
set_option maxRecDepth 100000 in
set_option maxHeartbeats 4000000 in
theorem c_X9_laysTurns (l : Launch) (D : va_G) (cy : Nat → ClassId) (ad : AD) (a_t a_t_has a_t_part a_t_speed : Nat) (g_t_0 : Value) (g_t_1 : Value) (g_t_2 : Value) (g_t_3 : Value) (g_t_4 : Value) (g_t_5 : Value) (g_t_6 : Value) (g_t_7 : Value) (g_t_8 : Value) (g_t_9 : Value) (g_t_10 : Value) (g_t_11 : Value) (g_t_12 : Value) (g_t_13 : Value) (g_t_14 : Value) (g_t_15 : Value) (g_t_16 : Value) (g_t_19 : Value) (g_t_20 : Value) (g_t_21 : Value) (g_t_22 : Value) (g_t_26 : Value) (g_t_30 : Value) (g_t_31 : Value) (g_t_32 : Value) (g_t_33 : Value) (g_t_34 : Value) (g_t_35 : Value) (g_t_36 : Value) (g_t_37 : Value) (g_t_38 : Value) (g_t_39 : Value) (g_t_40 : Value) (g_t_41 : Value) (g_t_42 : Value) (g_t_43 : Value) (x1 : Int) (x2 : Int) (x3 : Int) (x4 : Int) (c_above : Int) (c_below : Int) (c_leastAbove : Int) (c_leastBelow : Int) (c_leastOf : Int) (c_has : Int → Int) (c_part : Int → Int) (c_speed : Int → Int) (F : Nat) {v : Int × Int × Int × Int × Int} (h : m_X9_laysTurns F x1 x2 x3 x4 c_above c_below c_leastAbove c_leastBelow c_has c_part c_speed = some v) : Ct l yX9_laysTurns cX9_laysTurns 6 none { frames := 203, cells := 0, slots := 0, locals := 6270 } D cy ad [.ref a_t, .int (wI x1), .int (wI x2), .int (wI x3), .int (wI x4)] (W_X9_laysTurns cy a_t a_t_has a_t_part a_t_speed g_t_0 g_t_1 g_t_2 g_t_3 g_t_4 g_t_5 g_t_6 g_t_7 g_t_8 g_t_9 g_t_10 g_t_11 g_t_12 g_t_13 g_t_14 g_t_15 g_t_16 g_t_19 g_t_20 g_t_21 g_t_22 g_t_26 g_t_30 g_t_31 g_t_32 g_t_33 g_t_34 g_t_35 g_t_36 g_t_37 g_t_38 g_t_39 g_t_40 g_t_41 g_t_42 g_t_43 c_above c_below c_leastAbove c_leastBelow c_leastOf c_has c_part c_speed) (W_X9_laysTurns cy a_t a_t_has a_t_part a_t_speed g_t_0 g_t_1 g_t_2 g_t_3 g_t_4 g_t_5 g_t_6 g_t_7 g_t_8 g_t_9 g_t_10 g_t_11 g_t_12 g_t_13 g_t_14 g_t_15 g_t_16 g_t_19 g_t_20 g_t_21 g_t_22 g_t_26 g_t_30 g_t_31 g_t_32 g_t_33 g_t_34 g_t_35 g_t_36 g_t_37 g_t_38 g_t_39 g_t_40 g_t_41 g_t_42 g_t_43 (v.1) (v.2.1) (v.2.2.1) (v.2.2.2.1) (v.2.2.2.2) c_has c_part c_speed) none := by
  refine Ct.introV (j := 1) (plainFor_of_name (by decide)) rfl rfl (fun E C e1 e2 e3 e4 e5 hret => ?_)
  subst e1; subst e2; subst e3; subst e4
  exact wm_X9_laysTurns C e5 h hret
-- MovingStairModel.isTurn(III)Z
def W_X9_isTurn (cy : Nat → ClassId) (a_t a_t_act a_t_has a_t_part a_t_speed : Nat) (g_t_0 : Value) (g_t_1 : Value) (g_t_2 : Value) (g_t_3 : Value) (g_t_4 : Value) (g_t_5 : Value) (g_t_6 : Value) (g_t_7 : Value) (g_t_8 : Value) (g_t_9 : Value) (g_t_10 : Value) (g_t_11 : Value) (g_t_12 : Value) (g_t_13 : Value) (g_t_14 : Value) (g_t_15 : Value) (g_t_16 : Value) (g_t_19 : Value) (g_t_20 : Value) (g_t_22 : Value) (g_t_24 : Value) (g_t_25 : Value) (g_t_26 : Value) (g_t_27 : Value) (g_t_28 : Value) (g_t_29 : Value) (g_t_30 : Value) (g_t_31 : Value) (g_t_32 : Value) (g_t_33 : Value) (g_t_34 : Value) (g_t_35 : Value) (g_t_36 : Value) (g_t_37 : Value) (g_t_38 : Value) (g_t_39 : Value) (g_t_40 : Value) (g_t_41 : Value) (g_t_42 : Value) (g_t_43 : Value) (c_act : Int → Int) (c_has : Int → Int) (c_part : Int → Int) (c_speed : Int → Int) : va_W := [(a_t, .inr (9, [g_t_0, g_t_1, g_t_2, g_t_3, g_t_4, g_t_5, g_t_6, g_t_7, g_t_8, g_t_9, g_t_10, g_t_11, g_t_12, g_t_13, g_t_14, g_t_15, g_t_16, .ref a_t_has, .ref a_t_part, g_t_19, g_t_20, .ref a_t_act, g_t_22, .ref a_t_speed, g_t_24, g_t_25, g_t_26, g_t_27, g_t_28, g_t_29, g_t_30, g_t_31, g_t_32, g_t_33, g_t_34, g_t_35, g_t_36, g_t_37, g_t_38, g_t_39, g_t_40, g_t_41, g_t_42, g_t_43])), (a_t_act, .inl (cy 1, 600, .inl (aI c_act))), (a_t_has, .inl (cy 1, 45, .inl (aI c_has))), (a_t_part, .inl (cy 1, 40, .inl (aI c_part))), (a_t_speed, .inl (cy 1, 4, .inl (aI c_speed)))]
def m_X9_isTurn (F : Nat) (x1 : Int) (x2 : Int) (x3 : Int) (c_act : Int → Int) (c_has : Int → Int) (c_part : Int → Int) (c_speed : Int → Int) : Option (Int × (Int → Int)) :=
  bnd2 (m_X9_isWay F x1 x3 c_act c_has c_part c_speed) fun r1 o2 => if wI r1 = wI 0 then
    (some (0, o2))
  else
    (chk (r32 x2) <| bnd1 (m_X9_in F x2 0 60) fun r5 => if wI r5 = wI 0 then
    (some (0, o2))
  else
    (if wI (c_has 1) ≤ wI 0 then
    (some (0, o2))
  else
    (some (1, o2))))
section S_X9_isTurn
variable {E : EE} {a_t a_t_act a_t_has a_t_part a_t_speed : Nat} {g_t_0 : Value} {g_t_1 : Value} {g_t_2 : Value} {g_t_3 : Value} {g_t_4 : Value} {g_t_5 : Value} {g_t_6 : Value} {g_t_7 : Value} {g_t_8 : Value} {g_t_9 : Value} {g_t_10 : Value} {g_t_11 : Value} {g_t_12 : Value} {g_t_13 : Value} {g_t_14 : Value} {g_t_15 : Value} {g_t_16 : Value} {g_t_19 : Value} {g_t_20 : Value} {g_t_22 : Value} {g_t_24 : Value} {g_t_25 : Value} {g_t_26 : Value} {g_t_27 : Value} {g_t_28 : Value} {g_t_29 : Value} {g_t_30 : Value} {g_t_31 : Value} {g_t_32 : Value} {g_t_33 : Value} {g_t_34 : Value} {g_t_35 : Value} {g_t_36 : Value} {g_t_37 : Value} {g_t_38 : Value} {g_t_39 : Value} {g_t_40 : Value} {g_t_41 : Value} {g_t_42 : Value} {g_t_43 : Value}
set_option maxRecDepth 100000 in
set_option maxHeartbeats 4000000 in
theorem wm_X9_isTurn {F : Nat} {v : Int × (Int → Int)} {x1 : Int} {x2 : Int} {x3 : Int} {c_act : Int → Int} {c_has : Int → Int} {c_part : Int → Int} {c_speed : Int → Int} (C : Cx E cX9_isTurn RX9 { frames := 3, cells := 0, slots := 0, locals := 68 }) (hN : eN E = 4) (h : m_X9_isTurn F x1 x2 x3 c_act c_has c_part c_speed = some v) (hret : ∀ (pc : Nat) (L : List (Option Value)), narrow .boolean (.int (wI (v.1))) = .int (wI (v.1)) → decode cX9_isTurn pc = .ok (.ireturn, 1) → GG E 0 0 (W_X9_isTurn (eCy E) a_t a_t_act a_t_has a_t_part a_t_speed g_t_0 g_t_1 g_t_2 g_t_3 g_t_4 g_t_5 g_t_6 g_t_7 g_t_8 g_t_9 g_t_10 g_t_11 g_t_12 g_t_13 g_t_14 g_t_15 g_t_16 g_t_19 g_t_20 g_t_22 g_t_24 g_t_25 g_t_26 g_t_27 g_t_28 g_t_29 g_t_30 g_t_31 g_t_32 g_t_33 g_t_34 g_t_35 g_t_36 g_t_37 g_t_38 g_t_39 g_t_40 g_t_41 g_t_42 g_t_43 c_act c_has c_part (v.2)) L pc [.int (wI (v.1))]) : GG E 0 0 (W_X9_isTurn (eCy E) a_t a_t_act a_t_has a_t_part a_t_speed g_t_0 g_t_1 g_t_2 g_t_3 g_t_4 g_t_5 g_t_6 g_t_7 g_t_8 g_t_9 g_t_10 g_t_11 g_t_12 g_t_13 g_t_14 g_t_15 g_t_16 g_t_19 g_t_20 g_t_22 g_t_24 g_t_25 g_t_26 g_t_27 g_t_28 g_t_29 g_t_30 g_t_31 g_t_32 g_t_33 g_t_34 g_t_35 g_t_36 g_t_37 g_t_38 g_t_39 g_t_40 g_t_41 g_t_42 g_t_43 c_act c_has c_part c_speed) [some (.ref a_t), some (.int (wI x1)), some (.int (wI x2)), some (.int (wI x3))] 0 [] := by
  unfold m_X9_isTurn at h
  refine g_aload_n 0 C dX9_isTurn_0 rfl rfl ?_
  refine g_iload_n 1 C dX9_isTurn_1 rfl rfl ?_
  refine g_iload_n 3 C dX9_isTurn_2 rfl rfl ?_
  obtain ⟨r1, o2, hr3, h⟩ := bnd2_some h
  refine g_callI [0, 1, 2, 3, 4] [] [0, 1, 2, 3, 4] C mt_X9_263 (c_X9_isWay _ _ _ _ a_t a_t_act a_t_has a_t_part a_t_speed (g_t_0) (g_t_1) (g_t_2) (g_t_3) (g_t_4) (g_t_5) (g_t_6) (g_t_7) (g_t_8) (g_t_9) (g_t_10) (g_t_11) (g_t_12) (g_t_13) (g_t_14) (g_t_15) (g_t_16) (g_t_19) (g_t_20) (g_t_22) (g_t_24) (g_t_25) (g_t_26) (g_t_27) (g_t_28) (g_t_29) (g_t_30) (g_t_31) (g_t_32) (g_t_33) (g_t_34) (g_t_35) (g_t_36) (g_t_37) (g_t_38) (g_t_39) (g_t_40) (g_t_41) (g_t_42) (g_t_43) x1 x3 c_act c_has c_part c_speed F hr3) (q0 := 0) rfl (ci := 9) rfl rfl rfl (ws2 := (W_X9_isTurn (eCy E) a_t a_t_act a_t_has a_t_part a_t_speed g_t_0 g_t_1 g_t_2 g_t_3 g_t_4 g_t_5 g_t_6 g_t_7 g_t_8 g_t_9 g_t_10 g_t_11 g_t_12 g_t_13 g_t_14 g_t_15 g_t_16 g_t_19 g_t_20 g_t_22 g_t_24 g_t_25 g_t_26 g_t_27 g_t_28 g_t_29 g_t_30 g_t_31 g_t_32 g_t_33 g_t_34 g_t_35 g_t_36 g_t_37 g_t_38 g_t_39 g_t_40 g_t_41 g_t_42 g_t_43 c_act c_has c_part o2)) rfl rfl rfl (rest := []) rfl rfl rfl dX9_isTurn_3 ?_
  refine g_if_eq 34 C dX9_isTurn_6 (by decide) h (fun h => ?_) (fun h => ?_)
  · refine g_iconst C dX9_isTurn_34 ?_
    cases h
    exact hret 35 _ bn0 dX9_isTurn_35
  · refine g_iload_n 2 C dX9_isTurn_9 rfl rfl ?_
    obtain ⟨hc4, h⟩ := chk_some h
    refine g_i2l C dX9_isTurn_10 hc4 ?_
    refine g_lconst (x := 0) C dX9_isTurn_11 (by decide) ?_
    refine g_ldc2 (v := 60) C mc_X9_276 dX9_isTurn_12 ?_
    obtain ⟨r5, hr6, h⟩ := bnd1_some h
    refine g_callSI [] [0, 1, 2, 3, 4] [0, 1, 2, 3, 4] C mt_X9_76 (c_X9_in _ _ _ _ x2 0 60 F hr6) rfl rfl (ws2 := (W_X9_isTurn (eCy E) a_t a_t_act a_t_has a_t_part a_t_speed g_t_0 g_t_1 g_t_2 g_t_3 g_t_4 g_t_5 g_t_6 g_t_7 g_t_8 g_t_9 g_t_10 g_t_11 g_t_12 g_t_13 g_t_14 g_t_15 g_t_16 g_t_19 g_t_20 g_t_22 g_t_24 g_t_25 g_t_26 g_t_27 g_t_28 g_t_29 g_t_30 g_t_31 g_t_32 g_t_33 g_t_34 g_t_35 g_t_36 g_t_37 g_t_38 g_t_39 g_t_40 g_t_41 g_t_42 g_t_43 c_act c_has c_part o2)) rfl rfl rfl (rest := []) rfl rfl rfl dX9_isTurn_15 ?_
    refine g_if_eq 34 C dX9_isTurn_18 (by decide) h (fun h => ?_) (fun h => ?_)
    · refine g_iconst C dX9_isTurn_34 ?_
      cases h
      exact hret 35 _ bn0 dX9_isTurn_35
    · refine g_aload_n 0 C dX9_isTurn_21 rfl rfl ?_
      refine g_get C fg_X9_34 0 rfl rfl dX9_isTurn_22 ?_
      refine g_iconst C dX9_isTurn_25 ?_
      refine g_iald C 2 rfl (by decide) rfl dX9_isTurn_26 ?_
      refine g_if_le 34 C dX9_isTurn_27 (by decide) h (fun h => ?_) (fun h => ?_)
      · refine g_iconst C dX9_isTurn_34 ?_
        cases h
        exact hret 35 _ bn0 dX9_isTurn_35
      · refine g_iconst C dX9_isTurn_30 ?_
        refine g_goto (tgt := 35) C dX9_isTurn_31 (by decide) ?_
        cases h
        exact hret 35 _ bn1 dX9_isTurn_35
end S_X9_isTurn
set_option maxRecDepth 100000 in
set_option maxHeartbeats 4000000 in
theorem c_X9_isTurn (l : Launch) (D : va_G) (cy : Nat → ClassId) (ad : AD) (a_t a_t_act a_t_has a_t_part a_t_speed : Nat) (g_t_0 : Value) (g_t_1 : Value) (g_t_2 : Value) (g_t_3 : Value) (g_t_4 : Value) (g_t_5 : Value) (g_t_6 : Value) (g_t_7 : Value) (g_t_8 : Value) (g_t_9 : Value) (g_t_10 : Value) (g_t_11 : Value) (g_t_12 : Value) (g_t_13 : Value) (g_t_14 : Value) (g_t_15 : Value) (g_t_16 : Value) (g_t_19 : Value) (g_t_20 : Value) (g_t_22 : Value) (g_t_24 : Value) (g_t_25 : Value) (g_t_26 : Value) (g_t_27 : Value) (g_t_28 : Value) (g_t_29 : Value) (g_t_30 : Value) (g_t_31 : Value) (g_t_32 : Value) (g_t_33 : Value) (g_t_34 : Value) (g_t_35 : Value) (g_t_36 : Value) (g_t_37 : Value) (g_t_38 : Value) (g_t_39 : Value) (g_t_40 : Value) (g_t_41 : Value) (g_t_42 : Value) (g_t_43 : Value) (x1 : Int) (x2 : Int) (x3 : Int) (c_act : Int → Int) (c_has : Int → Int) (c_part : Int → Int) (c_speed : Int → Int) (F : Nat) {v : Int × (Int → Int)} (h : m_X9_isTurn F x1 x2 x3 c_act c_has c_part c_speed = some v) : Ct l yX9_isTurn cX9_isTurn 4 (some .boolean) { frames := 3, cells := 0, slots := 0, locals := 68 } D cy ad [.ref a_t, .int (wI x1), .int (wI x2), .int (wI x3)] (W_X9_isTurn cy a_t a_t_act a_t_has a_t_part a_t_speed g_t_0 g_t_1 g_t_2 g_t_3 g_t_4 g_t_5 g_t_6 g_t_7 g_t_8 g_t_9 g_t_10 g_t_11 g_t_12 g_t_13 g_t_14 g_t_15 g_t_16 g_t_19 g_t_20 g_t_22 g_t_24 g_t_25 g_t_26 g_t_27 g_t_28 g_t_29 g_t_30 g_t_31 g_t_32 g_t_33 g_t_34 g_t_35 g_t_36 g_t_37 g_t_38 g_t_39 g_t_40 g_t_41 g_t_42 g_t_43 c_act c_has c_part c_speed) (W_X9_isTurn cy a_t a_t_act a_t_has a_t_part a_t_speed g_t_0 g_t_1 g_t_2 g_t_3 g_t_4 g_t_5 g_t_6 g_t_7 g_t_8 g_t_9 g_t_10 g_t_11 g_t_12 g_t_13 g_t_14 g_t_15 g_t_16 g_t_19 g_t_20 g_t_22 g_t_24 g_t_25 g_t_26 g_t_27 g_t_28 g_t_29 g_t_30 g_t_31 g_t_32 g_t_33 g_t_34 g_t_35 g_t_36 g_t_37 g_t_38 g_t_39 g_t_40 g_t_41 g_t_42 g_t_43 c_act c_has c_part (v.2)) (some (.int (wI (v.1)))) := by
  refine Ct.introZ (j := 0) (plainFor_of_name (by decide)) rfl rfl (fun E C e1 e2 e3 e4 e5 hret => ?_)
  subst e1; subst e2; subst e3; subst e4
  exact wm_X9_isTurn C e5 h hret
-- MovingStairModel.lace(III)J
def W_X9_lace (cy : Nat → ClassId) (a_t a_t_act a_t_has a_t_pace a_t_part a_t_speed : Nat) (g_t_1 : Value) (g_t_2 : Value) (g_t_3 : Value) (g_t_4 : Value) (g_t_5 : Value) (g_t_6 : Value) (g_t_7 : Value) (g_t_8 : Value) (g_t_9 : Value) (g_t_10 : Value) (g_t_11 : Value) (g_t_12 : Value) (g_t_13 : Value) (g_t_14 : Value) (g_t_15 : Value) (g_t_16 : Value) (g_t_20 : Value) (g_t_22 : Value) (g_t_26 : Value) (g_t_30 : Value) (g_t_31 : Value) (g_t_32 : Value) (g_t_33 : Value) (g_t_34 : Value) (g_t_35 : Value) (g_t_36 : Value) (g_t_37 : Value) (g_t_38 : Value) (g_t_39 : Value) (g_t_40 : Value) (g_t_41 : Value) (g_t_42 : Value) (g_t_43 : Value) (c_thrown : Int) (c_above : Int) (c_below : Int) (c_leastAbove : Int) (c_leastBelow : Int) (c_leastOf : Int) (c_act : Int → Int) (c_has : Int → Int) (c_pace : Int → Int) (c_part : Int → Int) (c_speed : Int → Int) : va_W := [(a_t, .inr (9, [.int (wI c_thrown), g_t_1, g_t_2, g_t_3, g_t_4, g_t_5, g_t_6, g_t_7, g_t_8, g_t_9, g_t_10, g_t_11, g_t_12, g_t_13, g_t_14, g_t_15, g_t_16, .ref a_t_has, .ref a_t_part, .ref a_t_pace, g_t_20, .ref a_t_act, g_t_22, .ref a_t_speed, .long (wJ c_above), .long (wJ c_below), g_t_26, .long (wJ c_leastAbove), .long (wJ c_leastBelow), .int (wI c_leastOf), g_t_30, g_t_31, g_t_32, g_t_33, g_t_34, g_t_35, g_t_36, g_t_37, g_t_38, g_t_39, g_t_40, g_t_41, g_t_42, g_t_43])), (a_t_act, .inl (cy 1, 600, .inl (aI c_act))), (a_t_has, .inl (cy 1, 45, .inl (aI c_has))), (a_t_pace, .inl (cy 1, 40, .inl (aI c_pace))), (a_t_part, .inl (cy 1, 40, .inl (aI c_part))), (a_t_speed, .inl (cy 1, 4, .inl (aI c_speed)))]
def m_X9_lace (F : Nat) (x1 : Int) (x2 : Int) (x3 : Int) (c_above : Int) (c_below : Int) (c_leastAbove : Int) (c_leastBelow : Int) (c_leastOf : Int) (c_act : Int → Int) (c_has : Int → Int) (c_pace : Int → Int) (c_part : Int → Int) (c_speed : Int → Int) : Option (Int × Int × Int × Int × Int × Int × Int × (Int → Int)) :=
  bnd2 (m_X9_isTurn F x1 x2 x3 c_act c_has c_part c_speed) fun r1 o2 => if wI r1 = wI 0 then
    (some ((-2), 0, c_above, c_below, c_leastAbove, c_leastBelow, c_leastOf, o2))
  else
    (chk (0 ≤ x1 ∧ x1 < 40) <| bnd5 (m_X9_laysTurns F (c_pace x1) 0 x2 1 c_above c_below c_leastAbove c_leastBelow c_has c_part o2) fun o5 o6 o7 o8 o9 => if wI o9 = wI (-1) then
    (some ((-1), 0, o5, o6, o7, o8, o9, o2))
  else
    (if wI x3 = wI 0 then
    (some (o7, 0, o5, o6, o7, o8, o9, o2))
  else
    (some (o8, 0, o5, o6, o7, o8, o9, o2))))
section S_X9_lace
variable {E : EE} {a_t a_t_act a_t_has a_t_pace a_t_part a_t_speed : Nat} {g_t_1 : Value} {g_t_2 : Value} {g_t_3 : Value} {g_t_4 : Value} {g_t_5 : Value} {g_t_6 : Value} {g_t_7 : Value} {g_t_8 : Value} {g_t_9 : Value} {g_t_10 : Value} {g_t_11 : Value} {g_t_12 : Value} {g_t_13 : Value} {g_t_14 : Value} {g_t_15 : Value} {g_t_16 : Value} {g_t_20 : Value} {g_t_22 : Value} {g_t_26 : Value} {g_t_30 : Value} {g_t_31 : Value} {g_t_32 : Value} {g_t_33 : Value} {g_t_34 : Value} {g_t_35 : Value} {g_t_36 : Value} {g_t_37 : Value} {g_t_38 : Value} {g_t_39 : Value} {g_t_40 : Value} {g_t_41 : Value} {g_t_42 : Value} {g_t_43 : Value}
set_option maxRecDepth 100000 in
set_option maxHeartbeats 4000000 in
theorem wm_X9_lace {F : Nat} {v : Int × Int × Int × Int × Int × Int × Int × (Int → Int)} {x1 : Int} {x2 : Int} {x3 : Int} {c_above : Int} {c_below : Int} {c_leastAbove : Int} {c_leastBelow : Int} {c_leastOf : Int} {c_act : Int → Int} {c_has : Int → Int} {c_pace : Int → Int} {c_part : Int → Int} {c_speed : Int → Int} {c_thrown : Int} (C : Cx E cX9_lace RX9 { frames := 204, cells := 0, slots := 0, locals := 6295 }) (hN : eN E = 4) (h : m_X9_lace F x1 x2 x3 c_above c_below c_leastAbove c_leastBelow c_leastOf c_act c_has c_pace c_part c_speed = some v) (hret : ∀ (pc : Nat) (L : List (Option Value)), decode cX9_lace pc = .ok (.lreturn, 1) → GG E 0 0 (W_X9_lace (eCy E) a_t a_t_act a_t_has a_t_pace a_t_part a_t_speed g_t_1 g_t_2 g_t_3 g_t_4 g_t_5 g_t_6 g_t_7 g_t_8 g_t_9 g_t_10 g_t_11 g_t_12 g_t_13 g_t_14 g_t_15 g_t_16 g_t_20 g_t_22 g_t_26 g_t_30 g_t_31 g_t_32 g_t_33 g_t_34 g_t_35 g_t_36 g_t_37 g_t_38 g_t_39 g_t_40 g_t_41 g_t_42 g_t_43 (v.2.1) (v.2.2.1) (v.2.2.2.1) (v.2.2.2.2.1) (v.2.2.2.2.2.1) (v.2.2.2.2.2.2.1) c_act c_has c_pace c_part (v.2.2.2.2.2.2.2)) L pc [.long (wJ (v.1))]) : GG E 0 0 (W_X9_lace (eCy E) a_t a_t_act a_t_has a_t_pace a_t_part a_t_speed g_t_1 g_t_2 g_t_3 g_t_4 g_t_5 g_t_6 g_t_7 g_t_8 g_t_9 g_t_10 g_t_11 g_t_12 g_t_13 g_t_14 g_t_15 g_t_16 g_t_20 g_t_22 g_t_26 g_t_30 g_t_31 g_t_32 g_t_33 g_t_34 g_t_35 g_t_36 g_t_37 g_t_38 g_t_39 g_t_40 g_t_41 g_t_42 g_t_43 c_thrown c_above c_below c_leastAbove c_leastBelow c_leastOf c_act c_has c_pace c_part c_speed) [some (.ref a_t), some (.int (wI x1)), some (.int (wI x2)), some (.int (wI x3))] 0 [] := by
  unfold m_X9_lace at h
  refine g_aload_n 0 C dX9_lace_0 rfl rfl ?_
  refine g_iconst C dX9_lace_1 ?_
  refine g_putI C fp_X9_71 0 rfl rfl (ws' := (W_X9_lace (eCy E) a_t a_t_act a_t_has a_t_pace a_t_part a_t_speed g_t_1 g_t_2 g_t_3 g_t_4 g_t_5 g_t_6 g_t_7 g_t_8 g_t_9 g_t_10 g_t_11 g_t_12 g_t_13 g_t_14 g_t_15 g_t_16 g_t_20 g_t_22 g_t_26 g_t_30 g_t_31 g_t_32 g_t_33 g_t_34 g_t_35 g_t_36 g_t_37 g_t_38 g_t_39 g_t_40 g_t_41 g_t_42 g_t_43 0 c_above c_below c_leastAbove c_leastBelow c_leastOf c_act c_has c_pace c_part c_speed)) rfl dX9_lace_2 ?_
  refine g_aload_n 0 C dX9_lace_5 rfl rfl ?_
  refine g_iload_n 1 C dX9_lace_6 rfl rfl ?_
  refine g_iload_n 2 C dX9_lace_7 rfl rfl ?_
  refine g_iload_n 3 C dX9_lace_8 rfl rfl ?_
  obtain ⟨r1, o2, hr3, h⟩ := bnd2_some h
  refine g_callI [0, 1, 2, 4, 5] [3] [1, 2, 3, 0, 4, 5] C mt_X9_307 (c_X9_isTurn _ _ _ _ a_t a_t_act a_t_has a_t_part a_t_speed (.int (wI 0)) (g_t_1) (g_t_2) (g_t_3) (g_t_4) (g_t_5) (g_t_6) (g_t_7) (g_t_8) (g_t_9) (g_t_10) (g_t_11) (g_t_12) (g_t_13) (g_t_14) (g_t_15) (g_t_16) (.ref a_t_pace) (g_t_20) (g_t_22) (.long (wJ c_above)) (.long (wJ c_below)) (g_t_26) (.long (wJ c_leastAbove)) (.long (wJ c_leastBelow)) (.int (wI c_leastOf)) (g_t_30) (g_t_31) (g_t_32) (g_t_33) (g_t_34) (g_t_35) (g_t_36) (g_t_37) (g_t_38) (g_t_39) (g_t_40) (g_t_41) (g_t_42) (g_t_43) x1 x2 x3 c_act c_has c_part c_speed F hr3) (q0 := 0) rfl (ci := 9) rfl rfl rfl (ws2 := (W_X9_lace (eCy E) a_t a_t_act a_t_has a_t_pace a_t_part a_t_speed g_t_1 g_t_2 g_t_3 g_t_4 g_t_5 g_t_6 g_t_7 g_t_8 g_t_9 g_t_10 g_t_11 g_t_12 g_t_13 g_t_14 g_t_15 g_t_16 g_t_20 g_t_22 g_t_26 g_t_30 g_t_31 g_t_32 g_t_33 g_t_34 g_t_35 g_t_36 g_t_37 g_t_38 g_t_39 g_t_40 g_t_41 g_t_42 g_t_43 0 c_above c_below c_leastAbove c_leastBelow c_leastOf c_act c_has c_pace c_part o2)) rfl rfl rfl (rest := []) rfl rfl rfl dX9_lace_9 ?_
  refine g_if_ne 19 C dX9_lace_12 (by decide) h (fun h => ?_) (fun h => ?_)
  · refine g_aload_n 0 C dX9_lace_19 rfl rfl ?_
    refine g_aload_n 0 C dX9_lace_20 rfl rfl ?_
    refine g_get C fg_X9_40 0 rfl rfl dX9_lace_21 ?_
    refine g_iload_n 1 C dX9_lace_24 rfl rfl ?_
    obtain ⟨hc4, h⟩ := chk_some h
    refine g_iald C 3 rfl hc4 rfl dX9_lace_25 ?_
    refine g_iconst C dX9_lace_26 ?_
    refine g_iload_n 2 C dX9_lace_27 rfl rfl ?_
    refine g_iconst C dX9_lace_28 ?_
    obtain ⟨o5, o6, o7, o8, o9, hr10, h⟩ := bnd5_some h
    refine g_callV [0, 2, 4, 5] [1, 3] [2, 0, 3, 1, 4, 5] C mt_X9_310 (c_X9_laysTurns _ _ _ _ a_t a_t_has a_t_part a_t_speed (.int (wI 0)) (g_t_1) (g_t_2) (g_t_3) (g_t_4) (g_t_5) (g_t_6) (g_t_7) (g_t_8) (g_t_9) (g_t_10) (g_t_11) (g_t_12) (g_t_13) (g_t_14) (g_t_15) (g_t_16) (.ref a_t_pace) (g_t_20) (.ref a_t_act) (g_t_22) (g_t_26) (g_t_30) (g_t_31) (g_t_32) (g_t_33) (g_t_34) (g_t_35) (g_t_36) (g_t_37) (g_t_38) (g_t_39) (g_t_40) (g_t_41) (g_t_42) (g_t_43) (c_pace x1) 0 x2 1 c_above c_below c_leastAbove c_leastBelow c_leastOf c_has c_part o2 F hr10) (q0 := 0) rfl (ci := 9) rfl rfl rfl (ws2 := (W_X9_lace (eCy E) a_t a_t_act a_t_has a_t_pace a_t_part a_t_speed g_t_1 g_t_2 g_t_3 g_t_4 g_t_5 g_t_6 g_t_7 g_t_8 g_t_9 g_t_10 g_t_11 g_t_12 g_t_13 g_t_14 g_t_15 g_t_16 g_t_20 g_t_22 g_t_26 g_t_30 g_t_31 g_t_32 g_t_33 g_t_34 g_t_35 g_t_36 g_t_37 g_t_38 g_t_39 g_t_40 g_t_41 g_t_42 g_t_43 0 o5 o6 o7 o8 o9 c_act c_has c_pace c_part o2)) rfl rfl rfl (rest := []) rfl rfl rfl dX9_lace_29 ?_
    refine g_aload_n 0 C dX9_lace_32 rfl rfl ?_
    refine g_get C fg_X9_288 0 rfl rfl dX9_lace_33 ?_
    refine g_st (st' := [.int (wI o9)]) rfl ?_
    refine g_iconst C dX9_lace_36 ?_
    refine g_icmp_ne 46 C dX9_lace_37 (by decide) h (fun h => ?_) (fun h => ?_)
    · refine g_iload_n 3 C dX9_lace_46 rfl rfl ?_
      refine g_if_ne 57 C dX9_lace_47 (by decide) h (fun h => ?_) (fun h => ?_)
      · refine g_aload_n 0 C dX9_lace_57 rfl rfl ?_
        refine g_get C fg_X9_294 0 rfl rfl dX9_lace_58 ?_
        refine g_st (st' := [.long (wJ o8)]) rfl ?_
        cases h
        exact hret 61 _ dX9_lace_61
      · refine g_aload_n 0 C dX9_lace_50 rfl rfl ?_
        refine g_get C fg_X9_291 0 rfl rfl dX9_lace_51 ?_
        refine g_st (st' := [.long (wJ o7)]) rfl ?_
        refine g_goto (tgt := 61) C dX9_lace_54 (by decide) ?_
        cases h
        exact hret 61 _ dX9_lace_61
    · refine g_ldc2 (v := -1) C mc_X9_115 dX9_lace_40 ?_
      refine g_goto (tgt := 61) C dX9_lace_43 (by decide) ?_
      cases h
      exact hret 61 _ dX9_lace_61
  · refine g_ldc2 (v := -2) C mc_X9_267 dX9_lace_15 ?_
    cases h
    exact hret 18 _ dX9_lace_18
end S_X9_lace
set_option maxRecDepth 100000 in
set_option maxHeartbeats 4000000 in
theorem c_X9_lace (l : Launch) (D : va_G) (cy : Nat → ClassId) (ad : AD) (a_t a_t_act a_t_has a_t_pace a_t_part a_t_speed : Nat) (g_t_1 : Value) (g_t_2 : Value) (g_t_3 : Value) (g_t_4 : Value) (g_t_5 : Value) (g_t_6 : Value) (g_t_7 : Value) (g_t_8 : Value) (g_t_9 : Value) (g_t_10 : Value) (g_t_11 : Value) (g_t_12 : Value) (g_t_13 : Value) (g_t_14 : Value) (g_t_15 : Value) (g_t_16 : Value) (g_t_20 : Value) (g_t_22 : Value) (g_t_26 : Value) (g_t_30 : Value) (g_t_31 : Value) (g_t_32 : Value) (g_t_33 : Value) (g_t_34 : Value) (g_t_35 : Value) (g_t_36 : Value) (g_t_37 : Value) (g_t_38 : Value) (g_t_39 : Value) (g_t_40 : Value) (g_t_41 : Value) (g_t_42 : Value) (g_t_43 : Value) (x1 : Int) (x2 : Int) (x3 : Int) (c_thrown : Int) (c_above : Int) (c_below : Int) (c_leastAbove : Int) (c_leastBelow : Int) (c_leastOf : Int) (c_act : Int → Int) (c_has : Int → Int) (c_pace : Int → Int) (c_part : Int → Int) (c_speed : Int → Int) (F : Nat) {v : Int × Int × Int × Int × Int × Int × Int × (Int → Int)} (h : m_X9_lace F x1 x2 x3 c_above c_below c_leastAbove c_leastBelow c_leastOf c_act c_has c_pace c_part c_speed = some v) : Ct l yX9_lace cX9_lace 4 (some .long) { frames := 204, cells := 0, slots := 0, locals := 6295 } D cy ad [.ref a_t, .int (wI x1), .int (wI x2), .int (wI x3)] (W_X9_lace cy a_t a_t_act a_t_has a_t_pace a_t_part a_t_speed g_t_1 g_t_2 g_t_3 g_t_4 g_t_5 g_t_6 g_t_7 g_t_8 g_t_9 g_t_10 g_t_11 g_t_12 g_t_13 g_t_14 g_t_15 g_t_16 g_t_20 g_t_22 g_t_26 g_t_30 g_t_31 g_t_32 g_t_33 g_t_34 g_t_35 g_t_36 g_t_37 g_t_38 g_t_39 g_t_40 g_t_41 g_t_42 g_t_43 c_thrown c_above c_below c_leastAbove c_leastBelow c_leastOf c_act c_has c_pace c_part c_speed) (W_X9_lace cy a_t a_t_act a_t_has a_t_pace a_t_part a_t_speed g_t_1 g_t_2 g_t_3 g_t_4 g_t_5 g_t_6 g_t_7 g_t_8 g_t_9 g_t_10 g_t_11 g_t_12 g_t_13 g_t_14 g_t_15 g_t_16 g_t_20 g_t_22 g_t_26 g_t_30 g_t_31 g_t_32 g_t_33 g_t_34 g_t_35 g_t_36 g_t_37 g_t_38 g_t_39 g_t_40 g_t_41 g_t_42 g_t_43 (v.2.1) (v.2.2.1) (v.2.2.2.1) (v.2.2.2.2.1) (v.2.2.2.2.2.1) (v.2.2.2.2.2.2.1) c_act c_has c_pace c_part (v.2.2.2.2.2.2.2)) (some (.long (wJ (v.1)))) := by
  refine Ct.introJ (j := 0) (plainFor_of_name (by decide)) rfl rfl (fun E C e1 e2 e3 e4 e5 hret => ?_)
  subst e1; subst e2; subst e3; subst e4
  exact wm_X9_lace C e5 h hret
-- MovingStairModel.ties(II)I
def W_X9_ties (cy : Nat → ClassId) (a_t a_t_act a_t_has a_t_pace a_t_part a_t_speed : Nat) (g_t_1 : Value) (g_t_2 : Value) (g_t_3 : Value) (g_t_4 : Value) (g_t_5 : Value) (g_t_6 : Value) (g_t_7 : Value) (g_t_8 : Value) (g_t_9 : Value) (g_t_10 : Value) (g_t_11 : Value) (g_t_12 : Value) (g_t_13 : Value) (g_t_14 : Value) (g_t_15 : Value) (g_t_16 : Value) (g_t_20 : Value) (g_t_22 : Value) (g_t_26 : Value) (g_t_30 : Value) (g_t_31 : Value) (g_t_32 : Value) (g_t_33 : Value) (g_t_34 : Value) (g_t_35 : Value) (g_t_36 : Value) (g_t_37 : Value) (g_t_38 : Value) (g_t_39 : Value) (g_t_40 : Value) (g_t_41 : Value) (g_t_42 : Value) (g_t_43 : Value) (c_thrown : Int) (c_above : Int) (c_below : Int) (c_leastAbove : Int) (c_leastBelow : Int) (c_leastOf : Int) (c_act : Int → Int) (c_has : Int → Int) (c_pace : Int → Int) (c_part : Int → Int) (c_speed : Int → Int) : va_W := [(a_t, .inr (9, [.int (wI c_thrown), g_t_1, g_t_2, g_t_3, g_t_4, g_t_5, g_t_6, g_t_7, g_t_8, g_t_9, g_t_10, g_t_11, g_t_12, g_t_13, g_t_14, g_t_15, g_t_16, .ref a_t_has, .ref a_t_part, .ref a_t_pace, g_t_20, .ref a_t_act, g_t_22, .ref a_t_speed, .long (wJ c_above), .long (wJ c_below), g_t_26, .long (wJ c_leastAbove), .long (wJ c_leastBelow), .int (wI c_leastOf), g_t_30, g_t_31, g_t_32, g_t_33, g_t_34, g_t_35, g_t_36, g_t_37, g_t_38, g_t_39, g_t_40, g_t_41, g_t_42, g_t_43])), (a_t_act, .inl (cy 1, 600, .inl (aI c_act))), (a_t_has, .inl (cy 1, 45, .inl (aI c_has))), (a_t_pace, .inl (cy 1, 40, .inl (aI c_pace))), (a_t_part, .inl (cy 1, 40, .inl (aI c_part))), (a_t_speed, .inl (cy 1, 4, .inl (aI c_speed)))]
def m_X9_ties (F : Nat) (x1 : Int) (x2 : Int) (c_above : Int) (c_below : Int) (c_leastAbove : Int) (c_leastBelow : Int) (c_leastOf : Int) (c_act : Int → Int) (c_has : Int → Int) (c_pace : Int → Int) (c_part : Int → Int) (c_speed : Int → Int) : Option (Int × Int × Int × Int × Int × Int × Int × (Int → Int)) :=
  bnd2 (m_X9_isTurn F x1 x2 0 c_act c_has c_part c_speed) fun r1 o2 => if wI r1 = wI 0 then
    (some ((-2), 0, c_above, c_below, c_leastAbove, c_leastBelow, c_leastOf, o2))
  else
    (chk (0 ≤ x1 ∧ x1 < 40) <| bnd5 (m_X9_laysTurns F (c_pace x1) 0 x2 1 c_above c_below c_leastAbove c_leastBelow c_has c_part o2) fun o5 o6 o7 o8 o9 => some (o9, 0, o5, o6, o7, o8, o9, o2))
section S_X9_ties
variable {E : EE} {a_t a_t_act a_t_has a_t_pace a_t_part a_t_speed : Nat} {g_t_1 : Value} {g_t_2 : Value} {g_t_3 : Value} {g_t_4 : Value} {g_t_5 : Value} {g_t_6 : Value} {g_t_7 : Value} {g_t_8 : Value} {g_t_9 : Value} {g_t_10 : Value} {g_t_11 : Value} {g_t_12 : Value} {g_t_13 : Value} {g_t_14 : Value} {g_t_15 : Value} {g_t_16 : Value} {g_t_20 : Value} {g_t_22 : Value} {g_t_26 : Value} {g_t_30 : Value} {g_t_31 : Value} {g_t_32 : Value} {g_t_33 : Value} {g_t_34 : Value} {g_t_35 : Value} {g_t_36 : Value} {g_t_37 : Value} {g_t_38 : Value} {g_t_39 : Value} {g_t_40 : Value} {g_t_41 : Value} {g_t_42 : Value} {g_t_43 : Value}
set_option maxRecDepth 100000 in
set_option maxHeartbeats 4000000 in
theorem wm_X9_ties {F : Nat} {v : Int × Int × Int × Int × Int × Int × Int × (Int → Int)} {x1 : Int} {x2 : Int} {c_above : Int} {c_below : Int} {c_leastAbove : Int} {c_leastBelow : Int} {c_leastOf : Int} {c_act : Int → Int} {c_has : Int → Int} {c_pace : Int → Int} {c_part : Int → Int} {c_speed : Int → Int} {c_thrown : Int} (C : Cx E cX9_ties RX9 { frames := 204, cells := 0, slots := 0, locals := 6295 }) (hN : eN E = 3) (h : m_X9_ties F x1 x2 c_above c_below c_leastAbove c_leastBelow c_leastOf c_act c_has c_pace c_part c_speed = some v) (hret : ∀ (pc : Nat) (L : List (Option Value)), decode cX9_ties pc = .ok (.ireturn, 1) → GG E 0 0 (W_X9_ties (eCy E) a_t a_t_act a_t_has a_t_pace a_t_part a_t_speed g_t_1 g_t_2 g_t_3 g_t_4 g_t_5 g_t_6 g_t_7 g_t_8 g_t_9 g_t_10 g_t_11 g_t_12 g_t_13 g_t_14 g_t_15 g_t_16 g_t_20 g_t_22 g_t_26 g_t_30 g_t_31 g_t_32 g_t_33 g_t_34 g_t_35 g_t_36 g_t_37 g_t_38 g_t_39 g_t_40 g_t_41 g_t_42 g_t_43 (v.2.1) (v.2.2.1) (v.2.2.2.1) (v.2.2.2.2.1) (v.2.2.2.2.2.1) (v.2.2.2.2.2.2.1) c_act c_has c_pace c_part (v.2.2.2.2.2.2.2)) L pc [.int (wI (v.1))]) : GG E 0 0 (W_X9_ties (eCy E) a_t a_t_act a_t_has a_t_pace a_t_part a_t_speed g_t_1 g_t_2 g_t_3 g_t_4 g_t_5 g_t_6 g_t_7 g_t_8 g_t_9 g_t_10 g_t_11 g_t_12 g_t_13 g_t_14 g_t_15 g_t_16 g_t_20 g_t_22 g_t_26 g_t_30 g_t_31 g_t_32 g_t_33 g_t_34 g_t_35 g_t_36 g_t_37 g_t_38 g_t_39 g_t_40 g_t_41 g_t_42 g_t_43 c_thrown c_above c_below c_leastAbove c_leastBelow c_leastOf c_act c_has c_pace c_part c_speed) [some (.ref a_t), some (.int (wI x1)), some (.int (wI x2))] 0 [] := by
  unfold m_X9_ties at h
  refine g_aload_n 0 C dX9_ties_0 rfl rfl ?_
  refine g_iconst C dX9_ties_1 ?_
  refine g_putI C fp_X9_71 0 rfl rfl (ws' := (W_X9_ties (eCy E) a_t a_t_act a_t_has a_t_pace a_t_part a_t_speed g_t_1 g_t_2 g_t_3 g_t_4 g_t_5 g_t_6 g_t_7 g_t_8 g_t_9 g_t_10 g_t_11 g_t_12 g_t_13 g_t_14 g_t_15 g_t_16 g_t_20 g_t_22 g_t_26 g_t_30 g_t_31 g_t_32 g_t_33 g_t_34 g_t_35 g_t_36 g_t_37 g_t_38 g_t_39 g_t_40 g_t_41 g_t_42 g_t_43 0 c_above c_below c_leastAbove c_leastBelow c_leastOf c_act c_has c_pace c_part c_speed)) rfl dX9_ties_2 ?_
  refine g_aload_n 0 C dX9_ties_5 rfl rfl ?_
  refine g_iload_n 1 C dX9_ties_6 rfl rfl ?_
  refine g_iload_n 2 C dX9_ties_7 rfl rfl ?_
  refine g_iconst C dX9_ties_8 ?_
  obtain ⟨r1, o2, hr3, h⟩ := bnd2_some h
  refine g_callI [0, 1, 2, 4, 5] [3] [1, 2, 3, 0, 4, 5] C mt_X9_307 (c_X9_isTurn _ _ _ _ a_t a_t_act a_t_has a_t_part a_t_speed (.int (wI 0)) (g_t_1) (g_t_2) (g_t_3) (g_t_4) (g_t_5) (g_t_6) (g_t_7) (g_t_8) (g_t_9) (g_t_10) (g_t_11) (g_t_12) (g_t_13) (g_t_14) (g_t_15) (g_t_16) (.ref a_t_pace) (g_t_20) (g_t_22) (.long (wJ c_above)) (.long (wJ c_below)) (g_t_26) (.long (wJ c_leastAbove)) (.long (wJ c_leastBelow)) (.int (wI c_leastOf)) (g_t_30) (g_t_31) (g_t_32) (g_t_33) (g_t_34) (g_t_35) (g_t_36) (g_t_37) (g_t_38) (g_t_39) (g_t_40) (g_t_41) (g_t_42) (g_t_43) x1 x2 0 c_act c_has c_part c_speed F hr3) (q0 := 0) rfl (ci := 9) rfl rfl rfl (ws2 := (W_X9_ties (eCy E) a_t a_t_act a_t_has a_t_pace a_t_part a_t_speed g_t_1 g_t_2 g_t_3 g_t_4 g_t_5 g_t_6 g_t_7 g_t_8 g_t_9 g_t_10 g_t_11 g_t_12 g_t_13 g_t_14 g_t_15 g_t_16 g_t_20 g_t_22 g_t_26 g_t_30 g_t_31 g_t_32 g_t_33 g_t_34 g_t_35 g_t_36 g_t_37 g_t_38 g_t_39 g_t_40 g_t_41 g_t_42 g_t_43 0 c_above c_below c_leastAbove c_leastBelow c_leastOf c_act c_has c_pace c_part o2)) rfl rfl rfl (rest := []) rfl rfl rfl dX9_ties_9 ?_
  refine g_if_ne 18 C dX9_ties_12 (by decide) h (fun h => ?_) (fun h => ?_)
  · refine g_aload_n 0 C dX9_ties_18 rfl rfl ?_
    refine g_aload_n 0 C dX9_ties_19 rfl rfl ?_
    refine g_get C fg_X9_40 0 rfl rfl dX9_ties_20 ?_
    refine g_iload_n 1 C dX9_ties_23 rfl rfl ?_
    obtain ⟨hc4, h⟩ := chk_some h
    refine g_iald C 3 rfl hc4 rfl dX9_ties_24 ?_
    refine g_iconst C dX9_ties_25 ?_
    refine g_iload_n 2 C dX9_ties_26 rfl rfl ?_
    refine g_iconst C dX9_ties_27 ?_
    obtain ⟨o5, o6, o7, o8, o9, hr10, h⟩ := bnd5_some h
    refine g_callV [0, 2, 4, 5] [1, 3] [2, 0, 3, 1, 4, 5] C mt_X9_310 (c_X9_laysTurns _ _ _ _ a_t a_t_has a_t_part a_t_speed (.int (wI 0)) (g_t_1) (g_t_2) (g_t_3) (g_t_4) (g_t_5) (g_t_6) (g_t_7) (g_t_8) (g_t_9) (g_t_10) (g_t_11) (g_t_12) (g_t_13) (g_t_14) (g_t_15) (g_t_16) (.ref a_t_pace) (g_t_20) (.ref a_t_act) (g_t_22) (g_t_26) (g_t_30) (g_t_31) (g_t_32) (g_t_33) (g_t_34) (g_t_35) (g_t_36) (g_t_37) (g_t_38) (g_t_39) (g_t_40) (g_t_41) (g_t_42) (g_t_43) (c_pace x1) 0 x2 1 c_above c_below c_leastAbove c_leastBelow c_leastOf c_has c_part o2 F hr10) (q0 := 0) rfl (ci := 9) rfl rfl rfl (ws2 := (W_X9_ties (eCy E) a_t a_t_act a_t_has a_t_pace a_t_part a_t_speed g_t_1 g_t_2 g_t_3 g_t_4 g_t_5 g_t_6 g_t_7 g_t_8 g_t_9 g_t_10 g_t_11 g_t_12 g_t_13 g_t_14 g_t_15 g_t_16 g_t_20 g_t_22 g_t_26 g_t_30 g_t_31 g_t_32 g_t_33 g_t_34 g_t_35 g_t_36 g_t_37 g_t_38 g_t_39 g_t_40 g_t_41 g_t_42 g_t_43 0 o5 o6 o7 o8 o9 c_act c_has c_pace c_part o2)) rfl rfl rfl (rest := []) rfl rfl rfl dX9_ties_28 ?_
    refine g_aload_n 0 C dX9_ties_31 rfl rfl ?_
    refine g_get C fg_X9_288 0 rfl rfl dX9_ties_32 ?_
    refine g_st (st' := [.int (wI o9)]) rfl ?_
    cases h
    exact hret 35 _ dX9_ties_35
  · refine g_bipush C dX9_ties_15 (by decide) ?_
    cases h
    exact hret 17 _ dX9_ties_17
end S_X9_ties
set_option maxRecDepth 100000 in
set_option maxHeartbeats 4000000 in
theorem c_X9_ties (l : Launch) (D : va_G) (cy : Nat → ClassId) (ad : AD) (a_t a_t_act a_t_has a_t_pace a_t_part a_t_speed : Nat) (g_t_1 : Value) (g_t_2 : Value) (g_t_3 : Value) (g_t_4 : Value) (g_t_5 : Value) (g_t_6 : Value) (g_t_7 : Value) (g_t_8 : Value) (g_t_9 : Value) (g_t_10 : Value) (g_t_11 : Value) (g_t_12 : Value) (g_t_13 : Value) (g_t_14 : Value) (g_t_15 : Value) (g_t_16 : Value) (g_t_20 : Value) (g_t_22 : Value) (g_t_26 : Value) (g_t_30 : Value) (g_t_31 : Value) (g_t_32 : Value) (g_t_33 : Value) (g_t_34 : Value) (g_t_35 : Value) (g_t_36 : Value) (g_t_37 : Value) (g_t_38 : Value) (g_t_39 : Value) (g_t_40 : Value) (g_t_41 : Value) (g_t_42 : Value) (g_t_43 : Value) (x1 : Int) (x2 : Int) (c_thrown : Int) (c_above : Int) (c_below : Int) (c_leastAbove : Int) (c_leastBelow : Int) (c_leastOf : Int) (c_act : Int → Int) (c_has : Int → Int) (c_pace : Int → Int) (c_part : Int → Int) (c_speed : Int → Int) (F : Nat) {v : Int × Int × Int × Int × Int × Int × Int × (Int → Int)} (h : m_X9_ties F x1 x2 c_above c_below c_leastAbove c_leastBelow c_leastOf c_act c_has c_pace c_part c_speed = some v) : Ct l yX9_ties cX9_ties 3 (some .int) { frames := 204, cells := 0, slots := 0, locals := 6295 } D cy ad [.ref a_t, .int (wI x1), .int (wI x2)] (W_X9_ties cy a_t a_t_act a_t_has a_t_pace a_t_part a_t_speed g_t_1 g_t_2 g_t_3 g_t_4 g_t_5 g_t_6 g_t_7 g_t_8 g_t_9 g_t_10 g_t_11 g_t_12 g_t_13 g_t_14 g_t_15 g_t_16 g_t_20 g_t_22 g_t_26 g_t_30 g_t_31 g_t_32 g_t_33 g_t_34 g_t_35 g_t_36 g_t_37 g_t_38 g_t_39 g_t_40 g_t_41 g_t_42 g_t_43 c_thrown c_above c_below c_leastAbove c_leastBelow c_leastOf c_act c_has c_pace c_part c_speed) (W_X9_ties cy a_t a_t_act a_t_has a_t_pace a_t_part a_t_speed g_t_1 g_t_2 g_t_3 g_t_4 g_t_5 g_t_6 g_t_7 g_t_8 g_t_9 g_t_10 g_t_11 g_t_12 g_t_13 g_t_14 g_t_15 g_t_16 g_t_20 g_t_22 g_t_26 g_t_30 g_t_31 g_t_32 g_t_33 g_t_34 g_t_35 g_t_36 g_t_37 g_t_38 g_t_39 g_t_40 g_t_41 g_t_42 g_t_43 (v.2.1) (v.2.2.1) (v.2.2.2.1) (v.2.2.2.2.1) (v.2.2.2.2.2.1) (v.2.2.2.2.2.2.1) c_act c_has c_pace c_part (v.2.2.2.2.2.2.2)) (some (.int (wI (v.1)))) := by
  refine Ct.introI (j := 0) (plainFor_of_name (by decide)) rfl rfl (fun E C e1 e2 e3 e4 e5 hret => ?_)
  subst e1; subst e2; subst e3; subst e4
  exact wm_X9_ties C e5 h hret
-- MovingStairModel.saves(III)J
def W_X9_saves (cy : Nat → ClassId) (a_t a_t_act a_t_has a_t_pace a_t_part a_t_speed : Nat) (g_t_1 : Value) (g_t_2 : Value) (g_t_3 : Value) (g_t_4 : Value) (g_t_5 : Value) (g_t_6 : Value) (g_t_7 : Value) (g_t_8 : Value) (g_t_9 : Value) (g_t_10 : Value) (g_t_11 : Value) (g_t_12 : Value) (g_t_13 : Value) (g_t_14 : Value) (g_t_15 : Value) (g_t_16 : Value) (g_t_20 : Value) (g_t_22 : Value) (g_t_26 : Value) (g_t_30 : Value) (g_t_31 : Value) (g_t_32 : Value) (g_t_33 : Value) (g_t_34 : Value) (g_t_35 : Value) (g_t_36 : Value) (g_t_37 : Value) (g_t_38 : Value) (g_t_39 : Value) (g_t_40 : Value) (g_t_41 : Value) (g_t_42 : Value) (g_t_43 : Value) (c_thrown : Int) (c_above : Int) (c_below : Int) (c_leastAbove : Int) (c_leastBelow : Int) (c_leastOf : Int) (c_act : Int → Int) (c_has : Int → Int) (c_pace : Int → Int) (c_part : Int → Int) (c_speed : Int → Int) : va_W := [(a_t, .inr (9, [.int (wI c_thrown), g_t_1, g_t_2, g_t_3, g_t_4, g_t_5, g_t_6, g_t_7, g_t_8, g_t_9, g_t_10, g_t_11, g_t_12, g_t_13, g_t_14, g_t_15, g_t_16, .ref a_t_has, .ref a_t_part, .ref a_t_pace, g_t_20, .ref a_t_act, g_t_22, .ref a_t_speed, .long (wJ c_above), .long (wJ c_below), g_t_26, .long (wJ c_leastAbove), .long (wJ c_leastBelow), .int (wI c_leastOf), g_t_30, g_t_31, g_t_32, g_t_33, g_t_34, g_t_35, g_t_36, g_t_37, g_t_38, g_t_39, g_t_40, g_t_41, g_t_42, g_t_43])), (a_t_act, .inl (cy 1, 600, .inl (aI c_act))), (a_t_has, .inl (cy 1, 45, .inl (aI c_has))), (a_t_pace, .inl (cy 1, 40, .inl (aI c_pace))), (a_t_part, .inl (cy 1, 40, .inl (aI c_part))), (a_t_speed, .inl (cy 1, 4, .inl (aI c_speed)))]
def m_X9_saves (F : Nat) (x1 : Int) (x2 : Int) (x3 : Int) (c_above : Int) (c_below : Int) (c_leastAbove : Int) (c_leastBelow : Int) (c_leastOf : Int) (c_act : Int → Int) (c_has : Int → Int) (c_pace : Int → Int) (c_part : Int → Int) (c_speed : Int → Int) : Option (Int × Int × Int × Int × Int × Int × Int × (Int → Int)) :=
  bnd2 (m_X9_isTurn F x1 x2 x3 c_act c_has c_part c_speed) fun r1 o2 => if wI r1 = wI 0 then
    (some ((-2), 0, c_above, c_below, c_leastAbove, c_leastBelow, c_leastOf, o2))
  else
    (chk (0 ≤ x1 ∧ x1 < 40) <| bnd5 (m_X9_laysTurns F (c_pace x1) 0 x2 1 c_above c_below c_leastAbove c_leastBelow c_has c_part o2) fun o5 o6 o7 o8 o9 => if wI o9 = wI (-1) then
    (some ((-1), 0, o5, o6, o7, o8, o9, o2))
  else
    (chk (0 ≤ x1 ∧ x1 < 40) <| bnd3 (m_X9_goes F (c_pace x1) 1 c_has c_part o2) fun r12 o13 o14 => if wI r12 = wI 0 then
    (some ((-1), 0, o13, o14, o7, o8, o9, o2))
  else
    (chk (r32 x2) <| bnd2 (m_X9_adds F x2 1 o13 o14) fun o17 o18 => bnd2 (m_X9_adds F (-o7) o8 o17 o18) fun o20 o21 => bnd1 (m_X9_half F x3 o20 o21) fun r23 => some (r23, 0, o20, o21, o7, o8, o9, o2))))
section S_X9_saves
variable {E : EE} {a_t a_t_act a_t_has a_t_pace a_t_part a_t_speed : Nat} {g_t_1 : Value} {g_t_2 : Value} {g_t_3 : Value} {g_t_4 : Value} {g_t_5 : Value} {g_t_6 : Value} {g_t_7 : Value} {g_t_8 : Value} {g_t_9 : Value} {g_t_10 : Value} {g_t_11 : Value} {g_t_12 : Value} {g_t_13 : Value} {g_t_14 : Value} {g_t_15 : Value} {g_t_16 : Value} {g_t_20 : Value} {g_t_22 : Value} {g_t_26 : Value} {g_t_30 : Value} {g_t_31 : Value} {g_t_32 : Value} {g_t_33 : Value} {g_t_34 : Value} {g_t_35 : Value} {g_t_36 : Value} {g_t_37 : Value} {g_t_38 : Value} {g_t_39 : Value} {g_t_40 : Value} {g_t_41 : Value} {g_t_42 : Value} {g_t_43 : Value}
set_option maxRecDepth 100000 in
set_option maxHeartbeats 4000000 in
theorem wm_X9_saves {F : Nat} {v : Int × Int × Int × Int × Int × Int × Int × (Int → Int)} {x1 : Int} {x2 : Int} {x3 : Int} {c_above : Int} {c_below : Int} {c_leastAbove : Int} {c_leastBelow : Int} {c_leastOf : Int} {c_act : Int → Int} {c_has : Int → Int} {c_pace : Int → Int} {c_part : Int → Int} {c_speed : Int → Int} {c_thrown : Int} (C : Cx E cX9_saves RX9 { frames := 204, cells := 0, slots := 0, locals := 6295 }) (hN : eN E = 4) (h : m_X9_saves F x1 x2 x3 c_above c_below c_leastAbove c_leastBelow c_leastOf c_act c_has c_pace c_part c_speed = some v) (hret : ∀ (pc : Nat) (L : List (Option Value)), decode cX9_saves pc = .ok (.lreturn, 1) → GG E 0 0 (W_X9_saves (eCy E) a_t a_t_act a_t_has a_t_pace a_t_part a_t_speed g_t_1 g_t_2 g_t_3 g_t_4 g_t_5 g_t_6 g_t_7 g_t_8 g_t_9 g_t_10 g_t_11 g_t_12 g_t_13 g_t_14 g_t_15 g_t_16 g_t_20 g_t_22 g_t_26 g_t_30 g_t_31 g_t_32 g_t_33 g_t_34 g_t_35 g_t_36 g_t_37 g_t_38 g_t_39 g_t_40 g_t_41 g_t_42 g_t_43 (v.2.1) (v.2.2.1) (v.2.2.2.1) (v.2.2.2.2.1) (v.2.2.2.2.2.1) (v.2.2.2.2.2.2.1) c_act c_has c_pace c_part (v.2.2.2.2.2.2.2)) L pc [.long (wJ (v.1))]) : GG E 0 0 (W_X9_saves (eCy E) a_t a_t_act a_t_has a_t_pace a_t_part a_t_speed g_t_1 g_t_2 g_t_3 g_t_4 g_t_5 g_t_6 g_t_7 g_t_8 g_t_9 g_t_10 g_t_11 g_t_12 g_t_13 g_t_14 g_t_15 g_t_16 g_t_20 g_t_22 g_t_26 g_t_30 g_t_31 g_t_32 g_t_33 g_t_34 g_t_35 g_t_36 g_t_37 g_t_38 g_t_39 g_t_40 g_t_41 g_t_42 g_t_43 c_thrown c_above c_below c_leastAbove c_leastBelow c_leastOf c_act c_has c_pace c_part c_speed) [some (.ref a_t), some (.int (wI x1)), some (.int (wI x2)), some (.int (wI x3))] 0 [] := by
  unfold m_X9_saves at h
  refine g_aload_n 0 C dX9_saves_0 rfl rfl ?_
  refine g_iconst C dX9_saves_1 ?_
  refine g_putI C fp_X9_71 0 rfl rfl (ws' := (W_X9_saves (eCy E) a_t a_t_act a_t_has a_t_pace a_t_part a_t_speed g_t_1 g_t_2 g_t_3 g_t_4 g_t_5 g_t_6 g_t_7 g_t_8 g_t_9 g_t_10 g_t_11 g_t_12 g_t_13 g_t_14 g_t_15 g_t_16 g_t_20 g_t_22 g_t_26 g_t_30 g_t_31 g_t_32 g_t_33 g_t_34 g_t_35 g_t_36 g_t_37 g_t_38 g_t_39 g_t_40 g_t_41 g_t_42 g_t_43 0 c_above c_below c_leastAbove c_leastBelow c_leastOf c_act c_has c_pace c_part c_speed)) rfl dX9_saves_2 ?_
  refine g_aload_n 0 C dX9_saves_5 rfl rfl ?_
  refine g_iload_n 1 C dX9_saves_6 rfl rfl ?_
  refine g_iload_n 2 C dX9_saves_7 rfl rfl ?_
  refine g_iload_n 3 C dX9_saves_8 rfl rfl ?_
  obtain ⟨r1, o2, hr3, h⟩ := bnd2_some h
  refine g_callI [0, 1, 2, 4, 5] [3] [1, 2, 3, 0, 4, 5] C mt_X9_307 (c_X9_isTurn _ _ _ _ a_t a_t_act a_t_has a_t_part a_t_speed (.int (wI 0)) (g_t_1) (g_t_2) (g_t_3) (g_t_4) (g_t_5) (g_t_6) (g_t_7) (g_t_8) (g_t_9) (g_t_10) (g_t_11) (g_t_12) (g_t_13) (g_t_14) (g_t_15) (g_t_16) (.ref a_t_pace) (g_t_20) (g_t_22) (.long (wJ c_above)) (.long (wJ c_below)) (g_t_26) (.long (wJ c_leastAbove)) (.long (wJ c_leastBelow)) (.int (wI c_leastOf)) (g_t_30) (g_t_31) (g_t_32) (g_t_33) (g_t_34) (g_t_35) (g_t_36) (g_t_37) (g_t_38) (g_t_39) (g_t_40) (g_t_41) (g_t_42) (g_t_43) x1 x2 x3 c_act c_has c_part c_speed F hr3) (q0 := 0) rfl (ci := 9) rfl rfl rfl (ws2 := (W_X9_saves (eCy E) a_t a_t_act a_t_has a_t_pace a_t_part a_t_speed g_t_1 g_t_2 g_t_3 g_t_4 g_t_5 g_t_6 g_t_7 g_t_8 g_t_9 g_t_10 g_t_11 g_t_12 g_t_13 g_t_14 g_t_15 g_t_16 g_t_20 g_t_22 g_t_26 g_t_30 g_t_31 g_t_32 g_t_33 g_t_34 g_t_35 g_t_36 g_t_37 g_t_38 g_t_39 g_t_40 g_t_41 g_t_42 g_t_43 0 c_above c_below c_leastAbove c_leastBelow c_leastOf c_act c_has c_pace c_part o2)) rfl rfl rfl (rest := []) rfl rfl rfl dX9_saves_9 ?_
  refine g_if_ne 19 C dX9_saves_12 (by decide) h (fun h => ?_) (fun h => ?_)
  · refine g_aload_n 0 C dX9_saves_19 rfl rfl ?_
    refine g_aload_n 0 C dX9_saves_20 rfl rfl ?_
    refine g_get C fg_X9_40 0 rfl rfl dX9_saves_21 ?_
    refine g_iload_n 1 C dX9_saves_24 rfl rfl ?_
    obtain ⟨hc4, h⟩ := chk_some h
    refine g_iald C 3 rfl hc4 rfl dX9_saves_25 ?_
    refine g_iconst C dX9_saves_26 ?_
    refine g_iload_n 2 C dX9_saves_27 rfl rfl ?_
    refine g_iconst C dX9_saves_28 ?_
    obtain ⟨o5, o6, o7, o8, o9, hr10, h⟩ := bnd5_some h
    refine g_callV [0, 2, 4, 5] [1, 3] [2, 0, 3, 1, 4, 5] C mt_X9_310 (c_X9_laysTurns _ _ _ _ a_t a_t_has a_t_part a_t_speed (.int (wI 0)) (g_t_1) (g_t_2) (g_t_3) (g_t_4) (g_t_5) (g_t_6) (g_t_7) (g_t_8) (g_t_9) (g_t_10) (g_t_11) (g_t_12) (g_t_13) (g_t_14) (g_t_15) (g_t_16) (.ref a_t_pace) (g_t_20) (.ref a_t_act) (g_t_22) (g_t_26) (g_t_30) (g_t_31) (g_t_32) (g_t_33) (g_t_34) (g_t_35) (g_t_36) (g_t_37) (g_t_38) (g_t_39) (g_t_40) (g_t_41) (g_t_42) (g_t_43) (c_pace x1) 0 x2 1 c_above c_below c_leastAbove c_leastBelow c_leastOf c_has c_part o2 F hr10) (q0 := 0) rfl (ci := 9) rfl rfl rfl (ws2 := (W_X9_saves (eCy E) a_t a_t_act a_t_has a_t_pace a_t_part a_t_speed g_t_1 g_t_2 g_t_3 g_t_4 g_t_5 g_t_6 g_t_7 g_t_8 g_t_9 g_t_10 g_t_11 g_t_12 g_t_13 g_t_14 g_t_15 g_t_16 g_t_20 g_t_22 g_t_26 g_t_30 g_t_31 g_t_32 g_t_33 g_t_34 g_t_35 g_t_36 g_t_37 g_t_38 g_t_39 g_t_40 g_t_41 g_t_42 g_t_43 0 o5 o6 o7 o8 o9 c_act c_has c_pace c_part o2)) rfl rfl rfl (rest := []) rfl rfl rfl dX9_saves_29 ?_
    refine g_aload_n 0 C dX9_saves_32 rfl rfl ?_
    refine g_get C fg_X9_288 0 rfl rfl dX9_saves_33 ?_
    refine g_st (st' := [.int (wI o9)]) rfl ?_
    refine g_iconst C dX9_saves_36 ?_
    refine g_icmp_eq 54 C dX9_saves_37 (by decide) h (fun h => ?_) (fun h => ?_)
    · refine g_ldc2 (v := -1) C mc_X9_115 dX9_saves_54 ?_
      cases h
      exact hret 57 _ dX9_saves_57
    · refine g_aload_n 0 C dX9_saves_40 rfl rfl ?_
      refine g_aload_n 0 C dX9_saves_41 rfl rfl ?_
      refine g_get C fg_X9_40 0 rfl rfl dX9_saves_42 ?_
      refine g_iload_n 1 C dX9_saves_45 rfl rfl ?_
      obtain ⟨hc11, h⟩ := chk_some h
      refine g_iald C 3 rfl hc11 rfl dX9_saves_46 ?_
      refine g_iconst C dX9_saves_47 ?_
      obtain ⟨r12, o13, o14, hr15, h⟩ := bnd3_some h
      refine g_callI [0, 2, 4, 5] [1, 3] [2, 0, 3, 1, 4, 5] C mt_X9_269 (c_X9_goes _ _ _ _ a_t a_t_has a_t_part a_t_speed (.int (wI 0)) (g_t_1) (g_t_2) (g_t_3) (g_t_4) (g_t_5) (g_t_6) (g_t_7) (g_t_8) (g_t_9) (g_t_10) (g_t_11) (g_t_12) (g_t_13) (g_t_14) (g_t_15) (g_t_16) (.ref a_t_pace) (g_t_20) (.ref a_t_act) (g_t_22) (g_t_26) (.long (wJ o7)) (.long (wJ o8)) (.int (wI o9)) (g_t_30) (g_t_31) (g_t_32) (g_t_33) (g_t_34) (g_t_35) (g_t_36) (g_t_37) (g_t_38) (g_t_39) (g_t_40) (g_t_41) (g_t_42) (g_t_43) (c_pace x1) 1 o5 o6 c_has c_part o2 F hr15) (q0 := 0) rfl (ci := 9) rfl rfl rfl (ws2 := (W_X9_saves (eCy E) a_t a_t_act a_t_has a_t_pace a_t_part a_t_speed g_t_1 g_t_2 g_t_3 g_t_4 g_t_5 g_t_6 g_t_7 g_t_8 g_t_9 g_t_10 g_t_11 g_t_12 g_t_13 g_t_14 g_t_15 g_t_16 g_t_20 g_t_22 g_t_26 g_t_30 g_t_31 g_t_32 g_t_33 g_t_34 g_t_35 g_t_36 g_t_37 g_t_38 g_t_39 g_t_40 g_t_41 g_t_42 g_t_43 0 o13 o14 o7 o8 o9 c_act c_has c_pace c_part o2)) rfl rfl rfl (rest := []) rfl rfl rfl dX9_saves_48 ?_
      refine g_if_ne 58 C dX9_saves_51 (by decide) h (fun h => ?_) (fun h => ?_)
      · refine g_aload_n 0 C dX9_saves_58 rfl rfl ?_
        refine g_iload_n 2 C dX9_saves_59 rfl rfl ?_
        obtain ⟨hc16, h⟩ := chk_some h
        refine g_i2l C dX9_saves_60 hc16 ?_
        refine g_lconst (x := 1) C dX9_saves_61 (by decide) ?_
        obtain ⟨o17, o18, hr19, h⟩ := bnd2_some h
        refine g_callV [0] [1, 2, 3, 4, 5] [5, 0, 1, 2, 3, 4] C mt_X9_256 (c_X9_adds _ _ _ _ a_t (.int (wI 0)) (g_t_1) (g_t_2) (g_t_3) (g_t_4) (g_t_5) (g_t_6) (g_t_7) (g_t_8) (g_t_9) (g_t_10) (g_t_11) (g_t_12) (g_t_13) (g_t_14) (g_t_15) (g_t_16) (.ref a_t_has) (.ref a_t_part) (.ref a_t_pace) (g_t_20) (.ref a_t_act) (g_t_22) (.ref a_t_speed) (g_t_26) (.long (wJ o7)) (.long (wJ o8)) (.int (wI o9)) (g_t_30) (g_t_31) (g_t_32) (g_t_33) (g_t_34) (g_t_35) (g_t_36) (g_t_37) (g_t_38) (g_t_39) (g_t_40) (g_t_41) (g_t_42) (g_t_43) x2 1 o13 o14 F hr19) (q0 := 0) rfl (ci := 9) rfl rfl rfl (ws2 := (W_X9_saves (eCy E) a_t a_t_act a_t_has a_t_pace a_t_part a_t_speed g_t_1 g_t_2 g_t_3 g_t_4 g_t_5 g_t_6 g_t_7 g_t_8 g_t_9 g_t_10 g_t_11 g_t_12 g_t_13 g_t_14 g_t_15 g_t_16 g_t_20 g_t_22 g_t_26 g_t_30 g_t_31 g_t_32 g_t_33 g_t_34 g_t_35 g_t_36 g_t_37 g_t_38 g_t_39 g_t_40 g_t_41 g_t_42 g_t_43 0 o17 o18 o7 o8 o9 c_act c_has c_pace c_part o2)) rfl rfl rfl (rest := []) rfl rfl rfl dX9_saves_62 ?_
        refine g_aload_n 0 C dX9_saves_65 rfl rfl ?_
        refine g_aload_n 0 C dX9_saves_66 rfl rfl ?_
        refine g_get C fg_X9_291 0 rfl rfl dX9_saves_67 ?_
        refine g_st (st' := [.long (wJ o7), .ref a_t]) rfl ?_
        refine g_lneg C dX9_saves_70 ?_
        refine g_aload_n 0 C dX9_saves_71 rfl rfl ?_
        refine g_get C fg_X9_294 0 rfl rfl dX9_saves_72 ?_
        refine g_st (st' := [.long (wJ o8), .long (wJ (-o7)), .ref a_t]) rfl ?_
        obtain ⟨o20, o21, hr22, h⟩ := bnd2_some h
        refine g_callV [0] [1, 2, 3, 4, 5] [5, 0, 1, 2, 3, 4] C mt_X9_256 (c_X9_adds _ _ _ _ a_t (.int (wI 0)) (g_t_1) (g_t_2) (g_t_3) (g_t_4) (g_t_5) (g_t_6) (g_t_7) (g_t_8) (g_t_9) (g_t_10) (g_t_11) (g_t_12) (g_t_13) (g_t_14) (g_t_15) (g_t_16) (.ref a_t_has) (.ref a_t_part) (.ref a_t_pace) (g_t_20) (.ref a_t_act) (g_t_22) (.ref a_t_speed) (g_t_26) (.long (wJ o7)) (.long (wJ o8)) (.int (wI o9)) (g_t_30) (g_t_31) (g_t_32) (g_t_33) (g_t_34) (g_t_35) (g_t_36) (g_t_37) (g_t_38) (g_t_39) (g_t_40) (g_t_41) (g_t_42) (g_t_43) (-o7) o8 o17 o18 F hr22) (q0 := 0) rfl (ci := 9) rfl rfl rfl (ws2 := (W_X9_saves (eCy E) a_t a_t_act a_t_has a_t_pace a_t_part a_t_speed g_t_1 g_t_2 g_t_3 g_t_4 g_t_5 g_t_6 g_t_7 g_t_8 g_t_9 g_t_10 g_t_11 g_t_12 g_t_13 g_t_14 g_t_15 g_t_16 g_t_20 g_t_22 g_t_26 g_t_30 g_t_31 g_t_32 g_t_33 g_t_34 g_t_35 g_t_36 g_t_37 g_t_38 g_t_39 g_t_40 g_t_41 g_t_42 g_t_43 0 o20 o21 o7 o8 o9 c_act c_has c_pace c_part o2)) rfl rfl rfl (rest := []) rfl rfl rfl dX9_saves_75 ?_
        refine g_aload_n 0 C dX9_saves_78 rfl rfl ?_
        refine g_iload_n 3 C dX9_saves_79 rfl rfl ?_
        obtain ⟨r23, hr24, h⟩ := bnd1_some h
        refine g_callJ [0] [1, 2, 3, 4, 5] [5, 0, 1, 2, 3, 4] C mt_X9_272 (c_X9_half _ _ _ _ a_t (.int (wI 0)) (g_t_1) (g_t_2) (g_t_3) (g_t_4) (g_t_5) (g_t_6) (g_t_7) (g_t_8) (g_t_9) (g_t_10) (g_t_11) (g_t_12) (g_t_13) (g_t_14) (g_t_15) (g_t_16) (.ref a_t_has) (.ref a_t_part) (.ref a_t_pace) (g_t_20) (.ref a_t_act) (g_t_22) (.ref a_t_speed) (g_t_26) (.long (wJ o7)) (.long (wJ o8)) (.int (wI o9)) (g_t_30) (g_t_31) (g_t_32) (g_t_33) (g_t_34) (g_t_35) (g_t_36) (g_t_37) (g_t_38) (g_t_39) (g_t_40) (g_t_41) (g_t_42) (g_t_43) x3 o20 o21 F hr24) (q0 := 0) rfl (ci := 9) rfl rfl rfl (ws2 := (W_X9_saves (eCy E) a_t a_t_act a_t_has a_t_pace a_t_part a_t_speed g_t_1 g_t_2 g_t_3 g_t_4 g_t_5 g_t_6 g_t_7 g_t_8 g_t_9 g_t_10 g_t_11 g_t_12 g_t_13 g_t_14 g_t_15 g_t_16 g_t_20 g_t_22 g_t_26 g_t_30 g_t_31 g_t_32 g_t_33 g_t_34 g_t_35 g_t_36 g_t_37 g_t_38 g_t_39 g_t_40 g_t_41 g_t_42 g_t_43 0 o20 o21 o7 o8 o9 c_act c_has c_pace c_part o2)) rfl rfl rfl (rest := []) rfl rfl rfl dX9_saves_80 ?_
        cases h
        exact hret 83 _ dX9_saves_83
      · refine g_ldc2 (v := -1) C mc_X9_115 dX9_saves_54 ?_
        cases h
        exact hret 57 _ dX9_saves_57
  · refine g_ldc2 (v := -2) C mc_X9_267 dX9_saves_15 ?_
    cases h
    exact hret 18 _ dX9_saves_18
end S_X9_saves
set_option maxRecDepth 100000 in
set_option maxHeartbeats 4000000 in
theorem c_X9_saves (l : Launch) (D : va_G) (cy : Nat → ClassId) (ad : AD) (a_t a_t_act a_t_has a_t_pace a_t_part a_t_speed : Nat) (g_t_1 : Value) (g_t_2 : Value) (g_t_3 : Value) (g_t_4 : Value) (g_t_5 : Value) (g_t_6 : Value) (g_t_7 : Value) (g_t_8 : Value) (g_t_9 : Value) (g_t_10 : Value) (g_t_11 : Value) (g_t_12 : Value) (g_t_13 : Value) (g_t_14 : Value) (g_t_15 : Value) (g_t_16 : Value) (g_t_20 : Value) (g_t_22 : Value) (g_t_26 : Value) (g_t_30 : Value) (g_t_31 : Value) (g_t_32 : Value) (g_t_33 : Value) (g_t_34 : Value) (g_t_35 : Value) (g_t_36 : Value) (g_t_37 : Value) (g_t_38 : Value) (g_t_39 : Value) (g_t_40 : Value) (g_t_41 : Value) (g_t_42 : Value) (g_t_43 : Value) (x1 : Int) (x2 : Int) (x3 : Int) (c_thrown : Int) (c_above : Int) (c_below : Int) (c_leastAbove : Int) (c_leastBelow : Int) (c_leastOf : Int) (c_act : Int → Int) (c_has : Int → Int) (c_pace : Int → Int) (c_part : Int → Int) (c_speed : Int → Int) (F : Nat) {v : Int × Int × Int × Int × Int × Int × Int × (Int → Int)} (h : m_X9_saves F x1 x2 x3 c_above c_below c_leastAbove c_leastBelow c_leastOf c_act c_has c_pace c_part c_speed = some v) : Ct l yX9_saves cX9_saves 4 (some .long) { frames := 204, cells := 0, slots := 0, locals := 6295 } D cy ad [.ref a_t, .int (wI x1), .int (wI x2), .int (wI x3)] (W_X9_saves cy a_t a_t_act a_t_has a_t_pace a_t_part a_t_speed g_t_1 g_t_2 g_t_3 g_t_4 g_t_5 g_t_6 g_t_7 g_t_8 g_t_9 g_t_10 g_t_11 g_t_12 g_t_13 g_t_14 g_t_15 g_t_16 g_t_20 g_t_22 g_t_26 g_t_30 g_t_31 g_t_32 g_t_33 g_t_34 g_t_35 g_t_36 g_t_37 g_t_38 g_t_39 g_t_40 g_t_41 g_t_42 g_t_43 c_thrown c_above c_below c_leastAbove c_leastBelow c_leastOf c_act c_has c_pace c_part c_speed) (W_X9_saves cy a_t a_t_act a_t_has a_t_pace a_t_part a_t_speed g_t_1 g_t_2 g_t_3 g_t_4 g_t_5 g_t_6 g_t_7 g_t_8 g_t_9 g_t_10 g_t_11 g_t_12 g_t_13 g_t_14 g_t_15 g_t_16 g_t_20 g_t_22 g_t_26 g_t_30 g_t_31 g_t_32 g_t_33 g_t_34 g_t_35 g_t_36 g_t_37 g_t_38 g_t_39 g_t_40 g_t_41 g_t_42 g_t_43 (v.2.1) (v.2.2.1) (v.2.2.2.1) (v.2.2.2.2.1) (v.2.2.2.2.2.1) (v.2.2.2.2.2.2.1) c_act c_has c_pace c_part (v.2.2.2.2.2.2.2)) (some (.long (wJ (v.1)))) := by
  refine Ct.introJ (j := 0) (plainFor_of_name (by decide)) rfl rfl (fun E C e1 e2 e3 e4 e5 hret => ?_)
  subst e1; subst e2; subst e3; subst e4
  exact wm_X9_saves C e5 h hret
-- MovingStairModel.spurt(IIII)J
def W_X9_spurt (cy : Nat → ClassId) (a_t a_t_act a_t_has a_t_pace a_t_part a_t_speed : Nat) (g_t_1 : Value) (g_t_2 : Value) (g_t_3 : Value) (g_t_4 : Value) (g_t_5 : Value) (g_t_6 : Value) (g_t_7 : Value) (g_t_8 : Value) (g_t_9 : Value) (g_t_10 : Value) (g_t_11 : Value) (g_t_12 : Value) (g_t_13 : Value) (g_t_14 : Value) (g_t_15 : Value) (g_t_16 : Value) (g_t_20 : Value) (g_t_22 : Value) (g_t_26 : Value) (g_t_30 : Value) (g_t_31 : Value) (g_t_32 : Value) (g_t_33 : Value) (g_t_34 : Value) (g_t_35 : Value) (g_t_36 : Value) (g_t_37 : Value) (g_t_38 : Value) (g_t_39 : Value) (g_t_40 : Value) (g_t_41 : Value) (g_t_42 : Value) (g_t_43 : Value) (c_thrown : Int) (c_above : Int) (c_below : Int) (c_leastAbove : Int) (c_leastBelow : Int) (c_leastOf : Int) (c_act : Int → Int) (c_has : Int → Int) (c_pace : Int → Int) (c_part : Int → Int) (c_speed : Int → Int) : va_W := [(a_t, .inr (9, [.int (wI c_thrown), g_t_1, g_t_2, g_t_3, g_t_4, g_t_5, g_t_6, g_t_7, g_t_8, g_t_9, g_t_10, g_t_11, g_t_12, g_t_13, g_t_14, g_t_15, g_t_16, .ref a_t_has, .ref a_t_part, .ref a_t_pace, g_t_20, .ref a_t_act, g_t_22, .ref a_t_speed, .long (wJ c_above), .long (wJ c_below), g_t_26, .long (wJ c_leastAbove), .long (wJ c_leastBelow), .int (wI c_leastOf), g_t_30, g_t_31, g_t_32, g_t_33, g_t_34, g_t_35, g_t_36, g_t_37, g_t_38, g_t_39, g_t_40, g_t_41, g_t_42, g_t_43])), (a_t_act, .inl (cy 1, 600, .inl (aI c_act))), (a_t_has, .inl (cy 1, 45, .inl (aI c_has))), (a_t_pace, .inl (cy 1, 40, .inl (aI c_pace))), (a_t_part, .inl (cy 1, 40, .inl (aI c_part))), (a_t_speed, .inl (cy 1, 4, .inl (aI c_speed)))]
def m_X9_spurt (F : Nat) (x1 : Int) (x2 : Int) (x3 : Int) (x4 : Int) (c_above : Int) (c_below : Int) (c_leastAbove : Int) (c_leastBelow : Int) (c_leastOf : Int) (c_act : Int → Int) (c_has : Int → Int) (c_pace : Int → Int) (c_part : Int → Int) (c_speed : Int → Int) : Option (Int × Int × Int × Int × Int × Int × Int × (Int → Int)) :=
  bnd2 (m_X9_isTurn F x1 x3 x4 c_act c_has c_part c_speed) fun r1 o2 => if wI r1 = wI 0 then
    (some ((-2), 0, c_above, c_below, c_leastAbove, c_leastBelow, c_leastOf, o2))
  else
    (chk (r32 x2) <| bnd1 (m_X9_in F x2 0 30) fun r5 => if wI r5 = wI 0 then
    (some ((-2), 0, c_above, c_below, c_leastAbove, c_leastBelow, c_leastOf, o2))
  else
    (chk (0 ≤ x1 ∧ x1 < 40) <| chk (0 ≤ x1 ∧ x1 < 40) <| bnd5 (m_X9_laysTurns F (c_pace x1) ((c_pace x1) + x2) x3 0 c_above c_below c_leastAbove c_leastBelow c_has c_part o2) fun o9 o10 o11 o12 o13 => if wI o13 = wI (-1) then
    (some ((-1), 0, o9, o10, o11, o12, o13, o2))
  else
    (if wI x4 = wI 0 then
    (some (o11, 0, o9, o10, o11, o12, o13, o2))
  else
    (some (o12, 0, o9, o10, o11, o12, o13, o2)))))
section S_X9_spurt
variable {E : EE} {a_t a_t_act a_t_has a_t_pace a_t_part a_t_speed : Nat} {g_t_1 : Value} {g_t_2 : Value} {g_t_3 : Value} {g_t_4 : Value} {g_t_5 : Value} {g_t_6 : Value} {g_t_7 : Value} {g_t_8 : Value} {g_t_9 : Value} {g_t_10 : Value} {g_t_11 : Value} {g_t_12 : Value} {g_t_13 : Value} {g_t_14 : Value} {g_t_15 : Value} {g_t_16 : Value} {g_t_20 : Value} {g_t_22 : Value} {g_t_26 : Value} {g_t_30 : Value} {g_t_31 : Value} {g_t_32 : Value} {g_t_33 : Value} {g_t_34 : Value} {g_t_35 : Value} {g_t_36 : Value} {g_t_37 : Value} {g_t_38 : Value} {g_t_39 : Value} {g_t_40 : Value} {g_t_41 : Value} {g_t_42 : Value} {g_t_43 : Value}
set_option maxRecDepth 100000 in
set_option maxHeartbeats 4000000 in
theorem wm_X9_spurt {F : Nat} {v : Int × Int × Int × Int × Int × Int × Int × (Int → Int)} {x1 : Int} {x2 : Int} {x3 : Int} {x4 : Int} {c_above : Int} {c_below : Int} {c_leastAbove : Int} {c_leastBelow : Int} {c_leastOf : Int} {c_act : Int → Int} {c_has : Int → Int} {c_pace : Int → Int} {c_part : Int → Int} {c_speed : Int → Int} {c_thrown : Int} (C : Cx E cX9_spurt RX9 { frames := 204, cells := 0, slots := 0, locals := 6295 }) (hN : eN E = 5) (h : m_X9_spurt F x1 x2 x3 x4 c_above c_below c_leastAbove c_leastBelow c_leastOf c_act c_has c_pace c_part c_speed = some v) (hret : ∀ (pc : Nat) (L : List (Option Value)), decode cX9_spurt pc = .ok (.lreturn, 1) → GG E 0 0 (W_X9_spurt (eCy E) a_t a_t_act a_t_has a_t_pace a_t_part a_t_speed g_t_1 g_t_2 g_t_3 g_t_4 g_t_5 g_t_6 g_t_7 g_t_8 g_t_9 g_t_10 g_t_11 g_t_12 g_t_13 g_t_14 g_t_15 g_t_16 g_t_20 g_t_22 g_t_26 g_t_30 g_t_31 g_t_32 g_t_33 g_t_34 g_t_35 g_t_36 g_t_37 g_t_38 g_t_39 g_t_40 g_t_41 g_t_42 g_t_43 (v.2.1) (v.2.2.1) (v.2.2.2.1) (v.2.2.2.2.1) (v.2.2.2.2.2.1) (v.2.2.2.2.2.2.1) c_act c_has c_pace c_part (v.2.2.2.2.2.2.2)) L pc [.long (wJ (v.1))]) : GG E 0 0 (W_X9_spurt (eCy E) a_t a_t_act a_t_has a_t_pace a_t_part a_t_speed g_t_1 g_t_2 g_t_3 g_t_4 g_t_5 g_t_6 g_t_7 g_t_8 g_t_9 g_t_10 g_t_11 g_t_12 g_t_13 g_t_14 g_t_15 g_t_16 g_t_20 g_t_22 g_t_26 g_t_30 g_t_31 g_t_32 g_t_33 g_t_34 g_t_35 g_t_36 g_t_37 g_t_38 g_t_39 g_t_40 g_t_41 g_t_42 g_t_43 c_thrown c_above c_below c_leastAbove c_leastBelow c_leastOf c_act c_has c_pace c_part c_speed) [some (.ref a_t), some (.int (wI x1)), some (.int (wI x2)), some (.int (wI x3)), some (.int (wI x4))] 0 [] := by
  unfold m_X9_spurt at h
  refine g_aload_n 0 C dX9_spurt_0 rfl rfl ?_
  refine g_iconst C dX9_spurt_1 ?_
  refine g_putI C fp_X9_71 0 rfl rfl (ws' := (W_X9_spurt (eCy E) a_t a_t_act a_t_has a_t_pace a_t_part a_t_speed g_t_1 g_t_2 g_t_3 g_t_4 g_t_5 g_t_6 g_t_7 g_t_8 g_t_9 g_t_10 g_t_11 g_t_12 g_t_13 g_t_14 g_t_15 g_t_16 g_t_20 g_t_22 g_t_26 g_t_30 g_t_31 g_t_32 g_t_33 g_t_34 g_t_35 g_t_36 g_t_37 g_t_38 g_t_39 g_t_40 g_t_41 g_t_42 g_t_43 0 c_above c_below c_leastAbove c_leastBelow c_leastOf c_act c_has c_pace c_part c_speed)) rfl dX9_spurt_2 ?_
  refine g_aload_n 0 C dX9_spurt_5 rfl rfl ?_
  refine g_iload_n 1 C dX9_spurt_6 rfl rfl ?_
  refine g_iload_n 3 C dX9_spurt_7 rfl rfl ?_
  refine g_iload C dX9_spurt_8 rfl ?_
  obtain ⟨r1, o2, hr3, h⟩ := bnd2_some h
  refine g_callI [0, 1, 2, 4, 5] [3] [1, 2, 3, 0, 4, 5] C mt_X9_307 (c_X9_isTurn _ _ _ _ a_t a_t_act a_t_has a_t_part a_t_speed (.int (wI 0)) (g_t_1) (g_t_2) (g_t_3) (g_t_4) (g_t_5) (g_t_6) (g_t_7) (g_t_8) (g_t_9) (g_t_10) (g_t_11) (g_t_12) (g_t_13) (g_t_14) (g_t_15) (g_t_16) (.ref a_t_pace) (g_t_20) (g_t_22) (.long (wJ c_above)) (.long (wJ c_below)) (g_t_26) (.long (wJ c_leastAbove)) (.long (wJ c_leastBelow)) (.int (wI c_leastOf)) (g_t_30) (g_t_31) (g_t_32) (g_t_33) (g_t_34) (g_t_35) (g_t_36) (g_t_37) (g_t_38) (g_t_39) (g_t_40) (g_t_41) (g_t_42) (g_t_43) x1 x3 x4 c_act c_has c_part c_speed F hr3) (q0 := 0) rfl (ci := 9) rfl rfl rfl (ws2 := (W_X9_spurt (eCy E) a_t a_t_act a_t_has a_t_pace a_t_part a_t_speed g_t_1 g_t_2 g_t_3 g_t_4 g_t_5 g_t_6 g_t_7 g_t_8 g_t_9 g_t_10 g_t_11 g_t_12 g_t_13 g_t_14 g_t_15 g_t_16 g_t_20 g_t_22 g_t_26 g_t_30 g_t_31 g_t_32 g_t_33 g_t_34 g_t_35 g_t_36 g_t_37 g_t_38 g_t_39 g_t_40 g_t_41 g_t_42 g_t_43 0 c_above c_below c_leastAbove c_leastBelow c_leastOf c_act c_has c_pace c_part o2)) rfl rfl rfl (rest := []) rfl rfl rfl dX9_spurt_10 ?_
  refine g_if_eq 28 C dX9_spurt_13 (by decide) h (fun h => ?_) (fun h => ?_)
  · refine g_ldc2 (v := -2) C mc_X9_267 dX9_spurt_28 ?_
    cases h
    exact hret 31 _ dX9_spurt_31
  · refine g_iload_n 2 C dX9_spurt_16 rfl rfl ?_
    obtain ⟨hc4, h⟩ := chk_some h
    refine g_i2l C dX9_spurt_17 hc4 ?_
    refine g_lconst (x := 0) C dX9_spurt_18 (by decide) ?_
    refine g_ldc2 (v := 30) C mc_X9_314 dX9_spurt_19 ?_
    obtain ⟨r5, hr6, h⟩ := bnd1_some h
    refine g_callSI [] [0, 1, 2, 3, 4, 5] [0, 1, 2, 3, 4, 5] C mt_X9_76 (c_X9_in _ _ _ _ x2 0 30 F hr6) rfl rfl (ws2 := (W_X9_spurt (eCy E) a_t a_t_act a_t_has a_t_pace a_t_part a_t_speed g_t_1 g_t_2 g_t_3 g_t_4 g_t_5 g_t_6 g_t_7 g_t_8 g_t_9 g_t_10 g_t_11 g_t_12 g_t_13 g_t_14 g_t_15 g_t_16 g_t_20 g_t_22 g_t_26 g_t_30 g_t_31 g_t_32 g_t_33 g_t_34 g_t_35 g_t_36 g_t_37 g_t_38 g_t_39 g_t_40 g_t_41 g_t_42 g_t_43 0 c_above c_below c_leastAbove c_leastBelow c_leastOf c_act c_has c_pace c_part o2)) rfl rfl rfl (rest := []) rfl rfl rfl dX9_spurt_22 ?_
    refine g_if_ne 32 C dX9_spurt_25 (by decide) h (fun h => ?_) (fun h => ?_)
    · refine g_aload_n 0 C dX9_spurt_32 rfl rfl ?_
      refine g_aload_n 0 C dX9_spurt_33 rfl rfl ?_
      refine g_get C fg_X9_40 0 rfl rfl dX9_spurt_34 ?_
      refine g_iload_n 1 C dX9_spurt_37 rfl rfl ?_
      obtain ⟨hc7, h⟩ := chk_some h
      refine g_iald C 3 rfl hc7 rfl dX9_spurt_38 ?_
      refine g_aload_n 0 C dX9_spurt_39 rfl rfl ?_
      refine g_get C fg_X9_40 0 rfl rfl dX9_spurt_40 ?_
      refine g_iload_n 1 C dX9_spurt_43 rfl rfl ?_
      obtain ⟨hc8, h⟩ := chk_some h
      refine g_iald C 3 rfl hc8 rfl dX9_spurt_44 ?_
      refine g_iload_n 2 C dX9_spurt_45 rfl rfl ?_
      refine g_iadd C dX9_spurt_46 ?_
      refine g_iload_n 3 C dX9_spurt_47 rfl rfl ?_
      refine g_iconst C dX9_spurt_48 ?_
      obtain ⟨o9, o10, o11, o12, o13, hr14, h⟩ := bnd5_some h
      refine g_callV [0, 2, 4, 5] [1, 3] [2, 0, 3, 1, 4, 5] C mt_X9_310 (c_X9_laysTurns _ _ _ _ a_t a_t_has a_t_part a_t_speed (.int (wI 0)) (g_t_1) (g_t_2) (g_t_3) (g_t_4) (g_t_5) (g_t_6) (g_t_7) (g_t_8) (g_t_9) (g_t_10) (g_t_11) (g_t_12) (g_t_13) (g_t_14) (g_t_15) (g_t_16) (.ref a_t_pace) (g_t_20) (.ref a_t_act) (g_t_22) (g_t_26) (g_t_30) (g_t_31) (g_t_32) (g_t_33) (g_t_34) (g_t_35) (g_t_36) (g_t_37) (g_t_38) (g_t_39) (g_t_40) (g_t_41) (g_t_42) (g_t_43) (c_pace x1) ((c_pace x1) + x2) x3 0 c_above c_below c_leastAbove c_leastBelow c_leastOf c_has c_part o2 F hr14) (q0 := 0) rfl (ci := 9) rfl rfl rfl (ws2 := (W_X9_spurt (eCy E) a_t a_t_act a_t_has a_t_pace a_t_part a_t_speed g_t_1 g_t_2 g_t_3 g_t_4 g_t_5 g_t_6 g_t_7 g_t_8 g_t_9 g_t_10 g_t_11 g_t_12 g_t_13 g_t_14 g_t_15 g_t_16 g_t_20 g_t_22 g_t_26 g_t_30 g_t_31 g_t_32 g_t_33 g_t_34 g_t_35 g_t_36 g_t_37 g_t_38 g_t_39 g_t_40 g_t_41 g_t_42 g_t_43 0 o9 o10 o11 o12 o13 c_act c_has c_pace c_part o2)) rfl rfl rfl (rest := []) rfl rfl rfl dX9_spurt_49 ?_
      refine g_aload_n 0 C dX9_spurt_52 rfl rfl ?_
      refine g_get C fg_X9_288 0 rfl rfl dX9_spurt_53 ?_
      refine g_st (st' := [.int (wI o13)]) rfl ?_
      refine g_iconst C dX9_spurt_56 ?_
      refine g_icmp_ne 66 C dX9_spurt_57 (by decide) h (fun h => ?_) (fun h => ?_)
      · refine g_iload C dX9_spurt_66 rfl ?_
        refine g_if_ne 78 C dX9_spurt_68 (by decide) h (fun h => ?_) (fun h => ?_)
        · refine g_aload_n 0 C dX9_spurt_78 rfl rfl ?_
          refine g_get C fg_X9_294 0 rfl rfl dX9_spurt_79 ?_
          refine g_st (st' := [.long (wJ o12)]) rfl ?_
          cases h
          exact hret 82 _ dX9_spurt_82
        · refine g_aload_n 0 C dX9_spurt_71 rfl rfl ?_
          refine g_get C fg_X9_291 0 rfl rfl dX9_spurt_72 ?_
          refine g_st (st' := [.long (wJ o11)]) rfl ?_
          refine g_goto (tgt := 82) C dX9_spurt_75 (by decide) ?_
          cases h
          exact hret 82 _ dX9_spurt_82
      · refine g_ldc2 (v := -1) C mc_X9_115 dX9_spurt_60 ?_
        refine g_goto (tgt := 82) C dX9_spurt_63 (by decide) ?_
        cases h
        exact hret 82 _ dX9_spurt_82
    · refine g_ldc2 (v := -2) C mc_X9_267 dX9_spurt_28 ?_
      cases h
      exact hret 31 _ dX9_spurt_31
end S_X9_spurt
set_option maxRecDepth 100000 in
set_option maxHeartbeats 4000000 in
theorem c_X9_spurt (l : Launch) (D : va_G) (cy : Nat → ClassId) (ad : AD) (a_t a_t_act a_t_has a_t_pace a_t_part a_t_speed : Nat) (g_t_1 : Value) (g_t_2 : Value) (g_t_3 : Value) (g_t_4 : Value) (g_t_5 : Value) (g_t_6 : Value) (g_t_7 : Value) (g_t_8 : Value) (g_t_9 : Value) (g_t_10 : Value) (g_t_11 : Value) (g_t_12 : Value) (g_t_13 : Value) (g_t_14 : Value) (g_t_15 : Value) (g_t_16 : Value) (g_t_20 : Value) (g_t_22 : Value) (g_t_26 : Value) (g_t_30 : Value) (g_t_31 : Value) (g_t_32 : Value) (g_t_33 : Value) (g_t_34 : Value) (g_t_35 : Value) (g_t_36 : Value) (g_t_37 : Value) (g_t_38 : Value) (g_t_39 : Value) (g_t_40 : Value) (g_t_41 : Value) (g_t_42 : Value) (g_t_43 : Value) (x1 : Int) (x2 : Int) (x3 : Int) (x4 : Int) (c_thrown : Int) (c_above : Int) (c_below : Int) (c_leastAbove : Int) (c_leastBelow : Int) (c_leastOf : Int) (c_act : Int → Int) (c_has : Int → Int) (c_pace : Int → Int) (c_part : Int → Int) (c_speed : Int → Int) (F : Nat) {v : Int × Int × Int × Int × Int × Int × Int × (Int → Int)} (h : m_X9_spurt F x1 x2 x3 x4 c_above c_below c_leastAbove c_leastBelow c_leastOf c_act c_has c_pace c_part c_speed = some v) : Ct l yX9_spurt cX9_spurt 5 (some .long) { frames := 204, cells := 0, slots := 0, locals := 6295 } D cy ad [.ref a_t, .int (wI x1), .int (wI x2), .int (wI x3), .int (wI x4)] (W_X9_spurt cy a_t a_t_act a_t_has a_t_pace a_t_part a_t_speed g_t_1 g_t_2 g_t_3 g_t_4 g_t_5 g_t_6 g_t_7 g_t_8 g_t_9 g_t_10 g_t_11 g_t_12 g_t_13 g_t_14 g_t_15 g_t_16 g_t_20 g_t_22 g_t_26 g_t_30 g_t_31 g_t_32 g_t_33 g_t_34 g_t_35 g_t_36 g_t_37 g_t_38 g_t_39 g_t_40 g_t_41 g_t_42 g_t_43 c_thrown c_above c_below c_leastAbove c_leastBelow c_leastOf c_act c_has c_pace c_part c_speed) (W_X9_spurt cy a_t a_t_act a_t_has a_t_pace a_t_part a_t_speed g_t_1 g_t_2 g_t_3 g_t_4 g_t_5 g_t_6 g_t_7 g_t_8 g_t_9 g_t_10 g_t_11 g_t_12 g_t_13 g_t_14 g_t_15 g_t_16 g_t_20 g_t_22 g_t_26 g_t_30 g_t_31 g_t_32 g_t_33 g_t_34 g_t_35 g_t_36 g_t_37 g_t_38 g_t_39 g_t_40 g_t_41 g_t_42 g_t_43 (v.2.1) (v.2.2.1) (v.2.2.2.1) (v.2.2.2.2.1) (v.2.2.2.2.2.1) (v.2.2.2.2.2.2.1) c_act c_has c_pace c_part (v.2.2.2.2.2.2.2)) (some (.long (wJ (v.1)))) := by
  refine Ct.introJ (j := 0) (plainFor_of_name (by decide)) rfl rfl (fun E C e1 e2 e3 e4 e5 hret => ?_)
  subst e1; subst e2; subst e3; subst e4
  exact wm_X9_spurt C e5 h hret
-- MovingStairModel.runs(III)I
def W_X9_runs (cy : Nat → ClassId) (a_t a_t_act a_t_has a_t_pace a_t_part a_t_speed : Nat) (g_t_1 : Value) (g_t_2 : Value) (g_t_3 : Value) (g_t_4 : Value) (g_t_5 : Value) (g_t_6 : Value) (g_t_7 : Value) (g_t_8 : Value) (g_t_9 : Value) (g_t_10 : Value) (g_t_11 : Value) (g_t_12 : Value) (g_t_13 : Value) (g_t_14 : Value) (g_t_15 : Value) (g_t_16 : Value) (g_t_20 : Value) (g_t_22 : Value) (g_t_26 : Value) (g_t_30 : Value) (g_t_31 : Value) (g_t_32 : Value) (g_t_33 : Value) (g_t_34 : Value) (g_t_35 : Value) (g_t_36 : Value) (g_t_37 : Value) (g_t_38 : Value) (g_t_39 : Value) (g_t_40 : Value) (g_t_41 : Value) (g_t_42 : Value) (g_t_43 : Value) (c_thrown : Int) (c_above : Int) (c_below : Int) (c_leastAbove : Int) (c_leastBelow : Int) (c_leastOf : Int) (c_act : Int → Int) (c_has : Int → Int) (c_pace : Int → Int) (c_part : Int → Int) (c_speed : Int → Int) : va_W := [(a_t, .inr (9, [.int (wI c_thrown), g_t_1, g_t_2, g_t_3, g_t_4, g_t_5, g_t_6, g_t_7, g_t_8, g_t_9, g_t_10, g_t_11, g_t_12, g_t_13, g_t_14, g_t_15, g_t_16, .ref a_t_has, .ref a_t_part, .ref a_t_pace, g_t_20, .ref a_t_act, g_t_22, .ref a_t_speed, .long (wJ c_above), .long (wJ c_below), g_t_26, .long (wJ c_leastAbove), .long (wJ c_leastBelow), .int (wI c_leastOf), g_t_30, g_t_31, g_t_32, g_t_33, g_t_34, g_t_35, g_t_36, g_t_37, g_t_38, g_t_39, g_t_40, g_t_41, g_t_42, g_t_43])), (a_t_act, .inl (cy 1, 600, .inl (aI c_act))), (a_t_has, .inl (cy 1, 45, .inl (aI c_has))), (a_t_pace, .inl (cy 1, 40, .inl (aI c_pace))), (a_t_part, .inl (cy 1, 40, .inl (aI c_part))), (a_t_speed, .inl (cy 1, 4, .inl (aI c_speed)))]
def m_X9_runs (F : Nat) (x1 : Int) (x2 : Int) (x3 : Int) (c_above : Int) (c_below : Int) (c_leastAbove : Int) (c_leastBelow : Int) (c_leastOf : Int) (c_act : Int → Int) (c_has : Int → Int) (c_pace : Int → Int) (c_part : Int → Int) (c_speed : Int → Int) : Option (Int × Int × Int × Int × Int × Int × Int × (Int → Int)) :=
  bnd2 (m_X9_isTurn F x1 x3 0 c_act c_has c_part c_speed) fun r1 o2 => if wI r1 = wI 0 then
    (some ((-2), 0, c_above, c_below, c_leastAbove, c_leastBelow, c_leastOf, o2))
  else
    (chk (r32 x2) <| bnd1 (m_X9_in F x2 0 30) fun r5 => if wI r5 = wI 0 then
    (some ((-2), 0, c_above, c_below, c_leastAbove, c_leastBelow, c_leastOf, o2))
  else
    (chk (0 ≤ x1 ∧ x1 < 40) <| chk (0 ≤ x1 ∧ x1 < 40) <| bnd5 (m_X9_laysTurns F (c_pace x1) ((c_pace x1) + x2) x3 0 c_above c_below c_leastAbove c_leastBelow c_has c_part o2) fun o9 o10 o11 o12 o13 => some (o13, 0, o9, o10, o11, o12, o13, o2)))
section S_X9_runs
variable {E : EE} {a_t a_t_act a_t_has a_t_pace a_t_part a_t_speed : Nat} {g_t_1 : Value} {g_t_2 : Value} {g_t_3 : Value} {g_t_4 : Value} {g_t_5 : Value} {g_t_6 : Value} {g_t_7 : Value} {g_t_8 : Value} {g_t_9 : Value} {g_t_10 : Value} {g_t_11 : Value} {g_t_12 : Value} {g_t_13 : Value} {g_t_14 : Value} {g_t_15 : Value} {g_t_16 : Value} {g_t_20 : Value} {g_t_22 : Value} {g_t_26 : Value} {g_t_30 : Value} {g_t_31 : Value} {g_t_32 : Value} {g_t_33 : Value} {g_t_34 : Value} {g_t_35 : Value} {g_t_36 : Value} {g_t_37 : Value} {g_t_38 : Value} {g_t_39 : Value} {g_t_40 : Value} {g_t_41 : Value} {g_t_42 : Value} {g_t_43 : Value}
set_option maxRecDepth 100000 in
set_option maxHeartbeats 4000000 in
theorem wm_X9_runs {F : Nat} {v : Int × Int × Int × Int × Int × Int × Int × (Int → Int)} {x1 : Int} {x2 : Int} {x3 : Int} {c_above : Int} {c_below : Int} {c_leastAbove : Int} {c_leastBelow : Int} {c_leastOf : Int} {c_act : Int → Int} {c_has : Int → Int} {c_pace : Int → Int} {c_part : Int → Int} {c_speed : Int → Int} {c_thrown : Int} (C : Cx E cX9_runs RX9 { frames := 204, cells := 0, slots := 0, locals := 6295 }) (hN : eN E = 4) (h : m_X9_runs F x1 x2 x3 c_above c_below c_leastAbove c_leastBelow c_leastOf c_act c_has c_pace c_part c_speed = some v) (hret : ∀ (pc : Nat) (L : List (Option Value)), decode cX9_runs pc = .ok (.ireturn, 1) → GG E 0 0 (W_X9_runs (eCy E) a_t a_t_act a_t_has a_t_pace a_t_part a_t_speed g_t_1 g_t_2 g_t_3 g_t_4 g_t_5 g_t_6 g_t_7 g_t_8 g_t_9 g_t_10 g_t_11 g_t_12 g_t_13 g_t_14 g_t_15 g_t_16 g_t_20 g_t_22 g_t_26 g_t_30 g_t_31 g_t_32 g_t_33 g_t_34 g_t_35 g_t_36 g_t_37 g_t_38 g_t_39 g_t_40 g_t_41 g_t_42 g_t_43 (v.2.1) (v.2.2.1) (v.2.2.2.1) (v.2.2.2.2.1) (v.2.2.2.2.2.1) (v.2.2.2.2.2.2.1) c_act c_has c_pace c_part (v.2.2.2.2.2.2.2)) L pc [.int (wI (v.1))]) : GG E 0 0 (W_X9_runs (eCy E) a_t a_t_act a_t_has a_t_pace a_t_part a_t_speed g_t_1 g_t_2 g_t_3 g_t_4 g_t_5 g_t_6 g_t_7 g_t_8 g_t_9 g_t_10 g_t_11 g_t_12 g_t_13 g_t_14 g_t_15 g_t_16 g_t_20 g_t_22 g_t_26 g_t_30 g_t_31 g_t_32 g_t_33 g_t_34 g_t_35 g_t_36 g_t_37 g_t_38 g_t_39 g_t_40 g_t_41 g_t_42 g_t_43 c_thrown c_above c_below c_leastAbove c_leastBelow c_leastOf c_act c_has c_pace c_part c_speed) [some (.ref a_t), some (.int (wI x1)), some (.int (wI x2)), some (.int (wI x3))] 0 [] := by
  unfold m_X9_runs at h
  refine g_aload_n 0 C dX9_runs_0 rfl rfl ?_
  refine g_iconst C dX9_runs_1 ?_
  refine g_putI C fp_X9_71 0 rfl rfl (ws' := (W_X9_runs (eCy E) a_t a_t_act a_t_has a_t_pace a_t_part a_t_speed g_t_1 g_t_2 g_t_3 g_t_4 g_t_5 g_t_6 g_t_7 g_t_8 g_t_9 g_t_10 g_t_11 g_t_12 g_t_13 g_t_14 g_t_15 g_t_16 g_t_20 g_t_22 g_t_26 g_t_30 g_t_31 g_t_32 g_t_33 g_t_34 g_t_35 g_t_36 g_t_37 g_t_38 g_t_39 g_t_40 g_t_41 g_t_42 g_t_43 0 c_above c_below c_leastAbove c_leastBelow c_leastOf c_act c_has c_pace c_part c_speed)) rfl dX9_runs_2 ?_
  refine g_aload_n 0 C dX9_runs_5 rfl rfl ?_
  refine g_iload_n 1 C dX9_runs_6 rfl rfl ?_
  refine g_iload_n 3 C dX9_runs_7 rfl rfl ?_
  refine g_iconst C dX9_runs_8 ?_
  obtain ⟨r1, o2, hr3, h⟩ := bnd2_some h
  refine g_callI [0, 1, 2, 4, 5] [3] [1, 2, 3, 0, 4, 5] C mt_X9_307 (c_X9_isTurn _ _ _ _ a_t a_t_act a_t_has a_t_part a_t_speed (.int (wI 0)) (g_t_1) (g_t_2) (g_t_3) (g_t_4) (g_t_5) (g_t_6) (g_t_7) (g_t_8) (g_t_9) (g_t_10) (g_t_11) (g_t_12) (g_t_13) (g_t_14) (g_t_15) (g_t_16) (.ref a_t_pace) (g_t_20) (g_t_22) (.long (wJ c_above)) (.long (wJ c_below)) (g_t_26) (.long (wJ c_leastAbove)) (.long (wJ c_leastBelow)) (.int (wI c_leastOf)) (g_t_30) (g_t_31) (g_t_32) (g_t_33) (g_t_34) (g_t_35) (g_t_36) (g_t_37) (g_t_38) (g_t_39) (g_t_40) (g_t_41) (g_t_42) (g_t_43) x1 x3 0 c_act c_has c_part c_speed F hr3) (q0 := 0) rfl (ci := 9) rfl rfl rfl (ws2 := (W_X9_runs (eCy E) a_t a_t_act a_t_has a_t_pace a_t_part a_t_speed g_t_1 g_t_2 g_t_3 g_t_4 g_t_5 g_t_6 g_t_7 g_t_8 g_t_9 g_t_10 g_t_11 g_t_12 g_t_13 g_t_14 g_t_15 g_t_16 g_t_20 g_t_22 g_t_26 g_t_30 g_t_31 g_t_32 g_t_33 g_t_34 g_t_35 g_t_36 g_t_37 g_t_38 g_t_39 g_t_40 g_t_41 g_t_42 g_t_43 0 c_above c_below c_leastAbove c_leastBelow c_leastOf c_act c_has c_pace c_part o2)) rfl rfl rfl (rest := []) rfl rfl rfl dX9_runs_9 ?_
  refine g_if_eq 27 C dX9_runs_12 (by decide) h (fun h => ?_) (fun h => ?_)
  · refine g_bipush C dX9_runs_27 (by decide) ?_
    cases h
    exact hret 29 _ dX9_runs_29
  · refine g_iload_n 2 C dX9_runs_15 rfl rfl ?_
    obtain ⟨hc4, h⟩ := chk_some h
    refine g_i2l C dX9_runs_16 hc4 ?_
    refine g_lconst (x := 0) C dX9_runs_17 (by decide) ?_
    refine g_ldc2 (v := 30) C mc_X9_314 dX9_runs_18 ?_
    obtain ⟨r5, hr6, h⟩ := bnd1_some h
    refine g_callSI [] [0, 1, 2, 3, 4, 5] [0, 1, 2, 3, 4, 5] C mt_X9_76 (c_X9_in _ _ _ _ x2 0 30 F hr6) rfl rfl (ws2 := (W_X9_runs (eCy E) a_t a_t_act a_t_has a_t_pace a_t_part a_t_speed g_t_1 g_t_2 g_t_3 g_t_4 g_t_5 g_t_6 g_t_7 g_t_8 g_t_9 g_t_10 g_t_11 g_t_12 g_t_13 g_t_14 g_t_15 g_t_16 g_t_20 g_t_22 g_t_26 g_t_30 g_t_31 g_t_32 g_t_33 g_t_34 g_t_35 g_t_36 g_t_37 g_t_38 g_t_39 g_t_40 g_t_41 g_t_42 g_t_43 0 c_above c_below c_leastAbove c_leastBelow c_leastOf c_act c_has c_pace c_part o2)) rfl rfl rfl (rest := []) rfl rfl rfl dX9_runs_21 ?_
    refine g_if_ne 30 C dX9_runs_24 (by decide) h (fun h => ?_) (fun h => ?_)
    · refine g_aload_n 0 C dX9_runs_30 rfl rfl ?_
      refine g_aload_n 0 C dX9_runs_31 rfl rfl ?_
      refine g_get C fg_X9_40 0 rfl rfl dX9_runs_32 ?_
      refine g_iload_n 1 C dX9_runs_35 rfl rfl ?_
      obtain ⟨hc7, h⟩ := chk_some h
      refine g_iald C 3 rfl hc7 rfl dX9_runs_36 ?_
      refine g_aload_n 0 C dX9_runs_37 rfl rfl ?_
      refine g_get C fg_X9_40 0 rfl rfl dX9_runs_38 ?_
      refine g_iload_n 1 C dX9_runs_41 rfl rfl ?_
      obtain ⟨hc8, h⟩ := chk_some h
      refine g_iald C 3 rfl hc8 rfl dX9_runs_42 ?_
      refine g_iload_n 2 C dX9_runs_43 rfl rfl ?_
      refine g_iadd C dX9_runs_44 ?_
      refine g_iload_n 3 C dX9_runs_45 rfl rfl ?_
      refine g_iconst C dX9_runs_46 ?_
      obtain ⟨o9, o10, o11, o12, o13, hr14, h⟩ := bnd5_some h
      refine g_callV [0, 2, 4, 5] [1, 3] [2, 0, 3, 1, 4, 5] C mt_X9_310 (c_X9_laysTurns _ _ _ _ a_t a_t_has a_t_part a_t_speed (.int (wI 0)) (g_t_1) (g_t_2) (g_t_3) (g_t_4) (g_t_5) (g_t_6) (g_t_7) (g_t_8) (g_t_9) (g_t_10) (g_t_11) (g_t_12) (g_t_13) (g_t_14) (g_t_15) (g_t_16) (.ref a_t_pace) (g_t_20) (.ref a_t_act) (g_t_22) (g_t_26) (g_t_30) (g_t_31) (g_t_32) (g_t_33) (g_t_34) (g_t_35) (g_t_36) (g_t_37) (g_t_38) (g_t_39) (g_t_40) (g_t_41) (g_t_42) (g_t_43) (c_pace x1) ((c_pace x1) + x2) x3 0 c_above c_below c_leastAbove c_leastBelow c_leastOf c_has c_part o2 F hr14) (q0 := 0) rfl (ci := 9) rfl rfl rfl (ws2 := (W_X9_runs (eCy E) a_t a_t_act a_t_has a_t_pace a_t_part a_t_speed g_t_1 g_t_2 g_t_3 g_t_4 g_t_5 g_t_6 g_t_7 g_t_8 g_t_9 g_t_10 g_t_11 g_t_12 g_t_13 g_t_14 g_t_15 g_t_16 g_t_20 g_t_22 g_t_26 g_t_30 g_t_31 g_t_32 g_t_33 g_t_34 g_t_35 g_t_36 g_t_37 g_t_38 g_t_39 g_t_40 g_t_41 g_t_42 g_t_43 0 o9 o10 o11 o12 o13 c_act c_has c_pace c_part o2)) rfl rfl rfl (rest := []) rfl rfl rfl dX9_runs_47 ?_
      refine g_aload_n 0 C dX9_runs_50 rfl rfl ?_
      refine g_get C fg_X9_288 0 rfl rfl dX9_runs_51 ?_
      refine g_st (st' := [.int (wI o13)]) rfl ?_
      cases h
      exact hret 54 _ dX9_runs_54
    · refine g_bipush C dX9_runs_27 (by decide) ?_
      cases h
      exact hret 29 _ dX9_runs_29
end S_X9_runs
set_option maxRecDepth 100000 in
set_option maxHeartbeats 4000000 in
theorem c_X9_runs (l : Launch) (D : va_G) (cy : Nat → ClassId) (ad : AD) (a_t a_t_act a_t_has a_t_pace a_t_part a_t_speed : Nat) (g_t_1 : Value) (g_t_2 : Value) (g_t_3 : Value) (g_t_4 : Value) (g_t_5 : Value) (g_t_6 : Value) (g_t_7 : Value) (g_t_8 : Value) (g_t_9 : Value) (g_t_10 : Value) (g_t_11 : Value) (g_t_12 : Value) (g_t_13 : Value) (g_t_14 : Value) (g_t_15 : Value) (g_t_16 : Value) (g_t_20 : Value) (g_t_22 : Value) (g_t_26 : Value) (g_t_30 : Value) (g_t_31 : Value) (g_t_32 : Value) (g_t_33 : Value) (g_t_34 : Value) (g_t_35 : Value) (g_t_36 : Value) (g_t_37 : Value) (g_t_38 : Value) (g_t_39 : Value) (g_t_40 : Value) (g_t_41 : Value) (g_t_42 : Value) (g_t_43 : Value) (x1 : Int) (x2 : Int) (x3 : Int) (c_thrown : Int) (c_above : Int) (c_below : Int) (c_leastAbove : Int) (c_leastBelow : Int) (c_leastOf : Int) (c_act : Int → Int) (c_has : Int → Int) (c_pace : Int → Int) (c_part : Int → Int) (c_speed : Int → Int) (F : Nat) {v : Int × Int × Int × Int × Int × Int × Int × (Int → Int)} (h : m_X9_runs F x1 x2 x3 c_above c_below c_leastAbove c_leastBelow c_leastOf c_act c_has c_pace c_part c_speed = some v) : Ct l yX9_runs cX9_runs 4 (some .int) { frames := 204, cells := 0, slots := 0, locals := 6295 } D cy ad [.ref a_t, .int (wI x1), .int (wI x2), .int (wI x3)] (W_X9_runs cy a_t a_t_act a_t_has a_t_pace a_t_part a_t_speed g_t_1 g_t_2 g_t_3 g_t_4 g_t_5 g_t_6 g_t_7 g_t_8 g_t_9 g_t_10 g_t_11 g_t_12 g_t_13 g_t_14 g_t_15 g_t_16 g_t_20 g_t_22 g_t_26 g_t_30 g_t_31 g_t_32 g_t_33 g_t_34 g_t_35 g_t_36 g_t_37 g_t_38 g_t_39 g_t_40 g_t_41 g_t_42 g_t_43 c_thrown c_above c_below c_leastAbove c_leastBelow c_leastOf c_act c_has c_pace c_part c_speed) (W_X9_runs cy a_t a_t_act a_t_has a_t_pace a_t_part a_t_speed g_t_1 g_t_2 g_t_3 g_t_4 g_t_5 g_t_6 g_t_7 g_t_8 g_t_9 g_t_10 g_t_11 g_t_12 g_t_13 g_t_14 g_t_15 g_t_16 g_t_20 g_t_22 g_t_26 g_t_30 g_t_31 g_t_32 g_t_33 g_t_34 g_t_35 g_t_36 g_t_37 g_t_38 g_t_39 g_t_40 g_t_41 g_t_42 g_t_43 (v.2.1) (v.2.2.1) (v.2.2.2.1) (v.2.2.2.2.1) (v.2.2.2.2.2.1) (v.2.2.2.2.2.2.1) c_act c_has c_pace c_part (v.2.2.2.2.2.2.2)) (some (.int (wI (v.1)))) := by
  refine Ct.introI (j := 0) (plainFor_of_name (by decide)) rfl rfl (fun E C e1 e2 e3 e4 e5 hret => ?_)
  subst e1; subst e2; subst e3; subst e4
  exact wm_X9_runs C e5 h hret
-- MovingStairModel.isTrain(II)Z
def W_X9_isTrain (cy : Nat → ClassId) (a_t a_t_act a_t_has a_t_part a_t_speed : Nat) (g_t_0 : Value) (g_t_1 : Value) (g_t_2 : Value) (g_t_3 : Value) (g_t_4 : Value) (g_t_5 : Value) (g_t_6 : Value) (g_t_7 : Value) (g_t_8 : Value) (g_t_9 : Value) (g_t_10 : Value) (g_t_11 : Value) (g_t_12 : Value) (g_t_13 : Value) (g_t_14 : Value) (g_t_15 : Value) (g_t_16 : Value) (g_t_19 : Value) (g_t_20 : Value) (g_t_22 : Value) (g_t_24 : Value) (g_t_25 : Value) (g_t_26 : Value) (g_t_27 : Value) (g_t_28 : Value) (g_t_29 : Value) (g_t_30 : Value) (g_t_31 : Value) (g_t_32 : Value) (g_t_33 : Value) (g_t_34 : Value) (g_t_35 : Value) (g_t_36 : Value) (g_t_37 : Value) (g_t_38 : Value) (g_t_39 : Value) (g_t_40 : Value) (g_t_41 : Value) (g_t_42 : Value) (g_t_43 : Value) (c_act : Int → Int) (c_has : Int → Int) (c_part : Int → Int) (c_speed : Int → Int) : va_W := [(a_t, .inr (9, [g_t_0, g_t_1, g_t_2, g_t_3, g_t_4, g_t_5, g_t_6, g_t_7, g_t_8, g_t_9, g_t_10, g_t_11, g_t_12, g_t_13, g_t_14, g_t_15, g_t_16, .ref a_t_has, .ref a_t_part, g_t_19, g_t_20, .ref a_t_act, g_t_22, .ref a_t_speed, g_t_24, g_t_25, g_t_26, g_t_27, g_t_28, g_t_29, g_t_30, g_t_31, g_t_32, g_t_33, g_t_34, g_t_35, g_t_36, g_t_37, g_t_38, g_t_39, g_t_40, g_t_41, g_t_42, g_t_43])), (a_t_act, .inl (cy 1, 600, .inl (aI c_act))), (a_t_has, .inl (cy 1, 45, .inl (aI c_has))), (a_t_part, .inl (cy 1, 40, .inl (aI c_part))), (a_t_speed, .inl (cy 1, 4, .inl (aI c_speed)))]
def m_X9_isTrain (F : Nat) (x1 : Int) (x2 : Int) (c_act : Int → Int) (c_has : Int → Int) (c_part : Int → Int) (c_speed : Int → Int) : Option (Int × (Int → Int)) :=
  bnd2 (m_X9_isWay F x1 0 c_act c_has c_part c_speed) fun r1 o2 => if wI r1 = wI 0 then
    (some (0, o2))
  else
    (chk (r32 x2) <| bnd1 (m_X9_in F x2 0 600) fun r5 => if wI r5 = wI 0 then
    (some (0, o2))
  else
    (some (1, o2)))
section S_X9_isTrain
variable {E : EE} {a_t a_t_act a_t_has a_t_part a_t_speed : Nat} {g_t_0 : Value} {g_t_1 : Value} {g_t_2 : Value} {g_t_3 : Value} {g_t_4 : Value} {g_t_5 : Value} {g_t_6 : Value} {g_t_7 : Value} {g_t_8 : Value} {g_t_9 : Value} {g_t_10 : Value} {g_t_11 : Value} {g_t_12 : Value} {g_t_13 : Value} {g_t_14 : Value} {g_t_15 : Value} {g_t_16 : Value} {g_t_19 : Value} {g_t_20 : Value} {g_t_22 : Value} {g_t_24 : Value} {g_t_25 : Value} {g_t_26 : Value} {g_t_27 : Value} {g_t_28 : Value} {g_t_29 : Value} {g_t_30 : Value} {g_t_31 : Value} {g_t_32 : Value} {g_t_33 : Value} {g_t_34 : Value} {g_t_35 : Value} {g_t_36 : Value} {g_t_37 : Value} {g_t_38 : Value} {g_t_39 : Value} {g_t_40 : Value} {g_t_41 : Value} {g_t_42 : Value} {g_t_43 : Value}
set_option maxRecDepth 100000 in
set_option maxHeartbeats 4000000 in
theorem wm_X9_isTrain {F : Nat} {v : Int × (Int → Int)} {x1 : Int} {x2 : Int} {c_act : Int → Int} {c_has : Int → Int} {c_part : Int → Int} {c_speed : Int → Int} (C : Cx E cX9_isTrain RX9 { frames := 3, cells := 0, slots := 0, locals := 68 }) (hN : eN E = 3) (h : m_X9_isTrain F x1 x2 c_act c_has c_part c_speed = some v) (hret : ∀ (pc : Nat) (L : List (Option Value)), narrow .boolean (.int (wI (v.1))) = .int (wI (v.1)) → decode cX9_isTrain pc = .ok (.ireturn, 1) → GG E 0 0 (W_X9_isTrain (eCy E) a_t a_t_act a_t_has a_t_part a_t_speed g_t_0 g_t_1 g_t_2 g_t_3 g_t_4 g_t_5 g_t_6 g_t_7 g_t_8 g_t_9 g_t_10 g_t_11 g_t_12 g_t_13 g_t_14 g_t_15 g_t_16 g_t_19 g_t_20 g_t_22 g_t_24 g_t_25 g_t_26 g_t_27 g_t_28 g_t_29 g_t_30 g_t_31 g_t_32 g_t_33 g_t_34 g_t_35 g_t_36 g_t_37 g_t_38 g_t_39 g_t_40 g_t_41 g_t_42 g_t_43 c_act c_has c_part (v.2)) L pc [.int (wI (v.1))]) : GG E 0 0 (W_X9_isTrain (eCy E) a_t a_t_act a_t_has a_t_part a_t_speed g_t_0 g_t_1 g_t_2 g_t_3 g_t_4 g_t_5 g_t_6 g_t_7 g_t_8 g_t_9 g_t_10 g_t_11 g_t_12 g_t_13 g_t_14 g_t_15 g_t_16 g_t_19 g_t_20 g_t_22 g_t_24 g_t_25 g_t_26 g_t_27 g_t_28 g_t_29 g_t_30 g_t_31 g_t_32 g_t_33 g_t_34 g_t_35 g_t_36 g_t_37 g_t_38 g_t_39 g_t_40 g_t_41 g_t_42 g_t_43 c_act c_has c_part c_speed) [some (.ref a_t), some (.int (wI x1)), some (.int (wI x2))] 0 [] := by
  unfold m_X9_isTrain at h
  refine g_aload_n 0 C dX9_isTrain_0 rfl rfl ?_
  refine g_iload_n 1 C dX9_isTrain_1 rfl rfl ?_
  refine g_iconst C dX9_isTrain_2 ?_
  obtain ⟨r1, o2, hr3, h⟩ := bnd2_some h
  refine g_callI [0, 1, 2, 3, 4] [] [0, 1, 2, 3, 4] C mt_X9_263 (c_X9_isWay _ _ _ _ a_t a_t_act a_t_has a_t_part a_t_speed (g_t_0) (g_t_1) (g_t_2) (g_t_3) (g_t_4) (g_t_5) (g_t_6) (g_t_7) (g_t_8) (g_t_9) (g_t_10) (g_t_11) (g_t_12) (g_t_13) (g_t_14) (g_t_15) (g_t_16) (g_t_19) (g_t_20) (g_t_22) (g_t_24) (g_t_25) (g_t_26) (g_t_27) (g_t_28) (g_t_29) (g_t_30) (g_t_31) (g_t_32) (g_t_33) (g_t_34) (g_t_35) (g_t_36) (g_t_37) (g_t_38) (g_t_39) (g_t_40) (g_t_41) (g_t_42) (g_t_43) x1 0 c_act c_has c_part c_speed F hr3) (q0 := 0) rfl (ci := 9) rfl rfl rfl (ws2 := (W_X9_isTrain (eCy E) a_t a_t_act a_t_has a_t_part a_t_speed g_t_0 g_t_1 g_t_2 g_t_3 g_t_4 g_t_5 g_t_6 g_t_7 g_t_8 g_t_9 g_t_10 g_t_11 g_t_12 g_t_13 g_t_14 g_t_15 g_t_16 g_t_19 g_t_20 g_t_22 g_t_24 g_t_25 g_t_26 g_t_27 g_t_28 g_t_29 g_t_30 g_t_31 g_t_32 g_t_33 g_t_34 g_t_35 g_t_36 g_t_37 g_t_38 g_t_39 g_t_40 g_t_41 g_t_42 g_t_43 c_act c_has c_part o2)) rfl rfl rfl (rest := []) rfl rfl rfl dX9_isTrain_3 ?_
  refine g_if_eq 25 C dX9_isTrain_6 (by decide) h (fun h => ?_) (fun h => ?_)
  · refine g_iconst C dX9_isTrain_25 ?_
    cases h
    exact hret 26 _ bn0 dX9_isTrain_26
  · refine g_iload_n 2 C dX9_isTrain_9 rfl rfl ?_
    obtain ⟨hc4, h⟩ := chk_some h
    refine g_i2l C dX9_isTrain_10 hc4 ?_
    refine g_lconst (x := 0) C dX9_isTrain_11 (by decide) ?_
    refine g_ldc2 (v := 600) C mc_X9_316 dX9_isTrain_12 ?_
    obtain ⟨r5, hr6, h⟩ := bnd1_some h
    refine g_callSI [] [0, 1, 2, 3, 4] [0, 1, 2, 3, 4] C mt_X9_76 (c_X9_in _ _ _ _ x2 0 600 F hr6) rfl rfl (ws2 := (W_X9_isTrain (eCy E) a_t a_t_act a_t_has a_t_part a_t_speed g_t_0 g_t_1 g_t_2 g_t_3 g_t_4 g_t_5 g_t_6 g_t_7 g_t_8 g_t_9 g_t_10 g_t_11 g_t_12 g_t_13 g_t_14 g_t_15 g_t_16 g_t_19 g_t_20 g_t_22 g_t_24 g_t_25 g_t_26 g_t_27 g_t_28 g_t_29 g_t_30 g_t_31 g_t_32 g_t_33 g_t_34 g_t_35 g_t_36 g_t_37 g_t_38 g_t_39 g_t_40 g_t_41 g_t_42 g_t_43 c_act c_has c_part o2)) rfl rfl rfl (rest := []) rfl rfl rfl dX9_isTrain_15 ?_
    refine g_if_eq 25 C dX9_isTrain_18 (by decide) h (fun h => ?_) (fun h => ?_)
    · refine g_iconst C dX9_isTrain_25 ?_
      cases h
      exact hret 26 _ bn0 dX9_isTrain_26
    · refine g_iconst C dX9_isTrain_21 ?_
      refine g_goto (tgt := 26) C dX9_isTrain_22 (by decide) ?_
      cases h
      exact hret 26 _ bn1 dX9_isTrain_26
end S_X9_isTrain
set_option maxRecDepth 100000 in
set_option maxHeartbeats 4000000 in
theorem c_X9_isTrain (l : Launch) (D : va_G) (cy : Nat → ClassId) (ad : AD) (a_t a_t_act a_t_has a_t_part a_t_speed : Nat) (g_t_0 : Value) (g_t_1 : Value) (g_t_2 : Value) (g_t_3 : Value) (g_t_4 : Value) (g_t_5 : Value) (g_t_6 : Value) (g_t_7 : Value) (g_t_8 : Value) (g_t_9 : Value) (g_t_10 : Value) (g_t_11 : Value) (g_t_12 : Value) (g_t_13 : Value) (g_t_14 : Value) (g_t_15 : Value) (g_t_16 : Value) (g_t_19 : Value) (g_t_20 : Value) (g_t_22 : Value) (g_t_24 : Value) (g_t_25 : Value) (g_t_26 : Value) (g_t_27 : Value) (g_t_28 : Value) (g_t_29 : Value) (g_t_30 : Value) (g_t_31 : Value) (g_t_32 : Value) (g_t_33 : Value) (g_t_34 : Value) (g_t_35 : Value) (g_t_36 : Value) (g_t_37 : Value) (g_t_38 : Value) (g_t_39 : Value) (g_t_40 : Value) (g_t_41 : Value) (g_t_42 : Value) (g_t_43 : Value) (x1 : Int) (x2 : Int) (c_act : Int → Int) (c_has : Int → Int) (c_part : Int → Int) (c_speed : Int → Int) (F : Nat) {v : Int × (Int → Int)} (h : m_X9_isTrain F x1 x2 c_act c_has c_part c_speed = some v) : Ct l yX9_isTrain cX9_isTrain 3 (some .boolean) { frames := 3, cells := 0, slots := 0, locals := 68 } D cy ad [.ref a_t, .int (wI x1), .int (wI x2)] (W_X9_isTrain cy a_t a_t_act a_t_has a_t_part a_t_speed g_t_0 g_t_1 g_t_2 g_t_3 g_t_4 g_t_5 g_t_6 g_t_7 g_t_8 g_t_9 g_t_10 g_t_11 g_t_12 g_t_13 g_t_14 g_t_15 g_t_16 g_t_19 g_t_20 g_t_22 g_t_24 g_t_25 g_t_26 g_t_27 g_t_28 g_t_29 g_t_30 g_t_31 g_t_32 g_t_33 g_t_34 g_t_35 g_t_36 g_t_37 g_t_38 g_t_39 g_t_40 g_t_41 g_t_42 g_t_43 c_act c_has c_part c_speed) (W_X9_isTrain cy a_t a_t_act a_t_has a_t_part a_t_speed g_t_0 g_t_1 g_t_2 g_t_3 g_t_4 g_t_5 g_t_6 g_t_7 g_t_8 g_t_9 g_t_10 g_t_11 g_t_12 g_t_13 g_t_14 g_t_15 g_t_16 g_t_19 g_t_20 g_t_22 g_t_24 g_t_25 g_t_26 g_t_27 g_t_28 g_t_29 g_t_30 g_t_31 g_t_32 g_t_33 g_t_34 g_t_35 g_t_36 g_t_37 g_t_38 g_t_39 g_t_40 g_t_41 g_t_42 g_t_43 c_act c_has c_part (v.2)) (some (.int (wI (v.1)))) := by
  refine Ct.introZ (j := 0) (plainFor_of_name (by decide)) rfl rfl (fun E C e1 e2 e3 e4 e5 hret => ?_)
  subst e1; subst e2; subst e3; subst e4
  exact wm_X9_isTrain C e5 h hret
-- MovingStairModel.train(II)I
def W_X9_train (cy : Nat → ClassId) (a_t a_t_act a_t_has a_t_pace a_t_part a_t_speed : Nat) (g_t_1 : Value) (g_t_2 : Value) (g_t_3 : Value) (g_t_4 : Value) (g_t_5 : Value) (g_t_6 : Value) (g_t_7 : Value) (g_t_8 : Value) (g_t_9 : Value) (g_t_10 : Value) (g_t_11 : Value) (g_t_12 : Value) (g_t_13 : Value) (g_t_14 : Value) (g_t_15 : Value) (g_t_16 : Value) (g_t_20 : Value) (g_t_22 : Value) (g_t_26 : Value) (g_t_27 : Value) (g_t_28 : Value) (g_t_29 : Value) (g_t_30 : Value) (g_t_31 : Value) (g_t_32 : Value) (g_t_33 : Value) (g_t_34 : Value) (g_t_35 : Value) (g_t_36 : Value) (g_t_37 : Value) (g_t_38 : Value) (g_t_39 : Value) (g_t_40 : Value) (g_t_41 : Value) (g_t_42 : Value) (g_t_43 : Value) (c_thrown : Int) (c_above : Int) (c_below : Int) (c_act : Int → Int) (c_has : Int → Int) (c_pace : Int → Int) (c_part : Int → Int) (c_speed : Int → Int) : va_W := [(a_t, .inr (9, [.int (wI c_thrown), g_t_1, g_t_2, g_t_3, g_t_4, g_t_5, g_t_6, g_t_7, g_t_8, g_t_9, g_t_10, g_t_11, g_t_12, g_t_13, g_t_14, g_t_15, g_t_16, .ref a_t_has, .ref a_t_part, .ref a_t_pace, g_t_20, .ref a_t_act, g_t_22, .ref a_t_speed, .long (wJ c_above), .long (wJ c_below), g_t_26, g_t_27, g_t_28, g_t_29, g_t_30, g_t_31, g_t_32, g_t_33, g_t_34, g_t_35, g_t_36, g_t_37, g_t_38, g_t_39, g_t_40, g_t_41, g_t_42, g_t_43])), (a_t_act, .inl (cy 1, 600, .inl (aI c_act))), (a_t_has, .inl (cy 1, 45, .inl (aI c_has))), (a_t_pace, .inl (cy 1, 40, .inl (aI c_pace))), (a_t_part, .inl (cy 1, 40, .inl (aI c_part))), (a_t_speed, .inl (cy 1, 4, .inl (aI c_speed)))]
def mb_X9_train_58 (F : Nat) (k19 : Int → Int → Int → Option (Int × Int × Int × Int × (Int → Int))) (x1 : Int) (x2 : Int) (x3 : Int) (c_thrown : Int) (c_above : Int) (c_below : Int) (c_has : Int → Int) (c_pace : Int → Int) (c_part : Int → Int) (c_speed : Int → Int) : Option (Int × Int × Int × Int × (Int → Int)) :=
  k19 (x3 + 1) c_above c_below
def mb_X9_train_19 (F : Nat) (k19 : Int → Int → Int → Option (Int × Int × Int × Int × (Int → Int))) (x1 : Int) (x2 : Int) (x3 : Int) (c_thrown : Int) (c_above : Int) (c_below : Int) (c_has : Int → Int) (c_pace : Int → Int) (c_part : Int → Int) (c_speed : Int → Int) : Option (Int × Int × Int × Int × (Int → Int)) :=
  if wI 30 < wI x3 then
    (some ((-1), c_thrown, c_above, c_below, c_speed))
  else
    (chk (0 ≤ x1 ∧ x1 < 40) <| bnd3 (m_X9_goes F ((c_pace x1) + x3) 1 c_has c_part c_speed) fun r2 o3 o4 => if wI r2 = wI 0 then
    (mb_X9_train_58 F k19 x1 x2 x3 c_thrown o3 o4 c_has c_pace c_part c_speed)
  else
    (chk (r32 x2) <| if wJ (x2 * o4) < wJ o3 then
    (mb_X9_train_58 F k19 x1 x2 x3 c_thrown o3 o4 c_has c_pace c_part c_speed)
  else
    (some (x3, c_thrown, o3, o4, c_speed))))
def ml_X9_train_19 (F : Nat) (x1 : Int) (x2 : Int) (x3 : Int) (c_thrown : Int) (c_above : Int) (c_below : Int) (c_has : Int → Int) (c_pace : Int → Int) (c_part : Int → Int) (c_speed : Int → Int) : Option (Int × Int × Int × Int × (Int → Int)) :=
  loopN (fun (k : Int × Int × Int → Option (Int × Int × Int × Int × (Int → Int))) q => mb_X9_train_19 F (fun y0 y1 y2 => k (y0, y1, y2)) x1 x2 q.1 c_thrown q.2.1 q.2.2 c_has c_pace c_part c_speed) F (x3, c_above, c_below)
def m_X9_train (F : Nat) (x1 : Int) (x2 : Int) (c_above : Int) (c_below : Int) (c_act : Int → Int) (c_has : Int → Int) (c_pace : Int → Int) (c_part : Int → Int) (c_speed : Int → Int) : Option (Int × Int × Int × Int × (Int → Int)) :=
  bnd2 (m_X9_isTrain F x1 x2 c_act c_has c_part c_speed) fun r1 o2 => if wI r1 = wI 0 then
    (some ((-2), 0, c_above, c_below, o2))
  else
    (ml_X9_train_19 F x1 x2 0 0 c_above c_below c_has c_pace c_part o2)
section S_X9_train
variable {E : EE} {a_t a_t_act a_t_has a_t_pace a_t_part a_t_speed : Nat} {g_t_1 : Value} {g_t_2 : Value} {g_t_3 : Value} {g_t_4 : Value} {g_t_5 : Value} {g_t_6 : Value} {g_t_7 : Value} {g_t_8 : Value} {g_t_9 : Value} {g_t_10 : Value} {g_t_11 : Value} {g_t_12 : Value} {g_t_13 : Value} {g_t_14 : Value} {g_t_15 : Value} {g_t_16 : Value} {g_t_20 : Value} {g_t_22 : Value} {g_t_26 : Value} {g_t_27 : Value} {g_t_28 : Value} {g_t_29 : Value} {g_t_30 : Value} {g_t_31 : Value} {g_t_32 : Value} {g_t_33 : Value} {g_t_34 : Value} {g_t_35 : Value} {g_t_36 : Value} {g_t_37 : Value} {g_t_38 : Value} {g_t_39 : Value} {g_t_40 : Value} {g_t_41 : Value} {g_t_42 : Value} {g_t_43 : Value}
set_option maxRecDepth 100000 in
set_option maxHeartbeats 4000000 in
theorem wb_X9_train_58 {F : Nat} {k19 : Int → Int → Int → Option (Int × Int × Int × Int × (Int → Int))} {v : Int × Int × Int × Int × (Int → Int)} {x1 : Int} {x2 : Int} {x3 : Int} {c_thrown : Int} {c_above : Int} {c_below : Int} {c_has : Int → Int} {c_pace : Int → Int} {c_part : Int → Int} {c_speed : Int → Int} {c_act : Int → Int} (C : Cx E cX9_train RX9 { frames := 203, cells := 0, slots := 0, locals := 4673 }) (hN : eN E = 4) (h : mb_X9_train_58 F k19 x1 x2 x3 c_thrown c_above c_below c_has c_pace c_part c_speed = some v) (hk19 : ∀ (y_x3 : Int) (y_c_above : Int) (y_c_below : Int), k19 y_x3 y_c_above y_c_below = some v → GG E 0 0 (W_X9_train (eCy E) a_t a_t_act a_t_has a_t_pace a_t_part a_t_speed g_t_1 g_t_2 g_t_3 g_t_4 g_t_5 g_t_6 g_t_7 g_t_8 g_t_9 g_t_10 g_t_11 g_t_12 g_t_13 g_t_14 g_t_15 g_t_16 g_t_20 g_t_22 g_t_26 g_t_27 g_t_28 g_t_29 g_t_30 g_t_31 g_t_32 g_t_33 g_t_34 g_t_35 g_t_36 g_t_37 g_t_38 g_t_39 g_t_40 g_t_41 g_t_42 g_t_43 c_thrown y_c_above y_c_below c_act c_has c_pace c_part c_speed) [some (.ref a_t), some (.int (wI x1)), some (.int (wI x2)), some (.int (wI y_x3))] 19 []) (hret : ∀ (pc : Nat) (L : List (Option Value)), decode cX9_train pc = .ok (.ireturn, 1) → GG E 0 0 (W_X9_train (eCy E) a_t a_t_act a_t_has a_t_pace a_t_part a_t_speed g_t_1 g_t_2 g_t_3 g_t_4 g_t_5 g_t_6 g_t_7 g_t_8 g_t_9 g_t_10 g_t_11 g_t_12 g_t_13 g_t_14 g_t_15 g_t_16 g_t_20 g_t_22 g_t_26 g_t_27 g_t_28 g_t_29 g_t_30 g_t_31 g_t_32 g_t_33 g_t_34 g_t_35 g_t_36 g_t_37 g_t_38 g_t_39 g_t_40 g_t_41 g_t_42 g_t_43 (v.2.1) (v.2.2.1) (v.2.2.2.1) c_act c_has c_pace c_part (v.2.2.2.2)) L pc [.int (wI (v.1))]) : GG E 0 0 (W_X9_train (eCy E) a_t a_t_act a_t_has a_t_pace a_t_part a_t_speed g_t_1 g_t_2 g_t_3 g_t_4 g_t_5 g_t_6 g_t_7 g_t_8 g_t_9 g_t_10 g_t_11 g_t_12 g_t_13 g_t_14 g_t_15 g_t_16 g_t_20 g_t_22 g_t_26 g_t_27 g_t_28 g_t_29 g_t_30 g_t_31 g_t_32 g_t_33 g_t_34 g_t_35 g_t_36 g_t_37 g_t_38 g_t_39 g_t_40 g_t_41 g_t_42 g_t_43 c_thrown c_above c_below c_act c_has c_pace c_part c_speed) [some (.ref a_t), some (.int (wI x1)), some (.int (wI x2)), some (.int (wI x3))] 58 [] := by
  unfold mb_X9_train_58 at h
  refine g_iinc C hN dX9_train_58 rfl rfl (L' := [some (.ref a_t), some (.int (wI x1)), some (.int (wI x2)), some (.int (wI (x3 + 1)))]) rfl ?_
  refine g_goto (tgt := 19) C dX9_train_61 (by decide) ?_
  exact hk19 _ _ _ h
set_option maxRecDepth 100000 in
set_option maxHeartbeats 4000000 in
theorem wb_X9_train_19 {F : Nat} {k19 : Int → Int → Int → Option (Int × Int × Int × Int × (Int → Int))} {v : Int × Int × Int × Int × (Int → Int)} {x1 : Int} {x2 : Int} {x3 : Int} {c_thrown : Int} {c_above : Int} {c_below : Int} {c_has : Int → Int} {c_pace : Int → Int} {c_part : Int → Int} {c_speed : Int → Int} {c_act : Int → Int} (C : Cx E cX9_train RX9 { frames := 203, cells := 0, slots := 0, locals := 4673 }) (hN : eN E = 4) (h : mb_X9_train_19 F k19 x1 x2 x3 c_thrown c_above c_below c_has c_pace c_part c_speed = some v) (hk19 : ∀ (y_x3 : Int) (y_c_above : Int) (y_c_below : Int), k19 y_x3 y_c_above y_c_below = some v → GG E 0 0 (W_X9_train (eCy E) a_t a_t_act a_t_has a_t_pace a_t_part a_t_speed g_t_1 g_t_2 g_t_3 g_t_4 g_t_5 g_t_6 g_t_7 g_t_8 g_t_9 g_t_10 g_t_11 g_t_12 g_t_13 g_t_14 g_t_15 g_t_16 g_t_20 g_t_22 g_t_26 g_t_27 g_t_28 g_t_29 g_t_30 g_t_31 g_t_32 g_t_33 g_t_34 g_t_35 g_t_36 g_t_37 g_t_38 g_t_39 g_t_40 g_t_41 g_t_42 g_t_43 c_thrown y_c_above y_c_below c_act c_has c_pace c_part c_speed) [some (.ref a_t), some (.int (wI x1)), some (.int (wI x2)), some (.int (wI y_x3))] 19 []) (hret : ∀ (pc : Nat) (L : List (Option Value)), decode cX9_train pc = .ok (.ireturn, 1) → GG E 0 0 (W_X9_train (eCy E) a_t a_t_act a_t_has a_t_pace a_t_part a_t_speed g_t_1 g_t_2 g_t_3 g_t_4 g_t_5 g_t_6 g_t_7 g_t_8 g_t_9 g_t_10 g_t_11 g_t_12 g_t_13 g_t_14 g_t_15 g_t_16 g_t_20 g_t_22 g_t_26 g_t_27 g_t_28 g_t_29 g_t_30 g_t_31 g_t_32 g_t_33 g_t_34 g_t_35 g_t_36 g_t_37 g_t_38 g_t_39 g_t_40 g_t_41 g_t_42 g_t_43 (v.2.1) (v.2.2.1) (v.2.2.2.1) c_act c_has c_pace c_part (v.2.2.2.2)) L pc [.int (wI (v.1))]) : GG E 0 0 (W_X9_train (eCy E) a_t a_t_act a_t_has a_t_pace a_t_part a_t_speed g_t_1 g_t_2 g_t_3 g_t_4 g_t_5 g_t_6 g_t_7 g_t_8 g_t_9 g_t_10 g_t_11 g_t_12 g_t_13 g_t_14 g_t_15 g_t_16 g_t_20 g_t_22 g_t_26 g_t_27 g_t_28 g_t_29 g_t_30 g_t_31 g_t_32 g_t_33 g_t_34 g_t_35 g_t_36 g_t_37 g_t_38 g_t_39 g_t_40 g_t_41 g_t_42 g_t_43 c_thrown c_above c_below c_act c_has c_pace c_part c_speed) [some (.ref a_t), some (.int (wI x1)), some (.int (wI x2)), some (.int (wI x3))] 19 [] := by
  unfold mb_X9_train_19 at h
  refine g_iload_n 3 C dX9_train_19 rfl rfl ?_
  refine g_bipush C dX9_train_20 (by decide) ?_
  refine g_icmp_gt 64 C dX9_train_22 (by decide) h (fun h => ?_) (fun h => ?_)
  · refine g_iconst C dX9_train_64 ?_
    cases h
    exact hret 65 _ dX9_train_65
  · refine g_aload_n 0 C dX9_train_25 rfl rfl ?_
    refine g_aload_n 0 C dX9_train_26 rfl rfl ?_
    refine g_get C fg_X9_40 0 rfl rfl dX9_train_27 ?_
    refine g_iload_n 1 C dX9_train_30 rfl rfl ?_
    obtain ⟨hc1, h⟩ := chk_some h
    refine g_iald C 3 rfl hc1 rfl dX9_train_31 ?_
    refine g_iload_n 3 C dX9_train_32 rfl rfl ?_
    refine g_iadd C dX9_train_33 ?_
    refine g_iconst C dX9_train_34 ?_
    obtain ⟨r2, o3, o4, hr5, h⟩ := bnd3_some h
    refine g_callI [0, 2, 4, 5] [1, 3] [2, 0, 3, 1, 4, 5] C mt_X9_269 (c_X9_goes _ _ _ _ a_t a_t_has a_t_part a_t_speed (.int (wI c_thrown)) (g_t_1) (g_t_2) (g_t_3) (g_t_4) (g_t_5) (g_t_6) (g_t_7) (g_t_8) (g_t_9) (g_t_10) (g_t_11) (g_t_12) (g_t_13) (g_t_14) (g_t_15) (g_t_16) (.ref a_t_pace) (g_t_20) (.ref a_t_act) (g_t_22) (g_t_26) (g_t_27) (g_t_28) (g_t_29) (g_t_30) (g_t_31) (g_t_32) (g_t_33) (g_t_34) (g_t_35) (g_t_36) (g_t_37) (g_t_38) (g_t_39) (g_t_40) (g_t_41) (g_t_42) (g_t_43) ((c_pace x1) + x3) 1 c_above c_below c_has c_part c_speed F hr5) (q0 := 0) rfl (ci := 9) rfl rfl rfl (ws2 := (W_X9_train (eCy E) a_t a_t_act a_t_has a_t_pace a_t_part a_t_speed g_t_1 g_t_2 g_t_3 g_t_4 g_t_5 g_t_6 g_t_7 g_t_8 g_t_9 g_t_10 g_t_11 g_t_12 g_t_13 g_t_14 g_t_15 g_t_16 g_t_20 g_t_22 g_t_26 g_t_27 g_t_28 g_t_29 g_t_30 g_t_31 g_t_32 g_t_33 g_t_34 g_t_35 g_t_36 g_t_37 g_t_38 g_t_39 g_t_40 g_t_41 g_t_42 g_t_43 c_thrown o3 o4 c_act c_has c_pace c_part c_speed)) rfl rfl rfl (rest := []) rfl rfl rfl dX9_train_35 ?_
    refine g_if_eq 58 C dX9_train_38 (by decide) h (fun h => ?_) (fun h => ?_)
    · exact wb_X9_train_58 C hN h hk19 hret
    · refine g_aload_n 0 C dX9_train_41 rfl rfl ?_
      refine g_get C fg_X9_246 0 rfl rfl dX9_train_42 ?_
      refine g_st (st' := [.long (wJ o3)]) rfl ?_
      refine g_iload_n 2 C dX9_train_45 rfl rfl ?_
      obtain ⟨hc6, h⟩ := chk_some h
      refine g_i2l C dX9_train_46 hc6 ?_
      refine g_aload_n 0 C dX9_train_47 rfl rfl ?_
      refine g_get C fg_X9_243 0 rfl rfl dX9_train_48 ?_
      refine g_st (st' := [.long (wJ o4), .long (wJ x2), .long (wJ o3)]) rfl ?_
      refine g_lmul C dX9_train_51 ?_
      refine g_lcmp_gt 58 C dX9_train_52 dX9_train_53 (by decide) h (fun h => ?_) (fun h => ?_)
      · exact wb_X9_train_58 C hN h hk19 hret
      · refine g_iload_n 3 C dX9_train_56 rfl rfl ?_
        cases h
        exact hret 57 _ dX9_train_57
set_option maxRecDepth 100000 in
set_option maxHeartbeats 4000000 in
theorem wl_X9_train_19 {F : Nat} {v : Int × Int × Int × Int × (Int → Int)} {x1 : Int} {x2 : Int} {x3 : Int} {c_thrown : Int} {c_above : Int} {c_below : Int} {c_has : Int → Int} {c_pace : Int → Int} {c_part : Int → Int} {c_speed : Int → Int} {c_act : Int → Int} (C : Cx E cX9_train RX9 { frames := 203, cells := 0, slots := 0, locals := 4673 }) (hN : eN E = 4) (h : ml_X9_train_19 F x1 x2 x3 c_thrown c_above c_below c_has c_pace c_part c_speed = some v) (hret : ∀ (pc : Nat) (L : List (Option Value)), decode cX9_train pc = .ok (.ireturn, 1) → GG E 0 0 (W_X9_train (eCy E) a_t a_t_act a_t_has a_t_pace a_t_part a_t_speed g_t_1 g_t_2 g_t_3 g_t_4 g_t_5 g_t_6 g_t_7 g_t_8 g_t_9 g_t_10 g_t_11 g_t_12 g_t_13 g_t_14 g_t_15 g_t_16 g_t_20 g_t_22 g_t_26 g_t_27 g_t_28 g_t_29 g_t_30 g_t_31 g_t_32 g_t_33 g_t_34 g_t_35 g_t_36 g_t_37 g_t_38 g_t_39 g_t_40 g_t_41 g_t_42 g_t_43 (v.2.1) (v.2.2.1) (v.2.2.2.1) c_act c_has c_pace c_part (v.2.2.2.2)) L pc [.int (wI (v.1))]) : GG E 0 0 (W_X9_train (eCy E) a_t a_t_act a_t_has a_t_pace a_t_part a_t_speed g_t_1 g_t_2 g_t_3 g_t_4 g_t_5 g_t_6 g_t_7 g_t_8 g_t_9 g_t_10 g_t_11 g_t_12 g_t_13 g_t_14 g_t_15 g_t_16 g_t_20 g_t_22 g_t_26 g_t_27 g_t_28 g_t_29 g_t_30 g_t_31 g_t_32 g_t_33 g_t_34 g_t_35 g_t_36 g_t_37 g_t_38 g_t_39 g_t_40 g_t_41 g_t_42 g_t_43 c_thrown c_above c_below c_act c_has c_pace c_part c_speed) [some (.ref a_t), some (.int (wI x1)), some (.int (wI x2)), some (.int (wI x3))] 19 [] := by
  unfold ml_X9_train_19 at h
  exact loop_walk (g := fun (q : Int × Int × Int) => GG E 0 0 (W_X9_train (eCy E) a_t a_t_act a_t_has a_t_pace a_t_part a_t_speed g_t_1 g_t_2 g_t_3 g_t_4 g_t_5 g_t_6 g_t_7 g_t_8 g_t_9 g_t_10 g_t_11 g_t_12 g_t_13 g_t_14 g_t_15 g_t_16 g_t_20 g_t_22 g_t_26 g_t_27 g_t_28 g_t_29 g_t_30 g_t_31 g_t_32 g_t_33 g_t_34 g_t_35 g_t_36 g_t_37 g_t_38 g_t_39 g_t_40 g_t_41 g_t_42 g_t_43 c_thrown (q.2.1) (q.2.2) c_act c_has c_pace c_part c_speed) [some (.ref a_t), some (.int (wI x1)), some (.int (wI x2)), some (.int (wI (q.1)))] 19 []) (fun k hk q h => wb_X9_train_19 C hN h (fun y0 y1 y2 hh => hk (y0, y1, y2) hh) hret) F (x3, c_above, c_below) h
set_option maxRecDepth 100000 in
set_option maxHeartbeats 4000000 in
theorem wm_X9_train {F : Nat} {v : Int × Int × Int × Int × (Int → Int)} {x1 : Int} {x2 : Int} {c_above : Int} {c_below : Int} {c_act : Int → Int} {c_has : Int → Int} {c_pace : Int → Int} {c_part : Int → Int} {c_speed : Int → Int} {c_thrown : Int} (C : Cx E cX9_train RX9 { frames := 203, cells := 0, slots := 0, locals := 4673 }) (hN : eN E = 4) (h : m_X9_train F x1 x2 c_above c_below c_act c_has c_pace c_part c_speed = some v) (hret : ∀ (pc : Nat) (L : List (Option Value)), decode cX9_train pc = .ok (.ireturn, 1) → GG E 0 0 (W_X9_train (eCy E) a_t a_t_act a_t_has a_t_pace a_t_part a_t_speed g_t_1 g_t_2 g_t_3 g_t_4 g_t_5 g_t_6 g_t_7 g_t_8 g_t_9 g_t_10 g_t_11 g_t_12 g_t_13 g_t_14 g_t_15 g_t_16 g_t_20 g_t_22 g_t_26 g_t_27 g_t_28 g_t_29 g_t_30 g_t_31 g_t_32 g_t_33 g_t_34 g_t_35 g_t_36 g_t_37 g_t_38 g_t_39 g_t_40 g_t_41 g_t_42 g_t_43 (v.2.1) (v.2.2.1) (v.2.2.2.1) c_act c_has c_pace c_part (v.2.2.2.2)) L pc [.int (wI (v.1))]) : GG E 0 0 (W_X9_train (eCy E) a_t a_t_act a_t_has a_t_pace a_t_part a_t_speed g_t_1 g_t_2 g_t_3 g_t_4 g_t_5 g_t_6 g_t_7 g_t_8 g_t_9 g_t_10 g_t_11 g_t_12 g_t_13 g_t_14 g_t_15 g_t_16 g_t_20 g_t_22 g_t_26 g_t_27 g_t_28 g_t_29 g_t_30 g_t_31 g_t_32 g_t_33 g_t_34 g_t_35 g_t_36 g_t_37 g_t_38 g_t_39 g_t_40 g_t_41 g_t_42 g_t_43 c_thrown c_above c_below c_act c_has c_pace c_part c_speed) [some (.ref a_t), some (.int (wI x1)), some (.int (wI x2)), none] 0 [] := by
  unfold m_X9_train at h
  refine g_aload_n 0 C dX9_train_0 rfl rfl ?_
  refine g_iconst C dX9_train_1 ?_
  refine g_putI C fp_X9_71 0 rfl rfl (ws' := (W_X9_train (eCy E) a_t a_t_act a_t_has a_t_pace a_t_part a_t_speed g_t_1 g_t_2 g_t_3 g_t_4 g_t_5 g_t_6 g_t_7 g_t_8 g_t_9 g_t_10 g_t_11 g_t_12 g_t_13 g_t_14 g_t_15 g_t_16 g_t_20 g_t_22 g_t_26 g_t_27 g_t_28 g_t_29 g_t_30 g_t_31 g_t_32 g_t_33 g_t_34 g_t_35 g_t_36 g_t_37 g_t_38 g_t_39 g_t_40 g_t_41 g_t_42 g_t_43 0 c_above c_below c_act c_has c_pace c_part c_speed)) rfl dX9_train_2 ?_
  refine g_aload_n 0 C dX9_train_5 rfl rfl ?_
  refine g_iload_n 1 C dX9_train_6 rfl rfl ?_
  refine g_iload_n 2 C dX9_train_7 rfl rfl ?_
  obtain ⟨r1, o2, hr3, h⟩ := bnd2_some h
  refine g_callI [0, 1, 2, 4, 5] [3] [1, 2, 3, 0, 4, 5] C mt_X9_318 (c_X9_isTrain _ _ _ _ a_t a_t_act a_t_has a_t_part a_t_speed (.int (wI 0)) (g_t_1) (g_t_2) (g_t_3) (g_t_4) (g_t_5) (g_t_6) (g_t_7) (g_t_8) (g_t_9) (g_t_10) (g_t_11) (g_t_12) (g_t_13) (g_t_14) (g_t_15) (g_t_16) (.ref a_t_pace) (g_t_20) (g_t_22) (.long (wJ c_above)) (.long (wJ c_below)) (g_t_26) (g_t_27) (g_t_28) (g_t_29) (g_t_30) (g_t_31) (g_t_32) (g_t_33) (g_t_34) (g_t_35) (g_t_36) (g_t_37) (g_t_38) (g_t_39) (g_t_40) (g_t_41) (g_t_42) (g_t_43) x1 x2 c_act c_has c_part c_speed F hr3) (q0 := 0) rfl (ci := 9) rfl rfl rfl (ws2 := (W_X9_train (eCy E) a_t a_t_act a_t_has a_t_pace a_t_part a_t_speed g_t_1 g_t_2 g_t_3 g_t_4 g_t_5 g_t_6 g_t_7 g_t_8 g_t_9 g_t_10 g_t_11 g_t_12 g_t_13 g_t_14 g_t_15 g_t_16 g_t_20 g_t_22 g_t_26 g_t_27 g_t_28 g_t_29 g_t_30 g_t_31 g_t_32 g_t_33 g_t_34 g_t_35 g_t_36 g_t_37 g_t_38 g_t_39 g_t_40 g_t_41 g_t_42 g_t_43 0 c_above c_below c_act c_has c_pace c_part o2)) rfl rfl rfl (rest := []) rfl rfl rfl dX9_train_8 ?_
  refine g_if_ne 17 C dX9_train_11 (by decide) h (fun h => ?_) (fun h => ?_)
  · refine g_iconst C dX9_train_17 ?_
    refine g_istore_n 3 C hN dX9_train_18 rfl rfl (L' := [some (.ref a_t), some (.int (wI x1)), some (.int (wI x2)), some (.int (wI 0))]) rfl ?_
    exact wl_X9_train_19 C hN h hret
  · refine g_bipush C dX9_train_14 (by decide) ?_
    cases h
    exact hret 16 _ dX9_train_16
end S_X9_train
set_option maxRecDepth 100000 in
set_option maxHeartbeats 4000000 in
theorem c_X9_train (l : Launch) (D : va_G) (cy : Nat → ClassId) (ad : AD) (a_t a_t_act a_t_has a_t_pace a_t_part a_t_speed : Nat) (g_t_1 : Value) (g_t_2 : Value) (g_t_3 : Value) (g_t_4 : Value) (g_t_5 : Value) (g_t_6 : Value) (g_t_7 : Value) (g_t_8 : Value) (g_t_9 : Value) (g_t_10 : Value) (g_t_11 : Value) (g_t_12 : Value) (g_t_13 : Value) (g_t_14 : Value) (g_t_15 : Value) (g_t_16 : Value) (g_t_20 : Value) (g_t_22 : Value) (g_t_26 : Value) (g_t_27 : Value) (g_t_28 : Value) (g_t_29 : Value) (g_t_30 : Value) (g_t_31 : Value) (g_t_32 : Value) (g_t_33 : Value) (g_t_34 : Value) (g_t_35 : Value) (g_t_36 : Value) (g_t_37 : Value) (g_t_38 : Value) (g_t_39 : Value) (g_t_40 : Value) (g_t_41 : Value) (g_t_42 : Value) (g_t_43 : Value) (x1 : Int) (x2 : Int) (c_thrown : Int) (c_above : Int) (c_below : Int) (c_act : Int → Int) (c_has : Int → Int) (c_pace : Int → Int) (c_part : Int → Int) (c_speed : Int → Int) (F : Nat) {v : Int × Int × Int × Int × (Int → Int)} (h : m_X9_train F x1 x2 c_above c_below c_act c_has c_pace c_part c_speed = some v) : Ct l yX9_train cX9_train 4 (some .int) { frames := 203, cells := 0, slots := 0, locals := 4673 } D cy ad [.ref a_t, .int (wI x1), .int (wI x2)] (W_X9_train cy a_t a_t_act a_t_has a_t_pace a_t_part a_t_speed g_t_1 g_t_2 g_t_3 g_t_4 g_t_5 g_t_6 g_t_7 g_t_8 g_t_9 g_t_10 g_t_11 g_t_12 g_t_13 g_t_14 g_t_15 g_t_16 g_t_20 g_t_22 g_t_26 g_t_27 g_t_28 g_t_29 g_t_30 g_t_31 g_t_32 g_t_33 g_t_34 g_t_35 g_t_36 g_t_37 g_t_38 g_t_39 g_t_40 g_t_41 g_t_42 g_t_43 c_thrown c_above c_below c_act c_has c_pace c_part c_speed) (W_X9_train cy a_t a_t_act a_t_has a_t_pace a_t_part a_t_speed g_t_1 g_t_2 g_t_3 g_t_4 g_t_5 g_t_6 g_t_7 g_t_8 g_t_9 g_t_10 g_t_11 g_t_12 g_t_13 g_t_14 g_t_15 g_t_16 g_t_20 g_t_22 g_t_26 g_t_27 g_t_28 g_t_29 g_t_30 g_t_31 g_t_32 g_t_33 g_t_34 g_t_35 g_t_36 g_t_37 g_t_38 g_t_39 g_t_40 g_t_41 g_t_42 g_t_43 (v.2.1) (v.2.2.1) (v.2.2.2.1) c_act c_has c_pace c_part (v.2.2.2.2)) (some (.int (wI (v.1)))) := by
  refine Ct.introI (j := 1) (plainFor_of_name (by decide)) rfl rfl (fun E C e1 e2 e3 e4 e5 hret => ?_)
  subst e1; subst e2; subst e3; subst e4
  exact wm_X9_train C e5 h hret
