-- MovingStair$Counts.findOne(III)V
def W_X0_findOne (cy : Nat → ClassId) (a_t a_t_counted a_t_paces : Nat) (g_t_0 : Value) (g_t_1 : Value) (g_t_2 : Value) (g_t_3 : Value) (g_t_4 : Value) (g_t_6 : Value) (g_t_8 : Value) (g_t_9 : Value) (g_t_10 : Value) (g_t_11 : Value) (g_t_12 : Value) (g_t_13 : Value) (c_least : Int) (c_most : Int) (c_counted : Int → Int) (c_paces : Int → Int) : va_W := [(a_t, .inr (0, [g_t_0, g_t_1, g_t_2, g_t_3, g_t_4, .ref a_t_paces, g_t_6, .ref a_t_counted, g_t_8, g_t_9, g_t_10, g_t_11, g_t_12, g_t_13, .int (wI c_least), .int (wI c_most)])), (a_t_counted, .inl (cy 1, 20, .inl (aI c_counted))), (a_t_paces, .inl (cy 1, 20, .inl (aI c_paces)))]
def mb_X0_findOne_26 (F : Nat) : Option (Int × Int) :=
  some (1, 0)
def m_X0_findOne (F : Nat) (x1 : Int) (x2 : Int) (x3 : Int) (c_counted : Int → Int) (c_paces : Int → Int) : Option (Int × Int) :=
  chk (0 ≤ x1 ∧ x1 < 20) <| nam (c_paces x1) fun y2 => nam (y2 + (x2 * x3)) fun y3 => if wI y3 ≤ wI 0 then
    (mb_X0_findOne_26 F)
  else
    (if wI 0 < wI y2 then
    (chk (0 ≤ x1 ∧ x1 < 20) <| chk (dv32 ((((c_counted x1) * y3) + y2) - 1) y2) <| bnd1 (m_J9_max_7cf53 F 1 (((((c_counted x1) * y3) + y2) - 1).tdiv y2)) fun r6 => chk (0 ≤ x1 ∧ x1 < 20) <| chk (dv32 ((((c_counted x1) + 1) * y3) - 1) y2) <| bnd1 (m_J9_min_7cf53 F 200 (((((c_counted x1) + 1) * y3) - 1).tdiv y2)) fun r10 => some (r6, r10))
  else
    (mb_X0_findOne_26 F))
section S_X0_findOne
variable {E : EE} {a_t a_t_counted a_t_paces : Nat} {g_t_0 : Value} {g_t_1 : Value} {g_t_2 : Value} {g_t_3 : Value} {g_t_4 : Value} {g_t_6 : Value} {g_t_8 : Value} {g_t_9 : Value} {g_t_10 : Value} {g_t_11 : Value} {g_t_12 : Value} {g_t_13 : Value}
set_option maxRecDepth 100000 in
set_option maxHeartbeats 4000000 in
theorem wb_X0_findOne_26 {F : Nat} {v : Int × Int} {c_least : Int} {c_most : Int} {c_counted : Int → Int} {c_paces : Int → Int} (C : Cx E cX0_findOne RX0 { frames := 1, cells := 0, slots := 0, locals := 21 }) (hN : eN E = 6) (h : mb_X0_findOne_26 F = some v) (hret : ∀ (pc : Nat) (L : List (Option Value)), decode cX0_findOne pc = .ok (.return_, 1) → GG E 0 0 (W_X0_findOne (eCy E) a_t a_t_counted a_t_paces g_t_0 g_t_1 g_t_2 g_t_3 g_t_4 g_t_6 g_t_8 g_t_9 g_t_10 g_t_11 g_t_12 g_t_13 (v.1) (v.2) c_counted c_paces) L pc []) : GG E 0 0 (W_X0_findOne (eCy E) a_t a_t_counted a_t_paces g_t_0 g_t_1 g_t_2 g_t_3 g_t_4 g_t_6 g_t_8 g_t_9 g_t_10 g_t_11 g_t_12 g_t_13 c_least c_most c_counted c_paces) [some (.ref a_t), none, none, none, none, none] 26 [] := by
  unfold mb_X0_findOne_26 at h
  refine g_aload_n 0 C dX0_findOne_26 rfl rfl ?_
  refine g_iconst C dX0_findOne_27 ?_
  refine g_putI C fp_X0_55 0 rfl rfl (ws' := (W_X0_findOne (eCy E) a_t a_t_counted a_t_paces g_t_0 g_t_1 g_t_2 g_t_3 g_t_4 g_t_6 g_t_8 g_t_9 g_t_10 g_t_11 g_t_12 g_t_13 1 c_most c_counted c_paces)) rfl dX0_findOne_28 ?_
  refine g_aload_n 0 C dX0_findOne_31 rfl rfl ?_
  refine g_iconst C dX0_findOne_32 ?_
  refine g_putI C fp_X0_58 0 rfl rfl (ws' := (W_X0_findOne (eCy E) a_t a_t_counted a_t_paces g_t_0 g_t_1 g_t_2 g_t_3 g_t_4 g_t_6 g_t_8 g_t_9 g_t_10 g_t_11 g_t_12 g_t_13 1 0 c_counted c_paces)) rfl dX0_findOne_33 ?_
  cases h
  exact hret 36 _ dX0_findOne_36
set_option maxRecDepth 100000 in
set_option maxHeartbeats 4000000 in
theorem wm_X0_findOne {F : Nat} {v : Int × Int} {x1 : Int} {x2 : Int} {x3 : Int} {c_counted : Int → Int} {c_paces : Int → Int} {c_least : Int} {c_most : Int} (C : Cx E cX0_findOne RX0 { frames := 1, cells := 0, slots := 0, locals := 21 }) (hN : eN E = 6) (h : m_X0_findOne F x1 x2 x3 c_counted c_paces = some v) (hret : ∀ (pc : Nat) (L : List (Option Value)), decode cX0_findOne pc = .ok (.return_, 1) → GG E 0 0 (W_X0_findOne (eCy E) a_t a_t_counted a_t_paces g_t_0 g_t_1 g_t_2 g_t_3 g_t_4 g_t_6 g_t_8 g_t_9 g_t_10 g_t_11 g_t_12 g_t_13 (v.1) (v.2) c_counted c_paces) L pc []) : GG E 0 0 (W_X0_findOne (eCy E) a_t a_t_counted a_t_paces g_t_0 g_t_1 g_t_2 g_t_3 g_t_4 g_t_6 g_t_8 g_t_9 g_t_10 g_t_11 g_t_12 g_t_13 c_least c_most c_counted c_paces) [some (.ref a_t), some (.int (wI x1)), some (.int (wI x2)), some (.int (wI x3)), none, none] 0 [] := by
  unfold m_X0_findOne at h
  refine g_aload_n 0 C dX0_findOne_0 rfl rfl ?_
  refine g_get C fg_X0_27 0 rfl rfl dX0_findOne_1 ?_
  refine g_iload_n 1 C dX0_findOne_4 rfl rfl ?_
  obtain ⟨hc1, h⟩ := chk_some h
  refine g_iald C 2 rfl hc1 rfl dX0_findOne_5 ?_
  obtain ⟨y2, e_y2, h⟩ := nam_some h
  refine g_topI e_y2 ?_
  refine g_istore C hN dX0_findOne_6 rfl (L' := [some (.ref a_t), some (.int (wI x1)), some (.int (wI x2)), some (.int (wI x3)), some (.int (wI y2)), none]) rfl ?_
  refine g_iload C dX0_findOne_8 rfl ?_
  refine g_iload_n 2 C dX0_findOne_10 rfl rfl ?_
  refine g_iload_n 3 C dX0_findOne_11 rfl rfl ?_
  refine g_imul C dX0_findOne_12 ?_
  refine g_iadd C dX0_findOne_13 ?_
  obtain ⟨y3, e_y3, h⟩ := nam_some h
  refine g_topI e_y3 ?_
  refine g_istore C hN dX0_findOne_14 rfl (L' := [some (.ref a_t), some (.int (wI x1)), some (.int (wI x2)), some (.int (wI x3)), some (.int (wI y2)), some (.int (wI y3))]) rfl ?_
  refine g_iload C dX0_findOne_16 rfl ?_
  refine g_if_le 26 C dX0_findOne_18 (by decide) h (fun h => ?_) (fun h => ?_)
  · refine g_mask [true, false, false, false, false, false] (L' := [some (.ref a_t), none, none, none, none, none]) rfl ?_
    exact wb_X0_findOne_26 C hN h hret
  · refine g_iload C dX0_findOne_21 rfl ?_
    refine g_if_gt 37 C dX0_findOne_23 (by decide) h (fun h => ?_) (fun h => ?_)
    · refine g_aload_n 0 C dX0_findOne_37 rfl rfl ?_
      refine g_iconst C dX0_findOne_38 ?_
      refine g_aload_n 0 C dX0_findOne_39 rfl rfl ?_
      refine g_get C fg_X0_34 0 rfl rfl dX0_findOne_40 ?_
      refine g_iload_n 1 C dX0_findOne_43 rfl rfl ?_
      obtain ⟨hc4, h⟩ := chk_some h
      refine g_iald C 1 rfl hc4 rfl dX0_findOne_44 ?_
      refine g_iload C dX0_findOne_45 rfl ?_
      refine g_imul C dX0_findOne_47 ?_
      refine g_iload C dX0_findOne_48 rfl ?_
      refine g_iadd C dX0_findOne_50 ?_
      refine g_iconst C dX0_findOne_51 ?_
      refine g_isub C dX0_findOne_52 ?_
      refine g_iload C dX0_findOne_53 rfl ?_
      obtain ⟨hc5, h⟩ := chk_some h
      refine g_idiv C dX0_findOne_55 hc5 ?_
      obtain ⟨r6, hr7, h⟩ := bnd1_some h
      refine g_callSI [] [0, 1, 2] [0, 1, 2] C mt_X0_85 (c_J9_max_7cf53 _ _ _ _ 1 (((((c_counted x1) * y3) + y2) - 1).tdiv y2) F hr7) rfl rfl (ws2 := (W_X0_findOne (eCy E) a_t a_t_counted a_t_paces g_t_0 g_t_1 g_t_2 g_t_3 g_t_4 g_t_6 g_t_8 g_t_9 g_t_10 g_t_11 g_t_12 g_t_13 c_least c_most c_counted c_paces)) rfl rfl rfl (rest := [.ref a_t]) rfl rfl rfl dX0_findOne_56 ?_
      refine g_putI C fp_X0_55 0 rfl rfl (ws' := (W_X0_findOne (eCy E) a_t a_t_counted a_t_paces g_t_0 g_t_1 g_t_2 g_t_3 g_t_4 g_t_6 g_t_8 g_t_9 g_t_10 g_t_11 g_t_12 g_t_13 r6 c_most c_counted c_paces)) rfl dX0_findOne_59 ?_
      refine g_aload_n 0 C dX0_findOne_62 rfl rfl ?_
      refine g_sipush C dX0_findOne_63 (by decide) ?_
      refine g_aload_n 0 C dX0_findOne_66 rfl rfl ?_
      refine g_get C fg_X0_34 0 rfl rfl dX0_findOne_67 ?_
      refine g_iload_n 1 C dX0_findOne_70 rfl rfl ?_
      obtain ⟨hc8, h⟩ := chk_some h
      refine g_iald C 1 rfl hc8 rfl dX0_findOne_71 ?_
      refine g_iconst C dX0_findOne_72 ?_
      refine g_iadd C dX0_findOne_73 ?_
      refine g_iload C dX0_findOne_74 rfl ?_
      refine g_imul C dX0_findOne_76 ?_
      refine g_iconst C dX0_findOne_77 ?_
      refine g_isub C dX0_findOne_78 ?_
      refine g_iload C dX0_findOne_79 rfl ?_
      obtain ⟨hc9, h⟩ := chk_some h
      refine g_idiv C dX0_findOne_81 hc9 ?_
      obtain ⟨r10, hr11, h⟩ := bnd1_some h
      refine g_callSI [] [0, 1, 2] [0, 1, 2] C mt_X0_91 (c_J9_min_7cf53 _ _ _ _ 200 (((((c_counted x1) + 1) * y3) - 1).tdiv y2) F hr11) rfl rfl (ws2 := (W_X0_findOne (eCy E) a_t a_t_counted a_t_paces g_t_0 g_t_1 g_t_2 g_t_3 g_t_4 g_t_6 g_t_8 g_t_9 g_t_10 g_t_11 g_t_12 g_t_13 r6 c_most c_counted c_paces)) rfl rfl rfl (rest := [.ref a_t]) rfl rfl rfl dX0_findOne_82 ?_
      refine g_putI C fp_X0_58 0 rfl rfl (ws' := (W_X0_findOne (eCy E) a_t a_t_counted a_t_paces g_t_0 g_t_1 g_t_2 g_t_3 g_t_4 g_t_6 g_t_8 g_t_9 g_t_10 g_t_11 g_t_12 g_t_13 r6 r10 c_counted c_paces)) rfl dX0_findOne_85 ?_
      cases h
      exact hret 88 _ dX0_findOne_88
    · refine g_mask [true, false, false, false, false, false] (L' := [some (.ref a_t), none, none, none, none, none]) rfl ?_
      exact wb_X0_findOne_26 C hN h hret
end S_X0_findOne
set_option maxRecDepth 100000 in
set_option maxHeartbeats 4000000 in
theorem c_X0_findOne (l : Launch) (D : va_G) (cy : Nat → ClassId) (ad : AD) (a_t a_t_counted a_t_paces : Nat) (g_t_0 : Value) (g_t_1 : Value) (g_t_2 : Value) (g_t_3 : Value) (g_t_4 : Value) (g_t_6 : Value) (g_t_8 : Value) (g_t_9 : Value) (g_t_10 : Value) (g_t_11 : Value) (g_t_12 : Value) (g_t_13 : Value) (x1 : Int) (x2 : Int) (x3 : Int) (c_least : Int) (c_most : Int) (c_counted : Int → Int) (c_paces : Int → Int) (F : Nat) {v : Int × Int} (h : m_X0_findOne F x1 x2 x3 c_counted c_paces = some v) : Ct l yX0_findOne cX0_findOne 6 none { frames := 1, cells := 0, slots := 0, locals := 21 } D cy ad [.ref a_t, .int (wI x1), .int (wI x2), .int (wI x3)] (W_X0_findOne cy a_t a_t_counted a_t_paces g_t_0 g_t_1 g_t_2 g_t_3 g_t_4 g_t_6 g_t_8 g_t_9 g_t_10 g_t_11 g_t_12 g_t_13 c_least c_most c_counted c_paces) (W_X0_findOne cy a_t a_t_counted a_t_paces g_t_0 g_t_1 g_t_2 g_t_3 g_t_4 g_t_6 g_t_8 g_t_9 g_t_10 g_t_11 g_t_12 g_t_13 (v.1) (v.2) c_counted c_paces) none := by
  refine Ct.introV (j := 2) (plainFor_of_name (by decide)) rfl rfl (fun E C e1 e2 e3 e4 e5 hret => ?_)
  subst e1; subst e2; subst e3; subst e4
  exact wm_X0_findOne C e5 h hret
-- MovingStair$Counts.findEnds()V
def W_X0_findEnds (cy : Nat → ClassId) (a_t a_t_counted a_t_leasts a_t_mosts a_t_paces a_t_ways : Nat) (g_t_1 : Value) (g_t_2 : Value) (g_t_3 : Value) (g_t_4 : Value) (g_t_10 : Value) (g_t_11 : Value) (g_t_12 : Value) (g_t_13 : Value) (c_size : Int) (c_least : Int) (c_most : Int) (c_counted : Int → Int) (c_leasts : Int → Int) (c_mosts : Int → Int) (c_paces : Int → Int) (c_ways : Int → Int) : va_W := [(a_t, .inr (0, [.int (wI c_size), g_t_1, g_t_2, g_t_3, g_t_4, .ref a_t_paces, .ref a_t_ways, .ref a_t_counted, .ref a_t_leasts, .ref a_t_mosts, g_t_10, g_t_11, g_t_12, g_t_13, .int (wI c_least), .int (wI c_most)])), (a_t_counted, .inl (cy 1, 20, .inl (aI c_counted))), (a_t_leasts, .inl (cy 1, 31, .inl (aI c_leasts))), (a_t_mosts, .inl (cy 1, 31, .inl (aI c_mosts))), (a_t_paces, .inl (cy 1, 20, .inl (aI c_paces))), (a_t_ways, .inl (cy 1, 20, .inl (aI c_ways)))]
def mb_X0_findEnds_69 (F : Nat) (k2 : Int → Int → Int → (Int → Int) → (Int → Int) → Option (Int × Int × (Int → Int) × (Int → Int))) (x1 : Int) (x2 : Int) (x3 : Int) (c_size : Int) (c_least : Int) (c_most : Int) (c_counted : Int → Int) (c_leasts : Int → Int) (c_mosts : Int → Int) (c_paces : Int → Int) (c_ways : Int → Int) : Option (Int × Int × (Int → Int) × (Int → Int)) :=
  chk (0 ≤ x1 ∧ x1 < 31) <| chk (0 ≤ x1 ∧ x1 < 31) <| k2 (x1 + 1) c_least c_most (up c_leasts x1 x2) (up c_mosts x1 x3)
def mb_X0_findEnds_17 (F : Nat) (k2 : Int → Int → Int → (Int → Int) → (Int → Int) → Option (Int × Int × (Int → Int) × (Int → Int))) (k17 : Int → Int → Int → Int → Int → Option (Int × Int × (Int → Int) × (Int → Int))) (x1 : Int) (x2 : Int) (x3 : Int) (x4 : Int) (c_size : Int) (c_least : Int) (c_most : Int) (c_counted : Int → Int) (c_leasts : Int → Int) (c_mosts : Int → Int) (c_paces : Int → Int) (c_ways : Int → Int) : Option (Int × Int × (Int → Int) × (Int → Int)) :=
  if wI c_size ≤ wI x4 then
    (mb_X0_findEnds_69 F k2 x1 x2 x3 c_size c_least c_most c_counted c_leasts c_mosts c_paces c_ways)
  else
    (if wI x3 < wI x2 then
    (mb_X0_findEnds_69 F k2 x1 x2 x3 c_size c_least c_most c_counted c_leasts c_mosts c_paces c_ways)
  else
    (chk (0 ≤ x4 ∧ x4 < 20) <| bnd2 (m_X0_findOne F x4 (c_ways x4) x1 c_counted c_paces) fun o2 o3 => bnd1 (m_J9_max_7cf53 F x2 o2) fun r5 => bnd1 (m_J9_min_7cf53 F x3 o3) fun r7 => k17 r5 r7 (x4 + 1) o2 o3))
def ml_X0_findEnds_17 (F : Nat) (k2 : Int → Int → Int → (Int → Int) → (Int → Int) → Option (Int × Int × (Int → Int) × (Int → Int))) (x1 : Int) (x2 : Int) (x3 : Int) (x4 : Int) (c_size : Int) (c_least : Int) (c_most : Int) (c_counted : Int → Int) (c_leasts : Int → Int) (c_mosts : Int → Int) (c_paces : Int → Int) (c_ways : Int → Int) : Option (Int × Int × (Int → Int) × (Int → Int)) :=
  loopN (fun (k : Int × Int × Int × Int × Int → Option (Int × Int × (Int → Int) × (Int → Int))) q => mb_X0_findEnds_17 F k2 (fun y0 y1 y2 y3 y4 => k (y0, y1, y2, y3, y4)) x1 q.1 q.2.1 q.2.2.1 c_size q.2.2.2.1 q.2.2.2.2 c_counted c_leasts c_mosts c_paces c_ways) F (x2, x3, x4, c_least, c_most)
def mb_X0_findEnds_2 (F : Nat) (k2 : Int → Int → Int → (Int → Int) → (Int → Int) → Option (Int × Int × (Int → Int) × (Int → Int))) (x1 : Int) (c_size : Int) (c_least : Int) (c_most : Int) (c_counted : Int → Int) (c_leasts : Int → Int) (c_mosts : Int → Int) (c_paces : Int → Int) (c_ways : Int → Int) : Option (Int × Int × (Int → Int) × (Int → Int)) :=
  if wI 30 < wI x1 then
    (some (c_least, c_most, c_leasts, c_mosts))
  else
    (ml_X0_findEnds_17 F k2 x1 1 200 0 c_size c_least c_most c_counted c_leasts c_mosts c_paces c_ways)
def ml_X0_findEnds_2 (F : Nat) (x1 : Int) (c_size : Int) (c_least : Int) (c_most : Int) (c_counted : Int → Int) (c_leasts : Int → Int) (c_mosts : Int → Int) (c_paces : Int → Int) (c_ways : Int → Int) : Option (Int × Int × (Int → Int) × (Int → Int)) :=
  loopN (fun (k : Int × Int × Int × (Int → Int) × (Int → Int) → Option (Int × Int × (Int → Int) × (Int → Int))) q => mb_X0_findEnds_2 F (fun y0 y1 y2 y3 y4 => k (y0, y1, y2, y3, y4)) q.1 c_size q.2.1 q.2.2.1 c_counted q.2.2.2.1 q.2.2.2.2 c_paces c_ways) F (x1, c_least, c_most, c_leasts, c_mosts)
def m_X0_findEnds (F : Nat) (c_size : Int) (c_least : Int) (c_most : Int) (c_counted : Int → Int) (c_leasts : Int → Int) (c_mosts : Int → Int) (c_paces : Int → Int) (c_ways : Int → Int) : Option (Int × Int × (Int → Int) × (Int → Int)) :=
  ml_X0_findEnds_2 F 0 c_size c_least c_most c_counted c_leasts c_mosts c_paces c_ways
section S_X0_findEnds
variable {E : EE} {a_t a_t_counted a_t_leasts a_t_mosts a_t_paces a_t_ways : Nat} {g_t_1 : Value} {g_t_2 : Value} {g_t_3 : Value} {g_t_4 : Value} {g_t_10 : Value} {g_t_11 : Value} {g_t_12 : Value} {g_t_13 : Value}
set_option maxRecDepth 100000 in
set_option maxHeartbeats 4000000 in
theorem wb_X0_findEnds_69 {F : Nat} {k2 : Int → Int → Int → (Int → Int) → (Int → Int) → Option (Int × Int × (Int → Int) × (Int → Int))} {v : Int × Int × (Int → Int) × (Int → Int)} {x1 : Int} {x2 : Int} {x3 : Int} {c_size : Int} {c_least : Int} {c_most : Int} {c_counted : Int → Int} {c_leasts : Int → Int} {c_mosts : Int → Int} {c_paces : Int → Int} {c_ways : Int → Int} (C : Cx E cX0_findEnds RX0 { frames := 2, cells := 0, slots := 0, locals := 46 }) (hN : eN E = 5) (h : mb_X0_findEnds_69 F k2 x1 x2 x3 c_size c_least c_most c_counted c_leasts c_mosts c_paces c_ways = some v) (hk2 : ∀ (y_x1 : Int) (y_c_least : Int) (y_c_most : Int) (y_c_leasts : Int → Int) (y_c_mosts : Int → Int), k2 y_x1 y_c_least y_c_most y_c_leasts y_c_mosts = some v → GG E 0 0 (W_X0_findEnds (eCy E) a_t a_t_counted a_t_leasts a_t_mosts a_t_paces a_t_ways g_t_1 g_t_2 g_t_3 g_t_4 g_t_10 g_t_11 g_t_12 g_t_13 c_size y_c_least y_c_most c_counted y_c_leasts y_c_mosts c_paces c_ways) [some (.ref a_t), some (.int (wI y_x1)), none, none, none] 2 []) (hret : ∀ (pc : Nat) (L : List (Option Value)), decode cX0_findEnds pc = .ok (.return_, 1) → GG E 0 0 (W_X0_findEnds (eCy E) a_t a_t_counted a_t_leasts a_t_mosts a_t_paces a_t_ways g_t_1 g_t_2 g_t_3 g_t_4 g_t_10 g_t_11 g_t_12 g_t_13 c_size (v.1) (v.2.1) c_counted (v.2.2.1) (v.2.2.2) c_paces c_ways) L pc []) : GG E 0 0 (W_X0_findEnds (eCy E) a_t a_t_counted a_t_leasts a_t_mosts a_t_paces a_t_ways g_t_1 g_t_2 g_t_3 g_t_4 g_t_10 g_t_11 g_t_12 g_t_13 c_size c_least c_most c_counted c_leasts c_mosts c_paces c_ways) [some (.ref a_t), some (.int (wI x1)), some (.int (wI x2)), some (.int (wI x3)), none] 69 [] := by
  unfold mb_X0_findEnds_69 at h
  refine g_aload_n 0 C dX0_findEnds_69 rfl rfl ?_
  refine g_get C fg_X0_37 0 rfl rfl dX0_findEnds_70 ?_
  refine g_iload_n 1 C dX0_findEnds_73 rfl rfl ?_
  refine g_iload_n 2 C dX0_findEnds_74 rfl rfl ?_
  obtain ⟨hc1, h⟩ := chk_some h
  refine g_iast C 2 rfl hc1 rfl (ws' := (W_X0_findEnds (eCy E) a_t a_t_counted a_t_leasts a_t_mosts a_t_paces a_t_ways g_t_1 g_t_2 g_t_3 g_t_4 g_t_10 g_t_11 g_t_12 g_t_13 c_size c_least c_most c_counted (up c_leasts x1 x2) c_mosts c_paces c_ways)) rfl dX0_findEnds_75 ?_
  refine g_aload_n 0 C dX0_findEnds_76 rfl rfl ?_
  refine g_get C fg_X0_40 0 rfl rfl dX0_findEnds_77 ?_
  refine g_iload_n 1 C dX0_findEnds_80 rfl rfl ?_
  refine g_iload_n 3 C dX0_findEnds_81 rfl rfl ?_
  obtain ⟨hc2, h⟩ := chk_some h
  refine g_iast C 3 rfl hc2 rfl (ws' := (W_X0_findEnds (eCy E) a_t a_t_counted a_t_leasts a_t_mosts a_t_paces a_t_ways g_t_1 g_t_2 g_t_3 g_t_4 g_t_10 g_t_11 g_t_12 g_t_13 c_size c_least c_most c_counted (up c_leasts x1 x2) (up c_mosts x1 x3) c_paces c_ways)) rfl dX0_findEnds_82 ?_
  refine g_iinc C hN dX0_findEnds_83 rfl rfl (L' := [some (.ref a_t), some (.int (wI (x1 + 1))), some (.int (wI x2)), some (.int (wI x3)), none]) rfl ?_
  refine g_goto (tgt := 2) C dX0_findEnds_86 (by decide) ?_
  refine g_mask [true, true, false, false, false] (L' := [some (.ref a_t), some (.int (wI (x1 + 1))), none, none, none]) rfl ?_
  exact hk2 _ _ _ _ _ h
set_option maxRecDepth 100000 in
set_option maxHeartbeats 4000000 in
theorem wb_X0_findEnds_17 {F : Nat} {k2 : Int → Int → Int → (Int → Int) → (Int → Int) → Option (Int × Int × (Int → Int) × (Int → Int))} {k17 : Int → Int → Int → Int → Int → Option (Int × Int × (Int → Int) × (Int → Int))} {v : Int × Int × (Int → Int) × (Int → Int)} {x1 : Int} {x2 : Int} {x3 : Int} {x4 : Int} {c_size : Int} {c_least : Int} {c_most : Int} {c_counted : Int → Int} {c_leasts : Int → Int} {c_mosts : Int → Int} {c_paces : Int → Int} {c_ways : Int → Int} (C : Cx E cX0_findEnds RX0 { frames := 2, cells := 0, slots := 0, locals := 46 }) (hN : eN E = 5) (h : mb_X0_findEnds_17 F k2 k17 x1 x2 x3 x4 c_size c_least c_most c_counted c_leasts c_mosts c_paces c_ways = some v) (hk2 : ∀ (y_x1 : Int) (y_c_least : Int) (y_c_most : Int) (y_c_leasts : Int → Int) (y_c_mosts : Int → Int), k2 y_x1 y_c_least y_c_most y_c_leasts y_c_mosts = some v → GG E 0 0 (W_X0_findEnds (eCy E) a_t a_t_counted a_t_leasts a_t_mosts a_t_paces a_t_ways g_t_1 g_t_2 g_t_3 g_t_4 g_t_10 g_t_11 g_t_12 g_t_13 c_size y_c_least y_c_most c_counted y_c_leasts y_c_mosts c_paces c_ways) [some (.ref a_t), some (.int (wI y_x1)), none, none, none] 2 []) (hk17 : ∀ (y_x2 : Int) (y_x3 : Int) (y_x4 : Int) (y_c_least : Int) (y_c_most : Int), k17 y_x2 y_x3 y_x4 y_c_least y_c_most = some v → GG E 0 0 (W_X0_findEnds (eCy E) a_t a_t_counted a_t_leasts a_t_mosts a_t_paces a_t_ways g_t_1 g_t_2 g_t_3 g_t_4 g_t_10 g_t_11 g_t_12 g_t_13 c_size y_c_least y_c_most c_counted c_leasts c_mosts c_paces c_ways) [some (.ref a_t), some (.int (wI x1)), some (.int (wI y_x2)), some (.int (wI y_x3)), some (.int (wI y_x4))] 17 []) (hret : ∀ (pc : Nat) (L : List (Option Value)), decode cX0_findEnds pc = .ok (.return_, 1) → GG E 0 0 (W_X0_findEnds (eCy E) a_t a_t_counted a_t_leasts a_t_mosts a_t_paces a_t_ways g_t_1 g_t_2 g_t_3 g_t_4 g_t_10 g_t_11 g_t_12 g_t_13 c_size (v.1) (v.2.1) c_counted (v.2.2.1) (v.2.2.2) c_paces c_ways) L pc []) : GG E 0 0 (W_X0_findEnds (eCy E) a_t a_t_counted a_t_leasts a_t_mosts a_t_paces a_t_ways g_t_1 g_t_2 g_t_3 g_t_4 g_t_10 g_t_11 g_t_12 g_t_13 c_size c_least c_most c_counted c_leasts c_mosts c_paces c_ways) [some (.ref a_t), some (.int (wI x1)), some (.int (wI x2)), some (.int (wI x3)), some (.int (wI x4))] 17 [] := by
  unfold mb_X0_findEnds_17 at h
  refine g_iload C dX0_findEnds_17 rfl ?_
  refine g_aload_n 0 C dX0_findEnds_19 rfl rfl ?_
  refine g_get C fg_X0_9 0 rfl rfl dX0_findEnds_20 ?_
  refine g_st (st' := [.int (wI c_size), .int (wI x4)]) rfl ?_
  refine g_icmp_ge 69 C dX0_findEnds_23 (by decide) h (fun h => ?_) (fun h => ?_)
  · refine g_mask [true, true, true, true, false] (L' := [some (.ref a_t), some (.int (wI x1)), some (.int (wI x2)), some (.int (wI x3)), none]) rfl ?_
    exact wb_X0_findEnds_69 C hN h hk2 hret
  · refine g_iload_n 2 C dX0_findEnds_26 rfl rfl ?_
    refine g_iload_n 3 C dX0_findEnds_27 rfl rfl ?_
    refine g_icmp_gt 69 C dX0_findEnds_28 (by decide) h (fun h => ?_) (fun h => ?_)
    · refine g_mask [true, true, true, true, false] (L' := [some (.ref a_t), some (.int (wI x1)), some (.int (wI x2)), some (.int (wI x3)), none]) rfl ?_
      exact wb_X0_findEnds_69 C hN h hk2 hret
    · refine g_aload_n 0 C dX0_findEnds_31 rfl rfl ?_
      refine g_iload C dX0_findEnds_32 rfl ?_
      refine g_aload_n 0 C dX0_findEnds_34 rfl rfl ?_
      refine g_get C fg_X0_31 0 rfl rfl dX0_findEnds_35 ?_
      refine g_iload C dX0_findEnds_38 rfl ?_
      obtain ⟨hc1, h⟩ := chk_some h
      refine g_iald C 5 rfl hc1 rfl dX0_findEnds_40 ?_
      refine g_iload_n 1 C dX0_findEnds_41 rfl rfl ?_
      obtain ⟨o2, o3, hr4, h⟩ := bnd2_some h
      refine g_callV [0, 1, 4] [2, 3, 5] [3, 4, 0, 1, 5, 2] C mt_X0_81 (c_X0_findOne _ _ _ _ a_t a_t_counted a_t_paces (.int (wI c_size)) (g_t_1) (g_t_2) (g_t_3) (g_t_4) (.ref a_t_ways) (.ref a_t_leasts) (.ref a_t_mosts) (g_t_10) (g_t_11) (g_t_12) (g_t_13) x4 (c_ways x4) x1 c_least c_most c_counted c_paces F hr4) (q0 := 0) rfl (ci := 0) rfl rfl rfl (ws2 := (W_X0_findEnds (eCy E) a_t a_t_counted a_t_leasts a_t_mosts a_t_paces a_t_ways g_t_1 g_t_2 g_t_3 g_t_4 g_t_10 g_t_11 g_t_12 g_t_13 c_size o2 o3 c_counted c_leasts c_mosts c_paces c_ways)) rfl rfl rfl (rest := []) rfl rfl rfl dX0_findEnds_42 ?_
      refine g_iload_n 2 C dX0_findEnds_45 rfl rfl ?_
      refine g_aload_n 0 C dX0_findEnds_46 rfl rfl ?_
      refine g_get C fg_X0_55 0 rfl rfl dX0_findEnds_47 ?_
      refine g_st (st' := [.int (wI o2), .int (wI x2)]) rfl ?_
      obtain ⟨r5, hr6, h⟩ := bnd1_some h
      refine g_callSI [] [0, 1, 2, 3, 4, 5] [0, 1, 2, 3, 4, 5] C mt_X0_85 (c_J9_max_7cf53 _ _ _ _ x2 o2 F hr6) rfl rfl (ws2 := (W_X0_findEnds (eCy E) a_t a_t_counted a_t_leasts a_t_mosts a_t_paces a_t_ways g_t_1 g_t_2 g_t_3 g_t_4 g_t_10 g_t_11 g_t_12 g_t_13 c_size o2 o3 c_counted c_leasts c_mosts c_paces c_ways)) rfl rfl rfl (rest := []) rfl rfl rfl dX0_findEnds_50 ?_
      refine g_istore_n 2 C hN dX0_findEnds_53 rfl rfl (L' := [some (.ref a_t), some (.int (wI x1)), some (.int (wI r5)), some (.int (wI x3)), some (.int (wI x4))]) rfl ?_
      refine g_iload_n 3 C dX0_findEnds_54 rfl rfl ?_
      refine g_aload_n 0 C dX0_findEnds_55 rfl rfl ?_
      refine g_get C fg_X0_58 0 rfl rfl dX0_findEnds_56 ?_
      refine g_st (st' := [.int (wI o3), .int (wI x3)]) rfl ?_
      obtain ⟨r7, hr8, h⟩ := bnd1_some h
      refine g_callSI [] [0, 1, 2, 3, 4, 5] [0, 1, 2, 3, 4, 5] C mt_X0_91 (c_J9_min_7cf53 _ _ _ _ x3 o3 F hr8) rfl rfl (ws2 := (W_X0_findEnds (eCy E) a_t a_t_counted a_t_leasts a_t_mosts a_t_paces a_t_ways g_t_1 g_t_2 g_t_3 g_t_4 g_t_10 g_t_11 g_t_12 g_t_13 c_size o2 o3 c_counted c_leasts c_mosts c_paces c_ways)) rfl rfl rfl (rest := []) rfl rfl rfl dX0_findEnds_59 ?_
      refine g_istore_n 3 C hN dX0_findEnds_62 rfl rfl (L' := [some (.ref a_t), some (.int (wI x1)), some (.int (wI r5)), some (.int (wI r7)), some (.int (wI x4))]) rfl ?_
      refine g_iinc C hN dX0_findEnds_63 rfl rfl (L' := [some (.ref a_t), some (.int (wI x1)), some (.int (wI r5)), some (.int (wI r7)), some (.int (wI (x4 + 1)))]) rfl ?_
      refine g_goto (tgt := 17) C dX0_findEnds_66 (by decide) ?_
      exact hk17 _ _ _ _ _ h
set_option maxRecDepth 100000 in
set_option maxHeartbeats 4000000 in
theorem wl_X0_findEnds_17 {F : Nat} {k2 : Int → Int → Int → (Int → Int) → (Int → Int) → Option (Int × Int × (Int → Int) × (Int → Int))} {v : Int × Int × (Int → Int) × (Int → Int)} {x1 : Int} {x2 : Int} {x3 : Int} {x4 : Int} {c_size : Int} {c_least : Int} {c_most : Int} {c_counted : Int → Int} {c_leasts : Int → Int} {c_mosts : Int → Int} {c_paces : Int → Int} {c_ways : Int → Int} (C : Cx E cX0_findEnds RX0 { frames := 2, cells := 0, slots := 0, locals := 46 }) (hN : eN E = 5) (h : ml_X0_findEnds_17 F k2 x1 x2 x3 x4 c_size c_least c_most c_counted c_leasts c_mosts c_paces c_ways = some v) (hk2 : ∀ (y_x1 : Int) (y_c_least : Int) (y_c_most : Int) (y_c_leasts : Int → Int) (y_c_mosts : Int → Int), k2 y_x1 y_c_least y_c_most y_c_leasts y_c_mosts = some v → GG E 0 0 (W_X0_findEnds (eCy E) a_t a_t_counted a_t_leasts a_t_mosts a_t_paces a_t_ways g_t_1 g_t_2 g_t_3 g_t_4 g_t_10 g_t_11 g_t_12 g_t_13 c_size y_c_least y_c_most c_counted y_c_leasts y_c_mosts c_paces c_ways) [some (.ref a_t), some (.int (wI y_x1)), none, none, none] 2 []) (hret : ∀ (pc : Nat) (L : List (Option Value)), decode cX0_findEnds pc = .ok (.return_, 1) → GG E 0 0 (W_X0_findEnds (eCy E) a_t a_t_counted a_t_leasts a_t_mosts a_t_paces a_t_ways g_t_1 g_t_2 g_t_3 g_t_4 g_t_10 g_t_11 g_t_12 g_t_13 c_size (v.1) (v.2.1) c_counted (v.2.2.1) (v.2.2.2) c_paces c_ways) L pc []) : GG E 0 0 (W_X0_findEnds (eCy E) a_t a_t_counted a_t_leasts a_t_mosts a_t_paces a_t_ways g_t_1 g_t_2 g_t_3 g_t_4 g_t_10 g_t_11 g_t_12 g_t_13 c_size c_least c_most c_counted c_leasts c_mosts c_paces c_ways) [some (.ref a_t), some (.int (wI x1)), some (.int (wI x2)), some (.int (wI x3)), some (.int (wI x4))] 17 [] := by
  unfold ml_X0_findEnds_17 at h
  exact loop_walk (g := fun (q : Int × Int × Int × Int × Int) => GG E 0 0 (W_X0_findEnds (eCy E) a_t a_t_counted a_t_leasts a_t_mosts a_t_paces a_t_ways g_t_1 g_t_2 g_t_3 g_t_4 g_t_10 g_t_11 g_t_12 g_t_13 c_size (q.2.2.2.1) (q.2.2.2.2) c_counted c_leasts c_mosts c_paces c_ways) [some (.ref a_t), some (.int (wI x1)), some (.int (wI (q.1))), some (.int (wI (q.2.1))), some (.int (wI (q.2.2.1)))] 17 []) (fun k hk q h => wb_X0_findEnds_17 C hN h hk2 (fun y0 y1 y2 y3 y4 hh => hk (y0, y1, y2, y3, y4) hh) hret) F (x2, x3, x4, c_least, c_most) h
set_option maxRecDepth 100000 in
set_option maxHeartbeats 4000000 in
theorem wb_X0_findEnds_2 {F : Nat} {k2 : Int → Int → Int → (Int → Int) → (Int → Int) → Option (Int × Int × (Int → Int) × (Int → Int))} {v : Int × Int × (Int → Int) × (Int → Int)} {x1 : Int} {c_size : Int} {c_least : Int} {c_most : Int} {c_counted : Int → Int} {c_leasts : Int → Int} {c_mosts : Int → Int} {c_paces : Int → Int} {c_ways : Int → Int} (C : Cx E cX0_findEnds RX0 { frames := 2, cells := 0, slots := 0, locals := 46 }) (hN : eN E = 5) (h : mb_X0_findEnds_2 F k2 x1 c_size c_least c_most c_counted c_leasts c_mosts c_paces c_ways = some v) (hk2 : ∀ (y_x1 : Int) (y_c_least : Int) (y_c_most : Int) (y_c_leasts : Int → Int) (y_c_mosts : Int → Int), k2 y_x1 y_c_least y_c_most y_c_leasts y_c_mosts = some v → GG E 0 0 (W_X0_findEnds (eCy E) a_t a_t_counted a_t_leasts a_t_mosts a_t_paces a_t_ways g_t_1 g_t_2 g_t_3 g_t_4 g_t_10 g_t_11 g_t_12 g_t_13 c_size y_c_least y_c_most c_counted y_c_leasts y_c_mosts c_paces c_ways) [some (.ref a_t), some (.int (wI y_x1)), none, none, none] 2 []) (hret : ∀ (pc : Nat) (L : List (Option Value)), decode cX0_findEnds pc = .ok (.return_, 1) → GG E 0 0 (W_X0_findEnds (eCy E) a_t a_t_counted a_t_leasts a_t_mosts a_t_paces a_t_ways g_t_1 g_t_2 g_t_3 g_t_4 g_t_10 g_t_11 g_t_12 g_t_13 c_size (v.1) (v.2.1) c_counted (v.2.2.1) (v.2.2.2) c_paces c_ways) L pc []) : GG E 0 0 (W_X0_findEnds (eCy E) a_t a_t_counted a_t_leasts a_t_mosts a_t_paces a_t_ways g_t_1 g_t_2 g_t_3 g_t_4 g_t_10 g_t_11 g_t_12 g_t_13 c_size c_least c_most c_counted c_leasts c_mosts c_paces c_ways) [some (.ref a_t), some (.int (wI x1)), none, none, none] 2 [] := by
  unfold mb_X0_findEnds_2 at h
  refine g_iload_n 1 C dX0_findEnds_2 rfl rfl ?_
  refine g_bipush C dX0_findEnds_3 (by decide) ?_
  refine g_icmp_gt 89 C dX0_findEnds_5 (by decide) h (fun h => ?_) (fun h => ?_)
  · cases h
    exact hret 89 _ dX0_findEnds_89
  · refine g_iconst C dX0_findEnds_8 ?_
    refine g_istore_n 2 C hN dX0_findEnds_9 rfl rfl (L' := [some (.ref a_t), some (.int (wI x1)), some (.int (wI 1)), none, none]) rfl ?_
    refine g_sipush C dX0_findEnds_10 (by decide) ?_
    refine g_istore_n 3 C hN dX0_findEnds_13 rfl rfl (L' := [some (.ref a_t), some (.int (wI x1)), some (.int (wI 1)), some (.int (wI 200)), none]) rfl ?_
    refine g_iconst C dX0_findEnds_14 ?_
    refine g_istore C hN dX0_findEnds_15 rfl (L' := [some (.ref a_t), some (.int (wI x1)), some (.int (wI 1)), some (.int (wI 200)), some (.int (wI 0))]) rfl ?_
    exact wl_X0_findEnds_17 C hN h hk2 hret
set_option maxRecDepth 100000 in
set_option maxHeartbeats 4000000 in
theorem wl_X0_findEnds_2 {F : Nat} {v : Int × Int × (Int → Int) × (Int → Int)} {x1 : Int} {c_size : Int} {c_least : Int} {c_most : Int} {c_counted : Int → Int} {c_leasts : Int → Int} {c_mosts : Int → Int} {c_paces : Int → Int} {c_ways : Int → Int} (C : Cx E cX0_findEnds RX0 { frames := 2, cells := 0, slots := 0, locals := 46 }) (hN : eN E = 5) (h : ml_X0_findEnds_2 F x1 c_size c_least c_most c_counted c_leasts c_mosts c_paces c_ways = some v) (hret : ∀ (pc : Nat) (L : List (Option Value)), decode cX0_findEnds pc = .ok (.return_, 1) → GG E 0 0 (W_X0_findEnds (eCy E) a_t a_t_counted a_t_leasts a_t_mosts a_t_paces a_t_ways g_t_1 g_t_2 g_t_3 g_t_4 g_t_10 g_t_11 g_t_12 g_t_13 c_size (v.1) (v.2.1) c_counted (v.2.2.1) (v.2.2.2) c_paces c_ways) L pc []) : GG E 0 0 (W_X0_findEnds (eCy E) a_t a_t_counted a_t_leasts a_t_mosts a_t_paces a_t_ways g_t_1 g_t_2 g_t_3 g_t_4 g_t_10 g_t_11 g_t_12 g_t_13 c_size c_least c_most c_counted c_leasts c_mosts c_paces c_ways) [some (.ref a_t), some (.int (wI x1)), none, none, none] 2 [] := by
  unfold ml_X0_findEnds_2 at h
  exact loop_walk (g := fun (q : Int × Int × Int × (Int → Int) × (Int → Int)) => GG E 0 0 (W_X0_findEnds (eCy E) a_t a_t_counted a_t_leasts a_t_mosts a_t_paces a_t_ways g_t_1 g_t_2 g_t_3 g_t_4 g_t_10 g_t_11 g_t_12 g_t_13 c_size (q.2.1) (q.2.2.1) c_counted (q.2.2.2.1) (q.2.2.2.2) c_paces c_ways) [some (.ref a_t), some (.int (wI (q.1))), none, none, none] 2 []) (fun k hk q h => wb_X0_findEnds_2 C hN h (fun y0 y1 y2 y3 y4 hh => hk (y0, y1, y2, y3, y4) hh) hret) F (x1, c_least, c_most, c_leasts, c_mosts) h
set_option maxRecDepth 100000 in
set_option maxHeartbeats 4000000 in
theorem wm_X0_findEnds {F : Nat} {v : Int × Int × (Int → Int) × (Int → Int)} {c_size : Int} {c_least : Int} {c_most : Int} {c_counted : Int → Int} {c_leasts : Int → Int} {c_mosts : Int → Int} {c_paces : Int → Int} {c_ways : Int → Int} (C : Cx E cX0_findEnds RX0 { frames := 2, cells := 0, slots := 0, locals := 46 }) (hN : eN E = 5) (h : m_X0_findEnds F c_size c_least c_most c_counted c_leasts c_mosts c_paces c_ways = some v) (hret : ∀ (pc : Nat) (L : List (Option Value)), decode cX0_findEnds pc = .ok (.return_, 1) → GG E 0 0 (W_X0_findEnds (eCy E) a_t a_t_counted a_t_leasts a_t_mosts a_t_paces a_t_ways g_t_1 g_t_2 g_t_3 g_t_4 g_t_10 g_t_11 g_t_12 g_t_13 c_size (v.1) (v.2.1) c_counted (v.2.2.1) (v.2.2.2) c_paces c_ways) L pc []) : GG E 0 0 (W_X0_findEnds (eCy E) a_t a_t_counted a_t_leasts a_t_mosts a_t_paces a_t_ways g_t_1 g_t_2 g_t_3 g_t_4 g_t_10 g_t_11 g_t_12 g_t_13 c_size c_least c_most c_counted c_leasts c_mosts c_paces c_ways) [some (.ref a_t), none, none, none, none] 0 [] := by
  unfold m_X0_findEnds at h
  refine g_iconst C dX0_findEnds_0 ?_
  refine g_istore_n 1 C hN dX0_findEnds_1 rfl rfl (L' := [some (.ref a_t), some (.int (wI 0)), none, none, none]) rfl ?_
  exact wl_X0_findEnds_2 C hN h hret
end S_X0_findEnds
set_option maxRecDepth 100000 in
set_option maxHeartbeats 4000000 in
theorem c_X0_findEnds (l : Launch) (D : va_G) (cy : Nat → ClassId) (ad : AD) (a_t a_t_counted a_t_leasts a_t_mosts a_t_paces a_t_ways : Nat) (g_t_1 : Value) (g_t_2 : Value) (g_t_3 : Value) (g_t_4 : Value) (g_t_10 : Value) (g_t_11 : Value) (g_t_12 : Value) (g_t_13 : Value) (c_size : Int) (c_least : Int) (c_most : Int) (c_counted : Int → Int) (c_leasts : Int → Int) (c_mosts : Int → Int) (c_paces : Int → Int) (c_ways : Int → Int) (F : Nat) {v : Int × Int × (Int → Int) × (Int → Int)} (h : m_X0_findEnds F c_size c_least c_most c_counted c_leasts c_mosts c_paces c_ways = some v) : Ct l yX0_findEnds cX0_findEnds 5 none { frames := 2, cells := 0, slots := 0, locals := 46 } D cy ad [.ref a_t] (W_X0_findEnds cy a_t a_t_counted a_t_leasts a_t_mosts a_t_paces a_t_ways g_t_1 g_t_2 g_t_3 g_t_4 g_t_10 g_t_11 g_t_12 g_t_13 c_size c_least c_most c_counted c_leasts c_mosts c_paces c_ways) (W_X0_findEnds cy a_t a_t_counted a_t_leasts a_t_mosts a_t_paces a_t_ways g_t_1 g_t_2 g_t_3 g_t_4 g_t_10 g_t_11 g_t_12 g_t_13 c_size (v.1) (v.2.1) c_counted (v.2.2.1) (v.2.2.2) c_paces c_ways) none := by
  refine Ct.introV (j := 4) (plainFor_of_name (by decide)) rfl rfl (fun E C e1 e2 e3 e4 e5 hret => ?_)
  subst e1; subst e2; subst e3; subst e4
  exact wm_X0_findEnds C e5 h hret
-- MovingStair$Counts.load(LMovingStair$Slot;)Z
def W_X0_load (cy : Nat → ClassId) (a_t a_p1 a_p1_numbers a_t_counted a_t_leasts a_t_mosts a_t_paces a_t_ways : Nat) (g_t_1 : Value) (g_t_2 : Value) (g_t_3 : Value) (g_t_4 : Value) (g_t_10 : Value) (g_t_11 : Value) (g_t_12 : Value) (g_t_13 : Value) (g_p1_0 : Value) (g_p1_1 : Value) (c_size : Int) (c_least : Int) (c_most : Int) (c_p1_size : Int) (c_p1_numbers : Int → Int) (c_counted : Int → Int) (c_leasts : Int → Int) (c_mosts : Int → Int) (c_paces : Int → Int) (c_ways : Int → Int) : va_W := [(a_t, .inr (0, [.int (wI c_size), g_t_1, g_t_2, g_t_3, g_t_4, .ref a_t_paces, .ref a_t_ways, .ref a_t_counted, .ref a_t_leasts, .ref a_t_mosts, g_t_10, g_t_11, g_t_12, g_t_13, .int (wI c_least), .int (wI c_most)])), (a_p1, .inr (5, [g_p1_0, g_p1_1, .int (wI c_p1_size), .ref a_p1_numbers])), (a_p1_numbers, .inl (cy 2, 60, .inr (.inl (aJ c_p1_numbers)))), (a_t_counted, .inl (cy 1, 20, .inl (aI c_counted))), (a_t_leasts, .inl (cy 1, 31, .inl (aI c_leasts))), (a_t_mosts, .inl (cy 1, 31, .inl (aI c_mosts))), (a_t_paces, .inl (cy 1, 20, .inl (aI c_paces))), (a_t_ways, .inl (cy 1, 20, .inl (aI c_ways)))]
def mb_X0_load_62 (F : Nat) (k62 : Int → (Int → Int) → (Int → Int) → (Int → Int) → Option (Int × Int × Int × Int × (Int → Int) × (Int → Int) × (Int → Int) × (Int → Int) × (Int → Int))) (x2 : Int) (c_size : Int) (c_least : Int) (c_most : Int) (c_p1_numbers : Int → Int) (c_counted : Int → Int) (c_leasts : Int → Int) (c_mosts : Int → Int) (c_paces : Int → Int) (c_ways : Int → Int) : Option (Int × Int × Int × Int × (Int → Int) × (Int → Int) × (Int → Int) × (Int → Int) × (Int → Int)) :=
  if wI c_size ≤ wI x2 then
    (bnd4 (m_X0_findEnds F c_size c_least c_most c_counted c_leasts c_mosts c_paces c_ways) fun o1 o2 o3 o4 => some (1, c_size, o1, o2, c_counted, o3, o4, c_paces, c_ways))
  else
    (chk (0 ≤ (3 * x2) ∧ (3 * x2) < 60) <| nam (c_p1_numbers (3 * x2)) fun y2 => chk (0 ≤ x2 ∧ x2 < 20) <| chk (0 ≤ ((3 * x2) + 1) ∧ ((3 * x2) + 1) < 60) <| nam (c_p1_numbers ((3 * x2) + 1)) fun y5 => chk (0 ≤ x2 ∧ x2 < 20) <| chk (0 ≤ ((3 * x2) + 2) ∧ ((3 * x2) + 2) < 60) <| nam (c_p1_numbers ((3 * x2) + 2)) fun y8 => chk (0 ≤ x2 ∧ x2 < 20) <| chk (0 ≤ x2 ∧ x2 < 20) <| if wI ((up c_ways x2 y5) x2) = wI 0 then
    (some (0, c_size, c_least, c_most, up c_counted x2 y8, c_leasts, c_mosts, up c_paces x2 y2, up c_ways x2 y5))
  else
    (k62 (x2 + 1) (up c_counted x2 y8) (up c_paces x2 y2) (up c_ways x2 y5)))
def ml_X0_load_62 (F : Nat) (x2 : Int) (c_size : Int) (c_least : Int) (c_most : Int) (c_p1_numbers : Int → Int) (c_counted : Int → Int) (c_leasts : Int → Int) (c_mosts : Int → Int) (c_paces : Int → Int) (c_ways : Int → Int) : Option (Int × Int × Int × Int × (Int → Int) × (Int → Int) × (Int → Int) × (Int → Int) × (Int → Int)) :=
  loopN (fun (k : Int × (Int → Int) × (Int → Int) × (Int → Int) → Option (Int × Int × Int × Int × (Int → Int) × (Int → Int) × (Int → Int) × (Int → Int) × (Int → Int))) q => mb_X0_load_62 F (fun y0 y1 y2 y3 => k (y0, y1, y2, y3)) q.1 c_size c_least c_most c_p1_numbers q.2.1 c_leasts c_mosts q.2.2.1 q.2.2.2) F (x2, c_counted, c_paces, c_ways)
def m_X0_load (F : Nat) (c_size : Int) (c_least : Int) (c_most : Int) (c_p1_size : Int) (c_p1_numbers : Int → Int) (c_counted : Int → Int) (c_leasts : Int → Int) (c_mosts : Int → Int) (c_paces : Int → Int) (c_ways : Int → Int) : Option (Int × Int × Int × Int × (Int → Int) × (Int → Int) × (Int → Int) × (Int → Int) × (Int → Int)) :=
  chk (dv32 c_p1_size 3) <| if wI (c_p1_size.tmod 3) = wI 0 then
    (bnd1 (m_X5_hasOut F 0 3 1 30 c_p1_size c_p1_numbers) fun r2 => if wI r2 = wI 0 then
    (bnd1 (m_X5_hasOut F 1 3 (-1) 1 c_p1_size c_p1_numbers) fun r4 => if wI r4 = wI 0 then
    (bnd1 (m_X5_hasOut F 2 3 0 9999 c_p1_size c_p1_numbers) fun r6 => if wI r6 = wI 0 then
    (chk (dv32 c_p1_size 3) <| nam (c_p1_size.tdiv 3) fun y9 => ml_X0_load_62 F 0 y9 c_least c_most c_p1_numbers c_counted c_leasts c_mosts c_paces c_ways)
  else
    (some (0, c_size, c_least, c_most, c_counted, c_leasts, c_mosts, c_paces, c_ways)))
  else
    (some (0, c_size, c_least, c_most, c_counted, c_leasts, c_mosts, c_paces, c_ways)))
  else
    (some (0, c_size, c_least, c_most, c_counted, c_leasts, c_mosts, c_paces, c_ways)))
  else
    (some (0, c_size, c_least, c_most, c_counted, c_leasts, c_mosts, c_paces, c_ways))
section S_X0_load
variable {E : EE} {a_t a_p1 a_p1_numbers a_t_counted a_t_leasts a_t_mosts a_t_paces a_t_ways : Nat} {g_t_1 : Value} {g_t_2 : Value} {g_t_3 : Value} {g_t_4 : Value} {g_t_10 : Value} {g_t_11 : Value} {g_t_12 : Value} {g_t_13 : Value} {g_p1_0 : Value} {g_p1_1 : Value}
set_option maxRecDepth 100000 in
set_option maxHeartbeats 4000000 in
theorem wb_X0_load_62 {F : Nat} {k62 : Int → (Int → Int) → (Int → Int) → (Int → Int) → Option (Int × Int × Int × Int × (Int → Int) × (Int → Int) × (Int → Int) × (Int → Int) × (Int → Int))} {v : Int × Int × Int × Int × (Int → Int) × (Int → Int) × (Int → Int) × (Int → Int) × (Int → Int)} {x2 : Int} {c_size : Int} {c_least : Int} {c_most : Int} {c_p1_numbers : Int → Int} {c_counted : Int → Int} {c_leasts : Int → Int} {c_mosts : Int → Int} {c_paces : Int → Int} {c_ways : Int → Int} {c_p1_size : Int} (C : Cx E cX0_load RX0 { frames := 3, cells := 0, slots := 0, locals := 70 }) (hN : eN E = 3) (h : mb_X0_load_62 F k62 x2 c_size c_least c_most c_p1_numbers c_counted c_leasts c_mosts c_paces c_ways = some v) (hk62 : ∀ (y_x2 : Int) (y_c_counted : Int → Int) (y_c_paces : Int → Int) (y_c_ways : Int → Int), k62 y_x2 y_c_counted y_c_paces y_c_ways = some v → GG E 0 0 (W_X0_load (eCy E) a_t a_p1 a_p1_numbers a_t_counted a_t_leasts a_t_mosts a_t_paces a_t_ways g_t_1 g_t_2 g_t_3 g_t_4 g_t_10 g_t_11 g_t_12 g_t_13 g_p1_0 g_p1_1 c_size c_least c_most c_p1_size c_p1_numbers y_c_counted c_leasts c_mosts y_c_paces y_c_ways) [some (.ref a_t), some (.ref a_p1), some (.int (wI y_x2))] 62 []) (hret : ∀ (pc : Nat) (L : List (Option Value)), narrow .boolean (.int (wI (v.1))) = .int (wI (v.1)) → decode cX0_load pc = .ok (.ireturn, 1) → GG E 0 0 (W_X0_load (eCy E) a_t a_p1 a_p1_numbers a_t_counted a_t_leasts a_t_mosts a_t_paces a_t_ways g_t_1 g_t_2 g_t_3 g_t_4 g_t_10 g_t_11 g_t_12 g_t_13 g_p1_0 g_p1_1 (v.2.1) (v.2.2.1) (v.2.2.2.1) c_p1_size c_p1_numbers (v.2.2.2.2.1) (v.2.2.2.2.2.1) (v.2.2.2.2.2.2.1) (v.2.2.2.2.2.2.2.1) (v.2.2.2.2.2.2.2.2)) L pc [.int (wI (v.1))]) : GG E 0 0 (W_X0_load (eCy E) a_t a_p1 a_p1_numbers a_t_counted a_t_leasts a_t_mosts a_t_paces a_t_ways g_t_1 g_t_2 g_t_3 g_t_4 g_t_10 g_t_11 g_t_12 g_t_13 g_p1_0 g_p1_1 c_size c_least c_most c_p1_size c_p1_numbers c_counted c_leasts c_mosts c_paces c_ways) [some (.ref a_t), some (.ref a_p1), some (.int (wI x2))] 62 [] := by
  unfold mb_X0_load_62 at h
  refine g_iload_n 2 C dX0_load_62 rfl rfl ?_
  refine g_aload_n 0 C dX0_load_63 rfl rfl ?_
  refine g_get C fg_X0_9 0 rfl rfl dX0_load_64 ?_
  refine g_st (st' := [.int (wI c_size), .int (wI x2)]) rfl ?_
  refine g_icmp_ge 136 C dX0_load_67 (by decide) h (fun h => ?_) (fun h => ?_)
  · refine g_aload_n 0 C dX0_load_136 rfl rfl ?_
    obtain ⟨o1, o2, o3, o4, hr5, h⟩ := bnd4_some h
    refine g_callV [0, 3, 4, 5, 6, 7] [1, 2] [2, 0, 1, 3, 4, 5, 6, 7] C mt_X0_78 (c_X0_findEnds _ _ _ _ a_t a_t_counted a_t_leasts a_t_mosts a_t_paces a_t_ways (g_t_1) (g_t_2) (g_t_3) (g_t_4) (g_t_10) (g_t_11) (g_t_12) (g_t_13) c_size c_least c_most c_counted c_leasts c_mosts c_paces c_ways F hr5) (q0 := 0) rfl (ci := 0) rfl rfl rfl (ws2 := (W_X0_load (eCy E) a_t a_p1 a_p1_numbers a_t_counted a_t_leasts a_t_mosts a_t_paces a_t_ways g_t_1 g_t_2 g_t_3 g_t_4 g_t_10 g_t_11 g_t_12 g_t_13 g_p1_0 g_p1_1 c_size o1 o2 c_p1_size c_p1_numbers c_counted o3 o4 c_paces c_ways)) rfl rfl rfl (rest := []) rfl rfl rfl dX0_load_137 ?_
    refine g_iconst C dX0_load_140 ?_
    cases h
    exact hret 141 _ bn1 dX0_load_141
  · refine g_aload_n 0 C dX0_load_70 rfl rfl ?_
    refine g_get C fg_X0_27 0 rfl rfl dX0_load_71 ?_
    refine g_iload_n 2 C dX0_load_74 rfl rfl ?_
    refine g_aload_n 1 C dX0_load_75 rfl rfl ?_
    refine g_get C fg_X0_74 1 rfl rfl dX0_load_76 ?_
    refine g_iconst C dX0_load_79 ?_
    refine g_iload_n 2 C dX0_load_80 rfl rfl ?_
    refine g_imul C dX0_load_81 ?_
    obtain ⟨hc1, h⟩ := chk_some h
    refine g_lald C 2 rfl hc1 rfl dX0_load_82 ?_
    refine g_l2i C dX0_load_83 ?_
    obtain ⟨y2, e_y2, h⟩ := nam_some h
    refine g_topI e_y2 ?_
    obtain ⟨hc3, h⟩ := chk_some h
    refine g_iast C 6 rfl hc3 rfl (ws' := (W_X0_load (eCy E) a_t a_p1 a_p1_numbers a_t_counted a_t_leasts a_t_mosts a_t_paces a_t_ways g_t_1 g_t_2 g_t_3 g_t_4 g_t_10 g_t_11 g_t_12 g_t_13 g_p1_0 g_p1_1 c_size c_least c_most c_p1_size c_p1_numbers c_counted c_leasts c_mosts (up c_paces x2 y2) c_ways)) rfl dX0_load_84 ?_
    refine g_aload_n 0 C dX0_load_85 rfl rfl ?_
    refine g_get C fg_X0_31 0 rfl rfl dX0_load_86 ?_
    refine g_iload_n 2 C dX0_load_89 rfl rfl ?_
    refine g_aload_n 1 C dX0_load_90 rfl rfl ?_
    refine g_get C fg_X0_74 1 rfl rfl dX0_load_91 ?_
    refine g_iconst C dX0_load_94 ?_
    refine g_iload_n 2 C dX0_load_95 rfl rfl ?_
    refine g_imul C dX0_load_96 ?_
    refine g_iconst C dX0_load_97 ?_
    refine g_iadd C dX0_load_98 ?_
    obtain ⟨hc4, h⟩ := chk_some h
    refine g_lald C 2 rfl hc4 rfl dX0_load_99 ?_
    refine g_l2i C dX0_load_100 ?_
    obtain ⟨y5, e_y5, h⟩ := nam_some h
    refine g_topI e_y5 ?_
    obtain ⟨hc6, h⟩ := chk_some h
    refine g_iast C 7 rfl hc6 rfl (ws' := (W_X0_load (eCy E) a_t a_p1 a_p1_numbers a_t_counted a_t_leasts a_t_mosts a_t_paces a_t_ways g_t_1 g_t_2 g_t_3 g_t_4 g_t_10 g_t_11 g_t_12 g_t_13 g_p1_0 g_p1_1 c_size c_least c_most c_p1_size c_p1_numbers c_counted c_leasts c_mosts (up c_paces x2 y2) (up c_ways x2 y5))) rfl dX0_load_101 ?_
    refine g_aload_n 0 C dX0_load_102 rfl rfl ?_
    refine g_get C fg_X0_34 0 rfl rfl dX0_load_103 ?_
    refine g_iload_n 2 C dX0_load_106 rfl rfl ?_
    refine g_aload_n 1 C dX0_load_107 rfl rfl ?_
    refine g_get C fg_X0_74 1 rfl rfl dX0_load_108 ?_
    refine g_iconst C dX0_load_111 ?_
    refine g_iload_n 2 C dX0_load_112 rfl rfl ?_
    refine g_imul C dX0_load_113 ?_
    refine g_iconst C dX0_load_114 ?_
    refine g_iadd C dX0_load_115 ?_
    obtain ⟨hc7, h⟩ := chk_some h
    refine g_lald C 2 rfl hc7 rfl dX0_load_116 ?_
    refine g_l2i C dX0_load_117 ?_
    obtain ⟨y8, e_y8, h⟩ := nam_some h
    refine g_topI e_y8 ?_
    obtain ⟨hc9, h⟩ := chk_some h
    refine g_iast C 3 rfl hc9 rfl (ws' := (W_X0_load (eCy E) a_t a_p1 a_p1_numbers a_t_counted a_t_leasts a_t_mosts a_t_paces a_t_ways g_t_1 g_t_2 g_t_3 g_t_4 g_t_10 g_t_11 g_t_12 g_t_13 g_p1_0 g_p1_1 c_size c_least c_most c_p1_size c_p1_numbers (up c_counted x2 y8) c_leasts c_mosts (up c_paces x2 y2) (up c_ways x2 y5))) rfl dX0_load_118 ?_
    refine g_aload_n 0 C dX0_load_119 rfl rfl ?_
    refine g_get C fg_X0_31 0 rfl rfl dX0_load_120 ?_
    refine g_iload_n 2 C dX0_load_123 rfl rfl ?_
    obtain ⟨hc10, h⟩ := chk_some h
    refine g_iald C 7 rfl hc10 rfl dX0_load_124 ?_
    refine g_if_ne 130 C dX0_load_125 (by decide) h (fun h => ?_) (fun h => ?_)
    · refine g_iinc C hN dX0_load_130 rfl rfl (L' := [some (.ref a_t), some (.ref a_p1), some (.int (wI (x2 + 1)))]) rfl ?_
      refine g_goto (tgt := 62) C dX0_load_133 (by decide) ?_
      exact hk62 _ _ _ _ h
    · refine g_iconst C dX0_load_128 ?_
      cases h
      exact hret 129 _ bn0 dX0_load_129
set_option maxRecDepth 100000 in
set_option maxHeartbeats 4000000 in
theorem wl_X0_load_62 {F : Nat} {v : Int × Int × Int × Int × (Int → Int) × (Int → Int) × (Int → Int) × (Int → Int) × (Int → Int)} {x2 : Int} {c_size : Int} {c_least : Int} {c_most : Int} {c_p1_numbers : Int → Int} {c_counted : Int → Int} {c_leasts : Int → Int} {c_mosts : Int → Int} {c_paces : Int → Int} {c_ways : Int → Int} {c_p1_size : Int} (C : Cx E cX0_load RX0 { frames := 3, cells := 0, slots := 0, locals := 70 }) (hN : eN E = 3) (h : ml_X0_load_62 F x2 c_size c_least c_most c_p1_numbers c_counted c_leasts c_mosts c_paces c_ways = some v) (hret : ∀ (pc : Nat) (L : List (Option Value)), narrow .boolean (.int (wI (v.1))) = .int (wI (v.1)) → decode cX0_load pc = .ok (.ireturn, 1) → GG E 0 0 (W_X0_load (eCy E) a_t a_p1 a_p1_numbers a_t_counted a_t_leasts a_t_mosts a_t_paces a_t_ways g_t_1 g_t_2 g_t_3 g_t_4 g_t_10 g_t_11 g_t_12 g_t_13 g_p1_0 g_p1_1 (v.2.1) (v.2.2.1) (v.2.2.2.1) c_p1_size c_p1_numbers (v.2.2.2.2.1) (v.2.2.2.2.2.1) (v.2.2.2.2.2.2.1) (v.2.2.2.2.2.2.2.1) (v.2.2.2.2.2.2.2.2)) L pc [.int (wI (v.1))]) : GG E 0 0 (W_X0_load (eCy E) a_t a_p1 a_p1_numbers a_t_counted a_t_leasts a_t_mosts a_t_paces a_t_ways g_t_1 g_t_2 g_t_3 g_t_4 g_t_10 g_t_11 g_t_12 g_t_13 g_p1_0 g_p1_1 c_size c_least c_most c_p1_size c_p1_numbers c_counted c_leasts c_mosts c_paces c_ways) [some (.ref a_t), some (.ref a_p1), some (.int (wI x2))] 62 [] := by
  unfold ml_X0_load_62 at h
  exact loop_walk (g := fun (q : Int × (Int → Int) × (Int → Int) × (Int → Int)) => GG E 0 0 (W_X0_load (eCy E) a_t a_p1 a_p1_numbers a_t_counted a_t_leasts a_t_mosts a_t_paces a_t_ways g_t_1 g_t_2 g_t_3 g_t_4 g_t_10 g_t_11 g_t_12 g_t_13 g_p1_0 g_p1_1 c_size c_least c_most c_p1_size c_p1_numbers (q.2.1) c_leasts c_mosts (q.2.2.1) (q.2.2.2)) [some (.ref a_t), some (.ref a_p1), some (.int (wI (q.1)))] 62 []) (fun k hk q h => wb_X0_load_62 C hN h (fun y0 y1 y2 y3 hh => hk (y0, y1, y2, y3) hh) hret) F (x2, c_counted, c_paces, c_ways) h
set_option maxRecDepth 100000 in
set_option maxHeartbeats 4000000 in
theorem wm_X0_load {F : Nat} {v : Int × Int × Int × Int × (Int → Int) × (Int → Int) × (Int → Int) × (Int → Int) × (Int → Int)} {c_size : Int} {c_least : Int} {c_most : Int} {c_p1_size : Int} {c_p1_numbers : Int → Int} {c_counted : Int → Int} {c_leasts : Int → Int} {c_mosts : Int → Int} {c_paces : Int → Int} {c_ways : Int → Int} (C : Cx E cX0_load RX0 { frames := 3, cells := 0, slots := 0, locals := 70 }) (hN : eN E = 3) (h : m_X0_load F c_size c_least c_most c_p1_size c_p1_numbers c_counted c_leasts c_mosts c_paces c_ways = some v) (hret : ∀ (pc : Nat) (L : List (Option Value)), narrow .boolean (.int (wI (v.1))) = .int (wI (v.1)) → decode cX0_load pc = .ok (.ireturn, 1) → GG E 0 0 (W_X0_load (eCy E) a_t a_p1 a_p1_numbers a_t_counted a_t_leasts a_t_mosts a_t_paces a_t_ways g_t_1 g_t_2 g_t_3 g_t_4 g_t_10 g_t_11 g_t_12 g_t_13 g_p1_0 g_p1_1 (v.2.1) (v.2.2.1) (v.2.2.2.1) c_p1_size c_p1_numbers (v.2.2.2.2.1) (v.2.2.2.2.2.1) (v.2.2.2.2.2.2.1) (v.2.2.2.2.2.2.2.1) (v.2.2.2.2.2.2.2.2)) L pc [.int (wI (v.1))]) : GG E 0 0 (W_X0_load (eCy E) a_t a_p1 a_p1_numbers a_t_counted a_t_leasts a_t_mosts a_t_paces a_t_ways g_t_1 g_t_2 g_t_3 g_t_4 g_t_10 g_t_11 g_t_12 g_t_13 g_p1_0 g_p1_1 c_size c_least c_most c_p1_size c_p1_numbers c_counted c_leasts c_mosts c_paces c_ways) [some (.ref a_t), some (.ref a_p1), none] 0 [] := by
  unfold m_X0_load at h
  refine g_aload_n 1 C dX0_load_0 rfl rfl ?_
  refine g_get C fg_X0_61 1 rfl rfl dX0_load_1 ?_
  refine g_st (st' := [.int (wI c_p1_size)]) rfl ?_
  refine g_iconst C dX0_load_4 ?_
  obtain ⟨hc1, h⟩ := chk_some h
  refine g_irem C dX0_load_5 hc1 ?_
  refine g_if_ne 48 C dX0_load_6 (by decide) h (fun h => ?_) (fun h => ?_)
  · refine g_iconst C dX0_load_48 ?_
    cases h
    exact hret 49 _ bn0 dX0_load_49
  · refine g_aload_n 1 C dX0_load_9 rfl rfl ?_
    refine g_iconst C dX0_load_10 ?_
    refine g_iconst C dX0_load_11 ?_
    refine g_lconst (x := 1) C dX0_load_12 (by decide) ?_
    refine g_ldc2 (v := 30) C mc_X0_64 dX0_load_13 ?_
    obtain ⟨r2, hr3, h⟩ := bnd1_some h
    refine g_callI [1, 2] [0, 3, 4, 5, 6, 7] [0, 6, 7, 1, 2, 3, 4, 5] C mt_X0_66 (c_X5_hasOut _ _ _ _ a_p1 a_p1_numbers (g_p1_0) (g_p1_1) 0 3 1 30 c_p1_size c_p1_numbers F hr3) (q0 := 0) rfl (ci := 5) rfl rfl rfl (ws2 := (W_X0_load (eCy E) a_t a_p1 a_p1_numbers a_t_counted a_t_leasts a_t_mosts a_t_paces a_t_ways g_t_1 g_t_2 g_t_3 g_t_4 g_t_10 g_t_11 g_t_12 g_t_13 g_p1_0 g_p1_1 c_size c_least c_most c_p1_size c_p1_numbers c_counted c_leasts c_mosts c_paces c_ways)) rfl rfl rfl (rest := []) rfl rfl rfl dX0_load_16 ?_
    refine g_if_ne 48 C dX0_load_19 (by decide) h (fun h => ?_) (fun h => ?_)
    · refine g_iconst C dX0_load_48 ?_
      cases h
      exact hret 49 _ bn0 dX0_load_49
    · refine g_aload_n 1 C dX0_load_22 rfl rfl ?_
      refine g_iconst C dX0_load_23 ?_
      refine g_iconst C dX0_load_24 ?_
      refine g_ldc2 (v := -1) C mc_X0_70 dX0_load_25 ?_
      refine g_lconst (x := 1) C dX0_load_28 (by decide) ?_
      obtain ⟨r4, hr5, h⟩ := bnd1_some h
      refine g_callI [1, 2] [0, 3, 4, 5, 6, 7] [0, 6, 7, 1, 2, 3, 4, 5] C mt_X0_66 (c_X5_hasOut _ _ _ _ a_p1 a_p1_numbers (g_p1_0) (g_p1_1) 1 3 (-1) 1 c_p1_size c_p1_numbers F hr5) (q0 := 0) rfl (ci := 5) rfl rfl rfl (ws2 := (W_X0_load (eCy E) a_t a_p1 a_p1_numbers a_t_counted a_t_leasts a_t_mosts a_t_paces a_t_ways g_t_1 g_t_2 g_t_3 g_t_4 g_t_10 g_t_11 g_t_12 g_t_13 g_p1_0 g_p1_1 c_size c_least c_most c_p1_size c_p1_numbers c_counted c_leasts c_mosts c_paces c_ways)) rfl rfl rfl (rest := []) rfl rfl rfl dX0_load_29 ?_
      refine g_if_ne 48 C dX0_load_32 (by decide) h (fun h => ?_) (fun h => ?_)
      · refine g_iconst C dX0_load_48 ?_
        cases h
        exact hret 49 _ bn0 dX0_load_49
      · refine g_aload_n 1 C dX0_load_35 rfl rfl ?_
        refine g_iconst C dX0_load_36 ?_
        refine g_iconst C dX0_load_37 ?_
        refine g_lconst (x := 0) C dX0_load_38 (by decide) ?_
        refine g_ldc2 (v := 9999) C mc_X0_72 dX0_load_39 ?_
        obtain ⟨r6, hr7, h⟩ := bnd1_some h
        refine g_callI [1, 2] [0, 3, 4, 5, 6, 7] [0, 6, 7, 1, 2, 3, 4, 5] C mt_X0_66 (c_X5_hasOut _ _ _ _ a_p1 a_p1_numbers (g_p1_0) (g_p1_1) 2 3 0 9999 c_p1_size c_p1_numbers F hr7) (q0 := 0) rfl (ci := 5) rfl rfl rfl (ws2 := (W_X0_load (eCy E) a_t a_p1 a_p1_numbers a_t_counted a_t_leasts a_t_mosts a_t_paces a_t_ways g_t_1 g_t_2 g_t_3 g_t_4 g_t_10 g_t_11 g_t_12 g_t_13 g_p1_0 g_p1_1 c_size c_least c_most c_p1_size c_p1_numbers c_counted c_leasts c_mosts c_paces c_ways)) rfl rfl rfl (rest := []) rfl rfl rfl dX0_load_42 ?_
        refine g_if_eq 50 C dX0_load_45 (by decide) h (fun h => ?_) (fun h => ?_)
        · refine g_aload_n 0 C dX0_load_50 rfl rfl ?_
          refine g_aload_n 1 C dX0_load_51 rfl rfl ?_
          refine g_get C fg_X0_61 1 rfl rfl dX0_load_52 ?_
          refine g_st (st' := [.int (wI c_p1_size), .ref a_t]) rfl ?_
          refine g_iconst C dX0_load_55 ?_
          obtain ⟨hc8, h⟩ := chk_some h
          refine g_idiv C dX0_load_56 hc8 ?_
          obtain ⟨y9, e_y9, h⟩ := nam_some h
          refine g_topI e_y9 ?_
          refine g_putI C fp_X0_9 0 rfl rfl (ws' := (W_X0_load (eCy E) a_t a_p1 a_p1_numbers a_t_counted a_t_leasts a_t_mosts a_t_paces a_t_ways g_t_1 g_t_2 g_t_3 g_t_4 g_t_10 g_t_11 g_t_12 g_t_13 g_p1_0 g_p1_1 y9 c_least c_most c_p1_size c_p1_numbers c_counted c_leasts c_mosts c_paces c_ways)) rfl dX0_load_57 ?_
          refine g_iconst C dX0_load_60 ?_
          refine g_istore_n 2 C hN dX0_load_61 rfl rfl (L' := [some (.ref a_t), some (.ref a_p1), some (.int (wI 0))]) rfl ?_
          exact wl_X0_load_62 C hN h hret
        · refine g_iconst C dX0_load_48 ?_
          cases h
          exact hret 49 _ bn0 dX0_load_49
end S_X0_load
set_option maxRecDepth 100000 in
set_option maxHeartbeats 4000000 in
theorem c_X0_load (l : Launch) (D : va_G) (cy : Nat → ClassId) (ad : AD) (a_t a_p1 a_p1_numbers a_t_counted a_t_leasts a_t_mosts a_t_paces a_t_ways : Nat) (g_t_1 : Value) (g_t_2 : Value) (g_t_3 : Value) (g_t_4 : Value) (g_t_10 : Value) (g_t_11 : Value) (g_t_12 : Value) (g_t_13 : Value) (g_p1_0 : Value) (g_p1_1 : Value) (c_size : Int) (c_least : Int) (c_most : Int) (c_p1_size : Int) (c_p1_numbers : Int → Int) (c_counted : Int → Int) (c_leasts : Int → Int) (c_mosts : Int → Int) (c_paces : Int → Int) (c_ways : Int → Int) (F : Nat) {v : Int × Int × Int × Int × (Int → Int) × (Int → Int) × (Int → Int) × (Int → Int) × (Int → Int)} (h : m_X0_load F c_size c_least c_most c_p1_size c_p1_numbers c_counted c_leasts c_mosts c_paces c_ways = some v) : Ct l yX0_load cX0_load 3 (some .boolean) { frames := 3, cells := 0, slots := 0, locals := 70 } D cy ad [.ref a_t, .ref a_p1] (W_X0_load cy a_t a_p1 a_p1_numbers a_t_counted a_t_leasts a_t_mosts a_t_paces a_t_ways g_t_1 g_t_2 g_t_3 g_t_4 g_t_10 g_t_11 g_t_12 g_t_13 g_p1_0 g_p1_1 c_size c_least c_most c_p1_size c_p1_numbers c_counted c_leasts c_mosts c_paces c_ways) (W_X0_load cy a_t a_p1 a_p1_numbers a_t_counted a_t_leasts a_t_mosts a_t_paces a_t_ways g_t_1 g_t_2 g_t_3 g_t_4 g_t_10 g_t_11 g_t_12 g_t_13 g_p1_0 g_p1_1 (v.2.1) (v.2.2.1) (v.2.2.2.1) c_p1_size c_p1_numbers (v.2.2.2.2.1) (v.2.2.2.2.2.1) (v.2.2.2.2.2.2.1) (v.2.2.2.2.2.2.2.1) (v.2.2.2.2.2.2.2.2)) (some (.int (wI (v.1)))) := by
  refine Ct.introZ (j := 1) (plainFor_of_name (by decide)) rfl rfl (fun E C e1 e2 e3 e4 e5 hret => ?_)
  subst e1; subst e2; subst e3; subst e4
  exact wm_X0_load C e5 h hret
-- MovingStair$Counts.pairs()I
def W_X0_pairs (cy : Nat → ClassId) (a_t a_t_leasts a_t_mosts : Nat) (g_t_0 : Value) (g_t_1 : Value) (g_t_2 : Value) (g_t_3 : Value) (g_t_4 : Value) (g_t_5 : Value) (g_t_6 : Value) (g_t_7 : Value) (g_t_10 : Value) (g_t_11 : Value) (g_t_12 : Value) (g_t_13 : Value) (g_t_14 : Value) (g_t_15 : Value) (c_leasts : Int → Int) (c_mosts : Int → Int) : va_W := [(a_t, .inr (0, [g_t_0, g_t_1, g_t_2, g_t_3, g_t_4, g_t_5, g_t_6, g_t_7, .ref a_t_leasts, .ref a_t_mosts, g_t_10, g_t_11, g_t_12, g_t_13, g_t_14, g_t_15])), (a_t_leasts, .inl (cy 1, 31, .inl (aI c_leasts))), (a_t_mosts, .inl (cy 1, 31, .inl (aI c_mosts)))]
def mb_X0_pairs_4 (F : Nat) (k4 : Int → Int → Option (Int)) (x1 : Int) (x2 : Int) (c_leasts : Int → Int) (c_mosts : Int → Int) : Option (Int) :=
  if wI 30 < wI x2 then
    (some x1)
  else
    (chk (0 ≤ x2 ∧ x2 < 31) <| chk (0 ≤ x2 ∧ x2 < 31) <| bnd1 (m_J9_max_7cf53 F 0 (((c_mosts x2) - (c_leasts x2)) + 1)) fun r3 => nam (x1 + r3) fun y5 => k4 y5 (x2 + 1))
def ml_X0_pairs_4 (F : Nat) (x1 : Int) (x2 : Int) (c_leasts : Int → Int) (c_mosts : Int → Int) : Option (Int) :=
  loopN (fun (k : Int × Int → Option (Int)) q => mb_X0_pairs_4 F (fun y0 y1 => k (y0, y1)) q.1 q.2 c_leasts c_mosts) F (x1, x2)
def m_X0_pairs (F : Nat) (c_leasts : Int → Int) (c_mosts : Int → Int) : Option (Int) :=
  ml_X0_pairs_4 F 0 0 c_leasts c_mosts
section S_X0_pairs
variable {E : EE} {a_t a_t_leasts a_t_mosts : Nat} {g_t_0 : Value} {g_t_1 : Value} {g_t_2 : Value} {g_t_3 : Value} {g_t_4 : Value} {g_t_5 : Value} {g_t_6 : Value} {g_t_7 : Value} {g_t_10 : Value} {g_t_11 : Value} {g_t_12 : Value} {g_t_13 : Value} {g_t_14 : Value} {g_t_15 : Value}
set_option maxRecDepth 100000 in
set_option maxHeartbeats 4000000 in
theorem wb_X0_pairs_4 {F : Nat} {k4 : Int → Int → Option (Int)} {v : Int} {x1 : Int} {x2 : Int} {c_leasts : Int → Int} {c_mosts : Int → Int} (C : Cx E cX0_pairs RX0 { frames := 1, cells := 0, slots := 0, locals := 21 }) (hN : eN E = 3) (h : mb_X0_pairs_4 F k4 x1 x2 c_leasts c_mosts = some v) (hk4 : ∀ (y_x1 : Int) (y_x2 : Int), k4 y_x1 y_x2 = some v → GG E 0 0 (W_X0_pairs (eCy E) a_t a_t_leasts a_t_mosts g_t_0 g_t_1 g_t_2 g_t_3 g_t_4 g_t_5 g_t_6 g_t_7 g_t_10 g_t_11 g_t_12 g_t_13 g_t_14 g_t_15 c_leasts c_mosts) [some (.ref a_t), some (.int (wI y_x1)), some (.int (wI y_x2))] 4 []) (hret : ∀ (pc : Nat) (L : List (Option Value)), decode cX0_pairs pc = .ok (.ireturn, 1) → GG E 0 0 (W_X0_pairs (eCy E) a_t a_t_leasts a_t_mosts g_t_0 g_t_1 g_t_2 g_t_3 g_t_4 g_t_5 g_t_6 g_t_7 g_t_10 g_t_11 g_t_12 g_t_13 g_t_14 g_t_15 c_leasts c_mosts) L pc [.int (wI v)]) : GG E 0 0 (W_X0_pairs (eCy E) a_t a_t_leasts a_t_mosts g_t_0 g_t_1 g_t_2 g_t_3 g_t_4 g_t_5 g_t_6 g_t_7 g_t_10 g_t_11 g_t_12 g_t_13 g_t_14 g_t_15 c_leasts c_mosts) [some (.ref a_t), some (.int (wI x1)), some (.int (wI x2))] 4 [] := by
  unfold mb_X0_pairs_4 at h
  refine g_iload_n 2 C dX0_pairs_4 rfl rfl ?_
  refine g_bipush C dX0_pairs_5 (by decide) ?_
  refine g_icmp_gt 38 C dX0_pairs_7 (by decide) h (fun h => ?_) (fun h => ?_)
  · refine g_iload_n 1 C dX0_pairs_38 rfl rfl ?_
    cases h
    exact hret 39 _ dX0_pairs_39
  · refine g_iload_n 1 C dX0_pairs_10 rfl rfl ?_
    refine g_iconst C dX0_pairs_11 ?_
    refine g_aload_n 0 C dX0_pairs_12 rfl rfl ?_
    refine g_get C fg_X0_40 0 rfl rfl dX0_pairs_13 ?_
    refine g_iload_n 2 C dX0_pairs_16 rfl rfl ?_
    obtain ⟨hc1, h⟩ := chk_some h
    refine g_iald C 2 rfl hc1 rfl dX0_pairs_17 ?_
    refine g_aload_n 0 C dX0_pairs_18 rfl rfl ?_
    refine g_get C fg_X0_37 0 rfl rfl dX0_pairs_19 ?_
    refine g_iload_n 2 C dX0_pairs_22 rfl rfl ?_
    obtain ⟨hc2, h⟩ := chk_some h
    refine g_iald C 1 rfl hc2 rfl dX0_pairs_23 ?_
    refine g_isub C dX0_pairs_24 ?_
    refine g_iconst C dX0_pairs_25 ?_
    refine g_iadd C dX0_pairs_26 ?_
    obtain ⟨r3, hr4, h⟩ := bnd1_some h
    refine g_callSI [] [0, 1, 2] [0, 1, 2] C mt_X0_85 (c_J9_max_7cf53 _ _ _ _ 0 (((c_mosts x2) - (c_leasts x2)) + 1) F hr4) rfl rfl (ws2 := (W_X0_pairs (eCy E) a_t a_t_leasts a_t_mosts g_t_0 g_t_1 g_t_2 g_t_3 g_t_4 g_t_5 g_t_6 g_t_7 g_t_10 g_t_11 g_t_12 g_t_13 g_t_14 g_t_15 c_leasts c_mosts)) rfl rfl rfl (rest := [.int (wI x1)]) rfl rfl rfl dX0_pairs_27 ?_
    refine g_iadd C dX0_pairs_30 ?_
    obtain ⟨y5, e_y5, h⟩ := nam_some h
    refine g_topI e_y5 ?_
    refine g_istore_n 1 C hN dX0_pairs_31 rfl rfl (L' := [some (.ref a_t), some (.int (wI y5)), some (.int (wI x2))]) rfl ?_
    refine g_iinc C hN dX0_pairs_32 rfl rfl (L' := [some (.ref a_t), some (.int (wI y5)), some (.int (wI (x2 + 1)))]) rfl ?_
    refine g_goto (tgt := 4) C dX0_pairs_35 (by decide) ?_
    exact hk4 _ _ h
set_option maxRecDepth 100000 in
set_option maxHeartbeats 4000000 in
theorem wl_X0_pairs_4 {F : Nat} {v : Int} {x1 : Int} {x2 : Int} {c_leasts : Int → Int} {c_mosts : Int → Int} (C : Cx E cX0_pairs RX0 { frames := 1, cells := 0, slots := 0, locals := 21 }) (hN : eN E = 3) (h : ml_X0_pairs_4 F x1 x2 c_leasts c_mosts = some v) (hret : ∀ (pc : Nat) (L : List (Option Value)), decode cX0_pairs pc = .ok (.ireturn, 1) → GG E 0 0 (W_X0_pairs (eCy E) a_t a_t_leasts a_t_mosts g_t_0 g_t_1 g_t_2 g_t_3 g_t_4 g_t_5 g_t_6 g_t_7 g_t_10 g_t_11 g_t_12 g_t_13 g_t_14 g_t_15 c_leasts c_mosts) L pc [.int (wI v)]) : GG E 0 0 (W_X0_pairs (eCy E) a_t a_t_leasts a_t_mosts g_t_0 g_t_1 g_t_2 g_t_3 g_t_4 g_t_5 g_t_6 g_t_7 g_t_10 g_t_11 g_t_12 g_t_13 g_t_14 g_t_15 c_leasts c_mosts) [some (.ref a_t), some (.int (wI x1)), some (.int (wI x2))] 4 [] := by
  unfold ml_X0_pairs_4 at h
  exact loop_walk (g := fun (q : Int × Int) => GG E 0 0 (W_X0_pairs (eCy E) a_t a_t_leasts a_t_mosts g_t_0 g_t_1 g_t_2 g_t_3 g_t_4 g_t_5 g_t_6 g_t_7 g_t_10 g_t_11 g_t_12 g_t_13 g_t_14 g_t_15 c_leasts c_mosts) [some (.ref a_t), some (.int (wI (q.1))), some (.int (wI (q.2)))] 4 []) (fun k hk q h => wb_X0_pairs_4 C hN h (fun y0 y1 hh => hk (y0, y1) hh) hret) F (x1, x2) h
set_option maxRecDepth 100000 in
set_option maxHeartbeats 4000000 in
theorem wm_X0_pairs {F : Nat} {v : Int} {c_leasts : Int → Int} {c_mosts : Int → Int} (C : Cx E cX0_pairs RX0 { frames := 1, cells := 0, slots := 0, locals := 21 }) (hN : eN E = 3) (h : m_X0_pairs F c_leasts c_mosts = some v) (hret : ∀ (pc : Nat) (L : List (Option Value)), decode cX0_pairs pc = .ok (.ireturn, 1) → GG E 0 0 (W_X0_pairs (eCy E) a_t a_t_leasts a_t_mosts g_t_0 g_t_1 g_t_2 g_t_3 g_t_4 g_t_5 g_t_6 g_t_7 g_t_10 g_t_11 g_t_12 g_t_13 g_t_14 g_t_15 c_leasts c_mosts) L pc [.int (wI v)]) : GG E 0 0 (W_X0_pairs (eCy E) a_t a_t_leasts a_t_mosts g_t_0 g_t_1 g_t_2 g_t_3 g_t_4 g_t_5 g_t_6 g_t_7 g_t_10 g_t_11 g_t_12 g_t_13 g_t_14 g_t_15 c_leasts c_mosts) [some (.ref a_t), none, none] 0 [] := by
  unfold m_X0_pairs at h
  refine g_iconst C dX0_pairs_0 ?_
  refine g_istore_n 1 C hN dX0_pairs_1 rfl rfl (L' := [some (.ref a_t), some (.int (wI 0)), none]) rfl ?_
  refine g_iconst C dX0_pairs_2 ?_
  refine g_istore_n 2 C hN dX0_pairs_3 rfl rfl (L' := [some (.ref a_t), some (.int (wI 0)), some (.int (wI 0))]) rfl ?_
  exact wl_X0_pairs_4 C hN h hret
end S_X0_pairs
set_option maxRecDepth 100000 in
set_option maxHeartbeats 4000000 in
theorem c_X0_pairs (l : Launch) (D : va_G) (cy : Nat → ClassId) (ad : AD) (a_t a_t_leasts a_t_mosts : Nat) (g_t_0 : Value) (g_t_1 : Value) (g_t_2 : Value) (g_t_3 : Value) (g_t_4 : Value) (g_t_5 : Value) (g_t_6 : Value) (g_t_7 : Value) (g_t_10 : Value) (g_t_11 : Value) (g_t_12 : Value) (g_t_13 : Value) (g_t_14 : Value) (g_t_15 : Value) (c_leasts : Int → Int) (c_mosts : Int → Int) (F : Nat) {v : Int} (h : m_X0_pairs F c_leasts c_mosts = some v) : Ct l yX0_pairs cX0_pairs 3 (some .int) { frames := 1, cells := 0, slots := 0, locals := 21 } D cy ad [.ref a_t] (W_X0_pairs cy a_t a_t_leasts a_t_mosts g_t_0 g_t_1 g_t_2 g_t_3 g_t_4 g_t_5 g_t_6 g_t_7 g_t_10 g_t_11 g_t_12 g_t_13 g_t_14 g_t_15 c_leasts c_mosts) (W_X0_pairs cy a_t a_t_leasts a_t_mosts g_t_0 g_t_1 g_t_2 g_t_3 g_t_4 g_t_5 g_t_6 g_t_7 g_t_10 g_t_11 g_t_12 g_t_13 g_t_14 g_t_15 c_leasts c_mosts) (some (.int (wI v))) := by
  refine Ct.introI (j := 2) (plainFor_of_name (by decide)) rfl rfl (fun E C e1 e2 e3 e4 e5 hret => ?_)
  subst e1; subst e2; subst e3; subst e4
  exact wm_X0_pairs C e5 h hret
-- MovingStair$Counts.findFirst()V
def W_X0_findFirst (cy : Nat → ClassId) (a_t a_t_leasts a_t_mosts : Nat) (g_t_0 : Value) (g_t_3 : Value) (g_t_4 : Value) (g_t_5 : Value) (g_t_6 : Value) (g_t_7 : Value) (g_t_10 : Value) (g_t_11 : Value) (g_t_12 : Value) (g_t_13 : Value) (g_t_14 : Value) (g_t_15 : Value) (c_firstSteps : Int) (c_firstSpeed : Int) (c_leasts : Int → Int) (c_mosts : Int → Int) : va_W := [(a_t, .inr (0, [g_t_0, .int (wI c_firstSteps), .int (wI c_firstSpeed), g_t_3, g_t_4, g_t_5, g_t_6, g_t_7, .ref a_t_leasts, .ref a_t_mosts, g_t_10, g_t_11, g_t_12, g_t_13, g_t_14, g_t_15])), (a_t_leasts, .inl (cy 1, 31, .inl (aI c_leasts))), (a_t_mosts, .inl (cy 1, 31, .inl (aI c_mosts)))]
def mb_X0_findFirst_69 (F : Nat) (k12 : Int → Int → Int → Option (Int × Int)) (x1 : Int) (c_firstSteps : Int) (c_firstSpeed : Int) (c_leasts : Int → Int) (c_mosts : Int → Int) : Option (Int × Int) :=
  k12 (x1 + 1) c_firstSteps c_firstSpeed
def mb_X0_findFirst_54 (F : Nat) (k12 : Int → Int → Int → Option (Int × Int)) (x1 : Int) (c_leasts : Int → Int) (c_mosts : Int → Int) : Option (Int × Int) :=
  chk (0 ≤ x1 ∧ x1 < 31) <| nam (c_leasts x1) fun y2 => mb_X0_findFirst_69 F k12 x1 y2 x1 c_leasts c_mosts
def mb_X0_findFirst_12 (F : Nat) (k12 : Int → Int → Int → Option (Int × Int)) (x1 : Int) (c_firstSteps : Int) (c_firstSpeed : Int) (c_leasts : Int → Int) (c_mosts : Int → Int) : Option (Int × Int) :=
  if wI 30 < wI x1 then
    (some (c_firstSteps, c_firstSpeed))
  else
    (chk (0 ≤ x1 ∧ x1 < 31) <| chk (0 ≤ x1 ∧ x1 < 31) <| if wI (c_mosts x1) < wI (c_leasts x1) then
    (mb_X0_findFirst_69 F k12 x1 c_firstSteps c_firstSpeed c_leasts c_mosts)
  else
    (if wI c_firstSteps = wI (-1) then
    (mb_X0_findFirst_54 F k12 x1 c_leasts c_mosts)
  else
    (chk (0 ≤ x1 ∧ x1 < 31) <| if wI c_firstSteps ≤ wI (c_leasts x1) then
    (mb_X0_findFirst_69 F k12 x1 c_firstSteps c_firstSpeed c_leasts c_mosts)
  else
    (mb_X0_findFirst_54 F k12 x1 c_leasts c_mosts))))
def ml_X0_findFirst_12 (F : Nat) (x1 : Int) (c_firstSteps : Int) (c_firstSpeed : Int) (c_leasts : Int → Int) (c_mosts : Int → Int) : Option (Int × Int) :=
  loopN (fun (k : Int × Int × Int → Option (Int × Int)) q => mb_X0_findFirst_12 F (fun y0 y1 y2 => k (y0, y1, y2)) q.1 q.2.1 q.2.2 c_leasts c_mosts) F (x1, c_firstSteps, c_firstSpeed)
def m_X0_findFirst (F : Nat) (c_leasts : Int → Int) (c_mosts : Int → Int) : Option (Int × Int) :=
  ml_X0_findFirst_12 F 0 (-1) (-1) c_leasts c_mosts
section S_X0_findFirst
variable {E : EE} {a_t a_t_leasts a_t_mosts : Nat} {g_t_0 : Value} {g_t_3 : Value} {g_t_4 : Value} {g_t_5 : Value} {g_t_6 : Value} {g_t_7 : Value} {g_t_10 : Value} {g_t_11 : Value} {g_t_12 : Value} {g_t_13 : Value} {g_t_14 : Value} {g_t_15 : Value}
set_option maxRecDepth 100000 in
set_option maxHeartbeats 4000000 in
theorem wb_X0_findFirst_69 {F : Nat} {k12 : Int → Int → Int → Option (Int × Int)} {v : Int × Int} {x1 : Int} {c_firstSteps : Int} {c_firstSpeed : Int} {c_leasts : Int → Int} {c_mosts : Int → Int} (C : Cx E cX0_findFirst RX0 { frames := 0, cells := 0, slots := 0, locals := 0 }) (hN : eN E = 2) (h : mb_X0_findFirst_69 F k12 x1 c_firstSteps c_firstSpeed c_leasts c_mosts = some v) (hk12 : ∀ (y_x1 : Int) (y_c_firstSteps : Int) (y_c_firstSpeed : Int), k12 y_x1 y_c_firstSteps y_c_firstSpeed = some v → GG E 0 0 (W_X0_findFirst (eCy E) a_t a_t_leasts a_t_mosts g_t_0 g_t_3 g_t_4 g_t_5 g_t_6 g_t_7 g_t_10 g_t_11 g_t_12 g_t_13 g_t_14 g_t_15 y_c_firstSteps y_c_firstSpeed c_leasts c_mosts) [some (.ref a_t), some (.int (wI y_x1))] 12 []) (hret : ∀ (pc : Nat) (L : List (Option Value)), decode cX0_findFirst pc = .ok (.return_, 1) → GG E 0 0 (W_X0_findFirst (eCy E) a_t a_t_leasts a_t_mosts g_t_0 g_t_3 g_t_4 g_t_5 g_t_6 g_t_7 g_t_10 g_t_11 g_t_12 g_t_13 g_t_14 g_t_15 (v.1) (v.2) c_leasts c_mosts) L pc []) : GG E 0 0 (W_X0_findFirst (eCy E) a_t a_t_leasts a_t_mosts g_t_0 g_t_3 g_t_4 g_t_5 g_t_6 g_t_7 g_t_10 g_t_11 g_t_12 g_t_13 g_t_14 g_t_15 c_firstSteps c_firstSpeed c_leasts c_mosts) [some (.ref a_t), some (.int (wI x1))] 69 [] := by
  unfold mb_X0_findFirst_69 at h
  refine g_iinc C hN dX0_findFirst_69 rfl rfl (L' := [some (.ref a_t), some (.int (wI (x1 + 1)))]) rfl ?_
  refine g_goto (tgt := 12) C dX0_findFirst_72 (by decide) ?_
  exact hk12 _ _ _ h
set_option maxRecDepth 100000 in
set_option maxHeartbeats 4000000 in
theorem wb_X0_findFirst_54 {F : Nat} {k12 : Int → Int → Int → Option (Int × Int)} {v : Int × Int} {x1 : Int} {c_leasts : Int → Int} {c_mosts : Int → Int} {c_firstSteps : Int} {c_firstSpeed : Int} (C : Cx E cX0_findFirst RX0 { frames := 0, cells := 0, slots := 0, locals := 0 }) (hN : eN E = 2) (h : mb_X0_findFirst_54 F k12 x1 c_leasts c_mosts = some v) (hk12 : ∀ (y_x1 : Int) (y_c_firstSteps : Int) (y_c_firstSpeed : Int), k12 y_x1 y_c_firstSteps y_c_firstSpeed = some v → GG E 0 0 (W_X0_findFirst (eCy E) a_t a_t_leasts a_t_mosts g_t_0 g_t_3 g_t_4 g_t_5 g_t_6 g_t_7 g_t_10 g_t_11 g_t_12 g_t_13 g_t_14 g_t_15 y_c_firstSteps y_c_firstSpeed c_leasts c_mosts) [some (.ref a_t), some (.int (wI y_x1))] 12 []) (hret : ∀ (pc : Nat) (L : List (Option Value)), decode cX0_findFirst pc = .ok (.return_, 1) → GG E 0 0 (W_X0_findFirst (eCy E) a_t a_t_leasts a_t_mosts g_t_0 g_t_3 g_t_4 g_t_5 g_t_6 g_t_7 g_t_10 g_t_11 g_t_12 g_t_13 g_t_14 g_t_15 (v.1) (v.2) c_leasts c_mosts) L pc []) : GG E 0 0 (W_X0_findFirst (eCy E) a_t a_t_leasts a_t_mosts g_t_0 g_t_3 g_t_4 g_t_5 g_t_6 g_t_7 g_t_10 g_t_11 g_t_12 g_t_13 g_t_14 g_t_15 c_firstSteps c_firstSpeed c_leasts c_mosts) [some (.ref a_t), some (.int (wI x1))] 54 [] := by
  unfold mb_X0_findFirst_54 at h
  refine g_aload_n 0 C dX0_findFirst_54 rfl rfl ?_
  refine g_aload_n 0 C dX0_findFirst_55 rfl rfl ?_
  refine g_get C fg_X0_37 0 rfl rfl dX0_findFirst_56 ?_
  refine g_iload_n 1 C dX0_findFirst_59 rfl rfl ?_
  obtain ⟨hc1, h⟩ := chk_some h
  refine g_iald C 1 rfl hc1 rfl dX0_findFirst_60 ?_
  obtain ⟨y2, e_y2, h⟩ := nam_some h
  refine g_topI e_y2 ?_
  refine g_putI C fp_X0_15 0 rfl rfl (ws' := (W_X0_findFirst (eCy E) a_t a_t_leasts a_t_mosts g_t_0 g_t_3 g_t_4 g_t_5 g_t_6 g_t_7 g_t_10 g_t_11 g_t_12 g_t_13 g_t_14 g_t_15 y2 c_firstSpeed c_leasts c_mosts)) rfl dX0_findFirst_61 ?_
  refine g_aload_n 0 C dX0_findFirst_64 rfl rfl ?_
  refine g_iload_n 1 C dX0_findFirst_65 rfl rfl ?_
  refine g_putI C fp_X0_18 0 rfl rfl (ws' := (W_X0_findFirst (eCy E) a_t a_t_leasts a_t_mosts g_t_0 g_t_3 g_t_4 g_t_5 g_t_6 g_t_7 g_t_10 g_t_11 g_t_12 g_t_13 g_t_14 g_t_15 y2 x1 c_leasts c_mosts)) rfl dX0_findFirst_66 ?_
  exact wb_X0_findFirst_69 C hN h hk12 hret
set_option maxRecDepth 100000 in
set_option maxHeartbeats 4000000 in
theorem wb_X0_findFirst_12 {F : Nat} {k12 : Int → Int → Int → Option (Int × Int)} {v : Int × Int} {x1 : Int} {c_firstSteps : Int} {c_firstSpeed : Int} {c_leasts : Int → Int} {c_mosts : Int → Int} (C : Cx E cX0_findFirst RX0 { frames := 0, cells := 0, slots := 0, locals := 0 }) (hN : eN E = 2) (h : mb_X0_findFirst_12 F k12 x1 c_firstSteps c_firstSpeed c_leasts c_mosts = some v) (hk12 : ∀ (y_x1 : Int) (y_c_firstSteps : Int) (y_c_firstSpeed : Int), k12 y_x1 y_c_firstSteps y_c_firstSpeed = some v → GG E 0 0 (W_X0_findFirst (eCy E) a_t a_t_leasts a_t_mosts g_t_0 g_t_3 g_t_4 g_t_5 g_t_6 g_t_7 g_t_10 g_t_11 g_t_12 g_t_13 g_t_14 g_t_15 y_c_firstSteps y_c_firstSpeed c_leasts c_mosts) [some (.ref a_t), some (.int (wI y_x1))] 12 []) (hret : ∀ (pc : Nat) (L : List (Option Value)), decode cX0_findFirst pc = .ok (.return_, 1) → GG E 0 0 (W_X0_findFirst (eCy E) a_t a_t_leasts a_t_mosts g_t_0 g_t_3 g_t_4 g_t_5 g_t_6 g_t_7 g_t_10 g_t_11 g_t_12 g_t_13 g_t_14 g_t_15 (v.1) (v.2) c_leasts c_mosts) L pc []) : GG E 0 0 (W_X0_findFirst (eCy E) a_t a_t_leasts a_t_mosts g_t_0 g_t_3 g_t_4 g_t_5 g_t_6 g_t_7 g_t_10 g_t_11 g_t_12 g_t_13 g_t_14 g_t_15 c_firstSteps c_firstSpeed c_leasts c_mosts) [some (.ref a_t), some (.int (wI x1))] 12 [] := by
  unfold mb_X0_findFirst_12 at h
  refine g_iload_n 1 C dX0_findFirst_12 rfl rfl ?_
  refine g_bipush C dX0_findFirst_13 (by decide) ?_
  refine g_icmp_gt 75 C dX0_findFirst_15 (by decide) h (fun h => ?_) (fun h => ?_)
  · cases h
    exact hret 75 _ dX0_findFirst_75
  · refine g_aload_n 0 C dX0_findFirst_18 rfl rfl ?_
    refine g_get C fg_X0_37 0 rfl rfl dX0_findFirst_19 ?_
    refine g_iload_n 1 C dX0_findFirst_22 rfl rfl ?_
    obtain ⟨hc1, h⟩ := chk_some h
    refine g_iald C 1 rfl hc1 rfl dX0_findFirst_23 ?_
    refine g_aload_n 0 C dX0_findFirst_24 rfl rfl ?_
    refine g_get C fg_X0_40 0 rfl rfl dX0_findFirst_25 ?_
    refine g_iload_n 1 C dX0_findFirst_28 rfl rfl ?_
    obtain ⟨hc2, h⟩ := chk_some h
    refine g_iald C 2 rfl hc2 rfl dX0_findFirst_29 ?_
    refine g_icmp_gt 69 C dX0_findFirst_30 (by decide) h (fun h => ?_) (fun h => ?_)
    · exact wb_X0_findFirst_69 C hN h hk12 hret
    · refine g_aload_n 0 C dX0_findFirst_33 rfl rfl ?_
      refine g_get C fg_X0_15 0 rfl rfl dX0_findFirst_34 ?_
      refine g_st (st' := [.int (wI c_firstSteps)]) rfl ?_
      refine g_iconst C dX0_findFirst_37 ?_
      refine g_icmp_eq 54 C dX0_findFirst_38 (by decide) h (fun h => ?_) (fun h => ?_)
      · exact wb_X0_findFirst_54 C hN h hk12 hret
      · refine g_aload_n 0 C dX0_findFirst_41 rfl rfl ?_
        refine g_get C fg_X0_37 0 rfl rfl dX0_findFirst_42 ?_
        refine g_iload_n 1 C dX0_findFirst_45 rfl rfl ?_
        obtain ⟨hc3, h⟩ := chk_some h
        refine g_iald C 1 rfl hc3 rfl dX0_findFirst_46 ?_
        refine g_aload_n 0 C dX0_findFirst_47 rfl rfl ?_
        refine g_get C fg_X0_15 0 rfl rfl dX0_findFirst_48 ?_
        refine g_st (st' := [.int (wI c_firstSteps), .int (wI (c_leasts x1))]) rfl ?_
        refine g_icmp_ge 69 C dX0_findFirst_51 (by decide) h (fun h => ?_) (fun h => ?_)
        · exact wb_X0_findFirst_69 C hN h hk12 hret
        · exact wb_X0_findFirst_54 C hN h hk12 hret
set_option maxRecDepth 100000 in
set_option maxHeartbeats 4000000 in
theorem wl_X0_findFirst_12 {F : Nat} {v : Int × Int} {x1 : Int} {c_firstSteps : Int} {c_firstSpeed : Int} {c_leasts : Int → Int} {c_mosts : Int → Int} (C : Cx E cX0_findFirst RX0 { frames := 0, cells := 0, slots := 0, locals := 0 }) (hN : eN E = 2) (h : ml_X0_findFirst_12 F x1 c_firstSteps c_firstSpeed c_leasts c_mosts = some v) (hret : ∀ (pc : Nat) (L : List (Option Value)), decode cX0_findFirst pc = .ok (.return_, 1) → GG E 0 0 (W_X0_findFirst (eCy E) a_t a_t_leasts a_t_mosts g_t_0 g_t_3 g_t_4 g_t_5 g_t_6 g_t_7 g_t_10 g_t_11 g_t_12 g_t_13 g_t_14 g_t_15 (v.1) (v.2) c_leasts c_mosts) L pc []) : GG E 0 0 (W_X0_findFirst (eCy E) a_t a_t_leasts a_t_mosts g_t_0 g_t_3 g_t_4 g_t_5 g_t_6 g_t_7 g_t_10 g_t_11 g_t_12 g_t_13 g_t_14 g_t_15 c_firstSteps c_firstSpeed c_leasts c_mosts) [some (.ref a_t), some (.int (wI x1))] 12 [] := by
  unfold ml_X0_findFirst_12 at h
  exact loop_walk (g := fun (q : Int × Int × Int) => GG E 0 0 (W_X0_findFirst (eCy E) a_t a_t_leasts a_t_mosts g_t_0 g_t_3 g_t_4 g_t_5 g_t_6 g_t_7 g_t_10 g_t_11 g_t_12 g_t_13 g_t_14 g_t_15 (q.2.1) (q.2.2) c_leasts c_mosts) [some (.ref a_t), some (.int (wI (q.1)))] 12 []) (fun k hk q h => wb_X0_findFirst_12 C hN h (fun y0 y1 y2 hh => hk (y0, y1, y2) hh) hret) F (x1, c_firstSteps, c_firstSpeed) h
set_option maxRecDepth 100000 in
set_option maxHeartbeats 4000000 in
theorem wm_X0_findFirst {F : Nat} {v : Int × Int} {c_leasts : Int → Int} {c_mosts : Int → Int} {c_firstSteps : Int} {c_firstSpeed : Int} (C : Cx E cX0_findFirst RX0 { frames := 0, cells := 0, slots := 0, locals := 0 }) (hN : eN E = 2) (h : m_X0_findFirst F c_leasts c_mosts = some v) (hret : ∀ (pc : Nat) (L : List (Option Value)), decode cX0_findFirst pc = .ok (.return_, 1) → GG E 0 0 (W_X0_findFirst (eCy E) a_t a_t_leasts a_t_mosts g_t_0 g_t_3 g_t_4 g_t_5 g_t_6 g_t_7 g_t_10 g_t_11 g_t_12 g_t_13 g_t_14 g_t_15 (v.1) (v.2) c_leasts c_mosts) L pc []) : GG E 0 0 (W_X0_findFirst (eCy E) a_t a_t_leasts a_t_mosts g_t_0 g_t_3 g_t_4 g_t_5 g_t_6 g_t_7 g_t_10 g_t_11 g_t_12 g_t_13 g_t_14 g_t_15 c_firstSteps c_firstSpeed c_leasts c_mosts) [some (.ref a_t), none] 0 [] := by
  unfold m_X0_findFirst at h
  refine g_aload_n 0 C dX0_findFirst_0 rfl rfl ?_
  refine g_iconst C dX0_findFirst_1 ?_
  refine g_putI C fp_X0_15 0 rfl rfl (ws' := (W_X0_findFirst (eCy E) a_t a_t_leasts a_t_mosts g_t_0 g_t_3 g_t_4 g_t_5 g_t_6 g_t_7 g_t_10 g_t_11 g_t_12 g_t_13 g_t_14 g_t_15 (-1) c_firstSpeed c_leasts c_mosts)) rfl dX0_findFirst_2 ?_
  refine g_aload_n 0 C dX0_findFirst_5 rfl rfl ?_
  refine g_iconst C dX0_findFirst_6 ?_
  refine g_putI C fp_X0_18 0 rfl rfl (ws' := (W_X0_findFirst (eCy E) a_t a_t_leasts a_t_mosts g_t_0 g_t_3 g_t_4 g_t_5 g_t_6 g_t_7 g_t_10 g_t_11 g_t_12 g_t_13 g_t_14 g_t_15 (-1) (-1) c_leasts c_mosts)) rfl dX0_findFirst_7 ?_
  refine g_iconst C dX0_findFirst_10 ?_
  refine g_istore_n 1 C hN dX0_findFirst_11 rfl rfl (L' := [some (.ref a_t), some (.int (wI 0))]) rfl ?_
  exact wl_X0_findFirst_12 C hN h hret
end S_X0_findFirst
set_option maxRecDepth 100000 in
set_option maxHeartbeats 4000000 in
theorem c_X0_findFirst (l : Launch) (D : va_G) (cy : Nat → ClassId) (ad : AD) (a_t a_t_leasts a_t_mosts : Nat) (g_t_0 : Value) (g_t_3 : Value) (g_t_4 : Value) (g_t_5 : Value) (g_t_6 : Value) (g_t_7 : Value) (g_t_10 : Value) (g_t_11 : Value) (g_t_12 : Value) (g_t_13 : Value) (g_t_14 : Value) (g_t_15 : Value) (c_firstSteps : Int) (c_firstSpeed : Int) (c_leasts : Int → Int) (c_mosts : Int → Int) (F : Nat) {v : Int × Int} (h : m_X0_findFirst F c_leasts c_mosts = some v) : Ct l yX0_findFirst cX0_findFirst 2 none { frames := 0, cells := 0, slots := 0, locals := 0 } D cy ad [.ref a_t] (W_X0_findFirst cy a_t a_t_leasts a_t_mosts g_t_0 g_t_3 g_t_4 g_t_5 g_t_6 g_t_7 g_t_10 g_t_11 g_t_12 g_t_13 g_t_14 g_t_15 c_firstSteps c_firstSpeed c_leasts c_mosts) (W_X0_findFirst cy a_t a_t_leasts a_t_mosts g_t_0 g_t_3 g_t_4 g_t_5 g_t_6 g_t_7 g_t_10 g_t_11 g_t_12 g_t_13 g_t_14 g_t_15 (v.1) (v.2) c_leasts c_mosts) none := by
  refine Ct.introV (j := 1) (plainFor_of_name (by decide)) rfl rfl (fun E C e1 e2 e3 e4 e5 hret => ?_)
  subst e1; subst e2; subst e3; subst e4
  exact wm_X0_findFirst C e5 h hret
-- MovingStair$Counts.unlikeSteps()I
def W_X0_unlikeSteps (cy : Nat → ClassId) (a_t a_t_leasts a_t_mosts a_t_tally : Nat) (g_t_0 : Value) (g_t_1 : Value) (g_t_2 : Value) (g_t_3 : Value) (g_t_4 : Value) (g_t_5 : Value) (g_t_6 : Value) (g_t_7 : Value) (g_t_10 : Value) (g_t_11 : Value) (g_t_13 : Value) (g_t_14 : Value) (g_t_15 : Value) (c_leasts : Int → Int) (c_mosts : Int → Int) (c_tally : Int → Int) : va_W := [(a_t, .inr (0, [g_t_0, g_t_1, g_t_2, g_t_3, g_t_4, g_t_5, g_t_6, g_t_7, .ref a_t_leasts, .ref a_t_mosts, g_t_10, g_t_11, .ref a_t_tally, g_t_13, g_t_14, g_t_15])), (a_t_leasts, .inl (cy 1, 31, .inl (aI c_leasts))), (a_t_mosts, .inl (cy 1, 31, .inl (aI c_mosts))), (a_t_tally, .inl (cy 1, 201, .inl (aI c_tally)))]
def mb_X0_unlikeSteps_50 (F : Nat) (k12 : Int → Int → (Int → Int) → Option (Int × (Int → Int))) (k25 : Int → Int → (Int → Int) → Option (Int × (Int → Int))) (x2 : Int) (x3 : Int) (s0 : Int) (s1 : Int) (c_leasts : Int → Int) (c_mosts : Int → Int) (c_tally : Int → Int) : Option (Int × (Int → Int)) :=
  nam (s0 + s1) fun y1 => chk (0 ≤ x3 ∧ x3 < 201) <| k25 y1 (x3 + 1) (up c_tally x3 1)
def mb_X0_unlikeSteps_25 (F : Nat) (k12 : Int → Int → (Int → Int) → Option (Int × (Int → Int))) (k25 : Int → Int → (Int → Int) → Option (Int × (Int → Int))) (x1 : Int) (x2 : Int) (x3 : Int) (c_leasts : Int → Int) (c_mosts : Int → Int) (c_tally : Int → Int) : Option (Int × (Int → Int)) :=
  chk (0 ≤ x2 ∧ x2 < 31) <| if wI (c_mosts x2) < wI x3 then
    (k12 x1 (x2 + 1) c_tally)
  else
    (chk (0 ≤ x3 ∧ x3 < 201) <| if wI (c_tally x3) = wI 0 then
    (mb_X0_unlikeSteps_50 F k12 k25 x2 x3 x1 1 c_leasts c_mosts c_tally)
  else
    (mb_X0_unlikeSteps_50 F k12 k25 x2 x3 x1 0 c_leasts c_mosts c_tally))
def ml_X0_unlikeSteps_25 (F : Nat) (k12 : Int → Int → (Int → Int) → Option (Int × (Int → Int))) (x1 : Int) (x2 : Int) (x3 : Int) (c_leasts : Int → Int) (c_mosts : Int → Int) (c_tally : Int → Int) : Option (Int × (Int → Int)) :=
  loopN (fun (k : Int × Int × (Int → Int) → Option (Int × (Int → Int))) q => mb_X0_unlikeSteps_25 F k12 (fun y0 y1 y2 => k (y0, y1, y2)) q.1 x2 q.2.1 c_leasts c_mosts q.2.2) F (x1, x3, c_tally)
def mb_X0_unlikeSteps_12 (F : Nat) (k12 : Int → Int → (Int → Int) → Option (Int × (Int → Int))) (x1 : Int) (x2 : Int) (c_leasts : Int → Int) (c_mosts : Int → Int) (c_tally : Int → Int) : Option (Int × (Int → Int)) :=
  if wI 30 < wI x2 then
    (some (x1, c_tally))
  else
    (chk (0 ≤ x2 ∧ x2 < 31) <| nam (c_leasts x2) fun y2 => ml_X0_unlikeSteps_25 F k12 x1 x2 y2 c_leasts c_mosts c_tally)
def ml_X0_unlikeSteps_12 (F : Nat) (x1 : Int) (x2 : Int) (c_leasts : Int → Int) (c_mosts : Int → Int) (c_tally : Int → Int) : Option (Int × (Int → Int)) :=
  loopN (fun (k : Int × Int × (Int → Int) → Option (Int × (Int → Int))) q => mb_X0_unlikeSteps_12 F (fun y0 y1 y2 => k (y0, y1, y2)) q.1 q.2.1 c_leasts c_mosts q.2.2) F (x1, x2, c_tally)
def m_X0_unlikeSteps (F : Nat) (c_leasts : Int → Int) (c_mosts : Int → Int) (c_tally : Int → Int) : Option (Int × (Int → Int)) :=
  bnd1 (m_J7_fill_53178 F 201 0 c_tally) fun o1 => ml_X0_unlikeSteps_12 F 0 0 c_leasts c_mosts o1
section S_X0_unlikeSteps
variable {E : EE} {a_t a_t_leasts a_t_mosts a_t_tally : Nat} {g_t_0 : Value} {g_t_1 : Value} {g_t_2 : Value} {g_t_3 : Value} {g_t_4 : Value} {g_t_5 : Value} {g_t_6 : Value} {g_t_7 : Value} {g_t_10 : Value} {g_t_11 : Value} {g_t_13 : Value} {g_t_14 : Value} {g_t_15 : Value}
set_option maxRecDepth 100000 in
set_option maxHeartbeats 4000000 in
theorem wb_X0_unlikeSteps_50 {F : Nat} {k12 : Int → Int → (Int → Int) → Option (Int × (Int → Int))} {k25 : Int → Int → (Int → Int) → Option (Int × (Int → Int))} {v : Int × (Int → Int)} {x2 : Int} {x3 : Int} {s0 : Int} {s1 : Int} {c_leasts : Int → Int} {c_mosts : Int → Int} {c_tally : Int → Int} (C : Cx E cX0_unlikeSteps RX0 { frames := 1, cells := 0, slots := 0, locals := 23 }) (hN : eN E = 4) (h : mb_X0_unlikeSteps_50 F k12 k25 x2 x3 s0 s1 c_leasts c_mosts c_tally = some v) (hk12 : ∀ (y_x1 : Int) (y_x2 : Int) (y_c_tally : Int → Int), k12 y_x1 y_x2 y_c_tally = some v → GG E 0 0 (W_X0_unlikeSteps (eCy E) a_t a_t_leasts a_t_mosts a_t_tally g_t_0 g_t_1 g_t_2 g_t_3 g_t_4 g_t_5 g_t_6 g_t_7 g_t_10 g_t_11 g_t_13 g_t_14 g_t_15 c_leasts c_mosts y_c_tally) [some (.ref a_t), some (.int (wI y_x1)), some (.int (wI y_x2)), none] 12 []) (hk25 : ∀ (y_x1 : Int) (y_x3 : Int) (y_c_tally : Int → Int), k25 y_x1 y_x3 y_c_tally = some v → GG E 0 0 (W_X0_unlikeSteps (eCy E) a_t a_t_leasts a_t_mosts a_t_tally g_t_0 g_t_1 g_t_2 g_t_3 g_t_4 g_t_5 g_t_6 g_t_7 g_t_10 g_t_11 g_t_13 g_t_14 g_t_15 c_leasts c_mosts y_c_tally) [some (.ref a_t), some (.int (wI y_x1)), some (.int (wI x2)), some (.int (wI y_x3))] 25 []) (hret : ∀ (pc : Nat) (L : List (Option Value)), decode cX0_unlikeSteps pc = .ok (.ireturn, 1) → GG E 0 0 (W_X0_unlikeSteps (eCy E) a_t a_t_leasts a_t_mosts a_t_tally g_t_0 g_t_1 g_t_2 g_t_3 g_t_4 g_t_5 g_t_6 g_t_7 g_t_10 g_t_11 g_t_13 g_t_14 g_t_15 c_leasts c_mosts (v.2)) L pc [.int (wI (v.1))]) : GG E 0 0 (W_X0_unlikeSteps (eCy E) a_t a_t_leasts a_t_mosts a_t_tally g_t_0 g_t_1 g_t_2 g_t_3 g_t_4 g_t_5 g_t_6 g_t_7 g_t_10 g_t_11 g_t_13 g_t_14 g_t_15 c_leasts c_mosts c_tally) [some (.ref a_t), none, some (.int (wI x2)), some (.int (wI x3))] 50 [.int (wI s1), .int (wI s0)] := by
  unfold mb_X0_unlikeSteps_50 at h
  refine g_iadd C dX0_unlikeSteps_50 ?_
  obtain ⟨y1, e_y1, h⟩ := nam_some h
  refine g_topI e_y1 ?_
  refine g_istore_n 1 C hN dX0_unlikeSteps_51 rfl rfl (L' := [some (.ref a_t), some (.int (wI y1)), some (.int (wI x2)), some (.int (wI x3))]) rfl ?_
  refine g_aload_n 0 C dX0_unlikeSteps_52 rfl rfl ?_
  refine g_get C fg_X0_49 0 rfl rfl dX0_unlikeSteps_53 ?_
  refine g_iload_n 3 C dX0_unlikeSteps_56 rfl rfl ?_
  refine g_iconst C dX0_unlikeSteps_57 ?_
  obtain ⟨hc2, h⟩ := chk_some h
  refine g_iast C 3 rfl hc2 rfl (ws' := (W_X0_unlikeSteps (eCy E) a_t a_t_leasts a_t_mosts a_t_tally g_t_0 g_t_1 g_t_2 g_t_3 g_t_4 g_t_5 g_t_6 g_t_7 g_t_10 g_t_11 g_t_13 g_t_14 g_t_15 c_leasts c_mosts (up c_tally x3 1))) rfl dX0_unlikeSteps_58 ?_
  refine g_iinc C hN dX0_unlikeSteps_59 rfl rfl (L' := [some (.ref a_t), some (.int (wI y1)), some (.int (wI x2)), some (.int (wI (x3 + 1)))]) rfl ?_
  refine g_goto (tgt := 25) C dX0_unlikeSteps_62 (by decide) ?_
  exact hk25 _ _ _ h
set_option maxRecDepth 100000 in
set_option maxHeartbeats 4000000 in
theorem wb_X0_unlikeSteps_25 {F : Nat} {k12 : Int → Int → (Int → Int) → Option (Int × (Int → Int))} {k25 : Int → Int → (Int → Int) → Option (Int × (Int → Int))} {v : Int × (Int → Int)} {x1 : Int} {x2 : Int} {x3 : Int} {c_leasts : Int → Int} {c_mosts : Int → Int} {c_tally : Int → Int} (C : Cx E cX0_unlikeSteps RX0 { frames := 1, cells := 0, slots := 0, locals := 23 }) (hN : eN E = 4) (h : mb_X0_unlikeSteps_25 F k12 k25 x1 x2 x3 c_leasts c_mosts c_tally = some v) (hk12 : ∀ (y_x1 : Int) (y_x2 : Int) (y_c_tally : Int → Int), k12 y_x1 y_x2 y_c_tally = some v → GG E 0 0 (W_X0_unlikeSteps (eCy E) a_t a_t_leasts a_t_mosts a_t_tally g_t_0 g_t_1 g_t_2 g_t_3 g_t_4 g_t_5 g_t_6 g_t_7 g_t_10 g_t_11 g_t_13 g_t_14 g_t_15 c_leasts c_mosts y_c_tally) [some (.ref a_t), some (.int (wI y_x1)), some (.int (wI y_x2)), none] 12 []) (hk25 : ∀ (y_x1 : Int) (y_x3 : Int) (y_c_tally : Int → Int), k25 y_x1 y_x3 y_c_tally = some v → GG E 0 0 (W_X0_unlikeSteps (eCy E) a_t a_t_leasts a_t_mosts a_t_tally g_t_0 g_t_1 g_t_2 g_t_3 g_t_4 g_t_5 g_t_6 g_t_7 g_t_10 g_t_11 g_t_13 g_t_14 g_t_15 c_leasts c_mosts y_c_tally) [some (.ref a_t), some (.int (wI y_x1)), some (.int (wI x2)), some (.int (wI y_x3))] 25 []) (hret : ∀ (pc : Nat) (L : List (Option Value)), decode cX0_unlikeSteps pc = .ok (.ireturn, 1) → GG E 0 0 (W_X0_unlikeSteps (eCy E) a_t a_t_leasts a_t_mosts a_t_tally g_t_0 g_t_1 g_t_2 g_t_3 g_t_4 g_t_5 g_t_6 g_t_7 g_t_10 g_t_11 g_t_13 g_t_14 g_t_15 c_leasts c_mosts (v.2)) L pc [.int (wI (v.1))]) : GG E 0 0 (W_X0_unlikeSteps (eCy E) a_t a_t_leasts a_t_mosts a_t_tally g_t_0 g_t_1 g_t_2 g_t_3 g_t_4 g_t_5 g_t_6 g_t_7 g_t_10 g_t_11 g_t_13 g_t_14 g_t_15 c_leasts c_mosts c_tally) [some (.ref a_t), some (.int (wI x1)), some (.int (wI x2)), some (.int (wI x3))] 25 [] := by
  unfold mb_X0_unlikeSteps_25 at h
  refine g_iload_n 3 C dX0_unlikeSteps_25 rfl rfl ?_
  refine g_aload_n 0 C dX0_unlikeSteps_26 rfl rfl ?_
  refine g_get C fg_X0_40 0 rfl rfl dX0_unlikeSteps_27 ?_
  refine g_iload_n 2 C dX0_unlikeSteps_30 rfl rfl ?_
  obtain ⟨hc1, h⟩ := chk_some h
  refine g_iald C 2 rfl hc1 rfl dX0_unlikeSteps_31 ?_
  refine g_icmp_gt 65 C dX0_unlikeSteps_32 (by decide) h (fun h => ?_) (fun h => ?_)
  · refine g_iinc C hN dX0_unlikeSteps_65 rfl rfl (L' := [some (.ref a_t), some (.int (wI x1)), some (.int (wI (x2 + 1))), some (.int (wI x3))]) rfl ?_
    refine g_goto (tgt := 12) C dX0_unlikeSteps_68 (by decide) ?_
    refine g_mask [true, true, true, false] (L' := [some (.ref a_t), some (.int (wI x1)), some (.int (wI (x2 + 1))), none]) rfl ?_
    exact hk12 _ _ _ h
  · refine g_iload_n 1 C dX0_unlikeSteps_35 rfl rfl ?_
    refine g_aload_n 0 C dX0_unlikeSteps_36 rfl rfl ?_
    refine g_get C fg_X0_49 0 rfl rfl dX0_unlikeSteps_37 ?_
    refine g_iload_n 3 C dX0_unlikeSteps_40 rfl rfl ?_
    obtain ⟨hc2, h⟩ := chk_some h
    refine g_iald C 3 rfl hc2 rfl dX0_unlikeSteps_41 ?_
    refine g_if_ne 49 C dX0_unlikeSteps_42 (by decide) h (fun h => ?_) (fun h => ?_)
    · refine g_iconst C dX0_unlikeSteps_49 ?_
      refine g_mask [true, false, true, true] (L' := [some (.ref a_t), none, some (.int (wI x2)), some (.int (wI x3))]) rfl ?_
      exact wb_X0_unlikeSteps_50 C hN h hk12 hk25 hret
    · refine g_iconst C dX0_unlikeSteps_45 ?_
      refine g_goto (tgt := 50) C dX0_unlikeSteps_46 (by decide) ?_
      refine g_mask [true, false, true, true] (L' := [some (.ref a_t), none, some (.int (wI x2)), some (.int (wI x3))]) rfl ?_
      exact wb_X0_unlikeSteps_50 C hN h hk12 hk25 hret
set_option maxRecDepth 100000 in
set_option maxHeartbeats 4000000 in
theorem wl_X0_unlikeSteps_25 {F : Nat} {k12 : Int → Int → (Int → Int) → Option (Int × (Int → Int))} {v : Int × (Int → Int)} {x1 : Int} {x2 : Int} {x3 : Int} {c_leasts : Int → Int} {c_mosts : Int → Int} {c_tally : Int → Int} (C : Cx E cX0_unlikeSteps RX0 { frames := 1, cells := 0, slots := 0, locals := 23 }) (hN : eN E = 4) (h : ml_X0_unlikeSteps_25 F k12 x1 x2 x3 c_leasts c_mosts c_tally = some v) (hk12 : ∀ (y_x1 : Int) (y_x2 : Int) (y_c_tally : Int → Int), k12 y_x1 y_x2 y_c_tally = some v → GG E 0 0 (W_X0_unlikeSteps (eCy E) a_t a_t_leasts a_t_mosts a_t_tally g_t_0 g_t_1 g_t_2 g_t_3 g_t_4 g_t_5 g_t_6 g_t_7 g_t_10 g_t_11 g_t_13 g_t_14 g_t_15 c_leasts c_mosts y_c_tally) [some (.ref a_t), some (.int (wI y_x1)), some (.int (wI y_x2)), none] 12 []) (hret : ∀ (pc : Nat) (L : List (Option Value)), decode cX0_unlikeSteps pc = .ok (.ireturn, 1) → GG E 0 0 (W_X0_unlikeSteps (eCy E) a_t a_t_leasts a_t_mosts a_t_tally g_t_0 g_t_1 g_t_2 g_t_3 g_t_4 g_t_5 g_t_6 g_t_7 g_t_10 g_t_11 g_t_13 g_t_14 g_t_15 c_leasts c_mosts (v.2)) L pc [.int (wI (v.1))]) : GG E 0 0 (W_X0_unlikeSteps (eCy E) a_t a_t_leasts a_t_mosts a_t_tally g_t_0 g_t_1 g_t_2 g_t_3 g_t_4 g_t_5 g_t_6 g_t_7 g_t_10 g_t_11 g_t_13 g_t_14 g_t_15 c_leasts c_mosts c_tally) [some (.ref a_t), some (.int (wI x1)), some (.int (wI x2)), some (.int (wI x3))] 25 [] := by
  unfold ml_X0_unlikeSteps_25 at h
  exact loop_walk (g := fun (q : Int × Int × (Int → Int)) => GG E 0 0 (W_X0_unlikeSteps (eCy E) a_t a_t_leasts a_t_mosts a_t_tally g_t_0 g_t_1 g_t_2 g_t_3 g_t_4 g_t_5 g_t_6 g_t_7 g_t_10 g_t_11 g_t_13 g_t_14 g_t_15 c_leasts c_mosts (q.2.2)) [some (.ref a_t), some (.int (wI (q.1))), some (.int (wI x2)), some (.int (wI (q.2.1)))] 25 []) (fun k hk q h => wb_X0_unlikeSteps_25 C hN h hk12 (fun y0 y1 y2 hh => hk (y0, y1, y2) hh) hret) F (x1, x3, c_tally) h
set_option maxRecDepth 100000 in
set_option maxHeartbeats 4000000 in
theorem wb_X0_unlikeSteps_12 {F : Nat} {k12 : Int → Int → (Int → Int) → Option (Int × (Int → Int))} {v : Int × (Int → Int)} {x1 : Int} {x2 : Int} {c_leasts : Int → Int} {c_mosts : Int → Int} {c_tally : Int → Int} (C : Cx E cX0_unlikeSteps RX0 { frames := 1, cells := 0, slots := 0, locals := 23 }) (hN : eN E = 4) (h : mb_X0_unlikeSteps_12 F k12 x1 x2 c_leasts c_mosts c_tally = some v) (hk12 : ∀ (y_x1 : Int) (y_x2 : Int) (y_c_tally : Int → Int), k12 y_x1 y_x2 y_c_tally = some v → GG E 0 0 (W_X0_unlikeSteps (eCy E) a_t a_t_leasts a_t_mosts a_t_tally g_t_0 g_t_1 g_t_2 g_t_3 g_t_4 g_t_5 g_t_6 g_t_7 g_t_10 g_t_11 g_t_13 g_t_14 g_t_15 c_leasts c_mosts y_c_tally) [some (.ref a_t), some (.int (wI y_x1)), some (.int (wI y_x2)), none] 12 []) (hret : ∀ (pc : Nat) (L : List (Option Value)), decode cX0_unlikeSteps pc = .ok (.ireturn, 1) → GG E 0 0 (W_X0_unlikeSteps (eCy E) a_t a_t_leasts a_t_mosts a_t_tally g_t_0 g_t_1 g_t_2 g_t_3 g_t_4 g_t_5 g_t_6 g_t_7 g_t_10 g_t_11 g_t_13 g_t_14 g_t_15 c_leasts c_mosts (v.2)) L pc [.int (wI (v.1))]) : GG E 0 0 (W_X0_unlikeSteps (eCy E) a_t a_t_leasts a_t_mosts a_t_tally g_t_0 g_t_1 g_t_2 g_t_3 g_t_4 g_t_5 g_t_6 g_t_7 g_t_10 g_t_11 g_t_13 g_t_14 g_t_15 c_leasts c_mosts c_tally) [some (.ref a_t), some (.int (wI x1)), some (.int (wI x2)), none] 12 [] := by
  unfold mb_X0_unlikeSteps_12 at h
  refine g_iload_n 2 C dX0_unlikeSteps_12 rfl rfl ?_
  refine g_bipush C dX0_unlikeSteps_13 (by decide) ?_
  refine g_icmp_gt 71 C dX0_unlikeSteps_15 (by decide) h (fun h => ?_) (fun h => ?_)
  · refine g_iload_n 1 C dX0_unlikeSteps_71 rfl rfl ?_
    cases h
    exact hret 72 _ dX0_unlikeSteps_72
  · refine g_aload_n 0 C dX0_unlikeSteps_18 rfl rfl ?_
    refine g_get C fg_X0_37 0 rfl rfl dX0_unlikeSteps_19 ?_
    refine g_iload_n 2 C dX0_unlikeSteps_22 rfl rfl ?_
    obtain ⟨hc1, h⟩ := chk_some h
    refine g_iald C 1 rfl hc1 rfl dX0_unlikeSteps_23 ?_
    obtain ⟨y2, e_y2, h⟩ := nam_some h
    refine g_topI e_y2 ?_
    refine g_istore_n 3 C hN dX0_unlikeSteps_24 rfl rfl (L' := [some (.ref a_t), some (.int (wI x1)), some (.int (wI x2)), some (.int (wI y2))]) rfl ?_
    exact wl_X0_unlikeSteps_25 C hN h hk12 hret
set_option maxRecDepth 100000 in
set_option maxHeartbeats 4000000 in
theorem wl_X0_unlikeSteps_12 {F : Nat} {v : Int × (Int → Int)} {x1 : Int} {x2 : Int} {c_leasts : Int → Int} {c_mosts : Int → Int} {c_tally : Int → Int} (C : Cx E cX0_unlikeSteps RX0 { frames := 1, cells := 0, slots := 0, locals := 23 }) (hN : eN E = 4) (h : ml_X0_unlikeSteps_12 F x1 x2 c_leasts c_mosts c_tally = some v) (hret : ∀ (pc : Nat) (L : List (Option Value)), decode cX0_unlikeSteps pc = .ok (.ireturn, 1) → GG E 0 0 (W_X0_unlikeSteps (eCy E) a_t a_t_leasts a_t_mosts a_t_tally g_t_0 g_t_1 g_t_2 g_t_3 g_t_4 g_t_5 g_t_6 g_t_7 g_t_10 g_t_11 g_t_13 g_t_14 g_t_15 c_leasts c_mosts (v.2)) L pc [.int (wI (v.1))]) : GG E 0 0 (W_X0_unlikeSteps (eCy E) a_t a_t_leasts a_t_mosts a_t_tally g_t_0 g_t_1 g_t_2 g_t_3 g_t_4 g_t_5 g_t_6 g_t_7 g_t_10 g_t_11 g_t_13 g_t_14 g_t_15 c_leasts c_mosts c_tally) [some (.ref a_t), some (.int (wI x1)), some (.int (wI x2)), none] 12 [] := by
  unfold ml_X0_unlikeSteps_12 at h
  exact loop_walk (g := fun (q : Int × Int × (Int → Int)) => GG E 0 0 (W_X0_unlikeSteps (eCy E) a_t a_t_leasts a_t_mosts a_t_tally g_t_0 g_t_1 g_t_2 g_t_3 g_t_4 g_t_5 g_t_6 g_t_7 g_t_10 g_t_11 g_t_13 g_t_14 g_t_15 c_leasts c_mosts (q.2.2)) [some (.ref a_t), some (.int (wI (q.1))), some (.int (wI (q.2.1))), none] 12 []) (fun k hk q h => wb_X0_unlikeSteps_12 C hN h (fun y0 y1 y2 hh => hk (y0, y1, y2) hh) hret) F (x1, x2, c_tally) h
set_option maxRecDepth 100000 in
set_option maxHeartbeats 4000000 in
theorem wm_X0_unlikeSteps {F : Nat} {v : Int × (Int → Int)} {c_leasts : Int → Int} {c_mosts : Int → Int} {c_tally : Int → Int} (C : Cx E cX0_unlikeSteps RX0 { frames := 1, cells := 0, slots := 0, locals := 23 }) (hN : eN E = 4) (h : m_X0_unlikeSteps F c_leasts c_mosts c_tally = some v) (hret : ∀ (pc : Nat) (L : List (Option Value)), decode cX0_unlikeSteps pc = .ok (.ireturn, 1) → GG E 0 0 (W_X0_unlikeSteps (eCy E) a_t a_t_leasts a_t_mosts a_t_tally g_t_0 g_t_1 g_t_2 g_t_3 g_t_4 g_t_5 g_t_6 g_t_7 g_t_10 g_t_11 g_t_13 g_t_14 g_t_15 c_leasts c_mosts (v.2)) L pc [.int (wI (v.1))]) : GG E 0 0 (W_X0_unlikeSteps (eCy E) a_t a_t_leasts a_t_mosts a_t_tally g_t_0 g_t_1 g_t_2 g_t_3 g_t_4 g_t_5 g_t_6 g_t_7 g_t_10 g_t_11 g_t_13 g_t_14 g_t_15 c_leasts c_mosts c_tally) [some (.ref a_t), none, none, none] 0 [] := by
  unfold m_X0_unlikeSteps at h
  refine g_aload_n 0 C dX0_unlikeSteps_0 rfl rfl ?_
  refine g_get C fg_X0_49 0 rfl rfl dX0_unlikeSteps_1 ?_
  refine g_iconst C dX0_unlikeSteps_4 ?_
  obtain ⟨o1, hr2, h⟩ := bnd1_some h
  refine g_callSV [3] [0, 1, 2] [0, 1, 2, 3] C mt_X0_94 (c_J7_fill_53178 _ _ _ _ a_t_tally 201 0 c_tally F hr2 rfl) rfl rfl (ws2 := (W_X0_unlikeSteps (eCy E) a_t a_t_leasts a_t_mosts a_t_tally g_t_0 g_t_1 g_t_2 g_t_3 g_t_4 g_t_5 g_t_6 g_t_7 g_t_10 g_t_11 g_t_13 g_t_14 g_t_15 c_leasts c_mosts o1)) rfl rfl rfl (rest := []) rfl rfl rfl dX0_unlikeSteps_5 ?_
  refine g_iconst C dX0_unlikeSteps_8 ?_
  refine g_istore_n 1 C hN dX0_unlikeSteps_9 rfl rfl (L' := [some (.ref a_t), some (.int (wI 0)), none, none]) rfl ?_
  refine g_iconst C dX0_unlikeSteps_10 ?_
  refine g_istore_n 2 C hN dX0_unlikeSteps_11 rfl rfl (L' := [some (.ref a_t), some (.int (wI 0)), some (.int (wI 0)), none]) rfl ?_
  exact wl_X0_unlikeSteps_12 C hN h hret
end S_X0_unlikeSteps
set_option maxRecDepth 100000 in
set_option maxHeartbeats 4000000 in
theorem c_X0_unlikeSteps (l : Launch) (D : va_G) (cy : Nat → ClassId) (ad : AD) (a_t a_t_leasts a_t_mosts a_t_tally : Nat) (g_t_0 : Value) (g_t_1 : Value) (g_t_2 : Value) (g_t_3 : Value) (g_t_4 : Value) (g_t_5 : Value) (g_t_6 : Value) (g_t_7 : Value) (g_t_10 : Value) (g_t_11 : Value) (g_t_13 : Value) (g_t_14 : Value) (g_t_15 : Value) (c_leasts : Int → Int) (c_mosts : Int → Int) (c_tally : Int → Int) (F : Nat) {v : Int × (Int → Int)} (h : m_X0_unlikeSteps F c_leasts c_mosts c_tally = some v) : Ct l yX0_unlikeSteps cX0_unlikeSteps 4 (some .int) { frames := 1, cells := 0, slots := 0, locals := 23 } D cy ad [.ref a_t] (W_X0_unlikeSteps cy a_t a_t_leasts a_t_mosts a_t_tally g_t_0 g_t_1 g_t_2 g_t_3 g_t_4 g_t_5 g_t_6 g_t_7 g_t_10 g_t_11 g_t_13 g_t_14 g_t_15 c_leasts c_mosts c_tally) (W_X0_unlikeSteps cy a_t a_t_leasts a_t_mosts a_t_tally g_t_0 g_t_1 g_t_2 g_t_3 g_t_4 g_t_5 g_t_6 g_t_7 g_t_10 g_t_11 g_t_13 g_t_14 g_t_15 c_leasts c_mosts (v.2)) (some (.int (wI (v.1)))) := by
  refine Ct.introI (j := 3) (plainFor_of_name (by decide)) rfl rfl (fun E C e1 e2 e3 e4 e5 hret => ?_)
  subst e1; subst e2; subst e3; subst e4
  exact wm_X0_unlikeSteps C e5 h hret
-- MovingStair$Counts.unlikeSpeeds()I
def W_X0_unlikeSpeeds (cy : Nat → ClassId) (a_t a_t_leasts a_t_mosts : Nat) (g_t_0 : Value) (g_t_1 : Value) (g_t_2 : Value) (g_t_3 : Value) (g_t_4 : Value) (g_t_5 : Value) (g_t_6 : Value) (g_t_7 : Value) (g_t_10 : Value) (g_t_11 : Value) (g_t_12 : Value) (g_t_13 : Value) (g_t_14 : Value) (g_t_15 : Value) (c_leasts : Int → Int) (c_mosts : Int → Int) : va_W := [(a_t, .inr (0, [g_t_0, g_t_1, g_t_2, g_t_3, g_t_4, g_t_5, g_t_6, g_t_7, .ref a_t_leasts, .ref a_t_mosts, g_t_10, g_t_11, g_t_12, g_t_13, g_t_14, g_t_15])), (a_t_leasts, .inl (cy 1, 31, .inl (aI c_leasts))), (a_t_mosts, .inl (cy 1, 31, .inl (aI c_mosts)))]
def mb_X0_unlikeSpeeds_31 (F : Nat) (k4 : Int → Int → Option (Int)) (x2 : Int) (s0 : Int) (s1 : Int) (c_leasts : Int → Int) (c_mosts : Int → Int) : Option (Int) :=
  nam (s0 + s1) fun y1 => k4 y1 (x2 + 1)
def mb_X0_unlikeSpeeds_4 (F : Nat) (k4 : Int → Int → Option (Int)) (x1 : Int) (x2 : Int) (c_leasts : Int → Int) (c_mosts : Int → Int) : Option (Int) :=
  if wI 30 < wI x2 then
    (some x1)
  else
    (chk (0 ≤ x2 ∧ x2 < 31) <| chk (0 ≤ x2 ∧ x2 < 31) <| if wI (c_mosts x2) < wI (c_leasts x2) then
    (mb_X0_unlikeSpeeds_31 F k4 x2 x1 0 c_leasts c_mosts)
  else
    (mb_X0_unlikeSpeeds_31 F k4 x2 x1 1 c_leasts c_mosts))
def ml_X0_unlikeSpeeds_4 (F : Nat) (x1 : Int) (x2 : Int) (c_leasts : Int → Int) (c_mosts : Int → Int) : Option (Int) :=
  loopN (fun (k : Int × Int → Option (Int)) q => mb_X0_unlikeSpeeds_4 F (fun y0 y1 => k (y0, y1)) q.1 q.2 c_leasts c_mosts) F (x1, x2)
def m_X0_unlikeSpeeds (F : Nat) (c_leasts : Int → Int) (c_mosts : Int → Int) : Option (Int) :=
  ml_X0_unlikeSpeeds_4 F 0 0 c_leasts c_mosts
section S_X0_unlikeSpeeds
variable {E : EE} {a_t a_t_leasts a_t_mosts : Nat} {g_t_0 : Value} {g_t_1 : Value} {g_t_2 : Value} {g_t_3 : Value} {g_t_4 : Value} {g_t_5 : Value} {g_t_6 : Value} {g_t_7 : Value} {g_t_10 : Value} {g_t_11 : Value} {g_t_12 : Value} {g_t_13 : Value} {g_t_14 : Value} {g_t_15 : Value}
set_option maxRecDepth 100000 in
set_option maxHeartbeats 4000000 in
theorem wb_X0_unlikeSpeeds_31 {F : Nat} {k4 : Int → Int → Option (Int)} {v : Int} {x2 : Int} {s0 : Int} {s1 : Int} {c_leasts : Int → Int} {c_mosts : Int → Int} (C : Cx E cX0_unlikeSpeeds RX0 { frames := 0, cells := 0, slots := 0, locals := 0 }) (hN : eN E = 3) (h : mb_X0_unlikeSpeeds_31 F k4 x2 s0 s1 c_leasts c_mosts = some v) (hk4 : ∀ (y_x1 : Int) (y_x2 : Int), k4 y_x1 y_x2 = some v → GG E 0 0 (W_X0_unlikeSpeeds (eCy E) a_t a_t_leasts a_t_mosts g_t_0 g_t_1 g_t_2 g_t_3 g_t_4 g_t_5 g_t_6 g_t_7 g_t_10 g_t_11 g_t_12 g_t_13 g_t_14 g_t_15 c_leasts c_mosts) [some (.ref a_t), some (.int (wI y_x1)), some (.int (wI y_x2))] 4 []) (hret : ∀ (pc : Nat) (L : List (Option Value)), decode cX0_unlikeSpeeds pc = .ok (.ireturn, 1) → GG E 0 0 (W_X0_unlikeSpeeds (eCy E) a_t a_t_leasts a_t_mosts g_t_0 g_t_1 g_t_2 g_t_3 g_t_4 g_t_5 g_t_6 g_t_7 g_t_10 g_t_11 g_t_12 g_t_13 g_t_14 g_t_15 c_leasts c_mosts) L pc [.int (wI v)]) : GG E 0 0 (W_X0_unlikeSpeeds (eCy E) a_t a_t_leasts a_t_mosts g_t_0 g_t_1 g_t_2 g_t_3 g_t_4 g_t_5 g_t_6 g_t_7 g_t_10 g_t_11 g_t_12 g_t_13 g_t_14 g_t_15 c_leasts c_mosts) [some (.ref a_t), none, some (.int (wI x2))] 31 [.int (wI s1), .int (wI s0)] := by
  unfold mb_X0_unlikeSpeeds_31 at h
  refine g_iadd C dX0_unlikeSpeeds_31 ?_
  obtain ⟨y1, e_y1, h⟩ := nam_some h
  refine g_topI e_y1 ?_
  refine g_istore_n 1 C hN dX0_unlikeSpeeds_32 rfl rfl (L' := [some (.ref a_t), some (.int (wI y1)), some (.int (wI x2))]) rfl ?_
  refine g_iinc C hN dX0_unlikeSpeeds_33 rfl rfl (L' := [some (.ref a_t), some (.int (wI y1)), some (.int (wI (x2 + 1)))]) rfl ?_
  refine g_goto (tgt := 4) C dX0_unlikeSpeeds_36 (by decide) ?_
  exact hk4 _ _ h
set_option maxRecDepth 100000 in
set_option maxHeartbeats 4000000 in
theorem wb_X0_unlikeSpeeds_4 {F : Nat} {k4 : Int → Int → Option (Int)} {v : Int} {x1 : Int} {x2 : Int} {c_leasts : Int → Int} {c_mosts : Int → Int} (C : Cx E cX0_unlikeSpeeds RX0 { frames := 0, cells := 0, slots := 0, locals := 0 }) (hN : eN E = 3) (h : mb_X0_unlikeSpeeds_4 F k4 x1 x2 c_leasts c_mosts = some v) (hk4 : ∀ (y_x1 : Int) (y_x2 : Int), k4 y_x1 y_x2 = some v → GG E 0 0 (W_X0_unlikeSpeeds (eCy E) a_t a_t_leasts a_t_mosts g_t_0 g_t_1 g_t_2 g_t_3 g_t_4 g_t_5 g_t_6 g_t_7 g_t_10 g_t_11 g_t_12 g_t_13 g_t_14 g_t_15 c_leasts c_mosts) [some (.ref a_t), some (.int (wI y_x1)), some (.int (wI y_x2))] 4 []) (hret : ∀ (pc : Nat) (L : List (Option Value)), decode cX0_unlikeSpeeds pc = .ok (.ireturn, 1) → GG E 0 0 (W_X0_unlikeSpeeds (eCy E) a_t a_t_leasts a_t_mosts g_t_0 g_t_1 g_t_2 g_t_3 g_t_4 g_t_5 g_t_6 g_t_7 g_t_10 g_t_11 g_t_12 g_t_13 g_t_14 g_t_15 c_leasts c_mosts) L pc [.int (wI v)]) : GG E 0 0 (W_X0_unlikeSpeeds (eCy E) a_t a_t_leasts a_t_mosts g_t_0 g_t_1 g_t_2 g_t_3 g_t_4 g_t_5 g_t_6 g_t_7 g_t_10 g_t_11 g_t_12 g_t_13 g_t_14 g_t_15 c_leasts c_mosts) [some (.ref a_t), some (.int (wI x1)), some (.int (wI x2))] 4 [] := by
  unfold mb_X0_unlikeSpeeds_4 at h
  refine g_iload_n 2 C dX0_unlikeSpeeds_4 rfl rfl ?_
  refine g_bipush C dX0_unlikeSpeeds_5 (by decide) ?_
  refine g_icmp_gt 39 C dX0_unlikeSpeeds_7 (by decide) h (fun h => ?_) (fun h => ?_)
  · refine g_iload_n 1 C dX0_unlikeSpeeds_39 rfl rfl ?_
    cases h
    exact hret 40 _ dX0_unlikeSpeeds_40
  · refine g_iload_n 1 C dX0_unlikeSpeeds_10 rfl rfl ?_
    refine g_aload_n 0 C dX0_unlikeSpeeds_11 rfl rfl ?_
    refine g_get C fg_X0_37 0 rfl rfl dX0_unlikeSpeeds_12 ?_
    refine g_iload_n 2 C dX0_unlikeSpeeds_15 rfl rfl ?_
    obtain ⟨hc1, h⟩ := chk_some h
    refine g_iald C 1 rfl hc1 rfl dX0_unlikeSpeeds_16 ?_
    refine g_aload_n 0 C dX0_unlikeSpeeds_17 rfl rfl ?_
    refine g_get C fg_X0_40 0 rfl rfl dX0_unlikeSpeeds_18 ?_
    refine g_iload_n 2 C dX0_unlikeSpeeds_21 rfl rfl ?_
    obtain ⟨hc2, h⟩ := chk_some h
    refine g_iald C 2 rfl hc2 rfl dX0_unlikeSpeeds_22 ?_
    refine g_icmp_gt 30 C dX0_unlikeSpeeds_23 (by decide) h (fun h => ?_) (fun h => ?_)
    · refine g_iconst C dX0_unlikeSpeeds_30 ?_
      refine g_mask [true, false, true] (L' := [some (.ref a_t), none, some (.int (wI x2))]) rfl ?_
      exact wb_X0_unlikeSpeeds_31 C hN h hk4 hret
    · refine g_iconst C dX0_unlikeSpeeds_26 ?_
      refine g_goto (tgt := 31) C dX0_unlikeSpeeds_27 (by decide) ?_
      refine g_mask [true, false, true] (L' := [some (.ref a_t), none, some (.int (wI x2))]) rfl ?_
      exact wb_X0_unlikeSpeeds_31 C hN h hk4 hret
set_option maxRecDepth 100000 in
set_option maxHeartbeats 4000000 in
theorem wl_X0_unlikeSpeeds_4 {F : Nat} {v : Int} {x1 : Int} {x2 : Int} {c_leasts : Int → Int} {c_mosts : Int → Int} (C : Cx E cX0_unlikeSpeeds RX0 { frames := 0, cells := 0, slots := 0, locals := 0 }) (hN : eN E = 3) (h : ml_X0_unlikeSpeeds_4 F x1 x2 c_leasts c_mosts = some v) (hret : ∀ (pc : Nat) (L : List (Option Value)), decode cX0_unlikeSpeeds pc = .ok (.ireturn, 1) → GG E 0 0 (W_X0_unlikeSpeeds (eCy E) a_t a_t_leasts a_t_mosts g_t_0 g_t_1 g_t_2 g_t_3 g_t_4 g_t_5 g_t_6 g_t_7 g_t_10 g_t_11 g_t_12 g_t_13 g_t_14 g_t_15 c_leasts c_mosts) L pc [.int (wI v)]) : GG E 0 0 (W_X0_unlikeSpeeds (eCy E) a_t a_t_leasts a_t_mosts g_t_0 g_t_1 g_t_2 g_t_3 g_t_4 g_t_5 g_t_6 g_t_7 g_t_10 g_t_11 g_t_12 g_t_13 g_t_14 g_t_15 c_leasts c_mosts) [some (.ref a_t), some (.int (wI x1)), some (.int (wI x2))] 4 [] := by
  unfold ml_X0_unlikeSpeeds_4 at h
  exact loop_walk (g := fun (q : Int × Int) => GG E 0 0 (W_X0_unlikeSpeeds (eCy E) a_t a_t_leasts a_t_mosts g_t_0 g_t_1 g_t_2 g_t_3 g_t_4 g_t_5 g_t_6 g_t_7 g_t_10 g_t_11 g_t_12 g_t_13 g_t_14 g_t_15 c_leasts c_mosts) [some (.ref a_t), some (.int (wI (q.1))), some (.int (wI (q.2)))] 4 []) (fun k hk q h => wb_X0_unlikeSpeeds_4 C hN h (fun y0 y1 hh => hk (y0, y1) hh) hret) F (x1, x2) h
set_option maxRecDepth 100000 in
set_option maxHeartbeats 4000000 in
theorem wm_X0_unlikeSpeeds {F : Nat} {v : Int} {c_leasts : Int → Int} {c_mosts : Int → Int} (C : Cx E cX0_unlikeSpeeds RX0 { frames := 0, cells := 0, slots := 0, locals := 0 }) (hN : eN E = 3) (h : m_X0_unlikeSpeeds F c_leasts c_mosts = some v) (hret : ∀ (pc : Nat) (L : List (Option Value)), decode cX0_unlikeSpeeds pc = .ok (.ireturn, 1) → GG E 0 0 (W_X0_unlikeSpeeds (eCy E) a_t a_t_leasts a_t_mosts g_t_0 g_t_1 g_t_2 g_t_3 g_t_4 g_t_5 g_t_6 g_t_7 g_t_10 g_t_11 g_t_12 g_t_13 g_t_14 g_t_15 c_leasts c_mosts) L pc [.int (wI v)]) : GG E 0 0 (W_X0_unlikeSpeeds (eCy E) a_t a_t_leasts a_t_mosts g_t_0 g_t_1 g_t_2 g_t_3 g_t_4 g_t_5 g_t_6 g_t_7 g_t_10 g_t_11 g_t_12 g_t_13 g_t_14 g_t_15 c_leasts c_mosts) [some (.ref a_t), none, none] 0 [] := by
  unfold m_X0_unlikeSpeeds at h
  refine g_iconst C dX0_unlikeSpeeds_0 ?_
  refine g_istore_n 1 C hN dX0_unlikeSpeeds_1 rfl rfl (L' := [some (.ref a_t), some (.int (wI 0)), none]) rfl ?_
  refine g_iconst C dX0_unlikeSpeeds_2 ?_
  refine g_istore_n 2 C hN dX0_unlikeSpeeds_3 rfl rfl (L' := [some (.ref a_t), some (.int (wI 0)), some (.int (wI 0))]) rfl ?_
  exact wl_X0_unlikeSpeeds_4 C hN h hret
end S_X0_unlikeSpeeds
set_option maxRecDepth 100000 in
set_option maxHeartbeats 4000000 in
theorem c_X0_unlikeSpeeds (l : Launch) (D : va_G) (cy : Nat → ClassId) (ad : AD) (a_t a_t_leasts a_t_mosts : Nat) (g_t_0 : Value) (g_t_1 : Value) (g_t_2 : Value) (g_t_3 : Value) (g_t_4 : Value) (g_t_5 : Value) (g_t_6 : Value) (g_t_7 : Value) (g_t_10 : Value) (g_t_11 : Value) (g_t_12 : Value) (g_t_13 : Value) (g_t_14 : Value) (g_t_15 : Value) (c_leasts : Int → Int) (c_mosts : Int → Int) (F : Nat) {v : Int} (h : m_X0_unlikeSpeeds F c_leasts c_mosts = some v) : Ct l yX0_unlikeSpeeds cX0_unlikeSpeeds 3 (some .int) { frames := 0, cells := 0, slots := 0, locals := 0 } D cy ad [.ref a_t] (W_X0_unlikeSpeeds cy a_t a_t_leasts a_t_mosts g_t_0 g_t_1 g_t_2 g_t_3 g_t_4 g_t_5 g_t_6 g_t_7 g_t_10 g_t_11 g_t_12 g_t_13 g_t_14 g_t_15 c_leasts c_mosts) (W_X0_unlikeSpeeds cy a_t a_t_leasts a_t_mosts g_t_0 g_t_1 g_t_2 g_t_3 g_t_4 g_t_5 g_t_6 g_t_7 g_t_10 g_t_11 g_t_12 g_t_13 g_t_14 g_t_15 c_leasts c_mosts) (some (.int (wI v))) := by
  refine Ct.introI (j := 2) (plainFor_of_name (by decide)) rfl rfl (fun E C e1 e2 e3 e4 e5 hret => ?_)
  subst e1; subst e2; subst e3; subst e4
  exact wm_X0_unlikeSpeeds C e5 h hret
-- MovingStair$Counts.markFitting([IIII)V
def W_X0_markFitting (cy : Nat → ClassId) (a_t a_p1 a_t_counted a_t_paces : Nat) (n_p1 : Nat) (g_t_0 : Value) (g_t_1 : Value) (g_t_2 : Value) (g_t_3 : Value) (g_t_4 : Value) (g_t_6 : Value) (g_t_8 : Value) (g_t_9 : Value) (g_t_10 : Value) (g_t_11 : Value) (g_t_12 : Value) (g_t_13 : Value) (c_least : Int) (c_most : Int) (c_p1 : Int → Int) (c_counted : Int → Int) (c_paces : Int → Int) : va_W := [(a_t, .inr (0, [g_t_0, g_t_1, g_t_2, g_t_3, g_t_4, .ref a_t_paces, g_t_6, .ref a_t_counted, g_t_8, g_t_9, g_t_10, g_t_11, g_t_12, g_t_13, .int (wI c_least), .int (wI c_most)])), (a_p1, .inl (cy 1, n_p1, .inl (aI c_p1))), (a_t_counted, .inl (cy 1, 20, .inl (aI c_counted))), (a_t_paces, .inl (cy 1, 20, .inl (aI c_paces)))]
def mb_X0_markFitting_14 (F : Nat) (k14 : Int → (Int → Int) → Option (Int × Int × (Int → Int))) (n_p1 : Nat) (x2 : Int) (x5 : Int) (c_least : Int) (c_most : Int) (c_p1 : Int → Int) : Option (Int × Int × (Int → Int)) :=
  if wI c_most < wI x5 then
    (some (c_least, c_most, c_p1))
  else
    (chk (0 ≤ x5 ∧ x5 < (n_p1 : Int)) <| nam (orI (c_p1 x5) (shlI 1 x2)) fun y2 => chk (0 ≤ x5 ∧ x5 < (n_p1 : Int)) <| k14 (x5 + 1) (up c_p1 x5 y2))
def ml_X0_markFitting_14 (F : Nat) (n_p1 : Nat) (x2 : Int) (x5 : Int) (c_least : Int) (c_most : Int) (c_p1 : Int → Int) : Option (Int × Int × (Int → Int)) :=
  loopN (fun (k : Int × (Int → Int) → Option (Int × Int × (Int → Int))) q => mb_X0_markFitting_14 F (fun y0 y1 => k (y0, y1)) n_p1 x2 q.1 c_least c_most q.2) F (x5, c_p1)
def m_X0_markFitting (F : Nat) (n_p1 : Nat) (x2 : Int) (x3 : Int) (x4 : Int) (c_p1 : Int → Int) (c_counted : Int → Int) (c_paces : Int → Int) : Option (Int × Int × (Int → Int)) :=
  bnd2 (m_X0_findOne F x2 x3 x4 c_counted c_paces) fun o1 o2 => ml_X0_markFitting_14 F n_p1 x2 o1 o1 o2 c_p1
section S_X0_markFitting
variable {E : EE} {a_t a_p1 a_t_counted a_t_paces : Nat} {n_p1 : Nat} {g_t_0 : Value} {g_t_1 : Value} {g_t_2 : Value} {g_t_3 : Value} {g_t_4 : Value} {g_t_6 : Value} {g_t_8 : Value} {g_t_9 : Value} {g_t_10 : Value} {g_t_11 : Value} {g_t_12 : Value} {g_t_13 : Value}
set_option maxRecDepth 100000 in
set_option maxHeartbeats 4000000 in
theorem wb_X0_markFitting_14 {F : Nat} {k14 : Int → (Int → Int) → Option (Int × Int × (Int → Int))} {v : Int × Int × (Int → Int)} {x2 : Int} {x5 : Int} {c_least : Int} {c_most : Int} {c_p1 : Int → Int} {c_counted : Int → Int} {c_paces : Int → Int} (C : Cx E cX0_markFitting RX0 { frames := 2, cells := 0, slots := 0, locals := 46 }) (hN : eN E = 6) (h : mb_X0_markFitting_14 F k14 n_p1 x2 x5 c_least c_most c_p1 = some v) (hk14 : ∀ (y_x5 : Int) (y_c_p1 : Int → Int), k14 y_x5 y_c_p1 = some v → GG E 0 0 (W_X0_markFitting (eCy E) a_t a_p1 a_t_counted a_t_paces n_p1 g_t_0 g_t_1 g_t_2 g_t_3 g_t_4 g_t_6 g_t_8 g_t_9 g_t_10 g_t_11 g_t_12 g_t_13 c_least c_most y_c_p1 c_counted c_paces) [some (.ref a_t), some (.ref a_p1), some (.int (wI x2)), none, none, some (.int (wI y_x5))] 14 []) (hlt_n_p1 : Nat.blt n_p1 2147483648 = true) (hret : ∀ (pc : Nat) (L : List (Option Value)), decode cX0_markFitting pc = .ok (.return_, 1) → GG E 0 0 (W_X0_markFitting (eCy E) a_t a_p1 a_t_counted a_t_paces n_p1 g_t_0 g_t_1 g_t_2 g_t_3 g_t_4 g_t_6 g_t_8 g_t_9 g_t_10 g_t_11 g_t_12 g_t_13 (v.1) (v.2.1) (v.2.2) c_counted c_paces) L pc []) : GG E 0 0 (W_X0_markFitting (eCy E) a_t a_p1 a_t_counted a_t_paces n_p1 g_t_0 g_t_1 g_t_2 g_t_3 g_t_4 g_t_6 g_t_8 g_t_9 g_t_10 g_t_11 g_t_12 g_t_13 c_least c_most c_p1 c_counted c_paces) [some (.ref a_t), some (.ref a_p1), some (.int (wI x2)), none, none, some (.int (wI x5))] 14 [] := by
  unfold mb_X0_markFitting_14 at h
  refine g_iload C dX0_markFitting_14 rfl ?_
  refine g_aload_n 0 C dX0_markFitting_16 rfl rfl ?_
  refine g_get C fg_X0_58 0 rfl rfl dX0_markFitting_17 ?_
  refine g_st (st' := [.int (wI c_most), .int (wI x5)]) rfl ?_
  refine g_icmp_gt 39 C dX0_markFitting_20 (by decide) h (fun h => ?_) (fun h => ?_)
  · cases h
    exact hret 39 _ dX0_markFitting_39
  · refine g_aload_n 1 C dX0_markFitting_23 rfl rfl ?_
    refine g_iload C dX0_markFitting_24 rfl ?_
    refine g_dup2_11 C dX0_markFitting_26 rfl rfl ?_
    obtain ⟨hc1, h⟩ := chk_some h
    refine g_iald C 1 rfl hc1 hlt_n_p1 dX0_markFitting_27 ?_
    refine g_iconst C dX0_markFitting_28 ?_
    refine g_iload_n 2 C dX0_markFitting_29 rfl rfl ?_
    refine g_ishl C dX0_markFitting_30 ?_
    refine g_ior C dX0_markFitting_31 ?_
    obtain ⟨y2, e_y2, h⟩ := nam_some h
    refine g_topI e_y2 ?_
    obtain ⟨hc3, h⟩ := chk_some h
    refine g_iast C 1 rfl hc3 hlt_n_p1 (ws' := (W_X0_markFitting (eCy E) a_t a_p1 a_t_counted a_t_paces n_p1 g_t_0 g_t_1 g_t_2 g_t_3 g_t_4 g_t_6 g_t_8 g_t_9 g_t_10 g_t_11 g_t_12 g_t_13 c_least c_most (up c_p1 x5 y2) c_counted c_paces)) rfl dX0_markFitting_32 ?_
    refine g_iinc C hN dX0_markFitting_33 rfl rfl (L' := [some (.ref a_t), some (.ref a_p1), some (.int (wI x2)), none, none, some (.int (wI (x5 + 1)))]) rfl ?_
    refine g_goto (tgt := 14) C dX0_markFitting_36 (by decide) ?_
    exact hk14 _ _ h
set_option maxRecDepth 100000 in
set_option maxHeartbeats 4000000 in
theorem wl_X0_markFitting_14 {F : Nat} {v : Int × Int × (Int → Int)} {x2 : Int} {x5 : Int} {c_least : Int} {c_most : Int} {c_p1 : Int → Int} {c_counted : Int → Int} {c_paces : Int → Int} (C : Cx E cX0_markFitting RX0 { frames := 2, cells := 0, slots := 0, locals := 46 }) (hN : eN E = 6) (h : ml_X0_markFitting_14 F n_p1 x2 x5 c_least c_most c_p1 = some v) (hlt_n_p1 : Nat.blt n_p1 2147483648 = true) (hret : ∀ (pc : Nat) (L : List (Option Value)), decode cX0_markFitting pc = .ok (.return_, 1) → GG E 0 0 (W_X0_markFitting (eCy E) a_t a_p1 a_t_counted a_t_paces n_p1 g_t_0 g_t_1 g_t_2 g_t_3 g_t_4 g_t_6 g_t_8 g_t_9 g_t_10 g_t_11 g_t_12 g_t_13 (v.1) (v.2.1) (v.2.2) c_counted c_paces) L pc []) : GG E 0 0 (W_X0_markFitting (eCy E) a_t a_p1 a_t_counted a_t_paces n_p1 g_t_0 g_t_1 g_t_2 g_t_3 g_t_4 g_t_6 g_t_8 g_t_9 g_t_10 g_t_11 g_t_12 g_t_13 c_least c_most c_p1 c_counted c_paces) [some (.ref a_t), some (.ref a_p1), some (.int (wI x2)), none, none, some (.int (wI x5))] 14 [] := by
  unfold ml_X0_markFitting_14 at h
  exact loop_walk (g := fun (q : Int × (Int → Int)) => GG E 0 0 (W_X0_markFitting (eCy E) a_t a_p1 a_t_counted a_t_paces n_p1 g_t_0 g_t_1 g_t_2 g_t_3 g_t_4 g_t_6 g_t_8 g_t_9 g_t_10 g_t_11 g_t_12 g_t_13 c_least c_most (q.2) c_counted c_paces) [some (.ref a_t), some (.ref a_p1), some (.int (wI x2)), none, none, some (.int (wI (q.1)))] 14 []) (fun k hk q h => wb_X0_markFitting_14 C hN h (fun y0 y1 hh => hk (y0, y1) hh) hlt_n_p1 hret) F (x5, c_p1) h
set_option maxRecDepth 100000 in
set_option maxHeartbeats 4000000 in
theorem wm_X0_markFitting {F : Nat} {v : Int × Int × (Int → Int)} {x2 : Int} {x3 : Int} {x4 : Int} {c_p1 : Int → Int} {c_counted : Int → Int} {c_paces : Int → Int} {c_least : Int} {c_most : Int} (C : Cx E cX0_markFitting RX0 { frames := 2, cells := 0, slots := 0, locals := 46 }) (hN : eN E = 6) (h : m_X0_markFitting F n_p1 x2 x3 x4 c_p1 c_counted c_paces = some v) (hlt_n_p1 : Nat.blt n_p1 2147483648 = true) (hret : ∀ (pc : Nat) (L : List (Option Value)), decode cX0_markFitting pc = .ok (.return_, 1) → GG E 0 0 (W_X0_markFitting (eCy E) a_t a_p1 a_t_counted a_t_paces n_p1 g_t_0 g_t_1 g_t_2 g_t_3 g_t_4 g_t_6 g_t_8 g_t_9 g_t_10 g_t_11 g_t_12 g_t_13 (v.1) (v.2.1) (v.2.2) c_counted c_paces) L pc []) : GG E 0 0 (W_X0_markFitting (eCy E) a_t a_p1 a_t_counted a_t_paces n_p1 g_t_0 g_t_1 g_t_2 g_t_3 g_t_4 g_t_6 g_t_8 g_t_9 g_t_10 g_t_11 g_t_12 g_t_13 c_least c_most c_p1 c_counted c_paces) [some (.ref a_t), some (.ref a_p1), some (.int (wI x2)), some (.int (wI x3)), some (.int (wI x4)), none] 0 [] := by
  unfold m_X0_markFitting at h
  refine g_aload_n 0 C dX0_markFitting_0 rfl rfl ?_
  refine g_iload_n 2 C dX0_markFitting_1 rfl rfl ?_
  refine g_iload_n 3 C dX0_markFitting_2 rfl rfl ?_
  refine g_iload C dX0_markFitting_3 rfl ?_
  obtain ⟨o1, o2, hr3, h⟩ := bnd2_some h
  refine g_callV [0, 2, 3] [1] [1, 0, 2, 3] C mt_X0_81 (c_X0_findOne _ _ _ _ a_t a_t_counted a_t_paces (g_t_0) (g_t_1) (g_t_2) (g_t_3) (g_t_4) (g_t_6) (g_t_8) (g_t_9) (g_t_10) (g_t_11) (g_t_12) (g_t_13) x2 x3 x4 c_least c_most c_counted c_paces F hr3) (q0 := 0) rfl (ci := 0) rfl rfl rfl (ws2 := (W_X0_markFitting (eCy E) a_t a_p1 a_t_counted a_t_paces n_p1 g_t_0 g_t_1 g_t_2 g_t_3 g_t_4 g_t_6 g_t_8 g_t_9 g_t_10 g_t_11 g_t_12 g_t_13 o1 o2 c_p1 c_counted c_paces)) rfl rfl rfl (rest := []) rfl rfl rfl dX0_markFitting_5 ?_
  refine g_aload_n 0 C dX0_markFitting_8 rfl rfl ?_
  refine g_get C fg_X0_55 0 rfl rfl dX0_markFitting_9 ?_
  refine g_st (st' := [.int (wI o1)]) rfl ?_
  refine g_istore C hN dX0_markFitting_12 rfl (L' := [some (.ref a_t), some (.ref a_p1), some (.int (wI x2)), some (.int (wI x3)), some (.int (wI x4)), some (.int (wI o1))]) rfl ?_
  refine g_mask [true, true, true, false, false, true] (L' := [some (.ref a_t), some (.ref a_p1), some (.int (wI x2)), none, none, some (.int (wI o1))]) rfl ?_
  exact wl_X0_markFitting_14 C hN h hlt_n_p1 hret
end S_X0_markFitting
set_option maxRecDepth 100000 in
set_option maxHeartbeats 4000000 in
theorem c_X0_markFitting (l : Launch) (D : va_G) (cy : Nat → ClassId) (ad : AD) (a_t a_p1 a_t_counted a_t_paces : Nat) (n_p1 : Nat) (g_t_0 : Value) (g_t_1 : Value) (g_t_2 : Value) (g_t_3 : Value) (g_t_4 : Value) (g_t_6 : Value) (g_t_8 : Value) (g_t_9 : Value) (g_t_10 : Value) (g_t_11 : Value) (g_t_12 : Value) (g_t_13 : Value) (x2 : Int) (x3 : Int) (x4 : Int) (c_least : Int) (c_most : Int) (c_p1 : Int → Int) (c_counted : Int → Int) (c_paces : Int → Int) (F : Nat) {v : Int × Int × (Int → Int)} (h : m_X0_markFitting F n_p1 x2 x3 x4 c_p1 c_counted c_paces = some v) (hlt_n_p1 : Nat.blt n_p1 2147483648 = true) : Ct l yX0_markFitting cX0_markFitting 6 none { frames := 2, cells := 0, slots := 0, locals := 46 } D cy ad [.ref a_t, .ref a_p1, .int (wI x2), .int (wI x3), .int (wI x4)] (W_X0_markFitting cy a_t a_p1 a_t_counted a_t_paces n_p1 g_t_0 g_t_1 g_t_2 g_t_3 g_t_4 g_t_6 g_t_8 g_t_9 g_t_10 g_t_11 g_t_12 g_t_13 c_least c_most c_p1 c_counted c_paces) (W_X0_markFitting cy a_t a_p1 a_t_counted a_t_paces n_p1 g_t_0 g_t_1 g_t_2 g_t_3 g_t_4 g_t_6 g_t_8 g_t_9 g_t_10 g_t_11 g_t_12 g_t_13 (v.1) (v.2.1) (v.2.2) c_counted c_paces) none := by
  refine Ct.introV (j := 1) (plainFor_of_name (by decide)) rfl rfl (fun E C e1 e2 e3 e4 e5 hret => ?_)
  subst e1; subst e2; subst e3; subst e4
  exact wm_X0_markFitting C e5 h hlt_n_p1 hret
-- MovingStair$Counts.fewer(II)I
def W_X0_fewer (cy : Nat → ClassId) : va_W := []
def m_X0_fewer (F : Nat) (x0 : Int) (x1 : Int) : Option (Int) :=
  bnd1 (m_J6_bitCount_0f7a4 F x0) fun r1 => bnd1 (m_J6_bitCount_0f7a4 F x1) fun r3 => if wI r1 < wI r3 then
    (some x0)
  else
    (if wI r1 = wI r3 then
    (if wI x1 ≤ wI x0 then
    (some x1)
  else
    (some x0))
  else
    (some x1))
section S_X0_fewer
variable {E : EE}
set_option maxRecDepth 100000 in
set_option maxHeartbeats 4000000 in
theorem wm_X0_fewer {F : Nat} {v : Int} {x0 : Int} {x1 : Int} (C : Cx E cX0_fewer RX0 { frames := 1, cells := 0, slots := 0, locals := 20 }) (hN : eN E = 4) (h : m_X0_fewer F x0 x1 = some v) (hret : ∀ (pc : Nat) (L : List (Option Value)), decode cX0_fewer pc = .ok (.ireturn, 1) → GG E 0 0 (W_X0_fewer (eCy E)) L pc [.int (wI v)]) : GG E 0 0 (W_X0_fewer (eCy E)) [some (.int (wI x0)), some (.int (wI x1)), none, none] 0 [] := by
  unfold m_X0_fewer at h
  refine g_iload_n 0 C dX0_fewer_0 rfl rfl ?_
  obtain ⟨r1, hr2, h⟩ := bnd1_some h
  refine g_callSI [] [] [] C mt_X0_107 (c_J6_bitCount_0f7a4 _ _ _ _ x0 F hr2) rfl rfl (ws2 := (W_X0_fewer (eCy E))) rfl rfl rfl (rest := []) rfl rfl rfl dX0_fewer_1 ?_
  refine g_istore_n 2 C hN dX0_fewer_4 rfl rfl (L' := [some (.int (wI x0)), some (.int (wI x1)), some (.int (wI r1)), none]) rfl ?_
  refine g_iload_n 1 C dX0_fewer_5 rfl rfl ?_
  obtain ⟨r3, hr4, h⟩ := bnd1_some h
  refine g_callSI [] [] [] C mt_X0_107 (c_J6_bitCount_0f7a4 _ _ _ _ x1 F hr4) rfl rfl (ws2 := (W_X0_fewer (eCy E))) rfl rfl rfl (rest := []) rfl rfl rfl dX0_fewer_6 ?_
  refine g_istore_n 3 C hN dX0_fewer_9 rfl rfl (L' := [some (.int (wI x0)), some (.int (wI x1)), some (.int (wI r1)), some (.int (wI r3))]) rfl ?_
  refine g_iload_n 2 C dX0_fewer_10 rfl rfl ?_
  refine g_iload_n 3 C dX0_fewer_11 rfl rfl ?_
  refine g_icmp_lt 25 C dX0_fewer_12 (by decide) h (fun h => ?_) (fun h => ?_)
  · refine g_iload_n 0 C dX0_fewer_25 rfl rfl ?_
    refine g_goto (tgt := 30) C dX0_fewer_26 (by decide) ?_
    cases h
    exact hret 30 _ dX0_fewer_30
  · refine g_iload_n 2 C dX0_fewer_15 rfl rfl ?_
    refine g_iload_n 3 C dX0_fewer_16 rfl rfl ?_
    refine g_icmp_ne 29 C dX0_fewer_17 (by decide) h (fun h => ?_) (fun h => ?_)
    · refine g_iload_n 1 C dX0_fewer_29 rfl rfl ?_
      cases h
      exact hret 30 _ dX0_fewer_30
    · refine g_iload_n 0 C dX0_fewer_20 rfl rfl ?_
      refine g_iload_n 1 C dX0_fewer_21 rfl rfl ?_
      refine g_icmp_ge 29 C dX0_fewer_22 (by decide) h (fun h => ?_) (fun h => ?_)
      · refine g_iload_n 1 C dX0_fewer_29 rfl rfl ?_
        cases h
        exact hret 30 _ dX0_fewer_30
      · refine g_iload_n 0 C dX0_fewer_25 rfl rfl ?_
        refine g_goto (tgt := 30) C dX0_fewer_26 (by decide) ?_
        cases h
        exact hret 30 _ dX0_fewer_30
end S_X0_fewer
set_option maxRecDepth 100000 in
set_option maxHeartbeats 4000000 in
theorem c_X0_fewer (l : Launch) (D : va_G) (cy : Nat → ClassId) (ad : AD) (x0 : Int) (x1 : Int) (F : Nat) {v : Int} (h : m_X0_fewer F x0 x1 = some v) : Ct l yX0_fewer cX0_fewer 4 (some .int) { frames := 1, cells := 0, slots := 0, locals := 20 } D cy ad [.int (wI x0), .int (wI x1)] (W_X0_fewer cy) (W_X0_fewer cy) (some (.int (wI v))) := by
  refine Ct.introI (j := 2) (plainFor_of_name (by decide)) rfl rfl (fun E C e1 e2 e3 e4 e5 hret => ?_)
  subst e1; subst e2; subst e3; subst e4
  exact wm_X0_fewer C e5 h hret
-- MovingStair$Counts.fewestWrong()I
def W_X0_fewestWrong (cy : Nat → ClassId) (a_t a_t_counted a_t_paces a_t_ways a_t_withIt : Nat) (g_t_1 : Value) (g_t_2 : Value) (g_t_3 : Value) (g_t_4 : Value) (g_t_8 : Value) (g_t_9 : Value) (g_t_11 : Value) (g_t_12 : Value) (g_t_13 : Value) (c_size : Int) (c_least : Int) (c_most : Int) (c_counted : Int → Int) (c_paces : Int → Int) (c_ways : Int → Int) (c_withIt : Int → Int) : va_W := [(a_t, .inr (0, [.int (wI c_size), g_t_1, g_t_2, g_t_3, g_t_4, .ref a_t_paces, .ref a_t_ways, .ref a_t_counted, g_t_8, g_t_9, .ref a_t_withIt, g_t_11, g_t_12, g_t_13, .int (wI c_least), .int (wI c_most)])), (a_t_counted, .inl (cy 1, 20, .inl (aI c_counted))), (a_t_paces, .inl (cy 1, 20, .inl (aI c_paces))), (a_t_ways, .inl (cy 1, 20, .inl (aI c_ways))), (a_t_withIt, .inl (cy 1, 201, .inl (aI c_withIt)))]
def mb_X0_fewestWrong_66 (F : Nat) (k13 : Int → Int → Int → Int → (Int → Int) → Option (Int × Int × Int × (Int → Int))) (k66 : Int → Int → Option (Int × Int × Int × (Int → Int))) (x1 : Int) (x2 : Int) (x3 : Int) (x4 : Int) (c_size : Int) (c_least : Int) (c_most : Int) (c_counted : Int → Int) (c_paces : Int → Int) (c_ways : Int → Int) (c_withIt : Int → Int) : Option (Int × Int × Int × (Int → Int)) :=
  if wI 200 < wI x4 then
    (k13 x2 (x3 + 1) c_least c_most c_withIt)
  else
    (chk (0 ≤ x4 ∧ x4 < 201) <| bnd1 (m_X0_fewer F (andI x1 (xorI (c_withIt x4) (-1))) x2) fun r2 => k66 r2 (x4 + 1))
def ml_X0_fewestWrong_66 (F : Nat) (k13 : Int → Int → Int → Int → (Int → Int) → Option (Int × Int × Int × (Int → Int))) (x1 : Int) (x2 : Int) (x3 : Int) (x4 : Int) (c_size : Int) (c_least : Int) (c_most : Int) (c_counted : Int → Int) (c_paces : Int → Int) (c_ways : Int → Int) (c_withIt : Int → Int) : Option (Int × Int × Int × (Int → Int)) :=
  loopN (fun (k : Int × Int → Option (Int × Int × Int × (Int → Int))) q => mb_X0_fewestWrong_66 F k13 (fun y0 y1 => k (y0, y1)) x1 q.1 x3 q.2 c_size c_least c_most c_counted c_paces c_ways c_withIt) F (x2, x4)
def mb_X0_fewestWrong_30 (F : Nat) (k13 : Int → Int → Int → Int → (Int → Int) → Option (Int × Int × Int × (Int → Int))) (k30 : Int → Int → Int → (Int → Int) → Option (Int × Int × Int × (Int → Int))) (x1 : Int) (x2 : Int) (x3 : Int) (x4 : Int) (c_size : Int) (c_least : Int) (c_most : Int) (c_counted : Int → Int) (c_paces : Int → Int) (c_ways : Int → Int) (c_withIt : Int → Int) : Option (Int × Int × Int × (Int → Int)) :=
  if wI c_size ≤ wI x4 then
    (ml_X0_fewestWrong_66 F k13 x1 x2 x3 1 c_size c_least c_most c_counted c_paces c_ways c_withIt)
  else
    (chk (0 ≤ x4 ∧ x4 < 20) <| bnd3 (m_X0_markFitting F 201 x4 (c_ways x4) x3 c_withIt c_counted c_paces) fun o2 o3 o4 => k30 (x4 + 1) o2 o3 o4)
def ml_X0_fewestWrong_30 (F : Nat) (k13 : Int → Int → Int → Int → (Int → Int) → Option (Int × Int × Int × (Int → Int))) (x1 : Int) (x2 : Int) (x3 : Int) (x4 : Int) (c_size : Int) (c_least : Int) (c_most : Int) (c_counted : Int → Int) (c_paces : Int → Int) (c_ways : Int → Int) (c_withIt : Int → Int) : Option (Int × Int × Int × (Int → Int)) :=
  loopN (fun (k : Int × Int × Int × (Int → Int) → Option (Int × Int × Int × (Int → Int))) q => mb_X0_fewestWrong_30 F k13 (fun y0 y1 y2 y3 => k (y0, y1, y2, y3)) x1 x2 x3 q.1 c_size q.2.1 q.2.2.1 c_counted c_paces c_ways q.2.2.2) F (x4, c_least, c_most, c_withIt)
def mb_X0_fewestWrong_13 (F : Nat) (k13 : Int → Int → Int → Int → (Int → Int) → Option (Int × Int × Int × (Int → Int))) (x1 : Int) (x2 : Int) (x3 : Int) (c_size : Int) (c_least : Int) (c_most : Int) (c_counted : Int → Int) (c_paces : Int → Int) (c_ways : Int → Int) (c_withIt : Int → Int) : Option (Int × Int × Int × (Int → Int)) :=
  if wI 30 < wI x3 then
    (some (x2, c_least, c_most, c_withIt))
  else
    (bnd1 (m_J7_fill_53178 F 201 0 c_withIt) fun o1 => ml_X0_fewestWrong_30 F k13 x1 x2 x3 0 c_size c_least c_most c_counted c_paces c_ways o1)
def ml_X0_fewestWrong_13 (F : Nat) (x1 : Int) (x2 : Int) (x3 : Int) (c_size : Int) (c_least : Int) (c_most : Int) (c_counted : Int → Int) (c_paces : Int → Int) (c_ways : Int → Int) (c_withIt : Int → Int) : Option (Int × Int × Int × (Int → Int)) :=
  loopN (fun (k : Int × Int × Int × Int × (Int → Int) → Option (Int × Int × Int × (Int → Int))) q => mb_X0_fewestWrong_13 F (fun y0 y1 y2 y3 y4 => k (y0, y1, y2, y3, y4)) x1 q.1 q.2.1 c_size q.2.2.1 q.2.2.2.1 c_counted c_paces c_ways q.2.2.2.2) F (x2, x3, c_least, c_most, c_withIt)
def m_X0_fewestWrong (F : Nat) (c_size : Int) (c_least : Int) (c_most : Int) (c_counted : Int → Int) (c_paces : Int → Int) (c_ways : Int → Int) (c_withIt : Int → Int) : Option (Int × Int × Int × (Int → Int)) :=
  nam ((shlI 1 c_size) - 1) fun y1 => ml_X0_fewestWrong_13 F y1 y1 0 c_size c_least c_most c_counted c_paces c_ways c_withIt
section S_X0_fewestWrong
variable {E : EE} {a_t a_t_counted a_t_paces a_t_ways a_t_withIt : Nat} {g_t_1 : Value} {g_t_2 : Value} {g_t_3 : Value} {g_t_4 : Value} {g_t_8 : Value} {g_t_9 : Value} {g_t_11 : Value} {g_t_12 : Value} {g_t_13 : Value}
set_option maxRecDepth 100000 in
set_option maxHeartbeats 4000000 in
theorem wb_X0_fewestWrong_66 {F : Nat} {k13 : Int → Int → Int → Int → (Int → Int) → Option (Int × Int × Int × (Int → Int))} {k66 : Int → Int → Option (Int × Int × Int × (Int → Int))} {v : Int × Int × Int × (Int → Int)} {x1 : Int} {x2 : Int} {x3 : Int} {x4 : Int} {c_size : Int} {c_least : Int} {c_most : Int} {c_counted : Int → Int} {c_paces : Int → Int} {c_ways : Int → Int} {c_withIt : Int → Int} (C : Cx E cX0_fewestWrong RX0 { frames := 3, cells := 0, slots := 0, locals := 71 }) (hN : eN E = 5) (h : mb_X0_fewestWrong_66 F k13 k66 x1 x2 x3 x4 c_size c_least c_most c_counted c_paces c_ways c_withIt = some v) (hk13 : ∀ (y_x2 : Int) (y_x3 : Int) (y_c_least : Int) (y_c_most : Int) (y_c_withIt : Int → Int), k13 y_x2 y_x3 y_c_least y_c_most y_c_withIt = some v → GG E 0 0 (W_X0_fewestWrong (eCy E) a_t a_t_counted a_t_paces a_t_ways a_t_withIt g_t_1 g_t_2 g_t_3 g_t_4 g_t_8 g_t_9 g_t_11 g_t_12 g_t_13 c_size y_c_least y_c_most c_counted c_paces c_ways y_c_withIt) [some (.ref a_t), some (.int (wI x1)), some (.int (wI y_x2)), some (.int (wI y_x3)), none] 13 []) (hk66 : ∀ (y_x2 : Int) (y_x4 : Int), k66 y_x2 y_x4 = some v → GG E 0 0 (W_X0_fewestWrong (eCy E) a_t a_t_counted a_t_paces a_t_ways a_t_withIt g_t_1 g_t_2 g_t_3 g_t_4 g_t_8 g_t_9 g_t_11 g_t_12 g_t_13 c_size c_least c_most c_counted c_paces c_ways c_withIt) [some (.ref a_t), some (.int (wI x1)), some (.int (wI y_x2)), some (.int (wI x3)), some (.int (wI y_x4))] 66 []) (hret : ∀ (pc : Nat) (L : List (Option Value)), decode cX0_fewestWrong pc = .ok (.ireturn, 1) → GG E 0 0 (W_X0_fewestWrong (eCy E) a_t a_t_counted a_t_paces a_t_ways a_t_withIt g_t_1 g_t_2 g_t_3 g_t_4 g_t_8 g_t_9 g_t_11 g_t_12 g_t_13 c_size (v.2.1) (v.2.2.1) c_counted c_paces c_ways (v.2.2.2)) L pc [.int (wI (v.1))]) : GG E 0 0 (W_X0_fewestWrong (eCy E) a_t a_t_counted a_t_paces a_t_ways a_t_withIt g_t_1 g_t_2 g_t_3 g_t_4 g_t_8 g_t_9 g_t_11 g_t_12 g_t_13 c_size c_least c_most c_counted c_paces c_ways c_withIt) [some (.ref a_t), some (.int (wI x1)), some (.int (wI x2)), some (.int (wI x3)), some (.int (wI x4))] 66 [] := by
  unfold mb_X0_fewestWrong_66 at h
  refine g_iload C dX0_fewestWrong_66 rfl ?_
  refine g_sipush C dX0_fewestWrong_68 (by decide) ?_
  refine g_icmp_gt 96 C dX0_fewestWrong_71 (by decide) h (fun h => ?_) (fun h => ?_)
  · refine g_iinc C hN dX0_fewestWrong_96 rfl rfl (L' := [some (.ref a_t), some (.int (wI x1)), some (.int (wI x2)), some (.int (wI (x3 + 1))), some (.int (wI x4))]) rfl ?_
    refine g_goto (tgt := 13) C dX0_fewestWrong_99 (by decide) ?_
    refine g_mask [true, true, true, true, false] (L' := [some (.ref a_t), some (.int (wI x1)), some (.int (wI x2)), some (.int (wI (x3 + 1))), none]) rfl ?_
    exact hk13 _ _ _ _ _ h
  · refine g_iload_n 1 C dX0_fewestWrong_74 rfl rfl ?_
    refine g_aload_n 0 C dX0_fewestWrong_75 rfl rfl ?_
    refine g_get C fg_X0_43 0 rfl rfl dX0_fewestWrong_76 ?_
    refine g_iload C dX0_fewestWrong_79 rfl ?_
    obtain ⟨hc1, h⟩ := chk_some h
    refine g_iald C 4 rfl hc1 rfl dX0_fewestWrong_81 ?_
    refine g_iconst C dX0_fewestWrong_82 ?_
    refine g_ixor C dX0_fewestWrong_83 ?_
    refine g_iand C dX0_fewestWrong_84 ?_
    refine g_iload_n 2 C dX0_fewestWrong_85 rfl rfl ?_
    obtain ⟨r2, hr3, h⟩ := bnd1_some h
    refine g_callSI [] [0, 1, 2, 3, 4] [0, 1, 2, 3, 4] C mt_X0_104 (c_X0_fewer _ _ _ _ (andI x1 (xorI (c_withIt x4) (-1))) x2 F hr3) rfl rfl (ws2 := (W_X0_fewestWrong (eCy E) a_t a_t_counted a_t_paces a_t_ways a_t_withIt g_t_1 g_t_2 g_t_3 g_t_4 g_t_8 g_t_9 g_t_11 g_t_12 g_t_13 c_size c_least c_most c_counted c_paces c_ways c_withIt)) rfl rfl rfl (rest := []) rfl rfl rfl dX0_fewestWrong_86 ?_
    refine g_istore_n 2 C hN dX0_fewestWrong_89 rfl rfl (L' := [some (.ref a_t), some (.int (wI x1)), some (.int (wI r2)), some (.int (wI x3)), some (.int (wI x4))]) rfl ?_
    refine g_iinc C hN dX0_fewestWrong_90 rfl rfl (L' := [some (.ref a_t), some (.int (wI x1)), some (.int (wI r2)), some (.int (wI x3)), some (.int (wI (x4 + 1)))]) rfl ?_
    refine g_goto (tgt := 66) C dX0_fewestWrong_93 (by decide) ?_
    exact hk66 _ _ h
set_option maxRecDepth 100000 in
set_option maxHeartbeats 4000000 in
theorem wl_X0_fewestWrong_66 {F : Nat} {k13 : Int → Int → Int → Int → (Int → Int) → Option (Int × Int × Int × (Int → Int))} {v : Int × Int × Int × (Int → Int)} {x1 : Int} {x2 : Int} {x3 : Int} {x4 : Int} {c_size : Int} {c_least : Int} {c_most : Int} {c_counted : Int → Int} {c_paces : Int → Int} {c_ways : Int → Int} {c_withIt : Int → Int} (C : Cx E cX0_fewestWrong RX0 { frames := 3, cells := 0, slots := 0, locals := 71 }) (hN : eN E = 5) (h : ml_X0_fewestWrong_66 F k13 x1 x2 x3 x4 c_size c_least c_most c_counted c_paces c_ways c_withIt = some v) (hk13 : ∀ (y_x2 : Int) (y_x3 : Int) (y_c_least : Int) (y_c_most : Int) (y_c_withIt : Int → Int), k13 y_x2 y_x3 y_c_least y_c_most y_c_withIt = some v → GG E 0 0 (W_X0_fewestWrong (eCy E) a_t a_t_counted a_t_paces a_t_ways a_t_withIt g_t_1 g_t_2 g_t_3 g_t_4 g_t_8 g_t_9 g_t_11 g_t_12 g_t_13 c_size y_c_least y_c_most c_counted c_paces c_ways y_c_withIt) [some (.ref a_t), some (.int (wI x1)), some (.int (wI y_x2)), some (.int (wI y_x3)), none] 13 []) (hret : ∀ (pc : Nat) (L : List (Option Value)), decode cX0_fewestWrong pc = .ok (.ireturn, 1) → GG E 0 0 (W_X0_fewestWrong (eCy E) a_t a_t_counted a_t_paces a_t_ways a_t_withIt g_t_1 g_t_2 g_t_3 g_t_4 g_t_8 g_t_9 g_t_11 g_t_12 g_t_13 c_size (v.2.1) (v.2.2.1) c_counted c_paces c_ways (v.2.2.2)) L pc [.int (wI (v.1))]) : GG E 0 0 (W_X0_fewestWrong (eCy E) a_t a_t_counted a_t_paces a_t_ways a_t_withIt g_t_1 g_t_2 g_t_3 g_t_4 g_t_8 g_t_9 g_t_11 g_t_12 g_t_13 c_size c_least c_most c_counted c_paces c_ways c_withIt) [some (.ref a_t), some (.int (wI x1)), some (.int (wI x2)), some (.int (wI x3)), some (.int (wI x4))] 66 [] := by
  unfold ml_X0_fewestWrong_66 at h
  exact loop_walk (g := fun (q : Int × Int) => GG E 0 0 (W_X0_fewestWrong (eCy E) a_t a_t_counted a_t_paces a_t_ways a_t_withIt g_t_1 g_t_2 g_t_3 g_t_4 g_t_8 g_t_9 g_t_11 g_t_12 g_t_13 c_size c_least c_most c_counted c_paces c_ways c_withIt) [some (.ref a_t), some (.int (wI x1)), some (.int (wI (q.1))), some (.int (wI x3)), some (.int (wI (q.2)))] 66 []) (fun k hk q h => wb_X0_fewestWrong_66 C hN h hk13 (fun y0 y1 hh => hk (y0, y1) hh) hret) F (x2, x4) h
set_option maxRecDepth 100000 in
set_option maxHeartbeats 4000000 in
theorem wb_X0_fewestWrong_30 {F : Nat} {k13 : Int → Int → Int → Int → (Int → Int) → Option (Int × Int × Int × (Int → Int))} {k30 : Int → Int → Int → (Int → Int) → Option (Int × Int × Int × (Int → Int))} {v : Int × Int × Int × (Int → Int)} {x1 : Int} {x2 : Int} {x3 : Int} {x4 : Int} {c_size : Int} {c_least : Int} {c_most : Int} {c_counted : Int → Int} {c_paces : Int → Int} {c_ways : Int → Int} {c_withIt : Int → Int} (C : Cx E cX0_fewestWrong RX0 { frames := 3, cells := 0, slots := 0, locals := 71 }) (hN : eN E = 5) (h : mb_X0_fewestWrong_30 F k13 k30 x1 x2 x3 x4 c_size c_least c_most c_counted c_paces c_ways c_withIt = some v) (hk13 : ∀ (y_x2 : Int) (y_x3 : Int) (y_c_least : Int) (y_c_most : Int) (y_c_withIt : Int → Int), k13 y_x2 y_x3 y_c_least y_c_most y_c_withIt = some v → GG E 0 0 (W_X0_fewestWrong (eCy E) a_t a_t_counted a_t_paces a_t_ways a_t_withIt g_t_1 g_t_2 g_t_3 g_t_4 g_t_8 g_t_9 g_t_11 g_t_12 g_t_13 c_size y_c_least y_c_most c_counted c_paces c_ways y_c_withIt) [some (.ref a_t), some (.int (wI x1)), some (.int (wI y_x2)), some (.int (wI y_x3)), none] 13 []) (hk30 : ∀ (y_x4 : Int) (y_c_least : Int) (y_c_most : Int) (y_c_withIt : Int → Int), k30 y_x4 y_c_least y_c_most y_c_withIt = some v → GG E 0 0 (W_X0_fewestWrong (eCy E) a_t a_t_counted a_t_paces a_t_ways a_t_withIt g_t_1 g_t_2 g_t_3 g_t_4 g_t_8 g_t_9 g_t_11 g_t_12 g_t_13 c_size y_c_least y_c_most c_counted c_paces c_ways y_c_withIt) [some (.ref a_t), some (.int (wI x1)), some (.int (wI x2)), some (.int (wI x3)), some (.int (wI y_x4))] 30 []) (hret : ∀ (pc : Nat) (L : List (Option Value)), decode cX0_fewestWrong pc = .ok (.ireturn, 1) → GG E 0 0 (W_X0_fewestWrong (eCy E) a_t a_t_counted a_t_paces a_t_ways a_t_withIt g_t_1 g_t_2 g_t_3 g_t_4 g_t_8 g_t_9 g_t_11 g_t_12 g_t_13 c_size (v.2.1) (v.2.2.1) c_counted c_paces c_ways (v.2.2.2)) L pc [.int (wI (v.1))]) : GG E 0 0 (W_X0_fewestWrong (eCy E) a_t a_t_counted a_t_paces a_t_ways a_t_withIt g_t_1 g_t_2 g_t_3 g_t_4 g_t_8 g_t_9 g_t_11 g_t_12 g_t_13 c_size c_least c_most c_counted c_paces c_ways c_withIt) [some (.ref a_t), some (.int (wI x1)), some (.int (wI x2)), some (.int (wI x3)), some (.int (wI x4))] 30 [] := by
  unfold mb_X0_fewestWrong_30 at h
  refine g_iload C dX0_fewestWrong_30 rfl ?_
  refine g_aload_n 0 C dX0_fewestWrong_32 rfl rfl ?_
  refine g_get C fg_X0_9 0 rfl rfl dX0_fewestWrong_33 ?_
  refine g_st (st' := [.int (wI c_size), .int (wI x4)]) rfl ?_
  refine g_icmp_ge 63 C dX0_fewestWrong_36 (by decide) h (fun h => ?_) (fun h => ?_)
  · refine g_iconst C dX0_fewestWrong_63 ?_
    refine g_istore C hN dX0_fewestWrong_64 rfl (L' := [some (.ref a_t), some (.int (wI x1)), some (.int (wI x2)), some (.int (wI x3)), some (.int (wI 1))]) rfl ?_
    exact wl_X0_fewestWrong_66 C hN h hk13 hret
  · refine g_aload_n 0 C dX0_fewestWrong_39 rfl rfl ?_
    refine g_aload_n 0 C dX0_fewestWrong_40 rfl rfl ?_
    refine g_get C fg_X0_43 0 rfl rfl dX0_fewestWrong_41 ?_
    refine g_iload C dX0_fewestWrong_44 rfl ?_
    refine g_aload_n 0 C dX0_fewestWrong_46 rfl rfl ?_
    refine g_get C fg_X0_31 0 rfl rfl dX0_fewestWrong_47 ?_
    refine g_iload C dX0_fewestWrong_50 rfl ?_
    obtain ⟨hc1, h⟩ := chk_some h
    refine g_iald C 3 rfl hc1 rfl dX0_fewestWrong_52 ?_
    refine g_iload_n 3 C dX0_fewestWrong_53 rfl rfl ?_
    obtain ⟨o2, o3, o4, hr5, h⟩ := bnd3_some h
    refine g_callV [0, 4, 1, 2] [3] [1, 3, 4, 0, 2] C mt_X0_100 (c_X0_markFitting _ _ _ _ a_t a_t_withIt a_t_counted a_t_paces 201 (.int (wI c_size)) (g_t_1) (g_t_2) (g_t_3) (g_t_4) (.ref a_t_ways) (g_t_8) (g_t_9) (.ref a_t_withIt) (g_t_11) (g_t_12) (g_t_13) x4 (c_ways x4) x3 c_least c_most c_withIt c_counted c_paces F hr5 rfl) (q0 := 0) rfl (ci := 0) rfl rfl rfl (ws2 := (W_X0_fewestWrong (eCy E) a_t a_t_counted a_t_paces a_t_ways a_t_withIt g_t_1 g_t_2 g_t_3 g_t_4 g_t_8 g_t_9 g_t_11 g_t_12 g_t_13 c_size o2 o3 c_counted c_paces c_ways o4)) rfl rfl rfl (rest := []) rfl rfl rfl dX0_fewestWrong_54 ?_
    refine g_iinc C hN dX0_fewestWrong_57 rfl rfl (L' := [some (.ref a_t), some (.int (wI x1)), some (.int (wI x2)), some (.int (wI x3)), some (.int (wI (x4 + 1)))]) rfl ?_
    refine g_goto (tgt := 30) C dX0_fewestWrong_60 (by decide) ?_
    exact hk30 _ _ _ _ h
set_option maxRecDepth 100000 in
set_option maxHeartbeats 4000000 in
theorem wl_X0_fewestWrong_30 {F : Nat} {k13 : Int → Int → Int → Int → (Int → Int) → Option (Int × Int × Int × (Int → Int))} {v : Int × Int × Int × (Int → Int)} {x1 : Int} {x2 : Int} {x3 : Int} {x4 : Int} {c_size : Int} {c_least : Int} {c_most : Int} {c_counted : Int → Int} {c_paces : Int → Int} {c_ways : Int → Int} {c_withIt : Int → Int} (C : Cx E cX0_fewestWrong RX0 { frames := 3, cells := 0, slots := 0, locals := 71 }) (hN : eN E = 5) (h : ml_X0_fewestWrong_30 F k13 x1 x2 x3 x4 c_size c_least c_most c_counted c_paces c_ways c_withIt = some v) (hk13 : ∀ (y_x2 : Int) (y_x3 : Int) (y_c_least : Int) (y_c_most : Int) (y_c_withIt : Int → Int), k13 y_x2 y_x3 y_c_least y_c_most y_c_withIt = some v → GG E 0 0 (W_X0_fewestWrong (eCy E) a_t a_t_counted a_t_paces a_t_ways a_t_withIt g_t_1 g_t_2 g_t_3 g_t_4 g_t_8 g_t_9 g_t_11 g_t_12 g_t_13 c_size y_c_least y_c_most c_counted c_paces c_ways y_c_withIt) [some (.ref a_t), some (.int (wI x1)), some (.int (wI y_x2)), some (.int (wI y_x3)), none] 13 []) (hret : ∀ (pc : Nat) (L : List (Option Value)), decode cX0_fewestWrong pc = .ok (.ireturn, 1) → GG E 0 0 (W_X0_fewestWrong (eCy E) a_t a_t_counted a_t_paces a_t_ways a_t_withIt g_t_1 g_t_2 g_t_3 g_t_4 g_t_8 g_t_9 g_t_11 g_t_12 g_t_13 c_size (v.2.1) (v.2.2.1) c_counted c_paces c_ways (v.2.2.2)) L pc [.int (wI (v.1))]) : GG E 0 0 (W_X0_fewestWrong (eCy E) a_t a_t_counted a_t_paces a_t_ways a_t_withIt g_t_1 g_t_2 g_t_3 g_t_4 g_t_8 g_t_9 g_t_11 g_t_12 g_t_13 c_size c_least c_most c_counted c_paces c_ways c_withIt) [some (.ref a_t), some (.int (wI x1)), some (.int (wI x2)), some (.int (wI x3)), some (.int (wI x4))] 30 [] := by
  unfold ml_X0_fewestWrong_30 at h
  exact loop_walk (g := fun (q : Int × Int × Int × (Int → Int)) => GG E 0 0 (W_X0_fewestWrong (eCy E) a_t a_t_counted a_t_paces a_t_ways a_t_withIt g_t_1 g_t_2 g_t_3 g_t_4 g_t_8 g_t_9 g_t_11 g_t_12 g_t_13 c_size (q.2.1) (q.2.2.1) c_counted c_paces c_ways (q.2.2.2)) [some (.ref a_t), some (.int (wI x1)), some (.int (wI x2)), some (.int (wI x3)), some (.int (wI (q.1)))] 30 []) (fun k hk q h => wb_X0_fewestWrong_30 C hN h hk13 (fun y0 y1 y2 y3 hh => hk (y0, y1, y2, y3) hh) hret) F (x4, c_least, c_most, c_withIt) h
set_option maxRecDepth 100000 in
set_option maxHeartbeats 4000000 in
theorem wb_X0_fewestWrong_13 {F : Nat} {k13 : Int → Int → Int → Int → (Int → Int) → Option (Int × Int × Int × (Int → Int))} {v : Int × Int × Int × (Int → Int)} {x1 : Int} {x2 : Int} {x3 : Int} {c_size : Int} {c_least : Int} {c_most : Int} {c_counted : Int → Int} {c_paces : Int → Int} {c_ways : Int → Int} {c_withIt : Int → Int} (C : Cx E cX0_fewestWrong RX0 { frames := 3, cells := 0, slots := 0, locals := 71 }) (hN : eN E = 5) (h : mb_X0_fewestWrong_13 F k13 x1 x2 x3 c_size c_least c_most c_counted c_paces c_ways c_withIt = some v) (hk13 : ∀ (y_x2 : Int) (y_x3 : Int) (y_c_least : Int) (y_c_most : Int) (y_c_withIt : Int → Int), k13 y_x2 y_x3 y_c_least y_c_most y_c_withIt = some v → GG E 0 0 (W_X0_fewestWrong (eCy E) a_t a_t_counted a_t_paces a_t_ways a_t_withIt g_t_1 g_t_2 g_t_3 g_t_4 g_t_8 g_t_9 g_t_11 g_t_12 g_t_13 c_size y_c_least y_c_most c_counted c_paces c_ways y_c_withIt) [some (.ref a_t), some (.int (wI x1)), some (.int (wI y_x2)), some (.int (wI y_x3)), none] 13 []) (hret : ∀ (pc : Nat) (L : List (Option Value)), decode cX0_fewestWrong pc = .ok (.ireturn, 1) → GG E 0 0 (W_X0_fewestWrong (eCy E) a_t a_t_counted a_t_paces a_t_ways a_t_withIt g_t_1 g_t_2 g_t_3 g_t_4 g_t_8 g_t_9 g_t_11 g_t_12 g_t_13 c_size (v.2.1) (v.2.2.1) c_counted c_paces c_ways (v.2.2.2)) L pc [.int (wI (v.1))]) : GG E 0 0 (W_X0_fewestWrong (eCy E) a_t a_t_counted a_t_paces a_t_ways a_t_withIt g_t_1 g_t_2 g_t_3 g_t_4 g_t_8 g_t_9 g_t_11 g_t_12 g_t_13 c_size c_least c_most c_counted c_paces c_ways c_withIt) [some (.ref a_t), some (.int (wI x1)), some (.int (wI x2)), some (.int (wI x3)), none] 13 [] := by
  unfold mb_X0_fewestWrong_13 at h
  refine g_iload_n 3 C dX0_fewestWrong_13 rfl rfl ?_
  refine g_bipush C dX0_fewestWrong_14 (by decide) ?_
  refine g_icmp_gt 102 C dX0_fewestWrong_16 (by decide) h (fun h => ?_) (fun h => ?_)
  · refine g_iload_n 2 C dX0_fewestWrong_102 rfl rfl ?_
    cases h
    exact hret 103 _ dX0_fewestWrong_103
  · refine g_aload_n 0 C dX0_fewestWrong_19 rfl rfl ?_
    refine g_get C fg_X0_43 0 rfl rfl dX0_fewestWrong_20 ?_
    refine g_iconst C dX0_fewestWrong_23 ?_
    obtain ⟨o1, hr2, h⟩ := bnd1_some h
    refine g_callSV [4] [0, 1, 2, 3] [0, 1, 2, 3, 4] C mt_X0_94 (c_J7_fill_53178 _ _ _ _ a_t_withIt 201 0 c_withIt F hr2 rfl) rfl rfl (ws2 := (W_X0_fewestWrong (eCy E) a_t a_t_counted a_t_paces a_t_ways a_t_withIt g_t_1 g_t_2 g_t_3 g_t_4 g_t_8 g_t_9 g_t_11 g_t_12 g_t_13 c_size c_least c_most c_counted c_paces c_ways o1)) rfl rfl rfl (rest := []) rfl rfl rfl dX0_fewestWrong_24 ?_
    refine g_iconst C dX0_fewestWrong_27 ?_
    refine g_istore C hN dX0_fewestWrong_28 rfl (L' := [some (.ref a_t), some (.int (wI x1)), some (.int (wI x2)), some (.int (wI x3)), some (.int (wI 0))]) rfl ?_
    exact wl_X0_fewestWrong_30 C hN h hk13 hret
set_option maxRecDepth 100000 in
set_option maxHeartbeats 4000000 in
theorem wl_X0_fewestWrong_13 {F : Nat} {v : Int × Int × Int × (Int → Int)} {x1 : Int} {x2 : Int} {x3 : Int} {c_size : Int} {c_least : Int} {c_most : Int} {c_counted : Int → Int} {c_paces : Int → Int} {c_ways : Int → Int} {c_withIt : Int → Int} (C : Cx E cX0_fewestWrong RX0 { frames := 3, cells := 0, slots := 0, locals := 71 }) (hN : eN E = 5) (h : ml_X0_fewestWrong_13 F x1 x2 x3 c_size c_least c_most c_counted c_paces c_ways c_withIt = some v) (hret : ∀ (pc : Nat) (L : List (Option Value)), decode cX0_fewestWrong pc = .ok (.ireturn, 1) → GG E 0 0 (W_X0_fewestWrong (eCy E) a_t a_t_counted a_t_paces a_t_ways a_t_withIt g_t_1 g_t_2 g_t_3 g_t_4 g_t_8 g_t_9 g_t_11 g_t_12 g_t_13 c_size (v.2.1) (v.2.2.1) c_counted c_paces c_ways (v.2.2.2)) L pc [.int (wI (v.1))]) : GG E 0 0 (W_X0_fewestWrong (eCy E) a_t a_t_counted a_t_paces a_t_ways a_t_withIt g_t_1 g_t_2 g_t_3 g_t_4 g_t_8 g_t_9 g_t_11 g_t_12 g_t_13 c_size c_least c_most c_counted c_paces c_ways c_withIt) [some (.ref a_t), some (.int (wI x1)), some (.int (wI x2)), some (.int (wI x3)), none] 13 [] := by
  unfold ml_X0_fewestWrong_13 at h
  exact loop_walk (g := fun (q : Int × Int × Int × Int × (Int → Int)) => GG E 0 0 (W_X0_fewestWrong (eCy E) a_t a_t_counted a_t_paces a_t_ways a_t_withIt g_t_1 g_t_2 g_t_3 g_t_4 g_t_8 g_t_9 g_t_11 g_t_12 g_t_13 c_size (q.2.2.1) (q.2.2.2.1) c_counted c_paces c_ways (q.2.2.2.2)) [some (.ref a_t), some (.int (wI x1)), some (.int (wI (q.1))), some (.int (wI (q.2.1))), none] 13 []) (fun k hk q h => wb_X0_fewestWrong_13 C hN h (fun y0 y1 y2 y3 y4 hh => hk (y0, y1, y2, y3, y4) hh) hret) F (x2, x3, c_least, c_most, c_withIt) h
set_option maxRecDepth 100000 in
set_option maxHeartbeats 4000000 in
theorem wm_X0_fewestWrong {F : Nat} {v : Int × Int × Int × (Int → Int)} {c_size : Int} {c_least : Int} {c_most : Int} {c_counted : Int → Int} {c_paces : Int → Int} {c_ways : Int → Int} {c_withIt : Int → Int} (C : Cx E cX0_fewestWrong RX0 { frames := 3, cells := 0, slots := 0, locals := 71 }) (hN : eN E = 5) (h : m_X0_fewestWrong F c_size c_least c_most c_counted c_paces c_ways c_withIt = some v) (hret : ∀ (pc : Nat) (L : List (Option Value)), decode cX0_fewestWrong pc = .ok (.ireturn, 1) → GG E 0 0 (W_X0_fewestWrong (eCy E) a_t a_t_counted a_t_paces a_t_ways a_t_withIt g_t_1 g_t_2 g_t_3 g_t_4 g_t_8 g_t_9 g_t_11 g_t_12 g_t_13 c_size (v.2.1) (v.2.2.1) c_counted c_paces c_ways (v.2.2.2)) L pc [.int (wI (v.1))]) : GG E 0 0 (W_X0_fewestWrong (eCy E) a_t a_t_counted a_t_paces a_t_ways a_t_withIt g_t_1 g_t_2 g_t_3 g_t_4 g_t_8 g_t_9 g_t_11 g_t_12 g_t_13 c_size c_least c_most c_counted c_paces c_ways c_withIt) [some (.ref a_t), none, none, none, none] 0 [] := by
  unfold m_X0_fewestWrong at h
  refine g_iconst C dX0_fewestWrong_0 ?_
  refine g_aload_n 0 C dX0_fewestWrong_1 rfl rfl ?_
  refine g_get C fg_X0_9 0 rfl rfl dX0_fewestWrong_2 ?_
  refine g_st (st' := [.int (wI c_size), .int (wI 1)]) rfl ?_
  refine g_ishl C dX0_fewestWrong_5 ?_
  refine g_iconst C dX0_fewestWrong_6 ?_
  refine g_isub C dX0_fewestWrong_7 ?_
  obtain ⟨y1, e_y1, h⟩ := nam_some h
  refine g_topI e_y1 ?_
  refine g_istore_n 1 C hN dX0_fewestWrong_8 rfl rfl (L' := [some (.ref a_t), some (.int (wI y1)), none, none, none]) rfl ?_
  refine g_iload_n 1 C dX0_fewestWrong_9 rfl rfl ?_
  refine g_istore_n 2 C hN dX0_fewestWrong_10 rfl rfl (L' := [some (.ref a_t), some (.int (wI y1)), some (.int (wI y1)), none, none]) rfl ?_
  refine g_iconst C dX0_fewestWrong_11 ?_
  refine g_istore_n 3 C hN dX0_fewestWrong_12 rfl rfl (L' := [some (.ref a_t), some (.int (wI y1)), some (.int (wI y1)), some (.int (wI 0)), none]) rfl ?_
  exact wl_X0_fewestWrong_13 C hN h hret
end S_X0_fewestWrong
set_option maxRecDepth 100000 in
set_option maxHeartbeats 4000000 in
theorem c_X0_fewestWrong (l : Launch) (D : va_G) (cy : Nat → ClassId) (ad : AD) (a_t a_t_counted a_t_paces a_t_ways a_t_withIt : Nat) (g_t_1 : Value) (g_t_2 : Value) (g_t_3 : Value) (g_t_4 : Value) (g_t_8 : Value) (g_t_9 : Value) (g_t_11 : Value) (g_t_12 : Value) (g_t_13 : Value) (c_size : Int) (c_least : Int) (c_most : Int) (c_counted : Int → Int) (c_paces : Int → Int) (c_ways : Int → Int) (c_withIt : Int → Int) (F : Nat) {v : Int × Int × Int × (Int → Int)} (h : m_X0_fewestWrong F c_size c_least c_most c_counted c_paces c_ways c_withIt = some v) : Ct l yX0_fewestWrong cX0_fewestWrong 5 (some .int) { frames := 3, cells := 0, slots := 0, locals := 71 } D cy ad [.ref a_t] (W_X0_fewestWrong cy a_t a_t_counted a_t_paces a_t_ways a_t_withIt g_t_1 g_t_2 g_t_3 g_t_4 g_t_8 g_t_9 g_t_11 g_t_12 g_t_13 c_size c_least c_most c_counted c_paces c_ways c_withIt) (W_X0_fewestWrong cy a_t a_t_counted a_t_paces a_t_ways a_t_withIt g_t_1 g_t_2 g_t_3 g_t_4 g_t_8 g_t_9 g_t_11 g_t_12 g_t_13 c_size (v.2.1) (v.2.2.1) c_counted c_paces c_ways (v.2.2.2)) (some (.int (wI (v.1)))) := by
  refine Ct.introI (j := 4) (plainFor_of_name (by decide)) rfl rfl (fun E C e1 e2 e3 e4 e5 hret => ?_)
  subst e1; subst e2; subst e3; subst e4
  exact wm_X0_fewestWrong C e5 h hret
-- MovingStair$Counts.markWays(II)I
def W_X0_markWays (cy : Nat → ClassId) (a_t a_t_possible : Nat) (g_t_0 : Value) (g_t_1 : Value) (g_t_2 : Value) (g_t_3 : Value) (g_t_4 : Value) (g_t_5 : Value) (g_t_6 : Value) (g_t_7 : Value) (g_t_8 : Value) (g_t_9 : Value) (g_t_10 : Value) (g_t_11 : Value) (g_t_12 : Value) (g_t_14 : Value) (g_t_15 : Value) (c_possible : Int → Int) : va_W := [(a_t, .inr (0, [g_t_0, g_t_1, g_t_2, g_t_3, g_t_4, g_t_5, g_t_6, g_t_7, g_t_8, g_t_9, g_t_10, g_t_11, g_t_12, .ref a_t_possible, g_t_14, g_t_15])), (a_t_possible, .inl (cy 1, 1024, .inl (aI c_possible)))]
def mb_X0_markWays_68 (F : Nat) (k20 : Int → Int → Int → (Int → Int) → Option (Int × (Int → Int))) (x3 : Int) (x4 : Int) (x5 : Int) (x6 : Int) (x7 : Int) (c_possible : Int → Int) : Option (Int × (Int → Int)) :=
  if wI x6 = wI 0 then
    (some (x5, c_possible))
  else
    (nam (andI (x6 - 1) x3) fun y1 => k20 x5 y1 (x7 + 1) c_possible)
def mb_X0_markWays_20 (F : Nat) (k20 : Int → Int → Int → (Int → Int) → Option (Int × (Int → Int))) (x3 : Int) (x4 : Int) (x5 : Int) (x6 : Int) (x7 : Int) (c_possible : Int → Int) : Option (Int × (Int → Int)) :=
  if wI 1024 ≤ wI x7 then
    (some (x5, c_possible))
  else
    (nam (orI x4 x6) fun y1 => if wI 1024 ≤ wI y1 then
    (mb_X0_markWays_68 F k20 x3 x4 x5 x6 x7 c_possible)
  else
    (chk (0 ≤ y1 ∧ y1 < 1024) <| if wI (c_possible y1) = wI 0 then
    (chk (0 ≤ y1 ∧ y1 < 1024) <| mb_X0_markWays_68 F k20 x3 x4 (x5 + 1) x6 x7 (up c_possible y1 1))
  else
    (mb_X0_markWays_68 F k20 x3 x4 x5 x6 x7 c_possible)))
def ml_X0_markWays_20 (F : Nat) (x3 : Int) (x4 : Int) (x5 : Int) (x6 : Int) (x7 : Int) (c_possible : Int → Int) : Option (Int × (Int → Int)) :=
  loopN (fun (k : Int × Int × Int × (Int → Int) → Option (Int × (Int → Int))) q => mb_X0_markWays_20 F (fun y0 y1 y2 y3 => k (y0, y1, y2, y3)) x3 x4 q.1 q.2.1 q.2.2.1 q.2.2.2) F (x5, x6, x7, c_possible)
def m_X0_markWays (F : Nat) (x1 : Int) (x2 : Int) (c_possible : Int → Int) : Option (Int × (Int → Int)) :=
  nam (andI x1 x2) fun y1 => nam (andI x1 (xorI x2 (-1))) fun y2 => ml_X0_markWays_20 F y1 y2 0 y1 0 c_possible
section S_X0_markWays
variable {E : EE} {a_t a_t_possible : Nat} {g_t_0 : Value} {g_t_1 : Value} {g_t_2 : Value} {g_t_3 : Value} {g_t_4 : Value} {g_t_5 : Value} {g_t_6 : Value} {g_t_7 : Value} {g_t_8 : Value} {g_t_9 : Value} {g_t_10 : Value} {g_t_11 : Value} {g_t_12 : Value} {g_t_14 : Value} {g_t_15 : Value}
set_option maxRecDepth 100000 in
set_option maxHeartbeats 4000000 in
theorem wb_X0_markWays_68 {F : Nat} {k20 : Int → Int → Int → (Int → Int) → Option (Int × (Int → Int))} {v : Int × (Int → Int)} {x3 : Int} {x4 : Int} {x5 : Int} {x6 : Int} {x7 : Int} {c_possible : Int → Int} (C : Cx E cX0_markWays RX0 { frames := 0, cells := 0, slots := 0, locals := 0 }) (hN : eN E = 9) (h : mb_X0_markWays_68 F k20 x3 x4 x5 x6 x7 c_possible = some v) (hk20 : ∀ (y_x5 : Int) (y_x6 : Int) (y_x7 : Int) (y_c_possible : Int → Int), k20 y_x5 y_x6 y_x7 y_c_possible = some v → GG E 0 0 (W_X0_markWays (eCy E) a_t a_t_possible g_t_0 g_t_1 g_t_2 g_t_3 g_t_4 g_t_5 g_t_6 g_t_7 g_t_8 g_t_9 g_t_10 g_t_11 g_t_12 g_t_14 g_t_15 y_c_possible) [some (.ref a_t), none, none, some (.int (wI x3)), some (.int (wI x4)), some (.int (wI y_x5)), some (.int (wI y_x6)), some (.int (wI y_x7)), none] 20 []) (hret : ∀ (pc : Nat) (L : List (Option Value)), decode cX0_markWays pc = .ok (.ireturn, 1) → GG E 0 0 (W_X0_markWays (eCy E) a_t a_t_possible g_t_0 g_t_1 g_t_2 g_t_3 g_t_4 g_t_5 g_t_6 g_t_7 g_t_8 g_t_9 g_t_10 g_t_11 g_t_12 g_t_14 g_t_15 (v.2)) L pc [.int (wI (v.1))]) : GG E 0 0 (W_X0_markWays (eCy E) a_t a_t_possible g_t_0 g_t_1 g_t_2 g_t_3 g_t_4 g_t_5 g_t_6 g_t_7 g_t_8 g_t_9 g_t_10 g_t_11 g_t_12 g_t_14 g_t_15 c_possible) [some (.ref a_t), none, none, some (.int (wI x3)), some (.int (wI x4)), some (.int (wI x5)), some (.int (wI x6)), some (.int (wI x7)), none] 68 [] := by
  unfold mb_X0_markWays_68 at h
  refine g_iload C dX0_markWays_68 rfl ?_
  refine g_if_ne 76 C dX0_markWays_70 (by decide) h (fun h => ?_) (fun h => ?_)
  · refine g_iload C dX0_markWays_76 rfl ?_
    refine g_iconst C dX0_markWays_78 ?_
    refine g_isub C dX0_markWays_79 ?_
    refine g_iload_n 3 C dX0_markWays_80 rfl rfl ?_
    refine g_iand C dX0_markWays_81 ?_
    obtain ⟨y1, e_y1, h⟩ := nam_some h
    refine g_topI e_y1 ?_
    refine g_istore C hN dX0_markWays_82 rfl (L' := [some (.ref a_t), none, none, some (.int (wI x3)), some (.int (wI x4)), some (.int (wI x5)), some (.int (wI y1)), some (.int (wI x7)), none]) rfl ?_
    refine g_iinc C hN dX0_markWays_84 rfl rfl (L' := [some (.ref a_t), none, none, some (.int (wI x3)), some (.int (wI x4)), some (.int (wI x5)), some (.int (wI y1)), some (.int (wI (x7 + 1))), none]) rfl ?_
    refine g_goto (tgt := 20) C dX0_markWays_87 (by decide) ?_
    exact hk20 _ _ _ _ h
  · refine g_iload C dX0_markWays_73 rfl ?_
    cases h
    exact hret 75 _ dX0_markWays_75
set_option maxRecDepth 100000 in
set_option maxHeartbeats 4000000 in
theorem wb_X0_markWays_20 {F : Nat} {k20 : Int → Int → Int → (Int → Int) → Option (Int × (Int → Int))} {v : Int × (Int → Int)} {x3 : Int} {x4 : Int} {x5 : Int} {x6 : Int} {x7 : Int} {c_possible : Int → Int} (C : Cx E cX0_markWays RX0 { frames := 0, cells := 0, slots := 0, locals := 0 }) (hN : eN E = 9) (h : mb_X0_markWays_20 F k20 x3 x4 x5 x6 x7 c_possible = some v) (hk20 : ∀ (y_x5 : Int) (y_x6 : Int) (y_x7 : Int) (y_c_possible : Int → Int), k20 y_x5 y_x6 y_x7 y_c_possible = some v → GG E 0 0 (W_X0_markWays (eCy E) a_t a_t_possible g_t_0 g_t_1 g_t_2 g_t_3 g_t_4 g_t_5 g_t_6 g_t_7 g_t_8 g_t_9 g_t_10 g_t_11 g_t_12 g_t_14 g_t_15 y_c_possible) [some (.ref a_t), none, none, some (.int (wI x3)), some (.int (wI x4)), some (.int (wI y_x5)), some (.int (wI y_x6)), some (.int (wI y_x7)), none] 20 []) (hret : ∀ (pc : Nat) (L : List (Option Value)), decode cX0_markWays pc = .ok (.ireturn, 1) → GG E 0 0 (W_X0_markWays (eCy E) a_t a_t_possible g_t_0 g_t_1 g_t_2 g_t_3 g_t_4 g_t_5 g_t_6 g_t_7 g_t_8 g_t_9 g_t_10 g_t_11 g_t_12 g_t_14 g_t_15 (v.2)) L pc [.int (wI (v.1))]) : GG E 0 0 (W_X0_markWays (eCy E) a_t a_t_possible g_t_0 g_t_1 g_t_2 g_t_3 g_t_4 g_t_5 g_t_6 g_t_7 g_t_8 g_t_9 g_t_10 g_t_11 g_t_12 g_t_14 g_t_15 c_possible) [some (.ref a_t), none, none, some (.int (wI x3)), some (.int (wI x4)), some (.int (wI x5)), some (.int (wI x6)), some (.int (wI x7)), none] 20 [] := by
  unfold mb_X0_markWays_20 at h
  refine g_iload C dX0_markWays_20 rfl ?_
  refine g_aload_n 0 C dX0_markWays_22 rfl rfl ?_
  refine g_get C fg_X0_52 0 rfl rfl dX0_markWays_23 ?_
  refine g_alen (N := 1024) (t0 := 1) C 1 rfl rfl rfl dX0_markWays_26 ?_
  refine g_st (st' := [.int (wI 1024), .int (wI x7)]) rfl ?_
  refine g_icmp_ge 90 C dX0_markWays_27 (by decide) h (fun h => ?_) (fun h => ?_)
  · refine g_iload C dX0_markWays_90 rfl ?_
    cases h
    exact hret 92 _ dX0_markWays_92
  · refine g_iload C dX0_markWays_30 rfl ?_
    refine g_iload C dX0_markWays_32 rfl ?_
    refine g_ior C dX0_markWays_34 ?_
    obtain ⟨y1, e_y1, h⟩ := nam_some h
    refine g_topI e_y1 ?_
    refine g_istore C hN dX0_markWays_35 rfl (L' := [some (.ref a_t), none, none, some (.int (wI x3)), some (.int (wI x4)), some (.int (wI x5)), some (.int (wI x6)), some (.int (wI x7)), some (.int (wI y1))]) rfl ?_
    refine g_iload C dX0_markWays_37 rfl ?_
    refine g_aload_n 0 C dX0_markWays_39 rfl rfl ?_
    refine g_get C fg_X0_52 0 rfl rfl dX0_markWays_40 ?_
    refine g_alen (N := 1024) (t0 := 1) C 1 rfl rfl rfl dX0_markWays_43 ?_
    refine g_st (st' := [.int (wI 1024), .int (wI y1)]) rfl ?_
    refine g_icmp_ge 68 C dX0_markWays_44 (by decide) h (fun h => ?_) (fun h => ?_)
    · refine g_mask [true, false, false, true, true, true, true, true, false] (L' := [some (.ref a_t), none, none, some (.int (wI x3)), some (.int (wI x4)), some (.int (wI x5)), some (.int (wI x6)), some (.int (wI x7)), none]) rfl ?_
      exact wb_X0_markWays_68 C hN h hk20 hret
    · refine g_aload_n 0 C dX0_markWays_47 rfl rfl ?_
      refine g_get C fg_X0_52 0 rfl rfl dX0_markWays_48 ?_
      refine g_iload C dX0_markWays_51 rfl ?_
      obtain ⟨hc2, h⟩ := chk_some h
      refine g_iald C 1 rfl hc2 rfl dX0_markWays_53 ?_
      refine g_if_ne 68 C dX0_markWays_54 (by decide) h (fun h => ?_) (fun h => ?_)
      · refine g_mask [true, false, false, true, true, true, true, true, false] (L' := [some (.ref a_t), none, none, some (.int (wI x3)), some (.int (wI x4)), some (.int (wI x5)), some (.int (wI x6)), some (.int (wI x7)), none]) rfl ?_
        exact wb_X0_markWays_68 C hN h hk20 hret
      · refine g_aload_n 0 C dX0_markWays_57 rfl rfl ?_
        refine g_get C fg_X0_52 0 rfl rfl dX0_markWays_58 ?_
        refine g_iload C dX0_markWays_61 rfl ?_
        refine g_iconst C dX0_markWays_63 ?_
        obtain ⟨hc3, h⟩ := chk_some h
        refine g_iast C 1 rfl hc3 rfl (ws' := (W_X0_markWays (eCy E) a_t a_t_possible g_t_0 g_t_1 g_t_2 g_t_3 g_t_4 g_t_5 g_t_6 g_t_7 g_t_8 g_t_9 g_t_10 g_t_11 g_t_12 g_t_14 g_t_15 (up c_possible y1 1))) rfl dX0_markWays_64 ?_
        refine g_iinc C hN dX0_markWays_65 rfl rfl (L' := [some (.ref a_t), none, none, some (.int (wI x3)), some (.int (wI x4)), some (.int (wI (x5 + 1))), some (.int (wI x6)), some (.int (wI x7)), some (.int (wI y1))]) rfl ?_
        refine g_mask [true, false, false, true, true, true, true, true, false] (L' := [some (.ref a_t), none, none, some (.int (wI x3)), some (.int (wI x4)), some (.int (wI (x5 + 1))), some (.int (wI x6)), some (.int (wI x7)), none]) rfl ?_
        exact wb_X0_markWays_68 C hN h hk20 hret
set_option maxRecDepth 100000 in
set_option maxHeartbeats 4000000 in
theorem wl_X0_markWays_20 {F : Nat} {v : Int × (Int → Int)} {x3 : Int} {x4 : Int} {x5 : Int} {x6 : Int} {x7 : Int} {c_possible : Int → Int} (C : Cx E cX0_markWays RX0 { frames := 0, cells := 0, slots := 0, locals := 0 }) (hN : eN E = 9) (h : ml_X0_markWays_20 F x3 x4 x5 x6 x7 c_possible = some v) (hret : ∀ (pc : Nat) (L : List (Option Value)), decode cX0_markWays pc = .ok (.ireturn, 1) → GG E 0 0 (W_X0_markWays (eCy E) a_t a_t_possible g_t_0 g_t_1 g_t_2 g_t_3 g_t_4 g_t_5 g_t_6 g_t_7 g_t_8 g_t_9 g_t_10 g_t_11 g_t_12 g_t_14 g_t_15 (v.2)) L pc [.int (wI (v.1))]) : GG E 0 0 (W_X0_markWays (eCy E) a_t a_t_possible g_t_0 g_t_1 g_t_2 g_t_3 g_t_4 g_t_5 g_t_6 g_t_7 g_t_8 g_t_9 g_t_10 g_t_11 g_t_12 g_t_14 g_t_15 c_possible) [some (.ref a_t), none, none, some (.int (wI x3)), some (.int (wI x4)), some (.int (wI x5)), some (.int (wI x6)), some (.int (wI x7)), none] 20 [] := by
  unfold ml_X0_markWays_20 at h
  exact loop_walk (g := fun (q : Int × Int × Int × (Int → Int)) => GG E 0 0 (W_X0_markWays (eCy E) a_t a_t_possible g_t_0 g_t_1 g_t_2 g_t_3 g_t_4 g_t_5 g_t_6 g_t_7 g_t_8 g_t_9 g_t_10 g_t_11 g_t_12 g_t_14 g_t_15 (q.2.2.2)) [some (.ref a_t), none, none, some (.int (wI x3)), some (.int (wI x4)), some (.int (wI (q.1))), some (.int (wI (q.2.1))), some (.int (wI (q.2.2.1))), none] 20 []) (fun k hk q h => wb_X0_markWays_20 C hN h (fun y0 y1 y2 y3 hh => hk (y0, y1, y2, y3) hh) hret) F (x5, x6, x7, c_possible) h
set_option maxRecDepth 100000 in
set_option maxHeartbeats 4000000 in
theorem wm_X0_markWays {F : Nat} {v : Int × (Int → Int)} {x1 : Int} {x2 : Int} {c_possible : Int → Int} (C : Cx E cX0_markWays RX0 { frames := 0, cells := 0, slots := 0, locals := 0 }) (hN : eN E = 9) (h : m_X0_markWays F x1 x2 c_possible = some v) (hret : ∀ (pc : Nat) (L : List (Option Value)), decode cX0_markWays pc = .ok (.ireturn, 1) → GG E 0 0 (W_X0_markWays (eCy E) a_t a_t_possible g_t_0 g_t_1 g_t_2 g_t_3 g_t_4 g_t_5 g_t_6 g_t_7 g_t_8 g_t_9 g_t_10 g_t_11 g_t_12 g_t_14 g_t_15 (v.2)) L pc [.int (wI (v.1))]) : GG E 0 0 (W_X0_markWays (eCy E) a_t a_t_possible g_t_0 g_t_1 g_t_2 g_t_3 g_t_4 g_t_5 g_t_6 g_t_7 g_t_8 g_t_9 g_t_10 g_t_11 g_t_12 g_t_14 g_t_15 c_possible) [some (.ref a_t), some (.int (wI x1)), some (.int (wI x2)), none, none, none, none, none, none] 0 [] := by
  unfold m_X0_markWays at h
  refine g_iload_n 1 C dX0_markWays_0 rfl rfl ?_
  refine g_iload_n 2 C dX0_markWays_1 rfl rfl ?_
  refine g_iand C dX0_markWays_2 ?_
  obtain ⟨y1, e_y1, h⟩ := nam_some h
  refine g_topI e_y1 ?_
  refine g_istore_n 3 C hN dX0_markWays_3 rfl rfl (L' := [some (.ref a_t), some (.int (wI x1)), some (.int (wI x2)), some (.int (wI y1)), none, none, none, none, none]) rfl ?_
  refine g_iload_n 1 C dX0_markWays_4 rfl rfl ?_
  refine g_iload_n 2 C dX0_markWays_5 rfl rfl ?_
  refine g_iconst C dX0_markWays_6 ?_
  refine g_ixor C dX0_markWays_7 ?_
  refine g_iand C dX0_markWays_8 ?_
  obtain ⟨y2, e_y2, h⟩ := nam_some h
  refine g_topI e_y2 ?_
  refine g_istore C hN dX0_markWays_9 rfl (L' := [some (.ref a_t), some (.int (wI x1)), some (.int (wI x2)), some (.int (wI y1)), some (.int (wI y2)), none, none, none, none]) rfl ?_
  refine g_iconst C dX0_markWays_11 ?_
  refine g_istore C hN dX0_markWays_12 rfl (L' := [some (.ref a_t), some (.int (wI x1)), some (.int (wI x2)), some (.int (wI y1)), some (.int (wI y2)), some (.int (wI 0)), none, none, none]) rfl ?_
  refine g_iload_n 3 C dX0_markWays_14 rfl rfl ?_
  refine g_istore C hN dX0_markWays_15 rfl (L' := [some (.ref a_t), some (.int (wI x1)), some (.int (wI x2)), some (.int (wI y1)), some (.int (wI y2)), some (.int (wI 0)), some (.int (wI y1)), none, none]) rfl ?_
  refine g_iconst C dX0_markWays_17 ?_
  refine g_istore C hN dX0_markWays_18 rfl (L' := [some (.ref a_t), some (.int (wI x1)), some (.int (wI x2)), some (.int (wI y1)), some (.int (wI y2)), some (.int (wI 0)), some (.int (wI y1)), some (.int (wI 0)), none]) rfl ?_
  refine g_mask [true, false, false, true, true, true, true, true, false] (L' := [some (.ref a_t), none, none, some (.int (wI y1)), some (.int (wI y2)), some (.int (wI 0)), some (.int (wI y1)), some (.int (wI 0)), none]) rfl ?_
  exact wl_X0_markWays_20 C hN h hret
end S_X0_markWays
set_option maxRecDepth 100000 in
set_option maxHeartbeats 4000000 in
theorem c_X0_markWays (l : Launch) (D : va_G) (cy : Nat → ClassId) (ad : AD) (a_t a_t_possible : Nat) (g_t_0 : Value) (g_t_1 : Value) (g_t_2 : Value) (g_t_3 : Value) (g_t_4 : Value) (g_t_5 : Value) (g_t_6 : Value) (g_t_7 : Value) (g_t_8 : Value) (g_t_9 : Value) (g_t_10 : Value) (g_t_11 : Value) (g_t_12 : Value) (g_t_14 : Value) (g_t_15 : Value) (x1 : Int) (x2 : Int) (c_possible : Int → Int) (F : Nat) {v : Int × (Int → Int)} (h : m_X0_markWays F x1 x2 c_possible = some v) : Ct l yX0_markWays cX0_markWays 9 (some .int) { frames := 0, cells := 0, slots := 0, locals := 0 } D cy ad [.ref a_t, .int (wI x1), .int (wI x2)] (W_X0_markWays cy a_t a_t_possible g_t_0 g_t_1 g_t_2 g_t_3 g_t_4 g_t_5 g_t_6 g_t_7 g_t_8 g_t_9 g_t_10 g_t_11 g_t_12 g_t_14 g_t_15 c_possible) (W_X0_markWays cy a_t a_t_possible g_t_0 g_t_1 g_t_2 g_t_3 g_t_4 g_t_5 g_t_6 g_t_7 g_t_8 g_t_9 g_t_10 g_t_11 g_t_12 g_t_14 g_t_15 (v.2)) (some (.int (wI (v.1)))) := by
  refine Ct.introI (j := 6) (plainFor_of_name (by decide)) rfl rfl (fun E C e1 e2 e3 e4 e5 hret => ?_)
  subst e1; subst e2; subst e3; subst e4
  exact wm_X0_markWays C e5 h hret
-- MovingStair$Counts.possibleWays()I
def W_X0_possibleWays (cy : Nat → ClassId) (a_t a_t_againstIt a_t_counted a_t_paces a_t_possible a_t_withIt : Nat) (g_t_1 : Value) (g_t_2 : Value) (g_t_3 : Value) (g_t_4 : Value) (g_t_6 : Value) (g_t_8 : Value) (g_t_9 : Value) (g_t_12 : Value) (c_size : Int) (c_least : Int) (c_most : Int) (c_againstIt : Int → Int) (c_counted : Int → Int) (c_paces : Int → Int) (c_possible : Int → Int) (c_withIt : Int → Int) : va_W := [(a_t, .inr (0, [.int (wI c_size), g_t_1, g_t_2, g_t_3, g_t_4, .ref a_t_paces, g_t_6, .ref a_t_counted, g_t_8, g_t_9, .ref a_t_withIt, .ref a_t_againstIt, g_t_12, .ref a_t_possible, .int (wI c_least), .int (wI c_most)])), (a_t_againstIt, .inl (cy 1, 201, .inl (aI c_againstIt))), (a_t_counted, .inl (cy 1, 20, .inl (aI c_counted))), (a_t_paces, .inl (cy 1, 20, .inl (aI c_paces))), (a_t_possible, .inl (cy 1, 1024, .inl (aI c_possible))), (a_t_withIt, .inl (cy 1, 201, .inl (aI c_withIt)))]
def mb_X0_possibleWays_147 (F : Nat) (k32 : Int → Int → Int → Int → (Int → Int) → (Int → Int) → (Int → Int) → Option (Int × Int × Int × (Int → Int) × (Int → Int) × (Int → Int))) (k99 : Int → Int → (Int → Int) → Option (Int × Int × Int × (Int → Int) × (Int → Int) × (Int → Int))) (x1 : Int) (x2 : Int) (x3 : Int) (x4 : Int) (c_size : Int) (c_least : Int) (c_most : Int) (c_againstIt : Int → Int) (c_counted : Int → Int) (c_paces : Int → Int) (c_possible : Int → Int) (c_withIt : Int → Int) : Option (Int × Int × Int × (Int → Int) × (Int → Int) × (Int → Int)) :=
  k99 x1 (x4 + 1) c_possible
def mb_X0_possibleWays_99 (F : Nat) (k32 : Int → Int → Int → Int → (Int → Int) → (Int → Int) → (Int → Int) → Option (Int × Int × Int × (Int → Int) × (Int → Int) × (Int → Int))) (k99 : Int → Int → (Int → Int) → Option (Int × Int × Int × (Int → Int) × (Int → Int) × (Int → Int))) (x1 : Int) (x2 : Int) (x3 : Int) (x4 : Int) (c_size : Int) (c_least : Int) (c_most : Int) (c_againstIt : Int → Int) (c_counted : Int → Int) (c_paces : Int → Int) (c_possible : Int → Int) (c_withIt : Int → Int) : Option (Int × Int × Int × (Int → Int) × (Int → Int) × (Int → Int)) :=
  if wI 200 < wI x4 then
    (k32 x1 (x3 + 1) c_least c_most c_againstIt c_possible c_withIt)
  else
    (chk (0 ≤ x4 ∧ x4 < 201) <| chk (0 ≤ x4 ∧ x4 < 201) <| if wI (orI (c_withIt x4) (c_againstIt x4)) = wI x2 then
    (chk (0 ≤ x4 ∧ x4 < 201) <| chk (0 ≤ x4 ∧ x4 < 201) <| bnd2 (m_X0_markWays F (c_withIt x4) (c_againstIt x4) c_possible) fun r5 o6 => nam (x1 + r5) fun y8 => mb_X0_possibleWays_147 F k32 k99 y8 x2 x3 x4 c_size c_least c_most c_againstIt c_counted c_paces o6 c_withIt)
  else
    (mb_X0_possibleWays_147 F k32 k99 x1 x2 x3 x4 c_size c_least c_most c_againstIt c_counted c_paces c_possible c_withIt))
def ml_X0_possibleWays_99 (F : Nat) (k32 : Int → Int → Int → Int → (Int → Int) → (Int → Int) → (Int → Int) → Option (Int × Int × Int × (Int → Int) × (Int → Int) × (Int → Int))) (x1 : Int) (x2 : Int) (x3 : Int) (x4 : Int) (c_size : Int) (c_least : Int) (c_most : Int) (c_againstIt : Int → Int) (c_counted : Int → Int) (c_paces : Int → Int) (c_possible : Int → Int) (c_withIt : Int → Int) : Option (Int × Int × Int × (Int → Int) × (Int → Int) × (Int → Int)) :=
  loopN (fun (k : Int × Int × (Int → Int) → Option (Int × Int × Int × (Int → Int) × (Int → Int) × (Int → Int))) q => mb_X0_possibleWays_99 F k32 (fun y0 y1 y2 => k (y0, y1, y2)) q.1 x2 x3 q.2.1 c_size c_least c_most c_againstIt c_counted c_paces q.2.2 c_withIt) F (x1, x4, c_possible)
def mb_X0_possibleWays_57 (F : Nat) (k32 : Int → Int → Int → Int → (Int → Int) → (Int → Int) → (Int → Int) → Option (Int × Int × Int × (Int → Int) × (Int → Int) × (Int → Int))) (k57 : Int → Int → Int → (Int → Int) → (Int → Int) → Option (Int × Int × Int × (Int → Int) × (Int → Int) × (Int → Int))) (x1 : Int) (x2 : Int) (x3 : Int) (x4 : Int) (c_size : Int) (c_least : Int) (c_most : Int) (c_againstIt : Int → Int) (c_counted : Int → Int) (c_paces : Int → Int) (c_possible : Int → Int) (c_withIt : Int → Int) : Option (Int × Int × Int × (Int → Int) × (Int → Int) × (Int → Int)) :=
  if wI c_size ≤ wI x4 then
    (ml_X0_possibleWays_99 F k32 x1 x2 x3 1 c_size c_least c_most c_againstIt c_counted c_paces c_possible c_withIt)
  else
    (bnd3 (m_X0_markFitting F 201 x4 1 x3 c_withIt c_counted c_paces) fun o1 o2 o3 => bnd3 (m_X0_markFitting F 201 x4 (-1) x3 c_againstIt c_counted c_paces) fun o5 o6 o7 => k57 (x4 + 1) o5 o6 o7 o3)
def ml_X0_possibleWays_57 (F : Nat) (k32 : Int → Int → Int → Int → (Int → Int) → (Int → Int) → (Int → Int) → Option (Int × Int × Int × (Int → Int) × (Int → Int) × (Int → Int))) (x1 : Int) (x2 : Int) (x3 : Int) (x4 : Int) (c_size : Int) (c_least : Int) (c_most : Int) (c_againstIt : Int → Int) (c_counted : Int → Int) (c_paces : Int → Int) (c_possible : Int → Int) (c_withIt : Int → Int) : Option (Int × Int × Int × (Int → Int) × (Int → Int) × (Int → Int)) :=
  loopN (fun (k : Int × Int × Int × (Int → Int) × (Int → Int) → Option (Int × Int × Int × (Int → Int) × (Int → Int) × (Int → Int))) q => mb_X0_possibleWays_57 F k32 (fun y0 y1 y2 y3 y4 => k (y0, y1, y2, y3, y4)) x1 x2 x3 q.1 c_size q.2.1 q.2.2.1 q.2.2.2.1 c_counted c_paces c_possible q.2.2.2.2) F (x4, c_least, c_most, c_againstIt, c_withIt)
def mb_X0_possibleWays_32 (F : Nat) (k32 : Int → Int → Int → Int → (Int → Int) → (Int → Int) → (Int → Int) → Option (Int × Int × Int × (Int → Int) × (Int → Int) × (Int → Int))) (x1 : Int) (x2 : Int) (x3 : Int) (c_size : Int) (c_least : Int) (c_most : Int) (c_againstIt : Int → Int) (c_counted : Int → Int) (c_paces : Int → Int) (c_possible : Int → Int) (c_withIt : Int → Int) : Option (Int × Int × Int × (Int → Int) × (Int → Int) × (Int → Int)) :=
  if wI 30 < wI x3 then
    (some (x1, c_least, c_most, c_againstIt, c_possible, c_withIt))
  else
    (bnd1 (m_J7_fill_53178 F 201 0 c_withIt) fun o1 => bnd1 (m_J7_fill_53178 F 201 0 c_againstIt) fun o3 => ml_X0_possibleWays_57 F k32 x1 x2 x3 0 c_size c_least c_most o3 c_counted c_paces c_possible o1)
def ml_X0_possibleWays_32 (F : Nat) (x1 : Int) (x2 : Int) (x3 : Int) (c_size : Int) (c_least : Int) (c_most : Int) (c_againstIt : Int → Int) (c_counted : Int → Int) (c_paces : Int → Int) (c_possible : Int → Int) (c_withIt : Int → Int) : Option (Int × Int × Int × (Int → Int) × (Int → Int) × (Int → Int)) :=
  loopN (fun (k : Int × Int × Int × Int × (Int → Int) × (Int → Int) × (Int → Int) → Option (Int × Int × Int × (Int → Int) × (Int → Int) × (Int → Int))) q => mb_X0_possibleWays_32 F (fun y0 y1 y2 y3 y4 y5 y6 => k (y0, y1, y2, y3, y4, y5, y6)) q.1 x2 q.2.1 c_size q.2.2.1 q.2.2.2.1 q.2.2.2.2.1 c_counted c_paces q.2.2.2.2.2.1 q.2.2.2.2.2.2) F (x1, x3, c_least, c_most, c_againstIt, c_possible, c_withIt)
def m_X0_possibleWays (F : Nat) (c_size : Int) (c_least : Int) (c_most : Int) (c_againstIt : Int → Int) (c_counted : Int → Int) (c_paces : Int → Int) (c_possible : Int → Int) (c_withIt : Int → Int) : Option (Int × Int × Int × (Int → Int) × (Int → Int) × (Int → Int)) :=
  if wI c_size ≤ wI 10 then
    (bnd1 (m_J7_fill_53178 F 1024 0 c_possible) fun o1 => nam ((shlI 1 c_size) - 1) fun y3 => ml_X0_possibleWays_32 F 0 y3 0 c_size c_least c_most c_againstIt c_counted c_paces o1 c_withIt)
  else
    (some (0, c_least, c_most, c_againstIt, c_possible, c_withIt))
section S_X0_possibleWays
variable {E : EE} {a_t a_t_againstIt a_t_counted a_t_paces a_t_possible a_t_withIt : Nat} {g_t_1 : Value} {g_t_2 : Value} {g_t_3 : Value} {g_t_4 : Value} {g_t_6 : Value} {g_t_8 : Value} {g_t_9 : Value} {g_t_12 : Value}
set_option maxRecDepth 100000 in
set_option maxHeartbeats 4000000 in
theorem wb_X0_possibleWays_147 {F : Nat} {k32 : Int → Int → Int → Int → (Int → Int) → (Int → Int) → (Int → Int) → Option (Int × Int × Int × (Int → Int) × (Int → Int) × (Int → Int))} {k99 : Int → Int → (Int → Int) → Option (Int × Int × Int × (Int → Int) × (Int → Int) × (Int → Int))} {v : Int × Int × Int × (Int → Int) × (Int → Int) × (Int → Int)} {x1 : Int} {x2 : Int} {x3 : Int} {x4 : Int} {c_size : Int} {c_least : Int} {c_most : Int} {c_againstIt : Int → Int} {c_counted : Int → Int} {c_paces : Int → Int} {c_possible : Int → Int} {c_withIt : Int → Int} (C : Cx E cX0_possibleWays RX0 { frames := 3, cells := 0, slots := 0, locals := 71 }) (hN : eN E = 5) (h : mb_X0_possibleWays_147 F k32 k99 x1 x2 x3 x4 c_size c_least c_most c_againstIt c_counted c_paces c_possible c_withIt = some v) (hk32 : ∀ (y_x1 : Int) (y_x3 : Int) (y_c_least : Int) (y_c_most : Int) (y_c_againstIt : Int → Int) (y_c_possible : Int → Int) (y_c_withIt : Int → Int), k32 y_x1 y_x3 y_c_least y_c_most y_c_againstIt y_c_possible y_c_withIt = some v → GG E 0 0 (W_X0_possibleWays (eCy E) a_t a_t_againstIt a_t_counted a_t_paces a_t_possible a_t_withIt g_t_1 g_t_2 g_t_3 g_t_4 g_t_6 g_t_8 g_t_9 g_t_12 c_size y_c_least y_c_most y_c_againstIt c_counted c_paces y_c_possible y_c_withIt) [some (.ref a_t), some (.int (wI y_x1)), some (.int (wI x2)), some (.int (wI y_x3)), none] 32 []) (hk99 : ∀ (y_x1 : Int) (y_x4 : Int) (y_c_possible : Int → Int), k99 y_x1 y_x4 y_c_possible = some v → GG E 0 0 (W_X0_possibleWays (eCy E) a_t a_t_againstIt a_t_counted a_t_paces a_t_possible a_t_withIt g_t_1 g_t_2 g_t_3 g_t_4 g_t_6 g_t_8 g_t_9 g_t_12 c_size c_least c_most c_againstIt c_counted c_paces y_c_possible c_withIt) [some (.ref a_t), some (.int (wI y_x1)), some (.int (wI x2)), some (.int (wI x3)), some (.int (wI y_x4))] 99 []) (hret : ∀ (pc : Nat) (L : List (Option Value)), decode cX0_possibleWays pc = .ok (.ireturn, 1) → GG E 0 0 (W_X0_possibleWays (eCy E) a_t a_t_againstIt a_t_counted a_t_paces a_t_possible a_t_withIt g_t_1 g_t_2 g_t_3 g_t_4 g_t_6 g_t_8 g_t_9 g_t_12 c_size (v.2.1) (v.2.2.1) (v.2.2.2.1) c_counted c_paces (v.2.2.2.2.1) (v.2.2.2.2.2)) L pc [.int (wI (v.1))]) : GG E 0 0 (W_X0_possibleWays (eCy E) a_t a_t_againstIt a_t_counted a_t_paces a_t_possible a_t_withIt g_t_1 g_t_2 g_t_3 g_t_4 g_t_6 g_t_8 g_t_9 g_t_12 c_size c_least c_most c_againstIt c_counted c_paces c_possible c_withIt) [some (.ref a_t), some (.int (wI x1)), some (.int (wI x2)), some (.int (wI x3)), some (.int (wI x4))] 147 [] := by
  unfold mb_X0_possibleWays_147 at h
  refine g_iinc C hN dX0_possibleWays_147 rfl rfl (L' := [some (.ref a_t), some (.int (wI x1)), some (.int (wI x2)), some (.int (wI x3)), some (.int (wI (x4 + 1)))]) rfl ?_
  refine g_goto (tgt := 99) C dX0_possibleWays_150 (by decide) ?_
  exact hk99 _ _ _ h
set_option maxRecDepth 100000 in
set_option maxHeartbeats 4000000 in
theorem wb_X0_possibleWays_99 {F : Nat} {k32 : Int → Int → Int → Int → (Int → Int) → (Int → Int) → (Int → Int) → Option (Int × Int × Int × (Int → Int) × (Int → Int) × (Int → Int))} {k99 : Int → Int → (Int → Int) → Option (Int × Int × Int × (Int → Int) × (Int → Int) × (Int → Int))} {v : Int × Int × Int × (Int → Int) × (Int → Int) × (Int → Int)} {x1 : Int} {x2 : Int} {x3 : Int} {x4 : Int} {c_size : Int} {c_least : Int} {c_most : Int} {c_againstIt : Int → Int} {c_counted : Int → Int} {c_paces : Int → Int} {c_possible : Int → Int} {c_withIt : Int → Int} (C : Cx E cX0_possibleWays RX0 { frames := 3, cells := 0, slots := 0, locals := 71 }) (hN : eN E = 5) (h : mb_X0_possibleWays_99 F k32 k99 x1 x2 x3 x4 c_size c_least c_most c_againstIt c_counted c_paces c_possible c_withIt = some v) (hk32 : ∀ (y_x1 : Int) (y_x3 : Int) (y_c_least : Int) (y_c_most : Int) (y_c_againstIt : Int → Int) (y_c_possible : Int → Int) (y_c_withIt : Int → Int), k32 y_x1 y_x3 y_c_least y_c_most y_c_againstIt y_c_possible y_c_withIt = some v → GG E 0 0 (W_X0_possibleWays (eCy E) a_t a_t_againstIt a_t_counted a_t_paces a_t_possible a_t_withIt g_t_1 g_t_2 g_t_3 g_t_4 g_t_6 g_t_8 g_t_9 g_t_12 c_size y_c_least y_c_most y_c_againstIt c_counted c_paces y_c_possible y_c_withIt) [some (.ref a_t), some (.int (wI y_x1)), some (.int (wI x2)), some (.int (wI y_x3)), none] 32 []) (hk99 : ∀ (y_x1 : Int) (y_x4 : Int) (y_c_possible : Int → Int), k99 y_x1 y_x4 y_c_possible = some v → GG E 0 0 (W_X0_possibleWays (eCy E) a_t a_t_againstIt a_t_counted a_t_paces a_t_possible a_t_withIt g_t_1 g_t_2 g_t_3 g_t_4 g_t_6 g_t_8 g_t_9 g_t_12 c_size c_least c_most c_againstIt c_counted c_paces y_c_possible c_withIt) [some (.ref a_t), some (.int (wI y_x1)), some (.int (wI x2)), some (.int (wI x3)), some (.int (wI y_x4))] 99 []) (hret : ∀ (pc : Nat) (L : List (Option Value)), decode cX0_possibleWays pc = .ok (.ireturn, 1) → GG E 0 0 (W_X0_possibleWays (eCy E) a_t a_t_againstIt a_t_counted a_t_paces a_t_possible a_t_withIt g_t_1 g_t_2 g_t_3 g_t_4 g_t_6 g_t_8 g_t_9 g_t_12 c_size (v.2.1) (v.2.2.1) (v.2.2.2.1) c_counted c_paces (v.2.2.2.2.1) (v.2.2.2.2.2)) L pc [.int (wI (v.1))]) : GG E 0 0 (W_X0_possibleWays (eCy E) a_t a_t_againstIt a_t_counted a_t_paces a_t_possible a_t_withIt g_t_1 g_t_2 g_t_3 g_t_4 g_t_6 g_t_8 g_t_9 g_t_12 c_size c_least c_most c_againstIt c_counted c_paces c_possible c_withIt) [some (.ref a_t), some (.int (wI x1)), some (.int (wI x2)), some (.int (wI x3)), some (.int (wI x4))] 99 [] := by
  unfold mb_X0_possibleWays_99 at h
  refine g_iload C dX0_possibleWays_99 rfl ?_
  refine g_sipush C dX0_possibleWays_101 (by decide) ?_
  refine g_icmp_gt 153 C dX0_possibleWays_104 (by decide) h (fun h => ?_) (fun h => ?_)
  · refine g_iinc C hN dX0_possibleWays_153 rfl rfl (L' := [some (.ref a_t), some (.int (wI x1)), some (.int (wI x2)), some (.int (wI (x3 + 1))), some (.int (wI x4))]) rfl ?_
    refine g_goto (tgt := 32) C dX0_possibleWays_156 (by decide) ?_
    refine g_mask [true, true, true, true, false] (L' := [some (.ref a_t), some (.int (wI x1)), some (.int (wI x2)), some (.int (wI (x3 + 1))), none]) rfl ?_
    exact hk32 _ _ _ _ _ _ _ h
  · refine g_aload_n 0 C dX0_possibleWays_107 rfl rfl ?_
    refine g_get C fg_X0_43 0 rfl rfl dX0_possibleWays_108 ?_
    refine g_iload C dX0_possibleWays_111 rfl ?_
    obtain ⟨hc1, h⟩ := chk_some h
    refine g_iald C 5 rfl hc1 rfl dX0_possibleWays_113 ?_
    refine g_aload_n 0 C dX0_possibleWays_114 rfl rfl ?_
    refine g_get C fg_X0_46 0 rfl rfl dX0_possibleWays_115 ?_
    refine g_iload C dX0_possibleWays_118 rfl ?_
    obtain ⟨hc2, h⟩ := chk_some h
    refine g_iald C 1 rfl hc2 rfl dX0_possibleWays_120 ?_
    refine g_ior C dX0_possibleWays_121 ?_
    refine g_iload_n 2 C dX0_possibleWays_122 rfl rfl ?_
    refine g_icmp_ne 147 C dX0_possibleWays_123 (by decide) h (fun h => ?_) (fun h => ?_)
    · exact wb_X0_possibleWays_147 C hN h hk32 hk99 hret
    · refine g_iload_n 1 C dX0_possibleWays_126 rfl rfl ?_
      refine g_aload_n 0 C dX0_possibleWays_127 rfl rfl ?_
      refine g_aload_n 0 C dX0_possibleWays_128 rfl rfl ?_
      refine g_get C fg_X0_43 0 rfl rfl dX0_possibleWays_129 ?_
      refine g_iload C dX0_possibleWays_132 rfl ?_
      obtain ⟨hc3, h⟩ := chk_some h
      refine g_iald C 5 rfl hc3 rfl dX0_possibleWays_134 ?_
      refine g_aload_n 0 C dX0_possibleWays_135 rfl rfl ?_
      refine g_get C fg_X0_46 0 rfl rfl dX0_possibleWays_136 ?_
      refine g_iload C dX0_possibleWays_139 rfl ?_
      obtain ⟨hc4, h⟩ := chk_some h
      refine g_iald C 1 rfl hc4 rfl dX0_possibleWays_141 ?_
      obtain ⟨r5, o6, hr7, h⟩ := bnd2_some h
      refine g_callI [0, 4] [1, 2, 3, 5] [4, 0, 1, 2, 5, 3] C mt_X0_113 (c_X0_markWays _ _ _ _ a_t a_t_possible (.int (wI c_size)) (g_t_1) (g_t_2) (g_t_3) (g_t_4) (.ref a_t_paces) (g_t_6) (.ref a_t_counted) (g_t_8) (g_t_9) (.ref a_t_withIt) (.ref a_t_againstIt) (g_t_12) (.int (wI c_least)) (.int (wI c_most)) (c_withIt x4) (c_againstIt x4) c_possible F hr7) (q0 := 0) rfl (ci := 0) rfl rfl rfl (ws2 := (W_X0_possibleWays (eCy E) a_t a_t_againstIt a_t_counted a_t_paces a_t_possible a_t_withIt g_t_1 g_t_2 g_t_3 g_t_4 g_t_6 g_t_8 g_t_9 g_t_12 c_size c_least c_most c_againstIt c_counted c_paces o6 c_withIt)) rfl rfl rfl (rest := [.int (wI x1)]) rfl rfl rfl dX0_possibleWays_142 ?_
      refine g_iadd C dX0_possibleWays_145 ?_
      obtain ⟨y8, e_y8, h⟩ := nam_some h
      refine g_topI e_y8 ?_
      refine g_istore_n 1 C hN dX0_possibleWays_146 rfl rfl (L' := [some (.ref a_t), some (.int (wI y8)), some (.int (wI x2)), some (.int (wI x3)), some (.int (wI x4))]) rfl ?_
      exact wb_X0_possibleWays_147 C hN h hk32 hk99 hret
set_option maxRecDepth 100000 in
set_option maxHeartbeats 4000000 in
theorem wl_X0_possibleWays_99 {F : Nat} {k32 : Int → Int → Int → Int → (Int → Int) → (Int → Int) → (Int → Int) → Option (Int × Int × Int × (Int → Int) × (Int → Int) × (Int → Int))} {v : Int × Int × Int × (Int → Int) × (Int → Int) × (Int → Int)} {x1 : Int} {x2 : Int} {x3 : Int} {x4 : Int} {c_size : Int} {c_least : Int} {c_most : Int} {c_againstIt : Int → Int} {c_counted : Int → Int} {c_paces : Int → Int} {c_possible : Int → Int} {c_withIt : Int → Int} (C : Cx E cX0_possibleWays RX0 { frames := 3, cells := 0, slots := 0, locals := 71 }) (hN : eN E = 5) (h : ml_X0_possibleWays_99 F k32 x1 x2 x3 x4 c_size c_least c_most c_againstIt c_counted c_paces c_possible c_withIt = some v) (hk32 : ∀ (y_x1 : Int) (y_x3 : Int) (y_c_least : Int) (y_c_most : Int) (y_c_againstIt : Int → Int) (y_c_possible : Int → Int) (y_c_withIt : Int → Int), k32 y_x1 y_x3 y_c_least y_c_most y_c_againstIt y_c_possible y_c_withIt = some v → GG E 0 0 (W_X0_possibleWays (eCy E) a_t a_t_againstIt a_t_counted a_t_paces a_t_possible a_t_withIt g_t_1 g_t_2 g_t_3 g_t_4 g_t_6 g_t_8 g_t_9 g_t_12 c_size y_c_least y_c_most y_c_againstIt c_counted c_paces y_c_possible y_c_withIt) [some (.ref a_t), some (.int (wI y_x1)), some (.int (wI x2)), some (.int (wI y_x3)), none] 32 []) (hret : ∀ (pc : Nat) (L : List (Option Value)), decode cX0_possibleWays pc = .ok (.ireturn, 1) → GG E 0 0 (W_X0_possibleWays (eCy E) a_t a_t_againstIt a_t_counted a_t_paces a_t_possible a_t_withIt g_t_1 g_t_2 g_t_3 g_t_4 g_t_6 g_t_8 g_t_9 g_t_12 c_size (v.2.1) (v.2.2.1) (v.2.2.2.1) c_counted c_paces (v.2.2.2.2.1) (v.2.2.2.2.2)) L pc [.int (wI (v.1))]) : GG E 0 0 (W_X0_possibleWays (eCy E) a_t a_t_againstIt a_t_counted a_t_paces a_t_possible a_t_withIt g_t_1 g_t_2 g_t_3 g_t_4 g_t_6 g_t_8 g_t_9 g_t_12 c_size c_least c_most c_againstIt c_counted c_paces c_possible c_withIt) [some (.ref a_t), some (.int (wI x1)), some (.int (wI x2)), some (.int (wI x3)), some (.int (wI x4))] 99 [] := by
  unfold ml_X0_possibleWays_99 at h
  exact loop_walk (g := fun (q : Int × Int × (Int → Int)) => GG E 0 0 (W_X0_possibleWays (eCy E) a_t a_t_againstIt a_t_counted a_t_paces a_t_possible a_t_withIt g_t_1 g_t_2 g_t_3 g_t_4 g_t_6 g_t_8 g_t_9 g_t_12 c_size c_least c_most c_againstIt c_counted c_paces (q.2.2) c_withIt) [some (.ref a_t), some (.int (wI (q.1))), some (.int (wI x2)), some (.int (wI x3)), some (.int (wI (q.2.1)))] 99 []) (fun k hk q h => wb_X0_possibleWays_99 C hN h hk32 (fun y0 y1 y2 hh => hk (y0, y1, y2) hh) hret) F (x1, x4, c_possible) h
set_option maxRecDepth 100000 in
set_option maxHeartbeats 4000000 in
theorem wb_X0_possibleWays_57 {F : Nat} {k32 : Int → Int → Int → Int → (Int → Int) → (Int → Int) → (Int → Int) → Option (Int × Int × Int × (Int → Int) × (Int → Int) × (Int → Int))} {k57 : Int → Int → Int → (Int → Int) → (Int → Int) → Option (Int × Int × Int × (Int → Int) × (Int → Int) × (Int → Int))} {v : Int × Int × Int × (Int → Int) × (Int → Int) × (Int → Int)} {x1 : Int} {x2 : Int} {x3 : Int} {x4 : Int} {c_size : Int} {c_least : Int} {c_most : Int} {c_againstIt : Int → Int} {c_counted : Int → Int} {c_paces : Int → Int} {c_possible : Int → Int} {c_withIt : Int → Int} (C : Cx E cX0_possibleWays RX0 { frames := 3, cells := 0, slots := 0, locals := 71 }) (hN : eN E = 5) (h : mb_X0_possibleWays_57 F k32 k57 x1 x2 x3 x4 c_size c_least c_most c_againstIt c_counted c_paces c_possible c_withIt = some v) (hk32 : ∀ (y_x1 : Int) (y_x3 : Int) (y_c_least : Int) (y_c_most : Int) (y_c_againstIt : Int → Int) (y_c_possible : Int → Int) (y_c_withIt : Int → Int), k32 y_x1 y_x3 y_c_least y_c_most y_c_againstIt y_c_possible y_c_withIt = some v → GG E 0 0 (W_X0_possibleWays (eCy E) a_t a_t_againstIt a_t_counted a_t_paces a_t_possible a_t_withIt g_t_1 g_t_2 g_t_3 g_t_4 g_t_6 g_t_8 g_t_9 g_t_12 c_size y_c_least y_c_most y_c_againstIt c_counted c_paces y_c_possible y_c_withIt) [some (.ref a_t), some (.int (wI y_x1)), some (.int (wI x2)), some (.int (wI y_x3)), none] 32 []) (hk57 : ∀ (y_x4 : Int) (y_c_least : Int) (y_c_most : Int) (y_c_againstIt : Int → Int) (y_c_withIt : Int → Int), k57 y_x4 y_c_least y_c_most y_c_againstIt y_c_withIt = some v → GG E 0 0 (W_X0_possibleWays (eCy E) a_t a_t_againstIt a_t_counted a_t_paces a_t_possible a_t_withIt g_t_1 g_t_2 g_t_3 g_t_4 g_t_6 g_t_8 g_t_9 g_t_12 c_size y_c_least y_c_most y_c_againstIt c_counted c_paces c_possible y_c_withIt) [some (.ref a_t), some (.int (wI x1)), some (.int (wI x2)), some (.int (wI x3)), some (.int (wI y_x4))] 57 []) (hret : ∀ (pc : Nat) (L : List (Option Value)), decode cX0_possibleWays pc = .ok (.ireturn, 1) → GG E 0 0 (W_X0_possibleWays (eCy E) a_t a_t_againstIt a_t_counted a_t_paces a_t_possible a_t_withIt g_t_1 g_t_2 g_t_3 g_t_4 g_t_6 g_t_8 g_t_9 g_t_12 c_size (v.2.1) (v.2.2.1) (v.2.2.2.1) c_counted c_paces (v.2.2.2.2.1) (v.2.2.2.2.2)) L pc [.int (wI (v.1))]) : GG E 0 0 (W_X0_possibleWays (eCy E) a_t a_t_againstIt a_t_counted a_t_paces a_t_possible a_t_withIt g_t_1 g_t_2 g_t_3 g_t_4 g_t_6 g_t_8 g_t_9 g_t_12 c_size c_least c_most c_againstIt c_counted c_paces c_possible c_withIt) [some (.ref a_t), some (.int (wI x1)), some (.int (wI x2)), some (.int (wI x3)), some (.int (wI x4))] 57 [] := by
  unfold mb_X0_possibleWays_57 at h
  refine g_iload C dX0_possibleWays_57 rfl ?_
  refine g_aload_n 0 C dX0_possibleWays_59 rfl rfl ?_
  refine g_get C fg_X0_9 0 rfl rfl dX0_possibleWays_60 ?_
  refine g_st (st' := [.int (wI c_size), .int (wI x4)]) rfl ?_
  refine g_icmp_ge 96 C dX0_possibleWays_63 (by decide) h (fun h => ?_) (fun h => ?_)
  · refine g_iconst C dX0_possibleWays_96 ?_
    refine g_istore C hN dX0_possibleWays_97 rfl (L' := [some (.ref a_t), some (.int (wI x1)), some (.int (wI x2)), some (.int (wI x3)), some (.int (wI 1))]) rfl ?_
    exact wl_X0_possibleWays_99 C hN h hk32 hret
  · refine g_aload_n 0 C dX0_possibleWays_66 rfl rfl ?_
    refine g_aload_n 0 C dX0_possibleWays_67 rfl rfl ?_
    refine g_get C fg_X0_43 0 rfl rfl dX0_possibleWays_68 ?_
    refine g_iload C dX0_possibleWays_71 rfl ?_
    refine g_iconst C dX0_possibleWays_73 ?_
    refine g_iload_n 3 C dX0_possibleWays_74 rfl rfl ?_
    obtain ⟨o1, o2, o3, hr4, h⟩ := bnd3_some h
    refine g_callV [0, 5, 2, 3] [1, 4] [2, 0, 4, 5, 1, 3] C mt_X0_100 (c_X0_markFitting _ _ _ _ a_t a_t_withIt a_t_counted a_t_paces 201 (.int (wI c_size)) (g_t_1) (g_t_2) (g_t_3) (g_t_4) (g_t_6) (g_t_8) (g_t_9) (.ref a_t_withIt) (.ref a_t_againstIt) (g_t_12) (.ref a_t_possible) x4 1 x3 c_least c_most c_withIt c_counted c_paces F hr4 rfl) (q0 := 0) rfl (ci := 0) rfl rfl rfl (ws2 := (W_X0_possibleWays (eCy E) a_t a_t_againstIt a_t_counted a_t_paces a_t_possible a_t_withIt g_t_1 g_t_2 g_t_3 g_t_4 g_t_6 g_t_8 g_t_9 g_t_12 c_size o1 o2 c_againstIt c_counted c_paces c_possible o3)) rfl rfl rfl (rest := []) rfl rfl rfl dX0_possibleWays_75 ?_
    refine g_aload_n 0 C dX0_possibleWays_78 rfl rfl ?_
    refine g_aload_n 0 C dX0_possibleWays_79 rfl rfl ?_
    refine g_get C fg_X0_46 0 rfl rfl dX0_possibleWays_80 ?_
    refine g_iload C dX0_possibleWays_83 rfl ?_
    refine g_iconst C dX0_possibleWays_85 ?_
    refine g_iload_n 3 C dX0_possibleWays_86 rfl rfl ?_
    obtain ⟨o5, o6, o7, hr8, h⟩ := bnd3_some h
    refine g_callV [0, 1, 2, 3] [4, 5] [2, 3, 4, 5, 0, 1] C mt_X0_100 (c_X0_markFitting _ _ _ _ a_t a_t_againstIt a_t_counted a_t_paces 201 (.int (wI c_size)) (g_t_1) (g_t_2) (g_t_3) (g_t_4) (g_t_6) (g_t_8) (g_t_9) (.ref a_t_withIt) (.ref a_t_againstIt) (g_t_12) (.ref a_t_possible) x4 (-1) x3 o1 o2 c_againstIt c_counted c_paces F hr8 rfl) (q0 := 0) rfl (ci := 0) rfl rfl rfl (ws2 := (W_X0_possibleWays (eCy E) a_t a_t_againstIt a_t_counted a_t_paces a_t_possible a_t_withIt g_t_1 g_t_2 g_t_3 g_t_4 g_t_6 g_t_8 g_t_9 g_t_12 c_size o5 o6 o7 c_counted c_paces c_possible o3)) rfl rfl rfl (rest := []) rfl rfl rfl dX0_possibleWays_87 ?_
    refine g_iinc C hN dX0_possibleWays_90 rfl rfl (L' := [some (.ref a_t), some (.int (wI x1)), some (.int (wI x2)), some (.int (wI x3)), some (.int (wI (x4 + 1)))]) rfl ?_
    refine g_goto (tgt := 57) C dX0_possibleWays_93 (by decide) ?_
    exact hk57 _ _ _ _ _ h
set_option maxRecDepth 100000 in
set_option maxHeartbeats 4000000 in
theorem wl_X0_possibleWays_57 {F : Nat} {k32 : Int → Int → Int → Int → (Int → Int) → (Int → Int) → (Int → Int) → Option (Int × Int × Int × (Int → Int) × (Int → Int) × (Int → Int))} {v : Int × Int × Int × (Int → Int) × (Int → Int) × (Int → Int)} {x1 : Int} {x2 : Int} {x3 : Int} {x4 : Int} {c_size : Int} {c_least : Int} {c_most : Int} {c_againstIt : Int → Int} {c_counted : Int → Int} {c_paces : Int → Int} {c_possible : Int → Int} {c_withIt : Int → Int} (C : Cx E cX0_possibleWays RX0 { frames := 3, cells := 0, slots := 0, locals := 71 }) (hN : eN E = 5) (h : ml_X0_possibleWays_57 F k32 x1 x2 x3 x4 c_size c_least c_most c_againstIt c_counted c_paces c_possible c_withIt = some v) (hk32 : ∀ (y_x1 : Int) (y_x3 : Int) (y_c_least : Int) (y_c_most : Int) (y_c_againstIt : Int → Int) (y_c_possible : Int → Int) (y_c_withIt : Int → Int), k32 y_x1 y_x3 y_c_least y_c_most y_c_againstIt y_c_possible y_c_withIt = some v → GG E 0 0 (W_X0_possibleWays (eCy E) a_t a_t_againstIt a_t_counted a_t_paces a_t_possible a_t_withIt g_t_1 g_t_2 g_t_3 g_t_4 g_t_6 g_t_8 g_t_9 g_t_12 c_size y_c_least y_c_most y_c_againstIt c_counted c_paces y_c_possible y_c_withIt) [some (.ref a_t), some (.int (wI y_x1)), some (.int (wI x2)), some (.int (wI y_x3)), none] 32 []) (hret : ∀ (pc : Nat) (L : List (Option Value)), decode cX0_possibleWays pc = .ok (.ireturn, 1) → GG E 0 0 (W_X0_possibleWays (eCy E) a_t a_t_againstIt a_t_counted a_t_paces a_t_possible a_t_withIt g_t_1 g_t_2 g_t_3 g_t_4 g_t_6 g_t_8 g_t_9 g_t_12 c_size (v.2.1) (v.2.2.1) (v.2.2.2.1) c_counted c_paces (v.2.2.2.2.1) (v.2.2.2.2.2)) L pc [.int (wI (v.1))]) : GG E 0 0 (W_X0_possibleWays (eCy E) a_t a_t_againstIt a_t_counted a_t_paces a_t_possible a_t_withIt g_t_1 g_t_2 g_t_3 g_t_4 g_t_6 g_t_8 g_t_9 g_t_12 c_size c_least c_most c_againstIt c_counted c_paces c_possible c_withIt) [some (.ref a_t), some (.int (wI x1)), some (.int (wI x2)), some (.int (wI x3)), some (.int (wI x4))] 57 [] := by
  unfold ml_X0_possibleWays_57 at h
  exact loop_walk (g := fun (q : Int × Int × Int × (Int → Int) × (Int → Int)) => GG E 0 0 (W_X0_possibleWays (eCy E) a_t a_t_againstIt a_t_counted a_t_paces a_t_possible a_t_withIt g_t_1 g_t_2 g_t_3 g_t_4 g_t_6 g_t_8 g_t_9 g_t_12 c_size (q.2.1) (q.2.2.1) (q.2.2.2.1) c_counted c_paces c_possible (q.2.2.2.2)) [some (.ref a_t), some (.int (wI x1)), some (.int (wI x2)), some (.int (wI x3)), some (.int (wI (q.1)))] 57 []) (fun k hk q h => wb_X0_possibleWays_57 C hN h hk32 (fun y0 y1 y2 y3 y4 hh => hk (y0, y1, y2, y3, y4) hh) hret) F (x4, c_least, c_most, c_againstIt, c_withIt) h
set_option maxRecDepth 100000 in
set_option maxHeartbeats 4000000 in
theorem wb_X0_possibleWays_32 {F : Nat} {k32 : Int → Int → Int → Int → (Int → Int) → (Int → Int) → (Int → Int) → Option (Int × Int × Int × (Int → Int) × (Int → Int) × (Int → Int))} {v : Int × Int × Int × (Int → Int) × (Int → Int) × (Int → Int)} {x1 : Int} {x2 : Int} {x3 : Int} {c_size : Int} {c_least : Int} {c_most : Int} {c_againstIt : Int → Int} {c_counted : Int → Int} {c_paces : Int → Int} {c_possible : Int → Int} {c_withIt : Int → Int} (C : Cx E cX0_possibleWays RX0 { frames := 3, cells := 0, slots := 0, locals := 71 }) (hN : eN E = 5) (h : mb_X0_possibleWays_32 F k32 x1 x2 x3 c_size c_least c_most c_againstIt c_counted c_paces c_possible c_withIt = some v) (hk32 : ∀ (y_x1 : Int) (y_x3 : Int) (y_c_least : Int) (y_c_most : Int) (y_c_againstIt : Int → Int) (y_c_possible : Int → Int) (y_c_withIt : Int → Int), k32 y_x1 y_x3 y_c_least y_c_most y_c_againstIt y_c_possible y_c_withIt = some v → GG E 0 0 (W_X0_possibleWays (eCy E) a_t a_t_againstIt a_t_counted a_t_paces a_t_possible a_t_withIt g_t_1 g_t_2 g_t_3 g_t_4 g_t_6 g_t_8 g_t_9 g_t_12 c_size y_c_least y_c_most y_c_againstIt c_counted c_paces y_c_possible y_c_withIt) [some (.ref a_t), some (.int (wI y_x1)), some (.int (wI x2)), some (.int (wI y_x3)), none] 32 []) (hret : ∀ (pc : Nat) (L : List (Option Value)), decode cX0_possibleWays pc = .ok (.ireturn, 1) → GG E 0 0 (W_X0_possibleWays (eCy E) a_t a_t_againstIt a_t_counted a_t_paces a_t_possible a_t_withIt g_t_1 g_t_2 g_t_3 g_t_4 g_t_6 g_t_8 g_t_9 g_t_12 c_size (v.2.1) (v.2.2.1) (v.2.2.2.1) c_counted c_paces (v.2.2.2.2.1) (v.2.2.2.2.2)) L pc [.int (wI (v.1))]) : GG E 0 0 (W_X0_possibleWays (eCy E) a_t a_t_againstIt a_t_counted a_t_paces a_t_possible a_t_withIt g_t_1 g_t_2 g_t_3 g_t_4 g_t_6 g_t_8 g_t_9 g_t_12 c_size c_least c_most c_againstIt c_counted c_paces c_possible c_withIt) [some (.ref a_t), some (.int (wI x1)), some (.int (wI x2)), some (.int (wI x3)), none] 32 [] := by
  unfold mb_X0_possibleWays_32 at h
  refine g_iload_n 3 C dX0_possibleWays_32 rfl rfl ?_
  refine g_bipush C dX0_possibleWays_33 (by decide) ?_
  refine g_icmp_gt 159 C dX0_possibleWays_35 (by decide) h (fun h => ?_) (fun h => ?_)
  · refine g_iload_n 1 C dX0_possibleWays_159 rfl rfl ?_
    cases h
    exact hret 160 _ dX0_possibleWays_160
  · refine g_aload_n 0 C dX0_possibleWays_38 rfl rfl ?_
    refine g_get C fg_X0_43 0 rfl rfl dX0_possibleWays_39 ?_
    refine g_iconst C dX0_possibleWays_42 ?_
    obtain ⟨o1, hr2, h⟩ := bnd1_some h
    refine g_callSV [5] [0, 1, 2, 3, 4] [0, 1, 2, 3, 4, 5] C mt_X0_94 (c_J7_fill_53178 _ _ _ _ a_t_withIt 201 0 c_withIt F hr2 rfl) rfl rfl (ws2 := (W_X0_possibleWays (eCy E) a_t a_t_againstIt a_t_counted a_t_paces a_t_possible a_t_withIt g_t_1 g_t_2 g_t_3 g_t_4 g_t_6 g_t_8 g_t_9 g_t_12 c_size c_least c_most c_againstIt c_counted c_paces c_possible o1)) rfl rfl rfl (rest := []) rfl rfl rfl dX0_possibleWays_43 ?_
    refine g_aload_n 0 C dX0_possibleWays_46 rfl rfl ?_
    refine g_get C fg_X0_46 0 rfl rfl dX0_possibleWays_47 ?_
    refine g_iconst C dX0_possibleWays_50 ?_
    obtain ⟨o3, hr4, h⟩ := bnd1_some h
    refine g_callSV [1] [0, 2, 3, 4, 5] [0, 5, 1, 2, 3, 4] C mt_X0_94 (c_J7_fill_53178 _ _ _ _ a_t_againstIt 201 0 c_againstIt F hr4 rfl) rfl rfl (ws2 := (W_X0_possibleWays (eCy E) a_t a_t_againstIt a_t_counted a_t_paces a_t_possible a_t_withIt g_t_1 g_t_2 g_t_3 g_t_4 g_t_6 g_t_8 g_t_9 g_t_12 c_size c_least c_most o3 c_counted c_paces c_possible o1)) rfl rfl rfl (rest := []) rfl rfl rfl dX0_possibleWays_51 ?_
    refine g_iconst C dX0_possibleWays_54 ?_
    refine g_istore C hN dX0_possibleWays_55 rfl (L' := [some (.ref a_t), some (.int (wI x1)), some (.int (wI x2)), some (.int (wI x3)), some (.int (wI 0))]) rfl ?_
    exact wl_X0_possibleWays_57 C hN h hk32 hret
set_option maxRecDepth 100000 in
set_option maxHeartbeats 4000000 in
theorem wl_X0_possibleWays_32 {F : Nat} {v : Int × Int × Int × (Int → Int) × (Int → Int) × (Int → Int)} {x1 : Int} {x2 : Int} {x3 : Int} {c_size : Int} {c_least : Int} {c_most : Int} {c_againstIt : Int → Int} {c_counted : Int → Int} {c_paces : Int → Int} {c_possible : Int → Int} {c_withIt : Int → Int} (C : Cx E cX0_possibleWays RX0 { frames := 3, cells := 0, slots := 0, locals := 71 }) (hN : eN E = 5) (h : ml_X0_possibleWays_32 F x1 x2 x3 c_size c_least c_most c_againstIt c_counted c_paces c_possible c_withIt = some v) (hret : ∀ (pc : Nat) (L : List (Option Value)), decode cX0_possibleWays pc = .ok (.ireturn, 1) → GG E 0 0 (W_X0_possibleWays (eCy E) a_t a_t_againstIt a_t_counted a_t_paces a_t_possible a_t_withIt g_t_1 g_t_2 g_t_3 g_t_4 g_t_6 g_t_8 g_t_9 g_t_12 c_size (v.2.1) (v.2.2.1) (v.2.2.2.1) c_counted c_paces (v.2.2.2.2.1) (v.2.2.2.2.2)) L pc [.int (wI (v.1))]) : GG E 0 0 (W_X0_possibleWays (eCy E) a_t a_t_againstIt a_t_counted a_t_paces a_t_possible a_t_withIt g_t_1 g_t_2 g_t_3 g_t_4 g_t_6 g_t_8 g_t_9 g_t_12 c_size c_least c_most c_againstIt c_counted c_paces c_possible c_withIt) [some (.ref a_t), some (.int (wI x1)), some (.int (wI x2)), some (.int (wI x3)), none] 32 [] := by
  unfold ml_X0_possibleWays_32 at h
  exact loop_walk (g := fun (q : Int × Int × Int × Int × (Int → Int) × (Int → Int) × (Int → Int)) => GG E 0 0 (W_X0_possibleWays (eCy E) a_t a_t_againstIt a_t_counted a_t_paces a_t_possible a_t_withIt g_t_1 g_t_2 g_t_3 g_t_4 g_t_6 g_t_8 g_t_9 g_t_12 c_size (q.2.2.1) (q.2.2.2.1) (q.2.2.2.2.1) c_counted c_paces (q.2.2.2.2.2.1) (q.2.2.2.2.2.2)) [some (.ref a_t), some (.int (wI (q.1))), some (.int (wI x2)), some (.int (wI (q.2.1))), none] 32 []) (fun k hk q h => wb_X0_possibleWays_32 C hN h (fun y0 y1 y2 y3 y4 y5 y6 hh => hk (y0, y1, y2, y3, y4, y5, y6) hh) hret) F (x1, x3, c_least, c_most, c_againstIt, c_possible, c_withIt) h
set_option maxRecDepth 100000 in
set_option maxHeartbeats 4000000 in
theorem wm_X0_possibleWays {F : Nat} {v : Int × Int × Int × (Int → Int) × (Int → Int) × (Int → Int)} {c_size : Int} {c_least : Int} {c_most : Int} {c_againstIt : Int → Int} {c_counted : Int → Int} {c_paces : Int → Int} {c_possible : Int → Int} {c_withIt : Int → Int} (C : Cx E cX0_possibleWays RX0 { frames := 3, cells := 0, slots := 0, locals := 71 }) (hN : eN E = 5) (h : m_X0_possibleWays F c_size c_least c_most c_againstIt c_counted c_paces c_possible c_withIt = some v) (hret : ∀ (pc : Nat) (L : List (Option Value)), decode cX0_possibleWays pc = .ok (.ireturn, 1) → GG E 0 0 (W_X0_possibleWays (eCy E) a_t a_t_againstIt a_t_counted a_t_paces a_t_possible a_t_withIt g_t_1 g_t_2 g_t_3 g_t_4 g_t_6 g_t_8 g_t_9 g_t_12 c_size (v.2.1) (v.2.2.1) (v.2.2.2.1) c_counted c_paces (v.2.2.2.2.1) (v.2.2.2.2.2)) L pc [.int (wI (v.1))]) : GG E 0 0 (W_X0_possibleWays (eCy E) a_t a_t_againstIt a_t_counted a_t_paces a_t_possible a_t_withIt g_t_1 g_t_2 g_t_3 g_t_4 g_t_6 g_t_8 g_t_9 g_t_12 c_size c_least c_most c_againstIt c_counted c_paces c_possible c_withIt) [some (.ref a_t), none, none, none, none] 0 [] := by
  unfold m_X0_possibleWays at h
  refine g_aload_n 0 C dX0_possibleWays_0 rfl rfl ?_
  refine g_get C fg_X0_9 0 rfl rfl dX0_possibleWays_1 ?_
  refine g_st (st' := [.int (wI c_size)]) rfl ?_
  refine g_bipush C dX0_possibleWays_4 (by decide) ?_
  refine g_icmp_le 11 C dX0_possibleWays_6 (by decide) h (fun h => ?_) (fun h => ?_)
  · refine g_aload_n 0 C dX0_possibleWays_11 rfl rfl ?_
    refine g_get C fg_X0_52 0 rfl rfl dX0_possibleWays_12 ?_
    refine g_iconst C dX0_possibleWays_15 ?_
    obtain ⟨o1, hr2, h⟩ := bnd1_some h
    refine g_callSV [4] [0, 1, 2, 3, 5] [0, 1, 2, 3, 5, 4] C mt_X0_94 (c_J7_fill_53178 _ _ _ _ a_t_possible 1024 0 c_possible F hr2 rfl) rfl rfl (ws2 := (W_X0_possibleWays (eCy E) a_t a_t_againstIt a_t_counted a_t_paces a_t_possible a_t_withIt g_t_1 g_t_2 g_t_3 g_t_4 g_t_6 g_t_8 g_t_9 g_t_12 c_size c_least c_most c_againstIt c_counted c_paces o1 c_withIt)) rfl rfl rfl (rest := []) rfl rfl rfl dX0_possibleWays_16 ?_
    refine g_iconst C dX0_possibleWays_19 ?_
    refine g_istore_n 1 C hN dX0_possibleWays_20 rfl rfl (L' := [some (.ref a_t), some (.int (wI 0)), none, none, none]) rfl ?_
    refine g_iconst C dX0_possibleWays_21 ?_
    refine g_aload_n 0 C dX0_possibleWays_22 rfl rfl ?_
    refine g_get C fg_X0_9 0 rfl rfl dX0_possibleWays_23 ?_
    refine g_st (st' := [.int (wI c_size), .int (wI 1)]) rfl ?_
    refine g_ishl C dX0_possibleWays_26 ?_
    refine g_iconst C dX0_possibleWays_27 ?_
    refine g_isub C dX0_possibleWays_28 ?_
    obtain ⟨y3, e_y3, h⟩ := nam_some h
    refine g_topI e_y3 ?_
    refine g_istore_n 2 C hN dX0_possibleWays_29 rfl rfl (L' := [some (.ref a_t), some (.int (wI 0)), some (.int (wI y3)), none, none]) rfl ?_
    refine g_iconst C dX0_possibleWays_30 ?_
    refine g_istore_n 3 C hN dX0_possibleWays_31 rfl rfl (L' := [some (.ref a_t), some (.int (wI 0)), some (.int (wI y3)), some (.int (wI 0)), none]) rfl ?_
    exact wl_X0_possibleWays_32 C hN h hret
  · refine g_iconst C dX0_possibleWays_9 ?_
    cases h
    exact hret 10 _ dX0_possibleWays_10
end S_X0_possibleWays
set_option maxRecDepth 100000 in
set_option maxHeartbeats 4000000 in
theorem c_X0_possibleWays (l : Launch) (D : va_G) (cy : Nat → ClassId) (ad : AD) (a_t a_t_againstIt a_t_counted a_t_paces a_t_possible a_t_withIt : Nat) (g_t_1 : Value) (g_t_2 : Value) (g_t_3 : Value) (g_t_4 : Value) (g_t_6 : Value) (g_t_8 : Value) (g_t_9 : Value) (g_t_12 : Value) (c_size : Int) (c_least : Int) (c_most : Int) (c_againstIt : Int → Int) (c_counted : Int → Int) (c_paces : Int → Int) (c_possible : Int → Int) (c_withIt : Int → Int) (F : Nat) {v : Int × Int × Int × (Int → Int) × (Int → Int) × (Int → Int)} (h : m_X0_possibleWays F c_size c_least c_most c_againstIt c_counted c_paces c_possible c_withIt = some v) : Ct l yX0_possibleWays cX0_possibleWays 5 (some .int) { frames := 3, cells := 0, slots := 0, locals := 71 } D cy ad [.ref a_t] (W_X0_possibleWays cy a_t a_t_againstIt a_t_counted a_t_paces a_t_possible a_t_withIt g_t_1 g_t_2 g_t_3 g_t_4 g_t_6 g_t_8 g_t_9 g_t_12 c_size c_least c_most c_againstIt c_counted c_paces c_possible c_withIt) (W_X0_possibleWays cy a_t a_t_againstIt a_t_counted a_t_paces a_t_possible a_t_withIt g_t_1 g_t_2 g_t_3 g_t_4 g_t_6 g_t_8 g_t_9 g_t_12 c_size (v.2.1) (v.2.2.1) (v.2.2.2.1) c_counted c_paces (v.2.2.2.2.1) (v.2.2.2.2.2)) (some (.int (wI (v.1)))) := by
  refine Ct.introI (j := 4) (plainFor_of_name (by decide)) rfl rfl (fun E C e1 e2 e3 e4 e5 hret => ?_)
  subst e1; subst e2; subst e3; subst e4
  exact wm_X0_possibleWays C e5 h hret
-- MovingStair$Counts.worstAfter(II)I
def W_X0_worstAfter (cy : Nat → ClassId) (a_t a_t_leasts a_t_mosts a_t_tally : Nat) (g_t_0 : Value) (g_t_1 : Value) (g_t_2 : Value) (g_t_3 : Value) (g_t_4 : Value) (g_t_5 : Value) (g_t_6 : Value) (g_t_7 : Value) (g_t_10 : Value) (g_t_11 : Value) (g_t_13 : Value) (g_t_14 : Value) (g_t_15 : Value) (c_leasts : Int → Int) (c_mosts : Int → Int) (c_tally : Int → Int) : va_W := [(a_t, .inr (0, [g_t_0, g_t_1, g_t_2, g_t_3, g_t_4, g_t_5, g_t_6, g_t_7, .ref a_t_leasts, .ref a_t_mosts, g_t_10, g_t_11, .ref a_t_tally, g_t_13, g_t_14, g_t_15])), (a_t_leasts, .inl (cy 1, 31, .inl (aI c_leasts))), (a_t_mosts, .inl (cy 1, 31, .inl (aI c_mosts))), (a_t_tally, .inl (cy 1, 201, .inl (aI c_tally)))]
def mb_X0_worstAfter_44 (F : Nat) (k13 : Int → Int → (Int → Int) → Option (Int × (Int → Int))) (k44 : Int → Int → (Int → Int) → Option (Int × (Int → Int))) (x1 : Int) (x2 : Int) (x3 : Int) (x4 : Int) (x5 : Int) (x6 : Int) (c_leasts : Int → Int) (c_mosts : Int → Int) (c_tally : Int → Int) : Option (Int × (Int → Int)) :=
  chk (0 ≤ x4 ∧ x4 < 31) <| if wI (c_mosts x4) < wI x6 then
    (k13 x3 (x4 + 1) c_tally)
  else
    (chk (dv32 (x1 * x6) x5) <| nam ((x1 * x6).tdiv x5) fun y3 => chk (0 ≤ y3 ∧ y3 < 201) <| nam ((c_tally y3) + 1) fun y5 => chk (0 ≤ y3 ∧ y3 < 201) <| chk (0 ≤ y3 ∧ y3 < 201) <| bnd1 (m_J9_max_7cf53 F x3 ((up c_tally y3 y5) y3)) fun r8 => k44 r8 (x6 + 1) (up c_tally y3 y5))
def ml_X0_worstAfter_44 (F : Nat) (k13 : Int → Int → (Int → Int) → Option (Int × (Int → Int))) (x1 : Int) (x2 : Int) (x3 : Int) (x4 : Int) (x5 : Int) (x6 : Int) (c_leasts : Int → Int) (c_mosts : Int → Int) (c_tally : Int → Int) : Option (Int × (Int → Int)) :=
  loopN (fun (k : Int × Int × (Int → Int) → Option (Int × (Int → Int))) q => mb_X0_worstAfter_44 F k13 (fun y0 y1 y2 => k (y0, y1, y2)) x1 x2 q.1 x4 x5 q.2.1 c_leasts c_mosts q.2.2) F (x3, x6, c_tally)
def mb_X0_worstAfter_13 (F : Nat) (k13 : Int → Int → (Int → Int) → Option (Int × (Int → Int))) (x1 : Int) (x2 : Int) (x3 : Int) (x4 : Int) (c_leasts : Int → Int) (c_mosts : Int → Int) (c_tally : Int → Int) : Option (Int × (Int → Int)) :=
  if wI 30 < wI x4 then
    (some (x3, c_tally))
  else
    (if wI x2 ≤ wI x3 then
    (some (x3, c_tally))
  else
    (bnd1 (m_J9_max_7cf53 F 1 (x1 + x4)) fun r1 => chk (0 ≤ x4 ∧ x4 < 31) <| nam (c_leasts x4) fun y4 => ml_X0_worstAfter_44 F k13 x1 x2 x3 x4 r1 y4 c_leasts c_mosts c_tally))
def ml_X0_worstAfter_13 (F : Nat) (x1 : Int) (x2 : Int) (x3 : Int) (x4 : Int) (c_leasts : Int → Int) (c_mosts : Int → Int) (c_tally : Int → Int) : Option (Int × (Int → Int)) :=
  loopN (fun (k : Int × Int × (Int → Int) → Option (Int × (Int → Int))) q => mb_X0_worstAfter_13 F (fun y0 y1 y2 => k (y0, y1, y2)) x1 x2 q.1 q.2.1 c_leasts c_mosts q.2.2) F (x3, x4, c_tally)
def m_X0_worstAfter (F : Nat) (x1 : Int) (x2 : Int) (c_leasts : Int → Int) (c_mosts : Int → Int) (c_tally : Int → Int) : Option (Int × (Int → Int)) :=
  bnd1 (m_J7_fill_53178 F 201 0 c_tally) fun o1 => ml_X0_worstAfter_13 F x1 x2 0 0 c_leasts c_mosts o1
section S_X0_worstAfter
variable {E : EE} {a_t a_t_leasts a_t_mosts a_t_tally : Nat} {g_t_0 : Value} {g_t_1 : Value} {g_t_2 : Value} {g_t_3 : Value} {g_t_4 : Value} {g_t_5 : Value} {g_t_6 : Value} {g_t_7 : Value} {g_t_10 : Value} {g_t_11 : Value} {g_t_13 : Value} {g_t_14 : Value} {g_t_15 : Value}
set_option maxRecDepth 100000 in
set_option maxHeartbeats 4000000 in
theorem wb_X0_worstAfter_44 {F : Nat} {k13 : Int → Int → (Int → Int) → Option (Int × (Int → Int))} {k44 : Int → Int → (Int → Int) → Option (Int × (Int → Int))} {v : Int × (Int → Int)} {x1 : Int} {x2 : Int} {x3 : Int} {x4 : Int} {x5 : Int} {x6 : Int} {c_leasts : Int → Int} {c_mosts : Int → Int} {c_tally : Int → Int} (C : Cx E cX0_worstAfter RX0 { frames := 1, cells := 0, slots := 0, locals := 23 }) (hN : eN E = 8) (h : mb_X0_worstAfter_44 F k13 k44 x1 x2 x3 x4 x5 x6 c_leasts c_mosts c_tally = some v) (hk13 : ∀ (y_x3 : Int) (y_x4 : Int) (y_c_tally : Int → Int), k13 y_x3 y_x4 y_c_tally = some v → GG E 0 0 (W_X0_worstAfter (eCy E) a_t a_t_leasts a_t_mosts a_t_tally g_t_0 g_t_1 g_t_2 g_t_3 g_t_4 g_t_5 g_t_6 g_t_7 g_t_10 g_t_11 g_t_13 g_t_14 g_t_15 c_leasts c_mosts y_c_tally) [some (.ref a_t), some (.int (wI x1)), some (.int (wI x2)), some (.int (wI y_x3)), some (.int (wI y_x4)), none, none, none] 13 []) (hk44 : ∀ (y_x3 : Int) (y_x6 : Int) (y_c_tally : Int → Int), k44 y_x3 y_x6 y_c_tally = some v → GG E 0 0 (W_X0_worstAfter (eCy E) a_t a_t_leasts a_t_mosts a_t_tally g_t_0 g_t_1 g_t_2 g_t_3 g_t_4 g_t_5 g_t_6 g_t_7 g_t_10 g_t_11 g_t_13 g_t_14 g_t_15 c_leasts c_mosts y_c_tally) [some (.ref a_t), some (.int (wI x1)), some (.int (wI x2)), some (.int (wI y_x3)), some (.int (wI x4)), some (.int (wI x5)), some (.int (wI y_x6)), none] 44 []) (hret : ∀ (pc : Nat) (L : List (Option Value)), decode cX0_worstAfter pc = .ok (.ireturn, 1) → GG E 0 0 (W_X0_worstAfter (eCy E) a_t a_t_leasts a_t_mosts a_t_tally g_t_0 g_t_1 g_t_2 g_t_3 g_t_4 g_t_5 g_t_6 g_t_7 g_t_10 g_t_11 g_t_13 g_t_14 g_t_15 c_leasts c_mosts (v.2)) L pc [.int (wI (v.1))]) : GG E 0 0 (W_X0_worstAfter (eCy E) a_t a_t_leasts a_t_mosts a_t_tally g_t_0 g_t_1 g_t_2 g_t_3 g_t_4 g_t_5 g_t_6 g_t_7 g_t_10 g_t_11 g_t_13 g_t_14 g_t_15 c_leasts c_mosts c_tally) [some (.ref a_t), some (.int (wI x1)), some (.int (wI x2)), some (.int (wI x3)), some (.int (wI x4)), some (.int (wI x5)), some (.int (wI x6)), none] 44 [] := by
  unfold mb_X0_worstAfter_44 at h
  refine g_iload C dX0_worstAfter_44 rfl ?_
  refine g_aload_n 0 C dX0_worstAfter_46 rfl rfl ?_
  refine g_get C fg_X0_40 0 rfl rfl dX0_worstAfter_47 ?_
  refine g_iload C dX0_worstAfter_50 rfl ?_
  obtain ⟨hc1, h⟩ := chk_some h
  refine g_iald C 2 rfl hc1 rfl dX0_worstAfter_52 ?_
  refine g_icmp_gt 94 C dX0_worstAfter_53 (by decide) h (fun h => ?_) (fun h => ?_)
  · refine g_iinc C hN dX0_worstAfter_94 rfl rfl (L' := [some (.ref a_t), some (.int (wI x1)), some (.int (wI x2)), some (.int (wI x3)), some (.int (wI (x4 + 1))), some (.int (wI x5)), some (.int (wI x6)), none]) rfl ?_
    refine g_goto (tgt := 13) C dX0_worstAfter_97 (by decide) ?_
    refine g_mask [true, true, true, true, true, false, false, false] (L' := [some (.ref a_t), some (.int (wI x1)), some (.int (wI x2)), some (.int (wI x3)), some (.int (wI (x4 + 1))), none, none, none]) rfl ?_
    exact hk13 _ _ _ h
  · refine g_iload_n 1 C dX0_worstAfter_56 rfl rfl ?_
    refine g_iload C dX0_worstAfter_57 rfl ?_
    refine g_imul C dX0_worstAfter_59 ?_
    refine g_iload C dX0_worstAfter_60 rfl ?_
    obtain ⟨hc2, h⟩ := chk_some h
    refine g_idiv C dX0_worstAfter_62 hc2 ?_
    obtain ⟨y3, e_y3, h⟩ := nam_some h
    refine g_topI e_y3 ?_
    refine g_istore C hN dX0_worstAfter_63 rfl (L' := [some (.ref a_t), some (.int (wI x1)), some (.int (wI x2)), some (.int (wI x3)), some (.int (wI x4)), some (.int (wI x5)), some (.int (wI x6)), some (.int (wI y3))]) rfl ?_
    refine g_aload_n 0 C dX0_worstAfter_65 rfl rfl ?_
    refine g_get C fg_X0_49 0 rfl rfl dX0_worstAfter_66 ?_
    refine g_iload C dX0_worstAfter_69 rfl ?_
    refine g_dup2_11 C dX0_worstAfter_71 rfl rfl ?_
    obtain ⟨hc4, h⟩ := chk_some h
    refine g_iald C 3 rfl hc4 rfl dX0_worstAfter_72 ?_
    refine g_iconst C dX0_worstAfter_73 ?_
    refine g_iadd C dX0_worstAfter_74 ?_
    obtain ⟨y5, e_y5, h⟩ := nam_some h
    refine g_topI e_y5 ?_
    obtain ⟨hc6, h⟩ := chk_some h
    refine g_iast C 3 rfl hc6 rfl (ws' := (W_X0_worstAfter (eCy E) a_t a_t_leasts a_t_mosts a_t_tally g_t_0 g_t_1 g_t_2 g_t_3 g_t_4 g_t_5 g_t_6 g_t_7 g_t_10 g_t_11 g_t_13 g_t_14 g_t_15 c_leasts c_mosts (up c_tally y3 y5))) rfl dX0_worstAfter_75 ?_
    refine g_iload_n 3 C dX0_worstAfter_76 rfl rfl ?_
    refine g_aload_n 0 C dX0_worstAfter_77 rfl rfl ?_
    refine g_get C fg_X0_49 0 rfl rfl dX0_worstAfter_78 ?_
    refine g_iload C dX0_worstAfter_81 rfl ?_
    obtain ⟨hc7, h⟩ := chk_some h
    refine g_iald C 3 rfl hc7 rfl dX0_worstAfter_83 ?_
    obtain ⟨r8, hr9, h⟩ := bnd1_some h
    refine g_callSI [] [0, 1, 2, 3] [0, 1, 2, 3] C mt_X0_85 (c_J9_max_7cf53 _ _ _ _ x3 ((up c_tally y3 y5) y3) F hr9) rfl rfl (ws2 := (W_X0_worstAfter (eCy E) a_t a_t_leasts a_t_mosts a_t_tally g_t_0 g_t_1 g_t_2 g_t_3 g_t_4 g_t_5 g_t_6 g_t_7 g_t_10 g_t_11 g_t_13 g_t_14 g_t_15 c_leasts c_mosts (up c_tally y3 y5))) rfl rfl rfl (rest := []) rfl rfl rfl dX0_worstAfter_84 ?_
    refine g_istore_n 3 C hN dX0_worstAfter_87 rfl rfl (L' := [some (.ref a_t), some (.int (wI x1)), some (.int (wI x2)), some (.int (wI r8)), some (.int (wI x4)), some (.int (wI x5)), some (.int (wI x6)), some (.int (wI y3))]) rfl ?_
    refine g_iinc C hN dX0_worstAfter_88 rfl rfl (L' := [some (.ref a_t), some (.int (wI x1)), some (.int (wI x2)), some (.int (wI r8)), some (.int (wI x4)), some (.int (wI x5)), some (.int (wI (x6 + 1))), some (.int (wI y3))]) rfl ?_
    refine g_goto (tgt := 44) C dX0_worstAfter_91 (by decide) ?_
    refine g_mask [true, true, true, true, true, true, true, false] (L' := [some (.ref a_t), some (.int (wI x1)), some (.int (wI x2)), some (.int (wI r8)), some (.int (wI x4)), some (.int (wI x5)), some (.int (wI (x6 + 1))), none]) rfl ?_
    exact hk44 _ _ _ h
set_option maxRecDepth 100000 in
set_option maxHeartbeats 4000000 in
theorem wl_X0_worstAfter_44 {F : Nat} {k13 : Int → Int → (Int → Int) → Option (Int × (Int → Int))} {v : Int × (Int → Int)} {x1 : Int} {x2 : Int} {x3 : Int} {x4 : Int} {x5 : Int} {x6 : Int} {c_leasts : Int → Int} {c_mosts : Int → Int} {c_tally : Int → Int} (C : Cx E cX0_worstAfter RX0 { frames := 1, cells := 0, slots := 0, locals := 23 }) (hN : eN E = 8) (h : ml_X0_worstAfter_44 F k13 x1 x2 x3 x4 x5 x6 c_leasts c_mosts c_tally = some v) (hk13 : ∀ (y_x3 : Int) (y_x4 : Int) (y_c_tally : Int → Int), k13 y_x3 y_x4 y_c_tally = some v → GG E 0 0 (W_X0_worstAfter (eCy E) a_t a_t_leasts a_t_mosts a_t_tally g_t_0 g_t_1 g_t_2 g_t_3 g_t_4 g_t_5 g_t_6 g_t_7 g_t_10 g_t_11 g_t_13 g_t_14 g_t_15 c_leasts c_mosts y_c_tally) [some (.ref a_t), some (.int (wI x1)), some (.int (wI x2)), some (.int (wI y_x3)), some (.int (wI y_x4)), none, none, none] 13 []) (hret : ∀ (pc : Nat) (L : List (Option Value)), decode cX0_worstAfter pc = .ok (.ireturn, 1) → GG E 0 0 (W_X0_worstAfter (eCy E) a_t a_t_leasts a_t_mosts a_t_tally g_t_0 g_t_1 g_t_2 g_t_3 g_t_4 g_t_5 g_t_6 g_t_7 g_t_10 g_t_11 g_t_13 g_t_14 g_t_15 c_leasts c_mosts (v.2)) L pc [.int (wI (v.1))]) : GG E 0 0 (W_X0_worstAfter (eCy E) a_t a_t_leasts a_t_mosts a_t_tally g_t_0 g_t_1 g_t_2 g_t_3 g_t_4 g_t_5 g_t_6 g_t_7 g_t_10 g_t_11 g_t_13 g_t_14 g_t_15 c_leasts c_mosts c_tally) [some (.ref a_t), some (.int (wI x1)), some (.int (wI x2)), some (.int (wI x3)), some (.int (wI x4)), some (.int (wI x5)), some (.int (wI x6)), none] 44 [] := by
  unfold ml_X0_worstAfter_44 at h
  exact loop_walk (g := fun (q : Int × Int × (Int → Int)) => GG E 0 0 (W_X0_worstAfter (eCy E) a_t a_t_leasts a_t_mosts a_t_tally g_t_0 g_t_1 g_t_2 g_t_3 g_t_4 g_t_5 g_t_6 g_t_7 g_t_10 g_t_11 g_t_13 g_t_14 g_t_15 c_leasts c_mosts (q.2.2)) [some (.ref a_t), some (.int (wI x1)), some (.int (wI x2)), some (.int (wI (q.1))), some (.int (wI x4)), some (.int (wI x5)), some (.int (wI (q.2.1))), none] 44 []) (fun k hk q h => wb_X0_worstAfter_44 C hN h hk13 (fun y0 y1 y2 hh => hk (y0, y1, y2) hh) hret) F (x3, x6, c_tally) h
set_option maxRecDepth 100000 in
set_option maxHeartbeats 4000000 in
theorem wb_X0_worstAfter_13 {F : Nat} {k13 : Int → Int → (Int → Int) → Option (Int × (Int → Int))} {v : Int × (Int → Int)} {x1 : Int} {x2 : Int} {x3 : Int} {x4 : Int} {c_leasts : Int → Int} {c_mosts : Int → Int} {c_tally : Int → Int} (C : Cx E cX0_worstAfter RX0 { frames := 1, cells := 0, slots := 0, locals := 23 }) (hN : eN E = 8) (h : mb_X0_worstAfter_13 F k13 x1 x2 x3 x4 c_leasts c_mosts c_tally = some v) (hk13 : ∀ (y_x3 : Int) (y_x4 : Int) (y_c_tally : Int → Int), k13 y_x3 y_x4 y_c_tally = some v → GG E 0 0 (W_X0_worstAfter (eCy E) a_t a_t_leasts a_t_mosts a_t_tally g_t_0 g_t_1 g_t_2 g_t_3 g_t_4 g_t_5 g_t_6 g_t_7 g_t_10 g_t_11 g_t_13 g_t_14 g_t_15 c_leasts c_mosts y_c_tally) [some (.ref a_t), some (.int (wI x1)), some (.int (wI x2)), some (.int (wI y_x3)), some (.int (wI y_x4)), none, none, none] 13 []) (hret : ∀ (pc : Nat) (L : List (Option Value)), decode cX0_worstAfter pc = .ok (.ireturn, 1) → GG E 0 0 (W_X0_worstAfter (eCy E) a_t a_t_leasts a_t_mosts a_t_tally g_t_0 g_t_1 g_t_2 g_t_3 g_t_4 g_t_5 g_t_6 g_t_7 g_t_10 g_t_11 g_t_13 g_t_14 g_t_15 c_leasts c_mosts (v.2)) L pc [.int (wI (v.1))]) : GG E 0 0 (W_X0_worstAfter (eCy E) a_t a_t_leasts a_t_mosts a_t_tally g_t_0 g_t_1 g_t_2 g_t_3 g_t_4 g_t_5 g_t_6 g_t_7 g_t_10 g_t_11 g_t_13 g_t_14 g_t_15 c_leasts c_mosts c_tally) [some (.ref a_t), some (.int (wI x1)), some (.int (wI x2)), some (.int (wI x3)), some (.int (wI x4)), none, none, none] 13 [] := by
  unfold mb_X0_worstAfter_13 at h
  refine g_iload C dX0_worstAfter_13 rfl ?_
  refine g_bipush C dX0_worstAfter_15 (by decide) ?_
  refine g_icmp_gt 100 C dX0_worstAfter_17 (by decide) h (fun h => ?_) (fun h => ?_)
  · refine g_iload_n 3 C dX0_worstAfter_100 rfl rfl ?_
    cases h
    exact hret 101 _ dX0_worstAfter_101
  · refine g_iload_n 3 C dX0_worstAfter_20 rfl rfl ?_
    refine g_iload_n 2 C dX0_worstAfter_21 rfl rfl ?_
    refine g_icmp_ge 100 C dX0_worstAfter_22 (by decide) h (fun h => ?_) (fun h => ?_)
    · refine g_iload_n 3 C dX0_worstAfter_100 rfl rfl ?_
      cases h
      exact hret 101 _ dX0_worstAfter_101
    · refine g_iconst C dX0_worstAfter_25 ?_
      refine g_iload_n 1 C dX0_worstAfter_26 rfl rfl ?_
      refine g_iload C dX0_worstAfter_27 rfl ?_
      refine g_iadd C dX0_worstAfter_29 ?_
      obtain ⟨r1, hr2, h⟩ := bnd1_some h
      refine g_callSI [] [0, 1, 2, 3] [0, 1, 2, 3] C mt_X0_85 (c_J9_max_7cf53 _ _ _ _ 1 (x1 + x4) F hr2) rfl rfl (ws2 := (W_X0_worstAfter (eCy E) a_t a_t_leasts a_t_mosts a_t_tally g_t_0 g_t_1 g_t_2 g_t_3 g_t_4 g_t_5 g_t_6 g_t_7 g_t_10 g_t_11 g_t_13 g_t_14 g_t_15 c_leasts c_mosts c_tally)) rfl rfl rfl (rest := []) rfl rfl rfl dX0_worstAfter_30 ?_
      refine g_istore C hN dX0_worstAfter_33 rfl (L' := [some (.ref a_t), some (.int (wI x1)), some (.int (wI x2)), some (.int (wI x3)), some (.int (wI x4)), some (.int (wI r1)), none, none]) rfl ?_
      refine g_aload_n 0 C dX0_worstAfter_35 rfl rfl ?_
      refine g_get C fg_X0_37 0 rfl rfl dX0_worstAfter_36 ?_
      refine g_iload C dX0_worstAfter_39 rfl ?_
      obtain ⟨hc3, h⟩ := chk_some h
      refine g_iald C 1 rfl hc3 rfl dX0_worstAfter_41 ?_
      obtain ⟨y4, e_y4, h⟩ := nam_some h
      refine g_topI e_y4 ?_
      refine g_istore C hN dX0_worstAfter_42 rfl (L' := [some (.ref a_t), some (.int (wI x1)), some (.int (wI x2)), some (.int (wI x3)), some (.int (wI x4)), some (.int (wI r1)), some (.int (wI y4)), none]) rfl ?_
      exact wl_X0_worstAfter_44 C hN h hk13 hret
set_option maxRecDepth 100000 in
set_option maxHeartbeats 4000000 in
theorem wl_X0_worstAfter_13 {F : Nat} {v : Int × (Int → Int)} {x1 : Int} {x2 : Int} {x3 : Int} {x4 : Int} {c_leasts : Int → Int} {c_mosts : Int → Int} {c_tally : Int → Int} (C : Cx E cX0_worstAfter RX0 { frames := 1, cells := 0, slots := 0, locals := 23 }) (hN : eN E = 8) (h : ml_X0_worstAfter_13 F x1 x2 x3 x4 c_leasts c_mosts c_tally = some v) (hret : ∀ (pc : Nat) (L : List (Option Value)), decode cX0_worstAfter pc = .ok (.ireturn, 1) → GG E 0 0 (W_X0_worstAfter (eCy E) a_t a_t_leasts a_t_mosts a_t_tally g_t_0 g_t_1 g_t_2 g_t_3 g_t_4 g_t_5 g_t_6 g_t_7 g_t_10 g_t_11 g_t_13 g_t_14 g_t_15 c_leasts c_mosts (v.2)) L pc [.int (wI (v.1))]) : GG E 0 0 (W_X0_worstAfter (eCy E) a_t a_t_leasts a_t_mosts a_t_tally g_t_0 g_t_1 g_t_2 g_t_3 g_t_4 g_t_5 g_t_6 g_t_7 g_t_10 g_t_11 g_t_13 g_t_14 g_t_15 c_leasts c_mosts c_tally) [some (.ref a_t), some (.int (wI x1)), some (.int (wI x2)), some (.int (wI x3)), some (.int (wI x4)), none, none, none] 13 [] := by
  unfold ml_X0_worstAfter_13 at h
  exact loop_walk (g := fun (q : Int × Int × (Int → Int)) => GG E 0 0 (W_X0_worstAfter (eCy E) a_t a_t_leasts a_t_mosts a_t_tally g_t_0 g_t_1 g_t_2 g_t_3 g_t_4 g_t_5 g_t_6 g_t_7 g_t_10 g_t_11 g_t_13 g_t_14 g_t_15 c_leasts c_mosts (q.2.2)) [some (.ref a_t), some (.int (wI x1)), some (.int (wI x2)), some (.int (wI (q.1))), some (.int (wI (q.2.1))), none, none, none] 13 []) (fun k hk q h => wb_X0_worstAfter_13 C hN h (fun y0 y1 y2 hh => hk (y0, y1, y2) hh) hret) F (x3, x4, c_tally) h
set_option maxRecDepth 100000 in
set_option maxHeartbeats 4000000 in
theorem wm_X0_worstAfter {F : Nat} {v : Int × (Int → Int)} {x1 : Int} {x2 : Int} {c_leasts : Int → Int} {c_mosts : Int → Int} {c_tally : Int → Int} (C : Cx E cX0_worstAfter RX0 { frames := 1, cells := 0, slots := 0, locals := 23 }) (hN : eN E = 8) (h : m_X0_worstAfter F x1 x2 c_leasts c_mosts c_tally = some v) (hret : ∀ (pc : Nat) (L : List (Option Value)), decode cX0_worstAfter pc = .ok (.ireturn, 1) → GG E 0 0 (W_X0_worstAfter (eCy E) a_t a_t_leasts a_t_mosts a_t_tally g_t_0 g_t_1 g_t_2 g_t_3 g_t_4 g_t_5 g_t_6 g_t_7 g_t_10 g_t_11 g_t_13 g_t_14 g_t_15 c_leasts c_mosts (v.2)) L pc [.int (wI (v.1))]) : GG E 0 0 (W_X0_worstAfter (eCy E) a_t a_t_leasts a_t_mosts a_t_tally g_t_0 g_t_1 g_t_2 g_t_3 g_t_4 g_t_5 g_t_6 g_t_7 g_t_10 g_t_11 g_t_13 g_t_14 g_t_15 c_leasts c_mosts c_tally) [some (.ref a_t), some (.int (wI x1)), some (.int (wI x2)), none, none, none, none, none] 0 [] := by
  unfold m_X0_worstAfter at h
  refine g_aload_n 0 C dX0_worstAfter_0 rfl rfl ?_
  refine g_get C fg_X0_49 0 rfl rfl dX0_worstAfter_1 ?_
  refine g_iconst C dX0_worstAfter_4 ?_
  obtain ⟨o1, hr2, h⟩ := bnd1_some h
  refine g_callSV [3] [0, 1, 2] [0, 1, 2, 3] C mt_X0_94 (c_J7_fill_53178 _ _ _ _ a_t_tally 201 0 c_tally F hr2 rfl) rfl rfl (ws2 := (W_X0_worstAfter (eCy E) a_t a_t_leasts a_t_mosts a_t_tally g_t_0 g_t_1 g_t_2 g_t_3 g_t_4 g_t_5 g_t_6 g_t_7 g_t_10 g_t_11 g_t_13 g_t_14 g_t_15 c_leasts c_mosts o1)) rfl rfl rfl (rest := []) rfl rfl rfl dX0_worstAfter_5 ?_
  refine g_iconst C dX0_worstAfter_8 ?_
  refine g_istore_n 3 C hN dX0_worstAfter_9 rfl rfl (L' := [some (.ref a_t), some (.int (wI x1)), some (.int (wI x2)), some (.int (wI 0)), none, none, none, none]) rfl ?_
  refine g_iconst C dX0_worstAfter_10 ?_
  refine g_istore C hN dX0_worstAfter_11 rfl (L' := [some (.ref a_t), some (.int (wI x1)), some (.int (wI x2)), some (.int (wI 0)), some (.int (wI 0)), none, none, none]) rfl ?_
  exact wl_X0_worstAfter_13 C hN h hret
end S_X0_worstAfter
set_option maxRecDepth 100000 in
set_option maxHeartbeats 4000000 in
theorem c_X0_worstAfter (l : Launch) (D : va_G) (cy : Nat → ClassId) (ad : AD) (a_t a_t_leasts a_t_mosts a_t_tally : Nat) (g_t_0 : Value) (g_t_1 : Value) (g_t_2 : Value) (g_t_3 : Value) (g_t_4 : Value) (g_t_5 : Value) (g_t_6 : Value) (g_t_7 : Value) (g_t_10 : Value) (g_t_11 : Value) (g_t_13 : Value) (g_t_14 : Value) (g_t_15 : Value) (x1 : Int) (x2 : Int) (c_leasts : Int → Int) (c_mosts : Int → Int) (c_tally : Int → Int) (F : Nat) {v : Int × (Int → Int)} (h : m_X0_worstAfter F x1 x2 c_leasts c_mosts c_tally = some v) : Ct l yX0_worstAfter cX0_worstAfter 8 (some .int) { frames := 1, cells := 0, slots := 0, locals := 23 } D cy ad [.ref a_t, .int (wI x1), .int (wI x2)] (W_X0_worstAfter cy a_t a_t_leasts a_t_mosts a_t_tally g_t_0 g_t_1 g_t_2 g_t_3 g_t_4 g_t_5 g_t_6 g_t_7 g_t_10 g_t_11 g_t_13 g_t_14 g_t_15 c_leasts c_mosts c_tally) (W_X0_worstAfter cy a_t a_t_leasts a_t_mosts a_t_tally g_t_0 g_t_1 g_t_2 g_t_3 g_t_4 g_t_5 g_t_6 g_t_7 g_t_10 g_t_11 g_t_13 g_t_14 g_t_15 c_leasts c_mosts (v.2)) (some (.int (wI (v.1)))) := by
  refine Ct.introI (j := 5) (plainFor_of_name (by decide)) rfl rfl (fun E C e1 e2 e3 e4 e5 hret => ?_)
  subst e1; subst e2; subst e3; subst e4
  exact wm_X0_worstAfter C e5 h hret
-- MovingStair$Counts.findQuestion()V
def W_X0_findQuestion (cy : Nat → ClassId) (a_t a_t_leasts a_t_mosts a_t_tally : Nat) (g_t_0 : Value) (g_t_1 : Value) (g_t_2 : Value) (g_t_5 : Value) (g_t_6 : Value) (g_t_7 : Value) (g_t_10 : Value) (g_t_11 : Value) (g_t_13 : Value) (g_t_14 : Value) (g_t_15 : Value) (c_askedPace : Int) (c_leftAtWorst : Int) (c_leasts : Int → Int) (c_mosts : Int → Int) (c_tally : Int → Int) : va_W := [(a_t, .inr (0, [g_t_0, g_t_1, g_t_2, .int (wI c_askedPace), .int (wI c_leftAtWorst), g_t_5, g_t_6, g_t_7, .ref a_t_leasts, .ref a_t_mosts, g_t_10, g_t_11, .ref a_t_tally, g_t_13, g_t_14, g_t_15])), (a_t_leasts, .inl (cy 1, 31, .inl (aI c_leasts))), (a_t_mosts, .inl (cy 1, 31, .inl (aI c_mosts))), (a_t_tally, .inl (cy 1, 201, .inl (aI c_tally)))]
def mb_X0_findQuestion_49 (F : Nat) (k15 : Int → Int → Int → (Int → Int) → Option (Int × Int × (Int → Int))) (x1 : Int) (c_askedPace : Int) (c_leftAtWorst : Int) (c_leasts : Int → Int) (c_mosts : Int → Int) (c_tally : Int → Int) : Option (Int × Int × (Int → Int)) :=
  k15 (x1 + 1) c_askedPace c_leftAtWorst c_tally
def mb_X0_findQuestion_15 (F : Nat) (k15 : Int → Int → Int → (Int → Int) → Option (Int × Int × (Int → Int))) (x1 : Int) (c_askedPace : Int) (c_leftAtWorst : Int) (c_leasts : Int → Int) (c_mosts : Int → Int) (c_tally : Int → Int) : Option (Int × Int × (Int → Int)) :=
  if wI 30 < wI x1 then
    (some (c_askedPace, c_leftAtWorst, c_tally))
  else
    (bnd2 (m_X0_worstAfter F x1 c_leftAtWorst c_leasts c_mosts c_tally) fun r1 o2 => if wI c_leftAtWorst ≤ wI r1 then
    (mb_X0_findQuestion_49 F k15 x1 c_askedPace c_leftAtWorst c_leasts c_mosts o2)
  else
    (mb_X0_findQuestion_49 F k15 x1 x1 r1 c_leasts c_mosts o2))
def ml_X0_findQuestion_15 (F : Nat) (x1 : Int) (c_askedPace : Int) (c_leftAtWorst : Int) (c_leasts : Int → Int) (c_mosts : Int → Int) (c_tally : Int → Int) : Option (Int × Int × (Int → Int)) :=
  loopN (fun (k : Int × Int × Int × (Int → Int) → Option (Int × Int × (Int → Int))) q => mb_X0_findQuestion_15 F (fun y0 y1 y2 y3 => k (y0, y1, y2, y3)) q.1 q.2.1 q.2.2.1 c_leasts c_mosts q.2.2.2) F (x1, c_askedPace, c_leftAtWorst, c_tally)
def m_X0_findQuestion (F : Nat) (c_leasts : Int → Int) (c_mosts : Int → Int) (c_tally : Int → Int) : Option (Int × Int × (Int → Int)) :=
  bnd1 (m_X0_pairs F c_leasts c_mosts) fun r1 => ml_X0_findQuestion_15 F 1 (-1) r1 c_leasts c_mosts c_tally
section S_X0_findQuestion
variable {E : EE} {a_t a_t_leasts a_t_mosts a_t_tally : Nat} {g_t_0 : Value} {g_t_1 : Value} {g_t_2 : Value} {g_t_5 : Value} {g_t_6 : Value} {g_t_7 : Value} {g_t_10 : Value} {g_t_11 : Value} {g_t_13 : Value} {g_t_14 : Value} {g_t_15 : Value}
set_option maxRecDepth 100000 in
set_option maxHeartbeats 4000000 in
theorem wb_X0_findQuestion_49 {F : Nat} {k15 : Int → Int → Int → (Int → Int) → Option (Int × Int × (Int → Int))} {v : Int × Int × (Int → Int)} {x1 : Int} {c_askedPace : Int} {c_leftAtWorst : Int} {c_leasts : Int → Int} {c_mosts : Int → Int} {c_tally : Int → Int} (C : Cx E cX0_findQuestion RX0 { frames := 2, cells := 0, slots := 0, locals := 50 }) (hN : eN E = 3) (h : mb_X0_findQuestion_49 F k15 x1 c_askedPace c_leftAtWorst c_leasts c_mosts c_tally = some v) (hk15 : ∀ (y_x1 : Int) (y_c_askedPace : Int) (y_c_leftAtWorst : Int) (y_c_tally : Int → Int), k15 y_x1 y_c_askedPace y_c_leftAtWorst y_c_tally = some v → GG E 0 0 (W_X0_findQuestion (eCy E) a_t a_t_leasts a_t_mosts a_t_tally g_t_0 g_t_1 g_t_2 g_t_5 g_t_6 g_t_7 g_t_10 g_t_11 g_t_13 g_t_14 g_t_15 y_c_askedPace y_c_leftAtWorst c_leasts c_mosts y_c_tally) [some (.ref a_t), some (.int (wI y_x1)), none] 15 []) (hret : ∀ (pc : Nat) (L : List (Option Value)), decode cX0_findQuestion pc = .ok (.return_, 1) → GG E 0 0 (W_X0_findQuestion (eCy E) a_t a_t_leasts a_t_mosts a_t_tally g_t_0 g_t_1 g_t_2 g_t_5 g_t_6 g_t_7 g_t_10 g_t_11 g_t_13 g_t_14 g_t_15 (v.1) (v.2.1) c_leasts c_mosts (v.2.2)) L pc []) : GG E 0 0 (W_X0_findQuestion (eCy E) a_t a_t_leasts a_t_mosts a_t_tally g_t_0 g_t_1 g_t_2 g_t_5 g_t_6 g_t_7 g_t_10 g_t_11 g_t_13 g_t_14 g_t_15 c_askedPace c_leftAtWorst c_leasts c_mosts c_tally) [some (.ref a_t), some (.int (wI x1)), none] 49 [] := by
  unfold mb_X0_findQuestion_49 at h
  refine g_iinc C hN dX0_findQuestion_49 rfl rfl (L' := [some (.ref a_t), some (.int (wI (x1 + 1))), none]) rfl ?_
  refine g_goto (tgt := 15) C dX0_findQuestion_52 (by decide) ?_
  exact hk15 _ _ _ _ h
set_option maxRecDepth 100000 in
set_option maxHeartbeats 4000000 in
theorem wb_X0_findQuestion_15 {F : Nat} {k15 : Int → Int → Int → (Int → Int) → Option (Int × Int × (Int → Int))} {v : Int × Int × (Int → Int)} {x1 : Int} {c_askedPace : Int} {c_leftAtWorst : Int} {c_leasts : Int → Int} {c_mosts : Int → Int} {c_tally : Int → Int} (C : Cx E cX0_findQuestion RX0 { frames := 2, cells := 0, slots := 0, locals := 50 }) (hN : eN E = 3) (h : mb_X0_findQuestion_15 F k15 x1 c_askedPace c_leftAtWorst c_leasts c_mosts c_tally = some v) (hk15 : ∀ (y_x1 : Int) (y_c_askedPace : Int) (y_c_leftAtWorst : Int) (y_c_tally : Int → Int), k15 y_x1 y_c_askedPace y_c_leftAtWorst y_c_tally = some v → GG E 0 0 (W_X0_findQuestion (eCy E) a_t a_t_leasts a_t_mosts a_t_tally g_t_0 g_t_1 g_t_2 g_t_5 g_t_6 g_t_7 g_t_10 g_t_11 g_t_13 g_t_14 g_t_15 y_c_askedPace y_c_leftAtWorst c_leasts c_mosts y_c_tally) [some (.ref a_t), some (.int (wI y_x1)), none] 15 []) (hret : ∀ (pc : Nat) (L : List (Option Value)), decode cX0_findQuestion pc = .ok (.return_, 1) → GG E 0 0 (W_X0_findQuestion (eCy E) a_t a_t_leasts a_t_mosts a_t_tally g_t_0 g_t_1 g_t_2 g_t_5 g_t_6 g_t_7 g_t_10 g_t_11 g_t_13 g_t_14 g_t_15 (v.1) (v.2.1) c_leasts c_mosts (v.2.2)) L pc []) : GG E 0 0 (W_X0_findQuestion (eCy E) a_t a_t_leasts a_t_mosts a_t_tally g_t_0 g_t_1 g_t_2 g_t_5 g_t_6 g_t_7 g_t_10 g_t_11 g_t_13 g_t_14 g_t_15 c_askedPace c_leftAtWorst c_leasts c_mosts c_tally) [some (.ref a_t), some (.int (wI x1)), none] 15 [] := by
  unfold mb_X0_findQuestion_15 at h
  refine g_iload_n 1 C dX0_findQuestion_15 rfl rfl ?_
  refine g_bipush C dX0_findQuestion_16 (by decide) ?_
  refine g_icmp_gt 55 C dX0_findQuestion_18 (by decide) h (fun h => ?_) (fun h => ?_)
  · cases h
    exact hret 55 _ dX0_findQuestion_55
  · refine g_aload_n 0 C dX0_findQuestion_21 rfl rfl ?_
    refine g_iload_n 1 C dX0_findQuestion_22 rfl rfl ?_
    refine g_aload_n 0 C dX0_findQuestion_23 rfl rfl ?_
    refine g_get C fg_X0_24 0 rfl rfl dX0_findQuestion_24 ?_
    refine g_st (st' := [.int (wI c_leftAtWorst), .int (wI x1), .ref a_t]) rfl ?_
    obtain ⟨r1, o2, hr3, h⟩ := bnd2_some h
    refine g_callI [0, 1, 2, 3] [] [0, 1, 2, 3] C mt_X0_120 (c_X0_worstAfter _ _ _ _ a_t a_t_leasts a_t_mosts a_t_tally (g_t_0) (g_t_1) (g_t_2) (.int (wI c_askedPace)) (.int (wI c_leftAtWorst)) (g_t_5) (g_t_6) (g_t_7) (g_t_10) (g_t_11) (g_t_13) (g_t_14) (g_t_15) x1 c_leftAtWorst c_leasts c_mosts c_tally F hr3) (q0 := 0) rfl (ci := 0) rfl rfl rfl (ws2 := (W_X0_findQuestion (eCy E) a_t a_t_leasts a_t_mosts a_t_tally g_t_0 g_t_1 g_t_2 g_t_5 g_t_6 g_t_7 g_t_10 g_t_11 g_t_13 g_t_14 g_t_15 c_askedPace c_leftAtWorst c_leasts c_mosts o2)) rfl rfl rfl (rest := []) rfl rfl rfl dX0_findQuestion_27 ?_
    refine g_istore_n 2 C hN dX0_findQuestion_30 rfl rfl (L' := [some (.ref a_t), some (.int (wI x1)), some (.int (wI r1))]) rfl ?_
    refine g_iload_n 2 C dX0_findQuestion_31 rfl rfl ?_
    refine g_aload_n 0 C dX0_findQuestion_32 rfl rfl ?_
    refine g_get C fg_X0_24 0 rfl rfl dX0_findQuestion_33 ?_
    refine g_st (st' := [.int (wI c_leftAtWorst), .int (wI r1)]) rfl ?_
    refine g_icmp_ge 49 C dX0_findQuestion_36 (by decide) h (fun h => ?_) (fun h => ?_)
    · refine g_mask [true, true, false] (L' := [some (.ref a_t), some (.int (wI x1)), none]) rfl ?_
      exact wb_X0_findQuestion_49 C hN h hk15 hret
    · refine g_aload_n 0 C dX0_findQuestion_39 rfl rfl ?_
      refine g_iload_n 2 C dX0_findQuestion_40 rfl rfl ?_
      refine g_putI C fp_X0_24 0 rfl rfl (ws' := (W_X0_findQuestion (eCy E) a_t a_t_leasts a_t_mosts a_t_tally g_t_0 g_t_1 g_t_2 g_t_5 g_t_6 g_t_7 g_t_10 g_t_11 g_t_13 g_t_14 g_t_15 c_askedPace r1 c_leasts c_mosts o2)) rfl dX0_findQuestion_41 ?_
      refine g_aload_n 0 C dX0_findQuestion_44 rfl rfl ?_
      refine g_iload_n 1 C dX0_findQuestion_45 rfl rfl ?_
      refine g_putI C fp_X0_21 0 rfl rfl (ws' := (W_X0_findQuestion (eCy E) a_t a_t_leasts a_t_mosts a_t_tally g_t_0 g_t_1 g_t_2 g_t_5 g_t_6 g_t_7 g_t_10 g_t_11 g_t_13 g_t_14 g_t_15 x1 r1 c_leasts c_mosts o2)) rfl dX0_findQuestion_46 ?_
      refine g_mask [true, true, false] (L' := [some (.ref a_t), some (.int (wI x1)), none]) rfl ?_
      exact wb_X0_findQuestion_49 C hN h hk15 hret
set_option maxRecDepth 100000 in
set_option maxHeartbeats 4000000 in
theorem wl_X0_findQuestion_15 {F : Nat} {v : Int × Int × (Int → Int)} {x1 : Int} {c_askedPace : Int} {c_leftAtWorst : Int} {c_leasts : Int → Int} {c_mosts : Int → Int} {c_tally : Int → Int} (C : Cx E cX0_findQuestion RX0 { frames := 2, cells := 0, slots := 0, locals := 50 }) (hN : eN E = 3) (h : ml_X0_findQuestion_15 F x1 c_askedPace c_leftAtWorst c_leasts c_mosts c_tally = some v) (hret : ∀ (pc : Nat) (L : List (Option Value)), decode cX0_findQuestion pc = .ok (.return_, 1) → GG E 0 0 (W_X0_findQuestion (eCy E) a_t a_t_leasts a_t_mosts a_t_tally g_t_0 g_t_1 g_t_2 g_t_5 g_t_6 g_t_7 g_t_10 g_t_11 g_t_13 g_t_14 g_t_15 (v.1) (v.2.1) c_leasts c_mosts (v.2.2)) L pc []) : GG E 0 0 (W_X0_findQuestion (eCy E) a_t a_t_leasts a_t_mosts a_t_tally g_t_0 g_t_1 g_t_2 g_t_5 g_t_6 g_t_7 g_t_10 g_t_11 g_t_13 g_t_14 g_t_15 c_askedPace c_leftAtWorst c_leasts c_mosts c_tally) [some (.ref a_t), some (.int (wI x1)), none] 15 [] := by
  unfold ml_X0_findQuestion_15 at h
  exact loop_walk (g := fun (q : Int × Int × Int × (Int → Int)) => GG E 0 0 (W_X0_findQuestion (eCy E) a_t a_t_leasts a_t_mosts a_t_tally g_t_0 g_t_1 g_t_2 g_t_5 g_t_6 g_t_7 g_t_10 g_t_11 g_t_13 g_t_14 g_t_15 (q.2.1) (q.2.2.1) c_leasts c_mosts (q.2.2.2)) [some (.ref a_t), some (.int (wI (q.1))), none] 15 []) (fun k hk q h => wb_X0_findQuestion_15 C hN h (fun y0 y1 y2 y3 hh => hk (y0, y1, y2, y3) hh) hret) F (x1, c_askedPace, c_leftAtWorst, c_tally) h
set_option maxRecDepth 100000 in
set_option maxHeartbeats 4000000 in
theorem wm_X0_findQuestion {F : Nat} {v : Int × Int × (Int → Int)} {c_leasts : Int → Int} {c_mosts : Int → Int} {c_tally : Int → Int} {c_askedPace : Int} {c_leftAtWorst : Int} (C : Cx E cX0_findQuestion RX0 { frames := 2, cells := 0, slots := 0, locals := 50 }) (hN : eN E = 3) (h : m_X0_findQuestion F c_leasts c_mosts c_tally = some v) (hret : ∀ (pc : Nat) (L : List (Option Value)), decode cX0_findQuestion pc = .ok (.return_, 1) → GG E 0 0 (W_X0_findQuestion (eCy E) a_t a_t_leasts a_t_mosts a_t_tally g_t_0 g_t_1 g_t_2 g_t_5 g_t_6 g_t_7 g_t_10 g_t_11 g_t_13 g_t_14 g_t_15 (v.1) (v.2.1) c_leasts c_mosts (v.2.2)) L pc []) : GG E 0 0 (W_X0_findQuestion (eCy E) a_t a_t_leasts a_t_mosts a_t_tally g_t_0 g_t_1 g_t_2 g_t_5 g_t_6 g_t_7 g_t_10 g_t_11 g_t_13 g_t_14 g_t_15 c_askedPace c_leftAtWorst c_leasts c_mosts c_tally) [some (.ref a_t), none, none] 0 [] := by
  unfold m_X0_findQuestion at h
  refine g_aload_n 0 C dX0_findQuestion_0 rfl rfl ?_
  refine g_iconst C dX0_findQuestion_1 ?_
  refine g_putI C fp_X0_21 0 rfl rfl (ws' := (W_X0_findQuestion (eCy E) a_t a_t_leasts a_t_mosts a_t_tally g_t_0 g_t_1 g_t_2 g_t_5 g_t_6 g_t_7 g_t_10 g_t_11 g_t_13 g_t_14 g_t_15 (-1) c_leftAtWorst c_leasts c_mosts c_tally)) rfl dX0_findQuestion_2 ?_
  refine g_aload_n 0 C dX0_findQuestion_5 rfl rfl ?_
  refine g_aload_n 0 C dX0_findQuestion_6 rfl rfl ?_
  obtain ⟨r1, hr2, h⟩ := bnd1_some h
  refine g_callI [0, 1, 2] [3] [1, 2, 3, 0] C mt_X0_116 (c_X0_pairs _ _ _ _ a_t a_t_leasts a_t_mosts (g_t_0) (g_t_1) (g_t_2) (.int (wI (-1))) (.int (wI c_leftAtWorst)) (g_t_5) (g_t_6) (g_t_7) (g_t_10) (g_t_11) (.ref a_t_tally) (g_t_13) (g_t_14) (g_t_15) c_leasts c_mosts F hr2) (q0 := 0) rfl (ci := 0) rfl rfl rfl (ws2 := (W_X0_findQuestion (eCy E) a_t a_t_leasts a_t_mosts a_t_tally g_t_0 g_t_1 g_t_2 g_t_5 g_t_6 g_t_7 g_t_10 g_t_11 g_t_13 g_t_14 g_t_15 (-1) c_leftAtWorst c_leasts c_mosts c_tally)) rfl rfl rfl (rest := [.ref a_t]) rfl rfl rfl dX0_findQuestion_7 ?_
  refine g_putI C fp_X0_24 0 rfl rfl (ws' := (W_X0_findQuestion (eCy E) a_t a_t_leasts a_t_mosts a_t_tally g_t_0 g_t_1 g_t_2 g_t_5 g_t_6 g_t_7 g_t_10 g_t_11 g_t_13 g_t_14 g_t_15 (-1) r1 c_leasts c_mosts c_tally)) rfl dX0_findQuestion_10 ?_
  refine g_iconst C dX0_findQuestion_13 ?_
  refine g_istore_n 1 C hN dX0_findQuestion_14 rfl rfl (L' := [some (.ref a_t), some (.int (wI 1)), none]) rfl ?_
  exact wl_X0_findQuestion_15 C hN h hret
end S_X0_findQuestion
set_option maxRecDepth 100000 in
set_option maxHeartbeats 4000000 in
theorem c_X0_findQuestion (l : Launch) (D : va_G) (cy : Nat → ClassId) (ad : AD) (a_t a_t_leasts a_t_mosts a_t_tally : Nat) (g_t_0 : Value) (g_t_1 : Value) (g_t_2 : Value) (g_t_5 : Value) (g_t_6 : Value) (g_t_7 : Value) (g_t_10 : Value) (g_t_11 : Value) (g_t_13 : Value) (g_t_14 : Value) (g_t_15 : Value) (c_askedPace : Int) (c_leftAtWorst : Int) (c_leasts : Int → Int) (c_mosts : Int → Int) (c_tally : Int → Int) (F : Nat) {v : Int × Int × (Int → Int)} (h : m_X0_findQuestion F c_leasts c_mosts c_tally = some v) : Ct l yX0_findQuestion cX0_findQuestion 3 none { frames := 2, cells := 0, slots := 0, locals := 50 } D cy ad [.ref a_t] (W_X0_findQuestion cy a_t a_t_leasts a_t_mosts a_t_tally g_t_0 g_t_1 g_t_2 g_t_5 g_t_6 g_t_7 g_t_10 g_t_11 g_t_13 g_t_14 g_t_15 c_askedPace c_leftAtWorst c_leasts c_mosts c_tally) (W_X0_findQuestion cy a_t a_t_leasts a_t_mosts a_t_tally g_t_0 g_t_1 g_t_2 g_t_5 g_t_6 g_t_7 g_t_10 g_t_11 g_t_13 g_t_14 g_t_15 (v.1) (v.2.1) c_leasts c_mosts (v.2.2)) none := by
  refine Ct.introV (j := 2) (plainFor_of_name (by decide)) rfl rfl (fun E C e1 e2 e3 e4 e5 hret => ?_)
  subst e1; subst e2; subst e3; subst e4
  exact wm_X0_findQuestion C e5 h hret
-- MovingStair$Counts.divisor()J
def W_X0_divisor (cy : Nat → ClassId) (a_t a_t_counted a_t_paces a_t_ways : Nat) (g_t_0 : Value) (g_t_1 : Value) (g_t_2 : Value) (g_t_3 : Value) (g_t_4 : Value) (g_t_8 : Value) (g_t_9 : Value) (g_t_10 : Value) (g_t_11 : Value) (g_t_12 : Value) (g_t_13 : Value) (g_t_14 : Value) (g_t_15 : Value) (c_counted : Int → Int) (c_paces : Int → Int) (c_ways : Int → Int) : va_W := [(a_t, .inr (0, [g_t_0, g_t_1, g_t_2, g_t_3, g_t_4, .ref a_t_paces, .ref a_t_ways, .ref a_t_counted, g_t_8, g_t_9, g_t_10, g_t_11, g_t_12, g_t_13, g_t_14, g_t_15])), (a_t_counted, .inl (cy 1, 20, .inl (aI c_counted))), (a_t_paces, .inl (cy 1, 20, .inl (aI c_paces))), (a_t_ways, .inl (cy 1, 20, .inl (aI c_ways)))]
def m_X0_divisor (F : Nat) (c_counted : Int → Int) (c_paces : Int → Int) (c_ways : Int → Int) : Option (Int) :=
  chk (r32 (c_counted 0)) <| chk (r32 (c_ways 0)) <| chk (r32 (c_paces 1)) <| chk (r32 (c_counted 1)) <| chk (r32 (c_ways 1)) <| chk (r32 (c_paces 0)) <| some ((((c_counted 0) * (c_ways 0)) * (c_paces 1)) - (((c_counted 1) * (c_ways 1)) * (c_paces 0)))
section S_X0_divisor
variable {E : EE} {a_t a_t_counted a_t_paces a_t_ways : Nat} {g_t_0 : Value} {g_t_1 : Value} {g_t_2 : Value} {g_t_3 : Value} {g_t_4 : Value} {g_t_8 : Value} {g_t_9 : Value} {g_t_10 : Value} {g_t_11 : Value} {g_t_12 : Value} {g_t_13 : Value} {g_t_14 : Value} {g_t_15 : Value}
set_option maxRecDepth 100000 in
set_option maxHeartbeats 4000000 in
theorem wm_X0_divisor {F : Nat} {v : Int} {c_counted : Int → Int} {c_paces : Int → Int} {c_ways : Int → Int} (C : Cx E cX0_divisor RX0 { frames := 0, cells := 0, slots := 0, locals := 0 }) (hN : eN E = 1) (h : m_X0_divisor F c_counted c_paces c_ways = some v) (hret : ∀ (pc : Nat) (L : List (Option Value)), decode cX0_divisor pc = .ok (.lreturn, 1) → GG E 0 0 (W_X0_divisor (eCy E) a_t a_t_counted a_t_paces a_t_ways g_t_0 g_t_1 g_t_2 g_t_3 g_t_4 g_t_8 g_t_9 g_t_10 g_t_11 g_t_12 g_t_13 g_t_14 g_t_15 c_counted c_paces c_ways) L pc [.long (wJ v)]) : GG E 0 0 (W_X0_divisor (eCy E) a_t a_t_counted a_t_paces a_t_ways g_t_0 g_t_1 g_t_2 g_t_3 g_t_4 g_t_8 g_t_9 g_t_10 g_t_11 g_t_12 g_t_13 g_t_14 g_t_15 c_counted c_paces c_ways) [some (.ref a_t)] 0 [] := by
  unfold m_X0_divisor at h
  refine g_aload_n 0 C dX0_divisor_0 rfl rfl ?_
  refine g_get C fg_X0_34 0 rfl rfl dX0_divisor_1 ?_
  refine g_iconst C dX0_divisor_4 ?_
  refine g_iald C 1 rfl (by decide) rfl dX0_divisor_5 ?_
  obtain ⟨hc1, h⟩ := chk_some h
  refine g_i2l C dX0_divisor_6 hc1 ?_
  refine g_aload_n 0 C dX0_divisor_7 rfl rfl ?_
  refine g_get C fg_X0_31 0 rfl rfl dX0_divisor_8 ?_
  refine g_iconst C dX0_divisor_11 ?_
  refine g_iald C 3 rfl (by decide) rfl dX0_divisor_12 ?_
  obtain ⟨hc2, h⟩ := chk_some h
  refine g_i2l C dX0_divisor_13 hc2 ?_
  refine g_lmul C dX0_divisor_14 ?_
  refine g_aload_n 0 C dX0_divisor_15 rfl rfl ?_
  refine g_get C fg_X0_27 0 rfl rfl dX0_divisor_16 ?_
  refine g_iconst C dX0_divisor_19 ?_
  refine g_iald C 2 rfl (by decide) rfl dX0_divisor_20 ?_
  obtain ⟨hc3, h⟩ := chk_some h
  refine g_i2l C dX0_divisor_21 hc3 ?_
  refine g_lmul C dX0_divisor_22 ?_
  refine g_aload_n 0 C dX0_divisor_23 rfl rfl ?_
  refine g_get C fg_X0_34 0 rfl rfl dX0_divisor_24 ?_
  refine g_iconst C dX0_divisor_27 ?_
  refine g_iald C 1 rfl (by decide) rfl dX0_divisor_28 ?_
  obtain ⟨hc4, h⟩ := chk_some h
  refine g_i2l C dX0_divisor_29 hc4 ?_
  refine g_aload_n 0 C dX0_divisor_30 rfl rfl ?_
  refine g_get C fg_X0_31 0 rfl rfl dX0_divisor_31 ?_
  refine g_iconst C dX0_divisor_34 ?_
  refine g_iald C 3 rfl (by decide) rfl dX0_divisor_35 ?_
  obtain ⟨hc5, h⟩ := chk_some h
  refine g_i2l C dX0_divisor_36 hc5 ?_
  refine g_lmul C dX0_divisor_37 ?_
  refine g_aload_n 0 C dX0_divisor_38 rfl rfl ?_
  refine g_get C fg_X0_27 0 rfl rfl dX0_divisor_39 ?_
  refine g_iconst C dX0_divisor_42 ?_
  refine g_iald C 2 rfl (by decide) rfl dX0_divisor_43 ?_
  obtain ⟨hc6, h⟩ := chk_some h
  refine g_i2l C dX0_divisor_44 hc6 ?_
  refine g_lmul C dX0_divisor_45 ?_
  refine g_lsub C dX0_divisor_46 ?_
  cases h
  exact hret 47 _ dX0_divisor_47
end S_X0_divisor
set_option maxRecDepth 100000 in
set_option maxHeartbeats 4000000 in
theorem c_X0_divisor (l : Launch) (D : va_G) (cy : Nat → ClassId) (ad : AD) (a_t a_t_counted a_t_paces a_t_ways : Nat) (g_t_0 : Value) (g_t_1 : Value) (g_t_2 : Value) (g_t_3 : Value) (g_t_4 : Value) (g_t_8 : Value) (g_t_9 : Value) (g_t_10 : Value) (g_t_11 : Value) (g_t_12 : Value) (g_t_13 : Value) (g_t_14 : Value) (g_t_15 : Value) (c_counted : Int → Int) (c_paces : Int → Int) (c_ways : Int → Int) (F : Nat) {v : Int} (h : m_X0_divisor F c_counted c_paces c_ways = some v) : Ct l yX0_divisor cX0_divisor 1 (some .long) { frames := 0, cells := 0, slots := 0, locals := 0 } D cy ad [.ref a_t] (W_X0_divisor cy a_t a_t_counted a_t_paces a_t_ways g_t_0 g_t_1 g_t_2 g_t_3 g_t_4 g_t_8 g_t_9 g_t_10 g_t_11 g_t_12 g_t_13 g_t_14 g_t_15 c_counted c_paces c_ways) (W_X0_divisor cy a_t a_t_counted a_t_paces a_t_ways g_t_0 g_t_1 g_t_2 g_t_3 g_t_4 g_t_8 g_t_9 g_t_10 g_t_11 g_t_12 g_t_13 g_t_14 g_t_15 c_counted c_paces c_ways) (some (.long (wJ v))) := by
  refine Ct.introJ (j := 0) (plainFor_of_name (by decide)) rfl rfl (fun E C e1 e2 e3 e4 e5 hret => ?_)
  subst e1; subst e2; subst e3; subst e4
  exact wm_X0_divisor C e5 h hret
-- MovingStair$Counts.solveSteps(LMovingStair$Fraction;)Z
def W_X0_solveSteps (cy : Nat → ClassId) (a_t a_p1 a_t_counted a_t_paces a_t_ways : Nat) (g_t_0 : Value) (g_t_1 : Value) (g_t_2 : Value) (g_t_3 : Value) (g_t_4 : Value) (g_t_8 : Value) (g_t_9 : Value) (g_t_10 : Value) (g_t_11 : Value) (g_t_12 : Value) (g_t_13 : Value) (g_t_14 : Value) (g_t_15 : Value) (c_p1_above : Int) (c_p1_below : Int) (c_counted : Int → Int) (c_paces : Int → Int) (c_ways : Int → Int) : va_W := [(a_t, .inr (0, [g_t_0, g_t_1, g_t_2, g_t_3, g_t_4, .ref a_t_paces, .ref a_t_ways, .ref a_t_counted, g_t_8, g_t_9, g_t_10, g_t_11, g_t_12, g_t_13, g_t_14, g_t_15])), (a_p1, .inr (1, [.long (wJ c_p1_above), .long (wJ c_p1_below)])), (a_t_counted, .inl (cy 1, 20, .inl (aI c_counted))), (a_t_paces, .inl (cy 1, 20, .inl (aI c_paces))), (a_t_ways, .inl (cy 1, 20, .inl (aI c_ways)))]
def m_X0_solveSteps (F : Nat) (c_counted : Int → Int) (c_paces : Int → Int) (c_ways : Int → Int) : Option (Int × Int × Int) :=
  bnd1 (m_X0_divisor F c_counted c_paces c_ways) fun r1 => chk (r32 (c_counted 0)) <| chk (r32 (c_counted 1)) <| chk (r32 (((c_paces 1) * (c_ways 0)) - ((c_paces 0) * (c_ways 1)))) <| bnd2 (m_X1_put F (((c_counted 0) * (c_counted 1)) * (((c_paces 1) * (c_ways 0)) - ((c_paces 0) * (c_ways 1)))) r1) fun o6 o7 => if wJ r1 = wJ 0 then
    (some (0, o6, o7))
  else
    (some (1, o6, o7))
section S_X0_solveSteps
variable {E : EE} {a_t a_p1 a_t_counted a_t_paces a_t_ways : Nat} {g_t_0 : Value} {g_t_1 : Value} {g_t_2 : Value} {g_t_3 : Value} {g_t_4 : Value} {g_t_8 : Value} {g_t_9 : Value} {g_t_10 : Value} {g_t_11 : Value} {g_t_12 : Value} {g_t_13 : Value} {g_t_14 : Value} {g_t_15 : Value}
set_option maxRecDepth 100000 in
set_option maxHeartbeats 4000000 in
theorem wm_X0_solveSteps {F : Nat} {v : Int × Int × Int} {c_counted : Int → Int} {c_paces : Int → Int} {c_ways : Int → Int} {c_p1_above : Int} {c_p1_below : Int} (C : Cx E cX0_solveSteps RX0 { frames := 1, cells := 0, slots := 0, locals := 31 }) (hN : eN E = 4) (h : m_X0_solveSteps F c_counted c_paces c_ways = some v) (hret : ∀ (pc : Nat) (L : List (Option Value)), narrow .boolean (.int (wI (v.1))) = .int (wI (v.1)) → decode cX0_solveSteps pc = .ok (.ireturn, 1) → GG E 0 0 (W_X0_solveSteps (eCy E) a_t a_p1 a_t_counted a_t_paces a_t_ways g_t_0 g_t_1 g_t_2 g_t_3 g_t_4 g_t_8 g_t_9 g_t_10 g_t_11 g_t_12 g_t_13 g_t_14 g_t_15 (v.2.1) (v.2.2) c_counted c_paces c_ways) L pc [.int (wI (v.1))]) : GG E 0 0 (W_X0_solveSteps (eCy E) a_t a_p1 a_t_counted a_t_paces a_t_ways g_t_0 g_t_1 g_t_2 g_t_3 g_t_4 g_t_8 g_t_9 g_t_10 g_t_11 g_t_12 g_t_13 g_t_14 g_t_15 c_p1_above c_p1_below c_counted c_paces c_ways) [some (.ref a_t), some (.ref a_p1), none, none] 0 [] := by
  unfold m_X0_solveSteps at h
  refine g_aload_n 0 C dX0_solveSteps_0 rfl rfl ?_
  obtain ⟨r1, hr2, h⟩ := bnd1_some h
  refine g_callJ [0, 2, 3, 4] [1] [1, 0, 2, 3, 4] C mt_X0_123 (c_X0_divisor _ _ _ _ a_t a_t_counted a_t_paces a_t_ways (g_t_0) (g_t_1) (g_t_2) (g_t_3) (g_t_4) (g_t_8) (g_t_9) (g_t_10) (g_t_11) (g_t_12) (g_t_13) (g_t_14) (g_t_15) c_counted c_paces c_ways F hr2) (q0 := 0) rfl (ci := 0) rfl rfl rfl (ws2 := (W_X0_solveSteps (eCy E) a_t a_p1 a_t_counted a_t_paces a_t_ways g_t_0 g_t_1 g_t_2 g_t_3 g_t_4 g_t_8 g_t_9 g_t_10 g_t_11 g_t_12 g_t_13 g_t_14 g_t_15 c_p1_above c_p1_below c_counted c_paces c_ways)) rfl rfl rfl (rest := []) rfl rfl rfl dX0_solveSteps_1 ?_
  refine g_lstore_n 2 C hN dX0_solveSteps_4 rfl rfl (L' := [some (.ref a_t), some (.ref a_p1), some (.long (wJ r1)), none]) rfl ?_
  refine g_aload_n 1 C dX0_solveSteps_5 rfl rfl ?_
  refine g_aload_n 0 C dX0_solveSteps_6 rfl rfl ?_
  refine g_get C fg_X0_34 0 rfl rfl dX0_solveSteps_7 ?_
  refine g_iconst C dX0_solveSteps_10 ?_
  refine g_iald C 2 rfl (by decide) rfl dX0_solveSteps_11 ?_
  obtain ⟨hc3, h⟩ := chk_some h
  refine g_i2l C dX0_solveSteps_12 hc3 ?_
  refine g_aload_n 0 C dX0_solveSteps_13 rfl rfl ?_
  refine g_get C fg_X0_34 0 rfl rfl dX0_solveSteps_14 ?_
  refine g_iconst C dX0_solveSteps_17 ?_
  refine g_iald C 2 rfl (by decide) rfl dX0_solveSteps_18 ?_
  obtain ⟨hc4, h⟩ := chk_some h
  refine g_i2l C dX0_solveSteps_19 hc4 ?_
  refine g_lmul C dX0_solveSteps_20 ?_
  refine g_aload_n 0 C dX0_solveSteps_21 rfl rfl ?_
  refine g_get C fg_X0_27 0 rfl rfl dX0_solveSteps_22 ?_
  refine g_iconst C dX0_solveSteps_25 ?_
  refine g_iald C 3 rfl (by decide) rfl dX0_solveSteps_26 ?_
  refine g_aload_n 0 C dX0_solveSteps_27 rfl rfl ?_
  refine g_get C fg_X0_31 0 rfl rfl dX0_solveSteps_28 ?_
  refine g_iconst C dX0_solveSteps_31 ?_
  refine g_iald C 4 rfl (by decide) rfl dX0_solveSteps_32 ?_
  refine g_imul C dX0_solveSteps_33 ?_
  refine g_aload_n 0 C dX0_solveSteps_34 rfl rfl ?_
  refine g_get C fg_X0_27 0 rfl rfl dX0_solveSteps_35 ?_
  refine g_iconst C dX0_solveSteps_38 ?_
  refine g_iald C 3 rfl (by decide) rfl dX0_solveSteps_39 ?_
  refine g_aload_n 0 C dX0_solveSteps_40 rfl rfl ?_
  refine g_get C fg_X0_31 0 rfl rfl dX0_solveSteps_41 ?_
  refine g_iconst C dX0_solveSteps_44 ?_
  refine g_iald C 4 rfl (by decide) rfl dX0_solveSteps_45 ?_
  refine g_imul C dX0_solveSteps_46 ?_
  refine g_isub C dX0_solveSteps_47 ?_
  obtain ⟨hc5, h⟩ := chk_some h
  refine g_i2l C dX0_solveSteps_48 hc5 ?_
  refine g_lmul C dX0_solveSteps_49 ?_
  refine g_lload_n 2 C dX0_solveSteps_50 rfl rfl ?_
  obtain ⟨o6, o7, hr8, h⟩ := bnd2_some h
  refine g_callV [1] [0, 2, 3, 4] [0, 4, 1, 2, 3] C mt_X0_127 (c_X1_put _ _ _ _ a_p1 (((c_counted 0) * (c_counted 1)) * (((c_paces 1) * (c_ways 0)) - ((c_paces 0) * (c_ways 1)))) r1 c_p1_above c_p1_below F hr8) (q0 := 0) rfl (ci := 1) rfl rfl rfl (ws2 := (W_X0_solveSteps (eCy E) a_t a_p1 a_t_counted a_t_paces a_t_ways g_t_0 g_t_1 g_t_2 g_t_3 g_t_4 g_t_8 g_t_9 g_t_10 g_t_11 g_t_12 g_t_13 g_t_14 g_t_15 o6 o7 c_counted c_paces c_ways)) rfl rfl rfl (rest := []) rfl rfl rfl dX0_solveSteps_51 ?_
  refine g_lload_n 2 C dX0_solveSteps_54 rfl rfl ?_
  refine g_lconst (x := 0) C dX0_solveSteps_55 (by decide) ?_
  refine g_lcmp_eq 64 C dX0_solveSteps_56 dX0_solveSteps_57 (by decide) h (fun h => ?_) (fun h => ?_)
  · refine g_iconst C dX0_solveSteps_64 ?_
    cases h
    exact hret 65 _ bn0 dX0_solveSteps_65
  · refine g_iconst C dX0_solveSteps_60 ?_
    refine g_goto (tgt := 65) C dX0_solveSteps_61 (by decide) ?_
    cases h
    exact hret 65 _ bn1 dX0_solveSteps_65
end S_X0_solveSteps
set_option maxRecDepth 100000 in
set_option maxHeartbeats 4000000 in
theorem c_X0_solveSteps (l : Launch) (D : va_G) (cy : Nat → ClassId) (ad : AD) (a_t a_p1 a_t_counted a_t_paces a_t_ways : Nat) (g_t_0 : Value) (g_t_1 : Value) (g_t_2 : Value) (g_t_3 : Value) (g_t_4 : Value) (g_t_8 : Value) (g_t_9 : Value) (g_t_10 : Value) (g_t_11 : Value) (g_t_12 : Value) (g_t_13 : Value) (g_t_14 : Value) (g_t_15 : Value) (c_p1_above : Int) (c_p1_below : Int) (c_counted : Int → Int) (c_paces : Int → Int) (c_ways : Int → Int) (F : Nat) {v : Int × Int × Int} (h : m_X0_solveSteps F c_counted c_paces c_ways = some v) : Ct l yX0_solveSteps cX0_solveSteps 4 (some .boolean) { frames := 1, cells := 0, slots := 0, locals := 31 } D cy ad [.ref a_t, .ref a_p1] (W_X0_solveSteps cy a_t a_p1 a_t_counted a_t_paces a_t_ways g_t_0 g_t_1 g_t_2 g_t_3 g_t_4 g_t_8 g_t_9 g_t_10 g_t_11 g_t_12 g_t_13 g_t_14 g_t_15 c_p1_above c_p1_below c_counted c_paces c_ways) (W_X0_solveSteps cy a_t a_p1 a_t_counted a_t_paces a_t_ways g_t_0 g_t_1 g_t_2 g_t_3 g_t_4 g_t_8 g_t_9 g_t_10 g_t_11 g_t_12 g_t_13 g_t_14 g_t_15 (v.2.1) (v.2.2) c_counted c_paces c_ways) (some (.int (wI (v.1)))) := by
  refine Ct.introZ (j := 2) (plainFor_of_name (by decide)) rfl rfl (fun E C e1 e2 e3 e4 e5 hret => ?_)
  subst e1; subst e2; subst e3; subst e4
  exact wm_X0_solveSteps C e5 h hret
-- MovingStair$Counts.solveSpeed(LMovingStair$Fraction;)Z
def W_X0_solveSpeed (cy : Nat → ClassId) (a_t a_p1 a_t_counted a_t_paces a_t_ways : Nat) (g_t_0 : Value) (g_t_1 : Value) (g_t_2 : Value) (g_t_3 : Value) (g_t_4 : Value) (g_t_8 : Value) (g_t_9 : Value) (g_t_10 : Value) (g_t_11 : Value) (g_t_12 : Value) (g_t_13 : Value) (g_t_14 : Value) (g_t_15 : Value) (c_p1_above : Int) (c_p1_below : Int) (c_counted : Int → Int) (c_paces : Int → Int) (c_ways : Int → Int) : va_W := [(a_t, .inr (0, [g_t_0, g_t_1, g_t_2, g_t_3, g_t_4, .ref a_t_paces, .ref a_t_ways, .ref a_t_counted, g_t_8, g_t_9, g_t_10, g_t_11, g_t_12, g_t_13, g_t_14, g_t_15])), (a_p1, .inr (1, [.long (wJ c_p1_above), .long (wJ c_p1_below)])), (a_t_counted, .inl (cy 1, 20, .inl (aI c_counted))), (a_t_paces, .inl (cy 1, 20, .inl (aI c_paces))), (a_t_ways, .inl (cy 1, 20, .inl (aI c_ways)))]
def m_X0_solveSpeed (F : Nat) (c_counted : Int → Int) (c_paces : Int → Int) (c_ways : Int → Int) : Option (Int × Int × Int) :=
  bnd1 (m_X0_divisor F c_counted c_paces c_ways) fun r1 => chk (r32 (c_paces 0)) <| chk (r32 (c_paces 1)) <| chk (r32 ((c_counted 1) - (c_counted 0))) <| bnd2 (m_X1_put F (((c_paces 0) * (c_paces 1)) * ((c_counted 1) - (c_counted 0))) r1) fun o6 o7 => if wJ r1 = wJ 0 then
    (some (0, o6, o7))
  else
    (some (1, o6, o7))
section S_X0_solveSpeed
variable {E : EE} {a_t a_p1 a_t_counted a_t_paces a_t_ways : Nat} {g_t_0 : Value} {g_t_1 : Value} {g_t_2 : Value} {g_t_3 : Value} {g_t_4 : Value} {g_t_8 : Value} {g_t_9 : Value} {g_t_10 : Value} {g_t_11 : Value} {g_t_12 : Value} {g_t_13 : Value} {g_t_14 : Value} {g_t_15 : Value}
set_option maxRecDepth 100000 in
set_option maxHeartbeats 4000000 in
theorem wm_X0_solveSpeed {F : Nat} {v : Int × Int × Int} {c_counted : Int → Int} {c_paces : Int → Int} {c_ways : Int → Int} {c_p1_above : Int} {c_p1_below : Int} (C : Cx E cX0_solveSpeed RX0 { frames := 1, cells := 0, slots := 0, locals := 31 }) (hN : eN E = 4) (h : m_X0_solveSpeed F c_counted c_paces c_ways = some v) (hret : ∀ (pc : Nat) (L : List (Option Value)), narrow .boolean (.int (wI (v.1))) = .int (wI (v.1)) → decode cX0_solveSpeed pc = .ok (.ireturn, 1) → GG E 0 0 (W_X0_solveSpeed (eCy E) a_t a_p1 a_t_counted a_t_paces a_t_ways g_t_0 g_t_1 g_t_2 g_t_3 g_t_4 g_t_8 g_t_9 g_t_10 g_t_11 g_t_12 g_t_13 g_t_14 g_t_15 (v.2.1) (v.2.2) c_counted c_paces c_ways) L pc [.int (wI (v.1))]) : GG E 0 0 (W_X0_solveSpeed (eCy E) a_t a_p1 a_t_counted a_t_paces a_t_ways g_t_0 g_t_1 g_t_2 g_t_3 g_t_4 g_t_8 g_t_9 g_t_10 g_t_11 g_t_12 g_t_13 g_t_14 g_t_15 c_p1_above c_p1_below c_counted c_paces c_ways) [some (.ref a_t), some (.ref a_p1), none, none] 0 [] := by
  unfold m_X0_solveSpeed at h
  refine g_aload_n 0 C dX0_solveSpeed_0 rfl rfl ?_
  obtain ⟨r1, hr2, h⟩ := bnd1_some h
  refine g_callJ [0, 2, 3, 4] [1] [1, 0, 2, 3, 4] C mt_X0_123 (c_X0_divisor _ _ _ _ a_t a_t_counted a_t_paces a_t_ways (g_t_0) (g_t_1) (g_t_2) (g_t_3) (g_t_4) (g_t_8) (g_t_9) (g_t_10) (g_t_11) (g_t_12) (g_t_13) (g_t_14) (g_t_15) c_counted c_paces c_ways F hr2) (q0 := 0) rfl (ci := 0) rfl rfl rfl (ws2 := (W_X0_solveSpeed (eCy E) a_t a_p1 a_t_counted a_t_paces a_t_ways g_t_0 g_t_1 g_t_2 g_t_3 g_t_4 g_t_8 g_t_9 g_t_10 g_t_11 g_t_12 g_t_13 g_t_14 g_t_15 c_p1_above c_p1_below c_counted c_paces c_ways)) rfl rfl rfl (rest := []) rfl rfl rfl dX0_solveSpeed_1 ?_
  refine g_lstore_n 2 C hN dX0_solveSpeed_4 rfl rfl (L' := [some (.ref a_t), some (.ref a_p1), some (.long (wJ r1)), none]) rfl ?_
  refine g_aload_n 1 C dX0_solveSpeed_5 rfl rfl ?_
  refine g_aload_n 0 C dX0_solveSpeed_6 rfl rfl ?_
  refine g_get C fg_X0_27 0 rfl rfl dX0_solveSpeed_7 ?_
  refine g_iconst C dX0_solveSpeed_10 ?_
  refine g_iald C 3 rfl (by decide) rfl dX0_solveSpeed_11 ?_
  obtain ⟨hc3, h⟩ := chk_some h
  refine g_i2l C dX0_solveSpeed_12 hc3 ?_
  refine g_aload_n 0 C dX0_solveSpeed_13 rfl rfl ?_
  refine g_get C fg_X0_27 0 rfl rfl dX0_solveSpeed_14 ?_
  refine g_iconst C dX0_solveSpeed_17 ?_
  refine g_iald C 3 rfl (by decide) rfl dX0_solveSpeed_18 ?_
  obtain ⟨hc4, h⟩ := chk_some h
  refine g_i2l C dX0_solveSpeed_19 hc4 ?_
  refine g_lmul C dX0_solveSpeed_20 ?_
  refine g_aload_n 0 C dX0_solveSpeed_21 rfl rfl ?_
  refine g_get C fg_X0_34 0 rfl rfl dX0_solveSpeed_22 ?_
  refine g_iconst C dX0_solveSpeed_25 ?_
  refine g_iald C 2 rfl (by decide) rfl dX0_solveSpeed_26 ?_
  refine g_aload_n 0 C dX0_solveSpeed_27 rfl rfl ?_
  refine g_get C fg_X0_34 0 rfl rfl dX0_solveSpeed_28 ?_
  refine g_iconst C dX0_solveSpeed_31 ?_
  refine g_iald C 2 rfl (by decide) rfl dX0_solveSpeed_32 ?_
  refine g_isub C dX0_solveSpeed_33 ?_
  obtain ⟨hc5, h⟩ := chk_some h
  refine g_i2l C dX0_solveSpeed_34 hc5 ?_
  refine g_lmul C dX0_solveSpeed_35 ?_
  refine g_lload_n 2 C dX0_solveSpeed_36 rfl rfl ?_
  obtain ⟨o6, o7, hr8, h⟩ := bnd2_some h
  refine g_callV [1] [0, 2, 3, 4] [0, 4, 1, 2, 3] C mt_X0_127 (c_X1_put _ _ _ _ a_p1 (((c_paces 0) * (c_paces 1)) * ((c_counted 1) - (c_counted 0))) r1 c_p1_above c_p1_below F hr8) (q0 := 0) rfl (ci := 1) rfl rfl rfl (ws2 := (W_X0_solveSpeed (eCy E) a_t a_p1 a_t_counted a_t_paces a_t_ways g_t_0 g_t_1 g_t_2 g_t_3 g_t_4 g_t_8 g_t_9 g_t_10 g_t_11 g_t_12 g_t_13 g_t_14 g_t_15 o6 o7 c_counted c_paces c_ways)) rfl rfl rfl (rest := []) rfl rfl rfl dX0_solveSpeed_37 ?_
  refine g_lload_n 2 C dX0_solveSpeed_40 rfl rfl ?_
  refine g_lconst (x := 0) C dX0_solveSpeed_41 (by decide) ?_
  refine g_lcmp_eq 50 C dX0_solveSpeed_42 dX0_solveSpeed_43 (by decide) h (fun h => ?_) (fun h => ?_)
  · refine g_iconst C dX0_solveSpeed_50 ?_
    cases h
    exact hret 51 _ bn0 dX0_solveSpeed_51
  · refine g_iconst C dX0_solveSpeed_46 ?_
    refine g_goto (tgt := 51) C dX0_solveSpeed_47 (by decide) ?_
    cases h
    exact hret 51 _ bn1 dX0_solveSpeed_51
end S_X0_solveSpeed
set_option maxRecDepth 100000 in
set_option maxHeartbeats 4000000 in
theorem c_X0_solveSpeed (l : Launch) (D : va_G) (cy : Nat → ClassId) (ad : AD) (a_t a_p1 a_t_counted a_t_paces a_t_ways : Nat) (g_t_0 : Value) (g_t_1 : Value) (g_t_2 : Value) (g_t_3 : Value) (g_t_4 : Value) (g_t_8 : Value) (g_t_9 : Value) (g_t_10 : Value) (g_t_11 : Value) (g_t_12 : Value) (g_t_13 : Value) (g_t_14 : Value) (g_t_15 : Value) (c_p1_above : Int) (c_p1_below : Int) (c_counted : Int → Int) (c_paces : Int → Int) (c_ways : Int → Int) (F : Nat) {v : Int × Int × Int} (h : m_X0_solveSpeed F c_counted c_paces c_ways = some v) : Ct l yX0_solveSpeed cX0_solveSpeed 4 (some .boolean) { frames := 1, cells := 0, slots := 0, locals := 31 } D cy ad [.ref a_t, .ref a_p1] (W_X0_solveSpeed cy a_t a_p1 a_t_counted a_t_paces a_t_ways g_t_0 g_t_1 g_t_2 g_t_3 g_t_4 g_t_8 g_t_9 g_t_10 g_t_11 g_t_12 g_t_13 g_t_14 g_t_15 c_p1_above c_p1_below c_counted c_paces c_ways) (W_X0_solveSpeed cy a_t a_p1 a_t_counted a_t_paces a_t_ways g_t_0 g_t_1 g_t_2 g_t_3 g_t_4 g_t_8 g_t_9 g_t_10 g_t_11 g_t_12 g_t_13 g_t_14 g_t_15 (v.2.1) (v.2.2) c_counted c_paces c_ways) (some (.int (wI (v.1)))) := by
  refine Ct.introZ (j := 2) (plainFor_of_name (by decide)) rfl rfl (fun E C e1 e2 e3 e4 e5 hret => ?_)
  subst e1; subst e2; subst e3; subst e4
  exact wm_X0_solveSpeed C e5 h hret
-- MovingStair$Turning.priceOf(III)I
def W_X7_priceOf (cy : Nat → ClassId) (a_t a_t_leftFrom a_t_leftFromE_0 a_t_leftFromE_1 a_t_leftFromE_2 a_t_leftFromE_3 a_t_leftFromE_4 a_t_leftFromE_5 a_t_leftFromE_6 a_t_leftFromE_7 a_t_leftFromE_8 a_t_leftFromE_9 a_t_leftFromE_10 a_t_leftFromE_11 a_t_leftFromE_12 a_t_leftFromE_13 a_t_leftFromE_14 a_t_leftFromE_15 a_t_leftFromE_16 a_t_leftFromE_17 a_t_leftFromE_18 a_t_leftFromE_19 a_t_leftFromE_20 a_t_leftFromE_21 a_t_leftFromE_22 a_t_leftFromE_23 a_t_leftFromE_24 a_t_leftFromE_25 a_t_leftFromE_26 a_t_leftFromE_27 a_t_leftFromE_28 a_t_leftFromE_29 : Nat) (g_t_0 : Value) (g_t_1 : Value) (g_t_2 : Value) (g_t_3 : Value) (g_t_4 : Value) (g_t_6 : Value) (c_cost : Int) (c_leftFromE : Int → Int → Int) : va_W := [(a_t, .inr (7, [g_t_0, g_t_1, g_t_2, g_t_3, g_t_4, .int (wI c_cost), g_t_6, .ref a_t_leftFrom])), (a_t_leftFrom, .inl (cy 6, 30, .inr (.inr (.inr (.inr (selO [a_t_leftFromE_0, a_t_leftFromE_1, a_t_leftFromE_2, a_t_leftFromE_3, a_t_leftFromE_4, a_t_leftFromE_5, a_t_leftFromE_6, a_t_leftFromE_7, a_t_leftFromE_8, a_t_leftFromE_9, a_t_leftFromE_10, a_t_leftFromE_11, a_t_leftFromE_12, a_t_leftFromE_13, a_t_leftFromE_14, a_t_leftFromE_15, a_t_leftFromE_16, a_t_leftFromE_17, a_t_leftFromE_18, a_t_leftFromE_19, a_t_leftFromE_20, a_t_leftFromE_21, a_t_leftFromE_22, a_t_leftFromE_23, a_t_leftFromE_24, a_t_leftFromE_25, a_t_leftFromE_26, a_t_leftFromE_27, a_t_leftFromE_28, a_t_leftFromE_29])))))), (a_t_leftFromE_0, .inl (cy 1, 16, .inl (aI (c_leftFromE 0)))), (a_t_leftFromE_1, .inl (cy 1, 16, .inl (aI (c_leftFromE 1)))), (a_t_leftFromE_2, .inl (cy 1, 16, .inl (aI (c_leftFromE 2)))), (a_t_leftFromE_3, .inl (cy 1, 16, .inl (aI (c_leftFromE 3)))), (a_t_leftFromE_4, .inl (cy 1, 16, .inl (aI (c_leftFromE 4)))), (a_t_leftFromE_5, .inl (cy 1, 16, .inl (aI (c_leftFromE 5)))), (a_t_leftFromE_6, .inl (cy 1, 16, .inl (aI (c_leftFromE 6)))), (a_t_leftFromE_7, .inl (cy 1, 16, .inl (aI (c_leftFromE 7)))), (a_t_leftFromE_8, .inl (cy 1, 16, .inl (aI (c_leftFromE 8)))), (a_t_leftFromE_9, .inl (cy 1, 16, .inl (aI (c_leftFromE 9)))), (a_t_leftFromE_10, .inl (cy 1, 16, .inl (aI (c_leftFromE 10)))), (a_t_leftFromE_11, .inl (cy 1, 16, .inl (aI (c_leftFromE 11)))), (a_t_leftFromE_12, .inl (cy 1, 16, .inl (aI (c_leftFromE 12)))), (a_t_leftFromE_13, .inl (cy 1, 16, .inl (aI (c_leftFromE 13)))), (a_t_leftFromE_14, .inl (cy 1, 16, .inl (aI (c_leftFromE 14)))), (a_t_leftFromE_15, .inl (cy 1, 16, .inl (aI (c_leftFromE 15)))), (a_t_leftFromE_16, .inl (cy 1, 16, .inl (aI (c_leftFromE 16)))), (a_t_leftFromE_17, .inl (cy 1, 16, .inl (aI (c_leftFromE 17)))), (a_t_leftFromE_18, .inl (cy 1, 16, .inl (aI (c_leftFromE 18)))), (a_t_leftFromE_19, .inl (cy 1, 16, .inl (aI (c_leftFromE 19)))), (a_t_leftFromE_20, .inl (cy 1, 16, .inl (aI (c_leftFromE 20)))), (a_t_leftFromE_21, .inl (cy 1, 16, .inl (aI (c_leftFromE 21)))), (a_t_leftFromE_22, .inl (cy 1, 16, .inl (aI (c_leftFromE 22)))), (a_t_leftFromE_23, .inl (cy 1, 16, .inl (aI (c_leftFromE 23)))), (a_t_leftFromE_24, .inl (cy 1, 16, .inl (aI (c_leftFromE 24)))), (a_t_leftFromE_25, .inl (cy 1, 16, .inl (aI (c_leftFromE 25)))), (a_t_leftFromE_26, .inl (cy 1, 16, .inl (aI (c_leftFromE 26)))), (a_t_leftFromE_27, .inl (cy 1, 16, .inl (aI (c_leftFromE 27)))), (a_t_leftFromE_28, .inl (cy 1, 16, .inl (aI (c_leftFromE 28)))), (a_t_leftFromE_29, .inl (cy 1, 16, .inl (aI (c_leftFromE 29))))]
def m_X7_priceOf (F : Nat) (x1 : Int) (x2 : Int) (x3 : Int) (c_cost : Int) (c_leftFromE : Int → Int → Int) : Option (Int) :=
  chk (0 ≤ x1 ∧ x1 < 30) <| chk (0 ≤ x3 ∧ x3 < 16) <| bnd1 (m_J6_bitCount_0f7a4 F (xorI x2 x3)) fun r2 => some ((c_leftFromE x1 x3) + (c_cost * r2))
section S_X7_priceOf
variable {E : EE} {a_t a_t_leftFrom a_t_leftFromE_0 a_t_leftFromE_1 a_t_leftFromE_2 a_t_leftFromE_3 a_t_leftFromE_4 a_t_leftFromE_5 a_t_leftFromE_6 a_t_leftFromE_7 a_t_leftFromE_8 a_t_leftFromE_9 a_t_leftFromE_10 a_t_leftFromE_11 a_t_leftFromE_12 a_t_leftFromE_13 a_t_leftFromE_14 a_t_leftFromE_15 a_t_leftFromE_16 a_t_leftFromE_17 a_t_leftFromE_18 a_t_leftFromE_19 a_t_leftFromE_20 a_t_leftFromE_21 a_t_leftFromE_22 a_t_leftFromE_23 a_t_leftFromE_24 a_t_leftFromE_25 a_t_leftFromE_26 a_t_leftFromE_27 a_t_leftFromE_28 a_t_leftFromE_29 : Nat} {g_t_0 : Value} {g_t_1 : Value} {g_t_2 : Value} {g_t_3 : Value} {g_t_4 : Value} {g_t_6 : Value}
set_option maxRecDepth 100000 in
set_option maxHeartbeats 4000000 in
theorem wm_X7_priceOf {F : Nat} {v : Int} {x1 : Int} {x2 : Int} {x3 : Int} {c_cost : Int} {c_leftFromE : Int → Int → Int} (C : Cx E cX7_priceOf RX7 { frames := 1, cells := 0, slots := 0, locals := 20 }) (hN : eN E = 4) (h : m_X7_priceOf F x1 x2 x3 c_cost c_leftFromE = some v) (hret : ∀ (pc : Nat) (L : List (Option Value)), decode cX7_priceOf pc = .ok (.ireturn, 1) → GG E 0 0 (W_X7_priceOf (eCy E) a_t a_t_leftFrom a_t_leftFromE_0 a_t_leftFromE_1 a_t_leftFromE_2 a_t_leftFromE_3 a_t_leftFromE_4 a_t_leftFromE_5 a_t_leftFromE_6 a_t_leftFromE_7 a_t_leftFromE_8 a_t_leftFromE_9 a_t_leftFromE_10 a_t_leftFromE_11 a_t_leftFromE_12 a_t_leftFromE_13 a_t_leftFromE_14 a_t_leftFromE_15 a_t_leftFromE_16 a_t_leftFromE_17 a_t_leftFromE_18 a_t_leftFromE_19 a_t_leftFromE_20 a_t_leftFromE_21 a_t_leftFromE_22 a_t_leftFromE_23 a_t_leftFromE_24 a_t_leftFromE_25 a_t_leftFromE_26 a_t_leftFromE_27 a_t_leftFromE_28 a_t_leftFromE_29 g_t_0 g_t_1 g_t_2 g_t_3 g_t_4 g_t_6 c_cost c_leftFromE) L pc [.int (wI v)]) : GG E 0 0 (W_X7_priceOf (eCy E) a_t a_t_leftFrom a_t_leftFromE_0 a_t_leftFromE_1 a_t_leftFromE_2 a_t_leftFromE_3 a_t_leftFromE_4 a_t_leftFromE_5 a_t_leftFromE_6 a_t_leftFromE_7 a_t_leftFromE_8 a_t_leftFromE_9 a_t_leftFromE_10 a_t_leftFromE_11 a_t_leftFromE_12 a_t_leftFromE_13 a_t_leftFromE_14 a_t_leftFromE_15 a_t_leftFromE_16 a_t_leftFromE_17 a_t_leftFromE_18 a_t_leftFromE_19 a_t_leftFromE_20 a_t_leftFromE_21 a_t_leftFromE_22 a_t_leftFromE_23 a_t_leftFromE_24 a_t_leftFromE_25 a_t_leftFromE_26 a_t_leftFromE_27 a_t_leftFromE_28 a_t_leftFromE_29 g_t_0 g_t_1 g_t_2 g_t_3 g_t_4 g_t_6 c_cost c_leftFromE) [some (.ref a_t), some (.int (wI x1)), some (.int (wI x2)), some (.int (wI x3))] 0 [] := by
  unfold m_X7_priceOf at h
  refine g_aload_n 0 C dX7_priceOf_0 rfl rfl ?_
  refine g_get C fg_X7_36 0 rfl rfl dX7_priceOf_1 ?_
  refine g_iload_n 1 C dX7_priceOf_4 rfl rfl ?_
  obtain ⟨hc1, h⟩ := chk_some h
  obtain rfl | rfl | rfl | rfl | rfl | rfl | rfl | rfl | rfl | rfl | rfl | rfl | rfl | rfl | rfl | rfl | rfl | rfl | rfl | rfl | rfl | rfl | rfl | rfl | rfl | rfl | rfl | rfl | rfl | rfl : x1 = 0 ∨ x1 = 1 ∨ x1 = 2 ∨ x1 = 3 ∨ x1 = 4 ∨ x1 = 5 ∨ x1 = 6 ∨ x1 = 7 ∨ x1 = 8 ∨ x1 = 9 ∨ x1 = 10 ∨ x1 = 11 ∨ x1 = 12 ∨ x1 = 13 ∨ x1 = 14 ∨ x1 = 15 ∨ x1 = 16 ∨ x1 = 17 ∨ x1 = 18 ∨ x1 = 19 ∨ x1 = 20 ∨ x1 = 21 ∨ x1 = 22 ∨ x1 = 23 ∨ x1 = 24 ∨ x1 = 25 ∨ x1 = 26 ∨ x1 = 27 ∨ x1 = 28 ∨ x1 = 29 := by omega
  · refine g_aaldR C 1 rfl (by decide) rfl dX7_priceOf_5 ?_
    refine g_iload_n 3 C dX7_priceOf_6 rfl rfl ?_
    obtain ⟨hc2, h⟩ := chk_some h
    refine g_iald C 2 rfl hc2 rfl dX7_priceOf_7 ?_
    refine g_aload_n 0 C dX7_priceOf_8 rfl rfl ?_
    refine g_get C fg_X7_28 0 rfl rfl dX7_priceOf_9 ?_
    refine g_st (st' := [.int (wI c_cost), .int (wI (c_leftFromE (0) x3))]) rfl ?_
    refine g_iload_n 2 C dX7_priceOf_12 rfl rfl ?_
    refine g_iload_n 3 C dX7_priceOf_13 rfl rfl ?_
    refine g_ixor C dX7_priceOf_14 ?_
    obtain ⟨r3, hr4, h⟩ := bnd1_some h
    refine g_callSI [] [0, 1, 2, 3, 4, 5, 6, 7, 8, 9, 10, 11, 12, 13, 14, 15, 16, 17, 18, 19, 20, 21, 22, 23, 24, 25, 26, 27, 28, 29, 30, 31] [0, 1, 2, 3, 4, 5, 6, 7, 8, 9, 10, 11, 12, 13, 14, 15, 16, 17, 18, 19, 20, 21, 22, 23, 24, 25, 26, 27, 28, 29, 30, 31] C mt_X7_79 (c_J6_bitCount_0f7a4 _ _ _ _ (xorI x2 x3) F hr4) rfl rfl (ws2 := (W_X7_priceOf (eCy E) a_t a_t_leftFrom a_t_leftFromE_0 a_t_leftFromE_1 a_t_leftFromE_2 a_t_leftFromE_3 a_t_leftFromE_4 a_t_leftFromE_5 a_t_leftFromE_6 a_t_leftFromE_7 a_t_leftFromE_8 a_t_leftFromE_9 a_t_leftFromE_10 a_t_leftFromE_11 a_t_leftFromE_12 a_t_leftFromE_13 a_t_leftFromE_14 a_t_leftFromE_15 a_t_leftFromE_16 a_t_leftFromE_17 a_t_leftFromE_18 a_t_leftFromE_19 a_t_leftFromE_20 a_t_leftFromE_21 a_t_leftFromE_22 a_t_leftFromE_23 a_t_leftFromE_24 a_t_leftFromE_25 a_t_leftFromE_26 a_t_leftFromE_27 a_t_leftFromE_28 a_t_leftFromE_29 g_t_0 g_t_1 g_t_2 g_t_3 g_t_4 g_t_6 c_cost c_leftFromE)) rfl rfl rfl (rest := [.int (wI c_cost), .int (wI (c_leftFromE (0) x3))]) rfl rfl rfl dX7_priceOf_15 ?_
    refine g_imul C dX7_priceOf_18 ?_
    refine g_iadd C dX7_priceOf_19 ?_
    cases h
    exact hret 20 _ dX7_priceOf_20
  · refine g_aaldR C 1 rfl (by decide) rfl dX7_priceOf_5 ?_
    refine g_iload_n 3 C dX7_priceOf_6 rfl rfl ?_
    obtain ⟨hc2, h⟩ := chk_some h
    refine g_iald C 3 rfl hc2 rfl dX7_priceOf_7 ?_
    refine g_aload_n 0 C dX7_priceOf_8 rfl rfl ?_
    refine g_get C fg_X7_28 0 rfl rfl dX7_priceOf_9 ?_
    refine g_st (st' := [.int (wI c_cost), .int (wI (c_leftFromE (1) x3))]) rfl ?_
    refine g_iload_n 2 C dX7_priceOf_12 rfl rfl ?_
    refine g_iload_n 3 C dX7_priceOf_13 rfl rfl ?_
    refine g_ixor C dX7_priceOf_14 ?_
    obtain ⟨r3, hr4, h⟩ := bnd1_some h
    refine g_callSI [] [0, 1, 2, 3, 4, 5, 6, 7, 8, 9, 10, 11, 12, 13, 14, 15, 16, 17, 18, 19, 20, 21, 22, 23, 24, 25, 26, 27, 28, 29, 30, 31] [0, 1, 2, 3, 4, 5, 6, 7, 8, 9, 10, 11, 12, 13, 14, 15, 16, 17, 18, 19, 20, 21, 22, 23, 24, 25, 26, 27, 28, 29, 30, 31] C mt_X7_79 (c_J6_bitCount_0f7a4 _ _ _ _ (xorI x2 x3) F hr4) rfl rfl (ws2 := (W_X7_priceOf (eCy E) a_t a_t_leftFrom a_t_leftFromE_0 a_t_leftFromE_1 a_t_leftFromE_2 a_t_leftFromE_3 a_t_leftFromE_4 a_t_leftFromE_5 a_t_leftFromE_6 a_t_leftFromE_7 a_t_leftFromE_8 a_t_leftFromE_9 a_t_leftFromE_10 a_t_leftFromE_11 a_t_leftFromE_12 a_t_leftFromE_13 a_t_leftFromE_14 a_t_leftFromE_15 a_t_leftFromE_16 a_t_leftFromE_17 a_t_leftFromE_18 a_t_leftFromE_19 a_t_leftFromE_20 a_t_leftFromE_21 a_t_leftFromE_22 a_t_leftFromE_23 a_t_leftFromE_24 a_t_leftFromE_25 a_t_leftFromE_26 a_t_leftFromE_27 a_t_leftFromE_28 a_t_leftFromE_29 g_t_0 g_t_1 g_t_2 g_t_3 g_t_4 g_t_6 c_cost c_leftFromE)) rfl rfl rfl (rest := [.int (wI c_cost), .int (wI (c_leftFromE (1) x3))]) rfl rfl rfl dX7_priceOf_15 ?_
    refine g_imul C dX7_priceOf_18 ?_
    refine g_iadd C dX7_priceOf_19 ?_
    cases h
    exact hret 20 _ dX7_priceOf_20
  · refine g_aaldR C 1 rfl (by decide) rfl dX7_priceOf_5 ?_
    refine g_iload_n 3 C dX7_priceOf_6 rfl rfl ?_
    obtain ⟨hc2, h⟩ := chk_some h
    refine g_iald C 4 rfl hc2 rfl dX7_priceOf_7 ?_
    refine g_aload_n 0 C dX7_priceOf_8 rfl rfl ?_
    refine g_get C fg_X7_28 0 rfl rfl dX7_priceOf_9 ?_
    refine g_st (st' := [.int (wI c_cost), .int (wI (c_leftFromE (2) x3))]) rfl ?_
    refine g_iload_n 2 C dX7_priceOf_12 rfl rfl ?_
    refine g_iload_n 3 C dX7_priceOf_13 rfl rfl ?_
    refine g_ixor C dX7_priceOf_14 ?_
    obtain ⟨r3, hr4, h⟩ := bnd1_some h
    refine g_callSI [] [0, 1, 2, 3, 4, 5, 6, 7, 8, 9, 10, 11, 12, 13, 14, 15, 16, 17, 18, 19, 20, 21, 22, 23, 24, 25, 26, 27, 28, 29, 30, 31] [0, 1, 2, 3, 4, 5, 6, 7, 8, 9, 10, 11, 12, 13, 14, 15, 16, 17, 18, 19, 20, 21, 22, 23, 24, 25, 26, 27, 28, 29, 30, 31] C mt_X7_79 (c_J6_bitCount_0f7a4 _ _ _ _ (xorI x2 x3) F hr4) rfl rfl (ws2 := (W_X7_priceOf (eCy E) a_t a_t_leftFrom a_t_leftFromE_0 a_t_leftFromE_1 a_t_leftFromE_2 a_t_leftFromE_3 a_t_leftFromE_4 a_t_leftFromE_5 a_t_leftFromE_6 a_t_leftFromE_7 a_t_leftFromE_8 a_t_leftFromE_9 a_t_leftFromE_10 a_t_leftFromE_11 a_t_leftFromE_12 a_t_leftFromE_13 a_t_leftFromE_14 a_t_leftFromE_15 a_t_leftFromE_16 a_t_leftFromE_17 a_t_leftFromE_18 a_t_leftFromE_19 a_t_leftFromE_20 a_t_leftFromE_21 a_t_leftFromE_22 a_t_leftFromE_23 a_t_leftFromE_24 a_t_leftFromE_25 a_t_leftFromE_26 a_t_leftFromE_27 a_t_leftFromE_28 a_t_leftFromE_29 g_t_0 g_t_1 g_t_2 g_t_3 g_t_4 g_t_6 c_cost c_leftFromE)) rfl rfl rfl (rest := [.int (wI c_cost), .int (wI (c_leftFromE (2) x3))]) rfl rfl rfl dX7_priceOf_15 ?_
    refine g_imul C dX7_priceOf_18 ?_
    refine g_iadd C dX7_priceOf_19 ?_
    cases h
    exact hret 20 _ dX7_priceOf_20
  · refine g_aaldR C 1 rfl (by decide) rfl dX7_priceOf_5 ?_
    refine g_iload_n 3 C dX7_priceOf_6 rfl rfl ?_
    obtain ⟨hc2, h⟩ := chk_some h
    refine g_iald C 5 rfl hc2 rfl dX7_priceOf_7 ?_
    refine g_aload_n 0 C dX7_priceOf_8 rfl rfl ?_
    refine g_get C fg_X7_28 0 rfl rfl dX7_priceOf_9 ?_
    refine g_st (st' := [.int (wI c_cost), .int (wI (c_leftFromE (3) x3))]) rfl ?_
    refine g_iload_n 2 C dX7_priceOf_12 rfl rfl ?_
    refine g_iload_n 3 C dX7_priceOf_13 rfl rfl ?_
    refine g_ixor C dX7_priceOf_14 ?_
    obtain ⟨r3, hr4, h⟩ := bnd1_some h
    refine g_callSI [] [0, 1, 2, 3, 4, 5, 6, 7, 8, 9, 10, 11, 12, 13, 14, 15, 16, 17, 18, 19, 20, 21, 22, 23, 24, 25, 26, 27, 28, 29, 30, 31] [0, 1, 2, 3, 4, 5, 6, 7, 8, 9, 10, 11, 12, 13, 14, 15, 16, 17, 18, 19, 20, 21, 22, 23, 24, 25, 26, 27, 28, 29, 30, 31] C mt_X7_79 (c_J6_bitCount_0f7a4 _ _ _ _ (xorI x2 x3) F hr4) rfl rfl (ws2 := (W_X7_priceOf (eCy E) a_t a_t_leftFrom a_t_leftFromE_0 a_t_leftFromE_1 a_t_leftFromE_2 a_t_leftFromE_3 a_t_leftFromE_4 a_t_leftFromE_5 a_t_leftFromE_6 a_t_leftFromE_7 a_t_leftFromE_8 a_t_leftFromE_9 a_t_leftFromE_10 a_t_leftFromE_11 a_t_leftFromE_12 a_t_leftFromE_13 a_t_leftFromE_14 a_t_leftFromE_15 a_t_leftFromE_16 a_t_leftFromE_17 a_t_leftFromE_18 a_t_leftFromE_19 a_t_leftFromE_20 a_t_leftFromE_21 a_t_leftFromE_22 a_t_leftFromE_23 a_t_leftFromE_24 a_t_leftFromE_25 a_t_leftFromE_26 a_t_leftFromE_27 a_t_leftFromE_28 a_t_leftFromE_29 g_t_0 g_t_1 g_t_2 g_t_3 g_t_4 g_t_6 c_cost c_leftFromE)) rfl rfl rfl (rest := [.int (wI c_cost), .int (wI (c_leftFromE (3) x3))]) rfl rfl rfl dX7_priceOf_15 ?_
    refine g_imul C dX7_priceOf_18 ?_
    refine g_iadd C dX7_priceOf_19 ?_
    cases h
    exact hret 20 _ dX7_priceOf_20
  · refine g_aaldR C 1 rfl (by decide) rfl dX7_priceOf_5 ?_
    refine g_iload_n 3 C dX7_priceOf_6 rfl rfl ?_
    obtain ⟨hc2, h⟩ := chk_some h
    refine g_iald C 6 rfl hc2 rfl dX7_priceOf_7 ?_
    refine g_aload_n 0 C dX7_priceOf_8 rfl rfl ?_
    refine g_get C fg_X7_28 0 rfl rfl dX7_priceOf_9 ?_
    refine g_st (st' := [.int (wI c_cost), .int (wI (c_leftFromE (4) x3))]) rfl ?_
    refine g_iload_n 2 C dX7_priceOf_12 rfl rfl ?_
    refine g_iload_n 3 C dX7_priceOf_13 rfl rfl ?_
    refine g_ixor C dX7_priceOf_14 ?_
    obtain ⟨r3, hr4, h⟩ := bnd1_some h
    refine g_callSI [] [0, 1, 2, 3, 4, 5, 6, 7, 8, 9, 10, 11, 12, 13, 14, 15, 16, 17, 18, 19, 20, 21, 22, 23, 24, 25, 26, 27, 28, 29, 30, 31] [0, 1, 2, 3, 4, 5, 6, 7, 8, 9, 10, 11, 12, 13, 14, 15, 16, 17, 18, 19, 20, 21, 22, 23, 24, 25, 26, 27, 28, 29, 30, 31] C mt_X7_79 (c_J6_bitCount_0f7a4 _ _ _ _ (xorI x2 x3) F hr4) rfl rfl (ws2 := (W_X7_priceOf (eCy E) a_t a_t_leftFrom a_t_leftFromE_0 a_t_leftFromE_1 a_t_leftFromE_2 a_t_leftFromE_3 a_t_leftFromE_4 a_t_leftFromE_5 a_t_leftFromE_6 a_t_leftFromE_7 a_t_leftFromE_8 a_t_leftFromE_9 a_t_leftFromE_10 a_t_leftFromE_11 a_t_leftFromE_12 a_t_leftFromE_13 a_t_leftFromE_14 a_t_leftFromE_15 a_t_leftFromE_16 a_t_leftFromE_17 a_t_leftFromE_18 a_t_leftFromE_19 a_t_leftFromE_20 a_t_leftFromE_21 a_t_leftFromE_22 a_t_leftFromE_23 a_t_leftFromE_24 a_t_leftFromE_25 a_t_leftFromE_26 a_t_leftFromE_27 a_t_leftFromE_28 a_t_leftFromE_29 g_t_0 g_t_1 g_t_2 g_t_3 g_t_4 g_t_6 c_cost c_leftFromE)) rfl rfl rfl (rest := [.int (wI c_cost), .int (wI (c_leftFromE (4) x3))]) rfl rfl rfl dX7_priceOf_15 ?_
    refine g_imul C dX7_priceOf_18 ?_
    refine g_iadd C dX7_priceOf_19 ?_
    cases h
    exact hret 20 _ dX7_priceOf_20
  · refine g_aaldR C 1 rfl (by decide) rfl dX7_priceOf_5 ?_
    refine g_iload_n 3 C dX7_priceOf_6 rfl rfl ?_
    obtain ⟨hc2, h⟩ := chk_some h
    refine g_iald C 7 rfl hc2 rfl dX7_priceOf_7 ?_
    refine g_aload_n 0 C dX7_priceOf_8 rfl rfl ?_
    refine g_get C fg_X7_28 0 rfl rfl dX7_priceOf_9 ?_
    refine g_st (st' := [.int (wI c_cost), .int (wI (c_leftFromE (5) x3))]) rfl ?_
    refine g_iload_n 2 C dX7_priceOf_12 rfl rfl ?_
    refine g_iload_n 3 C dX7_priceOf_13 rfl rfl ?_
    refine g_ixor C dX7_priceOf_14 ?_
    obtain ⟨r3, hr4, h⟩ := bnd1_some h
    refine g_callSI [] [0, 1, 2, 3, 4, 5, 6, 7, 8, 9, 10, 11, 12, 13, 14, 15, 16, 17, 18, 19, 20, 21, 22, 23, 24, 25, 26, 27, 28, 29, 30, 31] [0, 1, 2, 3, 4, 5, 6, 7, 8, 9, 10, 11, 12, 13, 14, 15, 16, 17, 18, 19, 20, 21, 22, 23, 24, 25, 26, 27, 28, 29, 30, 31] C mt_X7_79 (c_J6_bitCount_0f7a4 _ _ _ _ (xorI x2 x3) F hr4) rfl rfl (ws2 := (W_X7_priceOf (eCy E) a_t a_t_leftFrom a_t_leftFromE_0 a_t_leftFromE_1 a_t_leftFromE_2 a_t_leftFromE_3 a_t_leftFromE_4 a_t_leftFromE_5 a_t_leftFromE_6 a_t_leftFromE_7 a_t_leftFromE_8 a_t_leftFromE_9 a_t_leftFromE_10 a_t_leftFromE_11 a_t_leftFromE_12 a_t_leftFromE_13 a_t_leftFromE_14 a_t_leftFromE_15 a_t_leftFromE_16 a_t_leftFromE_17 a_t_leftFromE_18 a_t_leftFromE_19 a_t_leftFromE_20 a_t_leftFromE_21 a_t_leftFromE_22 a_t_leftFromE_23 a_t_leftFromE_24 a_t_leftFromE_25 a_t_leftFromE_26 a_t_leftFromE_27 a_t_leftFromE_28 a_t_leftFromE_29 g_t_0 g_t_1 g_t_2 g_t_3 g_t_4 g_t_6 c_cost c_leftFromE)) rfl rfl rfl (rest := [.int (wI c_cost), .int (wI (c_leftFromE (5) x3))]) rfl rfl rfl dX7_priceOf_15 ?_
    refine g_imul C dX7_priceOf_18 ?_
    refine g_iadd C dX7_priceOf_19 ?_
    cases h
    exact hret 20 _ dX7_priceOf_20
  · refine g_aaldR C 1 rfl (by decide) rfl dX7_priceOf_5 ?_
    refine g_iload_n 3 C dX7_priceOf_6 rfl rfl ?_
    obtain ⟨hc2, h⟩ := chk_some h
    refine g_iald C 8 rfl hc2 rfl dX7_priceOf_7 ?_
    refine g_aload_n 0 C dX7_priceOf_8 rfl rfl ?_
    refine g_get C fg_X7_28 0 rfl rfl dX7_priceOf_9 ?_
    refine g_st (st' := [.int (wI c_cost), .int (wI (c_leftFromE (6) x3))]) rfl ?_
    refine g_iload_n 2 C dX7_priceOf_12 rfl rfl ?_
    refine g_iload_n 3 C dX7_priceOf_13 rfl rfl ?_
    refine g_ixor C dX7_priceOf_14 ?_
    obtain ⟨r3, hr4, h⟩ := bnd1_some h
    refine g_callSI [] [0, 1, 2, 3, 4, 5, 6, 7, 8, 9, 10, 11, 12, 13, 14, 15, 16, 17, 18, 19, 20, 21, 22, 23, 24, 25, 26, 27, 28, 29, 30, 31] [0, 1, 2, 3, 4, 5, 6, 7, 8, 9, 10, 11, 12, 13, 14, 15, 16, 17, 18, 19, 20, 21, 22, 23, 24, 25, 26, 27, 28, 29, 30, 31] C mt_X7_79 (c_J6_bitCount_0f7a4 _ _ _ _ (xorI x2 x3) F hr4) rfl rfl (ws2 := (W_X7_priceOf (eCy E) a_t a_t_leftFrom a_t_leftFromE_0 a_t_leftFromE_1 a_t_leftFromE_2 a_t_leftFromE_3 a_t_leftFromE_4 a_t_leftFromE_5 a_t_leftFromE_6 a_t_leftFromE_7 a_t_leftFromE_8 a_t_leftFromE_9 a_t_leftFromE_10 a_t_leftFromE_11 a_t_leftFromE_12 a_t_leftFromE_13 a_t_leftFromE_14 a_t_leftFromE_15 a_t_leftFromE_16 a_t_leftFromE_17 a_t_leftFromE_18 a_t_leftFromE_19 a_t_leftFromE_20 a_t_leftFromE_21 a_t_leftFromE_22 a_t_leftFromE_23 a_t_leftFromE_24 a_t_leftFromE_25 a_t_leftFromE_26 a_t_leftFromE_27 a_t_leftFromE_28 a_t_leftFromE_29 g_t_0 g_t_1 g_t_2 g_t_3 g_t_4 g_t_6 c_cost c_leftFromE)) rfl rfl rfl (rest := [.int (wI c_cost), .int (wI (c_leftFromE (6) x3))]) rfl rfl rfl dX7_priceOf_15 ?_
    refine g_imul C dX7_priceOf_18 ?_
    refine g_iadd C dX7_priceOf_19 ?_
    cases h
    exact hret 20 _ dX7_priceOf_20
  · refine g_aaldR C 1 rfl (by decide) rfl dX7_priceOf_5 ?_
    refine g_iload_n 3 C dX7_priceOf_6 rfl rfl ?_
    obtain ⟨hc2, h⟩ := chk_some h
    refine g_iald C 9 rfl hc2 rfl dX7_priceOf_7 ?_
    refine g_aload_n 0 C dX7_priceOf_8 rfl rfl ?_
    refine g_get C fg_X7_28 0 rfl rfl dX7_priceOf_9 ?_
    refine g_st (st' := [.int (wI c_cost), .int (wI (c_leftFromE (7) x3))]) rfl ?_
    refine g_iload_n 2 C dX7_priceOf_12 rfl rfl ?_
    refine g_iload_n 3 C dX7_priceOf_13 rfl rfl ?_
    refine g_ixor C dX7_priceOf_14 ?_
    obtain ⟨r3, hr4, h⟩ := bnd1_some h
    refine g_callSI [] [0, 1, 2, 3, 4, 5, 6, 7, 8, 9, 10, 11, 12, 13, 14, 15, 16, 17, 18, 19, 20, 21, 22, 23, 24, 25, 26, 27, 28, 29, 30, 31] [0, 1, 2, 3, 4, 5, 6, 7, 8, 9, 10, 11, 12, 13, 14, 15, 16, 17, 18, 19, 20, 21, 22, 23, 24, 25, 26, 27, 28, 29, 30, 31] C mt_X7_79 (c_J6_bitCount_0f7a4 _ _ _ _ (xorI x2 x3) F hr4) rfl rfl (ws2 := (W_X7_priceOf (eCy E) a_t a_t_leftFrom a_t_leftFromE_0 a_t_leftFromE_1 a_t_leftFromE_2 a_t_leftFromE_3 a_t_leftFromE_4 a_t_leftFromE_5 a_t_leftFromE_6 a_t_leftFromE_7 a_t_leftFromE_8 a_t_leftFromE_9 a_t_leftFromE_10 a_t_leftFromE_11 a_t_leftFromE_12 a_t_leftFromE_13 a_t_leftFromE_14 a_t_leftFromE_15 a_t_leftFromE_16 a_t_leftFromE_17 a_t_leftFromE_18 a_t_leftFromE_19 a_t_leftFromE_20 a_t_leftFromE_21 a_t_leftFromE_22 a_t_leftFromE_23 a_t_leftFromE_24 a_t_leftFromE_25 a_t_leftFromE_26 a_t_leftFromE_27 a_t_leftFromE_28 a_t_leftFromE_29 g_t_0 g_t_1 g_t_2 g_t_3 g_t_4 g_t_6 c_cost c_leftFromE)) rfl rfl rfl (rest := [.int (wI c_cost), .int (wI (c_leftFromE (7) x3))]) rfl rfl rfl dX7_priceOf_15 ?_
    refine g_imul C dX7_priceOf_18 ?_
    refine g_iadd C dX7_priceOf_19 ?_
    cases h
    exact hret 20 _ dX7_priceOf_20
  · refine g_aaldR C 1 rfl (by decide) rfl dX7_priceOf_5 ?_
    refine g_iload_n 3 C dX7_priceOf_6 rfl rfl ?_
    obtain ⟨hc2, h⟩ := chk_some h
    refine g_iald C 10 rfl hc2 rfl dX7_priceOf_7 ?_
    refine g_aload_n 0 C dX7_priceOf_8 rfl rfl ?_
    refine g_get C fg_X7_28 0 rfl rfl dX7_priceOf_9 ?_
    refine g_st (st' := [.int (wI c_cost), .int (wI (c_leftFromE (8) x3))]) rfl ?_
    refine g_iload_n 2 C dX7_priceOf_12 rfl rfl ?_
    refine g_iload_n 3 C dX7_priceOf_13 rfl rfl ?_
    refine g_ixor C dX7_priceOf_14 ?_
    obtain ⟨r3, hr4, h⟩ := bnd1_some h
    refine g_callSI [] [0, 1, 2, 3, 4, 5, 6, 7, 8, 9, 10, 11, 12, 13, 14, 15, 16, 17, 18, 19, 20, 21, 22, 23, 24, 25, 26, 27, 28, 29, 30, 31] [0, 1, 2, 3, 4, 5, 6, 7, 8, 9, 10, 11, 12, 13, 14, 15, 16, 17, 18, 19, 20, 21, 22, 23, 24, 25, 26, 27, 28, 29, 30, 31] C mt_X7_79 (c_J6_bitCount_0f7a4 _ _ _ _ (xorI x2 x3) F hr4) rfl rfl (ws2 := (W_X7_priceOf (eCy E) a_t a_t_leftFrom a_t_leftFromE_0 a_t_leftFromE_1 a_t_leftFromE_2 a_t_leftFromE_3 a_t_leftFromE_4 a_t_leftFromE_5 a_t_leftFromE_6 a_t_leftFromE_7 a_t_leftFromE_8 a_t_leftFromE_9 a_t_leftFromE_10 a_t_leftFromE_11 a_t_leftFromE_12 a_t_leftFromE_13 a_t_leftFromE_14 a_t_leftFromE_15 a_t_leftFromE_16 a_t_leftFromE_17 a_t_leftFromE_18 a_t_leftFromE_19 a_t_leftFromE_20 a_t_leftFromE_21 a_t_leftFromE_22 a_t_leftFromE_23 a_t_leftFromE_24 a_t_leftFromE_25 a_t_leftFromE_26 a_t_leftFromE_27 a_t_leftFromE_28 a_t_leftFromE_29 g_t_0 g_t_1 g_t_2 g_t_3 g_t_4 g_t_6 c_cost c_leftFromE)) rfl rfl rfl (rest := [.int (wI c_cost), .int (wI (c_leftFromE (8) x3))]) rfl rfl rfl dX7_priceOf_15 ?_
    refine g_imul C dX7_priceOf_18 ?_
    refine g_iadd C dX7_priceOf_19 ?_
    cases h
    exact hret 20 _ dX7_priceOf_20
  · refine g_aaldR C 1 rfl (by decide) rfl dX7_priceOf_5 ?_
    refine g_iload_n 3 C dX7_priceOf_6 rfl rfl ?_
    obtain ⟨hc2, h⟩ := chk_some h
    refine g_iald C 11 rfl hc2 rfl dX7_priceOf_7 ?_
    refine g_aload_n 0 C dX7_priceOf_8 rfl rfl ?_
    refine g_get C fg_X7_28 0 rfl rfl dX7_priceOf_9 ?_
    refine g_st (st' := [.int (wI c_cost), .int (wI (c_leftFromE (9) x3))]) rfl ?_
    refine g_iload_n 2 C dX7_priceOf_12 rfl rfl ?_
    refine g_iload_n 3 C dX7_priceOf_13 rfl rfl ?_
    refine g_ixor C dX7_priceOf_14 ?_
    obtain ⟨r3, hr4, h⟩ := bnd1_some h
    refine g_callSI [] [0, 1, 2, 3, 4, 5, 6, 7, 8, 9, 10, 11, 12, 13, 14, 15, 16, 17, 18, 19, 20, 21, 22, 23, 24, 25, 26, 27, 28, 29, 30, 31] [0, 1, 2, 3, 4, 5, 6, 7, 8, 9, 10, 11, 12, 13, 14, 15, 16, 17, 18, 19, 20, 21, 22, 23, 24, 25, 26, 27, 28, 29, 30, 31] C mt_X7_79 (c_J6_bitCount_0f7a4 _ _ _ _ (xorI x2 x3) F hr4) rfl rfl (ws2 := (W_X7_priceOf (eCy E) a_t a_t_leftFrom a_t_leftFromE_0 a_t_leftFromE_1 a_t_leftFromE_2 a_t_leftFromE_3 a_t_leftFromE_4 a_t_leftFromE_5 a_t_leftFromE_6 a_t_leftFromE_7 a_t_leftFromE_8 a_t_leftFromE_9 a_t_leftFromE_10 a_t_leftFromE_11 a_t_leftFromE_12 a_t_leftFromE_13 a_t_leftFromE_14 a_t_leftFromE_15 a_t_leftFromE_16 a_t_leftFromE_17 a_t_leftFromE_18 a_t_leftFromE_19 a_t_leftFromE_20 a_t_leftFromE_21 a_t_leftFromE_22 a_t_leftFromE_23 a_t_leftFromE_24 a_t_leftFromE_25 a_t_leftFromE_26 a_t_leftFromE_27 a_t_leftFromE_28 a_t_leftFromE_29 g_t_0 g_t_1 g_t_2 g_t_3 g_t_4 g_t_6 c_cost c_leftFromE)) rfl rfl rfl (rest := [.int (wI c_cost), .int (wI (c_leftFromE (9) x3))]) rfl rfl rfl dX7_priceOf_15 ?_
    refine g_imul C dX7_priceOf_18 ?_
    refine g_iadd C dX7_priceOf_19 ?_
    cases h
    exact hret 20 _ dX7_priceOf_20
  · refine g_aaldR C 1 rfl (by decide) rfl dX7_priceOf_5 ?_
    refine g_iload_n 3 C dX7_priceOf_6 rfl rfl ?_
    obtain ⟨hc2, h⟩ := chk_some h
    refine g_iald C 12 rfl hc2 rfl dX7_priceOf_7 ?_
    refine g_aload_n 0 C dX7_priceOf_8 rfl rfl ?_
    refine g_get C fg_X7_28 0 rfl rfl dX7_priceOf_9 ?_
    refine g_st (st' := [.int (wI c_cost), .int (wI (c_leftFromE (10) x3))]) rfl ?_
    refine g_iload_n 2 C dX7_priceOf_12 rfl rfl ?_
    refine g_iload_n 3 C dX7_priceOf_13 rfl rfl ?_
    refine g_ixor C dX7_priceOf_14 ?_
    obtain ⟨r3, hr4, h⟩ := bnd1_some h
    refine g_callSI [] [0, 1, 2, 3, 4, 5, 6, 7, 8, 9, 10, 11, 12, 13, 14, 15, 16, 17, 18, 19, 20, 21, 22, 23, 24, 25, 26, 27, 28, 29, 30, 31] [0, 1, 2, 3, 4, 5, 6, 7, 8, 9, 10, 11, 12, 13, 14, 15, 16, 17, 18, 19, 20, 21, 22, 23, 24, 25, 26, 27, 28, 29, 30, 31] C mt_X7_79 (c_J6_bitCount_0f7a4 _ _ _ _ (xorI x2 x3) F hr4) rfl rfl (ws2 := (W_X7_priceOf (eCy E) a_t a_t_leftFrom a_t_leftFromE_0 a_t_leftFromE_1 a_t_leftFromE_2 a_t_leftFromE_3 a_t_leftFromE_4 a_t_leftFromE_5 a_t_leftFromE_6 a_t_leftFromE_7 a_t_leftFromE_8 a_t_leftFromE_9 a_t_leftFromE_10 a_t_leftFromE_11 a_t_leftFromE_12 a_t_leftFromE_13 a_t_leftFromE_14 a_t_leftFromE_15 a_t_leftFromE_16 a_t_leftFromE_17 a_t_leftFromE_18 a_t_leftFromE_19 a_t_leftFromE_20 a_t_leftFromE_21 a_t_leftFromE_22 a_t_leftFromE_23 a_t_leftFromE_24 a_t_leftFromE_25 a_t_leftFromE_26 a_t_leftFromE_27 a_t_leftFromE_28 a_t_leftFromE_29 g_t_0 g_t_1 g_t_2 g_t_3 g_t_4 g_t_6 c_cost c_leftFromE)) rfl rfl rfl (rest := [.int (wI c_cost), .int (wI (c_leftFromE (10) x3))]) rfl rfl rfl dX7_priceOf_15 ?_
    refine g_imul C dX7_priceOf_18 ?_
    refine g_iadd C dX7_priceOf_19 ?_
    cases h
    exact hret 20 _ dX7_priceOf_20
  · refine g_aaldR C 1 rfl (by decide) rfl dX7_priceOf_5 ?_
    refine g_iload_n 3 C dX7_priceOf_6 rfl rfl ?_
    obtain ⟨hc2, h⟩ := chk_some h
    refine g_iald C 13 rfl hc2 rfl dX7_priceOf_7 ?_
    refine g_aload_n 0 C dX7_priceOf_8 rfl rfl ?_
    refine g_get C fg_X7_28 0 rfl rfl dX7_priceOf_9 ?_
    refine g_st (st' := [.int (wI c_cost), .int (wI (c_leftFromE (11) x3))]) rfl ?_
    refine g_iload_n 2 C dX7_priceOf_12 rfl rfl ?_
    refine g_iload_n 3 C dX7_priceOf_13 rfl rfl ?_
    refine g_ixor C dX7_priceOf_14 ?_
    obtain ⟨r3, hr4, h⟩ := bnd1_some h
    refine g_callSI [] [0, 1, 2, 3, 4, 5, 6, 7, 8, 9, 10, 11, 12, 13, 14, 15, 16, 17, 18, 19, 20, 21, 22, 23, 24, 25, 26, 27, 28, 29, 30, 31] [0, 1, 2, 3, 4, 5, 6, 7, 8, 9, 10, 11, 12, 13, 14, 15, 16, 17, 18, 19, 20, 21, 22, 23, 24, 25, 26, 27, 28, 29, 30, 31] C mt_X7_79 (c_J6_bitCount_0f7a4 _ _ _ _ (xorI x2 x3) F hr4) rfl rfl (ws2 := (W_X7_priceOf (eCy E) a_t a_t_leftFrom a_t_leftFromE_0 a_t_leftFromE_1 a_t_leftFromE_2 a_t_leftFromE_3 a_t_leftFromE_4 a_t_leftFromE_5 a_t_leftFromE_6 a_t_leftFromE_7 a_t_leftFromE_8 a_t_leftFromE_9 a_t_leftFromE_10 a_t_leftFromE_11 a_t_leftFromE_12 a_t_leftFromE_13 a_t_leftFromE_14 a_t_leftFromE_15 a_t_leftFromE_16 a_t_leftFromE_17 a_t_leftFromE_18 a_t_leftFromE_19 a_t_leftFromE_20 a_t_leftFromE_21 a_t_leftFromE_22 a_t_leftFromE_23 a_t_leftFromE_24 a_t_leftFromE_25 a_t_leftFromE_26 a_t_leftFromE_27 a_t_leftFromE_28 a_t_leftFromE_29 g_t_0 g_t_1 g_t_2 g_t_3 g_t_4 g_t_6 c_cost c_leftFromE)) rfl rfl rfl (rest := [.int (wI c_cost), .int (wI (c_leftFromE (11) x3))]) rfl rfl rfl dX7_priceOf_15 ?_
    refine g_imul C dX7_priceOf_18 ?_
    refine g_iadd C dX7_priceOf_19 ?_
    cases h
    exact hret 20 _ dX7_priceOf_20
  · refine g_aaldR C 1 rfl (by decide) rfl dX7_priceOf_5 ?_
    refine g_iload_n 3 C dX7_priceOf_6 rfl rfl ?_
    obtain ⟨hc2, h⟩ := chk_some h
    refine g_iald C 14 rfl hc2 rfl dX7_priceOf_7 ?_
    refine g_aload_n 0 C dX7_priceOf_8 rfl rfl ?_
    refine g_get C fg_X7_28 0 rfl rfl dX7_priceOf_9 ?_
    refine g_st (st' := [.int (wI c_cost), .int (wI (c_leftFromE (12) x3))]) rfl ?_
    refine g_iload_n 2 C dX7_priceOf_12 rfl rfl ?_
    refine g_iload_n 3 C dX7_priceOf_13 rfl rfl ?_
    refine g_ixor C dX7_priceOf_14 ?_
    obtain ⟨r3, hr4, h⟩ := bnd1_some h
    refine g_callSI [] [0, 1, 2, 3, 4, 5, 6, 7, 8, 9, 10, 11, 12, 13, 14, 15, 16, 17, 18, 19, 20, 21, 22, 23, 24, 25, 26, 27, 28, 29, 30, 31] [0, 1, 2, 3, 4, 5, 6, 7, 8, 9, 10, 11, 12, 13, 14, 15, 16, 17, 18, 19, 20, 21, 22, 23, 24, 25, 26, 27, 28, 29, 30, 31] C mt_X7_79 (c_J6_bitCount_0f7a4 _ _ _ _ (xorI x2 x3) F hr4) rfl rfl (ws2 := (W_X7_priceOf (eCy E) a_t a_t_leftFrom a_t_leftFromE_0 a_t_leftFromE_1 a_t_leftFromE_2 a_t_leftFromE_3 a_t_leftFromE_4 a_t_leftFromE_5 a_t_leftFromE_6 a_t_leftFromE_7 a_t_leftFromE_8 a_t_leftFromE_9 a_t_leftFromE_10 a_t_leftFromE_11 a_t_leftFromE_12 a_t_leftFromE_13 a_t_leftFromE_14 a_t_leftFromE_15 a_t_leftFromE_16 a_t_leftFromE_17 a_t_leftFromE_18 a_t_leftFromE_19 a_t_leftFromE_20 a_t_leftFromE_21 a_t_leftFromE_22 a_t_leftFromE_23 a_t_leftFromE_24 a_t_leftFromE_25 a_t_leftFromE_26 a_t_leftFromE_27 a_t_leftFromE_28 a_t_leftFromE_29 g_t_0 g_t_1 g_t_2 g_t_3 g_t_4 g_t_6 c_cost c_leftFromE)) rfl rfl rfl (rest := [.int (wI c_cost), .int (wI (c_leftFromE (12) x3))]) rfl rfl rfl dX7_priceOf_15 ?_
    refine g_imul C dX7_priceOf_18 ?_
    refine g_iadd C dX7_priceOf_19 ?_
    cases h
    exact hret 20 _ dX7_priceOf_20
  · refine g_aaldR C 1 rfl (by decide) rfl dX7_priceOf_5 ?_
    refine g_iload_n 3 C dX7_priceOf_6 rfl rfl ?_
    obtain ⟨hc2, h⟩ := chk_some h
    refine g_iald C 15 rfl hc2 rfl dX7_priceOf_7 ?_
    refine g_aload_n 0 C dX7_priceOf_8 rfl rfl ?_
    refine g_get C fg_X7_28 0 rfl rfl dX7_priceOf_9 ?_
    refine g_st (st' := [.int (wI c_cost), .int (wI (c_leftFromE (13) x3))]) rfl ?_
    refine g_iload_n 2 C dX7_priceOf_12 rfl rfl ?_
    refine g_iload_n 3 C dX7_priceOf_13 rfl rfl ?_
    refine g_ixor C dX7_priceOf_14 ?_
    obtain ⟨r3, hr4, h⟩ := bnd1_some h
    refine g_callSI [] [0, 1, 2, 3, 4, 5, 6, 7, 8, 9, 10, 11, 12, 13, 14, 15, 16, 17, 18, 19, 20, 21, 22, 23, 24, 25, 26, 27, 28, 29, 30, 31] [0, 1, 2, 3, 4, 5, 6, 7, 8, 9, 10, 11, 12, 13, 14, 15, 16, 17, 18, 19, 20, 21, 22, 23, 24, 25, 26, 27, 28, 29, 30, 31] C mt_X7_79 (c_J6_bitCount_0f7a4 _ _ _ _ (xorI x2 x3) F hr4) rfl rfl (ws2 := (W_X7_priceOf (eCy E) a_t a_t_leftFrom a_t_leftFromE_0 a_t_leftFromE_1 a_t_leftFromE_2 a_t_leftFromE_3 a_t_leftFromE_4 a_t_leftFromE_5 a_t_leftFromE_6 a_t_leftFromE_7 a_t_leftFromE_8 a_t_leftFromE_9 a_t_leftFromE_10 a_t_leftFromE_11 a_t_leftFromE_12 a_t_leftFromE_13 a_t_leftFromE_14 a_t_leftFromE_15 a_t_leftFromE_16 a_t_leftFromE_17 a_t_leftFromE_18 a_t_leftFromE_19 a_t_leftFromE_20 a_t_leftFromE_21 a_t_leftFromE_22 a_t_leftFromE_23 a_t_leftFromE_24 a_t_leftFromE_25 a_t_leftFromE_26 a_t_leftFromE_27 a_t_leftFromE_28 a_t_leftFromE_29 g_t_0 g_t_1 g_t_2 g_t_3 g_t_4 g_t_6 c_cost c_leftFromE)) rfl rfl rfl (rest := [.int (wI c_cost), .int (wI (c_leftFromE (13) x3))]) rfl rfl rfl dX7_priceOf_15 ?_
    refine g_imul C dX7_priceOf_18 ?_
    refine g_iadd C dX7_priceOf_19 ?_
    cases h
    exact hret 20 _ dX7_priceOf_20
  · refine g_aaldR C 1 rfl (by decide) rfl dX7_priceOf_5 ?_
    refine g_iload_n 3 C dX7_priceOf_6 rfl rfl ?_
    obtain ⟨hc2, h⟩ := chk_some h
    refine g_iald C 16 rfl hc2 rfl dX7_priceOf_7 ?_
    refine g_aload_n 0 C dX7_priceOf_8 rfl rfl ?_
    refine g_get C fg_X7_28 0 rfl rfl dX7_priceOf_9 ?_
    refine g_st (st' := [.int (wI c_cost), .int (wI (c_leftFromE (14) x3))]) rfl ?_
    refine g_iload_n 2 C dX7_priceOf_12 rfl rfl ?_
    refine g_iload_n 3 C dX7_priceOf_13 rfl rfl ?_
    refine g_ixor C dX7_priceOf_14 ?_
    obtain ⟨r3, hr4, h⟩ := bnd1_some h
    refine g_callSI [] [0, 1, 2, 3, 4, 5, 6, 7, 8, 9, 10, 11, 12, 13, 14, 15, 16, 17, 18, 19, 20, 21, 22, 23, 24, 25, 26, 27, 28, 29, 30, 31] [0, 1, 2, 3, 4, 5, 6, 7, 8, 9, 10, 11, 12, 13, 14, 15, 16, 17, 18, 19, 20, 21, 22, 23, 24, 25, 26, 27, 28, 29, 30, 31] C mt_X7_79 (c_J6_bitCount_0f7a4 _ _ _ _ (xorI x2 x3) F hr4) rfl rfl (ws2 := (W_X7_priceOf (eCy E) a_t a_t_leftFrom a_t_leftFromE_0 a_t_leftFromE_1 a_t_leftFromE_2 a_t_leftFromE_3 a_t_leftFromE_4 a_t_leftFromE_5 a_t_leftFromE_6 a_t_leftFromE_7 a_t_leftFromE_8 a_t_leftFromE_9 a_t_leftFromE_10 a_t_leftFromE_11 a_t_leftFromE_12 a_t_leftFromE_13 a_t_leftFromE_14 a_t_leftFromE_15 a_t_leftFromE_16 a_t_leftFromE_17 a_t_leftFromE_18 a_t_leftFromE_19 a_t_leftFromE_20 a_t_leftFromE_21 a_t_leftFromE_22 a_t_leftFromE_23 a_t_leftFromE_24 a_t_leftFromE_25 a_t_leftFromE_26 a_t_leftFromE_27 a_t_leftFromE_28 a_t_leftFromE_29 g_t_0 g_t_1 g_t_2 g_t_3 g_t_4 g_t_6 c_cost c_leftFromE)) rfl rfl rfl (rest := [.int (wI c_cost), .int (wI (c_leftFromE (14) x3))]) rfl rfl rfl dX7_priceOf_15 ?_
    refine g_imul C dX7_priceOf_18 ?_
    refine g_iadd C dX7_priceOf_19 ?_
    cases h
    exact hret 20 _ dX7_priceOf_20
  · refine g_aaldR C 1 rfl (by decide) rfl dX7_priceOf_5 ?_
    refine g_iload_n 3 C dX7_priceOf_6 rfl rfl ?_
    obtain ⟨hc2, h⟩ := chk_some h
    refine g_iald C 17 rfl hc2 rfl dX7_priceOf_7 ?_
    refine g_aload_n 0 C dX7_priceOf_8 rfl rfl ?_
    refine g_get C fg_X7_28 0 rfl rfl dX7_priceOf_9 ?_
    refine g_st (st' := [.int (wI c_cost), .int (wI (c_leftFromE (15) x3))]) rfl ?_
    refine g_iload_n 2 C dX7_priceOf_12 rfl rfl ?_
    refine g_iload_n 3 C dX7_priceOf_13 rfl rfl ?_
    refine g_ixor C dX7_priceOf_14 ?_
    obtain ⟨r3, hr4, h⟩ := bnd1_some h
    refine g_callSI [] [0, 1, 2, 3, 4, 5, 6, 7, 8, 9, 10, 11, 12, 13, 14, 15, 16, 17, 18, 19, 20, 21, 22, 23, 24, 25, 26, 27, 28, 29, 30, 31] [0, 1, 2, 3, 4, 5, 6, 7, 8, 9, 10, 11, 12, 13, 14, 15, 16, 17, 18, 19, 20, 21, 22, 23, 24, 25, 26, 27, 28, 29, 30, 31] C mt_X7_79 (c_J6_bitCount_0f7a4 _ _ _ _ (xorI x2 x3) F hr4) rfl rfl (ws2 := (W_X7_priceOf (eCy E) a_t a_t_leftFrom a_t_leftFromE_0 a_t_leftFromE_1 a_t_leftFromE_2 a_t_leftFromE_3 a_t_leftFromE_4 a_t_leftFromE_5 a_t_leftFromE_6 a_t_leftFromE_7 a_t_leftFromE_8 a_t_leftFromE_9 a_t_leftFromE_10 a_t_leftFromE_11 a_t_leftFromE_12 a_t_leftFromE_13 a_t_leftFromE_14 a_t_leftFromE_15 a_t_leftFromE_16 a_t_leftFromE_17 a_t_leftFromE_18 a_t_leftFromE_19 a_t_leftFromE_20 a_t_leftFromE_21 a_t_leftFromE_22 a_t_leftFromE_23 a_t_leftFromE_24 a_t_leftFromE_25 a_t_leftFromE_26 a_t_leftFromE_27 a_t_leftFromE_28 a_t_leftFromE_29 g_t_0 g_t_1 g_t_2 g_t_3 g_t_4 g_t_6 c_cost c_leftFromE)) rfl rfl rfl (rest := [.int (wI c_cost), .int (wI (c_leftFromE (15) x3))]) rfl rfl rfl dX7_priceOf_15 ?_
    refine g_imul C dX7_priceOf_18 ?_
    refine g_iadd C dX7_priceOf_19 ?_
    cases h
    exact hret 20 _ dX7_priceOf_20
  · refine g_aaldR C 1 rfl (by decide) rfl dX7_priceOf_5 ?_
    refine g_iload_n 3 C dX7_priceOf_6 rfl rfl ?_
    obtain ⟨hc2, h⟩ := chk_some h
    refine g_iald C 18 rfl hc2 rfl dX7_priceOf_7 ?_
    refine g_aload_n 0 C dX7_priceOf_8 rfl rfl ?_
    refine g_get C fg_X7_28 0 rfl rfl dX7_priceOf_9 ?_
    refine g_st (st' := [.int (wI c_cost), .int (wI (c_leftFromE (16) x3))]) rfl ?_
    refine g_iload_n 2 C dX7_priceOf_12 rfl rfl ?_
    refine g_iload_n 3 C dX7_priceOf_13 rfl rfl ?_
    refine g_ixor C dX7_priceOf_14 ?_
    obtain ⟨r3, hr4, h⟩ := bnd1_some h
    refine g_callSI [] [0, 1, 2, 3, 4, 5, 6, 7, 8, 9, 10, 11, 12, 13, 14, 15, 16, 17, 18, 19, 20, 21, 22, 23, 24, 25, 26, 27, 28, 29, 30, 31] [0, 1, 2, 3, 4, 5, 6, 7, 8, 9, 10, 11, 12, 13, 14, 15, 16, 17, 18, 19, 20, 21, 22, 23, 24, 25, 26, 27, 28, 29, 30, 31] C mt_X7_79 (c_J6_bitCount_0f7a4 _ _ _ _ (xorI x2 x3) F hr4) rfl rfl (ws2 := (W_X7_priceOf (eCy E) a_t a_t_leftFrom a_t_leftFromE_0 a_t_leftFromE_1 a_t_leftFromE_2 a_t_leftFromE_3 a_t_leftFromE_4 a_t_leftFromE_5 a_t_leftFromE_6 a_t_leftFromE_7 a_t_leftFromE_8 a_t_leftFromE_9 a_t_leftFromE_10 a_t_leftFromE_11 a_t_leftFromE_12 a_t_leftFromE_13 a_t_leftFromE_14 a_t_leftFromE_15 a_t_leftFromE_16 a_t_leftFromE_17 a_t_leftFromE_18 a_t_leftFromE_19 a_t_leftFromE_20 a_t_leftFromE_21 a_t_leftFromE_22 a_t_leftFromE_23 a_t_leftFromE_24 a_t_leftFromE_25 a_t_leftFromE_26 a_t_leftFromE_27 a_t_leftFromE_28 a_t_leftFromE_29 g_t_0 g_t_1 g_t_2 g_t_3 g_t_4 g_t_6 c_cost c_leftFromE)) rfl rfl rfl (rest := [.int (wI c_cost), .int (wI (c_leftFromE (16) x3))]) rfl rfl rfl dX7_priceOf_15 ?_
    refine g_imul C dX7_priceOf_18 ?_
    refine g_iadd C dX7_priceOf_19 ?_
    cases h
    exact hret 20 _ dX7_priceOf_20
  · refine g_aaldR C 1 rfl (by decide) rfl dX7_priceOf_5 ?_
    refine g_iload_n 3 C dX7_priceOf_6 rfl rfl ?_
    obtain ⟨hc2, h⟩ := chk_some h
    refine g_iald C 19 rfl hc2 rfl dX7_priceOf_7 ?_
    refine g_aload_n 0 C dX7_priceOf_8 rfl rfl ?_
    refine g_get C fg_X7_28 0 rfl rfl dX7_priceOf_9 ?_
    refine g_st (st' := [.int (wI c_cost), .int (wI (c_leftFromE (17) x3))]) rfl ?_
    refine g_iload_n 2 C dX7_priceOf_12 rfl rfl ?_
    refine g_iload_n 3 C dX7_priceOf_13 rfl rfl ?_
    refine g_ixor C dX7_priceOf_14 ?_
    obtain ⟨r3, hr4, h⟩ := bnd1_some h
    refine g_callSI [] [0, 1, 2, 3, 4, 5, 6, 7, 8, 9, 10, 11, 12, 13, 14, 15, 16, 17, 18, 19, 20, 21, 22, 23, 24, 25, 26, 27, 28, 29, 30, 31] [0, 1, 2, 3, 4, 5, 6, 7, 8, 9, 10, 11, 12, 13, 14, 15, 16, 17, 18, 19, 20, 21, 22, 23, 24, 25, 26, 27, 28, 29, 30, 31] C mt_X7_79 (c_J6_bitCount_0f7a4 _ _ _ _ (xorI x2 x3) F hr4) rfl rfl (ws2 := (W_X7_priceOf (eCy E) a_t a_t_leftFrom a_t_leftFromE_0 a_t_leftFromE_1 a_t_leftFromE_2 a_t_leftFromE_3 a_t_leftFromE_4 a_t_leftFromE_5 a_t_leftFromE_6 a_t_leftFromE_7 a_t_leftFromE_8 a_t_leftFromE_9 a_t_leftFromE_10 a_t_leftFromE_11 a_t_leftFromE_12 a_t_leftFromE_13 a_t_leftFromE_14 a_t_leftFromE_15 a_t_leftFromE_16 a_t_leftFromE_17 a_t_leftFromE_18 a_t_leftFromE_19 a_t_leftFromE_20 a_t_leftFromE_21 a_t_leftFromE_22 a_t_leftFromE_23 a_t_leftFromE_24 a_t_leftFromE_25 a_t_leftFromE_26 a_t_leftFromE_27 a_t_leftFromE_28 a_t_leftFromE_29 g_t_0 g_t_1 g_t_2 g_t_3 g_t_4 g_t_6 c_cost c_leftFromE)) rfl rfl rfl (rest := [.int (wI c_cost), .int (wI (c_leftFromE (17) x3))]) rfl rfl rfl dX7_priceOf_15 ?_
    refine g_imul C dX7_priceOf_18 ?_
    refine g_iadd C dX7_priceOf_19 ?_
    cases h
    exact hret 20 _ dX7_priceOf_20
  · refine g_aaldR C 1 rfl (by decide) rfl dX7_priceOf_5 ?_
    refine g_iload_n 3 C dX7_priceOf_6 rfl rfl ?_
    obtain ⟨hc2, h⟩ := chk_some h
    refine g_iald C 20 rfl hc2 rfl dX7_priceOf_7 ?_
    refine g_aload_n 0 C dX7_priceOf_8 rfl rfl ?_
    refine g_get C fg_X7_28 0 rfl rfl dX7_priceOf_9 ?_
    refine g_st (st' := [.int (wI c_cost), .int (wI (c_leftFromE (18) x3))]) rfl ?_
    refine g_iload_n 2 C dX7_priceOf_12 rfl rfl ?_
    refine g_iload_n 3 C dX7_priceOf_13 rfl rfl ?_
    refine g_ixor C dX7_priceOf_14 ?_
    obtain ⟨r3, hr4, h⟩ := bnd1_some h
    refine g_callSI [] [0, 1, 2, 3, 4, 5, 6, 7, 8, 9, 10, 11, 12, 13, 14, 15, 16, 17, 18, 19, 20, 21, 22, 23, 24, 25, 26, 27, 28, 29, 30, 31] [0, 1, 2, 3, 4, 5, 6, 7, 8, 9, 10, 11, 12, 13, 14, 15, 16, 17, 18, 19, 20, 21, 22, 23, 24, 25, 26, 27, 28, 29, 30, 31] C mt_X7_79 (c_J6_bitCount_0f7a4 _ _ _ _ (xorI x2 x3) F hr4) rfl rfl (ws2 := (W_X7_priceOf (eCy E) a_t a_t_leftFrom a_t_leftFromE_0 a_t_leftFromE_1 a_t_leftFromE_2 a_t_leftFromE_3 a_t_leftFromE_4 a_t_leftFromE_5 a_t_leftFromE_6 a_t_leftFromE_7 a_t_leftFromE_8 a_t_leftFromE_9 a_t_leftFromE_10 a_t_leftFromE_11 a_t_leftFromE_12 a_t_leftFromE_13 a_t_leftFromE_14 a_t_leftFromE_15 a_t_leftFromE_16 a_t_leftFromE_17 a_t_leftFromE_18 a_t_leftFromE_19 a_t_leftFromE_20 a_t_leftFromE_21 a_t_leftFromE_22 a_t_leftFromE_23 a_t_leftFromE_24 a_t_leftFromE_25 a_t_leftFromE_26 a_t_leftFromE_27 a_t_leftFromE_28 a_t_leftFromE_29 g_t_0 g_t_1 g_t_2 g_t_3 g_t_4 g_t_6 c_cost c_leftFromE)) rfl rfl rfl (rest := [.int (wI c_cost), .int (wI (c_leftFromE (18) x3))]) rfl rfl rfl dX7_priceOf_15 ?_
    refine g_imul C dX7_priceOf_18 ?_
    refine g_iadd C dX7_priceOf_19 ?_
    cases h
    exact hret 20 _ dX7_priceOf_20
  · refine g_aaldR C 1 rfl (by decide) rfl dX7_priceOf_5 ?_
    refine g_iload_n 3 C dX7_priceOf_6 rfl rfl ?_
    obtain ⟨hc2, h⟩ := chk_some h
    refine g_iald C 21 rfl hc2 rfl dX7_priceOf_7 ?_
    refine g_aload_n 0 C dX7_priceOf_8 rfl rfl ?_
    refine g_get C fg_X7_28 0 rfl rfl dX7_priceOf_9 ?_
    refine g_st (st' := [.int (wI c_cost), .int (wI (c_leftFromE (19) x3))]) rfl ?_
    refine g_iload_n 2 C dX7_priceOf_12 rfl rfl ?_
    refine g_iload_n 3 C dX7_priceOf_13 rfl rfl ?_
    refine g_ixor C dX7_priceOf_14 ?_
    obtain ⟨r3, hr4, h⟩ := bnd1_some h
    refine g_callSI [] [0, 1, 2, 3, 4, 5, 6, 7, 8, 9, 10, 11, 12, 13, 14, 15, 16, 17, 18, 19, 20, 21, 22, 23, 24, 25, 26, 27, 28, 29, 30, 31] [0, 1, 2, 3, 4, 5, 6, 7, 8, 9, 10, 11, 12, 13, 14, 15, 16, 17, 18, 19, 20, 21, 22, 23, 24, 25, 26, 27, 28, 29, 30, 31] C mt_X7_79 (c_J6_bitCount_0f7a4 _ _ _ _ (xorI x2 x3) F hr4) rfl rfl (ws2 := (W_X7_priceOf (eCy E) a_t a_t_leftFrom a_t_leftFromE_0 a_t_leftFromE_1 a_t_leftFromE_2 a_t_leftFromE_3 a_t_leftFromE_4 a_t_leftFromE_5 a_t_leftFromE_6 a_t_leftFromE_7 a_t_leftFromE_8 a_t_leftFromE_9 a_t_leftFromE_10 a_t_leftFromE_11 a_t_leftFromE_12 a_t_leftFromE_13 a_t_leftFromE_14 a_t_leftFromE_15 a_t_leftFromE_16 a_t_leftFromE_17 a_t_leftFromE_18 a_t_leftFromE_19 a_t_leftFromE_20 a_t_leftFromE_21 a_t_leftFromE_22 a_t_leftFromE_23 a_t_leftFromE_24 a_t_leftFromE_25 a_t_leftFromE_26 a_t_leftFromE_27 a_t_leftFromE_28 a_t_leftFromE_29 g_t_0 g_t_1 g_t_2 g_t_3 g_t_4 g_t_6 c_cost c_leftFromE)) rfl rfl rfl (rest := [.int (wI c_cost), .int (wI (c_leftFromE (19) x3))]) rfl rfl rfl dX7_priceOf_15 ?_
    refine g_imul C dX7_priceOf_18 ?_
    refine g_iadd C dX7_priceOf_19 ?_
    cases h
    exact hret 20 _ dX7_priceOf_20
  · refine g_aaldR C 1 rfl (by decide) rfl dX7_priceOf_5 ?_
    refine g_iload_n 3 C dX7_priceOf_6 rfl rfl ?_
    obtain ⟨hc2, h⟩ := chk_some h
    refine g_iald C 22 rfl hc2 rfl dX7_priceOf_7 ?_
    refine g_aload_n 0 C dX7_priceOf_8 rfl rfl ?_
    refine g_get C fg_X7_28 0 rfl rfl dX7_priceOf_9 ?_
    refine g_st (st' := [.int (wI c_cost), .int (wI (c_leftFromE (20) x3))]) rfl ?_
    refine g_iload_n 2 C dX7_priceOf_12 rfl rfl ?_
    refine g_iload_n 3 C dX7_priceOf_13 rfl rfl ?_
    refine g_ixor C dX7_priceOf_14 ?_
    obtain ⟨r3, hr4, h⟩ := bnd1_some h
    refine g_callSI [] [0, 1, 2, 3, 4, 5, 6, 7, 8, 9, 10, 11, 12, 13, 14, 15, 16, 17, 18, 19, 20, 21, 22, 23, 24, 25, 26, 27, 28, 29, 30, 31] [0, 1, 2, 3, 4, 5, 6, 7, 8, 9, 10, 11, 12, 13, 14, 15, 16, 17, 18, 19, 20, 21, 22, 23, 24, 25, 26, 27, 28, 29, 30, 31] C mt_X7_79 (c_J6_bitCount_0f7a4 _ _ _ _ (xorI x2 x3) F hr4) rfl rfl (ws2 := (W_X7_priceOf (eCy E) a_t a_t_leftFrom a_t_leftFromE_0 a_t_leftFromE_1 a_t_leftFromE_2 a_t_leftFromE_3 a_t_leftFromE_4 a_t_leftFromE_5 a_t_leftFromE_6 a_t_leftFromE_7 a_t_leftFromE_8 a_t_leftFromE_9 a_t_leftFromE_10 a_t_leftFromE_11 a_t_leftFromE_12 a_t_leftFromE_13 a_t_leftFromE_14 a_t_leftFromE_15 a_t_leftFromE_16 a_t_leftFromE_17 a_t_leftFromE_18 a_t_leftFromE_19 a_t_leftFromE_20 a_t_leftFromE_21 a_t_leftFromE_22 a_t_leftFromE_23 a_t_leftFromE_24 a_t_leftFromE_25 a_t_leftFromE_26 a_t_leftFromE_27 a_t_leftFromE_28 a_t_leftFromE_29 g_t_0 g_t_1 g_t_2 g_t_3 g_t_4 g_t_6 c_cost c_leftFromE)) rfl rfl rfl (rest := [.int (wI c_cost), .int (wI (c_leftFromE (20) x3))]) rfl rfl rfl dX7_priceOf_15 ?_
    refine g_imul C dX7_priceOf_18 ?_
    refine g_iadd C dX7_priceOf_19 ?_
    cases h
    exact hret 20 _ dX7_priceOf_20
  · refine g_aaldR C 1 rfl (by decide) rfl dX7_priceOf_5 ?_
    refine g_iload_n 3 C dX7_priceOf_6 rfl rfl ?_
    obtain ⟨hc2, h⟩ := chk_some h
    refine g_iald C 23 rfl hc2 rfl dX7_priceOf_7 ?_
    refine g_aload_n 0 C dX7_priceOf_8 rfl rfl ?_
    refine g_get C fg_X7_28 0 rfl rfl dX7_priceOf_9 ?_
    refine g_st (st' := [.int (wI c_cost), .int (wI (c_leftFromE (21) x3))]) rfl ?_
    refine g_iload_n 2 C dX7_priceOf_12 rfl rfl ?_
    refine g_iload_n 3 C dX7_priceOf_13 rfl rfl ?_
    refine g_ixor C dX7_priceOf_14 ?_
    obtain ⟨r3, hr4, h⟩ := bnd1_some h
    refine g_callSI [] [0, 1, 2, 3, 4, 5, 6, 7, 8, 9, 10, 11, 12, 13, 14, 15, 16, 17, 18, 19, 20, 21, 22, 23, 24, 25, 26, 27, 28, 29, 30, 31] [0, 1, 2, 3, 4, 5, 6, 7, 8, 9, 10, 11, 12, 13, 14, 15, 16, 17, 18, 19, 20, 21, 22, 23, 24, 25, 26, 27, 28, 29, 30, 31] C mt_X7_79 (c_J6_bitCount_0f7a4 _ _ _ _ (xorI x2 x3) F hr4) rfl rfl (ws2 := (W_X7_priceOf (eCy E) a_t a_t_leftFrom a_t_leftFromE_0 a_t_leftFromE_1 a_t_leftFromE_2 a_t_leftFromE_3 a_t_leftFromE_4 a_t_leftFromE_5 a_t_leftFromE_6 a_t_leftFromE_7 a_t_leftFromE_8 a_t_leftFromE_9 a_t_leftFromE_10 a_t_leftFromE_11 a_t_leftFromE_12 a_t_leftFromE_13 a_t_leftFromE_14 a_t_leftFromE_15 a_t_leftFromE_16 a_t_leftFromE_17 a_t_leftFromE_18 a_t_leftFromE_19 a_t_leftFromE_20 a_t_leftFromE_21 a_t_leftFromE_22 a_t_leftFromE_23 a_t_leftFromE_24 a_t_leftFromE_25 a_t_leftFromE_26 a_t_leftFromE_27 a_t_leftFromE_28 a_t_leftFromE_29 g_t_0 g_t_1 g_t_2 g_t_3 g_t_4 g_t_6 c_cost c_leftFromE)) rfl rfl rfl (rest := [.int (wI c_cost), .int (wI (c_leftFromE (21) x3))]) rfl rfl rfl dX7_priceOf_15 ?_
    refine g_imul C dX7_priceOf_18 ?_
    refine g_iadd C dX7_priceOf_19 ?_
    cases h
    exact hret 20 _ dX7_priceOf_20
  · refine g_aaldR C 1 rfl (by decide) rfl dX7_priceOf_5 ?_
    refine g_iload_n 3 C dX7_priceOf_6 rfl rfl ?_
    obtain ⟨hc2, h⟩ := chk_some h
    refine g_iald C 24 rfl hc2 rfl dX7_priceOf_7 ?_
    refine g_aload_n 0 C dX7_priceOf_8 rfl rfl ?_
    refine g_get C fg_X7_28 0 rfl rfl dX7_priceOf_9 ?_
    refine g_st (st' := [.int (wI c_cost), .int (wI (c_leftFromE (22) x3))]) rfl ?_
    refine g_iload_n 2 C dX7_priceOf_12 rfl rfl ?_
    refine g_iload_n 3 C dX7_priceOf_13 rfl rfl ?_
    refine g_ixor C dX7_priceOf_14 ?_
    obtain ⟨r3, hr4, h⟩ := bnd1_some h
    refine g_callSI [] [0, 1, 2, 3, 4, 5, 6, 7, 8, 9, 10, 11, 12, 13, 14, 15, 16, 17, 18, 19, 20, 21, 22, 23, 24, 25, 26, 27, 28, 29, 30, 31] [0, 1, 2, 3, 4, 5, 6, 7, 8, 9, 10, 11, 12, 13, 14, 15, 16, 17, 18, 19, 20, 21, 22, 23, 24, 25, 26, 27, 28, 29, 30, 31] C mt_X7_79 (c_J6_bitCount_0f7a4 _ _ _ _ (xorI x2 x3) F hr4) rfl rfl (ws2 := (W_X7_priceOf (eCy E) a_t a_t_leftFrom a_t_leftFromE_0 a_t_leftFromE_1 a_t_leftFromE_2 a_t_leftFromE_3 a_t_leftFromE_4 a_t_leftFromE_5 a_t_leftFromE_6 a_t_leftFromE_7 a_t_leftFromE_8 a_t_leftFromE_9 a_t_leftFromE_10 a_t_leftFromE_11 a_t_leftFromE_12 a_t_leftFromE_13 a_t_leftFromE_14 a_t_leftFromE_15 a_t_leftFromE_16 a_t_leftFromE_17 a_t_leftFromE_18 a_t_leftFromE_19 a_t_leftFromE_20 a_t_leftFromE_21 a_t_leftFromE_22 a_t_leftFromE_23 a_t_leftFromE_24 a_t_leftFromE_25 a_t_leftFromE_26 a_t_leftFromE_27 a_t_leftFromE_28 a_t_leftFromE_29 g_t_0 g_t_1 g_t_2 g_t_3 g_t_4 g_t_6 c_cost c_leftFromE)) rfl rfl rfl (rest := [.int (wI c_cost), .int (wI (c_leftFromE (22) x3))]) rfl rfl rfl dX7_priceOf_15 ?_
    refine g_imul C dX7_priceOf_18 ?_
    refine g_iadd C dX7_priceOf_19 ?_
    cases h
    exact hret 20 _ dX7_priceOf_20
  · refine g_aaldR C 1 rfl (by decide) rfl dX7_priceOf_5 ?_
    refine g_iload_n 3 C dX7_priceOf_6 rfl rfl ?_
    obtain ⟨hc2, h⟩ := chk_some h
    refine g_iald C 25 rfl hc2 rfl dX7_priceOf_7 ?_
    refine g_aload_n 0 C dX7_priceOf_8 rfl rfl ?_
    refine g_get C fg_X7_28 0 rfl rfl dX7_priceOf_9 ?_
    refine g_st (st' := [.int (wI c_cost), .int (wI (c_leftFromE (23) x3))]) rfl ?_
    refine g_iload_n 2 C dX7_priceOf_12 rfl rfl ?_
    refine g_iload_n 3 C dX7_priceOf_13 rfl rfl ?_
    refine g_ixor C dX7_priceOf_14 ?_
    obtain ⟨r3, hr4, h⟩ := bnd1_some h
    refine g_callSI [] [0, 1, 2, 3, 4, 5, 6, 7, 8, 9, 10, 11, 12, 13, 14, 15, 16, 17, 18, 19, 20, 21, 22, 23, 24, 25, 26, 27, 28, 29, 30, 31] [0, 1, 2, 3, 4, 5, 6, 7, 8, 9, 10, 11, 12, 13, 14, 15, 16, 17, 18, 19, 20, 21, 22, 23, 24, 25, 26, 27, 28, 29, 30, 31] C mt_X7_79 (c_J6_bitCount_0f7a4 _ _ _ _ (xorI x2 x3) F hr4) rfl rfl (ws2 := (W_X7_priceOf (eCy E) a_t a_t_leftFrom a_t_leftFromE_0 a_t_leftFromE_1 a_t_leftFromE_2 a_t_leftFromE_3 a_t_leftFromE_4 a_t_leftFromE_5 a_t_leftFromE_6 a_t_leftFromE_7 a_t_leftFromE_8 a_t_leftFromE_9 a_t_leftFromE_10 a_t_leftFromE_11 a_t_leftFromE_12 a_t_leftFromE_13 a_t_leftFromE_14 a_t_leftFromE_15 a_t_leftFromE_16 a_t_leftFromE_17 a_t_leftFromE_18 a_t_leftFromE_19 a_t_leftFromE_20 a_t_leftFromE_21 a_t_leftFromE_22 a_t_leftFromE_23 a_t_leftFromE_24 a_t_leftFromE_25 a_t_leftFromE_26 a_t_leftFromE_27 a_t_leftFromE_28 a_t_leftFromE_29 g_t_0 g_t_1 g_t_2 g_t_3 g_t_4 g_t_6 c_cost c_leftFromE)) rfl rfl rfl (rest := [.int (wI c_cost), .int (wI (c_leftFromE (23) x3))]) rfl rfl rfl dX7_priceOf_15 ?_
    refine g_imul C dX7_priceOf_18 ?_
    refine g_iadd C dX7_priceOf_19 ?_
    cases h
    exact hret 20 _ dX7_priceOf_20
  · refine g_aaldR C 1 rfl (by decide) rfl dX7_priceOf_5 ?_
    refine g_iload_n 3 C dX7_priceOf_6 rfl rfl ?_
    obtain ⟨hc2, h⟩ := chk_some h
    refine g_iald C 26 rfl hc2 rfl dX7_priceOf_7 ?_
    refine g_aload_n 0 C dX7_priceOf_8 rfl rfl ?_
    refine g_get C fg_X7_28 0 rfl rfl dX7_priceOf_9 ?_
    refine g_st (st' := [.int (wI c_cost), .int (wI (c_leftFromE (24) x3))]) rfl ?_
    refine g_iload_n 2 C dX7_priceOf_12 rfl rfl ?_
    refine g_iload_n 3 C dX7_priceOf_13 rfl rfl ?_
    refine g_ixor C dX7_priceOf_14 ?_
    obtain ⟨r3, hr4, h⟩ := bnd1_some h
    refine g_callSI [] [0, 1, 2, 3, 4, 5, 6, 7, 8, 9, 10, 11, 12, 13, 14, 15, 16, 17, 18, 19, 20, 21, 22, 23, 24, 25, 26, 27, 28, 29, 30, 31] [0, 1, 2, 3, 4, 5, 6, 7, 8, 9, 10, 11, 12, 13, 14, 15, 16, 17, 18, 19, 20, 21, 22, 23, 24, 25, 26, 27, 28, 29, 30, 31] C mt_X7_79 (c_J6_bitCount_0f7a4 _ _ _ _ (xorI x2 x3) F hr4) rfl rfl (ws2 := (W_X7_priceOf (eCy E) a_t a_t_leftFrom a_t_leftFromE_0 a_t_leftFromE_1 a_t_leftFromE_2 a_t_leftFromE_3 a_t_leftFromE_4 a_t_leftFromE_5 a_t_leftFromE_6 a_t_leftFromE_7 a_t_leftFromE_8 a_t_leftFromE_9 a_t_leftFromE_10 a_t_leftFromE_11 a_t_leftFromE_12 a_t_leftFromE_13 a_t_leftFromE_14 a_t_leftFromE_15 a_t_leftFromE_16 a_t_leftFromE_17 a_t_leftFromE_18 a_t_leftFromE_19 a_t_leftFromE_20 a_t_leftFromE_21 a_t_leftFromE_22 a_t_leftFromE_23 a_t_leftFromE_24 a_t_leftFromE_25 a_t_leftFromE_26 a_t_leftFromE_27 a_t_leftFromE_28 a_t_leftFromE_29 g_t_0 g_t_1 g_t_2 g_t_3 g_t_4 g_t_6 c_cost c_leftFromE)) rfl rfl rfl (rest := [.int (wI c_cost), .int (wI (c_leftFromE (24) x3))]) rfl rfl rfl dX7_priceOf_15 ?_
    refine g_imul C dX7_priceOf_18 ?_
    refine g_iadd C dX7_priceOf_19 ?_
    cases h
    exact hret 20 _ dX7_priceOf_20
  · refine g_aaldR C 1 rfl (by decide) rfl dX7_priceOf_5 ?_
    refine g_iload_n 3 C dX7_priceOf_6 rfl rfl ?_
    obtain ⟨hc2, h⟩ := chk_some h
    refine g_iald C 27 rfl hc2 rfl dX7_priceOf_7 ?_
    refine g_aload_n 0 C dX7_priceOf_8 rfl rfl ?_
    refine g_get C fg_X7_28 0 rfl rfl dX7_priceOf_9 ?_
    refine g_st (st' := [.int (wI c_cost), .int (wI (c_leftFromE (25) x3))]) rfl ?_
    refine g_iload_n 2 C dX7_priceOf_12 rfl rfl ?_
    refine g_iload_n 3 C dX7_priceOf_13 rfl rfl ?_
    refine g_ixor C dX7_priceOf_14 ?_
    obtain ⟨r3, hr4, h⟩ := bnd1_some h
    refine g_callSI [] [0, 1, 2, 3, 4, 5, 6, 7, 8, 9, 10, 11, 12, 13, 14, 15, 16, 17, 18, 19, 20, 21, 22, 23, 24, 25, 26, 27, 28, 29, 30, 31] [0, 1, 2, 3, 4, 5, 6, 7, 8, 9, 10, 11, 12, 13, 14, 15, 16, 17, 18, 19, 20, 21, 22, 23, 24, 25, 26, 27, 28, 29, 30, 31] C mt_X7_79 (c_J6_bitCount_0f7a4 _ _ _ _ (xorI x2 x3) F hr4) rfl rfl (ws2 := (W_X7_priceOf (eCy E) a_t a_t_leftFrom a_t_leftFromE_0 a_t_leftFromE_1 a_t_leftFromE_2 a_t_leftFromE_3 a_t_leftFromE_4 a_t_leftFromE_5 a_t_leftFromE_6 a_t_leftFromE_7 a_t_leftFromE_8 a_t_leftFromE_9 a_t_leftFromE_10 a_t_leftFromE_11 a_t_leftFromE_12 a_t_leftFromE_13 a_t_leftFromE_14 a_t_leftFromE_15 a_t_leftFromE_16 a_t_leftFromE_17 a_t_leftFromE_18 a_t_leftFromE_19 a_t_leftFromE_20 a_t_leftFromE_21 a_t_leftFromE_22 a_t_leftFromE_23 a_t_leftFromE_24 a_t_leftFromE_25 a_t_leftFromE_26 a_t_leftFromE_27 a_t_leftFromE_28 a_t_leftFromE_29 g_t_0 g_t_1 g_t_2 g_t_3 g_t_4 g_t_6 c_cost c_leftFromE)) rfl rfl rfl (rest := [.int (wI c_cost), .int (wI (c_leftFromE (25) x3))]) rfl rfl rfl dX7_priceOf_15 ?_
    refine g_imul C dX7_priceOf_18 ?_
    refine g_iadd C dX7_priceOf_19 ?_
    cases h
    exact hret 20 _ dX7_priceOf_20
  · refine g_aaldR C 1 rfl (by decide) rfl dX7_priceOf_5 ?_
    refine g_iload_n 3 C dX7_priceOf_6 rfl rfl ?_
    obtain ⟨hc2, h⟩ := chk_some h
    refine g_iald C 28 rfl hc2 rfl dX7_priceOf_7 ?_
    refine g_aload_n 0 C dX7_priceOf_8 rfl rfl ?_
    refine g_get C fg_X7_28 0 rfl rfl dX7_priceOf_9 ?_
    refine g_st (st' := [.int (wI c_cost), .int (wI (c_leftFromE (26) x3))]) rfl ?_
    refine g_iload_n 2 C dX7_priceOf_12 rfl rfl ?_
    refine g_iload_n 3 C dX7_priceOf_13 rfl rfl ?_
    refine g_ixor C dX7_priceOf_14 ?_
    obtain ⟨r3, hr4, h⟩ := bnd1_some h
    refine g_callSI [] [0, 1, 2, 3, 4, 5, 6, 7, 8, 9, 10, 11, 12, 13, 14, 15, 16, 17, 18, 19, 20, 21, 22, 23, 24, 25, 26, 27, 28, 29, 30, 31] [0, 1, 2, 3, 4, 5, 6, 7, 8, 9, 10, 11, 12, 13, 14, 15, 16, 17, 18, 19, 20, 21, 22, 23, 24, 25, 26, 27, 28, 29, 30, 31] C mt_X7_79 (c_J6_bitCount_0f7a4 _ _ _ _ (xorI x2 x3) F hr4) rfl rfl (ws2 := (W_X7_priceOf (eCy E) a_t a_t_leftFrom a_t_leftFromE_0 a_t_leftFromE_1 a_t_leftFromE_2 a_t_leftFromE_3 a_t_leftFromE_4 a_t_leftFromE_5 a_t_leftFromE_6 a_t_leftFromE_7 a_t_leftFromE_8 a_t_leftFromE_9 a_t_leftFromE_10 a_t_leftFromE_11 a_t_leftFromE_12 a_t_leftFromE_13 a_t_leftFromE_14 a_t_leftFromE_15 a_t_leftFromE_16 a_t_leftFromE_17 a_t_leftFromE_18 a_t_leftFromE_19 a_t_leftFromE_20 a_t_leftFromE_21 a_t_leftFromE_22 a_t_leftFromE_23 a_t_leftFromE_24 a_t_leftFromE_25 a_t_leftFromE_26 a_t_leftFromE_27 a_t_leftFromE_28 a_t_leftFromE_29 g_t_0 g_t_1 g_t_2 g_t_3 g_t_4 g_t_6 c_cost c_leftFromE)) rfl rfl rfl (rest := [.int (wI c_cost), .int (wI (c_leftFromE (26) x3))]) rfl rfl rfl dX7_priceOf_15 ?_
    refine g_imul C dX7_priceOf_18 ?_
    refine g_iadd C dX7_priceOf_19 ?_
    cases h
    exact hret 20 _ dX7_priceOf_20
  · refine g_aaldR C 1 rfl (by decide) rfl dX7_priceOf_5 ?_
    refine g_iload_n 3 C dX7_priceOf_6 rfl rfl ?_
    obtain ⟨hc2, h⟩ := chk_some h
    refine g_iald C 29 rfl hc2 rfl dX7_priceOf_7 ?_
    refine g_aload_n 0 C dX7_priceOf_8 rfl rfl ?_
    refine g_get C fg_X7_28 0 rfl rfl dX7_priceOf_9 ?_
    refine g_st (st' := [.int (wI c_cost), .int (wI (c_leftFromE (27) x3))]) rfl ?_
    refine g_iload_n 2 C dX7_priceOf_12 rfl rfl ?_
    refine g_iload_n 3 C dX7_priceOf_13 rfl rfl ?_
    refine g_ixor C dX7_priceOf_14 ?_
    obtain ⟨r3, hr4, h⟩ := bnd1_some h
    refine g_callSI [] [0, 1, 2, 3, 4, 5, 6, 7, 8, 9, 10, 11, 12, 13, 14, 15, 16, 17, 18, 19, 20, 21, 22, 23, 24, 25, 26, 27, 28, 29, 30, 31] [0, 1, 2, 3, 4, 5, 6, 7, 8, 9, 10, 11, 12, 13, 14, 15, 16, 17, 18, 19, 20, 21, 22, 23, 24, 25, 26, 27, 28, 29, 30, 31] C mt_X7_79 (c_J6_bitCount_0f7a4 _ _ _ _ (xorI x2 x3) F hr4) rfl rfl (ws2 := (W_X7_priceOf (eCy E) a_t a_t_leftFrom a_t_leftFromE_0 a_t_leftFromE_1 a_t_leftFromE_2 a_t_leftFromE_3 a_t_leftFromE_4 a_t_leftFromE_5 a_t_leftFromE_6 a_t_leftFromE_7 a_t_leftFromE_8 a_t_leftFromE_9 a_t_leftFromE_10 a_t_leftFromE_11 a_t_leftFromE_12 a_t_leftFromE_13 a_t_leftFromE_14 a_t_leftFromE_15 a_t_leftFromE_16 a_t_leftFromE_17 a_t_leftFromE_18 a_t_leftFromE_19 a_t_leftFromE_20 a_t_leftFromE_21 a_t_leftFromE_22 a_t_leftFromE_23 a_t_leftFromE_24 a_t_leftFromE_25 a_t_leftFromE_26 a_t_leftFromE_27 a_t_leftFromE_28 a_t_leftFromE_29 g_t_0 g_t_1 g_t_2 g_t_3 g_t_4 g_t_6 c_cost c_leftFromE)) rfl rfl rfl (rest := [.int (wI c_cost), .int (wI (c_leftFromE (27) x3))]) rfl rfl rfl dX7_priceOf_15 ?_
    refine g_imul C dX7_priceOf_18 ?_
    refine g_iadd C dX7_priceOf_19 ?_
    cases h
    exact hret 20 _ dX7_priceOf_20
  · refine g_aaldR C 1 rfl (by decide) rfl dX7_priceOf_5 ?_
    refine g_iload_n 3 C dX7_priceOf_6 rfl rfl ?_
    obtain ⟨hc2, h⟩ := chk_some h
    refine g_iald C 30 rfl hc2 rfl dX7_priceOf_7 ?_
    refine g_aload_n 0 C dX7_priceOf_8 rfl rfl ?_
    refine g_get C fg_X7_28 0 rfl rfl dX7_priceOf_9 ?_
    refine g_st (st' := [.int (wI c_cost), .int (wI (c_leftFromE (28) x3))]) rfl ?_
    refine g_iload_n 2 C dX7_priceOf_12 rfl rfl ?_
    refine g_iload_n 3 C dX7_priceOf_13 rfl rfl ?_
    refine g_ixor C dX7_priceOf_14 ?_
    obtain ⟨r3, hr4, h⟩ := bnd1_some h
    refine g_callSI [] [0, 1, 2, 3, 4, 5, 6, 7, 8, 9, 10, 11, 12, 13, 14, 15, 16, 17, 18, 19, 20, 21, 22, 23, 24, 25, 26, 27, 28, 29, 30, 31] [0, 1, 2, 3, 4, 5, 6, 7, 8, 9, 10, 11, 12, 13, 14, 15, 16, 17, 18, 19, 20, 21, 22, 23, 24, 25, 26, 27, 28, 29, 30, 31] C mt_X7_79 (c_J6_bitCount_0f7a4 _ _ _ _ (xorI x2 x3) F hr4) rfl rfl (ws2 := (W_X7_priceOf (eCy E) a_t a_t_leftFrom a_t_leftFromE_0 a_t_leftFromE_1 a_t_leftFromE_2 a_t_leftFromE_3 a_t_leftFromE_4 a_t_leftFromE_5 a_t_leftFromE_6 a_t_leftFromE_7 a_t_leftFromE_8 a_t_leftFromE_9 a_t_leftFromE_10 a_t_leftFromE_11 a_t_leftFromE_12 a_t_leftFromE_13 a_t_leftFromE_14 a_t_leftFromE_15 a_t_leftFromE_16 a_t_leftFromE_17 a_t_leftFromE_18 a_t_leftFromE_19 a_t_leftFromE_20 a_t_leftFromE_21 a_t_leftFromE_22 a_t_leftFromE_23 a_t_leftFromE_24 a_t_leftFromE_25 a_t_leftFromE_26 a_t_leftFromE_27 a_t_leftFromE_28 a_t_leftFromE_29 g_t_0 g_t_1 g_t_2 g_t_3 g_t_4 g_t_6 c_cost c_leftFromE)) rfl rfl rfl (rest := [.int (wI c_cost), .int (wI (c_leftFromE (28) x3))]) rfl rfl rfl dX7_priceOf_15 ?_
    refine g_imul C dX7_priceOf_18 ?_
    refine g_iadd C dX7_priceOf_19 ?_
    cases h
    exact hret 20 _ dX7_priceOf_20
  · refine g_aaldR C 1 rfl (by decide) rfl dX7_priceOf_5 ?_
    refine g_iload_n 3 C dX7_priceOf_6 rfl rfl ?_
    obtain ⟨hc2, h⟩ := chk_some h
    refine g_iald C 31 rfl hc2 rfl dX7_priceOf_7 ?_
    refine g_aload_n 0 C dX7_priceOf_8 rfl rfl ?_
    refine g_get C fg_X7_28 0 rfl rfl dX7_priceOf_9 ?_
    refine g_st (st' := [.int (wI c_cost), .int (wI (c_leftFromE (29) x3))]) rfl ?_
    refine g_iload_n 2 C dX7_priceOf_12 rfl rfl ?_
    refine g_iload_n 3 C dX7_priceOf_13 rfl rfl ?_
    refine g_ixor C dX7_priceOf_14 ?_
    obtain ⟨r3, hr4, h⟩ := bnd1_some h
    refine g_callSI [] [0, 1, 2, 3, 4, 5, 6, 7, 8, 9, 10, 11, 12, 13, 14, 15, 16, 17, 18, 19, 20, 21, 22, 23, 24, 25, 26, 27, 28, 29, 30, 31] [0, 1, 2, 3, 4, 5, 6, 7, 8, 9, 10, 11, 12, 13, 14, 15, 16, 17, 18, 19, 20, 21, 22, 23, 24, 25, 26, 27, 28, 29, 30, 31] C mt_X7_79 (c_J6_bitCount_0f7a4 _ _ _ _ (xorI x2 x3) F hr4) rfl rfl (ws2 := (W_X7_priceOf (eCy E) a_t a_t_leftFrom a_t_leftFromE_0 a_t_leftFromE_1 a_t_leftFromE_2 a_t_leftFromE_3 a_t_leftFromE_4 a_t_leftFromE_5 a_t_leftFromE_6 a_t_leftFromE_7 a_t_leftFromE_8 a_t_leftFromE_9 a_t_leftFromE_10 a_t_leftFromE_11 a_t_leftFromE_12 a_t_leftFromE_13 a_t_leftFromE_14 a_t_leftFromE_15 a_t_leftFromE_16 a_t_leftFromE_17 a_t_leftFromE_18 a_t_leftFromE_19 a_t_leftFromE_20 a_t_leftFromE_21 a_t_leftFromE_22 a_t_leftFromE_23 a_t_leftFromE_24 a_t_leftFromE_25 a_t_leftFromE_26 a_t_leftFromE_27 a_t_leftFromE_28 a_t_leftFromE_29 g_t_0 g_t_1 g_t_2 g_t_3 g_t_4 g_t_6 c_cost c_leftFromE)) rfl rfl rfl (rest := [.int (wI c_cost), .int (wI (c_leftFromE (29) x3))]) rfl rfl rfl dX7_priceOf_15 ?_
    refine g_imul C dX7_priceOf_18 ?_
    refine g_iadd C dX7_priceOf_19 ?_
    cases h
    exact hret 20 _ dX7_priceOf_20
end S_X7_priceOf
set_option maxRecDepth 100000 in
set_option maxHeartbeats 4000000 in
theorem c_X7_priceOf (l : Launch) (D : va_G) (cy : Nat → ClassId) (ad : AD) (a_t a_t_leftFrom a_t_leftFromE_0 a_t_leftFromE_1 a_t_leftFromE_2 a_t_leftFromE_3 a_t_leftFromE_4 a_t_leftFromE_5 a_t_leftFromE_6 a_t_leftFromE_7 a_t_leftFromE_8 a_t_leftFromE_9 a_t_leftFromE_10 a_t_leftFromE_11 a_t_leftFromE_12 a_t_leftFromE_13 a_t_leftFromE_14 a_t_leftFromE_15 a_t_leftFromE_16 a_t_leftFromE_17 a_t_leftFromE_18 a_t_leftFromE_19 a_t_leftFromE_20 a_t_leftFromE_21 a_t_leftFromE_22 a_t_leftFromE_23 a_t_leftFromE_24 a_t_leftFromE_25 a_t_leftFromE_26 a_t_leftFromE_27 a_t_leftFromE_28 a_t_leftFromE_29 : Nat) (g_t_0 : Value) (g_t_1 : Value) (g_t_2 : Value) (g_t_3 : Value) (g_t_4 : Value) (g_t_6 : Value) (x1 : Int) (x2 : Int) (x3 : Int) (c_cost : Int) (c_leftFromE : Int → Int → Int) (F : Nat) {v : Int} (h : m_X7_priceOf F x1 x2 x3 c_cost c_leftFromE = some v) : Ct l yX7_priceOf cX7_priceOf 4 (some .int) { frames := 1, cells := 0, slots := 0, locals := 20 } D cy ad [.ref a_t, .int (wI x1), .int (wI x2), .int (wI x3)] (W_X7_priceOf cy a_t a_t_leftFrom a_t_leftFromE_0 a_t_leftFromE_1 a_t_leftFromE_2 a_t_leftFromE_3 a_t_leftFromE_4 a_t_leftFromE_5 a_t_leftFromE_6 a_t_leftFromE_7 a_t_leftFromE_8 a_t_leftFromE_9 a_t_leftFromE_10 a_t_leftFromE_11 a_t_leftFromE_12 a_t_leftFromE_13 a_t_leftFromE_14 a_t_leftFromE_15 a_t_leftFromE_16 a_t_leftFromE_17 a_t_leftFromE_18 a_t_leftFromE_19 a_t_leftFromE_20 a_t_leftFromE_21 a_t_leftFromE_22 a_t_leftFromE_23 a_t_leftFromE_24 a_t_leftFromE_25 a_t_leftFromE_26 a_t_leftFromE_27 a_t_leftFromE_28 a_t_leftFromE_29 g_t_0 g_t_1 g_t_2 g_t_3 g_t_4 g_t_6 c_cost c_leftFromE) (W_X7_priceOf cy a_t a_t_leftFrom a_t_leftFromE_0 a_t_leftFromE_1 a_t_leftFromE_2 a_t_leftFromE_3 a_t_leftFromE_4 a_t_leftFromE_5 a_t_leftFromE_6 a_t_leftFromE_7 a_t_leftFromE_8 a_t_leftFromE_9 a_t_leftFromE_10 a_t_leftFromE_11 a_t_leftFromE_12 a_t_leftFromE_13 a_t_leftFromE_14 a_t_leftFromE_15 a_t_leftFromE_16 a_t_leftFromE_17 a_t_leftFromE_18 a_t_leftFromE_19 a_t_leftFromE_20 a_t_leftFromE_21 a_t_leftFromE_22 a_t_leftFromE_23 a_t_leftFromE_24 a_t_leftFromE_25 a_t_leftFromE_26 a_t_leftFromE_27 a_t_leftFromE_28 a_t_leftFromE_29 g_t_0 g_t_1 g_t_2 g_t_3 g_t_4 g_t_6 c_cost c_leftFromE) (some (.int (wI v))) := by
  refine Ct.introI (j := 0) (plainFor_of_name (by decide)) rfl rfl (fun E C e1 e2 e3 e4 e5 hret => ?_)
  subst e1; subst e2; subst e3; subst e4
  exact wm_X7_priceOf C e5 h hret
-- MovingStair$Turning.bestAfter(II)I
def W_X7_bestAfter (cy : Nat → ClassId) (a_t a_t_leftFrom a_t_leftFromE_0 a_t_leftFromE_1 a_t_leftFromE_2 a_t_leftFromE_3 a_t_leftFromE_4 a_t_leftFromE_5 a_t_leftFromE_6 a_t_leftFromE_7 a_t_leftFromE_8 a_t_leftFromE_9 a_t_leftFromE_10 a_t_leftFromE_11 a_t_leftFromE_12 a_t_leftFromE_13 a_t_leftFromE_14 a_t_leftFromE_15 a_t_leftFromE_16 a_t_leftFromE_17 a_t_leftFromE_18 a_t_leftFromE_19 a_t_leftFromE_20 a_t_leftFromE_21 a_t_leftFromE_22 a_t_leftFromE_23 a_t_leftFromE_24 a_t_leftFromE_25 a_t_leftFromE_26 a_t_leftFromE_27 a_t_leftFromE_28 a_t_leftFromE_29 : Nat) (g_t_0 : Value) (g_t_1 : Value) (g_t_2 : Value) (g_t_3 : Value) (g_t_6 : Value) (c_sets : Int) (c_cost : Int) (c_leftFromE : Int → Int → Int) : va_W := [(a_t, .inr (7, [g_t_0, g_t_1, g_t_2, g_t_3, .int (wI c_sets), .int (wI c_cost), g_t_6, .ref a_t_leftFrom])), (a_t_leftFrom, .inl (cy 6, 30, .inr (.inr (.inr (.inr (selO [a_t_leftFromE_0, a_t_leftFromE_1, a_t_leftFromE_2, a_t_leftFromE_3, a_t_leftFromE_4, a_t_leftFromE_5, a_t_leftFromE_6, a_t_leftFromE_7, a_t_leftFromE_8, a_t_leftFromE_9, a_t_leftFromE_10, a_t_leftFromE_11, a_t_leftFromE_12, a_t_leftFromE_13, a_t_leftFromE_14, a_t_leftFromE_15, a_t_leftFromE_16, a_t_leftFromE_17, a_t_leftFromE_18, a_t_leftFromE_19, a_t_leftFromE_20, a_t_leftFromE_21, a_t_leftFromE_22, a_t_leftFromE_23, a_t_leftFromE_24, a_t_leftFromE_25, a_t_leftFromE_26, a_t_leftFromE_27, a_t_leftFromE_28, a_t_leftFromE_29])))))), (a_t_leftFromE_0, .inl (cy 1, 16, .inl (aI (c_leftFromE 0)))), (a_t_leftFromE_1, .inl (cy 1, 16, .inl (aI (c_leftFromE 1)))), (a_t_leftFromE_2, .inl (cy 1, 16, .inl (aI (c_leftFromE 2)))), (a_t_leftFromE_3, .inl (cy 1, 16, .inl (aI (c_leftFromE 3)))), (a_t_leftFromE_4, .inl (cy 1, 16, .inl (aI (c_leftFromE 4)))), (a_t_leftFromE_5, .inl (cy 1, 16, .inl (aI (c_leftFromE 5)))), (a_t_leftFromE_6, .inl (cy 1, 16, .inl (aI (c_leftFromE 6)))), (a_t_leftFromE_7, .inl (cy 1, 16, .inl (aI (c_leftFromE 7)))), (a_t_leftFromE_8, .inl (cy 1, 16, .inl (aI (c_leftFromE 8)))), (a_t_leftFromE_9, .inl (cy 1, 16, .inl (aI (c_leftFromE 9)))), (a_t_leftFromE_10, .inl (cy 1, 16, .inl (aI (c_leftFromE 10)))), (a_t_leftFromE_11, .inl (cy 1, 16, .inl (aI (c_leftFromE 11)))), (a_t_leftFromE_12, .inl (cy 1, 16, .inl (aI (c_leftFromE 12)))), (a_t_leftFromE_13, .inl (cy 1, 16, .inl (aI (c_leftFromE 13)))), (a_t_leftFromE_14, .inl (cy 1, 16, .inl (aI (c_leftFromE 14)))), (a_t_leftFromE_15, .inl (cy 1, 16, .inl (aI (c_leftFromE 15)))), (a_t_leftFromE_16, .inl (cy 1, 16, .inl (aI (c_leftFromE 16)))), (a_t_leftFromE_17, .inl (cy 1, 16, .inl (aI (c_leftFromE 17)))), (a_t_leftFromE_18, .inl (cy 1, 16, .inl (aI (c_leftFromE 18)))), (a_t_leftFromE_19, .inl (cy 1, 16, .inl (aI (c_leftFromE 19)))), (a_t_leftFromE_20, .inl (cy 1, 16, .inl (aI (c_leftFromE 20)))), (a_t_leftFromE_21, .inl (cy 1, 16, .inl (aI (c_leftFromE 21)))), (a_t_leftFromE_22, .inl (cy 1, 16, .inl (aI (c_leftFromE 22)))), (a_t_leftFromE_23, .inl (cy 1, 16, .inl (aI (c_leftFromE 23)))), (a_t_leftFromE_24, .inl (cy 1, 16, .inl (aI (c_leftFromE 24)))), (a_t_leftFromE_25, .inl (cy 1, 16, .inl (aI (c_leftFromE 25)))), (a_t_leftFromE_26, .inl (cy 1, 16, .inl (aI (c_leftFromE 26)))), (a_t_leftFromE_27, .inl (cy 1, 16, .inl (aI (c_leftFromE 27)))), (a_t_leftFromE_28, .inl (cy 1, 16, .inl (aI (c_leftFromE 28)))), (a_t_leftFromE_29, .inl (cy 1, 16, .inl (aI (c_leftFromE 29))))]
def mb_X7_bestAfter_35 (F : Nat) (k5 : Int → Int → Option (Int)) (x1 : Int) (x2 : Int) (x3 : Int) (x4 : Int) (c_sets : Int) (c_cost : Int) (c_leftFromE : Int → Int → Int) : Option (Int) :=
  k5 x3 (x4 + 1)
def mb_X7_bestAfter_5 (F : Nat) (k5 : Int → Int → Option (Int)) (x1 : Int) (x2 : Int) (x3 : Int) (x4 : Int) (c_sets : Int) (c_cost : Int) (c_leftFromE : Int → Int → Int) : Option (Int) :=
  if wI c_sets ≤ wI x4 then
    (some x3)
  else
    (bnd1 (m_X7_priceOf F x1 x2 x4 c_cost c_leftFromE) fun r1 => bnd1 (m_X7_priceOf F x1 x2 x3 c_cost c_leftFromE) fun r3 => if wI r3 ≤ wI r1 then
    (mb_X7_bestAfter_35 F k5 x1 x2 x3 x4 c_sets c_cost c_leftFromE)
  else
    (mb_X7_bestAfter_35 F k5 x1 x2 x4 x4 c_sets c_cost c_leftFromE))
def ml_X7_bestAfter_5 (F : Nat) (x1 : Int) (x2 : Int) (x3 : Int) (x4 : Int) (c_sets : Int) (c_cost : Int) (c_leftFromE : Int → Int → Int) : Option (Int) :=
  loopN (fun (k : Int × Int → Option (Int)) q => mb_X7_bestAfter_5 F (fun y0 y1 => k (y0, y1)) x1 x2 q.1 q.2 c_sets c_cost c_leftFromE) F (x3, x4)
def m_X7_bestAfter (F : Nat) (x1 : Int) (x2 : Int) (c_sets : Int) (c_cost : Int) (c_leftFromE : Int → Int → Int) : Option (Int) :=
  ml_X7_bestAfter_5 F x1 x2 0 1 c_sets c_cost c_leftFromE
section S_X7_bestAfter
variable {E : EE} {a_t a_t_leftFrom a_t_leftFromE_0 a_t_leftFromE_1 a_t_leftFromE_2 a_t_leftFromE_3 a_t_leftFromE_4 a_t_leftFromE_5 a_t_leftFromE_6 a_t_leftFromE_7 a_t_leftFromE_8 a_t_leftFromE_9 a_t_leftFromE_10 a_t_leftFromE_11 a_t_leftFromE_12 a_t_leftFromE_13 a_t_leftFromE_14 a_t_leftFromE_15 a_t_leftFromE_16 a_t_leftFromE_17 a_t_leftFromE_18 a_t_leftFromE_19 a_t_leftFromE_20 a_t_leftFromE_21 a_t_leftFromE_22 a_t_leftFromE_23 a_t_leftFromE_24 a_t_leftFromE_25 a_t_leftFromE_26 a_t_leftFromE_27 a_t_leftFromE_28 a_t_leftFromE_29 : Nat} {g_t_0 : Value} {g_t_1 : Value} {g_t_2 : Value} {g_t_3 : Value} {g_t_6 : Value}
set_option maxRecDepth 100000 in
set_option maxHeartbeats 4000000 in
theorem wb_X7_bestAfter_35 {F : Nat} {k5 : Int → Int → Option (Int)} {v : Int} {x1 : Int} {x2 : Int} {x3 : Int} {x4 : Int} {c_sets : Int} {c_cost : Int} {c_leftFromE : Int → Int → Int} (C : Cx E cX7_bestAfter RX7 { frames := 2, cells := 0, slots := 0, locals := 43 }) (hN : eN E = 5) (h : mb_X7_bestAfter_35 F k5 x1 x2 x3 x4 c_sets c_cost c_leftFromE = some v) (hk5 : ∀ (y_x3 : Int) (y_x4 : Int), k5 y_x3 y_x4 = some v → GG E 0 0 (W_X7_bestAfter (eCy E) a_t a_t_leftFrom a_t_leftFromE_0 a_t_leftFromE_1 a_t_leftFromE_2 a_t_leftFromE_3 a_t_leftFromE_4 a_t_leftFromE_5 a_t_leftFromE_6 a_t_leftFromE_7 a_t_leftFromE_8 a_t_leftFromE_9 a_t_leftFromE_10 a_t_leftFromE_11 a_t_leftFromE_12 a_t_leftFromE_13 a_t_leftFromE_14 a_t_leftFromE_15 a_t_leftFromE_16 a_t_leftFromE_17 a_t_leftFromE_18 a_t_leftFromE_19 a_t_leftFromE_20 a_t_leftFromE_21 a_t_leftFromE_22 a_t_leftFromE_23 a_t_leftFromE_24 a_t_leftFromE_25 a_t_leftFromE_26 a_t_leftFromE_27 a_t_leftFromE_28 a_t_leftFromE_29 g_t_0 g_t_1 g_t_2 g_t_3 g_t_6 c_sets c_cost c_leftFromE) [some (.ref a_t), some (.int (wI x1)), some (.int (wI x2)), some (.int (wI y_x3)), some (.int (wI y_x4))] 5 []) (hret : ∀ (pc : Nat) (L : List (Option Value)), decode cX7_bestAfter pc = .ok (.ireturn, 1) → GG E 0 0 (W_X7_bestAfter (eCy E) a_t a_t_leftFrom a_t_leftFromE_0 a_t_leftFromE_1 a_t_leftFromE_2 a_t_leftFromE_3 a_t_leftFromE_4 a_t_leftFromE_5 a_t_leftFromE_6 a_t_leftFromE_7 a_t_leftFromE_8 a_t_leftFromE_9 a_t_leftFromE_10 a_t_leftFromE_11 a_t_leftFromE_12 a_t_leftFromE_13 a_t_leftFromE_14 a_t_leftFromE_15 a_t_leftFromE_16 a_t_leftFromE_17 a_t_leftFromE_18 a_t_leftFromE_19 a_t_leftFromE_20 a_t_leftFromE_21 a_t_leftFromE_22 a_t_leftFromE_23 a_t_leftFromE_24 a_t_leftFromE_25 a_t_leftFromE_26 a_t_leftFromE_27 a_t_leftFromE_28 a_t_leftFromE_29 g_t_0 g_t_1 g_t_2 g_t_3 g_t_6 c_sets c_cost c_leftFromE) L pc [.int (wI v)]) : GG E 0 0 (W_X7_bestAfter (eCy E) a_t a_t_leftFrom a_t_leftFromE_0 a_t_leftFromE_1 a_t_leftFromE_2 a_t_leftFromE_3 a_t_leftFromE_4 a_t_leftFromE_5 a_t_leftFromE_6 a_t_leftFromE_7 a_t_leftFromE_8 a_t_leftFromE_9 a_t_leftFromE_10 a_t_leftFromE_11 a_t_leftFromE_12 a_t_leftFromE_13 a_t_leftFromE_14 a_t_leftFromE_15 a_t_leftFromE_16 a_t_leftFromE_17 a_t_leftFromE_18 a_t_leftFromE_19 a_t_leftFromE_20 a_t_leftFromE_21 a_t_leftFromE_22 a_t_leftFromE_23 a_t_leftFromE_24 a_t_leftFromE_25 a_t_leftFromE_26 a_t_leftFromE_27 a_t_leftFromE_28 a_t_leftFromE_29 g_t_0 g_t_1 g_t_2 g_t_3 g_t_6 c_sets c_cost c_leftFromE) [some (.ref a_t), some (.int (wI x1)), some (.int (wI x2)), some (.int (wI x3)), some (.int (wI x4))] 35 [] := by
  unfold mb_X7_bestAfter_35 at h
  refine g_iinc C hN dX7_bestAfter_35 rfl rfl (L' := [some (.ref a_t), some (.int (wI x1)), some (.int (wI x2)), some (.int (wI x3)), some (.int (wI (x4 + 1)))]) rfl ?_
  refine g_goto (tgt := 5) C dX7_bestAfter_38 (by decide) ?_
  exact hk5 _ _ h
set_option maxRecDepth 100000 in
set_option maxHeartbeats 4000000 in
theorem wb_X7_bestAfter_5 {F : Nat} {k5 : Int → Int → Option (Int)} {v : Int} {x1 : Int} {x2 : Int} {x3 : Int} {x4 : Int} {c_sets : Int} {c_cost : Int} {c_leftFromE : Int → Int → Int} (C : Cx E cX7_bestAfter RX7 { frames := 2, cells := 0, slots := 0, locals := 43 }) (hN : eN E = 5) (h : mb_X7_bestAfter_5 F k5 x1 x2 x3 x4 c_sets c_cost c_leftFromE = some v) (hk5 : ∀ (y_x3 : Int) (y_x4 : Int), k5 y_x3 y_x4 = some v → GG E 0 0 (W_X7_bestAfter (eCy E) a_t a_t_leftFrom a_t_leftFromE_0 a_t_leftFromE_1 a_t_leftFromE_2 a_t_leftFromE_3 a_t_leftFromE_4 a_t_leftFromE_5 a_t_leftFromE_6 a_t_leftFromE_7 a_t_leftFromE_8 a_t_leftFromE_9 a_t_leftFromE_10 a_t_leftFromE_11 a_t_leftFromE_12 a_t_leftFromE_13 a_t_leftFromE_14 a_t_leftFromE_15 a_t_leftFromE_16 a_t_leftFromE_17 a_t_leftFromE_18 a_t_leftFromE_19 a_t_leftFromE_20 a_t_leftFromE_21 a_t_leftFromE_22 a_t_leftFromE_23 a_t_leftFromE_24 a_t_leftFromE_25 a_t_leftFromE_26 a_t_leftFromE_27 a_t_leftFromE_28 a_t_leftFromE_29 g_t_0 g_t_1 g_t_2 g_t_3 g_t_6 c_sets c_cost c_leftFromE) [some (.ref a_t), some (.int (wI x1)), some (.int (wI x2)), some (.int (wI y_x3)), some (.int (wI y_x4))] 5 []) (hret : ∀ (pc : Nat) (L : List (Option Value)), decode cX7_bestAfter pc = .ok (.ireturn, 1) → GG E 0 0 (W_X7_bestAfter (eCy E) a_t a_t_leftFrom a_t_leftFromE_0 a_t_leftFromE_1 a_t_leftFromE_2 a_t_leftFromE_3 a_t_leftFromE_4 a_t_leftFromE_5 a_t_leftFromE_6 a_t_leftFromE_7 a_t_leftFromE_8 a_t_leftFromE_9 a_t_leftFromE_10 a_t_leftFromE_11 a_t_leftFromE_12 a_t_leftFromE_13 a_t_leftFromE_14 a_t_leftFromE_15 a_t_leftFromE_16 a_t_leftFromE_17 a_t_leftFromE_18 a_t_leftFromE_19 a_t_leftFromE_20 a_t_leftFromE_21 a_t_leftFromE_22 a_t_leftFromE_23 a_t_leftFromE_24 a_t_leftFromE_25 a_t_leftFromE_26 a_t_leftFromE_27 a_t_leftFromE_28 a_t_leftFromE_29 g_t_0 g_t_1 g_t_2 g_t_3 g_t_6 c_sets c_cost c_leftFromE) L pc [.int (wI v)]) : GG E 0 0 (W_X7_bestAfter (eCy E) a_t a_t_leftFrom a_t_leftFromE_0 a_t_leftFromE_1 a_t_leftFromE_2 a_t_leftFromE_3 a_t_leftFromE_4 a_t_leftFromE_5 a_t_leftFromE_6 a_t_leftFromE_7 a_t_leftFromE_8 a_t_leftFromE_9 a_t_leftFromE_10 a_t_leftFromE_11 a_t_leftFromE_12 a_t_leftFromE_13 a_t_leftFromE_14 a_t_leftFromE_15 a_t_leftFromE_16 a_t_leftFromE_17 a_t_leftFromE_18 a_t_leftFromE_19 a_t_leftFromE_20 a_t_leftFromE_21 a_t_leftFromE_22 a_t_leftFromE_23 a_t_leftFromE_24 a_t_leftFromE_25 a_t_leftFromE_26 a_t_leftFromE_27 a_t_leftFromE_28 a_t_leftFromE_29 g_t_0 g_t_1 g_t_2 g_t_3 g_t_6 c_sets c_cost c_leftFromE) [some (.ref a_t), some (.int (wI x1)), some (.int (wI x2)), some (.int (wI x3)), some (.int (wI x4))] 5 [] := by
  unfold mb_X7_bestAfter_5 at h
  refine g_iload C dX7_bestAfter_5 rfl ?_
  refine g_aload_n 0 C dX7_bestAfter_7 rfl rfl ?_
  refine g_get C fg_X7_25 0 rfl rfl dX7_bestAfter_8 ?_
  refine g_st (st' := [.int (wI c_sets), .int (wI x4)]) rfl ?_
  refine g_icmp_ge 41 C dX7_bestAfter_11 (by decide) h (fun h => ?_) (fun h => ?_)
  · refine g_iload_n 3 C dX7_bestAfter_41 rfl rfl ?_
    cases h
    exact hret 42 _ dX7_bestAfter_42
  · refine g_aload_n 0 C dX7_bestAfter_14 rfl rfl ?_
    refine g_iload_n 1 C dX7_bestAfter_15 rfl rfl ?_
    refine g_iload_n 2 C dX7_bestAfter_16 rfl rfl ?_
    refine g_iload C dX7_bestAfter_17 rfl ?_
    obtain ⟨r1, hr2, h⟩ := bnd1_some h
    refine g_callI [0, 1, 2, 3, 4, 5, 6, 7, 8, 9, 10, 11, 12, 13, 14, 15, 16, 17, 18, 19, 20, 21, 22, 23, 24, 25, 26, 27, 28, 29, 30, 31] [] [0, 1, 2, 3, 4, 5, 6, 7, 8, 9, 10, 11, 12, 13, 14, 15, 16, 17, 18, 19, 20, 21, 22, 23, 24, 25, 26, 27, 28, 29, 30, 31] C mt_X7_75 (c_X7_priceOf _ _ _ _ a_t a_t_leftFrom a_t_leftFromE_0 a_t_leftFromE_1 a_t_leftFromE_2 a_t_leftFromE_3 a_t_leftFromE_4 a_t_leftFromE_5 a_t_leftFromE_6 a_t_leftFromE_7 a_t_leftFromE_8 a_t_leftFromE_9 a_t_leftFromE_10 a_t_leftFromE_11 a_t_leftFromE_12 a_t_leftFromE_13 a_t_leftFromE_14 a_t_leftFromE_15 a_t_leftFromE_16 a_t_leftFromE_17 a_t_leftFromE_18 a_t_leftFromE_19 a_t_leftFromE_20 a_t_leftFromE_21 a_t_leftFromE_22 a_t_leftFromE_23 a_t_leftFromE_24 a_t_leftFromE_25 a_t_leftFromE_26 a_t_leftFromE_27 a_t_leftFromE_28 a_t_leftFromE_29 (g_t_0) (g_t_1) (g_t_2) (g_t_3) (.int (wI c_sets)) (g_t_6) x1 x2 x4 c_cost c_leftFromE F hr2) (q0 := 0) rfl (ci := 7) rfl rfl rfl (ws2 := (W_X7_bestAfter (eCy E) a_t a_t_leftFrom a_t_leftFromE_0 a_t_leftFromE_1 a_t_leftFromE_2 a_t_leftFromE_3 a_t_leftFromE_4 a_t_leftFromE_5 a_t_leftFromE_6 a_t_leftFromE_7 a_t_leftFromE_8 a_t_leftFromE_9 a_t_leftFromE_10 a_t_leftFromE_11 a_t_leftFromE_12 a_t_leftFromE_13 a_t_leftFromE_14 a_t_leftFromE_15 a_t_leftFromE_16 a_t_leftFromE_17 a_t_leftFromE_18 a_t_leftFromE_19 a_t_leftFromE_20 a_t_leftFromE_21 a_t_leftFromE_22 a_t_leftFromE_23 a_t_leftFromE_24 a_t_leftFromE_25 a_t_leftFromE_26 a_t_leftFromE_27 a_t_leftFromE_28 a_t_leftFromE_29 g_t_0 g_t_1 g_t_2 g_t_3 g_t_6 c_sets c_cost c_leftFromE)) rfl rfl rfl (rest := []) rfl rfl rfl dX7_bestAfter_19 ?_
    refine g_aload_n 0 C dX7_bestAfter_22 rfl rfl ?_
    refine g_iload_n 1 C dX7_bestAfter_23 rfl rfl ?_
    refine g_iload_n 2 C dX7_bestAfter_24 rfl rfl ?_
    refine g_iload_n 3 C dX7_bestAfter_25 rfl rfl ?_
    obtain ⟨r3, hr4, h⟩ := bnd1_some h
    refine g_callI [0, 1, 2, 3, 4, 5, 6, 7, 8, 9, 10, 11, 12, 13, 14, 15, 16, 17, 18, 19, 20, 21, 22, 23, 24, 25, 26, 27, 28, 29, 30, 31] [] [0, 1, 2, 3, 4, 5, 6, 7, 8, 9, 10, 11, 12, 13, 14, 15, 16, 17, 18, 19, 20, 21, 22, 23, 24, 25, 26, 27, 28, 29, 30, 31] C mt_X7_75 (c_X7_priceOf _ _ _ _ a_t a_t_leftFrom a_t_leftFromE_0 a_t_leftFromE_1 a_t_leftFromE_2 a_t_leftFromE_3 a_t_leftFromE_4 a_t_leftFromE_5 a_t_leftFromE_6 a_t_leftFromE_7 a_t_leftFromE_8 a_t_leftFromE_9 a_t_leftFromE_10 a_t_leftFromE_11 a_t_leftFromE_12 a_t_leftFromE_13 a_t_leftFromE_14 a_t_leftFromE_15 a_t_leftFromE_16 a_t_leftFromE_17 a_t_leftFromE_18 a_t_leftFromE_19 a_t_leftFromE_20 a_t_leftFromE_21 a_t_leftFromE_22 a_t_leftFromE_23 a_t_leftFromE_24 a_t_leftFromE_25 a_t_leftFromE_26 a_t_leftFromE_27 a_t_leftFromE_28 a_t_leftFromE_29 (g_t_0) (g_t_1) (g_t_2) (g_t_3) (.int (wI c_sets)) (g_t_6) x1 x2 x3 c_cost c_leftFromE F hr4) (q0 := 0) rfl (ci := 7) rfl rfl rfl (ws2 := (W_X7_bestAfter (eCy E) a_t a_t_leftFrom a_t_leftFromE_0 a_t_leftFromE_1 a_t_leftFromE_2 a_t_leftFromE_3 a_t_leftFromE_4 a_t_leftFromE_5 a_t_leftFromE_6 a_t_leftFromE_7 a_t_leftFromE_8 a_t_leftFromE_9 a_t_leftFromE_10 a_t_leftFromE_11 a_t_leftFromE_12 a_t_leftFromE_13 a_t_leftFromE_14 a_t_leftFromE_15 a_t_leftFromE_16 a_t_leftFromE_17 a_t_leftFromE_18 a_t_leftFromE_19 a_t_leftFromE_20 a_t_leftFromE_21 a_t_leftFromE_22 a_t_leftFromE_23 a_t_leftFromE_24 a_t_leftFromE_25 a_t_leftFromE_26 a_t_leftFromE_27 a_t_leftFromE_28 a_t_leftFromE_29 g_t_0 g_t_1 g_t_2 g_t_3 g_t_6 c_sets c_cost c_leftFromE)) rfl rfl rfl (rest := [.int (wI r1)]) rfl rfl rfl dX7_bestAfter_26 ?_
    refine g_icmp_ge 35 C dX7_bestAfter_29 (by decide) h (fun h => ?_) (fun h => ?_)
    · exact wb_X7_bestAfter_35 C hN h hk5 hret
    · refine g_iload C dX7_bestAfter_32 rfl ?_
      refine g_istore_n 3 C hN dX7_bestAfter_34 rfl rfl (L' := [some (.ref a_t), some (.int (wI x1)), some (.int (wI x2)), some (.int (wI x4)), some (.int (wI x4))]) rfl ?_
      exact wb_X7_bestAfter_35 C hN h hk5 hret
set_option maxRecDepth 100000 in
set_option maxHeartbeats 4000000 in
theorem wl_X7_bestAfter_5 {F : Nat} {v : Int} {x1 : Int} {x2 : Int} {x3 : Int} {x4 : Int} {c_sets : Int} {c_cost : Int} {c_leftFromE : Int → Int → Int} (C : Cx E cX7_bestAfter RX7 { frames := 2, cells := 0, slots := 0, locals := 43 }) (hN : eN E = 5) (h : ml_X7_bestAfter_5 F x1 x2 x3 x4 c_sets c_cost c_leftFromE = some v) (hret : ∀ (pc : Nat) (L : List (Option Value)), decode cX7_bestAfter pc = .ok (.ireturn, 1) → GG E 0 0 (W_X7_bestAfter (eCy E) a_t a_t_leftFrom a_t_leftFromE_0 a_t_leftFromE_1 a_t_leftFromE_2 a_t_leftFromE_3 a_t_leftFromE_4 a_t_leftFromE_5 a_t_leftFromE_6 a_t_leftFromE_7 a_t_leftFromE_8 a_t_leftFromE_9 a_t_leftFromE_10 a_t_leftFromE_11 a_t_leftFromE_12 a_t_leftFromE_13 a_t_leftFromE_14 a_t_leftFromE_15 a_t_leftFromE_16 a_t_leftFromE_17 a_t_leftFromE_18 a_t_leftFromE_19 a_t_leftFromE_20 a_t_leftFromE_21 a_t_leftFromE_22 a_t_leftFromE_23 a_t_leftFromE_24 a_t_leftFromE_25 a_t_leftFromE_26 a_t_leftFromE_27 a_t_leftFromE_28 a_t_leftFromE_29 g_t_0 g_t_1 g_t_2 g_t_3 g_t_6 c_sets c_cost c_leftFromE) L pc [.int (wI v)]) : GG E 0 0 (W_X7_bestAfter (eCy E) a_t a_t_leftFrom a_t_leftFromE_0 a_t_leftFromE_1 a_t_leftFromE_2 a_t_leftFromE_3 a_t_leftFromE_4 a_t_leftFromE_5 a_t_leftFromE_6 a_t_leftFromE_7 a_t_leftFromE_8 a_t_leftFromE_9 a_t_leftFromE_10 a_t_leftFromE_11 a_t_leftFromE_12 a_t_leftFromE_13 a_t_leftFromE_14 a_t_leftFromE_15 a_t_leftFromE_16 a_t_leftFromE_17 a_t_leftFromE_18 a_t_leftFromE_19 a_t_leftFromE_20 a_t_leftFromE_21 a_t_leftFromE_22 a_t_leftFromE_23 a_t_leftFromE_24 a_t_leftFromE_25 a_t_leftFromE_26 a_t_leftFromE_27 a_t_leftFromE_28 a_t_leftFromE_29 g_t_0 g_t_1 g_t_2 g_t_3 g_t_6 c_sets c_cost c_leftFromE) [some (.ref a_t), some (.int (wI x1)), some (.int (wI x2)), some (.int (wI x3)), some (.int (wI x4))] 5 [] := by
  unfold ml_X7_bestAfter_5 at h
  exact loop_walk (g := fun (q : Int × Int) => GG E 0 0 (W_X7_bestAfter (eCy E) a_t a_t_leftFrom a_t_leftFromE_0 a_t_leftFromE_1 a_t_leftFromE_2 a_t_leftFromE_3 a_t_leftFromE_4 a_t_leftFromE_5 a_t_leftFromE_6 a_t_leftFromE_7 a_t_leftFromE_8 a_t_leftFromE_9 a_t_leftFromE_10 a_t_leftFromE_11 a_t_leftFromE_12 a_t_leftFromE_13 a_t_leftFromE_14 a_t_leftFromE_15 a_t_leftFromE_16 a_t_leftFromE_17 a_t_leftFromE_18 a_t_leftFromE_19 a_t_leftFromE_20 a_t_leftFromE_21 a_t_leftFromE_22 a_t_leftFromE_23 a_t_leftFromE_24 a_t_leftFromE_25 a_t_leftFromE_26 a_t_leftFromE_27 a_t_leftFromE_28 a_t_leftFromE_29 g_t_0 g_t_1 g_t_2 g_t_3 g_t_6 c_sets c_cost c_leftFromE) [some (.ref a_t), some (.int (wI x1)), some (.int (wI x2)), some (.int (wI (q.1))), some (.int (wI (q.2)))] 5 []) (fun k hk q h => wb_X7_bestAfter_5 C hN h (fun y0 y1 hh => hk (y0, y1) hh) hret) F (x3, x4) h
set_option maxRecDepth 100000 in
set_option maxHeartbeats 4000000 in
theorem wm_X7_bestAfter {F : Nat} {v : Int} {x1 : Int} {x2 : Int} {c_sets : Int} {c_cost : Int} {c_leftFromE : Int → Int → Int} (C : Cx E cX7_bestAfter RX7 { frames := 2, cells := 0, slots := 0, locals := 43 }) (hN : eN E = 5) (h : m_X7_bestAfter F x1 x2 c_sets c_cost c_leftFromE = some v) (hret : ∀ (pc : Nat) (L : List (Option Value)), decode cX7_bestAfter pc = .ok (.ireturn, 1) → GG E 0 0 (W_X7_bestAfter (eCy E) a_t a_t_leftFrom a_t_leftFromE_0 a_t_leftFromE_1 a_t_leftFromE_2 a_t_leftFromE_3 a_t_leftFromE_4 a_t_leftFromE_5 a_t_leftFromE_6 a_t_leftFromE_7 a_t_leftFromE_8 a_t_leftFromE_9 a_t_leftFromE_10 a_t_leftFromE_11 a_t_leftFromE_12 a_t_leftFromE_13 a_t_leftFromE_14 a_t_leftFromE_15 a_t_leftFromE_16 a_t_leftFromE_17 a_t_leftFromE_18 a_t_leftFromE_19 a_t_leftFromE_20 a_t_leftFromE_21 a_t_leftFromE_22 a_t_leftFromE_23 a_t_leftFromE_24 a_t_leftFromE_25 a_t_leftFromE_26 a_t_leftFromE_27 a_t_leftFromE_28 a_t_leftFromE_29 g_t_0 g_t_1 g_t_2 g_t_3 g_t_6 c_sets c_cost c_leftFromE) L pc [.int (wI v)]) : GG E 0 0 (W_X7_bestAfter (eCy E) a_t a_t_leftFrom a_t_leftFromE_0 a_t_leftFromE_1 a_t_leftFromE_2 a_t_leftFromE_3 a_t_leftFromE_4 a_t_leftFromE_5 a_t_leftFromE_6 a_t_leftFromE_7 a_t_leftFromE_8 a_t_leftFromE_9 a_t_leftFromE_10 a_t_leftFromE_11 a_t_leftFromE_12 a_t_leftFromE_13 a_t_leftFromE_14 a_t_leftFromE_15 a_t_leftFromE_16 a_t_leftFromE_17 a_t_leftFromE_18 a_t_leftFromE_19 a_t_leftFromE_20 a_t_leftFromE_21 a_t_leftFromE_22 a_t_leftFromE_23 a_t_leftFromE_24 a_t_leftFromE_25 a_t_leftFromE_26 a_t_leftFromE_27 a_t_leftFromE_28 a_t_leftFromE_29 g_t_0 g_t_1 g_t_2 g_t_3 g_t_6 c_sets c_cost c_leftFromE) [some (.ref a_t), some (.int (wI x1)), some (.int (wI x2)), none, none] 0 [] := by
  unfold m_X7_bestAfter at h
  refine g_iconst C dX7_bestAfter_0 ?_
  refine g_istore_n 3 C hN dX7_bestAfter_1 rfl rfl (L' := [some (.ref a_t), some (.int (wI x1)), some (.int (wI x2)), some (.int (wI 0)), none]) rfl ?_
  refine g_iconst C dX7_bestAfter_2 ?_
  refine g_istore C hN dX7_bestAfter_3 rfl (L' := [some (.ref a_t), some (.int (wI x1)), some (.int (wI x2)), some (.int (wI 0)), some (.int (wI 1))]) rfl ?_
  exact wl_X7_bestAfter_5 C hN h hret
end S_X7_bestAfter
set_option maxRecDepth 100000 in
set_option maxHeartbeats 4000000 in
theorem c_X7_bestAfter (l : Launch) (D : va_G) (cy : Nat → ClassId) (ad : AD) (a_t a_t_leftFrom a_t_leftFromE_0 a_t_leftFromE_1 a_t_leftFromE_2 a_t_leftFromE_3 a_t_leftFromE_4 a_t_leftFromE_5 a_t_leftFromE_6 a_t_leftFromE_7 a_t_leftFromE_8 a_t_leftFromE_9 a_t_leftFromE_10 a_t_leftFromE_11 a_t_leftFromE_12 a_t_leftFromE_13 a_t_leftFromE_14 a_t_leftFromE_15 a_t_leftFromE_16 a_t_leftFromE_17 a_t_leftFromE_18 a_t_leftFromE_19 a_t_leftFromE_20 a_t_leftFromE_21 a_t_leftFromE_22 a_t_leftFromE_23 a_t_leftFromE_24 a_t_leftFromE_25 a_t_leftFromE_26 a_t_leftFromE_27 a_t_leftFromE_28 a_t_leftFromE_29 : Nat) (g_t_0 : Value) (g_t_1 : Value) (g_t_2 : Value) (g_t_3 : Value) (g_t_6 : Value) (x1 : Int) (x2 : Int) (c_sets : Int) (c_cost : Int) (c_leftFromE : Int → Int → Int) (F : Nat) {v : Int} (h : m_X7_bestAfter F x1 x2 c_sets c_cost c_leftFromE = some v) : Ct l yX7_bestAfter cX7_bestAfter 5 (some .int) { frames := 2, cells := 0, slots := 0, locals := 43 } D cy ad [.ref a_t, .int (wI x1), .int (wI x2)] (W_X7_bestAfter cy a_t a_t_leftFrom a_t_leftFromE_0 a_t_leftFromE_1 a_t_leftFromE_2 a_t_leftFromE_3 a_t_leftFromE_4 a_t_leftFromE_5 a_t_leftFromE_6 a_t_leftFromE_7 a_t_leftFromE_8 a_t_leftFromE_9 a_t_leftFromE_10 a_t_leftFromE_11 a_t_leftFromE_12 a_t_leftFromE_13 a_t_leftFromE_14 a_t_leftFromE_15 a_t_leftFromE_16 a_t_leftFromE_17 a_t_leftFromE_18 a_t_leftFromE_19 a_t_leftFromE_20 a_t_leftFromE_21 a_t_leftFromE_22 a_t_leftFromE_23 a_t_leftFromE_24 a_t_leftFromE_25 a_t_leftFromE_26 a_t_leftFromE_27 a_t_leftFromE_28 a_t_leftFromE_29 g_t_0 g_t_1 g_t_2 g_t_3 g_t_6 c_sets c_cost c_leftFromE) (W_X7_bestAfter cy a_t a_t_leftFrom a_t_leftFromE_0 a_t_leftFromE_1 a_t_leftFromE_2 a_t_leftFromE_3 a_t_leftFromE_4 a_t_leftFromE_5 a_t_leftFromE_6 a_t_leftFromE_7 a_t_leftFromE_8 a_t_leftFromE_9 a_t_leftFromE_10 a_t_leftFromE_11 a_t_leftFromE_12 a_t_leftFromE_13 a_t_leftFromE_14 a_t_leftFromE_15 a_t_leftFromE_16 a_t_leftFromE_17 a_t_leftFromE_18 a_t_leftFromE_19 a_t_leftFromE_20 a_t_leftFromE_21 a_t_leftFromE_22 a_t_leftFromE_23 a_t_leftFromE_24 a_t_leftFromE_25 a_t_leftFromE_26 a_t_leftFromE_27 a_t_leftFromE_28 a_t_leftFromE_29 g_t_0 g_t_1 g_t_2 g_t_3 g_t_6 c_sets c_cost c_leftFromE) (some (.int (wI v))) := by
  refine Ct.introI (j := 2) (plainFor_of_name (by decide)) rfl rfl (fun E C e1 e2 e3 e4 e5 hret => ?_)
  subst e1; subst e2; subst e3; subst e4
  exact wm_X7_bestAfter C e5 h hret
-- MovingStair$Turning.fillHour(III)V
def W_X7_fillHour (cy : Nat → ClassId) (a_t a_t_carriedBy a_t_leftFrom a_t_leftFromE_0 a_t_leftFromE_1 a_t_leftFromE_2 a_t_leftFromE_3 a_t_leftFromE_4 a_t_leftFromE_5 a_t_leftFromE_6 a_t_leftFromE_7 a_t_leftFromE_8 a_t_leftFromE_9 a_t_leftFromE_10 a_t_leftFromE_11 a_t_leftFromE_12 a_t_leftFromE_13 a_t_leftFromE_14 a_t_leftFromE_15 a_t_leftFromE_16 a_t_leftFromE_17 a_t_leftFromE_18 a_t_leftFromE_19 a_t_leftFromE_20 a_t_leftFromE_21 a_t_leftFromE_22 a_t_leftFromE_23 a_t_leftFromE_24 a_t_leftFromE_25 a_t_leftFromE_26 a_t_leftFromE_27 a_t_leftFromE_28 a_t_leftFromE_29 : Nat) (g_t_1 : Value) (g_t_2 : Value) (g_t_3 : Value) (c_hours : Int) (c_sets : Int) (c_cost : Int) (c_carriedBy : Int → Int) (c_leftFromE : Int → Int → Int) : va_W := [(a_t, .inr (7, [.int (wI c_hours), g_t_1, g_t_2, g_t_3, .int (wI c_sets), .int (wI c_cost), .ref a_t_carriedBy, .ref a_t_leftFrom])), (a_t_carriedBy, .inl (cy 1, 16, .inl (aI c_carriedBy))), (a_t_leftFrom, .inl (cy 6, 30, .inr (.inr (.inr (.inr (selO [a_t_leftFromE_0, a_t_leftFromE_1, a_t_leftFromE_2, a_t_leftFromE_3, a_t_leftFromE_4, a_t_leftFromE_5, a_t_leftFromE_6, a_t_leftFromE_7, a_t_leftFromE_8, a_t_leftFromE_9, a_t_leftFromE_10, a_t_leftFromE_11, a_t_leftFromE_12, a_t_leftFromE_13, a_t_leftFromE_14, a_t_leftFromE_15, a_t_leftFromE_16, a_t_leftFromE_17, a_t_leftFromE_18, a_t_leftFromE_19, a_t_leftFromE_20, a_t_leftFromE_21, a_t_leftFromE_22, a_t_leftFromE_23, a_t_leftFromE_24, a_t_leftFromE_25, a_t_leftFromE_26, a_t_leftFromE_27, a_t_leftFromE_28, a_t_leftFromE_29])))))), (a_t_leftFromE_0, .inl (cy 1, 16, .inl (aI (c_leftFromE 0)))), (a_t_leftFromE_1, .inl (cy 1, 16, .inl (aI (c_leftFromE 1)))), (a_t_leftFromE_2, .inl (cy 1, 16, .inl (aI (c_leftFromE 2)))), (a_t_leftFromE_3, .inl (cy 1, 16, .inl (aI (c_leftFromE 3)))), (a_t_leftFromE_4, .inl (cy 1, 16, .inl (aI (c_leftFromE 4)))), (a_t_leftFromE_5, .inl (cy 1, 16, .inl (aI (c_leftFromE 5)))), (a_t_leftFromE_6, .inl (cy 1, 16, .inl (aI (c_leftFromE 6)))), (a_t_leftFromE_7, .inl (cy 1, 16, .inl (aI (c_leftFromE 7)))), (a_t_leftFromE_8, .inl (cy 1, 16, .inl (aI (c_leftFromE 8)))), (a_t_leftFromE_9, .inl (cy 1, 16, .inl (aI (c_leftFromE 9)))), (a_t_leftFromE_10, .inl (cy 1, 16, .inl (aI (c_leftFromE 10)))), (a_t_leftFromE_11, .inl (cy 1, 16, .inl (aI (c_leftFromE 11)))), (a_t_leftFromE_12, .inl (cy 1, 16, .inl (aI (c_leftFromE 12)))), (a_t_leftFromE_13, .inl (cy 1, 16, .inl (aI (c_leftFromE 13)))), (a_t_leftFromE_14, .inl (cy 1, 16, .inl (aI (c_leftFromE 14)))), (a_t_leftFromE_15, .inl (cy 1, 16, .inl (aI (c_leftFromE 15)))), (a_t_leftFromE_16, .inl (cy 1, 16, .inl (aI (c_leftFromE 16)))), (a_t_leftFromE_17, .inl (cy 1, 16, .inl (aI (c_leftFromE 17)))), (a_t_leftFromE_18, .inl (cy 1, 16, .inl (aI (c_leftFromE 18)))), (a_t_leftFromE_19, .inl (cy 1, 16, .inl (aI (c_leftFromE 19)))), (a_t_leftFromE_20, .inl (cy 1, 16, .inl (aI (c_leftFromE 20)))), (a_t_leftFromE_21, .inl (cy 1, 16, .inl (aI (c_leftFromE 21)))), (a_t_leftFromE_22, .inl (cy 1, 16, .inl (aI (c_leftFromE 22)))), (a_t_leftFromE_23, .inl (cy 1, 16, .inl (aI (c_leftFromE 23)))), (a_t_leftFromE_24, .inl (cy 1, 16, .inl (aI (c_leftFromE 24)))), (a_t_leftFromE_25, .inl (cy 1, 16, .inl (aI (c_leftFromE 25)))), (a_t_leftFromE_26, .inl (cy 1, 16, .inl (aI (c_leftFromE 26)))), (a_t_leftFromE_27, .inl (cy 1, 16, .inl (aI (c_leftFromE 27)))), (a_t_leftFromE_28, .inl (cy 1, 16, .inl (aI (c_leftFromE 28)))), (a_t_leftFromE_29, .inl (cy 1, 16, .inl (aI (c_leftFromE 29))))]
def mb_X7_fillHour_85 (F : Nat) (k3 : Int → (Int → Int → Int) → Option ((Int → Int → Int))) (x1 : Int) (x2 : Int) (x3 : Int) (x4 : Int) (x5 : Int) (c_hours : Int) (c_sets : Int) (c_cost : Int) (c_carriedBy : Int → Int) (c_leftFromE : Int → Int → Int) : Option ((Int → Int → Int)) :=
  chk (0 ≤ x1 ∧ x1 < 30) <| chk (0 ≤ x4 ∧ x4 < 16) <| k3 (x4 + 1) (up c_leftFromE x1 (up (c_leftFromE x1) x4 x5))
def mb_X7_fillHour_3 (F : Nat) (k3 : Int → (Int → Int → Int) → Option ((Int → Int → Int))) (x1 : Int) (x2 : Int) (x3 : Int) (x4 : Int) (c_hours : Int) (c_sets : Int) (c_cost : Int) (c_carriedBy : Int → Int) (c_leftFromE : Int → Int → Int) : Option ((Int → Int → Int)) :=
  if wI c_sets ≤ wI x4 then
    (some c_leftFromE)
  else
    (chk (0 ≤ x4 ∧ x4 < 16) <| bnd1 (m_J9_max_7cf53 F 0 (x2 - (c_carriedBy x4))) fun r2 => chk (0 ≤ ((c_sets - 1) - x4) ∧ ((c_sets - 1) - x4) < 16) <| bnd1 (m_J9_max_7cf53 F 0 (x3 - (c_carriedBy ((c_sets - 1) - x4)))) fun r5 => nam (r2 + r5) fun y7 => if wI c_hours ≤ wI (x1 + 1) then
    (mb_X7_fillHour_85 F k3 x1 x2 x3 x4 y7 c_hours c_sets c_cost c_carriedBy c_leftFromE)
  else
    (bnd1 (m_X7_bestAfter F (x1 + 1) x4 c_sets c_cost c_leftFromE) fun r8 => bnd1 (m_X7_priceOf F (x1 + 1) x4 r8 c_cost c_leftFromE) fun r10 => nam (y7 + r10) fun y12 => mb_X7_fillHour_85 F k3 x1 x2 x3 x4 y12 c_hours c_sets c_cost c_carriedBy c_leftFromE))
def ml_X7_fillHour_3 (F : Nat) (x1 : Int) (x2 : Int) (x3 : Int) (x4 : Int) (c_hours : Int) (c_sets : Int) (c_cost : Int) (c_carriedBy : Int → Int) (c_leftFromE : Int → Int → Int) : Option ((Int → Int → Int)) :=
  loopN (fun (k : Int × (Int → Int → Int) → Option ((Int → Int → Int))) q => mb_X7_fillHour_3 F (fun y0 y1 => k (y0, y1)) x1 x2 x3 q.1 c_hours c_sets c_cost c_carriedBy q.2) F (x4, c_leftFromE)
def m_X7_fillHour (F : Nat) (x1 : Int) (x2 : Int) (x3 : Int) (c_hours : Int) (c_sets : Int) (c_cost : Int) (c_carriedBy : Int → Int) (c_leftFromE : Int → Int → Int) : Option ((Int → Int → Int)) :=
  ml_X7_fillHour_3 F x1 x2 x3 0 c_hours c_sets c_cost c_carriedBy c_leftFromE
section S_X7_fillHour
variable {E : EE} {a_t a_t_carriedBy a_t_leftFrom a_t_leftFromE_0 a_t_leftFromE_1 a_t_leftFromE_2 a_t_leftFromE_3 a_t_leftFromE_4 a_t_leftFromE_5 a_t_leftFromE_6 a_t_leftFromE_7 a_t_leftFromE_8 a_t_leftFromE_9 a_t_leftFromE_10 a_t_leftFromE_11 a_t_leftFromE_12 a_t_leftFromE_13 a_t_leftFromE_14 a_t_leftFromE_15 a_t_leftFromE_16 a_t_leftFromE_17 a_t_leftFromE_18 a_t_leftFromE_19 a_t_leftFromE_20 a_t_leftFromE_21 a_t_leftFromE_22 a_t_leftFromE_23 a_t_leftFromE_24 a_t_leftFromE_25 a_t_leftFromE_26 a_t_leftFromE_27 a_t_leftFromE_28 a_t_leftFromE_29 : Nat} {g_t_1 : Value} {g_t_2 : Value} {g_t_3 : Value}
set_option maxRecDepth 100000 in
set_option maxHeartbeats 4000000 in
theorem wb_X7_fillHour_85 {F : Nat} {k3 : Int → (Int → Int → Int) → Option ((Int → Int → Int))} {v : (Int → Int → Int)} {x1 : Int} {x2 : Int} {x3 : Int} {x4 : Int} {x5 : Int} {c_hours : Int} {c_sets : Int} {c_cost : Int} {c_carriedBy : Int → Int} {c_leftFromE : Int → Int → Int} (C : Cx E cX7_fillHour RX7 { frames := 3, cells := 0, slots := 0, locals := 67 }) (hN : eN E = 7) (h : mb_X7_fillHour_85 F k3 x1 x2 x3 x4 x5 c_hours c_sets c_cost c_carriedBy c_leftFromE = some v) (hk3 : ∀ (y_x4 : Int) (y_c_leftFromE : Int → Int → Int), k3 y_x4 y_c_leftFromE = some v → GG E 0 0 (W_X7_fillHour (eCy E) a_t a_t_carriedBy a_t_leftFrom a_t_leftFromE_0 a_t_leftFromE_1 a_t_leftFromE_2 a_t_leftFromE_3 a_t_leftFromE_4 a_t_leftFromE_5 a_t_leftFromE_6 a_t_leftFromE_7 a_t_leftFromE_8 a_t_leftFromE_9 a_t_leftFromE_10 a_t_leftFromE_11 a_t_leftFromE_12 a_t_leftFromE_13 a_t_leftFromE_14 a_t_leftFromE_15 a_t_leftFromE_16 a_t_leftFromE_17 a_t_leftFromE_18 a_t_leftFromE_19 a_t_leftFromE_20 a_t_leftFromE_21 a_t_leftFromE_22 a_t_leftFromE_23 a_t_leftFromE_24 a_t_leftFromE_25 a_t_leftFromE_26 a_t_leftFromE_27 a_t_leftFromE_28 a_t_leftFromE_29 g_t_1 g_t_2 g_t_3 c_hours c_sets c_cost c_carriedBy y_c_leftFromE) [some (.ref a_t), some (.int (wI x1)), some (.int (wI x2)), some (.int (wI x3)), some (.int (wI y_x4)), none, none] 3 []) (hret : ∀ (pc : Nat) (L : List (Option Value)), decode cX7_fillHour pc = .ok (.return_, 1) → GG E 0 0 (W_X7_fillHour (eCy E) a_t a_t_carriedBy a_t_leftFrom a_t_leftFromE_0 a_t_leftFromE_1 a_t_leftFromE_2 a_t_leftFromE_3 a_t_leftFromE_4 a_t_leftFromE_5 a_t_leftFromE_6 a_t_leftFromE_7 a_t_leftFromE_8 a_t_leftFromE_9 a_t_leftFromE_10 a_t_leftFromE_11 a_t_leftFromE_12 a_t_leftFromE_13 a_t_leftFromE_14 a_t_leftFromE_15 a_t_leftFromE_16 a_t_leftFromE_17 a_t_leftFromE_18 a_t_leftFromE_19 a_t_leftFromE_20 a_t_leftFromE_21 a_t_leftFromE_22 a_t_leftFromE_23 a_t_leftFromE_24 a_t_leftFromE_25 a_t_leftFromE_26 a_t_leftFromE_27 a_t_leftFromE_28 a_t_leftFromE_29 g_t_1 g_t_2 g_t_3 c_hours c_sets c_cost c_carriedBy v) L pc []) : GG E 0 0 (W_X7_fillHour (eCy E) a_t a_t_carriedBy a_t_leftFrom a_t_leftFromE_0 a_t_leftFromE_1 a_t_leftFromE_2 a_t_leftFromE_3 a_t_leftFromE_4 a_t_leftFromE_5 a_t_leftFromE_6 a_t_leftFromE_7 a_t_leftFromE_8 a_t_leftFromE_9 a_t_leftFromE_10 a_t_leftFromE_11 a_t_leftFromE_12 a_t_leftFromE_13 a_t_leftFromE_14 a_t_leftFromE_15 a_t_leftFromE_16 a_t_leftFromE_17 a_t_leftFromE_18 a_t_leftFromE_19 a_t_leftFromE_20 a_t_leftFromE_21 a_t_leftFromE_22 a_t_leftFromE_23 a_t_leftFromE_24 a_t_leftFromE_25 a_t_leftFromE_26 a_t_leftFromE_27 a_t_leftFromE_28 a_t_leftFromE_29 g_t_1 g_t_2 g_t_3 c_hours c_sets c_cost c_carriedBy c_leftFromE) [some (.ref a_t), some (.int (wI x1)), some (.int (wI x2)), some (.int (wI x3)), some (.int (wI x4)), some (.int (wI x5)), none] 85 [] := by
  unfold mb_X7_fillHour_85 at h
  refine g_aload_n 0 C dX7_fillHour_85 rfl rfl ?_
  refine g_get C fg_X7_36 0 rfl rfl dX7_fillHour_86 ?_
  refine g_iload_n 1 C dX7_fillHour_89 rfl rfl ?_
  obtain ⟨hc1, h⟩ := chk_some h
  obtain rfl | rfl | rfl | rfl | rfl | rfl | rfl | rfl | rfl | rfl | rfl | rfl | rfl | rfl | rfl | rfl | rfl | rfl | rfl | rfl | rfl | rfl | rfl | rfl | rfl | rfl | rfl | rfl | rfl | rfl : x1 = 0 ∨ x1 = 1 ∨ x1 = 2 ∨ x1 = 3 ∨ x1 = 4 ∨ x1 = 5 ∨ x1 = 6 ∨ x1 = 7 ∨ x1 = 8 ∨ x1 = 9 ∨ x1 = 10 ∨ x1 = 11 ∨ x1 = 12 ∨ x1 = 13 ∨ x1 = 14 ∨ x1 = 15 ∨ x1 = 16 ∨ x1 = 17 ∨ x1 = 18 ∨ x1 = 19 ∨ x1 = 20 ∨ x1 = 21 ∨ x1 = 22 ∨ x1 = 23 ∨ x1 = 24 ∨ x1 = 25 ∨ x1 = 26 ∨ x1 = 27 ∨ x1 = 28 ∨ x1 = 29 := by omega
  · refine g_aaldR C 2 rfl (by decide) rfl dX7_fillHour_90 ?_
    refine g_iload C dX7_fillHour_91 rfl ?_
    refine g_iload C dX7_fillHour_93 rfl ?_
    obtain ⟨hc2, h⟩ := chk_some h
    refine g_iast C 3 rfl hc2 rfl (ws' := (W_X7_fillHour (eCy E) a_t a_t_carriedBy a_t_leftFrom a_t_leftFromE_0 a_t_leftFromE_1 a_t_leftFromE_2 a_t_leftFromE_3 a_t_leftFromE_4 a_t_leftFromE_5 a_t_leftFromE_6 a_t_leftFromE_7 a_t_leftFromE_8 a_t_leftFromE_9 a_t_leftFromE_10 a_t_leftFromE_11 a_t_leftFromE_12 a_t_leftFromE_13 a_t_leftFromE_14 a_t_leftFromE_15 a_t_leftFromE_16 a_t_leftFromE_17 a_t_leftFromE_18 a_t_leftFromE_19 a_t_leftFromE_20 a_t_leftFromE_21 a_t_leftFromE_22 a_t_leftFromE_23 a_t_leftFromE_24 a_t_leftFromE_25 a_t_leftFromE_26 a_t_leftFromE_27 a_t_leftFromE_28 a_t_leftFromE_29 g_t_1 g_t_2 g_t_3 c_hours c_sets c_cost c_carriedBy (up c_leftFromE (0) (up (c_leftFromE (0)) x4 x5)))) rfl dX7_fillHour_95 ?_
    refine g_iinc C hN dX7_fillHour_96 rfl rfl (L' := [some (.ref a_t), some (.int (wI (0))), some (.int (wI x2)), some (.int (wI x3)), some (.int (wI (x4 + 1))), some (.int (wI x5)), none]) rfl ?_
    refine g_goto (tgt := 3) C dX7_fillHour_99 (by decide) ?_
    refine g_mask [true, true, true, true, true, false, false] (L' := [some (.ref a_t), some (.int (wI (0))), some (.int (wI x2)), some (.int (wI x3)), some (.int (wI (x4 + 1))), none, none]) rfl ?_
    exact hk3 _ _ h
  · refine g_aaldR C 2 rfl (by decide) rfl dX7_fillHour_90 ?_
    refine g_iload C dX7_fillHour_91 rfl ?_
    refine g_iload C dX7_fillHour_93 rfl ?_
    obtain ⟨hc2, h⟩ := chk_some h
    refine g_iast C 4 rfl hc2 rfl (ws' := (W_X7_fillHour (eCy E) a_t a_t_carriedBy a_t_leftFrom a_t_leftFromE_0 a_t_leftFromE_1 a_t_leftFromE_2 a_t_leftFromE_3 a_t_leftFromE_4 a_t_leftFromE_5 a_t_leftFromE_6 a_t_leftFromE_7 a_t_leftFromE_8 a_t_leftFromE_9 a_t_leftFromE_10 a_t_leftFromE_11 a_t_leftFromE_12 a_t_leftFromE_13 a_t_leftFromE_14 a_t_leftFromE_15 a_t_leftFromE_16 a_t_leftFromE_17 a_t_leftFromE_18 a_t_leftFromE_19 a_t_leftFromE_20 a_t_leftFromE_21 a_t_leftFromE_22 a_t_leftFromE_23 a_t_leftFromE_24 a_t_leftFromE_25 a_t_leftFromE_26 a_t_leftFromE_27 a_t_leftFromE_28 a_t_leftFromE_29 g_t_1 g_t_2 g_t_3 c_hours c_sets c_cost c_carriedBy (up c_leftFromE (1) (up (c_leftFromE (1)) x4 x5)))) rfl dX7_fillHour_95 ?_
    refine g_iinc C hN dX7_fillHour_96 rfl rfl (L' := [some (.ref a_t), some (.int (wI (1))), some (.int (wI x2)), some (.int (wI x3)), some (.int (wI (x4 + 1))), some (.int (wI x5)), none]) rfl ?_
    refine g_goto (tgt := 3) C dX7_fillHour_99 (by decide) ?_
    refine g_mask [true, true, true, true, true, false, false] (L' := [some (.ref a_t), some (.int (wI (1))), some (.int (wI x2)), some (.int (wI x3)), some (.int (wI (x4 + 1))), none, none]) rfl ?_
    exact hk3 _ _ h
  · refine g_aaldR C 2 rfl (by decide) rfl dX7_fillHour_90 ?_
    refine g_iload C dX7_fillHour_91 rfl ?_
    refine g_iload C dX7_fillHour_93 rfl ?_
    obtain ⟨hc2, h⟩ := chk_some h
    refine g_iast C 5 rfl hc2 rfl (ws' := (W_X7_fillHour (eCy E) a_t a_t_carriedBy a_t_leftFrom a_t_leftFromE_0 a_t_leftFromE_1 a_t_leftFromE_2 a_t_leftFromE_3 a_t_leftFromE_4 a_t_leftFromE_5 a_t_leftFromE_6 a_t_leftFromE_7 a_t_leftFromE_8 a_t_leftFromE_9 a_t_leftFromE_10 a_t_leftFromE_11 a_t_leftFromE_12 a_t_leftFromE_13 a_t_leftFromE_14 a_t_leftFromE_15 a_t_leftFromE_16 a_t_leftFromE_17 a_t_leftFromE_18 a_t_leftFromE_19 a_t_leftFromE_20 a_t_leftFromE_21 a_t_leftFromE_22 a_t_leftFromE_23 a_t_leftFromE_24 a_t_leftFromE_25 a_t_leftFromE_26 a_t_leftFromE_27 a_t_leftFromE_28 a_t_leftFromE_29 g_t_1 g_t_2 g_t_3 c_hours c_sets c_cost c_carriedBy (up c_leftFromE (2) (up (c_leftFromE (2)) x4 x5)))) rfl dX7_fillHour_95 ?_
    refine g_iinc C hN dX7_fillHour_96 rfl rfl (L' := [some (.ref a_t), some (.int (wI (2))), some (.int (wI x2)), some (.int (wI x3)), some (.int (wI (x4 + 1))), some (.int (wI x5)), none]) rfl ?_
    refine g_goto (tgt := 3) C dX7_fillHour_99 (by decide) ?_
    refine g_mask [true, true, true, true, true, false, false] (L' := [some (.ref a_t), some (.int (wI (2))), some (.int (wI x2)), some (.int (wI x3)), some (.int (wI (x4 + 1))), none, none]) rfl ?_
    exact hk3 _ _ h
  · refine g_aaldR C 2 rfl (by decide) rfl dX7_fillHour_90 ?_
    refine g_iload C dX7_fillHour_91 rfl ?_
    refine g_iload C dX7_fillHour_93 rfl ?_
    obtain ⟨hc2, h⟩ := chk_some h
    refine g_iast C 6 rfl hc2 rfl (ws' := (W_X7_fillHour (eCy E) a_t a_t_carriedBy a_t_leftFrom a_t_leftFromE_0 a_t_leftFromE_1 a_t_leftFromE_2 a_t_leftFromE_3 a_t_leftFromE_4 a_t_leftFromE_5 a_t_leftFromE_6 a_t_leftFromE_7 a_t_leftFromE_8 a_t_leftFromE_9 a_t_leftFromE_10 a_t_leftFromE_11 a_t_leftFromE_12 a_t_leftFromE_13 a_t_leftFromE_14 a_t_leftFromE_15 a_t_leftFromE_16 a_t_leftFromE_17 a_t_leftFromE_18 a_t_leftFromE_19 a_t_leftFromE_20 a_t_leftFromE_21 a_t_leftFromE_22 a_t_leftFromE_23 a_t_leftFromE_24 a_t_leftFromE_25 a_t_leftFromE_26 a_t_leftFromE_27 a_t_leftFromE_28 a_t_leftFromE_29 g_t_1 g_t_2 g_t_3 c_hours c_sets c_cost c_carriedBy (up c_leftFromE (3) (up (c_leftFromE (3)) x4 x5)))) rfl dX7_fillHour_95 ?_
    refine g_iinc C hN dX7_fillHour_96 rfl rfl (L' := [some (.ref a_t), some (.int (wI (3))), some (.int (wI x2)), some (.int (wI x3)), some (.int (wI (x4 + 1))), some (.int (wI x5)), none]) rfl ?_
    refine g_goto (tgt := 3) C dX7_fillHour_99 (by decide) ?_
    refine g_mask [true, true, true, true, true, false, false] (L' := [some (.ref a_t), some (.int (wI (3))), some (.int (wI x2)), some (.int (wI x3)), some (.int (wI (x4 + 1))), none, none]) rfl ?_
    exact hk3 _ _ h
  · refine g_aaldR C 2 rfl (by decide) rfl dX7_fillHour_90 ?_
    refine g_iload C dX7_fillHour_91 rfl ?_
    refine g_iload C dX7_fillHour_93 rfl ?_
    obtain ⟨hc2, h⟩ := chk_some h
    refine g_iast C 7 rfl hc2 rfl (ws' := (W_X7_fillHour (eCy E) a_t a_t_carriedBy a_t_leftFrom a_t_leftFromE_0 a_t_leftFromE_1 a_t_leftFromE_2 a_t_leftFromE_3 a_t_leftFromE_4 a_t_leftFromE_5 a_t_leftFromE_6 a_t_leftFromE_7 a_t_leftFromE_8 a_t_leftFromE_9 a_t_leftFromE_10 a_t_leftFromE_11 a_t_leftFromE_12 a_t_leftFromE_13 a_t_leftFromE_14 a_t_leftFromE_15 a_t_leftFromE_16 a_t_leftFromE_17 a_t_leftFromE_18 a_t_leftFromE_19 a_t_leftFromE_20 a_t_leftFromE_21 a_t_leftFromE_22 a_t_leftFromE_23 a_t_leftFromE_24 a_t_leftFromE_25 a_t_leftFromE_26 a_t_leftFromE_27 a_t_leftFromE_28 a_t_leftFromE_29 g_t_1 g_t_2 g_t_3 c_hours c_sets c_cost c_carriedBy (up c_leftFromE (4) (up (c_leftFromE (4)) x4 x5)))) rfl dX7_fillHour_95 ?_
    refine g_iinc C hN dX7_fillHour_96 rfl rfl (L' := [some (.ref a_t), some (.int (wI (4))), some (.int (wI x2)), some (.int (wI x3)), some (.int (wI (x4 + 1))), some (.int (wI x5)), none]) rfl ?_
    refine g_goto (tgt := 3) C dX7_fillHour_99 (by decide) ?_
    refine g_mask [true, true, true, true, true, false, false] (L' := [some (.ref a_t), some (.int (wI (4))), some (.int (wI x2)), some (.int (wI x3)), some (.int (wI (x4 + 1))), none, none]) rfl ?_
    exact hk3 _ _ h
  · refine g_aaldR C 2 rfl (by decide) rfl dX7_fillHour_90 ?_
    refine g_iload C dX7_fillHour_91 rfl ?_
    refine g_iload C dX7_fillHour_93 rfl ?_
    obtain ⟨hc2, h⟩ := chk_some h
    refine g_iast C 8 rfl hc2 rfl (ws' := (W_X7_fillHour (eCy E) a_t a_t_carriedBy a_t_leftFrom a_t_leftFromE_0 a_t_leftFromE_1 a_t_leftFromE_2 a_t_leftFromE_3 a_t_leftFromE_4 a_t_leftFromE_5 a_t_leftFromE_6 a_t_leftFromE_7 a_t_leftFromE_8 a_t_leftFromE_9 a_t_leftFromE_10 a_t_leftFromE_11 a_t_leftFromE_12 a_t_leftFromE_13 a_t_leftFromE_14 a_t_leftFromE_15 a_t_leftFromE_16 a_t_leftFromE_17 a_t_leftFromE_18 a_t_leftFromE_19 a_t_leftFromE_20 a_t_leftFromE_21 a_t_leftFromE_22 a_t_leftFromE_23 a_t_leftFromE_24 a_t_leftFromE_25 a_t_leftFromE_26 a_t_leftFromE_27 a_t_leftFromE_28 a_t_leftFromE_29 g_t_1 g_t_2 g_t_3 c_hours c_sets c_cost c_carriedBy (up c_leftFromE (5) (up (c_leftFromE (5)) x4 x5)))) rfl dX7_fillHour_95 ?_
    refine g_iinc C hN dX7_fillHour_96 rfl rfl (L' := [some (.ref a_t), some (.int (wI (5))), some (.int (wI x2)), some (.int (wI x3)), some (.int (wI (x4 + 1))), some (.int (wI x5)), none]) rfl ?_
    refine g_goto (tgt := 3) C dX7_fillHour_99 (by decide) ?_
    refine g_mask [true, true, true, true, true, false, false] (L' := [some (.ref a_t), some (.int (wI (5))), some (.int (wI x2)), some (.int (wI x3)), some (.int (wI (x4 + 1))), none, none]) rfl ?_
    exact hk3 _ _ h
  · refine g_aaldR C 2 rfl (by decide) rfl dX7_fillHour_90 ?_
    refine g_iload C dX7_fillHour_91 rfl ?_
    refine g_iload C dX7_fillHour_93 rfl ?_
    obtain ⟨hc2, h⟩ := chk_some h
    refine g_iast C 9 rfl hc2 rfl (ws' := (W_X7_fillHour (eCy E) a_t a_t_carriedBy a_t_leftFrom a_t_leftFromE_0 a_t_leftFromE_1 a_t_leftFromE_2 a_t_leftFromE_3 a_t_leftFromE_4 a_t_leftFromE_5 a_t_leftFromE_6 a_t_leftFromE_7 a_t_leftFromE_8 a_t_leftFromE_9 a_t_leftFromE_10 a_t_leftFromE_11 a_t_leftFromE_12 a_t_leftFromE_13 a_t_leftFromE_14 a_t_leftFromE_15 a_t_leftFromE_16 a_t_leftFromE_17 a_t_leftFromE_18 a_t_leftFromE_19 a_t_leftFromE_20 a_t_leftFromE_21 a_t_leftFromE_22 a_t_leftFromE_23 a_t_leftFromE_24 a_t_leftFromE_25 a_t_leftFromE_26 a_t_leftFromE_27 a_t_leftFromE_28 a_t_leftFromE_29 g_t_1 g_t_2 g_t_3 c_hours c_sets c_cost c_carriedBy (up c_leftFromE (6) (up (c_leftFromE (6)) x4 x5)))) rfl dX7_fillHour_95 ?_
    refine g_iinc C hN dX7_fillHour_96 rfl rfl (L' := [some (.ref a_t), some (.int (wI (6))), some (.int (wI x2)), some (.int (wI x3)), some (.int (wI (x4 + 1))), some (.int (wI x5)), none]) rfl ?_
    refine g_goto (tgt := 3) C dX7_fillHour_99 (by decide) ?_
    refine g_mask [true, true, true, true, true, false, false] (L' := [some (.ref a_t), some (.int (wI (6))), some (.int (wI x2)), some (.int (wI x3)), some (.int (wI (x4 + 1))), none, none]) rfl ?_
    exact hk3 _ _ h
  · refine g_aaldR C 2 rfl (by decide) rfl dX7_fillHour_90 ?_
    refine g_iload C dX7_fillHour_91 rfl ?_
    refine g_iload C dX7_fillHour_93 rfl ?_
    obtain ⟨hc2, h⟩ := chk_some h
    refine g_iast C 10 rfl hc2 rfl (ws' := (W_X7_fillHour (eCy E) a_t a_t_carriedBy a_t_leftFrom a_t_leftFromE_0 a_t_leftFromE_1 a_t_leftFromE_2 a_t_leftFromE_3 a_t_leftFromE_4 a_t_leftFromE_5 a_t_leftFromE_6 a_t_leftFromE_7 a_t_leftFromE_8 a_t_leftFromE_9 a_t_leftFromE_10 a_t_leftFromE_11 a_t_leftFromE_12 a_t_leftFromE_13 a_t_leftFromE_14 a_t_leftFromE_15 a_t_leftFromE_16 a_t_leftFromE_17 a_t_leftFromE_18 a_t_leftFromE_19 a_t_leftFromE_20 a_t_leftFromE_21 a_t_leftFromE_22 a_t_leftFromE_23 a_t_leftFromE_24 a_t_leftFromE_25 a_t_leftFromE_26 a_t_leftFromE_27 a_t_leftFromE_28 a_t_leftFromE_29 g_t_1 g_t_2 g_t_3 c_hours c_sets c_cost c_carriedBy (up c_leftFromE (7) (up (c_leftFromE (7)) x4 x5)))) rfl dX7_fillHour_95 ?_
    refine g_iinc C hN dX7_fillHour_96 rfl rfl (L' := [some (.ref a_t), some (.int (wI (7))), some (.int (wI x2)), some (.int (wI x3)), some (.int (wI (x4 + 1))), some (.int (wI x5)), none]) rfl ?_
    refine g_goto (tgt := 3) C dX7_fillHour_99 (by decide) ?_
    refine g_mask [true, true, true, true, true, false, false] (L' := [some (.ref a_t), some (.int (wI (7))), some (.int (wI x2)), some (.int (wI x3)), some (.int (wI (x4 + 1))), none, none]) rfl ?_
    exact hk3 _ _ h
  · refine g_aaldR C 2 rfl (by decide) rfl dX7_fillHour_90 ?_
    refine g_iload C dX7_fillHour_91 rfl ?_
    refine g_iload C dX7_fillHour_93 rfl ?_
    obtain ⟨hc2, h⟩ := chk_some h
    refine g_iast C 11 rfl hc2 rfl (ws' := (W_X7_fillHour (eCy E) a_t a_t_carriedBy a_t_leftFrom a_t_leftFromE_0 a_t_leftFromE_1 a_t_leftFromE_2 a_t_leftFromE_3 a_t_leftFromE_4 a_t_leftFromE_5 a_t_leftFromE_6 a_t_leftFromE_7 a_t_leftFromE_8 a_t_leftFromE_9 a_t_leftFromE_10 a_t_leftFromE_11 a_t_leftFromE_12 a_t_leftFromE_13 a_t_leftFromE_14 a_t_leftFromE_15 a_t_leftFromE_16 a_t_leftFromE_17 a_t_leftFromE_18 a_t_leftFromE_19 a_t_leftFromE_20 a_t_leftFromE_21 a_t_leftFromE_22 a_t_leftFromE_23 a_t_leftFromE_24 a_t_leftFromE_25 a_t_leftFromE_26 a_t_leftFromE_27 a_t_leftFromE_28 a_t_leftFromE_29 g_t_1 g_t_2 g_t_3 c_hours c_sets c_cost c_carriedBy (up c_leftFromE (8) (up (c_leftFromE (8)) x4 x5)))) rfl dX7_fillHour_95 ?_
    refine g_iinc C hN dX7_fillHour_96 rfl rfl (L' := [some (.ref a_t), some (.int (wI (8))), some (.int (wI x2)), some (.int (wI x3)), some (.int (wI (x4 + 1))), some (.int (wI x5)), none]) rfl ?_
    refine g_goto (tgt := 3) C dX7_fillHour_99 (by decide) ?_
    refine g_mask [true, true, true, true, true, false, false] (L' := [some (.ref a_t), some (.int (wI (8))), some (.int (wI x2)), some (.int (wI x3)), some (.int (wI (x4 + 1))), none, none]) rfl ?_
    exact hk3 _ _ h
  · refine g_aaldR C 2 rfl (by decide) rfl dX7_fillHour_90 ?_
    refine g_iload C dX7_fillHour_91 rfl ?_
    refine g_iload C dX7_fillHour_93 rfl ?_
    obtain ⟨hc2, h⟩ := chk_some h
    refine g_iast C 12 rfl hc2 rfl (ws' := (W_X7_fillHour (eCy E) a_t a_t_carriedBy a_t_leftFrom a_t_leftFromE_0 a_t_leftFromE_1 a_t_leftFromE_2 a_t_leftFromE_3 a_t_leftFromE_4 a_t_leftFromE_5 a_t_leftFromE_6 a_t_leftFromE_7 a_t_leftFromE_8 a_t_leftFromE_9 a_t_leftFromE_10 a_t_leftFromE_11 a_t_leftFromE_12 a_t_leftFromE_13 a_t_leftFromE_14 a_t_leftFromE_15 a_t_leftFromE_16 a_t_leftFromE_17 a_t_leftFromE_18 a_t_leftFromE_19 a_t_leftFromE_20 a_t_leftFromE_21 a_t_leftFromE_22 a_t_leftFromE_23 a_t_leftFromE_24 a_t_leftFromE_25 a_t_leftFromE_26 a_t_leftFromE_27 a_t_leftFromE_28 a_t_leftFromE_29 g_t_1 g_t_2 g_t_3 c_hours c_sets c_cost c_carriedBy (up c_leftFromE (9) (up (c_leftFromE (9)) x4 x5)))) rfl dX7_fillHour_95 ?_
    refine g_iinc C hN dX7_fillHour_96 rfl rfl (L' := [some (.ref a_t), some (.int (wI (9))), some (.int (wI x2)), some (.int (wI x3)), some (.int (wI (x4 + 1))), some (.int (wI x5)), none]) rfl ?_
    refine g_goto (tgt := 3) C dX7_fillHour_99 (by decide) ?_
    refine g_mask [true, true, true, true, true, false, false] (L' := [some (.ref a_t), some (.int (wI (9))), some (.int (wI x2)), some (.int (wI x3)), some (.int (wI (x4 + 1))), none, none]) rfl ?_
    exact hk3 _ _ h
  · refine g_aaldR C 2 rfl (by decide) rfl dX7_fillHour_90 ?_
    refine g_iload C dX7_fillHour_91 rfl ?_
    refine g_iload C dX7_fillHour_93 rfl ?_
    obtain ⟨hc2, h⟩ := chk_some h
    refine g_iast C 13 rfl hc2 rfl (ws' := (W_X7_fillHour (eCy E) a_t a_t_carriedBy a_t_leftFrom a_t_leftFromE_0 a_t_leftFromE_1 a_t_leftFromE_2 a_t_leftFromE_3 a_t_leftFromE_4 a_t_leftFromE_5 a_t_leftFromE_6 a_t_leftFromE_7 a_t_leftFromE_8 a_t_leftFromE_9 a_t_leftFromE_10 a_t_leftFromE_11 a_t_leftFromE_12 a_t_leftFromE_13 a_t_leftFromE_14 a_t_leftFromE_15 a_t_leftFromE_16 a_t_leftFromE_17 a_t_leftFromE_18 a_t_leftFromE_19 a_t_leftFromE_20 a_t_leftFromE_21 a_t_leftFromE_22 a_t_leftFromE_23 a_t_leftFromE_24 a_t_leftFromE_25 a_t_leftFromE_26 a_t_leftFromE_27 a_t_leftFromE_28 a_t_leftFromE_29 g_t_1 g_t_2 g_t_3 c_hours c_sets c_cost c_carriedBy (up c_leftFromE (10) (up (c_leftFromE (10)) x4 x5)))) rfl dX7_fillHour_95 ?_
    refine g_iinc C hN dX7_fillHour_96 rfl rfl (L' := [some (.ref a_t), some (.int (wI (10))), some (.int (wI x2)), some (.int (wI x3)), some (.int (wI (x4 + 1))), some (.int (wI x5)), none]) rfl ?_
    refine g_goto (tgt := 3) C dX7_fillHour_99 (by decide) ?_
    refine g_mask [true, true, true, true, true, false, false] (L' := [some (.ref a_t), some (.int (wI (10))), some (.int (wI x2)), some (.int (wI x3)), some (.int (wI (x4 + 1))), none, none]) rfl ?_
    exact hk3 _ _ h
  · refine g_aaldR C 2 rfl (by decide) rfl dX7_fillHour_90 ?_
    refine g_iload C dX7_fillHour_91 rfl ?_
    refine g_iload C dX7_fillHour_93 rfl ?_
    obtain ⟨hc2, h⟩ := chk_some h
    refine g_iast C 14 rfl hc2 rfl (ws' := (W_X7_fillHour (eCy E) a_t a_t_carriedBy a_t_leftFrom a_t_leftFromE_0 a_t_leftFromE_1 a_t_leftFromE_2 a_t_leftFromE_3 a_t_leftFromE_4 a_t_leftFromE_5 a_t_leftFromE_6 a_t_leftFromE_7 a_t_leftFromE_8 a_t_leftFromE_9 a_t_leftFromE_10 a_t_leftFromE_11 a_t_leftFromE_12 a_t_leftFromE_13 a_t_leftFromE_14 a_t_leftFromE_15 a_t_leftFromE_16 a_t_leftFromE_17 a_t_leftFromE_18 a_t_leftFromE_19 a_t_leftFromE_20 a_t_leftFromE_21 a_t_leftFromE_22 a_t_leftFromE_23 a_t_leftFromE_24 a_t_leftFromE_25 a_t_leftFromE_26 a_t_leftFromE_27 a_t_leftFromE_28 a_t_leftFromE_29 g_t_1 g_t_2 g_t_3 c_hours c_sets c_cost c_carriedBy (up c_leftFromE (11) (up (c_leftFromE (11)) x4 x5)))) rfl dX7_fillHour_95 ?_
    refine g_iinc C hN dX7_fillHour_96 rfl rfl (L' := [some (.ref a_t), some (.int (wI (11))), some (.int (wI x2)), some (.int (wI x3)), some (.int (wI (x4 + 1))), some (.int (wI x5)), none]) rfl ?_
    refine g_goto (tgt := 3) C dX7_fillHour_99 (by decide) ?_
    refine g_mask [true, true, true, true, true, false, false] (L' := [some (.ref a_t), some (.int (wI (11))), some (.int (wI x2)), some (.int (wI x3)), some (.int (wI (x4 + 1))), none, none]) rfl ?_
    exact hk3 _ _ h
  · refine g_aaldR C 2 rfl (by decide) rfl dX7_fillHour_90 ?_
    refine g_iload C dX7_fillHour_91 rfl ?_
    refine g_iload C dX7_fillHour_93 rfl ?_
    obtain ⟨hc2, h⟩ := chk_some h
    refine g_iast C 15 rfl hc2 rfl (ws' := (W_X7_fillHour (eCy E) a_t a_t_carriedBy a_t_leftFrom a_t_leftFromE_0 a_t_leftFromE_1 a_t_leftFromE_2 a_t_leftFromE_3 a_t_leftFromE_4 a_t_leftFromE_5 a_t_leftFromE_6 a_t_leftFromE_7 a_t_leftFromE_8 a_t_leftFromE_9 a_t_leftFromE_10 a_t_leftFromE_11 a_t_leftFromE_12 a_t_leftFromE_13 a_t_leftFromE_14 a_t_leftFromE_15 a_t_leftFromE_16 a_t_leftFromE_17 a_t_leftFromE_18 a_t_leftFromE_19 a_t_leftFromE_20 a_t_leftFromE_21 a_t_leftFromE_22 a_t_leftFromE_23 a_t_leftFromE_24 a_t_leftFromE_25 a_t_leftFromE_26 a_t_leftFromE_27 a_t_leftFromE_28 a_t_leftFromE_29 g_t_1 g_t_2 g_t_3 c_hours c_sets c_cost c_carriedBy (up c_leftFromE (12) (up (c_leftFromE (12)) x4 x5)))) rfl dX7_fillHour_95 ?_
    refine g_iinc C hN dX7_fillHour_96 rfl rfl (L' := [some (.ref a_t), some (.int (wI (12))), some (.int (wI x2)), some (.int (wI x3)), some (.int (wI (x4 + 1))), some (.int (wI x5)), none]) rfl ?_
    refine g_goto (tgt := 3) C dX7_fillHour_99 (by decide) ?_
    refine g_mask [true, true, true, true, true, false, false] (L' := [some (.ref a_t), some (.int (wI (12))), some (.int (wI x2)), some (.int (wI x3)), some (.int (wI (x4 + 1))), none, none]) rfl ?_
    exact hk3 _ _ h
  · refine g_aaldR C 2 rfl (by decide) rfl dX7_fillHour_90 ?_
    refine g_iload C dX7_fillHour_91 rfl ?_
    refine g_iload C dX7_fillHour_93 rfl ?_
    obtain ⟨hc2, h⟩ := chk_some h
    refine g_iast C 16 rfl hc2 rfl (ws' := (W_X7_fillHour (eCy E) a_t a_t_carriedBy a_t_leftFrom a_t_leftFromE_0 a_t_leftFromE_1 a_t_leftFromE_2 a_t_leftFromE_3 a_t_leftFromE_4 a_t_leftFromE_5 a_t_leftFromE_6 a_t_leftFromE_7 a_t_leftFromE_8 a_t_leftFromE_9 a_t_leftFromE_10 a_t_leftFromE_11 a_t_leftFromE_12 a_t_leftFromE_13 a_t_leftFromE_14 a_t_leftFromE_15 a_t_leftFromE_16 a_t_leftFromE_17 a_t_leftFromE_18 a_t_leftFromE_19 a_t_leftFromE_20 a_t_leftFromE_21 a_t_leftFromE_22 a_t_leftFromE_23 a_t_leftFromE_24 a_t_leftFromE_25 a_t_leftFromE_26 a_t_leftFromE_27 a_t_leftFromE_28 a_t_leftFromE_29 g_t_1 g_t_2 g_t_3 c_hours c_sets c_cost c_carriedBy (up c_leftFromE (13) (up (c_leftFromE (13)) x4 x5)))) rfl dX7_fillHour_95 ?_
    refine g_iinc C hN dX7_fillHour_96 rfl rfl (L' := [some (.ref a_t), some (.int (wI (13))), some (.int (wI x2)), some (.int (wI x3)), some (.int (wI (x4 + 1))), some (.int (wI x5)), none]) rfl ?_
    refine g_goto (tgt := 3) C dX7_fillHour_99 (by decide) ?_
    refine g_mask [true, true, true, true, true, false, false] (L' := [some (.ref a_t), some (.int (wI (13))), some (.int (wI x2)), some (.int (wI x3)), some (.int (wI (x4 + 1))), none, none]) rfl ?_
    exact hk3 _ _ h
  · refine g_aaldR C 2 rfl (by decide) rfl dX7_fillHour_90 ?_
    refine g_iload C dX7_fillHour_91 rfl ?_
    refine g_iload C dX7_fillHour_93 rfl ?_
    obtain ⟨hc2, h⟩ := chk_some h
    refine g_iast C 17 rfl hc2 rfl (ws' := (W_X7_fillHour (eCy E) a_t a_t_carriedBy a_t_leftFrom a_t_leftFromE_0 a_t_leftFromE_1 a_t_leftFromE_2 a_t_leftFromE_3 a_t_leftFromE_4 a_t_leftFromE_5 a_t_leftFromE_6 a_t_leftFromE_7 a_t_leftFromE_8 a_t_leftFromE_9 a_t_leftFromE_10 a_t_leftFromE_11 a_t_leftFromE_12 a_t_leftFromE_13 a_t_leftFromE_14 a_t_leftFromE_15 a_t_leftFromE_16 a_t_leftFromE_17 a_t_leftFromE_18 a_t_leftFromE_19 a_t_leftFromE_20 a_t_leftFromE_21 a_t_leftFromE_22 a_t_leftFromE_23 a_t_leftFromE_24 a_t_leftFromE_25 a_t_leftFromE_26 a_t_leftFromE_27 a_t_leftFromE_28 a_t_leftFromE_29 g_t_1 g_t_2 g_t_3 c_hours c_sets c_cost c_carriedBy (up c_leftFromE (14) (up (c_leftFromE (14)) x4 x5)))) rfl dX7_fillHour_95 ?_
    refine g_iinc C hN dX7_fillHour_96 rfl rfl (L' := [some (.ref a_t), some (.int (wI (14))), some (.int (wI x2)), some (.int (wI x3)), some (.int (wI (x4 + 1))), some (.int (wI x5)), none]) rfl ?_
    refine g_goto (tgt := 3) C dX7_fillHour_99 (by decide) ?_
    refine g_mask [true, true, true, true, true, false, false] (L' := [some (.ref a_t), some (.int (wI (14))), some (.int (wI x2)), some (.int (wI x3)), some (.int (wI (x4 + 1))), none, none]) rfl ?_
    exact hk3 _ _ h
  · refine g_aaldR C 2 rfl (by decide) rfl dX7_fillHour_90 ?_
    refine g_iload C dX7_fillHour_91 rfl ?_
    refine g_iload C dX7_fillHour_93 rfl ?_
    obtain ⟨hc2, h⟩ := chk_some h
    refine g_iast C 18 rfl hc2 rfl (ws' := (W_X7_fillHour (eCy E) a_t a_t_carriedBy a_t_leftFrom a_t_leftFromE_0 a_t_leftFromE_1 a_t_leftFromE_2 a_t_leftFromE_3 a_t_leftFromE_4 a_t_leftFromE_5 a_t_leftFromE_6 a_t_leftFromE_7 a_t_leftFromE_8 a_t_leftFromE_9 a_t_leftFromE_10 a_t_leftFromE_11 a_t_leftFromE_12 a_t_leftFromE_13 a_t_leftFromE_14 a_t_leftFromE_15 a_t_leftFromE_16 a_t_leftFromE_17 a_t_leftFromE_18 a_t_leftFromE_19 a_t_leftFromE_20 a_t_leftFromE_21 a_t_leftFromE_22 a_t_leftFromE_23 a_t_leftFromE_24 a_t_leftFromE_25 a_t_leftFromE_26 a_t_leftFromE_27 a_t_leftFromE_28 a_t_leftFromE_29 g_t_1 g_t_2 g_t_3 c_hours c_sets c_cost c_carriedBy (up c_leftFromE (15) (up (c_leftFromE (15)) x4 x5)))) rfl dX7_fillHour_95 ?_
    refine g_iinc C hN dX7_fillHour_96 rfl rfl (L' := [some (.ref a_t), some (.int (wI (15))), some (.int (wI x2)), some (.int (wI x3)), some (.int (wI (x4 + 1))), some (.int (wI x5)), none]) rfl ?_
    refine g_goto (tgt := 3) C dX7_fillHour_99 (by decide) ?_
    refine g_mask [true, true, true, true, true, false, false] (L' := [some (.ref a_t), some (.int (wI (15))), some (.int (wI x2)), some (.int (wI x3)), some (.int (wI (x4 + 1))), none, none]) rfl ?_
    exact hk3 _ _ h
  · refine g_aaldR C 2 rfl (by decide) rfl dX7_fillHour_90 ?_
    refine g_iload C dX7_fillHour_91 rfl ?_
    refine g_iload C dX7_fillHour_93 rfl ?_
    obtain ⟨hc2, h⟩ := chk_some h
    refine g_iast C 19 rfl hc2 rfl (ws' := (W_X7_fillHour (eCy E) a_t a_t_carriedBy a_t_leftFrom a_t_leftFromE_0 a_t_leftFromE_1 a_t_leftFromE_2 a_t_leftFromE_3 a_t_leftFromE_4 a_t_leftFromE_5 a_t_leftFromE_6 a_t_leftFromE_7 a_t_leftFromE_8 a_t_leftFromE_9 a_t_leftFromE_10 a_t_leftFromE_11 a_t_leftFromE_12 a_t_leftFromE_13 a_t_leftFromE_14 a_t_leftFromE_15 a_t_leftFromE_16 a_t_leftFromE_17 a_t_leftFromE_18 a_t_leftFromE_19 a_t_leftFromE_20 a_t_leftFromE_21 a_t_leftFromE_22 a_t_leftFromE_23 a_t_leftFromE_24 a_t_leftFromE_25 a_t_leftFromE_26 a_t_leftFromE_27 a_t_leftFromE_28 a_t_leftFromE_29 g_t_1 g_t_2 g_t_3 c_hours c_sets c_cost c_carriedBy (up c_leftFromE (16) (up (c_leftFromE (16)) x4 x5)))) rfl dX7_fillHour_95 ?_
    refine g_iinc C hN dX7_fillHour_96 rfl rfl (L' := [some (.ref a_t), some (.int (wI (16))), some (.int (wI x2)), some (.int (wI x3)), some (.int (wI (x4 + 1))), some (.int (wI x5)), none]) rfl ?_
    refine g_goto (tgt := 3) C dX7_fillHour_99 (by decide) ?_
    refine g_mask [true, true, true, true, true, false, false] (L' := [some (.ref a_t), some (.int (wI (16))), some (.int (wI x2)), some (.int (wI x3)), some (.int (wI (x4 + 1))), none, none]) rfl ?_
    exact hk3 _ _ h
  · refine g_aaldR C 2 rfl (by decide) rfl dX7_fillHour_90 ?_
    refine g_iload C dX7_fillHour_91 rfl ?_
    refine g_iload C dX7_fillHour_93 rfl ?_
    obtain ⟨hc2, h⟩ := chk_some h
    refine g_iast C 20 rfl hc2 rfl (ws' := (W_X7_fillHour (eCy E) a_t a_t_carriedBy a_t_leftFrom a_t_leftFromE_0 a_t_leftFromE_1 a_t_leftFromE_2 a_t_leftFromE_3 a_t_leftFromE_4 a_t_leftFromE_5 a_t_leftFromE_6 a_t_leftFromE_7 a_t_leftFromE_8 a_t_leftFromE_9 a_t_leftFromE_10 a_t_leftFromE_11 a_t_leftFromE_12 a_t_leftFromE_13 a_t_leftFromE_14 a_t_leftFromE_15 a_t_leftFromE_16 a_t_leftFromE_17 a_t_leftFromE_18 a_t_leftFromE_19 a_t_leftFromE_20 a_t_leftFromE_21 a_t_leftFromE_22 a_t_leftFromE_23 a_t_leftFromE_24 a_t_leftFromE_25 a_t_leftFromE_26 a_t_leftFromE_27 a_t_leftFromE_28 a_t_leftFromE_29 g_t_1 g_t_2 g_t_3 c_hours c_sets c_cost c_carriedBy (up c_leftFromE (17) (up (c_leftFromE (17)) x4 x5)))) rfl dX7_fillHour_95 ?_
    refine g_iinc C hN dX7_fillHour_96 rfl rfl (L' := [some (.ref a_t), some (.int (wI (17))), some (.int (wI x2)), some (.int (wI x3)), some (.int (wI (x4 + 1))), some (.int (wI x5)), none]) rfl ?_
    refine g_goto (tgt := 3) C dX7_fillHour_99 (by decide) ?_
    refine g_mask [true, true, true, true, true, false, false] (L' := [some (.ref a_t), some (.int (wI (17))), some (.int (wI x2)), some (.int (wI x3)), some (.int (wI (x4 + 1))), none, none]) rfl ?_
    exact hk3 _ _ h
  · refine g_aaldR C 2 rfl (by decide) rfl dX7_fillHour_90 ?_
    refine g_iload C dX7_fillHour_91 rfl ?_
    refine g_iload C dX7_fillHour_93 rfl ?_
    obtain ⟨hc2, h⟩ := chk_some h
    refine g_iast C 21 rfl hc2 rfl (ws' := (W_X7_fillHour (eCy E) a_t a_t_carriedBy a_t_leftFrom a_t_leftFromE_0 a_t_leftFromE_1 a_t_leftFromE_2 a_t_leftFromE_3 a_t_leftFromE_4 a_t_leftFromE_5 a_t_leftFromE_6 a_t_leftFromE_7 a_t_leftFromE_8 a_t_leftFromE_9 a_t_leftFromE_10 a_t_leftFromE_11 a_t_leftFromE_12 a_t_leftFromE_13 a_t_leftFromE_14 a_t_leftFromE_15 a_t_leftFromE_16 a_t_leftFromE_17 a_t_leftFromE_18 a_t_leftFromE_19 a_t_leftFromE_20 a_t_leftFromE_21 a_t_leftFromE_22 a_t_leftFromE_23 a_t_leftFromE_24 a_t_leftFromE_25 a_t_leftFromE_26 a_t_leftFromE_27 a_t_leftFromE_28 a_t_leftFromE_29 g_t_1 g_t_2 g_t_3 c_hours c_sets c_cost c_carriedBy (up c_leftFromE (18) (up (c_leftFromE (18)) x4 x5)))) rfl dX7_fillHour_95 ?_
    refine g_iinc C hN dX7_fillHour_96 rfl rfl (L' := [some (.ref a_t), some (.int (wI (18))), some (.int (wI x2)), some (.int (wI x3)), some (.int (wI (x4 + 1))), some (.int (wI x5)), none]) rfl ?_
    refine g_goto (tgt := 3) C dX7_fillHour_99 (by decide) ?_
    refine g_mask [true, true, true, true, true, false, false] (L' := [some (.ref a_t), some (.int (wI (18))), some (.int (wI x2)), some (.int (wI x3)), some (.int (wI (x4 + 1))), none, none]) rfl ?_
    exact hk3 _ _ h
  · refine g_aaldR C 2 rfl (by decide) rfl dX7_fillHour_90 ?_
    refine g_iload C dX7_fillHour_91 rfl ?_
    refine g_iload C dX7_fillHour_93 rfl ?_
    obtain ⟨hc2, h⟩ := chk_some h
    refine g_iast C 22 rfl hc2 rfl (ws' := (W_X7_fillHour (eCy E) a_t a_t_carriedBy a_t_leftFrom a_t_leftFromE_0 a_t_leftFromE_1 a_t_leftFromE_2 a_t_leftFromE_3 a_t_leftFromE_4 a_t_leftFromE_5 a_t_leftFromE_6 a_t_leftFromE_7 a_t_leftFromE_8 a_t_leftFromE_9 a_t_leftFromE_10 a_t_leftFromE_11 a_t_leftFromE_12 a_t_leftFromE_13 a_t_leftFromE_14 a_t_leftFromE_15 a_t_leftFromE_16 a_t_leftFromE_17 a_t_leftFromE_18 a_t_leftFromE_19 a_t_leftFromE_20 a_t_leftFromE_21 a_t_leftFromE_22 a_t_leftFromE_23 a_t_leftFromE_24 a_t_leftFromE_25 a_t_leftFromE_26 a_t_leftFromE_27 a_t_leftFromE_28 a_t_leftFromE_29 g_t_1 g_t_2 g_t_3 c_hours c_sets c_cost c_carriedBy (up c_leftFromE (19) (up (c_leftFromE (19)) x4 x5)))) rfl dX7_fillHour_95 ?_
    refine g_iinc C hN dX7_fillHour_96 rfl rfl (L' := [some (.ref a_t), some (.int (wI (19))), some (.int (wI x2)), some (.int (wI x3)), some (.int (wI (x4 + 1))), some (.int (wI x5)), none]) rfl ?_
    refine g_goto (tgt := 3) C dX7_fillHour_99 (by decide) ?_
    refine g_mask [true, true, true, true, true, false, false] (L' := [some (.ref a_t), some (.int (wI (19))), some (.int (wI x2)), some (.int (wI x3)), some (.int (wI (x4 + 1))), none, none]) rfl ?_
    exact hk3 _ _ h
  · refine g_aaldR C 2 rfl (by decide) rfl dX7_fillHour_90 ?_
    refine g_iload C dX7_fillHour_91 rfl ?_
    refine g_iload C dX7_fillHour_93 rfl ?_
    obtain ⟨hc2, h⟩ := chk_some h
    refine g_iast C 23 rfl hc2 rfl (ws' := (W_X7_fillHour (eCy E) a_t a_t_carriedBy a_t_leftFrom a_t_leftFromE_0 a_t_leftFromE_1 a_t_leftFromE_2 a_t_leftFromE_3 a_t_leftFromE_4 a_t_leftFromE_5 a_t_leftFromE_6 a_t_leftFromE_7 a_t_leftFromE_8 a_t_leftFromE_9 a_t_leftFromE_10 a_t_leftFromE_11 a_t_leftFromE_12 a_t_leftFromE_13 a_t_leftFromE_14 a_t_leftFromE_15 a_t_leftFromE_16 a_t_leftFromE_17 a_t_leftFromE_18 a_t_leftFromE_19 a_t_leftFromE_20 a_t_leftFromE_21 a_t_leftFromE_22 a_t_leftFromE_23 a_t_leftFromE_24 a_t_leftFromE_25 a_t_leftFromE_26 a_t_leftFromE_27 a_t_leftFromE_28 a_t_leftFromE_29 g_t_1 g_t_2 g_t_3 c_hours c_sets c_cost c_carriedBy (up c_leftFromE (20) (up (c_leftFromE (20)) x4 x5)))) rfl dX7_fillHour_95 ?_
    refine g_iinc C hN dX7_fillHour_96 rfl rfl (L' := [some (.ref a_t), some (.int (wI (20))), some (.int (wI x2)), some (.int (wI x3)), some (.int (wI (x4 + 1))), some (.int (wI x5)), none]) rfl ?_
    refine g_goto (tgt := 3) C dX7_fillHour_99 (by decide) ?_
    refine g_mask [true, true, true, true, true, false, false] (L' := [some (.ref a_t), some (.int (wI (20))), some (.int (wI x2)), some (.int (wI x3)), some (.int (wI (x4 + 1))), none, none]) rfl ?_
    exact hk3 _ _ h
  · refine g_aaldR C 2 rfl (by decide) rfl dX7_fillHour_90 ?_
    refine g_iload C dX7_fillHour_91 rfl ?_
    refine g_iload C dX7_fillHour_93 rfl ?_
    obtain ⟨hc2, h⟩ := chk_some h
    refine g_iast C 24 rfl hc2 rfl (ws' := (W_X7_fillHour (eCy E) a_t a_t_carriedBy a_t_leftFrom a_t_leftFromE_0 a_t_leftFromE_1 a_t_leftFromE_2 a_t_leftFromE_3 a_t_leftFromE_4 a_t_leftFromE_5 a_t_leftFromE_6 a_t_leftFromE_7 a_t_leftFromE_8 a_t_leftFromE_9 a_t_leftFromE_10 a_t_leftFromE_11 a_t_leftFromE_12 a_t_leftFromE_13 a_t_leftFromE_14 a_t_leftFromE_15 a_t_leftFromE_16 a_t_leftFromE_17 a_t_leftFromE_18 a_t_leftFromE_19 a_t_leftFromE_20 a_t_leftFromE_21 a_t_leftFromE_22 a_t_leftFromE_23 a_t_leftFromE_24 a_t_leftFromE_25 a_t_leftFromE_26 a_t_leftFromE_27 a_t_leftFromE_28 a_t_leftFromE_29 g_t_1 g_t_2 g_t_3 c_hours c_sets c_cost c_carriedBy (up c_leftFromE (21) (up (c_leftFromE (21)) x4 x5)))) rfl dX7_fillHour_95 ?_
    refine g_iinc C hN dX7_fillHour_96 rfl rfl (L' := [some (.ref a_t), some (.int (wI (21))), some (.int (wI x2)), some (.int (wI x3)), some (.int (wI (x4 + 1))), some (.int (wI x5)), none]) rfl ?_
    refine g_goto (tgt := 3) C dX7_fillHour_99 (by decide) ?_
    refine g_mask [true, true, true, true, true, false, false] (L' := [some (.ref a_t), some (.int (wI (21))), some (.int (wI x2)), some (.int (wI x3)), some (.int (wI (x4 + 1))), none, none]) rfl ?_
    exact hk3 _ _ h
  · refine g_aaldR C 2 rfl (by decide) rfl dX7_fillHour_90 ?_
    refine g_iload C dX7_fillHour_91 rfl ?_
    refine g_iload C dX7_fillHour_93 rfl ?_
    obtain ⟨hc2, h⟩ := chk_some h
    refine g_iast C 25 rfl hc2 rfl (ws' := (W_X7_fillHour (eCy E) a_t a_t_carriedBy a_t_leftFrom a_t_leftFromE_0 a_t_leftFromE_1 a_t_leftFromE_2 a_t_leftFromE_3 a_t_leftFromE_4 a_t_leftFromE_5 a_t_leftFromE_6 a_t_leftFromE_7 a_t_leftFromE_8 a_t_leftFromE_9 a_t_leftFromE_10 a_t_leftFromE_11 a_t_leftFromE_12 a_t_leftFromE_13 a_t_leftFromE_14 a_t_leftFromE_15 a_t_leftFromE_16 a_t_leftFromE_17 a_t_leftFromE_18 a_t_leftFromE_19 a_t_leftFromE_20 a_t_leftFromE_21 a_t_leftFromE_22 a_t_leftFromE_23 a_t_leftFromE_24 a_t_leftFromE_25 a_t_leftFromE_26 a_t_leftFromE_27 a_t_leftFromE_28 a_t_leftFromE_29 g_t_1 g_t_2 g_t_3 c_hours c_sets c_cost c_carriedBy (up c_leftFromE (22) (up (c_leftFromE (22)) x4 x5)))) rfl dX7_fillHour_95 ?_
    refine g_iinc C hN dX7_fillHour_96 rfl rfl (L' := [some (.ref a_t), some (.int (wI (22))), some (.int (wI x2)), some (.int (wI x3)), some (.int (wI (x4 + 1))), some (.int (wI x5)), none]) rfl ?_
    refine g_goto (tgt := 3) C dX7_fillHour_99 (by decide) ?_
    refine g_mask [true, true, true, true, true, false, false] (L' := [some (.ref a_t), some (.int (wI (22))), some (.int (wI x2)), some (.int (wI x3)), some (.int (wI (x4 + 1))), none, none]) rfl ?_
    exact hk3 _ _ h
  · refine g_aaldR C 2 rfl (by decide) rfl dX7_fillHour_90 ?_
    refine g_iload C dX7_fillHour_91 rfl ?_
    refine g_iload C dX7_fillHour_93 rfl ?_
    obtain ⟨hc2, h⟩ := chk_some h
    refine g_iast C 26 rfl hc2 rfl (ws' := (W_X7_fillHour (eCy E) a_t a_t_carriedBy a_t_leftFrom a_t_leftFromE_0 a_t_leftFromE_1 a_t_leftFromE_2 a_t_leftFromE_3 a_t_leftFromE_4 a_t_leftFromE_5 a_t_leftFromE_6 a_t_leftFromE_7 a_t_leftFromE_8 a_t_leftFromE_9 a_t_leftFromE_10 a_t_leftFromE_11 a_t_leftFromE_12 a_t_leftFromE_13 a_t_leftFromE_14 a_t_leftFromE_15 a_t_leftFromE_16 a_t_leftFromE_17 a_t_leftFromE_18 a_t_leftFromE_19 a_t_leftFromE_20 a_t_leftFromE_21 a_t_leftFromE_22 a_t_leftFromE_23 a_t_leftFromE_24 a_t_leftFromE_25 a_t_leftFromE_26 a_t_leftFromE_27 a_t_leftFromE_28 a_t_leftFromE_29 g_t_1 g_t_2 g_t_3 c_hours c_sets c_cost c_carriedBy (up c_leftFromE (23) (up (c_leftFromE (23)) x4 x5)))) rfl dX7_fillHour_95 ?_
    refine g_iinc C hN dX7_fillHour_96 rfl rfl (L' := [some (.ref a_t), some (.int (wI (23))), some (.int (wI x2)), some (.int (wI x3)), some (.int (wI (x4 + 1))), some (.int (wI x5)), none]) rfl ?_
    refine g_goto (tgt := 3) C dX7_fillHour_99 (by decide) ?_
    refine g_mask [true, true, true, true, true, false, false] (L' := [some (.ref a_t), some (.int (wI (23))), some (.int (wI x2)), some (.int (wI x3)), some (.int (wI (x4 + 1))), none, none]) rfl ?_
    exact hk3 _ _ h
  · refine g_aaldR C 2 rfl (by decide) rfl dX7_fillHour_90 ?_
    refine g_iload C dX7_fillHour_91 rfl ?_
    refine g_iload C dX7_fillHour_93 rfl ?_
    obtain ⟨hc2, h⟩ := chk_some h
    refine g_iast C 27 rfl hc2 rfl (ws' := (W_X7_fillHour (eCy E) a_t a_t_carriedBy a_t_leftFrom a_t_leftFromE_0 a_t_leftFromE_1 a_t_leftFromE_2 a_t_leftFromE_3 a_t_leftFromE_4 a_t_leftFromE_5 a_t_leftFromE_6 a_t_leftFromE_7 a_t_leftFromE_8 a_t_leftFromE_9 a_t_leftFromE_10 a_t_leftFromE_11 a_t_leftFromE_12 a_t_leftFromE_13 a_t_leftFromE_14 a_t_leftFromE_15 a_t_leftFromE_16 a_t_leftFromE_17 a_t_leftFromE_18 a_t_leftFromE_19 a_t_leftFromE_20 a_t_leftFromE_21 a_t_leftFromE_22 a_t_leftFromE_23 a_t_leftFromE_24 a_t_leftFromE_25 a_t_leftFromE_26 a_t_leftFromE_27 a_t_leftFromE_28 a_t_leftFromE_29 g_t_1 g_t_2 g_t_3 c_hours c_sets c_cost c_carriedBy (up c_leftFromE (24) (up (c_leftFromE (24)) x4 x5)))) rfl dX7_fillHour_95 ?_
    refine g_iinc C hN dX7_fillHour_96 rfl rfl (L' := [some (.ref a_t), some (.int (wI (24))), some (.int (wI x2)), some (.int (wI x3)), some (.int (wI (x4 + 1))), some (.int (wI x5)), none]) rfl ?_
    refine g_goto (tgt := 3) C dX7_fillHour_99 (by decide) ?_
    refine g_mask [true, true, true, true, true, false, false] (L' := [some (.ref a_t), some (.int (wI (24))), some (.int (wI x2)), some (.int (wI x3)), some (.int (wI (x4 + 1))), none, none]) rfl ?_
    exact hk3 _ _ h
  · refine g_aaldR C 2 rfl (by decide) rfl dX7_fillHour_90 ?_
    refine g_iload C dX7_fillHour_91 rfl ?_
    refine g_iload C dX7_fillHour_93 rfl ?_
    obtain ⟨hc2, h⟩ := chk_some h
    refine g_iast C 28 rfl hc2 rfl (ws' := (W_X7_fillHour (eCy E) a_t a_t_carriedBy a_t_leftFrom a_t_leftFromE_0 a_t_leftFromE_1 a_t_leftFromE_2 a_t_leftFromE_3 a_t_leftFromE_4 a_t_leftFromE_5 a_t_leftFromE_6 a_t_leftFromE_7 a_t_leftFromE_8 a_t_leftFromE_9 a_t_leftFromE_10 a_t_leftFromE_11 a_t_leftFromE_12 a_t_leftFromE_13 a_t_leftFromE_14 a_t_leftFromE_15 a_t_leftFromE_16 a_t_leftFromE_17 a_t_leftFromE_18 a_t_leftFromE_19 a_t_leftFromE_20 a_t_leftFromE_21 a_t_leftFromE_22 a_t_leftFromE_23 a_t_leftFromE_24 a_t_leftFromE_25 a_t_leftFromE_26 a_t_leftFromE_27 a_t_leftFromE_28 a_t_leftFromE_29 g_t_1 g_t_2 g_t_3 c_hours c_sets c_cost c_carriedBy (up c_leftFromE (25) (up (c_leftFromE (25)) x4 x5)))) rfl dX7_fillHour_95 ?_
    refine g_iinc C hN dX7_fillHour_96 rfl rfl (L' := [some (.ref a_t), some (.int (wI (25))), some (.int (wI x2)), some (.int (wI x3)), some (.int (wI (x4 + 1))), some (.int (wI x5)), none]) rfl ?_
    refine g_goto (tgt := 3) C dX7_fillHour_99 (by decide) ?_
    refine g_mask [true, true, true, true, true, false, false] (L' := [some (.ref a_t), some (.int (wI (25))), some (.int (wI x2)), some (.int (wI x3)), some (.int (wI (x4 + 1))), none, none]) rfl ?_
    exact hk3 _ _ h
  · refine g_aaldR C 2 rfl (by decide) rfl dX7_fillHour_90 ?_
    refine g_iload C dX7_fillHour_91 rfl ?_
    refine g_iload C dX7_fillHour_93 rfl ?_
    obtain ⟨hc2, h⟩ := chk_some h
    refine g_iast C 29 rfl hc2 rfl (ws' := (W_X7_fillHour (eCy E) a_t a_t_carriedBy a_t_leftFrom a_t_leftFromE_0 a_t_leftFromE_1 a_t_leftFromE_2 a_t_leftFromE_3 a_t_leftFromE_4 a_t_leftFromE_5 a_t_leftFromE_6 a_t_leftFromE_7 a_t_leftFromE_8 a_t_leftFromE_9 a_t_leftFromE_10 a_t_leftFromE_11 a_t_leftFromE_12 a_t_leftFromE_13 a_t_leftFromE_14 a_t_leftFromE_15 a_t_leftFromE_16 a_t_leftFromE_17 a_t_leftFromE_18 a_t_leftFromE_19 a_t_leftFromE_20 a_t_leftFromE_21 a_t_leftFromE_22 a_t_leftFromE_23 a_t_leftFromE_24 a_t_leftFromE_25 a_t_leftFromE_26 a_t_leftFromE_27 a_t_leftFromE_28 a_t_leftFromE_29 g_t_1 g_t_2 g_t_3 c_hours c_sets c_cost c_carriedBy (up c_leftFromE (26) (up (c_leftFromE (26)) x4 x5)))) rfl dX7_fillHour_95 ?_
    refine g_iinc C hN dX7_fillHour_96 rfl rfl (L' := [some (.ref a_t), some (.int (wI (26))), some (.int (wI x2)), some (.int (wI x3)), some (.int (wI (x4 + 1))), some (.int (wI x5)), none]) rfl ?_
    refine g_goto (tgt := 3) C dX7_fillHour_99 (by decide) ?_
    refine g_mask [true, true, true, true, true, false, false] (L' := [some (.ref a_t), some (.int (wI (26))), some (.int (wI x2)), some (.int (wI x3)), some (.int (wI (x4 + 1))), none, none]) rfl ?_
    exact hk3 _ _ h
  · refine g_aaldR C 2 rfl (by decide) rfl dX7_fillHour_90 ?_
    refine g_iload C dX7_fillHour_91 rfl ?_
    refine g_iload C dX7_fillHour_93 rfl ?_
    obtain ⟨hc2, h⟩ := chk_some h
    refine g_iast C 30 rfl hc2 rfl (ws' := (W_X7_fillHour (eCy E) a_t a_t_carriedBy a_t_leftFrom a_t_leftFromE_0 a_t_leftFromE_1 a_t_leftFromE_2 a_t_leftFromE_3 a_t_leftFromE_4 a_t_leftFromE_5 a_t_leftFromE_6 a_t_leftFromE_7 a_t_leftFromE_8 a_t_leftFromE_9 a_t_leftFromE_10 a_t_leftFromE_11 a_t_leftFromE_12 a_t_leftFromE_13 a_t_leftFromE_14 a_t_leftFromE_15 a_t_leftFromE_16 a_t_leftFromE_17 a_t_leftFromE_18 a_t_leftFromE_19 a_t_leftFromE_20 a_t_leftFromE_21 a_t_leftFromE_22 a_t_leftFromE_23 a_t_leftFromE_24 a_t_leftFromE_25 a_t_leftFromE_26 a_t_leftFromE_27 a_t_leftFromE_28 a_t_leftFromE_29 g_t_1 g_t_2 g_t_3 c_hours c_sets c_cost c_carriedBy (up c_leftFromE (27) (up (c_leftFromE (27)) x4 x5)))) rfl dX7_fillHour_95 ?_
    refine g_iinc C hN dX7_fillHour_96 rfl rfl (L' := [some (.ref a_t), some (.int (wI (27))), some (.int (wI x2)), some (.int (wI x3)), some (.int (wI (x4 + 1))), some (.int (wI x5)), none]) rfl ?_
    refine g_goto (tgt := 3) C dX7_fillHour_99 (by decide) ?_
    refine g_mask [true, true, true, true, true, false, false] (L' := [some (.ref a_t), some (.int (wI (27))), some (.int (wI x2)), some (.int (wI x3)), some (.int (wI (x4 + 1))), none, none]) rfl ?_
    exact hk3 _ _ h
  · refine g_aaldR C 2 rfl (by decide) rfl dX7_fillHour_90 ?_
    refine g_iload C dX7_fillHour_91 rfl ?_
    refine g_iload C dX7_fillHour_93 rfl ?_
    obtain ⟨hc2, h⟩ := chk_some h
    refine g_iast C 31 rfl hc2 rfl (ws' := (W_X7_fillHour (eCy E) a_t a_t_carriedBy a_t_leftFrom a_t_leftFromE_0 a_t_leftFromE_1 a_t_leftFromE_2 a_t_leftFromE_3 a_t_leftFromE_4 a_t_leftFromE_5 a_t_leftFromE_6 a_t_leftFromE_7 a_t_leftFromE_8 a_t_leftFromE_9 a_t_leftFromE_10 a_t_leftFromE_11 a_t_leftFromE_12 a_t_leftFromE_13 a_t_leftFromE_14 a_t_leftFromE_15 a_t_leftFromE_16 a_t_leftFromE_17 a_t_leftFromE_18 a_t_leftFromE_19 a_t_leftFromE_20 a_t_leftFromE_21 a_t_leftFromE_22 a_t_leftFromE_23 a_t_leftFromE_24 a_t_leftFromE_25 a_t_leftFromE_26 a_t_leftFromE_27 a_t_leftFromE_28 a_t_leftFromE_29 g_t_1 g_t_2 g_t_3 c_hours c_sets c_cost c_carriedBy (up c_leftFromE (28) (up (c_leftFromE (28)) x4 x5)))) rfl dX7_fillHour_95 ?_
    refine g_iinc C hN dX7_fillHour_96 rfl rfl (L' := [some (.ref a_t), some (.int (wI (28))), some (.int (wI x2)), some (.int (wI x3)), some (.int (wI (x4 + 1))), some (.int (wI x5)), none]) rfl ?_
    refine g_goto (tgt := 3) C dX7_fillHour_99 (by decide) ?_
    refine g_mask [true, true, true, true, true, false, false] (L' := [some (.ref a_t), some (.int (wI (28))), some (.int (wI x2)), some (.int (wI x3)), some (.int (wI (x4 + 1))), none, none]) rfl ?_
    exact hk3 _ _ h
  · refine g_aaldR C 2 rfl (by decide) rfl dX7_fillHour_90 ?_
    refine g_iload C dX7_fillHour_91 rfl ?_
    refine g_iload C dX7_fillHour_93 rfl ?_
    obtain ⟨hc2, h⟩ := chk_some h
    refine g_iast C 32 rfl hc2 rfl (ws' := (W_X7_fillHour (eCy E) a_t a_t_carriedBy a_t_leftFrom a_t_leftFromE_0 a_t_leftFromE_1 a_t_leftFromE_2 a_t_leftFromE_3 a_t_leftFromE_4 a_t_leftFromE_5 a_t_leftFromE_6 a_t_leftFromE_7 a_t_leftFromE_8 a_t_leftFromE_9 a_t_leftFromE_10 a_t_leftFromE_11 a_t_leftFromE_12 a_t_leftFromE_13 a_t_leftFromE_14 a_t_leftFromE_15 a_t_leftFromE_16 a_t_leftFromE_17 a_t_leftFromE_18 a_t_leftFromE_19 a_t_leftFromE_20 a_t_leftFromE_21 a_t_leftFromE_22 a_t_leftFromE_23 a_t_leftFromE_24 a_t_leftFromE_25 a_t_leftFromE_26 a_t_leftFromE_27 a_t_leftFromE_28 a_t_leftFromE_29 g_t_1 g_t_2 g_t_3 c_hours c_sets c_cost c_carriedBy (up c_leftFromE (29) (up (c_leftFromE (29)) x4 x5)))) rfl dX7_fillHour_95 ?_
    refine g_iinc C hN dX7_fillHour_96 rfl rfl (L' := [some (.ref a_t), some (.int (wI (29))), some (.int (wI x2)), some (.int (wI x3)), some (.int (wI (x4 + 1))), some (.int (wI x5)), none]) rfl ?_
    refine g_goto (tgt := 3) C dX7_fillHour_99 (by decide) ?_
    refine g_mask [true, true, true, true, true, false, false] (L' := [some (.ref a_t), some (.int (wI (29))), some (.int (wI x2)), some (.int (wI x3)), some (.int (wI (x4 + 1))), none, none]) rfl ?_
    exact hk3 _ _ h
set_option maxRecDepth 100000 in
set_option maxHeartbeats 4000000 in
theorem wb_X7_fillHour_3 {F : Nat} {k3 : Int → (Int → Int → Int) → Option ((Int → Int → Int))} {v : (Int → Int → Int)} {x1 : Int} {x2 : Int} {x3 : Int} {x4 : Int} {c_hours : Int} {c_sets : Int} {c_cost : Int} {c_carriedBy : Int → Int} {c_leftFromE : Int → Int → Int} (C : Cx E cX7_fillHour RX7 { frames := 3, cells := 0, slots := 0, locals := 67 }) (hN : eN E = 7) (h : mb_X7_fillHour_3 F k3 x1 x2 x3 x4 c_hours c_sets c_cost c_carriedBy c_leftFromE = some v) (hk3 : ∀ (y_x4 : Int) (y_c_leftFromE : Int → Int → Int), k3 y_x4 y_c_leftFromE = some v → GG E 0 0 (W_X7_fillHour (eCy E) a_t a_t_carriedBy a_t_leftFrom a_t_leftFromE_0 a_t_leftFromE_1 a_t_leftFromE_2 a_t_leftFromE_3 a_t_leftFromE_4 a_t_leftFromE_5 a_t_leftFromE_6 a_t_leftFromE_7 a_t_leftFromE_8 a_t_leftFromE_9 a_t_leftFromE_10 a_t_leftFromE_11 a_t_leftFromE_12 a_t_leftFromE_13 a_t_leftFromE_14 a_t_leftFromE_15 a_t_leftFromE_16 a_t_leftFromE_17 a_t_leftFromE_18 a_t_leftFromE_19 a_t_leftFromE_20 a_t_leftFromE_21 a_t_leftFromE_22 a_t_leftFromE_23 a_t_leftFromE_24 a_t_leftFromE_25 a_t_leftFromE_26 a_t_leftFromE_27 a_t_leftFromE_28 a_t_leftFromE_29 g_t_1 g_t_2 g_t_3 c_hours c_sets c_cost c_carriedBy y_c_leftFromE) [some (.ref a_t), some (.int (wI x1)), some (.int (wI x2)), some (.int (wI x3)), some (.int (wI y_x4)), none, none] 3 []) (hret : ∀ (pc : Nat) (L : List (Option Value)), decode cX7_fillHour pc = .ok (.return_, 1) → GG E 0 0 (W_X7_fillHour (eCy E) a_t a_t_carriedBy a_t_leftFrom a_t_leftFromE_0 a_t_leftFromE_1 a_t_leftFromE_2 a_t_leftFromE_3 a_t_leftFromE_4 a_t_leftFromE_5 a_t_leftFromE_6 a_t_leftFromE_7 a_t_leftFromE_8 a_t_leftFromE_9 a_t_leftFromE_10 a_t_leftFromE_11 a_t_leftFromE_12 a_t_leftFromE_13 a_t_leftFromE_14 a_t_leftFromE_15 a_t_leftFromE_16 a_t_leftFromE_17 a_t_leftFromE_18 a_t_leftFromE_19 a_t_leftFromE_20 a_t_leftFromE_21 a_t_leftFromE_22 a_t_leftFromE_23 a_t_leftFromE_24 a_t_leftFromE_25 a_t_leftFromE_26 a_t_leftFromE_27 a_t_leftFromE_28 a_t_leftFromE_29 g_t_1 g_t_2 g_t_3 c_hours c_sets c_cost c_carriedBy v) L pc []) : GG E 0 0 (W_X7_fillHour (eCy E) a_t a_t_carriedBy a_t_leftFrom a_t_leftFromE_0 a_t_leftFromE_1 a_t_leftFromE_2 a_t_leftFromE_3 a_t_leftFromE_4 a_t_leftFromE_5 a_t_leftFromE_6 a_t_leftFromE_7 a_t_leftFromE_8 a_t_leftFromE_9 a_t_leftFromE_10 a_t_leftFromE_11 a_t_leftFromE_12 a_t_leftFromE_13 a_t_leftFromE_14 a_t_leftFromE_15 a_t_leftFromE_16 a_t_leftFromE_17 a_t_leftFromE_18 a_t_leftFromE_19 a_t_leftFromE_20 a_t_leftFromE_21 a_t_leftFromE_22 a_t_leftFromE_23 a_t_leftFromE_24 a_t_leftFromE_25 a_t_leftFromE_26 a_t_leftFromE_27 a_t_leftFromE_28 a_t_leftFromE_29 g_t_1 g_t_2 g_t_3 c_hours c_sets c_cost c_carriedBy c_leftFromE) [some (.ref a_t), some (.int (wI x1)), some (.int (wI x2)), some (.int (wI x3)), some (.int (wI x4)), none, none] 3 [] := by
  unfold mb_X7_fillHour_3 at h
  refine g_iload C dX7_fillHour_3 rfl ?_
  refine g_aload_n 0 C dX7_fillHour_5 rfl rfl ?_
  refine g_get C fg_X7_25 0 rfl rfl dX7_fillHour_6 ?_
  refine g_st (st' := [.int (wI c_sets), .int (wI x4)]) rfl ?_
  refine g_icmp_ge 102 C dX7_fillHour_9 (by decide) h (fun h => ?_) (fun h => ?_)
  · cases h
    exact hret 102 _ dX7_fillHour_102
  · refine g_iconst C dX7_fillHour_12 ?_
    refine g_iload_n 2 C dX7_fillHour_13 rfl rfl ?_
    refine g_aload_n 0 C dX7_fillHour_14 rfl rfl ?_
    refine g_get C fg_X7_31 0 rfl rfl dX7_fillHour_15 ?_
    refine g_iload C dX7_fillHour_18 rfl ?_
    obtain ⟨hc1, h⟩ := chk_some h
    refine g_iald C 1 rfl hc1 rfl dX7_fillHour_20 ?_
    refine g_isub C dX7_fillHour_21 ?_
    obtain ⟨r2, hr3, h⟩ := bnd1_some h
    refine g_callSI [] [0, 1, 2, 3, 4, 5, 6, 7, 8, 9, 10, 11, 12, 13, 14, 15, 16, 17, 18, 19, 20, 21, 22, 23, 24, 25, 26, 27, 28, 29, 30, 31, 32] [0, 1, 2, 3, 4, 5, 6, 7, 8, 9, 10, 11, 12, 13, 14, 15, 16, 17, 18, 19, 20, 21, 22, 23, 24, 25, 26, 27, 28, 29, 30, 31, 32] C mt_X7_69 (c_J9_max_7cf53 _ _ _ _ 0 (x2 - (c_carriedBy x4)) F hr3) rfl rfl (ws2 := (W_X7_fillHour (eCy E) a_t a_t_carriedBy a_t_leftFrom a_t_leftFromE_0 a_t_leftFromE_1 a_t_leftFromE_2 a_t_leftFromE_3 a_t_leftFromE_4 a_t_leftFromE_5 a_t_leftFromE_6 a_t_leftFromE_7 a_t_leftFromE_8 a_t_leftFromE_9 a_t_leftFromE_10 a_t_leftFromE_11 a_t_leftFromE_12 a_t_leftFromE_13 a_t_leftFromE_14 a_t_leftFromE_15 a_t_leftFromE_16 a_t_leftFromE_17 a_t_leftFromE_18 a_t_leftFromE_19 a_t_leftFromE_20 a_t_leftFromE_21 a_t_leftFromE_22 a_t_leftFromE_23 a_t_leftFromE_24 a_t_leftFromE_25 a_t_leftFromE_26 a_t_leftFromE_27 a_t_leftFromE_28 a_t_leftFromE_29 g_t_1 g_t_2 g_t_3 c_hours c_sets c_cost c_carriedBy c_leftFromE)) rfl rfl rfl (rest := []) rfl rfl rfl dX7_fillHour_22 ?_
    refine g_iconst C dX7_fillHour_25 ?_
    refine g_iload_n 3 C dX7_fillHour_26 rfl rfl ?_
    refine g_aload_n 0 C dX7_fillHour_27 rfl rfl ?_
    refine g_get C fg_X7_31 0 rfl rfl dX7_fillHour_28 ?_
    refine g_aload_n 0 C dX7_fillHour_31 rfl rfl ?_
    refine g_get C fg_X7_25 0 rfl rfl dX7_fillHour_32 ?_
    refine g_st (st' := [.int (wI c_sets), .ref a_t_carriedBy, .int (wI x3), .int (wI 0), .int (wI r2)]) rfl ?_
    refine g_iconst C dX7_fillHour_35 ?_
    refine g_isub C dX7_fillHour_36 ?_
    refine g_iload C dX7_fillHour_37 rfl ?_
    refine g_isub C dX7_fillHour_39 ?_
    obtain ⟨hc4, h⟩ := chk_some h
    refine g_iald C 1 rfl hc4 rfl dX7_fillHour_40 ?_
    refine g_isub C dX7_fillHour_41 ?_
    obtain ⟨r5, hr6, h⟩ := bnd1_some h
    refine g_callSI [] [0, 1, 2, 3, 4, 5, 6, 7, 8, 9, 10, 11, 12, 13, 14, 15, 16, 17, 18, 19, 20, 21, 22, 23, 24, 25, 26, 27, 28, 29, 30, 31, 32] [0, 1, 2, 3, 4, 5, 6, 7, 8, 9, 10, 11, 12, 13, 14, 15, 16, 17, 18, 19, 20, 21, 22, 23, 24, 25, 26, 27, 28, 29, 30, 31, 32] C mt_X7_69 (c_J9_max_7cf53 _ _ _ _ 0 (x3 - (c_carriedBy ((c_sets - 1) - x4))) F hr6) rfl rfl (ws2 := (W_X7_fillHour (eCy E) a_t a_t_carriedBy a_t_leftFrom a_t_leftFromE_0 a_t_leftFromE_1 a_t_leftFromE_2 a_t_leftFromE_3 a_t_leftFromE_4 a_t_leftFromE_5 a_t_leftFromE_6 a_t_leftFromE_7 a_t_leftFromE_8 a_t_leftFromE_9 a_t_leftFromE_10 a_t_leftFromE_11 a_t_leftFromE_12 a_t_leftFromE_13 a_t_leftFromE_14 a_t_leftFromE_15 a_t_leftFromE_16 a_t_leftFromE_17 a_t_leftFromE_18 a_t_leftFromE_19 a_t_leftFromE_20 a_t_leftFromE_21 a_t_leftFromE_22 a_t_leftFromE_23 a_t_leftFromE_24 a_t_leftFromE_25 a_t_leftFromE_26 a_t_leftFromE_27 a_t_leftFromE_28 a_t_leftFromE_29 g_t_1 g_t_2 g_t_3 c_hours c_sets c_cost c_carriedBy c_leftFromE)) rfl rfl rfl (rest := [.int (wI r2)]) rfl rfl rfl dX7_fillHour_42 ?_
    refine g_iadd C dX7_fillHour_45 ?_
    obtain ⟨y7, e_y7, h⟩ := nam_some h
    refine g_topI e_y7 ?_
    refine g_istore C hN dX7_fillHour_46 rfl (L' := [some (.ref a_t), some (.int (wI x1)), some (.int (wI x2)), some (.int (wI x3)), some (.int (wI x4)), some (.int (wI y7)), none]) rfl ?_
    refine g_iload_n 1 C dX7_fillHour_48 rfl rfl ?_
    refine g_iconst C dX7_fillHour_49 ?_
    refine g_iadd C dX7_fillHour_50 ?_
    refine g_aload_n 0 C dX7_fillHour_51 rfl rfl ?_
    refine g_get C fg_X7_9 0 rfl rfl dX7_fillHour_52 ?_
    refine g_st (st' := [.int (wI c_hours), .int (wI (x1 + 1))]) rfl ?_
    refine g_icmp_ge 85 C dX7_fillHour_55 (by decide) h (fun h => ?_) (fun h => ?_)
    · exact wb_X7_fillHour_85 C hN h hk3 hret
    · refine g_aload_n 0 C dX7_fillHour_58 rfl rfl ?_
      refine g_iload_n 1 C dX7_fillHour_59 rfl rfl ?_
      refine g_iconst C dX7_fillHour_60 ?_
      refine g_iadd C dX7_fillHour_61 ?_
      refine g_iload C dX7_fillHour_62 rfl ?_
      obtain ⟨r8, hr9, h⟩ := bnd1_some h
      refine g_callI [0, 2, 3, 4, 5, 6, 7, 8, 9, 10, 11, 12, 13, 14, 15, 16, 17, 18, 19, 20, 21, 22, 23, 24, 25, 26, 27, 28, 29, 30, 31, 32] [1] [1, 0, 2, 3, 4, 5, 6, 7, 8, 9, 10, 11, 12, 13, 14, 15, 16, 17, 18, 19, 20, 21, 22, 23, 24, 25, 26, 27, 28, 29, 30, 31, 32] C mt_X7_72 (c_X7_bestAfter _ _ _ _ a_t a_t_leftFrom a_t_leftFromE_0 a_t_leftFromE_1 a_t_leftFromE_2 a_t_leftFromE_3 a_t_leftFromE_4 a_t_leftFromE_5 a_t_leftFromE_6 a_t_leftFromE_7 a_t_leftFromE_8 a_t_leftFromE_9 a_t_leftFromE_10 a_t_leftFromE_11 a_t_leftFromE_12 a_t_leftFromE_13 a_t_leftFromE_14 a_t_leftFromE_15 a_t_leftFromE_16 a_t_leftFromE_17 a_t_leftFromE_18 a_t_leftFromE_19 a_t_leftFromE_20 a_t_leftFromE_21 a_t_leftFromE_22 a_t_leftFromE_23 a_t_leftFromE_24 a_t_leftFromE_25 a_t_leftFromE_26 a_t_leftFromE_27 a_t_leftFromE_28 a_t_leftFromE_29 (.int (wI c_hours)) (g_t_1) (g_t_2) (g_t_3) (.ref a_t_carriedBy) (x1 + 1) x4 c_sets c_cost c_leftFromE F hr9) (q0 := 0) rfl (ci := 7) rfl rfl rfl (ws2 := (W_X7_fillHour (eCy E) a_t a_t_carriedBy a_t_leftFrom a_t_leftFromE_0 a_t_leftFromE_1 a_t_leftFromE_2 a_t_leftFromE_3 a_t_leftFromE_4 a_t_leftFromE_5 a_t_leftFromE_6 a_t_leftFromE_7 a_t_leftFromE_8 a_t_leftFromE_9 a_t_leftFromE_10 a_t_leftFromE_11 a_t_leftFromE_12 a_t_leftFromE_13 a_t_leftFromE_14 a_t_leftFromE_15 a_t_leftFromE_16 a_t_leftFromE_17 a_t_leftFromE_18 a_t_leftFromE_19 a_t_leftFromE_20 a_t_leftFromE_21 a_t_leftFromE_22 a_t_leftFromE_23 a_t_leftFromE_24 a_t_leftFromE_25 a_t_leftFromE_26 a_t_leftFromE_27 a_t_leftFromE_28 a_t_leftFromE_29 g_t_1 g_t_2 g_t_3 c_hours c_sets c_cost c_carriedBy c_leftFromE)) rfl rfl rfl (rest := []) rfl rfl rfl dX7_fillHour_64 ?_
      refine g_istore C hN dX7_fillHour_67 rfl (L' := [some (.ref a_t), some (.int (wI x1)), some (.int (wI x2)), some (.int (wI x3)), some (.int (wI x4)), some (.int (wI y7)), some (.int (wI r8))]) rfl ?_
      refine g_iload C dX7_fillHour_69 rfl ?_
      refine g_aload_n 0 C dX7_fillHour_71 rfl rfl ?_
      refine g_iload_n 1 C dX7_fillHour_72 rfl rfl ?_
      refine g_iconst C dX7_fillHour_73 ?_
      refine g_iadd C dX7_fillHour_74 ?_
      refine g_iload C dX7_fillHour_75 rfl ?_
      refine g_iload C dX7_fillHour_77 rfl ?_
      obtain ⟨r10, hr11, h⟩ := bnd1_some h
      refine g_callI [0, 2, 3, 4, 5, 6, 7, 8, 9, 10, 11, 12, 13, 14, 15, 16, 17, 18, 19, 20, 21, 22, 23, 24, 25, 26, 27, 28, 29, 30, 31, 32] [1] [1, 0, 2, 3, 4, 5, 6, 7, 8, 9, 10, 11, 12, 13, 14, 15, 16, 17, 18, 19, 20, 21, 22, 23, 24, 25, 26, 27, 28, 29, 30, 31, 32] C mt_X7_75 (c_X7_priceOf _ _ _ _ a_t a_t_leftFrom a_t_leftFromE_0 a_t_leftFromE_1 a_t_leftFromE_2 a_t_leftFromE_3 a_t_leftFromE_4 a_t_leftFromE_5 a_t_leftFromE_6 a_t_leftFromE_7 a_t_leftFromE_8 a_t_leftFromE_9 a_t_leftFromE_10 a_t_leftFromE_11 a_t_leftFromE_12 a_t_leftFromE_13 a_t_leftFromE_14 a_t_leftFromE_15 a_t_leftFromE_16 a_t_leftFromE_17 a_t_leftFromE_18 a_t_leftFromE_19 a_t_leftFromE_20 a_t_leftFromE_21 a_t_leftFromE_22 a_t_leftFromE_23 a_t_leftFromE_24 a_t_leftFromE_25 a_t_leftFromE_26 a_t_leftFromE_27 a_t_leftFromE_28 a_t_leftFromE_29 (.int (wI c_hours)) (g_t_1) (g_t_2) (g_t_3) (.int (wI c_sets)) (.ref a_t_carriedBy) (x1 + 1) x4 r8 c_cost c_leftFromE F hr11) (q0 := 0) rfl (ci := 7) rfl rfl rfl (ws2 := (W_X7_fillHour (eCy E) a_t a_t_carriedBy a_t_leftFrom a_t_leftFromE_0 a_t_leftFromE_1 a_t_leftFromE_2 a_t_leftFromE_3 a_t_leftFromE_4 a_t_leftFromE_5 a_t_leftFromE_6 a_t_leftFromE_7 a_t_leftFromE_8 a_t_leftFromE_9 a_t_leftFromE_10 a_t_leftFromE_11 a_t_leftFromE_12 a_t_leftFromE_13 a_t_leftFromE_14 a_t_leftFromE_15 a_t_leftFromE_16 a_t_leftFromE_17 a_t_leftFromE_18 a_t_leftFromE_19 a_t_leftFromE_20 a_t_leftFromE_21 a_t_leftFromE_22 a_t_leftFromE_23 a_t_leftFromE_24 a_t_leftFromE_25 a_t_leftFromE_26 a_t_leftFromE_27 a_t_leftFromE_28 a_t_leftFromE_29 g_t_1 g_t_2 g_t_3 c_hours c_sets c_cost c_carriedBy c_leftFromE)) rfl rfl rfl (rest := [.int (wI y7)]) rfl rfl rfl dX7_fillHour_79 ?_
      refine g_iadd C dX7_fillHour_82 ?_
      obtain ⟨y12, e_y12, h⟩ := nam_some h
      refine g_topI e_y12 ?_
      refine g_istore C hN dX7_fillHour_83 rfl (L' := [some (.ref a_t), some (.int (wI x1)), some (.int (wI x2)), some (.int (wI x3)), some (.int (wI x4)), some (.int (wI y12)), some (.int (wI r8))]) rfl ?_
      refine g_mask [true, true, true, true, true, true, false] (L' := [some (.ref a_t), some (.int (wI x1)), some (.int (wI x2)), some (.int (wI x3)), some (.int (wI x4)), some (.int (wI y12)), none]) rfl ?_
      exact wb_X7_fillHour_85 C hN h hk3 hret
set_option maxRecDepth 100000 in
set_option maxHeartbeats 4000000 in
theorem wl_X7_fillHour_3 {F : Nat} {v : (Int → Int → Int)} {x1 : Int} {x2 : Int} {x3 : Int} {x4 : Int} {c_hours : Int} {c_sets : Int} {c_cost : Int} {c_carriedBy : Int → Int} {c_leftFromE : Int → Int → Int} (C : Cx E cX7_fillHour RX7 { frames := 3, cells := 0, slots := 0, locals := 67 }) (hN : eN E = 7) (h : ml_X7_fillHour_3 F x1 x2 x3 x4 c_hours c_sets c_cost c_carriedBy c_leftFromE = some v) (hret : ∀ (pc : Nat) (L : List (Option Value)), decode cX7_fillHour pc = .ok (.return_, 1) → GG E 0 0 (W_X7_fillHour (eCy E) a_t a_t_carriedBy a_t_leftFrom a_t_leftFromE_0 a_t_leftFromE_1 a_t_leftFromE_2 a_t_leftFromE_3 a_t_leftFromE_4 a_t_leftFromE_5 a_t_leftFromE_6 a_t_leftFromE_7 a_t_leftFromE_8 a_t_leftFromE_9 a_t_leftFromE_10 a_t_leftFromE_11 a_t_leftFromE_12 a_t_leftFromE_13 a_t_leftFromE_14 a_t_leftFromE_15 a_t_leftFromE_16 a_t_leftFromE_17 a_t_leftFromE_18 a_t_leftFromE_19 a_t_leftFromE_20 a_t_leftFromE_21 a_t_leftFromE_22 a_t_leftFromE_23 a_t_leftFromE_24 a_t_leftFromE_25 a_t_leftFromE_26 a_t_leftFromE_27 a_t_leftFromE_28 a_t_leftFromE_29 g_t_1 g_t_2 g_t_3 c_hours c_sets c_cost c_carriedBy v) L pc []) : GG E 0 0 (W_X7_fillHour (eCy E) a_t a_t_carriedBy a_t_leftFrom a_t_leftFromE_0 a_t_leftFromE_1 a_t_leftFromE_2 a_t_leftFromE_3 a_t_leftFromE_4 a_t_leftFromE_5 a_t_leftFromE_6 a_t_leftFromE_7 a_t_leftFromE_8 a_t_leftFromE_9 a_t_leftFromE_10 a_t_leftFromE_11 a_t_leftFromE_12 a_t_leftFromE_13 a_t_leftFromE_14 a_t_leftFromE_15 a_t_leftFromE_16 a_t_leftFromE_17 a_t_leftFromE_18 a_t_leftFromE_19 a_t_leftFromE_20 a_t_leftFromE_21 a_t_leftFromE_22 a_t_leftFromE_23 a_t_leftFromE_24 a_t_leftFromE_25 a_t_leftFromE_26 a_t_leftFromE_27 a_t_leftFromE_28 a_t_leftFromE_29 g_t_1 g_t_2 g_t_3 c_hours c_sets c_cost c_carriedBy c_leftFromE) [some (.ref a_t), some (.int (wI x1)), some (.int (wI x2)), some (.int (wI x3)), some (.int (wI x4)), none, none] 3 [] := by
  unfold ml_X7_fillHour_3 at h
  exact loop_walk (g := fun (q : Int × (Int → Int → Int)) => GG E 0 0 (W_X7_fillHour (eCy E) a_t a_t_carriedBy a_t_leftFrom a_t_leftFromE_0 a_t_leftFromE_1 a_t_leftFromE_2 a_t_leftFromE_3 a_t_leftFromE_4 a_t_leftFromE_5 a_t_leftFromE_6 a_t_leftFromE_7 a_t_leftFromE_8 a_t_leftFromE_9 a_t_leftFromE_10 a_t_leftFromE_11 a_t_leftFromE_12 a_t_leftFromE_13 a_t_leftFromE_14 a_t_leftFromE_15 a_t_leftFromE_16 a_t_leftFromE_17 a_t_leftFromE_18 a_t_leftFromE_19 a_t_leftFromE_20 a_t_leftFromE_21 a_t_leftFromE_22 a_t_leftFromE_23 a_t_leftFromE_24 a_t_leftFromE_25 a_t_leftFromE_26 a_t_leftFromE_27 a_t_leftFromE_28 a_t_leftFromE_29 g_t_1 g_t_2 g_t_3 c_hours c_sets c_cost c_carriedBy (q.2)) [some (.ref a_t), some (.int (wI x1)), some (.int (wI x2)), some (.int (wI x3)), some (.int (wI (q.1))), none, none] 3 []) (fun k hk q h => wb_X7_fillHour_3 C hN h (fun y0 y1 hh => hk (y0, y1) hh) hret) F (x4, c_leftFromE) h
set_option maxRecDepth 100000 in
set_option maxHeartbeats 4000000 in
theorem wm_X7_fillHour {F : Nat} {v : (Int → Int → Int)} {x1 : Int} {x2 : Int} {x3 : Int} {c_hours : Int} {c_sets : Int} {c_cost : Int} {c_carriedBy : Int → Int} {c_leftFromE : Int → Int → Int} (C : Cx E cX7_fillHour RX7 { frames := 3, cells := 0, slots := 0, locals := 67 }) (hN : eN E = 7) (h : m_X7_fillHour F x1 x2 x3 c_hours c_sets c_cost c_carriedBy c_leftFromE = some v) (hret : ∀ (pc : Nat) (L : List (Option Value)), decode cX7_fillHour pc = .ok (.return_, 1) → GG E 0 0 (W_X7_fillHour (eCy E) a_t a_t_carriedBy a_t_leftFrom a_t_leftFromE_0 a_t_leftFromE_1 a_t_leftFromE_2 a_t_leftFromE_3 a_t_leftFromE_4 a_t_leftFromE_5 a_t_leftFromE_6 a_t_leftFromE_7 a_t_leftFromE_8 a_t_leftFromE_9 a_t_leftFromE_10 a_t_leftFromE_11 a_t_leftFromE_12 a_t_leftFromE_13 a_t_leftFromE_14 a_t_leftFromE_15 a_t_leftFromE_16 a_t_leftFromE_17 a_t_leftFromE_18 a_t_leftFromE_19 a_t_leftFromE_20 a_t_leftFromE_21 a_t_leftFromE_22 a_t_leftFromE_23 a_t_leftFromE_24 a_t_leftFromE_25 a_t_leftFromE_26 a_t_leftFromE_27 a_t_leftFromE_28 a_t_leftFromE_29 g_t_1 g_t_2 g_t_3 c_hours c_sets c_cost c_carriedBy v) L pc []) : GG E 0 0 (W_X7_fillHour (eCy E) a_t a_t_carriedBy a_t_leftFrom a_t_leftFromE_0 a_t_leftFromE_1 a_t_leftFromE_2 a_t_leftFromE_3 a_t_leftFromE_4 a_t_leftFromE_5 a_t_leftFromE_6 a_t_leftFromE_7 a_t_leftFromE_8 a_t_leftFromE_9 a_t_leftFromE_10 a_t_leftFromE_11 a_t_leftFromE_12 a_t_leftFromE_13 a_t_leftFromE_14 a_t_leftFromE_15 a_t_leftFromE_16 a_t_leftFromE_17 a_t_leftFromE_18 a_t_leftFromE_19 a_t_leftFromE_20 a_t_leftFromE_21 a_t_leftFromE_22 a_t_leftFromE_23 a_t_leftFromE_24 a_t_leftFromE_25 a_t_leftFromE_26 a_t_leftFromE_27 a_t_leftFromE_28 a_t_leftFromE_29 g_t_1 g_t_2 g_t_3 c_hours c_sets c_cost c_carriedBy c_leftFromE) [some (.ref a_t), some (.int (wI x1)), some (.int (wI x2)), some (.int (wI x3)), none, none, none] 0 [] := by
  unfold m_X7_fillHour at h
  refine g_iconst C dX7_fillHour_0 ?_
  refine g_istore C hN dX7_fillHour_1 rfl (L' := [some (.ref a_t), some (.int (wI x1)), some (.int (wI x2)), some (.int (wI x3)), some (.int (wI 0)), none, none]) rfl ?_
  exact wl_X7_fillHour_3 C hN h hret
end S_X7_fillHour
set_option maxRecDepth 100000 in
set_option maxHeartbeats 4000000 in
theorem c_X7_fillHour (l : Launch) (D : va_G) (cy : Nat → ClassId) (ad : AD) (a_t a_t_carriedBy a_t_leftFrom a_t_leftFromE_0 a_t_leftFromE_1 a_t_leftFromE_2 a_t_leftFromE_3 a_t_leftFromE_4 a_t_leftFromE_5 a_t_leftFromE_6 a_t_leftFromE_7 a_t_leftFromE_8 a_t_leftFromE_9 a_t_leftFromE_10 a_t_leftFromE_11 a_t_leftFromE_12 a_t_leftFromE_13 a_t_leftFromE_14 a_t_leftFromE_15 a_t_leftFromE_16 a_t_leftFromE_17 a_t_leftFromE_18 a_t_leftFromE_19 a_t_leftFromE_20 a_t_leftFromE_21 a_t_leftFromE_22 a_t_leftFromE_23 a_t_leftFromE_24 a_t_leftFromE_25 a_t_leftFromE_26 a_t_leftFromE_27 a_t_leftFromE_28 a_t_leftFromE_29 : Nat) (g_t_1 : Value) (g_t_2 : Value) (g_t_3 : Value) (x1 : Int) (x2 : Int) (x3 : Int) (c_hours : Int) (c_sets : Int) (c_cost : Int) (c_carriedBy : Int → Int) (c_leftFromE : Int → Int → Int) (F : Nat) {v : (Int → Int → Int)} (h : m_X7_fillHour F x1 x2 x3 c_hours c_sets c_cost c_carriedBy c_leftFromE = some v) : Ct l yX7_fillHour cX7_fillHour 7 none { frames := 3, cells := 0, slots := 0, locals := 67 } D cy ad [.ref a_t, .int (wI x1), .int (wI x2), .int (wI x3)] (W_X7_fillHour cy a_t a_t_carriedBy a_t_leftFrom a_t_leftFromE_0 a_t_leftFromE_1 a_t_leftFromE_2 a_t_leftFromE_3 a_t_leftFromE_4 a_t_leftFromE_5 a_t_leftFromE_6 a_t_leftFromE_7 a_t_leftFromE_8 a_t_leftFromE_9 a_t_leftFromE_10 a_t_leftFromE_11 a_t_leftFromE_12 a_t_leftFromE_13 a_t_leftFromE_14 a_t_leftFromE_15 a_t_leftFromE_16 a_t_leftFromE_17 a_t_leftFromE_18 a_t_leftFromE_19 a_t_leftFromE_20 a_t_leftFromE_21 a_t_leftFromE_22 a_t_leftFromE_23 a_t_leftFromE_24 a_t_leftFromE_25 a_t_leftFromE_26 a_t_leftFromE_27 a_t_leftFromE_28 a_t_leftFromE_29 g_t_1 g_t_2 g_t_3 c_hours c_sets c_cost c_carriedBy c_leftFromE) (W_X7_fillHour cy a_t a_t_carriedBy a_t_leftFrom a_t_leftFromE_0 a_t_leftFromE_1 a_t_leftFromE_2 a_t_leftFromE_3 a_t_leftFromE_4 a_t_leftFromE_5 a_t_leftFromE_6 a_t_leftFromE_7 a_t_leftFromE_8 a_t_leftFromE_9 a_t_leftFromE_10 a_t_leftFromE_11 a_t_leftFromE_12 a_t_leftFromE_13 a_t_leftFromE_14 a_t_leftFromE_15 a_t_leftFromE_16 a_t_leftFromE_17 a_t_leftFromE_18 a_t_leftFromE_19 a_t_leftFromE_20 a_t_leftFromE_21 a_t_leftFromE_22 a_t_leftFromE_23 a_t_leftFromE_24 a_t_leftFromE_25 a_t_leftFromE_26 a_t_leftFromE_27 a_t_leftFromE_28 a_t_leftFromE_29 g_t_1 g_t_2 g_t_3 c_hours c_sets c_cost c_carriedBy v) none := by
  refine Ct.introV (j := 3) (plainFor_of_name (by decide)) rfl rfl (fun E C e1 e2 e3 e4 e5 hret => ?_)
  subst e1; subst e2; subst e3; subst e4
  exact wm_X7_fillHour C e5 h hret
-- MovingStair$Turning.choose()V
def W_X7_choose (cy : Nat → ClassId) (a_t a_t_chosen a_t_leftFrom a_t_leftFromE_0 a_t_leftFromE_1 a_t_leftFromE_2 a_t_leftFromE_3 a_t_leftFromE_4 a_t_leftFromE_5 a_t_leftFromE_6 a_t_leftFromE_7 a_t_leftFromE_8 a_t_leftFromE_9 a_t_leftFromE_10 a_t_leftFromE_11 a_t_leftFromE_12 a_t_leftFromE_13 a_t_leftFromE_14 a_t_leftFromE_15 a_t_leftFromE_16 a_t_leftFromE_17 a_t_leftFromE_18 a_t_leftFromE_19 a_t_leftFromE_20 a_t_leftFromE_21 a_t_leftFromE_22 a_t_leftFromE_23 a_t_leftFromE_24 a_t_leftFromE_25 a_t_leftFromE_26 a_t_leftFromE_27 a_t_leftFromE_28 a_t_leftFromE_29 : Nat) (g_t_6 : Value) (c_hours : Int) (c_least : Int) (c_turns : Int) (c_sets : Int) (c_cost : Int) (c_chosen : Int → Int) (c_leftFromE : Int → Int → Int) : va_W := [(a_t, .inr (7, [.int (wI c_hours), .int (wI c_least), .int (wI c_turns), .ref a_t_chosen, .int (wI c_sets), .int (wI c_cost), g_t_6, .ref a_t_leftFrom])), (a_t_chosen, .inl (cy 1, 30, .inl (aI c_chosen))), (a_t_leftFrom, .inl (cy 6, 30, .inr (.inr (.inr (.inr (selO [a_t_leftFromE_0, a_t_leftFromE_1, a_t_leftFromE_2, a_t_leftFromE_3, a_t_leftFromE_4, a_t_leftFromE_5, a_t_leftFromE_6, a_t_leftFromE_7, a_t_leftFromE_8, a_t_leftFromE_9, a_t_leftFromE_10, a_t_leftFromE_11, a_t_leftFromE_12, a_t_leftFromE_13, a_t_leftFromE_14, a_t_leftFromE_15, a_t_leftFromE_16, a_t_leftFromE_17, a_t_leftFromE_18, a_t_leftFromE_19, a_t_leftFromE_20, a_t_leftFromE_21, a_t_leftFromE_22, a_t_leftFromE_23, a_t_leftFromE_24, a_t_leftFromE_25, a_t_leftFromE_26, a_t_leftFromE_27, a_t_leftFromE_28, a_t_leftFromE_29])))))), (a_t_leftFromE_0, .inl (cy 1, 16, .inl (aI (c_leftFromE 0)))), (a_t_leftFromE_1, .inl (cy 1, 16, .inl (aI (c_leftFromE 1)))), (a_t_leftFromE_2, .inl (cy 1, 16, .inl (aI (c_leftFromE 2)))), (a_t_leftFromE_3, .inl (cy 1, 16, .inl (aI (c_leftFromE 3)))), (a_t_leftFromE_4, .inl (cy 1, 16, .inl (aI (c_leftFromE 4)))), (a_t_leftFromE_5, .inl (cy 1, 16, .inl (aI (c_leftFromE 5)))), (a_t_leftFromE_6, .inl (cy 1, 16, .inl (aI (c_leftFromE 6)))), (a_t_leftFromE_7, .inl (cy 1, 16, .inl (aI (c_leftFromE 7)))), (a_t_leftFromE_8, .inl (cy 1, 16, .inl (aI (c_leftFromE 8)))), (a_t_leftFromE_9, .inl (cy 1, 16, .inl (aI (c_leftFromE 9)))), (a_t_leftFromE_10, .inl (cy 1, 16, .inl (aI (c_leftFromE 10)))), (a_t_leftFromE_11, .inl (cy 1, 16, .inl (aI (c_leftFromE 11)))), (a_t_leftFromE_12, .inl (cy 1, 16, .inl (aI (c_leftFromE 12)))), (a_t_leftFromE_13, .inl (cy 1, 16, .inl (aI (c_leftFromE 13)))), (a_t_leftFromE_14, .inl (cy 1, 16, .inl (aI (c_leftFromE 14)))), (a_t_leftFromE_15, .inl (cy 1, 16, .inl (aI (c_leftFromE 15)))), (a_t_leftFromE_16, .inl (cy 1, 16, .inl (aI (c_leftFromE 16)))), (a_t_leftFromE_17, .inl (cy 1, 16, .inl (aI (c_leftFromE 17)))), (a_t_leftFromE_18, .inl (cy 1, 16, .inl (aI (c_leftFromE 18)))), (a_t_leftFromE_19, .inl (cy 1, 16, .inl (aI (c_leftFromE 19)))), (a_t_leftFromE_20, .inl (cy 1, 16, .inl (aI (c_leftFromE 20)))), (a_t_leftFromE_21, .inl (cy 1, 16, .inl (aI (c_leftFromE 21)))), (a_t_leftFromE_22, .inl (cy 1, 16, .inl (aI (c_leftFromE 22)))), (a_t_leftFromE_23, .inl (cy 1, 16, .inl (aI (c_leftFromE 23)))), (a_t_leftFromE_24, .inl (cy 1, 16, .inl (aI (c_leftFromE 24)))), (a_t_leftFromE_25, .inl (cy 1, 16, .inl (aI (c_leftFromE 25)))), (a_t_leftFromE_26, .inl (cy 1, 16, .inl (aI (c_leftFromE 26)))), (a_t_leftFromE_27, .inl (cy 1, 16, .inl (aI (c_leftFromE 27)))), (a_t_leftFromE_28, .inl (cy 1, 16, .inl (aI (c_leftFromE 28)))), (a_t_leftFromE_29, .inl (cy 1, 16, .inl (aI (c_leftFromE 29))))]
def mb_X7_choose_66 (F : Nat) (k27 : Int → (Int → Int) → Option (Int × Int × (Int → Int))) (x1 : Int) (c_hours : Int) (c_turns : Int) (c_sets : Int) (c_cost : Int) (c_chosen : Int → Int) (c_leftFromE : Int → Int → Int) : Option (Int × Int × (Int → Int)) :=
  k27 (x1 + 1) c_chosen
def mb_X7_choose_91 (F : Nat) (k91 : Int → Int → (Int → Int) → Option (Int × Int × (Int → Int))) (x1 : Int) (c_hours : Int) (c_least : Int) (c_turns : Int) (c_sets : Int) (c_cost : Int) (c_chosen : Int → Int) (c_leftFromE : Int → Int → Int) : Option (Int × Int × (Int → Int)) :=
  if wI c_hours ≤ wI x1 then
    (some (c_least, c_turns, c_chosen))
  else
    (chk (0 ≤ (x1 - 1) ∧ (x1 - 1) < 30) <| bnd1 (m_X7_bestAfter F x1 (c_chosen (x1 - 1)) c_sets c_cost c_leftFromE) fun r2 => chk (0 ≤ x1 ∧ x1 < 30) <| chk (0 ≤ x1 ∧ x1 < 30) <| chk (0 ≤ (x1 - 1) ∧ (x1 - 1) < 30) <| bnd1 (m_J6_bitCount_0f7a4 F (xorI ((up c_chosen x1 r2) x1) ((up c_chosen x1 r2) (x1 - 1)))) fun r7 => nam (c_turns + r7) fun y9 => k91 (x1 + 1) y9 (up c_chosen x1 r2))
def ml_X7_choose_91 (F : Nat) (x1 : Int) (c_hours : Int) (c_least : Int) (c_turns : Int) (c_sets : Int) (c_cost : Int) (c_chosen : Int → Int) (c_leftFromE : Int → Int → Int) : Option (Int × Int × (Int → Int)) :=
  loopN (fun (k : Int × Int × (Int → Int) → Option (Int × Int × (Int → Int))) q => mb_X7_choose_91 F (fun y0 y1 y2 => k (y0, y1, y2)) q.1 c_hours c_least q.2.1 c_sets c_cost q.2.2 c_leftFromE) F (x1, c_turns, c_chosen)
def mb_X7_choose_27 (F : Nat) (k27 : Int → (Int → Int) → Option (Int × Int × (Int → Int))) (x1 : Int) (c_hours : Int) (c_turns : Int) (c_sets : Int) (c_cost : Int) (c_chosen : Int → Int) (c_leftFromE : Int → Int → Int) : Option (Int × Int × (Int → Int)) :=
  if wI c_sets ≤ wI x1 then
    (chk (0 ≤ (c_chosen 0) ∧ (c_chosen 0) < 16) <| nam (c_leftFromE 0 (c_chosen 0)) fun y2 => ml_X7_choose_91 F 1 c_hours y2 c_turns c_sets c_cost c_chosen c_leftFromE)
  else
    (chk (0 ≤ x1 ∧ x1 < 16) <| chk (0 ≤ (c_chosen 0) ∧ (c_chosen 0) < 16) <| if wI (c_leftFromE 0 (c_chosen 0)) ≤ wI (c_leftFromE 0 x1) then
    (mb_X7_choose_66 F k27 x1 c_hours c_turns c_sets c_cost c_chosen c_leftFromE)
  else
    (mb_X7_choose_66 F k27 x1 c_hours c_turns c_sets c_cost (up c_chosen 0 x1) c_leftFromE))
def ml_X7_choose_27 (F : Nat) (x1 : Int) (c_hours : Int) (c_turns : Int) (c_sets : Int) (c_cost : Int) (c_chosen : Int → Int) (c_leftFromE : Int → Int → Int) : Option (Int × Int × (Int → Int)) :=
  loopN (fun (k : Int × (Int → Int) → Option (Int × Int × (Int → Int))) q => mb_X7_choose_27 F (fun y0 y1 => k (y0, y1)) q.1 c_hours c_turns c_sets c_cost q.2 c_leftFromE) F (x1, c_chosen)
def m_X7_choose (F : Nat) (c_hours : Int) (c_sets : Int) (c_cost : Int) (c_chosen : Int → Int) (c_leftFromE : Int → Int → Int) : Option (Int × Int × (Int → Int)) :=
  if wI c_hours = wI 0 then
    (some (0, 0, c_chosen))
  else
    (ml_X7_choose_27 F 1 c_hours 0 c_sets c_cost (up c_chosen 0 0) c_leftFromE)
section S_X7_choose
variable {E : EE} {a_t a_t_chosen a_t_leftFrom a_t_leftFromE_0 a_t_leftFromE_1 a_t_leftFromE_2 a_t_leftFromE_3 a_t_leftFromE_4 a_t_leftFromE_5 a_t_leftFromE_6 a_t_leftFromE_7 a_t_leftFromE_8 a_t_leftFromE_9 a_t_leftFromE_10 a_t_leftFromE_11 a_t_leftFromE_12 a_t_leftFromE_13 a_t_leftFromE_14 a_t_leftFromE_15 a_t_leftFromE_16 a_t_leftFromE_17 a_t_leftFromE_18 a_t_leftFromE_19 a_t_leftFromE_20 a_t_leftFromE_21 a_t_leftFromE_22 a_t_leftFromE_23 a_t_leftFromE_24 a_t_leftFromE_25 a_t_leftFromE_26 a_t_leftFromE_27 a_t_leftFromE_28 a_t_leftFromE_29 : Nat} {g_t_6 : Value}
set_option maxRecDepth 100000 in
set_option maxHeartbeats 4000000 in
theorem wb_X7_choose_66 {F : Nat} {k27 : Int → (Int → Int) → Option (Int × Int × (Int → Int))} {v : Int × Int × (Int → Int)} {x1 : Int} {c_hours : Int} {c_turns : Int} {c_sets : Int} {c_cost : Int} {c_chosen : Int → Int} {c_leftFromE : Int → Int → Int} {c_least : Int} (C : Cx E cX7_choose RX7 { frames := 3, cells := 0, slots := 0, locals := 67 }) (hN : eN E = 2) (h : mb_X7_choose_66 F k27 x1 c_hours c_turns c_sets c_cost c_chosen c_leftFromE = some v) (hk27 : ∀ (y_x1 : Int) (y_c_chosen : Int → Int) (z_c_least : Int), k27 y_x1 y_c_chosen = some v → GG E 0 0 (W_X7_choose (eCy E) a_t a_t_chosen a_t_leftFrom a_t_leftFromE_0 a_t_leftFromE_1 a_t_leftFromE_2 a_t_leftFromE_3 a_t_leftFromE_4 a_t_leftFromE_5 a_t_leftFromE_6 a_t_leftFromE_7 a_t_leftFromE_8 a_t_leftFromE_9 a_t_leftFromE_10 a_t_leftFromE_11 a_t_leftFromE_12 a_t_leftFromE_13 a_t_leftFromE_14 a_t_leftFromE_15 a_t_leftFromE_16 a_t_leftFromE_17 a_t_leftFromE_18 a_t_leftFromE_19 a_t_leftFromE_20 a_t_leftFromE_21 a_t_leftFromE_22 a_t_leftFromE_23 a_t_leftFromE_24 a_t_leftFromE_25 a_t_leftFromE_26 a_t_leftFromE_27 a_t_leftFromE_28 a_t_leftFromE_29 g_t_6 c_hours z_c_least c_turns c_sets c_cost y_c_chosen c_leftFromE) [some (.ref a_t), some (.int (wI y_x1))] 27 []) (hret : ∀ (pc : Nat) (L : List (Option Value)), decode cX7_choose pc = .ok (.return_, 1) → GG E 0 0 (W_X7_choose (eCy E) a_t a_t_chosen a_t_leftFrom a_t_leftFromE_0 a_t_leftFromE_1 a_t_leftFromE_2 a_t_leftFromE_3 a_t_leftFromE_4 a_t_leftFromE_5 a_t_leftFromE_6 a_t_leftFromE_7 a_t_leftFromE_8 a_t_leftFromE_9 a_t_leftFromE_10 a_t_leftFromE_11 a_t_leftFromE_12 a_t_leftFromE_13 a_t_leftFromE_14 a_t_leftFromE_15 a_t_leftFromE_16 a_t_leftFromE_17 a_t_leftFromE_18 a_t_leftFromE_19 a_t_leftFromE_20 a_t_leftFromE_21 a_t_leftFromE_22 a_t_leftFromE_23 a_t_leftFromE_24 a_t_leftFromE_25 a_t_leftFromE_26 a_t_leftFromE_27 a_t_leftFromE_28 a_t_leftFromE_29 g_t_6 c_hours (v.1) (v.2.1) c_sets c_cost (v.2.2) c_leftFromE) L pc []) : GG E 0 0 (W_X7_choose (eCy E) a_t a_t_chosen a_t_leftFrom a_t_leftFromE_0 a_t_leftFromE_1 a_t_leftFromE_2 a_t_leftFromE_3 a_t_leftFromE_4 a_t_leftFromE_5 a_t_leftFromE_6 a_t_leftFromE_7 a_t_leftFromE_8 a_t_leftFromE_9 a_t_leftFromE_10 a_t_leftFromE_11 a_t_leftFromE_12 a_t_leftFromE_13 a_t_leftFromE_14 a_t_leftFromE_15 a_t_leftFromE_16 a_t_leftFromE_17 a_t_leftFromE_18 a_t_leftFromE_19 a_t_leftFromE_20 a_t_leftFromE_21 a_t_leftFromE_22 a_t_leftFromE_23 a_t_leftFromE_24 a_t_leftFromE_25 a_t_leftFromE_26 a_t_leftFromE_27 a_t_leftFromE_28 a_t_leftFromE_29 g_t_6 c_hours c_least c_turns c_sets c_cost c_chosen c_leftFromE) [some (.ref a_t), some (.int (wI x1))] 66 [] := by
  unfold mb_X7_choose_66 at h
  refine g_iinc C hN dX7_choose_66 rfl rfl (L' := [some (.ref a_t), some (.int (wI (x1 + 1)))]) rfl ?_
  refine g_goto (tgt := 27) C dX7_choose_69 (by decide) ?_
  exact hk27 _ _ _ h
set_option maxRecDepth 100000 in
set_option maxHeartbeats 4000000 in
theorem wb_X7_choose_91 {F : Nat} {k91 : Int → Int → (Int → Int) → Option (Int × Int × (Int → Int))} {v : Int × Int × (Int → Int)} {x1 : Int} {c_hours : Int} {c_least : Int} {c_turns : Int} {c_sets : Int} {c_cost : Int} {c_chosen : Int → Int} {c_leftFromE : Int → Int → Int} (C : Cx E cX7_choose RX7 { frames := 3, cells := 0, slots := 0, locals := 67 }) (hN : eN E = 2) (h : mb_X7_choose_91 F k91 x1 c_hours c_least c_turns c_sets c_cost c_chosen c_leftFromE = some v) (hk91 : ∀ (y_x1 : Int) (y_c_turns : Int) (y_c_chosen : Int → Int), k91 y_x1 y_c_turns y_c_chosen = some v → GG E 0 0 (W_X7_choose (eCy E) a_t a_t_chosen a_t_leftFrom a_t_leftFromE_0 a_t_leftFromE_1 a_t_leftFromE_2 a_t_leftFromE_3 a_t_leftFromE_4 a_t_leftFromE_5 a_t_leftFromE_6 a_t_leftFromE_7 a_t_leftFromE_8 a_t_leftFromE_9 a_t_leftFromE_10 a_t_leftFromE_11 a_t_leftFromE_12 a_t_leftFromE_13 a_t_leftFromE_14 a_t_leftFromE_15 a_t_leftFromE_16 a_t_leftFromE_17 a_t_leftFromE_18 a_t_leftFromE_19 a_t_leftFromE_20 a_t_leftFromE_21 a_t_leftFromE_22 a_t_leftFromE_23 a_t_leftFromE_24 a_t_leftFromE_25 a_t_leftFromE_26 a_t_leftFromE_27 a_t_leftFromE_28 a_t_leftFromE_29 g_t_6 c_hours c_least y_c_turns c_sets c_cost y_c_chosen c_leftFromE) [some (.ref a_t), some (.int (wI y_x1))] 91 []) (hret : ∀ (pc : Nat) (L : List (Option Value)), decode cX7_choose pc = .ok (.return_, 1) → GG E 0 0 (W_X7_choose (eCy E) a_t a_t_chosen a_t_leftFrom a_t_leftFromE_0 a_t_leftFromE_1 a_t_leftFromE_2 a_t_leftFromE_3 a_t_leftFromE_4 a_t_leftFromE_5 a_t_leftFromE_6 a_t_leftFromE_7 a_t_leftFromE_8 a_t_leftFromE_9 a_t_leftFromE_10 a_t_leftFromE_11 a_t_leftFromE_12 a_t_leftFromE_13 a_t_leftFromE_14 a_t_leftFromE_15 a_t_leftFromE_16 a_t_leftFromE_17 a_t_leftFromE_18 a_t_leftFromE_19 a_t_leftFromE_20 a_t_leftFromE_21 a_t_leftFromE_22 a_t_leftFromE_23 a_t_leftFromE_24 a_t_leftFromE_25 a_t_leftFromE_26 a_t_leftFromE_27 a_t_leftFromE_28 a_t_leftFromE_29 g_t_6 c_hours (v.1) (v.2.1) c_sets c_cost (v.2.2) c_leftFromE) L pc []) : GG E 0 0 (W_X7_choose (eCy E) a_t a_t_chosen a_t_leftFrom a_t_leftFromE_0 a_t_leftFromE_1 a_t_leftFromE_2 a_t_leftFromE_3 a_t_leftFromE_4 a_t_leftFromE_5 a_t_leftFromE_6 a_t_leftFromE_7 a_t_leftFromE_8 a_t_leftFromE_9 a_t_leftFromE_10 a_t_leftFromE_11 a_t_leftFromE_12 a_t_leftFromE_13 a_t_leftFromE_14 a_t_leftFromE_15 a_t_leftFromE_16 a_t_leftFromE_17 a_t_leftFromE_18 a_t_leftFromE_19 a_t_leftFromE_20 a_t_leftFromE_21 a_t_leftFromE_22 a_t_leftFromE_23 a_t_leftFromE_24 a_t_leftFromE_25 a_t_leftFromE_26 a_t_leftFromE_27 a_t_leftFromE_28 a_t_leftFromE_29 g_t_6 c_hours c_least c_turns c_sets c_cost c_chosen c_leftFromE) [some (.ref a_t), some (.int (wI x1))] 91 [] := by
  unfold mb_X7_choose_91 at h
  refine g_iload_n 1 C dX7_choose_91 rfl rfl ?_
  refine g_aload_n 0 C dX7_choose_92 rfl rfl ?_
  refine g_get C fg_X7_9 0 rfl rfl dX7_choose_93 ?_
  refine g_st (st' := [.int (wI c_hours), .int (wI x1)]) rfl ?_
  refine g_icmp_ge 151 C dX7_choose_96 (by decide) h (fun h => ?_) (fun h => ?_)
  · cases h
    exact hret 151 _ dX7_choose_151
  · refine g_aload_n 0 C dX7_choose_99 rfl rfl ?_
    refine g_get C fg_X7_21 0 rfl rfl dX7_choose_100 ?_
    refine g_iload_n 1 C dX7_choose_103 rfl rfl ?_
    refine g_aload_n 0 C dX7_choose_104 rfl rfl ?_
    refine g_iload_n 1 C dX7_choose_105 rfl rfl ?_
    refine g_aload_n 0 C dX7_choose_106 rfl rfl ?_
    refine g_get C fg_X7_21 0 rfl rfl dX7_choose_107 ?_
    refine g_iload_n 1 C dX7_choose_110 rfl rfl ?_
    refine g_iconst C dX7_choose_111 ?_
    refine g_isub C dX7_choose_112 ?_
    obtain ⟨hc1, h⟩ := chk_some h
    refine g_iald C 1 rfl hc1 rfl dX7_choose_113 ?_
    obtain ⟨r2, hr3, h⟩ := bnd1_some h
    refine g_callI [0, 2, 3, 4, 5, 6, 7, 8, 9, 10, 11, 12, 13, 14, 15, 16, 17, 18, 19, 20, 21, 22, 23, 24, 25, 26, 27, 28, 29, 30, 31, 32] [1] [1, 0, 2, 3, 4, 5, 6, 7, 8, 9, 10, 11, 12, 13, 14, 15, 16, 17, 18, 19, 20, 21, 22, 23, 24, 25, 26, 27, 28, 29, 30, 31, 32] C mt_X7_72 (c_X7_bestAfter _ _ _ _ a_t a_t_leftFrom a_t_leftFromE_0 a_t_leftFromE_1 a_t_leftFromE_2 a_t_leftFromE_3 a_t_leftFromE_4 a_t_leftFromE_5 a_t_leftFromE_6 a_t_leftFromE_7 a_t_leftFromE_8 a_t_leftFromE_9 a_t_leftFromE_10 a_t_leftFromE_11 a_t_leftFromE_12 a_t_leftFromE_13 a_t_leftFromE_14 a_t_leftFromE_15 a_t_leftFromE_16 a_t_leftFromE_17 a_t_leftFromE_18 a_t_leftFromE_19 a_t_leftFromE_20 a_t_leftFromE_21 a_t_leftFromE_22 a_t_leftFromE_23 a_t_leftFromE_24 a_t_leftFromE_25 a_t_leftFromE_26 a_t_leftFromE_27 a_t_leftFromE_28 a_t_leftFromE_29 (.int (wI c_hours)) (.int (wI c_least)) (.int (wI c_turns)) (.ref a_t_chosen) (g_t_6) x1 (c_chosen (x1 - 1)) c_sets c_cost c_leftFromE F hr3) (q0 := 0) rfl (ci := 7) rfl rfl rfl (ws2 := (W_X7_choose (eCy E) a_t a_t_chosen a_t_leftFrom a_t_leftFromE_0 a_t_leftFromE_1 a_t_leftFromE_2 a_t_leftFromE_3 a_t_leftFromE_4 a_t_leftFromE_5 a_t_leftFromE_6 a_t_leftFromE_7 a_t_leftFromE_8 a_t_leftFromE_9 a_t_leftFromE_10 a_t_leftFromE_11 a_t_leftFromE_12 a_t_leftFromE_13 a_t_leftFromE_14 a_t_leftFromE_15 a_t_leftFromE_16 a_t_leftFromE_17 a_t_leftFromE_18 a_t_leftFromE_19 a_t_leftFromE_20 a_t_leftFromE_21 a_t_leftFromE_22 a_t_leftFromE_23 a_t_leftFromE_24 a_t_leftFromE_25 a_t_leftFromE_26 a_t_leftFromE_27 a_t_leftFromE_28 a_t_leftFromE_29 g_t_6 c_hours c_least c_turns c_sets c_cost c_chosen c_leftFromE)) rfl rfl rfl (rest := [.int (wI x1), .ref a_t_chosen]) rfl rfl rfl dX7_choose_114 ?_
    obtain ⟨hc4, h⟩ := chk_some h
    refine g_iast C 1 rfl hc4 rfl (ws' := (W_X7_choose (eCy E) a_t a_t_chosen a_t_leftFrom a_t_leftFromE_0 a_t_leftFromE_1 a_t_leftFromE_2 a_t_leftFromE_3 a_t_leftFromE_4 a_t_leftFromE_5 a_t_leftFromE_6 a_t_leftFromE_7 a_t_leftFromE_8 a_t_leftFromE_9 a_t_leftFromE_10 a_t_leftFromE_11 a_t_leftFromE_12 a_t_leftFromE_13 a_t_leftFromE_14 a_t_leftFromE_15 a_t_leftFromE_16 a_t_leftFromE_17 a_t_leftFromE_18 a_t_leftFromE_19 a_t_leftFromE_20 a_t_leftFromE_21 a_t_leftFromE_22 a_t_leftFromE_23 a_t_leftFromE_24 a_t_leftFromE_25 a_t_leftFromE_26 a_t_leftFromE_27 a_t_leftFromE_28 a_t_leftFromE_29 g_t_6 c_hours c_least c_turns c_sets c_cost (up c_chosen x1 r2) c_leftFromE)) rfl dX7_choose_117 ?_
    refine g_aload_n 0 C dX7_choose_118 rfl rfl ?_
    refine g_dup C dX7_choose_119 rfl ?_
    refine g_get C fg_X7_18 0 rfl rfl dX7_choose_120 ?_
    refine g_st (st' := [.int (wI c_turns), .ref a_t]) rfl ?_
    refine g_aload_n 0 C dX7_choose_123 rfl rfl ?_
    refine g_get C fg_X7_21 0 rfl rfl dX7_choose_124 ?_
    refine g_iload_n 1 C dX7_choose_127 rfl rfl ?_
    obtain ⟨hc5, h⟩ := chk_some h
    refine g_iald C 1 rfl hc5 rfl dX7_choose_128 ?_
    refine g_aload_n 0 C dX7_choose_129 rfl rfl ?_
    refine g_get C fg_X7_21 0 rfl rfl dX7_choose_130 ?_
    refine g_iload_n 1 C dX7_choose_133 rfl rfl ?_
    refine g_iconst C dX7_choose_134 ?_
    refine g_isub C dX7_choose_135 ?_
    obtain ⟨hc6, h⟩ := chk_some h
    refine g_iald C 1 rfl hc6 rfl dX7_choose_136 ?_
    refine g_ixor C dX7_choose_137 ?_
    obtain ⟨r7, hr8, h⟩ := bnd1_some h
    refine g_callSI [] [0, 1, 2, 3, 4, 5, 6, 7, 8, 9, 10, 11, 12, 13, 14, 15, 16, 17, 18, 19, 20, 21, 22, 23, 24, 25, 26, 27, 28, 29, 30, 31, 32] [0, 1, 2, 3, 4, 5, 6, 7, 8, 9, 10, 11, 12, 13, 14, 15, 16, 17, 18, 19, 20, 21, 22, 23, 24, 25, 26, 27, 28, 29, 30, 31, 32] C mt_X7_79 (c_J6_bitCount_0f7a4 _ _ _ _ (xorI ((up c_chosen x1 r2) x1) ((up c_chosen x1 r2) (x1 - 1))) F hr8) rfl rfl (ws2 := (W_X7_choose (eCy E) a_t a_t_chosen a_t_leftFrom a_t_leftFromE_0 a_t_leftFromE_1 a_t_leftFromE_2 a_t_leftFromE_3 a_t_leftFromE_4 a_t_leftFromE_5 a_t_leftFromE_6 a_t_leftFromE_7 a_t_leftFromE_8 a_t_leftFromE_9 a_t_leftFromE_10 a_t_leftFromE_11 a_t_leftFromE_12 a_t_leftFromE_13 a_t_leftFromE_14 a_t_leftFromE_15 a_t_leftFromE_16 a_t_leftFromE_17 a_t_leftFromE_18 a_t_leftFromE_19 a_t_leftFromE_20 a_t_leftFromE_21 a_t_leftFromE_22 a_t_leftFromE_23 a_t_leftFromE_24 a_t_leftFromE_25 a_t_leftFromE_26 a_t_leftFromE_27 a_t_leftFromE_28 a_t_leftFromE_29 g_t_6 c_hours c_least c_turns c_sets c_cost (up c_chosen x1 r2) c_leftFromE)) rfl rfl rfl (rest := [.int (wI c_turns), .ref a_t]) rfl rfl rfl dX7_choose_138 ?_
    refine g_iadd C dX7_choose_141 ?_
    obtain ⟨y9, e_y9, h⟩ := nam_some h
    refine g_topI e_y9 ?_
    refine g_putI C fp_X7_18 0 rfl rfl (ws' := (W_X7_choose (eCy E) a_t a_t_chosen a_t_leftFrom a_t_leftFromE_0 a_t_leftFromE_1 a_t_leftFromE_2 a_t_leftFromE_3 a_t_leftFromE_4 a_t_leftFromE_5 a_t_leftFromE_6 a_t_leftFromE_7 a_t_leftFromE_8 a_t_leftFromE_9 a_t_leftFromE_10 a_t_leftFromE_11 a_t_leftFromE_12 a_t_leftFromE_13 a_t_leftFromE_14 a_t_leftFromE_15 a_t_leftFromE_16 a_t_leftFromE_17 a_t_leftFromE_18 a_t_leftFromE_19 a_t_leftFromE_20 a_t_leftFromE_21 a_t_leftFromE_22 a_t_leftFromE_23 a_t_leftFromE_24 a_t_leftFromE_25 a_t_leftFromE_26 a_t_leftFromE_27 a_t_leftFromE_28 a_t_leftFromE_29 g_t_6 c_hours c_least y9 c_sets c_cost (up c_chosen x1 r2) c_leftFromE)) rfl dX7_choose_142 ?_
    refine g_iinc C hN dX7_choose_145 rfl rfl (L' := [some (.ref a_t), some (.int (wI (x1 + 1)))]) rfl ?_
    refine g_goto (tgt := 91) C dX7_choose_148 (by decide) ?_
    exact hk91 _ _ _ h
set_option maxRecDepth 100000 in
set_option maxHeartbeats 4000000 in
theorem wl_X7_choose_91 {F : Nat} {v : Int × Int × (Int → Int)} {x1 : Int} {c_hours : Int} {c_least : Int} {c_turns : Int} {c_sets : Int} {c_cost : Int} {c_chosen : Int → Int} {c_leftFromE : Int → Int → Int} (C : Cx E cX7_choose RX7 { frames := 3, cells := 0, slots := 0, locals := 67 }) (hN : eN E = 2) (h : ml_X7_choose_91 F x1 c_hours c_least c_turns c_sets c_cost c_chosen c_leftFromE = some v) (hret : ∀ (pc : Nat) (L : List (Option Value)), decode cX7_choose pc = .ok (.return_, 1) → GG E 0 0 (W_X7_choose (eCy E) a_t a_t_chosen a_t_leftFrom a_t_leftFromE_0 a_t_leftFromE_1 a_t_leftFromE_2 a_t_leftFromE_3 a_t_leftFromE_4 a_t_leftFromE_5 a_t_leftFromE_6 a_t_leftFromE_7 a_t_leftFromE_8 a_t_leftFromE_9 a_t_leftFromE_10 a_t_leftFromE_11 a_t_leftFromE_12 a_t_leftFromE_13 a_t_leftFromE_14 a_t_leftFromE_15 a_t_leftFromE_16 a_t_leftFromE_17 a_t_leftFromE_18 a_t_leftFromE_19 a_t_leftFromE_20 a_t_leftFromE_21 a_t_leftFromE_22 a_t_leftFromE_23 a_t_leftFromE_24 a_t_leftFromE_25 a_t_leftFromE_26 a_t_leftFromE_27 a_t_leftFromE_28 a_t_leftFromE_29 g_t_6 c_hours (v.1) (v.2.1) c_sets c_cost (v.2.2) c_leftFromE) L pc []) : GG E 0 0 (W_X7_choose (eCy E) a_t a_t_chosen a_t_leftFrom a_t_leftFromE_0 a_t_leftFromE_1 a_t_leftFromE_2 a_t_leftFromE_3 a_t_leftFromE_4 a_t_leftFromE_5 a_t_leftFromE_6 a_t_leftFromE_7 a_t_leftFromE_8 a_t_leftFromE_9 a_t_leftFromE_10 a_t_leftFromE_11 a_t_leftFromE_12 a_t_leftFromE_13 a_t_leftFromE_14 a_t_leftFromE_15 a_t_leftFromE_16 a_t_leftFromE_17 a_t_leftFromE_18 a_t_leftFromE_19 a_t_leftFromE_20 a_t_leftFromE_21 a_t_leftFromE_22 a_t_leftFromE_23 a_t_leftFromE_24 a_t_leftFromE_25 a_t_leftFromE_26 a_t_leftFromE_27 a_t_leftFromE_28 a_t_leftFromE_29 g_t_6 c_hours c_least c_turns c_sets c_cost c_chosen c_leftFromE) [some (.ref a_t), some (.int (wI x1))] 91 [] := by
  unfold ml_X7_choose_91 at h
  exact loop_walk (g := fun (q : Int × Int × (Int → Int)) => GG E 0 0 (W_X7_choose (eCy E) a_t a_t_chosen a_t_leftFrom a_t_leftFromE_0 a_t_leftFromE_1 a_t_leftFromE_2 a_t_leftFromE_3 a_t_leftFromE_4 a_t_leftFromE_5 a_t_leftFromE_6 a_t_leftFromE_7 a_t_leftFromE_8 a_t_leftFromE_9 a_t_leftFromE_10 a_t_leftFromE_11 a_t_leftFromE_12 a_t_leftFromE_13 a_t_leftFromE_14 a_t_leftFromE_15 a_t_leftFromE_16 a_t_leftFromE_17 a_t_leftFromE_18 a_t_leftFromE_19 a_t_leftFromE_20 a_t_leftFromE_21 a_t_leftFromE_22 a_t_leftFromE_23 a_t_leftFromE_24 a_t_leftFromE_25 a_t_leftFromE_26 a_t_leftFromE_27 a_t_leftFromE_28 a_t_leftFromE_29 g_t_6 c_hours c_least (q.2.1) c_sets c_cost (q.2.2) c_leftFromE) [some (.ref a_t), some (.int (wI (q.1)))] 91 []) (fun k hk q h => wb_X7_choose_91 C hN h (fun y0 y1 y2 hh => hk (y0, y1, y2) hh) hret) F (x1, c_turns, c_chosen) h
set_option maxRecDepth 100000 in
set_option maxHeartbeats 4000000 in
theorem wb_X7_choose_27 {F : Nat} {k27 : Int → (Int → Int) → Option (Int × Int × (Int → Int))} {v : Int × Int × (Int → Int)} {x1 : Int} {c_hours : Int} {c_turns : Int} {c_sets : Int} {c_cost : Int} {c_chosen : Int → Int} {c_leftFromE : Int → Int → Int} {c_least : Int} (C : Cx E cX7_choose RX7 { frames := 3, cells := 0, slots := 0, locals := 67 }) (hN : eN E = 2) (h : mb_X7_choose_27 F k27 x1 c_hours c_turns c_sets c_cost c_chosen c_leftFromE = some v) (hk27 : ∀ (y_x1 : Int) (y_c_chosen : Int → Int) (z_c_least : Int), k27 y_x1 y_c_chosen = some v → GG E 0 0 (W_X7_choose (eCy E) a_t a_t_chosen a_t_leftFrom a_t_leftFromE_0 a_t_leftFromE_1 a_t_leftFromE_2 a_t_leftFromE_3 a_t_leftFromE_4 a_t_leftFromE_5 a_t_leftFromE_6 a_t_leftFromE_7 a_t_leftFromE_8 a_t_leftFromE_9 a_t_leftFromE_10 a_t_leftFromE_11 a_t_leftFromE_12 a_t_leftFromE_13 a_t_leftFromE_14 a_t_leftFromE_15 a_t_leftFromE_16 a_t_leftFromE_17 a_t_leftFromE_18 a_t_leftFromE_19 a_t_leftFromE_20 a_t_leftFromE_21 a_t_leftFromE_22 a_t_leftFromE_23 a_t_leftFromE_24 a_t_leftFromE_25 a_t_leftFromE_26 a_t_leftFromE_27 a_t_leftFromE_28 a_t_leftFromE_29 g_t_6 c_hours z_c_least c_turns c_sets c_cost y_c_chosen c_leftFromE) [some (.ref a_t), some (.int (wI y_x1))] 27 []) (hret : ∀ (pc : Nat) (L : List (Option Value)), decode cX7_choose pc = .ok (.return_, 1) → GG E 0 0 (W_X7_choose (eCy E) a_t a_t_chosen a_t_leftFrom a_t_leftFromE_0 a_t_leftFromE_1 a_t_leftFromE_2 a_t_leftFromE_3 a_t_leftFromE_4 a_t_leftFromE_5 a_t_leftFromE_6 a_t_leftFromE_7 a_t_leftFromE_8 a_t_leftFromE_9 a_t_leftFromE_10 a_t_leftFromE_11 a_t_leftFromE_12 a_t_leftFromE_13 a_t_leftFromE_14 a_t_leftFromE_15 a_t_leftFromE_16 a_t_leftFromE_17 a_t_leftFromE_18 a_t_leftFromE_19 a_t_leftFromE_20 a_t_leftFromE_21 a_t_leftFromE_22 a_t_leftFromE_23 a_t_leftFromE_24 a_t_leftFromE_25 a_t_leftFromE_26 a_t_leftFromE_27 a_t_leftFromE_28 a_t_leftFromE_29 g_t_6 c_hours (v.1) (v.2.1) c_sets c_cost (v.2.2) c_leftFromE) L pc []) : GG E 0 0 (W_X7_choose (eCy E) a_t a_t_chosen a_t_leftFrom a_t_leftFromE_0 a_t_leftFromE_1 a_t_leftFromE_2 a_t_leftFromE_3 a_t_leftFromE_4 a_t_leftFromE_5 a_t_leftFromE_6 a_t_leftFromE_7 a_t_leftFromE_8 a_t_leftFromE_9 a_t_leftFromE_10 a_t_leftFromE_11 a_t_leftFromE_12 a_t_leftFromE_13 a_t_leftFromE_14 a_t_leftFromE_15 a_t_leftFromE_16 a_t_leftFromE_17 a_t_leftFromE_18 a_t_leftFromE_19 a_t_leftFromE_20 a_t_leftFromE_21 a_t_leftFromE_22 a_t_leftFromE_23 a_t_leftFromE_24 a_t_leftFromE_25 a_t_leftFromE_26 a_t_leftFromE_27 a_t_leftFromE_28 a_t_leftFromE_29 g_t_6 c_hours c_least c_turns c_sets c_cost c_chosen c_leftFromE) [some (.ref a_t), some (.int (wI x1))] 27 [] := by
  unfold mb_X7_choose_27 at h
  refine g_iload_n 1 C dX7_choose_27 rfl rfl ?_
  refine g_aload_n 0 C dX7_choose_28 rfl rfl ?_
  refine g_get C fg_X7_25 0 rfl rfl dX7_choose_29 ?_
  refine g_st (st' := [.int (wI c_sets), .int (wI x1)]) rfl ?_
  refine g_icmp_ge 72 C dX7_choose_32 (by decide) h (fun h => ?_) (fun h => ?_)
  · refine g_aload_n 0 C dX7_choose_72 rfl rfl ?_
    refine g_aload_n 0 C dX7_choose_73 rfl rfl ?_
    refine g_get C fg_X7_36 0 rfl rfl dX7_choose_74 ?_
    refine g_iconst C dX7_choose_77 ?_
    refine g_aaldR C 2 rfl (by decide) rfl dX7_choose_78 ?_
    refine g_aload_n 0 C dX7_choose_79 rfl rfl ?_
    refine g_get C fg_X7_21 0 rfl rfl dX7_choose_80 ?_
    refine g_iconst C dX7_choose_83 ?_
    refine g_iald C 1 rfl (by decide) rfl dX7_choose_84 ?_
    obtain ⟨hc1, h⟩ := chk_some h
    refine g_iald C 3 rfl hc1 rfl dX7_choose_85 ?_
    obtain ⟨y2, e_y2, h⟩ := nam_some h
    refine g_topI e_y2 ?_
    refine g_putI C fp_X7_15 0 rfl rfl (ws' := (W_X7_choose (eCy E) a_t a_t_chosen a_t_leftFrom a_t_leftFromE_0 a_t_leftFromE_1 a_t_leftFromE_2 a_t_leftFromE_3 a_t_leftFromE_4 a_t_leftFromE_5 a_t_leftFromE_6 a_t_leftFromE_7 a_t_leftFromE_8 a_t_leftFromE_9 a_t_leftFromE_10 a_t_leftFromE_11 a_t_leftFromE_12 a_t_leftFromE_13 a_t_leftFromE_14 a_t_leftFromE_15 a_t_leftFromE_16 a_t_leftFromE_17 a_t_leftFromE_18 a_t_leftFromE_19 a_t_leftFromE_20 a_t_leftFromE_21 a_t_leftFromE_22 a_t_leftFromE_23 a_t_leftFromE_24 a_t_leftFromE_25 a_t_leftFromE_26 a_t_leftFromE_27 a_t_leftFromE_28 a_t_leftFromE_29 g_t_6 c_hours y2 c_turns c_sets c_cost c_chosen c_leftFromE)) rfl dX7_choose_86 ?_
    refine g_iconst C dX7_choose_89 ?_
    refine g_istore_n 1 C hN dX7_choose_90 rfl rfl (L' := [some (.ref a_t), some (.int (wI 1))]) rfl ?_
    exact wl_X7_choose_91 C hN h hret
  · refine g_aload_n 0 C dX7_choose_35 rfl rfl ?_
    refine g_get C fg_X7_36 0 rfl rfl dX7_choose_36 ?_
    refine g_iconst C dX7_choose_39 ?_
    refine g_aaldR C 2 rfl (by decide) rfl dX7_choose_40 ?_
    refine g_iload_n 1 C dX7_choose_41 rfl rfl ?_
    obtain ⟨hc1, h⟩ := chk_some h
    refine g_iald C 3 rfl hc1 rfl dX7_choose_42 ?_
    refine g_aload_n 0 C dX7_choose_43 rfl rfl ?_
    refine g_get C fg_X7_36 0 rfl rfl dX7_choose_44 ?_
    refine g_iconst C dX7_choose_47 ?_
    refine g_aaldR C 2 rfl (by decide) rfl dX7_choose_48 ?_
    refine g_aload_n 0 C dX7_choose_49 rfl rfl ?_
    refine g_get C fg_X7_21 0 rfl rfl dX7_choose_50 ?_
    refine g_iconst C dX7_choose_53 ?_
    refine g_iald C 1 rfl (by decide) rfl dX7_choose_54 ?_
    obtain ⟨hc2, h⟩ := chk_some h
    refine g_iald C 3 rfl hc2 rfl dX7_choose_55 ?_
    refine g_icmp_ge 66 C dX7_choose_56 (by decide) h (fun h => ?_) (fun h => ?_)
    · exact wb_X7_choose_66 C hN h hk27 hret
    · refine g_aload_n 0 C dX7_choose_59 rfl rfl ?_
      refine g_get C fg_X7_21 0 rfl rfl dX7_choose_60 ?_
      refine g_iconst C dX7_choose_63 ?_
      refine g_iload_n 1 C dX7_choose_64 rfl rfl ?_
      refine g_iast C 1 rfl (by decide) rfl (ws' := (W_X7_choose (eCy E) a_t a_t_chosen a_t_leftFrom a_t_leftFromE_0 a_t_leftFromE_1 a_t_leftFromE_2 a_t_leftFromE_3 a_t_leftFromE_4 a_t_leftFromE_5 a_t_leftFromE_6 a_t_leftFromE_7 a_t_leftFromE_8 a_t_leftFromE_9 a_t_leftFromE_10 a_t_leftFromE_11 a_t_leftFromE_12 a_t_leftFromE_13 a_t_leftFromE_14 a_t_leftFromE_15 a_t_leftFromE_16 a_t_leftFromE_17 a_t_leftFromE_18 a_t_leftFromE_19 a_t_leftFromE_20 a_t_leftFromE_21 a_t_leftFromE_22 a_t_leftFromE_23 a_t_leftFromE_24 a_t_leftFromE_25 a_t_leftFromE_26 a_t_leftFromE_27 a_t_leftFromE_28 a_t_leftFromE_29 g_t_6 c_hours c_least c_turns c_sets c_cost (up c_chosen 0 x1) c_leftFromE)) rfl dX7_choose_65 ?_
      exact wb_X7_choose_66 C hN h hk27 hret
set_option maxRecDepth 100000 in
set_option maxHeartbeats 4000000 in
theorem wl_X7_choose_27 {F : Nat} {v : Int × Int × (Int → Int)} {x1 : Int} {c_hours : Int} {c_turns : Int} {c_sets : Int} {c_cost : Int} {c_chosen : Int → Int} {c_leftFromE : Int → Int → Int} {c_least : Int} (C : Cx E cX7_choose RX7 { frames := 3, cells := 0, slots := 0, locals := 67 }) (hN : eN E = 2) (h : ml_X7_choose_27 F x1 c_hours c_turns c_sets c_cost c_chosen c_leftFromE = some v) (hret : ∀ (pc : Nat) (L : List (Option Value)), decode cX7_choose pc = .ok (.return_, 1) → GG E 0 0 (W_X7_choose (eCy E) a_t a_t_chosen a_t_leftFrom a_t_leftFromE_0 a_t_leftFromE_1 a_t_leftFromE_2 a_t_leftFromE_3 a_t_leftFromE_4 a_t_leftFromE_5 a_t_leftFromE_6 a_t_leftFromE_7 a_t_leftFromE_8 a_t_leftFromE_9 a_t_leftFromE_10 a_t_leftFromE_11 a_t_leftFromE_12 a_t_leftFromE_13 a_t_leftFromE_14 a_t_leftFromE_15 a_t_leftFromE_16 a_t_leftFromE_17 a_t_leftFromE_18 a_t_leftFromE_19 a_t_leftFromE_20 a_t_leftFromE_21 a_t_leftFromE_22 a_t_leftFromE_23 a_t_leftFromE_24 a_t_leftFromE_25 a_t_leftFromE_26 a_t_leftFromE_27 a_t_leftFromE_28 a_t_leftFromE_29 g_t_6 c_hours (v.1) (v.2.1) c_sets c_cost (v.2.2) c_leftFromE) L pc []) : GG E 0 0 (W_X7_choose (eCy E) a_t a_t_chosen a_t_leftFrom a_t_leftFromE_0 a_t_leftFromE_1 a_t_leftFromE_2 a_t_leftFromE_3 a_t_leftFromE_4 a_t_leftFromE_5 a_t_leftFromE_6 a_t_leftFromE_7 a_t_leftFromE_8 a_t_leftFromE_9 a_t_leftFromE_10 a_t_leftFromE_11 a_t_leftFromE_12 a_t_leftFromE_13 a_t_leftFromE_14 a_t_leftFromE_15 a_t_leftFromE_16 a_t_leftFromE_17 a_t_leftFromE_18 a_t_leftFromE_19 a_t_leftFromE_20 a_t_leftFromE_21 a_t_leftFromE_22 a_t_leftFromE_23 a_t_leftFromE_24 a_t_leftFromE_25 a_t_leftFromE_26 a_t_leftFromE_27 a_t_leftFromE_28 a_t_leftFromE_29 g_t_6 c_hours c_least c_turns c_sets c_cost c_chosen c_leftFromE) [some (.ref a_t), some (.int (wI x1))] 27 [] := by
  unfold ml_X7_choose_27 at h
  exact loop_walk (g := fun (q : Int × (Int → Int)) => ∀ (z_c_least : Int), GG E 0 0 (W_X7_choose (eCy E) a_t a_t_chosen a_t_leftFrom a_t_leftFromE_0 a_t_leftFromE_1 a_t_leftFromE_2 a_t_leftFromE_3 a_t_leftFromE_4 a_t_leftFromE_5 a_t_leftFromE_6 a_t_leftFromE_7 a_t_leftFromE_8 a_t_leftFromE_9 a_t_leftFromE_10 a_t_leftFromE_11 a_t_leftFromE_12 a_t_leftFromE_13 a_t_leftFromE_14 a_t_leftFromE_15 a_t_leftFromE_16 a_t_leftFromE_17 a_t_leftFromE_18 a_t_leftFromE_19 a_t_leftFromE_20 a_t_leftFromE_21 a_t_leftFromE_22 a_t_leftFromE_23 a_t_leftFromE_24 a_t_leftFromE_25 a_t_leftFromE_26 a_t_leftFromE_27 a_t_leftFromE_28 a_t_leftFromE_29 g_t_6 c_hours z_c_least c_turns c_sets c_cost (q.2) c_leftFromE) [some (.ref a_t), some (.int (wI (q.1)))] 27 []) (fun k hk q h z_c_least => wb_X7_choose_27 C hN h (fun y0 y1 u0 hh => hk (y0, y1) hh u0) hret) F (x1, c_chosen) h _
set_option maxRecDepth 100000 in
set_option maxHeartbeats 4000000 in
theorem wm_X7_choose {F : Nat} {v : Int × Int × (Int → Int)} {c_hours : Int} {c_sets : Int} {c_cost : Int} {c_chosen : Int → Int} {c_leftFromE : Int → Int → Int} {c_least : Int} {c_turns : Int} (C : Cx E cX7_choose RX7 { frames := 3, cells := 0, slots := 0, locals := 67 }) (hN : eN E = 2) (h : m_X7_choose F c_hours c_sets c_cost c_chosen c_leftFromE = some v) (hret : ∀ (pc : Nat) (L : List (Option Value)), decode cX7_choose pc = .ok (.return_, 1) → GG E 0 0 (W_X7_choose (eCy E) a_t a_t_chosen a_t_leftFrom a_t_leftFromE_0 a_t_leftFromE_1 a_t_leftFromE_2 a_t_leftFromE_3 a_t_leftFromE_4 a_t_leftFromE_5 a_t_leftFromE_6 a_t_leftFromE_7 a_t_leftFromE_8 a_t_leftFromE_9 a_t_leftFromE_10 a_t_leftFromE_11 a_t_leftFromE_12 a_t_leftFromE_13 a_t_leftFromE_14 a_t_leftFromE_15 a_t_leftFromE_16 a_t_leftFromE_17 a_t_leftFromE_18 a_t_leftFromE_19 a_t_leftFromE_20 a_t_leftFromE_21 a_t_leftFromE_22 a_t_leftFromE_23 a_t_leftFromE_24 a_t_leftFromE_25 a_t_leftFromE_26 a_t_leftFromE_27 a_t_leftFromE_28 a_t_leftFromE_29 g_t_6 c_hours (v.1) (v.2.1) c_sets c_cost (v.2.2) c_leftFromE) L pc []) : GG E 0 0 (W_X7_choose (eCy E) a_t a_t_chosen a_t_leftFrom a_t_leftFromE_0 a_t_leftFromE_1 a_t_leftFromE_2 a_t_leftFromE_3 a_t_leftFromE_4 a_t_leftFromE_5 a_t_leftFromE_6 a_t_leftFromE_7 a_t_leftFromE_8 a_t_leftFromE_9 a_t_leftFromE_10 a_t_leftFromE_11 a_t_leftFromE_12 a_t_leftFromE_13 a_t_leftFromE_14 a_t_leftFromE_15 a_t_leftFromE_16 a_t_leftFromE_17 a_t_leftFromE_18 a_t_leftFromE_19 a_t_leftFromE_20 a_t_leftFromE_21 a_t_leftFromE_22 a_t_leftFromE_23 a_t_leftFromE_24 a_t_leftFromE_25 a_t_leftFromE_26 a_t_leftFromE_27 a_t_leftFromE_28 a_t_leftFromE_29 g_t_6 c_hours c_least c_turns c_sets c_cost c_chosen c_leftFromE) [some (.ref a_t), none] 0 [] := by
  unfold m_X7_choose at h
  refine g_aload_n 0 C dX7_choose_0 rfl rfl ?_
  refine g_iconst C dX7_choose_1 ?_
  refine g_putI C fp_X7_15 0 rfl rfl (ws' := (W_X7_choose (eCy E) a_t a_t_chosen a_t_leftFrom a_t_leftFromE_0 a_t_leftFromE_1 a_t_leftFromE_2 a_t_leftFromE_3 a_t_leftFromE_4 a_t_leftFromE_5 a_t_leftFromE_6 a_t_leftFromE_7 a_t_leftFromE_8 a_t_leftFromE_9 a_t_leftFromE_10 a_t_leftFromE_11 a_t_leftFromE_12 a_t_leftFromE_13 a_t_leftFromE_14 a_t_leftFromE_15 a_t_leftFromE_16 a_t_leftFromE_17 a_t_leftFromE_18 a_t_leftFromE_19 a_t_leftFromE_20 a_t_leftFromE_21 a_t_leftFromE_22 a_t_leftFromE_23 a_t_leftFromE_24 a_t_leftFromE_25 a_t_leftFromE_26 a_t_leftFromE_27 a_t_leftFromE_28 a_t_leftFromE_29 g_t_6 c_hours 0 c_turns c_sets c_cost c_chosen c_leftFromE)) rfl dX7_choose_2 ?_
  refine g_aload_n 0 C dX7_choose_5 rfl rfl ?_
  refine g_iconst C dX7_choose_6 ?_
  refine g_putI C fp_X7_18 0 rfl rfl (ws' := (W_X7_choose (eCy E) a_t a_t_chosen a_t_leftFrom a_t_leftFromE_0 a_t_leftFromE_1 a_t_leftFromE_2 a_t_leftFromE_3 a_t_leftFromE_4 a_t_leftFromE_5 a_t_leftFromE_6 a_t_leftFromE_7 a_t_leftFromE_8 a_t_leftFromE_9 a_t_leftFromE_10 a_t_leftFromE_11 a_t_leftFromE_12 a_t_leftFromE_13 a_t_leftFromE_14 a_t_leftFromE_15 a_t_leftFromE_16 a_t_leftFromE_17 a_t_leftFromE_18 a_t_leftFromE_19 a_t_leftFromE_20 a_t_leftFromE_21 a_t_leftFromE_22 a_t_leftFromE_23 a_t_leftFromE_24 a_t_leftFromE_25 a_t_leftFromE_26 a_t_leftFromE_27 a_t_leftFromE_28 a_t_leftFromE_29 g_t_6 c_hours 0 0 c_sets c_cost c_chosen c_leftFromE)) rfl dX7_choose_7 ?_
  refine g_aload_n 0 C dX7_choose_10 rfl rfl ?_
  refine g_get C fg_X7_9 0 rfl rfl dX7_choose_11 ?_
  refine g_st (st' := [.int (wI c_hours)]) rfl ?_
  refine g_if_ne 18 C dX7_choose_14 (by decide) h (fun h => ?_) (fun h => ?_)
  · refine g_aload_n 0 C dX7_choose_18 rfl rfl ?_
    refine g_get C fg_X7_21 0 rfl rfl dX7_choose_19 ?_
    refine g_iconst C dX7_choose_22 ?_
    refine g_iconst C dX7_choose_23 ?_
    refine g_iast C 1 rfl (by decide) rfl (ws' := (W_X7_choose (eCy E) a_t a_t_chosen a_t_leftFrom a_t_leftFromE_0 a_t_leftFromE_1 a_t_leftFromE_2 a_t_leftFromE_3 a_t_leftFromE_4 a_t_leftFromE_5 a_t_leftFromE_6 a_t_leftFromE_7 a_t_leftFromE_8 a_t_leftFromE_9 a_t_leftFromE_10 a_t_leftFromE_11 a_t_leftFromE_12 a_t_leftFromE_13 a_t_leftFromE_14 a_t_leftFromE_15 a_t_leftFromE_16 a_t_leftFromE_17 a_t_leftFromE_18 a_t_leftFromE_19 a_t_leftFromE_20 a_t_leftFromE_21 a_t_leftFromE_22 a_t_leftFromE_23 a_t_leftFromE_24 a_t_leftFromE_25 a_t_leftFromE_26 a_t_leftFromE_27 a_t_leftFromE_28 a_t_leftFromE_29 g_t_6 c_hours 0 0 c_sets c_cost (up c_chosen 0 0) c_leftFromE)) rfl dX7_choose_24 ?_
    refine g_iconst C dX7_choose_25 ?_
    refine g_istore_n 1 C hN dX7_choose_26 rfl rfl (L' := [some (.ref a_t), some (.int (wI 1))]) rfl ?_
    exact wl_X7_choose_27 C hN h hret
  · cases h
    exact hret 17 _ dX7_choose_17
end S_X7_choose
set_option maxRecDepth 100000 in
set_option maxHeartbeats 4000000 in
theorem c_X7_choose (l : Launch) (D : va_G) (cy : Nat → ClassId) (ad : AD) (a_t a_t_chosen a_t_leftFrom a_t_leftFromE_0 a_t_leftFromE_1 a_t_leftFromE_2 a_t_leftFromE_3 a_t_leftFromE_4 a_t_leftFromE_5 a_t_leftFromE_6 a_t_leftFromE_7 a_t_leftFromE_8 a_t_leftFromE_9 a_t_leftFromE_10 a_t_leftFromE_11 a_t_leftFromE_12 a_t_leftFromE_13 a_t_leftFromE_14 a_t_leftFromE_15 a_t_leftFromE_16 a_t_leftFromE_17 a_t_leftFromE_18 a_t_leftFromE_19 a_t_leftFromE_20 a_t_leftFromE_21 a_t_leftFromE_22 a_t_leftFromE_23 a_t_leftFromE_24 a_t_leftFromE_25 a_t_leftFromE_26 a_t_leftFromE_27 a_t_leftFromE_28 a_t_leftFromE_29 : Nat) (g_t_6 : Value) (c_hours : Int) (c_least : Int) (c_turns : Int) (c_sets : Int) (c_cost : Int) (c_chosen : Int → Int) (c_leftFromE : Int → Int → Int) (F : Nat) {v : Int × Int × (Int → Int)} (h : m_X7_choose F c_hours c_sets c_cost c_chosen c_leftFromE = some v) : Ct l yX7_choose cX7_choose 2 none { frames := 3, cells := 0, slots := 0, locals := 67 } D cy ad [.ref a_t] (W_X7_choose cy a_t a_t_chosen a_t_leftFrom a_t_leftFromE_0 a_t_leftFromE_1 a_t_leftFromE_2 a_t_leftFromE_3 a_t_leftFromE_4 a_t_leftFromE_5 a_t_leftFromE_6 a_t_leftFromE_7 a_t_leftFromE_8 a_t_leftFromE_9 a_t_leftFromE_10 a_t_leftFromE_11 a_t_leftFromE_12 a_t_leftFromE_13 a_t_leftFromE_14 a_t_leftFromE_15 a_t_leftFromE_16 a_t_leftFromE_17 a_t_leftFromE_18 a_t_leftFromE_19 a_t_leftFromE_20 a_t_leftFromE_21 a_t_leftFromE_22 a_t_leftFromE_23 a_t_leftFromE_24 a_t_leftFromE_25 a_t_leftFromE_26 a_t_leftFromE_27 a_t_leftFromE_28 a_t_leftFromE_29 g_t_6 c_hours c_least c_turns c_sets c_cost c_chosen c_leftFromE) (W_X7_choose cy a_t a_t_chosen a_t_leftFrom a_t_leftFromE_0 a_t_leftFromE_1 a_t_leftFromE_2 a_t_leftFromE_3 a_t_leftFromE_4 a_t_leftFromE_5 a_t_leftFromE_6 a_t_leftFromE_7 a_t_leftFromE_8 a_t_leftFromE_9 a_t_leftFromE_10 a_t_leftFromE_11 a_t_leftFromE_12 a_t_leftFromE_13 a_t_leftFromE_14 a_t_leftFromE_15 a_t_leftFromE_16 a_t_leftFromE_17 a_t_leftFromE_18 a_t_leftFromE_19 a_t_leftFromE_20 a_t_leftFromE_21 a_t_leftFromE_22 a_t_leftFromE_23 a_t_leftFromE_24 a_t_leftFromE_25 a_t_leftFromE_26 a_t_leftFromE_27 a_t_leftFromE_28 a_t_leftFromE_29 g_t_6 c_hours (v.1) (v.2.1) c_sets c_cost (v.2.2) c_leftFromE) none := by
  refine Ct.introV (j := 1) (plainFor_of_name (by decide)) rfl rfl (fun E C e1 e2 e3 e4 e5 hret => ?_)
  subst e1; subst e2; subst e3; subst e4
  exact wm_X7_choose C e5 h hret
-- MovingStair$Turning.plan(LMovingStair$Slot;LMovingStair$Layout;I)V
def W_X7_plan (cy : Nat → ClassId) (a_t a_p1 a_p2 a_p1_numbers a_p2_carried a_t_carriedBy a_t_chosen a_t_leftFrom a_t_leftFromE_0 a_t_leftFromE_1 a_t_leftFromE_2 a_t_leftFromE_3 a_t_leftFromE_4 a_t_leftFromE_5 a_t_leftFromE_6 a_t_leftFromE_7 a_t_leftFromE_8 a_t_leftFromE_9 a_t_leftFromE_10 a_t_leftFromE_11 a_t_leftFromE_12 a_t_leftFromE_13 a_t_leftFromE_14 a_t_leftFromE_15 a_t_leftFromE_16 a_t_leftFromE_17 a_t_leftFromE_18 a_t_leftFromE_19 a_t_leftFromE_20 a_t_leftFromE_21 a_t_leftFromE_22 a_t_leftFromE_23 a_t_leftFromE_24 a_t_leftFromE_25 a_t_leftFromE_26 a_t_leftFromE_27 a_t_leftFromE_28 a_t_leftFromE_29 : Nat) (g_p1_0 : Value) (g_p1_1 : Value) (g_p2_0 : Value) (g_p2_1 : Value) (g_p2_2 : Value) (g_p2_3 : Value) (g_p2_4 : Value) (g_p2_5 : Value) (g_p2_6 : Value) (g_p2_9 : Value) (g_p2_10 : Value) (g_p2_11 : Value) (g_p2_12 : Value) (g_p2_13 : Value) (g_p2_14 : Value) (g_p2_15 : Value) (g_p2_16 : Value) (c_hours : Int) (c_least : Int) (c_turns : Int) (c_sets : Int) (c_cost : Int) (c_p1_size : Int) (c_p2_bands : Int) (c_p1_numbers : Int → Int) (c_p2_carried : Int → Int) (c_carriedBy : Int → Int) (c_chosen : Int → Int) (c_leftFromE : Int → Int → Int) : va_W := [(a_t, .inr (7, [.int (wI c_hours), .int (wI c_least), .int (wI c_turns), .ref a_t_chosen, .int (wI c_sets), .int (wI c_cost), .ref a_t_carriedBy, .ref a_t_leftFrom])), (a_p1, .inr (5, [g_p1_0, g_p1_1, .int (wI c_p1_size), .ref a_p1_numbers])), (a_p2, .inr (2, [g_p2_0, g_p2_1, g_p2_2, g_p2_3, g_p2_4, g_p2_5, g_p2_6, .int (wI c_p2_bands), .ref a_p2_carried, g_p2_9, g_p2_10, g_p2_11, g_p2_12, g_p2_13, g_p2_14, g_p2_15, g_p2_16])), (a_p1_numbers, .inl (cy 2, 60, .inr (.inl (aJ c_p1_numbers)))), (a_p2_carried, .inl (cy 1, 4, .inl (aI c_p2_carried))), (a_t_carriedBy, .inl (cy 1, 16, .inl (aI c_carriedBy))), (a_t_chosen, .inl (cy 1, 30, .inl (aI c_chosen))), (a_t_leftFrom, .inl (cy 6, 30, .inr (.inr (.inr (.inr (selO [a_t_leftFromE_0, a_t_leftFromE_1, a_t_leftFromE_2, a_t_leftFromE_3, a_t_leftFromE_4, a_t_leftFromE_5, a_t_leftFromE_6, a_t_leftFromE_7, a_t_leftFromE_8, a_t_leftFromE_9, a_t_leftFromE_10, a_t_leftFromE_11, a_t_leftFromE_12, a_t_leftFromE_13, a_t_leftFromE_14, a_t_leftFromE_15, a_t_leftFromE_16, a_t_leftFromE_17, a_t_leftFromE_18, a_t_leftFromE_19, a_t_leftFromE_20, a_t_leftFromE_21, a_t_leftFromE_22, a_t_leftFromE_23, a_t_leftFromE_24, a_t_leftFromE_25, a_t_leftFromE_26, a_t_leftFromE_27, a_t_leftFromE_28, a_t_leftFromE_29])))))), (a_t_leftFromE_0, .inl (cy 1, 16, .inl (aI (c_leftFromE 0)))), (a_t_leftFromE_1, .inl (cy 1, 16, .inl (aI (c_leftFromE 1)))), (a_t_leftFromE_2, .inl (cy 1, 16, .inl (aI (c_leftFromE 2)))), (a_t_leftFromE_3, .inl (cy 1, 16, .inl (aI (c_leftFromE 3)))), (a_t_leftFromE_4, .inl (cy 1, 16, .inl (aI (c_leftFromE 4)))), (a_t_leftFromE_5, .inl (cy 1, 16, .inl (aI (c_leftFromE 5)))), (a_t_leftFromE_6, .inl (cy 1, 16, .inl (aI (c_leftFromE 6)))), (a_t_leftFromE_7, .inl (cy 1, 16, .inl (aI (c_leftFromE 7)))), (a_t_leftFromE_8, .inl (cy 1, 16, .inl (aI (c_leftFromE 8)))), (a_t_leftFromE_9, .inl (cy 1, 16, .inl (aI (c_leftFromE 9)))), (a_t_leftFromE_10, .inl (cy 1, 16, .inl (aI (c_leftFromE 10)))), (a_t_leftFromE_11, .inl (cy 1, 16, .inl (aI (c_leftFromE 11)))), (a_t_leftFromE_12, .inl (cy 1, 16, .inl (aI (c_leftFromE 12)))), (a_t_leftFromE_13, .inl (cy 1, 16, .inl (aI (c_leftFromE 13)))), (a_t_leftFromE_14, .inl (cy 1, 16, .inl (aI (c_leftFromE 14)))), (a_t_leftFromE_15, .inl (cy 1, 16, .inl (aI (c_leftFromE 15)))), (a_t_leftFromE_16, .inl (cy 1, 16, .inl (aI (c_leftFromE 16)))), (a_t_leftFromE_17, .inl (cy 1, 16, .inl (aI (c_leftFromE 17)))), (a_t_leftFromE_18, .inl (cy 1, 16, .inl (aI (c_leftFromE 18)))), (a_t_leftFromE_19, .inl (cy 1, 16, .inl (aI (c_leftFromE 19)))), (a_t_leftFromE_20, .inl (cy 1, 16, .inl (aI (c_leftFromE 20)))), (a_t_leftFromE_21, .inl (cy 1, 16, .inl (aI (c_leftFromE 21)))), (a_t_leftFromE_22, .inl (cy 1, 16, .inl (aI (c_leftFromE 22)))), (a_t_leftFromE_23, .inl (cy 1, 16, .inl (aI (c_leftFromE 23)))), (a_t_leftFromE_24, .inl (cy 1, 16, .inl (aI (c_leftFromE 24)))), (a_t_leftFromE_25, .inl (cy 1, 16, .inl (aI (c_leftFromE 25)))), (a_t_leftFromE_26, .inl (cy 1, 16, .inl (aI (c_leftFromE 26)))), (a_t_leftFromE_27, .inl (cy 1, 16, .inl (aI (c_leftFromE 27)))), (a_t_leftFromE_28, .inl (cy 1, 16, .inl (aI (c_leftFromE 28)))), (a_t_leftFromE_29, .inl (cy 1, 16, .inl (aI (c_leftFromE 29))))]
def mb_X7_plan_92 (F : Nat) (k33 : Int → (Int → Int) → Option (Int × Int × Int × Int × Int × (Int → Int) × (Int → Int) × (Int → Int → Int))) (k53 : Int → (Int → Int) → Option (Int × Int × Int × Int × Int × (Int → Int) × (Int → Int) × (Int → Int → Int))) (x4 : Int) (x5 : Int) (s1 : Int) (s2 : Int) (s3 : Int) (c_hours : Int) (c_sets : Int) (c_cost : Int) (c_p2_bands : Int) (c_p1_numbers : Int → Int) (c_p2_carried : Int → Int) (c_carriedBy : Int → Int) (c_chosen : Int → Int) (c_leftFromE : Int → Int → Int) : Option (Int × Int × Int × Int × Int × (Int → Int) × (Int → Int) × (Int → Int → Int)) :=
  nam (s2 + s3) fun y1 => chk (0 ≤ s1 ∧ s1 < 16) <| k53 (x5 + 1) (up c_carriedBy s1 y1)
def mb_X7_plan_53 (F : Nat) (k33 : Int → (Int → Int) → Option (Int × Int × Int × Int × Int × (Int → Int) × (Int → Int) × (Int → Int → Int))) (k53 : Int → (Int → Int) → Option (Int × Int × Int × Int × Int × (Int → Int) × (Int → Int) × (Int → Int → Int))) (x4 : Int) (x5 : Int) (c_hours : Int) (c_sets : Int) (c_cost : Int) (c_p2_bands : Int) (c_p1_numbers : Int → Int) (c_p2_carried : Int → Int) (c_carriedBy : Int → Int) (c_chosen : Int → Int) (c_leftFromE : Int → Int → Int) : Option (Int × Int × Int × Int × Int × (Int → Int) × (Int → Int) × (Int → Int → Int)) :=
  if wI c_p2_bands ≤ wI x5 then
    (k33 (x4 + 1) c_carriedBy)
  else
    (chk (0 ≤ x4 ∧ x4 < 16) <| if wI (andI (shrI x4 x5) 1) = wI 1 then
    (chk (0 ≤ x5 ∧ x5 < 4) <| mb_X7_plan_92 F k33 k53 x4 x5 x4 (c_carriedBy x4) (c_p2_carried x5) c_hours c_sets c_cost c_p2_bands c_p1_numbers c_p2_carried c_carriedBy c_chosen c_leftFromE)
  else
    (mb_X7_plan_92 F k33 k53 x4 x5 x4 (c_carriedBy x4) 0 c_hours c_sets c_cost c_p2_bands c_p1_numbers c_p2_carried c_carriedBy c_chosen c_leftFromE))
def ml_X7_plan_53 (F : Nat) (k33 : Int → (Int → Int) → Option (Int × Int × Int × Int × Int × (Int → Int) × (Int → Int) × (Int → Int → Int))) (x4 : Int) (x5 : Int) (c_hours : Int) (c_sets : Int) (c_cost : Int) (c_p2_bands : Int) (c_p1_numbers : Int → Int) (c_p2_carried : Int → Int) (c_carriedBy : Int → Int) (c_chosen : Int → Int) (c_leftFromE : Int → Int → Int) : Option (Int × Int × Int × Int × Int × (Int → Int) × (Int → Int) × (Int → Int → Int)) :=
  loopN (fun (k : Int × (Int → Int) → Option (Int × Int × Int × Int × Int × (Int → Int) × (Int → Int) × (Int → Int → Int))) q => mb_X7_plan_53 F k33 (fun y0 y1 => k (y0, y1)) x4 q.1 c_hours c_sets c_cost c_p2_bands c_p1_numbers c_p2_carried q.2 c_chosen c_leftFromE) F (x5, c_carriedBy)
def mb_X7_plan_114 (F : Nat) (k114 : Int → (Int → Int → Int) → Option (Int × Int × Int × Int × Int × (Int → Int) × (Int → Int) × (Int → Int → Int))) (x4 : Int) (c_hours : Int) (c_sets : Int) (c_cost : Int) (c_p1_numbers : Int → Int) (c_carriedBy : Int → Int) (c_chosen : Int → Int) (c_leftFromE : Int → Int → Int) : Option (Int × Int × Int × Int × Int × (Int → Int) × (Int → Int) × (Int → Int → Int)) :=
  if wI x4 < wI 0 then
    (bnd3 (m_X7_choose F c_hours c_sets c_cost c_chosen c_leftFromE) fun o1 o2 o3 => some (c_hours, o1, o2, c_sets, c_cost, c_carriedBy, o3, c_leftFromE))
  else
    (chk (0 ≤ (2 * x4) ∧ (2 * x4) < 60) <| chk (0 ≤ ((2 * x4) + 1) ∧ ((2 * x4) + 1) < 60) <| bnd1 (m_X7_fillHour F x4 (c_p1_numbers (2 * x4)) (c_p1_numbers ((2 * x4) + 1)) c_hours c_sets c_cost c_carriedBy c_leftFromE) fun o3 => k114 (x4 + (-1)) o3)
def ml_X7_plan_114 (F : Nat) (x4 : Int) (c_hours : Int) (c_sets : Int) (c_cost : Int) (c_p1_numbers : Int → Int) (c_carriedBy : Int → Int) (c_chosen : Int → Int) (c_leftFromE : Int → Int → Int) : Option (Int × Int × Int × Int × Int × (Int → Int) × (Int → Int) × (Int → Int → Int)) :=
  loopN (fun (k : Int × (Int → Int → Int) → Option (Int × Int × Int × Int × Int × (Int → Int) × (Int → Int) × (Int → Int → Int))) q => mb_X7_plan_114 F (fun y0 y1 => k (y0, y1)) q.1 c_hours c_sets c_cost c_p1_numbers c_carriedBy c_chosen q.2) F (x4, c_leftFromE)
def mb_X7_plan_33 (F : Nat) (k33 : Int → (Int → Int) → Option (Int × Int × Int × Int × Int × (Int → Int) × (Int → Int) × (Int → Int → Int))) (x4 : Int) (c_hours : Int) (c_sets : Int) (c_cost : Int) (c_p2_bands : Int) (c_p1_numbers : Int → Int) (c_p2_carried : Int → Int) (c_carriedBy : Int → Int) (c_chosen : Int → Int) (c_leftFromE : Int → Int → Int) : Option (Int × Int × Int × Int × Int × (Int → Int) × (Int → Int) × (Int → Int → Int)) :=
  if wI c_sets ≤ wI x4 then
    (nam (c_hours - 1) fun y1 => ml_X7_plan_114 F y1 c_hours c_sets c_cost c_p1_numbers c_carriedBy c_chosen c_leftFromE)
  else
    (chk (0 ≤ x4 ∧ x4 < 16) <| ml_X7_plan_53 F k33 x4 0 c_hours c_sets c_cost c_p2_bands c_p1_numbers c_p2_carried (up c_carriedBy x4 0) c_chosen c_leftFromE)
def ml_X7_plan_33 (F : Nat) (x4 : Int) (c_hours : Int) (c_sets : Int) (c_cost : Int) (c_p2_bands : Int) (c_p1_numbers : Int → Int) (c_p2_carried : Int → Int) (c_carriedBy : Int → Int) (c_chosen : Int → Int) (c_leftFromE : Int → Int → Int) : Option (Int × Int × Int × Int × Int × (Int → Int) × (Int → Int) × (Int → Int → Int)) :=
  loopN (fun (k : Int × (Int → Int) → Option (Int × Int × Int × Int × Int × (Int → Int) × (Int → Int) × (Int → Int → Int))) q => mb_X7_plan_33 F (fun y0 y1 => k (y0, y1)) q.1 c_hours c_sets c_cost c_p2_bands c_p1_numbers c_p2_carried q.2 c_chosen c_leftFromE) F (x4, c_carriedBy)
def m_X7_plan (F : Nat) (x3 : Int) (c_p1_size : Int) (c_p2_bands : Int) (c_p1_numbers : Int → Int) (c_p2_carried : Int → Int) (c_carriedBy : Int → Int) (c_chosen : Int → Int) (c_leftFromE : Int → Int → Int) : Option (Int × Int × Int × Int × Int × (Int → Int) × (Int → Int) × (Int → Int → Int)) :=
  chk (dv32 c_p1_size 2) <| bnd1 (m_J9_min_7cf53 F 30 (c_p1_size.tdiv 2)) fun r2 => nam (shlI 1 c_p2_bands) fun y4 => ml_X7_plan_33 F 0 r2 y4 x3 c_p2_bands c_p1_numbers c_p2_carried c_carriedBy c_chosen c_leftFromE
section S_X7_plan
variable {E : EE} {a_t a_p1 a_p2 a_p1_numbers a_p2_carried a_t_carriedBy a_t_chosen a_t_leftFrom a_t_leftFromE_0 a_t_leftFromE_1 a_t_leftFromE_2 a_t_leftFromE_3 a_t_leftFromE_4 a_t_leftFromE_5 a_t_leftFromE_6 a_t_leftFromE_7 a_t_leftFromE_8 a_t_leftFromE_9 a_t_leftFromE_10 a_t_leftFromE_11 a_t_leftFromE_12 a_t_leftFromE_13 a_t_leftFromE_14 a_t_leftFromE_15 a_t_leftFromE_16 a_t_leftFromE_17 a_t_leftFromE_18 a_t_leftFromE_19 a_t_leftFromE_20 a_t_leftFromE_21 a_t_leftFromE_22 a_t_leftFromE_23 a_t_leftFromE_24 a_t_leftFromE_25 a_t_leftFromE_26 a_t_leftFromE_27 a_t_leftFromE_28 a_t_leftFromE_29 : Nat} {g_p1_0 : Value} {g_p1_1 : Value} {g_p2_0 : Value} {g_p2_1 : Value} {g_p2_2 : Value} {g_p2_3 : Value} {g_p2_4 : Value} {g_p2_5 : Value} {g_p2_6 : Value} {g_p2_9 : Value} {g_p2_10 : Value} {g_p2_11 : Value} {g_p2_12 : Value} {g_p2_13 : Value} {g_p2_14 : Value} {g_p2_15 : Value} {g_p2_16 : Value}
set_option maxRecDepth 100000 in
set_option maxHeartbeats 4000000 in
theorem wb_X7_plan_92 {F : Nat} {k33 : Int → (Int → Int) → Option (Int × Int × Int × Int × Int × (Int → Int) × (Int → Int) × (Int → Int → Int))} {k53 : Int → (Int → Int) → Option (Int × Int × Int × Int × Int × (Int → Int) × (Int → Int) × (Int → Int → Int))} {v : Int × Int × Int × Int × Int × (Int → Int) × (Int → Int) × (Int → Int → Int)} {x4 : Int} {x5 : Int} {s1 : Int} {s2 : Int} {s3 : Int} {c_hours : Int} {c_sets : Int} {c_cost : Int} {c_p2_bands : Int} {c_p1_numbers : Int → Int} {c_p2_carried : Int → Int} {c_carriedBy : Int → Int} {c_chosen : Int → Int} {c_leftFromE : Int → Int → Int} {c_least : Int} {c_turns : Int} {c_p1_size : Int} (C : Cx E cX7_plan RX7 { frames := 4, cells := 0, slots := 0, locals := 93 }) (hN : eN E = 6) (h : mb_X7_plan_92 F k33 k53 x4 x5 s1 s2 s3 c_hours c_sets c_cost c_p2_bands c_p1_numbers c_p2_carried c_carriedBy c_chosen c_leftFromE = some v) (hk33 : ∀ (y_x4 : Int) (y_c_carriedBy : Int → Int) (z_c_least : Int) (z_c_turns : Int), k33 y_x4 y_c_carriedBy = some v → GG E 0 0 (W_X7_plan (eCy E) a_t a_p1 a_p2 a_p1_numbers a_p2_carried a_t_carriedBy a_t_chosen a_t_leftFrom a_t_leftFromE_0 a_t_leftFromE_1 a_t_leftFromE_2 a_t_leftFromE_3 a_t_leftFromE_4 a_t_leftFromE_5 a_t_leftFromE_6 a_t_leftFromE_7 a_t_leftFromE_8 a_t_leftFromE_9 a_t_leftFromE_10 a_t_leftFromE_11 a_t_leftFromE_12 a_t_leftFromE_13 a_t_leftFromE_14 a_t_leftFromE_15 a_t_leftFromE_16 a_t_leftFromE_17 a_t_leftFromE_18 a_t_leftFromE_19 a_t_leftFromE_20 a_t_leftFromE_21 a_t_leftFromE_22 a_t_leftFromE_23 a_t_leftFromE_24 a_t_leftFromE_25 a_t_leftFromE_26 a_t_leftFromE_27 a_t_leftFromE_28 a_t_leftFromE_29 g_p1_0 g_p1_1 g_p2_0 g_p2_1 g_p2_2 g_p2_3 g_p2_4 g_p2_5 g_p2_6 g_p2_9 g_p2_10 g_p2_11 g_p2_12 g_p2_13 g_p2_14 g_p2_15 g_p2_16 c_hours z_c_least z_c_turns c_sets c_cost c_p1_size c_p2_bands c_p1_numbers c_p2_carried y_c_carriedBy c_chosen c_leftFromE) [some (.ref a_t), some (.ref a_p1), some (.ref a_p2), none, some (.int (wI y_x4)), none] 33 []) (hk53 : ∀ (y_x5 : Int) (y_c_carriedBy : Int → Int) (z_c_least : Int) (z_c_turns : Int), k53 y_x5 y_c_carriedBy = some v → GG E 0 0 (W_X7_plan (eCy E) a_t a_p1 a_p2 a_p1_numbers a_p2_carried a_t_carriedBy a_t_chosen a_t_leftFrom a_t_leftFromE_0 a_t_leftFromE_1 a_t_leftFromE_2 a_t_leftFromE_3 a_t_leftFromE_4 a_t_leftFromE_5 a_t_leftFromE_6 a_t_leftFromE_7 a_t_leftFromE_8 a_t_leftFromE_9 a_t_leftFromE_10 a_t_leftFromE_11 a_t_leftFromE_12 a_t_leftFromE_13 a_t_leftFromE_14 a_t_leftFromE_15 a_t_leftFromE_16 a_t_leftFromE_17 a_t_leftFromE_18 a_t_leftFromE_19 a_t_leftFromE_20 a_t_leftFromE_21 a_t_leftFromE_22 a_t_leftFromE_23 a_t_leftFromE_24 a_t_leftFromE_25 a_t_leftFromE_26 a_t_leftFromE_27 a_t_leftFromE_28 a_t_leftFromE_29 g_p1_0 g_p1_1 g_p2_0 g_p2_1 g_p2_2 g_p2_3 g_p2_4 g_p2_5 g_p2_6 g_p2_9 g_p2_10 g_p2_11 g_p2_12 g_p2_13 g_p2_14 g_p2_15 g_p2_16 c_hours z_c_least z_c_turns c_sets c_cost c_p1_size c_p2_bands c_p1_numbers c_p2_carried y_c_carriedBy c_chosen c_leftFromE) [some (.ref a_t), some (.ref a_p1), some (.ref a_p2), none, some (.int (wI x4)), some (.int (wI y_x5))] 53 []) (hret : ∀ (pc : Nat) (L : List (Option Value)), decode cX7_plan pc = .ok (.return_, 1) → GG E 0 0 (W_X7_plan (eCy E) a_t a_p1 a_p2 a_p1_numbers a_p2_carried a_t_carriedBy a_t_chosen a_t_leftFrom a_t_leftFromE_0 a_t_leftFromE_1 a_t_leftFromE_2 a_t_leftFromE_3 a_t_leftFromE_4 a_t_leftFromE_5 a_t_leftFromE_6 a_t_leftFromE_7 a_t_leftFromE_8 a_t_leftFromE_9 a_t_leftFromE_10 a_t_leftFromE_11 a_t_leftFromE_12 a_t_leftFromE_13 a_t_leftFromE_14 a_t_leftFromE_15 a_t_leftFromE_16 a_t_leftFromE_17 a_t_leftFromE_18 a_t_leftFromE_19 a_t_leftFromE_20 a_t_leftFromE_21 a_t_leftFromE_22 a_t_leftFromE_23 a_t_leftFromE_24 a_t_leftFromE_25 a_t_leftFromE_26 a_t_leftFromE_27 a_t_leftFromE_28 a_t_leftFromE_29 g_p1_0 g_p1_1 g_p2_0 g_p2_1 g_p2_2 g_p2_3 g_p2_4 g_p2_5 g_p2_6 g_p2_9 g_p2_10 g_p2_11 g_p2_12 g_p2_13 g_p2_14 g_p2_15 g_p2_16 (v.1) (v.2.1) (v.2.2.1) (v.2.2.2.1) (v.2.2.2.2.1) c_p1_size c_p2_bands c_p1_numbers c_p2_carried (v.2.2.2.2.2.1) (v.2.2.2.2.2.2.1) (v.2.2.2.2.2.2.2)) L pc []) : GG E 0 0 (W_X7_plan (eCy E) a_t a_p1 a_p2 a_p1_numbers a_p2_carried a_t_carriedBy a_t_chosen a_t_leftFrom a_t_leftFromE_0 a_t_leftFromE_1 a_t_leftFromE_2 a_t_leftFromE_3 a_t_leftFromE_4 a_t_leftFromE_5 a_t_leftFromE_6 a_t_leftFromE_7 a_t_leftFromE_8 a_t_leftFromE_9 a_t_leftFromE_10 a_t_leftFromE_11 a_t_leftFromE_12 a_t_leftFromE_13 a_t_leftFromE_14 a_t_leftFromE_15 a_t_leftFromE_16 a_t_leftFromE_17 a_t_leftFromE_18 a_t_leftFromE_19 a_t_leftFromE_20 a_t_leftFromE_21 a_t_leftFromE_22 a_t_leftFromE_23 a_t_leftFromE_24 a_t_leftFromE_25 a_t_leftFromE_26 a_t_leftFromE_27 a_t_leftFromE_28 a_t_leftFromE_29 g_p1_0 g_p1_1 g_p2_0 g_p2_1 g_p2_2 g_p2_3 g_p2_4 g_p2_5 g_p2_6 g_p2_9 g_p2_10 g_p2_11 g_p2_12 g_p2_13 g_p2_14 g_p2_15 g_p2_16 c_hours c_least c_turns c_sets c_cost c_p1_size c_p2_bands c_p1_numbers c_p2_carried c_carriedBy c_chosen c_leftFromE) [some (.ref a_t), some (.ref a_p1), some (.ref a_p2), none, some (.int (wI x4)), some (.int (wI x5))] 92 [.int (wI s3), .int (wI s2), .int (wI s1), .ref a_t_carriedBy] := by
  unfold mb_X7_plan_92 at h
  refine g_iadd C dX7_plan_92 ?_
  obtain ⟨y1, e_y1, h⟩ := nam_some h
  refine g_topI e_y1 ?_
  obtain ⟨hc2, h⟩ := chk_some h
  refine g_iast C 5 rfl hc2 rfl (ws' := (W_X7_plan (eCy E) a_t a_p1 a_p2 a_p1_numbers a_p2_carried a_t_carriedBy a_t_chosen a_t_leftFrom a_t_leftFromE_0 a_t_leftFromE_1 a_t_leftFromE_2 a_t_leftFromE_3 a_t_leftFromE_4 a_t_leftFromE_5 a_t_leftFromE_6 a_t_leftFromE_7 a_t_leftFromE_8 a_t_leftFromE_9 a_t_leftFromE_10 a_t_leftFromE_11 a_t_leftFromE_12 a_t_leftFromE_13 a_t_leftFromE_14 a_t_leftFromE_15 a_t_leftFromE_16 a_t_leftFromE_17 a_t_leftFromE_18 a_t_leftFromE_19 a_t_leftFromE_20 a_t_leftFromE_21 a_t_leftFromE_22 a_t_leftFromE_23 a_t_leftFromE_24 a_t_leftFromE_25 a_t_leftFromE_26 a_t_leftFromE_27 a_t_leftFromE_28 a_t_leftFromE_29 g_p1_0 g_p1_1 g_p2_0 g_p2_1 g_p2_2 g_p2_3 g_p2_4 g_p2_5 g_p2_6 g_p2_9 g_p2_10 g_p2_11 g_p2_12 g_p2_13 g_p2_14 g_p2_15 g_p2_16 c_hours c_least c_turns c_sets c_cost c_p1_size c_p2_bands c_p1_numbers c_p2_carried (up c_carriedBy s1 y1) c_chosen c_leftFromE)) rfl dX7_plan_93 ?_
  refine g_iinc C hN dX7_plan_94 rfl rfl (L' := [some (.ref a_t), some (.ref a_p1), some (.ref a_p2), none, some (.int (wI x4)), some (.int (wI (x5 + 1)))]) rfl ?_
  refine g_goto (tgt := 53) C dX7_plan_97 (by decide) ?_
  exact hk53 _ _ _ _ h
set_option maxRecDepth 100000 in
set_option maxHeartbeats 4000000 in
theorem wb_X7_plan_53 {F : Nat} {k33 : Int → (Int → Int) → Option (Int × Int × Int × Int × Int × (Int → Int) × (Int → Int) × (Int → Int → Int))} {k53 : Int → (Int → Int) → Option (Int × Int × Int × Int × Int × (Int → Int) × (Int → Int) × (Int → Int → Int))} {v : Int × Int × Int × Int × Int × (Int → Int) × (Int → Int) × (Int → Int → Int)} {x4 : Int} {x5 : Int} {c_hours : Int} {c_sets : Int} {c_cost : Int} {c_p2_bands : Int} {c_p1_numbers : Int → Int} {c_p2_carried : Int → Int} {c_carriedBy : Int → Int} {c_chosen : Int → Int} {c_leftFromE : Int → Int → Int} {c_least : Int} {c_turns : Int} {c_p1_size : Int} (C : Cx E cX7_plan RX7 { frames := 4, cells := 0, slots := 0, locals := 93 }) (hN : eN E = 6) (h : mb_X7_plan_53 F k33 k53 x4 x5 c_hours c_sets c_cost c_p2_bands c_p1_numbers c_p2_carried c_carriedBy c_chosen c_leftFromE = some v) (hk33 : ∀ (y_x4 : Int) (y_c_carriedBy : Int → Int) (z_c_least : Int) (z_c_turns : Int), k33 y_x4 y_c_carriedBy = some v → GG E 0 0 (W_X7_plan (eCy E) a_t a_p1 a_p2 a_p1_numbers a_p2_carried a_t_carriedBy a_t_chosen a_t_leftFrom a_t_leftFromE_0 a_t_leftFromE_1 a_t_leftFromE_2 a_t_leftFromE_3 a_t_leftFromE_4 a_t_leftFromE_5 a_t_leftFromE_6 a_t_leftFromE_7 a_t_leftFromE_8 a_t_leftFromE_9 a_t_leftFromE_10 a_t_leftFromE_11 a_t_leftFromE_12 a_t_leftFromE_13 a_t_leftFromE_14 a_t_leftFromE_15 a_t_leftFromE_16 a_t_leftFromE_17 a_t_leftFromE_18 a_t_leftFromE_19 a_t_leftFromE_20 a_t_leftFromE_21 a_t_leftFromE_22 a_t_leftFromE_23 a_t_leftFromE_24 a_t_leftFromE_25 a_t_leftFromE_26 a_t_leftFromE_27 a_t_leftFromE_28 a_t_leftFromE_29 g_p1_0 g_p1_1 g_p2_0 g_p2_1 g_p2_2 g_p2_3 g_p2_4 g_p2_5 g_p2_6 g_p2_9 g_p2_10 g_p2_11 g_p2_12 g_p2_13 g_p2_14 g_p2_15 g_p2_16 c_hours z_c_least z_c_turns c_sets c_cost c_p1_size c_p2_bands c_p1_numbers c_p2_carried y_c_carriedBy c_chosen c_leftFromE) [some (.ref a_t), some (.ref a_p1), some (.ref a_p2), none, some (.int (wI y_x4)), none] 33 []) (hk53 : ∀ (y_x5 : Int) (y_c_carriedBy : Int → Int) (z_c_least : Int) (z_c_turns : Int), k53 y_x5 y_c_carriedBy = some v → GG E 0 0 (W_X7_plan (eCy E) a_t a_p1 a_p2 a_p1_numbers a_p2_carried a_t_carriedBy a_t_chosen a_t_leftFrom a_t_leftFromE_0 a_t_leftFromE_1 a_t_leftFromE_2 a_t_leftFromE_3 a_t_leftFromE_4 a_t_leftFromE_5 a_t_leftFromE_6 a_t_leftFromE_7 a_t_leftFromE_8 a_t_leftFromE_9 a_t_leftFromE_10 a_t_leftFromE_11 a_t_leftFromE_12 a_t_leftFromE_13 a_t_leftFromE_14 a_t_leftFromE_15 a_t_leftFromE_16 a_t_leftFromE_17 a_t_leftFromE_18 a_t_leftFromE_19 a_t_leftFromE_20 a_t_leftFromE_21 a_t_leftFromE_22 a_t_leftFromE_23 a_t_leftFromE_24 a_t_leftFromE_25 a_t_leftFromE_26 a_t_leftFromE_27 a_t_leftFromE_28 a_t_leftFromE_29 g_p1_0 g_p1_1 g_p2_0 g_p2_1 g_p2_2 g_p2_3 g_p2_4 g_p2_5 g_p2_6 g_p2_9 g_p2_10 g_p2_11 g_p2_12 g_p2_13 g_p2_14 g_p2_15 g_p2_16 c_hours z_c_least z_c_turns c_sets c_cost c_p1_size c_p2_bands c_p1_numbers c_p2_carried y_c_carriedBy c_chosen c_leftFromE) [some (.ref a_t), some (.ref a_p1), some (.ref a_p2), none, some (.int (wI x4)), some (.int (wI y_x5))] 53 []) (hret : ∀ (pc : Nat) (L : List (Option Value)), decode cX7_plan pc = .ok (.return_, 1) → GG E 0 0 (W_X7_plan (eCy E) a_t a_p1 a_p2 a_p1_numbers a_p2_carried a_t_carriedBy a_t_chosen a_t_leftFrom a_t_leftFromE_0 a_t_leftFromE_1 a_t_leftFromE_2 a_t_leftFromE_3 a_t_leftFromE_4 a_t_leftFromE_5 a_t_leftFromE_6 a_t_leftFromE_7 a_t_leftFromE_8 a_t_leftFromE_9 a_t_leftFromE_10 a_t_leftFromE_11 a_t_leftFromE_12 a_t_leftFromE_13 a_t_leftFromE_14 a_t_leftFromE_15 a_t_leftFromE_16 a_t_leftFromE_17 a_t_leftFromE_18 a_t_leftFromE_19 a_t_leftFromE_20 a_t_leftFromE_21 a_t_leftFromE_22 a_t_leftFromE_23 a_t_leftFromE_24 a_t_leftFromE_25 a_t_leftFromE_26 a_t_leftFromE_27 a_t_leftFromE_28 a_t_leftFromE_29 g_p1_0 g_p1_1 g_p2_0 g_p2_1 g_p2_2 g_p2_3 g_p2_4 g_p2_5 g_p2_6 g_p2_9 g_p2_10 g_p2_11 g_p2_12 g_p2_13 g_p2_14 g_p2_15 g_p2_16 (v.1) (v.2.1) (v.2.2.1) (v.2.2.2.1) (v.2.2.2.2.1) c_p1_size c_p2_bands c_p1_numbers c_p2_carried (v.2.2.2.2.2.1) (v.2.2.2.2.2.2.1) (v.2.2.2.2.2.2.2)) L pc []) : GG E 0 0 (W_X7_plan (eCy E) a_t a_p1 a_p2 a_p1_numbers a_p2_carried a_t_carriedBy a_t_chosen a_t_leftFrom a_t_leftFromE_0 a_t_leftFromE_1 a_t_leftFromE_2 a_t_leftFromE_3 a_t_leftFromE_4 a_t_leftFromE_5 a_t_leftFromE_6 a_t_leftFromE_7 a_t_leftFromE_8 a_t_leftFromE_9 a_t_leftFromE_10 a_t_leftFromE_11 a_t_leftFromE_12 a_t_leftFromE_13 a_t_leftFromE_14 a_t_leftFromE_15 a_t_leftFromE_16 a_t_leftFromE_17 a_t_leftFromE_18 a_t_leftFromE_19 a_t_leftFromE_20 a_t_leftFromE_21 a_t_leftFromE_22 a_t_leftFromE_23 a_t_leftFromE_24 a_t_leftFromE_25 a_t_leftFromE_26 a_t_leftFromE_27 a_t_leftFromE_28 a_t_leftFromE_29 g_p1_0 g_p1_1 g_p2_0 g_p2_1 g_p2_2 g_p2_3 g_p2_4 g_p2_5 g_p2_6 g_p2_9 g_p2_10 g_p2_11 g_p2_12 g_p2_13 g_p2_14 g_p2_15 g_p2_16 c_hours c_least c_turns c_sets c_cost c_p1_size c_p2_bands c_p1_numbers c_p2_carried c_carriedBy c_chosen c_leftFromE) [some (.ref a_t), some (.ref a_p1), some (.ref a_p2), none, some (.int (wI x4)), some (.int (wI x5))] 53 [] := by
  unfold mb_X7_plan_53 at h
  refine g_iload C dX7_plan_53 rfl ?_
  refine g_aload_n 2 C dX7_plan_55 rfl rfl ?_
  refine g_get C fg_X7_50 2 rfl rfl dX7_plan_56 ?_
  refine g_st (st' := [.int (wI c_p2_bands), .int (wI x5)]) rfl ?_
  refine g_icmp_ge 100 C dX7_plan_59 (by decide) h (fun h => ?_) (fun h => ?_)
  · refine g_iinc C hN dX7_plan_100 rfl rfl (L' := [some (.ref a_t), some (.ref a_p1), some (.ref a_p2), none, some (.int (wI (x4 + 1))), some (.int (wI x5))]) rfl ?_
    refine g_goto (tgt := 33) C dX7_plan_103 (by decide) ?_
    refine g_mask [true, true, true, false, true, false] (L' := [some (.ref a_t), some (.ref a_p1), some (.ref a_p2), none, some (.int (wI (x4 + 1))), none]) rfl ?_
    exact hk33 _ _ _ _ h
  · refine g_aload_n 0 C dX7_plan_62 rfl rfl ?_
    refine g_get C fg_X7_31 0 rfl rfl dX7_plan_63 ?_
    refine g_iload C dX7_plan_66 rfl ?_
    refine g_dup2_11 C dX7_plan_68 rfl rfl ?_
    obtain ⟨hc1, h⟩ := chk_some h
    refine g_iald C 5 rfl hc1 rfl dX7_plan_69 ?_
    refine g_iload C dX7_plan_70 rfl ?_
    refine g_iload C dX7_plan_72 rfl ?_
    refine g_ishr C dX7_plan_74 ?_
    refine g_iconst C dX7_plan_75 ?_
    refine g_iand C dX7_plan_76 ?_
    refine g_iconst C dX7_plan_77 ?_
    refine g_icmp_ne 91 C dX7_plan_78 (by decide) h (fun h => ?_) (fun h => ?_)
    · refine g_iconst C dX7_plan_91 ?_
      exact wb_X7_plan_92 C hN h hk33 hk53 hret
    · refine g_aload_n 2 C dX7_plan_81 rfl rfl ?_
      refine g_get C fg_X7_55 2 rfl rfl dX7_plan_82 ?_
      refine g_iload C dX7_plan_85 rfl ?_
      obtain ⟨hc2, h⟩ := chk_some h
      refine g_iald C 4 rfl hc2 rfl dX7_plan_87 ?_
      refine g_goto (tgt := 92) C dX7_plan_88 (by decide) ?_
      exact wb_X7_plan_92 C hN h hk33 hk53 hret
set_option maxRecDepth 100000 in
set_option maxHeartbeats 4000000 in
theorem wl_X7_plan_53 {F : Nat} {k33 : Int → (Int → Int) → Option (Int × Int × Int × Int × Int × (Int → Int) × (Int → Int) × (Int → Int → Int))} {v : Int × Int × Int × Int × Int × (Int → Int) × (Int → Int) × (Int → Int → Int)} {x4 : Int} {x5 : Int} {c_hours : Int} {c_sets : Int} {c_cost : Int} {c_p2_bands : Int} {c_p1_numbers : Int → Int} {c_p2_carried : Int → Int} {c_carriedBy : Int → Int} {c_chosen : Int → Int} {c_leftFromE : Int → Int → Int} {c_least : Int} {c_turns : Int} {c_p1_size : Int} (C : Cx E cX7_plan RX7 { frames := 4, cells := 0, slots := 0, locals := 93 }) (hN : eN E = 6) (h : ml_X7_plan_53 F k33 x4 x5 c_hours c_sets c_cost c_p2_bands c_p1_numbers c_p2_carried c_carriedBy c_chosen c_leftFromE = some v) (hk33 : ∀ (y_x4 : Int) (y_c_carriedBy : Int → Int) (z_c_least : Int) (z_c_turns : Int), k33 y_x4 y_c_carriedBy = some v → GG E 0 0 (W_X7_plan (eCy E) a_t a_p1 a_p2 a_p1_numbers a_p2_carried a_t_carriedBy a_t_chosen a_t_leftFrom a_t_leftFromE_0 a_t_leftFromE_1 a_t_leftFromE_2 a_t_leftFromE_3 a_t_leftFromE_4 a_t_leftFromE_5 a_t_leftFromE_6 a_t_leftFromE_7 a_t_leftFromE_8 a_t_leftFromE_9 a_t_leftFromE_10 a_t_leftFromE_11 a_t_leftFromE_12 a_t_leftFromE_13 a_t_leftFromE_14 a_t_leftFromE_15 a_t_leftFromE_16 a_t_leftFromE_17 a_t_leftFromE_18 a_t_leftFromE_19 a_t_leftFromE_20 a_t_leftFromE_21 a_t_leftFromE_22 a_t_leftFromE_23 a_t_leftFromE_24 a_t_leftFromE_25 a_t_leftFromE_26 a_t_leftFromE_27 a_t_leftFromE_28 a_t_leftFromE_29 g_p1_0 g_p1_1 g_p2_0 g_p2_1 g_p2_2 g_p2_3 g_p2_4 g_p2_5 g_p2_6 g_p2_9 g_p2_10 g_p2_11 g_p2_12 g_p2_13 g_p2_14 g_p2_15 g_p2_16 c_hours z_c_least z_c_turns c_sets c_cost c_p1_size c_p2_bands c_p1_numbers c_p2_carried y_c_carriedBy c_chosen c_leftFromE) [some (.ref a_t), some (.ref a_p1), some (.ref a_p2), none, some (.int (wI y_x4)), none] 33 []) (hret : ∀ (pc : Nat) (L : List (Option Value)), decode cX7_plan pc = .ok (.return_, 1) → GG E 0 0 (W_X7_plan (eCy E) a_t a_p1 a_p2 a_p1_numbers a_p2_carried a_t_carriedBy a_t_chosen a_t_leftFrom a_t_leftFromE_0 a_t_leftFromE_1 a_t_leftFromE_2 a_t_leftFromE_3 a_t_leftFromE_4 a_t_leftFromE_5 a_t_leftFromE_6 a_t_leftFromE_7 a_t_leftFromE_8 a_t_leftFromE_9 a_t_leftFromE_10 a_t_leftFromE_11 a_t_leftFromE_12 a_t_leftFromE_13 a_t_leftFromE_14 a_t_leftFromE_15 a_t_leftFromE_16 a_t_leftFromE_17 a_t_leftFromE_18 a_t_leftFromE_19 a_t_leftFromE_20 a_t_leftFromE_21 a_t_leftFromE_22 a_t_leftFromE_23 a_t_leftFromE_24 a_t_leftFromE_25 a_t_leftFromE_26 a_t_leftFromE_27 a_t_leftFromE_28 a_t_leftFromE_29 g_p1_0 g_p1_1 g_p2_0 g_p2_1 g_p2_2 g_p2_3 g_p2_4 g_p2_5 g_p2_6 g_p2_9 g_p2_10 g_p2_11 g_p2_12 g_p2_13 g_p2_14 g_p2_15 g_p2_16 (v.1) (v.2.1) (v.2.2.1) (v.2.2.2.1) (v.2.2.2.2.1) c_p1_size c_p2_bands c_p1_numbers c_p2_carried (v.2.2.2.2.2.1) (v.2.2.2.2.2.2.1) (v.2.2.2.2.2.2.2)) L pc []) : GG E 0 0 (W_X7_plan (eCy E) a_t a_p1 a_p2 a_p1_numbers a_p2_carried a_t_carriedBy a_t_chosen a_t_leftFrom a_t_leftFromE_0 a_t_leftFromE_1 a_t_leftFromE_2 a_t_leftFromE_3 a_t_leftFromE_4 a_t_leftFromE_5 a_t_leftFromE_6 a_t_leftFromE_7 a_t_leftFromE_8 a_t_leftFromE_9 a_t_leftFromE_10 a_t_leftFromE_11 a_t_leftFromE_12 a_t_leftFromE_13 a_t_leftFromE_14 a_t_leftFromE_15 a_t_leftFromE_16 a_t_leftFromE_17 a_t_leftFromE_18 a_t_leftFromE_19 a_t_leftFromE_20 a_t_leftFromE_21 a_t_leftFromE_22 a_t_leftFromE_23 a_t_leftFromE_24 a_t_leftFromE_25 a_t_leftFromE_26 a_t_leftFromE_27 a_t_leftFromE_28 a_t_leftFromE_29 g_p1_0 g_p1_1 g_p2_0 g_p2_1 g_p2_2 g_p2_3 g_p2_4 g_p2_5 g_p2_6 g_p2_9 g_p2_10 g_p2_11 g_p2_12 g_p2_13 g_p2_14 g_p2_15 g_p2_16 c_hours c_least c_turns c_sets c_cost c_p1_size c_p2_bands c_p1_numbers c_p2_carried c_carriedBy c_chosen c_leftFromE) [some (.ref a_t), some (.ref a_p1), some (.ref a_p2), none, some (.int (wI x4)), some (.int (wI x5))] 53 [] := by
  unfold ml_X7_plan_53 at h
  exact loop_walk (g := fun (q : Int × (Int → Int)) => ∀ (z_c_least : Int) (z_c_turns : Int), GG E 0 0 (W_X7_plan (eCy E) a_t a_p1 a_p2 a_p1_numbers a_p2_carried a_t_carriedBy a_t_chosen a_t_leftFrom a_t_leftFromE_0 a_t_leftFromE_1 a_t_leftFromE_2 a_t_leftFromE_3 a_t_leftFromE_4 a_t_leftFromE_5 a_t_leftFromE_6 a_t_leftFromE_7 a_t_leftFromE_8 a_t_leftFromE_9 a_t_leftFromE_10 a_t_leftFromE_11 a_t_leftFromE_12 a_t_leftFromE_13 a_t_leftFromE_14 a_t_leftFromE_15 a_t_leftFromE_16 a_t_leftFromE_17 a_t_leftFromE_18 a_t_leftFromE_19 a_t_leftFromE_20 a_t_leftFromE_21 a_t_leftFromE_22 a_t_leftFromE_23 a_t_leftFromE_24 a_t_leftFromE_25 a_t_leftFromE_26 a_t_leftFromE_27 a_t_leftFromE_28 a_t_leftFromE_29 g_p1_0 g_p1_1 g_p2_0 g_p2_1 g_p2_2 g_p2_3 g_p2_4 g_p2_5 g_p2_6 g_p2_9 g_p2_10 g_p2_11 g_p2_12 g_p2_13 g_p2_14 g_p2_15 g_p2_16 c_hours z_c_least z_c_turns c_sets c_cost c_p1_size c_p2_bands c_p1_numbers c_p2_carried (q.2) c_chosen c_leftFromE) [some (.ref a_t), some (.ref a_p1), some (.ref a_p2), none, some (.int (wI x4)), some (.int (wI (q.1)))] 53 []) (fun k hk q h z_c_least z_c_turns => wb_X7_plan_53 C hN h hk33 (fun y0 y1 u0 u1 hh => hk (y0, y1) hh u0 u1) hret) F (x5, c_carriedBy) h _ _
set_option maxRecDepth 100000 in
set_option maxHeartbeats 4000000 in
theorem wb_X7_plan_114 {F : Nat} {k114 : Int → (Int → Int → Int) → Option (Int × Int × Int × Int × Int × (Int → Int) × (Int → Int) × (Int → Int → Int))} {v : Int × Int × Int × Int × Int × (Int → Int) × (Int → Int) × (Int → Int → Int)} {x4 : Int} {c_hours : Int} {c_sets : Int} {c_cost : Int} {c_p1_numbers : Int → Int} {c_carriedBy : Int → Int} {c_chosen : Int → Int} {c_leftFromE : Int → Int → Int} {c_least : Int} {c_turns : Int} {c_p1_size : Int} {c_p2_bands : Int} {c_p2_carried : Int → Int} (C : Cx E cX7_plan RX7 { frames := 4, cells := 0, slots := 0, locals := 93 }) (hN : eN E = 6) (h : mb_X7_plan_114 F k114 x4 c_hours c_sets c_cost c_p1_numbers c_carriedBy c_chosen c_leftFromE = some v) (hk114 : ∀ (y_x4 : Int) (y_c_leftFromE : Int → Int → Int) (z_c_least : Int) (z_c_turns : Int), k114 y_x4 y_c_leftFromE = some v → GG E 0 0 (W_X7_plan (eCy E) a_t a_p1 a_p2 a_p1_numbers a_p2_carried a_t_carriedBy a_t_chosen a_t_leftFrom a_t_leftFromE_0 a_t_leftFromE_1 a_t_leftFromE_2 a_t_leftFromE_3 a_t_leftFromE_4 a_t_leftFromE_5 a_t_leftFromE_6 a_t_leftFromE_7 a_t_leftFromE_8 a_t_leftFromE_9 a_t_leftFromE_10 a_t_leftFromE_11 a_t_leftFromE_12 a_t_leftFromE_13 a_t_leftFromE_14 a_t_leftFromE_15 a_t_leftFromE_16 a_t_leftFromE_17 a_t_leftFromE_18 a_t_leftFromE_19 a_t_leftFromE_20 a_t_leftFromE_21 a_t_leftFromE_22 a_t_leftFromE_23 a_t_leftFromE_24 a_t_leftFromE_25 a_t_leftFromE_26 a_t_leftFromE_27 a_t_leftFromE_28 a_t_leftFromE_29 g_p1_0 g_p1_1 g_p2_0 g_p2_1 g_p2_2 g_p2_3 g_p2_4 g_p2_5 g_p2_6 g_p2_9 g_p2_10 g_p2_11 g_p2_12 g_p2_13 g_p2_14 g_p2_15 g_p2_16 c_hours z_c_least z_c_turns c_sets c_cost c_p1_size c_p2_bands c_p1_numbers c_p2_carried c_carriedBy c_chosen y_c_leftFromE) [some (.ref a_t), some (.ref a_p1), none, none, some (.int (wI y_x4)), none] 114 []) (hret : ∀ (pc : Nat) (L : List (Option Value)), decode cX7_plan pc = .ok (.return_, 1) → GG E 0 0 (W_X7_plan (eCy E) a_t a_p1 a_p2 a_p1_numbers a_p2_carried a_t_carriedBy a_t_chosen a_t_leftFrom a_t_leftFromE_0 a_t_leftFromE_1 a_t_leftFromE_2 a_t_leftFromE_3 a_t_leftFromE_4 a_t_leftFromE_5 a_t_leftFromE_6 a_t_leftFromE_7 a_t_leftFromE_8 a_t_leftFromE_9 a_t_leftFromE_10 a_t_leftFromE_11 a_t_leftFromE_12 a_t_leftFromE_13 a_t_leftFromE_14 a_t_leftFromE_15 a_t_leftFromE_16 a_t_leftFromE_17 a_t_leftFromE_18 a_t_leftFromE_19 a_t_leftFromE_20 a_t_leftFromE_21 a_t_leftFromE_22 a_t_leftFromE_23 a_t_leftFromE_24 a_t_leftFromE_25 a_t_leftFromE_26 a_t_leftFromE_27 a_t_leftFromE_28 a_t_leftFromE_29 g_p1_0 g_p1_1 g_p2_0 g_p2_1 g_p2_2 g_p2_3 g_p2_4 g_p2_5 g_p2_6 g_p2_9 g_p2_10 g_p2_11 g_p2_12 g_p2_13 g_p2_14 g_p2_15 g_p2_16 (v.1) (v.2.1) (v.2.2.1) (v.2.2.2.1) (v.2.2.2.2.1) c_p1_size c_p2_bands c_p1_numbers c_p2_carried (v.2.2.2.2.2.1) (v.2.2.2.2.2.2.1) (v.2.2.2.2.2.2.2)) L pc []) : GG E 0 0 (W_X7_plan (eCy E) a_t a_p1 a_p2 a_p1_numbers a_p2_carried a_t_carriedBy a_t_chosen a_t_leftFrom a_t_leftFromE_0 a_t_leftFromE_1 a_t_leftFromE_2 a_t_leftFromE_3 a_t_leftFromE_4 a_t_leftFromE_5 a_t_leftFromE_6 a_t_leftFromE_7 a_t_leftFromE_8 a_t_leftFromE_9 a_t_leftFromE_10 a_t_leftFromE_11 a_t_leftFromE_12 a_t_leftFromE_13 a_t_leftFromE_14 a_t_leftFromE_15 a_t_leftFromE_16 a_t_leftFromE_17 a_t_leftFromE_18 a_t_leftFromE_19 a_t_leftFromE_20 a_t_leftFromE_21 a_t_leftFromE_22 a_t_leftFromE_23 a_t_leftFromE_24 a_t_leftFromE_25 a_t_leftFromE_26 a_t_leftFromE_27 a_t_leftFromE_28 a_t_leftFromE_29 g_p1_0 g_p1_1 g_p2_0 g_p2_1 g_p2_2 g_p2_3 g_p2_4 g_p2_5 g_p2_6 g_p2_9 g_p2_10 g_p2_11 g_p2_12 g_p2_13 g_p2_14 g_p2_15 g_p2_16 c_hours c_least c_turns c_sets c_cost c_p1_size c_p2_bands c_p1_numbers c_p2_carried c_carriedBy c_chosen c_leftFromE) [some (.ref a_t), some (.ref a_p1), none, none, some (.int (wI x4)), none] 114 [] := by
  unfold mb_X7_plan_114 at h
  refine g_iload C dX7_plan_114 rfl ?_
  refine g_if_lt 153 C dX7_plan_116 (by decide) h (fun h => ?_) (fun h => ?_)
  · refine g_aload_n 0 C dX7_plan_153 rfl rfl ?_
    obtain ⟨o1, o2, o3, hr4, h⟩ := bnd3_some h
    refine g_callV [0, 6, 7, 8, 9, 10, 11, 12, 13, 14, 15, 16, 17, 18, 19, 20, 21, 22, 23, 24, 25, 26, 27, 28, 29, 30, 31, 32, 33, 34, 35, 36, 37] [1, 2, 3, 4, 5] [5, 0, 1, 2, 3, 4, 6, 7, 8, 9, 10, 11, 12, 13, 14, 15, 16, 17, 18, 19, 20, 21, 22, 23, 24, 25, 26, 27, 28, 29, 30, 31, 32, 33, 34, 35, 36, 37] C mt_X7_66 (c_X7_choose _ _ _ _ a_t a_t_chosen a_t_leftFrom a_t_leftFromE_0 a_t_leftFromE_1 a_t_leftFromE_2 a_t_leftFromE_3 a_t_leftFromE_4 a_t_leftFromE_5 a_t_leftFromE_6 a_t_leftFromE_7 a_t_leftFromE_8 a_t_leftFromE_9 a_t_leftFromE_10 a_t_leftFromE_11 a_t_leftFromE_12 a_t_leftFromE_13 a_t_leftFromE_14 a_t_leftFromE_15 a_t_leftFromE_16 a_t_leftFromE_17 a_t_leftFromE_18 a_t_leftFromE_19 a_t_leftFromE_20 a_t_leftFromE_21 a_t_leftFromE_22 a_t_leftFromE_23 a_t_leftFromE_24 a_t_leftFromE_25 a_t_leftFromE_26 a_t_leftFromE_27 a_t_leftFromE_28 a_t_leftFromE_29 (.ref a_t_carriedBy) c_hours c_least c_turns c_sets c_cost c_chosen c_leftFromE F hr4) (q0 := 0) rfl (ci := 7) rfl rfl rfl (ws2 := (W_X7_plan (eCy E) a_t a_p1 a_p2 a_p1_numbers a_p2_carried a_t_carriedBy a_t_chosen a_t_leftFrom a_t_leftFromE_0 a_t_leftFromE_1 a_t_leftFromE_2 a_t_leftFromE_3 a_t_leftFromE_4 a_t_leftFromE_5 a_t_leftFromE_6 a_t_leftFromE_7 a_t_leftFromE_8 a_t_leftFromE_9 a_t_leftFromE_10 a_t_leftFromE_11 a_t_leftFromE_12 a_t_leftFromE_13 a_t_leftFromE_14 a_t_leftFromE_15 a_t_leftFromE_16 a_t_leftFromE_17 a_t_leftFromE_18 a_t_leftFromE_19 a_t_leftFromE_20 a_t_leftFromE_21 a_t_leftFromE_22 a_t_leftFromE_23 a_t_leftFromE_24 a_t_leftFromE_25 a_t_leftFromE_26 a_t_leftFromE_27 a_t_leftFromE_28 a_t_leftFromE_29 g_p1_0 g_p1_1 g_p2_0 g_p2_1 g_p2_2 g_p2_3 g_p2_4 g_p2_5 g_p2_6 g_p2_9 g_p2_10 g_p2_11 g_p2_12 g_p2_13 g_p2_14 g_p2_15 g_p2_16 c_hours o1 o2 c_sets c_cost c_p1_size c_p2_bands c_p1_numbers c_p2_carried c_carriedBy o3 c_leftFromE)) rfl rfl rfl (rest := []) rfl rfl rfl dX7_plan_154 ?_
    cases h
    exact hret 157 _ dX7_plan_157
  · refine g_aload_n 0 C dX7_plan_119 rfl rfl ?_
    refine g_iload C dX7_plan_120 rfl ?_
    refine g_aload_n 1 C dX7_plan_122 rfl rfl ?_
    refine g_get C fg_X7_58 1 rfl rfl dX7_plan_123 ?_
    refine g_iconst C dX7_plan_126 ?_
    refine g_iload C dX7_plan_127 rfl ?_
    refine g_imul C dX7_plan_129 ?_
    obtain ⟨hc1, h⟩ := chk_some h
    refine g_lald C 3 rfl hc1 rfl dX7_plan_130 ?_
    refine g_l2i C dX7_plan_131 ?_
    refine g_aload_n 1 C dX7_plan_132 rfl rfl ?_
    refine g_get C fg_X7_58 1 rfl rfl dX7_plan_133 ?_
    refine g_iconst C dX7_plan_136 ?_
    refine g_iload C dX7_plan_137 rfl ?_
    refine g_imul C dX7_plan_139 ?_
    refine g_iconst C dX7_plan_140 ?_
    refine g_iadd C dX7_plan_141 ?_
    obtain ⟨hc2, h⟩ := chk_some h
    refine g_lald C 3 rfl hc2 rfl dX7_plan_142 ?_
    refine g_l2i C dX7_plan_143 ?_
    obtain ⟨o3, hr4, h⟩ := bnd1_some h
    refine g_callV [0, 5, 7, 8, 9, 10, 11, 12, 13, 14, 15, 16, 17, 18, 19, 20, 21, 22, 23, 24, 25, 26, 27, 28, 29, 30, 31, 32, 33, 34, 35, 36, 37] [1, 2, 3, 4, 6] [5, 0, 1, 2, 3, 6, 4, 7, 8, 9, 10, 11, 12, 13, 14, 15, 16, 17, 18, 19, 20, 21, 22, 23, 24, 25, 26, 27, 28, 29, 30, 31, 32, 33, 34, 35, 36, 37] C mt_X7_62 (c_X7_fillHour _ _ _ _ a_t a_t_carriedBy a_t_leftFrom a_t_leftFromE_0 a_t_leftFromE_1 a_t_leftFromE_2 a_t_leftFromE_3 a_t_leftFromE_4 a_t_leftFromE_5 a_t_leftFromE_6 a_t_leftFromE_7 a_t_leftFromE_8 a_t_leftFromE_9 a_t_leftFromE_10 a_t_leftFromE_11 a_t_leftFromE_12 a_t_leftFromE_13 a_t_leftFromE_14 a_t_leftFromE_15 a_t_leftFromE_16 a_t_leftFromE_17 a_t_leftFromE_18 a_t_leftFromE_19 a_t_leftFromE_20 a_t_leftFromE_21 a_t_leftFromE_22 a_t_leftFromE_23 a_t_leftFromE_24 a_t_leftFromE_25 a_t_leftFromE_26 a_t_leftFromE_27 a_t_leftFromE_28 a_t_leftFromE_29 (.int (wI c_least)) (.int (wI c_turns)) (.ref a_t_chosen) x4 (c_p1_numbers (2 * x4)) (c_p1_numbers ((2 * x4) + 1)) c_hours c_sets c_cost c_carriedBy c_leftFromE F hr4) (q0 := 0) rfl (ci := 7) rfl rfl rfl (ws2 := (W_X7_plan (eCy E) a_t a_p1 a_p2 a_p1_numbers a_p2_carried a_t_carriedBy a_t_chosen a_t_leftFrom a_t_leftFromE_0 a_t_leftFromE_1 a_t_leftFromE_2 a_t_leftFromE_3 a_t_leftFromE_4 a_t_leftFromE_5 a_t_leftFromE_6 a_t_leftFromE_7 a_t_leftFromE_8 a_t_leftFromE_9 a_t_leftFromE_10 a_t_leftFromE_11 a_t_leftFromE_12 a_t_leftFromE_13 a_t_leftFromE_14 a_t_leftFromE_15 a_t_leftFromE_16 a_t_leftFromE_17 a_t_leftFromE_18 a_t_leftFromE_19 a_t_leftFromE_20 a_t_leftFromE_21 a_t_leftFromE_22 a_t_leftFromE_23 a_t_leftFromE_24 a_t_leftFromE_25 a_t_leftFromE_26 a_t_leftFromE_27 a_t_leftFromE_28 a_t_leftFromE_29 g_p1_0 g_p1_1 g_p2_0 g_p2_1 g_p2_2 g_p2_3 g_p2_4 g_p2_5 g_p2_6 g_p2_9 g_p2_10 g_p2_11 g_p2_12 g_p2_13 g_p2_14 g_p2_15 g_p2_16 c_hours c_least c_turns c_sets c_cost c_p1_size c_p2_bands c_p1_numbers c_p2_carried c_carriedBy c_chosen o3)) rfl rfl rfl (rest := []) rfl rfl rfl dX7_plan_144 ?_
    refine g_iinc C hN dX7_plan_147 rfl rfl (L' := [some (.ref a_t), some (.ref a_p1), none, none, some (.int (wI (x4 + (-1)))), none]) rfl ?_
    refine g_goto (tgt := 114) C dX7_plan_150 (by decide) ?_
    exact hk114 _ _ _ _ h
set_option maxRecDepth 100000 in
set_option maxHeartbeats 4000000 in
theorem wl_X7_plan_114 {F : Nat} {v : Int × Int × Int × Int × Int × (Int → Int) × (Int → Int) × (Int → Int → Int)} {x4 : Int} {c_hours : Int} {c_sets : Int} {c_cost : Int} {c_p1_numbers : Int → Int} {c_carriedBy : Int → Int} {c_chosen : Int → Int} {c_leftFromE : Int → Int → Int} {c_least : Int} {c_turns : Int} {c_p1_size : Int} {c_p2_bands : Int} {c_p2_carried : Int → Int} (C : Cx E cX7_plan RX7 { frames := 4, cells := 0, slots := 0, locals := 93 }) (hN : eN E = 6) (h : ml_X7_plan_114 F x4 c_hours c_sets c_cost c_p1_numbers c_carriedBy c_chosen c_leftFromE = some v) (hret : ∀ (pc : Nat) (L : List (Option Value)), decode cX7_plan pc = .ok (.return_, 1) → GG E 0 0 (W_X7_plan (eCy E) a_t a_p1 a_p2 a_p1_numbers a_p2_carried a_t_carriedBy a_t_chosen a_t_leftFrom a_t_leftFromE_0 a_t_leftFromE_1 a_t_leftFromE_2 a_t_leftFromE_3 a_t_leftFromE_4 a_t_leftFromE_5 a_t_leftFromE_6 a_t_leftFromE_7 a_t_leftFromE_8 a_t_leftFromE_9 a_t_leftFromE_10 a_t_leftFromE_11 a_t_leftFromE_12 a_t_leftFromE_13 a_t_leftFromE_14 a_t_leftFromE_15 a_t_leftFromE_16 a_t_leftFromE_17 a_t_leftFromE_18 a_t_leftFromE_19 a_t_leftFromE_20 a_t_leftFromE_21 a_t_leftFromE_22 a_t_leftFromE_23 a_t_leftFromE_24 a_t_leftFromE_25 a_t_leftFromE_26 a_t_leftFromE_27 a_t_leftFromE_28 a_t_leftFromE_29 g_p1_0 g_p1_1 g_p2_0 g_p2_1 g_p2_2 g_p2_3 g_p2_4 g_p2_5 g_p2_6 g_p2_9 g_p2_10 g_p2_11 g_p2_12 g_p2_13 g_p2_14 g_p2_15 g_p2_16 (v.1) (v.2.1) (v.2.2.1) (v.2.2.2.1) (v.2.2.2.2.1) c_p1_size c_p2_bands c_p1_numbers c_p2_carried (v.2.2.2.2.2.1) (v.2.2.2.2.2.2.1) (v.2.2.2.2.2.2.2)) L pc []) : GG E 0 0 (W_X7_plan (eCy E) a_t a_p1 a_p2 a_p1_numbers a_p2_carried a_t_carriedBy a_t_chosen a_t_leftFrom a_t_leftFromE_0 a_t_leftFromE_1 a_t_leftFromE_2 a_t_leftFromE_3 a_t_leftFromE_4 a_t_leftFromE_5 a_t_leftFromE_6 a_t_leftFromE_7 a_t_leftFromE_8 a_t_leftFromE_9 a_t_leftFromE_10 a_t_leftFromE_11 a_t_leftFromE_12 a_t_leftFromE_13 a_t_leftFromE_14 a_t_leftFromE_15 a_t_leftFromE_16 a_t_leftFromE_17 a_t_leftFromE_18 a_t_leftFromE_19 a_t_leftFromE_20 a_t_leftFromE_21 a_t_leftFromE_22 a_t_leftFromE_23 a_t_leftFromE_24 a_t_leftFromE_25 a_t_leftFromE_26 a_t_leftFromE_27 a_t_leftFromE_28 a_t_leftFromE_29 g_p1_0 g_p1_1 g_p2_0 g_p2_1 g_p2_2 g_p2_3 g_p2_4 g_p2_5 g_p2_6 g_p2_9 g_p2_10 g_p2_11 g_p2_12 g_p2_13 g_p2_14 g_p2_15 g_p2_16 c_hours c_least c_turns c_sets c_cost c_p1_size c_p2_bands c_p1_numbers c_p2_carried c_carriedBy c_chosen c_leftFromE) [some (.ref a_t), some (.ref a_p1), none, none, some (.int (wI x4)), none] 114 [] := by
  unfold ml_X7_plan_114 at h
  exact loop_walk (g := fun (q : Int × (Int → Int → Int)) => ∀ (z_c_least : Int) (z_c_turns : Int), GG E 0 0 (W_X7_plan (eCy E) a_t a_p1 a_p2 a_p1_numbers a_p2_carried a_t_carriedBy a_t_chosen a_t_leftFrom a_t_leftFromE_0 a_t_leftFromE_1 a_t_leftFromE_2 a_t_leftFromE_3 a_t_leftFromE_4 a_t_leftFromE_5 a_t_leftFromE_6 a_t_leftFromE_7 a_t_leftFromE_8 a_t_leftFromE_9 a_t_leftFromE_10 a_t_leftFromE_11 a_t_leftFromE_12 a_t_leftFromE_13 a_t_leftFromE_14 a_t_leftFromE_15 a_t_leftFromE_16 a_t_leftFromE_17 a_t_leftFromE_18 a_t_leftFromE_19 a_t_leftFromE_20 a_t_leftFromE_21 a_t_leftFromE_22 a_t_leftFromE_23 a_t_leftFromE_24 a_t_leftFromE_25 a_t_leftFromE_26 a_t_leftFromE_27 a_t_leftFromE_28 a_t_leftFromE_29 g_p1_0 g_p1_1 g_p2_0 g_p2_1 g_p2_2 g_p2_3 g_p2_4 g_p2_5 g_p2_6 g_p2_9 g_p2_10 g_p2_11 g_p2_12 g_p2_13 g_p2_14 g_p2_15 g_p2_16 c_hours z_c_least z_c_turns c_sets c_cost c_p1_size c_p2_bands c_p1_numbers c_p2_carried c_carriedBy c_chosen (q.2)) [some (.ref a_t), some (.ref a_p1), none, none, some (.int (wI (q.1))), none] 114 []) (fun k hk q h z_c_least z_c_turns => wb_X7_plan_114 C hN h (fun y0 y1 u0 u1 hh => hk (y0, y1) hh u0 u1) hret) F (x4, c_leftFromE) h _ _
set_option maxRecDepth 100000 in
set_option maxHeartbeats 4000000 in
theorem wb_X7_plan_33 {F : Nat} {k33 : Int → (Int → Int) → Option (Int × Int × Int × Int × Int × (Int → Int) × (Int → Int) × (Int → Int → Int))} {v : Int × Int × Int × Int × Int × (Int → Int) × (Int → Int) × (Int → Int → Int)} {x4 : Int} {c_hours : Int} {c_sets : Int} {c_cost : Int} {c_p2_bands : Int} {c_p1_numbers : Int → Int} {c_p2_carried : Int → Int} {c_carriedBy : Int → Int} {c_chosen : Int → Int} {c_leftFromE : Int → Int → Int} {c_least : Int} {c_turns : Int} {c_p1_size : Int} (C : Cx E cX7_plan RX7 { frames := 4, cells := 0, slots := 0, locals := 93 }) (hN : eN E = 6) (h : mb_X7_plan_33 F k33 x4 c_hours c_sets c_cost c_p2_bands c_p1_numbers c_p2_carried c_carriedBy c_chosen c_leftFromE = some v) (hk33 : ∀ (y_x4 : Int) (y_c_carriedBy : Int → Int) (z_c_least : Int) (z_c_turns : Int), k33 y_x4 y_c_carriedBy = some v → GG E 0 0 (W_X7_plan (eCy E) a_t a_p1 a_p2 a_p1_numbers a_p2_carried a_t_carriedBy a_t_chosen a_t_leftFrom a_t_leftFromE_0 a_t_leftFromE_1 a_t_leftFromE_2 a_t_leftFromE_3 a_t_leftFromE_4 a_t_leftFromE_5 a_t_leftFromE_6 a_t_leftFromE_7 a_t_leftFromE_8 a_t_leftFromE_9 a_t_leftFromE_10 a_t_leftFromE_11 a_t_leftFromE_12 a_t_leftFromE_13 a_t_leftFromE_14 a_t_leftFromE_15 a_t_leftFromE_16 a_t_leftFromE_17 a_t_leftFromE_18 a_t_leftFromE_19 a_t_leftFromE_20 a_t_leftFromE_21 a_t_leftFromE_22 a_t_leftFromE_23 a_t_leftFromE_24 a_t_leftFromE_25 a_t_leftFromE_26 a_t_leftFromE_27 a_t_leftFromE_28 a_t_leftFromE_29 g_p1_0 g_p1_1 g_p2_0 g_p2_1 g_p2_2 g_p2_3 g_p2_4 g_p2_5 g_p2_6 g_p2_9 g_p2_10 g_p2_11 g_p2_12 g_p2_13 g_p2_14 g_p2_15 g_p2_16 c_hours z_c_least z_c_turns c_sets c_cost c_p1_size c_p2_bands c_p1_numbers c_p2_carried y_c_carriedBy c_chosen c_leftFromE) [some (.ref a_t), some (.ref a_p1), some (.ref a_p2), none, some (.int (wI y_x4)), none] 33 []) (hret : ∀ (pc : Nat) (L : List (Option Value)), decode cX7_plan pc = .ok (.return_, 1) → GG E 0 0 (W_X7_plan (eCy E) a_t a_p1 a_p2 a_p1_numbers a_p2_carried a_t_carriedBy a_t_chosen a_t_leftFrom a_t_leftFromE_0 a_t_leftFromE_1 a_t_leftFromE_2 a_t_leftFromE_3 a_t_leftFromE_4 a_t_leftFromE_5 a_t_leftFromE_6 a_t_leftFromE_7 a_t_leftFromE_8 a_t_leftFromE_9 a_t_leftFromE_10 a_t_leftFromE_11 a_t_leftFromE_12 a_t_leftFromE_13 a_t_leftFromE_14 a_t_leftFromE_15 a_t_leftFromE_16 a_t_leftFromE_17 a_t_leftFromE_18 a_t_leftFromE_19 a_t_leftFromE_20 a_t_leftFromE_21 a_t_leftFromE_22 a_t_leftFromE_23 a_t_leftFromE_24 a_t_leftFromE_25 a_t_leftFromE_26 a_t_leftFromE_27 a_t_leftFromE_28 a_t_leftFromE_29 g_p1_0 g_p1_1 g_p2_0 g_p2_1 g_p2_2 g_p2_3 g_p2_4 g_p2_5 g_p2_6 g_p2_9 g_p2_10 g_p2_11 g_p2_12 g_p2_13 g_p2_14 g_p2_15 g_p2_16 (v.1) (v.2.1) (v.2.2.1) (v.2.2.2.1) (v.2.2.2.2.1) c_p1_size c_p2_bands c_p1_numbers c_p2_carried (v.2.2.2.2.2.1) (v.2.2.2.2.2.2.1) (v.2.2.2.2.2.2.2)) L pc []) : GG E 0 0 (W_X7_plan (eCy E) a_t a_p1 a_p2 a_p1_numbers a_p2_carried a_t_carriedBy a_t_chosen a_t_leftFrom a_t_leftFromE_0 a_t_leftFromE_1 a_t_leftFromE_2 a_t_leftFromE_3 a_t_leftFromE_4 a_t_leftFromE_5 a_t_leftFromE_6 a_t_leftFromE_7 a_t_leftFromE_8 a_t_leftFromE_9 a_t_leftFromE_10 a_t_leftFromE_11 a_t_leftFromE_12 a_t_leftFromE_13 a_t_leftFromE_14 a_t_leftFromE_15 a_t_leftFromE_16 a_t_leftFromE_17 a_t_leftFromE_18 a_t_leftFromE_19 a_t_leftFromE_20 a_t_leftFromE_21 a_t_leftFromE_22 a_t_leftFromE_23 a_t_leftFromE_24 a_t_leftFromE_25 a_t_leftFromE_26 a_t_leftFromE_27 a_t_leftFromE_28 a_t_leftFromE_29 g_p1_0 g_p1_1 g_p2_0 g_p2_1 g_p2_2 g_p2_3 g_p2_4 g_p2_5 g_p2_6 g_p2_9 g_p2_10 g_p2_11 g_p2_12 g_p2_13 g_p2_14 g_p2_15 g_p2_16 c_hours c_least c_turns c_sets c_cost c_p1_size c_p2_bands c_p1_numbers c_p2_carried c_carriedBy c_chosen c_leftFromE) [some (.ref a_t), some (.ref a_p1), some (.ref a_p2), none, some (.int (wI x4)), none] 33 [] := by
  unfold mb_X7_plan_33 at h
  refine g_iload C dX7_plan_33 rfl ?_
  refine g_aload_n 0 C dX7_plan_35 rfl rfl ?_
  refine g_get C fg_X7_25 0 rfl rfl dX7_plan_36 ?_
  refine g_st (st' := [.int (wI c_sets), .int (wI x4)]) rfl ?_
  refine g_icmp_ge 106 C dX7_plan_39 (by decide) h (fun h => ?_) (fun h => ?_)
  · refine g_aload_n 0 C dX7_plan_106 rfl rfl ?_
    refine g_get C fg_X7_9 0 rfl rfl dX7_plan_107 ?_
    refine g_st (st' := [.int (wI c_hours)]) rfl ?_
    refine g_iconst C dX7_plan_110 ?_
    refine g_isub C dX7_plan_111 ?_
    obtain ⟨y1, e_y1, h⟩ := nam_some h
    refine g_topI e_y1 ?_
    refine g_istore C hN dX7_plan_112 rfl (L' := [some (.ref a_t), some (.ref a_p1), some (.ref a_p2), none, some (.int (wI y1)), none]) rfl ?_
    refine g_mask [true, true, false, false, true, false] (L' := [some (.ref a_t), some (.ref a_p1), none, none, some (.int (wI y1)), none]) rfl ?_
    exact wl_X7_plan_114 C hN h hret
  · refine g_aload_n 0 C dX7_plan_42 rfl rfl ?_
    refine g_get C fg_X7_31 0 rfl rfl dX7_plan_43 ?_
    refine g_iload C dX7_plan_46 rfl ?_
    refine g_iconst C dX7_plan_48 ?_
    obtain ⟨hc1, h⟩ := chk_some h
    refine g_iast C 5 rfl hc1 rfl (ws' := (W_X7_plan (eCy E) a_t a_p1 a_p2 a_p1_numbers a_p2_carried a_t_carriedBy a_t_chosen a_t_leftFrom a_t_leftFromE_0 a_t_leftFromE_1 a_t_leftFromE_2 a_t_leftFromE_3 a_t_leftFromE_4 a_t_leftFromE_5 a_t_leftFromE_6 a_t_leftFromE_7 a_t_leftFromE_8 a_t_leftFromE_9 a_t_leftFromE_10 a_t_leftFromE_11 a_t_leftFromE_12 a_t_leftFromE_13 a_t_leftFromE_14 a_t_leftFromE_15 a_t_leftFromE_16 a_t_leftFromE_17 a_t_leftFromE_18 a_t_leftFromE_19 a_t_leftFromE_20 a_t_leftFromE_21 a_t_leftFromE_22 a_t_leftFromE_23 a_t_leftFromE_24 a_t_leftFromE_25 a_t_leftFromE_26 a_t_leftFromE_27 a_t_leftFromE_28 a_t_leftFromE_29 g_p1_0 g_p1_1 g_p2_0 g_p2_1 g_p2_2 g_p2_3 g_p2_4 g_p2_5 g_p2_6 g_p2_9 g_p2_10 g_p2_11 g_p2_12 g_p2_13 g_p2_14 g_p2_15 g_p2_16 c_hours c_least c_turns c_sets c_cost c_p1_size c_p2_bands c_p1_numbers c_p2_carried (up c_carriedBy x4 0) c_chosen c_leftFromE)) rfl dX7_plan_49 ?_
    refine g_iconst C dX7_plan_50 ?_
    refine g_istore C hN dX7_plan_51 rfl (L' := [some (.ref a_t), some (.ref a_p1), some (.ref a_p2), none, some (.int (wI x4)), some (.int (wI 0))]) rfl ?_
    exact wl_X7_plan_53 C hN h hk33 hret
set_option maxRecDepth 100000 in
set_option maxHeartbeats 4000000 in
theorem wl_X7_plan_33 {F : Nat} {v : Int × Int × Int × Int × Int × (Int → Int) × (Int → Int) × (Int → Int → Int)} {x4 : Int} {c_hours : Int} {c_sets : Int} {c_cost : Int} {c_p2_bands : Int} {c_p1_numbers : Int → Int} {c_p2_carried : Int → Int} {c_carriedBy : Int → Int} {c_chosen : Int → Int} {c_leftFromE : Int → Int → Int} {c_least : Int} {c_turns : Int} {c_p1_size : Int} (C : Cx E cX7_plan RX7 { frames := 4, cells := 0, slots := 0, locals := 93 }) (hN : eN E = 6) (h : ml_X7_plan_33 F x4 c_hours c_sets c_cost c_p2_bands c_p1_numbers c_p2_carried c_carriedBy c_chosen c_leftFromE = some v) (hret : ∀ (pc : Nat) (L : List (Option Value)), decode cX7_plan pc = .ok (.return_, 1) → GG E 0 0 (W_X7_plan (eCy E) a_t a_p1 a_p2 a_p1_numbers a_p2_carried a_t_carriedBy a_t_chosen a_t_leftFrom a_t_leftFromE_0 a_t_leftFromE_1 a_t_leftFromE_2 a_t_leftFromE_3 a_t_leftFromE_4 a_t_leftFromE_5 a_t_leftFromE_6 a_t_leftFromE_7 a_t_leftFromE_8 a_t_leftFromE_9 a_t_leftFromE_10 a_t_leftFromE_11 a_t_leftFromE_12 a_t_leftFromE_13 a_t_leftFromE_14 a_t_leftFromE_15 a_t_leftFromE_16 a_t_leftFromE_17 a_t_leftFromE_18 a_t_leftFromE_19 a_t_leftFromE_20 a_t_leftFromE_21 a_t_leftFromE_22 a_t_leftFromE_23 a_t_leftFromE_24 a_t_leftFromE_25 a_t_leftFromE_26 a_t_leftFromE_27 a_t_leftFromE_28 a_t_leftFromE_29 g_p1_0 g_p1_1 g_p2_0 g_p2_1 g_p2_2 g_p2_3 g_p2_4 g_p2_5 g_p2_6 g_p2_9 g_p2_10 g_p2_11 g_p2_12 g_p2_13 g_p2_14 g_p2_15 g_p2_16 (v.1) (v.2.1) (v.2.2.1) (v.2.2.2.1) (v.2.2.2.2.1) c_p1_size c_p2_bands c_p1_numbers c_p2_carried (v.2.2.2.2.2.1) (v.2.2.2.2.2.2.1) (v.2.2.2.2.2.2.2)) L pc []) : GG E 0 0 (W_X7_plan (eCy E) a_t a_p1 a_p2 a_p1_numbers a_p2_carried a_t_carriedBy a_t_chosen a_t_leftFrom a_t_leftFromE_0 a_t_leftFromE_1 a_t_leftFromE_2 a_t_leftFromE_3 a_t_leftFromE_4 a_t_leftFromE_5 a_t_leftFromE_6 a_t_leftFromE_7 a_t_leftFromE_8 a_t_leftFromE_9 a_t_leftFromE_10 a_t_leftFromE_11 a_t_leftFromE_12 a_t_leftFromE_13 a_t_leftFromE_14 a_t_leftFromE_15 a_t_leftFromE_16 a_t_leftFromE_17 a_t_leftFromE_18 a_t_leftFromE_19 a_t_leftFromE_20 a_t_leftFromE_21 a_t_leftFromE_22 a_t_leftFromE_23 a_t_leftFromE_24 a_t_leftFromE_25 a_t_leftFromE_26 a_t_leftFromE_27 a_t_leftFromE_28 a_t_leftFromE_29 g_p1_0 g_p1_1 g_p2_0 g_p2_1 g_p2_2 g_p2_3 g_p2_4 g_p2_5 g_p2_6 g_p2_9 g_p2_10 g_p2_11 g_p2_12 g_p2_13 g_p2_14 g_p2_15 g_p2_16 c_hours c_least c_turns c_sets c_cost c_p1_size c_p2_bands c_p1_numbers c_p2_carried c_carriedBy c_chosen c_leftFromE) [some (.ref a_t), some (.ref a_p1), some (.ref a_p2), none, some (.int (wI x4)), none] 33 [] := by
  unfold ml_X7_plan_33 at h
  exact loop_walk (g := fun (q : Int × (Int → Int)) => ∀ (z_c_least : Int) (z_c_turns : Int), GG E 0 0 (W_X7_plan (eCy E) a_t a_p1 a_p2 a_p1_numbers a_p2_carried a_t_carriedBy a_t_chosen a_t_leftFrom a_t_leftFromE_0 a_t_leftFromE_1 a_t_leftFromE_2 a_t_leftFromE_3 a_t_leftFromE_4 a_t_leftFromE_5 a_t_leftFromE_6 a_t_leftFromE_7 a_t_leftFromE_8 a_t_leftFromE_9 a_t_leftFromE_10 a_t_leftFromE_11 a_t_leftFromE_12 a_t_leftFromE_13 a_t_leftFromE_14 a_t_leftFromE_15 a_t_leftFromE_16 a_t_leftFromE_17 a_t_leftFromE_18 a_t_leftFromE_19 a_t_leftFromE_20 a_t_leftFromE_21 a_t_leftFromE_22 a_t_leftFromE_23 a_t_leftFromE_24 a_t_leftFromE_25 a_t_leftFromE_26 a_t_leftFromE_27 a_t_leftFromE_28 a_t_leftFromE_29 g_p1_0 g_p1_1 g_p2_0 g_p2_1 g_p2_2 g_p2_3 g_p2_4 g_p2_5 g_p2_6 g_p2_9 g_p2_10 g_p2_11 g_p2_12 g_p2_13 g_p2_14 g_p2_15 g_p2_16 c_hours z_c_least z_c_turns c_sets c_cost c_p1_size c_p2_bands c_p1_numbers c_p2_carried (q.2) c_chosen c_leftFromE) [some (.ref a_t), some (.ref a_p1), some (.ref a_p2), none, some (.int (wI (q.1))), none] 33 []) (fun k hk q h z_c_least z_c_turns => wb_X7_plan_33 C hN h (fun y0 y1 u0 u1 hh => hk (y0, y1) hh u0 u1) hret) F (x4, c_carriedBy) h _ _
set_option maxRecDepth 100000 in
set_option maxHeartbeats 4000000 in
theorem wm_X7_plan {F : Nat} {v : Int × Int × Int × Int × Int × (Int → Int) × (Int → Int) × (Int → Int → Int)} {x3 : Int} {c_p1_size : Int} {c_p2_bands : Int} {c_p1_numbers : Int → Int} {c_p2_carried : Int → Int} {c_carriedBy : Int → Int} {c_chosen : Int → Int} {c_leftFromE : Int → Int → Int} {c_hours : Int} {c_least : Int} {c_turns : Int} {c_sets : Int} {c_cost : Int} (C : Cx E cX7_plan RX7 { frames := 4, cells := 0, slots := 0, locals := 93 }) (hN : eN E = 6) (h : m_X7_plan F x3 c_p1_size c_p2_bands c_p1_numbers c_p2_carried c_carriedBy c_chosen c_leftFromE = some v) (hret : ∀ (pc : Nat) (L : List (Option Value)), decode cX7_plan pc = .ok (.return_, 1) → GG E 0 0 (W_X7_plan (eCy E) a_t a_p1 a_p2 a_p1_numbers a_p2_carried a_t_carriedBy a_t_chosen a_t_leftFrom a_t_leftFromE_0 a_t_leftFromE_1 a_t_leftFromE_2 a_t_leftFromE_3 a_t_leftFromE_4 a_t_leftFromE_5 a_t_leftFromE_6 a_t_leftFromE_7 a_t_leftFromE_8 a_t_leftFromE_9 a_t_leftFromE_10 a_t_leftFromE_11 a_t_leftFromE_12 a_t_leftFromE_13 a_t_leftFromE_14 a_t_leftFromE_15 a_t_leftFromE_16 a_t_leftFromE_17 a_t_leftFromE_18 a_t_leftFromE_19 a_t_leftFromE_20 a_t_leftFromE_21 a_t_leftFromE_22 a_t_leftFromE_23 a_t_leftFromE_24 a_t_leftFromE_25 a_t_leftFromE_26 a_t_leftFromE_27 a_t_leftFromE_28 a_t_leftFromE_29 g_p1_0 g_p1_1 g_p2_0 g_p2_1 g_p2_2 g_p2_3 g_p2_4 g_p2_5 g_p2_6 g_p2_9 g_p2_10 g_p2_11 g_p2_12 g_p2_13 g_p2_14 g_p2_15 g_p2_16 (v.1) (v.2.1) (v.2.2.1) (v.2.2.2.1) (v.2.2.2.2.1) c_p1_size c_p2_bands c_p1_numbers c_p2_carried (v.2.2.2.2.2.1) (v.2.2.2.2.2.2.1) (v.2.2.2.2.2.2.2)) L pc []) : GG E 0 0 (W_X7_plan (eCy E) a_t a_p1 a_p2 a_p1_numbers a_p2_carried a_t_carriedBy a_t_chosen a_t_leftFrom a_t_leftFromE_0 a_t_leftFromE_1 a_t_leftFromE_2 a_t_leftFromE_3 a_t_leftFromE_4 a_t_leftFromE_5 a_t_leftFromE_6 a_t_leftFromE_7 a_t_leftFromE_8 a_t_leftFromE_9 a_t_leftFromE_10 a_t_leftFromE_11 a_t_leftFromE_12 a_t_leftFromE_13 a_t_leftFromE_14 a_t_leftFromE_15 a_t_leftFromE_16 a_t_leftFromE_17 a_t_leftFromE_18 a_t_leftFromE_19 a_t_leftFromE_20 a_t_leftFromE_21 a_t_leftFromE_22 a_t_leftFromE_23 a_t_leftFromE_24 a_t_leftFromE_25 a_t_leftFromE_26 a_t_leftFromE_27 a_t_leftFromE_28 a_t_leftFromE_29 g_p1_0 g_p1_1 g_p2_0 g_p2_1 g_p2_2 g_p2_3 g_p2_4 g_p2_5 g_p2_6 g_p2_9 g_p2_10 g_p2_11 g_p2_12 g_p2_13 g_p2_14 g_p2_15 g_p2_16 c_hours c_least c_turns c_sets c_cost c_p1_size c_p2_bands c_p1_numbers c_p2_carried c_carriedBy c_chosen c_leftFromE) [some (.ref a_t), some (.ref a_p1), some (.ref a_p2), some (.int (wI x3)), none, none] 0 [] := by
  unfold m_X7_plan at h
  refine g_aload_n 0 C dX7_plan_0 rfl rfl ?_
  refine g_bipush C dX7_plan_1 (by decide) ?_
  refine g_aload_n 1 C dX7_plan_3 rfl rfl ?_
  refine g_get C fg_X7_39 1 rfl rfl dX7_plan_4 ?_
  refine g_st (st' := [.int (wI c_p1_size), .int (wI 30), .ref a_t]) rfl ?_
  refine g_iconst C dX7_plan_7 ?_
  obtain ⟨hc1, h⟩ := chk_some h
  refine g_idiv C dX7_plan_8 hc1 ?_
  obtain ⟨r2, hr3, h⟩ := bnd1_some h
  refine g_callSI [] [0, 1, 2, 3, 4, 5, 6, 7, 8, 9, 10, 11, 12, 13, 14, 15, 16, 17, 18, 19, 20, 21, 22, 23, 24, 25, 26, 27, 28, 29, 30, 31, 32, 33, 34, 35, 36, 37] [0, 1, 2, 3, 4, 5, 6, 7, 8, 9, 10, 11, 12, 13, 14, 15, 16, 17, 18, 19, 20, 21, 22, 23, 24, 25, 26, 27, 28, 29, 30, 31, 32, 33, 34, 35, 36, 37] C mt_X7_44 (c_J9_min_7cf53 _ _ _ _ 30 (c_p1_size.tdiv 2) F hr3) rfl rfl (ws2 := (W_X7_plan (eCy E) a_t a_p1 a_p2 a_p1_numbers a_p2_carried a_t_carriedBy a_t_chosen a_t_leftFrom a_t_leftFromE_0 a_t_leftFromE_1 a_t_leftFromE_2 a_t_leftFromE_3 a_t_leftFromE_4 a_t_leftFromE_5 a_t_leftFromE_6 a_t_leftFromE_7 a_t_leftFromE_8 a_t_leftFromE_9 a_t_leftFromE_10 a_t_leftFromE_11 a_t_leftFromE_12 a_t_leftFromE_13 a_t_leftFromE_14 a_t_leftFromE_15 a_t_leftFromE_16 a_t_leftFromE_17 a_t_leftFromE_18 a_t_leftFromE_19 a_t_leftFromE_20 a_t_leftFromE_21 a_t_leftFromE_22 a_t_leftFromE_23 a_t_leftFromE_24 a_t_leftFromE_25 a_t_leftFromE_26 a_t_leftFromE_27 a_t_leftFromE_28 a_t_leftFromE_29 g_p1_0 g_p1_1 g_p2_0 g_p2_1 g_p2_2 g_p2_3 g_p2_4 g_p2_5 g_p2_6 g_p2_9 g_p2_10 g_p2_11 g_p2_12 g_p2_13 g_p2_14 g_p2_15 g_p2_16 c_hours c_least c_turns c_sets c_cost c_p1_size c_p2_bands c_p1_numbers c_p2_carried c_carriedBy c_chosen c_leftFromE)) rfl rfl rfl (rest := [.ref a_t]) rfl rfl rfl dX7_plan_9 ?_
  refine g_putI C fp_X7_9 0 rfl rfl (ws' := (W_X7_plan (eCy E) a_t a_p1 a_p2 a_p1_numbers a_p2_carried a_t_carriedBy a_t_chosen a_t_leftFrom a_t_leftFromE_0 a_t_leftFromE_1 a_t_leftFromE_2 a_t_leftFromE_3 a_t_leftFromE_4 a_t_leftFromE_5 a_t_leftFromE_6 a_t_leftFromE_7 a_t_leftFromE_8 a_t_leftFromE_9 a_t_leftFromE_10 a_t_leftFromE_11 a_t_leftFromE_12 a_t_leftFromE_13 a_t_leftFromE_14 a_t_leftFromE_15 a_t_leftFromE_16 a_t_leftFromE_17 a_t_leftFromE_18 a_t_leftFromE_19 a_t_leftFromE_20 a_t_leftFromE_21 a_t_leftFromE_22 a_t_leftFromE_23 a_t_leftFromE_24 a_t_leftFromE_25 a_t_leftFromE_26 a_t_leftFromE_27 a_t_leftFromE_28 a_t_leftFromE_29 g_p1_0 g_p1_1 g_p2_0 g_p2_1 g_p2_2 g_p2_3 g_p2_4 g_p2_5 g_p2_6 g_p2_9 g_p2_10 g_p2_11 g_p2_12 g_p2_13 g_p2_14 g_p2_15 g_p2_16 r2 c_least c_turns c_sets c_cost c_p1_size c_p2_bands c_p1_numbers c_p2_carried c_carriedBy c_chosen c_leftFromE)) rfl dX7_plan_12 ?_
  refine g_aload_n 0 C dX7_plan_15 rfl rfl ?_
  refine g_iconst C dX7_plan_16 ?_
  refine g_aload_n 2 C dX7_plan_17 rfl rfl ?_
  refine g_get C fg_X7_50 2 rfl rfl dX7_plan_18 ?_
  refine g_st (st' := [.int (wI c_p2_bands), .int (wI 1), .ref a_t]) rfl ?_
  refine g_ishl C dX7_plan_21 ?_
  obtain ⟨y4, e_y4, h⟩ := nam_some h
  refine g_topI e_y4 ?_
  refine g_putI C fp_X7_25 0 rfl rfl (ws' := (W_X7_plan (eCy E) a_t a_p1 a_p2 a_p1_numbers a_p2_carried a_t_carriedBy a_t_chosen a_t_leftFrom a_t_leftFromE_0 a_t_leftFromE_1 a_t_leftFromE_2 a_t_leftFromE_3 a_t_leftFromE_4 a_t_leftFromE_5 a_t_leftFromE_6 a_t_leftFromE_7 a_t_leftFromE_8 a_t_leftFromE_9 a_t_leftFromE_10 a_t_leftFromE_11 a_t_leftFromE_12 a_t_leftFromE_13 a_t_leftFromE_14 a_t_leftFromE_15 a_t_leftFromE_16 a_t_leftFromE_17 a_t_leftFromE_18 a_t_leftFromE_19 a_t_leftFromE_20 a_t_leftFromE_21 a_t_leftFromE_22 a_t_leftFromE_23 a_t_leftFromE_24 a_t_leftFromE_25 a_t_leftFromE_26 a_t_leftFromE_27 a_t_leftFromE_28 a_t_leftFromE_29 g_p1_0 g_p1_1 g_p2_0 g_p2_1 g_p2_2 g_p2_3 g_p2_4 g_p2_5 g_p2_6 g_p2_9 g_p2_10 g_p2_11 g_p2_12 g_p2_13 g_p2_14 g_p2_15 g_p2_16 r2 c_least c_turns y4 c_cost c_p1_size c_p2_bands c_p1_numbers c_p2_carried c_carriedBy c_chosen c_leftFromE)) rfl dX7_plan_22 ?_
  refine g_aload_n 0 C dX7_plan_25 rfl rfl ?_
  refine g_iload_n 3 C dX7_plan_26 rfl rfl ?_
  refine g_putI C fp_X7_28 0 rfl rfl (ws' := (W_X7_plan (eCy E) a_t a_p1 a_p2 a_p1_numbers a_p2_carried a_t_carriedBy a_t_chosen a_t_leftFrom a_t_leftFromE_0 a_t_leftFromE_1 a_t_leftFromE_2 a_t_leftFromE_3 a_t_leftFromE_4 a_t_leftFromE_5 a_t_leftFromE_6 a_t_leftFromE_7 a_t_leftFromE_8 a_t_leftFromE_9 a_t_leftFromE_10 a_t_leftFromE_11 a_t_leftFromE_12 a_t_leftFromE_13 a_t_leftFromE_14 a_t_leftFromE_15 a_t_leftFromE_16 a_t_leftFromE_17 a_t_leftFromE_18 a_t_leftFromE_19 a_t_leftFromE_20 a_t_leftFromE_21 a_t_leftFromE_22 a_t_leftFromE_23 a_t_leftFromE_24 a_t_leftFromE_25 a_t_leftFromE_26 a_t_leftFromE_27 a_t_leftFromE_28 a_t_leftFromE_29 g_p1_0 g_p1_1 g_p2_0 g_p2_1 g_p2_2 g_p2_3 g_p2_4 g_p2_5 g_p2_6 g_p2_9 g_p2_10 g_p2_11 g_p2_12 g_p2_13 g_p2_14 g_p2_15 g_p2_16 r2 c_least c_turns y4 x3 c_p1_size c_p2_bands c_p1_numbers c_p2_carried c_carriedBy c_chosen c_leftFromE)) rfl dX7_plan_27 ?_
  refine g_iconst C dX7_plan_30 ?_
  refine g_istore C hN dX7_plan_31 rfl (L' := [some (.ref a_t), some (.ref a_p1), some (.ref a_p2), some (.int (wI x3)), some (.int (wI 0)), none]) rfl ?_
  refine g_mask [true, true, true, false, true, false] (L' := [some (.ref a_t), some (.ref a_p1), some (.ref a_p2), none, some (.int (wI 0)), none]) rfl ?_
  exact wl_X7_plan_33 C hN h hret
end S_X7_plan
set_option maxRecDepth 100000 in
set_option maxHeartbeats 4000000 in
theorem c_X7_plan (l : Launch) (D : va_G) (cy : Nat → ClassId) (ad : AD) (a_t a_p1 a_p2 a_p1_numbers a_p2_carried a_t_carriedBy a_t_chosen a_t_leftFrom a_t_leftFromE_0 a_t_leftFromE_1 a_t_leftFromE_2 a_t_leftFromE_3 a_t_leftFromE_4 a_t_leftFromE_5 a_t_leftFromE_6 a_t_leftFromE_7 a_t_leftFromE_8 a_t_leftFromE_9 a_t_leftFromE_10 a_t_leftFromE_11 a_t_leftFromE_12 a_t_leftFromE_13 a_t_leftFromE_14 a_t_leftFromE_15 a_t_leftFromE_16 a_t_leftFromE_17 a_t_leftFromE_18 a_t_leftFromE_19 a_t_leftFromE_20 a_t_leftFromE_21 a_t_leftFromE_22 a_t_leftFromE_23 a_t_leftFromE_24 a_t_leftFromE_25 a_t_leftFromE_26 a_t_leftFromE_27 a_t_leftFromE_28 a_t_leftFromE_29 : Nat) (g_p1_0 : Value) (g_p1_1 : Value) (g_p2_0 : Value) (g_p2_1 : Value) (g_p2_2 : Value) (g_p2_3 : Value) (g_p2_4 : Value) (g_p2_5 : Value) (g_p2_6 : Value) (g_p2_9 : Value) (g_p2_10 : Value) (g_p2_11 : Value) (g_p2_12 : Value) (g_p2_13 : Value) (g_p2_14 : Value) (g_p2_15 : Value) (g_p2_16 : Value) (x3 : Int) (c_hours : Int) (c_least : Int) (c_turns : Int) (c_sets : Int) (c_cost : Int) (c_p1_size : Int) (c_p2_bands : Int) (c_p1_numbers : Int → Int) (c_p2_carried : Int → Int) (c_carriedBy : Int → Int) (c_chosen : Int → Int) (c_leftFromE : Int → Int → Int) (F : Nat) {v : Int × Int × Int × Int × Int × (Int → Int) × (Int → Int) × (Int → Int → Int)} (h : m_X7_plan F x3 c_p1_size c_p2_bands c_p1_numbers c_p2_carried c_carriedBy c_chosen c_leftFromE = some v) : Ct l yX7_plan cX7_plan 6 none { frames := 4, cells := 0, slots := 0, locals := 93 } D cy ad [.ref a_t, .ref a_p1, .ref a_p2, .int (wI x3)] (W_X7_plan cy a_t a_p1 a_p2 a_p1_numbers a_p2_carried a_t_carriedBy a_t_chosen a_t_leftFrom a_t_leftFromE_0 a_t_leftFromE_1 a_t_leftFromE_2 a_t_leftFromE_3 a_t_leftFromE_4 a_t_leftFromE_5 a_t_leftFromE_6 a_t_leftFromE_7 a_t_leftFromE_8 a_t_leftFromE_9 a_t_leftFromE_10 a_t_leftFromE_11 a_t_leftFromE_12 a_t_leftFromE_13 a_t_leftFromE_14 a_t_leftFromE_15 a_t_leftFromE_16 a_t_leftFromE_17 a_t_leftFromE_18 a_t_leftFromE_19 a_t_leftFromE_20 a_t_leftFromE_21 a_t_leftFromE_22 a_t_leftFromE_23 a_t_leftFromE_24 a_t_leftFromE_25 a_t_leftFromE_26 a_t_leftFromE_27 a_t_leftFromE_28 a_t_leftFromE_29 g_p1_0 g_p1_1 g_p2_0 g_p2_1 g_p2_2 g_p2_3 g_p2_4 g_p2_5 g_p2_6 g_p2_9 g_p2_10 g_p2_11 g_p2_12 g_p2_13 g_p2_14 g_p2_15 g_p2_16 c_hours c_least c_turns c_sets c_cost c_p1_size c_p2_bands c_p1_numbers c_p2_carried c_carriedBy c_chosen c_leftFromE) (W_X7_plan cy a_t a_p1 a_p2 a_p1_numbers a_p2_carried a_t_carriedBy a_t_chosen a_t_leftFrom a_t_leftFromE_0 a_t_leftFromE_1 a_t_leftFromE_2 a_t_leftFromE_3 a_t_leftFromE_4 a_t_leftFromE_5 a_t_leftFromE_6 a_t_leftFromE_7 a_t_leftFromE_8 a_t_leftFromE_9 a_t_leftFromE_10 a_t_leftFromE_11 a_t_leftFromE_12 a_t_leftFromE_13 a_t_leftFromE_14 a_t_leftFromE_15 a_t_leftFromE_16 a_t_leftFromE_17 a_t_leftFromE_18 a_t_leftFromE_19 a_t_leftFromE_20 a_t_leftFromE_21 a_t_leftFromE_22 a_t_leftFromE_23 a_t_leftFromE_24 a_t_leftFromE_25 a_t_leftFromE_26 a_t_leftFromE_27 a_t_leftFromE_28 a_t_leftFromE_29 g_p1_0 g_p1_1 g_p2_0 g_p2_1 g_p2_2 g_p2_3 g_p2_4 g_p2_5 g_p2_6 g_p2_9 g_p2_10 g_p2_11 g_p2_12 g_p2_13 g_p2_14 g_p2_15 g_p2_16 (v.1) (v.2.1) (v.2.2.1) (v.2.2.2.1) (v.2.2.2.2.1) c_p1_size c_p2_bands c_p1_numbers c_p2_carried (v.2.2.2.2.2.1) (v.2.2.2.2.2.2.1) (v.2.2.2.2.2.2.2)) none := by
  refine Ct.introV (j := 2) (plainFor_of_name (by decide)) rfl rfl (fun E C e1 e2 e3 e4 e5 hret => ?_)
  subst e1; subst e2; subst e3; subst e4
  exact wm_X7_plan C e5 h hret
