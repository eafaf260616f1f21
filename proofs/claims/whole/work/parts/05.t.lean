-- java/lang/Integer.bitCount(I)I
def W_J6_bitCount_0f7a4 (cy : Nat → ClassId) : va_W := []
def m_J6_bitCount_0f7a4 (F : Nat) (x0 : Int) : Option (Int) :=
  nam (x0 - (andI (ushrI x0 1) 1431655765)) fun y1 => nam ((andI y1 858993459) + (andI (ushrI y1 2) 858993459)) fun y2 => nam (andI (y2 + (ushrI y2 4)) 252645135) fun y3 => nam (y3 + (ushrI y3 8)) fun y4 => nam (y4 + (ushrI y4 16)) fun y5 => some (andI y5 63)
section S_J6_bitCount_0f7a4
variable {E : EE}
set_option maxRecDepth 100000 in
set_option maxHeartbeats 4000000 in
theorem wm_J6_bitCount_0f7a4 {F : Nat} {v : Int} {x0 : Int} (C : Cx E cJ6_bitCount_0f7a4 RJ6 { frames := 0, cells := 0, slots := 0, locals := 0 }) (hN : eN E = 1) (h : m_J6_bitCount_0f7a4 F x0 = some v) (hret : ∀ (pc : Nat) (L : List (Option Value)), decode cJ6_bitCount_0f7a4 pc = .ok (.ireturn, 1) → GG E 0 0 (W_J6_bitCount_0f7a4 (eCy E)) L pc [.int (wI v)]) : GG E 0 0 (W_J6_bitCount_0f7a4 (eCy E)) [some (.int (wI x0))] 0 [] := by
  unfold m_J6_bitCount_0f7a4 at h
  refine g_iload_n 0 C dJ6_bitCount_0f7a4_0 rfl rfl ?_
  refine g_iload_n 0 C dJ6_bitCount_0f7a4_1 rfl rfl ?_
  refine g_iconst C dJ6_bitCount_0f7a4_2 ?_
  refine g_iushr C dJ6_bitCount_0f7a4_3 ?_
  refine g_ldcw (v := 1431655765) C mc_J6_265 dJ6_bitCount_0f7a4_4 ?_
  refine g_iand C dJ6_bitCount_0f7a4_7 ?_
  refine g_isub C dJ6_bitCount_0f7a4_8 ?_
  obtain ⟨y1, e_y1, h⟩ := nam_some h
  refine g_topI e_y1 ?_
  refine g_istore_n 0 C hN dJ6_bitCount_0f7a4_9 rfl rfl (L' := [some (.int (wI y1))]) rfl ?_
  refine g_iload_n 0 C dJ6_bitCount_0f7a4_10 rfl rfl ?_
  refine g_ldcw (v := 858993459) C mc_J6_266 dJ6_bitCount_0f7a4_11 ?_
  refine g_iand C dJ6_bitCount_0f7a4_14 ?_
  refine g_iload_n 0 C dJ6_bitCount_0f7a4_15 rfl rfl ?_
  refine g_iconst C dJ6_bitCount_0f7a4_16 ?_
  refine g_iushr C dJ6_bitCount_0f7a4_17 ?_
  refine g_ldcw (v := 858993459) C mc_J6_266 dJ6_bitCount_0f7a4_18 ?_
  refine g_iand C dJ6_bitCount_0f7a4_21 ?_
  refine g_iadd C dJ6_bitCount_0f7a4_22 ?_
  obtain ⟨y2, e_y2, h⟩ := nam_some h
  refine g_topI e_y2 ?_
  refine g_istore_n 0 C hN dJ6_bitCount_0f7a4_23 rfl rfl (L' := [some (.int (wI y2))]) rfl ?_
  refine g_iload_n 0 C dJ6_bitCount_0f7a4_24 rfl rfl ?_
  refine g_iload_n 0 C dJ6_bitCount_0f7a4_25 rfl rfl ?_
  refine g_iconst C dJ6_bitCount_0f7a4_26 ?_
  refine g_iushr C dJ6_bitCount_0f7a4_27 ?_
  refine g_iadd C dJ6_bitCount_0f7a4_28 ?_
  refine g_ldcw (v := 252645135) C mc_J6_267 dJ6_bitCount_0f7a4_29 ?_
  refine g_iand C dJ6_bitCount_0f7a4_32 ?_
  obtain ⟨y3, e_y3, h⟩ := nam_some h
  refine g_topI e_y3 ?_
  refine g_istore_n 0 C hN dJ6_bitCount_0f7a4_33 rfl rfl (L' := [some (.int (wI y3))]) rfl ?_
  refine g_iload_n 0 C dJ6_bitCount_0f7a4_34 rfl rfl ?_
  refine g_iload_n 0 C dJ6_bitCount_0f7a4_35 rfl rfl ?_
  refine g_bipush C dJ6_bitCount_0f7a4_36 (by decide) ?_
  refine g_iushr C dJ6_bitCount_0f7a4_38 ?_
  refine g_iadd C dJ6_bitCount_0f7a4_39 ?_
  obtain ⟨y4, e_y4, h⟩ := nam_some h
  refine g_topI e_y4 ?_
  refine g_istore_n 0 C hN dJ6_bitCount_0f7a4_40 rfl rfl (L' := [some (.int (wI y4))]) rfl ?_
  refine g_iload_n 0 C dJ6_bitCount_0f7a4_41 rfl rfl ?_
  refine g_iload_n 0 C dJ6_bitCount_0f7a4_42 rfl rfl ?_
  refine g_bipush C dJ6_bitCount_0f7a4_43 (by decide) ?_
  refine g_iushr C dJ6_bitCount_0f7a4_45 ?_
  refine g_iadd C dJ6_bitCount_0f7a4_46 ?_
  obtain ⟨y5, e_y5, h⟩ := nam_some h
  refine g_topI e_y5 ?_
  refine g_istore_n 0 C hN dJ6_bitCount_0f7a4_47 rfl rfl (L' := [some (.int (wI y5))]) rfl ?_
  refine g_iload_n 0 C dJ6_bitCount_0f7a4_48 rfl rfl ?_
  refine g_bipush C dJ6_bitCount_0f7a4_49 (by decide) ?_
  refine g_iand C dJ6_bitCount_0f7a4_51 ?_
  cases h
  exact hret 52 _ dJ6_bitCount_0f7a4_52
end S_J6_bitCount_0f7a4
set_option maxRecDepth 100000 in
set_option maxHeartbeats 4000000 in
theorem c_J6_bitCount_0f7a4 (l : Launch) (D : va_G) (cy : Nat → ClassId) (ad : AD) (x0 : Int) (F : Nat) {v : Int} (h : m_J6_bitCount_0f7a4 F x0 = some v) : Ct l yJ6_bitCount_0f7a4 cJ6_bitCount_0f7a4 1 (some .int) { frames := 0, cells := 0, slots := 0, locals := 0 } D cy ad [.int (wI x0)] (W_J6_bitCount_0f7a4 cy) (W_J6_bitCount_0f7a4 cy) (some (.int (wI v))) := by
  refine Ct.introI (j := 0) (by decide +kernel) rfl rfl (fun E C e1 e2 e3 e4 e5 hret => ?_)
  subst e1; subst e2; subst e3; subst e4
  exact wm_J6_bitCount_0f7a4 C e5 h hret
-- java/lang/Long.compare(JJ)I
def W_J13_compare_74951 (cy : Nat → ClassId) : va_W := []
def m_J13_compare_74951 (F : Nat) (x0 : Int) (x2 : Int) : Option (Int) :=
  if wJ x2 ≤ wJ x0 then
    (if wJ x0 = wJ x2 then
    (some 0)
  else
    (some 1))
  else
    (some (-1))
section S_J13_compare_74951
variable {E : EE}
set_option maxRecDepth 100000 in
set_option maxHeartbeats 4000000 in
theorem wm_J13_compare_74951 {F : Nat} {v : Int} {x0 : Int} {x2 : Int} (C : Cx E cJ13_compare_74951 RJ13 { frames := 0, cells := 0, slots := 0, locals := 0 }) (hN : eN E = 4) (h : m_J13_compare_74951 F x0 x2 = some v) (hret : ∀ (pc : Nat) (L : List (Option Value)), decode cJ13_compare_74951 pc = .ok (.ireturn, 1) → GG E 0 0 (W_J13_compare_74951 (eCy E)) L pc [.int (wI v)]) : GG E 0 0 (W_J13_compare_74951 (eCy E)) [some (.long (wJ x0)), none, some (.long (wJ x2)), none] 0 [] := by
  unfold m_J13_compare_74951 at h
  refine g_lload_n 0 C dJ13_compare_74951_0 rfl rfl ?_
  refine g_lload_n 2 C dJ13_compare_74951_1 rfl rfl ?_
  refine g_lcmp_ge 10 C dJ13_compare_74951_2 dJ13_compare_74951_3 (by decide) h (fun h => ?_) (fun h => ?_)
  · refine g_lload_n 0 C dJ13_compare_74951_10 rfl rfl ?_
    refine g_lload_n 2 C dJ13_compare_74951_11 rfl rfl ?_
    refine g_lcmp_ne 20 C dJ13_compare_74951_12 dJ13_compare_74951_13 (by decide) h (fun h => ?_) (fun h => ?_)
    · refine g_iconst C dJ13_compare_74951_20 ?_
      cases h
      exact hret 21 _ dJ13_compare_74951_21
    · refine g_iconst C dJ13_compare_74951_16 ?_
      refine g_goto (tgt := 21) C dJ13_compare_74951_17 (by decide) ?_
      cases h
      exact hret 21 _ dJ13_compare_74951_21
  · refine g_iconst C dJ13_compare_74951_6 ?_
    refine g_goto (tgt := 21) C dJ13_compare_74951_7 (by decide) ?_
    cases h
    exact hret 21 _ dJ13_compare_74951_21
end S_J13_compare_74951
set_option maxRecDepth 100000 in
set_option maxHeartbeats 4000000 in
theorem c_J13_compare_74951 (l : Launch) (D : va_G) (cy : Nat → ClassId) (ad : AD) (x0 : Int) (x2 : Int) (F : Nat) {v : Int} (h : m_J13_compare_74951 F x0 x2 = some v) : Ct l yJ13_compare_74951 cJ13_compare_74951 4 (some .int) { frames := 0, cells := 0, slots := 0, locals := 0 } D cy ad [.long (wJ x0), .long (wJ x2)] (W_J13_compare_74951 cy) (W_J13_compare_74951 cy) (some (.int (wI v))) := by
  refine Ct.introI (j := 0) (by decide +kernel) rfl rfl (fun E C e1 e2 e3 e4 e5 hret => ?_)
  subst e1; subst e2; subst e3; subst e4
  exact wm_J13_compare_74951 C e5 h hret
-- java/lang/Math.floorDiv(JJ)J
def W_J9_floorDiv_f86c9 (cy : Nat → ClassId) : va_W := []
def m_J9_floorDiv_f86c9 (F : Nat) (x0 : Int) (x2 : Int) : Option (Int) :=
  chk (dv64 x0 x2) <| nam (x0.tdiv x2) fun y2 => if wJ 0 ≤ wJ (xorJ x0 x2) then
    (some y2)
  else
    (if wJ (y2 * x2) = wJ x0 then
    (some y2)
  else
    (some (y2 - 1)))
section S_J9_floorDiv_f86c9
variable {E : EE}
set_option maxRecDepth 100000 in
set_option maxHeartbeats 4000000 in
theorem wm_J9_floorDiv_f86c9 {F : Nat} {v : Int} {x0 : Int} {x2 : Int} (C : Cx E cJ9_floorDiv_f86c9 RJ9 { frames := 0, cells := 0, slots := 0, locals := 0 }) (hN : eN E = 6) (h : m_J9_floorDiv_f86c9 F x0 x2 = some v) (hret : ∀ (pc : Nat) (L : List (Option Value)), decode cJ9_floorDiv_f86c9 pc = .ok (.lreturn, 1) → GG E 0 0 (W_J9_floorDiv_f86c9 (eCy E)) L pc [.long (wJ v)]) : GG E 0 0 (W_J9_floorDiv_f86c9 (eCy E)) [some (.long (wJ x0)), none, some (.long (wJ x2)), none, none, none] 0 [] := by
  unfold m_J9_floorDiv_f86c9 at h
  refine g_lload_n 0 C dJ9_floorDiv_f86c9_0 rfl rfl ?_
  refine g_lload_n 2 C dJ9_floorDiv_f86c9_1 rfl rfl ?_
  obtain ⟨hc1, h⟩ := chk_some h
  refine g_ldiv C dJ9_floorDiv_f86c9_2 hc1 ?_
  obtain ⟨y2, e_y2, h⟩ := nam_some h
  refine g_topJ e_y2 ?_
  refine g_lstore C hN dJ9_floorDiv_f86c9_3 rfl (L' := [some (.long (wJ x0)), none, some (.long (wJ x2)), none, some (.long (wJ y2)), none]) rfl ?_
  refine g_lload_n 0 C dJ9_floorDiv_f86c9_5 rfl rfl ?_
  refine g_lload_n 2 C dJ9_floorDiv_f86c9_6 rfl rfl ?_
  refine g_lxor C dJ9_floorDiv_f86c9_7 ?_
  refine g_lconst (x := 0) C dJ9_floorDiv_f86c9_8 (by decide) ?_
  refine g_lcmp_ge 27 C dJ9_floorDiv_f86c9_9 dJ9_floorDiv_f86c9_10 (by decide) h (fun h => ?_) (fun h => ?_)
  · refine g_lload C dJ9_floorDiv_f86c9_27 rfl ?_
    cases h
    exact hret 29 _ dJ9_floorDiv_f86c9_29
  · refine g_lload C dJ9_floorDiv_f86c9_13 rfl ?_
    refine g_lload_n 2 C dJ9_floorDiv_f86c9_15 rfl rfl ?_
    refine g_lmul C dJ9_floorDiv_f86c9_16 ?_
    refine g_lload_n 0 C dJ9_floorDiv_f86c9_17 rfl rfl ?_
    refine g_lcmp_eq 27 C dJ9_floorDiv_f86c9_18 dJ9_floorDiv_f86c9_19 (by decide) h (fun h => ?_) (fun h => ?_)
    · refine g_lload C dJ9_floorDiv_f86c9_27 rfl ?_
      cases h
      exact hret 29 _ dJ9_floorDiv_f86c9_29
    · refine g_lload C dJ9_floorDiv_f86c9_22 rfl ?_
      refine g_lconst (x := 1) C dJ9_floorDiv_f86c9_24 (by decide) ?_
      refine g_lsub C dJ9_floorDiv_f86c9_25 ?_
      cases h
      exact hret 26 _ dJ9_floorDiv_f86c9_26
end S_J9_floorDiv_f86c9
set_option maxRecDepth 100000 in
set_option maxHeartbeats 4000000 in
theorem c_J9_floorDiv_f86c9 (l : Launch) (D : va_G) (cy : Nat → ClassId) (ad : AD) (x0 : Int) (x2 : Int) (F : Nat) {v : Int} (h : m_J9_floorDiv_f86c9 F x0 x2 = some v) : Ct l yJ9_floorDiv_f86c9 cJ9_floorDiv_f86c9 6 (some .long) { frames := 0, cells := 0, slots := 0, locals := 0 } D cy ad [.long (wJ x0), .long (wJ x2)] (W_J9_floorDiv_f86c9 cy) (W_J9_floorDiv_f86c9 cy) (some (.long (wJ v))) := by
  refine Ct.introJ (j := 2) (by decide +kernel) rfl rfl (fun E C e1 e2 e3 e4 e5 hret => ?_)
  subst e1; subst e2; subst e3; subst e4
  exact wm_J9_floorDiv_f86c9 C e5 h hret
-- java/lang/Math.max(II)I
def W_J9_max_7cf53 (cy : Nat → ClassId) : va_W := []
def m_J9_max_7cf53 (F : Nat) (x0 : Int) (x1 : Int) : Option (Int) :=
  if wI x0 < wI x1 then
    (some x1)
  else
    (some x0)
section S_J9_max_7cf53
variable {E : EE}
set_option maxRecDepth 100000 in
set_option maxHeartbeats 4000000 in
theorem wm_J9_max_7cf53 {F : Nat} {v : Int} {x0 : Int} {x1 : Int} (C : Cx E cJ9_max_7cf53 RJ9 { frames := 0, cells := 0, slots := 0, locals := 0 }) (hN : eN E = 2) (h : m_J9_max_7cf53 F x0 x1 = some v) (hret : ∀ (pc : Nat) (L : List (Option Value)), decode cJ9_max_7cf53 pc = .ok (.ireturn, 1) → GG E 0 0 (W_J9_max_7cf53 (eCy E)) L pc [.int (wI v)]) : GG E 0 0 (W_J9_max_7cf53 (eCy E)) [some (.int (wI x0)), some (.int (wI x1))] 0 [] := by
  unfold m_J9_max_7cf53 at h
  refine g_iload_n 0 C dJ9_max_7cf53_0 rfl rfl ?_
  refine g_iload_n 1 C dJ9_max_7cf53_1 rfl rfl ?_
  refine g_icmp_lt 9 C dJ9_max_7cf53_2 (by decide) h (fun h => ?_) (fun h => ?_)
  · refine g_iload_n 1 C dJ9_max_7cf53_9 rfl rfl ?_
    cases h
    exact hret 10 _ dJ9_max_7cf53_10
  · refine g_iload_n 0 C dJ9_max_7cf53_5 rfl rfl ?_
    refine g_goto (tgt := 10) C dJ9_max_7cf53_6 (by decide) ?_
    cases h
    exact hret 10 _ dJ9_max_7cf53_10
end S_J9_max_7cf53
set_option maxRecDepth 100000 in
set_option maxHeartbeats 4000000 in
theorem c_J9_max_7cf53 (l : Launch) (D : va_G) (cy : Nat → ClassId) (ad : AD) (x0 : Int) (x1 : Int) (F : Nat) {v : Int} (h : m_J9_max_7cf53 F x0 x1 = some v) : Ct l yJ9_max_7cf53 cJ9_max_7cf53 2 (some .int) { frames := 0, cells := 0, slots := 0, locals := 0 } D cy ad [.int (wI x0), .int (wI x1)] (W_J9_max_7cf53 cy) (W_J9_max_7cf53 cy) (some (.int (wI v))) := by
  refine Ct.introI (j := 0) (by decide +kernel) rfl rfl (fun E C e1 e2 e3 e4 e5 hret => ?_)
  subst e1; subst e2; subst e3; subst e4
  exact wm_J9_max_7cf53 C e5 h hret
-- java/lang/Math.max(JJ)J
def W_J9_max_f86c9 (cy : Nat → ClassId) : va_W := []
def m_J9_max_f86c9 (F : Nat) (x0 : Int) (x2 : Int) : Option (Int) :=
  if wJ x0 < wJ x2 then
    (some x2)
  else
    (some x0)
section S_J9_max_f86c9
variable {E : EE}
set_option maxRecDepth 100000 in
set_option maxHeartbeats 4000000 in
theorem wm_J9_max_f86c9 {F : Nat} {v : Int} {x0 : Int} {x2 : Int} (C : Cx E cJ9_max_f86c9 RJ9 { frames := 0, cells := 0, slots := 0, locals := 0 }) (hN : eN E = 4) (h : m_J9_max_f86c9 F x0 x2 = some v) (hret : ∀ (pc : Nat) (L : List (Option Value)), decode cJ9_max_f86c9 pc = .ok (.lreturn, 1) → GG E 0 0 (W_J9_max_f86c9 (eCy E)) L pc [.long (wJ v)]) : GG E 0 0 (W_J9_max_f86c9 (eCy E)) [some (.long (wJ x0)), none, some (.long (wJ x2)), none] 0 [] := by
  unfold m_J9_max_f86c9 at h
  refine g_lload_n 0 C dJ9_max_f86c9_0 rfl rfl ?_
  refine g_lload_n 2 C dJ9_max_f86c9_1 rfl rfl ?_
  refine g_lcmp_lt 10 C dJ9_max_f86c9_2 dJ9_max_f86c9_3 (by decide) h (fun h => ?_) (fun h => ?_)
  · refine g_lload_n 2 C dJ9_max_f86c9_10 rfl rfl ?_
    cases h
    exact hret 11 _ dJ9_max_f86c9_11
  · refine g_lload_n 0 C dJ9_max_f86c9_6 rfl rfl ?_
    refine g_goto (tgt := 11) C dJ9_max_f86c9_7 (by decide) ?_
    cases h
    exact hret 11 _ dJ9_max_f86c9_11
end S_J9_max_f86c9
set_option maxRecDepth 100000 in
set_option maxHeartbeats 4000000 in
theorem c_J9_max_f86c9 (l : Launch) (D : va_G) (cy : Nat → ClassId) (ad : AD) (x0 : Int) (x2 : Int) (F : Nat) {v : Int} (h : m_J9_max_f86c9 F x0 x2 = some v) : Ct l yJ9_max_f86c9 cJ9_max_f86c9 4 (some .long) { frames := 0, cells := 0, slots := 0, locals := 0 } D cy ad [.long (wJ x0), .long (wJ x2)] (W_J9_max_f86c9 cy) (W_J9_max_f86c9 cy) (some (.long (wJ v))) := by
  refine Ct.introJ (j := 0) (by decide +kernel) rfl rfl (fun E C e1 e2 e3 e4 e5 hret => ?_)
  subst e1; subst e2; subst e3; subst e4
  exact wm_J9_max_f86c9 C e5 h hret
-- java/lang/Math.min(II)I
def W_J9_min_7cf53 (cy : Nat → ClassId) : va_W := []
def m_J9_min_7cf53 (F : Nat) (x0 : Int) (x1 : Int) : Option (Int) :=
  if wI x1 < wI x0 then
    (some x1)
  else
    (some x0)
section S_J9_min_7cf53
variable {E : EE}
set_option maxRecDepth 100000 in
set_option maxHeartbeats 4000000 in
theorem wm_J9_min_7cf53 {F : Nat} {v : Int} {x0 : Int} {x1 : Int} (C : Cx E cJ9_min_7cf53 RJ9 { frames := 0, cells := 0, slots := 0, locals := 0 }) (hN : eN E = 2) (h : m_J9_min_7cf53 F x0 x1 = some v) (hret : ∀ (pc : Nat) (L : List (Option Value)), decode cJ9_min_7cf53 pc = .ok (.ireturn, 1) → GG E 0 0 (W_J9_min_7cf53 (eCy E)) L pc [.int (wI v)]) : GG E 0 0 (W_J9_min_7cf53 (eCy E)) [some (.int (wI x0)), some (.int (wI x1))] 0 [] := by
  unfold m_J9_min_7cf53 at h
  refine g_iload_n 0 C dJ9_min_7cf53_0 rfl rfl ?_
  refine g_iload_n 1 C dJ9_min_7cf53_1 rfl rfl ?_
  refine g_icmp_gt 9 C dJ9_min_7cf53_2 (by decide) h (fun h => ?_) (fun h => ?_)
  · refine g_iload_n 1 C dJ9_min_7cf53_9 rfl rfl ?_
    cases h
    exact hret 10 _ dJ9_min_7cf53_10
  · refine g_iload_n 0 C dJ9_min_7cf53_5 rfl rfl ?_
    refine g_goto (tgt := 10) C dJ9_min_7cf53_6 (by decide) ?_
    cases h
    exact hret 10 _ dJ9_min_7cf53_10
end S_J9_min_7cf53
set_option maxRecDepth 100000 in
set_option maxHeartbeats 4000000 in
theorem c_J9_min_7cf53 (l : Launch) (D : va_G) (cy : Nat → ClassId) (ad : AD) (x0 : Int) (x1 : Int) (F : Nat) {v : Int} (h : m_J9_min_7cf53 F x0 x1 = some v) : Ct l yJ9_min_7cf53 cJ9_min_7cf53 2 (some .int) { frames := 0, cells := 0, slots := 0, locals := 0 } D cy ad [.int (wI x0), .int (wI x1)] (W_J9_min_7cf53 cy) (W_J9_min_7cf53 cy) (some (.int (wI v))) := by
  refine Ct.introI (j := 0) (by decide +kernel) rfl rfl (fun E C e1 e2 e3 e4 e5 hret => ?_)
  subst e1; subst e2; subst e3; subst e4
  exact wm_J9_min_7cf53 C e5 h hret
-- java/lang/Math.min(JJ)J
def W_J9_min_f86c9 (cy : Nat → ClassId) : va_W := []
def m_J9_min_f86c9 (F : Nat) (x0 : Int) (x2 : Int) : Option (Int) :=
  if wJ x2 < wJ x0 then
    (some x2)
  else
    (some x0)
section S_J9_min_f86c9
variable {E : EE}
set_option maxRecDepth 100000 in
set_option maxHeartbeats 4000000 in
theorem wm_J9_min_f86c9 {F : Nat} {v : Int} {x0 : Int} {x2 : Int} (C : Cx E cJ9_min_f86c9 RJ9 { frames := 0, cells := 0, slots := 0, locals := 0 }) (hN : eN E = 4) (h : m_J9_min_f86c9 F x0 x2 = some v) (hret : ∀ (pc : Nat) (L : List (Option Value)), decode cJ9_min_f86c9 pc = .ok (.lreturn, 1) → GG E 0 0 (W_J9_min_f86c9 (eCy E)) L pc [.long (wJ v)]) : GG E 0 0 (W_J9_min_f86c9 (eCy E)) [some (.long (wJ x0)), none, some (.long (wJ x2)), none] 0 [] := by
  unfold m_J9_min_f86c9 at h
  refine g_lload_n 0 C dJ9_min_f86c9_0 rfl rfl ?_
  refine g_lload_n 2 C dJ9_min_f86c9_1 rfl rfl ?_
  refine g_lcmp_gt 10 C dJ9_min_f86c9_2 dJ9_min_f86c9_3 (by decide) h (fun h => ?_) (fun h => ?_)
  · refine g_lload_n 2 C dJ9_min_f86c9_10 rfl rfl ?_
    cases h
    exact hret 11 _ dJ9_min_f86c9_11
  · refine g_lload_n 0 C dJ9_min_f86c9_6 rfl rfl ?_
    refine g_goto (tgt := 11) C dJ9_min_f86c9_7 (by decide) ?_
    cases h
    exact hret 11 _ dJ9_min_f86c9_11
end S_J9_min_f86c9
set_option maxRecDepth 100000 in
set_option maxHeartbeats 4000000 in
theorem c_J9_min_f86c9 (l : Launch) (D : va_G) (cy : Nat → ClassId) (ad : AD) (x0 : Int) (x2 : Int) (F : Nat) {v : Int} (h : m_J9_min_f86c9 F x0 x2 = some v) : Ct l yJ9_min_f86c9 cJ9_min_f86c9 4 (some .long) { frames := 0, cells := 0, slots := 0, locals := 0 } D cy ad [.long (wJ x0), .long (wJ x2)] (W_J9_min_f86c9 cy) (W_J9_min_f86c9 cy) (some (.long (wJ v))) := by
  refine Ct.introJ (j := 0) (by decide +kernel) rfl rfl (fun E C e1 e2 e3 e4 e5 hret => ?_)
  subst e1; subst e2; subst e3; subst e4
  exact wm_J9_min_f86c9 C e5 h hret
-- java/util/Arrays.fill([II)V
def W_J7_fill_53178 (cy : Nat → ClassId) (a_p1 : Nat) (n_p1 : Nat) (c_p1 : Int → Int) : va_W := [(a_p1, .inl (cy 1, n_p1, .inl (aI c_p1)))]
def mb_J7_fill_53178_5 (F : Nat) (k5 : Int → (Int → Int) → Option ((Int → Int))) (n_p1 : Nat) (x1 : Int) (x2 : Int) (x3 : Int) (c_p1 : Int → Int) : Option ((Int → Int)) :=
  if wI x3 ≤ wI x2 then
    (some c_p1)
  else
    (chk (0 ≤ x2 ∧ x2 < (n_p1 : Int)) <| k5 (x2 + 1) (up c_p1 x2 x1))
def ml_J7_fill_53178_5 (F : Nat) (n_p1 : Nat) (x1 : Int) (x2 : Int) (x3 : Int) (c_p1 : Int → Int) : Option ((Int → Int)) :=
  loopN (fun (k : Int × (Int → Int) → Option ((Int → Int))) q => mb_J7_fill_53178_5 F (fun y0 y1 => k (y0, y1)) n_p1 x1 q.1 x3 q.2) F (x2, c_p1)
def m_J7_fill_53178 (F : Nat) (n_p1 : Nat) (x1 : Int) (c_p1 : Int → Int) : Option ((Int → Int)) :=
  nam (((n_p1 : Nat) : Int)) fun y1 => ml_J7_fill_53178_5 F n_p1 x1 0 y1 c_p1
section S_J7_fill_53178
variable {E : EE} {a_p1 : Nat} {n_p1 : Nat}
set_option maxRecDepth 100000 in
set_option maxHeartbeats 4000000 in
theorem wb_J7_fill_53178_5 {F : Nat} {k5 : Int → (Int → Int) → Option ((Int → Int))} {v : (Int → Int)} {x1 : Int} {x2 : Int} {x3 : Int} {c_p1 : Int → Int} (C : Cx E cJ7_fill_53178 RJ7 { frames := 0, cells := 0, slots := 0, locals := 0 }) (hN : eN E = 4) (h : mb_J7_fill_53178_5 F k5 n_p1 x1 x2 x3 c_p1 = some v) (hk5 : ∀ (y_x2 : Int) (y_c_p1 : Int → Int), k5 y_x2 y_c_p1 = some v → GG E 0 0 (W_J7_fill_53178 (eCy E) a_p1 n_p1 y_c_p1) [some (.ref a_p1), some (.int (wI x1)), some (.int (wI y_x2)), some (.int (wI x3))] 5 []) (hlt_n_p1 : Nat.blt n_p1 2147483648 = true) (hret : ∀ (pc : Nat) (L : List (Option Value)), decode cJ7_fill_53178 pc = .ok (.return_, 1) → GG E 0 0 (W_J7_fill_53178 (eCy E) a_p1 n_p1 v) L pc []) : GG E 0 0 (W_J7_fill_53178 (eCy E) a_p1 n_p1 c_p1) [some (.ref a_p1), some (.int (wI x1)), some (.int (wI x2)), some (.int (wI x3))] 5 [] := by
  unfold mb_J7_fill_53178_5 at h
  refine g_iload_n 2 C dJ7_fill_53178_5 rfl rfl ?_
  refine g_iload_n 3 C dJ7_fill_53178_6 rfl rfl ?_
  refine g_icmp_ge 20 C dJ7_fill_53178_7 (by decide) h (fun h => ?_) (fun h => ?_)
  · cases h
    exact hret 20 _ dJ7_fill_53178_20
  · refine g_aload_n 0 C dJ7_fill_53178_10 rfl rfl ?_
    refine g_iload_n 2 C dJ7_fill_53178_11 rfl rfl ?_
    refine g_iload_n 1 C dJ7_fill_53178_12 rfl rfl ?_
    obtain ⟨hc1, h⟩ := chk_some h
    refine g_iast C 0 rfl hc1 hlt_n_p1 (ws' := (W_J7_fill_53178 (eCy E) a_p1 n_p1 (up c_p1 x2 x1))) rfl dJ7_fill_53178_13 ?_
    refine g_iinc C hN dJ7_fill_53178_14 rfl rfl (L' := [some (.ref a_p1), some (.int (wI x1)), some (.int (wI (x2 + 1))), some (.int (wI x3))]) rfl ?_
    refine g_goto (tgt := 5) C dJ7_fill_53178_17 (by decide) ?_
    exact hk5 _ _ h
set_option maxRecDepth 100000 in
set_option maxHeartbeats 4000000 in
theorem wl_J7_fill_53178_5 {F : Nat} {v : (Int → Int)} {x1 : Int} {x2 : Int} {x3 : Int} {c_p1 : Int → Int} (C : Cx E cJ7_fill_53178 RJ7 { frames := 0, cells := 0, slots := 0, locals := 0 }) (hN : eN E = 4) (h : ml_J7_fill_53178_5 F n_p1 x1 x2 x3 c_p1 = some v) (hlt_n_p1 : Nat.blt n_p1 2147483648 = true) (hret : ∀ (pc : Nat) (L : List (Option Value)), decode cJ7_fill_53178 pc = .ok (.return_, 1) → GG E 0 0 (W_J7_fill_53178 (eCy E) a_p1 n_p1 v) L pc []) : GG E 0 0 (W_J7_fill_53178 (eCy E) a_p1 n_p1 c_p1) [some (.ref a_p1), some (.int (wI x1)), some (.int (wI x2)), some (.int (wI x3))] 5 [] := by
  unfold ml_J7_fill_53178_5 at h
  exact loop_walk (g := fun (q : Int × (Int → Int)) => GG E 0 0 (W_J7_fill_53178 (eCy E) a_p1 n_p1 (q.2)) [some (.ref a_p1), some (.int (wI x1)), some (.int (wI (q.1))), some (.int (wI x3))] 5 []) (fun k hk q h => wb_J7_fill_53178_5 C hN h (fun y0 y1 hh => hk (y0, y1) hh) hlt_n_p1 hret) F (x2, c_p1) h
set_option maxRecDepth 100000 in
set_option maxHeartbeats 4000000 in
theorem wm_J7_fill_53178 {F : Nat} {v : (Int → Int)} {x1 : Int} {c_p1 : Int → Int} (C : Cx E cJ7_fill_53178 RJ7 { frames := 0, cells := 0, slots := 0, locals := 0 }) (hN : eN E = 4) (h : m_J7_fill_53178 F n_p1 x1 c_p1 = some v) (hlt_n_p1 : Nat.blt n_p1 2147483648 = true) (hret : ∀ (pc : Nat) (L : List (Option Value)), decode cJ7_fill_53178 pc = .ok (.return_, 1) → GG E 0 0 (W_J7_fill_53178 (eCy E) a_p1 n_p1 v) L pc []) : GG E 0 0 (W_J7_fill_53178 (eCy E) a_p1 n_p1 c_p1) [some (.ref a_p1), some (.int (wI x1)), none, none] 0 [] := by
  unfold m_J7_fill_53178 at h
  refine g_iconst C dJ7_fill_53178_0 ?_
  refine g_istore_n 2 C hN dJ7_fill_53178_1 rfl rfl (L' := [some (.ref a_p1), some (.int (wI x1)), some (.int (wI 0)), none]) rfl ?_
  refine g_aload_n 0 C dJ7_fill_53178_2 rfl rfl ?_
  refine g_alen (N := n_p1) (t0 := 1) C 0 rfl rfl rfl dJ7_fill_53178_3 ?_
  obtain ⟨y1, e_y1, h⟩ := nam_some h
  refine g_topI e_y1 ?_
  refine g_istore_n 3 C hN dJ7_fill_53178_4 rfl rfl (L' := [some (.ref a_p1), some (.int (wI x1)), some (.int (wI 0)), some (.int (wI y1))]) rfl ?_
  exact wl_J7_fill_53178_5 C hN h hlt_n_p1 hret
end S_J7_fill_53178
set_option maxRecDepth 100000 in
set_option maxHeartbeats 4000000 in
theorem c_J7_fill_53178 (l : Launch) (D : va_G) (cy : Nat → ClassId) (ad : AD) (a_p1 : Nat) (n_p1 : Nat) (x1 : Int) (c_p1 : Int → Int) (F : Nat) {v : (Int → Int)} (h : m_J7_fill_53178 F n_p1 x1 c_p1 = some v) (hlt_n_p1 : Nat.blt n_p1 2147483648 = true) : Ct l yJ7_fill_53178 cJ7_fill_53178 4 none { frames := 0, cells := 0, slots := 0, locals := 0 } D cy ad [.ref a_p1, .int (wI x1)] (W_J7_fill_53178 cy a_p1 n_p1 c_p1) (W_J7_fill_53178 cy a_p1 n_p1 v) none := by
  refine Ct.introV (j := 2) (by decide +kernel) rfl rfl (fun E C e1 e2 e3 e4 e5 hret => ?_)
  subst e1; subst e2; subst e3; subst e4
  exact wm_J7_fill_53178 C e5 h hlt_n_p1 hret
-- java/util/Arrays.fill([JJ)V
def W_J7_fill_d0a16 (cy : Nat → ClassId) (a_p1 : Nat) (n_p1 : Nat) (c_p1 : Int → Int) : va_W := [(a_p1, .inl (cy 2, n_p1, .inr (.inl (aJ c_p1))))]
def mb_J7_fill_d0a16_6 (F : Nat) (k6 : Int → (Int → Int) → Option ((Int → Int))) (n_p1 : Nat) (x1 : Int) (x3 : Int) (x4 : Int) (c_p1 : Int → Int) : Option ((Int → Int)) :=
  if wI x4 ≤ wI x3 then
    (some c_p1)
  else
    (chk (0 ≤ x3 ∧ x3 < (n_p1 : Int)) <| k6 (x3 + 1) (up c_p1 x3 x1))
def ml_J7_fill_d0a16_6 (F : Nat) (n_p1 : Nat) (x1 : Int) (x3 : Int) (x4 : Int) (c_p1 : Int → Int) : Option ((Int → Int)) :=
  loopN (fun (k : Int × (Int → Int) → Option ((Int → Int))) q => mb_J7_fill_d0a16_6 F (fun y0 y1 => k (y0, y1)) n_p1 x1 q.1 x4 q.2) F (x3, c_p1)
def m_J7_fill_d0a16 (F : Nat) (n_p1 : Nat) (x1 : Int) (c_p1 : Int → Int) : Option ((Int → Int)) :=
  nam (((n_p1 : Nat) : Int)) fun y1 => ml_J7_fill_d0a16_6 F n_p1 x1 0 y1 c_p1
section S_J7_fill_d0a16
variable {E : EE} {a_p1 : Nat} {n_p1 : Nat}
set_option maxRecDepth 100000 in
set_option maxHeartbeats 4000000 in
theorem wb_J7_fill_d0a16_6 {F : Nat} {k6 : Int → (Int → Int) → Option ((Int → Int))} {v : (Int → Int)} {x1 : Int} {x3 : Int} {x4 : Int} {c_p1 : Int → Int} (C : Cx E cJ7_fill_d0a16 RJ7 { frames := 0, cells := 0, slots := 0, locals := 0 }) (hN : eN E = 5) (h : mb_J7_fill_d0a16_6 F k6 n_p1 x1 x3 x4 c_p1 = some v) (hk6 : ∀ (y_x3 : Int) (y_c_p1 : Int → Int), k6 y_x3 y_c_p1 = some v → GG E 0 0 (W_J7_fill_d0a16 (eCy E) a_p1 n_p1 y_c_p1) [some (.ref a_p1), some (.long (wJ x1)), none, some (.int (wI y_x3)), some (.int (wI x4))] 6 []) (hlt_n_p1 : Nat.blt n_p1 2147483648 = true) (hret : ∀ (pc : Nat) (L : List (Option Value)), decode cJ7_fill_d0a16 pc = .ok (.return_, 1) → GG E 0 0 (W_J7_fill_d0a16 (eCy E) a_p1 n_p1 v) L pc []) : GG E 0 0 (W_J7_fill_d0a16 (eCy E) a_p1 n_p1 c_p1) [some (.ref a_p1), some (.long (wJ x1)), none, some (.int (wI x3)), some (.int (wI x4))] 6 [] := by
  unfold mb_J7_fill_d0a16_6 at h
  refine g_iload_n 3 C dJ7_fill_d0a16_6 rfl rfl ?_
  refine g_iload C dJ7_fill_d0a16_7 rfl ?_
  refine g_icmp_ge 22 C dJ7_fill_d0a16_9 (by decide) h (fun h => ?_) (fun h => ?_)
  · cases h
    exact hret 22 _ dJ7_fill_d0a16_22
  · refine g_aload_n 0 C dJ7_fill_d0a16_12 rfl rfl ?_
    refine g_iload_n 3 C dJ7_fill_d0a16_13 rfl rfl ?_
    refine g_lload_n 1 C dJ7_fill_d0a16_14 rfl rfl ?_
    obtain ⟨hc1, h⟩ := chk_some h
    refine g_last C 0 rfl hc1 hlt_n_p1 (ws' := (W_J7_fill_d0a16 (eCy E) a_p1 n_p1 (up c_p1 x3 x1))) rfl dJ7_fill_d0a16_15 ?_
    refine g_iinc C hN dJ7_fill_d0a16_16 rfl rfl (L' := [some (.ref a_p1), some (.long (wJ x1)), none, some (.int (wI (x3 + 1))), some (.int (wI x4))]) rfl ?_
    refine g_goto (tgt := 6) C dJ7_fill_d0a16_19 (by decide) ?_
    exact hk6 _ _ h
set_option maxRecDepth 100000 in
set_option maxHeartbeats 4000000 in
theorem wl_J7_fill_d0a16_6 {F : Nat} {v : (Int → Int)} {x1 : Int} {x3 : Int} {x4 : Int} {c_p1 : Int → Int} (C : Cx E cJ7_fill_d0a16 RJ7 { frames := 0, cells := 0, slots := 0, locals := 0 }) (hN : eN E = 5) (h : ml_J7_fill_d0a16_6 F n_p1 x1 x3 x4 c_p1 = some v) (hlt_n_p1 : Nat.blt n_p1 2147483648 = true) (hret : ∀ (pc : Nat) (L : List (Option Value)), decode cJ7_fill_d0a16 pc = .ok (.return_, 1) → GG E 0 0 (W_J7_fill_d0a16 (eCy E) a_p1 n_p1 v) L pc []) : GG E 0 0 (W_J7_fill_d0a16 (eCy E) a_p1 n_p1 c_p1) [some (.ref a_p1), some (.long (wJ x1)), none, some (.int (wI x3)), some (.int (wI x4))] 6 [] := by
  unfold ml_J7_fill_d0a16_6 at h
  exact loop_walk (g := fun (q : Int × (Int → Int)) => GG E 0 0 (W_J7_fill_d0a16 (eCy E) a_p1 n_p1 (q.2)) [some (.ref a_p1), some (.long (wJ x1)), none, some (.int (wI (q.1))), some (.int (wI x4))] 6 []) (fun k hk q h => wb_J7_fill_d0a16_6 C hN h (fun y0 y1 hh => hk (y0, y1) hh) hlt_n_p1 hret) F (x3, c_p1) h
set_option maxRecDepth 100000 in
set_option maxHeartbeats 4000000 in
theorem wm_J7_fill_d0a16 {F : Nat} {v : (Int → Int)} {x1 : Int} {c_p1 : Int → Int} (C : Cx E cJ7_fill_d0a16 RJ7 { frames := 0, cells := 0, slots := 0, locals := 0 }) (hN : eN E = 5) (h : m_J7_fill_d0a16 F n_p1 x1 c_p1 = some v) (hlt_n_p1 : Nat.blt n_p1 2147483648 = true) (hret : ∀ (pc : Nat) (L : List (Option Value)), decode cJ7_fill_d0a16 pc = .ok (.return_, 1) → GG E 0 0 (W_J7_fill_d0a16 (eCy E) a_p1 n_p1 v) L pc []) : GG E 0 0 (W_J7_fill_d0a16 (eCy E) a_p1 n_p1 c_p1) [some (.ref a_p1), some (.long (wJ x1)), none, none, none] 0 [] := by
  unfold m_J7_fill_d0a16 at h
  refine g_iconst C dJ7_fill_d0a16_0 ?_
  refine g_istore_n 3 C hN dJ7_fill_d0a16_1 rfl rfl (L' := [some (.ref a_p1), some (.long (wJ x1)), none, some (.int (wI 0)), none]) rfl ?_
  refine g_aload_n 0 C dJ7_fill_d0a16_2 rfl rfl ?_
  refine g_alen (N := n_p1) (t0 := 2) C 0 rfl rfl rfl dJ7_fill_d0a16_3 ?_
  obtain ⟨y1, e_y1, h⟩ := nam_some h
  refine g_topI e_y1 ?_
  refine g_istore C hN dJ7_fill_d0a16_4 rfl (L' := [some (.ref a_p1), some (.long (wJ x1)), none, some (.int (wI 0)), some (.int (wI y1))]) rfl ?_
  exact wl_J7_fill_d0a16_6 C hN h hlt_n_p1 hret
end S_J7_fill_d0a16
set_option maxRecDepth 100000 in
set_option maxHeartbeats 4000000 in
theorem c_J7_fill_d0a16 (l : Launch) (D : va_G) (cy : Nat → ClassId) (ad : AD) (a_p1 : Nat) (n_p1 : Nat) (x1 : Int) (c_p1 : Int → Int) (F : Nat) {v : (Int → Int)} (h : m_J7_fill_d0a16 F n_p1 x1 c_p1 = some v) (hlt_n_p1 : Nat.blt n_p1 2147483648 = true) : Ct l yJ7_fill_d0a16 cJ7_fill_d0a16 5 none { frames := 0, cells := 0, slots := 0, locals := 0 } D cy ad [.ref a_p1, .long (wJ x1)] (W_J7_fill_d0a16 cy a_p1 n_p1 c_p1) (W_J7_fill_d0a16 cy a_p1 n_p1 v) none := by
  refine Ct.introV (j := 2) (by decide +kernel) rfl rfl (fun E C e1 e2 e3 e4 e5 hret => ?_)
  subst e1; subst e2; subst e3; subst e4
  exact wm_J7_fill_d0a16 C e5 h hlt_n_p1 hret
-- java/util/Arrays.fill([ZZ)V
def W_J7_fill_49daa (cy : Nat → ClassId) (a_p1 : Nat) (n_p1 : Nat) (c_p1 : Int → Int) : va_W := [(a_p1, .inl (cy 3, n_p1, .inl (aI c_p1)))]
def mb_J7_fill_49daa_5 (F : Nat) (k5 : Int → (Int → Int) → Option ((Int → Int))) (n_p1 : Nat) (x1 : Int) (x2 : Int) (x3 : Int) (c_p1 : Int → Int) : Option ((Int → Int)) :=
  if wI x3 ≤ wI x2 then
    (some c_p1)
  else
    (chk (0 ≤ x2 ∧ x2 < (n_p1 : Int)) <| chk (x1 = 0 ∨ x1 = 1) <| k5 (x2 + 1) (up c_p1 x2 x1))
def ml_J7_fill_49daa_5 (F : Nat) (n_p1 : Nat) (x1 : Int) (x2 : Int) (x3 : Int) (c_p1 : Int → Int) : Option ((Int → Int)) :=
  loopN (fun (k : Int × (Int → Int) → Option ((Int → Int))) q => mb_J7_fill_49daa_5 F (fun y0 y1 => k (y0, y1)) n_p1 x1 q.1 x3 q.2) F (x2, c_p1)
def m_J7_fill_49daa (F : Nat) (n_p1 : Nat) (x1 : Int) (c_p1 : Int → Int) : Option ((Int → Int)) :=
  nam (((n_p1 : Nat) : Int)) fun y1 => ml_J7_fill_49daa_5 F n_p1 x1 0 y1 c_p1
section S_J7_fill_49daa
variable {E : EE} {a_p1 : Nat} {n_p1 : Nat}
set_option maxRecDepth 100000 in
set_option maxHeartbeats 4000000 in
theorem wb_J7_fill_49daa_5 {F : Nat} {k5 : Int → (Int → Int) → Option ((Int → Int))} {v : (Int → Int)} {x1 : Int} {x2 : Int} {x3 : Int} {c_p1 : Int → Int} (C : Cx E cJ7_fill_49daa RJ7 { frames := 0, cells := 0, slots := 0, locals := 0 }) (hN : eN E = 4) (h : mb_J7_fill_49daa_5 F k5 n_p1 x1 x2 x3 c_p1 = some v) (hk5 : ∀ (y_x2 : Int) (y_c_p1 : Int → Int), k5 y_x2 y_c_p1 = some v → GG E 0 0 (W_J7_fill_49daa (eCy E) a_p1 n_p1 y_c_p1) [some (.ref a_p1), some (.int (wI x1)), some (.int (wI y_x2)), some (.int (wI x3))] 5 []) (hlt_n_p1 : Nat.blt n_p1 2147483648 = true) (hret : ∀ (pc : Nat) (L : List (Option Value)), decode cJ7_fill_49daa pc = .ok (.return_, 1) → GG E 0 0 (W_J7_fill_49daa (eCy E) a_p1 n_p1 v) L pc []) : GG E 0 0 (W_J7_fill_49daa (eCy E) a_p1 n_p1 c_p1) [some (.ref a_p1), some (.int (wI x1)), some (.int (wI x2)), some (.int (wI x3))] 5 [] := by
  unfold mb_J7_fill_49daa_5 at h
  refine g_iload_n 2 C dJ7_fill_49daa_5 rfl rfl ?_
  refine g_iload_n 3 C dJ7_fill_49daa_6 rfl rfl ?_
  refine g_icmp_ge 20 C dJ7_fill_49daa_7 (by decide) h (fun h => ?_) (fun h => ?_)
  · cases h
    exact hret 20 _ dJ7_fill_49daa_20
  · refine g_aload_n 0 C dJ7_fill_49daa_10 rfl rfl ?_
    refine g_iload_n 2 C dJ7_fill_49daa_11 rfl rfl ?_
    refine g_iload_n 1 C dJ7_fill_49daa_12 rfl rfl ?_
    obtain ⟨hc1, h⟩ := chk_some h
    obtain ⟨hc2, h⟩ := chk_some h
    refine g_zast C 0 rfl hc1 hlt_n_p1 hc2 (ws' := (W_J7_fill_49daa (eCy E) a_p1 n_p1 (up c_p1 x2 x1))) rfl dJ7_fill_49daa_13 ?_
    refine g_iinc C hN dJ7_fill_49daa_14 rfl rfl (L' := [some (.ref a_p1), some (.int (wI x1)), some (.int (wI (x2 + 1))), some (.int (wI x3))]) rfl ?_
    refine g_goto (tgt := 5) C dJ7_fill_49daa_17 (by decide) ?_
    exact hk5 _ _ h
set_option maxRecDepth 100000 in
set_option maxHeartbeats 4000000 in
theorem wl_J7_fill_49daa_5 {F : Nat} {v : (Int → Int)} {x1 : Int} {x2 : Int} {x3 : Int} {c_p1 : Int → Int} (C : Cx E cJ7_fill_49daa RJ7 { frames := 0, cells := 0, slots := 0, locals := 0 }) (hN : eN E = 4) (h : ml_J7_fill_49daa_5 F n_p1 x1 x2 x3 c_p1 = some v) (hlt_n_p1 : Nat.blt n_p1 2147483648 = true) (hret : ∀ (pc : Nat) (L : List (Option Value)), decode cJ7_fill_49daa pc = .ok (.return_, 1) → GG E 0 0 (W_J7_fill_49daa (eCy E) a_p1 n_p1 v) L pc []) : GG E 0 0 (W_J7_fill_49daa (eCy E) a_p1 n_p1 c_p1) [some (.ref a_p1), some (.int (wI x1)), some (.int (wI x2)), some (.int (wI x3))] 5 [] := by
  unfold ml_J7_fill_49daa_5 at h
  exact loop_walk (g := fun (q : Int × (Int → Int)) => GG E 0 0 (W_J7_fill_49daa (eCy E) a_p1 n_p1 (q.2)) [some (.ref a_p1), some (.int (wI x1)), some (.int (wI (q.1))), some (.int (wI x3))] 5 []) (fun k hk q h => wb_J7_fill_49daa_5 C hN h (fun y0 y1 hh => hk (y0, y1) hh) hlt_n_p1 hret) F (x2, c_p1) h
set_option maxRecDepth 100000 in
set_option maxHeartbeats 4000000 in
theorem wm_J7_fill_49daa {F : Nat} {v : (Int → Int)} {x1 : Int} {c_p1 : Int → Int} (C : Cx E cJ7_fill_49daa RJ7 { frames := 0, cells := 0, slots := 0, locals := 0 }) (hN : eN E = 4) (h : m_J7_fill_49daa F n_p1 x1 c_p1 = some v) (hlt_n_p1 : Nat.blt n_p1 2147483648 = true) (hret : ∀ (pc : Nat) (L : List (Option Value)), decode cJ7_fill_49daa pc = .ok (.return_, 1) → GG E 0 0 (W_J7_fill_49daa (eCy E) a_p1 n_p1 v) L pc []) : GG E 0 0 (W_J7_fill_49daa (eCy E) a_p1 n_p1 c_p1) [some (.ref a_p1), some (.int (wI x1)), none, none] 0 [] := by
  unfold m_J7_fill_49daa at h
  refine g_iconst C dJ7_fill_49daa_0 ?_
  refine g_istore_n 2 C hN dJ7_fill_49daa_1 rfl rfl (L' := [some (.ref a_p1), some (.int (wI x1)), some (.int (wI 0)), none]) rfl ?_
  refine g_aload_n 0 C dJ7_fill_49daa_2 rfl rfl ?_
  refine g_alen (N := n_p1) (t0 := 3) C 0 rfl rfl rfl dJ7_fill_49daa_3 ?_
  obtain ⟨y1, e_y1, h⟩ := nam_some h
  refine g_topI e_y1 ?_
  refine g_istore_n 3 C hN dJ7_fill_49daa_4 rfl rfl (L' := [some (.ref a_p1), some (.int (wI x1)), some (.int (wI 0)), some (.int (wI y1))]) rfl ?_
  exact wl_J7_fill_49daa_5 C hN h hlt_n_p1 hret
end S_J7_fill_49daa
set_option maxRecDepth 100000 in
set_option maxHeartbeats 4000000 in
theorem c_J7_fill_49daa (l : Launch) (D : va_G) (cy : Nat → ClassId) (ad : AD) (a_p1 : Nat) (n_p1 : Nat) (x1 : Int) (c_p1 : Int → Int) (F : Nat) {v : (Int → Int)} (h : m_J7_fill_49daa F n_p1 x1 c_p1 = some v) (hlt_n_p1 : Nat.blt n_p1 2147483648 = true) : Ct l yJ7_fill_49daa cJ7_fill_49daa 4 none { frames := 0, cells := 0, slots := 0, locals := 0 } D cy ad [.ref a_p1, .int (wI x1)] (W_J7_fill_49daa cy a_p1 n_p1 c_p1) (W_J7_fill_49daa cy a_p1 n_p1 v) none := by
  refine Ct.introV (j := 2) (by decide +kernel) rfl rfl (fun E C e1 e2 e3 e4 e5 hret => ?_)
  subst e1; subst e2; subst e3; subst e4
  exact wm_J7_fill_49daa C e5 h hlt_n_p1 hret
