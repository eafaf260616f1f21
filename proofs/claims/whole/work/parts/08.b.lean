-- MovingStair.openTwoCounts(II)I
def W_X8_openTwoCounts (cy : Nat → ClassId) (a_t a_t_counts a_t_counts_counted a_t_counts_leasts a_t_counts_mosts a_t_counts_paces a_t_counts_ways a_t_slots a_t_slotsE_0 a_t_slotsE_1 a_t_slotsE_2 a_t_slotsE_3 a_t_slotsE_numbers_0 a_t_slotsE_numbers_1 a_t_slotsE_numbers_2 a_t_slotsE_numbers_3 : Nat) (g_t_0 : Value) (g_t_1 : Value) (g_t_2 : Value) (g_t_3 : Value) (g_t_4 : Value) (g_t_5 : Value) (g_t_7 : Value) (g_t_8 : Value) (g_t_10 : Value) (g_t_11 : Value) (g_t_12 : Value) (g_t_13 : Value) (g_t_counts_1 : Value) (g_t_counts_2 : Value) (g_t_counts_3 : Value) (g_t_counts_4 : Value) (g_t_counts_10 : Value) (g_t_counts_11 : Value) (g_t_counts_12 : Value) (g_t_counts_13 : Value) (g_t_slotsE_1 : Nat → Value) (c_counts_size : Int) (c_counts_least : Int) (c_counts_most : Int) (c_counts_counted : Int → Int) (c_counts_leasts : Int → Int) (c_counts_mosts : Int → Int) (c_counts_paces : Int → Int) (c_counts_ways : Int → Int) (c_slotsE_held : Int → Int) (c_slotsE_size : Int → Int) (c_slotsE_numbers : Int → Int → Int) : va_W := [(a_t, .inr (8, [g_t_0, g_t_1, g_t_2, g_t_3, g_t_4, g_t_5, .ref a_t_slots, g_t_7, g_t_8, .ref a_t_counts, g_t_10, g_t_11, g_t_12, g_t_13])), (a_t_counts, .inr (0, [.int (wI c_counts_size), g_t_counts_1, g_t_counts_2, g_t_counts_3, g_t_counts_4, .ref a_t_counts_paces, .ref a_t_counts_ways, .ref a_t_counts_counted, .ref a_t_counts_leasts, .ref a_t_counts_mosts, g_t_counts_10, g_t_counts_11, g_t_counts_12, g_t_counts_13, .int (wI c_counts_least), .int (wI c_counts_most)])), (a_t_counts_counted, .inl (cy 1, 20, .inl (aI c_counts_counted))), (a_t_counts_leasts, .inl (cy 1, 31, .inl (aI c_counts_leasts))), (a_t_counts_mosts, .inl (cy 1, 31, .inl (aI c_counts_mosts))), (a_t_counts_paces, .inl (cy 1, 20, .inl (aI c_counts_paces))), (a_t_counts_ways, .inl (cy 1, 20, .inl (aI c_counts_ways))), (a_t_slots, .inl (cy 5, 4, .inr (.inr (.inr (.inr (selO [a_t_slotsE_0, a_t_slotsE_1, a_t_slotsE_2, a_t_slotsE_3])))))), (a_t_slotsE_0, .inr (5, [.int (wI (c_slotsE_held 0)), g_t_slotsE_1 0, .int (wI (c_slotsE_size 0)), .ref a_t_slotsE_numbers_0])), (a_t_slotsE_1, .inr (5, [.int (wI (c_slotsE_held 1)), g_t_slotsE_1 1, .int (wI (c_slotsE_size 1)), .ref a_t_slotsE_numbers_1])), (a_t_slotsE_2, .inr (5, [.int (wI (c_slotsE_held 2)), g_t_slotsE_1 2, .int (wI (c_slotsE_size 2)), .ref a_t_slotsE_numbers_2])), (a_t_slotsE_3, .inr (5, [.int (wI (c_slotsE_held 3)), g_t_slotsE_1 3, .int (wI (c_slotsE_size 3)), .ref a_t_slotsE_numbers_3])), (a_t_slotsE_numbers_0, .inl (cy 2, 60, .inr (.inl (aJ (c_slotsE_numbers 0))))), (a_t_slotsE_numbers_1, .inl (cy 2, 60, .inr (.inl (aJ (c_slotsE_numbers 1))))), (a_t_slotsE_numbers_2, .inl (cy 2, 60, .inr (.inl (aJ (c_slotsE_numbers 2))))), (a_t_slotsE_numbers_3, .inl (cy 2, 60, .inr (.inl (aJ (c_slotsE_numbers 3)))))]
def mb_X8_openTwoCounts_17 (F : Nat) (s0 : Int) (c_counts_size : Int) (c_counts_least : Int) (c_counts_most : Int) (c_counts_counted : Int → Int) (c_counts_leasts : Int → Int) (c_counts_mosts : Int → Int) (c_counts_paces : Int → Int) (c_counts_ways : Int → Int) : Option (Int × Int × Int × Int × (Int → Int) × (Int → Int) × (Int → Int) × (Int → Int) × (Int → Int)) :=
  if wI s0 = wI 0 then
    (if wI 2 ≤ wI c_counts_size then
    (some (s0, c_counts_size, c_counts_least, c_counts_most, c_counts_counted, c_counts_leasts, c_counts_mosts, c_counts_paces, c_counts_ways))
  else
    (some ((-2), c_counts_size, c_counts_least, c_counts_most, c_counts_counted, c_counts_leasts, c_counts_mosts, c_counts_paces, c_counts_ways)))
  else
    (some (s0, c_counts_size, c_counts_least, c_counts_most, c_counts_counted, c_counts_leasts, c_counts_mosts, c_counts_paces, c_counts_ways))
def m_X8_openTwoCounts (F : Nat) (x1 : Int) (x2 : Int) (c_counts_size : Int) (c_counts_least : Int) (c_counts_most : Int) (c_counts_counted : Int → Int) (c_counts_leasts : Int → Int) (c_counts_mosts : Int → Int) (c_counts_paces : Int → Int) (c_counts_ways : Int → Int) (c_slotsE_held : Int → Int) (c_slotsE_size : Int → Int) (c_slotsE_numbers : Int → Int → Int) : Option (Int × Int × Int × Int × (Int → Int) × (Int → Int) × (Int → Int) × (Int → Int) × (Int → Int)) :=
  bnd1 (m_X8_isSide F x2) fun r1 => if wI r1 = wI 0 then
    (mb_X8_openTwoCounts_17 F (-2) c_counts_size c_counts_least c_counts_most c_counts_counted c_counts_leasts c_counts_mosts c_counts_paces c_counts_ways)
  else
    (bnd9 (m_X8_openCounts F x1 c_counts_size c_counts_least c_counts_most c_counts_counted c_counts_leasts c_counts_mosts c_counts_paces c_counts_ways c_slotsE_held c_slotsE_size c_slotsE_numbers) fun r3 o4 o5 o6 o7 o8 o9 o10 o11 => mb_X8_openTwoCounts_17 F r3 o4 o5 o6 o7 o8 o9 o10 o11)
section S_X8_openTwoCounts
variable {E : EE} {a_t a_t_counts a_t_counts_counted a_t_counts_leasts a_t_counts_mosts a_t_counts_paces a_t_counts_ways a_t_slots a_t_slotsE_0 a_t_slotsE_1 a_t_slotsE_2 a_t_slotsE_3 a_t_slotsE_numbers_0 a_t_slotsE_numbers_1 a_t_slotsE_numbers_2 a_t_slotsE_numbers_3 : Nat} {g_t_0 : Value} {g_t_1 : Value} {g_t_2 : Value} {g_t_3 : Value} {g_t_4 : Value} {g_t_5 : Value} {g_t_7 : Value} {g_t_8 : Value} {g_t_10 : Value} {g_t_11 : Value} {g_t_12 : Value} {g_t_13 : Value} {g_t_counts_1 : Value} {g_t_counts_2 : Value} {g_t_counts_3 : Value} {g_t_counts_4 : Value} {g_t_counts_10 : Value} {g_t_counts_11 : Value} {g_t_counts_12 : Value} {g_t_counts_13 : Value} {g_t_slotsE_1 : Nat → Value}
set_option maxRecDepth 100000 in
set_option maxHeartbeats 4000000 in
theorem wb_X8_openTwoCounts_17 {F : Nat} {v : Int × Int × Int × Int × (Int → Int) × (Int → Int) × (Int → Int) × (Int → Int) × (Int → Int)} {s0 : Int} {c_counts_size : Int} {c_counts_least : Int} {c_counts_most : Int} {c_counts_counted : Int → Int} {c_counts_leasts : Int → Int} {c_counts_mosts : Int → Int} {c_counts_paces : Int → Int} {c_counts_ways : Int → Int} {c_slotsE_held : Int → Int} {c_slotsE_size : Int → Int} {c_slotsE_numbers : Int → Int → Int} (C : Cx E cX8_openTwoCounts RX8 { frames := 5, cells := 0, slots := 0, locals := 113 }) (hN : eN E = 4) (h : mb_X8_openTwoCounts_17 F s0 c_counts_size c_counts_least c_counts_most c_counts_counted c_counts_leasts c_counts_mosts c_counts_paces c_counts_ways = some v) (hret : ∀ (pc : Nat) (L : List (Option Value)), decode cX8_openTwoCounts pc = .ok (.ireturn, 1) → GG E 0 0 (W_X8_openTwoCounts (eCy E) a_t a_t_counts a_t_counts_counted a_t_counts_leasts a_t_counts_mosts a_t_counts_paces a_t_counts_ways a_t_slots a_t_slotsE_0 a_t_slotsE_1 a_t_slotsE_2 a_t_slotsE_3 a_t_slotsE_numbers_0 a_t_slotsE_numbers_1 a_t_slotsE_numbers_2 a_t_slotsE_numbers_3 g_t_0 g_t_1 g_t_2 g_t_3 g_t_4 g_t_5 g_t_7 g_t_8 g_t_10 g_t_11 g_t_12 g_t_13 g_t_counts_1 g_t_counts_2 g_t_counts_3 g_t_counts_4 g_t_counts_10 g_t_counts_11 g_t_counts_12 g_t_counts_13 g_t_slotsE_1 (v.2.1) (v.2.2.1) (v.2.2.2.1) (v.2.2.2.2.1) (v.2.2.2.2.2.1) (v.2.2.2.2.2.2.1) (v.2.2.2.2.2.2.2.1) (v.2.2.2.2.2.2.2.2) c_slotsE_held c_slotsE_size c_slotsE_numbers) L pc [.int (wI (v.1))]) : GG E 0 0 (W_X8_openTwoCounts (eCy E) a_t a_t_counts a_t_counts_counted a_t_counts_leasts a_t_counts_mosts a_t_counts_paces a_t_counts_ways a_t_slots a_t_slotsE_0 a_t_slotsE_1 a_t_slotsE_2 a_t_slotsE_3 a_t_slotsE_numbers_0 a_t_slotsE_numbers_1 a_t_slotsE_numbers_2 a_t_slotsE_numbers_3 g_t_0 g_t_1 g_t_2 g_t_3 g_t_4 g_t_5 g_t_7 g_t_8 g_t_10 g_t_11 g_t_12 g_t_13 g_t_counts_1 g_t_counts_2 g_t_counts_3 g_t_counts_4 g_t_counts_10 g_t_counts_11 g_t_counts_12 g_t_counts_13 g_t_slotsE_1 c_counts_size c_counts_least c_counts_most c_counts_counted c_counts_leasts c_counts_mosts c_counts_paces c_counts_ways c_slotsE_held c_slotsE_size c_slotsE_numbers) [some (.ref a_t), none, none, none] 17 [.int (wI s0)] := by
  unfold mb_X8_openTwoCounts_17 at h
  refine g_istore_n 3 C hN dX8_openTwoCounts_17 rfl rfl (L' := [some (.ref a_t), none, none, some (.int (wI s0))]) rfl ?_
  refine g_iload_n 3 C dX8_openTwoCounts_18 rfl rfl ?_
  refine g_if_ne 38 C dX8_openTwoCounts_19 (by decide) h (fun h => ?_) (fun h => ?_)
  · refine g_iload_n 3 C dX8_openTwoCounts_38 rfl rfl ?_
    cases h
    exact hret 39 _ dX8_openTwoCounts_39
  · refine g_aload_n 0 C dX8_openTwoCounts_22 rfl rfl ?_
    refine g_get C fg_X8_57 0 rfl rfl dX8_openTwoCounts_23 ?_
    refine g_get C fg_X8_311 1 rfl rfl dX8_openTwoCounts_26 ?_
    refine g_st (st' := [.int (wI c_counts_size)]) rfl ?_
    refine g_iconst C dX8_openTwoCounts_29 ?_
    refine g_icmp_ge 38 C dX8_openTwoCounts_30 (by decide) h (fun h => ?_) (fun h => ?_)
    · refine g_iload_n 3 C dX8_openTwoCounts_38 rfl rfl ?_
      cases h
      exact hret 39 _ dX8_openTwoCounts_39
    · refine g_bipush C dX8_openTwoCounts_33 (by decide) ?_
      refine g_goto (tgt := 39) C dX8_openTwoCounts_35 (by decide) ?_
      cases h
      exact hret 39 _ dX8_openTwoCounts_39
set_option maxRecDepth 100000 in
set_option maxHeartbeats 4000000 in
theorem wm_X8_openTwoCounts {F : Nat} {v : Int × Int × Int × Int × (Int → Int) × (Int → Int) × (Int → Int) × (Int → Int) × (Int → Int)} {x1 : Int} {x2 : Int} {c_counts_size : Int} {c_counts_least : Int} {c_counts_most : Int} {c_counts_counted : Int → Int} {c_counts_leasts : Int → Int} {c_counts_mosts : Int → Int} {c_counts_paces : Int → Int} {c_counts_ways : Int → Int} {c_slotsE_held : Int → Int} {c_slotsE_size : Int → Int} {c_slotsE_numbers : Int → Int → Int} (C : Cx E cX8_openTwoCounts RX8 { frames := 5, cells := 0, slots := 0, locals := 113 }) (hN : eN E = 4) (h : m_X8_openTwoCounts F x1 x2 c_counts_size c_counts_least c_counts_most c_counts_counted c_counts_leasts c_counts_mosts c_counts_paces c_counts_ways c_slotsE_held c_slotsE_size c_slotsE_numbers = some v) (hret : ∀ (pc : Nat) (L : List (Option Value)), decode cX8_openTwoCounts pc = .ok (.ireturn, 1) → GG E 0 0 (W_X8_openTwoCounts (eCy E) a_t a_t_counts a_t_counts_counted a_t_counts_leasts a_t_counts_mosts a_t_counts_paces a_t_counts_ways a_t_slots a_t_slotsE_0 a_t_slotsE_1 a_t_slotsE_2 a_t_slotsE_3 a_t_slotsE_numbers_0 a_t_slotsE_numbers_1 a_t_slotsE_numbers_2 a_t_slotsE_numbers_3 g_t_0 g_t_1 g_t_2 g_t_3 g_t_4 g_t_5 g_t_7 g_t_8 g_t_10 g_t_11 g_t_12 g_t_13 g_t_counts_1 g_t_counts_2 g_t_counts_3 g_t_counts_4 g_t_counts_10 g_t_counts_11 g_t_counts_12 g_t_counts_13 g_t_slotsE_1 (v.2.1) (v.2.2.1) (v.2.2.2.1) (v.2.2.2.2.1) (v.2.2.2.2.2.1) (v.2.2.2.2.2.2.1) (v.2.2.2.2.2.2.2.1) (v.2.2.2.2.2.2.2.2) c_slotsE_held c_slotsE_size c_slotsE_numbers) L pc [.int (wI (v.1))]) : GG E 0 0 (W_X8_openTwoCounts (eCy E) a_t a_t_counts a_t_counts_counted a_t_counts_leasts a_t_counts_mosts a_t_counts_paces a_t_counts_ways a_t_slots a_t_slotsE_0 a_t_slotsE_1 a_t_slotsE_2 a_t_slotsE_3 a_t_slotsE_numbers_0 a_t_slotsE_numbers_1 a_t_slotsE_numbers_2 a_t_slotsE_numbers_3 g_t_0 g_t_1 g_t_2 g_t_3 g_t_4 g_t_5 g_t_7 g_t_8 g_t_10 g_t_11 g_t_12 g_t_13 g_t_counts_1 g_t_counts_2 g_t_counts_3 g_t_counts_4 g_t_counts_10 g_t_counts_11 g_t_counts_12 g_t_counts_13 g_t_slotsE_1 c_counts_size c_counts_least c_counts_most c_counts_counted c_counts_leasts c_counts_mosts c_counts_paces c_counts_ways c_slotsE_held c_slotsE_size c_slotsE_numbers) [some (.ref a_t), some (.int (wI x1)), some (.int (wI x2)), none] 0 [] := by
  unfold m_X8_openTwoCounts at h
  refine g_iload_n 2 C dX8_openTwoCounts_0 rfl rfl ?_
  obtain ⟨r1, hr2, h⟩ := bnd1_some h
  refine g_callSI [] [0, 1, 2, 3, 4, 5, 6, 7, 8, 9, 10, 11, 12, 13, 14, 15] [0, 1, 2, 3, 4, 5, 6, 7, 8, 9, 10, 11, 12, 13, 14, 15] C mt_X8_117 (c_X8_isSide _ _ _ _ x2 F hr2) rfl rfl (ws2 := (W_X8_openTwoCounts (eCy E) a_t a_t_counts a_t_counts_counted a_t_counts_leasts a_t_counts_mosts a_t_counts_paces a_t_counts_ways a_t_slots a_t_slotsE_0 a_t_slotsE_1 a_t_slotsE_2 a_t_slotsE_3 a_t_slotsE_numbers_0 a_t_slotsE_numbers_1 a_t_slotsE_numbers_2 a_t_slotsE_numbers_3 g_t_0 g_t_1 g_t_2 g_t_3 g_t_4 g_t_5 g_t_7 g_t_8 g_t_10 g_t_11 g_t_12 g_t_13 g_t_counts_1 g_t_counts_2 g_t_counts_3 g_t_counts_4 g_t_counts_10 g_t_counts_11 g_t_counts_12 g_t_counts_13 g_t_slotsE_1 c_counts_size c_counts_least c_counts_most c_counts_counted c_counts_leasts c_counts_mosts c_counts_paces c_counts_ways c_slotsE_held c_slotsE_size c_slotsE_numbers)) rfl rfl rfl (rest := []) rfl rfl rfl dX8_openTwoCounts_1 ?_
  refine g_if_eq 15 C dX8_openTwoCounts_4 (by decide) h (fun h => ?_) (fun h => ?_)
  · refine g_bipush C dX8_openTwoCounts_15 (by decide) ?_
    refine g_mask [true, false, false, false] (L' := [some (.ref a_t), none, none, none]) rfl ?_
    exact wb_X8_openTwoCounts_17 C hN h hret
  · refine g_aload_n 0 C dX8_openTwoCounts_7 rfl rfl ?_
    refine g_iload_n 1 C dX8_openTwoCounts_8 rfl rfl ?_
    obtain ⟨r3, o4, o5, o6, o7, o8, o9, o10, o11, hr12, h⟩ := bnd9_some h
    refine g_callI [0, 1, 2, 3, 4, 5, 6, 7, 8, 9, 10, 11, 12, 13, 14, 15] [] [0, 1, 2, 3, 4, 5, 6, 7, 8, 9, 10, 11, 12, 13, 14, 15] C mt_X8_244 (c_X8_openCounts _ _ _ _ a_t a_t_counts a_t_counts_counted a_t_counts_leasts a_t_counts_mosts a_t_counts_paces a_t_counts_ways a_t_slots a_t_slotsE_0 a_t_slotsE_1 a_t_slotsE_2 a_t_slotsE_3 a_t_slotsE_numbers_0 a_t_slotsE_numbers_1 a_t_slotsE_numbers_2 a_t_slotsE_numbers_3 (g_t_0) (g_t_1) (g_t_2) (g_t_3) (g_t_4) (g_t_5) (g_t_7) (g_t_8) (g_t_10) (g_t_11) (g_t_12) (g_t_13) (g_t_counts_1) (g_t_counts_2) (g_t_counts_3) (g_t_counts_4) (g_t_counts_10) (g_t_counts_11) (g_t_counts_12) (g_t_counts_13) (selV [g_t_slotsE_1 0, g_t_slotsE_1 1, g_t_slotsE_1 2, g_t_slotsE_1 3]) x1 c_counts_size c_counts_least c_counts_most c_counts_counted c_counts_leasts c_counts_mosts c_counts_paces c_counts_ways c_slotsE_held c_slotsE_size c_slotsE_numbers F hr12) (q0 := 0) rfl (ci := 8) rfl rfl rfl (ws2 := (W_X8_openTwoCounts (eCy E) a_t a_t_counts a_t_counts_counted a_t_counts_leasts a_t_counts_mosts a_t_counts_paces a_t_counts_ways a_t_slots a_t_slotsE_0 a_t_slotsE_1 a_t_slotsE_2 a_t_slotsE_3 a_t_slotsE_numbers_0 a_t_slotsE_numbers_1 a_t_slotsE_numbers_2 a_t_slotsE_numbers_3 g_t_0 g_t_1 g_t_2 g_t_3 g_t_4 g_t_5 g_t_7 g_t_8 g_t_10 g_t_11 g_t_12 g_t_13 g_t_counts_1 g_t_counts_2 g_t_counts_3 g_t_counts_4 g_t_counts_10 g_t_counts_11 g_t_counts_12 g_t_counts_13 g_t_slotsE_1 o4 o5 o6 o7 o8 o9 o10 o11 c_slotsE_held c_slotsE_size c_slotsE_numbers)) rfl rfl rfl (rest := []) rfl rfl rfl dX8_openTwoCounts_9 ?_
    refine g_goto (tgt := 17) C dX8_openTwoCounts_12 (by decide) ?_
    refine g_mask [true, false, false, false] (L' := [some (.ref a_t), none, none, none]) rfl ?_
    exact wb_X8_openTwoCounts_17 C hN h hret
end S_X8_openTwoCounts
set_option maxRecDepth 100000 in
set_option maxHeartbeats 4000000 in
theorem c_X8_openTwoCounts (l : Launch) (D : va_G) (cy : Nat → ClassId) (ad : AD) (a_t a_t_counts a_t_counts_counted a_t_counts_leasts a_t_counts_mosts a_t_counts_paces a_t_counts_ways a_t_slots a_t_slotsE_0 a_t_slotsE_1 a_t_slotsE_2 a_t_slotsE_3 a_t_slotsE_numbers_0 a_t_slotsE_numbers_1 a_t_slotsE_numbers_2 a_t_slotsE_numbers_3 : Nat) (g_t_0 : Value) (g_t_1 : Value) (g_t_2 : Value) (g_t_3 : Value) (g_t_4 : Value) (g_t_5 : Value) (g_t_7 : Value) (g_t_8 : Value) (g_t_10 : Value) (g_t_11 : Value) (g_t_12 : Value) (g_t_13 : Value) (g_t_counts_1 : Value) (g_t_counts_2 : Value) (g_t_counts_3 : Value) (g_t_counts_4 : Value) (g_t_counts_10 : Value) (g_t_counts_11 : Value) (g_t_counts_12 : Value) (g_t_counts_13 : Value) (g_t_slotsE_1 : Nat → Value) (x1 : Int) (x2 : Int) (c_counts_size : Int) (c_counts_least : Int) (c_counts_most : Int) (c_counts_counted : Int → Int) (c_counts_leasts : Int → Int) (c_counts_mosts : Int → Int) (c_counts_paces : Int → Int) (c_counts_ways : Int → Int) (c_slotsE_held : Int → Int) (c_slotsE_size : Int → Int) (c_slotsE_numbers : Int → Int → Int) (F : Nat) {v : Int × Int × Int × Int × (Int → Int) × (Int → Int) × (Int → Int) × (Int → Int) × (Int → Int)} (h : m_X8_openTwoCounts F x1 x2 c_counts_size c_counts_least c_counts_most c_counts_counted c_counts_leasts c_counts_mosts c_counts_paces c_counts_ways c_slotsE_held c_slotsE_size c_slotsE_numbers = some v) : Ct l yX8_openTwoCounts cX8_openTwoCounts 4 (some .int) { frames := 5, cells := 0, slots := 0, locals := 113 } D cy ad [.ref a_t, .int (wI x1), .int (wI x2)] (W_X8_openTwoCounts cy a_t a_t_counts a_t_counts_counted a_t_counts_leasts a_t_counts_mosts a_t_counts_paces a_t_counts_ways a_t_slots a_t_slotsE_0 a_t_slotsE_1 a_t_slotsE_2 a_t_slotsE_3 a_t_slotsE_numbers_0 a_t_slotsE_numbers_1 a_t_slotsE_numbers_2 a_t_slotsE_numbers_3 g_t_0 g_t_1 g_t_2 g_t_3 g_t_4 g_t_5 g_t_7 g_t_8 g_t_10 g_t_11 g_t_12 g_t_13 g_t_counts_1 g_t_counts_2 g_t_counts_3 g_t_counts_4 g_t_counts_10 g_t_counts_11 g_t_counts_12 g_t_counts_13 g_t_slotsE_1 c_counts_size c_counts_least c_counts_most c_counts_counted c_counts_leasts c_counts_mosts c_counts_paces c_counts_ways c_slotsE_held c_slotsE_size c_slotsE_numbers) (W_X8_openTwoCounts cy a_t a_t_counts a_t_counts_counted a_t_counts_leasts a_t_counts_mosts a_t_counts_paces a_t_counts_ways a_t_slots a_t_slotsE_0 a_t_slotsE_1 a_t_slotsE_2 a_t_slotsE_3 a_t_slotsE_numbers_0 a_t_slotsE_numbers_1 a_t_slotsE_numbers_2 a_t_slotsE_numbers_3 g_t_0 g_t_1 g_t_2 g_t_3 g_t_4 g_t_5 g_t_7 g_t_8 g_t_10 g_t_11 g_t_12 g_t_13 g_t_counts_1 g_t_counts_2 g_t_counts_3 g_t_counts_4 g_t_counts_10 g_t_counts_11 g_t_counts_12 g_t_counts_13 g_t_slotsE_1 (v.2.1) (v.2.2.1) (v.2.2.2.1) (v.2.2.2.2.1) (v.2.2.2.2.2.1) (v.2.2.2.2.2.2.1) (v.2.2.2.2.2.2.2.1) (v.2.2.2.2.2.2.2.2) c_slotsE_held c_slotsE_size c_slotsE_numbers) (some (.int (wI (v.1)))) := by
  refine Ct.introI (j := 1) (plainFor_of_name (by decide)) rfl rfl (fun E C e1 e2 e3 e4 e5 hret => ?_)
  subst e1; subst e2; subst e3; subst e4
  exact wm_X8_openTwoCounts C e5 h hret
-- MovingStair.exact(II)J
def W_X8_exact (cy : Nat → ClassId) (a_t a_t_counts a_t_counts_counted a_t_counts_leasts a_t_counts_mosts a_t_counts_paces a_t_counts_ways a_t_slots a_t_slotsE_0 a_t_slotsE_1 a_t_slotsE_2 a_t_slotsE_3 a_t_slotsE_numbers_0 a_t_slotsE_numbers_1 a_t_slotsE_numbers_2 a_t_slotsE_numbers_3 a_t_told : Nat) (g_t_0 : Value) (g_t_1 : Value) (g_t_2 : Value) (g_t_3 : Value) (g_t_4 : Value) (g_t_5 : Value) (g_t_7 : Value) (g_t_8 : Value) (g_t_10 : Value) (g_t_11 : Value) (g_t_13 : Value) (g_t_counts_1 : Value) (g_t_counts_2 : Value) (g_t_counts_3 : Value) (g_t_counts_4 : Value) (g_t_counts_10 : Value) (g_t_counts_11 : Value) (g_t_counts_12 : Value) (g_t_counts_13 : Value) (g_t_slotsE_1 : Nat → Value) (c_counts_size : Int) (c_counts_least : Int) (c_counts_most : Int) (c_counts_counted : Int → Int) (c_counts_leasts : Int → Int) (c_counts_mosts : Int → Int) (c_counts_paces : Int → Int) (c_counts_ways : Int → Int) (c_slotsE_held : Int → Int) (c_slotsE_size : Int → Int) (c_slotsE_numbers : Int → Int → Int) (c_told_above : Int) (c_told_below : Int) : va_W := [(a_t, .inr (8, [g_t_0, g_t_1, g_t_2, g_t_3, g_t_4, g_t_5, .ref a_t_slots, g_t_7, g_t_8, .ref a_t_counts, g_t_10, g_t_11, .ref a_t_told, g_t_13])), (a_t_counts, .inr (0, [.int (wI c_counts_size), g_t_counts_1, g_t_counts_2, g_t_counts_3, g_t_counts_4, .ref a_t_counts_paces, .ref a_t_counts_ways, .ref a_t_counts_counted, .ref a_t_counts_leasts, .ref a_t_counts_mosts, g_t_counts_10, g_t_counts_11, g_t_counts_12, g_t_counts_13, .int (wI c_counts_least), .int (wI c_counts_most)])), (a_t_counts_counted, .inl (cy 1, 20, .inl (aI c_counts_counted))), (a_t_counts_leasts, .inl (cy 1, 31, .inl (aI c_counts_leasts))), (a_t_counts_mosts, .inl (cy 1, 31, .inl (aI c_counts_mosts))), (a_t_counts_paces, .inl (cy 1, 20, .inl (aI c_counts_paces))), (a_t_counts_ways, .inl (cy 1, 20, .inl (aI c_counts_ways))), (a_t_slots, .inl (cy 5, 4, .inr (.inr (.inr (.inr (selO [a_t_slotsE_0, a_t_slotsE_1, a_t_slotsE_2, a_t_slotsE_3])))))), (a_t_slotsE_0, .inr (5, [.int (wI (c_slotsE_held 0)), g_t_slotsE_1 0, .int (wI (c_slotsE_size 0)), .ref a_t_slotsE_numbers_0])), (a_t_slotsE_1, .inr (5, [.int (wI (c_slotsE_held 1)), g_t_slotsE_1 1, .int (wI (c_slotsE_size 1)), .ref a_t_slotsE_numbers_1])), (a_t_slotsE_2, .inr (5, [.int (wI (c_slotsE_held 2)), g_t_slotsE_1 2, .int (wI (c_slotsE_size 2)), .ref a_t_slotsE_numbers_2])), (a_t_slotsE_3, .inr (5, [.int (wI (c_slotsE_held 3)), g_t_slotsE_1 3, .int (wI (c_slotsE_size 3)), .ref a_t_slotsE_numbers_3])), (a_t_slotsE_numbers_0, .inl (cy 2, 60, .inr (.inl (aJ (c_slotsE_numbers 0))))), (a_t_slotsE_numbers_1, .inl (cy 2, 60, .inr (.inl (aJ (c_slotsE_numbers 1))))), (a_t_slotsE_numbers_2, .inl (cy 2, 60, .inr (.inl (aJ (c_slotsE_numbers 2))))), (a_t_slotsE_numbers_3, .inl (cy 2, 60, .inr (.inl (aJ (c_slotsE_numbers 3))))), (a_t_told, .inr (1, [.long (wJ c_told_above), .long (wJ c_told_below)]))]
def m_X8_exact (F : Nat) (x1 : Int) (x2 : Int) (c_counts_size : Int) (c_counts_least : Int) (c_counts_most : Int) (c_counts_counted : Int → Int) (c_counts_leasts : Int → Int) (c_counts_mosts : Int → Int) (c_counts_paces : Int → Int) (c_counts_ways : Int → Int) (c_slotsE_held : Int → Int) (c_slotsE_size : Int → Int) (c_slotsE_numbers : Int → Int → Int) (c_told_above : Int) (c_told_below : Int) : Option (Int × Int × Int × Int × (Int → Int) × (Int → Int) × (Int → Int) × (Int → Int) × (Int → Int) × Int × Int) :=
  bnd9 (m_X8_openTwoCounts F x1 x2 c_counts_size c_counts_least c_counts_most c_counts_counted c_counts_leasts c_counts_mosts c_counts_paces c_counts_ways c_slotsE_held c_slotsE_size c_slotsE_numbers) fun r1 o2 o3 o4 o5 o6 o7 o8 o9 => if wI r1 = wI 0 then
    (bnd3 (m_X0_solveSteps F o5 o8 o9) fun r11 o12 o13 => if wI r11 = wI 0 then
    (some ((-1), o2, o3, o4, o5, o6, o7, o8, o9, o12, o13))
  else
    (bnd1 (m_X1_side F x2 o12 o13) fun r15 => some (r15, o2, o3, o4, o5, o6, o7, o8, o9, o12, o13)))
  else
    (chk (r32 r1) <| some (r1, o2, o3, o4, o5, o6, o7, o8, o9, c_told_above, c_told_below))
section S_X8_exact
variable {E : EE} {a_t a_t_counts a_t_counts_counted a_t_counts_leasts a_t_counts_mosts a_t_counts_paces a_t_counts_ways a_t_slots a_t_slotsE_0 a_t_slotsE_1 a_t_slotsE_2 a_t_slotsE_3 a_t_slotsE_numbers_0 a_t_slotsE_numbers_1 a_t_slotsE_numbers_2 a_t_slotsE_numbers_3 a_t_told : Nat} {g_t_0 : Value} {g_t_1 : Value} {g_t_2 : Value} {g_t_3 : Value} {g_t_4 : Value} {g_t_5 : Value} {g_t_7 : Value} {g_t_8 : Value} {g_t_10 : Value} {g_t_11 : Value} {g_t_13 : Value} {g_t_counts_1 : Value} {g_t_counts_2 : Value} {g_t_counts_3 : Value} {g_t_counts_4 : Value} {g_t_counts_10 : Value} {g_t_counts_11 : Value} {g_t_counts_12 : Value} {g_t_counts_13 : Value} {g_t_slotsE_1 : Nat → Value}
set_option maxRecDepth 100000 in
set_option maxHeartbeats 4000000 in
theorem wm_X8_exact {F : Nat} {v : Int × Int × Int × Int × (Int → Int) × (Int → Int) × (Int → Int) × (Int → Int) × (Int → Int) × Int × Int} {x1 : Int} {x2 : Int} {c_counts_size : Int} {c_counts_least : Int} {c_counts_most : Int} {c_counts_counted : Int → Int} {c_counts_leasts : Int → Int} {c_counts_mosts : Int → Int} {c_counts_paces : Int → Int} {c_counts_ways : Int → Int} {c_slotsE_held : Int → Int} {c_slotsE_size : Int → Int} {c_slotsE_numbers : Int → Int → Int} {c_told_above : Int} {c_told_below : Int} (C : Cx E cX8_exact RX8 { frames := 6, cells := 0, slots := 0, locals := 136 }) (hN : eN E = 4) (h : m_X8_exact F x1 x2 c_counts_size c_counts_least c_counts_most c_counts_counted c_counts_leasts c_counts_mosts c_counts_paces c_counts_ways c_slotsE_held c_slotsE_size c_slotsE_numbers c_told_above c_told_below = some v) (hret : ∀ (pc : Nat) (L : List (Option Value)), decode cX8_exact pc = .ok (.lreturn, 1) → GG E 0 0 (W_X8_exact (eCy E) a_t a_t_counts a_t_counts_counted a_t_counts_leasts a_t_counts_mosts a_t_counts_paces a_t_counts_ways a_t_slots a_t_slotsE_0 a_t_slotsE_1 a_t_slotsE_2 a_t_slotsE_3 a_t_slotsE_numbers_0 a_t_slotsE_numbers_1 a_t_slotsE_numbers_2 a_t_slotsE_numbers_3 a_t_told g_t_0 g_t_1 g_t_2 g_t_3 g_t_4 g_t_5 g_t_7 g_t_8 g_t_10 g_t_11 g_t_13 g_t_counts_1 g_t_counts_2 g_t_counts_3 g_t_counts_4 g_t_counts_10 g_t_counts_11 g_t_counts_12 g_t_counts_13 g_t_slotsE_1 (v.2.1) (v.2.2.1) (v.2.2.2.1) (v.2.2.2.2.1) (v.2.2.2.2.2.1) (v.2.2.2.2.2.2.1) (v.2.2.2.2.2.2.2.1) (v.2.2.2.2.2.2.2.2.1) c_slotsE_held c_slotsE_size c_slotsE_numbers (v.2.2.2.2.2.2.2.2.2.1) (v.2.2.2.2.2.2.2.2.2.2)) L pc [.long (wJ (v.1))]) : GG E 0 0 (W_X8_exact (eCy E) a_t a_t_counts a_t_counts_counted a_t_counts_leasts a_t_counts_mosts a_t_counts_paces a_t_counts_ways a_t_slots a_t_slotsE_0 a_t_slotsE_1 a_t_slotsE_2 a_t_slotsE_3 a_t_slotsE_numbers_0 a_t_slotsE_numbers_1 a_t_slotsE_numbers_2 a_t_slotsE_numbers_3 a_t_told g_t_0 g_t_1 g_t_2 g_t_3 g_t_4 g_t_5 g_t_7 g_t_8 g_t_10 g_t_11 g_t_13 g_t_counts_1 g_t_counts_2 g_t_counts_3 g_t_counts_4 g_t_counts_10 g_t_counts_11 g_t_counts_12 g_t_counts_13 g_t_slotsE_1 c_counts_size c_counts_least c_counts_most c_counts_counted c_counts_leasts c_counts_mosts c_counts_paces c_counts_ways c_slotsE_held c_slotsE_size c_slotsE_numbers c_told_above c_told_below) [some (.ref a_t), some (.int (wI x1)), some (.int (wI x2)), none] 0 [] := by
  unfold m_X8_exact at h
  refine g_aload_n 0 C dX8_exact_0 rfl rfl ?_
  refine g_iload_n 1 C dX8_exact_1 rfl rfl ?_
  refine g_iload_n 2 C dX8_exact_2 rfl rfl ?_
  obtain ⟨r1, o2, o3, o4, o5, o6, o7, o8, o9, hr10, h⟩ := bnd9_some h
  refine g_callI [0, 1, 2, 3, 4, 5, 6, 7, 8, 9, 10, 11, 12, 13, 14, 15] [16] [1, 2, 3, 4, 5, 6, 7, 8, 9, 10, 11, 12, 13, 14, 15, 16, 0] C mt_X8_290 (c_X8_openTwoCounts _ _ _ _ a_t a_t_counts a_t_counts_counted a_t_counts_leasts a_t_counts_mosts a_t_counts_paces a_t_counts_ways a_t_slots a_t_slotsE_0 a_t_slotsE_1 a_t_slotsE_2 a_t_slotsE_3 a_t_slotsE_numbers_0 a_t_slotsE_numbers_1 a_t_slotsE_numbers_2 a_t_slotsE_numbers_3 (g_t_0) (g_t_1) (g_t_2) (g_t_3) (g_t_4) (g_t_5) (g_t_7) (g_t_8) (g_t_10) (g_t_11) (.ref a_t_told) (g_t_13) (g_t_counts_1) (g_t_counts_2) (g_t_counts_3) (g_t_counts_4) (g_t_counts_10) (g_t_counts_11) (g_t_counts_12) (g_t_counts_13) (selV [g_t_slotsE_1 0, g_t_slotsE_1 1, g_t_slotsE_1 2, g_t_slotsE_1 3]) x1 x2 c_counts_size c_counts_least c_counts_most c_counts_counted c_counts_leasts c_counts_mosts c_counts_paces c_counts_ways c_slotsE_held c_slotsE_size c_slotsE_numbers F hr10) (q0 := 0) rfl (ci := 8) rfl rfl rfl (ws2 := (W_X8_exact (eCy E) a_t a_t_counts a_t_counts_counted a_t_counts_leasts a_t_counts_mosts a_t_counts_paces a_t_counts_ways a_t_slots a_t_slotsE_0 a_t_slotsE_1 a_t_slotsE_2 a_t_slotsE_3 a_t_slotsE_numbers_0 a_t_slotsE_numbers_1 a_t_slotsE_numbers_2 a_t_slotsE_numbers_3 a_t_told g_t_0 g_t_1 g_t_2 g_t_3 g_t_4 g_t_5 g_t_7 g_t_8 g_t_10 g_t_11 g_t_13 g_t_counts_1 g_t_counts_2 g_t_counts_3 g_t_counts_4 g_t_counts_10 g_t_counts_11 g_t_counts_12 g_t_counts_13 g_t_slotsE_1 o2 o3 o4 o5 o6 o7 o8 o9 c_slotsE_held c_slotsE_size c_slotsE_numbers c_told_above c_told_below)) rfl rfl rfl (rest := []) rfl rfl rfl dX8_exact_3 ?_
  refine g_istore_n 3 C hN dX8_exact_6 rfl rfl (L' := [some (.ref a_t), some (.int (wI x1)), some (.int (wI x2)), some (.int (wI r1))]) rfl ?_
  refine g_iload_n 3 C dX8_exact_7 rfl rfl ?_
  refine g_if_eq 14 C dX8_exact_8 (by decide) h (fun h => ?_) (fun h => ?_)
  · refine g_aload_n 0 C dX8_exact_14 rfl rfl ?_
    refine g_get C fg_X8_57 0 rfl rfl dX8_exact_15 ?_
    refine g_aload_n 0 C dX8_exact_18 rfl rfl ?_
    refine g_get C fg_X8_78 0 rfl rfl dX8_exact_19 ?_
    obtain ⟨r11, o12, o13, hr14, h⟩ := bnd3_some h
    refine g_callI [1, 16, 2, 5, 6] [0, 3, 4, 7, 8, 9, 10, 11, 12, 13, 14, 15] [0, 12, 14, 1, 2, 15, 16, 3, 4, 5, 6, 7, 8, 9, 10, 11, 13] C mt_X8_293 (c_X0_solveSteps _ _ _ _ a_t_counts a_t_told a_t_counts_counted a_t_counts_paces a_t_counts_ways (.int (wI o2)) (g_t_counts_1) (g_t_counts_2) (g_t_counts_3) (g_t_counts_4) (.ref a_t_counts_leasts) (.ref a_t_counts_mosts) (g_t_counts_10) (g_t_counts_11) (g_t_counts_12) (g_t_counts_13) (.int (wI o3)) (.int (wI o4)) c_told_above c_told_below o5 o8 o9 F hr14) (q0 := 0) rfl (ci := 0) rfl rfl rfl (ws2 := (W_X8_exact (eCy E) a_t a_t_counts a_t_counts_counted a_t_counts_leasts a_t_counts_mosts a_t_counts_paces a_t_counts_ways a_t_slots a_t_slotsE_0 a_t_slotsE_1 a_t_slotsE_2 a_t_slotsE_3 a_t_slotsE_numbers_0 a_t_slotsE_numbers_1 a_t_slotsE_numbers_2 a_t_slotsE_numbers_3 a_t_told g_t_0 g_t_1 g_t_2 g_t_3 g_t_4 g_t_5 g_t_7 g_t_8 g_t_10 g_t_11 g_t_13 g_t_counts_1 g_t_counts_2 g_t_counts_3 g_t_counts_4 g_t_counts_10 g_t_counts_11 g_t_counts_12 g_t_counts_13 g_t_slotsE_1 o2 o3 o4 o5 o6 o7 o8 o9 c_slotsE_held c_slotsE_size c_slotsE_numbers o12 o13)) rfl rfl rfl (rest := []) rfl rfl rfl dX8_exact_22 ?_
    refine g_if_eq 39 C dX8_exact_25 (by decide) h (fun h => ?_) (fun h => ?_)
    · refine g_ldc2 (v := -1) C mc_X8_146 dX8_exact_39 ?_
      cases h
      exact hret 42 _ dX8_exact_42
    · refine g_aload_n 0 C dX8_exact_28 rfl rfl ?_
      refine g_get C fg_X8_78 0 rfl rfl dX8_exact_29 ?_
      refine g_iload_n 2 C dX8_exact_32 rfl rfl ?_
      obtain ⟨r15, hr16, h⟩ := bnd1_some h
      refine g_callJ [16] [0, 1, 2, 3, 4, 5, 6, 7, 8, 9, 10, 11, 12, 13, 14, 15] [0, 1, 2, 3, 4, 5, 6, 7, 8, 9, 10, 11, 12, 13, 14, 15, 16] C mt_X8_142 (c_X1_side _ _ _ _ a_t_told x2 o12 o13 F hr16) (q0 := 0) rfl (ci := 1) rfl rfl rfl (ws2 := (W_X8_exact (eCy E) a_t a_t_counts a_t_counts_counted a_t_counts_leasts a_t_counts_mosts a_t_counts_paces a_t_counts_ways a_t_slots a_t_slotsE_0 a_t_slotsE_1 a_t_slotsE_2 a_t_slotsE_3 a_t_slotsE_numbers_0 a_t_slotsE_numbers_1 a_t_slotsE_numbers_2 a_t_slotsE_numbers_3 a_t_told g_t_0 g_t_1 g_t_2 g_t_3 g_t_4 g_t_5 g_t_7 g_t_8 g_t_10 g_t_11 g_t_13 g_t_counts_1 g_t_counts_2 g_t_counts_3 g_t_counts_4 g_t_counts_10 g_t_counts_11 g_t_counts_12 g_t_counts_13 g_t_slotsE_1 o2 o3 o4 o5 o6 o7 o8 o9 c_slotsE_held c_slotsE_size c_slotsE_numbers o12 o13)) rfl rfl rfl (rest := []) rfl rfl rfl dX8_exact_33 ?_
      refine g_goto (tgt := 42) C dX8_exact_36 (by decide) ?_
      cases h
      exact hret 42 _ dX8_exact_42
  · refine g_iload_n 3 C dX8_exact_11 rfl rfl ?_
    obtain ⟨hc11, h⟩ := chk_some h
    refine g_i2l C dX8_exact_12 hc11 ?_
    cases h
    exact hret 13 _ dX8_exact_13
end S_X8_exact
set_option maxRecDepth 100000 in
set_option maxHeartbeats 4000000 in
theorem c_X8_exact (l : Launch) (D : va_G) (cy : Nat → ClassId) (ad : AD) (a_t a_t_counts a_t_counts_counted a_t_counts_leasts a_t_counts_mosts a_t_counts_paces a_t_counts_ways a_t_slots a_t_slotsE_0 a_t_slotsE_1 a_t_slotsE_2 a_t_slotsE_3 a_t_slotsE_numbers_0 a_t_slotsE_numbers_1 a_t_slotsE_numbers_2 a_t_slotsE_numbers_3 a_t_told : Nat) (g_t_0 : Value) (g_t_1 : Value) (g_t_2 : Value) (g_t_3 : Value) (g_t_4 : Value) (g_t_5 : Value) (g_t_7 : Value) (g_t_8 : Value) (g_t_10 : Value) (g_t_11 : Value) (g_t_13 : Value) (g_t_counts_1 : Value) (g_t_counts_2 : Value) (g_t_counts_3 : Value) (g_t_counts_4 : Value) (g_t_counts_10 : Value) (g_t_counts_11 : Value) (g_t_counts_12 : Value) (g_t_counts_13 : Value) (g_t_slotsE_1 : Nat → Value) (x1 : Int) (x2 : Int) (c_counts_size : Int) (c_counts_least : Int) (c_counts_most : Int) (c_counts_counted : Int → Int) (c_counts_leasts : Int → Int) (c_counts_mosts : Int → Int) (c_counts_paces : Int → Int) (c_counts_ways : Int → Int) (c_slotsE_held : Int → Int) (c_slotsE_size : Int → Int) (c_slotsE_numbers : Int → Int → Int) (c_told_above : Int) (c_told_below : Int) (F : Nat) {v : Int × Int × Int × Int × (Int → Int) × (Int → Int) × (Int → Int) × (Int → Int) × (Int → Int) × Int × Int} (h : m_X8_exact F x1 x2 c_counts_size c_counts_least c_counts_most c_counts_counted c_counts_leasts c_counts_mosts c_counts_paces c_counts_ways c_slotsE_held c_slotsE_size c_slotsE_numbers c_told_above c_told_below = some v) : Ct l yX8_exact cX8_exact 4 (some .long) { frames := 6, cells := 0, slots := 0, locals := 136 } D cy ad [.ref a_t, .int (wI x1), .int (wI x2)] (W_X8_exact cy a_t a_t_counts a_t_counts_counted a_t_counts_leasts a_t_counts_mosts a_t_counts_paces a_t_counts_ways a_t_slots a_t_slotsE_0 a_t_slotsE_1 a_t_slotsE_2 a_t_slotsE_3 a_t_slotsE_numbers_0 a_t_slotsE_numbers_1 a_t_slotsE_numbers_2 a_t_slotsE_numbers_3 a_t_told g_t_0 g_t_1 g_t_2 g_t_3 g_t_4 g_t_5 g_t_7 g_t_8 g_t_10 g_t_11 g_t_13 g_t_counts_1 g_t_counts_2 g_t_counts_3 g_t_counts_4 g_t_counts_10 g_t_counts_11 g_t_counts_12 g_t_counts_13 g_t_slotsE_1 c_counts_size c_counts_least c_counts_most c_counts_counted c_counts_leasts c_counts_mosts c_counts_paces c_counts_ways c_slotsE_held c_slotsE_size c_slotsE_numbers c_told_above c_told_below) (W_X8_exact cy a_t a_t_counts a_t_counts_counted a_t_counts_leasts a_t_counts_mosts a_t_counts_paces a_t_counts_ways a_t_slots a_t_slotsE_0 a_t_slotsE_1 a_t_slotsE_2 a_t_slotsE_3 a_t_slotsE_numbers_0 a_t_slotsE_numbers_1 a_t_slotsE_numbers_2 a_t_slotsE_numbers_3 a_t_told g_t_0 g_t_1 g_t_2 g_t_3 g_t_4 g_t_5 g_t_7 g_t_8 g_t_10 g_t_11 g_t_13 g_t_counts_1 g_t_counts_2 g_t_counts_3 g_t_counts_4 g_t_counts_10 g_t_counts_11 g_t_counts_12 g_t_counts_13 g_t_slotsE_1 (v.2.1) (v.2.2.1) (v.2.2.2.1) (v.2.2.2.2.1) (v.2.2.2.2.2.1) (v.2.2.2.2.2.2.1) (v.2.2.2.2.2.2.2.1) (v.2.2.2.2.2.2.2.2.1) c_slotsE_held c_slotsE_size c_slotsE_numbers (v.2.2.2.2.2.2.2.2.2.1) (v.2.2.2.2.2.2.2.2.2.2)) (some (.long (wJ (v.1)))) := by
  refine Ct.introJ (j := 1) (plainFor_of_name (by decide)) rfl rfl (fun E C e1 e2 e3 e4 e5 hret => ?_)
  subst e1; subst e2; subst e3; subst e4
  exact wm_X8_exact C e5 h hret
-- MovingStair.quick(II)J
def W_X8_quick (cy : Nat → ClassId) (a_t a_t_counts a_t_counts_counted a_t_counts_leasts a_t_counts_mosts a_t_counts_paces a_t_counts_ways a_t_slots a_t_slotsE_0 a_t_slotsE_1 a_t_slotsE_2 a_t_slotsE_3 a_t_slotsE_numbers_0 a_t_slotsE_numbers_1 a_t_slotsE_numbers_2 a_t_slotsE_numbers_3 a_t_told : Nat) (g_t_0 : Value) (g_t_1 : Value) (g_t_2 : Value) (g_t_3 : Value) (g_t_4 : Value) (g_t_5 : Value) (g_t_7 : Value) (g_t_8 : Value) (g_t_10 : Value) (g_t_11 : Value) (g_t_13 : Value) (g_t_counts_1 : Value) (g_t_counts_2 : Value) (g_t_counts_3 : Value) (g_t_counts_4 : Value) (g_t_counts_10 : Value) (g_t_counts_11 : Value) (g_t_counts_12 : Value) (g_t_counts_13 : Value) (g_t_slotsE_1 : Nat → Value) (c_counts_size : Int) (c_counts_least : Int) (c_counts_most : Int) (c_counts_counted : Int → Int) (c_counts_leasts : Int → Int) (c_counts_mosts : Int → Int) (c_counts_paces : Int → Int) (c_counts_ways : Int → Int) (c_slotsE_held : Int → Int) (c_slotsE_size : Int → Int) (c_slotsE_numbers : Int → Int → Int) (c_told_above : Int) (c_told_below : Int) : va_W := [(a_t, .inr (8, [g_t_0, g_t_1, g_t_2, g_t_3, g_t_4, g_t_5, .ref a_t_slots, g_t_7, g_t_8, .ref a_t_counts, g_t_10, g_t_11, .ref a_t_told, g_t_13])), (a_t_counts, .inr (0, [.int (wI c_counts_size), g_t_counts_1, g_t_counts_2, g_t_counts_3, g_t_counts_4, .ref a_t_counts_paces, .ref a_t_counts_ways, .ref a_t_counts_counted, .ref a_t_counts_leasts, .ref a_t_counts_mosts, g_t_counts_10, g_t_counts_11, g_t_counts_12, g_t_counts_13, .int (wI c_counts_least), .int (wI c_counts_most)])), (a_t_counts_counted, .inl (cy 1, 20, .inl (aI c_counts_counted))), (a_t_counts_leasts, .inl (cy 1, 31, .inl (aI c_counts_leasts))), (a_t_counts_mosts, .inl (cy 1, 31, .inl (aI c_counts_mosts))), (a_t_counts_paces, .inl (cy 1, 20, .inl (aI c_counts_paces))), (a_t_counts_ways, .inl (cy 1, 20, .inl (aI c_counts_ways))), (a_t_slots, .inl (cy 5, 4, .inr (.inr (.inr (.inr (selO [a_t_slotsE_0, a_t_slotsE_1, a_t_slotsE_2, a_t_slotsE_3])))))), (a_t_slotsE_0, .inr (5, [.int (wI (c_slotsE_held 0)), g_t_slotsE_1 0, .int (wI (c_slotsE_size 0)), .ref a_t_slotsE_numbers_0])), (a_t_slotsE_1, .inr (5, [.int (wI (c_slotsE_held 1)), g_t_slotsE_1 1, .int (wI (c_slotsE_size 1)), .ref a_t_slotsE_numbers_1])), (a_t_slotsE_2, .inr (5, [.int (wI (c_slotsE_held 2)), g_t_slotsE_1 2, .int (wI (c_slotsE_size 2)), .ref a_t_slotsE_numbers_2])), (a_t_slotsE_3, .inr (5, [.int (wI (c_slotsE_held 3)), g_t_slotsE_1 3, .int (wI (c_slotsE_size 3)), .ref a_t_slotsE_numbers_3])), (a_t_slotsE_numbers_0, .inl (cy 2, 60, .inr (.inl (aJ (c_slotsE_numbers 0))))), (a_t_slotsE_numbers_1, .inl (cy 2, 60, .inr (.inl (aJ (c_slotsE_numbers 1))))), (a_t_slotsE_numbers_2, .inl (cy 2, 60, .inr (.inl (aJ (c_slotsE_numbers 2))))), (a_t_slotsE_numbers_3, .inl (cy 2, 60, .inr (.inl (aJ (c_slotsE_numbers 3))))), (a_t_told, .inr (1, [.long (wJ c_told_above), .long (wJ c_told_below)]))]
def m_X8_quick (F : Nat) (x1 : Int) (x2 : Int) (c_counts_size : Int) (c_counts_least : Int) (c_counts_most : Int) (c_counts_counted : Int → Int) (c_counts_leasts : Int → Int) (c_counts_mosts : Int → Int) (c_counts_paces : Int → Int) (c_counts_ways : Int → Int) (c_slotsE_held : Int → Int) (c_slotsE_size : Int → Int) (c_slotsE_numbers : Int → Int → Int) (c_told_above : Int) (c_told_below : Int) : Option (Int × Int × Int × Int × (Int → Int) × (Int → Int) × (Int → Int) × (Int → Int) × (Int → Int) × Int × Int) :=
  bnd9 (m_X8_openTwoCounts F x1 x2 c_counts_size c_counts_least c_counts_most c_counts_counted c_counts_leasts c_counts_mosts c_counts_paces c_counts_ways c_slotsE_held c_slotsE_size c_slotsE_numbers) fun r1 o2 o3 o4 o5 o6 o7 o8 o9 => if wI r1 = wI 0 then
    (bnd3 (m_X0_solveSpeed F o5 o8 o9) fun r11 o12 o13 => if wI r11 = wI 0 then
    (some ((-1), o2, o3, o4, o5, o6, o7, o8, o9, o12, o13))
  else
    (bnd1 (m_X1_side F x2 o12 o13) fun r15 => some (r15, o2, o3, o4, o5, o6, o7, o8, o9, o12, o13)))
  else
    (chk (r32 r1) <| some (r1, o2, o3, o4, o5, o6, o7, o8, o9, c_told_above, c_told_below))
section S_X8_quick
variable {E : EE} {a_t a_t_counts a_t_counts_counted a_t_counts_leasts a_t_counts_mosts a_t_counts_paces a_t_counts_ways a_t_slots a_t_slotsE_0 a_t_slotsE_1 a_t_slotsE_2 a_t_slotsE_3 a_t_slotsE_numbers_0 a_t_slotsE_numbers_1 a_t_slotsE_numbers_2 a_t_slotsE_numbers_3 a_t_told : Nat} {g_t_0 : Value} {g_t_1 : Value} {g_t_2 : Value} {g_t_3 : Value} {g_t_4 : Value} {g_t_5 : Value} {g_t_7 : Value} {g_t_8 : Value} {g_t_10 : Value} {g_t_11 : Value} {g_t_13 : Value} {g_t_counts_1 : Value} {g_t_counts_2 : Value} {g_t_counts_3 : Value} {g_t_counts_4 : Value} {g_t_counts_10 : Value} {g_t_counts_11 : Value} {g_t_counts_12 : Value} {g_t_counts_13 : Value} {g_t_slotsE_1 : Nat → Value}
set_option maxRecDepth 100000 in
set_option maxHeartbeats 4000000 in
theorem wm_X8_quick {F : Nat} {v : Int × Int × Int × Int × (Int → Int) × (Int → Int) × (Int → Int) × (Int → Int) × (Int → Int) × Int × Int} {x1 : Int} {x2 : Int} {c_counts_size : Int} {c_counts_least : Int} {c_counts_most : Int} {c_counts_counted : Int → Int} {c_counts_leasts : Int → Int} {c_counts_mosts : Int → Int} {c_counts_paces : Int → Int} {c_counts_ways : Int → Int} {c_slotsE_held : Int → Int} {c_slotsE_size : Int → Int} {c_slotsE_numbers : Int → Int → Int} {c_told_above : Int} {c_told_below : Int} (C : Cx E cX8_quick RX8 { frames := 6, cells := 0, slots := 0, locals := 136 }) (hN : eN E = 4) (h : m_X8_quick F x1 x2 c_counts_size c_counts_least c_counts_most c_counts_counted c_counts_leasts c_counts_mosts c_counts_paces c_counts_ways c_slotsE_held c_slotsE_size c_slotsE_numbers c_told_above c_told_below = some v) (hret : ∀ (pc : Nat) (L : List (Option Value)), decode cX8_quick pc = .ok (.lreturn, 1) → GG E 0 0 (W_X8_quick (eCy E) a_t a_t_counts a_t_counts_counted a_t_counts_leasts a_t_counts_mosts a_t_counts_paces a_t_counts_ways a_t_slots a_t_slotsE_0 a_t_slotsE_1 a_t_slotsE_2 a_t_slotsE_3 a_t_slotsE_numbers_0 a_t_slotsE_numbers_1 a_t_slotsE_numbers_2 a_t_slotsE_numbers_3 a_t_told g_t_0 g_t_1 g_t_2 g_t_3 g_t_4 g_t_5 g_t_7 g_t_8 g_t_10 g_t_11 g_t_13 g_t_counts_1 g_t_counts_2 g_t_counts_3 g_t_counts_4 g_t_counts_10 g_t_counts_11 g_t_counts_12 g_t_counts_13 g_t_slotsE_1 (v.2.1) (v.2.2.1) (v.2.2.2.1) (v.2.2.2.2.1) (v.2.2.2.2.2.1) (v.2.2.2.2.2.2.1) (v.2.2.2.2.2.2.2.1) (v.2.2.2.2.2.2.2.2.1) c_slotsE_held c_slotsE_size c_slotsE_numbers (v.2.2.2.2.2.2.2.2.2.1) (v.2.2.2.2.2.2.2.2.2.2)) L pc [.long (wJ (v.1))]) : GG E 0 0 (W_X8_quick (eCy E) a_t a_t_counts a_t_counts_counted a_t_counts_leasts a_t_counts_mosts a_t_counts_paces a_t_counts_ways a_t_slots a_t_slotsE_0 a_t_slotsE_1 a_t_slotsE_2 a_t_slotsE_3 a_t_slotsE_numbers_0 a_t_slotsE_numbers_1 a_t_slotsE_numbers_2 a_t_slotsE_numbers_3 a_t_told g_t_0 g_t_1 g_t_2 g_t_3 g_t_4 g_t_5 g_t_7 g_t_8 g_t_10 g_t_11 g_t_13 g_t_counts_1 g_t_counts_2 g_t_counts_3 g_t_counts_4 g_t_counts_10 g_t_counts_11 g_t_counts_12 g_t_counts_13 g_t_slotsE_1 c_counts_size c_counts_least c_counts_most c_counts_counted c_counts_leasts c_counts_mosts c_counts_paces c_counts_ways c_slotsE_held c_slotsE_size c_slotsE_numbers c_told_above c_told_below) [some (.ref a_t), some (.int (wI x1)), some (.int (wI x2)), none] 0 [] := by
  unfold m_X8_quick at h
  refine g_aload_n 0 C dX8_quick_0 rfl rfl ?_
  refine g_iload_n 1 C dX8_quick_1 rfl rfl ?_
  refine g_iload_n 2 C dX8_quick_2 rfl rfl ?_
  obtain ⟨r1, o2, o3, o4, o5, o6, o7, o8, o9, hr10, h⟩ := bnd9_some h
  refine g_callI [0, 1, 2, 3, 4, 5, 6, 7, 8, 9, 10, 11, 12, 13, 14, 15] [16] [1, 2, 3, 4, 5, 6, 7, 8, 9, 10, 11, 12, 13, 14, 15, 16, 0] C mt_X8_290 (c_X8_openTwoCounts _ _ _ _ a_t a_t_counts a_t_counts_counted a_t_counts_leasts a_t_counts_mosts a_t_counts_paces a_t_counts_ways a_t_slots a_t_slotsE_0 a_t_slotsE_1 a_t_slotsE_2 a_t_slotsE_3 a_t_slotsE_numbers_0 a_t_slotsE_numbers_1 a_t_slotsE_numbers_2 a_t_slotsE_numbers_3 (g_t_0) (g_t_1) (g_t_2) (g_t_3) (g_t_4) (g_t_5) (g_t_7) (g_t_8) (g_t_10) (g_t_11) (.ref a_t_told) (g_t_13) (g_t_counts_1) (g_t_counts_2) (g_t_counts_3) (g_t_counts_4) (g_t_counts_10) (g_t_counts_11) (g_t_counts_12) (g_t_counts_13) (selV [g_t_slotsE_1 0, g_t_slotsE_1 1, g_t_slotsE_1 2, g_t_slotsE_1 3]) x1 x2 c_counts_size c_counts_least c_counts_most c_counts_counted c_counts_leasts c_counts_mosts c_counts_paces c_counts_ways c_slotsE_held c_slotsE_size c_slotsE_numbers F hr10) (q0 := 0) rfl (ci := 8) rfl rfl rfl (ws2 := (W_X8_quick (eCy E) a_t a_t_counts a_t_counts_counted a_t_counts_leasts a_t_counts_mosts a_t_counts_paces a_t_counts_ways a_t_slots a_t_slotsE_0 a_t_slotsE_1 a_t_slotsE_2 a_t_slotsE_3 a_t_slotsE_numbers_0 a_t_slotsE_numbers_1 a_t_slotsE_numbers_2 a_t_slotsE_numbers_3 a_t_told g_t_0 g_t_1 g_t_2 g_t_3 g_t_4 g_t_5 g_t_7 g_t_8 g_t_10 g_t_11 g_t_13 g_t_counts_1 g_t_counts_2 g_t_counts_3 g_t_counts_4 g_t_counts_10 g_t_counts_11 g_t_counts_12 g_t_counts_13 g_t_slotsE_1 o2 o3 o4 o5 o6 o7 o8 o9 c_slotsE_held c_slotsE_size c_slotsE_numbers c_told_above c_told_below)) rfl rfl rfl (rest := []) rfl rfl rfl dX8_quick_3 ?_
  refine g_istore_n 3 C hN dX8_quick_6 rfl rfl (L' := [some (.ref a_t), some (.int (wI x1)), some (.int (wI x2)), some (.int (wI r1))]) rfl ?_
  refine g_iload_n 3 C dX8_quick_7 rfl rfl ?_
  refine g_if_eq 14 C dX8_quick_8 (by decide) h (fun h => ?_) (fun h => ?_)
  · refine g_aload_n 0 C dX8_quick_14 rfl rfl ?_
    refine g_get C fg_X8_57 0 rfl rfl dX8_quick_15 ?_
    refine g_aload_n 0 C dX8_quick_18 rfl rfl ?_
    refine g_get C fg_X8_78 0 rfl rfl dX8_quick_19 ?_
    obtain ⟨r11, o12, o13, hr14, h⟩ := bnd3_some h
    refine g_callI [1, 16, 2, 5, 6] [0, 3, 4, 7, 8, 9, 10, 11, 12, 13, 14, 15] [0, 12, 14, 1, 2, 15, 16, 3, 4, 5, 6, 7, 8, 9, 10, 11, 13] C mt_X8_297 (c_X0_solveSpeed _ _ _ _ a_t_counts a_t_told a_t_counts_counted a_t_counts_paces a_t_counts_ways (.int (wI o2)) (g_t_counts_1) (g_t_counts_2) (g_t_counts_3) (g_t_counts_4) (.ref a_t_counts_leasts) (.ref a_t_counts_mosts) (g_t_counts_10) (g_t_counts_11) (g_t_counts_12) (g_t_counts_13) (.int (wI o3)) (.int (wI o4)) c_told_above c_told_below o5 o8 o9 F hr14) (q0 := 0) rfl (ci := 0) rfl rfl rfl (ws2 := (W_X8_quick (eCy E) a_t a_t_counts a_t_counts_counted a_t_counts_leasts a_t_counts_mosts a_t_counts_paces a_t_counts_ways a_t_slots a_t_slotsE_0 a_t_slotsE_1 a_t_slotsE_2 a_t_slotsE_3 a_t_slotsE_numbers_0 a_t_slotsE_numbers_1 a_t_slotsE_numbers_2 a_t_slotsE_numbers_3 a_t_told g_t_0 g_t_1 g_t_2 g_t_3 g_t_4 g_t_5 g_t_7 g_t_8 g_t_10 g_t_11 g_t_13 g_t_counts_1 g_t_counts_2 g_t_counts_3 g_t_counts_4 g_t_counts_10 g_t_counts_11 g_t_counts_12 g_t_counts_13 g_t_slotsE_1 o2 o3 o4 o5 o6 o7 o8 o9 c_slotsE_held c_slotsE_size c_slotsE_numbers o12 o13)) rfl rfl rfl (rest := []) rfl rfl rfl dX8_quick_22 ?_
    refine g_if_eq 39 C dX8_quick_25 (by decide) h (fun h => ?_) (fun h => ?_)
    · refine g_ldc2 (v := -1) C mc_X8_146 dX8_quick_39 ?_
      cases h
      exact hret 42 _ dX8_quick_42
    · refine g_aload_n 0 C dX8_quick_28 rfl rfl ?_
      refine g_get C fg_X8_78 0 rfl rfl dX8_quick_29 ?_
      refine g_iload_n 2 C dX8_quick_32 rfl rfl ?_
      obtain ⟨r15, hr16, h⟩ := bnd1_some h
      refine g_callJ [16] [0, 1, 2, 3, 4, 5, 6, 7, 8, 9, 10, 11, 12, 13, 14, 15] [0, 1, 2, 3, 4, 5, 6, 7, 8, 9, 10, 11, 12, 13, 14, 15, 16] C mt_X8_142 (c_X1_side _ _ _ _ a_t_told x2 o12 o13 F hr16) (q0 := 0) rfl (ci := 1) rfl rfl rfl (ws2 := (W_X8_quick (eCy E) a_t a_t_counts a_t_counts_counted a_t_counts_leasts a_t_counts_mosts a_t_counts_paces a_t_counts_ways a_t_slots a_t_slotsE_0 a_t_slotsE_1 a_t_slotsE_2 a_t_slotsE_3 a_t_slotsE_numbers_0 a_t_slotsE_numbers_1 a_t_slotsE_numbers_2 a_t_slotsE_numbers_3 a_t_told g_t_0 g_t_1 g_t_2 g_t_3 g_t_4 g_t_5 g_t_7 g_t_8 g_t_10 g_t_11 g_t_13 g_t_counts_1 g_t_counts_2 g_t_counts_3 g_t_counts_4 g_t_counts_10 g_t_counts_11 g_t_counts_12 g_t_counts_13 g_t_slotsE_1 o2 o3 o4 o5 o6 o7 o8 o9 c_slotsE_held c_slotsE_size c_slotsE_numbers o12 o13)) rfl rfl rfl (rest := []) rfl rfl rfl dX8_quick_33 ?_
      refine g_goto (tgt := 42) C dX8_quick_36 (by decide) ?_
      cases h
      exact hret 42 _ dX8_quick_42
  · refine g_iload_n 3 C dX8_quick_11 rfl rfl ?_
    obtain ⟨hc11, h⟩ := chk_some h
    refine g_i2l C dX8_quick_12 hc11 ?_
    cases h
    exact hret 13 _ dX8_quick_13
end S_X8_quick
set_option maxRecDepth 100000 in
set_option maxHeartbeats 4000000 in
theorem c_X8_quick (l : Launch) (D : va_G) (cy : Nat → ClassId) (ad : AD) (a_t a_t_counts a_t_counts_counted a_t_counts_leasts a_t_counts_mosts a_t_counts_paces a_t_counts_ways a_t_slots a_t_slotsE_0 a_t_slotsE_1 a_t_slotsE_2 a_t_slotsE_3 a_t_slotsE_numbers_0 a_t_slotsE_numbers_1 a_t_slotsE_numbers_2 a_t_slotsE_numbers_3 a_t_told : Nat) (g_t_0 : Value) (g_t_1 : Value) (g_t_2 : Value) (g_t_3 : Value) (g_t_4 : Value) (g_t_5 : Value) (g_t_7 : Value) (g_t_8 : Value) (g_t_10 : Value) (g_t_11 : Value) (g_t_13 : Value) (g_t_counts_1 : Value) (g_t_counts_2 : Value) (g_t_counts_3 : Value) (g_t_counts_4 : Value) (g_t_counts_10 : Value) (g_t_counts_11 : Value) (g_t_counts_12 : Value) (g_t_counts_13 : Value) (g_t_slotsE_1 : Nat → Value) (x1 : Int) (x2 : Int) (c_counts_size : Int) (c_counts_least : Int) (c_counts_most : Int) (c_counts_counted : Int → Int) (c_counts_leasts : Int → Int) (c_counts_mosts : Int → Int) (c_counts_paces : Int → Int) (c_counts_ways : Int → Int) (c_slotsE_held : Int → Int) (c_slotsE_size : Int → Int) (c_slotsE_numbers : Int → Int → Int) (c_told_above : Int) (c_told_below : Int) (F : Nat) {v : Int × Int × Int × Int × (Int → Int) × (Int → Int) × (Int → Int) × (Int → Int) × (Int → Int) × Int × Int} (h : m_X8_quick F x1 x2 c_counts_size c_counts_least c_counts_most c_counts_counted c_counts_leasts c_counts_mosts c_counts_paces c_counts_ways c_slotsE_held c_slotsE_size c_slotsE_numbers c_told_above c_told_below = some v) : Ct l yX8_quick cX8_quick 4 (some .long) { frames := 6, cells := 0, slots := 0, locals := 136 } D cy ad [.ref a_t, .int (wI x1), .int (wI x2)] (W_X8_quick cy a_t a_t_counts a_t_counts_counted a_t_counts_leasts a_t_counts_mosts a_t_counts_paces a_t_counts_ways a_t_slots a_t_slotsE_0 a_t_slotsE_1 a_t_slotsE_2 a_t_slotsE_3 a_t_slotsE_numbers_0 a_t_slotsE_numbers_1 a_t_slotsE_numbers_2 a_t_slotsE_numbers_3 a_t_told g_t_0 g_t_1 g_t_2 g_t_3 g_t_4 g_t_5 g_t_7 g_t_8 g_t_10 g_t_11 g_t_13 g_t_counts_1 g_t_counts_2 g_t_counts_3 g_t_counts_4 g_t_counts_10 g_t_counts_11 g_t_counts_12 g_t_counts_13 g_t_slotsE_1 c_counts_size c_counts_least c_counts_most c_counts_counted c_counts_leasts c_counts_mosts c_counts_paces c_counts_ways c_slotsE_held c_slotsE_size c_slotsE_numbers c_told_above c_told_below) (W_X8_quick cy a_t a_t_counts a_t_counts_counted a_t_counts_leasts a_t_counts_mosts a_t_counts_paces a_t_counts_ways a_t_slots a_t_slotsE_0 a_t_slotsE_1 a_t_slotsE_2 a_t_slotsE_3 a_t_slotsE_numbers_0 a_t_slotsE_numbers_1 a_t_slotsE_numbers_2 a_t_slotsE_numbers_3 a_t_told g_t_0 g_t_1 g_t_2 g_t_3 g_t_4 g_t_5 g_t_7 g_t_8 g_t_10 g_t_11 g_t_13 g_t_counts_1 g_t_counts_2 g_t_counts_3 g_t_counts_4 g_t_counts_10 g_t_counts_11 g_t_counts_12 g_t_counts_13 g_t_slotsE_1 (v.2.1) (v.2.2.1) (v.2.2.2.1) (v.2.2.2.2.1) (v.2.2.2.2.2.1) (v.2.2.2.2.2.2.1) (v.2.2.2.2.2.2.2.1) (v.2.2.2.2.2.2.2.2.1) c_slotsE_held c_slotsE_size c_slotsE_numbers (v.2.2.2.2.2.2.2.2.2.1) (v.2.2.2.2.2.2.2.2.2.2)) (some (.long (wJ (v.1)))) := by
  refine Ct.introJ (j := 1) (plainFor_of_name (by decide)) rfl rfl (fun E C e1 e2 e3 e4 e5 hret => ?_)
  subst e1; subst e2; subst e3; subst e4
  exact wm_X8_quick C e5 h hret
-- MovingStair.hasFlow(I)Z
def W_X8_hasFlow (cy : Nat → ClassId) (a_t a_t_now : Nat) (g_t_0 : Value) (g_t_1 : Value) (g_t_2 : Value) (g_t_4 : Value) (g_t_5 : Value) (g_t_6 : Value) (g_t_7 : Value) (g_t_8 : Value) (g_t_9 : Value) (g_t_10 : Value) (g_t_11 : Value) (g_t_12 : Value) (g_t_13 : Value) (g_t_now_0 : Value) (g_t_now_1 : Value) (g_t_now_3 : Value) (g_t_now_4 : Value) (g_t_now_5 : Value) (g_t_now_6 : Value) (g_t_now_7 : Value) (g_t_now_8 : Value) (g_t_now_10 : Value) (g_t_now_11 : Value) (g_t_now_12 : Value) (g_t_now_13 : Value) (g_t_now_14 : Value) (g_t_now_15 : Value) (g_t_now_16 : Value) (c_now_parts : Int) (c_now_sided : Int) : va_W := [(a_t, .inr (8, [g_t_0, g_t_1, g_t_2, .ref a_t_now, g_t_4, g_t_5, g_t_6, g_t_7, g_t_8, g_t_9, g_t_10, g_t_11, g_t_12, g_t_13])), (a_t_now, .inr (2, [g_t_now_0, g_t_now_1, .int (wI c_now_parts), g_t_now_3, g_t_now_4, g_t_now_5, g_t_now_6, g_t_now_7, g_t_now_8, .int (wI c_now_sided), g_t_now_10, g_t_now_11, g_t_now_12, g_t_now_13, g_t_now_14, g_t_now_15, g_t_now_16]))]
def m_X8_hasFlow (F : Nat) (x1 : Int) (c_now_parts : Int) (c_now_sided : Int) : Option (Int) :=
  bnd1 (m_X2_hasPart F x1 c_now_parts) fun r1 => if wI r1 = wI 0 then
    (some 0)
  else
    (if wI c_now_sided = wI 0 then
    (some 0)
  else
    (some 1))
section S_X8_hasFlow
variable {E : EE} {a_t a_t_now : Nat} {g_t_0 : Value} {g_t_1 : Value} {g_t_2 : Value} {g_t_4 : Value} {g_t_5 : Value} {g_t_6 : Value} {g_t_7 : Value} {g_t_8 : Value} {g_t_9 : Value} {g_t_10 : Value} {g_t_11 : Value} {g_t_12 : Value} {g_t_13 : Value} {g_t_now_0 : Value} {g_t_now_1 : Value} {g_t_now_3 : Value} {g_t_now_4 : Value} {g_t_now_5 : Value} {g_t_now_6 : Value} {g_t_now_7 : Value} {g_t_now_8 : Value} {g_t_now_10 : Value} {g_t_now_11 : Value} {g_t_now_12 : Value} {g_t_now_13 : Value} {g_t_now_14 : Value} {g_t_now_15 : Value} {g_t_now_16 : Value}
set_option maxRecDepth 100000 in
set_option maxHeartbeats 4000000 in
theorem wm_X8_hasFlow {F : Nat} {v : Int} {x1 : Int} {c_now_parts : Int} {c_now_sided : Int} (C : Cx E cX8_hasFlow RX8 { frames := 1, cells := 0, slots := 0, locals := 21 }) (hN : eN E = 2) (h : m_X8_hasFlow F x1 c_now_parts c_now_sided = some v) (hret : ∀ (pc : Nat) (L : List (Option Value)), narrow .boolean (.int (wI v)) = .int (wI v) → decode cX8_hasFlow pc = .ok (.ireturn, 1) → GG E 0 0 (W_X8_hasFlow (eCy E) a_t a_t_now g_t_0 g_t_1 g_t_2 g_t_4 g_t_5 g_t_6 g_t_7 g_t_8 g_t_9 g_t_10 g_t_11 g_t_12 g_t_13 g_t_now_0 g_t_now_1 g_t_now_3 g_t_now_4 g_t_now_5 g_t_now_6 g_t_now_7 g_t_now_8 g_t_now_10 g_t_now_11 g_t_now_12 g_t_now_13 g_t_now_14 g_t_now_15 g_t_now_16 c_now_parts c_now_sided) L pc [.int (wI v)]) : GG E 0 0 (W_X8_hasFlow (eCy E) a_t a_t_now g_t_0 g_t_1 g_t_2 g_t_4 g_t_5 g_t_6 g_t_7 g_t_8 g_t_9 g_t_10 g_t_11 g_t_12 g_t_13 g_t_now_0 g_t_now_1 g_t_now_3 g_t_now_4 g_t_now_5 g_t_now_6 g_t_now_7 g_t_now_8 g_t_now_10 g_t_now_11 g_t_now_12 g_t_now_13 g_t_now_14 g_t_now_15 g_t_now_16 c_now_parts c_now_sided) [some (.ref a_t), some (.int (wI x1))] 0 [] := by
  unfold m_X8_hasFlow at h
  refine g_aload_n 0 C dX8_hasFlow_0 rfl rfl ?_
  refine g_get C fg_X8_22 0 rfl rfl dX8_hasFlow_1 ?_
  refine g_iload_n 1 C dX8_hasFlow_4 rfl rfl ?_
  obtain ⟨r1, hr2, h⟩ := bnd1_some h
  refine g_callI [1] [0] [0, 1] C mt_X8_113 (c_X2_hasPart _ _ _ _ a_t_now (g_t_now_0) (g_t_now_1) (g_t_now_3) (g_t_now_4) (g_t_now_5) (g_t_now_6) (g_t_now_7) (g_t_now_8) (.int (wI c_now_sided)) (g_t_now_10) (g_t_now_11) (g_t_now_12) (g_t_now_13) (g_t_now_14) (g_t_now_15) (g_t_now_16) x1 c_now_parts F hr2) (q0 := 0) rfl (ci := 2) rfl rfl rfl (ws2 := (W_X8_hasFlow (eCy E) a_t a_t_now g_t_0 g_t_1 g_t_2 g_t_4 g_t_5 g_t_6 g_t_7 g_t_8 g_t_9 g_t_10 g_t_11 g_t_12 g_t_13 g_t_now_0 g_t_now_1 g_t_now_3 g_t_now_4 g_t_now_5 g_t_now_6 g_t_now_7 g_t_now_8 g_t_now_10 g_t_now_11 g_t_now_12 g_t_now_13 g_t_now_14 g_t_now_15 g_t_now_16 c_now_parts c_now_sided)) rfl rfl rfl (rest := []) rfl rfl rfl dX8_hasFlow_5 ?_
  refine g_if_eq 25 C dX8_hasFlow_8 (by decide) h (fun h => ?_) (fun h => ?_)
  · refine g_iconst C dX8_hasFlow_25 ?_
    cases h
    exact hret 26 _ bn0 dX8_hasFlow_26
  · refine g_aload_n 0 C dX8_hasFlow_11 rfl rfl ?_
    refine g_get C fg_X8_22 0 rfl rfl dX8_hasFlow_12 ?_
    refine g_get C fg_X8_331 1 rfl rfl dX8_hasFlow_15 ?_
    refine g_st (st' := [.int (wI c_now_sided)]) rfl ?_
    refine g_if_eq 25 C dX8_hasFlow_18 (by decide) h (fun h => ?_) (fun h => ?_)
    · refine g_iconst C dX8_hasFlow_25 ?_
      cases h
      exact hret 26 _ bn0 dX8_hasFlow_26
    · refine g_iconst C dX8_hasFlow_21 ?_
      refine g_goto (tgt := 26) C dX8_hasFlow_22 (by decide) ?_
      cases h
      exact hret 26 _ bn1 dX8_hasFlow_26
end S_X8_hasFlow
set_option maxRecDepth 100000 in
set_option maxHeartbeats 4000000 in
theorem c_X8_hasFlow (l : Launch) (D : va_G) (cy : Nat → ClassId) (ad : AD) (a_t a_t_now : Nat) (g_t_0 : Value) (g_t_1 : Value) (g_t_2 : Value) (g_t_4 : Value) (g_t_5 : Value) (g_t_6 : Value) (g_t_7 : Value) (g_t_8 : Value) (g_t_9 : Value) (g_t_10 : Value) (g_t_11 : Value) (g_t_12 : Value) (g_t_13 : Value) (g_t_now_0 : Value) (g_t_now_1 : Value) (g_t_now_3 : Value) (g_t_now_4 : Value) (g_t_now_5 : Value) (g_t_now_6 : Value) (g_t_now_7 : Value) (g_t_now_8 : Value) (g_t_now_10 : Value) (g_t_now_11 : Value) (g_t_now_12 : Value) (g_t_now_13 : Value) (g_t_now_14 : Value) (g_t_now_15 : Value) (g_t_now_16 : Value) (x1 : Int) (c_now_parts : Int) (c_now_sided : Int) (F : Nat) {v : Int} (h : m_X8_hasFlow F x1 c_now_parts c_now_sided = some v) : Ct l yX8_hasFlow cX8_hasFlow 2 (some .boolean) { frames := 1, cells := 0, slots := 0, locals := 21 } D cy ad [.ref a_t, .int (wI x1)] (W_X8_hasFlow cy a_t a_t_now g_t_0 g_t_1 g_t_2 g_t_4 g_t_5 g_t_6 g_t_7 g_t_8 g_t_9 g_t_10 g_t_11 g_t_12 g_t_13 g_t_now_0 g_t_now_1 g_t_now_3 g_t_now_4 g_t_now_5 g_t_now_6 g_t_now_7 g_t_now_8 g_t_now_10 g_t_now_11 g_t_now_12 g_t_now_13 g_t_now_14 g_t_now_15 g_t_now_16 c_now_parts c_now_sided) (W_X8_hasFlow cy a_t a_t_now g_t_0 g_t_1 g_t_2 g_t_4 g_t_5 g_t_6 g_t_7 g_t_8 g_t_9 g_t_10 g_t_11 g_t_12 g_t_13 g_t_now_0 g_t_now_1 g_t_now_3 g_t_now_4 g_t_now_5 g_t_now_6 g_t_now_7 g_t_now_8 g_t_now_10 g_t_now_11 g_t_now_12 g_t_now_13 g_t_now_14 g_t_now_15 g_t_now_16 c_now_parts c_now_sided) (some (.int (wI v))) := by
  refine Ct.introZ (j := 0) (plainFor_of_name (by decide)) rfl rfl (fun E C e1 e2 e3 e4 e5 hret => ?_)
  subst e1; subst e2; subst e3; subst e4
  exact wm_X8_hasFlow C e5 h hret
-- MovingStair.stand(II)J
def W_X8_stand (cy : Nat → ClassId) (a_t a_t_now a_t_now_speeds a_t_told : Nat) (g_t_0 : Value) (g_t_1 : Value) (g_t_2 : Value) (g_t_4 : Value) (g_t_5 : Value) (g_t_6 : Value) (g_t_7 : Value) (g_t_8 : Value) (g_t_9 : Value) (g_t_10 : Value) (g_t_11 : Value) (g_t_13 : Value) (g_t_now_0 : Value) (g_t_now_1 : Value) (g_t_now_3 : Value) (g_t_now_5 : Value) (g_t_now_6 : Value) (g_t_now_7 : Value) (g_t_now_8 : Value) (g_t_now_11 : Value) (g_t_now_12 : Value) (g_t_now_13 : Value) (g_t_now_14 : Value) (g_t_now_15 : Value) (g_t_now_16 : Value) (c_now_parts : Int) (c_now_sided : Int) (c_now_sideStand : Int) (c_now_speeds : Int → Int) (c_told_above : Int) (c_told_below : Int) : va_W := [(a_t, .inr (8, [g_t_0, g_t_1, g_t_2, .ref a_t_now, g_t_4, g_t_5, g_t_6, g_t_7, g_t_8, g_t_9, g_t_10, g_t_11, .ref a_t_told, g_t_13])), (a_t_now, .inr (2, [g_t_now_0, g_t_now_1, .int (wI c_now_parts), g_t_now_3, .ref a_t_now_speeds, g_t_now_5, g_t_now_6, g_t_now_7, g_t_now_8, .int (wI c_now_sided), .int (wI c_now_sideStand), g_t_now_11, g_t_now_12, g_t_now_13, g_t_now_14, g_t_now_15, g_t_now_16])), (a_t_now_speeds, .inl (cy 1, 4, .inl (aI c_now_speeds))), (a_t_told, .inr (1, [.long (wJ c_told_above), .long (wJ c_told_below)]))]
def m_X8_stand (F : Nat) (x1 : Int) (x2 : Int) (c_now_parts : Int) (c_now_sided : Int) (c_now_sideStand : Int) (c_now_speeds : Int → Int) (c_told_above : Int) (c_told_below : Int) : Option (Int × Int × Int) :=
  bnd1 (m_X8_hasFlow F x1 c_now_parts c_now_sided) fun r1 => if wI r1 = wI 0 then
    (some ((-2), c_told_above, c_told_below))
  else
    (bnd1 (m_X8_isSide F x2) fun r3 => if wI r3 = wI 0 then
    (some ((-2), c_told_above, c_told_below))
  else
    (chk (0 ≤ x1 ∧ x1 < 4) <| if wI 0 < wI (c_now_speeds x1) then
    (bnd2 (m_X2_putStanding F x1 c_now_sideStand c_now_speeds) fun o6 o7 => bnd1 (m_X1_side F x2 o6 o7) fun r9 => some (r9, o6, o7))
  else
    (some ((-1), c_told_above, c_told_below))))
section S_X8_stand
variable {E : EE} {a_t a_t_now a_t_now_speeds a_t_told : Nat} {g_t_0 : Value} {g_t_1 : Value} {g_t_2 : Value} {g_t_4 : Value} {g_t_5 : Value} {g_t_6 : Value} {g_t_7 : Value} {g_t_8 : Value} {g_t_9 : Value} {g_t_10 : Value} {g_t_11 : Value} {g_t_13 : Value} {g_t_now_0 : Value} {g_t_now_1 : Value} {g_t_now_3 : Value} {g_t_now_5 : Value} {g_t_now_6 : Value} {g_t_now_7 : Value} {g_t_now_8 : Value} {g_t_now_11 : Value} {g_t_now_12 : Value} {g_t_now_13 : Value} {g_t_now_14 : Value} {g_t_now_15 : Value} {g_t_now_16 : Value}
set_option maxRecDepth 100000 in
set_option maxHeartbeats 4000000 in
theorem wm_X8_stand {F : Nat} {v : Int × Int × Int} {x1 : Int} {x2 : Int} {c_now_parts : Int} {c_now_sided : Int} {c_now_sideStand : Int} {c_now_speeds : Int → Int} {c_told_above : Int} {c_told_below : Int} (C : Cx E cX8_stand RX8 { frames := 2, cells := 0, slots := 0, locals := 53 }) (hN : eN E = 3) (h : m_X8_stand F x1 x2 c_now_parts c_now_sided c_now_sideStand c_now_speeds c_told_above c_told_below = some v) (hret : ∀ (pc : Nat) (L : List (Option Value)), decode cX8_stand pc = .ok (.lreturn, 1) → GG E 0 0 (W_X8_stand (eCy E) a_t a_t_now a_t_now_speeds a_t_told g_t_0 g_t_1 g_t_2 g_t_4 g_t_5 g_t_6 g_t_7 g_t_8 g_t_9 g_t_10 g_t_11 g_t_13 g_t_now_0 g_t_now_1 g_t_now_3 g_t_now_5 g_t_now_6 g_t_now_7 g_t_now_8 g_t_now_11 g_t_now_12 g_t_now_13 g_t_now_14 g_t_now_15 g_t_now_16 c_now_parts c_now_sided c_now_sideStand c_now_speeds (v.2.1) (v.2.2)) L pc [.long (wJ (v.1))]) : GG E 0 0 (W_X8_stand (eCy E) a_t a_t_now a_t_now_speeds a_t_told g_t_0 g_t_1 g_t_2 g_t_4 g_t_5 g_t_6 g_t_7 g_t_8 g_t_9 g_t_10 g_t_11 g_t_13 g_t_now_0 g_t_now_1 g_t_now_3 g_t_now_5 g_t_now_6 g_t_now_7 g_t_now_8 g_t_now_11 g_t_now_12 g_t_now_13 g_t_now_14 g_t_now_15 g_t_now_16 c_now_parts c_now_sided c_now_sideStand c_now_speeds c_told_above c_told_below) [some (.ref a_t), some (.int (wI x1)), some (.int (wI x2))] 0 [] := by
  unfold m_X8_stand at h
  refine g_aload_n 0 C dX8_stand_0 rfl rfl ?_
  refine g_iload_n 1 C dX8_stand_1 rfl rfl ?_
  obtain ⟨r1, hr2, h⟩ := bnd1_some h
  refine g_callI [0, 1] [2, 3] [2, 3, 0, 1] C mt_X8_314 (c_X8_hasFlow _ _ _ _ a_t a_t_now (g_t_0) (g_t_1) (g_t_2) (g_t_4) (g_t_5) (g_t_6) (g_t_7) (g_t_8) (g_t_9) (g_t_10) (g_t_11) (.ref a_t_told) (g_t_13) (g_t_now_0) (g_t_now_1) (g_t_now_3) (.ref a_t_now_speeds) (g_t_now_5) (g_t_now_6) (g_t_now_7) (g_t_now_8) (.int (wI c_now_sideStand)) (g_t_now_11) (g_t_now_12) (g_t_now_13) (g_t_now_14) (g_t_now_15) (g_t_now_16) x1 c_now_parts c_now_sided F hr2) (q0 := 0) rfl (ci := 8) rfl rfl rfl (ws2 := (W_X8_stand (eCy E) a_t a_t_now a_t_now_speeds a_t_told g_t_0 g_t_1 g_t_2 g_t_4 g_t_5 g_t_6 g_t_7 g_t_8 g_t_9 g_t_10 g_t_11 g_t_13 g_t_now_0 g_t_now_1 g_t_now_3 g_t_now_5 g_t_now_6 g_t_now_7 g_t_now_8 g_t_now_11 g_t_now_12 g_t_now_13 g_t_now_14 g_t_now_15 g_t_now_16 c_now_parts c_now_sided c_now_sideStand c_now_speeds c_told_above c_told_below)) rfl rfl rfl (rest := []) rfl rfl rfl dX8_stand_2 ?_
  refine g_if_eq 15 C dX8_stand_5 (by decide) h (fun h => ?_) (fun h => ?_)
  · refine g_ldc2 (v := -2) C mc_X8_133 dX8_stand_15 ?_
    cases h
    exact hret 18 _ dX8_stand_18
  · refine g_iload_n 2 C dX8_stand_8 rfl rfl ?_
    obtain ⟨r3, hr4, h⟩ := bnd1_some h
    refine g_callSI [] [0, 1, 2, 3] [0, 1, 2, 3] C mt_X8_117 (c_X8_isSide _ _ _ _ x2 F hr4) rfl rfl (ws2 := (W_X8_stand (eCy E) a_t a_t_now a_t_now_speeds a_t_told g_t_0 g_t_1 g_t_2 g_t_4 g_t_5 g_t_6 g_t_7 g_t_8 g_t_9 g_t_10 g_t_11 g_t_13 g_t_now_0 g_t_now_1 g_t_now_3 g_t_now_5 g_t_now_6 g_t_now_7 g_t_now_8 g_t_now_11 g_t_now_12 g_t_now_13 g_t_now_14 g_t_now_15 g_t_now_16 c_now_parts c_now_sided c_now_sideStand c_now_speeds c_told_above c_told_below)) rfl rfl rfl (rest := []) rfl rfl rfl dX8_stand_9 ?_
    refine g_if_ne 19 C dX8_stand_12 (by decide) h (fun h => ?_) (fun h => ?_)
    · refine g_aload_n 0 C dX8_stand_19 rfl rfl ?_
      refine g_get C fg_X8_22 0 rfl rfl dX8_stand_20 ?_
      refine g_get C fg_X8_124 1 rfl rfl dX8_stand_23 ?_
      refine g_iload_n 1 C dX8_stand_26 rfl rfl ?_
      obtain ⟨hc5, h⟩ := chk_some h
      refine g_iald C 2 rfl hc5 rfl dX8_stand_27 ?_
      refine g_if_gt 35 C dX8_stand_28 (by decide) h (fun h => ?_) (fun h => ?_)
      · refine g_aload_n 0 C dX8_stand_35 rfl rfl ?_
        refine g_get C fg_X8_22 0 rfl rfl dX8_stand_36 ?_
        refine g_iload_n 1 C dX8_stand_39 rfl rfl ?_
        refine g_aload_n 0 C dX8_stand_40 rfl rfl ?_
        refine g_get C fg_X8_78 0 rfl rfl dX8_stand_41 ?_
        obtain ⟨o6, o7, hr8, h⟩ := bnd2_some h
        refine g_callV [1, 3, 2] [0] [0, 1, 3, 2] C mt_X8_317 (c_X2_putStanding _ _ _ _ a_t_now a_t_told a_t_now_speeds (g_t_now_0) (g_t_now_1) (.int (wI c_now_parts)) (g_t_now_3) (g_t_now_5) (g_t_now_6) (g_t_now_7) (g_t_now_8) (.int (wI c_now_sided)) (g_t_now_11) (g_t_now_12) (g_t_now_13) (g_t_now_14) (g_t_now_15) (g_t_now_16) x1 c_now_sideStand c_told_above c_told_below c_now_speeds F hr8) (q0 := 0) rfl (ci := 2) rfl rfl rfl (ws2 := (W_X8_stand (eCy E) a_t a_t_now a_t_now_speeds a_t_told g_t_0 g_t_1 g_t_2 g_t_4 g_t_5 g_t_6 g_t_7 g_t_8 g_t_9 g_t_10 g_t_11 g_t_13 g_t_now_0 g_t_now_1 g_t_now_3 g_t_now_5 g_t_now_6 g_t_now_7 g_t_now_8 g_t_now_11 g_t_now_12 g_t_now_13 g_t_now_14 g_t_now_15 g_t_now_16 c_now_parts c_now_sided c_now_sideStand c_now_speeds o6 o7)) rfl rfl rfl (rest := []) rfl rfl rfl dX8_stand_44 ?_
        refine g_aload_n 0 C dX8_stand_47 rfl rfl ?_
        refine g_get C fg_X8_78 0 rfl rfl dX8_stand_48 ?_
        refine g_iload_n 2 C dX8_stand_51 rfl rfl ?_
        obtain ⟨r9, hr10, h⟩ := bnd1_some h
        refine g_callJ [3] [0, 1, 2] [0, 1, 2, 3] C mt_X8_142 (c_X1_side _ _ _ _ a_t_told x2 o6 o7 F hr10) (q0 := 0) rfl (ci := 1) rfl rfl rfl (ws2 := (W_X8_stand (eCy E) a_t a_t_now a_t_now_speeds a_t_told g_t_0 g_t_1 g_t_2 g_t_4 g_t_5 g_t_6 g_t_7 g_t_8 g_t_9 g_t_10 g_t_11 g_t_13 g_t_now_0 g_t_now_1 g_t_now_3 g_t_now_5 g_t_now_6 g_t_now_7 g_t_now_8 g_t_now_11 g_t_now_12 g_t_now_13 g_t_now_14 g_t_now_15 g_t_now_16 c_now_parts c_now_sided c_now_sideStand c_now_speeds o6 o7)) rfl rfl rfl (rest := []) rfl rfl rfl dX8_stand_52 ?_
        cases h
        exact hret 55 _ dX8_stand_55
      · refine g_ldc2 (v := -1) C mc_X8_146 dX8_stand_31 ?_
        cases h
        exact hret 34 _ dX8_stand_34
    · refine g_ldc2 (v := -2) C mc_X8_133 dX8_stand_15 ?_
      cases h
      exact hret 18 _ dX8_stand_18
end S_X8_stand
set_option maxRecDepth 100000 in
set_option maxHeartbeats 4000000 in
theorem c_X8_stand (l : Launch) (D : va_G) (cy : Nat → ClassId) (ad : AD) (a_t a_t_now a_t_now_speeds a_t_told : Nat) (g_t_0 : Value) (g_t_1 : Value) (g_t_2 : Value) (g_t_4 : Value) (g_t_5 : Value) (g_t_6 : Value) (g_t_7 : Value) (g_t_8 : Value) (g_t_9 : Value) (g_t_10 : Value) (g_t_11 : Value) (g_t_13 : Value) (g_t_now_0 : Value) (g_t_now_1 : Value) (g_t_now_3 : Value) (g_t_now_5 : Value) (g_t_now_6 : Value) (g_t_now_7 : Value) (g_t_now_8 : Value) (g_t_now_11 : Value) (g_t_now_12 : Value) (g_t_now_13 : Value) (g_t_now_14 : Value) (g_t_now_15 : Value) (g_t_now_16 : Value) (x1 : Int) (x2 : Int) (c_now_parts : Int) (c_now_sided : Int) (c_now_sideStand : Int) (c_now_speeds : Int → Int) (c_told_above : Int) (c_told_below : Int) (F : Nat) {v : Int × Int × Int} (h : m_X8_stand F x1 x2 c_now_parts c_now_sided c_now_sideStand c_now_speeds c_told_above c_told_below = some v) : Ct l yX8_stand cX8_stand 3 (some .long) { frames := 2, cells := 0, slots := 0, locals := 53 } D cy ad [.ref a_t, .int (wI x1), .int (wI x2)] (W_X8_stand cy a_t a_t_now a_t_now_speeds a_t_told g_t_0 g_t_1 g_t_2 g_t_4 g_t_5 g_t_6 g_t_7 g_t_8 g_t_9 g_t_10 g_t_11 g_t_13 g_t_now_0 g_t_now_1 g_t_now_3 g_t_now_5 g_t_now_6 g_t_now_7 g_t_now_8 g_t_now_11 g_t_now_12 g_t_now_13 g_t_now_14 g_t_now_15 g_t_now_16 c_now_parts c_now_sided c_now_sideStand c_now_speeds c_told_above c_told_below) (W_X8_stand cy a_t a_t_now a_t_now_speeds a_t_told g_t_0 g_t_1 g_t_2 g_t_4 g_t_5 g_t_6 g_t_7 g_t_8 g_t_9 g_t_10 g_t_11 g_t_13 g_t_now_0 g_t_now_1 g_t_now_3 g_t_now_5 g_t_now_6 g_t_now_7 g_t_now_8 g_t_now_11 g_t_now_12 g_t_now_13 g_t_now_14 g_t_now_15 g_t_now_16 c_now_parts c_now_sided c_now_sideStand c_now_speeds (v.2.1) (v.2.2)) (some (.long (wJ (v.1)))) := by
  refine Ct.introJ (j := 0) (plainFor_of_name (by decide)) rfl rfl (fun E C e1 e2 e3 e4 e5 hret => ?_)
  subst e1; subst e2; subst e3; subst e4
  exact wm_X8_stand C e5 h hret
-- MovingStair.walk(II)J
def W_X8_walk (cy : Nat → ClassId) (a_t a_t_now a_t_now_speeds a_t_told : Nat) (g_t_0 : Value) (g_t_1 : Value) (g_t_2 : Value) (g_t_4 : Value) (g_t_5 : Value) (g_t_6 : Value) (g_t_7 : Value) (g_t_8 : Value) (g_t_9 : Value) (g_t_10 : Value) (g_t_11 : Value) (g_t_13 : Value) (g_t_now_0 : Value) (g_t_now_1 : Value) (g_t_now_3 : Value) (g_t_now_5 : Value) (g_t_now_6 : Value) (g_t_now_7 : Value) (g_t_now_8 : Value) (g_t_now_14 : Value) (g_t_now_15 : Value) (g_t_now_16 : Value) (c_now_parts : Int) (c_now_sided : Int) (c_now_sideStand : Int) (c_now_sideWalk : Int) (c_now_sidePace : Int) (c_now_sideWould : Int) (c_now_speeds : Int → Int) (c_told_above : Int) (c_told_below : Int) : va_W := [(a_t, .inr (8, [g_t_0, g_t_1, g_t_2, .ref a_t_now, g_t_4, g_t_5, g_t_6, g_t_7, g_t_8, g_t_9, g_t_10, g_t_11, .ref a_t_told, g_t_13])), (a_t_now, .inr (2, [g_t_now_0, g_t_now_1, .int (wI c_now_parts), g_t_now_3, .ref a_t_now_speeds, g_t_now_5, g_t_now_6, g_t_now_7, g_t_now_8, .int (wI c_now_sided), .int (wI c_now_sideStand), .int (wI c_now_sideWalk), .int (wI c_now_sidePace), .int (wI c_now_sideWould), g_t_now_14, g_t_now_15, g_t_now_16])), (a_t_now_speeds, .inl (cy 1, 4, .inl (aI c_now_speeds))), (a_t_told, .inr (1, [.long (wJ c_told_above), .long (wJ c_told_below)]))]
def m_X8_walk (F : Nat) (x1 : Int) (x2 : Int) (c_now_parts : Int) (c_now_sided : Int) (c_now_sideStand : Int) (c_now_sideWalk : Int) (c_now_sidePace : Int) (c_now_sideWould : Int) (c_now_speeds : Int → Int) (c_told_above : Int) (c_told_below : Int) : Option (Int × Int × Int) :=
  bnd1 (m_X8_hasFlow F x1 c_now_parts c_now_sided) fun r1 => if wI r1 = wI 0 then
    (some ((-2), c_told_above, c_told_below))
  else
    (bnd1 (m_X8_isSide F x2) fun r3 => if wI r3 = wI 0 then
    (some ((-2), c_told_above, c_told_below))
  else
    (chk (0 ≤ x1 ∧ x1 < 4) <| if wI 0 < wI (c_now_speeds x1) then
    (bnd2 (m_X2_putWalking F x1 c_now_sideWould c_now_sideStand c_now_sideWalk c_now_sidePace c_now_speeds) fun o6 o7 => bnd1 (m_X1_side F x2 o6 o7) fun r9 => some (r9, o6, o7))
  else
    (some ((-1), c_told_above, c_told_below))))
section S_X8_walk
variable {E : EE} {a_t a_t_now a_t_now_speeds a_t_told : Nat} {g_t_0 : Value} {g_t_1 : Value} {g_t_2 : Value} {g_t_4 : Value} {g_t_5 : Value} {g_t_6 : Value} {g_t_7 : Value} {g_t_8 : Value} {g_t_9 : Value} {g_t_10 : Value} {g_t_11 : Value} {g_t_13 : Value} {g_t_now_0 : Value} {g_t_now_1 : Value} {g_t_now_3 : Value} {g_t_now_5 : Value} {g_t_now_6 : Value} {g_t_now_7 : Value} {g_t_now_8 : Value} {g_t_now_14 : Value} {g_t_now_15 : Value} {g_t_now_16 : Value}
set_option maxRecDepth 100000 in
set_option maxHeartbeats 4000000 in
theorem wm_X8_walk {F : Nat} {v : Int × Int × Int} {x1 : Int} {x2 : Int} {c_now_parts : Int} {c_now_sided : Int} {c_now_sideStand : Int} {c_now_sideWalk : Int} {c_now_sidePace : Int} {c_now_sideWould : Int} {c_now_speeds : Int → Int} {c_told_above : Int} {c_told_below : Int} (C : Cx E cX8_walk RX8 { frames := 2, cells := 0, slots := 0, locals := 63 }) (hN : eN E = 3) (h : m_X8_walk F x1 x2 c_now_parts c_now_sided c_now_sideStand c_now_sideWalk c_now_sidePace c_now_sideWould c_now_speeds c_told_above c_told_below = some v) (hret : ∀ (pc : Nat) (L : List (Option Value)), decode cX8_walk pc = .ok (.lreturn, 1) → GG E 0 0 (W_X8_walk (eCy E) a_t a_t_now a_t_now_speeds a_t_told g_t_0 g_t_1 g_t_2 g_t_4 g_t_5 g_t_6 g_t_7 g_t_8 g_t_9 g_t_10 g_t_11 g_t_13 g_t_now_0 g_t_now_1 g_t_now_3 g_t_now_5 g_t_now_6 g_t_now_7 g_t_now_8 g_t_now_14 g_t_now_15 g_t_now_16 c_now_parts c_now_sided c_now_sideStand c_now_sideWalk c_now_sidePace c_now_sideWould c_now_speeds (v.2.1) (v.2.2)) L pc [.long (wJ (v.1))]) : GG E 0 0 (W_X8_walk (eCy E) a_t a_t_now a_t_now_speeds a_t_told g_t_0 g_t_1 g_t_2 g_t_4 g_t_5 g_t_6 g_t_7 g_t_8 g_t_9 g_t_10 g_t_11 g_t_13 g_t_now_0 g_t_now_1 g_t_now_3 g_t_now_5 g_t_now_6 g_t_now_7 g_t_now_8 g_t_now_14 g_t_now_15 g_t_now_16 c_now_parts c_now_sided c_now_sideStand c_now_sideWalk c_now_sidePace c_now_sideWould c_now_speeds c_told_above c_told_below) [some (.ref a_t), some (.int (wI x1)), some (.int (wI x2))] 0 [] := by
  unfold m_X8_walk at h
  refine g_aload_n 0 C dX8_walk_0 rfl rfl ?_
  refine g_iload_n 1 C dX8_walk_1 rfl rfl ?_
  obtain ⟨r1, hr2, h⟩ := bnd1_some h
  refine g_callI [0, 1] [2, 3] [2, 3, 0, 1] C mt_X8_314 (c_X8_hasFlow _ _ _ _ a_t a_t_now (g_t_0) (g_t_1) (g_t_2) (g_t_4) (g_t_5) (g_t_6) (g_t_7) (g_t_8) (g_t_9) (g_t_10) (g_t_11) (.ref a_t_told) (g_t_13) (g_t_now_0) (g_t_now_1) (g_t_now_3) (.ref a_t_now_speeds) (g_t_now_5) (g_t_now_6) (g_t_now_7) (g_t_now_8) (.int (wI c_now_sideStand)) (.int (wI c_now_sideWalk)) (.int (wI c_now_sidePace)) (.int (wI c_now_sideWould)) (g_t_now_14) (g_t_now_15) (g_t_now_16) x1 c_now_parts c_now_sided F hr2) (q0 := 0) rfl (ci := 8) rfl rfl rfl (ws2 := (W_X8_walk (eCy E) a_t a_t_now a_t_now_speeds a_t_told g_t_0 g_t_1 g_t_2 g_t_4 g_t_5 g_t_6 g_t_7 g_t_8 g_t_9 g_t_10 g_t_11 g_t_13 g_t_now_0 g_t_now_1 g_t_now_3 g_t_now_5 g_t_now_6 g_t_now_7 g_t_now_8 g_t_now_14 g_t_now_15 g_t_now_16 c_now_parts c_now_sided c_now_sideStand c_now_sideWalk c_now_sidePace c_now_sideWould c_now_speeds c_told_above c_told_below)) rfl rfl rfl (rest := []) rfl rfl rfl dX8_walk_2 ?_
  refine g_if_eq 15 C dX8_walk_5 (by decide) h (fun h => ?_) (fun h => ?_)
  · refine g_ldc2 (v := -2) C mc_X8_133 dX8_walk_15 ?_
    cases h
    exact hret 18 _ dX8_walk_18
  · refine g_iload_n 2 C dX8_walk_8 rfl rfl ?_
    obtain ⟨r3, hr4, h⟩ := bnd1_some h
    refine g_callSI [] [0, 1, 2, 3] [0, 1, 2, 3] C mt_X8_117 (c_X8_isSide _ _ _ _ x2 F hr4) rfl rfl (ws2 := (W_X8_walk (eCy E) a_t a_t_now a_t_now_speeds a_t_told g_t_0 g_t_1 g_t_2 g_t_4 g_t_5 g_t_6 g_t_7 g_t_8 g_t_9 g_t_10 g_t_11 g_t_13 g_t_now_0 g_t_now_1 g_t_now_3 g_t_now_5 g_t_now_6 g_t_now_7 g_t_now_8 g_t_now_14 g_t_now_15 g_t_now_16 c_now_parts c_now_sided c_now_sideStand c_now_sideWalk c_now_sidePace c_now_sideWould c_now_speeds c_told_above c_told_below)) rfl rfl rfl (rest := []) rfl rfl rfl dX8_walk_9 ?_
    refine g_if_ne 19 C dX8_walk_12 (by decide) h (fun h => ?_) (fun h => ?_)
    · refine g_aload_n 0 C dX8_walk_19 rfl rfl ?_
      refine g_get C fg_X8_22 0 rfl rfl dX8_walk_20 ?_
      refine g_get C fg_X8_124 1 rfl rfl dX8_walk_23 ?_
      refine g_iload_n 1 C dX8_walk_26 rfl rfl ?_
      obtain ⟨hc5, h⟩ := chk_some h
      refine g_iald C 2 rfl hc5 rfl dX8_walk_27 ?_
      refine g_if_gt 35 C dX8_walk_28 (by decide) h (fun h => ?_) (fun h => ?_)
      · refine g_aload_n 0 C dX8_walk_35 rfl rfl ?_
        refine g_get C fg_X8_22 0 rfl rfl dX8_walk_36 ?_
        refine g_iload_n 1 C dX8_walk_39 rfl rfl ?_
        refine g_aload_n 0 C dX8_walk_40 rfl rfl ?_
        refine g_get C fg_X8_22 0 rfl rfl dX8_walk_41 ?_
        refine g_get C fg_X8_321 1 rfl rfl dX8_walk_44 ?_
        refine g_st (st' := [.int (wI c_now_sideWould), .int (wI x1), .ref a_t_now]) rfl ?_
        refine g_aload_n 0 C dX8_walk_47 rfl rfl ?_
        refine g_get C fg_X8_78 0 rfl rfl dX8_walk_48 ?_
        obtain ⟨o6, o7, hr8, h⟩ := bnd2_some h
        refine g_callV [1, 3, 2] [0] [0, 1, 3, 2] C mt_X8_324 (c_X2_putWalking _ _ _ _ a_t_now a_t_told a_t_now_speeds (g_t_now_0) (g_t_now_1) (.int (wI c_now_parts)) (g_t_now_3) (g_t_now_5) (g_t_now_6) (g_t_now_7) (g_t_now_8) (.int (wI c_now_sided)) (.int (wI c_now_sideWould)) (g_t_now_14) (g_t_now_15) (g_t_now_16) x1 c_now_sideWould c_now_sideStand c_now_sideWalk c_now_sidePace c_told_above c_told_below c_now_speeds F hr8) (q0 := 0) rfl (ci := 2) rfl rfl rfl (ws2 := (W_X8_walk (eCy E) a_t a_t_now a_t_now_speeds a_t_told g_t_0 g_t_1 g_t_2 g_t_4 g_t_5 g_t_6 g_t_7 g_t_8 g_t_9 g_t_10 g_t_11 g_t_13 g_t_now_0 g_t_now_1 g_t_now_3 g_t_now_5 g_t_now_6 g_t_now_7 g_t_now_8 g_t_now_14 g_t_now_15 g_t_now_16 c_now_parts c_now_sided c_now_sideStand c_now_sideWalk c_now_sidePace c_now_sideWould c_now_speeds o6 o7)) rfl rfl rfl (rest := []) rfl rfl rfl dX8_walk_51 ?_
        refine g_aload_n 0 C dX8_walk_54 rfl rfl ?_
        refine g_get C fg_X8_78 0 rfl rfl dX8_walk_55 ?_
        refine g_iload_n 2 C dX8_walk_58 rfl rfl ?_
        obtain ⟨r9, hr10, h⟩ := bnd1_some h
        refine g_callJ [3] [0, 1, 2] [0, 1, 2, 3] C mt_X8_142 (c_X1_side _ _ _ _ a_t_told x2 o6 o7 F hr10) (q0 := 0) rfl (ci := 1) rfl rfl rfl (ws2 := (W_X8_walk (eCy E) a_t a_t_now a_t_now_speeds a_t_told g_t_0 g_t_1 g_t_2 g_t_4 g_t_5 g_t_6 g_t_7 g_t_8 g_t_9 g_t_10 g_t_11 g_t_13 g_t_now_0 g_t_now_1 g_t_now_3 g_t_now_5 g_t_now_6 g_t_now_7 g_t_now_8 g_t_now_14 g_t_now_15 g_t_now_16 c_now_parts c_now_sided c_now_sideStand c_now_sideWalk c_now_sidePace c_now_sideWould c_now_speeds o6 o7)) rfl rfl rfl (rest := []) rfl rfl rfl dX8_walk_59 ?_
        cases h
        exact hret 62 _ dX8_walk_62
      · refine g_ldc2 (v := -1) C mc_X8_146 dX8_walk_31 ?_
        cases h
        exact hret 34 _ dX8_walk_34
    · refine g_ldc2 (v := -2) C mc_X8_133 dX8_walk_15 ?_
      cases h
      exact hret 18 _ dX8_walk_18
end S_X8_walk
set_option maxRecDepth 100000 in
set_option maxHeartbeats 4000000 in
theorem c_X8_walk (l : Launch) (D : va_G) (cy : Nat → ClassId) (ad : AD) (a_t a_t_now a_t_now_speeds a_t_told : Nat) (g_t_0 : Value) (g_t_1 : Value) (g_t_2 : Value) (g_t_4 : Value) (g_t_5 : Value) (g_t_6 : Value) (g_t_7 : Value) (g_t_8 : Value) (g_t_9 : Value) (g_t_10 : Value) (g_t_11 : Value) (g_t_13 : Value) (g_t_now_0 : Value) (g_t_now_1 : Value) (g_t_now_3 : Value) (g_t_now_5 : Value) (g_t_now_6 : Value) (g_t_now_7 : Value) (g_t_now_8 : Value) (g_t_now_14 : Value) (g_t_now_15 : Value) (g_t_now_16 : Value) (x1 : Int) (x2 : Int) (c_now_parts : Int) (c_now_sided : Int) (c_now_sideStand : Int) (c_now_sideWalk : Int) (c_now_sidePace : Int) (c_now_sideWould : Int) (c_now_speeds : Int → Int) (c_told_above : Int) (c_told_below : Int) (F : Nat) {v : Int × Int × Int} (h : m_X8_walk F x1 x2 c_now_parts c_now_sided c_now_sideStand c_now_sideWalk c_now_sidePace c_now_sideWould c_now_speeds c_told_above c_told_below = some v) : Ct l yX8_walk cX8_walk 3 (some .long) { frames := 2, cells := 0, slots := 0, locals := 63 } D cy ad [.ref a_t, .int (wI x1), .int (wI x2)] (W_X8_walk cy a_t a_t_now a_t_now_speeds a_t_told g_t_0 g_t_1 g_t_2 g_t_4 g_t_5 g_t_6 g_t_7 g_t_8 g_t_9 g_t_10 g_t_11 g_t_13 g_t_now_0 g_t_now_1 g_t_now_3 g_t_now_5 g_t_now_6 g_t_now_7 g_t_now_8 g_t_now_14 g_t_now_15 g_t_now_16 c_now_parts c_now_sided c_now_sideStand c_now_sideWalk c_now_sidePace c_now_sideWould c_now_speeds c_told_above c_told_below) (W_X8_walk cy a_t a_t_now a_t_now_speeds a_t_told g_t_0 g_t_1 g_t_2 g_t_4 g_t_5 g_t_6 g_t_7 g_t_8 g_t_9 g_t_10 g_t_11 g_t_13 g_t_now_0 g_t_now_1 g_t_now_3 g_t_now_5 g_t_now_6 g_t_now_7 g_t_now_8 g_t_now_14 g_t_now_15 g_t_now_16 c_now_parts c_now_sided c_now_sideStand c_now_sideWalk c_now_sidePace c_now_sideWould c_now_speeds (v.2.1) (v.2.2)) (some (.long (wJ (v.1)))) := by
  refine Ct.introJ (j := 0) (plainFor_of_name (by decide)) rfl rfl (fun E C e1 e2 e3 e4 e5 hret => ?_)
  subst e1; subst e2; subst e3; subst e4
  exact wm_X8_walk C e5 h hret
-- MovingStair.walkingAgainstStanding(II)I
def W_X8_walkingAgainstStanding (cy : Nat → ClassId) (a_t a_t_compared a_t_now a_t_now_speeds a_t_told : Nat) (g_t_0 : Value) (g_t_1 : Value) (g_t_2 : Value) (g_t_4 : Value) (g_t_5 : Value) (g_t_6 : Value) (g_t_7 : Value) (g_t_8 : Value) (g_t_9 : Value) (g_t_10 : Value) (g_t_11 : Value) (g_t_now_0 : Value) (g_t_now_1 : Value) (g_t_now_2 : Value) (g_t_now_3 : Value) (g_t_now_5 : Value) (g_t_now_6 : Value) (g_t_now_7 : Value) (g_t_now_8 : Value) (g_t_now_9 : Value) (g_t_now_13 : Value) (g_t_now_14 : Value) (g_t_now_15 : Value) (g_t_now_16 : Value) (c_compared_above : Int) (c_compared_below : Int) (c_now_sideStand : Int) (c_now_sideWalk : Int) (c_now_sidePace : Int) (c_now_speeds : Int → Int) (c_told_above : Int) (c_told_below : Int) : va_W := [(a_t, .inr (8, [g_t_0, g_t_1, g_t_2, .ref a_t_now, g_t_4, g_t_5, g_t_6, g_t_7, g_t_8, g_t_9, g_t_10, g_t_11, .ref a_t_told, .ref a_t_compared])), (a_t_compared, .inr (1, [.long (wJ c_compared_above), .long (wJ c_compared_below)])), (a_t_now, .inr (2, [g_t_now_0, g_t_now_1, g_t_now_2, g_t_now_3, .ref a_t_now_speeds, g_t_now_5, g_t_now_6, g_t_now_7, g_t_now_8, g_t_now_9, .int (wI c_now_sideStand), .int (wI c_now_sideWalk), .int (wI c_now_sidePace), g_t_now_13, g_t_now_14, g_t_now_15, g_t_now_16])), (a_t_now_speeds, .inl (cy 1, 4, .inl (aI c_now_speeds))), (a_t_told, .inr (1, [.long (wJ c_told_above), .long (wJ c_told_below)]))]
def m_X8_walkingAgainstStanding (F : Nat) (x1 : Int) (x2 : Int) (c_now_sideStand : Int) (c_now_sideWalk : Int) (c_now_sidePace : Int) (c_now_speeds : Int → Int) : Option (Int × Int × Int × Int × Int) :=
  bnd2 (m_X2_putStanding F x1 c_now_sideStand c_now_speeds) fun o1 o2 => bnd2 (m_X2_putWalking F x1 x2 c_now_sideStand c_now_sideWalk c_now_sidePace c_now_speeds) fun o4 o5 => bnd1 (m_X1_against F o4 o5 o1 o2) fun r7 => some (r7, o1, o2, o4, o5)
section S_X8_walkingAgainstStanding
variable {E : EE} {a_t a_t_compared a_t_now a_t_now_speeds a_t_told : Nat} {g_t_0 : Value} {g_t_1 : Value} {g_t_2 : Value} {g_t_4 : Value} {g_t_5 : Value} {g_t_6 : Value} {g_t_7 : Value} {g_t_8 : Value} {g_t_9 : Value} {g_t_10 : Value} {g_t_11 : Value} {g_t_now_0 : Value} {g_t_now_1 : Value} {g_t_now_2 : Value} {g_t_now_3 : Value} {g_t_now_5 : Value} {g_t_now_6 : Value} {g_t_now_7 : Value} {g_t_now_8 : Value} {g_t_now_9 : Value} {g_t_now_13 : Value} {g_t_now_14 : Value} {g_t_now_15 : Value} {g_t_now_16 : Value}
set_option maxRecDepth 100000 in
set_option maxHeartbeats 4000000 in
theorem wm_X8_walkingAgainstStanding {F : Nat} {v : Int × Int × Int × Int × Int} {x1 : Int} {x2 : Int} {c_now_sideStand : Int} {c_now_sideWalk : Int} {c_now_sidePace : Int} {c_now_speeds : Int → Int} {c_compared_above : Int} {c_compared_below : Int} {c_told_above : Int} {c_told_below : Int} (C : Cx E cX8_walkingAgainstStanding RX8 { frames := 2, cells := 0, slots := 0, locals := 64 }) (hN : eN E = 3) (h : m_X8_walkingAgainstStanding F x1 x2 c_now_sideStand c_now_sideWalk c_now_sidePace c_now_speeds = some v) (hret : ∀ (pc : Nat) (L : List (Option Value)), decode cX8_walkingAgainstStanding pc = .ok (.ireturn, 1) → GG E 0 0 (W_X8_walkingAgainstStanding (eCy E) a_t a_t_compared a_t_now a_t_now_speeds a_t_told g_t_0 g_t_1 g_t_2 g_t_4 g_t_5 g_t_6 g_t_7 g_t_8 g_t_9 g_t_10 g_t_11 g_t_now_0 g_t_now_1 g_t_now_2 g_t_now_3 g_t_now_5 g_t_now_6 g_t_now_7 g_t_now_8 g_t_now_9 g_t_now_13 g_t_now_14 g_t_now_15 g_t_now_16 (v.2.1) (v.2.2.1) c_now_sideStand c_now_sideWalk c_now_sidePace c_now_speeds (v.2.2.2.1) (v.2.2.2.2)) L pc [.int (wI (v.1))]) : GG E 0 0 (W_X8_walkingAgainstStanding (eCy E) a_t a_t_compared a_t_now a_t_now_speeds a_t_told g_t_0 g_t_1 g_t_2 g_t_4 g_t_5 g_t_6 g_t_7 g_t_8 g_t_9 g_t_10 g_t_11 g_t_now_0 g_t_now_1 g_t_now_2 g_t_now_3 g_t_now_5 g_t_now_6 g_t_now_7 g_t_now_8 g_t_now_9 g_t_now_13 g_t_now_14 g_t_now_15 g_t_now_16 c_compared_above c_compared_below c_now_sideStand c_now_sideWalk c_now_sidePace c_now_speeds c_told_above c_told_below) [some (.ref a_t), some (.int (wI x1)), some (.int (wI x2))] 0 [] := by
  unfold m_X8_walkingAgainstStanding at h
  refine g_aload_n 0 C dX8_walkingAgainstStanding_0 rfl rfl ?_
  refine g_get C fg_X8_22 0 rfl rfl dX8_walkingAgainstStanding_1 ?_
  refine g_iload_n 1 C dX8_walkingAgainstStanding_4 rfl rfl ?_
  refine g_aload_n 0 C dX8_walkingAgainstStanding_5 rfl rfl ?_
  refine g_get C fg_X8_82 0 rfl rfl dX8_walkingAgainstStanding_6 ?_
  obtain ⟨o1, o2, hr3, h⟩ := bnd2_some h
  refine g_callV [2, 1, 3] [0, 4] [0, 3, 2, 4, 1] C mt_X8_317 (c_X2_putStanding _ _ _ _ a_t_now a_t_compared a_t_now_speeds (g_t_now_0) (g_t_now_1) (g_t_now_2) (g_t_now_3) (g_t_now_5) (g_t_now_6) (g_t_now_7) (g_t_now_8) (g_t_now_9) (.int (wI c_now_sideWalk)) (.int (wI c_now_sidePace)) (g_t_now_13) (g_t_now_14) (g_t_now_15) (g_t_now_16) x1 c_now_sideStand c_compared_above c_compared_below c_now_speeds F hr3) (q0 := 0) rfl (ci := 2) rfl rfl rfl (ws2 := (W_X8_walkingAgainstStanding (eCy E) a_t a_t_compared a_t_now a_t_now_speeds a_t_told g_t_0 g_t_1 g_t_2 g_t_4 g_t_5 g_t_6 g_t_7 g_t_8 g_t_9 g_t_10 g_t_11 g_t_now_0 g_t_now_1 g_t_now_2 g_t_now_3 g_t_now_5 g_t_now_6 g_t_now_7 g_t_now_8 g_t_now_9 g_t_now_13 g_t_now_14 g_t_now_15 g_t_now_16 o1 o2 c_now_sideStand c_now_sideWalk c_now_sidePace c_now_speeds c_told_above c_told_below)) rfl rfl rfl (rest := []) rfl rfl rfl dX8_walkingAgainstStanding_9 ?_
  refine g_aload_n 0 C dX8_walkingAgainstStanding_12 rfl rfl ?_
  refine g_get C fg_X8_22 0 rfl rfl dX8_walkingAgainstStanding_13 ?_
  refine g_iload_n 1 C dX8_walkingAgainstStanding_16 rfl rfl ?_
  refine g_iload_n 2 C dX8_walkingAgainstStanding_17 rfl rfl ?_
  refine g_aload_n 0 C dX8_walkingAgainstStanding_18 rfl rfl ?_
  refine g_get C fg_X8_78 0 rfl rfl dX8_walkingAgainstStanding_19 ?_
  obtain ⟨o4, o5, hr6, h⟩ := bnd2_some h
  refine g_callV [2, 4, 3] [0, 1] [0, 1, 2, 4, 3] C mt_X8_324 (c_X2_putWalking _ _ _ _ a_t_now a_t_told a_t_now_speeds (g_t_now_0) (g_t_now_1) (g_t_now_2) (g_t_now_3) (g_t_now_5) (g_t_now_6) (g_t_now_7) (g_t_now_8) (g_t_now_9) (g_t_now_13) (g_t_now_14) (g_t_now_15) (g_t_now_16) x1 x2 c_now_sideStand c_now_sideWalk c_now_sidePace c_told_above c_told_below c_now_speeds F hr6) (q0 := 0) rfl (ci := 2) rfl rfl rfl (ws2 := (W_X8_walkingAgainstStanding (eCy E) a_t a_t_compared a_t_now a_t_now_speeds a_t_told g_t_0 g_t_1 g_t_2 g_t_4 g_t_5 g_t_6 g_t_7 g_t_8 g_t_9 g_t_10 g_t_11 g_t_now_0 g_t_now_1 g_t_now_2 g_t_now_3 g_t_now_5 g_t_now_6 g_t_now_7 g_t_now_8 g_t_now_9 g_t_now_13 g_t_now_14 g_t_now_15 g_t_now_16 o1 o2 c_now_sideStand c_now_sideWalk c_now_sidePace c_now_speeds o4 o5)) rfl rfl rfl (rest := []) rfl rfl rfl dX8_walkingAgainstStanding_22 ?_
  refine g_aload_n 0 C dX8_walkingAgainstStanding_25 rfl rfl ?_
  refine g_get C fg_X8_78 0 rfl rfl dX8_walkingAgainstStanding_26 ?_
  refine g_aload_n 0 C dX8_walkingAgainstStanding_29 rfl rfl ?_
  refine g_get C fg_X8_82 0 rfl rfl dX8_walkingAgainstStanding_30 ?_
  obtain ⟨r7, hr8, h⟩ := bnd1_some h
  refine g_callI [4, 1] [0, 2, 3] [0, 4, 1, 2, 3] C mt_X8_182 (c_X1_against _ _ _ _ a_t_told a_t_compared o4 o5 o1 o2 F hr8) (q0 := 0) rfl (ci := 1) rfl rfl rfl (ws2 := (W_X8_walkingAgainstStanding (eCy E) a_t a_t_compared a_t_now a_t_now_speeds a_t_told g_t_0 g_t_1 g_t_2 g_t_4 g_t_5 g_t_6 g_t_7 g_t_8 g_t_9 g_t_10 g_t_11 g_t_now_0 g_t_now_1 g_t_now_2 g_t_now_3 g_t_now_5 g_t_now_6 g_t_now_7 g_t_now_8 g_t_now_9 g_t_now_13 g_t_now_14 g_t_now_15 g_t_now_16 o1 o2 c_now_sideStand c_now_sideWalk c_now_sidePace c_now_speeds o4 o5)) rfl rfl rfl (rest := []) rfl rfl rfl dX8_walkingAgainstStanding_33 ?_
  cases h
  exact hret 36 _ dX8_walkingAgainstStanding_36
end S_X8_walkingAgainstStanding
set_option maxRecDepth 100000 in
set_option maxHeartbeats 4000000 in
theorem c_X8_walkingAgainstStanding (l : Launch) (D : va_G) (cy : Nat → ClassId) (ad : AD) (a_t a_t_compared a_t_now a_t_now_speeds a_t_told : Nat) (g_t_0 : Value) (g_t_1 : Value) (g_t_2 : Value) (g_t_4 : Value) (g_t_5 : Value) (g_t_6 : Value) (g_t_7 : Value) (g_t_8 : Value) (g_t_9 : Value) (g_t_10 : Value) (g_t_11 : Value) (g_t_now_0 : Value) (g_t_now_1 : Value) (g_t_now_2 : Value) (g_t_now_3 : Value) (g_t_now_5 : Value) (g_t_now_6 : Value) (g_t_now_7 : Value) (g_t_now_8 : Value) (g_t_now_9 : Value) (g_t_now_13 : Value) (g_t_now_14 : Value) (g_t_now_15 : Value) (g_t_now_16 : Value) (x1 : Int) (x2 : Int) (c_compared_above : Int) (c_compared_below : Int) (c_now_sideStand : Int) (c_now_sideWalk : Int) (c_now_sidePace : Int) (c_now_speeds : Int → Int) (c_told_above : Int) (c_told_below : Int) (F : Nat) {v : Int × Int × Int × Int × Int} (h : m_X8_walkingAgainstStanding F x1 x2 c_now_sideStand c_now_sideWalk c_now_sidePace c_now_speeds = some v) : Ct l yX8_walkingAgainstStanding cX8_walkingAgainstStanding 3 (some .int) { frames := 2, cells := 0, slots := 0, locals := 64 } D cy ad [.ref a_t, .int (wI x1), .int (wI x2)] (W_X8_walkingAgainstStanding cy a_t a_t_compared a_t_now a_t_now_speeds a_t_told g_t_0 g_t_1 g_t_2 g_t_4 g_t_5 g_t_6 g_t_7 g_t_8 g_t_9 g_t_10 g_t_11 g_t_now_0 g_t_now_1 g_t_now_2 g_t_now_3 g_t_now_5 g_t_now_6 g_t_now_7 g_t_now_8 g_t_now_9 g_t_now_13 g_t_now_14 g_t_now_15 g_t_now_16 c_compared_above c_compared_below c_now_sideStand c_now_sideWalk c_now_sidePace c_now_speeds c_told_above c_told_below) (W_X8_walkingAgainstStanding cy a_t a_t_compared a_t_now a_t_now_speeds a_t_told g_t_0 g_t_1 g_t_2 g_t_4 g_t_5 g_t_6 g_t_7 g_t_8 g_t_9 g_t_10 g_t_11 g_t_now_0 g_t_now_1 g_t_now_2 g_t_now_3 g_t_now_5 g_t_now_6 g_t_now_7 g_t_now_8 g_t_now_9 g_t_now_13 g_t_now_14 g_t_now_15 g_t_now_16 (v.2.1) (v.2.2.1) c_now_sideStand c_now_sideWalk c_now_sidePace c_now_speeds (v.2.2.2.1) (v.2.2.2.2)) (some (.int (wI (v.1)))) := by
  refine Ct.introI (j := 0) (plainFor_of_name (by decide)) rfl rfl (fun E C e1 e2 e3 e4 e5 hret => ?_)
  subst e1; subst e2; subst e3; subst e4
  exact wm_X8_walkingAgainstStanding C e5 h hret
-- MovingStair.more(I)I
def W_X8_more (cy : Nat → ClassId) (a_t a_t_compared a_t_now a_t_now_speeds a_t_told : Nat) (g_t_0 : Value) (g_t_1 : Value) (g_t_2 : Value) (g_t_4 : Value) (g_t_5 : Value) (g_t_6 : Value) (g_t_7 : Value) (g_t_8 : Value) (g_t_9 : Value) (g_t_10 : Value) (g_t_11 : Value) (g_t_now_0 : Value) (g_t_now_1 : Value) (g_t_now_3 : Value) (g_t_now_5 : Value) (g_t_now_6 : Value) (g_t_now_7 : Value) (g_t_now_8 : Value) (g_t_now_14 : Value) (g_t_now_15 : Value) (g_t_now_16 : Value) (c_compared_above : Int) (c_compared_below : Int) (c_now_parts : Int) (c_now_sided : Int) (c_now_sideStand : Int) (c_now_sideWalk : Int) (c_now_sidePace : Int) (c_now_sideWould : Int) (c_now_speeds : Int → Int) (c_told_above : Int) (c_told_below : Int) : va_W := [(a_t, .inr (8, [g_t_0, g_t_1, g_t_2, .ref a_t_now, g_t_4, g_t_5, g_t_6, g_t_7, g_t_8, g_t_9, g_t_10, g_t_11, .ref a_t_told, .ref a_t_compared])), (a_t_compared, .inr (1, [.long (wJ c_compared_above), .long (wJ c_compared_below)])), (a_t_now, .inr (2, [g_t_now_0, g_t_now_1, .int (wI c_now_parts), g_t_now_3, .ref a_t_now_speeds, g_t_now_5, g_t_now_6, g_t_now_7, g_t_now_8, .int (wI c_now_sided), .int (wI c_now_sideStand), .int (wI c_now_sideWalk), .int (wI c_now_sidePace), .int (wI c_now_sideWould), g_t_now_14, g_t_now_15, g_t_now_16])), (a_t_now_speeds, .inl (cy 1, 4, .inl (aI c_now_speeds))), (a_t_told, .inr (1, [.long (wJ c_told_above), .long (wJ c_told_below)]))]
def m_X8_more (F : Nat) (x1 : Int) (c_compared_above : Int) (c_compared_below : Int) (c_now_parts : Int) (c_now_sided : Int) (c_now_sideStand : Int) (c_now_sideWalk : Int) (c_now_sidePace : Int) (c_now_sideWould : Int) (c_now_speeds : Int → Int) (c_told_above : Int) (c_told_below : Int) : Option (Int × Int × Int × Int × Int) :=
  bnd1 (m_X8_hasFlow F x1 c_now_parts c_now_sided) fun r1 => if wI r1 = wI 0 then
    (some ((-2), c_compared_above, c_compared_below, c_told_above, c_told_below))
  else
    (chk (0 ≤ x1 ∧ x1 < 4) <| if wI 0 < wI (c_now_speeds x1) then
    (bnd5 (m_X8_walkingAgainstStanding F x1 c_now_sideWould c_now_sideStand c_now_sideWalk c_now_sidePace c_now_speeds) fun r4 o5 o6 o7 o8 => some (r4, o5, o6, o7, o8))
  else
    (some ((-2), c_compared_above, c_compared_below, c_told_above, c_told_below)))
section S_X8_more
variable {E : EE} {a_t a_t_compared a_t_now a_t_now_speeds a_t_told : Nat} {g_t_0 : Value} {g_t_1 : Value} {g_t_2 : Value} {g_t_4 : Value} {g_t_5 : Value} {g_t_6 : Value} {g_t_7 : Value} {g_t_8 : Value} {g_t_9 : Value} {g_t_10 : Value} {g_t_11 : Value} {g_t_now_0 : Value} {g_t_now_1 : Value} {g_t_now_3 : Value} {g_t_now_5 : Value} {g_t_now_6 : Value} {g_t_now_7 : Value} {g_t_now_8 : Value} {g_t_now_14 : Value} {g_t_now_15 : Value} {g_t_now_16 : Value}
set_option maxRecDepth 100000 in
set_option maxHeartbeats 4000000 in
theorem wm_X8_more {F : Nat} {v : Int × Int × Int × Int × Int} {x1 : Int} {c_compared_above : Int} {c_compared_below : Int} {c_now_parts : Int} {c_now_sided : Int} {c_now_sideStand : Int} {c_now_sideWalk : Int} {c_now_sidePace : Int} {c_now_sideWould : Int} {c_now_speeds : Int → Int} {c_told_above : Int} {c_told_below : Int} (C : Cx E cX8_more RX8 { frames := 3, cells := 0, slots := 0, locals := 86 }) (hN : eN E = 2) (h : m_X8_more F x1 c_compared_above c_compared_below c_now_parts c_now_sided c_now_sideStand c_now_sideWalk c_now_sidePace c_now_sideWould c_now_speeds c_told_above c_told_below = some v) (hret : ∀ (pc : Nat) (L : List (Option Value)), decode cX8_more pc = .ok (.ireturn, 1) → GG E 0 0 (W_X8_more (eCy E) a_t a_t_compared a_t_now a_t_now_speeds a_t_told g_t_0 g_t_1 g_t_2 g_t_4 g_t_5 g_t_6 g_t_7 g_t_8 g_t_9 g_t_10 g_t_11 g_t_now_0 g_t_now_1 g_t_now_3 g_t_now_5 g_t_now_6 g_t_now_7 g_t_now_8 g_t_now_14 g_t_now_15 g_t_now_16 (v.2.1) (v.2.2.1) c_now_parts c_now_sided c_now_sideStand c_now_sideWalk c_now_sidePace c_now_sideWould c_now_speeds (v.2.2.2.1) (v.2.2.2.2)) L pc [.int (wI (v.1))]) : GG E 0 0 (W_X8_more (eCy E) a_t a_t_compared a_t_now a_t_now_speeds a_t_told g_t_0 g_t_1 g_t_2 g_t_4 g_t_5 g_t_6 g_t_7 g_t_8 g_t_9 g_t_10 g_t_11 g_t_now_0 g_t_now_1 g_t_now_3 g_t_now_5 g_t_now_6 g_t_now_7 g_t_now_8 g_t_now_14 g_t_now_15 g_t_now_16 c_compared_above c_compared_below c_now_parts c_now_sided c_now_sideStand c_now_sideWalk c_now_sidePace c_now_sideWould c_now_speeds c_told_above c_told_below) [some (.ref a_t), some (.int (wI x1))] 0 [] := by
  unfold m_X8_more at h
  refine g_aload_n 0 C dX8_more_0 rfl rfl ?_
  refine g_iload_n 1 C dX8_more_1 rfl rfl ?_
  obtain ⟨r1, hr2, h⟩ := bnd1_some h
  refine g_callI [0, 2] [1, 3, 4] [3, 0, 4, 1, 2] C mt_X8_314 (c_X8_hasFlow _ _ _ _ a_t a_t_now (g_t_0) (g_t_1) (g_t_2) (g_t_4) (g_t_5) (g_t_6) (g_t_7) (g_t_8) (g_t_9) (g_t_10) (g_t_11) (.ref a_t_told) (.ref a_t_compared) (g_t_now_0) (g_t_now_1) (g_t_now_3) (.ref a_t_now_speeds) (g_t_now_5) (g_t_now_6) (g_t_now_7) (g_t_now_8) (.int (wI c_now_sideStand)) (.int (wI c_now_sideWalk)) (.int (wI c_now_sidePace)) (.int (wI c_now_sideWould)) (g_t_now_14) (g_t_now_15) (g_t_now_16) x1 c_now_parts c_now_sided F hr2) (q0 := 0) rfl (ci := 8) rfl rfl rfl (ws2 := (W_X8_more (eCy E) a_t a_t_compared a_t_now a_t_now_speeds a_t_told g_t_0 g_t_1 g_t_2 g_t_4 g_t_5 g_t_6 g_t_7 g_t_8 g_t_9 g_t_10 g_t_11 g_t_now_0 g_t_now_1 g_t_now_3 g_t_now_5 g_t_now_6 g_t_now_7 g_t_now_8 g_t_now_14 g_t_now_15 g_t_now_16 c_compared_above c_compared_below c_now_parts c_now_sided c_now_sideStand c_now_sideWalk c_now_sidePace c_now_sideWould c_now_speeds c_told_above c_told_below)) rfl rfl rfl (rest := []) rfl rfl rfl dX8_more_2 ?_
  refine g_if_eq 20 C dX8_more_5 (by decide) h (fun h => ?_) (fun h => ?_)
  · refine g_bipush C dX8_more_20 (by decide) ?_
    cases h
    exact hret 22 _ dX8_more_22
  · refine g_aload_n 0 C dX8_more_8 rfl rfl ?_
    refine g_get C fg_X8_22 0 rfl rfl dX8_more_9 ?_
    refine g_get C fg_X8_124 2 rfl rfl dX8_more_12 ?_
    refine g_iload_n 1 C dX8_more_15 rfl rfl ?_
    obtain ⟨hc3, h⟩ := chk_some h
    refine g_iald C 3 rfl hc3 rfl dX8_more_16 ?_
    refine g_if_gt 23 C dX8_more_17 (by decide) h (fun h => ?_) (fun h => ?_)
    · refine g_aload_n 0 C dX8_more_23 rfl rfl ?_
      refine g_iload_n 1 C dX8_more_24 rfl rfl ?_
      refine g_aload_n 0 C dX8_more_25 rfl rfl ?_
      refine g_get C fg_X8_22 0 rfl rfl dX8_more_26 ?_
      refine g_get C fg_X8_321 2 rfl rfl dX8_more_29 ?_
      refine g_st (st' := [.int (wI c_now_sideWould), .int (wI x1), .ref a_t]) rfl ?_
      obtain ⟨r4, o5, o6, o7, o8, hr9, h⟩ := bnd5_some h
      refine g_callI [0, 1, 2, 3, 4] [] [0, 1, 2, 3, 4] C mt_X8_328 (c_X8_walkingAgainstStanding _ _ _ _ a_t a_t_compared a_t_now a_t_now_speeds a_t_told (g_t_0) (g_t_1) (g_t_2) (g_t_4) (g_t_5) (g_t_6) (g_t_7) (g_t_8) (g_t_9) (g_t_10) (g_t_11) (g_t_now_0) (g_t_now_1) (.int (wI c_now_parts)) (g_t_now_3) (g_t_now_5) (g_t_now_6) (g_t_now_7) (g_t_now_8) (.int (wI c_now_sided)) (.int (wI c_now_sideWould)) (g_t_now_14) (g_t_now_15) (g_t_now_16) x1 c_now_sideWould c_compared_above c_compared_below c_now_sideStand c_now_sideWalk c_now_sidePace c_now_speeds c_told_above c_told_below F hr9) (q0 := 0) rfl (ci := 8) rfl rfl rfl (ws2 := (W_X8_more (eCy E) a_t a_t_compared a_t_now a_t_now_speeds a_t_told g_t_0 g_t_1 g_t_2 g_t_4 g_t_5 g_t_6 g_t_7 g_t_8 g_t_9 g_t_10 g_t_11 g_t_now_0 g_t_now_1 g_t_now_3 g_t_now_5 g_t_now_6 g_t_now_7 g_t_now_8 g_t_now_14 g_t_now_15 g_t_now_16 o5 o6 c_now_parts c_now_sided c_now_sideStand c_now_sideWalk c_now_sidePace c_now_sideWould c_now_speeds o7 o8)) rfl rfl rfl (rest := []) rfl rfl rfl dX8_more_32 ?_
      cases h
      exact hret 35 _ dX8_more_35
    · refine g_bipush C dX8_more_20 (by decide) ?_
      cases h
      exact hret 22 _ dX8_more_22
end S_X8_more
set_option maxRecDepth 100000 in
set_option maxHeartbeats 4000000 in
theorem c_X8_more (l : Launch) (D : va_G) (cy : Nat → ClassId) (ad : AD) (a_t a_t_compared a_t_now a_t_now_speeds a_t_told : Nat) (g_t_0 : Value) (g_t_1 : Value) (g_t_2 : Value) (g_t_4 : Value) (g_t_5 : Value) (g_t_6 : Value) (g_t_7 : Value) (g_t_8 : Value) (g_t_9 : Value) (g_t_10 : Value) (g_t_11 : Value) (g_t_now_0 : Value) (g_t_now_1 : Value) (g_t_now_3 : Value) (g_t_now_5 : Value) (g_t_now_6 : Value) (g_t_now_7 : Value) (g_t_now_8 : Value) (g_t_now_14 : Value) (g_t_now_15 : Value) (g_t_now_16 : Value) (x1 : Int) (c_compared_above : Int) (c_compared_below : Int) (c_now_parts : Int) (c_now_sided : Int) (c_now_sideStand : Int) (c_now_sideWalk : Int) (c_now_sidePace : Int) (c_now_sideWould : Int) (c_now_speeds : Int → Int) (c_told_above : Int) (c_told_below : Int) (F : Nat) {v : Int × Int × Int × Int × Int} (h : m_X8_more F x1 c_compared_above c_compared_below c_now_parts c_now_sided c_now_sideStand c_now_sideWalk c_now_sidePace c_now_sideWould c_now_speeds c_told_above c_told_below = some v) : Ct l yX8_more cX8_more 2 (some .int) { frames := 3, cells := 0, slots := 0, locals := 86 } D cy ad [.ref a_t, .int (wI x1)] (W_X8_more cy a_t a_t_compared a_t_now a_t_now_speeds a_t_told g_t_0 g_t_1 g_t_2 g_t_4 g_t_5 g_t_6 g_t_7 g_t_8 g_t_9 g_t_10 g_t_11 g_t_now_0 g_t_now_1 g_t_now_3 g_t_now_5 g_t_now_6 g_t_now_7 g_t_now_8 g_t_now_14 g_t_now_15 g_t_now_16 c_compared_above c_compared_below c_now_parts c_now_sided c_now_sideStand c_now_sideWalk c_now_sidePace c_now_sideWould c_now_speeds c_told_above c_told_below) (W_X8_more cy a_t a_t_compared a_t_now a_t_now_speeds a_t_told g_t_0 g_t_1 g_t_2 g_t_4 g_t_5 g_t_6 g_t_7 g_t_8 g_t_9 g_t_10 g_t_11 g_t_now_0 g_t_now_1 g_t_now_3 g_t_now_5 g_t_now_6 g_t_now_7 g_t_now_8 g_t_now_14 g_t_now_15 g_t_now_16 (v.2.1) (v.2.2.1) c_now_parts c_now_sided c_now_sideStand c_now_sideWalk c_now_sidePace c_now_sideWould c_now_speeds (v.2.2.2.1) (v.2.2.2.2)) (some (.int (wI (v.1)))) := by
  refine Ct.introI (j := 0) (plainFor_of_name (by decide)) rfl rfl (fun E C e1 e2 e3 e4 e5 hret => ?_)
  subst e1; subst e2; subst e3; subst e4
  exact wm_X8_more C e5 h hret
-- MovingStair.enough(I)I
def W_X8_enough (cy : Nat → ClassId) (a_t a_t_compared a_t_now a_t_now_speeds a_t_told : Nat) (g_t_0 : Value) (g_t_1 : Value) (g_t_2 : Value) (g_t_4 : Value) (g_t_5 : Value) (g_t_6 : Value) (g_t_7 : Value) (g_t_8 : Value) (g_t_9 : Value) (g_t_10 : Value) (g_t_11 : Value) (g_t_now_0 : Value) (g_t_now_1 : Value) (g_t_now_3 : Value) (g_t_now_5 : Value) (g_t_now_6 : Value) (g_t_now_7 : Value) (g_t_now_8 : Value) (g_t_now_13 : Value) (g_t_now_14 : Value) (g_t_now_15 : Value) (g_t_now_16 : Value) (c_compared_above : Int) (c_compared_below : Int) (c_now_parts : Int) (c_now_sided : Int) (c_now_sideStand : Int) (c_now_sideWalk : Int) (c_now_sidePace : Int) (c_now_speeds : Int → Int) (c_told_above : Int) (c_told_below : Int) : va_W := [(a_t, .inr (8, [g_t_0, g_t_1, g_t_2, .ref a_t_now, g_t_4, g_t_5, g_t_6, g_t_7, g_t_8, g_t_9, g_t_10, g_t_11, .ref a_t_told, .ref a_t_compared])), (a_t_compared, .inr (1, [.long (wJ c_compared_above), .long (wJ c_compared_below)])), (a_t_now, .inr (2, [g_t_now_0, g_t_now_1, .int (wI c_now_parts), g_t_now_3, .ref a_t_now_speeds, g_t_now_5, g_t_now_6, g_t_now_7, g_t_now_8, .int (wI c_now_sided), .int (wI c_now_sideStand), .int (wI c_now_sideWalk), .int (wI c_now_sidePace), g_t_now_13, g_t_now_14, g_t_now_15, g_t_now_16])), (a_t_now_speeds, .inl (cy 1, 4, .inl (aI c_now_speeds))), (a_t_told, .inr (1, [.long (wJ c_told_above), .long (wJ c_told_below)]))]
def mb_X8_enough_25 (F : Nat) (k25 : Int → Int → Int → Int → Int → Option (Int × Int × Int × Int × Int)) (x1 : Int) (x2 : Int) (c_compared_above : Int) (c_compared_below : Int) (c_now_sideStand : Int) (c_now_sideWalk : Int) (c_now_sidePace : Int) (c_now_speeds : Int → Int) (c_told_above : Int) (c_told_below : Int) : Option (Int × Int × Int × Int × Int) :=
  if wI 100 < wI x2 then
    (some ((-1), c_compared_above, c_compared_below, c_told_above, c_told_below))
  else
    (bnd5 (m_X8_walkingAgainstStanding F x1 x2 c_now_sideStand c_now_sideWalk c_now_sidePace c_now_speeds) fun r1 o2 o3 o4 o5 => if wI r1 < wI 0 then
    (k25 (x2 + 1) o2 o3 o4 o5)
  else
    (some (x2, o2, o3, o4, o5)))
def ml_X8_enough_25 (F : Nat) (x1 : Int) (x2 : Int) (c_compared_above : Int) (c_compared_below : Int) (c_now_sideStand : Int) (c_now_sideWalk : Int) (c_now_sidePace : Int) (c_now_speeds : Int → Int) (c_told_above : Int) (c_told_below : Int) : Option (Int × Int × Int × Int × Int) :=
  loopN (fun (k : Int × Int × Int × Int × Int → Option (Int × Int × Int × Int × Int)) q => mb_X8_enough_25 F (fun y0 y1 y2 y3 y4 => k (y0, y1, y2, y3, y4)) x1 q.1 q.2.1 q.2.2.1 c_now_sideStand c_now_sideWalk c_now_sidePace c_now_speeds q.2.2.2.1 q.2.2.2.2) F (x2, c_compared_above, c_compared_below, c_told_above, c_told_below)
def m_X8_enough (F : Nat) (x1 : Int) (c_compared_above : Int) (c_compared_below : Int) (c_now_parts : Int) (c_now_sided : Int) (c_now_sideStand : Int) (c_now_sideWalk : Int) (c_now_sidePace : Int) (c_now_speeds : Int → Int) (c_told_above : Int) (c_told_below : Int) : Option (Int × Int × Int × Int × Int) :=
  bnd1 (m_X8_hasFlow F x1 c_now_parts c_now_sided) fun r1 => if wI r1 = wI 0 then
    (some ((-2), c_compared_above, c_compared_below, c_told_above, c_told_below))
  else
    (chk (0 ≤ x1 ∧ x1 < 4) <| if wI 0 < wI (c_now_speeds x1) then
    (ml_X8_enough_25 F x1 0 c_compared_above c_compared_below c_now_sideStand c_now_sideWalk c_now_sidePace c_now_speeds c_told_above c_told_below)
  else
    (some ((-2), c_compared_above, c_compared_below, c_told_above, c_told_below)))
section S_X8_enough
variable {E : EE} {a_t a_t_compared a_t_now a_t_now_speeds a_t_told : Nat} {g_t_0 : Value} {g_t_1 : Value} {g_t_2 : Value} {g_t_4 : Value} {g_t_5 : Value} {g_t_6 : Value} {g_t_7 : Value} {g_t_8 : Value} {g_t_9 : Value} {g_t_10 : Value} {g_t_11 : Value} {g_t_now_0 : Value} {g_t_now_1 : Value} {g_t_now_3 : Value} {g_t_now_5 : Value} {g_t_now_6 : Value} {g_t_now_7 : Value} {g_t_now_8 : Value} {g_t_now_13 : Value} {g_t_now_14 : Value} {g_t_now_15 : Value} {g_t_now_16 : Value}
set_option maxRecDepth 100000 in
set_option maxHeartbeats 4000000 in
theorem wb_X8_enough_25 {F : Nat} {k25 : Int → Int → Int → Int → Int → Option (Int × Int × Int × Int × Int)} {v : Int × Int × Int × Int × Int} {x1 : Int} {x2 : Int} {c_compared_above : Int} {c_compared_below : Int} {c_now_sideStand : Int} {c_now_sideWalk : Int} {c_now_sidePace : Int} {c_now_speeds : Int → Int} {c_told_above : Int} {c_told_below : Int} {c_now_parts : Int} {c_now_sided : Int} (C : Cx E cX8_enough RX8 { frames := 3, cells := 0, slots := 0, locals := 86 }) (hN : eN E = 3) (h : mb_X8_enough_25 F k25 x1 x2 c_compared_above c_compared_below c_now_sideStand c_now_sideWalk c_now_sidePace c_now_speeds c_told_above c_told_below = some v) (hk25 : ∀ (y_x2 : Int) (y_c_compared_above : Int) (y_c_compared_below : Int) (y_c_told_above : Int) (y_c_told_below : Int), k25 y_x2 y_c_compared_above y_c_compared_below y_c_told_above y_c_told_below = some v → GG E 0 0 (W_X8_enough (eCy E) a_t a_t_compared a_t_now a_t_now_speeds a_t_told g_t_0 g_t_1 g_t_2 g_t_4 g_t_5 g_t_6 g_t_7 g_t_8 g_t_9 g_t_10 g_t_11 g_t_now_0 g_t_now_1 g_t_now_3 g_t_now_5 g_t_now_6 g_t_now_7 g_t_now_8 g_t_now_13 g_t_now_14 g_t_now_15 g_t_now_16 y_c_compared_above y_c_compared_below c_now_parts c_now_sided c_now_sideStand c_now_sideWalk c_now_sidePace c_now_speeds y_c_told_above y_c_told_below) [some (.ref a_t), some (.int (wI x1)), some (.int (wI y_x2))] 25 []) (hret : ∀ (pc : Nat) (L : List (Option Value)), decode cX8_enough pc = .ok (.ireturn, 1) → GG E 0 0 (W_X8_enough (eCy E) a_t a_t_compared a_t_now a_t_now_speeds a_t_told g_t_0 g_t_1 g_t_2 g_t_4 g_t_5 g_t_6 g_t_7 g_t_8 g_t_9 g_t_10 g_t_11 g_t_now_0 g_t_now_1 g_t_now_3 g_t_now_5 g_t_now_6 g_t_now_7 g_t_now_8 g_t_now_13 g_t_now_14 g_t_now_15 g_t_now_16 (v.2.1) (v.2.2.1) c_now_parts c_now_sided c_now_sideStand c_now_sideWalk c_now_sidePace c_now_speeds (v.2.2.2.1) (v.2.2.2.2)) L pc [.int (wI (v.1))]) : GG E 0 0 (W_X8_enough (eCy E) a_t a_t_compared a_t_now a_t_now_speeds a_t_told g_t_0 g_t_1 g_t_2 g_t_4 g_t_5 g_t_6 g_t_7 g_t_8 g_t_9 g_t_10 g_t_11 g_t_now_0 g_t_now_1 g_t_now_3 g_t_now_5 g_t_now_6 g_t_now_7 g_t_now_8 g_t_now_13 g_t_now_14 g_t_now_15 g_t_now_16 c_compared_above c_compared_below c_now_parts c_now_sided c_now_sideStand c_now_sideWalk c_now_sidePace c_now_speeds c_told_above c_told_below) [some (.ref a_t), some (.int (wI x1)), some (.int (wI x2))] 25 [] := by
  unfold mb_X8_enough_25 at h
  refine g_iload_n 2 C dX8_enough_25 rfl rfl ?_
  refine g_bipush C dX8_enough_26 (by decide) ?_
  refine g_icmp_gt 48 C dX8_enough_28 (by decide) h (fun h => ?_) (fun h => ?_)
  · refine g_iconst C dX8_enough_48 ?_
    cases h
    exact hret 49 _ dX8_enough_49
  · refine g_aload_n 0 C dX8_enough_31 rfl rfl ?_
    refine g_iload_n 1 C dX8_enough_32 rfl rfl ?_
    refine g_iload_n 2 C dX8_enough_33 rfl rfl ?_
    obtain ⟨r1, o2, o3, o4, o5, hr6, h⟩ := bnd5_some h
    refine g_callI [0, 1, 2, 3, 4] [] [0, 1, 2, 3, 4] C mt_X8_328 (c_X8_walkingAgainstStanding _ _ _ _ a_t a_t_compared a_t_now a_t_now_speeds a_t_told (g_t_0) (g_t_1) (g_t_2) (g_t_4) (g_t_5) (g_t_6) (g_t_7) (g_t_8) (g_t_9) (g_t_10) (g_t_11) (g_t_now_0) (g_t_now_1) (.int (wI c_now_parts)) (g_t_now_3) (g_t_now_5) (g_t_now_6) (g_t_now_7) (g_t_now_8) (.int (wI c_now_sided)) (g_t_now_13) (g_t_now_14) (g_t_now_15) (g_t_now_16) x1 x2 c_compared_above c_compared_below c_now_sideStand c_now_sideWalk c_now_sidePace c_now_speeds c_told_above c_told_below F hr6) (q0 := 0) rfl (ci := 8) rfl rfl rfl (ws2 := (W_X8_enough (eCy E) a_t a_t_compared a_t_now a_t_now_speeds a_t_told g_t_0 g_t_1 g_t_2 g_t_4 g_t_5 g_t_6 g_t_7 g_t_8 g_t_9 g_t_10 g_t_11 g_t_now_0 g_t_now_1 g_t_now_3 g_t_now_5 g_t_now_6 g_t_now_7 g_t_now_8 g_t_now_13 g_t_now_14 g_t_now_15 g_t_now_16 o2 o3 c_now_parts c_now_sided c_now_sideStand c_now_sideWalk c_now_sidePace c_now_speeds o4 o5)) rfl rfl rfl (rest := []) rfl rfl rfl dX8_enough_34 ?_
    refine g_if_lt 42 C dX8_enough_37 (by decide) h (fun h => ?_) (fun h => ?_)
    · refine g_iinc C hN dX8_enough_42 rfl rfl (L' := [some (.ref a_t), some (.int (wI x1)), some (.int (wI (x2 + 1)))]) rfl ?_
      refine g_goto (tgt := 25) C dX8_enough_45 (by decide) ?_
      exact hk25 _ _ _ _ _ h
    · refine g_iload_n 2 C dX8_enough_40 rfl rfl ?_
      cases h
      exact hret 41 _ dX8_enough_41
set_option maxRecDepth 100000 in
set_option maxHeartbeats 4000000 in
theorem wl_X8_enough_25 {F : Nat} {v : Int × Int × Int × Int × Int} {x1 : Int} {x2 : Int} {c_compared_above : Int} {c_compared_below : Int} {c_now_sideStand : Int} {c_now_sideWalk : Int} {c_now_sidePace : Int} {c_now_speeds : Int → Int} {c_told_above : Int} {c_told_below : Int} {c_now_parts : Int} {c_now_sided : Int} (C : Cx E cX8_enough RX8 { frames := 3, cells := 0, slots := 0, locals := 86 }) (hN : eN E = 3) (h : ml_X8_enough_25 F x1 x2 c_compared_above c_compared_below c_now_sideStand c_now_sideWalk c_now_sidePace c_now_speeds c_told_above c_told_below = some v) (hret : ∀ (pc : Nat) (L : List (Option Value)), decode cX8_enough pc = .ok (.ireturn, 1) → GG E 0 0 (W_X8_enough (eCy E) a_t a_t_compared a_t_now a_t_now_speeds a_t_told g_t_0 g_t_1 g_t_2 g_t_4 g_t_5 g_t_6 g_t_7 g_t_8 g_t_9 g_t_10 g_t_11 g_t_now_0 g_t_now_1 g_t_now_3 g_t_now_5 g_t_now_6 g_t_now_7 g_t_now_8 g_t_now_13 g_t_now_14 g_t_now_15 g_t_now_16 (v.2.1) (v.2.2.1) c_now_parts c_now_sided c_now_sideStand c_now_sideWalk c_now_sidePace c_now_speeds (v.2.2.2.1) (v.2.2.2.2)) L pc [.int (wI (v.1))]) : GG E 0 0 (W_X8_enough (eCy E) a_t a_t_compared a_t_now a_t_now_speeds a_t_told g_t_0 g_t_1 g_t_2 g_t_4 g_t_5 g_t_6 g_t_7 g_t_8 g_t_9 g_t_10 g_t_11 g_t_now_0 g_t_now_1 g_t_now_3 g_t_now_5 g_t_now_6 g_t_now_7 g_t_now_8 g_t_now_13 g_t_now_14 g_t_now_15 g_t_now_16 c_compared_above c_compared_below c_now_parts c_now_sided c_now_sideStand c_now_sideWalk c_now_sidePace c_now_speeds c_told_above c_told_below) [some (.ref a_t), some (.int (wI x1)), some (.int (wI x2))] 25 [] := by
  unfold ml_X8_enough_25 at h
  exact loop_walk (g := fun (q : Int × Int × Int × Int × Int) => GG E 0 0 (W_X8_enough (eCy E) a_t a_t_compared a_t_now a_t_now_speeds a_t_told g_t_0 g_t_1 g_t_2 g_t_4 g_t_5 g_t_6 g_t_7 g_t_8 g_t_9 g_t_10 g_t_11 g_t_now_0 g_t_now_1 g_t_now_3 g_t_now_5 g_t_now_6 g_t_now_7 g_t_now_8 g_t_now_13 g_t_now_14 g_t_now_15 g_t_now_16 (q.2.1) (q.2.2.1) c_now_parts c_now_sided c_now_sideStand c_now_sideWalk c_now_sidePace c_now_speeds (q.2.2.2.1) (q.2.2.2.2)) [some (.ref a_t), some (.int (wI x1)), some (.int (wI (q.1)))] 25 []) (fun k hk q h => wb_X8_enough_25 C hN h (fun y0 y1 y2 y3 y4 hh => hk (y0, y1, y2, y3, y4) hh) hret) F (x2, c_compared_above, c_compared_below, c_told_above, c_told_below) h
set_option maxRecDepth 100000 in
set_option maxHeartbeats 4000000 in
theorem wm_X8_enough {F : Nat} {v : Int × Int × Int × Int × Int} {x1 : Int} {c_compared_above : Int} {c_compared_below : Int} {c_now_parts : Int} {c_now_sided : Int} {c_now_sideStand : Int} {c_now_sideWalk : Int} {c_now_sidePace : Int} {c_now_speeds : Int → Int} {c_told_above : Int} {c_told_below : Int} (C : Cx E cX8_enough RX8 { frames := 3, cells := 0, slots := 0, locals := 86 }) (hN : eN E = 3) (h : m_X8_enough F x1 c_compared_above c_compared_below c_now_parts c_now_sided c_now_sideStand c_now_sideWalk c_now_sidePace c_now_speeds c_told_above c_told_below = some v) (hret : ∀ (pc : Nat) (L : List (Option Value)), decode cX8_enough pc = .ok (.ireturn, 1) → GG E 0 0 (W_X8_enough (eCy E) a_t a_t_compared a_t_now a_t_now_speeds a_t_told g_t_0 g_t_1 g_t_2 g_t_4 g_t_5 g_t_6 g_t_7 g_t_8 g_t_9 g_t_10 g_t_11 g_t_now_0 g_t_now_1 g_t_now_3 g_t_now_5 g_t_now_6 g_t_now_7 g_t_now_8 g_t_now_13 g_t_now_14 g_t_now_15 g_t_now_16 (v.2.1) (v.2.2.1) c_now_parts c_now_sided c_now_sideStand c_now_sideWalk c_now_sidePace c_now_speeds (v.2.2.2.1) (v.2.2.2.2)) L pc [.int (wI (v.1))]) : GG E 0 0 (W_X8_enough (eCy E) a_t a_t_compared a_t_now a_t_now_speeds a_t_told g_t_0 g_t_1 g_t_2 g_t_4 g_t_5 g_t_6 g_t_7 g_t_8 g_t_9 g_t_10 g_t_11 g_t_now_0 g_t_now_1 g_t_now_3 g_t_now_5 g_t_now_6 g_t_now_7 g_t_now_8 g_t_now_13 g_t_now_14 g_t_now_15 g_t_now_16 c_compared_above c_compared_below c_now_parts c_now_sided c_now_sideStand c_now_sideWalk c_now_sidePace c_now_speeds c_told_above c_told_below) [some (.ref a_t), some (.int (wI x1)), none] 0 [] := by
  unfold m_X8_enough at h
  refine g_aload_n 0 C dX8_enough_0 rfl rfl ?_
  refine g_iload_n 1 C dX8_enough_1 rfl rfl ?_
  obtain ⟨r1, hr2, h⟩ := bnd1_some h
  refine g_callI [0, 2] [1, 3, 4] [3, 0, 4, 1, 2] C mt_X8_314 (c_X8_hasFlow _ _ _ _ a_t a_t_now (g_t_0) (g_t_1) (g_t_2) (g_t_4) (g_t_5) (g_t_6) (g_t_7) (g_t_8) (g_t_9) (g_t_10) (g_t_11) (.ref a_t_told) (.ref a_t_compared) (g_t_now_0) (g_t_now_1) (g_t_now_3) (.ref a_t_now_speeds) (g_t_now_5) (g_t_now_6) (g_t_now_7) (g_t_now_8) (.int (wI c_now_sideStand)) (.int (wI c_now_sideWalk)) (.int (wI c_now_sidePace)) (g_t_now_13) (g_t_now_14) (g_t_now_15) (g_t_now_16) x1 c_now_parts c_now_sided F hr2) (q0 := 0) rfl (ci := 8) rfl rfl rfl (ws2 := (W_X8_enough (eCy E) a_t a_t_compared a_t_now a_t_now_speeds a_t_told g_t_0 g_t_1 g_t_2 g_t_4 g_t_5 g_t_6 g_t_7 g_t_8 g_t_9 g_t_10 g_t_11 g_t_now_0 g_t_now_1 g_t_now_3 g_t_now_5 g_t_now_6 g_t_now_7 g_t_now_8 g_t_now_13 g_t_now_14 g_t_now_15 g_t_now_16 c_compared_above c_compared_below c_now_parts c_now_sided c_now_sideStand c_now_sideWalk c_now_sidePace c_now_speeds c_told_above c_told_below)) rfl rfl rfl (rest := []) rfl rfl rfl dX8_enough_2 ?_
  refine g_if_eq 20 C dX8_enough_5 (by decide) h (fun h => ?_) (fun h => ?_)
  · refine g_bipush C dX8_enough_20 (by decide) ?_
    cases h
    exact hret 22 _ dX8_enough_22
  · refine g_aload_n 0 C dX8_enough_8 rfl rfl ?_
    refine g_get C fg_X8_22 0 rfl rfl dX8_enough_9 ?_
    refine g_get C fg_X8_124 2 rfl rfl dX8_enough_12 ?_
    refine g_iload_n 1 C dX8_enough_15 rfl rfl ?_
    obtain ⟨hc3, h⟩ := chk_some h
    refine g_iald C 3 rfl hc3 rfl dX8_enough_16 ?_
    refine g_if_gt 23 C dX8_enough_17 (by decide) h (fun h => ?_) (fun h => ?_)
    · refine g_iconst C dX8_enough_23 ?_
      refine g_istore_n 2 C hN dX8_enough_24 rfl rfl (L' := [some (.ref a_t), some (.int (wI x1)), some (.int (wI 0))]) rfl ?_
      exact wl_X8_enough_25 C hN h hret
    · refine g_bipush C dX8_enough_20 (by decide) ?_
      cases h
      exact hret 22 _ dX8_enough_22
end S_X8_enough
set_option maxRecDepth 100000 in
set_option maxHeartbeats 4000000 in
theorem c_X8_enough (l : Launch) (D : va_G) (cy : Nat → ClassId) (ad : AD) (a_t a_t_compared a_t_now a_t_now_speeds a_t_told : Nat) (g_t_0 : Value) (g_t_1 : Value) (g_t_2 : Value) (g_t_4 : Value) (g_t_5 : Value) (g_t_6 : Value) (g_t_7 : Value) (g_t_8 : Value) (g_t_9 : Value) (g_t_10 : Value) (g_t_11 : Value) (g_t_now_0 : Value) (g_t_now_1 : Value) (g_t_now_3 : Value) (g_t_now_5 : Value) (g_t_now_6 : Value) (g_t_now_7 : Value) (g_t_now_8 : Value) (g_t_now_13 : Value) (g_t_now_14 : Value) (g_t_now_15 : Value) (g_t_now_16 : Value) (x1 : Int) (c_compared_above : Int) (c_compared_below : Int) (c_now_parts : Int) (c_now_sided : Int) (c_now_sideStand : Int) (c_now_sideWalk : Int) (c_now_sidePace : Int) (c_now_speeds : Int → Int) (c_told_above : Int) (c_told_below : Int) (F : Nat) {v : Int × Int × Int × Int × Int} (h : m_X8_enough F x1 c_compared_above c_compared_below c_now_parts c_now_sided c_now_sideStand c_now_sideWalk c_now_sidePace c_now_speeds c_told_above c_told_below = some v) : Ct l yX8_enough cX8_enough 3 (some .int) { frames := 3, cells := 0, slots := 0, locals := 86 } D cy ad [.ref a_t, .int (wI x1)] (W_X8_enough cy a_t a_t_compared a_t_now a_t_now_speeds a_t_told g_t_0 g_t_1 g_t_2 g_t_4 g_t_5 g_t_6 g_t_7 g_t_8 g_t_9 g_t_10 g_t_11 g_t_now_0 g_t_now_1 g_t_now_3 g_t_now_5 g_t_now_6 g_t_now_7 g_t_now_8 g_t_now_13 g_t_now_14 g_t_now_15 g_t_now_16 c_compared_above c_compared_below c_now_parts c_now_sided c_now_sideStand c_now_sideWalk c_now_sidePace c_now_speeds c_told_above c_told_below) (W_X8_enough cy a_t a_t_compared a_t_now a_t_now_speeds a_t_told g_t_0 g_t_1 g_t_2 g_t_4 g_t_5 g_t_6 g_t_7 g_t_8 g_t_9 g_t_10 g_t_11 g_t_now_0 g_t_now_1 g_t_now_3 g_t_now_5 g_t_now_6 g_t_now_7 g_t_now_8 g_t_now_13 g_t_now_14 g_t_now_15 g_t_now_16 (v.2.1) (v.2.2.1) c_now_parts c_now_sided c_now_sideStand c_now_sideWalk c_now_sidePace c_now_speeds (v.2.2.2.1) (v.2.2.2.2)) (some (.int (wI (v.1)))) := by
  refine Ct.introI (j := 1) (plainFor_of_name (by decide)) rfl rfl (fun E C e1 e2 e3 e4 e5 hret => ?_)
  subst e1; subst e2; subst e3; subst e4
  exact wm_X8_enough C e5 h hret
-- MovingStair.crowdState(II)I
def W_X8_crowdState (cy : Nat → ClassId) (a_t a_t_now a_t_now_speeds a_t_slots a_t_slotsE_0 a_t_slotsE_1 a_t_slotsE_2 a_t_slotsE_3 : Nat) (g_t_0 : Value) (g_t_1 : Value) (g_t_2 : Value) (g_t_4 : Value) (g_t_5 : Value) (g_t_7 : Value) (g_t_8 : Value) (g_t_9 : Value) (g_t_10 : Value) (g_t_11 : Value) (g_t_12 : Value) (g_t_13 : Value) (g_t_now_0 : Value) (g_t_now_1 : Value) (g_t_now_3 : Value) (g_t_now_5 : Value) (g_t_now_6 : Value) (g_t_now_7 : Value) (g_t_now_8 : Value) (g_t_now_10 : Value) (g_t_now_11 : Value) (g_t_now_12 : Value) (g_t_now_13 : Value) (g_t_now_14 : Value) (g_t_now_15 : Value) (g_t_now_16 : Value) (g_t_slotsE_1 : Nat → Value) (g_t_slotsE_2 : Nat → Value) (g_t_slotsE_3 : Nat → Value) (c_now_parts : Int) (c_now_sided : Int) (c_now_speeds : Int → Int) (c_slotsE_held : Int → Int) : va_W := [(a_t, .inr (8, [g_t_0, g_t_1, g_t_2, .ref a_t_now, g_t_4, g_t_5, .ref a_t_slots, g_t_7, g_t_8, g_t_9, g_t_10, g_t_11, g_t_12, g_t_13])), (a_t_now, .inr (2, [g_t_now_0, g_t_now_1, .int (wI c_now_parts), g_t_now_3, .ref a_t_now_speeds, g_t_now_5, g_t_now_6, g_t_now_7, g_t_now_8, .int (wI c_now_sided), g_t_now_10, g_t_now_11, g_t_now_12, g_t_now_13, g_t_now_14, g_t_now_15, g_t_now_16])), (a_t_now_speeds, .inl (cy 1, 4, .inl (aI c_now_speeds))), (a_t_slots, .inl (cy 5, 4, .inr (.inr (.inr (.inr (selO [a_t_slotsE_0, a_t_slotsE_1, a_t_slotsE_2, a_t_slotsE_3])))))), (a_t_slotsE_0, .inr (5, [.int (wI (c_slotsE_held 0)), g_t_slotsE_1 0, g_t_slotsE_2 0, g_t_slotsE_3 0])), (a_t_slotsE_1, .inr (5, [.int (wI (c_slotsE_held 1)), g_t_slotsE_1 1, g_t_slotsE_2 1, g_t_slotsE_3 1])), (a_t_slotsE_2, .inr (5, [.int (wI (c_slotsE_held 2)), g_t_slotsE_1 2, g_t_slotsE_2 2, g_t_slotsE_3 2])), (a_t_slotsE_3, .inr (5, [.int (wI (c_slotsE_held 3)), g_t_slotsE_1 3, g_t_slotsE_2 3, g_t_slotsE_3 3]))]
def m_X8_crowdState (F : Nat) (x1 : Int) (x2 : Int) (c_now_parts : Int) (c_now_sided : Int) (c_now_speeds : Int → Int) (c_slotsE_held : Int → Int) : Option (Int) :=
  bnd1 (m_X8_isSlot F x1) fun r1 => if wI r1 = wI 0 then
    (some (-2))
  else
    (bnd1 (m_X8_hasFlow F x2 c_now_parts c_now_sided) fun r3 => if wI r3 = wI 0 then
    (some (-2))
  else
    (chk (0 ≤ x2 ∧ x2 < 4) <| if wI 0 < wI (c_now_speeds x2) then
    (chk (0 ≤ x1 ∧ x1 < 4) <| if wI (c_slotsE_held x1) = wI 0 then
    (some (-6))
  else
    (some 0))
  else
    (some (-2))))
section S_X8_crowdState
variable {E : EE} {a_t a_t_now a_t_now_speeds a_t_slots a_t_slotsE_0 a_t_slotsE_1 a_t_slotsE_2 a_t_slotsE_3 : Nat} {g_t_0 : Value} {g_t_1 : Value} {g_t_2 : Value} {g_t_4 : Value} {g_t_5 : Value} {g_t_7 : Value} {g_t_8 : Value} {g_t_9 : Value} {g_t_10 : Value} {g_t_11 : Value} {g_t_12 : Value} {g_t_13 : Value} {g_t_now_0 : Value} {g_t_now_1 : Value} {g_t_now_3 : Value} {g_t_now_5 : Value} {g_t_now_6 : Value} {g_t_now_7 : Value} {g_t_now_8 : Value} {g_t_now_10 : Value} {g_t_now_11 : Value} {g_t_now_12 : Value} {g_t_now_13 : Value} {g_t_now_14 : Value} {g_t_now_15 : Value} {g_t_now_16 : Value} {g_t_slotsE_1 : Nat → Value} {g_t_slotsE_2 : Nat → Value} {g_t_slotsE_3 : Nat → Value}
set_option maxRecDepth 100000 in
set_option maxHeartbeats 4000000 in
theorem wm_X8_crowdState {F : Nat} {v : Int} {x1 : Int} {x2 : Int} {c_now_parts : Int} {c_now_sided : Int} {c_now_speeds : Int → Int} {c_slotsE_held : Int → Int} (C : Cx E cX8_crowdState RX8 { frames := 2, cells := 0, slots := 0, locals := 45 }) (hN : eN E = 3) (h : m_X8_crowdState F x1 x2 c_now_parts c_now_sided c_now_speeds c_slotsE_held = some v) (hret : ∀ (pc : Nat) (L : List (Option Value)), decode cX8_crowdState pc = .ok (.ireturn, 1) → GG E 0 0 (W_X8_crowdState (eCy E) a_t a_t_now a_t_now_speeds a_t_slots a_t_slotsE_0 a_t_slotsE_1 a_t_slotsE_2 a_t_slotsE_3 g_t_0 g_t_1 g_t_2 g_t_4 g_t_5 g_t_7 g_t_8 g_t_9 g_t_10 g_t_11 g_t_12 g_t_13 g_t_now_0 g_t_now_1 g_t_now_3 g_t_now_5 g_t_now_6 g_t_now_7 g_t_now_8 g_t_now_10 g_t_now_11 g_t_now_12 g_t_now_13 g_t_now_14 g_t_now_15 g_t_now_16 g_t_slotsE_1 g_t_slotsE_2 g_t_slotsE_3 c_now_parts c_now_sided c_now_speeds c_slotsE_held) L pc [.int (wI v)]) : GG E 0 0 (W_X8_crowdState (eCy E) a_t a_t_now a_t_now_speeds a_t_slots a_t_slotsE_0 a_t_slotsE_1 a_t_slotsE_2 a_t_slotsE_3 g_t_0 g_t_1 g_t_2 g_t_4 g_t_5 g_t_7 g_t_8 g_t_9 g_t_10 g_t_11 g_t_12 g_t_13 g_t_now_0 g_t_now_1 g_t_now_3 g_t_now_5 g_t_now_6 g_t_now_7 g_t_now_8 g_t_now_10 g_t_now_11 g_t_now_12 g_t_now_13 g_t_now_14 g_t_now_15 g_t_now_16 g_t_slotsE_1 g_t_slotsE_2 g_t_slotsE_3 c_now_parts c_now_sided c_now_speeds c_slotsE_held) [some (.ref a_t), some (.int (wI x1)), some (.int (wI x2))] 0 [] := by
  unfold m_X8_crowdState at h
  refine g_iload_n 1 C dX8_crowdState_0 rfl rfl ?_
  obtain ⟨r1, hr2, h⟩ := bnd1_some h
  refine g_callSI [] [0, 1, 2, 3, 4, 5, 6, 7] [0, 1, 2, 3, 4, 5, 6, 7] C mt_X8_300 (c_X8_isSlot _ _ _ _ x1 F hr2) rfl rfl (ws2 := (W_X8_crowdState (eCy E) a_t a_t_now a_t_now_speeds a_t_slots a_t_slotsE_0 a_t_slotsE_1 a_t_slotsE_2 a_t_slotsE_3 g_t_0 g_t_1 g_t_2 g_t_4 g_t_5 g_t_7 g_t_8 g_t_9 g_t_10 g_t_11 g_t_12 g_t_13 g_t_now_0 g_t_now_1 g_t_now_3 g_t_now_5 g_t_now_6 g_t_now_7 g_t_now_8 g_t_now_10 g_t_now_11 g_t_now_12 g_t_now_13 g_t_now_14 g_t_now_15 g_t_now_16 g_t_slotsE_1 g_t_slotsE_2 g_t_slotsE_3 c_now_parts c_now_sided c_now_speeds c_slotsE_held)) rfl rfl rfl (rest := []) rfl rfl rfl dX8_crowdState_1 ?_
  refine g_if_eq 27 C dX8_crowdState_4 (by decide) h (fun h => ?_) (fun h => ?_)
  · refine g_bipush C dX8_crowdState_27 (by decide) ?_
    cases h
    exact hret 29 _ dX8_crowdState_29
  · refine g_aload_n 0 C dX8_crowdState_7 rfl rfl ?_
    refine g_iload_n 2 C dX8_crowdState_8 rfl rfl ?_
    obtain ⟨r3, hr4, h⟩ := bnd1_some h
    refine g_callI [0, 1] [2, 3, 4, 5, 6, 7] [6, 7, 0, 1, 2, 3, 4, 5] C mt_X8_314 (c_X8_hasFlow _ _ _ _ a_t a_t_now (g_t_0) (g_t_1) (g_t_2) (g_t_4) (g_t_5) (.ref a_t_slots) (g_t_7) (g_t_8) (g_t_9) (g_t_10) (g_t_11) (g_t_12) (g_t_13) (g_t_now_0) (g_t_now_1) (g_t_now_3) (.ref a_t_now_speeds) (g_t_now_5) (g_t_now_6) (g_t_now_7) (g_t_now_8) (g_t_now_10) (g_t_now_11) (g_t_now_12) (g_t_now_13) (g_t_now_14) (g_t_now_15) (g_t_now_16) x2 c_now_parts c_now_sided F hr4) (q0 := 0) rfl (ci := 8) rfl rfl rfl (ws2 := (W_X8_crowdState (eCy E) a_t a_t_now a_t_now_speeds a_t_slots a_t_slotsE_0 a_t_slotsE_1 a_t_slotsE_2 a_t_slotsE_3 g_t_0 g_t_1 g_t_2 g_t_4 g_t_5 g_t_7 g_t_8 g_t_9 g_t_10 g_t_11 g_t_12 g_t_13 g_t_now_0 g_t_now_1 g_t_now_3 g_t_now_5 g_t_now_6 g_t_now_7 g_t_now_8 g_t_now_10 g_t_now_11 g_t_now_12 g_t_now_13 g_t_now_14 g_t_now_15 g_t_now_16 g_t_slotsE_1 g_t_slotsE_2 g_t_slotsE_3 c_now_parts c_now_sided c_now_speeds c_slotsE_held)) rfl rfl rfl (rest := []) rfl rfl rfl dX8_crowdState_9 ?_
    refine g_if_eq 27 C dX8_crowdState_12 (by decide) h (fun h => ?_) (fun h => ?_)
    · refine g_bipush C dX8_crowdState_27 (by decide) ?_
      cases h
      exact hret 29 _ dX8_crowdState_29
    · refine g_aload_n 0 C dX8_crowdState_15 rfl rfl ?_
      refine g_get C fg_X8_22 0 rfl rfl dX8_crowdState_16 ?_
      refine g_get C fg_X8_124 1 rfl rfl dX8_crowdState_19 ?_
      refine g_iload_n 2 C dX8_crowdState_22 rfl rfl ?_
      obtain ⟨hc5, h⟩ := chk_some h
      refine g_iald C 2 rfl hc5 rfl dX8_crowdState_23 ?_
      refine g_if_gt 30 C dX8_crowdState_24 (by decide) h (fun h => ?_) (fun h => ?_)
      · refine g_aload_n 0 C dX8_crowdState_30 rfl rfl ?_
        refine g_get C fg_X8_36 0 rfl rfl dX8_crowdState_31 ?_
        refine g_iload_n 1 C dX8_crowdState_34 rfl rfl ?_
        obtain ⟨hc6, h⟩ := chk_some h
        obtain rfl | rfl | rfl | rfl : x1 = 0 ∨ x1 = 1 ∨ x1 = 2 ∨ x1 = 3 := by omega
        · refine g_aald C 3 (t0 := 5) rfl rfl (by decide) rfl dX8_crowdState_35 ?_
          refine g_get C fg_X8_303 4 rfl rfl dX8_crowdState_36 ?_
          refine g_st (st' := [.int (wI (c_slotsE_held (0)))]) rfl ?_
          refine g_if_eq 46 C dX8_crowdState_39 (by decide) h (fun h => ?_) (fun h => ?_)
          · refine g_bipush C dX8_crowdState_46 (by decide) ?_
            cases h
            exact hret 48 _ dX8_crowdState_48
          · refine g_iconst C dX8_crowdState_42 ?_
            refine g_goto (tgt := 48) C dX8_crowdState_43 (by decide) ?_
            cases h
            exact hret 48 _ dX8_crowdState_48
        · refine g_aald C 3 (t0 := 5) rfl rfl (by decide) rfl dX8_crowdState_35 ?_
          refine g_get C fg_X8_303 5 rfl rfl dX8_crowdState_36 ?_
          refine g_st (st' := [.int (wI (c_slotsE_held (1)))]) rfl ?_
          refine g_if_eq 46 C dX8_crowdState_39 (by decide) h (fun h => ?_) (fun h => ?_)
          · refine g_bipush C dX8_crowdState_46 (by decide) ?_
            cases h
            exact hret 48 _ dX8_crowdState_48
          · refine g_iconst C dX8_crowdState_42 ?_
            refine g_goto (tgt := 48) C dX8_crowdState_43 (by decide) ?_
            cases h
            exact hret 48 _ dX8_crowdState_48
        · refine g_aald C 3 (t0 := 5) rfl rfl (by decide) rfl dX8_crowdState_35 ?_
          refine g_get C fg_X8_303 6 rfl rfl dX8_crowdState_36 ?_
          refine g_st (st' := [.int (wI (c_slotsE_held (2)))]) rfl ?_
          refine g_if_eq 46 C dX8_crowdState_39 (by decide) h (fun h => ?_) (fun h => ?_)
          · refine g_bipush C dX8_crowdState_46 (by decide) ?_
            cases h
            exact hret 48 _ dX8_crowdState_48
          · refine g_iconst C dX8_crowdState_42 ?_
            refine g_goto (tgt := 48) C dX8_crowdState_43 (by decide) ?_
            cases h
            exact hret 48 _ dX8_crowdState_48
        · refine g_aald C 3 (t0 := 5) rfl rfl (by decide) rfl dX8_crowdState_35 ?_
          refine g_get C fg_X8_303 7 rfl rfl dX8_crowdState_36 ?_
          refine g_st (st' := [.int (wI (c_slotsE_held (3)))]) rfl ?_
          refine g_if_eq 46 C dX8_crowdState_39 (by decide) h (fun h => ?_) (fun h => ?_)
          · refine g_bipush C dX8_crowdState_46 (by decide) ?_
            cases h
            exact hret 48 _ dX8_crowdState_48
          · refine g_iconst C dX8_crowdState_42 ?_
            refine g_goto (tgt := 48) C dX8_crowdState_43 (by decide) ?_
            cases h
            exact hret 48 _ dX8_crowdState_48
      · refine g_bipush C dX8_crowdState_27 (by decide) ?_
        cases h
        exact hret 29 _ dX8_crowdState_29
end S_X8_crowdState
set_option maxRecDepth 100000 in
set_option maxHeartbeats 4000000 in
theorem c_X8_crowdState (l : Launch) (D : va_G) (cy : Nat → ClassId) (ad : AD) (a_t a_t_now a_t_now_speeds a_t_slots a_t_slotsE_0 a_t_slotsE_1 a_t_slotsE_2 a_t_slotsE_3 : Nat) (g_t_0 : Value) (g_t_1 : Value) (g_t_2 : Value) (g_t_4 : Value) (g_t_5 : Value) (g_t_7 : Value) (g_t_8 : Value) (g_t_9 : Value) (g_t_10 : Value) (g_t_11 : Value) (g_t_12 : Value) (g_t_13 : Value) (g_t_now_0 : Value) (g_t_now_1 : Value) (g_t_now_3 : Value) (g_t_now_5 : Value) (g_t_now_6 : Value) (g_t_now_7 : Value) (g_t_now_8 : Value) (g_t_now_10 : Value) (g_t_now_11 : Value) (g_t_now_12 : Value) (g_t_now_13 : Value) (g_t_now_14 : Value) (g_t_now_15 : Value) (g_t_now_16 : Value) (g_t_slotsE_1 : Nat → Value) (g_t_slotsE_2 : Nat → Value) (g_t_slotsE_3 : Nat → Value) (x1 : Int) (x2 : Int) (c_now_parts : Int) (c_now_sided : Int) (c_now_speeds : Int → Int) (c_slotsE_held : Int → Int) (F : Nat) {v : Int} (h : m_X8_crowdState F x1 x2 c_now_parts c_now_sided c_now_speeds c_slotsE_held = some v) : Ct l yX8_crowdState cX8_crowdState 3 (some .int) { frames := 2, cells := 0, slots := 0, locals := 45 } D cy ad [.ref a_t, .int (wI x1), .int (wI x2)] (W_X8_crowdState cy a_t a_t_now a_t_now_speeds a_t_slots a_t_slotsE_0 a_t_slotsE_1 a_t_slotsE_2 a_t_slotsE_3 g_t_0 g_t_1 g_t_2 g_t_4 g_t_5 g_t_7 g_t_8 g_t_9 g_t_10 g_t_11 g_t_12 g_t_13 g_t_now_0 g_t_now_1 g_t_now_3 g_t_now_5 g_t_now_6 g_t_now_7 g_t_now_8 g_t_now_10 g_t_now_11 g_t_now_12 g_t_now_13 g_t_now_14 g_t_now_15 g_t_now_16 g_t_slotsE_1 g_t_slotsE_2 g_t_slotsE_3 c_now_parts c_now_sided c_now_speeds c_slotsE_held) (W_X8_crowdState cy a_t a_t_now a_t_now_speeds a_t_slots a_t_slotsE_0 a_t_slotsE_1 a_t_slotsE_2 a_t_slotsE_3 g_t_0 g_t_1 g_t_2 g_t_4 g_t_5 g_t_7 g_t_8 g_t_9 g_t_10 g_t_11 g_t_12 g_t_13 g_t_now_0 g_t_now_1 g_t_now_3 g_t_now_5 g_t_now_6 g_t_now_7 g_t_now_8 g_t_now_10 g_t_now_11 g_t_now_12 g_t_now_13 g_t_now_14 g_t_now_15 g_t_now_16 g_t_slotsE_1 g_t_slotsE_2 g_t_slotsE_3 c_now_parts c_now_sided c_now_speeds c_slotsE_held) (some (.int (wI v))) := by
  refine Ct.introI (j := 0) (plainFor_of_name (by decide)) rfl rfl (fun E C e1 e2 e3 e4 e5 hret => ?_)
  subst e1; subst e2; subst e3; subst e4
  exact wm_X8_crowdState C e5 h hret
-- MovingStair.openCrowd(III)I
def W_X8_openCrowd (cy : Nat → ClassId) (a_t a_t_now a_t_now_speeds a_t_queue a_t_slots a_t_slotsE_0 a_t_slotsE_1 a_t_slotsE_2 a_t_slotsE_3 a_t_slotsE_numbers_0 a_t_slotsE_numbers_1 a_t_slotsE_numbers_2 a_t_slotsE_numbers_3 a_t_told : Nat) (g_t_0 : Value) (g_t_1 : Value) (g_t_2 : Value) (g_t_4 : Value) (g_t_5 : Value) (g_t_7 : Value) (g_t_8 : Value) (g_t_9 : Value) (g_t_11 : Value) (g_t_13 : Value) (g_t_now_0 : Value) (g_t_now_1 : Value) (g_t_now_3 : Value) (g_t_now_5 : Value) (g_t_now_6 : Value) (g_t_now_7 : Value) (g_t_now_8 : Value) (g_t_now_14 : Value) (g_t_now_15 : Value) (g_t_now_16 : Value) (g_t_queue_3 : Value) (g_t_queue_4 : Value) (g_t_queue_5 : Value) (g_t_queue_6 : Value) (g_t_queue_7 : Value) (g_t_queue_8 : Value) (g_t_slotsE_1 : Nat → Value) (c_now_parts : Int) (c_now_sided : Int) (c_now_sideStand : Int) (c_now_sideWalk : Int) (c_now_sidePace : Int) (c_now_sideWould : Int) (c_now_speeds : Int → Int) (c_queue_endless : Int) (c_queue_waited : Int) (c_queue_cleared : Int) (c_slotsE_held : Int → Int) (c_slotsE_size : Int → Int) (c_slotsE_numbers : Int → Int → Int) (c_told_above : Int) (c_told_below : Int) : va_W := [(a_t, .inr (8, [g_t_0, g_t_1, g_t_2, .ref a_t_now, g_t_4, g_t_5, .ref a_t_slots, g_t_7, g_t_8, g_t_9, .ref a_t_queue, g_t_11, .ref a_t_told, g_t_13])), (a_t_now, .inr (2, [g_t_now_0, g_t_now_1, .int (wI c_now_parts), g_t_now_3, .ref a_t_now_speeds, g_t_now_5, g_t_now_6, g_t_now_7, g_t_now_8, .int (wI c_now_sided), .int (wI c_now_sideStand), .int (wI c_now_sideWalk), .int (wI c_now_sidePace), .int (wI c_now_sideWould), g_t_now_14, g_t_now_15, g_t_now_16])), (a_t_now_speeds, .inl (cy 1, 4, .inl (aI c_now_speeds))), (a_t_queue, .inr (3, [.int (wI c_queue_endless), .long (wJ c_queue_waited), .int (wI c_queue_cleared), g_t_queue_3, g_t_queue_4, g_t_queue_5, g_t_queue_6, g_t_queue_7, g_t_queue_8])), (a_t_slots, .inl (cy 5, 4, .inr (.inr (.inr (.inr (selO [a_t_slotsE_0, a_t_slotsE_1, a_t_slotsE_2, a_t_slotsE_3])))))), (a_t_slotsE_0, .inr (5, [.int (wI (c_slotsE_held 0)), g_t_slotsE_1 0, .int (wI (c_slotsE_size 0)), .ref a_t_slotsE_numbers_0])), (a_t_slotsE_1, .inr (5, [.int (wI (c_slotsE_held 1)), g_t_slotsE_1 1, .int (wI (c_slotsE_size 1)), .ref a_t_slotsE_numbers_1])), (a_t_slotsE_2, .inr (5, [.int (wI (c_slotsE_held 2)), g_t_slotsE_1 2, .int (wI (c_slotsE_size 2)), .ref a_t_slotsE_numbers_2])), (a_t_slotsE_3, .inr (5, [.int (wI (c_slotsE_held 3)), g_t_slotsE_1 3, .int (wI (c_slotsE_size 3)), .ref a_t_slotsE_numbers_3])), (a_t_slotsE_numbers_0, .inl (cy 2, 60, .inr (.inl (aJ (c_slotsE_numbers 0))))), (a_t_slotsE_numbers_1, .inl (cy 2, 60, .inr (.inl (aJ (c_slotsE_numbers 1))))), (a_t_slotsE_numbers_2, .inl (cy 2, 60, .inr (.inl (aJ (c_slotsE_numbers 2))))), (a_t_slotsE_numbers_3, .inl (cy 2, 60, .inr (.inl (aJ (c_slotsE_numbers 3))))), (a_t_told, .inr (1, [.long (wJ c_told_above), .long (wJ c_told_below)]))]
def mb_X8_openCrowd_87 (F : Nat) (x1 : Int) (c_slotsE_size : Int → Int) (c_slotsE_numbers : Int → Int → Int) (c_told_above : Int) (c_told_below : Int) : Option (Int × Int × Int × Int × Int × Int) :=
  chk (0 ≤ x1 ∧ x1 < 4) <| bnd1 (m_X1_whole F c_told_above c_told_below) fun r1 => bnd3 (m_X3_pass F r1 (c_slotsE_size x1) (c_slotsE_numbers x1)) fun o3 o4 o5 => some (0, o3, o4, o5, c_told_above, c_told_below)
def mb_X8_openCrowd_18 (F : Nat) (x1 : Int) (x2 : Int) (x3 : Int) (s0 : Int) (c_now_sideStand : Int) (c_now_sideWalk : Int) (c_now_sidePace : Int) (c_now_sideWould : Int) (c_now_speeds : Int → Int) (c_queue_endless : Int) (c_queue_waited : Int) (c_queue_cleared : Int) (c_slotsE_size : Int → Int) (c_slotsE_numbers : Int → Int → Int) (c_told_above : Int) (c_told_below : Int) : Option (Int × Int × Int × Int × Int × Int) :=
  if wI s0 = wI 0 then
    (chk (0 ≤ x1 ∧ x1 < 4) <| bnd1 (m_X5_hasOut F 0 1 0 999 (c_slotsE_size x1) (c_slotsE_numbers x1)) fun r1 => if wI r1 = wI 0 then
    (if wI x3 = wI 0 then
    (bnd2 (m_X2_putStanding F x2 c_now_sideStand c_now_speeds) fun o3 o4 => mb_X8_openCrowd_87 F x1 c_slotsE_size c_slotsE_numbers o3 o4)
  else
    (bnd2 (m_X2_putWalking F x2 c_now_sideWould c_now_sideStand c_now_sideWalk c_now_sidePace c_now_speeds) fun o3 o4 => mb_X8_openCrowd_87 F x1 c_slotsE_size c_slotsE_numbers o3 o4))
  else
    (some ((-2), c_queue_endless, c_queue_waited, c_queue_cleared, c_told_above, c_told_below)))
  else
    (some (s0, c_queue_endless, c_queue_waited, c_queue_cleared, c_told_above, c_told_below))
def m_X8_openCrowd (F : Nat) (x1 : Int) (x2 : Int) (x3 : Int) (c_now_parts : Int) (c_now_sided : Int) (c_now_sideStand : Int) (c_now_sideWalk : Int) (c_now_sidePace : Int) (c_now_sideWould : Int) (c_now_speeds : Int → Int) (c_queue_endless : Int) (c_queue_waited : Int) (c_queue_cleared : Int) (c_slotsE_held : Int → Int) (c_slotsE_size : Int → Int) (c_slotsE_numbers : Int → Int → Int) (c_told_above : Int) (c_told_below : Int) : Option (Int × Int × Int × Int × Int × Int) :=
  bnd1 (m_X8_isSide F x3) fun r1 => if wI r1 = wI 0 then
    (mb_X8_openCrowd_18 F x1 x2 x3 (-2) c_now_sideStand c_now_sideWalk c_now_sidePace c_now_sideWould c_now_speeds c_queue_endless c_queue_waited c_queue_cleared c_slotsE_size c_slotsE_numbers c_told_above c_told_below)
  else
    (bnd1 (m_X8_crowdState F x1 x2 c_now_parts c_now_sided c_now_speeds c_slotsE_held) fun r3 => mb_X8_openCrowd_18 F x1 x2 x3 r3 c_now_sideStand c_now_sideWalk c_now_sidePace c_now_sideWould c_now_speeds c_queue_endless c_queue_waited c_queue_cleared c_slotsE_size c_slotsE_numbers c_told_above c_told_below)
section S_X8_openCrowd
variable {E : EE} {a_t a_t_now a_t_now_speeds a_t_queue a_t_slots a_t_slotsE_0 a_t_slotsE_1 a_t_slotsE_2 a_t_slotsE_3 a_t_slotsE_numbers_0 a_t_slotsE_numbers_1 a_t_slotsE_numbers_2 a_t_slotsE_numbers_3 a_t_told : Nat} {g_t_0 : Value} {g_t_1 : Value} {g_t_2 : Value} {g_t_4 : Value} {g_t_5 : Value} {g_t_7 : Value} {g_t_8 : Value} {g_t_9 : Value} {g_t_11 : Value} {g_t_13 : Value} {g_t_now_0 : Value} {g_t_now_1 : Value} {g_t_now_3 : Value} {g_t_now_5 : Value} {g_t_now_6 : Value} {g_t_now_7 : Value} {g_t_now_8 : Value} {g_t_now_14 : Value} {g_t_now_15 : Value} {g_t_now_16 : Value} {g_t_queue_3 : Value} {g_t_queue_4 : Value} {g_t_queue_5 : Value} {g_t_queue_6 : Value} {g_t_queue_7 : Value} {g_t_queue_8 : Value} {g_t_slotsE_1 : Nat → Value}
set_option maxRecDepth 100000 in
set_option maxHeartbeats 4000000 in
theorem wb_X8_openCrowd_87 {F : Nat} {v : Int × Int × Int × Int × Int × Int} {x1 : Int} {c_slotsE_size : Int → Int} {c_slotsE_numbers : Int → Int → Int} {c_told_above : Int} {c_told_below : Int} {c_now_parts : Int} {c_now_sided : Int} {c_now_sideStand : Int} {c_now_sideWalk : Int} {c_now_sidePace : Int} {c_now_sideWould : Int} {c_now_speeds : Int → Int} {c_queue_endless : Int} {c_queue_waited : Int} {c_queue_cleared : Int} {c_slotsE_held : Int → Int} (C : Cx E cX8_openCrowd RX8 { frames := 3, cells := 0, slots := 0, locals := 67 }) (hN : eN E = 5) (h : mb_X8_openCrowd_87 F x1 c_slotsE_size c_slotsE_numbers c_told_above c_told_below = some v) (hret : ∀ (pc : Nat) (L : List (Option Value)), decode cX8_openCrowd pc = .ok (.ireturn, 1) → GG E 0 0 (W_X8_openCrowd (eCy E) a_t a_t_now a_t_now_speeds a_t_queue a_t_slots a_t_slotsE_0 a_t_slotsE_1 a_t_slotsE_2 a_t_slotsE_3 a_t_slotsE_numbers_0 a_t_slotsE_numbers_1 a_t_slotsE_numbers_2 a_t_slotsE_numbers_3 a_t_told g_t_0 g_t_1 g_t_2 g_t_4 g_t_5 g_t_7 g_t_8 g_t_9 g_t_11 g_t_13 g_t_now_0 g_t_now_1 g_t_now_3 g_t_now_5 g_t_now_6 g_t_now_7 g_t_now_8 g_t_now_14 g_t_now_15 g_t_now_16 g_t_queue_3 g_t_queue_4 g_t_queue_5 g_t_queue_6 g_t_queue_7 g_t_queue_8 g_t_slotsE_1 c_now_parts c_now_sided c_now_sideStand c_now_sideWalk c_now_sidePace c_now_sideWould c_now_speeds (v.2.1) (v.2.2.1) (v.2.2.2.1) c_slotsE_held c_slotsE_size c_slotsE_numbers (v.2.2.2.2.1) (v.2.2.2.2.2)) L pc [.int (wI (v.1))]) : GG E 0 0 (W_X8_openCrowd (eCy E) a_t a_t_now a_t_now_speeds a_t_queue a_t_slots a_t_slotsE_0 a_t_slotsE_1 a_t_slotsE_2 a_t_slotsE_3 a_t_slotsE_numbers_0 a_t_slotsE_numbers_1 a_t_slotsE_numbers_2 a_t_slotsE_numbers_3 a_t_told g_t_0 g_t_1 g_t_2 g_t_4 g_t_5 g_t_7 g_t_8 g_t_9 g_t_11 g_t_13 g_t_now_0 g_t_now_1 g_t_now_3 g_t_now_5 g_t_now_6 g_t_now_7 g_t_now_8 g_t_now_14 g_t_now_15 g_t_now_16 g_t_queue_3 g_t_queue_4 g_t_queue_5 g_t_queue_6 g_t_queue_7 g_t_queue_8 g_t_slotsE_1 c_now_parts c_now_sided c_now_sideStand c_now_sideWalk c_now_sidePace c_now_sideWould c_now_speeds c_queue_endless c_queue_waited c_queue_cleared c_slotsE_held c_slotsE_size c_slotsE_numbers c_told_above c_told_below) [some (.ref a_t), some (.int (wI x1)), none, none, none] 87 [] := by
  unfold mb_X8_openCrowd_87 at h
  refine g_aload_n 0 C dX8_openCrowd_87 rfl rfl ?_
  refine g_get C fg_X8_64 0 rfl rfl dX8_openCrowd_88 ?_
  refine g_aload_n 0 C dX8_openCrowd_91 rfl rfl ?_
  refine g_get C fg_X8_36 0 rfl rfl dX8_openCrowd_92 ?_
  refine g_iload_n 1 C dX8_openCrowd_95 rfl rfl ?_
  obtain ⟨hc1, h⟩ := chk_some h
  obtain rfl | rfl | rfl | rfl : x1 = 0 ∨ x1 = 1 ∨ x1 = 2 ∨ x1 = 3 := by omega
  · refine g_aald C 4 (t0 := 5) rfl rfl (by decide) rfl dX8_openCrowd_96 ?_
    refine g_aload_n 0 C dX8_openCrowd_97 rfl rfl ?_
    refine g_get C fg_X8_78 0 rfl rfl dX8_openCrowd_98 ?_
    obtain ⟨r2, hr3, h⟩ := bnd1_some h
    refine g_callJ [13] [0, 1, 2, 3, 4, 5, 6, 7, 8, 9, 10, 11, 12] [0, 1, 2, 3, 4, 5, 6, 7, 8, 9, 10, 11, 12, 13] C mt_X8_355 (c_X1_whole _ _ _ _ a_t_told c_told_above c_told_below F hr3) (q0 := 0) rfl (ci := 1) rfl rfl rfl (ws2 := (W_X8_openCrowd (eCy E) a_t a_t_now a_t_now_speeds a_t_queue a_t_slots a_t_slotsE_0 a_t_slotsE_1 a_t_slotsE_2 a_t_slotsE_3 a_t_slotsE_numbers_0 a_t_slotsE_numbers_1 a_t_slotsE_numbers_2 a_t_slotsE_numbers_3 a_t_told g_t_0 g_t_1 g_t_2 g_t_4 g_t_5 g_t_7 g_t_8 g_t_9 g_t_11 g_t_13 g_t_now_0 g_t_now_1 g_t_now_3 g_t_now_5 g_t_now_6 g_t_now_7 g_t_now_8 g_t_now_14 g_t_now_15 g_t_now_16 g_t_queue_3 g_t_queue_4 g_t_queue_5 g_t_queue_6 g_t_queue_7 g_t_queue_8 g_t_slotsE_1 c_now_parts c_now_sided c_now_sideStand c_now_sideWalk c_now_sidePace c_now_sideWould c_now_speeds c_queue_endless c_queue_waited c_queue_cleared c_slotsE_held c_slotsE_size c_slotsE_numbers c_told_above c_told_below)) rfl rfl rfl (rest := [.ref a_t_slotsE_0, .ref a_t_queue]) rfl rfl rfl dX8_openCrowd_101 ?_
    obtain ⟨o4, o5, o6, hr7, h⟩ := bnd3_some h
    refine g_callV [3, 5, 9] [0, 1, 2, 4, 6, 7, 8, 10, 11, 12, 13] [0, 1, 2, 11, 3, 12, 4, 5, 6, 13, 7, 8, 9, 10] C mt_X8_359 (c_X3_pass _ _ _ _ a_t_queue a_t_slotsE_0 a_t_slotsE_numbers_0 (g_t_queue_3) (g_t_queue_4) (g_t_queue_5) (g_t_queue_6) (g_t_queue_7) (g_t_queue_8) (.int (wI (c_slotsE_held 0))) (g_t_slotsE_1 0) r2 c_queue_endless c_queue_waited c_queue_cleared (c_slotsE_size (0)) (c_slotsE_numbers (0)) F hr7) (q0 := 0) rfl (ci := 3) rfl rfl rfl (ws2 := (W_X8_openCrowd (eCy E) a_t a_t_now a_t_now_speeds a_t_queue a_t_slots a_t_slotsE_0 a_t_slotsE_1 a_t_slotsE_2 a_t_slotsE_3 a_t_slotsE_numbers_0 a_t_slotsE_numbers_1 a_t_slotsE_numbers_2 a_t_slotsE_numbers_3 a_t_told g_t_0 g_t_1 g_t_2 g_t_4 g_t_5 g_t_7 g_t_8 g_t_9 g_t_11 g_t_13 g_t_now_0 g_t_now_1 g_t_now_3 g_t_now_5 g_t_now_6 g_t_now_7 g_t_now_8 g_t_now_14 g_t_now_15 g_t_now_16 g_t_queue_3 g_t_queue_4 g_t_queue_5 g_t_queue_6 g_t_queue_7 g_t_queue_8 g_t_slotsE_1 c_now_parts c_now_sided c_now_sideStand c_now_sideWalk c_now_sidePace c_now_sideWould c_now_speeds o4 o5 o6 c_slotsE_held c_slotsE_size c_slotsE_numbers c_told_above c_told_below)) rfl rfl rfl (rest := []) rfl rfl rfl dX8_openCrowd_104 ?_
    refine g_iconst C dX8_openCrowd_107 ?_
    cases h
    exact hret 108 _ dX8_openCrowd_108
  · refine g_aald C 4 (t0 := 5) rfl rfl (by decide) rfl dX8_openCrowd_96 ?_
    refine g_aload_n 0 C dX8_openCrowd_97 rfl rfl ?_
    refine g_get C fg_X8_78 0 rfl rfl dX8_openCrowd_98 ?_
    obtain ⟨r2, hr3, h⟩ := bnd1_some h
    refine g_callJ [13] [0, 1, 2, 3, 4, 5, 6, 7, 8, 9, 10, 11, 12] [0, 1, 2, 3, 4, 5, 6, 7, 8, 9, 10, 11, 12, 13] C mt_X8_355 (c_X1_whole _ _ _ _ a_t_told c_told_above c_told_below F hr3) (q0 := 0) rfl (ci := 1) rfl rfl rfl (ws2 := (W_X8_openCrowd (eCy E) a_t a_t_now a_t_now_speeds a_t_queue a_t_slots a_t_slotsE_0 a_t_slotsE_1 a_t_slotsE_2 a_t_slotsE_3 a_t_slotsE_numbers_0 a_t_slotsE_numbers_1 a_t_slotsE_numbers_2 a_t_slotsE_numbers_3 a_t_told g_t_0 g_t_1 g_t_2 g_t_4 g_t_5 g_t_7 g_t_8 g_t_9 g_t_11 g_t_13 g_t_now_0 g_t_now_1 g_t_now_3 g_t_now_5 g_t_now_6 g_t_now_7 g_t_now_8 g_t_now_14 g_t_now_15 g_t_now_16 g_t_queue_3 g_t_queue_4 g_t_queue_5 g_t_queue_6 g_t_queue_7 g_t_queue_8 g_t_slotsE_1 c_now_parts c_now_sided c_now_sideStand c_now_sideWalk c_now_sidePace c_now_sideWould c_now_speeds c_queue_endless c_queue_waited c_queue_cleared c_slotsE_held c_slotsE_size c_slotsE_numbers c_told_above c_told_below)) rfl rfl rfl (rest := [.ref a_t_slotsE_1, .ref a_t_queue]) rfl rfl rfl dX8_openCrowd_101 ?_
    obtain ⟨o4, o5, o6, hr7, h⟩ := bnd3_some h
    refine g_callV [3, 6, 10] [0, 1, 2, 4, 5, 7, 8, 9, 11, 12, 13] [0, 1, 2, 11, 3, 4, 12, 5, 6, 7, 13, 8, 9, 10] C mt_X8_359 (c_X3_pass _ _ _ _ a_t_queue a_t_slotsE_1 a_t_slotsE_numbers_1 (g_t_queue_3) (g_t_queue_4) (g_t_queue_5) (g_t_queue_6) (g_t_queue_7) (g_t_queue_8) (.int (wI (c_slotsE_held 1))) (g_t_slotsE_1 1) r2 c_queue_endless c_queue_waited c_queue_cleared (c_slotsE_size (1)) (c_slotsE_numbers (1)) F hr7) (q0 := 0) rfl (ci := 3) rfl rfl rfl (ws2 := (W_X8_openCrowd (eCy E) a_t a_t_now a_t_now_speeds a_t_queue a_t_slots a_t_slotsE_0 a_t_slotsE_1 a_t_slotsE_2 a_t_slotsE_3 a_t_slotsE_numbers_0 a_t_slotsE_numbers_1 a_t_slotsE_numbers_2 a_t_slotsE_numbers_3 a_t_told g_t_0 g_t_1 g_t_2 g_t_4 g_t_5 g_t_7 g_t_8 g_t_9 g_t_11 g_t_13 g_t_now_0 g_t_now_1 g_t_now_3 g_t_now_5 g_t_now_6 g_t_now_7 g_t_now_8 g_t_now_14 g_t_now_15 g_t_now_16 g_t_queue_3 g_t_queue_4 g_t_queue_5 g_t_queue_6 g_t_queue_7 g_t_queue_8 g_t_slotsE_1 c_now_parts c_now_sided c_now_sideStand c_now_sideWalk c_now_sidePace c_now_sideWould c_now_speeds o4 o5 o6 c_slotsE_held c_slotsE_size c_slotsE_numbers c_told_above c_told_below)) rfl rfl rfl (rest := []) rfl rfl rfl dX8_openCrowd_104 ?_
    refine g_iconst C dX8_openCrowd_107 ?_
    cases h
    exact hret 108 _ dX8_openCrowd_108
  · refine g_aald C 4 (t0 := 5) rfl rfl (by decide) rfl dX8_openCrowd_96 ?_
    refine g_aload_n 0 C dX8_openCrowd_97 rfl rfl ?_
    refine g_get C fg_X8_78 0 rfl rfl dX8_openCrowd_98 ?_
    obtain ⟨r2, hr3, h⟩ := bnd1_some h
    refine g_callJ [13] [0, 1, 2, 3, 4, 5, 6, 7, 8, 9, 10, 11, 12] [0, 1, 2, 3, 4, 5, 6, 7, 8, 9, 10, 11, 12, 13] C mt_X8_355 (c_X1_whole _ _ _ _ a_t_told c_told_above c_told_below F hr3) (q0 := 0) rfl (ci := 1) rfl rfl rfl (ws2 := (W_X8_openCrowd (eCy E) a_t a_t_now a_t_now_speeds a_t_queue a_t_slots a_t_slotsE_0 a_t_slotsE_1 a_t_slotsE_2 a_t_slotsE_3 a_t_slotsE_numbers_0 a_t_slotsE_numbers_1 a_t_slotsE_numbers_2 a_t_slotsE_numbers_3 a_t_told g_t_0 g_t_1 g_t_2 g_t_4 g_t_5 g_t_7 g_t_8 g_t_9 g_t_11 g_t_13 g_t_now_0 g_t_now_1 g_t_now_3 g_t_now_5 g_t_now_6 g_t_now_7 g_t_now_8 g_t_now_14 g_t_now_15 g_t_now_16 g_t_queue_3 g_t_queue_4 g_t_queue_5 g_t_queue_6 g_t_queue_7 g_t_queue_8 g_t_slotsE_1 c_now_parts c_now_sided c_now_sideStand c_now_sideWalk c_now_sidePace c_now_sideWould c_now_speeds c_queue_endless c_queue_waited c_queue_cleared c_slotsE_held c_slotsE_size c_slotsE_numbers c_told_above c_told_below)) rfl rfl rfl (rest := [.ref a_t_slotsE_2, .ref a_t_queue]) rfl rfl rfl dX8_openCrowd_101 ?_
    obtain ⟨o4, o5, o6, hr7, h⟩ := bnd3_some h
    refine g_callV [3, 7, 11] [0, 1, 2, 4, 5, 6, 8, 9, 10, 12, 13] [0, 1, 2, 11, 3, 4, 5, 12, 6, 7, 8, 13, 9, 10] C mt_X8_359 (c_X3_pass _ _ _ _ a_t_queue a_t_slotsE_2 a_t_slotsE_numbers_2 (g_t_queue_3) (g_t_queue_4) (g_t_queue_5) (g_t_queue_6) (g_t_queue_7) (g_t_queue_8) (.int (wI (c_slotsE_held 2))) (g_t_slotsE_1 2) r2 c_queue_endless c_queue_waited c_queue_cleared (c_slotsE_size (2)) (c_slotsE_numbers (2)) F hr7) (q0 := 0) rfl (ci := 3) rfl rfl rfl (ws2 := (W_X8_openCrowd (eCy E) a_t a_t_now a_t_now_speeds a_t_queue a_t_slots a_t_slotsE_0 a_t_slotsE_1 a_t_slotsE_2 a_t_slotsE_3 a_t_slotsE_numbers_0 a_t_slotsE_numbers_1 a_t_slotsE_numbers_2 a_t_slotsE_numbers_3 a_t_told g_t_0 g_t_1 g_t_2 g_t_4 g_t_5 g_t_7 g_t_8 g_t_9 g_t_11 g_t_13 g_t_now_0 g_t_now_1 g_t_now_3 g_t_now_5 g_t_now_6 g_t_now_7 g_t_now_8 g_t_now_14 g_t_now_15 g_t_now_16 g_t_queue_3 g_t_queue_4 g_t_queue_5 g_t_queue_6 g_t_queue_7 g_t_queue_8 g_t_slotsE_1 c_now_parts c_now_sided c_now_sideStand c_now_sideWalk c_now_sidePace c_now_sideWould c_now_speeds o4 o5 o6 c_slotsE_held c_slotsE_size c_slotsE_numbers c_told_above c_told_below)) rfl rfl rfl (rest := []) rfl rfl rfl dX8_openCrowd_104 ?_
    refine g_iconst C dX8_openCrowd_107 ?_
    cases h
    exact hret 108 _ dX8_openCrowd_108
  · refine g_aald C 4 (t0 := 5) rfl rfl (by decide) rfl dX8_openCrowd_96 ?_
    refine g_aload_n 0 C dX8_openCrowd_97 rfl rfl ?_
    refine g_get C fg_X8_78 0 rfl rfl dX8_openCrowd_98 ?_
    obtain ⟨r2, hr3, h⟩ := bnd1_some h
    refine g_callJ [13] [0, 1, 2, 3, 4, 5, 6, 7, 8, 9, 10, 11, 12] [0, 1, 2, 3, 4, 5, 6, 7, 8, 9, 10, 11, 12, 13] C mt_X8_355 (c_X1_whole _ _ _ _ a_t_told c_told_above c_told_below F hr3) (q0 := 0) rfl (ci := 1) rfl rfl rfl (ws2 := (W_X8_openCrowd (eCy E) a_t a_t_now a_t_now_speeds a_t_queue a_t_slots a_t_slotsE_0 a_t_slotsE_1 a_t_slotsE_2 a_t_slotsE_3 a_t_slotsE_numbers_0 a_t_slotsE_numbers_1 a_t_slotsE_numbers_2 a_t_slotsE_numbers_3 a_t_told g_t_0 g_t_1 g_t_2 g_t_4 g_t_5 g_t_7 g_t_8 g_t_9 g_t_11 g_t_13 g_t_now_0 g_t_now_1 g_t_now_3 g_t_now_5 g_t_now_6 g_t_now_7 g_t_now_8 g_t_now_14 g_t_now_15 g_t_now_16 g_t_queue_3 g_t_queue_4 g_t_queue_5 g_t_queue_6 g_t_queue_7 g_t_queue_8 g_t_slotsE_1 c_now_parts c_now_sided c_now_sideStand c_now_sideWalk c_now_sidePace c_now_sideWould c_now_speeds c_queue_endless c_queue_waited c_queue_cleared c_slotsE_held c_slotsE_size c_slotsE_numbers c_told_above c_told_below)) rfl rfl rfl (rest := [.ref a_t_slotsE_3, .ref a_t_queue]) rfl rfl rfl dX8_openCrowd_101 ?_
    obtain ⟨o4, o5, o6, hr7, h⟩ := bnd3_some h
    refine g_callV [3, 8, 12] [0, 1, 2, 4, 5, 6, 7, 9, 10, 11, 13] [0, 1, 2, 11, 3, 4, 5, 6, 12, 7, 8, 9, 13, 10] C mt_X8_359 (c_X3_pass _ _ _ _ a_t_queue a_t_slotsE_3 a_t_slotsE_numbers_3 (g_t_queue_3) (g_t_queue_4) (g_t_queue_5) (g_t_queue_6) (g_t_queue_7) (g_t_queue_8) (.int (wI (c_slotsE_held 3))) (g_t_slotsE_1 3) r2 c_queue_endless c_queue_waited c_queue_cleared (c_slotsE_size (3)) (c_slotsE_numbers (3)) F hr7) (q0 := 0) rfl (ci := 3) rfl rfl rfl (ws2 := (W_X8_openCrowd (eCy E) a_t a_t_now a_t_now_speeds a_t_queue a_t_slots a_t_slotsE_0 a_t_slotsE_1 a_t_slotsE_2 a_t_slotsE_3 a_t_slotsE_numbers_0 a_t_slotsE_numbers_1 a_t_slotsE_numbers_2 a_t_slotsE_numbers_3 a_t_told g_t_0 g_t_1 g_t_2 g_t_4 g_t_5 g_t_7 g_t_8 g_t_9 g_t_11 g_t_13 g_t_now_0 g_t_now_1 g_t_now_3 g_t_now_5 g_t_now_6 g_t_now_7 g_t_now_8 g_t_now_14 g_t_now_15 g_t_now_16 g_t_queue_3 g_t_queue_4 g_t_queue_5 g_t_queue_6 g_t_queue_7 g_t_queue_8 g_t_slotsE_1 c_now_parts c_now_sided c_now_sideStand c_now_sideWalk c_now_sidePace c_now_sideWould c_now_speeds o4 o5 o6 c_slotsE_held c_slotsE_size c_slotsE_numbers c_told_above c_told_below)) rfl rfl rfl (rest := []) rfl rfl rfl dX8_openCrowd_104 ?_
    refine g_iconst C dX8_openCrowd_107 ?_
    cases h
    exact hret 108 _ dX8_openCrowd_108
set_option maxRecDepth 100000 in
set_option maxHeartbeats 4000000 in
theorem wb_X8_openCrowd_18 {F : Nat} {v : Int × Int × Int × Int × Int × Int} {x1 : Int} {x2 : Int} {x3 : Int} {s0 : Int} {c_now_sideStand : Int} {c_now_sideWalk : Int} {c_now_sidePace : Int} {c_now_sideWould : Int} {c_now_speeds : Int → Int} {c_queue_endless : Int} {c_queue_waited : Int} {c_queue_cleared : Int} {c_slotsE_size : Int → Int} {c_slotsE_numbers : Int → Int → Int} {c_told_above : Int} {c_told_below : Int} {c_now_parts : Int} {c_now_sided : Int} {c_slotsE_held : Int → Int} (C : Cx E cX8_openCrowd RX8 { frames := 3, cells := 0, slots := 0, locals := 67 }) (hN : eN E = 5) (h : mb_X8_openCrowd_18 F x1 x2 x3 s0 c_now_sideStand c_now_sideWalk c_now_sidePace c_now_sideWould c_now_speeds c_queue_endless c_queue_waited c_queue_cleared c_slotsE_size c_slotsE_numbers c_told_above c_told_below = some v) (hret : ∀ (pc : Nat) (L : List (Option Value)), decode cX8_openCrowd pc = .ok (.ireturn, 1) → GG E 0 0 (W_X8_openCrowd (eCy E) a_t a_t_now a_t_now_speeds a_t_queue a_t_slots a_t_slotsE_0 a_t_slotsE_1 a_t_slotsE_2 a_t_slotsE_3 a_t_slotsE_numbers_0 a_t_slotsE_numbers_1 a_t_slotsE_numbers_2 a_t_slotsE_numbers_3 a_t_told g_t_0 g_t_1 g_t_2 g_t_4 g_t_5 g_t_7 g_t_8 g_t_9 g_t_11 g_t_13 g_t_now_0 g_t_now_1 g_t_now_3 g_t_now_5 g_t_now_6 g_t_now_7 g_t_now_8 g_t_now_14 g_t_now_15 g_t_now_16 g_t_queue_3 g_t_queue_4 g_t_queue_5 g_t_queue_6 g_t_queue_7 g_t_queue_8 g_t_slotsE_1 c_now_parts c_now_sided c_now_sideStand c_now_sideWalk c_now_sidePace c_now_sideWould c_now_speeds (v.2.1) (v.2.2.1) (v.2.2.2.1) c_slotsE_held c_slotsE_size c_slotsE_numbers (v.2.2.2.2.1) (v.2.2.2.2.2)) L pc [.int (wI (v.1))]) : GG E 0 0 (W_X8_openCrowd (eCy E) a_t a_t_now a_t_now_speeds a_t_queue a_t_slots a_t_slotsE_0 a_t_slotsE_1 a_t_slotsE_2 a_t_slotsE_3 a_t_slotsE_numbers_0 a_t_slotsE_numbers_1 a_t_slotsE_numbers_2 a_t_slotsE_numbers_3 a_t_told g_t_0 g_t_1 g_t_2 g_t_4 g_t_5 g_t_7 g_t_8 g_t_9 g_t_11 g_t_13 g_t_now_0 g_t_now_1 g_t_now_3 g_t_now_5 g_t_now_6 g_t_now_7 g_t_now_8 g_t_now_14 g_t_now_15 g_t_now_16 g_t_queue_3 g_t_queue_4 g_t_queue_5 g_t_queue_6 g_t_queue_7 g_t_queue_8 g_t_slotsE_1 c_now_parts c_now_sided c_now_sideStand c_now_sideWalk c_now_sidePace c_now_sideWould c_now_speeds c_queue_endless c_queue_waited c_queue_cleared c_slotsE_held c_slotsE_size c_slotsE_numbers c_told_above c_told_below) [some (.ref a_t), some (.int (wI x1)), some (.int (wI x2)), some (.int (wI x3)), none] 18 [.int (wI s0)] := by
  unfold mb_X8_openCrowd_18 at h
  refine g_istore C hN dX8_openCrowd_18 rfl (L' := [some (.ref a_t), some (.int (wI x1)), some (.int (wI x2)), some (.int (wI x3)), some (.int (wI s0))]) rfl ?_
  refine g_iload C dX8_openCrowd_20 rfl ?_
  refine g_if_eq 28 C dX8_openCrowd_22 (by decide) h (fun h => ?_) (fun h => ?_)
  · refine g_aload_n 0 C dX8_openCrowd_28 rfl rfl ?_
    refine g_get C fg_X8_36 0 rfl rfl dX8_openCrowd_29 ?_
    refine g_iload_n 1 C dX8_openCrowd_32 rfl rfl ?_
    obtain ⟨hc1, h⟩ := chk_some h
    obtain rfl | rfl | rfl | rfl : x1 = 0 ∨ x1 = 1 ∨ x1 = 2 ∨ x1 = 3 := by omega
    · refine g_aald C 4 (t0 := 5) rfl rfl (by decide) rfl dX8_openCrowd_33 ?_
      refine g_iconst C dX8_openCrowd_34 ?_
      refine g_iconst C dX8_openCrowd_35 ?_
      refine g_lconst (x := 0) C dX8_openCrowd_36 (by decide) ?_
      refine g_ldc2 (v := 999) C mc_X8_349 dX8_openCrowd_37 ?_
      obtain ⟨r2, hr3, h⟩ := bnd1_some h
      refine g_callI [5, 9] [0, 1, 2, 3, 4, 6, 7, 8, 10, 11, 12, 13] [0, 1, 2, 3, 4, 12, 5, 6, 7, 13, 8, 9, 10, 11] C mt_X8_351 (c_X5_hasOut _ _ _ _ a_t_slotsE_0 a_t_slotsE_numbers_0 (.int (wI (c_slotsE_held 0))) (g_t_slotsE_1 0) 0 1 0 999 (c_slotsE_size (0)) (c_slotsE_numbers (0)) F hr3) (q0 := 0) rfl (ci := 5) rfl rfl rfl (ws2 := (W_X8_openCrowd (eCy E) a_t a_t_now a_t_now_speeds a_t_queue a_t_slots a_t_slotsE_0 a_t_slotsE_1 a_t_slotsE_2 a_t_slotsE_3 a_t_slotsE_numbers_0 a_t_slotsE_numbers_1 a_t_slotsE_numbers_2 a_t_slotsE_numbers_3 a_t_told g_t_0 g_t_1 g_t_2 g_t_4 g_t_5 g_t_7 g_t_8 g_t_9 g_t_11 g_t_13 g_t_now_0 g_t_now_1 g_t_now_3 g_t_now_5 g_t_now_6 g_t_now_7 g_t_now_8 g_t_now_14 g_t_now_15 g_t_now_16 g_t_queue_3 g_t_queue_4 g_t_queue_5 g_t_queue_6 g_t_queue_7 g_t_queue_8 g_t_slotsE_1 c_now_parts c_now_sided c_now_sideStand c_now_sideWalk c_now_sidePace c_now_sideWould c_now_speeds c_queue_endless c_queue_waited c_queue_cleared c_slotsE_held c_slotsE_size c_slotsE_numbers c_told_above c_told_below)) rfl rfl rfl (rest := []) rfl rfl rfl dX8_openCrowd_40 ?_
      refine g_if_eq 49 C dX8_openCrowd_43 (by decide) h (fun h => ?_) (fun h => ?_)
      · refine g_iload_n 3 C dX8_openCrowd_49 rfl rfl ?_
        refine g_if_ne 68 C dX8_openCrowd_50 (by decide) h (fun h => ?_) (fun h => ?_)
        · refine g_aload_n 0 C dX8_openCrowd_68 rfl rfl ?_
          refine g_get C fg_X8_22 0 rfl rfl dX8_openCrowd_69 ?_
          refine g_iload_n 2 C dX8_openCrowd_72 rfl rfl ?_
          refine g_aload_n 0 C dX8_openCrowd_73 rfl rfl ?_
          refine g_get C fg_X8_22 0 rfl rfl dX8_openCrowd_74 ?_
          refine g_get C fg_X8_321 1 rfl rfl dX8_openCrowd_77 ?_
          refine g_st (st' := [.int (wI c_now_sideWould), .int (wI x2), .ref a_t_now]) rfl ?_
          refine g_aload_n 0 C dX8_openCrowd_80 rfl rfl ?_
          refine g_get C fg_X8_78 0 rfl rfl dX8_openCrowd_81 ?_
          obtain ⟨o4, o5, hr6, h⟩ := bnd2_some h
          refine g_callV [1, 13, 2] [0, 3, 4, 5, 6, 7, 8, 9, 10, 11, 12] [0, 11, 13, 1, 2, 3, 4, 5, 6, 7, 8, 9, 10, 12] C mt_X8_324 (c_X2_putWalking _ _ _ _ a_t_now a_t_told a_t_now_speeds (g_t_now_0) (g_t_now_1) (.int (wI c_now_parts)) (g_t_now_3) (g_t_now_5) (g_t_now_6) (g_t_now_7) (g_t_now_8) (.int (wI c_now_sided)) (.int (wI c_now_sideWould)) (g_t_now_14) (g_t_now_15) (g_t_now_16) x2 c_now_sideWould c_now_sideStand c_now_sideWalk c_now_sidePace c_told_above c_told_below c_now_speeds F hr6) (q0 := 0) rfl (ci := 2) rfl rfl rfl (ws2 := (W_X8_openCrowd (eCy E) a_t a_t_now a_t_now_speeds a_t_queue a_t_slots a_t_slotsE_0 a_t_slotsE_1 a_t_slotsE_2 a_t_slotsE_3 a_t_slotsE_numbers_0 a_t_slotsE_numbers_1 a_t_slotsE_numbers_2 a_t_slotsE_numbers_3 a_t_told g_t_0 g_t_1 g_t_2 g_t_4 g_t_5 g_t_7 g_t_8 g_t_9 g_t_11 g_t_13 g_t_now_0 g_t_now_1 g_t_now_3 g_t_now_5 g_t_now_6 g_t_now_7 g_t_now_8 g_t_now_14 g_t_now_15 g_t_now_16 g_t_queue_3 g_t_queue_4 g_t_queue_5 g_t_queue_6 g_t_queue_7 g_t_queue_8 g_t_slotsE_1 c_now_parts c_now_sided c_now_sideStand c_now_sideWalk c_now_sidePace c_now_sideWould c_now_speeds c_queue_endless c_queue_waited c_queue_cleared c_slotsE_held c_slotsE_size c_slotsE_numbers o4 o5)) rfl rfl rfl (rest := []) rfl rfl rfl dX8_openCrowd_84 ?_
          refine g_mask [true, true, false, false, false] (L' := [some (.ref a_t), some (.int (wI (0))), none, none, none]) rfl ?_
          exact wb_X8_openCrowd_87 C hN h hret
        · refine g_aload_n 0 C dX8_openCrowd_53 rfl rfl ?_
          refine g_get C fg_X8_22 0 rfl rfl dX8_openCrowd_54 ?_
          refine g_iload_n 2 C dX8_openCrowd_57 rfl rfl ?_
          refine g_aload_n 0 C dX8_openCrowd_58 rfl rfl ?_
          refine g_get C fg_X8_78 0 rfl rfl dX8_openCrowd_59 ?_
          obtain ⟨o4, o5, hr6, h⟩ := bnd2_some h
          refine g_callV [1, 13, 2] [0, 3, 4, 5, 6, 7, 8, 9, 10, 11, 12] [0, 11, 13, 1, 2, 3, 4, 5, 6, 7, 8, 9, 10, 12] C mt_X8_317 (c_X2_putStanding _ _ _ _ a_t_now a_t_told a_t_now_speeds (g_t_now_0) (g_t_now_1) (.int (wI c_now_parts)) (g_t_now_3) (g_t_now_5) (g_t_now_6) (g_t_now_7) (g_t_now_8) (.int (wI c_now_sided)) (.int (wI c_now_sideWalk)) (.int (wI c_now_sidePace)) (.int (wI c_now_sideWould)) (g_t_now_14) (g_t_now_15) (g_t_now_16) x2 c_now_sideStand c_told_above c_told_below c_now_speeds F hr6) (q0 := 0) rfl (ci := 2) rfl rfl rfl (ws2 := (W_X8_openCrowd (eCy E) a_t a_t_now a_t_now_speeds a_t_queue a_t_slots a_t_slotsE_0 a_t_slotsE_1 a_t_slotsE_2 a_t_slotsE_3 a_t_slotsE_numbers_0 a_t_slotsE_numbers_1 a_t_slotsE_numbers_2 a_t_slotsE_numbers_3 a_t_told g_t_0 g_t_1 g_t_2 g_t_4 g_t_5 g_t_7 g_t_8 g_t_9 g_t_11 g_t_13 g_t_now_0 g_t_now_1 g_t_now_3 g_t_now_5 g_t_now_6 g_t_now_7 g_t_now_8 g_t_now_14 g_t_now_15 g_t_now_16 g_t_queue_3 g_t_queue_4 g_t_queue_5 g_t_queue_6 g_t_queue_7 g_t_queue_8 g_t_slotsE_1 c_now_parts c_now_sided c_now_sideStand c_now_sideWalk c_now_sidePace c_now_sideWould c_now_speeds c_queue_endless c_queue_waited c_queue_cleared c_slotsE_held c_slotsE_size c_slotsE_numbers o4 o5)) rfl rfl rfl (rest := []) rfl rfl rfl dX8_openCrowd_62 ?_
          refine g_goto (tgt := 87) C dX8_openCrowd_65 (by decide) ?_
          refine g_mask [true, true, false, false, false] (L' := [some (.ref a_t), some (.int (wI (0))), none, none, none]) rfl ?_
          exact wb_X8_openCrowd_87 C hN h hret
      · refine g_bipush C dX8_openCrowd_46 (by decide) ?_
        cases h
        exact hret 48 _ dX8_openCrowd_48
    · refine g_aald C 4 (t0 := 5) rfl rfl (by decide) rfl dX8_openCrowd_33 ?_
      refine g_iconst C dX8_openCrowd_34 ?_
      refine g_iconst C dX8_openCrowd_35 ?_
      refine g_lconst (x := 0) C dX8_openCrowd_36 (by decide) ?_
      refine g_ldc2 (v := 999) C mc_X8_349 dX8_openCrowd_37 ?_
      obtain ⟨r2, hr3, h⟩ := bnd1_some h
      refine g_callI [6, 10] [0, 1, 2, 3, 4, 5, 7, 8, 9, 11, 12, 13] [0, 1, 2, 3, 4, 5, 12, 6, 7, 8, 13, 9, 10, 11] C mt_X8_351 (c_X5_hasOut _ _ _ _ a_t_slotsE_1 a_t_slotsE_numbers_1 (.int (wI (c_slotsE_held 1))) (g_t_slotsE_1 1) 0 1 0 999 (c_slotsE_size (1)) (c_slotsE_numbers (1)) F hr3) (q0 := 0) rfl (ci := 5) rfl rfl rfl (ws2 := (W_X8_openCrowd (eCy E) a_t a_t_now a_t_now_speeds a_t_queue a_t_slots a_t_slotsE_0 a_t_slotsE_1 a_t_slotsE_2 a_t_slotsE_3 a_t_slotsE_numbers_0 a_t_slotsE_numbers_1 a_t_slotsE_numbers_2 a_t_slotsE_numbers_3 a_t_told g_t_0 g_t_1 g_t_2 g_t_4 g_t_5 g_t_7 g_t_8 g_t_9 g_t_11 g_t_13 g_t_now_0 g_t_now_1 g_t_now_3 g_t_now_5 g_t_now_6 g_t_now_7 g_t_now_8 g_t_now_14 g_t_now_15 g_t_now_16 g_t_queue_3 g_t_queue_4 g_t_queue_5 g_t_queue_6 g_t_queue_7 g_t_queue_8 g_t_slotsE_1 c_now_parts c_now_sided c_now_sideStand c_now_sideWalk c_now_sidePace c_now_sideWould c_now_speeds c_queue_endless c_queue_waited c_queue_cleared c_slotsE_held c_slotsE_size c_slotsE_numbers c_told_above c_told_below)) rfl rfl rfl (rest := []) rfl rfl rfl dX8_openCrowd_40 ?_
      refine g_if_eq 49 C dX8_openCrowd_43 (by decide) h (fun h => ?_) (fun h => ?_)
      · refine g_iload_n 3 C dX8_openCrowd_49 rfl rfl ?_
        refine g_if_ne 68 C dX8_openCrowd_50 (by decide) h (fun h => ?_) (fun h => ?_)
        · refine g_aload_n 0 C dX8_openCrowd_68 rfl rfl ?_
          refine g_get C fg_X8_22 0 rfl rfl dX8_openCrowd_69 ?_
          refine g_iload_n 2 C dX8_openCrowd_72 rfl rfl ?_
          refine g_aload_n 0 C dX8_openCrowd_73 rfl rfl ?_
          refine g_get C fg_X8_22 0 rfl rfl dX8_openCrowd_74 ?_
          refine g_get C fg_X8_321 1 rfl rfl dX8_openCrowd_77 ?_
          refine g_st (st' := [.int (wI c_now_sideWould), .int (wI x2), .ref a_t_now]) rfl ?_
          refine g_aload_n 0 C dX8_openCrowd_80 rfl rfl ?_
          refine g_get C fg_X8_78 0 rfl rfl dX8_openCrowd_81 ?_
          obtain ⟨o4, o5, hr6, h⟩ := bnd2_some h
          refine g_callV [1, 13, 2] [0, 3, 4, 5, 6, 7, 8, 9, 10, 11, 12] [0, 11, 13, 1, 2, 3, 4, 5, 6, 7, 8, 9, 10, 12] C mt_X8_324 (c_X2_putWalking _ _ _ _ a_t_now a_t_told a_t_now_speeds (g_t_now_0) (g_t_now_1) (.int (wI c_now_parts)) (g_t_now_3) (g_t_now_5) (g_t_now_6) (g_t_now_7) (g_t_now_8) (.int (wI c_now_sided)) (.int (wI c_now_sideWould)) (g_t_now_14) (g_t_now_15) (g_t_now_16) x2 c_now_sideWould c_now_sideStand c_now_sideWalk c_now_sidePace c_told_above c_told_below c_now_speeds F hr6) (q0 := 0) rfl (ci := 2) rfl rfl rfl (ws2 := (W_X8_openCrowd (eCy E) a_t a_t_now a_t_now_speeds a_t_queue a_t_slots a_t_slotsE_0 a_t_slotsE_1 a_t_slotsE_2 a_t_slotsE_3 a_t_slotsE_numbers_0 a_t_slotsE_numbers_1 a_t_slotsE_numbers_2 a_t_slotsE_numbers_3 a_t_told g_t_0 g_t_1 g_t_2 g_t_4 g_t_5 g_t_7 g_t_8 g_t_9 g_t_11 g_t_13 g_t_now_0 g_t_now_1 g_t_now_3 g_t_now_5 g_t_now_6 g_t_now_7 g_t_now_8 g_t_now_14 g_t_now_15 g_t_now_16 g_t_queue_3 g_t_queue_4 g_t_queue_5 g_t_queue_6 g_t_queue_7 g_t_queue_8 g_t_slotsE_1 c_now_parts c_now_sided c_now_sideStand c_now_sideWalk c_now_sidePace c_now_sideWould c_now_speeds c_queue_endless c_queue_waited c_queue_cleared c_slotsE_held c_slotsE_size c_slotsE_numbers o4 o5)) rfl rfl rfl (rest := []) rfl rfl rfl dX8_openCrowd_84 ?_
          refine g_mask [true, true, false, false, false] (L' := [some (.ref a_t), some (.int (wI (1))), none, none, none]) rfl ?_
          exact wb_X8_openCrowd_87 C hN h hret
        · refine g_aload_n 0 C dX8_openCrowd_53 rfl rfl ?_
          refine g_get C fg_X8_22 0 rfl rfl dX8_openCrowd_54 ?_
          refine g_iload_n 2 C dX8_openCrowd_57 rfl rfl ?_
          refine g_aload_n 0 C dX8_openCrowd_58 rfl rfl ?_
          refine g_get C fg_X8_78 0 rfl rfl dX8_openCrowd_59 ?_
          obtain ⟨o4, o5, hr6, h⟩ := bnd2_some h
          refine g_callV [1, 13, 2] [0, 3, 4, 5, 6, 7, 8, 9, 10, 11, 12] [0, 11, 13, 1, 2, 3, 4, 5, 6, 7, 8, 9, 10, 12] C mt_X8_317 (c_X2_putStanding _ _ _ _ a_t_now a_t_told a_t_now_speeds (g_t_now_0) (g_t_now_1) (.int (wI c_now_parts)) (g_t_now_3) (g_t_now_5) (g_t_now_6) (g_t_now_7) (g_t_now_8) (.int (wI c_now_sided)) (.int (wI c_now_sideWalk)) (.int (wI c_now_sidePace)) (.int (wI c_now_sideWould)) (g_t_now_14) (g_t_now_15) (g_t_now_16) x2 c_now_sideStand c_told_above c_told_below c_now_speeds F hr6) (q0 := 0) rfl (ci := 2) rfl rfl rfl (ws2 := (W_X8_openCrowd (eCy E) a_t a_t_now a_t_now_speeds a_t_queue a_t_slots a_t_slotsE_0 a_t_slotsE_1 a_t_slotsE_2 a_t_slotsE_3 a_t_slotsE_numbers_0 a_t_slotsE_numbers_1 a_t_slotsE_numbers_2 a_t_slotsE_numbers_3 a_t_told g_t_0 g_t_1 g_t_2 g_t_4 g_t_5 g_t_7 g_t_8 g_t_9 g_t_11 g_t_13 g_t_now_0 g_t_now_1 g_t_now_3 g_t_now_5 g_t_now_6 g_t_now_7 g_t_now_8 g_t_now_14 g_t_now_15 g_t_now_16 g_t_queue_3 g_t_queue_4 g_t_queue_5 g_t_queue_6 g_t_queue_7 g_t_queue_8 g_t_slotsE_1 c_now_parts c_now_sided c_now_sideStand c_now_sideWalk c_now_sidePace c_now_sideWould c_now_speeds c_queue_endless c_queue_waited c_queue_cleared c_slotsE_held c_slotsE_size c_slotsE_numbers o4 o5)) rfl rfl rfl (rest := []) rfl rfl rfl dX8_openCrowd_62 ?_
          refine g_goto (tgt := 87) C dX8_openCrowd_65 (by decide) ?_
          refine g_mask [true, true, false, false, false] (L' := [some (.ref a_t), some (.int (wI (1))), none, none, none]) rfl ?_
          exact wb_X8_openCrowd_87 C hN h hret
      · refine g_bipush C dX8_openCrowd_46 (by decide) ?_
        cases h
        exact hret 48 _ dX8_openCrowd_48
    · refine g_aald C 4 (t0 := 5) rfl rfl (by decide) rfl dX8_openCrowd_33 ?_
      refine g_iconst C dX8_openCrowd_34 ?_
      refine g_iconst C dX8_openCrowd_35 ?_
      refine g_lconst (x := 0) C dX8_openCrowd_36 (by decide) ?_
      refine g_ldc2 (v := 999) C mc_X8_349 dX8_openCrowd_37 ?_
      obtain ⟨r2, hr3, h⟩ := bnd1_some h
      refine g_callI [7, 11] [0, 1, 2, 3, 4, 5, 6, 8, 9, 10, 12, 13] [0, 1, 2, 3, 4, 5, 6, 12, 7, 8, 9, 13, 10, 11] C mt_X8_351 (c_X5_hasOut _ _ _ _ a_t_slotsE_2 a_t_slotsE_numbers_2 (.int (wI (c_slotsE_held 2))) (g_t_slotsE_1 2) 0 1 0 999 (c_slotsE_size (2)) (c_slotsE_numbers (2)) F hr3) (q0 := 0) rfl (ci := 5) rfl rfl rfl (ws2 := (W_X8_openCrowd (eCy E) a_t a_t_now a_t_now_speeds a_t_queue a_t_slots a_t_slotsE_0 a_t_slotsE_1 a_t_slotsE_2 a_t_slotsE_3 a_t_slotsE_numbers_0 a_t_slotsE_numbers_1 a_t_slotsE_numbers_2 a_t_slotsE_numbers_3 a_t_told g_t_0 g_t_1 g_t_2 g_t_4 g_t_5 g_t_7 g_t_8 g_t_9 g_t_11 g_t_13 g_t_now_0 g_t_now_1 g_t_now_3 g_t_now_5 g_t_now_6 g_t_now_7 g_t_now_8 g_t_now_14 g_t_now_15 g_t_now_16 g_t_queue_3 g_t_queue_4 g_t_queue_5 g_t_queue_6 g_t_queue_7 g_t_queue_8 g_t_slotsE_1 c_now_parts c_now_sided c_now_sideStand c_now_sideWalk c_now_sidePace c_now_sideWould c_now_speeds c_queue_endless c_queue_waited c_queue_cleared c_slotsE_held c_slotsE_size c_slotsE_numbers c_told_above c_told_below)) rfl rfl rfl (rest := []) rfl rfl rfl dX8_openCrowd_40 ?_
      refine g_if_eq 49 C dX8_openCrowd_43 (by decide) h (fun h => ?_) (fun h => ?_)
      · refine g_iload_n 3 C dX8_openCrowd_49 rfl rfl ?_
        refine g_if_ne 68 C dX8_openCrowd_50 (by decide) h (fun h => ?_) (fun h => ?_)
        · refine g_aload_n 0 C dX8_openCrowd_68 rfl rfl ?_
          refine g_get C fg_X8_22 0 rfl rfl dX8_openCrowd_69 ?_
          refine g_iload_n 2 C dX8_openCrowd_72 rfl rfl ?_
          refine g_aload_n 0 C dX8_openCrowd_73 rfl rfl ?_
          refine g_get C fg_X8_22 0 rfl rfl dX8_openCrowd_74 ?_
          refine g_get C fg_X8_321 1 rfl rfl dX8_openCrowd_77 ?_
          refine g_st (st' := [.int (wI c_now_sideWould), .int (wI x2), .ref a_t_now]) rfl ?_
          refine g_aload_n 0 C dX8_openCrowd_80 rfl rfl ?_
          refine g_get C fg_X8_78 0 rfl rfl dX8_openCrowd_81 ?_
          obtain ⟨o4, o5, hr6, h⟩ := bnd2_some h
          refine g_callV [1, 13, 2] [0, 3, 4, 5, 6, 7, 8, 9, 10, 11, 12] [0, 11, 13, 1, 2, 3, 4, 5, 6, 7, 8, 9, 10, 12] C mt_X8_324 (c_X2_putWalking _ _ _ _ a_t_now a_t_told a_t_now_speeds (g_t_now_0) (g_t_now_1) (.int (wI c_now_parts)) (g_t_now_3) (g_t_now_5) (g_t_now_6) (g_t_now_7) (g_t_now_8) (.int (wI c_now_sided)) (.int (wI c_now_sideWould)) (g_t_now_14) (g_t_now_15) (g_t_now_16) x2 c_now_sideWould c_now_sideStand c_now_sideWalk c_now_sidePace c_told_above c_told_below c_now_speeds F hr6) (q0 := 0) rfl (ci := 2) rfl rfl rfl (ws2 := (W_X8_openCrowd (eCy E) a_t a_t_now a_t_now_speeds a_t_queue a_t_slots a_t_slotsE_0 a_t_slotsE_1 a_t_slotsE_2 a_t_slotsE_3 a_t_slotsE_numbers_0 a_t_slotsE_numbers_1 a_t_slotsE_numbers_2 a_t_slotsE_numbers_3 a_t_told g_t_0 g_t_1 g_t_2 g_t_4 g_t_5 g_t_7 g_t_8 g_t_9 g_t_11 g_t_13 g_t_now_0 g_t_now_1 g_t_now_3 g_t_now_5 g_t_now_6 g_t_now_7 g_t_now_8 g_t_now_14 g_t_now_15 g_t_now_16 g_t_queue_3 g_t_queue_4 g_t_queue_5 g_t_queue_6 g_t_queue_7 g_t_queue_8 g_t_slotsE_1 c_now_parts c_now_sided c_now_sideStand c_now_sideWalk c_now_sidePace c_now_sideWould c_now_speeds c_queue_endless c_queue_waited c_queue_cleared c_slotsE_held c_slotsE_size c_slotsE_numbers o4 o5)) rfl rfl rfl (rest := []) rfl rfl rfl dX8_openCrowd_84 ?_
          refine g_mask [true, true, false, false, false] (L' := [some (.ref a_t), some (.int (wI (2))), none, none, none]) rfl ?_
          exact wb_X8_openCrowd_87 C hN h hret
        · refine g_aload_n 0 C dX8_openCrowd_53 rfl rfl ?_
          refine g_get C fg_X8_22 0 rfl rfl dX8_openCrowd_54 ?_
          refine g_iload_n 2 C dX8_openCrowd_57 rfl rfl ?_
          refine g_aload_n 0 C dX8_openCrowd_58 rfl rfl ?_
          refine g_get C fg_X8_78 0 rfl rfl dX8_openCrowd_59 ?_
          obtain ⟨o4, o5, hr6, h⟩ := bnd2_some h
          refine g_callV [1, 13, 2] [0, 3, 4, 5, 6, 7, 8, 9, 10, 11, 12] [0, 11, 13, 1, 2, 3, 4, 5, 6, 7, 8, 9, 10, 12] C mt_X8_317 (c_X2_putStanding _ _ _ _ a_t_now a_t_told a_t_now_speeds (g_t_now_0) (g_t_now_1) (.int (wI c_now_parts)) (g_t_now_3) (g_t_now_5) (g_t_now_6) (g_t_now_7) (g_t_now_8) (.int (wI c_now_sided)) (.int (wI c_now_sideWalk)) (.int (wI c_now_sidePace)) (.int (wI c_now_sideWould)) (g_t_now_14) (g_t_now_15) (g_t_now_16) x2 c_now_sideStand c_told_above c_told_below c_now_speeds F hr6) (q0 := 0) rfl (ci := 2) rfl rfl rfl (ws2 := (W_X8_openCrowd (eCy E) a_t a_t_now a_t_now_speeds a_t_queue a_t_slots a_t_slotsE_0 a_t_slotsE_1 a_t_slotsE_2 a_t_slotsE_3 a_t_slotsE_numbers_0 a_t_slotsE_numbers_1 a_t_slotsE_numbers_2 a_t_slotsE_numbers_3 a_t_told g_t_0 g_t_1 g_t_2 g_t_4 g_t_5 g_t_7 g_t_8 g_t_9 g_t_11 g_t_13 g_t_now_0 g_t_now_1 g_t_now_3 g_t_now_5 g_t_now_6 g_t_now_7 g_t_now_8 g_t_now_14 g_t_now_15 g_t_now_16 g_t_queue_3 g_t_queue_4 g_t_queue_5 g_t_queue_6 g_t_queue_7 g_t_queue_8 g_t_slotsE_1 c_now_parts c_now_sided c_now_sideStand c_now_sideWalk c_now_sidePace c_now_sideWould c_now_speeds c_queue_endless c_queue_waited c_queue_cleared c_slotsE_held c_slotsE_size c_slotsE_numbers o4 o5)) rfl rfl rfl (rest := []) rfl rfl rfl dX8_openCrowd_62 ?_
          refine g_goto (tgt := 87) C dX8_openCrowd_65 (by decide) ?_
          refine g_mask [true, true, false, false, false] (L' := [some (.ref a_t), some (.int (wI (2))), none, none, none]) rfl ?_
          exact wb_X8_openCrowd_87 C hN h hret
      · refine g_bipush C dX8_openCrowd_46 (by decide) ?_
        cases h
        exact hret 48 _ dX8_openCrowd_48
    · refine g_aald C 4 (t0 := 5) rfl rfl (by decide) rfl dX8_openCrowd_33 ?_
      refine g_iconst C dX8_openCrowd_34 ?_
      refine g_iconst C dX8_openCrowd_35 ?_
      refine g_lconst (x := 0) C dX8_openCrowd_36 (by decide) ?_
      refine g_ldc2 (v := 999) C mc_X8_349 dX8_openCrowd_37 ?_
      obtain ⟨r2, hr3, h⟩ := bnd1_some h
      refine g_callI [8, 12] [0, 1, 2, 3, 4, 5, 6, 7, 9, 10, 11, 13] [0, 1, 2, 3, 4, 5, 6, 7, 12, 8, 9, 10, 13, 11] C mt_X8_351 (c_X5_hasOut _ _ _ _ a_t_slotsE_3 a_t_slotsE_numbers_3 (.int (wI (c_slotsE_held 3))) (g_t_slotsE_1 3) 0 1 0 999 (c_slotsE_size (3)) (c_slotsE_numbers (3)) F hr3) (q0 := 0) rfl (ci := 5) rfl rfl rfl (ws2 := (W_X8_openCrowd (eCy E) a_t a_t_now a_t_now_speeds a_t_queue a_t_slots a_t_slotsE_0 a_t_slotsE_1 a_t_slotsE_2 a_t_slotsE_3 a_t_slotsE_numbers_0 a_t_slotsE_numbers_1 a_t_slotsE_numbers_2 a_t_slotsE_numbers_3 a_t_told g_t_0 g_t_1 g_t_2 g_t_4 g_t_5 g_t_7 g_t_8 g_t_9 g_t_11 g_t_13 g_t_now_0 g_t_now_1 g_t_now_3 g_t_now_5 g_t_now_6 g_t_now_7 g_t_now_8 g_t_now_14 g_t_now_15 g_t_now_16 g_t_queue_3 g_t_queue_4 g_t_queue_5 g_t_queue_6 g_t_queue_7 g_t_queue_8 g_t_slotsE_1 c_now_parts c_now_sided c_now_sideStand c_now_sideWalk c_now_sidePace c_now_sideWould c_now_speeds c_queue_endless c_queue_waited c_queue_cleared c_slotsE_held c_slotsE_size c_slotsE_numbers c_told_above c_told_below)) rfl rfl rfl (rest := []) rfl rfl rfl dX8_openCrowd_40 ?_
      refine g_if_eq 49 C dX8_openCrowd_43 (by decide) h (fun h => ?_) (fun h => ?_)
      · refine g_iload_n 3 C dX8_openCrowd_49 rfl rfl ?_
        refine g_if_ne 68 C dX8_openCrowd_50 (by decide) h (fun h => ?_) (fun h => ?_)
        · refine g_aload_n 0 C dX8_openCrowd_68 rfl rfl ?_
          refine g_get C fg_X8_22 0 rfl rfl dX8_openCrowd_69 ?_
          refine g_iload_n 2 C dX8_openCrowd_72 rfl rfl ?_
          refine g_aload_n 0 C dX8_openCrowd_73 rfl rfl ?_
          refine g_get C fg_X8_22 0 rfl rfl dX8_openCrowd_74 ?_
          refine g_get C fg_X8_321 1 rfl rfl dX8_openCrowd_77 ?_
          refine g_st (st' := [.int (wI c_now_sideWould), .int (wI x2), .ref a_t_now]) rfl ?_
          refine g_aload_n 0 C dX8_openCrowd_80 rfl rfl ?_
          refine g_get C fg_X8_78 0 rfl rfl dX8_openCrowd_81 ?_
          obtain ⟨o4, o5, hr6, h⟩ := bnd2_some h
          refine g_callV [1, 13, 2] [0, 3, 4, 5, 6, 7, 8, 9, 10, 11, 12] [0, 11, 13, 1, 2, 3, 4, 5, 6, 7, 8, 9, 10, 12] C mt_X8_324 (c_X2_putWalking _ _ _ _ a_t_now a_t_told a_t_now_speeds (g_t_now_0) (g_t_now_1) (.int (wI c_now_parts)) (g_t_now_3) (g_t_now_5) (g_t_now_6) (g_t_now_7) (g_t_now_8) (.int (wI c_now_sided)) (.int (wI c_now_sideWould)) (g_t_now_14) (g_t_now_15) (g_t_now_16) x2 c_now_sideWould c_now_sideStand c_now_sideWalk c_now_sidePace c_told_above c_told_below c_now_speeds F hr6) (q0 := 0) rfl (ci := 2) rfl rfl rfl (ws2 := (W_X8_openCrowd (eCy E) a_t a_t_now a_t_now_speeds a_t_queue a_t_slots a_t_slotsE_0 a_t_slotsE_1 a_t_slotsE_2 a_t_slotsE_3 a_t_slotsE_numbers_0 a_t_slotsE_numbers_1 a_t_slotsE_numbers_2 a_t_slotsE_numbers_3 a_t_told g_t_0 g_t_1 g_t_2 g_t_4 g_t_5 g_t_7 g_t_8 g_t_9 g_t_11 g_t_13 g_t_now_0 g_t_now_1 g_t_now_3 g_t_now_5 g_t_now_6 g_t_now_7 g_t_now_8 g_t_now_14 g_t_now_15 g_t_now_16 g_t_queue_3 g_t_queue_4 g_t_queue_5 g_t_queue_6 g_t_queue_7 g_t_queue_8 g_t_slotsE_1 c_now_parts c_now_sided c_now_sideStand c_now_sideWalk c_now_sidePace c_now_sideWould c_now_speeds c_queue_endless c_queue_waited c_queue_cleared c_slotsE_held c_slotsE_size c_slotsE_numbers o4 o5)) rfl rfl rfl (rest := []) rfl rfl rfl dX8_openCrowd_84 ?_
          refine g_mask [true, true, false, false, false] (L' := [some (.ref a_t), some (.int (wI (3))), none, none, none]) rfl ?_
          exact wb_X8_openCrowd_87 C hN h hret
        · refine g_aload_n 0 C dX8_openCrowd_53 rfl rfl ?_
          refine g_get C fg_X8_22 0 rfl rfl dX8_openCrowd_54 ?_
          refine g_iload_n 2 C dX8_openCrowd_57 rfl rfl ?_
          refine g_aload_n 0 C dX8_openCrowd_58 rfl rfl ?_
          refine g_get C fg_X8_78 0 rfl rfl dX8_openCrowd_59 ?_
          obtain ⟨o4, o5, hr6, h⟩ := bnd2_some h
          refine g_callV [1, 13, 2] [0, 3, 4, 5, 6, 7, 8, 9, 10, 11, 12] [0, 11, 13, 1, 2, 3, 4, 5, 6, 7, 8, 9, 10, 12] C mt_X8_317 (c_X2_putStanding _ _ _ _ a_t_now a_t_told a_t_now_speeds (g_t_now_0) (g_t_now_1) (.int (wI c_now_parts)) (g_t_now_3) (g_t_now_5) (g_t_now_6) (g_t_now_7) (g_t_now_8) (.int (wI c_now_sided)) (.int (wI c_now_sideWalk)) (.int (wI c_now_sidePace)) (.int (wI c_now_sideWould)) (g_t_now_14) (g_t_now_15) (g_t_now_16) x2 c_now_sideStand c_told_above c_told_below c_now_speeds F hr6) (q0 := 0) rfl (ci := 2) rfl rfl rfl (ws2 := (W_X8_openCrowd (eCy E) a_t a_t_now a_t_now_speeds a_t_queue a_t_slots a_t_slotsE_0 a_t_slotsE_1 a_t_slotsE_2 a_t_slotsE_3 a_t_slotsE_numbers_0 a_t_slotsE_numbers_1 a_t_slotsE_numbers_2 a_t_slotsE_numbers_3 a_t_told g_t_0 g_t_1 g_t_2 g_t_4 g_t_5 g_t_7 g_t_8 g_t_9 g_t_11 g_t_13 g_t_now_0 g_t_now_1 g_t_now_3 g_t_now_5 g_t_now_6 g_t_now_7 g_t_now_8 g_t_now_14 g_t_now_15 g_t_now_16 g_t_queue_3 g_t_queue_4 g_t_queue_5 g_t_queue_6 g_t_queue_7 g_t_queue_8 g_t_slotsE_1 c_now_parts c_now_sided c_now_sideStand c_now_sideWalk c_now_sidePace c_now_sideWould c_now_speeds c_queue_endless c_queue_waited c_queue_cleared c_slotsE_held c_slotsE_size c_slotsE_numbers o4 o5)) rfl rfl rfl (rest := []) rfl rfl rfl dX8_openCrowd_62 ?_
          refine g_goto (tgt := 87) C dX8_openCrowd_65 (by decide) ?_
          refine g_mask [true, true, false, false, false] (L' := [some (.ref a_t), some (.int (wI (3))), none, none, none]) rfl ?_
          exact wb_X8_openCrowd_87 C hN h hret
      · refine g_bipush C dX8_openCrowd_46 (by decide) ?_
        cases h
        exact hret 48 _ dX8_openCrowd_48
  · refine g_iload C dX8_openCrowd_25 rfl ?_
    cases h
    exact hret 27 _ dX8_openCrowd_27
set_option maxRecDepth 100000 in
set_option maxHeartbeats 4000000 in
theorem wm_X8_openCrowd {F : Nat} {v : Int × Int × Int × Int × Int × Int} {x1 : Int} {x2 : Int} {x3 : Int} {c_now_parts : Int} {c_now_sided : Int} {c_now_sideStand : Int} {c_now_sideWalk : Int} {c_now_sidePace : Int} {c_now_sideWould : Int} {c_now_speeds : Int → Int} {c_queue_endless : Int} {c_queue_waited : Int} {c_queue_cleared : Int} {c_slotsE_held : Int → Int} {c_slotsE_size : Int → Int} {c_slotsE_numbers : Int → Int → Int} {c_told_above : Int} {c_told_below : Int} (C : Cx E cX8_openCrowd RX8 { frames := 3, cells := 0, slots := 0, locals := 67 }) (hN : eN E = 5) (h : m_X8_openCrowd F x1 x2 x3 c_now_parts c_now_sided c_now_sideStand c_now_sideWalk c_now_sidePace c_now_sideWould c_now_speeds c_queue_endless c_queue_waited c_queue_cleared c_slotsE_held c_slotsE_size c_slotsE_numbers c_told_above c_told_below = some v) (hret : ∀ (pc : Nat) (L : List (Option Value)), decode cX8_openCrowd pc = .ok (.ireturn, 1) → GG E 0 0 (W_X8_openCrowd (eCy E) a_t a_t_now a_t_now_speeds a_t_queue a_t_slots a_t_slotsE_0 a_t_slotsE_1 a_t_slotsE_2 a_t_slotsE_3 a_t_slotsE_numbers_0 a_t_slotsE_numbers_1 a_t_slotsE_numbers_2 a_t_slotsE_numbers_3 a_t_told g_t_0 g_t_1 g_t_2 g_t_4 g_t_5 g_t_7 g_t_8 g_t_9 g_t_11 g_t_13 g_t_now_0 g_t_now_1 g_t_now_3 g_t_now_5 g_t_now_6 g_t_now_7 g_t_now_8 g_t_now_14 g_t_now_15 g_t_now_16 g_t_queue_3 g_t_queue_4 g_t_queue_5 g_t_queue_6 g_t_queue_7 g_t_queue_8 g_t_slotsE_1 c_now_parts c_now_sided c_now_sideStand c_now_sideWalk c_now_sidePace c_now_sideWould c_now_speeds (v.2.1) (v.2.2.1) (v.2.2.2.1) c_slotsE_held c_slotsE_size c_slotsE_numbers (v.2.2.2.2.1) (v.2.2.2.2.2)) L pc [.int (wI (v.1))]) : GG E 0 0 (W_X8_openCrowd (eCy E) a_t a_t_now a_t_now_speeds a_t_queue a_t_slots a_t_slotsE_0 a_t_slotsE_1 a_t_slotsE_2 a_t_slotsE_3 a_t_slotsE_numbers_0 a_t_slotsE_numbers_1 a_t_slotsE_numbers_2 a_t_slotsE_numbers_3 a_t_told g_t_0 g_t_1 g_t_2 g_t_4 g_t_5 g_t_7 g_t_8 g_t_9 g_t_11 g_t_13 g_t_now_0 g_t_now_1 g_t_now_3 g_t_now_5 g_t_now_6 g_t_now_7 g_t_now_8 g_t_now_14 g_t_now_15 g_t_now_16 g_t_queue_3 g_t_queue_4 g_t_queue_5 g_t_queue_6 g_t_queue_7 g_t_queue_8 g_t_slotsE_1 c_now_parts c_now_sided c_now_sideStand c_now_sideWalk c_now_sidePace c_now_sideWould c_now_speeds c_queue_endless c_queue_waited c_queue_cleared c_slotsE_held c_slotsE_size c_slotsE_numbers c_told_above c_told_below) [some (.ref a_t), some (.int (wI x1)), some (.int (wI x2)), some (.int (wI x3)), none] 0 [] := by
  unfold m_X8_openCrowd at h
  refine g_iload_n 3 C dX8_openCrowd_0 rfl rfl ?_
  obtain ⟨r1, hr2, h⟩ := bnd1_some h
  refine g_callSI [] [0, 1, 2, 3, 4, 5, 6, 7, 8, 9, 10, 11, 12, 13] [0, 1, 2, 3, 4, 5, 6, 7, 8, 9, 10, 11, 12, 13] C mt_X8_117 (c_X8_isSide _ _ _ _ x3 F hr2) rfl rfl (ws2 := (W_X8_openCrowd (eCy E) a_t a_t_now a_t_now_speeds a_t_queue a_t_slots a_t_slotsE_0 a_t_slotsE_1 a_t_slotsE_2 a_t_slotsE_3 a_t_slotsE_numbers_0 a_t_slotsE_numbers_1 a_t_slotsE_numbers_2 a_t_slotsE_numbers_3 a_t_told g_t_0 g_t_1 g_t_2 g_t_4 g_t_5 g_t_7 g_t_8 g_t_9 g_t_11 g_t_13 g_t_now_0 g_t_now_1 g_t_now_3 g_t_now_5 g_t_now_6 g_t_now_7 g_t_now_8 g_t_now_14 g_t_now_15 g_t_now_16 g_t_queue_3 g_t_queue_4 g_t_queue_5 g_t_queue_6 g_t_queue_7 g_t_queue_8 g_t_slotsE_1 c_now_parts c_now_sided c_now_sideStand c_now_sideWalk c_now_sidePace c_now_sideWould c_now_speeds c_queue_endless c_queue_waited c_queue_cleared c_slotsE_held c_slotsE_size c_slotsE_numbers c_told_above c_told_below)) rfl rfl rfl (rest := []) rfl rfl rfl dX8_openCrowd_1 ?_
  refine g_if_eq 16 C dX8_openCrowd_4 (by decide) h (fun h => ?_) (fun h => ?_)
  · refine g_bipush C dX8_openCrowd_16 (by decide) ?_
    exact wb_X8_openCrowd_18 C hN h hret
  · refine g_aload_n 0 C dX8_openCrowd_7 rfl rfl ?_
    refine g_iload_n 1 C dX8_openCrowd_8 rfl rfl ?_
    refine g_iload_n 2 C dX8_openCrowd_9 rfl rfl ?_
    obtain ⟨r3, hr4, h⟩ := bnd1_some h
    refine g_callI [0, 1, 2, 4, 5, 6, 7, 8] [3, 9, 10, 11, 12, 13] [6, 7, 8, 0, 9, 10, 11, 12, 13, 1, 2, 3, 4, 5] C mt_X8_346 (c_X8_crowdState _ _ _ _ a_t a_t_now a_t_now_speeds a_t_slots a_t_slotsE_0 a_t_slotsE_1 a_t_slotsE_2 a_t_slotsE_3 (g_t_0) (g_t_1) (g_t_2) (g_t_4) (g_t_5) (g_t_7) (g_t_8) (g_t_9) (.ref a_t_queue) (g_t_11) (.ref a_t_told) (g_t_13) (g_t_now_0) (g_t_now_1) (g_t_now_3) (g_t_now_5) (g_t_now_6) (g_t_now_7) (g_t_now_8) (.int (wI c_now_sideStand)) (.int (wI c_now_sideWalk)) (.int (wI c_now_sidePace)) (.int (wI c_now_sideWould)) (g_t_now_14) (g_t_now_15) (g_t_now_16) (selV [g_t_slotsE_1 0, g_t_slotsE_1 1, g_t_slotsE_1 2, g_t_slotsE_1 3]) (selV [.int (wI (c_slotsE_size 0)), .int (wI (c_slotsE_size 1)), .int (wI (c_slotsE_size 2)), .int (wI (c_slotsE_size 3))]) (selV [.ref a_t_slotsE_numbers_0, .ref a_t_slotsE_numbers_1, .ref a_t_slotsE_numbers_2, .ref a_t_slotsE_numbers_3]) x1 x2 c_now_parts c_now_sided c_now_speeds c_slotsE_held F hr4) (q0 := 0) rfl (ci := 8) rfl rfl rfl (ws2 := (W_X8_openCrowd (eCy E) a_t a_t_now a_t_now_speeds a_t_queue a_t_slots a_t_slotsE_0 a_t_slotsE_1 a_t_slotsE_2 a_t_slotsE_3 a_t_slotsE_numbers_0 a_t_slotsE_numbers_1 a_t_slotsE_numbers_2 a_t_slotsE_numbers_3 a_t_told g_t_0 g_t_1 g_t_2 g_t_4 g_t_5 g_t_7 g_t_8 g_t_9 g_t_11 g_t_13 g_t_now_0 g_t_now_1 g_t_now_3 g_t_now_5 g_t_now_6 g_t_now_7 g_t_now_8 g_t_now_14 g_t_now_15 g_t_now_16 g_t_queue_3 g_t_queue_4 g_t_queue_5 g_t_queue_6 g_t_queue_7 g_t_queue_8 g_t_slotsE_1 c_now_parts c_now_sided c_now_sideStand c_now_sideWalk c_now_sidePace c_now_sideWould c_now_speeds c_queue_endless c_queue_waited c_queue_cleared c_slotsE_held c_slotsE_size c_slotsE_numbers c_told_above c_told_below)) rfl rfl rfl (rest := []) rfl rfl rfl dX8_openCrowd_10 ?_
    refine g_goto (tgt := 18) C dX8_openCrowd_13 (by decide) ?_
    exact wb_X8_openCrowd_18 C hN h hret
end S_X8_openCrowd
set_option maxRecDepth 100000 in
set_option maxHeartbeats 4000000 in
theorem c_X8_openCrowd (l : Launch) (D : va_G) (cy : Nat → ClassId) (ad : AD) (a_t a_t_now a_t_now_speeds a_t_queue a_t_slots a_t_slotsE_0 a_t_slotsE_1 a_t_slotsE_2 a_t_slotsE_3 a_t_slotsE_numbers_0 a_t_slotsE_numbers_1 a_t_slotsE_numbers_2 a_t_slotsE_numbers_3 a_t_told : Nat) (g_t_0 : Value) (g_t_1 : Value) (g_t_2 : Value) (g_t_4 : Value) (g_t_5 : Value) (g_t_7 : Value) (g_t_8 : Value) (g_t_9 : Value) (g_t_11 : Value) (g_t_13 : Value) (g_t_now_0 : Value) (g_t_now_1 : Value) (g_t_now_3 : Value) (g_t_now_5 : Value) (g_t_now_6 : Value) (g_t_now_7 : Value) (g_t_now_8 : Value) (g_t_now_14 : Value) (g_t_now_15 : Value) (g_t_now_16 : Value) (g_t_queue_3 : Value) (g_t_queue_4 : Value) (g_t_queue_5 : Value) (g_t_queue_6 : Value) (g_t_queue_7 : Value) (g_t_queue_8 : Value) (g_t_slotsE_1 : Nat → Value) (x1 : Int) (x2 : Int) (x3 : Int) (c_now_parts : Int) (c_now_sided : Int) (c_now_sideStand : Int) (c_now_sideWalk : Int) (c_now_sidePace : Int) (c_now_sideWould : Int) (c_now_speeds : Int → Int) (c_queue_endless : Int) (c_queue_waited : Int) (c_queue_cleared : Int) (c_slotsE_held : Int → Int) (c_slotsE_size : Int → Int) (c_slotsE_numbers : Int → Int → Int) (c_told_above : Int) (c_told_below : Int) (F : Nat) {v : Int × Int × Int × Int × Int × Int} (h : m_X8_openCrowd F x1 x2 x3 c_now_parts c_now_sided c_now_sideStand c_now_sideWalk c_now_sidePace c_now_sideWould c_now_speeds c_queue_endless c_queue_waited c_queue_cleared c_slotsE_held c_slotsE_size c_slotsE_numbers c_told_above c_told_below = some v) : Ct l yX8_openCrowd cX8_openCrowd 5 (some .int) { frames := 3, cells := 0, slots := 0, locals := 67 } D cy ad [.ref a_t, .int (wI x1), .int (wI x2), .int (wI x3)] (W_X8_openCrowd cy a_t a_t_now a_t_now_speeds a_t_queue a_t_slots a_t_slotsE_0 a_t_slotsE_1 a_t_slotsE_2 a_t_slotsE_3 a_t_slotsE_numbers_0 a_t_slotsE_numbers_1 a_t_slotsE_numbers_2 a_t_slotsE_numbers_3 a_t_told g_t_0 g_t_1 g_t_2 g_t_4 g_t_5 g_t_7 g_t_8 g_t_9 g_t_11 g_t_13 g_t_now_0 g_t_now_1 g_t_now_3 g_t_now_5 g_t_now_6 g_t_now_7 g_t_now_8 g_t_now_14 g_t_now_15 g_t_now_16 g_t_queue_3 g_t_queue_4 g_t_queue_5 g_t_queue_6 g_t_queue_7 g_t_queue_8 g_t_slotsE_1 c_now_parts c_now_sided c_now_sideStand c_now_sideWalk c_now_sidePace c_now_sideWould c_now_speeds c_queue_endless c_queue_waited c_queue_cleared c_slotsE_held c_slotsE_size c_slotsE_numbers c_told_above c_told_below) (W_X8_openCrowd cy a_t a_t_now a_t_now_speeds a_t_queue a_t_slots a_t_slotsE_0 a_t_slotsE_1 a_t_slotsE_2 a_t_slotsE_3 a_t_slotsE_numbers_0 a_t_slotsE_numbers_1 a_t_slotsE_numbers_2 a_t_slotsE_numbers_3 a_t_told g_t_0 g_t_1 g_t_2 g_t_4 g_t_5 g_t_7 g_t_8 g_t_9 g_t_11 g_t_13 g_t_now_0 g_t_now_1 g_t_now_3 g_t_now_5 g_t_now_6 g_t_now_7 g_t_now_8 g_t_now_14 g_t_now_15 g_t_now_16 g_t_queue_3 g_t_queue_4 g_t_queue_5 g_t_queue_6 g_t_queue_7 g_t_queue_8 g_t_slotsE_1 c_now_parts c_now_sided c_now_sideStand c_now_sideWalk c_now_sidePace c_now_sideWould c_now_speeds (v.2.1) (v.2.2.1) (v.2.2.2.1) c_slotsE_held c_slotsE_size c_slotsE_numbers (v.2.2.2.2.1) (v.2.2.2.2.2)) (some (.int (wI (v.1)))) := by
  refine Ct.introI (j := 1) (plainFor_of_name (by decide)) rfl rfl (fun E C e1 e2 e3 e4 e5 hret => ?_)
  subst e1; subst e2; subst e3; subst e4
  exact wm_X8_openCrowd C e5 h hret
-- MovingStair.crowd(III)J
def W_X8_crowd (cy : Nat → ClassId) (a_t a_t_now a_t_now_speeds a_t_queue a_t_slots a_t_slotsE_0 a_t_slotsE_1 a_t_slotsE_2 a_t_slotsE_3 a_t_slotsE_numbers_0 a_t_slotsE_numbers_1 a_t_slotsE_numbers_2 a_t_slotsE_numbers_3 a_t_told : Nat) (g_t_0 : Value) (g_t_1 : Value) (g_t_2 : Value) (g_t_4 : Value) (g_t_5 : Value) (g_t_7 : Value) (g_t_8 : Value) (g_t_9 : Value) (g_t_11 : Value) (g_t_13 : Value) (g_t_now_0 : Value) (g_t_now_1 : Value) (g_t_now_3 : Value) (g_t_now_5 : Value) (g_t_now_6 : Value) (g_t_now_7 : Value) (g_t_now_8 : Value) (g_t_now_14 : Value) (g_t_now_15 : Value) (g_t_now_16 : Value) (g_t_queue_3 : Value) (g_t_queue_4 : Value) (g_t_queue_5 : Value) (g_t_queue_6 : Value) (g_t_queue_7 : Value) (g_t_queue_8 : Value) (g_t_slotsE_1 : Nat → Value) (c_now_parts : Int) (c_now_sided : Int) (c_now_sideStand : Int) (c_now_sideWalk : Int) (c_now_sidePace : Int) (c_now_sideWould : Int) (c_now_speeds : Int → Int) (c_queue_endless : Int) (c_queue_waited : Int) (c_queue_cleared : Int) (c_slotsE_held : Int → Int) (c_slotsE_size : Int → Int) (c_slotsE_numbers : Int → Int → Int) (c_told_above : Int) (c_told_below : Int) : va_W := [(a_t, .inr (8, [g_t_0, g_t_1, g_t_2, .ref a_t_now, g_t_4, g_t_5, .ref a_t_slots, g_t_7, g_t_8, g_t_9, .ref a_t_queue, g_t_11, .ref a_t_told, g_t_13])), (a_t_now, .inr (2, [g_t_now_0, g_t_now_1, .int (wI c_now_parts), g_t_now_3, .ref a_t_now_speeds, g_t_now_5, g_t_now_6, g_t_now_7, g_t_now_8, .int (wI c_now_sided), .int (wI c_now_sideStand), .int (wI c_now_sideWalk), .int (wI c_now_sidePace), .int (wI c_now_sideWould), g_t_now_14, g_t_now_15, g_t_now_16])), (a_t_now_speeds, .inl (cy 1, 4, .inl (aI c_now_speeds))), (a_t_queue, .inr (3, [.int (wI c_queue_endless), .long (wJ c_queue_waited), .int (wI c_queue_cleared), g_t_queue_3, g_t_queue_4, g_t_queue_5, g_t_queue_6, g_t_queue_7, g_t_queue_8])), (a_t_slots, .inl (cy 5, 4, .inr (.inr (.inr (.inr (selO [a_t_slotsE_0, a_t_slotsE_1, a_t_slotsE_2, a_t_slotsE_3])))))), (a_t_slotsE_0, .inr (5, [.int (wI (c_slotsE_held 0)), g_t_slotsE_1 0, .int (wI (c_slotsE_size 0)), .ref a_t_slotsE_numbers_0])), (a_t_slotsE_1, .inr (5, [.int (wI (c_slotsE_held 1)), g_t_slotsE_1 1, .int (wI (c_slotsE_size 1)), .ref a_t_slotsE_numbers_1])), (a_t_slotsE_2, .inr (5, [.int (wI (c_slotsE_held 2)), g_t_slotsE_1 2, .int (wI (c_slotsE_size 2)), .ref a_t_slotsE_numbers_2])), (a_t_slotsE_3, .inr (5, [.int (wI (c_slotsE_held 3)), g_t_slotsE_1 3, .int (wI (c_slotsE_size 3)), .ref a_t_slotsE_numbers_3])), (a_t_slotsE_numbers_0, .inl (cy 2, 60, .inr (.inl (aJ (c_slotsE_numbers 0))))), (a_t_slotsE_numbers_1, .inl (cy 2, 60, .inr (.inl (aJ (c_slotsE_numbers 1))))), (a_t_slotsE_numbers_2, .inl (cy 2, 60, .inr (.inl (aJ (c_slotsE_numbers 2))))), (a_t_slotsE_numbers_3, .inl (cy 2, 60, .inr (.inl (aJ (c_slotsE_numbers 3))))), (a_t_told, .inr (1, [.long (wJ c_told_above), .long (wJ c_told_below)]))]
def m_X8_crowd (F : Nat) (x1 : Int) (x2 : Int) (x3 : Int) (c_now_parts : Int) (c_now_sided : Int) (c_now_sideStand : Int) (c_now_sideWalk : Int) (c_now_sidePace : Int) (c_now_sideWould : Int) (c_now_speeds : Int → Int) (c_queue_endless : Int) (c_queue_waited : Int) (c_queue_cleared : Int) (c_slotsE_held : Int → Int) (c_slotsE_size : Int → Int) (c_slotsE_numbers : Int → Int → Int) (c_told_above : Int) (c_told_below : Int) : Option (Int × Int × Int × Int × Int × Int) :=
  bnd6 (m_X8_openCrowd F x1 x2 x3 c_now_parts c_now_sided c_now_sideStand c_now_sideWalk c_now_sidePace c_now_sideWould c_now_speeds c_queue_endless c_queue_waited c_queue_cleared c_slotsE_held c_slotsE_size c_slotsE_numbers c_told_above c_told_below) fun r1 o2 o3 o4 o5 o6 => if wI r1 = wI 0 then
    (if wI o2 = wI 0 then
    (some (o3, o2, o3, o4, o5, o6))
  else
    (some ((-1), o2, o3, o4, o5, o6)))
  else
    (chk (r32 r1) <| some (r1, o2, o3, o4, o5, o6))
section S_X8_crowd
variable {E : EE} {a_t a_t_now a_t_now_speeds a_t_queue a_t_slots a_t_slotsE_0 a_t_slotsE_1 a_t_slotsE_2 a_t_slotsE_3 a_t_slotsE_numbers_0 a_t_slotsE_numbers_1 a_t_slotsE_numbers_2 a_t_slotsE_numbers_3 a_t_told : Nat} {g_t_0 : Value} {g_t_1 : Value} {g_t_2 : Value} {g_t_4 : Value} {g_t_5 : Value} {g_t_7 : Value} {g_t_8 : Value} {g_t_9 : Value} {g_t_11 : Value} {g_t_13 : Value} {g_t_now_0 : Value} {g_t_now_1 : Value} {g_t_now_3 : Value} {g_t_now_5 : Value} {g_t_now_6 : Value} {g_t_now_7 : Value} {g_t_now_8 : Value} {g_t_now_14 : Value} {g_t_now_15 : Value} {g_t_now_16 : Value} {g_t_queue_3 : Value} {g_t_queue_4 : Value} {g_t_queue_5 : Value} {g_t_queue_6 : Value} {g_t_queue_7 : Value} {g_t_queue_8 : Value} {g_t_slotsE_1 : Nat → Value}
set_option maxRecDepth 100000 in
set_option maxHeartbeats 4000000 in
theorem wm_X8_crowd {F : Nat} {v : Int × Int × Int × Int × Int × Int} {x1 : Int} {x2 : Int} {x3 : Int} {c_now_parts : Int} {c_now_sided : Int} {c_now_sideStand : Int} {c_now_sideWalk : Int} {c_now_sidePace : Int} {c_now_sideWould : Int} {c_now_speeds : Int → Int} {c_queue_endless : Int} {c_queue_waited : Int} {c_queue_cleared : Int} {c_slotsE_held : Int → Int} {c_slotsE_size : Int → Int} {c_slotsE_numbers : Int → Int → Int} {c_told_above : Int} {c_told_below : Int} (C : Cx E cX8_crowd RX8 { frames := 4, cells := 0, slots := 0, locals := 91 }) (hN : eN E = 5) (h : m_X8_crowd F x1 x2 x3 c_now_parts c_now_sided c_now_sideStand c_now_sideWalk c_now_sidePace c_now_sideWould c_now_speeds c_queue_endless c_queue_waited c_queue_cleared c_slotsE_held c_slotsE_size c_slotsE_numbers c_told_above c_told_below = some v) (hret : ∀ (pc : Nat) (L : List (Option Value)), decode cX8_crowd pc = .ok (.lreturn, 1) → GG E 0 0 (W_X8_crowd (eCy E) a_t a_t_now a_t_now_speeds a_t_queue a_t_slots a_t_slotsE_0 a_t_slotsE_1 a_t_slotsE_2 a_t_slotsE_3 a_t_slotsE_numbers_0 a_t_slotsE_numbers_1 a_t_slotsE_numbers_2 a_t_slotsE_numbers_3 a_t_told g_t_0 g_t_1 g_t_2 g_t_4 g_t_5 g_t_7 g_t_8 g_t_9 g_t_11 g_t_13 g_t_now_0 g_t_now_1 g_t_now_3 g_t_now_5 g_t_now_6 g_t_now_7 g_t_now_8 g_t_now_14 g_t_now_15 g_t_now_16 g_t_queue_3 g_t_queue_4 g_t_queue_5 g_t_queue_6 g_t_queue_7 g_t_queue_8 g_t_slotsE_1 c_now_parts c_now_sided c_now_sideStand c_now_sideWalk c_now_sidePace c_now_sideWould c_now_speeds (v.2.1) (v.2.2.1) (v.2.2.2.1) c_slotsE_held c_slotsE_size c_slotsE_numbers (v.2.2.2.2.1) (v.2.2.2.2.2)) L pc [.long (wJ (v.1))]) : GG E 0 0 (W_X8_crowd (eCy E) a_t a_t_now a_t_now_speeds a_t_queue a_t_slots a_t_slotsE_0 a_t_slotsE_1 a_t_slotsE_2 a_t_slotsE_3 a_t_slotsE_numbers_0 a_t_slotsE_numbers_1 a_t_slotsE_numbers_2 a_t_slotsE_numbers_3 a_t_told g_t_0 g_t_1 g_t_2 g_t_4 g_t_5 g_t_7 g_t_8 g_t_9 g_t_11 g_t_13 g_t_now_0 g_t_now_1 g_t_now_3 g_t_now_5 g_t_now_6 g_t_now_7 g_t_now_8 g_t_now_14 g_t_now_15 g_t_now_16 g_t_queue_3 g_t_queue_4 g_t_queue_5 g_t_queue_6 g_t_queue_7 g_t_queue_8 g_t_slotsE_1 c_now_parts c_now_sided c_now_sideStand c_now_sideWalk c_now_sidePace c_now_sideWould c_now_speeds c_queue_endless c_queue_waited c_queue_cleared c_slotsE_held c_slotsE_size c_slotsE_numbers c_told_above c_told_below) [some (.ref a_t), some (.int (wI x1)), some (.int (wI x2)), some (.int (wI x3)), none] 0 [] := by
  unfold m_X8_crowd at h
  refine g_aload_n 0 C dX8_crowd_0 rfl rfl ?_
  refine g_iload_n 1 C dX8_crowd_1 rfl rfl ?_
  refine g_iload_n 2 C dX8_crowd_2 rfl rfl ?_
  refine g_iload_n 3 C dX8_crowd_3 rfl rfl ?_
  obtain ⟨r1, o2, o3, o4, o5, o6, hr7, h⟩ := bnd6_some h
  refine g_callI [0, 1, 2, 3, 4, 5, 6, 7, 8, 9, 10, 11, 12, 13] [] [0, 1, 2, 3, 4, 5, 6, 7, 8, 9, 10, 11, 12, 13] C mt_X8_334 (c_X8_openCrowd _ _ _ _ a_t a_t_now a_t_now_speeds a_t_queue a_t_slots a_t_slotsE_0 a_t_slotsE_1 a_t_slotsE_2 a_t_slotsE_3 a_t_slotsE_numbers_0 a_t_slotsE_numbers_1 a_t_slotsE_numbers_2 a_t_slotsE_numbers_3 a_t_told (g_t_0) (g_t_1) (g_t_2) (g_t_4) (g_t_5) (g_t_7) (g_t_8) (g_t_9) (g_t_11) (g_t_13) (g_t_now_0) (g_t_now_1) (g_t_now_3) (g_t_now_5) (g_t_now_6) (g_t_now_7) (g_t_now_8) (g_t_now_14) (g_t_now_15) (g_t_now_16) (g_t_queue_3) (g_t_queue_4) (g_t_queue_5) (g_t_queue_6) (g_t_queue_7) (g_t_queue_8) (selV [g_t_slotsE_1 0, g_t_slotsE_1 1, g_t_slotsE_1 2, g_t_slotsE_1 3]) x1 x2 x3 c_now_parts c_now_sided c_now_sideStand c_now_sideWalk c_now_sidePace c_now_sideWould c_now_speeds c_queue_endless c_queue_waited c_queue_cleared c_slotsE_held c_slotsE_size c_slotsE_numbers c_told_above c_told_below F hr7) (q0 := 0) rfl (ci := 8) rfl rfl rfl (ws2 := (W_X8_crowd (eCy E) a_t a_t_now a_t_now_speeds a_t_queue a_t_slots a_t_slotsE_0 a_t_slotsE_1 a_t_slotsE_2 a_t_slotsE_3 a_t_slotsE_numbers_0 a_t_slotsE_numbers_1 a_t_slotsE_numbers_2 a_t_slotsE_numbers_3 a_t_told g_t_0 g_t_1 g_t_2 g_t_4 g_t_5 g_t_7 g_t_8 g_t_9 g_t_11 g_t_13 g_t_now_0 g_t_now_1 g_t_now_3 g_t_now_5 g_t_now_6 g_t_now_7 g_t_now_8 g_t_now_14 g_t_now_15 g_t_now_16 g_t_queue_3 g_t_queue_4 g_t_queue_5 g_t_queue_6 g_t_queue_7 g_t_queue_8 g_t_slotsE_1 c_now_parts c_now_sided c_now_sideStand c_now_sideWalk c_now_sidePace c_now_sideWould c_now_speeds o2 o3 o4 c_slotsE_held c_slotsE_size c_slotsE_numbers o5 o6)) rfl rfl rfl (rest := []) rfl rfl rfl dX8_crowd_4 ?_
  refine g_istore C hN dX8_crowd_7 rfl (L' := [some (.ref a_t), some (.int (wI x1)), some (.int (wI x2)), some (.int (wI x3)), some (.int (wI r1))]) rfl ?_
  refine g_iload C dX8_crowd_9 rfl ?_
  refine g_if_eq 18 C dX8_crowd_11 (by decide) h (fun h => ?_) (fun h => ?_)
  · refine g_aload_n 0 C dX8_crowd_18 rfl rfl ?_
    refine g_get C fg_X8_64 0 rfl rfl dX8_crowd_19 ?_
    refine g_get C fg_X8_337 3 rfl rfl dX8_crowd_22 ?_
    refine g_st (st' := [.int (wI o2)]) rfl ?_
    refine g_if_eq 34 C dX8_crowd_25 (by decide) h (fun h => ?_) (fun h => ?_)
    · refine g_aload_n 0 C dX8_crowd_34 rfl rfl ?_
      refine g_get C fg_X8_64 0 rfl rfl dX8_crowd_35 ?_
      refine g_get C fg_X8_340 3 rfl rfl dX8_crowd_38 ?_
      refine g_st (st' := [.long (wJ o3)]) rfl ?_
      cases h
      exact hret 41 _ dX8_crowd_41
    · refine g_ldc2 (v := -1) C mc_X8_146 dX8_crowd_28 ?_
      refine g_goto (tgt := 41) C dX8_crowd_31 (by decide) ?_
      cases h
      exact hret 41 _ dX8_crowd_41
  · refine g_iload C dX8_crowd_14 rfl ?_
    obtain ⟨hc8, h⟩ := chk_some h
    refine g_i2l C dX8_crowd_16 hc8 ?_
    cases h
    exact hret 17 _ dX8_crowd_17
end S_X8_crowd
set_option maxRecDepth 100000 in
set_option maxHeartbeats 4000000 in
theorem c_X8_crowd (l : Launch) (D : va_G) (cy : Nat → ClassId) (ad : AD) (a_t a_t_now a_t_now_speeds a_t_queue a_t_slots a_t_slotsE_0 a_t_slotsE_1 a_t_slotsE_2 a_t_slotsE_3 a_t_slotsE_numbers_0 a_t_slotsE_numbers_1 a_t_slotsE_numbers_2 a_t_slotsE_numbers_3 a_t_told : Nat) (g_t_0 : Value) (g_t_1 : Value) (g_t_2 : Value) (g_t_4 : Value) (g_t_5 : Value) (g_t_7 : Value) (g_t_8 : Value) (g_t_9 : Value) (g_t_11 : Value) (g_t_13 : Value) (g_t_now_0 : Value) (g_t_now_1 : Value) (g_t_now_3 : Value) (g_t_now_5 : Value) (g_t_now_6 : Value) (g_t_now_7 : Value) (g_t_now_8 : Value) (g_t_now_14 : Value) (g_t_now_15 : Value) (g_t_now_16 : Value) (g_t_queue_3 : Value) (g_t_queue_4 : Value) (g_t_queue_5 : Value) (g_t_queue_6 : Value) (g_t_queue_7 : Value) (g_t_queue_8 : Value) (g_t_slotsE_1 : Nat → Value) (x1 : Int) (x2 : Int) (x3 : Int) (c_now_parts : Int) (c_now_sided : Int) (c_now_sideStand : Int) (c_now_sideWalk : Int) (c_now_sidePace : Int) (c_now_sideWould : Int) (c_now_speeds : Int → Int) (c_queue_endless : Int) (c_queue_waited : Int) (c_queue_cleared : Int) (c_slotsE_held : Int → Int) (c_slotsE_size : Int → Int) (c_slotsE_numbers : Int → Int → Int) (c_told_above : Int) (c_told_below : Int) (F : Nat) {v : Int × Int × Int × Int × Int × Int} (h : m_X8_crowd F x1 x2 x3 c_now_parts c_now_sided c_now_sideStand c_now_sideWalk c_now_sidePace c_now_sideWould c_now_speeds c_queue_endless c_queue_waited c_queue_cleared c_slotsE_held c_slotsE_size c_slotsE_numbers c_told_above c_told_below = some v) : Ct l yX8_crowd cX8_crowd 5 (some .long) { frames := 4, cells := 0, slots := 0, locals := 91 } D cy ad [.ref a_t, .int (wI x1), .int (wI x2), .int (wI x3)] (W_X8_crowd cy a_t a_t_now a_t_now_speeds a_t_queue a_t_slots a_t_slotsE_0 a_t_slotsE_1 a_t_slotsE_2 a_t_slotsE_3 a_t_slotsE_numbers_0 a_t_slotsE_numbers_1 a_t_slotsE_numbers_2 a_t_slotsE_numbers_3 a_t_told g_t_0 g_t_1 g_t_2 g_t_4 g_t_5 g_t_7 g_t_8 g_t_9 g_t_11 g_t_13 g_t_now_0 g_t_now_1 g_t_now_3 g_t_now_5 g_t_now_6 g_t_now_7 g_t_now_8 g_t_now_14 g_t_now_15 g_t_now_16 g_t_queue_3 g_t_queue_4 g_t_queue_5 g_t_queue_6 g_t_queue_7 g_t_queue_8 g_t_slotsE_1 c_now_parts c_now_sided c_now_sideStand c_now_sideWalk c_now_sidePace c_now_sideWould c_now_speeds c_queue_endless c_queue_waited c_queue_cleared c_slotsE_held c_slotsE_size c_slotsE_numbers c_told_above c_told_below) (W_X8_crowd cy a_t a_t_now a_t_now_speeds a_t_queue a_t_slots a_t_slotsE_0 a_t_slotsE_1 a_t_slotsE_2 a_t_slotsE_3 a_t_slotsE_numbers_0 a_t_slotsE_numbers_1 a_t_slotsE_numbers_2 a_t_slotsE_numbers_3 a_t_told g_t_0 g_t_1 g_t_2 g_t_4 g_t_5 g_t_7 g_t_8 g_t_9 g_t_11 g_t_13 g_t_now_0 g_t_now_1 g_t_now_3 g_t_now_5 g_t_now_6 g_t_now_7 g_t_now_8 g_t_now_14 g_t_now_15 g_t_now_16 g_t_queue_3 g_t_queue_4 g_t_queue_5 g_t_queue_6 g_t_queue_7 g_t_queue_8 g_t_slotsE_1 c_now_parts c_now_sided c_now_sideStand c_now_sideWalk c_now_sidePace c_now_sideWould c_now_speeds (v.2.1) (v.2.2.1) (v.2.2.2.1) c_slotsE_held c_slotsE_size c_slotsE_numbers (v.2.2.2.2.1) (v.2.2.2.2.2)) (some (.long (wJ (v.1)))) := by
  refine Ct.introJ (j := 1) (plainFor_of_name (by decide)) rfl rfl (fun E C e1 e2 e3 e4 e5 hret => ?_)
  subst e1; subst e2; subst e3; subst e4
  exact wm_X8_crowd C e5 h hret
-- MovingStair.clears(III)I
def W_X8_clears (cy : Nat → ClassId) (a_t a_t_now a_t_now_speeds a_t_queue a_t_slots a_t_slotsE_0 a_t_slotsE_1 a_t_slotsE_2 a_t_slotsE_3 a_t_slotsE_numbers_0 a_t_slotsE_numbers_1 a_t_slotsE_numbers_2 a_t_slotsE_numbers_3 a_t_told : Nat) (g_t_0 : Value) (g_t_1 : Value) (g_t_2 : Value) (g_t_4 : Value) (g_t_5 : Value) (g_t_7 : Value) (g_t_8 : Value) (g_t_9 : Value) (g_t_11 : Value) (g_t_13 : Value) (g_t_now_0 : Value) (g_t_now_1 : Value) (g_t_now_3 : Value) (g_t_now_5 : Value) (g_t_now_6 : Value) (g_t_now_7 : Value) (g_t_now_8 : Value) (g_t_now_14 : Value) (g_t_now_15 : Value) (g_t_now_16 : Value) (g_t_queue_3 : Value) (g_t_queue_4 : Value) (g_t_queue_5 : Value) (g_t_queue_6 : Value) (g_t_queue_7 : Value) (g_t_queue_8 : Value) (g_t_slotsE_1 : Nat → Value) (c_now_parts : Int) (c_now_sided : Int) (c_now_sideStand : Int) (c_now_sideWalk : Int) (c_now_sidePace : Int) (c_now_sideWould : Int) (c_now_speeds : Int → Int) (c_queue_endless : Int) (c_queue_waited : Int) (c_queue_cleared : Int) (c_slotsE_held : Int → Int) (c_slotsE_size : Int → Int) (c_slotsE_numbers : Int → Int → Int) (c_told_above : Int) (c_told_below : Int) : va_W := [(a_t, .inr (8, [g_t_0, g_t_1, g_t_2, .ref a_t_now, g_t_4, g_t_5, .ref a_t_slots, g_t_7, g_t_8, g_t_9, .ref a_t_queue, g_t_11, .ref a_t_told, g_t_13])), (a_t_now, .inr (2, [g_t_now_0, g_t_now_1, .int (wI c_now_parts), g_t_now_3, .ref a_t_now_speeds, g_t_now_5, g_t_now_6, g_t_now_7, g_t_now_8, .int (wI c_now_sided), .int (wI c_now_sideStand), .int (wI c_now_sideWalk), .int (wI c_now_sidePace), .int (wI c_now_sideWould), g_t_now_14, g_t_now_15, g_t_now_16])), (a_t_now_speeds, .inl (cy 1, 4, .inl (aI c_now_speeds))), (a_t_queue, .inr (3, [.int (wI c_queue_endless), .long (wJ c_queue_waited), .int (wI c_queue_cleared), g_t_queue_3, g_t_queue_4, g_t_queue_5, g_t_queue_6, g_t_queue_7, g_t_queue_8])), (a_t_slots, .inl (cy 5, 4, .inr (.inr (.inr (.inr (selO [a_t_slotsE_0, a_t_slotsE_1, a_t_slotsE_2, a_t_slotsE_3])))))), (a_t_slotsE_0, .inr (5, [.int (wI (c_slotsE_held 0)), g_t_slotsE_1 0, .int (wI (c_slotsE_size 0)), .ref a_t_slotsE_numbers_0])), (a_t_slotsE_1, .inr (5, [.int (wI (c_slotsE_held 1)), g_t_slotsE_1 1, .int (wI (c_slotsE_size 1)), .ref a_t_slotsE_numbers_1])), (a_t_slotsE_2, .inr (5, [.int (wI (c_slotsE_held 2)), g_t_slotsE_1 2, .int (wI (c_slotsE_size 2)), .ref a_t_slotsE_numbers_2])), (a_t_slotsE_3, .inr (5, [.int (wI (c_slotsE_held 3)), g_t_slotsE_1 3, .int (wI (c_slotsE_size 3)), .ref a_t_slotsE_numbers_3])), (a_t_slotsE_numbers_0, .inl (cy 2, 60, .inr (.inl (aJ (c_slotsE_numbers 0))))), (a_t_slotsE_numbers_1, .inl (cy 2, 60, .inr (.inl (aJ (c_slotsE_numbers 1))))), (a_t_slotsE_numbers_2, .inl (cy 2, 60, .inr (.inl (aJ (c_slotsE_numbers 2))))), (a_t_slotsE_numbers_3, .inl (cy 2, 60, .inr (.inl (aJ (c_slotsE_numbers 3))))), (a_t_told, .inr (1, [.long (wJ c_told_above), .long (wJ c_told_below)]))]
def m_X8_clears (F : Nat) (x1 : Int) (x2 : Int) (x3 : Int) (c_now_parts : Int) (c_now_sided : Int) (c_now_sideStand : Int) (c_now_sideWalk : Int) (c_now_sidePace : Int) (c_now_sideWould : Int) (c_now_speeds : Int → Int) (c_queue_endless : Int) (c_queue_waited : Int) (c_queue_cleared : Int) (c_slotsE_held : Int → Int) (c_slotsE_size : Int → Int) (c_slotsE_numbers : Int → Int → Int) (c_told_above : Int) (c_told_below : Int) : Option (Int × Int × Int × Int × Int × Int) :=
  bnd6 (m_X8_openCrowd F x1 x2 x3 c_now_parts c_now_sided c_now_sideStand c_now_sideWalk c_now_sidePace c_now_sideWould c_now_speeds c_queue_endless c_queue_waited c_queue_cleared c_slotsE_held c_slotsE_size c_slotsE_numbers c_told_above c_told_below) fun r1 o2 o3 o4 o5 o6 => if wI r1 = wI 0 then
    (if wI o2 = wI 0 then
    (some (o4, o2, o3, o4, o5, o6))
  else
    (some ((-1), o2, o3, o4, o5, o6)))
  else
    (some (r1, o2, o3, o4, o5, o6))
section S_X8_clears
variable {E : EE} {a_t a_t_now a_t_now_speeds a_t_queue a_t_slots a_t_slotsE_0 a_t_slotsE_1 a_t_slotsE_2 a_t_slotsE_3 a_t_slotsE_numbers_0 a_t_slotsE_numbers_1 a_t_slotsE_numbers_2 a_t_slotsE_numbers_3 a_t_told : Nat} {g_t_0 : Value} {g_t_1 : Value} {g_t_2 : Value} {g_t_4 : Value} {g_t_5 : Value} {g_t_7 : Value} {g_t_8 : Value} {g_t_9 : Value} {g_t_11 : Value} {g_t_13 : Value} {g_t_now_0 : Value} {g_t_now_1 : Value} {g_t_now_3 : Value} {g_t_now_5 : Value} {g_t_now_6 : Value} {g_t_now_7 : Value} {g_t_now_8 : Value} {g_t_now_14 : Value} {g_t_now_15 : Value} {g_t_now_16 : Value} {g_t_queue_3 : Value} {g_t_queue_4 : Value} {g_t_queue_5 : Value} {g_t_queue_6 : Value} {g_t_queue_7 : Value} {g_t_queue_8 : Value} {g_t_slotsE_1 : Nat → Value}
set_option maxRecDepth 100000 in
set_option maxHeartbeats 4000000 in
theorem wm_X8_clears {F : Nat} {v : Int × Int × Int × Int × Int × Int} {x1 : Int} {x2 : Int} {x3 : Int} {c_now_parts : Int} {c_now_sided : Int} {c_now_sideStand : Int} {c_now_sideWalk : Int} {c_now_sidePace : Int} {c_now_sideWould : Int} {c_now_speeds : Int → Int} {c_queue_endless : Int} {c_queue_waited : Int} {c_queue_cleared : Int} {c_slotsE_held : Int → Int} {c_slotsE_size : Int → Int} {c_slotsE_numbers : Int → Int → Int} {c_told_above : Int} {c_told_below : Int} (C : Cx E cX8_clears RX8 { frames := 4, cells := 0, slots := 0, locals := 91 }) (hN : eN E = 5) (h : m_X8_clears F x1 x2 x3 c_now_parts c_now_sided c_now_sideStand c_now_sideWalk c_now_sidePace c_now_sideWould c_now_speeds c_queue_endless c_queue_waited c_queue_cleared c_slotsE_held c_slotsE_size c_slotsE_numbers c_told_above c_told_below = some v) (hret : ∀ (pc : Nat) (L : List (Option Value)), decode cX8_clears pc = .ok (.ireturn, 1) → GG E 0 0 (W_X8_clears (eCy E) a_t a_t_now a_t_now_speeds a_t_queue a_t_slots a_t_slotsE_0 a_t_slotsE_1 a_t_slotsE_2 a_t_slotsE_3 a_t_slotsE_numbers_0 a_t_slotsE_numbers_1 a_t_slotsE_numbers_2 a_t_slotsE_numbers_3 a_t_told g_t_0 g_t_1 g_t_2 g_t_4 g_t_5 g_t_7 g_t_8 g_t_9 g_t_11 g_t_13 g_t_now_0 g_t_now_1 g_t_now_3 g_t_now_5 g_t_now_6 g_t_now_7 g_t_now_8 g_t_now_14 g_t_now_15 g_t_now_16 g_t_queue_3 g_t_queue_4 g_t_queue_5 g_t_queue_6 g_t_queue_7 g_t_queue_8 g_t_slotsE_1 c_now_parts c_now_sided c_now_sideStand c_now_sideWalk c_now_sidePace c_now_sideWould c_now_speeds (v.2.1) (v.2.2.1) (v.2.2.2.1) c_slotsE_held c_slotsE_size c_slotsE_numbers (v.2.2.2.2.1) (v.2.2.2.2.2)) L pc [.int (wI (v.1))]) : GG E 0 0 (W_X8_clears (eCy E) a_t a_t_now a_t_now_speeds a_t_queue a_t_slots a_t_slotsE_0 a_t_slotsE_1 a_t_slotsE_2 a_t_slotsE_3 a_t_slotsE_numbers_0 a_t_slotsE_numbers_1 a_t_slotsE_numbers_2 a_t_slotsE_numbers_3 a_t_told g_t_0 g_t_1 g_t_2 g_t_4 g_t_5 g_t_7 g_t_8 g_t_9 g_t_11 g_t_13 g_t_now_0 g_t_now_1 g_t_now_3 g_t_now_5 g_t_now_6 g_t_now_7 g_t_now_8 g_t_now_14 g_t_now_15 g_t_now_16 g_t_queue_3 g_t_queue_4 g_t_queue_5 g_t_queue_6 g_t_queue_7 g_t_queue_8 g_t_slotsE_1 c_now_parts c_now_sided c_now_sideStand c_now_sideWalk c_now_sidePace c_now_sideWould c_now_speeds c_queue_endless c_queue_waited c_queue_cleared c_slotsE_held c_slotsE_size c_slotsE_numbers c_told_above c_told_below) [some (.ref a_t), some (.int (wI x1)), some (.int (wI x2)), some (.int (wI x3)), none] 0 [] := by
  unfold m_X8_clears at h
  refine g_aload_n 0 C dX8_clears_0 rfl rfl ?_
  refine g_iload_n 1 C dX8_clears_1 rfl rfl ?_
  refine g_iload_n 2 C dX8_clears_2 rfl rfl ?_
  refine g_iload_n 3 C dX8_clears_3 rfl rfl ?_
  obtain ⟨r1, o2, o3, o4, o5, o6, hr7, h⟩ := bnd6_some h
  refine g_callI [0, 1, 2, 3, 4, 5, 6, 7, 8, 9, 10, 11, 12, 13] [] [0, 1, 2, 3, 4, 5, 6, 7, 8, 9, 10, 11, 12, 13] C mt_X8_334 (c_X8_openCrowd _ _ _ _ a_t a_t_now a_t_now_speeds a_t_queue a_t_slots a_t_slotsE_0 a_t_slotsE_1 a_t_slotsE_2 a_t_slotsE_3 a_t_slotsE_numbers_0 a_t_slotsE_numbers_1 a_t_slotsE_numbers_2 a_t_slotsE_numbers_3 a_t_told (g_t_0) (g_t_1) (g_t_2) (g_t_4) (g_t_5) (g_t_7) (g_t_8) (g_t_9) (g_t_11) (g_t_13) (g_t_now_0) (g_t_now_1) (g_t_now_3) (g_t_now_5) (g_t_now_6) (g_t_now_7) (g_t_now_8) (g_t_now_14) (g_t_now_15) (g_t_now_16) (g_t_queue_3) (g_t_queue_4) (g_t_queue_5) (g_t_queue_6) (g_t_queue_7) (g_t_queue_8) (selV [g_t_slotsE_1 0, g_t_slotsE_1 1, g_t_slotsE_1 2, g_t_slotsE_1 3]) x1 x2 x3 c_now_parts c_now_sided c_now_sideStand c_now_sideWalk c_now_sidePace c_now_sideWould c_now_speeds c_queue_endless c_queue_waited c_queue_cleared c_slotsE_held c_slotsE_size c_slotsE_numbers c_told_above c_told_below F hr7) (q0 := 0) rfl (ci := 8) rfl rfl rfl (ws2 := (W_X8_clears (eCy E) a_t a_t_now a_t_now_speeds a_t_queue a_t_slots a_t_slotsE_0 a_t_slotsE_1 a_t_slotsE_2 a_t_slotsE_3 a_t_slotsE_numbers_0 a_t_slotsE_numbers_1 a_t_slotsE_numbers_2 a_t_slotsE_numbers_3 a_t_told g_t_0 g_t_1 g_t_2 g_t_4 g_t_5 g_t_7 g_t_8 g_t_9 g_t_11 g_t_13 g_t_now_0 g_t_now_1 g_t_now_3 g_t_now_5 g_t_now_6 g_t_now_7 g_t_now_8 g_t_now_14 g_t_now_15 g_t_now_16 g_t_queue_3 g_t_queue_4 g_t_queue_5 g_t_queue_6 g_t_queue_7 g_t_queue_8 g_t_slotsE_1 c_now_parts c_now_sided c_now_sideStand c_now_sideWalk c_now_sidePace c_now_sideWould c_now_speeds o2 o3 o4 c_slotsE_held c_slotsE_size c_slotsE_numbers o5 o6)) rfl rfl rfl (rest := []) rfl rfl rfl dX8_clears_4 ?_
  refine g_istore C hN dX8_clears_7 rfl (L' := [some (.ref a_t), some (.int (wI x1)), some (.int (wI x2)), some (.int (wI x3)), some (.int (wI r1))]) rfl ?_
  refine g_iload C dX8_clears_9 rfl ?_
  refine g_if_eq 17 C dX8_clears_11 (by decide) h (fun h => ?_) (fun h => ?_)
  · refine g_aload_n 0 C dX8_clears_17 rfl rfl ?_
    refine g_get C fg_X8_64 0 rfl rfl dX8_clears_18 ?_
    refine g_get C fg_X8_337 3 rfl rfl dX8_clears_21 ?_
    refine g_st (st' := [.int (wI o2)]) rfl ?_
    refine g_if_eq 31 C dX8_clears_24 (by decide) h (fun h => ?_) (fun h => ?_)
    · refine g_aload_n 0 C dX8_clears_31 rfl rfl ?_
      refine g_get C fg_X8_64 0 rfl rfl dX8_clears_32 ?_
      refine g_get C fg_X8_343 3 rfl rfl dX8_clears_35 ?_
      refine g_st (st' := [.int (wI o4)]) rfl ?_
      cases h
      exact hret 38 _ dX8_clears_38
    · refine g_iconst C dX8_clears_27 ?_
      refine g_goto (tgt := 38) C dX8_clears_28 (by decide) ?_
      cases h
      exact hret 38 _ dX8_clears_38
  · refine g_iload C dX8_clears_14 rfl ?_
    cases h
    exact hret 16 _ dX8_clears_16
end S_X8_clears
set_option maxRecDepth 100000 in
set_option maxHeartbeats 4000000 in
theorem c_X8_clears (l : Launch) (D : va_G) (cy : Nat → ClassId) (ad : AD) (a_t a_t_now a_t_now_speeds a_t_queue a_t_slots a_t_slotsE_0 a_t_slotsE_1 a_t_slotsE_2 a_t_slotsE_3 a_t_slotsE_numbers_0 a_t_slotsE_numbers_1 a_t_slotsE_numbers_2 a_t_slotsE_numbers_3 a_t_told : Nat) (g_t_0 : Value) (g_t_1 : Value) (g_t_2 : Value) (g_t_4 : Value) (g_t_5 : Value) (g_t_7 : Value) (g_t_8 : Value) (g_t_9 : Value) (g_t_11 : Value) (g_t_13 : Value) (g_t_now_0 : Value) (g_t_now_1 : Value) (g_t_now_3 : Value) (g_t_now_5 : Value) (g_t_now_6 : Value) (g_t_now_7 : Value) (g_t_now_8 : Value) (g_t_now_14 : Value) (g_t_now_15 : Value) (g_t_now_16 : Value) (g_t_queue_3 : Value) (g_t_queue_4 : Value) (g_t_queue_5 : Value) (g_t_queue_6 : Value) (g_t_queue_7 : Value) (g_t_queue_8 : Value) (g_t_slotsE_1 : Nat → Value) (x1 : Int) (x2 : Int) (x3 : Int) (c_now_parts : Int) (c_now_sided : Int) (c_now_sideStand : Int) (c_now_sideWalk : Int) (c_now_sidePace : Int) (c_now_sideWould : Int) (c_now_speeds : Int → Int) (c_queue_endless : Int) (c_queue_waited : Int) (c_queue_cleared : Int) (c_slotsE_held : Int → Int) (c_slotsE_size : Int → Int) (c_slotsE_numbers : Int → Int → Int) (c_told_above : Int) (c_told_below : Int) (F : Nat) {v : Int × Int × Int × Int × Int × Int} (h : m_X8_clears F x1 x2 x3 c_now_parts c_now_sided c_now_sideStand c_now_sideWalk c_now_sidePace c_now_sideWould c_now_speeds c_queue_endless c_queue_waited c_queue_cleared c_slotsE_held c_slotsE_size c_slotsE_numbers c_told_above c_told_below = some v) : Ct l yX8_clears cX8_clears 5 (some .int) { frames := 4, cells := 0, slots := 0, locals := 91 } D cy ad [.ref a_t, .int (wI x1), .int (wI x2), .int (wI x3)] (W_X8_clears cy a_t a_t_now a_t_now_speeds a_t_queue a_t_slots a_t_slotsE_0 a_t_slotsE_1 a_t_slotsE_2 a_t_slotsE_3 a_t_slotsE_numbers_0 a_t_slotsE_numbers_1 a_t_slotsE_numbers_2 a_t_slotsE_numbers_3 a_t_told g_t_0 g_t_1 g_t_2 g_t_4 g_t_5 g_t_7 g_t_8 g_t_9 g_t_11 g_t_13 g_t_now_0 g_t_now_1 g_t_now_3 g_t_now_5 g_t_now_6 g_t_now_7 g_t_now_8 g_t_now_14 g_t_now_15 g_t_now_16 g_t_queue_3 g_t_queue_4 g_t_queue_5 g_t_queue_6 g_t_queue_7 g_t_queue_8 g_t_slotsE_1 c_now_parts c_now_sided c_now_sideStand c_now_sideWalk c_now_sidePace c_now_sideWould c_now_speeds c_queue_endless c_queue_waited c_queue_cleared c_slotsE_held c_slotsE_size c_slotsE_numbers c_told_above c_told_below) (W_X8_clears cy a_t a_t_now a_t_now_speeds a_t_queue a_t_slots a_t_slotsE_0 a_t_slotsE_1 a_t_slotsE_2 a_t_slotsE_3 a_t_slotsE_numbers_0 a_t_slotsE_numbers_1 a_t_slotsE_numbers_2 a_t_slotsE_numbers_3 a_t_told g_t_0 g_t_1 g_t_2 g_t_4 g_t_5 g_t_7 g_t_8 g_t_9 g_t_11 g_t_13 g_t_now_0 g_t_now_1 g_t_now_3 g_t_now_5 g_t_now_6 g_t_now_7 g_t_now_8 g_t_now_14 g_t_now_15 g_t_now_16 g_t_queue_3 g_t_queue_4 g_t_queue_5 g_t_queue_6 g_t_queue_7 g_t_queue_8 g_t_slotsE_1 c_now_parts c_now_sided c_now_sideStand c_now_sideWalk c_now_sidePace c_now_sideWould c_now_speeds (v.2.1) (v.2.2.1) (v.2.2.2.1) c_slotsE_held c_slotsE_size c_slotsE_numbers (v.2.2.2.2.1) (v.2.2.2.2.2)) (some (.int (wI (v.1)))) := by
  refine Ct.introI (j := 1) (plainFor_of_name (by decide)) rfl rfl (fun E C e1 e2 e3 e4 e5 hret => ?_)
  subst e1; subst e2; subst e3; subst e4
  exact wm_X8_clears C e5 h hret
-- MovingStair.openSides(III)I
def W_X8_openSides (cy : Nat → ClassId) (a_t a_t_now a_t_now_speeds a_t_queue a_t_queue_coming a_t_queue_walking a_t_slots a_t_slotsE_0 a_t_slotsE_1 a_t_slotsE_2 a_t_slotsE_3 a_t_slotsE_numbers_0 a_t_slotsE_numbers_1 a_t_slotsE_numbers_2 a_t_slotsE_numbers_3 a_t_told : Nat) (g_t_0 : Value) (g_t_1 : Value) (g_t_2 : Value) (g_t_4 : Value) (g_t_5 : Value) (g_t_7 : Value) (g_t_8 : Value) (g_t_9 : Value) (g_t_11 : Value) (g_t_13 : Value) (g_t_now_0 : Value) (g_t_now_1 : Value) (g_t_now_3 : Value) (g_t_now_5 : Value) (g_t_now_6 : Value) (g_t_now_7 : Value) (g_t_now_8 : Value) (g_t_now_13 : Value) (g_t_now_14 : Value) (g_t_now_15 : Value) (g_t_now_16 : Value) (g_t_queue_0 : Value) (g_t_queue_1 : Value) (g_t_queue_2 : Value) (g_t_slotsE_1 : Nat → Value) (c_now_parts : Int) (c_now_sided : Int) (c_now_sideStand : Int) (c_now_sideWalk : Int) (c_now_sidePace : Int) (c_now_speeds : Int → Int) (c_queue_leastFromStanding : Int) (c_queue_leastOfAll : Int) (c_queue_minutes : Int) (c_queue_standing : Int) (c_queue_coming : Int → Int) (c_queue_walking : Int → Int) (c_slotsE_held : Int → Int) (c_slotsE_size : Int → Int) (c_slotsE_numbers : Int → Int → Int) (c_told_above : Int) (c_told_below : Int) : va_W := [(a_t, .inr (8, [g_t_0, g_t_1, g_t_2, .ref a_t_now, g_t_4, g_t_5, .ref a_t_slots, g_t_7, g_t_8, g_t_9, .ref a_t_queue, g_t_11, .ref a_t_told, g_t_13])), (a_t_now, .inr (2, [g_t_now_0, g_t_now_1, .int (wI c_now_parts), g_t_now_3, .ref a_t_now_speeds, g_t_now_5, g_t_now_6, g_t_now_7, g_t_now_8, .int (wI c_now_sided), .int (wI c_now_sideStand), .int (wI c_now_sideWalk), .int (wI c_now_sidePace), g_t_now_13, g_t_now_14, g_t_now_15, g_t_now_16])), (a_t_now_speeds, .inl (cy 1, 4, .inl (aI c_now_speeds))), (a_t_queue, .inr (3, [g_t_queue_0, g_t_queue_1, g_t_queue_2, .long (wJ c_queue_leastFromStanding), .long (wJ c_queue_leastOfAll), .int (wI c_queue_minutes), .long (wJ c_queue_standing), .ref a_t_queue_walking, .ref a_t_queue_coming])), (a_t_queue_coming, .inl (cy 2, 30, .inr (.inl (aJ c_queue_coming)))), (a_t_queue_walking, .inl (cy 2, 30, .inr (.inl (aJ c_queue_walking)))), (a_t_slots, .inl (cy 5, 4, .inr (.inr (.inr (.inr (selO [a_t_slotsE_0, a_t_slotsE_1, a_t_slotsE_2, a_t_slotsE_3])))))), (a_t_slotsE_0, .inr (5, [.int (wI (c_slotsE_held 0)), g_t_slotsE_1 0, .int (wI (c_slotsE_size 0)), .ref a_t_slotsE_numbers_0])), (a_t_slotsE_1, .inr (5, [.int (wI (c_slotsE_held 1)), g_t_slotsE_1 1, .int (wI (c_slotsE_size 1)), .ref a_t_slotsE_numbers_1])), (a_t_slotsE_2, .inr (5, [.int (wI (c_slotsE_held 2)), g_t_slotsE_1 2, .int (wI (c_slotsE_size 2)), .ref a_t_slotsE_numbers_2])), (a_t_slotsE_3, .inr (5, [.int (wI (c_slotsE_held 3)), g_t_slotsE_1 3, .int (wI (c_slotsE_size 3)), .ref a_t_slotsE_numbers_3])), (a_t_slotsE_numbers_0, .inl (cy 2, 60, .inr (.inl (aJ (c_slotsE_numbers 0))))), (a_t_slotsE_numbers_1, .inl (cy 2, 60, .inr (.inl (aJ (c_slotsE_numbers 1))))), (a_t_slotsE_numbers_2, .inl (cy 2, 60, .inr (.inl (aJ (c_slotsE_numbers 2))))), (a_t_slotsE_numbers_3, .inl (cy 2, 60, .inr (.inl (aJ (c_slotsE_numbers 3))))), (a_t_told, .inr (1, [.long (wJ c_told_above), .long (wJ c_told_below)]))]
def mb_X8_openSides_23 (F : Nat) (x1 : Int) (x2 : Int) (x3 : Int) (s0 : Int) (c_now_sideStand : Int) (c_now_sideWalk : Int) (c_now_sidePace : Int) (c_now_speeds : Int → Int) (c_queue_leastFromStanding : Int) (c_queue_leastOfAll : Int) (c_queue_minutes : Int) (c_queue_standing : Int) (c_queue_coming : Int → Int) (c_queue_walking : Int → Int) (c_slotsE_size : Int → Int) (c_slotsE_numbers : Int → Int → Int) (c_told_above : Int) (c_told_below : Int) : Option (Int × Int × Int × Int × Int × (Int → Int) × (Int → Int) × Int × Int) :=
  if wI s0 = wI 0 then
    (chk (0 ≤ x1 ∧ x1 < 4) <| chk (dv32 (c_slotsE_size x1) 2) <| if wI ((c_slotsE_size x1).tmod 2) = wI 0 then
    (bnd1 (m_X5_hasOut F 0 2 0 999 (c_slotsE_size x1) (c_slotsE_numbers x1)) fun r2 => if wI r2 = wI 0 then
    (bnd1 (m_X5_hasOut F 1 2 0 100 (c_slotsE_size x1) (c_slotsE_numbers x1)) fun r4 => if wI r4 = wI 0 then
    (bnd8 (m_X3_changeLaws F x2 x3 (c_slotsE_size x1) c_now_sideStand c_now_sideWalk c_now_sidePace (c_slotsE_numbers x1) c_now_speeds c_queue_coming c_queue_walking) fun o6 o7 o8 o9 o10 o11 o12 o13 => some (0, o6, o7, o8, o9, o12, o13, o10, o11))
  else
    (some ((-2), c_queue_leastFromStanding, c_queue_leastOfAll, c_queue_minutes, c_queue_standing, c_queue_coming, c_queue_walking, c_told_above, c_told_below)))
  else
    (some ((-2), c_queue_leastFromStanding, c_queue_leastOfAll, c_queue_minutes, c_queue_standing, c_queue_coming, c_queue_walking, c_told_above, c_told_below)))
  else
    (some ((-2), c_queue_leastFromStanding, c_queue_leastOfAll, c_queue_minutes, c_queue_standing, c_queue_coming, c_queue_walking, c_told_above, c_told_below)))
  else
    (some (s0, c_queue_leastFromStanding, c_queue_leastOfAll, c_queue_minutes, c_queue_standing, c_queue_coming, c_queue_walking, c_told_above, c_told_below))
def m_X8_openSides (F : Nat) (x1 : Int) (x2 : Int) (x3 : Int) (c_now_parts : Int) (c_now_sided : Int) (c_now_sideStand : Int) (c_now_sideWalk : Int) (c_now_sidePace : Int) (c_now_speeds : Int → Int) (c_queue_leastFromStanding : Int) (c_queue_leastOfAll : Int) (c_queue_minutes : Int) (c_queue_standing : Int) (c_queue_coming : Int → Int) (c_queue_walking : Int → Int) (c_slotsE_held : Int → Int) (c_slotsE_size : Int → Int) (c_slotsE_numbers : Int → Int → Int) (c_told_above : Int) (c_told_below : Int) : Option (Int × Int × Int × Int × Int × (Int → Int) × (Int → Int) × Int × Int) :=
  chk (r32 x3) <| bnd1 (m_X8_isOut F x3 0 3) fun r2 => if wI r2 = wI 0 then
    (bnd1 (m_X8_crowdState F x1 x2 c_now_parts c_now_sided c_now_speeds c_slotsE_held) fun r4 => mb_X8_openSides_23 F x1 x2 x3 r4 c_now_sideStand c_now_sideWalk c_now_sidePace c_now_speeds c_queue_leastFromStanding c_queue_leastOfAll c_queue_minutes c_queue_standing c_queue_coming c_queue_walking c_slotsE_size c_slotsE_numbers c_told_above c_told_below)
  else
    (mb_X8_openSides_23 F x1 x2 x3 (-2) c_now_sideStand c_now_sideWalk c_now_sidePace c_now_speeds c_queue_leastFromStanding c_queue_leastOfAll c_queue_minutes c_queue_standing c_queue_coming c_queue_walking c_slotsE_size c_slotsE_numbers c_told_above c_told_below)
section S_X8_openSides
variable {E : EE} {a_t a_t_now a_t_now_speeds a_t_queue a_t_queue_coming a_t_queue_walking a_t_slots a_t_slotsE_0 a_t_slotsE_1 a_t_slotsE_2 a_t_slotsE_3 a_t_slotsE_numbers_0 a_t_slotsE_numbers_1 a_t_slotsE_numbers_2 a_t_slotsE_numbers_3 a_t_told : Nat} {g_t_0 : Value} {g_t_1 : Value} {g_t_2 : Value} {g_t_4 : Value} {g_t_5 : Value} {g_t_7 : Value} {g_t_8 : Value} {g_t_9 : Value} {g_t_11 : Value} {g_t_13 : Value} {g_t_now_0 : Value} {g_t_now_1 : Value} {g_t_now_3 : Value} {g_t_now_5 : Value} {g_t_now_6 : Value} {g_t_now_7 : Value} {g_t_now_8 : Value} {g_t_now_13 : Value} {g_t_now_14 : Value} {g_t_now_15 : Value} {g_t_now_16 : Value} {g_t_queue_0 : Value} {g_t_queue_1 : Value} {g_t_queue_2 : Value} {g_t_slotsE_1 : Nat → Value}
set_option maxRecDepth 100000 in
set_option maxHeartbeats 4000000 in
theorem wb_X8_openSides_23 {F : Nat} {v : Int × Int × Int × Int × Int × (Int → Int) × (Int → Int) × Int × Int} {x1 : Int} {x2 : Int} {x3 : Int} {s0 : Int} {c_now_sideStand : Int} {c_now_sideWalk : Int} {c_now_sidePace : Int} {c_now_speeds : Int → Int} {c_queue_leastFromStanding : Int} {c_queue_leastOfAll : Int} {c_queue_minutes : Int} {c_queue_standing : Int} {c_queue_coming : Int → Int} {c_queue_walking : Int → Int} {c_slotsE_size : Int → Int} {c_slotsE_numbers : Int → Int → Int} {c_told_above : Int} {c_told_below : Int} {c_now_parts : Int} {c_now_sided : Int} {c_slotsE_held : Int → Int} (C : Cx E cX8_openSides RX8 { frames := 203, cells := 0, slots := 0, locals := 7084 }) (hN : eN E = 6) (h : mb_X8_openSides_23 F x1 x2 x3 s0 c_now_sideStand c_now_sideWalk c_now_sidePace c_now_speeds c_queue_leastFromStanding c_queue_leastOfAll c_queue_minutes c_queue_standing c_queue_coming c_queue_walking c_slotsE_size c_slotsE_numbers c_told_above c_told_below = some v) (hret : ∀ (pc : Nat) (L : List (Option Value)), decode cX8_openSides pc = .ok (.ireturn, 1) → GG E 0 0 (W_X8_openSides (eCy E) a_t a_t_now a_t_now_speeds a_t_queue a_t_queue_coming a_t_queue_walking a_t_slots a_t_slotsE_0 a_t_slotsE_1 a_t_slotsE_2 a_t_slotsE_3 a_t_slotsE_numbers_0 a_t_slotsE_numbers_1 a_t_slotsE_numbers_2 a_t_slotsE_numbers_3 a_t_told g_t_0 g_t_1 g_t_2 g_t_4 g_t_5 g_t_7 g_t_8 g_t_9 g_t_11 g_t_13 g_t_now_0 g_t_now_1 g_t_now_3 g_t_now_5 g_t_now_6 g_t_now_7 g_t_now_8 g_t_now_13 g_t_now_14 g_t_now_15 g_t_now_16 g_t_queue_0 g_t_queue_1 g_t_queue_2 g_t_slotsE_1 c_now_parts c_now_sided c_now_sideStand c_now_sideWalk c_now_sidePace c_now_speeds (v.2.1) (v.2.2.1) (v.2.2.2.1) (v.2.2.2.2.1) (v.2.2.2.2.2.1) (v.2.2.2.2.2.2.1) c_slotsE_held c_slotsE_size c_slotsE_numbers (v.2.2.2.2.2.2.2.1) (v.2.2.2.2.2.2.2.2)) L pc [.int (wI (v.1))]) : GG E 0 0 (W_X8_openSides (eCy E) a_t a_t_now a_t_now_speeds a_t_queue a_t_queue_coming a_t_queue_walking a_t_slots a_t_slotsE_0 a_t_slotsE_1 a_t_slotsE_2 a_t_slotsE_3 a_t_slotsE_numbers_0 a_t_slotsE_numbers_1 a_t_slotsE_numbers_2 a_t_slotsE_numbers_3 a_t_told g_t_0 g_t_1 g_t_2 g_t_4 g_t_5 g_t_7 g_t_8 g_t_9 g_t_11 g_t_13 g_t_now_0 g_t_now_1 g_t_now_3 g_t_now_5 g_t_now_6 g_t_now_7 g_t_now_8 g_t_now_13 g_t_now_14 g_t_now_15 g_t_now_16 g_t_queue_0 g_t_queue_1 g_t_queue_2 g_t_slotsE_1 c_now_parts c_now_sided c_now_sideStand c_now_sideWalk c_now_sidePace c_now_speeds c_queue_leastFromStanding c_queue_leastOfAll c_queue_minutes c_queue_standing c_queue_coming c_queue_walking c_slotsE_held c_slotsE_size c_slotsE_numbers c_told_above c_told_below) [some (.ref a_t), some (.int (wI x1)), some (.int (wI x2)), some (.int (wI x3)), none, none] 23 [.int (wI s0)] := by
  unfold mb_X8_openSides_23 at h
  refine g_istore C hN dX8_openSides_23 rfl (L' := [some (.ref a_t), some (.int (wI x1)), some (.int (wI x2)), some (.int (wI x3)), some (.int (wI s0)), none]) rfl ?_
  refine g_iload C dX8_openSides_25 rfl ?_
  refine g_if_eq 33 C dX8_openSides_27 (by decide) h (fun h => ?_) (fun h => ?_)
  · refine g_aload_n 0 C dX8_openSides_33 rfl rfl ?_
    refine g_get C fg_X8_36 0 rfl rfl dX8_openSides_34 ?_
    refine g_iload_n 1 C dX8_openSides_37 rfl rfl ?_
    obtain ⟨hc1, h⟩ := chk_some h
    obtain rfl | rfl | rfl | rfl : x1 = 0 ∨ x1 = 1 ∨ x1 = 2 ∨ x1 = 3 := by omega
    · refine g_aald C 6 (t0 := 5) rfl rfl (by decide) rfl dX8_openSides_38 ?_
      refine g_astore C hN dX8_openSides_39 rfl (L' := [some (.ref a_t), some (.int (wI (0))), some (.int (wI x2)), some (.int (wI x3)), some (.int (wI s0)), some (.ref a_t_slotsE_0)]) rfl ?_
      refine g_aload C dX8_openSides_41 rfl ?_
      refine g_get C fg_X8_374 7 rfl rfl dX8_openSides_43 ?_
      refine g_st (st' := [.int (wI (c_slotsE_size (0)))]) rfl ?_
      refine g_iconst C dX8_openSides_46 ?_
      obtain ⟨hc2, h⟩ := chk_some h
      refine g_irem C dX8_openSides_47 hc2 ?_
      refine g_if_ne 79 C dX8_openSides_48 (by decide) h (fun h => ?_) (fun h => ?_)
      · refine g_bipush C dX8_openSides_79 (by decide) ?_
        cases h
        exact hret 81 _ dX8_openSides_81
      · refine g_aload C dX8_openSides_51 rfl ?_
        refine g_iconst C dX8_openSides_53 ?_
        refine g_iconst C dX8_openSides_54 ?_
        refine g_lconst (x := 0) C dX8_openSides_55 (by decide) ?_
        refine g_ldc2 (v := 999) C mc_X8_349 dX8_openSides_56 ?_
        obtain ⟨r3, hr4, h⟩ := bnd1_some h
        refine g_callI [7, 11] [0, 1, 2, 3, 4, 5, 6, 8, 9, 10, 12, 13, 14, 15] [0, 1, 2, 3, 4, 5, 6, 14, 7, 8, 9, 15, 10, 11, 12, 13] C mt_X8_351 (c_X5_hasOut _ _ _ _ a_t_slotsE_0 a_t_slotsE_numbers_0 (.int (wI (c_slotsE_held 0))) (g_t_slotsE_1 0) 0 2 0 999 (c_slotsE_size (0)) (c_slotsE_numbers (0)) F hr4) (q0 := 0) rfl (ci := 5) rfl rfl rfl (ws2 := (W_X8_openSides (eCy E) a_t a_t_now a_t_now_speeds a_t_queue a_t_queue_coming a_t_queue_walking a_t_slots a_t_slotsE_0 a_t_slotsE_1 a_t_slotsE_2 a_t_slotsE_3 a_t_slotsE_numbers_0 a_t_slotsE_numbers_1 a_t_slotsE_numbers_2 a_t_slotsE_numbers_3 a_t_told g_t_0 g_t_1 g_t_2 g_t_4 g_t_5 g_t_7 g_t_8 g_t_9 g_t_11 g_t_13 g_t_now_0 g_t_now_1 g_t_now_3 g_t_now_5 g_t_now_6 g_t_now_7 g_t_now_8 g_t_now_13 g_t_now_14 g_t_now_15 g_t_now_16 g_t_queue_0 g_t_queue_1 g_t_queue_2 g_t_slotsE_1 c_now_parts c_now_sided c_now_sideStand c_now_sideWalk c_now_sidePace c_now_speeds c_queue_leastFromStanding c_queue_leastOfAll c_queue_minutes c_queue_standing c_queue_coming c_queue_walking c_slotsE_held c_slotsE_size c_slotsE_numbers c_told_above c_told_below)) rfl rfl rfl (rest := []) rfl rfl rfl dX8_openSides_59 ?_
        refine g_if_ne 79 C dX8_openSides_62 (by decide) h (fun h => ?_) (fun h => ?_)
        · refine g_bipush C dX8_openSides_79 (by decide) ?_
          cases h
          exact hret 81 _ dX8_openSides_81
        · refine g_aload C dX8_openSides_65 rfl ?_
          refine g_iconst C dX8_openSides_67 ?_
          refine g_iconst C dX8_openSides_68 ?_
          refine g_lconst (x := 0) C dX8_openSides_69 (by decide) ?_
          refine g_ldc2 (v := 100) C mc_X8_375 dX8_openSides_70 ?_
          obtain ⟨r5, hr6, h⟩ := bnd1_some h
          refine g_callI [7, 11] [0, 1, 2, 3, 4, 5, 6, 8, 9, 10, 12, 13, 14, 15] [0, 1, 2, 3, 4, 5, 6, 14, 7, 8, 9, 15, 10, 11, 12, 13] C mt_X8_351 (c_X5_hasOut _ _ _ _ a_t_slotsE_0 a_t_slotsE_numbers_0 (.int (wI (c_slotsE_held 0))) (g_t_slotsE_1 0) 1 2 0 100 (c_slotsE_size (0)) (c_slotsE_numbers (0)) F hr6) (q0 := 0) rfl (ci := 5) rfl rfl rfl (ws2 := (W_X8_openSides (eCy E) a_t a_t_now a_t_now_speeds a_t_queue a_t_queue_coming a_t_queue_walking a_t_slots a_t_slotsE_0 a_t_slotsE_1 a_t_slotsE_2 a_t_slotsE_3 a_t_slotsE_numbers_0 a_t_slotsE_numbers_1 a_t_slotsE_numbers_2 a_t_slotsE_numbers_3 a_t_told g_t_0 g_t_1 g_t_2 g_t_4 g_t_5 g_t_7 g_t_8 g_t_9 g_t_11 g_t_13 g_t_now_0 g_t_now_1 g_t_now_3 g_t_now_5 g_t_now_6 g_t_now_7 g_t_now_8 g_t_now_13 g_t_now_14 g_t_now_15 g_t_now_16 g_t_queue_0 g_t_queue_1 g_t_queue_2 g_t_slotsE_1 c_now_parts c_now_sided c_now_sideStand c_now_sideWalk c_now_sidePace c_now_speeds c_queue_leastFromStanding c_queue_leastOfAll c_queue_minutes c_queue_standing c_queue_coming c_queue_walking c_slotsE_held c_slotsE_size c_slotsE_numbers c_told_above c_told_below)) rfl rfl rfl (rest := []) rfl rfl rfl dX8_openSides_73 ?_
          refine g_if_eq 82 C dX8_openSides_76 (by decide) h (fun h => ?_) (fun h => ?_)
          · refine g_aload_n 0 C dX8_openSides_82 rfl rfl ?_
            refine g_get C fg_X8_64 0 rfl rfl dX8_openSides_83 ?_
            refine g_aload C dX8_openSides_86 rfl ?_
            refine g_aload_n 0 C dX8_openSides_88 rfl rfl ?_
            refine g_get C fg_X8_22 0 rfl rfl dX8_openSides_89 ?_
            refine g_iload_n 2 C dX8_openSides_92 rfl rfl ?_
            refine g_iload_n 3 C dX8_openSides_93 rfl rfl ?_
            refine g_aload_n 0 C dX8_openSides_94 rfl rfl ?_
            refine g_get C fg_X8_78 0 rfl rfl dX8_openSides_95 ?_
            obtain ⟨o7, o8, o9, o10, o11, o12, o13, o14, hr15, h⟩ := bnd8_some h
            refine g_callV [3, 7, 1, 15, 11, 2, 4, 5] [0, 6, 8, 9, 10, 12, 13, 14] [0, 10, 13, 8, 14, 15, 1, 9, 2, 3, 4, 12, 5, 6, 7, 11] C mt_X8_377 (c_X3_changeLaws _ _ _ _ a_t_queue a_t_slotsE_0 a_t_now a_t_told a_t_slotsE_numbers_0 a_t_now_speeds a_t_queue_coming a_t_queue_walking (g_t_queue_0) (g_t_queue_1) (g_t_queue_2) (.int (wI (c_slotsE_held 0))) (g_t_slotsE_1 0) (g_t_now_0) (g_t_now_1) (.int (wI c_now_parts)) (g_t_now_3) (g_t_now_5) (g_t_now_6) (g_t_now_7) (g_t_now_8) (.int (wI c_now_sided)) (g_t_now_13) (g_t_now_14) (g_t_now_15) (g_t_now_16) x2 x3 c_queue_leastFromStanding c_queue_leastOfAll c_queue_minutes c_queue_standing (c_slotsE_size (0)) c_now_sideStand c_now_sideWalk c_now_sidePace c_told_above c_told_below (c_slotsE_numbers (0)) c_now_speeds c_queue_coming c_queue_walking F hr15) (q0 := 0) rfl (ci := 3) rfl rfl rfl (ws2 := (W_X8_openSides (eCy E) a_t a_t_now a_t_now_speeds a_t_queue a_t_queue_coming a_t_queue_walking a_t_slots a_t_slotsE_0 a_t_slotsE_1 a_t_slotsE_2 a_t_slotsE_3 a_t_slotsE_numbers_0 a_t_slotsE_numbers_1 a_t_slotsE_numbers_2 a_t_slotsE_numbers_3 a_t_told g_t_0 g_t_1 g_t_2 g_t_4 g_t_5 g_t_7 g_t_8 g_t_9 g_t_11 g_t_13 g_t_now_0 g_t_now_1 g_t_now_3 g_t_now_5 g_t_now_6 g_t_now_7 g_t_now_8 g_t_now_13 g_t_now_14 g_t_now_15 g_t_now_16 g_t_queue_0 g_t_queue_1 g_t_queue_2 g_t_slotsE_1 c_now_parts c_now_sided c_now_sideStand c_now_sideWalk c_now_sidePace c_now_speeds o7 o8 o9 o10 o13 o14 c_slotsE_held c_slotsE_size c_slotsE_numbers o11 o12)) rfl rfl rfl (rest := []) rfl rfl rfl dX8_openSides_98 ?_
            refine g_iconst C dX8_openSides_101 ?_
            cases h
            exact hret 102 _ dX8_openSides_102
          · refine g_bipush C dX8_openSides_79 (by decide) ?_
            cases h
            exact hret 81 _ dX8_openSides_81
    · refine g_aald C 6 (t0 := 5) rfl rfl (by decide) rfl dX8_openSides_38 ?_
      refine g_astore C hN dX8_openSides_39 rfl (L' := [some (.ref a_t), some (.int (wI (1))), some (.int (wI x2)), some (.int (wI x3)), some (.int (wI s0)), some (.ref a_t_slotsE_1)]) rfl ?_
      refine g_aload C dX8_openSides_41 rfl ?_
      refine g_get C fg_X8_374 8 rfl rfl dX8_openSides_43 ?_
      refine g_st (st' := [.int (wI (c_slotsE_size (1)))]) rfl ?_
      refine g_iconst C dX8_openSides_46 ?_
      obtain ⟨hc2, h⟩ := chk_some h
      refine g_irem C dX8_openSides_47 hc2 ?_
      refine g_if_ne 79 C dX8_openSides_48 (by decide) h (fun h => ?_) (fun h => ?_)
      · refine g_bipush C dX8_openSides_79 (by decide) ?_
        cases h
        exact hret 81 _ dX8_openSides_81
      · refine g_aload C dX8_openSides_51 rfl ?_
        refine g_iconst C dX8_openSides_53 ?_
        refine g_iconst C dX8_openSides_54 ?_
        refine g_lconst (x := 0) C dX8_openSides_55 (by decide) ?_
        refine g_ldc2 (v := 999) C mc_X8_349 dX8_openSides_56 ?_
        obtain ⟨r3, hr4, h⟩ := bnd1_some h
        refine g_callI [8, 12] [0, 1, 2, 3, 4, 5, 6, 7, 9, 10, 11, 13, 14, 15] [0, 1, 2, 3, 4, 5, 6, 7, 14, 8, 9, 10, 15, 11, 12, 13] C mt_X8_351 (c_X5_hasOut _ _ _ _ a_t_slotsE_1 a_t_slotsE_numbers_1 (.int (wI (c_slotsE_held 1))) (g_t_slotsE_1 1) 0 2 0 999 (c_slotsE_size (1)) (c_slotsE_numbers (1)) F hr4) (q0 := 0) rfl (ci := 5) rfl rfl rfl (ws2 := (W_X8_openSides (eCy E) a_t a_t_now a_t_now_speeds a_t_queue a_t_queue_coming a_t_queue_walking a_t_slots a_t_slotsE_0 a_t_slotsE_1 a_t_slotsE_2 a_t_slotsE_3 a_t_slotsE_numbers_0 a_t_slotsE_numbers_1 a_t_slotsE_numbers_2 a_t_slotsE_numbers_3 a_t_told g_t_0 g_t_1 g_t_2 g_t_4 g_t_5 g_t_7 g_t_8 g_t_9 g_t_11 g_t_13 g_t_now_0 g_t_now_1 g_t_now_3 g_t_now_5 g_t_now_6 g_t_now_7 g_t_now_8 g_t_now_13 g_t_now_14 g_t_now_15 g_t_now_16 g_t_queue_0 g_t_queue_1 g_t_queue_2 g_t_slotsE_1 c_now_parts c_now_sided c_now_sideStand c_now_sideWalk c_now_sidePace c_now_speeds c_queue_leastFromStanding c_queue_leastOfAll c_queue_minutes c_queue_standing c_queue_coming c_queue_walking c_slotsE_held c_slotsE_size c_slotsE_numbers c_told_above c_told_below)) rfl rfl rfl (rest := []) rfl rfl rfl dX8_openSides_59 ?_
        refine g_if_ne 79 C dX8_openSides_62 (by decide) h (fun h => ?_) (fun h => ?_)
        · refine g_bipush C dX8_openSides_79 (by decide) ?_
          cases h
          exact hret 81 _ dX8_openSides_81
        · refine g_aload C dX8_openSides_65 rfl ?_
          refine g_iconst C dX8_openSides_67 ?_
          refine g_iconst C dX8_openSides_68 ?_
          refine g_lconst (x := 0) C dX8_openSides_69 (by decide) ?_
          refine g_ldc2 (v := 100) C mc_X8_375 dX8_openSides_70 ?_
          obtain ⟨r5, hr6, h⟩ := bnd1_some h
          refine g_callI [8, 12] [0, 1, 2, 3, 4, 5, 6, 7, 9, 10, 11, 13, 14, 15] [0, 1, 2, 3, 4, 5, 6, 7, 14, 8, 9, 10, 15, 11, 12, 13] C mt_X8_351 (c_X5_hasOut _ _ _ _ a_t_slotsE_1 a_t_slotsE_numbers_1 (.int (wI (c_slotsE_held 1))) (g_t_slotsE_1 1) 1 2 0 100 (c_slotsE_size (1)) (c_slotsE_numbers (1)) F hr6) (q0 := 0) rfl (ci := 5) rfl rfl rfl (ws2 := (W_X8_openSides (eCy E) a_t a_t_now a_t_now_speeds a_t_queue a_t_queue_coming a_t_queue_walking a_t_slots a_t_slotsE_0 a_t_slotsE_1 a_t_slotsE_2 a_t_slotsE_3 a_t_slotsE_numbers_0 a_t_slotsE_numbers_1 a_t_slotsE_numbers_2 a_t_slotsE_numbers_3 a_t_told g_t_0 g_t_1 g_t_2 g_t_4 g_t_5 g_t_7 g_t_8 g_t_9 g_t_11 g_t_13 g_t_now_0 g_t_now_1 g_t_now_3 g_t_now_5 g_t_now_6 g_t_now_7 g_t_now_8 g_t_now_13 g_t_now_14 g_t_now_15 g_t_now_16 g_t_queue_0 g_t_queue_1 g_t_queue_2 g_t_slotsE_1 c_now_parts c_now_sided c_now_sideStand c_now_sideWalk c_now_sidePace c_now_speeds c_queue_leastFromStanding c_queue_leastOfAll c_queue_minutes c_queue_standing c_queue_coming c_queue_walking c_slotsE_held c_slotsE_size c_slotsE_numbers c_told_above c_told_below)) rfl rfl rfl (rest := []) rfl rfl rfl dX8_openSides_73 ?_
          refine g_if_eq 82 C dX8_openSides_76 (by decide) h (fun h => ?_) (fun h => ?_)
          · refine g_aload_n 0 C dX8_openSides_82 rfl rfl ?_
            refine g_get C fg_X8_64 0 rfl rfl dX8_openSides_83 ?_
            refine g_aload C dX8_openSides_86 rfl ?_
            refine g_aload_n 0 C dX8_openSides_88 rfl rfl ?_
            refine g_get C fg_X8_22 0 rfl rfl dX8_openSides_89 ?_
            refine g_iload_n 2 C dX8_openSides_92 rfl rfl ?_
            refine g_iload_n 3 C dX8_openSides_93 rfl rfl ?_
            refine g_aload_n 0 C dX8_openSides_94 rfl rfl ?_
            refine g_get C fg_X8_78 0 rfl rfl dX8_openSides_95 ?_
            obtain ⟨o7, o8, o9, o10, o11, o12, o13, o14, hr15, h⟩ := bnd8_some h
            refine g_callV [3, 8, 1, 15, 12, 2, 4, 5] [0, 6, 7, 9, 10, 11, 13, 14] [0, 10, 13, 8, 14, 15, 1, 2, 9, 3, 4, 5, 12, 6, 7, 11] C mt_X8_377 (c_X3_changeLaws _ _ _ _ a_t_queue a_t_slotsE_1 a_t_now a_t_told a_t_slotsE_numbers_1 a_t_now_speeds a_t_queue_coming a_t_queue_walking (g_t_queue_0) (g_t_queue_1) (g_t_queue_2) (.int (wI (c_slotsE_held 1))) (g_t_slotsE_1 1) (g_t_now_0) (g_t_now_1) (.int (wI c_now_parts)) (g_t_now_3) (g_t_now_5) (g_t_now_6) (g_t_now_7) (g_t_now_8) (.int (wI c_now_sided)) (g_t_now_13) (g_t_now_14) (g_t_now_15) (g_t_now_16) x2 x3 c_queue_leastFromStanding c_queue_leastOfAll c_queue_minutes c_queue_standing (c_slotsE_size (1)) c_now_sideStand c_now_sideWalk c_now_sidePace c_told_above c_told_below (c_slotsE_numbers (1)) c_now_speeds c_queue_coming c_queue_walking F hr15) (q0 := 0) rfl (ci := 3) rfl rfl rfl (ws2 := (W_X8_openSides (eCy E) a_t a_t_now a_t_now_speeds a_t_queue a_t_queue_coming a_t_queue_walking a_t_slots a_t_slotsE_0 a_t_slotsE_1 a_t_slotsE_2 a_t_slotsE_3 a_t_slotsE_numbers_0 a_t_slotsE_numbers_1 a_t_slotsE_numbers_2 a_t_slotsE_numbers_3 a_t_told g_t_0 g_t_1 g_t_2 g_t_4 g_t_5 g_t_7 g_t_8 g_t_9 g_t_11 g_t_13 g_t_now_0 g_t_now_1 g_t_now_3 g_t_now_5 g_t_now_6 g_t_now_7 g_t_now_8 g_t_now_13 g_t_now_14 g_t_now_15 g_t_now_16 g_t_queue_0 g_t_queue_1 g_t_queue_2 g_t_slotsE_1 c_now_parts c_now_sided c_now_sideStand c_now_sideWalk c_now_sidePace c_now_speeds o7 o8 o9 o10 o13 o14 c_slotsE_held c_slotsE_size c_slotsE_numbers o11 o12)) rfl rfl rfl (rest := []) rfl rfl rfl dX8_openSides_98 ?_
            refine g_iconst C dX8_openSides_101 ?_
            cases h
            exact hret 102 _ dX8_openSides_102
          · refine g_bipush C dX8_openSides_79 (by decide) ?_
            cases h
            exact hret 81 _ dX8_openSides_81
    · refine g_aald C 6 (t0 := 5) rfl rfl (by decide) rfl dX8_openSides_38 ?_
      refine g_astore C hN dX8_openSides_39 rfl (L' := [some (.ref a_t), some (.int (wI (2))), some (.int (wI x2)), some (.int (wI x3)), some (.int (wI s0)), some (.ref a_t_slotsE_2)]) rfl ?_
      refine g_aload C dX8_openSides_41 rfl ?_
      refine g_get C fg_X8_374 9 rfl rfl dX8_openSides_43 ?_
      refine g_st (st' := [.int (wI (c_slotsE_size (2)))]) rfl ?_
      refine g_iconst C dX8_openSides_46 ?_
      obtain ⟨hc2, h⟩ := chk_some h
      refine g_irem C dX8_openSides_47 hc2 ?_
      refine g_if_ne 79 C dX8_openSides_48 (by decide) h (fun h => ?_) (fun h => ?_)
      · refine g_bipush C dX8_openSides_79 (by decide) ?_
        cases h
        exact hret 81 _ dX8_openSides_81
      · refine g_aload C dX8_openSides_51 rfl ?_
        refine g_iconst C dX8_openSides_53 ?_
        refine g_iconst C dX8_openSides_54 ?_
        refine g_lconst (x := 0) C dX8_openSides_55 (by decide) ?_
        refine g_ldc2 (v := 999) C mc_X8_349 dX8_openSides_56 ?_
        obtain ⟨r3, hr4, h⟩ := bnd1_some h
        refine g_callI [9, 13] [0, 1, 2, 3, 4, 5, 6, 7, 8, 10, 11, 12, 14, 15] [0, 1, 2, 3, 4, 5, 6, 7, 8, 14, 9, 10, 11, 15, 12, 13] C mt_X8_351 (c_X5_hasOut _ _ _ _ a_t_slotsE_2 a_t_slotsE_numbers_2 (.int (wI (c_slotsE_held 2))) (g_t_slotsE_1 2) 0 2 0 999 (c_slotsE_size (2)) (c_slotsE_numbers (2)) F hr4) (q0 := 0) rfl (ci := 5) rfl rfl rfl (ws2 := (W_X8_openSides (eCy E) a_t a_t_now a_t_now_speeds a_t_queue a_t_queue_coming a_t_queue_walking a_t_slots a_t_slotsE_0 a_t_slotsE_1 a_t_slotsE_2 a_t_slotsE_3 a_t_slotsE_numbers_0 a_t_slotsE_numbers_1 a_t_slotsE_numbers_2 a_t_slotsE_numbers_3 a_t_told g_t_0 g_t_1 g_t_2 g_t_4 g_t_5 g_t_7 g_t_8 g_t_9 g_t_11 g_t_13 g_t_now_0 g_t_now_1 g_t_now_3 g_t_now_5 g_t_now_6 g_t_now_7 g_t_now_8 g_t_now_13 g_t_now_14 g_t_now_15 g_t_now_16 g_t_queue_0 g_t_queue_1 g_t_queue_2 g_t_slotsE_1 c_now_parts c_now_sided c_now_sideStand c_now_sideWalk c_now_sidePace c_now_speeds c_queue_leastFromStanding c_queue_leastOfAll c_queue_minutes c_queue_standing c_queue_coming c_queue_walking c_slotsE_held c_slotsE_size c_slotsE_numbers c_told_above c_told_below)) rfl rfl rfl (rest := []) rfl rfl rfl dX8_openSides_59 ?_
        refine g_if_ne 79 C dX8_openSides_62 (by decide) h (fun h => ?_) (fun h => ?_)
        · refine g_bipush C dX8_openSides_79 (by decide) ?_
          cases h
          exact hret 81 _ dX8_openSides_81
        · refine g_aload C dX8_openSides_65 rfl ?_
          refine g_iconst C dX8_openSides_67 ?_
          refine g_iconst C dX8_openSides_68 ?_
          refine g_lconst (x := 0) C dX8_openSides_69 (by decide) ?_
          refine g_ldc2 (v := 100) C mc_X8_375 dX8_openSides_70 ?_
          obtain ⟨r5, hr6, h⟩ := bnd1_some h
          refine g_callI [9, 13] [0, 1, 2, 3, 4, 5, 6, 7, 8, 10, 11, 12, 14, 15] [0, 1, 2, 3, 4, 5, 6, 7, 8, 14, 9, 10, 11, 15, 12, 13] C mt_X8_351 (c_X5_hasOut _ _ _ _ a_t_slotsE_2 a_t_slotsE_numbers_2 (.int (wI (c_slotsE_held 2))) (g_t_slotsE_1 2) 1 2 0 100 (c_slotsE_size (2)) (c_slotsE_numbers (2)) F hr6) (q0 := 0) rfl (ci := 5) rfl rfl rfl (ws2 := (W_X8_openSides (eCy E) a_t a_t_now a_t_now_speeds a_t_queue a_t_queue_coming a_t_queue_walking a_t_slots a_t_slotsE_0 a_t_slotsE_1 a_t_slotsE_2 a_t_slotsE_3 a_t_slotsE_numbers_0 a_t_slotsE_numbers_1 a_t_slotsE_numbers_2 a_t_slotsE_numbers_3 a_t_told g_t_0 g_t_1 g_t_2 g_t_4 g_t_5 g_t_7 g_t_8 g_t_9 g_t_11 g_t_13 g_t_now_0 g_t_now_1 g_t_now_3 g_t_now_5 g_t_now_6 g_t_now_7 g_t_now_8 g_t_now_13 g_t_now_14 g_t_now_15 g_t_now_16 g_t_queue_0 g_t_queue_1 g_t_queue_2 g_t_slotsE_1 c_now_parts c_now_sided c_now_sideStand c_now_sideWalk c_now_sidePace c_now_speeds c_queue_leastFromStanding c_queue_leastOfAll c_queue_minutes c_queue_standing c_queue_coming c_queue_walking c_slotsE_held c_slotsE_size c_slotsE_numbers c_told_above c_told_below)) rfl rfl rfl (rest := []) rfl rfl rfl dX8_openSides_73 ?_
          refine g_if_eq 82 C dX8_openSides_76 (by decide) h (fun h => ?_) (fun h => ?_)
          · refine g_aload_n 0 C dX8_openSides_82 rfl rfl ?_
            refine g_get C fg_X8_64 0 rfl rfl dX8_openSides_83 ?_
            refine g_aload C dX8_openSides_86 rfl ?_
            refine g_aload_n 0 C dX8_openSides_88 rfl rfl ?_
            refine g_get C fg_X8_22 0 rfl rfl dX8_openSides_89 ?_
            refine g_iload_n 2 C dX8_openSides_92 rfl rfl ?_
            refine g_iload_n 3 C dX8_openSides_93 rfl rfl ?_
            refine g_aload_n 0 C dX8_openSides_94 rfl rfl ?_
            refine g_get C fg_X8_78 0 rfl rfl dX8_openSides_95 ?_
            obtain ⟨o7, o8, o9, o10, o11, o12, o13, o14, hr15, h⟩ := bnd8_some h
            refine g_callV [3, 9, 1, 15, 13, 2, 4, 5] [0, 6, 7, 8, 10, 11, 12, 14] [0, 10, 13, 8, 14, 15, 1, 2, 3, 9, 4, 5, 6, 12, 7, 11] C mt_X8_377 (c_X3_changeLaws _ _ _ _ a_t_queue a_t_slotsE_2 a_t_now a_t_told a_t_slotsE_numbers_2 a_t_now_speeds a_t_queue_coming a_t_queue_walking (g_t_queue_0) (g_t_queue_1) (g_t_queue_2) (.int (wI (c_slotsE_held 2))) (g_t_slotsE_1 2) (g_t_now_0) (g_t_now_1) (.int (wI c_now_parts)) (g_t_now_3) (g_t_now_5) (g_t_now_6) (g_t_now_7) (g_t_now_8) (.int (wI c_now_sided)) (g_t_now_13) (g_t_now_14) (g_t_now_15) (g_t_now_16) x2 x3 c_queue_leastFromStanding c_queue_leastOfAll c_queue_minutes c_queue_standing (c_slotsE_size (2)) c_now_sideStand c_now_sideWalk c_now_sidePace c_told_above c_told_below (c_slotsE_numbers (2)) c_now_speeds c_queue_coming c_queue_walking F hr15) (q0 := 0) rfl (ci := 3) rfl rfl rfl (ws2 := (W_X8_openSides (eCy E) a_t a_t_now a_t_now_speeds a_t_queue a_t_queue_coming a_t_queue_walking a_t_slots a_t_slotsE_0 a_t_slotsE_1 a_t_slotsE_2 a_t_slotsE_3 a_t_slotsE_numbers_0 a_t_slotsE_numbers_1 a_t_slotsE_numbers_2 a_t_slotsE_numbers_3 a_t_told g_t_0 g_t_1 g_t_2 g_t_4 g_t_5 g_t_7 g_t_8 g_t_9 g_t_11 g_t_13 g_t_now_0 g_t_now_1 g_t_now_3 g_t_now_5 g_t_now_6 g_t_now_7 g_t_now_8 g_t_now_13 g_t_now_14 g_t_now_15 g_t_now_16 g_t_queue_0 g_t_queue_1 g_t_queue_2 g_t_slotsE_1 c_now_parts c_now_sided c_now_sideStand c_now_sideWalk c_now_sidePace c_now_speeds o7 o8 o9 o10 o13 o14 c_slotsE_held c_slotsE_size c_slotsE_numbers o11 o12)) rfl rfl rfl (rest := []) rfl rfl rfl dX8_openSides_98 ?_
            refine g_iconst C dX8_openSides_101 ?_
            cases h
            exact hret 102 _ dX8_openSides_102
          · refine g_bipush C dX8_openSides_79 (by decide) ?_
            cases h
            exact hret 81 _ dX8_openSides_81
    · refine g_aald C 6 (t0 := 5) rfl rfl (by decide) rfl dX8_openSides_38 ?_
      refine g_astore C hN dX8_openSides_39 rfl (L' := [some (.ref a_t), some (.int (wI (3))), some (.int (wI x2)), some (.int (wI x3)), some (.int (wI s0)), some (.ref a_t_slotsE_3)]) rfl ?_
      refine g_aload C dX8_openSides_41 rfl ?_
      refine g_get C fg_X8_374 10 rfl rfl dX8_openSides_43 ?_
      refine g_st (st' := [.int (wI (c_slotsE_size (3)))]) rfl ?_
      refine g_iconst C dX8_openSides_46 ?_
      obtain ⟨hc2, h⟩ := chk_some h
      refine g_irem C dX8_openSides_47 hc2 ?_
      refine g_if_ne 79 C dX8_openSides_48 (by decide) h (fun h => ?_) (fun h => ?_)
      · refine g_bipush C dX8_openSides_79 (by decide) ?_
        cases h
        exact hret 81 _ dX8_openSides_81
      · refine g_aload C dX8_openSides_51 rfl ?_
        refine g_iconst C dX8_openSides_53 ?_
        refine g_iconst C dX8_openSides_54 ?_
        refine g_lconst (x := 0) C dX8_openSides_55 (by decide) ?_
        refine g_ldc2 (v := 999) C mc_X8_349 dX8_openSides_56 ?_
        obtain ⟨r3, hr4, h⟩ := bnd1_some h
        refine g_callI [10, 14] [0, 1, 2, 3, 4, 5, 6, 7, 8, 9, 11, 12, 13, 15] [0, 1, 2, 3, 4, 5, 6, 7, 8, 9, 14, 10, 11, 12, 15, 13] C mt_X8_351 (c_X5_hasOut _ _ _ _ a_t_slotsE_3 a_t_slotsE_numbers_3 (.int (wI (c_slotsE_held 3))) (g_t_slotsE_1 3) 0 2 0 999 (c_slotsE_size (3)) (c_slotsE_numbers (3)) F hr4) (q0 := 0) rfl (ci := 5) rfl rfl rfl (ws2 := (W_X8_openSides (eCy E) a_t a_t_now a_t_now_speeds a_t_queue a_t_queue_coming a_t_queue_walking a_t_slots a_t_slotsE_0 a_t_slotsE_1 a_t_slotsE_2 a_t_slotsE_3 a_t_slotsE_numbers_0 a_t_slotsE_numbers_1 a_t_slotsE_numbers_2 a_t_slotsE_numbers_3 a_t_told g_t_0 g_t_1 g_t_2 g_t_4 g_t_5 g_t_7 g_t_8 g_t_9 g_t_11 g_t_13 g_t_now_0 g_t_now_1 g_t_now_3 g_t_now_5 g_t_now_6 g_t_now_7 g_t_now_8 g_t_now_13 g_t_now_14 g_t_now_15 g_t_now_16 g_t_queue_0 g_t_queue_1 g_t_queue_2 g_t_slotsE_1 c_now_parts c_now_sided c_now_sideStand c_now_sideWalk c_now_sidePace c_now_speeds c_queue_leastFromStanding c_queue_leastOfAll c_queue_minutes c_queue_standing c_queue_coming c_queue_walking c_slotsE_held c_slotsE_size c_slotsE_numbers c_told_above c_told_below)) rfl rfl rfl (rest := []) rfl rfl rfl dX8_openSides_59 ?_
        refine g_if_ne 79 C dX8_openSides_62 (by decide) h (fun h => ?_) (fun h => ?_)
        · refine g_bipush C dX8_openSides_79 (by decide) ?_
          cases h
          exact hret 81 _ dX8_openSides_81
        · refine g_aload C dX8_openSides_65 rfl ?_
          refine g_iconst C dX8_openSides_67 ?_
          refine g_iconst C dX8_openSides_68 ?_
          refine g_lconst (x := 0) C dX8_openSides_69 (by decide) ?_
          refine g_ldc2 (v := 100) C mc_X8_375 dX8_openSides_70 ?_
          obtain ⟨r5, hr6, h⟩ := bnd1_some h
          refine g_callI [10, 14] [0, 1, 2, 3, 4, 5, 6, 7, 8, 9, 11, 12, 13, 15] [0, 1, 2, 3, 4, 5, 6, 7, 8, 9, 14, 10, 11, 12, 15, 13] C mt_X8_351 (c_X5_hasOut _ _ _ _ a_t_slotsE_3 a_t_slotsE_numbers_3 (.int (wI (c_slotsE_held 3))) (g_t_slotsE_1 3) 1 2 0 100 (c_slotsE_size (3)) (c_slotsE_numbers (3)) F hr6) (q0 := 0) rfl (ci := 5) rfl rfl rfl (ws2 := (W_X8_openSides (eCy E) a_t a_t_now a_t_now_speeds a_t_queue a_t_queue_coming a_t_queue_walking a_t_slots a_t_slotsE_0 a_t_slotsE_1 a_t_slotsE_2 a_t_slotsE_3 a_t_slotsE_numbers_0 a_t_slotsE_numbers_1 a_t_slotsE_numbers_2 a_t_slotsE_numbers_3 a_t_told g_t_0 g_t_1 g_t_2 g_t_4 g_t_5 g_t_7 g_t_8 g_t_9 g_t_11 g_t_13 g_t_now_0 g_t_now_1 g_t_now_3 g_t_now_5 g_t_now_6 g_t_now_7 g_t_now_8 g_t_now_13 g_t_now_14 g_t_now_15 g_t_now_16 g_t_queue_0 g_t_queue_1 g_t_queue_2 g_t_slotsE_1 c_now_parts c_now_sided c_now_sideStand c_now_sideWalk c_now_sidePace c_now_speeds c_queue_leastFromStanding c_queue_leastOfAll c_queue_minutes c_queue_standing c_queue_coming c_queue_walking c_slotsE_held c_slotsE_size c_slotsE_numbers c_told_above c_told_below)) rfl rfl rfl (rest := []) rfl rfl rfl dX8_openSides_73 ?_
          refine g_if_eq 82 C dX8_openSides_76 (by decide) h (fun h => ?_) (fun h => ?_)
          · refine g_aload_n 0 C dX8_openSides_82 rfl rfl ?_
            refine g_get C fg_X8_64 0 rfl rfl dX8_openSides_83 ?_
            refine g_aload C dX8_openSides_86 rfl ?_
            refine g_aload_n 0 C dX8_openSides_88 rfl rfl ?_
            refine g_get C fg_X8_22 0 rfl rfl dX8_openSides_89 ?_
            refine g_iload_n 2 C dX8_openSides_92 rfl rfl ?_
            refine g_iload_n 3 C dX8_openSides_93 rfl rfl ?_
            refine g_aload_n 0 C dX8_openSides_94 rfl rfl ?_
            refine g_get C fg_X8_78 0 rfl rfl dX8_openSides_95 ?_
            obtain ⟨o7, o8, o9, o10, o11, o12, o13, o14, hr15, h⟩ := bnd8_some h
            refine g_callV [3, 10, 1, 15, 14, 2, 4, 5] [0, 6, 7, 8, 9, 11, 12, 13] [0, 10, 13, 8, 14, 15, 1, 2, 3, 4, 9, 5, 6, 7, 12, 11] C mt_X8_377 (c_X3_changeLaws _ _ _ _ a_t_queue a_t_slotsE_3 a_t_now a_t_told a_t_slotsE_numbers_3 a_t_now_speeds a_t_queue_coming a_t_queue_walking (g_t_queue_0) (g_t_queue_1) (g_t_queue_2) (.int (wI (c_slotsE_held 3))) (g_t_slotsE_1 3) (g_t_now_0) (g_t_now_1) (.int (wI c_now_parts)) (g_t_now_3) (g_t_now_5) (g_t_now_6) (g_t_now_7) (g_t_now_8) (.int (wI c_now_sided)) (g_t_now_13) (g_t_now_14) (g_t_now_15) (g_t_now_16) x2 x3 c_queue_leastFromStanding c_queue_leastOfAll c_queue_minutes c_queue_standing (c_slotsE_size (3)) c_now_sideStand c_now_sideWalk c_now_sidePace c_told_above c_told_below (c_slotsE_numbers (3)) c_now_speeds c_queue_coming c_queue_walking F hr15) (q0 := 0) rfl (ci := 3) rfl rfl rfl (ws2 := (W_X8_openSides (eCy E) a_t a_t_now a_t_now_speeds a_t_queue a_t_queue_coming a_t_queue_walking a_t_slots a_t_slotsE_0 a_t_slotsE_1 a_t_slotsE_2 a_t_slotsE_3 a_t_slotsE_numbers_0 a_t_slotsE_numbers_1 a_t_slotsE_numbers_2 a_t_slotsE_numbers_3 a_t_told g_t_0 g_t_1 g_t_2 g_t_4 g_t_5 g_t_7 g_t_8 g_t_9 g_t_11 g_t_13 g_t_now_0 g_t_now_1 g_t_now_3 g_t_now_5 g_t_now_6 g_t_now_7 g_t_now_8 g_t_now_13 g_t_now_14 g_t_now_15 g_t_now_16 g_t_queue_0 g_t_queue_1 g_t_queue_2 g_t_slotsE_1 c_now_parts c_now_sided c_now_sideStand c_now_sideWalk c_now_sidePace c_now_speeds o7 o8 o9 o10 o13 o14 c_slotsE_held c_slotsE_size c_slotsE_numbers o11 o12)) rfl rfl rfl (rest := []) rfl rfl rfl dX8_openSides_98 ?_
            refine g_iconst C dX8_openSides_101 ?_
            cases h
            exact hret 102 _ dX8_openSides_102
          · refine g_bipush C dX8_openSides_79 (by decide) ?_
            cases h
            exact hret 81 _ dX8_openSides_81
  · refine g_iload C dX8_openSides_30 rfl ?_
    cases h
    exact hret 32 _ dX8_openSides_32
set_option maxRecDepth 100000 in
set_option maxHeartbeats 4000000 in
theorem wm_X8_openSides {F : Nat} {v : Int × Int × Int × Int × Int × (Int → Int) × (Int → Int) × Int × Int} {x1 : Int} {x2 : Int} {x3 : Int} {c_now_parts : Int} {c_now_sided : Int} {c_now_sideStand : Int} {c_now_sideWalk : Int} {c_now_sidePace : Int} {c_now_speeds : Int → Int} {c_queue_leastFromStanding : Int} {c_queue_leastOfAll : Int} {c_queue_minutes : Int} {c_queue_standing : Int} {c_queue_coming : Int → Int} {c_queue_walking : Int → Int} {c_slotsE_held : Int → Int} {c_slotsE_size : Int → Int} {c_slotsE_numbers : Int → Int → Int} {c_told_above : Int} {c_told_below : Int} (C : Cx E cX8_openSides RX8 { frames := 203, cells := 0, slots := 0, locals := 7084 }) (hN : eN E = 6) (h : m_X8_openSides F x1 x2 x3 c_now_parts c_now_sided c_now_sideStand c_now_sideWalk c_now_sidePace c_now_speeds c_queue_leastFromStanding c_queue_leastOfAll c_queue_minutes c_queue_standing c_queue_coming c_queue_walking c_slotsE_held c_slotsE_size c_slotsE_numbers c_told_above c_told_below = some v) (hret : ∀ (pc : Nat) (L : List (Option Value)), decode cX8_openSides pc = .ok (.ireturn, 1) → GG E 0 0 (W_X8_openSides (eCy E) a_t a_t_now a_t_now_speeds a_t_queue a_t_queue_coming a_t_queue_walking a_t_slots a_t_slotsE_0 a_t_slotsE_1 a_t_slotsE_2 a_t_slotsE_3 a_t_slotsE_numbers_0 a_t_slotsE_numbers_1 a_t_slotsE_numbers_2 a_t_slotsE_numbers_3 a_t_told g_t_0 g_t_1 g_t_2 g_t_4 g_t_5 g_t_7 g_t_8 g_t_9 g_t_11 g_t_13 g_t_now_0 g_t_now_1 g_t_now_3 g_t_now_5 g_t_now_6 g_t_now_7 g_t_now_8 g_t_now_13 g_t_now_14 g_t_now_15 g_t_now_16 g_t_queue_0 g_t_queue_1 g_t_queue_2 g_t_slotsE_1 c_now_parts c_now_sided c_now_sideStand c_now_sideWalk c_now_sidePace c_now_speeds (v.2.1) (v.2.2.1) (v.2.2.2.1) (v.2.2.2.2.1) (v.2.2.2.2.2.1) (v.2.2.2.2.2.2.1) c_slotsE_held c_slotsE_size c_slotsE_numbers (v.2.2.2.2.2.2.2.1) (v.2.2.2.2.2.2.2.2)) L pc [.int (wI (v.1))]) : GG E 0 0 (W_X8_openSides (eCy E) a_t a_t_now a_t_now_speeds a_t_queue a_t_queue_coming a_t_queue_walking a_t_slots a_t_slotsE_0 a_t_slotsE_1 a_t_slotsE_2 a_t_slotsE_3 a_t_slotsE_numbers_0 a_t_slotsE_numbers_1 a_t_slotsE_numbers_2 a_t_slotsE_numbers_3 a_t_told g_t_0 g_t_1 g_t_2 g_t_4 g_t_5 g_t_7 g_t_8 g_t_9 g_t_11 g_t_13 g_t_now_0 g_t_now_1 g_t_now_3 g_t_now_5 g_t_now_6 g_t_now_7 g_t_now_8 g_t_now_13 g_t_now_14 g_t_now_15 g_t_now_16 g_t_queue_0 g_t_queue_1 g_t_queue_2 g_t_slotsE_1 c_now_parts c_now_sided c_now_sideStand c_now_sideWalk c_now_sidePace c_now_speeds c_queue_leastFromStanding c_queue_leastOfAll c_queue_minutes c_queue_standing c_queue_coming c_queue_walking c_slotsE_held c_slotsE_size c_slotsE_numbers c_told_above c_told_below) [some (.ref a_t), some (.int (wI x1)), some (.int (wI x2)), some (.int (wI x3)), none, none] 0 [] := by
  unfold m_X8_openSides at h
  refine g_iload_n 3 C dX8_openSides_0 rfl rfl ?_
  obtain ⟨hc1, h⟩ := chk_some h
  refine g_i2l C dX8_openSides_1 hc1 ?_
  refine g_lconst (x := 0) C dX8_openSides_2 (by decide) ?_
  refine g_ldc2 (v := 3) C mc_X8_372 dX8_openSides_3 ?_
  obtain ⟨r2, hr3, h⟩ := bnd1_some h
  refine g_callSI [] [0, 1, 2, 3, 4, 5, 6, 7, 8, 9, 10, 11, 12, 13, 14, 15] [0, 1, 2, 3, 4, 5, 6, 7, 8, 9, 10, 11, 12, 13, 14, 15] C mt_X8_161 (c_X8_isOut _ _ _ _ x3 0 3 F hr3) rfl rfl (ws2 := (W_X8_openSides (eCy E) a_t a_t_now a_t_now_speeds a_t_queue a_t_queue_coming a_t_queue_walking a_t_slots a_t_slotsE_0 a_t_slotsE_1 a_t_slotsE_2 a_t_slotsE_3 a_t_slotsE_numbers_0 a_t_slotsE_numbers_1 a_t_slotsE_numbers_2 a_t_slotsE_numbers_3 a_t_told g_t_0 g_t_1 g_t_2 g_t_4 g_t_5 g_t_7 g_t_8 g_t_9 g_t_11 g_t_13 g_t_now_0 g_t_now_1 g_t_now_3 g_t_now_5 g_t_now_6 g_t_now_7 g_t_now_8 g_t_now_13 g_t_now_14 g_t_now_15 g_t_now_16 g_t_queue_0 g_t_queue_1 g_t_queue_2 g_t_slotsE_1 c_now_parts c_now_sided c_now_sideStand c_now_sideWalk c_now_sidePace c_now_speeds c_queue_leastFromStanding c_queue_leastOfAll c_queue_minutes c_queue_standing c_queue_coming c_queue_walking c_slotsE_held c_slotsE_size c_slotsE_numbers c_told_above c_told_below)) rfl rfl rfl (rest := []) rfl rfl rfl dX8_openSides_6 ?_
  refine g_if_eq 17 C dX8_openSides_9 (by decide) h (fun h => ?_) (fun h => ?_)
  · refine g_aload_n 0 C dX8_openSides_17 rfl rfl ?_
    refine g_iload_n 1 C dX8_openSides_18 rfl rfl ?_
    refine g_iload_n 2 C dX8_openSides_19 rfl rfl ?_
    obtain ⟨r4, hr5, h⟩ := bnd1_some h
    refine g_callI [0, 1, 2, 6, 7, 8, 9, 10] [3, 4, 5, 11, 12, 13, 14, 15] [8, 9, 10, 0, 1, 2, 11, 12, 13, 14, 15, 3, 4, 5, 6, 7] C mt_X8_346 (c_X8_crowdState _ _ _ _ a_t a_t_now a_t_now_speeds a_t_slots a_t_slotsE_0 a_t_slotsE_1 a_t_slotsE_2 a_t_slotsE_3 (g_t_0) (g_t_1) (g_t_2) (g_t_4) (g_t_5) (g_t_7) (g_t_8) (g_t_9) (.ref a_t_queue) (g_t_11) (.ref a_t_told) (g_t_13) (g_t_now_0) (g_t_now_1) (g_t_now_3) (g_t_now_5) (g_t_now_6) (g_t_now_7) (g_t_now_8) (.int (wI c_now_sideStand)) (.int (wI c_now_sideWalk)) (.int (wI c_now_sidePace)) (g_t_now_13) (g_t_now_14) (g_t_now_15) (g_t_now_16) (selV [g_t_slotsE_1 0, g_t_slotsE_1 1, g_t_slotsE_1 2, g_t_slotsE_1 3]) (selV [.int (wI (c_slotsE_size 0)), .int (wI (c_slotsE_size 1)), .int (wI (c_slotsE_size 2)), .int (wI (c_slotsE_size 3))]) (selV [.ref a_t_slotsE_numbers_0, .ref a_t_slotsE_numbers_1, .ref a_t_slotsE_numbers_2, .ref a_t_slotsE_numbers_3]) x1 x2 c_now_parts c_now_sided c_now_speeds c_slotsE_held F hr5) (q0 := 0) rfl (ci := 8) rfl rfl rfl (ws2 := (W_X8_openSides (eCy E) a_t a_t_now a_t_now_speeds a_t_queue a_t_queue_coming a_t_queue_walking a_t_slots a_t_slotsE_0 a_t_slotsE_1 a_t_slotsE_2 a_t_slotsE_3 a_t_slotsE_numbers_0 a_t_slotsE_numbers_1 a_t_slotsE_numbers_2 a_t_slotsE_numbers_3 a_t_told g_t_0 g_t_1 g_t_2 g_t_4 g_t_5 g_t_7 g_t_8 g_t_9 g_t_11 g_t_13 g_t_now_0 g_t_now_1 g_t_now_3 g_t_now_5 g_t_now_6 g_t_now_7 g_t_now_8 g_t_now_13 g_t_now_14 g_t_now_15 g_t_now_16 g_t_queue_0 g_t_queue_1 g_t_queue_2 g_t_slotsE_1 c_now_parts c_now_sided c_now_sideStand c_now_sideWalk c_now_sidePace c_now_speeds c_queue_leastFromStanding c_queue_leastOfAll c_queue_minutes c_queue_standing c_queue_coming c_queue_walking c_slotsE_held c_slotsE_size c_slotsE_numbers c_told_above c_told_below)) rfl rfl rfl (rest := []) rfl rfl rfl dX8_openSides_20 ?_
    exact wb_X8_openSides_23 C hN h hret
  · refine g_bipush C dX8_openSides_12 (by decide) ?_
    refine g_goto (tgt := 23) C dX8_openSides_14 (by decide) ?_
    exact wb_X8_openSides_23 C hN h hret
end S_X8_openSides
set_option maxRecDepth 100000 in
set_option maxHeartbeats 4000000 in
theorem c_X8_openSides (l : Launch) (D : va_G) (cy : Nat → ClassId) (ad : AD) (a_t a_t_now a_t_now_speeds a_t_queue a_t_queue_coming a_t_queue_walking a_t_slots a_t_slotsE_0 a_t_slotsE_1 a_t_slotsE_2 a_t_slotsE_3 a_t_slotsE_numbers_0 a_t_slotsE_numbers_1 a_t_slotsE_numbers_2 a_t_slotsE_numbers_3 a_t_told : Nat) (g_t_0 : Value) (g_t_1 : Value) (g_t_2 : Value) (g_t_4 : Value) (g_t_5 : Value) (g_t_7 : Value) (g_t_8 : Value) (g_t_9 : Value) (g_t_11 : Value) (g_t_13 : Value) (g_t_now_0 : Value) (g_t_now_1 : Value) (g_t_now_3 : Value) (g_t_now_5 : Value) (g_t_now_6 : Value) (g_t_now_7 : Value) (g_t_now_8 : Value) (g_t_now_13 : Value) (g_t_now_14 : Value) (g_t_now_15 : Value) (g_t_now_16 : Value) (g_t_queue_0 : Value) (g_t_queue_1 : Value) (g_t_queue_2 : Value) (g_t_slotsE_1 : Nat → Value) (x1 : Int) (x2 : Int) (x3 : Int) (c_now_parts : Int) (c_now_sided : Int) (c_now_sideStand : Int) (c_now_sideWalk : Int) (c_now_sidePace : Int) (c_now_speeds : Int → Int) (c_queue_leastFromStanding : Int) (c_queue_leastOfAll : Int) (c_queue_minutes : Int) (c_queue_standing : Int) (c_queue_coming : Int → Int) (c_queue_walking : Int → Int) (c_slotsE_held : Int → Int) (c_slotsE_size : Int → Int) (c_slotsE_numbers : Int → Int → Int) (c_told_above : Int) (c_told_below : Int) (F : Nat) {v : Int × Int × Int × Int × Int × (Int → Int) × (Int → Int) × Int × Int} (h : m_X8_openSides F x1 x2 x3 c_now_parts c_now_sided c_now_sideStand c_now_sideWalk c_now_sidePace c_now_speeds c_queue_leastFromStanding c_queue_leastOfAll c_queue_minutes c_queue_standing c_queue_coming c_queue_walking c_slotsE_held c_slotsE_size c_slotsE_numbers c_told_above c_told_below = some v) : Ct l yX8_openSides cX8_openSides 6 (some .int) { frames := 203, cells := 0, slots := 0, locals := 7084 } D cy ad [.ref a_t, .int (wI x1), .int (wI x2), .int (wI x3)] (W_X8_openSides cy a_t a_t_now a_t_now_speeds a_t_queue a_t_queue_coming a_t_queue_walking a_t_slots a_t_slotsE_0 a_t_slotsE_1 a_t_slotsE_2 a_t_slotsE_3 a_t_slotsE_numbers_0 a_t_slotsE_numbers_1 a_t_slotsE_numbers_2 a_t_slotsE_numbers_3 a_t_told g_t_0 g_t_1 g_t_2 g_t_4 g_t_5 g_t_7 g_t_8 g_t_9 g_t_11 g_t_13 g_t_now_0 g_t_now_1 g_t_now_3 g_t_now_5 g_t_now_6 g_t_now_7 g_t_now_8 g_t_now_13 g_t_now_14 g_t_now_15 g_t_now_16 g_t_queue_0 g_t_queue_1 g_t_queue_2 g_t_slotsE_1 c_now_parts c_now_sided c_now_sideStand c_now_sideWalk c_now_sidePace c_now_speeds c_queue_leastFromStanding c_queue_leastOfAll c_queue_minutes c_queue_standing c_queue_coming c_queue_walking c_slotsE_held c_slotsE_size c_slotsE_numbers c_told_above c_told_below) (W_X8_openSides cy a_t a_t_now a_t_now_speeds a_t_queue a_t_queue_coming a_t_queue_walking a_t_slots a_t_slotsE_0 a_t_slotsE_1 a_t_slotsE_2 a_t_slotsE_3 a_t_slotsE_numbers_0 a_t_slotsE_numbers_1 a_t_slotsE_numbers_2 a_t_slotsE_numbers_3 a_t_told g_t_0 g_t_1 g_t_2 g_t_4 g_t_5 g_t_7 g_t_8 g_t_9 g_t_11 g_t_13 g_t_now_0 g_t_now_1 g_t_now_3 g_t_now_5 g_t_now_6 g_t_now_7 g_t_now_8 g_t_now_13 g_t_now_14 g_t_now_15 g_t_now_16 g_t_queue_0 g_t_queue_1 g_t_queue_2 g_t_slotsE_1 c_now_parts c_now_sided c_now_sideStand c_now_sideWalk c_now_sidePace c_now_speeds (v.2.1) (v.2.2.1) (v.2.2.2.1) (v.2.2.2.2.1) (v.2.2.2.2.2.1) (v.2.2.2.2.2.2.1) c_slotsE_held c_slotsE_size c_slotsE_numbers (v.2.2.2.2.2.2.2.1) (v.2.2.2.2.2.2.2.2)) (some (.int (wI (v.1)))) := by
  refine Ct.introI (j := 2) (plainFor_of_name (by decide)) rfl rfl (fun E C e1 e2 e3 e4 e5 hret => ?_)
  subst e1; subst e2; subst e3; subst e4
  exact wm_X8_openSides C e5 h hret
-- MovingStair.sides(III)J
def W_X8_sides (cy : Nat → ClassId) (a_t a_t_now a_t_now_speeds a_t_queue a_t_queue_coming a_t_queue_walking a_t_slots a_t_slotsE_0 a_t_slotsE_1 a_t_slotsE_2 a_t_slotsE_3 a_t_slotsE_numbers_0 a_t_slotsE_numbers_1 a_t_slotsE_numbers_2 a_t_slotsE_numbers_3 a_t_told : Nat) (g_t_0 : Value) (g_t_1 : Value) (g_t_2 : Value) (g_t_4 : Value) (g_t_5 : Value) (g_t_7 : Value) (g_t_8 : Value) (g_t_9 : Value) (g_t_11 : Value) (g_t_13 : Value) (g_t_now_0 : Value) (g_t_now_1 : Value) (g_t_now_3 : Value) (g_t_now_5 : Value) (g_t_now_6 : Value) (g_t_now_7 : Value) (g_t_now_8 : Value) (g_t_now_13 : Value) (g_t_now_14 : Value) (g_t_now_15 : Value) (g_t_now_16 : Value) (g_t_queue_0 : Value) (g_t_queue_1 : Value) (g_t_queue_2 : Value) (g_t_slotsE_1 : Nat → Value) (c_now_parts : Int) (c_now_sided : Int) (c_now_sideStand : Int) (c_now_sideWalk : Int) (c_now_sidePace : Int) (c_now_speeds : Int → Int) (c_queue_leastFromStanding : Int) (c_queue_leastOfAll : Int) (c_queue_minutes : Int) (c_queue_standing : Int) (c_queue_coming : Int → Int) (c_queue_walking : Int → Int) (c_slotsE_held : Int → Int) (c_slotsE_size : Int → Int) (c_slotsE_numbers : Int → Int → Int) (c_told_above : Int) (c_told_below : Int) : va_W := [(a_t, .inr (8, [g_t_0, g_t_1, g_t_2, .ref a_t_now, g_t_4, g_t_5, .ref a_t_slots, g_t_7, g_t_8, g_t_9, .ref a_t_queue, g_t_11, .ref a_t_told, g_t_13])), (a_t_now, .inr (2, [g_t_now_0, g_t_now_1, .int (wI c_now_parts), g_t_now_3, .ref a_t_now_speeds, g_t_now_5, g_t_now_6, g_t_now_7, g_t_now_8, .int (wI c_now_sided), .int (wI c_now_sideStand), .int (wI c_now_sideWalk), .int (wI c_now_sidePace), g_t_now_13, g_t_now_14, g_t_now_15, g_t_now_16])), (a_t_now_speeds, .inl (cy 1, 4, .inl (aI c_now_speeds))), (a_t_queue, .inr (3, [g_t_queue_0, g_t_queue_1, g_t_queue_2, .long (wJ c_queue_leastFromStanding), .long (wJ c_queue_leastOfAll), .int (wI c_queue_minutes), .long (wJ c_queue_standing), .ref a_t_queue_walking, .ref a_t_queue_coming])), (a_t_queue_coming, .inl (cy 2, 30, .inr (.inl (aJ c_queue_coming)))), (a_t_queue_walking, .inl (cy 2, 30, .inr (.inl (aJ c_queue_walking)))), (a_t_slots, .inl (cy 5, 4, .inr (.inr (.inr (.inr (selO [a_t_slotsE_0, a_t_slotsE_1, a_t_slotsE_2, a_t_slotsE_3])))))), (a_t_slotsE_0, .inr (5, [.int (wI (c_slotsE_held 0)), g_t_slotsE_1 0, .int (wI (c_slotsE_size 0)), .ref a_t_slotsE_numbers_0])), (a_t_slotsE_1, .inr (5, [.int (wI (c_slotsE_held 1)), g_t_slotsE_1 1, .int (wI (c_slotsE_size 1)), .ref a_t_slotsE_numbers_1])), (a_t_slotsE_2, .inr (5, [.int (wI (c_slotsE_held 2)), g_t_slotsE_1 2, .int (wI (c_slotsE_size 2)), .ref a_t_slotsE_numbers_2])), (a_t_slotsE_3, .inr (5, [.int (wI (c_slotsE_held 3)), g_t_slotsE_1 3, .int (wI (c_slotsE_size 3)), .ref a_t_slotsE_numbers_3])), (a_t_slotsE_numbers_0, .inl (cy 2, 60, .inr (.inl (aJ (c_slotsE_numbers 0))))), (a_t_slotsE_numbers_1, .inl (cy 2, 60, .inr (.inl (aJ (c_slotsE_numbers 1))))), (a_t_slotsE_numbers_2, .inl (cy 2, 60, .inr (.inl (aJ (c_slotsE_numbers 2))))), (a_t_slotsE_numbers_3, .inl (cy 2, 60, .inr (.inl (aJ (c_slotsE_numbers 3))))), (a_t_told, .inr (1, [.long (wJ c_told_above), .long (wJ c_told_below)]))]
def m_X8_sides (F : Nat) (x1 : Int) (x2 : Int) (x3 : Int) (c_now_parts : Int) (c_now_sided : Int) (c_now_sideStand : Int) (c_now_sideWalk : Int) (c_now_sidePace : Int) (c_now_speeds : Int → Int) (c_queue_leastFromStanding : Int) (c_queue_leastOfAll : Int) (c_queue_minutes : Int) (c_queue_standing : Int) (c_queue_coming : Int → Int) (c_queue_walking : Int → Int) (c_slotsE_held : Int → Int) (c_slotsE_size : Int → Int) (c_slotsE_numbers : Int → Int → Int) (c_told_above : Int) (c_told_below : Int) : Option (Int × Int × Int × Int × Int × (Int → Int) × (Int → Int) × Int × Int) :=
  bnd9 (m_X8_openSides F x1 x2 x3 c_now_parts c_now_sided c_now_sideStand c_now_sideWalk c_now_sidePace c_now_speeds c_queue_leastFromStanding c_queue_leastOfAll c_queue_minutes c_queue_standing c_queue_coming c_queue_walking c_slotsE_held c_slotsE_size c_slotsE_numbers c_told_above c_told_below) fun r1 o2 o3 o4 o5 o6 o7 o8 o9 => if wI r1 = wI 0 then
    (some (o3, o2, o3, o4, o5, o6, o7, o8, o9))
  else
    (chk (r32 r1) <| some (r1, o2, o3, o4, o5, o6, o7, o8, o9))
section S_X8_sides
variable {E : EE} {a_t a_t_now a_t_now_speeds a_t_queue a_t_queue_coming a_t_queue_walking a_t_slots a_t_slotsE_0 a_t_slotsE_1 a_t_slotsE_2 a_t_slotsE_3 a_t_slotsE_numbers_0 a_t_slotsE_numbers_1 a_t_slotsE_numbers_2 a_t_slotsE_numbers_3 a_t_told : Nat} {g_t_0 : Value} {g_t_1 : Value} {g_t_2 : Value} {g_t_4 : Value} {g_t_5 : Value} {g_t_7 : Value} {g_t_8 : Value} {g_t_9 : Value} {g_t_11 : Value} {g_t_13 : Value} {g_t_now_0 : Value} {g_t_now_1 : Value} {g_t_now_3 : Value} {g_t_now_5 : Value} {g_t_now_6 : Value} {g_t_now_7 : Value} {g_t_now_8 : Value} {g_t_now_13 : Value} {g_t_now_14 : Value} {g_t_now_15 : Value} {g_t_now_16 : Value} {g_t_queue_0 : Value} {g_t_queue_1 : Value} {g_t_queue_2 : Value} {g_t_slotsE_1 : Nat → Value}
set_option maxRecDepth 100000 in
set_option maxHeartbeats 4000000 in
theorem wm_X8_sides {F : Nat} {v : Int × Int × Int × Int × Int × (Int → Int) × (Int → Int) × Int × Int} {x1 : Int} {x2 : Int} {x3 : Int} {c_now_parts : Int} {c_now_sided : Int} {c_now_sideStand : Int} {c_now_sideWalk : Int} {c_now_sidePace : Int} {c_now_speeds : Int → Int} {c_queue_leastFromStanding : Int} {c_queue_leastOfAll : Int} {c_queue_minutes : Int} {c_queue_standing : Int} {c_queue_coming : Int → Int} {c_queue_walking : Int → Int} {c_slotsE_held : Int → Int} {c_slotsE_size : Int → Int} {c_slotsE_numbers : Int → Int → Int} {c_told_above : Int} {c_told_below : Int} (C : Cx E cX8_sides RX8 { frames := 204, cells := 0, slots := 0, locals := 7109 }) (hN : eN E = 5) (h : m_X8_sides F x1 x2 x3 c_now_parts c_now_sided c_now_sideStand c_now_sideWalk c_now_sidePace c_now_speeds c_queue_leastFromStanding c_queue_leastOfAll c_queue_minutes c_queue_standing c_queue_coming c_queue_walking c_slotsE_held c_slotsE_size c_slotsE_numbers c_told_above c_told_below = some v) (hret : ∀ (pc : Nat) (L : List (Option Value)), decode cX8_sides pc = .ok (.lreturn, 1) → GG E 0 0 (W_X8_sides (eCy E) a_t a_t_now a_t_now_speeds a_t_queue a_t_queue_coming a_t_queue_walking a_t_slots a_t_slotsE_0 a_t_slotsE_1 a_t_slotsE_2 a_t_slotsE_3 a_t_slotsE_numbers_0 a_t_slotsE_numbers_1 a_t_slotsE_numbers_2 a_t_slotsE_numbers_3 a_t_told g_t_0 g_t_1 g_t_2 g_t_4 g_t_5 g_t_7 g_t_8 g_t_9 g_t_11 g_t_13 g_t_now_0 g_t_now_1 g_t_now_3 g_t_now_5 g_t_now_6 g_t_now_7 g_t_now_8 g_t_now_13 g_t_now_14 g_t_now_15 g_t_now_16 g_t_queue_0 g_t_queue_1 g_t_queue_2 g_t_slotsE_1 c_now_parts c_now_sided c_now_sideStand c_now_sideWalk c_now_sidePace c_now_speeds (v.2.1) (v.2.2.1) (v.2.2.2.1) (v.2.2.2.2.1) (v.2.2.2.2.2.1) (v.2.2.2.2.2.2.1) c_slotsE_held c_slotsE_size c_slotsE_numbers (v.2.2.2.2.2.2.2.1) (v.2.2.2.2.2.2.2.2)) L pc [.long (wJ (v.1))]) : GG E 0 0 (W_X8_sides (eCy E) a_t a_t_now a_t_now_speeds a_t_queue a_t_queue_coming a_t_queue_walking a_t_slots a_t_slotsE_0 a_t_slotsE_1 a_t_slotsE_2 a_t_slotsE_3 a_t_slotsE_numbers_0 a_t_slotsE_numbers_1 a_t_slotsE_numbers_2 a_t_slotsE_numbers_3 a_t_told g_t_0 g_t_1 g_t_2 g_t_4 g_t_5 g_t_7 g_t_8 g_t_9 g_t_11 g_t_13 g_t_now_0 g_t_now_1 g_t_now_3 g_t_now_5 g_t_now_6 g_t_now_7 g_t_now_8 g_t_now_13 g_t_now_14 g_t_now_15 g_t_now_16 g_t_queue_0 g_t_queue_1 g_t_queue_2 g_t_slotsE_1 c_now_parts c_now_sided c_now_sideStand c_now_sideWalk c_now_sidePace c_now_speeds c_queue_leastFromStanding c_queue_leastOfAll c_queue_minutes c_queue_standing c_queue_coming c_queue_walking c_slotsE_held c_slotsE_size c_slotsE_numbers c_told_above c_told_below) [some (.ref a_t), some (.int (wI x1)), some (.int (wI x2)), some (.int (wI x3)), none] 0 [] := by
  unfold m_X8_sides at h
  refine g_aload_n 0 C dX8_sides_0 rfl rfl ?_
  refine g_iload_n 1 C dX8_sides_1 rfl rfl ?_
  refine g_iload_n 2 C dX8_sides_2 rfl rfl ?_
  refine g_iload_n 3 C dX8_sides_3 rfl rfl ?_
  obtain ⟨r1, o2, o3, o4, o5, o6, o7, o8, o9, hr10, h⟩ := bnd9_some h
  refine g_callI [0, 1, 2, 3, 4, 5, 6, 7, 8, 9, 10, 11, 12, 13, 14, 15] [] [0, 1, 2, 3, 4, 5, 6, 7, 8, 9, 10, 11, 12, 13, 14, 15] C mt_X8_363 (c_X8_openSides _ _ _ _ a_t a_t_now a_t_now_speeds a_t_queue a_t_queue_coming a_t_queue_walking a_t_slots a_t_slotsE_0 a_t_slotsE_1 a_t_slotsE_2 a_t_slotsE_3 a_t_slotsE_numbers_0 a_t_slotsE_numbers_1 a_t_slotsE_numbers_2 a_t_slotsE_numbers_3 a_t_told (g_t_0) (g_t_1) (g_t_2) (g_t_4) (g_t_5) (g_t_7) (g_t_8) (g_t_9) (g_t_11) (g_t_13) (g_t_now_0) (g_t_now_1) (g_t_now_3) (g_t_now_5) (g_t_now_6) (g_t_now_7) (g_t_now_8) (g_t_now_13) (g_t_now_14) (g_t_now_15) (g_t_now_16) (g_t_queue_0) (g_t_queue_1) (g_t_queue_2) (selV [g_t_slotsE_1 0, g_t_slotsE_1 1, g_t_slotsE_1 2, g_t_slotsE_1 3]) x1 x2 x3 c_now_parts c_now_sided c_now_sideStand c_now_sideWalk c_now_sidePace c_now_speeds c_queue_leastFromStanding c_queue_leastOfAll c_queue_minutes c_queue_standing c_queue_coming c_queue_walking c_slotsE_held c_slotsE_size c_slotsE_numbers c_told_above c_told_below F hr10) (q0 := 0) rfl (ci := 8) rfl rfl rfl (ws2 := (W_X8_sides (eCy E) a_t a_t_now a_t_now_speeds a_t_queue a_t_queue_coming a_t_queue_walking a_t_slots a_t_slotsE_0 a_t_slotsE_1 a_t_slotsE_2 a_t_slotsE_3 a_t_slotsE_numbers_0 a_t_slotsE_numbers_1 a_t_slotsE_numbers_2 a_t_slotsE_numbers_3 a_t_told g_t_0 g_t_1 g_t_2 g_t_4 g_t_5 g_t_7 g_t_8 g_t_9 g_t_11 g_t_13 g_t_now_0 g_t_now_1 g_t_now_3 g_t_now_5 g_t_now_6 g_t_now_7 g_t_now_8 g_t_now_13 g_t_now_14 g_t_now_15 g_t_now_16 g_t_queue_0 g_t_queue_1 g_t_queue_2 g_t_slotsE_1 c_now_parts c_now_sided c_now_sideStand c_now_sideWalk c_now_sidePace c_now_speeds o2 o3 o4 o5 o6 o7 c_slotsE_held c_slotsE_size c_slotsE_numbers o8 o9)) rfl rfl rfl (rest := []) rfl rfl rfl dX8_sides_4 ?_
  refine g_istore C hN dX8_sides_7 rfl (L' := [some (.ref a_t), some (.int (wI x1)), some (.int (wI x2)), some (.int (wI x3)), some (.int (wI r1))]) rfl ?_
  refine g_iload C dX8_sides_9 rfl ?_
  refine g_if_ne 24 C dX8_sides_11 (by decide) h (fun h => ?_) (fun h => ?_)
  · refine g_iload C dX8_sides_24 rfl ?_
    obtain ⟨hc11, h⟩ := chk_some h
    refine g_i2l C dX8_sides_26 hc11 ?_
    cases h
    exact hret 27 _ dX8_sides_27
  · refine g_aload_n 0 C dX8_sides_14 rfl rfl ?_
    refine g_get C fg_X8_64 0 rfl rfl dX8_sides_15 ?_
    refine g_get C fg_X8_366 3 rfl rfl dX8_sides_18 ?_
    refine g_st (st' := [.long (wJ o3)]) rfl ?_
    refine g_goto (tgt := 27) C dX8_sides_21 (by decide) ?_
    cases h
    exact hret 27 _ dX8_sides_27
end S_X8_sides
set_option maxRecDepth 100000 in
set_option maxHeartbeats 4000000 in
theorem c_X8_sides (l : Launch) (D : va_G) (cy : Nat → ClassId) (ad : AD) (a_t a_t_now a_t_now_speeds a_t_queue a_t_queue_coming a_t_queue_walking a_t_slots a_t_slotsE_0 a_t_slotsE_1 a_t_slotsE_2 a_t_slotsE_3 a_t_slotsE_numbers_0 a_t_slotsE_numbers_1 a_t_slotsE_numbers_2 a_t_slotsE_numbers_3 a_t_told : Nat) (g_t_0 : Value) (g_t_1 : Value) (g_t_2 : Value) (g_t_4 : Value) (g_t_5 : Value) (g_t_7 : Value) (g_t_8 : Value) (g_t_9 : Value) (g_t_11 : Value) (g_t_13 : Value) (g_t_now_0 : Value) (g_t_now_1 : Value) (g_t_now_3 : Value) (g_t_now_5 : Value) (g_t_now_6 : Value) (g_t_now_7 : Value) (g_t_now_8 : Value) (g_t_now_13 : Value) (g_t_now_14 : Value) (g_t_now_15 : Value) (g_t_now_16 : Value) (g_t_queue_0 : Value) (g_t_queue_1 : Value) (g_t_queue_2 : Value) (g_t_slotsE_1 : Nat → Value) (x1 : Int) (x2 : Int) (x3 : Int) (c_now_parts : Int) (c_now_sided : Int) (c_now_sideStand : Int) (c_now_sideWalk : Int) (c_now_sidePace : Int) (c_now_speeds : Int → Int) (c_queue_leastFromStanding : Int) (c_queue_leastOfAll : Int) (c_queue_minutes : Int) (c_queue_standing : Int) (c_queue_coming : Int → Int) (c_queue_walking : Int → Int) (c_slotsE_held : Int → Int) (c_slotsE_size : Int → Int) (c_slotsE_numbers : Int → Int → Int) (c_told_above : Int) (c_told_below : Int) (F : Nat) {v : Int × Int × Int × Int × Int × (Int → Int) × (Int → Int) × Int × Int} (h : m_X8_sides F x1 x2 x3 c_now_parts c_now_sided c_now_sideStand c_now_sideWalk c_now_sidePace c_now_speeds c_queue_leastFromStanding c_queue_leastOfAll c_queue_minutes c_queue_standing c_queue_coming c_queue_walking c_slotsE_held c_slotsE_size c_slotsE_numbers c_told_above c_told_below = some v) : Ct l yX8_sides cX8_sides 5 (some .long) { frames := 204, cells := 0, slots := 0, locals := 7109 } D cy ad [.ref a_t, .int (wI x1), .int (wI x2), .int (wI x3)] (W_X8_sides cy a_t a_t_now a_t_now_speeds a_t_queue a_t_queue_coming a_t_queue_walking a_t_slots a_t_slotsE_0 a_t_slotsE_1 a_t_slotsE_2 a_t_slotsE_3 a_t_slotsE_numbers_0 a_t_slotsE_numbers_1 a_t_slotsE_numbers_2 a_t_slotsE_numbers_3 a_t_told g_t_0 g_t_1 g_t_2 g_t_4 g_t_5 g_t_7 g_t_8 g_t_9 g_t_11 g_t_13 g_t_now_0 g_t_now_1 g_t_now_3 g_t_now_5 g_t_now_6 g_t_now_7 g_t_now_8 g_t_now_13 g_t_now_14 g_t_now_15 g_t_now_16 g_t_queue_0 g_t_queue_1 g_t_queue_2 g_t_slotsE_1 c_now_parts c_now_sided c_now_sideStand c_now_sideWalk c_now_sidePace c_now_speeds c_queue_leastFromStanding c_queue_leastOfAll c_queue_minutes c_queue_standing c_queue_coming c_queue_walking c_slotsE_held c_slotsE_size c_slotsE_numbers c_told_above c_told_below) (W_X8_sides cy a_t a_t_now a_t_now_speeds a_t_queue a_t_queue_coming a_t_queue_walking a_t_slots a_t_slotsE_0 a_t_slotsE_1 a_t_slotsE_2 a_t_slotsE_3 a_t_slotsE_numbers_0 a_t_slotsE_numbers_1 a_t_slotsE_numbers_2 a_t_slotsE_numbers_3 a_t_told g_t_0 g_t_1 g_t_2 g_t_4 g_t_5 g_t_7 g_t_8 g_t_9 g_t_11 g_t_13 g_t_now_0 g_t_now_1 g_t_now_3 g_t_now_5 g_t_now_6 g_t_now_7 g_t_now_8 g_t_now_13 g_t_now_14 g_t_now_15 g_t_now_16 g_t_queue_0 g_t_queue_1 g_t_queue_2 g_t_slotsE_1 c_now_parts c_now_sided c_now_sideStand c_now_sideWalk c_now_sidePace c_now_speeds (v.2.1) (v.2.2.1) (v.2.2.2.1) (v.2.2.2.2.1) (v.2.2.2.2.2.1) (v.2.2.2.2.2.2.1) c_slotsE_held c_slotsE_size c_slotsE_numbers (v.2.2.2.2.2.2.2.1) (v.2.2.2.2.2.2.2.2)) (some (.long (wJ (v.1)))) := by
  refine Ct.introJ (j := 1) (plainFor_of_name (by decide)) rfl rfl (fun E C e1 e2 e3 e4 e5 hret => ?_)
  subst e1; subst e2; subst e3; subst e4
  exact wm_X8_sides C e5 h hret
-- MovingStair.begins(III)I
def W_X8_begins (cy : Nat → ClassId) (a_t a_t_now a_t_now_speeds a_t_queue a_t_queue_coming a_t_queue_walking a_t_slots a_t_slotsE_0 a_t_slotsE_1 a_t_slotsE_2 a_t_slotsE_3 a_t_slotsE_numbers_0 a_t_slotsE_numbers_1 a_t_slotsE_numbers_2 a_t_slotsE_numbers_3 a_t_told : Nat) (g_t_0 : Value) (g_t_1 : Value) (g_t_2 : Value) (g_t_4 : Value) (g_t_5 : Value) (g_t_7 : Value) (g_t_8 : Value) (g_t_9 : Value) (g_t_11 : Value) (g_t_13 : Value) (g_t_now_0 : Value) (g_t_now_1 : Value) (g_t_now_3 : Value) (g_t_now_5 : Value) (g_t_now_6 : Value) (g_t_now_7 : Value) (g_t_now_8 : Value) (g_t_now_13 : Value) (g_t_now_14 : Value) (g_t_now_15 : Value) (g_t_now_16 : Value) (g_t_queue_0 : Value) (g_t_queue_1 : Value) (g_t_queue_2 : Value) (g_t_slotsE_1 : Nat → Value) (c_now_parts : Int) (c_now_sided : Int) (c_now_sideStand : Int) (c_now_sideWalk : Int) (c_now_sidePace : Int) (c_now_speeds : Int → Int) (c_queue_leastFromStanding : Int) (c_queue_leastOfAll : Int) (c_queue_minutes : Int) (c_queue_standing : Int) (c_queue_coming : Int → Int) (c_queue_walking : Int → Int) (c_slotsE_held : Int → Int) (c_slotsE_size : Int → Int) (c_slotsE_numbers : Int → Int → Int) (c_told_above : Int) (c_told_below : Int) : va_W := [(a_t, .inr (8, [g_t_0, g_t_1, g_t_2, .ref a_t_now, g_t_4, g_t_5, .ref a_t_slots, g_t_7, g_t_8, g_t_9, .ref a_t_queue, g_t_11, .ref a_t_told, g_t_13])), (a_t_now, .inr (2, [g_t_now_0, g_t_now_1, .int (wI c_now_parts), g_t_now_3, .ref a_t_now_speeds, g_t_now_5, g_t_now_6, g_t_now_7, g_t_now_8, .int (wI c_now_sided), .int (wI c_now_sideStand), .int (wI c_now_sideWalk), .int (wI c_now_sidePace), g_t_now_13, g_t_now_14, g_t_now_15, g_t_now_16])), (a_t_now_speeds, .inl (cy 1, 4, .inl (aI c_now_speeds))), (a_t_queue, .inr (3, [g_t_queue_0, g_t_queue_1, g_t_queue_2, .long (wJ c_queue_leastFromStanding), .long (wJ c_queue_leastOfAll), .int (wI c_queue_minutes), .long (wJ c_queue_standing), .ref a_t_queue_walking, .ref a_t_queue_coming])), (a_t_queue_coming, .inl (cy 2, 30, .inr (.inl (aJ c_queue_coming)))), (a_t_queue_walking, .inl (cy 2, 30, .inr (.inl (aJ c_queue_walking)))), (a_t_slots, .inl (cy 5, 4, .inr (.inr (.inr (.inr (selO [a_t_slotsE_0, a_t_slotsE_1, a_t_slotsE_2, a_t_slotsE_3])))))), (a_t_slotsE_0, .inr (5, [.int (wI (c_slotsE_held 0)), g_t_slotsE_1 0, .int (wI (c_slotsE_size 0)), .ref a_t_slotsE_numbers_0])), (a_t_slotsE_1, .inr (5, [.int (wI (c_slotsE_held 1)), g_t_slotsE_1 1, .int (wI (c_slotsE_size 1)), .ref a_t_slotsE_numbers_1])), (a_t_slotsE_2, .inr (5, [.int (wI (c_slotsE_held 2)), g_t_slotsE_1 2, .int (wI (c_slotsE_size 2)), .ref a_t_slotsE_numbers_2])), (a_t_slotsE_3, .inr (5, [.int (wI (c_slotsE_held 3)), g_t_slotsE_1 3, .int (wI (c_slotsE_size 3)), .ref a_t_slotsE_numbers_3])), (a_t_slotsE_numbers_0, .inl (cy 2, 60, .inr (.inl (aJ (c_slotsE_numbers 0))))), (a_t_slotsE_numbers_1, .inl (cy 2, 60, .inr (.inl (aJ (c_slotsE_numbers 1))))), (a_t_slotsE_numbers_2, .inl (cy 2, 60, .inr (.inl (aJ (c_slotsE_numbers 2))))), (a_t_slotsE_numbers_3, .inl (cy 2, 60, .inr (.inl (aJ (c_slotsE_numbers 3))))), (a_t_told, .inr (1, [.long (wJ c_told_above), .long (wJ c_told_below)]))]
def m_X8_begins (F : Nat) (x1 : Int) (x2 : Int) (x3 : Int) (c_now_parts : Int) (c_now_sided : Int) (c_now_sideStand : Int) (c_now_sideWalk : Int) (c_now_sidePace : Int) (c_now_speeds : Int → Int) (c_queue_leastFromStanding : Int) (c_queue_leastOfAll : Int) (c_queue_minutes : Int) (c_queue_standing : Int) (c_queue_coming : Int → Int) (c_queue_walking : Int → Int) (c_slotsE_held : Int → Int) (c_slotsE_size : Int → Int) (c_slotsE_numbers : Int → Int → Int) (c_told_above : Int) (c_told_below : Int) : Option (Int × Int × Int × Int × Int × (Int → Int) × (Int → Int) × Int × Int) :=
  bnd9 (m_X8_openSides F x1 x2 x3 c_now_parts c_now_sided c_now_sideStand c_now_sideWalk c_now_sidePace c_now_speeds c_queue_leastFromStanding c_queue_leastOfAll c_queue_minutes c_queue_standing c_queue_coming c_queue_walking c_slotsE_held c_slotsE_size c_slotsE_numbers c_told_above c_told_below) fun r1 o2 o3 o4 o5 o6 o7 o8 o9 => if wI r1 = wI 0 then
    (if wJ o2 ≤ wJ o3 then
    (some (0, o2, o3, o4, o5, o6, o7, o8, o9))
  else
    (some (1, o2, o3, o4, o5, o6, o7, o8, o9)))
  else
    (some (r1, o2, o3, o4, o5, o6, o7, o8, o9))
section S_X8_begins
variable {E : EE} {a_t a_t_now a_t_now_speeds a_t_queue a_t_queue_coming a_t_queue_walking a_t_slots a_t_slotsE_0 a_t_slotsE_1 a_t_slotsE_2 a_t_slotsE_3 a_t_slotsE_numbers_0 a_t_slotsE_numbers_1 a_t_slotsE_numbers_2 a_t_slotsE_numbers_3 a_t_told : Nat} {g_t_0 : Value} {g_t_1 : Value} {g_t_2 : Value} {g_t_4 : Value} {g_t_5 : Value} {g_t_7 : Value} {g_t_8 : Value} {g_t_9 : Value} {g_t_11 : Value} {g_t_13 : Value} {g_t_now_0 : Value} {g_t_now_1 : Value} {g_t_now_3 : Value} {g_t_now_5 : Value} {g_t_now_6 : Value} {g_t_now_7 : Value} {g_t_now_8 : Value} {g_t_now_13 : Value} {g_t_now_14 : Value} {g_t_now_15 : Value} {g_t_now_16 : Value} {g_t_queue_0 : Value} {g_t_queue_1 : Value} {g_t_queue_2 : Value} {g_t_slotsE_1 : Nat → Value}
set_option maxRecDepth 100000 in
set_option maxHeartbeats 4000000 in
theorem wm_X8_begins {F : Nat} {v : Int × Int × Int × Int × Int × (Int → Int) × (Int → Int) × Int × Int} {x1 : Int} {x2 : Int} {x3 : Int} {c_now_parts : Int} {c_now_sided : Int} {c_now_sideStand : Int} {c_now_sideWalk : Int} {c_now_sidePace : Int} {c_now_speeds : Int → Int} {c_queue_leastFromStanding : Int} {c_queue_leastOfAll : Int} {c_queue_minutes : Int} {c_queue_standing : Int} {c_queue_coming : Int → Int} {c_queue_walking : Int → Int} {c_slotsE_held : Int → Int} {c_slotsE_size : Int → Int} {c_slotsE_numbers : Int → Int → Int} {c_told_above : Int} {c_told_below : Int} (C : Cx E cX8_begins RX8 { frames := 204, cells := 0, slots := 0, locals := 7109 }) (hN : eN E = 5) (h : m_X8_begins F x1 x2 x3 c_now_parts c_now_sided c_now_sideStand c_now_sideWalk c_now_sidePace c_now_speeds c_queue_leastFromStanding c_queue_leastOfAll c_queue_minutes c_queue_standing c_queue_coming c_queue_walking c_slotsE_held c_slotsE_size c_slotsE_numbers c_told_above c_told_below = some v) (hret : ∀ (pc : Nat) (L : List (Option Value)), decode cX8_begins pc = .ok (.ireturn, 1) → GG E 0 0 (W_X8_begins (eCy E) a_t a_t_now a_t_now_speeds a_t_queue a_t_queue_coming a_t_queue_walking a_t_slots a_t_slotsE_0 a_t_slotsE_1 a_t_slotsE_2 a_t_slotsE_3 a_t_slotsE_numbers_0 a_t_slotsE_numbers_1 a_t_slotsE_numbers_2 a_t_slotsE_numbers_3 a_t_told g_t_0 g_t_1 g_t_2 g_t_4 g_t_5 g_t_7 g_t_8 g_t_9 g_t_11 g_t_13 g_t_now_0 g_t_now_1 g_t_now_3 g_t_now_5 g_t_now_6 g_t_now_7 g_t_now_8 g_t_now_13 g_t_now_14 g_t_now_15 g_t_now_16 g_t_queue_0 g_t_queue_1 g_t_queue_2 g_t_slotsE_1 c_now_parts c_now_sided c_now_sideStand c_now_sideWalk c_now_sidePace c_now_speeds (v.2.1) (v.2.2.1) (v.2.2.2.1) (v.2.2.2.2.1) (v.2.2.2.2.2.1) (v.2.2.2.2.2.2.1) c_slotsE_held c_slotsE_size c_slotsE_numbers (v.2.2.2.2.2.2.2.1) (v.2.2.2.2.2.2.2.2)) L pc [.int (wI (v.1))]) : GG E 0 0 (W_X8_begins (eCy E) a_t a_t_now a_t_now_speeds a_t_queue a_t_queue_coming a_t_queue_walking a_t_slots a_t_slotsE_0 a_t_slotsE_1 a_t_slotsE_2 a_t_slotsE_3 a_t_slotsE_numbers_0 a_t_slotsE_numbers_1 a_t_slotsE_numbers_2 a_t_slotsE_numbers_3 a_t_told g_t_0 g_t_1 g_t_2 g_t_4 g_t_5 g_t_7 g_t_8 g_t_9 g_t_11 g_t_13 g_t_now_0 g_t_now_1 g_t_now_3 g_t_now_5 g_t_now_6 g_t_now_7 g_t_now_8 g_t_now_13 g_t_now_14 g_t_now_15 g_t_now_16 g_t_queue_0 g_t_queue_1 g_t_queue_2 g_t_slotsE_1 c_now_parts c_now_sided c_now_sideStand c_now_sideWalk c_now_sidePace c_now_speeds c_queue_leastFromStanding c_queue_leastOfAll c_queue_minutes c_queue_standing c_queue_coming c_queue_walking c_slotsE_held c_slotsE_size c_slotsE_numbers c_told_above c_told_below) [some (.ref a_t), some (.int (wI x1)), some (.int (wI x2)), some (.int (wI x3)), none] 0 [] := by
  unfold m_X8_begins at h
  refine g_aload_n 0 C dX8_begins_0 rfl rfl ?_
  refine g_iload_n 1 C dX8_begins_1 rfl rfl ?_
  refine g_iload_n 2 C dX8_begins_2 rfl rfl ?_
  refine g_iload_n 3 C dX8_begins_3 rfl rfl ?_
  obtain ⟨r1, o2, o3, o4, o5, o6, o7, o8, o9, hr10, h⟩ := bnd9_some h
  refine g_callI [0, 1, 2, 3, 4, 5, 6, 7, 8, 9, 10, 11, 12, 13, 14, 15] [] [0, 1, 2, 3, 4, 5, 6, 7, 8, 9, 10, 11, 12, 13, 14, 15] C mt_X8_363 (c_X8_openSides _ _ _ _ a_t a_t_now a_t_now_speeds a_t_queue a_t_queue_coming a_t_queue_walking a_t_slots a_t_slotsE_0 a_t_slotsE_1 a_t_slotsE_2 a_t_slotsE_3 a_t_slotsE_numbers_0 a_t_slotsE_numbers_1 a_t_slotsE_numbers_2 a_t_slotsE_numbers_3 a_t_told (g_t_0) (g_t_1) (g_t_2) (g_t_4) (g_t_5) (g_t_7) (g_t_8) (g_t_9) (g_t_11) (g_t_13) (g_t_now_0) (g_t_now_1) (g_t_now_3) (g_t_now_5) (g_t_now_6) (g_t_now_7) (g_t_now_8) (g_t_now_13) (g_t_now_14) (g_t_now_15) (g_t_now_16) (g_t_queue_0) (g_t_queue_1) (g_t_queue_2) (selV [g_t_slotsE_1 0, g_t_slotsE_1 1, g_t_slotsE_1 2, g_t_slotsE_1 3]) x1 x2 x3 c_now_parts c_now_sided c_now_sideStand c_now_sideWalk c_now_sidePace c_now_speeds c_queue_leastFromStanding c_queue_leastOfAll c_queue_minutes c_queue_standing c_queue_coming c_queue_walking c_slotsE_held c_slotsE_size c_slotsE_numbers c_told_above c_told_below F hr10) (q0 := 0) rfl (ci := 8) rfl rfl rfl (ws2 := (W_X8_begins (eCy E) a_t a_t_now a_t_now_speeds a_t_queue a_t_queue_coming a_t_queue_walking a_t_slots a_t_slotsE_0 a_t_slotsE_1 a_t_slotsE_2 a_t_slotsE_3 a_t_slotsE_numbers_0 a_t_slotsE_numbers_1 a_t_slotsE_numbers_2 a_t_slotsE_numbers_3 a_t_told g_t_0 g_t_1 g_t_2 g_t_4 g_t_5 g_t_7 g_t_8 g_t_9 g_t_11 g_t_13 g_t_now_0 g_t_now_1 g_t_now_3 g_t_now_5 g_t_now_6 g_t_now_7 g_t_now_8 g_t_now_13 g_t_now_14 g_t_now_15 g_t_now_16 g_t_queue_0 g_t_queue_1 g_t_queue_2 g_t_slotsE_1 c_now_parts c_now_sided c_now_sideStand c_now_sideWalk c_now_sidePace c_now_speeds o2 o3 o4 o5 o6 o7 c_slotsE_held c_slotsE_size c_slotsE_numbers o8 o9)) rfl rfl rfl (rest := []) rfl rfl rfl dX8_begins_4 ?_
  refine g_istore C hN dX8_begins_7 rfl (L' := [some (.ref a_t), some (.int (wI x1)), some (.int (wI x2)), some (.int (wI x3)), some (.int (wI r1))]) rfl ?_
  refine g_iload C dX8_begins_9 rfl ?_
  refine g_if_eq 17 C dX8_begins_11 (by decide) h (fun h => ?_) (fun h => ?_)
  · refine g_aload_n 0 C dX8_begins_17 rfl rfl ?_
    refine g_get C fg_X8_64 0 rfl rfl dX8_begins_18 ?_
    refine g_get C fg_X8_366 3 rfl rfl dX8_begins_21 ?_
    refine g_st (st' := [.long (wJ o3)]) rfl ?_
    refine g_aload_n 0 C dX8_begins_24 rfl rfl ?_
    refine g_get C fg_X8_64 0 rfl rfl dX8_begins_25 ?_
    refine g_get C fg_X8_369 3 rfl rfl dX8_begins_28 ?_
    refine g_st (st' := [.long (wJ o2), .long (wJ o3)]) rfl ?_
    refine g_lcmp_ge 39 C dX8_begins_31 dX8_begins_32 (by decide) h (fun h => ?_) (fun h => ?_)
    · refine g_iconst C dX8_begins_39 ?_
      cases h
      exact hret 40 _ dX8_begins_40
    · refine g_iconst C dX8_begins_35 ?_
      refine g_goto (tgt := 40) C dX8_begins_36 (by decide) ?_
      cases h
      exact hret 40 _ dX8_begins_40
  · refine g_iload C dX8_begins_14 rfl ?_
    cases h
    exact hret 16 _ dX8_begins_16
end S_X8_begins
set_option maxRecDepth 100000 in
set_option maxHeartbeats 4000000 in
theorem c_X8_begins (l : Launch) (D : va_G) (cy : Nat → ClassId) (ad : AD) (a_t a_t_now a_t_now_speeds a_t_queue a_t_queue_coming a_t_queue_walking a_t_slots a_t_slotsE_0 a_t_slotsE_1 a_t_slotsE_2 a_t_slotsE_3 a_t_slotsE_numbers_0 a_t_slotsE_numbers_1 a_t_slotsE_numbers_2 a_t_slotsE_numbers_3 a_t_told : Nat) (g_t_0 : Value) (g_t_1 : Value) (g_t_2 : Value) (g_t_4 : Value) (g_t_5 : Value) (g_t_7 : Value) (g_t_8 : Value) (g_t_9 : Value) (g_t_11 : Value) (g_t_13 : Value) (g_t_now_0 : Value) (g_t_now_1 : Value) (g_t_now_3 : Value) (g_t_now_5 : Value) (g_t_now_6 : Value) (g_t_now_7 : Value) (g_t_now_8 : Value) (g_t_now_13 : Value) (g_t_now_14 : Value) (g_t_now_15 : Value) (g_t_now_16 : Value) (g_t_queue_0 : Value) (g_t_queue_1 : Value) (g_t_queue_2 : Value) (g_t_slotsE_1 : Nat → Value) (x1 : Int) (x2 : Int) (x3 : Int) (c_now_parts : Int) (c_now_sided : Int) (c_now_sideStand : Int) (c_now_sideWalk : Int) (c_now_sidePace : Int) (c_now_speeds : Int → Int) (c_queue_leastFromStanding : Int) (c_queue_leastOfAll : Int) (c_queue_minutes : Int) (c_queue_standing : Int) (c_queue_coming : Int → Int) (c_queue_walking : Int → Int) (c_slotsE_held : Int → Int) (c_slotsE_size : Int → Int) (c_slotsE_numbers : Int → Int → Int) (c_told_above : Int) (c_told_below : Int) (F : Nat) {v : Int × Int × Int × Int × Int × (Int → Int) × (Int → Int) × Int × Int} (h : m_X8_begins F x1 x2 x3 c_now_parts c_now_sided c_now_sideStand c_now_sideWalk c_now_sidePace c_now_speeds c_queue_leastFromStanding c_queue_leastOfAll c_queue_minutes c_queue_standing c_queue_coming c_queue_walking c_slotsE_held c_slotsE_size c_slotsE_numbers c_told_above c_told_below = some v) : Ct l yX8_begins cX8_begins 5 (some .int) { frames := 204, cells := 0, slots := 0, locals := 7109 } D cy ad [.ref a_t, .int (wI x1), .int (wI x2), .int (wI x3)] (W_X8_begins cy a_t a_t_now a_t_now_speeds a_t_queue a_t_queue_coming a_t_queue_walking a_t_slots a_t_slotsE_0 a_t_slotsE_1 a_t_slotsE_2 a_t_slotsE_3 a_t_slotsE_numbers_0 a_t_slotsE_numbers_1 a_t_slotsE_numbers_2 a_t_slotsE_numbers_3 a_t_told g_t_0 g_t_1 g_t_2 g_t_4 g_t_5 g_t_7 g_t_8 g_t_9 g_t_11 g_t_13 g_t_now_0 g_t_now_1 g_t_now_3 g_t_now_5 g_t_now_6 g_t_now_7 g_t_now_8 g_t_now_13 g_t_now_14 g_t_now_15 g_t_now_16 g_t_queue_0 g_t_queue_1 g_t_queue_2 g_t_slotsE_1 c_now_parts c_now_sided c_now_sideStand c_now_sideWalk c_now_sidePace c_now_speeds c_queue_leastFromStanding c_queue_leastOfAll c_queue_minutes c_queue_standing c_queue_coming c_queue_walking c_slotsE_held c_slotsE_size c_slotsE_numbers c_told_above c_told_below) (W_X8_begins cy a_t a_t_now a_t_now_speeds a_t_queue a_t_queue_coming a_t_queue_walking a_t_slots a_t_slotsE_0 a_t_slotsE_1 a_t_slotsE_2 a_t_slotsE_3 a_t_slotsE_numbers_0 a_t_slotsE_numbers_1 a_t_slotsE_numbers_2 a_t_slotsE_numbers_3 a_t_told g_t_0 g_t_1 g_t_2 g_t_4 g_t_5 g_t_7 g_t_8 g_t_9 g_t_11 g_t_13 g_t_now_0 g_t_now_1 g_t_now_3 g_t_now_5 g_t_now_6 g_t_now_7 g_t_now_8 g_t_now_13 g_t_now_14 g_t_now_15 g_t_now_16 g_t_queue_0 g_t_queue_1 g_t_queue_2 g_t_slotsE_1 c_now_parts c_now_sided c_now_sideStand c_now_sideWalk c_now_sidePace c_now_speeds (v.2.1) (v.2.2.1) (v.2.2.2.1) (v.2.2.2.2.1) (v.2.2.2.2.2.1) (v.2.2.2.2.2.2.1) c_slotsE_held c_slotsE_size c_slotsE_numbers (v.2.2.2.2.2.2.2.1) (v.2.2.2.2.2.2.2.2)) (some (.int (wI (v.1)))) := by
  refine Ct.introI (j := 1) (plainFor_of_name (by decide)) rfl rfl (fun E C e1 e2 e3 e4 e5 hret => ?_)
  subst e1; subst e2; subst e3; subst e4
  exact wm_X8_begins C e5 h hret
-- MovingStair.openTurning(II)I
def W_X8_openTurning (cy : Nat → ClassId) (a_t a_t_now a_t_now_carried a_t_slots a_t_slotsE_0 a_t_slotsE_1 a_t_slotsE_2 a_t_slotsE_3 a_t_slotsE_numbers_0 a_t_slotsE_numbers_1 a_t_slotsE_numbers_2 a_t_slotsE_numbers_3 a_t_turning a_t_turning_carriedBy a_t_turning_chosen a_t_turning_leftFrom a_t_turning_leftFromE_0 a_t_turning_leftFromE_1 a_t_turning_leftFromE_2 a_t_turning_leftFromE_3 a_t_turning_leftFromE_4 a_t_turning_leftFromE_5 a_t_turning_leftFromE_6 a_t_turning_leftFromE_7 a_t_turning_leftFromE_8 a_t_turning_leftFromE_9 a_t_turning_leftFromE_10 a_t_turning_leftFromE_11 a_t_turning_leftFromE_12 a_t_turning_leftFromE_13 a_t_turning_leftFromE_14 a_t_turning_leftFromE_15 a_t_turning_leftFromE_16 a_t_turning_leftFromE_17 a_t_turning_leftFromE_18 a_t_turning_leftFromE_19 a_t_turning_leftFromE_20 a_t_turning_leftFromE_21 a_t_turning_leftFromE_22 a_t_turning_leftFromE_23 a_t_turning_leftFromE_24 a_t_turning_leftFromE_25 a_t_turning_leftFromE_26 a_t_turning_leftFromE_27 a_t_turning_leftFromE_28 a_t_turning_leftFromE_29 : Nat) (g_t_0 : Value) (g_t_1 : Value) (g_t_2 : Value) (g_t_4 : Value) (g_t_5 : Value) (g_t_7 : Value) (g_t_8 : Value) (g_t_9 : Value) (g_t_10 : Value) (g_t_12 : Value) (g_t_13 : Value) (g_t_now_1 : Value) (g_t_now_2 : Value) (g_t_now_3 : Value) (g_t_now_4 : Value) (g_t_now_5 : Value) (g_t_now_6 : Value) (g_t_now_9 : Value) (g_t_now_10 : Value) (g_t_now_11 : Value) (g_t_now_12 : Value) (g_t_now_13 : Value) (g_t_now_14 : Value) (g_t_now_15 : Value) (g_t_now_16 : Value) (g_t_slotsE_1 : Nat → Value) (c_now_lines : Int) (c_now_bands : Int) (c_now_carried : Int → Int) (c_slotsE_held : Int → Int) (c_slotsE_size : Int → Int) (c_slotsE_numbers : Int → Int → Int) (c_turning_hours : Int) (c_turning_least : Int) (c_turning_turns : Int) (c_turning_sets : Int) (c_turning_cost : Int) (c_turning_carriedBy : Int → Int) (c_turning_chosen : Int → Int) (c_turning_leftFromE : Int → Int → Int) : va_W := [(a_t, .inr (8, [g_t_0, g_t_1, g_t_2, .ref a_t_now, g_t_4, g_t_5, .ref a_t_slots, g_t_7, g_t_8, g_t_9, g_t_10, .ref a_t_turning, g_t_12, g_t_13])), (a_t_now, .inr (2, [.int (wI c_now_lines), g_t_now_1, g_t_now_2, g_t_now_3, g_t_now_4, g_t_now_5, g_t_now_6, .int (wI c_now_bands), .ref a_t_now_carried, g_t_now_9, g_t_now_10, g_t_now_11, g_t_now_12, g_t_now_13, g_t_now_14, g_t_now_15, g_t_now_16])), (a_t_now_carried, .inl (cy 1, 4, .inl (aI c_now_carried))), (a_t_slots, .inl (cy 5, 4, .inr (.inr (.inr (.inr (selO [a_t_slotsE_0, a_t_slotsE_1, a_t_slotsE_2, a_t_slotsE_3])))))), (a_t_slotsE_0, .inr (5, [.int (wI (c_slotsE_held 0)), g_t_slotsE_1 0, .int (wI (c_slotsE_size 0)), .ref a_t_slotsE_numbers_0])), (a_t_slotsE_1, .inr (5, [.int (wI (c_slotsE_held 1)), g_t_slotsE_1 1, .int (wI (c_slotsE_size 1)), .ref a_t_slotsE_numbers_1])), (a_t_slotsE_2, .inr (5, [.int (wI (c_slotsE_held 2)), g_t_slotsE_1 2, .int (wI (c_slotsE_size 2)), .ref a_t_slotsE_numbers_2])), (a_t_slotsE_3, .inr (5, [.int (wI (c_slotsE_held 3)), g_t_slotsE_1 3, .int (wI (c_slotsE_size 3)), .ref a_t_slotsE_numbers_3])), (a_t_slotsE_numbers_0, .inl (cy 2, 60, .inr (.inl (aJ (c_slotsE_numbers 0))))), (a_t_slotsE_numbers_1, .inl (cy 2, 60, .inr (.inl (aJ (c_slotsE_numbers 1))))), (a_t_slotsE_numbers_2, .inl (cy 2, 60, .inr (.inl (aJ (c_slotsE_numbers 2))))), (a_t_slotsE_numbers_3, .inl (cy 2, 60, .inr (.inl (aJ (c_slotsE_numbers 3))))), (a_t_turning, .inr (7, [.int (wI c_turning_hours), .int (wI c_turning_least), .int (wI c_turning_turns), .ref a_t_turning_chosen, .int (wI c_turning_sets), .int (wI c_turning_cost), .ref a_t_turning_carriedBy, .ref a_t_turning_leftFrom])), (a_t_turning_carriedBy, .inl (cy 1, 16, .inl (aI c_turning_carriedBy))), (a_t_turning_chosen, .inl (cy 1, 30, .inl (aI c_turning_chosen))), (a_t_turning_leftFrom, .inl (cy 6, 30, .inr (.inr (.inr (.inr (selO [a_t_turning_leftFromE_0, a_t_turning_leftFromE_1, a_t_turning_leftFromE_2, a_t_turning_leftFromE_3, a_t_turning_leftFromE_4, a_t_turning_leftFromE_5, a_t_turning_leftFromE_6, a_t_turning_leftFromE_7, a_t_turning_leftFromE_8, a_t_turning_leftFromE_9, a_t_turning_leftFromE_10, a_t_turning_leftFromE_11, a_t_turning_leftFromE_12, a_t_turning_leftFromE_13, a_t_turning_leftFromE_14, a_t_turning_leftFromE_15, a_t_turning_leftFromE_16, a_t_turning_leftFromE_17, a_t_turning_leftFromE_18, a_t_turning_leftFromE_19, a_t_turning_leftFromE_20, a_t_turning_leftFromE_21, a_t_turning_leftFromE_22, a_t_turning_leftFromE_23, a_t_turning_leftFromE_24, a_t_turning_leftFromE_25, a_t_turning_leftFromE_26, a_t_turning_leftFromE_27, a_t_turning_leftFromE_28, a_t_turning_leftFromE_29])))))), (a_t_turning_leftFromE_0, .inl (cy 1, 16, .inl (aI (c_turning_leftFromE 0)))), (a_t_turning_leftFromE_1, .inl (cy 1, 16, .inl (aI (c_turning_leftFromE 1)))), (a_t_turning_leftFromE_2, .inl (cy 1, 16, .inl (aI (c_turning_leftFromE 2)))), (a_t_turning_leftFromE_3, .inl (cy 1, 16, .inl (aI (c_turning_leftFromE 3)))), (a_t_turning_leftFromE_4, .inl (cy 1, 16, .inl (aI (c_turning_leftFromE 4)))), (a_t_turning_leftFromE_5, .inl (cy 1, 16, .inl (aI (c_turning_leftFromE 5)))), (a_t_turning_leftFromE_6, .inl (cy 1, 16, .inl (aI (c_turning_leftFromE 6)))), (a_t_turning_leftFromE_7, .inl (cy 1, 16, .inl (aI (c_turning_leftFromE 7)))), (a_t_turning_leftFromE_8, .inl (cy 1, 16, .inl (aI (c_turning_leftFromE 8)))), (a_t_turning_leftFromE_9, .inl (cy 1, 16, .inl (aI (c_turning_leftFromE 9)))), (a_t_turning_leftFromE_10, .inl (cy 1, 16, .inl (aI (c_turning_leftFromE 10)))), (a_t_turning_leftFromE_11, .inl (cy 1, 16, .inl (aI (c_turning_leftFromE 11)))), (a_t_turning_leftFromE_12, .inl (cy 1, 16, .inl (aI (c_turning_leftFromE 12)))), (a_t_turning_leftFromE_13, .inl (cy 1, 16, .inl (aI (c_turning_leftFromE 13)))), (a_t_turning_leftFromE_14, .inl (cy 1, 16, .inl (aI (c_turning_leftFromE 14)))), (a_t_turning_leftFromE_15, .inl (cy 1, 16, .inl (aI (c_turning_leftFromE 15)))), (a_t_turning_leftFromE_16, .inl (cy 1, 16, .inl (aI (c_turning_leftFromE 16)))), (a_t_turning_leftFromE_17, .inl (cy 1, 16, .inl (aI (c_turning_leftFromE 17)))), (a_t_turning_leftFromE_18, .inl (cy 1, 16, .inl (aI (c_turning_leftFromE 18)))), (a_t_turning_leftFromE_19, .inl (cy 1, 16, .inl (aI (c_turning_leftFromE 19)))), (a_t_turning_leftFromE_20, .inl (cy 1, 16, .inl (aI (c_turning_leftFromE 20)))), (a_t_turning_leftFromE_21, .inl (cy 1, 16, .inl (aI (c_turning_leftFromE 21)))), (a_t_turning_leftFromE_22, .inl (cy 1, 16, .inl (aI (c_turning_leftFromE 22)))), (a_t_turning_leftFromE_23, .inl (cy 1, 16, .inl (aI (c_turning_leftFromE 23)))), (a_t_turning_leftFromE_24, .inl (cy 1, 16, .inl (aI (c_turning_leftFromE 24)))), (a_t_turning_leftFromE_25, .inl (cy 1, 16, .inl (aI (c_turning_leftFromE 25)))), (a_t_turning_leftFromE_26, .inl (cy 1, 16, .inl (aI (c_turning_leftFromE 26)))), (a_t_turning_leftFromE_27, .inl (cy 1, 16, .inl (aI (c_turning_leftFromE 27)))), (a_t_turning_leftFromE_28, .inl (cy 1, 16, .inl (aI (c_turning_leftFromE 28)))), (a_t_turning_leftFromE_29, .inl (cy 1, 16, .inl (aI (c_turning_leftFromE 29))))]
def m_X8_openTurning (F : Nat) (x1 : Int) (x2 : Int) (c_now_lines : Int) (c_now_bands : Int) (c_now_carried : Int → Int) (c_slotsE_held : Int → Int) (c_slotsE_size : Int → Int) (c_slotsE_numbers : Int → Int → Int) (c_turning_hours : Int) (c_turning_least : Int) (c_turning_turns : Int) (c_turning_sets : Int) (c_turning_cost : Int) (c_turning_carriedBy : Int → Int) (c_turning_chosen : Int → Int) (c_turning_leftFromE : Int → Int → Int) : Option (Int × Int × Int × Int × Int × Int × (Int → Int) × (Int → Int) × (Int → Int → Int)) :=
  bnd1 (m_X8_isSlot F x1) fun r1 => if wI r1 = wI 0 then
    (some ((-2), c_turning_hours, c_turning_least, c_turning_turns, c_turning_sets, c_turning_cost, c_turning_carriedBy, c_turning_chosen, c_turning_leftFromE))
  else
    (chk (r32 x2) <| bnd1 (m_X8_isOut F x2 0 9999) fun r4 => if wI r4 = wI 0 then
    (bnd1 (m_X2_isThere F c_now_lines) fun r6 => if wI r6 = wI 0 then
    (some ((-2), c_turning_hours, c_turning_least, c_turning_turns, c_turning_sets, c_turning_cost, c_turning_carriedBy, c_turning_chosen, c_turning_leftFromE))
  else
    (chk (0 ≤ x1 ∧ x1 < 4) <| if wI (c_slotsE_held x1) = wI 0 then
    (some ((-6), c_turning_hours, c_turning_least, c_turning_turns, c_turning_sets, c_turning_cost, c_turning_carriedBy, c_turning_chosen, c_turning_leftFromE))
  else
    (chk (dv32 (c_slotsE_size x1) 2) <| if wI ((c_slotsE_size x1).tmod 2) = wI 0 then
    (bnd1 (m_X5_hasOut F 0 1 0 9999 (c_slotsE_size x1) (c_slotsE_numbers x1)) fun r9 => if wI r9 = wI 0 then
    (bnd8 (m_X7_plan F x2 (c_slotsE_size x1) c_now_bands (c_slotsE_numbers x1) c_now_carried c_turning_carriedBy c_turning_chosen c_turning_leftFromE) fun o11 o12 o13 o14 o15 o16 o17 o18 => some (0, o11, o12, o13, o14, o15, o16, o17, o18))
  else
    (some ((-2), c_turning_hours, c_turning_least, c_turning_turns, c_turning_sets, c_turning_cost, c_turning_carriedBy, c_turning_chosen, c_turning_leftFromE)))
  else
    (some ((-2), c_turning_hours, c_turning_least, c_turning_turns, c_turning_sets, c_turning_cost, c_turning_carriedBy, c_turning_chosen, c_turning_leftFromE)))))
  else
    (some ((-2), c_turning_hours, c_turning_least, c_turning_turns, c_turning_sets, c_turning_cost, c_turning_carriedBy, c_turning_chosen, c_turning_leftFromE)))
section S_X8_openTurning
variable {E : EE} {a_t a_t_now a_t_now_carried a_t_slots a_t_slotsE_0 a_t_slotsE_1 a_t_slotsE_2 a_t_slotsE_3 a_t_slotsE_numbers_0 a_t_slotsE_numbers_1 a_t_slotsE_numbers_2 a_t_slotsE_numbers_3 a_t_turning a_t_turning_carriedBy a_t_turning_chosen a_t_turning_leftFrom a_t_turning_leftFromE_0 a_t_turning_leftFromE_1 a_t_turning_leftFromE_2 a_t_turning_leftFromE_3 a_t_turning_leftFromE_4 a_t_turning_leftFromE_5 a_t_turning_leftFromE_6 a_t_turning_leftFromE_7 a_t_turning_leftFromE_8 a_t_turning_leftFromE_9 a_t_turning_leftFromE_10 a_t_turning_leftFromE_11 a_t_turning_leftFromE_12 a_t_turning_leftFromE_13 a_t_turning_leftFromE_14 a_t_turning_leftFromE_15 a_t_turning_leftFromE_16 a_t_turning_leftFromE_17 a_t_turning_leftFromE_18 a_t_turning_leftFromE_19 a_t_turning_leftFromE_20 a_t_turning_leftFromE_21 a_t_turning_leftFromE_22 a_t_turning_leftFromE_23 a_t_turning_leftFromE_24 a_t_turning_leftFromE_25 a_t_turning_leftFromE_26 a_t_turning_leftFromE_27 a_t_turning_leftFromE_28 a_t_turning_leftFromE_29 : Nat} {g_t_0 : Value} {g_t_1 : Value} {g_t_2 : Value} {g_t_4 : Value} {g_t_5 : Value} {g_t_7 : Value} {g_t_8 : Value} {g_t_9 : Value} {g_t_10 : Value} {g_t_12 : Value} {g_t_13 : Value} {g_t_now_1 : Value} {g_t_now_2 : Value} {g_t_now_3 : Value} {g_t_now_4 : Value} {g_t_now_5 : Value} {g_t_now_6 : Value} {g_t_now_9 : Value} {g_t_now_10 : Value} {g_t_now_11 : Value} {g_t_now_12 : Value} {g_t_now_13 : Value} {g_t_now_14 : Value} {g_t_now_15 : Value} {g_t_now_16 : Value} {g_t_slotsE_1 : Nat → Value}
set_option maxRecDepth 100000 in
set_option maxHeartbeats 4000000 in
theorem wm_X8_openTurning {F : Nat} {v : Int × Int × Int × Int × Int × Int × (Int → Int) × (Int → Int) × (Int → Int → Int)} {x1 : Int} {x2 : Int} {c_now_lines : Int} {c_now_bands : Int} {c_now_carried : Int → Int} {c_slotsE_held : Int → Int} {c_slotsE_size : Int → Int} {c_slotsE_numbers : Int → Int → Int} {c_turning_hours : Int} {c_turning_least : Int} {c_turning_turns : Int} {c_turning_sets : Int} {c_turning_cost : Int} {c_turning_carriedBy : Int → Int} {c_turning_chosen : Int → Int} {c_turning_leftFromE : Int → Int → Int} (C : Cx E cX8_openTurning RX8 { frames := 5, cells := 0, slots := 0, locals := 118 }) (hN : eN E = 4) (h : m_X8_openTurning F x1 x2 c_now_lines c_now_bands c_now_carried c_slotsE_held c_slotsE_size c_slotsE_numbers c_turning_hours c_turning_least c_turning_turns c_turning_sets c_turning_cost c_turning_carriedBy c_turning_chosen c_turning_leftFromE = some v) (hret : ∀ (pc : Nat) (L : List (Option Value)), decode cX8_openTurning pc = .ok (.ireturn, 1) → GG E 0 0 (W_X8_openTurning (eCy E) a_t a_t_now a_t_now_carried a_t_slots a_t_slotsE_0 a_t_slotsE_1 a_t_slotsE_2 a_t_slotsE_3 a_t_slotsE_numbers_0 a_t_slotsE_numbers_1 a_t_slotsE_numbers_2 a_t_slotsE_numbers_3 a_t_turning a_t_turning_carriedBy a_t_turning_chosen a_t_turning_leftFrom a_t_turning_leftFromE_0 a_t_turning_leftFromE_1 a_t_turning_leftFromE_2 a_t_turning_leftFromE_3 a_t_turning_leftFromE_4 a_t_turning_leftFromE_5 a_t_turning_leftFromE_6 a_t_turning_leftFromE_7 a_t_turning_leftFromE_8 a_t_turning_leftFromE_9 a_t_turning_leftFromE_10 a_t_turning_leftFromE_11 a_t_turning_leftFromE_12 a_t_turning_leftFromE_13 a_t_turning_leftFromE_14 a_t_turning_leftFromE_15 a_t_turning_leftFromE_16 a_t_turning_leftFromE_17 a_t_turning_leftFromE_18 a_t_turning_leftFromE_19 a_t_turning_leftFromE_20 a_t_turning_leftFromE_21 a_t_turning_leftFromE_22 a_t_turning_leftFromE_23 a_t_turning_leftFromE_24 a_t_turning_leftFromE_25 a_t_turning_leftFromE_26 a_t_turning_leftFromE_27 a_t_turning_leftFromE_28 a_t_turning_leftFromE_29 g_t_0 g_t_1 g_t_2 g_t_4 g_t_5 g_t_7 g_t_8 g_t_9 g_t_10 g_t_12 g_t_13 g_t_now_1 g_t_now_2 g_t_now_3 g_t_now_4 g_t_now_5 g_t_now_6 g_t_now_9 g_t_now_10 g_t_now_11 g_t_now_12 g_t_now_13 g_t_now_14 g_t_now_15 g_t_now_16 g_t_slotsE_1 c_now_lines c_now_bands c_now_carried c_slotsE_held c_slotsE_size c_slotsE_numbers (v.2.1) (v.2.2.1) (v.2.2.2.1) (v.2.2.2.2.1) (v.2.2.2.2.2.1) (v.2.2.2.2.2.2.1) (v.2.2.2.2.2.2.2.1) (v.2.2.2.2.2.2.2.2)) L pc [.int (wI (v.1))]) : GG E 0 0 (W_X8_openTurning (eCy E) a_t a_t_now a_t_now_carried a_t_slots a_t_slotsE_0 a_t_slotsE_1 a_t_slotsE_2 a_t_slotsE_3 a_t_slotsE_numbers_0 a_t_slotsE_numbers_1 a_t_slotsE_numbers_2 a_t_slotsE_numbers_3 a_t_turning a_t_turning_carriedBy a_t_turning_chosen a_t_turning_leftFrom a_t_turning_leftFromE_0 a_t_turning_leftFromE_1 a_t_turning_leftFromE_2 a_t_turning_leftFromE_3 a_t_turning_leftFromE_4 a_t_turning_leftFromE_5 a_t_turning_leftFromE_6 a_t_turning_leftFromE_7 a_t_turning_leftFromE_8 a_t_turning_leftFromE_9 a_t_turning_leftFromE_10 a_t_turning_leftFromE_11 a_t_turning_leftFromE_12 a_t_turning_leftFromE_13 a_t_turning_leftFromE_14 a_t_turning_leftFromE_15 a_t_turning_leftFromE_16 a_t_turning_leftFromE_17 a_t_turning_leftFromE_18 a_t_turning_leftFromE_19 a_t_turning_leftFromE_20 a_t_turning_leftFromE_21 a_t_turning_leftFromE_22 a_t_turning_leftFromE_23 a_t_turning_leftFromE_24 a_t_turning_leftFromE_25 a_t_turning_leftFromE_26 a_t_turning_leftFromE_27 a_t_turning_leftFromE_28 a_t_turning_leftFromE_29 g_t_0 g_t_1 g_t_2 g_t_4 g_t_5 g_t_7 g_t_8 g_t_9 g_t_10 g_t_12 g_t_13 g_t_now_1 g_t_now_2 g_t_now_3 g_t_now_4 g_t_now_5 g_t_now_6 g_t_now_9 g_t_now_10 g_t_now_11 g_t_now_12 g_t_now_13 g_t_now_14 g_t_now_15 g_t_now_16 g_t_slotsE_1 c_now_lines c_now_bands c_now_carried c_slotsE_held c_slotsE_size c_slotsE_numbers c_turning_hours c_turning_least c_turning_turns c_turning_sets c_turning_cost c_turning_carriedBy c_turning_chosen c_turning_leftFromE) [some (.ref a_t), some (.int (wI x1)), some (.int (wI x2)), none] 0 [] := by
  unfold m_X8_openTurning at h
  refine g_iload_n 1 C dX8_openTurning_0 rfl rfl ?_
  obtain ⟨r1, hr2, h⟩ := bnd1_some h
  refine g_callSI [] [0, 1, 2, 3, 4, 5, 6, 7, 8, 9, 10, 11, 12, 13, 14, 15, 16, 17, 18, 19, 20, 21, 22, 23, 24, 25, 26, 27, 28, 29, 30, 31, 32, 33, 34, 35, 36, 37, 38, 39, 40, 41, 42, 43, 44, 45] [0, 1, 2, 3, 4, 5, 6, 7, 8, 9, 10, 11, 12, 13, 14, 15, 16, 17, 18, 19, 20, 21, 22, 23, 24, 25, 26, 27, 28, 29, 30, 31, 32, 33, 34, 35, 36, 37, 38, 39, 40, 41, 42, 43, 44, 45] C mt_X8_300 (c_X8_isSlot _ _ _ _ x1 F hr2) rfl rfl (ws2 := (W_X8_openTurning (eCy E) a_t a_t_now a_t_now_carried a_t_slots a_t_slotsE_0 a_t_slotsE_1 a_t_slotsE_2 a_t_slotsE_3 a_t_slotsE_numbers_0 a_t_slotsE_numbers_1 a_t_slotsE_numbers_2 a_t_slotsE_numbers_3 a_t_turning a_t_turning_carriedBy a_t_turning_chosen a_t_turning_leftFrom a_t_turning_leftFromE_0 a_t_turning_leftFromE_1 a_t_turning_leftFromE_2 a_t_turning_leftFromE_3 a_t_turning_leftFromE_4 a_t_turning_leftFromE_5 a_t_turning_leftFromE_6 a_t_turning_leftFromE_7 a_t_turning_leftFromE_8 a_t_turning_leftFromE_9 a_t_turning_leftFromE_10 a_t_turning_leftFromE_11 a_t_turning_leftFromE_12 a_t_turning_leftFromE_13 a_t_turning_leftFromE_14 a_t_turning_leftFromE_15 a_t_turning_leftFromE_16 a_t_turning_leftFromE_17 a_t_turning_leftFromE_18 a_t_turning_leftFromE_19 a_t_turning_leftFromE_20 a_t_turning_leftFromE_21 a_t_turning_leftFromE_22 a_t_turning_leftFromE_23 a_t_turning_leftFromE_24 a_t_turning_leftFromE_25 a_t_turning_leftFromE_26 a_t_turning_leftFromE_27 a_t_turning_leftFromE_28 a_t_turning_leftFromE_29 g_t_0 g_t_1 g_t_2 g_t_4 g_t_5 g_t_7 g_t_8 g_t_9 g_t_10 g_t_12 g_t_13 g_t_now_1 g_t_now_2 g_t_now_3 g_t_now_4 g_t_now_5 g_t_now_6 g_t_now_9 g_t_now_10 g_t_now_11 g_t_now_12 g_t_now_13 g_t_now_14 g_t_now_15 g_t_now_16 g_t_slotsE_1 c_now_lines c_now_bands c_now_carried c_slotsE_held c_slotsE_size c_slotsE_numbers c_turning_hours c_turning_least c_turning_turns c_turning_sets c_turning_cost c_turning_carriedBy c_turning_chosen c_turning_leftFromE)) rfl rfl rfl (rest := []) rfl rfl rfl dX8_openTurning_1 ?_
  refine g_if_eq 29 C dX8_openTurning_4 (by decide) h (fun h => ?_) (fun h => ?_)
  · refine g_bipush C dX8_openTurning_29 (by decide) ?_
    cases h
    exact hret 31 _ dX8_openTurning_31
  · refine g_iload_n 2 C dX8_openTurning_7 rfl rfl ?_
    obtain ⟨hc3, h⟩ := chk_some h
    refine g_i2l C dX8_openTurning_8 hc3 ?_
    refine g_lconst (x := 0) C dX8_openTurning_9 (by decide) ?_
    refine g_ldc2 (v := 9999) C mc_X8_396 dX8_openTurning_10 ?_
    obtain ⟨r4, hr5, h⟩ := bnd1_some h
    refine g_callSI [] [0, 1, 2, 3, 4, 5, 6, 7, 8, 9, 10, 11, 12, 13, 14, 15, 16, 17, 18, 19, 20, 21, 22, 23, 24, 25, 26, 27, 28, 29, 30, 31, 32, 33, 34, 35, 36, 37, 38, 39, 40, 41, 42, 43, 44, 45] [0, 1, 2, 3, 4, 5, 6, 7, 8, 9, 10, 11, 12, 13, 14, 15, 16, 17, 18, 19, 20, 21, 22, 23, 24, 25, 26, 27, 28, 29, 30, 31, 32, 33, 34, 35, 36, 37, 38, 39, 40, 41, 42, 43, 44, 45] C mt_X8_161 (c_X8_isOut _ _ _ _ x2 0 9999 F hr5) rfl rfl (ws2 := (W_X8_openTurning (eCy E) a_t a_t_now a_t_now_carried a_t_slots a_t_slotsE_0 a_t_slotsE_1 a_t_slotsE_2 a_t_slotsE_3 a_t_slotsE_numbers_0 a_t_slotsE_numbers_1 a_t_slotsE_numbers_2 a_t_slotsE_numbers_3 a_t_turning a_t_turning_carriedBy a_t_turning_chosen a_t_turning_leftFrom a_t_turning_leftFromE_0 a_t_turning_leftFromE_1 a_t_turning_leftFromE_2 a_t_turning_leftFromE_3 a_t_turning_leftFromE_4 a_t_turning_leftFromE_5 a_t_turning_leftFromE_6 a_t_turning_leftFromE_7 a_t_turning_leftFromE_8 a_t_turning_leftFromE_9 a_t_turning_leftFromE_10 a_t_turning_leftFromE_11 a_t_turning_leftFromE_12 a_t_turning_leftFromE_13 a_t_turning_leftFromE_14 a_t_turning_leftFromE_15 a_t_turning_leftFromE_16 a_t_turning_leftFromE_17 a_t_turning_leftFromE_18 a_t_turning_leftFromE_19 a_t_turning_leftFromE_20 a_t_turning_leftFromE_21 a_t_turning_leftFromE_22 a_t_turning_leftFromE_23 a_t_turning_leftFromE_24 a_t_turning_leftFromE_25 a_t_turning_leftFromE_26 a_t_turning_leftFromE_27 a_t_turning_leftFromE_28 a_t_turning_leftFromE_29 g_t_0 g_t_1 g_t_2 g_t_4 g_t_5 g_t_7 g_t_8 g_t_9 g_t_10 g_t_12 g_t_13 g_t_now_1 g_t_now_2 g_t_now_3 g_t_now_4 g_t_now_5 g_t_now_6 g_t_now_9 g_t_now_10 g_t_now_11 g_t_now_12 g_t_now_13 g_t_now_14 g_t_now_15 g_t_now_16 g_t_slotsE_1 c_now_lines c_now_bands c_now_carried c_slotsE_held c_slotsE_size c_slotsE_numbers c_turning_hours c_turning_least c_turning_turns c_turning_sets c_turning_cost c_turning_carriedBy c_turning_chosen c_turning_leftFromE)) rfl rfl rfl (rest := []) rfl rfl rfl dX8_openTurning_13 ?_
    refine g_if_ne 29 C dX8_openTurning_16 (by decide) h (fun h => ?_) (fun h => ?_)
    · refine g_bipush C dX8_openTurning_29 (by decide) ?_
      cases h
      exact hret 31 _ dX8_openTurning_31
    · refine g_aload_n 0 C dX8_openTurning_19 rfl rfl ?_
      refine g_get C fg_X8_22 0 rfl rfl dX8_openTurning_20 ?_
      obtain ⟨r6, hr7, h⟩ := bnd1_some h
      refine g_callI [1] [0, 2, 3, 4, 5, 6, 7, 8, 9, 10, 11, 12, 13, 14, 15, 16, 17, 18, 19, 20, 21, 22, 23, 24, 25, 26, 27, 28, 29, 30, 31, 32, 33, 34, 35, 36, 37, 38, 39, 40, 41, 42, 43, 44, 45] [0, 45, 1, 2, 3, 4, 5, 6, 7, 8, 9, 10, 11, 12, 13, 14, 15, 16, 17, 18, 19, 20, 21, 22, 23, 24, 25, 26, 27, 28, 29, 30, 31, 32, 33, 34, 35, 36, 37, 38, 39, 40, 41, 42, 43, 44] C mt_X8_172 (c_X2_isThere _ _ _ _ a_t_now (g_t_now_1) (g_t_now_2) (g_t_now_3) (g_t_now_4) (g_t_now_5) (g_t_now_6) (.int (wI c_now_bands)) (.ref a_t_now_carried) (g_t_now_9) (g_t_now_10) (g_t_now_11) (g_t_now_12) (g_t_now_13) (g_t_now_14) (g_t_now_15) (g_t_now_16) c_now_lines F hr7) (q0 := 0) rfl (ci := 2) rfl rfl rfl (ws2 := (W_X8_openTurning (eCy E) a_t a_t_now a_t_now_carried a_t_slots a_t_slotsE_0 a_t_slotsE_1 a_t_slotsE_2 a_t_slotsE_3 a_t_slotsE_numbers_0 a_t_slotsE_numbers_1 a_t_slotsE_numbers_2 a_t_slotsE_numbers_3 a_t_turning a_t_turning_carriedBy a_t_turning_chosen a_t_turning_leftFrom a_t_turning_leftFromE_0 a_t_turning_leftFromE_1 a_t_turning_leftFromE_2 a_t_turning_leftFromE_3 a_t_turning_leftFromE_4 a_t_turning_leftFromE_5 a_t_turning_leftFromE_6 a_t_turning_leftFromE_7 a_t_turning_leftFromE_8 a_t_turning_leftFromE_9 a_t_turning_leftFromE_10 a_t_turning_leftFromE_11 a_t_turning_leftFromE_12 a_t_turning_leftFromE_13 a_t_turning_leftFromE_14 a_t_turning_leftFromE_15 a_t_turning_leftFromE_16 a_t_turning_leftFromE_17 a_t_turning_leftFromE_18 a_t_turning_leftFromE_19 a_t_turning_leftFromE_20 a_t_turning_leftFromE_21 a_t_turning_leftFromE_22 a_t_turning_leftFromE_23 a_t_turning_leftFromE_24 a_t_turning_leftFromE_25 a_t_turning_leftFromE_26 a_t_turning_leftFromE_27 a_t_turning_leftFromE_28 a_t_turning_leftFromE_29 g_t_0 g_t_1 g_t_2 g_t_4 g_t_5 g_t_7 g_t_8 g_t_9 g_t_10 g_t_12 g_t_13 g_t_now_1 g_t_now_2 g_t_now_3 g_t_now_4 g_t_now_5 g_t_now_6 g_t_now_9 g_t_now_10 g_t_now_11 g_t_now_12 g_t_now_13 g_t_now_14 g_t_now_15 g_t_now_16 g_t_slotsE_1 c_now_lines c_now_bands c_now_carried c_slotsE_held c_slotsE_size c_slotsE_numbers c_turning_hours c_turning_least c_turning_turns c_turning_sets c_turning_cost c_turning_carriedBy c_turning_chosen c_turning_leftFromE)) rfl rfl rfl (rest := []) rfl rfl rfl dX8_openTurning_23 ?_
      refine g_if_ne 32 C dX8_openTurning_26 (by decide) h (fun h => ?_) (fun h => ?_)
      · refine g_aload_n 0 C dX8_openTurning_32 rfl rfl ?_
        refine g_get C fg_X8_36 0 rfl rfl dX8_openTurning_33 ?_
        refine g_iload_n 1 C dX8_openTurning_36 rfl rfl ?_
        obtain ⟨hc8, h⟩ := chk_some h
        obtain rfl | rfl | rfl | rfl : x1 = 0 ∨ x1 = 1 ∨ x1 = 2 ∨ x1 = 3 := by omega
        · refine g_aald C 3 (t0 := 5) rfl rfl (by decide) rfl dX8_openTurning_37 ?_
          refine g_astore_n 3 C hN dX8_openTurning_38 rfl rfl (L' := [some (.ref a_t), some (.int (wI (0))), some (.int (wI x2)), some (.ref a_t_slotsE_0)]) rfl ?_
          refine g_aload_n 3 C dX8_openTurning_39 rfl rfl ?_
          refine g_get C fg_X8_303 4 rfl rfl dX8_openTurning_40 ?_
          refine g_st (st' := [.int (wI (c_slotsE_held (0)))]) rfl ?_
          refine g_if_ne 49 C dX8_openTurning_43 (by decide) h (fun h => ?_) (fun h => ?_)
          · refine g_aload_n 3 C dX8_openTurning_49 rfl rfl ?_
            refine g_get C fg_X8_374 4 rfl rfl dX8_openTurning_50 ?_
            refine g_st (st' := [.int (wI (c_slotsE_size (0)))]) rfl ?_
            refine g_iconst C dX8_openTurning_53 ?_
            obtain ⟨hc9, h⟩ := chk_some h
            refine g_irem C dX8_openTurning_54 hc9 ?_
            refine g_if_ne 71 C dX8_openTurning_55 (by decide) h (fun h => ?_) (fun h => ?_)
            · refine g_bipush C dX8_openTurning_71 (by decide) ?_
              cases h
              exact hret 73 _ dX8_openTurning_73
            · refine g_aload_n 3 C dX8_openTurning_58 rfl rfl ?_
              refine g_iconst C dX8_openTurning_59 ?_
              refine g_iconst C dX8_openTurning_60 ?_
              refine g_lconst (x := 0) C dX8_openTurning_61 (by decide) ?_
              refine g_ldc2 (v := 9999) C mc_X8_396 dX8_openTurning_62 ?_
              obtain ⟨r10, hr11, h⟩ := bnd1_some h
              refine g_callI [4, 8] [0, 1, 2, 3, 5, 6, 7, 9, 10, 11, 12, 13, 14, 15, 16, 17, 18, 19, 20, 21, 22, 23, 24, 25, 26, 27, 28, 29, 30, 31, 32, 33, 34, 35, 36, 37, 38, 39, 40, 41, 42, 43, 44, 45] [0, 1, 2, 3, 44, 4, 5, 6, 45, 7, 8, 9, 10, 11, 12, 13, 14, 15, 16, 17, 18, 19, 20, 21, 22, 23, 24, 25, 26, 27, 28, 29, 30, 31, 32, 33, 34, 35, 36, 37, 38, 39, 40, 41, 42, 43] C mt_X8_351 (c_X5_hasOut _ _ _ _ a_t_slotsE_0 a_t_slotsE_numbers_0 (.int (wI (c_slotsE_held 0))) (g_t_slotsE_1 0) 0 1 0 9999 (c_slotsE_size (0)) (c_slotsE_numbers (0)) F hr11) (q0 := 0) rfl (ci := 5) rfl rfl rfl (ws2 := (W_X8_openTurning (eCy E) a_t a_t_now a_t_now_carried a_t_slots a_t_slotsE_0 a_t_slotsE_1 a_t_slotsE_2 a_t_slotsE_3 a_t_slotsE_numbers_0 a_t_slotsE_numbers_1 a_t_slotsE_numbers_2 a_t_slotsE_numbers_3 a_t_turning a_t_turning_carriedBy a_t_turning_chosen a_t_turning_leftFrom a_t_turning_leftFromE_0 a_t_turning_leftFromE_1 a_t_turning_leftFromE_2 a_t_turning_leftFromE_3 a_t_turning_leftFromE_4 a_t_turning_leftFromE_5 a_t_turning_leftFromE_6 a_t_turning_leftFromE_7 a_t_turning_leftFromE_8 a_t_turning_leftFromE_9 a_t_turning_leftFromE_10 a_t_turning_leftFromE_11 a_t_turning_leftFromE_12 a_t_turning_leftFromE_13 a_t_turning_leftFromE_14 a_t_turning_leftFromE_15 a_t_turning_leftFromE_16 a_t_turning_leftFromE_17 a_t_turning_leftFromE_18 a_t_turning_leftFromE_19 a_t_turning_leftFromE_20 a_t_turning_leftFromE_21 a_t_turning_leftFromE_22 a_t_turning_leftFromE_23 a_t_turning_leftFromE_24 a_t_turning_leftFromE_25 a_t_turning_leftFromE_26 a_t_turning_leftFromE_27 a_t_turning_leftFromE_28 a_t_turning_leftFromE_29 g_t_0 g_t_1 g_t_2 g_t_4 g_t_5 g_t_7 g_t_8 g_t_9 g_t_10 g_t_12 g_t_13 g_t_now_1 g_t_now_2 g_t_now_3 g_t_now_4 g_t_now_5 g_t_now_6 g_t_now_9 g_t_now_10 g_t_now_11 g_t_now_12 g_t_now_13 g_t_now_14 g_t_now_15 g_t_now_16 g_t_slotsE_1 c_now_lines c_now_bands c_now_carried c_slotsE_held c_slotsE_size c_slotsE_numbers c_turning_hours c_turning_least c_turning_turns c_turning_sets c_turning_cost c_turning_carriedBy c_turning_chosen c_turning_leftFromE)) rfl rfl rfl (rest := []) rfl rfl rfl dX8_openTurning_65 ?_
              refine g_if_eq 74 C dX8_openTurning_68 (by decide) h (fun h => ?_) (fun h => ?_)
              · refine g_aload_n 0 C dX8_openTurning_74 rfl rfl ?_
                refine g_get C fg_X8_71 0 rfl rfl dX8_openTurning_75 ?_
                refine g_aload_n 3 C dX8_openTurning_78 rfl rfl ?_
                refine g_aload_n 0 C dX8_openTurning_79 rfl rfl ?_
                refine g_get C fg_X8_22 0 rfl rfl dX8_openTurning_80 ?_
                refine g_iload_n 2 C dX8_openTurning_83 rfl rfl ?_
                obtain ⟨o12, o13, o14, o15, o16, o17, o18, o19, hr20, h⟩ := bnd8_some h
                refine g_callV [12, 4, 1, 8, 2, 13, 14, 15, 16, 17, 18, 19, 20, 21, 22, 23, 24, 25, 26, 27, 28, 29, 30, 31, 32, 33, 34, 35, 36, 37, 38, 39, 40, 41, 42, 43, 44, 45] [0, 3, 5, 6, 7, 9, 10, 11] [0, 10, 12, 1, 9, 2, 3, 4, 11, 5, 6, 7, 8, 13, 14, 15, 16, 17, 18, 19, 20, 21, 22, 23, 24, 25, 26, 27, 28, 29, 30, 31, 32, 33, 34, 35, 36, 37, 38, 39, 40, 41, 42, 43, 44, 45] C mt_X8_398 (c_X7_plan _ _ _ _ a_t_turning a_t_slotsE_0 a_t_now a_t_slotsE_numbers_0 a_t_now_carried a_t_turning_carriedBy a_t_turning_chosen a_t_turning_leftFrom a_t_turning_leftFromE_0 a_t_turning_leftFromE_1 a_t_turning_leftFromE_2 a_t_turning_leftFromE_3 a_t_turning_leftFromE_4 a_t_turning_leftFromE_5 a_t_turning_leftFromE_6 a_t_turning_leftFromE_7 a_t_turning_leftFromE_8 a_t_turning_leftFromE_9 a_t_turning_leftFromE_10 a_t_turning_leftFromE_11 a_t_turning_leftFromE_12 a_t_turning_leftFromE_13 a_t_turning_leftFromE_14 a_t_turning_leftFromE_15 a_t_turning_leftFromE_16 a_t_turning_leftFromE_17 a_t_turning_leftFromE_18 a_t_turning_leftFromE_19 a_t_turning_leftFromE_20 a_t_turning_leftFromE_21 a_t_turning_leftFromE_22 a_t_turning_leftFromE_23 a_t_turning_leftFromE_24 a_t_turning_leftFromE_25 a_t_turning_leftFromE_26 a_t_turning_leftFromE_27 a_t_turning_leftFromE_28 a_t_turning_leftFromE_29 (.int (wI (c_slotsE_held 0))) (g_t_slotsE_1 0) (.int (wI c_now_lines)) (g_t_now_1) (g_t_now_2) (g_t_now_3) (g_t_now_4) (g_t_now_5) (g_t_now_6) (g_t_now_9) (g_t_now_10) (g_t_now_11) (g_t_now_12) (g_t_now_13) (g_t_now_14) (g_t_now_15) (g_t_now_16) x2 c_turning_hours c_turning_least c_turning_turns c_turning_sets c_turning_cost (c_slotsE_size (0)) c_now_bands (c_slotsE_numbers (0)) c_now_carried c_turning_carriedBy c_turning_chosen c_turning_leftFromE F hr20) (q0 := 0) rfl (ci := 7) rfl rfl rfl (ws2 := (W_X8_openTurning (eCy E) a_t a_t_now a_t_now_carried a_t_slots a_t_slotsE_0 a_t_slotsE_1 a_t_slotsE_2 a_t_slotsE_3 a_t_slotsE_numbers_0 a_t_slotsE_numbers_1 a_t_slotsE_numbers_2 a_t_slotsE_numbers_3 a_t_turning a_t_turning_carriedBy a_t_turning_chosen a_t_turning_leftFrom a_t_turning_leftFromE_0 a_t_turning_leftFromE_1 a_t_turning_leftFromE_2 a_t_turning_leftFromE_3 a_t_turning_leftFromE_4 a_t_turning_leftFromE_5 a_t_turning_leftFromE_6 a_t_turning_leftFromE_7 a_t_turning_leftFromE_8 a_t_turning_leftFromE_9 a_t_turning_leftFromE_10 a_t_turning_leftFromE_11 a_t_turning_leftFromE_12 a_t_turning_leftFromE_13 a_t_turning_leftFromE_14 a_t_turning_leftFromE_15 a_t_turning_leftFromE_16 a_t_turning_leftFromE_17 a_t_turning_leftFromE_18 a_t_turning_leftFromE_19 a_t_turning_leftFromE_20 a_t_turning_leftFromE_21 a_t_turning_leftFromE_22 a_t_turning_leftFromE_23 a_t_turning_leftFromE_24 a_t_turning_leftFromE_25 a_t_turning_leftFromE_26 a_t_turning_leftFromE_27 a_t_turning_leftFromE_28 a_t_turning_leftFromE_29 g_t_0 g_t_1 g_t_2 g_t_4 g_t_5 g_t_7 g_t_8 g_t_9 g_t_10 g_t_12 g_t_13 g_t_now_1 g_t_now_2 g_t_now_3 g_t_now_4 g_t_now_5 g_t_now_6 g_t_now_9 g_t_now_10 g_t_now_11 g_t_now_12 g_t_now_13 g_t_now_14 g_t_now_15 g_t_now_16 g_t_slotsE_1 c_now_lines c_now_bands c_now_carried c_slotsE_held c_slotsE_size c_slotsE_numbers o12 o13 o14 o15 o16 o17 o18 o19)) rfl rfl rfl (rest := []) rfl rfl rfl dX8_openTurning_84 ?_
                refine g_iconst C dX8_openTurning_87 ?_
                cases h
                exact hret 88 _ dX8_openTurning_88
              · refine g_bipush C dX8_openTurning_71 (by decide) ?_
                cases h
                exact hret 73 _ dX8_openTurning_73
          · refine g_bipush C dX8_openTurning_46 (by decide) ?_
            cases h
            exact hret 48 _ dX8_openTurning_48
        · refine g_aald C 3 (t0 := 5) rfl rfl (by decide) rfl dX8_openTurning_37 ?_
          refine g_astore_n 3 C hN dX8_openTurning_38 rfl rfl (L' := [some (.ref a_t), some (.int (wI (1))), some (.int (wI x2)), some (.ref a_t_slotsE_1)]) rfl ?_
          refine g_aload_n 3 C dX8_openTurning_39 rfl rfl ?_
          refine g_get C fg_X8_303 5 rfl rfl dX8_openTurning_40 ?_
          refine g_st (st' := [.int (wI (c_slotsE_held (1)))]) rfl ?_
          refine g_if_ne 49 C dX8_openTurning_43 (by decide) h (fun h => ?_) (fun h => ?_)
          · refine g_aload_n 3 C dX8_openTurning_49 rfl rfl ?_
            refine g_get C fg_X8_374 5 rfl rfl dX8_openTurning_50 ?_
            refine g_st (st' := [.int (wI (c_slotsE_size (1)))]) rfl ?_
            refine g_iconst C dX8_openTurning_53 ?_
            obtain ⟨hc9, h⟩ := chk_some h
            refine g_irem C dX8_openTurning_54 hc9 ?_
            refine g_if_ne 71 C dX8_openTurning_55 (by decide) h (fun h => ?_) (fun h => ?_)
            · refine g_bipush C dX8_openTurning_71 (by decide) ?_
              cases h
              exact hret 73 _ dX8_openTurning_73
            · refine g_aload_n 3 C dX8_openTurning_58 rfl rfl ?_
              refine g_iconst C dX8_openTurning_59 ?_
              refine g_iconst C dX8_openTurning_60 ?_
              refine g_lconst (x := 0) C dX8_openTurning_61 (by decide) ?_
              refine g_ldc2 (v := 9999) C mc_X8_396 dX8_openTurning_62 ?_
              obtain ⟨r10, hr11, h⟩ := bnd1_some h
              refine g_callI [5, 9] [0, 1, 2, 3, 4, 6, 7, 8, 10, 11, 12, 13, 14, 15, 16, 17, 18, 19, 20, 21, 22, 23, 24, 25, 26, 27, 28, 29, 30, 31, 32, 33, 34, 35, 36, 37, 38, 39, 40, 41, 42, 43, 44, 45] [0, 1, 2, 3, 4, 44, 5, 6, 7, 45, 8, 9, 10, 11, 12, 13, 14, 15, 16, 17, 18, 19, 20, 21, 22, 23, 24, 25, 26, 27, 28, 29, 30, 31, 32, 33, 34, 35, 36, 37, 38, 39, 40, 41, 42, 43] C mt_X8_351 (c_X5_hasOut _ _ _ _ a_t_slotsE_1 a_t_slotsE_numbers_1 (.int (wI (c_slotsE_held 1))) (g_t_slotsE_1 1) 0 1 0 9999 (c_slotsE_size (1)) (c_slotsE_numbers (1)) F hr11) (q0 := 0) rfl (ci := 5) rfl rfl rfl (ws2 := (W_X8_openTurning (eCy E) a_t a_t_now a_t_now_carried a_t_slots a_t_slotsE_0 a_t_slotsE_1 a_t_slotsE_2 a_t_slotsE_3 a_t_slotsE_numbers_0 a_t_slotsE_numbers_1 a_t_slotsE_numbers_2 a_t_slotsE_numbers_3 a_t_turning a_t_turning_carriedBy a_t_turning_chosen a_t_turning_leftFrom a_t_turning_leftFromE_0 a_t_turning_leftFromE_1 a_t_turning_leftFromE_2 a_t_turning_leftFromE_3 a_t_turning_leftFromE_4 a_t_turning_leftFromE_5 a_t_turning_leftFromE_6 a_t_turning_leftFromE_7 a_t_turning_leftFromE_8 a_t_turning_leftFromE_9 a_t_turning_leftFromE_10 a_t_turning_leftFromE_11 a_t_turning_leftFromE_12 a_t_turning_leftFromE_13 a_t_turning_leftFromE_14 a_t_turning_leftFromE_15 a_t_turning_leftFromE_16 a_t_turning_leftFromE_17 a_t_turning_leftFromE_18 a_t_turning_leftFromE_19 a_t_turning_leftFromE_20 a_t_turning_leftFromE_21 a_t_turning_leftFromE_22 a_t_turning_leftFromE_23 a_t_turning_leftFromE_24 a_t_turning_leftFromE_25 a_t_turning_leftFromE_26 a_t_turning_leftFromE_27 a_t_turning_leftFromE_28 a_t_turning_leftFromE_29 g_t_0 g_t_1 g_t_2 g_t_4 g_t_5 g_t_7 g_t_8 g_t_9 g_t_10 g_t_12 g_t_13 g_t_now_1 g_t_now_2 g_t_now_3 g_t_now_4 g_t_now_5 g_t_now_6 g_t_now_9 g_t_now_10 g_t_now_11 g_t_now_12 g_t_now_13 g_t_now_14 g_t_now_15 g_t_now_16 g_t_slotsE_1 c_now_lines c_now_bands c_now_carried c_slotsE_held c_slotsE_size c_slotsE_numbers c_turning_hours c_turning_least c_turning_turns c_turning_sets c_turning_cost c_turning_carriedBy c_turning_chosen c_turning_leftFromE)) rfl rfl rfl (rest := []) rfl rfl rfl dX8_openTurning_65 ?_
              refine g_if_eq 74 C dX8_openTurning_68 (by decide) h (fun h => ?_) (fun h => ?_)
              · refine g_aload_n 0 C dX8_openTurning_74 rfl rfl ?_
                refine g_get C fg_X8_71 0 rfl rfl dX8_openTurning_75 ?_
                refine g_aload_n 3 C dX8_openTurning_78 rfl rfl ?_
                refine g_aload_n 0 C dX8_openTurning_79 rfl rfl ?_
                refine g_get C fg_X8_22 0 rfl rfl dX8_openTurning_80 ?_
                refine g_iload_n 2 C dX8_openTurning_83 rfl rfl ?_
                obtain ⟨o12, o13, o14, o15, o16, o17, o18, o19, hr20, h⟩ := bnd8_some h
                refine g_callV [12, 5, 1, 9, 2, 13, 14, 15, 16, 17, 18, 19, 20, 21, 22, 23, 24, 25, 26, 27, 28, 29, 30, 31, 32, 33, 34, 35, 36, 37, 38, 39, 40, 41, 42, 43, 44, 45] [0, 3, 4, 6, 7, 8, 10, 11] [0, 10, 12, 1, 2, 9, 3, 4, 5, 11, 6, 7, 8, 13, 14, 15, 16, 17, 18, 19, 20, 21, 22, 23, 24, 25, 26, 27, 28, 29, 30, 31, 32, 33, 34, 35, 36, 37, 38, 39, 40, 41, 42, 43, 44, 45] C mt_X8_398 (c_X7_plan _ _ _ _ a_t_turning a_t_slotsE_1 a_t_now a_t_slotsE_numbers_1 a_t_now_carried a_t_turning_carriedBy a_t_turning_chosen a_t_turning_leftFrom a_t_turning_leftFromE_0 a_t_turning_leftFromE_1 a_t_turning_leftFromE_2 a_t_turning_leftFromE_3 a_t_turning_leftFromE_4 a_t_turning_leftFromE_5 a_t_turning_leftFromE_6 a_t_turning_leftFromE_7 a_t_turning_leftFromE_8 a_t_turning_leftFromE_9 a_t_turning_leftFromE_10 a_t_turning_leftFromE_11 a_t_turning_leftFromE_12 a_t_turning_leftFromE_13 a_t_turning_leftFromE_14 a_t_turning_leftFromE_15 a_t_turning_leftFromE_16 a_t_turning_leftFromE_17 a_t_turning_leftFromE_18 a_t_turning_leftFromE_19 a_t_turning_leftFromE_20 a_t_turning_leftFromE_21 a_t_turning_leftFromE_22 a_t_turning_leftFromE_23 a_t_turning_leftFromE_24 a_t_turning_leftFromE_25 a_t_turning_leftFromE_26 a_t_turning_leftFromE_27 a_t_turning_leftFromE_28 a_t_turning_leftFromE_29 (.int (wI (c_slotsE_held 1))) (g_t_slotsE_1 1) (.int (wI c_now_lines)) (g_t_now_1) (g_t_now_2) (g_t_now_3) (g_t_now_4) (g_t_now_5) (g_t_now_6) (g_t_now_9) (g_t_now_10) (g_t_now_11) (g_t_now_12) (g_t_now_13) (g_t_now_14) (g_t_now_15) (g_t_now_16) x2 c_turning_hours c_turning_least c_turning_turns c_turning_sets c_turning_cost (c_slotsE_size (1)) c_now_bands (c_slotsE_numbers (1)) c_now_carried c_turning_carriedBy c_turning_chosen c_turning_leftFromE F hr20) (q0 := 0) rfl (ci := 7) rfl rfl rfl (ws2 := (W_X8_openTurning (eCy E) a_t a_t_now a_t_now_carried a_t_slots a_t_slotsE_0 a_t_slotsE_1 a_t_slotsE_2 a_t_slotsE_3 a_t_slotsE_numbers_0 a_t_slotsE_numbers_1 a_t_slotsE_numbers_2 a_t_slotsE_numbers_3 a_t_turning a_t_turning_carriedBy a_t_turning_chosen a_t_turning_leftFrom a_t_turning_leftFromE_0 a_t_turning_leftFromE_1 a_t_turning_leftFromE_2 a_t_turning_leftFromE_3 a_t_turning_leftFromE_4 a_t_turning_leftFromE_5 a_t_turning_leftFromE_6 a_t_turning_leftFromE_7 a_t_turning_leftFromE_8 a_t_turning_leftFromE_9 a_t_turning_leftFromE_10 a_t_turning_leftFromE_11 a_t_turning_leftFromE_12 a_t_turning_leftFromE_13 a_t_turning_leftFromE_14 a_t_turning_leftFromE_15 a_t_turning_leftFromE_16 a_t_turning_leftFromE_17 a_t_turning_leftFromE_18 a_t_turning_leftFromE_19 a_t_turning_leftFromE_20 a_t_turning_leftFromE_21 a_t_turning_leftFromE_22 a_t_turning_leftFromE_23 a_t_turning_leftFromE_24 a_t_turning_leftFromE_25 a_t_turning_leftFromE_26 a_t_turning_leftFromE_27 a_t_turning_leftFromE_28 a_t_turning_leftFromE_29 g_t_0 g_t_1 g_t_2 g_t_4 g_t_5 g_t_7 g_t_8 g_t_9 g_t_10 g_t_12 g_t_13 g_t_now_1 g_t_now_2 g_t_now_3 g_t_now_4 g_t_now_5 g_t_now_6 g_t_now_9 g_t_now_10 g_t_now_11 g_t_now_12 g_t_now_13 g_t_now_14 g_t_now_15 g_t_now_16 g_t_slotsE_1 c_now_lines c_now_bands c_now_carried c_slotsE_held c_slotsE_size c_slotsE_numbers o12 o13 o14 o15 o16 o17 o18 o19)) rfl rfl rfl (rest := []) rfl rfl rfl dX8_openTurning_84 ?_
                refine g_iconst C dX8_openTurning_87 ?_
                cases h
                exact hret 88 _ dX8_openTurning_88
              · refine g_bipush C dX8_openTurning_71 (by decide) ?_
                cases h
                exact hret 73 _ dX8_openTurning_73
          · refine g_bipush C dX8_openTurning_46 (by decide) ?_
            cases h
            exact hret 48 _ dX8_openTurning_48
        · refine g_aald C 3 (t0 := 5) rfl rfl (by decide) rfl dX8_openTurning_37 ?_
          refine g_astore_n 3 C hN dX8_openTurning_38 rfl rfl (L' := [some (.ref a_t), some (.int (wI (2))), some (.int (wI x2)), some (.ref a_t_slotsE_2)]) rfl ?_
          refine g_aload_n 3 C dX8_openTurning_39 rfl rfl ?_
          refine g_get C fg_X8_303 6 rfl rfl dX8_openTurning_40 ?_
          refine g_st (st' := [.int (wI (c_slotsE_held (2)))]) rfl ?_
          refine g_if_ne 49 C dX8_openTurning_43 (by decide) h (fun h => ?_) (fun h => ?_)
          · refine g_aload_n 3 C dX8_openTurning_49 rfl rfl ?_
            refine g_get C fg_X8_374 6 rfl rfl dX8_openTurning_50 ?_
            refine g_st (st' := [.int (wI (c_slotsE_size (2)))]) rfl ?_
            refine g_iconst C dX8_openTurning_53 ?_
            obtain ⟨hc9, h⟩ := chk_some h
            refine g_irem C dX8_openTurning_54 hc9 ?_
            refine g_if_ne 71 C dX8_openTurning_55 (by decide) h (fun h => ?_) (fun h => ?_)
            · refine g_bipush C dX8_openTurning_71 (by decide) ?_
              cases h
              exact hret 73 _ dX8_openTurning_73
            · refine g_aload_n 3 C dX8_openTurning_58 rfl rfl ?_
              refine g_iconst C dX8_openTurning_59 ?_
              refine g_iconst C dX8_openTurning_60 ?_
              refine g_lconst (x := 0) C dX8_openTurning_61 (by decide) ?_
              refine g_ldc2 (v := 9999) C mc_X8_396 dX8_openTurning_62 ?_
              obtain ⟨r10, hr11, h⟩ := bnd1_some h
              refine g_callI [6, 10] [0, 1, 2, 3, 4, 5, 7, 8, 9, 11, 12, 13, 14, 15, 16, 17, 18, 19, 20, 21, 22, 23, 24, 25, 26, 27, 28, 29, 30, 31, 32, 33, 34, 35, 36, 37, 38, 39, 40, 41, 42, 43, 44, 45] [0, 1, 2, 3, 4, 5, 44, 6, 7, 8, 45, 9, 10, 11, 12, 13, 14, 15, 16, 17, 18, 19, 20, 21, 22, 23, 24, 25, 26, 27, 28, 29, 30, 31, 32, 33, 34, 35, 36, 37, 38, 39, 40, 41, 42, 43] C mt_X8_351 (c_X5_hasOut _ _ _ _ a_t_slotsE_2 a_t_slotsE_numbers_2 (.int (wI (c_slotsE_held 2))) (g_t_slotsE_1 2) 0 1 0 9999 (c_slotsE_size (2)) (c_slotsE_numbers (2)) F hr11) (q0 := 0) rfl (ci := 5) rfl rfl rfl (ws2 := (W_X8_openTurning (eCy E) a_t a_t_now a_t_now_carried a_t_slots a_t_slotsE_0 a_t_slotsE_1 a_t_slotsE_2 a_t_slotsE_3 a_t_slotsE_numbers_0 a_t_slotsE_numbers_1 a_t_slotsE_numbers_2 a_t_slotsE_numbers_3 a_t_turning a_t_turning_carriedBy a_t_turning_chosen a_t_turning_leftFrom a_t_turning_leftFromE_0 a_t_turning_leftFromE_1 a_t_turning_leftFromE_2 a_t_turning_leftFromE_3 a_t_turning_leftFromE_4 a_t_turning_leftFromE_5 a_t_turning_leftFromE_6 a_t_turning_leftFromE_7 a_t_turning_leftFromE_8 a_t_turning_leftFromE_9 a_t_turning_leftFromE_10 a_t_turning_leftFromE_11 a_t_turning_leftFromE_12 a_t_turning_leftFromE_13 a_t_turning_leftFromE_14 a_t_turning_leftFromE_15 a_t_turning_leftFromE_16 a_t_turning_leftFromE_17 a_t_turning_leftFromE_18 a_t_turning_leftFromE_19 a_t_turning_leftFromE_20 a_t_turning_leftFromE_21 a_t_turning_leftFromE_22 a_t_turning_leftFromE_23 a_t_turning_leftFromE_24 a_t_turning_leftFromE_25 a_t_turning_leftFromE_26 a_t_turning_leftFromE_27 a_t_turning_leftFromE_28 a_t_turning_leftFromE_29 g_t_0 g_t_1 g_t_2 g_t_4 g_t_5 g_t_7 g_t_8 g_t_9 g_t_10 g_t_12 g_t_13 g_t_now_1 g_t_now_2 g_t_now_3 g_t_now_4 g_t_now_5 g_t_now_6 g_t_now_9 g_t_now_10 g_t_now_11 g_t_now_12 g_t_now_13 g_t_now_14 g_t_now_15 g_t_now_16 g_t_slotsE_1 c_now_lines c_now_bands c_now_carried c_slotsE_held c_slotsE_size c_slotsE_numbers c_turning_hours c_turning_least c_turning_turns c_turning_sets c_turning_cost c_turning_carriedBy c_turning_chosen c_turning_leftFromE)) rfl rfl rfl (rest := []) rfl rfl rfl dX8_openTurning_65 ?_
              refine g_if_eq 74 C dX8_openTurning_68 (by decide) h (fun h => ?_) (fun h => ?_)
              · refine g_aload_n 0 C dX8_openTurning_74 rfl rfl ?_
                refine g_get C fg_X8_71 0 rfl rfl dX8_openTurning_75 ?_
                refine g_aload_n 3 C dX8_openTurning_78 rfl rfl ?_
                refine g_aload_n 0 C dX8_openTurning_79 rfl rfl ?_
                refine g_get C fg_X8_22 0 rfl rfl dX8_openTurning_80 ?_
                refine g_iload_n 2 C dX8_openTurning_83 rfl rfl ?_
                obtain ⟨o12, o13, o14, o15, o16, o17, o18, o19, hr20, h⟩ := bnd8_some h
                refine g_callV [12, 6, 1, 10, 2, 13, 14, 15, 16, 17, 18, 19, 20, 21, 22, 23, 24, 25, 26, 27, 28, 29, 30, 31, 32, 33, 34, 35, 36, 37, 38, 39, 40, 41, 42, 43, 44, 45] [0, 3, 4, 5, 7, 8, 9, 11] [0, 10, 12, 1, 2, 3, 9, 4, 5, 6, 11, 7, 8, 13, 14, 15, 16, 17, 18, 19, 20, 21, 22, 23, 24, 25, 26, 27, 28, 29, 30, 31, 32, 33, 34, 35, 36, 37, 38, 39, 40, 41, 42, 43, 44, 45] C mt_X8_398 (c_X7_plan _ _ _ _ a_t_turning a_t_slotsE_2 a_t_now a_t_slotsE_numbers_2 a_t_now_carried a_t_turning_carriedBy a_t_turning_chosen a_t_turning_leftFrom a_t_turning_leftFromE_0 a_t_turning_leftFromE_1 a_t_turning_leftFromE_2 a_t_turning_leftFromE_3 a_t_turning_leftFromE_4 a_t_turning_leftFromE_5 a_t_turning_leftFromE_6 a_t_turning_leftFromE_7 a_t_turning_leftFromE_8 a_t_turning_leftFromE_9 a_t_turning_leftFromE_10 a_t_turning_leftFromE_11 a_t_turning_leftFromE_12 a_t_turning_leftFromE_13 a_t_turning_leftFromE_14 a_t_turning_leftFromE_15 a_t_turning_leftFromE_16 a_t_turning_leftFromE_17 a_t_turning_leftFromE_18 a_t_turning_leftFromE_19 a_t_turning_leftFromE_20 a_t_turning_leftFromE_21 a_t_turning_leftFromE_22 a_t_turning_leftFromE_23 a_t_turning_leftFromE_24 a_t_turning_leftFromE_25 a_t_turning_leftFromE_26 a_t_turning_leftFromE_27 a_t_turning_leftFromE_28 a_t_turning_leftFromE_29 (.int (wI (c_slotsE_held 2))) (g_t_slotsE_1 2) (.int (wI c_now_lines)) (g_t_now_1) (g_t_now_2) (g_t_now_3) (g_t_now_4) (g_t_now_5) (g_t_now_6) (g_t_now_9) (g_t_now_10) (g_t_now_11) (g_t_now_12) (g_t_now_13) (g_t_now_14) (g_t_now_15) (g_t_now_16) x2 c_turning_hours c_turning_least c_turning_turns c_turning_sets c_turning_cost (c_slotsE_size (2)) c_now_bands (c_slotsE_numbers (2)) c_now_carried c_turning_carriedBy c_turning_chosen c_turning_leftFromE F hr20) (q0 := 0) rfl (ci := 7) rfl rfl rfl (ws2 := (W_X8_openTurning (eCy E) a_t a_t_now a_t_now_carried a_t_slots a_t_slotsE_0 a_t_slotsE_1 a_t_slotsE_2 a_t_slotsE_3 a_t_slotsE_numbers_0 a_t_slotsE_numbers_1 a_t_slotsE_numbers_2 a_t_slotsE_numbers_3 a_t_turning a_t_turning_carriedBy a_t_turning_chosen a_t_turning_leftFrom a_t_turning_leftFromE_0 a_t_turning_leftFromE_1 a_t_turning_leftFromE_2 a_t_turning_leftFromE_3 a_t_turning_leftFromE_4 a_t_turning_leftFromE_5 a_t_turning_leftFromE_6 a_t_turning_leftFromE_7 a_t_turning_leftFromE_8 a_t_turning_leftFromE_9 a_t_turning_leftFromE_10 a_t_turning_leftFromE_11 a_t_turning_leftFromE_12 a_t_turning_leftFromE_13 a_t_turning_leftFromE_14 a_t_turning_leftFromE_15 a_t_turning_leftFromE_16 a_t_turning_leftFromE_17 a_t_turning_leftFromE_18 a_t_turning_leftFromE_19 a_t_turning_leftFromE_20 a_t_turning_leftFromE_21 a_t_turning_leftFromE_22 a_t_turning_leftFromE_23 a_t_turning_leftFromE_24 a_t_turning_leftFromE_25 a_t_turning_leftFromE_26 a_t_turning_leftFromE_27 a_t_turning_leftFromE_28 a_t_turning_leftFromE_29 g_t_0 g_t_1 g_t_2 g_t_4 g_t_5 g_t_7 g_t_8 g_t_9 g_t_10 g_t_12 g_t_13 g_t_now_1 g_t_now_2 g_t_now_3 g_t_now_4 g_t_now_5 g_t_now_6 g_t_now_9 g_t_now_10 g_t_now_11 g_t_now_12 g_t_now_13 g_t_now_14 g_t_now_15 g_t_now_16 g_t_slotsE_1 c_now_lines c_now_bands c_now_carried c_slotsE_held c_slotsE_size c_slotsE_numbers o12 o13 o14 o15 o16 o17 o18 o19)) rfl rfl rfl (rest := []) rfl rfl rfl dX8_openTurning_84 ?_
                refine g_iconst C dX8_openTurning_87 ?_
                cases h
                exact hret 88 _ dX8_openTurning_88
              · refine g_bipush C dX8_openTurning_71 (by decide) ?_
                cases h
                exact hret 73 _ dX8_openTurning_73
          · refine g_bipush C dX8_openTurning_46 (by decide) ?_
            cases h
            exact hret 48 _ dX8_openTurning_48
        · refine g_aald C 3 (t0 := 5) rfl rfl (by decide) rfl dX8_openTurning_37 ?_
          refine g_astore_n 3 C hN dX8_openTurning_38 rfl rfl (L' := [some (.ref a_t), some (.int (wI (3))), some (.int (wI x2)), some (.ref a_t_slotsE_3)]) rfl ?_
          refine g_aload_n 3 C dX8_openTurning_39 rfl rfl ?_
          refine g_get C fg_X8_303 7 rfl rfl dX8_openTurning_40 ?_
          refine g_st (st' := [.int (wI (c_slotsE_held (3)))]) rfl ?_
          refine g_if_ne 49 C dX8_openTurning_43 (by decide) h (fun h => ?_) (fun h => ?_)
          · refine g_aload_n 3 C dX8_openTurning_49 rfl rfl ?_
            refine g_get C fg_X8_374 7 rfl rfl dX8_openTurning_50 ?_
            refine g_st (st' := [.int (wI (c_slotsE_size (3)))]) rfl ?_
            refine g_iconst C dX8_openTurning_53 ?_
            obtain ⟨hc9, h⟩ := chk_some h
            refine g_irem C dX8_openTurning_54 hc9 ?_
            refine g_if_ne 71 C dX8_openTurning_55 (by decide) h (fun h => ?_) (fun h => ?_)
            · refine g_bipush C dX8_openTurning_71 (by decide) ?_
              cases h
              exact hret 73 _ dX8_openTurning_73
            · refine g_aload_n 3 C dX8_openTurning_58 rfl rfl ?_
              refine g_iconst C dX8_openTurning_59 ?_
              refine g_iconst C dX8_openTurning_60 ?_
              refine g_lconst (x := 0) C dX8_openTurning_61 (by decide) ?_
              refine g_ldc2 (v := 9999) C mc_X8_396 dX8_openTurning_62 ?_
              obtain ⟨r10, hr11, h⟩ := bnd1_some h
              refine g_callI [7, 11] [0, 1, 2, 3, 4, 5, 6, 8, 9, 10, 12, 13, 14, 15, 16, 17, 18, 19, 20, 21, 22, 23, 24, 25, 26, 27, 28, 29, 30, 31, 32, 33, 34, 35, 36, 37, 38, 39, 40, 41, 42, 43, 44, 45] [0, 1, 2, 3, 4, 5, 6, 44, 7, 8, 9, 45, 10, 11, 12, 13, 14, 15, 16, 17, 18, 19, 20, 21, 22, 23, 24, 25, 26, 27, 28, 29, 30, 31, 32, 33, 34, 35, 36, 37, 38, 39, 40, 41, 42, 43] C mt_X8_351 (c_X5_hasOut _ _ _ _ a_t_slotsE_3 a_t_slotsE_numbers_3 (.int (wI (c_slotsE_held 3))) (g_t_slotsE_1 3) 0 1 0 9999 (c_slotsE_size (3)) (c_slotsE_numbers (3)) F hr11) (q0 := 0) rfl (ci := 5) rfl rfl rfl (ws2 := (W_X8_openTurning (eCy E) a_t a_t_now a_t_now_carried a_t_slots a_t_slotsE_0 a_t_slotsE_1 a_t_slotsE_2 a_t_slotsE_3 a_t_slotsE_numbers_0 a_t_slotsE_numbers_1 a_t_slotsE_numbers_2 a_t_slotsE_numbers_3 a_t_turning a_t_turning_carriedBy a_t_turning_chosen a_t_turning_leftFrom a_t_turning_leftFromE_0 a_t_turning_leftFromE_1 a_t_turning_leftFromE_2 a_t_turning_leftFromE_3 a_t_turning_leftFromE_4 a_t_turning_leftFromE_5 a_t_turning_leftFromE_6 a_t_turning_leftFromE_7 a_t_turning_leftFromE_8 a_t_turning_leftFromE_9 a_t_turning_leftFromE_10 a_t_turning_leftFromE_11 a_t_turning_leftFromE_12 a_t_turning_leftFromE_13 a_t_turning_leftFromE_14 a_t_turning_leftFromE_15 a_t_turning_leftFromE_16 a_t_turning_leftFromE_17 a_t_turning_leftFromE_18 a_t_turning_leftFromE_19 a_t_turning_leftFromE_20 a_t_turning_leftFromE_21 a_t_turning_leftFromE_22 a_t_turning_leftFromE_23 a_t_turning_leftFromE_24 a_t_turning_leftFromE_25 a_t_turning_leftFromE_26 a_t_turning_leftFromE_27 a_t_turning_leftFromE_28 a_t_turning_leftFromE_29 g_t_0 g_t_1 g_t_2 g_t_4 g_t_5 g_t_7 g_t_8 g_t_9 g_t_10 g_t_12 g_t_13 g_t_now_1 g_t_now_2 g_t_now_3 g_t_now_4 g_t_now_5 g_t_now_6 g_t_now_9 g_t_now_10 g_t_now_11 g_t_now_12 g_t_now_13 g_t_now_14 g_t_now_15 g_t_now_16 g_t_slotsE_1 c_now_lines c_now_bands c_now_carried c_slotsE_held c_slotsE_size c_slotsE_numbers c_turning_hours c_turning_least c_turning_turns c_turning_sets c_turning_cost c_turning_carriedBy c_turning_chosen c_turning_leftFromE)) rfl rfl rfl (rest := []) rfl rfl rfl dX8_openTurning_65 ?_
              refine g_if_eq 74 C dX8_openTurning_68 (by decide) h (fun h => ?_) (fun h => ?_)
              · refine g_aload_n 0 C dX8_openTurning_74 rfl rfl ?_
                refine g_get C fg_X8_71 0 rfl rfl dX8_openTurning_75 ?_
                refine g_aload_n 3 C dX8_openTurning_78 rfl rfl ?_
                refine g_aload_n 0 C dX8_openTurning_79 rfl rfl ?_
                refine g_get C fg_X8_22 0 rfl rfl dX8_openTurning_80 ?_
                refine g_iload_n 2 C dX8_openTurning_83 rfl rfl ?_
                obtain ⟨o12, o13, o14, o15, o16, o17, o18, o19, hr20, h⟩ := bnd8_some h
                refine g_callV [12, 7, 1, 11, 2, 13, 14, 15, 16, 17, 18, 19, 20, 21, 22, 23, 24, 25, 26, 27, 28, 29, 30, 31, 32, 33, 34, 35, 36, 37, 38, 39, 40, 41, 42, 43, 44, 45] [0, 3, 4, 5, 6, 8, 9, 10] [0, 10, 12, 1, 2, 3, 4, 9, 5, 6, 7, 11, 8, 13, 14, 15, 16, 17, 18, 19, 20, 21, 22, 23, 24, 25, 26, 27, 28, 29, 30, 31, 32, 33, 34, 35, 36, 37, 38, 39, 40, 41, 42, 43, 44, 45] C mt_X8_398 (c_X7_plan _ _ _ _ a_t_turning a_t_slotsE_3 a_t_now a_t_slotsE_numbers_3 a_t_now_carried a_t_turning_carriedBy a_t_turning_chosen a_t_turning_leftFrom a_t_turning_leftFromE_0 a_t_turning_leftFromE_1 a_t_turning_leftFromE_2 a_t_turning_leftFromE_3 a_t_turning_leftFromE_4 a_t_turning_leftFromE_5 a_t_turning_leftFromE_6 a_t_turning_leftFromE_7 a_t_turning_leftFromE_8 a_t_turning_leftFromE_9 a_t_turning_leftFromE_10 a_t_turning_leftFromE_11 a_t_turning_leftFromE_12 a_t_turning_leftFromE_13 a_t_turning_leftFromE_14 a_t_turning_leftFromE_15 a_t_turning_leftFromE_16 a_t_turning_leftFromE_17 a_t_turning_leftFromE_18 a_t_turning_leftFromE_19 a_t_turning_leftFromE_20 a_t_turning_leftFromE_21 a_t_turning_leftFromE_22 a_t_turning_leftFromE_23 a_t_turning_leftFromE_24 a_t_turning_leftFromE_25 a_t_turning_leftFromE_26 a_t_turning_leftFromE_27 a_t_turning_leftFromE_28 a_t_turning_leftFromE_29 (.int (wI (c_slotsE_held 3))) (g_t_slotsE_1 3) (.int (wI c_now_lines)) (g_t_now_1) (g_t_now_2) (g_t_now_3) (g_t_now_4) (g_t_now_5) (g_t_now_6) (g_t_now_9) (g_t_now_10) (g_t_now_11) (g_t_now_12) (g_t_now_13) (g_t_now_14) (g_t_now_15) (g_t_now_16) x2 c_turning_hours c_turning_least c_turning_turns c_turning_sets c_turning_cost (c_slotsE_size (3)) c_now_bands (c_slotsE_numbers (3)) c_now_carried c_turning_carriedBy c_turning_chosen c_turning_leftFromE F hr20) (q0 := 0) rfl (ci := 7) rfl rfl rfl (ws2 := (W_X8_openTurning (eCy E) a_t a_t_now a_t_now_carried a_t_slots a_t_slotsE_0 a_t_slotsE_1 a_t_slotsE_2 a_t_slotsE_3 a_t_slotsE_numbers_0 a_t_slotsE_numbers_1 a_t_slotsE_numbers_2 a_t_slotsE_numbers_3 a_t_turning a_t_turning_carriedBy a_t_turning_chosen a_t_turning_leftFrom a_t_turning_leftFromE_0 a_t_turning_leftFromE_1 a_t_turning_leftFromE_2 a_t_turning_leftFromE_3 a_t_turning_leftFromE_4 a_t_turning_leftFromE_5 a_t_turning_leftFromE_6 a_t_turning_leftFromE_7 a_t_turning_leftFromE_8 a_t_turning_leftFromE_9 a_t_turning_leftFromE_10 a_t_turning_leftFromE_11 a_t_turning_leftFromE_12 a_t_turning_leftFromE_13 a_t_turning_leftFromE_14 a_t_turning_leftFromE_15 a_t_turning_leftFromE_16 a_t_turning_leftFromE_17 a_t_turning_leftFromE_18 a_t_turning_leftFromE_19 a_t_turning_leftFromE_20 a_t_turning_leftFromE_21 a_t_turning_leftFromE_22 a_t_turning_leftFromE_23 a_t_turning_leftFromE_24 a_t_turning_leftFromE_25 a_t_turning_leftFromE_26 a_t_turning_leftFromE_27 a_t_turning_leftFromE_28 a_t_turning_leftFromE_29 g_t_0 g_t_1 g_t_2 g_t_4 g_t_5 g_t_7 g_t_8 g_t_9 g_t_10 g_t_12 g_t_13 g_t_now_1 g_t_now_2 g_t_now_3 g_t_now_4 g_t_now_5 g_t_now_6 g_t_now_9 g_t_now_10 g_t_now_11 g_t_now_12 g_t_now_13 g_t_now_14 g_t_now_15 g_t_now_16 g_t_slotsE_1 c_now_lines c_now_bands c_now_carried c_slotsE_held c_slotsE_size c_slotsE_numbers o12 o13 o14 o15 o16 o17 o18 o19)) rfl rfl rfl (rest := []) rfl rfl rfl dX8_openTurning_84 ?_
                refine g_iconst C dX8_openTurning_87 ?_
                cases h
                exact hret 88 _ dX8_openTurning_88
              · refine g_bipush C dX8_openTurning_71 (by decide) ?_
                cases h
                exact hret 73 _ dX8_openTurning_73
          · refine g_bipush C dX8_openTurning_46 (by decide) ?_
            cases h
            exact hret 48 _ dX8_openTurning_48
      · refine g_bipush C dX8_openTurning_29 (by decide) ?_
        cases h
        exact hret 31 _ dX8_openTurning_31
end S_X8_openTurning
set_option maxRecDepth 100000 in
set_option maxHeartbeats 4000000 in
theorem c_X8_openTurning (l : Launch) (D : va_G) (cy : Nat → ClassId) (ad : AD) (a_t a_t_now a_t_now_carried a_t_slots a_t_slotsE_0 a_t_slotsE_1 a_t_slotsE_2 a_t_slotsE_3 a_t_slotsE_numbers_0 a_t_slotsE_numbers_1 a_t_slotsE_numbers_2 a_t_slotsE_numbers_3 a_t_turning a_t_turning_carriedBy a_t_turning_chosen a_t_turning_leftFrom a_t_turning_leftFromE_0 a_t_turning_leftFromE_1 a_t_turning_leftFromE_2 a_t_turning_leftFromE_3 a_t_turning_leftFromE_4 a_t_turning_leftFromE_5 a_t_turning_leftFromE_6 a_t_turning_leftFromE_7 a_t_turning_leftFromE_8 a_t_turning_leftFromE_9 a_t_turning_leftFromE_10 a_t_turning_leftFromE_11 a_t_turning_leftFromE_12 a_t_turning_leftFromE_13 a_t_turning_leftFromE_14 a_t_turning_leftFromE_15 a_t_turning_leftFromE_16 a_t_turning_leftFromE_17 a_t_turning_leftFromE_18 a_t_turning_leftFromE_19 a_t_turning_leftFromE_20 a_t_turning_leftFromE_21 a_t_turning_leftFromE_22 a_t_turning_leftFromE_23 a_t_turning_leftFromE_24 a_t_turning_leftFromE_25 a_t_turning_leftFromE_26 a_t_turning_leftFromE_27 a_t_turning_leftFromE_28 a_t_turning_leftFromE_29 : Nat) (g_t_0 : Value) (g_t_1 : Value) (g_t_2 : Value) (g_t_4 : Value) (g_t_5 : Value) (g_t_7 : Value) (g_t_8 : Value) (g_t_9 : Value) (g_t_10 : Value) (g_t_12 : Value) (g_t_13 : Value) (g_t_now_1 : Value) (g_t_now_2 : Value) (g_t_now_3 : Value) (g_t_now_4 : Value) (g_t_now_5 : Value) (g_t_now_6 : Value) (g_t_now_9 : Value) (g_t_now_10 : Value) (g_t_now_11 : Value) (g_t_now_12 : Value) (g_t_now_13 : Value) (g_t_now_14 : Value) (g_t_now_15 : Value) (g_t_now_16 : Value) (g_t_slotsE_1 : Nat → Value) (x1 : Int) (x2 : Int) (c_now_lines : Int) (c_now_bands : Int) (c_now_carried : Int → Int) (c_slotsE_held : Int → Int) (c_slotsE_size : Int → Int) (c_slotsE_numbers : Int → Int → Int) (c_turning_hours : Int) (c_turning_least : Int) (c_turning_turns : Int) (c_turning_sets : Int) (c_turning_cost : Int) (c_turning_carriedBy : Int → Int) (c_turning_chosen : Int → Int) (c_turning_leftFromE : Int → Int → Int) (F : Nat) {v : Int × Int × Int × Int × Int × Int × (Int → Int) × (Int → Int) × (Int → Int → Int)} (h : m_X8_openTurning F x1 x2 c_now_lines c_now_bands c_now_carried c_slotsE_held c_slotsE_size c_slotsE_numbers c_turning_hours c_turning_least c_turning_turns c_turning_sets c_turning_cost c_turning_carriedBy c_turning_chosen c_turning_leftFromE = some v) : Ct l yX8_openTurning cX8_openTurning 4 (some .int) { frames := 5, cells := 0, slots := 0, locals := 118 } D cy ad [.ref a_t, .int (wI x1), .int (wI x2)] (W_X8_openTurning cy a_t a_t_now a_t_now_carried a_t_slots a_t_slotsE_0 a_t_slotsE_1 a_t_slotsE_2 a_t_slotsE_3 a_t_slotsE_numbers_0 a_t_slotsE_numbers_1 a_t_slotsE_numbers_2 a_t_slotsE_numbers_3 a_t_turning a_t_turning_carriedBy a_t_turning_chosen a_t_turning_leftFrom a_t_turning_leftFromE_0 a_t_turning_leftFromE_1 a_t_turning_leftFromE_2 a_t_turning_leftFromE_3 a_t_turning_leftFromE_4 a_t_turning_leftFromE_5 a_t_turning_leftFromE_6 a_t_turning_leftFromE_7 a_t_turning_leftFromE_8 a_t_turning_leftFromE_9 a_t_turning_leftFromE_10 a_t_turning_leftFromE_11 a_t_turning_leftFromE_12 a_t_turning_leftFromE_13 a_t_turning_leftFromE_14 a_t_turning_leftFromE_15 a_t_turning_leftFromE_16 a_t_turning_leftFromE_17 a_t_turning_leftFromE_18 a_t_turning_leftFromE_19 a_t_turning_leftFromE_20 a_t_turning_leftFromE_21 a_t_turning_leftFromE_22 a_t_turning_leftFromE_23 a_t_turning_leftFromE_24 a_t_turning_leftFromE_25 a_t_turning_leftFromE_26 a_t_turning_leftFromE_27 a_t_turning_leftFromE_28 a_t_turning_leftFromE_29 g_t_0 g_t_1 g_t_2 g_t_4 g_t_5 g_t_7 g_t_8 g_t_9 g_t_10 g_t_12 g_t_13 g_t_now_1 g_t_now_2 g_t_now_3 g_t_now_4 g_t_now_5 g_t_now_6 g_t_now_9 g_t_now_10 g_t_now_11 g_t_now_12 g_t_now_13 g_t_now_14 g_t_now_15 g_t_now_16 g_t_slotsE_1 c_now_lines c_now_bands c_now_carried c_slotsE_held c_slotsE_size c_slotsE_numbers c_turning_hours c_turning_least c_turning_turns c_turning_sets c_turning_cost c_turning_carriedBy c_turning_chosen c_turning_leftFromE) (W_X8_openTurning cy a_t a_t_now a_t_now_carried a_t_slots a_t_slotsE_0 a_t_slotsE_1 a_t_slotsE_2 a_t_slotsE_3 a_t_slotsE_numbers_0 a_t_slotsE_numbers_1 a_t_slotsE_numbers_2 a_t_slotsE_numbers_3 a_t_turning a_t_turning_carriedBy a_t_turning_chosen a_t_turning_leftFrom a_t_turning_leftFromE_0 a_t_turning_leftFromE_1 a_t_turning_leftFromE_2 a_t_turning_leftFromE_3 a_t_turning_leftFromE_4 a_t_turning_leftFromE_5 a_t_turning_leftFromE_6 a_t_turning_leftFromE_7 a_t_turning_leftFromE_8 a_t_turning_leftFromE_9 a_t_turning_leftFromE_10 a_t_turning_leftFromE_11 a_t_turning_leftFromE_12 a_t_turning_leftFromE_13 a_t_turning_leftFromE_14 a_t_turning_leftFromE_15 a_t_turning_leftFromE_16 a_t_turning_leftFromE_17 a_t_turning_leftFromE_18 a_t_turning_leftFromE_19 a_t_turning_leftFromE_20 a_t_turning_leftFromE_21 a_t_turning_leftFromE_22 a_t_turning_leftFromE_23 a_t_turning_leftFromE_24 a_t_turning_leftFromE_25 a_t_turning_leftFromE_26 a_t_turning_leftFromE_27 a_t_turning_leftFromE_28 a_t_turning_leftFromE_29 g_t_0 g_t_1 g_t_2 g_t_4 g_t_5 g_t_7 g_t_8 g_t_9 g_t_10 g_t_12 g_t_13 g_t_now_1 g_t_now_2 g_t_now_3 g_t_now_4 g_t_now_5 g_t_now_6 g_t_now_9 g_t_now_10 g_t_now_11 g_t_now_12 g_t_now_13 g_t_now_14 g_t_now_15 g_t_now_16 g_t_slotsE_1 c_now_lines c_now_bands c_now_carried c_slotsE_held c_slotsE_size c_slotsE_numbers (v.2.1) (v.2.2.1) (v.2.2.2.1) (v.2.2.2.2.1) (v.2.2.2.2.2.1) (v.2.2.2.2.2.2.1) (v.2.2.2.2.2.2.2.1) (v.2.2.2.2.2.2.2.2)) (some (.int (wI (v.1)))) := by
  refine Ct.introI (j := 1) (plainFor_of_name (by decide)) rfl rfl (fun E C e1 e2 e3 e4 e5 hret => ?_)
  subst e1; subst e2; subst e3; subst e4
  exact wm_X8_openTurning C e5 h hret
-- MovingStair.turn(II)I
def W_X8_turn (cy : Nat → ClassId) (a_t a_t_now a_t_now_carried a_t_slots a_t_slotsE_0 a_t_slotsE_1 a_t_slotsE_2 a_t_slotsE_3 a_t_slotsE_numbers_0 a_t_slotsE_numbers_1 a_t_slotsE_numbers_2 a_t_slotsE_numbers_3 a_t_turning a_t_turning_carriedBy a_t_turning_chosen a_t_turning_leftFrom a_t_turning_leftFromE_0 a_t_turning_leftFromE_1 a_t_turning_leftFromE_2 a_t_turning_leftFromE_3 a_t_turning_leftFromE_4 a_t_turning_leftFromE_5 a_t_turning_leftFromE_6 a_t_turning_leftFromE_7 a_t_turning_leftFromE_8 a_t_turning_leftFromE_9 a_t_turning_leftFromE_10 a_t_turning_leftFromE_11 a_t_turning_leftFromE_12 a_t_turning_leftFromE_13 a_t_turning_leftFromE_14 a_t_turning_leftFromE_15 a_t_turning_leftFromE_16 a_t_turning_leftFromE_17 a_t_turning_leftFromE_18 a_t_turning_leftFromE_19 a_t_turning_leftFromE_20 a_t_turning_leftFromE_21 a_t_turning_leftFromE_22 a_t_turning_leftFromE_23 a_t_turning_leftFromE_24 a_t_turning_leftFromE_25 a_t_turning_leftFromE_26 a_t_turning_leftFromE_27 a_t_turning_leftFromE_28 a_t_turning_leftFromE_29 : Nat) (g_t_0 : Value) (g_t_1 : Value) (g_t_2 : Value) (g_t_4 : Value) (g_t_5 : Value) (g_t_7 : Value) (g_t_8 : Value) (g_t_9 : Value) (g_t_10 : Value) (g_t_12 : Value) (g_t_13 : Value) (g_t_now_1 : Value) (g_t_now_2 : Value) (g_t_now_3 : Value) (g_t_now_4 : Value) (g_t_now_5 : Value) (g_t_now_6 : Value) (g_t_now_9 : Value) (g_t_now_10 : Value) (g_t_now_11 : Value) (g_t_now_12 : Value) (g_t_now_13 : Value) (g_t_now_14 : Value) (g_t_now_15 : Value) (g_t_now_16 : Value) (g_t_slotsE_1 : Nat → Value) (c_now_lines : Int) (c_now_bands : Int) (c_now_carried : Int → Int) (c_slotsE_held : Int → Int) (c_slotsE_size : Int → Int) (c_slotsE_numbers : Int → Int → Int) (c_turning_hours : Int) (c_turning_least : Int) (c_turning_turns : Int) (c_turning_sets : Int) (c_turning_cost : Int) (c_turning_carriedBy : Int → Int) (c_turning_chosen : Int → Int) (c_turning_leftFromE : Int → Int → Int) : va_W := [(a_t, .inr (8, [g_t_0, g_t_1, g_t_2, .ref a_t_now, g_t_4, g_t_5, .ref a_t_slots, g_t_7, g_t_8, g_t_9, g_t_10, .ref a_t_turning, g_t_12, g_t_13])), (a_t_now, .inr (2, [.int (wI c_now_lines), g_t_now_1, g_t_now_2, g_t_now_3, g_t_now_4, g_t_now_5, g_t_now_6, .int (wI c_now_bands), .ref a_t_now_carried, g_t_now_9, g_t_now_10, g_t_now_11, g_t_now_12, g_t_now_13, g_t_now_14, g_t_now_15, g_t_now_16])), (a_t_now_carried, .inl (cy 1, 4, .inl (aI c_now_carried))), (a_t_slots, .inl (cy 5, 4, .inr (.inr (.inr (.inr (selO [a_t_slotsE_0, a_t_slotsE_1, a_t_slotsE_2, a_t_slotsE_3])))))), (a_t_slotsE_0, .inr (5, [.int (wI (c_slotsE_held 0)), g_t_slotsE_1 0, .int (wI (c_slotsE_size 0)), .ref a_t_slotsE_numbers_0])), (a_t_slotsE_1, .inr (5, [.int (wI (c_slotsE_held 1)), g_t_slotsE_1 1, .int (wI (c_slotsE_size 1)), .ref a_t_slotsE_numbers_1])), (a_t_slotsE_2, .inr (5, [.int (wI (c_slotsE_held 2)), g_t_slotsE_1 2, .int (wI (c_slotsE_size 2)), .ref a_t_slotsE_numbers_2])), (a_t_slotsE_3, .inr (5, [.int (wI (c_slotsE_held 3)), g_t_slotsE_1 3, .int (wI (c_slotsE_size 3)), .ref a_t_slotsE_numbers_3])), (a_t_slotsE_numbers_0, .inl (cy 2, 60, .inr (.inl (aJ (c_slotsE_numbers 0))))), (a_t_slotsE_numbers_1, .inl (cy 2, 60, .inr (.inl (aJ (c_slotsE_numbers 1))))), (a_t_slotsE_numbers_2, .inl (cy 2, 60, .inr (.inl (aJ (c_slotsE_numbers 2))))), (a_t_slotsE_numbers_3, .inl (cy 2, 60, .inr (.inl (aJ (c_slotsE_numbers 3))))), (a_t_turning, .inr (7, [.int (wI c_turning_hours), .int (wI c_turning_least), .int (wI c_turning_turns), .ref a_t_turning_chosen, .int (wI c_turning_sets), .int (wI c_turning_cost), .ref a_t_turning_carriedBy, .ref a_t_turning_leftFrom])), (a_t_turning_carriedBy, .inl (cy 1, 16, .inl (aI c_turning_carriedBy))), (a_t_turning_chosen, .inl (cy 1, 30, .inl (aI c_turning_chosen))), (a_t_turning_leftFrom, .inl (cy 6, 30, .inr (.inr (.inr (.inr (selO [a_t_turning_leftFromE_0, a_t_turning_leftFromE_1, a_t_turning_leftFromE_2, a_t_turning_leftFromE_3, a_t_turning_leftFromE_4, a_t_turning_leftFromE_5, a_t_turning_leftFromE_6, a_t_turning_leftFromE_7, a_t_turning_leftFromE_8, a_t_turning_leftFromE_9, a_t_turning_leftFromE_10, a_t_turning_leftFromE_11, a_t_turning_leftFromE_12, a_t_turning_leftFromE_13, a_t_turning_leftFromE_14, a_t_turning_leftFromE_15, a_t_turning_leftFromE_16, a_t_turning_leftFromE_17, a_t_turning_leftFromE_18, a_t_turning_leftFromE_19, a_t_turning_leftFromE_20, a_t_turning_leftFromE_21, a_t_turning_leftFromE_22, a_t_turning_leftFromE_23, a_t_turning_leftFromE_24, a_t_turning_leftFromE_25, a_t_turning_leftFromE_26, a_t_turning_leftFromE_27, a_t_turning_leftFromE_28, a_t_turning_leftFromE_29])))))), (a_t_turning_leftFromE_0, .inl (cy 1, 16, .inl (aI (c_turning_leftFromE 0)))), (a_t_turning_leftFromE_1, .inl (cy 1, 16, .inl (aI (c_turning_leftFromE 1)))), (a_t_turning_leftFromE_2, .inl (cy 1, 16, .inl (aI (c_turning_leftFromE 2)))), (a_t_turning_leftFromE_3, .inl (cy 1, 16, .inl (aI (c_turning_leftFromE 3)))), (a_t_turning_leftFromE_4, .inl (cy 1, 16, .inl (aI (c_turning_leftFromE 4)))), (a_t_turning_leftFromE_5, .inl (cy 1, 16, .inl (aI (c_turning_leftFromE 5)))), (a_t_turning_leftFromE_6, .inl (cy 1, 16, .inl (aI (c_turning_leftFromE 6)))), (a_t_turning_leftFromE_7, .inl (cy 1, 16, .inl (aI (c_turning_leftFromE 7)))), (a_t_turning_leftFromE_8, .inl (cy 1, 16, .inl (aI (c_turning_leftFromE 8)))), (a_t_turning_leftFromE_9, .inl (cy 1, 16, .inl (aI (c_turning_leftFromE 9)))), (a_t_turning_leftFromE_10, .inl (cy 1, 16, .inl (aI (c_turning_leftFromE 10)))), (a_t_turning_leftFromE_11, .inl (cy 1, 16, .inl (aI (c_turning_leftFromE 11)))), (a_t_turning_leftFromE_12, .inl (cy 1, 16, .inl (aI (c_turning_leftFromE 12)))), (a_t_turning_leftFromE_13, .inl (cy 1, 16, .inl (aI (c_turning_leftFromE 13)))), (a_t_turning_leftFromE_14, .inl (cy 1, 16, .inl (aI (c_turning_leftFromE 14)))), (a_t_turning_leftFromE_15, .inl (cy 1, 16, .inl (aI (c_turning_leftFromE 15)))), (a_t_turning_leftFromE_16, .inl (cy 1, 16, .inl (aI (c_turning_leftFromE 16)))), (a_t_turning_leftFromE_17, .inl (cy 1, 16, .inl (aI (c_turning_leftFromE 17)))), (a_t_turning_leftFromE_18, .inl (cy 1, 16, .inl (aI (c_turning_leftFromE 18)))), (a_t_turning_leftFromE_19, .inl (cy 1, 16, .inl (aI (c_turning_leftFromE 19)))), (a_t_turning_leftFromE_20, .inl (cy 1, 16, .inl (aI (c_turning_leftFromE 20)))), (a_t_turning_leftFromE_21, .inl (cy 1, 16, .inl (aI (c_turning_leftFromE 21)))), (a_t_turning_leftFromE_22, .inl (cy 1, 16, .inl (aI (c_turning_leftFromE 22)))), (a_t_turning_leftFromE_23, .inl (cy 1, 16, .inl (aI (c_turning_leftFromE 23)))), (a_t_turning_leftFromE_24, .inl (cy 1, 16, .inl (aI (c_turning_leftFromE 24)))), (a_t_turning_leftFromE_25, .inl (cy 1, 16, .inl (aI (c_turning_leftFromE 25)))), (a_t_turning_leftFromE_26, .inl (cy 1, 16, .inl (aI (c_turning_leftFromE 26)))), (a_t_turning_leftFromE_27, .inl (cy 1, 16, .inl (aI (c_turning_leftFromE 27)))), (a_t_turning_leftFromE_28, .inl (cy 1, 16, .inl (aI (c_turning_leftFromE 28)))), (a_t_turning_leftFromE_29, .inl (cy 1, 16, .inl (aI (c_turning_leftFromE 29))))]
def m_X8_turn (F : Nat) (x1 : Int) (x2 : Int) (c_now_lines : Int) (c_now_bands : Int) (c_now_carried : Int → Int) (c_slotsE_held : Int → Int) (c_slotsE_size : Int → Int) (c_slotsE_numbers : Int → Int → Int) (c_turning_hours : Int) (c_turning_least : Int) (c_turning_turns : Int) (c_turning_sets : Int) (c_turning_cost : Int) (c_turning_carriedBy : Int → Int) (c_turning_chosen : Int → Int) (c_turning_leftFromE : Int → Int → Int) : Option (Int × Int × Int × Int × Int × Int × (Int → Int) × (Int → Int) × (Int → Int → Int)) :=
  bnd9 (m_X8_openTurning F x1 x2 c_now_lines c_now_bands c_now_carried c_slotsE_held c_slotsE_size c_slotsE_numbers c_turning_hours c_turning_least c_turning_turns c_turning_sets c_turning_cost c_turning_carriedBy c_turning_chosen c_turning_leftFromE) fun r1 o2 o3 o4 o5 o6 o7 o8 o9 => if wI r1 = wI 0 then
    (some (o3, o2, o3, o4, o5, o6, o7, o8, o9))
  else
    (some (r1, o2, o3, o4, o5, o6, o7, o8, o9))
section S_X8_turn
variable {E : EE} {a_t a_t_now a_t_now_carried a_t_slots a_t_slotsE_0 a_t_slotsE_1 a_t_slotsE_2 a_t_slotsE_3 a_t_slotsE_numbers_0 a_t_slotsE_numbers_1 a_t_slotsE_numbers_2 a_t_slotsE_numbers_3 a_t_turning a_t_turning_carriedBy a_t_turning_chosen a_t_turning_leftFrom a_t_turning_leftFromE_0 a_t_turning_leftFromE_1 a_t_turning_leftFromE_2 a_t_turning_leftFromE_3 a_t_turning_leftFromE_4 a_t_turning_leftFromE_5 a_t_turning_leftFromE_6 a_t_turning_leftFromE_7 a_t_turning_leftFromE_8 a_t_turning_leftFromE_9 a_t_turning_leftFromE_10 a_t_turning_leftFromE_11 a_t_turning_leftFromE_12 a_t_turning_leftFromE_13 a_t_turning_leftFromE_14 a_t_turning_leftFromE_15 a_t_turning_leftFromE_16 a_t_turning_leftFromE_17 a_t_turning_leftFromE_18 a_t_turning_leftFromE_19 a_t_turning_leftFromE_20 a_t_turning_leftFromE_21 a_t_turning_leftFromE_22 a_t_turning_leftFromE_23 a_t_turning_leftFromE_24 a_t_turning_leftFromE_25 a_t_turning_leftFromE_26 a_t_turning_leftFromE_27 a_t_turning_leftFromE_28 a_t_turning_leftFromE_29 : Nat} {g_t_0 : Value} {g_t_1 : Value} {g_t_2 : Value} {g_t_4 : Value} {g_t_5 : Value} {g_t_7 : Value} {g_t_8 : Value} {g_t_9 : Value} {g_t_10 : Value} {g_t_12 : Value} {g_t_13 : Value} {g_t_now_1 : Value} {g_t_now_2 : Value} {g_t_now_3 : Value} {g_t_now_4 : Value} {g_t_now_5 : Value} {g_t_now_6 : Value} {g_t_now_9 : Value} {g_t_now_10 : Value} {g_t_now_11 : Value} {g_t_now_12 : Value} {g_t_now_13 : Value} {g_t_now_14 : Value} {g_t_now_15 : Value} {g_t_now_16 : Value} {g_t_slotsE_1 : Nat → Value}
set_option maxRecDepth 100000 in
set_option maxHeartbeats 4000000 in
theorem wm_X8_turn {F : Nat} {v : Int × Int × Int × Int × Int × Int × (Int → Int) × (Int → Int) × (Int → Int → Int)} {x1 : Int} {x2 : Int} {c_now_lines : Int} {c_now_bands : Int} {c_now_carried : Int → Int} {c_slotsE_held : Int → Int} {c_slotsE_size : Int → Int} {c_slotsE_numbers : Int → Int → Int} {c_turning_hours : Int} {c_turning_least : Int} {c_turning_turns : Int} {c_turning_sets : Int} {c_turning_cost : Int} {c_turning_carriedBy : Int → Int} {c_turning_chosen : Int → Int} {c_turning_leftFromE : Int → Int → Int} (C : Cx E cX8_turn RX8 { frames := 6, cells := 0, slots := 0, locals := 141 }) (hN : eN E = 4) (h : m_X8_turn F x1 x2 c_now_lines c_now_bands c_now_carried c_slotsE_held c_slotsE_size c_slotsE_numbers c_turning_hours c_turning_least c_turning_turns c_turning_sets c_turning_cost c_turning_carriedBy c_turning_chosen c_turning_leftFromE = some v) (hret : ∀ (pc : Nat) (L : List (Option Value)), decode cX8_turn pc = .ok (.ireturn, 1) → GG E 0 0 (W_X8_turn (eCy E) a_t a_t_now a_t_now_carried a_t_slots a_t_slotsE_0 a_t_slotsE_1 a_t_slotsE_2 a_t_slotsE_3 a_t_slotsE_numbers_0 a_t_slotsE_numbers_1 a_t_slotsE_numbers_2 a_t_slotsE_numbers_3 a_t_turning a_t_turning_carriedBy a_t_turning_chosen a_t_turning_leftFrom a_t_turning_leftFromE_0 a_t_turning_leftFromE_1 a_t_turning_leftFromE_2 a_t_turning_leftFromE_3 a_t_turning_leftFromE_4 a_t_turning_leftFromE_5 a_t_turning_leftFromE_6 a_t_turning_leftFromE_7 a_t_turning_leftFromE_8 a_t_turning_leftFromE_9 a_t_turning_leftFromE_10 a_t_turning_leftFromE_11 a_t_turning_leftFromE_12 a_t_turning_leftFromE_13 a_t_turning_leftFromE_14 a_t_turning_leftFromE_15 a_t_turning_leftFromE_16 a_t_turning_leftFromE_17 a_t_turning_leftFromE_18 a_t_turning_leftFromE_19 a_t_turning_leftFromE_20 a_t_turning_leftFromE_21 a_t_turning_leftFromE_22 a_t_turning_leftFromE_23 a_t_turning_leftFromE_24 a_t_turning_leftFromE_25 a_t_turning_leftFromE_26 a_t_turning_leftFromE_27 a_t_turning_leftFromE_28 a_t_turning_leftFromE_29 g_t_0 g_t_1 g_t_2 g_t_4 g_t_5 g_t_7 g_t_8 g_t_9 g_t_10 g_t_12 g_t_13 g_t_now_1 g_t_now_2 g_t_now_3 g_t_now_4 g_t_now_5 g_t_now_6 g_t_now_9 g_t_now_10 g_t_now_11 g_t_now_12 g_t_now_13 g_t_now_14 g_t_now_15 g_t_now_16 g_t_slotsE_1 c_now_lines c_now_bands c_now_carried c_slotsE_held c_slotsE_size c_slotsE_numbers (v.2.1) (v.2.2.1) (v.2.2.2.1) (v.2.2.2.2.1) (v.2.2.2.2.2.1) (v.2.2.2.2.2.2.1) (v.2.2.2.2.2.2.2.1) (v.2.2.2.2.2.2.2.2)) L pc [.int (wI (v.1))]) : GG E 0 0 (W_X8_turn (eCy E) a_t a_t_now a_t_now_carried a_t_slots a_t_slotsE_0 a_t_slotsE_1 a_t_slotsE_2 a_t_slotsE_3 a_t_slotsE_numbers_0 a_t_slotsE_numbers_1 a_t_slotsE_numbers_2 a_t_slotsE_numbers_3 a_t_turning a_t_turning_carriedBy a_t_turning_chosen a_t_turning_leftFrom a_t_turning_leftFromE_0 a_t_turning_leftFromE_1 a_t_turning_leftFromE_2 a_t_turning_leftFromE_3 a_t_turning_leftFromE_4 a_t_turning_leftFromE_5 a_t_turning_leftFromE_6 a_t_turning_leftFromE_7 a_t_turning_leftFromE_8 a_t_turning_leftFromE_9 a_t_turning_leftFromE_10 a_t_turning_leftFromE_11 a_t_turning_leftFromE_12 a_t_turning_leftFromE_13 a_t_turning_leftFromE_14 a_t_turning_leftFromE_15 a_t_turning_leftFromE_16 a_t_turning_leftFromE_17 a_t_turning_leftFromE_18 a_t_turning_leftFromE_19 a_t_turning_leftFromE_20 a_t_turning_leftFromE_21 a_t_turning_leftFromE_22 a_t_turning_leftFromE_23 a_t_turning_leftFromE_24 a_t_turning_leftFromE_25 a_t_turning_leftFromE_26 a_t_turning_leftFromE_27 a_t_turning_leftFromE_28 a_t_turning_leftFromE_29 g_t_0 g_t_1 g_t_2 g_t_4 g_t_5 g_t_7 g_t_8 g_t_9 g_t_10 g_t_12 g_t_13 g_t_now_1 g_t_now_2 g_t_now_3 g_t_now_4 g_t_now_5 g_t_now_6 g_t_now_9 g_t_now_10 g_t_now_11 g_t_now_12 g_t_now_13 g_t_now_14 g_t_now_15 g_t_now_16 g_t_slotsE_1 c_now_lines c_now_bands c_now_carried c_slotsE_held c_slotsE_size c_slotsE_numbers c_turning_hours c_turning_least c_turning_turns c_turning_sets c_turning_cost c_turning_carriedBy c_turning_chosen c_turning_leftFromE) [some (.ref a_t), some (.int (wI x1)), some (.int (wI x2)), none] 0 [] := by
  unfold m_X8_turn at h
  refine g_aload_n 0 C dX8_turn_0 rfl rfl ?_
  refine g_iload_n 1 C dX8_turn_1 rfl rfl ?_
  refine g_iload_n 2 C dX8_turn_2 rfl rfl ?_
  obtain ⟨r1, o2, o3, o4, o5, o6, o7, o8, o9, hr10, h⟩ := bnd9_some h
  refine g_callI [0, 1, 2, 3, 4, 5, 6, 7, 8, 9, 10, 11, 12, 13, 14, 15, 16, 17, 18, 19, 20, 21, 22, 23, 24, 25, 26, 27, 28, 29, 30, 31, 32, 33, 34, 35, 36, 37, 38, 39, 40, 41, 42, 43, 44, 45] [] [0, 1, 2, 3, 4, 5, 6, 7, 8, 9, 10, 11, 12, 13, 14, 15, 16, 17, 18, 19, 20, 21, 22, 23, 24, 25, 26, 27, 28, 29, 30, 31, 32, 33, 34, 35, 36, 37, 38, 39, 40, 41, 42, 43, 44, 45] C mt_X8_381 (c_X8_openTurning _ _ _ _ a_t a_t_now a_t_now_carried a_t_slots a_t_slotsE_0 a_t_slotsE_1 a_t_slotsE_2 a_t_slotsE_3 a_t_slotsE_numbers_0 a_t_slotsE_numbers_1 a_t_slotsE_numbers_2 a_t_slotsE_numbers_3 a_t_turning a_t_turning_carriedBy a_t_turning_chosen a_t_turning_leftFrom a_t_turning_leftFromE_0 a_t_turning_leftFromE_1 a_t_turning_leftFromE_2 a_t_turning_leftFromE_3 a_t_turning_leftFromE_4 a_t_turning_leftFromE_5 a_t_turning_leftFromE_6 a_t_turning_leftFromE_7 a_t_turning_leftFromE_8 a_t_turning_leftFromE_9 a_t_turning_leftFromE_10 a_t_turning_leftFromE_11 a_t_turning_leftFromE_12 a_t_turning_leftFromE_13 a_t_turning_leftFromE_14 a_t_turning_leftFromE_15 a_t_turning_leftFromE_16 a_t_turning_leftFromE_17 a_t_turning_leftFromE_18 a_t_turning_leftFromE_19 a_t_turning_leftFromE_20 a_t_turning_leftFromE_21 a_t_turning_leftFromE_22 a_t_turning_leftFromE_23 a_t_turning_leftFromE_24 a_t_turning_leftFromE_25 a_t_turning_leftFromE_26 a_t_turning_leftFromE_27 a_t_turning_leftFromE_28 a_t_turning_leftFromE_29 (g_t_0) (g_t_1) (g_t_2) (g_t_4) (g_t_5) (g_t_7) (g_t_8) (g_t_9) (g_t_10) (g_t_12) (g_t_13) (g_t_now_1) (g_t_now_2) (g_t_now_3) (g_t_now_4) (g_t_now_5) (g_t_now_6) (g_t_now_9) (g_t_now_10) (g_t_now_11) (g_t_now_12) (g_t_now_13) (g_t_now_14) (g_t_now_15) (g_t_now_16) (selV [g_t_slotsE_1 0, g_t_slotsE_1 1, g_t_slotsE_1 2, g_t_slotsE_1 3]) x1 x2 c_now_lines c_now_bands c_now_carried c_slotsE_held c_slotsE_size c_slotsE_numbers c_turning_hours c_turning_least c_turning_turns c_turning_sets c_turning_cost c_turning_carriedBy c_turning_chosen c_turning_leftFromE F hr10) (q0 := 0) rfl (ci := 8) rfl rfl rfl (ws2 := (W_X8_turn (eCy E) a_t a_t_now a_t_now_carried a_t_slots a_t_slotsE_0 a_t_slotsE_1 a_t_slotsE_2 a_t_slotsE_3 a_t_slotsE_numbers_0 a_t_slotsE_numbers_1 a_t_slotsE_numbers_2 a_t_slotsE_numbers_3 a_t_turning a_t_turning_carriedBy a_t_turning_chosen a_t_turning_leftFrom a_t_turning_leftFromE_0 a_t_turning_leftFromE_1 a_t_turning_leftFromE_2 a_t_turning_leftFromE_3 a_t_turning_leftFromE_4 a_t_turning_leftFromE_5 a_t_turning_leftFromE_6 a_t_turning_leftFromE_7 a_t_turning_leftFromE_8 a_t_turning_leftFromE_9 a_t_turning_leftFromE_10 a_t_turning_leftFromE_11 a_t_turning_leftFromE_12 a_t_turning_leftFromE_13 a_t_turning_leftFromE_14 a_t_turning_leftFromE_15 a_t_turning_leftFromE_16 a_t_turning_leftFromE_17 a_t_turning_leftFromE_18 a_t_turning_leftFromE_19 a_t_turning_leftFromE_20 a_t_turning_leftFromE_21 a_t_turning_leftFromE_22 a_t_turning_leftFromE_23 a_t_turning_leftFromE_24 a_t_turning_leftFromE_25 a_t_turning_leftFromE_26 a_t_turning_leftFromE_27 a_t_turning_leftFromE_28 a_t_turning_leftFromE_29 g_t_0 g_t_1 g_t_2 g_t_4 g_t_5 g_t_7 g_t_8 g_t_9 g_t_10 g_t_12 g_t_13 g_t_now_1 g_t_now_2 g_t_now_3 g_t_now_4 g_t_now_5 g_t_now_6 g_t_now_9 g_t_now_10 g_t_now_11 g_t_now_12 g_t_now_13 g_t_now_14 g_t_now_15 g_t_now_16 g_t_slotsE_1 c_now_lines c_now_bands c_now_carried c_slotsE_held c_slotsE_size c_slotsE_numbers o2 o3 o4 o5 o6 o7 o8 o9)) rfl rfl rfl (rest := []) rfl rfl rfl dX8_turn_3 ?_
  refine g_istore_n 3 C hN dX8_turn_6 rfl rfl (L' := [some (.ref a_t), some (.int (wI x1)), some (.int (wI x2)), some (.int (wI r1))]) rfl ?_
  refine g_iload_n 3 C dX8_turn_7 rfl rfl ?_
  refine g_if_ne 21 C dX8_turn_8 (by decide) h (fun h => ?_) (fun h => ?_)
  · refine g_iload_n 3 C dX8_turn_21 rfl rfl ?_
    cases h
    exact hret 22 _ dX8_turn_22
  · refine g_aload_n 0 C dX8_turn_11 rfl rfl ?_
    refine g_get C fg_X8_71 0 rfl rfl dX8_turn_12 ?_
    refine g_get C fg_X8_384 12 rfl rfl dX8_turn_15 ?_
    refine g_st (st' := [.int (wI o3)]) rfl ?_
    refine g_goto (tgt := 22) C dX8_turn_18 (by decide) ?_
    cases h
    exact hret 22 _ dX8_turn_22
end S_X8_turn
set_option maxRecDepth 100000 in
set_option maxHeartbeats 4000000 in
theorem c_X8_turn (l : Launch) (D : va_G) (cy : Nat → ClassId) (ad : AD) (a_t a_t_now a_t_now_carried a_t_slots a_t_slotsE_0 a_t_slotsE_1 a_t_slotsE_2 a_t_slotsE_3 a_t_slotsE_numbers_0 a_t_slotsE_numbers_1 a_t_slotsE_numbers_2 a_t_slotsE_numbers_3 a_t_turning a_t_turning_carriedBy a_t_turning_chosen a_t_turning_leftFrom a_t_turning_leftFromE_0 a_t_turning_leftFromE_1 a_t_turning_leftFromE_2 a_t_turning_leftFromE_3 a_t_turning_leftFromE_4 a_t_turning_leftFromE_5 a_t_turning_leftFromE_6 a_t_turning_leftFromE_7 a_t_turning_leftFromE_8 a_t_turning_leftFromE_9 a_t_turning_leftFromE_10 a_t_turning_leftFromE_11 a_t_turning_leftFromE_12 a_t_turning_leftFromE_13 a_t_turning_leftFromE_14 a_t_turning_leftFromE_15 a_t_turning_leftFromE_16 a_t_turning_leftFromE_17 a_t_turning_leftFromE_18 a_t_turning_leftFromE_19 a_t_turning_leftFromE_20 a_t_turning_leftFromE_21 a_t_turning_leftFromE_22 a_t_turning_leftFromE_23 a_t_turning_leftFromE_24 a_t_turning_leftFromE_25 a_t_turning_leftFromE_26 a_t_turning_leftFromE_27 a_t_turning_leftFromE_28 a_t_turning_leftFromE_29 : Nat) (g_t_0 : Value) (g_t_1 : Value) (g_t_2 : Value) (g_t_4 : Value) (g_t_5 : Value) (g_t_7 : Value) (g_t_8 : Value) (g_t_9 : Value) (g_t_10 : Value) (g_t_12 : Value) (g_t_13 : Value) (g_t_now_1 : Value) (g_t_now_2 : Value) (g_t_now_3 : Value) (g_t_now_4 : Value) (g_t_now_5 : Value) (g_t_now_6 : Value) (g_t_now_9 : Value) (g_t_now_10 : Value) (g_t_now_11 : Value) (g_t_now_12 : Value) (g_t_now_13 : Value) (g_t_now_14 : Value) (g_t_now_15 : Value) (g_t_now_16 : Value) (g_t_slotsE_1 : Nat → Value) (x1 : Int) (x2 : Int) (c_now_lines : Int) (c_now_bands : Int) (c_now_carried : Int → Int) (c_slotsE_held : Int → Int) (c_slotsE_size : Int → Int) (c_slotsE_numbers : Int → Int → Int) (c_turning_hours : Int) (c_turning_least : Int) (c_turning_turns : Int) (c_turning_sets : Int) (c_turning_cost : Int) (c_turning_carriedBy : Int → Int) (c_turning_chosen : Int → Int) (c_turning_leftFromE : Int → Int → Int) (F : Nat) {v : Int × Int × Int × Int × Int × Int × (Int → Int) × (Int → Int) × (Int → Int → Int)} (h : m_X8_turn F x1 x2 c_now_lines c_now_bands c_now_carried c_slotsE_held c_slotsE_size c_slotsE_numbers c_turning_hours c_turning_least c_turning_turns c_turning_sets c_turning_cost c_turning_carriedBy c_turning_chosen c_turning_leftFromE = some v) : Ct l yX8_turn cX8_turn 4 (some .int) { frames := 6, cells := 0, slots := 0, locals := 141 } D cy ad [.ref a_t, .int (wI x1), .int (wI x2)] (W_X8_turn cy a_t a_t_now a_t_now_carried a_t_slots a_t_slotsE_0 a_t_slotsE_1 a_t_slotsE_2 a_t_slotsE_3 a_t_slotsE_numbers_0 a_t_slotsE_numbers_1 a_t_slotsE_numbers_2 a_t_slotsE_numbers_3 a_t_turning a_t_turning_carriedBy a_t_turning_chosen a_t_turning_leftFrom a_t_turning_leftFromE_0 a_t_turning_leftFromE_1 a_t_turning_leftFromE_2 a_t_turning_leftFromE_3 a_t_turning_leftFromE_4 a_t_turning_leftFromE_5 a_t_turning_leftFromE_6 a_t_turning_leftFromE_7 a_t_turning_leftFromE_8 a_t_turning_leftFromE_9 a_t_turning_leftFromE_10 a_t_turning_leftFromE_11 a_t_turning_leftFromE_12 a_t_turning_leftFromE_13 a_t_turning_leftFromE_14 a_t_turning_leftFromE_15 a_t_turning_leftFromE_16 a_t_turning_leftFromE_17 a_t_turning_leftFromE_18 a_t_turning_leftFromE_19 a_t_turning_leftFromE_20 a_t_turning_leftFromE_21 a_t_turning_leftFromE_22 a_t_turning_leftFromE_23 a_t_turning_leftFromE_24 a_t_turning_leftFromE_25 a_t_turning_leftFromE_26 a_t_turning_leftFromE_27 a_t_turning_leftFromE_28 a_t_turning_leftFromE_29 g_t_0 g_t_1 g_t_2 g_t_4 g_t_5 g_t_7 g_t_8 g_t_9 g_t_10 g_t_12 g_t_13 g_t_now_1 g_t_now_2 g_t_now_3 g_t_now_4 g_t_now_5 g_t_now_6 g_t_now_9 g_t_now_10 g_t_now_11 g_t_now_12 g_t_now_13 g_t_now_14 g_t_now_15 g_t_now_16 g_t_slotsE_1 c_now_lines c_now_bands c_now_carried c_slotsE_held c_slotsE_size c_slotsE_numbers c_turning_hours c_turning_least c_turning_turns c_turning_sets c_turning_cost c_turning_carriedBy c_turning_chosen c_turning_leftFromE) (W_X8_turn cy a_t a_t_now a_t_now_carried a_t_slots a_t_slotsE_0 a_t_slotsE_1 a_t_slotsE_2 a_t_slotsE_3 a_t_slotsE_numbers_0 a_t_slotsE_numbers_1 a_t_slotsE_numbers_2 a_t_slotsE_numbers_3 a_t_turning a_t_turning_carriedBy a_t_turning_chosen a_t_turning_leftFrom a_t_turning_leftFromE_0 a_t_turning_leftFromE_1 a_t_turning_leftFromE_2 a_t_turning_leftFromE_3 a_t_turning_leftFromE_4 a_t_turning_leftFromE_5 a_t_turning_leftFromE_6 a_t_turning_leftFromE_7 a_t_turning_leftFromE_8 a_t_turning_leftFromE_9 a_t_turning_leftFromE_10 a_t_turning_leftFromE_11 a_t_turning_leftFromE_12 a_t_turning_leftFromE_13 a_t_turning_leftFromE_14 a_t_turning_leftFromE_15 a_t_turning_leftFromE_16 a_t_turning_leftFromE_17 a_t_turning_leftFromE_18 a_t_turning_leftFromE_19 a_t_turning_leftFromE_20 a_t_turning_leftFromE_21 a_t_turning_leftFromE_22 a_t_turning_leftFromE_23 a_t_turning_leftFromE_24 a_t_turning_leftFromE_25 a_t_turning_leftFromE_26 a_t_turning_leftFromE_27 a_t_turning_leftFromE_28 a_t_turning_leftFromE_29 g_t_0 g_t_1 g_t_2 g_t_4 g_t_5 g_t_7 g_t_8 g_t_9 g_t_10 g_t_12 g_t_13 g_t_now_1 g_t_now_2 g_t_now_3 g_t_now_4 g_t_now_5 g_t_now_6 g_t_now_9 g_t_now_10 g_t_now_11 g_t_now_12 g_t_now_13 g_t_now_14 g_t_now_15 g_t_now_16 g_t_slotsE_1 c_now_lines c_now_bands c_now_carried c_slotsE_held c_slotsE_size c_slotsE_numbers (v.2.1) (v.2.2.1) (v.2.2.2.1) (v.2.2.2.2.1) (v.2.2.2.2.2.1) (v.2.2.2.2.2.2.1) (v.2.2.2.2.2.2.2.1) (v.2.2.2.2.2.2.2.2)) (some (.int (wI (v.1)))) := by
  refine Ct.introI (j := 1) (plainFor_of_name (by decide)) rfl rfl (fun E C e1 e2 e3 e4 e5 hret => ?_)
  subst e1; subst e2; subst e3; subst e4
  exact wm_X8_turn C e5 h hret
-- MovingStair.turned(III)I
def W_X8_turned (cy : Nat → ClassId) (a_t a_t_now a_t_now_carried a_t_slots a_t_slotsE_0 a_t_slotsE_1 a_t_slotsE_2 a_t_slotsE_3 a_t_slotsE_numbers_0 a_t_slotsE_numbers_1 a_t_slotsE_numbers_2 a_t_slotsE_numbers_3 a_t_turning a_t_turning_carriedBy a_t_turning_chosen a_t_turning_leftFrom a_t_turning_leftFromE_0 a_t_turning_leftFromE_1 a_t_turning_leftFromE_2 a_t_turning_leftFromE_3 a_t_turning_leftFromE_4 a_t_turning_leftFromE_5 a_t_turning_leftFromE_6 a_t_turning_leftFromE_7 a_t_turning_leftFromE_8 a_t_turning_leftFromE_9 a_t_turning_leftFromE_10 a_t_turning_leftFromE_11 a_t_turning_leftFromE_12 a_t_turning_leftFromE_13 a_t_turning_leftFromE_14 a_t_turning_leftFromE_15 a_t_turning_leftFromE_16 a_t_turning_leftFromE_17 a_t_turning_leftFromE_18 a_t_turning_leftFromE_19 a_t_turning_leftFromE_20 a_t_turning_leftFromE_21 a_t_turning_leftFromE_22 a_t_turning_leftFromE_23 a_t_turning_leftFromE_24 a_t_turning_leftFromE_25 a_t_turning_leftFromE_26 a_t_turning_leftFromE_27 a_t_turning_leftFromE_28 a_t_turning_leftFromE_29 : Nat) (g_t_0 : Value) (g_t_1 : Value) (g_t_2 : Value) (g_t_4 : Value) (g_t_5 : Value) (g_t_7 : Value) (g_t_8 : Value) (g_t_9 : Value) (g_t_10 : Value) (g_t_12 : Value) (g_t_13 : Value) (g_t_now_1 : Value) (g_t_now_2 : Value) (g_t_now_3 : Value) (g_t_now_4 : Value) (g_t_now_5 : Value) (g_t_now_6 : Value) (g_t_now_9 : Value) (g_t_now_10 : Value) (g_t_now_11 : Value) (g_t_now_12 : Value) (g_t_now_13 : Value) (g_t_now_14 : Value) (g_t_now_15 : Value) (g_t_now_16 : Value) (g_t_slotsE_1 : Nat → Value) (c_now_lines : Int) (c_now_bands : Int) (c_now_carried : Int → Int) (c_slotsE_held : Int → Int) (c_slotsE_size : Int → Int) (c_slotsE_numbers : Int → Int → Int) (c_turning_hours : Int) (c_turning_least : Int) (c_turning_turns : Int) (c_turning_sets : Int) (c_turning_cost : Int) (c_turning_carriedBy : Int → Int) (c_turning_chosen : Int → Int) (c_turning_leftFromE : Int → Int → Int) : va_W := [(a_t, .inr (8, [g_t_0, g_t_1, g_t_2, .ref a_t_now, g_t_4, g_t_5, .ref a_t_slots, g_t_7, g_t_8, g_t_9, g_t_10, .ref a_t_turning, g_t_12, g_t_13])), (a_t_now, .inr (2, [.int (wI c_now_lines), g_t_now_1, g_t_now_2, g_t_now_3, g_t_now_4, g_t_now_5, g_t_now_6, .int (wI c_now_bands), .ref a_t_now_carried, g_t_now_9, g_t_now_10, g_t_now_11, g_t_now_12, g_t_now_13, g_t_now_14, g_t_now_15, g_t_now_16])), (a_t_now_carried, .inl (cy 1, 4, .inl (aI c_now_carried))), (a_t_slots, .inl (cy 5, 4, .inr (.inr (.inr (.inr (selO [a_t_slotsE_0, a_t_slotsE_1, a_t_slotsE_2, a_t_slotsE_3])))))), (a_t_slotsE_0, .inr (5, [.int (wI (c_slotsE_held 0)), g_t_slotsE_1 0, .int (wI (c_slotsE_size 0)), .ref a_t_slotsE_numbers_0])), (a_t_slotsE_1, .inr (5, [.int (wI (c_slotsE_held 1)), g_t_slotsE_1 1, .int (wI (c_slotsE_size 1)), .ref a_t_slotsE_numbers_1])), (a_t_slotsE_2, .inr (5, [.int (wI (c_slotsE_held 2)), g_t_slotsE_1 2, .int (wI (c_slotsE_size 2)), .ref a_t_slotsE_numbers_2])), (a_t_slotsE_3, .inr (5, [.int (wI (c_slotsE_held 3)), g_t_slotsE_1 3, .int (wI (c_slotsE_size 3)), .ref a_t_slotsE_numbers_3])), (a_t_slotsE_numbers_0, .inl (cy 2, 60, .inr (.inl (aJ (c_slotsE_numbers 0))))), (a_t_slotsE_numbers_1, .inl (cy 2, 60, .inr (.inl (aJ (c_slotsE_numbers 1))))), (a_t_slotsE_numbers_2, .inl (cy 2, 60, .inr (.inl (aJ (c_slotsE_numbers 2))))), (a_t_slotsE_numbers_3, .inl (cy 2, 60, .inr (.inl (aJ (c_slotsE_numbers 3))))), (a_t_turning, .inr (7, [.int (wI c_turning_hours), .int (wI c_turning_least), .int (wI c_turning_turns), .ref a_t_turning_chosen, .int (wI c_turning_sets), .int (wI c_turning_cost), .ref a_t_turning_carriedBy, .ref a_t_turning_leftFrom])), (a_t_turning_carriedBy, .inl (cy 1, 16, .inl (aI c_turning_carriedBy))), (a_t_turning_chosen, .inl (cy 1, 30, .inl (aI c_turning_chosen))), (a_t_turning_leftFrom, .inl (cy 6, 30, .inr (.inr (.inr (.inr (selO [a_t_turning_leftFromE_0, a_t_turning_leftFromE_1, a_t_turning_leftFromE_2, a_t_turning_leftFromE_3, a_t_turning_leftFromE_4, a_t_turning_leftFromE_5, a_t_turning_leftFromE_6, a_t_turning_leftFromE_7, a_t_turning_leftFromE_8, a_t_turning_leftFromE_9, a_t_turning_leftFromE_10, a_t_turning_leftFromE_11, a_t_turning_leftFromE_12, a_t_turning_leftFromE_13, a_t_turning_leftFromE_14, a_t_turning_leftFromE_15, a_t_turning_leftFromE_16, a_t_turning_leftFromE_17, a_t_turning_leftFromE_18, a_t_turning_leftFromE_19, a_t_turning_leftFromE_20, a_t_turning_leftFromE_21, a_t_turning_leftFromE_22, a_t_turning_leftFromE_23, a_t_turning_leftFromE_24, a_t_turning_leftFromE_25, a_t_turning_leftFromE_26, a_t_turning_leftFromE_27, a_t_turning_leftFromE_28, a_t_turning_leftFromE_29])))))), (a_t_turning_leftFromE_0, .inl (cy 1, 16, .inl (aI (c_turning_leftFromE 0)))), (a_t_turning_leftFromE_1, .inl (cy 1, 16, .inl (aI (c_turning_leftFromE 1)))), (a_t_turning_leftFromE_2, .inl (cy 1, 16, .inl (aI (c_turning_leftFromE 2)))), (a_t_turning_leftFromE_3, .inl (cy 1, 16, .inl (aI (c_turning_leftFromE 3)))), (a_t_turning_leftFromE_4, .inl (cy 1, 16, .inl (aI (c_turning_leftFromE 4)))), (a_t_turning_leftFromE_5, .inl (cy 1, 16, .inl (aI (c_turning_leftFromE 5)))), (a_t_turning_leftFromE_6, .inl (cy 1, 16, .inl (aI (c_turning_leftFromE 6)))), (a_t_turning_leftFromE_7, .inl (cy 1, 16, .inl (aI (c_turning_leftFromE 7)))), (a_t_turning_leftFromE_8, .inl (cy 1, 16, .inl (aI (c_turning_leftFromE 8)))), (a_t_turning_leftFromE_9, .inl (cy 1, 16, .inl (aI (c_turning_leftFromE 9)))), (a_t_turning_leftFromE_10, .inl (cy 1, 16, .inl (aI (c_turning_leftFromE 10)))), (a_t_turning_leftFromE_11, .inl (cy 1, 16, .inl (aI (c_turning_leftFromE 11)))), (a_t_turning_leftFromE_12, .inl (cy 1, 16, .inl (aI (c_turning_leftFromE 12)))), (a_t_turning_leftFromE_13, .inl (cy 1, 16, .inl (aI (c_turning_leftFromE 13)))), (a_t_turning_leftFromE_14, .inl (cy 1, 16, .inl (aI (c_turning_leftFromE 14)))), (a_t_turning_leftFromE_15, .inl (cy 1, 16, .inl (aI (c_turning_leftFromE 15)))), (a_t_turning_leftFromE_16, .inl (cy 1, 16, .inl (aI (c_turning_leftFromE 16)))), (a_t_turning_leftFromE_17, .inl (cy 1, 16, .inl (aI (c_turning_leftFromE 17)))), (a_t_turning_leftFromE_18, .inl (cy 1, 16, .inl (aI (c_turning_leftFromE 18)))), (a_t_turning_leftFromE_19, .inl (cy 1, 16, .inl (aI (c_turning_leftFromE 19)))), (a_t_turning_leftFromE_20, .inl (cy 1, 16, .inl (aI (c_turning_leftFromE 20)))), (a_t_turning_leftFromE_21, .inl (cy 1, 16, .inl (aI (c_turning_leftFromE 21)))), (a_t_turning_leftFromE_22, .inl (cy 1, 16, .inl (aI (c_turning_leftFromE 22)))), (a_t_turning_leftFromE_23, .inl (cy 1, 16, .inl (aI (c_turning_leftFromE 23)))), (a_t_turning_leftFromE_24, .inl (cy 1, 16, .inl (aI (c_turning_leftFromE 24)))), (a_t_turning_leftFromE_25, .inl (cy 1, 16, .inl (aI (c_turning_leftFromE 25)))), (a_t_turning_leftFromE_26, .inl (cy 1, 16, .inl (aI (c_turning_leftFromE 26)))), (a_t_turning_leftFromE_27, .inl (cy 1, 16, .inl (aI (c_turning_leftFromE 27)))), (a_t_turning_leftFromE_28, .inl (cy 1, 16, .inl (aI (c_turning_leftFromE 28)))), (a_t_turning_leftFromE_29, .inl (cy 1, 16, .inl (aI (c_turning_leftFromE 29))))]
def m_X8_turned (F : Nat) (x1 : Int) (x2 : Int) (x3 : Int) (c_now_lines : Int) (c_now_bands : Int) (c_now_carried : Int → Int) (c_slotsE_held : Int → Int) (c_slotsE_size : Int → Int) (c_slotsE_numbers : Int → Int → Int) (c_turning_hours : Int) (c_turning_least : Int) (c_turning_turns : Int) (c_turning_sets : Int) (c_turning_cost : Int) (c_turning_carriedBy : Int → Int) (c_turning_chosen : Int → Int) (c_turning_leftFromE : Int → Int → Int) : Option (Int × Int × Int × Int × Int × Int × (Int → Int) × (Int → Int) × (Int → Int → Int)) :=
  bnd9 (m_X8_openTurning F x1 x2 c_now_lines c_now_bands c_now_carried c_slotsE_held c_slotsE_size c_slotsE_numbers c_turning_hours c_turning_least c_turning_turns c_turning_sets c_turning_cost c_turning_carriedBy c_turning_chosen c_turning_leftFromE) fun r1 o2 o3 o4 o5 o6 o7 o8 o9 => if wI r1 = wI 0 then
    (chk (r32 x3) <| chk (r32 (o2 - 1)) <| bnd1 (m_X8_isOut F x3 0 (o2 - 1)) fun r13 => if wI r13 = wI 0 then
    (chk (0 ≤ x3 ∧ x3 < 30) <| some (o8 x3, o2, o3, o4, o5, o6, o7, o8, o9))
  else
    (some ((-1), o2, o3, o4, o5, o6, o7, o8, o9)))
  else
    (some (r1, o2, o3, o4, o5, o6, o7, o8, o9))
section S_X8_turned
variable {E : EE} {a_t a_t_now a_t_now_carried a_t_slots a_t_slotsE_0 a_t_slotsE_1 a_t_slotsE_2 a_t_slotsE_3 a_t_slotsE_numbers_0 a_t_slotsE_numbers_1 a_t_slotsE_numbers_2 a_t_slotsE_numbers_3 a_t_turning a_t_turning_carriedBy a_t_turning_chosen a_t_turning_leftFrom a_t_turning_leftFromE_0 a_t_turning_leftFromE_1 a_t_turning_leftFromE_2 a_t_turning_leftFromE_3 a_t_turning_leftFromE_4 a_t_turning_leftFromE_5 a_t_turning_leftFromE_6 a_t_turning_leftFromE_7 a_t_turning_leftFromE_8 a_t_turning_leftFromE_9 a_t_turning_leftFromE_10 a_t_turning_leftFromE_11 a_t_turning_leftFromE_12 a_t_turning_leftFromE_13 a_t_turning_leftFromE_14 a_t_turning_leftFromE_15 a_t_turning_leftFromE_16 a_t_turning_leftFromE_17 a_t_turning_leftFromE_18 a_t_turning_leftFromE_19 a_t_turning_leftFromE_20 a_t_turning_leftFromE_21 a_t_turning_leftFromE_22 a_t_turning_leftFromE_23 a_t_turning_leftFromE_24 a_t_turning_leftFromE_25 a_t_turning_leftFromE_26 a_t_turning_leftFromE_27 a_t_turning_leftFromE_28 a_t_turning_leftFromE_29 : Nat} {g_t_0 : Value} {g_t_1 : Value} {g_t_2 : Value} {g_t_4 : Value} {g_t_5 : Value} {g_t_7 : Value} {g_t_8 : Value} {g_t_9 : Value} {g_t_10 : Value} {g_t_12 : Value} {g_t_13 : Value} {g_t_now_1 : Value} {g_t_now_2 : Value} {g_t_now_3 : Value} {g_t_now_4 : Value} {g_t_now_5 : Value} {g_t_now_6 : Value} {g_t_now_9 : Value} {g_t_now_10 : Value} {g_t_now_11 : Value} {g_t_now_12 : Value} {g_t_now_13 : Value} {g_t_now_14 : Value} {g_t_now_15 : Value} {g_t_now_16 : Value} {g_t_slotsE_1 : Nat → Value}
set_option maxRecDepth 100000 in
set_option maxHeartbeats 4000000 in
theorem wm_X8_turned {F : Nat} {v : Int × Int × Int × Int × Int × Int × (Int → Int) × (Int → Int) × (Int → Int → Int)} {x1 : Int} {x2 : Int} {x3 : Int} {c_now_lines : Int} {c_now_bands : Int} {c_now_carried : Int → Int} {c_slotsE_held : Int → Int} {c_slotsE_size : Int → Int} {c_slotsE_numbers : Int → Int → Int} {c_turning_hours : Int} {c_turning_least : Int} {c_turning_turns : Int} {c_turning_sets : Int} {c_turning_cost : Int} {c_turning_carriedBy : Int → Int} {c_turning_chosen : Int → Int} {c_turning_leftFromE : Int → Int → Int} (C : Cx E cX8_turned RX8 { frames := 6, cells := 0, slots := 0, locals := 141 }) (hN : eN E = 5) (h : m_X8_turned F x1 x2 x3 c_now_lines c_now_bands c_now_carried c_slotsE_held c_slotsE_size c_slotsE_numbers c_turning_hours c_turning_least c_turning_turns c_turning_sets c_turning_cost c_turning_carriedBy c_turning_chosen c_turning_leftFromE = some v) (hret : ∀ (pc : Nat) (L : List (Option Value)), decode cX8_turned pc = .ok (.ireturn, 1) → GG E 0 0 (W_X8_turned (eCy E) a_t a_t_now a_t_now_carried a_t_slots a_t_slotsE_0 a_t_slotsE_1 a_t_slotsE_2 a_t_slotsE_3 a_t_slotsE_numbers_0 a_t_slotsE_numbers_1 a_t_slotsE_numbers_2 a_t_slotsE_numbers_3 a_t_turning a_t_turning_carriedBy a_t_turning_chosen a_t_turning_leftFrom a_t_turning_leftFromE_0 a_t_turning_leftFromE_1 a_t_turning_leftFromE_2 a_t_turning_leftFromE_3 a_t_turning_leftFromE_4 a_t_turning_leftFromE_5 a_t_turning_leftFromE_6 a_t_turning_leftFromE_7 a_t_turning_leftFromE_8 a_t_turning_leftFromE_9 a_t_turning_leftFromE_10 a_t_turning_leftFromE_11 a_t_turning_leftFromE_12 a_t_turning_leftFromE_13 a_t_turning_leftFromE_14 a_t_turning_leftFromE_15 a_t_turning_leftFromE_16 a_t_turning_leftFromE_17 a_t_turning_leftFromE_18 a_t_turning_leftFromE_19 a_t_turning_leftFromE_20 a_t_turning_leftFromE_21 a_t_turning_leftFromE_22 a_t_turning_leftFromE_23 a_t_turning_leftFromE_24 a_t_turning_leftFromE_25 a_t_turning_leftFromE_26 a_t_turning_leftFromE_27 a_t_turning_leftFromE_28 a_t_turning_leftFromE_29 g_t_0 g_t_1 g_t_2 g_t_4 g_t_5 g_t_7 g_t_8 g_t_9 g_t_10 g_t_12 g_t_13 g_t_now_1 g_t_now_2 g_t_now_3 g_t_now_4 g_t_now_5 g_t_now_6 g_t_now_9 g_t_now_10 g_t_now_11 g_t_now_12 g_t_now_13 g_t_now_14 g_t_now_15 g_t_now_16 g_t_slotsE_1 c_now_lines c_now_bands c_now_carried c_slotsE_held c_slotsE_size c_slotsE_numbers (v.2.1) (v.2.2.1) (v.2.2.2.1) (v.2.2.2.2.1) (v.2.2.2.2.2.1) (v.2.2.2.2.2.2.1) (v.2.2.2.2.2.2.2.1) (v.2.2.2.2.2.2.2.2)) L pc [.int (wI (v.1))]) : GG E 0 0 (W_X8_turned (eCy E) a_t a_t_now a_t_now_carried a_t_slots a_t_slotsE_0 a_t_slotsE_1 a_t_slotsE_2 a_t_slotsE_3 a_t_slotsE_numbers_0 a_t_slotsE_numbers_1 a_t_slotsE_numbers_2 a_t_slotsE_numbers_3 a_t_turning a_t_turning_carriedBy a_t_turning_chosen a_t_turning_leftFrom a_t_turning_leftFromE_0 a_t_turning_leftFromE_1 a_t_turning_leftFromE_2 a_t_turning_leftFromE_3 a_t_turning_leftFromE_4 a_t_turning_leftFromE_5 a_t_turning_leftFromE_6 a_t_turning_leftFromE_7 a_t_turning_leftFromE_8 a_t_turning_leftFromE_9 a_t_turning_leftFromE_10 a_t_turning_leftFromE_11 a_t_turning_leftFromE_12 a_t_turning_leftFromE_13 a_t_turning_leftFromE_14 a_t_turning_leftFromE_15 a_t_turning_leftFromE_16 a_t_turning_leftFromE_17 a_t_turning_leftFromE_18 a_t_turning_leftFromE_19 a_t_turning_leftFromE_20 a_t_turning_leftFromE_21 a_t_turning_leftFromE_22 a_t_turning_leftFromE_23 a_t_turning_leftFromE_24 a_t_turning_leftFromE_25 a_t_turning_leftFromE_26 a_t_turning_leftFromE_27 a_t_turning_leftFromE_28 a_t_turning_leftFromE_29 g_t_0 g_t_1 g_t_2 g_t_4 g_t_5 g_t_7 g_t_8 g_t_9 g_t_10 g_t_12 g_t_13 g_t_now_1 g_t_now_2 g_t_now_3 g_t_now_4 g_t_now_5 g_t_now_6 g_t_now_9 g_t_now_10 g_t_now_11 g_t_now_12 g_t_now_13 g_t_now_14 g_t_now_15 g_t_now_16 g_t_slotsE_1 c_now_lines c_now_bands c_now_carried c_slotsE_held c_slotsE_size c_slotsE_numbers c_turning_hours c_turning_least c_turning_turns c_turning_sets c_turning_cost c_turning_carriedBy c_turning_chosen c_turning_leftFromE) [some (.ref a_t), some (.int (wI x1)), some (.int (wI x2)), some (.int (wI x3)), none] 0 [] := by
  unfold m_X8_turned at h
  refine g_aload_n 0 C dX8_turned_0 rfl rfl ?_
  refine g_iload_n 1 C dX8_turned_1 rfl rfl ?_
  refine g_iload_n 2 C dX8_turned_2 rfl rfl ?_
  obtain ⟨r1, o2, o3, o4, o5, o6, o7, o8, o9, hr10, h⟩ := bnd9_some h
  refine g_callI [0, 1, 2, 3, 4, 5, 6, 7, 8, 9, 10, 11, 12, 13, 14, 15, 16, 17, 18, 19, 20, 21, 22, 23, 24, 25, 26, 27, 28, 29, 30, 31, 32, 33, 34, 35, 36, 37, 38, 39, 40, 41, 42, 43, 44, 45] [] [0, 1, 2, 3, 4, 5, 6, 7, 8, 9, 10, 11, 12, 13, 14, 15, 16, 17, 18, 19, 20, 21, 22, 23, 24, 25, 26, 27, 28, 29, 30, 31, 32, 33, 34, 35, 36, 37, 38, 39, 40, 41, 42, 43, 44, 45] C mt_X8_381 (c_X8_openTurning _ _ _ _ a_t a_t_now a_t_now_carried a_t_slots a_t_slotsE_0 a_t_slotsE_1 a_t_slotsE_2 a_t_slotsE_3 a_t_slotsE_numbers_0 a_t_slotsE_numbers_1 a_t_slotsE_numbers_2 a_t_slotsE_numbers_3 a_t_turning a_t_turning_carriedBy a_t_turning_chosen a_t_turning_leftFrom a_t_turning_leftFromE_0 a_t_turning_leftFromE_1 a_t_turning_leftFromE_2 a_t_turning_leftFromE_3 a_t_turning_leftFromE_4 a_t_turning_leftFromE_5 a_t_turning_leftFromE_6 a_t_turning_leftFromE_7 a_t_turning_leftFromE_8 a_t_turning_leftFromE_9 a_t_turning_leftFromE_10 a_t_turning_leftFromE_11 a_t_turning_leftFromE_12 a_t_turning_leftFromE_13 a_t_turning_leftFromE_14 a_t_turning_leftFromE_15 a_t_turning_leftFromE_16 a_t_turning_leftFromE_17 a_t_turning_leftFromE_18 a_t_turning_leftFromE_19 a_t_turning_leftFromE_20 a_t_turning_leftFromE_21 a_t_turning_leftFromE_22 a_t_turning_leftFromE_23 a_t_turning_leftFromE_24 a_t_turning_leftFromE_25 a_t_turning_leftFromE_26 a_t_turning_leftFromE_27 a_t_turning_leftFromE_28 a_t_turning_leftFromE_29 (g_t_0) (g_t_1) (g_t_2) (g_t_4) (g_t_5) (g_t_7) (g_t_8) (g_t_9) (g_t_10) (g_t_12) (g_t_13) (g_t_now_1) (g_t_now_2) (g_t_now_3) (g_t_now_4) (g_t_now_5) (g_t_now_6) (g_t_now_9) (g_t_now_10) (g_t_now_11) (g_t_now_12) (g_t_now_13) (g_t_now_14) (g_t_now_15) (g_t_now_16) (selV [g_t_slotsE_1 0, g_t_slotsE_1 1, g_t_slotsE_1 2, g_t_slotsE_1 3]) x1 x2 c_now_lines c_now_bands c_now_carried c_slotsE_held c_slotsE_size c_slotsE_numbers c_turning_hours c_turning_least c_turning_turns c_turning_sets c_turning_cost c_turning_carriedBy c_turning_chosen c_turning_leftFromE F hr10) (q0 := 0) rfl (ci := 8) rfl rfl rfl (ws2 := (W_X8_turned (eCy E) a_t a_t_now a_t_now_carried a_t_slots a_t_slotsE_0 a_t_slotsE_1 a_t_slotsE_2 a_t_slotsE_3 a_t_slotsE_numbers_0 a_t_slotsE_numbers_1 a_t_slotsE_numbers_2 a_t_slotsE_numbers_3 a_t_turning a_t_turning_carriedBy a_t_turning_chosen a_t_turning_leftFrom a_t_turning_leftFromE_0 a_t_turning_leftFromE_1 a_t_turning_leftFromE_2 a_t_turning_leftFromE_3 a_t_turning_leftFromE_4 a_t_turning_leftFromE_5 a_t_turning_leftFromE_6 a_t_turning_leftFromE_7 a_t_turning_leftFromE_8 a_t_turning_leftFromE_9 a_t_turning_leftFromE_10 a_t_turning_leftFromE_11 a_t_turning_leftFromE_12 a_t_turning_leftFromE_13 a_t_turning_leftFromE_14 a_t_turning_leftFromE_15 a_t_turning_leftFromE_16 a_t_turning_leftFromE_17 a_t_turning_leftFromE_18 a_t_turning_leftFromE_19 a_t_turning_leftFromE_20 a_t_turning_leftFromE_21 a_t_turning_leftFromE_22 a_t_turning_leftFromE_23 a_t_turning_leftFromE_24 a_t_turning_leftFromE_25 a_t_turning_leftFromE_26 a_t_turning_leftFromE_27 a_t_turning_leftFromE_28 a_t_turning_leftFromE_29 g_t_0 g_t_1 g_t_2 g_t_4 g_t_5 g_t_7 g_t_8 g_t_9 g_t_10 g_t_12 g_t_13 g_t_now_1 g_t_now_2 g_t_now_3 g_t_now_4 g_t_now_5 g_t_now_6 g_t_now_9 g_t_now_10 g_t_now_11 g_t_now_12 g_t_now_13 g_t_now_14 g_t_now_15 g_t_now_16 g_t_slotsE_1 c_now_lines c_now_bands c_now_carried c_slotsE_held c_slotsE_size c_slotsE_numbers o2 o3 o4 o5 o6 o7 o8 o9)) rfl rfl rfl (rest := []) rfl rfl rfl dX8_turned_3 ?_
  refine g_istore C hN dX8_turned_6 rfl (L' := [some (.ref a_t), some (.int (wI x1)), some (.int (wI x2)), some (.int (wI x3)), some (.int (wI r1))]) rfl ?_
  refine g_iload C dX8_turned_8 rfl ?_
  refine g_if_eq 16 C dX8_turned_10 (by decide) h (fun h => ?_) (fun h => ?_)
  · refine g_iload_n 3 C dX8_turned_16 rfl rfl ?_
    obtain ⟨hc11, h⟩ := chk_some h
    refine g_i2l C dX8_turned_17 hc11 ?_
    refine g_lconst (x := 0) C dX8_turned_18 (by decide) ?_
    refine g_aload_n 0 C dX8_turned_19 rfl rfl ?_
    refine g_get C fg_X8_71 0 rfl rfl dX8_turned_20 ?_
    refine g_get C fg_X8_387 12 rfl rfl dX8_turned_23 ?_
    refine g_st (st' := [.int (wI o2), .long (wJ 0), .long (wJ x3)]) rfl ?_
    refine g_iconst C dX8_turned_26 ?_
    refine g_isub C dX8_turned_27 ?_
    obtain ⟨hc12, h⟩ := chk_some h
    refine g_i2l C dX8_turned_28 hc12 ?_
    obtain ⟨r13, hr14, h⟩ := bnd1_some h
    refine g_callSI [] [0, 1, 2, 3, 4, 5, 6, 7, 8, 9, 10, 11, 12, 13, 14, 15, 16, 17, 18, 19, 20, 21, 22, 23, 24, 25, 26, 27, 28, 29, 30, 31, 32, 33, 34, 35, 36, 37, 38, 39, 40, 41, 42, 43, 44, 45] [0, 1, 2, 3, 4, 5, 6, 7, 8, 9, 10, 11, 12, 13, 14, 15, 16, 17, 18, 19, 20, 21, 22, 23, 24, 25, 26, 27, 28, 29, 30, 31, 32, 33, 34, 35, 36, 37, 38, 39, 40, 41, 42, 43, 44, 45] C mt_X8_161 (c_X8_isOut _ _ _ _ x3 0 (o2 - 1) F hr14) rfl rfl (ws2 := (W_X8_turned (eCy E) a_t a_t_now a_t_now_carried a_t_slots a_t_slotsE_0 a_t_slotsE_1 a_t_slotsE_2 a_t_slotsE_3 a_t_slotsE_numbers_0 a_t_slotsE_numbers_1 a_t_slotsE_numbers_2 a_t_slotsE_numbers_3 a_t_turning a_t_turning_carriedBy a_t_turning_chosen a_t_turning_leftFrom a_t_turning_leftFromE_0 a_t_turning_leftFromE_1 a_t_turning_leftFromE_2 a_t_turning_leftFromE_3 a_t_turning_leftFromE_4 a_t_turning_leftFromE_5 a_t_turning_leftFromE_6 a_t_turning_leftFromE_7 a_t_turning_leftFromE_8 a_t_turning_leftFromE_9 a_t_turning_leftFromE_10 a_t_turning_leftFromE_11 a_t_turning_leftFromE_12 a_t_turning_leftFromE_13 a_t_turning_leftFromE_14 a_t_turning_leftFromE_15 a_t_turning_leftFromE_16 a_t_turning_leftFromE_17 a_t_turning_leftFromE_18 a_t_turning_leftFromE_19 a_t_turning_leftFromE_20 a_t_turning_leftFromE_21 a_t_turning_leftFromE_22 a_t_turning_leftFromE_23 a_t_turning_leftFromE_24 a_t_turning_leftFromE_25 a_t_turning_leftFromE_26 a_t_turning_leftFromE_27 a_t_turning_leftFromE_28 a_t_turning_leftFromE_29 g_t_0 g_t_1 g_t_2 g_t_4 g_t_5 g_t_7 g_t_8 g_t_9 g_t_10 g_t_12 g_t_13 g_t_now_1 g_t_now_2 g_t_now_3 g_t_now_4 g_t_now_5 g_t_now_6 g_t_now_9 g_t_now_10 g_t_now_11 g_t_now_12 g_t_now_13 g_t_now_14 g_t_now_15 g_t_now_16 g_t_slotsE_1 c_now_lines c_now_bands c_now_carried c_slotsE_held c_slotsE_size c_slotsE_numbers o2 o3 o4 o5 o6 o7 o8 o9)) rfl rfl rfl (rest := []) rfl rfl rfl dX8_turned_29 ?_
    refine g_if_eq 39 C dX8_turned_32 (by decide) h (fun h => ?_) (fun h => ?_)
    · refine g_aload_n 0 C dX8_turned_39 rfl rfl ?_
      refine g_get C fg_X8_71 0 rfl rfl dX8_turned_40 ?_
      refine g_get C fg_X8_390 12 rfl rfl dX8_turned_43 ?_
      refine g_iload_n 3 C dX8_turned_46 rfl rfl ?_
      obtain ⟨hc15, h⟩ := chk_some h
      refine g_iald C 14 rfl hc15 rfl dX8_turned_47 ?_
      cases h
      exact hret 48 _ dX8_turned_48
    · refine g_iconst C dX8_turned_35 ?_
      refine g_goto (tgt := 48) C dX8_turned_36 (by decide) ?_
      cases h
      exact hret 48 _ dX8_turned_48
  · refine g_iload C dX8_turned_13 rfl ?_
    cases h
    exact hret 15 _ dX8_turned_15
end S_X8_turned
set_option maxRecDepth 100000 in
set_option maxHeartbeats 4000000 in
theorem c_X8_turned (l : Launch) (D : va_G) (cy : Nat → ClassId) (ad : AD) (a_t a_t_now a_t_now_carried a_t_slots a_t_slotsE_0 a_t_slotsE_1 a_t_slotsE_2 a_t_slotsE_3 a_t_slotsE_numbers_0 a_t_slotsE_numbers_1 a_t_slotsE_numbers_2 a_t_slotsE_numbers_3 a_t_turning a_t_turning_carriedBy a_t_turning_chosen a_t_turning_leftFrom a_t_turning_leftFromE_0 a_t_turning_leftFromE_1 a_t_turning_leftFromE_2 a_t_turning_leftFromE_3 a_t_turning_leftFromE_4 a_t_turning_leftFromE_5 a_t_turning_leftFromE_6 a_t_turning_leftFromE_7 a_t_turning_leftFromE_8 a_t_turning_leftFromE_9 a_t_turning_leftFromE_10 a_t_turning_leftFromE_11 a_t_turning_leftFromE_12 a_t_turning_leftFromE_13 a_t_turning_leftFromE_14 a_t_turning_leftFromE_15 a_t_turning_leftFromE_16 a_t_turning_leftFromE_17 a_t_turning_leftFromE_18 a_t_turning_leftFromE_19 a_t_turning_leftFromE_20 a_t_turning_leftFromE_21 a_t_turning_leftFromE_22 a_t_turning_leftFromE_23 a_t_turning_leftFromE_24 a_t_turning_leftFromE_25 a_t_turning_leftFromE_26 a_t_turning_leftFromE_27 a_t_turning_leftFromE_28 a_t_turning_leftFromE_29 : Nat) (g_t_0 : Value) (g_t_1 : Value) (g_t_2 : Value) (g_t_4 : Value) (g_t_5 : Value) (g_t_7 : Value) (g_t_8 : Value) (g_t_9 : Value) (g_t_10 : Value) (g_t_12 : Value) (g_t_13 : Value) (g_t_now_1 : Value) (g_t_now_2 : Value) (g_t_now_3 : Value) (g_t_now_4 : Value) (g_t_now_5 : Value) (g_t_now_6 : Value) (g_t_now_9 : Value) (g_t_now_10 : Value) (g_t_now_11 : Value) (g_t_now_12 : Value) (g_t_now_13 : Value) (g_t_now_14 : Value) (g_t_now_15 : Value) (g_t_now_16 : Value) (g_t_slotsE_1 : Nat → Value) (x1 : Int) (x2 : Int) (x3 : Int) (c_now_lines : Int) (c_now_bands : Int) (c_now_carried : Int → Int) (c_slotsE_held : Int → Int) (c_slotsE_size : Int → Int) (c_slotsE_numbers : Int → Int → Int) (c_turning_hours : Int) (c_turning_least : Int) (c_turning_turns : Int) (c_turning_sets : Int) (c_turning_cost : Int) (c_turning_carriedBy : Int → Int) (c_turning_chosen : Int → Int) (c_turning_leftFromE : Int → Int → Int) (F : Nat) {v : Int × Int × Int × Int × Int × Int × (Int → Int) × (Int → Int) × (Int → Int → Int)} (h : m_X8_turned F x1 x2 x3 c_now_lines c_now_bands c_now_carried c_slotsE_held c_slotsE_size c_slotsE_numbers c_turning_hours c_turning_least c_turning_turns c_turning_sets c_turning_cost c_turning_carriedBy c_turning_chosen c_turning_leftFromE = some v) : Ct l yX8_turned cX8_turned 5 (some .int) { frames := 6, cells := 0, slots := 0, locals := 141 } D cy ad [.ref a_t, .int (wI x1), .int (wI x2), .int (wI x3)] (W_X8_turned cy a_t a_t_now a_t_now_carried a_t_slots a_t_slotsE_0 a_t_slotsE_1 a_t_slotsE_2 a_t_slotsE_3 a_t_slotsE_numbers_0 a_t_slotsE_numbers_1 a_t_slotsE_numbers_2 a_t_slotsE_numbers_3 a_t_turning a_t_turning_carriedBy a_t_turning_chosen a_t_turning_leftFrom a_t_turning_leftFromE_0 a_t_turning_leftFromE_1 a_t_turning_leftFromE_2 a_t_turning_leftFromE_3 a_t_turning_leftFromE_4 a_t_turning_leftFromE_5 a_t_turning_leftFromE_6 a_t_turning_leftFromE_7 a_t_turning_leftFromE_8 a_t_turning_leftFromE_9 a_t_turning_leftFromE_10 a_t_turning_leftFromE_11 a_t_turning_leftFromE_12 a_t_turning_leftFromE_13 a_t_turning_leftFromE_14 a_t_turning_leftFromE_15 a_t_turning_leftFromE_16 a_t_turning_leftFromE_17 a_t_turning_leftFromE_18 a_t_turning_leftFromE_19 a_t_turning_leftFromE_20 a_t_turning_leftFromE_21 a_t_turning_leftFromE_22 a_t_turning_leftFromE_23 a_t_turning_leftFromE_24 a_t_turning_leftFromE_25 a_t_turning_leftFromE_26 a_t_turning_leftFromE_27 a_t_turning_leftFromE_28 a_t_turning_leftFromE_29 g_t_0 g_t_1 g_t_2 g_t_4 g_t_5 g_t_7 g_t_8 g_t_9 g_t_10 g_t_12 g_t_13 g_t_now_1 g_t_now_2 g_t_now_3 g_t_now_4 g_t_now_5 g_t_now_6 g_t_now_9 g_t_now_10 g_t_now_11 g_t_now_12 g_t_now_13 g_t_now_14 g_t_now_15 g_t_now_16 g_t_slotsE_1 c_now_lines c_now_bands c_now_carried c_slotsE_held c_slotsE_size c_slotsE_numbers c_turning_hours c_turning_least c_turning_turns c_turning_sets c_turning_cost c_turning_carriedBy c_turning_chosen c_turning_leftFromE) (W_X8_turned cy a_t a_t_now a_t_now_carried a_t_slots a_t_slotsE_0 a_t_slotsE_1 a_t_slotsE_2 a_t_slotsE_3 a_t_slotsE_numbers_0 a_t_slotsE_numbers_1 a_t_slotsE_numbers_2 a_t_slotsE_numbers_3 a_t_turning a_t_turning_carriedBy a_t_turning_chosen a_t_turning_leftFrom a_t_turning_leftFromE_0 a_t_turning_leftFromE_1 a_t_turning_leftFromE_2 a_t_turning_leftFromE_3 a_t_turning_leftFromE_4 a_t_turning_leftFromE_5 a_t_turning_leftFromE_6 a_t_turning_leftFromE_7 a_t_turning_leftFromE_8 a_t_turning_leftFromE_9 a_t_turning_leftFromE_10 a_t_turning_leftFromE_11 a_t_turning_leftFromE_12 a_t_turning_leftFromE_13 a_t_turning_leftFromE_14 a_t_turning_leftFromE_15 a_t_turning_leftFromE_16 a_t_turning_leftFromE_17 a_t_turning_leftFromE_18 a_t_turning_leftFromE_19 a_t_turning_leftFromE_20 a_t_turning_leftFromE_21 a_t_turning_leftFromE_22 a_t_turning_leftFromE_23 a_t_turning_leftFromE_24 a_t_turning_leftFromE_25 a_t_turning_leftFromE_26 a_t_turning_leftFromE_27 a_t_turning_leftFromE_28 a_t_turning_leftFromE_29 g_t_0 g_t_1 g_t_2 g_t_4 g_t_5 g_t_7 g_t_8 g_t_9 g_t_10 g_t_12 g_t_13 g_t_now_1 g_t_now_2 g_t_now_3 g_t_now_4 g_t_now_5 g_t_now_6 g_t_now_9 g_t_now_10 g_t_now_11 g_t_now_12 g_t_now_13 g_t_now_14 g_t_now_15 g_t_now_16 g_t_slotsE_1 c_now_lines c_now_bands c_now_carried c_slotsE_held c_slotsE_size c_slotsE_numbers (v.2.1) (v.2.2.1) (v.2.2.2.1) (v.2.2.2.2.1) (v.2.2.2.2.2.1) (v.2.2.2.2.2.2.1) (v.2.2.2.2.2.2.2.1) (v.2.2.2.2.2.2.2.2)) (some (.int (wI (v.1)))) := by
  refine Ct.introI (j := 1) (plainFor_of_name (by decide)) rfl rfl (fun E C e1 e2 e3 e4 e5 hret => ?_)
  subst e1; subst e2; subst e3; subst e4
  exact wm_X8_turned C e5 h hret
-- MovingStair.turnings(II)I
def W_X8_turnings (cy : Nat → ClassId) (a_t a_t_now a_t_now_carried a_t_slots a_t_slotsE_0 a_t_slotsE_1 a_t_slotsE_2 a_t_slotsE_3 a_t_slotsE_numbers_0 a_t_slotsE_numbers_1 a_t_slotsE_numbers_2 a_t_slotsE_numbers_3 a_t_turning a_t_turning_carriedBy a_t_turning_chosen a_t_turning_leftFrom a_t_turning_leftFromE_0 a_t_turning_leftFromE_1 a_t_turning_leftFromE_2 a_t_turning_leftFromE_3 a_t_turning_leftFromE_4 a_t_turning_leftFromE_5 a_t_turning_leftFromE_6 a_t_turning_leftFromE_7 a_t_turning_leftFromE_8 a_t_turning_leftFromE_9 a_t_turning_leftFromE_10 a_t_turning_leftFromE_11 a_t_turning_leftFromE_12 a_t_turning_leftFromE_13 a_t_turning_leftFromE_14 a_t_turning_leftFromE_15 a_t_turning_leftFromE_16 a_t_turning_leftFromE_17 a_t_turning_leftFromE_18 a_t_turning_leftFromE_19 a_t_turning_leftFromE_20 a_t_turning_leftFromE_21 a_t_turning_leftFromE_22 a_t_turning_leftFromE_23 a_t_turning_leftFromE_24 a_t_turning_leftFromE_25 a_t_turning_leftFromE_26 a_t_turning_leftFromE_27 a_t_turning_leftFromE_28 a_t_turning_leftFromE_29 : Nat) (g_t_0 : Value) (g_t_1 : Value) (g_t_2 : Value) (g_t_4 : Value) (g_t_5 : Value) (g_t_7 : Value) (g_t_8 : Value) (g_t_9 : Value) (g_t_10 : Value) (g_t_12 : Value) (g_t_13 : Value) (g_t_now_1 : Value) (g_t_now_2 : Value) (g_t_now_3 : Value) (g_t_now_4 : Value) (g_t_now_5 : Value) (g_t_now_6 : Value) (g_t_now_9 : Value) (g_t_now_10 : Value) (g_t_now_11 : Value) (g_t_now_12 : Value) (g_t_now_13 : Value) (g_t_now_14 : Value) (g_t_now_15 : Value) (g_t_now_16 : Value) (g_t_slotsE_1 : Nat → Value) (c_now_lines : Int) (c_now_bands : Int) (c_now_carried : Int → Int) (c_slotsE_held : Int → Int) (c_slotsE_size : Int → Int) (c_slotsE_numbers : Int → Int → Int) (c_turning_hours : Int) (c_turning_least : Int) (c_turning_turns : Int) (c_turning_sets : Int) (c_turning_cost : Int) (c_turning_carriedBy : Int → Int) (c_turning_chosen : Int → Int) (c_turning_leftFromE : Int → Int → Int) : va_W := [(a_t, .inr (8, [g_t_0, g_t_1, g_t_2, .ref a_t_now, g_t_4, g_t_5, .ref a_t_slots, g_t_7, g_t_8, g_t_9, g_t_10, .ref a_t_turning, g_t_12, g_t_13])), (a_t_now, .inr (2, [.int (wI c_now_lines), g_t_now_1, g_t_now_2, g_t_now_3, g_t_now_4, g_t_now_5, g_t_now_6, .int (wI c_now_bands), .ref a_t_now_carried, g_t_now_9, g_t_now_10, g_t_now_11, g_t_now_12, g_t_now_13, g_t_now_14, g_t_now_15, g_t_now_16])), (a_t_now_carried, .inl (cy 1, 4, .inl (aI c_now_carried))), (a_t_slots, .inl (cy 5, 4, .inr (.inr (.inr (.inr (selO [a_t_slotsE_0, a_t_slotsE_1, a_t_slotsE_2, a_t_slotsE_3])))))), (a_t_slotsE_0, .inr (5, [.int (wI (c_slotsE_held 0)), g_t_slotsE_1 0, .int (wI (c_slotsE_size 0)), .ref a_t_slotsE_numbers_0])), (a_t_slotsE_1, .inr (5, [.int (wI (c_slotsE_held 1)), g_t_slotsE_1 1, .int (wI (c_slotsE_size 1)), .ref a_t_slotsE_numbers_1])), (a_t_slotsE_2, .inr (5, [.int (wI (c_slotsE_held 2)), g_t_slotsE_1 2, .int (wI (c_slotsE_size 2)), .ref a_t_slotsE_numbers_2])), (a_t_slotsE_3, .inr (5, [.int (wI (c_slotsE_held 3)), g_t_slotsE_1 3, .int (wI (c_slotsE_size 3)), .ref a_t_slotsE_numbers_3])), (a_t_slotsE_numbers_0, .inl (cy 2, 60, .inr (.inl (aJ (c_slotsE_numbers 0))))), (a_t_slotsE_numbers_1, .inl (cy 2, 60, .inr (.inl (aJ (c_slotsE_numbers 1))))), (a_t_slotsE_numbers_2, .inl (cy 2, 60, .inr (.inl (aJ (c_slotsE_numbers 2))))), (a_t_slotsE_numbers_3, .inl (cy 2, 60, .inr (.inl (aJ (c_slotsE_numbers 3))))), (a_t_turning, .inr (7, [.int (wI c_turning_hours), .int (wI c_turning_least), .int (wI c_turning_turns), .ref a_t_turning_chosen, .int (wI c_turning_sets), .int (wI c_turning_cost), .ref a_t_turning_carriedBy, .ref a_t_turning_leftFrom])), (a_t_turning_carriedBy, .inl (cy 1, 16, .inl (aI c_turning_carriedBy))), (a_t_turning_chosen, .inl (cy 1, 30, .inl (aI c_turning_chosen))), (a_t_turning_leftFrom, .inl (cy 6, 30, .inr (.inr (.inr (.inr (selO [a_t_turning_leftFromE_0, a_t_turning_leftFromE_1, a_t_turning_leftFromE_2, a_t_turning_leftFromE_3, a_t_turning_leftFromE_4, a_t_turning_leftFromE_5, a_t_turning_leftFromE_6, a_t_turning_leftFromE_7, a_t_turning_leftFromE_8, a_t_turning_leftFromE_9, a_t_turning_leftFromE_10, a_t_turning_leftFromE_11, a_t_turning_leftFromE_12, a_t_turning_leftFromE_13, a_t_turning_leftFromE_14, a_t_turning_leftFromE_15, a_t_turning_leftFromE_16, a_t_turning_leftFromE_17, a_t_turning_leftFromE_18, a_t_turning_leftFromE_19, a_t_turning_leftFromE_20, a_t_turning_leftFromE_21, a_t_turning_leftFromE_22, a_t_turning_leftFromE_23, a_t_turning_leftFromE_24, a_t_turning_leftFromE_25, a_t_turning_leftFromE_26, a_t_turning_leftFromE_27, a_t_turning_leftFromE_28, a_t_turning_leftFromE_29])))))), (a_t_turning_leftFromE_0, .inl (cy 1, 16, .inl (aI (c_turning_leftFromE 0)))), (a_t_turning_leftFromE_1, .inl (cy 1, 16, .inl (aI (c_turning_leftFromE 1)))), (a_t_turning_leftFromE_2, .inl (cy 1, 16, .inl (aI (c_turning_leftFromE 2)))), (a_t_turning_leftFromE_3, .inl (cy 1, 16, .inl (aI (c_turning_leftFromE 3)))), (a_t_turning_leftFromE_4, .inl (cy 1, 16, .inl (aI (c_turning_leftFromE 4)))), (a_t_turning_leftFromE_5, .inl (cy 1, 16, .inl (aI (c_turning_leftFromE 5)))), (a_t_turning_leftFromE_6, .inl (cy 1, 16, .inl (aI (c_turning_leftFromE 6)))), (a_t_turning_leftFromE_7, .inl (cy 1, 16, .inl (aI (c_turning_leftFromE 7)))), (a_t_turning_leftFromE_8, .inl (cy 1, 16, .inl (aI (c_turning_leftFromE 8)))), (a_t_turning_leftFromE_9, .inl (cy 1, 16, .inl (aI (c_turning_leftFromE 9)))), (a_t_turning_leftFromE_10, .inl (cy 1, 16, .inl (aI (c_turning_leftFromE 10)))), (a_t_turning_leftFromE_11, .inl (cy 1, 16, .inl (aI (c_turning_leftFromE 11)))), (a_t_turning_leftFromE_12, .inl (cy 1, 16, .inl (aI (c_turning_leftFromE 12)))), (a_t_turning_leftFromE_13, .inl (cy 1, 16, .inl (aI (c_turning_leftFromE 13)))), (a_t_turning_leftFromE_14, .inl (cy 1, 16, .inl (aI (c_turning_leftFromE 14)))), (a_t_turning_leftFromE_15, .inl (cy 1, 16, .inl (aI (c_turning_leftFromE 15)))), (a_t_turning_leftFromE_16, .inl (cy 1, 16, .inl (aI (c_turning_leftFromE 16)))), (a_t_turning_leftFromE_17, .inl (cy 1, 16, .inl (aI (c_turning_leftFromE 17)))), (a_t_turning_leftFromE_18, .inl (cy 1, 16, .inl (aI (c_turning_leftFromE 18)))), (a_t_turning_leftFromE_19, .inl (cy 1, 16, .inl (aI (c_turning_leftFromE 19)))), (a_t_turning_leftFromE_20, .inl (cy 1, 16, .inl (aI (c_turning_leftFromE 20)))), (a_t_turning_leftFromE_21, .inl (cy 1, 16, .inl (aI (c_turning_leftFromE 21)))), (a_t_turning_leftFromE_22, .inl (cy 1, 16, .inl (aI (c_turning_leftFromE 22)))), (a_t_turning_leftFromE_23, .inl (cy 1, 16, .inl (aI (c_turning_leftFromE 23)))), (a_t_turning_leftFromE_24, .inl (cy 1, 16, .inl (aI (c_turning_leftFromE 24)))), (a_t_turning_leftFromE_25, .inl (cy 1, 16, .inl (aI (c_turning_leftFromE 25)))), (a_t_turning_leftFromE_26, .inl (cy 1, 16, .inl (aI (c_turning_leftFromE 26)))), (a_t_turning_leftFromE_27, .inl (cy 1, 16, .inl (aI (c_turning_leftFromE 27)))), (a_t_turning_leftFromE_28, .inl (cy 1, 16, .inl (aI (c_turning_leftFromE 28)))), (a_t_turning_leftFromE_29, .inl (cy 1, 16, .inl (aI (c_turning_leftFromE 29))))]
def m_X8_turnings (F : Nat) (x1 : Int) (x2 : Int) (c_now_lines : Int) (c_now_bands : Int) (c_now_carried : Int → Int) (c_slotsE_held : Int → Int) (c_slotsE_size : Int → Int) (c_slotsE_numbers : Int → Int → Int) (c_turning_hours : Int) (c_turning_least : Int) (c_turning_turns : Int) (c_turning_sets : Int) (c_turning_cost : Int) (c_turning_carriedBy : Int → Int) (c_turning_chosen : Int → Int) (c_turning_leftFromE : Int → Int → Int) : Option (Int × Int × Int × Int × Int × Int × (Int → Int) × (Int → Int) × (Int → Int → Int)) :=
  bnd9 (m_X8_openTurning F x1 x2 c_now_lines c_now_bands c_now_carried c_slotsE_held c_slotsE_size c_slotsE_numbers c_turning_hours c_turning_least c_turning_turns c_turning_sets c_turning_cost c_turning_carriedBy c_turning_chosen c_turning_leftFromE) fun r1 o2 o3 o4 o5 o6 o7 o8 o9 => if wI r1 = wI 0 then
    (some (o4, o2, o3, o4, o5, o6, o7, o8, o9))
  else
    (some (r1, o2, o3, o4, o5, o6, o7, o8, o9))
section S_X8_turnings
variable {E : EE} {a_t a_t_now a_t_now_carried a_t_slots a_t_slotsE_0 a_t_slotsE_1 a_t_slotsE_2 a_t_slotsE_3 a_t_slotsE_numbers_0 a_t_slotsE_numbers_1 a_t_slotsE_numbers_2 a_t_slotsE_numbers_3 a_t_turning a_t_turning_carriedBy a_t_turning_chosen a_t_turning_leftFrom a_t_turning_leftFromE_0 a_t_turning_leftFromE_1 a_t_turning_leftFromE_2 a_t_turning_leftFromE_3 a_t_turning_leftFromE_4 a_t_turning_leftFromE_5 a_t_turning_leftFromE_6 a_t_turning_leftFromE_7 a_t_turning_leftFromE_8 a_t_turning_leftFromE_9 a_t_turning_leftFromE_10 a_t_turning_leftFromE_11 a_t_turning_leftFromE_12 a_t_turning_leftFromE_13 a_t_turning_leftFromE_14 a_t_turning_leftFromE_15 a_t_turning_leftFromE_16 a_t_turning_leftFromE_17 a_t_turning_leftFromE_18 a_t_turning_leftFromE_19 a_t_turning_leftFromE_20 a_t_turning_leftFromE_21 a_t_turning_leftFromE_22 a_t_turning_leftFromE_23 a_t_turning_leftFromE_24 a_t_turning_leftFromE_25 a_t_turning_leftFromE_26 a_t_turning_leftFromE_27 a_t_turning_leftFromE_28 a_t_turning_leftFromE_29 : Nat} {g_t_0 : Value} {g_t_1 : Value} {g_t_2 : Value} {g_t_4 : Value} {g_t_5 : Value} {g_t_7 : Value} {g_t_8 : Value} {g_t_9 : Value} {g_t_10 : Value} {g_t_12 : Value} {g_t_13 : Value} {g_t_now_1 : Value} {g_t_now_2 : Value} {g_t_now_3 : Value} {g_t_now_4 : Value} {g_t_now_5 : Value} {g_t_now_6 : Value} {g_t_now_9 : Value} {g_t_now_10 : Value} {g_t_now_11 : Value} {g_t_now_12 : Value} {g_t_now_13 : Value} {g_t_now_14 : Value} {g_t_now_15 : Value} {g_t_now_16 : Value} {g_t_slotsE_1 : Nat → Value}
set_option maxRecDepth 100000 in
set_option maxHeartbeats 4000000 in
theorem wm_X8_turnings {F : Nat} {v : Int × Int × Int × Int × Int × Int × (Int → Int) × (Int → Int) × (Int → Int → Int)} {x1 : Int} {x2 : Int} {c_now_lines : Int} {c_now_bands : Int} {c_now_carried : Int → Int} {c_slotsE_held : Int → Int} {c_slotsE_size : Int → Int} {c_slotsE_numbers : Int → Int → Int} {c_turning_hours : Int} {c_turning_least : Int} {c_turning_turns : Int} {c_turning_sets : Int} {c_turning_cost : Int} {c_turning_carriedBy : Int → Int} {c_turning_chosen : Int → Int} {c_turning_leftFromE : Int → Int → Int} (C : Cx E cX8_turnings RX8 { frames := 6, cells := 0, slots := 0, locals := 141 }) (hN : eN E = 4) (h : m_X8_turnings F x1 x2 c_now_lines c_now_bands c_now_carried c_slotsE_held c_slotsE_size c_slotsE_numbers c_turning_hours c_turning_least c_turning_turns c_turning_sets c_turning_cost c_turning_carriedBy c_turning_chosen c_turning_leftFromE = some v) (hret : ∀ (pc : Nat) (L : List (Option Value)), decode cX8_turnings pc = .ok (.ireturn, 1) → GG E 0 0 (W_X8_turnings (eCy E) a_t a_t_now a_t_now_carried a_t_slots a_t_slotsE_0 a_t_slotsE_1 a_t_slotsE_2 a_t_slotsE_3 a_t_slotsE_numbers_0 a_t_slotsE_numbers_1 a_t_slotsE_numbers_2 a_t_slotsE_numbers_3 a_t_turning a_t_turning_carriedBy a_t_turning_chosen a_t_turning_leftFrom a_t_turning_leftFromE_0 a_t_turning_leftFromE_1 a_t_turning_leftFromE_2 a_t_turning_leftFromE_3 a_t_turning_leftFromE_4 a_t_turning_leftFromE_5 a_t_turning_leftFromE_6 a_t_turning_leftFromE_7 a_t_turning_leftFromE_8 a_t_turning_leftFromE_9 a_t_turning_leftFromE_10 a_t_turning_leftFromE_11 a_t_turning_leftFromE_12 a_t_turning_leftFromE_13 a_t_turning_leftFromE_14 a_t_turning_leftFromE_15 a_t_turning_leftFromE_16 a_t_turning_leftFromE_17 a_t_turning_leftFromE_18 a_t_turning_leftFromE_19 a_t_turning_leftFromE_20 a_t_turning_leftFromE_21 a_t_turning_leftFromE_22 a_t_turning_leftFromE_23 a_t_turning_leftFromE_24 a_t_turning_leftFromE_25 a_t_turning_leftFromE_26 a_t_turning_leftFromE_27 a_t_turning_leftFromE_28 a_t_turning_leftFromE_29 g_t_0 g_t_1 g_t_2 g_t_4 g_t_5 g_t_7 g_t_8 g_t_9 g_t_10 g_t_12 g_t_13 g_t_now_1 g_t_now_2 g_t_now_3 g_t_now_4 g_t_now_5 g_t_now_6 g_t_now_9 g_t_now_10 g_t_now_11 g_t_now_12 g_t_now_13 g_t_now_14 g_t_now_15 g_t_now_16 g_t_slotsE_1 c_now_lines c_now_bands c_now_carried c_slotsE_held c_slotsE_size c_slotsE_numbers (v.2.1) (v.2.2.1) (v.2.2.2.1) (v.2.2.2.2.1) (v.2.2.2.2.2.1) (v.2.2.2.2.2.2.1) (v.2.2.2.2.2.2.2.1) (v.2.2.2.2.2.2.2.2)) L pc [.int (wI (v.1))]) : GG E 0 0 (W_X8_turnings (eCy E) a_t a_t_now a_t_now_carried a_t_slots a_t_slotsE_0 a_t_slotsE_1 a_t_slotsE_2 a_t_slotsE_3 a_t_slotsE_numbers_0 a_t_slotsE_numbers_1 a_t_slotsE_numbers_2 a_t_slotsE_numbers_3 a_t_turning a_t_turning_carriedBy a_t_turning_chosen a_t_turning_leftFrom a_t_turning_leftFromE_0 a_t_turning_leftFromE_1 a_t_turning_leftFromE_2 a_t_turning_leftFromE_3 a_t_turning_leftFromE_4 a_t_turning_leftFromE_5 a_t_turning_leftFromE_6 a_t_turning_leftFromE_7 a_t_turning_leftFromE_8 a_t_turning_leftFromE_9 a_t_turning_leftFromE_10 a_t_turning_leftFromE_11 a_t_turning_leftFromE_12 a_t_turning_leftFromE_13 a_t_turning_leftFromE_14 a_t_turning_leftFromE_15 a_t_turning_leftFromE_16 a_t_turning_leftFromE_17 a_t_turning_leftFromE_18 a_t_turning_leftFromE_19 a_t_turning_leftFromE_20 a_t_turning_leftFromE_21 a_t_turning_leftFromE_22 a_t_turning_leftFromE_23 a_t_turning_leftFromE_24 a_t_turning_leftFromE_25 a_t_turning_leftFromE_26 a_t_turning_leftFromE_27 a_t_turning_leftFromE_28 a_t_turning_leftFromE_29 g_t_0 g_t_1 g_t_2 g_t_4 g_t_5 g_t_7 g_t_8 g_t_9 g_t_10 g_t_12 g_t_13 g_t_now_1 g_t_now_2 g_t_now_3 g_t_now_4 g_t_now_5 g_t_now_6 g_t_now_9 g_t_now_10 g_t_now_11 g_t_now_12 g_t_now_13 g_t_now_14 g_t_now_15 g_t_now_16 g_t_slotsE_1 c_now_lines c_now_bands c_now_carried c_slotsE_held c_slotsE_size c_slotsE_numbers c_turning_hours c_turning_least c_turning_turns c_turning_sets c_turning_cost c_turning_carriedBy c_turning_chosen c_turning_leftFromE) [some (.ref a_t), some (.int (wI x1)), some (.int (wI x2)), none] 0 [] := by
  unfold m_X8_turnings at h
  refine g_aload_n 0 C dX8_turnings_0 rfl rfl ?_
  refine g_iload_n 1 C dX8_turnings_1 rfl rfl ?_
  refine g_iload_n 2 C dX8_turnings_2 rfl rfl ?_
  obtain ⟨r1, o2, o3, o4, o5, o6, o7, o8, o9, hr10, h⟩ := bnd9_some h
  refine g_callI [0, 1, 2, 3, 4, 5, 6, 7, 8, 9, 10, 11, 12, 13, 14, 15, 16, 17, 18, 19, 20, 21, 22, 23, 24, 25, 26, 27, 28, 29, 30, 31, 32, 33, 34, 35, 36, 37, 38, 39, 40, 41, 42, 43, 44, 45] [] [0, 1, 2, 3, 4, 5, 6, 7, 8, 9, 10, 11, 12, 13, 14, 15, 16, 17, 18, 19, 20, 21, 22, 23, 24, 25, 26, 27, 28, 29, 30, 31, 32, 33, 34, 35, 36, 37, 38, 39, 40, 41, 42, 43, 44, 45] C mt_X8_381 (c_X8_openTurning _ _ _ _ a_t a_t_now a_t_now_carried a_t_slots a_t_slotsE_0 a_t_slotsE_1 a_t_slotsE_2 a_t_slotsE_3 a_t_slotsE_numbers_0 a_t_slotsE_numbers_1 a_t_slotsE_numbers_2 a_t_slotsE_numbers_3 a_t_turning a_t_turning_carriedBy a_t_turning_chosen a_t_turning_leftFrom a_t_turning_leftFromE_0 a_t_turning_leftFromE_1 a_t_turning_leftFromE_2 a_t_turning_leftFromE_3 a_t_turning_leftFromE_4 a_t_turning_leftFromE_5 a_t_turning_leftFromE_6 a_t_turning_leftFromE_7 a_t_turning_leftFromE_8 a_t_turning_leftFromE_9 a_t_turning_leftFromE_10 a_t_turning_leftFromE_11 a_t_turning_leftFromE_12 a_t_turning_leftFromE_13 a_t_turning_leftFromE_14 a_t_turning_leftFromE_15 a_t_turning_leftFromE_16 a_t_turning_leftFromE_17 a_t_turning_leftFromE_18 a_t_turning_leftFromE_19 a_t_turning_leftFromE_20 a_t_turning_leftFromE_21 a_t_turning_leftFromE_22 a_t_turning_leftFromE_23 a_t_turning_leftFromE_24 a_t_turning_leftFromE_25 a_t_turning_leftFromE_26 a_t_turning_leftFromE_27 a_t_turning_leftFromE_28 a_t_turning_leftFromE_29 (g_t_0) (g_t_1) (g_t_2) (g_t_4) (g_t_5) (g_t_7) (g_t_8) (g_t_9) (g_t_10) (g_t_12) (g_t_13) (g_t_now_1) (g_t_now_2) (g_t_now_3) (g_t_now_4) (g_t_now_5) (g_t_now_6) (g_t_now_9) (g_t_now_10) (g_t_now_11) (g_t_now_12) (g_t_now_13) (g_t_now_14) (g_t_now_15) (g_t_now_16) (selV [g_t_slotsE_1 0, g_t_slotsE_1 1, g_t_slotsE_1 2, g_t_slotsE_1 3]) x1 x2 c_now_lines c_now_bands c_now_carried c_slotsE_held c_slotsE_size c_slotsE_numbers c_turning_hours c_turning_least c_turning_turns c_turning_sets c_turning_cost c_turning_carriedBy c_turning_chosen c_turning_leftFromE F hr10) (q0 := 0) rfl (ci := 8) rfl rfl rfl (ws2 := (W_X8_turnings (eCy E) a_t a_t_now a_t_now_carried a_t_slots a_t_slotsE_0 a_t_slotsE_1 a_t_slotsE_2 a_t_slotsE_3 a_t_slotsE_numbers_0 a_t_slotsE_numbers_1 a_t_slotsE_numbers_2 a_t_slotsE_numbers_3 a_t_turning a_t_turning_carriedBy a_t_turning_chosen a_t_turning_leftFrom a_t_turning_leftFromE_0 a_t_turning_leftFromE_1 a_t_turning_leftFromE_2 a_t_turning_leftFromE_3 a_t_turning_leftFromE_4 a_t_turning_leftFromE_5 a_t_turning_leftFromE_6 a_t_turning_leftFromE_7 a_t_turning_leftFromE_8 a_t_turning_leftFromE_9 a_t_turning_leftFromE_10 a_t_turning_leftFromE_11 a_t_turning_leftFromE_12 a_t_turning_leftFromE_13 a_t_turning_leftFromE_14 a_t_turning_leftFromE_15 a_t_turning_leftFromE_16 a_t_turning_leftFromE_17 a_t_turning_leftFromE_18 a_t_turning_leftFromE_19 a_t_turning_leftFromE_20 a_t_turning_leftFromE_21 a_t_turning_leftFromE_22 a_t_turning_leftFromE_23 a_t_turning_leftFromE_24 a_t_turning_leftFromE_25 a_t_turning_leftFromE_26 a_t_turning_leftFromE_27 a_t_turning_leftFromE_28 a_t_turning_leftFromE_29 g_t_0 g_t_1 g_t_2 g_t_4 g_t_5 g_t_7 g_t_8 g_t_9 g_t_10 g_t_12 g_t_13 g_t_now_1 g_t_now_2 g_t_now_3 g_t_now_4 g_t_now_5 g_t_now_6 g_t_now_9 g_t_now_10 g_t_now_11 g_t_now_12 g_t_now_13 g_t_now_14 g_t_now_15 g_t_now_16 g_t_slotsE_1 c_now_lines c_now_bands c_now_carried c_slotsE_held c_slotsE_size c_slotsE_numbers o2 o3 o4 o5 o6 o7 o8 o9)) rfl rfl rfl (rest := []) rfl rfl rfl dX8_turnings_3 ?_
  refine g_istore_n 3 C hN dX8_turnings_6 rfl rfl (L' := [some (.ref a_t), some (.int (wI x1)), some (.int (wI x2)), some (.int (wI r1))]) rfl ?_
  refine g_iload_n 3 C dX8_turnings_7 rfl rfl ?_
  refine g_if_ne 21 C dX8_turnings_8 (by decide) h (fun h => ?_) (fun h => ?_)
  · refine g_iload_n 3 C dX8_turnings_21 rfl rfl ?_
    cases h
    exact hret 22 _ dX8_turnings_22
  · refine g_aload_n 0 C dX8_turnings_11 rfl rfl ?_
    refine g_get C fg_X8_71 0 rfl rfl dX8_turnings_12 ?_
    refine g_get C fg_X8_393 12 rfl rfl dX8_turnings_15 ?_
    refine g_st (st' := [.int (wI o4)]) rfl ?_
    refine g_goto (tgt := 22) C dX8_turnings_18 (by decide) ?_
    cases h
    exact hret 22 _ dX8_turnings_22
end S_X8_turnings
set_option maxRecDepth 100000 in
set_option maxHeartbeats 4000000 in
theorem c_X8_turnings (l : Launch) (D : va_G) (cy : Nat → ClassId) (ad : AD) (a_t a_t_now a_t_now_carried a_t_slots a_t_slotsE_0 a_t_slotsE_1 a_t_slotsE_2 a_t_slotsE_3 a_t_slotsE_numbers_0 a_t_slotsE_numbers_1 a_t_slotsE_numbers_2 a_t_slotsE_numbers_3 a_t_turning a_t_turning_carriedBy a_t_turning_chosen a_t_turning_leftFrom a_t_turning_leftFromE_0 a_t_turning_leftFromE_1 a_t_turning_leftFromE_2 a_t_turning_leftFromE_3 a_t_turning_leftFromE_4 a_t_turning_leftFromE_5 a_t_turning_leftFromE_6 a_t_turning_leftFromE_7 a_t_turning_leftFromE_8 a_t_turning_leftFromE_9 a_t_turning_leftFromE_10 a_t_turning_leftFromE_11 a_t_turning_leftFromE_12 a_t_turning_leftFromE_13 a_t_turning_leftFromE_14 a_t_turning_leftFromE_15 a_t_turning_leftFromE_16 a_t_turning_leftFromE_17 a_t_turning_leftFromE_18 a_t_turning_leftFromE_19 a_t_turning_leftFromE_20 a_t_turning_leftFromE_21 a_t_turning_leftFromE_22 a_t_turning_leftFromE_23 a_t_turning_leftFromE_24 a_t_turning_leftFromE_25 a_t_turning_leftFromE_26 a_t_turning_leftFromE_27 a_t_turning_leftFromE_28 a_t_turning_leftFromE_29 : Nat) (g_t_0 : Value) (g_t_1 : Value) (g_t_2 : Value) (g_t_4 : Value) (g_t_5 : Value) (g_t_7 : Value) (g_t_8 : Value) (g_t_9 : Value) (g_t_10 : Value) (g_t_12 : Value) (g_t_13 : Value) (g_t_now_1 : Value) (g_t_now_2 : Value) (g_t_now_3 : Value) (g_t_now_4 : Value) (g_t_now_5 : Value) (g_t_now_6 : Value) (g_t_now_9 : Value) (g_t_now_10 : Value) (g_t_now_11 : Value) (g_t_now_12 : Value) (g_t_now_13 : Value) (g_t_now_14 : Value) (g_t_now_15 : Value) (g_t_now_16 : Value) (g_t_slotsE_1 : Nat → Value) (x1 : Int) (x2 : Int) (c_now_lines : Int) (c_now_bands : Int) (c_now_carried : Int → Int) (c_slotsE_held : Int → Int) (c_slotsE_size : Int → Int) (c_slotsE_numbers : Int → Int → Int) (c_turning_hours : Int) (c_turning_least : Int) (c_turning_turns : Int) (c_turning_sets : Int) (c_turning_cost : Int) (c_turning_carriedBy : Int → Int) (c_turning_chosen : Int → Int) (c_turning_leftFromE : Int → Int → Int) (F : Nat) {v : Int × Int × Int × Int × Int × Int × (Int → Int) × (Int → Int) × (Int → Int → Int)} (h : m_X8_turnings F x1 x2 c_now_lines c_now_bands c_now_carried c_slotsE_held c_slotsE_size c_slotsE_numbers c_turning_hours c_turning_least c_turning_turns c_turning_sets c_turning_cost c_turning_carriedBy c_turning_chosen c_turning_leftFromE = some v) : Ct l yX8_turnings cX8_turnings 4 (some .int) { frames := 6, cells := 0, slots := 0, locals := 141 } D cy ad [.ref a_t, .int (wI x1), .int (wI x2)] (W_X8_turnings cy a_t a_t_now a_t_now_carried a_t_slots a_t_slotsE_0 a_t_slotsE_1 a_t_slotsE_2 a_t_slotsE_3 a_t_slotsE_numbers_0 a_t_slotsE_numbers_1 a_t_slotsE_numbers_2 a_t_slotsE_numbers_3 a_t_turning a_t_turning_carriedBy a_t_turning_chosen a_t_turning_leftFrom a_t_turning_leftFromE_0 a_t_turning_leftFromE_1 a_t_turning_leftFromE_2 a_t_turning_leftFromE_3 a_t_turning_leftFromE_4 a_t_turning_leftFromE_5 a_t_turning_leftFromE_6 a_t_turning_leftFromE_7 a_t_turning_leftFromE_8 a_t_turning_leftFromE_9 a_t_turning_leftFromE_10 a_t_turning_leftFromE_11 a_t_turning_leftFromE_12 a_t_turning_leftFromE_13 a_t_turning_leftFromE_14 a_t_turning_leftFromE_15 a_t_turning_leftFromE_16 a_t_turning_leftFromE_17 a_t_turning_leftFromE_18 a_t_turning_leftFromE_19 a_t_turning_leftFromE_20 a_t_turning_leftFromE_21 a_t_turning_leftFromE_22 a_t_turning_leftFromE_23 a_t_turning_leftFromE_24 a_t_turning_leftFromE_25 a_t_turning_leftFromE_26 a_t_turning_leftFromE_27 a_t_turning_leftFromE_28 a_t_turning_leftFromE_29 g_t_0 g_t_1 g_t_2 g_t_4 g_t_5 g_t_7 g_t_8 g_t_9 g_t_10 g_t_12 g_t_13 g_t_now_1 g_t_now_2 g_t_now_3 g_t_now_4 g_t_now_5 g_t_now_6 g_t_now_9 g_t_now_10 g_t_now_11 g_t_now_12 g_t_now_13 g_t_now_14 g_t_now_15 g_t_now_16 g_t_slotsE_1 c_now_lines c_now_bands c_now_carried c_slotsE_held c_slotsE_size c_slotsE_numbers c_turning_hours c_turning_least c_turning_turns c_turning_sets c_turning_cost c_turning_carriedBy c_turning_chosen c_turning_leftFromE) (W_X8_turnings cy a_t a_t_now a_t_now_carried a_t_slots a_t_slotsE_0 a_t_slotsE_1 a_t_slotsE_2 a_t_slotsE_3 a_t_slotsE_numbers_0 a_t_slotsE_numbers_1 a_t_slotsE_numbers_2 a_t_slotsE_numbers_3 a_t_turning a_t_turning_carriedBy a_t_turning_chosen a_t_turning_leftFrom a_t_turning_leftFromE_0 a_t_turning_leftFromE_1 a_t_turning_leftFromE_2 a_t_turning_leftFromE_3 a_t_turning_leftFromE_4 a_t_turning_leftFromE_5 a_t_turning_leftFromE_6 a_t_turning_leftFromE_7 a_t_turning_leftFromE_8 a_t_turning_leftFromE_9 a_t_turning_leftFromE_10 a_t_turning_leftFromE_11 a_t_turning_leftFromE_12 a_t_turning_leftFromE_13 a_t_turning_leftFromE_14 a_t_turning_leftFromE_15 a_t_turning_leftFromE_16 a_t_turning_leftFromE_17 a_t_turning_leftFromE_18 a_t_turning_leftFromE_19 a_t_turning_leftFromE_20 a_t_turning_leftFromE_21 a_t_turning_leftFromE_22 a_t_turning_leftFromE_23 a_t_turning_leftFromE_24 a_t_turning_leftFromE_25 a_t_turning_leftFromE_26 a_t_turning_leftFromE_27 a_t_turning_leftFromE_28 a_t_turning_leftFromE_29 g_t_0 g_t_1 g_t_2 g_t_4 g_t_5 g_t_7 g_t_8 g_t_9 g_t_10 g_t_12 g_t_13 g_t_now_1 g_t_now_2 g_t_now_3 g_t_now_4 g_t_now_5 g_t_now_6 g_t_now_9 g_t_now_10 g_t_now_11 g_t_now_12 g_t_now_13 g_t_now_14 g_t_now_15 g_t_now_16 g_t_slotsE_1 c_now_lines c_now_bands c_now_carried c_slotsE_held c_slotsE_size c_slotsE_numbers (v.2.1) (v.2.2.1) (v.2.2.2.1) (v.2.2.2.2.1) (v.2.2.2.2.2.1) (v.2.2.2.2.2.2.1) (v.2.2.2.2.2.2.2.1) (v.2.2.2.2.2.2.2.2)) (some (.int (wI (v.1)))) := by
  refine Ct.introI (j := 1) (plainFor_of_name (by decide)) rfl rfl (fun E C e1 e2 e3 e4 e5 hret => ?_)
  subst e1; subst e2; subst e3; subst e4
  exact wm_X8_turnings C e5 h hret
-- MovingStair.isNoStream(III)Z
def W_X8_isNoStream (cy : Nat → ClassId) : va_W := []
def m_X8_isNoStream (F : Nat) (x0 : Int) (x1 : Int) (x2 : Int) : Option (Int) :=
  chk (r32 x0) <| bnd1 (m_X8_isOut F x0 1 999) fun r2 => if wI r2 = wI 0 then
    (chk (r32 x1) <| bnd1 (m_X8_isOut F x1 1 99) fun r5 => if wI r5 = wI 0 then
    (chk (r32 x2) <| bnd1 (m_X8_isOut F x2 0 99) fun r8 => if wI r8 = wI 0 then
    (some 0)
  else
    (some 1))
  else
    (some 1))
  else
    (some 1)
section S_X8_isNoStream
variable {E : EE}
set_option maxRecDepth 100000 in
set_option maxHeartbeats 4000000 in
theorem wm_X8_isNoStream {F : Nat} {v : Int} {x0 : Int} {x1 : Int} {x2 : Int} (C : Cx E cX8_isNoStream RX8 { frames := 1, cells := 0, slots := 0, locals := 25 }) (hN : eN E = 3) (h : m_X8_isNoStream F x0 x1 x2 = some v) (hret : ∀ (pc : Nat) (L : List (Option Value)), narrow .boolean (.int (wI v)) = .int (wI v) → decode cX8_isNoStream pc = .ok (.ireturn, 1) → GG E 0 0 (W_X8_isNoStream (eCy E)) L pc [.int (wI v)]) : GG E 0 0 (W_X8_isNoStream (eCy E)) [some (.int (wI x0)), some (.int (wI x1)), some (.int (wI x2))] 0 [] := by
  unfold m_X8_isNoStream at h
  refine g_iload_n 0 C dX8_isNoStream_0 rfl rfl ?_
  obtain ⟨hc1, h⟩ := chk_some h
  refine g_i2l C dX8_isNoStream_1 hc1 ?_
  refine g_lconst (x := 1) C dX8_isNoStream_2 (by decide) ?_
  refine g_ldc2 (v := 999) C mc_X8_349 dX8_isNoStream_3 ?_
  obtain ⟨r2, hr3, h⟩ := bnd1_some h
  refine g_callSI [] [] [] C mt_X8_161 (c_X8_isOut _ _ _ _ x0 1 999 F hr3) rfl rfl (ws2 := (W_X8_isNoStream (eCy E))) rfl rfl rfl (rest := []) rfl rfl rfl dX8_isNoStream_6 ?_
  refine g_if_ne 36 C dX8_isNoStream_9 (by decide) h (fun h => ?_) (fun h => ?_)
  · refine g_iconst C dX8_isNoStream_36 ?_
    refine g_goto (tgt := 41) C dX8_isNoStream_37 (by decide) ?_
    cases h
    exact hret 41 _ bn1 dX8_isNoStream_41
  · refine g_iload_n 1 C dX8_isNoStream_12 rfl rfl ?_
    obtain ⟨hc4, h⟩ := chk_some h
    refine g_i2l C dX8_isNoStream_13 hc4 ?_
    refine g_lconst (x := 1) C dX8_isNoStream_14 (by decide) ?_
    refine g_ldc2 (v := 99) C mc_X8_412 dX8_isNoStream_15 ?_
    obtain ⟨r5, hr6, h⟩ := bnd1_some h
    refine g_callSI [] [] [] C mt_X8_161 (c_X8_isOut _ _ _ _ x1 1 99 F hr6) rfl rfl (ws2 := (W_X8_isNoStream (eCy E))) rfl rfl rfl (rest := []) rfl rfl rfl dX8_isNoStream_18 ?_
    refine g_if_ne 36 C dX8_isNoStream_21 (by decide) h (fun h => ?_) (fun h => ?_)
    · refine g_iconst C dX8_isNoStream_36 ?_
      refine g_goto (tgt := 41) C dX8_isNoStream_37 (by decide) ?_
      cases h
      exact hret 41 _ bn1 dX8_isNoStream_41
    · refine g_iload_n 2 C dX8_isNoStream_24 rfl rfl ?_
      obtain ⟨hc7, h⟩ := chk_some h
      refine g_i2l C dX8_isNoStream_25 hc7 ?_
      refine g_lconst (x := 0) C dX8_isNoStream_26 (by decide) ?_
      refine g_ldc2 (v := 99) C mc_X8_412 dX8_isNoStream_27 ?_
      obtain ⟨r8, hr9, h⟩ := bnd1_some h
      refine g_callSI [] [] [] C mt_X8_161 (c_X8_isOut _ _ _ _ x2 0 99 F hr9) rfl rfl (ws2 := (W_X8_isNoStream (eCy E))) rfl rfl rfl (rest := []) rfl rfl rfl dX8_isNoStream_30 ?_
      refine g_if_eq 40 C dX8_isNoStream_33 (by decide) h (fun h => ?_) (fun h => ?_)
      · refine g_iconst C dX8_isNoStream_40 ?_
        cases h
        exact hret 41 _ bn0 dX8_isNoStream_41
      · refine g_iconst C dX8_isNoStream_36 ?_
        refine g_goto (tgt := 41) C dX8_isNoStream_37 (by decide) ?_
        cases h
        exact hret 41 _ bn1 dX8_isNoStream_41
end S_X8_isNoStream
set_option maxRecDepth 100000 in
set_option maxHeartbeats 4000000 in
theorem c_X8_isNoStream (l : Launch) (D : va_G) (cy : Nat → ClassId) (ad : AD) (x0 : Int) (x1 : Int) (x2 : Int) (F : Nat) {v : Int} (h : m_X8_isNoStream F x0 x1 x2 = some v) : Ct l yX8_isNoStream cX8_isNoStream 3 (some .boolean) { frames := 1, cells := 0, slots := 0, locals := 25 } D cy ad [.int (wI x0), .int (wI x1), .int (wI x2)] (W_X8_isNoStream cy) (W_X8_isNoStream cy) (some (.int (wI v))) := by
  refine Ct.introZ (j := 0) (plainFor_of_name (by decide)) rfl rfl (fun E C e1 e2 e3 e4 e5 hret => ?_)
  subst e1; subst e2; subst e3; subst e4
  exact wm_X8_isNoStream C e5 h hret
-- MovingStair.openStream(III)I
def W_X8_openStream (cy : Nat → ClassId) (a_t a_t_told : Nat) (g_t_0 : Value) (g_t_1 : Value) (g_t_2 : Value) (g_t_3 : Value) (g_t_4 : Value) (g_t_5 : Value) (g_t_6 : Value) (g_t_7 : Value) (g_t_8 : Value) (g_t_9 : Value) (g_t_10 : Value) (g_t_11 : Value) (g_t_13 : Value) (c_told_above : Int) (c_told_below : Int) : va_W := [(a_t, .inr (8, [g_t_0, g_t_1, g_t_2, g_t_3, g_t_4, g_t_5, g_t_6, g_t_7, g_t_8, g_t_9, g_t_10, g_t_11, .ref a_t_told, g_t_13])), (a_t_told, .inr (1, [.long (wJ c_told_above), .long (wJ c_told_below)]))]
def m_X8_openStream (F : Nat) (x1 : Int) (x2 : Int) (x3 : Int) (c_told_above : Int) (c_told_below : Int) : Option (Int × Int × Int) :=
  bnd1 (m_X8_isNoStream F x1 x2 x3) fun r1 => if wI r1 = wI 0 then
    (if wI x3 < wI x2 then
    (chk (r32 x1) <| chk (r32 (x2 + x3)) <| bnd2 (m_X1_put F x1 (x2 + x3)) fun o5 o6 => chk (r32 x1) <| chk (r32 (x2 - x3)) <| bnd2 (m_X1_add F x1 (x2 - x3) o5 o6) fun o10 o11 => some (0, o10, o11))
  else
    (some ((-1), c_told_above, c_told_below)))
  else
    (some ((-2), c_told_above, c_told_below))
section S_X8_openStream
variable {E : EE} {a_t a_t_told : Nat} {g_t_0 : Value} {g_t_1 : Value} {g_t_2 : Value} {g_t_3 : Value} {g_t_4 : Value} {g_t_5 : Value} {g_t_6 : Value} {g_t_7 : Value} {g_t_8 : Value} {g_t_9 : Value} {g_t_10 : Value} {g_t_11 : Value} {g_t_13 : Value}
set_option maxRecDepth 100000 in
set_option maxHeartbeats 4000000 in
theorem wm_X8_openStream {F : Nat} {v : Int × Int × Int} {x1 : Int} {x2 : Int} {x3 : Int} {c_told_above : Int} {c_told_below : Int} (C : Cx E cX8_openStream RX8 { frames := 2, cells := 0, slots := 0, locals := 55 }) (hN : eN E = 4) (h : m_X8_openStream F x1 x2 x3 c_told_above c_told_below = some v) (hret : ∀ (pc : Nat) (L : List (Option Value)), decode cX8_openStream pc = .ok (.ireturn, 1) → GG E 0 0 (W_X8_openStream (eCy E) a_t a_t_told g_t_0 g_t_1 g_t_2 g_t_3 g_t_4 g_t_5 g_t_6 g_t_7 g_t_8 g_t_9 g_t_10 g_t_11 g_t_13 (v.2.1) (v.2.2)) L pc [.int (wI (v.1))]) : GG E 0 0 (W_X8_openStream (eCy E) a_t a_t_told g_t_0 g_t_1 g_t_2 g_t_3 g_t_4 g_t_5 g_t_6 g_t_7 g_t_8 g_t_9 g_t_10 g_t_11 g_t_13 c_told_above c_told_below) [some (.ref a_t), some (.int (wI x1)), some (.int (wI x2)), some (.int (wI x3))] 0 [] := by
  unfold m_X8_openStream at h
  refine g_iload_n 1 C dX8_openStream_0 rfl rfl ?_
  refine g_iload_n 2 C dX8_openStream_1 rfl rfl ?_
  refine g_iload_n 3 C dX8_openStream_2 rfl rfl ?_
  obtain ⟨r1, hr2, h⟩ := bnd1_some h
  refine g_callSI [] [0, 1] [0, 1] C mt_X8_407 (c_X8_isNoStream _ _ _ _ x1 x2 x3 F hr2) rfl rfl (ws2 := (W_X8_openStream (eCy E) a_t a_t_told g_t_0 g_t_1 g_t_2 g_t_3 g_t_4 g_t_5 g_t_6 g_t_7 g_t_8 g_t_9 g_t_10 g_t_11 g_t_13 c_told_above c_told_below)) rfl rfl rfl (rest := []) rfl rfl rfl dX8_openStream_3 ?_
  refine g_if_eq 12 C dX8_openStream_6 (by decide) h (fun h => ?_) (fun h => ?_)
  · refine g_iload_n 2 C dX8_openStream_12 rfl rfl ?_
    refine g_iload_n 3 C dX8_openStream_13 rfl rfl ?_
    refine g_icmp_gt 19 C dX8_openStream_14 (by decide) h (fun h => ?_) (fun h => ?_)
    · refine g_aload_n 0 C dX8_openStream_19 rfl rfl ?_
      refine g_get C fg_X8_78 0 rfl rfl dX8_openStream_20 ?_
      refine g_iload_n 1 C dX8_openStream_23 rfl rfl ?_
      obtain ⟨hc3, h⟩ := chk_some h
      refine g_i2l C dX8_openStream_24 hc3 ?_
      refine g_iload_n 2 C dX8_openStream_25 rfl rfl ?_
      refine g_iload_n 3 C dX8_openStream_26 rfl rfl ?_
      refine g_iadd C dX8_openStream_27 ?_
      obtain ⟨hc4, h⟩ := chk_some h
      refine g_i2l C dX8_openStream_28 hc4 ?_
      obtain ⟨o5, o6, hr7, h⟩ := bnd2_some h
      refine g_callV [1] [0] [0, 1] C mt_X8_148 (c_X1_put _ _ _ _ a_t_told x1 (x2 + x3) c_told_above c_told_below F hr7) (q0 := 0) rfl (ci := 1) rfl rfl rfl (ws2 := (W_X8_openStream (eCy E) a_t a_t_told g_t_0 g_t_1 g_t_2 g_t_3 g_t_4 g_t_5 g_t_6 g_t_7 g_t_8 g_t_9 g_t_10 g_t_11 g_t_13 o5 o6)) rfl rfl rfl (rest := []) rfl rfl rfl dX8_openStream_29 ?_
      refine g_aload_n 0 C dX8_openStream_32 rfl rfl ?_
      refine g_get C fg_X8_78 0 rfl rfl dX8_openStream_33 ?_
      refine g_iload_n 1 C dX8_openStream_36 rfl rfl ?_
      obtain ⟨hc8, h⟩ := chk_some h
      refine g_i2l C dX8_openStream_37 hc8 ?_
      refine g_iload_n 2 C dX8_openStream_38 rfl rfl ?_
      refine g_iload_n 3 C dX8_openStream_39 rfl rfl ?_
      refine g_isub C dX8_openStream_40 ?_
      obtain ⟨hc9, h⟩ := chk_some h
      refine g_i2l C dX8_openStream_41 hc9 ?_
      obtain ⟨o10, o11, hr12, h⟩ := bnd2_some h
      refine g_callV [1] [0] [0, 1] C mt_X8_194 (c_X1_add _ _ _ _ a_t_told x1 (x2 - x3) o5 o6 F hr12) (q0 := 0) rfl (ci := 1) rfl rfl rfl (ws2 := (W_X8_openStream (eCy E) a_t a_t_told g_t_0 g_t_1 g_t_2 g_t_3 g_t_4 g_t_5 g_t_6 g_t_7 g_t_8 g_t_9 g_t_10 g_t_11 g_t_13 o10 o11)) rfl rfl rfl (rest := []) rfl rfl rfl dX8_openStream_42 ?_
      refine g_iconst C dX8_openStream_45 ?_
      cases h
      exact hret 46 _ dX8_openStream_46
    · refine g_iconst C dX8_openStream_17 ?_
      cases h
      exact hret 18 _ dX8_openStream_18
  · refine g_bipush C dX8_openStream_9 (by decide) ?_
    cases h
    exact hret 11 _ dX8_openStream_11
end S_X8_openStream
set_option maxRecDepth 100000 in
set_option maxHeartbeats 4000000 in
theorem c_X8_openStream (l : Launch) (D : va_G) (cy : Nat → ClassId) (ad : AD) (a_t a_t_told : Nat) (g_t_0 : Value) (g_t_1 : Value) (g_t_2 : Value) (g_t_3 : Value) (g_t_4 : Value) (g_t_5 : Value) (g_t_6 : Value) (g_t_7 : Value) (g_t_8 : Value) (g_t_9 : Value) (g_t_10 : Value) (g_t_11 : Value) (g_t_13 : Value) (x1 : Int) (x2 : Int) (x3 : Int) (c_told_above : Int) (c_told_below : Int) (F : Nat) {v : Int × Int × Int} (h : m_X8_openStream F x1 x2 x3 c_told_above c_told_below = some v) : Ct l yX8_openStream cX8_openStream 4 (some .int) { frames := 2, cells := 0, slots := 0, locals := 55 } D cy ad [.ref a_t, .int (wI x1), .int (wI x2), .int (wI x3)] (W_X8_openStream cy a_t a_t_told g_t_0 g_t_1 g_t_2 g_t_3 g_t_4 g_t_5 g_t_6 g_t_7 g_t_8 g_t_9 g_t_10 g_t_11 g_t_13 c_told_above c_told_below) (W_X8_openStream cy a_t a_t_told g_t_0 g_t_1 g_t_2 g_t_3 g_t_4 g_t_5 g_t_6 g_t_7 g_t_8 g_t_9 g_t_10 g_t_11 g_t_13 (v.2.1) (v.2.2)) (some (.int (wI (v.1)))) := by
  refine Ct.introI (j := 0) (plainFor_of_name (by decide)) rfl rfl (fun E C e1 e2 e3 e4 e5 hret => ?_)
  subst e1; subst e2; subst e3; subst e4
  exact wm_X8_openStream C e5 h hret
-- MovingStair.stream(IIII)J
def W_X8_stream (cy : Nat → ClassId) (a_t a_t_told : Nat) (g_t_0 : Value) (g_t_1 : Value) (g_t_2 : Value) (g_t_3 : Value) (g_t_4 : Value) (g_t_5 : Value) (g_t_6 : Value) (g_t_7 : Value) (g_t_8 : Value) (g_t_9 : Value) (g_t_10 : Value) (g_t_11 : Value) (g_t_13 : Value) (c_told_above : Int) (c_told_below : Int) : va_W := [(a_t, .inr (8, [g_t_0, g_t_1, g_t_2, g_t_3, g_t_4, g_t_5, g_t_6, g_t_7, g_t_8, g_t_9, g_t_10, g_t_11, .ref a_t_told, g_t_13])), (a_t_told, .inr (1, [.long (wJ c_told_above), .long (wJ c_told_below)]))]
def mb_X8_stream_20 (F : Nat) (x4 : Int) (s0 : Int) (c_told_above : Int) (c_told_below : Int) : Option (Int × Int × Int) :=
  if wI s0 = wI 0 then
    (bnd1 (m_X1_side F x4 c_told_above c_told_below) fun r1 => some (r1, c_told_above, c_told_below))
  else
    (chk (r32 s0) <| some (s0, c_told_above, c_told_below))
def m_X8_stream (F : Nat) (x1 : Int) (x2 : Int) (x3 : Int) (x4 : Int) (c_told_above : Int) (c_told_below : Int) : Option (Int × Int × Int) :=
  bnd1 (m_X8_isSide F x4) fun r1 => if wI r1 = wI 0 then
    (mb_X8_stream_20 F x4 (-2) c_told_above c_told_below)
  else
    (bnd3 (m_X8_openStream F x1 x2 x3 c_told_above c_told_below) fun r3 o4 o5 => mb_X8_stream_20 F x4 r3 o4 o5)
section S_X8_stream
variable {E : EE} {a_t a_t_told : Nat} {g_t_0 : Value} {g_t_1 : Value} {g_t_2 : Value} {g_t_3 : Value} {g_t_4 : Value} {g_t_5 : Value} {g_t_6 : Value} {g_t_7 : Value} {g_t_8 : Value} {g_t_9 : Value} {g_t_10 : Value} {g_t_11 : Value} {g_t_13 : Value}
set_option maxRecDepth 100000 in
set_option maxHeartbeats 4000000 in
theorem wb_X8_stream_20 {F : Nat} {v : Int × Int × Int} {x4 : Int} {s0 : Int} {c_told_above : Int} {c_told_below : Int} (C : Cx E cX8_stream RX8 { frames := 3, cells := 0, slots := 0, locals := 78 }) (hN : eN E = 6) (h : mb_X8_stream_20 F x4 s0 c_told_above c_told_below = some v) (hret : ∀ (pc : Nat) (L : List (Option Value)), decode cX8_stream pc = .ok (.lreturn, 1) → GG E 0 0 (W_X8_stream (eCy E) a_t a_t_told g_t_0 g_t_1 g_t_2 g_t_3 g_t_4 g_t_5 g_t_6 g_t_7 g_t_8 g_t_9 g_t_10 g_t_11 g_t_13 (v.2.1) (v.2.2)) L pc [.long (wJ (v.1))]) : GG E 0 0 (W_X8_stream (eCy E) a_t a_t_told g_t_0 g_t_1 g_t_2 g_t_3 g_t_4 g_t_5 g_t_6 g_t_7 g_t_8 g_t_9 g_t_10 g_t_11 g_t_13 c_told_above c_told_below) [some (.ref a_t), none, none, none, some (.int (wI x4)), none] 20 [.int (wI s0)] := by
  unfold mb_X8_stream_20 at h
  refine g_istore C hN dX8_stream_20 rfl (L' := [some (.ref a_t), none, none, none, some (.int (wI x4)), some (.int (wI s0))]) rfl ?_
  refine g_iload C dX8_stream_22 rfl ?_
  refine g_if_ne 39 C dX8_stream_24 (by decide) h (fun h => ?_) (fun h => ?_)
  · refine g_iload C dX8_stream_39 rfl ?_
    obtain ⟨hc1, h⟩ := chk_some h
    refine g_i2l C dX8_stream_41 hc1 ?_
    cases h
    exact hret 42 _ dX8_stream_42
  · refine g_aload_n 0 C dX8_stream_27 rfl rfl ?_
    refine g_get C fg_X8_78 0 rfl rfl dX8_stream_28 ?_
    refine g_iload C dX8_stream_31 rfl ?_
    obtain ⟨r1, hr2, h⟩ := bnd1_some h
    refine g_callJ [1] [0] [0, 1] C mt_X8_142 (c_X1_side _ _ _ _ a_t_told x4 c_told_above c_told_below F hr2) (q0 := 0) rfl (ci := 1) rfl rfl rfl (ws2 := (W_X8_stream (eCy E) a_t a_t_told g_t_0 g_t_1 g_t_2 g_t_3 g_t_4 g_t_5 g_t_6 g_t_7 g_t_8 g_t_9 g_t_10 g_t_11 g_t_13 c_told_above c_told_below)) rfl rfl rfl (rest := []) rfl rfl rfl dX8_stream_33 ?_
    refine g_goto (tgt := 42) C dX8_stream_36 (by decide) ?_
    cases h
    exact hret 42 _ dX8_stream_42
set_option maxRecDepth 100000 in
set_option maxHeartbeats 4000000 in
theorem wm_X8_stream {F : Nat} {v : Int × Int × Int} {x1 : Int} {x2 : Int} {x3 : Int} {x4 : Int} {c_told_above : Int} {c_told_below : Int} (C : Cx E cX8_stream RX8 { frames := 3, cells := 0, slots := 0, locals := 78 }) (hN : eN E = 6) (h : m_X8_stream F x1 x2 x3 x4 c_told_above c_told_below = some v) (hret : ∀ (pc : Nat) (L : List (Option Value)), decode cX8_stream pc = .ok (.lreturn, 1) → GG E 0 0 (W_X8_stream (eCy E) a_t a_t_told g_t_0 g_t_1 g_t_2 g_t_3 g_t_4 g_t_5 g_t_6 g_t_7 g_t_8 g_t_9 g_t_10 g_t_11 g_t_13 (v.2.1) (v.2.2)) L pc [.long (wJ (v.1))]) : GG E 0 0 (W_X8_stream (eCy E) a_t a_t_told g_t_0 g_t_1 g_t_2 g_t_3 g_t_4 g_t_5 g_t_6 g_t_7 g_t_8 g_t_9 g_t_10 g_t_11 g_t_13 c_told_above c_told_below) [some (.ref a_t), some (.int (wI x1)), some (.int (wI x2)), some (.int (wI x3)), some (.int (wI x4)), none] 0 [] := by
  unfold m_X8_stream at h
  refine g_iload C dX8_stream_0 rfl ?_
  obtain ⟨r1, hr2, h⟩ := bnd1_some h
  refine g_callSI [] [0, 1] [0, 1] C mt_X8_117 (c_X8_isSide _ _ _ _ x4 F hr2) rfl rfl (ws2 := (W_X8_stream (eCy E) a_t a_t_told g_t_0 g_t_1 g_t_2 g_t_3 g_t_4 g_t_5 g_t_6 g_t_7 g_t_8 g_t_9 g_t_10 g_t_11 g_t_13 c_told_above c_told_below)) rfl rfl rfl (rest := []) rfl rfl rfl dX8_stream_2 ?_
  refine g_if_eq 18 C dX8_stream_5 (by decide) h (fun h => ?_) (fun h => ?_)
  · refine g_bipush C dX8_stream_18 (by decide) ?_
    refine g_mask [true, false, false, false, true, false] (L' := [some (.ref a_t), none, none, none, some (.int (wI x4)), none]) rfl ?_
    exact wb_X8_stream_20 C hN h hret
  · refine g_aload_n 0 C dX8_stream_8 rfl rfl ?_
    refine g_iload_n 1 C dX8_stream_9 rfl rfl ?_
    refine g_iload_n 2 C dX8_stream_10 rfl rfl ?_
    refine g_iload_n 3 C dX8_stream_11 rfl rfl ?_
    obtain ⟨r3, o4, o5, hr6, h⟩ := bnd3_some h
    refine g_callI [0, 1] [] [0, 1] C mt_X8_402 (c_X8_openStream _ _ _ _ a_t a_t_told (g_t_0) (g_t_1) (g_t_2) (g_t_3) (g_t_4) (g_t_5) (g_t_6) (g_t_7) (g_t_8) (g_t_9) (g_t_10) (g_t_11) (g_t_13) x1 x2 x3 c_told_above c_told_below F hr6) (q0 := 0) rfl (ci := 8) rfl rfl rfl (ws2 := (W_X8_stream (eCy E) a_t a_t_told g_t_0 g_t_1 g_t_2 g_t_3 g_t_4 g_t_5 g_t_6 g_t_7 g_t_8 g_t_9 g_t_10 g_t_11 g_t_13 o4 o5)) rfl rfl rfl (rest := []) rfl rfl rfl dX8_stream_12 ?_
    refine g_goto (tgt := 20) C dX8_stream_15 (by decide) ?_
    refine g_mask [true, false, false, false, true, false] (L' := [some (.ref a_t), none, none, none, some (.int (wI x4)), none]) rfl ?_
    exact wb_X8_stream_20 C hN h hret
end S_X8_stream
set_option maxRecDepth 100000 in
set_option maxHeartbeats 4000000 in
theorem c_X8_stream (l : Launch) (D : va_G) (cy : Nat → ClassId) (ad : AD) (a_t a_t_told : Nat) (g_t_0 : Value) (g_t_1 : Value) (g_t_2 : Value) (g_t_3 : Value) (g_t_4 : Value) (g_t_5 : Value) (g_t_6 : Value) (g_t_7 : Value) (g_t_8 : Value) (g_t_9 : Value) (g_t_10 : Value) (g_t_11 : Value) (g_t_13 : Value) (x1 : Int) (x2 : Int) (x3 : Int) (x4 : Int) (c_told_above : Int) (c_told_below : Int) (F : Nat) {v : Int × Int × Int} (h : m_X8_stream F x1 x2 x3 x4 c_told_above c_told_below = some v) : Ct l yX8_stream cX8_stream 6 (some .long) { frames := 3, cells := 0, slots := 0, locals := 78 } D cy ad [.ref a_t, .int (wI x1), .int (wI x2), .int (wI x3), .int (wI x4)] (W_X8_stream cy a_t a_t_told g_t_0 g_t_1 g_t_2 g_t_3 g_t_4 g_t_5 g_t_6 g_t_7 g_t_8 g_t_9 g_t_10 g_t_11 g_t_13 c_told_above c_told_below) (W_X8_stream cy a_t a_t_told g_t_0 g_t_1 g_t_2 g_t_3 g_t_4 g_t_5 g_t_6 g_t_7 g_t_8 g_t_9 g_t_10 g_t_11 g_t_13 (v.2.1) (v.2.2)) (some (.long (wJ (v.1)))) := by
  refine Ct.introJ (j := 1) (plainFor_of_name (by decide)) rfl rfl (fun E C e1 e2 e3 e4 e5 hret => ?_)
  subst e1; subst e2; subst e3; subst e4
  exact wm_X8_stream C e5 h hret
-- MovingStair.still(IIII)J
def W_X8_still (cy : Nat → ClassId) (a_t a_t_told : Nat) (g_t_0 : Value) (g_t_1 : Value) (g_t_2 : Value) (g_t_3 : Value) (g_t_4 : Value) (g_t_5 : Value) (g_t_6 : Value) (g_t_7 : Value) (g_t_8 : Value) (g_t_9 : Value) (g_t_10 : Value) (g_t_11 : Value) (g_t_13 : Value) (c_told_above : Int) (c_told_below : Int) : va_W := [(a_t, .inr (8, [g_t_0, g_t_1, g_t_2, g_t_3, g_t_4, g_t_5, g_t_6, g_t_7, g_t_8, g_t_9, g_t_10, g_t_11, .ref a_t_told, g_t_13])), (a_t_told, .inr (1, [.long (wJ c_told_above), .long (wJ c_told_below)]))]
def mb_X8_still_20 (F : Nat) (x1 : Int) (x4 : Int) (s0 : Int) (c_told_above : Int) (c_told_below : Int) : Option (Int × Int × Int) :=
  if wI s0 = wI 0 then
    (chk (r32 x1) <| bnd2 (m_X1_put F ((2 * x1) * c_told_below) c_told_above) fun o2 o3 => bnd1 (m_X1_side F x4 o2 o3) fun r5 => some (r5, o2, o3))
  else
    (chk (r32 s0) <| some (s0, c_told_above, c_told_below))
def m_X8_still (F : Nat) (x1 : Int) (x2 : Int) (x3 : Int) (x4 : Int) (c_told_above : Int) (c_told_below : Int) : Option (Int × Int × Int) :=
  bnd1 (m_X8_isSide F x4) fun r1 => if wI r1 = wI 0 then
    (mb_X8_still_20 F x1 x4 (-2) c_told_above c_told_below)
  else
    (bnd3 (m_X8_openStream F x1 x2 x3 c_told_above c_told_below) fun r3 o4 o5 => mb_X8_still_20 F x1 x4 r3 o4 o5)
section S_X8_still
variable {E : EE} {a_t a_t_told : Nat} {g_t_0 : Value} {g_t_1 : Value} {g_t_2 : Value} {g_t_3 : Value} {g_t_4 : Value} {g_t_5 : Value} {g_t_6 : Value} {g_t_7 : Value} {g_t_8 : Value} {g_t_9 : Value} {g_t_10 : Value} {g_t_11 : Value} {g_t_13 : Value}
set_option maxRecDepth 100000 in
set_option maxHeartbeats 4000000 in
theorem wb_X8_still_20 {F : Nat} {v : Int × Int × Int} {x1 : Int} {x4 : Int} {s0 : Int} {c_told_above : Int} {c_told_below : Int} (C : Cx E cX8_still RX8 { frames := 3, cells := 0, slots := 0, locals := 78 }) (hN : eN E = 6) (h : mb_X8_still_20 F x1 x4 s0 c_told_above c_told_below = some v) (hret : ∀ (pc : Nat) (L : List (Option Value)), decode cX8_still pc = .ok (.lreturn, 1) → GG E 0 0 (W_X8_still (eCy E) a_t a_t_told g_t_0 g_t_1 g_t_2 g_t_3 g_t_4 g_t_5 g_t_6 g_t_7 g_t_8 g_t_9 g_t_10 g_t_11 g_t_13 (v.2.1) (v.2.2)) L pc [.long (wJ (v.1))]) : GG E 0 0 (W_X8_still (eCy E) a_t a_t_told g_t_0 g_t_1 g_t_2 g_t_3 g_t_4 g_t_5 g_t_6 g_t_7 g_t_8 g_t_9 g_t_10 g_t_11 g_t_13 c_told_above c_told_below) [some (.ref a_t), some (.int (wI x1)), none, none, some (.int (wI x4)), none] 20 [.int (wI s0)] := by
  unfold mb_X8_still_20 at h
  refine g_istore C hN dX8_still_20 rfl (L' := [some (.ref a_t), some (.int (wI x1)), none, none, some (.int (wI x4)), some (.int (wI s0))]) rfl ?_
  refine g_iload C dX8_still_22 rfl ?_
  refine g_if_eq 31 C dX8_still_24 (by decide) h (fun h => ?_) (fun h => ?_)
  · refine g_aload_n 0 C dX8_still_31 rfl rfl ?_
    refine g_get C fg_X8_78 0 rfl rfl dX8_still_32 ?_
    refine g_ldc2 (v := 2) C mc_X8_405 dX8_still_35 ?_
    refine g_iload_n 1 C dX8_still_38 rfl rfl ?_
    obtain ⟨hc1, h⟩ := chk_some h
    refine g_i2l C dX8_still_39 hc1 ?_
    refine g_lmul C dX8_still_40 ?_
    refine g_aload_n 0 C dX8_still_41 rfl rfl ?_
    refine g_get C fg_X8_78 0 rfl rfl dX8_still_42 ?_
    refine g_get C fg_X8_156 1 rfl rfl dX8_still_45 ?_
    refine g_st (st' := [.long (wJ c_told_below), .long (wJ (2 * x1)), .ref a_t_told]) rfl ?_
    refine g_lmul C dX8_still_48 ?_
    refine g_aload_n 0 C dX8_still_49 rfl rfl ?_
    refine g_get C fg_X8_78 0 rfl rfl dX8_still_50 ?_
    refine g_get C fg_X8_152 1 rfl rfl dX8_still_53 ?_
    refine g_st (st' := [.long (wJ c_told_above), .long (wJ ((2 * x1) * c_told_below)), .ref a_t_told]) rfl ?_
    obtain ⟨o2, o3, hr4, h⟩ := bnd2_some h
    refine g_callV [1] [0] [0, 1] C mt_X8_148 (c_X1_put _ _ _ _ a_t_told ((2 * x1) * c_told_below) c_told_above c_told_above c_told_below F hr4) (q0 := 0) rfl (ci := 1) rfl rfl rfl (ws2 := (W_X8_still (eCy E) a_t a_t_told g_t_0 g_t_1 g_t_2 g_t_3 g_t_4 g_t_5 g_t_6 g_t_7 g_t_8 g_t_9 g_t_10 g_t_11 g_t_13 o2 o3)) rfl rfl rfl (rest := []) rfl rfl rfl dX8_still_56 ?_
    refine g_aload_n 0 C dX8_still_59 rfl rfl ?_
    refine g_get C fg_X8_78 0 rfl rfl dX8_still_60 ?_
    refine g_iload C dX8_still_63 rfl ?_
    obtain ⟨r5, hr6, h⟩ := bnd1_some h
    refine g_callJ [1] [0] [0, 1] C mt_X8_142 (c_X1_side _ _ _ _ a_t_told x4 o2 o3 F hr6) (q0 := 0) rfl (ci := 1) rfl rfl rfl (ws2 := (W_X8_still (eCy E) a_t a_t_told g_t_0 g_t_1 g_t_2 g_t_3 g_t_4 g_t_5 g_t_6 g_t_7 g_t_8 g_t_9 g_t_10 g_t_11 g_t_13 o2 o3)) rfl rfl rfl (rest := []) rfl rfl rfl dX8_still_65 ?_
    cases h
    exact hret 68 _ dX8_still_68
  · refine g_iload C dX8_still_27 rfl ?_
    obtain ⟨hc1, h⟩ := chk_some h
    refine g_i2l C dX8_still_29 hc1 ?_
    cases h
    exact hret 30 _ dX8_still_30
set_option maxRecDepth 100000 in
set_option maxHeartbeats 4000000 in
theorem wm_X8_still {F : Nat} {v : Int × Int × Int} {x1 : Int} {x2 : Int} {x3 : Int} {x4 : Int} {c_told_above : Int} {c_told_below : Int} (C : Cx E cX8_still RX8 { frames := 3, cells := 0, slots := 0, locals := 78 }) (hN : eN E = 6) (h : m_X8_still F x1 x2 x3 x4 c_told_above c_told_below = some v) (hret : ∀ (pc : Nat) (L : List (Option Value)), decode cX8_still pc = .ok (.lreturn, 1) → GG E 0 0 (W_X8_still (eCy E) a_t a_t_told g_t_0 g_t_1 g_t_2 g_t_3 g_t_4 g_t_5 g_t_6 g_t_7 g_t_8 g_t_9 g_t_10 g_t_11 g_t_13 (v.2.1) (v.2.2)) L pc [.long (wJ (v.1))]) : GG E 0 0 (W_X8_still (eCy E) a_t a_t_told g_t_0 g_t_1 g_t_2 g_t_3 g_t_4 g_t_5 g_t_6 g_t_7 g_t_8 g_t_9 g_t_10 g_t_11 g_t_13 c_told_above c_told_below) [some (.ref a_t), some (.int (wI x1)), some (.int (wI x2)), some (.int (wI x3)), some (.int (wI x4)), none] 0 [] := by
  unfold m_X8_still at h
  refine g_iload C dX8_still_0 rfl ?_
  obtain ⟨r1, hr2, h⟩ := bnd1_some h
  refine g_callSI [] [0, 1] [0, 1] C mt_X8_117 (c_X8_isSide _ _ _ _ x4 F hr2) rfl rfl (ws2 := (W_X8_still (eCy E) a_t a_t_told g_t_0 g_t_1 g_t_2 g_t_3 g_t_4 g_t_5 g_t_6 g_t_7 g_t_8 g_t_9 g_t_10 g_t_11 g_t_13 c_told_above c_told_below)) rfl rfl rfl (rest := []) rfl rfl rfl dX8_still_2 ?_
  refine g_if_eq 18 C dX8_still_5 (by decide) h (fun h => ?_) (fun h => ?_)
  · refine g_bipush C dX8_still_18 (by decide) ?_
    refine g_mask [true, true, false, false, true, false] (L' := [some (.ref a_t), some (.int (wI x1)), none, none, some (.int (wI x4)), none]) rfl ?_
    exact wb_X8_still_20 C hN h hret
  · refine g_aload_n 0 C dX8_still_8 rfl rfl ?_
    refine g_iload_n 1 C dX8_still_9 rfl rfl ?_
    refine g_iload_n 2 C dX8_still_10 rfl rfl ?_
    refine g_iload_n 3 C dX8_still_11 rfl rfl ?_
    obtain ⟨r3, o4, o5, hr6, h⟩ := bnd3_some h
    refine g_callI [0, 1] [] [0, 1] C mt_X8_402 (c_X8_openStream _ _ _ _ a_t a_t_told (g_t_0) (g_t_1) (g_t_2) (g_t_3) (g_t_4) (g_t_5) (g_t_6) (g_t_7) (g_t_8) (g_t_9) (g_t_10) (g_t_11) (g_t_13) x1 x2 x3 c_told_above c_told_below F hr6) (q0 := 0) rfl (ci := 8) rfl rfl rfl (ws2 := (W_X8_still (eCy E) a_t a_t_told g_t_0 g_t_1 g_t_2 g_t_3 g_t_4 g_t_5 g_t_6 g_t_7 g_t_8 g_t_9 g_t_10 g_t_11 g_t_13 o4 o5)) rfl rfl rfl (rest := []) rfl rfl rfl dX8_still_12 ?_
    refine g_goto (tgt := 20) C dX8_still_15 (by decide) ?_
    refine g_mask [true, true, false, false, true, false] (L' := [some (.ref a_t), some (.int (wI x1)), none, none, some (.int (wI x4)), none]) rfl ?_
    exact wb_X8_still_20 C hN h hret
end S_X8_still
set_option maxRecDepth 100000 in
set_option maxHeartbeats 4000000 in
theorem c_X8_still (l : Launch) (D : va_G) (cy : Nat → ClassId) (ad : AD) (a_t a_t_told : Nat) (g_t_0 : Value) (g_t_1 : Value) (g_t_2 : Value) (g_t_3 : Value) (g_t_4 : Value) (g_t_5 : Value) (g_t_6 : Value) (g_t_7 : Value) (g_t_8 : Value) (g_t_9 : Value) (g_t_10 : Value) (g_t_11 : Value) (g_t_13 : Value) (x1 : Int) (x2 : Int) (x3 : Int) (x4 : Int) (c_told_above : Int) (c_told_below : Int) (F : Nat) {v : Int × Int × Int} (h : m_X8_still F x1 x2 x3 x4 c_told_above c_told_below = some v) : Ct l yX8_still cX8_still 6 (some .long) { frames := 3, cells := 0, slots := 0, locals := 78 } D cy ad [.ref a_t, .int (wI x1), .int (wI x2), .int (wI x3), .int (wI x4)] (W_X8_still cy a_t a_t_told g_t_0 g_t_1 g_t_2 g_t_3 g_t_4 g_t_5 g_t_6 g_t_7 g_t_8 g_t_9 g_t_10 g_t_11 g_t_13 c_told_above c_told_below) (W_X8_still cy a_t a_t_told g_t_0 g_t_1 g_t_2 g_t_3 g_t_4 g_t_5 g_t_6 g_t_7 g_t_8 g_t_9 g_t_10 g_t_11 g_t_13 (v.2.1) (v.2.2)) (some (.long (wJ (v.1)))) := by
  refine Ct.introJ (j := 1) (plainFor_of_name (by decide)) rfl rfl (fun E C e1 e2 e3 e4 e5 hret => ?_)
  subst e1; subst e2; subst e3; subst e4
  exact wm_X8_still C e5 h hret
-- MovingStair.ant(III)I
def W_X8_ant (cy : Nat → ClassId) (a_t : Nat) (g_t_0 : Value) (g_t_1 : Value) (g_t_2 : Value) (g_t_3 : Value) (g_t_4 : Value) (g_t_5 : Value) (g_t_6 : Value) (g_t_7 : Value) (g_t_8 : Value) (g_t_9 : Value) (g_t_10 : Value) (g_t_11 : Value) (g_t_12 : Value) (g_t_13 : Value) : va_W := [(a_t, .inr (8, [g_t_0, g_t_1, g_t_2, g_t_3, g_t_4, g_t_5, g_t_6, g_t_7, g_t_8, g_t_9, g_t_10, g_t_11, g_t_12, g_t_13]))]
def mb_X8_ant_21 (F : Nat) (k21 : Int → Int → Int → Option (Int)) (x2 : Int) (x3 : Int) (x4 : Int) (x5 : Int) (x6 : Int) : Option (Int) :=
  if wI 1000 < wI x6 then
    (some (-1))
  else
    (chk (dv32 (x2 * 1000000) x5) <| nam (x4 + ((x2 * 1000000).tdiv x5)) fun y2 => if wI y2 < wI 1000000 then
    (nam (x5 + x3) fun y3 => k21 y2 y3 (x6 + 1))
  else
    (some x6))
def ml_X8_ant_21 (F : Nat) (x2 : Int) (x3 : Int) (x4 : Int) (x5 : Int) (x6 : Int) : Option (Int) :=
  loopN (fun (k : Int × Int × Int → Option (Int)) q => mb_X8_ant_21 F (fun y0 y1 y2 => k (y0, y1, y2)) x2 x3 q.1 q.2.1 q.2.2) F (x4, x5, x6)
def m_X8_ant (F : Nat) (x1 : Int) (x2 : Int) (x3 : Int) : Option (Int) :=
  bnd1 (m_X8_isNoStream F x1 x2 x3) fun r1 => if wI r1 = wI 0 then
    (ml_X8_ant_21 F x2 x3 0 x1 1)
  else
    (some (-2))
section S_X8_ant
variable {E : EE} {a_t : Nat} {g_t_0 : Value} {g_t_1 : Value} {g_t_2 : Value} {g_t_3 : Value} {g_t_4 : Value} {g_t_5 : Value} {g_t_6 : Value} {g_t_7 : Value} {g_t_8 : Value} {g_t_9 : Value} {g_t_10 : Value} {g_t_11 : Value} {g_t_12 : Value} {g_t_13 : Value}
set_option maxRecDepth 100000 in
set_option maxHeartbeats 4000000 in
theorem wb_X8_ant_21 {F : Nat} {k21 : Int → Int → Int → Option (Int)} {v : Int} {x2 : Int} {x3 : Int} {x4 : Int} {x5 : Int} {x6 : Int} (C : Cx E cX8_ant RX8 { frames := 2, cells := 0, slots := 0, locals := 47 }) (hN : eN E = 7) (h : mb_X8_ant_21 F k21 x2 x3 x4 x5 x6 = some v) (hk21 : ∀ (y_x4 : Int) (y_x5 : Int) (y_x6 : Int), k21 y_x4 y_x5 y_x6 = some v → GG E 0 0 (W_X8_ant (eCy E) a_t g_t_0 g_t_1 g_t_2 g_t_3 g_t_4 g_t_5 g_t_6 g_t_7 g_t_8 g_t_9 g_t_10 g_t_11 g_t_12 g_t_13) [none, none, some (.int (wI x2)), some (.int (wI x3)), some (.int (wI y_x4)), some (.int (wI y_x5)), some (.int (wI y_x6))] 21 []) (hret : ∀ (pc : Nat) (L : List (Option Value)), decode cX8_ant pc = .ok (.ireturn, 1) → GG E 0 0 (W_X8_ant (eCy E) a_t g_t_0 g_t_1 g_t_2 g_t_3 g_t_4 g_t_5 g_t_6 g_t_7 g_t_8 g_t_9 g_t_10 g_t_11 g_t_12 g_t_13) L pc [.int (wI v)]) : GG E 0 0 (W_X8_ant (eCy E) a_t g_t_0 g_t_1 g_t_2 g_t_3 g_t_4 g_t_5 g_t_6 g_t_7 g_t_8 g_t_9 g_t_10 g_t_11 g_t_12 g_t_13) [none, none, some (.int (wI x2)), some (.int (wI x3)), some (.int (wI x4)), some (.int (wI x5)), some (.int (wI x6))] 21 [] := by
  unfold mb_X8_ant_21 at h
  refine g_iload C dX8_ant_21 rfl ?_
  refine g_sipush C dX8_ant_23 (by decide) ?_
  refine g_icmp_gt 65 C dX8_ant_26 (by decide) h (fun h => ?_) (fun h => ?_)
  · refine g_iconst C dX8_ant_65 ?_
    cases h
    exact hret 66 _ dX8_ant_66
  · refine g_iload C dX8_ant_29 rfl ?_
    refine g_iload_n 2 C dX8_ant_31 rfl rfl ?_
    refine g_ldcw (v := 1000000) C mc_X8_411 dX8_ant_32 ?_
    refine g_imul C dX8_ant_35 ?_
    refine g_iload C dX8_ant_36 rfl ?_
    obtain ⟨hc1, h⟩ := chk_some h
    refine g_idiv C dX8_ant_38 hc1 ?_
    refine g_iadd C dX8_ant_39 ?_
    obtain ⟨y2, e_y2, h⟩ := nam_some h
    refine g_topI e_y2 ?_
    refine g_istore C hN dX8_ant_40 rfl (L' := [none, none, some (.int (wI x2)), some (.int (wI x3)), some (.int (wI y2)), some (.int (wI x5)), some (.int (wI x6))]) rfl ?_
    refine g_iload C dX8_ant_42 rfl ?_
    refine g_ldcw (v := 1000000) C mc_X8_411 dX8_ant_44 ?_
    refine g_icmp_lt 53 C dX8_ant_47 (by decide) h (fun h => ?_) (fun h => ?_)
    · refine g_iload C dX8_ant_53 rfl ?_
      refine g_iload_n 3 C dX8_ant_55 rfl rfl ?_
      refine g_iadd C dX8_ant_56 ?_
      obtain ⟨y3, e_y3, h⟩ := nam_some h
      refine g_topI e_y3 ?_
      refine g_istore C hN dX8_ant_57 rfl (L' := [none, none, some (.int (wI x2)), some (.int (wI x3)), some (.int (wI y2)), some (.int (wI y3)), some (.int (wI x6))]) rfl ?_
      refine g_iinc C hN dX8_ant_59 rfl rfl (L' := [none, none, some (.int (wI x2)), some (.int (wI x3)), some (.int (wI y2)), some (.int (wI y3)), some (.int (wI (x6 + 1)))]) rfl ?_
      refine g_goto (tgt := 21) C dX8_ant_62 (by decide) ?_
      exact hk21 _ _ _ h
    · refine g_iload C dX8_ant_50 rfl ?_
      cases h
      exact hret 52 _ dX8_ant_52
set_option maxRecDepth 100000 in
set_option maxHeartbeats 4000000 in
theorem wl_X8_ant_21 {F : Nat} {v : Int} {x2 : Int} {x3 : Int} {x4 : Int} {x5 : Int} {x6 : Int} (C : Cx E cX8_ant RX8 { frames := 2, cells := 0, slots := 0, locals := 47 }) (hN : eN E = 7) (h : ml_X8_ant_21 F x2 x3 x4 x5 x6 = some v) (hret : ∀ (pc : Nat) (L : List (Option Value)), decode cX8_ant pc = .ok (.ireturn, 1) → GG E 0 0 (W_X8_ant (eCy E) a_t g_t_0 g_t_1 g_t_2 g_t_3 g_t_4 g_t_5 g_t_6 g_t_7 g_t_8 g_t_9 g_t_10 g_t_11 g_t_12 g_t_13) L pc [.int (wI v)]) : GG E 0 0 (W_X8_ant (eCy E) a_t g_t_0 g_t_1 g_t_2 g_t_3 g_t_4 g_t_5 g_t_6 g_t_7 g_t_8 g_t_9 g_t_10 g_t_11 g_t_12 g_t_13) [none, none, some (.int (wI x2)), some (.int (wI x3)), some (.int (wI x4)), some (.int (wI x5)), some (.int (wI x6))] 21 [] := by
  unfold ml_X8_ant_21 at h
  exact loop_walk (g := fun (q : Int × Int × Int) => GG E 0 0 (W_X8_ant (eCy E) a_t g_t_0 g_t_1 g_t_2 g_t_3 g_t_4 g_t_5 g_t_6 g_t_7 g_t_8 g_t_9 g_t_10 g_t_11 g_t_12 g_t_13) [none, none, some (.int (wI x2)), some (.int (wI x3)), some (.int (wI (q.1))), some (.int (wI (q.2.1))), some (.int (wI (q.2.2)))] 21 []) (fun k hk q h => wb_X8_ant_21 C hN h (fun y0 y1 y2 hh => hk (y0, y1, y2) hh) hret) F (x4, x5, x6) h
set_option maxRecDepth 100000 in
set_option maxHeartbeats 4000000 in
theorem wm_X8_ant {F : Nat} {v : Int} {x1 : Int} {x2 : Int} {x3 : Int} (C : Cx E cX8_ant RX8 { frames := 2, cells := 0, slots := 0, locals := 47 }) (hN : eN E = 7) (h : m_X8_ant F x1 x2 x3 = some v) (hret : ∀ (pc : Nat) (L : List (Option Value)), decode cX8_ant pc = .ok (.ireturn, 1) → GG E 0 0 (W_X8_ant (eCy E) a_t g_t_0 g_t_1 g_t_2 g_t_3 g_t_4 g_t_5 g_t_6 g_t_7 g_t_8 g_t_9 g_t_10 g_t_11 g_t_12 g_t_13) L pc [.int (wI v)]) : GG E 0 0 (W_X8_ant (eCy E) a_t g_t_0 g_t_1 g_t_2 g_t_3 g_t_4 g_t_5 g_t_6 g_t_7 g_t_8 g_t_9 g_t_10 g_t_11 g_t_12 g_t_13) [some (.ref a_t), some (.int (wI x1)), some (.int (wI x2)), some (.int (wI x3)), none, none, none] 0 [] := by
  unfold m_X8_ant at h
  refine g_iload_n 1 C dX8_ant_0 rfl rfl ?_
  refine g_iload_n 2 C dX8_ant_1 rfl rfl ?_
  refine g_iload_n 3 C dX8_ant_2 rfl rfl ?_
  obtain ⟨r1, hr2, h⟩ := bnd1_some h
  refine g_callSI [] [0] [0] C mt_X8_407 (c_X8_isNoStream _ _ _ _ x1 x2 x3 F hr2) rfl rfl (ws2 := (W_X8_ant (eCy E) a_t g_t_0 g_t_1 g_t_2 g_t_3 g_t_4 g_t_5 g_t_6 g_t_7 g_t_8 g_t_9 g_t_10 g_t_11 g_t_12 g_t_13)) rfl rfl rfl (rest := []) rfl rfl rfl dX8_ant_3 ?_
  refine g_if_eq 12 C dX8_ant_6 (by decide) h (fun h => ?_) (fun h => ?_)
  · refine g_iconst C dX8_ant_12 ?_
    refine g_istore C hN dX8_ant_13 rfl (L' := [some (.ref a_t), some (.int (wI x1)), some (.int (wI x2)), some (.int (wI x3)), some (.int (wI 0)), none, none]) rfl ?_
    refine g_iload_n 1 C dX8_ant_15 rfl rfl ?_
    refine g_istore C hN dX8_ant_16 rfl (L' := [some (.ref a_t), some (.int (wI x1)), some (.int (wI x2)), some (.int (wI x3)), some (.int (wI 0)), some (.int (wI x1)), none]) rfl ?_
    refine g_iconst C dX8_ant_18 ?_
    refine g_istore C hN dX8_ant_19 rfl (L' := [some (.ref a_t), some (.int (wI x1)), some (.int (wI x2)), some (.int (wI x3)), some (.int (wI 0)), some (.int (wI x1)), some (.int (wI 1))]) rfl ?_
    refine g_mask [false, false, true, true, true, true, true] (L' := [none, none, some (.int (wI x2)), some (.int (wI x3)), some (.int (wI 0)), some (.int (wI x1)), some (.int (wI 1))]) rfl ?_
    exact wl_X8_ant_21 C hN h hret
  · refine g_bipush C dX8_ant_9 (by decide) ?_
    cases h
    exact hret 11 _ dX8_ant_11
end S_X8_ant
set_option maxRecDepth 100000 in
set_option maxHeartbeats 4000000 in
theorem c_X8_ant (l : Launch) (D : va_G) (cy : Nat → ClassId) (ad : AD) (a_t : Nat) (g_t_0 : Value) (g_t_1 : Value) (g_t_2 : Value) (g_t_3 : Value) (g_t_4 : Value) (g_t_5 : Value) (g_t_6 : Value) (g_t_7 : Value) (g_t_8 : Value) (g_t_9 : Value) (g_t_10 : Value) (g_t_11 : Value) (g_t_12 : Value) (g_t_13 : Value) (x1 : Int) (x2 : Int) (x3 : Int) (F : Nat) {v : Int} (h : m_X8_ant F x1 x2 x3 = some v) : Ct l yX8_ant cX8_ant 7 (some .int) { frames := 2, cells := 0, slots := 0, locals := 47 } D cy ad [.ref a_t, .int (wI x1), .int (wI x2), .int (wI x3)] (W_X8_ant cy a_t g_t_0 g_t_1 g_t_2 g_t_3 g_t_4 g_t_5 g_t_6 g_t_7 g_t_8 g_t_9 g_t_10 g_t_11 g_t_12 g_t_13) (W_X8_ant cy a_t g_t_0 g_t_1 g_t_2 g_t_3 g_t_4 g_t_5 g_t_6 g_t_7 g_t_8 g_t_9 g_t_10 g_t_11 g_t_12 g_t_13) (some (.int (wI v))) := by
  refine Ct.introI (j := 3) (plainFor_of_name (by decide)) rfl rfl (fun E C e1 e2 e3 e4 e5 hret => ?_)
  subst e1; subst e2; subst e3; subst e4
  exact wm_X8_ant C e5 h hret
-- MovingStair.set(II)I
def W_X8_set (cy : Nat → ClassId) (a_t a_t_now a_t_now_actParts a_t_now_actSpeeds a_t_now_speeds : Nat) (g_t_0 : Value) (g_t_1 : Value) (g_t_2 : Value) (g_t_4 : Value) (g_t_5 : Value) (g_t_6 : Value) (g_t_7 : Value) (g_t_8 : Value) (g_t_9 : Value) (g_t_10 : Value) (g_t_11 : Value) (g_t_12 : Value) (g_t_13 : Value) (g_t_now_0 : Value) (g_t_now_1 : Value) (g_t_now_3 : Value) (g_t_now_5 : Value) (g_t_now_6 : Value) (g_t_now_7 : Value) (g_t_now_8 : Value) (g_t_now_9 : Value) (g_t_now_10 : Value) (g_t_now_11 : Value) (g_t_now_12 : Value) (g_t_now_13 : Value) (c_now_parts : Int) (c_now_acts : Int) (c_now_actParts : Int → Int) (c_now_actSpeeds : Int → Int) (c_now_speeds : Int → Int) : va_W := [(a_t, .inr (8, [g_t_0, g_t_1, g_t_2, .ref a_t_now, g_t_4, g_t_5, g_t_6, g_t_7, g_t_8, g_t_9, g_t_10, g_t_11, g_t_12, g_t_13])), (a_t_now, .inr (2, [g_t_now_0, g_t_now_1, .int (wI c_now_parts), g_t_now_3, .ref a_t_now_speeds, g_t_now_5, g_t_now_6, g_t_now_7, g_t_now_8, g_t_now_9, g_t_now_10, g_t_now_11, g_t_now_12, g_t_now_13, .int (wI c_now_acts), .ref a_t_now_actParts, .ref a_t_now_actSpeeds])), (a_t_now_actParts, .inl (cy 1, 60, .inl (aI c_now_actParts))), (a_t_now_actSpeeds, .inl (cy 1, 60, .inl (aI c_now_actSpeeds))), (a_t_now_speeds, .inl (cy 1, 4, .inl (aI c_now_speeds)))]
def m_X8_set (F : Nat) (x1 : Int) (x2 : Int) (c_now_parts : Int) (c_now_acts : Int) (c_now_actParts : Int → Int) (c_now_actSpeeds : Int → Int) (c_now_speeds : Int → Int) : Option (Int × Int × (Int → Int) × (Int → Int) × (Int → Int)) :=
  bnd1 (m_X2_hasPart F x1 c_now_parts) fun r1 => if wI r1 = wI 0 then
    (some ((-1000), c_now_acts, c_now_actParts, c_now_actSpeeds, c_now_speeds))
  else
    (chk (r32 x2) <| bnd1 (m_X8_isOut F x2 (-30) 30) fun r4 => if wI r4 = wI 0 then
    (if wI c_now_acts < wI 60 then
    (chk (0 ≤ x1 ∧ x1 < 4) <| nam (c_now_speeds x1) fun y7 => bnd3 (m_X2_noteAct F x1 y7 c_now_acts c_now_actParts c_now_actSpeeds) fun o8 o9 o10 => chk (0 ≤ x1 ∧ x1 < 4) <| some (y7, o8, o9, o10, up c_now_speeds x1 x2))
  else
    (some ((-1005), c_now_acts, c_now_actParts, c_now_actSpeeds, c_now_speeds)))
  else
    (some ((-1000), c_now_acts, c_now_actParts, c_now_actSpeeds, c_now_speeds)))
section S_X8_set
variable {E : EE} {a_t a_t_now a_t_now_actParts a_t_now_actSpeeds a_t_now_speeds : Nat} {g_t_0 : Value} {g_t_1 : Value} {g_t_2 : Value} {g_t_4 : Value} {g_t_5 : Value} {g_t_6 : Value} {g_t_7 : Value} {g_t_8 : Value} {g_t_9 : Value} {g_t_10 : Value} {g_t_11 : Value} {g_t_12 : Value} {g_t_13 : Value} {g_t_now_0 : Value} {g_t_now_1 : Value} {g_t_now_3 : Value} {g_t_now_5 : Value} {g_t_now_6 : Value} {g_t_now_7 : Value} {g_t_now_8 : Value} {g_t_now_9 : Value} {g_t_now_10 : Value} {g_t_now_11 : Value} {g_t_now_12 : Value} {g_t_now_13 : Value}
set_option maxRecDepth 100000 in
set_option maxHeartbeats 4000000 in
theorem wm_X8_set {F : Nat} {v : Int × Int × (Int → Int) × (Int → Int) × (Int → Int)} {x1 : Int} {x2 : Int} {c_now_parts : Int} {c_now_acts : Int} {c_now_actParts : Int → Int} {c_now_actSpeeds : Int → Int} {c_now_speeds : Int → Int} (C : Cx E cX8_set RX8 { frames := 1, cells := 0, slots := 0, locals := 25 }) (hN : eN E = 4) (h : m_X8_set F x1 x2 c_now_parts c_now_acts c_now_actParts c_now_actSpeeds c_now_speeds = some v) (hret : ∀ (pc : Nat) (L : List (Option Value)), decode cX8_set pc = .ok (.ireturn, 1) → GG E 0 0 (W_X8_set (eCy E) a_t a_t_now a_t_now_actParts a_t_now_actSpeeds a_t_now_speeds g_t_0 g_t_1 g_t_2 g_t_4 g_t_5 g_t_6 g_t_7 g_t_8 g_t_9 g_t_10 g_t_11 g_t_12 g_t_13 g_t_now_0 g_t_now_1 g_t_now_3 g_t_now_5 g_t_now_6 g_t_now_7 g_t_now_8 g_t_now_9 g_t_now_10 g_t_now_11 g_t_now_12 g_t_now_13 c_now_parts (v.2.1) (v.2.2.1) (v.2.2.2.1) (v.2.2.2.2)) L pc [.int (wI (v.1))]) : GG E 0 0 (W_X8_set (eCy E) a_t a_t_now a_t_now_actParts a_t_now_actSpeeds a_t_now_speeds g_t_0 g_t_1 g_t_2 g_t_4 g_t_5 g_t_6 g_t_7 g_t_8 g_t_9 g_t_10 g_t_11 g_t_12 g_t_13 g_t_now_0 g_t_now_1 g_t_now_3 g_t_now_5 g_t_now_6 g_t_now_7 g_t_now_8 g_t_now_9 g_t_now_10 g_t_now_11 g_t_now_12 g_t_now_13 c_now_parts c_now_acts c_now_actParts c_now_actSpeeds c_now_speeds) [some (.ref a_t), some (.int (wI x1)), some (.int (wI x2)), none] 0 [] := by
  unfold m_X8_set at h
  refine g_aload_n 0 C dX8_set_0 rfl rfl ?_
  refine g_get C fg_X8_22 0 rfl rfl dX8_set_1 ?_
  refine g_iload_n 1 C dX8_set_4 rfl rfl ?_
  obtain ⟨r1, hr2, h⟩ := bnd1_some h
  refine g_callI [1] [0, 2, 3, 4] [0, 4, 1, 2, 3] C mt_X8_113 (c_X2_hasPart _ _ _ _ a_t_now (g_t_now_0) (g_t_now_1) (g_t_now_3) (.ref a_t_now_speeds) (g_t_now_5) (g_t_now_6) (g_t_now_7) (g_t_now_8) (g_t_now_9) (g_t_now_10) (g_t_now_11) (g_t_now_12) (g_t_now_13) (.int (wI c_now_acts)) (.ref a_t_now_actParts) (.ref a_t_now_actSpeeds) x1 c_now_parts F hr2) (q0 := 0) rfl (ci := 2) rfl rfl rfl (ws2 := (W_X8_set (eCy E) a_t a_t_now a_t_now_actParts a_t_now_actSpeeds a_t_now_speeds g_t_0 g_t_1 g_t_2 g_t_4 g_t_5 g_t_6 g_t_7 g_t_8 g_t_9 g_t_10 g_t_11 g_t_12 g_t_13 g_t_now_0 g_t_now_1 g_t_now_3 g_t_now_5 g_t_now_6 g_t_now_7 g_t_now_8 g_t_now_9 g_t_now_10 g_t_now_11 g_t_now_12 g_t_now_13 c_now_parts c_now_acts c_now_actParts c_now_actSpeeds c_now_speeds)) rfl rfl rfl (rest := []) rfl rfl rfl dX8_set_5 ?_
  refine g_if_eq 25 C dX8_set_8 (by decide) h (fun h => ?_) (fun h => ?_)
  · refine g_sipush C dX8_set_25 (by decide) ?_
    cases h
    exact hret 28 _ dX8_set_28
  · refine g_iload_n 2 C dX8_set_11 rfl rfl ?_
    obtain ⟨hc3, h⟩ := chk_some h
    refine g_i2l C dX8_set_12 hc3 ?_
    refine g_ldc2 (v := -30) C mc_X8_414 dX8_set_13 ?_
    refine g_ldc2 (v := 30) C mc_X8_212 dX8_set_16 ?_
    obtain ⟨r4, hr5, h⟩ := bnd1_some h
    refine g_callSI [] [0, 1, 2, 3, 4] [0, 1, 2, 3, 4] C mt_X8_161 (c_X8_isOut _ _ _ _ x2 (-30) 30 F hr5) rfl rfl (ws2 := (W_X8_set (eCy E) a_t a_t_now a_t_now_actParts a_t_now_actSpeeds a_t_now_speeds g_t_0 g_t_1 g_t_2 g_t_4 g_t_5 g_t_6 g_t_7 g_t_8 g_t_9 g_t_10 g_t_11 g_t_12 g_t_13 g_t_now_0 g_t_now_1 g_t_now_3 g_t_now_5 g_t_now_6 g_t_now_7 g_t_now_8 g_t_now_9 g_t_now_10 g_t_now_11 g_t_now_12 g_t_now_13 c_now_parts c_now_acts c_now_actParts c_now_actSpeeds c_now_speeds)) rfl rfl rfl (rest := []) rfl rfl rfl dX8_set_19 ?_
    refine g_if_eq 29 C dX8_set_22 (by decide) h (fun h => ?_) (fun h => ?_)
    · refine g_aload_n 0 C dX8_set_29 rfl rfl ?_
      refine g_get C fg_X8_22 0 rfl rfl dX8_set_30 ?_
      refine g_get C fg_X8_416 1 rfl rfl dX8_set_33 ?_
      refine g_st (st' := [.int (wI c_now_acts)]) rfl ?_
      refine g_bipush C dX8_set_36 (by decide) ?_
      refine g_icmp_lt 45 C dX8_set_38 (by decide) h (fun h => ?_) (fun h => ?_)
      · refine g_aload_n 0 C dX8_set_45 rfl rfl ?_
        refine g_get C fg_X8_22 0 rfl rfl dX8_set_46 ?_
        refine g_get C fg_X8_124 1 rfl rfl dX8_set_49 ?_
        refine g_iload_n 1 C dX8_set_52 rfl rfl ?_
        obtain ⟨hc6, h⟩ := chk_some h
        refine g_iald C 4 rfl hc6 rfl dX8_set_53 ?_
        obtain ⟨y7, e_y7, h⟩ := nam_some h
        refine g_topI e_y7 ?_
        refine g_istore_n 3 C hN dX8_set_54 rfl rfl (L' := [some (.ref a_t), some (.int (wI x1)), some (.int (wI x2)), some (.int (wI y7))]) rfl ?_
        refine g_aload_n 0 C dX8_set_55 rfl rfl ?_
        refine g_get C fg_X8_22 0 rfl rfl dX8_set_56 ?_
        refine g_iload_n 1 C dX8_set_59 rfl rfl ?_
        refine g_iload_n 3 C dX8_set_60 rfl rfl ?_
        obtain ⟨o8, o9, o10, hr11, h⟩ := bnd3_some h
        refine g_callV [1, 2, 3] [0, 4] [0, 2, 3, 4, 1] C mt_X8_419 (c_X2_noteAct _ _ _ _ a_t_now a_t_now_actParts a_t_now_actSpeeds (g_t_now_0) (g_t_now_1) (.int (wI c_now_parts)) (g_t_now_3) (.ref a_t_now_speeds) (g_t_now_5) (g_t_now_6) (g_t_now_7) (g_t_now_8) (g_t_now_9) (g_t_now_10) (g_t_now_11) (g_t_now_12) (g_t_now_13) x1 y7 c_now_acts c_now_actParts c_now_actSpeeds F hr11) (q0 := 0) rfl (ci := 2) rfl rfl rfl (ws2 := (W_X8_set (eCy E) a_t a_t_now a_t_now_actParts a_t_now_actSpeeds a_t_now_speeds g_t_0 g_t_1 g_t_2 g_t_4 g_t_5 g_t_6 g_t_7 g_t_8 g_t_9 g_t_10 g_t_11 g_t_12 g_t_13 g_t_now_0 g_t_now_1 g_t_now_3 g_t_now_5 g_t_now_6 g_t_now_7 g_t_now_8 g_t_now_9 g_t_now_10 g_t_now_11 g_t_now_12 g_t_now_13 c_now_parts o8 o9 o10 c_now_speeds)) rfl rfl rfl (rest := []) rfl rfl rfl dX8_set_61 ?_
        refine g_aload_n 0 C dX8_set_64 rfl rfl ?_
        refine g_get C fg_X8_22 0 rfl rfl dX8_set_65 ?_
        refine g_get C fg_X8_124 1 rfl rfl dX8_set_68 ?_
        refine g_iload_n 1 C dX8_set_71 rfl rfl ?_
        refine g_iload_n 2 C dX8_set_72 rfl rfl ?_
        obtain ⟨hc12, h⟩ := chk_some h
        refine g_iast C 4 rfl hc12 rfl (ws' := (W_X8_set (eCy E) a_t a_t_now a_t_now_actParts a_t_now_actSpeeds a_t_now_speeds g_t_0 g_t_1 g_t_2 g_t_4 g_t_5 g_t_6 g_t_7 g_t_8 g_t_9 g_t_10 g_t_11 g_t_12 g_t_13 g_t_now_0 g_t_now_1 g_t_now_3 g_t_now_5 g_t_now_6 g_t_now_7 g_t_now_8 g_t_now_9 g_t_now_10 g_t_now_11 g_t_now_12 g_t_now_13 c_now_parts o8 o9 o10 (up c_now_speeds x1 x2))) rfl dX8_set_73 ?_
        refine g_iload_n 3 C dX8_set_74 rfl rfl ?_
        cases h
        exact hret 75 _ dX8_set_75
      · refine g_sipush C dX8_set_41 (by decide) ?_
        cases h
        exact hret 44 _ dX8_set_44
    · refine g_sipush C dX8_set_25 (by decide) ?_
      cases h
      exact hret 28 _ dX8_set_28
end S_X8_set
set_option maxRecDepth 100000 in
set_option maxHeartbeats 4000000 in
theorem c_X8_set (l : Launch) (D : va_G) (cy : Nat → ClassId) (ad : AD) (a_t a_t_now a_t_now_actParts a_t_now_actSpeeds a_t_now_speeds : Nat) (g_t_0 : Value) (g_t_1 : Value) (g_t_2 : Value) (g_t_4 : Value) (g_t_5 : Value) (g_t_6 : Value) (g_t_7 : Value) (g_t_8 : Value) (g_t_9 : Value) (g_t_10 : Value) (g_t_11 : Value) (g_t_12 : Value) (g_t_13 : Value) (g_t_now_0 : Value) (g_t_now_1 : Value) (g_t_now_3 : Value) (g_t_now_5 : Value) (g_t_now_6 : Value) (g_t_now_7 : Value) (g_t_now_8 : Value) (g_t_now_9 : Value) (g_t_now_10 : Value) (g_t_now_11 : Value) (g_t_now_12 : Value) (g_t_now_13 : Value) (x1 : Int) (x2 : Int) (c_now_parts : Int) (c_now_acts : Int) (c_now_actParts : Int → Int) (c_now_actSpeeds : Int → Int) (c_now_speeds : Int → Int) (F : Nat) {v : Int × Int × (Int → Int) × (Int → Int) × (Int → Int)} (h : m_X8_set F x1 x2 c_now_parts c_now_acts c_now_actParts c_now_actSpeeds c_now_speeds = some v) : Ct l yX8_set cX8_set 4 (some .int) { frames := 1, cells := 0, slots := 0, locals := 25 } D cy ad [.ref a_t, .int (wI x1), .int (wI x2)] (W_X8_set cy a_t a_t_now a_t_now_actParts a_t_now_actSpeeds a_t_now_speeds g_t_0 g_t_1 g_t_2 g_t_4 g_t_5 g_t_6 g_t_7 g_t_8 g_t_9 g_t_10 g_t_11 g_t_12 g_t_13 g_t_now_0 g_t_now_1 g_t_now_3 g_t_now_5 g_t_now_6 g_t_now_7 g_t_now_8 g_t_now_9 g_t_now_10 g_t_now_11 g_t_now_12 g_t_now_13 c_now_parts c_now_acts c_now_actParts c_now_actSpeeds c_now_speeds) (W_X8_set cy a_t a_t_now a_t_now_actParts a_t_now_actSpeeds a_t_now_speeds g_t_0 g_t_1 g_t_2 g_t_4 g_t_5 g_t_6 g_t_7 g_t_8 g_t_9 g_t_10 g_t_11 g_t_12 g_t_13 g_t_now_0 g_t_now_1 g_t_now_3 g_t_now_5 g_t_now_6 g_t_now_7 g_t_now_8 g_t_now_9 g_t_now_10 g_t_now_11 g_t_now_12 g_t_now_13 c_now_parts (v.2.1) (v.2.2.1) (v.2.2.2.1) (v.2.2.2.2)) (some (.int (wI (v.1)))) := by
  refine Ct.introI (j := 1) (plainFor_of_name (by decide)) rfl rfl (fun E C e1 e2 e3 e4 e5 hret => ?_)
  subst e1; subst e2; subst e3; subst e4
  exact wm_X8_set C e5 h hret
-- MovingStair.reverse()I
def W_X8_reverse (cy : Nat → ClassId) (a_t a_t_now a_t_now_actParts a_t_now_actSpeeds a_t_now_speeds : Nat) (g_t_0 : Value) (g_t_1 : Value) (g_t_2 : Value) (g_t_4 : Value) (g_t_5 : Value) (g_t_6 : Value) (g_t_7 : Value) (g_t_8 : Value) (g_t_9 : Value) (g_t_10 : Value) (g_t_11 : Value) (g_t_12 : Value) (g_t_13 : Value) (g_t_now_1 : Value) (g_t_now_3 : Value) (g_t_now_5 : Value) (g_t_now_6 : Value) (g_t_now_7 : Value) (g_t_now_8 : Value) (g_t_now_9 : Value) (g_t_now_10 : Value) (g_t_now_11 : Value) (g_t_now_12 : Value) (g_t_now_13 : Value) (c_now_lines : Int) (c_now_parts : Int) (c_now_acts : Int) (c_now_actParts : Int → Int) (c_now_actSpeeds : Int → Int) (c_now_speeds : Int → Int) : va_W := [(a_t, .inr (8, [g_t_0, g_t_1, g_t_2, .ref a_t_now, g_t_4, g_t_5, g_t_6, g_t_7, g_t_8, g_t_9, g_t_10, g_t_11, g_t_12, g_t_13])), (a_t_now, .inr (2, [.int (wI c_now_lines), g_t_now_1, .int (wI c_now_parts), g_t_now_3, .ref a_t_now_speeds, g_t_now_5, g_t_now_6, g_t_now_7, g_t_now_8, g_t_now_9, g_t_now_10, g_t_now_11, g_t_now_12, g_t_now_13, .int (wI c_now_acts), .ref a_t_now_actParts, .ref a_t_now_actSpeeds])), (a_t_now_actParts, .inl (cy 1, 60, .inl (aI c_now_actParts))), (a_t_now_actSpeeds, .inl (cy 1, 60, .inl (aI c_now_actSpeeds))), (a_t_now_speeds, .inl (cy 1, 4, .inl (aI c_now_speeds)))]
def mb_X8_reverse_77 (F : Nat) (k48 : Int → Int → Option (Int × Int × (Int → Int) × (Int → Int) × (Int → Int))) (x2 : Int) (s0 : Int) (s1 : Int) (c_now_parts : Int) (c_now_acts : Int) (c_now_actParts : Int → Int) (c_now_actSpeeds : Int → Int) (c_now_speeds : Int → Int) : Option (Int × Int × (Int → Int) × (Int → Int) × (Int → Int)) :=
  nam (s0 + s1) fun y1 => k48 y1 (x2 + 1)
def mb_X8_reverse_48 (F : Nat) (k48 : Int → Int → Option (Int × Int × (Int → Int) × (Int → Int) × (Int → Int))) (x1 : Int) (x2 : Int) (c_now_parts : Int) (c_now_acts : Int) (c_now_actParts : Int → Int) (c_now_actSpeeds : Int → Int) (c_now_speeds : Int → Int) : Option (Int × Int × (Int → Int) × (Int → Int) × (Int → Int)) :=
  if wI c_now_parts ≤ wI x2 then
    (some (x1, c_now_acts, c_now_actParts, c_now_actSpeeds, c_now_speeds))
  else
    (chk (0 ≤ x2 ∧ x2 < 4) <| if wI 0 ≤ wI (c_now_speeds x2) then
    (mb_X8_reverse_77 F k48 x2 x1 0 c_now_parts c_now_acts c_now_actParts c_now_actSpeeds c_now_speeds)
  else
    (mb_X8_reverse_77 F k48 x2 x1 1 c_now_parts c_now_acts c_now_actParts c_now_actSpeeds c_now_speeds))
def ml_X8_reverse_48 (F : Nat) (x1 : Int) (x2 : Int) (c_now_parts : Int) (c_now_acts : Int) (c_now_actParts : Int → Int) (c_now_actSpeeds : Int → Int) (c_now_speeds : Int → Int) : Option (Int × Int × (Int → Int) × (Int → Int) × (Int → Int)) :=
  loopN (fun (k : Int × Int → Option (Int × Int × (Int → Int) × (Int → Int) × (Int → Int))) q => mb_X8_reverse_48 F (fun y0 y1 => k (y0, y1)) q.1 q.2 c_now_parts c_now_acts c_now_actParts c_now_actSpeeds c_now_speeds) F (x1, x2)
def m_X8_reverse (F : Nat) (c_now_lines : Int) (c_now_parts : Int) (c_now_acts : Int) (c_now_actParts : Int → Int) (c_now_actSpeeds : Int → Int) (c_now_speeds : Int → Int) : Option (Int × Int × (Int → Int) × (Int → Int) × (Int → Int)) :=
  bnd1 (m_X2_isThere F c_now_lines) fun r1 => if wI r1 = wI 0 then
    (some ((-2), c_now_acts, c_now_actParts, c_now_actSpeeds, c_now_speeds))
  else
    (if wI c_now_acts < wI 60 then
    (bnd3 (m_X2_noteAct F (-1) 0 c_now_acts c_now_actParts c_now_actSpeeds) fun o3 o4 o5 => bnd1 (m_X2_turnRound F c_now_parts c_now_speeds) fun o7 => ml_X8_reverse_48 F 0 0 c_now_parts o3 o4 o5 o7)
  else
    (some ((-5), c_now_acts, c_now_actParts, c_now_actSpeeds, c_now_speeds)))
section S_X8_reverse
variable {E : EE} {a_t a_t_now a_t_now_actParts a_t_now_actSpeeds a_t_now_speeds : Nat} {g_t_0 : Value} {g_t_1 : Value} {g_t_2 : Value} {g_t_4 : Value} {g_t_5 : Value} {g_t_6 : Value} {g_t_7 : Value} {g_t_8 : Value} {g_t_9 : Value} {g_t_10 : Value} {g_t_11 : Value} {g_t_12 : Value} {g_t_13 : Value} {g_t_now_1 : Value} {g_t_now_3 : Value} {g_t_now_5 : Value} {g_t_now_6 : Value} {g_t_now_7 : Value} {g_t_now_8 : Value} {g_t_now_9 : Value} {g_t_now_10 : Value} {g_t_now_11 : Value} {g_t_now_12 : Value} {g_t_now_13 : Value}
set_option maxRecDepth 100000 in
set_option maxHeartbeats 4000000 in
theorem wb_X8_reverse_77 {F : Nat} {k48 : Int → Int → Option (Int × Int × (Int → Int) × (Int → Int) × (Int → Int))} {v : Int × Int × (Int → Int) × (Int → Int) × (Int → Int)} {x2 : Int} {s0 : Int} {s1 : Int} {c_now_parts : Int} {c_now_acts : Int} {c_now_actParts : Int → Int} {c_now_actSpeeds : Int → Int} {c_now_speeds : Int → Int} {c_now_lines : Int} (C : Cx E cX8_reverse RX8 { frames := 1, cells := 0, slots := 0, locals := 22 }) (hN : eN E = 3) (h : mb_X8_reverse_77 F k48 x2 s0 s1 c_now_parts c_now_acts c_now_actParts c_now_actSpeeds c_now_speeds = some v) (hk48 : ∀ (y_x1 : Int) (y_x2 : Int), k48 y_x1 y_x2 = some v → GG E 0 0 (W_X8_reverse (eCy E) a_t a_t_now a_t_now_actParts a_t_now_actSpeeds a_t_now_speeds g_t_0 g_t_1 g_t_2 g_t_4 g_t_5 g_t_6 g_t_7 g_t_8 g_t_9 g_t_10 g_t_11 g_t_12 g_t_13 g_t_now_1 g_t_now_3 g_t_now_5 g_t_now_6 g_t_now_7 g_t_now_8 g_t_now_9 g_t_now_10 g_t_now_11 g_t_now_12 g_t_now_13 c_now_lines c_now_parts c_now_acts c_now_actParts c_now_actSpeeds c_now_speeds) [some (.ref a_t), some (.int (wI y_x1)), some (.int (wI y_x2))] 48 []) (hret : ∀ (pc : Nat) (L : List (Option Value)), decode cX8_reverse pc = .ok (.ireturn, 1) → GG E 0 0 (W_X8_reverse (eCy E) a_t a_t_now a_t_now_actParts a_t_now_actSpeeds a_t_now_speeds g_t_0 g_t_1 g_t_2 g_t_4 g_t_5 g_t_6 g_t_7 g_t_8 g_t_9 g_t_10 g_t_11 g_t_12 g_t_13 g_t_now_1 g_t_now_3 g_t_now_5 g_t_now_6 g_t_now_7 g_t_now_8 g_t_now_9 g_t_now_10 g_t_now_11 g_t_now_12 g_t_now_13 c_now_lines c_now_parts (v.2.1) (v.2.2.1) (v.2.2.2.1) (v.2.2.2.2)) L pc [.int (wI (v.1))]) : GG E 0 0 (W_X8_reverse (eCy E) a_t a_t_now a_t_now_actParts a_t_now_actSpeeds a_t_now_speeds g_t_0 g_t_1 g_t_2 g_t_4 g_t_5 g_t_6 g_t_7 g_t_8 g_t_9 g_t_10 g_t_11 g_t_12 g_t_13 g_t_now_1 g_t_now_3 g_t_now_5 g_t_now_6 g_t_now_7 g_t_now_8 g_t_now_9 g_t_now_10 g_t_now_11 g_t_now_12 g_t_now_13 c_now_lines c_now_parts c_now_acts c_now_actParts c_now_actSpeeds c_now_speeds) [some (.ref a_t), none, some (.int (wI x2))] 77 [.int (wI s1), .int (wI s0)] := by
  unfold mb_X8_reverse_77 at h
  refine g_iadd C dX8_reverse_77 ?_
  obtain ⟨y1, e_y1, h⟩ := nam_some h
  refine g_topI e_y1 ?_
  refine g_istore_n 1 C hN dX8_reverse_78 rfl rfl (L' := [some (.ref a_t), some (.int (wI y1)), some (.int (wI x2))]) rfl ?_
  refine g_iinc C hN dX8_reverse_79 rfl rfl (L' := [some (.ref a_t), some (.int (wI y1)), some (.int (wI (x2 + 1)))]) rfl ?_
  refine g_goto (tgt := 48) C dX8_reverse_82 (by decide) ?_
  exact hk48 _ _ h
set_option maxRecDepth 100000 in
set_option maxHeartbeats 4000000 in
theorem wb_X8_reverse_48 {F : Nat} {k48 : Int → Int → Option (Int × Int × (Int → Int) × (Int → Int) × (Int → Int))} {v : Int × Int × (Int → Int) × (Int → Int) × (Int → Int)} {x1 : Int} {x2 : Int} {c_now_parts : Int} {c_now_acts : Int} {c_now_actParts : Int → Int} {c_now_actSpeeds : Int → Int} {c_now_speeds : Int → Int} {c_now_lines : Int} (C : Cx E cX8_reverse RX8 { frames := 1, cells := 0, slots := 0, locals := 22 }) (hN : eN E = 3) (h : mb_X8_reverse_48 F k48 x1 x2 c_now_parts c_now_acts c_now_actParts c_now_actSpeeds c_now_speeds = some v) (hk48 : ∀ (y_x1 : Int) (y_x2 : Int), k48 y_x1 y_x2 = some v → GG E 0 0 (W_X8_reverse (eCy E) a_t a_t_now a_t_now_actParts a_t_now_actSpeeds a_t_now_speeds g_t_0 g_t_1 g_t_2 g_t_4 g_t_5 g_t_6 g_t_7 g_t_8 g_t_9 g_t_10 g_t_11 g_t_12 g_t_13 g_t_now_1 g_t_now_3 g_t_now_5 g_t_now_6 g_t_now_7 g_t_now_8 g_t_now_9 g_t_now_10 g_t_now_11 g_t_now_12 g_t_now_13 c_now_lines c_now_parts c_now_acts c_now_actParts c_now_actSpeeds c_now_speeds) [some (.ref a_t), some (.int (wI y_x1)), some (.int (wI y_x2))] 48 []) (hret : ∀ (pc : Nat) (L : List (Option Value)), decode cX8_reverse pc = .ok (.ireturn, 1) → GG E 0 0 (W_X8_reverse (eCy E) a_t a_t_now a_t_now_actParts a_t_now_actSpeeds a_t_now_speeds g_t_0 g_t_1 g_t_2 g_t_4 g_t_5 g_t_6 g_t_7 g_t_8 g_t_9 g_t_10 g_t_11 g_t_12 g_t_13 g_t_now_1 g_t_now_3 g_t_now_5 g_t_now_6 g_t_now_7 g_t_now_8 g_t_now_9 g_t_now_10 g_t_now_11 g_t_now_12 g_t_now_13 c_now_lines c_now_parts (v.2.1) (v.2.2.1) (v.2.2.2.1) (v.2.2.2.2)) L pc [.int (wI (v.1))]) : GG E 0 0 (W_X8_reverse (eCy E) a_t a_t_now a_t_now_actParts a_t_now_actSpeeds a_t_now_speeds g_t_0 g_t_1 g_t_2 g_t_4 g_t_5 g_t_6 g_t_7 g_t_8 g_t_9 g_t_10 g_t_11 g_t_12 g_t_13 g_t_now_1 g_t_now_3 g_t_now_5 g_t_now_6 g_t_now_7 g_t_now_8 g_t_now_9 g_t_now_10 g_t_now_11 g_t_now_12 g_t_now_13 c_now_lines c_now_parts c_now_acts c_now_actParts c_now_actSpeeds c_now_speeds) [some (.ref a_t), some (.int (wI x1)), some (.int (wI x2))] 48 [] := by
  unfold mb_X8_reverse_48 at h
  refine g_iload_n 2 C dX8_reverse_48 rfl rfl ?_
  refine g_aload_n 0 C dX8_reverse_49 rfl rfl ?_
  refine g_get C fg_X8_22 0 rfl rfl dX8_reverse_50 ?_
  refine g_get C fg_X8_205 1 rfl rfl dX8_reverse_53 ?_
  refine g_st (st' := [.int (wI c_now_parts), .int (wI x2)]) rfl ?_
  refine g_icmp_ge 85 C dX8_reverse_56 (by decide) h (fun h => ?_) (fun h => ?_)
  · refine g_iload_n 1 C dX8_reverse_85 rfl rfl ?_
    cases h
    exact hret 86 _ dX8_reverse_86
  · refine g_iload_n 1 C dX8_reverse_59 rfl rfl ?_
    refine g_aload_n 0 C dX8_reverse_60 rfl rfl ?_
    refine g_get C fg_X8_22 0 rfl rfl dX8_reverse_61 ?_
    refine g_get C fg_X8_124 1 rfl rfl dX8_reverse_64 ?_
    refine g_iload_n 2 C dX8_reverse_67 rfl rfl ?_
    obtain ⟨hc1, h⟩ := chk_some h
    refine g_iald C 4 rfl hc1 rfl dX8_reverse_68 ?_
    refine g_if_ge 76 C dX8_reverse_69 (by decide) h (fun h => ?_) (fun h => ?_)
    · refine g_iconst C dX8_reverse_76 ?_
      refine g_mask [true, false, true] (L' := [some (.ref a_t), none, some (.int (wI x2))]) rfl ?_
      exact wb_X8_reverse_77 C hN h hk48 hret
    · refine g_iconst C dX8_reverse_72 ?_
      refine g_goto (tgt := 77) C dX8_reverse_73 (by decide) ?_
      refine g_mask [true, false, true] (L' := [some (.ref a_t), none, some (.int (wI x2))]) rfl ?_
      exact wb_X8_reverse_77 C hN h hk48 hret
set_option maxRecDepth 100000 in
set_option maxHeartbeats 4000000 in
theorem wl_X8_reverse_48 {F : Nat} {v : Int × Int × (Int → Int) × (Int → Int) × (Int → Int)} {x1 : Int} {x2 : Int} {c_now_parts : Int} {c_now_acts : Int} {c_now_actParts : Int → Int} {c_now_actSpeeds : Int → Int} {c_now_speeds : Int → Int} {c_now_lines : Int} (C : Cx E cX8_reverse RX8 { frames := 1, cells := 0, slots := 0, locals := 22 }) (hN : eN E = 3) (h : ml_X8_reverse_48 F x1 x2 c_now_parts c_now_acts c_now_actParts c_now_actSpeeds c_now_speeds = some v) (hret : ∀ (pc : Nat) (L : List (Option Value)), decode cX8_reverse pc = .ok (.ireturn, 1) → GG E 0 0 (W_X8_reverse (eCy E) a_t a_t_now a_t_now_actParts a_t_now_actSpeeds a_t_now_speeds g_t_0 g_t_1 g_t_2 g_t_4 g_t_5 g_t_6 g_t_7 g_t_8 g_t_9 g_t_10 g_t_11 g_t_12 g_t_13 g_t_now_1 g_t_now_3 g_t_now_5 g_t_now_6 g_t_now_7 g_t_now_8 g_t_now_9 g_t_now_10 g_t_now_11 g_t_now_12 g_t_now_13 c_now_lines c_now_parts (v.2.1) (v.2.2.1) (v.2.2.2.1) (v.2.2.2.2)) L pc [.int (wI (v.1))]) : GG E 0 0 (W_X8_reverse (eCy E) a_t a_t_now a_t_now_actParts a_t_now_actSpeeds a_t_now_speeds g_t_0 g_t_1 g_t_2 g_t_4 g_t_5 g_t_6 g_t_7 g_t_8 g_t_9 g_t_10 g_t_11 g_t_12 g_t_13 g_t_now_1 g_t_now_3 g_t_now_5 g_t_now_6 g_t_now_7 g_t_now_8 g_t_now_9 g_t_now_10 g_t_now_11 g_t_now_12 g_t_now_13 c_now_lines c_now_parts c_now_acts c_now_actParts c_now_actSpeeds c_now_speeds) [some (.ref a_t), some (.int (wI x1)), some (.int (wI x2))] 48 [] := by
  unfold ml_X8_reverse_48 at h
  exact loop_walk (g := fun (q : Int × Int) => GG E 0 0 (W_X8_reverse (eCy E) a_t a_t_now a_t_now_actParts a_t_now_actSpeeds a_t_now_speeds g_t_0 g_t_1 g_t_2 g_t_4 g_t_5 g_t_6 g_t_7 g_t_8 g_t_9 g_t_10 g_t_11 g_t_12 g_t_13 g_t_now_1 g_t_now_3 g_t_now_5 g_t_now_6 g_t_now_7 g_t_now_8 g_t_now_9 g_t_now_10 g_t_now_11 g_t_now_12 g_t_now_13 c_now_lines c_now_parts c_now_acts c_now_actParts c_now_actSpeeds c_now_speeds) [some (.ref a_t), some (.int (wI (q.1))), some (.int (wI (q.2)))] 48 []) (fun k hk q h => wb_X8_reverse_48 C hN h (fun y0 y1 hh => hk (y0, y1) hh) hret) F (x1, x2) h
set_option maxRecDepth 100000 in
set_option maxHeartbeats 4000000 in
theorem wm_X8_reverse {F : Nat} {v : Int × Int × (Int → Int) × (Int → Int) × (Int → Int)} {c_now_lines : Int} {c_now_parts : Int} {c_now_acts : Int} {c_now_actParts : Int → Int} {c_now_actSpeeds : Int → Int} {c_now_speeds : Int → Int} (C : Cx E cX8_reverse RX8 { frames := 1, cells := 0, slots := 0, locals := 22 }) (hN : eN E = 3) (h : m_X8_reverse F c_now_lines c_now_parts c_now_acts c_now_actParts c_now_actSpeeds c_now_speeds = some v) (hret : ∀ (pc : Nat) (L : List (Option Value)), decode cX8_reverse pc = .ok (.ireturn, 1) → GG E 0 0 (W_X8_reverse (eCy E) a_t a_t_now a_t_now_actParts a_t_now_actSpeeds a_t_now_speeds g_t_0 g_t_1 g_t_2 g_t_4 g_t_5 g_t_6 g_t_7 g_t_8 g_t_9 g_t_10 g_t_11 g_t_12 g_t_13 g_t_now_1 g_t_now_3 g_t_now_5 g_t_now_6 g_t_now_7 g_t_now_8 g_t_now_9 g_t_now_10 g_t_now_11 g_t_now_12 g_t_now_13 c_now_lines c_now_parts (v.2.1) (v.2.2.1) (v.2.2.2.1) (v.2.2.2.2)) L pc [.int (wI (v.1))]) : GG E 0 0 (W_X8_reverse (eCy E) a_t a_t_now a_t_now_actParts a_t_now_actSpeeds a_t_now_speeds g_t_0 g_t_1 g_t_2 g_t_4 g_t_5 g_t_6 g_t_7 g_t_8 g_t_9 g_t_10 g_t_11 g_t_12 g_t_13 g_t_now_1 g_t_now_3 g_t_now_5 g_t_now_6 g_t_now_7 g_t_now_8 g_t_now_9 g_t_now_10 g_t_now_11 g_t_now_12 g_t_now_13 c_now_lines c_now_parts c_now_acts c_now_actParts c_now_actSpeeds c_now_speeds) [some (.ref a_t), none, none] 0 [] := by
  unfold m_X8_reverse at h
  refine g_aload_n 0 C dX8_reverse_0 rfl rfl ?_
  refine g_get C fg_X8_22 0 rfl rfl dX8_reverse_1 ?_
  obtain ⟨r1, hr2, h⟩ := bnd1_some h
  refine g_callI [1] [0, 2, 3, 4] [0, 4, 1, 2, 3] C mt_X8_172 (c_X2_isThere _ _ _ _ a_t_now (g_t_now_1) (.int (wI c_now_parts)) (g_t_now_3) (.ref a_t_now_speeds) (g_t_now_5) (g_t_now_6) (g_t_now_7) (g_t_now_8) (g_t_now_9) (g_t_now_10) (g_t_now_11) (g_t_now_12) (g_t_now_13) (.int (wI c_now_acts)) (.ref a_t_now_actParts) (.ref a_t_now_actSpeeds) c_now_lines F hr2) (q0 := 0) rfl (ci := 2) rfl rfl rfl (ws2 := (W_X8_reverse (eCy E) a_t a_t_now a_t_now_actParts a_t_now_actSpeeds a_t_now_speeds g_t_0 g_t_1 g_t_2 g_t_4 g_t_5 g_t_6 g_t_7 g_t_8 g_t_9 g_t_10 g_t_11 g_t_12 g_t_13 g_t_now_1 g_t_now_3 g_t_now_5 g_t_now_6 g_t_now_7 g_t_now_8 g_t_now_9 g_t_now_10 g_t_now_11 g_t_now_12 g_t_now_13 c_now_lines c_now_parts c_now_acts c_now_actParts c_now_actSpeeds c_now_speeds)) rfl rfl rfl (rest := []) rfl rfl rfl dX8_reverse_4 ?_
  refine g_if_ne 13 C dX8_reverse_7 (by decide) h (fun h => ?_) (fun h => ?_)
  · refine g_aload_n 0 C dX8_reverse_13 rfl rfl ?_
    refine g_get C fg_X8_22 0 rfl rfl dX8_reverse_14 ?_
    refine g_get C fg_X8_416 1 rfl rfl dX8_reverse_17 ?_
    refine g_st (st' := [.int (wI c_now_acts)]) rfl ?_
    refine g_bipush C dX8_reverse_20 (by decide) ?_
    refine g_icmp_lt 28 C dX8_reverse_22 (by decide) h (fun h => ?_) (fun h => ?_)
    · refine g_aload_n 0 C dX8_reverse_28 rfl rfl ?_
      refine g_get C fg_X8_22 0 rfl rfl dX8_reverse_29 ?_
      refine g_iconst C dX8_reverse_32 ?_
      refine g_iconst C dX8_reverse_33 ?_
      obtain ⟨o3, o4, o5, hr6, h⟩ := bnd3_some h
      refine g_callV [1, 2, 3] [0, 4] [0, 2, 3, 4, 1] C mt_X8_419 (c_X2_noteAct _ _ _ _ a_t_now a_t_now_actParts a_t_now_actSpeeds (.int (wI c_now_lines)) (g_t_now_1) (.int (wI c_now_parts)) (g_t_now_3) (.ref a_t_now_speeds) (g_t_now_5) (g_t_now_6) (g_t_now_7) (g_t_now_8) (g_t_now_9) (g_t_now_10) (g_t_now_11) (g_t_now_12) (g_t_now_13) (-1) 0 c_now_acts c_now_actParts c_now_actSpeeds F hr6) (q0 := 0) rfl (ci := 2) rfl rfl rfl (ws2 := (W_X8_reverse (eCy E) a_t a_t_now a_t_now_actParts a_t_now_actSpeeds a_t_now_speeds g_t_0 g_t_1 g_t_2 g_t_4 g_t_5 g_t_6 g_t_7 g_t_8 g_t_9 g_t_10 g_t_11 g_t_12 g_t_13 g_t_now_1 g_t_now_3 g_t_now_5 g_t_now_6 g_t_now_7 g_t_now_8 g_t_now_9 g_t_now_10 g_t_now_11 g_t_now_12 g_t_now_13 c_now_lines c_now_parts o3 o4 o5 c_now_speeds)) rfl rfl rfl (rest := []) rfl rfl rfl dX8_reverse_34 ?_
      refine g_aload_n 0 C dX8_reverse_37 rfl rfl ?_
      refine g_get C fg_X8_22 0 rfl rfl dX8_reverse_38 ?_
      obtain ⟨o7, hr8, h⟩ := bnd1_some h
      refine g_callV [1, 4] [0, 2, 3] [0, 3, 1, 2, 4] C mt_X8_423 (c_X2_turnRound _ _ _ _ a_t_now a_t_now_speeds (.int (wI c_now_lines)) (g_t_now_1) (g_t_now_3) (g_t_now_5) (g_t_now_6) (g_t_now_7) (g_t_now_8) (g_t_now_9) (g_t_now_10) (g_t_now_11) (g_t_now_12) (g_t_now_13) (.int (wI o3)) (.ref a_t_now_actParts) (.ref a_t_now_actSpeeds) c_now_parts c_now_speeds F hr8) (q0 := 0) rfl (ci := 2) rfl rfl rfl (ws2 := (W_X8_reverse (eCy E) a_t a_t_now a_t_now_actParts a_t_now_actSpeeds a_t_now_speeds g_t_0 g_t_1 g_t_2 g_t_4 g_t_5 g_t_6 g_t_7 g_t_8 g_t_9 g_t_10 g_t_11 g_t_12 g_t_13 g_t_now_1 g_t_now_3 g_t_now_5 g_t_now_6 g_t_now_7 g_t_now_8 g_t_now_9 g_t_now_10 g_t_now_11 g_t_now_12 g_t_now_13 c_now_lines c_now_parts o3 o4 o5 o7)) rfl rfl rfl (rest := []) rfl rfl rfl dX8_reverse_41 ?_
      refine g_iconst C dX8_reverse_44 ?_
      refine g_istore_n 1 C hN dX8_reverse_45 rfl rfl (L' := [some (.ref a_t), some (.int (wI 0)), none]) rfl ?_
      refine g_iconst C dX8_reverse_46 ?_
      refine g_istore_n 2 C hN dX8_reverse_47 rfl rfl (L' := [some (.ref a_t), some (.int (wI 0)), some (.int (wI 0))]) rfl ?_
      exact wl_X8_reverse_48 C hN h hret
    · refine g_bipush C dX8_reverse_25 (by decide) ?_
      cases h
      exact hret 27 _ dX8_reverse_27
  · refine g_bipush C dX8_reverse_10 (by decide) ?_
    cases h
    exact hret 12 _ dX8_reverse_12
end S_X8_reverse
set_option maxRecDepth 100000 in
set_option maxHeartbeats 4000000 in
theorem c_X8_reverse (l : Launch) (D : va_G) (cy : Nat → ClassId) (ad : AD) (a_t a_t_now a_t_now_actParts a_t_now_actSpeeds a_t_now_speeds : Nat) (g_t_0 : Value) (g_t_1 : Value) (g_t_2 : Value) (g_t_4 : Value) (g_t_5 : Value) (g_t_6 : Value) (g_t_7 : Value) (g_t_8 : Value) (g_t_9 : Value) (g_t_10 : Value) (g_t_11 : Value) (g_t_12 : Value) (g_t_13 : Value) (g_t_now_1 : Value) (g_t_now_3 : Value) (g_t_now_5 : Value) (g_t_now_6 : Value) (g_t_now_7 : Value) (g_t_now_8 : Value) (g_t_now_9 : Value) (g_t_now_10 : Value) (g_t_now_11 : Value) (g_t_now_12 : Value) (g_t_now_13 : Value) (c_now_lines : Int) (c_now_parts : Int) (c_now_acts : Int) (c_now_actParts : Int → Int) (c_now_actSpeeds : Int → Int) (c_now_speeds : Int → Int) (F : Nat) {v : Int × Int × (Int → Int) × (Int → Int) × (Int → Int)} (h : m_X8_reverse F c_now_lines c_now_parts c_now_acts c_now_actParts c_now_actSpeeds c_now_speeds = some v) : Ct l yX8_reverse cX8_reverse 3 (some .int) { frames := 1, cells := 0, slots := 0, locals := 22 } D cy ad [.ref a_t] (W_X8_reverse cy a_t a_t_now a_t_now_actParts a_t_now_actSpeeds a_t_now_speeds g_t_0 g_t_1 g_t_2 g_t_4 g_t_5 g_t_6 g_t_7 g_t_8 g_t_9 g_t_10 g_t_11 g_t_12 g_t_13 g_t_now_1 g_t_now_3 g_t_now_5 g_t_now_6 g_t_now_7 g_t_now_8 g_t_now_9 g_t_now_10 g_t_now_11 g_t_now_12 g_t_now_13 c_now_lines c_now_parts c_now_acts c_now_actParts c_now_actSpeeds c_now_speeds) (W_X8_reverse cy a_t a_t_now a_t_now_actParts a_t_now_actSpeeds a_t_now_speeds g_t_0 g_t_1 g_t_2 g_t_4 g_t_5 g_t_6 g_t_7 g_t_8 g_t_9 g_t_10 g_t_11 g_t_12 g_t_13 g_t_now_1 g_t_now_3 g_t_now_5 g_t_now_6 g_t_now_7 g_t_now_8 g_t_now_9 g_t_now_10 g_t_now_11 g_t_now_12 g_t_now_13 c_now_lines c_now_parts (v.2.1) (v.2.2.1) (v.2.2.2.1) (v.2.2.2.2)) (some (.int (wI (v.1)))) := by
  refine Ct.introI (j := 2) (plainFor_of_name (by decide)) rfl rfl (fun E C e1 e2 e3 e4 e5 hret => ?_)
  subst e1; subst e2; subst e3; subst e4
  exact wm_X8_reverse C e5 h hret
-- MovingStair.undo()I
def W_X8_undo (cy : Nat → ClassId) (a_t a_t_now a_t_now_actParts a_t_now_actSpeeds a_t_now_speeds : Nat) (g_t_0 : Value) (g_t_1 : Value) (g_t_2 : Value) (g_t_4 : Value) (g_t_5 : Value) (g_t_6 : Value) (g_t_7 : Value) (g_t_8 : Value) (g_t_9 : Value) (g_t_10 : Value) (g_t_11 : Value) (g_t_12 : Value) (g_t_13 : Value) (g_t_now_1 : Value) (g_t_now_3 : Value) (g_t_now_5 : Value) (g_t_now_6 : Value) (g_t_now_7 : Value) (g_t_now_8 : Value) (g_t_now_9 : Value) (g_t_now_10 : Value) (g_t_now_11 : Value) (g_t_now_12 : Value) (g_t_now_13 : Value) (c_now_lines : Int) (c_now_parts : Int) (c_now_acts : Int) (c_now_actParts : Int → Int) (c_now_actSpeeds : Int → Int) (c_now_speeds : Int → Int) : va_W := [(a_t, .inr (8, [g_t_0, g_t_1, g_t_2, .ref a_t_now, g_t_4, g_t_5, g_t_6, g_t_7, g_t_8, g_t_9, g_t_10, g_t_11, g_t_12, g_t_13])), (a_t_now, .inr (2, [.int (wI c_now_lines), g_t_now_1, .int (wI c_now_parts), g_t_now_3, .ref a_t_now_speeds, g_t_now_5, g_t_now_6, g_t_now_7, g_t_now_8, g_t_now_9, g_t_now_10, g_t_now_11, g_t_now_12, g_t_now_13, .int (wI c_now_acts), .ref a_t_now_actParts, .ref a_t_now_actSpeeds])), (a_t_now_actParts, .inl (cy 1, 60, .inl (aI c_now_actParts))), (a_t_now_actSpeeds, .inl (cy 1, 60, .inl (aI c_now_actSpeeds))), (a_t_now_speeds, .inl (cy 1, 4, .inl (aI c_now_speeds)))]
def m_X8_undo (F : Nat) (c_now_lines : Int) (c_now_parts : Int) (c_now_acts : Int) (c_now_actParts : Int → Int) (c_now_actSpeeds : Int → Int) (c_now_speeds : Int → Int) : Option (Int × Int × (Int → Int)) :=
  bnd1 (m_X2_isThere F c_now_lines) fun r1 => if wI r1 = wI 0 then
    (some ((-2), c_now_acts, c_now_speeds))
  else
    (if wI c_now_acts = wI 0 then
    (some ((-5), c_now_acts, c_now_speeds))
  else
    (bnd2 (m_X2_takeBackAct F c_now_parts c_now_acts c_now_actParts c_now_actSpeeds c_now_speeds) fun o3 o4 => some (o3, o3, o4)))
section S_X8_undo
variable {E : EE} {a_t a_t_now a_t_now_actParts a_t_now_actSpeeds a_t_now_speeds : Nat} {g_t_0 : Value} {g_t_1 : Value} {g_t_2 : Value} {g_t_4 : Value} {g_t_5 : Value} {g_t_6 : Value} {g_t_7 : Value} {g_t_8 : Value} {g_t_9 : Value} {g_t_10 : Value} {g_t_11 : Value} {g_t_12 : Value} {g_t_13 : Value} {g_t_now_1 : Value} {g_t_now_3 : Value} {g_t_now_5 : Value} {g_t_now_6 : Value} {g_t_now_7 : Value} {g_t_now_8 : Value} {g_t_now_9 : Value} {g_t_now_10 : Value} {g_t_now_11 : Value} {g_t_now_12 : Value} {g_t_now_13 : Value}
set_option maxRecDepth 100000 in
set_option maxHeartbeats 4000000 in
theorem wm_X8_undo {F : Nat} {v : Int × Int × (Int → Int)} {c_now_lines : Int} {c_now_parts : Int} {c_now_acts : Int} {c_now_actParts : Int → Int} {c_now_actSpeeds : Int → Int} {c_now_speeds : Int → Int} (C : Cx E cX8_undo RX8 { frames := 2, cells := 0, slots := 0, locals := 41 }) (hN : eN E = 1) (h : m_X8_undo F c_now_lines c_now_parts c_now_acts c_now_actParts c_now_actSpeeds c_now_speeds = some v) (hret : ∀ (pc : Nat) (L : List (Option Value)), decode cX8_undo pc = .ok (.ireturn, 1) → GG E 0 0 (W_X8_undo (eCy E) a_t a_t_now a_t_now_actParts a_t_now_actSpeeds a_t_now_speeds g_t_0 g_t_1 g_t_2 g_t_4 g_t_5 g_t_6 g_t_7 g_t_8 g_t_9 g_t_10 g_t_11 g_t_12 g_t_13 g_t_now_1 g_t_now_3 g_t_now_5 g_t_now_6 g_t_now_7 g_t_now_8 g_t_now_9 g_t_now_10 g_t_now_11 g_t_now_12 g_t_now_13 c_now_lines c_now_parts (v.2.1) c_now_actParts c_now_actSpeeds (v.2.2)) L pc [.int (wI (v.1))]) : GG E 0 0 (W_X8_undo (eCy E) a_t a_t_now a_t_now_actParts a_t_now_actSpeeds a_t_now_speeds g_t_0 g_t_1 g_t_2 g_t_4 g_t_5 g_t_6 g_t_7 g_t_8 g_t_9 g_t_10 g_t_11 g_t_12 g_t_13 g_t_now_1 g_t_now_3 g_t_now_5 g_t_now_6 g_t_now_7 g_t_now_8 g_t_now_9 g_t_now_10 g_t_now_11 g_t_now_12 g_t_now_13 c_now_lines c_now_parts c_now_acts c_now_actParts c_now_actSpeeds c_now_speeds) [some (.ref a_t)] 0 [] := by
  unfold m_X8_undo at h
  refine g_aload_n 0 C dX8_undo_0 rfl rfl ?_
  refine g_get C fg_X8_22 0 rfl rfl dX8_undo_1 ?_
  obtain ⟨r1, hr2, h⟩ := bnd1_some h
  refine g_callI [1] [0, 2, 3, 4] [0, 4, 1, 2, 3] C mt_X8_172 (c_X2_isThere _ _ _ _ a_t_now (g_t_now_1) (.int (wI c_now_parts)) (g_t_now_3) (.ref a_t_now_speeds) (g_t_now_5) (g_t_now_6) (g_t_now_7) (g_t_now_8) (g_t_now_9) (g_t_now_10) (g_t_now_11) (g_t_now_12) (g_t_now_13) (.int (wI c_now_acts)) (.ref a_t_now_actParts) (.ref a_t_now_actSpeeds) c_now_lines F hr2) (q0 := 0) rfl (ci := 2) rfl rfl rfl (ws2 := (W_X8_undo (eCy E) a_t a_t_now a_t_now_actParts a_t_now_actSpeeds a_t_now_speeds g_t_0 g_t_1 g_t_2 g_t_4 g_t_5 g_t_6 g_t_7 g_t_8 g_t_9 g_t_10 g_t_11 g_t_12 g_t_13 g_t_now_1 g_t_now_3 g_t_now_5 g_t_now_6 g_t_now_7 g_t_now_8 g_t_now_9 g_t_now_10 g_t_now_11 g_t_now_12 g_t_now_13 c_now_lines c_now_parts c_now_acts c_now_actParts c_now_actSpeeds c_now_speeds)) rfl rfl rfl (rest := []) rfl rfl rfl dX8_undo_4 ?_
  refine g_if_ne 13 C dX8_undo_7 (by decide) h (fun h => ?_) (fun h => ?_)
  · refine g_aload_n 0 C dX8_undo_13 rfl rfl ?_
    refine g_get C fg_X8_22 0 rfl rfl dX8_undo_14 ?_
    refine g_get C fg_X8_416 1 rfl rfl dX8_undo_17 ?_
    refine g_st (st' := [.int (wI c_now_acts)]) rfl ?_
    refine g_if_ne 26 C dX8_undo_20 (by decide) h (fun h => ?_) (fun h => ?_)
    · refine g_aload_n 0 C dX8_undo_26 rfl rfl ?_
      refine g_get C fg_X8_22 0 rfl rfl dX8_undo_27 ?_
      obtain ⟨o3, o4, hr5, h⟩ := bnd2_some h
      refine g_callV [1, 2, 3, 4] [0] [0, 1, 2, 3, 4] C mt_X8_426 (c_X2_takeBackAct _ _ _ _ a_t_now a_t_now_actParts a_t_now_actSpeeds a_t_now_speeds (.int (wI c_now_lines)) (g_t_now_1) (g_t_now_3) (g_t_now_5) (g_t_now_6) (g_t_now_7) (g_t_now_8) (g_t_now_9) (g_t_now_10) (g_t_now_11) (g_t_now_12) (g_t_now_13) c_now_parts c_now_acts c_now_actParts c_now_actSpeeds c_now_speeds F hr5) (q0 := 0) rfl (ci := 2) rfl rfl rfl (ws2 := (W_X8_undo (eCy E) a_t a_t_now a_t_now_actParts a_t_now_actSpeeds a_t_now_speeds g_t_0 g_t_1 g_t_2 g_t_4 g_t_5 g_t_6 g_t_7 g_t_8 g_t_9 g_t_10 g_t_11 g_t_12 g_t_13 g_t_now_1 g_t_now_3 g_t_now_5 g_t_now_6 g_t_now_7 g_t_now_8 g_t_now_9 g_t_now_10 g_t_now_11 g_t_now_12 g_t_now_13 c_now_lines c_now_parts o3 c_now_actParts c_now_actSpeeds o4)) rfl rfl rfl (rest := []) rfl rfl rfl dX8_undo_30 ?_
      refine g_aload_n 0 C dX8_undo_33 rfl rfl ?_
      refine g_get C fg_X8_22 0 rfl rfl dX8_undo_34 ?_
      refine g_get C fg_X8_416 1 rfl rfl dX8_undo_37 ?_
      refine g_st (st' := [.int (wI o3)]) rfl ?_
      cases h
      exact hret 40 _ dX8_undo_40
    · refine g_bipush C dX8_undo_23 (by decide) ?_
      cases h
      exact hret 25 _ dX8_undo_25
  · refine g_bipush C dX8_undo_10 (by decide) ?_
    cases h
    exact hret 12 _ dX8_undo_12
end S_X8_undo
set_option maxRecDepth 100000 in
set_option maxHeartbeats 4000000 in
theorem c_X8_undo (l : Launch) (D : va_G) (cy : Nat → ClassId) (ad : AD) (a_t a_t_now a_t_now_actParts a_t_now_actSpeeds a_t_now_speeds : Nat) (g_t_0 : Value) (g_t_1 : Value) (g_t_2 : Value) (g_t_4 : Value) (g_t_5 : Value) (g_t_6 : Value) (g_t_7 : Value) (g_t_8 : Value) (g_t_9 : Value) (g_t_10 : Value) (g_t_11 : Value) (g_t_12 : Value) (g_t_13 : Value) (g_t_now_1 : Value) (g_t_now_3 : Value) (g_t_now_5 : Value) (g_t_now_6 : Value) (g_t_now_7 : Value) (g_t_now_8 : Value) (g_t_now_9 : Value) (g_t_now_10 : Value) (g_t_now_11 : Value) (g_t_now_12 : Value) (g_t_now_13 : Value) (c_now_lines : Int) (c_now_parts : Int) (c_now_acts : Int) (c_now_actParts : Int → Int) (c_now_actSpeeds : Int → Int) (c_now_speeds : Int → Int) (F : Nat) {v : Int × Int × (Int → Int)} (h : m_X8_undo F c_now_lines c_now_parts c_now_acts c_now_actParts c_now_actSpeeds c_now_speeds = some v) : Ct l yX8_undo cX8_undo 1 (some .int) { frames := 2, cells := 0, slots := 0, locals := 41 } D cy ad [.ref a_t] (W_X8_undo cy a_t a_t_now a_t_now_actParts a_t_now_actSpeeds a_t_now_speeds g_t_0 g_t_1 g_t_2 g_t_4 g_t_5 g_t_6 g_t_7 g_t_8 g_t_9 g_t_10 g_t_11 g_t_12 g_t_13 g_t_now_1 g_t_now_3 g_t_now_5 g_t_now_6 g_t_now_7 g_t_now_8 g_t_now_9 g_t_now_10 g_t_now_11 g_t_now_12 g_t_now_13 c_now_lines c_now_parts c_now_acts c_now_actParts c_now_actSpeeds c_now_speeds) (W_X8_undo cy a_t a_t_now a_t_now_actParts a_t_now_actSpeeds a_t_now_speeds g_t_0 g_t_1 g_t_2 g_t_4 g_t_5 g_t_6 g_t_7 g_t_8 g_t_9 g_t_10 g_t_11 g_t_12 g_t_13 g_t_now_1 g_t_now_3 g_t_now_5 g_t_now_6 g_t_now_7 g_t_now_8 g_t_now_9 g_t_now_10 g_t_now_11 g_t_now_12 g_t_now_13 c_now_lines c_now_parts (v.2.1) c_now_actParts c_now_actSpeeds (v.2.2)) (some (.int (wI (v.1)))) := by
  refine Ct.introI (j := 0) (plainFor_of_name (by decide)) rfl rfl (fun E C e1 e2 e3 e4 e5 hret => ?_)
  subst e1; subst e2; subst e3; subst e4
  exact wm_X8_undo C e5 h hret
-- MovingStair.anew()I
def W_X8_anew (cy : Nat → ClassId) (a_t a_t_now a_t_now_actParts a_t_now_actSpeeds a_t_now_speeds : Nat) (g_t_0 : Value) (g_t_1 : Value) (g_t_2 : Value) (g_t_4 : Value) (g_t_5 : Value) (g_t_6 : Value) (g_t_7 : Value) (g_t_8 : Value) (g_t_9 : Value) (g_t_10 : Value) (g_t_11 : Value) (g_t_12 : Value) (g_t_13 : Value) (g_t_now_1 : Value) (g_t_now_3 : Value) (g_t_now_5 : Value) (g_t_now_6 : Value) (g_t_now_7 : Value) (g_t_now_8 : Value) (g_t_now_9 : Value) (g_t_now_10 : Value) (g_t_now_11 : Value) (g_t_now_12 : Value) (g_t_now_13 : Value) (c_now_lines : Int) (c_now_parts : Int) (c_now_acts : Int) (c_now_actParts : Int → Int) (c_now_actSpeeds : Int → Int) (c_now_speeds : Int → Int) : va_W := [(a_t, .inr (8, [g_t_0, g_t_1, g_t_2, .ref a_t_now, g_t_4, g_t_5, g_t_6, g_t_7, g_t_8, g_t_9, g_t_10, g_t_11, g_t_12, g_t_13])), (a_t_now, .inr (2, [.int (wI c_now_lines), g_t_now_1, .int (wI c_now_parts), g_t_now_3, .ref a_t_now_speeds, g_t_now_5, g_t_now_6, g_t_now_7, g_t_now_8, g_t_now_9, g_t_now_10, g_t_now_11, g_t_now_12, g_t_now_13, .int (wI c_now_acts), .ref a_t_now_actParts, .ref a_t_now_actSpeeds])), (a_t_now_actParts, .inl (cy 1, 60, .inl (aI c_now_actParts))), (a_t_now_actSpeeds, .inl (cy 1, 60, .inl (aI c_now_actSpeeds))), (a_t_now_speeds, .inl (cy 1, 4, .inl (aI c_now_speeds)))]
def mb_X8_anew_23 (F : Nat) (k23 : Int → Int → (Int → Int) → Option (Int × Int × (Int → Int))) (x1 : Int) (x2 : Int) (c_now_parts : Int) (c_now_acts : Int) (c_now_actParts : Int → Int) (c_now_actSpeeds : Int → Int) (c_now_speeds : Int → Int) : Option (Int × Int × (Int → Int)) :=
  if wI x1 ≤ wI x2 then
    (some (x1, c_now_acts, c_now_speeds))
  else
    (bnd2 (m_X2_takeBackAct F c_now_parts c_now_acts c_now_actParts c_now_actSpeeds c_now_speeds) fun o1 o2 => k23 (x2 + 1) o1 o2)
def ml_X8_anew_23 (F : Nat) (x1 : Int) (x2 : Int) (c_now_parts : Int) (c_now_acts : Int) (c_now_actParts : Int → Int) (c_now_actSpeeds : Int → Int) (c_now_speeds : Int → Int) : Option (Int × Int × (Int → Int)) :=
  loopN (fun (k : Int × Int × (Int → Int) → Option (Int × Int × (Int → Int))) q => mb_X8_anew_23 F (fun y0 y1 y2 => k (y0, y1, y2)) x1 q.1 c_now_parts q.2.1 c_now_actParts c_now_actSpeeds q.2.2) F (x2, c_now_acts, c_now_speeds)
def m_X8_anew (F : Nat) (c_now_lines : Int) (c_now_parts : Int) (c_now_acts : Int) (c_now_actParts : Int → Int) (c_now_actSpeeds : Int → Int) (c_now_speeds : Int → Int) : Option (Int × Int × (Int → Int)) :=
  bnd1 (m_X2_isThere F c_now_lines) fun r1 => if wI r1 = wI 0 then
    (some ((-2), c_now_acts, c_now_speeds))
  else
    (ml_X8_anew_23 F c_now_acts 0 c_now_parts c_now_acts c_now_actParts c_now_actSpeeds c_now_speeds)
section S_X8_anew
variable {E : EE} {a_t a_t_now a_t_now_actParts a_t_now_actSpeeds a_t_now_speeds : Nat} {g_t_0 : Value} {g_t_1 : Value} {g_t_2 : Value} {g_t_4 : Value} {g_t_5 : Value} {g_t_6 : Value} {g_t_7 : Value} {g_t_8 : Value} {g_t_9 : Value} {g_t_10 : Value} {g_t_11 : Value} {g_t_12 : Value} {g_t_13 : Value} {g_t_now_1 : Value} {g_t_now_3 : Value} {g_t_now_5 : Value} {g_t_now_6 : Value} {g_t_now_7 : Value} {g_t_now_8 : Value} {g_t_now_9 : Value} {g_t_now_10 : Value} {g_t_now_11 : Value} {g_t_now_12 : Value} {g_t_now_13 : Value}
set_option maxRecDepth 100000 in
set_option maxHeartbeats 4000000 in
theorem wb_X8_anew_23 {F : Nat} {k23 : Int → Int → (Int → Int) → Option (Int × Int × (Int → Int))} {v : Int × Int × (Int → Int)} {x1 : Int} {x2 : Int} {c_now_parts : Int} {c_now_acts : Int} {c_now_actParts : Int → Int} {c_now_actSpeeds : Int → Int} {c_now_speeds : Int → Int} {c_now_lines : Int} (C : Cx E cX8_anew RX8 { frames := 2, cells := 0, slots := 0, locals := 41 }) (hN : eN E = 3) (h : mb_X8_anew_23 F k23 x1 x2 c_now_parts c_now_acts c_now_actParts c_now_actSpeeds c_now_speeds = some v) (hk23 : ∀ (y_x2 : Int) (y_c_now_acts : Int) (y_c_now_speeds : Int → Int), k23 y_x2 y_c_now_acts y_c_now_speeds = some v → GG E 0 0 (W_X8_anew (eCy E) a_t a_t_now a_t_now_actParts a_t_now_actSpeeds a_t_now_speeds g_t_0 g_t_1 g_t_2 g_t_4 g_t_5 g_t_6 g_t_7 g_t_8 g_t_9 g_t_10 g_t_11 g_t_12 g_t_13 g_t_now_1 g_t_now_3 g_t_now_5 g_t_now_6 g_t_now_7 g_t_now_8 g_t_now_9 g_t_now_10 g_t_now_11 g_t_now_12 g_t_now_13 c_now_lines c_now_parts y_c_now_acts c_now_actParts c_now_actSpeeds y_c_now_speeds) [some (.ref a_t), some (.int (wI x1)), some (.int (wI y_x2))] 23 []) (hret : ∀ (pc : Nat) (L : List (Option Value)), decode cX8_anew pc = .ok (.ireturn, 1) → GG E 0 0 (W_X8_anew (eCy E) a_t a_t_now a_t_now_actParts a_t_now_actSpeeds a_t_now_speeds g_t_0 g_t_1 g_t_2 g_t_4 g_t_5 g_t_6 g_t_7 g_t_8 g_t_9 g_t_10 g_t_11 g_t_12 g_t_13 g_t_now_1 g_t_now_3 g_t_now_5 g_t_now_6 g_t_now_7 g_t_now_8 g_t_now_9 g_t_now_10 g_t_now_11 g_t_now_12 g_t_now_13 c_now_lines c_now_parts (v.2.1) c_now_actParts c_now_actSpeeds (v.2.2)) L pc [.int (wI (v.1))]) : GG E 0 0 (W_X8_anew (eCy E) a_t a_t_now a_t_now_actParts a_t_now_actSpeeds a_t_now_speeds g_t_0 g_t_1 g_t_2 g_t_4 g_t_5 g_t_6 g_t_7 g_t_8 g_t_9 g_t_10 g_t_11 g_t_12 g_t_13 g_t_now_1 g_t_now_3 g_t_now_5 g_t_now_6 g_t_now_7 g_t_now_8 g_t_now_9 g_t_now_10 g_t_now_11 g_t_now_12 g_t_now_13 c_now_lines c_now_parts c_now_acts c_now_actParts c_now_actSpeeds c_now_speeds) [some (.ref a_t), some (.int (wI x1)), some (.int (wI x2))] 23 [] := by
  unfold mb_X8_anew_23 at h
  refine g_iload_n 2 C dX8_anew_23 rfl rfl ?_
  refine g_iload_n 1 C dX8_anew_24 rfl rfl ?_
  refine g_icmp_ge 41 C dX8_anew_25 (by decide) h (fun h => ?_) (fun h => ?_)
  · refine g_iload_n 1 C dX8_anew_41 rfl rfl ?_
    cases h
    exact hret 42 _ dX8_anew_42
  · refine g_aload_n 0 C dX8_anew_28 rfl rfl ?_
    refine g_get C fg_X8_22 0 rfl rfl dX8_anew_29 ?_
    obtain ⟨o1, o2, hr3, h⟩ := bnd2_some h
    refine g_callV [1, 2, 3, 4] [0] [0, 1, 2, 3, 4] C mt_X8_426 (c_X2_takeBackAct _ _ _ _ a_t_now a_t_now_actParts a_t_now_actSpeeds a_t_now_speeds (.int (wI c_now_lines)) (g_t_now_1) (g_t_now_3) (g_t_now_5) (g_t_now_6) (g_t_now_7) (g_t_now_8) (g_t_now_9) (g_t_now_10) (g_t_now_11) (g_t_now_12) (g_t_now_13) c_now_parts c_now_acts c_now_actParts c_now_actSpeeds c_now_speeds F hr3) (q0 := 0) rfl (ci := 2) rfl rfl rfl (ws2 := (W_X8_anew (eCy E) a_t a_t_now a_t_now_actParts a_t_now_actSpeeds a_t_now_speeds g_t_0 g_t_1 g_t_2 g_t_4 g_t_5 g_t_6 g_t_7 g_t_8 g_t_9 g_t_10 g_t_11 g_t_12 g_t_13 g_t_now_1 g_t_now_3 g_t_now_5 g_t_now_6 g_t_now_7 g_t_now_8 g_t_now_9 g_t_now_10 g_t_now_11 g_t_now_12 g_t_now_13 c_now_lines c_now_parts o1 c_now_actParts c_now_actSpeeds o2)) rfl rfl rfl (rest := []) rfl rfl rfl dX8_anew_32 ?_
    refine g_iinc C hN dX8_anew_35 rfl rfl (L' := [some (.ref a_t), some (.int (wI x1)), some (.int (wI (x2 + 1)))]) rfl ?_
    refine g_goto (tgt := 23) C dX8_anew_38 (by decide) ?_
    exact hk23 _ _ _ h
set_option maxRecDepth 100000 in
set_option maxHeartbeats 4000000 in
theorem wl_X8_anew_23 {F : Nat} {v : Int × Int × (Int → Int)} {x1 : Int} {x2 : Int} {c_now_parts : Int} {c_now_acts : Int} {c_now_actParts : Int → Int} {c_now_actSpeeds : Int → Int} {c_now_speeds : Int → Int} {c_now_lines : Int} (C : Cx E cX8_anew RX8 { frames := 2, cells := 0, slots := 0, locals := 41 }) (hN : eN E = 3) (h : ml_X8_anew_23 F x1 x2 c_now_parts c_now_acts c_now_actParts c_now_actSpeeds c_now_speeds = some v) (hret : ∀ (pc : Nat) (L : List (Option Value)), decode cX8_anew pc = .ok (.ireturn, 1) → GG E 0 0 (W_X8_anew (eCy E) a_t a_t_now a_t_now_actParts a_t_now_actSpeeds a_t_now_speeds g_t_0 g_t_1 g_t_2 g_t_4 g_t_5 g_t_6 g_t_7 g_t_8 g_t_9 g_t_10 g_t_11 g_t_12 g_t_13 g_t_now_1 g_t_now_3 g_t_now_5 g_t_now_6 g_t_now_7 g_t_now_8 g_t_now_9 g_t_now_10 g_t_now_11 g_t_now_12 g_t_now_13 c_now_lines c_now_parts (v.2.1) c_now_actParts c_now_actSpeeds (v.2.2)) L pc [.int (wI (v.1))]) : GG E 0 0 (W_X8_anew (eCy E) a_t a_t_now a_t_now_actParts a_t_now_actSpeeds a_t_now_speeds g_t_0 g_t_1 g_t_2 g_t_4 g_t_5 g_t_6 g_t_7 g_t_8 g_t_9 g_t_10 g_t_11 g_t_12 g_t_13 g_t_now_1 g_t_now_3 g_t_now_5 g_t_now_6 g_t_now_7 g_t_now_8 g_t_now_9 g_t_now_10 g_t_now_11 g_t_now_12 g_t_now_13 c_now_lines c_now_parts c_now_acts c_now_actParts c_now_actSpeeds c_now_speeds) [some (.ref a_t), some (.int (wI x1)), some (.int (wI x2))] 23 [] := by
  unfold ml_X8_anew_23 at h
  exact loop_walk (g := fun (q : Int × Int × (Int → Int)) => GG E 0 0 (W_X8_anew (eCy E) a_t a_t_now a_t_now_actParts a_t_now_actSpeeds a_t_now_speeds g_t_0 g_t_1 g_t_2 g_t_4 g_t_5 g_t_6 g_t_7 g_t_8 g_t_9 g_t_10 g_t_11 g_t_12 g_t_13 g_t_now_1 g_t_now_3 g_t_now_5 g_t_now_6 g_t_now_7 g_t_now_8 g_t_now_9 g_t_now_10 g_t_now_11 g_t_now_12 g_t_now_13 c_now_lines c_now_parts (q.2.1) c_now_actParts c_now_actSpeeds (q.2.2)) [some (.ref a_t), some (.int (wI x1)), some (.int (wI (q.1)))] 23 []) (fun k hk q h => wb_X8_anew_23 C hN h (fun y0 y1 y2 hh => hk (y0, y1, y2) hh) hret) F (x2, c_now_acts, c_now_speeds) h
set_option maxRecDepth 100000 in
set_option maxHeartbeats 4000000 in
theorem wm_X8_anew {F : Nat} {v : Int × Int × (Int → Int)} {c_now_lines : Int} {c_now_parts : Int} {c_now_acts : Int} {c_now_actParts : Int → Int} {c_now_actSpeeds : Int → Int} {c_now_speeds : Int → Int} (C : Cx E cX8_anew RX8 { frames := 2, cells := 0, slots := 0, locals := 41 }) (hN : eN E = 3) (h : m_X8_anew F c_now_lines c_now_parts c_now_acts c_now_actParts c_now_actSpeeds c_now_speeds = some v) (hret : ∀ (pc : Nat) (L : List (Option Value)), decode cX8_anew pc = .ok (.ireturn, 1) → GG E 0 0 (W_X8_anew (eCy E) a_t a_t_now a_t_now_actParts a_t_now_actSpeeds a_t_now_speeds g_t_0 g_t_1 g_t_2 g_t_4 g_t_5 g_t_6 g_t_7 g_t_8 g_t_9 g_t_10 g_t_11 g_t_12 g_t_13 g_t_now_1 g_t_now_3 g_t_now_5 g_t_now_6 g_t_now_7 g_t_now_8 g_t_now_9 g_t_now_10 g_t_now_11 g_t_now_12 g_t_now_13 c_now_lines c_now_parts (v.2.1) c_now_actParts c_now_actSpeeds (v.2.2)) L pc [.int (wI (v.1))]) : GG E 0 0 (W_X8_anew (eCy E) a_t a_t_now a_t_now_actParts a_t_now_actSpeeds a_t_now_speeds g_t_0 g_t_1 g_t_2 g_t_4 g_t_5 g_t_6 g_t_7 g_t_8 g_t_9 g_t_10 g_t_11 g_t_12 g_t_13 g_t_now_1 g_t_now_3 g_t_now_5 g_t_now_6 g_t_now_7 g_t_now_8 g_t_now_9 g_t_now_10 g_t_now_11 g_t_now_12 g_t_now_13 c_now_lines c_now_parts c_now_acts c_now_actParts c_now_actSpeeds c_now_speeds) [some (.ref a_t), none, none] 0 [] := by
  unfold m_X8_anew at h
  refine g_aload_n 0 C dX8_anew_0 rfl rfl ?_
  refine g_get C fg_X8_22 0 rfl rfl dX8_anew_1 ?_
  obtain ⟨r1, hr2, h⟩ := bnd1_some h
  refine g_callI [1] [0, 2, 3, 4] [0, 4, 1, 2, 3] C mt_X8_172 (c_X2_isThere _ _ _ _ a_t_now (g_t_now_1) (.int (wI c_now_parts)) (g_t_now_3) (.ref a_t_now_speeds) (g_t_now_5) (g_t_now_6) (g_t_now_7) (g_t_now_8) (g_t_now_9) (g_t_now_10) (g_t_now_11) (g_t_now_12) (g_t_now_13) (.int (wI c_now_acts)) (.ref a_t_now_actParts) (.ref a_t_now_actSpeeds) c_now_lines F hr2) (q0 := 0) rfl (ci := 2) rfl rfl rfl (ws2 := (W_X8_anew (eCy E) a_t a_t_now a_t_now_actParts a_t_now_actSpeeds a_t_now_speeds g_t_0 g_t_1 g_t_2 g_t_4 g_t_5 g_t_6 g_t_7 g_t_8 g_t_9 g_t_10 g_t_11 g_t_12 g_t_13 g_t_now_1 g_t_now_3 g_t_now_5 g_t_now_6 g_t_now_7 g_t_now_8 g_t_now_9 g_t_now_10 g_t_now_11 g_t_now_12 g_t_now_13 c_now_lines c_now_parts c_now_acts c_now_actParts c_now_actSpeeds c_now_speeds)) rfl rfl rfl (rest := []) rfl rfl rfl dX8_anew_4 ?_
  refine g_if_ne 13 C dX8_anew_7 (by decide) h (fun h => ?_) (fun h => ?_)
  · refine g_aload_n 0 C dX8_anew_13 rfl rfl ?_
    refine g_get C fg_X8_22 0 rfl rfl dX8_anew_14 ?_
    refine g_get C fg_X8_416 1 rfl rfl dX8_anew_17 ?_
    refine g_st (st' := [.int (wI c_now_acts)]) rfl ?_
    refine g_istore_n 1 C hN dX8_anew_20 rfl rfl (L' := [some (.ref a_t), some (.int (wI c_now_acts)), none]) rfl ?_
    refine g_iconst C dX8_anew_21 ?_
    refine g_istore_n 2 C hN dX8_anew_22 rfl rfl (L' := [some (.ref a_t), some (.int (wI c_now_acts)), some (.int (wI 0))]) rfl ?_
    exact wl_X8_anew_23 C hN h hret
  · refine g_bipush C dX8_anew_10 (by decide) ?_
    cases h
    exact hret 12 _ dX8_anew_12
end S_X8_anew
set_option maxRecDepth 100000 in
set_option maxHeartbeats 4000000 in
theorem c_X8_anew (l : Launch) (D : va_G) (cy : Nat → ClassId) (ad : AD) (a_t a_t_now a_t_now_actParts a_t_now_actSpeeds a_t_now_speeds : Nat) (g_t_0 : Value) (g_t_1 : Value) (g_t_2 : Value) (g_t_4 : Value) (g_t_5 : Value) (g_t_6 : Value) (g_t_7 : Value) (g_t_8 : Value) (g_t_9 : Value) (g_t_10 : Value) (g_t_11 : Value) (g_t_12 : Value) (g_t_13 : Value) (g_t_now_1 : Value) (g_t_now_3 : Value) (g_t_now_5 : Value) (g_t_now_6 : Value) (g_t_now_7 : Value) (g_t_now_8 : Value) (g_t_now_9 : Value) (g_t_now_10 : Value) (g_t_now_11 : Value) (g_t_now_12 : Value) (g_t_now_13 : Value) (c_now_lines : Int) (c_now_parts : Int) (c_now_acts : Int) (c_now_actParts : Int → Int) (c_now_actSpeeds : Int → Int) (c_now_speeds : Int → Int) (F : Nat) {v : Int × Int × (Int → Int)} (h : m_X8_anew F c_now_lines c_now_parts c_now_acts c_now_actParts c_now_actSpeeds c_now_speeds = some v) : Ct l yX8_anew cX8_anew 3 (some .int) { frames := 2, cells := 0, slots := 0, locals := 41 } D cy ad [.ref a_t] (W_X8_anew cy a_t a_t_now a_t_now_actParts a_t_now_actSpeeds a_t_now_speeds g_t_0 g_t_1 g_t_2 g_t_4 g_t_5 g_t_6 g_t_7 g_t_8 g_t_9 g_t_10 g_t_11 g_t_12 g_t_13 g_t_now_1 g_t_now_3 g_t_now_5 g_t_now_6 g_t_now_7 g_t_now_8 g_t_now_9 g_t_now_10 g_t_now_11 g_t_now_12 g_t_now_13 c_now_lines c_now_parts c_now_acts c_now_actParts c_now_actSpeeds c_now_speeds) (W_X8_anew cy a_t a_t_now a_t_now_actParts a_t_now_actSpeeds a_t_now_speeds g_t_0 g_t_1 g_t_2 g_t_4 g_t_5 g_t_6 g_t_7 g_t_8 g_t_9 g_t_10 g_t_11 g_t_12 g_t_13 g_t_now_1 g_t_now_3 g_t_now_5 g_t_now_6 g_t_now_7 g_t_now_8 g_t_now_9 g_t_now_10 g_t_now_11 g_t_now_12 g_t_now_13 c_now_lines c_now_parts (v.2.1) c_now_actParts c_now_actSpeeds (v.2.2)) (some (.int (wI (v.1)))) := by
  refine Ct.introI (j := 2) (plainFor_of_name (by decide)) rfl rfl (fun E C e1 e2 e3 e4 e5 hret => ?_)
  subst e1; subst e2; subst e3; subst e4
  exact wm_X8_anew C e5 h hret
-- MovingStair.isNoSeed(I)Z
def W_X8_isNoSeed (cy : Nat → ClassId) : va_W := []
def m_X8_isNoSeed (F : Nat) (x0 : Int) : Option (Int) :=
  chk (r32 x0) <| bnd1 (m_X8_isOut F x0 0 2000000000) fun r2 => chk (r2 = 0 ∨ r2 = 1) <| some r2
section S_X8_isNoSeed
variable {E : EE}
set_option maxRecDepth 100000 in
set_option maxHeartbeats 4000000 in
theorem wm_X8_isNoSeed {F : Nat} {v : Int} {x0 : Int} (C : Cx E cX8_isNoSeed RX8 { frames := 1, cells := 0, slots := 0, locals := 25 }) (hN : eN E = 1) (h : m_X8_isNoSeed F x0 = some v) (hret : ∀ (pc : Nat) (L : List (Option Value)), narrow .boolean (.int (wI v)) = .int (wI v) → decode cX8_isNoSeed pc = .ok (.ireturn, 1) → GG E 0 0 (W_X8_isNoSeed (eCy E)) L pc [.int (wI v)]) : GG E 0 0 (W_X8_isNoSeed (eCy E)) [some (.int (wI x0))] 0 [] := by
  unfold m_X8_isNoSeed at h
  refine g_iload_n 0 C dX8_isNoSeed_0 rfl rfl ?_
  obtain ⟨hc1, h⟩ := chk_some h
  refine g_i2l C dX8_isNoSeed_1 hc1 ?_
  refine g_lconst (x := 0) C dX8_isNoSeed_2 (by decide) ?_
  refine g_ldc2 (v := 2000000000) C mc_X8_438 dX8_isNoSeed_3 ?_
  obtain ⟨r2, hr3, h⟩ := bnd1_some h
  refine g_callSI [] [] [] C mt_X8_161 (c_X8_isOut _ _ _ _ x0 0 2000000000 F hr3) rfl rfl (ws2 := (W_X8_isNoSeed (eCy E))) rfl rfl rfl (rest := []) rfl rfl rfl dX8_isNoSeed_6 ?_
  obtain ⟨hc4, h⟩ := chk_some h
  cases h
  exact hret 9 _ (bool_nar hc4).1 dX8_isNoSeed_9
end S_X8_isNoSeed
set_option maxRecDepth 100000 in
set_option maxHeartbeats 4000000 in
theorem c_X8_isNoSeed (l : Launch) (D : va_G) (cy : Nat → ClassId) (ad : AD) (x0 : Int) (F : Nat) {v : Int} (h : m_X8_isNoSeed F x0 = some v) : Ct l yX8_isNoSeed cX8_isNoSeed 1 (some .boolean) { frames := 1, cells := 0, slots := 0, locals := 25 } D cy ad [.int (wI x0)] (W_X8_isNoSeed cy) (W_X8_isNoSeed cy) (some (.int (wI v))) := by
  refine Ct.introZ (j := 0) (plainFor_of_name (by decide)) rfl rfl (fun E C e1 e2 e3 e4 e5 hret => ?_)
  subst e1; subst e2; subst e3; subst e4
  exact wm_X8_isNoSeed C e5 h hret
-- MovingStair.stillFrom(J)I
def W_X8_stillFrom (cy : Nat → ClassId) (a_t a_t_now : Nat) (g_t_0 : Value) (g_t_1 : Value) (g_t_2 : Value) (g_t_4 : Value) (g_t_5 : Value) (g_t_6 : Value) (g_t_7 : Value) (g_t_8 : Value) (g_t_9 : Value) (g_t_10 : Value) (g_t_11 : Value) (g_t_12 : Value) (g_t_13 : Value) (g_t_now_0 : Value) (g_t_now_3 : Value) (g_t_now_4 : Value) (g_t_now_5 : Value) (g_t_now_6 : Value) (g_t_now_7 : Value) (g_t_now_8 : Value) (g_t_now_9 : Value) (g_t_now_10 : Value) (g_t_now_11 : Value) (g_t_now_12 : Value) (g_t_now_13 : Value) (g_t_now_14 : Value) (g_t_now_15 : Value) (g_t_now_16 : Value) (c_now_odds : Int) (c_now_parts : Int) : va_W := [(a_t, .inr (8, [g_t_0, g_t_1, g_t_2, .ref a_t_now, g_t_4, g_t_5, g_t_6, g_t_7, g_t_8, g_t_9, g_t_10, g_t_11, g_t_12, g_t_13])), (a_t_now, .inr (2, [g_t_now_0, .int (wI c_now_odds), .int (wI c_now_parts), g_t_now_3, g_t_now_4, g_t_now_5, g_t_now_6, g_t_now_7, g_t_now_8, g_t_now_9, g_t_now_10, g_t_now_11, g_t_now_12, g_t_now_13, g_t_now_14, g_t_now_15, g_t_now_16]))]
def mb_X8_stillFrom_64 (F : Nat) (k8 : Int → Int → Int → Option (Int)) (x3 : Int) (x5 : Int) (x6 : Int) (c_now_odds : Int) (c_now_parts : Int) : Option (Int) :=
  k8 x3 x5 (x6 + 1)
def mb_X8_stillFrom_8 (F : Nat) (k8 : Int → Int → Int → Option (Int)) (x3 : Int) (x5 : Int) (x6 : Int) (c_now_odds : Int) (c_now_parts : Int) : Option (Int) :=
  if wI c_now_parts ≤ wI x6 then
    (some x5)
  else
    (chk (dv64 ((1103515245 * x3) + 12345) 2147483648) <| nam (((1103515245 * x3) + 12345).tmod 2147483648) fun y2 => chk (dv64 y2 65536) <| chk (dv64 (y2.tdiv 65536) 100) <| chk (r32 c_now_odds) <| if wJ c_now_odds ≤ wJ ((y2.tdiv 65536).tmod 100) then
    (mb_X8_stillFrom_64 F k8 y2 x5 x6 c_now_odds c_now_parts)
  else
    (nam (orI x5 (shlI 1 x6)) fun y6 => mb_X8_stillFrom_64 F k8 y2 y6 x6 c_now_odds c_now_parts))
def ml_X8_stillFrom_8 (F : Nat) (x3 : Int) (x5 : Int) (x6 : Int) (c_now_odds : Int) (c_now_parts : Int) : Option (Int) :=
  loopN (fun (k : Int × Int × Int → Option (Int)) q => mb_X8_stillFrom_8 F (fun y0 y1 y2 => k (y0, y1, y2)) q.1 q.2.1 q.2.2 c_now_odds c_now_parts) F (x3, x5, x6)
def m_X8_stillFrom (F : Nat) (x1 : Int) (c_now_odds : Int) (c_now_parts : Int) : Option (Int) :=
  ml_X8_stillFrom_8 F x1 0 0 c_now_odds c_now_parts
section S_X8_stillFrom
variable {E : EE} {a_t a_t_now : Nat} {g_t_0 : Value} {g_t_1 : Value} {g_t_2 : Value} {g_t_4 : Value} {g_t_5 : Value} {g_t_6 : Value} {g_t_7 : Value} {g_t_8 : Value} {g_t_9 : Value} {g_t_10 : Value} {g_t_11 : Value} {g_t_12 : Value} {g_t_13 : Value} {g_t_now_0 : Value} {g_t_now_3 : Value} {g_t_now_4 : Value} {g_t_now_5 : Value} {g_t_now_6 : Value} {g_t_now_7 : Value} {g_t_now_8 : Value} {g_t_now_9 : Value} {g_t_now_10 : Value} {g_t_now_11 : Value} {g_t_now_12 : Value} {g_t_now_13 : Value} {g_t_now_14 : Value} {g_t_now_15 : Value} {g_t_now_16 : Value}
set_option maxRecDepth 100000 in
set_option maxHeartbeats 4000000 in
theorem wb_X8_stillFrom_64 {F : Nat} {k8 : Int → Int → Int → Option (Int)} {v : Int} {x3 : Int} {x5 : Int} {x6 : Int} {c_now_odds : Int} {c_now_parts : Int} (C : Cx E cX8_stillFrom RX8 { frames := 0, cells := 0, slots := 0, locals := 0 }) (hN : eN E = 7) (h : mb_X8_stillFrom_64 F k8 x3 x5 x6 c_now_odds c_now_parts = some v) (hk8 : ∀ (y_x3 : Int) (y_x5 : Int) (y_x6 : Int), k8 y_x3 y_x5 y_x6 = some v → GG E 0 0 (W_X8_stillFrom (eCy E) a_t a_t_now g_t_0 g_t_1 g_t_2 g_t_4 g_t_5 g_t_6 g_t_7 g_t_8 g_t_9 g_t_10 g_t_11 g_t_12 g_t_13 g_t_now_0 g_t_now_3 g_t_now_4 g_t_now_5 g_t_now_6 g_t_now_7 g_t_now_8 g_t_now_9 g_t_now_10 g_t_now_11 g_t_now_12 g_t_now_13 g_t_now_14 g_t_now_15 g_t_now_16 c_now_odds c_now_parts) [some (.ref a_t), none, none, some (.long (wJ y_x3)), none, some (.int (wI y_x5)), some (.int (wI y_x6))] 8 []) (hret : ∀ (pc : Nat) (L : List (Option Value)), decode cX8_stillFrom pc = .ok (.ireturn, 1) → GG E 0 0 (W_X8_stillFrom (eCy E) a_t a_t_now g_t_0 g_t_1 g_t_2 g_t_4 g_t_5 g_t_6 g_t_7 g_t_8 g_t_9 g_t_10 g_t_11 g_t_12 g_t_13 g_t_now_0 g_t_now_3 g_t_now_4 g_t_now_5 g_t_now_6 g_t_now_7 g_t_now_8 g_t_now_9 g_t_now_10 g_t_now_11 g_t_now_12 g_t_now_13 g_t_now_14 g_t_now_15 g_t_now_16 c_now_odds c_now_parts) L pc [.int (wI v)]) : GG E 0 0 (W_X8_stillFrom (eCy E) a_t a_t_now g_t_0 g_t_1 g_t_2 g_t_4 g_t_5 g_t_6 g_t_7 g_t_8 g_t_9 g_t_10 g_t_11 g_t_12 g_t_13 g_t_now_0 g_t_now_3 g_t_now_4 g_t_now_5 g_t_now_6 g_t_now_7 g_t_now_8 g_t_now_9 g_t_now_10 g_t_now_11 g_t_now_12 g_t_now_13 g_t_now_14 g_t_now_15 g_t_now_16 c_now_odds c_now_parts) [some (.ref a_t), none, none, some (.long (wJ x3)), none, some (.int (wI x5)), some (.int (wI x6))] 64 [] := by
  unfold mb_X8_stillFrom_64 at h
  refine g_iinc C hN dX8_stillFrom_64 rfl rfl (L' := [some (.ref a_t), none, none, some (.long (wJ x3)), none, some (.int (wI x5)), some (.int (wI (x6 + 1)))]) rfl ?_
  refine g_goto (tgt := 8) C dX8_stillFrom_67 (by decide) ?_
  exact hk8 _ _ _ h
set_option maxRecDepth 100000 in
set_option maxHeartbeats 4000000 in
theorem wb_X8_stillFrom_8 {F : Nat} {k8 : Int → Int → Int → Option (Int)} {v : Int} {x3 : Int} {x5 : Int} {x6 : Int} {c_now_odds : Int} {c_now_parts : Int} (C : Cx E cX8_stillFrom RX8 { frames := 0, cells := 0, slots := 0, locals := 0 }) (hN : eN E = 7) (h : mb_X8_stillFrom_8 F k8 x3 x5 x6 c_now_odds c_now_parts = some v) (hk8 : ∀ (y_x3 : Int) (y_x5 : Int) (y_x6 : Int), k8 y_x3 y_x5 y_x6 = some v → GG E 0 0 (W_X8_stillFrom (eCy E) a_t a_t_now g_t_0 g_t_1 g_t_2 g_t_4 g_t_5 g_t_6 g_t_7 g_t_8 g_t_9 g_t_10 g_t_11 g_t_12 g_t_13 g_t_now_0 g_t_now_3 g_t_now_4 g_t_now_5 g_t_now_6 g_t_now_7 g_t_now_8 g_t_now_9 g_t_now_10 g_t_now_11 g_t_now_12 g_t_now_13 g_t_now_14 g_t_now_15 g_t_now_16 c_now_odds c_now_parts) [some (.ref a_t), none, none, some (.long (wJ y_x3)), none, some (.int (wI y_x5)), some (.int (wI y_x6))] 8 []) (hret : ∀ (pc : Nat) (L : List (Option Value)), decode cX8_stillFrom pc = .ok (.ireturn, 1) → GG E 0 0 (W_X8_stillFrom (eCy E) a_t a_t_now g_t_0 g_t_1 g_t_2 g_t_4 g_t_5 g_t_6 g_t_7 g_t_8 g_t_9 g_t_10 g_t_11 g_t_12 g_t_13 g_t_now_0 g_t_now_3 g_t_now_4 g_t_now_5 g_t_now_6 g_t_now_7 g_t_now_8 g_t_now_9 g_t_now_10 g_t_now_11 g_t_now_12 g_t_now_13 g_t_now_14 g_t_now_15 g_t_now_16 c_now_odds c_now_parts) L pc [.int (wI v)]) : GG E 0 0 (W_X8_stillFrom (eCy E) a_t a_t_now g_t_0 g_t_1 g_t_2 g_t_4 g_t_5 g_t_6 g_t_7 g_t_8 g_t_9 g_t_10 g_t_11 g_t_12 g_t_13 g_t_now_0 g_t_now_3 g_t_now_4 g_t_now_5 g_t_now_6 g_t_now_7 g_t_now_8 g_t_now_9 g_t_now_10 g_t_now_11 g_t_now_12 g_t_now_13 g_t_now_14 g_t_now_15 g_t_now_16 c_now_odds c_now_parts) [some (.ref a_t), none, none, some (.long (wJ x3)), none, some (.int (wI x5)), some (.int (wI x6))] 8 [] := by
  unfold mb_X8_stillFrom_8 at h
  refine g_iload C dX8_stillFrom_8 rfl ?_
  refine g_aload_n 0 C dX8_stillFrom_10 rfl rfl ?_
  refine g_get C fg_X8_22 0 rfl rfl dX8_stillFrom_11 ?_
  refine g_get C fg_X8_205 1 rfl rfl dX8_stillFrom_14 ?_
  refine g_st (st' := [.int (wI c_now_parts), .int (wI x6)]) rfl ?_
  refine g_icmp_ge 70 C dX8_stillFrom_17 (by decide) h (fun h => ?_) (fun h => ?_)
  · refine g_iload C dX8_stillFrom_70 rfl ?_
    cases h
    exact hret 72 _ dX8_stillFrom_72
  · refine g_ldc2 (v := 1103515245) C mc_X8_440 dX8_stillFrom_20 ?_
    refine g_lload_n 3 C dX8_stillFrom_23 rfl rfl ?_
    refine g_lmul C dX8_stillFrom_24 ?_
    refine g_ldc2 (v := 12345) C mc_X8_442 dX8_stillFrom_25 ?_
    refine g_ladd C dX8_stillFrom_28 ?_
    refine g_ldc2 (v := 2147483648) C mc_X8_444 dX8_stillFrom_29 ?_
    obtain ⟨hc1, h⟩ := chk_some h
    refine g_lrem C dX8_stillFrom_32 hc1 ?_
    obtain ⟨y2, e_y2, h⟩ := nam_some h
    refine g_topJ e_y2 ?_
    refine g_lstore_n 3 C hN dX8_stillFrom_33 rfl rfl (L' := [some (.ref a_t), none, none, some (.long (wJ y2)), none, some (.int (wI x5)), some (.int (wI x6))]) rfl ?_
    refine g_lload_n 3 C dX8_stillFrom_34 rfl rfl ?_
    refine g_ldc2 (v := 65536) C mc_X8_446 dX8_stillFrom_35 ?_
    obtain ⟨hc3, h⟩ := chk_some h
    refine g_ldiv C dX8_stillFrom_38 hc3 ?_
    refine g_ldc2 (v := 100) C mc_X8_375 dX8_stillFrom_39 ?_
    obtain ⟨hc4, h⟩ := chk_some h
    refine g_lrem C dX8_stillFrom_42 hc4 ?_
    refine g_aload_n 0 C dX8_stillFrom_43 rfl rfl ?_
    refine g_get C fg_X8_22 0 rfl rfl dX8_stillFrom_44 ?_
    refine g_get C fg_X8_448 1 rfl rfl dX8_stillFrom_47 ?_
    refine g_st (st' := [.int (wI c_now_odds), .long (wJ ((y2.tdiv 65536).tmod 100))]) rfl ?_
    obtain ⟨hc5, h⟩ := chk_some h
    refine g_i2l C dX8_stillFrom_50 hc5 ?_
    refine g_lcmp_ge 64 C dX8_stillFrom_51 dX8_stillFrom_52 (by decide) h (fun h => ?_) (fun h => ?_)
    · exact wb_X8_stillFrom_64 C hN h hk8 hret
    · refine g_iload C dX8_stillFrom_55 rfl ?_
      refine g_iconst C dX8_stillFrom_57 ?_
      refine g_iload C dX8_stillFrom_58 rfl ?_
      refine g_ishl C dX8_stillFrom_60 ?_
      refine g_ior C dX8_stillFrom_61 ?_
      obtain ⟨y6, e_y6, h⟩ := nam_some h
      refine g_topI e_y6 ?_
      refine g_istore C hN dX8_stillFrom_62 rfl (L' := [some (.ref a_t), none, none, some (.long (wJ y2)), none, some (.int (wI y6)), some (.int (wI x6))]) rfl ?_
      exact wb_X8_stillFrom_64 C hN h hk8 hret
set_option maxRecDepth 100000 in
set_option maxHeartbeats 4000000 in
theorem wl_X8_stillFrom_8 {F : Nat} {v : Int} {x3 : Int} {x5 : Int} {x6 : Int} {c_now_odds : Int} {c_now_parts : Int} (C : Cx E cX8_stillFrom RX8 { frames := 0, cells := 0, slots := 0, locals := 0 }) (hN : eN E = 7) (h : ml_X8_stillFrom_8 F x3 x5 x6 c_now_odds c_now_parts = some v) (hret : ∀ (pc : Nat) (L : List (Option Value)), decode cX8_stillFrom pc = .ok (.ireturn, 1) → GG E 0 0 (W_X8_stillFrom (eCy E) a_t a_t_now g_t_0 g_t_1 g_t_2 g_t_4 g_t_5 g_t_6 g_t_7 g_t_8 g_t_9 g_t_10 g_t_11 g_t_12 g_t_13 g_t_now_0 g_t_now_3 g_t_now_4 g_t_now_5 g_t_now_6 g_t_now_7 g_t_now_8 g_t_now_9 g_t_now_10 g_t_now_11 g_t_now_12 g_t_now_13 g_t_now_14 g_t_now_15 g_t_now_16 c_now_odds c_now_parts) L pc [.int (wI v)]) : GG E 0 0 (W_X8_stillFrom (eCy E) a_t a_t_now g_t_0 g_t_1 g_t_2 g_t_4 g_t_5 g_t_6 g_t_7 g_t_8 g_t_9 g_t_10 g_t_11 g_t_12 g_t_13 g_t_now_0 g_t_now_3 g_t_now_4 g_t_now_5 g_t_now_6 g_t_now_7 g_t_now_8 g_t_now_9 g_t_now_10 g_t_now_11 g_t_now_12 g_t_now_13 g_t_now_14 g_t_now_15 g_t_now_16 c_now_odds c_now_parts) [some (.ref a_t), none, none, some (.long (wJ x3)), none, some (.int (wI x5)), some (.int (wI x6))] 8 [] := by
  unfold ml_X8_stillFrom_8 at h
  exact loop_walk (g := fun (q : Int × Int × Int) => GG E 0 0 (W_X8_stillFrom (eCy E) a_t a_t_now g_t_0 g_t_1 g_t_2 g_t_4 g_t_5 g_t_6 g_t_7 g_t_8 g_t_9 g_t_10 g_t_11 g_t_12 g_t_13 g_t_now_0 g_t_now_3 g_t_now_4 g_t_now_5 g_t_now_6 g_t_now_7 g_t_now_8 g_t_now_9 g_t_now_10 g_t_now_11 g_t_now_12 g_t_now_13 g_t_now_14 g_t_now_15 g_t_now_16 c_now_odds c_now_parts) [some (.ref a_t), none, none, some (.long (wJ (q.1))), none, some (.int (wI (q.2.1))), some (.int (wI (q.2.2)))] 8 []) (fun k hk q h => wb_X8_stillFrom_8 C hN h (fun y0 y1 y2 hh => hk (y0, y1, y2) hh) hret) F (x3, x5, x6) h
set_option maxRecDepth 100000 in
set_option maxHeartbeats 4000000 in
theorem wm_X8_stillFrom {F : Nat} {v : Int} {x1 : Int} {c_now_odds : Int} {c_now_parts : Int} (C : Cx E cX8_stillFrom RX8 { frames := 0, cells := 0, slots := 0, locals := 0 }) (hN : eN E = 7) (h : m_X8_stillFrom F x1 c_now_odds c_now_parts = some v) (hret : ∀ (pc : Nat) (L : List (Option Value)), decode cX8_stillFrom pc = .ok (.ireturn, 1) → GG E 0 0 (W_X8_stillFrom (eCy E) a_t a_t_now g_t_0 g_t_1 g_t_2 g_t_4 g_t_5 g_t_6 g_t_7 g_t_8 g_t_9 g_t_10 g_t_11 g_t_12 g_t_13 g_t_now_0 g_t_now_3 g_t_now_4 g_t_now_5 g_t_now_6 g_t_now_7 g_t_now_8 g_t_now_9 g_t_now_10 g_t_now_11 g_t_now_12 g_t_now_13 g_t_now_14 g_t_now_15 g_t_now_16 c_now_odds c_now_parts) L pc [.int (wI v)]) : GG E 0 0 (W_X8_stillFrom (eCy E) a_t a_t_now g_t_0 g_t_1 g_t_2 g_t_4 g_t_5 g_t_6 g_t_7 g_t_8 g_t_9 g_t_10 g_t_11 g_t_12 g_t_13 g_t_now_0 g_t_now_3 g_t_now_4 g_t_now_5 g_t_now_6 g_t_now_7 g_t_now_8 g_t_now_9 g_t_now_10 g_t_now_11 g_t_now_12 g_t_now_13 g_t_now_14 g_t_now_15 g_t_now_16 c_now_odds c_now_parts) [some (.ref a_t), some (.long (wJ x1)), none, none, none, none, none] 0 [] := by
  unfold m_X8_stillFrom at h
  refine g_lload_n 1 C dX8_stillFrom_0 rfl rfl ?_
  refine g_lstore_n 3 C hN dX8_stillFrom_1 rfl rfl (L' := [some (.ref a_t), some (.long (wJ x1)), none, some (.long (wJ x1)), none, none, none]) rfl ?_
  refine g_iconst C dX8_stillFrom_2 ?_
  refine g_istore C hN dX8_stillFrom_3 rfl (L' := [some (.ref a_t), some (.long (wJ x1)), none, some (.long (wJ x1)), none, some (.int (wI 0)), none]) rfl ?_
  refine g_iconst C dX8_stillFrom_5 ?_
  refine g_istore C hN dX8_stillFrom_6 rfl (L' := [some (.ref a_t), some (.long (wJ x1)), none, some (.long (wJ x1)), none, some (.int (wI 0)), some (.int (wI 0))]) rfl ?_
  refine g_mask [true, false, false, true, false, true, true] (L' := [some (.ref a_t), none, none, some (.long (wJ x1)), none, some (.int (wI 0)), some (.int (wI 0))]) rfl ?_
  exact wl_X8_stillFrom_8 C hN h hret
end S_X8_stillFrom
set_option maxRecDepth 100000 in
set_option maxHeartbeats 4000000 in
theorem c_X8_stillFrom (l : Launch) (D : va_G) (cy : Nat → ClassId) (ad : AD) (a_t a_t_now : Nat) (g_t_0 : Value) (g_t_1 : Value) (g_t_2 : Value) (g_t_4 : Value) (g_t_5 : Value) (g_t_6 : Value) (g_t_7 : Value) (g_t_8 : Value) (g_t_9 : Value) (g_t_10 : Value) (g_t_11 : Value) (g_t_12 : Value) (g_t_13 : Value) (g_t_now_0 : Value) (g_t_now_3 : Value) (g_t_now_4 : Value) (g_t_now_5 : Value) (g_t_now_6 : Value) (g_t_now_7 : Value) (g_t_now_8 : Value) (g_t_now_9 : Value) (g_t_now_10 : Value) (g_t_now_11 : Value) (g_t_now_12 : Value) (g_t_now_13 : Value) (g_t_now_14 : Value) (g_t_now_15 : Value) (g_t_now_16 : Value) (x1 : Int) (c_now_odds : Int) (c_now_parts : Int) (F : Nat) {v : Int} (h : m_X8_stillFrom F x1 c_now_odds c_now_parts = some v) : Ct l yX8_stillFrom cX8_stillFrom 7 (some .int) { frames := 0, cells := 0, slots := 0, locals := 0 } D cy ad [.ref a_t, .long (wJ x1)] (W_X8_stillFrom cy a_t a_t_now g_t_0 g_t_1 g_t_2 g_t_4 g_t_5 g_t_6 g_t_7 g_t_8 g_t_9 g_t_10 g_t_11 g_t_12 g_t_13 g_t_now_0 g_t_now_3 g_t_now_4 g_t_now_5 g_t_now_6 g_t_now_7 g_t_now_8 g_t_now_9 g_t_now_10 g_t_now_11 g_t_now_12 g_t_now_13 g_t_now_14 g_t_now_15 g_t_now_16 c_now_odds c_now_parts) (W_X8_stillFrom cy a_t a_t_now g_t_0 g_t_1 g_t_2 g_t_4 g_t_5 g_t_6 g_t_7 g_t_8 g_t_9 g_t_10 g_t_11 g_t_12 g_t_13 g_t_now_0 g_t_now_3 g_t_now_4 g_t_now_5 g_t_now_6 g_t_now_7 g_t_now_8 g_t_now_9 g_t_now_10 g_t_now_11 g_t_now_12 g_t_now_13 g_t_now_14 g_t_now_15 g_t_now_16 c_now_odds c_now_parts) (some (.int (wI v))) := by
  refine Ct.introI (j := 4) (plainFor_of_name (by decide)) rfl rfl (fun E C e1 e2 e3 e4 e5 hret => ?_)
  subst e1; subst e2; subst e3; subst e4
  exact wm_X8_stillFrom C e5 h hret
-- MovingStair.drawn(I)I
def W_X8_drawn (cy : Nat → ClassId) (a_t a_t_now : Nat) (g_t_0 : Value) (g_t_1 : Value) (g_t_2 : Value) (g_t_4 : Value) (g_t_5 : Value) (g_t_6 : Value) (g_t_7 : Value) (g_t_8 : Value) (g_t_9 : Value) (g_t_10 : Value) (g_t_11 : Value) (g_t_12 : Value) (g_t_13 : Value) (g_t_now_3 : Value) (g_t_now_4 : Value) (g_t_now_5 : Value) (g_t_now_6 : Value) (g_t_now_7 : Value) (g_t_now_8 : Value) (g_t_now_9 : Value) (g_t_now_10 : Value) (g_t_now_11 : Value) (g_t_now_12 : Value) (g_t_now_13 : Value) (g_t_now_14 : Value) (g_t_now_15 : Value) (g_t_now_16 : Value) (c_now_lines : Int) (c_now_odds : Int) (c_now_parts : Int) : va_W := [(a_t, .inr (8, [g_t_0, g_t_1, g_t_2, .ref a_t_now, g_t_4, g_t_5, g_t_6, g_t_7, g_t_8, g_t_9, g_t_10, g_t_11, g_t_12, g_t_13])), (a_t_now, .inr (2, [.int (wI c_now_lines), .int (wI c_now_odds), .int (wI c_now_parts), g_t_now_3, g_t_now_4, g_t_now_5, g_t_now_6, g_t_now_7, g_t_now_8, g_t_now_9, g_t_now_10, g_t_now_11, g_t_now_12, g_t_now_13, g_t_now_14, g_t_now_15, g_t_now_16]))]
def m_X8_drawn (F : Nat) (x1 : Int) (c_now_lines : Int) (c_now_odds : Int) (c_now_parts : Int) : Option (Int) :=
  bnd1 (m_X8_isNoSeed F x1) fun r1 => if wI r1 = wI 0 then
    (bnd1 (m_X2_isThere F c_now_lines) fun r3 => if wI r3 = wI 0 then
    (some (-2))
  else
    (chk (r32 x1) <| bnd1 (m_X8_stillFrom F x1 c_now_odds c_now_parts) fun r6 => some r6))
  else
    (some (-2))
section S_X8_drawn
variable {E : EE} {a_t a_t_now : Nat} {g_t_0 : Value} {g_t_1 : Value} {g_t_2 : Value} {g_t_4 : Value} {g_t_5 : Value} {g_t_6 : Value} {g_t_7 : Value} {g_t_8 : Value} {g_t_9 : Value} {g_t_10 : Value} {g_t_11 : Value} {g_t_12 : Value} {g_t_13 : Value} {g_t_now_3 : Value} {g_t_now_4 : Value} {g_t_now_5 : Value} {g_t_now_6 : Value} {g_t_now_7 : Value} {g_t_now_8 : Value} {g_t_now_9 : Value} {g_t_now_10 : Value} {g_t_now_11 : Value} {g_t_now_12 : Value} {g_t_now_13 : Value} {g_t_now_14 : Value} {g_t_now_15 : Value} {g_t_now_16 : Value}
set_option maxRecDepth 100000 in
set_option maxHeartbeats 4000000 in
theorem wm_X8_drawn {F : Nat} {v : Int} {x1 : Int} {c_now_lines : Int} {c_now_odds : Int} {c_now_parts : Int} (C : Cx E cX8_drawn RX8 { frames := 2, cells := 0, slots := 0, locals := 45 }) (hN : eN E = 2) (h : m_X8_drawn F x1 c_now_lines c_now_odds c_now_parts = some v) (hret : ∀ (pc : Nat) (L : List (Option Value)), decode cX8_drawn pc = .ok (.ireturn, 1) → GG E 0 0 (W_X8_drawn (eCy E) a_t a_t_now g_t_0 g_t_1 g_t_2 g_t_4 g_t_5 g_t_6 g_t_7 g_t_8 g_t_9 g_t_10 g_t_11 g_t_12 g_t_13 g_t_now_3 g_t_now_4 g_t_now_5 g_t_now_6 g_t_now_7 g_t_now_8 g_t_now_9 g_t_now_10 g_t_now_11 g_t_now_12 g_t_now_13 g_t_now_14 g_t_now_15 g_t_now_16 c_now_lines c_now_odds c_now_parts) L pc [.int (wI v)]) : GG E 0 0 (W_X8_drawn (eCy E) a_t a_t_now g_t_0 g_t_1 g_t_2 g_t_4 g_t_5 g_t_6 g_t_7 g_t_8 g_t_9 g_t_10 g_t_11 g_t_12 g_t_13 g_t_now_3 g_t_now_4 g_t_now_5 g_t_now_6 g_t_now_7 g_t_now_8 g_t_now_9 g_t_now_10 g_t_now_11 g_t_now_12 g_t_now_13 g_t_now_14 g_t_now_15 g_t_now_16 c_now_lines c_now_odds c_now_parts) [some (.ref a_t), some (.int (wI x1))] 0 [] := by
  unfold m_X8_drawn at h
  refine g_iload_n 1 C dX8_drawn_0 rfl rfl ?_
  obtain ⟨r1, hr2, h⟩ := bnd1_some h
  refine g_callSI [] [0, 1] [0, 1] C mt_X8_429 (c_X8_isNoSeed _ _ _ _ x1 F hr2) rfl rfl (ws2 := (W_X8_drawn (eCy E) a_t a_t_now g_t_0 g_t_1 g_t_2 g_t_4 g_t_5 g_t_6 g_t_7 g_t_8 g_t_9 g_t_10 g_t_11 g_t_12 g_t_13 g_t_now_3 g_t_now_4 g_t_now_5 g_t_now_6 g_t_now_7 g_t_now_8 g_t_now_9 g_t_now_10 g_t_now_11 g_t_now_12 g_t_now_13 g_t_now_14 g_t_now_15 g_t_now_16 c_now_lines c_now_odds c_now_parts)) rfl rfl rfl (rest := []) rfl rfl rfl dX8_drawn_1 ?_
  refine g_if_ne 17 C dX8_drawn_4 (by decide) h (fun h => ?_) (fun h => ?_)
  · refine g_bipush C dX8_drawn_17 (by decide) ?_
    refine g_goto (tgt := 28) C dX8_drawn_19 (by decide) ?_
    cases h
    exact hret 28 _ dX8_drawn_28
  · refine g_aload_n 0 C dX8_drawn_7 rfl rfl ?_
    refine g_get C fg_X8_22 0 rfl rfl dX8_drawn_8 ?_
    obtain ⟨r3, hr4, h⟩ := bnd1_some h
    refine g_callI [1] [0] [0, 1] C mt_X8_172 (c_X2_isThere _ _ _ _ a_t_now (.int (wI c_now_odds)) (.int (wI c_now_parts)) (g_t_now_3) (g_t_now_4) (g_t_now_5) (g_t_now_6) (g_t_now_7) (g_t_now_8) (g_t_now_9) (g_t_now_10) (g_t_now_11) (g_t_now_12) (g_t_now_13) (g_t_now_14) (g_t_now_15) (g_t_now_16) c_now_lines F hr4) (q0 := 0) rfl (ci := 2) rfl rfl rfl (ws2 := (W_X8_drawn (eCy E) a_t a_t_now g_t_0 g_t_1 g_t_2 g_t_4 g_t_5 g_t_6 g_t_7 g_t_8 g_t_9 g_t_10 g_t_11 g_t_12 g_t_13 g_t_now_3 g_t_now_4 g_t_now_5 g_t_now_6 g_t_now_7 g_t_now_8 g_t_now_9 g_t_now_10 g_t_now_11 g_t_now_12 g_t_now_13 g_t_now_14 g_t_now_15 g_t_now_16 c_now_lines c_now_odds c_now_parts)) rfl rfl rfl (rest := []) rfl rfl rfl dX8_drawn_11 ?_
    refine g_if_ne 22 C dX8_drawn_14 (by decide) h (fun h => ?_) (fun h => ?_)
    · refine g_aload_n 0 C dX8_drawn_22 rfl rfl ?_
      refine g_iload_n 1 C dX8_drawn_23 rfl rfl ?_
      obtain ⟨hc5, h⟩ := chk_some h
      refine g_i2l C dX8_drawn_24 hc5 ?_
      obtain ⟨r6, hr7, h⟩ := bnd1_some h
      refine g_callI [0, 1] [] [0, 1] C mt_X8_432 (c_X8_stillFrom _ _ _ _ a_t a_t_now (g_t_0) (g_t_1) (g_t_2) (g_t_4) (g_t_5) (g_t_6) (g_t_7) (g_t_8) (g_t_9) (g_t_10) (g_t_11) (g_t_12) (g_t_13) (.int (wI c_now_lines)) (g_t_now_3) (g_t_now_4) (g_t_now_5) (g_t_now_6) (g_t_now_7) (g_t_now_8) (g_t_now_9) (g_t_now_10) (g_t_now_11) (g_t_now_12) (g_t_now_13) (g_t_now_14) (g_t_now_15) (g_t_now_16) x1 c_now_odds c_now_parts F hr7) (q0 := 0) rfl (ci := 8) rfl rfl rfl (ws2 := (W_X8_drawn (eCy E) a_t a_t_now g_t_0 g_t_1 g_t_2 g_t_4 g_t_5 g_t_6 g_t_7 g_t_8 g_t_9 g_t_10 g_t_11 g_t_12 g_t_13 g_t_now_3 g_t_now_4 g_t_now_5 g_t_now_6 g_t_now_7 g_t_now_8 g_t_now_9 g_t_now_10 g_t_now_11 g_t_now_12 g_t_now_13 g_t_now_14 g_t_now_15 g_t_now_16 c_now_lines c_now_odds c_now_parts)) rfl rfl rfl (rest := []) rfl rfl rfl dX8_drawn_25 ?_
      cases h
      exact hret 28 _ dX8_drawn_28
    · refine g_bipush C dX8_drawn_17 (by decide) ?_
      refine g_goto (tgt := 28) C dX8_drawn_19 (by decide) ?_
      cases h
      exact hret 28 _ dX8_drawn_28
end S_X8_drawn
set_option maxRecDepth 100000 in
set_option maxHeartbeats 4000000 in
theorem c_X8_drawn (l : Launch) (D : va_G) (cy : Nat → ClassId) (ad : AD) (a_t a_t_now : Nat) (g_t_0 : Value) (g_t_1 : Value) (g_t_2 : Value) (g_t_4 : Value) (g_t_5 : Value) (g_t_6 : Value) (g_t_7 : Value) (g_t_8 : Value) (g_t_9 : Value) (g_t_10 : Value) (g_t_11 : Value) (g_t_12 : Value) (g_t_13 : Value) (g_t_now_3 : Value) (g_t_now_4 : Value) (g_t_now_5 : Value) (g_t_now_6 : Value) (g_t_now_7 : Value) (g_t_now_8 : Value) (g_t_now_9 : Value) (g_t_now_10 : Value) (g_t_now_11 : Value) (g_t_now_12 : Value) (g_t_now_13 : Value) (g_t_now_14 : Value) (g_t_now_15 : Value) (g_t_now_16 : Value) (x1 : Int) (c_now_lines : Int) (c_now_odds : Int) (c_now_parts : Int) (F : Nat) {v : Int} (h : m_X8_drawn F x1 c_now_lines c_now_odds c_now_parts = some v) : Ct l yX8_drawn cX8_drawn 2 (some .int) { frames := 2, cells := 0, slots := 0, locals := 45 } D cy ad [.ref a_t, .int (wI x1)] (W_X8_drawn cy a_t a_t_now g_t_0 g_t_1 g_t_2 g_t_4 g_t_5 g_t_6 g_t_7 g_t_8 g_t_9 g_t_10 g_t_11 g_t_12 g_t_13 g_t_now_3 g_t_now_4 g_t_now_5 g_t_now_6 g_t_now_7 g_t_now_8 g_t_now_9 g_t_now_10 g_t_now_11 g_t_now_12 g_t_now_13 g_t_now_14 g_t_now_15 g_t_now_16 c_now_lines c_now_odds c_now_parts) (W_X8_drawn cy a_t a_t_now g_t_0 g_t_1 g_t_2 g_t_4 g_t_5 g_t_6 g_t_7 g_t_8 g_t_9 g_t_10 g_t_11 g_t_12 g_t_13 g_t_now_3 g_t_now_4 g_t_now_5 g_t_now_6 g_t_now_7 g_t_now_8 g_t_now_9 g_t_now_10 g_t_now_11 g_t_now_12 g_t_now_13 g_t_now_14 g_t_now_15 g_t_now_16 c_now_lines c_now_odds c_now_parts) (some (.int (wI v))) := by
  refine Ct.introI (j := 0) (plainFor_of_name (by decide)) rfl rfl (fun E C e1 e2 e3 e4 e5 hret => ?_)
  subst e1; subst e2; subst e3; subst e4
  exact wm_X8_drawn C e5 h hret
-- MovingStair.luck(IIII)I
def W_X8_luck (cy : Nat → ClassId) (a_t a_t_now a_t_now_paces a_t_now_speeds a_t_now_steps a_t_travel a_t_travel_sum : Nat) (g_t_0 : Value) (g_t_1 : Value) (g_t_2 : Value) (g_t_4 : Value) (g_t_5 : Value) (g_t_6 : Value) (g_t_7 : Value) (g_t_9 : Value) (g_t_10 : Value) (g_t_11 : Value) (g_t_12 : Value) (g_t_13 : Value) (g_t_now_0 : Value) (g_t_now_7 : Value) (g_t_now_8 : Value) (g_t_now_9 : Value) (g_t_now_10 : Value) (g_t_now_11 : Value) (g_t_now_12 : Value) (g_t_now_13 : Value) (g_t_now_14 : Value) (g_t_now_15 : Value) (g_t_now_16 : Value) (g_t_travel_1 : Value) (g_t_travel_2 : Value) (c_now_odds : Int) (c_now_parts : Int) (c_now_walkers : Int) (c_now_paces : Int → Int) (c_now_speeds : Int → Int) (c_now_steps : Int → Int) (c_travel_sum_above : Int) (c_travel_sum_below : Int) : va_W := [(a_t, .inr (8, [g_t_0, g_t_1, g_t_2, .ref a_t_now, g_t_4, g_t_5, g_t_6, g_t_7, .ref a_t_travel, g_t_9, g_t_10, g_t_11, g_t_12, g_t_13])), (a_t_now, .inr (2, [g_t_now_0, .int (wI c_now_odds), .int (wI c_now_parts), .ref a_t_now_steps, .ref a_t_now_speeds, .int (wI c_now_walkers), .ref a_t_now_paces, g_t_now_7, g_t_now_8, g_t_now_9, g_t_now_10, g_t_now_11, g_t_now_12, g_t_now_13, g_t_now_14, g_t_now_15, g_t_now_16])), (a_t_now_paces, .inl (cy 1, 8, .inl (aI c_now_paces))), (a_t_now_speeds, .inl (cy 1, 4, .inl (aI c_now_speeds))), (a_t_now_steps, .inl (cy 1, 4, .inl (aI c_now_steps))), (a_t_travel, .inr (6, [.ref a_t_travel_sum, g_t_travel_1, g_t_travel_2])), (a_t_travel_sum, .inr (1, [.long (wJ c_travel_sum_above), .long (wJ c_travel_sum_below)]))]
def mb_X8_luck_96 (F : Nat) (k52 : Int → Int → Int → Int → Option (Int × Int × Int)) (x1 : Int) (x2 : Int) (x3 : Int) (x4 : Int) (x5 : Int) (x6 : Int) (c_now_odds : Int) (c_now_parts : Int) (c_now_paces : Int → Int) (c_now_speeds : Int → Int) (c_now_steps : Int → Int) (c_travel_sum_above : Int) (c_travel_sum_below : Int) : Option (Int × Int × Int) :=
  k52 x5 (x6 + 1) c_travel_sum_above c_travel_sum_below
def mb_X8_luck_52 (F : Nat) (k52 : Int → Int → Int → Int → Option (Int × Int × Int)) (x1 : Int) (x2 : Int) (x3 : Int) (x4 : Int) (x5 : Int) (x6 : Int) (c_now_odds : Int) (c_now_parts : Int) (c_now_paces : Int → Int) (c_now_speeds : Int → Int) (c_now_steps : Int → Int) (c_travel_sum_above : Int) (c_travel_sum_below : Int) : Option (Int × Int × Int) :=
  if wI x2 ≤ wI x6 then
    (some (x5, c_travel_sum_above, c_travel_sum_below))
  else
    (chk (0 ≤ x3 ∧ x3 < 8) <| chk (r32 x1) <| chk (r32 x6) <| bnd1 (m_X8_stillFrom F (x1 + x6) c_now_odds c_now_parts) fun r4 => bnd3 (m_X6_isWithin F (c_now_paces x3) r4 x4 c_now_parts c_now_speeds c_now_steps) fun r6 o7 o8 => if wI r6 = wI 0 then
    (mb_X8_luck_96 F k52 x1 x2 x3 x4 x5 x6 c_now_odds c_now_parts c_now_paces c_now_speeds c_now_steps o7 o8)
  else
    (mb_X8_luck_96 F k52 x1 x2 x3 x4 (x5 + 1) x6 c_now_odds c_now_parts c_now_paces c_now_speeds c_now_steps o7 o8))
def ml_X8_luck_52 (F : Nat) (x1 : Int) (x2 : Int) (x3 : Int) (x4 : Int) (x5 : Int) (x6 : Int) (c_now_odds : Int) (c_now_parts : Int) (c_now_paces : Int → Int) (c_now_speeds : Int → Int) (c_now_steps : Int → Int) (c_travel_sum_above : Int) (c_travel_sum_below : Int) : Option (Int × Int × Int) :=
  loopN (fun (k : Int × Int × Int × Int → Option (Int × Int × Int)) q => mb_X8_luck_52 F (fun y0 y1 y2 y3 => k (y0, y1, y2, y3)) x1 x2 x3 x4 q.1 q.2.1 c_now_odds c_now_parts c_now_paces c_now_speeds c_now_steps q.2.2.1 q.2.2.2) F (x5, x6, c_travel_sum_above, c_travel_sum_below)
def m_X8_luck (F : Nat) (x1 : Int) (x2 : Int) (x3 : Int) (x4 : Int) (c_now_odds : Int) (c_now_parts : Int) (c_now_walkers : Int) (c_now_paces : Int → Int) (c_now_speeds : Int → Int) (c_now_steps : Int → Int) (c_travel_sum_above : Int) (c_travel_sum_below : Int) : Option (Int × Int × Int) :=
  bnd1 (m_X8_isNoSeed F x1) fun r1 => if wI r1 = wI 0 then
    (chk (r32 x2) <| bnd1 (m_X8_isOut F x2 1 20) fun r4 => if wI r4 = wI 0 then
    (bnd1 (m_X2_hasWalker F x3 c_now_walkers) fun r6 => if wI r6 = wI 0 then
    (some ((-2), c_travel_sum_above, c_travel_sum_below))
  else
    (chk (r32 x4) <| bnd1 (m_X8_isOut F x4 0 600) fun r9 => if wI r9 = wI 0 then
    (ml_X8_luck_52 F x1 x2 x3 x4 0 0 c_now_odds c_now_parts c_now_paces c_now_speeds c_now_steps c_travel_sum_above c_travel_sum_below)
  else
    (some ((-2), c_travel_sum_above, c_travel_sum_below))))
  else
    (some ((-2), c_travel_sum_above, c_travel_sum_below)))
  else
    (some ((-2), c_travel_sum_above, c_travel_sum_below))
section S_X8_luck
variable {E : EE} {a_t a_t_now a_t_now_paces a_t_now_speeds a_t_now_steps a_t_travel a_t_travel_sum : Nat} {g_t_0 : Value} {g_t_1 : Value} {g_t_2 : Value} {g_t_4 : Value} {g_t_5 : Value} {g_t_6 : Value} {g_t_7 : Value} {g_t_9 : Value} {g_t_10 : Value} {g_t_11 : Value} {g_t_12 : Value} {g_t_13 : Value} {g_t_now_0 : Value} {g_t_now_7 : Value} {g_t_now_8 : Value} {g_t_now_9 : Value} {g_t_now_10 : Value} {g_t_now_11 : Value} {g_t_now_12 : Value} {g_t_now_13 : Value} {g_t_now_14 : Value} {g_t_now_15 : Value} {g_t_now_16 : Value} {g_t_travel_1 : Value} {g_t_travel_2 : Value}
set_option maxRecDepth 100000 in
set_option maxHeartbeats 4000000 in
theorem wb_X8_luck_96 {F : Nat} {k52 : Int → Int → Int → Int → Option (Int × Int × Int)} {v : Int × Int × Int} {x1 : Int} {x2 : Int} {x3 : Int} {x4 : Int} {x5 : Int} {x6 : Int} {c_now_odds : Int} {c_now_parts : Int} {c_now_paces : Int → Int} {c_now_speeds : Int → Int} {c_now_steps : Int → Int} {c_travel_sum_above : Int} {c_travel_sum_below : Int} {c_now_walkers : Int} (C : Cx E cX8_luck RX8 { frames := 5, cells := 0, slots := 0, locals := 129 }) (hN : eN E = 7) (h : mb_X8_luck_96 F k52 x1 x2 x3 x4 x5 x6 c_now_odds c_now_parts c_now_paces c_now_speeds c_now_steps c_travel_sum_above c_travel_sum_below = some v) (hk52 : ∀ (y_x5 : Int) (y_x6 : Int) (y_c_travel_sum_above : Int) (y_c_travel_sum_below : Int), k52 y_x5 y_x6 y_c_travel_sum_above y_c_travel_sum_below = some v → GG E 0 0 (W_X8_luck (eCy E) a_t a_t_now a_t_now_paces a_t_now_speeds a_t_now_steps a_t_travel a_t_travel_sum g_t_0 g_t_1 g_t_2 g_t_4 g_t_5 g_t_6 g_t_7 g_t_9 g_t_10 g_t_11 g_t_12 g_t_13 g_t_now_0 g_t_now_7 g_t_now_8 g_t_now_9 g_t_now_10 g_t_now_11 g_t_now_12 g_t_now_13 g_t_now_14 g_t_now_15 g_t_now_16 g_t_travel_1 g_t_travel_2 c_now_odds c_now_parts c_now_walkers c_now_paces c_now_speeds c_now_steps y_c_travel_sum_above y_c_travel_sum_below) [some (.ref a_t), some (.int (wI x1)), some (.int (wI x2)), some (.int (wI x3)), some (.int (wI x4)), some (.int (wI y_x5)), some (.int (wI y_x6))] 52 []) (hret : ∀ (pc : Nat) (L : List (Option Value)), decode cX8_luck pc = .ok (.ireturn, 1) → GG E 0 0 (W_X8_luck (eCy E) a_t a_t_now a_t_now_paces a_t_now_speeds a_t_now_steps a_t_travel a_t_travel_sum g_t_0 g_t_1 g_t_2 g_t_4 g_t_5 g_t_6 g_t_7 g_t_9 g_t_10 g_t_11 g_t_12 g_t_13 g_t_now_0 g_t_now_7 g_t_now_8 g_t_now_9 g_t_now_10 g_t_now_11 g_t_now_12 g_t_now_13 g_t_now_14 g_t_now_15 g_t_now_16 g_t_travel_1 g_t_travel_2 c_now_odds c_now_parts c_now_walkers c_now_paces c_now_speeds c_now_steps (v.2.1) (v.2.2)) L pc [.int (wI (v.1))]) : GG E 0 0 (W_X8_luck (eCy E) a_t a_t_now a_t_now_paces a_t_now_speeds a_t_now_steps a_t_travel a_t_travel_sum g_t_0 g_t_1 g_t_2 g_t_4 g_t_5 g_t_6 g_t_7 g_t_9 g_t_10 g_t_11 g_t_12 g_t_13 g_t_now_0 g_t_now_7 g_t_now_8 g_t_now_9 g_t_now_10 g_t_now_11 g_t_now_12 g_t_now_13 g_t_now_14 g_t_now_15 g_t_now_16 g_t_travel_1 g_t_travel_2 c_now_odds c_now_parts c_now_walkers c_now_paces c_now_speeds c_now_steps c_travel_sum_above c_travel_sum_below) [some (.ref a_t), some (.int (wI x1)), some (.int (wI x2)), some (.int (wI x3)), some (.int (wI x4)), some (.int (wI x5)), some (.int (wI x6))] 96 [] := by
  unfold mb_X8_luck_96 at h
  refine g_iinc C hN dX8_luck_96 rfl rfl (L' := [some (.ref a_t), some (.int (wI x1)), some (.int (wI x2)), some (.int (wI x3)), some (.int (wI x4)), some (.int (wI x5)), some (.int (wI (x6 + 1)))]) rfl ?_
  refine g_goto (tgt := 52) C dX8_luck_99 (by decide) ?_
  exact hk52 _ _ _ _ h
set_option maxRecDepth 100000 in
set_option maxHeartbeats 4000000 in
theorem wb_X8_luck_52 {F : Nat} {k52 : Int → Int → Int → Int → Option (Int × Int × Int)} {v : Int × Int × Int} {x1 : Int} {x2 : Int} {x3 : Int} {x4 : Int} {x5 : Int} {x6 : Int} {c_now_odds : Int} {c_now_parts : Int} {c_now_paces : Int → Int} {c_now_speeds : Int → Int} {c_now_steps : Int → Int} {c_travel_sum_above : Int} {c_travel_sum_below : Int} {c_now_walkers : Int} (C : Cx E cX8_luck RX8 { frames := 5, cells := 0, slots := 0, locals := 129 }) (hN : eN E = 7) (h : mb_X8_luck_52 F k52 x1 x2 x3 x4 x5 x6 c_now_odds c_now_parts c_now_paces c_now_speeds c_now_steps c_travel_sum_above c_travel_sum_below = some v) (hk52 : ∀ (y_x5 : Int) (y_x6 : Int) (y_c_travel_sum_above : Int) (y_c_travel_sum_below : Int), k52 y_x5 y_x6 y_c_travel_sum_above y_c_travel_sum_below = some v → GG E 0 0 (W_X8_luck (eCy E) a_t a_t_now a_t_now_paces a_t_now_speeds a_t_now_steps a_t_travel a_t_travel_sum g_t_0 g_t_1 g_t_2 g_t_4 g_t_5 g_t_6 g_t_7 g_t_9 g_t_10 g_t_11 g_t_12 g_t_13 g_t_now_0 g_t_now_7 g_t_now_8 g_t_now_9 g_t_now_10 g_t_now_11 g_t_now_12 g_t_now_13 g_t_now_14 g_t_now_15 g_t_now_16 g_t_travel_1 g_t_travel_2 c_now_odds c_now_parts c_now_walkers c_now_paces c_now_speeds c_now_steps y_c_travel_sum_above y_c_travel_sum_below) [some (.ref a_t), some (.int (wI x1)), some (.int (wI x2)), some (.int (wI x3)), some (.int (wI x4)), some (.int (wI y_x5)), some (.int (wI y_x6))] 52 []) (hret : ∀ (pc : Nat) (L : List (Option Value)), decode cX8_luck pc = .ok (.ireturn, 1) → GG E 0 0 (W_X8_luck (eCy E) a_t a_t_now a_t_now_paces a_t_now_speeds a_t_now_steps a_t_travel a_t_travel_sum g_t_0 g_t_1 g_t_2 g_t_4 g_t_5 g_t_6 g_t_7 g_t_9 g_t_10 g_t_11 g_t_12 g_t_13 g_t_now_0 g_t_now_7 g_t_now_8 g_t_now_9 g_t_now_10 g_t_now_11 g_t_now_12 g_t_now_13 g_t_now_14 g_t_now_15 g_t_now_16 g_t_travel_1 g_t_travel_2 c_now_odds c_now_parts c_now_walkers c_now_paces c_now_speeds c_now_steps (v.2.1) (v.2.2)) L pc [.int (wI (v.1))]) : GG E 0 0 (W_X8_luck (eCy E) a_t a_t_now a_t_now_paces a_t_now_speeds a_t_now_steps a_t_travel a_t_travel_sum g_t_0 g_t_1 g_t_2 g_t_4 g_t_5 g_t_6 g_t_7 g_t_9 g_t_10 g_t_11 g_t_12 g_t_13 g_t_now_0 g_t_now_7 g_t_now_8 g_t_now_9 g_t_now_10 g_t_now_11 g_t_now_12 g_t_now_13 g_t_now_14 g_t_now_15 g_t_now_16 g_t_travel_1 g_t_travel_2 c_now_odds c_now_parts c_now_walkers c_now_paces c_now_speeds c_now_steps c_travel_sum_above c_travel_sum_below) [some (.ref a_t), some (.int (wI x1)), some (.int (wI x2)), some (.int (wI x3)), some (.int (wI x4)), some (.int (wI x5)), some (.int (wI x6))] 52 [] := by
  unfold mb_X8_luck_52 at h
  refine g_iload C dX8_luck_52 rfl ?_
  refine g_iload_n 2 C dX8_luck_54 rfl rfl ?_
  refine g_icmp_ge 102 C dX8_luck_55 (by decide) h (fun h => ?_) (fun h => ?_)
  · refine g_iload C dX8_luck_102 rfl ?_
    cases h
    exact hret 104 _ dX8_luck_104
  · refine g_aload_n 0 C dX8_luck_58 rfl rfl ?_
    refine g_get C fg_X8_50 0 rfl rfl dX8_luck_59 ?_
    refine g_aload_n 0 C dX8_luck_62 rfl rfl ?_
    refine g_get C fg_X8_22 0 rfl rfl dX8_luck_63 ?_
    refine g_aload_n 0 C dX8_luck_66 rfl rfl ?_
    refine g_get C fg_X8_22 0 rfl rfl dX8_luck_67 ?_
    refine g_get C fg_X8_130 1 rfl rfl dX8_luck_70 ?_
    refine g_iload_n 3 C dX8_luck_73 rfl rfl ?_
    obtain ⟨hc1, h⟩ := chk_some h
    refine g_iald C 2 rfl hc1 rfl dX8_luck_74 ?_
    refine g_aload_n 0 C dX8_luck_75 rfl rfl ?_
    refine g_iload_n 1 C dX8_luck_76 rfl rfl ?_
    obtain ⟨hc2, h⟩ := chk_some h
    refine g_i2l C dX8_luck_77 hc2 ?_
    refine g_iload C dX8_luck_78 rfl ?_
    obtain ⟨hc3, h⟩ := chk_some h
    refine g_i2l C dX8_luck_80 hc3 ?_
    refine g_ladd C dX8_luck_81 ?_
    obtain ⟨r4, hr5, h⟩ := bnd1_some h
    refine g_callI [0, 1] [2, 3, 4, 5, 6] [5, 6, 0, 1, 2, 3, 4] C mt_X8_432 (c_X8_stillFrom _ _ _ _ a_t a_t_now (g_t_0) (g_t_1) (g_t_2) (g_t_4) (g_t_5) (g_t_6) (g_t_7) (.ref a_t_travel) (g_t_9) (g_t_10) (g_t_11) (g_t_12) (g_t_13) (g_t_now_0) (.ref a_t_now_steps) (.ref a_t_now_speeds) (.int (wI c_now_walkers)) (.ref a_t_now_paces) (g_t_now_7) (g_t_now_8) (g_t_now_9) (g_t_now_10) (g_t_now_11) (g_t_now_12) (g_t_now_13) (g_t_now_14) (g_t_now_15) (g_t_now_16) (x1 + x6) c_now_odds c_now_parts F hr5) (q0 := 0) rfl (ci := 8) rfl rfl rfl (ws2 := (W_X8_luck (eCy E) a_t a_t_now a_t_now_paces a_t_now_speeds a_t_now_steps a_t_travel a_t_travel_sum g_t_0 g_t_1 g_t_2 g_t_4 g_t_5 g_t_6 g_t_7 g_t_9 g_t_10 g_t_11 g_t_12 g_t_13 g_t_now_0 g_t_now_7 g_t_now_8 g_t_now_9 g_t_now_10 g_t_now_11 g_t_now_12 g_t_now_13 g_t_now_14 g_t_now_15 g_t_now_16 g_t_travel_1 g_t_travel_2 c_now_odds c_now_parts c_now_walkers c_now_paces c_now_speeds c_now_steps c_travel_sum_above c_travel_sum_below)) rfl rfl rfl (rest := [.int (wI (c_now_paces x3)), .ref a_t_now, .ref a_t_travel]) rfl rfl rfl dX8_luck_82 ?_
    refine g_iload C dX8_luck_85 rfl ?_
    obtain ⟨r6, o7, o8, hr9, h⟩ := bnd3_some h
    refine g_callI [5, 1, 3, 4, 6] [0, 2] [0, 3, 1, 4, 5, 2, 6] C mt_X8_220 (c_X6_isWithin _ _ _ _ a_t_travel a_t_now a_t_now_speeds a_t_now_steps a_t_travel_sum (g_t_travel_1) (g_t_travel_2) (g_t_now_0) (.int (wI c_now_odds)) (.int (wI c_now_walkers)) (.ref a_t_now_paces) (g_t_now_7) (g_t_now_8) (g_t_now_9) (g_t_now_10) (g_t_now_11) (g_t_now_12) (g_t_now_13) (g_t_now_14) (g_t_now_15) (g_t_now_16) (c_now_paces x3) r4 x4 c_now_parts c_now_speeds c_now_steps c_travel_sum_above c_travel_sum_below F hr9) (q0 := 0) rfl (ci := 6) rfl rfl rfl (ws2 := (W_X8_luck (eCy E) a_t a_t_now a_t_now_paces a_t_now_speeds a_t_now_steps a_t_travel a_t_travel_sum g_t_0 g_t_1 g_t_2 g_t_4 g_t_5 g_t_6 g_t_7 g_t_9 g_t_10 g_t_11 g_t_12 g_t_13 g_t_now_0 g_t_now_7 g_t_now_8 g_t_now_9 g_t_now_10 g_t_now_11 g_t_now_12 g_t_now_13 g_t_now_14 g_t_now_15 g_t_now_16 g_t_travel_1 g_t_travel_2 c_now_odds c_now_parts c_now_walkers c_now_paces c_now_speeds c_now_steps o7 o8)) rfl rfl rfl (rest := []) rfl rfl rfl dX8_luck_87 ?_
    refine g_if_eq 96 C dX8_luck_90 (by decide) h (fun h => ?_) (fun h => ?_)
    · exact wb_X8_luck_96 C hN h hk52 hret
    · refine g_iinc C hN dX8_luck_93 rfl rfl (L' := [some (.ref a_t), some (.int (wI x1)), some (.int (wI x2)), some (.int (wI x3)), some (.int (wI x4)), some (.int (wI (x5 + 1))), some (.int (wI x6))]) rfl ?_
      exact wb_X8_luck_96 C hN h hk52 hret
set_option maxRecDepth 100000 in
set_option maxHeartbeats 4000000 in
theorem wl_X8_luck_52 {F : Nat} {v : Int × Int × Int} {x1 : Int} {x2 : Int} {x3 : Int} {x4 : Int} {x5 : Int} {x6 : Int} {c_now_odds : Int} {c_now_parts : Int} {c_now_paces : Int → Int} {c_now_speeds : Int → Int} {c_now_steps : Int → Int} {c_travel_sum_above : Int} {c_travel_sum_below : Int} {c_now_walkers : Int} (C : Cx E cX8_luck RX8 { frames := 5, cells := 0, slots := 0, locals := 129 }) (hN : eN E = 7) (h : ml_X8_luck_52 F x1 x2 x3 x4 x5 x6 c_now_odds c_now_parts c_now_paces c_now_speeds c_now_steps c_travel_sum_above c_travel_sum_below = some v) (hret : ∀ (pc : Nat) (L : List (Option Value)), decode cX8_luck pc = .ok (.ireturn, 1) → GG E 0 0 (W_X8_luck (eCy E) a_t a_t_now a_t_now_paces a_t_now_speeds a_t_now_steps a_t_travel a_t_travel_sum g_t_0 g_t_1 g_t_2 g_t_4 g_t_5 g_t_6 g_t_7 g_t_9 g_t_10 g_t_11 g_t_12 g_t_13 g_t_now_0 g_t_now_7 g_t_now_8 g_t_now_9 g_t_now_10 g_t_now_11 g_t_now_12 g_t_now_13 g_t_now_14 g_t_now_15 g_t_now_16 g_t_travel_1 g_t_travel_2 c_now_odds c_now_parts c_now_walkers c_now_paces c_now_speeds c_now_steps (v.2.1) (v.2.2)) L pc [.int (wI (v.1))]) : GG E 0 0 (W_X8_luck (eCy E) a_t a_t_now a_t_now_paces a_t_now_speeds a_t_now_steps a_t_travel a_t_travel_sum g_t_0 g_t_1 g_t_2 g_t_4 g_t_5 g_t_6 g_t_7 g_t_9 g_t_10 g_t_11 g_t_12 g_t_13 g_t_now_0 g_t_now_7 g_t_now_8 g_t_now_9 g_t_now_10 g_t_now_11 g_t_now_12 g_t_now_13 g_t_now_14 g_t_now_15 g_t_now_16 g_t_travel_1 g_t_travel_2 c_now_odds c_now_parts c_now_walkers c_now_paces c_now_speeds c_now_steps c_travel_sum_above c_travel_sum_below) [some (.ref a_t), some (.int (wI x1)), some (.int (wI x2)), some (.int (wI x3)), some (.int (wI x4)), some (.int (wI x5)), some (.int (wI x6))] 52 [] := by
  unfold ml_X8_luck_52 at h
  exact loop_walk (g := fun (q : Int × Int × Int × Int) => GG E 0 0 (W_X8_luck (eCy E) a_t a_t_now a_t_now_paces a_t_now_speeds a_t_now_steps a_t_travel a_t_travel_sum g_t_0 g_t_1 g_t_2 g_t_4 g_t_5 g_t_6 g_t_7 g_t_9 g_t_10 g_t_11 g_t_12 g_t_13 g_t_now_0 g_t_now_7 g_t_now_8 g_t_now_9 g_t_now_10 g_t_now_11 g_t_now_12 g_t_now_13 g_t_now_14 g_t_now_15 g_t_now_16 g_t_travel_1 g_t_travel_2 c_now_odds c_now_parts c_now_walkers c_now_paces c_now_speeds c_now_steps (q.2.2.1) (q.2.2.2)) [some (.ref a_t), some (.int (wI x1)), some (.int (wI x2)), some (.int (wI x3)), some (.int (wI x4)), some (.int (wI (q.1))), some (.int (wI (q.2.1)))] 52 []) (fun k hk q h => wb_X8_luck_52 C hN h (fun y0 y1 y2 y3 hh => hk (y0, y1, y2, y3) hh) hret) F (x5, x6, c_travel_sum_above, c_travel_sum_below) h
set_option maxRecDepth 100000 in
set_option maxHeartbeats 4000000 in
theorem wm_X8_luck {F : Nat} {v : Int × Int × Int} {x1 : Int} {x2 : Int} {x3 : Int} {x4 : Int} {c_now_odds : Int} {c_now_parts : Int} {c_now_walkers : Int} {c_now_paces : Int → Int} {c_now_speeds : Int → Int} {c_now_steps : Int → Int} {c_travel_sum_above : Int} {c_travel_sum_below : Int} (C : Cx E cX8_luck RX8 { frames := 5, cells := 0, slots := 0, locals := 129 }) (hN : eN E = 7) (h : m_X8_luck F x1 x2 x3 x4 c_now_odds c_now_parts c_now_walkers c_now_paces c_now_speeds c_now_steps c_travel_sum_above c_travel_sum_below = some v) (hret : ∀ (pc : Nat) (L : List (Option Value)), decode cX8_luck pc = .ok (.ireturn, 1) → GG E 0 0 (W_X8_luck (eCy E) a_t a_t_now a_t_now_paces a_t_now_speeds a_t_now_steps a_t_travel a_t_travel_sum g_t_0 g_t_1 g_t_2 g_t_4 g_t_5 g_t_6 g_t_7 g_t_9 g_t_10 g_t_11 g_t_12 g_t_13 g_t_now_0 g_t_now_7 g_t_now_8 g_t_now_9 g_t_now_10 g_t_now_11 g_t_now_12 g_t_now_13 g_t_now_14 g_t_now_15 g_t_now_16 g_t_travel_1 g_t_travel_2 c_now_odds c_now_parts c_now_walkers c_now_paces c_now_speeds c_now_steps (v.2.1) (v.2.2)) L pc [.int (wI (v.1))]) : GG E 0 0 (W_X8_luck (eCy E) a_t a_t_now a_t_now_paces a_t_now_speeds a_t_now_steps a_t_travel a_t_travel_sum g_t_0 g_t_1 g_t_2 g_t_4 g_t_5 g_t_6 g_t_7 g_t_9 g_t_10 g_t_11 g_t_12 g_t_13 g_t_now_0 g_t_now_7 g_t_now_8 g_t_now_9 g_t_now_10 g_t_now_11 g_t_now_12 g_t_now_13 g_t_now_14 g_t_now_15 g_t_now_16 g_t_travel_1 g_t_travel_2 c_now_odds c_now_parts c_now_walkers c_now_paces c_now_speeds c_now_steps c_travel_sum_above c_travel_sum_below) [some (.ref a_t), some (.int (wI x1)), some (.int (wI x2)), some (.int (wI x3)), some (.int (wI x4)), none, none] 0 [] := by
  unfold m_X8_luck at h
  refine g_iload_n 1 C dX8_luck_0 rfl rfl ?_
  obtain ⟨r1, hr2, h⟩ := bnd1_some h
  refine g_callSI [] [0, 1, 2, 3, 4, 5, 6] [0, 1, 2, 3, 4, 5, 6] C mt_X8_429 (c_X8_isNoSeed _ _ _ _ x1 F hr2) rfl rfl (ws2 := (W_X8_luck (eCy E) a_t a_t_now a_t_now_paces a_t_now_speeds a_t_now_steps a_t_travel a_t_travel_sum g_t_0 g_t_1 g_t_2 g_t_4 g_t_5 g_t_6 g_t_7 g_t_9 g_t_10 g_t_11 g_t_12 g_t_13 g_t_now_0 g_t_now_7 g_t_now_8 g_t_now_9 g_t_now_10 g_t_now_11 g_t_now_12 g_t_now_13 g_t_now_14 g_t_now_15 g_t_now_16 g_t_travel_1 g_t_travel_2 c_now_odds c_now_parts c_now_walkers c_now_paces c_now_speeds c_now_steps c_travel_sum_above c_travel_sum_below)) rfl rfl rfl (rest := []) rfl rfl rfl dX8_luck_1 ?_
  refine g_if_ne 43 C dX8_luck_4 (by decide) h (fun h => ?_) (fun h => ?_)
  · refine g_bipush C dX8_luck_43 (by decide) ?_
    cases h
    exact hret 45 _ dX8_luck_45
  · refine g_iload_n 2 C dX8_luck_7 rfl rfl ?_
    obtain ⟨hc3, h⟩ := chk_some h
    refine g_i2l C dX8_luck_8 hc3 ?_
    refine g_lconst (x := 1) C dX8_luck_9 (by decide) ?_
    refine g_ldc2 (v := 20) C mc_X8_436 dX8_luck_10 ?_
    obtain ⟨r4, hr5, h⟩ := bnd1_some h
    refine g_callSI [] [0, 1, 2, 3, 4, 5, 6] [0, 1, 2, 3, 4, 5, 6] C mt_X8_161 (c_X8_isOut _ _ _ _ x2 1 20 F hr5) rfl rfl (ws2 := (W_X8_luck (eCy E) a_t a_t_now a_t_now_paces a_t_now_speeds a_t_now_steps a_t_travel a_t_travel_sum g_t_0 g_t_1 g_t_2 g_t_4 g_t_5 g_t_6 g_t_7 g_t_9 g_t_10 g_t_11 g_t_12 g_t_13 g_t_now_0 g_t_now_7 g_t_now_8 g_t_now_9 g_t_now_10 g_t_now_11 g_t_now_12 g_t_now_13 g_t_now_14 g_t_now_15 g_t_now_16 g_t_travel_1 g_t_travel_2 c_now_odds c_now_parts c_now_walkers c_now_paces c_now_speeds c_now_steps c_travel_sum_above c_travel_sum_below)) rfl rfl rfl (rest := []) rfl rfl rfl dX8_luck_13 ?_
    refine g_if_ne 43 C dX8_luck_16 (by decide) h (fun h => ?_) (fun h => ?_)
    · refine g_bipush C dX8_luck_43 (by decide) ?_
      cases h
      exact hret 45 _ dX8_luck_45
    · refine g_aload_n 0 C dX8_luck_19 rfl rfl ?_
      refine g_get C fg_X8_22 0 rfl rfl dX8_luck_20 ?_
      refine g_iload_n 3 C dX8_luck_23 rfl rfl ?_
      obtain ⟨r6, hr7, h⟩ := bnd1_some h
      refine g_callI [1] [0, 2, 3, 4, 5, 6] [0, 6, 1, 2, 3, 4, 5] C mt_X8_127 (c_X2_hasWalker _ _ _ _ a_t_now (g_t_now_0) (.int (wI c_now_odds)) (.int (wI c_now_parts)) (.ref a_t_now_steps) (.ref a_t_now_speeds) (.ref a_t_now_paces) (g_t_now_7) (g_t_now_8) (g_t_now_9) (g_t_now_10) (g_t_now_11) (g_t_now_12) (g_t_now_13) (g_t_now_14) (g_t_now_15) (g_t_now_16) x3 c_now_walkers F hr7) (q0 := 0) rfl (ci := 2) rfl rfl rfl (ws2 := (W_X8_luck (eCy E) a_t a_t_now a_t_now_paces a_t_now_speeds a_t_now_steps a_t_travel a_t_travel_sum g_t_0 g_t_1 g_t_2 g_t_4 g_t_5 g_t_6 g_t_7 g_t_9 g_t_10 g_t_11 g_t_12 g_t_13 g_t_now_0 g_t_now_7 g_t_now_8 g_t_now_9 g_t_now_10 g_t_now_11 g_t_now_12 g_t_now_13 g_t_now_14 g_t_now_15 g_t_now_16 g_t_travel_1 g_t_travel_2 c_now_odds c_now_parts c_now_walkers c_now_paces c_now_speeds c_now_steps c_travel_sum_above c_travel_sum_below)) rfl rfl rfl (rest := []) rfl rfl rfl dX8_luck_24 ?_
      refine g_if_eq 43 C dX8_luck_27 (by decide) h (fun h => ?_) (fun h => ?_)
      · refine g_bipush C dX8_luck_43 (by decide) ?_
        cases h
        exact hret 45 _ dX8_luck_45
      · refine g_iload C dX8_luck_30 rfl ?_
        obtain ⟨hc8, h⟩ := chk_some h
        refine g_i2l C dX8_luck_32 hc8 ?_
        refine g_lconst (x := 0) C dX8_luck_33 (by decide) ?_
        refine g_ldc2 (v := 600) C mc_X8_218 dX8_luck_34 ?_
        obtain ⟨r9, hr10, h⟩ := bnd1_some h
        refine g_callSI [] [0, 1, 2, 3, 4, 5, 6] [0, 1, 2, 3, 4, 5, 6] C mt_X8_161 (c_X8_isOut _ _ _ _ x4 0 600 F hr10) rfl rfl (ws2 := (W_X8_luck (eCy E) a_t a_t_now a_t_now_paces a_t_now_speeds a_t_now_steps a_t_travel a_t_travel_sum g_t_0 g_t_1 g_t_2 g_t_4 g_t_5 g_t_6 g_t_7 g_t_9 g_t_10 g_t_11 g_t_12 g_t_13 g_t_now_0 g_t_now_7 g_t_now_8 g_t_now_9 g_t_now_10 g_t_now_11 g_t_now_12 g_t_now_13 g_t_now_14 g_t_now_15 g_t_now_16 g_t_travel_1 g_t_travel_2 c_now_odds c_now_parts c_now_walkers c_now_paces c_now_speeds c_now_steps c_travel_sum_above c_travel_sum_below)) rfl rfl rfl (rest := []) rfl rfl rfl dX8_luck_37 ?_
        refine g_if_eq 46 C dX8_luck_40 (by decide) h (fun h => ?_) (fun h => ?_)
        · refine g_iconst C dX8_luck_46 ?_
          refine g_istore C hN dX8_luck_47 rfl (L' := [some (.ref a_t), some (.int (wI x1)), some (.int (wI x2)), some (.int (wI x3)), some (.int (wI x4)), some (.int (wI 0)), none]) rfl ?_
          refine g_iconst C dX8_luck_49 ?_
          refine g_istore C hN dX8_luck_50 rfl (L' := [some (.ref a_t), some (.int (wI x1)), some (.int (wI x2)), some (.int (wI x3)), some (.int (wI x4)), some (.int (wI 0)), some (.int (wI 0))]) rfl ?_
          exact wl_X8_luck_52 C hN h hret
        · refine g_bipush C dX8_luck_43 (by decide) ?_
          cases h
          exact hret 45 _ dX8_luck_45
end S_X8_luck
set_option maxRecDepth 100000 in
set_option maxHeartbeats 4000000 in
theorem c_X8_luck (l : Launch) (D : va_G) (cy : Nat → ClassId) (ad : AD) (a_t a_t_now a_t_now_paces a_t_now_speeds a_t_now_steps a_t_travel a_t_travel_sum : Nat) (g_t_0 : Value) (g_t_1 : Value) (g_t_2 : Value) (g_t_4 : Value) (g_t_5 : Value) (g_t_6 : Value) (g_t_7 : Value) (g_t_9 : Value) (g_t_10 : Value) (g_t_11 : Value) (g_t_12 : Value) (g_t_13 : Value) (g_t_now_0 : Value) (g_t_now_7 : Value) (g_t_now_8 : Value) (g_t_now_9 : Value) (g_t_now_10 : Value) (g_t_now_11 : Value) (g_t_now_12 : Value) (g_t_now_13 : Value) (g_t_now_14 : Value) (g_t_now_15 : Value) (g_t_now_16 : Value) (g_t_travel_1 : Value) (g_t_travel_2 : Value) (x1 : Int) (x2 : Int) (x3 : Int) (x4 : Int) (c_now_odds : Int) (c_now_parts : Int) (c_now_walkers : Int) (c_now_paces : Int → Int) (c_now_speeds : Int → Int) (c_now_steps : Int → Int) (c_travel_sum_above : Int) (c_travel_sum_below : Int) (F : Nat) {v : Int × Int × Int} (h : m_X8_luck F x1 x2 x3 x4 c_now_odds c_now_parts c_now_walkers c_now_paces c_now_speeds c_now_steps c_travel_sum_above c_travel_sum_below = some v) : Ct l yX8_luck cX8_luck 7 (some .int) { frames := 5, cells := 0, slots := 0, locals := 129 } D cy ad [.ref a_t, .int (wI x1), .int (wI x2), .int (wI x3), .int (wI x4)] (W_X8_luck cy a_t a_t_now a_t_now_paces a_t_now_speeds a_t_now_steps a_t_travel a_t_travel_sum g_t_0 g_t_1 g_t_2 g_t_4 g_t_5 g_t_6 g_t_7 g_t_9 g_t_10 g_t_11 g_t_12 g_t_13 g_t_now_0 g_t_now_7 g_t_now_8 g_t_now_9 g_t_now_10 g_t_now_11 g_t_now_12 g_t_now_13 g_t_now_14 g_t_now_15 g_t_now_16 g_t_travel_1 g_t_travel_2 c_now_odds c_now_parts c_now_walkers c_now_paces c_now_speeds c_now_steps c_travel_sum_above c_travel_sum_below) (W_X8_luck cy a_t a_t_now a_t_now_paces a_t_now_speeds a_t_now_steps a_t_travel a_t_travel_sum g_t_0 g_t_1 g_t_2 g_t_4 g_t_5 g_t_6 g_t_7 g_t_9 g_t_10 g_t_11 g_t_12 g_t_13 g_t_now_0 g_t_now_7 g_t_now_8 g_t_now_9 g_t_now_10 g_t_now_11 g_t_now_12 g_t_now_13 g_t_now_14 g_t_now_15 g_t_now_16 g_t_travel_1 g_t_travel_2 c_now_odds c_now_parts c_now_walkers c_now_paces c_now_speeds c_now_steps (v.2.1) (v.2.2)) (some (.int (wI (v.1)))) := by
  refine Ct.introI (j := 2) (plainFor_of_name (by decide)) rfl rfl (fun E C e1 e2 e3 e4 e5 hret => ?_)
  subst e1; subst e2; subst e3; subst e4
  exact wm_X8_luck C e5 h hret
-- MovingStair.grow(II)I
def W_X8_grow (cy : Nat → ClassId) (a_t a_t_now a_t_now_paces : Nat) (g_t_0 : Value) (g_t_1 : Value) (g_t_2 : Value) (g_t_4 : Value) (g_t_5 : Value) (g_t_6 : Value) (g_t_7 : Value) (g_t_8 : Value) (g_t_9 : Value) (g_t_10 : Value) (g_t_11 : Value) (g_t_12 : Value) (g_t_13 : Value) (g_t_now_0 : Value) (g_t_now_1 : Value) (g_t_now_2 : Value) (g_t_now_3 : Value) (g_t_now_4 : Value) (g_t_now_7 : Value) (g_t_now_8 : Value) (g_t_now_9 : Value) (g_t_now_10 : Value) (g_t_now_11 : Value) (g_t_now_12 : Value) (g_t_now_13 : Value) (g_t_now_15 : Value) (g_t_now_16 : Value) (c_now_walkers : Int) (c_now_acts : Int) (c_now_paces : Int → Int) : va_W := [(a_t, .inr (8, [g_t_0, g_t_1, g_t_2, .ref a_t_now, g_t_4, g_t_5, g_t_6, g_t_7, g_t_8, g_t_9, g_t_10, g_t_11, g_t_12, g_t_13])), (a_t_now, .inr (2, [g_t_now_0, g_t_now_1, g_t_now_2, g_t_now_3, g_t_now_4, .int (wI c_now_walkers), .ref a_t_now_paces, g_t_now_7, g_t_now_8, g_t_now_9, g_t_now_10, g_t_now_11, g_t_now_12, g_t_now_13, .int (wI c_now_acts), g_t_now_15, g_t_now_16])), (a_t_now_paces, .inl (cy 1, 8, .inl (aI c_now_paces)))]
def m_X8_grow (F : Nat) (x1 : Int) (x2 : Int) (c_now_walkers : Int) (c_now_acts : Int) (c_now_paces : Int → Int) : Option (Int × (Int → Int)) :=
  bnd1 (m_X2_hasWalker F x1 c_now_walkers) fun r1 => if wI r1 = wI 0 then
    (some ((-2), c_now_paces))
  else
    (chk (r32 x2) <| bnd1 (m_X8_isOut F x2 0 30) fun r4 => if wI r4 = wI 0 then
    (if wI c_now_acts ≤ wI 0 then
    (chk (0 ≤ x1 ∧ x1 < 8) <| nam (c_now_paces x1) fun y7 => chk (0 ≤ x1 ∧ x1 < 8) <| some (y7, up c_now_paces x1 x2))
  else
    (some ((-5), c_now_paces)))
  else
    (some ((-2), c_now_paces)))
section S_X8_grow
variable {E : EE} {a_t a_t_now a_t_now_paces : Nat} {g_t_0 : Value} {g_t_1 : Value} {g_t_2 : Value} {g_t_4 : Value} {g_t_5 : Value} {g_t_6 : Value} {g_t_7 : Value} {g_t_8 : Value} {g_t_9 : Value} {g_t_10 : Value} {g_t_11 : Value} {g_t_12 : Value} {g_t_13 : Value} {g_t_now_0 : Value} {g_t_now_1 : Value} {g_t_now_2 : Value} {g_t_now_3 : Value} {g_t_now_4 : Value} {g_t_now_7 : Value} {g_t_now_8 : Value} {g_t_now_9 : Value} {g_t_now_10 : Value} {g_t_now_11 : Value} {g_t_now_12 : Value} {g_t_now_13 : Value} {g_t_now_15 : Value} {g_t_now_16 : Value}
set_option maxRecDepth 100000 in
set_option maxHeartbeats 4000000 in
theorem wm_X8_grow {F : Nat} {v : Int × (Int → Int)} {x1 : Int} {x2 : Int} {c_now_walkers : Int} {c_now_acts : Int} {c_now_paces : Int → Int} (C : Cx E cX8_grow RX8 { frames := 1, cells := 0, slots := 0, locals := 25 }) (hN : eN E = 4) (h : m_X8_grow F x1 x2 c_now_walkers c_now_acts c_now_paces = some v) (hret : ∀ (pc : Nat) (L : List (Option Value)), decode cX8_grow pc = .ok (.ireturn, 1) → GG E 0 0 (W_X8_grow (eCy E) a_t a_t_now a_t_now_paces g_t_0 g_t_1 g_t_2 g_t_4 g_t_5 g_t_6 g_t_7 g_t_8 g_t_9 g_t_10 g_t_11 g_t_12 g_t_13 g_t_now_0 g_t_now_1 g_t_now_2 g_t_now_3 g_t_now_4 g_t_now_7 g_t_now_8 g_t_now_9 g_t_now_10 g_t_now_11 g_t_now_12 g_t_now_13 g_t_now_15 g_t_now_16 c_now_walkers c_now_acts (v.2)) L pc [.int (wI (v.1))]) : GG E 0 0 (W_X8_grow (eCy E) a_t a_t_now a_t_now_paces g_t_0 g_t_1 g_t_2 g_t_4 g_t_5 g_t_6 g_t_7 g_t_8 g_t_9 g_t_10 g_t_11 g_t_12 g_t_13 g_t_now_0 g_t_now_1 g_t_now_2 g_t_now_3 g_t_now_4 g_t_now_7 g_t_now_8 g_t_now_9 g_t_now_10 g_t_now_11 g_t_now_12 g_t_now_13 g_t_now_15 g_t_now_16 c_now_walkers c_now_acts c_now_paces) [some (.ref a_t), some (.int (wI x1)), some (.int (wI x2)), none] 0 [] := by
  unfold m_X8_grow at h
  refine g_aload_n 0 C dX8_grow_0 rfl rfl ?_
  refine g_get C fg_X8_22 0 rfl rfl dX8_grow_1 ?_
  refine g_iload_n 1 C dX8_grow_4 rfl rfl ?_
  obtain ⟨r1, hr2, h⟩ := bnd1_some h
  refine g_callI [1] [0, 2] [0, 2, 1] C mt_X8_127 (c_X2_hasWalker _ _ _ _ a_t_now (g_t_now_0) (g_t_now_1) (g_t_now_2) (g_t_now_3) (g_t_now_4) (.ref a_t_now_paces) (g_t_now_7) (g_t_now_8) (g_t_now_9) (g_t_now_10) (g_t_now_11) (g_t_now_12) (g_t_now_13) (.int (wI c_now_acts)) (g_t_now_15) (g_t_now_16) x1 c_now_walkers F hr2) (q0 := 0) rfl (ci := 2) rfl rfl rfl (ws2 := (W_X8_grow (eCy E) a_t a_t_now a_t_now_paces g_t_0 g_t_1 g_t_2 g_t_4 g_t_5 g_t_6 g_t_7 g_t_8 g_t_9 g_t_10 g_t_11 g_t_12 g_t_13 g_t_now_0 g_t_now_1 g_t_now_2 g_t_now_3 g_t_now_4 g_t_now_7 g_t_now_8 g_t_now_9 g_t_now_10 g_t_now_11 g_t_now_12 g_t_now_13 g_t_now_15 g_t_now_16 c_now_walkers c_now_acts c_now_paces)) rfl rfl rfl (rest := []) rfl rfl rfl dX8_grow_5 ?_
  refine g_if_eq 23 C dX8_grow_8 (by decide) h (fun h => ?_) (fun h => ?_)
  · refine g_bipush C dX8_grow_23 (by decide) ?_
    cases h
    exact hret 25 _ dX8_grow_25
  · refine g_iload_n 2 C dX8_grow_11 rfl rfl ?_
    obtain ⟨hc3, h⟩ := chk_some h
    refine g_i2l C dX8_grow_12 hc3 ?_
    refine g_lconst (x := 0) C dX8_grow_13 (by decide) ?_
    refine g_ldc2 (v := 30) C mc_X8_212 dX8_grow_14 ?_
    obtain ⟨r4, hr5, h⟩ := bnd1_some h
    refine g_callSI [] [0, 1, 2] [0, 1, 2] C mt_X8_161 (c_X8_isOut _ _ _ _ x2 0 30 F hr5) rfl rfl (ws2 := (W_X8_grow (eCy E) a_t a_t_now a_t_now_paces g_t_0 g_t_1 g_t_2 g_t_4 g_t_5 g_t_6 g_t_7 g_t_8 g_t_9 g_t_10 g_t_11 g_t_12 g_t_13 g_t_now_0 g_t_now_1 g_t_now_2 g_t_now_3 g_t_now_4 g_t_now_7 g_t_now_8 g_t_now_9 g_t_now_10 g_t_now_11 g_t_now_12 g_t_now_13 g_t_now_15 g_t_now_16 c_now_walkers c_now_acts c_now_paces)) rfl rfl rfl (rest := []) rfl rfl rfl dX8_grow_17 ?_
    refine g_if_eq 26 C dX8_grow_20 (by decide) h (fun h => ?_) (fun h => ?_)
    · refine g_aload_n 0 C dX8_grow_26 rfl rfl ?_
      refine g_get C fg_X8_22 0 rfl rfl dX8_grow_27 ?_
      refine g_get C fg_X8_416 1 rfl rfl dX8_grow_30 ?_
      refine g_st (st' := [.int (wI c_now_acts)]) rfl ?_
      refine g_if_le 39 C dX8_grow_33 (by decide) h (fun h => ?_) (fun h => ?_)
      · refine g_aload_n 0 C dX8_grow_39 rfl rfl ?_
        refine g_get C fg_X8_22 0 rfl rfl dX8_grow_40 ?_
        refine g_get C fg_X8_130 1 rfl rfl dX8_grow_43 ?_
        refine g_iload_n 1 C dX8_grow_46 rfl rfl ?_
        obtain ⟨hc6, h⟩ := chk_some h
        refine g_iald C 2 rfl hc6 rfl dX8_grow_47 ?_
        obtain ⟨y7, e_y7, h⟩ := nam_some h
        refine g_topI e_y7 ?_
        refine g_istore_n 3 C hN dX8_grow_48 rfl rfl (L' := [some (.ref a_t), some (.int (wI x1)), some (.int (wI x2)), some (.int (wI y7))]) rfl ?_
        refine g_aload_n 0 C dX8_grow_49 rfl rfl ?_
        refine g_get C fg_X8_22 0 rfl rfl dX8_grow_50 ?_
        refine g_get C fg_X8_130 1 rfl rfl dX8_grow_53 ?_
        refine g_iload_n 1 C dX8_grow_56 rfl rfl ?_
        refine g_iload_n 2 C dX8_grow_57 rfl rfl ?_
        obtain ⟨hc8, h⟩ := chk_some h
        refine g_iast C 2 rfl hc8 rfl (ws' := (W_X8_grow (eCy E) a_t a_t_now a_t_now_paces g_t_0 g_t_1 g_t_2 g_t_4 g_t_5 g_t_6 g_t_7 g_t_8 g_t_9 g_t_10 g_t_11 g_t_12 g_t_13 g_t_now_0 g_t_now_1 g_t_now_2 g_t_now_3 g_t_now_4 g_t_now_7 g_t_now_8 g_t_now_9 g_t_now_10 g_t_now_11 g_t_now_12 g_t_now_13 g_t_now_15 g_t_now_16 c_now_walkers c_now_acts (up c_now_paces x1 x2))) rfl dX8_grow_58 ?_
        refine g_iload_n 3 C dX8_grow_59 rfl rfl ?_
        cases h
        exact hret 60 _ dX8_grow_60
      · refine g_bipush C dX8_grow_36 (by decide) ?_
        cases h
        exact hret 38 _ dX8_grow_38
    · refine g_bipush C dX8_grow_23 (by decide) ?_
      cases h
      exact hret 25 _ dX8_grow_25
end S_X8_grow
set_option maxRecDepth 100000 in
set_option maxHeartbeats 4000000 in
theorem c_X8_grow (l : Launch) (D : va_G) (cy : Nat → ClassId) (ad : AD) (a_t a_t_now a_t_now_paces : Nat) (g_t_0 : Value) (g_t_1 : Value) (g_t_2 : Value) (g_t_4 : Value) (g_t_5 : Value) (g_t_6 : Value) (g_t_7 : Value) (g_t_8 : Value) (g_t_9 : Value) (g_t_10 : Value) (g_t_11 : Value) (g_t_12 : Value) (g_t_13 : Value) (g_t_now_0 : Value) (g_t_now_1 : Value) (g_t_now_2 : Value) (g_t_now_3 : Value) (g_t_now_4 : Value) (g_t_now_7 : Value) (g_t_now_8 : Value) (g_t_now_9 : Value) (g_t_now_10 : Value) (g_t_now_11 : Value) (g_t_now_12 : Value) (g_t_now_13 : Value) (g_t_now_15 : Value) (g_t_now_16 : Value) (x1 : Int) (x2 : Int) (c_now_walkers : Int) (c_now_acts : Int) (c_now_paces : Int → Int) (F : Nat) {v : Int × (Int → Int)} (h : m_X8_grow F x1 x2 c_now_walkers c_now_acts c_now_paces = some v) : Ct l yX8_grow cX8_grow 4 (some .int) { frames := 1, cells := 0, slots := 0, locals := 25 } D cy ad [.ref a_t, .int (wI x1), .int (wI x2)] (W_X8_grow cy a_t a_t_now a_t_now_paces g_t_0 g_t_1 g_t_2 g_t_4 g_t_5 g_t_6 g_t_7 g_t_8 g_t_9 g_t_10 g_t_11 g_t_12 g_t_13 g_t_now_0 g_t_now_1 g_t_now_2 g_t_now_3 g_t_now_4 g_t_now_7 g_t_now_8 g_t_now_9 g_t_now_10 g_t_now_11 g_t_now_12 g_t_now_13 g_t_now_15 g_t_now_16 c_now_walkers c_now_acts c_now_paces) (W_X8_grow cy a_t a_t_now a_t_now_paces g_t_0 g_t_1 g_t_2 g_t_4 g_t_5 g_t_6 g_t_7 g_t_8 g_t_9 g_t_10 g_t_11 g_t_12 g_t_13 g_t_now_0 g_t_now_1 g_t_now_2 g_t_now_3 g_t_now_4 g_t_now_7 g_t_now_8 g_t_now_9 g_t_now_10 g_t_now_11 g_t_now_12 g_t_now_13 g_t_now_15 g_t_now_16 c_now_walkers c_now_acts (v.2)) (some (.int (wI (v.1)))) := by
  refine Ct.introI (j := 1) (plainFor_of_name (by decide)) rfl rfl (fun E C e1 e2 e3 e4 e5 hret => ?_)
  subst e1; subst e2; subst e3; subst e4
  exact wm_X8_grow C e5 h hret
-- MovingStair.heldSlots()I
def W_X8_heldSlots (cy : Nat → ClassId) (a_t a_t_slots a_t_slotsE_0 a_t_slotsE_1 a_t_slotsE_2 a_t_slotsE_3 : Nat) (g_t_0 : Value) (g_t_1 : Value) (g_t_2 : Value) (g_t_3 : Value) (g_t_4 : Value) (g_t_5 : Value) (g_t_7 : Value) (g_t_8 : Value) (g_t_9 : Value) (g_t_10 : Value) (g_t_11 : Value) (g_t_12 : Value) (g_t_13 : Value) (g_t_slotsE_1 : Nat → Value) (g_t_slotsE_2 : Nat → Value) (g_t_slotsE_3 : Nat → Value) (c_slotsE_held : Int → Int) : va_W := [(a_t, .inr (8, [g_t_0, g_t_1, g_t_2, g_t_3, g_t_4, g_t_5, .ref a_t_slots, g_t_7, g_t_8, g_t_9, g_t_10, g_t_11, g_t_12, g_t_13])), (a_t_slots, .inl (cy 5, 4, .inr (.inr (.inr (.inr (selO [a_t_slotsE_0, a_t_slotsE_1, a_t_slotsE_2, a_t_slotsE_3])))))), (a_t_slotsE_0, .inr (5, [.int (wI (c_slotsE_held 0)), g_t_slotsE_1 0, g_t_slotsE_2 0, g_t_slotsE_3 0])), (a_t_slotsE_1, .inr (5, [.int (wI (c_slotsE_held 1)), g_t_slotsE_1 1, g_t_slotsE_2 1, g_t_slotsE_3 1])), (a_t_slotsE_2, .inr (5, [.int (wI (c_slotsE_held 2)), g_t_slotsE_1 2, g_t_slotsE_2 2, g_t_slotsE_3 2])), (a_t_slotsE_3, .inr (5, [.int (wI (c_slotsE_held 3)), g_t_slotsE_1 3, g_t_slotsE_2 3, g_t_slotsE_3 3]))]
def mb_X8_heldSlots_27 (F : Nat) (k4 : Int → Int → Option (Int)) (x2 : Int) (s0 : Int) (s1 : Int) (c_slotsE_held : Int → Int) : Option (Int) :=
  nam (s0 + s1) fun y1 => k4 y1 (x2 + 1)
def mb_X8_heldSlots_4 (F : Nat) (k4 : Int → Int → Option (Int)) (x1 : Int) (x2 : Int) (c_slotsE_held : Int → Int) : Option (Int) :=
  if wI 4 ≤ wI x2 then
    (some x1)
  else
    (chk (0 ≤ x2 ∧ x2 < 4) <| if wI (c_slotsE_held x2) = wI 0 then
    (mb_X8_heldSlots_27 F k4 x2 x1 0 c_slotsE_held)
  else
    (mb_X8_heldSlots_27 F k4 x2 x1 1 c_slotsE_held))
def ml_X8_heldSlots_4 (F : Nat) (x1 : Int) (x2 : Int) (c_slotsE_held : Int → Int) : Option (Int) :=
  loopN (fun (k : Int × Int → Option (Int)) q => mb_X8_heldSlots_4 F (fun y0 y1 => k (y0, y1)) q.1 q.2 c_slotsE_held) F (x1, x2)
def m_X8_heldSlots (F : Nat) (c_slotsE_held : Int → Int) : Option (Int) :=
  ml_X8_heldSlots_4 F 0 0 c_slotsE_held
section S_X8_heldSlots
variable {E : EE} {a_t a_t_slots a_t_slotsE_0 a_t_slotsE_1 a_t_slotsE_2 a_t_slotsE_3 : Nat} {g_t_0 : Value} {g_t_1 : Value} {g_t_2 : Value} {g_t_3 : Value} {g_t_4 : Value} {g_t_5 : Value} {g_t_7 : Value} {g_t_8 : Value} {g_t_9 : Value} {g_t_10 : Value} {g_t_11 : Value} {g_t_12 : Value} {g_t_13 : Value} {g_t_slotsE_1 : Nat → Value} {g_t_slotsE_2 : Nat → Value} {g_t_slotsE_3 : Nat → Value}
set_option maxRecDepth 100000 in
set_option maxHeartbeats 4000000 in
theorem wb_X8_heldSlots_27 {F : Nat} {k4 : Int → Int → Option (Int)} {v : Int} {x2 : Int} {s0 : Int} {s1 : Int} {c_slotsE_held : Int → Int} (C : Cx E cX8_heldSlots RX8 { frames := 0, cells := 0, slots := 0, locals := 0 }) (hN : eN E = 3) (h : mb_X8_heldSlots_27 F k4 x2 s0 s1 c_slotsE_held = some v) (hk4 : ∀ (y_x1 : Int) (y_x2 : Int), k4 y_x1 y_x2 = some v → GG E 0 0 (W_X8_heldSlots (eCy E) a_t a_t_slots a_t_slotsE_0 a_t_slotsE_1 a_t_slotsE_2 a_t_slotsE_3 g_t_0 g_t_1 g_t_2 g_t_3 g_t_4 g_t_5 g_t_7 g_t_8 g_t_9 g_t_10 g_t_11 g_t_12 g_t_13 g_t_slotsE_1 g_t_slotsE_2 g_t_slotsE_3 c_slotsE_held) [some (.ref a_t), some (.int (wI y_x1)), some (.int (wI y_x2))] 4 []) (hret : ∀ (pc : Nat) (L : List (Option Value)), decode cX8_heldSlots pc = .ok (.ireturn, 1) → GG E 0 0 (W_X8_heldSlots (eCy E) a_t a_t_slots a_t_slotsE_0 a_t_slotsE_1 a_t_slotsE_2 a_t_slotsE_3 g_t_0 g_t_1 g_t_2 g_t_3 g_t_4 g_t_5 g_t_7 g_t_8 g_t_9 g_t_10 g_t_11 g_t_12 g_t_13 g_t_slotsE_1 g_t_slotsE_2 g_t_slotsE_3 c_slotsE_held) L pc [.int (wI v)]) : GG E 0 0 (W_X8_heldSlots (eCy E) a_t a_t_slots a_t_slotsE_0 a_t_slotsE_1 a_t_slotsE_2 a_t_slotsE_3 g_t_0 g_t_1 g_t_2 g_t_3 g_t_4 g_t_5 g_t_7 g_t_8 g_t_9 g_t_10 g_t_11 g_t_12 g_t_13 g_t_slotsE_1 g_t_slotsE_2 g_t_slotsE_3 c_slotsE_held) [some (.ref a_t), none, some (.int (wI x2))] 27 [.int (wI s1), .int (wI s0)] := by
  unfold mb_X8_heldSlots_27 at h
  refine g_iadd C dX8_heldSlots_27 ?_
  obtain ⟨y1, e_y1, h⟩ := nam_some h
  refine g_topI e_y1 ?_
  refine g_istore_n 1 C hN dX8_heldSlots_28 rfl rfl (L' := [some (.ref a_t), some (.int (wI y1)), some (.int (wI x2))]) rfl ?_
  refine g_iinc C hN dX8_heldSlots_29 rfl rfl (L' := [some (.ref a_t), some (.int (wI y1)), some (.int (wI (x2 + 1)))]) rfl ?_
  refine g_goto (tgt := 4) C dX8_heldSlots_32 (by decide) ?_
  exact hk4 _ _ h
set_option maxRecDepth 100000 in
set_option maxHeartbeats 4000000 in
theorem wb_X8_heldSlots_4 {F : Nat} {k4 : Int → Int → Option (Int)} {v : Int} {x1 : Int} {x2 : Int} {c_slotsE_held : Int → Int} (C : Cx E cX8_heldSlots RX8 { frames := 0, cells := 0, slots := 0, locals := 0 }) (hN : eN E = 3) (h : mb_X8_heldSlots_4 F k4 x1 x2 c_slotsE_held = some v) (hk4 : ∀ (y_x1 : Int) (y_x2 : Int), k4 y_x1 y_x2 = some v → GG E 0 0 (W_X8_heldSlots (eCy E) a_t a_t_slots a_t_slotsE_0 a_t_slotsE_1 a_t_slotsE_2 a_t_slotsE_3 g_t_0 g_t_1 g_t_2 g_t_3 g_t_4 g_t_5 g_t_7 g_t_8 g_t_9 g_t_10 g_t_11 g_t_12 g_t_13 g_t_slotsE_1 g_t_slotsE_2 g_t_slotsE_3 c_slotsE_held) [some (.ref a_t), some (.int (wI y_x1)), some (.int (wI y_x2))] 4 []) (hret : ∀ (pc : Nat) (L : List (Option Value)), decode cX8_heldSlots pc = .ok (.ireturn, 1) → GG E 0 0 (W_X8_heldSlots (eCy E) a_t a_t_slots a_t_slotsE_0 a_t_slotsE_1 a_t_slotsE_2 a_t_slotsE_3 g_t_0 g_t_1 g_t_2 g_t_3 g_t_4 g_t_5 g_t_7 g_t_8 g_t_9 g_t_10 g_t_11 g_t_12 g_t_13 g_t_slotsE_1 g_t_slotsE_2 g_t_slotsE_3 c_slotsE_held) L pc [.int (wI v)]) : GG E 0 0 (W_X8_heldSlots (eCy E) a_t a_t_slots a_t_slotsE_0 a_t_slotsE_1 a_t_slotsE_2 a_t_slotsE_3 g_t_0 g_t_1 g_t_2 g_t_3 g_t_4 g_t_5 g_t_7 g_t_8 g_t_9 g_t_10 g_t_11 g_t_12 g_t_13 g_t_slotsE_1 g_t_slotsE_2 g_t_slotsE_3 c_slotsE_held) [some (.ref a_t), some (.int (wI x1)), some (.int (wI x2))] 4 [] := by
  unfold mb_X8_heldSlots_4 at h
  refine g_iload_n 2 C dX8_heldSlots_4 rfl rfl ?_
  refine g_iconst C dX8_heldSlots_5 ?_
  refine g_icmp_ge 35 C dX8_heldSlots_6 (by decide) h (fun h => ?_) (fun h => ?_)
  · refine g_iload_n 1 C dX8_heldSlots_35 rfl rfl ?_
    cases h
    exact hret 36 _ dX8_heldSlots_36
  · refine g_iload_n 1 C dX8_heldSlots_9 rfl rfl ?_
    refine g_aload_n 0 C dX8_heldSlots_10 rfl rfl ?_
    refine g_get C fg_X8_36 0 rfl rfl dX8_heldSlots_11 ?_
    refine g_iload_n 2 C dX8_heldSlots_14 rfl rfl ?_
    obtain ⟨hc1, h⟩ := chk_some h
    obtain rfl | rfl | rfl | rfl : x2 = 0 ∨ x2 = 1 ∨ x2 = 2 ∨ x2 = 3 := by omega
    · refine g_aald C 1 (t0 := 5) rfl rfl (by decide) rfl dX8_heldSlots_15 ?_
      refine g_get C fg_X8_303 2 rfl rfl dX8_heldSlots_16 ?_
      refine g_st (st' := [.int (wI (c_slotsE_held (0))), .int (wI x1)]) rfl ?_
      refine g_if_eq 26 C dX8_heldSlots_19 (by decide) h (fun h => ?_) (fun h => ?_)
      · refine g_iconst C dX8_heldSlots_26 ?_
        refine g_mask [true, false, true] (L' := [some (.ref a_t), none, some (.int (wI (0)))]) rfl ?_
        exact wb_X8_heldSlots_27 C hN h hk4 hret
      · refine g_iconst C dX8_heldSlots_22 ?_
        refine g_goto (tgt := 27) C dX8_heldSlots_23 (by decide) ?_
        refine g_mask [true, false, true] (L' := [some (.ref a_t), none, some (.int (wI (0)))]) rfl ?_
        exact wb_X8_heldSlots_27 C hN h hk4 hret
    · refine g_aald C 1 (t0 := 5) rfl rfl (by decide) rfl dX8_heldSlots_15 ?_
      refine g_get C fg_X8_303 3 rfl rfl dX8_heldSlots_16 ?_
      refine g_st (st' := [.int (wI (c_slotsE_held (1))), .int (wI x1)]) rfl ?_
      refine g_if_eq 26 C dX8_heldSlots_19 (by decide) h (fun h => ?_) (fun h => ?_)
      · refine g_iconst C dX8_heldSlots_26 ?_
        refine g_mask [true, false, true] (L' := [some (.ref a_t), none, some (.int (wI (1)))]) rfl ?_
        exact wb_X8_heldSlots_27 C hN h hk4 hret
      · refine g_iconst C dX8_heldSlots_22 ?_
        refine g_goto (tgt := 27) C dX8_heldSlots_23 (by decide) ?_
        refine g_mask [true, false, true] (L' := [some (.ref a_t), none, some (.int (wI (1)))]) rfl ?_
        exact wb_X8_heldSlots_27 C hN h hk4 hret
    · refine g_aald C 1 (t0 := 5) rfl rfl (by decide) rfl dX8_heldSlots_15 ?_
      refine g_get C fg_X8_303 4 rfl rfl dX8_heldSlots_16 ?_
      refine g_st (st' := [.int (wI (c_slotsE_held (2))), .int (wI x1)]) rfl ?_
      refine g_if_eq 26 C dX8_heldSlots_19 (by decide) h (fun h => ?_) (fun h => ?_)
      · refine g_iconst C dX8_heldSlots_26 ?_
        refine g_mask [true, false, true] (L' := [some (.ref a_t), none, some (.int (wI (2)))]) rfl ?_
        exact wb_X8_heldSlots_27 C hN h hk4 hret
      · refine g_iconst C dX8_heldSlots_22 ?_
        refine g_goto (tgt := 27) C dX8_heldSlots_23 (by decide) ?_
        refine g_mask [true, false, true] (L' := [some (.ref a_t), none, some (.int (wI (2)))]) rfl ?_
        exact wb_X8_heldSlots_27 C hN h hk4 hret
    · refine g_aald C 1 (t0 := 5) rfl rfl (by decide) rfl dX8_heldSlots_15 ?_
      refine g_get C fg_X8_303 5 rfl rfl dX8_heldSlots_16 ?_
      refine g_st (st' := [.int (wI (c_slotsE_held (3))), .int (wI x1)]) rfl ?_
      refine g_if_eq 26 C dX8_heldSlots_19 (by decide) h (fun h => ?_) (fun h => ?_)
      · refine g_iconst C dX8_heldSlots_26 ?_
        refine g_mask [true, false, true] (L' := [some (.ref a_t), none, some (.int (wI (3)))]) rfl ?_
        exact wb_X8_heldSlots_27 C hN h hk4 hret
      · refine g_iconst C dX8_heldSlots_22 ?_
        refine g_goto (tgt := 27) C dX8_heldSlots_23 (by decide) ?_
        refine g_mask [true, false, true] (L' := [some (.ref a_t), none, some (.int (wI (3)))]) rfl ?_
        exact wb_X8_heldSlots_27 C hN h hk4 hret
set_option maxRecDepth 100000 in
set_option maxHeartbeats 4000000 in
theorem wl_X8_heldSlots_4 {F : Nat} {v : Int} {x1 : Int} {x2 : Int} {c_slotsE_held : Int → Int} (C : Cx E cX8_heldSlots RX8 { frames := 0, cells := 0, slots := 0, locals := 0 }) (hN : eN E = 3) (h : ml_X8_heldSlots_4 F x1 x2 c_slotsE_held = some v) (hret : ∀ (pc : Nat) (L : List (Option Value)), decode cX8_heldSlots pc = .ok (.ireturn, 1) → GG E 0 0 (W_X8_heldSlots (eCy E) a_t a_t_slots a_t_slotsE_0 a_t_slotsE_1 a_t_slotsE_2 a_t_slotsE_3 g_t_0 g_t_1 g_t_2 g_t_3 g_t_4 g_t_5 g_t_7 g_t_8 g_t_9 g_t_10 g_t_11 g_t_12 g_t_13 g_t_slotsE_1 g_t_slotsE_2 g_t_slotsE_3 c_slotsE_held) L pc [.int (wI v)]) : GG E 0 0 (W_X8_heldSlots (eCy E) a_t a_t_slots a_t_slotsE_0 a_t_slotsE_1 a_t_slotsE_2 a_t_slotsE_3 g_t_0 g_t_1 g_t_2 g_t_3 g_t_4 g_t_5 g_t_7 g_t_8 g_t_9 g_t_10 g_t_11 g_t_12 g_t_13 g_t_slotsE_1 g_t_slotsE_2 g_t_slotsE_3 c_slotsE_held) [some (.ref a_t), some (.int (wI x1)), some (.int (wI x2))] 4 [] := by
  unfold ml_X8_heldSlots_4 at h
  exact loop_walk (g := fun (q : Int × Int) => GG E 0 0 (W_X8_heldSlots (eCy E) a_t a_t_slots a_t_slotsE_0 a_t_slotsE_1 a_t_slotsE_2 a_t_slotsE_3 g_t_0 g_t_1 g_t_2 g_t_3 g_t_4 g_t_5 g_t_7 g_t_8 g_t_9 g_t_10 g_t_11 g_t_12 g_t_13 g_t_slotsE_1 g_t_slotsE_2 g_t_slotsE_3 c_slotsE_held) [some (.ref a_t), some (.int (wI (q.1))), some (.int (wI (q.2)))] 4 []) (fun k hk q h => wb_X8_heldSlots_4 C hN h (fun y0 y1 hh => hk (y0, y1) hh) hret) F (x1, x2) h
set_option maxRecDepth 100000 in
set_option maxHeartbeats 4000000 in
theorem wm_X8_heldSlots {F : Nat} {v : Int} {c_slotsE_held : Int → Int} (C : Cx E cX8_heldSlots RX8 { frames := 0, cells := 0, slots := 0, locals := 0 }) (hN : eN E = 3) (h : m_X8_heldSlots F c_slotsE_held = some v) (hret : ∀ (pc : Nat) (L : List (Option Value)), decode cX8_heldSlots pc = .ok (.ireturn, 1) → GG E 0 0 (W_X8_heldSlots (eCy E) a_t a_t_slots a_t_slotsE_0 a_t_slotsE_1 a_t_slotsE_2 a_t_slotsE_3 g_t_0 g_t_1 g_t_2 g_t_3 g_t_4 g_t_5 g_t_7 g_t_8 g_t_9 g_t_10 g_t_11 g_t_12 g_t_13 g_t_slotsE_1 g_t_slotsE_2 g_t_slotsE_3 c_slotsE_held) L pc [.int (wI v)]) : GG E 0 0 (W_X8_heldSlots (eCy E) a_t a_t_slots a_t_slotsE_0 a_t_slotsE_1 a_t_slotsE_2 a_t_slotsE_3 g_t_0 g_t_1 g_t_2 g_t_3 g_t_4 g_t_5 g_t_7 g_t_8 g_t_9 g_t_10 g_t_11 g_t_12 g_t_13 g_t_slotsE_1 g_t_slotsE_2 g_t_slotsE_3 c_slotsE_held) [some (.ref a_t), none, none] 0 [] := by
  unfold m_X8_heldSlots at h
  refine g_iconst C dX8_heldSlots_0 ?_
  refine g_istore_n 1 C hN dX8_heldSlots_1 rfl rfl (L' := [some (.ref a_t), some (.int (wI 0)), none]) rfl ?_
  refine g_iconst C dX8_heldSlots_2 ?_
  refine g_istore_n 2 C hN dX8_heldSlots_3 rfl rfl (L' := [some (.ref a_t), some (.int (wI 0)), some (.int (wI 0))]) rfl ?_
  exact wl_X8_heldSlots_4 C hN h hret
end S_X8_heldSlots
set_option maxRecDepth 100000 in
set_option maxHeartbeats 4000000 in
theorem c_X8_heldSlots (l : Launch) (D : va_G) (cy : Nat → ClassId) (ad : AD) (a_t a_t_slots a_t_slotsE_0 a_t_slotsE_1 a_t_slotsE_2 a_t_slotsE_3 : Nat) (g_t_0 : Value) (g_t_1 : Value) (g_t_2 : Value) (g_t_3 : Value) (g_t_4 : Value) (g_t_5 : Value) (g_t_7 : Value) (g_t_8 : Value) (g_t_9 : Value) (g_t_10 : Value) (g_t_11 : Value) (g_t_12 : Value) (g_t_13 : Value) (g_t_slotsE_1 : Nat → Value) (g_t_slotsE_2 : Nat → Value) (g_t_slotsE_3 : Nat → Value) (c_slotsE_held : Int → Int) (F : Nat) {v : Int} (h : m_X8_heldSlots F c_slotsE_held = some v) : Ct l yX8_heldSlots cX8_heldSlots 3 (some .int) { frames := 0, cells := 0, slots := 0, locals := 0 } D cy ad [.ref a_t] (W_X8_heldSlots cy a_t a_t_slots a_t_slotsE_0 a_t_slotsE_1 a_t_slotsE_2 a_t_slotsE_3 g_t_0 g_t_1 g_t_2 g_t_3 g_t_4 g_t_5 g_t_7 g_t_8 g_t_9 g_t_10 g_t_11 g_t_12 g_t_13 g_t_slotsE_1 g_t_slotsE_2 g_t_slotsE_3 c_slotsE_held) (W_X8_heldSlots cy a_t a_t_slots a_t_slotsE_0 a_t_slotsE_1 a_t_slotsE_2 a_t_slotsE_3 g_t_0 g_t_1 g_t_2 g_t_3 g_t_4 g_t_5 g_t_7 g_t_8 g_t_9 g_t_10 g_t_11 g_t_12 g_t_13 g_t_slotsE_1 g_t_slotsE_2 g_t_slotsE_3 c_slotsE_held) (some (.int (wI v))) := by
  refine Ct.introI (j := 2) (plainFor_of_name (by decide)) rfl rfl (fun E C e1 e2 e3 e4 e5 hret => ?_)
  subst e1; subst e2; subst e3; subst e4
  exact wm_X8_heldSlots C e5 h hret
-- MovingStair.count(I)I
def W_X8_count (cy : Nat → ClassId) (a_t a_t_now a_t_now_steps a_t_slots a_t_slotsE_0 a_t_slotsE_1 a_t_slotsE_2 a_t_slotsE_3 : Nat) (g_t_1 : Value) (g_t_2 : Value) (g_t_4 : Value) (g_t_5 : Value) (g_t_7 : Value) (g_t_8 : Value) (g_t_9 : Value) (g_t_10 : Value) (g_t_11 : Value) (g_t_12 : Value) (g_t_13 : Value) (g_t_now_4 : Value) (g_t_now_6 : Value) (g_t_now_8 : Value) (g_t_now_10 : Value) (g_t_now_11 : Value) (g_t_now_12 : Value) (g_t_now_13 : Value) (g_t_now_15 : Value) (g_t_now_16 : Value) (g_t_slotsE_1 : Nat → Value) (g_t_slotsE_2 : Nat → Value) (g_t_slotsE_3 : Nat → Value) (c_taped : Int) (c_now_lines : Int) (c_now_odds : Int) (c_now_parts : Int) (c_now_walkers : Int) (c_now_bands : Int) (c_now_sided : Int) (c_now_acts : Int) (c_now_steps : Int → Int) (c_slotsE_held : Int → Int) : va_W := [(a_t, .inr (8, [.int (wI c_taped), g_t_1, g_t_2, .ref a_t_now, g_t_4, g_t_5, .ref a_t_slots, g_t_7, g_t_8, g_t_9, g_t_10, g_t_11, g_t_12, g_t_13])), (a_t_now, .inr (2, [.int (wI c_now_lines), .int (wI c_now_odds), .int (wI c_now_parts), .ref a_t_now_steps, g_t_now_4, .int (wI c_now_walkers), g_t_now_6, .int (wI c_now_bands), g_t_now_8, .int (wI c_now_sided), g_t_now_10, g_t_now_11, g_t_now_12, g_t_now_13, .int (wI c_now_acts), g_t_now_15, g_t_now_16])), (a_t_now_steps, .inl (cy 1, 4, .inl (aI c_now_steps))), (a_t_slots, .inl (cy 5, 4, .inr (.inr (.inr (.inr (selO [a_t_slotsE_0, a_t_slotsE_1, a_t_slotsE_2, a_t_slotsE_3])))))), (a_t_slotsE_0, .inr (5, [.int (wI (c_slotsE_held 0)), g_t_slotsE_1 0, g_t_slotsE_2 0, g_t_slotsE_3 0])), (a_t_slotsE_1, .inr (5, [.int (wI (c_slotsE_held 1)), g_t_slotsE_1 1, g_t_slotsE_2 1, g_t_slotsE_3 1])), (a_t_slotsE_2, .inr (5, [.int (wI (c_slotsE_held 2)), g_t_slotsE_1 2, g_t_slotsE_2 2, g_t_slotsE_3 2])), (a_t_slotsE_3, .inr (5, [.int (wI (c_slotsE_held 3)), g_t_slotsE_1 3, g_t_slotsE_2 3, g_t_slotsE_3 3]))]
def m_X8_count (F : Nat) (x1 : Int) (c_taped : Int) (c_now_lines : Int) (c_now_odds : Int) (c_now_parts : Int) (c_now_walkers : Int) (c_now_bands : Int) (c_now_sided : Int) (c_now_acts : Int) (c_now_steps : Int → Int) (c_slotsE_held : Int → Int) : Option (Int) :=
  if wI x1 = wI 0 then
    (some c_now_parts)
  else if wI x1 = wI 1 then
    (some c_now_walkers)
  else if wI x1 = wI 2 then
    (some c_now_bands)
  else if wI x1 = wI 3 then
    (some c_now_odds)
  else if wI x1 = wI 4 then
    (bnd1 (m_X2_allSteps F c_now_parts c_now_steps) fun r1 => some r1)
  else if wI x1 = wI 5 then
    (if wI c_now_sided = wI 0 then
    (some 0)
  else
    (some 1))
  else if wI x1 = wI 6 then
    (some c_now_acts)
  else if wI x1 = wI 7 then
    (some c_now_lines)
  else if wI x1 = wI 8 then
    (some c_taped)
  else if wI x1 = wI 9 then
    (bnd1 (m_X8_heldSlots F c_slotsE_held) fun r1 => some r1)
  else (some (-1))
section S_X8_count
variable {E : EE} {a_t a_t_now a_t_now_steps a_t_slots a_t_slotsE_0 a_t_slotsE_1 a_t_slotsE_2 a_t_slotsE_3 : Nat} {g_t_1 : Value} {g_t_2 : Value} {g_t_4 : Value} {g_t_5 : Value} {g_t_7 : Value} {g_t_8 : Value} {g_t_9 : Value} {g_t_10 : Value} {g_t_11 : Value} {g_t_12 : Value} {g_t_13 : Value} {g_t_now_4 : Value} {g_t_now_6 : Value} {g_t_now_8 : Value} {g_t_now_10 : Value} {g_t_now_11 : Value} {g_t_now_12 : Value} {g_t_now_13 : Value} {g_t_now_15 : Value} {g_t_now_16 : Value} {g_t_slotsE_1 : Nat → Value} {g_t_slotsE_2 : Nat → Value} {g_t_slotsE_3 : Nat → Value}
set_option maxRecDepth 100000 in
set_option maxHeartbeats 4000000 in
theorem wm_X8_count {F : Nat} {v : Int} {x1 : Int} {c_taped : Int} {c_now_lines : Int} {c_now_odds : Int} {c_now_parts : Int} {c_now_walkers : Int} {c_now_bands : Int} {c_now_sided : Int} {c_now_acts : Int} {c_now_steps : Int → Int} {c_slotsE_held : Int → Int} (C : Cx E cX8_count RX8 { frames := 2, cells := 0, slots := 0, locals := 43 }) (hN : eN E = 2) (h : m_X8_count F x1 c_taped c_now_lines c_now_odds c_now_parts c_now_walkers c_now_bands c_now_sided c_now_acts c_now_steps c_slotsE_held = some v) (hret : ∀ (pc : Nat) (L : List (Option Value)), decode cX8_count pc = .ok (.ireturn, 1) → GG E 0 0 (W_X8_count (eCy E) a_t a_t_now a_t_now_steps a_t_slots a_t_slotsE_0 a_t_slotsE_1 a_t_slotsE_2 a_t_slotsE_3 g_t_1 g_t_2 g_t_4 g_t_5 g_t_7 g_t_8 g_t_9 g_t_10 g_t_11 g_t_12 g_t_13 g_t_now_4 g_t_now_6 g_t_now_8 g_t_now_10 g_t_now_11 g_t_now_12 g_t_now_13 g_t_now_15 g_t_now_16 g_t_slotsE_1 g_t_slotsE_2 g_t_slotsE_3 c_taped c_now_lines c_now_odds c_now_parts c_now_walkers c_now_bands c_now_sided c_now_acts c_now_steps c_slotsE_held) L pc [.int (wI v)]) : GG E 0 0 (W_X8_count (eCy E) a_t a_t_now a_t_now_steps a_t_slots a_t_slotsE_0 a_t_slotsE_1 a_t_slotsE_2 a_t_slotsE_3 g_t_1 g_t_2 g_t_4 g_t_5 g_t_7 g_t_8 g_t_9 g_t_10 g_t_11 g_t_12 g_t_13 g_t_now_4 g_t_now_6 g_t_now_8 g_t_now_10 g_t_now_11 g_t_now_12 g_t_now_13 g_t_now_15 g_t_now_16 g_t_slotsE_1 g_t_slotsE_2 g_t_slotsE_3 c_taped c_now_lines c_now_odds c_now_parts c_now_walkers c_now_bands c_now_sided c_now_acts c_now_steps c_slotsE_held) [some (.ref a_t), some (.int (wI x1))] 0 [] := by
  unfold m_X8_count at h
  refine g_iload_n 1 C dX8_count_0 rfl rfl ?_
  refine g_ifs h (fun ct1 h => ?_) (fun ct1 h => ?_)
  · refine g_tableIn (j := 0) (off := 55) 56 C dX8_count_1 ct1 (by decide) (by decide) (by decide) (by decide) ?_
    refine g_aload_n 0 C dX8_count_56 rfl rfl ?_
    refine g_get C fg_X8_22 0 rfl rfl dX8_count_57 ?_
    refine g_get C fg_X8_205 1 rfl rfl dX8_count_60 ?_
    refine g_st (st' := [.int (wI c_now_parts)]) rfl ?_
    cases h
    exact hret 63 _ dX8_count_63
  refine g_ifs h (fun ct2 h => ?_) (fun ct2 h => ?_)
  · refine g_tableIn (j := 1) (off := 63) 64 C dX8_count_1 ct2 (by decide) (by decide) (by decide) (by decide) ?_
    refine g_aload_n 0 C dX8_count_64 rfl rfl ?_
    refine g_get C fg_X8_22 0 rfl rfl dX8_count_65 ?_
    refine g_get C fg_X8_176 1 rfl rfl dX8_count_68 ?_
    refine g_st (st' := [.int (wI c_now_walkers)]) rfl ?_
    cases h
    exact hret 71 _ dX8_count_71
  refine g_ifs h (fun ct3 h => ?_) (fun ct3 h => ?_)
  · refine g_tableIn (j := 2) (off := 71) 72 C dX8_count_1 ct3 (by decide) (by decide) (by decide) (by decide) ?_
    refine g_aload_n 0 C dX8_count_72 rfl rfl ?_
    refine g_get C fg_X8_22 0 rfl rfl dX8_count_73 ?_
    refine g_get C fg_X8_451 1 rfl rfl dX8_count_76 ?_
    refine g_st (st' := [.int (wI c_now_bands)]) rfl ?_
    cases h
    exact hret 79 _ dX8_count_79
  refine g_ifs h (fun ct4 h => ?_) (fun ct4 h => ?_)
  · refine g_tableIn (j := 3) (off := 79) 80 C dX8_count_1 ct4 (by decide) (by decide) (by decide) (by decide) ?_
    refine g_aload_n 0 C dX8_count_80 rfl rfl ?_
    refine g_get C fg_X8_22 0 rfl rfl dX8_count_81 ?_
    refine g_get C fg_X8_448 1 rfl rfl dX8_count_84 ?_
    refine g_st (st' := [.int (wI c_now_odds)]) rfl ?_
    cases h
    exact hret 87 _ dX8_count_87
  refine g_ifs h (fun ct5 h => ?_) (fun ct5 h => ?_)
  · refine g_tableIn (j := 4) (off := 87) 88 C dX8_count_1 ct5 (by decide) (by decide) (by decide) (by decide) ?_
    refine g_aload_n 0 C dX8_count_88 rfl rfl ?_
    refine g_get C fg_X8_22 0 rfl rfl dX8_count_89 ?_
    obtain ⟨r6, hr7, h⟩ := bnd1_some h
    refine g_callI [1, 2] [0, 3, 4, 5, 6, 7] [0, 6, 7, 1, 2, 3, 4, 5] C mt_X8_454 (c_X2_allSteps _ _ _ _ a_t_now a_t_now_steps (.int (wI c_now_lines)) (.int (wI c_now_odds)) (g_t_now_4) (.int (wI c_now_walkers)) (g_t_now_6) (.int (wI c_now_bands)) (g_t_now_8) (.int (wI c_now_sided)) (g_t_now_10) (g_t_now_11) (g_t_now_12) (g_t_now_13) (.int (wI c_now_acts)) (g_t_now_15) (g_t_now_16) c_now_parts c_now_steps F hr7) (q0 := 0) rfl (ci := 2) rfl rfl rfl (ws2 := (W_X8_count (eCy E) a_t a_t_now a_t_now_steps a_t_slots a_t_slotsE_0 a_t_slotsE_1 a_t_slotsE_2 a_t_slotsE_3 g_t_1 g_t_2 g_t_4 g_t_5 g_t_7 g_t_8 g_t_9 g_t_10 g_t_11 g_t_12 g_t_13 g_t_now_4 g_t_now_6 g_t_now_8 g_t_now_10 g_t_now_11 g_t_now_12 g_t_now_13 g_t_now_15 g_t_now_16 g_t_slotsE_1 g_t_slotsE_2 g_t_slotsE_3 c_taped c_now_lines c_now_odds c_now_parts c_now_walkers c_now_bands c_now_sided c_now_acts c_now_steps c_slotsE_held)) rfl rfl rfl (rest := []) rfl rfl rfl dX8_count_92 ?_
    cases h
    exact hret 95 _ dX8_count_95
  refine g_ifs h (fun ct6 h => ?_) (fun ct6 h => ?_)
  · refine g_tableIn (j := 5) (off := 95) 96 C dX8_count_1 ct6 (by decide) (by decide) (by decide) (by decide) ?_
    refine g_aload_n 0 C dX8_count_96 rfl rfl ?_
    refine g_get C fg_X8_22 0 rfl rfl dX8_count_97 ?_
    refine g_get C fg_X8_331 1 rfl rfl dX8_count_100 ?_
    refine g_st (st' := [.int (wI c_now_sided)]) rfl ?_
    refine g_if_eq 110 C dX8_count_103 (by decide) h (fun h => ?_) (fun h => ?_)
    · refine g_iconst C dX8_count_110 ?_
      cases h
      exact hret 111 _ dX8_count_111
    · refine g_iconst C dX8_count_106 ?_
      refine g_goto (tgt := 111) C dX8_count_107 (by decide) ?_
      cases h
      exact hret 111 _ dX8_count_111
  refine g_ifs h (fun ct7 h => ?_) (fun ct7 h => ?_)
  · refine g_tableIn (j := 6) (off := 111) 112 C dX8_count_1 ct7 (by decide) (by decide) (by decide) (by decide) ?_
    refine g_aload_n 0 C dX8_count_112 rfl rfl ?_
    refine g_get C fg_X8_22 0 rfl rfl dX8_count_113 ?_
    refine g_get C fg_X8_416 1 rfl rfl dX8_count_116 ?_
    refine g_st (st' := [.int (wI c_now_acts)]) rfl ?_
    cases h
    exact hret 119 _ dX8_count_119
  refine g_ifs h (fun ct8 h => ?_) (fun ct8 h => ?_)
  · refine g_tableIn (j := 7) (off := 119) 120 C dX8_count_1 ct8 (by decide) (by decide) (by decide) (by decide) ?_
    refine g_aload_n 0 C dX8_count_120 rfl rfl ?_
    refine g_get C fg_X8_22 0 rfl rfl dX8_count_121 ?_
    refine g_get C fg_X8_110 1 rfl rfl dX8_count_124 ?_
    refine g_st (st' := [.int (wI c_now_lines)]) rfl ?_
    cases h
    exact hret 127 _ dX8_count_127
  refine g_ifs h (fun ct9 h => ?_) (fun ct9 h => ?_)
  · refine g_tableIn (j := 8) (off := 127) 128 C dX8_count_1 ct9 (by decide) (by decide) (by decide) (by decide) ?_
    refine g_aload_n 0 C dX8_count_128 rfl rfl ?_
    refine g_get C fg_X8_7 0 rfl rfl dX8_count_129 ?_
    refine g_st (st' := [.int (wI c_taped)]) rfl ?_
    cases h
    exact hret 132 _ dX8_count_132
  refine g_ifs h (fun ct10 h => ?_) (fun ct10 h => ?_)
  · refine g_tableIn (j := 9) (off := 132) 133 C dX8_count_1 ct10 (by decide) (by decide) (by decide) (by decide) ?_
    refine g_aload_n 0 C dX8_count_133 rfl rfl ?_
    obtain ⟨r11, hr12, h⟩ := bnd1_some h
    refine g_callI [0, 3, 4, 5, 6, 7] [1, 2] [2, 0, 1, 3, 4, 5, 6, 7] C mt_X8_457 (c_X8_heldSlots _ _ _ _ a_t a_t_slots a_t_slotsE_0 a_t_slotsE_1 a_t_slotsE_2 a_t_slotsE_3 (.int (wI c_taped)) (g_t_1) (g_t_2) (.ref a_t_now) (g_t_4) (g_t_5) (g_t_7) (g_t_8) (g_t_9) (g_t_10) (g_t_11) (g_t_12) (g_t_13) (selV [g_t_slotsE_1 0, g_t_slotsE_1 1, g_t_slotsE_1 2, g_t_slotsE_1 3]) (selV [g_t_slotsE_2 0, g_t_slotsE_2 1, g_t_slotsE_2 2, g_t_slotsE_2 3]) (selV [g_t_slotsE_3 0, g_t_slotsE_3 1, g_t_slotsE_3 2, g_t_slotsE_3 3]) c_slotsE_held F hr12) (q0 := 0) rfl (ci := 8) rfl rfl rfl (ws2 := (W_X8_count (eCy E) a_t a_t_now a_t_now_steps a_t_slots a_t_slotsE_0 a_t_slotsE_1 a_t_slotsE_2 a_t_slotsE_3 g_t_1 g_t_2 g_t_4 g_t_5 g_t_7 g_t_8 g_t_9 g_t_10 g_t_11 g_t_12 g_t_13 g_t_now_4 g_t_now_6 g_t_now_8 g_t_now_10 g_t_now_11 g_t_now_12 g_t_now_13 g_t_now_15 g_t_now_16 g_t_slotsE_1 g_t_slotsE_2 g_t_slotsE_3 c_taped c_now_lines c_now_odds c_now_parts c_now_walkers c_now_bands c_now_sided c_now_acts c_now_steps c_slotsE_held)) rfl rfl rfl (rest := []) rfl rfl rfl dX8_count_134 ?_
    cases h
    exact hret 137 _ dX8_count_137
  refine g_tableOut 138 C dX8_count_1 (tab_out (fun j h1 h2 => by rcases (show j = 0 ∨ j = 1 ∨ j = 2 ∨ j = 3 ∨ j = 4 ∨ j = 5 ∨ j = 6 ∨ j = 7 ∨ j = 8 ∨ j = 9 by omega) with rfl | rfl | rfl | rfl | rfl | rfl | rfl | rfl | rfl | rfl <;> assumption)) (by decide) ?_
  refine g_iconst C dX8_count_138 ?_
  cases h
  exact hret 139 _ dX8_count_139
end S_X8_count
set_option maxRecDepth 100000 in
set_option maxHeartbeats 4000000 in
theorem c_X8_count (l : Launch) (D : va_G) (cy : Nat → ClassId) (ad : AD) (a_t a_t_now a_t_now_steps a_t_slots a_t_slotsE_0 a_t_slotsE_1 a_t_slotsE_2 a_t_slotsE_3 : Nat) (g_t_1 : Value) (g_t_2 : Value) (g_t_4 : Value) (g_t_5 : Value) (g_t_7 : Value) (g_t_8 : Value) (g_t_9 : Value) (g_t_10 : Value) (g_t_11 : Value) (g_t_12 : Value) (g_t_13 : Value) (g_t_now_4 : Value) (g_t_now_6 : Value) (g_t_now_8 : Value) (g_t_now_10 : Value) (g_t_now_11 : Value) (g_t_now_12 : Value) (g_t_now_13 : Value) (g_t_now_15 : Value) (g_t_now_16 : Value) (g_t_slotsE_1 : Nat → Value) (g_t_slotsE_2 : Nat → Value) (g_t_slotsE_3 : Nat → Value) (x1 : Int) (c_taped : Int) (c_now_lines : Int) (c_now_odds : Int) (c_now_parts : Int) (c_now_walkers : Int) (c_now_bands : Int) (c_now_sided : Int) (c_now_acts : Int) (c_now_steps : Int → Int) (c_slotsE_held : Int → Int) (F : Nat) {v : Int} (h : m_X8_count F x1 c_taped c_now_lines c_now_odds c_now_parts c_now_walkers c_now_bands c_now_sided c_now_acts c_now_steps c_slotsE_held = some v) : Ct l yX8_count cX8_count 2 (some .int) { frames := 2, cells := 0, slots := 0, locals := 43 } D cy ad [.ref a_t, .int (wI x1)] (W_X8_count cy a_t a_t_now a_t_now_steps a_t_slots a_t_slotsE_0 a_t_slotsE_1 a_t_slotsE_2 a_t_slotsE_3 g_t_1 g_t_2 g_t_4 g_t_5 g_t_7 g_t_8 g_t_9 g_t_10 g_t_11 g_t_12 g_t_13 g_t_now_4 g_t_now_6 g_t_now_8 g_t_now_10 g_t_now_11 g_t_now_12 g_t_now_13 g_t_now_15 g_t_now_16 g_t_slotsE_1 g_t_slotsE_2 g_t_slotsE_3 c_taped c_now_lines c_now_odds c_now_parts c_now_walkers c_now_bands c_now_sided c_now_acts c_now_steps c_slotsE_held) (W_X8_count cy a_t a_t_now a_t_now_steps a_t_slots a_t_slotsE_0 a_t_slotsE_1 a_t_slotsE_2 a_t_slotsE_3 g_t_1 g_t_2 g_t_4 g_t_5 g_t_7 g_t_8 g_t_9 g_t_10 g_t_11 g_t_12 g_t_13 g_t_now_4 g_t_now_6 g_t_now_8 g_t_now_10 g_t_now_11 g_t_now_12 g_t_now_13 g_t_now_15 g_t_now_16 g_t_slotsE_1 g_t_slotsE_2 g_t_slotsE_3 c_taped c_now_lines c_now_odds c_now_parts c_now_walkers c_now_bands c_now_sided c_now_acts c_now_steps c_slotsE_held) (some (.int (wI v))) := by
  refine Ct.introI (j := 0) (plainFor_of_name (by decide)) rfl rfl (fun E C e1 e2 e3 e4 e5 hret => ?_)
  subst e1; subst e2; subst e3; subst e4
  exact wm_X8_count C e5 h hret
-- MovingStair.image(I)I
def W_X8_image (cy : Nat → ClassId) (a_t a_t_imaged a_t_images a_t_imagesE_0 a_t_imagesE_1 a_t_imagesE_2 a_t_imagesE_actParts_0 a_t_imagesE_actParts_1 a_t_imagesE_actParts_2 a_t_imagesE_actSpeeds_0 a_t_imagesE_actSpeeds_1 a_t_imagesE_actSpeeds_2 a_t_imagesE_carried_0 a_t_imagesE_carried_1 a_t_imagesE_carried_2 a_t_imagesE_paces_0 a_t_imagesE_paces_1 a_t_imagesE_paces_2 a_t_imagesE_speeds_0 a_t_imagesE_speeds_1 a_t_imagesE_speeds_2 a_t_imagesE_steps_0 a_t_imagesE_steps_1 a_t_imagesE_steps_2 a_t_now a_t_now_actParts a_t_now_actSpeeds a_t_now_carried a_t_now_paces a_t_now_speeds a_t_now_steps : Nat) (g_t_0 : Value) (g_t_1 : Value) (g_t_2 : Value) (g_t_6 : Value) (g_t_7 : Value) (g_t_8 : Value) (g_t_9 : Value) (g_t_10 : Value) (g_t_11 : Value) (g_t_12 : Value) (g_t_13 : Value) (c_imaged : Int → Int) (c_imagesE_lines : Int → Int) (c_imagesE_odds : Int → Int) (c_imagesE_parts : Int → Int) (c_imagesE_walkers : Int → Int) (c_imagesE_bands : Int → Int) (c_imagesE_sided : Int → Int) (c_imagesE_sideStand : Int → Int) (c_imagesE_sideWalk : Int → Int) (c_imagesE_sidePace : Int → Int) (c_imagesE_sideWould : Int → Int) (c_imagesE_acts : Int → Int) (c_imagesE_actParts : Int → Int → Int) (c_imagesE_actSpeeds : Int → Int → Int) (c_imagesE_carried : Int → Int → Int) (c_imagesE_paces : Int → Int → Int) (c_imagesE_speeds : Int → Int → Int) (c_imagesE_steps : Int → Int → Int) (c_now_lines : Int) (c_now_odds : Int) (c_now_parts : Int) (c_now_walkers : Int) (c_now_bands : Int) (c_now_sided : Int) (c_now_sideStand : Int) (c_now_sideWalk : Int) (c_now_sidePace : Int) (c_now_sideWould : Int) (c_now_acts : Int) (c_now_actParts : Int → Int) (c_now_actSpeeds : Int → Int) (c_now_carried : Int → Int) (c_now_paces : Int → Int) (c_now_speeds : Int → Int) (c_now_steps : Int → Int) : va_W := [(a_t, .inr (8, [g_t_0, g_t_1, g_t_2, .ref a_t_now, .ref a_t_images, .ref a_t_imaged, g_t_6, g_t_7, g_t_8, g_t_9, g_t_10, g_t_11, g_t_12, g_t_13])), (a_t_imaged, .inl (cy 3, 3, .inl (aI c_imaged))), (a_t_images, .inl (cy 4, 3, .inr (.inr (.inr (.inr (selO [a_t_imagesE_0, a_t_imagesE_1, a_t_imagesE_2])))))), (a_t_imagesE_0, .inr (2, [.int (wI (c_imagesE_lines 0)), .int (wI (c_imagesE_odds 0)), .int (wI (c_imagesE_parts 0)), .ref a_t_imagesE_steps_0, .ref a_t_imagesE_speeds_0, .int (wI (c_imagesE_walkers 0)), .ref a_t_imagesE_paces_0, .int (wI (c_imagesE_bands 0)), .ref a_t_imagesE_carried_0, .int (wI (c_imagesE_sided 0)), .int (wI (c_imagesE_sideStand 0)), .int (wI (c_imagesE_sideWalk 0)), .int (wI (c_imagesE_sidePace 0)), .int (wI (c_imagesE_sideWould 0)), .int (wI (c_imagesE_acts 0)), .ref a_t_imagesE_actParts_0, .ref a_t_imagesE_actSpeeds_0])), (a_t_imagesE_1, .inr (2, [.int (wI (c_imagesE_lines 1)), .int (wI (c_imagesE_odds 1)), .int (wI (c_imagesE_parts 1)), .ref a_t_imagesE_steps_1, .ref a_t_imagesE_speeds_1, .int (wI (c_imagesE_walkers 1)), .ref a_t_imagesE_paces_1, .int (wI (c_imagesE_bands 1)), .ref a_t_imagesE_carried_1, .int (wI (c_imagesE_sided 1)), .int (wI (c_imagesE_sideStand 1)), .int (wI (c_imagesE_sideWalk 1)), .int (wI (c_imagesE_sidePace 1)), .int (wI (c_imagesE_sideWould 1)), .int (wI (c_imagesE_acts 1)), .ref a_t_imagesE_actParts_1, .ref a_t_imagesE_actSpeeds_1])), (a_t_imagesE_2, .inr (2, [.int (wI (c_imagesE_lines 2)), .int (wI (c_imagesE_odds 2)), .int (wI (c_imagesE_parts 2)), .ref a_t_imagesE_steps_2, .ref a_t_imagesE_speeds_2, .int (wI (c_imagesE_walkers 2)), .ref a_t_imagesE_paces_2, .int (wI (c_imagesE_bands 2)), .ref a_t_imagesE_carried_2, .int (wI (c_imagesE_sided 2)), .int (wI (c_imagesE_sideStand 2)), .int (wI (c_imagesE_sideWalk 2)), .int (wI (c_imagesE_sidePace 2)), .int (wI (c_imagesE_sideWould 2)), .int (wI (c_imagesE_acts 2)), .ref a_t_imagesE_actParts_2, .ref a_t_imagesE_actSpeeds_2])), (a_t_imagesE_actParts_0, .inl (cy 1, 60, .inl (aI (c_imagesE_actParts 0)))), (a_t_imagesE_actParts_1, .inl (cy 1, 60, .inl (aI (c_imagesE_actParts 1)))), (a_t_imagesE_actParts_2, .inl (cy 1, 60, .inl (aI (c_imagesE_actParts 2)))), (a_t_imagesE_actSpeeds_0, .inl (cy 1, 60, .inl (aI (c_imagesE_actSpeeds 0)))), (a_t_imagesE_actSpeeds_1, .inl (cy 1, 60, .inl (aI (c_imagesE_actSpeeds 1)))), (a_t_imagesE_actSpeeds_2, .inl (cy 1, 60, .inl (aI (c_imagesE_actSpeeds 2)))), (a_t_imagesE_carried_0, .inl (cy 1, 4, .inl (aI (c_imagesE_carried 0)))), (a_t_imagesE_carried_1, .inl (cy 1, 4, .inl (aI (c_imagesE_carried 1)))), (a_t_imagesE_carried_2, .inl (cy 1, 4, .inl (aI (c_imagesE_carried 2)))), (a_t_imagesE_paces_0, .inl (cy 1, 8, .inl (aI (c_imagesE_paces 0)))), (a_t_imagesE_paces_1, .inl (cy 1, 8, .inl (aI (c_imagesE_paces 1)))), (a_t_imagesE_paces_2, .inl (cy 1, 8, .inl (aI (c_imagesE_paces 2)))), (a_t_imagesE_speeds_0, .inl (cy 1, 4, .inl (aI (c_imagesE_speeds 0)))), (a_t_imagesE_speeds_1, .inl (cy 1, 4, .inl (aI (c_imagesE_speeds 1)))), (a_t_imagesE_speeds_2, .inl (cy 1, 4, .inl (aI (c_imagesE_speeds 2)))), (a_t_imagesE_steps_0, .inl (cy 1, 4, .inl (aI (c_imagesE_steps 0)))), (a_t_imagesE_steps_1, .inl (cy 1, 4, .inl (aI (c_imagesE_steps 1)))), (a_t_imagesE_steps_2, .inl (cy 1, 4, .inl (aI (c_imagesE_steps 2)))), (a_t_now, .inr (2, [.int (wI c_now_lines), .int (wI c_now_odds), .int (wI c_now_parts), .ref a_t_now_steps, .ref a_t_now_speeds, .int (wI c_now_walkers), .ref a_t_now_paces, .int (wI c_now_bands), .ref a_t_now_carried, .int (wI c_now_sided), .int (wI c_now_sideStand), .int (wI c_now_sideWalk), .int (wI c_now_sidePace), .int (wI c_now_sideWould), .int (wI c_now_acts), .ref a_t_now_actParts, .ref a_t_now_actSpeeds])), (a_t_now_actParts, .inl (cy 1, 60, .inl (aI c_now_actParts))), (a_t_now_actSpeeds, .inl (cy 1, 60, .inl (aI c_now_actSpeeds))), (a_t_now_carried, .inl (cy 1, 4, .inl (aI c_now_carried))), (a_t_now_paces, .inl (cy 1, 8, .inl (aI c_now_paces))), (a_t_now_speeds, .inl (cy 1, 4, .inl (aI c_now_speeds))), (a_t_now_steps, .inl (cy 1, 4, .inl (aI c_now_steps)))]
def m_X8_image (F : Nat) (x1 : Int) (c_imaged : Int → Int) (c_imagesE_lines : Int → Int) (c_imagesE_odds : Int → Int) (c_imagesE_parts : Int → Int) (c_imagesE_walkers : Int → Int) (c_imagesE_bands : Int → Int) (c_imagesE_sided : Int → Int) (c_imagesE_sideStand : Int → Int) (c_imagesE_sideWalk : Int → Int) (c_imagesE_sidePace : Int → Int) (c_imagesE_sideWould : Int → Int) (c_imagesE_acts : Int → Int) (c_imagesE_actParts : Int → Int → Int) (c_imagesE_actSpeeds : Int → Int → Int) (c_imagesE_carried : Int → Int → Int) (c_imagesE_paces : Int → Int → Int) (c_imagesE_speeds : Int → Int → Int) (c_imagesE_steps : Int → Int → Int) (c_now_lines : Int) (c_now_odds : Int) (c_now_parts : Int) (c_now_walkers : Int) (c_now_bands : Int) (c_now_sided : Int) (c_now_sideStand : Int) (c_now_sideWalk : Int) (c_now_sidePace : Int) (c_now_sideWould : Int) (c_now_acts : Int) (c_now_actParts : Int → Int) (c_now_actSpeeds : Int → Int) (c_now_carried : Int → Int) (c_now_paces : Int → Int) (c_now_speeds : Int → Int) (c_now_steps : Int → Int) : Option (Int × (Int → Int) × (Int → Int) × (Int → Int) × (Int → Int) × (Int → Int) × (Int → Int) × (Int → Int) × (Int → Int) × (Int → Int) × (Int → Int) × (Int → Int) × (Int → Int) × (Int → Int → Int) × (Int → Int → Int) × (Int → Int → Int) × (Int → Int → Int) × (Int → Int → Int) × (Int → Int → Int)) :=
  chk (r32 x1) <| bnd1 (m_X8_isOut F x1 0 2) fun r2 => if wI r2 = wI 0 then
    (chk (0 ≤ x1 ∧ x1 < 3) <| bnd17 (m_X2_copyFrom F c_now_lines c_now_odds c_now_parts c_now_walkers c_now_bands c_now_sided c_now_sideStand c_now_sideWalk c_now_sidePace c_now_sideWould c_now_acts c_now_actParts c_now_actSpeeds c_now_carried c_now_paces c_now_speeds c_now_steps (c_imagesE_actParts x1) (c_imagesE_actSpeeds x1) (c_imagesE_carried x1) (c_imagesE_paces x1) (c_imagesE_speeds x1) (c_imagesE_steps x1)) fun o4 o5 o6 o7 o8 o9 o10 o11 o12 o13 o14 o15 o16 o17 o18 o19 o20 => chk (0 ≤ x1 ∧ x1 < 3) <| some (0, up c_imaged x1 1, up c_imagesE_lines x1 o4, up c_imagesE_odds x1 o5, up c_imagesE_parts x1 o6, up c_imagesE_walkers x1 o7, up c_imagesE_bands x1 o8, up c_imagesE_sided x1 o9, up c_imagesE_sideStand x1 o10, up c_imagesE_sideWalk x1 o11, up c_imagesE_sidePace x1 o12, up c_imagesE_sideWould x1 o13, up c_imagesE_acts x1 o14, up c_imagesE_actParts x1 o15, up c_imagesE_actSpeeds x1 o16, up c_imagesE_carried x1 o17, up c_imagesE_paces x1 o18, up c_imagesE_speeds x1 o19, up c_imagesE_steps x1 o20))
  else
    (some ((-2), c_imaged, c_imagesE_lines, c_imagesE_odds, c_imagesE_parts, c_imagesE_walkers, c_imagesE_bands, c_imagesE_sided, c_imagesE_sideStand, c_imagesE_sideWalk, c_imagesE_sidePace, c_imagesE_sideWould, c_imagesE_acts, c_imagesE_actParts, c_imagesE_actSpeeds, c_imagesE_carried, c_imagesE_paces, c_imagesE_speeds, c_imagesE_steps))
section S_X8_image
variable {E : EE} {a_t a_t_imaged a_t_images a_t_imagesE_0 a_t_imagesE_1 a_t_imagesE_2 a_t_imagesE_actParts_0 a_t_imagesE_actParts_1 a_t_imagesE_actParts_2 a_t_imagesE_actSpeeds_0 a_t_imagesE_actSpeeds_1 a_t_imagesE_actSpeeds_2 a_t_imagesE_carried_0 a_t_imagesE_carried_1 a_t_imagesE_carried_2 a_t_imagesE_paces_0 a_t_imagesE_paces_1 a_t_imagesE_paces_2 a_t_imagesE_speeds_0 a_t_imagesE_speeds_1 a_t_imagesE_speeds_2 a_t_imagesE_steps_0 a_t_imagesE_steps_1 a_t_imagesE_steps_2 a_t_now a_t_now_actParts a_t_now_actSpeeds a_t_now_carried a_t_now_paces a_t_now_speeds a_t_now_steps : Nat} {g_t_0 : Value} {g_t_1 : Value} {g_t_2 : Value} {g_t_6 : Value} {g_t_7 : Value} {g_t_8 : Value} {g_t_9 : Value} {g_t_10 : Value} {g_t_11 : Value} {g_t_12 : Value} {g_t_13 : Value}
set_option maxRecDepth 100000 in
set_option maxHeartbeats 4000000 in
theorem wm_X8_image {F : Nat} {v : Int × (Int → Int) × (Int → Int) × (Int → Int) × (Int → Int) × (Int → Int) × (Int → Int) × (Int → Int) × (Int → Int) × (Int → Int) × (Int → Int) × (Int → Int) × (Int → Int) × (Int → Int → Int) × (Int → Int → Int) × (Int → Int → Int) × (Int → Int → Int) × (Int → Int → Int) × (Int → Int → Int)} {x1 : Int} {c_imaged : Int → Int} {c_imagesE_lines : Int → Int} {c_imagesE_odds : Int → Int} {c_imagesE_parts : Int → Int} {c_imagesE_walkers : Int → Int} {c_imagesE_bands : Int → Int} {c_imagesE_sided : Int → Int} {c_imagesE_sideStand : Int → Int} {c_imagesE_sideWalk : Int → Int} {c_imagesE_sidePace : Int → Int} {c_imagesE_sideWould : Int → Int} {c_imagesE_acts : Int → Int} {c_imagesE_actParts : Int → Int → Int} {c_imagesE_actSpeeds : Int → Int → Int} {c_imagesE_carried : Int → Int → Int} {c_imagesE_paces : Int → Int → Int} {c_imagesE_speeds : Int → Int → Int} {c_imagesE_steps : Int → Int → Int} {c_now_lines : Int} {c_now_odds : Int} {c_now_parts : Int} {c_now_walkers : Int} {c_now_bands : Int} {c_now_sided : Int} {c_now_sideStand : Int} {c_now_sideWalk : Int} {c_now_sidePace : Int} {c_now_sideWould : Int} {c_now_acts : Int} {c_now_actParts : Int → Int} {c_now_actSpeeds : Int → Int} {c_now_carried : Int → Int} {c_now_paces : Int → Int} {c_now_speeds : Int → Int} {c_now_steps : Int → Int} (C : Cx E cX8_image RX8 { frames := 2, cells := 0, slots := 0, locals := 47 }) (hN : eN E = 2) (h : m_X8_image F x1 c_imaged c_imagesE_lines c_imagesE_odds c_imagesE_parts c_imagesE_walkers c_imagesE_bands c_imagesE_sided c_imagesE_sideStand c_imagesE_sideWalk c_imagesE_sidePace c_imagesE_sideWould c_imagesE_acts c_imagesE_actParts c_imagesE_actSpeeds c_imagesE_carried c_imagesE_paces c_imagesE_speeds c_imagesE_steps c_now_lines c_now_odds c_now_parts c_now_walkers c_now_bands c_now_sided c_now_sideStand c_now_sideWalk c_now_sidePace c_now_sideWould c_now_acts c_now_actParts c_now_actSpeeds c_now_carried c_now_paces c_now_speeds c_now_steps = some v) (hret : ∀ (pc : Nat) (L : List (Option Value)), decode cX8_image pc = .ok (.ireturn, 1) → GG E 0 0 (W_X8_image (eCy E) a_t a_t_imaged a_t_images a_t_imagesE_0 a_t_imagesE_1 a_t_imagesE_2 a_t_imagesE_actParts_0 a_t_imagesE_actParts_1 a_t_imagesE_actParts_2 a_t_imagesE_actSpeeds_0 a_t_imagesE_actSpeeds_1 a_t_imagesE_actSpeeds_2 a_t_imagesE_carried_0 a_t_imagesE_carried_1 a_t_imagesE_carried_2 a_t_imagesE_paces_0 a_t_imagesE_paces_1 a_t_imagesE_paces_2 a_t_imagesE_speeds_0 a_t_imagesE_speeds_1 a_t_imagesE_speeds_2 a_t_imagesE_steps_0 a_t_imagesE_steps_1 a_t_imagesE_steps_2 a_t_now a_t_now_actParts a_t_now_actSpeeds a_t_now_carried a_t_now_paces a_t_now_speeds a_t_now_steps g_t_0 g_t_1 g_t_2 g_t_6 g_t_7 g_t_8 g_t_9 g_t_10 g_t_11 g_t_12 g_t_13 (v.2.1) (v.2.2.1) (v.2.2.2.1) (v.2.2.2.2.1) (v.2.2.2.2.2.1) (v.2.2.2.2.2.2.1) (v.2.2.2.2.2.2.2.1) (v.2.2.2.2.2.2.2.2.1) (v.2.2.2.2.2.2.2.2.2.1) (v.2.2.2.2.2.2.2.2.2.2.1) (v.2.2.2.2.2.2.2.2.2.2.2.1) (v.2.2.2.2.2.2.2.2.2.2.2.2.1) (v.2.2.2.2.2.2.2.2.2.2.2.2.2.1) (v.2.2.2.2.2.2.2.2.2.2.2.2.2.2.1) (v.2.2.2.2.2.2.2.2.2.2.2.2.2.2.2.1) (v.2.2.2.2.2.2.2.2.2.2.2.2.2.2.2.2.1) (v.2.2.2.2.2.2.2.2.2.2.2.2.2.2.2.2.2.1) (v.2.2.2.2.2.2.2.2.2.2.2.2.2.2.2.2.2.2) c_now_lines c_now_odds c_now_parts c_now_walkers c_now_bands c_now_sided c_now_sideStand c_now_sideWalk c_now_sidePace c_now_sideWould c_now_acts c_now_actParts c_now_actSpeeds c_now_carried c_now_paces c_now_speeds c_now_steps) L pc [.int (wI (v.1))]) : GG E 0 0 (W_X8_image (eCy E) a_t a_t_imaged a_t_images a_t_imagesE_0 a_t_imagesE_1 a_t_imagesE_2 a_t_imagesE_actParts_0 a_t_imagesE_actParts_1 a_t_imagesE_actParts_2 a_t_imagesE_actSpeeds_0 a_t_imagesE_actSpeeds_1 a_t_imagesE_actSpeeds_2 a_t_imagesE_carried_0 a_t_imagesE_carried_1 a_t_imagesE_carried_2 a_t_imagesE_paces_0 a_t_imagesE_paces_1 a_t_imagesE_paces_2 a_t_imagesE_speeds_0 a_t_imagesE_speeds_1 a_t_imagesE_speeds_2 a_t_imagesE_steps_0 a_t_imagesE_steps_1 a_t_imagesE_steps_2 a_t_now a_t_now_actParts a_t_now_actSpeeds a_t_now_carried a_t_now_paces a_t_now_speeds a_t_now_steps g_t_0 g_t_1 g_t_2 g_t_6 g_t_7 g_t_8 g_t_9 g_t_10 g_t_11 g_t_12 g_t_13 c_imaged c_imagesE_lines c_imagesE_odds c_imagesE_parts c_imagesE_walkers c_imagesE_bands c_imagesE_sided c_imagesE_sideStand c_imagesE_sideWalk c_imagesE_sidePace c_imagesE_sideWould c_imagesE_acts c_imagesE_actParts c_imagesE_actSpeeds c_imagesE_carried c_imagesE_paces c_imagesE_speeds c_imagesE_steps c_now_lines c_now_odds c_now_parts c_now_walkers c_now_bands c_now_sided c_now_sideStand c_now_sideWalk c_now_sidePace c_now_sideWould c_now_acts c_now_actParts c_now_actSpeeds c_now_carried c_now_paces c_now_speeds c_now_steps) [some (.ref a_t), some (.int (wI x1))] 0 [] := by
  unfold m_X8_image at h
  refine g_iload_n 1 C dX8_image_0 rfl rfl ?_
  obtain ⟨hc1, h⟩ := chk_some h
  refine g_i2l C dX8_image_1 hc1 ?_
  refine g_lconst (x := 0) C dX8_image_2 (by decide) ?_
  refine g_ldc2 (v := 2) C mc_X8_405 dX8_image_3 ?_
  obtain ⟨r2, hr3, h⟩ := bnd1_some h
  refine g_callSI [] [0, 1, 2, 3, 4, 5, 6, 7, 8, 9, 10, 11, 12, 13, 14, 15, 16, 17, 18, 19, 20, 21, 22, 23, 24, 25, 26, 27, 28, 29, 30] [0, 1, 2, 3, 4, 5, 6, 7, 8, 9, 10, 11, 12, 13, 14, 15, 16, 17, 18, 19, 20, 21, 22, 23, 24, 25, 26, 27, 28, 29, 30] C mt_X8_161 (c_X8_isOut _ _ _ _ x1 0 2 F hr3) rfl rfl (ws2 := (W_X8_image (eCy E) a_t a_t_imaged a_t_images a_t_imagesE_0 a_t_imagesE_1 a_t_imagesE_2 a_t_imagesE_actParts_0 a_t_imagesE_actParts_1 a_t_imagesE_actParts_2 a_t_imagesE_actSpeeds_0 a_t_imagesE_actSpeeds_1 a_t_imagesE_actSpeeds_2 a_t_imagesE_carried_0 a_t_imagesE_carried_1 a_t_imagesE_carried_2 a_t_imagesE_paces_0 a_t_imagesE_paces_1 a_t_imagesE_paces_2 a_t_imagesE_speeds_0 a_t_imagesE_speeds_1 a_t_imagesE_speeds_2 a_t_imagesE_steps_0 a_t_imagesE_steps_1 a_t_imagesE_steps_2 a_t_now a_t_now_actParts a_t_now_actSpeeds a_t_now_carried a_t_now_paces a_t_now_speeds a_t_now_steps g_t_0 g_t_1 g_t_2 g_t_6 g_t_7 g_t_8 g_t_9 g_t_10 g_t_11 g_t_12 g_t_13 c_imaged c_imagesE_lines c_imagesE_odds c_imagesE_parts c_imagesE_walkers c_imagesE_bands c_imagesE_sided c_imagesE_sideStand c_imagesE_sideWalk c_imagesE_sidePace c_imagesE_sideWould c_imagesE_acts c_imagesE_actParts c_imagesE_actSpeeds c_imagesE_carried c_imagesE_paces c_imagesE_speeds c_imagesE_steps c_now_lines c_now_odds c_now_parts c_now_walkers c_now_bands c_now_sided c_now_sideStand c_now_sideWalk c_now_sidePace c_now_sideWould c_now_acts c_now_actParts c_now_actSpeeds c_now_carried c_now_paces c_now_speeds c_now_steps)) rfl rfl rfl (rest := []) rfl rfl rfl dX8_image_6 ?_
  refine g_if_eq 15 C dX8_image_9 (by decide) h (fun h => ?_) (fun h => ?_)
  · refine g_aload_n 0 C dX8_image_15 rfl rfl ?_
    refine g_get C fg_X8_26 0 rfl rfl dX8_image_16 ?_
    refine g_iload_n 1 C dX8_image_19 rfl rfl ?_
    obtain ⟨hc4, h⟩ := chk_some h
    obtain rfl | rfl | rfl : x1 = 0 ∨ x1 = 1 ∨ x1 = 2 := by omega
    · refine g_aald C 2 (t0 := 4) rfl rfl (by decide) rfl dX8_image_20 ?_
      refine g_aload_n 0 C dX8_image_21 rfl rfl ?_
      refine g_get C fg_X8_22 0 rfl rfl dX8_image_22 ?_
      obtain ⟨o5, o6, o7, o8, o9, o10, o11, o12, o13, o14, o15, o16, o17, o18, o19, o20, o21, hr22, h⟩ := bnd17_some h
      refine g_callV [3, 24, 25, 26, 27, 28, 29, 30, 6, 9, 12, 15, 18, 21] [0, 1, 2, 4, 5, 7, 8, 10, 11, 13, 14, 16, 17, 19, 20, 22, 23] [0, 1, 2, 17, 3, 4, 25, 5, 6, 26, 7, 8, 27, 9, 10, 28, 11, 12, 29, 13, 14, 30, 15, 16, 18, 19, 20, 21, 22, 23, 24] C mt_X8_106 (c_X2_copyFrom _ _ _ _ a_t_imagesE_0 a_t_now a_t_now_actParts a_t_now_actSpeeds a_t_now_carried a_t_now_paces a_t_now_speeds a_t_now_steps a_t_imagesE_actParts_0 a_t_imagesE_actSpeeds_0 a_t_imagesE_carried_0 a_t_imagesE_paces_0 a_t_imagesE_speeds_0 a_t_imagesE_steps_0 (c_imagesE_lines (0)) (c_imagesE_odds (0)) (c_imagesE_parts (0)) (c_imagesE_walkers (0)) (c_imagesE_bands (0)) (c_imagesE_sided (0)) (c_imagesE_sideStand (0)) (c_imagesE_sideWalk (0)) (c_imagesE_sidePace (0)) (c_imagesE_sideWould (0)) (c_imagesE_acts (0)) c_now_lines c_now_odds c_now_parts c_now_walkers c_now_bands c_now_sided c_now_sideStand c_now_sideWalk c_now_sidePace c_now_sideWould c_now_acts c_now_actParts c_now_actSpeeds c_now_carried c_now_paces c_now_speeds c_now_steps (c_imagesE_actParts (0)) (c_imagesE_actSpeeds (0)) (c_imagesE_carried (0)) (c_imagesE_paces (0)) (c_imagesE_speeds (0)) (c_imagesE_steps (0)) F hr22) (q0 := 0) rfl (ci := 2) rfl rfl rfl (ws2 := (W_X8_image (eCy E) a_t a_t_imaged a_t_images a_t_imagesE_0 a_t_imagesE_1 a_t_imagesE_2 a_t_imagesE_actParts_0 a_t_imagesE_actParts_1 a_t_imagesE_actParts_2 a_t_imagesE_actSpeeds_0 a_t_imagesE_actSpeeds_1 a_t_imagesE_actSpeeds_2 a_t_imagesE_carried_0 a_t_imagesE_carried_1 a_t_imagesE_carried_2 a_t_imagesE_paces_0 a_t_imagesE_paces_1 a_t_imagesE_paces_2 a_t_imagesE_speeds_0 a_t_imagesE_speeds_1 a_t_imagesE_speeds_2 a_t_imagesE_steps_0 a_t_imagesE_steps_1 a_t_imagesE_steps_2 a_t_now a_t_now_actParts a_t_now_actSpeeds a_t_now_carried a_t_now_paces a_t_now_speeds a_t_now_steps g_t_0 g_t_1 g_t_2 g_t_6 g_t_7 g_t_8 g_t_9 g_t_10 g_t_11 g_t_12 g_t_13 c_imaged (up c_imagesE_lines (0) o5) (up c_imagesE_odds (0) o6) (up c_imagesE_parts (0) o7) (up c_imagesE_walkers (0) o8) (up c_imagesE_bands (0) o9) (up c_imagesE_sided (0) o10) (up c_imagesE_sideStand (0) o11) (up c_imagesE_sideWalk (0) o12) (up c_imagesE_sidePace (0) o13) (up c_imagesE_sideWould (0) o14) (up c_imagesE_acts (0) o15) (up c_imagesE_actParts (0) o16) (up c_imagesE_actSpeeds (0) o17) (up c_imagesE_carried (0) o18) (up c_imagesE_paces (0) o19) (up c_imagesE_speeds (0) o20) (up c_imagesE_steps (0) o21) c_now_lines c_now_odds c_now_parts c_now_walkers c_now_bands c_now_sided c_now_sideStand c_now_sideWalk c_now_sidePace c_now_sideWould c_now_acts c_now_actParts c_now_actSpeeds c_now_carried c_now_paces c_now_speeds c_now_steps)) rfl rfl rfl (rest := []) rfl rfl rfl dX8_image_25 ?_
      refine g_aload_n 0 C dX8_image_28 rfl rfl ?_
      refine g_get C fg_X8_30 0 rfl rfl dX8_image_29 ?_
      refine g_iload_n 1 C dX8_image_32 rfl rfl ?_
      refine g_iconst C dX8_image_33 ?_
      obtain ⟨hc23, h⟩ := chk_some h
      refine g_zast C 1 rfl hc23 rfl (by decide) (ws' := (W_X8_image (eCy E) a_t a_t_imaged a_t_images a_t_imagesE_0 a_t_imagesE_1 a_t_imagesE_2 a_t_imagesE_actParts_0 a_t_imagesE_actParts_1 a_t_imagesE_actParts_2 a_t_imagesE_actSpeeds_0 a_t_imagesE_actSpeeds_1 a_t_imagesE_actSpeeds_2 a_t_imagesE_carried_0 a_t_imagesE_carried_1 a_t_imagesE_carried_2 a_t_imagesE_paces_0 a_t_imagesE_paces_1 a_t_imagesE_paces_2 a_t_imagesE_speeds_0 a_t_imagesE_speeds_1 a_t_imagesE_speeds_2 a_t_imagesE_steps_0 a_t_imagesE_steps_1 a_t_imagesE_steps_2 a_t_now a_t_now_actParts a_t_now_actSpeeds a_t_now_carried a_t_now_paces a_t_now_speeds a_t_now_steps g_t_0 g_t_1 g_t_2 g_t_6 g_t_7 g_t_8 g_t_9 g_t_10 g_t_11 g_t_12 g_t_13 (up c_imaged (0) 1) (up c_imagesE_lines (0) o5) (up c_imagesE_odds (0) o6) (up c_imagesE_parts (0) o7) (up c_imagesE_walkers (0) o8) (up c_imagesE_bands (0) o9) (up c_imagesE_sided (0) o10) (up c_imagesE_sideStand (0) o11) (up c_imagesE_sideWalk (0) o12) (up c_imagesE_sidePace (0) o13) (up c_imagesE_sideWould (0) o14) (up c_imagesE_acts (0) o15) (up c_imagesE_actParts (0) o16) (up c_imagesE_actSpeeds (0) o17) (up c_imagesE_carried (0) o18) (up c_imagesE_paces (0) o19) (up c_imagesE_speeds (0) o20) (up c_imagesE_steps (0) o21) c_now_lines c_now_odds c_now_parts c_now_walkers c_now_bands c_now_sided c_now_sideStand c_now_sideWalk c_now_sidePace c_now_sideWould c_now_acts c_now_actParts c_now_actSpeeds c_now_carried c_now_paces c_now_speeds c_now_steps)) rfl dX8_image_34 ?_
      refine g_iconst C dX8_image_35 ?_
      cases h
      exact hret 36 _ dX8_image_36
    · refine g_aald C 2 (t0 := 4) rfl rfl (by decide) rfl dX8_image_20 ?_
      refine g_aload_n 0 C dX8_image_21 rfl rfl ?_
      refine g_get C fg_X8_22 0 rfl rfl dX8_image_22 ?_
      obtain ⟨o5, o6, o7, o8, o9, o10, o11, o12, o13, o14, o15, o16, o17, o18, o19, o20, o21, hr22, h⟩ := bnd17_some h
      refine g_callV [4, 24, 25, 26, 27, 28, 29, 30, 7, 10, 13, 16, 19, 22] [0, 1, 2, 3, 5, 6, 8, 9, 11, 12, 14, 15, 17, 18, 20, 21, 23] [0, 1, 2, 3, 17, 4, 5, 25, 6, 7, 26, 8, 9, 27, 10, 11, 28, 12, 13, 29, 14, 15, 30, 16, 18, 19, 20, 21, 22, 23, 24] C mt_X8_106 (c_X2_copyFrom _ _ _ _ a_t_imagesE_1 a_t_now a_t_now_actParts a_t_now_actSpeeds a_t_now_carried a_t_now_paces a_t_now_speeds a_t_now_steps a_t_imagesE_actParts_1 a_t_imagesE_actSpeeds_1 a_t_imagesE_carried_1 a_t_imagesE_paces_1 a_t_imagesE_speeds_1 a_t_imagesE_steps_1 (c_imagesE_lines (1)) (c_imagesE_odds (1)) (c_imagesE_parts (1)) (c_imagesE_walkers (1)) (c_imagesE_bands (1)) (c_imagesE_sided (1)) (c_imagesE_sideStand (1)) (c_imagesE_sideWalk (1)) (c_imagesE_sidePace (1)) (c_imagesE_sideWould (1)) (c_imagesE_acts (1)) c_now_lines c_now_odds c_now_parts c_now_walkers c_now_bands c_now_sided c_now_sideStand c_now_sideWalk c_now_sidePace c_now_sideWould c_now_acts c_now_actParts c_now_actSpeeds c_now_carried c_now_paces c_now_speeds c_now_steps (c_imagesE_actParts (1)) (c_imagesE_actSpeeds (1)) (c_imagesE_carried (1)) (c_imagesE_paces (1)) (c_imagesE_speeds (1)) (c_imagesE_steps (1)) F hr22) (q0 := 0) rfl (ci := 2) rfl rfl rfl (ws2 := (W_X8_image (eCy E) a_t a_t_imaged a_t_images a_t_imagesE_0 a_t_imagesE_1 a_t_imagesE_2 a_t_imagesE_actParts_0 a_t_imagesE_actParts_1 a_t_imagesE_actParts_2 a_t_imagesE_actSpeeds_0 a_t_imagesE_actSpeeds_1 a_t_imagesE_actSpeeds_2 a_t_imagesE_carried_0 a_t_imagesE_carried_1 a_t_imagesE_carried_2 a_t_imagesE_paces_0 a_t_imagesE_paces_1 a_t_imagesE_paces_2 a_t_imagesE_speeds_0 a_t_imagesE_speeds_1 a_t_imagesE_speeds_2 a_t_imagesE_steps_0 a_t_imagesE_steps_1 a_t_imagesE_steps_2 a_t_now a_t_now_actParts a_t_now_actSpeeds a_t_now_carried a_t_now_paces a_t_now_speeds a_t_now_steps g_t_0 g_t_1 g_t_2 g_t_6 g_t_7 g_t_8 g_t_9 g_t_10 g_t_11 g_t_12 g_t_13 c_imaged (up c_imagesE_lines (1) o5) (up c_imagesE_odds (1) o6) (up c_imagesE_parts (1) o7) (up c_imagesE_walkers (1) o8) (up c_imagesE_bands (1) o9) (up c_imagesE_sided (1) o10) (up c_imagesE_sideStand (1) o11) (up c_imagesE_sideWalk (1) o12) (up c_imagesE_sidePace (1) o13) (up c_imagesE_sideWould (1) o14) (up c_imagesE_acts (1) o15) (up c_imagesE_actParts (1) o16) (up c_imagesE_actSpeeds (1) o17) (up c_imagesE_carried (1) o18) (up c_imagesE_paces (1) o19) (up c_imagesE_speeds (1) o20) (up c_imagesE_steps (1) o21) c_now_lines c_now_odds c_now_parts c_now_walkers c_now_bands c_now_sided c_now_sideStand c_now_sideWalk c_now_sidePace c_now_sideWould c_now_acts c_now_actParts c_now_actSpeeds c_now_carried c_now_paces c_now_speeds c_now_steps)) rfl rfl rfl (rest := []) rfl rfl rfl dX8_image_25 ?_
      refine g_aload_n 0 C dX8_image_28 rfl rfl ?_
      refine g_get C fg_X8_30 0 rfl rfl dX8_image_29 ?_
      refine g_iload_n 1 C dX8_image_32 rfl rfl ?_
      refine g_iconst C dX8_image_33 ?_
      obtain ⟨hc23, h⟩ := chk_some h
      refine g_zast C 1 rfl hc23 rfl (by decide) (ws' := (W_X8_image (eCy E) a_t a_t_imaged a_t_images a_t_imagesE_0 a_t_imagesE_1 a_t_imagesE_2 a_t_imagesE_actParts_0 a_t_imagesE_actParts_1 a_t_imagesE_actParts_2 a_t_imagesE_actSpeeds_0 a_t_imagesE_actSpeeds_1 a_t_imagesE_actSpeeds_2 a_t_imagesE_carried_0 a_t_imagesE_carried_1 a_t_imagesE_carried_2 a_t_imagesE_paces_0 a_t_imagesE_paces_1 a_t_imagesE_paces_2 a_t_imagesE_speeds_0 a_t_imagesE_speeds_1 a_t_imagesE_speeds_2 a_t_imagesE_steps_0 a_t_imagesE_steps_1 a_t_imagesE_steps_2 a_t_now a_t_now_actParts a_t_now_actSpeeds a_t_now_carried a_t_now_paces a_t_now_speeds a_t_now_steps g_t_0 g_t_1 g_t_2 g_t_6 g_t_7 g_t_8 g_t_9 g_t_10 g_t_11 g_t_12 g_t_13 (up c_imaged (1) 1) (up c_imagesE_lines (1) o5) (up c_imagesE_odds (1) o6) (up c_imagesE_parts (1) o7) (up c_imagesE_walkers (1) o8) (up c_imagesE_bands (1) o9) (up c_imagesE_sided (1) o10) (up c_imagesE_sideStand (1) o11) (up c_imagesE_sideWalk (1) o12) (up c_imagesE_sidePace (1) o13) (up c_imagesE_sideWould (1) o14) (up c_imagesE_acts (1) o15) (up c_imagesE_actParts (1) o16) (up c_imagesE_actSpeeds (1) o17) (up c_imagesE_carried (1) o18) (up c_imagesE_paces (1) o19) (up c_imagesE_speeds (1) o20) (up c_imagesE_steps (1) o21) c_now_lines c_now_odds c_now_parts c_now_walkers c_now_bands c_now_sided c_now_sideStand c_now_sideWalk c_now_sidePace c_now_sideWould c_now_acts c_now_actParts c_now_actSpeeds c_now_carried c_now_paces c_now_speeds c_now_steps)) rfl dX8_image_34 ?_
      refine g_iconst C dX8_image_35 ?_
      cases h
      exact hret 36 _ dX8_image_36
    · refine g_aald C 2 (t0 := 4) rfl rfl (by decide) rfl dX8_image_20 ?_
      refine g_aload_n 0 C dX8_image_21 rfl rfl ?_
      refine g_get C fg_X8_22 0 rfl rfl dX8_image_22 ?_
      obtain ⟨o5, o6, o7, o8, o9, o10, o11, o12, o13, o14, o15, o16, o17, o18, o19, o20, o21, hr22, h⟩ := bnd17_some h
      refine g_callV [5, 24, 25, 26, 27, 28, 29, 30, 8, 11, 14, 17, 20, 23] [0, 1, 2, 3, 4, 6, 7, 9, 10, 12, 13, 15, 16, 18, 19, 21, 22] [0, 1, 2, 3, 4, 17, 5, 6, 25, 7, 8, 26, 9, 10, 27, 11, 12, 28, 13, 14, 29, 15, 16, 30, 18, 19, 20, 21, 22, 23, 24] C mt_X8_106 (c_X2_copyFrom _ _ _ _ a_t_imagesE_2 a_t_now a_t_now_actParts a_t_now_actSpeeds a_t_now_carried a_t_now_paces a_t_now_speeds a_t_now_steps a_t_imagesE_actParts_2 a_t_imagesE_actSpeeds_2 a_t_imagesE_carried_2 a_t_imagesE_paces_2 a_t_imagesE_speeds_2 a_t_imagesE_steps_2 (c_imagesE_lines (2)) (c_imagesE_odds (2)) (c_imagesE_parts (2)) (c_imagesE_walkers (2)) (c_imagesE_bands (2)) (c_imagesE_sided (2)) (c_imagesE_sideStand (2)) (c_imagesE_sideWalk (2)) (c_imagesE_sidePace (2)) (c_imagesE_sideWould (2)) (c_imagesE_acts (2)) c_now_lines c_now_odds c_now_parts c_now_walkers c_now_bands c_now_sided c_now_sideStand c_now_sideWalk c_now_sidePace c_now_sideWould c_now_acts c_now_actParts c_now_actSpeeds c_now_carried c_now_paces c_now_speeds c_now_steps (c_imagesE_actParts (2)) (c_imagesE_actSpeeds (2)) (c_imagesE_carried (2)) (c_imagesE_paces (2)) (c_imagesE_speeds (2)) (c_imagesE_steps (2)) F hr22) (q0 := 0) rfl (ci := 2) rfl rfl rfl (ws2 := (W_X8_image (eCy E) a_t a_t_imaged a_t_images a_t_imagesE_0 a_t_imagesE_1 a_t_imagesE_2 a_t_imagesE_actParts_0 a_t_imagesE_actParts_1 a_t_imagesE_actParts_2 a_t_imagesE_actSpeeds_0 a_t_imagesE_actSpeeds_1 a_t_imagesE_actSpeeds_2 a_t_imagesE_carried_0 a_t_imagesE_carried_1 a_t_imagesE_carried_2 a_t_imagesE_paces_0 a_t_imagesE_paces_1 a_t_imagesE_paces_2 a_t_imagesE_speeds_0 a_t_imagesE_speeds_1 a_t_imagesE_speeds_2 a_t_imagesE_steps_0 a_t_imagesE_steps_1 a_t_imagesE_steps_2 a_t_now a_t_now_actParts a_t_now_actSpeeds a_t_now_carried a_t_now_paces a_t_now_speeds a_t_now_steps g_t_0 g_t_1 g_t_2 g_t_6 g_t_7 g_t_8 g_t_9 g_t_10 g_t_11 g_t_12 g_t_13 c_imaged (up c_imagesE_lines (2) o5) (up c_imagesE_odds (2) o6) (up c_imagesE_parts (2) o7) (up c_imagesE_walkers (2) o8) (up c_imagesE_bands (2) o9) (up c_imagesE_sided (2) o10) (up c_imagesE_sideStand (2) o11) (up c_imagesE_sideWalk (2) o12) (up c_imagesE_sidePace (2) o13) (up c_imagesE_sideWould (2) o14) (up c_imagesE_acts (2) o15) (up c_imagesE_actParts (2) o16) (up c_imagesE_actSpeeds (2) o17) (up c_imagesE_carried (2) o18) (up c_imagesE_paces (2) o19) (up c_imagesE_speeds (2) o20) (up c_imagesE_steps (2) o21) c_now_lines c_now_odds c_now_parts c_now_walkers c_now_bands c_now_sided c_now_sideStand c_now_sideWalk c_now_sidePace c_now_sideWould c_now_acts c_now_actParts c_now_actSpeeds c_now_carried c_now_paces c_now_speeds c_now_steps)) rfl rfl rfl (rest := []) rfl rfl rfl dX8_image_25 ?_
      refine g_aload_n 0 C dX8_image_28 rfl rfl ?_
      refine g_get C fg_X8_30 0 rfl rfl dX8_image_29 ?_
      refine g_iload_n 1 C dX8_image_32 rfl rfl ?_
      refine g_iconst C dX8_image_33 ?_
      obtain ⟨hc23, h⟩ := chk_some h
      refine g_zast C 1 rfl hc23 rfl (by decide) (ws' := (W_X8_image (eCy E) a_t a_t_imaged a_t_images a_t_imagesE_0 a_t_imagesE_1 a_t_imagesE_2 a_t_imagesE_actParts_0 a_t_imagesE_actParts_1 a_t_imagesE_actParts_2 a_t_imagesE_actSpeeds_0 a_t_imagesE_actSpeeds_1 a_t_imagesE_actSpeeds_2 a_t_imagesE_carried_0 a_t_imagesE_carried_1 a_t_imagesE_carried_2 a_t_imagesE_paces_0 a_t_imagesE_paces_1 a_t_imagesE_paces_2 a_t_imagesE_speeds_0 a_t_imagesE_speeds_1 a_t_imagesE_speeds_2 a_t_imagesE_steps_0 a_t_imagesE_steps_1 a_t_imagesE_steps_2 a_t_now a_t_now_actParts a_t_now_actSpeeds a_t_now_carried a_t_now_paces a_t_now_speeds a_t_now_steps g_t_0 g_t_1 g_t_2 g_t_6 g_t_7 g_t_8 g_t_9 g_t_10 g_t_11 g_t_12 g_t_13 (up c_imaged (2) 1) (up c_imagesE_lines (2) o5) (up c_imagesE_odds (2) o6) (up c_imagesE_parts (2) o7) (up c_imagesE_walkers (2) o8) (up c_imagesE_bands (2) o9) (up c_imagesE_sided (2) o10) (up c_imagesE_sideStand (2) o11) (up c_imagesE_sideWalk (2) o12) (up c_imagesE_sidePace (2) o13) (up c_imagesE_sideWould (2) o14) (up c_imagesE_acts (2) o15) (up c_imagesE_actParts (2) o16) (up c_imagesE_actSpeeds (2) o17) (up c_imagesE_carried (2) o18) (up c_imagesE_paces (2) o19) (up c_imagesE_speeds (2) o20) (up c_imagesE_steps (2) o21) c_now_lines c_now_odds c_now_parts c_now_walkers c_now_bands c_now_sided c_now_sideStand c_now_sideWalk c_now_sidePace c_now_sideWould c_now_acts c_now_actParts c_now_actSpeeds c_now_carried c_now_paces c_now_speeds c_now_steps)) rfl dX8_image_34 ?_
      refine g_iconst C dX8_image_35 ?_
      cases h
      exact hret 36 _ dX8_image_36
  · refine g_bipush C dX8_image_12 (by decide) ?_
    cases h
    exact hret 14 _ dX8_image_14
end S_X8_image
set_option maxRecDepth 100000 in
set_option maxHeartbeats 4000000 in
theorem c_X8_image (l : Launch) (D : va_G) (cy : Nat → ClassId) (ad : AD) (a_t a_t_imaged a_t_images a_t_imagesE_0 a_t_imagesE_1 a_t_imagesE_2 a_t_imagesE_actParts_0 a_t_imagesE_actParts_1 a_t_imagesE_actParts_2 a_t_imagesE_actSpeeds_0 a_t_imagesE_actSpeeds_1 a_t_imagesE_actSpeeds_2 a_t_imagesE_carried_0 a_t_imagesE_carried_1 a_t_imagesE_carried_2 a_t_imagesE_paces_0 a_t_imagesE_paces_1 a_t_imagesE_paces_2 a_t_imagesE_speeds_0 a_t_imagesE_speeds_1 a_t_imagesE_speeds_2 a_t_imagesE_steps_0 a_t_imagesE_steps_1 a_t_imagesE_steps_2 a_t_now a_t_now_actParts a_t_now_actSpeeds a_t_now_carried a_t_now_paces a_t_now_speeds a_t_now_steps : Nat) (g_t_0 : Value) (g_t_1 : Value) (g_t_2 : Value) (g_t_6 : Value) (g_t_7 : Value) (g_t_8 : Value) (g_t_9 : Value) (g_t_10 : Value) (g_t_11 : Value) (g_t_12 : Value) (g_t_13 : Value) (x1 : Int) (c_imaged : Int → Int) (c_imagesE_lines : Int → Int) (c_imagesE_odds : Int → Int) (c_imagesE_parts : Int → Int) (c_imagesE_walkers : Int → Int) (c_imagesE_bands : Int → Int) (c_imagesE_sided : Int → Int) (c_imagesE_sideStand : Int → Int) (c_imagesE_sideWalk : Int → Int) (c_imagesE_sidePace : Int → Int) (c_imagesE_sideWould : Int → Int) (c_imagesE_acts : Int → Int) (c_imagesE_actParts : Int → Int → Int) (c_imagesE_actSpeeds : Int → Int → Int) (c_imagesE_carried : Int → Int → Int) (c_imagesE_paces : Int → Int → Int) (c_imagesE_speeds : Int → Int → Int) (c_imagesE_steps : Int → Int → Int) (c_now_lines : Int) (c_now_odds : Int) (c_now_parts : Int) (c_now_walkers : Int) (c_now_bands : Int) (c_now_sided : Int) (c_now_sideStand : Int) (c_now_sideWalk : Int) (c_now_sidePace : Int) (c_now_sideWould : Int) (c_now_acts : Int) (c_now_actParts : Int → Int) (c_now_actSpeeds : Int → Int) (c_now_carried : Int → Int) (c_now_paces : Int → Int) (c_now_speeds : Int → Int) (c_now_steps : Int → Int) (F : Nat) {v : Int × (Int → Int) × (Int → Int) × (Int → Int) × (Int → Int) × (Int → Int) × (Int → Int) × (Int → Int) × (Int → Int) × (Int → Int) × (Int → Int) × (Int → Int) × (Int → Int) × (Int → Int → Int) × (Int → Int → Int) × (Int → Int → Int) × (Int → Int → Int) × (Int → Int → Int) × (Int → Int → Int)} (h : m_X8_image F x1 c_imaged c_imagesE_lines c_imagesE_odds c_imagesE_parts c_imagesE_walkers c_imagesE_bands c_imagesE_sided c_imagesE_sideStand c_imagesE_sideWalk c_imagesE_sidePace c_imagesE_sideWould c_imagesE_acts c_imagesE_actParts c_imagesE_actSpeeds c_imagesE_carried c_imagesE_paces c_imagesE_speeds c_imagesE_steps c_now_lines c_now_odds c_now_parts c_now_walkers c_now_bands c_now_sided c_now_sideStand c_now_sideWalk c_now_sidePace c_now_sideWould c_now_acts c_now_actParts c_now_actSpeeds c_now_carried c_now_paces c_now_speeds c_now_steps = some v) : Ct l yX8_image cX8_image 2 (some .int) { frames := 2, cells := 0, slots := 0, locals := 47 } D cy ad [.ref a_t, .int (wI x1)] (W_X8_image cy a_t a_t_imaged a_t_images a_t_imagesE_0 a_t_imagesE_1 a_t_imagesE_2 a_t_imagesE_actParts_0 a_t_imagesE_actParts_1 a_t_imagesE_actParts_2 a_t_imagesE_actSpeeds_0 a_t_imagesE_actSpeeds_1 a_t_imagesE_actSpeeds_2 a_t_imagesE_carried_0 a_t_imagesE_carried_1 a_t_imagesE_carried_2 a_t_imagesE_paces_0 a_t_imagesE_paces_1 a_t_imagesE_paces_2 a_t_imagesE_speeds_0 a_t_imagesE_speeds_1 a_t_imagesE_speeds_2 a_t_imagesE_steps_0 a_t_imagesE_steps_1 a_t_imagesE_steps_2 a_t_now a_t_now_actParts a_t_now_actSpeeds a_t_now_carried a_t_now_paces a_t_now_speeds a_t_now_steps g_t_0 g_t_1 g_t_2 g_t_6 g_t_7 g_t_8 g_t_9 g_t_10 g_t_11 g_t_12 g_t_13 c_imaged c_imagesE_lines c_imagesE_odds c_imagesE_parts c_imagesE_walkers c_imagesE_bands c_imagesE_sided c_imagesE_sideStand c_imagesE_sideWalk c_imagesE_sidePace c_imagesE_sideWould c_imagesE_acts c_imagesE_actParts c_imagesE_actSpeeds c_imagesE_carried c_imagesE_paces c_imagesE_speeds c_imagesE_steps c_now_lines c_now_odds c_now_parts c_now_walkers c_now_bands c_now_sided c_now_sideStand c_now_sideWalk c_now_sidePace c_now_sideWould c_now_acts c_now_actParts c_now_actSpeeds c_now_carried c_now_paces c_now_speeds c_now_steps) (W_X8_image cy a_t a_t_imaged a_t_images a_t_imagesE_0 a_t_imagesE_1 a_t_imagesE_2 a_t_imagesE_actParts_0 a_t_imagesE_actParts_1 a_t_imagesE_actParts_2 a_t_imagesE_actSpeeds_0 a_t_imagesE_actSpeeds_1 a_t_imagesE_actSpeeds_2 a_t_imagesE_carried_0 a_t_imagesE_carried_1 a_t_imagesE_carried_2 a_t_imagesE_paces_0 a_t_imagesE_paces_1 a_t_imagesE_paces_2 a_t_imagesE_speeds_0 a_t_imagesE_speeds_1 a_t_imagesE_speeds_2 a_t_imagesE_steps_0 a_t_imagesE_steps_1 a_t_imagesE_steps_2 a_t_now a_t_now_actParts a_t_now_actSpeeds a_t_now_carried a_t_now_paces a_t_now_speeds a_t_now_steps g_t_0 g_t_1 g_t_2 g_t_6 g_t_7 g_t_8 g_t_9 g_t_10 g_t_11 g_t_12 g_t_13 (v.2.1) (v.2.2.1) (v.2.2.2.1) (v.2.2.2.2.1) (v.2.2.2.2.2.1) (v.2.2.2.2.2.2.1) (v.2.2.2.2.2.2.2.1) (v.2.2.2.2.2.2.2.2.1) (v.2.2.2.2.2.2.2.2.2.1) (v.2.2.2.2.2.2.2.2.2.2.1) (v.2.2.2.2.2.2.2.2.2.2.2.1) (v.2.2.2.2.2.2.2.2.2.2.2.2.1) (v.2.2.2.2.2.2.2.2.2.2.2.2.2.1) (v.2.2.2.2.2.2.2.2.2.2.2.2.2.2.1) (v.2.2.2.2.2.2.2.2.2.2.2.2.2.2.2.1) (v.2.2.2.2.2.2.2.2.2.2.2.2.2.2.2.2.1) (v.2.2.2.2.2.2.2.2.2.2.2.2.2.2.2.2.2.1) (v.2.2.2.2.2.2.2.2.2.2.2.2.2.2.2.2.2.2) c_now_lines c_now_odds c_now_parts c_now_walkers c_now_bands c_now_sided c_now_sideStand c_now_sideWalk c_now_sidePace c_now_sideWould c_now_acts c_now_actParts c_now_actSpeeds c_now_carried c_now_paces c_now_speeds c_now_steps) (some (.int (wI (v.1)))) := by
  refine Ct.introI (j := 0) (plainFor_of_name (by decide)) rfl rfl (fun E C e1 e2 e3 e4 e5 hret => ?_)
  subst e1; subst e2; subst e3; subst e4
  exact wm_X8_image C e5 h hret
-- MovingStair.back(I)I
def W_X8_back_ (cy : Nat → ClassId) (a_t a_t_imaged a_t_images a_t_imagesE_0 a_t_imagesE_1 a_t_imagesE_2 a_t_imagesE_actParts_0 a_t_imagesE_actParts_1 a_t_imagesE_actParts_2 a_t_imagesE_actSpeeds_0 a_t_imagesE_actSpeeds_1 a_t_imagesE_actSpeeds_2 a_t_imagesE_carried_0 a_t_imagesE_carried_1 a_t_imagesE_carried_2 a_t_imagesE_paces_0 a_t_imagesE_paces_1 a_t_imagesE_paces_2 a_t_imagesE_speeds_0 a_t_imagesE_speeds_1 a_t_imagesE_speeds_2 a_t_imagesE_steps_0 a_t_imagesE_steps_1 a_t_imagesE_steps_2 a_t_now a_t_now_actParts a_t_now_actSpeeds a_t_now_carried a_t_now_paces a_t_now_speeds a_t_now_steps : Nat) (g_t_0 : Value) (g_t_1 : Value) (g_t_2 : Value) (g_t_6 : Value) (g_t_7 : Value) (g_t_8 : Value) (g_t_9 : Value) (g_t_10 : Value) (g_t_11 : Value) (g_t_12 : Value) (g_t_13 : Value) (c_imaged : Int → Int) (c_imagesE_lines : Int → Int) (c_imagesE_odds : Int → Int) (c_imagesE_parts : Int → Int) (c_imagesE_walkers : Int → Int) (c_imagesE_bands : Int → Int) (c_imagesE_sided : Int → Int) (c_imagesE_sideStand : Int → Int) (c_imagesE_sideWalk : Int → Int) (c_imagesE_sidePace : Int → Int) (c_imagesE_sideWould : Int → Int) (c_imagesE_acts : Int → Int) (c_imagesE_actParts : Int → Int → Int) (c_imagesE_actSpeeds : Int → Int → Int) (c_imagesE_carried : Int → Int → Int) (c_imagesE_paces : Int → Int → Int) (c_imagesE_speeds : Int → Int → Int) (c_imagesE_steps : Int → Int → Int) (c_now_lines : Int) (c_now_odds : Int) (c_now_parts : Int) (c_now_walkers : Int) (c_now_bands : Int) (c_now_sided : Int) (c_now_sideStand : Int) (c_now_sideWalk : Int) (c_now_sidePace : Int) (c_now_sideWould : Int) (c_now_acts : Int) (c_now_actParts : Int → Int) (c_now_actSpeeds : Int → Int) (c_now_carried : Int → Int) (c_now_paces : Int → Int) (c_now_speeds : Int → Int) (c_now_steps : Int → Int) : va_W := [(a_t, .inr (8, [g_t_0, g_t_1, g_t_2, .ref a_t_now, .ref a_t_images, .ref a_t_imaged, g_t_6, g_t_7, g_t_8, g_t_9, g_t_10, g_t_11, g_t_12, g_t_13])), (a_t_imaged, .inl (cy 3, 3, .inl (aI c_imaged))), (a_t_images, .inl (cy 4, 3, .inr (.inr (.inr (.inr (selO [a_t_imagesE_0, a_t_imagesE_1, a_t_imagesE_2])))))), (a_t_imagesE_0, .inr (2, [.int (wI (c_imagesE_lines 0)), .int (wI (c_imagesE_odds 0)), .int (wI (c_imagesE_parts 0)), .ref a_t_imagesE_steps_0, .ref a_t_imagesE_speeds_0, .int (wI (c_imagesE_walkers 0)), .ref a_t_imagesE_paces_0, .int (wI (c_imagesE_bands 0)), .ref a_t_imagesE_carried_0, .int (wI (c_imagesE_sided 0)), .int (wI (c_imagesE_sideStand 0)), .int (wI (c_imagesE_sideWalk 0)), .int (wI (c_imagesE_sidePace 0)), .int (wI (c_imagesE_sideWould 0)), .int (wI (c_imagesE_acts 0)), .ref a_t_imagesE_actParts_0, .ref a_t_imagesE_actSpeeds_0])), (a_t_imagesE_1, .inr (2, [.int (wI (c_imagesE_lines 1)), .int (wI (c_imagesE_odds 1)), .int (wI (c_imagesE_parts 1)), .ref a_t_imagesE_steps_1, .ref a_t_imagesE_speeds_1, .int (wI (c_imagesE_walkers 1)), .ref a_t_imagesE_paces_1, .int (wI (c_imagesE_bands 1)), .ref a_t_imagesE_carried_1, .int (wI (c_imagesE_sided 1)), .int (wI (c_imagesE_sideStand 1)), .int (wI (c_imagesE_sideWalk 1)), .int (wI (c_imagesE_sidePace 1)), .int (wI (c_imagesE_sideWould 1)), .int (wI (c_imagesE_acts 1)), .ref a_t_imagesE_actParts_1, .ref a_t_imagesE_actSpeeds_1])), (a_t_imagesE_2, .inr (2, [.int (wI (c_imagesE_lines 2)), .int (wI (c_imagesE_odds 2)), .int (wI (c_imagesE_parts 2)), .ref a_t_imagesE_steps_2, .ref a_t_imagesE_speeds_2, .int (wI (c_imagesE_walkers 2)), .ref a_t_imagesE_paces_2, .int (wI (c_imagesE_bands 2)), .ref a_t_imagesE_carried_2, .int (wI (c_imagesE_sided 2)), .int (wI (c_imagesE_sideStand 2)), .int (wI (c_imagesE_sideWalk 2)), .int (wI (c_imagesE_sidePace 2)), .int (wI (c_imagesE_sideWould 2)), .int (wI (c_imagesE_acts 2)), .ref a_t_imagesE_actParts_2, .ref a_t_imagesE_actSpeeds_2])), (a_t_imagesE_actParts_0, .inl (cy 1, 60, .inl (aI (c_imagesE_actParts 0)))), (a_t_imagesE_actParts_1, .inl (cy 1, 60, .inl (aI (c_imagesE_actParts 1)))), (a_t_imagesE_actParts_2, .inl (cy 1, 60, .inl (aI (c_imagesE_actParts 2)))), (a_t_imagesE_actSpeeds_0, .inl (cy 1, 60, .inl (aI (c_imagesE_actSpeeds 0)))), (a_t_imagesE_actSpeeds_1, .inl (cy 1, 60, .inl (aI (c_imagesE_actSpeeds 1)))), (a_t_imagesE_actSpeeds_2, .inl (cy 1, 60, .inl (aI (c_imagesE_actSpeeds 2)))), (a_t_imagesE_carried_0, .inl (cy 1, 4, .inl (aI (c_imagesE_carried 0)))), (a_t_imagesE_carried_1, .inl (cy 1, 4, .inl (aI (c_imagesE_carried 1)))), (a_t_imagesE_carried_2, .inl (cy 1, 4, .inl (aI (c_imagesE_carried 2)))), (a_t_imagesE_paces_0, .inl (cy 1, 8, .inl (aI (c_imagesE_paces 0)))), (a_t_imagesE_paces_1, .inl (cy 1, 8, .inl (aI (c_imagesE_paces 1)))), (a_t_imagesE_paces_2, .inl (cy 1, 8, .inl (aI (c_imagesE_paces 2)))), (a_t_imagesE_speeds_0, .inl (cy 1, 4, .inl (aI (c_imagesE_speeds 0)))), (a_t_imagesE_speeds_1, .inl (cy 1, 4, .inl (aI (c_imagesE_speeds 1)))), (a_t_imagesE_speeds_2, .inl (cy 1, 4, .inl (aI (c_imagesE_speeds 2)))), (a_t_imagesE_steps_0, .inl (cy 1, 4, .inl (aI (c_imagesE_steps 0)))), (a_t_imagesE_steps_1, .inl (cy 1, 4, .inl (aI (c_imagesE_steps 1)))), (a_t_imagesE_steps_2, .inl (cy 1, 4, .inl (aI (c_imagesE_steps 2)))), (a_t_now, .inr (2, [.int (wI c_now_lines), .int (wI c_now_odds), .int (wI c_now_parts), .ref a_t_now_steps, .ref a_t_now_speeds, .int (wI c_now_walkers), .ref a_t_now_paces, .int (wI c_now_bands), .ref a_t_now_carried, .int (wI c_now_sided), .int (wI c_now_sideStand), .int (wI c_now_sideWalk), .int (wI c_now_sidePace), .int (wI c_now_sideWould), .int (wI c_now_acts), .ref a_t_now_actParts, .ref a_t_now_actSpeeds])), (a_t_now_actParts, .inl (cy 1, 60, .inl (aI c_now_actParts))), (a_t_now_actSpeeds, .inl (cy 1, 60, .inl (aI c_now_actSpeeds))), (a_t_now_carried, .inl (cy 1, 4, .inl (aI c_now_carried))), (a_t_now_paces, .inl (cy 1, 8, .inl (aI c_now_paces))), (a_t_now_speeds, .inl (cy 1, 4, .inl (aI c_now_speeds))), (a_t_now_steps, .inl (cy 1, 4, .inl (aI c_now_steps)))]
def m_X8_back_ (F : Nat) (x1 : Int) (c_imaged : Int → Int) (c_imagesE_lines : Int → Int) (c_imagesE_odds : Int → Int) (c_imagesE_parts : Int → Int) (c_imagesE_walkers : Int → Int) (c_imagesE_bands : Int → Int) (c_imagesE_sided : Int → Int) (c_imagesE_sideStand : Int → Int) (c_imagesE_sideWalk : Int → Int) (c_imagesE_sidePace : Int → Int) (c_imagesE_sideWould : Int → Int) (c_imagesE_acts : Int → Int) (c_imagesE_actParts : Int → Int → Int) (c_imagesE_actSpeeds : Int → Int → Int) (c_imagesE_carried : Int → Int → Int) (c_imagesE_paces : Int → Int → Int) (c_imagesE_speeds : Int → Int → Int) (c_imagesE_steps : Int → Int → Int) (c_now_lines : Int) (c_now_odds : Int) (c_now_parts : Int) (c_now_walkers : Int) (c_now_bands : Int) (c_now_sided : Int) (c_now_sideStand : Int) (c_now_sideWalk : Int) (c_now_sidePace : Int) (c_now_sideWould : Int) (c_now_acts : Int) (c_now_actParts : Int → Int) (c_now_actSpeeds : Int → Int) (c_now_carried : Int → Int) (c_now_paces : Int → Int) (c_now_speeds : Int → Int) (c_now_steps : Int → Int) : Option (Int × Int × Int × Int × Int × Int × Int × Int × Int × Int × Int × Int × (Int → Int) × (Int → Int) × (Int → Int) × (Int → Int) × (Int → Int) × (Int → Int)) :=
  chk (r32 x1) <| bnd1 (m_X8_isOut F x1 0 2) fun r2 => if wI r2 = wI 0 then
    (chk (0 ≤ x1 ∧ x1 < 3) <| if wI (c_imaged x1) = wI 0 then
    (some ((-6), c_now_lines, c_now_odds, c_now_parts, c_now_walkers, c_now_bands, c_now_sided, c_now_sideStand, c_now_sideWalk, c_now_sidePace, c_now_sideWould, c_now_acts, c_now_actParts, c_now_actSpeeds, c_now_carried, c_now_paces, c_now_speeds, c_now_steps))
  else
    (chk (0 ≤ x1 ∧ x1 < 3) <| bnd17 (m_X2_copyFrom F (c_imagesE_lines x1) (c_imagesE_odds x1) (c_imagesE_parts x1) (c_imagesE_walkers x1) (c_imagesE_bands x1) (c_imagesE_sided x1) (c_imagesE_sideStand x1) (c_imagesE_sideWalk x1) (c_imagesE_sidePace x1) (c_imagesE_sideWould x1) (c_imagesE_acts x1) (c_imagesE_actParts x1) (c_imagesE_actSpeeds x1) (c_imagesE_carried x1) (c_imagesE_paces x1) (c_imagesE_speeds x1) (c_imagesE_steps x1) c_now_actParts c_now_actSpeeds c_now_carried c_now_paces c_now_speeds c_now_steps) fun o5 o6 o7 o8 o9 o10 o11 o12 o13 o14 o15 o16 o17 o18 o19 o20 o21 => some (0, o5, o6, o7, o8, o9, o10, o11, o12, o13, o14, o15, o16, o17, o18, o19, o20, o21)))
  else
    (some ((-2), c_now_lines, c_now_odds, c_now_parts, c_now_walkers, c_now_bands, c_now_sided, c_now_sideStand, c_now_sideWalk, c_now_sidePace, c_now_sideWould, c_now_acts, c_now_actParts, c_now_actSpeeds, c_now_carried, c_now_paces, c_now_speeds, c_now_steps))
section S_X8_back_
variable {E : EE} {a_t a_t_imaged a_t_images a_t_imagesE_0 a_t_imagesE_1 a_t_imagesE_2 a_t_imagesE_actParts_0 a_t_imagesE_actParts_1 a_t_imagesE_actParts_2 a_t_imagesE_actSpeeds_0 a_t_imagesE_actSpeeds_1 a_t_imagesE_actSpeeds_2 a_t_imagesE_carried_0 a_t_imagesE_carried_1 a_t_imagesE_carried_2 a_t_imagesE_paces_0 a_t_imagesE_paces_1 a_t_imagesE_paces_2 a_t_imagesE_speeds_0 a_t_imagesE_speeds_1 a_t_imagesE_speeds_2 a_t_imagesE_steps_0 a_t_imagesE_steps_1 a_t_imagesE_steps_2 a_t_now a_t_now_actParts a_t_now_actSpeeds a_t_now_carried a_t_now_paces a_t_now_speeds a_t_now_steps : Nat} {g_t_0 : Value} {g_t_1 : Value} {g_t_2 : Value} {g_t_6 : Value} {g_t_7 : Value} {g_t_8 : Value} {g_t_9 : Value} {g_t_10 : Value} {g_t_11 : Value} {g_t_12 : Value} {g_t_13 : Value}
set_option maxRecDepth 100000 in
set_option maxHeartbeats 4000000 in
theorem wm_X8_back_ {F : Nat} {v : Int × Int × Int × Int × Int × Int × Int × Int × Int × Int × Int × Int × (Int → Int) × (Int → Int) × (Int → Int) × (Int → Int) × (Int → Int) × (Int → Int)} {x1 : Int} {c_imaged : Int → Int} {c_imagesE_lines : Int → Int} {c_imagesE_odds : Int → Int} {c_imagesE_parts : Int → Int} {c_imagesE_walkers : Int → Int} {c_imagesE_bands : Int → Int} {c_imagesE_sided : Int → Int} {c_imagesE_sideStand : Int → Int} {c_imagesE_sideWalk : Int → Int} {c_imagesE_sidePace : Int → Int} {c_imagesE_sideWould : Int → Int} {c_imagesE_acts : Int → Int} {c_imagesE_actParts : Int → Int → Int} {c_imagesE_actSpeeds : Int → Int → Int} {c_imagesE_carried : Int → Int → Int} {c_imagesE_paces : Int → Int → Int} {c_imagesE_speeds : Int → Int → Int} {c_imagesE_steps : Int → Int → Int} {c_now_lines : Int} {c_now_odds : Int} {c_now_parts : Int} {c_now_walkers : Int} {c_now_bands : Int} {c_now_sided : Int} {c_now_sideStand : Int} {c_now_sideWalk : Int} {c_now_sidePace : Int} {c_now_sideWould : Int} {c_now_acts : Int} {c_now_actParts : Int → Int} {c_now_actSpeeds : Int → Int} {c_now_carried : Int → Int} {c_now_paces : Int → Int} {c_now_speeds : Int → Int} {c_now_steps : Int → Int} (C : Cx E cX8_back_ RX8 { frames := 2, cells := 0, slots := 0, locals := 47 }) (hN : eN E = 2) (h : m_X8_back_ F x1 c_imaged c_imagesE_lines c_imagesE_odds c_imagesE_parts c_imagesE_walkers c_imagesE_bands c_imagesE_sided c_imagesE_sideStand c_imagesE_sideWalk c_imagesE_sidePace c_imagesE_sideWould c_imagesE_acts c_imagesE_actParts c_imagesE_actSpeeds c_imagesE_carried c_imagesE_paces c_imagesE_speeds c_imagesE_steps c_now_lines c_now_odds c_now_parts c_now_walkers c_now_bands c_now_sided c_now_sideStand c_now_sideWalk c_now_sidePace c_now_sideWould c_now_acts c_now_actParts c_now_actSpeeds c_now_carried c_now_paces c_now_speeds c_now_steps = some v) (hret : ∀ (pc : Nat) (L : List (Option Value)), decode cX8_back_ pc = .ok (.ireturn, 1) → GG E 0 0 (W_X8_back_ (eCy E) a_t a_t_imaged a_t_images a_t_imagesE_0 a_t_imagesE_1 a_t_imagesE_2 a_t_imagesE_actParts_0 a_t_imagesE_actParts_1 a_t_imagesE_actParts_2 a_t_imagesE_actSpeeds_0 a_t_imagesE_actSpeeds_1 a_t_imagesE_actSpeeds_2 a_t_imagesE_carried_0 a_t_imagesE_carried_1 a_t_imagesE_carried_2 a_t_imagesE_paces_0 a_t_imagesE_paces_1 a_t_imagesE_paces_2 a_t_imagesE_speeds_0 a_t_imagesE_speeds_1 a_t_imagesE_speeds_2 a_t_imagesE_steps_0 a_t_imagesE_steps_1 a_t_imagesE_steps_2 a_t_now a_t_now_actParts a_t_now_actSpeeds a_t_now_carried a_t_now_paces a_t_now_speeds a_t_now_steps g_t_0 g_t_1 g_t_2 g_t_6 g_t_7 g_t_8 g_t_9 g_t_10 g_t_11 g_t_12 g_t_13 c_imaged c_imagesE_lines c_imagesE_odds c_imagesE_parts c_imagesE_walkers c_imagesE_bands c_imagesE_sided c_imagesE_sideStand c_imagesE_sideWalk c_imagesE_sidePace c_imagesE_sideWould c_imagesE_acts c_imagesE_actParts c_imagesE_actSpeeds c_imagesE_carried c_imagesE_paces c_imagesE_speeds c_imagesE_steps (v.2.1) (v.2.2.1) (v.2.2.2.1) (v.2.2.2.2.1) (v.2.2.2.2.2.1) (v.2.2.2.2.2.2.1) (v.2.2.2.2.2.2.2.1) (v.2.2.2.2.2.2.2.2.1) (v.2.2.2.2.2.2.2.2.2.1) (v.2.2.2.2.2.2.2.2.2.2.1) (v.2.2.2.2.2.2.2.2.2.2.2.1) (v.2.2.2.2.2.2.2.2.2.2.2.2.1) (v.2.2.2.2.2.2.2.2.2.2.2.2.2.1) (v.2.2.2.2.2.2.2.2.2.2.2.2.2.2.1) (v.2.2.2.2.2.2.2.2.2.2.2.2.2.2.2.1) (v.2.2.2.2.2.2.2.2.2.2.2.2.2.2.2.2.1) (v.2.2.2.2.2.2.2.2.2.2.2.2.2.2.2.2.2)) L pc [.int (wI (v.1))]) : GG E 0 0 (W_X8_back_ (eCy E) a_t a_t_imaged a_t_images a_t_imagesE_0 a_t_imagesE_1 a_t_imagesE_2 a_t_imagesE_actParts_0 a_t_imagesE_actParts_1 a_t_imagesE_actParts_2 a_t_imagesE_actSpeeds_0 a_t_imagesE_actSpeeds_1 a_t_imagesE_actSpeeds_2 a_t_imagesE_carried_0 a_t_imagesE_carried_1 a_t_imagesE_carried_2 a_t_imagesE_paces_0 a_t_imagesE_paces_1 a_t_imagesE_paces_2 a_t_imagesE_speeds_0 a_t_imagesE_speeds_1 a_t_imagesE_speeds_2 a_t_imagesE_steps_0 a_t_imagesE_steps_1 a_t_imagesE_steps_2 a_t_now a_t_now_actParts a_t_now_actSpeeds a_t_now_carried a_t_now_paces a_t_now_speeds a_t_now_steps g_t_0 g_t_1 g_t_2 g_t_6 g_t_7 g_t_8 g_t_9 g_t_10 g_t_11 g_t_12 g_t_13 c_imaged c_imagesE_lines c_imagesE_odds c_imagesE_parts c_imagesE_walkers c_imagesE_bands c_imagesE_sided c_imagesE_sideStand c_imagesE_sideWalk c_imagesE_sidePace c_imagesE_sideWould c_imagesE_acts c_imagesE_actParts c_imagesE_actSpeeds c_imagesE_carried c_imagesE_paces c_imagesE_speeds c_imagesE_steps c_now_lines c_now_odds c_now_parts c_now_walkers c_now_bands c_now_sided c_now_sideStand c_now_sideWalk c_now_sidePace c_now_sideWould c_now_acts c_now_actParts c_now_actSpeeds c_now_carried c_now_paces c_now_speeds c_now_steps) [some (.ref a_t), some (.int (wI x1))] 0 [] := by
  unfold m_X8_back_ at h
  refine g_iload_n 1 C dX8_back__0 rfl rfl ?_
  obtain ⟨hc1, h⟩ := chk_some h
  refine g_i2l C dX8_back__1 hc1 ?_
  refine g_lconst (x := 0) C dX8_back__2 (by decide) ?_
  refine g_ldc2 (v := 2) C mc_X8_405 dX8_back__3 ?_
  obtain ⟨r2, hr3, h⟩ := bnd1_some h
  refine g_callSI [] [0, 1, 2, 3, 4, 5, 6, 7, 8, 9, 10, 11, 12, 13, 14, 15, 16, 17, 18, 19, 20, 21, 22, 23, 24, 25, 26, 27, 28, 29, 30] [0, 1, 2, 3, 4, 5, 6, 7, 8, 9, 10, 11, 12, 13, 14, 15, 16, 17, 18, 19, 20, 21, 22, 23, 24, 25, 26, 27, 28, 29, 30] C mt_X8_161 (c_X8_isOut _ _ _ _ x1 0 2 F hr3) rfl rfl (ws2 := (W_X8_back_ (eCy E) a_t a_t_imaged a_t_images a_t_imagesE_0 a_t_imagesE_1 a_t_imagesE_2 a_t_imagesE_actParts_0 a_t_imagesE_actParts_1 a_t_imagesE_actParts_2 a_t_imagesE_actSpeeds_0 a_t_imagesE_actSpeeds_1 a_t_imagesE_actSpeeds_2 a_t_imagesE_carried_0 a_t_imagesE_carried_1 a_t_imagesE_carried_2 a_t_imagesE_paces_0 a_t_imagesE_paces_1 a_t_imagesE_paces_2 a_t_imagesE_speeds_0 a_t_imagesE_speeds_1 a_t_imagesE_speeds_2 a_t_imagesE_steps_0 a_t_imagesE_steps_1 a_t_imagesE_steps_2 a_t_now a_t_now_actParts a_t_now_actSpeeds a_t_now_carried a_t_now_paces a_t_now_speeds a_t_now_steps g_t_0 g_t_1 g_t_2 g_t_6 g_t_7 g_t_8 g_t_9 g_t_10 g_t_11 g_t_12 g_t_13 c_imaged c_imagesE_lines c_imagesE_odds c_imagesE_parts c_imagesE_walkers c_imagesE_bands c_imagesE_sided c_imagesE_sideStand c_imagesE_sideWalk c_imagesE_sidePace c_imagesE_sideWould c_imagesE_acts c_imagesE_actParts c_imagesE_actSpeeds c_imagesE_carried c_imagesE_paces c_imagesE_speeds c_imagesE_steps c_now_lines c_now_odds c_now_parts c_now_walkers c_now_bands c_now_sided c_now_sideStand c_now_sideWalk c_now_sidePace c_now_sideWould c_now_acts c_now_actParts c_now_actSpeeds c_now_carried c_now_paces c_now_speeds c_now_steps)) rfl rfl rfl (rest := []) rfl rfl rfl dX8_back__6 ?_
  refine g_if_eq 15 C dX8_back__9 (by decide) h (fun h => ?_) (fun h => ?_)
  · refine g_aload_n 0 C dX8_back__15 rfl rfl ?_
    refine g_get C fg_X8_30 0 rfl rfl dX8_back__16 ?_
    refine g_iload_n 1 C dX8_back__19 rfl rfl ?_
    obtain ⟨hc4, h⟩ := chk_some h
    refine g_zald C 1 rfl hc4 rfl dX8_back__20 ?_
    refine g_if_ne 27 C dX8_back__21 (by decide) h (fun h => ?_) (fun h => ?_)
    · refine g_aload_n 0 C dX8_back__27 rfl rfl ?_
      refine g_get C fg_X8_22 0 rfl rfl dX8_back__28 ?_
      refine g_aload_n 0 C dX8_back__31 rfl rfl ?_
      refine g_get C fg_X8_26 0 rfl rfl dX8_back__32 ?_
      refine g_iload_n 1 C dX8_back__35 rfl rfl ?_
      obtain ⟨hc5, h⟩ := chk_some h
      obtain rfl | rfl | rfl : x1 = 0 ∨ x1 = 1 ∨ x1 = 2 := by omega
      · refine g_aald C 2 (t0 := 4) rfl rfl (by decide) rfl dX8_back__36 ?_
        obtain ⟨o6, o7, o8, o9, o10, o11, o12, o13, o14, o15, o16, o17, o18, o19, o20, o21, o22, hr23, h⟩ := bnd17_some h
        refine g_callV [24, 3, 6, 9, 12, 15, 18, 21, 25, 26, 27, 28, 29, 30] [0, 1, 2, 4, 5, 7, 8, 10, 11, 13, 14, 16, 17, 19, 20, 22, 23] [0, 1, 2, 18, 3, 4, 19, 5, 6, 20, 7, 8, 21, 9, 10, 22, 11, 12, 23, 13, 14, 24, 15, 16, 17, 25, 26, 27, 28, 29, 30] C mt_X8_106 (c_X2_copyFrom _ _ _ _ a_t_now a_t_imagesE_0 a_t_imagesE_actParts_0 a_t_imagesE_actSpeeds_0 a_t_imagesE_carried_0 a_t_imagesE_paces_0 a_t_imagesE_speeds_0 a_t_imagesE_steps_0 a_t_now_actParts a_t_now_actSpeeds a_t_now_carried a_t_now_paces a_t_now_speeds a_t_now_steps c_now_lines c_now_odds c_now_parts c_now_walkers c_now_bands c_now_sided c_now_sideStand c_now_sideWalk c_now_sidePace c_now_sideWould c_now_acts (c_imagesE_lines (0)) (c_imagesE_odds (0)) (c_imagesE_parts (0)) (c_imagesE_walkers (0)) (c_imagesE_bands (0)) (c_imagesE_sided (0)) (c_imagesE_sideStand (0)) (c_imagesE_sideWalk (0)) (c_imagesE_sidePace (0)) (c_imagesE_sideWould (0)) (c_imagesE_acts (0)) (c_imagesE_actParts (0)) (c_imagesE_actSpeeds (0)) (c_imagesE_carried (0)) (c_imagesE_paces (0)) (c_imagesE_speeds (0)) (c_imagesE_steps (0)) c_now_actParts c_now_actSpeeds c_now_carried c_now_paces c_now_speeds c_now_steps F hr23) (q0 := 0) rfl (ci := 2) rfl rfl rfl (ws2 := (W_X8_back_ (eCy E) a_t a_t_imaged a_t_images a_t_imagesE_0 a_t_imagesE_1 a_t_imagesE_2 a_t_imagesE_actParts_0 a_t_imagesE_actParts_1 a_t_imagesE_actParts_2 a_t_imagesE_actSpeeds_0 a_t_imagesE_actSpeeds_1 a_t_imagesE_actSpeeds_2 a_t_imagesE_carried_0 a_t_imagesE_carried_1 a_t_imagesE_carried_2 a_t_imagesE_paces_0 a_t_imagesE_paces_1 a_t_imagesE_paces_2 a_t_imagesE_speeds_0 a_t_imagesE_speeds_1 a_t_imagesE_speeds_2 a_t_imagesE_steps_0 a_t_imagesE_steps_1 a_t_imagesE_steps_2 a_t_now a_t_now_actParts a_t_now_actSpeeds a_t_now_carried a_t_now_paces a_t_now_speeds a_t_now_steps g_t_0 g_t_1 g_t_2 g_t_6 g_t_7 g_t_8 g_t_9 g_t_10 g_t_11 g_t_12 g_t_13 c_imaged c_imagesE_lines c_imagesE_odds c_imagesE_parts c_imagesE_walkers c_imagesE_bands c_imagesE_sided c_imagesE_sideStand c_imagesE_sideWalk c_imagesE_sidePace c_imagesE_sideWould c_imagesE_acts c_imagesE_actParts c_imagesE_actSpeeds c_imagesE_carried c_imagesE_paces c_imagesE_speeds c_imagesE_steps o6 o7 o8 o9 o10 o11 o12 o13 o14 o15 o16 o17 o18 o19 o20 o21 o22)) rfl rfl rfl (rest := []) rfl rfl rfl dX8_back__37 ?_
        refine g_iconst C dX8_back__40 ?_
        cases h
        exact hret 41 _ dX8_back__41
      · refine g_aald C 2 (t0 := 4) rfl rfl (by decide) rfl dX8_back__36 ?_
        obtain ⟨o6, o7, o8, o9, o10, o11, o12, o13, o14, o15, o16, o17, o18, o19, o20, o21, o22, hr23, h⟩ := bnd17_some h
        refine g_callV [24, 4, 7, 10, 13, 16, 19, 22, 25, 26, 27, 28, 29, 30] [0, 1, 2, 3, 5, 6, 8, 9, 11, 12, 14, 15, 17, 18, 20, 21, 23] [0, 1, 2, 3, 18, 4, 5, 19, 6, 7, 20, 8, 9, 21, 10, 11, 22, 12, 13, 23, 14, 15, 24, 16, 17, 25, 26, 27, 28, 29, 30] C mt_X8_106 (c_X2_copyFrom _ _ _ _ a_t_now a_t_imagesE_1 a_t_imagesE_actParts_1 a_t_imagesE_actSpeeds_1 a_t_imagesE_carried_1 a_t_imagesE_paces_1 a_t_imagesE_speeds_1 a_t_imagesE_steps_1 a_t_now_actParts a_t_now_actSpeeds a_t_now_carried a_t_now_paces a_t_now_speeds a_t_now_steps c_now_lines c_now_odds c_now_parts c_now_walkers c_now_bands c_now_sided c_now_sideStand c_now_sideWalk c_now_sidePace c_now_sideWould c_now_acts (c_imagesE_lines (1)) (c_imagesE_odds (1)) (c_imagesE_parts (1)) (c_imagesE_walkers (1)) (c_imagesE_bands (1)) (c_imagesE_sided (1)) (c_imagesE_sideStand (1)) (c_imagesE_sideWalk (1)) (c_imagesE_sidePace (1)) (c_imagesE_sideWould (1)) (c_imagesE_acts (1)) (c_imagesE_actParts (1)) (c_imagesE_actSpeeds (1)) (c_imagesE_carried (1)) (c_imagesE_paces (1)) (c_imagesE_speeds (1)) (c_imagesE_steps (1)) c_now_actParts c_now_actSpeeds c_now_carried c_now_paces c_now_speeds c_now_steps F hr23) (q0 := 0) rfl (ci := 2) rfl rfl rfl (ws2 := (W_X8_back_ (eCy E) a_t a_t_imaged a_t_images a_t_imagesE_0 a_t_imagesE_1 a_t_imagesE_2 a_t_imagesE_actParts_0 a_t_imagesE_actParts_1 a_t_imagesE_actParts_2 a_t_imagesE_actSpeeds_0 a_t_imagesE_actSpeeds_1 a_t_imagesE_actSpeeds_2 a_t_imagesE_carried_0 a_t_imagesE_carried_1 a_t_imagesE_carried_2 a_t_imagesE_paces_0 a_t_imagesE_paces_1 a_t_imagesE_paces_2 a_t_imagesE_speeds_0 a_t_imagesE_speeds_1 a_t_imagesE_speeds_2 a_t_imagesE_steps_0 a_t_imagesE_steps_1 a_t_imagesE_steps_2 a_t_now a_t_now_actParts a_t_now_actSpeeds a_t_now_carried a_t_now_paces a_t_now_speeds a_t_now_steps g_t_0 g_t_1 g_t_2 g_t_6 g_t_7 g_t_8 g_t_9 g_t_10 g_t_11 g_t_12 g_t_13 c_imaged c_imagesE_lines c_imagesE_odds c_imagesE_parts c_imagesE_walkers c_imagesE_bands c_imagesE_sided c_imagesE_sideStand c_imagesE_sideWalk c_imagesE_sidePace c_imagesE_sideWould c_imagesE_acts c_imagesE_actParts c_imagesE_actSpeeds c_imagesE_carried c_imagesE_paces c_imagesE_speeds c_imagesE_steps o6 o7 o8 o9 o10 o11 o12 o13 o14 o15 o16 o17 o18 o19 o20 o21 o22)) rfl rfl rfl (rest := []) rfl rfl rfl dX8_back__37 ?_
        refine g_iconst C dX8_back__40 ?_
        cases h
        exact hret 41 _ dX8_back__41
      · refine g_aald C 2 (t0 := 4) rfl rfl (by decide) rfl dX8_back__36 ?_
        obtain ⟨o6, o7, o8, o9, o10, o11, o12, o13, o14, o15, o16, o17, o18, o19, o20, o21, o22, hr23, h⟩ := bnd17_some h
        refine g_callV [24, 5, 8, 11, 14, 17, 20, 23, 25, 26, 27, 28, 29, 30] [0, 1, 2, 3, 4, 6, 7, 9, 10, 12, 13, 15, 16, 18, 19, 21, 22] [0, 1, 2, 3, 4, 18, 5, 6, 19, 7, 8, 20, 9, 10, 21, 11, 12, 22, 13, 14, 23, 15, 16, 24, 17, 25, 26, 27, 28, 29, 30] C mt_X8_106 (c_X2_copyFrom _ _ _ _ a_t_now a_t_imagesE_2 a_t_imagesE_actParts_2 a_t_imagesE_actSpeeds_2 a_t_imagesE_carried_2 a_t_imagesE_paces_2 a_t_imagesE_speeds_2 a_t_imagesE_steps_2 a_t_now_actParts a_t_now_actSpeeds a_t_now_carried a_t_now_paces a_t_now_speeds a_t_now_steps c_now_lines c_now_odds c_now_parts c_now_walkers c_now_bands c_now_sided c_now_sideStand c_now_sideWalk c_now_sidePace c_now_sideWould c_now_acts (c_imagesE_lines (2)) (c_imagesE_odds (2)) (c_imagesE_parts (2)) (c_imagesE_walkers (2)) (c_imagesE_bands (2)) (c_imagesE_sided (2)) (c_imagesE_sideStand (2)) (c_imagesE_sideWalk (2)) (c_imagesE_sidePace (2)) (c_imagesE_sideWould (2)) (c_imagesE_acts (2)) (c_imagesE_actParts (2)) (c_imagesE_actSpeeds (2)) (c_imagesE_carried (2)) (c_imagesE_paces (2)) (c_imagesE_speeds (2)) (c_imagesE_steps (2)) c_now_actParts c_now_actSpeeds c_now_carried c_now_paces c_now_speeds c_now_steps F hr23) (q0 := 0) rfl (ci := 2) rfl rfl rfl (ws2 := (W_X8_back_ (eCy E) a_t a_t_imaged a_t_images a_t_imagesE_0 a_t_imagesE_1 a_t_imagesE_2 a_t_imagesE_actParts_0 a_t_imagesE_actParts_1 a_t_imagesE_actParts_2 a_t_imagesE_actSpeeds_0 a_t_imagesE_actSpeeds_1 a_t_imagesE_actSpeeds_2 a_t_imagesE_carried_0 a_t_imagesE_carried_1 a_t_imagesE_carried_2 a_t_imagesE_paces_0 a_t_imagesE_paces_1 a_t_imagesE_paces_2 a_t_imagesE_speeds_0 a_t_imagesE_speeds_1 a_t_imagesE_speeds_2 a_t_imagesE_steps_0 a_t_imagesE_steps_1 a_t_imagesE_steps_2 a_t_now a_t_now_actParts a_t_now_actSpeeds a_t_now_carried a_t_now_paces a_t_now_speeds a_t_now_steps g_t_0 g_t_1 g_t_2 g_t_6 g_t_7 g_t_8 g_t_9 g_t_10 g_t_11 g_t_12 g_t_13 c_imaged c_imagesE_lines c_imagesE_odds c_imagesE_parts c_imagesE_walkers c_imagesE_bands c_imagesE_sided c_imagesE_sideStand c_imagesE_sideWalk c_imagesE_sidePace c_imagesE_sideWould c_imagesE_acts c_imagesE_actParts c_imagesE_actSpeeds c_imagesE_carried c_imagesE_paces c_imagesE_speeds c_imagesE_steps o6 o7 o8 o9 o10 o11 o12 o13 o14 o15 o16 o17 o18 o19 o20 o21 o22)) rfl rfl rfl (rest := []) rfl rfl rfl dX8_back__37 ?_
        refine g_iconst C dX8_back__40 ?_
        cases h
        exact hret 41 _ dX8_back__41
    · refine g_bipush C dX8_back__24 (by decide) ?_
      cases h
      exact hret 26 _ dX8_back__26
  · refine g_bipush C dX8_back__12 (by decide) ?_
    cases h
    exact hret 14 _ dX8_back__14
end S_X8_back_
set_option maxRecDepth 100000 in
set_option maxHeartbeats 4000000 in
theorem c_X8_back_ (l : Launch) (D : va_G) (cy : Nat → ClassId) (ad : AD) (a_t a_t_imaged a_t_images a_t_imagesE_0 a_t_imagesE_1 a_t_imagesE_2 a_t_imagesE_actParts_0 a_t_imagesE_actParts_1 a_t_imagesE_actParts_2 a_t_imagesE_actSpeeds_0 a_t_imagesE_actSpeeds_1 a_t_imagesE_actSpeeds_2 a_t_imagesE_carried_0 a_t_imagesE_carried_1 a_t_imagesE_carried_2 a_t_imagesE_paces_0 a_t_imagesE_paces_1 a_t_imagesE_paces_2 a_t_imagesE_speeds_0 a_t_imagesE_speeds_1 a_t_imagesE_speeds_2 a_t_imagesE_steps_0 a_t_imagesE_steps_1 a_t_imagesE_steps_2 a_t_now a_t_now_actParts a_t_now_actSpeeds a_t_now_carried a_t_now_paces a_t_now_speeds a_t_now_steps : Nat) (g_t_0 : Value) (g_t_1 : Value) (g_t_2 : Value) (g_t_6 : Value) (g_t_7 : Value) (g_t_8 : Value) (g_t_9 : Value) (g_t_10 : Value) (g_t_11 : Value) (g_t_12 : Value) (g_t_13 : Value) (x1 : Int) (c_imaged : Int → Int) (c_imagesE_lines : Int → Int) (c_imagesE_odds : Int → Int) (c_imagesE_parts : Int → Int) (c_imagesE_walkers : Int → Int) (c_imagesE_bands : Int → Int) (c_imagesE_sided : Int → Int) (c_imagesE_sideStand : Int → Int) (c_imagesE_sideWalk : Int → Int) (c_imagesE_sidePace : Int → Int) (c_imagesE_sideWould : Int → Int) (c_imagesE_acts : Int → Int) (c_imagesE_actParts : Int → Int → Int) (c_imagesE_actSpeeds : Int → Int → Int) (c_imagesE_carried : Int → Int → Int) (c_imagesE_paces : Int → Int → Int) (c_imagesE_speeds : Int → Int → Int) (c_imagesE_steps : Int → Int → Int) (c_now_lines : Int) (c_now_odds : Int) (c_now_parts : Int) (c_now_walkers : Int) (c_now_bands : Int) (c_now_sided : Int) (c_now_sideStand : Int) (c_now_sideWalk : Int) (c_now_sidePace : Int) (c_now_sideWould : Int) (c_now_acts : Int) (c_now_actParts : Int → Int) (c_now_actSpeeds : Int → Int) (c_now_carried : Int → Int) (c_now_paces : Int → Int) (c_now_speeds : Int → Int) (c_now_steps : Int → Int) (F : Nat) {v : Int × Int × Int × Int × Int × Int × Int × Int × Int × Int × Int × Int × (Int → Int) × (Int → Int) × (Int → Int) × (Int → Int) × (Int → Int) × (Int → Int)} (h : m_X8_back_ F x1 c_imaged c_imagesE_lines c_imagesE_odds c_imagesE_parts c_imagesE_walkers c_imagesE_bands c_imagesE_sided c_imagesE_sideStand c_imagesE_sideWalk c_imagesE_sidePace c_imagesE_sideWould c_imagesE_acts c_imagesE_actParts c_imagesE_actSpeeds c_imagesE_carried c_imagesE_paces c_imagesE_speeds c_imagesE_steps c_now_lines c_now_odds c_now_parts c_now_walkers c_now_bands c_now_sided c_now_sideStand c_now_sideWalk c_now_sidePace c_now_sideWould c_now_acts c_now_actParts c_now_actSpeeds c_now_carried c_now_paces c_now_speeds c_now_steps = some v) : Ct l yX8_back_ cX8_back_ 2 (some .int) { frames := 2, cells := 0, slots := 0, locals := 47 } D cy ad [.ref a_t, .int (wI x1)] (W_X8_back_ cy a_t a_t_imaged a_t_images a_t_imagesE_0 a_t_imagesE_1 a_t_imagesE_2 a_t_imagesE_actParts_0 a_t_imagesE_actParts_1 a_t_imagesE_actParts_2 a_t_imagesE_actSpeeds_0 a_t_imagesE_actSpeeds_1 a_t_imagesE_actSpeeds_2 a_t_imagesE_carried_0 a_t_imagesE_carried_1 a_t_imagesE_carried_2 a_t_imagesE_paces_0 a_t_imagesE_paces_1 a_t_imagesE_paces_2 a_t_imagesE_speeds_0 a_t_imagesE_speeds_1 a_t_imagesE_speeds_2 a_t_imagesE_steps_0 a_t_imagesE_steps_1 a_t_imagesE_steps_2 a_t_now a_t_now_actParts a_t_now_actSpeeds a_t_now_carried a_t_now_paces a_t_now_speeds a_t_now_steps g_t_0 g_t_1 g_t_2 g_t_6 g_t_7 g_t_8 g_t_9 g_t_10 g_t_11 g_t_12 g_t_13 c_imaged c_imagesE_lines c_imagesE_odds c_imagesE_parts c_imagesE_walkers c_imagesE_bands c_imagesE_sided c_imagesE_sideStand c_imagesE_sideWalk c_imagesE_sidePace c_imagesE_sideWould c_imagesE_acts c_imagesE_actParts c_imagesE_actSpeeds c_imagesE_carried c_imagesE_paces c_imagesE_speeds c_imagesE_steps c_now_lines c_now_odds c_now_parts c_now_walkers c_now_bands c_now_sided c_now_sideStand c_now_sideWalk c_now_sidePace c_now_sideWould c_now_acts c_now_actParts c_now_actSpeeds c_now_carried c_now_paces c_now_speeds c_now_steps) (W_X8_back_ cy a_t a_t_imaged a_t_images a_t_imagesE_0 a_t_imagesE_1 a_t_imagesE_2 a_t_imagesE_actParts_0 a_t_imagesE_actParts_1 a_t_imagesE_actParts_2 a_t_imagesE_actSpeeds_0 a_t_imagesE_actSpeeds_1 a_t_imagesE_actSpeeds_2 a_t_imagesE_carried_0 a_t_imagesE_carried_1 a_t_imagesE_carried_2 a_t_imagesE_paces_0 a_t_imagesE_paces_1 a_t_imagesE_paces_2 a_t_imagesE_speeds_0 a_t_imagesE_speeds_1 a_t_imagesE_speeds_2 a_t_imagesE_steps_0 a_t_imagesE_steps_1 a_t_imagesE_steps_2 a_t_now a_t_now_actParts a_t_now_actSpeeds a_t_now_carried a_t_now_paces a_t_now_speeds a_t_now_steps g_t_0 g_t_1 g_t_2 g_t_6 g_t_7 g_t_8 g_t_9 g_t_10 g_t_11 g_t_12 g_t_13 c_imaged c_imagesE_lines c_imagesE_odds c_imagesE_parts c_imagesE_walkers c_imagesE_bands c_imagesE_sided c_imagesE_sideStand c_imagesE_sideWalk c_imagesE_sidePace c_imagesE_sideWould c_imagesE_acts c_imagesE_actParts c_imagesE_actSpeeds c_imagesE_carried c_imagesE_paces c_imagesE_speeds c_imagesE_steps (v.2.1) (v.2.2.1) (v.2.2.2.1) (v.2.2.2.2.1) (v.2.2.2.2.2.1) (v.2.2.2.2.2.2.1) (v.2.2.2.2.2.2.2.1) (v.2.2.2.2.2.2.2.2.1) (v.2.2.2.2.2.2.2.2.2.1) (v.2.2.2.2.2.2.2.2.2.2.1) (v.2.2.2.2.2.2.2.2.2.2.2.1) (v.2.2.2.2.2.2.2.2.2.2.2.2.1) (v.2.2.2.2.2.2.2.2.2.2.2.2.2.1) (v.2.2.2.2.2.2.2.2.2.2.2.2.2.2.1) (v.2.2.2.2.2.2.2.2.2.2.2.2.2.2.2.1) (v.2.2.2.2.2.2.2.2.2.2.2.2.2.2.2.2.1) (v.2.2.2.2.2.2.2.2.2.2.2.2.2.2.2.2.2)) (some (.int (wI (v.1)))) := by
  refine Ct.introI (j := 0) (plainFor_of_name (by decide)) rfl rfl (fun E C e1 e2 e3 e4 e5 hret => ?_)
  subst e1; subst e2; subst e3; subst e4
  exact wm_X8_back_ C e5 h hret
-- MovingStair.row(III)I
def W_X8_row (cy : Nat → ClassId) (a_t a_t_slots a_t_slotsE_0 a_t_slotsE_1 a_t_slotsE_2 a_t_slotsE_3 a_t_slotsE_numbers_0 a_t_slotsE_numbers_1 a_t_slotsE_numbers_2 a_t_slotsE_numbers_3 : Nat) (g_t_0 : Value) (g_t_1 : Value) (g_t_2 : Value) (g_t_3 : Value) (g_t_4 : Value) (g_t_5 : Value) (g_t_7 : Value) (g_t_8 : Value) (g_t_9 : Value) (g_t_10 : Value) (g_t_11 : Value) (g_t_12 : Value) (g_t_13 : Value) (c_slotsE_held : Int → Int) (c_slotsE_width : Int → Int) (c_slotsE_size : Int → Int) (c_slotsE_numbers : Int → Int → Int) : va_W := [(a_t, .inr (8, [g_t_0, g_t_1, g_t_2, g_t_3, g_t_4, g_t_5, .ref a_t_slots, g_t_7, g_t_8, g_t_9, g_t_10, g_t_11, g_t_12, g_t_13])), (a_t_slots, .inl (cy 5, 4, .inr (.inr (.inr (.inr (selO [a_t_slotsE_0, a_t_slotsE_1, a_t_slotsE_2, a_t_slotsE_3])))))), (a_t_slotsE_0, .inr (5, [.int (wI (c_slotsE_held 0)), .int (wI (c_slotsE_width 0)), .int (wI (c_slotsE_size 0)), .ref a_t_slotsE_numbers_0])), (a_t_slotsE_1, .inr (5, [.int (wI (c_slotsE_held 1)), .int (wI (c_slotsE_width 1)), .int (wI (c_slotsE_size 1)), .ref a_t_slotsE_numbers_1])), (a_t_slotsE_2, .inr (5, [.int (wI (c_slotsE_held 2)), .int (wI (c_slotsE_width 2)), .int (wI (c_slotsE_size 2)), .ref a_t_slotsE_numbers_2])), (a_t_slotsE_3, .inr (5, [.int (wI (c_slotsE_held 3)), .int (wI (c_slotsE_width 3)), .int (wI (c_slotsE_size 3)), .ref a_t_slotsE_numbers_3])), (a_t_slotsE_numbers_0, .inl (cy 2, 60, .inr (.inl (aJ (c_slotsE_numbers 0))))), (a_t_slotsE_numbers_1, .inl (cy 2, 60, .inr (.inl (aJ (c_slotsE_numbers 1))))), (a_t_slotsE_numbers_2, .inl (cy 2, 60, .inr (.inl (aJ (c_slotsE_numbers 2))))), (a_t_slotsE_numbers_3, .inl (cy 2, 60, .inr (.inl (aJ (c_slotsE_numbers 3)))))]
def m_X8_row (F : Nat) (x1 : Int) (x2 : Int) (x3 : Int) (c_slotsE_held : Int → Int) (c_slotsE_width : Int → Int) (c_slotsE_size : Int → Int) (c_slotsE_numbers : Int → Int → Int) : Option (Int × (Int → Int) × (Int → Int) × (Int → Int) × (Int → Int → Int)) :=
  bnd1 (m_X8_isSlot F x1) fun r1 => if wI r1 = wI 0 then
    (some ((-2), c_slotsE_held, c_slotsE_width, c_slotsE_size, c_slotsE_numbers))
  else
    (chk (r32 x2) <| bnd1 (m_X8_isOut F x2 0 3) fun r4 => if wI r4 = wI 0 then
    (if wI x3 ≤ wI 60 then
    (if wI 0 ≤ wI x3 then
    (chk (0 ≤ x1 ∧ x1 < 4) <| bnd4 (m_X5_begin F x2 x3 (c_slotsE_numbers x1)) fun o6 o7 o8 o9 => some (0, up c_slotsE_held x1 o6, up c_slotsE_width x1 o7, up c_slotsE_size x1 o8, up c_slotsE_numbers x1 o9))
  else
    (some ((-3), c_slotsE_held, c_slotsE_width, c_slotsE_size, c_slotsE_numbers)))
  else
    (some ((-2), c_slotsE_held, c_slotsE_width, c_slotsE_size, c_slotsE_numbers)))
  else
    (some ((-2), c_slotsE_held, c_slotsE_width, c_slotsE_size, c_slotsE_numbers)))
section S_X8_row
variable {E : EE} {a_t a_t_slots a_t_slotsE_0 a_t_slotsE_1 a_t_slotsE_2 a_t_slotsE_3 a_t_slotsE_numbers_0 a_t_slotsE_numbers_1 a_t_slotsE_numbers_2 a_t_slotsE_numbers_3 : Nat} {g_t_0 : Value} {g_t_1 : Value} {g_t_2 : Value} {g_t_3 : Value} {g_t_4 : Value} {g_t_5 : Value} {g_t_7 : Value} {g_t_8 : Value} {g_t_9 : Value} {g_t_10 : Value} {g_t_11 : Value} {g_t_12 : Value} {g_t_13 : Value}
set_option maxRecDepth 100000 in
set_option maxHeartbeats 4000000 in
theorem wm_X8_row {F : Nat} {v : Int × (Int → Int) × (Int → Int) × (Int → Int) × (Int → Int → Int)} {x1 : Int} {x2 : Int} {x3 : Int} {c_slotsE_held : Int → Int} {c_slotsE_width : Int → Int} {c_slotsE_size : Int → Int} {c_slotsE_numbers : Int → Int → Int} (C : Cx E cX8_row RX8 { frames := 2, cells := 0, slots := 0, locals := 46 }) (hN : eN E = 4) (h : m_X8_row F x1 x2 x3 c_slotsE_held c_slotsE_width c_slotsE_size c_slotsE_numbers = some v) (hret : ∀ (pc : Nat) (L : List (Option Value)), decode cX8_row pc = .ok (.ireturn, 1) → GG E 0 0 (W_X8_row (eCy E) a_t a_t_slots a_t_slotsE_0 a_t_slotsE_1 a_t_slotsE_2 a_t_slotsE_3 a_t_slotsE_numbers_0 a_t_slotsE_numbers_1 a_t_slotsE_numbers_2 a_t_slotsE_numbers_3 g_t_0 g_t_1 g_t_2 g_t_3 g_t_4 g_t_5 g_t_7 g_t_8 g_t_9 g_t_10 g_t_11 g_t_12 g_t_13 (v.2.1) (v.2.2.1) (v.2.2.2.1) (v.2.2.2.2)) L pc [.int (wI (v.1))]) : GG E 0 0 (W_X8_row (eCy E) a_t a_t_slots a_t_slotsE_0 a_t_slotsE_1 a_t_slotsE_2 a_t_slotsE_3 a_t_slotsE_numbers_0 a_t_slotsE_numbers_1 a_t_slotsE_numbers_2 a_t_slotsE_numbers_3 g_t_0 g_t_1 g_t_2 g_t_3 g_t_4 g_t_5 g_t_7 g_t_8 g_t_9 g_t_10 g_t_11 g_t_12 g_t_13 c_slotsE_held c_slotsE_width c_slotsE_size c_slotsE_numbers) [some (.ref a_t), some (.int (wI x1)), some (.int (wI x2)), some (.int (wI x3))] 0 [] := by
  unfold m_X8_row at h
  refine g_iload_n 1 C dX8_row_0 rfl rfl ?_
  obtain ⟨r1, hr2, h⟩ := bnd1_some h
  refine g_callSI [] [0, 1, 2, 3, 4, 5, 6, 7, 8, 9] [0, 1, 2, 3, 4, 5, 6, 7, 8, 9] C mt_X8_300 (c_X8_isSlot _ _ _ _ x1 F hr2) rfl rfl (ws2 := (W_X8_row (eCy E) a_t a_t_slots a_t_slotsE_0 a_t_slotsE_1 a_t_slotsE_2 a_t_slotsE_3 a_t_slotsE_numbers_0 a_t_slotsE_numbers_1 a_t_slotsE_numbers_2 a_t_slotsE_numbers_3 g_t_0 g_t_1 g_t_2 g_t_3 g_t_4 g_t_5 g_t_7 g_t_8 g_t_9 g_t_10 g_t_11 g_t_12 g_t_13 c_slotsE_held c_slotsE_width c_slotsE_size c_slotsE_numbers)) rfl rfl rfl (rest := []) rfl rfl rfl dX8_row_1 ?_
  refine g_if_eq 25 C dX8_row_4 (by decide) h (fun h => ?_) (fun h => ?_)
  · refine g_bipush C dX8_row_25 (by decide) ?_
    cases h
    exact hret 27 _ dX8_row_27
  · refine g_iload_n 2 C dX8_row_7 rfl rfl ?_
    obtain ⟨hc3, h⟩ := chk_some h
    refine g_i2l C dX8_row_8 hc3 ?_
    refine g_lconst (x := 0) C dX8_row_9 (by decide) ?_
    refine g_ldc2 (v := 3) C mc_X8_372 dX8_row_10 ?_
    obtain ⟨r4, hr5, h⟩ := bnd1_some h
    refine g_callSI [] [0, 1, 2, 3, 4, 5, 6, 7, 8, 9] [0, 1, 2, 3, 4, 5, 6, 7, 8, 9] C mt_X8_161 (c_X8_isOut _ _ _ _ x2 0 3 F hr5) rfl rfl (ws2 := (W_X8_row (eCy E) a_t a_t_slots a_t_slotsE_0 a_t_slotsE_1 a_t_slotsE_2 a_t_slotsE_3 a_t_slotsE_numbers_0 a_t_slotsE_numbers_1 a_t_slotsE_numbers_2 a_t_slotsE_numbers_3 g_t_0 g_t_1 g_t_2 g_t_3 g_t_4 g_t_5 g_t_7 g_t_8 g_t_9 g_t_10 g_t_11 g_t_12 g_t_13 c_slotsE_held c_slotsE_width c_slotsE_size c_slotsE_numbers)) rfl rfl rfl (rest := []) rfl rfl rfl dX8_row_13 ?_
    refine g_if_ne 25 C dX8_row_16 (by decide) h (fun h => ?_) (fun h => ?_)
    · refine g_bipush C dX8_row_25 (by decide) ?_
      cases h
      exact hret 27 _ dX8_row_27
    · refine g_iload_n 3 C dX8_row_19 rfl rfl ?_
      refine g_bipush C dX8_row_20 (by decide) ?_
      refine g_icmp_le 28 C dX8_row_22 (by decide) h (fun h => ?_) (fun h => ?_)
      · refine g_iload_n 3 C dX8_row_28 rfl rfl ?_
        refine g_if_ge 35 C dX8_row_29 (by decide) h (fun h => ?_) (fun h => ?_)
        · refine g_aload_n 0 C dX8_row_35 rfl rfl ?_
          refine g_get C fg_X8_36 0 rfl rfl dX8_row_36 ?_
          refine g_iload_n 1 C dX8_row_39 rfl rfl ?_
          obtain ⟨hc6, h⟩ := chk_some h
          obtain rfl | rfl | rfl | rfl : x1 = 0 ∨ x1 = 1 ∨ x1 = 2 ∨ x1 = 3 := by omega
          · refine g_aald C 1 (t0 := 5) rfl rfl (by decide) rfl dX8_row_40 ?_
            refine g_iload_n 2 C dX8_row_41 rfl rfl ?_
            refine g_iload_n 3 C dX8_row_42 rfl rfl ?_
            obtain ⟨o7, o8, o9, o10, hr11, h⟩ := bnd4_some h
            refine g_callV [2, 6] [0, 1, 3, 4, 5, 7, 8, 9] [0, 1, 8, 2, 3, 4, 9, 5, 6, 7] C mt_X8_460 (c_X5_begin _ _ _ _ a_t_slotsE_0 a_t_slotsE_numbers_0 x2 x3 (c_slotsE_held (0)) (c_slotsE_width (0)) (c_slotsE_size (0)) (c_slotsE_numbers (0)) F hr11) (q0 := 0) rfl (ci := 5) rfl rfl rfl (ws2 := (W_X8_row (eCy E) a_t a_t_slots a_t_slotsE_0 a_t_slotsE_1 a_t_slotsE_2 a_t_slotsE_3 a_t_slotsE_numbers_0 a_t_slotsE_numbers_1 a_t_slotsE_numbers_2 a_t_slotsE_numbers_3 g_t_0 g_t_1 g_t_2 g_t_3 g_t_4 g_t_5 g_t_7 g_t_8 g_t_9 g_t_10 g_t_11 g_t_12 g_t_13 (up c_slotsE_held (0) o7) (up c_slotsE_width (0) o8) (up c_slotsE_size (0) o9) (up c_slotsE_numbers (0) o10))) rfl rfl rfl (rest := []) rfl rfl rfl dX8_row_43 ?_
            refine g_iconst C dX8_row_46 ?_
            cases h
            exact hret 47 _ dX8_row_47
          · refine g_aald C 1 (t0 := 5) rfl rfl (by decide) rfl dX8_row_40 ?_
            refine g_iload_n 2 C dX8_row_41 rfl rfl ?_
            refine g_iload_n 3 C dX8_row_42 rfl rfl ?_
            obtain ⟨o7, o8, o9, o10, hr11, h⟩ := bnd4_some h
            refine g_callV [3, 7] [0, 1, 2, 4, 5, 6, 8, 9] [0, 1, 2, 8, 3, 4, 5, 9, 6, 7] C mt_X8_460 (c_X5_begin _ _ _ _ a_t_slotsE_1 a_t_slotsE_numbers_1 x2 x3 (c_slotsE_held (1)) (c_slotsE_width (1)) (c_slotsE_size (1)) (c_slotsE_numbers (1)) F hr11) (q0 := 0) rfl (ci := 5) rfl rfl rfl (ws2 := (W_X8_row (eCy E) a_t a_t_slots a_t_slotsE_0 a_t_slotsE_1 a_t_slotsE_2 a_t_slotsE_3 a_t_slotsE_numbers_0 a_t_slotsE_numbers_1 a_t_slotsE_numbers_2 a_t_slotsE_numbers_3 g_t_0 g_t_1 g_t_2 g_t_3 g_t_4 g_t_5 g_t_7 g_t_8 g_t_9 g_t_10 g_t_11 g_t_12 g_t_13 (up c_slotsE_held (1) o7) (up c_slotsE_width (1) o8) (up c_slotsE_size (1) o9) (up c_slotsE_numbers (1) o10))) rfl rfl rfl (rest := []) rfl rfl rfl dX8_row_43 ?_
            refine g_iconst C dX8_row_46 ?_
            cases h
            exact hret 47 _ dX8_row_47
          · refine g_aald C 1 (t0 := 5) rfl rfl (by decide) rfl dX8_row_40 ?_
            refine g_iload_n 2 C dX8_row_41 rfl rfl ?_
            refine g_iload_n 3 C dX8_row_42 rfl rfl ?_
            obtain ⟨o7, o8, o9, o10, hr11, h⟩ := bnd4_some h
            refine g_callV [4, 8] [0, 1, 2, 3, 5, 6, 7, 9] [0, 1, 2, 3, 8, 4, 5, 6, 9, 7] C mt_X8_460 (c_X5_begin _ _ _ _ a_t_slotsE_2 a_t_slotsE_numbers_2 x2 x3 (c_slotsE_held (2)) (c_slotsE_width (2)) (c_slotsE_size (2)) (c_slotsE_numbers (2)) F hr11) (q0 := 0) rfl (ci := 5) rfl rfl rfl (ws2 := (W_X8_row (eCy E) a_t a_t_slots a_t_slotsE_0 a_t_slotsE_1 a_t_slotsE_2 a_t_slotsE_3 a_t_slotsE_numbers_0 a_t_slotsE_numbers_1 a_t_slotsE_numbers_2 a_t_slotsE_numbers_3 g_t_0 g_t_1 g_t_2 g_t_3 g_t_4 g_t_5 g_t_7 g_t_8 g_t_9 g_t_10 g_t_11 g_t_12 g_t_13 (up c_slotsE_held (2) o7) (up c_slotsE_width (2) o8) (up c_slotsE_size (2) o9) (up c_slotsE_numbers (2) o10))) rfl rfl rfl (rest := []) rfl rfl rfl dX8_row_43 ?_
            refine g_iconst C dX8_row_46 ?_
            cases h
            exact hret 47 _ dX8_row_47
          · refine g_aald C 1 (t0 := 5) rfl rfl (by decide) rfl dX8_row_40 ?_
            refine g_iload_n 2 C dX8_row_41 rfl rfl ?_
            refine g_iload_n 3 C dX8_row_42 rfl rfl ?_
            obtain ⟨o7, o8, o9, o10, hr11, h⟩ := bnd4_some h
            refine g_callV [5, 9] [0, 1, 2, 3, 4, 6, 7, 8] [0, 1, 2, 3, 4, 8, 5, 6, 7, 9] C mt_X8_460 (c_X5_begin _ _ _ _ a_t_slotsE_3 a_t_slotsE_numbers_3 x2 x3 (c_slotsE_held (3)) (c_slotsE_width (3)) (c_slotsE_size (3)) (c_slotsE_numbers (3)) F hr11) (q0 := 0) rfl (ci := 5) rfl rfl rfl (ws2 := (W_X8_row (eCy E) a_t a_t_slots a_t_slotsE_0 a_t_slotsE_1 a_t_slotsE_2 a_t_slotsE_3 a_t_slotsE_numbers_0 a_t_slotsE_numbers_1 a_t_slotsE_numbers_2 a_t_slotsE_numbers_3 g_t_0 g_t_1 g_t_2 g_t_3 g_t_4 g_t_5 g_t_7 g_t_8 g_t_9 g_t_10 g_t_11 g_t_12 g_t_13 (up c_slotsE_held (3) o7) (up c_slotsE_width (3) o8) (up c_slotsE_size (3) o9) (up c_slotsE_numbers (3) o10))) rfl rfl rfl (rest := []) rfl rfl rfl dX8_row_43 ?_
            refine g_iconst C dX8_row_46 ?_
            cases h
            exact hret 47 _ dX8_row_47
        · refine g_bipush C dX8_row_32 (by decide) ?_
          cases h
          exact hret 34 _ dX8_row_34
      · refine g_bipush C dX8_row_25 (by decide) ?_
        cases h
        exact hret 27 _ dX8_row_27
end S_X8_row
set_option maxRecDepth 100000 in
set_option maxHeartbeats 4000000 in
theorem c_X8_row (l : Launch) (D : va_G) (cy : Nat → ClassId) (ad : AD) (a_t a_t_slots a_t_slotsE_0 a_t_slotsE_1 a_t_slotsE_2 a_t_slotsE_3 a_t_slotsE_numbers_0 a_t_slotsE_numbers_1 a_t_slotsE_numbers_2 a_t_slotsE_numbers_3 : Nat) (g_t_0 : Value) (g_t_1 : Value) (g_t_2 : Value) (g_t_3 : Value) (g_t_4 : Value) (g_t_5 : Value) (g_t_7 : Value) (g_t_8 : Value) (g_t_9 : Value) (g_t_10 : Value) (g_t_11 : Value) (g_t_12 : Value) (g_t_13 : Value) (x1 : Int) (x2 : Int) (x3 : Int) (c_slotsE_held : Int → Int) (c_slotsE_width : Int → Int) (c_slotsE_size : Int → Int) (c_slotsE_numbers : Int → Int → Int) (F : Nat) {v : Int × (Int → Int) × (Int → Int) × (Int → Int) × (Int → Int → Int)} (h : m_X8_row F x1 x2 x3 c_slotsE_held c_slotsE_width c_slotsE_size c_slotsE_numbers = some v) : Ct l yX8_row cX8_row 4 (some .int) { frames := 2, cells := 0, slots := 0, locals := 46 } D cy ad [.ref a_t, .int (wI x1), .int (wI x2), .int (wI x3)] (W_X8_row cy a_t a_t_slots a_t_slotsE_0 a_t_slotsE_1 a_t_slotsE_2 a_t_slotsE_3 a_t_slotsE_numbers_0 a_t_slotsE_numbers_1 a_t_slotsE_numbers_2 a_t_slotsE_numbers_3 g_t_0 g_t_1 g_t_2 g_t_3 g_t_4 g_t_5 g_t_7 g_t_8 g_t_9 g_t_10 g_t_11 g_t_12 g_t_13 c_slotsE_held c_slotsE_width c_slotsE_size c_slotsE_numbers) (W_X8_row cy a_t a_t_slots a_t_slotsE_0 a_t_slotsE_1 a_t_slotsE_2 a_t_slotsE_3 a_t_slotsE_numbers_0 a_t_slotsE_numbers_1 a_t_slotsE_numbers_2 a_t_slotsE_numbers_3 g_t_0 g_t_1 g_t_2 g_t_3 g_t_4 g_t_5 g_t_7 g_t_8 g_t_9 g_t_10 g_t_11 g_t_12 g_t_13 (v.2.1) (v.2.2.1) (v.2.2.2.1) (v.2.2.2.2)) (some (.int (wI (v.1)))) := by
  refine Ct.introI (j := 0) (plainFor_of_name (by decide)) rfl rfl (fun E C e1 e2 e3 e4 e5 hret => ?_)
  subst e1; subst e2; subst e3; subst e4
  exact wm_X8_row C e5 h hret
-- MovingStair.write(IIJ)I
def W_X8_write (cy : Nat → ClassId) (a_t a_t_slots a_t_slotsE_0 a_t_slotsE_1 a_t_slotsE_2 a_t_slotsE_3 a_t_slotsE_numbers_0 a_t_slotsE_numbers_1 a_t_slotsE_numbers_2 a_t_slotsE_numbers_3 : Nat) (g_t_0 : Value) (g_t_1 : Value) (g_t_2 : Value) (g_t_3 : Value) (g_t_4 : Value) (g_t_5 : Value) (g_t_7 : Value) (g_t_8 : Value) (g_t_9 : Value) (g_t_10 : Value) (g_t_11 : Value) (g_t_12 : Value) (g_t_13 : Value) (c_slotsE_held : Int → Int) (c_slotsE_width : Int → Int) (c_slotsE_size : Int → Int) (c_slotsE_numbers : Int → Int → Int) : va_W := [(a_t, .inr (8, [g_t_0, g_t_1, g_t_2, g_t_3, g_t_4, g_t_5, .ref a_t_slots, g_t_7, g_t_8, g_t_9, g_t_10, g_t_11, g_t_12, g_t_13])), (a_t_slots, .inl (cy 5, 4, .inr (.inr (.inr (.inr (selO [a_t_slotsE_0, a_t_slotsE_1, a_t_slotsE_2, a_t_slotsE_3])))))), (a_t_slotsE_0, .inr (5, [.int (wI (c_slotsE_held 0)), .int (wI (c_slotsE_width 0)), .int (wI (c_slotsE_size 0)), .ref a_t_slotsE_numbers_0])), (a_t_slotsE_1, .inr (5, [.int (wI (c_slotsE_held 1)), .int (wI (c_slotsE_width 1)), .int (wI (c_slotsE_size 1)), .ref a_t_slotsE_numbers_1])), (a_t_slotsE_2, .inr (5, [.int (wI (c_slotsE_held 2)), .int (wI (c_slotsE_width 2)), .int (wI (c_slotsE_size 2)), .ref a_t_slotsE_numbers_2])), (a_t_slotsE_3, .inr (5, [.int (wI (c_slotsE_held 3)), .int (wI (c_slotsE_width 3)), .int (wI (c_slotsE_size 3)), .ref a_t_slotsE_numbers_3])), (a_t_slotsE_numbers_0, .inl (cy 2, 60, .inr (.inl (aJ (c_slotsE_numbers 0))))), (a_t_slotsE_numbers_1, .inl (cy 2, 60, .inr (.inl (aJ (c_slotsE_numbers 1))))), (a_t_slotsE_numbers_2, .inl (cy 2, 60, .inr (.inl (aJ (c_slotsE_numbers 2))))), (a_t_slotsE_numbers_3, .inl (cy 2, 60, .inr (.inl (aJ (c_slotsE_numbers 3)))))]
def m_X8_write (F : Nat) (x1 : Int) (x2 : Int) (x3 : Int) (c_slotsE_held : Int → Int) (c_slotsE_width : Int → Int) (c_slotsE_size : Int → Int) (c_slotsE_numbers : Int → Int → Int) : Option (Int × (Int → Int → Int)) :=
  bnd1 (m_X8_isSlot F x1) fun r1 => if wI r1 = wI 0 then
    (some ((-2), c_slotsE_numbers))
  else
    (chk (0 ≤ x1 ∧ x1 < 4) <| if wI (c_slotsE_held x1) = wI 0 then
    (some ((-6), c_slotsE_numbers))
  else
    (chk (r32 x2) <| chk (r32 ((c_slotsE_size x1) - 1)) <| bnd1 (m_X8_isOut F x2 0 ((c_slotsE_size x1) - 1)) fun r5 => if wI r5 = wI 0 then
    (bnd1 (m_X5_cut F x3 (c_slotsE_width x1)) fun r7 => chk (0 ≤ x2 ∧ x2 < 60) <| some (0, up c_slotsE_numbers x1 (up (c_slotsE_numbers x1) x2 r7)))
  else
    (some ((-7), c_slotsE_numbers))))
section S_X8_write
variable {E : EE} {a_t a_t_slots a_t_slotsE_0 a_t_slotsE_1 a_t_slotsE_2 a_t_slotsE_3 a_t_slotsE_numbers_0 a_t_slotsE_numbers_1 a_t_slotsE_numbers_2 a_t_slotsE_numbers_3 : Nat} {g_t_0 : Value} {g_t_1 : Value} {g_t_2 : Value} {g_t_3 : Value} {g_t_4 : Value} {g_t_5 : Value} {g_t_7 : Value} {g_t_8 : Value} {g_t_9 : Value} {g_t_10 : Value} {g_t_11 : Value} {g_t_12 : Value} {g_t_13 : Value}
set_option maxRecDepth 100000 in
set_option maxHeartbeats 4000000 in
theorem wm_X8_write {F : Nat} {v : Int × (Int → Int → Int)} {x1 : Int} {x2 : Int} {x3 : Int} {c_slotsE_held : Int → Int} {c_slotsE_width : Int → Int} {c_slotsE_size : Int → Int} {c_slotsE_numbers : Int → Int → Int} (C : Cx E cX8_write RX8 { frames := 2, cells := 0, slots := 0, locals := 45 }) (hN : eN E = 6) (h : m_X8_write F x1 x2 x3 c_slotsE_held c_slotsE_width c_slotsE_size c_slotsE_numbers = some v) (hret : ∀ (pc : Nat) (L : List (Option Value)), decode cX8_write pc = .ok (.ireturn, 1) → GG E 0 0 (W_X8_write (eCy E) a_t a_t_slots a_t_slotsE_0 a_t_slotsE_1 a_t_slotsE_2 a_t_slotsE_3 a_t_slotsE_numbers_0 a_t_slotsE_numbers_1 a_t_slotsE_numbers_2 a_t_slotsE_numbers_3 g_t_0 g_t_1 g_t_2 g_t_3 g_t_4 g_t_5 g_t_7 g_t_8 g_t_9 g_t_10 g_t_11 g_t_12 g_t_13 c_slotsE_held c_slotsE_width c_slotsE_size (v.2)) L pc [.int (wI (v.1))]) : GG E 0 0 (W_X8_write (eCy E) a_t a_t_slots a_t_slotsE_0 a_t_slotsE_1 a_t_slotsE_2 a_t_slotsE_3 a_t_slotsE_numbers_0 a_t_slotsE_numbers_1 a_t_slotsE_numbers_2 a_t_slotsE_numbers_3 g_t_0 g_t_1 g_t_2 g_t_3 g_t_4 g_t_5 g_t_7 g_t_8 g_t_9 g_t_10 g_t_11 g_t_12 g_t_13 c_slotsE_held c_slotsE_width c_slotsE_size c_slotsE_numbers) [some (.ref a_t), some (.int (wI x1)), some (.int (wI x2)), some (.long (wJ x3)), none, none] 0 [] := by
  unfold m_X8_write at h
  refine g_iload_n 1 C dX8_write_0 rfl rfl ?_
  obtain ⟨r1, hr2, h⟩ := bnd1_some h
  refine g_callSI [] [0, 1, 2, 3, 4, 5, 6, 7, 8, 9] [0, 1, 2, 3, 4, 5, 6, 7, 8, 9] C mt_X8_300 (c_X8_isSlot _ _ _ _ x1 F hr2) rfl rfl (ws2 := (W_X8_write (eCy E) a_t a_t_slots a_t_slotsE_0 a_t_slotsE_1 a_t_slotsE_2 a_t_slotsE_3 a_t_slotsE_numbers_0 a_t_slotsE_numbers_1 a_t_slotsE_numbers_2 a_t_slotsE_numbers_3 g_t_0 g_t_1 g_t_2 g_t_3 g_t_4 g_t_5 g_t_7 g_t_8 g_t_9 g_t_10 g_t_11 g_t_12 g_t_13 c_slotsE_held c_slotsE_width c_slotsE_size c_slotsE_numbers)) rfl rfl rfl (rest := []) rfl rfl rfl dX8_write_1 ?_
  refine g_if_ne 10 C dX8_write_4 (by decide) h (fun h => ?_) (fun h => ?_)
  · refine g_aload_n 0 C dX8_write_10 rfl rfl ?_
    refine g_get C fg_X8_36 0 rfl rfl dX8_write_11 ?_
    refine g_iload_n 1 C dX8_write_14 rfl rfl ?_
    obtain ⟨hc3, h⟩ := chk_some h
    obtain rfl | rfl | rfl | rfl : x1 = 0 ∨ x1 = 1 ∨ x1 = 2 ∨ x1 = 3 := by omega
    · refine g_aald C 1 (t0 := 5) rfl rfl (by decide) rfl dX8_write_15 ?_
      refine g_astore C hN dX8_write_16 rfl (L' := [some (.ref a_t), some (.int (wI (0))), some (.int (wI x2)), some (.long (wJ x3)), none, some (.ref a_t_slotsE_0)]) rfl ?_
      refine g_aload C dX8_write_18 rfl ?_
      refine g_get C fg_X8_303 2 rfl rfl dX8_write_20 ?_
      refine g_st (st' := [.int (wI (c_slotsE_held (0)))]) rfl ?_
      refine g_if_ne 29 C dX8_write_23 (by decide) h (fun h => ?_) (fun h => ?_)
      · refine g_iload_n 2 C dX8_write_29 rfl rfl ?_
        obtain ⟨hc4, h⟩ := chk_some h
        refine g_i2l C dX8_write_30 hc4 ?_
        refine g_lconst (x := 0) C dX8_write_31 (by decide) ?_
        refine g_aload C dX8_write_32 rfl ?_
        refine g_get C fg_X8_374 2 rfl rfl dX8_write_34 ?_
        refine g_st (st' := [.int (wI (c_slotsE_size (0))), .long (wJ 0), .long (wJ x2)]) rfl ?_
        refine g_iconst C dX8_write_37 ?_
        refine g_isub C dX8_write_38 ?_
        obtain ⟨hc5, h⟩ := chk_some h
        refine g_i2l C dX8_write_39 hc5 ?_
        obtain ⟨r6, hr7, h⟩ := bnd1_some h
        refine g_callSI [] [0, 1, 2, 3, 4, 5, 6, 7, 8, 9] [0, 1, 2, 3, 4, 5, 6, 7, 8, 9] C mt_X8_161 (c_X8_isOut _ _ _ _ x2 0 ((c_slotsE_size (0)) - 1) F hr7) rfl rfl (ws2 := (W_X8_write (eCy E) a_t a_t_slots a_t_slotsE_0 a_t_slotsE_1 a_t_slotsE_2 a_t_slotsE_3 a_t_slotsE_numbers_0 a_t_slotsE_numbers_1 a_t_slotsE_numbers_2 a_t_slotsE_numbers_3 g_t_0 g_t_1 g_t_2 g_t_3 g_t_4 g_t_5 g_t_7 g_t_8 g_t_9 g_t_10 g_t_11 g_t_12 g_t_13 c_slotsE_held c_slotsE_width c_slotsE_size c_slotsE_numbers)) rfl rfl rfl (rest := []) rfl rfl rfl dX8_write_40 ?_
        refine g_if_eq 49 C dX8_write_43 (by decide) h (fun h => ?_) (fun h => ?_)
        · refine g_aload C dX8_write_49 rfl ?_
          refine g_get C fg_X8_463 2 rfl rfl dX8_write_51 ?_
          refine g_iload_n 2 C dX8_write_54 rfl rfl ?_
          refine g_aload C dX8_write_55 rfl ?_
          refine g_lload_n 3 C dX8_write_57 rfl rfl ?_
          obtain ⟨r8, hr9, h⟩ := bnd1_some h
          refine g_callJ [2] [0, 1, 3, 4, 5, 6, 7, 8, 9] [0, 1, 9, 2, 3, 4, 5, 6, 7, 8] C mt_X8_467 (c_X5_cut _ _ _ _ a_t_slotsE_0 (.int (wI (c_slotsE_held 0))) (.int (wI (c_slotsE_size 0))) (.ref a_t_slotsE_numbers_0) x3 (c_slotsE_width (0)) F hr9) (q0 := 0) rfl (ci := 5) rfl rfl rfl (ws2 := (W_X8_write (eCy E) a_t a_t_slots a_t_slotsE_0 a_t_slotsE_1 a_t_slotsE_2 a_t_slotsE_3 a_t_slotsE_numbers_0 a_t_slotsE_numbers_1 a_t_slotsE_numbers_2 a_t_slotsE_numbers_3 g_t_0 g_t_1 g_t_2 g_t_3 g_t_4 g_t_5 g_t_7 g_t_8 g_t_9 g_t_10 g_t_11 g_t_12 g_t_13 c_slotsE_held c_slotsE_width c_slotsE_size c_slotsE_numbers)) rfl rfl rfl (rest := [.int (wI x2), .ref a_t_slotsE_numbers_0]) rfl rfl rfl dX8_write_58 ?_
          obtain ⟨hc10, h⟩ := chk_some h
          refine g_last C 6 rfl hc10 rfl (ws' := (W_X8_write (eCy E) a_t a_t_slots a_t_slotsE_0 a_t_slotsE_1 a_t_slotsE_2 a_t_slotsE_3 a_t_slotsE_numbers_0 a_t_slotsE_numbers_1 a_t_slotsE_numbers_2 a_t_slotsE_numbers_3 g_t_0 g_t_1 g_t_2 g_t_3 g_t_4 g_t_5 g_t_7 g_t_8 g_t_9 g_t_10 g_t_11 g_t_12 g_t_13 c_slotsE_held c_slotsE_width c_slotsE_size (up c_slotsE_numbers (0) (up (c_slotsE_numbers (0)) x2 r8)))) rfl dX8_write_61 ?_
          refine g_iconst C dX8_write_62 ?_
          cases h
          exact hret 63 _ dX8_write_63
        · refine g_bipush C dX8_write_46 (by decide) ?_
          cases h
          exact hret 48 _ dX8_write_48
      · refine g_bipush C dX8_write_26 (by decide) ?_
        cases h
        exact hret 28 _ dX8_write_28
    · refine g_aald C 1 (t0 := 5) rfl rfl (by decide) rfl dX8_write_15 ?_
      refine g_astore C hN dX8_write_16 rfl (L' := [some (.ref a_t), some (.int (wI (1))), some (.int (wI x2)), some (.long (wJ x3)), none, some (.ref a_t_slotsE_1)]) rfl ?_
      refine g_aload C dX8_write_18 rfl ?_
      refine g_get C fg_X8_303 3 rfl rfl dX8_write_20 ?_
      refine g_st (st' := [.int (wI (c_slotsE_held (1)))]) rfl ?_
      refine g_if_ne 29 C dX8_write_23 (by decide) h (fun h => ?_) (fun h => ?_)
      · refine g_iload_n 2 C dX8_write_29 rfl rfl ?_
        obtain ⟨hc4, h⟩ := chk_some h
        refine g_i2l C dX8_write_30 hc4 ?_
        refine g_lconst (x := 0) C dX8_write_31 (by decide) ?_
        refine g_aload C dX8_write_32 rfl ?_
        refine g_get C fg_X8_374 3 rfl rfl dX8_write_34 ?_
        refine g_st (st' := [.int (wI (c_slotsE_size (1))), .long (wJ 0), .long (wJ x2)]) rfl ?_
        refine g_iconst C dX8_write_37 ?_
        refine g_isub C dX8_write_38 ?_
        obtain ⟨hc5, h⟩ := chk_some h
        refine g_i2l C dX8_write_39 hc5 ?_
        obtain ⟨r6, hr7, h⟩ := bnd1_some h
        refine g_callSI [] [0, 1, 2, 3, 4, 5, 6, 7, 8, 9] [0, 1, 2, 3, 4, 5, 6, 7, 8, 9] C mt_X8_161 (c_X8_isOut _ _ _ _ x2 0 ((c_slotsE_size (1)) - 1) F hr7) rfl rfl (ws2 := (W_X8_write (eCy E) a_t a_t_slots a_t_slotsE_0 a_t_slotsE_1 a_t_slotsE_2 a_t_slotsE_3 a_t_slotsE_numbers_0 a_t_slotsE_numbers_1 a_t_slotsE_numbers_2 a_t_slotsE_numbers_3 g_t_0 g_t_1 g_t_2 g_t_3 g_t_4 g_t_5 g_t_7 g_t_8 g_t_9 g_t_10 g_t_11 g_t_12 g_t_13 c_slotsE_held c_slotsE_width c_slotsE_size c_slotsE_numbers)) rfl rfl rfl (rest := []) rfl rfl rfl dX8_write_40 ?_
        refine g_if_eq 49 C dX8_write_43 (by decide) h (fun h => ?_) (fun h => ?_)
        · refine g_aload C dX8_write_49 rfl ?_
          refine g_get C fg_X8_463 3 rfl rfl dX8_write_51 ?_
          refine g_iload_n 2 C dX8_write_54 rfl rfl ?_
          refine g_aload C dX8_write_55 rfl ?_
          refine g_lload_n 3 C dX8_write_57 rfl rfl ?_
          obtain ⟨r8, hr9, h⟩ := bnd1_some h
          refine g_callJ [3] [0, 1, 2, 4, 5, 6, 7, 8, 9] [0, 1, 2, 9, 3, 4, 5, 6, 7, 8] C mt_X8_467 (c_X5_cut _ _ _ _ a_t_slotsE_1 (.int (wI (c_slotsE_held 1))) (.int (wI (c_slotsE_size 1))) (.ref a_t_slotsE_numbers_1) x3 (c_slotsE_width (1)) F hr9) (q0 := 0) rfl (ci := 5) rfl rfl rfl (ws2 := (W_X8_write (eCy E) a_t a_t_slots a_t_slotsE_0 a_t_slotsE_1 a_t_slotsE_2 a_t_slotsE_3 a_t_slotsE_numbers_0 a_t_slotsE_numbers_1 a_t_slotsE_numbers_2 a_t_slotsE_numbers_3 g_t_0 g_t_1 g_t_2 g_t_3 g_t_4 g_t_5 g_t_7 g_t_8 g_t_9 g_t_10 g_t_11 g_t_12 g_t_13 c_slotsE_held c_slotsE_width c_slotsE_size c_slotsE_numbers)) rfl rfl rfl (rest := [.int (wI x2), .ref a_t_slotsE_numbers_1]) rfl rfl rfl dX8_write_58 ?_
          obtain ⟨hc10, h⟩ := chk_some h
          refine g_last C 7 rfl hc10 rfl (ws' := (W_X8_write (eCy E) a_t a_t_slots a_t_slotsE_0 a_t_slotsE_1 a_t_slotsE_2 a_t_slotsE_3 a_t_slotsE_numbers_0 a_t_slotsE_numbers_1 a_t_slotsE_numbers_2 a_t_slotsE_numbers_3 g_t_0 g_t_1 g_t_2 g_t_3 g_t_4 g_t_5 g_t_7 g_t_8 g_t_9 g_t_10 g_t_11 g_t_12 g_t_13 c_slotsE_held c_slotsE_width c_slotsE_size (up c_slotsE_numbers (1) (up (c_slotsE_numbers (1)) x2 r8)))) rfl dX8_write_61 ?_
          refine g_iconst C dX8_write_62 ?_
          cases h
          exact hret 63 _ dX8_write_63
        · refine g_bipush C dX8_write_46 (by decide) ?_
          cases h
          exact hret 48 _ dX8_write_48
      · refine g_bipush C dX8_write_26 (by decide) ?_
        cases h
        exact hret 28 _ dX8_write_28
    · refine g_aald C 1 (t0 := 5) rfl rfl (by decide) rfl dX8_write_15 ?_
      refine g_astore C hN dX8_write_16 rfl (L' := [some (.ref a_t), some (.int (wI (2))), some (.int (wI x2)), some (.long (wJ x3)), none, some (.ref a_t_slotsE_2)]) rfl ?_
      refine g_aload C dX8_write_18 rfl ?_
      refine g_get C fg_X8_303 4 rfl rfl dX8_write_20 ?_
      refine g_st (st' := [.int (wI (c_slotsE_held (2)))]) rfl ?_
      refine g_if_ne 29 C dX8_write_23 (by decide) h (fun h => ?_) (fun h => ?_)
      · refine g_iload_n 2 C dX8_write_29 rfl rfl ?_
        obtain ⟨hc4, h⟩ := chk_some h
        refine g_i2l C dX8_write_30 hc4 ?_
        refine g_lconst (x := 0) C dX8_write_31 (by decide) ?_
        refine g_aload C dX8_write_32 rfl ?_
        refine g_get C fg_X8_374 4 rfl rfl dX8_write_34 ?_
        refine g_st (st' := [.int (wI (c_slotsE_size (2))), .long (wJ 0), .long (wJ x2)]) rfl ?_
        refine g_iconst C dX8_write_37 ?_
        refine g_isub C dX8_write_38 ?_
        obtain ⟨hc5, h⟩ := chk_some h
        refine g_i2l C dX8_write_39 hc5 ?_
        obtain ⟨r6, hr7, h⟩ := bnd1_some h
        refine g_callSI [] [0, 1, 2, 3, 4, 5, 6, 7, 8, 9] [0, 1, 2, 3, 4, 5, 6, 7, 8, 9] C mt_X8_161 (c_X8_isOut _ _ _ _ x2 0 ((c_slotsE_size (2)) - 1) F hr7) rfl rfl (ws2 := (W_X8_write (eCy E) a_t a_t_slots a_t_slotsE_0 a_t_slotsE_1 a_t_slotsE_2 a_t_slotsE_3 a_t_slotsE_numbers_0 a_t_slotsE_numbers_1 a_t_slotsE_numbers_2 a_t_slotsE_numbers_3 g_t_0 g_t_1 g_t_2 g_t_3 g_t_4 g_t_5 g_t_7 g_t_8 g_t_9 g_t_10 g_t_11 g_t_12 g_t_13 c_slotsE_held c_slotsE_width c_slotsE_size c_slotsE_numbers)) rfl rfl rfl (rest := []) rfl rfl rfl dX8_write_40 ?_
        refine g_if_eq 49 C dX8_write_43 (by decide) h (fun h => ?_) (fun h => ?_)
        · refine g_aload C dX8_write_49 rfl ?_
          refine g_get C fg_X8_463 4 rfl rfl dX8_write_51 ?_
          refine g_iload_n 2 C dX8_write_54 rfl rfl ?_
          refine g_aload C dX8_write_55 rfl ?_
          refine g_lload_n 3 C dX8_write_57 rfl rfl ?_
          obtain ⟨r8, hr9, h⟩ := bnd1_some h
          refine g_callJ [4] [0, 1, 2, 3, 5, 6, 7, 8, 9] [0, 1, 2, 3, 9, 4, 5, 6, 7, 8] C mt_X8_467 (c_X5_cut _ _ _ _ a_t_slotsE_2 (.int (wI (c_slotsE_held 2))) (.int (wI (c_slotsE_size 2))) (.ref a_t_slotsE_numbers_2) x3 (c_slotsE_width (2)) F hr9) (q0 := 0) rfl (ci := 5) rfl rfl rfl (ws2 := (W_X8_write (eCy E) a_t a_t_slots a_t_slotsE_0 a_t_slotsE_1 a_t_slotsE_2 a_t_slotsE_3 a_t_slotsE_numbers_0 a_t_slotsE_numbers_1 a_t_slotsE_numbers_2 a_t_slotsE_numbers_3 g_t_0 g_t_1 g_t_2 g_t_3 g_t_4 g_t_5 g_t_7 g_t_8 g_t_9 g_t_10 g_t_11 g_t_12 g_t_13 c_slotsE_held c_slotsE_width c_slotsE_size c_slotsE_numbers)) rfl rfl rfl (rest := [.int (wI x2), .ref a_t_slotsE_numbers_2]) rfl rfl rfl dX8_write_58 ?_
          obtain ⟨hc10, h⟩ := chk_some h
          refine g_last C 8 rfl hc10 rfl (ws' := (W_X8_write (eCy E) a_t a_t_slots a_t_slotsE_0 a_t_slotsE_1 a_t_slotsE_2 a_t_slotsE_3 a_t_slotsE_numbers_0 a_t_slotsE_numbers_1 a_t_slotsE_numbers_2 a_t_slotsE_numbers_3 g_t_0 g_t_1 g_t_2 g_t_3 g_t_4 g_t_5 g_t_7 g_t_8 g_t_9 g_t_10 g_t_11 g_t_12 g_t_13 c_slotsE_held c_slotsE_width c_slotsE_size (up c_slotsE_numbers (2) (up (c_slotsE_numbers (2)) x2 r8)))) rfl dX8_write_61 ?_
          refine g_iconst C dX8_write_62 ?_
          cases h
          exact hret 63 _ dX8_write_63
        · refine g_bipush C dX8_write_46 (by decide) ?_
          cases h
          exact hret 48 _ dX8_write_48
      · refine g_bipush C dX8_write_26 (by decide) ?_
        cases h
        exact hret 28 _ dX8_write_28
    · refine g_aald C 1 (t0 := 5) rfl rfl (by decide) rfl dX8_write_15 ?_
      refine g_astore C hN dX8_write_16 rfl (L' := [some (.ref a_t), some (.int (wI (3))), some (.int (wI x2)), some (.long (wJ x3)), none, some (.ref a_t_slotsE_3)]) rfl ?_
      refine g_aload C dX8_write_18 rfl ?_
      refine g_get C fg_X8_303 5 rfl rfl dX8_write_20 ?_
      refine g_st (st' := [.int (wI (c_slotsE_held (3)))]) rfl ?_
      refine g_if_ne 29 C dX8_write_23 (by decide) h (fun h => ?_) (fun h => ?_)
      · refine g_iload_n 2 C dX8_write_29 rfl rfl ?_
        obtain ⟨hc4, h⟩ := chk_some h
        refine g_i2l C dX8_write_30 hc4 ?_
        refine g_lconst (x := 0) C dX8_write_31 (by decide) ?_
        refine g_aload C dX8_write_32 rfl ?_
        refine g_get C fg_X8_374 5 rfl rfl dX8_write_34 ?_
        refine g_st (st' := [.int (wI (c_slotsE_size (3))), .long (wJ 0), .long (wJ x2)]) rfl ?_
        refine g_iconst C dX8_write_37 ?_
        refine g_isub C dX8_write_38 ?_
        obtain ⟨hc5, h⟩ := chk_some h
        refine g_i2l C dX8_write_39 hc5 ?_
        obtain ⟨r6, hr7, h⟩ := bnd1_some h
        refine g_callSI [] [0, 1, 2, 3, 4, 5, 6, 7, 8, 9] [0, 1, 2, 3, 4, 5, 6, 7, 8, 9] C mt_X8_161 (c_X8_isOut _ _ _ _ x2 0 ((c_slotsE_size (3)) - 1) F hr7) rfl rfl (ws2 := (W_X8_write (eCy E) a_t a_t_slots a_t_slotsE_0 a_t_slotsE_1 a_t_slotsE_2 a_t_slotsE_3 a_t_slotsE_numbers_0 a_t_slotsE_numbers_1 a_t_slotsE_numbers_2 a_t_slotsE_numbers_3 g_t_0 g_t_1 g_t_2 g_t_3 g_t_4 g_t_5 g_t_7 g_t_8 g_t_9 g_t_10 g_t_11 g_t_12 g_t_13 c_slotsE_held c_slotsE_width c_slotsE_size c_slotsE_numbers)) rfl rfl rfl (rest := []) rfl rfl rfl dX8_write_40 ?_
        refine g_if_eq 49 C dX8_write_43 (by decide) h (fun h => ?_) (fun h => ?_)
        · refine g_aload C dX8_write_49 rfl ?_
          refine g_get C fg_X8_463 5 rfl rfl dX8_write_51 ?_
          refine g_iload_n 2 C dX8_write_54 rfl rfl ?_
          refine g_aload C dX8_write_55 rfl ?_
          refine g_lload_n 3 C dX8_write_57 rfl rfl ?_
          obtain ⟨r8, hr9, h⟩ := bnd1_some h
          refine g_callJ [5] [0, 1, 2, 3, 4, 6, 7, 8, 9] [0, 1, 2, 3, 4, 9, 5, 6, 7, 8] C mt_X8_467 (c_X5_cut _ _ _ _ a_t_slotsE_3 (.int (wI (c_slotsE_held 3))) (.int (wI (c_slotsE_size 3))) (.ref a_t_slotsE_numbers_3) x3 (c_slotsE_width (3)) F hr9) (q0 := 0) rfl (ci := 5) rfl rfl rfl (ws2 := (W_X8_write (eCy E) a_t a_t_slots a_t_slotsE_0 a_t_slotsE_1 a_t_slotsE_2 a_t_slotsE_3 a_t_slotsE_numbers_0 a_t_slotsE_numbers_1 a_t_slotsE_numbers_2 a_t_slotsE_numbers_3 g_t_0 g_t_1 g_t_2 g_t_3 g_t_4 g_t_5 g_t_7 g_t_8 g_t_9 g_t_10 g_t_11 g_t_12 g_t_13 c_slotsE_held c_slotsE_width c_slotsE_size c_slotsE_numbers)) rfl rfl rfl (rest := [.int (wI x2), .ref a_t_slotsE_numbers_3]) rfl rfl rfl dX8_write_58 ?_
          obtain ⟨hc10, h⟩ := chk_some h
          refine g_last C 9 rfl hc10 rfl (ws' := (W_X8_write (eCy E) a_t a_t_slots a_t_slotsE_0 a_t_slotsE_1 a_t_slotsE_2 a_t_slotsE_3 a_t_slotsE_numbers_0 a_t_slotsE_numbers_1 a_t_slotsE_numbers_2 a_t_slotsE_numbers_3 g_t_0 g_t_1 g_t_2 g_t_3 g_t_4 g_t_5 g_t_7 g_t_8 g_t_9 g_t_10 g_t_11 g_t_12 g_t_13 c_slotsE_held c_slotsE_width c_slotsE_size (up c_slotsE_numbers (3) (up (c_slotsE_numbers (3)) x2 r8)))) rfl dX8_write_61 ?_
          refine g_iconst C dX8_write_62 ?_
          cases h
          exact hret 63 _ dX8_write_63
        · refine g_bipush C dX8_write_46 (by decide) ?_
          cases h
          exact hret 48 _ dX8_write_48
      · refine g_bipush C dX8_write_26 (by decide) ?_
        cases h
        exact hret 28 _ dX8_write_28
  · refine g_bipush C dX8_write_7 (by decide) ?_
    cases h
    exact hret 9 _ dX8_write_9
end S_X8_write
set_option maxRecDepth 100000 in
set_option maxHeartbeats 4000000 in
theorem c_X8_write (l : Launch) (D : va_G) (cy : Nat → ClassId) (ad : AD) (a_t a_t_slots a_t_slotsE_0 a_t_slotsE_1 a_t_slotsE_2 a_t_slotsE_3 a_t_slotsE_numbers_0 a_t_slotsE_numbers_1 a_t_slotsE_numbers_2 a_t_slotsE_numbers_3 : Nat) (g_t_0 : Value) (g_t_1 : Value) (g_t_2 : Value) (g_t_3 : Value) (g_t_4 : Value) (g_t_5 : Value) (g_t_7 : Value) (g_t_8 : Value) (g_t_9 : Value) (g_t_10 : Value) (g_t_11 : Value) (g_t_12 : Value) (g_t_13 : Value) (x1 : Int) (x2 : Int) (x3 : Int) (c_slotsE_held : Int → Int) (c_slotsE_width : Int → Int) (c_slotsE_size : Int → Int) (c_slotsE_numbers : Int → Int → Int) (F : Nat) {v : Int × (Int → Int → Int)} (h : m_X8_write F x1 x2 x3 c_slotsE_held c_slotsE_width c_slotsE_size c_slotsE_numbers = some v) : Ct l yX8_write cX8_write 6 (some .int) { frames := 2, cells := 0, slots := 0, locals := 45 } D cy ad [.ref a_t, .int (wI x1), .int (wI x2), .long (wJ x3)] (W_X8_write cy a_t a_t_slots a_t_slotsE_0 a_t_slotsE_1 a_t_slotsE_2 a_t_slotsE_3 a_t_slotsE_numbers_0 a_t_slotsE_numbers_1 a_t_slotsE_numbers_2 a_t_slotsE_numbers_3 g_t_0 g_t_1 g_t_2 g_t_3 g_t_4 g_t_5 g_t_7 g_t_8 g_t_9 g_t_10 g_t_11 g_t_12 g_t_13 c_slotsE_held c_slotsE_width c_slotsE_size c_slotsE_numbers) (W_X8_write cy a_t a_t_slots a_t_slotsE_0 a_t_slotsE_1 a_t_slotsE_2 a_t_slotsE_3 a_t_slotsE_numbers_0 a_t_slotsE_numbers_1 a_t_slotsE_numbers_2 a_t_slotsE_numbers_3 g_t_0 g_t_1 g_t_2 g_t_3 g_t_4 g_t_5 g_t_7 g_t_8 g_t_9 g_t_10 g_t_11 g_t_12 g_t_13 c_slotsE_held c_slotsE_width c_slotsE_size (v.2)) (some (.int (wI (v.1)))) := by
  refine Ct.introI (j := 1) (plainFor_of_name (by decide)) rfl rfl (fun E C e1 e2 e3 e4 e5 hret => ?_)
  subst e1; subst e2; subst e3; subst e4
  exact wm_X8_write C e5 h hret
-- MovingStair.paste(IIIII)I
def W_X8_paste (cy : Nat → ClassId) (a_t a_t_slots a_t_slotsE_0 a_t_slotsE_1 a_t_slotsE_2 a_t_slotsE_3 a_t_slotsE_numbers_0 a_t_slotsE_numbers_1 a_t_slotsE_numbers_2 a_t_slotsE_numbers_3 : Nat) (g_t_0 : Value) (g_t_1 : Value) (g_t_2 : Value) (g_t_3 : Value) (g_t_4 : Value) (g_t_5 : Value) (g_t_7 : Value) (g_t_8 : Value) (g_t_9 : Value) (g_t_10 : Value) (g_t_11 : Value) (g_t_12 : Value) (g_t_13 : Value) (c_slotsE_held : Int → Int) (c_slotsE_width : Int → Int) (c_slotsE_size : Int → Int) (c_slotsE_numbers : Int → Int → Int) : va_W := [(a_t, .inr (8, [g_t_0, g_t_1, g_t_2, g_t_3, g_t_4, g_t_5, .ref a_t_slots, g_t_7, g_t_8, g_t_9, g_t_10, g_t_11, g_t_12, g_t_13])), (a_t_slots, .inl (cy 5, 4, .inr (.inr (.inr (.inr (selO [a_t_slotsE_0, a_t_slotsE_1, a_t_slotsE_2, a_t_slotsE_3])))))), (a_t_slotsE_0, .inr (5, [.int (wI (c_slotsE_held 0)), .int (wI (c_slotsE_width 0)), .int (wI (c_slotsE_size 0)), .ref a_t_slotsE_numbers_0])), (a_t_slotsE_1, .inr (5, [.int (wI (c_slotsE_held 1)), .int (wI (c_slotsE_width 1)), .int (wI (c_slotsE_size 1)), .ref a_t_slotsE_numbers_1])), (a_t_slotsE_2, .inr (5, [.int (wI (c_slotsE_held 2)), .int (wI (c_slotsE_width 2)), .int (wI (c_slotsE_size 2)), .ref a_t_slotsE_numbers_2])), (a_t_slotsE_3, .inr (5, [.int (wI (c_slotsE_held 3)), .int (wI (c_slotsE_width 3)), .int (wI (c_slotsE_size 3)), .ref a_t_slotsE_numbers_3])), (a_t_slotsE_numbers_0, .inl (cy 2, 60, .inr (.inl (aJ (c_slotsE_numbers 0))))), (a_t_slotsE_numbers_1, .inl (cy 2, 60, .inr (.inl (aJ (c_slotsE_numbers 1))))), (a_t_slotsE_numbers_2, .inl (cy 2, 60, .inr (.inl (aJ (c_slotsE_numbers 2))))), (a_t_slotsE_numbers_3, .inl (cy 2, 60, .inr (.inl (aJ (c_slotsE_numbers 3)))))]
def m_X8_paste (F : Nat) (x1 : Int) (x2 : Int) (x3 : Int) (x4 : Int) (x5 : Int) (c_slotsE_held : Int → Int) (c_slotsE_width : Int → Int) (c_slotsE_size : Int → Int) (c_slotsE_numbers : Int → Int → Int) : Option (Int × (Int → Int → Int)) :=
  bnd1 (m_X8_isSlot F x1) fun r1 => if wI r1 = wI 0 then
    (some ((-2), c_slotsE_numbers))
  else
    (bnd1 (m_X8_isSlot F x3) fun r3 => if wI r3 = wI 0 then
    (some ((-2), c_slotsE_numbers))
  else
    (chk (0 ≤ x1 ∧ x1 < 4) <| chk (0 ≤ x3 ∧ x3 < 4) <| if wI (c_slotsE_held x1) = wI 0 then
    (some ((-6), c_slotsE_numbers))
  else
    (if wI (c_slotsE_held x3) = wI 0 then
    (some ((-6), c_slotsE_numbers))
  else
    (if wI (c_slotsE_width x1) = wI (c_slotsE_width x3) then
    (if wI x5 < wI 0 then
    (some ((-7), c_slotsE_numbers))
  else
    (chk (r32 x2) <| chk (r32 ((c_slotsE_size x1) - x5)) <| bnd1 (m_X8_isOut F x2 0 ((c_slotsE_size x1) - x5)) fun r7 => if wI r7 = wI 0 then
    (chk (r32 x4) <| chk (r32 ((c_slotsE_size x3) - x5)) <| bnd1 (m_X8_isOut F x4 0 ((c_slotsE_size x3) - x5)) fun r11 => if wI r11 = wI 0 then
    (chk ((0 ≤ x2 ∧ 0 ≤ x4 ∧ 0 ≤ x5) ∧ (x2 + x5 ≤ 60 ∧ x4 + x5 ≤ 60)) <| some (0, up c_slotsE_numbers x3 (cpy (c_slotsE_numbers x1) (c_slotsE_numbers x3) x2 x4 x5)))
  else
    (some ((-7), c_slotsE_numbers)))
  else
    (some ((-7), c_slotsE_numbers))))
  else
    (some ((-8), c_slotsE_numbers))))))
section S_X8_paste
variable {E : EE} {a_t a_t_slots a_t_slotsE_0 a_t_slotsE_1 a_t_slotsE_2 a_t_slotsE_3 a_t_slotsE_numbers_0 a_t_slotsE_numbers_1 a_t_slotsE_numbers_2 a_t_slotsE_numbers_3 : Nat} {g_t_0 : Value} {g_t_1 : Value} {g_t_2 : Value} {g_t_3 : Value} {g_t_4 : Value} {g_t_5 : Value} {g_t_7 : Value} {g_t_8 : Value} {g_t_9 : Value} {g_t_10 : Value} {g_t_11 : Value} {g_t_12 : Value} {g_t_13 : Value}
set_option maxRecDepth 100000 in
set_option maxHeartbeats 4000000 in
theorem wm_X8_paste {F : Nat} {v : Int × (Int → Int → Int)} {x1 : Int} {x2 : Int} {x3 : Int} {x4 : Int} {x5 : Int} {c_slotsE_held : Int → Int} {c_slotsE_width : Int → Int} {c_slotsE_size : Int → Int} {c_slotsE_numbers : Int → Int → Int} (C : Cx E cX8_paste RX8 { frames := 2, cells := 0, slots := 0, locals := 45 }) (hN : eN E = 8) (h : m_X8_paste F x1 x2 x3 x4 x5 c_slotsE_held c_slotsE_width c_slotsE_size c_slotsE_numbers = some v) (hret : ∀ (pc : Nat) (L : List (Option Value)), decode cX8_paste pc = .ok (.ireturn, 1) → GG E 0 0 (W_X8_paste (eCy E) a_t a_t_slots a_t_slotsE_0 a_t_slotsE_1 a_t_slotsE_2 a_t_slotsE_3 a_t_slotsE_numbers_0 a_t_slotsE_numbers_1 a_t_slotsE_numbers_2 a_t_slotsE_numbers_3 g_t_0 g_t_1 g_t_2 g_t_3 g_t_4 g_t_5 g_t_7 g_t_8 g_t_9 g_t_10 g_t_11 g_t_12 g_t_13 c_slotsE_held c_slotsE_width c_slotsE_size (v.2)) L pc [.int (wI (v.1))]) : GG E 0 0 (W_X8_paste (eCy E) a_t a_t_slots a_t_slotsE_0 a_t_slotsE_1 a_t_slotsE_2 a_t_slotsE_3 a_t_slotsE_numbers_0 a_t_slotsE_numbers_1 a_t_slotsE_numbers_2 a_t_slotsE_numbers_3 g_t_0 g_t_1 g_t_2 g_t_3 g_t_4 g_t_5 g_t_7 g_t_8 g_t_9 g_t_10 g_t_11 g_t_12 g_t_13 c_slotsE_held c_slotsE_width c_slotsE_size c_slotsE_numbers) [some (.ref a_t), some (.int (wI x1)), some (.int (wI x2)), some (.int (wI x3)), some (.int (wI x4)), some (.int (wI x5)), none, none] 0 [] := by
  unfold m_X8_paste at h
  refine g_iload_n 1 C dX8_paste_0 rfl rfl ?_
  obtain ⟨r1, hr2, h⟩ := bnd1_some h
  refine g_callSI [] [0, 1, 2, 3, 4, 5, 6, 7, 8, 9] [0, 1, 2, 3, 4, 5, 6, 7, 8, 9] C mt_X8_300 (c_X8_isSlot _ _ _ _ x1 F hr2) rfl rfl (ws2 := (W_X8_paste (eCy E) a_t a_t_slots a_t_slotsE_0 a_t_slotsE_1 a_t_slotsE_2 a_t_slotsE_3 a_t_slotsE_numbers_0 a_t_slotsE_numbers_1 a_t_slotsE_numbers_2 a_t_slotsE_numbers_3 g_t_0 g_t_1 g_t_2 g_t_3 g_t_4 g_t_5 g_t_7 g_t_8 g_t_9 g_t_10 g_t_11 g_t_12 g_t_13 c_slotsE_held c_slotsE_width c_slotsE_size c_slotsE_numbers)) rfl rfl rfl (rest := []) rfl rfl rfl dX8_paste_1 ?_
  refine g_if_eq 14 C dX8_paste_4 (by decide) h (fun h => ?_) (fun h => ?_)
  · refine g_bipush C dX8_paste_14 (by decide) ?_
    cases h
    exact hret 16 _ dX8_paste_16
  · refine g_iload_n 3 C dX8_paste_7 rfl rfl ?_
    obtain ⟨r3, hr4, h⟩ := bnd1_some h
    refine g_callSI [] [0, 1, 2, 3, 4, 5, 6, 7, 8, 9] [0, 1, 2, 3, 4, 5, 6, 7, 8, 9] C mt_X8_300 (c_X8_isSlot _ _ _ _ x3 F hr4) rfl rfl (ws2 := (W_X8_paste (eCy E) a_t a_t_slots a_t_slotsE_0 a_t_slotsE_1 a_t_slotsE_2 a_t_slotsE_3 a_t_slotsE_numbers_0 a_t_slotsE_numbers_1 a_t_slotsE_numbers_2 a_t_slotsE_numbers_3 g_t_0 g_t_1 g_t_2 g_t_3 g_t_4 g_t_5 g_t_7 g_t_8 g_t_9 g_t_10 g_t_11 g_t_12 g_t_13 c_slotsE_held c_slotsE_width c_slotsE_size c_slotsE_numbers)) rfl rfl rfl (rest := []) rfl rfl rfl dX8_paste_8 ?_
    refine g_if_ne 17 C dX8_paste_11 (by decide) h (fun h => ?_) (fun h => ?_)
    · refine g_aload_n 0 C dX8_paste_17 rfl rfl ?_
      refine g_get C fg_X8_36 0 rfl rfl dX8_paste_18 ?_
      refine g_iload_n 1 C dX8_paste_21 rfl rfl ?_
      obtain ⟨hc5, h⟩ := chk_some h
      obtain rfl | rfl | rfl | rfl : x1 = 0 ∨ x1 = 1 ∨ x1 = 2 ∨ x1 = 3 := by omega
      · refine g_aald C 1 (t0 := 5) rfl rfl (by decide) rfl dX8_paste_22 ?_
        refine g_astore C hN dX8_paste_23 rfl (L' := [some (.ref a_t), some (.int (wI (0))), some (.int (wI x2)), some (.int (wI x3)), some (.int (wI x4)), some (.int (wI x5)), some (.ref a_t_slotsE_0), none]) rfl ?_
        refine g_aload_n 0 C dX8_paste_25 rfl rfl ?_
        refine g_get C fg_X8_36 0 rfl rfl dX8_paste_26 ?_
        refine g_iload_n 3 C dX8_paste_29 rfl rfl ?_
        obtain ⟨hc6, h⟩ := chk_some h
        obtain rfl | rfl | rfl | rfl : x3 = 0 ∨ x3 = 1 ∨ x3 = 2 ∨ x3 = 3 := by omega
        · refine g_aald C 1 (t0 := 5) rfl rfl (by decide) rfl dX8_paste_30 ?_
          refine g_astore C hN dX8_paste_31 rfl (L' := [some (.ref a_t), some (.int (wI (0))), some (.int (wI x2)), some (.int (wI (0))), some (.int (wI x4)), some (.int (wI x5)), some (.ref a_t_slotsE_0), some (.ref a_t_slotsE_0)]) rfl ?_
          refine g_aload C dX8_paste_33 rfl ?_
          refine g_get C fg_X8_303 2 rfl rfl dX8_paste_35 ?_
          refine g_st (st' := [.int (wI (c_slotsE_held (0)))]) rfl ?_
          refine g_if_eq 49 C dX8_paste_38 (by decide) h (fun h => ?_) (fun h => ?_)
          · refine g_bipush C dX8_paste_49 (by decide) ?_
            cases h
            exact hret 51 _ dX8_paste_51
          · refine g_aload C dX8_paste_41 rfl ?_
            refine g_get C fg_X8_303 2 rfl rfl dX8_paste_43 ?_
            refine g_st (st' := [.int (wI (c_slotsE_held (0)))]) rfl ?_
            refine g_if_ne 52 C dX8_paste_46 (by decide) h (fun h => ?_) (fun h => ?_)
            · refine g_aload C dX8_paste_52 rfl ?_
              refine g_get C fg_X8_470 2 rfl rfl dX8_paste_54 ?_
              refine g_st (st' := [.int (wI (c_slotsE_width (0)))]) rfl ?_
              refine g_aload C dX8_paste_57 rfl ?_
              refine g_get C fg_X8_470 2 rfl rfl dX8_paste_59 ?_
              refine g_st (st' := [.int (wI (c_slotsE_width (0))), .int (wI (c_slotsE_width (0)))]) rfl ?_
              refine g_icmp_eq 68 C dX8_paste_62 (by decide) h (fun h => ?_) (fun h => ?_)
              · refine g_iload C dX8_paste_68 rfl ?_
                refine g_if_lt 110 C dX8_paste_70 (by decide) h (fun h => ?_) (fun h => ?_)
                · refine g_bipush C dX8_paste_110 (by decide) ?_
                  cases h
                  exact hret 112 _ dX8_paste_112
                · refine g_iload_n 2 C dX8_paste_73 rfl rfl ?_
                  obtain ⟨hc7, h⟩ := chk_some h
                  refine g_i2l C dX8_paste_74 hc7 ?_
                  refine g_lconst (x := 0) C dX8_paste_75 (by decide) ?_
                  refine g_aload C dX8_paste_76 rfl ?_
                  refine g_get C fg_X8_374 2 rfl rfl dX8_paste_78 ?_
                  refine g_st (st' := [.int (wI (c_slotsE_size (0))), .long (wJ 0), .long (wJ x2)]) rfl ?_
                  refine g_iload C dX8_paste_81 rfl ?_
                  refine g_isub C dX8_paste_83 ?_
                  obtain ⟨hc8, h⟩ := chk_some h
                  refine g_i2l C dX8_paste_84 hc8 ?_
                  obtain ⟨r9, hr10, h⟩ := bnd1_some h
                  refine g_callSI [] [0, 1, 2, 3, 4, 5, 6, 7, 8, 9] [0, 1, 2, 3, 4, 5, 6, 7, 8, 9] C mt_X8_161 (c_X8_isOut _ _ _ _ x2 0 ((c_slotsE_size (0)) - x5) F hr10) rfl rfl (ws2 := (W_X8_paste (eCy E) a_t a_t_slots a_t_slotsE_0 a_t_slotsE_1 a_t_slotsE_2 a_t_slotsE_3 a_t_slotsE_numbers_0 a_t_slotsE_numbers_1 a_t_slotsE_numbers_2 a_t_slotsE_numbers_3 g_t_0 g_t_1 g_t_2 g_t_3 g_t_4 g_t_5 g_t_7 g_t_8 g_t_9 g_t_10 g_t_11 g_t_12 g_t_13 c_slotsE_held c_slotsE_width c_slotsE_size c_slotsE_numbers)) rfl rfl rfl (rest := []) rfl rfl rfl dX8_paste_85 ?_
                  refine g_if_ne 110 C dX8_paste_88 (by decide) h (fun h => ?_) (fun h => ?_)
                  · refine g_bipush C dX8_paste_110 (by decide) ?_
                    cases h
                    exact hret 112 _ dX8_paste_112
                  · refine g_iload C dX8_paste_91 rfl ?_
                    obtain ⟨hc11, h⟩ := chk_some h
                    refine g_i2l C dX8_paste_93 hc11 ?_
                    refine g_lconst (x := 0) C dX8_paste_94 (by decide) ?_
                    refine g_aload C dX8_paste_95 rfl ?_
                    refine g_get C fg_X8_374 2 rfl rfl dX8_paste_97 ?_
                    refine g_st (st' := [.int (wI (c_slotsE_size (0))), .long (wJ 0), .long (wJ x4)]) rfl ?_
                    refine g_iload C dX8_paste_100 rfl ?_
                    refine g_isub C dX8_paste_102 ?_
                    obtain ⟨hc12, h⟩ := chk_some h
                    refine g_i2l C dX8_paste_103 hc12 ?_
                    obtain ⟨r13, hr14, h⟩ := bnd1_some h
                    refine g_callSI [] [0, 1, 2, 3, 4, 5, 6, 7, 8, 9] [0, 1, 2, 3, 4, 5, 6, 7, 8, 9] C mt_X8_161 (c_X8_isOut _ _ _ _ x4 0 ((c_slotsE_size (0)) - x5) F hr14) rfl rfl (ws2 := (W_X8_paste (eCy E) a_t a_t_slots a_t_slotsE_0 a_t_slotsE_1 a_t_slotsE_2 a_t_slotsE_3 a_t_slotsE_numbers_0 a_t_slotsE_numbers_1 a_t_slotsE_numbers_2 a_t_slotsE_numbers_3 g_t_0 g_t_1 g_t_2 g_t_3 g_t_4 g_t_5 g_t_7 g_t_8 g_t_9 g_t_10 g_t_11 g_t_12 g_t_13 c_slotsE_held c_slotsE_width c_slotsE_size c_slotsE_numbers)) rfl rfl rfl (rest := []) rfl rfl rfl dX8_paste_104 ?_
                    refine g_if_eq 113 C dX8_paste_107 (by decide) h (fun h => ?_) (fun h => ?_)
                    · refine g_aload C dX8_paste_113 rfl ?_
                      refine g_get C fg_X8_463 2 rfl rfl dX8_paste_115 ?_
                      refine g_iload_n 2 C dX8_paste_118 rfl rfl ?_
                      refine g_aload C dX8_paste_119 rfl ?_
                      refine g_get C fg_X8_463 2 rfl rfl dX8_paste_121 ?_
                      refine g_iload C dX8_paste_124 rfl ?_
                      refine g_iload C dX8_paste_126 rfl ?_
                      obtain ⟨hc15, h⟩ := chk_some h
                      refine g_copyJ C mcp_X8_473 6 6 rfl rfl rfl hc15 (ws' := (W_X8_paste (eCy E) a_t a_t_slots a_t_slotsE_0 a_t_slotsE_1 a_t_slotsE_2 a_t_slotsE_3 a_t_slotsE_numbers_0 a_t_slotsE_numbers_1 a_t_slotsE_numbers_2 a_t_slotsE_numbers_3 g_t_0 g_t_1 g_t_2 g_t_3 g_t_4 g_t_5 g_t_7 g_t_8 g_t_9 g_t_10 g_t_11 g_t_12 g_t_13 c_slotsE_held c_slotsE_width c_slotsE_size (up c_slotsE_numbers (0) (cpy (c_slotsE_numbers (0)) (c_slotsE_numbers (0)) x2 x4 x5)))) rfl rfl dX8_paste_128 ?_
                      refine g_iconst C dX8_paste_131 ?_
                      cases h
                      exact hret 132 _ dX8_paste_132
                    · refine g_bipush C dX8_paste_110 (by decide) ?_
                      cases h
                      exact hret 112 _ dX8_paste_112
              · refine g_bipush C dX8_paste_65 (by decide) ?_
                cases h
                exact hret 67 _ dX8_paste_67
            · refine g_bipush C dX8_paste_49 (by decide) ?_
              cases h
              exact hret 51 _ dX8_paste_51
        · refine g_aald C 1 (t0 := 5) rfl rfl (by decide) rfl dX8_paste_30 ?_
          refine g_astore C hN dX8_paste_31 rfl (L' := [some (.ref a_t), some (.int (wI (0))), some (.int (wI x2)), some (.int (wI (1))), some (.int (wI x4)), some (.int (wI x5)), some (.ref a_t_slotsE_0), some (.ref a_t_slotsE_1)]) rfl ?_
          refine g_aload C dX8_paste_33 rfl ?_
          refine g_get C fg_X8_303 2 rfl rfl dX8_paste_35 ?_
          refine g_st (st' := [.int (wI (c_slotsE_held (0)))]) rfl ?_
          refine g_if_eq 49 C dX8_paste_38 (by decide) h (fun h => ?_) (fun h => ?_)
          · refine g_bipush C dX8_paste_49 (by decide) ?_
            cases h
            exact hret 51 _ dX8_paste_51
          · refine g_aload C dX8_paste_41 rfl ?_
            refine g_get C fg_X8_303 3 rfl rfl dX8_paste_43 ?_
            refine g_st (st' := [.int (wI (c_slotsE_held (1)))]) rfl ?_
            refine g_if_ne 52 C dX8_paste_46 (by decide) h (fun h => ?_) (fun h => ?_)
            · refine g_aload C dX8_paste_52 rfl ?_
              refine g_get C fg_X8_470 2 rfl rfl dX8_paste_54 ?_
              refine g_st (st' := [.int (wI (c_slotsE_width (0)))]) rfl ?_
              refine g_aload C dX8_paste_57 rfl ?_
              refine g_get C fg_X8_470 3 rfl rfl dX8_paste_59 ?_
              refine g_st (st' := [.int (wI (c_slotsE_width (1))), .int (wI (c_slotsE_width (0)))]) rfl ?_
              refine g_icmp_eq 68 C dX8_paste_62 (by decide) h (fun h => ?_) (fun h => ?_)
              · refine g_iload C dX8_paste_68 rfl ?_
                refine g_if_lt 110 C dX8_paste_70 (by decide) h (fun h => ?_) (fun h => ?_)
                · refine g_bipush C dX8_paste_110 (by decide) ?_
                  cases h
                  exact hret 112 _ dX8_paste_112
                · refine g_iload_n 2 C dX8_paste_73 rfl rfl ?_
                  obtain ⟨hc7, h⟩ := chk_some h
                  refine g_i2l C dX8_paste_74 hc7 ?_
                  refine g_lconst (x := 0) C dX8_paste_75 (by decide) ?_
                  refine g_aload C dX8_paste_76 rfl ?_
                  refine g_get C fg_X8_374 2 rfl rfl dX8_paste_78 ?_
                  refine g_st (st' := [.int (wI (c_slotsE_size (0))), .long (wJ 0), .long (wJ x2)]) rfl ?_
                  refine g_iload C dX8_paste_81 rfl ?_
                  refine g_isub C dX8_paste_83 ?_
                  obtain ⟨hc8, h⟩ := chk_some h
                  refine g_i2l C dX8_paste_84 hc8 ?_
                  obtain ⟨r9, hr10, h⟩ := bnd1_some h
                  refine g_callSI [] [0, 1, 2, 3, 4, 5, 6, 7, 8, 9] [0, 1, 2, 3, 4, 5, 6, 7, 8, 9] C mt_X8_161 (c_X8_isOut _ _ _ _ x2 0 ((c_slotsE_size (0)) - x5) F hr10) rfl rfl (ws2 := (W_X8_paste (eCy E) a_t a_t_slots a_t_slotsE_0 a_t_slotsE_1 a_t_slotsE_2 a_t_slotsE_3 a_t_slotsE_numbers_0 a_t_slotsE_numbers_1 a_t_slotsE_numbers_2 a_t_slotsE_numbers_3 g_t_0 g_t_1 g_t_2 g_t_3 g_t_4 g_t_5 g_t_7 g_t_8 g_t_9 g_t_10 g_t_11 g_t_12 g_t_13 c_slotsE_held c_slotsE_width c_slotsE_size c_slotsE_numbers)) rfl rfl rfl (rest := []) rfl rfl rfl dX8_paste_85 ?_
                  refine g_if_ne 110 C dX8_paste_88 (by decide) h (fun h => ?_) (fun h => ?_)
                  · refine g_bipush C dX8_paste_110 (by decide) ?_
                    cases h
                    exact hret 112 _ dX8_paste_112
                  · refine g_iload C dX8_paste_91 rfl ?_
                    obtain ⟨hc11, h⟩ := chk_some h
                    refine g_i2l C dX8_paste_93 hc11 ?_
                    refine g_lconst (x := 0) C dX8_paste_94 (by decide) ?_
                    refine g_aload C dX8_paste_95 rfl ?_
                    refine g_get C fg_X8_374 3 rfl rfl dX8_paste_97 ?_
                    refine g_st (st' := [.int (wI (c_slotsE_size (1))), .long (wJ 0), .long (wJ x4)]) rfl ?_
                    refine g_iload C dX8_paste_100 rfl ?_
                    refine g_isub C dX8_paste_102 ?_
                    obtain ⟨hc12, h⟩ := chk_some h
                    refine g_i2l C dX8_paste_103 hc12 ?_
                    obtain ⟨r13, hr14, h⟩ := bnd1_some h
                    refine g_callSI [] [0, 1, 2, 3, 4, 5, 6, 7, 8, 9] [0, 1, 2, 3, 4, 5, 6, 7, 8, 9] C mt_X8_161 (c_X8_isOut _ _ _ _ x4 0 ((c_slotsE_size (1)) - x5) F hr14) rfl rfl (ws2 := (W_X8_paste (eCy E) a_t a_t_slots a_t_slotsE_0 a_t_slotsE_1 a_t_slotsE_2 a_t_slotsE_3 a_t_slotsE_numbers_0 a_t_slotsE_numbers_1 a_t_slotsE_numbers_2 a_t_slotsE_numbers_3 g_t_0 g_t_1 g_t_2 g_t_3 g_t_4 g_t_5 g_t_7 g_t_8 g_t_9 g_t_10 g_t_11 g_t_12 g_t_13 c_slotsE_held c_slotsE_width c_slotsE_size c_slotsE_numbers)) rfl rfl rfl (rest := []) rfl rfl rfl dX8_paste_104 ?_
                    refine g_if_eq 113 C dX8_paste_107 (by decide) h (fun h => ?_) (fun h => ?_)
                    · refine g_aload C dX8_paste_113 rfl ?_
                      refine g_get C fg_X8_463 2 rfl rfl dX8_paste_115 ?_
                      refine g_iload_n 2 C dX8_paste_118 rfl rfl ?_
                      refine g_aload C dX8_paste_119 rfl ?_
                      refine g_get C fg_X8_463 3 rfl rfl dX8_paste_121 ?_
                      refine g_iload C dX8_paste_124 rfl ?_
                      refine g_iload C dX8_paste_126 rfl ?_
                      obtain ⟨hc15, h⟩ := chk_some h
                      refine g_copyJ C mcp_X8_473 6 7 rfl rfl rfl hc15 (ws' := (W_X8_paste (eCy E) a_t a_t_slots a_t_slotsE_0 a_t_slotsE_1 a_t_slotsE_2 a_t_slotsE_3 a_t_slotsE_numbers_0 a_t_slotsE_numbers_1 a_t_slotsE_numbers_2 a_t_slotsE_numbers_3 g_t_0 g_t_1 g_t_2 g_t_3 g_t_4 g_t_5 g_t_7 g_t_8 g_t_9 g_t_10 g_t_11 g_t_12 g_t_13 c_slotsE_held c_slotsE_width c_slotsE_size (up c_slotsE_numbers (1) (cpy (c_slotsE_numbers (0)) (c_slotsE_numbers (1)) x2 x4 x5)))) rfl rfl dX8_paste_128 ?_
                      refine g_iconst C dX8_paste_131 ?_
                      cases h
                      exact hret 132 _ dX8_paste_132
                    · refine g_bipush C dX8_paste_110 (by decide) ?_
                      cases h
                      exact hret 112 _ dX8_paste_112
              · refine g_bipush C dX8_paste_65 (by decide) ?_
                cases h
                exact hret 67 _ dX8_paste_67
            · refine g_bipush C dX8_paste_49 (by decide) ?_
              cases h
              exact hret 51 _ dX8_paste_51
        · refine g_aald C 1 (t0 := 5) rfl rfl (by decide) rfl dX8_paste_30 ?_
          refine g_astore C hN dX8_paste_31 rfl (L' := [some (.ref a_t), some (.int (wI (0))), some (.int (wI x2)), some (.int (wI (2))), some (.int (wI x4)), some (.int (wI x5)), some (.ref a_t_slotsE_0), some (.ref a_t_slotsE_2)]) rfl ?_
          refine g_aload C dX8_paste_33 rfl ?_
          refine g_get C fg_X8_303 2 rfl rfl dX8_paste_35 ?_
          refine g_st (st' := [.int (wI (c_slotsE_held (0)))]) rfl ?_
          refine g_if_eq 49 C dX8_paste_38 (by decide) h (fun h => ?_) (fun h => ?_)
          · refine g_bipush C dX8_paste_49 (by decide) ?_
            cases h
            exact hret 51 _ dX8_paste_51
          · refine g_aload C dX8_paste_41 rfl ?_
            refine g_get C fg_X8_303 4 rfl rfl dX8_paste_43 ?_
            refine g_st (st' := [.int (wI (c_slotsE_held (2)))]) rfl ?_
            refine g_if_ne 52 C dX8_paste_46 (by decide) h (fun h => ?_) (fun h => ?_)
            · refine g_aload C dX8_paste_52 rfl ?_
              refine g_get C fg_X8_470 2 rfl rfl dX8_paste_54 ?_
              refine g_st (st' := [.int (wI (c_slotsE_width (0)))]) rfl ?_
              refine g_aload C dX8_paste_57 rfl ?_
              refine g_get C fg_X8_470 4 rfl rfl dX8_paste_59 ?_
              refine g_st (st' := [.int (wI (c_slotsE_width (2))), .int (wI (c_slotsE_width (0)))]) rfl ?_
              refine g_icmp_eq 68 C dX8_paste_62 (by decide) h (fun h => ?_) (fun h => ?_)
              · refine g_iload C dX8_paste_68 rfl ?_
                refine g_if_lt 110 C dX8_paste_70 (by decide) h (fun h => ?_) (fun h => ?_)
                · refine g_bipush C dX8_paste_110 (by decide) ?_
                  cases h
                  exact hret 112 _ dX8_paste_112
                · refine g_iload_n 2 C dX8_paste_73 rfl rfl ?_
                  obtain ⟨hc7, h⟩ := chk_some h
                  refine g_i2l C dX8_paste_74 hc7 ?_
                  refine g_lconst (x := 0) C dX8_paste_75 (by decide) ?_
                  refine g_aload C dX8_paste_76 rfl ?_
                  refine g_get C fg_X8_374 2 rfl rfl dX8_paste_78 ?_
                  refine g_st (st' := [.int (wI (c_slotsE_size (0))), .long (wJ 0), .long (wJ x2)]) rfl ?_
                  refine g_iload C dX8_paste_81 rfl ?_
                  refine g_isub C dX8_paste_83 ?_
                  obtain ⟨hc8, h⟩ := chk_some h
                  refine g_i2l C dX8_paste_84 hc8 ?_
                  obtain ⟨r9, hr10, h⟩ := bnd1_some h
                  refine g_callSI [] [0, 1, 2, 3, 4, 5, 6, 7, 8, 9] [0, 1, 2, 3, 4, 5, 6, 7, 8, 9] C mt_X8_161 (c_X8_isOut _ _ _ _ x2 0 ((c_slotsE_size (0)) - x5) F hr10) rfl rfl (ws2 := (W_X8_paste (eCy E) a_t a_t_slots a_t_slotsE_0 a_t_slotsE_1 a_t_slotsE_2 a_t_slotsE_3 a_t_slotsE_numbers_0 a_t_slotsE_numbers_1 a_t_slotsE_numbers_2 a_t_slotsE_numbers_3 g_t_0 g_t_1 g_t_2 g_t_3 g_t_4 g_t_5 g_t_7 g_t_8 g_t_9 g_t_10 g_t_11 g_t_12 g_t_13 c_slotsE_held c_slotsE_width c_slotsE_size c_slotsE_numbers)) rfl rfl rfl (rest := []) rfl rfl rfl dX8_paste_85 ?_
                  refine g_if_ne 110 C dX8_paste_88 (by decide) h (fun h => ?_) (fun h => ?_)
                  · refine g_bipush C dX8_paste_110 (by decide) ?_
                    cases h
                    exact hret 112 _ dX8_paste_112
                  · refine g_iload C dX8_paste_91 rfl ?_
                    obtain ⟨hc11, h⟩ := chk_some h
                    refine g_i2l C dX8_paste_93 hc11 ?_
                    refine g_lconst (x := 0) C dX8_paste_94 (by decide) ?_
                    refine g_aload C dX8_paste_95 rfl ?_
                    refine g_get C fg_X8_374 4 rfl rfl dX8_paste_97 ?_
                    refine g_st (st' := [.int (wI (c_slotsE_size (2))), .long (wJ 0), .long (wJ x4)]) rfl ?_
                    refine g_iload C dX8_paste_100 rfl ?_
                    refine g_isub C dX8_paste_102 ?_
                    obtain ⟨hc12, h⟩ := chk_some h
                    refine g_i2l C dX8_paste_103 hc12 ?_
                    obtain ⟨r13, hr14, h⟩ := bnd1_some h
                    refine g_callSI [] [0, 1, 2, 3, 4, 5, 6, 7, 8, 9] [0, 1, 2, 3, 4, 5, 6, 7, 8, 9] C mt_X8_161 (c_X8_isOut _ _ _ _ x4 0 ((c_slotsE_size (2)) - x5) F hr14) rfl rfl (ws2 := (W_X8_paste (eCy E) a_t a_t_slots a_t_slotsE_0 a_t_slotsE_1 a_t_slotsE_2 a_t_slotsE_3 a_t_slotsE_numbers_0 a_t_slotsE_numbers_1 a_t_slotsE_numbers_2 a_t_slotsE_numbers_3 g_t_0 g_t_1 g_t_2 g_t_3 g_t_4 g_t_5 g_t_7 g_t_8 g_t_9 g_t_10 g_t_11 g_t_12 g_t_13 c_slotsE_held c_slotsE_width c_slotsE_size c_slotsE_numbers)) rfl rfl rfl (rest := []) rfl rfl rfl dX8_paste_104 ?_
                    refine g_if_eq 113 C dX8_paste_107 (by decide) h (fun h => ?_) (fun h => ?_)
                    · refine g_aload C dX8_paste_113 rfl ?_
                      refine g_get C fg_X8_463 2 rfl rfl dX8_paste_115 ?_
                      refine g_iload_n 2 C dX8_paste_118 rfl rfl ?_
                      refine g_aload C dX8_paste_119 rfl ?_
                      refine g_get C fg_X8_463 4 rfl rfl dX8_paste_121 ?_
                      refine g_iload C dX8_paste_124 rfl ?_
                      refine g_iload C dX8_paste_126 rfl ?_
                      obtain ⟨hc15, h⟩ := chk_some h
                      refine g_copyJ C mcp_X8_473 6 8 rfl rfl rfl hc15 (ws' := (W_X8_paste (eCy E) a_t a_t_slots a_t_slotsE_0 a_t_slotsE_1 a_t_slotsE_2 a_t_slotsE_3 a_t_slotsE_numbers_0 a_t_slotsE_numbers_1 a_t_slotsE_numbers_2 a_t_slotsE_numbers_3 g_t_0 g_t_1 g_t_2 g_t_3 g_t_4 g_t_5 g_t_7 g_t_8 g_t_9 g_t_10 g_t_11 g_t_12 g_t_13 c_slotsE_held c_slotsE_width c_slotsE_size (up c_slotsE_numbers (2) (cpy (c_slotsE_numbers (0)) (c_slotsE_numbers (2)) x2 x4 x5)))) rfl rfl dX8_paste_128 ?_
                      refine g_iconst C dX8_paste_131 ?_
                      cases h
                      exact hret 132 _ dX8_paste_132
                    · refine g_bipush C dX8_paste_110 (by decide) ?_
                      cases h
                      exact hret 112 _ dX8_paste_112
              · refine g_bipush C dX8_paste_65 (by decide) ?_
                cases h
                exact hret 67 _ dX8_paste_67
            · refine g_bipush C dX8_paste_49 (by decide) ?_
              cases h
              exact hret 51 _ dX8_paste_51
        · refine g_aald C 1 (t0 := 5) rfl rfl (by decide) rfl dX8_paste_30 ?_
          refine g_astore C hN dX8_paste_31 rfl (L' := [some (.ref a_t), some (.int (wI (0))), some (.int (wI x2)), some (.int (wI (3))), some (.int (wI x4)), some (.int (wI x5)), some (.ref a_t_slotsE_0), some (.ref a_t_slotsE_3)]) rfl ?_
          refine g_aload C dX8_paste_33 rfl ?_
          refine g_get C fg_X8_303 2 rfl rfl dX8_paste_35 ?_
          refine g_st (st' := [.int (wI (c_slotsE_held (0)))]) rfl ?_
          refine g_if_eq 49 C dX8_paste_38 (by decide) h (fun h => ?_) (fun h => ?_)
          · refine g_bipush C dX8_paste_49 (by decide) ?_
            cases h
            exact hret 51 _ dX8_paste_51
          · refine g_aload C dX8_paste_41 rfl ?_
            refine g_get C fg_X8_303 5 rfl rfl dX8_paste_43 ?_
            refine g_st (st' := [.int (wI (c_slotsE_held (3)))]) rfl ?_
            refine g_if_ne 52 C dX8_paste_46 (by decide) h (fun h => ?_) (fun h => ?_)
            · refine g_aload C dX8_paste_52 rfl ?_
              refine g_get C fg_X8_470 2 rfl rfl dX8_paste_54 ?_
              refine g_st (st' := [.int (wI (c_slotsE_width (0)))]) rfl ?_
              refine g_aload C dX8_paste_57 rfl ?_
              refine g_get C fg_X8_470 5 rfl rfl dX8_paste_59 ?_
              refine g_st (st' := [.int (wI (c_slotsE_width (3))), .int (wI (c_slotsE_width (0)))]) rfl ?_
              refine g_icmp_eq 68 C dX8_paste_62 (by decide) h (fun h => ?_) (fun h => ?_)
              · refine g_iload C dX8_paste_68 rfl ?_
                refine g_if_lt 110 C dX8_paste_70 (by decide) h (fun h => ?_) (fun h => ?_)
                · refine g_bipush C dX8_paste_110 (by decide) ?_
                  cases h
                  exact hret 112 _ dX8_paste_112
                · refine g_iload_n 2 C dX8_paste_73 rfl rfl ?_
                  obtain ⟨hc7, h⟩ := chk_some h
                  refine g_i2l C dX8_paste_74 hc7 ?_
                  refine g_lconst (x := 0) C dX8_paste_75 (by decide) ?_
                  refine g_aload C dX8_paste_76 rfl ?_
                  refine g_get C fg_X8_374 2 rfl rfl dX8_paste_78 ?_
                  refine g_st (st' := [.int (wI (c_slotsE_size (0))), .long (wJ 0), .long (wJ x2)]) rfl ?_
                  refine g_iload C dX8_paste_81 rfl ?_
                  refine g_isub C dX8_paste_83 ?_
                  obtain ⟨hc8, h⟩ := chk_some h
                  refine g_i2l C dX8_paste_84 hc8 ?_
                  obtain ⟨r9, hr10, h⟩ := bnd1_some h
                  refine g_callSI [] [0, 1, 2, 3, 4, 5, 6, 7, 8, 9] [0, 1, 2, 3, 4, 5, 6, 7, 8, 9] C mt_X8_161 (c_X8_isOut _ _ _ _ x2 0 ((c_slotsE_size (0)) - x5) F hr10) rfl rfl (ws2 := (W_X8_paste (eCy E) a_t a_t_slots a_t_slotsE_0 a_t_slotsE_1 a_t_slotsE_2 a_t_slotsE_3 a_t_slotsE_numbers_0 a_t_slotsE_numbers_1 a_t_slotsE_numbers_2 a_t_slotsE_numbers_3 g_t_0 g_t_1 g_t_2 g_t_3 g_t_4 g_t_5 g_t_7 g_t_8 g_t_9 g_t_10 g_t_11 g_t_12 g_t_13 c_slotsE_held c_slotsE_width c_slotsE_size c_slotsE_numbers)) rfl rfl rfl (rest := []) rfl rfl rfl dX8_paste_85 ?_
                  refine g_if_ne 110 C dX8_paste_88 (by decide) h (fun h => ?_) (fun h => ?_)
                  · refine g_bipush C dX8_paste_110 (by decide) ?_
                    cases h
                    exact hret 112 _ dX8_paste_112
                  · refine g_iload C dX8_paste_91 rfl ?_
                    obtain ⟨hc11, h⟩ := chk_some h
                    refine g_i2l C dX8_paste_93 hc11 ?_
                    refine g_lconst (x := 0) C dX8_paste_94 (by decide) ?_
                    refine g_aload C dX8_paste_95 rfl ?_
                    refine g_get C fg_X8_374 5 rfl rfl dX8_paste_97 ?_
                    refine g_st (st' := [.int (wI (c_slotsE_size (3))), .long (wJ 0), .long (wJ x4)]) rfl ?_
                    refine g_iload C dX8_paste_100 rfl ?_
                    refine g_isub C dX8_paste_102 ?_
                    obtain ⟨hc12, h⟩ := chk_some h
                    refine g_i2l C dX8_paste_103 hc12 ?_
                    obtain ⟨r13, hr14, h⟩ := bnd1_some h
                    refine g_callSI [] [0, 1, 2, 3, 4, 5, 6, 7, 8, 9] [0, 1, 2, 3, 4, 5, 6, 7, 8, 9] C mt_X8_161 (c_X8_isOut _ _ _ _ x4 0 ((c_slotsE_size (3)) - x5) F hr14) rfl rfl (ws2 := (W_X8_paste (eCy E) a_t a_t_slots a_t_slotsE_0 a_t_slotsE_1 a_t_slotsE_2 a_t_slotsE_3 a_t_slotsE_numbers_0 a_t_slotsE_numbers_1 a_t_slotsE_numbers_2 a_t_slotsE_numbers_3 g_t_0 g_t_1 g_t_2 g_t_3 g_t_4 g_t_5 g_t_7 g_t_8 g_t_9 g_t_10 g_t_11 g_t_12 g_t_13 c_slotsE_held c_slotsE_width c_slotsE_size c_slotsE_numbers)) rfl rfl rfl (rest := []) rfl rfl rfl dX8_paste_104 ?_
                    refine g_if_eq 113 C dX8_paste_107 (by decide) h (fun h => ?_) (fun h => ?_)
                    · refine g_aload C dX8_paste_113 rfl ?_
                      refine g_get C fg_X8_463 2 rfl rfl dX8_paste_115 ?_
                      refine g_iload_n 2 C dX8_paste_118 rfl rfl ?_
                      refine g_aload C dX8_paste_119 rfl ?_
                      refine g_get C fg_X8_463 5 rfl rfl dX8_paste_121 ?_
                      refine g_iload C dX8_paste_124 rfl ?_
                      refine g_iload C dX8_paste_126 rfl ?_
                      obtain ⟨hc15, h⟩ := chk_some h
                      refine g_copyJ C mcp_X8_473 6 9 rfl rfl rfl hc15 (ws' := (W_X8_paste (eCy E) a_t a_t_slots a_t_slotsE_0 a_t_slotsE_1 a_t_slotsE_2 a_t_slotsE_3 a_t_slotsE_numbers_0 a_t_slotsE_numbers_1 a_t_slotsE_numbers_2 a_t_slotsE_numbers_3 g_t_0 g_t_1 g_t_2 g_t_3 g_t_4 g_t_5 g_t_7 g_t_8 g_t_9 g_t_10 g_t_11 g_t_12 g_t_13 c_slotsE_held c_slotsE_width c_slotsE_size (up c_slotsE_numbers (3) (cpy (c_slotsE_numbers (0)) (c_slotsE_numbers (3)) x2 x4 x5)))) rfl rfl dX8_paste_128 ?_
                      refine g_iconst C dX8_paste_131 ?_
                      cases h
                      exact hret 132 _ dX8_paste_132
                    · refine g_bipush C dX8_paste_110 (by decide) ?_
                      cases h
                      exact hret 112 _ dX8_paste_112
              · refine g_bipush C dX8_paste_65 (by decide) ?_
                cases h
                exact hret 67 _ dX8_paste_67
            · refine g_bipush C dX8_paste_49 (by decide) ?_
              cases h
              exact hret 51 _ dX8_paste_51
      · refine g_aald C 1 (t0 := 5) rfl rfl (by decide) rfl dX8_paste_22 ?_
        refine g_astore C hN dX8_paste_23 rfl (L' := [some (.ref a_t), some (.int (wI (1))), some (.int (wI x2)), some (.int (wI x3)), some (.int (wI x4)), some (.int (wI x5)), some (.ref a_t_slotsE_1), none]) rfl ?_
        refine g_aload_n 0 C dX8_paste_25 rfl rfl ?_
        refine g_get C fg_X8_36 0 rfl rfl dX8_paste_26 ?_
        refine g_iload_n 3 C dX8_paste_29 rfl rfl ?_
        obtain ⟨hc6, h⟩ := chk_some h
        obtain rfl | rfl | rfl | rfl : x3 = 0 ∨ x3 = 1 ∨ x3 = 2 ∨ x3 = 3 := by omega
        · refine g_aald C 1 (t0 := 5) rfl rfl (by decide) rfl dX8_paste_30 ?_
          refine g_astore C hN dX8_paste_31 rfl (L' := [some (.ref a_t), some (.int (wI (1))), some (.int (wI x2)), some (.int (wI (0))), some (.int (wI x4)), some (.int (wI x5)), some (.ref a_t_slotsE_1), some (.ref a_t_slotsE_0)]) rfl ?_
          refine g_aload C dX8_paste_33 rfl ?_
          refine g_get C fg_X8_303 3 rfl rfl dX8_paste_35 ?_
          refine g_st (st' := [.int (wI (c_slotsE_held (1)))]) rfl ?_
          refine g_if_eq 49 C dX8_paste_38 (by decide) h (fun h => ?_) (fun h => ?_)
          · refine g_bipush C dX8_paste_49 (by decide) ?_
            cases h
            exact hret 51 _ dX8_paste_51
          · refine g_aload C dX8_paste_41 rfl ?_
            refine g_get C fg_X8_303 2 rfl rfl dX8_paste_43 ?_
            refine g_st (st' := [.int (wI (c_slotsE_held (0)))]) rfl ?_
            refine g_if_ne 52 C dX8_paste_46 (by decide) h (fun h => ?_) (fun h => ?_)
            · refine g_aload C dX8_paste_52 rfl ?_
              refine g_get C fg_X8_470 3 rfl rfl dX8_paste_54 ?_
              refine g_st (st' := [.int (wI (c_slotsE_width (1)))]) rfl ?_
              refine g_aload C dX8_paste_57 rfl ?_
              refine g_get C fg_X8_470 2 rfl rfl dX8_paste_59 ?_
              refine g_st (st' := [.int (wI (c_slotsE_width (0))), .int (wI (c_slotsE_width (1)))]) rfl ?_
              refine g_icmp_eq 68 C dX8_paste_62 (by decide) h (fun h => ?_) (fun h => ?_)
              · refine g_iload C dX8_paste_68 rfl ?_
                refine g_if_lt 110 C dX8_paste_70 (by decide) h (fun h => ?_) (fun h => ?_)
                · refine g_bipush C dX8_paste_110 (by decide) ?_
                  cases h
                  exact hret 112 _ dX8_paste_112
                · refine g_iload_n 2 C dX8_paste_73 rfl rfl ?_
                  obtain ⟨hc7, h⟩ := chk_some h
                  refine g_i2l C dX8_paste_74 hc7 ?_
                  refine g_lconst (x := 0) C dX8_paste_75 (by decide) ?_
                  refine g_aload C dX8_paste_76 rfl ?_
                  refine g_get C fg_X8_374 3 rfl rfl dX8_paste_78 ?_
                  refine g_st (st' := [.int (wI (c_slotsE_size (1))), .long (wJ 0), .long (wJ x2)]) rfl ?_
                  refine g_iload C dX8_paste_81 rfl ?_
                  refine g_isub C dX8_paste_83 ?_
                  obtain ⟨hc8, h⟩ := chk_some h
                  refine g_i2l C dX8_paste_84 hc8 ?_
                  obtain ⟨r9, hr10, h⟩ := bnd1_some h
                  refine g_callSI [] [0, 1, 2, 3, 4, 5, 6, 7, 8, 9] [0, 1, 2, 3, 4, 5, 6, 7, 8, 9] C mt_X8_161 (c_X8_isOut _ _ _ _ x2 0 ((c_slotsE_size (1)) - x5) F hr10) rfl rfl (ws2 := (W_X8_paste (eCy E) a_t a_t_slots a_t_slotsE_0 a_t_slotsE_1 a_t_slotsE_2 a_t_slotsE_3 a_t_slotsE_numbers_0 a_t_slotsE_numbers_1 a_t_slotsE_numbers_2 a_t_slotsE_numbers_3 g_t_0 g_t_1 g_t_2 g_t_3 g_t_4 g_t_5 g_t_7 g_t_8 g_t_9 g_t_10 g_t_11 g_t_12 g_t_13 c_slotsE_held c_slotsE_width c_slotsE_size c_slotsE_numbers)) rfl rfl rfl (rest := []) rfl rfl rfl dX8_paste_85 ?_
                  refine g_if_ne 110 C dX8_paste_88 (by decide) h (fun h => ?_) (fun h => ?_)
                  · refine g_bipush C dX8_paste_110 (by decide) ?_
                    cases h
                    exact hret 112 _ dX8_paste_112
                  · refine g_iload C dX8_paste_91 rfl ?_
                    obtain ⟨hc11, h⟩ := chk_some h
                    refine g_i2l C dX8_paste_93 hc11 ?_
                    refine g_lconst (x := 0) C dX8_paste_94 (by decide) ?_
                    refine g_aload C dX8_paste_95 rfl ?_
                    refine g_get C fg_X8_374 2 rfl rfl dX8_paste_97 ?_
                    refine g_st (st' := [.int (wI (c_slotsE_size (0))), .long (wJ 0), .long (wJ x4)]) rfl ?_
                    refine g_iload C dX8_paste_100 rfl ?_
                    refine g_isub C dX8_paste_102 ?_
                    obtain ⟨hc12, h⟩ := chk_some h
                    refine g_i2l C dX8_paste_103 hc12 ?_
                    obtain ⟨r13, hr14, h⟩ := bnd1_some h
                    refine g_callSI [] [0, 1, 2, 3, 4, 5, 6, 7, 8, 9] [0, 1, 2, 3, 4, 5, 6, 7, 8, 9] C mt_X8_161 (c_X8_isOut _ _ _ _ x4 0 ((c_slotsE_size (0)) - x5) F hr14) rfl rfl (ws2 := (W_X8_paste (eCy E) a_t a_t_slots a_t_slotsE_0 a_t_slotsE_1 a_t_slotsE_2 a_t_slotsE_3 a_t_slotsE_numbers_0 a_t_slotsE_numbers_1 a_t_slotsE_numbers_2 a_t_slotsE_numbers_3 g_t_0 g_t_1 g_t_2 g_t_3 g_t_4 g_t_5 g_t_7 g_t_8 g_t_9 g_t_10 g_t_11 g_t_12 g_t_13 c_slotsE_held c_slotsE_width c_slotsE_size c_slotsE_numbers)) rfl rfl rfl (rest := []) rfl rfl rfl dX8_paste_104 ?_
                    refine g_if_eq 113 C dX8_paste_107 (by decide) h (fun h => ?_) (fun h => ?_)
                    · refine g_aload C dX8_paste_113 rfl ?_
                      refine g_get C fg_X8_463 3 rfl rfl dX8_paste_115 ?_
                      refine g_iload_n 2 C dX8_paste_118 rfl rfl ?_
                      refine g_aload C dX8_paste_119 rfl ?_
                      refine g_get C fg_X8_463 2 rfl rfl dX8_paste_121 ?_
                      refine g_iload C dX8_paste_124 rfl ?_
                      refine g_iload C dX8_paste_126 rfl ?_
                      obtain ⟨hc15, h⟩ := chk_some h
                      refine g_copyJ C mcp_X8_473 7 6 rfl rfl rfl hc15 (ws' := (W_X8_paste (eCy E) a_t a_t_slots a_t_slotsE_0 a_t_slotsE_1 a_t_slotsE_2 a_t_slotsE_3 a_t_slotsE_numbers_0 a_t_slotsE_numbers_1 a_t_slotsE_numbers_2 a_t_slotsE_numbers_3 g_t_0 g_t_1 g_t_2 g_t_3 g_t_4 g_t_5 g_t_7 g_t_8 g_t_9 g_t_10 g_t_11 g_t_12 g_t_13 c_slotsE_held c_slotsE_width c_slotsE_size (up c_slotsE_numbers (0) (cpy (c_slotsE_numbers (1)) (c_slotsE_numbers (0)) x2 x4 x5)))) rfl rfl dX8_paste_128 ?_
                      refine g_iconst C dX8_paste_131 ?_
                      cases h
                      exact hret 132 _ dX8_paste_132
                    · refine g_bipush C dX8_paste_110 (by decide) ?_
                      cases h
                      exact hret 112 _ dX8_paste_112
              · refine g_bipush C dX8_paste_65 (by decide) ?_
                cases h
                exact hret 67 _ dX8_paste_67
            · refine g_bipush C dX8_paste_49 (by decide) ?_
              cases h
              exact hret 51 _ dX8_paste_51
        · refine g_aald C 1 (t0 := 5) rfl rfl (by decide) rfl dX8_paste_30 ?_
          refine g_astore C hN dX8_paste_31 rfl (L' := [some (.ref a_t), some (.int (wI (1))), some (.int (wI x2)), some (.int (wI (1))), some (.int (wI x4)), some (.int (wI x5)), some (.ref a_t_slotsE_1), some (.ref a_t_slotsE_1)]) rfl ?_
          refine g_aload C dX8_paste_33 rfl ?_
          refine g_get C fg_X8_303 3 rfl rfl dX8_paste_35 ?_
          refine g_st (st' := [.int (wI (c_slotsE_held (1)))]) rfl ?_
          refine g_if_eq 49 C dX8_paste_38 (by decide) h (fun h => ?_) (fun h => ?_)
          · refine g_bipush C dX8_paste_49 (by decide) ?_
            cases h
            exact hret 51 _ dX8_paste_51
          · refine g_aload C dX8_paste_41 rfl ?_
            refine g_get C fg_X8_303 3 rfl rfl dX8_paste_43 ?_
            refine g_st (st' := [.int (wI (c_slotsE_held (1)))]) rfl ?_
            refine g_if_ne 52 C dX8_paste_46 (by decide) h (fun h => ?_) (fun h => ?_)
            · refine g_aload C dX8_paste_52 rfl ?_
              refine g_get C fg_X8_470 3 rfl rfl dX8_paste_54 ?_
              refine g_st (st' := [.int (wI (c_slotsE_width (1)))]) rfl ?_
              refine g_aload C dX8_paste_57 rfl ?_
              refine g_get C fg_X8_470 3 rfl rfl dX8_paste_59 ?_
              refine g_st (st' := [.int (wI (c_slotsE_width (1))), .int (wI (c_slotsE_width (1)))]) rfl ?_
              refine g_icmp_eq 68 C dX8_paste_62 (by decide) h (fun h => ?_) (fun h => ?_)
              · refine g_iload C dX8_paste_68 rfl ?_
                refine g_if_lt 110 C dX8_paste_70 (by decide) h (fun h => ?_) (fun h => ?_)
                · refine g_bipush C dX8_paste_110 (by decide) ?_
                  cases h
                  exact hret 112 _ dX8_paste_112
                · refine g_iload_n 2 C dX8_paste_73 rfl rfl ?_
                  obtain ⟨hc7, h⟩ := chk_some h
                  refine g_i2l C dX8_paste_74 hc7 ?_
                  refine g_lconst (x := 0) C dX8_paste_75 (by decide) ?_
                  refine g_aload C dX8_paste_76 rfl ?_
                  refine g_get C fg_X8_374 3 rfl rfl dX8_paste_78 ?_
                  refine g_st (st' := [.int (wI (c_slotsE_size (1))), .long (wJ 0), .long (wJ x2)]) rfl ?_
                  refine g_iload C dX8_paste_81 rfl ?_
                  refine g_isub C dX8_paste_83 ?_
                  obtain ⟨hc8, h⟩ := chk_some h
                  refine g_i2l C dX8_paste_84 hc8 ?_
                  obtain ⟨r9, hr10, h⟩ := bnd1_some h
                  refine g_callSI [] [0, 1, 2, 3, 4, 5, 6, 7, 8, 9] [0, 1, 2, 3, 4, 5, 6, 7, 8, 9] C mt_X8_161 (c_X8_isOut _ _ _ _ x2 0 ((c_slotsE_size (1)) - x5) F hr10) rfl rfl (ws2 := (W_X8_paste (eCy E) a_t a_t_slots a_t_slotsE_0 a_t_slotsE_1 a_t_slotsE_2 a_t_slotsE_3 a_t_slotsE_numbers_0 a_t_slotsE_numbers_1 a_t_slotsE_numbers_2 a_t_slotsE_numbers_3 g_t_0 g_t_1 g_t_2 g_t_3 g_t_4 g_t_5 g_t_7 g_t_8 g_t_9 g_t_10 g_t_11 g_t_12 g_t_13 c_slotsE_held c_slotsE_width c_slotsE_size c_slotsE_numbers)) rfl rfl rfl (rest := []) rfl rfl rfl dX8_paste_85 ?_
                  refine g_if_ne 110 C dX8_paste_88 (by decide) h (fun h => ?_) (fun h => ?_)
                  · refine g_bipush C dX8_paste_110 (by decide) ?_
                    cases h
                    exact hret 112 _ dX8_paste_112
                  · refine g_iload C dX8_paste_91 rfl ?_
                    obtain ⟨hc11, h⟩ := chk_some h
                    refine g_i2l C dX8_paste_93 hc11 ?_
                    refine g_lconst (x := 0) C dX8_paste_94 (by decide) ?_
                    refine g_aload C dX8_paste_95 rfl ?_
                    refine g_get C fg_X8_374 3 rfl rfl dX8_paste_97 ?_
                    refine g_st (st' := [.int (wI (c_slotsE_size (1))), .long (wJ 0), .long (wJ x4)]) rfl ?_
                    refine g_iload C dX8_paste_100 rfl ?_
                    refine g_isub C dX8_paste_102 ?_
                    obtain ⟨hc12, h⟩ := chk_some h
                    refine g_i2l C dX8_paste_103 hc12 ?_
                    obtain ⟨r13, hr14, h⟩ := bnd1_some h
                    refine g_callSI [] [0, 1, 2, 3, 4, 5, 6, 7, 8, 9] [0, 1, 2, 3, 4, 5, 6, 7, 8, 9] C mt_X8_161 (c_X8_isOut _ _ _ _ x4 0 ((c_slotsE_size (1)) - x5) F hr14) rfl rfl (ws2 := (W_X8_paste (eCy E) a_t a_t_slots a_t_slotsE_0 a_t_slotsE_1 a_t_slotsE_2 a_t_slotsE_3 a_t_slotsE_numbers_0 a_t_slotsE_numbers_1 a_t_slotsE_numbers_2 a_t_slotsE_numbers_3 g_t_0 g_t_1 g_t_2 g_t_3 g_t_4 g_t_5 g_t_7 g_t_8 g_t_9 g_t_10 g_t_11 g_t_12 g_t_13 c_slotsE_held c_slotsE_width c_slotsE_size c_slotsE_numbers)) rfl rfl rfl (rest := []) rfl rfl rfl dX8_paste_104 ?_
                    refine g_if_eq 113 C dX8_paste_107 (by decide) h (fun h => ?_) (fun h => ?_)
                    · refine g_aload C dX8_paste_113 rfl ?_
                      refine g_get C fg_X8_463 3 rfl rfl dX8_paste_115 ?_
                      refine g_iload_n 2 C dX8_paste_118 rfl rfl ?_
                      refine g_aload C dX8_paste_119 rfl ?_
                      refine g_get C fg_X8_463 3 rfl rfl dX8_paste_121 ?_
                      refine g_iload C dX8_paste_124 rfl ?_
                      refine g_iload C dX8_paste_126 rfl ?_
                      obtain ⟨hc15, h⟩ := chk_some h
                      refine g_copyJ C mcp_X8_473 7 7 rfl rfl rfl hc15 (ws' := (W_X8_paste (eCy E) a_t a_t_slots a_t_slotsE_0 a_t_slotsE_1 a_t_slotsE_2 a_t_slotsE_3 a_t_slotsE_numbers_0 a_t_slotsE_numbers_1 a_t_slotsE_numbers_2 a_t_slotsE_numbers_3 g_t_0 g_t_1 g_t_2 g_t_3 g_t_4 g_t_5 g_t_7 g_t_8 g_t_9 g_t_10 g_t_11 g_t_12 g_t_13 c_slotsE_held c_slotsE_width c_slotsE_size (up c_slotsE_numbers (1) (cpy (c_slotsE_numbers (1)) (c_slotsE_numbers (1)) x2 x4 x5)))) rfl rfl dX8_paste_128 ?_
                      refine g_iconst C dX8_paste_131 ?_
                      cases h
                      exact hret 132 _ dX8_paste_132
                    · refine g_bipush C dX8_paste_110 (by decide) ?_
                      cases h
                      exact hret 112 _ dX8_paste_112
              · refine g_bipush C dX8_paste_65 (by decide) ?_
                cases h
                exact hret 67 _ dX8_paste_67
            · refine g_bipush C dX8_paste_49 (by decide) ?_
              cases h
              exact hret 51 _ dX8_paste_51
        · refine g_aald C 1 (t0 := 5) rfl rfl (by decide) rfl dX8_paste_30 ?_
          refine g_astore C hN dX8_paste_31 rfl (L' := [some (.ref a_t), some (.int (wI (1))), some (.int (wI x2)), some (.int (wI (2))), some (.int (wI x4)), some (.int (wI x5)), some (.ref a_t_slotsE_1), some (.ref a_t_slotsE_2)]) rfl ?_
          refine g_aload C dX8_paste_33 rfl ?_
          refine g_get C fg_X8_303 3 rfl rfl dX8_paste_35 ?_
          refine g_st (st' := [.int (wI (c_slotsE_held (1)))]) rfl ?_
          refine g_if_eq 49 C dX8_paste_38 (by decide) h (fun h => ?_) (fun h => ?_)
          · refine g_bipush C dX8_paste_49 (by decide) ?_
            cases h
            exact hret 51 _ dX8_paste_51
          · refine g_aload C dX8_paste_41 rfl ?_
            refine g_get C fg_X8_303 4 rfl rfl dX8_paste_43 ?_
            refine g_st (st' := [.int (wI (c_slotsE_held (2)))]) rfl ?_
            refine g_if_ne 52 C dX8_paste_46 (by decide) h (fun h => ?_) (fun h => ?_)
            · refine g_aload C dX8_paste_52 rfl ?_
              refine g_get C fg_X8_470 3 rfl rfl dX8_paste_54 ?_
              refine g_st (st' := [.int (wI (c_slotsE_width (1)))]) rfl ?_
              refine g_aload C dX8_paste_57 rfl ?_
              refine g_get C fg_X8_470 4 rfl rfl dX8_paste_59 ?_
              refine g_st (st' := [.int (wI (c_slotsE_width (2))), .int (wI (c_slotsE_width (1)))]) rfl ?_
              refine g_icmp_eq 68 C dX8_paste_62 (by decide) h (fun h => ?_) (fun h => ?_)
              · refine g_iload C dX8_paste_68 rfl ?_
                refine g_if_lt 110 C dX8_paste_70 (by decide) h (fun h => ?_) (fun h => ?_)
                · refine g_bipush C dX8_paste_110 (by decide) ?_
                  cases h
                  exact hret 112 _ dX8_paste_112
                · refine g_iload_n 2 C dX8_paste_73 rfl rfl ?_
                  obtain ⟨hc7, h⟩ := chk_some h
                  refine g_i2l C dX8_paste_74 hc7 ?_
                  refine g_lconst (x := 0) C dX8_paste_75 (by decide) ?_
                  refine g_aload C dX8_paste_76 rfl ?_
                  refine g_get C fg_X8_374 3 rfl rfl dX8_paste_78 ?_
                  refine g_st (st' := [.int (wI (c_slotsE_size (1))), .long (wJ 0), .long (wJ x2)]) rfl ?_
                  refine g_iload C dX8_paste_81 rfl ?_
                  refine g_isub C dX8_paste_83 ?_
                  obtain ⟨hc8, h⟩ := chk_some h
                  refine g_i2l C dX8_paste_84 hc8 ?_
                  obtain ⟨r9, hr10, h⟩ := bnd1_some h
                  refine g_callSI [] [0, 1, 2, 3, 4, 5, 6, 7, 8, 9] [0, 1, 2, 3, 4, 5, 6, 7, 8, 9] C mt_X8_161 (c_X8_isOut _ _ _ _ x2 0 ((c_slotsE_size (1)) - x5) F hr10) rfl rfl (ws2 := (W_X8_paste (eCy E) a_t a_t_slots a_t_slotsE_0 a_t_slotsE_1 a_t_slotsE_2 a_t_slotsE_3 a_t_slotsE_numbers_0 a_t_slotsE_numbers_1 a_t_slotsE_numbers_2 a_t_slotsE_numbers_3 g_t_0 g_t_1 g_t_2 g_t_3 g_t_4 g_t_5 g_t_7 g_t_8 g_t_9 g_t_10 g_t_11 g_t_12 g_t_13 c_slotsE_held c_slotsE_width c_slotsE_size c_slotsE_numbers)) rfl rfl rfl (rest := []) rfl rfl rfl dX8_paste_85 ?_
                  refine g_if_ne 110 C dX8_paste_88 (by decide) h (fun h => ?_) (fun h => ?_)
                  · refine g_bipush C dX8_paste_110 (by decide) ?_
                    cases h
                    exact hret 112 _ dX8_paste_112
                  · refine g_iload C dX8_paste_91 rfl ?_
                    obtain ⟨hc11, h⟩ := chk_some h
                    refine g_i2l C dX8_paste_93 hc11 ?_
                    refine g_lconst (x := 0) C dX8_paste_94 (by decide) ?_
                    refine g_aload C dX8_paste_95 rfl ?_
                    refine g_get C fg_X8_374 4 rfl rfl dX8_paste_97 ?_
                    refine g_st (st' := [.int (wI (c_slotsE_size (2))), .long (wJ 0), .long (wJ x4)]) rfl ?_
                    refine g_iload C dX8_paste_100 rfl ?_
                    refine g_isub C dX8_paste_102 ?_
                    obtain ⟨hc12, h⟩ := chk_some h
                    refine g_i2l C dX8_paste_103 hc12 ?_
                    obtain ⟨r13, hr14, h⟩ := bnd1_some h
                    refine g_callSI [] [0, 1, 2, 3, 4, 5, 6, 7, 8, 9] [0, 1, 2, 3, 4, 5, 6, 7, 8, 9] C mt_X8_161 (c_X8_isOut _ _ _ _ x4 0 ((c_slotsE_size (2)) - x5) F hr14) rfl rfl (ws2 := (W_X8_paste (eCy E) a_t a_t_slots a_t_slotsE_0 a_t_slotsE_1 a_t_slotsE_2 a_t_slotsE_3 a_t_slotsE_numbers_0 a_t_slotsE_numbers_1 a_t_slotsE_numbers_2 a_t_slotsE_numbers_3 g_t_0 g_t_1 g_t_2 g_t_3 g_t_4 g_t_5 g_t_7 g_t_8 g_t_9 g_t_10 g_t_11 g_t_12 g_t_13 c_slotsE_held c_slotsE_width c_slotsE_size c_slotsE_numbers)) rfl rfl rfl (rest := []) rfl rfl rfl dX8_paste_104 ?_
                    refine g_if_eq 113 C dX8_paste_107 (by decide) h (fun h => ?_) (fun h => ?_)
                    · refine g_aload C dX8_paste_113 rfl ?_
                      refine g_get C fg_X8_463 3 rfl rfl dX8_paste_115 ?_
                      refine g_iload_n 2 C dX8_paste_118 rfl rfl ?_
                      refine g_aload C dX8_paste_119 rfl ?_
                      refine g_get C fg_X8_463 4 rfl rfl dX8_paste_121 ?_
                      refine g_iload C dX8_paste_124 rfl ?_
                      refine g_iload C dX8_paste_126 rfl ?_
                      obtain ⟨hc15, h⟩ := chk_some h
                      refine g_copyJ C mcp_X8_473 7 8 rfl rfl rfl hc15 (ws' := (W_X8_paste (eCy E) a_t a_t_slots a_t_slotsE_0 a_t_slotsE_1 a_t_slotsE_2 a_t_slotsE_3 a_t_slotsE_numbers_0 a_t_slotsE_numbers_1 a_t_slotsE_numbers_2 a_t_slotsE_numbers_3 g_t_0 g_t_1 g_t_2 g_t_3 g_t_4 g_t_5 g_t_7 g_t_8 g_t_9 g_t_10 g_t_11 g_t_12 g_t_13 c_slotsE_held c_slotsE_width c_slotsE_size (up c_slotsE_numbers (2) (cpy (c_slotsE_numbers (1)) (c_slotsE_numbers (2)) x2 x4 x5)))) rfl rfl dX8_paste_128 ?_
                      refine g_iconst C dX8_paste_131 ?_
                      cases h
                      exact hret 132 _ dX8_paste_132
                    · refine g_bipush C dX8_paste_110 (by decide) ?_
                      cases h
                      exact hret 112 _ dX8_paste_112
              · refine g_bipush C dX8_paste_65 (by decide) ?_
                cases h
                exact hret 67 _ dX8_paste_67
            · refine g_bipush C dX8_paste_49 (by decide) ?_
              cases h
              exact hret 51 _ dX8_paste_51
        · refine g_aald C 1 (t0 := 5) rfl rfl (by decide) rfl dX8_paste_30 ?_
          refine g_astore C hN dX8_paste_31 rfl (L' := [some (.ref a_t), some (.int (wI (1))), some (.int (wI x2)), some (.int (wI (3))), some (.int (wI x4)), some (.int (wI x5)), some (.ref a_t_slotsE_1), some (.ref a_t_slotsE_3)]) rfl ?_
          refine g_aload C dX8_paste_33 rfl ?_
          refine g_get C fg_X8_303 3 rfl rfl dX8_paste_35 ?_
          refine g_st (st' := [.int (wI (c_slotsE_held (1)))]) rfl ?_
          refine g_if_eq 49 C dX8_paste_38 (by decide) h (fun h => ?_) (fun h => ?_)
          · refine g_bipush C dX8_paste_49 (by decide) ?_
            cases h
            exact hret 51 _ dX8_paste_51
          · refine g_aload C dX8_paste_41 rfl ?_
            refine g_get C fg_X8_303 5 rfl rfl dX8_paste_43 ?_
            refine g_st (st' := [.int (wI (c_slotsE_held (3)))]) rfl ?_
            refine g_if_ne 52 C dX8_paste_46 (by decide) h (fun h => ?_) (fun h => ?_)
            · refine g_aload C dX8_paste_52 rfl ?_
              refine g_get C fg_X8_470 3 rfl rfl dX8_paste_54 ?_
              refine g_st (st' := [.int (wI (c_slotsE_width (1)))]) rfl ?_
              refine g_aload C dX8_paste_57 rfl ?_
              refine g_get C fg_X8_470 5 rfl rfl dX8_paste_59 ?_
              refine g_st (st' := [.int (wI (c_slotsE_width (3))), .int (wI (c_slotsE_width (1)))]) rfl ?_
              refine g_icmp_eq 68 C dX8_paste_62 (by decide) h (fun h => ?_) (fun h => ?_)
              · refine g_iload C dX8_paste_68 rfl ?_
                refine g_if_lt 110 C dX8_paste_70 (by decide) h (fun h => ?_) (fun h => ?_)
                · refine g_bipush C dX8_paste_110 (by decide) ?_
                  cases h
                  exact hret 112 _ dX8_paste_112
                · refine g_iload_n 2 C dX8_paste_73 rfl rfl ?_
                  obtain ⟨hc7, h⟩ := chk_some h
                  refine g_i2l C dX8_paste_74 hc7 ?_
                  refine g_lconst (x := 0) C dX8_paste_75 (by decide) ?_
                  refine g_aload C dX8_paste_76 rfl ?_
                  refine g_get C fg_X8_374 3 rfl rfl dX8_paste_78 ?_
                  refine g_st (st' := [.int (wI (c_slotsE_size (1))), .long (wJ 0), .long (wJ x2)]) rfl ?_
                  refine g_iload C dX8_paste_81 rfl ?_
                  refine g_isub C dX8_paste_83 ?_
                  obtain ⟨hc8, h⟩ := chk_some h
                  refine g_i2l C dX8_paste_84 hc8 ?_
                  obtain ⟨r9, hr10, h⟩ := bnd1_some h
                  refine g_callSI [] [0, 1, 2, 3, 4, 5, 6, 7, 8, 9] [0, 1, 2, 3, 4, 5, 6, 7, 8, 9] C mt_X8_161 (c_X8_isOut _ _ _ _ x2 0 ((c_slotsE_size (1)) - x5) F hr10) rfl rfl (ws2 := (W_X8_paste (eCy E) a_t a_t_slots a_t_slotsE_0 a_t_slotsE_1 a_t_slotsE_2 a_t_slotsE_3 a_t_slotsE_numbers_0 a_t_slotsE_numbers_1 a_t_slotsE_numbers_2 a_t_slotsE_numbers_3 g_t_0 g_t_1 g_t_2 g_t_3 g_t_4 g_t_5 g_t_7 g_t_8 g_t_9 g_t_10 g_t_11 g_t_12 g_t_13 c_slotsE_held c_slotsE_width c_slotsE_size c_slotsE_numbers)) rfl rfl rfl (rest := []) rfl rfl rfl dX8_paste_85 ?_
                  refine g_if_ne 110 C dX8_paste_88 (by decide) h (fun h => ?_) (fun h => ?_)
                  · refine g_bipush C dX8_paste_110 (by decide) ?_
                    cases h
                    exact hret 112 _ dX8_paste_112
                  · refine g_iload C dX8_paste_91 rfl ?_
                    obtain ⟨hc11, h⟩ := chk_some h
                    refine g_i2l C dX8_paste_93 hc11 ?_
                    refine g_lconst (x := 0) C dX8_paste_94 (by decide) ?_
                    refine g_aload C dX8_paste_95 rfl ?_
                    refine g_get C fg_X8_374 5 rfl rfl dX8_paste_97 ?_
                    refine g_st (st' := [.int (wI (c_slotsE_size (3))), .long (wJ 0), .long (wJ x4)]) rfl ?_
                    refine g_iload C dX8_paste_100 rfl ?_
                    refine g_isub C dX8_paste_102 ?_
                    obtain ⟨hc12, h⟩ := chk_some h
                    refine g_i2l C dX8_paste_103 hc12 ?_
                    obtain ⟨r13, hr14, h⟩ := bnd1_some h
                    refine g_callSI [] [0, 1, 2, 3, 4, 5, 6, 7, 8, 9] [0, 1, 2, 3, 4, 5, 6, 7, 8, 9] C mt_X8_161 (c_X8_isOut _ _ _ _ x4 0 ((c_slotsE_size (3)) - x5) F hr14) rfl rfl (ws2 := (W_X8_paste (eCy E) a_t a_t_slots a_t_slotsE_0 a_t_slotsE_1 a_t_slotsE_2 a_t_slotsE_3 a_t_slotsE_numbers_0 a_t_slotsE_numbers_1 a_t_slotsE_numbers_2 a_t_slotsE_numbers_3 g_t_0 g_t_1 g_t_2 g_t_3 g_t_4 g_t_5 g_t_7 g_t_8 g_t_9 g_t_10 g_t_11 g_t_12 g_t_13 c_slotsE_held c_slotsE_width c_slotsE_size c_slotsE_numbers)) rfl rfl rfl (rest := []) rfl rfl rfl dX8_paste_104 ?_
                    refine g_if_eq 113 C dX8_paste_107 (by decide) h (fun h => ?_) (fun h => ?_)
                    · refine g_aload C dX8_paste_113 rfl ?_
                      refine g_get C fg_X8_463 3 rfl rfl dX8_paste_115 ?_
                      refine g_iload_n 2 C dX8_paste_118 rfl rfl ?_
                      refine g_aload C dX8_paste_119 rfl ?_
                      refine g_get C fg_X8_463 5 rfl rfl dX8_paste_121 ?_
                      refine g_iload C dX8_paste_124 rfl ?_
                      refine g_iload C dX8_paste_126 rfl ?_
                      obtain ⟨hc15, h⟩ := chk_some h
                      refine g_copyJ C mcp_X8_473 7 9 rfl rfl rfl hc15 (ws' := (W_X8_paste (eCy E) a_t a_t_slots a_t_slotsE_0 a_t_slotsE_1 a_t_slotsE_2 a_t_slotsE_3 a_t_slotsE_numbers_0 a_t_slotsE_numbers_1 a_t_slotsE_numbers_2 a_t_slotsE_numbers_3 g_t_0 g_t_1 g_t_2 g_t_3 g_t_4 g_t_5 g_t_7 g_t_8 g_t_9 g_t_10 g_t_11 g_t_12 g_t_13 c_slotsE_held c_slotsE_width c_slotsE_size (up c_slotsE_numbers (3) (cpy (c_slotsE_numbers (1)) (c_slotsE_numbers (3)) x2 x4 x5)))) rfl rfl dX8_paste_128 ?_
                      refine g_iconst C dX8_paste_131 ?_
                      cases h
                      exact hret 132 _ dX8_paste_132
                    · refine g_bipush C dX8_paste_110 (by decide) ?_
                      cases h
                      exact hret 112 _ dX8_paste_112
              · refine g_bipush C dX8_paste_65 (by decide) ?_
                cases h
                exact hret 67 _ dX8_paste_67
            · refine g_bipush C dX8_paste_49 (by decide) ?_
              cases h
              exact hret 51 _ dX8_paste_51
      · refine g_aald C 1 (t0 := 5) rfl rfl (by decide) rfl dX8_paste_22 ?_
        refine g_astore C hN dX8_paste_23 rfl (L' := [some (.ref a_t), some (.int (wI (2))), some (.int (wI x2)), some (.int (wI x3)), some (.int (wI x4)), some (.int (wI x5)), some (.ref a_t_slotsE_2), none]) rfl ?_
        refine g_aload_n 0 C dX8_paste_25 rfl rfl ?_
        refine g_get C fg_X8_36 0 rfl rfl dX8_paste_26 ?_
        refine g_iload_n 3 C dX8_paste_29 rfl rfl ?_
        obtain ⟨hc6, h⟩ := chk_some h
        obtain rfl | rfl | rfl | rfl : x3 = 0 ∨ x3 = 1 ∨ x3 = 2 ∨ x3 = 3 := by omega
        · refine g_aald C 1 (t0 := 5) rfl rfl (by decide) rfl dX8_paste_30 ?_
          refine g_astore C hN dX8_paste_31 rfl (L' := [some (.ref a_t), some (.int (wI (2))), some (.int (wI x2)), some (.int (wI (0))), some (.int (wI x4)), some (.int (wI x5)), some (.ref a_t_slotsE_2), some (.ref a_t_slotsE_0)]) rfl ?_
          refine g_aload C dX8_paste_33 rfl ?_
          refine g_get C fg_X8_303 4 rfl rfl dX8_paste_35 ?_
          refine g_st (st' := [.int (wI (c_slotsE_held (2)))]) rfl ?_
          refine g_if_eq 49 C dX8_paste_38 (by decide) h (fun h => ?_) (fun h => ?_)
          · refine g_bipush C dX8_paste_49 (by decide) ?_
            cases h
            exact hret 51 _ dX8_paste_51
          · refine g_aload C dX8_paste_41 rfl ?_
            refine g_get C fg_X8_303 2 rfl rfl dX8_paste_43 ?_
            refine g_st (st' := [.int (wI (c_slotsE_held (0)))]) rfl ?_
            refine g_if_ne 52 C dX8_paste_46 (by decide) h (fun h => ?_) (fun h => ?_)
            · refine g_aload C dX8_paste_52 rfl ?_
              refine g_get C fg_X8_470 4 rfl rfl dX8_paste_54 ?_
              refine g_st (st' := [.int (wI (c_slotsE_width (2)))]) rfl ?_
              refine g_aload C dX8_paste_57 rfl ?_
              refine g_get C fg_X8_470 2 rfl rfl dX8_paste_59 ?_
              refine g_st (st' := [.int (wI (c_slotsE_width (0))), .int (wI (c_slotsE_width (2)))]) rfl ?_
              refine g_icmp_eq 68 C dX8_paste_62 (by decide) h (fun h => ?_) (fun h => ?_)
              · refine g_iload C dX8_paste_68 rfl ?_
                refine g_if_lt 110 C dX8_paste_70 (by decide) h (fun h => ?_) (fun h => ?_)
                · refine g_bipush C dX8_paste_110 (by decide) ?_
                  cases h
                  exact hret 112 _ dX8_paste_112
                · refine g_iload_n 2 C dX8_paste_73 rfl rfl ?_
                  obtain ⟨hc7, h⟩ := chk_some h
                  refine g_i2l C dX8_paste_74 hc7 ?_
                  refine g_lconst (x := 0) C dX8_paste_75 (by decide) ?_
                  refine g_aload C dX8_paste_76 rfl ?_
                  refine g_get C fg_X8_374 4 rfl rfl dX8_paste_78 ?_
                  refine g_st (st' := [.int (wI (c_slotsE_size (2))), .long (wJ 0), .long (wJ x2)]) rfl ?_
                  refine g_iload C dX8_paste_81 rfl ?_
                  refine g_isub C dX8_paste_83 ?_
                  obtain ⟨hc8, h⟩ := chk_some h
                  refine g_i2l C dX8_paste_84 hc8 ?_
                  obtain ⟨r9, hr10, h⟩ := bnd1_some h
                  refine g_callSI [] [0, 1, 2, 3, 4, 5, 6, 7, 8, 9] [0, 1, 2, 3, 4, 5, 6, 7, 8, 9] C mt_X8_161 (c_X8_isOut _ _ _ _ x2 0 ((c_slotsE_size (2)) - x5) F hr10) rfl rfl (ws2 := (W_X8_paste (eCy E) a_t a_t_slots a_t_slotsE_0 a_t_slotsE_1 a_t_slotsE_2 a_t_slotsE_3 a_t_slotsE_numbers_0 a_t_slotsE_numbers_1 a_t_slotsE_numbers_2 a_t_slotsE_numbers_3 g_t_0 g_t_1 g_t_2 g_t_3 g_t_4 g_t_5 g_t_7 g_t_8 g_t_9 g_t_10 g_t_11 g_t_12 g_t_13 c_slotsE_held c_slotsE_width c_slotsE_size c_slotsE_numbers)) rfl rfl rfl (rest := []) rfl rfl rfl dX8_paste_85 ?_
                  refine g_if_ne 110 C dX8_paste_88 (by decide) h (fun h => ?_) (fun h => ?_)
                  · refine g_bipush C dX8_paste_110 (by decide) ?_
                    cases h
                    exact hret 112 _ dX8_paste_112
                  · refine g_iload C dX8_paste_91 rfl ?_
                    obtain ⟨hc11, h⟩ := chk_some h
                    refine g_i2l C dX8_paste_93 hc11 ?_
                    refine g_lconst (x := 0) C dX8_paste_94 (by decide) ?_
                    refine g_aload C dX8_paste_95 rfl ?_
                    refine g_get C fg_X8_374 2 rfl rfl dX8_paste_97 ?_
                    refine g_st (st' := [.int (wI (c_slotsE_size (0))), .long (wJ 0), .long (wJ x4)]) rfl ?_
                    refine g_iload C dX8_paste_100 rfl ?_
                    refine g_isub C dX8_paste_102 ?_
                    obtain ⟨hc12, h⟩ := chk_some h
                    refine g_i2l C dX8_paste_103 hc12 ?_
                    obtain ⟨r13, hr14, h⟩ := bnd1_some h
                    refine g_callSI [] [0, 1, 2, 3, 4, 5, 6, 7, 8, 9] [0, 1, 2, 3, 4, 5, 6, 7, 8, 9] C mt_X8_161 (c_X8_isOut _ _ _ _ x4 0 ((c_slotsE_size (0)) - x5) F hr14) rfl rfl (ws2 := (W_X8_paste (eCy E) a_t a_t_slots a_t_slotsE_0 a_t_slotsE_1 a_t_slotsE_2 a_t_slotsE_3 a_t_slotsE_numbers_0 a_t_slotsE_numbers_1 a_t_slotsE_numbers_2 a_t_slotsE_numbers_3 g_t_0 g_t_1 g_t_2 g_t_3 g_t_4 g_t_5 g_t_7 g_t_8 g_t_9 g_t_10 g_t_11 g_t_12 g_t_13 c_slotsE_held c_slotsE_width c_slotsE_size c_slotsE_numbers)) rfl rfl rfl (rest := []) rfl rfl rfl dX8_paste_104 ?_
                    refine g_if_eq 113 C dX8_paste_107 (by decide) h (fun h => ?_) (fun h => ?_)
                    · refine g_aload C dX8_paste_113 rfl ?_
                      refine g_get C fg_X8_463 4 rfl rfl dX8_paste_115 ?_
                      refine g_iload_n 2 C dX8_paste_118 rfl rfl ?_
                      refine g_aload C dX8_paste_119 rfl ?_
                      refine g_get C fg_X8_463 2 rfl rfl dX8_paste_121 ?_
                      refine g_iload C dX8_paste_124 rfl ?_
                      refine g_iload C dX8_paste_126 rfl ?_
                      obtain ⟨hc15, h⟩ := chk_some h
                      refine g_copyJ C mcp_X8_473 8 6 rfl rfl rfl hc15 (ws' := (W_X8_paste (eCy E) a_t a_t_slots a_t_slotsE_0 a_t_slotsE_1 a_t_slotsE_2 a_t_slotsE_3 a_t_slotsE_numbers_0 a_t_slotsE_numbers_1 a_t_slotsE_numbers_2 a_t_slotsE_numbers_3 g_t_0 g_t_1 g_t_2 g_t_3 g_t_4 g_t_5 g_t_7 g_t_8 g_t_9 g_t_10 g_t_11 g_t_12 g_t_13 c_slotsE_held c_slotsE_width c_slotsE_size (up c_slotsE_numbers (0) (cpy (c_slotsE_numbers (2)) (c_slotsE_numbers (0)) x2 x4 x5)))) rfl rfl dX8_paste_128 ?_
                      refine g_iconst C dX8_paste_131 ?_
                      cases h
                      exact hret 132 _ dX8_paste_132
                    · refine g_bipush C dX8_paste_110 (by decide) ?_
                      cases h
                      exact hret 112 _ dX8_paste_112
              · refine g_bipush C dX8_paste_65 (by decide) ?_
                cases h
                exact hret 67 _ dX8_paste_67
            · refine g_bipush C dX8_paste_49 (by decide) ?_
              cases h
              exact hret 51 _ dX8_paste_51
        · refine g_aald C 1 (t0 := 5) rfl rfl (by decide) rfl dX8_paste_30 ?_
          refine g_astore C hN dX8_paste_31 rfl (L' := [some (.ref a_t), some (.int (wI (2))), some (.int (wI x2)), some (.int (wI (1))), some (.int (wI x4)), some (.int (wI x5)), some (.ref a_t_slotsE_2), some (.ref a_t_slotsE_1)]) rfl ?_
          refine g_aload C dX8_paste_33 rfl ?_
          refine g_get C fg_X8_303 4 rfl rfl dX8_paste_35 ?_
          refine g_st (st' := [.int (wI (c_slotsE_held (2)))]) rfl ?_
          refine g_if_eq 49 C dX8_paste_38 (by decide) h (fun h => ?_) (fun h => ?_)
          · refine g_bipush C dX8_paste_49 (by decide) ?_
            cases h
            exact hret 51 _ dX8_paste_51
          · refine g_aload C dX8_paste_41 rfl ?_
            refine g_get C fg_X8_303 3 rfl rfl dX8_paste_43 ?_
            refine g_st (st' := [.int (wI (c_slotsE_held (1)))]) rfl ?_
            refine g_if_ne 52 C dX8_paste_46 (by decide) h (fun h => ?_) (fun h => ?_)
            · refine g_aload C dX8_paste_52 rfl ?_
              refine g_get C fg_X8_470 4 rfl rfl dX8_paste_54 ?_
              refine g_st (st' := [.int (wI (c_slotsE_width (2)))]) rfl ?_
              refine g_aload C dX8_paste_57 rfl ?_
              refine g_get C fg_X8_470 3 rfl rfl dX8_paste_59 ?_
              refine g_st (st' := [.int (wI (c_slotsE_width (1))), .int (wI (c_slotsE_width (2)))]) rfl ?_
              refine g_icmp_eq 68 C dX8_paste_62 (by decide) h (fun h => ?_) (fun h => ?_)
              · refine g_iload C dX8_paste_68 rfl ?_
                refine g_if_lt 110 C dX8_paste_70 (by decide) h (fun h => ?_) (fun h => ?_)
                · refine g_bipush C dX8_paste_110 (by decide) ?_
                  cases h
                  exact hret 112 _ dX8_paste_112
                · refine g_iload_n 2 C dX8_paste_73 rfl rfl ?_
                  obtain ⟨hc7, h⟩ := chk_some h
                  refine g_i2l C dX8_paste_74 hc7 ?_
                  refine g_lconst (x := 0) C dX8_paste_75 (by decide) ?_
                  refine g_aload C dX8_paste_76 rfl ?_
                  refine g_get C fg_X8_374 4 rfl rfl dX8_paste_78 ?_
                  refine g_st (st' := [.int (wI (c_slotsE_size (2))), .long (wJ 0), .long (wJ x2)]) rfl ?_
                  refine g_iload C dX8_paste_81 rfl ?_
                  refine g_isub C dX8_paste_83 ?_
                  obtain ⟨hc8, h⟩ := chk_some h
                  refine g_i2l C dX8_paste_84 hc8 ?_
                  obtain ⟨r9, hr10, h⟩ := bnd1_some h
                  refine g_callSI [] [0, 1, 2, 3, 4, 5, 6, 7, 8, 9] [0, 1, 2, 3, 4, 5, 6, 7, 8, 9] C mt_X8_161 (c_X8_isOut _ _ _ _ x2 0 ((c_slotsE_size (2)) - x5) F hr10) rfl rfl (ws2 := (W_X8_paste (eCy E) a_t a_t_slots a_t_slotsE_0 a_t_slotsE_1 a_t_slotsE_2 a_t_slotsE_3 a_t_slotsE_numbers_0 a_t_slotsE_numbers_1 a_t_slotsE_numbers_2 a_t_slotsE_numbers_3 g_t_0 g_t_1 g_t_2 g_t_3 g_t_4 g_t_5 g_t_7 g_t_8 g_t_9 g_t_10 g_t_11 g_t_12 g_t_13 c_slotsE_held c_slotsE_width c_slotsE_size c_slotsE_numbers)) rfl rfl rfl (rest := []) rfl rfl rfl dX8_paste_85 ?_
                  refine g_if_ne 110 C dX8_paste_88 (by decide) h (fun h => ?_) (fun h => ?_)
                  · refine g_bipush C dX8_paste_110 (by decide) ?_
                    cases h
                    exact hret 112 _ dX8_paste_112
                  · refine g_iload C dX8_paste_91 rfl ?_
                    obtain ⟨hc11, h⟩ := chk_some h
                    refine g_i2l C dX8_paste_93 hc11 ?_
                    refine g_lconst (x := 0) C dX8_paste_94 (by decide) ?_
                    refine g_aload C dX8_paste_95 rfl ?_
                    refine g_get C fg_X8_374 3 rfl rfl dX8_paste_97 ?_
                    refine g_st (st' := [.int (wI (c_slotsE_size (1))), .long (wJ 0), .long (wJ x4)]) rfl ?_
                    refine g_iload C dX8_paste_100 rfl ?_
                    refine g_isub C dX8_paste_102 ?_
                    obtain ⟨hc12, h⟩ := chk_some h
                    refine g_i2l C dX8_paste_103 hc12 ?_
                    obtain ⟨r13, hr14, h⟩ := bnd1_some h
                    refine g_callSI [] [0, 1, 2, 3, 4, 5, 6, 7, 8, 9] [0, 1, 2, 3, 4, 5, 6, 7, 8, 9] C mt_X8_161 (c_X8_isOut _ _ _ _ x4 0 ((c_slotsE_size (1)) - x5) F hr14) rfl rfl (ws2 := (W_X8_paste (eCy E) a_t a_t_slots a_t_slotsE_0 a_t_slotsE_1 a_t_slotsE_2 a_t_slotsE_3 a_t_slotsE_numbers_0 a_t_slotsE_numbers_1 a_t_slotsE_numbers_2 a_t_slotsE_numbers_3 g_t_0 g_t_1 g_t_2 g_t_3 g_t_4 g_t_5 g_t_7 g_t_8 g_t_9 g_t_10 g_t_11 g_t_12 g_t_13 c_slotsE_held c_slotsE_width c_slotsE_size c_slotsE_numbers)) rfl rfl rfl (rest := []) rfl rfl rfl dX8_paste_104 ?_
                    refine g_if_eq 113 C dX8_paste_107 (by decide) h (fun h => ?_) (fun h => ?_)
                    · refine g_aload C dX8_paste_113 rfl ?_
                      refine g_get C fg_X8_463 4 rfl rfl dX8_paste_115 ?_
                      refine g_iload_n 2 C dX8_paste_118 rfl rfl ?_
                      refine g_aload C dX8_paste_119 rfl ?_
                      refine g_get C fg_X8_463 3 rfl rfl dX8_paste_121 ?_
                      refine g_iload C dX8_paste_124 rfl ?_
                      refine g_iload C dX8_paste_126 rfl ?_
                      obtain ⟨hc15, h⟩ := chk_some h
                      refine g_copyJ C mcp_X8_473 8 7 rfl rfl rfl hc15 (ws' := (W_X8_paste (eCy E) a_t a_t_slots a_t_slotsE_0 a_t_slotsE_1 a_t_slotsE_2 a_t_slotsE_3 a_t_slotsE_numbers_0 a_t_slotsE_numbers_1 a_t_slotsE_numbers_2 a_t_slotsE_numbers_3 g_t_0 g_t_1 g_t_2 g_t_3 g_t_4 g_t_5 g_t_7 g_t_8 g_t_9 g_t_10 g_t_11 g_t_12 g_t_13 c_slotsE_held c_slotsE_width c_slotsE_size (up c_slotsE_numbers (1) (cpy (c_slotsE_numbers (2)) (c_slotsE_numbers (1)) x2 x4 x5)))) rfl rfl dX8_paste_128 ?_
                      refine g_iconst C dX8_paste_131 ?_
                      cases h
                      exact hret 132 _ dX8_paste_132
                    · refine g_bipush C dX8_paste_110 (by decide) ?_
                      cases h
                      exact hret 112 _ dX8_paste_112
              · refine g_bipush C dX8_paste_65 (by decide) ?_
                cases h
                exact hret 67 _ dX8_paste_67
            · refine g_bipush C dX8_paste_49 (by decide) ?_
              cases h
              exact hret 51 _ dX8_paste_51
        · refine g_aald C 1 (t0 := 5) rfl rfl (by decide) rfl dX8_paste_30 ?_
          refine g_astore C hN dX8_paste_31 rfl (L' := [some (.ref a_t), some (.int (wI (2))), some (.int (wI x2)), some (.int (wI (2))), some (.int (wI x4)), some (.int (wI x5)), some (.ref a_t_slotsE_2), some (.ref a_t_slotsE_2)]) rfl ?_
          refine g_aload C dX8_paste_33 rfl ?_
          refine g_get C fg_X8_303 4 rfl rfl dX8_paste_35 ?_
          refine g_st (st' := [.int (wI (c_slotsE_held (2)))]) rfl ?_
          refine g_if_eq 49 C dX8_paste_38 (by decide) h (fun h => ?_) (fun h => ?_)
          · refine g_bipush C dX8_paste_49 (by decide) ?_
            cases h
            exact hret 51 _ dX8_paste_51
          · refine g_aload C dX8_paste_41 rfl ?_
            refine g_get C fg_X8_303 4 rfl rfl dX8_paste_43 ?_
            refine g_st (st' := [.int (wI (c_slotsE_held (2)))]) rfl ?_
            refine g_if_ne 52 C dX8_paste_46 (by decide) h (fun h => ?_) (fun h => ?_)
            · refine g_aload C dX8_paste_52 rfl ?_
              refine g_get C fg_X8_470 4 rfl rfl dX8_paste_54 ?_
              refine g_st (st' := [.int (wI (c_slotsE_width (2)))]) rfl ?_
              refine g_aload C dX8_paste_57 rfl ?_
              refine g_get C fg_X8_470 4 rfl rfl dX8_paste_59 ?_
              refine g_st (st' := [.int (wI (c_slotsE_width (2))), .int (wI (c_slotsE_width (2)))]) rfl ?_
              refine g_icmp_eq 68 C dX8_paste_62 (by decide) h (fun h => ?_) (fun h => ?_)
              · refine g_iload C dX8_paste_68 rfl ?_
                refine g_if_lt 110 C dX8_paste_70 (by decide) h (fun h => ?_) (fun h => ?_)
                · refine g_bipush C dX8_paste_110 (by decide) ?_
                  cases h
                  exact hret 112 _ dX8_paste_112
                · refine g_iload_n 2 C dX8_paste_73 rfl rfl ?_
                  obtain ⟨hc7, h⟩ := chk_some h
                  refine g_i2l C dX8_paste_74 hc7 ?_
                  refine g_lconst (x := 0) C dX8_paste_75 (by decide) ?_
                  refine g_aload C dX8_paste_76 rfl ?_
                  refine g_get C fg_X8_374 4 rfl rfl dX8_paste_78 ?_
                  refine g_st (st' := [.int (wI (c_slotsE_size (2))), .long (wJ 0), .long (wJ x2)]) rfl ?_
                  refine g_iload C dX8_paste_81 rfl ?_
                  refine g_isub C dX8_paste_83 ?_
                  obtain ⟨hc8, h⟩ := chk_some h
                  refine g_i2l C dX8_paste_84 hc8 ?_
                  obtain ⟨r9, hr10, h⟩ := bnd1_some h
                  refine g_callSI [] [0, 1, 2, 3, 4, 5, 6, 7, 8, 9] [0, 1, 2, 3, 4, 5, 6, 7, 8, 9] C mt_X8_161 (c_X8_isOut _ _ _ _ x2 0 ((c_slotsE_size (2)) - x5) F hr10) rfl rfl (ws2 := (W_X8_paste (eCy E) a_t a_t_slots a_t_slotsE_0 a_t_slotsE_1 a_t_slotsE_2 a_t_slotsE_3 a_t_slotsE_numbers_0 a_t_slotsE_numbers_1 a_t_slotsE_numbers_2 a_t_slotsE_numbers_3 g_t_0 g_t_1 g_t_2 g_t_3 g_t_4 g_t_5 g_t_7 g_t_8 g_t_9 g_t_10 g_t_11 g_t_12 g_t_13 c_slotsE_held c_slotsE_width c_slotsE_size c_slotsE_numbers)) rfl rfl rfl (rest := []) rfl rfl rfl dX8_paste_85 ?_
                  refine g_if_ne 110 C dX8_paste_88 (by decide) h (fun h => ?_) (fun h => ?_)
                  · refine g_bipush C dX8_paste_110 (by decide) ?_
                    cases h
                    exact hret 112 _ dX8_paste_112
                  · refine g_iload C dX8_paste_91 rfl ?_
                    obtain ⟨hc11, h⟩ := chk_some h
                    refine g_i2l C dX8_paste_93 hc11 ?_
                    refine g_lconst (x := 0) C dX8_paste_94 (by decide) ?_
                    refine g_aload C dX8_paste_95 rfl ?_
                    refine g_get C fg_X8_374 4 rfl rfl dX8_paste_97 ?_
                    refine g_st (st' := [.int (wI (c_slotsE_size (2))), .long (wJ 0), .long (wJ x4)]) rfl ?_
                    refine g_iload C dX8_paste_100 rfl ?_
                    refine g_isub C dX8_paste_102 ?_
                    obtain ⟨hc12, h⟩ := chk_some h
                    refine g_i2l C dX8_paste_103 hc12 ?_
                    obtain ⟨r13, hr14, h⟩ := bnd1_some h
                    refine g_callSI [] [0, 1, 2, 3, 4, 5, 6, 7, 8, 9] [0, 1, 2, 3, 4, 5, 6, 7, 8, 9] C mt_X8_161 (c_X8_isOut _ _ _ _ x4 0 ((c_slotsE_size (2)) - x5) F hr14) rfl rfl (ws2 := (W_X8_paste (eCy E) a_t a_t_slots a_t_slotsE_0 a_t_slotsE_1 a_t_slotsE_2 a_t_slotsE_3 a_t_slotsE_numbers_0 a_t_slotsE_numbers_1 a_t_slotsE_numbers_2 a_t_slotsE_numbers_3 g_t_0 g_t_1 g_t_2 g_t_3 g_t_4 g_t_5 g_t_7 g_t_8 g_t_9 g_t_10 g_t_11 g_t_12 g_t_13 c_slotsE_held c_slotsE_width c_slotsE_size c_slotsE_numbers)) rfl rfl rfl (rest := []) rfl rfl rfl dX8_paste_104 ?_
                    refine g_if_eq 113 C dX8_paste_107 (by decide) h (fun h => ?_) (fun h => ?_)
                    · refine g_aload C dX8_paste_113 rfl ?_
                      refine g_get C fg_X8_463 4 rfl rfl dX8_paste_115 ?_
                      refine g_iload_n 2 C dX8_paste_118 rfl rfl ?_
                      refine g_aload C dX8_paste_119 rfl ?_
                      refine g_get C fg_X8_463 4 rfl rfl dX8_paste_121 ?_
                      refine g_iload C dX8_paste_124 rfl ?_
                      refine g_iload C dX8_paste_126 rfl ?_
                      obtain ⟨hc15, h⟩ := chk_some h
                      refine g_copyJ C mcp_X8_473 8 8 rfl rfl rfl hc15 (ws' := (W_X8_paste (eCy E) a_t a_t_slots a_t_slotsE_0 a_t_slotsE_1 a_t_slotsE_2 a_t_slotsE_3 a_t_slotsE_numbers_0 a_t_slotsE_numbers_1 a_t_slotsE_numbers_2 a_t_slotsE_numbers_3 g_t_0 g_t_1 g_t_2 g_t_3 g_t_4 g_t_5 g_t_7 g_t_8 g_t_9 g_t_10 g_t_11 g_t_12 g_t_13 c_slotsE_held c_slotsE_width c_slotsE_size (up c_slotsE_numbers (2) (cpy (c_slotsE_numbers (2)) (c_slotsE_numbers (2)) x2 x4 x5)))) rfl rfl dX8_paste_128 ?_
                      refine g_iconst C dX8_paste_131 ?_
                      cases h
                      exact hret 132 _ dX8_paste_132
                    · refine g_bipush C dX8_paste_110 (by decide) ?_
                      cases h
                      exact hret 112 _ dX8_paste_112
              · refine g_bipush C dX8_paste_65 (by decide) ?_
                cases h
                exact hret 67 _ dX8_paste_67
            · refine g_bipush C dX8_paste_49 (by decide) ?_
              cases h
              exact hret 51 _ dX8_paste_51
        · refine g_aald C 1 (t0 := 5) rfl rfl (by decide) rfl dX8_paste_30 ?_
          refine g_astore C hN dX8_paste_31 rfl (L' := [some (.ref a_t), some (.int (wI (2))), some (.int (wI x2)), some (.int (wI (3))), some (.int (wI x4)), some (.int (wI x5)), some (.ref a_t_slotsE_2), some (.ref a_t_slotsE_3)]) rfl ?_
          refine g_aload C dX8_paste_33 rfl ?_
          refine g_get C fg_X8_303 4 rfl rfl dX8_paste_35 ?_
          refine g_st (st' := [.int (wI (c_slotsE_held (2)))]) rfl ?_
          refine g_if_eq 49 C dX8_paste_38 (by decide) h (fun h => ?_) (fun h => ?_)
          · refine g_bipush C dX8_paste_49 (by decide) ?_
            cases h
            exact hret 51 _ dX8_paste_51
          · refine g_aload C dX8_paste_41 rfl ?_
            refine g_get C fg_X8_303 5 rfl rfl dX8_paste_43 ?_
            refine g_st (st' := [.int (wI (c_slotsE_held (3)))]) rfl ?_
            refine g_if_ne 52 C dX8_paste_46 (by decide) h (fun h => ?_) (fun h => ?_)
            · refine g_aload C dX8_paste_52 rfl ?_
              refine g_get C fg_X8_470 4 rfl rfl dX8_paste_54 ?_
              refine g_st (st' := [.int (wI (c_slotsE_width (2)))]) rfl ?_
              refine g_aload C dX8_paste_57 rfl ?_
              refine g_get C fg_X8_470 5 rfl rfl dX8_paste_59 ?_
              refine g_st (st' := [.int (wI (c_slotsE_width (3))), .int (wI (c_slotsE_width (2)))]) rfl ?_
              refine g_icmp_eq 68 C dX8_paste_62 (by decide) h (fun h => ?_) (fun h => ?_)
              · refine g_iload C dX8_paste_68 rfl ?_
                refine g_if_lt 110 C dX8_paste_70 (by decide) h (fun h => ?_) (fun h => ?_)
                · refine g_bipush C dX8_paste_110 (by decide) ?_
                  cases h
                  exact hret 112 _ dX8_paste_112
                · refine g_iload_n 2 C dX8_paste_73 rfl rfl ?_
                  obtain ⟨hc7, h⟩ := chk_some h
                  refine g_i2l C dX8_paste_74 hc7 ?_
                  refine g_lconst (x := 0) C dX8_paste_75 (by decide) ?_
                  refine g_aload C dX8_paste_76 rfl ?_
                  refine g_get C fg_X8_374 4 rfl rfl dX8_paste_78 ?_
                  refine g_st (st' := [.int (wI (c_slotsE_size (2))), .long (wJ 0), .long (wJ x2)]) rfl ?_
                  refine g_iload C dX8_paste_81 rfl ?_
                  refine g_isub C dX8_paste_83 ?_
                  obtain ⟨hc8, h⟩ := chk_some h
                  refine g_i2l C dX8_paste_84 hc8 ?_
                  obtain ⟨r9, hr10, h⟩ := bnd1_some h
                  refine g_callSI [] [0, 1, 2, 3, 4, 5, 6, 7, 8, 9] [0, 1, 2, 3, 4, 5, 6, 7, 8, 9] C mt_X8_161 (c_X8_isOut _ _ _ _ x2 0 ((c_slotsE_size (2)) - x5) F hr10) rfl rfl (ws2 := (W_X8_paste (eCy E) a_t a_t_slots a_t_slotsE_0 a_t_slotsE_1 a_t_slotsE_2 a_t_slotsE_3 a_t_slotsE_numbers_0 a_t_slotsE_numbers_1 a_t_slotsE_numbers_2 a_t_slotsE_numbers_3 g_t_0 g_t_1 g_t_2 g_t_3 g_t_4 g_t_5 g_t_7 g_t_8 g_t_9 g_t_10 g_t_11 g_t_12 g_t_13 c_slotsE_held c_slotsE_width c_slotsE_size c_slotsE_numbers)) rfl rfl rfl (rest := []) rfl rfl rfl dX8_paste_85 ?_
                  refine g_if_ne 110 C dX8_paste_88 (by decide) h (fun h => ?_) (fun h => ?_)
                  · refine g_bipush C dX8_paste_110 (by decide) ?_
                    cases h
                    exact hret 112 _ dX8_paste_112
                  · refine g_iload C dX8_paste_91 rfl ?_
                    obtain ⟨hc11, h⟩ := chk_some h
                    refine g_i2l C dX8_paste_93 hc11 ?_
                    refine g_lconst (x := 0) C dX8_paste_94 (by decide) ?_
                    refine g_aload C dX8_paste_95 rfl ?_
                    refine g_get C fg_X8_374 5 rfl rfl dX8_paste_97 ?_
                    refine g_st (st' := [.int (wI (c_slotsE_size (3))), .long (wJ 0), .long (wJ x4)]) rfl ?_
                    refine g_iload C dX8_paste_100 rfl ?_
                    refine g_isub C dX8_paste_102 ?_
                    obtain ⟨hc12, h⟩ := chk_some h
                    refine g_i2l C dX8_paste_103 hc12 ?_
                    obtain ⟨r13, hr14, h⟩ := bnd1_some h
                    refine g_callSI [] [0, 1, 2, 3, 4, 5, 6, 7, 8, 9] [0, 1, 2, 3, 4, 5, 6, 7, 8, 9] C mt_X8_161 (c_X8_isOut _ _ _ _ x4 0 ((c_slotsE_size (3)) - x5) F hr14) rfl rfl (ws2 := (W_X8_paste (eCy E) a_t a_t_slots a_t_slotsE_0 a_t_slotsE_1 a_t_slotsE_2 a_t_slotsE_3 a_t_slotsE_numbers_0 a_t_slotsE_numbers_1 a_t_slotsE_numbers_2 a_t_slotsE_numbers_3 g_t_0 g_t_1 g_t_2 g_t_3 g_t_4 g_t_5 g_t_7 g_t_8 g_t_9 g_t_10 g_t_11 g_t_12 g_t_13 c_slotsE_held c_slotsE_width c_slotsE_size c_slotsE_numbers)) rfl rfl rfl (rest := []) rfl rfl rfl dX8_paste_104 ?_
                    refine g_if_eq 113 C dX8_paste_107 (by decide) h (fun h => ?_) (fun h => ?_)
                    · refine g_aload C dX8_paste_113 rfl ?_
                      refine g_get C fg_X8_463 4 rfl rfl dX8_paste_115 ?_
                      refine g_iload_n 2 C dX8_paste_118 rfl rfl ?_
                      refine g_aload C dX8_paste_119 rfl ?_
                      refine g_get C fg_X8_463 5 rfl rfl dX8_paste_121 ?_
                      refine g_iload C dX8_paste_124 rfl ?_
                      refine g_iload C dX8_paste_126 rfl ?_
                      obtain ⟨hc15, h⟩ := chk_some h
                      refine g_copyJ C mcp_X8_473 8 9 rfl rfl rfl hc15 (ws' := (W_X8_paste (eCy E) a_t a_t_slots a_t_slotsE_0 a_t_slotsE_1 a_t_slotsE_2 a_t_slotsE_3 a_t_slotsE_numbers_0 a_t_slotsE_numbers_1 a_t_slotsE_numbers_2 a_t_slotsE_numbers_3 g_t_0 g_t_1 g_t_2 g_t_3 g_t_4 g_t_5 g_t_7 g_t_8 g_t_9 g_t_10 g_t_11 g_t_12 g_t_13 c_slotsE_held c_slotsE_width c_slotsE_size (up c_slotsE_numbers (3) (cpy (c_slotsE_numbers (2)) (c_slotsE_numbers (3)) x2 x4 x5)))) rfl rfl dX8_paste_128 ?_
                      refine g_iconst C dX8_paste_131 ?_
                      cases h
                      exact hret 132 _ dX8_paste_132
                    · refine g_bipush C dX8_paste_110 (by decide) ?_
                      cases h
                      exact hret 112 _ dX8_paste_112
              · refine g_bipush C dX8_paste_65 (by decide) ?_
                cases h
                exact hret 67 _ dX8_paste_67
            · refine g_bipush C dX8_paste_49 (by decide) ?_
              cases h
              exact hret 51 _ dX8_paste_51
      · refine g_aald C 1 (t0 := 5) rfl rfl (by decide) rfl dX8_paste_22 ?_
        refine g_astore C hN dX8_paste_23 rfl (L' := [some (.ref a_t), some (.int (wI (3))), some (.int (wI x2)), some (.int (wI x3)), some (.int (wI x4)), some (.int (wI x5)), some (.ref a_t_slotsE_3), none]) rfl ?_
        refine g_aload_n 0 C dX8_paste_25 rfl rfl ?_
        refine g_get C fg_X8_36 0 rfl rfl dX8_paste_26 ?_
        refine g_iload_n 3 C dX8_paste_29 rfl rfl ?_
        obtain ⟨hc6, h⟩ := chk_some h
        obtain rfl | rfl | rfl | rfl : x3 = 0 ∨ x3 = 1 ∨ x3 = 2 ∨ x3 = 3 := by omega
        · refine g_aald C 1 (t0 := 5) rfl rfl (by decide) rfl dX8_paste_30 ?_
          refine g_astore C hN dX8_paste_31 rfl (L' := [some (.ref a_t), some (.int (wI (3))), some (.int (wI x2)), some (.int (wI (0))), some (.int (wI x4)), some (.int (wI x5)), some (.ref a_t_slotsE_3), some (.ref a_t_slotsE_0)]) rfl ?_
          refine g_aload C dX8_paste_33 rfl ?_
          refine g_get C fg_X8_303 5 rfl rfl dX8_paste_35 ?_
          refine g_st (st' := [.int (wI (c_slotsE_held (3)))]) rfl ?_
          refine g_if_eq 49 C dX8_paste_38 (by decide) h (fun h => ?_) (fun h => ?_)
          · refine g_bipush C dX8_paste_49 (by decide) ?_
            cases h
            exact hret 51 _ dX8_paste_51
          · refine g_aload C dX8_paste_41 rfl ?_
            refine g_get C fg_X8_303 2 rfl rfl dX8_paste_43 ?_
            refine g_st (st' := [.int (wI (c_slotsE_held (0)))]) rfl ?_
            refine g_if_ne 52 C dX8_paste_46 (by decide) h (fun h => ?_) (fun h => ?_)
            · refine g_aload C dX8_paste_52 rfl ?_
              refine g_get C fg_X8_470 5 rfl rfl dX8_paste_54 ?_
              refine g_st (st' := [.int (wI (c_slotsE_width (3)))]) rfl ?_
              refine g_aload C dX8_paste_57 rfl ?_
              refine g_get C fg_X8_470 2 rfl rfl dX8_paste_59 ?_
              refine g_st (st' := [.int (wI (c_slotsE_width (0))), .int (wI (c_slotsE_width (3)))]) rfl ?_
              refine g_icmp_eq 68 C dX8_paste_62 (by decide) h (fun h => ?_) (fun h => ?_)
              · refine g_iload C dX8_paste_68 rfl ?_
                refine g_if_lt 110 C dX8_paste_70 (by decide) h (fun h => ?_) (fun h => ?_)
                · refine g_bipush C dX8_paste_110 (by decide) ?_
                  cases h
                  exact hret 112 _ dX8_paste_112
                · refine g_iload_n 2 C dX8_paste_73 rfl rfl ?_
                  obtain ⟨hc7, h⟩ := chk_some h
                  refine g_i2l C dX8_paste_74 hc7 ?_
                  refine g_lconst (x := 0) C dX8_paste_75 (by decide) ?_
                  refine g_aload C dX8_paste_76 rfl ?_
                  refine g_get C fg_X8_374 5 rfl rfl dX8_paste_78 ?_
                  refine g_st (st' := [.int (wI (c_slotsE_size (3))), .long (wJ 0), .long (wJ x2)]) rfl ?_
                  refine g_iload C dX8_paste_81 rfl ?_
                  refine g_isub C dX8_paste_83 ?_
                  obtain ⟨hc8, h⟩ := chk_some h
                  refine g_i2l C dX8_paste_84 hc8 ?_
                  obtain ⟨r9, hr10, h⟩ := bnd1_some h
                  refine g_callSI [] [0, 1, 2, 3, 4, 5, 6, 7, 8, 9] [0, 1, 2, 3, 4, 5, 6, 7, 8, 9] C mt_X8_161 (c_X8_isOut _ _ _ _ x2 0 ((c_slotsE_size (3)) - x5) F hr10) rfl rfl (ws2 := (W_X8_paste (eCy E) a_t a_t_slots a_t_slotsE_0 a_t_slotsE_1 a_t_slotsE_2 a_t_slotsE_3 a_t_slotsE_numbers_0 a_t_slotsE_numbers_1 a_t_slotsE_numbers_2 a_t_slotsE_numbers_3 g_t_0 g_t_1 g_t_2 g_t_3 g_t_4 g_t_5 g_t_7 g_t_8 g_t_9 g_t_10 g_t_11 g_t_12 g_t_13 c_slotsE_held c_slotsE_width c_slotsE_size c_slotsE_numbers)) rfl rfl rfl (rest := []) rfl rfl rfl dX8_paste_85 ?_
                  refine g_if_ne 110 C dX8_paste_88 (by decide) h (fun h => ?_) (fun h => ?_)
                  · refine g_bipush C dX8_paste_110 (by decide) ?_
                    cases h
                    exact hret 112 _ dX8_paste_112
                  · refine g_iload C dX8_paste_91 rfl ?_
                    obtain ⟨hc11, h⟩ := chk_some h
                    refine g_i2l C dX8_paste_93 hc11 ?_
                    refine g_lconst (x := 0) C dX8_paste_94 (by decide) ?_
                    refine g_aload C dX8_paste_95 rfl ?_
                    refine g_get C fg_X8_374 2 rfl rfl dX8_paste_97 ?_
                    refine g_st (st' := [.int (wI (c_slotsE_size (0))), .long (wJ 0), .long (wJ x4)]) rfl ?_
                    refine g_iload C dX8_paste_100 rfl ?_
                    refine g_isub C dX8_paste_102 ?_
                    obtain ⟨hc12, h⟩ := chk_some h
                    refine g_i2l C dX8_paste_103 hc12 ?_
                    obtain ⟨r13, hr14, h⟩ := bnd1_some h
                    refine g_callSI [] [0, 1, 2, 3, 4, 5, 6, 7, 8, 9] [0, 1, 2, 3, 4, 5, 6, 7, 8, 9] C mt_X8_161 (c_X8_isOut _ _ _ _ x4 0 ((c_slotsE_size (0)) - x5) F hr14) rfl rfl (ws2 := (W_X8_paste (eCy E) a_t a_t_slots a_t_slotsE_0 a_t_slotsE_1 a_t_slotsE_2 a_t_slotsE_3 a_t_slotsE_numbers_0 a_t_slotsE_numbers_1 a_t_slotsE_numbers_2 a_t_slotsE_numbers_3 g_t_0 g_t_1 g_t_2 g_t_3 g_t_4 g_t_5 g_t_7 g_t_8 g_t_9 g_t_10 g_t_11 g_t_12 g_t_13 c_slotsE_held c_slotsE_width c_slotsE_size c_slotsE_numbers)) rfl rfl rfl (rest := []) rfl rfl rfl dX8_paste_104 ?_
                    refine g_if_eq 113 C dX8_paste_107 (by decide) h (fun h => ?_) (fun h => ?_)
                    · refine g_aload C dX8_paste_113 rfl ?_
                      refine g_get C fg_X8_463 5 rfl rfl dX8_paste_115 ?_
                      refine g_iload_n 2 C dX8_paste_118 rfl rfl ?_
                      refine g_aload C dX8_paste_119 rfl ?_
                      refine g_get C fg_X8_463 2 rfl rfl dX8_paste_121 ?_
                      refine g_iload C dX8_paste_124 rfl ?_
                      refine g_iload C dX8_paste_126 rfl ?_
                      obtain ⟨hc15, h⟩ := chk_some h
                      refine g_copyJ C mcp_X8_473 9 6 rfl rfl rfl hc15 (ws' := (W_X8_paste (eCy E) a_t a_t_slots a_t_slotsE_0 a_t_slotsE_1 a_t_slotsE_2 a_t_slotsE_3 a_t_slotsE_numbers_0 a_t_slotsE_numbers_1 a_t_slotsE_numbers_2 a_t_slotsE_numbers_3 g_t_0 g_t_1 g_t_2 g_t_3 g_t_4 g_t_5 g_t_7 g_t_8 g_t_9 g_t_10 g_t_11 g_t_12 g_t_13 c_slotsE_held c_slotsE_width c_slotsE_size (up c_slotsE_numbers (0) (cpy (c_slotsE_numbers (3)) (c_slotsE_numbers (0)) x2 x4 x5)))) rfl rfl dX8_paste_128 ?_
                      refine g_iconst C dX8_paste_131 ?_
                      cases h
                      exact hret 132 _ dX8_paste_132
                    · refine g_bipush C dX8_paste_110 (by decide) ?_
                      cases h
                      exact hret 112 _ dX8_paste_112
              · refine g_bipush C dX8_paste_65 (by decide) ?_
                cases h
                exact hret 67 _ dX8_paste_67
            · refine g_bipush C dX8_paste_49 (by decide) ?_
              cases h
              exact hret 51 _ dX8_paste_51
        · refine g_aald C 1 (t0 := 5) rfl rfl (by decide) rfl dX8_paste_30 ?_
          refine g_astore C hN dX8_paste_31 rfl (L' := [some (.ref a_t), some (.int (wI (3))), some (.int (wI x2)), some (.int (wI (1))), some (.int (wI x4)), some (.int (wI x5)), some (.ref a_t_slotsE_3), some (.ref a_t_slotsE_1)]) rfl ?_
          refine g_aload C dX8_paste_33 rfl ?_
          refine g_get C fg_X8_303 5 rfl rfl dX8_paste_35 ?_
          refine g_st (st' := [.int (wI (c_slotsE_held (3)))]) rfl ?_
          refine g_if_eq 49 C dX8_paste_38 (by decide) h (fun h => ?_) (fun h => ?_)
          · refine g_bipush C dX8_paste_49 (by decide) ?_
            cases h
            exact hret 51 _ dX8_paste_51
          · refine g_aload C dX8_paste_41 rfl ?_
            refine g_get C fg_X8_303 3 rfl rfl dX8_paste_43 ?_
            refine g_st (st' := [.int (wI (c_slotsE_held (1)))]) rfl ?_
            refine g_if_ne 52 C dX8_paste_46 (by decide) h (fun h => ?_) (fun h => ?_)
            · refine g_aload C dX8_paste_52 rfl ?_
              refine g_get C fg_X8_470 5 rfl rfl dX8_paste_54 ?_
              refine g_st (st' := [.int (wI (c_slotsE_width (3)))]) rfl ?_
              refine g_aload C dX8_paste_57 rfl ?_
              refine g_get C fg_X8_470 3 rfl rfl dX8_paste_59 ?_
              refine g_st (st' := [.int (wI (c_slotsE_width (1))), .int (wI (c_slotsE_width (3)))]) rfl ?_
              refine g_icmp_eq 68 C dX8_paste_62 (by decide) h (fun h => ?_) (fun h => ?_)
              · refine g_iload C dX8_paste_68 rfl ?_
                refine g_if_lt 110 C dX8_paste_70 (by decide) h (fun h => ?_) (fun h => ?_)
                · refine g_bipush C dX8_paste_110 (by decide) ?_
                  cases h
                  exact hret 112 _ dX8_paste_112
                · refine g_iload_n 2 C dX8_paste_73 rfl rfl ?_
                  obtain ⟨hc7, h⟩ := chk_some h
                  refine g_i2l C dX8_paste_74 hc7 ?_
                  refine g_lconst (x := 0) C dX8_paste_75 (by decide) ?_
                  refine g_aload C dX8_paste_76 rfl ?_
                  refine g_get C fg_X8_374 5 rfl rfl dX8_paste_78 ?_
                  refine g_st (st' := [.int (wI (c_slotsE_size (3))), .long (wJ 0), .long (wJ x2)]) rfl ?_
                  refine g_iload C dX8_paste_81 rfl ?_
                  refine g_isub C dX8_paste_83 ?_
                  obtain ⟨hc8, h⟩ := chk_some h
                  refine g_i2l C dX8_paste_84 hc8 ?_
                  obtain ⟨r9, hr10, h⟩ := bnd1_some h
                  refine g_callSI [] [0, 1, 2, 3, 4, 5, 6, 7, 8, 9] [0, 1, 2, 3, 4, 5, 6, 7, 8, 9] C mt_X8_161 (c_X8_isOut _ _ _ _ x2 0 ((c_slotsE_size (3)) - x5) F hr10) rfl rfl (ws2 := (W_X8_paste (eCy E) a_t a_t_slots a_t_slotsE_0 a_t_slotsE_1 a_t_slotsE_2 a_t_slotsE_3 a_t_slotsE_numbers_0 a_t_slotsE_numbers_1 a_t_slotsE_numbers_2 a_t_slotsE_numbers_3 g_t_0 g_t_1 g_t_2 g_t_3 g_t_4 g_t_5 g_t_7 g_t_8 g_t_9 g_t_10 g_t_11 g_t_12 g_t_13 c_slotsE_held c_slotsE_width c_slotsE_size c_slotsE_numbers)) rfl rfl rfl (rest := []) rfl rfl rfl dX8_paste_85 ?_
                  refine g_if_ne 110 C dX8_paste_88 (by decide) h (fun h => ?_) (fun h => ?_)
                  · refine g_bipush C dX8_paste_110 (by decide) ?_
                    cases h
                    exact hret 112 _ dX8_paste_112
                  · refine g_iload C dX8_paste_91 rfl ?_
                    obtain ⟨hc11, h⟩ := chk_some h
                    refine g_i2l C dX8_paste_93 hc11 ?_
                    refine g_lconst (x := 0) C dX8_paste_94 (by decide) ?_
                    refine g_aload C dX8_paste_95 rfl ?_
                    refine g_get C fg_X8_374 3 rfl rfl dX8_paste_97 ?_
                    refine g_st (st' := [.int (wI (c_slotsE_size (1))), .long (wJ 0), .long (wJ x4)]) rfl ?_
                    refine g_iload C dX8_paste_100 rfl ?_
                    refine g_isub C dX8_paste_102 ?_
                    obtain ⟨hc12, h⟩ := chk_some h
                    refine g_i2l C dX8_paste_103 hc12 ?_
                    obtain ⟨r13, hr14, h⟩ := bnd1_some h
                    refine g_callSI [] [0, 1, 2, 3, 4, 5, 6, 7, 8, 9] [0, 1, 2, 3, 4, 5, 6, 7, 8, 9] C mt_X8_161 (c_X8_isOut _ _ _ _ x4 0 ((c_slotsE_size (1)) - x5) F hr14) rfl rfl (ws2 := (W_X8_paste (eCy E) a_t a_t_slots a_t_slotsE_0 a_t_slotsE_1 a_t_slotsE_2 a_t_slotsE_3 a_t_slotsE_numbers_0 a_t_slotsE_numbers_1 a_t_slotsE_numbers_2 a_t_slotsE_numbers_3 g_t_0 g_t_1 g_t_2 g_t_3 g_t_4 g_t_5 g_t_7 g_t_8 g_t_9 g_t_10 g_t_11 g_t_12 g_t_13 c_slotsE_held c_slotsE_width c_slotsE_size c_slotsE_numbers)) rfl rfl rfl (rest := []) rfl rfl rfl dX8_paste_104 ?_
                    refine g_if_eq 113 C dX8_paste_107 (by decide) h (fun h => ?_) (fun h => ?_)
                    · refine g_aload C dX8_paste_113 rfl ?_
                      refine g_get C fg_X8_463 5 rfl rfl dX8_paste_115 ?_
                      refine g_iload_n 2 C dX8_paste_118 rfl rfl ?_
                      refine g_aload C dX8_paste_119 rfl ?_
                      refine g_get C fg_X8_463 3 rfl rfl dX8_paste_121 ?_
                      refine g_iload C dX8_paste_124 rfl ?_
                      refine g_iload C dX8_paste_126 rfl ?_
                      obtain ⟨hc15, h⟩ := chk_some h
                      refine g_copyJ C mcp_X8_473 9 7 rfl rfl rfl hc15 (ws' := (W_X8_paste (eCy E) a_t a_t_slots a_t_slotsE_0 a_t_slotsE_1 a_t_slotsE_2 a_t_slotsE_3 a_t_slotsE_numbers_0 a_t_slotsE_numbers_1 a_t_slotsE_numbers_2 a_t_slotsE_numbers_3 g_t_0 g_t_1 g_t_2 g_t_3 g_t_4 g_t_5 g_t_7 g_t_8 g_t_9 g_t_10 g_t_11 g_t_12 g_t_13 c_slotsE_held c_slotsE_width c_slotsE_size (up c_slotsE_numbers (1) (cpy (c_slotsE_numbers (3)) (c_slotsE_numbers (1)) x2 x4 x5)))) rfl rfl dX8_paste_128 ?_
                      refine g_iconst C dX8_paste_131 ?_
                      cases h
                      exact hret 132 _ dX8_paste_132
                    · refine g_bipush C dX8_paste_110 (by decide) ?_
                      cases h
                      exact hret 112 _ dX8_paste_112
              · refine g_bipush C dX8_paste_65 (by decide) ?_
                cases h
                exact hret 67 _ dX8_paste_67
            · refine g_bipush C dX8_paste_49 (by decide) ?_
              cases h
              exact hret 51 _ dX8_paste_51
        · refine g_aald C 1 (t0 := 5) rfl rfl (by decide) rfl dX8_paste_30 ?_
          refine g_astore C hN dX8_paste_31 rfl (L' := [some (.ref a_t), some (.int (wI (3))), some (.int (wI x2)), some (.int (wI (2))), some (.int (wI x4)), some (.int (wI x5)), some (.ref a_t_slotsE_3), some (.ref a_t_slotsE_2)]) rfl ?_
          refine g_aload C dX8_paste_33 rfl ?_
          refine g_get C fg_X8_303 5 rfl rfl dX8_paste_35 ?_
          refine g_st (st' := [.int (wI (c_slotsE_held (3)))]) rfl ?_
          refine g_if_eq 49 C dX8_paste_38 (by decide) h (fun h => ?_) (fun h => ?_)
          · refine g_bipush C dX8_paste_49 (by decide) ?_
            cases h
            exact hret 51 _ dX8_paste_51
          · refine g_aload C dX8_paste_41 rfl ?_
            refine g_get C fg_X8_303 4 rfl rfl dX8_paste_43 ?_
            refine g_st (st' := [.int (wI (c_slotsE_held (2)))]) rfl ?_
            refine g_if_ne 52 C dX8_paste_46 (by decide) h (fun h => ?_) (fun h => ?_)
            · refine g_aload C dX8_paste_52 rfl ?_
              refine g_get C fg_X8_470 5 rfl rfl dX8_paste_54 ?_
              refine g_st (st' := [.int (wI (c_slotsE_width (3)))]) rfl ?_
              refine g_aload C dX8_paste_57 rfl ?_
              refine g_get C fg_X8_470 4 rfl rfl dX8_paste_59 ?_
              refine g_st (st' := [.int (wI (c_slotsE_width (2))), .int (wI (c_slotsE_width (3)))]) rfl ?_
              refine g_icmp_eq 68 C dX8_paste_62 (by decide) h (fun h => ?_) (fun h => ?_)
              · refine g_iload C dX8_paste_68 rfl ?_
                refine g_if_lt 110 C dX8_paste_70 (by decide) h (fun h => ?_) (fun h => ?_)
                · refine g_bipush C dX8_paste_110 (by decide) ?_
                  cases h
                  exact hret 112 _ dX8_paste_112
                · refine g_iload_n 2 C dX8_paste_73 rfl rfl ?_
                  obtain ⟨hc7, h⟩ := chk_some h
                  refine g_i2l C dX8_paste_74 hc7 ?_
                  refine g_lconst (x := 0) C dX8_paste_75 (by decide) ?_
                  refine g_aload C dX8_paste_76 rfl ?_
                  refine g_get C fg_X8_374 5 rfl rfl dX8_paste_78 ?_
                  refine g_st (st' := [.int (wI (c_slotsE_size (3))), .long (wJ 0), .long (wJ x2)]) rfl ?_
                  refine g_iload C dX8_paste_81 rfl ?_
                  refine g_isub C dX8_paste_83 ?_
                  obtain ⟨hc8, h⟩ := chk_some h
                  refine g_i2l C dX8_paste_84 hc8 ?_
                  obtain ⟨r9, hr10, h⟩ := bnd1_some h
                  refine g_callSI [] [0, 1, 2, 3, 4, 5, 6, 7, 8, 9] [0, 1, 2, 3, 4, 5, 6, 7, 8, 9] C mt_X8_161 (c_X8_isOut _ _ _ _ x2 0 ((c_slotsE_size (3)) - x5) F hr10) rfl rfl (ws2 := (W_X8_paste (eCy E) a_t a_t_slots a_t_slotsE_0 a_t_slotsE_1 a_t_slotsE_2 a_t_slotsE_3 a_t_slotsE_numbers_0 a_t_slotsE_numbers_1 a_t_slotsE_numbers_2 a_t_slotsE_numbers_3 g_t_0 g_t_1 g_t_2 g_t_3 g_t_4 g_t_5 g_t_7 g_t_8 g_t_9 g_t_10 g_t_11 g_t_12 g_t_13 c_slotsE_held c_slotsE_width c_slotsE_size c_slotsE_numbers)) rfl rfl rfl (rest := []) rfl rfl rfl dX8_paste_85 ?_
                  refine g_if_ne 110 C dX8_paste_88 (by decide) h (fun h => ?_) (fun h => ?_)
                  · refine g_bipush C dX8_paste_110 (by decide) ?_
                    cases h
                    exact hret 112 _ dX8_paste_112
                  · refine g_iload C dX8_paste_91 rfl ?_
                    obtain ⟨hc11, h⟩ := chk_some h
                    refine g_i2l C dX8_paste_93 hc11 ?_
                    refine g_lconst (x := 0) C dX8_paste_94 (by decide) ?_
                    refine g_aload C dX8_paste_95 rfl ?_
                    refine g_get C fg_X8_374 4 rfl rfl dX8_paste_97 ?_
                    refine g_st (st' := [.int (wI (c_slotsE_size (2))), .long (wJ 0), .long (wJ x4)]) rfl ?_
                    refine g_iload C dX8_paste_100 rfl ?_
                    refine g_isub C dX8_paste_102 ?_
                    obtain ⟨hc12, h⟩ := chk_some h
                    refine g_i2l C dX8_paste_103 hc12 ?_
                    obtain ⟨r13, hr14, h⟩ := bnd1_some h
                    refine g_callSI [] [0, 1, 2, 3, 4, 5, 6, 7, 8, 9] [0, 1, 2, 3, 4, 5, 6, 7, 8, 9] C mt_X8_161 (c_X8_isOut _ _ _ _ x4 0 ((c_slotsE_size (2)) - x5) F hr14) rfl rfl (ws2 := (W_X8_paste (eCy E) a_t a_t_slots a_t_slotsE_0 a_t_slotsE_1 a_t_slotsE_2 a_t_slotsE_3 a_t_slotsE_numbers_0 a_t_slotsE_numbers_1 a_t_slotsE_numbers_2 a_t_slotsE_numbers_3 g_t_0 g_t_1 g_t_2 g_t_3 g_t_4 g_t_5 g_t_7 g_t_8 g_t_9 g_t_10 g_t_11 g_t_12 g_t_13 c_slotsE_held c_slotsE_width c_slotsE_size c_slotsE_numbers)) rfl rfl rfl (rest := []) rfl rfl rfl dX8_paste_104 ?_
                    refine g_if_eq 113 C dX8_paste_107 (by decide) h (fun h => ?_) (fun h => ?_)
                    · refine g_aload C dX8_paste_113 rfl ?_
                      refine g_get C fg_X8_463 5 rfl rfl dX8_paste_115 ?_
                      refine g_iload_n 2 C dX8_paste_118 rfl rfl ?_
                      refine g_aload C dX8_paste_119 rfl ?_
                      refine g_get C fg_X8_463 4 rfl rfl dX8_paste_121 ?_
                      refine g_iload C dX8_paste_124 rfl ?_
                      refine g_iload C dX8_paste_126 rfl ?_
                      obtain ⟨hc15, h⟩ := chk_some h
                      refine g_copyJ C mcp_X8_473 9 8 rfl rfl rfl hc15 (ws' := (W_X8_paste (eCy E) a_t a_t_slots a_t_slotsE_0 a_t_slotsE_1 a_t_slotsE_2 a_t_slotsE_3 a_t_slotsE_numbers_0 a_t_slotsE_numbers_1 a_t_slotsE_numbers_2 a_t_slotsE_numbers_3 g_t_0 g_t_1 g_t_2 g_t_3 g_t_4 g_t_5 g_t_7 g_t_8 g_t_9 g_t_10 g_t_11 g_t_12 g_t_13 c_slotsE_held c_slotsE_width c_slotsE_size (up c_slotsE_numbers (2) (cpy (c_slotsE_numbers (3)) (c_slotsE_numbers (2)) x2 x4 x5)))) rfl rfl dX8_paste_128 ?_
                      refine g_iconst C dX8_paste_131 ?_
                      cases h
                      exact hret 132 _ dX8_paste_132
                    · refine g_bipush C dX8_paste_110 (by decide) ?_
                      cases h
                      exact hret 112 _ dX8_paste_112
              · refine g_bipush C dX8_paste_65 (by decide) ?_
                cases h
                exact hret 67 _ dX8_paste_67
            · refine g_bipush C dX8_paste_49 (by decide) ?_
              cases h
              exact hret 51 _ dX8_paste_51
        · refine g_aald C 1 (t0 := 5) rfl rfl (by decide) rfl dX8_paste_30 ?_
          refine g_astore C hN dX8_paste_31 rfl (L' := [some (.ref a_t), some (.int (wI (3))), some (.int (wI x2)), some (.int (wI (3))), some (.int (wI x4)), some (.int (wI x5)), some (.ref a_t_slotsE_3), some (.ref a_t_slotsE_3)]) rfl ?_
          refine g_aload C dX8_paste_33 rfl ?_
          refine g_get C fg_X8_303 5 rfl rfl dX8_paste_35 ?_
          refine g_st (st' := [.int (wI (c_slotsE_held (3)))]) rfl ?_
          refine g_if_eq 49 C dX8_paste_38 (by decide) h (fun h => ?_) (fun h => ?_)
          · refine g_bipush C dX8_paste_49 (by decide) ?_
            cases h
            exact hret 51 _ dX8_paste_51
          · refine g_aload C dX8_paste_41 rfl ?_
            refine g_get C fg_X8_303 5 rfl rfl dX8_paste_43 ?_
            refine g_st (st' := [.int (wI (c_slotsE_held (3)))]) rfl ?_
            refine g_if_ne 52 C dX8_paste_46 (by decide) h (fun h => ?_) (fun h => ?_)
            · refine g_aload C dX8_paste_52 rfl ?_
              refine g_get C fg_X8_470 5 rfl rfl dX8_paste_54 ?_
              refine g_st (st' := [.int (wI (c_slotsE_width (3)))]) rfl ?_
              refine g_aload C dX8_paste_57 rfl ?_
              refine g_get C fg_X8_470 5 rfl rfl dX8_paste_59 ?_
              refine g_st (st' := [.int (wI (c_slotsE_width (3))), .int (wI (c_slotsE_width (3)))]) rfl ?_
              refine g_icmp_eq 68 C dX8_paste_62 (by decide) h (fun h => ?_) (fun h => ?_)
              · refine g_iload C dX8_paste_68 rfl ?_
                refine g_if_lt 110 C dX8_paste_70 (by decide) h (fun h => ?_) (fun h => ?_)
                · refine g_bipush C dX8_paste_110 (by decide) ?_
                  cases h
                  exact hret 112 _ dX8_paste_112
                · refine g_iload_n 2 C dX8_paste_73 rfl rfl ?_
                  obtain ⟨hc7, h⟩ := chk_some h
                  refine g_i2l C dX8_paste_74 hc7 ?_
                  refine g_lconst (x := 0) C dX8_paste_75 (by decide) ?_
                  refine g_aload C dX8_paste_76 rfl ?_
                  refine g_get C fg_X8_374 5 rfl rfl dX8_paste_78 ?_
                  refine g_st (st' := [.int (wI (c_slotsE_size (3))), .long (wJ 0), .long (wJ x2)]) rfl ?_
                  refine g_iload C dX8_paste_81 rfl ?_
                  refine g_isub C dX8_paste_83 ?_
                  obtain ⟨hc8, h⟩ := chk_some h
                  refine g_i2l C dX8_paste_84 hc8 ?_
                  obtain ⟨r9, hr10, h⟩ := bnd1_some h
                  refine g_callSI [] [0, 1, 2, 3, 4, 5, 6, 7, 8, 9] [0, 1, 2, 3, 4, 5, 6, 7, 8, 9] C mt_X8_161 (c_X8_isOut _ _ _ _ x2 0 ((c_slotsE_size (3)) - x5) F hr10) rfl rfl (ws2 := (W_X8_paste (eCy E) a_t a_t_slots a_t_slotsE_0 a_t_slotsE_1 a_t_slotsE_2 a_t_slotsE_3 a_t_slotsE_numbers_0 a_t_slotsE_numbers_1 a_t_slotsE_numbers_2 a_t_slotsE_numbers_3 g_t_0 g_t_1 g_t_2 g_t_3 g_t_4 g_t_5 g_t_7 g_t_8 g_t_9 g_t_10 g_t_11 g_t_12 g_t_13 c_slotsE_held c_slotsE_width c_slotsE_size c_slotsE_numbers)) rfl rfl rfl (rest := []) rfl rfl rfl dX8_paste_85 ?_
                  refine g_if_ne 110 C dX8_paste_88 (by decide) h (fun h => ?_) (fun h => ?_)
                  · refine g_bipush C dX8_paste_110 (by decide) ?_
                    cases h
                    exact hret 112 _ dX8_paste_112
                  · refine g_iload C dX8_paste_91 rfl ?_
                    obtain ⟨hc11, h⟩ := chk_some h
                    refine g_i2l C dX8_paste_93 hc11 ?_
                    refine g_lconst (x := 0) C dX8_paste_94 (by decide) ?_
                    refine g_aload C dX8_paste_95 rfl ?_
                    refine g_get C fg_X8_374 5 rfl rfl dX8_paste_97 ?_
                    refine g_st (st' := [.int (wI (c_slotsE_size (3))), .long (wJ 0), .long (wJ x4)]) rfl ?_
                    refine g_iload C dX8_paste_100 rfl ?_
                    refine g_isub C dX8_paste_102 ?_
                    obtain ⟨hc12, h⟩ := chk_some h
                    refine g_i2l C dX8_paste_103 hc12 ?_
                    obtain ⟨r13, hr14, h⟩ := bnd1_some h
                    refine g_callSI [] [0, 1, 2, 3, 4, 5, 6, 7, 8, 9] [0, 1, 2, 3, 4, 5, 6, 7, 8, 9] C mt_X8_161 (c_X8_isOut _ _ _ _ x4 0 ((c_slotsE_size (3)) - x5) F hr14) rfl rfl (ws2 := (W_X8_paste (eCy E) a_t a_t_slots a_t_slotsE_0 a_t_slotsE_1 a_t_slotsE_2 a_t_slotsE_3 a_t_slotsE_numbers_0 a_t_slotsE_numbers_1 a_t_slotsE_numbers_2 a_t_slotsE_numbers_3 g_t_0 g_t_1 g_t_2 g_t_3 g_t_4 g_t_5 g_t_7 g_t_8 g_t_9 g_t_10 g_t_11 g_t_12 g_t_13 c_slotsE_held c_slotsE_width c_slotsE_size c_slotsE_numbers)) rfl rfl rfl (rest := []) rfl rfl rfl dX8_paste_104 ?_
                    refine g_if_eq 113 C dX8_paste_107 (by decide) h (fun h => ?_) (fun h => ?_)
                    · refine g_aload C dX8_paste_113 rfl ?_
                      refine g_get C fg_X8_463 5 rfl rfl dX8_paste_115 ?_
                      refine g_iload_n 2 C dX8_paste_118 rfl rfl ?_
                      refine g_aload C dX8_paste_119 rfl ?_
                      refine g_get C fg_X8_463 5 rfl rfl dX8_paste_121 ?_
                      refine g_iload C dX8_paste_124 rfl ?_
                      refine g_iload C dX8_paste_126 rfl ?_
                      obtain ⟨hc15, h⟩ := chk_some h
                      refine g_copyJ C mcp_X8_473 9 9 rfl rfl rfl hc15 (ws' := (W_X8_paste (eCy E) a_t a_t_slots a_t_slotsE_0 a_t_slotsE_1 a_t_slotsE_2 a_t_slotsE_3 a_t_slotsE_numbers_0 a_t_slotsE_numbers_1 a_t_slotsE_numbers_2 a_t_slotsE_numbers_3 g_t_0 g_t_1 g_t_2 g_t_3 g_t_4 g_t_5 g_t_7 g_t_8 g_t_9 g_t_10 g_t_11 g_t_12 g_t_13 c_slotsE_held c_slotsE_width c_slotsE_size (up c_slotsE_numbers (3) (cpy (c_slotsE_numbers (3)) (c_slotsE_numbers (3)) x2 x4 x5)))) rfl rfl dX8_paste_128 ?_
                      refine g_iconst C dX8_paste_131 ?_
                      cases h
                      exact hret 132 _ dX8_paste_132
                    · refine g_bipush C dX8_paste_110 (by decide) ?_
                      cases h
                      exact hret 112 _ dX8_paste_112
              · refine g_bipush C dX8_paste_65 (by decide) ?_
                cases h
                exact hret 67 _ dX8_paste_67
            · refine g_bipush C dX8_paste_49 (by decide) ?_
              cases h
              exact hret 51 _ dX8_paste_51
    · refine g_bipush C dX8_paste_14 (by decide) ?_
      cases h
      exact hret 16 _ dX8_paste_16
end S_X8_paste
set_option maxRecDepth 100000 in
set_option maxHeartbeats 4000000 in
theorem c_X8_paste (l : Launch) (D : va_G) (cy : Nat → ClassId) (ad : AD) (a_t a_t_slots a_t_slotsE_0 a_t_slotsE_1 a_t_slotsE_2 a_t_slotsE_3 a_t_slotsE_numbers_0 a_t_slotsE_numbers_1 a_t_slotsE_numbers_2 a_t_slotsE_numbers_3 : Nat) (g_t_0 : Value) (g_t_1 : Value) (g_t_2 : Value) (g_t_3 : Value) (g_t_4 : Value) (g_t_5 : Value) (g_t_7 : Value) (g_t_8 : Value) (g_t_9 : Value) (g_t_10 : Value) (g_t_11 : Value) (g_t_12 : Value) (g_t_13 : Value) (x1 : Int) (x2 : Int) (x3 : Int) (x4 : Int) (x5 : Int) (c_slotsE_held : Int → Int) (c_slotsE_width : Int → Int) (c_slotsE_size : Int → Int) (c_slotsE_numbers : Int → Int → Int) (F : Nat) {v : Int × (Int → Int → Int)} (h : m_X8_paste F x1 x2 x3 x4 x5 c_slotsE_held c_slotsE_width c_slotsE_size c_slotsE_numbers = some v) : Ct l yX8_paste cX8_paste 8 (some .int) { frames := 2, cells := 0, slots := 0, locals := 45 } D cy ad [.ref a_t, .int (wI x1), .int (wI x2), .int (wI x3), .int (wI x4), .int (wI x5)] (W_X8_paste cy a_t a_t_slots a_t_slotsE_0 a_t_slotsE_1 a_t_slotsE_2 a_t_slotsE_3 a_t_slotsE_numbers_0 a_t_slotsE_numbers_1 a_t_slotsE_numbers_2 a_t_slotsE_numbers_3 g_t_0 g_t_1 g_t_2 g_t_3 g_t_4 g_t_5 g_t_7 g_t_8 g_t_9 g_t_10 g_t_11 g_t_12 g_t_13 c_slotsE_held c_slotsE_width c_slotsE_size c_slotsE_numbers) (W_X8_paste cy a_t a_t_slots a_t_slotsE_0 a_t_slotsE_1 a_t_slotsE_2 a_t_slotsE_3 a_t_slotsE_numbers_0 a_t_slotsE_numbers_1 a_t_slotsE_numbers_2 a_t_slotsE_numbers_3 g_t_0 g_t_1 g_t_2 g_t_3 g_t_4 g_t_5 g_t_7 g_t_8 g_t_9 g_t_10 g_t_11 g_t_12 g_t_13 c_slotsE_held c_slotsE_width c_slotsE_size (v.2)) (some (.int (wI (v.1)))) := by
  refine Ct.introI (j := 2) (plainFor_of_name (by decide)) rfl rfl (fun E C e1 e2 e3 e4 e5 hret => ?_)
  subst e1; subst e2; subst e3; subst e4
  exact wm_X8_paste C e5 h hret
