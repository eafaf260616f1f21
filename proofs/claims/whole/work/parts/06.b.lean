-- MovingStair$Queue.pass(LMovingStair$Slot;J)V
def W_X3_pass (cy : Nat → ClassId) (a_t a_p1 a_p1_numbers : Nat) (g_t_3 : Value) (g_t_4 : Value) (g_t_5 : Value) (g_t_6 : Value) (g_t_7 : Value) (g_t_8 : Value) (g_p1_0 : Value) (g_p1_1 : Value) (c_endless : Int) (c_waited : Int) (c_cleared : Int) (c_p1_size : Int) (c_p1_numbers : Int → Int) : va_W := [(a_t, .inr (3, [.int (wI c_endless), .long (wJ c_waited), .int (wI c_cleared), g_t_3, g_t_4, g_t_5, g_t_6, g_t_7, g_t_8])), (a_p1, .inr (5, [g_p1_0, g_p1_1, .int (wI c_p1_size), .ref a_p1_numbers])), (a_p1_numbers, .inl (cy 2, 60, .inr (.inl (aJ c_p1_numbers))))]
def mb_X3_pass_69 (F : Nat) (k16 : Int → Int → Int → Int → Option (Int × Int × Int)) (x2 : Int) (x4 : Int) (x6 : Int) (c_waited : Int) (c_cleared : Int) (c_p1_size : Int) (c_p1_numbers : Int → Int) : Option (Int × Int × Int) :=
  k16 x4 (x6 + 1) c_waited c_cleared
def mb_X3_pass_94 (F : Nat) (x2 : Int) (x4 : Int) (s1 : Int) (c_waited : Int) (c_cleared : Int) (c_p1_size : Int) : Option (Int × Int × Int) :=
  chk (s1 = 0 ∨ s1 = 1) <| if wJ x4 = wJ 0 then
    (some (s1, c_waited, c_cleared))
  else
    (if wJ 0 < wJ x2 then
    (chk (dv64 ((x4 + x2) - 1) x2) <| nam (((x4 + x2) - 1).tdiv x2) fun y3 => chk (dv64 (y3 * (y3 - 1)) 2) <| nam (c_waited + (((y3 - 1) * x4) - (x2 * ((y3 * (y3 - 1)).tdiv 2)))) fun y5 => nam (c_p1_size + y3) fun y6 => some (s1, y5, y6))
  else
    (some (s1, c_waited, c_cleared)))
def mb_X3_pass_93 (F : Nat) (x2 : Int) (x4 : Int) (c_waited : Int) (c_cleared : Int) (c_p1_size : Int) : Option (Int × Int × Int) :=
  mb_X3_pass_94 F x2 x4 0 c_waited c_cleared c_p1_size
def mb_X3_pass_16 (F : Nat) (k16 : Int → Int → Int → Int → Option (Int × Int × Int)) (x2 : Int) (x4 : Int) (x6 : Int) (c_waited : Int) (c_cleared : Int) (c_p1_size : Int) (c_p1_numbers : Int → Int) : Option (Int × Int × Int) :=
  if wI c_p1_size ≤ wI x6 then
    (if wJ x4 ≤ wJ 0 then
    (mb_X3_pass_93 F x2 x4 c_waited c_cleared c_p1_size)
  else
    (if wJ 0 < wJ x2 then
    (mb_X3_pass_93 F x2 x4 c_waited c_cleared c_p1_size)
  else
    (mb_X3_pass_94 F x2 x4 1 c_waited c_cleared c_p1_size)))
  else
    (chk (0 ≤ x6 ∧ x6 < 60) <| bnd1 (m_J9_max_f86c9 F 0 ((x4 + (c_p1_numbers x6)) - x2)) fun r2 => nam (c_waited + r2) fun y4 => if wJ r2 ≤ wJ 0 then
    (mb_X3_pass_69 F k16 x2 r2 x6 y4 c_cleared c_p1_size c_p1_numbers)
  else
    (nam (x6 + 2) fun y5 => mb_X3_pass_69 F k16 x2 r2 x6 y4 y5 c_p1_size c_p1_numbers))
def ml_X3_pass_16 (F : Nat) (x2 : Int) (x4 : Int) (x6 : Int) (c_waited : Int) (c_cleared : Int) (c_p1_size : Int) (c_p1_numbers : Int → Int) : Option (Int × Int × Int) :=
  loopN (fun (k : Int × Int × Int × Int → Option (Int × Int × Int)) q => mb_X3_pass_16 F (fun y0 y1 y2 y3 => k (y0, y1, y2, y3)) x2 q.1 q.2.1 q.2.2.1 q.2.2.2 c_p1_size c_p1_numbers) F (x4, x6, c_waited, c_cleared)
def m_X3_pass (F : Nat) (x2 : Int) (c_p1_size : Int) (c_p1_numbers : Int → Int) : Option (Int × Int × Int) :=
  ml_X3_pass_16 F x2 0 0 0 0 c_p1_size c_p1_numbers
section S_X3_pass
variable {E : EE} {a_t a_p1 a_p1_numbers : Nat} {g_t_3 : Value} {g_t_4 : Value} {g_t_5 : Value} {g_t_6 : Value} {g_t_7 : Value} {g_t_8 : Value} {g_p1_0 : Value} {g_p1_1 : Value}
set_option maxRecDepth 100000 in
set_option maxHeartbeats 4000000 in
theorem wb_X3_pass_69 {F : Nat} {k16 : Int → Int → Int → Int → Option (Int × Int × Int)} {v : Int × Int × Int} {x2 : Int} {x4 : Int} {x6 : Int} {c_waited : Int} {c_cleared : Int} {c_p1_size : Int} {c_p1_numbers : Int → Int} {c_endless : Int} (C : Cx E cX3_pass RX3 { frames := 1, cells := 0, slots := 0, locals := 23 }) (hN : eN E = 8) (h : mb_X3_pass_69 F k16 x2 x4 x6 c_waited c_cleared c_p1_size c_p1_numbers = some v) (hk16 : ∀ (y_x4 : Int) (y_x6 : Int) (y_c_waited : Int) (y_c_cleared : Int) (z_c_endless : Int), k16 y_x4 y_x6 y_c_waited y_c_cleared = some v → GG E 0 0 (W_X3_pass (eCy E) a_t a_p1 a_p1_numbers g_t_3 g_t_4 g_t_5 g_t_6 g_t_7 g_t_8 g_p1_0 g_p1_1 z_c_endless y_c_waited y_c_cleared c_p1_size c_p1_numbers) [some (.ref a_t), some (.ref a_p1), some (.long (wJ x2)), none, some (.long (wJ y_x4)), none, some (.int (wI y_x6)), none] 16 []) (hret : ∀ (pc : Nat) (L : List (Option Value)), decode cX3_pass pc = .ok (.return_, 1) → GG E 0 0 (W_X3_pass (eCy E) a_t a_p1 a_p1_numbers g_t_3 g_t_4 g_t_5 g_t_6 g_t_7 g_t_8 g_p1_0 g_p1_1 (v.1) (v.2.1) (v.2.2) c_p1_size c_p1_numbers) L pc []) : GG E 0 0 (W_X3_pass (eCy E) a_t a_p1 a_p1_numbers g_t_3 g_t_4 g_t_5 g_t_6 g_t_7 g_t_8 g_p1_0 g_p1_1 c_endless c_waited c_cleared c_p1_size c_p1_numbers) [some (.ref a_t), some (.ref a_p1), some (.long (wJ x2)), none, some (.long (wJ x4)), none, some (.int (wI x6)), none] 69 [] := by
  unfold mb_X3_pass_69 at h
  refine g_iinc C hN dX3_pass_69 rfl rfl (L' := [some (.ref a_t), some (.ref a_p1), some (.long (wJ x2)), none, some (.long (wJ x4)), none, some (.int (wI (x6 + 1))), none]) rfl ?_
  refine g_goto (tgt := 16) C dX3_pass_72 (by decide) ?_
  exact hk16 _ _ _ _ _ h
set_option maxRecDepth 100000 in
set_option maxHeartbeats 4000000 in
theorem wb_X3_pass_94 {F : Nat} {v : Int × Int × Int} {x2 : Int} {x4 : Int} {s1 : Int} {c_waited : Int} {c_cleared : Int} {c_p1_size : Int} {c_endless : Int} {c_p1_numbers : Int → Int} (C : Cx E cX3_pass RX3 { frames := 1, cells := 0, slots := 0, locals := 23 }) (hN : eN E = 8) (h : mb_X3_pass_94 F x2 x4 s1 c_waited c_cleared c_p1_size = some v) (hret : ∀ (pc : Nat) (L : List (Option Value)), decode cX3_pass pc = .ok (.return_, 1) → GG E 0 0 (W_X3_pass (eCy E) a_t a_p1 a_p1_numbers g_t_3 g_t_4 g_t_5 g_t_6 g_t_7 g_t_8 g_p1_0 g_p1_1 (v.1) (v.2.1) (v.2.2) c_p1_size c_p1_numbers) L pc []) : GG E 0 0 (W_X3_pass (eCy E) a_t a_p1 a_p1_numbers g_t_3 g_t_4 g_t_5 g_t_6 g_t_7 g_t_8 g_p1_0 g_p1_1 c_endless c_waited c_cleared c_p1_size c_p1_numbers) [some (.ref a_t), some (.ref a_p1), some (.long (wJ x2)), none, some (.long (wJ x4)), none, none, none] 94 [.int (wI s1), .ref a_t] := by
  unfold mb_X3_pass_94 at h
  obtain ⟨hc1, h⟩ := chk_some h
  refine g_putZ C fp_X3_11 0 rfl hc1 rfl (ws' := (W_X3_pass (eCy E) a_t a_p1 a_p1_numbers g_t_3 g_t_4 g_t_5 g_t_6 g_t_7 g_t_8 g_p1_0 g_p1_1 s1 c_waited c_cleared c_p1_size c_p1_numbers)) rfl dX3_pass_94 ?_
  refine g_lload C dX3_pass_97 rfl ?_
  refine g_lconst (x := 0) C dX3_pass_99 (by decide) ?_
  refine g_lcmp_eq 110 C dX3_pass_100 dX3_pass_101 (by decide) h (fun h => ?_) (fun h => ?_)
  · cases h
    exact hret 110 _ dX3_pass_110
  · refine g_lload_n 2 C dX3_pass_104 rfl rfl ?_
    refine g_lconst (x := 0) C dX3_pass_105 (by decide) ?_
    refine g_lcmp_gt 111 C dX3_pass_106 dX3_pass_107 (by decide) h (fun h => ?_) (fun h => ?_)
    · refine g_lload C dX3_pass_111 rfl ?_
      refine g_lload_n 2 C dX3_pass_113 rfl rfl ?_
      refine g_ladd C dX3_pass_114 ?_
      refine g_lconst (x := 1) C dX3_pass_115 (by decide) ?_
      refine g_lsub C dX3_pass_116 ?_
      refine g_lload_n 2 C dX3_pass_117 rfl rfl ?_
      obtain ⟨hc2, h⟩ := chk_some h
      refine g_ldiv C dX3_pass_118 hc2 ?_
      obtain ⟨y3, e_y3, h⟩ := nam_some h
      refine g_topJ e_y3 ?_
      refine g_lstore C hN dX3_pass_119 rfl (L' := [some (.ref a_t), some (.ref a_p1), some (.long (wJ x2)), none, some (.long (wJ x4)), none, some (.long (wJ y3)), none]) rfl ?_
      refine g_aload_n 0 C dX3_pass_121 rfl rfl ?_
      refine g_dup C dX3_pass_122 rfl ?_
      refine g_get C fg_X3_15 0 rfl rfl dX3_pass_123 ?_
      refine g_st (st' := [.long (wJ c_waited), .ref a_t]) rfl ?_
      refine g_lload C dX3_pass_126 rfl ?_
      refine g_lconst (x := 1) C dX3_pass_128 (by decide) ?_
      refine g_lsub C dX3_pass_129 ?_
      refine g_lload C dX3_pass_130 rfl ?_
      refine g_lmul C dX3_pass_132 ?_
      refine g_lload_n 2 C dX3_pass_133 rfl rfl ?_
      refine g_lload C dX3_pass_134 rfl ?_
      refine g_lload C dX3_pass_136 rfl ?_
      refine g_lconst (x := 1) C dX3_pass_138 (by decide) ?_
      refine g_lsub C dX3_pass_139 ?_
      refine g_lmul C dX3_pass_140 ?_
      refine g_ldc2 (v := 2) C mc_X3_56 dX3_pass_141 ?_
      obtain ⟨hc4, h⟩ := chk_some h
      refine g_ldiv C dX3_pass_144 hc4 ?_
      refine g_lmul C dX3_pass_145 ?_
      refine g_lsub C dX3_pass_146 ?_
      refine g_ladd C dX3_pass_147 ?_
      obtain ⟨y5, e_y5, h⟩ := nam_some h
      refine g_topJ e_y5 ?_
      refine g_putJ C fp_X3_15 0 rfl rfl (ws' := (W_X3_pass (eCy E) a_t a_p1 a_p1_numbers g_t_3 g_t_4 g_t_5 g_t_6 g_t_7 g_t_8 g_p1_0 g_p1_1 s1 y5 c_cleared c_p1_size c_p1_numbers)) rfl dX3_pass_148 ?_
      refine g_aload_n 0 C dX3_pass_151 rfl rfl ?_
      refine g_aload_n 1 C dX3_pass_152 rfl rfl ?_
      refine g_get C fg_X3_42 1 rfl rfl dX3_pass_153 ?_
      refine g_st (st' := [.int (wI c_p1_size), .ref a_t]) rfl ?_
      refine g_lload C dX3_pass_156 rfl ?_
      refine g_l2i C dX3_pass_158 ?_
      refine g_iadd C dX3_pass_159 ?_
      obtain ⟨y6, e_y6, h⟩ := nam_some h
      refine g_topI e_y6 ?_
      refine g_putI C fp_X3_19 0 rfl rfl (ws' := (W_X3_pass (eCy E) a_t a_p1 a_p1_numbers g_t_3 g_t_4 g_t_5 g_t_6 g_t_7 g_t_8 g_p1_0 g_p1_1 s1 y5 y6 c_p1_size c_p1_numbers)) rfl dX3_pass_160 ?_
      cases h
      exact hret 163 _ dX3_pass_163
    · cases h
      exact hret 110 _ dX3_pass_110
set_option maxRecDepth 100000 in
set_option maxHeartbeats 4000000 in
theorem wb_X3_pass_93 {F : Nat} {v : Int × Int × Int} {x2 : Int} {x4 : Int} {c_waited : Int} {c_cleared : Int} {c_p1_size : Int} {c_endless : Int} {c_p1_numbers : Int → Int} (C : Cx E cX3_pass RX3 { frames := 1, cells := 0, slots := 0, locals := 23 }) (hN : eN E = 8) (h : mb_X3_pass_93 F x2 x4 c_waited c_cleared c_p1_size = some v) (hret : ∀ (pc : Nat) (L : List (Option Value)), decode cX3_pass pc = .ok (.return_, 1) → GG E 0 0 (W_X3_pass (eCy E) a_t a_p1 a_p1_numbers g_t_3 g_t_4 g_t_5 g_t_6 g_t_7 g_t_8 g_p1_0 g_p1_1 (v.1) (v.2.1) (v.2.2) c_p1_size c_p1_numbers) L pc []) : GG E 0 0 (W_X3_pass (eCy E) a_t a_p1 a_p1_numbers g_t_3 g_t_4 g_t_5 g_t_6 g_t_7 g_t_8 g_p1_0 g_p1_1 c_endless c_waited c_cleared c_p1_size c_p1_numbers) [some (.ref a_t), some (.ref a_p1), some (.long (wJ x2)), none, some (.long (wJ x4)), none, none, none] 93 [.ref a_t] := by
  unfold mb_X3_pass_93 at h
  refine g_iconst C dX3_pass_93 ?_
  exact wb_X3_pass_94 C hN h hret
set_option maxRecDepth 100000 in
set_option maxHeartbeats 4000000 in
theorem wb_X3_pass_16 {F : Nat} {k16 : Int → Int → Int → Int → Option (Int × Int × Int)} {v : Int × Int × Int} {x2 : Int} {x4 : Int} {x6 : Int} {c_waited : Int} {c_cleared : Int} {c_p1_size : Int} {c_p1_numbers : Int → Int} {c_endless : Int} (C : Cx E cX3_pass RX3 { frames := 1, cells := 0, slots := 0, locals := 23 }) (hN : eN E = 8) (h : mb_X3_pass_16 F k16 x2 x4 x6 c_waited c_cleared c_p1_size c_p1_numbers = some v) (hk16 : ∀ (y_x4 : Int) (y_x6 : Int) (y_c_waited : Int) (y_c_cleared : Int) (z_c_endless : Int), k16 y_x4 y_x6 y_c_waited y_c_cleared = some v → GG E 0 0 (W_X3_pass (eCy E) a_t a_p1 a_p1_numbers g_t_3 g_t_4 g_t_5 g_t_6 g_t_7 g_t_8 g_p1_0 g_p1_1 z_c_endless y_c_waited y_c_cleared c_p1_size c_p1_numbers) [some (.ref a_t), some (.ref a_p1), some (.long (wJ x2)), none, some (.long (wJ y_x4)), none, some (.int (wI y_x6)), none] 16 []) (hret : ∀ (pc : Nat) (L : List (Option Value)), decode cX3_pass pc = .ok (.return_, 1) → GG E 0 0 (W_X3_pass (eCy E) a_t a_p1 a_p1_numbers g_t_3 g_t_4 g_t_5 g_t_6 g_t_7 g_t_8 g_p1_0 g_p1_1 (v.1) (v.2.1) (v.2.2) c_p1_size c_p1_numbers) L pc []) : GG E 0 0 (W_X3_pass (eCy E) a_t a_p1 a_p1_numbers g_t_3 g_t_4 g_t_5 g_t_6 g_t_7 g_t_8 g_p1_0 g_p1_1 c_endless c_waited c_cleared c_p1_size c_p1_numbers) [some (.ref a_t), some (.ref a_p1), some (.long (wJ x2)), none, some (.long (wJ x4)), none, some (.int (wI x6)), none] 16 [] := by
  unfold mb_X3_pass_16 at h
  refine g_iload C dX3_pass_16 rfl ?_
  refine g_aload_n 1 C dX3_pass_18 rfl rfl ?_
  refine g_get C fg_X3_42 1 rfl rfl dX3_pass_19 ?_
  refine g_st (st' := [.int (wI c_p1_size), .int (wI x6)]) rfl ?_
  refine g_icmp_ge 75 C dX3_pass_22 (by decide) h (fun h => ?_) (fun h => ?_)
  · refine g_aload_n 0 C dX3_pass_75 rfl rfl ?_
    refine g_lload C dX3_pass_76 rfl ?_
    refine g_lconst (x := 0) C dX3_pass_78 (by decide) ?_
    refine g_lcmp_le 93 C dX3_pass_79 dX3_pass_80 (by decide) h (fun h => ?_) (fun h => ?_)
    · refine g_mask [true, true, true, false, true, false, false, false] (L' := [some (.ref a_t), some (.ref a_p1), some (.long (wJ x2)), none, some (.long (wJ x4)), none, none, none]) rfl ?_
      exact wb_X3_pass_93 C hN h hret
    · refine g_lload_n 2 C dX3_pass_83 rfl rfl ?_
      refine g_lconst (x := 0) C dX3_pass_84 (by decide) ?_
      refine g_lcmp_gt 93 C dX3_pass_85 dX3_pass_86 (by decide) h (fun h => ?_) (fun h => ?_)
      · refine g_mask [true, true, true, false, true, false, false, false] (L' := [some (.ref a_t), some (.ref a_p1), some (.long (wJ x2)), none, some (.long (wJ x4)), none, none, none]) rfl ?_
        exact wb_X3_pass_93 C hN h hret
      · refine g_iconst C dX3_pass_89 ?_
        refine g_goto (tgt := 94) C dX3_pass_90 (by decide) ?_
        refine g_mask [true, true, true, false, true, false, false, false] (L' := [some (.ref a_t), some (.ref a_p1), some (.long (wJ x2)), none, some (.long (wJ x4)), none, none, none]) rfl ?_
        exact wb_X3_pass_94 C hN h hret
  · refine g_lconst (x := 0) C dX3_pass_25 (by decide) ?_
    refine g_lload C dX3_pass_26 rfl ?_
    refine g_aload_n 1 C dX3_pass_28 rfl rfl ?_
    refine g_get C fg_X3_47 1 rfl rfl dX3_pass_29 ?_
    refine g_iload C dX3_pass_32 rfl ?_
    obtain ⟨hc1, h⟩ := chk_some h
    refine g_lald C 2 rfl hc1 rfl dX3_pass_34 ?_
    refine g_ladd C dX3_pass_35 ?_
    refine g_lload_n 2 C dX3_pass_36 rfl rfl ?_
    refine g_lsub C dX3_pass_37 ?_
    obtain ⟨r2, hr3, h⟩ := bnd1_some h
    refine g_callSJ [] [0, 1, 2] [0, 1, 2] C mt_X3_50 (c_J9_max_f86c9 _ _ _ _ 0 ((x4 + (c_p1_numbers x6)) - x2) F hr3) rfl rfl (ws2 := (W_X3_pass (eCy E) a_t a_p1 a_p1_numbers g_t_3 g_t_4 g_t_5 g_t_6 g_t_7 g_t_8 g_p1_0 g_p1_1 c_endless c_waited c_cleared c_p1_size c_p1_numbers)) rfl rfl rfl (rest := []) rfl rfl rfl dX3_pass_38 ?_
    refine g_lstore C hN dX3_pass_41 rfl (L' := [some (.ref a_t), some (.ref a_p1), some (.long (wJ x2)), none, some (.long (wJ r2)), none, some (.int (wI x6)), none]) rfl ?_
    refine g_aload_n 0 C dX3_pass_43 rfl rfl ?_
    refine g_dup C dX3_pass_44 rfl ?_
    refine g_get C fg_X3_15 0 rfl rfl dX3_pass_45 ?_
    refine g_st (st' := [.long (wJ c_waited), .ref a_t]) rfl ?_
    refine g_lload C dX3_pass_48 rfl ?_
    refine g_ladd C dX3_pass_50 ?_
    obtain ⟨y4, e_y4, h⟩ := nam_some h
    refine g_topJ e_y4 ?_
    refine g_putJ C fp_X3_15 0 rfl rfl (ws' := (W_X3_pass (eCy E) a_t a_p1 a_p1_numbers g_t_3 g_t_4 g_t_5 g_t_6 g_t_7 g_t_8 g_p1_0 g_p1_1 c_endless y4 c_cleared c_p1_size c_p1_numbers)) rfl dX3_pass_51 ?_
    refine g_lload C dX3_pass_54 rfl ?_
    refine g_lconst (x := 0) C dX3_pass_56 (by decide) ?_
    refine g_lcmp_le 69 C dX3_pass_57 dX3_pass_58 (by decide) h (fun h => ?_) (fun h => ?_)
    · exact wb_X3_pass_69 C hN h hk16 hret
    · refine g_aload_n 0 C dX3_pass_61 rfl rfl ?_
      refine g_iload C dX3_pass_62 rfl ?_
      refine g_iconst C dX3_pass_64 ?_
      refine g_iadd C dX3_pass_65 ?_
      obtain ⟨y5, e_y5, h⟩ := nam_some h
      refine g_topI e_y5 ?_
      refine g_putI C fp_X3_19 0 rfl rfl (ws' := (W_X3_pass (eCy E) a_t a_p1 a_p1_numbers g_t_3 g_t_4 g_t_5 g_t_6 g_t_7 g_t_8 g_p1_0 g_p1_1 c_endless y4 y5 c_p1_size c_p1_numbers)) rfl dX3_pass_66 ?_
      exact wb_X3_pass_69 C hN h hk16 hret
set_option maxRecDepth 100000 in
set_option maxHeartbeats 4000000 in
theorem wl_X3_pass_16 {F : Nat} {v : Int × Int × Int} {x2 : Int} {x4 : Int} {x6 : Int} {c_waited : Int} {c_cleared : Int} {c_p1_size : Int} {c_p1_numbers : Int → Int} {c_endless : Int} (C : Cx E cX3_pass RX3 { frames := 1, cells := 0, slots := 0, locals := 23 }) (hN : eN E = 8) (h : ml_X3_pass_16 F x2 x4 x6 c_waited c_cleared c_p1_size c_p1_numbers = some v) (hret : ∀ (pc : Nat) (L : List (Option Value)), decode cX3_pass pc = .ok (.return_, 1) → GG E 0 0 (W_X3_pass (eCy E) a_t a_p1 a_p1_numbers g_t_3 g_t_4 g_t_5 g_t_6 g_t_7 g_t_8 g_p1_0 g_p1_1 (v.1) (v.2.1) (v.2.2) c_p1_size c_p1_numbers) L pc []) : GG E 0 0 (W_X3_pass (eCy E) a_t a_p1 a_p1_numbers g_t_3 g_t_4 g_t_5 g_t_6 g_t_7 g_t_8 g_p1_0 g_p1_1 c_endless c_waited c_cleared c_p1_size c_p1_numbers) [some (.ref a_t), some (.ref a_p1), some (.long (wJ x2)), none, some (.long (wJ x4)), none, some (.int (wI x6)), none] 16 [] := by
  unfold ml_X3_pass_16 at h
  exact loop_walk (g := fun (q : Int × Int × Int × Int) => ∀ (z_c_endless : Int), GG E 0 0 (W_X3_pass (eCy E) a_t a_p1 a_p1_numbers g_t_3 g_t_4 g_t_5 g_t_6 g_t_7 g_t_8 g_p1_0 g_p1_1 z_c_endless (q.2.2.1) (q.2.2.2) c_p1_size c_p1_numbers) [some (.ref a_t), some (.ref a_p1), some (.long (wJ x2)), none, some (.long (wJ (q.1))), none, some (.int (wI (q.2.1))), none] 16 []) (fun k hk q h z_c_endless => wb_X3_pass_16 C hN h (fun y0 y1 y2 y3 u0 hh => hk (y0, y1, y2, y3) hh u0) hret) F (x4, x6, c_waited, c_cleared) h _
set_option maxRecDepth 100000 in
set_option maxHeartbeats 4000000 in
theorem wm_X3_pass {F : Nat} {v : Int × Int × Int} {x2 : Int} {c_p1_size : Int} {c_p1_numbers : Int → Int} {c_endless : Int} {c_waited : Int} {c_cleared : Int} (C : Cx E cX3_pass RX3 { frames := 1, cells := 0, slots := 0, locals := 23 }) (hN : eN E = 8) (h : m_X3_pass F x2 c_p1_size c_p1_numbers = some v) (hret : ∀ (pc : Nat) (L : List (Option Value)), decode cX3_pass pc = .ok (.return_, 1) → GG E 0 0 (W_X3_pass (eCy E) a_t a_p1 a_p1_numbers g_t_3 g_t_4 g_t_5 g_t_6 g_t_7 g_t_8 g_p1_0 g_p1_1 (v.1) (v.2.1) (v.2.2) c_p1_size c_p1_numbers) L pc []) : GG E 0 0 (W_X3_pass (eCy E) a_t a_p1 a_p1_numbers g_t_3 g_t_4 g_t_5 g_t_6 g_t_7 g_t_8 g_p1_0 g_p1_1 c_endless c_waited c_cleared c_p1_size c_p1_numbers) [some (.ref a_t), some (.ref a_p1), some (.long (wJ x2)), none, none, none, none, none] 0 [] := by
  unfold m_X3_pass at h
  refine g_aload_n 0 C dX3_pass_0 rfl rfl ?_
  refine g_lconst (x := 0) C dX3_pass_1 (by decide) ?_
  refine g_putJ C fp_X3_15 0 rfl rfl (ws' := (W_X3_pass (eCy E) a_t a_p1 a_p1_numbers g_t_3 g_t_4 g_t_5 g_t_6 g_t_7 g_t_8 g_p1_0 g_p1_1 c_endless 0 c_cleared c_p1_size c_p1_numbers)) rfl dX3_pass_2 ?_
  refine g_aload_n 0 C dX3_pass_5 rfl rfl ?_
  refine g_iconst C dX3_pass_6 ?_
  refine g_putI C fp_X3_19 0 rfl rfl (ws' := (W_X3_pass (eCy E) a_t a_p1 a_p1_numbers g_t_3 g_t_4 g_t_5 g_t_6 g_t_7 g_t_8 g_p1_0 g_p1_1 c_endless 0 0 c_p1_size c_p1_numbers)) rfl dX3_pass_7 ?_
  refine g_lconst (x := 0) C dX3_pass_10 (by decide) ?_
  refine g_lstore C hN dX3_pass_11 rfl (L' := [some (.ref a_t), some (.ref a_p1), some (.long (wJ x2)), none, some (.long (wJ 0)), none, none, none]) rfl ?_
  refine g_iconst C dX3_pass_13 ?_
  refine g_istore C hN dX3_pass_14 rfl (L' := [some (.ref a_t), some (.ref a_p1), some (.long (wJ x2)), none, some (.long (wJ 0)), none, some (.int (wI 0)), none]) rfl ?_
  exact wl_X3_pass_16 C hN h hret
end S_X3_pass
set_option maxRecDepth 100000 in
set_option maxHeartbeats 4000000 in
theorem c_X3_pass (l : Launch) (D : va_G) (cy : Nat → ClassId) (ad : AD) (a_t a_p1 a_p1_numbers : Nat) (g_t_3 : Value) (g_t_4 : Value) (g_t_5 : Value) (g_t_6 : Value) (g_t_7 : Value) (g_t_8 : Value) (g_p1_0 : Value) (g_p1_1 : Value) (x2 : Int) (c_endless : Int) (c_waited : Int) (c_cleared : Int) (c_p1_size : Int) (c_p1_numbers : Int → Int) (F : Nat) {v : Int × Int × Int} (h : m_X3_pass F x2 c_p1_size c_p1_numbers = some v) : Ct l yX3_pass cX3_pass 8 none { frames := 1, cells := 0, slots := 0, locals := 23 } D cy ad [.ref a_t, .ref a_p1, .long (wJ x2)] (W_X3_pass cy a_t a_p1 a_p1_numbers g_t_3 g_t_4 g_t_5 g_t_6 g_t_7 g_t_8 g_p1_0 g_p1_1 c_endless c_waited c_cleared c_p1_size c_p1_numbers) (W_X3_pass cy a_t a_p1 a_p1_numbers g_t_3 g_t_4 g_t_5 g_t_6 g_t_7 g_t_8 g_p1_0 g_p1_1 (v.1) (v.2.1) (v.2.2) c_p1_size c_p1_numbers) none := by
  refine Ct.introV (j := 4) (plainFor_of_name (by decide)) rfl rfl (fun E C e1 e2 e3 e4 e5 hret => ?_)
  subst e1; subst e2; subst e3; subst e4
  exact wm_X3_pass C e5 h hret
-- MovingStair$Queue.leastWait(IIIJJJ)J
def W_X3_leastWait (cy : Nat → ClassId) (a_t a_t_coming a_t_walking : Nat) (g_t_0 : Value) (g_t_1 : Value) (g_t_2 : Value) (g_t_3 : Value) (g_t_4 : Value) (c_minutes : Int) (c_standing : Int) (c_coming : Int → Int) (c_walking : Int → Int) : va_W := [(a_t, .inr (3, [g_t_0, g_t_1, g_t_2, g_t_3, g_t_4, .int (wI c_minutes), .long (wJ c_standing), .ref a_t_walking, .ref a_t_coming])), (a_t_coming, .inl (cy 2, 30, .inr (.inl (aJ c_coming)))), (a_t_walking, .inl (cy 2, 30, .inr (.inl (aJ c_walking))))]
def mb_X3_leastWait_16 (F : Nat) (self : Int × Int × Int × Int × Int × Int × Int × Int × (Int → Int) × (Int → Int) → Option (Int)) (x6 : Int) (x8 : Int) : Option (Int) :=
  bnd1 (m_J9_min_f86c9 F x8 x6) fun r1 => some r1
def mb_X3_leastWait_41 (F : Nat) (self : Int × Int × Int × Int × Int × Int × Int × Int × (Int → Int) × (Int → Int) → Option (Int)) (x1 : Int) (x2 : Int) (x3 : Int) (x4 : Int) (x6 : Int) (x8 : Int) (s0 : Int) (c_minutes : Int) (c_standing : Int) (c_coming : Int → Int) (c_walking : Int → Int) : Option (Int) :=
  chk (0 ≤ x1 ∧ x1 < 30) <| bnd1 (m_J9_max_f86c9 F 0 ((x4 + (c_coming x1)) - s0)) fun r2 => bnd1 (self (x1 + 1, x2, x3, r2, x6 + r2, x8, c_minutes, c_standing, c_coming, c_walking)) fun r4 => if wI x3 ≤ wI 0 then
    (some r4)
  else
    (bnd1 (self (x1 + 1, 1 - x2, x3 - 1, r2, x6 + r2, r4, c_minutes, c_standing, c_coming, c_walking)) fun r6 => some r6)
def mz_X3_leastWait (F : Nat) (self : Int × Int × Int × Int × Int × Int × Int × Int × (Int → Int) × (Int → Int) → Option (Int)) (x1 : Int) (x2 : Int) (x3 : Int) (x4 : Int) (x6 : Int) (x8 : Int) (c_minutes : Int) (c_standing : Int) (c_coming : Int → Int) (c_walking : Int → Int) : Option (Int) :=
  if wI c_minutes ≤ wI x1 then
    (mb_X3_leastWait_16 F self x6 x8)
  else
    (if wJ x6 < wJ x8 then
    (if wI x2 = wI 0 then
    (mb_X3_leastWait_41 F self x1 x2 x3 x4 x6 x8 c_standing c_minutes c_standing c_coming c_walking)
  else
    (chk (0 ≤ x1 ∧ x1 < 30) <| mb_X3_leastWait_41 F self x1 x2 x3 x4 x6 x8 (c_walking x1) c_minutes c_standing c_coming c_walking))
  else
    (mb_X3_leastWait_16 F self x6 x8))
def m_X3_leastWait_at (F d : Nat) (x1 : Int) (x2 : Int) (x3 : Int) (x4 : Int) (x6 : Int) (x8 : Int) (c_minutes : Int) (c_standing : Int) (c_coming : Int → Int) (c_walking : Int → Int) : Option (Int) :=
  loopN (fun self q => mz_X3_leastWait F self q.1 q.2.1 q.2.2.1 q.2.2.2.1 q.2.2.2.2.1 q.2.2.2.2.2.1 q.2.2.2.2.2.2.1 q.2.2.2.2.2.2.2.1 q.2.2.2.2.2.2.2.2.1 q.2.2.2.2.2.2.2.2.2) d (x1, x2, x3, x4, x6, x8, c_minutes, c_standing, c_coming, c_walking)
def m_X3_leastWait (F : Nat) (x1 : Int) (x2 : Int) (x3 : Int) (x4 : Int) (x6 : Int) (x8 : Int) (c_minutes : Int) (c_standing : Int) (c_coming : Int → Int) (c_walking : Int → Int) : Option (Int) := m_X3_leastWait_at F 200 x1 x2 x3 x4 x6 x8 c_minutes c_standing c_coming c_walking
def rm_X3_leastWait (d : Nat) : Room := { frames := 1 + d, cells := 0, slots := 0, locals := 23 + 35 * d }
theorem rm_step_X3_leastWait (d : Nat) : roomOK (rm_X3_leastWait d) (rm_X3_leastWait (d + 1)) 16 0 0 = true := by
  unfold roomOK rm_X3_leastWait
  simp only []
  rw [Nat.ble_eq.mpr (show 1 + d + 1 ≤ 1 + (d + 1) by omega), Nat.ble_eq.mpr (show 8 + (16 + 11) + (23 + 35 * d) ≤ 23 + 35 * (d + 1) by omega)]
  rfl
section S_X3_leastWait
variable {E : EE} {a_t a_t_coming a_t_walking : Nat} {g_t_0 : Value} {g_t_1 : Value} {g_t_2 : Value} {g_t_3 : Value} {g_t_4 : Value}
set_option maxRecDepth 100000 in
set_option maxHeartbeats 4000000 in
theorem wb_X3_leastWait_16 {d : Nat} {self : Int × Int × Int × Int × Int × Int × Int × Int × (Int → Int) × (Int → Int) → Option (Int)} {F : Nat} {v : Int} {x6 : Int} {x8 : Int} {c_minutes : Int} {c_standing : Int} {c_coming : Int → Int} {c_walking : Int → Int} (C : Cx E cX3_leastWait RX3 (rm_X3_leastWait (d + 1))) (hN : eN E = 16) (h : mb_X3_leastWait_16 F self x6 x8 = some v) (hself : ∀ (w_x1 : Int) (w_x2 : Int) (w_x3 : Int) (w_x4 : Int) (w_x6 : Int) (w_x8 : Int) (w_c_minutes : Int) (w_c_standing : Int) (w_c_coming : Int → Int) (w_c_walking : Int → Int) (w : Int), self (w_x1, w_x2, w_x3, w_x4, w_x6, w_x8, w_c_minutes, w_c_standing, w_c_coming, w_c_walking) = some w → Ct (eL E) yX3_leastWait cX3_leastWait 16 (some .long) (rm_X3_leastWait d) (eD E) (eCy E) (eAd E) [.ref a_t, .int (wI w_x1), .int (wI w_x2), .int (wI w_x3), .long (wJ w_x4), .long (wJ w_x6), .long (wJ w_x8)] (W_X3_leastWait (eCy E) a_t a_t_coming a_t_walking g_t_0 g_t_1 g_t_2 g_t_3 g_t_4 w_c_minutes w_c_standing w_c_coming w_c_walking) (W_X3_leastWait (eCy E) a_t a_t_coming a_t_walking g_t_0 g_t_1 g_t_2 g_t_3 g_t_4 w_c_minutes w_c_standing w_c_coming w_c_walking) (some (.long (wJ w)))) (hret : ∀ (pc : Nat) (L : List (Option Value)), decode cX3_leastWait pc = .ok (.lreturn, 1) → GG E 0 0 (W_X3_leastWait (eCy E) a_t a_t_coming a_t_walking g_t_0 g_t_1 g_t_2 g_t_3 g_t_4 c_minutes c_standing c_coming c_walking) L pc [.long (wJ v)]) : GG E 0 0 (W_X3_leastWait (eCy E) a_t a_t_coming a_t_walking g_t_0 g_t_1 g_t_2 g_t_3 g_t_4 c_minutes c_standing c_coming c_walking) [none, none, none, none, none, none, some (.long (wJ x6)), none, some (.long (wJ x8)), none, none, none, none, none, none, none] 16 [] := by
  unfold mb_X3_leastWait_16 at h
  refine g_lload C dX3_leastWait_16 rfl ?_
  refine g_lload C dX3_leastWait_18 rfl ?_
  obtain ⟨r1, hr2, h⟩ := bnd1_some h
  refine g_callSJ [] [0, 1, 2] [0, 1, 2] C mt_X3_84 (c_J9_min_f86c9 _ _ _ _ x8 x6 F hr2) rfl rfl (ws2 := (W_X3_leastWait (eCy E) a_t a_t_coming a_t_walking g_t_0 g_t_1 g_t_2 g_t_3 g_t_4 c_minutes c_standing c_coming c_walking)) rfl rfl rfl (rest := []) rfl rfl rfl dX3_leastWait_20 ?_
  cases h
  exact hret 23 _ dX3_leastWait_23
set_option maxRecDepth 100000 in
set_option maxHeartbeats 4000000 in
theorem wb_X3_leastWait_41 {d : Nat} {self : Int × Int × Int × Int × Int × Int × Int × Int × (Int → Int) × (Int → Int) → Option (Int)} {F : Nat} {v : Int} {x1 : Int} {x2 : Int} {x3 : Int} {x4 : Int} {x6 : Int} {x8 : Int} {s0 : Int} {c_minutes : Int} {c_standing : Int} {c_coming : Int → Int} {c_walking : Int → Int} (C : Cx E cX3_leastWait RX3 (rm_X3_leastWait (d + 1))) (hN : eN E = 16) (h : mb_X3_leastWait_41 F self x1 x2 x3 x4 x6 x8 s0 c_minutes c_standing c_coming c_walking = some v) (hself : ∀ (w_x1 : Int) (w_x2 : Int) (w_x3 : Int) (w_x4 : Int) (w_x6 : Int) (w_x8 : Int) (w_c_minutes : Int) (w_c_standing : Int) (w_c_coming : Int → Int) (w_c_walking : Int → Int) (w : Int), self (w_x1, w_x2, w_x3, w_x4, w_x6, w_x8, w_c_minutes, w_c_standing, w_c_coming, w_c_walking) = some w → Ct (eL E) yX3_leastWait cX3_leastWait 16 (some .long) (rm_X3_leastWait d) (eD E) (eCy E) (eAd E) [.ref a_t, .int (wI w_x1), .int (wI w_x2), .int (wI w_x3), .long (wJ w_x4), .long (wJ w_x6), .long (wJ w_x8)] (W_X3_leastWait (eCy E) a_t a_t_coming a_t_walking g_t_0 g_t_1 g_t_2 g_t_3 g_t_4 w_c_minutes w_c_standing w_c_coming w_c_walking) (W_X3_leastWait (eCy E) a_t a_t_coming a_t_walking g_t_0 g_t_1 g_t_2 g_t_3 g_t_4 w_c_minutes w_c_standing w_c_coming w_c_walking) (some (.long (wJ w)))) (hret : ∀ (pc : Nat) (L : List (Option Value)), decode cX3_leastWait pc = .ok (.lreturn, 1) → GG E 0 0 (W_X3_leastWait (eCy E) a_t a_t_coming a_t_walking g_t_0 g_t_1 g_t_2 g_t_3 g_t_4 c_minutes c_standing c_coming c_walking) L pc [.long (wJ v)]) : GG E 0 0 (W_X3_leastWait (eCy E) a_t a_t_coming a_t_walking g_t_0 g_t_1 g_t_2 g_t_3 g_t_4 c_minutes c_standing c_coming c_walking) [some (.ref a_t), some (.int (wI x1)), some (.int (wI x2)), some (.int (wI x3)), some (.long (wJ x4)), none, some (.long (wJ x6)), none, some (.long (wJ x8)), none, none, none, none, none, none, none] 41 [.long (wJ s0)] := by
  unfold mb_X3_leastWait_41 at h
  refine g_lstore C hN dX3_leastWait_41 rfl (L' := [some (.ref a_t), some (.int (wI x1)), some (.int (wI x2)), some (.int (wI x3)), some (.long (wJ x4)), none, some (.long (wJ x6)), none, some (.long (wJ x8)), none, some (.long (wJ s0)), none, none, none, none, none]) rfl ?_
  refine g_lconst (x := 0) C dX3_leastWait_43 (by decide) ?_
  refine g_lload C dX3_leastWait_44 rfl ?_
  refine g_aload_n 0 C dX3_leastWait_46 rfl rfl ?_
  refine g_get C fg_X3_39 0 rfl rfl dX3_leastWait_47 ?_
  refine g_iload_n 1 C dX3_leastWait_50 rfl rfl ?_
  obtain ⟨hc1, h⟩ := chk_some h
  refine g_lald C 1 rfl hc1 rfl dX3_leastWait_51 ?_
  refine g_ladd C dX3_leastWait_52 ?_
  refine g_lload C dX3_leastWait_53 rfl ?_
  refine g_lsub C dX3_leastWait_55 ?_
  obtain ⟨r2, hr3, h⟩ := bnd1_some h
  refine g_callSJ [] [0, 1, 2] [0, 1, 2] C mt_X3_50 (c_J9_max_f86c9 _ _ _ _ 0 ((x4 + (c_coming x1)) - s0) F hr3) rfl rfl (ws2 := (W_X3_leastWait (eCy E) a_t a_t_coming a_t_walking g_t_0 g_t_1 g_t_2 g_t_3 g_t_4 c_minutes c_standing c_coming c_walking)) rfl rfl rfl (rest := []) rfl rfl rfl dX3_leastWait_56 ?_
  refine g_lstore C hN dX3_leastWait_59 rfl (L' := [some (.ref a_t), some (.int (wI x1)), some (.int (wI x2)), some (.int (wI x3)), some (.long (wJ x4)), none, some (.long (wJ x6)), none, some (.long (wJ x8)), none, some (.long (wJ s0)), none, some (.long (wJ r2)), none, none, none]) rfl ?_
  refine g_aload_n 0 C dX3_leastWait_61 rfl rfl ?_
  refine g_iload_n 1 C dX3_leastWait_62 rfl rfl ?_
  refine g_iconst C dX3_leastWait_63 ?_
  refine g_iadd C dX3_leastWait_64 ?_
  refine g_iload_n 2 C dX3_leastWait_65 rfl rfl ?_
  refine g_iload_n 3 C dX3_leastWait_66 rfl rfl ?_
  refine g_lload C dX3_leastWait_67 rfl ?_
  refine g_lload C dX3_leastWait_69 rfl ?_
  refine g_lload C dX3_leastWait_71 rfl ?_
  refine g_ladd C dX3_leastWait_73 ?_
  refine g_lload C dX3_leastWait_74 rfl ?_
  obtain ⟨r4, hr5, h⟩ := bnd1_some h
  refine g_callJ [0, 1, 2] [] [0, 1, 2] C mt_X3_80 (hself _ _ _ _ _ _ _ _ _ _ _ hr5) (q0 := 0) rfl (ci := 3) rfl rfl rfl (ws2 := (W_X3_leastWait (eCy E) a_t a_t_coming a_t_walking g_t_0 g_t_1 g_t_2 g_t_3 g_t_4 c_minutes c_standing c_coming c_walking)) rfl rfl rfl (rest := []) rfl rfl (rm_step_X3_leastWait d) dX3_leastWait_76 ?_
  refine g_lstore C hN dX3_leastWait_79 rfl (L' := [some (.ref a_t), some (.int (wI x1)), some (.int (wI x2)), some (.int (wI x3)), some (.long (wJ x4)), none, some (.long (wJ x6)), none, some (.long (wJ x8)), none, some (.long (wJ s0)), none, some (.long (wJ r2)), none, some (.long (wJ r4)), none]) rfl ?_
  refine g_iload_n 3 C dX3_leastWait_81 rfl rfl ?_
  refine g_if_le 109 C dX3_leastWait_82 (by decide) h (fun h => ?_) (fun h => ?_)
  · refine g_lload C dX3_leastWait_109 rfl ?_
    cases h
    exact hret 111 _ dX3_leastWait_111
  · refine g_aload_n 0 C dX3_leastWait_85 rfl rfl ?_
    refine g_iload_n 1 C dX3_leastWait_86 rfl rfl ?_
    refine g_iconst C dX3_leastWait_87 ?_
    refine g_iadd C dX3_leastWait_88 ?_
    refine g_iconst C dX3_leastWait_89 ?_
    refine g_iload_n 2 C dX3_leastWait_90 rfl rfl ?_
    refine g_isub C dX3_leastWait_91 ?_
    refine g_iload_n 3 C dX3_leastWait_92 rfl rfl ?_
    refine g_iconst C dX3_leastWait_93 ?_
    refine g_isub C dX3_leastWait_94 ?_
    refine g_lload C dX3_leastWait_95 rfl ?_
    refine g_lload C dX3_leastWait_97 rfl ?_
    refine g_lload C dX3_leastWait_99 rfl ?_
    refine g_ladd C dX3_leastWait_101 ?_
    refine g_lload C dX3_leastWait_102 rfl ?_
    obtain ⟨r6, hr7, h⟩ := bnd1_some h
    refine g_callJ [0, 1, 2] [] [0, 1, 2] C mt_X3_80 (hself _ _ _ _ _ _ _ _ _ _ _ hr7) (q0 := 0) rfl (ci := 3) rfl rfl rfl (ws2 := (W_X3_leastWait (eCy E) a_t a_t_coming a_t_walking g_t_0 g_t_1 g_t_2 g_t_3 g_t_4 c_minutes c_standing c_coming c_walking)) rfl rfl rfl (rest := []) rfl rfl (rm_step_X3_leastWait d) dX3_leastWait_104 ?_
    refine g_lstore C hN dX3_leastWait_107 rfl (L' := [some (.ref a_t), some (.int (wI x1)), some (.int (wI x2)), some (.int (wI x3)), some (.long (wJ x4)), none, some (.long (wJ x6)), none, some (.long (wJ x8)), none, some (.long (wJ s0)), none, some (.long (wJ r2)), none, some (.long (wJ r6)), none]) rfl ?_
    refine g_lload C dX3_leastWait_109 rfl ?_
    cases h
    exact hret 111 _ dX3_leastWait_111
set_option maxRecDepth 100000 in
set_option maxHeartbeats 4000000 in
theorem wm_X3_leastWait {d : Nat} {self : Int × Int × Int × Int × Int × Int × Int × Int × (Int → Int) × (Int → Int) → Option (Int)} {F : Nat} {v : Int} {x1 : Int} {x2 : Int} {x3 : Int} {x4 : Int} {x6 : Int} {x8 : Int} {c_minutes : Int} {c_standing : Int} {c_coming : Int → Int} {c_walking : Int → Int} (C : Cx E cX3_leastWait RX3 (rm_X3_leastWait (d + 1))) (hN : eN E = 16) (h : mz_X3_leastWait F self x1 x2 x3 x4 x6 x8 c_minutes c_standing c_coming c_walking = some v) (hself : ∀ (w_x1 : Int) (w_x2 : Int) (w_x3 : Int) (w_x4 : Int) (w_x6 : Int) (w_x8 : Int) (w_c_minutes : Int) (w_c_standing : Int) (w_c_coming : Int → Int) (w_c_walking : Int → Int) (w : Int), self (w_x1, w_x2, w_x3, w_x4, w_x6, w_x8, w_c_minutes, w_c_standing, w_c_coming, w_c_walking) = some w → Ct (eL E) yX3_leastWait cX3_leastWait 16 (some .long) (rm_X3_leastWait d) (eD E) (eCy E) (eAd E) [.ref a_t, .int (wI w_x1), .int (wI w_x2), .int (wI w_x3), .long (wJ w_x4), .long (wJ w_x6), .long (wJ w_x8)] (W_X3_leastWait (eCy E) a_t a_t_coming a_t_walking g_t_0 g_t_1 g_t_2 g_t_3 g_t_4 w_c_minutes w_c_standing w_c_coming w_c_walking) (W_X3_leastWait (eCy E) a_t a_t_coming a_t_walking g_t_0 g_t_1 g_t_2 g_t_3 g_t_4 w_c_minutes w_c_standing w_c_coming w_c_walking) (some (.long (wJ w)))) (hret : ∀ (pc : Nat) (L : List (Option Value)), decode cX3_leastWait pc = .ok (.lreturn, 1) → GG E 0 0 (W_X3_leastWait (eCy E) a_t a_t_coming a_t_walking g_t_0 g_t_1 g_t_2 g_t_3 g_t_4 c_minutes c_standing c_coming c_walking) L pc [.long (wJ v)]) : GG E 0 0 (W_X3_leastWait (eCy E) a_t a_t_coming a_t_walking g_t_0 g_t_1 g_t_2 g_t_3 g_t_4 c_minutes c_standing c_coming c_walking) [some (.ref a_t), some (.int (wI x1)), some (.int (wI x2)), some (.int (wI x3)), some (.long (wJ x4)), none, some (.long (wJ x6)), none, some (.long (wJ x8)), none, none, none, none, none, none, none] 0 [] := by
  unfold mz_X3_leastWait at h
  refine g_iload_n 1 C dX3_leastWait_0 rfl rfl ?_
  refine g_aload_n 0 C dX3_leastWait_1 rfl rfl ?_
  refine g_get C fg_X3_29 0 rfl rfl dX3_leastWait_2 ?_
  refine g_st (st' := [.int (wI c_minutes), .int (wI x1)]) rfl ?_
  refine g_icmp_ge 16 C dX3_leastWait_5 (by decide) h (fun h => ?_) (fun h => ?_)
  · refine g_mask [false, false, false, false, false, false, true, false, true, false, false, false, false, false, false, false] (L' := [none, none, none, none, none, none, some (.long (wJ x6)), none, some (.long (wJ x8)), none, none, none, none, none, none, none]) rfl ?_
    exact wb_X3_leastWait_16 C hN h hself hret
  · refine g_lload C dX3_leastWait_8 rfl ?_
    refine g_lload C dX3_leastWait_10 rfl ?_
    refine g_lcmp_lt 24 C dX3_leastWait_12 dX3_leastWait_13 (by decide) h (fun h => ?_) (fun h => ?_)
    · refine g_iload_n 2 C dX3_leastWait_24 rfl rfl ?_
      refine g_if_ne 35 C dX3_leastWait_25 (by decide) h (fun h => ?_) (fun h => ?_)
      · refine g_aload_n 0 C dX3_leastWait_35 rfl rfl ?_
        refine g_get C fg_X3_35 0 rfl rfl dX3_leastWait_36 ?_
        refine g_iload_n 1 C dX3_leastWait_39 rfl rfl ?_
        obtain ⟨hc1, h⟩ := chk_some h
        refine g_lald C 2 rfl hc1 rfl dX3_leastWait_40 ?_
        exact wb_X3_leastWait_41 C hN h hself hret
      · refine g_aload_n 0 C dX3_leastWait_28 rfl rfl ?_
        refine g_get C fg_X3_32 0 rfl rfl dX3_leastWait_29 ?_
        refine g_st (st' := [.long (wJ c_standing)]) rfl ?_
        refine g_goto (tgt := 41) C dX3_leastWait_32 (by decide) ?_
        exact wb_X3_leastWait_41 C hN h hself hret
    · refine g_mask [false, false, false, false, false, false, true, false, true, false, false, false, false, false, false, false] (L' := [none, none, none, none, none, none, some (.long (wJ x6)), none, some (.long (wJ x8)), none, none, none, none, none, none, none]) rfl ?_
      exact wb_X3_leastWait_16 C hN h hself hret
end S_X3_leastWait
set_option maxRecDepth 100000 in
set_option maxHeartbeats 4000000 in
theorem cr_X3_leastWait (l : Launch) (D : va_G) (cy : Nat → ClassId) (ad : AD) (a_t a_t_coming a_t_walking : Nat) (g_t_0 : Value) (g_t_1 : Value) (g_t_2 : Value) (g_t_3 : Value) (g_t_4 : Value) (F : Nat) : ∀ (d : Nat) (x1 : Int) (x2 : Int) (x3 : Int) (x4 : Int) (x6 : Int) (x8 : Int) (c_minutes : Int) (c_standing : Int) (c_coming : Int → Int) (c_walking : Int → Int) (v : Int), loopN (fun self q => mz_X3_leastWait F self q.1 q.2.1 q.2.2.1 q.2.2.2.1 q.2.2.2.2.1 q.2.2.2.2.2.1 q.2.2.2.2.2.2.1 q.2.2.2.2.2.2.2.1 q.2.2.2.2.2.2.2.2.1 q.2.2.2.2.2.2.2.2.2) d (x1, x2, x3, x4, x6, x8, c_minutes, c_standing, c_coming, c_walking) = some v → Ct l yX3_leastWait cX3_leastWait 16 (some .long) (rm_X3_leastWait d) D cy ad [.ref a_t, .int (wI x1), .int (wI x2), .int (wI x3), .long (wJ x4), .long (wJ x6), .long (wJ x8)] (W_X3_leastWait cy a_t a_t_coming a_t_walking g_t_0 g_t_1 g_t_2 g_t_3 g_t_4 c_minutes c_standing c_coming c_walking) (W_X3_leastWait cy a_t a_t_coming a_t_walking g_t_0 g_t_1 g_t_2 g_t_3 g_t_4 c_minutes c_standing c_coming c_walking) (some (.long (wJ v))) := by
  intro d
  induction d with
  | zero =>
    intro x1 x2 x3 x4 x6 x8 c_minutes c_standing c_coming c_walking v h
    cases h
  | succ d ih =>
    intro x1 x2 x3 x4 x6 x8 c_minutes c_standing c_coming c_walking v h
    refine Ct.introJ (j := 6) (plainFor_of_name (by decide)) rfl rfl (fun E C e1 e2 e3 e4 e5 hret => ?_)
    subst e1; subst e2; subst e3; subst e4
    have h : mz_X3_leastWait F (loopN (fun self q => mz_X3_leastWait F self q.1 q.2.1 q.2.2.1 q.2.2.2.1 q.2.2.2.2.1 q.2.2.2.2.2.1 q.2.2.2.2.2.2.1 q.2.2.2.2.2.2.2.1 q.2.2.2.2.2.2.2.2.1 q.2.2.2.2.2.2.2.2.2) d) x1 x2 x3 x4 x6 x8 c_minutes c_standing c_coming c_walking = some v := h
    exact wm_X3_leastWait C e5 h ih hret
theorem c_X3_leastWait (l : Launch) (D : va_G) (cy : Nat → ClassId) (ad : AD) (a_t a_t_coming a_t_walking : Nat) (g_t_0 : Value) (g_t_1 : Value) (g_t_2 : Value) (g_t_3 : Value) (g_t_4 : Value) (x1 : Int) (x2 : Int) (x3 : Int) (x4 : Int) (x6 : Int) (x8 : Int) (c_minutes : Int) (c_standing : Int) (c_coming : Int → Int) (c_walking : Int → Int) (F : Nat) {v : Int} (h : m_X3_leastWait F x1 x2 x3 x4 x6 x8 c_minutes c_standing c_coming c_walking = some v) : Ct l yX3_leastWait cX3_leastWait 16 (some .long) (rm_X3_leastWait 200) D cy ad [.ref a_t, .int (wI x1), .int (wI x2), .int (wI x3), .long (wJ x4), .long (wJ x6), .long (wJ x8)] (W_X3_leastWait cy a_t a_t_coming a_t_walking g_t_0 g_t_1 g_t_2 g_t_3 g_t_4 c_minutes c_standing c_coming c_walking) (W_X3_leastWait cy a_t a_t_coming a_t_walking g_t_0 g_t_1 g_t_2 g_t_3 g_t_4 c_minutes c_standing c_coming c_walking) (some (.long (wJ v))) := cr_X3_leastWait l D cy ad a_t a_t_coming a_t_walking g_t_0 g_t_1 g_t_2 g_t_3 g_t_4 F 200 x1 x2 x3 x4 x6 x8 c_minutes c_standing c_coming c_walking v h
-- MovingStair$Queue.changeLaws(LMovingStair$Slot;LMovingStair$Layout;IILMovingStair$Fraction;)V
def W_X3_changeLaws (cy : Nat → ClassId) (a_t a_p1 a_p2 a_p5 a_p1_numbers a_p2_speeds a_t_coming a_t_walking : Nat) (g_t_0 : Value) (g_t_1 : Value) (g_t_2 : Value) (g_p1_0 : Value) (g_p1_1 : Value) (g_p2_0 : Value) (g_p2_1 : Value) (g_p2_2 : Value) (g_p2_3 : Value) (g_p2_5 : Value) (g_p2_6 : Value) (g_p2_7 : Value) (g_p2_8 : Value) (g_p2_9 : Value) (g_p2_13 : Value) (g_p2_14 : Value) (g_p2_15 : Value) (g_p2_16 : Value) (c_leastFromStanding : Int) (c_leastOfAll : Int) (c_minutes : Int) (c_standing : Int) (c_p1_size : Int) (c_p2_sideStand : Int) (c_p2_sideWalk : Int) (c_p2_sidePace : Int) (c_p5_above : Int) (c_p5_below : Int) (c_p1_numbers : Int → Int) (c_p2_speeds : Int → Int) (c_coming : Int → Int) (c_walking : Int → Int) : va_W := [(a_t, .inr (3, [g_t_0, g_t_1, g_t_2, .long (wJ c_leastFromStanding), .long (wJ c_leastOfAll), .int (wI c_minutes), .long (wJ c_standing), .ref a_t_walking, .ref a_t_coming])), (a_p1, .inr (5, [g_p1_0, g_p1_1, .int (wI c_p1_size), .ref a_p1_numbers])), (a_p2, .inr (2, [g_p2_0, g_p2_1, g_p2_2, g_p2_3, .ref a_p2_speeds, g_p2_5, g_p2_6, g_p2_7, g_p2_8, g_p2_9, .int (wI c_p2_sideStand), .int (wI c_p2_sideWalk), .int (wI c_p2_sidePace), g_p2_13, g_p2_14, g_p2_15, g_p2_16])), (a_p5, .inr (1, [.long (wJ c_p5_above), .long (wJ c_p5_below)])), (a_p1_numbers, .inl (cy 2, 60, .inr (.inl (aJ c_p1_numbers)))), (a_p2_speeds, .inl (cy 1, 4, .inl (aI c_p2_speeds))), (a_t_coming, .inl (cy 2, 30, .inr (.inl (aJ c_coming)))), (a_t_walking, .inl (cy 2, 30, .inr (.inl (aJ c_walking))))]
def mb_X3_changeLaws_34 (F : Nat) (k34 : Int → Int → Int → (Int → Int) → (Int → Int) → Option (Int × Int × Int × Int × Int × Int × (Int → Int) × (Int → Int))) (x3 : Int) (x4 : Int) (x6 : Int) (c_minutes : Int) (c_standing : Int) (c_p2_sideStand : Int) (c_p2_sideWalk : Int) (c_p2_sidePace : Int) (c_p5_above : Int) (c_p5_below : Int) (c_p1_numbers : Int → Int) (c_p2_speeds : Int → Int) (c_coming : Int → Int) (c_walking : Int → Int) : Option (Int × Int × Int × Int × Int × Int × (Int → Int) × (Int → Int)) :=
  if wI c_minutes ≤ wI x6 then
    (bnd1 (m_X3_leastWait F 0 0 x4 0 0 899101 c_minutes c_standing c_coming c_walking) fun r1 => bnd1 (m_X3_leastWait F 0 1 x4 0 0 r1 c_minutes c_standing c_coming c_walking) fun r3 => some (r1, r3, c_minutes, c_standing, c_p5_above, c_p5_below, c_coming, c_walking))
  else
    (chk (0 ≤ (2 * x6) ∧ (2 * x6) < 60) <| nam (c_p1_numbers (2 * x6)) fun y2 => chk (0 ≤ x6 ∧ x6 < 30) <| chk (0 ≤ ((2 * x6) + 1) ∧ ((2 * x6) + 1) < 60) <| bnd2 (m_X2_putWalking F x3 (c_p1_numbers ((2 * x6) + 1)) c_p2_sideStand c_p2_sideWalk c_p2_sidePace c_p2_speeds) fun o5 o6 => bnd1 (m_X1_whole F o5 o6) fun r8 => chk (0 ≤ x6 ∧ x6 < 30) <| k34 (x6 + 1) o5 o6 (up c_coming x6 y2) (up c_walking x6 r8))
def ml_X3_changeLaws_34 (F : Nat) (x3 : Int) (x4 : Int) (x6 : Int) (c_minutes : Int) (c_standing : Int) (c_p2_sideStand : Int) (c_p2_sideWalk : Int) (c_p2_sidePace : Int) (c_p5_above : Int) (c_p5_below : Int) (c_p1_numbers : Int → Int) (c_p2_speeds : Int → Int) (c_coming : Int → Int) (c_walking : Int → Int) : Option (Int × Int × Int × Int × Int × Int × (Int → Int) × (Int → Int)) :=
  loopN (fun (k : Int × Int × Int × (Int → Int) × (Int → Int) → Option (Int × Int × Int × Int × Int × Int × (Int → Int) × (Int → Int))) q => mb_X3_changeLaws_34 F (fun y0 y1 y2 y3 y4 => k (y0, y1, y2, y3, y4)) x3 x4 q.1 c_minutes c_standing c_p2_sideStand c_p2_sideWalk c_p2_sidePace q.2.1 q.2.2.1 c_p1_numbers c_p2_speeds q.2.2.2.1 q.2.2.2.2) F (x6, c_p5_above, c_p5_below, c_coming, c_walking)
def m_X3_changeLaws (F : Nat) (x3 : Int) (x4 : Int) (c_p1_size : Int) (c_p2_sideStand : Int) (c_p2_sideWalk : Int) (c_p2_sidePace : Int) (c_p1_numbers : Int → Int) (c_p2_speeds : Int → Int) (c_coming : Int → Int) (c_walking : Int → Int) : Option (Int × Int × Int × Int × Int × Int × (Int → Int) × (Int → Int)) :=
  bnd2 (m_X2_putStanding F x3 c_p2_sideStand c_p2_speeds) fun o1 o2 => bnd1 (m_X1_whole F o1 o2) fun r4 => chk (dv32 c_p1_size 2) <| bnd1 (m_J9_min_7cf53 F 30 (c_p1_size.tdiv 2)) fun r7 => ml_X3_changeLaws_34 F x3 x4 0 r7 r4 c_p2_sideStand c_p2_sideWalk c_p2_sidePace o1 o2 c_p1_numbers c_p2_speeds c_coming c_walking
section S_X3_changeLaws
variable {E : EE} {a_t a_p1 a_p2 a_p5 a_p1_numbers a_p2_speeds a_t_coming a_t_walking : Nat} {g_t_0 : Value} {g_t_1 : Value} {g_t_2 : Value} {g_p1_0 : Value} {g_p1_1 : Value} {g_p2_0 : Value} {g_p2_1 : Value} {g_p2_2 : Value} {g_p2_3 : Value} {g_p2_5 : Value} {g_p2_6 : Value} {g_p2_7 : Value} {g_p2_8 : Value} {g_p2_9 : Value} {g_p2_13 : Value} {g_p2_14 : Value} {g_p2_15 : Value} {g_p2_16 : Value}
set_option maxRecDepth 100000 in
set_option maxHeartbeats 4000000 in
theorem wb_X3_changeLaws_34 {F : Nat} {k34 : Int → Int → Int → (Int → Int) → (Int → Int) → Option (Int × Int × Int × Int × Int × Int × (Int → Int) × (Int → Int))} {v : Int × Int × Int × Int × Int × Int × (Int → Int) × (Int → Int)} {x3 : Int} {x4 : Int} {x6 : Int} {c_minutes : Int} {c_standing : Int} {c_p2_sideStand : Int} {c_p2_sideWalk : Int} {c_p2_sidePace : Int} {c_p5_above : Int} {c_p5_below : Int} {c_p1_numbers : Int → Int} {c_p2_speeds : Int → Int} {c_coming : Int → Int} {c_walking : Int → Int} {c_leastFromStanding : Int} {c_leastOfAll : Int} {c_p1_size : Int} (C : Cx E cX3_changeLaws RX3 { frames := 202, cells := 0, slots := 0, locals := 7058 }) (hN : eN E = 7) (h : mb_X3_changeLaws_34 F k34 x3 x4 x6 c_minutes c_standing c_p2_sideStand c_p2_sideWalk c_p2_sidePace c_p5_above c_p5_below c_p1_numbers c_p2_speeds c_coming c_walking = some v) (hk34 : ∀ (y_x6 : Int) (y_c_p5_above : Int) (y_c_p5_below : Int) (y_c_coming : Int → Int) (y_c_walking : Int → Int) (z_c_leastFromStanding : Int) (z_c_leastOfAll : Int), k34 y_x6 y_c_p5_above y_c_p5_below y_c_coming y_c_walking = some v → GG E 0 0 (W_X3_changeLaws (eCy E) a_t a_p1 a_p2 a_p5 a_p1_numbers a_p2_speeds a_t_coming a_t_walking g_t_0 g_t_1 g_t_2 g_p1_0 g_p1_1 g_p2_0 g_p2_1 g_p2_2 g_p2_3 g_p2_5 g_p2_6 g_p2_7 g_p2_8 g_p2_9 g_p2_13 g_p2_14 g_p2_15 g_p2_16 z_c_leastFromStanding z_c_leastOfAll c_minutes c_standing c_p1_size c_p2_sideStand c_p2_sideWalk c_p2_sidePace y_c_p5_above y_c_p5_below c_p1_numbers c_p2_speeds y_c_coming y_c_walking) [some (.ref a_t), some (.ref a_p1), some (.ref a_p2), some (.int (wI x3)), some (.int (wI x4)), some (.ref a_p5), some (.int (wI y_x6))] 34 []) (hret : ∀ (pc : Nat) (L : List (Option Value)), decode cX3_changeLaws pc = .ok (.return_, 1) → GG E 0 0 (W_X3_changeLaws (eCy E) a_t a_p1 a_p2 a_p5 a_p1_numbers a_p2_speeds a_t_coming a_t_walking g_t_0 g_t_1 g_t_2 g_p1_0 g_p1_1 g_p2_0 g_p2_1 g_p2_2 g_p2_3 g_p2_5 g_p2_6 g_p2_7 g_p2_8 g_p2_9 g_p2_13 g_p2_14 g_p2_15 g_p2_16 (v.1) (v.2.1) (v.2.2.1) (v.2.2.2.1) c_p1_size c_p2_sideStand c_p2_sideWalk c_p2_sidePace (v.2.2.2.2.1) (v.2.2.2.2.2.1) c_p1_numbers c_p2_speeds (v.2.2.2.2.2.2.1) (v.2.2.2.2.2.2.2)) L pc []) : GG E 0 0 (W_X3_changeLaws (eCy E) a_t a_p1 a_p2 a_p5 a_p1_numbers a_p2_speeds a_t_coming a_t_walking g_t_0 g_t_1 g_t_2 g_p1_0 g_p1_1 g_p2_0 g_p2_1 g_p2_2 g_p2_3 g_p2_5 g_p2_6 g_p2_7 g_p2_8 g_p2_9 g_p2_13 g_p2_14 g_p2_15 g_p2_16 c_leastFromStanding c_leastOfAll c_minutes c_standing c_p1_size c_p2_sideStand c_p2_sideWalk c_p2_sidePace c_p5_above c_p5_below c_p1_numbers c_p2_speeds c_coming c_walking) [some (.ref a_t), some (.ref a_p1), some (.ref a_p2), some (.int (wI x3)), some (.int (wI x4)), some (.ref a_p5), some (.int (wI x6))] 34 [] := by
  unfold mb_X3_changeLaws_34 at h
  refine g_iload C dX3_changeLaws_34 rfl ?_
  refine g_aload_n 0 C dX3_changeLaws_36 rfl rfl ?_
  refine g_get C fg_X3_29 0 rfl rfl dX3_changeLaws_37 ?_
  refine g_st (st' := [.int (wI c_minutes), .int (wI x6)]) rfl ?_
  refine g_icmp_ge 96 C dX3_changeLaws_40 (by decide) h (fun h => ?_) (fun h => ?_)
  · refine g_aload_n 0 C dX3_changeLaws_96 rfl rfl ?_
    refine g_aload_n 0 C dX3_changeLaws_97 rfl rfl ?_
    refine g_iconst C dX3_changeLaws_98 ?_
    refine g_iconst C dX3_changeLaws_99 ?_
    refine g_iload C dX3_changeLaws_100 rfl ?_
    refine g_lconst (x := 0) C dX3_changeLaws_102 (by decide) ?_
    refine g_lconst (x := 0) C dX3_changeLaws_103 (by decide) ?_
    refine g_ldc2 (v := 899101) C mc_X3_78 dX3_changeLaws_104 ?_
    obtain ⟨r1, hr2, h⟩ := bnd1_some h
    refine g_callJ [0, 6, 7] [1, 2, 3, 4, 5] [5, 0, 1, 2, 3, 4, 6, 7] C mt_X3_80 (c_X3_leastWait _ _ _ _ a_t a_t_coming a_t_walking (g_t_0) (g_t_1) (g_t_2) (.long (wJ c_leastFromStanding)) (.long (wJ c_leastOfAll)) 0 0 x4 0 0 899101 c_minutes c_standing c_coming c_walking F hr2) (q0 := 0) rfl (ci := 3) rfl rfl rfl (ws2 := (W_X3_changeLaws (eCy E) a_t a_p1 a_p2 a_p5 a_p1_numbers a_p2_speeds a_t_coming a_t_walking g_t_0 g_t_1 g_t_2 g_p1_0 g_p1_1 g_p2_0 g_p2_1 g_p2_2 g_p2_3 g_p2_5 g_p2_6 g_p2_7 g_p2_8 g_p2_9 g_p2_13 g_p2_14 g_p2_15 g_p2_16 c_leastFromStanding c_leastOfAll c_minutes c_standing c_p1_size c_p2_sideStand c_p2_sideWalk c_p2_sidePace c_p5_above c_p5_below c_p1_numbers c_p2_speeds c_coming c_walking)) rfl rfl rfl (rest := [.ref a_t]) rfl rfl rfl dX3_changeLaws_107 ?_
    refine g_putJ C fp_X3_23 0 rfl rfl (ws' := (W_X3_changeLaws (eCy E) a_t a_p1 a_p2 a_p5 a_p1_numbers a_p2_speeds a_t_coming a_t_walking g_t_0 g_t_1 g_t_2 g_p1_0 g_p1_1 g_p2_0 g_p2_1 g_p2_2 g_p2_3 g_p2_5 g_p2_6 g_p2_7 g_p2_8 g_p2_9 g_p2_13 g_p2_14 g_p2_15 g_p2_16 r1 c_leastOfAll c_minutes c_standing c_p1_size c_p2_sideStand c_p2_sideWalk c_p2_sidePace c_p5_above c_p5_below c_p1_numbers c_p2_speeds c_coming c_walking)) rfl dX3_changeLaws_110 ?_
    refine g_aload_n 0 C dX3_changeLaws_113 rfl rfl ?_
    refine g_aload_n 0 C dX3_changeLaws_114 rfl rfl ?_
    refine g_iconst C dX3_changeLaws_115 ?_
    refine g_iconst C dX3_changeLaws_116 ?_
    refine g_iload C dX3_changeLaws_117 rfl ?_
    refine g_lconst (x := 0) C dX3_changeLaws_119 (by decide) ?_
    refine g_lconst (x := 0) C dX3_changeLaws_120 (by decide) ?_
    refine g_aload_n 0 C dX3_changeLaws_121 rfl rfl ?_
    refine g_get C fg_X3_23 0 rfl rfl dX3_changeLaws_122 ?_
    refine g_st (st' := [.long (wJ r1), .long (wJ 0), .long (wJ 0), .int (wI x4), .int (wI 1), .int (wI 0), .ref a_t, .ref a_t]) rfl ?_
    obtain ⟨r3, hr4, h⟩ := bnd1_some h
    refine g_callJ [0, 6, 7] [1, 2, 3, 4, 5] [5, 0, 1, 2, 3, 4, 6, 7] C mt_X3_80 (c_X3_leastWait _ _ _ _ a_t a_t_coming a_t_walking (g_t_0) (g_t_1) (g_t_2) (.long (wJ r1)) (.long (wJ c_leastOfAll)) 0 1 x4 0 0 r1 c_minutes c_standing c_coming c_walking F hr4) (q0 := 0) rfl (ci := 3) rfl rfl rfl (ws2 := (W_X3_changeLaws (eCy E) a_t a_p1 a_p2 a_p5 a_p1_numbers a_p2_speeds a_t_coming a_t_walking g_t_0 g_t_1 g_t_2 g_p1_0 g_p1_1 g_p2_0 g_p2_1 g_p2_2 g_p2_3 g_p2_5 g_p2_6 g_p2_7 g_p2_8 g_p2_9 g_p2_13 g_p2_14 g_p2_15 g_p2_16 r1 c_leastOfAll c_minutes c_standing c_p1_size c_p2_sideStand c_p2_sideWalk c_p2_sidePace c_p5_above c_p5_below c_p1_numbers c_p2_speeds c_coming c_walking)) rfl rfl rfl (rest := [.ref a_t]) rfl rfl rfl dX3_changeLaws_125 ?_
    refine g_putJ C fp_X3_26 0 rfl rfl (ws' := (W_X3_changeLaws (eCy E) a_t a_p1 a_p2 a_p5 a_p1_numbers a_p2_speeds a_t_coming a_t_walking g_t_0 g_t_1 g_t_2 g_p1_0 g_p1_1 g_p2_0 g_p2_1 g_p2_2 g_p2_3 g_p2_5 g_p2_6 g_p2_7 g_p2_8 g_p2_9 g_p2_13 g_p2_14 g_p2_15 g_p2_16 r1 r3 c_minutes c_standing c_p1_size c_p2_sideStand c_p2_sideWalk c_p2_sidePace c_p5_above c_p5_below c_p1_numbers c_p2_speeds c_coming c_walking)) rfl dX3_changeLaws_128 ?_
    cases h
    exact hret 131 _ dX3_changeLaws_131
  · refine g_aload_n 0 C dX3_changeLaws_43 rfl rfl ?_
    refine g_get C fg_X3_39 0 rfl rfl dX3_changeLaws_44 ?_
    refine g_iload C dX3_changeLaws_47 rfl ?_
    refine g_aload_n 1 C dX3_changeLaws_49 rfl rfl ?_
    refine g_get C fg_X3_47 1 rfl rfl dX3_changeLaws_50 ?_
    refine g_iconst C dX3_changeLaws_53 ?_
    refine g_iload C dX3_changeLaws_54 rfl ?_
    refine g_imul C dX3_changeLaws_56 ?_
    obtain ⟨hc1, h⟩ := chk_some h
    refine g_lald C 4 rfl hc1 rfl dX3_changeLaws_57 ?_
    obtain ⟨y2, e_y2, h⟩ := nam_some h
    refine g_topJ e_y2 ?_
    obtain ⟨hc3, h⟩ := chk_some h
    refine g_last C 6 rfl hc3 rfl (ws' := (W_X3_changeLaws (eCy E) a_t a_p1 a_p2 a_p5 a_p1_numbers a_p2_speeds a_t_coming a_t_walking g_t_0 g_t_1 g_t_2 g_p1_0 g_p1_1 g_p2_0 g_p2_1 g_p2_2 g_p2_3 g_p2_5 g_p2_6 g_p2_7 g_p2_8 g_p2_9 g_p2_13 g_p2_14 g_p2_15 g_p2_16 c_leastFromStanding c_leastOfAll c_minutes c_standing c_p1_size c_p2_sideStand c_p2_sideWalk c_p2_sidePace c_p5_above c_p5_below c_p1_numbers c_p2_speeds (up c_coming x6 y2) c_walking)) rfl dX3_changeLaws_58 ?_
    refine g_aload_n 2 C dX3_changeLaws_59 rfl rfl ?_
    refine g_iload_n 3 C dX3_changeLaws_60 rfl rfl ?_
    refine g_aload_n 1 C dX3_changeLaws_61 rfl rfl ?_
    refine g_get C fg_X3_47 1 rfl rfl dX3_changeLaws_62 ?_
    refine g_iconst C dX3_changeLaws_65 ?_
    refine g_iload C dX3_changeLaws_66 rfl ?_
    refine g_imul C dX3_changeLaws_68 ?_
    refine g_iconst C dX3_changeLaws_69 ?_
    refine g_iadd C dX3_changeLaws_70 ?_
    obtain ⟨hc4, h⟩ := chk_some h
    refine g_lald C 4 rfl hc4 rfl dX3_changeLaws_71 ?_
    refine g_l2i C dX3_changeLaws_72 ?_
    refine g_aload C dX3_changeLaws_73 rfl ?_
    obtain ⟨o5, o6, hr7, h⟩ := bnd2_some h
    refine g_callV [2, 3, 5] [0, 1, 4, 6, 7] [0, 1, 5, 6, 2, 7, 3, 4] C mt_X3_74 (c_X2_putWalking _ _ _ _ a_p2 a_p5 a_p2_speeds (g_p2_0) (g_p2_1) (g_p2_2) (g_p2_3) (g_p2_5) (g_p2_6) (g_p2_7) (g_p2_8) (g_p2_9) (g_p2_13) (g_p2_14) (g_p2_15) (g_p2_16) x3 (c_p1_numbers ((2 * x6) + 1)) c_p2_sideStand c_p2_sideWalk c_p2_sidePace c_p5_above c_p5_below c_p2_speeds F hr7) (q0 := 0) rfl (ci := 2) rfl rfl rfl (ws2 := (W_X3_changeLaws (eCy E) a_t a_p1 a_p2 a_p5 a_p1_numbers a_p2_speeds a_t_coming a_t_walking g_t_0 g_t_1 g_t_2 g_p1_0 g_p1_1 g_p2_0 g_p2_1 g_p2_2 g_p2_3 g_p2_5 g_p2_6 g_p2_7 g_p2_8 g_p2_9 g_p2_13 g_p2_14 g_p2_15 g_p2_16 c_leastFromStanding c_leastOfAll c_minutes c_standing c_p1_size c_p2_sideStand c_p2_sideWalk c_p2_sidePace o5 o6 c_p1_numbers c_p2_speeds (up c_coming x6 y2) c_walking)) rfl rfl rfl (rest := []) rfl rfl rfl dX3_changeLaws_75 ?_
    refine g_aload_n 0 C dX3_changeLaws_78 rfl rfl ?_
    refine g_get C fg_X3_35 0 rfl rfl dX3_changeLaws_79 ?_
    refine g_iload C dX3_changeLaws_82 rfl ?_
    refine g_aload C dX3_changeLaws_84 rfl ?_
    obtain ⟨r8, hr9, h⟩ := bnd1_some h
    refine g_callJ [3] [0, 1, 2, 4, 5, 6, 7] [0, 1, 2, 7, 3, 4, 5, 6] C mt_X3_64 (c_X1_whole _ _ _ _ a_p5 o5 o6 F hr9) (q0 := 0) rfl (ci := 1) rfl rfl rfl (ws2 := (W_X3_changeLaws (eCy E) a_t a_p1 a_p2 a_p5 a_p1_numbers a_p2_speeds a_t_coming a_t_walking g_t_0 g_t_1 g_t_2 g_p1_0 g_p1_1 g_p2_0 g_p2_1 g_p2_2 g_p2_3 g_p2_5 g_p2_6 g_p2_7 g_p2_8 g_p2_9 g_p2_13 g_p2_14 g_p2_15 g_p2_16 c_leastFromStanding c_leastOfAll c_minutes c_standing c_p1_size c_p2_sideStand c_p2_sideWalk c_p2_sidePace o5 o6 c_p1_numbers c_p2_speeds (up c_coming x6 y2) c_walking)) rfl rfl rfl (rest := [.int (wI x6), .ref a_t_walking]) rfl rfl rfl dX3_changeLaws_86 ?_
    obtain ⟨hc10, h⟩ := chk_some h
    refine g_last C 7 rfl hc10 rfl (ws' := (W_X3_changeLaws (eCy E) a_t a_p1 a_p2 a_p5 a_p1_numbers a_p2_speeds a_t_coming a_t_walking g_t_0 g_t_1 g_t_2 g_p1_0 g_p1_1 g_p2_0 g_p2_1 g_p2_2 g_p2_3 g_p2_5 g_p2_6 g_p2_7 g_p2_8 g_p2_9 g_p2_13 g_p2_14 g_p2_15 g_p2_16 c_leastFromStanding c_leastOfAll c_minutes c_standing c_p1_size c_p2_sideStand c_p2_sideWalk c_p2_sidePace o5 o6 c_p1_numbers c_p2_speeds (up c_coming x6 y2) (up c_walking x6 r8))) rfl dX3_changeLaws_89 ?_
    refine g_iinc C hN dX3_changeLaws_90 rfl rfl (L' := [some (.ref a_t), some (.ref a_p1), some (.ref a_p2), some (.int (wI x3)), some (.int (wI x4)), some (.ref a_p5), some (.int (wI (x6 + 1)))]) rfl ?_
    refine g_goto (tgt := 34) C dX3_changeLaws_93 (by decide) ?_
    exact hk34 _ _ _ _ _ _ _ h
set_option maxRecDepth 100000 in
set_option maxHeartbeats 4000000 in
theorem wl_X3_changeLaws_34 {F : Nat} {v : Int × Int × Int × Int × Int × Int × (Int → Int) × (Int → Int)} {x3 : Int} {x4 : Int} {x6 : Int} {c_minutes : Int} {c_standing : Int} {c_p2_sideStand : Int} {c_p2_sideWalk : Int} {c_p2_sidePace : Int} {c_p5_above : Int} {c_p5_below : Int} {c_p1_numbers : Int → Int} {c_p2_speeds : Int → Int} {c_coming : Int → Int} {c_walking : Int → Int} {c_leastFromStanding : Int} {c_leastOfAll : Int} {c_p1_size : Int} (C : Cx E cX3_changeLaws RX3 { frames := 202, cells := 0, slots := 0, locals := 7058 }) (hN : eN E = 7) (h : ml_X3_changeLaws_34 F x3 x4 x6 c_minutes c_standing c_p2_sideStand c_p2_sideWalk c_p2_sidePace c_p5_above c_p5_below c_p1_numbers c_p2_speeds c_coming c_walking = some v) (hret : ∀ (pc : Nat) (L : List (Option Value)), decode cX3_changeLaws pc = .ok (.return_, 1) → GG E 0 0 (W_X3_changeLaws (eCy E) a_t a_p1 a_p2 a_p5 a_p1_numbers a_p2_speeds a_t_coming a_t_walking g_t_0 g_t_1 g_t_2 g_p1_0 g_p1_1 g_p2_0 g_p2_1 g_p2_2 g_p2_3 g_p2_5 g_p2_6 g_p2_7 g_p2_8 g_p2_9 g_p2_13 g_p2_14 g_p2_15 g_p2_16 (v.1) (v.2.1) (v.2.2.1) (v.2.2.2.1) c_p1_size c_p2_sideStand c_p2_sideWalk c_p2_sidePace (v.2.2.2.2.1) (v.2.2.2.2.2.1) c_p1_numbers c_p2_speeds (v.2.2.2.2.2.2.1) (v.2.2.2.2.2.2.2)) L pc []) : GG E 0 0 (W_X3_changeLaws (eCy E) a_t a_p1 a_p2 a_p5 a_p1_numbers a_p2_speeds a_t_coming a_t_walking g_t_0 g_t_1 g_t_2 g_p1_0 g_p1_1 g_p2_0 g_p2_1 g_p2_2 g_p2_3 g_p2_5 g_p2_6 g_p2_7 g_p2_8 g_p2_9 g_p2_13 g_p2_14 g_p2_15 g_p2_16 c_leastFromStanding c_leastOfAll c_minutes c_standing c_p1_size c_p2_sideStand c_p2_sideWalk c_p2_sidePace c_p5_above c_p5_below c_p1_numbers c_p2_speeds c_coming c_walking) [some (.ref a_t), some (.ref a_p1), some (.ref a_p2), some (.int (wI x3)), some (.int (wI x4)), some (.ref a_p5), some (.int (wI x6))] 34 [] := by
  unfold ml_X3_changeLaws_34 at h
  exact loop_walk (g := fun (q : Int × Int × Int × (Int → Int) × (Int → Int)) => ∀ (z_c_leastFromStanding : Int) (z_c_leastOfAll : Int), GG E 0 0 (W_X3_changeLaws (eCy E) a_t a_p1 a_p2 a_p5 a_p1_numbers a_p2_speeds a_t_coming a_t_walking g_t_0 g_t_1 g_t_2 g_p1_0 g_p1_1 g_p2_0 g_p2_1 g_p2_2 g_p2_3 g_p2_5 g_p2_6 g_p2_7 g_p2_8 g_p2_9 g_p2_13 g_p2_14 g_p2_15 g_p2_16 z_c_leastFromStanding z_c_leastOfAll c_minutes c_standing c_p1_size c_p2_sideStand c_p2_sideWalk c_p2_sidePace (q.2.1) (q.2.2.1) c_p1_numbers c_p2_speeds (q.2.2.2.1) (q.2.2.2.2)) [some (.ref a_t), some (.ref a_p1), some (.ref a_p2), some (.int (wI x3)), some (.int (wI x4)), some (.ref a_p5), some (.int (wI (q.1)))] 34 []) (fun k hk q h z_c_leastFromStanding z_c_leastOfAll => wb_X3_changeLaws_34 C hN h (fun y0 y1 y2 y3 y4 u0 u1 hh => hk (y0, y1, y2, y3, y4) hh u0 u1) hret) F (x6, c_p5_above, c_p5_below, c_coming, c_walking) h _ _
set_option maxRecDepth 100000 in
set_option maxHeartbeats 4000000 in
theorem wm_X3_changeLaws {F : Nat} {v : Int × Int × Int × Int × Int × Int × (Int → Int) × (Int → Int)} {x3 : Int} {x4 : Int} {c_p1_size : Int} {c_p2_sideStand : Int} {c_p2_sideWalk : Int} {c_p2_sidePace : Int} {c_p1_numbers : Int → Int} {c_p2_speeds : Int → Int} {c_coming : Int → Int} {c_walking : Int → Int} {c_leastFromStanding : Int} {c_leastOfAll : Int} {c_minutes : Int} {c_standing : Int} {c_p5_above : Int} {c_p5_below : Int} (C : Cx E cX3_changeLaws RX3 { frames := 202, cells := 0, slots := 0, locals := 7058 }) (hN : eN E = 7) (h : m_X3_changeLaws F x3 x4 c_p1_size c_p2_sideStand c_p2_sideWalk c_p2_sidePace c_p1_numbers c_p2_speeds c_coming c_walking = some v) (hret : ∀ (pc : Nat) (L : List (Option Value)), decode cX3_changeLaws pc = .ok (.return_, 1) → GG E 0 0 (W_X3_changeLaws (eCy E) a_t a_p1 a_p2 a_p5 a_p1_numbers a_p2_speeds a_t_coming a_t_walking g_t_0 g_t_1 g_t_2 g_p1_0 g_p1_1 g_p2_0 g_p2_1 g_p2_2 g_p2_3 g_p2_5 g_p2_6 g_p2_7 g_p2_8 g_p2_9 g_p2_13 g_p2_14 g_p2_15 g_p2_16 (v.1) (v.2.1) (v.2.2.1) (v.2.2.2.1) c_p1_size c_p2_sideStand c_p2_sideWalk c_p2_sidePace (v.2.2.2.2.1) (v.2.2.2.2.2.1) c_p1_numbers c_p2_speeds (v.2.2.2.2.2.2.1) (v.2.2.2.2.2.2.2)) L pc []) : GG E 0 0 (W_X3_changeLaws (eCy E) a_t a_p1 a_p2 a_p5 a_p1_numbers a_p2_speeds a_t_coming a_t_walking g_t_0 g_t_1 g_t_2 g_p1_0 g_p1_1 g_p2_0 g_p2_1 g_p2_2 g_p2_3 g_p2_5 g_p2_6 g_p2_7 g_p2_8 g_p2_9 g_p2_13 g_p2_14 g_p2_15 g_p2_16 c_leastFromStanding c_leastOfAll c_minutes c_standing c_p1_size c_p2_sideStand c_p2_sideWalk c_p2_sidePace c_p5_above c_p5_below c_p1_numbers c_p2_speeds c_coming c_walking) [some (.ref a_t), some (.ref a_p1), some (.ref a_p2), some (.int (wI x3)), some (.int (wI x4)), some (.ref a_p5), none] 0 [] := by
  unfold m_X3_changeLaws at h
  refine g_aload_n 2 C dX3_changeLaws_0 rfl rfl ?_
  refine g_iload_n 3 C dX3_changeLaws_1 rfl rfl ?_
  refine g_aload C dX3_changeLaws_2 rfl ?_
  obtain ⟨o1, o2, hr3, h⟩ := bnd2_some h
  refine g_callV [2, 3, 5] [0, 1, 4, 6, 7] [0, 1, 5, 6, 2, 7, 3, 4] C mt_X3_58 (c_X2_putStanding _ _ _ _ a_p2 a_p5 a_p2_speeds (g_p2_0) (g_p2_1) (g_p2_2) (g_p2_3) (g_p2_5) (g_p2_6) (g_p2_7) (g_p2_8) (g_p2_9) (.int (wI c_p2_sideWalk)) (.int (wI c_p2_sidePace)) (g_p2_13) (g_p2_14) (g_p2_15) (g_p2_16) x3 c_p2_sideStand c_p5_above c_p5_below c_p2_speeds F hr3) (q0 := 0) rfl (ci := 2) rfl rfl rfl (ws2 := (W_X3_changeLaws (eCy E) a_t a_p1 a_p2 a_p5 a_p1_numbers a_p2_speeds a_t_coming a_t_walking g_t_0 g_t_1 g_t_2 g_p1_0 g_p1_1 g_p2_0 g_p2_1 g_p2_2 g_p2_3 g_p2_5 g_p2_6 g_p2_7 g_p2_8 g_p2_9 g_p2_13 g_p2_14 g_p2_15 g_p2_16 c_leastFromStanding c_leastOfAll c_minutes c_standing c_p1_size c_p2_sideStand c_p2_sideWalk c_p2_sidePace o1 o2 c_p1_numbers c_p2_speeds c_coming c_walking)) rfl rfl rfl (rest := []) rfl rfl rfl dX3_changeLaws_4 ?_
  refine g_aload_n 0 C dX3_changeLaws_7 rfl rfl ?_
  refine g_aload C dX3_changeLaws_8 rfl ?_
  obtain ⟨r4, hr5, h⟩ := bnd1_some h
  refine g_callJ [3] [0, 1, 2, 4, 5, 6, 7] [0, 1, 2, 7, 3, 4, 5, 6] C mt_X3_64 (c_X1_whole _ _ _ _ a_p5 o1 o2 F hr5) (q0 := 0) rfl (ci := 1) rfl rfl rfl (ws2 := (W_X3_changeLaws (eCy E) a_t a_p1 a_p2 a_p5 a_p1_numbers a_p2_speeds a_t_coming a_t_walking g_t_0 g_t_1 g_t_2 g_p1_0 g_p1_1 g_p2_0 g_p2_1 g_p2_2 g_p2_3 g_p2_5 g_p2_6 g_p2_7 g_p2_8 g_p2_9 g_p2_13 g_p2_14 g_p2_15 g_p2_16 c_leastFromStanding c_leastOfAll c_minutes c_standing c_p1_size c_p2_sideStand c_p2_sideWalk c_p2_sidePace o1 o2 c_p1_numbers c_p2_speeds c_coming c_walking)) rfl rfl rfl (rest := [.ref a_t]) rfl rfl rfl dX3_changeLaws_10 ?_
  refine g_putJ C fp_X3_32 0 rfl rfl (ws' := (W_X3_changeLaws (eCy E) a_t a_p1 a_p2 a_p5 a_p1_numbers a_p2_speeds a_t_coming a_t_walking g_t_0 g_t_1 g_t_2 g_p1_0 g_p1_1 g_p2_0 g_p2_1 g_p2_2 g_p2_3 g_p2_5 g_p2_6 g_p2_7 g_p2_8 g_p2_9 g_p2_13 g_p2_14 g_p2_15 g_p2_16 c_leastFromStanding c_leastOfAll c_minutes r4 c_p1_size c_p2_sideStand c_p2_sideWalk c_p2_sidePace o1 o2 c_p1_numbers c_p2_speeds c_coming c_walking)) rfl dX3_changeLaws_13 ?_
  refine g_aload_n 0 C dX3_changeLaws_16 rfl rfl ?_
  refine g_bipush C dX3_changeLaws_17 (by decide) ?_
  refine g_aload_n 1 C dX3_changeLaws_19 rfl rfl ?_
  refine g_get C fg_X3_42 1 rfl rfl dX3_changeLaws_20 ?_
  refine g_st (st' := [.int (wI c_p1_size), .int (wI 30), .ref a_t]) rfl ?_
  refine g_iconst C dX3_changeLaws_23 ?_
  obtain ⟨hc6, h⟩ := chk_some h
  refine g_idiv C dX3_changeLaws_24 hc6 ?_
  obtain ⟨r7, hr8, h⟩ := bnd1_some h
  refine g_callSI [] [0, 1, 2, 3, 4, 5, 6, 7] [0, 1, 2, 3, 4, 5, 6, 7] C mt_X3_70 (c_J9_min_7cf53 _ _ _ _ 30 (c_p1_size.tdiv 2) F hr8) rfl rfl (ws2 := (W_X3_changeLaws (eCy E) a_t a_p1 a_p2 a_p5 a_p1_numbers a_p2_speeds a_t_coming a_t_walking g_t_0 g_t_1 g_t_2 g_p1_0 g_p1_1 g_p2_0 g_p2_1 g_p2_2 g_p2_3 g_p2_5 g_p2_6 g_p2_7 g_p2_8 g_p2_9 g_p2_13 g_p2_14 g_p2_15 g_p2_16 c_leastFromStanding c_leastOfAll c_minutes r4 c_p1_size c_p2_sideStand c_p2_sideWalk c_p2_sidePace o1 o2 c_p1_numbers c_p2_speeds c_coming c_walking)) rfl rfl rfl (rest := [.ref a_t]) rfl rfl rfl dX3_changeLaws_25 ?_
  refine g_putI C fp_X3_29 0 rfl rfl (ws' := (W_X3_changeLaws (eCy E) a_t a_p1 a_p2 a_p5 a_p1_numbers a_p2_speeds a_t_coming a_t_walking g_t_0 g_t_1 g_t_2 g_p1_0 g_p1_1 g_p2_0 g_p2_1 g_p2_2 g_p2_3 g_p2_5 g_p2_6 g_p2_7 g_p2_8 g_p2_9 g_p2_13 g_p2_14 g_p2_15 g_p2_16 c_leastFromStanding c_leastOfAll r7 r4 c_p1_size c_p2_sideStand c_p2_sideWalk c_p2_sidePace o1 o2 c_p1_numbers c_p2_speeds c_coming c_walking)) rfl dX3_changeLaws_28 ?_
  refine g_iconst C dX3_changeLaws_31 ?_
  refine g_istore C hN dX3_changeLaws_32 rfl (L' := [some (.ref a_t), some (.ref a_p1), some (.ref a_p2), some (.int (wI x3)), some (.int (wI x4)), some (.ref a_p5), some (.int (wI 0))]) rfl ?_
  exact wl_X3_changeLaws_34 C hN h hret
end S_X3_changeLaws
set_option maxRecDepth 100000 in
set_option maxHeartbeats 4000000 in
theorem c_X3_changeLaws (l : Launch) (D : va_G) (cy : Nat → ClassId) (ad : AD) (a_t a_p1 a_p2 a_p5 a_p1_numbers a_p2_speeds a_t_coming a_t_walking : Nat) (g_t_0 : Value) (g_t_1 : Value) (g_t_2 : Value) (g_p1_0 : Value) (g_p1_1 : Value) (g_p2_0 : Value) (g_p2_1 : Value) (g_p2_2 : Value) (g_p2_3 : Value) (g_p2_5 : Value) (g_p2_6 : Value) (g_p2_7 : Value) (g_p2_8 : Value) (g_p2_9 : Value) (g_p2_13 : Value) (g_p2_14 : Value) (g_p2_15 : Value) (g_p2_16 : Value) (x3 : Int) (x4 : Int) (c_leastFromStanding : Int) (c_leastOfAll : Int) (c_minutes : Int) (c_standing : Int) (c_p1_size : Int) (c_p2_sideStand : Int) (c_p2_sideWalk : Int) (c_p2_sidePace : Int) (c_p5_above : Int) (c_p5_below : Int) (c_p1_numbers : Int → Int) (c_p2_speeds : Int → Int) (c_coming : Int → Int) (c_walking : Int → Int) (F : Nat) {v : Int × Int × Int × Int × Int × Int × (Int → Int) × (Int → Int)} (h : m_X3_changeLaws F x3 x4 c_p1_size c_p2_sideStand c_p2_sideWalk c_p2_sidePace c_p1_numbers c_p2_speeds c_coming c_walking = some v) : Ct l yX3_changeLaws cX3_changeLaws 7 none { frames := 202, cells := 0, slots := 0, locals := 7058 } D cy ad [.ref a_t, .ref a_p1, .ref a_p2, .int (wI x3), .int (wI x4), .ref a_p5] (W_X3_changeLaws cy a_t a_p1 a_p2 a_p5 a_p1_numbers a_p2_speeds a_t_coming a_t_walking g_t_0 g_t_1 g_t_2 g_p1_0 g_p1_1 g_p2_0 g_p2_1 g_p2_2 g_p2_3 g_p2_5 g_p2_6 g_p2_7 g_p2_8 g_p2_9 g_p2_13 g_p2_14 g_p2_15 g_p2_16 c_leastFromStanding c_leastOfAll c_minutes c_standing c_p1_size c_p2_sideStand c_p2_sideWalk c_p2_sidePace c_p5_above c_p5_below c_p1_numbers c_p2_speeds c_coming c_walking) (W_X3_changeLaws cy a_t a_p1 a_p2 a_p5 a_p1_numbers a_p2_speeds a_t_coming a_t_walking g_t_0 g_t_1 g_t_2 g_p1_0 g_p1_1 g_p2_0 g_p2_1 g_p2_2 g_p2_3 g_p2_5 g_p2_6 g_p2_7 g_p2_8 g_p2_9 g_p2_13 g_p2_14 g_p2_15 g_p2_16 (v.1) (v.2.1) (v.2.2.1) (v.2.2.2.1) c_p1_size c_p2_sideStand c_p2_sideWalk c_p2_sidePace (v.2.2.2.2.1) (v.2.2.2.2.2.1) c_p1_numbers c_p2_speeds (v.2.2.2.2.2.2.1) (v.2.2.2.2.2.2.2)) none := by
  refine Ct.introV (j := 1) (plainFor_of_name (by decide)) rfl rfl (fun E C e1 e2 e3 e4 e5 hret => ?_)
  subst e1; subst e2; subst e3; subst e4
  exact wm_X3_changeLaws C e5 h hret
-- MovingStair$Reader.kindAt(I)I
def W_X4_kindAt (cy : Nat → ClassId) (a_t a_t_tape : Nat) (g_t_0 : Value) (g_t_1 : Value) (g_t_3 : Value) (g_t_5 : Value) (g_t_6 : Value) (g_t_7 : Value) (c_length : Int) (c_tape : Int → Int) : va_W := [(a_t, .inr (4, [g_t_0, g_t_1, .ref a_t_tape, g_t_3, .int (wI c_length), g_t_5, g_t_6, g_t_7])), (a_t_tape, .inl (cy 0, 900, .inl (aI c_tape)))]
def mb_X4_kindAt_49 (F : Nat) (x2 : Int) : Option (Int) :=
  if wI x2 = wI 59 then
    (some 3)
  else
    (some 4)
def mb_X4_kindAt_35 (F : Nat) (x2 : Int) : Option (Int) :=
  if wI x2 < wI 48 then
    (mb_X4_kindAt_49 F x2)
  else
    (if wI 57 < wI x2 then
    (mb_X4_kindAt_49 F x2)
  else
    (some 2))
def m_X4_kindAt (F : Nat) (x1 : Int) (c_length : Int) (c_tape : Int → Int) : Option (Int) :=
  if wI x1 < wI 0 then
    (some 0)
  else
    (if wI x1 < wI c_length then
    (chk (0 ≤ x1 ∧ x1 < 900) <| nam (c_tape x1) fun y2 => if wI y2 < wI 97 then
    (mb_X4_kindAt_35 F y2)
  else
    (if wI 122 < wI y2 then
    (mb_X4_kindAt_35 F y2)
  else
    (some 1)))
  else
    (some 0))
section S_X4_kindAt
variable {E : EE} {a_t a_t_tape : Nat} {g_t_0 : Value} {g_t_1 : Value} {g_t_3 : Value} {g_t_5 : Value} {g_t_6 : Value} {g_t_7 : Value}
set_option maxRecDepth 100000 in
set_option maxHeartbeats 4000000 in
theorem wb_X4_kindAt_49 {F : Nat} {v : Int} {x2 : Int} {c_length : Int} {c_tape : Int → Int} (C : Cx E cX4_kindAt RX4 { frames := 0, cells := 0, slots := 0, locals := 0 }) (hN : eN E = 3) (h : mb_X4_kindAt_49 F x2 = some v) (hret : ∀ (pc : Nat) (L : List (Option Value)), decode cX4_kindAt pc = .ok (.ireturn, 1) → GG E 0 0 (W_X4_kindAt (eCy E) a_t a_t_tape g_t_0 g_t_1 g_t_3 g_t_5 g_t_6 g_t_7 c_length c_tape) L pc [.int (wI v)]) : GG E 0 0 (W_X4_kindAt (eCy E) a_t a_t_tape g_t_0 g_t_1 g_t_3 g_t_5 g_t_6 g_t_7 c_length c_tape) [none, none, some (.int (wI x2))] 49 [] := by
  unfold mb_X4_kindAt_49 at h
  refine g_iload_n 2 C dX4_kindAt_49 rfl rfl ?_
  refine g_bipush C dX4_kindAt_50 (by decide) ?_
  refine g_icmp_ne 59 C dX4_kindAt_52 (by decide) h (fun h => ?_) (fun h => ?_)
  · refine g_iconst C dX4_kindAt_59 ?_
    cases h
    exact hret 60 _ dX4_kindAt_60
  · refine g_iconst C dX4_kindAt_55 ?_
    refine g_goto (tgt := 60) C dX4_kindAt_56 (by decide) ?_
    cases h
    exact hret 60 _ dX4_kindAt_60
set_option maxRecDepth 100000 in
set_option maxHeartbeats 4000000 in
theorem wb_X4_kindAt_35 {F : Nat} {v : Int} {x2 : Int} {c_length : Int} {c_tape : Int → Int} (C : Cx E cX4_kindAt RX4 { frames := 0, cells := 0, slots := 0, locals := 0 }) (hN : eN E = 3) (h : mb_X4_kindAt_35 F x2 = some v) (hret : ∀ (pc : Nat) (L : List (Option Value)), decode cX4_kindAt pc = .ok (.ireturn, 1) → GG E 0 0 (W_X4_kindAt (eCy E) a_t a_t_tape g_t_0 g_t_1 g_t_3 g_t_5 g_t_6 g_t_7 c_length c_tape) L pc [.int (wI v)]) : GG E 0 0 (W_X4_kindAt (eCy E) a_t a_t_tape g_t_0 g_t_1 g_t_3 g_t_5 g_t_6 g_t_7 c_length c_tape) [none, none, some (.int (wI x2))] 35 [] := by
  unfold mb_X4_kindAt_35 at h
  refine g_iload_n 2 C dX4_kindAt_35 rfl rfl ?_
  refine g_bipush C dX4_kindAt_36 (by decide) ?_
  refine g_icmp_lt 49 C dX4_kindAt_38 (by decide) h (fun h => ?_) (fun h => ?_)
  · exact wb_X4_kindAt_49 C hN h hret
  · refine g_iload_n 2 C dX4_kindAt_41 rfl rfl ?_
    refine g_bipush C dX4_kindAt_42 (by decide) ?_
    refine g_icmp_gt 49 C dX4_kindAt_44 (by decide) h (fun h => ?_) (fun h => ?_)
    · exact wb_X4_kindAt_49 C hN h hret
    · refine g_iconst C dX4_kindAt_47 ?_
      cases h
      exact hret 48 _ dX4_kindAt_48
set_option maxRecDepth 100000 in
set_option maxHeartbeats 4000000 in
theorem wm_X4_kindAt {F : Nat} {v : Int} {x1 : Int} {c_length : Int} {c_tape : Int → Int} (C : Cx E cX4_kindAt RX4 { frames := 0, cells := 0, slots := 0, locals := 0 }) (hN : eN E = 3) (h : m_X4_kindAt F x1 c_length c_tape = some v) (hret : ∀ (pc : Nat) (L : List (Option Value)), decode cX4_kindAt pc = .ok (.ireturn, 1) → GG E 0 0 (W_X4_kindAt (eCy E) a_t a_t_tape g_t_0 g_t_1 g_t_3 g_t_5 g_t_6 g_t_7 c_length c_tape) L pc [.int (wI v)]) : GG E 0 0 (W_X4_kindAt (eCy E) a_t a_t_tape g_t_0 g_t_1 g_t_3 g_t_5 g_t_6 g_t_7 c_length c_tape) [some (.ref a_t), some (.int (wI x1)), none] 0 [] := by
  unfold m_X4_kindAt at h
  refine g_iload_n 1 C dX4_kindAt_0 rfl rfl ?_
  refine g_if_lt 12 C dX4_kindAt_1 (by decide) h (fun h => ?_) (fun h => ?_)
  · refine g_iconst C dX4_kindAt_12 ?_
    cases h
    exact hret 13 _ dX4_kindAt_13
  · refine g_iload_n 1 C dX4_kindAt_4 rfl rfl ?_
    refine g_aload_n 0 C dX4_kindAt_5 rfl rfl ?_
    refine g_get C fg_X4_29 0 rfl rfl dX4_kindAt_6 ?_
    refine g_st (st' := [.int (wI c_length), .int (wI x1)]) rfl ?_
    refine g_icmp_lt 14 C dX4_kindAt_9 (by decide) h (fun h => ?_) (fun h => ?_)
    · refine g_aload_n 0 C dX4_kindAt_14 rfl rfl ?_
      refine g_get C fg_X4_18 0 rfl rfl dX4_kindAt_15 ?_
      refine g_iload_n 1 C dX4_kindAt_18 rfl rfl ?_
      obtain ⟨hc1, h⟩ := chk_some h
      refine g_bald C 1 rfl hc1 rfl dX4_kindAt_19 ?_
      obtain ⟨y2, e_y2, h⟩ := nam_some h
      refine g_topI e_y2 ?_
      refine g_istore_n 2 C hN dX4_kindAt_20 rfl rfl (L' := [some (.ref a_t), some (.int (wI x1)), some (.int (wI y2))]) rfl ?_
      refine g_iload_n 2 C dX4_kindAt_21 rfl rfl ?_
      refine g_bipush C dX4_kindAt_22 (by decide) ?_
      refine g_icmp_lt 35 C dX4_kindAt_24 (by decide) h (fun h => ?_) (fun h => ?_)
      · refine g_mask [false, false, true] (L' := [none, none, some (.int (wI y2))]) rfl ?_
        exact wb_X4_kindAt_35 C hN h hret
      · refine g_iload_n 2 C dX4_kindAt_27 rfl rfl ?_
        refine g_bipush C dX4_kindAt_28 (by decide) ?_
        refine g_icmp_gt 35 C dX4_kindAt_30 (by decide) h (fun h => ?_) (fun h => ?_)
        · refine g_mask [false, false, true] (L' := [none, none, some (.int (wI y2))]) rfl ?_
          exact wb_X4_kindAt_35 C hN h hret
        · refine g_iconst C dX4_kindAt_33 ?_
          cases h
          exact hret 34 _ dX4_kindAt_34
    · refine g_iconst C dX4_kindAt_12 ?_
      cases h
      exact hret 13 _ dX4_kindAt_13
end S_X4_kindAt
set_option maxRecDepth 100000 in
set_option maxHeartbeats 4000000 in
theorem c_X4_kindAt (l : Launch) (D : va_G) (cy : Nat → ClassId) (ad : AD) (a_t a_t_tape : Nat) (g_t_0 : Value) (g_t_1 : Value) (g_t_3 : Value) (g_t_5 : Value) (g_t_6 : Value) (g_t_7 : Value) (x1 : Int) (c_length : Int) (c_tape : Int → Int) (F : Nat) {v : Int} (h : m_X4_kindAt F x1 c_length c_tape = some v) : Ct l yX4_kindAt cX4_kindAt 3 (some .int) { frames := 0, cells := 0, slots := 0, locals := 0 } D cy ad [.ref a_t, .int (wI x1)] (W_X4_kindAt cy a_t a_t_tape g_t_0 g_t_1 g_t_3 g_t_5 g_t_6 g_t_7 c_length c_tape) (W_X4_kindAt cy a_t a_t_tape g_t_0 g_t_1 g_t_3 g_t_5 g_t_6 g_t_7 c_length c_tape) (some (.int (wI v))) := by
  refine Ct.introI (j := 1) (plainFor_of_name (by decide)) rfl rfl (fun E C e1 e2 e3 e4 e5 hret => ?_)
  subst e1; subst e2; subst e3; subst e4
  exact wm_X4_kindAt C e5 h hret
-- MovingStair$Reader.advance()V
def W_X4_advance (cy : Nat → ClassId) (a_t a_t_tape : Nat) (g_t_0 : Value) (g_t_1 : Value) (g_t_3 : Value) (c_length : Int) (c_kind : Int) (c_from : Int) (c_until : Int) (c_tape : Int → Int) : va_W := [(a_t, .inr (4, [g_t_0, g_t_1, .ref a_t_tape, g_t_3, .int (wI c_length), .int (wI c_kind), .int (wI c_from), .int (wI c_until)])), (a_t_tape, .inl (cy 0, 900, .inl (aI c_tape)))]
def mb_X4_advance_35 (F : Nat) (k5 : Int → Option (Int × Int × Int)) (x1 : Int) (c_length : Int) (c_tape : Int → Int) : Option (Int × Int × Int) :=
  k5 (x1 + 1)
def mb_X4_advance_107 (F : Nat) (x1 : Int) (c_kind : Int) (c_from : Int) : Option (Int × Int × Int) :=
  some (c_kind, c_from, x1)
def mb_X4_advance_89 (F : Nat) (k65 : Int → Option (Int × Int × Int)) (x1 : Int) (c_length : Int) (c_kind : Int) (c_from : Int) (c_tape : Int → Int) : Option (Int × Int × Int) :=
  bnd1 (m_X4_kindAt F x1 c_length c_tape) fun r1 => if wI r1 = wI c_kind then
    (k65 (x1 + 1))
  else
    (mb_X4_advance_107 F x1 c_kind c_from)
def mb_X4_advance_65 (F : Nat) (k65 : Int → Option (Int × Int × Int)) (x1 : Int) (c_length : Int) (c_kind : Int) (c_from : Int) (c_tape : Int → Int) : Option (Int × Int × Int) :=
  if wI c_length ≤ wI x1 then
    (mb_X4_advance_107 F x1 c_kind c_from)
  else
    (if wI c_kind = wI 1 then
    (mb_X4_advance_89 F k65 x1 c_length c_kind c_from c_tape)
  else
    (if wI c_kind = wI 2 then
    (mb_X4_advance_89 F k65 x1 c_length c_kind c_from c_tape)
  else
    (mb_X4_advance_107 F x1 c_kind c_from)))
def ml_X4_advance_65 (F : Nat) (x1 : Int) (c_length : Int) (c_kind : Int) (c_from : Int) (c_tape : Int → Int) : Option (Int × Int × Int) :=
  loopN (fun (k : Int → Option (Int × Int × Int)) q => mb_X4_advance_65 F k q c_length c_kind c_from c_tape) F x1
def mb_X4_advance_41 (F : Nat) (x1 : Int) (c_length : Int) (c_tape : Int → Int) : Option (Int × Int × Int) :=
  bnd1 (m_X4_kindAt F x1 c_length c_tape) fun r1 => if wI r1 = wI 0 then
    (ml_X4_advance_65 F x1 c_length r1 x1 c_tape)
  else
    (ml_X4_advance_65 F (x1 + 1) c_length r1 x1 c_tape)
def mb_X4_advance_5 (F : Nat) (k5 : Int → Option (Int × Int × Int)) (x1 : Int) (c_length : Int) (c_tape : Int → Int) : Option (Int × Int × Int) :=
  if wI c_length ≤ wI x1 then
    (mb_X4_advance_41 F x1 c_length c_tape)
  else
    (chk (0 ≤ x1 ∧ x1 < 900) <| if wI (c_tape x1) = wI 32 then
    (mb_X4_advance_35 F k5 x1 c_length c_tape)
  else
    (chk (0 ≤ x1 ∧ x1 < 900) <| if wI (c_tape x1) = wI 10 then
    (mb_X4_advance_35 F k5 x1 c_length c_tape)
  else
    (mb_X4_advance_41 F x1 c_length c_tape)))
def ml_X4_advance_5 (F : Nat) (x1 : Int) (c_length : Int) (c_tape : Int → Int) : Option (Int × Int × Int) :=
  loopN (fun (k : Int → Option (Int × Int × Int)) q => mb_X4_advance_5 F k q c_length c_tape) F x1
def m_X4_advance (F : Nat) (c_length : Int) (c_until : Int) (c_tape : Int → Int) : Option (Int × Int × Int) :=
  ml_X4_advance_5 F c_until c_length c_tape
section S_X4_advance
variable {E : EE} {a_t a_t_tape : Nat} {g_t_0 : Value} {g_t_1 : Value} {g_t_3 : Value}
set_option maxRecDepth 100000 in
set_option maxHeartbeats 4000000 in
theorem wb_X4_advance_35 {F : Nat} {k5 : Int → Option (Int × Int × Int)} {v : Int × Int × Int} {x1 : Int} {c_length : Int} {c_tape : Int → Int} {c_kind : Int} {c_from : Int} {c_until : Int} (C : Cx E cX4_advance RX4 { frames := 1, cells := 0, slots := 0, locals := 22 }) (hN : eN E = 2) (h : mb_X4_advance_35 F k5 x1 c_length c_tape = some v) (hk5 : ∀ (y_x1 : Int) (z_c_kind : Int) (z_c_from : Int) (z_c_until : Int), k5 y_x1 = some v → GG E 0 0 (W_X4_advance (eCy E) a_t a_t_tape g_t_0 g_t_1 g_t_3 c_length z_c_kind z_c_from z_c_until c_tape) [some (.ref a_t), some (.int (wI y_x1))] 5 []) (hret : ∀ (pc : Nat) (L : List (Option Value)), decode cX4_advance pc = .ok (.return_, 1) → GG E 0 0 (W_X4_advance (eCy E) a_t a_t_tape g_t_0 g_t_1 g_t_3 c_length (v.1) (v.2.1) (v.2.2) c_tape) L pc []) : GG E 0 0 (W_X4_advance (eCy E) a_t a_t_tape g_t_0 g_t_1 g_t_3 c_length c_kind c_from c_until c_tape) [some (.ref a_t), some (.int (wI x1))] 35 [] := by
  unfold mb_X4_advance_35 at h
  refine g_iinc C hN dX4_advance_35 rfl rfl (L' := [some (.ref a_t), some (.int (wI (x1 + 1)))]) rfl ?_
  refine g_goto (tgt := 5) C dX4_advance_38 (by decide) ?_
  exact hk5 _ _ _ _ h
set_option maxRecDepth 100000 in
set_option maxHeartbeats 4000000 in
theorem wb_X4_advance_107 {F : Nat} {v : Int × Int × Int} {x1 : Int} {c_kind : Int} {c_from : Int} {c_length : Int} {c_until : Int} {c_tape : Int → Int} (C : Cx E cX4_advance RX4 { frames := 1, cells := 0, slots := 0, locals := 22 }) (hN : eN E = 2) (h : mb_X4_advance_107 F x1 c_kind c_from = some v) (hret : ∀ (pc : Nat) (L : List (Option Value)), decode cX4_advance pc = .ok (.return_, 1) → GG E 0 0 (W_X4_advance (eCy E) a_t a_t_tape g_t_0 g_t_1 g_t_3 c_length (v.1) (v.2.1) (v.2.2) c_tape) L pc []) : GG E 0 0 (W_X4_advance (eCy E) a_t a_t_tape g_t_0 g_t_1 g_t_3 c_length c_kind c_from c_until c_tape) [some (.ref a_t), some (.int (wI x1))] 107 [] := by
  unfold mb_X4_advance_107 at h
  refine g_aload_n 0 C dX4_advance_107 rfl rfl ?_
  refine g_iload_n 1 C dX4_advance_108 rfl rfl ?_
  refine g_putI C fp_X4_38 0 rfl rfl (ws' := (W_X4_advance (eCy E) a_t a_t_tape g_t_0 g_t_1 g_t_3 c_length c_kind c_from x1 c_tape)) rfl dX4_advance_109 ?_
  cases h
  exact hret 112 _ dX4_advance_112
set_option maxRecDepth 100000 in
set_option maxHeartbeats 4000000 in
theorem wb_X4_advance_89 {F : Nat} {k65 : Int → Option (Int × Int × Int)} {v : Int × Int × Int} {x1 : Int} {c_length : Int} {c_kind : Int} {c_from : Int} {c_tape : Int → Int} {c_until : Int} (C : Cx E cX4_advance RX4 { frames := 1, cells := 0, slots := 0, locals := 22 }) (hN : eN E = 2) (h : mb_X4_advance_89 F k65 x1 c_length c_kind c_from c_tape = some v) (hk65 : ∀ (y_x1 : Int) (z_c_until : Int), k65 y_x1 = some v → GG E 0 0 (W_X4_advance (eCy E) a_t a_t_tape g_t_0 g_t_1 g_t_3 c_length c_kind c_from z_c_until c_tape) [some (.ref a_t), some (.int (wI y_x1))] 65 []) (hret : ∀ (pc : Nat) (L : List (Option Value)), decode cX4_advance pc = .ok (.return_, 1) → GG E 0 0 (W_X4_advance (eCy E) a_t a_t_tape g_t_0 g_t_1 g_t_3 c_length (v.1) (v.2.1) (v.2.2) c_tape) L pc []) : GG E 0 0 (W_X4_advance (eCy E) a_t a_t_tape g_t_0 g_t_1 g_t_3 c_length c_kind c_from c_until c_tape) [some (.ref a_t), some (.int (wI x1))] 89 [] := by
  unfold mb_X4_advance_89 at h
  refine g_aload_n 0 C dX4_advance_89 rfl rfl ?_
  refine g_iload_n 1 C dX4_advance_90 rfl rfl ?_
  obtain ⟨r1, hr2, h⟩ := bnd1_some h
  refine g_callI [0, 1] [] [0, 1] C mt_X4_171 (c_X4_kindAt _ _ _ _ a_t a_t_tape (g_t_0) (g_t_1) (g_t_3) (.int (wI c_kind)) (.int (wI c_from)) (.int (wI c_until)) x1 c_length c_tape F hr2) (q0 := 0) rfl (ci := 4) rfl rfl rfl (ws2 := (W_X4_advance (eCy E) a_t a_t_tape g_t_0 g_t_1 g_t_3 c_length c_kind c_from c_until c_tape)) rfl rfl rfl (rest := []) rfl rfl rfl dX4_advance_91 ?_
  refine g_aload_n 0 C dX4_advance_94 rfl rfl ?_
  refine g_get C fg_X4_32 0 rfl rfl dX4_advance_95 ?_
  refine g_st (st' := [.int (wI c_kind), .int (wI r1)]) rfl ?_
  refine g_icmp_ne 107 C dX4_advance_98 (by decide) h (fun h => ?_) (fun h => ?_)
  · exact wb_X4_advance_107 C hN h hret
  · refine g_iinc C hN dX4_advance_101 rfl rfl (L' := [some (.ref a_t), some (.int (wI (x1 + 1)))]) rfl ?_
    refine g_goto (tgt := 65) C dX4_advance_104 (by decide) ?_
    exact hk65 _ _ h
set_option maxRecDepth 100000 in
set_option maxHeartbeats 4000000 in
theorem wb_X4_advance_65 {F : Nat} {k65 : Int → Option (Int × Int × Int)} {v : Int × Int × Int} {x1 : Int} {c_length : Int} {c_kind : Int} {c_from : Int} {c_tape : Int → Int} {c_until : Int} (C : Cx E cX4_advance RX4 { frames := 1, cells := 0, slots := 0, locals := 22 }) (hN : eN E = 2) (h : mb_X4_advance_65 F k65 x1 c_length c_kind c_from c_tape = some v) (hk65 : ∀ (y_x1 : Int) (z_c_until : Int), k65 y_x1 = some v → GG E 0 0 (W_X4_advance (eCy E) a_t a_t_tape g_t_0 g_t_1 g_t_3 c_length c_kind c_from z_c_until c_tape) [some (.ref a_t), some (.int (wI y_x1))] 65 []) (hret : ∀ (pc : Nat) (L : List (Option Value)), decode cX4_advance pc = .ok (.return_, 1) → GG E 0 0 (W_X4_advance (eCy E) a_t a_t_tape g_t_0 g_t_1 g_t_3 c_length (v.1) (v.2.1) (v.2.2) c_tape) L pc []) : GG E 0 0 (W_X4_advance (eCy E) a_t a_t_tape g_t_0 g_t_1 g_t_3 c_length c_kind c_from c_until c_tape) [some (.ref a_t), some (.int (wI x1))] 65 [] := by
  unfold mb_X4_advance_65 at h
  refine g_iload_n 1 C dX4_advance_65 rfl rfl ?_
  refine g_aload_n 0 C dX4_advance_66 rfl rfl ?_
  refine g_get C fg_X4_29 0 rfl rfl dX4_advance_67 ?_
  refine g_st (st' := [.int (wI c_length), .int (wI x1)]) rfl ?_
  refine g_icmp_ge 107 C dX4_advance_70 (by decide) h (fun h => ?_) (fun h => ?_)
  · exact wb_X4_advance_107 C hN h hret
  · refine g_aload_n 0 C dX4_advance_73 rfl rfl ?_
    refine g_get C fg_X4_32 0 rfl rfl dX4_advance_74 ?_
    refine g_st (st' := [.int (wI c_kind)]) rfl ?_
    refine g_iconst C dX4_advance_77 ?_
    refine g_icmp_eq 89 C dX4_advance_78 (by decide) h (fun h => ?_) (fun h => ?_)
    · exact wb_X4_advance_89 C hN h hk65 hret
    · refine g_aload_n 0 C dX4_advance_81 rfl rfl ?_
      refine g_get C fg_X4_32 0 rfl rfl dX4_advance_82 ?_
      refine g_st (st' := [.int (wI c_kind)]) rfl ?_
      refine g_iconst C dX4_advance_85 ?_
      refine g_icmp_ne 107 C dX4_advance_86 (by decide) h (fun h => ?_) (fun h => ?_)
      · exact wb_X4_advance_107 C hN h hret
      · exact wb_X4_advance_89 C hN h hk65 hret
set_option maxRecDepth 100000 in
set_option maxHeartbeats 4000000 in
theorem wl_X4_advance_65 {F : Nat} {v : Int × Int × Int} {x1 : Int} {c_length : Int} {c_kind : Int} {c_from : Int} {c_tape : Int → Int} {c_until : Int} (C : Cx E cX4_advance RX4 { frames := 1, cells := 0, slots := 0, locals := 22 }) (hN : eN E = 2) (h : ml_X4_advance_65 F x1 c_length c_kind c_from c_tape = some v) (hret : ∀ (pc : Nat) (L : List (Option Value)), decode cX4_advance pc = .ok (.return_, 1) → GG E 0 0 (W_X4_advance (eCy E) a_t a_t_tape g_t_0 g_t_1 g_t_3 c_length (v.1) (v.2.1) (v.2.2) c_tape) L pc []) : GG E 0 0 (W_X4_advance (eCy E) a_t a_t_tape g_t_0 g_t_1 g_t_3 c_length c_kind c_from c_until c_tape) [some (.ref a_t), some (.int (wI x1))] 65 [] := by
  unfold ml_X4_advance_65 at h
  exact loop_walk (g := fun (q : Int) => ∀ (z_c_until : Int), GG E 0 0 (W_X4_advance (eCy E) a_t a_t_tape g_t_0 g_t_1 g_t_3 c_length c_kind c_from z_c_until c_tape) [some (.ref a_t), some (.int (wI q))] 65 []) (fun k hk q h z_c_until => wb_X4_advance_65 C hN h (fun y0 u0 hh => hk y0 hh u0) hret) F x1 h _
set_option maxRecDepth 100000 in
set_option maxHeartbeats 4000000 in
theorem wb_X4_advance_41 {F : Nat} {v : Int × Int × Int} {x1 : Int} {c_length : Int} {c_tape : Int → Int} {c_kind : Int} {c_from : Int} {c_until : Int} (C : Cx E cX4_advance RX4 { frames := 1, cells := 0, slots := 0, locals := 22 }) (hN : eN E = 2) (h : mb_X4_advance_41 F x1 c_length c_tape = some v) (hret : ∀ (pc : Nat) (L : List (Option Value)), decode cX4_advance pc = .ok (.return_, 1) → GG E 0 0 (W_X4_advance (eCy E) a_t a_t_tape g_t_0 g_t_1 g_t_3 c_length (v.1) (v.2.1) (v.2.2) c_tape) L pc []) : GG E 0 0 (W_X4_advance (eCy E) a_t a_t_tape g_t_0 g_t_1 g_t_3 c_length c_kind c_from c_until c_tape) [some (.ref a_t), some (.int (wI x1))] 41 [] := by
  unfold mb_X4_advance_41 at h
  refine g_aload_n 0 C dX4_advance_41 rfl rfl ?_
  refine g_iload_n 1 C dX4_advance_42 rfl rfl ?_
  refine g_putI C fp_X4_35 0 rfl rfl (ws' := (W_X4_advance (eCy E) a_t a_t_tape g_t_0 g_t_1 g_t_3 c_length c_kind x1 c_until c_tape)) rfl dX4_advance_43 ?_
  refine g_aload_n 0 C dX4_advance_46 rfl rfl ?_
  refine g_aload_n 0 C dX4_advance_47 rfl rfl ?_
  refine g_iload_n 1 C dX4_advance_48 rfl rfl ?_
  obtain ⟨r1, hr2, h⟩ := bnd1_some h
  refine g_callI [0, 1] [] [0, 1] C mt_X4_171 (c_X4_kindAt _ _ _ _ a_t a_t_tape (g_t_0) (g_t_1) (g_t_3) (.int (wI c_kind)) (.int (wI x1)) (.int (wI c_until)) x1 c_length c_tape F hr2) (q0 := 0) rfl (ci := 4) rfl rfl rfl (ws2 := (W_X4_advance (eCy E) a_t a_t_tape g_t_0 g_t_1 g_t_3 c_length c_kind x1 c_until c_tape)) rfl rfl rfl (rest := [.ref a_t]) rfl rfl rfl dX4_advance_49 ?_
  refine g_putI C fp_X4_32 0 rfl rfl (ws' := (W_X4_advance (eCy E) a_t a_t_tape g_t_0 g_t_1 g_t_3 c_length r1 x1 c_until c_tape)) rfl dX4_advance_52 ?_
  refine g_aload_n 0 C dX4_advance_55 rfl rfl ?_
  refine g_get C fg_X4_32 0 rfl rfl dX4_advance_56 ?_
  refine g_st (st' := [.int (wI r1)]) rfl ?_
  refine g_if_eq 65 C dX4_advance_59 (by decide) h (fun h => ?_) (fun h => ?_)
  · exact wl_X4_advance_65 C hN h hret
  · refine g_iinc C hN dX4_advance_62 rfl rfl (L' := [some (.ref a_t), some (.int (wI (x1 + 1)))]) rfl ?_
    exact wl_X4_advance_65 C hN h hret
set_option maxRecDepth 100000 in
set_option maxHeartbeats 4000000 in
theorem wb_X4_advance_5 {F : Nat} {k5 : Int → Option (Int × Int × Int)} {v : Int × Int × Int} {x1 : Int} {c_length : Int} {c_tape : Int → Int} {c_kind : Int} {c_from : Int} {c_until : Int} (C : Cx E cX4_advance RX4 { frames := 1, cells := 0, slots := 0, locals := 22 }) (hN : eN E = 2) (h : mb_X4_advance_5 F k5 x1 c_length c_tape = some v) (hk5 : ∀ (y_x1 : Int) (z_c_kind : Int) (z_c_from : Int) (z_c_until : Int), k5 y_x1 = some v → GG E 0 0 (W_X4_advance (eCy E) a_t a_t_tape g_t_0 g_t_1 g_t_3 c_length z_c_kind z_c_from z_c_until c_tape) [some (.ref a_t), some (.int (wI y_x1))] 5 []) (hret : ∀ (pc : Nat) (L : List (Option Value)), decode cX4_advance pc = .ok (.return_, 1) → GG E 0 0 (W_X4_advance (eCy E) a_t a_t_tape g_t_0 g_t_1 g_t_3 c_length (v.1) (v.2.1) (v.2.2) c_tape) L pc []) : GG E 0 0 (W_X4_advance (eCy E) a_t a_t_tape g_t_0 g_t_1 g_t_3 c_length c_kind c_from c_until c_tape) [some (.ref a_t), some (.int (wI x1))] 5 [] := by
  unfold mb_X4_advance_5 at h
  refine g_iload_n 1 C dX4_advance_5 rfl rfl ?_
  refine g_aload_n 0 C dX4_advance_6 rfl rfl ?_
  refine g_get C fg_X4_29 0 rfl rfl dX4_advance_7 ?_
  refine g_st (st' := [.int (wI c_length), .int (wI x1)]) rfl ?_
  refine g_icmp_ge 41 C dX4_advance_10 (by decide) h (fun h => ?_) (fun h => ?_)
  · exact wb_X4_advance_41 C hN h hret
  · refine g_aload_n 0 C dX4_advance_13 rfl rfl ?_
    refine g_get C fg_X4_18 0 rfl rfl dX4_advance_14 ?_
    refine g_iload_n 1 C dX4_advance_17 rfl rfl ?_
    obtain ⟨hc1, h⟩ := chk_some h
    refine g_bald C 1 rfl hc1 rfl dX4_advance_18 ?_
    refine g_bipush C dX4_advance_19 (by decide) ?_
    refine g_icmp_eq 35 C dX4_advance_21 (by decide) h (fun h => ?_) (fun h => ?_)
    · exact wb_X4_advance_35 C hN h hk5 hret
    · refine g_aload_n 0 C dX4_advance_24 rfl rfl ?_
      refine g_get C fg_X4_18 0 rfl rfl dX4_advance_25 ?_
      refine g_iload_n 1 C dX4_advance_28 rfl rfl ?_
      obtain ⟨hc2, h⟩ := chk_some h
      refine g_bald C 1 rfl hc2 rfl dX4_advance_29 ?_
      refine g_bipush C dX4_advance_30 (by decide) ?_
      refine g_icmp_ne 41 C dX4_advance_32 (by decide) h (fun h => ?_) (fun h => ?_)
      · exact wb_X4_advance_41 C hN h hret
      · exact wb_X4_advance_35 C hN h hk5 hret
set_option maxRecDepth 100000 in
set_option maxHeartbeats 4000000 in
theorem wl_X4_advance_5 {F : Nat} {v : Int × Int × Int} {x1 : Int} {c_length : Int} {c_tape : Int → Int} {c_kind : Int} {c_from : Int} {c_until : Int} (C : Cx E cX4_advance RX4 { frames := 1, cells := 0, slots := 0, locals := 22 }) (hN : eN E = 2) (h : ml_X4_advance_5 F x1 c_length c_tape = some v) (hret : ∀ (pc : Nat) (L : List (Option Value)), decode cX4_advance pc = .ok (.return_, 1) → GG E 0 0 (W_X4_advance (eCy E) a_t a_t_tape g_t_0 g_t_1 g_t_3 c_length (v.1) (v.2.1) (v.2.2) c_tape) L pc []) : GG E 0 0 (W_X4_advance (eCy E) a_t a_t_tape g_t_0 g_t_1 g_t_3 c_length c_kind c_from c_until c_tape) [some (.ref a_t), some (.int (wI x1))] 5 [] := by
  unfold ml_X4_advance_5 at h
  exact loop_walk (g := fun (q : Int) => ∀ (z_c_kind : Int) (z_c_from : Int) (z_c_until : Int), GG E 0 0 (W_X4_advance (eCy E) a_t a_t_tape g_t_0 g_t_1 g_t_3 c_length z_c_kind z_c_from z_c_until c_tape) [some (.ref a_t), some (.int (wI q))] 5 []) (fun k hk q h z_c_kind z_c_from z_c_until => wb_X4_advance_5 C hN h (fun y0 u0 u1 u2 hh => hk y0 hh u0 u1 u2) hret) F x1 h _ _ _
set_option maxRecDepth 100000 in
set_option maxHeartbeats 4000000 in
theorem wm_X4_advance {F : Nat} {v : Int × Int × Int} {c_length : Int} {c_until : Int} {c_tape : Int → Int} {c_kind : Int} {c_from : Int} (C : Cx E cX4_advance RX4 { frames := 1, cells := 0, slots := 0, locals := 22 }) (hN : eN E = 2) (h : m_X4_advance F c_length c_until c_tape = some v) (hret : ∀ (pc : Nat) (L : List (Option Value)), decode cX4_advance pc = .ok (.return_, 1) → GG E 0 0 (W_X4_advance (eCy E) a_t a_t_tape g_t_0 g_t_1 g_t_3 c_length (v.1) (v.2.1) (v.2.2) c_tape) L pc []) : GG E 0 0 (W_X4_advance (eCy E) a_t a_t_tape g_t_0 g_t_1 g_t_3 c_length c_kind c_from c_until c_tape) [some (.ref a_t), none] 0 [] := by
  unfold m_X4_advance at h
  refine g_aload_n 0 C dX4_advance_0 rfl rfl ?_
  refine g_get C fg_X4_38 0 rfl rfl dX4_advance_1 ?_
  refine g_st (st' := [.int (wI c_until)]) rfl ?_
  refine g_istore_n 1 C hN dX4_advance_4 rfl rfl (L' := [some (.ref a_t), some (.int (wI c_until))]) rfl ?_
  exact wl_X4_advance_5 C hN h hret
end S_X4_advance
set_option maxRecDepth 100000 in
set_option maxHeartbeats 4000000 in
theorem c_X4_advance (l : Launch) (D : va_G) (cy : Nat → ClassId) (ad : AD) (a_t a_t_tape : Nat) (g_t_0 : Value) (g_t_1 : Value) (g_t_3 : Value) (c_length : Int) (c_kind : Int) (c_from : Int) (c_until : Int) (c_tape : Int → Int) (F : Nat) {v : Int × Int × Int} (h : m_X4_advance F c_length c_until c_tape = some v) : Ct l yX4_advance cX4_advance 2 none { frames := 1, cells := 0, slots := 0, locals := 22 } D cy ad [.ref a_t] (W_X4_advance cy a_t a_t_tape g_t_0 g_t_1 g_t_3 c_length c_kind c_from c_until c_tape) (W_X4_advance cy a_t a_t_tape g_t_0 g_t_1 g_t_3 c_length (v.1) (v.2.1) (v.2.2) c_tape) none := by
  refine Ct.introV (j := 1) (plainFor_of_name (by decide)) rfl rfl (fun E C e1 e2 e3 e4 e5 hret => ?_)
  subst e1; subst e2; subst e3; subst e4
  exact wm_X4_advance C e5 h hret
-- MovingStair$Reader.isWord(Ljava/lang/String;)Z
def W_X4_isWord (cy : Nat → ClassId) (a_t a_t_tape : Nat) (g_t_0 : Value) (g_t_1 : Value) (g_t_3 : Value) (c_length : Int) (c_kind : Int) (c_from : Int) (c_until : Int) (c_tape : Int → Int) : va_W := [(a_t, .inr (4, [g_t_0, g_t_1, .ref a_t_tape, g_t_3, .int (wI c_length), .int (wI c_kind), .int (wI c_from), .int (wI c_until)])), (a_t_tape, .inl (cy 0, 900, .inl (aI c_tape)))]
def mb_X4_isWord_28 (F : Nat) (k28 : Int → Option (Int)) (x1 : Nat) (x2 : Int) (c_length : Int) (c_from : Int) (c_tape : Int → Int) : Option (Int) :=
  if wI (sLenI x1) ≤ wI x2 then
    (some 1)
  else
    (if wI c_length ≤ wI (c_from + x2) then
    (some 1)
  else
    (chk (0 ≤ (c_from + x2) ∧ (c_from + x2) < 900) <| chk (0 ≤ x2 ∧ x2 < sLenI x1) <| if wI (c_tape (c_from + x2)) = wI (sChr x1 x2) then
    (k28 (x2 + 1))
  else
    (some 0)))
def ml_X4_isWord_28 (F : Nat) (x1 : Nat) (x2 : Int) (c_length : Int) (c_from : Int) (c_tape : Int → Int) : Option (Int) :=
  loopN (fun (k : Int → Option (Int)) q => mb_X4_isWord_28 F k x1 q c_length c_from c_tape) F x2
def m_X4_isWord (F : Nat) (x1 : Nat) (c_length : Int) (c_kind : Int) (c_from : Int) (c_until : Int) (c_tape : Int → Int) : Option (Int) :=
  if wI c_kind = wI 1 then
    (if wI (c_until - c_from) = wI (sLenI x1) then
    (ml_X4_isWord_28 F x1 0 c_length c_from c_tape)
  else
    (some 0))
  else
    (some 0)
section S_X4_isWord
variable {E : EE} {a_t a_t_tape : Nat} {g_t_0 : Value} {g_t_1 : Value} {g_t_3 : Value}
set_option maxRecDepth 100000 in
set_option maxHeartbeats 4000000 in
theorem wb_X4_isWord_28 {F : Nat} {k28 : Int → Option (Int)} {v : Int} {x1 : Nat} {x2 : Int} {c_length : Int} {c_from : Int} {c_tape : Int → Int} {c_kind : Int} {c_until : Int} (C : Cx E cX4_isWord RX4 { frames := 4, cells := 0, slots := 0, locals := 85 }) (hN : eN E = 3) (h : mb_X4_isWord_28 F k28 x1 x2 c_length c_from c_tape = some v) (hk28 : ∀ (y_x2 : Int), k28 y_x2 = some v → GG E 0 0 (W_X4_isWord (eCy E) a_t a_t_tape g_t_0 g_t_1 g_t_3 c_length c_kind c_from c_until c_tape) [some (.ref a_t), some (.ref ((eAd E).1 x1)), some (.int (wI y_x2))] 28 []) (hs_x1 : x1 < 13) (hret : ∀ (pc : Nat) (L : List (Option Value)), narrow .boolean (.int (wI v)) = .int (wI v) → decode cX4_isWord pc = .ok (.ireturn, 1) → GG E 0 0 (W_X4_isWord (eCy E) a_t a_t_tape g_t_0 g_t_1 g_t_3 c_length c_kind c_from c_until c_tape) L pc [.int (wI v)]) : GG E 0 0 (W_X4_isWord (eCy E) a_t a_t_tape g_t_0 g_t_1 g_t_3 c_length c_kind c_from c_until c_tape) [some (.ref a_t), some (.ref ((eAd E).1 x1)), some (.int (wI x2))] 28 [] := by
  unfold mb_X4_isWord_28 at h
  refine g_iload_n 2 C dX4_isWord_28 rfl rfl ?_
  refine g_aload_n 1 C dX4_isWord_29 rfl rfl ?_
  refine g_strLen C mt_X4_162 hs_x1 rfl rfl dX4_isWord_30 ?_
  refine g_icmp_ge 76 C dX4_isWord_33 (by decide) h (fun h => ?_) (fun h => ?_)
  · refine g_iconst C dX4_isWord_76 ?_
    cases h
    exact hret 77 _ bn1 dX4_isWord_77
  · refine g_aload_n 0 C dX4_isWord_36 rfl rfl ?_
    refine g_get C fg_X4_35 0 rfl rfl dX4_isWord_37 ?_
    refine g_st (st' := [.int (wI c_from)]) rfl ?_
    refine g_iload_n 2 C dX4_isWord_40 rfl rfl ?_
    refine g_iadd C dX4_isWord_41 ?_
    refine g_aload_n 0 C dX4_isWord_42 rfl rfl ?_
    refine g_get C fg_X4_29 0 rfl rfl dX4_isWord_43 ?_
    refine g_st (st' := [.int (wI c_length), .int (wI (c_from + x2))]) rfl ?_
    refine g_icmp_ge 76 C dX4_isWord_46 (by decide) h (fun h => ?_) (fun h => ?_)
    · refine g_iconst C dX4_isWord_76 ?_
      cases h
      exact hret 77 _ bn1 dX4_isWord_77
    · refine g_aload_n 0 C dX4_isWord_49 rfl rfl ?_
      refine g_get C fg_X4_18 0 rfl rfl dX4_isWord_50 ?_
      refine g_aload_n 0 C dX4_isWord_53 rfl rfl ?_
      refine g_get C fg_X4_35 0 rfl rfl dX4_isWord_54 ?_
      refine g_st (st' := [.int (wI c_from), .ref a_t_tape]) rfl ?_
      refine g_iload_n 2 C dX4_isWord_57 rfl rfl ?_
      refine g_iadd C dX4_isWord_58 ?_
      obtain ⟨hc1, h⟩ := chk_some h
      refine g_bald C 1 rfl hc1 rfl dX4_isWord_59 ?_
      refine g_aload_n 1 C dX4_isWord_60 rfl rfl ?_
      refine g_iload_n 2 C dX4_isWord_61 rfl rfl ?_
      obtain ⟨hc2, h⟩ := chk_some h
      refine g_strAt C mt_X4_166 hs_x1 hc2 rfl rfl dX4_isWord_62 ?_
      refine g_icmp_eq 70 C dX4_isWord_65 (by decide) h (fun h => ?_) (fun h => ?_)
      · refine g_iinc C hN dX4_isWord_70 rfl rfl (L' := [some (.ref a_t), some (.ref ((eAd E).1 x1)), some (.int (wI (x2 + 1)))]) rfl ?_
        refine g_goto (tgt := 28) C dX4_isWord_73 (by decide) ?_
        exact hk28 _ h
      · refine g_iconst C dX4_isWord_68 ?_
        cases h
        exact hret 69 _ bn0 dX4_isWord_69
set_option maxRecDepth 100000 in
set_option maxHeartbeats 4000000 in
theorem wl_X4_isWord_28 {F : Nat} {v : Int} {x1 : Nat} {x2 : Int} {c_length : Int} {c_from : Int} {c_tape : Int → Int} {c_kind : Int} {c_until : Int} (C : Cx E cX4_isWord RX4 { frames := 4, cells := 0, slots := 0, locals := 85 }) (hN : eN E = 3) (h : ml_X4_isWord_28 F x1 x2 c_length c_from c_tape = some v) (hs_x1 : x1 < 13) (hret : ∀ (pc : Nat) (L : List (Option Value)), narrow .boolean (.int (wI v)) = .int (wI v) → decode cX4_isWord pc = .ok (.ireturn, 1) → GG E 0 0 (W_X4_isWord (eCy E) a_t a_t_tape g_t_0 g_t_1 g_t_3 c_length c_kind c_from c_until c_tape) L pc [.int (wI v)]) : GG E 0 0 (W_X4_isWord (eCy E) a_t a_t_tape g_t_0 g_t_1 g_t_3 c_length c_kind c_from c_until c_tape) [some (.ref a_t), some (.ref ((eAd E).1 x1)), some (.int (wI x2))] 28 [] := by
  unfold ml_X4_isWord_28 at h
  exact loop_walk (g := fun (q : Int) => GG E 0 0 (W_X4_isWord (eCy E) a_t a_t_tape g_t_0 g_t_1 g_t_3 c_length c_kind c_from c_until c_tape) [some (.ref a_t), some (.ref ((eAd E).1 x1)), some (.int (wI q))] 28 []) (fun k hk q h => wb_X4_isWord_28 C hN h (fun y0 hh => hk y0 hh) hs_x1 hret) F x2 h
set_option maxRecDepth 100000 in
set_option maxHeartbeats 4000000 in
theorem wm_X4_isWord {F : Nat} {v : Int} {x1 : Nat} {c_length : Int} {c_kind : Int} {c_from : Int} {c_until : Int} {c_tape : Int → Int} (C : Cx E cX4_isWord RX4 { frames := 4, cells := 0, slots := 0, locals := 85 }) (hN : eN E = 3) (h : m_X4_isWord F x1 c_length c_kind c_from c_until c_tape = some v) (hs_x1 : x1 < 13) (hret : ∀ (pc : Nat) (L : List (Option Value)), narrow .boolean (.int (wI v)) = .int (wI v) → decode cX4_isWord pc = .ok (.ireturn, 1) → GG E 0 0 (W_X4_isWord (eCy E) a_t a_t_tape g_t_0 g_t_1 g_t_3 c_length c_kind c_from c_until c_tape) L pc [.int (wI v)]) : GG E 0 0 (W_X4_isWord (eCy E) a_t a_t_tape g_t_0 g_t_1 g_t_3 c_length c_kind c_from c_until c_tape) [some (.ref a_t), some (.ref ((eAd E).1 x1)), none] 0 [] := by
  unfold m_X4_isWord at h
  refine g_aload_n 0 C dX4_isWord_0 rfl rfl ?_
  refine g_get C fg_X4_32 0 rfl rfl dX4_isWord_1 ?_
  refine g_st (st' := [.int (wI c_kind)]) rfl ?_
  refine g_iconst C dX4_isWord_4 ?_
  refine g_icmp_ne 24 C dX4_isWord_5 (by decide) h (fun h => ?_) (fun h => ?_)
  · refine g_iconst C dX4_isWord_24 ?_
    cases h
    exact hret 25 _ bn0 dX4_isWord_25
  · refine g_aload_n 0 C dX4_isWord_8 rfl rfl ?_
    refine g_get C fg_X4_38 0 rfl rfl dX4_isWord_9 ?_
    refine g_st (st' := [.int (wI c_until)]) rfl ?_
    refine g_aload_n 0 C dX4_isWord_12 rfl rfl ?_
    refine g_get C fg_X4_35 0 rfl rfl dX4_isWord_13 ?_
    refine g_st (st' := [.int (wI c_from), .int (wI c_until)]) rfl ?_
    refine g_isub C dX4_isWord_16 ?_
    refine g_aload_n 1 C dX4_isWord_17 rfl rfl ?_
    refine g_strLen C mt_X4_162 hs_x1 rfl rfl dX4_isWord_18 ?_
    refine g_icmp_eq 26 C dX4_isWord_21 (by decide) h (fun h => ?_) (fun h => ?_)
    · refine g_iconst C dX4_isWord_26 ?_
      refine g_istore_n 2 C hN dX4_isWord_27 rfl rfl (L' := [some (.ref a_t), some (.ref ((eAd E).1 x1)), some (.int (wI 0))]) rfl ?_
      exact wl_X4_isWord_28 C hN h hs_x1 hret
    · refine g_iconst C dX4_isWord_24 ?_
      cases h
      exact hret 25 _ bn0 dX4_isWord_25
end S_X4_isWord
set_option maxRecDepth 100000 in
set_option maxHeartbeats 4000000 in
theorem c_X4_isWord (l : Launch) (D : va_G) (cy : Nat → ClassId) (ad : AD) (a_t a_t_tape : Nat) (g_t_0 : Value) (g_t_1 : Value) (g_t_3 : Value) (x1 : Nat) (c_length : Int) (c_kind : Int) (c_from : Int) (c_until : Int) (c_tape : Int → Int) (F : Nat) {v : Int} (h : m_X4_isWord F x1 c_length c_kind c_from c_until c_tape = some v) (hs_x1 : x1 < 13) : Ct l yX4_isWord cX4_isWord 3 (some .boolean) { frames := 4, cells := 0, slots := 0, locals := 85 } D cy ad [.ref a_t, .ref (ad.1 x1)] (W_X4_isWord cy a_t a_t_tape g_t_0 g_t_1 g_t_3 c_length c_kind c_from c_until c_tape) (W_X4_isWord cy a_t a_t_tape g_t_0 g_t_1 g_t_3 c_length c_kind c_from c_until c_tape) (some (.int (wI v))) := by
  refine Ct.introZ (j := 1) (plainFor_of_name (by decide)) rfl rfl (fun E C e1 e2 e3 e4 e5 hret => ?_)
  subst e1; subst e2; subst e3; subst e4
  exact wm_X4_isWord C e5 h hs_x1 hret
-- MovingStair$Reader.refuse(I)V
def W_X4_refuse (cy : Nat → ClassId) (a_t : Nat) (g_t_2 : Value) (g_t_3 : Value) (g_t_4 : Value) (g_t_5 : Value) (g_t_7 : Value) (c_fault : Int) (c_place : Int) (c_from : Int) : va_W := [(a_t, .inr (4, [.int (wI c_fault), .int (wI c_place), g_t_2, g_t_3, g_t_4, g_t_5, .int (wI c_from), g_t_7]))]
def m_X4_refuse (F : Nat) (x1 : Int) (c_fault : Int) (c_place : Int) (c_from : Int) : Option (Int × Int) :=
  if wI c_fault = wI 0 then
    (some (x1, c_from))
  else
    (some (c_fault, c_place))
section S_X4_refuse
variable {E : EE} {a_t : Nat} {g_t_2 : Value} {g_t_3 : Value} {g_t_4 : Value} {g_t_5 : Value} {g_t_7 : Value}
set_option maxRecDepth 100000 in
set_option maxHeartbeats 4000000 in
theorem wm_X4_refuse {F : Nat} {v : Int × Int} {x1 : Int} {c_fault : Int} {c_place : Int} {c_from : Int} (C : Cx E cX4_refuse RX4 { frames := 0, cells := 0, slots := 0, locals := 0 }) (hN : eN E = 2) (h : m_X4_refuse F x1 c_fault c_place c_from = some v) (hret : ∀ (pc : Nat) (L : List (Option Value)), decode cX4_refuse pc = .ok (.return_, 1) → GG E 0 0 (W_X4_refuse (eCy E) a_t g_t_2 g_t_3 g_t_4 g_t_5 g_t_7 (v.1) (v.2) c_from) L pc []) : GG E 0 0 (W_X4_refuse (eCy E) a_t g_t_2 g_t_3 g_t_4 g_t_5 g_t_7 c_fault c_place c_from) [some (.ref a_t), some (.int (wI x1))] 0 [] := by
  unfold m_X4_refuse at h
  refine g_aload_n 0 C dX4_refuse_0 rfl rfl ?_
  refine g_get C fg_X4_9 0 rfl rfl dX4_refuse_1 ?_
  refine g_st (st' := [.int (wI c_fault)]) rfl ?_
  refine g_if_ne 20 C dX4_refuse_4 (by decide) h (fun h => ?_) (fun h => ?_)
  · cases h
    exact hret 20 _ dX4_refuse_20
  · refine g_aload_n 0 C dX4_refuse_7 rfl rfl ?_
    refine g_iload_n 1 C dX4_refuse_8 rfl rfl ?_
    refine g_putI C fp_X4_9 0 rfl rfl (ws' := (W_X4_refuse (eCy E) a_t g_t_2 g_t_3 g_t_4 g_t_5 g_t_7 x1 c_place c_from)) rfl dX4_refuse_9 ?_
    refine g_aload_n 0 C dX4_refuse_12 rfl rfl ?_
    refine g_aload_n 0 C dX4_refuse_13 rfl rfl ?_
    refine g_get C fg_X4_35 0 rfl rfl dX4_refuse_14 ?_
    refine g_st (st' := [.int (wI c_from), .ref a_t]) rfl ?_
    refine g_putI C fp_X4_15 0 rfl rfl (ws' := (W_X4_refuse (eCy E) a_t g_t_2 g_t_3 g_t_4 g_t_5 g_t_7 x1 c_from c_from)) rfl dX4_refuse_17 ?_
    cases h
    exact hret 20 _ dX4_refuse_20
end S_X4_refuse
set_option maxRecDepth 100000 in
set_option maxHeartbeats 4000000 in
theorem c_X4_refuse (l : Launch) (D : va_G) (cy : Nat → ClassId) (ad : AD) (a_t : Nat) (g_t_2 : Value) (g_t_3 : Value) (g_t_4 : Value) (g_t_5 : Value) (g_t_7 : Value) (x1 : Int) (c_fault : Int) (c_place : Int) (c_from : Int) (F : Nat) {v : Int × Int} (h : m_X4_refuse F x1 c_fault c_place c_from = some v) : Ct l yX4_refuse cX4_refuse 2 none { frames := 0, cells := 0, slots := 0, locals := 0 } D cy ad [.ref a_t, .int (wI x1)] (W_X4_refuse cy a_t g_t_2 g_t_3 g_t_4 g_t_5 g_t_7 c_fault c_place c_from) (W_X4_refuse cy a_t g_t_2 g_t_3 g_t_4 g_t_5 g_t_7 (v.1) (v.2) c_from) none := by
  refine Ct.introV (j := 0) (plainFor_of_name (by decide)) rfl rfl (fun E C e1 e2 e3 e4 e5 hret => ?_)
  subst e1; subst e2; subst e3; subst e4
  exact wm_X4_refuse C e5 h hret
-- MovingStair$Reader.expectWord(Ljava/lang/String;)V
def W_X4_expectWord (cy : Nat → ClassId) (a_t a_t_tape : Nat) (g_t_3 : Value) (c_fault : Int) (c_place : Int) (c_length : Int) (c_kind : Int) (c_from : Int) (c_until : Int) (c_tape : Int → Int) : va_W := [(a_t, .inr (4, [.int (wI c_fault), .int (wI c_place), .ref a_t_tape, g_t_3, .int (wI c_length), .int (wI c_kind), .int (wI c_from), .int (wI c_until)])), (a_t_tape, .inl (cy 0, 900, .inl (aI c_tape)))]
def m_X4_expectWord (F : Nat) (x1 : Nat) (c_fault : Int) (c_place : Int) (c_length : Int) (c_kind : Int) (c_from : Int) (c_until : Int) (c_tape : Int → Int) : Option (Int × Int × Int × Int × Int) :=
  if wI c_fault = wI 0 then
    (bnd1 (m_X4_isWord F x1 c_length c_kind c_from c_until c_tape) fun r1 => if wI r1 = wI 0 then
    (bnd2 (m_X4_refuse F 1 c_fault c_place c_from) fun o3 o4 => some (o3, o4, c_kind, c_from, c_until))
  else
    (bnd3 (m_X4_advance F c_length c_until c_tape) fun o3 o4 o5 => some (c_fault, c_place, o3, o4, o5)))
  else
    (some (c_fault, c_place, c_kind, c_from, c_until))
section S_X4_expectWord
variable {E : EE} {a_t a_t_tape : Nat} {g_t_3 : Value}
set_option maxRecDepth 100000 in
set_option maxHeartbeats 4000000 in
theorem wm_X4_expectWord {F : Nat} {v : Int × Int × Int × Int × Int} {x1 : Nat} {c_fault : Int} {c_place : Int} {c_length : Int} {c_kind : Int} {c_from : Int} {c_until : Int} {c_tape : Int → Int} (C : Cx E cX4_expectWord RX4 { frames := 5, cells := 0, slots := 0, locals := 107 }) (hN : eN E = 2) (h : m_X4_expectWord F x1 c_fault c_place c_length c_kind c_from c_until c_tape = some v) (hs_x1 : x1 < 13) (hret : ∀ (pc : Nat) (L : List (Option Value)), decode cX4_expectWord pc = .ok (.return_, 1) → GG E 0 0 (W_X4_expectWord (eCy E) a_t a_t_tape g_t_3 (v.1) (v.2.1) c_length (v.2.2.1) (v.2.2.2.1) (v.2.2.2.2) c_tape) L pc []) : GG E 0 0 (W_X4_expectWord (eCy E) a_t a_t_tape g_t_3 c_fault c_place c_length c_kind c_from c_until c_tape) [some (.ref a_t), some (.ref ((eAd E).1 x1))] 0 [] := by
  unfold m_X4_expectWord at h
  refine g_aload_n 0 C dX4_expectWord_0 rfl rfl ?_
  refine g_get C fg_X4_9 0 rfl rfl dX4_expectWord_1 ?_
  refine g_st (st' := [.int (wI c_fault)]) rfl ?_
  refine g_if_eq 8 C dX4_expectWord_4 (by decide) h (fun h => ?_) (fun h => ?_)
  · refine g_aload_n 0 C dX4_expectWord_8 rfl rfl ?_
    refine g_aload_n 1 C dX4_expectWord_9 rfl rfl ?_
    obtain ⟨r1, hr2, h⟩ := bnd1_some h
    refine g_callI [0, 1] [] [0, 1] C mt_X4_64 (c_X4_isWord _ _ _ _ a_t a_t_tape (.int (wI c_fault)) (.int (wI c_place)) (g_t_3) x1 c_length c_kind c_from c_until c_tape F hr2 hs_x1) (q0 := 0) rfl (ci := 4) rfl rfl rfl (ws2 := (W_X4_expectWord (eCy E) a_t a_t_tape g_t_3 c_fault c_place c_length c_kind c_from c_until c_tape)) rfl rfl rfl (rest := []) rfl rfl rfl dX4_expectWord_10 ?_
    refine g_if_eq 23 C dX4_expectWord_13 (by decide) h (fun h => ?_) (fun h => ?_)
    · refine g_aload_n 0 C dX4_expectWord_23 rfl rfl ?_
      refine g_iconst C dX4_expectWord_24 ?_
      obtain ⟨o3, o4, hr5, h⟩ := bnd2_some h
      refine g_callV [0] [1] [1, 0] C mt_X4_86 (c_X4_refuse _ _ _ _ a_t (.ref a_t_tape) (g_t_3) (.int (wI c_length)) (.int (wI c_kind)) (.int (wI c_until)) 1 c_fault c_place c_from F hr5) (q0 := 0) rfl (ci := 4) rfl rfl rfl (ws2 := (W_X4_expectWord (eCy E) a_t a_t_tape g_t_3 o3 o4 c_length c_kind c_from c_until c_tape)) rfl rfl rfl (rest := []) rfl rfl rfl dX4_expectWord_25 ?_
      cases h
      exact hret 28 _ dX4_expectWord_28
    · refine g_aload_n 0 C dX4_expectWord_16 rfl rfl ?_
      obtain ⟨o3, o4, o5, hr6, h⟩ := bnd3_some h
      refine g_callV [0, 1] [] [0, 1] C mt_X4_50 (c_X4_advance _ _ _ _ a_t a_t_tape (.int (wI c_fault)) (.int (wI c_place)) (g_t_3) c_length c_kind c_from c_until c_tape F hr6) (q0 := 0) rfl (ci := 4) rfl rfl rfl (ws2 := (W_X4_expectWord (eCy E) a_t a_t_tape g_t_3 c_fault c_place c_length o3 o4 o5 c_tape)) rfl rfl rfl (rest := []) rfl rfl rfl dX4_expectWord_17 ?_
      refine g_goto (tgt := 28) C dX4_expectWord_20 (by decide) ?_
      cases h
      exact hret 28 _ dX4_expectWord_28
  · cases h
    exact hret 7 _ dX4_expectWord_7
end S_X4_expectWord
set_option maxRecDepth 100000 in
set_option maxHeartbeats 4000000 in
theorem c_X4_expectWord (l : Launch) (D : va_G) (cy : Nat → ClassId) (ad : AD) (a_t a_t_tape : Nat) (g_t_3 : Value) (x1 : Nat) (c_fault : Int) (c_place : Int) (c_length : Int) (c_kind : Int) (c_from : Int) (c_until : Int) (c_tape : Int → Int) (F : Nat) {v : Int × Int × Int × Int × Int} (h : m_X4_expectWord F x1 c_fault c_place c_length c_kind c_from c_until c_tape = some v) (hs_x1 : x1 < 13) : Ct l yX4_expectWord cX4_expectWord 2 none { frames := 5, cells := 0, slots := 0, locals := 107 } D cy ad [.ref a_t, .ref (ad.1 x1)] (W_X4_expectWord cy a_t a_t_tape g_t_3 c_fault c_place c_length c_kind c_from c_until c_tape) (W_X4_expectWord cy a_t a_t_tape g_t_3 (v.1) (v.2.1) c_length (v.2.2.1) (v.2.2.2.1) (v.2.2.2.2) c_tape) none := by
  refine Ct.introV (j := 0) (plainFor_of_name (by decide)) rfl rfl (fun E C e1 e2 e3 e4 e5 hret => ?_)
  subst e1; subst e2; subst e3; subst e4
  exact wm_X4_expectWord C e5 h hs_x1 hret
-- MovingStair$Reader.numberHere()I
def W_X4_numberHere (cy : Nat → ClassId) (a_t a_t_tape : Nat) (g_t_0 : Value) (g_t_1 : Value) (g_t_3 : Value) (g_t_5 : Value) (c_length : Int) (c_from : Int) (c_until : Int) (c_tape : Int → Int) : va_W := [(a_t, .inr (4, [g_t_0, g_t_1, .ref a_t_tape, g_t_3, .int (wI c_length), g_t_5, .int (wI c_from), .int (wI c_until)])), (a_t_tape, .inl (cy 0, 900, .inl (aI c_tape)))]
def mb_X4_numberHere_7 (F : Nat) (k7 : Int → Int → Option (Int)) (x1 : Int) (x2 : Int) (c_length : Int) (c_until : Int) (c_tape : Int → Int) : Option (Int) :=
  if wI c_until ≤ wI x2 then
    (some x1)
  else
    (if wI c_length ≤ wI x2 then
    (some x1)
  else
    (chk (0 ≤ x2 ∧ x2 < 900) <| bnd1 (m_J9_min_7cf53 F 1000000 (((x1 * 10) + (c_tape x2)) - 48)) fun r2 => k7 r2 (x2 + 1)))
def ml_X4_numberHere_7 (F : Nat) (x1 : Int) (x2 : Int) (c_length : Int) (c_until : Int) (c_tape : Int → Int) : Option (Int) :=
  loopN (fun (k : Int × Int → Option (Int)) q => mb_X4_numberHere_7 F (fun y0 y1 => k (y0, y1)) q.1 q.2 c_length c_until c_tape) F (x1, x2)
def m_X4_numberHere (F : Nat) (c_length : Int) (c_from : Int) (c_until : Int) (c_tape : Int → Int) : Option (Int) :=
  ml_X4_numberHere_7 F 0 c_from c_length c_until c_tape
section S_X4_numberHere
variable {E : EE} {a_t a_t_tape : Nat} {g_t_0 : Value} {g_t_1 : Value} {g_t_3 : Value} {g_t_5 : Value}
set_option maxRecDepth 100000 in
set_option maxHeartbeats 4000000 in
theorem wb_X4_numberHere_7 {F : Nat} {k7 : Int → Int → Option (Int)} {v : Int} {x1 : Int} {x2 : Int} {c_length : Int} {c_until : Int} {c_tape : Int → Int} {c_from : Int} (C : Cx E cX4_numberHere RX4 { frames := 1, cells := 0, slots := 0, locals := 21 }) (hN : eN E = 3) (h : mb_X4_numberHere_7 F k7 x1 x2 c_length c_until c_tape = some v) (hk7 : ∀ (y_x1 : Int) (y_x2 : Int), k7 y_x1 y_x2 = some v → GG E 0 0 (W_X4_numberHere (eCy E) a_t a_t_tape g_t_0 g_t_1 g_t_3 g_t_5 c_length c_from c_until c_tape) [some (.ref a_t), some (.int (wI y_x1)), some (.int (wI y_x2))] 7 []) (hret : ∀ (pc : Nat) (L : List (Option Value)), decode cX4_numberHere pc = .ok (.ireturn, 1) → GG E 0 0 (W_X4_numberHere (eCy E) a_t a_t_tape g_t_0 g_t_1 g_t_3 g_t_5 c_length c_from c_until c_tape) L pc [.int (wI v)]) : GG E 0 0 (W_X4_numberHere (eCy E) a_t a_t_tape g_t_0 g_t_1 g_t_3 g_t_5 c_length c_from c_until c_tape) [some (.ref a_t), some (.int (wI x1)), some (.int (wI x2))] 7 [] := by
  unfold mb_X4_numberHere_7 at h
  refine g_iload_n 2 C dX4_numberHere_7 rfl rfl ?_
  refine g_aload_n 0 C dX4_numberHere_8 rfl rfl ?_
  refine g_get C fg_X4_38 0 rfl rfl dX4_numberHere_9 ?_
  refine g_st (st' := [.int (wI c_until), .int (wI x2)]) rfl ?_
  refine g_icmp_ge 49 C dX4_numberHere_12 (by decide) h (fun h => ?_) (fun h => ?_)
  · refine g_iload_n 1 C dX4_numberHere_49 rfl rfl ?_
    cases h
    exact hret 50 _ dX4_numberHere_50
  · refine g_iload_n 2 C dX4_numberHere_15 rfl rfl ?_
    refine g_aload_n 0 C dX4_numberHere_16 rfl rfl ?_
    refine g_get C fg_X4_29 0 rfl rfl dX4_numberHere_17 ?_
    refine g_st (st' := [.int (wI c_length), .int (wI x2)]) rfl ?_
    refine g_icmp_ge 49 C dX4_numberHere_20 (by decide) h (fun h => ?_) (fun h => ?_)
    · refine g_iload_n 1 C dX4_numberHere_49 rfl rfl ?_
      cases h
      exact hret 50 _ dX4_numberHere_50
    · refine g_ldc (v := 1000000) C mc_X4_170 dX4_numberHere_23 ?_
      refine g_iload_n 1 C dX4_numberHere_25 rfl rfl ?_
      refine g_bipush C dX4_numberHere_26 (by decide) ?_
      refine g_imul C dX4_numberHere_28 ?_
      refine g_aload_n 0 C dX4_numberHere_29 rfl rfl ?_
      refine g_get C fg_X4_18 0 rfl rfl dX4_numberHere_30 ?_
      refine g_iload_n 2 C dX4_numberHere_33 rfl rfl ?_
      obtain ⟨hc1, h⟩ := chk_some h
      refine g_bald C 1 rfl hc1 rfl dX4_numberHere_34 ?_
      refine g_iadd C dX4_numberHere_35 ?_
      refine g_bipush C dX4_numberHere_36 (by decide) ?_
      refine g_isub C dX4_numberHere_38 ?_
      obtain ⟨r2, hr3, h⟩ := bnd1_some h
      refine g_callSI [] [0, 1] [0, 1] C mt_X4_41 (c_J9_min_7cf53 _ _ _ _ 1000000 (((x1 * 10) + (c_tape x2)) - 48) F hr3) rfl rfl (ws2 := (W_X4_numberHere (eCy E) a_t a_t_tape g_t_0 g_t_1 g_t_3 g_t_5 c_length c_from c_until c_tape)) rfl rfl rfl (rest := []) rfl rfl rfl dX4_numberHere_39 ?_
      refine g_istore_n 1 C hN dX4_numberHere_42 rfl rfl (L' := [some (.ref a_t), some (.int (wI r2)), some (.int (wI x2))]) rfl ?_
      refine g_iinc C hN dX4_numberHere_43 rfl rfl (L' := [some (.ref a_t), some (.int (wI r2)), some (.int (wI (x2 + 1)))]) rfl ?_
      refine g_goto (tgt := 7) C dX4_numberHere_46 (by decide) ?_
      exact hk7 _ _ h
set_option maxRecDepth 100000 in
set_option maxHeartbeats 4000000 in
theorem wl_X4_numberHere_7 {F : Nat} {v : Int} {x1 : Int} {x2 : Int} {c_length : Int} {c_until : Int} {c_tape : Int → Int} {c_from : Int} (C : Cx E cX4_numberHere RX4 { frames := 1, cells := 0, slots := 0, locals := 21 }) (hN : eN E = 3) (h : ml_X4_numberHere_7 F x1 x2 c_length c_until c_tape = some v) (hret : ∀ (pc : Nat) (L : List (Option Value)), decode cX4_numberHere pc = .ok (.ireturn, 1) → GG E 0 0 (W_X4_numberHere (eCy E) a_t a_t_tape g_t_0 g_t_1 g_t_3 g_t_5 c_length c_from c_until c_tape) L pc [.int (wI v)]) : GG E 0 0 (W_X4_numberHere (eCy E) a_t a_t_tape g_t_0 g_t_1 g_t_3 g_t_5 c_length c_from c_until c_tape) [some (.ref a_t), some (.int (wI x1)), some (.int (wI x2))] 7 [] := by
  unfold ml_X4_numberHere_7 at h
  exact loop_walk (g := fun (q : Int × Int) => GG E 0 0 (W_X4_numberHere (eCy E) a_t a_t_tape g_t_0 g_t_1 g_t_3 g_t_5 c_length c_from c_until c_tape) [some (.ref a_t), some (.int (wI (q.1))), some (.int (wI (q.2)))] 7 []) (fun k hk q h => wb_X4_numberHere_7 C hN h (fun y0 y1 hh => hk (y0, y1) hh) hret) F (x1, x2) h
set_option maxRecDepth 100000 in
set_option maxHeartbeats 4000000 in
theorem wm_X4_numberHere {F : Nat} {v : Int} {c_length : Int} {c_from : Int} {c_until : Int} {c_tape : Int → Int} (C : Cx E cX4_numberHere RX4 { frames := 1, cells := 0, slots := 0, locals := 21 }) (hN : eN E = 3) (h : m_X4_numberHere F c_length c_from c_until c_tape = some v) (hret : ∀ (pc : Nat) (L : List (Option Value)), decode cX4_numberHere pc = .ok (.ireturn, 1) → GG E 0 0 (W_X4_numberHere (eCy E) a_t a_t_tape g_t_0 g_t_1 g_t_3 g_t_5 c_length c_from c_until c_tape) L pc [.int (wI v)]) : GG E 0 0 (W_X4_numberHere (eCy E) a_t a_t_tape g_t_0 g_t_1 g_t_3 g_t_5 c_length c_from c_until c_tape) [some (.ref a_t), none, none] 0 [] := by
  unfold m_X4_numberHere at h
  refine g_iconst C dX4_numberHere_0 ?_
  refine g_istore_n 1 C hN dX4_numberHere_1 rfl rfl (L' := [some (.ref a_t), some (.int (wI 0)), none]) rfl ?_
  refine g_aload_n 0 C dX4_numberHere_2 rfl rfl ?_
  refine g_get C fg_X4_35 0 rfl rfl dX4_numberHere_3 ?_
  refine g_st (st' := [.int (wI c_from)]) rfl ?_
  refine g_istore_n 2 C hN dX4_numberHere_6 rfl rfl (L' := [some (.ref a_t), some (.int (wI 0)), some (.int (wI c_from))]) rfl ?_
  exact wl_X4_numberHere_7 C hN h hret
end S_X4_numberHere
set_option maxRecDepth 100000 in
set_option maxHeartbeats 4000000 in
theorem c_X4_numberHere (l : Launch) (D : va_G) (cy : Nat → ClassId) (ad : AD) (a_t a_t_tape : Nat) (g_t_0 : Value) (g_t_1 : Value) (g_t_3 : Value) (g_t_5 : Value) (c_length : Int) (c_from : Int) (c_until : Int) (c_tape : Int → Int) (F : Nat) {v : Int} (h : m_X4_numberHere F c_length c_from c_until c_tape = some v) : Ct l yX4_numberHere cX4_numberHere 3 (some .int) { frames := 1, cells := 0, slots := 0, locals := 21 } D cy ad [.ref a_t] (W_X4_numberHere cy a_t a_t_tape g_t_0 g_t_1 g_t_3 g_t_5 c_length c_from c_until c_tape) (W_X4_numberHere cy a_t a_t_tape g_t_0 g_t_1 g_t_3 g_t_5 c_length c_from c_until c_tape) (some (.int (wI v))) := by
  refine Ct.introI (j := 2) (plainFor_of_name (by decide)) rfl rfl (fun E C e1 e2 e3 e4 e5 hret => ?_)
  subst e1; subst e2; subst e3; subst e4
  exact wm_X4_numberHere C e5 h hret
-- MovingStair$Reader.boundedNumber(II)I
def W_X4_boundedNumber (cy : Nat → ClassId) (a_t a_t_tape : Nat) (g_t_3 : Value) (c_fault : Int) (c_place : Int) (c_length : Int) (c_kind : Int) (c_from : Int) (c_until : Int) (c_tape : Int → Int) : va_W := [(a_t, .inr (4, [.int (wI c_fault), .int (wI c_place), .ref a_t_tape, g_t_3, .int (wI c_length), .int (wI c_kind), .int (wI c_from), .int (wI c_until)])), (a_t_tape, .inl (cy 0, 900, .inl (aI c_tape)))]
def mb_X4_boundedNumber_39 (F : Nat) (x1 : Int) (c_fault : Int) (c_place : Int) (c_kind : Int) (c_from : Int) (c_until : Int) : Option (Int × Int × Int × Int × Int × Int) :=
  bnd2 (m_X4_refuse F 2 c_fault c_place c_from) fun o1 o2 => some (x1, o1, o2, c_kind, c_from, c_until)
def m_X4_boundedNumber (F : Nat) (x1 : Int) (x2 : Int) (c_fault : Int) (c_place : Int) (c_length : Int) (c_kind : Int) (c_from : Int) (c_until : Int) (c_tape : Int → Int) : Option (Int × Int × Int × Int × Int × Int) :=
  if wI c_fault = wI 0 then
    (if wI c_kind = wI 2 then
    (bnd1 (m_X4_numberHere F c_length c_from c_until c_tape) fun r1 => if wI r1 < wI x1 then
    (mb_X4_boundedNumber_39 F x1 c_fault c_place c_kind c_from c_until)
  else
    (if wI r1 ≤ wI x2 then
    (bnd3 (m_X4_advance F c_length c_until c_tape) fun o3 o4 o5 => some (r1, c_fault, c_place, o3, o4, o5))
  else
    (mb_X4_boundedNumber_39 F x1 c_fault c_place c_kind c_from c_until)))
  else
    (bnd2 (m_X4_refuse F 1 c_fault c_place c_from) fun o1 o2 => some (x1, o1, o2, c_kind, c_from, c_until)))
  else
    (some (x1, c_fault, c_place, c_kind, c_from, c_until))
section S_X4_boundedNumber
variable {E : EE} {a_t a_t_tape : Nat} {g_t_3 : Value}
set_option maxRecDepth 100000 in
set_option maxHeartbeats 4000000 in
theorem wb_X4_boundedNumber_39 {F : Nat} {v : Int × Int × Int × Int × Int × Int} {x1 : Int} {c_fault : Int} {c_place : Int} {c_kind : Int} {c_from : Int} {c_until : Int} {c_length : Int} {c_tape : Int → Int} (C : Cx E cX4_boundedNumber RX4 { frames := 2, cells := 0, slots := 0, locals := 43 }) (hN : eN E = 4) (h : mb_X4_boundedNumber_39 F x1 c_fault c_place c_kind c_from c_until = some v) (hret : ∀ (pc : Nat) (L : List (Option Value)), decode cX4_boundedNumber pc = .ok (.ireturn, 1) → GG E 0 0 (W_X4_boundedNumber (eCy E) a_t a_t_tape g_t_3 (v.2.1) (v.2.2.1) c_length (v.2.2.2.1) (v.2.2.2.2.1) (v.2.2.2.2.2) c_tape) L pc [.int (wI (v.1))]) : GG E 0 0 (W_X4_boundedNumber (eCy E) a_t a_t_tape g_t_3 c_fault c_place c_length c_kind c_from c_until c_tape) [some (.ref a_t), some (.int (wI x1)), none, none] 39 [] := by
  unfold mb_X4_boundedNumber_39 at h
  refine g_aload_n 0 C dX4_boundedNumber_39 rfl rfl ?_
  refine g_iconst C dX4_boundedNumber_40 ?_
  obtain ⟨o1, o2, hr3, h⟩ := bnd2_some h
  refine g_callV [0] [1] [1, 0] C mt_X4_86 (c_X4_refuse _ _ _ _ a_t (.ref a_t_tape) (g_t_3) (.int (wI c_length)) (.int (wI c_kind)) (.int (wI c_until)) 2 c_fault c_place c_from F hr3) (q0 := 0) rfl (ci := 4) rfl rfl rfl (ws2 := (W_X4_boundedNumber (eCy E) a_t a_t_tape g_t_3 o1 o2 c_length c_kind c_from c_until c_tape)) rfl rfl rfl (rest := []) rfl rfl rfl dX4_boundedNumber_41 ?_
  refine g_iload_n 1 C dX4_boundedNumber_44 rfl rfl ?_
  cases h
  exact hret 45 _ dX4_boundedNumber_45
set_option maxRecDepth 100000 in
set_option maxHeartbeats 4000000 in
theorem wm_X4_boundedNumber {F : Nat} {v : Int × Int × Int × Int × Int × Int} {x1 : Int} {x2 : Int} {c_fault : Int} {c_place : Int} {c_length : Int} {c_kind : Int} {c_from : Int} {c_until : Int} {c_tape : Int → Int} (C : Cx E cX4_boundedNumber RX4 { frames := 2, cells := 0, slots := 0, locals := 43 }) (hN : eN E = 4) (h : m_X4_boundedNumber F x1 x2 c_fault c_place c_length c_kind c_from c_until c_tape = some v) (hret : ∀ (pc : Nat) (L : List (Option Value)), decode cX4_boundedNumber pc = .ok (.ireturn, 1) → GG E 0 0 (W_X4_boundedNumber (eCy E) a_t a_t_tape g_t_3 (v.2.1) (v.2.2.1) c_length (v.2.2.2.1) (v.2.2.2.2.1) (v.2.2.2.2.2) c_tape) L pc [.int (wI (v.1))]) : GG E 0 0 (W_X4_boundedNumber (eCy E) a_t a_t_tape g_t_3 c_fault c_place c_length c_kind c_from c_until c_tape) [some (.ref a_t), some (.int (wI x1)), some (.int (wI x2)), none] 0 [] := by
  unfold m_X4_boundedNumber at h
  refine g_aload_n 0 C dX4_boundedNumber_0 rfl rfl ?_
  refine g_get C fg_X4_9 0 rfl rfl dX4_boundedNumber_1 ?_
  refine g_st (st' := [.int (wI c_fault)]) rfl ?_
  refine g_if_eq 9 C dX4_boundedNumber_4 (by decide) h (fun h => ?_) (fun h => ?_)
  · refine g_aload_n 0 C dX4_boundedNumber_9 rfl rfl ?_
    refine g_get C fg_X4_32 0 rfl rfl dX4_boundedNumber_10 ?_
    refine g_st (st' := [.int (wI c_kind)]) rfl ?_
    refine g_iconst C dX4_boundedNumber_13 ?_
    refine g_icmp_eq 24 C dX4_boundedNumber_14 (by decide) h (fun h => ?_) (fun h => ?_)
    · refine g_aload_n 0 C dX4_boundedNumber_24 rfl rfl ?_
      obtain ⟨r1, hr2, h⟩ := bnd1_some h
      refine g_callI [0, 1] [] [0, 1] C mt_X4_158 (c_X4_numberHere _ _ _ _ a_t a_t_tape (.int (wI c_fault)) (.int (wI c_place)) (g_t_3) (.int (wI c_kind)) c_length c_from c_until c_tape F hr2) (q0 := 0) rfl (ci := 4) rfl rfl rfl (ws2 := (W_X4_boundedNumber (eCy E) a_t a_t_tape g_t_3 c_fault c_place c_length c_kind c_from c_until c_tape)) rfl rfl rfl (rest := []) rfl rfl rfl dX4_boundedNumber_25 ?_
      refine g_istore_n 3 C hN dX4_boundedNumber_28 rfl rfl (L' := [some (.ref a_t), some (.int (wI x1)), some (.int (wI x2)), some (.int (wI r1))]) rfl ?_
      refine g_iload_n 3 C dX4_boundedNumber_29 rfl rfl ?_
      refine g_iload_n 1 C dX4_boundedNumber_30 rfl rfl ?_
      refine g_icmp_lt 39 C dX4_boundedNumber_31 (by decide) h (fun h => ?_) (fun h => ?_)
      · refine g_mask [true, true, false, false] (L' := [some (.ref a_t), some (.int (wI x1)), none, none]) rfl ?_
        exact wb_X4_boundedNumber_39 C hN h hret
      · refine g_iload_n 3 C dX4_boundedNumber_34 rfl rfl ?_
        refine g_iload_n 2 C dX4_boundedNumber_35 rfl rfl ?_
        refine g_icmp_le 46 C dX4_boundedNumber_36 (by decide) h (fun h => ?_) (fun h => ?_)
        · refine g_aload_n 0 C dX4_boundedNumber_46 rfl rfl ?_
          obtain ⟨o3, o4, o5, hr6, h⟩ := bnd3_some h
          refine g_callV [0, 1] [] [0, 1] C mt_X4_50 (c_X4_advance _ _ _ _ a_t a_t_tape (.int (wI c_fault)) (.int (wI c_place)) (g_t_3) c_length c_kind c_from c_until c_tape F hr6) (q0 := 0) rfl (ci := 4) rfl rfl rfl (ws2 := (W_X4_boundedNumber (eCy E) a_t a_t_tape g_t_3 c_fault c_place c_length o3 o4 o5 c_tape)) rfl rfl rfl (rest := []) rfl rfl rfl dX4_boundedNumber_47 ?_
          refine g_iload_n 3 C dX4_boundedNumber_50 rfl rfl ?_
          cases h
          exact hret 51 _ dX4_boundedNumber_51
        · refine g_mask [true, true, false, false] (L' := [some (.ref a_t), some (.int (wI x1)), none, none]) rfl ?_
          exact wb_X4_boundedNumber_39 C hN h hret
    · refine g_aload_n 0 C dX4_boundedNumber_17 rfl rfl ?_
      refine g_iconst C dX4_boundedNumber_18 ?_
      obtain ⟨o1, o2, hr3, h⟩ := bnd2_some h
      refine g_callV [0] [1] [1, 0] C mt_X4_86 (c_X4_refuse _ _ _ _ a_t (.ref a_t_tape) (g_t_3) (.int (wI c_length)) (.int (wI c_kind)) (.int (wI c_until)) 1 c_fault c_place c_from F hr3) (q0 := 0) rfl (ci := 4) rfl rfl rfl (ws2 := (W_X4_boundedNumber (eCy E) a_t a_t_tape g_t_3 o1 o2 c_length c_kind c_from c_until c_tape)) rfl rfl rfl (rest := []) rfl rfl rfl dX4_boundedNumber_19 ?_
      refine g_iload_n 1 C dX4_boundedNumber_22 rfl rfl ?_
      cases h
      exact hret 23 _ dX4_boundedNumber_23
  · refine g_iload_n 1 C dX4_boundedNumber_7 rfl rfl ?_
    cases h
    exact hret 8 _ dX4_boundedNumber_8
end S_X4_boundedNumber
set_option maxRecDepth 100000 in
set_option maxHeartbeats 4000000 in
theorem c_X4_boundedNumber (l : Launch) (D : va_G) (cy : Nat → ClassId) (ad : AD) (a_t a_t_tape : Nat) (g_t_3 : Value) (x1 : Int) (x2 : Int) (c_fault : Int) (c_place : Int) (c_length : Int) (c_kind : Int) (c_from : Int) (c_until : Int) (c_tape : Int → Int) (F : Nat) {v : Int × Int × Int × Int × Int × Int} (h : m_X4_boundedNumber F x1 x2 c_fault c_place c_length c_kind c_from c_until c_tape = some v) : Ct l yX4_boundedNumber cX4_boundedNumber 4 (some .int) { frames := 2, cells := 0, slots := 0, locals := 43 } D cy ad [.ref a_t, .int (wI x1), .int (wI x2)] (W_X4_boundedNumber cy a_t a_t_tape g_t_3 c_fault c_place c_length c_kind c_from c_until c_tape) (W_X4_boundedNumber cy a_t a_t_tape g_t_3 (v.2.1) (v.2.2.1) c_length (v.2.2.2.1) (v.2.2.2.2.1) (v.2.2.2.2.2) c_tape) (some (.int (wI (v.1)))) := by
  refine Ct.introI (j := 1) (plainFor_of_name (by decide)) rfl rfl (fun E C e1 e2 e3 e4 e5 hret => ?_)
  subst e1; subst e2; subst e3; subst e4
  exact wm_X4_boundedNumber C e5 h hret
-- MovingStair$Reader.namedNumber(Ljava/lang/String;II)I
def W_X4_namedNumber (cy : Nat → ClassId) (a_t a_t_tape : Nat) (g_t_3 : Value) (c_fault : Int) (c_place : Int) (c_length : Int) (c_kind : Int) (c_from : Int) (c_until : Int) (c_tape : Int → Int) : va_W := [(a_t, .inr (4, [.int (wI c_fault), .int (wI c_place), .ref a_t_tape, g_t_3, .int (wI c_length), .int (wI c_kind), .int (wI c_from), .int (wI c_until)])), (a_t_tape, .inl (cy 0, 900, .inl (aI c_tape)))]
def m_X4_namedNumber (F : Nat) (x1 : Nat) (x2 : Int) (x3 : Int) (c_fault : Int) (c_place : Int) (c_length : Int) (c_kind : Int) (c_from : Int) (c_until : Int) (c_tape : Int → Int) : Option (Int × Int × Int × Int × Int × Int) :=
  bnd5 (m_X4_expectWord F x1 c_fault c_place c_length c_kind c_from c_until c_tape) fun o1 o2 o3 o4 o5 => bnd6 (m_X4_boundedNumber F x2 x3 o1 o2 c_length o3 o4 o5 c_tape) fun r7 o8 o9 o10 o11 o12 => some (r7, o8, o9, o10, o11, o12)
section S_X4_namedNumber
variable {E : EE} {a_t a_t_tape : Nat} {g_t_3 : Value}
set_option maxRecDepth 100000 in
set_option maxHeartbeats 4000000 in
theorem wm_X4_namedNumber {F : Nat} {v : Int × Int × Int × Int × Int × Int} {x1 : Nat} {x2 : Int} {x3 : Int} {c_fault : Int} {c_place : Int} {c_length : Int} {c_kind : Int} {c_from : Int} {c_until : Int} {c_tape : Int → Int} (C : Cx E cX4_namedNumber RX4 { frames := 6, cells := 0, slots := 0, locals := 128 }) (hN : eN E = 4) (h : m_X4_namedNumber F x1 x2 x3 c_fault c_place c_length c_kind c_from c_until c_tape = some v) (hs_x1 : x1 < 13) (hret : ∀ (pc : Nat) (L : List (Option Value)), decode cX4_namedNumber pc = .ok (.ireturn, 1) → GG E 0 0 (W_X4_namedNumber (eCy E) a_t a_t_tape g_t_3 (v.2.1) (v.2.2.1) c_length (v.2.2.2.1) (v.2.2.2.2.1) (v.2.2.2.2.2) c_tape) L pc [.int (wI (v.1))]) : GG E 0 0 (W_X4_namedNumber (eCy E) a_t a_t_tape g_t_3 c_fault c_place c_length c_kind c_from c_until c_tape) [some (.ref a_t), some (.ref ((eAd E).1 x1)), some (.int (wI x2)), some (.int (wI x3))] 0 [] := by
  unfold m_X4_namedNumber at h
  refine g_aload_n 0 C dX4_namedNumber_0 rfl rfl ?_
  refine g_aload_n 1 C dX4_namedNumber_1 rfl rfl ?_
  obtain ⟨o1, o2, o3, o4, o5, hr6, h⟩ := bnd5_some h
  refine g_callV [0, 1] [] [0, 1] C mt_X4_92 (c_X4_expectWord _ _ _ _ a_t a_t_tape (g_t_3) x1 c_fault c_place c_length c_kind c_from c_until c_tape F hr6 hs_x1) (q0 := 0) rfl (ci := 4) rfl rfl rfl (ws2 := (W_X4_namedNumber (eCy E) a_t a_t_tape g_t_3 o1 o2 c_length o3 o4 o5 c_tape)) rfl rfl rfl (rest := []) rfl rfl rfl dX4_namedNumber_2 ?_
  refine g_aload_n 0 C dX4_namedNumber_5 rfl rfl ?_
  refine g_iload_n 2 C dX4_namedNumber_6 rfl rfl ?_
  refine g_iload_n 3 C dX4_namedNumber_7 rfl rfl ?_
  obtain ⟨r7, o8, o9, o10, o11, o12, hr13, h⟩ := bnd6_some h
  refine g_callI [0, 1] [] [0, 1] C mt_X4_155 (c_X4_boundedNumber _ _ _ _ a_t a_t_tape (g_t_3) x2 x3 o1 o2 c_length o3 o4 o5 c_tape F hr13) (q0 := 0) rfl (ci := 4) rfl rfl rfl (ws2 := (W_X4_namedNumber (eCy E) a_t a_t_tape g_t_3 o8 o9 c_length o10 o11 o12 c_tape)) rfl rfl rfl (rest := []) rfl rfl rfl dX4_namedNumber_8 ?_
  cases h
  exact hret 11 _ dX4_namedNumber_11
end S_X4_namedNumber
set_option maxRecDepth 100000 in
set_option maxHeartbeats 4000000 in
theorem c_X4_namedNumber (l : Launch) (D : va_G) (cy : Nat → ClassId) (ad : AD) (a_t a_t_tape : Nat) (g_t_3 : Value) (x1 : Nat) (x2 : Int) (x3 : Int) (c_fault : Int) (c_place : Int) (c_length : Int) (c_kind : Int) (c_from : Int) (c_until : Int) (c_tape : Int → Int) (F : Nat) {v : Int × Int × Int × Int × Int × Int} (h : m_X4_namedNumber F x1 x2 x3 c_fault c_place c_length c_kind c_from c_until c_tape = some v) (hs_x1 : x1 < 13) : Ct l yX4_namedNumber cX4_namedNumber 4 (some .int) { frames := 6, cells := 0, slots := 0, locals := 128 } D cy ad [.ref a_t, .ref (ad.1 x1), .int (wI x2), .int (wI x3)] (W_X4_namedNumber cy a_t a_t_tape g_t_3 c_fault c_place c_length c_kind c_from c_until c_tape) (W_X4_namedNumber cy a_t a_t_tape g_t_3 (v.2.1) (v.2.2.1) c_length (v.2.2.2.1) (v.2.2.2.2.1) (v.2.2.2.2.2) c_tape) (some (.int (wI (v.1)))) := by
  refine Ct.introI (j := 0) (plainFor_of_name (by decide)) rfl rfl (fun E C e1 e2 e3 e4 e5 hret => ?_)
  subst e1; subst e2; subst e3; subst e4
  exact wm_X4_namedNumber C e5 h hs_x1 hret
-- MovingStair$Reader.readHead()V
def W_X4_readHead (cy : Nat → ClassId) (a_t a_t_fresh a_t_tape : Nat) (g_t_fresh_0 : Value) (g_t_fresh_2 : Value) (g_t_fresh_3 : Value) (g_t_fresh_4 : Value) (g_t_fresh_5 : Value) (g_t_fresh_6 : Value) (g_t_fresh_7 : Value) (g_t_fresh_8 : Value) (g_t_fresh_9 : Value) (g_t_fresh_10 : Value) (g_t_fresh_11 : Value) (g_t_fresh_12 : Value) (g_t_fresh_13 : Value) (g_t_fresh_14 : Value) (g_t_fresh_15 : Value) (g_t_fresh_16 : Value) (c_fault : Int) (c_place : Int) (c_length : Int) (c_kind : Int) (c_from : Int) (c_until : Int) (c_fresh_odds : Int) (c_tape : Int → Int) : va_W := [(a_t, .inr (4, [.int (wI c_fault), .int (wI c_place), .ref a_t_tape, .ref a_t_fresh, .int (wI c_length), .int (wI c_kind), .int (wI c_from), .int (wI c_until)])), (a_t_fresh, .inr (2, [g_t_fresh_0, .int (wI c_fresh_odds), g_t_fresh_2, g_t_fresh_3, g_t_fresh_4, g_t_fresh_5, g_t_fresh_6, g_t_fresh_7, g_t_fresh_8, g_t_fresh_9, g_t_fresh_10, g_t_fresh_11, g_t_fresh_12, g_t_fresh_13, g_t_fresh_14, g_t_fresh_15, g_t_fresh_16])), (a_t_tape, .inl (cy 0, 900, .inl (aI c_tape)))]
def m_X4_readHead (F : Nat) (c_fault : Int) (c_place : Int) (c_length : Int) (c_kind : Int) (c_from : Int) (c_until : Int) (c_tape : Int → Int) : Option (Int × Int × Int × Int × Int × Int) :=
  bnd5 (m_X4_expectWord F 0 c_fault c_place c_length c_kind c_from c_until c_tape) fun o1 o2 o3 o4 o5 => bnd6 (m_X4_namedNumber F 1 0 100 o1 o2 c_length o3 o4 o5 c_tape) fun r7 o8 o9 o10 o11 o12 => some (o8, o9, o10, o11, o12, r7)
section S_X4_readHead
variable {E : EE} {a_t a_t_fresh a_t_tape : Nat} {g_t_fresh_0 : Value} {g_t_fresh_2 : Value} {g_t_fresh_3 : Value} {g_t_fresh_4 : Value} {g_t_fresh_5 : Value} {g_t_fresh_6 : Value} {g_t_fresh_7 : Value} {g_t_fresh_8 : Value} {g_t_fresh_9 : Value} {g_t_fresh_10 : Value} {g_t_fresh_11 : Value} {g_t_fresh_12 : Value} {g_t_fresh_13 : Value} {g_t_fresh_14 : Value} {g_t_fresh_15 : Value} {g_t_fresh_16 : Value}
set_option maxRecDepth 100000 in
set_option maxHeartbeats 4000000 in
theorem wm_X4_readHead {F : Nat} {v : Int × Int × Int × Int × Int × Int} {c_fault : Int} {c_place : Int} {c_length : Int} {c_kind : Int} {c_from : Int} {c_until : Int} {c_tape : Int → Int} {c_fresh_odds : Int} (C : Cx E cX4_readHead RX4 { frames := 7, cells := 0, slots := 0, locals := 151 }) (hN : eN E = 1) (h : m_X4_readHead F c_fault c_place c_length c_kind c_from c_until c_tape = some v) (hret : ∀ (pc : Nat) (L : List (Option Value)), decode cX4_readHead pc = .ok (.return_, 1) → GG E 0 0 (W_X4_readHead (eCy E) a_t a_t_fresh a_t_tape g_t_fresh_0 g_t_fresh_2 g_t_fresh_3 g_t_fresh_4 g_t_fresh_5 g_t_fresh_6 g_t_fresh_7 g_t_fresh_8 g_t_fresh_9 g_t_fresh_10 g_t_fresh_11 g_t_fresh_12 g_t_fresh_13 g_t_fresh_14 g_t_fresh_15 g_t_fresh_16 (v.1) (v.2.1) c_length (v.2.2.1) (v.2.2.2.1) (v.2.2.2.2.1) (v.2.2.2.2.2) c_tape) L pc []) : GG E 0 0 (W_X4_readHead (eCy E) a_t a_t_fresh a_t_tape g_t_fresh_0 g_t_fresh_2 g_t_fresh_3 g_t_fresh_4 g_t_fresh_5 g_t_fresh_6 g_t_fresh_7 g_t_fresh_8 g_t_fresh_9 g_t_fresh_10 g_t_fresh_11 g_t_fresh_12 g_t_fresh_13 g_t_fresh_14 g_t_fresh_15 g_t_fresh_16 c_fault c_place c_length c_kind c_from c_until c_fresh_odds c_tape) [some (.ref a_t)] 0 [] := by
  unfold m_X4_readHead at h
  refine g_aload_n 0 C dX4_readHead_0 rfl rfl ?_
  refine g_ldcS 0 (by decide) C dX4_readHead_1 ?_
  obtain ⟨o1, o2, o3, o4, o5, hr6, h⟩ := bnd5_some h
  refine g_callV [0, 2] [1] [1, 0, 2] C mt_X4_92 (c_X4_expectWord _ _ _ _ a_t a_t_tape (.ref a_t_fresh) 0 c_fault c_place c_length c_kind c_from c_until c_tape F hr6 (by decide)) (q0 := 0) rfl (ci := 4) rfl rfl rfl (ws2 := (W_X4_readHead (eCy E) a_t a_t_fresh a_t_tape g_t_fresh_0 g_t_fresh_2 g_t_fresh_3 g_t_fresh_4 g_t_fresh_5 g_t_fresh_6 g_t_fresh_7 g_t_fresh_8 g_t_fresh_9 g_t_fresh_10 g_t_fresh_11 g_t_fresh_12 g_t_fresh_13 g_t_fresh_14 g_t_fresh_15 g_t_fresh_16 o1 o2 c_length o3 o4 o5 c_fresh_odds c_tape)) rfl rfl rfl (rest := []) rfl rfl rfl dX4_readHead_3 ?_
  refine g_aload_n 0 C dX4_readHead_6 rfl rfl ?_
  refine g_get C fg_X4_25 0 rfl rfl dX4_readHead_7 ?_
  refine g_aload_n 0 C dX4_readHead_10 rfl rfl ?_
  refine g_ldcS 1 (by decide) C dX4_readHead_11 ?_
  refine g_iconst C dX4_readHead_13 ?_
  refine g_bipush C dX4_readHead_14 (by decide) ?_
  obtain ⟨r7, o8, o9, o10, o11, o12, hr13, h⟩ := bnd6_some h
  refine g_callI [0, 2] [1] [1, 0, 2] C mt_X4_98 (c_X4_namedNumber _ _ _ _ a_t a_t_tape (.ref a_t_fresh) 1 0 100 o1 o2 c_length o3 o4 o5 c_tape F hr13 (by decide)) (q0 := 0) rfl (ci := 4) rfl rfl rfl (ws2 := (W_X4_readHead (eCy E) a_t a_t_fresh a_t_tape g_t_fresh_0 g_t_fresh_2 g_t_fresh_3 g_t_fresh_4 g_t_fresh_5 g_t_fresh_6 g_t_fresh_7 g_t_fresh_8 g_t_fresh_9 g_t_fresh_10 g_t_fresh_11 g_t_fresh_12 g_t_fresh_13 g_t_fresh_14 g_t_fresh_15 g_t_fresh_16 o8 o9 c_length o10 o11 o12 c_fresh_odds c_tape)) rfl rfl rfl (rest := [.ref a_t_fresh]) rfl rfl rfl dX4_readHead_16 ?_
  refine g_putI C fp_X4_102 1 rfl rfl (ws' := (W_X4_readHead (eCy E) a_t a_t_fresh a_t_tape g_t_fresh_0 g_t_fresh_2 g_t_fresh_3 g_t_fresh_4 g_t_fresh_5 g_t_fresh_6 g_t_fresh_7 g_t_fresh_8 g_t_fresh_9 g_t_fresh_10 g_t_fresh_11 g_t_fresh_12 g_t_fresh_13 g_t_fresh_14 g_t_fresh_15 g_t_fresh_16 o8 o9 c_length o10 o11 o12 r7 c_tape)) rfl dX4_readHead_19 ?_
  cases h
  exact hret 22 _ dX4_readHead_22
end S_X4_readHead
set_option maxRecDepth 100000 in
set_option maxHeartbeats 4000000 in
theorem c_X4_readHead (l : Launch) (D : va_G) (cy : Nat → ClassId) (ad : AD) (a_t a_t_fresh a_t_tape : Nat) (g_t_fresh_0 : Value) (g_t_fresh_2 : Value) (g_t_fresh_3 : Value) (g_t_fresh_4 : Value) (g_t_fresh_5 : Value) (g_t_fresh_6 : Value) (g_t_fresh_7 : Value) (g_t_fresh_8 : Value) (g_t_fresh_9 : Value) (g_t_fresh_10 : Value) (g_t_fresh_11 : Value) (g_t_fresh_12 : Value) (g_t_fresh_13 : Value) (g_t_fresh_14 : Value) (g_t_fresh_15 : Value) (g_t_fresh_16 : Value) (c_fault : Int) (c_place : Int) (c_length : Int) (c_kind : Int) (c_from : Int) (c_until : Int) (c_fresh_odds : Int) (c_tape : Int → Int) (F : Nat) {v : Int × Int × Int × Int × Int × Int} (h : m_X4_readHead F c_fault c_place c_length c_kind c_from c_until c_tape = some v) : Ct l yX4_readHead cX4_readHead 1 none { frames := 7, cells := 0, slots := 0, locals := 151 } D cy ad [.ref a_t] (W_X4_readHead cy a_t a_t_fresh a_t_tape g_t_fresh_0 g_t_fresh_2 g_t_fresh_3 g_t_fresh_4 g_t_fresh_5 g_t_fresh_6 g_t_fresh_7 g_t_fresh_8 g_t_fresh_9 g_t_fresh_10 g_t_fresh_11 g_t_fresh_12 g_t_fresh_13 g_t_fresh_14 g_t_fresh_15 g_t_fresh_16 c_fault c_place c_length c_kind c_from c_until c_fresh_odds c_tape) (W_X4_readHead cy a_t a_t_fresh a_t_tape g_t_fresh_0 g_t_fresh_2 g_t_fresh_3 g_t_fresh_4 g_t_fresh_5 g_t_fresh_6 g_t_fresh_7 g_t_fresh_8 g_t_fresh_9 g_t_fresh_10 g_t_fresh_11 g_t_fresh_12 g_t_fresh_13 g_t_fresh_14 g_t_fresh_15 g_t_fresh_16 (v.1) (v.2.1) c_length (v.2.2.1) (v.2.2.2.1) (v.2.2.2.2.1) (v.2.2.2.2.2) c_tape) none := by
  refine Ct.introV (j := 0) (plainFor_of_name (by decide)) rfl rfl (fun E C e1 e2 e3 e4 e5 hret => ?_)
  subst e1; subst e2; subst e3; subst e4
  exact wm_X4_readHead C e5 h hret
-- MovingStair$Reader.readPart()V
def W_X4_readPart (cy : Nat → ClassId) (a_t a_t_fresh a_t_fresh_speeds a_t_fresh_steps a_t_tape : Nat) (g_t_fresh_0 : Value) (g_t_fresh_1 : Value) (g_t_fresh_5 : Value) (g_t_fresh_6 : Value) (g_t_fresh_7 : Value) (g_t_fresh_8 : Value) (g_t_fresh_9 : Value) (g_t_fresh_10 : Value) (g_t_fresh_11 : Value) (g_t_fresh_12 : Value) (g_t_fresh_13 : Value) (g_t_fresh_14 : Value) (g_t_fresh_15 : Value) (g_t_fresh_16 : Value) (c_fault : Int) (c_place : Int) (c_length : Int) (c_kind : Int) (c_from : Int) (c_until : Int) (c_fresh_parts : Int) (c_fresh_speeds : Int → Int) (c_fresh_steps : Int → Int) (c_tape : Int → Int) : va_W := [(a_t, .inr (4, [.int (wI c_fault), .int (wI c_place), .ref a_t_tape, .ref a_t_fresh, .int (wI c_length), .int (wI c_kind), .int (wI c_from), .int (wI c_until)])), (a_t_fresh, .inr (2, [g_t_fresh_0, g_t_fresh_1, .int (wI c_fresh_parts), .ref a_t_fresh_steps, .ref a_t_fresh_speeds, g_t_fresh_5, g_t_fresh_6, g_t_fresh_7, g_t_fresh_8, g_t_fresh_9, g_t_fresh_10, g_t_fresh_11, g_t_fresh_12, g_t_fresh_13, g_t_fresh_14, g_t_fresh_15, g_t_fresh_16])), (a_t_fresh_speeds, .inl (cy 1, 4, .inl (aI c_fresh_speeds))), (a_t_fresh_steps, .inl (cy 1, 4, .inl (aI c_fresh_steps))), (a_t_tape, .inl (cy 0, 900, .inl (aI c_tape)))]
def mb_X4_readPart_101 (F : Nat) (c_fault : Int) (c_place : Int) (c_kind : Int) (c_from : Int) (c_until : Int) (c_fresh_parts : Int) (c_fresh_speeds : Int → Int) (c_fresh_steps : Int → Int) : Option (Int × Int × Int × Int × Int × Int × (Int → Int) × (Int → Int)) :=
  nam (c_fresh_parts + 1) fun y1 => some (c_fault, c_place, c_kind, c_from, c_until, y1, c_fresh_speeds, c_fresh_steps)
def m_X4_readPart (F : Nat) (c_fault : Int) (c_place : Int) (c_length : Int) (c_kind : Int) (c_from : Int) (c_until : Int) (c_fresh_parts : Int) (c_fresh_speeds : Int → Int) (c_fresh_steps : Int → Int) (c_tape : Int → Int) : Option (Int × Int × Int × Int × Int × Int × (Int → Int) × (Int → Int)) :=
  if wI c_fresh_parts < wI 4 then
    (bnd5 (m_X4_expectWord F 2 c_fault c_place c_length c_kind c_from c_until c_tape) fun o1 o2 o3 o4 o5 => bnd6 (m_X4_namedNumber F 3 1 200 o1 o2 c_length o3 o4 o5 c_tape) fun r7 o8 o9 o10 o11 o12 => chk (0 ≤ c_fresh_parts ∧ c_fresh_parts < 4) <| bnd6 (m_X4_namedNumber F 4 0 30 o8 o9 c_length o10 o11 o12 c_tape) fun r15 o16 o17 o18 o19 o20 => chk (0 ≤ c_fresh_parts ∧ c_fresh_parts < 4) <| if wI o16 = wI 0 then
    (bnd1 (m_X4_isWord F 5 c_length o18 o19 o20 c_tape) fun r23 => if wI r23 = wI 0 then
    (mb_X4_readPart_101 F o16 o17 o18 o19 o20 c_fresh_parts (up c_fresh_speeds c_fresh_parts r15) (up c_fresh_steps c_fresh_parts r7))
  else
    (chk (0 ≤ c_fresh_parts ∧ c_fresh_parts < 4) <| nam (-((up c_fresh_speeds c_fresh_parts r15) c_fresh_parts)) fun y26 => chk (0 ≤ c_fresh_parts ∧ c_fresh_parts < 4) <| bnd3 (m_X4_advance F c_length o20 c_tape) fun o28 o29 o30 => mb_X4_readPart_101 F o16 o17 o28 o29 o30 c_fresh_parts (up (up c_fresh_speeds c_fresh_parts r15) c_fresh_parts y26) (up c_fresh_steps c_fresh_parts r7)))
  else
    (mb_X4_readPart_101 F o16 o17 o18 o19 o20 c_fresh_parts (up c_fresh_speeds c_fresh_parts r15) (up c_fresh_steps c_fresh_parts r7)))
  else
    (bnd2 (m_X4_refuse F 3 c_fault c_place c_from) fun o1 o2 => some (o1, o2, c_kind, c_from, c_until, c_fresh_parts, c_fresh_speeds, c_fresh_steps))
section S_X4_readPart
variable {E : EE} {a_t a_t_fresh a_t_fresh_speeds a_t_fresh_steps a_t_tape : Nat} {g_t_fresh_0 : Value} {g_t_fresh_1 : Value} {g_t_fresh_5 : Value} {g_t_fresh_6 : Value} {g_t_fresh_7 : Value} {g_t_fresh_8 : Value} {g_t_fresh_9 : Value} {g_t_fresh_10 : Value} {g_t_fresh_11 : Value} {g_t_fresh_12 : Value} {g_t_fresh_13 : Value} {g_t_fresh_14 : Value} {g_t_fresh_15 : Value} {g_t_fresh_16 : Value}
set_option maxRecDepth 100000 in
set_option maxHeartbeats 4000000 in
theorem wb_X4_readPart_101 {F : Nat} {v : Int × Int × Int × Int × Int × Int × (Int → Int) × (Int → Int)} {c_fault : Int} {c_place : Int} {c_kind : Int} {c_from : Int} {c_until : Int} {c_fresh_parts : Int} {c_fresh_speeds : Int → Int} {c_fresh_steps : Int → Int} {c_length : Int} {c_tape : Int → Int} (C : Cx E cX4_readPart RX4 { frames := 7, cells := 0, slots := 0, locals := 151 }) (hN : eN E = 2) (h : mb_X4_readPart_101 F c_fault c_place c_kind c_from c_until c_fresh_parts c_fresh_speeds c_fresh_steps = some v) (hret : ∀ (pc : Nat) (L : List (Option Value)), decode cX4_readPart pc = .ok (.return_, 1) → GG E 0 0 (W_X4_readPart (eCy E) a_t a_t_fresh a_t_fresh_speeds a_t_fresh_steps a_t_tape g_t_fresh_0 g_t_fresh_1 g_t_fresh_5 g_t_fresh_6 g_t_fresh_7 g_t_fresh_8 g_t_fresh_9 g_t_fresh_10 g_t_fresh_11 g_t_fresh_12 g_t_fresh_13 g_t_fresh_14 g_t_fresh_15 g_t_fresh_16 (v.1) (v.2.1) c_length (v.2.2.1) (v.2.2.2.1) (v.2.2.2.2.1) (v.2.2.2.2.2.1) (v.2.2.2.2.2.2.1) (v.2.2.2.2.2.2.2) c_tape) L pc []) : GG E 0 0 (W_X4_readPart (eCy E) a_t a_t_fresh a_t_fresh_speeds a_t_fresh_steps a_t_tape g_t_fresh_0 g_t_fresh_1 g_t_fresh_5 g_t_fresh_6 g_t_fresh_7 g_t_fresh_8 g_t_fresh_9 g_t_fresh_10 g_t_fresh_11 g_t_fresh_12 g_t_fresh_13 g_t_fresh_14 g_t_fresh_15 g_t_fresh_16 c_fault c_place c_length c_kind c_from c_until c_fresh_parts c_fresh_speeds c_fresh_steps c_tape) [some (.ref a_t), none] 101 [] := by
  unfold mb_X4_readPart_101 at h
  refine g_aload_n 0 C dX4_readPart_101 rfl rfl ?_
  refine g_get C fg_X4_25 0 rfl rfl dX4_readPart_102 ?_
  refine g_dup C dX4_readPart_105 rfl ?_
  refine g_get C fg_X4_104 1 rfl rfl dX4_readPart_106 ?_
  refine g_st (st' := [.int (wI c_fresh_parts), .ref a_t_fresh]) rfl ?_
  refine g_iconst C dX4_readPart_109 ?_
  refine g_iadd C dX4_readPart_110 ?_
  obtain ⟨y1, e_y1, h⟩ := nam_some h
  refine g_topI e_y1 ?_
  refine g_putI C fp_X4_104 1 rfl rfl (ws' := (W_X4_readPart (eCy E) a_t a_t_fresh a_t_fresh_speeds a_t_fresh_steps a_t_tape g_t_fresh_0 g_t_fresh_1 g_t_fresh_5 g_t_fresh_6 g_t_fresh_7 g_t_fresh_8 g_t_fresh_9 g_t_fresh_10 g_t_fresh_11 g_t_fresh_12 g_t_fresh_13 g_t_fresh_14 g_t_fresh_15 g_t_fresh_16 c_fault c_place c_length c_kind c_from c_until y1 c_fresh_speeds c_fresh_steps c_tape)) rfl dX4_readPart_111 ?_
  cases h
  exact hret 114 _ dX4_readPart_114
set_option maxRecDepth 100000 in
set_option maxHeartbeats 4000000 in
theorem wm_X4_readPart {F : Nat} {v : Int × Int × Int × Int × Int × Int × (Int → Int) × (Int → Int)} {c_fault : Int} {c_place : Int} {c_length : Int} {c_kind : Int} {c_from : Int} {c_until : Int} {c_fresh_parts : Int} {c_fresh_speeds : Int → Int} {c_fresh_steps : Int → Int} {c_tape : Int → Int} (C : Cx E cX4_readPart RX4 { frames := 7, cells := 0, slots := 0, locals := 151 }) (hN : eN E = 2) (h : m_X4_readPart F c_fault c_place c_length c_kind c_from c_until c_fresh_parts c_fresh_speeds c_fresh_steps c_tape = some v) (hret : ∀ (pc : Nat) (L : List (Option Value)), decode cX4_readPart pc = .ok (.return_, 1) → GG E 0 0 (W_X4_readPart (eCy E) a_t a_t_fresh a_t_fresh_speeds a_t_fresh_steps a_t_tape g_t_fresh_0 g_t_fresh_1 g_t_fresh_5 g_t_fresh_6 g_t_fresh_7 g_t_fresh_8 g_t_fresh_9 g_t_fresh_10 g_t_fresh_11 g_t_fresh_12 g_t_fresh_13 g_t_fresh_14 g_t_fresh_15 g_t_fresh_16 (v.1) (v.2.1) c_length (v.2.2.1) (v.2.2.2.1) (v.2.2.2.2.1) (v.2.2.2.2.2.1) (v.2.2.2.2.2.2.1) (v.2.2.2.2.2.2.2) c_tape) L pc []) : GG E 0 0 (W_X4_readPart (eCy E) a_t a_t_fresh a_t_fresh_speeds a_t_fresh_steps a_t_tape g_t_fresh_0 g_t_fresh_1 g_t_fresh_5 g_t_fresh_6 g_t_fresh_7 g_t_fresh_8 g_t_fresh_9 g_t_fresh_10 g_t_fresh_11 g_t_fresh_12 g_t_fresh_13 g_t_fresh_14 g_t_fresh_15 g_t_fresh_16 c_fault c_place c_length c_kind c_from c_until c_fresh_parts c_fresh_speeds c_fresh_steps c_tape) [some (.ref a_t), none] 0 [] := by
  unfold m_X4_readPart at h
  refine g_aload_n 0 C dX4_readPart_0 rfl rfl ?_
  refine g_get C fg_X4_25 0 rfl rfl dX4_readPart_1 ?_
  refine g_get C fg_X4_104 1 rfl rfl dX4_readPart_4 ?_
  refine g_st (st' := [.int (wI c_fresh_parts)]) rfl ?_
  refine g_istore_n 1 C hN dX4_readPart_7 rfl rfl (L' := [some (.ref a_t), some (.int (wI c_fresh_parts))]) rfl ?_
  refine g_iload_n 1 C dX4_readPart_8 rfl rfl ?_
  refine g_iconst C dX4_readPart_9 ?_
  refine g_icmp_lt 19 C dX4_readPart_10 (by decide) h (fun h => ?_) (fun h => ?_)
  · refine g_aload_n 0 C dX4_readPart_19 rfl rfl ?_
    refine g_ldcS 2 (by decide) C dX4_readPart_20 ?_
    obtain ⟨o1, o2, o3, o4, o5, hr6, h⟩ := bnd5_some h
    refine g_callV [0, 4] [1, 2, 3] [3, 0, 1, 2, 4] C mt_X4_92 (c_X4_expectWord _ _ _ _ a_t a_t_tape (.ref a_t_fresh) 2 c_fault c_place c_length c_kind c_from c_until c_tape F hr6 (by decide)) (q0 := 0) rfl (ci := 4) rfl rfl rfl (ws2 := (W_X4_readPart (eCy E) a_t a_t_fresh a_t_fresh_speeds a_t_fresh_steps a_t_tape g_t_fresh_0 g_t_fresh_1 g_t_fresh_5 g_t_fresh_6 g_t_fresh_7 g_t_fresh_8 g_t_fresh_9 g_t_fresh_10 g_t_fresh_11 g_t_fresh_12 g_t_fresh_13 g_t_fresh_14 g_t_fresh_15 g_t_fresh_16 o1 o2 c_length o3 o4 o5 c_fresh_parts c_fresh_speeds c_fresh_steps c_tape)) rfl rfl rfl (rest := []) rfl rfl rfl dX4_readPart_22 ?_
    refine g_aload_n 0 C dX4_readPart_25 rfl rfl ?_
    refine g_get C fg_X4_25 0 rfl rfl dX4_readPart_26 ?_
    refine g_get C fg_X4_107 1 rfl rfl dX4_readPart_29 ?_
    refine g_iload_n 1 C dX4_readPart_32 rfl rfl ?_
    refine g_aload_n 0 C dX4_readPart_33 rfl rfl ?_
    refine g_ldcS 3 (by decide) C dX4_readPart_34 ?_
    refine g_iconst C dX4_readPart_36 ?_
    refine g_sipush C dX4_readPart_37 (by decide) ?_
    obtain ⟨r7, o8, o9, o10, o11, o12, hr13, h⟩ := bnd6_some h
    refine g_callI [0, 4] [1, 2, 3] [3, 0, 1, 2, 4] C mt_X4_98 (c_X4_namedNumber _ _ _ _ a_t a_t_tape (.ref a_t_fresh) 3 1 200 o1 o2 c_length o3 o4 o5 c_tape F hr13 (by decide)) (q0 := 0) rfl (ci := 4) rfl rfl rfl (ws2 := (W_X4_readPart (eCy E) a_t a_t_fresh a_t_fresh_speeds a_t_fresh_steps a_t_tape g_t_fresh_0 g_t_fresh_1 g_t_fresh_5 g_t_fresh_6 g_t_fresh_7 g_t_fresh_8 g_t_fresh_9 g_t_fresh_10 g_t_fresh_11 g_t_fresh_12 g_t_fresh_13 g_t_fresh_14 g_t_fresh_15 g_t_fresh_16 o8 o9 c_length o10 o11 o12 c_fresh_parts c_fresh_speeds c_fresh_steps c_tape)) rfl rfl rfl (rest := [.int (wI c_fresh_parts), .ref a_t_fresh_steps]) rfl rfl rfl dX4_readPart_40 ?_
    obtain ⟨hc14, h⟩ := chk_some h
    refine g_iast C 3 rfl hc14 rfl (ws' := (W_X4_readPart (eCy E) a_t a_t_fresh a_t_fresh_speeds a_t_fresh_steps a_t_tape g_t_fresh_0 g_t_fresh_1 g_t_fresh_5 g_t_fresh_6 g_t_fresh_7 g_t_fresh_8 g_t_fresh_9 g_t_fresh_10 g_t_fresh_11 g_t_fresh_12 g_t_fresh_13 g_t_fresh_14 g_t_fresh_15 g_t_fresh_16 o8 o9 c_length o10 o11 o12 c_fresh_parts c_fresh_speeds (up c_fresh_steps c_fresh_parts r7) c_tape)) rfl dX4_readPart_43 ?_
    refine g_aload_n 0 C dX4_readPart_44 rfl rfl ?_
    refine g_get C fg_X4_25 0 rfl rfl dX4_readPart_45 ?_
    refine g_get C fg_X4_112 1 rfl rfl dX4_readPart_48 ?_
    refine g_iload_n 1 C dX4_readPart_51 rfl rfl ?_
    refine g_aload_n 0 C dX4_readPart_52 rfl rfl ?_
    refine g_ldcS 4 (by decide) C dX4_readPart_53 ?_
    refine g_iconst C dX4_readPart_55 ?_
    refine g_bipush C dX4_readPart_56 (by decide) ?_
    obtain ⟨r15, o16, o17, o18, o19, o20, hr21, h⟩ := bnd6_some h
    refine g_callI [0, 4] [1, 2, 3] [3, 0, 1, 2, 4] C mt_X4_98 (c_X4_namedNumber _ _ _ _ a_t a_t_tape (.ref a_t_fresh) 4 0 30 o8 o9 c_length o10 o11 o12 c_tape F hr21 (by decide)) (q0 := 0) rfl (ci := 4) rfl rfl rfl (ws2 := (W_X4_readPart (eCy E) a_t a_t_fresh a_t_fresh_speeds a_t_fresh_steps a_t_tape g_t_fresh_0 g_t_fresh_1 g_t_fresh_5 g_t_fresh_6 g_t_fresh_7 g_t_fresh_8 g_t_fresh_9 g_t_fresh_10 g_t_fresh_11 g_t_fresh_12 g_t_fresh_13 g_t_fresh_14 g_t_fresh_15 g_t_fresh_16 o16 o17 c_length o18 o19 o20 c_fresh_parts c_fresh_speeds (up c_fresh_steps c_fresh_parts r7) c_tape)) rfl rfl rfl (rest := [.int (wI c_fresh_parts), .ref a_t_fresh_speeds]) rfl rfl rfl dX4_readPart_58 ?_
    obtain ⟨hc22, h⟩ := chk_some h
    refine g_iast C 2 rfl hc22 rfl (ws' := (W_X4_readPart (eCy E) a_t a_t_fresh a_t_fresh_speeds a_t_fresh_steps a_t_tape g_t_fresh_0 g_t_fresh_1 g_t_fresh_5 g_t_fresh_6 g_t_fresh_7 g_t_fresh_8 g_t_fresh_9 g_t_fresh_10 g_t_fresh_11 g_t_fresh_12 g_t_fresh_13 g_t_fresh_14 g_t_fresh_15 g_t_fresh_16 o16 o17 c_length o18 o19 o20 c_fresh_parts (up c_fresh_speeds c_fresh_parts r15) (up c_fresh_steps c_fresh_parts r7) c_tape)) rfl dX4_readPart_61 ?_
    refine g_aload_n 0 C dX4_readPart_62 rfl rfl ?_
    refine g_get C fg_X4_9 0 rfl rfl dX4_readPart_63 ?_
    refine g_st (st' := [.int (wI o16)]) rfl ?_
    refine g_if_ne 101 C dX4_readPart_66 (by decide) h (fun h => ?_) (fun h => ?_)
    · refine g_mask [true, false] (L' := [some (.ref a_t), none]) rfl ?_
      exact wb_X4_readPart_101 C hN h hret
    · refine g_aload_n 0 C dX4_readPart_69 rfl rfl ?_
      refine g_ldcS 5 (by decide) C dX4_readPart_70 ?_
      obtain ⟨r23, hr24, h⟩ := bnd1_some h
      refine g_callI [0, 4] [1, 2, 3] [3, 0, 1, 2, 4] C mt_X4_64 (c_X4_isWord _ _ _ _ a_t a_t_tape (.int (wI o16)) (.int (wI o17)) (.ref a_t_fresh) 5 c_length o18 o19 o20 c_tape F hr24 (by decide)) (q0 := 0) rfl (ci := 4) rfl rfl rfl (ws2 := (W_X4_readPart (eCy E) a_t a_t_fresh a_t_fresh_speeds a_t_fresh_steps a_t_tape g_t_fresh_0 g_t_fresh_1 g_t_fresh_5 g_t_fresh_6 g_t_fresh_7 g_t_fresh_8 g_t_fresh_9 g_t_fresh_10 g_t_fresh_11 g_t_fresh_12 g_t_fresh_13 g_t_fresh_14 g_t_fresh_15 g_t_fresh_16 o16 o17 c_length o18 o19 o20 c_fresh_parts (up c_fresh_speeds c_fresh_parts r15) (up c_fresh_steps c_fresh_parts r7) c_tape)) rfl rfl rfl (rest := []) rfl rfl rfl dX4_readPart_72 ?_
      refine g_if_eq 101 C dX4_readPart_75 (by decide) h (fun h => ?_) (fun h => ?_)
      · refine g_mask [true, false] (L' := [some (.ref a_t), none]) rfl ?_
        exact wb_X4_readPart_101 C hN h hret
      · refine g_aload_n 0 C dX4_readPart_78 rfl rfl ?_
        refine g_get C fg_X4_25 0 rfl rfl dX4_readPart_79 ?_
        refine g_get C fg_X4_112 1 rfl rfl dX4_readPart_82 ?_
        refine g_iload_n 1 C dX4_readPart_85 rfl rfl ?_
        refine g_aload_n 0 C dX4_readPart_86 rfl rfl ?_
        refine g_get C fg_X4_25 0 rfl rfl dX4_readPart_87 ?_
        refine g_get C fg_X4_112 1 rfl rfl dX4_readPart_90 ?_
        refine g_iload_n 1 C dX4_readPart_93 rfl rfl ?_
        obtain ⟨hc25, h⟩ := chk_some h
        refine g_iald C 2 rfl hc25 rfl dX4_readPart_94 ?_
        refine g_ineg C dX4_readPart_95 ?_
        obtain ⟨y26, e_y26, h⟩ := nam_some h
        refine g_topI e_y26 ?_
        obtain ⟨hc27, h⟩ := chk_some h
        refine g_iast C 2 rfl hc27 rfl (ws' := (W_X4_readPart (eCy E) a_t a_t_fresh a_t_fresh_speeds a_t_fresh_steps a_t_tape g_t_fresh_0 g_t_fresh_1 g_t_fresh_5 g_t_fresh_6 g_t_fresh_7 g_t_fresh_8 g_t_fresh_9 g_t_fresh_10 g_t_fresh_11 g_t_fresh_12 g_t_fresh_13 g_t_fresh_14 g_t_fresh_15 g_t_fresh_16 o16 o17 c_length o18 o19 o20 c_fresh_parts (up (up c_fresh_speeds c_fresh_parts r15) c_fresh_parts y26) (up c_fresh_steps c_fresh_parts r7) c_tape)) rfl dX4_readPart_96 ?_
        refine g_aload_n 0 C dX4_readPart_97 rfl rfl ?_
        obtain ⟨o28, o29, o30, hr31, h⟩ := bnd3_some h
        refine g_callV [0, 4] [1, 2, 3] [3, 0, 1, 2, 4] C mt_X4_50 (c_X4_advance _ _ _ _ a_t a_t_tape (.int (wI o16)) (.int (wI o17)) (.ref a_t_fresh) c_length o18 o19 o20 c_tape F hr31) (q0 := 0) rfl (ci := 4) rfl rfl rfl (ws2 := (W_X4_readPart (eCy E) a_t a_t_fresh a_t_fresh_speeds a_t_fresh_steps a_t_tape g_t_fresh_0 g_t_fresh_1 g_t_fresh_5 g_t_fresh_6 g_t_fresh_7 g_t_fresh_8 g_t_fresh_9 g_t_fresh_10 g_t_fresh_11 g_t_fresh_12 g_t_fresh_13 g_t_fresh_14 g_t_fresh_15 g_t_fresh_16 o16 o17 c_length o28 o29 o30 c_fresh_parts (up (up c_fresh_speeds c_fresh_parts r15) c_fresh_parts y26) (up c_fresh_steps c_fresh_parts r7) c_tape)) rfl rfl rfl (rest := []) rfl rfl rfl dX4_readPart_98 ?_
        refine g_mask [true, false] (L' := [some (.ref a_t), none]) rfl ?_
        exact wb_X4_readPart_101 C hN h hret
  · refine g_aload_n 0 C dX4_readPart_13 rfl rfl ?_
    refine g_iconst C dX4_readPart_14 ?_
    obtain ⟨o1, o2, hr3, h⟩ := bnd2_some h
    refine g_callV [0] [1, 2, 3, 4] [4, 0, 1, 2, 3] C mt_X4_86 (c_X4_refuse _ _ _ _ a_t (.ref a_t_tape) (.ref a_t_fresh) (.int (wI c_length)) (.int (wI c_kind)) (.int (wI c_until)) 3 c_fault c_place c_from F hr3) (q0 := 0) rfl (ci := 4) rfl rfl rfl (ws2 := (W_X4_readPart (eCy E) a_t a_t_fresh a_t_fresh_speeds a_t_fresh_steps a_t_tape g_t_fresh_0 g_t_fresh_1 g_t_fresh_5 g_t_fresh_6 g_t_fresh_7 g_t_fresh_8 g_t_fresh_9 g_t_fresh_10 g_t_fresh_11 g_t_fresh_12 g_t_fresh_13 g_t_fresh_14 g_t_fresh_15 g_t_fresh_16 o1 o2 c_length c_kind c_from c_until c_fresh_parts c_fresh_speeds c_fresh_steps c_tape)) rfl rfl rfl (rest := []) rfl rfl rfl dX4_readPart_15 ?_
    cases h
    exact hret 18 _ dX4_readPart_18
end S_X4_readPart
set_option maxRecDepth 100000 in
set_option maxHeartbeats 4000000 in
theorem c_X4_readPart (l : Launch) (D : va_G) (cy : Nat → ClassId) (ad : AD) (a_t a_t_fresh a_t_fresh_speeds a_t_fresh_steps a_t_tape : Nat) (g_t_fresh_0 : Value) (g_t_fresh_1 : Value) (g_t_fresh_5 : Value) (g_t_fresh_6 : Value) (g_t_fresh_7 : Value) (g_t_fresh_8 : Value) (g_t_fresh_9 : Value) (g_t_fresh_10 : Value) (g_t_fresh_11 : Value) (g_t_fresh_12 : Value) (g_t_fresh_13 : Value) (g_t_fresh_14 : Value) (g_t_fresh_15 : Value) (g_t_fresh_16 : Value) (c_fault : Int) (c_place : Int) (c_length : Int) (c_kind : Int) (c_from : Int) (c_until : Int) (c_fresh_parts : Int) (c_fresh_speeds : Int → Int) (c_fresh_steps : Int → Int) (c_tape : Int → Int) (F : Nat) {v : Int × Int × Int × Int × Int × Int × (Int → Int) × (Int → Int)} (h : m_X4_readPart F c_fault c_place c_length c_kind c_from c_until c_fresh_parts c_fresh_speeds c_fresh_steps c_tape = some v) : Ct l yX4_readPart cX4_readPart 2 none { frames := 7, cells := 0, slots := 0, locals := 151 } D cy ad [.ref a_t] (W_X4_readPart cy a_t a_t_fresh a_t_fresh_speeds a_t_fresh_steps a_t_tape g_t_fresh_0 g_t_fresh_1 g_t_fresh_5 g_t_fresh_6 g_t_fresh_7 g_t_fresh_8 g_t_fresh_9 g_t_fresh_10 g_t_fresh_11 g_t_fresh_12 g_t_fresh_13 g_t_fresh_14 g_t_fresh_15 g_t_fresh_16 c_fault c_place c_length c_kind c_from c_until c_fresh_parts c_fresh_speeds c_fresh_steps c_tape) (W_X4_readPart cy a_t a_t_fresh a_t_fresh_speeds a_t_fresh_steps a_t_tape g_t_fresh_0 g_t_fresh_1 g_t_fresh_5 g_t_fresh_6 g_t_fresh_7 g_t_fresh_8 g_t_fresh_9 g_t_fresh_10 g_t_fresh_11 g_t_fresh_12 g_t_fresh_13 g_t_fresh_14 g_t_fresh_15 g_t_fresh_16 (v.1) (v.2.1) c_length (v.2.2.1) (v.2.2.2.1) (v.2.2.2.2.1) (v.2.2.2.2.2.1) (v.2.2.2.2.2.2.1) (v.2.2.2.2.2.2.2) c_tape) none := by
  refine Ct.introV (j := 1) (plainFor_of_name (by decide)) rfl rfl (fun E C e1 e2 e3 e4 e5 hret => ?_)
  subst e1; subst e2; subst e3; subst e4
  exact wm_X4_readPart C e5 h hret
-- MovingStair$Reader.readWalker()V
def W_X4_readWalker (cy : Nat → ClassId) (a_t a_t_fresh a_t_fresh_paces a_t_tape : Nat) (g_t_fresh_0 : Value) (g_t_fresh_1 : Value) (g_t_fresh_2 : Value) (g_t_fresh_3 : Value) (g_t_fresh_4 : Value) (g_t_fresh_7 : Value) (g_t_fresh_8 : Value) (g_t_fresh_9 : Value) (g_t_fresh_10 : Value) (g_t_fresh_11 : Value) (g_t_fresh_12 : Value) (g_t_fresh_13 : Value) (g_t_fresh_14 : Value) (g_t_fresh_15 : Value) (g_t_fresh_16 : Value) (c_fault : Int) (c_place : Int) (c_length : Int) (c_kind : Int) (c_from : Int) (c_until : Int) (c_fresh_walkers : Int) (c_fresh_paces : Int → Int) (c_tape : Int → Int) : va_W := [(a_t, .inr (4, [.int (wI c_fault), .int (wI c_place), .ref a_t_tape, .ref a_t_fresh, .int (wI c_length), .int (wI c_kind), .int (wI c_from), .int (wI c_until)])), (a_t_fresh, .inr (2, [g_t_fresh_0, g_t_fresh_1, g_t_fresh_2, g_t_fresh_3, g_t_fresh_4, .int (wI c_fresh_walkers), .ref a_t_fresh_paces, g_t_fresh_7, g_t_fresh_8, g_t_fresh_9, g_t_fresh_10, g_t_fresh_11, g_t_fresh_12, g_t_fresh_13, g_t_fresh_14, g_t_fresh_15, g_t_fresh_16])), (a_t_fresh_paces, .inl (cy 1, 8, .inl (aI c_fresh_paces))), (a_t_tape, .inl (cy 0, 900, .inl (aI c_tape)))]
def m_X4_readWalker (F : Nat) (c_fault : Int) (c_place : Int) (c_length : Int) (c_kind : Int) (c_from : Int) (c_until : Int) (c_fresh_walkers : Int) (c_fresh_paces : Int → Int) (c_tape : Int → Int) : Option (Int × Int × Int × Int × Int × Int × (Int → Int)) :=
  if wI c_fresh_walkers < wI 8 then
    (bnd5 (m_X4_expectWord F 6 c_fault c_place c_length c_kind c_from c_until c_tape) fun o1 o2 o3 o4 o5 => bnd6 (m_X4_namedNumber F 7 0 30 o1 o2 c_length o3 o4 o5 c_tape) fun r7 o8 o9 o10 o11 o12 => chk (0 ≤ c_fresh_walkers ∧ c_fresh_walkers < 8) <| nam (c_fresh_walkers + 1) fun y15 => some (o8, o9, o10, o11, o12, y15, up c_fresh_paces c_fresh_walkers r7))
  else
    (bnd2 (m_X4_refuse F 3 c_fault c_place c_from) fun o1 o2 => some (o1, o2, c_kind, c_from, c_until, c_fresh_walkers, c_fresh_paces))
section S_X4_readWalker
variable {E : EE} {a_t a_t_fresh a_t_fresh_paces a_t_tape : Nat} {g_t_fresh_0 : Value} {g_t_fresh_1 : Value} {g_t_fresh_2 : Value} {g_t_fresh_3 : Value} {g_t_fresh_4 : Value} {g_t_fresh_7 : Value} {g_t_fresh_8 : Value} {g_t_fresh_9 : Value} {g_t_fresh_10 : Value} {g_t_fresh_11 : Value} {g_t_fresh_12 : Value} {g_t_fresh_13 : Value} {g_t_fresh_14 : Value} {g_t_fresh_15 : Value} {g_t_fresh_16 : Value}
set_option maxRecDepth 100000 in
set_option maxHeartbeats 4000000 in
theorem wm_X4_readWalker {F : Nat} {v : Int × Int × Int × Int × Int × Int × (Int → Int)} {c_fault : Int} {c_place : Int} {c_length : Int} {c_kind : Int} {c_from : Int} {c_until : Int} {c_fresh_walkers : Int} {c_fresh_paces : Int → Int} {c_tape : Int → Int} (C : Cx E cX4_readWalker RX4 { frames := 7, cells := 0, slots := 0, locals := 151 }) (hN : eN E = 1) (h : m_X4_readWalker F c_fault c_place c_length c_kind c_from c_until c_fresh_walkers c_fresh_paces c_tape = some v) (hret : ∀ (pc : Nat) (L : List (Option Value)), decode cX4_readWalker pc = .ok (.return_, 1) → GG E 0 0 (W_X4_readWalker (eCy E) a_t a_t_fresh a_t_fresh_paces a_t_tape g_t_fresh_0 g_t_fresh_1 g_t_fresh_2 g_t_fresh_3 g_t_fresh_4 g_t_fresh_7 g_t_fresh_8 g_t_fresh_9 g_t_fresh_10 g_t_fresh_11 g_t_fresh_12 g_t_fresh_13 g_t_fresh_14 g_t_fresh_15 g_t_fresh_16 (v.1) (v.2.1) c_length (v.2.2.1) (v.2.2.2.1) (v.2.2.2.2.1) (v.2.2.2.2.2.1) (v.2.2.2.2.2.2) c_tape) L pc []) : GG E 0 0 (W_X4_readWalker (eCy E) a_t a_t_fresh a_t_fresh_paces a_t_tape g_t_fresh_0 g_t_fresh_1 g_t_fresh_2 g_t_fresh_3 g_t_fresh_4 g_t_fresh_7 g_t_fresh_8 g_t_fresh_9 g_t_fresh_10 g_t_fresh_11 g_t_fresh_12 g_t_fresh_13 g_t_fresh_14 g_t_fresh_15 g_t_fresh_16 c_fault c_place c_length c_kind c_from c_until c_fresh_walkers c_fresh_paces c_tape) [some (.ref a_t)] 0 [] := by
  unfold m_X4_readWalker at h
  refine g_aload_n 0 C dX4_readWalker_0 rfl rfl ?_
  refine g_get C fg_X4_25 0 rfl rfl dX4_readWalker_1 ?_
  refine g_get C fg_X4_119 1 rfl rfl dX4_readWalker_4 ?_
  refine g_st (st' := [.int (wI c_fresh_walkers)]) rfl ?_
  refine g_bipush C dX4_readWalker_7 (by decide) ?_
  refine g_icmp_lt 18 C dX4_readWalker_9 (by decide) h (fun h => ?_) (fun h => ?_)
  · refine g_aload_n 0 C dX4_readWalker_18 rfl rfl ?_
    refine g_ldcS 6 (by decide) C dX4_readWalker_19 ?_
    obtain ⟨o1, o2, o3, o4, o5, hr6, h⟩ := bnd5_some h
    refine g_callV [0, 3] [1, 2] [2, 0, 1, 3] C mt_X4_92 (c_X4_expectWord _ _ _ _ a_t a_t_tape (.ref a_t_fresh) 6 c_fault c_place c_length c_kind c_from c_until c_tape F hr6 (by decide)) (q0 := 0) rfl (ci := 4) rfl rfl rfl (ws2 := (W_X4_readWalker (eCy E) a_t a_t_fresh a_t_fresh_paces a_t_tape g_t_fresh_0 g_t_fresh_1 g_t_fresh_2 g_t_fresh_3 g_t_fresh_4 g_t_fresh_7 g_t_fresh_8 g_t_fresh_9 g_t_fresh_10 g_t_fresh_11 g_t_fresh_12 g_t_fresh_13 g_t_fresh_14 g_t_fresh_15 g_t_fresh_16 o1 o2 c_length o3 o4 o5 c_fresh_walkers c_fresh_paces c_tape)) rfl rfl rfl (rest := []) rfl rfl rfl dX4_readWalker_21 ?_
    refine g_aload_n 0 C dX4_readWalker_24 rfl rfl ?_
    refine g_get C fg_X4_25 0 rfl rfl dX4_readWalker_25 ?_
    refine g_get C fg_X4_122 1 rfl rfl dX4_readWalker_28 ?_
    refine g_aload_n 0 C dX4_readWalker_31 rfl rfl ?_
    refine g_get C fg_X4_25 0 rfl rfl dX4_readWalker_32 ?_
    refine g_get C fg_X4_119 1 rfl rfl dX4_readWalker_35 ?_
    refine g_st (st' := [.int (wI c_fresh_walkers), .ref a_t_fresh_paces]) rfl ?_
    refine g_aload_n 0 C dX4_readWalker_38 rfl rfl ?_
    refine g_ldcS 7 (by decide) C dX4_readWalker_39 ?_
    refine g_iconst C dX4_readWalker_41 ?_
    refine g_bipush C dX4_readWalker_42 (by decide) ?_
    obtain ⟨r7, o8, o9, o10, o11, o12, hr13, h⟩ := bnd6_some h
    refine g_callI [0, 3] [1, 2] [2, 0, 1, 3] C mt_X4_98 (c_X4_namedNumber _ _ _ _ a_t a_t_tape (.ref a_t_fresh) 7 0 30 o1 o2 c_length o3 o4 o5 c_tape F hr13 (by decide)) (q0 := 0) rfl (ci := 4) rfl rfl rfl (ws2 := (W_X4_readWalker (eCy E) a_t a_t_fresh a_t_fresh_paces a_t_tape g_t_fresh_0 g_t_fresh_1 g_t_fresh_2 g_t_fresh_3 g_t_fresh_4 g_t_fresh_7 g_t_fresh_8 g_t_fresh_9 g_t_fresh_10 g_t_fresh_11 g_t_fresh_12 g_t_fresh_13 g_t_fresh_14 g_t_fresh_15 g_t_fresh_16 o8 o9 c_length o10 o11 o12 c_fresh_walkers c_fresh_paces c_tape)) rfl rfl rfl (rest := [.int (wI c_fresh_walkers), .ref a_t_fresh_paces]) rfl rfl rfl dX4_readWalker_44 ?_
    obtain ⟨hc14, h⟩ := chk_some h
    refine g_iast C 2 rfl hc14 rfl (ws' := (W_X4_readWalker (eCy E) a_t a_t_fresh a_t_fresh_paces a_t_tape g_t_fresh_0 g_t_fresh_1 g_t_fresh_2 g_t_fresh_3 g_t_fresh_4 g_t_fresh_7 g_t_fresh_8 g_t_fresh_9 g_t_fresh_10 g_t_fresh_11 g_t_fresh_12 g_t_fresh_13 g_t_fresh_14 g_t_fresh_15 g_t_fresh_16 o8 o9 c_length o10 o11 o12 c_fresh_walkers (up c_fresh_paces c_fresh_walkers r7) c_tape)) rfl dX4_readWalker_47 ?_
    refine g_aload_n 0 C dX4_readWalker_48 rfl rfl ?_
    refine g_get C fg_X4_25 0 rfl rfl dX4_readWalker_49 ?_
    refine g_dup C dX4_readWalker_52 rfl ?_
    refine g_get C fg_X4_119 1 rfl rfl dX4_readWalker_53 ?_
    refine g_st (st' := [.int (wI c_fresh_walkers), .ref a_t_fresh]) rfl ?_
    refine g_iconst C dX4_readWalker_56 ?_
    refine g_iadd C dX4_readWalker_57 ?_
    obtain ⟨y15, e_y15, h⟩ := nam_some h
    refine g_topI e_y15 ?_
    refine g_putI C fp_X4_119 1 rfl rfl (ws' := (W_X4_readWalker (eCy E) a_t a_t_fresh a_t_fresh_paces a_t_tape g_t_fresh_0 g_t_fresh_1 g_t_fresh_2 g_t_fresh_3 g_t_fresh_4 g_t_fresh_7 g_t_fresh_8 g_t_fresh_9 g_t_fresh_10 g_t_fresh_11 g_t_fresh_12 g_t_fresh_13 g_t_fresh_14 g_t_fresh_15 g_t_fresh_16 o8 o9 c_length o10 o11 o12 y15 (up c_fresh_paces c_fresh_walkers r7) c_tape)) rfl dX4_readWalker_58 ?_
    cases h
    exact hret 61 _ dX4_readWalker_61
  · refine g_aload_n 0 C dX4_readWalker_12 rfl rfl ?_
    refine g_iconst C dX4_readWalker_13 ?_
    obtain ⟨o1, o2, hr3, h⟩ := bnd2_some h
    refine g_callV [0] [1, 2, 3] [3, 0, 1, 2] C mt_X4_86 (c_X4_refuse _ _ _ _ a_t (.ref a_t_tape) (.ref a_t_fresh) (.int (wI c_length)) (.int (wI c_kind)) (.int (wI c_until)) 3 c_fault c_place c_from F hr3) (q0 := 0) rfl (ci := 4) rfl rfl rfl (ws2 := (W_X4_readWalker (eCy E) a_t a_t_fresh a_t_fresh_paces a_t_tape g_t_fresh_0 g_t_fresh_1 g_t_fresh_2 g_t_fresh_3 g_t_fresh_4 g_t_fresh_7 g_t_fresh_8 g_t_fresh_9 g_t_fresh_10 g_t_fresh_11 g_t_fresh_12 g_t_fresh_13 g_t_fresh_14 g_t_fresh_15 g_t_fresh_16 o1 o2 c_length c_kind c_from c_until c_fresh_walkers c_fresh_paces c_tape)) rfl rfl rfl (rest := []) rfl rfl rfl dX4_readWalker_14 ?_
    cases h
    exact hret 17 _ dX4_readWalker_17
end S_X4_readWalker
set_option maxRecDepth 100000 in
set_option maxHeartbeats 4000000 in
theorem c_X4_readWalker (l : Launch) (D : va_G) (cy : Nat → ClassId) (ad : AD) (a_t a_t_fresh a_t_fresh_paces a_t_tape : Nat) (g_t_fresh_0 : Value) (g_t_fresh_1 : Value) (g_t_fresh_2 : Value) (g_t_fresh_3 : Value) (g_t_fresh_4 : Value) (g_t_fresh_7 : Value) (g_t_fresh_8 : Value) (g_t_fresh_9 : Value) (g_t_fresh_10 : Value) (g_t_fresh_11 : Value) (g_t_fresh_12 : Value) (g_t_fresh_13 : Value) (g_t_fresh_14 : Value) (g_t_fresh_15 : Value) (g_t_fresh_16 : Value) (c_fault : Int) (c_place : Int) (c_length : Int) (c_kind : Int) (c_from : Int) (c_until : Int) (c_fresh_walkers : Int) (c_fresh_paces : Int → Int) (c_tape : Int → Int) (F : Nat) {v : Int × Int × Int × Int × Int × Int × (Int → Int)} (h : m_X4_readWalker F c_fault c_place c_length c_kind c_from c_until c_fresh_walkers c_fresh_paces c_tape = some v) : Ct l yX4_readWalker cX4_readWalker 1 none { frames := 7, cells := 0, slots := 0, locals := 151 } D cy ad [.ref a_t] (W_X4_readWalker cy a_t a_t_fresh a_t_fresh_paces a_t_tape g_t_fresh_0 g_t_fresh_1 g_t_fresh_2 g_t_fresh_3 g_t_fresh_4 g_t_fresh_7 g_t_fresh_8 g_t_fresh_9 g_t_fresh_10 g_t_fresh_11 g_t_fresh_12 g_t_fresh_13 g_t_fresh_14 g_t_fresh_15 g_t_fresh_16 c_fault c_place c_length c_kind c_from c_until c_fresh_walkers c_fresh_paces c_tape) (W_X4_readWalker cy a_t a_t_fresh a_t_fresh_paces a_t_tape g_t_fresh_0 g_t_fresh_1 g_t_fresh_2 g_t_fresh_3 g_t_fresh_4 g_t_fresh_7 g_t_fresh_8 g_t_fresh_9 g_t_fresh_10 g_t_fresh_11 g_t_fresh_12 g_t_fresh_13 g_t_fresh_14 g_t_fresh_15 g_t_fresh_16 (v.1) (v.2.1) c_length (v.2.2.1) (v.2.2.2.1) (v.2.2.2.2.1) (v.2.2.2.2.2.1) (v.2.2.2.2.2.2) c_tape) none := by
  refine Ct.introV (j := 0) (plainFor_of_name (by decide)) rfl rfl (fun E C e1 e2 e3 e4 e5 hret => ?_)
  subst e1; subst e2; subst e3; subst e4
  exact wm_X4_readWalker C e5 h hret
-- MovingStair$Reader.readSides()V
def W_X4_readSides (cy : Nat → ClassId) (a_t a_t_fresh a_t_tape : Nat) (g_t_fresh_0 : Value) (g_t_fresh_1 : Value) (g_t_fresh_2 : Value) (g_t_fresh_3 : Value) (g_t_fresh_4 : Value) (g_t_fresh_5 : Value) (g_t_fresh_6 : Value) (g_t_fresh_7 : Value) (g_t_fresh_8 : Value) (g_t_fresh_14 : Value) (g_t_fresh_15 : Value) (g_t_fresh_16 : Value) (c_fault : Int) (c_place : Int) (c_length : Int) (c_kind : Int) (c_from : Int) (c_until : Int) (c_fresh_sided : Int) (c_fresh_sideStand : Int) (c_fresh_sideWalk : Int) (c_fresh_sidePace : Int) (c_fresh_sideWould : Int) (c_tape : Int → Int) : va_W := [(a_t, .inr (4, [.int (wI c_fault), .int (wI c_place), .ref a_t_tape, .ref a_t_fresh, .int (wI c_length), .int (wI c_kind), .int (wI c_from), .int (wI c_until)])), (a_t_fresh, .inr (2, [g_t_fresh_0, g_t_fresh_1, g_t_fresh_2, g_t_fresh_3, g_t_fresh_4, g_t_fresh_5, g_t_fresh_6, g_t_fresh_7, g_t_fresh_8, .int (wI c_fresh_sided), .int (wI c_fresh_sideStand), .int (wI c_fresh_sideWalk), .int (wI c_fresh_sidePace), .int (wI c_fresh_sideWould), g_t_fresh_14, g_t_fresh_15, g_t_fresh_16])), (a_t_tape, .inl (cy 0, 900, .inl (aI c_tape)))]
def m_X4_readSides (F : Nat) (c_fault : Int) (c_place : Int) (c_length : Int) (c_kind : Int) (c_from : Int) (c_until : Int) (c_tape : Int → Int) : Option (Int × Int × Int × Int × Int × Int × Int × Int × Int × Int) :=
  bnd5 (m_X4_expectWord F 8 c_fault c_place c_length c_kind c_from c_until c_tape) fun o1 o2 o3 o4 o5 => bnd6 (m_X4_namedNumber F 9 1 9 o1 o2 c_length o3 o4 o5 c_tape) fun r7 o8 o9 o10 o11 o12 => bnd6 (m_X4_namedNumber F 10 1 9 o8 o9 c_length o10 o11 o12 c_tape) fun r14 o15 o16 o17 o18 o19 => bnd6 (m_X4_namedNumber F 7 1 30 o15 o16 c_length o17 o18 o19 c_tape) fun r21 o22 o23 o24 o25 o26 => bnd6 (m_X4_namedNumber F 11 0 100 o22 o23 c_length o24 o25 o26 c_tape) fun r28 o29 o30 o31 o32 o33 => some (o29, o30, o31, o32, o33, 1, r7, r14, r21, r28)
section S_X4_readSides
variable {E : EE} {a_t a_t_fresh a_t_tape : Nat} {g_t_fresh_0 : Value} {g_t_fresh_1 : Value} {g_t_fresh_2 : Value} {g_t_fresh_3 : Value} {g_t_fresh_4 : Value} {g_t_fresh_5 : Value} {g_t_fresh_6 : Value} {g_t_fresh_7 : Value} {g_t_fresh_8 : Value} {g_t_fresh_14 : Value} {g_t_fresh_15 : Value} {g_t_fresh_16 : Value}
set_option maxRecDepth 100000 in
set_option maxHeartbeats 4000000 in
theorem wm_X4_readSides {F : Nat} {v : Int × Int × Int × Int × Int × Int × Int × Int × Int × Int} {c_fault : Int} {c_place : Int} {c_length : Int} {c_kind : Int} {c_from : Int} {c_until : Int} {c_tape : Int → Int} {c_fresh_sided : Int} {c_fresh_sideStand : Int} {c_fresh_sideWalk : Int} {c_fresh_sidePace : Int} {c_fresh_sideWould : Int} (C : Cx E cX4_readSides RX4 { frames := 7, cells := 0, slots := 0, locals := 151 }) (hN : eN E = 1) (h : m_X4_readSides F c_fault c_place c_length c_kind c_from c_until c_tape = some v) (hret : ∀ (pc : Nat) (L : List (Option Value)), decode cX4_readSides pc = .ok (.return_, 1) → GG E 0 0 (W_X4_readSides (eCy E) a_t a_t_fresh a_t_tape g_t_fresh_0 g_t_fresh_1 g_t_fresh_2 g_t_fresh_3 g_t_fresh_4 g_t_fresh_5 g_t_fresh_6 g_t_fresh_7 g_t_fresh_8 g_t_fresh_14 g_t_fresh_15 g_t_fresh_16 (v.1) (v.2.1) c_length (v.2.2.1) (v.2.2.2.1) (v.2.2.2.2.1) (v.2.2.2.2.2.1) (v.2.2.2.2.2.2.1) (v.2.2.2.2.2.2.2.1) (v.2.2.2.2.2.2.2.2.1) (v.2.2.2.2.2.2.2.2.2) c_tape) L pc []) : GG E 0 0 (W_X4_readSides (eCy E) a_t a_t_fresh a_t_tape g_t_fresh_0 g_t_fresh_1 g_t_fresh_2 g_t_fresh_3 g_t_fresh_4 g_t_fresh_5 g_t_fresh_6 g_t_fresh_7 g_t_fresh_8 g_t_fresh_14 g_t_fresh_15 g_t_fresh_16 c_fault c_place c_length c_kind c_from c_until c_fresh_sided c_fresh_sideStand c_fresh_sideWalk c_fresh_sidePace c_fresh_sideWould c_tape) [some (.ref a_t)] 0 [] := by
  unfold m_X4_readSides at h
  refine g_aload_n 0 C dX4_readSides_0 rfl rfl ?_
  refine g_ldcS 8 (by decide) C dX4_readSides_1 ?_
  obtain ⟨o1, o2, o3, o4, o5, hr6, h⟩ := bnd5_some h
  refine g_callV [0, 2] [1] [1, 0, 2] C mt_X4_92 (c_X4_expectWord _ _ _ _ a_t a_t_tape (.ref a_t_fresh) 8 c_fault c_place c_length c_kind c_from c_until c_tape F hr6 (by decide)) (q0 := 0) rfl (ci := 4) rfl rfl rfl (ws2 := (W_X4_readSides (eCy E) a_t a_t_fresh a_t_tape g_t_fresh_0 g_t_fresh_1 g_t_fresh_2 g_t_fresh_3 g_t_fresh_4 g_t_fresh_5 g_t_fresh_6 g_t_fresh_7 g_t_fresh_8 g_t_fresh_14 g_t_fresh_15 g_t_fresh_16 o1 o2 c_length o3 o4 o5 c_fresh_sided c_fresh_sideStand c_fresh_sideWalk c_fresh_sidePace c_fresh_sideWould c_tape)) rfl rfl rfl (rest := []) rfl rfl rfl dX4_readSides_3 ?_
  refine g_aload_n 0 C dX4_readSides_6 rfl rfl ?_
  refine g_get C fg_X4_25 0 rfl rfl dX4_readSides_7 ?_
  refine g_aload_n 0 C dX4_readSides_10 rfl rfl ?_
  refine g_ldcS 9 (by decide) C dX4_readSides_11 ?_
  refine g_iconst C dX4_readSides_13 ?_
  refine g_bipush C dX4_readSides_14 (by decide) ?_
  obtain ⟨r7, o8, o9, o10, o11, o12, hr13, h⟩ := bnd6_some h
  refine g_callI [0, 2] [1] [1, 0, 2] C mt_X4_98 (c_X4_namedNumber _ _ _ _ a_t a_t_tape (.ref a_t_fresh) 9 1 9 o1 o2 c_length o3 o4 o5 c_tape F hr13 (by decide)) (q0 := 0) rfl (ci := 4) rfl rfl rfl (ws2 := (W_X4_readSides (eCy E) a_t a_t_fresh a_t_tape g_t_fresh_0 g_t_fresh_1 g_t_fresh_2 g_t_fresh_3 g_t_fresh_4 g_t_fresh_5 g_t_fresh_6 g_t_fresh_7 g_t_fresh_8 g_t_fresh_14 g_t_fresh_15 g_t_fresh_16 o8 o9 c_length o10 o11 o12 c_fresh_sided c_fresh_sideStand c_fresh_sideWalk c_fresh_sidePace c_fresh_sideWould c_tape)) rfl rfl rfl (rest := [.ref a_t_fresh]) rfl rfl rfl dX4_readSides_16 ?_
  refine g_putI C fp_X4_129 1 rfl rfl (ws' := (W_X4_readSides (eCy E) a_t a_t_fresh a_t_tape g_t_fresh_0 g_t_fresh_1 g_t_fresh_2 g_t_fresh_3 g_t_fresh_4 g_t_fresh_5 g_t_fresh_6 g_t_fresh_7 g_t_fresh_8 g_t_fresh_14 g_t_fresh_15 g_t_fresh_16 o8 o9 c_length o10 o11 o12 c_fresh_sided r7 c_fresh_sideWalk c_fresh_sidePace c_fresh_sideWould c_tape)) rfl dX4_readSides_19 ?_
  refine g_aload_n 0 C dX4_readSides_22 rfl rfl ?_
  refine g_get C fg_X4_25 0 rfl rfl dX4_readSides_23 ?_
  refine g_aload_n 0 C dX4_readSides_26 rfl rfl ?_
  refine g_ldcS 10 (by decide) C dX4_readSides_27 ?_
  refine g_iconst C dX4_readSides_29 ?_
  refine g_bipush C dX4_readSides_30 (by decide) ?_
  obtain ⟨r14, o15, o16, o17, o18, o19, hr20, h⟩ := bnd6_some h
  refine g_callI [0, 2] [1] [1, 0, 2] C mt_X4_98 (c_X4_namedNumber _ _ _ _ a_t a_t_tape (.ref a_t_fresh) 10 1 9 o8 o9 c_length o10 o11 o12 c_tape F hr20 (by decide)) (q0 := 0) rfl (ci := 4) rfl rfl rfl (ws2 := (W_X4_readSides (eCy E) a_t a_t_fresh a_t_tape g_t_fresh_0 g_t_fresh_1 g_t_fresh_2 g_t_fresh_3 g_t_fresh_4 g_t_fresh_5 g_t_fresh_6 g_t_fresh_7 g_t_fresh_8 g_t_fresh_14 g_t_fresh_15 g_t_fresh_16 o15 o16 c_length o17 o18 o19 c_fresh_sided r7 c_fresh_sideWalk c_fresh_sidePace c_fresh_sideWould c_tape)) rfl rfl rfl (rest := [.ref a_t_fresh]) rfl rfl rfl dX4_readSides_32 ?_
  refine g_putI C fp_X4_134 1 rfl rfl (ws' := (W_X4_readSides (eCy E) a_t a_t_fresh a_t_tape g_t_fresh_0 g_t_fresh_1 g_t_fresh_2 g_t_fresh_3 g_t_fresh_4 g_t_fresh_5 g_t_fresh_6 g_t_fresh_7 g_t_fresh_8 g_t_fresh_14 g_t_fresh_15 g_t_fresh_16 o15 o16 c_length o17 o18 o19 c_fresh_sided r7 r14 c_fresh_sidePace c_fresh_sideWould c_tape)) rfl dX4_readSides_35 ?_
  refine g_aload_n 0 C dX4_readSides_38 rfl rfl ?_
  refine g_get C fg_X4_25 0 rfl rfl dX4_readSides_39 ?_
  refine g_aload_n 0 C dX4_readSides_42 rfl rfl ?_
  refine g_ldcS 7 (by decide) C dX4_readSides_43 ?_
  refine g_iconst C dX4_readSides_45 ?_
  refine g_bipush C dX4_readSides_46 (by decide) ?_
  obtain ⟨r21, o22, o23, o24, o25, o26, hr27, h⟩ := bnd6_some h
  refine g_callI [0, 2] [1] [1, 0, 2] C mt_X4_98 (c_X4_namedNumber _ _ _ _ a_t a_t_tape (.ref a_t_fresh) 7 1 30 o15 o16 c_length o17 o18 o19 c_tape F hr27 (by decide)) (q0 := 0) rfl (ci := 4) rfl rfl rfl (ws2 := (W_X4_readSides (eCy E) a_t a_t_fresh a_t_tape g_t_fresh_0 g_t_fresh_1 g_t_fresh_2 g_t_fresh_3 g_t_fresh_4 g_t_fresh_5 g_t_fresh_6 g_t_fresh_7 g_t_fresh_8 g_t_fresh_14 g_t_fresh_15 g_t_fresh_16 o22 o23 c_length o24 o25 o26 c_fresh_sided r7 r14 c_fresh_sidePace c_fresh_sideWould c_tape)) rfl rfl rfl (rest := [.ref a_t_fresh]) rfl rfl rfl dX4_readSides_48 ?_
  refine g_putI C fp_X4_137 1 rfl rfl (ws' := (W_X4_readSides (eCy E) a_t a_t_fresh a_t_tape g_t_fresh_0 g_t_fresh_1 g_t_fresh_2 g_t_fresh_3 g_t_fresh_4 g_t_fresh_5 g_t_fresh_6 g_t_fresh_7 g_t_fresh_8 g_t_fresh_14 g_t_fresh_15 g_t_fresh_16 o22 o23 c_length o24 o25 o26 c_fresh_sided r7 r14 r21 c_fresh_sideWould c_tape)) rfl dX4_readSides_51 ?_
  refine g_aload_n 0 C dX4_readSides_54 rfl rfl ?_
  refine g_get C fg_X4_25 0 rfl rfl dX4_readSides_55 ?_
  refine g_aload_n 0 C dX4_readSides_58 rfl rfl ?_
  refine g_ldcS 11 (by decide) C dX4_readSides_59 ?_
  refine g_iconst C dX4_readSides_61 ?_
  refine g_bipush C dX4_readSides_62 (by decide) ?_
  obtain ⟨r28, o29, o30, o31, o32, o33, hr34, h⟩ := bnd6_some h
  refine g_callI [0, 2] [1] [1, 0, 2] C mt_X4_98 (c_X4_namedNumber _ _ _ _ a_t a_t_tape (.ref a_t_fresh) 11 0 100 o22 o23 c_length o24 o25 o26 c_tape F hr34 (by decide)) (q0 := 0) rfl (ci := 4) rfl rfl rfl (ws2 := (W_X4_readSides (eCy E) a_t a_t_fresh a_t_tape g_t_fresh_0 g_t_fresh_1 g_t_fresh_2 g_t_fresh_3 g_t_fresh_4 g_t_fresh_5 g_t_fresh_6 g_t_fresh_7 g_t_fresh_8 g_t_fresh_14 g_t_fresh_15 g_t_fresh_16 o29 o30 c_length o31 o32 o33 c_fresh_sided r7 r14 r21 c_fresh_sideWould c_tape)) rfl rfl rfl (rest := [.ref a_t_fresh]) rfl rfl rfl dX4_readSides_64 ?_
  refine g_putI C fp_X4_142 1 rfl rfl (ws' := (W_X4_readSides (eCy E) a_t a_t_fresh a_t_tape g_t_fresh_0 g_t_fresh_1 g_t_fresh_2 g_t_fresh_3 g_t_fresh_4 g_t_fresh_5 g_t_fresh_6 g_t_fresh_7 g_t_fresh_8 g_t_fresh_14 g_t_fresh_15 g_t_fresh_16 o29 o30 c_length o31 o32 o33 c_fresh_sided r7 r14 r21 r28 c_tape)) rfl dX4_readSides_67 ?_
  refine g_aload_n 0 C dX4_readSides_70 rfl rfl ?_
  refine g_get C fg_X4_25 0 rfl rfl dX4_readSides_71 ?_
  refine g_iconst C dX4_readSides_74 ?_
  refine g_putZ C fp_X4_145 1 rfl (by decide) rfl (ws' := (W_X4_readSides (eCy E) a_t a_t_fresh a_t_tape g_t_fresh_0 g_t_fresh_1 g_t_fresh_2 g_t_fresh_3 g_t_fresh_4 g_t_fresh_5 g_t_fresh_6 g_t_fresh_7 g_t_fresh_8 g_t_fresh_14 g_t_fresh_15 g_t_fresh_16 o29 o30 c_length o31 o32 o33 1 r7 r14 r21 r28 c_tape)) rfl dX4_readSides_75 ?_
  cases h
  exact hret 78 _ dX4_readSides_78
end S_X4_readSides
set_option maxRecDepth 100000 in
set_option maxHeartbeats 4000000 in
theorem c_X4_readSides (l : Launch) (D : va_G) (cy : Nat → ClassId) (ad : AD) (a_t a_t_fresh a_t_tape : Nat) (g_t_fresh_0 : Value) (g_t_fresh_1 : Value) (g_t_fresh_2 : Value) (g_t_fresh_3 : Value) (g_t_fresh_4 : Value) (g_t_fresh_5 : Value) (g_t_fresh_6 : Value) (g_t_fresh_7 : Value) (g_t_fresh_8 : Value) (g_t_fresh_14 : Value) (g_t_fresh_15 : Value) (g_t_fresh_16 : Value) (c_fault : Int) (c_place : Int) (c_length : Int) (c_kind : Int) (c_from : Int) (c_until : Int) (c_fresh_sided : Int) (c_fresh_sideStand : Int) (c_fresh_sideWalk : Int) (c_fresh_sidePace : Int) (c_fresh_sideWould : Int) (c_tape : Int → Int) (F : Nat) {v : Int × Int × Int × Int × Int × Int × Int × Int × Int × Int} (h : m_X4_readSides F c_fault c_place c_length c_kind c_from c_until c_tape = some v) : Ct l yX4_readSides cX4_readSides 1 none { frames := 7, cells := 0, slots := 0, locals := 151 } D cy ad [.ref a_t] (W_X4_readSides cy a_t a_t_fresh a_t_tape g_t_fresh_0 g_t_fresh_1 g_t_fresh_2 g_t_fresh_3 g_t_fresh_4 g_t_fresh_5 g_t_fresh_6 g_t_fresh_7 g_t_fresh_8 g_t_fresh_14 g_t_fresh_15 g_t_fresh_16 c_fault c_place c_length c_kind c_from c_until c_fresh_sided c_fresh_sideStand c_fresh_sideWalk c_fresh_sidePace c_fresh_sideWould c_tape) (W_X4_readSides cy a_t a_t_fresh a_t_tape g_t_fresh_0 g_t_fresh_1 g_t_fresh_2 g_t_fresh_3 g_t_fresh_4 g_t_fresh_5 g_t_fresh_6 g_t_fresh_7 g_t_fresh_8 g_t_fresh_14 g_t_fresh_15 g_t_fresh_16 (v.1) (v.2.1) c_length (v.2.2.1) (v.2.2.2.1) (v.2.2.2.2.1) (v.2.2.2.2.2.1) (v.2.2.2.2.2.2.1) (v.2.2.2.2.2.2.2.1) (v.2.2.2.2.2.2.2.2.1) (v.2.2.2.2.2.2.2.2.2) c_tape) none := by
  refine Ct.introV (j := 0) (plainFor_of_name (by decide)) rfl rfl (fun E C e1 e2 e3 e4 e5 hret => ?_)
  subst e1; subst e2; subst e3; subst e4
  exact wm_X4_readSides C e5 h hret
-- MovingStair$Reader.readBand()V
def W_X4_readBand (cy : Nat → ClassId) (a_t a_t_fresh a_t_fresh_carried a_t_tape : Nat) (g_t_fresh_0 : Value) (g_t_fresh_1 : Value) (g_t_fresh_2 : Value) (g_t_fresh_3 : Value) (g_t_fresh_4 : Value) (g_t_fresh_5 : Value) (g_t_fresh_6 : Value) (g_t_fresh_9 : Value) (g_t_fresh_10 : Value) (g_t_fresh_11 : Value) (g_t_fresh_12 : Value) (g_t_fresh_13 : Value) (g_t_fresh_14 : Value) (g_t_fresh_15 : Value) (g_t_fresh_16 : Value) (c_fault : Int) (c_place : Int) (c_length : Int) (c_kind : Int) (c_from : Int) (c_until : Int) (c_fresh_bands : Int) (c_fresh_carried : Int → Int) (c_tape : Int → Int) : va_W := [(a_t, .inr (4, [.int (wI c_fault), .int (wI c_place), .ref a_t_tape, .ref a_t_fresh, .int (wI c_length), .int (wI c_kind), .int (wI c_from), .int (wI c_until)])), (a_t_fresh, .inr (2, [g_t_fresh_0, g_t_fresh_1, g_t_fresh_2, g_t_fresh_3, g_t_fresh_4, g_t_fresh_5, g_t_fresh_6, .int (wI c_fresh_bands), .ref a_t_fresh_carried, g_t_fresh_9, g_t_fresh_10, g_t_fresh_11, g_t_fresh_12, g_t_fresh_13, g_t_fresh_14, g_t_fresh_15, g_t_fresh_16])), (a_t_fresh_carried, .inl (cy 1, 4, .inl (aI c_fresh_carried))), (a_t_tape, .inl (cy 0, 900, .inl (aI c_tape)))]
def m_X4_readBand (F : Nat) (c_fault : Int) (c_place : Int) (c_length : Int) (c_kind : Int) (c_from : Int) (c_until : Int) (c_fresh_bands : Int) (c_fresh_carried : Int → Int) (c_tape : Int → Int) : Option (Int × Int × Int × Int × Int × Int × (Int → Int)) :=
  if wI c_fresh_bands < wI 4 then
    (bnd5 (m_X4_expectWord F 12 c_fault c_place c_length c_kind c_from c_until c_tape) fun o1 o2 o3 o4 o5 => bnd6 (m_X4_boundedNumber F 1 9999 o1 o2 c_length o3 o4 o5 c_tape) fun r7 o8 o9 o10 o11 o12 => chk (0 ≤ c_fresh_bands ∧ c_fresh_bands < 4) <| nam (c_fresh_bands + 1) fun y15 => some (o8, o9, o10, o11, o12, y15, up c_fresh_carried c_fresh_bands r7))
  else
    (bnd2 (m_X4_refuse F 3 c_fault c_place c_from) fun o1 o2 => some (o1, o2, c_kind, c_from, c_until, c_fresh_bands, c_fresh_carried))
section S_X4_readBand
variable {E : EE} {a_t a_t_fresh a_t_fresh_carried a_t_tape : Nat} {g_t_fresh_0 : Value} {g_t_fresh_1 : Value} {g_t_fresh_2 : Value} {g_t_fresh_3 : Value} {g_t_fresh_4 : Value} {g_t_fresh_5 : Value} {g_t_fresh_6 : Value} {g_t_fresh_9 : Value} {g_t_fresh_10 : Value} {g_t_fresh_11 : Value} {g_t_fresh_12 : Value} {g_t_fresh_13 : Value} {g_t_fresh_14 : Value} {g_t_fresh_15 : Value} {g_t_fresh_16 : Value}
set_option maxRecDepth 100000 in
set_option maxHeartbeats 4000000 in
theorem wm_X4_readBand {F : Nat} {v : Int × Int × Int × Int × Int × Int × (Int → Int)} {c_fault : Int} {c_place : Int} {c_length : Int} {c_kind : Int} {c_from : Int} {c_until : Int} {c_fresh_bands : Int} {c_fresh_carried : Int → Int} {c_tape : Int → Int} (C : Cx E cX4_readBand RX4 { frames := 6, cells := 0, slots := 0, locals := 128 }) (hN : eN E = 1) (h : m_X4_readBand F c_fault c_place c_length c_kind c_from c_until c_fresh_bands c_fresh_carried c_tape = some v) (hret : ∀ (pc : Nat) (L : List (Option Value)), decode cX4_readBand pc = .ok (.return_, 1) → GG E 0 0 (W_X4_readBand (eCy E) a_t a_t_fresh a_t_fresh_carried a_t_tape g_t_fresh_0 g_t_fresh_1 g_t_fresh_2 g_t_fresh_3 g_t_fresh_4 g_t_fresh_5 g_t_fresh_6 g_t_fresh_9 g_t_fresh_10 g_t_fresh_11 g_t_fresh_12 g_t_fresh_13 g_t_fresh_14 g_t_fresh_15 g_t_fresh_16 (v.1) (v.2.1) c_length (v.2.2.1) (v.2.2.2.1) (v.2.2.2.2.1) (v.2.2.2.2.2.1) (v.2.2.2.2.2.2) c_tape) L pc []) : GG E 0 0 (W_X4_readBand (eCy E) a_t a_t_fresh a_t_fresh_carried a_t_tape g_t_fresh_0 g_t_fresh_1 g_t_fresh_2 g_t_fresh_3 g_t_fresh_4 g_t_fresh_5 g_t_fresh_6 g_t_fresh_9 g_t_fresh_10 g_t_fresh_11 g_t_fresh_12 g_t_fresh_13 g_t_fresh_14 g_t_fresh_15 g_t_fresh_16 c_fault c_place c_length c_kind c_from c_until c_fresh_bands c_fresh_carried c_tape) [some (.ref a_t)] 0 [] := by
  unfold m_X4_readBand at h
  refine g_aload_n 0 C dX4_readBand_0 rfl rfl ?_
  refine g_get C fg_X4_25 0 rfl rfl dX4_readBand_1 ?_
  refine g_get C fg_X4_149 1 rfl rfl dX4_readBand_4 ?_
  refine g_st (st' := [.int (wI c_fresh_bands)]) rfl ?_
  refine g_iconst C dX4_readBand_7 ?_
  refine g_icmp_lt 17 C dX4_readBand_8 (by decide) h (fun h => ?_) (fun h => ?_)
  · refine g_aload_n 0 C dX4_readBand_17 rfl rfl ?_
    refine g_ldcS 12 (by decide) C dX4_readBand_18 ?_
    obtain ⟨o1, o2, o3, o4, o5, hr6, h⟩ := bnd5_some h
    refine g_callV [0, 3] [1, 2] [2, 0, 1, 3] C mt_X4_92 (c_X4_expectWord _ _ _ _ a_t a_t_tape (.ref a_t_fresh) 12 c_fault c_place c_length c_kind c_from c_until c_tape F hr6 (by decide)) (q0 := 0) rfl (ci := 4) rfl rfl rfl (ws2 := (W_X4_readBand (eCy E) a_t a_t_fresh a_t_fresh_carried a_t_tape g_t_fresh_0 g_t_fresh_1 g_t_fresh_2 g_t_fresh_3 g_t_fresh_4 g_t_fresh_5 g_t_fresh_6 g_t_fresh_9 g_t_fresh_10 g_t_fresh_11 g_t_fresh_12 g_t_fresh_13 g_t_fresh_14 g_t_fresh_15 g_t_fresh_16 o1 o2 c_length o3 o4 o5 c_fresh_bands c_fresh_carried c_tape)) rfl rfl rfl (rest := []) rfl rfl rfl dX4_readBand_20 ?_
    refine g_aload_n 0 C dX4_readBand_23 rfl rfl ?_
    refine g_get C fg_X4_25 0 rfl rfl dX4_readBand_24 ?_
    refine g_get C fg_X4_152 1 rfl rfl dX4_readBand_27 ?_
    refine g_aload_n 0 C dX4_readBand_30 rfl rfl ?_
    refine g_get C fg_X4_25 0 rfl rfl dX4_readBand_31 ?_
    refine g_get C fg_X4_149 1 rfl rfl dX4_readBand_34 ?_
    refine g_st (st' := [.int (wI c_fresh_bands), .ref a_t_fresh_carried]) rfl ?_
    refine g_aload_n 0 C dX4_readBand_37 rfl rfl ?_
    refine g_iconst C dX4_readBand_38 ?_
    refine g_sipush C dX4_readBand_39 (by decide) ?_
    obtain ⟨r7, o8, o9, o10, o11, o12, hr13, h⟩ := bnd6_some h
    refine g_callI [0, 3] [1, 2] [2, 0, 1, 3] C mt_X4_155 (c_X4_boundedNumber _ _ _ _ a_t a_t_tape (.ref a_t_fresh) 1 9999 o1 o2 c_length o3 o4 o5 c_tape F hr13) (q0 := 0) rfl (ci := 4) rfl rfl rfl (ws2 := (W_X4_readBand (eCy E) a_t a_t_fresh a_t_fresh_carried a_t_tape g_t_fresh_0 g_t_fresh_1 g_t_fresh_2 g_t_fresh_3 g_t_fresh_4 g_t_fresh_5 g_t_fresh_6 g_t_fresh_9 g_t_fresh_10 g_t_fresh_11 g_t_fresh_12 g_t_fresh_13 g_t_fresh_14 g_t_fresh_15 g_t_fresh_16 o8 o9 c_length o10 o11 o12 c_fresh_bands c_fresh_carried c_tape)) rfl rfl rfl (rest := [.int (wI c_fresh_bands), .ref a_t_fresh_carried]) rfl rfl rfl dX4_readBand_42 ?_
    obtain ⟨hc14, h⟩ := chk_some h
    refine g_iast C 2 rfl hc14 rfl (ws' := (W_X4_readBand (eCy E) a_t a_t_fresh a_t_fresh_carried a_t_tape g_t_fresh_0 g_t_fresh_1 g_t_fresh_2 g_t_fresh_3 g_t_fresh_4 g_t_fresh_5 g_t_fresh_6 g_t_fresh_9 g_t_fresh_10 g_t_fresh_11 g_t_fresh_12 g_t_fresh_13 g_t_fresh_14 g_t_fresh_15 g_t_fresh_16 o8 o9 c_length o10 o11 o12 c_fresh_bands (up c_fresh_carried c_fresh_bands r7) c_tape)) rfl dX4_readBand_45 ?_
    refine g_aload_n 0 C dX4_readBand_46 rfl rfl ?_
    refine g_get C fg_X4_25 0 rfl rfl dX4_readBand_47 ?_
    refine g_dup C dX4_readBand_50 rfl ?_
    refine g_get C fg_X4_149 1 rfl rfl dX4_readBand_51 ?_
    refine g_st (st' := [.int (wI c_fresh_bands), .ref a_t_fresh]) rfl ?_
    refine g_iconst C dX4_readBand_54 ?_
    refine g_iadd C dX4_readBand_55 ?_
    obtain ⟨y15, e_y15, h⟩ := nam_some h
    refine g_topI e_y15 ?_
    refine g_putI C fp_X4_149 1 rfl rfl (ws' := (W_X4_readBand (eCy E) a_t a_t_fresh a_t_fresh_carried a_t_tape g_t_fresh_0 g_t_fresh_1 g_t_fresh_2 g_t_fresh_3 g_t_fresh_4 g_t_fresh_5 g_t_fresh_6 g_t_fresh_9 g_t_fresh_10 g_t_fresh_11 g_t_fresh_12 g_t_fresh_13 g_t_fresh_14 g_t_fresh_15 g_t_fresh_16 o8 o9 c_length o10 o11 o12 y15 (up c_fresh_carried c_fresh_bands r7) c_tape)) rfl dX4_readBand_56 ?_
    cases h
    exact hret 59 _ dX4_readBand_59
  · refine g_aload_n 0 C dX4_readBand_11 rfl rfl ?_
    refine g_iconst C dX4_readBand_12 ?_
    obtain ⟨o1, o2, hr3, h⟩ := bnd2_some h
    refine g_callV [0] [1, 2, 3] [3, 0, 1, 2] C mt_X4_86 (c_X4_refuse _ _ _ _ a_t (.ref a_t_tape) (.ref a_t_fresh) (.int (wI c_length)) (.int (wI c_kind)) (.int (wI c_until)) 3 c_fault c_place c_from F hr3) (q0 := 0) rfl (ci := 4) rfl rfl rfl (ws2 := (W_X4_readBand (eCy E) a_t a_t_fresh a_t_fresh_carried a_t_tape g_t_fresh_0 g_t_fresh_1 g_t_fresh_2 g_t_fresh_3 g_t_fresh_4 g_t_fresh_5 g_t_fresh_6 g_t_fresh_9 g_t_fresh_10 g_t_fresh_11 g_t_fresh_12 g_t_fresh_13 g_t_fresh_14 g_t_fresh_15 g_t_fresh_16 o1 o2 c_length c_kind c_from c_until c_fresh_bands c_fresh_carried c_tape)) rfl rfl rfl (rest := []) rfl rfl rfl dX4_readBand_13 ?_
    cases h
    exact hret 16 _ dX4_readBand_16
end S_X4_readBand
set_option maxRecDepth 100000 in
set_option maxHeartbeats 4000000 in
theorem c_X4_readBand (l : Launch) (D : va_G) (cy : Nat → ClassId) (ad : AD) (a_t a_t_fresh a_t_fresh_carried a_t_tape : Nat) (g_t_fresh_0 : Value) (g_t_fresh_1 : Value) (g_t_fresh_2 : Value) (g_t_fresh_3 : Value) (g_t_fresh_4 : Value) (g_t_fresh_5 : Value) (g_t_fresh_6 : Value) (g_t_fresh_9 : Value) (g_t_fresh_10 : Value) (g_t_fresh_11 : Value) (g_t_fresh_12 : Value) (g_t_fresh_13 : Value) (g_t_fresh_14 : Value) (g_t_fresh_15 : Value) (g_t_fresh_16 : Value) (c_fault : Int) (c_place : Int) (c_length : Int) (c_kind : Int) (c_from : Int) (c_until : Int) (c_fresh_bands : Int) (c_fresh_carried : Int → Int) (c_tape : Int → Int) (F : Nat) {v : Int × Int × Int × Int × Int × Int × (Int → Int)} (h : m_X4_readBand F c_fault c_place c_length c_kind c_from c_until c_fresh_bands c_fresh_carried c_tape = some v) : Ct l yX4_readBand cX4_readBand 1 none { frames := 6, cells := 0, slots := 0, locals := 128 } D cy ad [.ref a_t] (W_X4_readBand cy a_t a_t_fresh a_t_fresh_carried a_t_tape g_t_fresh_0 g_t_fresh_1 g_t_fresh_2 g_t_fresh_3 g_t_fresh_4 g_t_fresh_5 g_t_fresh_6 g_t_fresh_9 g_t_fresh_10 g_t_fresh_11 g_t_fresh_12 g_t_fresh_13 g_t_fresh_14 g_t_fresh_15 g_t_fresh_16 c_fault c_place c_length c_kind c_from c_until c_fresh_bands c_fresh_carried c_tape) (W_X4_readBand cy a_t a_t_fresh a_t_fresh_carried a_t_tape g_t_fresh_0 g_t_fresh_1 g_t_fresh_2 g_t_fresh_3 g_t_fresh_4 g_t_fresh_5 g_t_fresh_6 g_t_fresh_9 g_t_fresh_10 g_t_fresh_11 g_t_fresh_12 g_t_fresh_13 g_t_fresh_14 g_t_fresh_15 g_t_fresh_16 (v.1) (v.2.1) c_length (v.2.2.1) (v.2.2.2.1) (v.2.2.2.2.1) (v.2.2.2.2.2.1) (v.2.2.2.2.2.2) c_tape) none := by
  refine Ct.introV (j := 0) (plainFor_of_name (by decide)) rfl rfl (fun E C e1 e2 e3 e4 e5 hret => ?_)
  subst e1; subst e2; subst e3; subst e4
  exact wm_X4_readBand C e5 h hret
-- MovingStair$Reader.readLine()V
def W_X4_readLine (cy : Nat → ClassId) (a_t a_t_fresh a_t_fresh_carried a_t_fresh_paces a_t_fresh_speeds a_t_fresh_steps a_t_tape : Nat) (g_t_fresh_14 : Value) (g_t_fresh_15 : Value) (g_t_fresh_16 : Value) (c_fault : Int) (c_place : Int) (c_length : Int) (c_kind : Int) (c_from : Int) (c_until : Int) (c_fresh_lines : Int) (c_fresh_odds : Int) (c_fresh_parts : Int) (c_fresh_walkers : Int) (c_fresh_bands : Int) (c_fresh_sided : Int) (c_fresh_sideStand : Int) (c_fresh_sideWalk : Int) (c_fresh_sidePace : Int) (c_fresh_sideWould : Int) (c_fresh_carried : Int → Int) (c_fresh_paces : Int → Int) (c_fresh_speeds : Int → Int) (c_fresh_steps : Int → Int) (c_tape : Int → Int) : va_W := [(a_t, .inr (4, [.int (wI c_fault), .int (wI c_place), .ref a_t_tape, .ref a_t_fresh, .int (wI c_length), .int (wI c_kind), .int (wI c_from), .int (wI c_until)])), (a_t_fresh, .inr (2, [.int (wI c_fresh_lines), .int (wI c_fresh_odds), .int (wI c_fresh_parts), .ref a_t_fresh_steps, .ref a_t_fresh_speeds, .int (wI c_fresh_walkers), .ref a_t_fresh_paces, .int (wI c_fresh_bands), .ref a_t_fresh_carried, .int (wI c_fresh_sided), .int (wI c_fresh_sideStand), .int (wI c_fresh_sideWalk), .int (wI c_fresh_sidePace), .int (wI c_fresh_sideWould), g_t_fresh_14, g_t_fresh_15, g_t_fresh_16])), (a_t_fresh_carried, .inl (cy 1, 4, .inl (aI c_fresh_carried))), (a_t_fresh_paces, .inl (cy 1, 8, .inl (aI c_fresh_paces))), (a_t_fresh_speeds, .inl (cy 1, 4, .inl (aI c_fresh_speeds))), (a_t_fresh_steps, .inl (cy 1, 4, .inl (aI c_fresh_steps))), (a_t_tape, .inl (cy 0, 900, .inl (aI c_tape)))]
def mb_X4_readLine_106 (F : Nat) (c_fault : Int) (c_place : Int) (c_length : Int) (c_kind : Int) (c_from : Int) (c_until : Int) (c_fresh_lines : Int) (c_fresh_odds : Int) (c_fresh_parts : Int) (c_fresh_walkers : Int) (c_fresh_bands : Int) (c_fresh_sided : Int) (c_fresh_sideStand : Int) (c_fresh_sideWalk : Int) (c_fresh_sidePace : Int) (c_fresh_sideWould : Int) (c_fresh_carried : Int → Int) (c_fresh_paces : Int → Int) (c_fresh_speeds : Int → Int) (c_fresh_steps : Int → Int) (c_tape : Int → Int) : Option (Int × Int × Int × Int × Int × Int × Int × Int × Int × Int × Int × Int × Int × Int × Int × (Int → Int) × (Int → Int) × (Int → Int) × (Int → Int)) :=
  if wI c_fault = wI 0 then
    (nam (c_fresh_lines + 1) fun y1 => bnd3 (m_X4_advance F c_length c_until c_tape) fun o2 o3 o4 => some (c_fault, c_place, o2, o3, o4, y1, c_fresh_odds, c_fresh_parts, c_fresh_walkers, c_fresh_bands, c_fresh_sided, c_fresh_sideStand, c_fresh_sideWalk, c_fresh_sidePace, c_fresh_sideWould, c_fresh_carried, c_fresh_paces, c_fresh_speeds, c_fresh_steps))
  else
    (some (c_fault, c_place, c_kind, c_from, c_until, c_fresh_lines, c_fresh_odds, c_fresh_parts, c_fresh_walkers, c_fresh_bands, c_fresh_sided, c_fresh_sideStand, c_fresh_sideWalk, c_fresh_sidePace, c_fresh_sideWould, c_fresh_carried, c_fresh_paces, c_fresh_speeds, c_fresh_steps))
def mb_X4_readLine_86 (F : Nat) (c_fault : Int) (c_place : Int) (c_length : Int) (c_kind : Int) (c_from : Int) (c_until : Int) (c_fresh_lines : Int) (c_fresh_odds : Int) (c_fresh_parts : Int) (c_fresh_walkers : Int) (c_fresh_bands : Int) (c_fresh_sided : Int) (c_fresh_sideStand : Int) (c_fresh_sideWalk : Int) (c_fresh_sidePace : Int) (c_fresh_sideWould : Int) (c_fresh_carried : Int → Int) (c_fresh_paces : Int → Int) (c_fresh_speeds : Int → Int) (c_fresh_steps : Int → Int) (c_tape : Int → Int) : Option (Int × Int × Int × Int × Int × Int × Int × Int × Int × Int × Int × Int × Int × Int × Int × (Int → Int) × (Int → Int) × (Int → Int) × (Int → Int)) :=
  if wI c_fault = wI 0 then
    (if wI c_kind = wI 3 then
    (mb_X4_readLine_106 F c_fault c_place c_length c_kind c_from c_until c_fresh_lines c_fresh_odds c_fresh_parts c_fresh_walkers c_fresh_bands c_fresh_sided c_fresh_sideStand c_fresh_sideWalk c_fresh_sidePace c_fresh_sideWould c_fresh_carried c_fresh_paces c_fresh_speeds c_fresh_steps c_tape)
  else
    (bnd2 (m_X4_refuse F 1 c_fault c_place c_from) fun o1 o2 => mb_X4_readLine_106 F o1 o2 c_length c_kind c_from c_until c_fresh_lines c_fresh_odds c_fresh_parts c_fresh_walkers c_fresh_bands c_fresh_sided c_fresh_sideStand c_fresh_sideWalk c_fresh_sidePace c_fresh_sideWould c_fresh_carried c_fresh_paces c_fresh_speeds c_fresh_steps c_tape))
  else
    (mb_X4_readLine_106 F c_fault c_place c_length c_kind c_from c_until c_fresh_lines c_fresh_odds c_fresh_parts c_fresh_walkers c_fresh_bands c_fresh_sided c_fresh_sideStand c_fresh_sideWalk c_fresh_sidePace c_fresh_sideWould c_fresh_carried c_fresh_paces c_fresh_speeds c_fresh_steps c_tape)
def m_X4_readLine (F : Nat) (c_fault : Int) (c_place : Int) (c_length : Int) (c_kind : Int) (c_from : Int) (c_until : Int) (c_fresh_lines : Int) (c_fresh_odds : Int) (c_fresh_parts : Int) (c_fresh_walkers : Int) (c_fresh_bands : Int) (c_fresh_sided : Int) (c_fresh_sideStand : Int) (c_fresh_sideWalk : Int) (c_fresh_sidePace : Int) (c_fresh_sideWould : Int) (c_fresh_carried : Int → Int) (c_fresh_paces : Int → Int) (c_fresh_speeds : Int → Int) (c_fresh_steps : Int → Int) (c_tape : Int → Int) : Option (Int × Int × Int × Int × Int × Int × Int × Int × Int × Int × Int × Int × Int × Int × Int × (Int → Int) × (Int → Int) × (Int → Int) × (Int → Int)) :=
  if wI c_fresh_lines = wI 0 then
    (bnd6 (m_X4_readHead F c_fault c_place c_length c_kind c_from c_until c_tape) fun o1 o2 o3 o4 o5 o6 => mb_X4_readLine_86 F o1 o2 c_length o3 o4 o5 c_fresh_lines o6 c_fresh_parts c_fresh_walkers c_fresh_bands c_fresh_sided c_fresh_sideStand c_fresh_sideWalk c_fresh_sidePace c_fresh_sideWould c_fresh_carried c_fresh_paces c_fresh_speeds c_fresh_steps c_tape)
  else
    (bnd1 (m_X4_isWord F 2 c_length c_kind c_from c_until c_tape) fun r1 => if wI r1 = wI 0 then
    (bnd1 (m_X4_isWord F 6 c_length c_kind c_from c_until c_tape) fun r3 => if wI r3 = wI 0 then
    (bnd1 (m_X4_isWord F 8 c_length c_kind c_from c_until c_tape) fun r5 => if wI r5 = wI 0 then
    (bnd1 (m_X4_isWord F 12 c_length c_kind c_from c_until c_tape) fun r7 => if wI r7 = wI 0 then
    (bnd2 (m_X4_refuse F 1 c_fault c_place c_from) fun o9 o10 => mb_X4_readLine_86 F o9 o10 c_length c_kind c_from c_until c_fresh_lines c_fresh_odds c_fresh_parts c_fresh_walkers c_fresh_bands c_fresh_sided c_fresh_sideStand c_fresh_sideWalk c_fresh_sidePace c_fresh_sideWould c_fresh_carried c_fresh_paces c_fresh_speeds c_fresh_steps c_tape)
  else
    (bnd7 (m_X4_readBand F c_fault c_place c_length c_kind c_from c_until c_fresh_bands c_fresh_carried c_tape) fun o9 o10 o11 o12 o13 o14 o15 => mb_X4_readLine_86 F o9 o10 c_length o11 o12 o13 c_fresh_lines c_fresh_odds c_fresh_parts c_fresh_walkers o14 c_fresh_sided c_fresh_sideStand c_fresh_sideWalk c_fresh_sidePace c_fresh_sideWould o15 c_fresh_paces c_fresh_speeds c_fresh_steps c_tape))
  else
    (bnd10 (m_X4_readSides F c_fault c_place c_length c_kind c_from c_until c_tape) fun o7 o8 o9 o10 o11 o12 o13 o14 o15 o16 => mb_X4_readLine_86 F o7 o8 c_length o9 o10 o11 c_fresh_lines c_fresh_odds c_fresh_parts c_fresh_walkers c_fresh_bands o12 o13 o14 o15 o16 c_fresh_carried c_fresh_paces c_fresh_speeds c_fresh_steps c_tape))
  else
    (bnd7 (m_X4_readWalker F c_fault c_place c_length c_kind c_from c_until c_fresh_walkers c_fresh_paces c_tape) fun o5 o6 o7 o8 o9 o10 o11 => mb_X4_readLine_86 F o5 o6 c_length o7 o8 o9 c_fresh_lines c_fresh_odds c_fresh_parts o10 c_fresh_bands c_fresh_sided c_fresh_sideStand c_fresh_sideWalk c_fresh_sidePace c_fresh_sideWould c_fresh_carried o11 c_fresh_speeds c_fresh_steps c_tape))
  else
    (bnd8 (m_X4_readPart F c_fault c_place c_length c_kind c_from c_until c_fresh_parts c_fresh_speeds c_fresh_steps c_tape) fun o3 o4 o5 o6 o7 o8 o9 o10 => mb_X4_readLine_86 F o3 o4 c_length o5 o6 o7 c_fresh_lines c_fresh_odds o8 c_fresh_walkers c_fresh_bands c_fresh_sided c_fresh_sideStand c_fresh_sideWalk c_fresh_sidePace c_fresh_sideWould c_fresh_carried c_fresh_paces o9 o10 c_tape))
section S_X4_readLine
variable {E : EE} {a_t a_t_fresh a_t_fresh_carried a_t_fresh_paces a_t_fresh_speeds a_t_fresh_steps a_t_tape : Nat} {g_t_fresh_14 : Value} {g_t_fresh_15 : Value} {g_t_fresh_16 : Value}
set_option maxRecDepth 100000 in
set_option maxHeartbeats 4000000 in
theorem wb_X4_readLine_106 {F : Nat} {v : Int × Int × Int × Int × Int × Int × Int × Int × Int × Int × Int × Int × Int × Int × Int × (Int → Int) × (Int → Int) × (Int → Int) × (Int → Int)} {c_fault : Int} {c_place : Int} {c_length : Int} {c_kind : Int} {c_from : Int} {c_until : Int} {c_fresh_lines : Int} {c_fresh_odds : Int} {c_fresh_parts : Int} {c_fresh_walkers : Int} {c_fresh_bands : Int} {c_fresh_sided : Int} {c_fresh_sideStand : Int} {c_fresh_sideWalk : Int} {c_fresh_sidePace : Int} {c_fresh_sideWould : Int} {c_fresh_carried : Int → Int} {c_fresh_paces : Int → Int} {c_fresh_speeds : Int → Int} {c_fresh_steps : Int → Int} {c_tape : Int → Int} (C : Cx E cX4_readLine RX4 { frames := 8, cells := 0, slots := 0, locals := 172 }) (hN : eN E = 1) (h : mb_X4_readLine_106 F c_fault c_place c_length c_kind c_from c_until c_fresh_lines c_fresh_odds c_fresh_parts c_fresh_walkers c_fresh_bands c_fresh_sided c_fresh_sideStand c_fresh_sideWalk c_fresh_sidePace c_fresh_sideWould c_fresh_carried c_fresh_paces c_fresh_speeds c_fresh_steps c_tape = some v) (hret : ∀ (pc : Nat) (L : List (Option Value)), decode cX4_readLine pc = .ok (.return_, 1) → GG E 0 0 (W_X4_readLine (eCy E) a_t a_t_fresh a_t_fresh_carried a_t_fresh_paces a_t_fresh_speeds a_t_fresh_steps a_t_tape g_t_fresh_14 g_t_fresh_15 g_t_fresh_16 (v.1) (v.2.1) c_length (v.2.2.1) (v.2.2.2.1) (v.2.2.2.2.1) (v.2.2.2.2.2.1) (v.2.2.2.2.2.2.1) (v.2.2.2.2.2.2.2.1) (v.2.2.2.2.2.2.2.2.1) (v.2.2.2.2.2.2.2.2.2.1) (v.2.2.2.2.2.2.2.2.2.2.1) (v.2.2.2.2.2.2.2.2.2.2.2.1) (v.2.2.2.2.2.2.2.2.2.2.2.2.1) (v.2.2.2.2.2.2.2.2.2.2.2.2.2.1) (v.2.2.2.2.2.2.2.2.2.2.2.2.2.2.1) (v.2.2.2.2.2.2.2.2.2.2.2.2.2.2.2.1) (v.2.2.2.2.2.2.2.2.2.2.2.2.2.2.2.2.1) (v.2.2.2.2.2.2.2.2.2.2.2.2.2.2.2.2.2.1) (v.2.2.2.2.2.2.2.2.2.2.2.2.2.2.2.2.2.2) c_tape) L pc []) : GG E 0 0 (W_X4_readLine (eCy E) a_t a_t_fresh a_t_fresh_carried a_t_fresh_paces a_t_fresh_speeds a_t_fresh_steps a_t_tape g_t_fresh_14 g_t_fresh_15 g_t_fresh_16 c_fault c_place c_length c_kind c_from c_until c_fresh_lines c_fresh_odds c_fresh_parts c_fresh_walkers c_fresh_bands c_fresh_sided c_fresh_sideStand c_fresh_sideWalk c_fresh_sidePace c_fresh_sideWould c_fresh_carried c_fresh_paces c_fresh_speeds c_fresh_steps c_tape) [some (.ref a_t)] 106 [] := by
  unfold mb_X4_readLine_106 at h
  refine g_aload_n 0 C dX4_readLine_106 rfl rfl ?_
  refine g_get C fg_X4_9 0 rfl rfl dX4_readLine_107 ?_
  refine g_st (st' := [.int (wI c_fault)]) rfl ?_
  refine g_if_ne 130 C dX4_readLine_110 (by decide) h (fun h => ?_) (fun h => ?_)
  · cases h
    exact hret 130 _ dX4_readLine_130
  · refine g_aload_n 0 C dX4_readLine_113 rfl rfl ?_
    refine g_get C fg_X4_25 0 rfl rfl dX4_readLine_114 ?_
    refine g_dup C dX4_readLine_117 rfl ?_
    refine g_get C fg_X4_56 1 rfl rfl dX4_readLine_118 ?_
    refine g_st (st' := [.int (wI c_fresh_lines), .ref a_t_fresh]) rfl ?_
    refine g_iconst C dX4_readLine_121 ?_
    refine g_iadd C dX4_readLine_122 ?_
    obtain ⟨y1, e_y1, h⟩ := nam_some h
    refine g_topI e_y1 ?_
    refine g_putI C fp_X4_56 1 rfl rfl (ws' := (W_X4_readLine (eCy E) a_t a_t_fresh a_t_fresh_carried a_t_fresh_paces a_t_fresh_speeds a_t_fresh_steps a_t_tape g_t_fresh_14 g_t_fresh_15 g_t_fresh_16 c_fault c_place c_length c_kind c_from c_until y1 c_fresh_odds c_fresh_parts c_fresh_walkers c_fresh_bands c_fresh_sided c_fresh_sideStand c_fresh_sideWalk c_fresh_sidePace c_fresh_sideWould c_fresh_carried c_fresh_paces c_fresh_speeds c_fresh_steps c_tape)) rfl dX4_readLine_123 ?_
    refine g_aload_n 0 C dX4_readLine_126 rfl rfl ?_
    obtain ⟨o2, o3, o4, hr5, h⟩ := bnd3_some h
    refine g_callV [0, 6] [1, 2, 3, 4, 5] [5, 0, 1, 2, 3, 4, 6] C mt_X4_50 (c_X4_advance _ _ _ _ a_t a_t_tape (.int (wI c_fault)) (.int (wI c_place)) (.ref a_t_fresh) c_length c_kind c_from c_until c_tape F hr5) (q0 := 0) rfl (ci := 4) rfl rfl rfl (ws2 := (W_X4_readLine (eCy E) a_t a_t_fresh a_t_fresh_carried a_t_fresh_paces a_t_fresh_speeds a_t_fresh_steps a_t_tape g_t_fresh_14 g_t_fresh_15 g_t_fresh_16 c_fault c_place c_length o2 o3 o4 y1 c_fresh_odds c_fresh_parts c_fresh_walkers c_fresh_bands c_fresh_sided c_fresh_sideStand c_fresh_sideWalk c_fresh_sidePace c_fresh_sideWould c_fresh_carried c_fresh_paces c_fresh_speeds c_fresh_steps c_tape)) rfl rfl rfl (rest := []) rfl rfl rfl dX4_readLine_127 ?_
    cases h
    exact hret 130 _ dX4_readLine_130
set_option maxRecDepth 100000 in
set_option maxHeartbeats 4000000 in
theorem wb_X4_readLine_86 {F : Nat} {v : Int × Int × Int × Int × Int × Int × Int × Int × Int × Int × Int × Int × Int × Int × Int × (Int → Int) × (Int → Int) × (Int → Int) × (Int → Int)} {c_fault : Int} {c_place : Int} {c_length : Int} {c_kind : Int} {c_from : Int} {c_until : Int} {c_fresh_lines : Int} {c_fresh_odds : Int} {c_fresh_parts : Int} {c_fresh_walkers : Int} {c_fresh_bands : Int} {c_fresh_sided : Int} {c_fresh_sideStand : Int} {c_fresh_sideWalk : Int} {c_fresh_sidePace : Int} {c_fresh_sideWould : Int} {c_fresh_carried : Int → Int} {c_fresh_paces : Int → Int} {c_fresh_speeds : Int → Int} {c_fresh_steps : Int → Int} {c_tape : Int → Int} (C : Cx E cX4_readLine RX4 { frames := 8, cells := 0, slots := 0, locals := 172 }) (hN : eN E = 1) (h : mb_X4_readLine_86 F c_fault c_place c_length c_kind c_from c_until c_fresh_lines c_fresh_odds c_fresh_parts c_fresh_walkers c_fresh_bands c_fresh_sided c_fresh_sideStand c_fresh_sideWalk c_fresh_sidePace c_fresh_sideWould c_fresh_carried c_fresh_paces c_fresh_speeds c_fresh_steps c_tape = some v) (hret : ∀ (pc : Nat) (L : List (Option Value)), decode cX4_readLine pc = .ok (.return_, 1) → GG E 0 0 (W_X4_readLine (eCy E) a_t a_t_fresh a_t_fresh_carried a_t_fresh_paces a_t_fresh_speeds a_t_fresh_steps a_t_tape g_t_fresh_14 g_t_fresh_15 g_t_fresh_16 (v.1) (v.2.1) c_length (v.2.2.1) (v.2.2.2.1) (v.2.2.2.2.1) (v.2.2.2.2.2.1) (v.2.2.2.2.2.2.1) (v.2.2.2.2.2.2.2.1) (v.2.2.2.2.2.2.2.2.1) (v.2.2.2.2.2.2.2.2.2.1) (v.2.2.2.2.2.2.2.2.2.2.1) (v.2.2.2.2.2.2.2.2.2.2.2.1) (v.2.2.2.2.2.2.2.2.2.2.2.2.1) (v.2.2.2.2.2.2.2.2.2.2.2.2.2.1) (v.2.2.2.2.2.2.2.2.2.2.2.2.2.2.1) (v.2.2.2.2.2.2.2.2.2.2.2.2.2.2.2.1) (v.2.2.2.2.2.2.2.2.2.2.2.2.2.2.2.2.1) (v.2.2.2.2.2.2.2.2.2.2.2.2.2.2.2.2.2.1) (v.2.2.2.2.2.2.2.2.2.2.2.2.2.2.2.2.2.2) c_tape) L pc []) : GG E 0 0 (W_X4_readLine (eCy E) a_t a_t_fresh a_t_fresh_carried a_t_fresh_paces a_t_fresh_speeds a_t_fresh_steps a_t_tape g_t_fresh_14 g_t_fresh_15 g_t_fresh_16 c_fault c_place c_length c_kind c_from c_until c_fresh_lines c_fresh_odds c_fresh_parts c_fresh_walkers c_fresh_bands c_fresh_sided c_fresh_sideStand c_fresh_sideWalk c_fresh_sidePace c_fresh_sideWould c_fresh_carried c_fresh_paces c_fresh_speeds c_fresh_steps c_tape) [some (.ref a_t)] 86 [] := by
  unfold mb_X4_readLine_86 at h
  refine g_aload_n 0 C dX4_readLine_86 rfl rfl ?_
  refine g_get C fg_X4_9 0 rfl rfl dX4_readLine_87 ?_
  refine g_st (st' := [.int (wI c_fault)]) rfl ?_
  refine g_if_ne 106 C dX4_readLine_90 (by decide) h (fun h => ?_) (fun h => ?_)
  · exact wb_X4_readLine_106 C hN h hret
  · refine g_aload_n 0 C dX4_readLine_93 rfl rfl ?_
    refine g_get C fg_X4_32 0 rfl rfl dX4_readLine_94 ?_
    refine g_st (st' := [.int (wI c_kind)]) rfl ?_
    refine g_iconst C dX4_readLine_97 ?_
    refine g_icmp_eq 106 C dX4_readLine_98 (by decide) h (fun h => ?_) (fun h => ?_)
    · exact wb_X4_readLine_106 C hN h hret
    · refine g_aload_n 0 C dX4_readLine_101 rfl rfl ?_
      refine g_iconst C dX4_readLine_102 ?_
      obtain ⟨o1, o2, hr3, h⟩ := bnd2_some h
      refine g_callV [0] [1, 2, 3, 4, 5, 6] [6, 0, 1, 2, 3, 4, 5] C mt_X4_86 (c_X4_refuse _ _ _ _ a_t (.ref a_t_tape) (.ref a_t_fresh) (.int (wI c_length)) (.int (wI c_kind)) (.int (wI c_until)) 1 c_fault c_place c_from F hr3) (q0 := 0) rfl (ci := 4) rfl rfl rfl (ws2 := (W_X4_readLine (eCy E) a_t a_t_fresh a_t_fresh_carried a_t_fresh_paces a_t_fresh_speeds a_t_fresh_steps a_t_tape g_t_fresh_14 g_t_fresh_15 g_t_fresh_16 o1 o2 c_length c_kind c_from c_until c_fresh_lines c_fresh_odds c_fresh_parts c_fresh_walkers c_fresh_bands c_fresh_sided c_fresh_sideStand c_fresh_sideWalk c_fresh_sidePace c_fresh_sideWould c_fresh_carried c_fresh_paces c_fresh_speeds c_fresh_steps c_tape)) rfl rfl rfl (rest := []) rfl rfl rfl dX4_readLine_103 ?_
      exact wb_X4_readLine_106 C hN h hret
set_option maxRecDepth 100000 in
set_option maxHeartbeats 4000000 in
theorem wm_X4_readLine {F : Nat} {v : Int × Int × Int × Int × Int × Int × Int × Int × Int × Int × Int × Int × Int × Int × Int × (Int → Int) × (Int → Int) × (Int → Int) × (Int → Int)} {c_fault : Int} {c_place : Int} {c_length : Int} {c_kind : Int} {c_from : Int} {c_until : Int} {c_fresh_lines : Int} {c_fresh_odds : Int} {c_fresh_parts : Int} {c_fresh_walkers : Int} {c_fresh_bands : Int} {c_fresh_sided : Int} {c_fresh_sideStand : Int} {c_fresh_sideWalk : Int} {c_fresh_sidePace : Int} {c_fresh_sideWould : Int} {c_fresh_carried : Int → Int} {c_fresh_paces : Int → Int} {c_fresh_speeds : Int → Int} {c_fresh_steps : Int → Int} {c_tape : Int → Int} (C : Cx E cX4_readLine RX4 { frames := 8, cells := 0, slots := 0, locals := 172 }) (hN : eN E = 1) (h : m_X4_readLine F c_fault c_place c_length c_kind c_from c_until c_fresh_lines c_fresh_odds c_fresh_parts c_fresh_walkers c_fresh_bands c_fresh_sided c_fresh_sideStand c_fresh_sideWalk c_fresh_sidePace c_fresh_sideWould c_fresh_carried c_fresh_paces c_fresh_speeds c_fresh_steps c_tape = some v) (hret : ∀ (pc : Nat) (L : List (Option Value)), decode cX4_readLine pc = .ok (.return_, 1) → GG E 0 0 (W_X4_readLine (eCy E) a_t a_t_fresh a_t_fresh_carried a_t_fresh_paces a_t_fresh_speeds a_t_fresh_steps a_t_tape g_t_fresh_14 g_t_fresh_15 g_t_fresh_16 (v.1) (v.2.1) c_length (v.2.2.1) (v.2.2.2.1) (v.2.2.2.2.1) (v.2.2.2.2.2.1) (v.2.2.2.2.2.2.1) (v.2.2.2.2.2.2.2.1) (v.2.2.2.2.2.2.2.2.1) (v.2.2.2.2.2.2.2.2.2.1) (v.2.2.2.2.2.2.2.2.2.2.1) (v.2.2.2.2.2.2.2.2.2.2.2.1) (v.2.2.2.2.2.2.2.2.2.2.2.2.1) (v.2.2.2.2.2.2.2.2.2.2.2.2.2.1) (v.2.2.2.2.2.2.2.2.2.2.2.2.2.2.1) (v.2.2.2.2.2.2.2.2.2.2.2.2.2.2.2.1) (v.2.2.2.2.2.2.2.2.2.2.2.2.2.2.2.2.1) (v.2.2.2.2.2.2.2.2.2.2.2.2.2.2.2.2.2.1) (v.2.2.2.2.2.2.2.2.2.2.2.2.2.2.2.2.2.2) c_tape) L pc []) : GG E 0 0 (W_X4_readLine (eCy E) a_t a_t_fresh a_t_fresh_carried a_t_fresh_paces a_t_fresh_speeds a_t_fresh_steps a_t_tape g_t_fresh_14 g_t_fresh_15 g_t_fresh_16 c_fault c_place c_length c_kind c_from c_until c_fresh_lines c_fresh_odds c_fresh_parts c_fresh_walkers c_fresh_bands c_fresh_sided c_fresh_sideStand c_fresh_sideWalk c_fresh_sidePace c_fresh_sideWould c_fresh_carried c_fresh_paces c_fresh_speeds c_fresh_steps c_tape) [some (.ref a_t)] 0 [] := by
  unfold m_X4_readLine at h
  refine g_aload_n 0 C dX4_readLine_0 rfl rfl ?_
  refine g_get C fg_X4_25 0 rfl rfl dX4_readLine_1 ?_
  refine g_get C fg_X4_56 1 rfl rfl dX4_readLine_4 ?_
  refine g_st (st' := [.int (wI c_fresh_lines)]) rfl ?_
  refine g_if_ne 17 C dX4_readLine_7 (by decide) h (fun h => ?_) (fun h => ?_)
  · refine g_aload_n 0 C dX4_readLine_17 rfl rfl ?_
    refine g_ldcS 2 (by decide) C dX4_readLine_18 ?_
    obtain ⟨r1, hr2, h⟩ := bnd1_some h
    refine g_callI [0, 6] [1, 2, 3, 4, 5] [5, 0, 1, 2, 3, 4, 6] C mt_X4_64 (c_X4_isWord _ _ _ _ a_t a_t_tape (.int (wI c_fault)) (.int (wI c_place)) (.ref a_t_fresh) 2 c_length c_kind c_from c_until c_tape F hr2 (by decide)) (q0 := 0) rfl (ci := 4) rfl rfl rfl (ws2 := (W_X4_readLine (eCy E) a_t a_t_fresh a_t_fresh_carried a_t_fresh_paces a_t_fresh_speeds a_t_fresh_steps a_t_tape g_t_fresh_14 g_t_fresh_15 g_t_fresh_16 c_fault c_place c_length c_kind c_from c_until c_fresh_lines c_fresh_odds c_fresh_parts c_fresh_walkers c_fresh_bands c_fresh_sided c_fresh_sideStand c_fresh_sideWalk c_fresh_sidePace c_fresh_sideWould c_fresh_carried c_fresh_paces c_fresh_speeds c_fresh_steps c_tape)) rfl rfl rfl (rest := []) rfl rfl rfl dX4_readLine_20 ?_
    refine g_if_eq 33 C dX4_readLine_23 (by decide) h (fun h => ?_) (fun h => ?_)
    · refine g_aload_n 0 C dX4_readLine_33 rfl rfl ?_
      refine g_ldcS 6 (by decide) C dX4_readLine_34 ?_
      obtain ⟨r3, hr4, h⟩ := bnd1_some h
      refine g_callI [0, 6] [1, 2, 3, 4, 5] [5, 0, 1, 2, 3, 4, 6] C mt_X4_64 (c_X4_isWord _ _ _ _ a_t a_t_tape (.int (wI c_fault)) (.int (wI c_place)) (.ref a_t_fresh) 6 c_length c_kind c_from c_until c_tape F hr4 (by decide)) (q0 := 0) rfl (ci := 4) rfl rfl rfl (ws2 := (W_X4_readLine (eCy E) a_t a_t_fresh a_t_fresh_carried a_t_fresh_paces a_t_fresh_speeds a_t_fresh_steps a_t_tape g_t_fresh_14 g_t_fresh_15 g_t_fresh_16 c_fault c_place c_length c_kind c_from c_until c_fresh_lines c_fresh_odds c_fresh_parts c_fresh_walkers c_fresh_bands c_fresh_sided c_fresh_sideStand c_fresh_sideWalk c_fresh_sidePace c_fresh_sideWould c_fresh_carried c_fresh_paces c_fresh_speeds c_fresh_steps c_tape)) rfl rfl rfl (rest := []) rfl rfl rfl dX4_readLine_36 ?_
      refine g_if_eq 49 C dX4_readLine_39 (by decide) h (fun h => ?_) (fun h => ?_)
      · refine g_aload_n 0 C dX4_readLine_49 rfl rfl ?_
        refine g_ldcS 8 (by decide) C dX4_readLine_50 ?_
        obtain ⟨r5, hr6, h⟩ := bnd1_some h
        refine g_callI [0, 6] [1, 2, 3, 4, 5] [5, 0, 1, 2, 3, 4, 6] C mt_X4_64 (c_X4_isWord _ _ _ _ a_t a_t_tape (.int (wI c_fault)) (.int (wI c_place)) (.ref a_t_fresh) 8 c_length c_kind c_from c_until c_tape F hr6 (by decide)) (q0 := 0) rfl (ci := 4) rfl rfl rfl (ws2 := (W_X4_readLine (eCy E) a_t a_t_fresh a_t_fresh_carried a_t_fresh_paces a_t_fresh_speeds a_t_fresh_steps a_t_tape g_t_fresh_14 g_t_fresh_15 g_t_fresh_16 c_fault c_place c_length c_kind c_from c_until c_fresh_lines c_fresh_odds c_fresh_parts c_fresh_walkers c_fresh_bands c_fresh_sided c_fresh_sideStand c_fresh_sideWalk c_fresh_sidePace c_fresh_sideWould c_fresh_carried c_fresh_paces c_fresh_speeds c_fresh_steps c_tape)) rfl rfl rfl (rest := []) rfl rfl rfl dX4_readLine_52 ?_
        refine g_if_eq 65 C dX4_readLine_55 (by decide) h (fun h => ?_) (fun h => ?_)
        · refine g_aload_n 0 C dX4_readLine_65 rfl rfl ?_
          refine g_ldcS 12 (by decide) C dX4_readLine_66 ?_
          obtain ⟨r7, hr8, h⟩ := bnd1_some h
          refine g_callI [0, 6] [1, 2, 3, 4, 5] [5, 0, 1, 2, 3, 4, 6] C mt_X4_64 (c_X4_isWord _ _ _ _ a_t a_t_tape (.int (wI c_fault)) (.int (wI c_place)) (.ref a_t_fresh) 12 c_length c_kind c_from c_until c_tape F hr8 (by decide)) (q0 := 0) rfl (ci := 4) rfl rfl rfl (ws2 := (W_X4_readLine (eCy E) a_t a_t_fresh a_t_fresh_carried a_t_fresh_paces a_t_fresh_speeds a_t_fresh_steps a_t_tape g_t_fresh_14 g_t_fresh_15 g_t_fresh_16 c_fault c_place c_length c_kind c_from c_until c_fresh_lines c_fresh_odds c_fresh_parts c_fresh_walkers c_fresh_bands c_fresh_sided c_fresh_sideStand c_fresh_sideWalk c_fresh_sidePace c_fresh_sideWould c_fresh_carried c_fresh_paces c_fresh_speeds c_fresh_steps c_tape)) rfl rfl rfl (rest := []) rfl rfl rfl dX4_readLine_68 ?_
          refine g_if_eq 81 C dX4_readLine_71 (by decide) h (fun h => ?_) (fun h => ?_)
          · refine g_aload_n 0 C dX4_readLine_81 rfl rfl ?_
            refine g_iconst C dX4_readLine_82 ?_
            obtain ⟨o9, o10, hr11, h⟩ := bnd2_some h
            refine g_callV [0] [1, 2, 3, 4, 5, 6] [6, 0, 1, 2, 3, 4, 5] C mt_X4_86 (c_X4_refuse _ _ _ _ a_t (.ref a_t_tape) (.ref a_t_fresh) (.int (wI c_length)) (.int (wI c_kind)) (.int (wI c_until)) 1 c_fault c_place c_from F hr11) (q0 := 0) rfl (ci := 4) rfl rfl rfl (ws2 := (W_X4_readLine (eCy E) a_t a_t_fresh a_t_fresh_carried a_t_fresh_paces a_t_fresh_speeds a_t_fresh_steps a_t_tape g_t_fresh_14 g_t_fresh_15 g_t_fresh_16 o9 o10 c_length c_kind c_from c_until c_fresh_lines c_fresh_odds c_fresh_parts c_fresh_walkers c_fresh_bands c_fresh_sided c_fresh_sideStand c_fresh_sideWalk c_fresh_sidePace c_fresh_sideWould c_fresh_carried c_fresh_paces c_fresh_speeds c_fresh_steps c_tape)) rfl rfl rfl (rest := []) rfl rfl rfl dX4_readLine_83 ?_
            exact wb_X4_readLine_86 C hN h hret
          · refine g_aload_n 0 C dX4_readLine_74 rfl rfl ?_
            obtain ⟨o9, o10, o11, o12, o13, o14, o15, hr16, h⟩ := bnd7_some h
            refine g_callV [0, 1, 2, 6] [3, 4, 5] [3, 4, 5, 0, 1, 2, 6] C mt_X4_83 (c_X4_readBand _ _ _ _ a_t a_t_fresh a_t_fresh_carried a_t_tape (.int (wI c_fresh_lines)) (.int (wI c_fresh_odds)) (.int (wI c_fresh_parts)) (.ref a_t_fresh_steps) (.ref a_t_fresh_speeds) (.int (wI c_fresh_walkers)) (.ref a_t_fresh_paces) (.int (wI c_fresh_sided)) (.int (wI c_fresh_sideStand)) (.int (wI c_fresh_sideWalk)) (.int (wI c_fresh_sidePace)) (.int (wI c_fresh_sideWould)) (g_t_fresh_14) (g_t_fresh_15) (g_t_fresh_16) c_fault c_place c_length c_kind c_from c_until c_fresh_bands c_fresh_carried c_tape F hr16) (q0 := 0) rfl (ci := 4) rfl rfl rfl (ws2 := (W_X4_readLine (eCy E) a_t a_t_fresh a_t_fresh_carried a_t_fresh_paces a_t_fresh_speeds a_t_fresh_steps a_t_tape g_t_fresh_14 g_t_fresh_15 g_t_fresh_16 o9 o10 c_length o11 o12 o13 c_fresh_lines c_fresh_odds c_fresh_parts c_fresh_walkers o14 c_fresh_sided c_fresh_sideStand c_fresh_sideWalk c_fresh_sidePace c_fresh_sideWould o15 c_fresh_paces c_fresh_speeds c_fresh_steps c_tape)) rfl rfl rfl (rest := []) rfl rfl rfl dX4_readLine_75 ?_
            refine g_goto (tgt := 86) C dX4_readLine_78 (by decide) ?_
            exact wb_X4_readLine_86 C hN h hret
        · refine g_aload_n 0 C dX4_readLine_58 rfl rfl ?_
          obtain ⟨o7, o8, o9, o10, o11, o12, o13, o14, o15, o16, hr17, h⟩ := bnd10_some h
          refine g_callV [0, 1, 6] [2, 3, 4, 5] [4, 5, 0, 1, 2, 3, 6] C mt_X4_78 (c_X4_readSides _ _ _ _ a_t a_t_fresh a_t_tape (.int (wI c_fresh_lines)) (.int (wI c_fresh_odds)) (.int (wI c_fresh_parts)) (.ref a_t_fresh_steps) (.ref a_t_fresh_speeds) (.int (wI c_fresh_walkers)) (.ref a_t_fresh_paces) (.int (wI c_fresh_bands)) (.ref a_t_fresh_carried) (g_t_fresh_14) (g_t_fresh_15) (g_t_fresh_16) c_fault c_place c_length c_kind c_from c_until c_fresh_sided c_fresh_sideStand c_fresh_sideWalk c_fresh_sidePace c_fresh_sideWould c_tape F hr17) (q0 := 0) rfl (ci := 4) rfl rfl rfl (ws2 := (W_X4_readLine (eCy E) a_t a_t_fresh a_t_fresh_carried a_t_fresh_paces a_t_fresh_speeds a_t_fresh_steps a_t_tape g_t_fresh_14 g_t_fresh_15 g_t_fresh_16 o7 o8 c_length o9 o10 o11 c_fresh_lines c_fresh_odds c_fresh_parts c_fresh_walkers c_fresh_bands o12 o13 o14 o15 o16 c_fresh_carried c_fresh_paces c_fresh_speeds c_fresh_steps c_tape)) rfl rfl rfl (rest := []) rfl rfl rfl dX4_readLine_59 ?_
          refine g_goto (tgt := 86) C dX4_readLine_62 (by decide) ?_
          exact wb_X4_readLine_86 C hN h hret
      · refine g_aload_n 0 C dX4_readLine_42 rfl rfl ?_
        obtain ⟨o5, o6, o7, o8, o9, o10, o11, hr12, h⟩ := bnd7_some h
        refine g_callV [0, 1, 3, 6] [2, 4, 5] [3, 4, 0, 5, 1, 2, 6] C mt_X4_73 (c_X4_readWalker _ _ _ _ a_t a_t_fresh a_t_fresh_paces a_t_tape (.int (wI c_fresh_lines)) (.int (wI c_fresh_odds)) (.int (wI c_fresh_parts)) (.ref a_t_fresh_steps) (.ref a_t_fresh_speeds) (.int (wI c_fresh_bands)) (.ref a_t_fresh_carried) (.int (wI c_fresh_sided)) (.int (wI c_fresh_sideStand)) (.int (wI c_fresh_sideWalk)) (.int (wI c_fresh_sidePace)) (.int (wI c_fresh_sideWould)) (g_t_fresh_14) (g_t_fresh_15) (g_t_fresh_16) c_fault c_place c_length c_kind c_from c_until c_fresh_walkers c_fresh_paces c_tape F hr12) (q0 := 0) rfl (ci := 4) rfl rfl rfl (ws2 := (W_X4_readLine (eCy E) a_t a_t_fresh a_t_fresh_carried a_t_fresh_paces a_t_fresh_speeds a_t_fresh_steps a_t_tape g_t_fresh_14 g_t_fresh_15 g_t_fresh_16 o5 o6 c_length o7 o8 o9 c_fresh_lines c_fresh_odds c_fresh_parts o10 c_fresh_bands c_fresh_sided c_fresh_sideStand c_fresh_sideWalk c_fresh_sidePace c_fresh_sideWould c_fresh_carried o11 c_fresh_speeds c_fresh_steps c_tape)) rfl rfl rfl (rest := []) rfl rfl rfl dX4_readLine_43 ?_
        refine g_goto (tgt := 86) C dX4_readLine_46 (by decide) ?_
        exact wb_X4_readLine_86 C hN h hret
    · refine g_aload_n 0 C dX4_readLine_26 rfl rfl ?_
      obtain ⟨o3, o4, o5, o6, o7, o8, o9, o10, hr11, h⟩ := bnd8_some h
      refine g_callV [0, 1, 4, 5, 6] [2, 3] [2, 3, 0, 1, 4, 5, 6] C mt_X4_68 (c_X4_readPart _ _ _ _ a_t a_t_fresh a_t_fresh_speeds a_t_fresh_steps a_t_tape (.int (wI c_fresh_lines)) (.int (wI c_fresh_odds)) (.int (wI c_fresh_walkers)) (.ref a_t_fresh_paces) (.int (wI c_fresh_bands)) (.ref a_t_fresh_carried) (.int (wI c_fresh_sided)) (.int (wI c_fresh_sideStand)) (.int (wI c_fresh_sideWalk)) (.int (wI c_fresh_sidePace)) (.int (wI c_fresh_sideWould)) (g_t_fresh_14) (g_t_fresh_15) (g_t_fresh_16) c_fault c_place c_length c_kind c_from c_until c_fresh_parts c_fresh_speeds c_fresh_steps c_tape F hr11) (q0 := 0) rfl (ci := 4) rfl rfl rfl (ws2 := (W_X4_readLine (eCy E) a_t a_t_fresh a_t_fresh_carried a_t_fresh_paces a_t_fresh_speeds a_t_fresh_steps a_t_tape g_t_fresh_14 g_t_fresh_15 g_t_fresh_16 o3 o4 c_length o5 o6 o7 c_fresh_lines c_fresh_odds o8 c_fresh_walkers c_fresh_bands c_fresh_sided c_fresh_sideStand c_fresh_sideWalk c_fresh_sidePace c_fresh_sideWould c_fresh_carried c_fresh_paces o9 o10 c_tape)) rfl rfl rfl (rest := []) rfl rfl rfl dX4_readLine_27 ?_
      refine g_goto (tgt := 86) C dX4_readLine_30 (by decide) ?_
      exact wb_X4_readLine_86 C hN h hret
  · refine g_aload_n 0 C dX4_readLine_10 rfl rfl ?_
    obtain ⟨o1, o2, o3, o4, o5, o6, hr7, h⟩ := bnd6_some h
    refine g_callV [0, 1, 6] [2, 3, 4, 5] [4, 5, 0, 1, 2, 3, 6] C mt_X4_59 (c_X4_readHead _ _ _ _ a_t a_t_fresh a_t_tape (.int (wI c_fresh_lines)) (.int (wI c_fresh_parts)) (.ref a_t_fresh_steps) (.ref a_t_fresh_speeds) (.int (wI c_fresh_walkers)) (.ref a_t_fresh_paces) (.int (wI c_fresh_bands)) (.ref a_t_fresh_carried) (.int (wI c_fresh_sided)) (.int (wI c_fresh_sideStand)) (.int (wI c_fresh_sideWalk)) (.int (wI c_fresh_sidePace)) (.int (wI c_fresh_sideWould)) (g_t_fresh_14) (g_t_fresh_15) (g_t_fresh_16) c_fault c_place c_length c_kind c_from c_until c_fresh_odds c_tape F hr7) (q0 := 0) rfl (ci := 4) rfl rfl rfl (ws2 := (W_X4_readLine (eCy E) a_t a_t_fresh a_t_fresh_carried a_t_fresh_paces a_t_fresh_speeds a_t_fresh_steps a_t_tape g_t_fresh_14 g_t_fresh_15 g_t_fresh_16 o1 o2 c_length o3 o4 o5 c_fresh_lines o6 c_fresh_parts c_fresh_walkers c_fresh_bands c_fresh_sided c_fresh_sideStand c_fresh_sideWalk c_fresh_sidePace c_fresh_sideWould c_fresh_carried c_fresh_paces c_fresh_speeds c_fresh_steps c_tape)) rfl rfl rfl (rest := []) rfl rfl rfl dX4_readLine_11 ?_
    refine g_goto (tgt := 86) C dX4_readLine_14 (by decide) ?_
    exact wb_X4_readLine_86 C hN h hret
end S_X4_readLine
set_option maxRecDepth 100000 in
set_option maxHeartbeats 4000000 in
theorem c_X4_readLine (l : Launch) (D : va_G) (cy : Nat → ClassId) (ad : AD) (a_t a_t_fresh a_t_fresh_carried a_t_fresh_paces a_t_fresh_speeds a_t_fresh_steps a_t_tape : Nat) (g_t_fresh_14 : Value) (g_t_fresh_15 : Value) (g_t_fresh_16 : Value) (c_fault : Int) (c_place : Int) (c_length : Int) (c_kind : Int) (c_from : Int) (c_until : Int) (c_fresh_lines : Int) (c_fresh_odds : Int) (c_fresh_parts : Int) (c_fresh_walkers : Int) (c_fresh_bands : Int) (c_fresh_sided : Int) (c_fresh_sideStand : Int) (c_fresh_sideWalk : Int) (c_fresh_sidePace : Int) (c_fresh_sideWould : Int) (c_fresh_carried : Int → Int) (c_fresh_paces : Int → Int) (c_fresh_speeds : Int → Int) (c_fresh_steps : Int → Int) (c_tape : Int → Int) (F : Nat) {v : Int × Int × Int × Int × Int × Int × Int × Int × Int × Int × Int × Int × Int × Int × Int × (Int → Int) × (Int → Int) × (Int → Int) × (Int → Int)} (h : m_X4_readLine F c_fault c_place c_length c_kind c_from c_until c_fresh_lines c_fresh_odds c_fresh_parts c_fresh_walkers c_fresh_bands c_fresh_sided c_fresh_sideStand c_fresh_sideWalk c_fresh_sidePace c_fresh_sideWould c_fresh_carried c_fresh_paces c_fresh_speeds c_fresh_steps c_tape = some v) : Ct l yX4_readLine cX4_readLine 1 none { frames := 8, cells := 0, slots := 0, locals := 172 } D cy ad [.ref a_t] (W_X4_readLine cy a_t a_t_fresh a_t_fresh_carried a_t_fresh_paces a_t_fresh_speeds a_t_fresh_steps a_t_tape g_t_fresh_14 g_t_fresh_15 g_t_fresh_16 c_fault c_place c_length c_kind c_from c_until c_fresh_lines c_fresh_odds c_fresh_parts c_fresh_walkers c_fresh_bands c_fresh_sided c_fresh_sideStand c_fresh_sideWalk c_fresh_sidePace c_fresh_sideWould c_fresh_carried c_fresh_paces c_fresh_speeds c_fresh_steps c_tape) (W_X4_readLine cy a_t a_t_fresh a_t_fresh_carried a_t_fresh_paces a_t_fresh_speeds a_t_fresh_steps a_t_tape g_t_fresh_14 g_t_fresh_15 g_t_fresh_16 (v.1) (v.2.1) c_length (v.2.2.1) (v.2.2.2.1) (v.2.2.2.2.1) (v.2.2.2.2.2.1) (v.2.2.2.2.2.2.1) (v.2.2.2.2.2.2.2.1) (v.2.2.2.2.2.2.2.2.1) (v.2.2.2.2.2.2.2.2.2.1) (v.2.2.2.2.2.2.2.2.2.2.1) (v.2.2.2.2.2.2.2.2.2.2.2.1) (v.2.2.2.2.2.2.2.2.2.2.2.2.1) (v.2.2.2.2.2.2.2.2.2.2.2.2.2.1) (v.2.2.2.2.2.2.2.2.2.2.2.2.2.2.1) (v.2.2.2.2.2.2.2.2.2.2.2.2.2.2.2.1) (v.2.2.2.2.2.2.2.2.2.2.2.2.2.2.2.2.1) (v.2.2.2.2.2.2.2.2.2.2.2.2.2.2.2.2.2.1) (v.2.2.2.2.2.2.2.2.2.2.2.2.2.2.2.2.2.2) c_tape) none := by
  refine Ct.introV (j := 0) (plainFor_of_name (by decide)) rfl rfl (fun E C e1 e2 e3 e4 e5 hret => ?_)
  subst e1; subst e2; subst e3; subst e4
  exact wm_X4_readLine C e5 h hret
-- MovingStair$Reader.read(I)V
def W_X4_read (cy : Nat → ClassId) (a_t a_t_fresh a_t_fresh_carried a_t_fresh_paces a_t_fresh_speeds a_t_fresh_steps a_t_tape : Nat) (g_t_fresh_15 : Value) (g_t_fresh_16 : Value) (c_fault : Int) (c_place : Int) (c_length : Int) (c_kind : Int) (c_from : Int) (c_until : Int) (c_fresh_lines : Int) (c_fresh_odds : Int) (c_fresh_parts : Int) (c_fresh_walkers : Int) (c_fresh_bands : Int) (c_fresh_sided : Int) (c_fresh_sideStand : Int) (c_fresh_sideWalk : Int) (c_fresh_sidePace : Int) (c_fresh_sideWould : Int) (c_fresh_acts : Int) (c_fresh_carried : Int → Int) (c_fresh_paces : Int → Int) (c_fresh_speeds : Int → Int) (c_fresh_steps : Int → Int) (c_tape : Int → Int) : va_W := [(a_t, .inr (4, [.int (wI c_fault), .int (wI c_place), .ref a_t_tape, .ref a_t_fresh, .int (wI c_length), .int (wI c_kind), .int (wI c_from), .int (wI c_until)])), (a_t_fresh, .inr (2, [.int (wI c_fresh_lines), .int (wI c_fresh_odds), .int (wI c_fresh_parts), .ref a_t_fresh_steps, .ref a_t_fresh_speeds, .int (wI c_fresh_walkers), .ref a_t_fresh_paces, .int (wI c_fresh_bands), .ref a_t_fresh_carried, .int (wI c_fresh_sided), .int (wI c_fresh_sideStand), .int (wI c_fresh_sideWalk), .int (wI c_fresh_sidePace), .int (wI c_fresh_sideWould), .int (wI c_fresh_acts), g_t_fresh_15, g_t_fresh_16])), (a_t_fresh_carried, .inl (cy 1, 4, .inl (aI c_fresh_carried))), (a_t_fresh_paces, .inl (cy 1, 8, .inl (aI c_fresh_paces))), (a_t_fresh_speeds, .inl (cy 1, 4, .inl (aI c_fresh_speeds))), (a_t_fresh_steps, .inl (cy 1, 4, .inl (aI c_fresh_steps))), (a_t_tape, .inl (cy 0, 900, .inl (aI c_tape)))]
def mb_X4_read_41 (F : Nat) (k41 : Int → Int → Int → Int → Int → Int → Int → Int → Int → Int → Int → Int → Int → Int → Int → Int → (Int → Int) → (Int → Int) → (Int → Int) → (Int → Int) → Option (Int × Int × Int × Int × Int × Int × Int × Int × Int × Int × Int × Int × Int × Int × Int × Int × Int × (Int → Int) × (Int → Int) × (Int → Int) × (Int → Int))) (x2 : Int) (c_fault : Int) (c_place : Int) (c_length : Int) (c_kind : Int) (c_from : Int) (c_until : Int) (c_fresh_lines : Int) (c_fresh_odds : Int) (c_fresh_parts : Int) (c_fresh_walkers : Int) (c_fresh_bands : Int) (c_fresh_sided : Int) (c_fresh_sideStand : Int) (c_fresh_sideWalk : Int) (c_fresh_sidePace : Int) (c_fresh_sideWould : Int) (c_fresh_acts : Int) (c_fresh_carried : Int → Int) (c_fresh_paces : Int → Int) (c_fresh_speeds : Int → Int) (c_fresh_steps : Int → Int) (c_tape : Int → Int) : Option (Int × Int × Int × Int × Int × Int × Int × Int × Int × Int × Int × Int × Int × Int × Int × Int × Int × (Int → Int) × (Int → Int) × (Int → Int) × (Int → Int)) :=
  if wI c_length < wI x2 then
    (some (c_fault, c_place, c_length, c_kind, c_from, c_until, c_fresh_lines, c_fresh_odds, c_fresh_parts, c_fresh_walkers, c_fresh_bands, c_fresh_sided, c_fresh_sideStand, c_fresh_sideWalk, c_fresh_sidePace, c_fresh_sideWould, c_fresh_acts, c_fresh_carried, c_fresh_paces, c_fresh_speeds, c_fresh_steps))
  else
    (if wI c_kind = wI 0 then
    (some (c_fault, c_place, c_length, c_kind, c_from, c_until, c_fresh_lines, c_fresh_odds, c_fresh_parts, c_fresh_walkers, c_fresh_bands, c_fresh_sided, c_fresh_sideStand, c_fresh_sideWalk, c_fresh_sidePace, c_fresh_sideWould, c_fresh_acts, c_fresh_carried, c_fresh_paces, c_fresh_speeds, c_fresh_steps))
  else
    (if wI c_fault = wI 0 then
    (bnd19 (m_X4_readLine F c_fault c_place c_length c_kind c_from c_until c_fresh_lines c_fresh_odds c_fresh_parts c_fresh_walkers c_fresh_bands c_fresh_sided c_fresh_sideStand c_fresh_sideWalk c_fresh_sidePace c_fresh_sideWould c_fresh_carried c_fresh_paces c_fresh_speeds c_fresh_steps c_tape) fun o1 o2 o3 o4 o5 o6 o7 o8 o9 o10 o11 o12 o13 o14 o15 o16 o17 o18 o19 => k41 (x2 + 1) o1 o2 o3 o4 o5 o6 o7 o8 o9 o10 o11 o12 o13 o14 o15 o16 o17 o18 o19)
  else
    (some (c_fault, c_place, c_length, c_kind, c_from, c_until, c_fresh_lines, c_fresh_odds, c_fresh_parts, c_fresh_walkers, c_fresh_bands, c_fresh_sided, c_fresh_sideStand, c_fresh_sideWalk, c_fresh_sidePace, c_fresh_sideWould, c_fresh_acts, c_fresh_carried, c_fresh_paces, c_fresh_speeds, c_fresh_steps))))
def ml_X4_read_41 (F : Nat) (x2 : Int) (c_fault : Int) (c_place : Int) (c_length : Int) (c_kind : Int) (c_from : Int) (c_until : Int) (c_fresh_lines : Int) (c_fresh_odds : Int) (c_fresh_parts : Int) (c_fresh_walkers : Int) (c_fresh_bands : Int) (c_fresh_sided : Int) (c_fresh_sideStand : Int) (c_fresh_sideWalk : Int) (c_fresh_sidePace : Int) (c_fresh_sideWould : Int) (c_fresh_acts : Int) (c_fresh_carried : Int → Int) (c_fresh_paces : Int → Int) (c_fresh_speeds : Int → Int) (c_fresh_steps : Int → Int) (c_tape : Int → Int) : Option (Int × Int × Int × Int × Int × Int × Int × Int × Int × Int × Int × Int × Int × Int × Int × Int × Int × (Int → Int) × (Int → Int) × (Int → Int) × (Int → Int)) :=
  loopN (fun (k : Int × Int × Int × Int × Int × Int × Int × Int × Int × Int × Int × Int × Int × Int × Int × Int × (Int → Int) × (Int → Int) × (Int → Int) × (Int → Int) → Option (Int × Int × Int × Int × Int × Int × Int × Int × Int × Int × Int × Int × Int × Int × Int × Int × Int × (Int → Int) × (Int → Int) × (Int → Int) × (Int → Int))) q => mb_X4_read_41 F (fun y0 y1 y2 y3 y4 y5 y6 y7 y8 y9 y10 y11 y12 y13 y14 y15 y16 y17 y18 y19 => k (y0, y1, y2, y3, y4, y5, y6, y7, y8, y9, y10, y11, y12, y13, y14, y15, y16, y17, y18, y19)) q.1 q.2.1 q.2.2.1 c_length q.2.2.2.1 q.2.2.2.2.1 q.2.2.2.2.2.1 q.2.2.2.2.2.2.1 q.2.2.2.2.2.2.2.1 q.2.2.2.2.2.2.2.2.1 q.2.2.2.2.2.2.2.2.2.1 q.2.2.2.2.2.2.2.2.2.2.1 q.2.2.2.2.2.2.2.2.2.2.2.1 q.2.2.2.2.2.2.2.2.2.2.2.2.1 q.2.2.2.2.2.2.2.2.2.2.2.2.2.1 q.2.2.2.2.2.2.2.2.2.2.2.2.2.2.1 q.2.2.2.2.2.2.2.2.2.2.2.2.2.2.2.1 c_fresh_acts q.2.2.2.2.2.2.2.2.2.2.2.2.2.2.2.2.1 q.2.2.2.2.2.2.2.2.2.2.2.2.2.2.2.2.2.1 q.2.2.2.2.2.2.2.2.2.2.2.2.2.2.2.2.2.2.1 q.2.2.2.2.2.2.2.2.2.2.2.2.2.2.2.2.2.2.2 c_tape) F (x2, c_fault, c_place, c_kind, c_from, c_until, c_fresh_lines, c_fresh_odds, c_fresh_parts, c_fresh_walkers, c_fresh_bands, c_fresh_sided, c_fresh_sideStand, c_fresh_sideWalk, c_fresh_sidePace, c_fresh_sideWould, c_fresh_carried, c_fresh_paces, c_fresh_speeds, c_fresh_steps)
def m_X4_read (F : Nat) (x1 : Int) (c_fresh_sideStand : Int) (c_fresh_sideWalk : Int) (c_fresh_sidePace : Int) (c_fresh_sideWould : Int) (c_fresh_carried : Int → Int) (c_fresh_paces : Int → Int) (c_fresh_speeds : Int → Int) (c_fresh_steps : Int → Int) (c_tape : Int → Int) : Option (Int × Int × Int × Int × Int × Int × Int × Int × Int × Int × Int × Int × Int × Int × Int × Int × Int × (Int → Int) × (Int → Int) × (Int → Int) × (Int → Int)) :=
  bnd1 (m_J9_min_7cf53 F x1 900) fun r1 => bnd7 (m_X2_clear F) fun o3 o4 o5 o6 o7 o8 o9 => bnd3 (m_X4_advance F r1 0 c_tape) fun o11 o12 o13 => ml_X4_read_41 F 0 0 (-1) r1 o11 o12 o13 o3 o4 o5 o6 o7 o8 c_fresh_sideStand c_fresh_sideWalk c_fresh_sidePace c_fresh_sideWould o9 c_fresh_carried c_fresh_paces c_fresh_speeds c_fresh_steps c_tape
section S_X4_read
variable {E : EE} {a_t a_t_fresh a_t_fresh_carried a_t_fresh_paces a_t_fresh_speeds a_t_fresh_steps a_t_tape : Nat} {g_t_fresh_15 : Value} {g_t_fresh_16 : Value}
set_option maxRecDepth 100000 in
set_option maxHeartbeats 4000000 in
theorem wb_X4_read_41 {F : Nat} {k41 : Int → Int → Int → Int → Int → Int → Int → Int → Int → Int → Int → Int → Int → Int → Int → Int → (Int → Int) → (Int → Int) → (Int → Int) → (Int → Int) → Option (Int × Int × Int × Int × Int × Int × Int × Int × Int × Int × Int × Int × Int × Int × Int × Int × Int × (Int → Int) × (Int → Int) × (Int → Int) × (Int → Int))} {v : Int × Int × Int × Int × Int × Int × Int × Int × Int × Int × Int × Int × Int × Int × Int × Int × Int × (Int → Int) × (Int → Int) × (Int → Int) × (Int → Int)} {x2 : Int} {c_fault : Int} {c_place : Int} {c_length : Int} {c_kind : Int} {c_from : Int} {c_until : Int} {c_fresh_lines : Int} {c_fresh_odds : Int} {c_fresh_parts : Int} {c_fresh_walkers : Int} {c_fresh_bands : Int} {c_fresh_sided : Int} {c_fresh_sideStand : Int} {c_fresh_sideWalk : Int} {c_fresh_sidePace : Int} {c_fresh_sideWould : Int} {c_fresh_acts : Int} {c_fresh_carried : Int → Int} {c_fresh_paces : Int → Int} {c_fresh_speeds : Int → Int} {c_fresh_steps : Int → Int} {c_tape : Int → Int} (C : Cx E cX4_read RX4 { frames := 9, cells := 0, slots := 0, locals := 192 }) (hN : eN E = 3) (h : mb_X4_read_41 F k41 x2 c_fault c_place c_length c_kind c_from c_until c_fresh_lines c_fresh_odds c_fresh_parts c_fresh_walkers c_fresh_bands c_fresh_sided c_fresh_sideStand c_fresh_sideWalk c_fresh_sidePace c_fresh_sideWould c_fresh_acts c_fresh_carried c_fresh_paces c_fresh_speeds c_fresh_steps c_tape = some v) (hk41 : ∀ (y_x2 : Int) (y_c_fault : Int) (y_c_place : Int) (y_c_kind : Int) (y_c_from : Int) (y_c_until : Int) (y_c_fresh_lines : Int) (y_c_fresh_odds : Int) (y_c_fresh_parts : Int) (y_c_fresh_walkers : Int) (y_c_fresh_bands : Int) (y_c_fresh_sided : Int) (y_c_fresh_sideStand : Int) (y_c_fresh_sideWalk : Int) (y_c_fresh_sidePace : Int) (y_c_fresh_sideWould : Int) (y_c_fresh_carried : Int → Int) (y_c_fresh_paces : Int → Int) (y_c_fresh_speeds : Int → Int) (y_c_fresh_steps : Int → Int), k41 y_x2 y_c_fault y_c_place y_c_kind y_c_from y_c_until y_c_fresh_lines y_c_fresh_odds y_c_fresh_parts y_c_fresh_walkers y_c_fresh_bands y_c_fresh_sided y_c_fresh_sideStand y_c_fresh_sideWalk y_c_fresh_sidePace y_c_fresh_sideWould y_c_fresh_carried y_c_fresh_paces y_c_fresh_speeds y_c_fresh_steps = some v → GG E 0 0 (W_X4_read (eCy E) a_t a_t_fresh a_t_fresh_carried a_t_fresh_paces a_t_fresh_speeds a_t_fresh_steps a_t_tape g_t_fresh_15 g_t_fresh_16 y_c_fault y_c_place c_length y_c_kind y_c_from y_c_until y_c_fresh_lines y_c_fresh_odds y_c_fresh_parts y_c_fresh_walkers y_c_fresh_bands y_c_fresh_sided y_c_fresh_sideStand y_c_fresh_sideWalk y_c_fresh_sidePace y_c_fresh_sideWould c_fresh_acts y_c_fresh_carried y_c_fresh_paces y_c_fresh_speeds y_c_fresh_steps c_tape) [some (.ref a_t), none, some (.int (wI y_x2))] 41 []) (hret : ∀ (pc : Nat) (L : List (Option Value)), decode cX4_read pc = .ok (.return_, 1) → GG E 0 0 (W_X4_read (eCy E) a_t a_t_fresh a_t_fresh_carried a_t_fresh_paces a_t_fresh_speeds a_t_fresh_steps a_t_tape g_t_fresh_15 g_t_fresh_16 (v.1) (v.2.1) (v.2.2.1) (v.2.2.2.1) (v.2.2.2.2.1) (v.2.2.2.2.2.1) (v.2.2.2.2.2.2.1) (v.2.2.2.2.2.2.2.1) (v.2.2.2.2.2.2.2.2.1) (v.2.2.2.2.2.2.2.2.2.1) (v.2.2.2.2.2.2.2.2.2.2.1) (v.2.2.2.2.2.2.2.2.2.2.2.1) (v.2.2.2.2.2.2.2.2.2.2.2.2.1) (v.2.2.2.2.2.2.2.2.2.2.2.2.2.1) (v.2.2.2.2.2.2.2.2.2.2.2.2.2.2.1) (v.2.2.2.2.2.2.2.2.2.2.2.2.2.2.2.1) (v.2.2.2.2.2.2.2.2.2.2.2.2.2.2.2.2.1) (v.2.2.2.2.2.2.2.2.2.2.2.2.2.2.2.2.2.1) (v.2.2.2.2.2.2.2.2.2.2.2.2.2.2.2.2.2.2.1) (v.2.2.2.2.2.2.2.2.2.2.2.2.2.2.2.2.2.2.2.1) (v.2.2.2.2.2.2.2.2.2.2.2.2.2.2.2.2.2.2.2.2) c_tape) L pc []) : GG E 0 0 (W_X4_read (eCy E) a_t a_t_fresh a_t_fresh_carried a_t_fresh_paces a_t_fresh_speeds a_t_fresh_steps a_t_tape g_t_fresh_15 g_t_fresh_16 c_fault c_place c_length c_kind c_from c_until c_fresh_lines c_fresh_odds c_fresh_parts c_fresh_walkers c_fresh_bands c_fresh_sided c_fresh_sideStand c_fresh_sideWalk c_fresh_sidePace c_fresh_sideWould c_fresh_acts c_fresh_carried c_fresh_paces c_fresh_speeds c_fresh_steps c_tape) [some (.ref a_t), none, some (.int (wI x2))] 41 [] := by
  unfold mb_X4_read_41 at h
  refine g_iload_n 2 C dX4_read_41 rfl rfl ?_
  refine g_aload_n 0 C dX4_read_42 rfl rfl ?_
  refine g_get C fg_X4_29 0 rfl rfl dX4_read_43 ?_
  refine g_st (st' := [.int (wI c_length), .int (wI x2)]) rfl ?_
  refine g_icmp_gt 73 C dX4_read_46 (by decide) h (fun h => ?_) (fun h => ?_)
  · cases h
    exact hret 73 _ dX4_read_73
  · refine g_aload_n 0 C dX4_read_49 rfl rfl ?_
    refine g_get C fg_X4_32 0 rfl rfl dX4_read_50 ?_
    refine g_st (st' := [.int (wI c_kind)]) rfl ?_
    refine g_if_eq 73 C dX4_read_53 (by decide) h (fun h => ?_) (fun h => ?_)
    · cases h
      exact hret 73 _ dX4_read_73
    · refine g_aload_n 0 C dX4_read_56 rfl rfl ?_
      refine g_get C fg_X4_9 0 rfl rfl dX4_read_57 ?_
      refine g_st (st' := [.int (wI c_fault)]) rfl ?_
      refine g_if_ne 73 C dX4_read_60 (by decide) h (fun h => ?_) (fun h => ?_)
      · cases h
        exact hret 73 _ dX4_read_73
      · refine g_aload_n 0 C dX4_read_63 rfl rfl ?_
        obtain ⟨o1, o2, o3, o4, o5, o6, o7, o8, o9, o10, o11, o12, o13, o14, o15, o16, o17, o18, o19, hr20, h⟩ := bnd19_some h
        refine g_callV [0, 1, 2, 3, 4, 5, 6] [] [0, 1, 2, 3, 4, 5, 6] C mt_X4_53 (c_X4_readLine _ _ _ _ a_t a_t_fresh a_t_fresh_carried a_t_fresh_paces a_t_fresh_speeds a_t_fresh_steps a_t_tape (.int (wI c_fresh_acts)) (g_t_fresh_15) (g_t_fresh_16) c_fault c_place c_length c_kind c_from c_until c_fresh_lines c_fresh_odds c_fresh_parts c_fresh_walkers c_fresh_bands c_fresh_sided c_fresh_sideStand c_fresh_sideWalk c_fresh_sidePace c_fresh_sideWould c_fresh_carried c_fresh_paces c_fresh_speeds c_fresh_steps c_tape F hr20) (q0 := 0) rfl (ci := 4) rfl rfl rfl (ws2 := (W_X4_read (eCy E) a_t a_t_fresh a_t_fresh_carried a_t_fresh_paces a_t_fresh_speeds a_t_fresh_steps a_t_tape g_t_fresh_15 g_t_fresh_16 o1 o2 c_length o3 o4 o5 o6 o7 o8 o9 o10 o11 o12 o13 o14 o15 c_fresh_acts o16 o17 o18 o19 c_tape)) rfl rfl rfl (rest := []) rfl rfl rfl dX4_read_64 ?_
        refine g_iinc C hN dX4_read_67 rfl rfl (L' := [some (.ref a_t), none, some (.int (wI (x2 + 1)))]) rfl ?_
        refine g_goto (tgt := 41) C dX4_read_70 (by decide) ?_
        exact hk41 _ _ _ _ _ _ _ _ _ _ _ _ _ _ _ _ _ _ _ _ h
set_option maxRecDepth 100000 in
set_option maxHeartbeats 4000000 in
theorem wl_X4_read_41 {F : Nat} {v : Int × Int × Int × Int × Int × Int × Int × Int × Int × Int × Int × Int × Int × Int × Int × Int × Int × (Int → Int) × (Int → Int) × (Int → Int) × (Int → Int)} {x2 : Int} {c_fault : Int} {c_place : Int} {c_length : Int} {c_kind : Int} {c_from : Int} {c_until : Int} {c_fresh_lines : Int} {c_fresh_odds : Int} {c_fresh_parts : Int} {c_fresh_walkers : Int} {c_fresh_bands : Int} {c_fresh_sided : Int} {c_fresh_sideStand : Int} {c_fresh_sideWalk : Int} {c_fresh_sidePace : Int} {c_fresh_sideWould : Int} {c_fresh_acts : Int} {c_fresh_carried : Int → Int} {c_fresh_paces : Int → Int} {c_fresh_speeds : Int → Int} {c_fresh_steps : Int → Int} {c_tape : Int → Int} (C : Cx E cX4_read RX4 { frames := 9, cells := 0, slots := 0, locals := 192 }) (hN : eN E = 3) (h : ml_X4_read_41 F x2 c_fault c_place c_length c_kind c_from c_until c_fresh_lines c_fresh_odds c_fresh_parts c_fresh_walkers c_fresh_bands c_fresh_sided c_fresh_sideStand c_fresh_sideWalk c_fresh_sidePace c_fresh_sideWould c_fresh_acts c_fresh_carried c_fresh_paces c_fresh_speeds c_fresh_steps c_tape = some v) (hret : ∀ (pc : Nat) (L : List (Option Value)), decode cX4_read pc = .ok (.return_, 1) → GG E 0 0 (W_X4_read (eCy E) a_t a_t_fresh a_t_fresh_carried a_t_fresh_paces a_t_fresh_speeds a_t_fresh_steps a_t_tape g_t_fresh_15 g_t_fresh_16 (v.1) (v.2.1) (v.2.2.1) (v.2.2.2.1) (v.2.2.2.2.1) (v.2.2.2.2.2.1) (v.2.2.2.2.2.2.1) (v.2.2.2.2.2.2.2.1) (v.2.2.2.2.2.2.2.2.1) (v.2.2.2.2.2.2.2.2.2.1) (v.2.2.2.2.2.2.2.2.2.2.1) (v.2.2.2.2.2.2.2.2.2.2.2.1) (v.2.2.2.2.2.2.2.2.2.2.2.2.1) (v.2.2.2.2.2.2.2.2.2.2.2.2.2.1) (v.2.2.2.2.2.2.2.2.2.2.2.2.2.2.1) (v.2.2.2.2.2.2.2.2.2.2.2.2.2.2.2.1) (v.2.2.2.2.2.2.2.2.2.2.2.2.2.2.2.2.1) (v.2.2.2.2.2.2.2.2.2.2.2.2.2.2.2.2.2.1) (v.2.2.2.2.2.2.2.2.2.2.2.2.2.2.2.2.2.2.1) (v.2.2.2.2.2.2.2.2.2.2.2.2.2.2.2.2.2.2.2.1) (v.2.2.2.2.2.2.2.2.2.2.2.2.2.2.2.2.2.2.2.2) c_tape) L pc []) : GG E 0 0 (W_X4_read (eCy E) a_t a_t_fresh a_t_fresh_carried a_t_fresh_paces a_t_fresh_speeds a_t_fresh_steps a_t_tape g_t_fresh_15 g_t_fresh_16 c_fault c_place c_length c_kind c_from c_until c_fresh_lines c_fresh_odds c_fresh_parts c_fresh_walkers c_fresh_bands c_fresh_sided c_fresh_sideStand c_fresh_sideWalk c_fresh_sidePace c_fresh_sideWould c_fresh_acts c_fresh_carried c_fresh_paces c_fresh_speeds c_fresh_steps c_tape) [some (.ref a_t), none, some (.int (wI x2))] 41 [] := by
  unfold ml_X4_read_41 at h
  exact loop_walk (g := fun (q : Int × Int × Int × Int × Int × Int × Int × Int × Int × Int × Int × Int × Int × Int × Int × Int × (Int → Int) × (Int → Int) × (Int → Int) × (Int → Int)) => GG E 0 0 (W_X4_read (eCy E) a_t a_t_fresh a_t_fresh_carried a_t_fresh_paces a_t_fresh_speeds a_t_fresh_steps a_t_tape g_t_fresh_15 g_t_fresh_16 (q.2.1) (q.2.2.1) c_length (q.2.2.2.1) (q.2.2.2.2.1) (q.2.2.2.2.2.1) (q.2.2.2.2.2.2.1) (q.2.2.2.2.2.2.2.1) (q.2.2.2.2.2.2.2.2.1) (q.2.2.2.2.2.2.2.2.2.1) (q.2.2.2.2.2.2.2.2.2.2.1) (q.2.2.2.2.2.2.2.2.2.2.2.1) (q.2.2.2.2.2.2.2.2.2.2.2.2.1) (q.2.2.2.2.2.2.2.2.2.2.2.2.2.1) (q.2.2.2.2.2.2.2.2.2.2.2.2.2.2.1) (q.2.2.2.2.2.2.2.2.2.2.2.2.2.2.2.1) c_fresh_acts (q.2.2.2.2.2.2.2.2.2.2.2.2.2.2.2.2.1) (q.2.2.2.2.2.2.2.2.2.2.2.2.2.2.2.2.2.1) (q.2.2.2.2.2.2.2.2.2.2.2.2.2.2.2.2.2.2.1) (q.2.2.2.2.2.2.2.2.2.2.2.2.2.2.2.2.2.2.2) c_tape) [some (.ref a_t), none, some (.int (wI (q.1)))] 41 []) (fun k hk q h => wb_X4_read_41 C hN h (fun y0 y1 y2 y3 y4 y5 y6 y7 y8 y9 y10 y11 y12 y13 y14 y15 y16 y17 y18 y19 hh => hk (y0, y1, y2, y3, y4, y5, y6, y7, y8, y9, y10, y11, y12, y13, y14, y15, y16, y17, y18, y19) hh) hret) F (x2, c_fault, c_place, c_kind, c_from, c_until, c_fresh_lines, c_fresh_odds, c_fresh_parts, c_fresh_walkers, c_fresh_bands, c_fresh_sided, c_fresh_sideStand, c_fresh_sideWalk, c_fresh_sidePace, c_fresh_sideWould, c_fresh_carried, c_fresh_paces, c_fresh_speeds, c_fresh_steps) h
set_option maxRecDepth 100000 in
set_option maxHeartbeats 4000000 in
theorem wm_X4_read {F : Nat} {v : Int × Int × Int × Int × Int × Int × Int × Int × Int × Int × Int × Int × Int × Int × Int × Int × Int × (Int → Int) × (Int → Int) × (Int → Int) × (Int → Int)} {x1 : Int} {c_fresh_sideStand : Int} {c_fresh_sideWalk : Int} {c_fresh_sidePace : Int} {c_fresh_sideWould : Int} {c_fresh_carried : Int → Int} {c_fresh_paces : Int → Int} {c_fresh_speeds : Int → Int} {c_fresh_steps : Int → Int} {c_tape : Int → Int} {c_fault : Int} {c_place : Int} {c_length : Int} {c_kind : Int} {c_from : Int} {c_until : Int} {c_fresh_lines : Int} {c_fresh_odds : Int} {c_fresh_parts : Int} {c_fresh_walkers : Int} {c_fresh_bands : Int} {c_fresh_sided : Int} {c_fresh_acts : Int} (C : Cx E cX4_read RX4 { frames := 9, cells := 0, slots := 0, locals := 192 }) (hN : eN E = 3) (h : m_X4_read F x1 c_fresh_sideStand c_fresh_sideWalk c_fresh_sidePace c_fresh_sideWould c_fresh_carried c_fresh_paces c_fresh_speeds c_fresh_steps c_tape = some v) (hret : ∀ (pc : Nat) (L : List (Option Value)), decode cX4_read pc = .ok (.return_, 1) → GG E 0 0 (W_X4_read (eCy E) a_t a_t_fresh a_t_fresh_carried a_t_fresh_paces a_t_fresh_speeds a_t_fresh_steps a_t_tape g_t_fresh_15 g_t_fresh_16 (v.1) (v.2.1) (v.2.2.1) (v.2.2.2.1) (v.2.2.2.2.1) (v.2.2.2.2.2.1) (v.2.2.2.2.2.2.1) (v.2.2.2.2.2.2.2.1) (v.2.2.2.2.2.2.2.2.1) (v.2.2.2.2.2.2.2.2.2.1) (v.2.2.2.2.2.2.2.2.2.2.1) (v.2.2.2.2.2.2.2.2.2.2.2.1) (v.2.2.2.2.2.2.2.2.2.2.2.2.1) (v.2.2.2.2.2.2.2.2.2.2.2.2.2.1) (v.2.2.2.2.2.2.2.2.2.2.2.2.2.2.1) (v.2.2.2.2.2.2.2.2.2.2.2.2.2.2.2.1) (v.2.2.2.2.2.2.2.2.2.2.2.2.2.2.2.2.1) (v.2.2.2.2.2.2.2.2.2.2.2.2.2.2.2.2.2.1) (v.2.2.2.2.2.2.2.2.2.2.2.2.2.2.2.2.2.2.1) (v.2.2.2.2.2.2.2.2.2.2.2.2.2.2.2.2.2.2.2.1) (v.2.2.2.2.2.2.2.2.2.2.2.2.2.2.2.2.2.2.2.2) c_tape) L pc []) : GG E 0 0 (W_X4_read (eCy E) a_t a_t_fresh a_t_fresh_carried a_t_fresh_paces a_t_fresh_speeds a_t_fresh_steps a_t_tape g_t_fresh_15 g_t_fresh_16 c_fault c_place c_length c_kind c_from c_until c_fresh_lines c_fresh_odds c_fresh_parts c_fresh_walkers c_fresh_bands c_fresh_sided c_fresh_sideStand c_fresh_sideWalk c_fresh_sidePace c_fresh_sideWould c_fresh_acts c_fresh_carried c_fresh_paces c_fresh_speeds c_fresh_steps c_tape) [some (.ref a_t), some (.int (wI x1)), none] 0 [] := by
  unfold m_X4_read at h
  refine g_aload_n 0 C dX4_read_0 rfl rfl ?_
  refine g_iload_n 1 C dX4_read_1 rfl rfl ?_
  refine g_aload_n 0 C dX4_read_2 rfl rfl ?_
  refine g_get C fg_X4_18 0 rfl rfl dX4_read_3 ?_
  refine g_alen (N := 900) (t0 := 0) C 6 rfl rfl rfl dX4_read_6 ?_
  refine g_st (st' := [.int (wI 900), .int (wI x1), .ref a_t]) rfl ?_
  obtain ⟨r1, hr2, h⟩ := bnd1_some h
  refine g_callSI [] [0, 1, 2, 3, 4, 5, 6] [0, 1, 2, 3, 4, 5, 6] C mt_X4_41 (c_J9_min_7cf53 _ _ _ _ x1 900 F hr2) rfl rfl (ws2 := (W_X4_read (eCy E) a_t a_t_fresh a_t_fresh_carried a_t_fresh_paces a_t_fresh_speeds a_t_fresh_steps a_t_tape g_t_fresh_15 g_t_fresh_16 c_fault c_place c_length c_kind c_from c_until c_fresh_lines c_fresh_odds c_fresh_parts c_fresh_walkers c_fresh_bands c_fresh_sided c_fresh_sideStand c_fresh_sideWalk c_fresh_sidePace c_fresh_sideWould c_fresh_acts c_fresh_carried c_fresh_paces c_fresh_speeds c_fresh_steps c_tape)) rfl rfl rfl (rest := [.ref a_t]) rfl rfl rfl dX4_read_7 ?_
  refine g_putI C fp_X4_29 0 rfl rfl (ws' := (W_X4_read (eCy E) a_t a_t_fresh a_t_fresh_carried a_t_fresh_paces a_t_fresh_speeds a_t_fresh_steps a_t_tape g_t_fresh_15 g_t_fresh_16 c_fault c_place r1 c_kind c_from c_until c_fresh_lines c_fresh_odds c_fresh_parts c_fresh_walkers c_fresh_bands c_fresh_sided c_fresh_sideStand c_fresh_sideWalk c_fresh_sidePace c_fresh_sideWould c_fresh_acts c_fresh_carried c_fresh_paces c_fresh_speeds c_fresh_steps c_tape)) rfl dX4_read_10 ?_
  refine g_aload_n 0 C dX4_read_13 rfl rfl ?_
  refine g_get C fg_X4_25 0 rfl rfl dX4_read_14 ?_
  obtain ⟨o3, o4, o5, o6, o7, o8, o9, hr10, h⟩ := bnd7_some h
  refine g_callV [1] [0, 2, 3, 4, 5, 6] [0, 6, 1, 2, 3, 4, 5] C mt_X4_47 (c_X2_clear _ _ _ _ a_t_fresh (.ref a_t_fresh_steps) (.ref a_t_fresh_speeds) (.ref a_t_fresh_paces) (.ref a_t_fresh_carried) (.int (wI c_fresh_sideStand)) (.int (wI c_fresh_sideWalk)) (.int (wI c_fresh_sidePace)) (.int (wI c_fresh_sideWould)) (g_t_fresh_15) (g_t_fresh_16) c_fresh_lines c_fresh_odds c_fresh_parts c_fresh_walkers c_fresh_bands c_fresh_sided c_fresh_acts F hr10) (q0 := 0) rfl (ci := 2) rfl rfl rfl (ws2 := (W_X4_read (eCy E) a_t a_t_fresh a_t_fresh_carried a_t_fresh_paces a_t_fresh_speeds a_t_fresh_steps a_t_tape g_t_fresh_15 g_t_fresh_16 c_fault c_place r1 c_kind c_from c_until o3 o4 o5 o6 o7 o8 c_fresh_sideStand c_fresh_sideWalk c_fresh_sidePace c_fresh_sideWould o9 c_fresh_carried c_fresh_paces c_fresh_speeds c_fresh_steps c_tape)) rfl rfl rfl (rest := []) rfl rfl rfl dX4_read_17 ?_
  refine g_aload_n 0 C dX4_read_20 rfl rfl ?_
  refine g_iconst C dX4_read_21 ?_
  refine g_putI C fp_X4_9 0 rfl rfl (ws' := (W_X4_read (eCy E) a_t a_t_fresh a_t_fresh_carried a_t_fresh_paces a_t_fresh_speeds a_t_fresh_steps a_t_tape g_t_fresh_15 g_t_fresh_16 0 c_place r1 c_kind c_from c_until o3 o4 o5 o6 o7 o8 c_fresh_sideStand c_fresh_sideWalk c_fresh_sidePace c_fresh_sideWould o9 c_fresh_carried c_fresh_paces c_fresh_speeds c_fresh_steps c_tape)) rfl dX4_read_22 ?_
  refine g_aload_n 0 C dX4_read_25 rfl rfl ?_
  refine g_iconst C dX4_read_26 ?_
  refine g_putI C fp_X4_15 0 rfl rfl (ws' := (W_X4_read (eCy E) a_t a_t_fresh a_t_fresh_carried a_t_fresh_paces a_t_fresh_speeds a_t_fresh_steps a_t_tape g_t_fresh_15 g_t_fresh_16 0 (-1) r1 c_kind c_from c_until o3 o4 o5 o6 o7 o8 c_fresh_sideStand c_fresh_sideWalk c_fresh_sidePace c_fresh_sideWould o9 c_fresh_carried c_fresh_paces c_fresh_speeds c_fresh_steps c_tape)) rfl dX4_read_27 ?_
  refine g_aload_n 0 C dX4_read_30 rfl rfl ?_
  refine g_iconst C dX4_read_31 ?_
  refine g_putI C fp_X4_38 0 rfl rfl (ws' := (W_X4_read (eCy E) a_t a_t_fresh a_t_fresh_carried a_t_fresh_paces a_t_fresh_speeds a_t_fresh_steps a_t_tape g_t_fresh_15 g_t_fresh_16 0 (-1) r1 c_kind c_from 0 o3 o4 o5 o6 o7 o8 c_fresh_sideStand c_fresh_sideWalk c_fresh_sidePace c_fresh_sideWould o9 c_fresh_carried c_fresh_paces c_fresh_speeds c_fresh_steps c_tape)) rfl dX4_read_32 ?_
  refine g_aload_n 0 C dX4_read_35 rfl rfl ?_
  obtain ⟨o11, o12, o13, hr14, h⟩ := bnd3_some h
  refine g_callV [0, 6] [1, 2, 3, 4, 5] [5, 0, 1, 2, 3, 4, 6] C mt_X4_50 (c_X4_advance _ _ _ _ a_t a_t_tape (.int (wI 0)) (.int (wI (-1))) (.ref a_t_fresh) r1 c_kind c_from 0 c_tape F hr14) (q0 := 0) rfl (ci := 4) rfl rfl rfl (ws2 := (W_X4_read (eCy E) a_t a_t_fresh a_t_fresh_carried a_t_fresh_paces a_t_fresh_speeds a_t_fresh_steps a_t_tape g_t_fresh_15 g_t_fresh_16 0 (-1) r1 o11 o12 o13 o3 o4 o5 o6 o7 o8 c_fresh_sideStand c_fresh_sideWalk c_fresh_sidePace c_fresh_sideWould o9 c_fresh_carried c_fresh_paces c_fresh_speeds c_fresh_steps c_tape)) rfl rfl rfl (rest := []) rfl rfl rfl dX4_read_36 ?_
  refine g_iconst C dX4_read_39 ?_
  refine g_istore_n 2 C hN dX4_read_40 rfl rfl (L' := [some (.ref a_t), some (.int (wI x1)), some (.int (wI 0))]) rfl ?_
  refine g_mask [true, false, true] (L' := [some (.ref a_t), none, some (.int (wI 0))]) rfl ?_
  exact wl_X4_read_41 C hN h hret
end S_X4_read
set_option maxRecDepth 100000 in
set_option maxHeartbeats 4000000 in
theorem c_X4_read (l : Launch) (D : va_G) (cy : Nat → ClassId) (ad : AD) (a_t a_t_fresh a_t_fresh_carried a_t_fresh_paces a_t_fresh_speeds a_t_fresh_steps a_t_tape : Nat) (g_t_fresh_15 : Value) (g_t_fresh_16 : Value) (x1 : Int) (c_fault : Int) (c_place : Int) (c_length : Int) (c_kind : Int) (c_from : Int) (c_until : Int) (c_fresh_lines : Int) (c_fresh_odds : Int) (c_fresh_parts : Int) (c_fresh_walkers : Int) (c_fresh_bands : Int) (c_fresh_sided : Int) (c_fresh_sideStand : Int) (c_fresh_sideWalk : Int) (c_fresh_sidePace : Int) (c_fresh_sideWould : Int) (c_fresh_acts : Int) (c_fresh_carried : Int → Int) (c_fresh_paces : Int → Int) (c_fresh_speeds : Int → Int) (c_fresh_steps : Int → Int) (c_tape : Int → Int) (F : Nat) {v : Int × Int × Int × Int × Int × Int × Int × Int × Int × Int × Int × Int × Int × Int × Int × Int × Int × (Int → Int) × (Int → Int) × (Int → Int) × (Int → Int)} (h : m_X4_read F x1 c_fresh_sideStand c_fresh_sideWalk c_fresh_sidePace c_fresh_sideWould c_fresh_carried c_fresh_paces c_fresh_speeds c_fresh_steps c_tape = some v) : Ct l yX4_read cX4_read 3 none { frames := 9, cells := 0, slots := 0, locals := 192 } D cy ad [.ref a_t, .int (wI x1)] (W_X4_read cy a_t a_t_fresh a_t_fresh_carried a_t_fresh_paces a_t_fresh_speeds a_t_fresh_steps a_t_tape g_t_fresh_15 g_t_fresh_16 c_fault c_place c_length c_kind c_from c_until c_fresh_lines c_fresh_odds c_fresh_parts c_fresh_walkers c_fresh_bands c_fresh_sided c_fresh_sideStand c_fresh_sideWalk c_fresh_sidePace c_fresh_sideWould c_fresh_acts c_fresh_carried c_fresh_paces c_fresh_speeds c_fresh_steps c_tape) (W_X4_read cy a_t a_t_fresh a_t_fresh_carried a_t_fresh_paces a_t_fresh_speeds a_t_fresh_steps a_t_tape g_t_fresh_15 g_t_fresh_16 (v.1) (v.2.1) (v.2.2.1) (v.2.2.2.1) (v.2.2.2.2.1) (v.2.2.2.2.2.1) (v.2.2.2.2.2.2.1) (v.2.2.2.2.2.2.2.1) (v.2.2.2.2.2.2.2.2.1) (v.2.2.2.2.2.2.2.2.2.1) (v.2.2.2.2.2.2.2.2.2.2.1) (v.2.2.2.2.2.2.2.2.2.2.2.1) (v.2.2.2.2.2.2.2.2.2.2.2.2.1) (v.2.2.2.2.2.2.2.2.2.2.2.2.2.1) (v.2.2.2.2.2.2.2.2.2.2.2.2.2.2.1) (v.2.2.2.2.2.2.2.2.2.2.2.2.2.2.2.1) (v.2.2.2.2.2.2.2.2.2.2.2.2.2.2.2.2.1) (v.2.2.2.2.2.2.2.2.2.2.2.2.2.2.2.2.2.1) (v.2.2.2.2.2.2.2.2.2.2.2.2.2.2.2.2.2.2.1) (v.2.2.2.2.2.2.2.2.2.2.2.2.2.2.2.2.2.2.2.1) (v.2.2.2.2.2.2.2.2.2.2.2.2.2.2.2.2.2.2.2.2) c_tape) none := by
  refine Ct.introV (j := 1) (plainFor_of_name (by decide)) rfl rfl (fun E C e1 e2 e3 e4 e5 hret => ?_)
  subst e1; subst e2; subst e3; subst e4
  exact wm_X4_read C e5 h hret
-- MovingStair$Travel.addTimes(LMovingStair$Layout;IIII)Z
def W_X6_addTimes (cy : Nat → ClassId) (a_t a_p1 a_p1_speeds a_p1_steps a_t_sum : Nat) (g_t_1 : Value) (g_t_2 : Value) (g_p1_0 : Value) (g_p1_1 : Value) (g_p1_5 : Value) (g_p1_6 : Value) (g_p1_7 : Value) (g_p1_8 : Value) (g_p1_9 : Value) (g_p1_10 : Value) (g_p1_11 : Value) (g_p1_12 : Value) (g_p1_13 : Value) (g_p1_14 : Value) (g_p1_15 : Value) (g_p1_16 : Value) (c_p1_parts : Int) (c_p1_speeds : Int → Int) (c_p1_steps : Int → Int) (c_sum_above : Int) (c_sum_below : Int) : va_W := [(a_t, .inr (6, [.ref a_t_sum, g_t_1, g_t_2])), (a_p1, .inr (2, [g_p1_0, g_p1_1, .int (wI c_p1_parts), .ref a_p1_steps, .ref a_p1_speeds, g_p1_5, g_p1_6, g_p1_7, g_p1_8, g_p1_9, g_p1_10, g_p1_11, g_p1_12, g_p1_13, g_p1_14, g_p1_15, g_p1_16])), (a_p1_speeds, .inl (cy 1, 4, .inl (aI c_p1_speeds))), (a_p1_steps, .inl (cy 1, 4, .inl (aI c_p1_steps))), (a_t_sum, .inr (1, [.long (wJ c_sum_above), .long (wJ c_sum_below)]))]
def mb_X6_addTimes_42 (F : Nat) (k4 : Int → Int → Int → Option (Int × Int × Int)) (x2 : Int) (x3 : Int) (x5 : Int) (x6 : Int) (s0 : Int) (s1 : Int) (c_p1_parts : Int) (c_p1_speeds : Int → Int) (c_p1_steps : Int → Int) (c_sum_above : Int) (c_sum_below : Int) : Option (Int × Int × Int) :=
  nam (s0 + s1) fun y1 => if wI 0 < wI y1 then
    (chk (0 ≤ x6 ∧ x6 < 4) <| chk (r32 (c_p1_steps x6)) <| chk (r32 y1) <| bnd2 (m_X1_add F (c_p1_steps x6) y1 c_sum_above c_sum_below) fun o5 o6 => k4 (x6 + 1) o5 o6)
  else
    (some (0, c_sum_above, c_sum_below))
def mb_X6_addTimes_4 (F : Nat) (k4 : Int → Int → Int → Option (Int × Int × Int)) (x2 : Int) (x3 : Int) (x5 : Int) (x6 : Int) (c_p1_parts : Int) (c_p1_speeds : Int → Int) (c_p1_steps : Int → Int) (c_sum_above : Int) (c_sum_below : Int) : Option (Int × Int × Int) :=
  if wI x5 ≤ wI x6 then
    (some (1, c_sum_above, c_sum_below))
  else
    (if wI c_p1_parts ≤ wI x6 then
    (some (1, c_sum_above, c_sum_below))
  else
    (if wI (andI (shrI x3 x6) 1) = wI 1 then
    (mb_X6_addTimes_42 F k4 x2 x3 x5 x6 x2 0 c_p1_parts c_p1_speeds c_p1_steps c_sum_above c_sum_below)
  else
    (chk (0 ≤ x6 ∧ x6 < 4) <| mb_X6_addTimes_42 F k4 x2 x3 x5 x6 x2 (c_p1_speeds x6) c_p1_parts c_p1_speeds c_p1_steps c_sum_above c_sum_below)))
def ml_X6_addTimes_4 (F : Nat) (x2 : Int) (x3 : Int) (x5 : Int) (x6 : Int) (c_p1_parts : Int) (c_p1_speeds : Int → Int) (c_p1_steps : Int → Int) (c_sum_above : Int) (c_sum_below : Int) : Option (Int × Int × Int) :=
  loopN (fun (k : Int × Int × Int → Option (Int × Int × Int)) q => mb_X6_addTimes_4 F (fun y0 y1 y2 => k (y0, y1, y2)) x2 x3 x5 q.1 c_p1_parts c_p1_speeds c_p1_steps q.2.1 q.2.2) F (x6, c_sum_above, c_sum_below)
def m_X6_addTimes (F : Nat) (x2 : Int) (x3 : Int) (x4 : Int) (x5 : Int) (c_p1_parts : Int) (c_p1_speeds : Int → Int) (c_p1_steps : Int → Int) (c_sum_above : Int) (c_sum_below : Int) : Option (Int × Int × Int) :=
  ml_X6_addTimes_4 F x2 x3 x5 x4 c_p1_parts c_p1_speeds c_p1_steps c_sum_above c_sum_below
section S_X6_addTimes
variable {E : EE} {a_t a_p1 a_p1_speeds a_p1_steps a_t_sum : Nat} {g_t_1 : Value} {g_t_2 : Value} {g_p1_0 : Value} {g_p1_1 : Value} {g_p1_5 : Value} {g_p1_6 : Value} {g_p1_7 : Value} {g_p1_8 : Value} {g_p1_9 : Value} {g_p1_10 : Value} {g_p1_11 : Value} {g_p1_12 : Value} {g_p1_13 : Value} {g_p1_14 : Value} {g_p1_15 : Value} {g_p1_16 : Value}
set_option maxRecDepth 100000 in
set_option maxHeartbeats 4000000 in
theorem wb_X6_addTimes_42 {F : Nat} {k4 : Int → Int → Int → Option (Int × Int × Int)} {v : Int × Int × Int} {x2 : Int} {x3 : Int} {x5 : Int} {x6 : Int} {s0 : Int} {s1 : Int} {c_p1_parts : Int} {c_p1_speeds : Int → Int} {c_p1_steps : Int → Int} {c_sum_above : Int} {c_sum_below : Int} (C : Cx E cX6_addTimes RX6 { frames := 2, cells := 0, slots := 0, locals := 55 }) (hN : eN E = 8) (h : mb_X6_addTimes_42 F k4 x2 x3 x5 x6 s0 s1 c_p1_parts c_p1_speeds c_p1_steps c_sum_above c_sum_below = some v) (hk4 : ∀ (y_x6 : Int) (y_c_sum_above : Int) (y_c_sum_below : Int), k4 y_x6 y_c_sum_above y_c_sum_below = some v → GG E 0 0 (W_X6_addTimes (eCy E) a_t a_p1 a_p1_speeds a_p1_steps a_t_sum g_t_1 g_t_2 g_p1_0 g_p1_1 g_p1_5 g_p1_6 g_p1_7 g_p1_8 g_p1_9 g_p1_10 g_p1_11 g_p1_12 g_p1_13 g_p1_14 g_p1_15 g_p1_16 c_p1_parts c_p1_speeds c_p1_steps y_c_sum_above y_c_sum_below) [some (.ref a_t), some (.ref a_p1), some (.int (wI x2)), some (.int (wI x3)), none, some (.int (wI x5)), some (.int (wI y_x6)), none] 4 []) (hret : ∀ (pc : Nat) (L : List (Option Value)), narrow .boolean (.int (wI (v.1))) = .int (wI (v.1)) → decode cX6_addTimes pc = .ok (.ireturn, 1) → GG E 0 0 (W_X6_addTimes (eCy E) a_t a_p1 a_p1_speeds a_p1_steps a_t_sum g_t_1 g_t_2 g_p1_0 g_p1_1 g_p1_5 g_p1_6 g_p1_7 g_p1_8 g_p1_9 g_p1_10 g_p1_11 g_p1_12 g_p1_13 g_p1_14 g_p1_15 g_p1_16 c_p1_parts c_p1_speeds c_p1_steps (v.2.1) (v.2.2)) L pc [.int (wI (v.1))]) : GG E 0 0 (W_X6_addTimes (eCy E) a_t a_p1 a_p1_speeds a_p1_steps a_t_sum g_t_1 g_t_2 g_p1_0 g_p1_1 g_p1_5 g_p1_6 g_p1_7 g_p1_8 g_p1_9 g_p1_10 g_p1_11 g_p1_12 g_p1_13 g_p1_14 g_p1_15 g_p1_16 c_p1_parts c_p1_speeds c_p1_steps c_sum_above c_sum_below) [some (.ref a_t), some (.ref a_p1), some (.int (wI x2)), some (.int (wI x3)), none, some (.int (wI x5)), some (.int (wI x6)), none] 42 [.int (wI s1), .int (wI s0)] := by
  unfold mb_X6_addTimes_42 at h
  refine g_iadd C dX6_addTimes_42 ?_
  obtain ⟨y1, e_y1, h⟩ := nam_some h
  refine g_topI e_y1 ?_
  refine g_istore C hN dX6_addTimes_43 rfl (L' := [some (.ref a_t), some (.ref a_p1), some (.int (wI x2)), some (.int (wI x3)), none, some (.int (wI x5)), some (.int (wI x6)), some (.int (wI y1))]) rfl ?_
  refine g_iload C dX6_addTimes_45 rfl ?_
  refine g_if_gt 52 C dX6_addTimes_47 (by decide) h (fun h => ?_) (fun h => ?_)
  · refine g_aload_n 0 C dX6_addTimes_52 rfl rfl ?_
    refine g_get C fg_X6_12 0 rfl rfl dX6_addTimes_53 ?_
    refine g_aload_n 1 C dX6_addTimes_56 rfl rfl ?_
    refine g_get C fg_X6_42 1 rfl rfl dX6_addTimes_57 ?_
    refine g_iload C dX6_addTimes_60 rfl ?_
    obtain ⟨hc2, h⟩ := chk_some h
    refine g_iald C 3 rfl hc2 rfl dX6_addTimes_62 ?_
    obtain ⟨hc3, h⟩ := chk_some h
    refine g_i2l C dX6_addTimes_63 hc3 ?_
    refine g_iload C dX6_addTimes_64 rfl ?_
    obtain ⟨hc4, h⟩ := chk_some h
    refine g_i2l C dX6_addTimes_66 hc4 ?_
    obtain ⟨o5, o6, hr7, h⟩ := bnd2_some h
    refine g_callV [4] [0, 1, 2, 3] [0, 1, 2, 3, 4] C mt_X6_45 (c_X1_add _ _ _ _ a_t_sum (c_p1_steps x6) y1 c_sum_above c_sum_below F hr7) (q0 := 0) rfl (ci := 1) rfl rfl rfl (ws2 := (W_X6_addTimes (eCy E) a_t a_p1 a_p1_speeds a_p1_steps a_t_sum g_t_1 g_t_2 g_p1_0 g_p1_1 g_p1_5 g_p1_6 g_p1_7 g_p1_8 g_p1_9 g_p1_10 g_p1_11 g_p1_12 g_p1_13 g_p1_14 g_p1_15 g_p1_16 c_p1_parts c_p1_speeds c_p1_steps o5 o6)) rfl rfl rfl (rest := []) rfl rfl rfl dX6_addTimes_67 ?_
    refine g_iinc C hN dX6_addTimes_70 rfl rfl (L' := [some (.ref a_t), some (.ref a_p1), some (.int (wI x2)), some (.int (wI x3)), none, some (.int (wI x5)), some (.int (wI (x6 + 1))), some (.int (wI y1))]) rfl ?_
    refine g_goto (tgt := 4) C dX6_addTimes_73 (by decide) ?_
    refine g_mask [true, true, true, true, false, true, true, false] (L' := [some (.ref a_t), some (.ref a_p1), some (.int (wI x2)), some (.int (wI x3)), none, some (.int (wI x5)), some (.int (wI (x6 + 1))), none]) rfl ?_
    exact hk4 _ _ _ h
  · refine g_iconst C dX6_addTimes_50 ?_
    cases h
    exact hret 51 _ bn0 dX6_addTimes_51
set_option maxRecDepth 100000 in
set_option maxHeartbeats 4000000 in
theorem wb_X6_addTimes_4 {F : Nat} {k4 : Int → Int → Int → Option (Int × Int × Int)} {v : Int × Int × Int} {x2 : Int} {x3 : Int} {x5 : Int} {x6 : Int} {c_p1_parts : Int} {c_p1_speeds : Int → Int} {c_p1_steps : Int → Int} {c_sum_above : Int} {c_sum_below : Int} (C : Cx E cX6_addTimes RX6 { frames := 2, cells := 0, slots := 0, locals := 55 }) (hN : eN E = 8) (h : mb_X6_addTimes_4 F k4 x2 x3 x5 x6 c_p1_parts c_p1_speeds c_p1_steps c_sum_above c_sum_below = some v) (hk4 : ∀ (y_x6 : Int) (y_c_sum_above : Int) (y_c_sum_below : Int), k4 y_x6 y_c_sum_above y_c_sum_below = some v → GG E 0 0 (W_X6_addTimes (eCy E) a_t a_p1 a_p1_speeds a_p1_steps a_t_sum g_t_1 g_t_2 g_p1_0 g_p1_1 g_p1_5 g_p1_6 g_p1_7 g_p1_8 g_p1_9 g_p1_10 g_p1_11 g_p1_12 g_p1_13 g_p1_14 g_p1_15 g_p1_16 c_p1_parts c_p1_speeds c_p1_steps y_c_sum_above y_c_sum_below) [some (.ref a_t), some (.ref a_p1), some (.int (wI x2)), some (.int (wI x3)), none, some (.int (wI x5)), some (.int (wI y_x6)), none] 4 []) (hret : ∀ (pc : Nat) (L : List (Option Value)), narrow .boolean (.int (wI (v.1))) = .int (wI (v.1)) → decode cX6_addTimes pc = .ok (.ireturn, 1) → GG E 0 0 (W_X6_addTimes (eCy E) a_t a_p1 a_p1_speeds a_p1_steps a_t_sum g_t_1 g_t_2 g_p1_0 g_p1_1 g_p1_5 g_p1_6 g_p1_7 g_p1_8 g_p1_9 g_p1_10 g_p1_11 g_p1_12 g_p1_13 g_p1_14 g_p1_15 g_p1_16 c_p1_parts c_p1_speeds c_p1_steps (v.2.1) (v.2.2)) L pc [.int (wI (v.1))]) : GG E 0 0 (W_X6_addTimes (eCy E) a_t a_p1 a_p1_speeds a_p1_steps a_t_sum g_t_1 g_t_2 g_p1_0 g_p1_1 g_p1_5 g_p1_6 g_p1_7 g_p1_8 g_p1_9 g_p1_10 g_p1_11 g_p1_12 g_p1_13 g_p1_14 g_p1_15 g_p1_16 c_p1_parts c_p1_speeds c_p1_steps c_sum_above c_sum_below) [some (.ref a_t), some (.ref a_p1), some (.int (wI x2)), some (.int (wI x3)), none, some (.int (wI x5)), some (.int (wI x6)), none] 4 [] := by
  unfold mb_X6_addTimes_4 at h
  refine g_iload C dX6_addTimes_4 rfl ?_
  refine g_iload C dX6_addTimes_6 rfl ?_
  refine g_icmp_ge 76 C dX6_addTimes_8 (by decide) h (fun h => ?_) (fun h => ?_)
  · refine g_iconst C dX6_addTimes_76 ?_
    cases h
    exact hret 77 _ bn1 dX6_addTimes_77
  · refine g_iload C dX6_addTimes_11 rfl ?_
    refine g_aload_n 1 C dX6_addTimes_13 rfl rfl ?_
    refine g_get C fg_X6_28 1 rfl rfl dX6_addTimes_14 ?_
    refine g_st (st' := [.int (wI c_p1_parts), .int (wI x6)]) rfl ?_
    refine g_icmp_ge 76 C dX6_addTimes_17 (by decide) h (fun h => ?_) (fun h => ?_)
    · refine g_iconst C dX6_addTimes_76 ?_
      cases h
      exact hret 77 _ bn1 dX6_addTimes_77
    · refine g_iload_n 2 C dX6_addTimes_20 rfl rfl ?_
      refine g_iload_n 3 C dX6_addTimes_21 rfl rfl ?_
      refine g_iload C dX6_addTimes_22 rfl ?_
      refine g_ishr C dX6_addTimes_24 ?_
      refine g_iconst C dX6_addTimes_25 ?_
      refine g_iand C dX6_addTimes_26 ?_
      refine g_iconst C dX6_addTimes_27 ?_
      refine g_icmp_ne 35 C dX6_addTimes_28 (by decide) h (fun h => ?_) (fun h => ?_)
      · refine g_aload_n 1 C dX6_addTimes_35 rfl rfl ?_
        refine g_get C fg_X6_38 1 rfl rfl dX6_addTimes_36 ?_
        refine g_iload C dX6_addTimes_39 rfl ?_
        obtain ⟨hc1, h⟩ := chk_some h
        refine g_iald C 2 rfl hc1 rfl dX6_addTimes_41 ?_
        exact wb_X6_addTimes_42 C hN h hk4 hret
      · refine g_iconst C dX6_addTimes_31 ?_
        refine g_goto (tgt := 42) C dX6_addTimes_32 (by decide) ?_
        exact wb_X6_addTimes_42 C hN h hk4 hret
set_option maxRecDepth 100000 in
set_option maxHeartbeats 4000000 in
theorem wl_X6_addTimes_4 {F : Nat} {v : Int × Int × Int} {x2 : Int} {x3 : Int} {x5 : Int} {x6 : Int} {c_p1_parts : Int} {c_p1_speeds : Int → Int} {c_p1_steps : Int → Int} {c_sum_above : Int} {c_sum_below : Int} (C : Cx E cX6_addTimes RX6 { frames := 2, cells := 0, slots := 0, locals := 55 }) (hN : eN E = 8) (h : ml_X6_addTimes_4 F x2 x3 x5 x6 c_p1_parts c_p1_speeds c_p1_steps c_sum_above c_sum_below = some v) (hret : ∀ (pc : Nat) (L : List (Option Value)), narrow .boolean (.int (wI (v.1))) = .int (wI (v.1)) → decode cX6_addTimes pc = .ok (.ireturn, 1) → GG E 0 0 (W_X6_addTimes (eCy E) a_t a_p1 a_p1_speeds a_p1_steps a_t_sum g_t_1 g_t_2 g_p1_0 g_p1_1 g_p1_5 g_p1_6 g_p1_7 g_p1_8 g_p1_9 g_p1_10 g_p1_11 g_p1_12 g_p1_13 g_p1_14 g_p1_15 g_p1_16 c_p1_parts c_p1_speeds c_p1_steps (v.2.1) (v.2.2)) L pc [.int (wI (v.1))]) : GG E 0 0 (W_X6_addTimes (eCy E) a_t a_p1 a_p1_speeds a_p1_steps a_t_sum g_t_1 g_t_2 g_p1_0 g_p1_1 g_p1_5 g_p1_6 g_p1_7 g_p1_8 g_p1_9 g_p1_10 g_p1_11 g_p1_12 g_p1_13 g_p1_14 g_p1_15 g_p1_16 c_p1_parts c_p1_speeds c_p1_steps c_sum_above c_sum_below) [some (.ref a_t), some (.ref a_p1), some (.int (wI x2)), some (.int (wI x3)), none, some (.int (wI x5)), some (.int (wI x6)), none] 4 [] := by
  unfold ml_X6_addTimes_4 at h
  exact loop_walk (g := fun (q : Int × Int × Int) => GG E 0 0 (W_X6_addTimes (eCy E) a_t a_p1 a_p1_speeds a_p1_steps a_t_sum g_t_1 g_t_2 g_p1_0 g_p1_1 g_p1_5 g_p1_6 g_p1_7 g_p1_8 g_p1_9 g_p1_10 g_p1_11 g_p1_12 g_p1_13 g_p1_14 g_p1_15 g_p1_16 c_p1_parts c_p1_speeds c_p1_steps (q.2.1) (q.2.2)) [some (.ref a_t), some (.ref a_p1), some (.int (wI x2)), some (.int (wI x3)), none, some (.int (wI x5)), some (.int (wI (q.1))), none] 4 []) (fun k hk q h => wb_X6_addTimes_4 C hN h (fun y0 y1 y2 hh => hk (y0, y1, y2) hh) hret) F (x6, c_sum_above, c_sum_below) h
set_option maxRecDepth 100000 in
set_option maxHeartbeats 4000000 in
theorem wm_X6_addTimes {F : Nat} {v : Int × Int × Int} {x2 : Int} {x3 : Int} {x4 : Int} {x5 : Int} {c_p1_parts : Int} {c_p1_speeds : Int → Int} {c_p1_steps : Int → Int} {c_sum_above : Int} {c_sum_below : Int} (C : Cx E cX6_addTimes RX6 { frames := 2, cells := 0, slots := 0, locals := 55 }) (hN : eN E = 8) (h : m_X6_addTimes F x2 x3 x4 x5 c_p1_parts c_p1_speeds c_p1_steps c_sum_above c_sum_below = some v) (hret : ∀ (pc : Nat) (L : List (Option Value)), narrow .boolean (.int (wI (v.1))) = .int (wI (v.1)) → decode cX6_addTimes pc = .ok (.ireturn, 1) → GG E 0 0 (W_X6_addTimes (eCy E) a_t a_p1 a_p1_speeds a_p1_steps a_t_sum g_t_1 g_t_2 g_p1_0 g_p1_1 g_p1_5 g_p1_6 g_p1_7 g_p1_8 g_p1_9 g_p1_10 g_p1_11 g_p1_12 g_p1_13 g_p1_14 g_p1_15 g_p1_16 c_p1_parts c_p1_speeds c_p1_steps (v.2.1) (v.2.2)) L pc [.int (wI (v.1))]) : GG E 0 0 (W_X6_addTimes (eCy E) a_t a_p1 a_p1_speeds a_p1_steps a_t_sum g_t_1 g_t_2 g_p1_0 g_p1_1 g_p1_5 g_p1_6 g_p1_7 g_p1_8 g_p1_9 g_p1_10 g_p1_11 g_p1_12 g_p1_13 g_p1_14 g_p1_15 g_p1_16 c_p1_parts c_p1_speeds c_p1_steps c_sum_above c_sum_below) [some (.ref a_t), some (.ref a_p1), some (.int (wI x2)), some (.int (wI x3)), some (.int (wI x4)), some (.int (wI x5)), none, none] 0 [] := by
  unfold m_X6_addTimes at h
  refine g_iload C dX6_addTimes_0 rfl ?_
  refine g_istore C hN dX6_addTimes_2 rfl (L' := [some (.ref a_t), some (.ref a_p1), some (.int (wI x2)), some (.int (wI x3)), some (.int (wI x4)), some (.int (wI x5)), some (.int (wI x4)), none]) rfl ?_
  refine g_mask [true, true, true, true, false, true, true, false] (L' := [some (.ref a_t), some (.ref a_p1), some (.int (wI x2)), some (.int (wI x3)), none, some (.int (wI x5)), some (.int (wI x4)), none]) rfl ?_
  exact wl_X6_addTimes_4 C hN h hret
end S_X6_addTimes
set_option maxRecDepth 100000 in
set_option maxHeartbeats 4000000 in
theorem c_X6_addTimes (l : Launch) (D : va_G) (cy : Nat → ClassId) (ad : AD) (a_t a_p1 a_p1_speeds a_p1_steps a_t_sum : Nat) (g_t_1 : Value) (g_t_2 : Value) (g_p1_0 : Value) (g_p1_1 : Value) (g_p1_5 : Value) (g_p1_6 : Value) (g_p1_7 : Value) (g_p1_8 : Value) (g_p1_9 : Value) (g_p1_10 : Value) (g_p1_11 : Value) (g_p1_12 : Value) (g_p1_13 : Value) (g_p1_14 : Value) (g_p1_15 : Value) (g_p1_16 : Value) (x2 : Int) (x3 : Int) (x4 : Int) (x5 : Int) (c_p1_parts : Int) (c_p1_speeds : Int → Int) (c_p1_steps : Int → Int) (c_sum_above : Int) (c_sum_below : Int) (F : Nat) {v : Int × Int × Int} (h : m_X6_addTimes F x2 x3 x4 x5 c_p1_parts c_p1_speeds c_p1_steps c_sum_above c_sum_below = some v) : Ct l yX6_addTimes cX6_addTimes 8 (some .boolean) { frames := 2, cells := 0, slots := 0, locals := 55 } D cy ad [.ref a_t, .ref a_p1, .int (wI x2), .int (wI x3), .int (wI x4), .int (wI x5)] (W_X6_addTimes cy a_t a_p1 a_p1_speeds a_p1_steps a_t_sum g_t_1 g_t_2 g_p1_0 g_p1_1 g_p1_5 g_p1_6 g_p1_7 g_p1_8 g_p1_9 g_p1_10 g_p1_11 g_p1_12 g_p1_13 g_p1_14 g_p1_15 g_p1_16 c_p1_parts c_p1_speeds c_p1_steps c_sum_above c_sum_below) (W_X6_addTimes cy a_t a_p1 a_p1_speeds a_p1_steps a_t_sum g_t_1 g_t_2 g_p1_0 g_p1_1 g_p1_5 g_p1_6 g_p1_7 g_p1_8 g_p1_9 g_p1_10 g_p1_11 g_p1_12 g_p1_13 g_p1_14 g_p1_15 g_p1_16 c_p1_parts c_p1_speeds c_p1_steps (v.2.1) (v.2.2)) (some (.int (wI (v.1)))) := by
  refine Ct.introZ (j := 2) (plainFor_of_name (by decide)) rfl rfl (fun E C e1 e2 e3 e4 e5 hret => ?_)
  subst e1; subst e2; subst e3; subst e4
  exact wm_X6_addTimes C e5 h hret
-- MovingStair$Travel.crosses(LMovingStair$Layout;II)Z
def W_X6_crosses (cy : Nat → ClassId) (a_t a_p1 a_p1_speeds a_p1_steps a_t_sum : Nat) (g_t_1 : Value) (g_t_2 : Value) (g_p1_0 : Value) (g_p1_1 : Value) (g_p1_5 : Value) (g_p1_6 : Value) (g_p1_7 : Value) (g_p1_8 : Value) (g_p1_9 : Value) (g_p1_10 : Value) (g_p1_11 : Value) (g_p1_12 : Value) (g_p1_13 : Value) (g_p1_14 : Value) (g_p1_15 : Value) (g_p1_16 : Value) (c_p1_parts : Int) (c_p1_speeds : Int → Int) (c_p1_steps : Int → Int) (c_sum_above : Int) (c_sum_below : Int) : va_W := [(a_t, .inr (6, [.ref a_t_sum, g_t_1, g_t_2])), (a_p1, .inr (2, [g_p1_0, g_p1_1, .int (wI c_p1_parts), .ref a_p1_steps, .ref a_p1_speeds, g_p1_5, g_p1_6, g_p1_7, g_p1_8, g_p1_9, g_p1_10, g_p1_11, g_p1_12, g_p1_13, g_p1_14, g_p1_15, g_p1_16])), (a_p1_speeds, .inl (cy 1, 4, .inl (aI c_p1_speeds))), (a_p1_steps, .inl (cy 1, 4, .inl (aI c_p1_steps))), (a_t_sum, .inr (1, [.long (wJ c_sum_above), .long (wJ c_sum_below)]))]
def m_X6_crosses (F : Nat) (x2 : Int) (x3 : Int) (c_p1_parts : Int) (c_p1_speeds : Int → Int) (c_p1_steps : Int → Int) : Option (Int × Int × Int) :=
  bnd2 (m_X1_put F 0 1) fun o1 o2 => bnd3 (m_X6_addTimes F x2 x3 0 c_p1_parts c_p1_parts c_p1_speeds c_p1_steps o1 o2) fun r4 o5 o6 => chk (r4 = 0 ∨ r4 = 1) <| some (r4, o5, o6)
section S_X6_crosses
variable {E : EE} {a_t a_p1 a_p1_speeds a_p1_steps a_t_sum : Nat} {g_t_1 : Value} {g_t_2 : Value} {g_p1_0 : Value} {g_p1_1 : Value} {g_p1_5 : Value} {g_p1_6 : Value} {g_p1_7 : Value} {g_p1_8 : Value} {g_p1_9 : Value} {g_p1_10 : Value} {g_p1_11 : Value} {g_p1_12 : Value} {g_p1_13 : Value} {g_p1_14 : Value} {g_p1_15 : Value} {g_p1_16 : Value}
set_option maxRecDepth 100000 in
set_option maxHeartbeats 4000000 in
theorem wm_X6_crosses {F : Nat} {v : Int × Int × Int} {x2 : Int} {x3 : Int} {c_p1_parts : Int} {c_p1_speeds : Int → Int} {c_p1_steps : Int → Int} {c_sum_above : Int} {c_sum_below : Int} (C : Cx E cX6_crosses RX6 { frames := 3, cells := 0, slots := 0, locals := 82 }) (hN : eN E = 4) (h : m_X6_crosses F x2 x3 c_p1_parts c_p1_speeds c_p1_steps = some v) (hret : ∀ (pc : Nat) (L : List (Option Value)), narrow .boolean (.int (wI (v.1))) = .int (wI (v.1)) → decode cX6_crosses pc = .ok (.ireturn, 1) → GG E 0 0 (W_X6_crosses (eCy E) a_t a_p1 a_p1_speeds a_p1_steps a_t_sum g_t_1 g_t_2 g_p1_0 g_p1_1 g_p1_5 g_p1_6 g_p1_7 g_p1_8 g_p1_9 g_p1_10 g_p1_11 g_p1_12 g_p1_13 g_p1_14 g_p1_15 g_p1_16 c_p1_parts c_p1_speeds c_p1_steps (v.2.1) (v.2.2)) L pc [.int (wI (v.1))]) : GG E 0 0 (W_X6_crosses (eCy E) a_t a_p1 a_p1_speeds a_p1_steps a_t_sum g_t_1 g_t_2 g_p1_0 g_p1_1 g_p1_5 g_p1_6 g_p1_7 g_p1_8 g_p1_9 g_p1_10 g_p1_11 g_p1_12 g_p1_13 g_p1_14 g_p1_15 g_p1_16 c_p1_parts c_p1_speeds c_p1_steps c_sum_above c_sum_below) [some (.ref a_t), some (.ref a_p1), some (.int (wI x2)), some (.int (wI x3))] 0 [] := by
  unfold m_X6_crosses at h
  refine g_aload_n 0 C dX6_crosses_0 rfl rfl ?_
  refine g_get C fg_X6_12 0 rfl rfl dX6_crosses_1 ?_
  refine g_lconst (x := 0) C dX6_crosses_4 (by decide) ?_
  refine g_lconst (x := 1) C dX6_crosses_5 (by decide) ?_
  obtain ⟨o1, o2, hr3, h⟩ := bnd2_some h
  refine g_callV [4] [0, 1, 2, 3] [0, 1, 2, 3, 4] C mt_X6_24 (c_X1_put _ _ _ _ a_t_sum 0 1 c_sum_above c_sum_below F hr3) (q0 := 0) rfl (ci := 1) rfl rfl rfl (ws2 := (W_X6_crosses (eCy E) a_t a_p1 a_p1_speeds a_p1_steps a_t_sum g_t_1 g_t_2 g_p1_0 g_p1_1 g_p1_5 g_p1_6 g_p1_7 g_p1_8 g_p1_9 g_p1_10 g_p1_11 g_p1_12 g_p1_13 g_p1_14 g_p1_15 g_p1_16 c_p1_parts c_p1_speeds c_p1_steps o1 o2)) rfl rfl rfl (rest := []) rfl rfl rfl dX6_crosses_6 ?_
  refine g_aload_n 0 C dX6_crosses_9 rfl rfl ?_
  refine g_aload_n 1 C dX6_crosses_10 rfl rfl ?_
  refine g_iload_n 2 C dX6_crosses_11 rfl rfl ?_
  refine g_iload_n 3 C dX6_crosses_12 rfl rfl ?_
  refine g_iconst C dX6_crosses_13 ?_
  refine g_aload_n 1 C dX6_crosses_14 rfl rfl ?_
  refine g_get C fg_X6_28 1 rfl rfl dX6_crosses_15 ?_
  refine g_st (st' := [.int (wI c_p1_parts), .int (wI 0), .int (wI x3), .int (wI x2), .ref a_p1, .ref a_t]) rfl ?_
  obtain ⟨r4, o5, o6, hr7, h⟩ := bnd3_some h
  refine g_callI [0, 1, 2, 3, 4] [] [0, 1, 2, 3, 4] C mt_X6_34 (c_X6_addTimes _ _ _ _ a_t a_p1 a_p1_speeds a_p1_steps a_t_sum (g_t_1) (g_t_2) (g_p1_0) (g_p1_1) (g_p1_5) (g_p1_6) (g_p1_7) (g_p1_8) (g_p1_9) (g_p1_10) (g_p1_11) (g_p1_12) (g_p1_13) (g_p1_14) (g_p1_15) (g_p1_16) x2 x3 0 c_p1_parts c_p1_parts c_p1_speeds c_p1_steps o1 o2 F hr7) (q0 := 0) rfl (ci := 6) rfl rfl rfl (ws2 := (W_X6_crosses (eCy E) a_t a_p1 a_p1_speeds a_p1_steps a_t_sum g_t_1 g_t_2 g_p1_0 g_p1_1 g_p1_5 g_p1_6 g_p1_7 g_p1_8 g_p1_9 g_p1_10 g_p1_11 g_p1_12 g_p1_13 g_p1_14 g_p1_15 g_p1_16 c_p1_parts c_p1_speeds c_p1_steps o5 o6)) rfl rfl rfl (rest := []) rfl rfl rfl dX6_crosses_18 ?_
  obtain ⟨hc8, h⟩ := chk_some h
  cases h
  exact hret 21 _ (bool_nar hc8).1 dX6_crosses_21
end S_X6_crosses
set_option maxRecDepth 100000 in
set_option maxHeartbeats 4000000 in
theorem c_X6_crosses (l : Launch) (D : va_G) (cy : Nat → ClassId) (ad : AD) (a_t a_p1 a_p1_speeds a_p1_steps a_t_sum : Nat) (g_t_1 : Value) (g_t_2 : Value) (g_p1_0 : Value) (g_p1_1 : Value) (g_p1_5 : Value) (g_p1_6 : Value) (g_p1_7 : Value) (g_p1_8 : Value) (g_p1_9 : Value) (g_p1_10 : Value) (g_p1_11 : Value) (g_p1_12 : Value) (g_p1_13 : Value) (g_p1_14 : Value) (g_p1_15 : Value) (g_p1_16 : Value) (x2 : Int) (x3 : Int) (c_p1_parts : Int) (c_p1_speeds : Int → Int) (c_p1_steps : Int → Int) (c_sum_above : Int) (c_sum_below : Int) (F : Nat) {v : Int × Int × Int} (h : m_X6_crosses F x2 x3 c_p1_parts c_p1_speeds c_p1_steps = some v) : Ct l yX6_crosses cX6_crosses 4 (some .boolean) { frames := 3, cells := 0, slots := 0, locals := 82 } D cy ad [.ref a_t, .ref a_p1, .int (wI x2), .int (wI x3)] (W_X6_crosses cy a_t a_p1 a_p1_speeds a_p1_steps a_t_sum g_t_1 g_t_2 g_p1_0 g_p1_1 g_p1_5 g_p1_6 g_p1_7 g_p1_8 g_p1_9 g_p1_10 g_p1_11 g_p1_12 g_p1_13 g_p1_14 g_p1_15 g_p1_16 c_p1_parts c_p1_speeds c_p1_steps c_sum_above c_sum_below) (W_X6_crosses cy a_t a_p1 a_p1_speeds a_p1_steps a_t_sum g_t_1 g_t_2 g_p1_0 g_p1_1 g_p1_5 g_p1_6 g_p1_7 g_p1_8 g_p1_9 g_p1_10 g_p1_11 g_p1_12 g_p1_13 g_p1_14 g_p1_15 g_p1_16 c_p1_parts c_p1_speeds c_p1_steps (v.2.1) (v.2.2)) (some (.int (wI (v.1)))) := by
  refine Ct.introZ (j := 0) (plainFor_of_name (by decide)) rfl rfl (fun E C e1 e2 e3 e4 e5 hret => ?_)
  subst e1; subst e2; subst e3; subst e4
  exact wm_X6_crosses C e5 h hret
-- MovingStair$Travel.addReturn(LMovingStair$Layout;I)Z
def W_X6_addReturn (cy : Nat → ClassId) (a_t a_p1 a_p1_speeds a_p1_steps a_t_sum : Nat) (g_t_1 : Value) (g_t_2 : Value) (g_p1_0 : Value) (g_p1_1 : Value) (g_p1_5 : Value) (g_p1_6 : Value) (g_p1_7 : Value) (g_p1_8 : Value) (g_p1_9 : Value) (g_p1_10 : Value) (g_p1_11 : Value) (g_p1_12 : Value) (g_p1_13 : Value) (g_p1_14 : Value) (g_p1_15 : Value) (g_p1_16 : Value) (c_p1_parts : Int) (c_p1_speeds : Int → Int) (c_p1_steps : Int → Int) (c_sum_above : Int) (c_sum_below : Int) : va_W := [(a_t, .inr (6, [.ref a_t_sum, g_t_1, g_t_2])), (a_p1, .inr (2, [g_p1_0, g_p1_1, .int (wI c_p1_parts), .ref a_p1_steps, .ref a_p1_speeds, g_p1_5, g_p1_6, g_p1_7, g_p1_8, g_p1_9, g_p1_10, g_p1_11, g_p1_12, g_p1_13, g_p1_14, g_p1_15, g_p1_16])), (a_p1_speeds, .inl (cy 1, 4, .inl (aI c_p1_speeds))), (a_p1_steps, .inl (cy 1, 4, .inl (aI c_p1_steps))), (a_t_sum, .inr (1, [.long (wJ c_sum_above), .long (wJ c_sum_below)]))]
def mb_X6_addReturn_7 (F : Nat) (k7 : Int → Int → Int → Option (Int × Int × Int)) (x2 : Int) (x3 : Int) (c_p1_speeds : Int → Int) (c_p1_steps : Int → Int) (c_sum_above : Int) (c_sum_below : Int) : Option (Int × Int × Int) :=
  if wI x3 < wI 0 then
    (some (1, c_sum_above, c_sum_below))
  else
    (chk (0 ≤ x3 ∧ x3 < 4) <| nam (x2 - (c_p1_speeds x3)) fun y2 => if wI 0 < wI y2 then
    (chk (0 ≤ x3 ∧ x3 < 4) <| chk (r32 (c_p1_steps x3)) <| chk (r32 y2) <| bnd2 (m_X1_add F (c_p1_steps x3) y2 c_sum_above c_sum_below) fun o6 o7 => k7 (x3 + (-1)) o6 o7)
  else
    (some (0, c_sum_above, c_sum_below)))
def ml_X6_addReturn_7 (F : Nat) (x2 : Int) (x3 : Int) (c_p1_speeds : Int → Int) (c_p1_steps : Int → Int) (c_sum_above : Int) (c_sum_below : Int) : Option (Int × Int × Int) :=
  loopN (fun (k : Int × Int × Int → Option (Int × Int × Int)) q => mb_X6_addReturn_7 F (fun y0 y1 y2 => k (y0, y1, y2)) x2 q.1 c_p1_speeds c_p1_steps q.2.1 q.2.2) F (x3, c_sum_above, c_sum_below)
def m_X6_addReturn (F : Nat) (x2 : Int) (c_p1_parts : Int) (c_p1_speeds : Int → Int) (c_p1_steps : Int → Int) (c_sum_above : Int) (c_sum_below : Int) : Option (Int × Int × Int) :=
  nam (c_p1_parts - 1) fun y1 => ml_X6_addReturn_7 F x2 y1 c_p1_speeds c_p1_steps c_sum_above c_sum_below
section S_X6_addReturn
variable {E : EE} {a_t a_p1 a_p1_speeds a_p1_steps a_t_sum : Nat} {g_t_1 : Value} {g_t_2 : Value} {g_p1_0 : Value} {g_p1_1 : Value} {g_p1_5 : Value} {g_p1_6 : Value} {g_p1_7 : Value} {g_p1_8 : Value} {g_p1_9 : Value} {g_p1_10 : Value} {g_p1_11 : Value} {g_p1_12 : Value} {g_p1_13 : Value} {g_p1_14 : Value} {g_p1_15 : Value} {g_p1_16 : Value}
set_option maxRecDepth 100000 in
set_option maxHeartbeats 4000000 in
theorem wb_X6_addReturn_7 {F : Nat} {k7 : Int → Int → Int → Option (Int × Int × Int)} {v : Int × Int × Int} {x2 : Int} {x3 : Int} {c_p1_speeds : Int → Int} {c_p1_steps : Int → Int} {c_sum_above : Int} {c_sum_below : Int} {c_p1_parts : Int} (C : Cx E cX6_addReturn RX6 { frames := 2, cells := 0, slots := 0, locals := 55 }) (hN : eN E = 5) (h : mb_X6_addReturn_7 F k7 x2 x3 c_p1_speeds c_p1_steps c_sum_above c_sum_below = some v) (hk7 : ∀ (y_x3 : Int) (y_c_sum_above : Int) (y_c_sum_below : Int), k7 y_x3 y_c_sum_above y_c_sum_below = some v → GG E 0 0 (W_X6_addReturn (eCy E) a_t a_p1 a_p1_speeds a_p1_steps a_t_sum g_t_1 g_t_2 g_p1_0 g_p1_1 g_p1_5 g_p1_6 g_p1_7 g_p1_8 g_p1_9 g_p1_10 g_p1_11 g_p1_12 g_p1_13 g_p1_14 g_p1_15 g_p1_16 c_p1_parts c_p1_speeds c_p1_steps y_c_sum_above y_c_sum_below) [some (.ref a_t), some (.ref a_p1), some (.int (wI x2)), some (.int (wI y_x3)), none] 7 []) (hret : ∀ (pc : Nat) (L : List (Option Value)), narrow .boolean (.int (wI (v.1))) = .int (wI (v.1)) → decode cX6_addReturn pc = .ok (.ireturn, 1) → GG E 0 0 (W_X6_addReturn (eCy E) a_t a_p1 a_p1_speeds a_p1_steps a_t_sum g_t_1 g_t_2 g_p1_0 g_p1_1 g_p1_5 g_p1_6 g_p1_7 g_p1_8 g_p1_9 g_p1_10 g_p1_11 g_p1_12 g_p1_13 g_p1_14 g_p1_15 g_p1_16 c_p1_parts c_p1_speeds c_p1_steps (v.2.1) (v.2.2)) L pc [.int (wI (v.1))]) : GG E 0 0 (W_X6_addReturn (eCy E) a_t a_p1 a_p1_speeds a_p1_steps a_t_sum g_t_1 g_t_2 g_p1_0 g_p1_1 g_p1_5 g_p1_6 g_p1_7 g_p1_8 g_p1_9 g_p1_10 g_p1_11 g_p1_12 g_p1_13 g_p1_14 g_p1_15 g_p1_16 c_p1_parts c_p1_speeds c_p1_steps c_sum_above c_sum_below) [some (.ref a_t), some (.ref a_p1), some (.int (wI x2)), some (.int (wI x3)), none] 7 [] := by
  unfold mb_X6_addReturn_7 at h
  refine g_iload_n 3 C dX6_addReturn_7 rfl rfl ?_
  refine g_if_lt 51 C dX6_addReturn_8 (by decide) h (fun h => ?_) (fun h => ?_)
  · refine g_iconst C dX6_addReturn_51 ?_
    cases h
    exact hret 52 _ bn1 dX6_addReturn_52
  · refine g_iload_n 2 C dX6_addReturn_11 rfl rfl ?_
    refine g_aload_n 1 C dX6_addReturn_12 rfl rfl ?_
    refine g_get C fg_X6_38 1 rfl rfl dX6_addReturn_13 ?_
    refine g_iload_n 3 C dX6_addReturn_16 rfl rfl ?_
    obtain ⟨hc1, h⟩ := chk_some h
    refine g_iald C 2 rfl hc1 rfl dX6_addReturn_17 ?_
    refine g_isub C dX6_addReturn_18 ?_
    obtain ⟨y2, e_y2, h⟩ := nam_some h
    refine g_topI e_y2 ?_
    refine g_istore C hN dX6_addReturn_19 rfl (L' := [some (.ref a_t), some (.ref a_p1), some (.int (wI x2)), some (.int (wI x3)), some (.int (wI y2))]) rfl ?_
    refine g_iload C dX6_addReturn_21 rfl ?_
    refine g_if_gt 28 C dX6_addReturn_23 (by decide) h (fun h => ?_) (fun h => ?_)
    · refine g_aload_n 0 C dX6_addReturn_28 rfl rfl ?_
      refine g_get C fg_X6_12 0 rfl rfl dX6_addReturn_29 ?_
      refine g_aload_n 1 C dX6_addReturn_32 rfl rfl ?_
      refine g_get C fg_X6_42 1 rfl rfl dX6_addReturn_33 ?_
      refine g_iload_n 3 C dX6_addReturn_36 rfl rfl ?_
      obtain ⟨hc3, h⟩ := chk_some h
      refine g_iald C 3 rfl hc3 rfl dX6_addReturn_37 ?_
      obtain ⟨hc4, h⟩ := chk_some h
      refine g_i2l C dX6_addReturn_38 hc4 ?_
      refine g_iload C dX6_addReturn_39 rfl ?_
      obtain ⟨hc5, h⟩ := chk_some h
      refine g_i2l C dX6_addReturn_41 hc5 ?_
      obtain ⟨o6, o7, hr8, h⟩ := bnd2_some h
      refine g_callV [4] [0, 1, 2, 3] [0, 1, 2, 3, 4] C mt_X6_45 (c_X1_add _ _ _ _ a_t_sum (c_p1_steps x3) y2 c_sum_above c_sum_below F hr8) (q0 := 0) rfl (ci := 1) rfl rfl rfl (ws2 := (W_X6_addReturn (eCy E) a_t a_p1 a_p1_speeds a_p1_steps a_t_sum g_t_1 g_t_2 g_p1_0 g_p1_1 g_p1_5 g_p1_6 g_p1_7 g_p1_8 g_p1_9 g_p1_10 g_p1_11 g_p1_12 g_p1_13 g_p1_14 g_p1_15 g_p1_16 c_p1_parts c_p1_speeds c_p1_steps o6 o7)) rfl rfl rfl (rest := []) rfl rfl rfl dX6_addReturn_42 ?_
      refine g_iinc C hN dX6_addReturn_45 rfl rfl (L' := [some (.ref a_t), some (.ref a_p1), some (.int (wI x2)), some (.int (wI (x3 + (-1)))), some (.int (wI y2))]) rfl ?_
      refine g_goto (tgt := 7) C dX6_addReturn_48 (by decide) ?_
      refine g_mask [true, true, true, true, false] (L' := [some (.ref a_t), some (.ref a_p1), some (.int (wI x2)), some (.int (wI (x3 + (-1)))), none]) rfl ?_
      exact hk7 _ _ _ h
    · refine g_iconst C dX6_addReturn_26 ?_
      cases h
      exact hret 27 _ bn0 dX6_addReturn_27
set_option maxRecDepth 100000 in
set_option maxHeartbeats 4000000 in
theorem wl_X6_addReturn_7 {F : Nat} {v : Int × Int × Int} {x2 : Int} {x3 : Int} {c_p1_speeds : Int → Int} {c_p1_steps : Int → Int} {c_sum_above : Int} {c_sum_below : Int} {c_p1_parts : Int} (C : Cx E cX6_addReturn RX6 { frames := 2, cells := 0, slots := 0, locals := 55 }) (hN : eN E = 5) (h : ml_X6_addReturn_7 F x2 x3 c_p1_speeds c_p1_steps c_sum_above c_sum_below = some v) (hret : ∀ (pc : Nat) (L : List (Option Value)), narrow .boolean (.int (wI (v.1))) = .int (wI (v.1)) → decode cX6_addReturn pc = .ok (.ireturn, 1) → GG E 0 0 (W_X6_addReturn (eCy E) a_t a_p1 a_p1_speeds a_p1_steps a_t_sum g_t_1 g_t_2 g_p1_0 g_p1_1 g_p1_5 g_p1_6 g_p1_7 g_p1_8 g_p1_9 g_p1_10 g_p1_11 g_p1_12 g_p1_13 g_p1_14 g_p1_15 g_p1_16 c_p1_parts c_p1_speeds c_p1_steps (v.2.1) (v.2.2)) L pc [.int (wI (v.1))]) : GG E 0 0 (W_X6_addReturn (eCy E) a_t a_p1 a_p1_speeds a_p1_steps a_t_sum g_t_1 g_t_2 g_p1_0 g_p1_1 g_p1_5 g_p1_6 g_p1_7 g_p1_8 g_p1_9 g_p1_10 g_p1_11 g_p1_12 g_p1_13 g_p1_14 g_p1_15 g_p1_16 c_p1_parts c_p1_speeds c_p1_steps c_sum_above c_sum_below) [some (.ref a_t), some (.ref a_p1), some (.int (wI x2)), some (.int (wI x3)), none] 7 [] := by
  unfold ml_X6_addReturn_7 at h
  exact loop_walk (g := fun (q : Int × Int × Int) => GG E 0 0 (W_X6_addReturn (eCy E) a_t a_p1 a_p1_speeds a_p1_steps a_t_sum g_t_1 g_t_2 g_p1_0 g_p1_1 g_p1_5 g_p1_6 g_p1_7 g_p1_8 g_p1_9 g_p1_10 g_p1_11 g_p1_12 g_p1_13 g_p1_14 g_p1_15 g_p1_16 c_p1_parts c_p1_speeds c_p1_steps (q.2.1) (q.2.2)) [some (.ref a_t), some (.ref a_p1), some (.int (wI x2)), some (.int (wI (q.1))), none] 7 []) (fun k hk q h => wb_X6_addReturn_7 C hN h (fun y0 y1 y2 hh => hk (y0, y1, y2) hh) hret) F (x3, c_sum_above, c_sum_below) h
set_option maxRecDepth 100000 in
set_option maxHeartbeats 4000000 in
theorem wm_X6_addReturn {F : Nat} {v : Int × Int × Int} {x2 : Int} {c_p1_parts : Int} {c_p1_speeds : Int → Int} {c_p1_steps : Int → Int} {c_sum_above : Int} {c_sum_below : Int} (C : Cx E cX6_addReturn RX6 { frames := 2, cells := 0, slots := 0, locals := 55 }) (hN : eN E = 5) (h : m_X6_addReturn F x2 c_p1_parts c_p1_speeds c_p1_steps c_sum_above c_sum_below = some v) (hret : ∀ (pc : Nat) (L : List (Option Value)), narrow .boolean (.int (wI (v.1))) = .int (wI (v.1)) → decode cX6_addReturn pc = .ok (.ireturn, 1) → GG E 0 0 (W_X6_addReturn (eCy E) a_t a_p1 a_p1_speeds a_p1_steps a_t_sum g_t_1 g_t_2 g_p1_0 g_p1_1 g_p1_5 g_p1_6 g_p1_7 g_p1_8 g_p1_9 g_p1_10 g_p1_11 g_p1_12 g_p1_13 g_p1_14 g_p1_15 g_p1_16 c_p1_parts c_p1_speeds c_p1_steps (v.2.1) (v.2.2)) L pc [.int (wI (v.1))]) : GG E 0 0 (W_X6_addReturn (eCy E) a_t a_p1 a_p1_speeds a_p1_steps a_t_sum g_t_1 g_t_2 g_p1_0 g_p1_1 g_p1_5 g_p1_6 g_p1_7 g_p1_8 g_p1_9 g_p1_10 g_p1_11 g_p1_12 g_p1_13 g_p1_14 g_p1_15 g_p1_16 c_p1_parts c_p1_speeds c_p1_steps c_sum_above c_sum_below) [some (.ref a_t), some (.ref a_p1), some (.int (wI x2)), none, none] 0 [] := by
  unfold m_X6_addReturn at h
  refine g_aload_n 1 C dX6_addReturn_0 rfl rfl ?_
  refine g_get C fg_X6_28 1 rfl rfl dX6_addReturn_1 ?_
  refine g_st (st' := [.int (wI c_p1_parts)]) rfl ?_
  refine g_iconst C dX6_addReturn_4 ?_
  refine g_isub C dX6_addReturn_5 ?_
  obtain ⟨y1, e_y1, h⟩ := nam_some h
  refine g_topI e_y1 ?_
  refine g_istore_n 3 C hN dX6_addReturn_6 rfl rfl (L' := [some (.ref a_t), some (.ref a_p1), some (.int (wI x2)), some (.int (wI y1)), none]) rfl ?_
  exact wl_X6_addReturn_7 C hN h hret
end S_X6_addReturn
set_option maxRecDepth 100000 in
set_option maxHeartbeats 4000000 in
theorem c_X6_addReturn (l : Launch) (D : va_G) (cy : Nat → ClassId) (ad : AD) (a_t a_p1 a_p1_speeds a_p1_steps a_t_sum : Nat) (g_t_1 : Value) (g_t_2 : Value) (g_p1_0 : Value) (g_p1_1 : Value) (g_p1_5 : Value) (g_p1_6 : Value) (g_p1_7 : Value) (g_p1_8 : Value) (g_p1_9 : Value) (g_p1_10 : Value) (g_p1_11 : Value) (g_p1_12 : Value) (g_p1_13 : Value) (g_p1_14 : Value) (g_p1_15 : Value) (g_p1_16 : Value) (x2 : Int) (c_p1_parts : Int) (c_p1_speeds : Int → Int) (c_p1_steps : Int → Int) (c_sum_above : Int) (c_sum_below : Int) (F : Nat) {v : Int × Int × Int} (h : m_X6_addReturn F x2 c_p1_parts c_p1_speeds c_p1_steps c_sum_above c_sum_below = some v) : Ct l yX6_addReturn cX6_addReturn 5 (some .boolean) { frames := 2, cells := 0, slots := 0, locals := 55 } D cy ad [.ref a_t, .ref a_p1, .int (wI x2)] (W_X6_addReturn cy a_t a_p1 a_p1_speeds a_p1_steps a_t_sum g_t_1 g_t_2 g_p1_0 g_p1_1 g_p1_5 g_p1_6 g_p1_7 g_p1_8 g_p1_9 g_p1_10 g_p1_11 g_p1_12 g_p1_13 g_p1_14 g_p1_15 g_p1_16 c_p1_parts c_p1_speeds c_p1_steps c_sum_above c_sum_below) (W_X6_addReturn cy a_t a_p1 a_p1_speeds a_p1_steps a_t_sum g_t_1 g_t_2 g_p1_0 g_p1_1 g_p1_5 g_p1_6 g_p1_7 g_p1_8 g_p1_9 g_p1_10 g_p1_11 g_p1_12 g_p1_13 g_p1_14 g_p1_15 g_p1_16 c_p1_parts c_p1_speeds c_p1_steps (v.2.1) (v.2.2)) (some (.int (wI (v.1)))) := by
  refine Ct.introZ (j := 2) (plainFor_of_name (by decide)) rfl rfl (fun E C e1 e2 e3 e4 e5 hret => ?_)
  subst e1; subst e2; subst e3; subst e4
  exact wm_X6_addReturn C e5 h hret
-- MovingStair$Travel.isWithin(LMovingStair$Layout;III)Z
def W_X6_isWithin (cy : Nat → ClassId) (a_t a_p1 a_p1_speeds a_p1_steps a_t_sum : Nat) (g_t_1 : Value) (g_t_2 : Value) (g_p1_0 : Value) (g_p1_1 : Value) (g_p1_5 : Value) (g_p1_6 : Value) (g_p1_7 : Value) (g_p1_8 : Value) (g_p1_9 : Value) (g_p1_10 : Value) (g_p1_11 : Value) (g_p1_12 : Value) (g_p1_13 : Value) (g_p1_14 : Value) (g_p1_15 : Value) (g_p1_16 : Value) (c_p1_parts : Int) (c_p1_speeds : Int → Int) (c_p1_steps : Int → Int) (c_sum_above : Int) (c_sum_below : Int) : va_W := [(a_t, .inr (6, [.ref a_t_sum, g_t_1, g_t_2])), (a_p1, .inr (2, [g_p1_0, g_p1_1, .int (wI c_p1_parts), .ref a_p1_steps, .ref a_p1_speeds, g_p1_5, g_p1_6, g_p1_7, g_p1_8, g_p1_9, g_p1_10, g_p1_11, g_p1_12, g_p1_13, g_p1_14, g_p1_15, g_p1_16])), (a_p1_speeds, .inl (cy 1, 4, .inl (aI c_p1_speeds))), (a_p1_steps, .inl (cy 1, 4, .inl (aI c_p1_steps))), (a_t_sum, .inr (1, [.long (wJ c_sum_above), .long (wJ c_sum_below)]))]
def m_X6_isWithin (F : Nat) (x2 : Int) (x3 : Int) (x4 : Int) (c_p1_parts : Int) (c_p1_speeds : Int → Int) (c_p1_steps : Int → Int) : Option (Int × Int × Int) :=
  bnd3 (m_X6_crosses F x2 x3 c_p1_parts c_p1_speeds c_p1_steps) fun r1 o2 o3 => if wI r1 = wI 0 then
    (some (0, o2, o3))
  else
    (chk (r32 x4) <| bnd1 (m_X1_isAbove F x4 o2 o3) fun r6 => if wI r6 = wI 0 then
    (some (1, o2, o3))
  else
    (some (0, o2, o3)))
section S_X6_isWithin
variable {E : EE} {a_t a_p1 a_p1_speeds a_p1_steps a_t_sum : Nat} {g_t_1 : Value} {g_t_2 : Value} {g_p1_0 : Value} {g_p1_1 : Value} {g_p1_5 : Value} {g_p1_6 : Value} {g_p1_7 : Value} {g_p1_8 : Value} {g_p1_9 : Value} {g_p1_10 : Value} {g_p1_11 : Value} {g_p1_12 : Value} {g_p1_13 : Value} {g_p1_14 : Value} {g_p1_15 : Value} {g_p1_16 : Value}
set_option maxRecDepth 100000 in
set_option maxHeartbeats 4000000 in
theorem wm_X6_isWithin {F : Nat} {v : Int × Int × Int} {x2 : Int} {x3 : Int} {x4 : Int} {c_p1_parts : Int} {c_p1_speeds : Int → Int} {c_p1_steps : Int → Int} {c_sum_above : Int} {c_sum_below : Int} (C : Cx E cX6_isWithin RX6 { frames := 4, cells := 0, slots := 0, locals := 105 }) (hN : eN E = 5) (h : m_X6_isWithin F x2 x3 x4 c_p1_parts c_p1_speeds c_p1_steps = some v) (hret : ∀ (pc : Nat) (L : List (Option Value)), narrow .boolean (.int (wI (v.1))) = .int (wI (v.1)) → decode cX6_isWithin pc = .ok (.ireturn, 1) → GG E 0 0 (W_X6_isWithin (eCy E) a_t a_p1 a_p1_speeds a_p1_steps a_t_sum g_t_1 g_t_2 g_p1_0 g_p1_1 g_p1_5 g_p1_6 g_p1_7 g_p1_8 g_p1_9 g_p1_10 g_p1_11 g_p1_12 g_p1_13 g_p1_14 g_p1_15 g_p1_16 c_p1_parts c_p1_speeds c_p1_steps (v.2.1) (v.2.2)) L pc [.int (wI (v.1))]) : GG E 0 0 (W_X6_isWithin (eCy E) a_t a_p1 a_p1_speeds a_p1_steps a_t_sum g_t_1 g_t_2 g_p1_0 g_p1_1 g_p1_5 g_p1_6 g_p1_7 g_p1_8 g_p1_9 g_p1_10 g_p1_11 g_p1_12 g_p1_13 g_p1_14 g_p1_15 g_p1_16 c_p1_parts c_p1_speeds c_p1_steps c_sum_above c_sum_below) [some (.ref a_t), some (.ref a_p1), some (.int (wI x2)), some (.int (wI x3)), some (.int (wI x4))] 0 [] := by
  unfold m_X6_isWithin at h
  refine g_aload_n 0 C dX6_isWithin_0 rfl rfl ?_
  refine g_aload_n 1 C dX6_isWithin_1 rfl rfl ?_
  refine g_iload_n 2 C dX6_isWithin_2 rfl rfl ?_
  refine g_iload_n 3 C dX6_isWithin_3 rfl rfl ?_
  obtain ⟨r1, o2, o3, hr4, h⟩ := bnd3_some h
  refine g_callI [0, 1, 2, 3, 4] [] [0, 1, 2, 3, 4] C mt_X6_48 (c_X6_crosses _ _ _ _ a_t a_p1 a_p1_speeds a_p1_steps a_t_sum (g_t_1) (g_t_2) (g_p1_0) (g_p1_1) (g_p1_5) (g_p1_6) (g_p1_7) (g_p1_8) (g_p1_9) (g_p1_10) (g_p1_11) (g_p1_12) (g_p1_13) (g_p1_14) (g_p1_15) (g_p1_16) x2 x3 c_p1_parts c_p1_speeds c_p1_steps c_sum_above c_sum_below F hr4) (q0 := 0) rfl (ci := 6) rfl rfl rfl (ws2 := (W_X6_isWithin (eCy E) a_t a_p1 a_p1_speeds a_p1_steps a_t_sum g_t_1 g_t_2 g_p1_0 g_p1_1 g_p1_5 g_p1_6 g_p1_7 g_p1_8 g_p1_9 g_p1_10 g_p1_11 g_p1_12 g_p1_13 g_p1_14 g_p1_15 g_p1_16 c_p1_parts c_p1_speeds c_p1_steps o2 o3)) rfl rfl rfl (rest := []) rfl rfl rfl dX6_isWithin_4 ?_
  refine g_if_eq 27 C dX6_isWithin_7 (by decide) h (fun h => ?_) (fun h => ?_)
  · refine g_iconst C dX6_isWithin_27 ?_
    cases h
    exact hret 28 _ bn0 dX6_isWithin_28
  · refine g_aload_n 0 C dX6_isWithin_10 rfl rfl ?_
    refine g_get C fg_X6_12 0 rfl rfl dX6_isWithin_11 ?_
    refine g_iload C dX6_isWithin_14 rfl ?_
    obtain ⟨hc5, h⟩ := chk_some h
    refine g_i2l C dX6_isWithin_16 hc5 ?_
    obtain ⟨r6, hr7, h⟩ := bnd1_some h
    refine g_callI [4] [0, 1, 2, 3] [0, 1, 2, 3, 4] C mt_X6_52 (c_X1_isAbove _ _ _ _ a_t_sum x4 o2 o3 F hr7) (q0 := 0) rfl (ci := 1) rfl rfl rfl (ws2 := (W_X6_isWithin (eCy E) a_t a_p1 a_p1_speeds a_p1_steps a_t_sum g_t_1 g_t_2 g_p1_0 g_p1_1 g_p1_5 g_p1_6 g_p1_7 g_p1_8 g_p1_9 g_p1_10 g_p1_11 g_p1_12 g_p1_13 g_p1_14 g_p1_15 g_p1_16 c_p1_parts c_p1_speeds c_p1_steps o2 o3)) rfl rfl rfl (rest := []) rfl rfl rfl dX6_isWithin_17 ?_
    refine g_if_ne 27 C dX6_isWithin_20 (by decide) h (fun h => ?_) (fun h => ?_)
    · refine g_iconst C dX6_isWithin_27 ?_
      cases h
      exact hret 28 _ bn0 dX6_isWithin_28
    · refine g_iconst C dX6_isWithin_23 ?_
      refine g_goto (tgt := 28) C dX6_isWithin_24 (by decide) ?_
      cases h
      exact hret 28 _ bn1 dX6_isWithin_28
end S_X6_isWithin
set_option maxRecDepth 100000 in
set_option maxHeartbeats 4000000 in
theorem c_X6_isWithin (l : Launch) (D : va_G) (cy : Nat → ClassId) (ad : AD) (a_t a_p1 a_p1_speeds a_p1_steps a_t_sum : Nat) (g_t_1 : Value) (g_t_2 : Value) (g_p1_0 : Value) (g_p1_1 : Value) (g_p1_5 : Value) (g_p1_6 : Value) (g_p1_7 : Value) (g_p1_8 : Value) (g_p1_9 : Value) (g_p1_10 : Value) (g_p1_11 : Value) (g_p1_12 : Value) (g_p1_13 : Value) (g_p1_14 : Value) (g_p1_15 : Value) (g_p1_16 : Value) (x2 : Int) (x3 : Int) (x4 : Int) (c_p1_parts : Int) (c_p1_speeds : Int → Int) (c_p1_steps : Int → Int) (c_sum_above : Int) (c_sum_below : Int) (F : Nat) {v : Int × Int × Int} (h : m_X6_isWithin F x2 x3 x4 c_p1_parts c_p1_speeds c_p1_steps = some v) : Ct l yX6_isWithin cX6_isWithin 5 (some .boolean) { frames := 4, cells := 0, slots := 0, locals := 105 } D cy ad [.ref a_t, .ref a_p1, .int (wI x2), .int (wI x3), .int (wI x4)] (W_X6_isWithin cy a_t a_p1 a_p1_speeds a_p1_steps a_t_sum g_t_1 g_t_2 g_p1_0 g_p1_1 g_p1_5 g_p1_6 g_p1_7 g_p1_8 g_p1_9 g_p1_10 g_p1_11 g_p1_12 g_p1_13 g_p1_14 g_p1_15 g_p1_16 c_p1_parts c_p1_speeds c_p1_steps c_sum_above c_sum_below) (W_X6_isWithin cy a_t a_p1 a_p1_speeds a_p1_steps a_t_sum g_t_1 g_t_2 g_p1_0 g_p1_1 g_p1_5 g_p1_6 g_p1_7 g_p1_8 g_p1_9 g_p1_10 g_p1_11 g_p1_12 g_p1_13 g_p1_14 g_p1_15 g_p1_16 c_p1_parts c_p1_speeds c_p1_steps (v.2.1) (v.2.2)) (some (.int (wI (v.1)))) := by
  refine Ct.introZ (j := 0) (plainFor_of_name (by decide)) rfl rfl (fun E C e1 e2 e3 e4 e5 hret => ?_)
  subst e1; subst e2; subst e3; subst e4
  exact wm_X6_isWithin C e5 h hret
-- MovingStair$Travel.carry(LMovingStair$Layout;II)I
def W_X6_carry (cy : Nat → ClassId) (a_t a_p1 a_p1_speeds a_p1_steps a_t_minutesLeft : Nat) (g_t_0 : Value) (g_t_1 : Value) (g_p1_0 : Value) (g_p1_1 : Value) (g_p1_5 : Value) (g_p1_6 : Value) (g_p1_7 : Value) (g_p1_8 : Value) (g_p1_9 : Value) (g_p1_10 : Value) (g_p1_11 : Value) (g_p1_12 : Value) (g_p1_13 : Value) (g_p1_14 : Value) (g_p1_15 : Value) (g_p1_16 : Value) (c_p1_parts : Int) (c_p1_speeds : Int → Int) (c_p1_steps : Int → Int) (c_minutesLeft_above : Int) (c_minutesLeft_below : Int) : va_W := [(a_t, .inr (6, [g_t_0, g_t_1, .ref a_t_minutesLeft])), (a_p1, .inr (2, [g_p1_0, g_p1_1, .int (wI c_p1_parts), .ref a_p1_steps, .ref a_p1_speeds, g_p1_5, g_p1_6, g_p1_7, g_p1_8, g_p1_9, g_p1_10, g_p1_11, g_p1_12, g_p1_13, g_p1_14, g_p1_15, g_p1_16])), (a_p1_speeds, .inl (cy 1, 4, .inl (aI c_p1_speeds))), (a_p1_steps, .inl (cy 1, 4, .inl (aI c_p1_steps))), (a_t_minutesLeft, .inr (1, [.long (wJ c_minutesLeft_above), .long (wJ c_minutesLeft_below)]))]
def mb_X6_carry_3 (F : Nat) (k3 : Int → Int → Int → Option (Int × Int × Int)) (x2 : Int) (x4 : Int) (c_p1_parts : Int) (c_p1_speeds : Int → Int) (c_p1_steps : Int → Int) (c_minutesLeft_above : Int) (c_minutesLeft_below : Int) : Option (Int × Int × Int) :=
  if wI c_p1_parts ≤ wI x4 then
    (some (x4, c_minutesLeft_above, c_minutesLeft_below))
  else
    (chk (0 ≤ x4 ∧ x4 < 4) <| nam (x2 + (c_p1_speeds x4)) fun y2 => if wI y2 ≤ wI 0 then
    (some (x4, c_minutesLeft_above, c_minutesLeft_below))
  else
    (chk (r32 y2) <| chk (0 ≤ x4 ∧ x4 < 4) <| chk (r32 (c_p1_steps x4)) <| if wJ ((c_p1_steps x4) * c_minutesLeft_below) ≤ wJ (y2 * c_minutesLeft_above) then
    (chk (0 ≤ x4 ∧ x4 < 4) <| chk (r32 (-(c_p1_steps x4))) <| chk (r32 y2) <| bnd2 (m_X1_add F (-(c_p1_steps x4)) y2 c_minutesLeft_above c_minutesLeft_below) fun o9 o10 => k3 (x4 + 1) o9 o10)
  else
    (some (x4, c_minutesLeft_above, c_minutesLeft_below))))
def ml_X6_carry_3 (F : Nat) (x2 : Int) (x4 : Int) (c_p1_parts : Int) (c_p1_speeds : Int → Int) (c_p1_steps : Int → Int) (c_minutesLeft_above : Int) (c_minutesLeft_below : Int) : Option (Int × Int × Int) :=
  loopN (fun (k : Int × Int × Int → Option (Int × Int × Int)) q => mb_X6_carry_3 F (fun y0 y1 y2 => k (y0, y1, y2)) x2 q.1 c_p1_parts c_p1_speeds c_p1_steps q.2.1 q.2.2) F (x4, c_minutesLeft_above, c_minutesLeft_below)
def m_X6_carry (F : Nat) (x2 : Int) (x3 : Int) (c_p1_parts : Int) (c_p1_speeds : Int → Int) (c_p1_steps : Int → Int) (c_minutesLeft_above : Int) (c_minutesLeft_below : Int) : Option (Int × Int × Int) :=
  ml_X6_carry_3 F x2 x3 c_p1_parts c_p1_speeds c_p1_steps c_minutesLeft_above c_minutesLeft_below
section S_X6_carry
variable {E : EE} {a_t a_p1 a_p1_speeds a_p1_steps a_t_minutesLeft : Nat} {g_t_0 : Value} {g_t_1 : Value} {g_p1_0 : Value} {g_p1_1 : Value} {g_p1_5 : Value} {g_p1_6 : Value} {g_p1_7 : Value} {g_p1_8 : Value} {g_p1_9 : Value} {g_p1_10 : Value} {g_p1_11 : Value} {g_p1_12 : Value} {g_p1_13 : Value} {g_p1_14 : Value} {g_p1_15 : Value} {g_p1_16 : Value}
set_option maxRecDepth 100000 in
set_option maxHeartbeats 4000000 in
theorem wb_X6_carry_3 {F : Nat} {k3 : Int → Int → Int → Option (Int × Int × Int)} {v : Int × Int × Int} {x2 : Int} {x4 : Int} {c_p1_parts : Int} {c_p1_speeds : Int → Int} {c_p1_steps : Int → Int} {c_minutesLeft_above : Int} {c_minutesLeft_below : Int} (C : Cx E cX6_carry RX6 { frames := 2, cells := 0, slots := 0, locals := 55 }) (hN : eN E = 6) (h : mb_X6_carry_3 F k3 x2 x4 c_p1_parts c_p1_speeds c_p1_steps c_minutesLeft_above c_minutesLeft_below = some v) (hk3 : ∀ (y_x4 : Int) (y_c_minutesLeft_above : Int) (y_c_minutesLeft_below : Int), k3 y_x4 y_c_minutesLeft_above y_c_minutesLeft_below = some v → GG E 0 0 (W_X6_carry (eCy E) a_t a_p1 a_p1_speeds a_p1_steps a_t_minutesLeft g_t_0 g_t_1 g_p1_0 g_p1_1 g_p1_5 g_p1_6 g_p1_7 g_p1_8 g_p1_9 g_p1_10 g_p1_11 g_p1_12 g_p1_13 g_p1_14 g_p1_15 g_p1_16 c_p1_parts c_p1_speeds c_p1_steps y_c_minutesLeft_above y_c_minutesLeft_below) [some (.ref a_t), some (.ref a_p1), some (.int (wI x2)), none, some (.int (wI y_x4)), none] 3 []) (hret : ∀ (pc : Nat) (L : List (Option Value)), decode cX6_carry pc = .ok (.ireturn, 1) → GG E 0 0 (W_X6_carry (eCy E) a_t a_p1 a_p1_speeds a_p1_steps a_t_minutesLeft g_t_0 g_t_1 g_p1_0 g_p1_1 g_p1_5 g_p1_6 g_p1_7 g_p1_8 g_p1_9 g_p1_10 g_p1_11 g_p1_12 g_p1_13 g_p1_14 g_p1_15 g_p1_16 c_p1_parts c_p1_speeds c_p1_steps (v.2.1) (v.2.2)) L pc [.int (wI (v.1))]) : GG E 0 0 (W_X6_carry (eCy E) a_t a_p1 a_p1_speeds a_p1_steps a_t_minutesLeft g_t_0 g_t_1 g_p1_0 g_p1_1 g_p1_5 g_p1_6 g_p1_7 g_p1_8 g_p1_9 g_p1_10 g_p1_11 g_p1_12 g_p1_13 g_p1_14 g_p1_15 g_p1_16 c_p1_parts c_p1_speeds c_p1_steps c_minutesLeft_above c_minutesLeft_below) [some (.ref a_t), some (.ref a_p1), some (.int (wI x2)), none, some (.int (wI x4)), none] 3 [] := by
  unfold mb_X6_carry_3 at h
  refine g_iload C dX6_carry_3 rfl ?_
  refine g_aload_n 1 C dX6_carry_5 rfl rfl ?_
  refine g_get C fg_X6_28 1 rfl rfl dX6_carry_6 ?_
  refine g_st (st' := [.int (wI c_p1_parts), .int (wI x4)]) rfl ?_
  refine g_icmp_ge 87 C dX6_carry_9 (by decide) h (fun h => ?_) (fun h => ?_)
  · refine g_iload C dX6_carry_87 rfl ?_
    cases h
    exact hret 89 _ dX6_carry_89
  · refine g_iload_n 2 C dX6_carry_12 rfl rfl ?_
    refine g_aload_n 1 C dX6_carry_13 rfl rfl ?_
    refine g_get C fg_X6_38 1 rfl rfl dX6_carry_14 ?_
    refine g_iload C dX6_carry_17 rfl ?_
    obtain ⟨hc1, h⟩ := chk_some h
    refine g_iald C 2 rfl hc1 rfl dX6_carry_19 ?_
    refine g_iadd C dX6_carry_20 ?_
    obtain ⟨y2, e_y2, h⟩ := nam_some h
    refine g_topI e_y2 ?_
    refine g_istore C hN dX6_carry_21 rfl (L' := [some (.ref a_t), some (.ref a_p1), some (.int (wI x2)), none, some (.int (wI x4)), some (.int (wI y2))]) rfl ?_
    refine g_iload C dX6_carry_23 rfl ?_
    refine g_if_le 59 C dX6_carry_25 (by decide) h (fun h => ?_) (fun h => ?_)
    · refine g_iload C dX6_carry_59 rfl ?_
      cases h
      exact hret 61 _ dX6_carry_61
    · refine g_iload C dX6_carry_28 rfl ?_
      obtain ⟨hc3, h⟩ := chk_some h
      refine g_i2l C dX6_carry_30 hc3 ?_
      refine g_aload_n 0 C dX6_carry_31 rfl rfl ?_
      refine g_get C fg_X6_21 0 rfl rfl dX6_carry_32 ?_
      refine g_get C fg_X6_83 4 rfl rfl dX6_carry_35 ?_
      refine g_st (st' := [.long (wJ c_minutesLeft_above), .long (wJ y2)]) rfl ?_
      refine g_lmul C dX6_carry_38 ?_
      refine g_aload_n 1 C dX6_carry_39 rfl rfl ?_
      refine g_get C fg_X6_42 1 rfl rfl dX6_carry_40 ?_
      refine g_iload C dX6_carry_43 rfl ?_
      obtain ⟨hc4, h⟩ := chk_some h
      refine g_iald C 3 rfl hc4 rfl dX6_carry_45 ?_
      obtain ⟨hc5, h⟩ := chk_some h
      refine g_i2l C dX6_carry_46 hc5 ?_
      refine g_aload_n 0 C dX6_carry_47 rfl rfl ?_
      refine g_get C fg_X6_21 0 rfl rfl dX6_carry_48 ?_
      refine g_get C fg_X6_87 4 rfl rfl dX6_carry_51 ?_
      refine g_st (st' := [.long (wJ c_minutesLeft_below), .long (wJ (c_p1_steps x4)), .long (wJ (y2 * c_minutesLeft_above))]) rfl ?_
      refine g_lmul C dX6_carry_54 ?_
      refine g_lcmp_ge 62 C dX6_carry_55 dX6_carry_56 (by decide) h (fun h => ?_) (fun h => ?_)
      · refine g_aload_n 0 C dX6_carry_62 rfl rfl ?_
        refine g_get C fg_X6_21 0 rfl rfl dX6_carry_63 ?_
        refine g_aload_n 1 C dX6_carry_66 rfl rfl ?_
        refine g_get C fg_X6_42 1 rfl rfl dX6_carry_67 ?_
        refine g_iload C dX6_carry_70 rfl ?_
        obtain ⟨hc6, h⟩ := chk_some h
        refine g_iald C 3 rfl hc6 rfl dX6_carry_72 ?_
        refine g_ineg C dX6_carry_73 ?_
        obtain ⟨hc7, h⟩ := chk_some h
        refine g_i2l C dX6_carry_74 hc7 ?_
        refine g_iload C dX6_carry_75 rfl ?_
        obtain ⟨hc8, h⟩ := chk_some h
        refine g_i2l C dX6_carry_77 hc8 ?_
        obtain ⟨o9, o10, hr11, h⟩ := bnd2_some h
        refine g_callV [4] [0, 1, 2, 3] [0, 1, 2, 3, 4] C mt_X6_45 (c_X1_add _ _ _ _ a_t_minutesLeft (-(c_p1_steps x4)) y2 c_minutesLeft_above c_minutesLeft_below F hr11) (q0 := 0) rfl (ci := 1) rfl rfl rfl (ws2 := (W_X6_carry (eCy E) a_t a_p1 a_p1_speeds a_p1_steps a_t_minutesLeft g_t_0 g_t_1 g_p1_0 g_p1_1 g_p1_5 g_p1_6 g_p1_7 g_p1_8 g_p1_9 g_p1_10 g_p1_11 g_p1_12 g_p1_13 g_p1_14 g_p1_15 g_p1_16 c_p1_parts c_p1_speeds c_p1_steps o9 o10)) rfl rfl rfl (rest := []) rfl rfl rfl dX6_carry_78 ?_
        refine g_iinc C hN dX6_carry_81 rfl rfl (L' := [some (.ref a_t), some (.ref a_p1), some (.int (wI x2)), none, some (.int (wI (x4 + 1))), some (.int (wI y2))]) rfl ?_
        refine g_goto (tgt := 3) C dX6_carry_84 (by decide) ?_
        refine g_mask [true, true, true, false, true, false] (L' := [some (.ref a_t), some (.ref a_p1), some (.int (wI x2)), none, some (.int (wI (x4 + 1))), none]) rfl ?_
        exact hk3 _ _ _ h
      · refine g_iload C dX6_carry_59 rfl ?_
        cases h
        exact hret 61 _ dX6_carry_61
set_option maxRecDepth 100000 in
set_option maxHeartbeats 4000000 in
theorem wl_X6_carry_3 {F : Nat} {v : Int × Int × Int} {x2 : Int} {x4 : Int} {c_p1_parts : Int} {c_p1_speeds : Int → Int} {c_p1_steps : Int → Int} {c_minutesLeft_above : Int} {c_minutesLeft_below : Int} (C : Cx E cX6_carry RX6 { frames := 2, cells := 0, slots := 0, locals := 55 }) (hN : eN E = 6) (h : ml_X6_carry_3 F x2 x4 c_p1_parts c_p1_speeds c_p1_steps c_minutesLeft_above c_minutesLeft_below = some v) (hret : ∀ (pc : Nat) (L : List (Option Value)), decode cX6_carry pc = .ok (.ireturn, 1) → GG E 0 0 (W_X6_carry (eCy E) a_t a_p1 a_p1_speeds a_p1_steps a_t_minutesLeft g_t_0 g_t_1 g_p1_0 g_p1_1 g_p1_5 g_p1_6 g_p1_7 g_p1_8 g_p1_9 g_p1_10 g_p1_11 g_p1_12 g_p1_13 g_p1_14 g_p1_15 g_p1_16 c_p1_parts c_p1_speeds c_p1_steps (v.2.1) (v.2.2)) L pc [.int (wI (v.1))]) : GG E 0 0 (W_X6_carry (eCy E) a_t a_p1 a_p1_speeds a_p1_steps a_t_minutesLeft g_t_0 g_t_1 g_p1_0 g_p1_1 g_p1_5 g_p1_6 g_p1_7 g_p1_8 g_p1_9 g_p1_10 g_p1_11 g_p1_12 g_p1_13 g_p1_14 g_p1_15 g_p1_16 c_p1_parts c_p1_speeds c_p1_steps c_minutesLeft_above c_minutesLeft_below) [some (.ref a_t), some (.ref a_p1), some (.int (wI x2)), none, some (.int (wI x4)), none] 3 [] := by
  unfold ml_X6_carry_3 at h
  exact loop_walk (g := fun (q : Int × Int × Int) => GG E 0 0 (W_X6_carry (eCy E) a_t a_p1 a_p1_speeds a_p1_steps a_t_minutesLeft g_t_0 g_t_1 g_p1_0 g_p1_1 g_p1_5 g_p1_6 g_p1_7 g_p1_8 g_p1_9 g_p1_10 g_p1_11 g_p1_12 g_p1_13 g_p1_14 g_p1_15 g_p1_16 c_p1_parts c_p1_speeds c_p1_steps (q.2.1) (q.2.2)) [some (.ref a_t), some (.ref a_p1), some (.int (wI x2)), none, some (.int (wI (q.1))), none] 3 []) (fun k hk q h => wb_X6_carry_3 C hN h (fun y0 y1 y2 hh => hk (y0, y1, y2) hh) hret) F (x4, c_minutesLeft_above, c_minutesLeft_below) h
set_option maxRecDepth 100000 in
set_option maxHeartbeats 4000000 in
theorem wm_X6_carry {F : Nat} {v : Int × Int × Int} {x2 : Int} {x3 : Int} {c_p1_parts : Int} {c_p1_speeds : Int → Int} {c_p1_steps : Int → Int} {c_minutesLeft_above : Int} {c_minutesLeft_below : Int} (C : Cx E cX6_carry RX6 { frames := 2, cells := 0, slots := 0, locals := 55 }) (hN : eN E = 6) (h : m_X6_carry F x2 x3 c_p1_parts c_p1_speeds c_p1_steps c_minutesLeft_above c_minutesLeft_below = some v) (hret : ∀ (pc : Nat) (L : List (Option Value)), decode cX6_carry pc = .ok (.ireturn, 1) → GG E 0 0 (W_X6_carry (eCy E) a_t a_p1 a_p1_speeds a_p1_steps a_t_minutesLeft g_t_0 g_t_1 g_p1_0 g_p1_1 g_p1_5 g_p1_6 g_p1_7 g_p1_8 g_p1_9 g_p1_10 g_p1_11 g_p1_12 g_p1_13 g_p1_14 g_p1_15 g_p1_16 c_p1_parts c_p1_speeds c_p1_steps (v.2.1) (v.2.2)) L pc [.int (wI (v.1))]) : GG E 0 0 (W_X6_carry (eCy E) a_t a_p1 a_p1_speeds a_p1_steps a_t_minutesLeft g_t_0 g_t_1 g_p1_0 g_p1_1 g_p1_5 g_p1_6 g_p1_7 g_p1_8 g_p1_9 g_p1_10 g_p1_11 g_p1_12 g_p1_13 g_p1_14 g_p1_15 g_p1_16 c_p1_parts c_p1_speeds c_p1_steps c_minutesLeft_above c_minutesLeft_below) [some (.ref a_t), some (.ref a_p1), some (.int (wI x2)), some (.int (wI x3)), none, none] 0 [] := by
  unfold m_X6_carry at h
  refine g_iload_n 3 C dX6_carry_0 rfl rfl ?_
  refine g_istore C hN dX6_carry_1 rfl (L' := [some (.ref a_t), some (.ref a_p1), some (.int (wI x2)), some (.int (wI x3)), some (.int (wI x3)), none]) rfl ?_
  refine g_mask [true, true, true, false, true, false] (L' := [some (.ref a_t), some (.ref a_p1), some (.int (wI x2)), none, some (.int (wI x3)), none]) rfl ?_
  exact wl_X6_carry_3 C hN h hret
end S_X6_carry
set_option maxRecDepth 100000 in
set_option maxHeartbeats 4000000 in
theorem c_X6_carry (l : Launch) (D : va_G) (cy : Nat → ClassId) (ad : AD) (a_t a_p1 a_p1_speeds a_p1_steps a_t_minutesLeft : Nat) (g_t_0 : Value) (g_t_1 : Value) (g_p1_0 : Value) (g_p1_1 : Value) (g_p1_5 : Value) (g_p1_6 : Value) (g_p1_7 : Value) (g_p1_8 : Value) (g_p1_9 : Value) (g_p1_10 : Value) (g_p1_11 : Value) (g_p1_12 : Value) (g_p1_13 : Value) (g_p1_14 : Value) (g_p1_15 : Value) (g_p1_16 : Value) (x2 : Int) (x3 : Int) (c_p1_parts : Int) (c_p1_speeds : Int → Int) (c_p1_steps : Int → Int) (c_minutesLeft_above : Int) (c_minutesLeft_below : Int) (F : Nat) {v : Int × Int × Int} (h : m_X6_carry F x2 x3 c_p1_parts c_p1_speeds c_p1_steps c_minutesLeft_above c_minutesLeft_below = some v) : Ct l yX6_carry cX6_carry 6 (some .int) { frames := 2, cells := 0, slots := 0, locals := 55 } D cy ad [.ref a_t, .ref a_p1, .int (wI x2), .int (wI x3)] (W_X6_carry cy a_t a_p1 a_p1_speeds a_p1_steps a_t_minutesLeft g_t_0 g_t_1 g_p1_0 g_p1_1 g_p1_5 g_p1_6 g_p1_7 g_p1_8 g_p1_9 g_p1_10 g_p1_11 g_p1_12 g_p1_13 g_p1_14 g_p1_15 g_p1_16 c_p1_parts c_p1_speeds c_p1_steps c_minutesLeft_above c_minutesLeft_below) (W_X6_carry cy a_t a_p1 a_p1_speeds a_p1_steps a_t_minutesLeft g_t_0 g_t_1 g_p1_0 g_p1_1 g_p1_5 g_p1_6 g_p1_7 g_p1_8 g_p1_9 g_p1_10 g_p1_11 g_p1_12 g_p1_13 g_p1_14 g_p1_15 g_p1_16 c_p1_parts c_p1_speeds c_p1_steps (v.2.1) (v.2.2)) (some (.int (wI (v.1)))) := by
  refine Ct.introI (j := 2) (plainFor_of_name (by decide)) rfl rfl (fun E C e1 e2 e3 e4 e5 hret => ?_)
  subst e1; subst e2; subst e3; subst e4
  exact wm_X6_carry C e5 h hret
-- MovingStair$Travel.partAfter(LMovingStair$Layout;II)I
def W_X6_partAfter (cy : Nat → ClassId) (a_t a_p1 a_p1_speeds a_p1_steps a_t_minutesLeft : Nat) (g_t_0 : Value) (g_t_1 : Value) (g_p1_0 : Value) (g_p1_1 : Value) (g_p1_5 : Value) (g_p1_6 : Value) (g_p1_7 : Value) (g_p1_8 : Value) (g_p1_9 : Value) (g_p1_10 : Value) (g_p1_11 : Value) (g_p1_12 : Value) (g_p1_13 : Value) (g_p1_14 : Value) (g_p1_15 : Value) (g_p1_16 : Value) (c_p1_parts : Int) (c_p1_speeds : Int → Int) (c_p1_steps : Int → Int) (c_minutesLeft_above : Int) (c_minutesLeft_below : Int) : va_W := [(a_t, .inr (6, [g_t_0, g_t_1, .ref a_t_minutesLeft])), (a_p1, .inr (2, [g_p1_0, g_p1_1, .int (wI c_p1_parts), .ref a_p1_steps, .ref a_p1_speeds, g_p1_5, g_p1_6, g_p1_7, g_p1_8, g_p1_9, g_p1_10, g_p1_11, g_p1_12, g_p1_13, g_p1_14, g_p1_15, g_p1_16])), (a_p1_speeds, .inl (cy 1, 4, .inl (aI c_p1_speeds))), (a_p1_steps, .inl (cy 1, 4, .inl (aI c_p1_steps))), (a_t_minutesLeft, .inr (1, [.long (wJ c_minutesLeft_above), .long (wJ c_minutesLeft_below)]))]
def m_X6_partAfter (F : Nat) (x2 : Int) (x3 : Int) (c_p1_parts : Int) (c_p1_speeds : Int → Int) (c_p1_steps : Int → Int) : Option (Int × Int × Int) :=
  chk (r32 x3) <| bnd2 (m_X1_put F x3 60) fun o2 o3 => bnd3 (m_X6_carry F x2 0 c_p1_parts c_p1_speeds c_p1_steps o2 o3) fun r5 o6 o7 => some (r5, o6, o7)
section S_X6_partAfter
variable {E : EE} {a_t a_p1 a_p1_speeds a_p1_steps a_t_minutesLeft : Nat} {g_t_0 : Value} {g_t_1 : Value} {g_p1_0 : Value} {g_p1_1 : Value} {g_p1_5 : Value} {g_p1_6 : Value} {g_p1_7 : Value} {g_p1_8 : Value} {g_p1_9 : Value} {g_p1_10 : Value} {g_p1_11 : Value} {g_p1_12 : Value} {g_p1_13 : Value} {g_p1_14 : Value} {g_p1_15 : Value} {g_p1_16 : Value}
set_option maxRecDepth 100000 in
set_option maxHeartbeats 4000000 in
theorem wm_X6_partAfter {F : Nat} {v : Int × Int × Int} {x2 : Int} {x3 : Int} {c_p1_parts : Int} {c_p1_speeds : Int → Int} {c_p1_steps : Int → Int} {c_minutesLeft_above : Int} {c_minutesLeft_below : Int} (C : Cx E cX6_partAfter RX6 { frames := 3, cells := 0, slots := 0, locals := 80 }) (hN : eN E = 4) (h : m_X6_partAfter F x2 x3 c_p1_parts c_p1_speeds c_p1_steps = some v) (hret : ∀ (pc : Nat) (L : List (Option Value)), decode cX6_partAfter pc = .ok (.ireturn, 1) → GG E 0 0 (W_X6_partAfter (eCy E) a_t a_p1 a_p1_speeds a_p1_steps a_t_minutesLeft g_t_0 g_t_1 g_p1_0 g_p1_1 g_p1_5 g_p1_6 g_p1_7 g_p1_8 g_p1_9 g_p1_10 g_p1_11 g_p1_12 g_p1_13 g_p1_14 g_p1_15 g_p1_16 c_p1_parts c_p1_speeds c_p1_steps (v.2.1) (v.2.2)) L pc [.int (wI (v.1))]) : GG E 0 0 (W_X6_partAfter (eCy E) a_t a_p1 a_p1_speeds a_p1_steps a_t_minutesLeft g_t_0 g_t_1 g_p1_0 g_p1_1 g_p1_5 g_p1_6 g_p1_7 g_p1_8 g_p1_9 g_p1_10 g_p1_11 g_p1_12 g_p1_13 g_p1_14 g_p1_15 g_p1_16 c_p1_parts c_p1_speeds c_p1_steps c_minutesLeft_above c_minutesLeft_below) [some (.ref a_t), some (.ref a_p1), some (.int (wI x2)), some (.int (wI x3))] 0 [] := by
  unfold m_X6_partAfter at h
  refine g_aload_n 0 C dX6_partAfter_0 rfl rfl ?_
  refine g_get C fg_X6_21 0 rfl rfl dX6_partAfter_1 ?_
  refine g_iload_n 3 C dX6_partAfter_4 rfl rfl ?_
  obtain ⟨hc1, h⟩ := chk_some h
  refine g_i2l C dX6_partAfter_5 hc1 ?_
  refine g_ldc2 (v := 60) C mc_X6_56 dX6_partAfter_6 ?_
  obtain ⟨o2, o3, hr4, h⟩ := bnd2_some h
  refine g_callV [4] [0, 1, 2, 3] [0, 1, 2, 3, 4] C mt_X6_24 (c_X1_put _ _ _ _ a_t_minutesLeft x3 60 c_minutesLeft_above c_minutesLeft_below F hr4) (q0 := 0) rfl (ci := 1) rfl rfl rfl (ws2 := (W_X6_partAfter (eCy E) a_t a_p1 a_p1_speeds a_p1_steps a_t_minutesLeft g_t_0 g_t_1 g_p1_0 g_p1_1 g_p1_5 g_p1_6 g_p1_7 g_p1_8 g_p1_9 g_p1_10 g_p1_11 g_p1_12 g_p1_13 g_p1_14 g_p1_15 g_p1_16 c_p1_parts c_p1_speeds c_p1_steps o2 o3)) rfl rfl rfl (rest := []) rfl rfl rfl dX6_partAfter_9 ?_
  refine g_aload_n 0 C dX6_partAfter_12 rfl rfl ?_
  refine g_aload_n 1 C dX6_partAfter_13 rfl rfl ?_
  refine g_iload_n 2 C dX6_partAfter_14 rfl rfl ?_
  refine g_iconst C dX6_partAfter_15 ?_
  obtain ⟨r5, o6, o7, hr8, h⟩ := bnd3_some h
  refine g_callI [0, 1, 2, 3, 4] [] [0, 1, 2, 3, 4] C mt_X6_58 (c_X6_carry _ _ _ _ a_t a_p1 a_p1_speeds a_p1_steps a_t_minutesLeft (g_t_0) (g_t_1) (g_p1_0) (g_p1_1) (g_p1_5) (g_p1_6) (g_p1_7) (g_p1_8) (g_p1_9) (g_p1_10) (g_p1_11) (g_p1_12) (g_p1_13) (g_p1_14) (g_p1_15) (g_p1_16) x2 0 c_p1_parts c_p1_speeds c_p1_steps o2 o3 F hr8) (q0 := 0) rfl (ci := 6) rfl rfl rfl (ws2 := (W_X6_partAfter (eCy E) a_t a_p1 a_p1_speeds a_p1_steps a_t_minutesLeft g_t_0 g_t_1 g_p1_0 g_p1_1 g_p1_5 g_p1_6 g_p1_7 g_p1_8 g_p1_9 g_p1_10 g_p1_11 g_p1_12 g_p1_13 g_p1_14 g_p1_15 g_p1_16 c_p1_parts c_p1_speeds c_p1_steps o6 o7)) rfl rfl rfl (rest := []) rfl rfl rfl dX6_partAfter_16 ?_
  cases h
  exact hret 19 _ dX6_partAfter_19
end S_X6_partAfter
set_option maxRecDepth 100000 in
set_option maxHeartbeats 4000000 in
theorem c_X6_partAfter (l : Launch) (D : va_G) (cy : Nat → ClassId) (ad : AD) (a_t a_p1 a_p1_speeds a_p1_steps a_t_minutesLeft : Nat) (g_t_0 : Value) (g_t_1 : Value) (g_p1_0 : Value) (g_p1_1 : Value) (g_p1_5 : Value) (g_p1_6 : Value) (g_p1_7 : Value) (g_p1_8 : Value) (g_p1_9 : Value) (g_p1_10 : Value) (g_p1_11 : Value) (g_p1_12 : Value) (g_p1_13 : Value) (g_p1_14 : Value) (g_p1_15 : Value) (g_p1_16 : Value) (x2 : Int) (x3 : Int) (c_p1_parts : Int) (c_p1_speeds : Int → Int) (c_p1_steps : Int → Int) (c_minutesLeft_above : Int) (c_minutesLeft_below : Int) (F : Nat) {v : Int × Int × Int} (h : m_X6_partAfter F x2 x3 c_p1_parts c_p1_speeds c_p1_steps = some v) : Ct l yX6_partAfter cX6_partAfter 4 (some .int) { frames := 3, cells := 0, slots := 0, locals := 80 } D cy ad [.ref a_t, .ref a_p1, .int (wI x2), .int (wI x3)] (W_X6_partAfter cy a_t a_p1 a_p1_speeds a_p1_steps a_t_minutesLeft g_t_0 g_t_1 g_p1_0 g_p1_1 g_p1_5 g_p1_6 g_p1_7 g_p1_8 g_p1_9 g_p1_10 g_p1_11 g_p1_12 g_p1_13 g_p1_14 g_p1_15 g_p1_16 c_p1_parts c_p1_speeds c_p1_steps c_minutesLeft_above c_minutesLeft_below) (W_X6_partAfter cy a_t a_p1 a_p1_speeds a_p1_steps a_t_minutesLeft g_t_0 g_t_1 g_p1_0 g_p1_1 g_p1_5 g_p1_6 g_p1_7 g_p1_8 g_p1_9 g_p1_10 g_p1_11 g_p1_12 g_p1_13 g_p1_14 g_p1_15 g_p1_16 c_p1_parts c_p1_speeds c_p1_steps (v.2.1) (v.2.2)) (some (.int (wI (v.1)))) := by
  refine Ct.introI (j := 0) (plainFor_of_name (by decide)) rfl rfl (fun E C e1 e2 e3 e4 e5 hret => ?_)
  subst e1; subst e2; subst e3; subst e4
  exact wm_X6_partAfter C e5 h hret
-- MovingStair$Travel.stepsAfter(LMovingStair$Layout;II)I
def W_X6_stepsAfter (cy : Nat → ClassId) (a_t a_p1 a_p1_speeds a_p1_steps a_t_minutesLeft : Nat) (g_t_0 : Value) (g_t_1 : Value) (g_p1_0 : Value) (g_p1_1 : Value) (g_p1_5 : Value) (g_p1_6 : Value) (g_p1_7 : Value) (g_p1_8 : Value) (g_p1_9 : Value) (g_p1_10 : Value) (g_p1_11 : Value) (g_p1_12 : Value) (g_p1_13 : Value) (g_p1_14 : Value) (g_p1_15 : Value) (g_p1_16 : Value) (c_p1_parts : Int) (c_p1_speeds : Int → Int) (c_p1_steps : Int → Int) (c_minutesLeft_above : Int) (c_minutesLeft_below : Int) : va_W := [(a_t, .inr (6, [g_t_0, g_t_1, .ref a_t_minutesLeft])), (a_p1, .inr (2, [g_p1_0, g_p1_1, .int (wI c_p1_parts), .ref a_p1_steps, .ref a_p1_speeds, g_p1_5, g_p1_6, g_p1_7, g_p1_8, g_p1_9, g_p1_10, g_p1_11, g_p1_12, g_p1_13, g_p1_14, g_p1_15, g_p1_16])), (a_p1_speeds, .inl (cy 1, 4, .inl (aI c_p1_speeds))), (a_p1_steps, .inl (cy 1, 4, .inl (aI c_p1_steps))), (a_t_minutesLeft, .inr (1, [.long (wJ c_minutesLeft_above), .long (wJ c_minutesLeft_below)]))]
def m_X6_stepsAfter (F : Nat) (x2 : Int) (x3 : Int) (c_p1_parts : Int) (c_p1_speeds : Int → Int) (c_p1_steps : Int → Int) : Option (Int × Int × Int) :=
  bnd3 (m_X6_partAfter F x2 x3 c_p1_parts c_p1_speeds c_p1_steps) fun r1 o2 o3 => bnd1 (m_X2_stepsAhead F r1 c_p1_steps) fun r5 => bnd1 (m_X2_hasPart F r1 c_p1_parts) fun r7 => if wI r7 = wI 0 then
    (some (r5, o2, o3))
  else
    (chk (0 ≤ r1 ∧ r1 < 4) <| bnd1 (m_J9_max_7cf53 F 0 (x2 + (c_p1_speeds r1))) fun r10 => chk (r32 r10) <| bnd1 (m_X1_wholeOf F r10 o2 o3) fun r13 => some (r5 + r13, o2, o3))
section S_X6_stepsAfter
variable {E : EE} {a_t a_p1 a_p1_speeds a_p1_steps a_t_minutesLeft : Nat} {g_t_0 : Value} {g_t_1 : Value} {g_p1_0 : Value} {g_p1_1 : Value} {g_p1_5 : Value} {g_p1_6 : Value} {g_p1_7 : Value} {g_p1_8 : Value} {g_p1_9 : Value} {g_p1_10 : Value} {g_p1_11 : Value} {g_p1_12 : Value} {g_p1_13 : Value} {g_p1_14 : Value} {g_p1_15 : Value} {g_p1_16 : Value}
set_option maxRecDepth 100000 in
set_option maxHeartbeats 4000000 in
theorem wm_X6_stepsAfter {F : Nat} {v : Int × Int × Int} {x2 : Int} {x3 : Int} {c_p1_parts : Int} {c_p1_speeds : Int → Int} {c_p1_steps : Int → Int} {c_minutesLeft_above : Int} {c_minutesLeft_below : Int} (C : Cx E cX6_stepsAfter RX6 { frames := 4, cells := 0, slots := 0, locals := 103 }) (hN : eN E = 7) (h : m_X6_stepsAfter F x2 x3 c_p1_parts c_p1_speeds c_p1_steps = some v) (hret : ∀ (pc : Nat) (L : List (Option Value)), decode cX6_stepsAfter pc = .ok (.ireturn, 1) → GG E 0 0 (W_X6_stepsAfter (eCy E) a_t a_p1 a_p1_speeds a_p1_steps a_t_minutesLeft g_t_0 g_t_1 g_p1_0 g_p1_1 g_p1_5 g_p1_6 g_p1_7 g_p1_8 g_p1_9 g_p1_10 g_p1_11 g_p1_12 g_p1_13 g_p1_14 g_p1_15 g_p1_16 c_p1_parts c_p1_speeds c_p1_steps (v.2.1) (v.2.2)) L pc [.int (wI (v.1))]) : GG E 0 0 (W_X6_stepsAfter (eCy E) a_t a_p1 a_p1_speeds a_p1_steps a_t_minutesLeft g_t_0 g_t_1 g_p1_0 g_p1_1 g_p1_5 g_p1_6 g_p1_7 g_p1_8 g_p1_9 g_p1_10 g_p1_11 g_p1_12 g_p1_13 g_p1_14 g_p1_15 g_p1_16 c_p1_parts c_p1_speeds c_p1_steps c_minutesLeft_above c_minutesLeft_below) [some (.ref a_t), some (.ref a_p1), some (.int (wI x2)), some (.int (wI x3)), none, none, none] 0 [] := by
  unfold m_X6_stepsAfter at h
  refine g_aload_n 0 C dX6_stepsAfter_0 rfl rfl ?_
  refine g_aload_n 1 C dX6_stepsAfter_1 rfl rfl ?_
  refine g_iload_n 2 C dX6_stepsAfter_2 rfl rfl ?_
  refine g_iload_n 3 C dX6_stepsAfter_3 rfl rfl ?_
  obtain ⟨r1, o2, o3, hr4, h⟩ := bnd3_some h
  refine g_callI [0, 1, 2, 3, 4] [] [0, 1, 2, 3, 4] C mt_X6_62 (c_X6_partAfter _ _ _ _ a_t a_p1 a_p1_speeds a_p1_steps a_t_minutesLeft (g_t_0) (g_t_1) (g_p1_0) (g_p1_1) (g_p1_5) (g_p1_6) (g_p1_7) (g_p1_8) (g_p1_9) (g_p1_10) (g_p1_11) (g_p1_12) (g_p1_13) (g_p1_14) (g_p1_15) (g_p1_16) x2 x3 c_p1_parts c_p1_speeds c_p1_steps c_minutesLeft_above c_minutesLeft_below F hr4) (q0 := 0) rfl (ci := 6) rfl rfl rfl (ws2 := (W_X6_stepsAfter (eCy E) a_t a_p1 a_p1_speeds a_p1_steps a_t_minutesLeft g_t_0 g_t_1 g_p1_0 g_p1_1 g_p1_5 g_p1_6 g_p1_7 g_p1_8 g_p1_9 g_p1_10 g_p1_11 g_p1_12 g_p1_13 g_p1_14 g_p1_15 g_p1_16 c_p1_parts c_p1_speeds c_p1_steps o2 o3)) rfl rfl rfl (rest := []) rfl rfl rfl dX6_stepsAfter_4 ?_
  refine g_istore C hN dX6_stepsAfter_7 rfl (L' := [some (.ref a_t), some (.ref a_p1), some (.int (wI x2)), some (.int (wI x3)), some (.int (wI r1)), none, none]) rfl ?_
  refine g_aload_n 1 C dX6_stepsAfter_9 rfl rfl ?_
  refine g_iload C dX6_stepsAfter_10 rfl ?_
  obtain ⟨r5, hr6, h⟩ := bnd1_some h
  refine g_callI [1, 3] [0, 2, 4] [0, 3, 1, 4, 2] C mt_X6_65 (c_X2_stepsAhead _ _ _ _ a_p1 a_p1_steps (g_p1_0) (g_p1_1) (.int (wI c_p1_parts)) (.ref a_p1_speeds) (g_p1_5) (g_p1_6) (g_p1_7) (g_p1_8) (g_p1_9) (g_p1_10) (g_p1_11) (g_p1_12) (g_p1_13) (g_p1_14) (g_p1_15) (g_p1_16) r1 c_p1_steps F hr6) (q0 := 0) rfl (ci := 2) rfl rfl rfl (ws2 := (W_X6_stepsAfter (eCy E) a_t a_p1 a_p1_speeds a_p1_steps a_t_minutesLeft g_t_0 g_t_1 g_p1_0 g_p1_1 g_p1_5 g_p1_6 g_p1_7 g_p1_8 g_p1_9 g_p1_10 g_p1_11 g_p1_12 g_p1_13 g_p1_14 g_p1_15 g_p1_16 c_p1_parts c_p1_speeds c_p1_steps o2 o3)) rfl rfl rfl (rest := []) rfl rfl rfl dX6_stepsAfter_12 ?_
  refine g_istore C hN dX6_stepsAfter_15 rfl (L' := [some (.ref a_t), some (.ref a_p1), some (.int (wI x2)), some (.int (wI x3)), some (.int (wI r1)), some (.int (wI r5)), none]) rfl ?_
  refine g_aload_n 1 C dX6_stepsAfter_17 rfl rfl ?_
  refine g_iload C dX6_stepsAfter_18 rfl ?_
  obtain ⟨r7, hr8, h⟩ := bnd1_some h
  refine g_callI [1] [0, 2, 3, 4] [0, 4, 1, 2, 3] C mt_X6_69 (c_X2_hasPart _ _ _ _ a_p1 (g_p1_0) (g_p1_1) (.ref a_p1_steps) (.ref a_p1_speeds) (g_p1_5) (g_p1_6) (g_p1_7) (g_p1_8) (g_p1_9) (g_p1_10) (g_p1_11) (g_p1_12) (g_p1_13) (g_p1_14) (g_p1_15) (g_p1_16) r1 c_p1_parts F hr8) (q0 := 0) rfl (ci := 2) rfl rfl rfl (ws2 := (W_X6_stepsAfter (eCy E) a_t a_p1 a_p1_speeds a_p1_steps a_t_minutesLeft g_t_0 g_t_1 g_p1_0 g_p1_1 g_p1_5 g_p1_6 g_p1_7 g_p1_8 g_p1_9 g_p1_10 g_p1_11 g_p1_12 g_p1_13 g_p1_14 g_p1_15 g_p1_16 c_p1_parts c_p1_speeds c_p1_steps o2 o3)) rfl rfl rfl (rest := []) rfl rfl rfl dX6_stepsAfter_20 ?_
  refine g_if_ne 29 C dX6_stepsAfter_23 (by decide) h (fun h => ?_) (fun h => ?_)
  · refine g_iconst C dX6_stepsAfter_29 ?_
    refine g_iload_n 2 C dX6_stepsAfter_30 rfl rfl ?_
    refine g_aload_n 1 C dX6_stepsAfter_31 rfl rfl ?_
    refine g_get C fg_X6_38 1 rfl rfl dX6_stepsAfter_32 ?_
    refine g_iload C dX6_stepsAfter_35 rfl ?_
    obtain ⟨hc9, h⟩ := chk_some h
    refine g_iald C 2 rfl hc9 rfl dX6_stepsAfter_37 ?_
    refine g_iadd C dX6_stepsAfter_38 ?_
    obtain ⟨r10, hr11, h⟩ := bnd1_some h
    refine g_callSI [] [0, 1, 2, 3, 4] [0, 1, 2, 3, 4] C mt_X6_73 (c_J9_max_7cf53 _ _ _ _ 0 (x2 + (c_p1_speeds r1)) F hr11) rfl rfl (ws2 := (W_X6_stepsAfter (eCy E) a_t a_p1 a_p1_speeds a_p1_steps a_t_minutesLeft g_t_0 g_t_1 g_p1_0 g_p1_1 g_p1_5 g_p1_6 g_p1_7 g_p1_8 g_p1_9 g_p1_10 g_p1_11 g_p1_12 g_p1_13 g_p1_14 g_p1_15 g_p1_16 c_p1_parts c_p1_speeds c_p1_steps o2 o3)) rfl rfl rfl (rest := []) rfl rfl rfl dX6_stepsAfter_39 ?_
    refine g_istore C hN dX6_stepsAfter_42 rfl (L' := [some (.ref a_t), some (.ref a_p1), some (.int (wI x2)), some (.int (wI x3)), some (.int (wI r1)), some (.int (wI r5)), some (.int (wI r10))]) rfl ?_
    refine g_iload C dX6_stepsAfter_44 rfl ?_
    refine g_aload_n 0 C dX6_stepsAfter_46 rfl rfl ?_
    refine g_get C fg_X6_21 0 rfl rfl dX6_stepsAfter_47 ?_
    refine g_iload C dX6_stepsAfter_50 rfl ?_
    obtain ⟨hc12, h⟩ := chk_some h
    refine g_i2l C dX6_stepsAfter_52 hc12 ?_
    obtain ⟨r13, hr14, h⟩ := bnd1_some h
    refine g_callJ [4] [0, 1, 2, 3] [0, 1, 2, 3, 4] C mt_X6_79 (c_X1_wholeOf _ _ _ _ a_t_minutesLeft r10 o2 o3 F hr14) (q0 := 0) rfl (ci := 1) rfl rfl rfl (ws2 := (W_X6_stepsAfter (eCy E) a_t a_p1 a_p1_speeds a_p1_steps a_t_minutesLeft g_t_0 g_t_1 g_p1_0 g_p1_1 g_p1_5 g_p1_6 g_p1_7 g_p1_8 g_p1_9 g_p1_10 g_p1_11 g_p1_12 g_p1_13 g_p1_14 g_p1_15 g_p1_16 c_p1_parts c_p1_speeds c_p1_steps o2 o3)) rfl rfl rfl (rest := [.int (wI r5)]) rfl rfl rfl dX6_stepsAfter_53 ?_
    refine g_l2i C dX6_stepsAfter_56 ?_
    refine g_iadd C dX6_stepsAfter_57 ?_
    cases h
    exact hret 58 _ dX6_stepsAfter_58
  · refine g_iload C dX6_stepsAfter_26 rfl ?_
    cases h
    exact hret 28 _ dX6_stepsAfter_28
end S_X6_stepsAfter
set_option maxRecDepth 100000 in
set_option maxHeartbeats 4000000 in
theorem c_X6_stepsAfter (l : Launch) (D : va_G) (cy : Nat → ClassId) (ad : AD) (a_t a_p1 a_p1_speeds a_p1_steps a_t_minutesLeft : Nat) (g_t_0 : Value) (g_t_1 : Value) (g_p1_0 : Value) (g_p1_1 : Value) (g_p1_5 : Value) (g_p1_6 : Value) (g_p1_7 : Value) (g_p1_8 : Value) (g_p1_9 : Value) (g_p1_10 : Value) (g_p1_11 : Value) (g_p1_12 : Value) (g_p1_13 : Value) (g_p1_14 : Value) (g_p1_15 : Value) (g_p1_16 : Value) (x2 : Int) (x3 : Int) (c_p1_parts : Int) (c_p1_speeds : Int → Int) (c_p1_steps : Int → Int) (c_minutesLeft_above : Int) (c_minutesLeft_below : Int) (F : Nat) {v : Int × Int × Int} (h : m_X6_stepsAfter F x2 x3 c_p1_parts c_p1_speeds c_p1_steps = some v) : Ct l yX6_stepsAfter cX6_stepsAfter 7 (some .int) { frames := 4, cells := 0, slots := 0, locals := 103 } D cy ad [.ref a_t, .ref a_p1, .int (wI x2), .int (wI x3)] (W_X6_stepsAfter cy a_t a_p1 a_p1_speeds a_p1_steps a_t_minutesLeft g_t_0 g_t_1 g_p1_0 g_p1_1 g_p1_5 g_p1_6 g_p1_7 g_p1_8 g_p1_9 g_p1_10 g_p1_11 g_p1_12 g_p1_13 g_p1_14 g_p1_15 g_p1_16 c_p1_parts c_p1_speeds c_p1_steps c_minutesLeft_above c_minutesLeft_below) (W_X6_stepsAfter cy a_t a_p1 a_p1_speeds a_p1_steps a_t_minutesLeft g_t_0 g_t_1 g_p1_0 g_p1_1 g_p1_5 g_p1_6 g_p1_7 g_p1_8 g_p1_9 g_p1_10 g_p1_11 g_p1_12 g_p1_13 g_p1_14 g_p1_15 g_p1_16 c_p1_parts c_p1_speeds c_p1_steps (v.2.1) (v.2.2)) (some (.int (wI (v.1)))) := by
  refine Ct.introI (j := 3) (plainFor_of_name (by decide)) rfl rfl (fun E C e1 e2 e3 e4 e5 hret => ?_)
  subst e1; subst e2; subst e3; subst e4
  exact wm_X6_stepsAfter C e5 h hret
-- MovingStair$Travel.changes(LMovingStair$Layout;IIIZI)Z
def W_X6_changes (cy : Nat → ClassId) (a_t a_p1 a_p1_speeds a_p1_steps a_t_minutesLeft a_t_sum : Nat) (g_t_1 : Value) (g_p1_0 : Value) (g_p1_1 : Value) (g_p1_5 : Value) (g_p1_6 : Value) (g_p1_7 : Value) (g_p1_8 : Value) (g_p1_9 : Value) (g_p1_10 : Value) (g_p1_11 : Value) (g_p1_12 : Value) (g_p1_13 : Value) (g_p1_14 : Value) (g_p1_15 : Value) (g_p1_16 : Value) (c_p1_parts : Int) (c_p1_speeds : Int → Int) (c_p1_steps : Int → Int) (c_minutesLeft_above : Int) (c_minutesLeft_below : Int) (c_sum_above : Int) (c_sum_below : Int) : va_W := [(a_t, .inr (6, [.ref a_t_sum, g_t_1, .ref a_t_minutesLeft])), (a_p1, .inr (2, [g_p1_0, g_p1_1, .int (wI c_p1_parts), .ref a_p1_steps, .ref a_p1_speeds, g_p1_5, g_p1_6, g_p1_7, g_p1_8, g_p1_9, g_p1_10, g_p1_11, g_p1_12, g_p1_13, g_p1_14, g_p1_15, g_p1_16])), (a_p1_speeds, .inl (cy 1, 4, .inl (aI c_p1_speeds))), (a_p1_steps, .inl (cy 1, 4, .inl (aI c_p1_steps))), (a_t_minutesLeft, .inr (1, [.long (wJ c_minutesLeft_above), .long (wJ c_minutesLeft_below)])), (a_t_sum, .inr (1, [.long (wJ c_sum_above), .long (wJ c_sum_below)]))]
def m_X6_changes (F : Nat) (x2 : Int) (x3 : Int) (x4 : Int) (x5 : Int) (x6 : Int) (c_p1_parts : Int) (c_p1_speeds : Int → Int) (c_p1_steps : Int → Int) (c_minutesLeft_above : Int) (c_minutesLeft_below : Int) : Option (Int × Int × Int × Int × Int) :=
  bnd2 (m_X1_put F 0 1) fun o1 o2 => bnd3 (m_X6_addTimes F x2 0 0 x6 c_p1_parts c_p1_speeds c_p1_steps o1 o2) fun r4 o5 o6 => if wI r4 = wI 0 then
    (some (0, c_minutesLeft_above, c_minutesLeft_below, o5, o6))
  else
    (chk (r32 x4) <| bnd2 (m_X1_put F x4 1) fun o9 o10 => bnd3 (m_X6_carry F x3 x6 c_p1_parts c_p1_speeds c_p1_steps o9 o10) fun r12 o13 o14 => chk (r32 x4) <| bnd2 (m_X1_add F x4 1 o5 o6) fun o17 o18 => bnd1 (m_X2_hasPart F r12 c_p1_parts) fun r20 => if wI r20 = wI 0 then
    (if wI x5 = wI 0 then
    (bnd2 (m_X1_add F (-o13) o14 o17 o18) fun o22 o23 => some (1, o13, o14, o22, o23))
  else
    (some (1, o13, o14, o17, o18)))
  else
    (chk (0 ≤ r12 ∧ r12 < 4) <| nam (x2 + (c_p1_speeds r12)) fun y23 => if wI 0 < wI y23 then
    (chk (0 ≤ r12 ∧ r12 < 4) <| bnd1 (m_J9_max_7cf53 F 0 (x3 + (c_p1_speeds r12))) fun r25 => chk (r32 r25) <| nam (r25 * o13) fun y28 => chk (0 ≤ r12 ∧ r12 < 4) <| chk (r32 (c_p1_steps r12)) <| nam ((c_p1_steps r12) * o14) fun y31 => chk (r32 y23) <| bnd2 (m_X1_add F (y31 - y28) (o14 * y23) o17 o18) fun o33 o34 => bnd3 (m_X6_addTimes F x2 0 (r12 + 1) c_p1_parts c_p1_parts c_p1_speeds c_p1_steps o33 o34) fun r36 o37 o38 => chk (r36 = 0 ∨ r36 = 1) <| some (r36, o13, o14, o37, o38))
  else
    (some (0, o13, o14, o17, o18))))
section S_X6_changes
variable {E : EE} {a_t a_p1 a_p1_speeds a_p1_steps a_t_minutesLeft a_t_sum : Nat} {g_t_1 : Value} {g_p1_0 : Value} {g_p1_1 : Value} {g_p1_5 : Value} {g_p1_6 : Value} {g_p1_7 : Value} {g_p1_8 : Value} {g_p1_9 : Value} {g_p1_10 : Value} {g_p1_11 : Value} {g_p1_12 : Value} {g_p1_13 : Value} {g_p1_14 : Value} {g_p1_15 : Value} {g_p1_16 : Value}
set_option maxRecDepth 100000 in
set_option maxHeartbeats 4000000 in
theorem wm_X6_changes {F : Nat} {v : Int × Int × Int × Int × Int} {x2 : Int} {x3 : Int} {x4 : Int} {x5 : Int} {x6 : Int} {c_p1_parts : Int} {c_p1_speeds : Int → Int} {c_p1_steps : Int → Int} {c_minutesLeft_above : Int} {c_minutesLeft_below : Int} {c_sum_above : Int} {c_sum_below : Int} (C : Cx E cX6_changes RX6 { frames := 3, cells := 0, slots := 0, locals := 82 }) (hN : eN E = 13) (h : m_X6_changes F x2 x3 x4 x5 x6 c_p1_parts c_p1_speeds c_p1_steps c_minutesLeft_above c_minutesLeft_below = some v) (hret : ∀ (pc : Nat) (L : List (Option Value)), narrow .boolean (.int (wI (v.1))) = .int (wI (v.1)) → decode cX6_changes pc = .ok (.ireturn, 1) → GG E 0 0 (W_X6_changes (eCy E) a_t a_p1 a_p1_speeds a_p1_steps a_t_minutesLeft a_t_sum g_t_1 g_p1_0 g_p1_1 g_p1_5 g_p1_6 g_p1_7 g_p1_8 g_p1_9 g_p1_10 g_p1_11 g_p1_12 g_p1_13 g_p1_14 g_p1_15 g_p1_16 c_p1_parts c_p1_speeds c_p1_steps (v.2.1) (v.2.2.1) (v.2.2.2.1) (v.2.2.2.2)) L pc [.int (wI (v.1))]) : GG E 0 0 (W_X6_changes (eCy E) a_t a_p1 a_p1_speeds a_p1_steps a_t_minutesLeft a_t_sum g_t_1 g_p1_0 g_p1_1 g_p1_5 g_p1_6 g_p1_7 g_p1_8 g_p1_9 g_p1_10 g_p1_11 g_p1_12 g_p1_13 g_p1_14 g_p1_15 g_p1_16 c_p1_parts c_p1_speeds c_p1_steps c_minutesLeft_above c_minutesLeft_below c_sum_above c_sum_below) [some (.ref a_t), some (.ref a_p1), some (.int (wI x2)), some (.int (wI x3)), some (.int (wI x4)), some (.int (wI x5)), some (.int (wI x6)), none, none, none, none, none, none] 0 [] := by
  unfold m_X6_changes at h
  refine g_aload_n 0 C dX6_changes_0 rfl rfl ?_
  refine g_get C fg_X6_12 0 rfl rfl dX6_changes_1 ?_
  refine g_lconst (x := 0) C dX6_changes_4 (by decide) ?_
  refine g_lconst (x := 1) C dX6_changes_5 (by decide) ?_
  obtain ⟨o1, o2, hr3, h⟩ := bnd2_some h
  refine g_callV [5] [0, 1, 2, 3, 4] [0, 1, 2, 3, 4, 5] C mt_X6_24 (c_X1_put _ _ _ _ a_t_sum 0 1 c_sum_above c_sum_below F hr3) (q0 := 0) rfl (ci := 1) rfl rfl rfl (ws2 := (W_X6_changes (eCy E) a_t a_p1 a_p1_speeds a_p1_steps a_t_minutesLeft a_t_sum g_t_1 g_p1_0 g_p1_1 g_p1_5 g_p1_6 g_p1_7 g_p1_8 g_p1_9 g_p1_10 g_p1_11 g_p1_12 g_p1_13 g_p1_14 g_p1_15 g_p1_16 c_p1_parts c_p1_speeds c_p1_steps c_minutesLeft_above c_minutesLeft_below o1 o2)) rfl rfl rfl (rest := []) rfl rfl rfl dX6_changes_6 ?_
  refine g_aload_n 0 C dX6_changes_9 rfl rfl ?_
  refine g_aload_n 1 C dX6_changes_10 rfl rfl ?_
  refine g_iload_n 2 C dX6_changes_11 rfl rfl ?_
  refine g_iconst C dX6_changes_12 ?_
  refine g_iconst C dX6_changes_13 ?_
  refine g_iload C dX6_changes_14 rfl ?_
  obtain ⟨r4, o5, o6, hr7, h⟩ := bnd3_some h
  refine g_callI [0, 1, 2, 3, 5] [4] [1, 2, 3, 4, 0, 5] C mt_X6_34 (c_X6_addTimes _ _ _ _ a_t a_p1 a_p1_speeds a_p1_steps a_t_sum (g_t_1) (.ref a_t_minutesLeft) (g_p1_0) (g_p1_1) (g_p1_5) (g_p1_6) (g_p1_7) (g_p1_8) (g_p1_9) (g_p1_10) (g_p1_11) (g_p1_12) (g_p1_13) (g_p1_14) (g_p1_15) (g_p1_16) x2 0 0 x6 c_p1_parts c_p1_speeds c_p1_steps o1 o2 F hr7) (q0 := 0) rfl (ci := 6) rfl rfl rfl (ws2 := (W_X6_changes (eCy E) a_t a_p1 a_p1_speeds a_p1_steps a_t_minutesLeft a_t_sum g_t_1 g_p1_0 g_p1_1 g_p1_5 g_p1_6 g_p1_7 g_p1_8 g_p1_9 g_p1_10 g_p1_11 g_p1_12 g_p1_13 g_p1_14 g_p1_15 g_p1_16 c_p1_parts c_p1_speeds c_p1_steps c_minutesLeft_above c_minutesLeft_below o5 o6)) rfl rfl rfl (rest := []) rfl rfl rfl dX6_changes_16 ?_
  refine g_if_ne 24 C dX6_changes_19 (by decide) h (fun h => ?_) (fun h => ?_)
  · refine g_aload_n 0 C dX6_changes_24 rfl rfl ?_
    refine g_get C fg_X6_21 0 rfl rfl dX6_changes_25 ?_
    refine g_iload C dX6_changes_28 rfl ?_
    obtain ⟨hc8, h⟩ := chk_some h
    refine g_i2l C dX6_changes_30 hc8 ?_
    refine g_lconst (x := 1) C dX6_changes_31 (by decide) ?_
    obtain ⟨o9, o10, hr11, h⟩ := bnd2_some h
    refine g_callV [4] [0, 1, 2, 3, 5] [0, 1, 2, 3, 5, 4] C mt_X6_24 (c_X1_put _ _ _ _ a_t_minutesLeft x4 1 c_minutesLeft_above c_minutesLeft_below F hr11) (q0 := 0) rfl (ci := 1) rfl rfl rfl (ws2 := (W_X6_changes (eCy E) a_t a_p1 a_p1_speeds a_p1_steps a_t_minutesLeft a_t_sum g_t_1 g_p1_0 g_p1_1 g_p1_5 g_p1_6 g_p1_7 g_p1_8 g_p1_9 g_p1_10 g_p1_11 g_p1_12 g_p1_13 g_p1_14 g_p1_15 g_p1_16 c_p1_parts c_p1_speeds c_p1_steps o9 o10 o5 o6)) rfl rfl rfl (rest := []) rfl rfl rfl dX6_changes_32 ?_
    refine g_aload_n 0 C dX6_changes_35 rfl rfl ?_
    refine g_aload_n 1 C dX6_changes_36 rfl rfl ?_
    refine g_iload_n 3 C dX6_changes_37 rfl rfl ?_
    refine g_iload C dX6_changes_38 rfl ?_
    obtain ⟨r12, o13, o14, hr15, h⟩ := bnd3_some h
    refine g_callI [0, 1, 2, 3, 4] [5] [1, 2, 3, 4, 5, 0] C mt_X6_58 (c_X6_carry _ _ _ _ a_t a_p1 a_p1_speeds a_p1_steps a_t_minutesLeft (.ref a_t_sum) (g_t_1) (g_p1_0) (g_p1_1) (g_p1_5) (g_p1_6) (g_p1_7) (g_p1_8) (g_p1_9) (g_p1_10) (g_p1_11) (g_p1_12) (g_p1_13) (g_p1_14) (g_p1_15) (g_p1_16) x3 x6 c_p1_parts c_p1_speeds c_p1_steps o9 o10 F hr15) (q0 := 0) rfl (ci := 6) rfl rfl rfl (ws2 := (W_X6_changes (eCy E) a_t a_p1 a_p1_speeds a_p1_steps a_t_minutesLeft a_t_sum g_t_1 g_p1_0 g_p1_1 g_p1_5 g_p1_6 g_p1_7 g_p1_8 g_p1_9 g_p1_10 g_p1_11 g_p1_12 g_p1_13 g_p1_14 g_p1_15 g_p1_16 c_p1_parts c_p1_speeds c_p1_steps o13 o14 o5 o6)) rfl rfl rfl (rest := []) rfl rfl rfl dX6_changes_40 ?_
    refine g_istore C hN dX6_changes_43 rfl (L' := [some (.ref a_t), some (.ref a_p1), some (.int (wI x2)), some (.int (wI x3)), some (.int (wI x4)), some (.int (wI x5)), some (.int (wI x6)), some (.int (wI r12)), none, none, none, none, none]) rfl ?_
    refine g_aload_n 0 C dX6_changes_45 rfl rfl ?_
    refine g_get C fg_X6_12 0 rfl rfl dX6_changes_46 ?_
    refine g_iload C dX6_changes_49 rfl ?_
    obtain ⟨hc16, h⟩ := chk_some h
    refine g_i2l C dX6_changes_51 hc16 ?_
    refine g_lconst (x := 1) C dX6_changes_52 (by decide) ?_
    obtain ⟨o17, o18, hr19, h⟩ := bnd2_some h
    refine g_callV [5] [0, 1, 2, 3, 4] [0, 1, 2, 3, 4, 5] C mt_X6_45 (c_X1_add _ _ _ _ a_t_sum x4 1 o5 o6 F hr19) (q0 := 0) rfl (ci := 1) rfl rfl rfl (ws2 := (W_X6_changes (eCy E) a_t a_p1 a_p1_speeds a_p1_steps a_t_minutesLeft a_t_sum g_t_1 g_p1_0 g_p1_1 g_p1_5 g_p1_6 g_p1_7 g_p1_8 g_p1_9 g_p1_10 g_p1_11 g_p1_12 g_p1_13 g_p1_14 g_p1_15 g_p1_16 c_p1_parts c_p1_speeds c_p1_steps o13 o14 o17 o18)) rfl rfl rfl (rest := []) rfl rfl rfl dX6_changes_53 ?_
    refine g_aload_n 1 C dX6_changes_56 rfl rfl ?_
    refine g_iload C dX6_changes_57 rfl ?_
    obtain ⟨r20, hr21, h⟩ := bnd1_some h
    refine g_callI [1] [0, 2, 3, 4, 5] [0, 5, 1, 2, 3, 4] C mt_X6_69 (c_X2_hasPart _ _ _ _ a_p1 (g_p1_0) (g_p1_1) (.ref a_p1_steps) (.ref a_p1_speeds) (g_p1_5) (g_p1_6) (g_p1_7) (g_p1_8) (g_p1_9) (g_p1_10) (g_p1_11) (g_p1_12) (g_p1_13) (g_p1_14) (g_p1_15) (g_p1_16) r12 c_p1_parts F hr21) (q0 := 0) rfl (ci := 2) rfl rfl rfl (ws2 := (W_X6_changes (eCy E) a_t a_p1 a_p1_speeds a_p1_steps a_t_minutesLeft a_t_sum g_t_1 g_p1_0 g_p1_1 g_p1_5 g_p1_6 g_p1_7 g_p1_8 g_p1_9 g_p1_10 g_p1_11 g_p1_12 g_p1_13 g_p1_14 g_p1_15 g_p1_16 c_p1_parts c_p1_speeds c_p1_steps o13 o14 o17 o18)) rfl rfl rfl (rest := []) rfl rfl rfl dX6_changes_59 ?_
    refine g_if_ne 94 C dX6_changes_62 (by decide) h (fun h => ?_) (fun h => ?_)
    · refine g_iload_n 2 C dX6_changes_94 rfl rfl ?_
      refine g_aload_n 1 C dX6_changes_95 rfl rfl ?_
      refine g_get C fg_X6_38 1 rfl rfl dX6_changes_96 ?_
      refine g_iload C dX6_changes_99 rfl ?_
      obtain ⟨hc22, h⟩ := chk_some h
      refine g_iald C 2 rfl hc22 rfl dX6_changes_101 ?_
      refine g_iadd C dX6_changes_102 ?_
      obtain ⟨y23, e_y23, h⟩ := nam_some h
      refine g_topI e_y23 ?_
      refine g_istore C hN dX6_changes_103 rfl (L' := [some (.ref a_t), some (.ref a_p1), some (.int (wI x2)), some (.int (wI x3)), some (.int (wI x4)), some (.int (wI x5)), some (.int (wI x6)), some (.int (wI r12)), some (.int (wI y23)), none, none, none, none]) rfl ?_
      refine g_iload C dX6_changes_105 rfl ?_
      refine g_if_gt 112 C dX6_changes_107 (by decide) h (fun h => ?_) (fun h => ?_)
      · refine g_iconst C dX6_changes_112 ?_
        refine g_iload_n 3 C dX6_changes_113 rfl rfl ?_
        refine g_aload_n 1 C dX6_changes_114 rfl rfl ?_
        refine g_get C fg_X6_38 1 rfl rfl dX6_changes_115 ?_
        refine g_iload C dX6_changes_118 rfl ?_
        obtain ⟨hc24, h⟩ := chk_some h
        refine g_iald C 2 rfl hc24 rfl dX6_changes_120 ?_
        refine g_iadd C dX6_changes_121 ?_
        obtain ⟨r25, hr26, h⟩ := bnd1_some h
        refine g_callSI [] [0, 1, 2, 3, 4, 5] [0, 1, 2, 3, 4, 5] C mt_X6_73 (c_J9_max_7cf53 _ _ _ _ 0 (x3 + (c_p1_speeds r12)) F hr26) rfl rfl (ws2 := (W_X6_changes (eCy E) a_t a_p1 a_p1_speeds a_p1_steps a_t_minutesLeft a_t_sum g_t_1 g_p1_0 g_p1_1 g_p1_5 g_p1_6 g_p1_7 g_p1_8 g_p1_9 g_p1_10 g_p1_11 g_p1_12 g_p1_13 g_p1_14 g_p1_15 g_p1_16 c_p1_parts c_p1_speeds c_p1_steps o13 o14 o17 o18)) rfl rfl rfl (rest := []) rfl rfl rfl dX6_changes_122 ?_
        obtain ⟨hc27, h⟩ := chk_some h
        refine g_i2l C dX6_changes_125 hc27 ?_
        refine g_aload_n 0 C dX6_changes_126 rfl rfl ?_
        refine g_get C fg_X6_21 0 rfl rfl dX6_changes_127 ?_
        refine g_get C fg_X6_83 4 rfl rfl dX6_changes_130 ?_
        refine g_st (st' := [.long (wJ o13), .long (wJ r25)]) rfl ?_
        refine g_lmul C dX6_changes_133 ?_
        obtain ⟨y28, e_y28, h⟩ := nam_some h
        refine g_topJ e_y28 ?_
        refine g_lstore C hN dX6_changes_134 rfl (L' := [some (.ref a_t), some (.ref a_p1), some (.int (wI x2)), some (.int (wI x3)), some (.int (wI x4)), some (.int (wI x5)), some (.int (wI x6)), some (.int (wI r12)), some (.int (wI y23)), some (.long (wJ y28)), none, none, none]) rfl ?_
        refine g_aload_n 1 C dX6_changes_136 rfl rfl ?_
        refine g_get C fg_X6_42 1 rfl rfl dX6_changes_137 ?_
        refine g_iload C dX6_changes_140 rfl ?_
        obtain ⟨hc29, h⟩ := chk_some h
        refine g_iald C 3 rfl hc29 rfl dX6_changes_142 ?_
        obtain ⟨hc30, h⟩ := chk_some h
        refine g_i2l C dX6_changes_143 hc30 ?_
        refine g_aload_n 0 C dX6_changes_144 rfl rfl ?_
        refine g_get C fg_X6_21 0 rfl rfl dX6_changes_145 ?_
        refine g_get C fg_X6_87 4 rfl rfl dX6_changes_148 ?_
        refine g_st (st' := [.long (wJ o14), .long (wJ (c_p1_steps r12))]) rfl ?_
        refine g_lmul C dX6_changes_151 ?_
        obtain ⟨y31, e_y31, h⟩ := nam_some h
        refine g_topJ e_y31 ?_
        refine g_lstore C hN dX6_changes_152 rfl (L' := [some (.ref a_t), some (.ref a_p1), some (.int (wI x2)), some (.int (wI x3)), some (.int (wI x4)), some (.int (wI x5)), some (.int (wI x6)), some (.int (wI r12)), some (.int (wI y23)), some (.long (wJ y28)), none, some (.long (wJ y31)), none]) rfl ?_
        refine g_aload_n 0 C dX6_changes_154 rfl rfl ?_
        refine g_get C fg_X6_12 0 rfl rfl dX6_changes_155 ?_
        refine g_lload C dX6_changes_158 rfl ?_
        refine g_lload C dX6_changes_160 rfl ?_
        refine g_lsub C dX6_changes_162 ?_
        refine g_aload_n 0 C dX6_changes_163 rfl rfl ?_
        refine g_get C fg_X6_21 0 rfl rfl dX6_changes_164 ?_
        refine g_get C fg_X6_87 4 rfl rfl dX6_changes_167 ?_
        refine g_st (st' := [.long (wJ o14), .long (wJ (y31 - y28)), .ref a_t_sum]) rfl ?_
        refine g_iload C dX6_changes_170 rfl ?_
        obtain ⟨hc32, h⟩ := chk_some h
        refine g_i2l C dX6_changes_172 hc32 ?_
        refine g_lmul C dX6_changes_173 ?_
        obtain ⟨o33, o34, hr35, h⟩ := bnd2_some h
        refine g_callV [5] [0, 1, 2, 3, 4] [0, 1, 2, 3, 4, 5] C mt_X6_45 (c_X1_add _ _ _ _ a_t_sum (y31 - y28) (o14 * y23) o17 o18 F hr35) (q0 := 0) rfl (ci := 1) rfl rfl rfl (ws2 := (W_X6_changes (eCy E) a_t a_p1 a_p1_speeds a_p1_steps a_t_minutesLeft a_t_sum g_t_1 g_p1_0 g_p1_1 g_p1_5 g_p1_6 g_p1_7 g_p1_8 g_p1_9 g_p1_10 g_p1_11 g_p1_12 g_p1_13 g_p1_14 g_p1_15 g_p1_16 c_p1_parts c_p1_speeds c_p1_steps o13 o14 o33 o34)) rfl rfl rfl (rest := []) rfl rfl rfl dX6_changes_174 ?_
        refine g_aload_n 0 C dX6_changes_177 rfl rfl ?_
        refine g_aload_n 1 C dX6_changes_178 rfl rfl ?_
        refine g_iload_n 2 C dX6_changes_179 rfl rfl ?_
        refine g_iconst C dX6_changes_180 ?_
        refine g_iload C dX6_changes_181 rfl ?_
        refine g_iconst C dX6_changes_183 ?_
        refine g_iadd C dX6_changes_184 ?_
        refine g_aload_n 1 C dX6_changes_185 rfl rfl ?_
        refine g_get C fg_X6_28 1 rfl rfl dX6_changes_186 ?_
        refine g_st (st' := [.int (wI c_p1_parts), .int (wI (r12 + 1)), .int (wI 0), .int (wI x2), .ref a_p1, .ref a_t]) rfl ?_
        obtain ⟨r36, o37, o38, hr39, h⟩ := bnd3_some h
        refine g_callI [0, 1, 2, 3, 5] [4] [1, 2, 3, 4, 0, 5] C mt_X6_34 (c_X6_addTimes _ _ _ _ a_t a_p1 a_p1_speeds a_p1_steps a_t_sum (g_t_1) (.ref a_t_minutesLeft) (g_p1_0) (g_p1_1) (g_p1_5) (g_p1_6) (g_p1_7) (g_p1_8) (g_p1_9) (g_p1_10) (g_p1_11) (g_p1_12) (g_p1_13) (g_p1_14) (g_p1_15) (g_p1_16) x2 0 (r12 + 1) c_p1_parts c_p1_parts c_p1_speeds c_p1_steps o33 o34 F hr39) (q0 := 0) rfl (ci := 6) rfl rfl rfl (ws2 := (W_X6_changes (eCy E) a_t a_p1 a_p1_speeds a_p1_steps a_t_minutesLeft a_t_sum g_t_1 g_p1_0 g_p1_1 g_p1_5 g_p1_6 g_p1_7 g_p1_8 g_p1_9 g_p1_10 g_p1_11 g_p1_12 g_p1_13 g_p1_14 g_p1_15 g_p1_16 c_p1_parts c_p1_speeds c_p1_steps o13 o14 o37 o38)) rfl rfl rfl (rest := []) rfl rfl rfl dX6_changes_189 ?_
        obtain ⟨hc40, h⟩ := chk_some h
        cases h
        exact hret 192 _ (bool_nar hc40).1 dX6_changes_192
      · refine g_iconst C dX6_changes_110 ?_
        cases h
        exact hret 111 _ bn0 dX6_changes_111
    · refine g_iload C dX6_changes_65 rfl ?_
      refine g_if_ne 92 C dX6_changes_67 (by decide) h (fun h => ?_) (fun h => ?_)
      · refine g_iconst C dX6_changes_92 ?_
        cases h
        exact hret 93 _ bn1 dX6_changes_93
      · refine g_aload_n 0 C dX6_changes_70 rfl rfl ?_
        refine g_get C fg_X6_12 0 rfl rfl dX6_changes_71 ?_
        refine g_aload_n 0 C dX6_changes_74 rfl rfl ?_
        refine g_get C fg_X6_21 0 rfl rfl dX6_changes_75 ?_
        refine g_get C fg_X6_83 4 rfl rfl dX6_changes_78 ?_
        refine g_st (st' := [.long (wJ o13), .ref a_t_sum]) rfl ?_
        refine g_lneg C dX6_changes_81 ?_
        refine g_aload_n 0 C dX6_changes_82 rfl rfl ?_
        refine g_get C fg_X6_21 0 rfl rfl dX6_changes_83 ?_
        refine g_get C fg_X6_87 4 rfl rfl dX6_changes_86 ?_
        refine g_st (st' := [.long (wJ o14), .long (wJ (-o13)), .ref a_t_sum]) rfl ?_
        obtain ⟨o22, o23, hr24, h⟩ := bnd2_some h
        refine g_callV [5] [0, 1, 2, 3, 4] [0, 1, 2, 3, 4, 5] C mt_X6_45 (c_X1_add _ _ _ _ a_t_sum (-o13) o14 o17 o18 F hr24) (q0 := 0) rfl (ci := 1) rfl rfl rfl (ws2 := (W_X6_changes (eCy E) a_t a_p1 a_p1_speeds a_p1_steps a_t_minutesLeft a_t_sum g_t_1 g_p1_0 g_p1_1 g_p1_5 g_p1_6 g_p1_7 g_p1_8 g_p1_9 g_p1_10 g_p1_11 g_p1_12 g_p1_13 g_p1_14 g_p1_15 g_p1_16 c_p1_parts c_p1_speeds c_p1_steps o13 o14 o22 o23)) rfl rfl rfl (rest := []) rfl rfl rfl dX6_changes_89 ?_
        refine g_iconst C dX6_changes_92 ?_
        cases h
        exact hret 93 _ bn1 dX6_changes_93
  · refine g_iconst C dX6_changes_22 ?_
    cases h
    exact hret 23 _ bn0 dX6_changes_23
end S_X6_changes
set_option maxRecDepth 100000 in
set_option maxHeartbeats 4000000 in
theorem c_X6_changes (l : Launch) (D : va_G) (cy : Nat → ClassId) (ad : AD) (a_t a_p1 a_p1_speeds a_p1_steps a_t_minutesLeft a_t_sum : Nat) (g_t_1 : Value) (g_p1_0 : Value) (g_p1_1 : Value) (g_p1_5 : Value) (g_p1_6 : Value) (g_p1_7 : Value) (g_p1_8 : Value) (g_p1_9 : Value) (g_p1_10 : Value) (g_p1_11 : Value) (g_p1_12 : Value) (g_p1_13 : Value) (g_p1_14 : Value) (g_p1_15 : Value) (g_p1_16 : Value) (x2 : Int) (x3 : Int) (x4 : Int) (x5 : Int) (x6 : Int) (c_p1_parts : Int) (c_p1_speeds : Int → Int) (c_p1_steps : Int → Int) (c_minutesLeft_above : Int) (c_minutesLeft_below : Int) (c_sum_above : Int) (c_sum_below : Int) (F : Nat) {v : Int × Int × Int × Int × Int} (h : m_X6_changes F x2 x3 x4 x5 x6 c_p1_parts c_p1_speeds c_p1_steps c_minutesLeft_above c_minutesLeft_below = some v) : Ct l yX6_changes cX6_changes 13 (some .boolean) { frames := 3, cells := 0, slots := 0, locals := 82 } D cy ad [.ref a_t, .ref a_p1, .int (wI x2), .int (wI x3), .int (wI x4), .int (wI x5), .int (wI x6)] (W_X6_changes cy a_t a_p1 a_p1_speeds a_p1_steps a_t_minutesLeft a_t_sum g_t_1 g_p1_0 g_p1_1 g_p1_5 g_p1_6 g_p1_7 g_p1_8 g_p1_9 g_p1_10 g_p1_11 g_p1_12 g_p1_13 g_p1_14 g_p1_15 g_p1_16 c_p1_parts c_p1_speeds c_p1_steps c_minutesLeft_above c_minutesLeft_below c_sum_above c_sum_below) (W_X6_changes cy a_t a_p1 a_p1_speeds a_p1_steps a_t_minutesLeft a_t_sum g_t_1 g_p1_0 g_p1_1 g_p1_5 g_p1_6 g_p1_7 g_p1_8 g_p1_9 g_p1_10 g_p1_11 g_p1_12 g_p1_13 g_p1_14 g_p1_15 g_p1_16 c_p1_parts c_p1_speeds c_p1_steps (v.2.1) (v.2.2.1) (v.2.2.2.1) (v.2.2.2.2)) (some (.int (wI (v.1)))) := by
  refine Ct.introZ (j := 6) (plainFor_of_name (by decide)) rfl rfl (fun E C e1 e2 e3 e4 e5 hret => ?_)
  subst e1; subst e2; subst e3; subst e4
  exact wm_X6_changes C e5 h hret
-- MovingStair$Travel.bestChange(LMovingStair$Layout;IIIZ)I
def W_X6_bestChange (cy : Nat → ClassId) (a_t a_p1 a_p1_speeds a_p1_steps a_t_best a_t_minutesLeft a_t_sum : Nat) (g_p1_0 : Value) (g_p1_1 : Value) (g_p1_5 : Value) (g_p1_6 : Value) (g_p1_7 : Value) (g_p1_8 : Value) (g_p1_9 : Value) (g_p1_10 : Value) (g_p1_11 : Value) (g_p1_12 : Value) (g_p1_13 : Value) (g_p1_14 : Value) (g_p1_15 : Value) (g_p1_16 : Value) (c_p1_parts : Int) (c_p1_speeds : Int → Int) (c_p1_steps : Int → Int) (c_best_above : Int) (c_best_below : Int) (c_minutesLeft_above : Int) (c_minutesLeft_below : Int) (c_sum_above : Int) (c_sum_below : Int) : va_W := [(a_t, .inr (6, [.ref a_t_sum, .ref a_t_best, .ref a_t_minutesLeft])), (a_p1, .inr (2, [g_p1_0, g_p1_1, .int (wI c_p1_parts), .ref a_p1_steps, .ref a_p1_speeds, g_p1_5, g_p1_6, g_p1_7, g_p1_8, g_p1_9, g_p1_10, g_p1_11, g_p1_12, g_p1_13, g_p1_14, g_p1_15, g_p1_16])), (a_p1_speeds, .inl (cy 1, 4, .inl (aI c_p1_speeds))), (a_p1_steps, .inl (cy 1, 4, .inl (aI c_p1_steps))), (a_t_best, .inr (1, [.long (wJ c_best_above), .long (wJ c_best_below)])), (a_t_minutesLeft, .inr (1, [.long (wJ c_minutesLeft_above), .long (wJ c_minutesLeft_below)])), (a_t_sum, .inr (1, [.long (wJ c_sum_above), .long (wJ c_sum_below)]))]
def mb_X6_bestChange_66 (F : Nat) (k6 : Int → Int → Int → Int → Int → Int → Int → Int → Option (Int × Int × Int × Int × Int × Int × Int)) (x2 : Int) (x3 : Int) (x4 : Int) (x5 : Int) (x6 : Int) (x7 : Int) (c_p1_parts : Int) (c_p1_speeds : Int → Int) (c_p1_steps : Int → Int) (c_best_above : Int) (c_best_below : Int) (c_minutesLeft_above : Int) (c_minutesLeft_below : Int) (c_sum_above : Int) (c_sum_below : Int) : Option (Int × Int × Int × Int × Int × Int × Int) :=
  k6 x6 (x7 + 1) c_best_above c_best_below c_minutesLeft_above c_minutesLeft_below c_sum_above c_sum_below
def mb_X6_bestChange_51 (F : Nat) (k6 : Int → Int → Int → Int → Int → Int → Int → Int → Option (Int × Int × Int × Int × Int × Int × Int)) (x2 : Int) (x3 : Int) (x4 : Int) (x5 : Int) (x7 : Int) (c_p1_parts : Int) (c_p1_speeds : Int → Int) (c_p1_steps : Int → Int) (c_minutesLeft_above : Int) (c_minutesLeft_below : Int) (c_sum_above : Int) (c_sum_below : Int) : Option (Int × Int × Int × Int × Int × Int × Int) :=
  bnd2 (m_X1_take F c_sum_above c_sum_below) fun o1 o2 => mb_X6_bestChange_66 F k6 x2 x3 x4 x5 x7 x7 c_p1_parts c_p1_speeds c_p1_steps o1 o2 c_minutesLeft_above c_minutesLeft_below c_sum_above c_sum_below
def mb_X6_bestChange_6 (F : Nat) (k6 : Int → Int → Int → Int → Int → Int → Int → Int → Option (Int × Int × Int × Int × Int × Int × Int)) (x2 : Int) (x3 : Int) (x4 : Int) (x5 : Int) (x6 : Int) (x7 : Int) (c_p1_parts : Int) (c_p1_speeds : Int → Int) (c_p1_steps : Int → Int) (c_best_above : Int) (c_best_below : Int) (c_minutesLeft_above : Int) (c_minutesLeft_below : Int) (c_sum_above : Int) (c_sum_below : Int) : Option (Int × Int × Int × Int × Int × Int × Int) :=
  if wI c_p1_parts ≤ wI x7 then
    (some (x6, c_best_above, c_best_below, c_minutesLeft_above, c_minutesLeft_below, c_sum_above, c_sum_below))
  else
    (bnd5 (m_X6_changes F x2 x3 x4 x5 x7 c_p1_parts c_p1_speeds c_p1_steps c_minutesLeft_above c_minutesLeft_below) fun r1 o2 o3 o4 o5 => if wI r1 = wI 0 then
    (mb_X6_bestChange_66 F k6 x2 x3 x4 x5 x6 x7 c_p1_parts c_p1_speeds c_p1_steps c_best_above c_best_below o2 o3 o4 o5)
  else
    (if wI x6 = wI (-1) then
    (mb_X6_bestChange_51 F k6 x2 x3 x4 x5 x7 c_p1_parts c_p1_speeds c_p1_steps o2 o3 o4 o5)
  else
    (bnd1 (m_X1_against F o4 o5 c_best_above c_best_below) fun r7 => if wI 0 ≤ wI r7 then
    (mb_X6_bestChange_66 F k6 x2 x3 x4 x5 x6 x7 c_p1_parts c_p1_speeds c_p1_steps c_best_above c_best_below o2 o3 o4 o5)
  else
    (mb_X6_bestChange_51 F k6 x2 x3 x4 x5 x7 c_p1_parts c_p1_speeds c_p1_steps o2 o3 o4 o5))))
def ml_X6_bestChange_6 (F : Nat) (x2 : Int) (x3 : Int) (x4 : Int) (x5 : Int) (x6 : Int) (x7 : Int) (c_p1_parts : Int) (c_p1_speeds : Int → Int) (c_p1_steps : Int → Int) (c_best_above : Int) (c_best_below : Int) (c_minutesLeft_above : Int) (c_minutesLeft_below : Int) (c_sum_above : Int) (c_sum_below : Int) : Option (Int × Int × Int × Int × Int × Int × Int) :=
  loopN (fun (k : Int × Int × Int × Int × Int × Int × Int × Int → Option (Int × Int × Int × Int × Int × Int × Int)) q => mb_X6_bestChange_6 F (fun y0 y1 y2 y3 y4 y5 y6 y7 => k (y0, y1, y2, y3, y4, y5, y6, y7)) x2 x3 x4 x5 q.1 q.2.1 c_p1_parts c_p1_speeds c_p1_steps q.2.2.1 q.2.2.2.1 q.2.2.2.2.1 q.2.2.2.2.2.1 q.2.2.2.2.2.2.1 q.2.2.2.2.2.2.2) F (x6, x7, c_best_above, c_best_below, c_minutesLeft_above, c_minutesLeft_below, c_sum_above, c_sum_below)
def m_X6_bestChange (F : Nat) (x2 : Int) (x3 : Int) (x4 : Int) (x5 : Int) (c_p1_parts : Int) (c_p1_speeds : Int → Int) (c_p1_steps : Int → Int) (c_best_above : Int) (c_best_below : Int) (c_minutesLeft_above : Int) (c_minutesLeft_below : Int) (c_sum_above : Int) (c_sum_below : Int) : Option (Int × Int × Int × Int × Int × Int × Int) :=
  ml_X6_bestChange_6 F x2 x3 x4 x5 (-1) 0 c_p1_parts c_p1_speeds c_p1_steps c_best_above c_best_below c_minutesLeft_above c_minutesLeft_below c_sum_above c_sum_below
section S_X6_bestChange
variable {E : EE} {a_t a_p1 a_p1_speeds a_p1_steps a_t_best a_t_minutesLeft a_t_sum : Nat} {g_p1_0 : Value} {g_p1_1 : Value} {g_p1_5 : Value} {g_p1_6 : Value} {g_p1_7 : Value} {g_p1_8 : Value} {g_p1_9 : Value} {g_p1_10 : Value} {g_p1_11 : Value} {g_p1_12 : Value} {g_p1_13 : Value} {g_p1_14 : Value} {g_p1_15 : Value} {g_p1_16 : Value}
set_option maxRecDepth 100000 in
set_option maxHeartbeats 4000000 in
theorem wb_X6_bestChange_66 {F : Nat} {k6 : Int → Int → Int → Int → Int → Int → Int → Int → Option (Int × Int × Int × Int × Int × Int × Int)} {v : Int × Int × Int × Int × Int × Int × Int} {x2 : Int} {x3 : Int} {x4 : Int} {x5 : Int} {x6 : Int} {x7 : Int} {c_p1_parts : Int} {c_p1_speeds : Int → Int} {c_p1_steps : Int → Int} {c_best_above : Int} {c_best_below : Int} {c_minutesLeft_above : Int} {c_minutesLeft_below : Int} {c_sum_above : Int} {c_sum_below : Int} (C : Cx E cX6_bestChange RX6 { frames := 4, cells := 0, slots := 0, locals := 114 }) (hN : eN E = 8) (h : mb_X6_bestChange_66 F k6 x2 x3 x4 x5 x6 x7 c_p1_parts c_p1_speeds c_p1_steps c_best_above c_best_below c_minutesLeft_above c_minutesLeft_below c_sum_above c_sum_below = some v) (hk6 : ∀ (y_x6 : Int) (y_x7 : Int) (y_c_best_above : Int) (y_c_best_below : Int) (y_c_minutesLeft_above : Int) (y_c_minutesLeft_below : Int) (y_c_sum_above : Int) (y_c_sum_below : Int), k6 y_x6 y_x7 y_c_best_above y_c_best_below y_c_minutesLeft_above y_c_minutesLeft_below y_c_sum_above y_c_sum_below = some v → GG E 0 0 (W_X6_bestChange (eCy E) a_t a_p1 a_p1_speeds a_p1_steps a_t_best a_t_minutesLeft a_t_sum g_p1_0 g_p1_1 g_p1_5 g_p1_6 g_p1_7 g_p1_8 g_p1_9 g_p1_10 g_p1_11 g_p1_12 g_p1_13 g_p1_14 g_p1_15 g_p1_16 c_p1_parts c_p1_speeds c_p1_steps y_c_best_above y_c_best_below y_c_minutesLeft_above y_c_minutesLeft_below y_c_sum_above y_c_sum_below) [some (.ref a_t), some (.ref a_p1), some (.int (wI x2)), some (.int (wI x3)), some (.int (wI x4)), some (.int (wI x5)), some (.int (wI y_x6)), some (.int (wI y_x7))] 6 []) (hret : ∀ (pc : Nat) (L : List (Option Value)), decode cX6_bestChange pc = .ok (.ireturn, 1) → GG E 0 0 (W_X6_bestChange (eCy E) a_t a_p1 a_p1_speeds a_p1_steps a_t_best a_t_minutesLeft a_t_sum g_p1_0 g_p1_1 g_p1_5 g_p1_6 g_p1_7 g_p1_8 g_p1_9 g_p1_10 g_p1_11 g_p1_12 g_p1_13 g_p1_14 g_p1_15 g_p1_16 c_p1_parts c_p1_speeds c_p1_steps (v.2.1) (v.2.2.1) (v.2.2.2.1) (v.2.2.2.2.1) (v.2.2.2.2.2.1) (v.2.2.2.2.2.2)) L pc [.int (wI (v.1))]) : GG E 0 0 (W_X6_bestChange (eCy E) a_t a_p1 a_p1_speeds a_p1_steps a_t_best a_t_minutesLeft a_t_sum g_p1_0 g_p1_1 g_p1_5 g_p1_6 g_p1_7 g_p1_8 g_p1_9 g_p1_10 g_p1_11 g_p1_12 g_p1_13 g_p1_14 g_p1_15 g_p1_16 c_p1_parts c_p1_speeds c_p1_steps c_best_above c_best_below c_minutesLeft_above c_minutesLeft_below c_sum_above c_sum_below) [some (.ref a_t), some (.ref a_p1), some (.int (wI x2)), some (.int (wI x3)), some (.int (wI x4)), some (.int (wI x5)), some (.int (wI x6)), some (.int (wI x7))] 66 [] := by
  unfold mb_X6_bestChange_66 at h
  refine g_iinc C hN dX6_bestChange_66 rfl rfl (L' := [some (.ref a_t), some (.ref a_p1), some (.int (wI x2)), some (.int (wI x3)), some (.int (wI x4)), some (.int (wI x5)), some (.int (wI x6)), some (.int (wI (x7 + 1)))]) rfl ?_
  refine g_goto (tgt := 6) C dX6_bestChange_69 (by decide) ?_
  exact hk6 _ _ _ _ _ _ _ _ h
set_option maxRecDepth 100000 in
set_option maxHeartbeats 4000000 in
theorem wb_X6_bestChange_51 {F : Nat} {k6 : Int → Int → Int → Int → Int → Int → Int → Int → Option (Int × Int × Int × Int × Int × Int × Int)} {v : Int × Int × Int × Int × Int × Int × Int} {x2 : Int} {x3 : Int} {x4 : Int} {x5 : Int} {x7 : Int} {c_p1_parts : Int} {c_p1_speeds : Int → Int} {c_p1_steps : Int → Int} {c_minutesLeft_above : Int} {c_minutesLeft_below : Int} {c_sum_above : Int} {c_sum_below : Int} {c_best_above : Int} {c_best_below : Int} (C : Cx E cX6_bestChange RX6 { frames := 4, cells := 0, slots := 0, locals := 114 }) (hN : eN E = 8) (h : mb_X6_bestChange_51 F k6 x2 x3 x4 x5 x7 c_p1_parts c_p1_speeds c_p1_steps c_minutesLeft_above c_minutesLeft_below c_sum_above c_sum_below = some v) (hk6 : ∀ (y_x6 : Int) (y_x7 : Int) (y_c_best_above : Int) (y_c_best_below : Int) (y_c_minutesLeft_above : Int) (y_c_minutesLeft_below : Int) (y_c_sum_above : Int) (y_c_sum_below : Int), k6 y_x6 y_x7 y_c_best_above y_c_best_below y_c_minutesLeft_above y_c_minutesLeft_below y_c_sum_above y_c_sum_below = some v → GG E 0 0 (W_X6_bestChange (eCy E) a_t a_p1 a_p1_speeds a_p1_steps a_t_best a_t_minutesLeft a_t_sum g_p1_0 g_p1_1 g_p1_5 g_p1_6 g_p1_7 g_p1_8 g_p1_9 g_p1_10 g_p1_11 g_p1_12 g_p1_13 g_p1_14 g_p1_15 g_p1_16 c_p1_parts c_p1_speeds c_p1_steps y_c_best_above y_c_best_below y_c_minutesLeft_above y_c_minutesLeft_below y_c_sum_above y_c_sum_below) [some (.ref a_t), some (.ref a_p1), some (.int (wI x2)), some (.int (wI x3)), some (.int (wI x4)), some (.int (wI x5)), some (.int (wI y_x6)), some (.int (wI y_x7))] 6 []) (hret : ∀ (pc : Nat) (L : List (Option Value)), decode cX6_bestChange pc = .ok (.ireturn, 1) → GG E 0 0 (W_X6_bestChange (eCy E) a_t a_p1 a_p1_speeds a_p1_steps a_t_best a_t_minutesLeft a_t_sum g_p1_0 g_p1_1 g_p1_5 g_p1_6 g_p1_7 g_p1_8 g_p1_9 g_p1_10 g_p1_11 g_p1_12 g_p1_13 g_p1_14 g_p1_15 g_p1_16 c_p1_parts c_p1_speeds c_p1_steps (v.2.1) (v.2.2.1) (v.2.2.2.1) (v.2.2.2.2.1) (v.2.2.2.2.2.1) (v.2.2.2.2.2.2)) L pc [.int (wI (v.1))]) : GG E 0 0 (W_X6_bestChange (eCy E) a_t a_p1 a_p1_speeds a_p1_steps a_t_best a_t_minutesLeft a_t_sum g_p1_0 g_p1_1 g_p1_5 g_p1_6 g_p1_7 g_p1_8 g_p1_9 g_p1_10 g_p1_11 g_p1_12 g_p1_13 g_p1_14 g_p1_15 g_p1_16 c_p1_parts c_p1_speeds c_p1_steps c_best_above c_best_below c_minutesLeft_above c_minutesLeft_below c_sum_above c_sum_below) [some (.ref a_t), some (.ref a_p1), some (.int (wI x2)), some (.int (wI x3)), some (.int (wI x4)), some (.int (wI x5)), none, some (.int (wI x7))] 51 [] := by
  unfold mb_X6_bestChange_51 at h
  refine g_aload_n 0 C dX6_bestChange_51 rfl rfl ?_
  refine g_get C fg_X6_18 0 rfl rfl dX6_bestChange_52 ?_
  refine g_aload_n 0 C dX6_bestChange_55 rfl rfl ?_
  refine g_get C fg_X6_12 0 rfl rfl dX6_bestChange_56 ?_
  obtain ⟨o1, o2, hr3, h⟩ := bnd2_some h
  refine g_callV [4, 6] [0, 1, 2, 3, 5] [0, 1, 2, 3, 5, 4, 6] C mt_X6_98 (c_X1_take _ _ _ _ a_t_best a_t_sum c_best_above c_best_below c_sum_above c_sum_below F hr3) (q0 := 0) rfl (ci := 1) rfl rfl rfl (ws2 := (W_X6_bestChange (eCy E) a_t a_p1 a_p1_speeds a_p1_steps a_t_best a_t_minutesLeft a_t_sum g_p1_0 g_p1_1 g_p1_5 g_p1_6 g_p1_7 g_p1_8 g_p1_9 g_p1_10 g_p1_11 g_p1_12 g_p1_13 g_p1_14 g_p1_15 g_p1_16 c_p1_parts c_p1_speeds c_p1_steps o1 o2 c_minutesLeft_above c_minutesLeft_below c_sum_above c_sum_below)) rfl rfl rfl (rest := []) rfl rfl rfl dX6_bestChange_59 ?_
  refine g_iload C dX6_bestChange_62 rfl ?_
  refine g_istore C hN dX6_bestChange_64 rfl (L' := [some (.ref a_t), some (.ref a_p1), some (.int (wI x2)), some (.int (wI x3)), some (.int (wI x4)), some (.int (wI x5)), some (.int (wI x7)), some (.int (wI x7))]) rfl ?_
  exact wb_X6_bestChange_66 C hN h hk6 hret
set_option maxRecDepth 100000 in
set_option maxHeartbeats 4000000 in
theorem wb_X6_bestChange_6 {F : Nat} {k6 : Int → Int → Int → Int → Int → Int → Int → Int → Option (Int × Int × Int × Int × Int × Int × Int)} {v : Int × Int × Int × Int × Int × Int × Int} {x2 : Int} {x3 : Int} {x4 : Int} {x5 : Int} {x6 : Int} {x7 : Int} {c_p1_parts : Int} {c_p1_speeds : Int → Int} {c_p1_steps : Int → Int} {c_best_above : Int} {c_best_below : Int} {c_minutesLeft_above : Int} {c_minutesLeft_below : Int} {c_sum_above : Int} {c_sum_below : Int} (C : Cx E cX6_bestChange RX6 { frames := 4, cells := 0, slots := 0, locals := 114 }) (hN : eN E = 8) (h : mb_X6_bestChange_6 F k6 x2 x3 x4 x5 x6 x7 c_p1_parts c_p1_speeds c_p1_steps c_best_above c_best_below c_minutesLeft_above c_minutesLeft_below c_sum_above c_sum_below = some v) (hk6 : ∀ (y_x6 : Int) (y_x7 : Int) (y_c_best_above : Int) (y_c_best_below : Int) (y_c_minutesLeft_above : Int) (y_c_minutesLeft_below : Int) (y_c_sum_above : Int) (y_c_sum_below : Int), k6 y_x6 y_x7 y_c_best_above y_c_best_below y_c_minutesLeft_above y_c_minutesLeft_below y_c_sum_above y_c_sum_below = some v → GG E 0 0 (W_X6_bestChange (eCy E) a_t a_p1 a_p1_speeds a_p1_steps a_t_best a_t_minutesLeft a_t_sum g_p1_0 g_p1_1 g_p1_5 g_p1_6 g_p1_7 g_p1_8 g_p1_9 g_p1_10 g_p1_11 g_p1_12 g_p1_13 g_p1_14 g_p1_15 g_p1_16 c_p1_parts c_p1_speeds c_p1_steps y_c_best_above y_c_best_below y_c_minutesLeft_above y_c_minutesLeft_below y_c_sum_above y_c_sum_below) [some (.ref a_t), some (.ref a_p1), some (.int (wI x2)), some (.int (wI x3)), some (.int (wI x4)), some (.int (wI x5)), some (.int (wI y_x6)), some (.int (wI y_x7))] 6 []) (hret : ∀ (pc : Nat) (L : List (Option Value)), decode cX6_bestChange pc = .ok (.ireturn, 1) → GG E 0 0 (W_X6_bestChange (eCy E) a_t a_p1 a_p1_speeds a_p1_steps a_t_best a_t_minutesLeft a_t_sum g_p1_0 g_p1_1 g_p1_5 g_p1_6 g_p1_7 g_p1_8 g_p1_9 g_p1_10 g_p1_11 g_p1_12 g_p1_13 g_p1_14 g_p1_15 g_p1_16 c_p1_parts c_p1_speeds c_p1_steps (v.2.1) (v.2.2.1) (v.2.2.2.1) (v.2.2.2.2.1) (v.2.2.2.2.2.1) (v.2.2.2.2.2.2)) L pc [.int (wI (v.1))]) : GG E 0 0 (W_X6_bestChange (eCy E) a_t a_p1 a_p1_speeds a_p1_steps a_t_best a_t_minutesLeft a_t_sum g_p1_0 g_p1_1 g_p1_5 g_p1_6 g_p1_7 g_p1_8 g_p1_9 g_p1_10 g_p1_11 g_p1_12 g_p1_13 g_p1_14 g_p1_15 g_p1_16 c_p1_parts c_p1_speeds c_p1_steps c_best_above c_best_below c_minutesLeft_above c_minutesLeft_below c_sum_above c_sum_below) [some (.ref a_t), some (.ref a_p1), some (.int (wI x2)), some (.int (wI x3)), some (.int (wI x4)), some (.int (wI x5)), some (.int (wI x6)), some (.int (wI x7))] 6 [] := by
  unfold mb_X6_bestChange_6 at h
  refine g_iload C dX6_bestChange_6 rfl ?_
  refine g_aload_n 1 C dX6_bestChange_8 rfl rfl ?_
  refine g_get C fg_X6_28 1 rfl rfl dX6_bestChange_9 ?_
  refine g_st (st' := [.int (wI c_p1_parts), .int (wI x7)]) rfl ?_
  refine g_icmp_ge 72 C dX6_bestChange_12 (by decide) h (fun h => ?_) (fun h => ?_)
  · refine g_iload C dX6_bestChange_72 rfl ?_
    cases h
    exact hret 74 _ dX6_bestChange_74
  · refine g_aload_n 0 C dX6_bestChange_15 rfl rfl ?_
    refine g_aload_n 1 C dX6_bestChange_16 rfl rfl ?_
    refine g_iload_n 2 C dX6_bestChange_17 rfl rfl ?_
    refine g_iload_n 3 C dX6_bestChange_18 rfl rfl ?_
    refine g_iload C dX6_bestChange_19 rfl ?_
    refine g_iload C dX6_bestChange_21 rfl ?_
    refine g_iload C dX6_bestChange_23 rfl ?_
    obtain ⟨r1, o2, o3, o4, o5, hr6, h⟩ := bnd5_some h
    refine g_callI [0, 1, 2, 3, 5, 6] [4] [1, 2, 3, 4, 0, 5, 6] C mt_X6_90 (c_X6_changes _ _ _ _ a_t a_p1 a_p1_speeds a_p1_steps a_t_minutesLeft a_t_sum (.ref a_t_best) (g_p1_0) (g_p1_1) (g_p1_5) (g_p1_6) (g_p1_7) (g_p1_8) (g_p1_9) (g_p1_10) (g_p1_11) (g_p1_12) (g_p1_13) (g_p1_14) (g_p1_15) (g_p1_16) x2 x3 x4 x5 x7 c_p1_parts c_p1_speeds c_p1_steps c_minutesLeft_above c_minutesLeft_below c_sum_above c_sum_below F hr6) (q0 := 0) rfl (ci := 6) rfl rfl rfl (ws2 := (W_X6_bestChange (eCy E) a_t a_p1 a_p1_speeds a_p1_steps a_t_best a_t_minutesLeft a_t_sum g_p1_0 g_p1_1 g_p1_5 g_p1_6 g_p1_7 g_p1_8 g_p1_9 g_p1_10 g_p1_11 g_p1_12 g_p1_13 g_p1_14 g_p1_15 g_p1_16 c_p1_parts c_p1_speeds c_p1_steps c_best_above c_best_below o2 o3 o4 o5)) rfl rfl rfl (rest := []) rfl rfl rfl dX6_bestChange_25 ?_
    refine g_if_eq 66 C dX6_bestChange_28 (by decide) h (fun h => ?_) (fun h => ?_)
    · exact wb_X6_bestChange_66 C hN h hk6 hret
    · refine g_iload C dX6_bestChange_31 rfl ?_
      refine g_iconst C dX6_bestChange_33 ?_
      refine g_icmp_eq 51 C dX6_bestChange_34 (by decide) h (fun h => ?_) (fun h => ?_)
      · refine g_mask [true, true, true, true, true, true, false, true] (L' := [some (.ref a_t), some (.ref a_p1), some (.int (wI x2)), some (.int (wI x3)), some (.int (wI x4)), some (.int (wI x5)), none, some (.int (wI x7))]) rfl ?_
        exact wb_X6_bestChange_51 C hN h hk6 hret
      · refine g_aload_n 0 C dX6_bestChange_37 rfl rfl ?_
        refine g_get C fg_X6_12 0 rfl rfl dX6_bestChange_38 ?_
        refine g_aload_n 0 C dX6_bestChange_41 rfl rfl ?_
        refine g_get C fg_X6_18 0 rfl rfl dX6_bestChange_42 ?_
        obtain ⟨r7, hr8, h⟩ := bnd1_some h
        refine g_callI [6, 4] [0, 1, 2, 3, 5] [0, 1, 2, 3, 6, 4, 5] C mt_X6_94 (c_X1_against _ _ _ _ a_t_sum a_t_best o4 o5 c_best_above c_best_below F hr8) (q0 := 0) rfl (ci := 1) rfl rfl rfl (ws2 := (W_X6_bestChange (eCy E) a_t a_p1 a_p1_speeds a_p1_steps a_t_best a_t_minutesLeft a_t_sum g_p1_0 g_p1_1 g_p1_5 g_p1_6 g_p1_7 g_p1_8 g_p1_9 g_p1_10 g_p1_11 g_p1_12 g_p1_13 g_p1_14 g_p1_15 g_p1_16 c_p1_parts c_p1_speeds c_p1_steps c_best_above c_best_below o2 o3 o4 o5)) rfl rfl rfl (rest := []) rfl rfl rfl dX6_bestChange_45 ?_
        refine g_if_ge 66 C dX6_bestChange_48 (by decide) h (fun h => ?_) (fun h => ?_)
        · exact wb_X6_bestChange_66 C hN h hk6 hret
        · refine g_mask [true, true, true, true, true, true, false, true] (L' := [some (.ref a_t), some (.ref a_p1), some (.int (wI x2)), some (.int (wI x3)), some (.int (wI x4)), some (.int (wI x5)), none, some (.int (wI x7))]) rfl ?_
          exact wb_X6_bestChange_51 C hN h hk6 hret
set_option maxRecDepth 100000 in
set_option maxHeartbeats 4000000 in
theorem wl_X6_bestChange_6 {F : Nat} {v : Int × Int × Int × Int × Int × Int × Int} {x2 : Int} {x3 : Int} {x4 : Int} {x5 : Int} {x6 : Int} {x7 : Int} {c_p1_parts : Int} {c_p1_speeds : Int → Int} {c_p1_steps : Int → Int} {c_best_above : Int} {c_best_below : Int} {c_minutesLeft_above : Int} {c_minutesLeft_below : Int} {c_sum_above : Int} {c_sum_below : Int} (C : Cx E cX6_bestChange RX6 { frames := 4, cells := 0, slots := 0, locals := 114 }) (hN : eN E = 8) (h : ml_X6_bestChange_6 F x2 x3 x4 x5 x6 x7 c_p1_parts c_p1_speeds c_p1_steps c_best_above c_best_below c_minutesLeft_above c_minutesLeft_below c_sum_above c_sum_below = some v) (hret : ∀ (pc : Nat) (L : List (Option Value)), decode cX6_bestChange pc = .ok (.ireturn, 1) → GG E 0 0 (W_X6_bestChange (eCy E) a_t a_p1 a_p1_speeds a_p1_steps a_t_best a_t_minutesLeft a_t_sum g_p1_0 g_p1_1 g_p1_5 g_p1_6 g_p1_7 g_p1_8 g_p1_9 g_p1_10 g_p1_11 g_p1_12 g_p1_13 g_p1_14 g_p1_15 g_p1_16 c_p1_parts c_p1_speeds c_p1_steps (v.2.1) (v.2.2.1) (v.2.2.2.1) (v.2.2.2.2.1) (v.2.2.2.2.2.1) (v.2.2.2.2.2.2)) L pc [.int (wI (v.1))]) : GG E 0 0 (W_X6_bestChange (eCy E) a_t a_p1 a_p1_speeds a_p1_steps a_t_best a_t_minutesLeft a_t_sum g_p1_0 g_p1_1 g_p1_5 g_p1_6 g_p1_7 g_p1_8 g_p1_9 g_p1_10 g_p1_11 g_p1_12 g_p1_13 g_p1_14 g_p1_15 g_p1_16 c_p1_parts c_p1_speeds c_p1_steps c_best_above c_best_below c_minutesLeft_above c_minutesLeft_below c_sum_above c_sum_below) [some (.ref a_t), some (.ref a_p1), some (.int (wI x2)), some (.int (wI x3)), some (.int (wI x4)), some (.int (wI x5)), some (.int (wI x6)), some (.int (wI x7))] 6 [] := by
  unfold ml_X6_bestChange_6 at h
  exact loop_walk (g := fun (q : Int × Int × Int × Int × Int × Int × Int × Int) => GG E 0 0 (W_X6_bestChange (eCy E) a_t a_p1 a_p1_speeds a_p1_steps a_t_best a_t_minutesLeft a_t_sum g_p1_0 g_p1_1 g_p1_5 g_p1_6 g_p1_7 g_p1_8 g_p1_9 g_p1_10 g_p1_11 g_p1_12 g_p1_13 g_p1_14 g_p1_15 g_p1_16 c_p1_parts c_p1_speeds c_p1_steps (q.2.2.1) (q.2.2.2.1) (q.2.2.2.2.1) (q.2.2.2.2.2.1) (q.2.2.2.2.2.2.1) (q.2.2.2.2.2.2.2)) [some (.ref a_t), some (.ref a_p1), some (.int (wI x2)), some (.int (wI x3)), some (.int (wI x4)), some (.int (wI x5)), some (.int (wI (q.1))), some (.int (wI (q.2.1)))] 6 []) (fun k hk q h => wb_X6_bestChange_6 C hN h (fun y0 y1 y2 y3 y4 y5 y6 y7 hh => hk (y0, y1, y2, y3, y4, y5, y6, y7) hh) hret) F (x6, x7, c_best_above, c_best_below, c_minutesLeft_above, c_minutesLeft_below, c_sum_above, c_sum_below) h
set_option maxRecDepth 100000 in
set_option maxHeartbeats 4000000 in
theorem wm_X6_bestChange {F : Nat} {v : Int × Int × Int × Int × Int × Int × Int} {x2 : Int} {x3 : Int} {x4 : Int} {x5 : Int} {c_p1_parts : Int} {c_p1_speeds : Int → Int} {c_p1_steps : Int → Int} {c_best_above : Int} {c_best_below : Int} {c_minutesLeft_above : Int} {c_minutesLeft_below : Int} {c_sum_above : Int} {c_sum_below : Int} (C : Cx E cX6_bestChange RX6 { frames := 4, cells := 0, slots := 0, locals := 114 }) (hN : eN E = 8) (h : m_X6_bestChange F x2 x3 x4 x5 c_p1_parts c_p1_speeds c_p1_steps c_best_above c_best_below c_minutesLeft_above c_minutesLeft_below c_sum_above c_sum_below = some v) (hret : ∀ (pc : Nat) (L : List (Option Value)), decode cX6_bestChange pc = .ok (.ireturn, 1) → GG E 0 0 (W_X6_bestChange (eCy E) a_t a_p1 a_p1_speeds a_p1_steps a_t_best a_t_minutesLeft a_t_sum g_p1_0 g_p1_1 g_p1_5 g_p1_6 g_p1_7 g_p1_8 g_p1_9 g_p1_10 g_p1_11 g_p1_12 g_p1_13 g_p1_14 g_p1_15 g_p1_16 c_p1_parts c_p1_speeds c_p1_steps (v.2.1) (v.2.2.1) (v.2.2.2.1) (v.2.2.2.2.1) (v.2.2.2.2.2.1) (v.2.2.2.2.2.2)) L pc [.int (wI (v.1))]) : GG E 0 0 (W_X6_bestChange (eCy E) a_t a_p1 a_p1_speeds a_p1_steps a_t_best a_t_minutesLeft a_t_sum g_p1_0 g_p1_1 g_p1_5 g_p1_6 g_p1_7 g_p1_8 g_p1_9 g_p1_10 g_p1_11 g_p1_12 g_p1_13 g_p1_14 g_p1_15 g_p1_16 c_p1_parts c_p1_speeds c_p1_steps c_best_above c_best_below c_minutesLeft_above c_minutesLeft_below c_sum_above c_sum_below) [some (.ref a_t), some (.ref a_p1), some (.int (wI x2)), some (.int (wI x3)), some (.int (wI x4)), some (.int (wI x5)), none, none] 0 [] := by
  unfold m_X6_bestChange at h
  refine g_iconst C dX6_bestChange_0 ?_
  refine g_istore C hN dX6_bestChange_1 rfl (L' := [some (.ref a_t), some (.ref a_p1), some (.int (wI x2)), some (.int (wI x3)), some (.int (wI x4)), some (.int (wI x5)), some (.int (wI (-1))), none]) rfl ?_
  refine g_iconst C dX6_bestChange_3 ?_
  refine g_istore C hN dX6_bestChange_4 rfl (L' := [some (.ref a_t), some (.ref a_p1), some (.int (wI x2)), some (.int (wI x3)), some (.int (wI x4)), some (.int (wI x5)), some (.int (wI (-1))), some (.int (wI 0))]) rfl ?_
  exact wl_X6_bestChange_6 C hN h hret
end S_X6_bestChange
set_option maxRecDepth 100000 in
set_option maxHeartbeats 4000000 in
theorem c_X6_bestChange (l : Launch) (D : va_G) (cy : Nat → ClassId) (ad : AD) (a_t a_p1 a_p1_speeds a_p1_steps a_t_best a_t_minutesLeft a_t_sum : Nat) (g_p1_0 : Value) (g_p1_1 : Value) (g_p1_5 : Value) (g_p1_6 : Value) (g_p1_7 : Value) (g_p1_8 : Value) (g_p1_9 : Value) (g_p1_10 : Value) (g_p1_11 : Value) (g_p1_12 : Value) (g_p1_13 : Value) (g_p1_14 : Value) (g_p1_15 : Value) (g_p1_16 : Value) (x2 : Int) (x3 : Int) (x4 : Int) (x5 : Int) (c_p1_parts : Int) (c_p1_speeds : Int → Int) (c_p1_steps : Int → Int) (c_best_above : Int) (c_best_below : Int) (c_minutesLeft_above : Int) (c_minutesLeft_below : Int) (c_sum_above : Int) (c_sum_below : Int) (F : Nat) {v : Int × Int × Int × Int × Int × Int × Int} (h : m_X6_bestChange F x2 x3 x4 x5 c_p1_parts c_p1_speeds c_p1_steps c_best_above c_best_below c_minutesLeft_above c_minutesLeft_below c_sum_above c_sum_below = some v) : Ct l yX6_bestChange cX6_bestChange 8 (some .int) { frames := 4, cells := 0, slots := 0, locals := 114 } D cy ad [.ref a_t, .ref a_p1, .int (wI x2), .int (wI x3), .int (wI x4), .int (wI x5)] (W_X6_bestChange cy a_t a_p1 a_p1_speeds a_p1_steps a_t_best a_t_minutesLeft a_t_sum g_p1_0 g_p1_1 g_p1_5 g_p1_6 g_p1_7 g_p1_8 g_p1_9 g_p1_10 g_p1_11 g_p1_12 g_p1_13 g_p1_14 g_p1_15 g_p1_16 c_p1_parts c_p1_speeds c_p1_steps c_best_above c_best_below c_minutesLeft_above c_minutesLeft_below c_sum_above c_sum_below) (W_X6_bestChange cy a_t a_p1 a_p1_speeds a_p1_steps a_t_best a_t_minutesLeft a_t_sum g_p1_0 g_p1_1 g_p1_5 g_p1_6 g_p1_7 g_p1_8 g_p1_9 g_p1_10 g_p1_11 g_p1_12 g_p1_13 g_p1_14 g_p1_15 g_p1_16 c_p1_parts c_p1_speeds c_p1_steps (v.2.1) (v.2.2.1) (v.2.2.2.1) (v.2.2.2.2.1) (v.2.2.2.2.2.1) (v.2.2.2.2.2.2)) (some (.int (wI (v.1)))) := by
  refine Ct.introI (j := 2) (plainFor_of_name (by decide)) rfl rfl (fun E C e1 e2 e3 e4 e5 hret => ?_)
  subst e1; subst e2; subst e3; subst e4
  exact wm_X6_bestChange C e5 h hret
