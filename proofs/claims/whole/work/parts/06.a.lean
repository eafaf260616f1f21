-- MovingStair.isOut(JJJ)Z
def W_X8_isOut (cy : Nat → ClassId) : va_W := []
def m_X8_isOut (F : Nat) (x0 : Int) (x2 : Int) (x4 : Int) : Option (Int) :=
  if wJ x0 < wJ x2 then
    (some 1)
  else
    (if wJ x0 ≤ wJ x4 then
    (some 0)
  else
    (some 1))
section S_X8_isOut
variable {E : EE}
set_option maxRecDepth 100000 in
set_option maxHeartbeats 4000000 in
theorem wm_X8_isOut {F : Nat} {v : Int} {x0 : Int} {x2 : Int} {x4 : Int} (C : Cx E cX8_isOut RX8 { frames := 0, cells := 0, slots := 0, locals := 0 }) (hN : eN E = 6) (h : m_X8_isOut F x0 x2 x4 = some v) (hret : ∀ (pc : Nat) (L : List (Option Value)), narrow .boolean (.int (wI v)) = .int (wI v) → decode cX8_isOut pc = .ok (.ireturn, 1) → GG E 0 0 (W_X8_isOut (eCy E)) L pc [.int (wI v)]) : GG E 0 0 (W_X8_isOut (eCy E)) [some (.long (wJ x0)), none, some (.long (wJ x2)), none, some (.long (wJ x4)), none] 0 [] := by
  unfold m_X8_isOut at h
  refine g_lload_n 0 C dX8_isOut_0 rfl rfl ?_
  refine g_lload_n 2 C dX8_isOut_1 rfl rfl ?_
  refine g_lcmp_lt 13 C dX8_isOut_2 dX8_isOut_3 (by decide) h (fun h => ?_) (fun h => ?_)
  · refine g_iconst C dX8_isOut_13 ?_
    refine g_goto (tgt := 18) C dX8_isOut_14 (by decide) ?_
    cases h
    exact hret 18 _ bn1 dX8_isOut_18
  · refine g_lload_n 0 C dX8_isOut_6 rfl rfl ?_
    refine g_lload C dX8_isOut_7 rfl ?_
    refine g_lcmp_le 17 C dX8_isOut_9 dX8_isOut_10 (by decide) h (fun h => ?_) (fun h => ?_)
    · refine g_iconst C dX8_isOut_17 ?_
      cases h
      exact hret 18 _ bn0 dX8_isOut_18
    · refine g_iconst C dX8_isOut_13 ?_
      refine g_goto (tgt := 18) C dX8_isOut_14 (by decide) ?_
      cases h
      exact hret 18 _ bn1 dX8_isOut_18
end S_X8_isOut
set_option maxRecDepth 100000 in
set_option maxHeartbeats 4000000 in
theorem c_X8_isOut (l : Launch) (D : va_G) (cy : Nat → ClassId) (ad : AD) (x0 : Int) (x2 : Int) (x4 : Int) (F : Nat) {v : Int} (h : m_X8_isOut F x0 x2 x4 = some v) : Ct l yX8_isOut cX8_isOut 6 (some .boolean) { frames := 0, cells := 0, slots := 0, locals := 0 } D cy ad [.long (wJ x0), .long (wJ x2), .long (wJ x4)] (W_X8_isOut cy) (W_X8_isOut cy) (some (.int (wI v))) := by
  refine Ct.introZ (j := 0) (plainFor_of_name (by decide)) rfl rfl (fun E C e1 e2 e3 e4 e5 hret => ?_)
  subst e1; subst e2; subst e3; subst e4
  exact wm_X8_isOut C e5 h hret
-- MovingStair$Slot.hasOut(IIJJ)Z
def W_X5_hasOut (cy : Nat → ClassId) (a_t a_t_numbers : Nat) (g_t_0 : Value) (g_t_1 : Value) (c_size : Int) (c_numbers : Int → Int) : va_W := [(a_t, .inr (5, [g_t_0, g_t_1, .int (wI c_size), .ref a_t_numbers])), (a_t_numbers, .inl (cy 2, 60, .inr (.inl (aJ c_numbers))))]
def mb_X5_hasOut_3 (F : Nat) (k3 : Int → Option (Int)) (x2 : Int) (x3 : Int) (x5 : Int) (x7 : Int) (c_size : Int) (c_numbers : Int → Int) : Option (Int) :=
  if wI c_size ≤ wI x7 then
    (some 0)
  else
    (if wI 60 ≤ wI x7 then
    (some 0)
  else
    (chk (0 ≤ x7 ∧ x7 < 60) <| bnd1 (m_X8_isOut F (c_numbers x7) x3 x5) fun r2 => if wI r2 = wI 0 then
    (nam (x7 + x2) fun y4 => k3 y4)
  else
    (some 1)))
def ml_X5_hasOut_3 (F : Nat) (x2 : Int) (x3 : Int) (x5 : Int) (x7 : Int) (c_size : Int) (c_numbers : Int → Int) : Option (Int) :=
  loopN (fun (k : Int → Option (Int)) q => mb_X5_hasOut_3 F k x2 x3 x5 q c_size c_numbers) F x7
def m_X5_hasOut (F : Nat) (x1 : Int) (x2 : Int) (x3 : Int) (x5 : Int) (c_size : Int) (c_numbers : Int → Int) : Option (Int) :=
  ml_X5_hasOut_3 F x2 x3 x5 x1 c_size c_numbers
section S_X5_hasOut
variable {E : EE} {a_t a_t_numbers : Nat} {g_t_0 : Value} {g_t_1 : Value}
set_option maxRecDepth 100000 in
set_option maxHeartbeats 4000000 in
theorem wb_X5_hasOut_3 {F : Nat} {k3 : Int → Option (Int)} {v : Int} {x2 : Int} {x3 : Int} {x5 : Int} {x7 : Int} {c_size : Int} {c_numbers : Int → Int} (C : Cx E cX5_hasOut RX5 { frames := 1, cells := 0, slots := 0, locals := 25 }) (hN : eN E = 8) (h : mb_X5_hasOut_3 F k3 x2 x3 x5 x7 c_size c_numbers = some v) (hk3 : ∀ (y_x7 : Int), k3 y_x7 = some v → GG E 0 0 (W_X5_hasOut (eCy E) a_t a_t_numbers g_t_0 g_t_1 c_size c_numbers) [some (.ref a_t), none, some (.int (wI x2)), some (.long (wJ x3)), none, some (.long (wJ x5)), none, some (.int (wI y_x7))] 3 []) (hret : ∀ (pc : Nat) (L : List (Option Value)), narrow .boolean (.int (wI v)) = .int (wI v) → decode cX5_hasOut pc = .ok (.ireturn, 1) → GG E 0 0 (W_X5_hasOut (eCy E) a_t a_t_numbers g_t_0 g_t_1 c_size c_numbers) L pc [.int (wI v)]) : GG E 0 0 (W_X5_hasOut (eCy E) a_t a_t_numbers g_t_0 g_t_1 c_size c_numbers) [some (.ref a_t), none, some (.int (wI x2)), some (.long (wJ x3)), none, some (.long (wJ x5)), none, some (.int (wI x7))] 3 [] := by
  unfold mb_X5_hasOut_3 at h
  refine g_iload C dX5_hasOut_3 rfl ?_
  refine g_aload_n 0 C dX5_hasOut_5 rfl rfl ?_
  refine g_get C fg_X5_19 0 rfl rfl dX5_hasOut_6 ?_
  refine g_st (st' := [.int (wI c_size), .int (wI x7)]) rfl ?_
  refine g_icmp_ge 46 C dX5_hasOut_9 (by decide) h (fun h => ?_) (fun h => ?_)
  · refine g_iconst C dX5_hasOut_46 ?_
    cases h
    exact hret 47 _ bn0 dX5_hasOut_47
  · refine g_iload C dX5_hasOut_12 rfl ?_
    refine g_bipush C dX5_hasOut_14 (by decide) ?_
    refine g_icmp_ge 46 C dX5_hasOut_16 (by decide) h (fun h => ?_) (fun h => ?_)
    · refine g_iconst C dX5_hasOut_46 ?_
      cases h
      exact hret 47 _ bn0 dX5_hasOut_47
    · refine g_aload_n 0 C dX5_hasOut_19 rfl rfl ?_
      refine g_get C fg_X5_22 0 rfl rfl dX5_hasOut_20 ?_
      refine g_iload C dX5_hasOut_23 rfl ?_
      obtain ⟨hc1, h⟩ := chk_some h
      refine g_lald C 1 rfl hc1 rfl dX5_hasOut_25 ?_
      refine g_lload_n 3 C dX5_hasOut_26 rfl rfl ?_
      refine g_lload C dX5_hasOut_27 rfl ?_
      obtain ⟨r2, hr3, h⟩ := bnd1_some h
      refine g_callNI [] [0, 1] [0, 1] C (mb0_X8_isOut _) (host := RX8) (by decide) ms0_X8_isOut (c_X8_isOut _ _ _ _ (c_numbers x7) x3 x5 F hr3) rfl rfl (ws2 := (W_X5_hasOut (eCy E) a_t a_t_numbers g_t_0 g_t_1 c_size c_numbers)) rfl rfl rfl (rest := []) rfl rfl rfl dX5_hasOut_29 ?_
      refine g_if_eq 37 C dX5_hasOut_32 (by decide) h (fun h => ?_) (fun h => ?_)
      · refine g_iload C dX5_hasOut_37 rfl ?_
        refine g_iload_n 2 C dX5_hasOut_39 rfl rfl ?_
        refine g_iadd C dX5_hasOut_40 ?_
        obtain ⟨y4, e_y4, h⟩ := nam_some h
        refine g_topI e_y4 ?_
        refine g_istore C hN dX5_hasOut_41 rfl (L' := [some (.ref a_t), none, some (.int (wI x2)), some (.long (wJ x3)), none, some (.long (wJ x5)), none, some (.int (wI y4))]) rfl ?_
        refine g_goto (tgt := 3) C dX5_hasOut_43 (by decide) ?_
        exact hk3 _ h
      · refine g_iconst C dX5_hasOut_35 ?_
        cases h
        exact hret 36 _ bn1 dX5_hasOut_36
set_option maxRecDepth 100000 in
set_option maxHeartbeats 4000000 in
theorem wl_X5_hasOut_3 {F : Nat} {v : Int} {x2 : Int} {x3 : Int} {x5 : Int} {x7 : Int} {c_size : Int} {c_numbers : Int → Int} (C : Cx E cX5_hasOut RX5 { frames := 1, cells := 0, slots := 0, locals := 25 }) (hN : eN E = 8) (h : ml_X5_hasOut_3 F x2 x3 x5 x7 c_size c_numbers = some v) (hret : ∀ (pc : Nat) (L : List (Option Value)), narrow .boolean (.int (wI v)) = .int (wI v) → decode cX5_hasOut pc = .ok (.ireturn, 1) → GG E 0 0 (W_X5_hasOut (eCy E) a_t a_t_numbers g_t_0 g_t_1 c_size c_numbers) L pc [.int (wI v)]) : GG E 0 0 (W_X5_hasOut (eCy E) a_t a_t_numbers g_t_0 g_t_1 c_size c_numbers) [some (.ref a_t), none, some (.int (wI x2)), some (.long (wJ x3)), none, some (.long (wJ x5)), none, some (.int (wI x7))] 3 [] := by
  unfold ml_X5_hasOut_3 at h
  exact loop_walk (g := fun (q : Int) => GG E 0 0 (W_X5_hasOut (eCy E) a_t a_t_numbers g_t_0 g_t_1 c_size c_numbers) [some (.ref a_t), none, some (.int (wI x2)), some (.long (wJ x3)), none, some (.long (wJ x5)), none, some (.int (wI q))] 3 []) (fun k hk q h => wb_X5_hasOut_3 C hN h (fun y0 hh => hk y0 hh) hret) F x7 h
set_option maxRecDepth 100000 in
set_option maxHeartbeats 4000000 in
theorem wm_X5_hasOut {F : Nat} {v : Int} {x1 : Int} {x2 : Int} {x3 : Int} {x5 : Int} {c_size : Int} {c_numbers : Int → Int} (C : Cx E cX5_hasOut RX5 { frames := 1, cells := 0, slots := 0, locals := 25 }) (hN : eN E = 8) (h : m_X5_hasOut F x1 x2 x3 x5 c_size c_numbers = some v) (hret : ∀ (pc : Nat) (L : List (Option Value)), narrow .boolean (.int (wI v)) = .int (wI v) → decode cX5_hasOut pc = .ok (.ireturn, 1) → GG E 0 0 (W_X5_hasOut (eCy E) a_t a_t_numbers g_t_0 g_t_1 c_size c_numbers) L pc [.int (wI v)]) : GG E 0 0 (W_X5_hasOut (eCy E) a_t a_t_numbers g_t_0 g_t_1 c_size c_numbers) [some (.ref a_t), some (.int (wI x1)), some (.int (wI x2)), some (.long (wJ x3)), none, some (.long (wJ x5)), none, none] 0 [] := by
  unfold m_X5_hasOut at h
  refine g_iload_n 1 C dX5_hasOut_0 rfl rfl ?_
  refine g_istore C hN dX5_hasOut_1 rfl (L' := [some (.ref a_t), some (.int (wI x1)), some (.int (wI x2)), some (.long (wJ x3)), none, some (.long (wJ x5)), none, some (.int (wI x1))]) rfl ?_
  refine g_mask [true, false, true, true, false, true, false, true] (L' := [some (.ref a_t), none, some (.int (wI x2)), some (.long (wJ x3)), none, some (.long (wJ x5)), none, some (.int (wI x1))]) rfl ?_
  exact wl_X5_hasOut_3 C hN h hret
end S_X5_hasOut
set_option maxRecDepth 100000 in
set_option maxHeartbeats 4000000 in
theorem c_X5_hasOut (l : Launch) (D : va_G) (cy : Nat → ClassId) (ad : AD) (a_t a_t_numbers : Nat) (g_t_0 : Value) (g_t_1 : Value) (x1 : Int) (x2 : Int) (x3 : Int) (x5 : Int) (c_size : Int) (c_numbers : Int → Int) (F : Nat) {v : Int} (h : m_X5_hasOut F x1 x2 x3 x5 c_size c_numbers = some v) : Ct l yX5_hasOut cX5_hasOut 8 (some .boolean) { frames := 1, cells := 0, slots := 0, locals := 25 } D cy ad [.ref a_t, .int (wI x1), .int (wI x2), .long (wJ x3), .long (wJ x5)] (W_X5_hasOut cy a_t a_t_numbers g_t_0 g_t_1 c_size c_numbers) (W_X5_hasOut cy a_t a_t_numbers g_t_0 g_t_1 c_size c_numbers) (some (.int (wI v))) := by
  refine Ct.introZ (j := 1) (plainFor_of_name (by decide)) rfl rfl (fun E C e1 e2 e3 e4 e5 hret => ?_)
  subst e1; subst e2; subst e3; subst e4
  exact wm_X5_hasOut C e5 h hret
-- java/lang/Math.max(II)I
def W_J9_max_7cf53 (cy : Nat → ClassId) : va_W := []
def m_J9_max_7cf53 (F : Nat) (x0 : Int) (x1 : Int) : Option (Int) :=
  if wI x0 < wI x1 then
    (some x1)
  else
    (some x0)
section S_J9_max_7cf53
variable {E : EE}
set_option maxRecDepth 100000 in
set_option maxHeartbeats 4000000 in
theorem wm_J9_max_7cf53 {F : Nat} {v : Int} {x0 : Int} {x1 : Int} (C : Cx E cJ9_max_7cf53 RJ9 { frames := 0, cells := 0, slots := 0, locals := 0 }) (hN : eN E = 2) (h : m_J9_max_7cf53 F x0 x1 = some v) (hret : ∀ (pc : Nat) (L : List (Option Value)), decode cJ9_max_7cf53 pc = .ok (.ireturn, 1) → GG E 0 0 (W_J9_max_7cf53 (eCy E)) L pc [.int (wI v)]) : GG E 0 0 (W_J9_max_7cf53 (eCy E)) [some (.int (wI x0)), some (.int (wI x1))] 0 [] := by
  unfold m_J9_max_7cf53 at h
  refine g_iload_n 0 C dJ9_max_7cf53_0 rfl rfl ?_
  refine g_iload_n 1 C dJ9_max_7cf53_1 rfl rfl ?_
  refine g_icmp_lt 9 C dJ9_max_7cf53_2 (by decide) h (fun h => ?_) (fun h => ?_)
  · refine g_iload_n 1 C dJ9_max_7cf53_9 rfl rfl ?_
    cases h
    exact hret 10 _ dJ9_max_7cf53_10
  · refine g_iload_n 0 C dJ9_max_7cf53_5 rfl rfl ?_
    refine g_goto (tgt := 10) C dJ9_max_7cf53_6 (by decide) ?_
    cases h
    exact hret 10 _ dJ9_max_7cf53_10
end S_J9_max_7cf53
set_option maxRecDepth 100000 in
set_option maxHeartbeats 4000000 in
theorem c_J9_max_7cf53 (l : Launch) (D : va_G) (cy : Nat → ClassId) (ad : AD) (x0 : Int) (x1 : Int) (F : Nat) {v : Int} (h : m_J9_max_7cf53 F x0 x1 = some v) : Ct l yJ9_max_7cf53 cJ9_max_7cf53 2 (some .int) { frames := 0, cells := 0, slots := 0, locals := 0 } D cy ad [.int (wI x0), .int (wI x1)] (W_J9_max_7cf53 cy) (W_J9_max_7cf53 cy) (some (.int (wI v))) := by
  refine Ct.introI (j := 0) (by decide +kernel) rfl rfl (fun E C e1 e2 e3 e4 e5 hret => ?_)
  subst e1; subst e2; subst e3; subst e4
  exact wm_J9_max_7cf53 C e5 h hret
-- java/lang/Math.min(II)I
def W_J9_min_7cf53 (cy : Nat → ClassId) : va_W := []
def m_J9_min_7cf53 (F : Nat) (x0 : Int) (x1 : Int) : Option (Int) :=
  if wI x1 < wI x0 then
    (some x1)
  else
    (some x0)
section S_J9_min_7cf53
variable {E : EE}
set_option maxRecDepth 100000 in
set_option maxHeartbeats 4000000 in
theorem wm_J9_min_7cf53 {F : Nat} {v : Int} {x0 : Int} {x1 : Int} (C : Cx E cJ9_min_7cf53 RJ9 { frames := 0, cells := 0, slots := 0, locals := 0 }) (hN : eN E = 2) (h : m_J9_min_7cf53 F x0 x1 = some v) (hret : ∀ (pc : Nat) (L : List (Option Value)), decode cJ9_min_7cf53 pc = .ok (.ireturn, 1) → GG E 0 0 (W_J9_min_7cf53 (eCy E)) L pc [.int (wI v)]) : GG E 0 0 (W_J9_min_7cf53 (eCy E)) [some (.int (wI x0)), some (.int (wI x1))] 0 [] := by
  unfold m_J9_min_7cf53 at h
  refine g_iload_n 0 C dJ9_min_7cf53_0 rfl rfl ?_
  refine g_iload_n 1 C dJ9_min_7cf53_1 rfl rfl ?_
  refine g_icmp_gt 9 C dJ9_min_7cf53_2 (by decide) h (fun h => ?_) (fun h => ?_)
  · refine g_iload_n 1 C dJ9_min_7cf53_9 rfl rfl ?_
    cases h
    exact hret 10 _ dJ9_min_7cf53_10
  · refine g_iload_n 0 C dJ9_min_7cf53_5 rfl rfl ?_
    refine g_goto (tgt := 10) C dJ9_min_7cf53_6 (by decide) ?_
    cases h
    exact hret 10 _ dJ9_min_7cf53_10
end S_J9_min_7cf53
set_option maxRecDepth 100000 in
set_option maxHeartbeats 4000000 in
theorem c_J9_min_7cf53 (l : Launch) (D : va_G) (cy : Nat → ClassId) (ad : AD) (x0 : Int) (x1 : Int) (F : Nat) {v : Int} (h : m_J9_min_7cf53 F x0 x1 = some v) : Ct l yJ9_min_7cf53 cJ9_min_7cf53 2 (some .int) { frames := 0, cells := 0, slots := 0, locals := 0 } D cy ad [.int (wI x0), .int (wI x1)] (W_J9_min_7cf53 cy) (W_J9_min_7cf53 cy) (some (.int (wI v))) := by
  refine Ct.introI (j := 0) (by decide +kernel) rfl rfl (fun E C e1 e2 e3 e4 e5 hret => ?_)
  subst e1; subst e2; subst e3; subst e4
  exact wm_J9_min_7cf53 C e5 h hret
-- java/util/Arrays.fill([II)V
def W_J7_fill_53178 (cy : Nat → ClassId) (a_p1 : Nat) (n_p1 : Nat) (c_p1 : Int → Int) : va_W := [(a_p1, .inl (cy 1, n_p1, .inl (aI c_p1)))]
def mb_J7_fill_53178_5 (F : Nat) (k5 : Int → (Int → Int) → Option ((Int → Int))) (n_p1 : Nat) (x1 : Int) (x2 : Int) (x3 : Int) (c_p1 : Int → Int) : Option ((Int → Int)) :=
  if wI x3 ≤ wI x2 then
    (some c_p1)
  else
    (chk (0 ≤ x2 ∧ x2 < (n_p1 : Int)) <| k5 (x2 + 1) (up c_p1 x2 x1))
def ml_J7_fill_53178_5 (F : Nat) (n_p1 : Nat) (x1 : Int) (x2 : Int) (x3 : Int) (c_p1 : Int → Int) : Option ((Int → Int)) :=
  loopN (fun (k : Int × (Int → Int) → Option ((Int → Int))) q => mb_J7_fill_53178_5 F (fun y0 y1 => k (y0, y1)) n_p1 x1 q.1 x3 q.2) F (x2, c_p1)
def m_J7_fill_53178 (F : Nat) (n_p1 : Nat) (x1 : Int) (c_p1 : Int → Int) : Option ((Int → Int)) :=
  nam (((n_p1 : Nat) : Int)) fun y1 => ml_J7_fill_53178_5 F n_p1 x1 0 y1 c_p1
section S_J7_fill_53178
variable {E : EE} {a_p1 : Nat} {n_p1 : Nat}
set_option maxRecDepth 100000 in
set_option maxHeartbeats 4000000 in
theorem wb_J7_fill_53178_5 {F : Nat} {k5 : Int → (Int → Int) → Option ((Int → Int))} {v : (Int → Int)} {x1 : Int} {x2 : Int} {x3 : Int} {c_p1 : Int → Int} (C : Cx E cJ7_fill_53178 RJ7 { frames := 0, cells := 0, slots := 0, locals := 0 }) (hN : eN E = 4) (h : mb_J7_fill_53178_5 F k5 n_p1 x1 x2 x3 c_p1 = some v) (hk5 : ∀ (y_x2 : Int) (y_c_p1 : Int → Int), k5 y_x2 y_c_p1 = some v → GG E 0 0 (W_J7_fill_53178 (eCy E) a_p1 n_p1 y_c_p1) [some (.ref a_p1), some (.int (wI x1)), some (.int (wI y_x2)), some (.int (wI x3))] 5 []) (hlt_n_p1 : Nat.blt n_p1 2147483648 = true) (hret : ∀ (pc : Nat) (L : List (Option Value)), decode cJ7_fill_53178 pc = .ok (.return_, 1) → GG E 0 0 (W_J7_fill_53178 (eCy E) a_p1 n_p1 v) L pc []) : GG E 0 0 (W_J7_fill_53178 (eCy E) a_p1 n_p1 c_p1) [some (.ref a_p1), some (.int (wI x1)), some (.int (wI x2)), some (.int (wI x3))] 5 [] := by
  unfold mb_J7_fill_53178_5 at h
  refine g_iload_n 2 C dJ7_fill_53178_5 rfl rfl ?_
  refine g_iload_n 3 C dJ7_fill_53178_6 rfl rfl ?_
  refine g_icmp_ge 20 C dJ7_fill_53178_7 (by decide) h (fun h => ?_) (fun h => ?_)
  · cases h
    exact hret 20 _ dJ7_fill_53178_20
  · refine g_aload_n 0 C dJ7_fill_53178_10 rfl rfl ?_
    refine g_iload_n 2 C dJ7_fill_53178_11 rfl rfl ?_
    refine g_iload_n 1 C dJ7_fill_53178_12 rfl rfl ?_
    obtain ⟨hc1, h⟩ := chk_some h
    refine g_iast C 0 rfl hc1 hlt_n_p1 (ws' := (W_J7_fill_53178 (eCy E) a_p1 n_p1 (up c_p1 x2 x1))) rfl dJ7_fill_53178_13 ?_
    refine g_iinc C hN dJ7_fill_53178_14 rfl rfl (L' := [some (.ref a_p1), some (.int (wI x1)), some (.int (wI (x2 + 1))), some (.int (wI x3))]) rfl ?_
    refine g_goto (tgt := 5) C dJ7_fill_53178_17 (by decide) ?_
    exact hk5 _ _ h
set_option maxRecDepth 100000 in
set_option maxHeartbeats 4000000 in
theorem wl_J7_fill_53178_5 {F : Nat} {v : (Int → Int)} {x1 : Int} {x2 : Int} {x3 : Int} {c_p1 : Int → Int} (C : Cx E cJ7_fill_53178 RJ7 { frames := 0, cells := 0, slots := 0, locals := 0 }) (hN : eN E = 4) (h : ml_J7_fill_53178_5 F n_p1 x1 x2 x3 c_p1 = some v) (hlt_n_p1 : Nat.blt n_p1 2147483648 = true) (hret : ∀ (pc : Nat) (L : List (Option Value)), decode cJ7_fill_53178 pc = .ok (.return_, 1) → GG E 0 0 (W_J7_fill_53178 (eCy E) a_p1 n_p1 v) L pc []) : GG E 0 0 (W_J7_fill_53178 (eCy E) a_p1 n_p1 c_p1) [some (.ref a_p1), some (.int (wI x1)), some (.int (wI x2)), some (.int (wI x3))] 5 [] := by
  unfold ml_J7_fill_53178_5 at h
  exact loop_walk (g := fun (q : Int × (Int → Int)) => GG E 0 0 (W_J7_fill_53178 (eCy E) a_p1 n_p1 (q.2)) [some (.ref a_p1), some (.int (wI x1)), some (.int (wI (q.1))), some (.int (wI x3))] 5 []) (fun k hk q h => wb_J7_fill_53178_5 C hN h (fun y0 y1 hh => hk (y0, y1) hh) hlt_n_p1 hret) F (x2, c_p1) h
set_option maxRecDepth 100000 in
set_option maxHeartbeats 4000000 in
theorem wm_J7_fill_53178 {F : Nat} {v : (Int → Int)} {x1 : Int} {c_p1 : Int → Int} (C : Cx E cJ7_fill_53178 RJ7 { frames := 0, cells := 0, slots := 0, locals := 0 }) (hN : eN E = 4) (h : m_J7_fill_53178 F n_p1 x1 c_p1 = some v) (hlt_n_p1 : Nat.blt n_p1 2147483648 = true) (hret : ∀ (pc : Nat) (L : List (Option Value)), decode cJ7_fill_53178 pc = .ok (.return_, 1) → GG E 0 0 (W_J7_fill_53178 (eCy E) a_p1 n_p1 v) L pc []) : GG E 0 0 (W_J7_fill_53178 (eCy E) a_p1 n_p1 c_p1) [some (.ref a_p1), some (.int (wI x1)), none, none] 0 [] := by
  unfold m_J7_fill_53178 at h
  refine g_iconst C dJ7_fill_53178_0 ?_
  refine g_istore_n 2 C hN dJ7_fill_53178_1 rfl rfl (L' := [some (.ref a_p1), some (.int (wI x1)), some (.int (wI 0)), none]) rfl ?_
  refine g_aload_n 0 C dJ7_fill_53178_2 rfl rfl ?_
  refine g_alen (N := n_p1) (t0 := 1) C 0 rfl rfl rfl dJ7_fill_53178_3 ?_
  obtain ⟨y1, e_y1, h⟩ := nam_some h
  refine g_topI e_y1 ?_
  refine g_istore_n 3 C hN dJ7_fill_53178_4 rfl rfl (L' := [some (.ref a_p1), some (.int (wI x1)), some (.int (wI 0)), some (.int (wI y1))]) rfl ?_
  exact wl_J7_fill_53178_5 C hN h hlt_n_p1 hret
end S_J7_fill_53178
set_option maxRecDepth 100000 in
set_option maxHeartbeats 4000000 in
theorem c_J7_fill_53178 (l : Launch) (D : va_G) (cy : Nat → ClassId) (ad : AD) (a_p1 : Nat) (n_p1 : Nat) (x1 : Int) (c_p1 : Int → Int) (F : Nat) {v : (Int → Int)} (h : m_J7_fill_53178 F n_p1 x1 c_p1 = some v) (hlt_n_p1 : Nat.blt n_p1 2147483648 = true) : Ct l yJ7_fill_53178 cJ7_fill_53178 4 none { frames := 0, cells := 0, slots := 0, locals := 0 } D cy ad [.ref a_p1, .int (wI x1)] (W_J7_fill_53178 cy a_p1 n_p1 c_p1) (W_J7_fill_53178 cy a_p1 n_p1 v) none := by
  refine Ct.introV (j := 2) (plainFor_of_name (by decide)) rfl rfl (fun E C e1 e2 e3 e4 e5 hret => ?_)
  subst e1; subst e2; subst e3; subst e4
  exact wm_J7_fill_53178 C e5 h hlt_n_p1 hret
-- java/lang/Integer.bitCount(I)I
def W_J6_bitCount_0f7a4 (cy : Nat → ClassId) : va_W := []
def m_J6_bitCount_0f7a4 (F : Nat) (x0 : Int) : Option (Int) :=
  nam (x0 - (andI (ushrI x0 1) 1431655765)) fun y1 => nam ((andI y1 858993459) + (andI (ushrI y1 2) 858993459)) fun y2 => nam (andI (y2 + (ushrI y2 4)) 252645135) fun y3 => nam (y3 + (ushrI y3 8)) fun y4 => nam (y4 + (ushrI y4 16)) fun y5 => some (andI y5 63)
section S_J6_bitCount_0f7a4
variable {E : EE}
set_option maxRecDepth 100000 in
set_option maxHeartbeats 4000000 in
theorem wm_J6_bitCount_0f7a4 {F : Nat} {v : Int} {x0 : Int} (C : Cx E cJ6_bitCount_0f7a4 RJ6 { frames := 0, cells := 0, slots := 0, locals := 0 }) (hN : eN E = 1) (h : m_J6_bitCount_0f7a4 F x0 = some v) (hret : ∀ (pc : Nat) (L : List (Option Value)), decode cJ6_bitCount_0f7a4 pc = .ok (.ireturn, 1) → GG E 0 0 (W_J6_bitCount_0f7a4 (eCy E)) L pc [.int (wI v)]) : GG E 0 0 (W_J6_bitCount_0f7a4 (eCy E)) [some (.int (wI x0))] 0 [] := by
  unfold m_J6_bitCount_0f7a4 at h
  refine g_iload_n 0 C dJ6_bitCount_0f7a4_0 rfl rfl ?_
  refine g_iload_n 0 C dJ6_bitCount_0f7a4_1 rfl rfl ?_
  refine g_iconst C dJ6_bitCount_0f7a4_2 ?_
  refine g_iushr C dJ6_bitCount_0f7a4_3 ?_
  refine g_ldcw (v := 1431655765) C mc_J6_265 dJ6_bitCount_0f7a4_4 ?_
  refine g_iand C dJ6_bitCount_0f7a4_7 ?_
  refine g_isub C dJ6_bitCount_0f7a4_8 ?_
  obtain ⟨y1, e_y1, h⟩ := nam_some h
  refine g_topI e_y1 ?_
  refine g_istore_n 0 C hN dJ6_bitCount_0f7a4_9 rfl rfl (L' := [some (.int (wI y1))]) rfl ?_
  refine g_iload_n 0 C dJ6_bitCount_0f7a4_10 rfl rfl ?_
  refine g_ldcw (v := 858993459) C mc_J6_266 dJ6_bitCount_0f7a4_11 ?_
  refine g_iand C dJ6_bitCount_0f7a4_14 ?_
  refine g_iload_n 0 C dJ6_bitCount_0f7a4_15 rfl rfl ?_
  refine g_iconst C dJ6_bitCount_0f7a4_16 ?_
  refine g_iushr C dJ6_bitCount_0f7a4_17 ?_
  refine g_ldcw (v := 858993459) C mc_J6_266 dJ6_bitCount_0f7a4_18 ?_
  refine g_iand C dJ6_bitCount_0f7a4_21 ?_
  refine g_iadd C dJ6_bitCount_0f7a4_22 ?_
  obtain ⟨y2, e_y2, h⟩ := nam_some h
  refine g_topI e_y2 ?_
  refine g_istore_n 0 C hN dJ6_bitCount_0f7a4_23 rfl rfl (L' := [some (.int (wI y2))]) rfl ?_
  refine g_iload_n 0 C dJ6_bitCount_0f7a4_24 rfl rfl ?_
  refine g_iload_n 0 C dJ6_bitCount_0f7a4_25 rfl rfl ?_
  refine g_iconst C dJ6_bitCount_0f7a4_26 ?_
  refine g_iushr C dJ6_bitCount_0f7a4_27 ?_
  refine g_iadd C dJ6_bitCount_0f7a4_28 ?_
  refine g_ldcw (v := 252645135) C mc_J6_267 dJ6_bitCount_0f7a4_29 ?_
  refine g_iand C dJ6_bitCount_0f7a4_32 ?_
  obtain ⟨y3, e_y3, h⟩ := nam_some h
  refine g_topI e_y3 ?_
  refine g_istore_n 0 C hN dJ6_bitCount_0f7a4_33 rfl rfl (L' := [some (.int (wI y3))]) rfl ?_
  refine g_iload_n 0 C dJ6_bitCount_0f7a4_34 rfl rfl ?_
  refine g_iload_n 0 C dJ6_bitCount_0f7a4_35 rfl rfl ?_
  refine g_bipush C dJ6_bitCount_0f7a4_36 (by decide) ?_
  refine g_iushr C dJ6_bitCount_0f7a4_38 ?_
  refine g_iadd C dJ6_bitCount_0f7a4_39 ?_
  obtain ⟨y4, e_y4, h⟩ := nam_some h
  refine g_topI e_y4 ?_
  refine g_istore_n 0 C hN dJ6_bitCount_0f7a4_40 rfl rfl (L' := [some (.int (wI y4))]) rfl ?_
  refine g_iload_n 0 C dJ6_bitCount_0f7a4_41 rfl rfl ?_
  refine g_iload_n 0 C dJ6_bitCount_0f7a4_42 rfl rfl ?_
  refine g_bipush C dJ6_bitCount_0f7a4_43 (by decide) ?_
  refine g_iushr C dJ6_bitCount_0f7a4_45 ?_
  refine g_iadd C dJ6_bitCount_0f7a4_46 ?_
  obtain ⟨y5, e_y5, h⟩ := nam_some h
  refine g_topI e_y5 ?_
  refine g_istore_n 0 C hN dJ6_bitCount_0f7a4_47 rfl rfl (L' := [some (.int (wI y5))]) rfl ?_
  refine g_iload_n 0 C dJ6_bitCount_0f7a4_48 rfl rfl ?_
  refine g_bipush C dJ6_bitCount_0f7a4_49 (by decide) ?_
  refine g_iand C dJ6_bitCount_0f7a4_51 ?_
  cases h
  exact hret 52 _ dJ6_bitCount_0f7a4_52
end S_J6_bitCount_0f7a4
set_option maxRecDepth 100000 in
set_option maxHeartbeats 4000000 in
theorem c_J6_bitCount_0f7a4 (l : Launch) (D : va_G) (cy : Nat → ClassId) (ad : AD) (x0 : Int) (F : Nat) {v : Int} (h : m_J6_bitCount_0f7a4 F x0 = some v) : Ct l yJ6_bitCount_0f7a4 cJ6_bitCount_0f7a4 1 (some .int) { frames := 0, cells := 0, slots := 0, locals := 0 } D cy ad [.int (wI x0)] (W_J6_bitCount_0f7a4 cy) (W_J6_bitCount_0f7a4 cy) (some (.int (wI v))) := by
  refine Ct.introI (j := 0) (plainFor_of_name (by decide)) rfl rfl (fun E C e1 e2 e3 e4 e5 hret => ?_)
  subst e1; subst e2; subst e3; subst e4
  exact wm_J6_bitCount_0f7a4 C e5 h hret
-- MovingStair$Fraction.put(JJ)V
def W_X1_put (cy : Nat → ClassId) (a_t : Nat) (c_above : Int) (c_below : Int) : va_W := [(a_t, .inr (1, [.long (wJ c_above), .long (wJ c_below)]))]
def mb_X1_put_58 (F : Nat) : Option (Int × Int) :=
  some (0, 1)
def mb_X1_put_45 (F : Nat) (x1 : Int) (x3 : Int) (x5 : Int) : Option (Int × Int) :=
  if wJ x3 = wJ 0 then
    (mb_X1_put_58 F)
  else
    (if wJ x5 = wJ 0 then
    (mb_X1_put_58 F)
  else
    (chk (dv64 x1 x5) <| nam (x1.tdiv x5) fun y2 => chk (dv64 x3 x5) <| nam (x3.tdiv x5) fun y4 => if wJ 0 ≤ wJ y4 then
    (some (y2, y4))
  else
    (nam (-y2) fun y5 => nam (-y4) fun y6 => some (y5, y6))))
def mb_X1_put_9 (F : Nat) (k9 : Int → Int → Int → Option (Int × Int)) (x1 : Int) (x3 : Int) (x5 : Int) (x7 : Int) (x9 : Int) : Option (Int × Int) :=
  if wI 200 ≤ wI x9 then
    (mb_X1_put_45 F x1 x3 x5)
  else
    (if wJ x7 = wJ 0 then
    (mb_X1_put_45 F x1 x3 x5)
  else
    (chk (dv64 x5 x7) <| nam (x5.tmod x7) fun y2 => k9 x7 y2 (x9 + 1)))
def ml_X1_put_9 (F : Nat) (x1 : Int) (x3 : Int) (x5 : Int) (x7 : Int) (x9 : Int) : Option (Int × Int) :=
  loopN (fun (k : Int × Int × Int → Option (Int × Int)) q => mb_X1_put_9 F (fun y0 y1 y2 => k (y0, y1, y2)) x1 x3 q.1 q.2.1 q.2.2) F (x5, x7, x9)
def m_X1_put (F : Nat) (x1 : Int) (x3 : Int) : Option (Int × Int) :=
  ml_X1_put_9 F x1 x3 x3 x1 0
section S_X1_put
variable {E : EE} {a_t : Nat}
set_option maxRecDepth 100000 in
set_option maxHeartbeats 4000000 in
theorem wb_X1_put_58 {F : Nat} {v : Int × Int} {c_above : Int} {c_below : Int} (C : Cx E cX1_put RX1 { frames := 0, cells := 0, slots := 0, locals := 0 }) (hN : eN E = 12) (h : mb_X1_put_58 F = some v) (hret : ∀ (pc : Nat) (L : List (Option Value)), decode cX1_put pc = .ok (.return_, 1) → GG E 0 0 (W_X1_put (eCy E) a_t (v.1) (v.2)) L pc []) : GG E 0 0 (W_X1_put (eCy E) a_t c_above c_below) [some (.ref a_t), none, none, none, none, none, none, none, none, none, none, none] 58 [] := by
  unfold mb_X1_put_58 at h
  refine g_aload_n 0 C dX1_put_58 rfl rfl ?_
  refine g_lconst (x := 0) C dX1_put_59 (by decide) ?_
  refine g_putJ C fp_X1_7 0 rfl rfl (ws' := (W_X1_put (eCy E) a_t 0 c_below)) rfl dX1_put_60 ?_
  refine g_aload_n 0 C dX1_put_63 rfl rfl ?_
  refine g_lconst (x := 1) C dX1_put_64 (by decide) ?_
  refine g_putJ C fp_X1_13 0 rfl rfl (ws' := (W_X1_put (eCy E) a_t 0 1)) rfl dX1_put_65 ?_
  cases h
  exact hret 68 _ dX1_put_68
set_option maxRecDepth 100000 in
set_option maxHeartbeats 4000000 in
theorem wb_X1_put_45 {F : Nat} {v : Int × Int} {x1 : Int} {x3 : Int} {x5 : Int} {c_above : Int} {c_below : Int} (C : Cx E cX1_put RX1 { frames := 0, cells := 0, slots := 0, locals := 0 }) (hN : eN E = 12) (h : mb_X1_put_45 F x1 x3 x5 = some v) (hret : ∀ (pc : Nat) (L : List (Option Value)), decode cX1_put pc = .ok (.return_, 1) → GG E 0 0 (W_X1_put (eCy E) a_t (v.1) (v.2)) L pc []) : GG E 0 0 (W_X1_put (eCy E) a_t c_above c_below) [some (.ref a_t), some (.long (wJ x1)), none, some (.long (wJ x3)), none, some (.long (wJ x5)), none, none, none, none, none, none] 45 [] := by
  unfold mb_X1_put_45 at h
  refine g_lload_n 3 C dX1_put_45 rfl rfl ?_
  refine g_lconst (x := 0) C dX1_put_46 (by decide) ?_
  refine g_lcmp_eq 58 C dX1_put_47 dX1_put_48 (by decide) h (fun h => ?_) (fun h => ?_)
  · refine g_mask [true, false, false, false, false, false, false, false, false, false, false, false] (L' := [some (.ref a_t), none, none, none, none, none, none, none, none, none, none, none]) rfl ?_
    exact wb_X1_put_58 C hN h hret
  · refine g_lload C dX1_put_51 rfl ?_
    refine g_lconst (x := 0) C dX1_put_53 (by decide) ?_
    refine g_lcmp_ne 69 C dX1_put_54 dX1_put_55 (by decide) h (fun h => ?_) (fun h => ?_)
    · refine g_aload_n 0 C dX1_put_69 rfl rfl ?_
      refine g_lload_n 1 C dX1_put_70 rfl rfl ?_
      refine g_lload C dX1_put_71 rfl ?_
      obtain ⟨hc1, h⟩ := chk_some h
      refine g_ldiv C dX1_put_73 hc1 ?_
      obtain ⟨y2, e_y2, h⟩ := nam_some h
      refine g_topJ e_y2 ?_
      refine g_putJ C fp_X1_7 0 rfl rfl (ws' := (W_X1_put (eCy E) a_t y2 c_below)) rfl dX1_put_74 ?_
      refine g_aload_n 0 C dX1_put_77 rfl rfl ?_
      refine g_lload_n 3 C dX1_put_78 rfl rfl ?_
      refine g_lload C dX1_put_79 rfl ?_
      obtain ⟨hc3, h⟩ := chk_some h
      refine g_ldiv C dX1_put_81 hc3 ?_
      obtain ⟨y4, e_y4, h⟩ := nam_some h
      refine g_topJ e_y4 ?_
      refine g_putJ C fp_X1_13 0 rfl rfl (ws' := (W_X1_put (eCy E) a_t y2 y4)) rfl dX1_put_82 ?_
      refine g_aload_n 0 C dX1_put_85 rfl rfl ?_
      refine g_get C fg_X1_13 0 rfl rfl dX1_put_86 ?_
      refine g_st (st' := [.long (wJ y4)]) rfl ?_
      refine g_lconst (x := 0) C dX1_put_89 (by decide) ?_
      refine g_lcmp_ge 112 C dX1_put_90 dX1_put_91 (by decide) h (fun h => ?_) (fun h => ?_)
      · cases h
        exact hret 112 _ dX1_put_112
      · refine g_aload_n 0 C dX1_put_94 rfl rfl ?_
        refine g_aload_n 0 C dX1_put_95 rfl rfl ?_
        refine g_get C fg_X1_7 0 rfl rfl dX1_put_96 ?_
        refine g_st (st' := [.long (wJ y2), .ref a_t]) rfl ?_
        refine g_lneg C dX1_put_99 ?_
        obtain ⟨y5, e_y5, h⟩ := nam_some h
        refine g_topJ e_y5 ?_
        refine g_putJ C fp_X1_7 0 rfl rfl (ws' := (W_X1_put (eCy E) a_t y5 y4)) rfl dX1_put_100 ?_
        refine g_aload_n 0 C dX1_put_103 rfl rfl ?_
        refine g_aload_n 0 C dX1_put_104 rfl rfl ?_
        refine g_get C fg_X1_13 0 rfl rfl dX1_put_105 ?_
        refine g_st (st' := [.long (wJ y4), .ref a_t]) rfl ?_
        refine g_lneg C dX1_put_108 ?_
        obtain ⟨y6, e_y6, h⟩ := nam_some h
        refine g_topJ e_y6 ?_
        refine g_putJ C fp_X1_13 0 rfl rfl (ws' := (W_X1_put (eCy E) a_t y5 y6)) rfl dX1_put_109 ?_
        cases h
        exact hret 112 _ dX1_put_112
    · refine g_mask [true, false, false, false, false, false, false, false, false, false, false, false] (L' := [some (.ref a_t), none, none, none, none, none, none, none, none, none, none, none]) rfl ?_
      exact wb_X1_put_58 C hN h hret
set_option maxRecDepth 100000 in
set_option maxHeartbeats 4000000 in
theorem wb_X1_put_9 {F : Nat} {k9 : Int → Int → Int → Option (Int × Int)} {v : Int × Int} {x1 : Int} {x3 : Int} {x5 : Int} {x7 : Int} {x9 : Int} {c_above : Int} {c_below : Int} (C : Cx E cX1_put RX1 { frames := 0, cells := 0, slots := 0, locals := 0 }) (hN : eN E = 12) (h : mb_X1_put_9 F k9 x1 x3 x5 x7 x9 = some v) (hk9 : ∀ (y_x5 : Int) (y_x7 : Int) (y_x9 : Int) (z_c_above : Int) (z_c_below : Int), k9 y_x5 y_x7 y_x9 = some v → GG E 0 0 (W_X1_put (eCy E) a_t z_c_above z_c_below) [some (.ref a_t), some (.long (wJ x1)), none, some (.long (wJ x3)), none, some (.long (wJ y_x5)), none, some (.long (wJ y_x7)), none, some (.int (wI y_x9)), none, none] 9 []) (hret : ∀ (pc : Nat) (L : List (Option Value)), decode cX1_put pc = .ok (.return_, 1) → GG E 0 0 (W_X1_put (eCy E) a_t (v.1) (v.2)) L pc []) : GG E 0 0 (W_X1_put (eCy E) a_t c_above c_below) [some (.ref a_t), some (.long (wJ x1)), none, some (.long (wJ x3)), none, some (.long (wJ x5)), none, some (.long (wJ x7)), none, some (.int (wI x9)), none, none] 9 [] := by
  unfold mb_X1_put_9 at h
  refine g_iload C dX1_put_9 rfl ?_
  refine g_sipush C dX1_put_11 (by decide) ?_
  refine g_icmp_ge 45 C dX1_put_14 (by decide) h (fun h => ?_) (fun h => ?_)
  · refine g_mask [true, true, false, true, false, true, false, false, false, false, false, false] (L' := [some (.ref a_t), some (.long (wJ x1)), none, some (.long (wJ x3)), none, some (.long (wJ x5)), none, none, none, none, none, none]) rfl ?_
    exact wb_X1_put_45 C hN h hret
  · refine g_lload C dX1_put_17 rfl ?_
    refine g_lconst (x := 0) C dX1_put_19 (by decide) ?_
    refine g_lcmp_eq 45 C dX1_put_20 dX1_put_21 (by decide) h (fun h => ?_) (fun h => ?_)
    · refine g_mask [true, true, false, true, false, true, false, false, false, false, false, false] (L' := [some (.ref a_t), some (.long (wJ x1)), none, some (.long (wJ x3)), none, some (.long (wJ x5)), none, none, none, none, none, none]) rfl ?_
      exact wb_X1_put_45 C hN h hret
    · refine g_lload C dX1_put_24 rfl ?_
      refine g_lload C dX1_put_26 rfl ?_
      obtain ⟨hc1, h⟩ := chk_some h
      refine g_lrem C dX1_put_28 hc1 ?_
      obtain ⟨y2, e_y2, h⟩ := nam_some h
      refine g_topJ e_y2 ?_
      refine g_lstore C hN dX1_put_29 rfl (L' := [some (.ref a_t), some (.long (wJ x1)), none, some (.long (wJ x3)), none, some (.long (wJ x5)), none, some (.long (wJ x7)), none, some (.int (wI x9)), some (.long (wJ y2)), none]) rfl ?_
      refine g_lload C dX1_put_31 rfl ?_
      refine g_lstore C hN dX1_put_33 rfl (L' := [some (.ref a_t), some (.long (wJ x1)), none, some (.long (wJ x3)), none, some (.long (wJ x7)), none, some (.long (wJ x7)), none, some (.int (wI x9)), some (.long (wJ y2)), none]) rfl ?_
      refine g_lload C dX1_put_35 rfl ?_
      refine g_lstore C hN dX1_put_37 rfl (L' := [some (.ref a_t), some (.long (wJ x1)), none, some (.long (wJ x3)), none, some (.long (wJ x7)), none, some (.long (wJ y2)), none, some (.int (wI x9)), some (.long (wJ y2)), none]) rfl ?_
      refine g_iinc C hN dX1_put_39 rfl rfl (L' := [some (.ref a_t), some (.long (wJ x1)), none, some (.long (wJ x3)), none, some (.long (wJ x7)), none, some (.long (wJ y2)), none, some (.int (wI (x9 + 1))), some (.long (wJ y2)), none]) rfl ?_
      refine g_goto (tgt := 9) C dX1_put_42 (by decide) ?_
      refine g_mask [true, true, false, true, false, true, false, true, false, true, false, false] (L' := [some (.ref a_t), some (.long (wJ x1)), none, some (.long (wJ x3)), none, some (.long (wJ x7)), none, some (.long (wJ y2)), none, some (.int (wI (x9 + 1))), none, none]) rfl ?_
      exact hk9 _ _ _ _ _ h
set_option maxRecDepth 100000 in
set_option maxHeartbeats 4000000 in
theorem wl_X1_put_9 {F : Nat} {v : Int × Int} {x1 : Int} {x3 : Int} {x5 : Int} {x7 : Int} {x9 : Int} {c_above : Int} {c_below : Int} (C : Cx E cX1_put RX1 { frames := 0, cells := 0, slots := 0, locals := 0 }) (hN : eN E = 12) (h : ml_X1_put_9 F x1 x3 x5 x7 x9 = some v) (hret : ∀ (pc : Nat) (L : List (Option Value)), decode cX1_put pc = .ok (.return_, 1) → GG E 0 0 (W_X1_put (eCy E) a_t (v.1) (v.2)) L pc []) : GG E 0 0 (W_X1_put (eCy E) a_t c_above c_below) [some (.ref a_t), some (.long (wJ x1)), none, some (.long (wJ x3)), none, some (.long (wJ x5)), none, some (.long (wJ x7)), none, some (.int (wI x9)), none, none] 9 [] := by
  unfold ml_X1_put_9 at h
  exact loop_walk (g := fun (q : Int × Int × Int) => ∀ (z_c_above : Int) (z_c_below : Int), GG E 0 0 (W_X1_put (eCy E) a_t z_c_above z_c_below) [some (.ref a_t), some (.long (wJ x1)), none, some (.long (wJ x3)), none, some (.long (wJ (q.1))), none, some (.long (wJ (q.2.1))), none, some (.int (wI (q.2.2))), none, none] 9 []) (fun k hk q h z_c_above z_c_below => wb_X1_put_9 C hN h (fun y0 y1 y2 u0 u1 hh => hk (y0, y1, y2) hh u0 u1) hret) F (x5, x7, x9) h _ _
set_option maxRecDepth 100000 in
set_option maxHeartbeats 4000000 in
theorem wm_X1_put {F : Nat} {v : Int × Int} {x1 : Int} {x3 : Int} {c_above : Int} {c_below : Int} (C : Cx E cX1_put RX1 { frames := 0, cells := 0, slots := 0, locals := 0 }) (hN : eN E = 12) (h : m_X1_put F x1 x3 = some v) (hret : ∀ (pc : Nat) (L : List (Option Value)), decode cX1_put pc = .ok (.return_, 1) → GG E 0 0 (W_X1_put (eCy E) a_t (v.1) (v.2)) L pc []) : GG E 0 0 (W_X1_put (eCy E) a_t c_above c_below) [some (.ref a_t), some (.long (wJ x1)), none, some (.long (wJ x3)), none, none, none, none, none, none, none, none] 0 [] := by
  unfold m_X1_put at h
  refine g_lload_n 3 C dX1_put_0 rfl rfl ?_
  refine g_lstore C hN dX1_put_1 rfl (L' := [some (.ref a_t), some (.long (wJ x1)), none, some (.long (wJ x3)), none, some (.long (wJ x3)), none, none, none, none, none, none]) rfl ?_
  refine g_lload_n 1 C dX1_put_3 rfl rfl ?_
  refine g_lstore C hN dX1_put_4 rfl (L' := [some (.ref a_t), some (.long (wJ x1)), none, some (.long (wJ x3)), none, some (.long (wJ x3)), none, some (.long (wJ x1)), none, none, none, none]) rfl ?_
  refine g_iconst C dX1_put_6 ?_
  refine g_istore C hN dX1_put_7 rfl (L' := [some (.ref a_t), some (.long (wJ x1)), none, some (.long (wJ x3)), none, some (.long (wJ x3)), none, some (.long (wJ x1)), none, some (.int (wI 0)), none, none]) rfl ?_
  exact wl_X1_put_9 C hN h hret
end S_X1_put
set_option maxRecDepth 100000 in
set_option maxHeartbeats 4000000 in
theorem c_X1_put (l : Launch) (D : va_G) (cy : Nat → ClassId) (ad : AD) (a_t : Nat) (x1 : Int) (x3 : Int) (c_above : Int) (c_below : Int) (F : Nat) {v : Int × Int} (h : m_X1_put F x1 x3 = some v) : Ct l yX1_put cX1_put 12 none { frames := 0, cells := 0, slots := 0, locals := 0 } D cy ad [.ref a_t, .long (wJ x1), .long (wJ x3)] (W_X1_put cy a_t c_above c_below) (W_X1_put cy a_t (v.1) (v.2)) none := by
  refine Ct.introV (j := 7) (plainFor_of_name (by decide)) rfl rfl (fun E C e1 e2 e3 e4 e5 hret => ?_)
  subst e1; subst e2; subst e3; subst e4
  exact wm_X1_put C e5 h hret
-- MovingStair$Fraction.take(LMovingStair$Fraction;)V
def W_X1_take (cy : Nat → ClassId) (a_t a_p1 : Nat) (c_above : Int) (c_below : Int) (c_p1_above : Int) (c_p1_below : Int) : va_W := [(a_t, .inr (1, [.long (wJ c_above), .long (wJ c_below)])), (a_p1, .inr (1, [.long (wJ c_p1_above), .long (wJ c_p1_below)]))]
def m_X1_take (F : Nat) (c_p1_above : Int) (c_p1_below : Int) : Option (Int × Int) :=
  some (c_p1_above, c_p1_below)
section S_X1_take
variable {E : EE} {a_t a_p1 : Nat}
set_option maxRecDepth 100000 in
set_option maxHeartbeats 4000000 in
theorem wm_X1_take {F : Nat} {v : Int × Int} {c_p1_above : Int} {c_p1_below : Int} {c_above : Int} {c_below : Int} (C : Cx E cX1_take RX1 { frames := 0, cells := 0, slots := 0, locals := 0 }) (hN : eN E = 2) (h : m_X1_take F c_p1_above c_p1_below = some v) (hret : ∀ (pc : Nat) (L : List (Option Value)), decode cX1_take pc = .ok (.return_, 1) → GG E 0 0 (W_X1_take (eCy E) a_t a_p1 (v.1) (v.2) c_p1_above c_p1_below) L pc []) : GG E 0 0 (W_X1_take (eCy E) a_t a_p1 c_above c_below c_p1_above c_p1_below) [some (.ref a_t), some (.ref a_p1)] 0 [] := by
  unfold m_X1_take at h
  refine g_aload_n 0 C dX1_take_0 rfl rfl ?_
  refine g_aload_n 1 C dX1_take_1 rfl rfl ?_
  refine g_get C fg_X1_7 1 rfl rfl dX1_take_2 ?_
  refine g_st (st' := [.long (wJ c_p1_above), .ref a_t]) rfl ?_
  refine g_putJ C fp_X1_7 0 rfl rfl (ws' := (W_X1_take (eCy E) a_t a_p1 c_p1_above c_below c_p1_above c_p1_below)) rfl dX1_take_5 ?_
  refine g_aload_n 0 C dX1_take_8 rfl rfl ?_
  refine g_aload_n 1 C dX1_take_9 rfl rfl ?_
  refine g_get C fg_X1_13 1 rfl rfl dX1_take_10 ?_
  refine g_st (st' := [.long (wJ c_p1_below), .ref a_t]) rfl ?_
  refine g_putJ C fp_X1_13 0 rfl rfl (ws' := (W_X1_take (eCy E) a_t a_p1 c_p1_above c_p1_below c_p1_above c_p1_below)) rfl dX1_take_13 ?_
  cases h
  exact hret 16 _ dX1_take_16
end S_X1_take
set_option maxRecDepth 100000 in
set_option maxHeartbeats 4000000 in
theorem c_X1_take (l : Launch) (D : va_G) (cy : Nat → ClassId) (ad : AD) (a_t a_p1 : Nat) (c_above : Int) (c_below : Int) (c_p1_above : Int) (c_p1_below : Int) (F : Nat) {v : Int × Int} (h : m_X1_take F c_p1_above c_p1_below = some v) : Ct l yX1_take cX1_take 2 none { frames := 0, cells := 0, slots := 0, locals := 0 } D cy ad [.ref a_t, .ref a_p1] (W_X1_take cy a_t a_p1 c_above c_below c_p1_above c_p1_below) (W_X1_take cy a_t a_p1 (v.1) (v.2) c_p1_above c_p1_below) none := by
  refine Ct.introV (j := 0) (plainFor_of_name (by decide)) rfl rfl (fun E C e1 e2 e3 e4 e5 hret => ?_)
  subst e1; subst e2; subst e3; subst e4
  exact wm_X1_take C e5 h hret
-- MovingStair$Fraction.add(JJ)V
def W_X1_add (cy : Nat → ClassId) (a_t : Nat) (c_above : Int) (c_below : Int) : va_W := [(a_t, .inr (1, [.long (wJ c_above), .long (wJ c_below)]))]
def m_X1_add (F : Nat) (x1 : Int) (x3 : Int) (c_above : Int) (c_below : Int) : Option (Int × Int) :=
  bnd2 (m_X1_put F ((c_above * x3) + (x1 * c_below)) (c_below * x3)) fun o1 o2 => some (o1, o2)
section S_X1_add
variable {E : EE} {a_t : Nat}
set_option maxRecDepth 100000 in
set_option maxHeartbeats 4000000 in
theorem wm_X1_add {F : Nat} {v : Int × Int} {x1 : Int} {x3 : Int} {c_above : Int} {c_below : Int} (C : Cx E cX1_add RX1 { frames := 1, cells := 0, slots := 0, locals := 31 }) (hN : eN E = 5) (h : m_X1_add F x1 x3 c_above c_below = some v) (hret : ∀ (pc : Nat) (L : List (Option Value)), decode cX1_add pc = .ok (.return_, 1) → GG E 0 0 (W_X1_add (eCy E) a_t (v.1) (v.2)) L pc []) : GG E 0 0 (W_X1_add (eCy E) a_t c_above c_below) [some (.ref a_t), some (.long (wJ x1)), none, some (.long (wJ x3)), none] 0 [] := by
  unfold m_X1_add at h
  refine g_aload_n 0 C dX1_add_0 rfl rfl ?_
  refine g_aload_n 0 C dX1_add_1 rfl rfl ?_
  refine g_get C fg_X1_7 0 rfl rfl dX1_add_2 ?_
  refine g_st (st' := [.long (wJ c_above), .ref a_t]) rfl ?_
  refine g_lload_n 3 C dX1_add_5 rfl rfl ?_
  refine g_lmul C dX1_add_6 ?_
  refine g_lload_n 1 C dX1_add_7 rfl rfl ?_
  refine g_aload_n 0 C dX1_add_8 rfl rfl ?_
  refine g_get C fg_X1_13 0 rfl rfl dX1_add_9 ?_
  refine g_st (st' := [.long (wJ c_below), .long (wJ x1), .long (wJ (c_above * x3)), .ref a_t]) rfl ?_
  refine g_lmul C dX1_add_12 ?_
  refine g_ladd C dX1_add_13 ?_
  refine g_aload_n 0 C dX1_add_14 rfl rfl ?_
  refine g_get C fg_X1_13 0 rfl rfl dX1_add_15 ?_
  refine g_st (st' := [.long (wJ c_below), .long (wJ ((c_above * x3) + (x1 * c_below))), .ref a_t]) rfl ?_
  refine g_lload_n 3 C dX1_add_18 rfl rfl ?_
  refine g_lmul C dX1_add_19 ?_
  obtain ⟨o1, o2, hr3, h⟩ := bnd2_some h
  refine g_callV [0] [] [0] C mt_X1_16 (c_X1_put _ _ _ _ a_t ((c_above * x3) + (x1 * c_below)) (c_below * x3) c_above c_below F hr3) (q0 := 0) rfl (ci := 1) rfl rfl rfl (ws2 := (W_X1_add (eCy E) a_t o1 o2)) rfl rfl rfl (rest := []) rfl rfl rfl dX1_add_20 ?_
  cases h
  exact hret 23 _ dX1_add_23
end S_X1_add
set_option maxRecDepth 100000 in
set_option maxHeartbeats 4000000 in
theorem c_X1_add (l : Launch) (D : va_G) (cy : Nat → ClassId) (ad : AD) (a_t : Nat) (x1 : Int) (x3 : Int) (c_above : Int) (c_below : Int) (F : Nat) {v : Int × Int} (h : m_X1_add F x1 x3 c_above c_below = some v) : Ct l yX1_add cX1_add 5 none { frames := 1, cells := 0, slots := 0, locals := 31 } D cy ad [.ref a_t, .long (wJ x1), .long (wJ x3)] (W_X1_add cy a_t c_above c_below) (W_X1_add cy a_t (v.1) (v.2)) none := by
  refine Ct.introV (j := 0) (plainFor_of_name (by decide)) rfl rfl (fun E C e1 e2 e3 e4 e5 hret => ?_)
  subst e1; subst e2; subst e3; subst e4
  exact wm_X1_add C e5 h hret
-- java/lang/Math.floorDiv(JJ)J
def W_J9_floorDiv_f86c9 (cy : Nat → ClassId) : va_W := []
def m_J9_floorDiv_f86c9 (F : Nat) (x0 : Int) (x2 : Int) : Option (Int) :=
  chk (dv64 x0 x2) <| nam (x0.tdiv x2) fun y2 => if wJ 0 ≤ wJ (xorJ x0 x2) then
    (some y2)
  else
    (if wJ (y2 * x2) = wJ x0 then
    (some y2)
  else
    (some (y2 - 1)))
section S_J9_floorDiv_f86c9
variable {E : EE}
set_option maxRecDepth 100000 in
set_option maxHeartbeats 4000000 in
theorem wm_J9_floorDiv_f86c9 {F : Nat} {v : Int} {x0 : Int} {x2 : Int} (C : Cx E cJ9_floorDiv_f86c9 RJ9 { frames := 0, cells := 0, slots := 0, locals := 0 }) (hN : eN E = 6) (h : m_J9_floorDiv_f86c9 F x0 x2 = some v) (hret : ∀ (pc : Nat) (L : List (Option Value)), decode cJ9_floorDiv_f86c9 pc = .ok (.lreturn, 1) → GG E 0 0 (W_J9_floorDiv_f86c9 (eCy E)) L pc [.long (wJ v)]) : GG E 0 0 (W_J9_floorDiv_f86c9 (eCy E)) [some (.long (wJ x0)), none, some (.long (wJ x2)), none, none, none] 0 [] := by
  unfold m_J9_floorDiv_f86c9 at h
  refine g_lload_n 0 C dJ9_floorDiv_f86c9_0 rfl rfl ?_
  refine g_lload_n 2 C dJ9_floorDiv_f86c9_1 rfl rfl ?_
  obtain ⟨hc1, h⟩ := chk_some h
  refine g_ldiv C dJ9_floorDiv_f86c9_2 hc1 ?_
  obtain ⟨y2, e_y2, h⟩ := nam_some h
  refine g_topJ e_y2 ?_
  refine g_lstore C hN dJ9_floorDiv_f86c9_3 rfl (L' := [some (.long (wJ x0)), none, some (.long (wJ x2)), none, some (.long (wJ y2)), none]) rfl ?_
  refine g_lload_n 0 C dJ9_floorDiv_f86c9_5 rfl rfl ?_
  refine g_lload_n 2 C dJ9_floorDiv_f86c9_6 rfl rfl ?_
  refine g_lxor C dJ9_floorDiv_f86c9_7 ?_
  refine g_lconst (x := 0) C dJ9_floorDiv_f86c9_8 (by decide) ?_
  refine g_lcmp_ge 27 C dJ9_floorDiv_f86c9_9 dJ9_floorDiv_f86c9_10 (by decide) h (fun h => ?_) (fun h => ?_)
  · refine g_lload C dJ9_floorDiv_f86c9_27 rfl ?_
    cases h
    exact hret 29 _ dJ9_floorDiv_f86c9_29
  · refine g_lload C dJ9_floorDiv_f86c9_13 rfl ?_
    refine g_lload_n 2 C dJ9_floorDiv_f86c9_15 rfl rfl ?_
    refine g_lmul C dJ9_floorDiv_f86c9_16 ?_
    refine g_lload_n 0 C dJ9_floorDiv_f86c9_17 rfl rfl ?_
    refine g_lcmp_eq 27 C dJ9_floorDiv_f86c9_18 dJ9_floorDiv_f86c9_19 (by decide) h (fun h => ?_) (fun h => ?_)
    · refine g_lload C dJ9_floorDiv_f86c9_27 rfl ?_
      cases h
      exact hret 29 _ dJ9_floorDiv_f86c9_29
    · refine g_lload C dJ9_floorDiv_f86c9_22 rfl ?_
      refine g_lconst (x := 1) C dJ9_floorDiv_f86c9_24 (by decide) ?_
      refine g_lsub C dJ9_floorDiv_f86c9_25 ?_
      cases h
      exact hret 26 _ dJ9_floorDiv_f86c9_26
end S_J9_floorDiv_f86c9
set_option maxRecDepth 100000 in
set_option maxHeartbeats 4000000 in
theorem c_J9_floorDiv_f86c9 (l : Launch) (D : va_G) (cy : Nat → ClassId) (ad : AD) (x0 : Int) (x2 : Int) (F : Nat) {v : Int} (h : m_J9_floorDiv_f86c9 F x0 x2 = some v) : Ct l yJ9_floorDiv_f86c9 cJ9_floorDiv_f86c9 6 (some .long) { frames := 0, cells := 0, slots := 0, locals := 0 } D cy ad [.long (wJ x0), .long (wJ x2)] (W_J9_floorDiv_f86c9 cy) (W_J9_floorDiv_f86c9 cy) (some (.long (wJ v))) := by
  refine Ct.introJ (j := 2) (by decide +kernel) rfl rfl (fun E C e1 e2 e3 e4 e5 hret => ?_)
  subst e1; subst e2; subst e3; subst e4
  exact wm_J9_floorDiv_f86c9 C e5 h hret
-- java/lang/Long.compare(JJ)I
def W_J13_compare_74951 (cy : Nat → ClassId) : va_W := []
def m_J13_compare_74951 (F : Nat) (x0 : Int) (x2 : Int) : Option (Int) :=
  if wJ x2 ≤ wJ x0 then
    (if wJ x0 = wJ x2 then
    (some 0)
  else
    (some 1))
  else
    (some (-1))
section S_J13_compare_74951
variable {E : EE}
set_option maxRecDepth 100000 in
set_option maxHeartbeats 4000000 in
theorem wm_J13_compare_74951 {F : Nat} {v : Int} {x0 : Int} {x2 : Int} (C : Cx E cJ13_compare_74951 RJ13 { frames := 0, cells := 0, slots := 0, locals := 0 }) (hN : eN E = 4) (h : m_J13_compare_74951 F x0 x2 = some v) (hret : ∀ (pc : Nat) (L : List (Option Value)), decode cJ13_compare_74951 pc = .ok (.ireturn, 1) → GG E 0 0 (W_J13_compare_74951 (eCy E)) L pc [.int (wI v)]) : GG E 0 0 (W_J13_compare_74951 (eCy E)) [some (.long (wJ x0)), none, some (.long (wJ x2)), none] 0 [] := by
  unfold m_J13_compare_74951 at h
  refine g_lload_n 0 C dJ13_compare_74951_0 rfl rfl ?_
  refine g_lload_n 2 C dJ13_compare_74951_1 rfl rfl ?_
  refine g_lcmp_ge 10 C dJ13_compare_74951_2 dJ13_compare_74951_3 (by decide) h (fun h => ?_) (fun h => ?_)
  · refine g_lload_n 0 C dJ13_compare_74951_10 rfl rfl ?_
    refine g_lload_n 2 C dJ13_compare_74951_11 rfl rfl ?_
    refine g_lcmp_ne 20 C dJ13_compare_74951_12 dJ13_compare_74951_13 (by decide) h (fun h => ?_) (fun h => ?_)
    · refine g_iconst C dJ13_compare_74951_20 ?_
      cases h
      exact hret 21 _ dJ13_compare_74951_21
    · refine g_iconst C dJ13_compare_74951_16 ?_
      refine g_goto (tgt := 21) C dJ13_compare_74951_17 (by decide) ?_
      cases h
      exact hret 21 _ dJ13_compare_74951_21
  · refine g_iconst C dJ13_compare_74951_6 ?_
    refine g_goto (tgt := 21) C dJ13_compare_74951_7 (by decide) ?_
    cases h
    exact hret 21 _ dJ13_compare_74951_21
end S_J13_compare_74951
set_option maxRecDepth 100000 in
set_option maxHeartbeats 4000000 in
theorem c_J13_compare_74951 (l : Launch) (D : va_G) (cy : Nat → ClassId) (ad : AD) (x0 : Int) (x2 : Int) (F : Nat) {v : Int} (h : m_J13_compare_74951 F x0 x2 = some v) : Ct l yJ13_compare_74951 cJ13_compare_74951 4 (some .int) { frames := 0, cells := 0, slots := 0, locals := 0 } D cy ad [.long (wJ x0), .long (wJ x2)] (W_J13_compare_74951 cy) (W_J13_compare_74951 cy) (some (.int (wI v))) := by
  refine Ct.introI (j := 0) (plainFor_of_name (by decide)) rfl rfl (fun E C e1 e2 e3 e4 e5 hret => ?_)
  subst e1; subst e2; subst e3; subst e4
  exact wm_J13_compare_74951 C e5 h hret
-- MovingStair$Fraction.against(LMovingStair$Fraction;)I
def W_X1_against (cy : Nat → ClassId) (a_t a_p1 : Nat) (c_above : Int) (c_below : Int) (c_p1_above : Int) (c_p1_below : Int) : va_W := [(a_t, .inr (1, [.long (wJ c_above), .long (wJ c_below)])), (a_p1, .inr (1, [.long (wJ c_p1_above), .long (wJ c_p1_below)]))]
def mb_X1_against_126 (F : Nat) (x10 : Int) (x16 : Int) (x18 : Int) : Option (Int) :=
  bnd1 (m_J13_compare_74951 F x16 x18) fun r1 => some (x10 * r1)
def mb_X1_against_29 (F : Nat) (k29 : Int → Int → Int → Int → Int → Int → Option (Int)) (x2 : Int) (x4 : Int) (x6 : Int) (x8 : Int) (x10 : Int) (x11 : Int) : Option (Int) :=
  if wI 200 ≤ wI x11 then
    (some 0)
  else
    (if wJ x4 = wJ 0 then
    (some 0)
  else
    (if wJ x8 = wJ 0 then
    (some 0)
  else
    (bnd1 (m_J9_floorDiv_f86c9 F x2 x4) fun r1 => bnd1 (m_J9_floorDiv_f86c9 F x6 x8) fun r3 => if wJ r1 = wJ r3 then
    (nam (x2 - (r1 * x4)) fun y5 => nam (x6 - (r3 * x8)) fun y6 => if wJ y5 = wJ 0 then
    (mb_X1_against_126 F x10 y5 y6)
  else
    (if wJ y6 = wJ 0 then
    (mb_X1_against_126 F x10 y5 y6)
  else
    (nam (-x10) fun y7 => k29 x4 y5 x8 y6 y7 (x11 + 1))))
  else
    (if wJ r3 ≤ wJ r1 then
    (some x10)
  else
    (some (-x10))))))
def ml_X1_against_29 (F : Nat) (x2 : Int) (x4 : Int) (x6 : Int) (x8 : Int) (x10 : Int) (x11 : Int) : Option (Int) :=
  loopN (fun (k : Int × Int × Int × Int × Int × Int → Option (Int)) q => mb_X1_against_29 F (fun y0 y1 y2 y3 y4 y5 => k (y0, y1, y2, y3, y4, y5)) q.1 q.2.1 q.2.2.1 q.2.2.2.1 q.2.2.2.2.1 q.2.2.2.2.2) F (x2, x4, x6, x8, x10, x11)
def m_X1_against (F : Nat) (c_above : Int) (c_below : Int) (c_p1_above : Int) (c_p1_below : Int) : Option (Int) :=
  ml_X1_against_29 F c_above c_below c_p1_above c_p1_below 1 0
section S_X1_against
variable {E : EE} {a_t a_p1 : Nat}
set_option maxRecDepth 100000 in
set_option maxHeartbeats 4000000 in
theorem wb_X1_against_126 {F : Nat} {v : Int} {x10 : Int} {x16 : Int} {x18 : Int} {c_above : Int} {c_below : Int} {c_p1_above : Int} {c_p1_below : Int} (C : Cx E cX1_against RX1 { frames := 1, cells := 0, slots := 0, locals := 25 }) (hN : eN E = 20) (h : mb_X1_against_126 F x10 x16 x18 = some v) (hret : ∀ (pc : Nat) (L : List (Option Value)), decode cX1_against pc = .ok (.ireturn, 1) → GG E 0 0 (W_X1_against (eCy E) a_t a_p1 c_above c_below c_p1_above c_p1_below) L pc [.int (wI v)]) : GG E 0 0 (W_X1_against (eCy E) a_t a_p1 c_above c_below c_p1_above c_p1_below) [none, none, none, none, none, none, none, none, none, none, some (.int (wI x10)), none, none, none, none, none, some (.long (wJ x16)), none, some (.long (wJ x18)), none] 126 [] := by
  unfold mb_X1_against_126 at h
  refine g_iload C dX1_against_126 rfl ?_
  refine g_lload C dX1_against_128 rfl ?_
  refine g_lload C dX1_against_130 rfl ?_
  obtain ⟨r1, hr2, h⟩ := bnd1_some h
  refine g_callSI [] [0, 1] [0, 1] C mt_X1_26 (c_J13_compare_74951 _ _ _ _ x16 x18 F hr2) rfl rfl (ws2 := (W_X1_against (eCy E) a_t a_p1 c_above c_below c_p1_above c_p1_below)) rfl rfl rfl (rest := [.int (wI x10)]) rfl rfl rfl dX1_against_132 ?_
  refine g_imul C dX1_against_135 ?_
  cases h
  exact hret 136 _ dX1_against_136
set_option maxRecDepth 100000 in
set_option maxHeartbeats 4000000 in
theorem wb_X1_against_29 {F : Nat} {k29 : Int → Int → Int → Int → Int → Int → Option (Int)} {v : Int} {x2 : Int} {x4 : Int} {x6 : Int} {x8 : Int} {x10 : Int} {x11 : Int} {c_above : Int} {c_below : Int} {c_p1_above : Int} {c_p1_below : Int} (C : Cx E cX1_against RX1 { frames := 1, cells := 0, slots := 0, locals := 25 }) (hN : eN E = 20) (h : mb_X1_against_29 F k29 x2 x4 x6 x8 x10 x11 = some v) (hk29 : ∀ (y_x2 : Int) (y_x4 : Int) (y_x6 : Int) (y_x8 : Int) (y_x10 : Int) (y_x11 : Int), k29 y_x2 y_x4 y_x6 y_x8 y_x10 y_x11 = some v → GG E 0 0 (W_X1_against (eCy E) a_t a_p1 c_above c_below c_p1_above c_p1_below) [none, none, some (.long (wJ y_x2)), none, some (.long (wJ y_x4)), none, some (.long (wJ y_x6)), none, some (.long (wJ y_x8)), none, some (.int (wI y_x10)), some (.int (wI y_x11)), none, none, none, none, none, none, none, none] 29 []) (hret : ∀ (pc : Nat) (L : List (Option Value)), decode cX1_against pc = .ok (.ireturn, 1) → GG E 0 0 (W_X1_against (eCy E) a_t a_p1 c_above c_below c_p1_above c_p1_below) L pc [.int (wI v)]) : GG E 0 0 (W_X1_against (eCy E) a_t a_p1 c_above c_below c_p1_above c_p1_below) [none, none, some (.long (wJ x2)), none, some (.long (wJ x4)), none, some (.long (wJ x6)), none, some (.long (wJ x8)), none, some (.int (wI x10)), some (.int (wI x11)), none, none, none, none, none, none, none, none] 29 [] := by
  unfold mb_X1_against_29 at h
  refine g_iload C dX1_against_29 rfl ?_
  refine g_sipush C dX1_against_31 (by decide) ?_
  refine g_icmp_ge 163 C dX1_against_34 (by decide) h (fun h => ?_) (fun h => ?_)
  · refine g_iconst C dX1_against_163 ?_
    cases h
    exact hret 164 _ dX1_against_164
  · refine g_lload C dX1_against_37 rfl ?_
    refine g_lconst (x := 0) C dX1_against_39 (by decide) ?_
    refine g_lcmp_eq 163 C dX1_against_40 dX1_against_41 (by decide) h (fun h => ?_) (fun h => ?_)
    · refine g_iconst C dX1_against_163 ?_
      cases h
      exact hret 164 _ dX1_against_164
    · refine g_lload C dX1_against_44 rfl ?_
      refine g_lconst (x := 0) C dX1_against_46 (by decide) ?_
      refine g_lcmp_eq 163 C dX1_against_47 dX1_against_48 (by decide) h (fun h => ?_) (fun h => ?_)
      · refine g_iconst C dX1_against_163 ?_
        cases h
        exact hret 164 _ dX1_against_164
      · refine g_lload_n 2 C dX1_against_51 rfl rfl ?_
        refine g_lload C dX1_against_52 rfl ?_
        obtain ⟨r1, hr2, h⟩ := bnd1_some h
        refine g_callSJ [] [0, 1] [0, 1] C mt_X1_20 (c_J9_floorDiv_f86c9 _ _ _ _ x2 x4 F hr2) rfl rfl (ws2 := (W_X1_against (eCy E) a_t a_p1 c_above c_below c_p1_above c_p1_below)) rfl rfl rfl (rest := []) rfl rfl rfl dX1_against_54 ?_
        refine g_lstore C hN dX1_against_57 rfl (L' := [none, none, some (.long (wJ x2)), none, some (.long (wJ x4)), none, some (.long (wJ x6)), none, some (.long (wJ x8)), none, some (.int (wI x10)), some (.int (wI x11)), some (.long (wJ r1)), none, none, none, none, none, none, none]) rfl ?_
        refine g_lload C dX1_against_59 rfl ?_
        refine g_lload C dX1_against_61 rfl ?_
        obtain ⟨r3, hr4, h⟩ := bnd1_some h
        refine g_callSJ [] [0, 1] [0, 1] C mt_X1_20 (c_J9_floorDiv_f86c9 _ _ _ _ x6 x8 F hr4) rfl rfl (ws2 := (W_X1_against (eCy E) a_t a_p1 c_above c_below c_p1_above c_p1_below)) rfl rfl rfl (rest := []) rfl rfl rfl dX1_against_63 ?_
        refine g_lstore C hN dX1_against_66 rfl (L' := [none, none, some (.long (wJ x2)), none, some (.long (wJ x4)), none, some (.long (wJ x6)), none, some (.long (wJ x8)), none, some (.int (wI x10)), some (.int (wI x11)), some (.long (wJ r1)), none, some (.long (wJ r3)), none, none, none, none, none]) rfl ?_
        refine g_lload C dX1_against_68 rfl ?_
        refine g_lload C dX1_against_70 rfl ?_
        refine g_lcmp_eq 93 C dX1_against_72 dX1_against_73 (by decide) h (fun h => ?_) (fun h => ?_)
        · refine g_lload_n 2 C dX1_against_93 rfl rfl ?_
          refine g_lload C dX1_against_94 rfl ?_
          refine g_lload C dX1_against_96 rfl ?_
          refine g_lmul C dX1_against_98 ?_
          refine g_lsub C dX1_against_99 ?_
          obtain ⟨y5, e_y5, h⟩ := nam_some h
          refine g_topJ e_y5 ?_
          refine g_lstore C hN dX1_against_100 rfl (L' := [none, none, some (.long (wJ x2)), none, some (.long (wJ x4)), none, some (.long (wJ x6)), none, some (.long (wJ x8)), none, some (.int (wI x10)), some (.int (wI x11)), some (.long (wJ r1)), none, some (.long (wJ r3)), none, some (.long (wJ y5)), none, none, none]) rfl ?_
          refine g_lload C dX1_against_102 rfl ?_
          refine g_lload C dX1_against_104 rfl ?_
          refine g_lload C dX1_against_106 rfl ?_
          refine g_lmul C dX1_against_108 ?_
          refine g_lsub C dX1_against_109 ?_
          obtain ⟨y6, e_y6, h⟩ := nam_some h
          refine g_topJ e_y6 ?_
          refine g_lstore C hN dX1_against_110 rfl (L' := [none, none, some (.long (wJ x2)), none, some (.long (wJ x4)), none, some (.long (wJ x6)), none, some (.long (wJ x8)), none, some (.int (wI x10)), some (.int (wI x11)), some (.long (wJ r1)), none, some (.long (wJ r3)), none, some (.long (wJ y5)), none, some (.long (wJ y6)), none]) rfl ?_
          refine g_lload C dX1_against_112 rfl ?_
          refine g_lconst (x := 0) C dX1_against_114 (by decide) ?_
          refine g_lcmp_eq 126 C dX1_against_115 dX1_against_116 (by decide) h (fun h => ?_) (fun h => ?_)
          · refine g_mask [false, false, false, false, false, false, false, false, false, false, true, false, false, false, false, false, true, false, true, false] (L' := [none, none, none, none, none, none, none, none, none, none, some (.int (wI x10)), none, none, none, none, none, some (.long (wJ y5)), none, some (.long (wJ y6)), none]) rfl ?_
            exact wb_X1_against_126 C hN h hret
          · refine g_lload C dX1_against_119 rfl ?_
            refine g_lconst (x := 0) C dX1_against_121 (by decide) ?_
            refine g_lcmp_ne 137 C dX1_against_122 dX1_against_123 (by decide) h (fun h => ?_) (fun h => ?_)
            · refine g_lload C dX1_against_137 rfl ?_
              refine g_lstore_n 2 C hN dX1_against_139 rfl rfl (L' := [none, none, some (.long (wJ x4)), none, some (.long (wJ x4)), none, some (.long (wJ x6)), none, some (.long (wJ x8)), none, some (.int (wI x10)), some (.int (wI x11)), some (.long (wJ r1)), none, some (.long (wJ r3)), none, some (.long (wJ y5)), none, some (.long (wJ y6)), none]) rfl ?_
              refine g_lload C dX1_against_140 rfl ?_
              refine g_lstore C hN dX1_against_142 rfl (L' := [none, none, some (.long (wJ x4)), none, some (.long (wJ y5)), none, some (.long (wJ x6)), none, some (.long (wJ x8)), none, some (.int (wI x10)), some (.int (wI x11)), some (.long (wJ r1)), none, some (.long (wJ r3)), none, some (.long (wJ y5)), none, some (.long (wJ y6)), none]) rfl ?_
              refine g_lload C dX1_against_144 rfl ?_
              refine g_lstore C hN dX1_against_146 rfl (L' := [none, none, some (.long (wJ x4)), none, some (.long (wJ y5)), none, some (.long (wJ x8)), none, some (.long (wJ x8)), none, some (.int (wI x10)), some (.int (wI x11)), some (.long (wJ r1)), none, some (.long (wJ r3)), none, some (.long (wJ y5)), none, some (.long (wJ y6)), none]) rfl ?_
              refine g_lload C dX1_against_148 rfl ?_
              refine g_lstore C hN dX1_against_150 rfl (L' := [none, none, some (.long (wJ x4)), none, some (.long (wJ y5)), none, some (.long (wJ x8)), none, some (.long (wJ y6)), none, some (.int (wI x10)), some (.int (wI x11)), some (.long (wJ r1)), none, some (.long (wJ r3)), none, some (.long (wJ y5)), none, some (.long (wJ y6)), none]) rfl ?_
              refine g_iload C dX1_against_152 rfl ?_
              refine g_ineg C dX1_against_154 ?_
              obtain ⟨y7, e_y7, h⟩ := nam_some h
              refine g_topI e_y7 ?_
              refine g_istore C hN dX1_against_155 rfl (L' := [none, none, some (.long (wJ x4)), none, some (.long (wJ y5)), none, some (.long (wJ x8)), none, some (.long (wJ y6)), none, some (.int (wI y7)), some (.int (wI x11)), some (.long (wJ r1)), none, some (.long (wJ r3)), none, some (.long (wJ y5)), none, some (.long (wJ y6)), none]) rfl ?_
              refine g_iinc C hN dX1_against_157 rfl rfl (L' := [none, none, some (.long (wJ x4)), none, some (.long (wJ y5)), none, some (.long (wJ x8)), none, some (.long (wJ y6)), none, some (.int (wI y7)), some (.int (wI (x11 + 1))), some (.long (wJ r1)), none, some (.long (wJ r3)), none, some (.long (wJ y5)), none, some (.long (wJ y6)), none]) rfl ?_
              refine g_goto (tgt := 29) C dX1_against_160 (by decide) ?_
              refine g_mask [false, false, true, false, true, false, true, false, true, false, true, true, false, false, false, false, false, false, false, false] (L' := [none, none, some (.long (wJ x4)), none, some (.long (wJ y5)), none, some (.long (wJ x8)), none, some (.long (wJ y6)), none, some (.int (wI y7)), some (.int (wI (x11 + 1))), none, none, none, none, none, none, none, none]) rfl ?_
              exact hk29 _ _ _ _ _ _ h
            · refine g_mask [false, false, false, false, false, false, false, false, false, false, true, false, false, false, false, false, true, false, true, false] (L' := [none, none, none, none, none, none, none, none, none, none, some (.int (wI x10)), none, none, none, none, none, some (.long (wJ y5)), none, some (.long (wJ y6)), none]) rfl ?_
              exact wb_X1_against_126 C hN h hret
        · refine g_lload C dX1_against_76 rfl ?_
          refine g_lload C dX1_against_78 rfl ?_
          refine g_lcmp_ge 90 C dX1_against_80 dX1_against_81 (by decide) h (fun h => ?_) (fun h => ?_)
          · refine g_iload C dX1_against_90 rfl ?_
            cases h
            exact hret 92 _ dX1_against_92
          · refine g_iload C dX1_against_84 rfl ?_
            refine g_ineg C dX1_against_86 ?_
            refine g_goto (tgt := 92) C dX1_against_87 (by decide) ?_
            cases h
            exact hret 92 _ dX1_against_92
set_option maxRecDepth 100000 in
set_option maxHeartbeats 4000000 in
theorem wl_X1_against_29 {F : Nat} {v : Int} {x2 : Int} {x4 : Int} {x6 : Int} {x8 : Int} {x10 : Int} {x11 : Int} {c_above : Int} {c_below : Int} {c_p1_above : Int} {c_p1_below : Int} (C : Cx E cX1_against RX1 { frames := 1, cells := 0, slots := 0, locals := 25 }) (hN : eN E = 20) (h : ml_X1_against_29 F x2 x4 x6 x8 x10 x11 = some v) (hret : ∀ (pc : Nat) (L : List (Option Value)), decode cX1_against pc = .ok (.ireturn, 1) → GG E 0 0 (W_X1_against (eCy E) a_t a_p1 c_above c_below c_p1_above c_p1_below) L pc [.int (wI v)]) : GG E 0 0 (W_X1_against (eCy E) a_t a_p1 c_above c_below c_p1_above c_p1_below) [none, none, some (.long (wJ x2)), none, some (.long (wJ x4)), none, some (.long (wJ x6)), none, some (.long (wJ x8)), none, some (.int (wI x10)), some (.int (wI x11)), none, none, none, none, none, none, none, none] 29 [] := by
  unfold ml_X1_against_29 at h
  exact loop_walk (g := fun (q : Int × Int × Int × Int × Int × Int) => GG E 0 0 (W_X1_against (eCy E) a_t a_p1 c_above c_below c_p1_above c_p1_below) [none, none, some (.long (wJ (q.1))), none, some (.long (wJ (q.2.1))), none, some (.long (wJ (q.2.2.1))), none, some (.long (wJ (q.2.2.2.1))), none, some (.int (wI (q.2.2.2.2.1))), some (.int (wI (q.2.2.2.2.2))), none, none, none, none, none, none, none, none] 29 []) (fun k hk q h => wb_X1_against_29 C hN h (fun y0 y1 y2 y3 y4 y5 hh => hk (y0, y1, y2, y3, y4, y5) hh) hret) F (x2, x4, x6, x8, x10, x11) h
set_option maxRecDepth 100000 in
set_option maxHeartbeats 4000000 in
theorem wm_X1_against {F : Nat} {v : Int} {c_above : Int} {c_below : Int} {c_p1_above : Int} {c_p1_below : Int} (C : Cx E cX1_against RX1 { frames := 1, cells := 0, slots := 0, locals := 25 }) (hN : eN E = 20) (h : m_X1_against F c_above c_below c_p1_above c_p1_below = some v) (hret : ∀ (pc : Nat) (L : List (Option Value)), decode cX1_against pc = .ok (.ireturn, 1) → GG E 0 0 (W_X1_against (eCy E) a_t a_p1 c_above c_below c_p1_above c_p1_below) L pc [.int (wI v)]) : GG E 0 0 (W_X1_against (eCy E) a_t a_p1 c_above c_below c_p1_above c_p1_below) [some (.ref a_t), some (.ref a_p1), none, none, none, none, none, none, none, none, none, none, none, none, none, none, none, none, none, none] 0 [] := by
  unfold m_X1_against at h
  refine g_aload_n 0 C dX1_against_0 rfl rfl ?_
  refine g_get C fg_X1_7 0 rfl rfl dX1_against_1 ?_
  refine g_st (st' := [.long (wJ c_above)]) rfl ?_
  refine g_lstore_n 2 C hN dX1_against_4 rfl rfl (L' := [some (.ref a_t), some (.ref a_p1), some (.long (wJ c_above)), none, none, none, none, none, none, none, none, none, none, none, none, none, none, none, none, none]) rfl ?_
  refine g_aload_n 0 C dX1_against_5 rfl rfl ?_
  refine g_get C fg_X1_13 0 rfl rfl dX1_against_6 ?_
  refine g_st (st' := [.long (wJ c_below)]) rfl ?_
  refine g_lstore C hN dX1_against_9 rfl (L' := [some (.ref a_t), some (.ref a_p1), some (.long (wJ c_above)), none, some (.long (wJ c_below)), none, none, none, none, none, none, none, none, none, none, none, none, none, none, none]) rfl ?_
  refine g_aload_n 1 C dX1_against_11 rfl rfl ?_
  refine g_get C fg_X1_7 1 rfl rfl dX1_against_12 ?_
  refine g_st (st' := [.long (wJ c_p1_above)]) rfl ?_
  refine g_lstore C hN dX1_against_15 rfl (L' := [some (.ref a_t), some (.ref a_p1), some (.long (wJ c_above)), none, some (.long (wJ c_below)), none, some (.long (wJ c_p1_above)), none, none, none, none, none, none, none, none, none, none, none, none, none]) rfl ?_
  refine g_aload_n 1 C dX1_against_17 rfl rfl ?_
  refine g_get C fg_X1_13 1 rfl rfl dX1_against_18 ?_
  refine g_st (st' := [.long (wJ c_p1_below)]) rfl ?_
  refine g_lstore C hN dX1_against_21 rfl (L' := [some (.ref a_t), some (.ref a_p1), some (.long (wJ c_above)), none, some (.long (wJ c_below)), none, some (.long (wJ c_p1_above)), none, some (.long (wJ c_p1_below)), none, none, none, none, none, none, none, none, none, none, none]) rfl ?_
  refine g_iconst C dX1_against_23 ?_
  refine g_istore C hN dX1_against_24 rfl (L' := [some (.ref a_t), some (.ref a_p1), some (.long (wJ c_above)), none, some (.long (wJ c_below)), none, some (.long (wJ c_p1_above)), none, some (.long (wJ c_p1_below)), none, some (.int (wI 1)), none, none, none, none, none, none, none, none, none]) rfl ?_
  refine g_iconst C dX1_against_26 ?_
  refine g_istore C hN dX1_against_27 rfl (L' := [some (.ref a_t), some (.ref a_p1), some (.long (wJ c_above)), none, some (.long (wJ c_below)), none, some (.long (wJ c_p1_above)), none, some (.long (wJ c_p1_below)), none, some (.int (wI 1)), some (.int (wI 0)), none, none, none, none, none, none, none, none]) rfl ?_
  refine g_mask [false, false, true, false, true, false, true, false, true, false, true, true, false, false, false, false, false, false, false, false] (L' := [none, none, some (.long (wJ c_above)), none, some (.long (wJ c_below)), none, some (.long (wJ c_p1_above)), none, some (.long (wJ c_p1_below)), none, some (.int (wI 1)), some (.int (wI 0)), none, none, none, none, none, none, none, none]) rfl ?_
  exact wl_X1_against_29 C hN h hret
end S_X1_against
set_option maxRecDepth 100000 in
set_option maxHeartbeats 4000000 in
theorem c_X1_against (l : Launch) (D : va_G) (cy : Nat → ClassId) (ad : AD) (a_t a_p1 : Nat) (c_above : Int) (c_below : Int) (c_p1_above : Int) (c_p1_below : Int) (F : Nat) {v : Int} (h : m_X1_against F c_above c_below c_p1_above c_p1_below = some v) : Ct l yX1_against cX1_against 20 (some .int) { frames := 1, cells := 0, slots := 0, locals := 25 } D cy ad [.ref a_t, .ref a_p1] (W_X1_against cy a_t a_p1 c_above c_below c_p1_above c_p1_below) (W_X1_against cy a_t a_p1 c_above c_below c_p1_above c_p1_below) (some (.int (wI v))) := by
  refine Ct.introI (j := 18) (plainFor_of_name (by decide)) rfl rfl (fun E C e1 e2 e3 e4 e5 hret => ?_)
  subst e1; subst e2; subst e3; subst e4
  exact wm_X1_against C e5 h hret
-- MovingStair$Fraction.isAbove(J)Z
def W_X1_isAbove (cy : Nat → ClassId) (a_t : Nat) (c_above : Int) (c_below : Int) : va_W := [(a_t, .inr (1, [.long (wJ c_above), .long (wJ c_below)]))]
def m_X1_isAbove (F : Nat) (x1 : Int) (c_above : Int) (c_below : Int) : Option (Int) :=
  if wJ c_above ≤ wJ (x1 * c_below) then
    (some 0)
  else
    (some 1)
section S_X1_isAbove
variable {E : EE} {a_t : Nat}
set_option maxRecDepth 100000 in
set_option maxHeartbeats 4000000 in
theorem wm_X1_isAbove {F : Nat} {v : Int} {x1 : Int} {c_above : Int} {c_below : Int} (C : Cx E cX1_isAbove RX1 { frames := 0, cells := 0, slots := 0, locals := 0 }) (hN : eN E = 3) (h : m_X1_isAbove F x1 c_above c_below = some v) (hret : ∀ (pc : Nat) (L : List (Option Value)), narrow .boolean (.int (wI v)) = .int (wI v) → decode cX1_isAbove pc = .ok (.ireturn, 1) → GG E 0 0 (W_X1_isAbove (eCy E) a_t c_above c_below) L pc [.int (wI v)]) : GG E 0 0 (W_X1_isAbove (eCy E) a_t c_above c_below) [some (.ref a_t), some (.long (wJ x1)), none] 0 [] := by
  unfold m_X1_isAbove at h
  refine g_aload_n 0 C dX1_isAbove_0 rfl rfl ?_
  refine g_get C fg_X1_7 0 rfl rfl dX1_isAbove_1 ?_
  refine g_st (st' := [.long (wJ c_above)]) rfl ?_
  refine g_lload_n 1 C dX1_isAbove_4 rfl rfl ?_
  refine g_aload_n 0 C dX1_isAbove_5 rfl rfl ?_
  refine g_get C fg_X1_13 0 rfl rfl dX1_isAbove_6 ?_
  refine g_st (st' := [.long (wJ c_below), .long (wJ x1), .long (wJ c_above)]) rfl ?_
  refine g_lmul C dX1_isAbove_9 ?_
  refine g_lcmp_le 18 C dX1_isAbove_10 dX1_isAbove_11 (by decide) h (fun h => ?_) (fun h => ?_)
  · refine g_iconst C dX1_isAbove_18 ?_
    cases h
    exact hret 19 _ bn0 dX1_isAbove_19
  · refine g_iconst C dX1_isAbove_14 ?_
    refine g_goto (tgt := 19) C dX1_isAbove_15 (by decide) ?_
    cases h
    exact hret 19 _ bn1 dX1_isAbove_19
end S_X1_isAbove
set_option maxRecDepth 100000 in
set_option maxHeartbeats 4000000 in
theorem c_X1_isAbove (l : Launch) (D : va_G) (cy : Nat → ClassId) (ad : AD) (a_t : Nat) (x1 : Int) (c_above : Int) (c_below : Int) (F : Nat) {v : Int} (h : m_X1_isAbove F x1 c_above c_below = some v) : Ct l yX1_isAbove cX1_isAbove 3 (some .boolean) { frames := 0, cells := 0, slots := 0, locals := 0 } D cy ad [.ref a_t, .long (wJ x1)] (W_X1_isAbove cy a_t c_above c_below) (W_X1_isAbove cy a_t c_above c_below) (some (.int (wI v))) := by
  refine Ct.introZ (j := 0) (plainFor_of_name (by decide)) rfl rfl (fun E C e1 e2 e3 e4 e5 hret => ?_)
  subst e1; subst e2; subst e3; subst e4
  exact wm_X1_isAbove C e5 h hret
-- MovingStair$Fraction.wholeOf(J)J
def W_X1_wholeOf (cy : Nat → ClassId) (a_t : Nat) (c_above : Int) (c_below : Int) : va_W := [(a_t, .inr (1, [.long (wJ c_above), .long (wJ c_below)]))]
def m_X1_wholeOf (F : Nat) (x1 : Int) (c_above : Int) (c_below : Int) : Option (Int) :=
  if wJ c_below = wJ 0 then
    (some 0)
  else
    (bnd1 (m_J9_floorDiv_f86c9 F (x1 * c_above) c_below) fun r1 => some r1)
section S_X1_wholeOf
variable {E : EE} {a_t : Nat}
set_option maxRecDepth 100000 in
set_option maxHeartbeats 4000000 in
theorem wm_X1_wholeOf {F : Nat} {v : Int} {x1 : Int} {c_above : Int} {c_below : Int} (C : Cx E cX1_wholeOf RX1 { frames := 1, cells := 0, slots := 0, locals := 25 }) (hN : eN E = 3) (h : m_X1_wholeOf F x1 c_above c_below = some v) (hret : ∀ (pc : Nat) (L : List (Option Value)), decode cX1_wholeOf pc = .ok (.lreturn, 1) → GG E 0 0 (W_X1_wholeOf (eCy E) a_t c_above c_below) L pc [.long (wJ v)]) : GG E 0 0 (W_X1_wholeOf (eCy E) a_t c_above c_below) [some (.ref a_t), some (.long (wJ x1)), none] 0 [] := by
  unfold m_X1_wholeOf at h
  refine g_aload_n 0 C dX1_wholeOf_0 rfl rfl ?_
  refine g_get C fg_X1_13 0 rfl rfl dX1_wholeOf_1 ?_
  refine g_st (st' := [.long (wJ c_below)]) rfl ?_
  refine g_lconst (x := 0) C dX1_wholeOf_4 (by decide) ?_
  refine g_lcmp_ne 13 C dX1_wholeOf_5 dX1_wholeOf_6 (by decide) h (fun h => ?_) (fun h => ?_)
  · refine g_lload_n 1 C dX1_wholeOf_13 rfl rfl ?_
    refine g_aload_n 0 C dX1_wholeOf_14 rfl rfl ?_
    refine g_get C fg_X1_7 0 rfl rfl dX1_wholeOf_15 ?_
    refine g_st (st' := [.long (wJ c_above), .long (wJ x1)]) rfl ?_
    refine g_lmul C dX1_wholeOf_18 ?_
    refine g_aload_n 0 C dX1_wholeOf_19 rfl rfl ?_
    refine g_get C fg_X1_13 0 rfl rfl dX1_wholeOf_20 ?_
    refine g_st (st' := [.long (wJ c_below), .long (wJ (x1 * c_above))]) rfl ?_
    obtain ⟨r1, hr2, h⟩ := bnd1_some h
    refine g_callSJ [] [0] [0] C mt_X1_20 (c_J9_floorDiv_f86c9 _ _ _ _ (x1 * c_above) c_below F hr2) rfl rfl (ws2 := (W_X1_wholeOf (eCy E) a_t c_above c_below)) rfl rfl rfl (rest := []) rfl rfl rfl dX1_wholeOf_23 ?_
    cases h
    exact hret 26 _ dX1_wholeOf_26
  · refine g_lconst (x := 0) C dX1_wholeOf_9 (by decide) ?_
    refine g_goto (tgt := 26) C dX1_wholeOf_10 (by decide) ?_
    cases h
    exact hret 26 _ dX1_wholeOf_26
end S_X1_wholeOf
set_option maxRecDepth 100000 in
set_option maxHeartbeats 4000000 in
theorem c_X1_wholeOf (l : Launch) (D : va_G) (cy : Nat → ClassId) (ad : AD) (a_t : Nat) (x1 : Int) (c_above : Int) (c_below : Int) (F : Nat) {v : Int} (h : m_X1_wholeOf F x1 c_above c_below = some v) : Ct l yX1_wholeOf cX1_wholeOf 3 (some .long) { frames := 1, cells := 0, slots := 0, locals := 25 } D cy ad [.ref a_t, .long (wJ x1)] (W_X1_wholeOf cy a_t c_above c_below) (W_X1_wholeOf cy a_t c_above c_below) (some (.long (wJ v))) := by
  refine Ct.introJ (j := 0) (plainFor_of_name (by decide)) rfl rfl (fun E C e1 e2 e3 e4 e5 hret => ?_)
  subst e1; subst e2; subst e3; subst e4
  exact wm_X1_wholeOf C e5 h hret
-- MovingStair$Fraction.whole()J
def W_X1_whole (cy : Nat → ClassId) (a_t : Nat) (c_above : Int) (c_below : Int) : va_W := [(a_t, .inr (1, [.long (wJ c_above), .long (wJ c_below)]))]
def m_X1_whole (F : Nat) (c_above : Int) (c_below : Int) : Option (Int) :=
  bnd1 (m_X1_wholeOf F 1 c_above c_below) fun r1 => some r1
section S_X1_whole
variable {E : EE} {a_t : Nat}
set_option maxRecDepth 100000 in
set_option maxHeartbeats 4000000 in
theorem wm_X1_whole {F : Nat} {v : Int} {c_above : Int} {c_below : Int} (C : Cx E cX1_whole RX1 { frames := 2, cells := 0, slots := 0, locals := 47 }) (hN : eN E = 1) (h : m_X1_whole F c_above c_below = some v) (hret : ∀ (pc : Nat) (L : List (Option Value)), decode cX1_whole pc = .ok (.lreturn, 1) → GG E 0 0 (W_X1_whole (eCy E) a_t c_above c_below) L pc [.long (wJ v)]) : GG E 0 0 (W_X1_whole (eCy E) a_t c_above c_below) [some (.ref a_t)] 0 [] := by
  unfold m_X1_whole at h
  refine g_aload_n 0 C dX1_whole_0 rfl rfl ?_
  refine g_lconst (x := 1) C dX1_whole_1 (by decide) ?_
  obtain ⟨r1, hr2, h⟩ := bnd1_some h
  refine g_callJ [0] [] [0] C mt_X1_32 (c_X1_wholeOf _ _ _ _ a_t 1 c_above c_below F hr2) (q0 := 0) rfl (ci := 1) rfl rfl rfl (ws2 := (W_X1_whole (eCy E) a_t c_above c_below)) rfl rfl rfl (rest := []) rfl rfl rfl dX1_whole_2 ?_
  cases h
  exact hret 5 _ dX1_whole_5
end S_X1_whole
set_option maxRecDepth 100000 in
set_option maxHeartbeats 4000000 in
theorem c_X1_whole (l : Launch) (D : va_G) (cy : Nat → ClassId) (ad : AD) (a_t : Nat) (c_above : Int) (c_below : Int) (F : Nat) {v : Int} (h : m_X1_whole F c_above c_below = some v) : Ct l yX1_whole cX1_whole 1 (some .long) { frames := 2, cells := 0, slots := 0, locals := 47 } D cy ad [.ref a_t] (W_X1_whole cy a_t c_above c_below) (W_X1_whole cy a_t c_above c_below) (some (.long (wJ v))) := by
  refine Ct.introJ (j := 0) (plainFor_of_name (by decide)) rfl rfl (fun E C e1 e2 e3 e4 e5 hret => ?_)
  subst e1; subst e2; subst e3; subst e4
  exact wm_X1_whole C e5 h hret
-- MovingStair$Fraction.side(I)J
def W_X1_side (cy : Nat → ClassId) (a_t : Nat) (c_above : Int) (c_below : Int) : va_W := [(a_t, .inr (1, [.long (wJ c_above), .long (wJ c_below)]))]
def m_X1_side (F : Nat) (x1 : Int) (c_above : Int) (c_below : Int) : Option (Int) :=
  if wI x1 = wI 0 then
    (some c_above)
  else
    (some c_below)
section S_X1_side
variable {E : EE} {a_t : Nat}
set_option maxRecDepth 100000 in
set_option maxHeartbeats 4000000 in
theorem wm_X1_side {F : Nat} {v : Int} {x1 : Int} {c_above : Int} {c_below : Int} (C : Cx E cX1_side RX1 { frames := 0, cells := 0, slots := 0, locals := 0 }) (hN : eN E = 2) (h : m_X1_side F x1 c_above c_below = some v) (hret : ∀ (pc : Nat) (L : List (Option Value)), decode cX1_side pc = .ok (.lreturn, 1) → GG E 0 0 (W_X1_side (eCy E) a_t c_above c_below) L pc [.long (wJ v)]) : GG E 0 0 (W_X1_side (eCy E) a_t c_above c_below) [some (.ref a_t), some (.int (wI x1))] 0 [] := by
  unfold m_X1_side at h
  refine g_iload_n 1 C dX1_side_0 rfl rfl ?_
  refine g_if_ne 11 C dX1_side_1 (by decide) h (fun h => ?_) (fun h => ?_)
  · refine g_aload_n 0 C dX1_side_11 rfl rfl ?_
    refine g_get C fg_X1_13 0 rfl rfl dX1_side_12 ?_
    refine g_st (st' := [.long (wJ c_below)]) rfl ?_
    cases h
    exact hret 15 _ dX1_side_15
  · refine g_aload_n 0 C dX1_side_4 rfl rfl ?_
    refine g_get C fg_X1_7 0 rfl rfl dX1_side_5 ?_
    refine g_st (st' := [.long (wJ c_above)]) rfl ?_
    refine g_goto (tgt := 15) C dX1_side_8 (by decide) ?_
    cases h
    exact hret 15 _ dX1_side_15
end S_X1_side
set_option maxRecDepth 100000 in
set_option maxHeartbeats 4000000 in
theorem c_X1_side (l : Launch) (D : va_G) (cy : Nat → ClassId) (ad : AD) (a_t : Nat) (x1 : Int) (c_above : Int) (c_below : Int) (F : Nat) {v : Int} (h : m_X1_side F x1 c_above c_below = some v) : Ct l yX1_side cX1_side 2 (some .long) { frames := 0, cells := 0, slots := 0, locals := 0 } D cy ad [.ref a_t, .int (wI x1)] (W_X1_side cy a_t c_above c_below) (W_X1_side cy a_t c_above c_below) (some (.long (wJ v))) := by
  refine Ct.introJ (j := 0) (plainFor_of_name (by decide)) rfl rfl (fun E C e1 e2 e3 e4 e5 hret => ?_)
  subst e1; subst e2; subst e3; subst e4
  exact wm_X1_side C e5 h hret
-- MovingStair$Layout.clear()V
def W_X2_clear (cy : Nat → ClassId) (a_t : Nat) (g_t_3 : Value) (g_t_4 : Value) (g_t_6 : Value) (g_t_8 : Value) (g_t_10 : Value) (g_t_11 : Value) (g_t_12 : Value) (g_t_13 : Value) (g_t_15 : Value) (g_t_16 : Value) (c_lines : Int) (c_odds : Int) (c_parts : Int) (c_walkers : Int) (c_bands : Int) (c_sided : Int) (c_acts : Int) : va_W := [(a_t, .inr (2, [.int (wI c_lines), .int (wI c_odds), .int (wI c_parts), g_t_3, g_t_4, .int (wI c_walkers), g_t_6, .int (wI c_bands), g_t_8, .int (wI c_sided), g_t_10, g_t_11, g_t_12, g_t_13, .int (wI c_acts), g_t_15, g_t_16]))]
def m_X2_clear (F : Nat) : Option (Int × Int × Int × Int × Int × Int × Int) :=
  some (0, 0, 0, 0, 0, 0, 0)
section S_X2_clear
variable {E : EE} {a_t : Nat} {g_t_3 : Value} {g_t_4 : Value} {g_t_6 : Value} {g_t_8 : Value} {g_t_10 : Value} {g_t_11 : Value} {g_t_12 : Value} {g_t_13 : Value} {g_t_15 : Value} {g_t_16 : Value}
set_option maxRecDepth 100000 in
set_option maxHeartbeats 4000000 in
theorem wm_X2_clear {F : Nat} {v : Int × Int × Int × Int × Int × Int × Int} {c_lines : Int} {c_odds : Int} {c_parts : Int} {c_walkers : Int} {c_bands : Int} {c_sided : Int} {c_acts : Int} (C : Cx E cX2_clear RX2 { frames := 0, cells := 0, slots := 0, locals := 0 }) (hN : eN E = 1) (h : m_X2_clear F = some v) (hret : ∀ (pc : Nat) (L : List (Option Value)), decode cX2_clear pc = .ok (.return_, 1) → GG E 0 0 (W_X2_clear (eCy E) a_t g_t_3 g_t_4 g_t_6 g_t_8 g_t_10 g_t_11 g_t_12 g_t_13 g_t_15 g_t_16 (v.1) (v.2.1) (v.2.2.1) (v.2.2.2.1) (v.2.2.2.2.1) (v.2.2.2.2.2.1) (v.2.2.2.2.2.2)) L pc []) : GG E 0 0 (W_X2_clear (eCy E) a_t g_t_3 g_t_4 g_t_6 g_t_8 g_t_10 g_t_11 g_t_12 g_t_13 g_t_15 g_t_16 c_lines c_odds c_parts c_walkers c_bands c_sided c_acts) [some (.ref a_t)] 0 [] := by
  unfold m_X2_clear at h
  refine g_aload_n 0 C dX2_clear_0 rfl rfl ?_
  refine g_iconst C dX2_clear_1 ?_
  refine g_putI C fp_X2_9 0 rfl rfl (ws' := (W_X2_clear (eCy E) a_t g_t_3 g_t_4 g_t_6 g_t_8 g_t_10 g_t_11 g_t_12 g_t_13 g_t_15 g_t_16 0 c_odds c_parts c_walkers c_bands c_sided c_acts)) rfl dX2_clear_2 ?_
  refine g_aload_n 0 C dX2_clear_5 rfl rfl ?_
  refine g_iconst C dX2_clear_6 ?_
  refine g_putI C fp_X2_15 0 rfl rfl (ws' := (W_X2_clear (eCy E) a_t g_t_3 g_t_4 g_t_6 g_t_8 g_t_10 g_t_11 g_t_12 g_t_13 g_t_15 g_t_16 0 0 c_parts c_walkers c_bands c_sided c_acts)) rfl dX2_clear_7 ?_
  refine g_aload_n 0 C dX2_clear_10 rfl rfl ?_
  refine g_iconst C dX2_clear_11 ?_
  refine g_putI C fp_X2_18 0 rfl rfl (ws' := (W_X2_clear (eCy E) a_t g_t_3 g_t_4 g_t_6 g_t_8 g_t_10 g_t_11 g_t_12 g_t_13 g_t_15 g_t_16 0 0 0 c_walkers c_bands c_sided c_acts)) rfl dX2_clear_12 ?_
  refine g_aload_n 0 C dX2_clear_15 rfl rfl ?_
  refine g_iconst C dX2_clear_16 ?_
  refine g_putI C fp_X2_28 0 rfl rfl (ws' := (W_X2_clear (eCy E) a_t g_t_3 g_t_4 g_t_6 g_t_8 g_t_10 g_t_11 g_t_12 g_t_13 g_t_15 g_t_16 0 0 0 0 c_bands c_sided c_acts)) rfl dX2_clear_17 ?_
  refine g_aload_n 0 C dX2_clear_20 rfl rfl ?_
  refine g_iconst C dX2_clear_21 ?_
  refine g_putI C fp_X2_34 0 rfl rfl (ws' := (W_X2_clear (eCy E) a_t g_t_3 g_t_4 g_t_6 g_t_8 g_t_10 g_t_11 g_t_12 g_t_13 g_t_15 g_t_16 0 0 0 0 0 c_sided c_acts)) rfl dX2_clear_22 ?_
  refine g_aload_n 0 C dX2_clear_25 rfl rfl ?_
  refine g_iconst C dX2_clear_26 ?_
  refine g_putZ C fp_X2_40 0 rfl (by decide) rfl (ws' := (W_X2_clear (eCy E) a_t g_t_3 g_t_4 g_t_6 g_t_8 g_t_10 g_t_11 g_t_12 g_t_13 g_t_15 g_t_16 0 0 0 0 0 0 c_acts)) rfl dX2_clear_27 ?_
  refine g_aload_n 0 C dX2_clear_30 rfl rfl ?_
  refine g_iconst C dX2_clear_31 ?_
  refine g_putI C fp_X2_56 0 rfl rfl (ws' := (W_X2_clear (eCy E) a_t g_t_3 g_t_4 g_t_6 g_t_8 g_t_10 g_t_11 g_t_12 g_t_13 g_t_15 g_t_16 0 0 0 0 0 0 0)) rfl dX2_clear_32 ?_
  cases h
  exact hret 35 _ dX2_clear_35
end S_X2_clear
set_option maxRecDepth 100000 in
set_option maxHeartbeats 4000000 in
theorem c_X2_clear (l : Launch) (D : va_G) (cy : Nat → ClassId) (ad : AD) (a_t : Nat) (g_t_3 : Value) (g_t_4 : Value) (g_t_6 : Value) (g_t_8 : Value) (g_t_10 : Value) (g_t_11 : Value) (g_t_12 : Value) (g_t_13 : Value) (g_t_15 : Value) (g_t_16 : Value) (c_lines : Int) (c_odds : Int) (c_parts : Int) (c_walkers : Int) (c_bands : Int) (c_sided : Int) (c_acts : Int) (F : Nat) {v : Int × Int × Int × Int × Int × Int × Int} (h : m_X2_clear F = some v) : Ct l yX2_clear cX2_clear 1 none { frames := 0, cells := 0, slots := 0, locals := 0 } D cy ad [.ref a_t] (W_X2_clear cy a_t g_t_3 g_t_4 g_t_6 g_t_8 g_t_10 g_t_11 g_t_12 g_t_13 g_t_15 g_t_16 c_lines c_odds c_parts c_walkers c_bands c_sided c_acts) (W_X2_clear cy a_t g_t_3 g_t_4 g_t_6 g_t_8 g_t_10 g_t_11 g_t_12 g_t_13 g_t_15 g_t_16 (v.1) (v.2.1) (v.2.2.1) (v.2.2.2.1) (v.2.2.2.2.1) (v.2.2.2.2.2.1) (v.2.2.2.2.2.2)) none := by
  refine Ct.introV (j := 0) (plainFor_of_name (by decide)) rfl rfl (fun E C e1 e2 e3 e4 e5 hret => ?_)
  subst e1; subst e2; subst e3; subst e4
  exact wm_X2_clear C e5 h hret
-- MovingStair$Layout.copyFrom(LMovingStair$Layout;)V
def W_X2_copyFrom (cy : Nat → ClassId) (a_t a_p1 a_p1_actParts a_p1_actSpeeds a_p1_carried a_p1_paces a_p1_speeds a_p1_steps a_t_actParts a_t_actSpeeds a_t_carried a_t_paces a_t_speeds a_t_steps : Nat) (c_lines : Int) (c_odds : Int) (c_parts : Int) (c_walkers : Int) (c_bands : Int) (c_sided : Int) (c_sideStand : Int) (c_sideWalk : Int) (c_sidePace : Int) (c_sideWould : Int) (c_acts : Int) (c_p1_lines : Int) (c_p1_odds : Int) (c_p1_parts : Int) (c_p1_walkers : Int) (c_p1_bands : Int) (c_p1_sided : Int) (c_p1_sideStand : Int) (c_p1_sideWalk : Int) (c_p1_sidePace : Int) (c_p1_sideWould : Int) (c_p1_acts : Int) (c_p1_actParts : Int → Int) (c_p1_actSpeeds : Int → Int) (c_p1_carried : Int → Int) (c_p1_paces : Int → Int) (c_p1_speeds : Int → Int) (c_p1_steps : Int → Int) (c_actParts : Int → Int) (c_actSpeeds : Int → Int) (c_carried : Int → Int) (c_paces : Int → Int) (c_speeds : Int → Int) (c_steps : Int → Int) : va_W := [(a_t, .inr (2, [.int (wI c_lines), .int (wI c_odds), .int (wI c_parts), .ref a_t_steps, .ref a_t_speeds, .int (wI c_walkers), .ref a_t_paces, .int (wI c_bands), .ref a_t_carried, .int (wI c_sided), .int (wI c_sideStand), .int (wI c_sideWalk), .int (wI c_sidePace), .int (wI c_sideWould), .int (wI c_acts), .ref a_t_actParts, .ref a_t_actSpeeds])), (a_p1, .inr (2, [.int (wI c_p1_lines), .int (wI c_p1_odds), .int (wI c_p1_parts), .ref a_p1_steps, .ref a_p1_speeds, .int (wI c_p1_walkers), .ref a_p1_paces, .int (wI c_p1_bands), .ref a_p1_carried, .int (wI c_p1_sided), .int (wI c_p1_sideStand), .int (wI c_p1_sideWalk), .int (wI c_p1_sidePace), .int (wI c_p1_sideWould), .int (wI c_p1_acts), .ref a_p1_actParts, .ref a_p1_actSpeeds])), (a_p1_actParts, .inl (cy 1, 60, .inl (aI c_p1_actParts))), (a_p1_actSpeeds, .inl (cy 1, 60, .inl (aI c_p1_actSpeeds))), (a_p1_carried, .inl (cy 1, 4, .inl (aI c_p1_carried))), (a_p1_paces, .inl (cy 1, 8, .inl (aI c_p1_paces))), (a_p1_speeds, .inl (cy 1, 4, .inl (aI c_p1_speeds))), (a_p1_steps, .inl (cy 1, 4, .inl (aI c_p1_steps))), (a_t_actParts, .inl (cy 1, 60, .inl (aI c_actParts))), (a_t_actSpeeds, .inl (cy 1, 60, .inl (aI c_actSpeeds))), (a_t_carried, .inl (cy 1, 4, .inl (aI c_carried))), (a_t_paces, .inl (cy 1, 8, .inl (aI c_paces))), (a_t_speeds, .inl (cy 1, 4, .inl (aI c_speeds))), (a_t_steps, .inl (cy 1, 4, .inl (aI c_steps)))]
def m_X2_copyFrom (F : Nat) (c_p1_lines : Int) (c_p1_odds : Int) (c_p1_parts : Int) (c_p1_walkers : Int) (c_p1_bands : Int) (c_p1_sided : Int) (c_p1_sideStand : Int) (c_p1_sideWalk : Int) (c_p1_sidePace : Int) (c_p1_sideWould : Int) (c_p1_acts : Int) (c_p1_actParts : Int → Int) (c_p1_actSpeeds : Int → Int) (c_p1_carried : Int → Int) (c_p1_paces : Int → Int) (c_p1_speeds : Int → Int) (c_p1_steps : Int → Int) (c_actParts : Int → Int) (c_actSpeeds : Int → Int) (c_carried : Int → Int) (c_paces : Int → Int) (c_speeds : Int → Int) (c_steps : Int → Int) : Option (Int × Int × Int × Int × Int × Int × Int × Int × Int × Int × Int × (Int → Int) × (Int → Int) × (Int → Int) × (Int → Int) × (Int → Int) × (Int → Int)) :=
  chk (c_p1_sided = 0 ∨ c_p1_sided = 1) <| some (c_p1_lines, c_p1_odds, c_p1_parts, c_p1_walkers, c_p1_bands, c_p1_sided, c_p1_sideStand, c_p1_sideWalk, c_p1_sidePace, c_p1_sideWould, c_p1_acts, cpy c_p1_actParts c_actParts 0 0 60, cpy c_p1_actSpeeds c_actSpeeds 0 0 60, cpy c_p1_carried c_carried 0 0 4, cpy c_p1_paces c_paces 0 0 8, cpy c_p1_speeds c_speeds 0 0 4, cpy c_p1_steps c_steps 0 0 4)
section S_X2_copyFrom
variable {E : EE} {a_t a_p1 a_p1_actParts a_p1_actSpeeds a_p1_carried a_p1_paces a_p1_speeds a_p1_steps a_t_actParts a_t_actSpeeds a_t_carried a_t_paces a_t_speeds a_t_steps : Nat}
set_option maxRecDepth 100000 in
set_option maxHeartbeats 4000000 in
theorem wm_X2_copyFrom {F : Nat} {v : Int × Int × Int × Int × Int × Int × Int × Int × Int × Int × Int × (Int → Int) × (Int → Int) × (Int → Int) × (Int → Int) × (Int → Int) × (Int → Int)} {c_p1_lines : Int} {c_p1_odds : Int} {c_p1_parts : Int} {c_p1_walkers : Int} {c_p1_bands : Int} {c_p1_sided : Int} {c_p1_sideStand : Int} {c_p1_sideWalk : Int} {c_p1_sidePace : Int} {c_p1_sideWould : Int} {c_p1_acts : Int} {c_p1_actParts : Int → Int} {c_p1_actSpeeds : Int → Int} {c_p1_carried : Int → Int} {c_p1_paces : Int → Int} {c_p1_speeds : Int → Int} {c_p1_steps : Int → Int} {c_actParts : Int → Int} {c_actSpeeds : Int → Int} {c_carried : Int → Int} {c_paces : Int → Int} {c_speeds : Int → Int} {c_steps : Int → Int} {c_lines : Int} {c_odds : Int} {c_parts : Int} {c_walkers : Int} {c_bands : Int} {c_sided : Int} {c_sideStand : Int} {c_sideWalk : Int} {c_sidePace : Int} {c_sideWould : Int} {c_acts : Int} (C : Cx E cX2_copyFrom RX2 { frames := 1, cells := 0, slots := 0, locals := 26 }) (hN : eN E = 2) (h : m_X2_copyFrom F c_p1_lines c_p1_odds c_p1_parts c_p1_walkers c_p1_bands c_p1_sided c_p1_sideStand c_p1_sideWalk c_p1_sidePace c_p1_sideWould c_p1_acts c_p1_actParts c_p1_actSpeeds c_p1_carried c_p1_paces c_p1_speeds c_p1_steps c_actParts c_actSpeeds c_carried c_paces c_speeds c_steps = some v) (hret : ∀ (pc : Nat) (L : List (Option Value)), decode cX2_copyFrom pc = .ok (.return_, 1) → GG E 0 0 (W_X2_copyFrom (eCy E) a_t a_p1 a_p1_actParts a_p1_actSpeeds a_p1_carried a_p1_paces a_p1_speeds a_p1_steps a_t_actParts a_t_actSpeeds a_t_carried a_t_paces a_t_speeds a_t_steps (v.1) (v.2.1) (v.2.2.1) (v.2.2.2.1) (v.2.2.2.2.1) (v.2.2.2.2.2.1) (v.2.2.2.2.2.2.1) (v.2.2.2.2.2.2.2.1) (v.2.2.2.2.2.2.2.2.1) (v.2.2.2.2.2.2.2.2.2.1) (v.2.2.2.2.2.2.2.2.2.2.1) c_p1_lines c_p1_odds c_p1_parts c_p1_walkers c_p1_bands c_p1_sided c_p1_sideStand c_p1_sideWalk c_p1_sidePace c_p1_sideWould c_p1_acts c_p1_actParts c_p1_actSpeeds c_p1_carried c_p1_paces c_p1_speeds c_p1_steps (v.2.2.2.2.2.2.2.2.2.2.2.1) (v.2.2.2.2.2.2.2.2.2.2.2.2.1) (v.2.2.2.2.2.2.2.2.2.2.2.2.2.1) (v.2.2.2.2.2.2.2.2.2.2.2.2.2.2.1) (v.2.2.2.2.2.2.2.2.2.2.2.2.2.2.2.1) (v.2.2.2.2.2.2.2.2.2.2.2.2.2.2.2.2)) L pc []) : GG E 0 0 (W_X2_copyFrom (eCy E) a_t a_p1 a_p1_actParts a_p1_actSpeeds a_p1_carried a_p1_paces a_p1_speeds a_p1_steps a_t_actParts a_t_actSpeeds a_t_carried a_t_paces a_t_speeds a_t_steps c_lines c_odds c_parts c_walkers c_bands c_sided c_sideStand c_sideWalk c_sidePace c_sideWould c_acts c_p1_lines c_p1_odds c_p1_parts c_p1_walkers c_p1_bands c_p1_sided c_p1_sideStand c_p1_sideWalk c_p1_sidePace c_p1_sideWould c_p1_acts c_p1_actParts c_p1_actSpeeds c_p1_carried c_p1_paces c_p1_speeds c_p1_steps c_actParts c_actSpeeds c_carried c_paces c_speeds c_steps) [some (.ref a_t), some (.ref a_p1)] 0 [] := by
  unfold m_X2_copyFrom at h
  refine g_aload_n 0 C dX2_copyFrom_0 rfl rfl ?_
  refine g_aload_n 1 C dX2_copyFrom_1 rfl rfl ?_
  refine g_get C fg_X2_9 1 rfl rfl dX2_copyFrom_2 ?_
  refine g_st (st' := [.int (wI c_p1_lines), .ref a_t]) rfl ?_
  refine g_putI C fp_X2_9 0 rfl rfl (ws' := (W_X2_copyFrom (eCy E) a_t a_p1 a_p1_actParts a_p1_actSpeeds a_p1_carried a_p1_paces a_p1_speeds a_p1_steps a_t_actParts a_t_actSpeeds a_t_carried a_t_paces a_t_speeds a_t_steps c_p1_lines c_odds c_parts c_walkers c_bands c_sided c_sideStand c_sideWalk c_sidePace c_sideWould c_acts c_p1_lines c_p1_odds c_p1_parts c_p1_walkers c_p1_bands c_p1_sided c_p1_sideStand c_p1_sideWalk c_p1_sidePace c_p1_sideWould c_p1_acts c_p1_actParts c_p1_actSpeeds c_p1_carried c_p1_paces c_p1_speeds c_p1_steps c_actParts c_actSpeeds c_carried c_paces c_speeds c_steps)) rfl dX2_copyFrom_5 ?_
  refine g_aload_n 0 C dX2_copyFrom_8 rfl rfl ?_
  refine g_aload_n 1 C dX2_copyFrom_9 rfl rfl ?_
  refine g_get C fg_X2_15 1 rfl rfl dX2_copyFrom_10 ?_
  refine g_st (st' := [.int (wI c_p1_odds), .ref a_t]) rfl ?_
  refine g_putI C fp_X2_15 0 rfl rfl (ws' := (W_X2_copyFrom (eCy E) a_t a_p1 a_p1_actParts a_p1_actSpeeds a_p1_carried a_p1_paces a_p1_speeds a_p1_steps a_t_actParts a_t_actSpeeds a_t_carried a_t_paces a_t_speeds a_t_steps c_p1_lines c_p1_odds c_parts c_walkers c_bands c_sided c_sideStand c_sideWalk c_sidePace c_sideWould c_acts c_p1_lines c_p1_odds c_p1_parts c_p1_walkers c_p1_bands c_p1_sided c_p1_sideStand c_p1_sideWalk c_p1_sidePace c_p1_sideWould c_p1_acts c_p1_actParts c_p1_actSpeeds c_p1_carried c_p1_paces c_p1_speeds c_p1_steps c_actParts c_actSpeeds c_carried c_paces c_speeds c_steps)) rfl dX2_copyFrom_13 ?_
  refine g_aload_n 0 C dX2_copyFrom_16 rfl rfl ?_
  refine g_aload_n 1 C dX2_copyFrom_17 rfl rfl ?_
  refine g_get C fg_X2_18 1 rfl rfl dX2_copyFrom_18 ?_
  refine g_st (st' := [.int (wI c_p1_parts), .ref a_t]) rfl ?_
  refine g_putI C fp_X2_18 0 rfl rfl (ws' := (W_X2_copyFrom (eCy E) a_t a_p1 a_p1_actParts a_p1_actSpeeds a_p1_carried a_p1_paces a_p1_speeds a_p1_steps a_t_actParts a_t_actSpeeds a_t_carried a_t_paces a_t_speeds a_t_steps c_p1_lines c_p1_odds c_p1_parts c_walkers c_bands c_sided c_sideStand c_sideWalk c_sidePace c_sideWould c_acts c_p1_lines c_p1_odds c_p1_parts c_p1_walkers c_p1_bands c_p1_sided c_p1_sideStand c_p1_sideWalk c_p1_sidePace c_p1_sideWould c_p1_acts c_p1_actParts c_p1_actSpeeds c_p1_carried c_p1_paces c_p1_speeds c_p1_steps c_actParts c_actSpeeds c_carried c_paces c_speeds c_steps)) rfl dX2_copyFrom_21 ?_
  refine g_aload_n 1 C dX2_copyFrom_24 rfl rfl ?_
  refine g_get C fg_X2_21 1 rfl rfl dX2_copyFrom_25 ?_
  refine g_iconst C dX2_copyFrom_28 ?_
  refine g_aload_n 0 C dX2_copyFrom_29 rfl rfl ?_
  refine g_get C fg_X2_21 0 rfl rfl dX2_copyFrom_30 ?_
  refine g_iconst C dX2_copyFrom_33 ?_
  refine g_iconst C dX2_copyFrom_34 ?_
  refine g_copyI C mcp_X2_65 7 13 rfl rfl rfl (by decide) (ws' := (W_X2_copyFrom (eCy E) a_t a_p1 a_p1_actParts a_p1_actSpeeds a_p1_carried a_p1_paces a_p1_speeds a_p1_steps a_t_actParts a_t_actSpeeds a_t_carried a_t_paces a_t_speeds a_t_steps c_p1_lines c_p1_odds c_p1_parts c_walkers c_bands c_sided c_sideStand c_sideWalk c_sidePace c_sideWould c_acts c_p1_lines c_p1_odds c_p1_parts c_p1_walkers c_p1_bands c_p1_sided c_p1_sideStand c_p1_sideWalk c_p1_sidePace c_p1_sideWould c_p1_acts c_p1_actParts c_p1_actSpeeds c_p1_carried c_p1_paces c_p1_speeds c_p1_steps c_actParts c_actSpeeds c_carried c_paces c_speeds (cpy c_p1_steps c_steps 0 0 4))) rfl rfl dX2_copyFrom_35 ?_
  refine g_aload_n 1 C dX2_copyFrom_38 rfl rfl ?_
  refine g_get C fg_X2_25 1 rfl rfl dX2_copyFrom_39 ?_
  refine g_iconst C dX2_copyFrom_42 ?_
  refine g_aload_n 0 C dX2_copyFrom_43 rfl rfl ?_
  refine g_get C fg_X2_25 0 rfl rfl dX2_copyFrom_44 ?_
  refine g_iconst C dX2_copyFrom_47 ?_
  refine g_iconst C dX2_copyFrom_48 ?_
  refine g_copyI C mcp_X2_65 6 12 rfl rfl rfl (by decide) (ws' := (W_X2_copyFrom (eCy E) a_t a_p1 a_p1_actParts a_p1_actSpeeds a_p1_carried a_p1_paces a_p1_speeds a_p1_steps a_t_actParts a_t_actSpeeds a_t_carried a_t_paces a_t_speeds a_t_steps c_p1_lines c_p1_odds c_p1_parts c_walkers c_bands c_sided c_sideStand c_sideWalk c_sidePace c_sideWould c_acts c_p1_lines c_p1_odds c_p1_parts c_p1_walkers c_p1_bands c_p1_sided c_p1_sideStand c_p1_sideWalk c_p1_sidePace c_p1_sideWould c_p1_acts c_p1_actParts c_p1_actSpeeds c_p1_carried c_p1_paces c_p1_speeds c_p1_steps c_actParts c_actSpeeds c_carried c_paces (cpy c_p1_speeds c_speeds 0 0 4) (cpy c_p1_steps c_steps 0 0 4))) rfl rfl dX2_copyFrom_49 ?_
  refine g_aload_n 0 C dX2_copyFrom_52 rfl rfl ?_
  refine g_aload_n 1 C dX2_copyFrom_53 rfl rfl ?_
  refine g_get C fg_X2_28 1 rfl rfl dX2_copyFrom_54 ?_
  refine g_st (st' := [.int (wI c_p1_walkers), .ref a_t]) rfl ?_
  refine g_putI C fp_X2_28 0 rfl rfl (ws' := (W_X2_copyFrom (eCy E) a_t a_p1 a_p1_actParts a_p1_actSpeeds a_p1_carried a_p1_paces a_p1_speeds a_p1_steps a_t_actParts a_t_actSpeeds a_t_carried a_t_paces a_t_speeds a_t_steps c_p1_lines c_p1_odds c_p1_parts c_p1_walkers c_bands c_sided c_sideStand c_sideWalk c_sidePace c_sideWould c_acts c_p1_lines c_p1_odds c_p1_parts c_p1_walkers c_p1_bands c_p1_sided c_p1_sideStand c_p1_sideWalk c_p1_sidePace c_p1_sideWould c_p1_acts c_p1_actParts c_p1_actSpeeds c_p1_carried c_p1_paces c_p1_speeds c_p1_steps c_actParts c_actSpeeds c_carried c_paces (cpy c_p1_speeds c_speeds 0 0 4) (cpy c_p1_steps c_steps 0 0 4))) rfl dX2_copyFrom_57 ?_
  refine g_aload_n 1 C dX2_copyFrom_60 rfl rfl ?_
  refine g_get C fg_X2_31 1 rfl rfl dX2_copyFrom_61 ?_
  refine g_iconst C dX2_copyFrom_64 ?_
  refine g_aload_n 0 C dX2_copyFrom_65 rfl rfl ?_
  refine g_get C fg_X2_31 0 rfl rfl dX2_copyFrom_66 ?_
  refine g_iconst C dX2_copyFrom_69 ?_
  refine g_bipush C dX2_copyFrom_70 (by decide) ?_
  refine g_copyI C mcp_X2_65 5 11 rfl rfl rfl (by decide) (ws' := (W_X2_copyFrom (eCy E) a_t a_p1 a_p1_actParts a_p1_actSpeeds a_p1_carried a_p1_paces a_p1_speeds a_p1_steps a_t_actParts a_t_actSpeeds a_t_carried a_t_paces a_t_speeds a_t_steps c_p1_lines c_p1_odds c_p1_parts c_p1_walkers c_bands c_sided c_sideStand c_sideWalk c_sidePace c_sideWould c_acts c_p1_lines c_p1_odds c_p1_parts c_p1_walkers c_p1_bands c_p1_sided c_p1_sideStand c_p1_sideWalk c_p1_sidePace c_p1_sideWould c_p1_acts c_p1_actParts c_p1_actSpeeds c_p1_carried c_p1_paces c_p1_speeds c_p1_steps c_actParts c_actSpeeds c_carried (cpy c_p1_paces c_paces 0 0 8) (cpy c_p1_speeds c_speeds 0 0 4) (cpy c_p1_steps c_steps 0 0 4))) rfl rfl dX2_copyFrom_72 ?_
  refine g_aload_n 0 C dX2_copyFrom_75 rfl rfl ?_
  refine g_aload_n 1 C dX2_copyFrom_76 rfl rfl ?_
  refine g_get C fg_X2_34 1 rfl rfl dX2_copyFrom_77 ?_
  refine g_st (st' := [.int (wI c_p1_bands), .ref a_t]) rfl ?_
  refine g_putI C fp_X2_34 0 rfl rfl (ws' := (W_X2_copyFrom (eCy E) a_t a_p1 a_p1_actParts a_p1_actSpeeds a_p1_carried a_p1_paces a_p1_speeds a_p1_steps a_t_actParts a_t_actSpeeds a_t_carried a_t_paces a_t_speeds a_t_steps c_p1_lines c_p1_odds c_p1_parts c_p1_walkers c_p1_bands c_sided c_sideStand c_sideWalk c_sidePace c_sideWould c_acts c_p1_lines c_p1_odds c_p1_parts c_p1_walkers c_p1_bands c_p1_sided c_p1_sideStand c_p1_sideWalk c_p1_sidePace c_p1_sideWould c_p1_acts c_p1_actParts c_p1_actSpeeds c_p1_carried c_p1_paces c_p1_speeds c_p1_steps c_actParts c_actSpeeds c_carried (cpy c_p1_paces c_paces 0 0 8) (cpy c_p1_speeds c_speeds 0 0 4) (cpy c_p1_steps c_steps 0 0 4))) rfl dX2_copyFrom_80 ?_
  refine g_aload_n 1 C dX2_copyFrom_83 rfl rfl ?_
  refine g_get C fg_X2_37 1 rfl rfl dX2_copyFrom_84 ?_
  refine g_iconst C dX2_copyFrom_87 ?_
  refine g_aload_n 0 C dX2_copyFrom_88 rfl rfl ?_
  refine g_get C fg_X2_37 0 rfl rfl dX2_copyFrom_89 ?_
  refine g_iconst C dX2_copyFrom_92 ?_
  refine g_iconst C dX2_copyFrom_93 ?_
  refine g_copyI C mcp_X2_65 4 10 rfl rfl rfl (by decide) (ws' := (W_X2_copyFrom (eCy E) a_t a_p1 a_p1_actParts a_p1_actSpeeds a_p1_carried a_p1_paces a_p1_speeds a_p1_steps a_t_actParts a_t_actSpeeds a_t_carried a_t_paces a_t_speeds a_t_steps c_p1_lines c_p1_odds c_p1_parts c_p1_walkers c_p1_bands c_sided c_sideStand c_sideWalk c_sidePace c_sideWould c_acts c_p1_lines c_p1_odds c_p1_parts c_p1_walkers c_p1_bands c_p1_sided c_p1_sideStand c_p1_sideWalk c_p1_sidePace c_p1_sideWould c_p1_acts c_p1_actParts c_p1_actSpeeds c_p1_carried c_p1_paces c_p1_speeds c_p1_steps c_actParts c_actSpeeds (cpy c_p1_carried c_carried 0 0 4) (cpy c_p1_paces c_paces 0 0 8) (cpy c_p1_speeds c_speeds 0 0 4) (cpy c_p1_steps c_steps 0 0 4))) rfl rfl dX2_copyFrom_94 ?_
  refine g_aload_n 0 C dX2_copyFrom_97 rfl rfl ?_
  refine g_aload_n 1 C dX2_copyFrom_98 rfl rfl ?_
  refine g_get C fg_X2_40 1 rfl rfl dX2_copyFrom_99 ?_
  refine g_st (st' := [.int (wI c_p1_sided), .ref a_t]) rfl ?_
  obtain ⟨hc1, h⟩ := chk_some h
  refine g_putZ C fp_X2_40 0 rfl hc1 rfl (ws' := (W_X2_copyFrom (eCy E) a_t a_p1 a_p1_actParts a_p1_actSpeeds a_p1_carried a_p1_paces a_p1_speeds a_p1_steps a_t_actParts a_t_actSpeeds a_t_carried a_t_paces a_t_speeds a_t_steps c_p1_lines c_p1_odds c_p1_parts c_p1_walkers c_p1_bands c_p1_sided c_sideStand c_sideWalk c_sidePace c_sideWould c_acts c_p1_lines c_p1_odds c_p1_parts c_p1_walkers c_p1_bands c_p1_sided c_p1_sideStand c_p1_sideWalk c_p1_sidePace c_p1_sideWould c_p1_acts c_p1_actParts c_p1_actSpeeds c_p1_carried c_p1_paces c_p1_speeds c_p1_steps c_actParts c_actSpeeds (cpy c_p1_carried c_carried 0 0 4) (cpy c_p1_paces c_paces 0 0 8) (cpy c_p1_speeds c_speeds 0 0 4) (cpy c_p1_steps c_steps 0 0 4))) rfl dX2_copyFrom_102 ?_
  refine g_aload_n 0 C dX2_copyFrom_105 rfl rfl ?_
  refine g_aload_n 1 C dX2_copyFrom_106 rfl rfl ?_
  refine g_get C fg_X2_44 1 rfl rfl dX2_copyFrom_107 ?_
  refine g_st (st' := [.int (wI c_p1_sideStand), .ref a_t]) rfl ?_
  refine g_putI C fp_X2_44 0 rfl rfl (ws' := (W_X2_copyFrom (eCy E) a_t a_p1 a_p1_actParts a_p1_actSpeeds a_p1_carried a_p1_paces a_p1_speeds a_p1_steps a_t_actParts a_t_actSpeeds a_t_carried a_t_paces a_t_speeds a_t_steps c_p1_lines c_p1_odds c_p1_parts c_p1_walkers c_p1_bands c_p1_sided c_p1_sideStand c_sideWalk c_sidePace c_sideWould c_acts c_p1_lines c_p1_odds c_p1_parts c_p1_walkers c_p1_bands c_p1_sided c_p1_sideStand c_p1_sideWalk c_p1_sidePace c_p1_sideWould c_p1_acts c_p1_actParts c_p1_actSpeeds c_p1_carried c_p1_paces c_p1_speeds c_p1_steps c_actParts c_actSpeeds (cpy c_p1_carried c_carried 0 0 4) (cpy c_p1_paces c_paces 0 0 8) (cpy c_p1_speeds c_speeds 0 0 4) (cpy c_p1_steps c_steps 0 0 4))) rfl dX2_copyFrom_110 ?_
  refine g_aload_n 0 C dX2_copyFrom_113 rfl rfl ?_
  refine g_aload_n 1 C dX2_copyFrom_114 rfl rfl ?_
  refine g_get C fg_X2_47 1 rfl rfl dX2_copyFrom_115 ?_
  refine g_st (st' := [.int (wI c_p1_sideWalk), .ref a_t]) rfl ?_
  refine g_putI C fp_X2_47 0 rfl rfl (ws' := (W_X2_copyFrom (eCy E) a_t a_p1 a_p1_actParts a_p1_actSpeeds a_p1_carried a_p1_paces a_p1_speeds a_p1_steps a_t_actParts a_t_actSpeeds a_t_carried a_t_paces a_t_speeds a_t_steps c_p1_lines c_p1_odds c_p1_parts c_p1_walkers c_p1_bands c_p1_sided c_p1_sideStand c_p1_sideWalk c_sidePace c_sideWould c_acts c_p1_lines c_p1_odds c_p1_parts c_p1_walkers c_p1_bands c_p1_sided c_p1_sideStand c_p1_sideWalk c_p1_sidePace c_p1_sideWould c_p1_acts c_p1_actParts c_p1_actSpeeds c_p1_carried c_p1_paces c_p1_speeds c_p1_steps c_actParts c_actSpeeds (cpy c_p1_carried c_carried 0 0 4) (cpy c_p1_paces c_paces 0 0 8) (cpy c_p1_speeds c_speeds 0 0 4) (cpy c_p1_steps c_steps 0 0 4))) rfl dX2_copyFrom_118 ?_
  refine g_aload_n 0 C dX2_copyFrom_121 rfl rfl ?_
  refine g_aload_n 1 C dX2_copyFrom_122 rfl rfl ?_
  refine g_get C fg_X2_50 1 rfl rfl dX2_copyFrom_123 ?_
  refine g_st (st' := [.int (wI c_p1_sidePace), .ref a_t]) rfl ?_
  refine g_putI C fp_X2_50 0 rfl rfl (ws' := (W_X2_copyFrom (eCy E) a_t a_p1 a_p1_actParts a_p1_actSpeeds a_p1_carried a_p1_paces a_p1_speeds a_p1_steps a_t_actParts a_t_actSpeeds a_t_carried a_t_paces a_t_speeds a_t_steps c_p1_lines c_p1_odds c_p1_parts c_p1_walkers c_p1_bands c_p1_sided c_p1_sideStand c_p1_sideWalk c_p1_sidePace c_sideWould c_acts c_p1_lines c_p1_odds c_p1_parts c_p1_walkers c_p1_bands c_p1_sided c_p1_sideStand c_p1_sideWalk c_p1_sidePace c_p1_sideWould c_p1_acts c_p1_actParts c_p1_actSpeeds c_p1_carried c_p1_paces c_p1_speeds c_p1_steps c_actParts c_actSpeeds (cpy c_p1_carried c_carried 0 0 4) (cpy c_p1_paces c_paces 0 0 8) (cpy c_p1_speeds c_speeds 0 0 4) (cpy c_p1_steps c_steps 0 0 4))) rfl dX2_copyFrom_126 ?_
  refine g_aload_n 0 C dX2_copyFrom_129 rfl rfl ?_
  refine g_aload_n 1 C dX2_copyFrom_130 rfl rfl ?_
  refine g_get C fg_X2_53 1 rfl rfl dX2_copyFrom_131 ?_
  refine g_st (st' := [.int (wI c_p1_sideWould), .ref a_t]) rfl ?_
  refine g_putI C fp_X2_53 0 rfl rfl (ws' := (W_X2_copyFrom (eCy E) a_t a_p1 a_p1_actParts a_p1_actSpeeds a_p1_carried a_p1_paces a_p1_speeds a_p1_steps a_t_actParts a_t_actSpeeds a_t_carried a_t_paces a_t_speeds a_t_steps c_p1_lines c_p1_odds c_p1_parts c_p1_walkers c_p1_bands c_p1_sided c_p1_sideStand c_p1_sideWalk c_p1_sidePace c_p1_sideWould c_acts c_p1_lines c_p1_odds c_p1_parts c_p1_walkers c_p1_bands c_p1_sided c_p1_sideStand c_p1_sideWalk c_p1_sidePace c_p1_sideWould c_p1_acts c_p1_actParts c_p1_actSpeeds c_p1_carried c_p1_paces c_p1_speeds c_p1_steps c_actParts c_actSpeeds (cpy c_p1_carried c_carried 0 0 4) (cpy c_p1_paces c_paces 0 0 8) (cpy c_p1_speeds c_speeds 0 0 4) (cpy c_p1_steps c_steps 0 0 4))) rfl dX2_copyFrom_134 ?_
  refine g_aload_n 0 C dX2_copyFrom_137 rfl rfl ?_
  refine g_aload_n 1 C dX2_copyFrom_138 rfl rfl ?_
  refine g_get C fg_X2_56 1 rfl rfl dX2_copyFrom_139 ?_
  refine g_st (st' := [.int (wI c_p1_acts), .ref a_t]) rfl ?_
  refine g_putI C fp_X2_56 0 rfl rfl (ws' := (W_X2_copyFrom (eCy E) a_t a_p1 a_p1_actParts a_p1_actSpeeds a_p1_carried a_p1_paces a_p1_speeds a_p1_steps a_t_actParts a_t_actSpeeds a_t_carried a_t_paces a_t_speeds a_t_steps c_p1_lines c_p1_odds c_p1_parts c_p1_walkers c_p1_bands c_p1_sided c_p1_sideStand c_p1_sideWalk c_p1_sidePace c_p1_sideWould c_p1_acts c_p1_lines c_p1_odds c_p1_parts c_p1_walkers c_p1_bands c_p1_sided c_p1_sideStand c_p1_sideWalk c_p1_sidePace c_p1_sideWould c_p1_acts c_p1_actParts c_p1_actSpeeds c_p1_carried c_p1_paces c_p1_speeds c_p1_steps c_actParts c_actSpeeds (cpy c_p1_carried c_carried 0 0 4) (cpy c_p1_paces c_paces 0 0 8) (cpy c_p1_speeds c_speeds 0 0 4) (cpy c_p1_steps c_steps 0 0 4))) rfl dX2_copyFrom_142 ?_
  refine g_aload_n 1 C dX2_copyFrom_145 rfl rfl ?_
  refine g_get C fg_X2_59 1 rfl rfl dX2_copyFrom_146 ?_
  refine g_iconst C dX2_copyFrom_149 ?_
  refine g_aload_n 0 C dX2_copyFrom_150 rfl rfl ?_
  refine g_get C fg_X2_59 0 rfl rfl dX2_copyFrom_151 ?_
  refine g_iconst C dX2_copyFrom_154 ?_
  refine g_bipush C dX2_copyFrom_155 (by decide) ?_
  refine g_copyI C mcp_X2_65 2 8 rfl rfl rfl (by decide) (ws' := (W_X2_copyFrom (eCy E) a_t a_p1 a_p1_actParts a_p1_actSpeeds a_p1_carried a_p1_paces a_p1_speeds a_p1_steps a_t_actParts a_t_actSpeeds a_t_carried a_t_paces a_t_speeds a_t_steps c_p1_lines c_p1_odds c_p1_parts c_p1_walkers c_p1_bands c_p1_sided c_p1_sideStand c_p1_sideWalk c_p1_sidePace c_p1_sideWould c_p1_acts c_p1_lines c_p1_odds c_p1_parts c_p1_walkers c_p1_bands c_p1_sided c_p1_sideStand c_p1_sideWalk c_p1_sidePace c_p1_sideWould c_p1_acts c_p1_actParts c_p1_actSpeeds c_p1_carried c_p1_paces c_p1_speeds c_p1_steps (cpy c_p1_actParts c_actParts 0 0 60) c_actSpeeds (cpy c_p1_carried c_carried 0 0 4) (cpy c_p1_paces c_paces 0 0 8) (cpy c_p1_speeds c_speeds 0 0 4) (cpy c_p1_steps c_steps 0 0 4))) rfl rfl dX2_copyFrom_157 ?_
  refine g_aload_n 1 C dX2_copyFrom_160 rfl rfl ?_
  refine g_get C fg_X2_62 1 rfl rfl dX2_copyFrom_161 ?_
  refine g_iconst C dX2_copyFrom_164 ?_
  refine g_aload_n 0 C dX2_copyFrom_165 rfl rfl ?_
  refine g_get C fg_X2_62 0 rfl rfl dX2_copyFrom_166 ?_
  refine g_iconst C dX2_copyFrom_169 ?_
  refine g_bipush C dX2_copyFrom_170 (by decide) ?_
  refine g_copyI C mcp_X2_65 3 9 rfl rfl rfl (by decide) (ws' := (W_X2_copyFrom (eCy E) a_t a_p1 a_p1_actParts a_p1_actSpeeds a_p1_carried a_p1_paces a_p1_speeds a_p1_steps a_t_actParts a_t_actSpeeds a_t_carried a_t_paces a_t_speeds a_t_steps c_p1_lines c_p1_odds c_p1_parts c_p1_walkers c_p1_bands c_p1_sided c_p1_sideStand c_p1_sideWalk c_p1_sidePace c_p1_sideWould c_p1_acts c_p1_lines c_p1_odds c_p1_parts c_p1_walkers c_p1_bands c_p1_sided c_p1_sideStand c_p1_sideWalk c_p1_sidePace c_p1_sideWould c_p1_acts c_p1_actParts c_p1_actSpeeds c_p1_carried c_p1_paces c_p1_speeds c_p1_steps (cpy c_p1_actParts c_actParts 0 0 60) (cpy c_p1_actSpeeds c_actSpeeds 0 0 60) (cpy c_p1_carried c_carried 0 0 4) (cpy c_p1_paces c_paces 0 0 8) (cpy c_p1_speeds c_speeds 0 0 4) (cpy c_p1_steps c_steps 0 0 4))) rfl rfl dX2_copyFrom_172 ?_
  cases h
  exact hret 175 _ dX2_copyFrom_175
end S_X2_copyFrom
set_option maxRecDepth 100000 in
set_option maxHeartbeats 4000000 in
theorem c_X2_copyFrom (l : Launch) (D : va_G) (cy : Nat → ClassId) (ad : AD) (a_t a_p1 a_p1_actParts a_p1_actSpeeds a_p1_carried a_p1_paces a_p1_speeds a_p1_steps a_t_actParts a_t_actSpeeds a_t_carried a_t_paces a_t_speeds a_t_steps : Nat) (c_lines : Int) (c_odds : Int) (c_parts : Int) (c_walkers : Int) (c_bands : Int) (c_sided : Int) (c_sideStand : Int) (c_sideWalk : Int) (c_sidePace : Int) (c_sideWould : Int) (c_acts : Int) (c_p1_lines : Int) (c_p1_odds : Int) (c_p1_parts : Int) (c_p1_walkers : Int) (c_p1_bands : Int) (c_p1_sided : Int) (c_p1_sideStand : Int) (c_p1_sideWalk : Int) (c_p1_sidePace : Int) (c_p1_sideWould : Int) (c_p1_acts : Int) (c_p1_actParts : Int → Int) (c_p1_actSpeeds : Int → Int) (c_p1_carried : Int → Int) (c_p1_paces : Int → Int) (c_p1_speeds : Int → Int) (c_p1_steps : Int → Int) (c_actParts : Int → Int) (c_actSpeeds : Int → Int) (c_carried : Int → Int) (c_paces : Int → Int) (c_speeds : Int → Int) (c_steps : Int → Int) (F : Nat) {v : Int × Int × Int × Int × Int × Int × Int × Int × Int × Int × Int × (Int → Int) × (Int → Int) × (Int → Int) × (Int → Int) × (Int → Int) × (Int → Int)} (h : m_X2_copyFrom F c_p1_lines c_p1_odds c_p1_parts c_p1_walkers c_p1_bands c_p1_sided c_p1_sideStand c_p1_sideWalk c_p1_sidePace c_p1_sideWould c_p1_acts c_p1_actParts c_p1_actSpeeds c_p1_carried c_p1_paces c_p1_speeds c_p1_steps c_actParts c_actSpeeds c_carried c_paces c_speeds c_steps = some v) : Ct l yX2_copyFrom cX2_copyFrom 2 none { frames := 1, cells := 0, slots := 0, locals := 26 } D cy ad [.ref a_t, .ref a_p1] (W_X2_copyFrom cy a_t a_p1 a_p1_actParts a_p1_actSpeeds a_p1_carried a_p1_paces a_p1_speeds a_p1_steps a_t_actParts a_t_actSpeeds a_t_carried a_t_paces a_t_speeds a_t_steps c_lines c_odds c_parts c_walkers c_bands c_sided c_sideStand c_sideWalk c_sidePace c_sideWould c_acts c_p1_lines c_p1_odds c_p1_parts c_p1_walkers c_p1_bands c_p1_sided c_p1_sideStand c_p1_sideWalk c_p1_sidePace c_p1_sideWould c_p1_acts c_p1_actParts c_p1_actSpeeds c_p1_carried c_p1_paces c_p1_speeds c_p1_steps c_actParts c_actSpeeds c_carried c_paces c_speeds c_steps) (W_X2_copyFrom cy a_t a_p1 a_p1_actParts a_p1_actSpeeds a_p1_carried a_p1_paces a_p1_speeds a_p1_steps a_t_actParts a_t_actSpeeds a_t_carried a_t_paces a_t_speeds a_t_steps (v.1) (v.2.1) (v.2.2.1) (v.2.2.2.1) (v.2.2.2.2.1) (v.2.2.2.2.2.1) (v.2.2.2.2.2.2.1) (v.2.2.2.2.2.2.2.1) (v.2.2.2.2.2.2.2.2.1) (v.2.2.2.2.2.2.2.2.2.1) (v.2.2.2.2.2.2.2.2.2.2.1) c_p1_lines c_p1_odds c_p1_parts c_p1_walkers c_p1_bands c_p1_sided c_p1_sideStand c_p1_sideWalk c_p1_sidePace c_p1_sideWould c_p1_acts c_p1_actParts c_p1_actSpeeds c_p1_carried c_p1_paces c_p1_speeds c_p1_steps (v.2.2.2.2.2.2.2.2.2.2.2.1) (v.2.2.2.2.2.2.2.2.2.2.2.2.1) (v.2.2.2.2.2.2.2.2.2.2.2.2.2.1) (v.2.2.2.2.2.2.2.2.2.2.2.2.2.2.1) (v.2.2.2.2.2.2.2.2.2.2.2.2.2.2.2.1) (v.2.2.2.2.2.2.2.2.2.2.2.2.2.2.2.2)) none := by
  refine Ct.introV (j := 0) (plainFor_of_name (by decide)) rfl rfl (fun E C e1 e2 e3 e4 e5 hret => ?_)
  subst e1; subst e2; subst e3; subst e4
  exact wm_X2_copyFrom C e5 h hret
-- MovingStair$Layout.isThere()Z
def W_X2_isThere (cy : Nat → ClassId) (a_t : Nat) (g_t_1 : Value) (g_t_2 : Value) (g_t_3 : Value) (g_t_4 : Value) (g_t_5 : Value) (g_t_6 : Value) (g_t_7 : Value) (g_t_8 : Value) (g_t_9 : Value) (g_t_10 : Value) (g_t_11 : Value) (g_t_12 : Value) (g_t_13 : Value) (g_t_14 : Value) (g_t_15 : Value) (g_t_16 : Value) (c_lines : Int) : va_W := [(a_t, .inr (2, [.int (wI c_lines), g_t_1, g_t_2, g_t_3, g_t_4, g_t_5, g_t_6, g_t_7, g_t_8, g_t_9, g_t_10, g_t_11, g_t_12, g_t_13, g_t_14, g_t_15, g_t_16]))]
def m_X2_isThere (F : Nat) (c_lines : Int) : Option (Int) :=
  if wI c_lines ≤ wI 0 then
    (some 0)
  else
    (some 1)
section S_X2_isThere
variable {E : EE} {a_t : Nat} {g_t_1 : Value} {g_t_2 : Value} {g_t_3 : Value} {g_t_4 : Value} {g_t_5 : Value} {g_t_6 : Value} {g_t_7 : Value} {g_t_8 : Value} {g_t_9 : Value} {g_t_10 : Value} {g_t_11 : Value} {g_t_12 : Value} {g_t_13 : Value} {g_t_14 : Value} {g_t_15 : Value} {g_t_16 : Value}
set_option maxRecDepth 100000 in
set_option maxHeartbeats 4000000 in
theorem wm_X2_isThere {F : Nat} {v : Int} {c_lines : Int} (C : Cx E cX2_isThere RX2 { frames := 0, cells := 0, slots := 0, locals := 0 }) (hN : eN E = 1) (h : m_X2_isThere F c_lines = some v) (hret : ∀ (pc : Nat) (L : List (Option Value)), narrow .boolean (.int (wI v)) = .int (wI v) → decode cX2_isThere pc = .ok (.ireturn, 1) → GG E 0 0 (W_X2_isThere (eCy E) a_t g_t_1 g_t_2 g_t_3 g_t_4 g_t_5 g_t_6 g_t_7 g_t_8 g_t_9 g_t_10 g_t_11 g_t_12 g_t_13 g_t_14 g_t_15 g_t_16 c_lines) L pc [.int (wI v)]) : GG E 0 0 (W_X2_isThere (eCy E) a_t g_t_1 g_t_2 g_t_3 g_t_4 g_t_5 g_t_6 g_t_7 g_t_8 g_t_9 g_t_10 g_t_11 g_t_12 g_t_13 g_t_14 g_t_15 g_t_16 c_lines) [some (.ref a_t)] 0 [] := by
  unfold m_X2_isThere at h
  refine g_aload_n 0 C dX2_isThere_0 rfl rfl ?_
  refine g_get C fg_X2_9 0 rfl rfl dX2_isThere_1 ?_
  refine g_st (st' := [.int (wI c_lines)]) rfl ?_
  refine g_if_le 11 C dX2_isThere_4 (by decide) h (fun h => ?_) (fun h => ?_)
  · refine g_iconst C dX2_isThere_11 ?_
    cases h
    exact hret 12 _ bn0 dX2_isThere_12
  · refine g_iconst C dX2_isThere_7 ?_
    refine g_goto (tgt := 12) C dX2_isThere_8 (by decide) ?_
    cases h
    exact hret 12 _ bn1 dX2_isThere_12
end S_X2_isThere
set_option maxRecDepth 100000 in
set_option maxHeartbeats 4000000 in
theorem c_X2_isThere (l : Launch) (D : va_G) (cy : Nat → ClassId) (ad : AD) (a_t : Nat) (g_t_1 : Value) (g_t_2 : Value) (g_t_3 : Value) (g_t_4 : Value) (g_t_5 : Value) (g_t_6 : Value) (g_t_7 : Value) (g_t_8 : Value) (g_t_9 : Value) (g_t_10 : Value) (g_t_11 : Value) (g_t_12 : Value) (g_t_13 : Value) (g_t_14 : Value) (g_t_15 : Value) (g_t_16 : Value) (c_lines : Int) (F : Nat) {v : Int} (h : m_X2_isThere F c_lines = some v) : Ct l yX2_isThere cX2_isThere 1 (some .boolean) { frames := 0, cells := 0, slots := 0, locals := 0 } D cy ad [.ref a_t] (W_X2_isThere cy a_t g_t_1 g_t_2 g_t_3 g_t_4 g_t_5 g_t_6 g_t_7 g_t_8 g_t_9 g_t_10 g_t_11 g_t_12 g_t_13 g_t_14 g_t_15 g_t_16 c_lines) (W_X2_isThere cy a_t g_t_1 g_t_2 g_t_3 g_t_4 g_t_5 g_t_6 g_t_7 g_t_8 g_t_9 g_t_10 g_t_11 g_t_12 g_t_13 g_t_14 g_t_15 g_t_16 c_lines) (some (.int (wI v))) := by
  refine Ct.introZ (j := 0) (plainFor_of_name (by decide)) rfl rfl (fun E C e1 e2 e3 e4 e5 hret => ?_)
  subst e1; subst e2; subst e3; subst e4
  exact wm_X2_isThere C e5 h hret
-- MovingStair$Layout.hasPart(I)Z
def W_X2_hasPart (cy : Nat → ClassId) (a_t : Nat) (g_t_0 : Value) (g_t_1 : Value) (g_t_3 : Value) (g_t_4 : Value) (g_t_5 : Value) (g_t_6 : Value) (g_t_7 : Value) (g_t_8 : Value) (g_t_9 : Value) (g_t_10 : Value) (g_t_11 : Value) (g_t_12 : Value) (g_t_13 : Value) (g_t_14 : Value) (g_t_15 : Value) (g_t_16 : Value) (c_parts : Int) : va_W := [(a_t, .inr (2, [g_t_0, g_t_1, .int (wI c_parts), g_t_3, g_t_4, g_t_5, g_t_6, g_t_7, g_t_8, g_t_9, g_t_10, g_t_11, g_t_12, g_t_13, g_t_14, g_t_15, g_t_16]))]
def m_X2_hasPart (F : Nat) (x1 : Int) (c_parts : Int) : Option (Int) :=
  if wI x1 < wI 0 then
    (some 0)
  else
    (if wI c_parts ≤ wI x1 then
    (some 0)
  else
    (some 1))
section S_X2_hasPart
variable {E : EE} {a_t : Nat} {g_t_0 : Value} {g_t_1 : Value} {g_t_3 : Value} {g_t_4 : Value} {g_t_5 : Value} {g_t_6 : Value} {g_t_7 : Value} {g_t_8 : Value} {g_t_9 : Value} {g_t_10 : Value} {g_t_11 : Value} {g_t_12 : Value} {g_t_13 : Value} {g_t_14 : Value} {g_t_15 : Value} {g_t_16 : Value}
set_option maxRecDepth 100000 in
set_option maxHeartbeats 4000000 in
theorem wm_X2_hasPart {F : Nat} {v : Int} {x1 : Int} {c_parts : Int} (C : Cx E cX2_hasPart RX2 { frames := 0, cells := 0, slots := 0, locals := 0 }) (hN : eN E = 2) (h : m_X2_hasPart F x1 c_parts = some v) (hret : ∀ (pc : Nat) (L : List (Option Value)), narrow .boolean (.int (wI v)) = .int (wI v) → decode cX2_hasPart pc = .ok (.ireturn, 1) → GG E 0 0 (W_X2_hasPart (eCy E) a_t g_t_0 g_t_1 g_t_3 g_t_4 g_t_5 g_t_6 g_t_7 g_t_8 g_t_9 g_t_10 g_t_11 g_t_12 g_t_13 g_t_14 g_t_15 g_t_16 c_parts) L pc [.int (wI v)]) : GG E 0 0 (W_X2_hasPart (eCy E) a_t g_t_0 g_t_1 g_t_3 g_t_4 g_t_5 g_t_6 g_t_7 g_t_8 g_t_9 g_t_10 g_t_11 g_t_12 g_t_13 g_t_14 g_t_15 g_t_16 c_parts) [some (.ref a_t), some (.int (wI x1))] 0 [] := by
  unfold m_X2_hasPart at h
  refine g_iload_n 1 C dX2_hasPart_0 rfl rfl ?_
  refine g_if_lt 16 C dX2_hasPart_1 (by decide) h (fun h => ?_) (fun h => ?_)
  · refine g_iconst C dX2_hasPart_16 ?_
    cases h
    exact hret 17 _ bn0 dX2_hasPart_17
  · refine g_iload_n 1 C dX2_hasPart_4 rfl rfl ?_
    refine g_aload_n 0 C dX2_hasPart_5 rfl rfl ?_
    refine g_get C fg_X2_18 0 rfl rfl dX2_hasPart_6 ?_
    refine g_st (st' := [.int (wI c_parts), .int (wI x1)]) rfl ?_
    refine g_icmp_ge 16 C dX2_hasPart_9 (by decide) h (fun h => ?_) (fun h => ?_)
    · refine g_iconst C dX2_hasPart_16 ?_
      cases h
      exact hret 17 _ bn0 dX2_hasPart_17
    · refine g_iconst C dX2_hasPart_12 ?_
      refine g_goto (tgt := 17) C dX2_hasPart_13 (by decide) ?_
      cases h
      exact hret 17 _ bn1 dX2_hasPart_17
end S_X2_hasPart
set_option maxRecDepth 100000 in
set_option maxHeartbeats 4000000 in
theorem c_X2_hasPart (l : Launch) (D : va_G) (cy : Nat → ClassId) (ad : AD) (a_t : Nat) (g_t_0 : Value) (g_t_1 : Value) (g_t_3 : Value) (g_t_4 : Value) (g_t_5 : Value) (g_t_6 : Value) (g_t_7 : Value) (g_t_8 : Value) (g_t_9 : Value) (g_t_10 : Value) (g_t_11 : Value) (g_t_12 : Value) (g_t_13 : Value) (g_t_14 : Value) (g_t_15 : Value) (g_t_16 : Value) (x1 : Int) (c_parts : Int) (F : Nat) {v : Int} (h : m_X2_hasPart F x1 c_parts = some v) : Ct l yX2_hasPart cX2_hasPart 2 (some .boolean) { frames := 0, cells := 0, slots := 0, locals := 0 } D cy ad [.ref a_t, .int (wI x1)] (W_X2_hasPart cy a_t g_t_0 g_t_1 g_t_3 g_t_4 g_t_5 g_t_6 g_t_7 g_t_8 g_t_9 g_t_10 g_t_11 g_t_12 g_t_13 g_t_14 g_t_15 g_t_16 c_parts) (W_X2_hasPart cy a_t g_t_0 g_t_1 g_t_3 g_t_4 g_t_5 g_t_6 g_t_7 g_t_8 g_t_9 g_t_10 g_t_11 g_t_12 g_t_13 g_t_14 g_t_15 g_t_16 c_parts) (some (.int (wI v))) := by
  refine Ct.introZ (j := 0) (plainFor_of_name (by decide)) rfl rfl (fun E C e1 e2 e3 e4 e5 hret => ?_)
  subst e1; subst e2; subst e3; subst e4
  exact wm_X2_hasPart C e5 h hret
-- MovingStair$Layout.hasWalker(I)Z
def W_X2_hasWalker (cy : Nat → ClassId) (a_t : Nat) (g_t_0 : Value) (g_t_1 : Value) (g_t_2 : Value) (g_t_3 : Value) (g_t_4 : Value) (g_t_6 : Value) (g_t_7 : Value) (g_t_8 : Value) (g_t_9 : Value) (g_t_10 : Value) (g_t_11 : Value) (g_t_12 : Value) (g_t_13 : Value) (g_t_14 : Value) (g_t_15 : Value) (g_t_16 : Value) (c_walkers : Int) : va_W := [(a_t, .inr (2, [g_t_0, g_t_1, g_t_2, g_t_3, g_t_4, .int (wI c_walkers), g_t_6, g_t_7, g_t_8, g_t_9, g_t_10, g_t_11, g_t_12, g_t_13, g_t_14, g_t_15, g_t_16]))]
def m_X2_hasWalker (F : Nat) (x1 : Int) (c_walkers : Int) : Option (Int) :=
  if wI x1 < wI 0 then
    (some 0)
  else
    (if wI c_walkers ≤ wI x1 then
    (some 0)
  else
    (some 1))
section S_X2_hasWalker
variable {E : EE} {a_t : Nat} {g_t_0 : Value} {g_t_1 : Value} {g_t_2 : Value} {g_t_3 : Value} {g_t_4 : Value} {g_t_6 : Value} {g_t_7 : Value} {g_t_8 : Value} {g_t_9 : Value} {g_t_10 : Value} {g_t_11 : Value} {g_t_12 : Value} {g_t_13 : Value} {g_t_14 : Value} {g_t_15 : Value} {g_t_16 : Value}
set_option maxRecDepth 100000 in
set_option maxHeartbeats 4000000 in
theorem wm_X2_hasWalker {F : Nat} {v : Int} {x1 : Int} {c_walkers : Int} (C : Cx E cX2_hasWalker RX2 { frames := 0, cells := 0, slots := 0, locals := 0 }) (hN : eN E = 2) (h : m_X2_hasWalker F x1 c_walkers = some v) (hret : ∀ (pc : Nat) (L : List (Option Value)), narrow .boolean (.int (wI v)) = .int (wI v) → decode cX2_hasWalker pc = .ok (.ireturn, 1) → GG E 0 0 (W_X2_hasWalker (eCy E) a_t g_t_0 g_t_1 g_t_2 g_t_3 g_t_4 g_t_6 g_t_7 g_t_8 g_t_9 g_t_10 g_t_11 g_t_12 g_t_13 g_t_14 g_t_15 g_t_16 c_walkers) L pc [.int (wI v)]) : GG E 0 0 (W_X2_hasWalker (eCy E) a_t g_t_0 g_t_1 g_t_2 g_t_3 g_t_4 g_t_6 g_t_7 g_t_8 g_t_9 g_t_10 g_t_11 g_t_12 g_t_13 g_t_14 g_t_15 g_t_16 c_walkers) [some (.ref a_t), some (.int (wI x1))] 0 [] := by
  unfold m_X2_hasWalker at h
  refine g_iload_n 1 C dX2_hasWalker_0 rfl rfl ?_
  refine g_if_lt 16 C dX2_hasWalker_1 (by decide) h (fun h => ?_) (fun h => ?_)
  · refine g_iconst C dX2_hasWalker_16 ?_
    cases h
    exact hret 17 _ bn0 dX2_hasWalker_17
  · refine g_iload_n 1 C dX2_hasWalker_4 rfl rfl ?_
    refine g_aload_n 0 C dX2_hasWalker_5 rfl rfl ?_
    refine g_get C fg_X2_28 0 rfl rfl dX2_hasWalker_6 ?_
    refine g_st (st' := [.int (wI c_walkers), .int (wI x1)]) rfl ?_
    refine g_icmp_ge 16 C dX2_hasWalker_9 (by decide) h (fun h => ?_) (fun h => ?_)
    · refine g_iconst C dX2_hasWalker_16 ?_
      cases h
      exact hret 17 _ bn0 dX2_hasWalker_17
    · refine g_iconst C dX2_hasWalker_12 ?_
      refine g_goto (tgt := 17) C dX2_hasWalker_13 (by decide) ?_
      cases h
      exact hret 17 _ bn1 dX2_hasWalker_17
end S_X2_hasWalker
set_option maxRecDepth 100000 in
set_option maxHeartbeats 4000000 in
theorem c_X2_hasWalker (l : Launch) (D : va_G) (cy : Nat → ClassId) (ad : AD) (a_t : Nat) (g_t_0 : Value) (g_t_1 : Value) (g_t_2 : Value) (g_t_3 : Value) (g_t_4 : Value) (g_t_6 : Value) (g_t_7 : Value) (g_t_8 : Value) (g_t_9 : Value) (g_t_10 : Value) (g_t_11 : Value) (g_t_12 : Value) (g_t_13 : Value) (g_t_14 : Value) (g_t_15 : Value) (g_t_16 : Value) (x1 : Int) (c_walkers : Int) (F : Nat) {v : Int} (h : m_X2_hasWalker F x1 c_walkers = some v) : Ct l yX2_hasWalker cX2_hasWalker 2 (some .boolean) { frames := 0, cells := 0, slots := 0, locals := 0 } D cy ad [.ref a_t, .int (wI x1)] (W_X2_hasWalker cy a_t g_t_0 g_t_1 g_t_2 g_t_3 g_t_4 g_t_6 g_t_7 g_t_8 g_t_9 g_t_10 g_t_11 g_t_12 g_t_13 g_t_14 g_t_15 g_t_16 c_walkers) (W_X2_hasWalker cy a_t g_t_0 g_t_1 g_t_2 g_t_3 g_t_4 g_t_6 g_t_7 g_t_8 g_t_9 g_t_10 g_t_11 g_t_12 g_t_13 g_t_14 g_t_15 g_t_16 c_walkers) (some (.int (wI v))) := by
  refine Ct.introZ (j := 0) (plainFor_of_name (by decide)) rfl rfl (fun E C e1 e2 e3 e4 e5 hret => ?_)
  subst e1; subst e2; subst e3; subst e4
  exact wm_X2_hasWalker C e5 h hret
-- MovingStair$Layout.stepsAhead(I)I
def W_X2_stepsAhead (cy : Nat → ClassId) (a_t a_t_steps : Nat) (g_t_0 : Value) (g_t_1 : Value) (g_t_2 : Value) (g_t_4 : Value) (g_t_5 : Value) (g_t_6 : Value) (g_t_7 : Value) (g_t_8 : Value) (g_t_9 : Value) (g_t_10 : Value) (g_t_11 : Value) (g_t_12 : Value) (g_t_13 : Value) (g_t_14 : Value) (g_t_15 : Value) (g_t_16 : Value) (c_steps : Int → Int) : va_W := [(a_t, .inr (2, [g_t_0, g_t_1, g_t_2, .ref a_t_steps, g_t_4, g_t_5, g_t_6, g_t_7, g_t_8, g_t_9, g_t_10, g_t_11, g_t_12, g_t_13, g_t_14, g_t_15, g_t_16])), (a_t_steps, .inl (cy 1, 4, .inl (aI c_steps)))]
def mb_X2_stepsAhead_4 (F : Nat) (k4 : Int → Int → Option (Int)) (x1 : Int) (x2 : Int) (x3 : Int) (c_steps : Int → Int) : Option (Int) :=
  if wI x1 ≤ wI x3 then
    (some x2)
  else
    (if wI 4 ≤ wI x3 then
    (some x2)
  else
    (chk (0 ≤ x3 ∧ x3 < 4) <| nam (x2 + (c_steps x3)) fun y2 => k4 y2 (x3 + 1)))
def ml_X2_stepsAhead_4 (F : Nat) (x1 : Int) (x2 : Int) (x3 : Int) (c_steps : Int → Int) : Option (Int) :=
  loopN (fun (k : Int × Int → Option (Int)) q => mb_X2_stepsAhead_4 F (fun y0 y1 => k (y0, y1)) x1 q.1 q.2 c_steps) F (x2, x3)
def m_X2_stepsAhead (F : Nat) (x1 : Int) (c_steps : Int → Int) : Option (Int) :=
  ml_X2_stepsAhead_4 F x1 0 0 c_steps
section S_X2_stepsAhead
variable {E : EE} {a_t a_t_steps : Nat} {g_t_0 : Value} {g_t_1 : Value} {g_t_2 : Value} {g_t_4 : Value} {g_t_5 : Value} {g_t_6 : Value} {g_t_7 : Value} {g_t_8 : Value} {g_t_9 : Value} {g_t_10 : Value} {g_t_11 : Value} {g_t_12 : Value} {g_t_13 : Value} {g_t_14 : Value} {g_t_15 : Value} {g_t_16 : Value}
set_option maxRecDepth 100000 in
set_option maxHeartbeats 4000000 in
theorem wb_X2_stepsAhead_4 {F : Nat} {k4 : Int → Int → Option (Int)} {v : Int} {x1 : Int} {x2 : Int} {x3 : Int} {c_steps : Int → Int} (C : Cx E cX2_stepsAhead RX2 { frames := 0, cells := 0, slots := 0, locals := 0 }) (hN : eN E = 4) (h : mb_X2_stepsAhead_4 F k4 x1 x2 x3 c_steps = some v) (hk4 : ∀ (y_x2 : Int) (y_x3 : Int), k4 y_x2 y_x3 = some v → GG E 0 0 (W_X2_stepsAhead (eCy E) a_t a_t_steps g_t_0 g_t_1 g_t_2 g_t_4 g_t_5 g_t_6 g_t_7 g_t_8 g_t_9 g_t_10 g_t_11 g_t_12 g_t_13 g_t_14 g_t_15 g_t_16 c_steps) [some (.ref a_t), some (.int (wI x1)), some (.int (wI y_x2)), some (.int (wI y_x3))] 4 []) (hret : ∀ (pc : Nat) (L : List (Option Value)), decode cX2_stepsAhead pc = .ok (.ireturn, 1) → GG E 0 0 (W_X2_stepsAhead (eCy E) a_t a_t_steps g_t_0 g_t_1 g_t_2 g_t_4 g_t_5 g_t_6 g_t_7 g_t_8 g_t_9 g_t_10 g_t_11 g_t_12 g_t_13 g_t_14 g_t_15 g_t_16 c_steps) L pc [.int (wI v)]) : GG E 0 0 (W_X2_stepsAhead (eCy E) a_t a_t_steps g_t_0 g_t_1 g_t_2 g_t_4 g_t_5 g_t_6 g_t_7 g_t_8 g_t_9 g_t_10 g_t_11 g_t_12 g_t_13 g_t_14 g_t_15 g_t_16 c_steps) [some (.ref a_t), some (.int (wI x1)), some (.int (wI x2)), some (.int (wI x3))] 4 [] := by
  unfold mb_X2_stepsAhead_4 at h
  refine g_iload_n 3 C dX2_stepsAhead_4 rfl rfl ?_
  refine g_iload_n 1 C dX2_stepsAhead_5 rfl rfl ?_
  refine g_icmp_ge 29 C dX2_stepsAhead_6 (by decide) h (fun h => ?_) (fun h => ?_)
  · refine g_iload_n 2 C dX2_stepsAhead_29 rfl rfl ?_
    cases h
    exact hret 30 _ dX2_stepsAhead_30
  · refine g_iload_n 3 C dX2_stepsAhead_9 rfl rfl ?_
    refine g_iconst C dX2_stepsAhead_10 ?_
    refine g_icmp_ge 29 C dX2_stepsAhead_11 (by decide) h (fun h => ?_) (fun h => ?_)
    · refine g_iload_n 2 C dX2_stepsAhead_29 rfl rfl ?_
      cases h
      exact hret 30 _ dX2_stepsAhead_30
    · refine g_iload_n 2 C dX2_stepsAhead_14 rfl rfl ?_
      refine g_aload_n 0 C dX2_stepsAhead_15 rfl rfl ?_
      refine g_get C fg_X2_21 0 rfl rfl dX2_stepsAhead_16 ?_
      refine g_iload_n 3 C dX2_stepsAhead_19 rfl rfl ?_
      obtain ⟨hc1, h⟩ := chk_some h
      refine g_iald C 1 rfl hc1 rfl dX2_stepsAhead_20 ?_
      refine g_iadd C dX2_stepsAhead_21 ?_
      obtain ⟨y2, e_y2, h⟩ := nam_some h
      refine g_topI e_y2 ?_
      refine g_istore_n 2 C hN dX2_stepsAhead_22 rfl rfl (L' := [some (.ref a_t), some (.int (wI x1)), some (.int (wI y2)), some (.int (wI x3))]) rfl ?_
      refine g_iinc C hN dX2_stepsAhead_23 rfl rfl (L' := [some (.ref a_t), some (.int (wI x1)), some (.int (wI y2)), some (.int (wI (x3 + 1)))]) rfl ?_
      refine g_goto (tgt := 4) C dX2_stepsAhead_26 (by decide) ?_
      exact hk4 _ _ h
set_option maxRecDepth 100000 in
set_option maxHeartbeats 4000000 in
theorem wl_X2_stepsAhead_4 {F : Nat} {v : Int} {x1 : Int} {x2 : Int} {x3 : Int} {c_steps : Int → Int} (C : Cx E cX2_stepsAhead RX2 { frames := 0, cells := 0, slots := 0, locals := 0 }) (hN : eN E = 4) (h : ml_X2_stepsAhead_4 F x1 x2 x3 c_steps = some v) (hret : ∀ (pc : Nat) (L : List (Option Value)), decode cX2_stepsAhead pc = .ok (.ireturn, 1) → GG E 0 0 (W_X2_stepsAhead (eCy E) a_t a_t_steps g_t_0 g_t_1 g_t_2 g_t_4 g_t_5 g_t_6 g_t_7 g_t_8 g_t_9 g_t_10 g_t_11 g_t_12 g_t_13 g_t_14 g_t_15 g_t_16 c_steps) L pc [.int (wI v)]) : GG E 0 0 (W_X2_stepsAhead (eCy E) a_t a_t_steps g_t_0 g_t_1 g_t_2 g_t_4 g_t_5 g_t_6 g_t_7 g_t_8 g_t_9 g_t_10 g_t_11 g_t_12 g_t_13 g_t_14 g_t_15 g_t_16 c_steps) [some (.ref a_t), some (.int (wI x1)), some (.int (wI x2)), some (.int (wI x3))] 4 [] := by
  unfold ml_X2_stepsAhead_4 at h
  exact loop_walk (g := fun (q : Int × Int) => GG E 0 0 (W_X2_stepsAhead (eCy E) a_t a_t_steps g_t_0 g_t_1 g_t_2 g_t_4 g_t_5 g_t_6 g_t_7 g_t_8 g_t_9 g_t_10 g_t_11 g_t_12 g_t_13 g_t_14 g_t_15 g_t_16 c_steps) [some (.ref a_t), some (.int (wI x1)), some (.int (wI (q.1))), some (.int (wI (q.2)))] 4 []) (fun k hk q h => wb_X2_stepsAhead_4 C hN h (fun y0 y1 hh => hk (y0, y1) hh) hret) F (x2, x3) h
set_option maxRecDepth 100000 in
set_option maxHeartbeats 4000000 in
theorem wm_X2_stepsAhead {F : Nat} {v : Int} {x1 : Int} {c_steps : Int → Int} (C : Cx E cX2_stepsAhead RX2 { frames := 0, cells := 0, slots := 0, locals := 0 }) (hN : eN E = 4) (h : m_X2_stepsAhead F x1 c_steps = some v) (hret : ∀ (pc : Nat) (L : List (Option Value)), decode cX2_stepsAhead pc = .ok (.ireturn, 1) → GG E 0 0 (W_X2_stepsAhead (eCy E) a_t a_t_steps g_t_0 g_t_1 g_t_2 g_t_4 g_t_5 g_t_6 g_t_7 g_t_8 g_t_9 g_t_10 g_t_11 g_t_12 g_t_13 g_t_14 g_t_15 g_t_16 c_steps) L pc [.int (wI v)]) : GG E 0 0 (W_X2_stepsAhead (eCy E) a_t a_t_steps g_t_0 g_t_1 g_t_2 g_t_4 g_t_5 g_t_6 g_t_7 g_t_8 g_t_9 g_t_10 g_t_11 g_t_12 g_t_13 g_t_14 g_t_15 g_t_16 c_steps) [some (.ref a_t), some (.int (wI x1)), none, none] 0 [] := by
  unfold m_X2_stepsAhead at h
  refine g_iconst C dX2_stepsAhead_0 ?_
  refine g_istore_n 2 C hN dX2_stepsAhead_1 rfl rfl (L' := [some (.ref a_t), some (.int (wI x1)), some (.int (wI 0)), none]) rfl ?_
  refine g_iconst C dX2_stepsAhead_2 ?_
  refine g_istore_n 3 C hN dX2_stepsAhead_3 rfl rfl (L' := [some (.ref a_t), some (.int (wI x1)), some (.int (wI 0)), some (.int (wI 0))]) rfl ?_
  exact wl_X2_stepsAhead_4 C hN h hret
end S_X2_stepsAhead
set_option maxRecDepth 100000 in
set_option maxHeartbeats 4000000 in
theorem c_X2_stepsAhead (l : Launch) (D : va_G) (cy : Nat → ClassId) (ad : AD) (a_t a_t_steps : Nat) (g_t_0 : Value) (g_t_1 : Value) (g_t_2 : Value) (g_t_4 : Value) (g_t_5 : Value) (g_t_6 : Value) (g_t_7 : Value) (g_t_8 : Value) (g_t_9 : Value) (g_t_10 : Value) (g_t_11 : Value) (g_t_12 : Value) (g_t_13 : Value) (g_t_14 : Value) (g_t_15 : Value) (g_t_16 : Value) (x1 : Int) (c_steps : Int → Int) (F : Nat) {v : Int} (h : m_X2_stepsAhead F x1 c_steps = some v) : Ct l yX2_stepsAhead cX2_stepsAhead 4 (some .int) { frames := 0, cells := 0, slots := 0, locals := 0 } D cy ad [.ref a_t, .int (wI x1)] (W_X2_stepsAhead cy a_t a_t_steps g_t_0 g_t_1 g_t_2 g_t_4 g_t_5 g_t_6 g_t_7 g_t_8 g_t_9 g_t_10 g_t_11 g_t_12 g_t_13 g_t_14 g_t_15 g_t_16 c_steps) (W_X2_stepsAhead cy a_t a_t_steps g_t_0 g_t_1 g_t_2 g_t_4 g_t_5 g_t_6 g_t_7 g_t_8 g_t_9 g_t_10 g_t_11 g_t_12 g_t_13 g_t_14 g_t_15 g_t_16 c_steps) (some (.int (wI v))) := by
  refine Ct.introI (j := 2) (plainFor_of_name (by decide)) rfl rfl (fun E C e1 e2 e3 e4 e5 hret => ?_)
  subst e1; subst e2; subst e3; subst e4
  exact wm_X2_stepsAhead C e5 h hret
-- MovingStair$Layout.allSteps()I
def W_X2_allSteps (cy : Nat → ClassId) (a_t a_t_steps : Nat) (g_t_0 : Value) (g_t_1 : Value) (g_t_4 : Value) (g_t_5 : Value) (g_t_6 : Value) (g_t_7 : Value) (g_t_8 : Value) (g_t_9 : Value) (g_t_10 : Value) (g_t_11 : Value) (g_t_12 : Value) (g_t_13 : Value) (g_t_14 : Value) (g_t_15 : Value) (g_t_16 : Value) (c_parts : Int) (c_steps : Int → Int) : va_W := [(a_t, .inr (2, [g_t_0, g_t_1, .int (wI c_parts), .ref a_t_steps, g_t_4, g_t_5, g_t_6, g_t_7, g_t_8, g_t_9, g_t_10, g_t_11, g_t_12, g_t_13, g_t_14, g_t_15, g_t_16])), (a_t_steps, .inl (cy 1, 4, .inl (aI c_steps)))]
def m_X2_allSteps (F : Nat) (c_parts : Int) (c_steps : Int → Int) : Option (Int) :=
  bnd1 (m_X2_stepsAhead F c_parts c_steps) fun r1 => some r1
section S_X2_allSteps
variable {E : EE} {a_t a_t_steps : Nat} {g_t_0 : Value} {g_t_1 : Value} {g_t_4 : Value} {g_t_5 : Value} {g_t_6 : Value} {g_t_7 : Value} {g_t_8 : Value} {g_t_9 : Value} {g_t_10 : Value} {g_t_11 : Value} {g_t_12 : Value} {g_t_13 : Value} {g_t_14 : Value} {g_t_15 : Value} {g_t_16 : Value}
set_option maxRecDepth 100000 in
set_option maxHeartbeats 4000000 in
theorem wm_X2_allSteps {F : Nat} {v : Int} {c_parts : Int} {c_steps : Int → Int} (C : Cx E cX2_allSteps RX2 { frames := 1, cells := 0, slots := 0, locals := 23 }) (hN : eN E = 1) (h : m_X2_allSteps F c_parts c_steps = some v) (hret : ∀ (pc : Nat) (L : List (Option Value)), decode cX2_allSteps pc = .ok (.ireturn, 1) → GG E 0 0 (W_X2_allSteps (eCy E) a_t a_t_steps g_t_0 g_t_1 g_t_4 g_t_5 g_t_6 g_t_7 g_t_8 g_t_9 g_t_10 g_t_11 g_t_12 g_t_13 g_t_14 g_t_15 g_t_16 c_parts c_steps) L pc [.int (wI v)]) : GG E 0 0 (W_X2_allSteps (eCy E) a_t a_t_steps g_t_0 g_t_1 g_t_4 g_t_5 g_t_6 g_t_7 g_t_8 g_t_9 g_t_10 g_t_11 g_t_12 g_t_13 g_t_14 g_t_15 g_t_16 c_parts c_steps) [some (.ref a_t)] 0 [] := by
  unfold m_X2_allSteps at h
  refine g_aload_n 0 C dX2_allSteps_0 rfl rfl ?_
  refine g_aload_n 0 C dX2_allSteps_1 rfl rfl ?_
  refine g_get C fg_X2_18 0 rfl rfl dX2_allSteps_2 ?_
  refine g_st (st' := [.int (wI c_parts), .ref a_t]) rfl ?_
  obtain ⟨r1, hr2, h⟩ := bnd1_some h
  refine g_callI [0, 1] [] [0, 1] C mt_X2_71 (c_X2_stepsAhead _ _ _ _ a_t a_t_steps (g_t_0) (g_t_1) (.int (wI c_parts)) (g_t_4) (g_t_5) (g_t_6) (g_t_7) (g_t_8) (g_t_9) (g_t_10) (g_t_11) (g_t_12) (g_t_13) (g_t_14) (g_t_15) (g_t_16) c_parts c_steps F hr2) (q0 := 0) rfl (ci := 2) rfl rfl rfl (ws2 := (W_X2_allSteps (eCy E) a_t a_t_steps g_t_0 g_t_1 g_t_4 g_t_5 g_t_6 g_t_7 g_t_8 g_t_9 g_t_10 g_t_11 g_t_12 g_t_13 g_t_14 g_t_15 g_t_16 c_parts c_steps)) rfl rfl rfl (rest := []) rfl rfl rfl dX2_allSteps_5 ?_
  cases h
  exact hret 8 _ dX2_allSteps_8
end S_X2_allSteps
set_option maxRecDepth 100000 in
set_option maxHeartbeats 4000000 in
theorem c_X2_allSteps (l : Launch) (D : va_G) (cy : Nat → ClassId) (ad : AD) (a_t a_t_steps : Nat) (g_t_0 : Value) (g_t_1 : Value) (g_t_4 : Value) (g_t_5 : Value) (g_t_6 : Value) (g_t_7 : Value) (g_t_8 : Value) (g_t_9 : Value) (g_t_10 : Value) (g_t_11 : Value) (g_t_12 : Value) (g_t_13 : Value) (g_t_14 : Value) (g_t_15 : Value) (g_t_16 : Value) (c_parts : Int) (c_steps : Int → Int) (F : Nat) {v : Int} (h : m_X2_allSteps F c_parts c_steps = some v) : Ct l yX2_allSteps cX2_allSteps 1 (some .int) { frames := 1, cells := 0, slots := 0, locals := 23 } D cy ad [.ref a_t] (W_X2_allSteps cy a_t a_t_steps g_t_0 g_t_1 g_t_4 g_t_5 g_t_6 g_t_7 g_t_8 g_t_9 g_t_10 g_t_11 g_t_12 g_t_13 g_t_14 g_t_15 g_t_16 c_parts c_steps) (W_X2_allSteps cy a_t a_t_steps g_t_0 g_t_1 g_t_4 g_t_5 g_t_6 g_t_7 g_t_8 g_t_9 g_t_10 g_t_11 g_t_12 g_t_13 g_t_14 g_t_15 g_t_16 c_parts c_steps) (some (.int (wI v))) := by
  refine Ct.introI (j := 0) (plainFor_of_name (by decide)) rfl rfl (fun E C e1 e2 e3 e4 e5 hret => ?_)
  subst e1; subst e2; subst e3; subst e4
  exact wm_X2_allSteps C e5 h hret
-- MovingStair$Layout.turnRound()V
def W_X2_turnRound (cy : Nat → ClassId) (a_t a_t_speeds : Nat) (g_t_0 : Value) (g_t_1 : Value) (g_t_3 : Value) (g_t_5 : Value) (g_t_6 : Value) (g_t_7 : Value) (g_t_8 : Value) (g_t_9 : Value) (g_t_10 : Value) (g_t_11 : Value) (g_t_12 : Value) (g_t_13 : Value) (g_t_14 : Value) (g_t_15 : Value) (g_t_16 : Value) (c_parts : Int) (c_speeds : Int → Int) : va_W := [(a_t, .inr (2, [g_t_0, g_t_1, .int (wI c_parts), g_t_3, .ref a_t_speeds, g_t_5, g_t_6, g_t_7, g_t_8, g_t_9, g_t_10, g_t_11, g_t_12, g_t_13, g_t_14, g_t_15, g_t_16])), (a_t_speeds, .inl (cy 1, 4, .inl (aI c_speeds)))]
def mb_X2_turnRound_2 (F : Nat) (k2 : Int → (Int → Int) → Option ((Int → Int))) (x1 : Int) (c_parts : Int) (c_speeds : Int → Int) : Option ((Int → Int)) :=
  if wI c_parts ≤ wI x1 then
    (some c_speeds)
  else
    (chk (0 ≤ x1 ∧ x1 < 4) <| nam (-(c_speeds x1)) fun y2 => chk (0 ≤ x1 ∧ x1 < 4) <| k2 (x1 + 1) (up c_speeds x1 y2))
def ml_X2_turnRound_2 (F : Nat) (x1 : Int) (c_parts : Int) (c_speeds : Int → Int) : Option ((Int → Int)) :=
  loopN (fun (k : Int × (Int → Int) → Option ((Int → Int))) q => mb_X2_turnRound_2 F (fun y0 y1 => k (y0, y1)) q.1 c_parts q.2) F (x1, c_speeds)
def m_X2_turnRound (F : Nat) (c_parts : Int) (c_speeds : Int → Int) : Option ((Int → Int)) :=
  ml_X2_turnRound_2 F 0 c_parts c_speeds
section S_X2_turnRound
variable {E : EE} {a_t a_t_speeds : Nat} {g_t_0 : Value} {g_t_1 : Value} {g_t_3 : Value} {g_t_5 : Value} {g_t_6 : Value} {g_t_7 : Value} {g_t_8 : Value} {g_t_9 : Value} {g_t_10 : Value} {g_t_11 : Value} {g_t_12 : Value} {g_t_13 : Value} {g_t_14 : Value} {g_t_15 : Value} {g_t_16 : Value}
set_option maxRecDepth 100000 in
set_option maxHeartbeats 4000000 in
theorem wb_X2_turnRound_2 {F : Nat} {k2 : Int → (Int → Int) → Option ((Int → Int))} {v : (Int → Int)} {x1 : Int} {c_parts : Int} {c_speeds : Int → Int} (C : Cx E cX2_turnRound RX2 { frames := 0, cells := 0, slots := 0, locals := 0 }) (hN : eN E = 2) (h : mb_X2_turnRound_2 F k2 x1 c_parts c_speeds = some v) (hk2 : ∀ (y_x1 : Int) (y_c_speeds : Int → Int), k2 y_x1 y_c_speeds = some v → GG E 0 0 (W_X2_turnRound (eCy E) a_t a_t_speeds g_t_0 g_t_1 g_t_3 g_t_5 g_t_6 g_t_7 g_t_8 g_t_9 g_t_10 g_t_11 g_t_12 g_t_13 g_t_14 g_t_15 g_t_16 c_parts y_c_speeds) [some (.ref a_t), some (.int (wI y_x1))] 2 []) (hret : ∀ (pc : Nat) (L : List (Option Value)), decode cX2_turnRound pc = .ok (.return_, 1) → GG E 0 0 (W_X2_turnRound (eCy E) a_t a_t_speeds g_t_0 g_t_1 g_t_3 g_t_5 g_t_6 g_t_7 g_t_8 g_t_9 g_t_10 g_t_11 g_t_12 g_t_13 g_t_14 g_t_15 g_t_16 c_parts v) L pc []) : GG E 0 0 (W_X2_turnRound (eCy E) a_t a_t_speeds g_t_0 g_t_1 g_t_3 g_t_5 g_t_6 g_t_7 g_t_8 g_t_9 g_t_10 g_t_11 g_t_12 g_t_13 g_t_14 g_t_15 g_t_16 c_parts c_speeds) [some (.ref a_t), some (.int (wI x1))] 2 [] := by
  unfold mb_X2_turnRound_2 at h
  refine g_iload_n 1 C dX2_turnRound_2 rfl rfl ?_
  refine g_aload_n 0 C dX2_turnRound_3 rfl rfl ?_
  refine g_get C fg_X2_18 0 rfl rfl dX2_turnRound_4 ?_
  refine g_st (st' := [.int (wI c_parts), .int (wI x1)]) rfl ?_
  refine g_icmp_ge 29 C dX2_turnRound_7 (by decide) h (fun h => ?_) (fun h => ?_)
  · cases h
    exact hret 29 _ dX2_turnRound_29
  · refine g_aload_n 0 C dX2_turnRound_10 rfl rfl ?_
    refine g_get C fg_X2_25 0 rfl rfl dX2_turnRound_11 ?_
    refine g_iload_n 1 C dX2_turnRound_14 rfl rfl ?_
    refine g_aload_n 0 C dX2_turnRound_15 rfl rfl ?_
    refine g_get C fg_X2_25 0 rfl rfl dX2_turnRound_16 ?_
    refine g_iload_n 1 C dX2_turnRound_19 rfl rfl ?_
    obtain ⟨hc1, h⟩ := chk_some h
    refine g_iald C 1 rfl hc1 rfl dX2_turnRound_20 ?_
    refine g_ineg C dX2_turnRound_21 ?_
    obtain ⟨y2, e_y2, h⟩ := nam_some h
    refine g_topI e_y2 ?_
    obtain ⟨hc3, h⟩ := chk_some h
    refine g_iast C 1 rfl hc3 rfl (ws' := (W_X2_turnRound (eCy E) a_t a_t_speeds g_t_0 g_t_1 g_t_3 g_t_5 g_t_6 g_t_7 g_t_8 g_t_9 g_t_10 g_t_11 g_t_12 g_t_13 g_t_14 g_t_15 g_t_16 c_parts (up c_speeds x1 y2))) rfl dX2_turnRound_22 ?_
    refine g_iinc C hN dX2_turnRound_23 rfl rfl (L' := [some (.ref a_t), some (.int (wI (x1 + 1)))]) rfl ?_
    refine g_goto (tgt := 2) C dX2_turnRound_26 (by decide) ?_
    exact hk2 _ _ h
set_option maxRecDepth 100000 in
set_option maxHeartbeats 4000000 in
theorem wl_X2_turnRound_2 {F : Nat} {v : (Int → Int)} {x1 : Int} {c_parts : Int} {c_speeds : Int → Int} (C : Cx E cX2_turnRound RX2 { frames := 0, cells := 0, slots := 0, locals := 0 }) (hN : eN E = 2) (h : ml_X2_turnRound_2 F x1 c_parts c_speeds = some v) (hret : ∀ (pc : Nat) (L : List (Option Value)), decode cX2_turnRound pc = .ok (.return_, 1) → GG E 0 0 (W_X2_turnRound (eCy E) a_t a_t_speeds g_t_0 g_t_1 g_t_3 g_t_5 g_t_6 g_t_7 g_t_8 g_t_9 g_t_10 g_t_11 g_t_12 g_t_13 g_t_14 g_t_15 g_t_16 c_parts v) L pc []) : GG E 0 0 (W_X2_turnRound (eCy E) a_t a_t_speeds g_t_0 g_t_1 g_t_3 g_t_5 g_t_6 g_t_7 g_t_8 g_t_9 g_t_10 g_t_11 g_t_12 g_t_13 g_t_14 g_t_15 g_t_16 c_parts c_speeds) [some (.ref a_t), some (.int (wI x1))] 2 [] := by
  unfold ml_X2_turnRound_2 at h
  exact loop_walk (g := fun (q : Int × (Int → Int)) => GG E 0 0 (W_X2_turnRound (eCy E) a_t a_t_speeds g_t_0 g_t_1 g_t_3 g_t_5 g_t_6 g_t_7 g_t_8 g_t_9 g_t_10 g_t_11 g_t_12 g_t_13 g_t_14 g_t_15 g_t_16 c_parts (q.2)) [some (.ref a_t), some (.int (wI (q.1)))] 2 []) (fun k hk q h => wb_X2_turnRound_2 C hN h (fun y0 y1 hh => hk (y0, y1) hh) hret) F (x1, c_speeds) h
set_option maxRecDepth 100000 in
set_option maxHeartbeats 4000000 in
theorem wm_X2_turnRound {F : Nat} {v : (Int → Int)} {c_parts : Int} {c_speeds : Int → Int} (C : Cx E cX2_turnRound RX2 { frames := 0, cells := 0, slots := 0, locals := 0 }) (hN : eN E = 2) (h : m_X2_turnRound F c_parts c_speeds = some v) (hret : ∀ (pc : Nat) (L : List (Option Value)), decode cX2_turnRound pc = .ok (.return_, 1) → GG E 0 0 (W_X2_turnRound (eCy E) a_t a_t_speeds g_t_0 g_t_1 g_t_3 g_t_5 g_t_6 g_t_7 g_t_8 g_t_9 g_t_10 g_t_11 g_t_12 g_t_13 g_t_14 g_t_15 g_t_16 c_parts v) L pc []) : GG E 0 0 (W_X2_turnRound (eCy E) a_t a_t_speeds g_t_0 g_t_1 g_t_3 g_t_5 g_t_6 g_t_7 g_t_8 g_t_9 g_t_10 g_t_11 g_t_12 g_t_13 g_t_14 g_t_15 g_t_16 c_parts c_speeds) [some (.ref a_t), none] 0 [] := by
  unfold m_X2_turnRound at h
  refine g_iconst C dX2_turnRound_0 ?_
  refine g_istore_n 1 C hN dX2_turnRound_1 rfl rfl (L' := [some (.ref a_t), some (.int (wI 0))]) rfl ?_
  exact wl_X2_turnRound_2 C hN h hret
end S_X2_turnRound
set_option maxRecDepth 100000 in
set_option maxHeartbeats 4000000 in
theorem c_X2_turnRound (l : Launch) (D : va_G) (cy : Nat → ClassId) (ad : AD) (a_t a_t_speeds : Nat) (g_t_0 : Value) (g_t_1 : Value) (g_t_3 : Value) (g_t_5 : Value) (g_t_6 : Value) (g_t_7 : Value) (g_t_8 : Value) (g_t_9 : Value) (g_t_10 : Value) (g_t_11 : Value) (g_t_12 : Value) (g_t_13 : Value) (g_t_14 : Value) (g_t_15 : Value) (g_t_16 : Value) (c_parts : Int) (c_speeds : Int → Int) (F : Nat) {v : (Int → Int)} (h : m_X2_turnRound F c_parts c_speeds = some v) : Ct l yX2_turnRound cX2_turnRound 2 none { frames := 0, cells := 0, slots := 0, locals := 0 } D cy ad [.ref a_t] (W_X2_turnRound cy a_t a_t_speeds g_t_0 g_t_1 g_t_3 g_t_5 g_t_6 g_t_7 g_t_8 g_t_9 g_t_10 g_t_11 g_t_12 g_t_13 g_t_14 g_t_15 g_t_16 c_parts c_speeds) (W_X2_turnRound cy a_t a_t_speeds g_t_0 g_t_1 g_t_3 g_t_5 g_t_6 g_t_7 g_t_8 g_t_9 g_t_10 g_t_11 g_t_12 g_t_13 g_t_14 g_t_15 g_t_16 c_parts v) none := by
  refine Ct.introV (j := 1) (plainFor_of_name (by decide)) rfl rfl (fun E C e1 e2 e3 e4 e5 hret => ?_)
  subst e1; subst e2; subst e3; subst e4
  exact wm_X2_turnRound C e5 h hret
-- MovingStair$Layout.noteAct(II)V
def W_X2_noteAct (cy : Nat → ClassId) (a_t a_t_actParts a_t_actSpeeds : Nat) (g_t_0 : Value) (g_t_1 : Value) (g_t_2 : Value) (g_t_3 : Value) (g_t_4 : Value) (g_t_5 : Value) (g_t_6 : Value) (g_t_7 : Value) (g_t_8 : Value) (g_t_9 : Value) (g_t_10 : Value) (g_t_11 : Value) (g_t_12 : Value) (g_t_13 : Value) (c_acts : Int) (c_actParts : Int → Int) (c_actSpeeds : Int → Int) : va_W := [(a_t, .inr (2, [g_t_0, g_t_1, g_t_2, g_t_3, g_t_4, g_t_5, g_t_6, g_t_7, g_t_8, g_t_9, g_t_10, g_t_11, g_t_12, g_t_13, .int (wI c_acts), .ref a_t_actParts, .ref a_t_actSpeeds])), (a_t_actParts, .inl (cy 1, 60, .inl (aI c_actParts))), (a_t_actSpeeds, .inl (cy 1, 60, .inl (aI c_actSpeeds)))]
def m_X2_noteAct (F : Nat) (x1 : Int) (x2 : Int) (c_acts : Int) (c_actParts : Int → Int) (c_actSpeeds : Int → Int) : Option (Int × (Int → Int) × (Int → Int)) :=
  if wI c_acts < wI 60 then
    (chk (0 ≤ c_acts ∧ c_acts < 60) <| chk (0 ≤ c_acts ∧ c_acts < 60) <| nam (c_acts + 1) fun y3 => some (y3, up c_actParts c_acts x1, up c_actSpeeds c_acts x2))
  else
    (some (c_acts, c_actParts, c_actSpeeds))
section S_X2_noteAct
variable {E : EE} {a_t a_t_actParts a_t_actSpeeds : Nat} {g_t_0 : Value} {g_t_1 : Value} {g_t_2 : Value} {g_t_3 : Value} {g_t_4 : Value} {g_t_5 : Value} {g_t_6 : Value} {g_t_7 : Value} {g_t_8 : Value} {g_t_9 : Value} {g_t_10 : Value} {g_t_11 : Value} {g_t_12 : Value} {g_t_13 : Value}
set_option maxRecDepth 100000 in
set_option maxHeartbeats 4000000 in
theorem wm_X2_noteAct {F : Nat} {v : Int × (Int → Int) × (Int → Int)} {x1 : Int} {x2 : Int} {c_acts : Int} {c_actParts : Int → Int} {c_actSpeeds : Int → Int} (C : Cx E cX2_noteAct RX2 { frames := 0, cells := 0, slots := 0, locals := 0 }) (hN : eN E = 3) (h : m_X2_noteAct F x1 x2 c_acts c_actParts c_actSpeeds = some v) (hret : ∀ (pc : Nat) (L : List (Option Value)), decode cX2_noteAct pc = .ok (.return_, 1) → GG E 0 0 (W_X2_noteAct (eCy E) a_t a_t_actParts a_t_actSpeeds g_t_0 g_t_1 g_t_2 g_t_3 g_t_4 g_t_5 g_t_6 g_t_7 g_t_8 g_t_9 g_t_10 g_t_11 g_t_12 g_t_13 (v.1) (v.2.1) (v.2.2)) L pc []) : GG E 0 0 (W_X2_noteAct (eCy E) a_t a_t_actParts a_t_actSpeeds g_t_0 g_t_1 g_t_2 g_t_3 g_t_4 g_t_5 g_t_6 g_t_7 g_t_8 g_t_9 g_t_10 g_t_11 g_t_12 g_t_13 c_acts c_actParts c_actSpeeds) [some (.ref a_t), some (.int (wI x1)), some (.int (wI x2))] 0 [] := by
  unfold m_X2_noteAct at h
  refine g_aload_n 0 C dX2_noteAct_0 rfl rfl ?_
  refine g_get C fg_X2_56 0 rfl rfl dX2_noteAct_1 ?_
  refine g_st (st' := [.int (wI c_acts)]) rfl ?_
  refine g_bipush C dX2_noteAct_4 (by decide) ?_
  refine g_icmp_lt 10 C dX2_noteAct_6 (by decide) h (fun h => ?_) (fun h => ?_)
  · refine g_aload_n 0 C dX2_noteAct_10 rfl rfl ?_
    refine g_get C fg_X2_59 0 rfl rfl dX2_noteAct_11 ?_
    refine g_aload_n 0 C dX2_noteAct_14 rfl rfl ?_
    refine g_get C fg_X2_56 0 rfl rfl dX2_noteAct_15 ?_
    refine g_st (st' := [.int (wI c_acts), .ref a_t_actParts]) rfl ?_
    refine g_iload_n 1 C dX2_noteAct_18 rfl rfl ?_
    obtain ⟨hc1, h⟩ := chk_some h
    refine g_iast C 1 rfl hc1 rfl (ws' := (W_X2_noteAct (eCy E) a_t a_t_actParts a_t_actSpeeds g_t_0 g_t_1 g_t_2 g_t_3 g_t_4 g_t_5 g_t_6 g_t_7 g_t_8 g_t_9 g_t_10 g_t_11 g_t_12 g_t_13 c_acts (up c_actParts c_acts x1) c_actSpeeds)) rfl dX2_noteAct_19 ?_
    refine g_aload_n 0 C dX2_noteAct_20 rfl rfl ?_
    refine g_get C fg_X2_62 0 rfl rfl dX2_noteAct_21 ?_
    refine g_aload_n 0 C dX2_noteAct_24 rfl rfl ?_
    refine g_get C fg_X2_56 0 rfl rfl dX2_noteAct_25 ?_
    refine g_st (st' := [.int (wI c_acts), .ref a_t_actSpeeds]) rfl ?_
    refine g_iload_n 2 C dX2_noteAct_28 rfl rfl ?_
    obtain ⟨hc2, h⟩ := chk_some h
    refine g_iast C 2 rfl hc2 rfl (ws' := (W_X2_noteAct (eCy E) a_t a_t_actParts a_t_actSpeeds g_t_0 g_t_1 g_t_2 g_t_3 g_t_4 g_t_5 g_t_6 g_t_7 g_t_8 g_t_9 g_t_10 g_t_11 g_t_12 g_t_13 c_acts (up c_actParts c_acts x1) (up c_actSpeeds c_acts x2))) rfl dX2_noteAct_29 ?_
    refine g_aload_n 0 C dX2_noteAct_30 rfl rfl ?_
    refine g_dup C dX2_noteAct_31 rfl ?_
    refine g_get C fg_X2_56 0 rfl rfl dX2_noteAct_32 ?_
    refine g_st (st' := [.int (wI c_acts), .ref a_t]) rfl ?_
    refine g_iconst C dX2_noteAct_35 ?_
    refine g_iadd C dX2_noteAct_36 ?_
    obtain ⟨y3, e_y3, h⟩ := nam_some h
    refine g_topI e_y3 ?_
    refine g_putI C fp_X2_56 0 rfl rfl (ws' := (W_X2_noteAct (eCy E) a_t a_t_actParts a_t_actSpeeds g_t_0 g_t_1 g_t_2 g_t_3 g_t_4 g_t_5 g_t_6 g_t_7 g_t_8 g_t_9 g_t_10 g_t_11 g_t_12 g_t_13 y3 (up c_actParts c_acts x1) (up c_actSpeeds c_acts x2))) rfl dX2_noteAct_37 ?_
    cases h
    exact hret 40 _ dX2_noteAct_40
  · cases h
    exact hret 9 _ dX2_noteAct_9
end S_X2_noteAct
set_option maxRecDepth 100000 in
set_option maxHeartbeats 4000000 in
theorem c_X2_noteAct (l : Launch) (D : va_G) (cy : Nat → ClassId) (ad : AD) (a_t a_t_actParts a_t_actSpeeds : Nat) (g_t_0 : Value) (g_t_1 : Value) (g_t_2 : Value) (g_t_3 : Value) (g_t_4 : Value) (g_t_5 : Value) (g_t_6 : Value) (g_t_7 : Value) (g_t_8 : Value) (g_t_9 : Value) (g_t_10 : Value) (g_t_11 : Value) (g_t_12 : Value) (g_t_13 : Value) (x1 : Int) (x2 : Int) (c_acts : Int) (c_actParts : Int → Int) (c_actSpeeds : Int → Int) (F : Nat) {v : Int × (Int → Int) × (Int → Int)} (h : m_X2_noteAct F x1 x2 c_acts c_actParts c_actSpeeds = some v) : Ct l yX2_noteAct cX2_noteAct 3 none { frames := 0, cells := 0, slots := 0, locals := 0 } D cy ad [.ref a_t, .int (wI x1), .int (wI x2)] (W_X2_noteAct cy a_t a_t_actParts a_t_actSpeeds g_t_0 g_t_1 g_t_2 g_t_3 g_t_4 g_t_5 g_t_6 g_t_7 g_t_8 g_t_9 g_t_10 g_t_11 g_t_12 g_t_13 c_acts c_actParts c_actSpeeds) (W_X2_noteAct cy a_t a_t_actParts a_t_actSpeeds g_t_0 g_t_1 g_t_2 g_t_3 g_t_4 g_t_5 g_t_6 g_t_7 g_t_8 g_t_9 g_t_10 g_t_11 g_t_12 g_t_13 (v.1) (v.2.1) (v.2.2)) none := by
  refine Ct.introV (j := 0) (plainFor_of_name (by decide)) rfl rfl (fun E C e1 e2 e3 e4 e5 hret => ?_)
  subst e1; subst e2; subst e3; subst e4
  exact wm_X2_noteAct C e5 h hret
-- MovingStair$Layout.takeBackAct()V
def W_X2_takeBackAct (cy : Nat → ClassId) (a_t a_t_actParts a_t_actSpeeds a_t_speeds : Nat) (g_t_0 : Value) (g_t_1 : Value) (g_t_3 : Value) (g_t_5 : Value) (g_t_6 : Value) (g_t_7 : Value) (g_t_8 : Value) (g_t_9 : Value) (g_t_10 : Value) (g_t_11 : Value) (g_t_12 : Value) (g_t_13 : Value) (c_parts : Int) (c_acts : Int) (c_actParts : Int → Int) (c_actSpeeds : Int → Int) (c_speeds : Int → Int) : va_W := [(a_t, .inr (2, [g_t_0, g_t_1, .int (wI c_parts), g_t_3, .ref a_t_speeds, g_t_5, g_t_6, g_t_7, g_t_8, g_t_9, g_t_10, g_t_11, g_t_12, g_t_13, .int (wI c_acts), .ref a_t_actParts, .ref a_t_actSpeeds])), (a_t_actParts, .inl (cy 1, 60, .inl (aI c_actParts))), (a_t_actSpeeds, .inl (cy 1, 60, .inl (aI c_actSpeeds))), (a_t_speeds, .inl (cy 1, 4, .inl (aI c_speeds)))]
def m_X2_takeBackAct (F : Nat) (c_parts : Int) (c_acts : Int) (c_actParts : Int → Int) (c_actSpeeds : Int → Int) (c_speeds : Int → Int) : Option (Int × (Int → Int)) :=
  if wI 0 < wI c_acts then
    (nam (c_acts - 1) fun y1 => chk (0 ≤ y1 ∧ y1 < 60) <| bnd1 (m_X2_hasPart F (c_actParts y1) c_parts) fun r3 => if wI r3 = wI 0 then
    (bnd1 (m_X2_turnRound F c_parts c_speeds) fun o5 => some (y1, o5))
  else
    (chk (0 ≤ y1 ∧ y1 < 60) <| chk (0 ≤ y1 ∧ y1 < 60) <| nam (c_actSpeeds y1) fun y7 => chk (0 ≤ (c_actParts y1) ∧ (c_actParts y1) < 4) <| some (y1, up c_speeds (c_actParts y1) y7)))
  else
    (some (c_acts, c_speeds))
section S_X2_takeBackAct
variable {E : EE} {a_t a_t_actParts a_t_actSpeeds a_t_speeds : Nat} {g_t_0 : Value} {g_t_1 : Value} {g_t_3 : Value} {g_t_5 : Value} {g_t_6 : Value} {g_t_7 : Value} {g_t_8 : Value} {g_t_9 : Value} {g_t_10 : Value} {g_t_11 : Value} {g_t_12 : Value} {g_t_13 : Value}
set_option maxRecDepth 100000 in
set_option maxHeartbeats 4000000 in
theorem wm_X2_takeBackAct {F : Nat} {v : Int × (Int → Int)} {c_parts : Int} {c_acts : Int} {c_actParts : Int → Int} {c_actSpeeds : Int → Int} {c_speeds : Int → Int} (C : Cx E cX2_takeBackAct RX2 { frames := 1, cells := 0, slots := 0, locals := 21 }) (hN : eN E = 1) (h : m_X2_takeBackAct F c_parts c_acts c_actParts c_actSpeeds c_speeds = some v) (hret : ∀ (pc : Nat) (L : List (Option Value)), decode cX2_takeBackAct pc = .ok (.return_, 1) → GG E 0 0 (W_X2_takeBackAct (eCy E) a_t a_t_actParts a_t_actSpeeds a_t_speeds g_t_0 g_t_1 g_t_3 g_t_5 g_t_6 g_t_7 g_t_8 g_t_9 g_t_10 g_t_11 g_t_12 g_t_13 c_parts (v.1) c_actParts c_actSpeeds (v.2)) L pc []) : GG E 0 0 (W_X2_takeBackAct (eCy E) a_t a_t_actParts a_t_actSpeeds a_t_speeds g_t_0 g_t_1 g_t_3 g_t_5 g_t_6 g_t_7 g_t_8 g_t_9 g_t_10 g_t_11 g_t_12 g_t_13 c_parts c_acts c_actParts c_actSpeeds c_speeds) [some (.ref a_t)] 0 [] := by
  unfold m_X2_takeBackAct at h
  refine g_aload_n 0 C dX2_takeBackAct_0 rfl rfl ?_
  refine g_get C fg_X2_56 0 rfl rfl dX2_takeBackAct_1 ?_
  refine g_st (st' := [.int (wI c_acts)]) rfl ?_
  refine g_if_gt 8 C dX2_takeBackAct_4 (by decide) h (fun h => ?_) (fun h => ?_)
  · refine g_aload_n 0 C dX2_takeBackAct_8 rfl rfl ?_
    refine g_dup C dX2_takeBackAct_9 rfl ?_
    refine g_get C fg_X2_56 0 rfl rfl dX2_takeBackAct_10 ?_
    refine g_st (st' := [.int (wI c_acts), .ref a_t]) rfl ?_
    refine g_iconst C dX2_takeBackAct_13 ?_
    refine g_isub C dX2_takeBackAct_14 ?_
    obtain ⟨y1, e_y1, h⟩ := nam_some h
    refine g_topI e_y1 ?_
    refine g_putI C fp_X2_56 0 rfl rfl (ws' := (W_X2_takeBackAct (eCy E) a_t a_t_actParts a_t_actSpeeds a_t_speeds g_t_0 g_t_1 g_t_3 g_t_5 g_t_6 g_t_7 g_t_8 g_t_9 g_t_10 g_t_11 g_t_12 g_t_13 c_parts y1 c_actParts c_actSpeeds c_speeds)) rfl dX2_takeBackAct_15 ?_
    refine g_aload_n 0 C dX2_takeBackAct_18 rfl rfl ?_
    refine g_aload_n 0 C dX2_takeBackAct_19 rfl rfl ?_
    refine g_get C fg_X2_59 0 rfl rfl dX2_takeBackAct_20 ?_
    refine g_aload_n 0 C dX2_takeBackAct_23 rfl rfl ?_
    refine g_get C fg_X2_56 0 rfl rfl dX2_takeBackAct_24 ?_
    refine g_st (st' := [.int (wI y1), .ref a_t_actParts, .ref a_t]) rfl ?_
    obtain ⟨hc2, h⟩ := chk_some h
    refine g_iald C 1 rfl hc2 rfl dX2_takeBackAct_27 ?_
    obtain ⟨r3, hr4, h⟩ := bnd1_some h
    refine g_callI [0] [1, 2, 3] [3, 0, 1, 2] C mt_X2_75 (c_X2_hasPart _ _ _ _ a_t (g_t_0) (g_t_1) (g_t_3) (.ref a_t_speeds) (g_t_5) (g_t_6) (g_t_7) (g_t_8) (g_t_9) (g_t_10) (g_t_11) (g_t_12) (g_t_13) (.int (wI y1)) (.ref a_t_actParts) (.ref a_t_actSpeeds) (c_actParts y1) c_parts F hr4) (q0 := 0) rfl (ci := 2) rfl rfl rfl (ws2 := (W_X2_takeBackAct (eCy E) a_t a_t_actParts a_t_actSpeeds a_t_speeds g_t_0 g_t_1 g_t_3 g_t_5 g_t_6 g_t_7 g_t_8 g_t_9 g_t_10 g_t_11 g_t_12 g_t_13 c_parts y1 c_actParts c_actSpeeds c_speeds)) rfl rfl rfl (rest := []) rfl rfl rfl dX2_takeBackAct_28 ?_
    refine g_if_eq 60 C dX2_takeBackAct_31 (by decide) h (fun h => ?_) (fun h => ?_)
    · refine g_aload_n 0 C dX2_takeBackAct_60 rfl rfl ?_
      obtain ⟨o5, hr6, h⟩ := bnd1_some h
      refine g_callV [0, 3] [1, 2] [2, 0, 1, 3] C mt_X2_79 (c_X2_turnRound _ _ _ _ a_t a_t_speeds (g_t_0) (g_t_1) (g_t_3) (g_t_5) (g_t_6) (g_t_7) (g_t_8) (g_t_9) (g_t_10) (g_t_11) (g_t_12) (g_t_13) (.int (wI y1)) (.ref a_t_actParts) (.ref a_t_actSpeeds) c_parts c_speeds F hr6) (q0 := 0) rfl (ci := 2) rfl rfl rfl (ws2 := (W_X2_takeBackAct (eCy E) a_t a_t_actParts a_t_actSpeeds a_t_speeds g_t_0 g_t_1 g_t_3 g_t_5 g_t_6 g_t_7 g_t_8 g_t_9 g_t_10 g_t_11 g_t_12 g_t_13 c_parts y1 c_actParts c_actSpeeds o5)) rfl rfl rfl (rest := []) rfl rfl rfl dX2_takeBackAct_61 ?_
      cases h
      exact hret 64 _ dX2_takeBackAct_64
    · refine g_aload_n 0 C dX2_takeBackAct_34 rfl rfl ?_
      refine g_get C fg_X2_25 0 rfl rfl dX2_takeBackAct_35 ?_
      refine g_aload_n 0 C dX2_takeBackAct_38 rfl rfl ?_
      refine g_get C fg_X2_59 0 rfl rfl dX2_takeBackAct_39 ?_
      refine g_aload_n 0 C dX2_takeBackAct_42 rfl rfl ?_
      refine g_get C fg_X2_56 0 rfl rfl dX2_takeBackAct_43 ?_
      refine g_st (st' := [.int (wI y1), .ref a_t_actParts, .ref a_t_speeds]) rfl ?_
      obtain ⟨hc5, h⟩ := chk_some h
      refine g_iald C 1 rfl hc5 rfl dX2_takeBackAct_46 ?_
      refine g_aload_n 0 C dX2_takeBackAct_47 rfl rfl ?_
      refine g_get C fg_X2_62 0 rfl rfl dX2_takeBackAct_48 ?_
      refine g_aload_n 0 C dX2_takeBackAct_51 rfl rfl ?_
      refine g_get C fg_X2_56 0 rfl rfl dX2_takeBackAct_52 ?_
      refine g_st (st' := [.int (wI y1), .ref a_t_actSpeeds, .int (wI (c_actParts y1)), .ref a_t_speeds]) rfl ?_
      obtain ⟨hc6, h⟩ := chk_some h
      refine g_iald C 2 rfl hc6 rfl dX2_takeBackAct_55 ?_
      obtain ⟨y7, e_y7, h⟩ := nam_some h
      refine g_topI e_y7 ?_
      obtain ⟨hc8, h⟩ := chk_some h
      refine g_iast C 3 rfl hc8 rfl (ws' := (W_X2_takeBackAct (eCy E) a_t a_t_actParts a_t_actSpeeds a_t_speeds g_t_0 g_t_1 g_t_3 g_t_5 g_t_6 g_t_7 g_t_8 g_t_9 g_t_10 g_t_11 g_t_12 g_t_13 c_parts y1 c_actParts c_actSpeeds (up c_speeds (c_actParts y1) y7))) rfl dX2_takeBackAct_56 ?_
      refine g_goto (tgt := 64) C dX2_takeBackAct_57 (by decide) ?_
      cases h
      exact hret 64 _ dX2_takeBackAct_64
  · cases h
    exact hret 7 _ dX2_takeBackAct_7
end S_X2_takeBackAct
set_option maxRecDepth 100000 in
set_option maxHeartbeats 4000000 in
theorem c_X2_takeBackAct (l : Launch) (D : va_G) (cy : Nat → ClassId) (ad : AD) (a_t a_t_actParts a_t_actSpeeds a_t_speeds : Nat) (g_t_0 : Value) (g_t_1 : Value) (g_t_3 : Value) (g_t_5 : Value) (g_t_6 : Value) (g_t_7 : Value) (g_t_8 : Value) (g_t_9 : Value) (g_t_10 : Value) (g_t_11 : Value) (g_t_12 : Value) (g_t_13 : Value) (c_parts : Int) (c_acts : Int) (c_actParts : Int → Int) (c_actSpeeds : Int → Int) (c_speeds : Int → Int) (F : Nat) {v : Int × (Int → Int)} (h : m_X2_takeBackAct F c_parts c_acts c_actParts c_actSpeeds c_speeds = some v) : Ct l yX2_takeBackAct cX2_takeBackAct 1 none { frames := 1, cells := 0, slots := 0, locals := 21 } D cy ad [.ref a_t] (W_X2_takeBackAct cy a_t a_t_actParts a_t_actSpeeds a_t_speeds g_t_0 g_t_1 g_t_3 g_t_5 g_t_6 g_t_7 g_t_8 g_t_9 g_t_10 g_t_11 g_t_12 g_t_13 c_parts c_acts c_actParts c_actSpeeds c_speeds) (W_X2_takeBackAct cy a_t a_t_actParts a_t_actSpeeds a_t_speeds g_t_0 g_t_1 g_t_3 g_t_5 g_t_6 g_t_7 g_t_8 g_t_9 g_t_10 g_t_11 g_t_12 g_t_13 c_parts (v.1) c_actParts c_actSpeeds (v.2)) none := by
  refine Ct.introV (j := 0) (plainFor_of_name (by decide)) rfl rfl (fun E C e1 e2 e3 e4 e5 hret => ?_)
  subst e1; subst e2; subst e3; subst e4
  exact wm_X2_takeBackAct C e5 h hret
-- MovingStair$Layout.putStanding(ILMovingStair$Fraction;)V
def W_X2_putStanding (cy : Nat → ClassId) (a_t a_p2 a_t_speeds : Nat) (g_t_0 : Value) (g_t_1 : Value) (g_t_2 : Value) (g_t_3 : Value) (g_t_5 : Value) (g_t_6 : Value) (g_t_7 : Value) (g_t_8 : Value) (g_t_9 : Value) (g_t_11 : Value) (g_t_12 : Value) (g_t_13 : Value) (g_t_14 : Value) (g_t_15 : Value) (g_t_16 : Value) (c_sideStand : Int) (c_p2_above : Int) (c_p2_below : Int) (c_speeds : Int → Int) : va_W := [(a_t, .inr (2, [g_t_0, g_t_1, g_t_2, g_t_3, .ref a_t_speeds, g_t_5, g_t_6, g_t_7, g_t_8, g_t_9, .int (wI c_sideStand), g_t_11, g_t_12, g_t_13, g_t_14, g_t_15, g_t_16])), (a_p2, .inr (1, [.long (wJ c_p2_above), .long (wJ c_p2_below)])), (a_t_speeds, .inl (cy 1, 4, .inl (aI c_speeds)))]
def m_X2_putStanding (F : Nat) (x1 : Int) (c_sideStand : Int) (c_speeds : Int → Int) : Option (Int × Int) :=
  chk (0 ≤ x1 ∧ x1 < 4) <| chk (r32 (c_speeds x1)) <| chk (r32 c_sideStand) <| bnd2 (m_X1_put F (2 * (c_speeds x1)) c_sideStand) fun o4 o5 => some (o4, o5)
section S_X2_putStanding
variable {E : EE} {a_t a_p2 a_t_speeds : Nat} {g_t_0 : Value} {g_t_1 : Value} {g_t_2 : Value} {g_t_3 : Value} {g_t_5 : Value} {g_t_6 : Value} {g_t_7 : Value} {g_t_8 : Value} {g_t_9 : Value} {g_t_11 : Value} {g_t_12 : Value} {g_t_13 : Value} {g_t_14 : Value} {g_t_15 : Value} {g_t_16 : Value}
set_option maxRecDepth 100000 in
set_option maxHeartbeats 4000000 in
theorem wm_X2_putStanding {F : Nat} {v : Int × Int} {x1 : Int} {c_sideStand : Int} {c_speeds : Int → Int} {c_p2_above : Int} {c_p2_below : Int} (C : Cx E cX2_putStanding RX2 { frames := 1, cells := 0, slots := 0, locals := 31 }) (hN : eN E = 3) (h : m_X2_putStanding F x1 c_sideStand c_speeds = some v) (hret : ∀ (pc : Nat) (L : List (Option Value)), decode cX2_putStanding pc = .ok (.return_, 1) → GG E 0 0 (W_X2_putStanding (eCy E) a_t a_p2 a_t_speeds g_t_0 g_t_1 g_t_2 g_t_3 g_t_5 g_t_6 g_t_7 g_t_8 g_t_9 g_t_11 g_t_12 g_t_13 g_t_14 g_t_15 g_t_16 c_sideStand (v.1) (v.2) c_speeds) L pc []) : GG E 0 0 (W_X2_putStanding (eCy E) a_t a_p2 a_t_speeds g_t_0 g_t_1 g_t_2 g_t_3 g_t_5 g_t_6 g_t_7 g_t_8 g_t_9 g_t_11 g_t_12 g_t_13 g_t_14 g_t_15 g_t_16 c_sideStand c_p2_above c_p2_below c_speeds) [some (.ref a_t), some (.int (wI x1)), some (.ref a_p2)] 0 [] := by
  unfold m_X2_putStanding at h
  refine g_aload_n 2 C dX2_putStanding_0 rfl rfl ?_
  refine g_ldc2 (v := 2) C mc_X2_82 dX2_putStanding_1 ?_
  refine g_aload_n 0 C dX2_putStanding_4 rfl rfl ?_
  refine g_get C fg_X2_25 0 rfl rfl dX2_putStanding_5 ?_
  refine g_iload_n 1 C dX2_putStanding_8 rfl rfl ?_
  obtain ⟨hc1, h⟩ := chk_some h
  refine g_iald C 2 rfl hc1 rfl dX2_putStanding_9 ?_
  obtain ⟨hc2, h⟩ := chk_some h
  refine g_i2l C dX2_putStanding_10 hc2 ?_
  refine g_lmul C dX2_putStanding_11 ?_
  refine g_aload_n 0 C dX2_putStanding_12 rfl rfl ?_
  refine g_get C fg_X2_44 0 rfl rfl dX2_putStanding_13 ?_
  refine g_st (st' := [.int (wI c_sideStand), .long (wJ (2 * (c_speeds x1))), .ref a_p2]) rfl ?_
  obtain ⟨hc3, h⟩ := chk_some h
  refine g_i2l C dX2_putStanding_16 hc3 ?_
  obtain ⟨o4, o5, hr6, h⟩ := bnd2_some h
  refine g_callV [1] [0, 2] [0, 2, 1] C mt_X2_84 (c_X1_put _ _ _ _ a_p2 (2 * (c_speeds x1)) c_sideStand c_p2_above c_p2_below F hr6) (q0 := 0) rfl (ci := 1) rfl rfl rfl (ws2 := (W_X2_putStanding (eCy E) a_t a_p2 a_t_speeds g_t_0 g_t_1 g_t_2 g_t_3 g_t_5 g_t_6 g_t_7 g_t_8 g_t_9 g_t_11 g_t_12 g_t_13 g_t_14 g_t_15 g_t_16 c_sideStand o4 o5 c_speeds)) rfl rfl rfl (rest := []) rfl rfl rfl dX2_putStanding_17 ?_
  cases h
  exact hret 20 _ dX2_putStanding_20
end S_X2_putStanding
set_option maxRecDepth 100000 in
set_option maxHeartbeats 4000000 in
theorem c_X2_putStanding (l : Launch) (D : va_G) (cy : Nat → ClassId) (ad : AD) (a_t a_p2 a_t_speeds : Nat) (g_t_0 : Value) (g_t_1 : Value) (g_t_2 : Value) (g_t_3 : Value) (g_t_5 : Value) (g_t_6 : Value) (g_t_7 : Value) (g_t_8 : Value) (g_t_9 : Value) (g_t_11 : Value) (g_t_12 : Value) (g_t_13 : Value) (g_t_14 : Value) (g_t_15 : Value) (g_t_16 : Value) (x1 : Int) (c_sideStand : Int) (c_p2_above : Int) (c_p2_below : Int) (c_speeds : Int → Int) (F : Nat) {v : Int × Int} (h : m_X2_putStanding F x1 c_sideStand c_speeds = some v) : Ct l yX2_putStanding cX2_putStanding 3 none { frames := 1, cells := 0, slots := 0, locals := 31 } D cy ad [.ref a_t, .int (wI x1), .ref a_p2] (W_X2_putStanding cy a_t a_p2 a_t_speeds g_t_0 g_t_1 g_t_2 g_t_3 g_t_5 g_t_6 g_t_7 g_t_8 g_t_9 g_t_11 g_t_12 g_t_13 g_t_14 g_t_15 g_t_16 c_sideStand c_p2_above c_p2_below c_speeds) (W_X2_putStanding cy a_t a_p2 a_t_speeds g_t_0 g_t_1 g_t_2 g_t_3 g_t_5 g_t_6 g_t_7 g_t_8 g_t_9 g_t_11 g_t_12 g_t_13 g_t_14 g_t_15 g_t_16 c_sideStand (v.1) (v.2) c_speeds) none := by
  refine Ct.introV (j := 0) (plainFor_of_name (by decide)) rfl rfl (fun E C e1 e2 e3 e4 e5 hret => ?_)
  subst e1; subst e2; subst e3; subst e4
  exact wm_X2_putStanding C e5 h hret
-- MovingStair$Layout.putWalking(IILMovingStair$Fraction;)V
def W_X2_putWalking (cy : Nat → ClassId) (a_t a_p3 a_t_speeds : Nat) (g_t_0 : Value) (g_t_1 : Value) (g_t_2 : Value) (g_t_3 : Value) (g_t_5 : Value) (g_t_6 : Value) (g_t_7 : Value) (g_t_8 : Value) (g_t_9 : Value) (g_t_13 : Value) (g_t_14 : Value) (g_t_15 : Value) (g_t_16 : Value) (c_sideStand : Int) (c_sideWalk : Int) (c_sidePace : Int) (c_p3_above : Int) (c_p3_below : Int) (c_speeds : Int → Int) : va_W := [(a_t, .inr (2, [g_t_0, g_t_1, g_t_2, g_t_3, .ref a_t_speeds, g_t_5, g_t_6, g_t_7, g_t_8, g_t_9, .int (wI c_sideStand), .int (wI c_sideWalk), .int (wI c_sidePace), g_t_13, g_t_14, g_t_15, g_t_16])), (a_p3, .inr (1, [.long (wJ c_p3_above), .long (wJ c_p3_below)])), (a_t_speeds, .inl (cy 1, 4, .inl (aI c_speeds)))]
def mb_X2_putWalking_83 (F : Nat) (x4 : Int) (x6 : Int) (x8 : Int) (x10 : Int) (s0 : Int) : Option (Int × Int) :=
  if wI s0 = wI 0 then
    (bnd2 (m_X1_put F x4 x6) fun o1 o2 => some (o1, o2))
  else
    (bnd2 (m_X1_put F x8 x10) fun o1 o2 => some (o1, o2))
def mb_X2_putWalking_78 (F : Nat) (x4 : Int) (x6 : Int) (x8 : Int) (x10 : Int) : Option (Int × Int) :=
  mb_X2_putWalking_83 F x4 x6 x8 x10 1
def mb_X2_putWalking_82 (F : Nat) (x4 : Int) (x6 : Int) (x8 : Int) (x10 : Int) : Option (Int × Int) :=
  mb_X2_putWalking_83 F x4 x6 x8 x10 0
def m_X2_putWalking (F : Nat) (x1 : Int) (x2 : Int) (c_sideStand : Int) (c_sideWalk : Int) (c_sidePace : Int) (c_speeds : Int → Int) : Option (Int × Int) :=
  chk (0 ≤ x1 ∧ x1 < 4) <| chk (r32 (c_speeds x1)) <| nam (100 * (c_speeds x1)) fun y3 => chk (r32 c_sideStand) <| chk (r32 (100 - x2)) <| nam (c_sideStand * (100 - x2)) fun y6 => chk (0 ≤ x1 ∧ x1 < 4) <| chk (r32 ((c_speeds x1) + c_sidePace)) <| nam (100 * ((c_speeds x1) + c_sidePace)) fun y9 => chk (r32 c_sideWalk) <| chk (r32 x2) <| nam (c_sideWalk * x2) fun y12 => if wI x2 = wI 100 then
    (mb_X2_putWalking_78 F y3 y6 y9 y12)
  else
    (if wI x2 ≤ wI 0 then
    (mb_X2_putWalking_82 F y3 y6 y9 y12)
  else
    (if wJ (y3 * y12) ≤ wJ (y9 * y6) then
    (mb_X2_putWalking_82 F y3 y6 y9 y12)
  else
    (mb_X2_putWalking_78 F y3 y6 y9 y12)))
section S_X2_putWalking
variable {E : EE} {a_t a_p3 a_t_speeds : Nat} {g_t_0 : Value} {g_t_1 : Value} {g_t_2 : Value} {g_t_3 : Value} {g_t_5 : Value} {g_t_6 : Value} {g_t_7 : Value} {g_t_8 : Value} {g_t_9 : Value} {g_t_13 : Value} {g_t_14 : Value} {g_t_15 : Value} {g_t_16 : Value}
set_option maxRecDepth 100000 in
set_option maxHeartbeats 4000000 in
theorem wb_X2_putWalking_83 {F : Nat} {v : Int × Int} {x4 : Int} {x6 : Int} {x8 : Int} {x10 : Int} {s0 : Int} {c_sideStand : Int} {c_sideWalk : Int} {c_sidePace : Int} {c_p3_above : Int} {c_p3_below : Int} {c_speeds : Int → Int} (C : Cx E cX2_putWalking RX2 { frames := 1, cells := 0, slots := 0, locals := 31 }) (hN : eN E = 13) (h : mb_X2_putWalking_83 F x4 x6 x8 x10 s0 = some v) (hret : ∀ (pc : Nat) (L : List (Option Value)), decode cX2_putWalking pc = .ok (.return_, 1) → GG E 0 0 (W_X2_putWalking (eCy E) a_t a_p3 a_t_speeds g_t_0 g_t_1 g_t_2 g_t_3 g_t_5 g_t_6 g_t_7 g_t_8 g_t_9 g_t_13 g_t_14 g_t_15 g_t_16 c_sideStand c_sideWalk c_sidePace (v.1) (v.2) c_speeds) L pc []) : GG E 0 0 (W_X2_putWalking (eCy E) a_t a_p3 a_t_speeds g_t_0 g_t_1 g_t_2 g_t_3 g_t_5 g_t_6 g_t_7 g_t_8 g_t_9 g_t_13 g_t_14 g_t_15 g_t_16 c_sideStand c_sideWalk c_sidePace c_p3_above c_p3_below c_speeds) [none, none, none, some (.ref a_p3), some (.long (wJ x4)), none, some (.long (wJ x6)), none, some (.long (wJ x8)), none, some (.long (wJ x10)), none, none] 83 [.int (wI s0)] := by
  unfold mb_X2_putWalking_83 at h
  refine g_istore C hN dX2_putWalking_83 rfl (L' := [none, none, none, some (.ref a_p3), some (.long (wJ x4)), none, some (.long (wJ x6)), none, some (.long (wJ x8)), none, some (.long (wJ x10)), none, some (.int (wI s0))]) rfl ?_
  refine g_iload C dX2_putWalking_85 rfl ?_
  refine g_if_eq 101 C dX2_putWalking_87 (by decide) h (fun h => ?_) (fun h => ?_)
  · refine g_aload_n 3 C dX2_putWalking_101 rfl rfl ?_
    refine g_lload C dX2_putWalking_102 rfl ?_
    refine g_lload C dX2_putWalking_104 rfl ?_
    obtain ⟨o1, o2, hr3, h⟩ := bnd2_some h
    refine g_callV [1] [0, 2] [0, 2, 1] C mt_X2_84 (c_X1_put _ _ _ _ a_p3 x4 x6 c_p3_above c_p3_below F hr3) (q0 := 0) rfl (ci := 1) rfl rfl rfl (ws2 := (W_X2_putWalking (eCy E) a_t a_p3 a_t_speeds g_t_0 g_t_1 g_t_2 g_t_3 g_t_5 g_t_6 g_t_7 g_t_8 g_t_9 g_t_13 g_t_14 g_t_15 g_t_16 c_sideStand c_sideWalk c_sidePace o1 o2 c_speeds)) rfl rfl rfl (rest := []) rfl rfl rfl dX2_putWalking_106 ?_
    cases h
    exact hret 109 _ dX2_putWalking_109
  · refine g_aload_n 3 C dX2_putWalking_90 rfl rfl ?_
    refine g_lload C dX2_putWalking_91 rfl ?_
    refine g_lload C dX2_putWalking_93 rfl ?_
    obtain ⟨o1, o2, hr3, h⟩ := bnd2_some h
    refine g_callV [1] [0, 2] [0, 2, 1] C mt_X2_84 (c_X1_put _ _ _ _ a_p3 x8 x10 c_p3_above c_p3_below F hr3) (q0 := 0) rfl (ci := 1) rfl rfl rfl (ws2 := (W_X2_putWalking (eCy E) a_t a_p3 a_t_speeds g_t_0 g_t_1 g_t_2 g_t_3 g_t_5 g_t_6 g_t_7 g_t_8 g_t_9 g_t_13 g_t_14 g_t_15 g_t_16 c_sideStand c_sideWalk c_sidePace o1 o2 c_speeds)) rfl rfl rfl (rest := []) rfl rfl rfl dX2_putWalking_95 ?_
    refine g_goto (tgt := 109) C dX2_putWalking_98 (by decide) ?_
    cases h
    exact hret 109 _ dX2_putWalking_109
set_option maxRecDepth 100000 in
set_option maxHeartbeats 4000000 in
theorem wb_X2_putWalking_78 {F : Nat} {v : Int × Int} {x4 : Int} {x6 : Int} {x8 : Int} {x10 : Int} {c_sideStand : Int} {c_sideWalk : Int} {c_sidePace : Int} {c_p3_above : Int} {c_p3_below : Int} {c_speeds : Int → Int} (C : Cx E cX2_putWalking RX2 { frames := 1, cells := 0, slots := 0, locals := 31 }) (hN : eN E = 13) (h : mb_X2_putWalking_78 F x4 x6 x8 x10 = some v) (hret : ∀ (pc : Nat) (L : List (Option Value)), decode cX2_putWalking pc = .ok (.return_, 1) → GG E 0 0 (W_X2_putWalking (eCy E) a_t a_p3 a_t_speeds g_t_0 g_t_1 g_t_2 g_t_3 g_t_5 g_t_6 g_t_7 g_t_8 g_t_9 g_t_13 g_t_14 g_t_15 g_t_16 c_sideStand c_sideWalk c_sidePace (v.1) (v.2) c_speeds) L pc []) : GG E 0 0 (W_X2_putWalking (eCy E) a_t a_p3 a_t_speeds g_t_0 g_t_1 g_t_2 g_t_3 g_t_5 g_t_6 g_t_7 g_t_8 g_t_9 g_t_13 g_t_14 g_t_15 g_t_16 c_sideStand c_sideWalk c_sidePace c_p3_above c_p3_below c_speeds) [none, none, none, some (.ref a_p3), some (.long (wJ x4)), none, some (.long (wJ x6)), none, some (.long (wJ x8)), none, some (.long (wJ x10)), none, none] 78 [] := by
  unfold mb_X2_putWalking_78 at h
  refine g_iconst C dX2_putWalking_78 ?_
  refine g_goto (tgt := 83) C dX2_putWalking_79 (by decide) ?_
  exact wb_X2_putWalking_83 C hN h hret
set_option maxRecDepth 100000 in
set_option maxHeartbeats 4000000 in
theorem wb_X2_putWalking_82 {F : Nat} {v : Int × Int} {x4 : Int} {x6 : Int} {x8 : Int} {x10 : Int} {c_sideStand : Int} {c_sideWalk : Int} {c_sidePace : Int} {c_p3_above : Int} {c_p3_below : Int} {c_speeds : Int → Int} (C : Cx E cX2_putWalking RX2 { frames := 1, cells := 0, slots := 0, locals := 31 }) (hN : eN E = 13) (h : mb_X2_putWalking_82 F x4 x6 x8 x10 = some v) (hret : ∀ (pc : Nat) (L : List (Option Value)), decode cX2_putWalking pc = .ok (.return_, 1) → GG E 0 0 (W_X2_putWalking (eCy E) a_t a_p3 a_t_speeds g_t_0 g_t_1 g_t_2 g_t_3 g_t_5 g_t_6 g_t_7 g_t_8 g_t_9 g_t_13 g_t_14 g_t_15 g_t_16 c_sideStand c_sideWalk c_sidePace (v.1) (v.2) c_speeds) L pc []) : GG E 0 0 (W_X2_putWalking (eCy E) a_t a_p3 a_t_speeds g_t_0 g_t_1 g_t_2 g_t_3 g_t_5 g_t_6 g_t_7 g_t_8 g_t_9 g_t_13 g_t_14 g_t_15 g_t_16 c_sideStand c_sideWalk c_sidePace c_p3_above c_p3_below c_speeds) [none, none, none, some (.ref a_p3), some (.long (wJ x4)), none, some (.long (wJ x6)), none, some (.long (wJ x8)), none, some (.long (wJ x10)), none, none] 82 [] := by
  unfold mb_X2_putWalking_82 at h
  refine g_iconst C dX2_putWalking_82 ?_
  exact wb_X2_putWalking_83 C hN h hret
set_option maxRecDepth 100000 in
set_option maxHeartbeats 4000000 in
theorem wm_X2_putWalking {F : Nat} {v : Int × Int} {x1 : Int} {x2 : Int} {c_sideStand : Int} {c_sideWalk : Int} {c_sidePace : Int} {c_speeds : Int → Int} {c_p3_above : Int} {c_p3_below : Int} (C : Cx E cX2_putWalking RX2 { frames := 1, cells := 0, slots := 0, locals := 31 }) (hN : eN E = 13) (h : m_X2_putWalking F x1 x2 c_sideStand c_sideWalk c_sidePace c_speeds = some v) (hret : ∀ (pc : Nat) (L : List (Option Value)), decode cX2_putWalking pc = .ok (.return_, 1) → GG E 0 0 (W_X2_putWalking (eCy E) a_t a_p3 a_t_speeds g_t_0 g_t_1 g_t_2 g_t_3 g_t_5 g_t_6 g_t_7 g_t_8 g_t_9 g_t_13 g_t_14 g_t_15 g_t_16 c_sideStand c_sideWalk c_sidePace (v.1) (v.2) c_speeds) L pc []) : GG E 0 0 (W_X2_putWalking (eCy E) a_t a_p3 a_t_speeds g_t_0 g_t_1 g_t_2 g_t_3 g_t_5 g_t_6 g_t_7 g_t_8 g_t_9 g_t_13 g_t_14 g_t_15 g_t_16 c_sideStand c_sideWalk c_sidePace c_p3_above c_p3_below c_speeds) [some (.ref a_t), some (.int (wI x1)), some (.int (wI x2)), some (.ref a_p3), none, none, none, none, none, none, none, none, none] 0 [] := by
  unfold m_X2_putWalking at h
  refine g_ldc2 (v := 100) C mc_X2_90 dX2_putWalking_0 ?_
  refine g_aload_n 0 C dX2_putWalking_3 rfl rfl ?_
  refine g_get C fg_X2_25 0 rfl rfl dX2_putWalking_4 ?_
  refine g_iload_n 1 C dX2_putWalking_7 rfl rfl ?_
  obtain ⟨hc1, h⟩ := chk_some h
  refine g_iald C 2 rfl hc1 rfl dX2_putWalking_8 ?_
  obtain ⟨hc2, h⟩ := chk_some h
  refine g_i2l C dX2_putWalking_9 hc2 ?_
  refine g_lmul C dX2_putWalking_10 ?_
  obtain ⟨y3, e_y3, h⟩ := nam_some h
  refine g_topJ e_y3 ?_
  refine g_lstore C hN dX2_putWalking_11 rfl (L' := [some (.ref a_t), some (.int (wI x1)), some (.int (wI x2)), some (.ref a_p3), some (.long (wJ y3)), none, none, none, none, none, none, none, none]) rfl ?_
  refine g_aload_n 0 C dX2_putWalking_13 rfl rfl ?_
  refine g_get C fg_X2_44 0 rfl rfl dX2_putWalking_14 ?_
  refine g_st (st' := [.int (wI c_sideStand)]) rfl ?_
  obtain ⟨hc4, h⟩ := chk_some h
  refine g_i2l C dX2_putWalking_17 hc4 ?_
  refine g_bipush C dX2_putWalking_18 (by decide) ?_
  refine g_iload_n 2 C dX2_putWalking_20 rfl rfl ?_
  refine g_isub C dX2_putWalking_21 ?_
  obtain ⟨hc5, h⟩ := chk_some h
  refine g_i2l C dX2_putWalking_22 hc5 ?_
  refine g_lmul C dX2_putWalking_23 ?_
  obtain ⟨y6, e_y6, h⟩ := nam_some h
  refine g_topJ e_y6 ?_
  refine g_lstore C hN dX2_putWalking_24 rfl (L' := [some (.ref a_t), some (.int (wI x1)), some (.int (wI x2)), some (.ref a_p3), some (.long (wJ y3)), none, some (.long (wJ y6)), none, none, none, none, none, none]) rfl ?_
  refine g_ldc2 (v := 100) C mc_X2_90 dX2_putWalking_26 ?_
  refine g_aload_n 0 C dX2_putWalking_29 rfl rfl ?_
  refine g_get C fg_X2_25 0 rfl rfl dX2_putWalking_30 ?_
  refine g_iload_n 1 C dX2_putWalking_33 rfl rfl ?_
  obtain ⟨hc7, h⟩ := chk_some h
  refine g_iald C 2 rfl hc7 rfl dX2_putWalking_34 ?_
  refine g_aload_n 0 C dX2_putWalking_35 rfl rfl ?_
  refine g_get C fg_X2_50 0 rfl rfl dX2_putWalking_36 ?_
  refine g_st (st' := [.int (wI c_sidePace), .int (wI (c_speeds x1)), .long (wJ 100)]) rfl ?_
  refine g_iadd C dX2_putWalking_39 ?_
  obtain ⟨hc8, h⟩ := chk_some h
  refine g_i2l C dX2_putWalking_40 hc8 ?_
  refine g_lmul C dX2_putWalking_41 ?_
  obtain ⟨y9, e_y9, h⟩ := nam_some h
  refine g_topJ e_y9 ?_
  refine g_lstore C hN dX2_putWalking_42 rfl (L' := [some (.ref a_t), some (.int (wI x1)), some (.int (wI x2)), some (.ref a_p3), some (.long (wJ y3)), none, some (.long (wJ y6)), none, some (.long (wJ y9)), none, none, none, none]) rfl ?_
  refine g_aload_n 0 C dX2_putWalking_44 rfl rfl ?_
  refine g_get C fg_X2_47 0 rfl rfl dX2_putWalking_45 ?_
  refine g_st (st' := [.int (wI c_sideWalk)]) rfl ?_
  obtain ⟨hc10, h⟩ := chk_some h
  refine g_i2l C dX2_putWalking_48 hc10 ?_
  refine g_iload_n 2 C dX2_putWalking_49 rfl rfl ?_
  obtain ⟨hc11, h⟩ := chk_some h
  refine g_i2l C dX2_putWalking_50 hc11 ?_
  refine g_lmul C dX2_putWalking_51 ?_
  obtain ⟨y12, e_y12, h⟩ := nam_some h
  refine g_topJ e_y12 ?_
  refine g_lstore C hN dX2_putWalking_52 rfl (L' := [some (.ref a_t), some (.int (wI x1)), some (.int (wI x2)), some (.ref a_p3), some (.long (wJ y3)), none, some (.long (wJ y6)), none, some (.long (wJ y9)), none, some (.long (wJ y12)), none, none]) rfl ?_
  refine g_iload_n 2 C dX2_putWalking_54 rfl rfl ?_
  refine g_bipush C dX2_putWalking_55 (by decide) ?_
  refine g_icmp_eq 78 C dX2_putWalking_57 (by decide) h (fun h => ?_) (fun h => ?_)
  · refine g_mask [false, false, false, true, true, false, true, false, true, false, true, false, false] (L' := [none, none, none, some (.ref a_p3), some (.long (wJ y3)), none, some (.long (wJ y6)), none, some (.long (wJ y9)), none, some (.long (wJ y12)), none, none]) rfl ?_
    exact wb_X2_putWalking_78 C hN h hret
  · refine g_iload_n 2 C dX2_putWalking_60 rfl rfl ?_
    refine g_if_le 82 C dX2_putWalking_61 (by decide) h (fun h => ?_) (fun h => ?_)
    · refine g_mask [false, false, false, true, true, false, true, false, true, false, true, false, false] (L' := [none, none, none, some (.ref a_p3), some (.long (wJ y3)), none, some (.long (wJ y6)), none, some (.long (wJ y9)), none, some (.long (wJ y12)), none, none]) rfl ?_
      exact wb_X2_putWalking_82 C hN h hret
    · refine g_lload C dX2_putWalking_64 rfl ?_
      refine g_lload C dX2_putWalking_66 rfl ?_
      refine g_lmul C dX2_putWalking_68 ?_
      refine g_lload C dX2_putWalking_69 rfl ?_
      refine g_lload C dX2_putWalking_71 rfl ?_
      refine g_lmul C dX2_putWalking_73 ?_
      refine g_lcmp_ge 82 C dX2_putWalking_74 dX2_putWalking_75 (by decide) h (fun h => ?_) (fun h => ?_)
      · refine g_mask [false, false, false, true, true, false, true, false, true, false, true, false, false] (L' := [none, none, none, some (.ref a_p3), some (.long (wJ y3)), none, some (.long (wJ y6)), none, some (.long (wJ y9)), none, some (.long (wJ y12)), none, none]) rfl ?_
        exact wb_X2_putWalking_82 C hN h hret
      · refine g_mask [false, false, false, true, true, false, true, false, true, false, true, false, false] (L' := [none, none, none, some (.ref a_p3), some (.long (wJ y3)), none, some (.long (wJ y6)), none, some (.long (wJ y9)), none, some (.long (wJ y12)), none, none]) rfl ?_
        exact wb_X2_putWalking_78 C hN h hret
end S_X2_putWalking
set_option maxRecDepth 100000 in
set_option maxHeartbeats 4000000 in
theorem c_X2_putWalking (l : Launch) (D : va_G) (cy : Nat → ClassId) (ad : AD) (a_t a_p3 a_t_speeds : Nat) (g_t_0 : Value) (g_t_1 : Value) (g_t_2 : Value) (g_t_3 : Value) (g_t_5 : Value) (g_t_6 : Value) (g_t_7 : Value) (g_t_8 : Value) (g_t_9 : Value) (g_t_13 : Value) (g_t_14 : Value) (g_t_15 : Value) (g_t_16 : Value) (x1 : Int) (x2 : Int) (c_sideStand : Int) (c_sideWalk : Int) (c_sidePace : Int) (c_p3_above : Int) (c_p3_below : Int) (c_speeds : Int → Int) (F : Nat) {v : Int × Int} (h : m_X2_putWalking F x1 x2 c_sideStand c_sideWalk c_sidePace c_speeds = some v) : Ct l yX2_putWalking cX2_putWalking 13 none { frames := 1, cells := 0, slots := 0, locals := 31 } D cy ad [.ref a_t, .int (wI x1), .int (wI x2), .ref a_p3] (W_X2_putWalking cy a_t a_p3 a_t_speeds g_t_0 g_t_1 g_t_2 g_t_3 g_t_5 g_t_6 g_t_7 g_t_8 g_t_9 g_t_13 g_t_14 g_t_15 g_t_16 c_sideStand c_sideWalk c_sidePace c_p3_above c_p3_below c_speeds) (W_X2_putWalking cy a_t a_p3 a_t_speeds g_t_0 g_t_1 g_t_2 g_t_3 g_t_5 g_t_6 g_t_7 g_t_8 g_t_9 g_t_13 g_t_14 g_t_15 g_t_16 c_sideStand c_sideWalk c_sidePace (v.1) (v.2) c_speeds) none := by
  refine Ct.introV (j := 9) (plainFor_of_name (by decide)) rfl rfl (fun E C e1 e2 e3 e4 e5 hret => ?_)
  subst e1; subst e2; subst e3; subst e4
  exact wm_X2_putWalking C e5 h hret
-- java/lang/Math.max(JJ)J
def W_J9_max_f86c9 (cy : Nat → ClassId) : va_W := []
def m_J9_max_f86c9 (F : Nat) (x0 : Int) (x2 : Int) : Option (Int) :=
  if wJ x0 < wJ x2 then
    (some x2)
  else
    (some x0)
section S_J9_max_f86c9
variable {E : EE}
set_option maxRecDepth 100000 in
set_option maxHeartbeats 4000000 in
theorem wm_J9_max_f86c9 {F : Nat} {v : Int} {x0 : Int} {x2 : Int} (C : Cx E cJ9_max_f86c9 RJ9 { frames := 0, cells := 0, slots := 0, locals := 0 }) (hN : eN E = 4) (h : m_J9_max_f86c9 F x0 x2 = some v) (hret : ∀ (pc : Nat) (L : List (Option Value)), decode cJ9_max_f86c9 pc = .ok (.lreturn, 1) → GG E 0 0 (W_J9_max_f86c9 (eCy E)) L pc [.long (wJ v)]) : GG E 0 0 (W_J9_max_f86c9 (eCy E)) [some (.long (wJ x0)), none, some (.long (wJ x2)), none] 0 [] := by
  unfold m_J9_max_f86c9 at h
  refine g_lload_n 0 C dJ9_max_f86c9_0 rfl rfl ?_
  refine g_lload_n 2 C dJ9_max_f86c9_1 rfl rfl ?_
  refine g_lcmp_lt 10 C dJ9_max_f86c9_2 dJ9_max_f86c9_3 (by decide) h (fun h => ?_) (fun h => ?_)
  · refine g_lload_n 2 C dJ9_max_f86c9_10 rfl rfl ?_
    cases h
    exact hret 11 _ dJ9_max_f86c9_11
  · refine g_lload_n 0 C dJ9_max_f86c9_6 rfl rfl ?_
    refine g_goto (tgt := 11) C dJ9_max_f86c9_7 (by decide) ?_
    cases h
    exact hret 11 _ dJ9_max_f86c9_11
end S_J9_max_f86c9
set_option maxRecDepth 100000 in
set_option maxHeartbeats 4000000 in
theorem c_J9_max_f86c9 (l : Launch) (D : va_G) (cy : Nat → ClassId) (ad : AD) (x0 : Int) (x2 : Int) (F : Nat) {v : Int} (h : m_J9_max_f86c9 F x0 x2 = some v) : Ct l yJ9_max_f86c9 cJ9_max_f86c9 4 (some .long) { frames := 0, cells := 0, slots := 0, locals := 0 } D cy ad [.long (wJ x0), .long (wJ x2)] (W_J9_max_f86c9 cy) (W_J9_max_f86c9 cy) (some (.long (wJ v))) := by
  refine Ct.introJ (j := 0) (by decide +kernel) rfl rfl (fun E C e1 e2 e3 e4 e5 hret => ?_)
  subst e1; subst e2; subst e3; subst e4
  exact wm_J9_max_f86c9 C e5 h hret
-- java/lang/Math.min(JJ)J
def W_J9_min_f86c9 (cy : Nat → ClassId) : va_W := []
def m_J9_min_f86c9 (F : Nat) (x0 : Int) (x2 : Int) : Option (Int) :=
  if wJ x2 < wJ x0 then
    (some x2)
  else
    (some x0)
section S_J9_min_f86c9
variable {E : EE}
set_option maxRecDepth 100000 in
set_option maxHeartbeats 4000000 in
theorem wm_J9_min_f86c9 {F : Nat} {v : Int} {x0 : Int} {x2 : Int} (C : Cx E cJ9_min_f86c9 RJ9 { frames := 0, cells := 0, slots := 0, locals := 0 }) (hN : eN E = 4) (h : m_J9_min_f86c9 F x0 x2 = some v) (hret : ∀ (pc : Nat) (L : List (Option Value)), decode cJ9_min_f86c9 pc = .ok (.lreturn, 1) → GG E 0 0 (W_J9_min_f86c9 (eCy E)) L pc [.long (wJ v)]) : GG E 0 0 (W_J9_min_f86c9 (eCy E)) [some (.long (wJ x0)), none, some (.long (wJ x2)), none] 0 [] := by
  unfold m_J9_min_f86c9 at h
  refine g_lload_n 0 C dJ9_min_f86c9_0 rfl rfl ?_
  refine g_lload_n 2 C dJ9_min_f86c9_1 rfl rfl ?_
  refine g_lcmp_gt 10 C dJ9_min_f86c9_2 dJ9_min_f86c9_3 (by decide) h (fun h => ?_) (fun h => ?_)
  · refine g_lload_n 2 C dJ9_min_f86c9_10 rfl rfl ?_
    cases h
    exact hret 11 _ dJ9_min_f86c9_11
  · refine g_lload_n 0 C dJ9_min_f86c9_6 rfl rfl ?_
    refine g_goto (tgt := 11) C dJ9_min_f86c9_7 (by decide) ?_
    cases h
    exact hret 11 _ dJ9_min_f86c9_11
end S_J9_min_f86c9
set_option maxRecDepth 100000 in
set_option maxHeartbeats 4000000 in
theorem c_J9_min_f86c9 (l : Launch) (D : va_G) (cy : Nat → ClassId) (ad : AD) (x0 : Int) (x2 : Int) (F : Nat) {v : Int} (h : m_J9_min_f86c9 F x0 x2 = some v) : Ct l yJ9_min_f86c9 cJ9_min_f86c9 4 (some .long) { frames := 0, cells := 0, slots := 0, locals := 0 } D cy ad [.long (wJ x0), .long (wJ x2)] (W_J9_min_f86c9 cy) (W_J9_min_f86c9 cy) (some (.long (wJ v))) := by
  refine Ct.introJ (j := 0) (by decide +kernel) rfl rfl (fun E C e1 e2 e3 e4 e5 hret => ?_)
  subst e1; subst e2; subst e3; subst e4
  exact wm_J9_min_f86c9 C e5 h hret
-- java/util/Arrays.fill([JJ)V
def W_J7_fill_d0a16 (cy : Nat → ClassId) (a_p1 : Nat) (n_p1 : Nat) (c_p1 : Int → Int) : va_W := [(a_p1, .inl (cy 2, n_p1, .inr (.inl (aJ c_p1))))]
def mb_J7_fill_d0a16_6 (F : Nat) (k6 : Int → (Int → Int) → Option ((Int → Int))) (n_p1 : Nat) (x1 : Int) (x3 : Int) (x4 : Int) (c_p1 : Int → Int) : Option ((Int → Int)) :=
  if wI x4 ≤ wI x3 then
    (some c_p1)
  else
    (chk (0 ≤ x3 ∧ x3 < (n_p1 : Int)) <| k6 (x3 + 1) (up c_p1 x3 x1))
def ml_J7_fill_d0a16_6 (F : Nat) (n_p1 : Nat) (x1 : Int) (x3 : Int) (x4 : Int) (c_p1 : Int → Int) : Option ((Int → Int)) :=
  loopN (fun (k : Int × (Int → Int) → Option ((Int → Int))) q => mb_J7_fill_d0a16_6 F (fun y0 y1 => k (y0, y1)) n_p1 x1 q.1 x4 q.2) F (x3, c_p1)
def m_J7_fill_d0a16 (F : Nat) (n_p1 : Nat) (x1 : Int) (c_p1 : Int → Int) : Option ((Int → Int)) :=
  nam (((n_p1 : Nat) : Int)) fun y1 => ml_J7_fill_d0a16_6 F n_p1 x1 0 y1 c_p1
section S_J7_fill_d0a16
variable {E : EE} {a_p1 : Nat} {n_p1 : Nat}
set_option maxRecDepth 100000 in
set_option maxHeartbeats 4000000 in
theorem wb_J7_fill_d0a16_6 {F : Nat} {k6 : Int → (Int → Int) → Option ((Int → Int))} {v : (Int → Int)} {x1 : Int} {x3 : Int} {x4 : Int} {c_p1 : Int → Int} (C : Cx E cJ7_fill_d0a16 RJ7 { frames := 0, cells := 0, slots := 0, locals := 0 }) (hN : eN E = 5) (h : mb_J7_fill_d0a16_6 F k6 n_p1 x1 x3 x4 c_p1 = some v) (hk6 : ∀ (y_x3 : Int) (y_c_p1 : Int → Int), k6 y_x3 y_c_p1 = some v → GG E 0 0 (W_J7_fill_d0a16 (eCy E) a_p1 n_p1 y_c_p1) [some (.ref a_p1), some (.long (wJ x1)), none, some (.int (wI y_x3)), some (.int (wI x4))] 6 []) (hlt_n_p1 : Nat.blt n_p1 2147483648 = true) (hret : ∀ (pc : Nat) (L : List (Option Value)), decode cJ7_fill_d0a16 pc = .ok (.return_, 1) → GG E 0 0 (W_J7_fill_d0a16 (eCy E) a_p1 n_p1 v) L pc []) : GG E 0 0 (W_J7_fill_d0a16 (eCy E) a_p1 n_p1 c_p1) [some (.ref a_p1), some (.long (wJ x1)), none, some (.int (wI x3)), some (.int (wI x4))] 6 [] := by
  unfold mb_J7_fill_d0a16_6 at h
  refine g_iload_n 3 C dJ7_fill_d0a16_6 rfl rfl ?_
  refine g_iload C dJ7_fill_d0a16_7 rfl ?_
  refine g_icmp_ge 22 C dJ7_fill_d0a16_9 (by decide) h (fun h => ?_) (fun h => ?_)
  · cases h
    exact hret 22 _ dJ7_fill_d0a16_22
  · refine g_aload_n 0 C dJ7_fill_d0a16_12 rfl rfl ?_
    refine g_iload_n 3 C dJ7_fill_d0a16_13 rfl rfl ?_
    refine g_lload_n 1 C dJ7_fill_d0a16_14 rfl rfl ?_
    obtain ⟨hc1, h⟩ := chk_some h
    refine g_last C 0 rfl hc1 hlt_n_p1 (ws' := (W_J7_fill_d0a16 (eCy E) a_p1 n_p1 (up c_p1 x3 x1))) rfl dJ7_fill_d0a16_15 ?_
    refine g_iinc C hN dJ7_fill_d0a16_16 rfl rfl (L' := [some (.ref a_p1), some (.long (wJ x1)), none, some (.int (wI (x3 + 1))), some (.int (wI x4))]) rfl ?_
    refine g_goto (tgt := 6) C dJ7_fill_d0a16_19 (by decide) ?_
    exact hk6 _ _ h
set_option maxRecDepth 100000 in
set_option maxHeartbeats 4000000 in
theorem wl_J7_fill_d0a16_6 {F : Nat} {v : (Int → Int)} {x1 : Int} {x3 : Int} {x4 : Int} {c_p1 : Int → Int} (C : Cx E cJ7_fill_d0a16 RJ7 { frames := 0, cells := 0, slots := 0, locals := 0 }) (hN : eN E = 5) (h : ml_J7_fill_d0a16_6 F n_p1 x1 x3 x4 c_p1 = some v) (hlt_n_p1 : Nat.blt n_p1 2147483648 = true) (hret : ∀ (pc : Nat) (L : List (Option Value)), decode cJ7_fill_d0a16 pc = .ok (.return_, 1) → GG E 0 0 (W_J7_fill_d0a16 (eCy E) a_p1 n_p1 v) L pc []) : GG E 0 0 (W_J7_fill_d0a16 (eCy E) a_p1 n_p1 c_p1) [some (.ref a_p1), some (.long (wJ x1)), none, some (.int (wI x3)), some (.int (wI x4))] 6 [] := by
  unfold ml_J7_fill_d0a16_6 at h
  exact loop_walk (g := fun (q : Int × (Int → Int)) => GG E 0 0 (W_J7_fill_d0a16 (eCy E) a_p1 n_p1 (q.2)) [some (.ref a_p1), some (.long (wJ x1)), none, some (.int (wI (q.1))), some (.int (wI x4))] 6 []) (fun k hk q h => wb_J7_fill_d0a16_6 C hN h (fun y0 y1 hh => hk (y0, y1) hh) hlt_n_p1 hret) F (x3, c_p1) h
set_option maxRecDepth 100000 in
set_option maxHeartbeats 4000000 in
theorem wm_J7_fill_d0a16 {F : Nat} {v : (Int → Int)} {x1 : Int} {c_p1 : Int → Int} (C : Cx E cJ7_fill_d0a16 RJ7 { frames := 0, cells := 0, slots := 0, locals := 0 }) (hN : eN E = 5) (h : m_J7_fill_d0a16 F n_p1 x1 c_p1 = some v) (hlt_n_p1 : Nat.blt n_p1 2147483648 = true) (hret : ∀ (pc : Nat) (L : List (Option Value)), decode cJ7_fill_d0a16 pc = .ok (.return_, 1) → GG E 0 0 (W_J7_fill_d0a16 (eCy E) a_p1 n_p1 v) L pc []) : GG E 0 0 (W_J7_fill_d0a16 (eCy E) a_p1 n_p1 c_p1) [some (.ref a_p1), some (.long (wJ x1)), none, none, none] 0 [] := by
  unfold m_J7_fill_d0a16 at h
  refine g_iconst C dJ7_fill_d0a16_0 ?_
  refine g_istore_n 3 C hN dJ7_fill_d0a16_1 rfl rfl (L' := [some (.ref a_p1), some (.long (wJ x1)), none, some (.int (wI 0)), none]) rfl ?_
  refine g_aload_n 0 C dJ7_fill_d0a16_2 rfl rfl ?_
  refine g_alen (N := n_p1) (t0 := 2) C 0 rfl rfl rfl dJ7_fill_d0a16_3 ?_
  obtain ⟨y1, e_y1, h⟩ := nam_some h
  refine g_topI e_y1 ?_
  refine g_istore C hN dJ7_fill_d0a16_4 rfl (L' := [some (.ref a_p1), some (.long (wJ x1)), none, some (.int (wI 0)), some (.int (wI y1))]) rfl ?_
  exact wl_J7_fill_d0a16_6 C hN h hlt_n_p1 hret
end S_J7_fill_d0a16
set_option maxRecDepth 100000 in
set_option maxHeartbeats 4000000 in
theorem c_J7_fill_d0a16 (l : Launch) (D : va_G) (cy : Nat → ClassId) (ad : AD) (a_p1 : Nat) (n_p1 : Nat) (x1 : Int) (c_p1 : Int → Int) (F : Nat) {v : (Int → Int)} (h : m_J7_fill_d0a16 F n_p1 x1 c_p1 = some v) (hlt_n_p1 : Nat.blt n_p1 2147483648 = true) : Ct l yJ7_fill_d0a16 cJ7_fill_d0a16 5 none { frames := 0, cells := 0, slots := 0, locals := 0 } D cy ad [.ref a_p1, .long (wJ x1)] (W_J7_fill_d0a16 cy a_p1 n_p1 c_p1) (W_J7_fill_d0a16 cy a_p1 n_p1 v) none := by
  refine Ct.introV (j := 2) (plainFor_of_name (by decide)) rfl rfl (fun E C e1 e2 e3 e4 e5 hret => ?_)
  subst e1; subst e2; subst e3; subst e4
  exact wm_J7_fill_d0a16 C e5 h hlt_n_p1 hret
-- MovingStair$Slot.begin(II)V
def W_X5_begin (cy : Nat → ClassId) (a_t a_t_numbers : Nat) (c_held : Int) (c_width : Int) (c_size : Int) (c_numbers : Int → Int) : va_W := [(a_t, .inr (5, [.int (wI c_held), .int (wI c_width), .int (wI c_size), .ref a_t_numbers])), (a_t_numbers, .inl (cy 2, 60, .inr (.inl (aJ c_numbers))))]
def m_X5_begin (F : Nat) (x1 : Int) (x2 : Int) (c_numbers : Int → Int) : Option (Int × Int × Int × (Int → Int)) :=
  bnd1 (m_J7_fill_d0a16 F 60 0 c_numbers) fun o1 => some (1, x1, x2, o1)
section S_X5_begin
variable {E : EE} {a_t a_t_numbers : Nat}
set_option maxRecDepth 100000 in
set_option maxHeartbeats 4000000 in
theorem wm_X5_begin {F : Nat} {v : Int × Int × Int × (Int → Int)} {x1 : Int} {x2 : Int} {c_numbers : Int → Int} {c_held : Int} {c_width : Int} {c_size : Int} (C : Cx E cX5_begin RX5 { frames := 1, cells := 0, slots := 0, locals := 24 }) (hN : eN E = 3) (h : m_X5_begin F x1 x2 c_numbers = some v) (hret : ∀ (pc : Nat) (L : List (Option Value)), decode cX5_begin pc = .ok (.return_, 1) → GG E 0 0 (W_X5_begin (eCy E) a_t a_t_numbers (v.1) (v.2.1) (v.2.2.1) (v.2.2.2)) L pc []) : GG E 0 0 (W_X5_begin (eCy E) a_t a_t_numbers c_held c_width c_size c_numbers) [some (.ref a_t), some (.int (wI x1)), some (.int (wI x2))] 0 [] := by
  unfold m_X5_begin at h
  refine g_aload_n 0 C dX5_begin_0 rfl rfl ?_
  refine g_iconst C dX5_begin_1 ?_
  refine g_putZ C fp_X5_9 0 rfl (by decide) rfl (ws' := (W_X5_begin (eCy E) a_t a_t_numbers 1 c_width c_size c_numbers)) rfl dX5_begin_2 ?_
  refine g_aload_n 0 C dX5_begin_5 rfl rfl ?_
  refine g_iload_n 1 C dX5_begin_6 rfl rfl ?_
  refine g_putI C fp_X5_15 0 rfl rfl (ws' := (W_X5_begin (eCy E) a_t a_t_numbers 1 x1 c_size c_numbers)) rfl dX5_begin_7 ?_
  refine g_aload_n 0 C dX5_begin_10 rfl rfl ?_
  refine g_iload_n 2 C dX5_begin_11 rfl rfl ?_
  refine g_putI C fp_X5_19 0 rfl rfl (ws' := (W_X5_begin (eCy E) a_t a_t_numbers 1 x1 x2 c_numbers)) rfl dX5_begin_12 ?_
  refine g_aload_n 0 C dX5_begin_15 rfl rfl ?_
  refine g_get C fg_X5_22 0 rfl rfl dX5_begin_16 ?_
  refine g_lconst (x := 0) C dX5_begin_19 (by decide) ?_
  obtain ⟨o1, hr2, h⟩ := bnd1_some h
  refine g_callSV [1] [0] [0, 1] C mt_X5_26 (c_J7_fill_d0a16 _ _ _ _ a_t_numbers 60 0 c_numbers F hr2 rfl) rfl rfl (ws2 := (W_X5_begin (eCy E) a_t a_t_numbers 1 x1 x2 o1)) rfl rfl rfl (rest := []) rfl rfl rfl dX5_begin_20 ?_
  cases h
  exact hret 23 _ dX5_begin_23
end S_X5_begin
set_option maxRecDepth 100000 in
set_option maxHeartbeats 4000000 in
theorem c_X5_begin (l : Launch) (D : va_G) (cy : Nat → ClassId) (ad : AD) (a_t a_t_numbers : Nat) (x1 : Int) (x2 : Int) (c_held : Int) (c_width : Int) (c_size : Int) (c_numbers : Int → Int) (F : Nat) {v : Int × Int × Int × (Int → Int)} (h : m_X5_begin F x1 x2 c_numbers = some v) : Ct l yX5_begin cX5_begin 3 none { frames := 1, cells := 0, slots := 0, locals := 24 } D cy ad [.ref a_t, .int (wI x1), .int (wI x2)] (W_X5_begin cy a_t a_t_numbers c_held c_width c_size c_numbers) (W_X5_begin cy a_t a_t_numbers (v.1) (v.2.1) (v.2.2.1) (v.2.2.2)) none := by
  refine Ct.introV (j := 0) (plainFor_of_name (by decide)) rfl rfl (fun E C e1 e2 e3 e4 e5 hret => ?_)
  subst e1; subst e2; subst e3; subst e4
  exact wm_X5_begin C e5 h hret
-- MovingStair$Slot.cut(J)J
def W_X5_cut (cy : Nat → ClassId) (a_t : Nat) (g_t_0 : Value) (g_t_2 : Value) (g_t_3 : Value) (c_width : Int) : va_W := [(a_t, .inr (5, [g_t_0, .int (wI c_width), g_t_2, g_t_3]))]
def m_X5_cut (F : Nat) (x1 : Int) (c_width : Int) : Option (Int) :=
  if wI c_width = wI 0 then
    (chk (r32 (b8 x1)) <| some (b8 x1))
  else if wI c_width = wI 1 then
    (chk (r32 (b16 x1)) <| some (b16 x1))
  else if wI c_width = wI 2 then
    (some (w32 x1))
  else (some x1)
section S_X5_cut
variable {E : EE} {a_t : Nat} {g_t_0 : Value} {g_t_2 : Value} {g_t_3 : Value}
set_option maxRecDepth 100000 in
set_option maxHeartbeats 4000000 in
theorem wm_X5_cut {F : Nat} {v : Int} {x1 : Int} {c_width : Int} (C : Cx E cX5_cut RX5 { frames := 0, cells := 0, slots := 0, locals := 0 }) (hN : eN E = 3) (h : m_X5_cut F x1 c_width = some v) (hret : ∀ (pc : Nat) (L : List (Option Value)), decode cX5_cut pc = .ok (.lreturn, 1) → GG E 0 0 (W_X5_cut (eCy E) a_t g_t_0 g_t_2 g_t_3 c_width) L pc [.long (wJ v)]) : GG E 0 0 (W_X5_cut (eCy E) a_t g_t_0 g_t_2 g_t_3 c_width) [some (.ref a_t), some (.long (wJ x1)), none] 0 [] := by
  unfold m_X5_cut at h
  refine g_aload_n 0 C dX5_cut_0 rfl rfl ?_
  refine g_get C fg_X5_15 0 rfl rfl dX5_cut_1 ?_
  refine g_st (st' := [.int (wI c_width)]) rfl ?_
  refine g_ifs h (fun ct1 h => ?_) (fun ct1 h => ?_)
  · refine g_tableIn (j := 0) (off := 28) 32 C dX5_cut_4 ct1 (by decide) (by decide) (by decide) (by decide) ?_
    refine g_lload_n 1 C dX5_cut_32 rfl rfl ?_
    refine g_l2i C dX5_cut_33 ?_
    refine g_i2b C dX5_cut_34 ?_
    obtain ⟨hc2, h⟩ := chk_some h
    refine g_i2l C dX5_cut_35 hc2 ?_
    cases h
    exact hret 36 _ dX5_cut_36
  refine g_ifs h (fun ct2 h => ?_) (fun ct2 h => ?_)
  · refine g_tableIn (j := 1) (off := 33) 37 C dX5_cut_4 ct2 (by decide) (by decide) (by decide) (by decide) ?_
    refine g_lload_n 1 C dX5_cut_37 rfl rfl ?_
    refine g_l2i C dX5_cut_38 ?_
    refine g_i2s C dX5_cut_39 ?_
    obtain ⟨hc3, h⟩ := chk_some h
    refine g_i2l C dX5_cut_40 hc3 ?_
    cases h
    exact hret 41 _ dX5_cut_41
  refine g_ifs h (fun ct3 h => ?_) (fun ct3 h => ?_)
  · refine g_tableIn (j := 2) (off := 38) 42 C dX5_cut_4 ct3 (by decide) (by decide) (by decide) (by decide) ?_
    refine g_lload_n 1 C dX5_cut_42 rfl rfl ?_
    refine g_l2i C dX5_cut_43 ?_
    refine g_i2lw C dX5_cut_44 ?_
    cases h
    exact hret 45 _ dX5_cut_45
  refine g_tableOut 46 C dX5_cut_4 (tab_out (fun j h1 h2 => by rcases (show j = 0 ∨ j = 1 ∨ j = 2 by omega) with rfl | rfl | rfl <;> assumption)) (by decide) ?_
  refine g_lload_n 1 C dX5_cut_46 rfl rfl ?_
  cases h
  exact hret 47 _ dX5_cut_47
end S_X5_cut
set_option maxRecDepth 100000 in
set_option maxHeartbeats 4000000 in
theorem c_X5_cut (l : Launch) (D : va_G) (cy : Nat → ClassId) (ad : AD) (a_t : Nat) (g_t_0 : Value) (g_t_2 : Value) (g_t_3 : Value) (x1 : Int) (c_width : Int) (F : Nat) {v : Int} (h : m_X5_cut F x1 c_width = some v) : Ct l yX5_cut cX5_cut 3 (some .long) { frames := 0, cells := 0, slots := 0, locals := 0 } D cy ad [.ref a_t, .long (wJ x1)] (W_X5_cut cy a_t g_t_0 g_t_2 g_t_3 c_width) (W_X5_cut cy a_t g_t_0 g_t_2 g_t_3 c_width) (some (.long (wJ v))) := by
  refine Ct.introJ (j := 0) (plainFor_of_name (by decide)) rfl rfl (fun E C e1 e2 e3 e4 e5 hret => ?_)
  subst e1; subst e2; subst e3; subst e4
  exact wm_X5_cut C e5 h hret
