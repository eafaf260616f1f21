/-! stream, still, ant, drawn, luck -/
abbrev bitJ (b i : Int) : Prop := wI (andI (shrI b i) 1) = wI 1
section STR
variable {F : Nat}
theorem isNoStream_spec {x1 x2 x3 : Int} (hx1 : r32 x1) (hx2 : r32 x2) (hx3 : r32 x3) : m_X8_isNoStream F x1 x2 x3 = some (bI (¬ ((1 ≤ x1 ∧ x1 ≤ 999) ∧ (1 ≤ x2 ∧ x2 ≤ 99) ∧ (0 ≤ x3 ∧ x3 ≤ 99)))) := by
  unfold m_X8_isNoStream
  rw [chk_pos hx1, isOut_spec (by omega) (by decide) (by decide), bnd1_s, ifB, chk_pos hx2, isOut_spec (by omega) (by decide) (by decide), bnd1_s, ifB, chk_pos hx3, isOut_spec (by omega) (by decide) (by decide), bnd1_s, ifB]
  by_cases h1 : 1 ≤ x1 ∧ x1 ≤ 999
  · rw [if_neg (fun z => z h1)]
    by_cases h2 : 1 ≤ x2 ∧ x2 ≤ 99
    · rw [if_neg (fun z => z h2)]
      by_cases h3 : 0 ≤ x3 ∧ x3 ≤ 99
      · rw [if_neg (fun z => z h3), bI_f (fun z => z ⟨h1, h2, h3⟩)]
      · rw [if_pos h3, bI_t (by omega)]
    · rw [if_pos h2, bI_t (by omega)]
  · rw [if_pos h1, bI_t (by omega)]
theorem isStream_spec {x1 x2 x3 x4 : Int} (hx1 : r32 x1) (hx2 : r32 x2) (hx3 : r32 x3) (hx4 : r32 x4) : m_X9_isStream F x1 x2 x3 x4 = some (bI (((1 ≤ x1 ∧ x1 ≤ 999) ∧ (1 ≤ x2 ∧ x2 ≤ 99) ∧ (0 ≤ x3 ∧ x3 ≤ 99)) ∧ (0 ≤ x4 ∧ x4 ≤ 1))) := by
  unfold m_X9_isStream
  rw [chk_pos hx1, in_spec (by omega) (by decide) (by decide), bnd1_s, ifB, chk_pos hx2, in_spec (by omega) (by decide) (by decide), bnd1_s, ifB, chk_pos hx3, in_spec (by omega) (by decide) (by decide), bnd1_s, ifB, isHalf_spec hx4, bnd1_s, ifB]
  by_cases h1 : 1 ≤ x1 ∧ x1 ≤ 999
  · rw [if_pos h1]
    by_cases h2 : 1 ≤ x2 ∧ x2 ≤ 99
    · rw [if_pos h2]
      by_cases h3 : 0 ≤ x3 ∧ x3 ≤ 99
      · rw [if_pos h3]
        by_cases h4 : 0 ≤ x4 ∧ x4 ≤ 1
        · rw [if_pos h4, bI_t ⟨⟨h1, h2, h3⟩, h4⟩]
        · rw [if_neg h4, bI_f (fun z => h4 z.2)]
      · rw [if_neg h3, bI_f (fun z => h3 z.1.2.2)]
    · rw [if_neg h2, bI_f (fun z => h2 z.1.2.1)]
  · rw [if_neg h1, bI_f (fun z => h1 z.1.1)]
theorem openStream_yes (hF : 1000 ≤ F) {x1 x2 x3 u v : Int} (hs : (1 ≤ x1 ∧ x1 ≤ 999) ∧ (1 ≤ x2 ∧ x2 ≤ 99) ∧ (0 ≤ x3 ∧ x3 ≤ 99)) (hp : x3 < x2) : m_X8_openStream F x1 x2 x3 u v = some (0, (Rat.divInt x1 (x2 + x3) + Rat.divInt x1 (x2 - x3)).num, ((Rat.divInt x1 (x2 + x3) + Rat.divInt x1 (x2 - x3)).den : Int)) := by
  obtain ⟨h1, h2, h3⟩ := id hs
  unfold m_X8_openStream
  have hb : Bd (Rat.divInt x1 (x2 + x3)) 999 198 := Bd.of (by omega) (by omega) (by omega)
  rw [isNoStream_spec (by omega) (by omega) (by omega), bnd1_s, ifB, if_neg (fun z => z hs), ifI_lt (by omega) (by omega), if_pos hp, chk_pos (by omega), chk_pos (by omega), put_spec hF (by omega) (by omega), bnd2_s, chk_pos (by omega), chk_pos (by omega), add_spec hF hb (A := 999) (B := 99) (by omega) (by omega) (by omega) (by decide) (by decide), bnd2_s]
theorem openStream_no {x1 x2 x3 u v : Int} (hs : (1 ≤ x1 ∧ x1 ≤ 999) ∧ (1 ≤ x2 ∧ x2 ≤ 99) ∧ (0 ≤ x3 ∧ x3 ≤ 99)) (hp : ¬ x3 < x2) : m_X8_openStream F x1 x2 x3 u v = some (-1, u, v) := by
  obtain ⟨h1, h2, h3⟩ := id hs
  unfold m_X8_openStream
  rw [isNoStream_spec (by omega) (by omega) (by omega), bnd1_s, ifB, if_neg (fun z => z hs), ifI_lt (by omega) (by omega), if_neg hp]
theorem openStream_bad {x1 x2 x3 u v : Int} (hx1 : r32 x1) (hx2 : r32 x2) (hx3 : r32 x3) (hs : ¬ ((1 ≤ x1 ∧ x1 ≤ 999) ∧ (1 ≤ x2 ∧ x2 ≤ 99) ∧ (0 ≤ x3 ∧ x3 ≤ 99))) : m_X8_openStream F x1 x2 x3 u v = some (-2, u, v) := by
  unfold m_X8_openStream
  rw [isNoStream_spec hx1 hx2 hx3, bnd1_s, ifB, if_pos hs]
theorem m20 : ¬ (wI (-2) = wI 0) := by decide
theorem m10 : ¬ (wI (-1) = wI 0) := by decide
theorem adds0 {a b : Int} {A B : Nat} (ha : a.natAbs ≤ A) (hb : b.natAbs ≤ B) (hb0 : 0 < b) (hA : A ≤ 9223372036854775807) (hB : B ≤ 9223372036854775807) : m_X9_adds F a b 0 1 = some ((Rat.divInt a b).num, ((Rat.divInt a b).den : Int)) := by
  have := adds_spec (F := F) (q := 0) (a := a) (b := b) Bd.zero ha hb hb0 (by omega) (by omega) hB (by decide)
  rw [Rat.zero_add] at this
  exact this
/-- stream -/
theorem op_stream (hF : 1000 ≤ F) {x1 x2 x3 x4 : Int} (hx1 : r32 x1) (hx2 : r32 x2) (hx3 : r32 x3) (hx4 : r32 x4) (u v u' v' : Int) : Eq1 (m_X8_stream F x1 x2 x3 x4 u v) (m_X9_stream F x1 x2 x3 x4 u' v') := by
  unfold m_X8_stream m_X9_stream
  rw [isSide_spec hx4, bnd1_s, ifB, isStream_spec hx1 hx2 hx3 hx4, bnd1_s, ifB]
  by_cases h4 : 0 ≤ x4 ∧ x4 ≤ 1
  · rw [if_pos h4]
    by_cases hs : (1 ≤ x1 ∧ x1 ≤ 999) ∧ (1 ≤ x2 ∧ x2 ≤ 99) ∧ (0 ≤ x3 ∧ x3 ≤ 99)
    · rw [if_pos ⟨hs, h4⟩, ifI_lt (by omega) (by omega)]
      by_cases hp : x3 < x2
      · have hb : Bd (Rat.divInt x1 (x2 + x3)) 999 198 := Bd.of (by omega) (by omega) (by omega)
        rw [openStream_yes hF hs hp, bnd3_s, if_pos hp]
        unfold mb_X8_stream_20 m_X9_zero
        rw [if_pos rfl, bnd2_s, chk_pos (by omega), chk_pos (by omega), adds0 (A := 999) (B := 198) (by omega) (by omega) (by omega) (by decide) (by decide), bnd2_s, chk_pos (by omega), chk_pos (by omega), adds_spec hb (A := 999) (B := 99) (by omega) (by omega) (by omega) (by decide) (by decide) (by decide) (by decide), bnd2_s, side_spec hx4, half_spec hx4, bnd1_s, bnd1_s]
        exact Eq1.mk
      · rw [openStream_no hs hp, bnd3_s, if_neg hp]
        unfold mb_X8_stream_20
        rw [if_neg m10, chk_pos (by decide)]
        exact Eq1.mk
    · rw [openStream_bad hx1 hx2 hx3 hs, bnd3_s, if_neg (fun z => hs z.1)]
      unfold mb_X8_stream_20
      rw [if_neg m20, chk_pos (by decide)]
      exact Eq1.mk
  · rw [if_neg h4, if_neg (fun z => h4 z.2)]
    unfold mb_X8_stream_20
    rw [if_neg m20, chk_pos (by decide)]
    exact Eq1.mk
theorem still_val {d p u : Int} (hd : 0 < d) (hu : 0 ≤ u) (hp : u < p) {t : Rat} (ht : t = Rat.divInt d (p + u) + Rat.divInt d (p - u)) : t.num ≠ 0 ∧ Rat.divInt (2 * d * (t.den : Int)) t.num = Rat.divInt (p * p - u * u) p := by
  have h1 : p + u ≠ 0 := by omega
  have h2 : p - u ≠ 0 := by omega
  have h3 : (p + u) * (p - u) ≠ 0 := Int.mul_ne_zero h1 h2
  have hden : ((t.den : Nat) : Int) ≠ 0 := by have := t.den_nz; omega
  have e : Rat.divInt t.num (t.den : Int) = Rat.divInt (d * (p - u) + d * (p + u)) ((p + u) * (p - u)) := by
    rw [Rat.num_divInt_den, ht, Rat.divInt_add_divInt _ _ h1 h2]
  rw [Rat.divInt_eq_divInt_iff hden h3] at e
  have e2 : d * (p - u) + d * (p + u) = 2 * d * p := by
    rw [Int.mul_sub, Int.mul_add, Int.mul_assoc]
    generalize d * p = X
    generalize d * u = Y
    omega
  have e3 : (p + u) * (p - u) = p * p - u * u := by
    rw [Int.mul_sub, Int.add_mul, Int.add_mul, Int.mul_comm u p]
    generalize p * p = X
    generalize p * u = Y
    generalize u * u = Z
    omega
  rw [e2, e3] at e
  have hn : t.num ≠ 0 := by
    intro z
    rw [z, Int.zero_mul] at e
    have : 2 * d * p * (t.den : Int) ≠ 0 := Int.mul_ne_zero (Int.mul_ne_zero (by omega) (by omega)) hden
    exact this e.symm
  refine ⟨hn, ?_⟩
  rw [Rat.divInt_eq_divInt_iff hn (by omega)]
  rw [Int.mul_comm (p * p - u * u), e, Int.mul_right_comm]
/-- still -/
theorem op_still (hF : 1000 ≤ F) {x1 x2 x3 x4 : Int} (hx1 : r32 x1) (hx2 : r32 x2) (hx3 : r32 x3) (hx4 : r32 x4) (u v u' v' : Int) : Eq1 (m_X8_still F x1 x2 x3 x4 u v) (m_X9_still F x1 x2 x3 x4 u' v') := by
  unfold m_X8_still m_X9_still
  rw [isSide_spec hx4, bnd1_s, ifB, isStream_spec hx1 hx2 hx3 hx4, bnd1_s, ifB]
  by_cases h4 : 0 ≤ x4 ∧ x4 ≤ 1
  · rw [if_pos h4]
    by_cases hs : (1 ≤ x1 ∧ x1 ≤ 999) ∧ (1 ≤ x2 ∧ x2 ≤ 99) ∧ (0 ≤ x3 ∧ x3 ≤ 99)
    · rw [if_pos ⟨hs, h4⟩, ifI_lt (by omega) (by omega)]
      by_cases hp : x3 < x2
      · have hb : Bd (Rat.divInt x1 (x2 + x3)) 999 198 := Bd.of (by omega) (by omega) (by omega)
        have hb2 := Bd.add hb (a := x1) (b := x2 - x3) (A := 999) (B := 99) (by omega) (by omega) (by omega)
        obtain ⟨g1, g2⟩ := still_val (d := x1) (p := x2) (u := x3) (by omega) (by omega) hp rfl
        have k1 : x2 * x2 ≤ 99 * 99 := Int.mul_le_mul (by omega) (by omega) (by omega) (by omega)
        have k2 : x3 * x3 ≤ 99 * 99 := Int.mul_le_mul (by omega) (by omega) (by omega) (by omega)
        have k3 : 0 ≤ x2 * x2 := Int.mul_nonneg (by omega) (by omega)
        have k4 : 0 ≤ x3 * x3 := Int.mul_nonneg (by omega) (by omega)
        rw [openStream_yes hF hs hp, bnd3_s, if_pos hp]
        generalize Rat.divInt x1 (x2 + x3) + Rat.divInt x1 (x2 - x3) = t at hb2 g1 g2
        have k5 : (2 * x1 * (t.den : Int)).natAbs ≤ 1998 * (198 * 99) := by
          rw [Int.natAbs_mul, Int.natAbs_natCast]
          exact Nat.mul_le_mul (by omega) hb2.2
        have k6 := hb2.1
        unfold mb_X8_still_20 m_X9_zero
        rw [if_pos rfl, chk_pos hx1, put_spec hF (by omega) (by omega), bnd2_s, bnd2_s, chk_pos (by omega), chk_pos hx2, adds0 (A := 20000) (B := 99) (by omega) (by omega) (by omega) (by decide) (by decide), bnd2_s, side_spec hx4, half_spec hx4, bnd1_s, bnd1_s, g2]
        exact Eq1.mk
      · rw [openStream_no hs hp, bnd3_s, if_neg hp]
        unfold mb_X8_still_20
        rw [if_neg m10, chk_pos (by decide)]
        exact Eq1.mk
    · rw [openStream_bad hx1 hx2 hx3 hs, bnd3_s, if_neg (fun z => hs z.1)]
      unfold mb_X8_still_20
      rw [if_neg m20, chk_pos (by decide)]
      exact Eq1.mk
  · rw [if_neg h4, if_neg (fun z => h4 z.2)]
    unfold mb_X8_still_20
    rw [if_neg m20, chk_pos (by decide)]
    exact Eq1.mk
/-- ant -/
theorem op_ant (hF : 100000 ≤ F) {x1 x2 x3 : Int} (hx1 : r32 x1) (hx2 : r32 x2) (hx3 : r32 x3) : Eq0 (m_X8_ant F x1 x2 x3) (m_X9_ant F x1 x2 x3) := by
  unfold m_X8_ant m_X9_ant
  rw [isNoStream_spec hx1 hx2 hx3, bnd1_s, ifB, isStream_spec hx1 hx2 hx3 (show r32 0 by decide), bnd1_s, ifB]
  by_cases hs : (1 ≤ x1 ∧ x1 ≤ 999) ∧ (1 ≤ x2 ∧ x2 ≤ 99) ∧ (0 ≤ x3 ∧ x3 ≤ 99)
  · rw [if_neg (fun z => z hs), if_pos ⟨hs, by decide⟩]
    unfold ml_X8_ant_21 ml_X9_ant_27
    refine loopN_rel (I := fun s t => s = t ∧ (1 ≤ s.2.2 ∧ s.2.2 ≤ 1001) ∧ (1 ≤ s.2.1 ∧ s.2.1 ≤ 999 + 99 * s.2.2)) (μ := fun s => (1001 - s.2.2).toNat) (P := Eq0) ?_ F _ _ ?_ ?_
    · rintro k1 k2 ⟨x, y, z⟩ ⟨x', y', z'⟩ ⟨hxx, hz, hy⟩ ih
      cases hxx
      simp only at hz hy ih ⊢
      unfold mb_X8_ant_21 mb_X9_ant_27
      rw [ifI_lt (by decide) (by omega), ifI_lt (by decide) (by omega)]
      by_cases h1 : 1000 < z
      · rw [if_pos h1, if_pos h1]
        exact Eq0.mk
      · rw [if_neg h1, if_neg h1, chk_pos (by omega), chk_pos (by omega)]
        simp only [nam]
        by_cases h2 : wI (x + (x2 * 1000000).tdiv y) < wI 1000000
        · rw [if_pos h2, if_pos h2]
          exact ih _ _ ⟨rfl, by simp only; omega, by simp only; omega⟩ (by simp only; omega)
        · rw [if_neg h2, if_neg h2]
          exact Eq0.mk
    · exact ⟨rfl, by simp only; omega, by simp only; omega⟩
    · simp only
      omega
  · rw [if_pos hs, if_neg (fun z => hs z.1)]
    exact Eq0.mk
end STR
section DRW
variable {lines odds parts walkers bands sided st wk pc wd acts : Int} {steps speeds paces carried aP aS l h p a b c : Int → Int} {F : Nat}
theorem isNoSeed_spec {x : Int} (hx : r32 x) : m_X8_isNoSeed F x = some (bI (¬ (0 ≤ x ∧ x ≤ 2000000000))) := by
  unfold m_X8_isNoSeed
  rw [chk_pos hx, isOut_spec (by omega) (by decide) (by decide), bnd1_s, chk_pos bI_01]
theorem isDraw_spec {x : Int} (hx : r32 x) (hl : 0 ≤ l 0 ∧ l 0 ≤ 1000) : m_X9_isDraw F x l = some (bI (0 < l 0 ∧ (0 ≤ x ∧ x ≤ 2000000000))) := by
  unfold m_X9_isDraw
  rw [isStair_spec (by omega), bnd1_s, ifB, chk_pos hx, in_spec (by omega) (by decide) (by decide), bnd1_s, ifB]
  by_cases h1 : 0 < l 0
  · rw [if_pos h1]
    by_cases h2 : 0 ≤ x ∧ x ≤ 2000000000
    · rw [if_pos h2, bI_t ⟨h1, h2⟩]
    · rw [if_neg h2, bI_f (fun z => h2 z.2)]
  · rw [if_neg h1, bI_f (fun z => h1 z.1)]
theorem draw_pair (hF : 1000 ≤ F) (L : LayN lines odds parts steps speeds walkers paces bands carried sided st wk pc wd acts aP aS l h p a b c) {x : Int} (hx : 0 ≤ x ∧ x ≤ 2000000100) : ∃ bits, m_X8_stillFrom F x odds parts = some bits ∧ m_X9_drawnOf F x h = some bits ∧ r32 bits := by
  obtain ⟨-, ⟨e0, o0, o1⟩, ⟨e1, p0, p4⟩, -⟩ := id L
  unfold m_X8_stillFrom m_X9_drawnOf ml_X8_stillFrom_8 ml_X9_drawnOf_8
  refine loopN_rel (I := fun s t => s = t ∧ (0 ≤ s.1 ∧ s.1 ≤ 2147483648) ∧ r32 s.2.1 ∧ 0 ≤ s.2.2 ∧ s.2.2 ≤ parts) (μ := fun s => (parts - s.2.2).toNat) (P := fun X Y => ∃ bits, X = some bits ∧ Y = some bits ∧ r32 bits) ?_ F _ _ ?_ ?_
  · rintro k1 k2 ⟨y, z, i⟩ ⟨y', z', i'⟩ ⟨hxx, hy, hz, hi0, hi1⟩ ih
    cases hxx
    simp only at hy hz hi0 hi1 ih ⊢
    unfold mb_X8_stillFrom_8 mb_X9_drawnOf_8
    rw [e1, e0, ifI_le (by omega) (by omega), ifI_le (by omega) (by omega)]
    by_cases h1 : parts ≤ i
    · rw [if_pos h1, if_pos h1]
      exact ⟨z, rfl, rfl, hz⟩
    · have t1 := tmod_nn (a := 1103515245 * y + 12345) (b := 2147483648) (by omega) (by decide)
      simp only [nam]
      rw [if_neg h1, if_neg h1, chk_pos (by omega), chk_pos (by omega)]
      generalize (1103515245 * y + 12345).tmod 2147483648 = w at t1
      have t2 := tmod_nn (a := w) (b := 65536) (by omega) (by decide)
      have t3 := tmod_nn (a := w.tdiv 65536) (b := 100) (by omega) (by decide)
      rw [chk_pos (by omega), chk_pos (by omega), chk_pos (by omega), chk_pos (by omega), chk_pos (by omega), chk_pos (by omega), ifJ_le (by omega) (by omega), ifJ_le (by omega) (by omega)]
      simp only [mb_X8_stillFrom_64, mb_X9_drawnOf_63, nam]
      by_cases h2 : odds ≤ (w.tdiv 65536).tmod 100
      · rw [if_pos h2, if_pos h2, orI_0 hz]
        exact ih _ _ ⟨rfl, by simp only; omega, hz, by simp only; omega, by simp only; omega⟩ (by simp only; omega)
      · rw [if_neg h2, if_neg h2]
        exact ih _ _ ⟨rfl, by simp only; omega, orI_in _ _, by simp only; omega, by simp only; omega⟩ (by simp only; omega)
  · exact ⟨rfl, by simp only; omega, by simp only; decide, by simp only; omega, by simp only; omega⟩
  · simp only
    omega
/-- drawn -/
theorem op_drawn (hF : 1000 ≤ F) (L : LayN lines odds parts steps speeds walkers paces bands carried sided st wk pc wd acts aP aS l h p a b c) {x1 : Int} (hx1 : r32 x1) : Eq0 (m_X8_drawn F x1 lines odds parts) (m_X9_drawn F x1 h l) := by
  obtain ⟨⟨e0, l0, l1⟩, -⟩ := id L
  unfold m_X8_drawn m_X9_drawn
  rw [isNoSeed_spec hx1, bnd1_s, ifB, isThere_spec (by omega), bnd1_s, ifB, isDraw_spec hx1 (by omega), bnd1_s, ifB, e0]
  by_cases h1 : 0 ≤ x1 ∧ x1 ≤ 2000000000
  · rw [if_neg (fun z => z h1)]
    by_cases h2 : 0 < lines
    · obtain ⟨bits, f1, f2, -⟩ := draw_pair hF L (x := x1) (by omega)
      rw [if_pos h2, if_pos ⟨h2, h1⟩, chk_pos hx1, chk_pos hx1, f1, f2, bnd1_s, bnd1_s]
      exact Eq0.mk
    · rw [if_neg h2, if_neg (fun z => h2 z.1)]
      exact Eq0.mk
  · rw [if_pos h1, if_neg (fun z => h1 z.2)]
    exact Eq0.mk
theorem isBit_spec {x i : Int} : m_X9_isBit F x i = some (bI (bitJ x i)) := by
  unfold m_X9_isBit bI bitJ
  split <;> rfl
/-- luck -/
theorem op_luck (hF : 1000 ≤ F) (L : LayN lines odds parts steps speeds walkers paces bands carried sided st wk pc wd acts aP aS l h p a b c) (hlw : 0 < walkers → 0 < lines) {x1 x2 x3 x4 : Int} (hx1 : r32 x1) (hx2 : r32 x2) (hx3 : r32 x3) (hx4 : r32 x4) (u v u' v' : Int) (sp : Int → Int) : Eq1 (m_X8_luck F x1 x2 x3 x4 odds parts walkers paces speeds steps u v) (m_X9_luck F x1 x2 x3 x4 u' v' c h l a p sp) := by
  obtain ⟨⟨e0, l0, l1⟩, -, ⟨e1, p0, p4⟩, ⟨e2, w0, w8⟩, -, -, -, hq, hw, -⟩ := id L
  obtain ⟨s1, e, hs⟩ := isTrain_spec hF L hx3 hx4 sp
  unfold m_X8_luck m_X9_luck
  rw [isNoSeed_spec hx1, bnd1_s, ifB, chk_pos hx2, isOut_spec (by omega) (by decide) (by decide), bnd1_s, ifB, hasWalker_spec hx3 ⟨w0, w8⟩, bnd1_s, ifB, chk_pos hx4, isOut_spec (by omega) (by decide) (by decide), bnd1_s, ifB, isDraw_spec hx1 (by omega), bnd1_s, ifB, chk_pos hx2, in_spec (by omega) (by decide) (by decide), bnd1_s, ifB, e, bnd2_s, ifB, e0]
  by_cases h1 : 0 ≤ x1 ∧ x1 ≤ 2000000000
  · by_cases h2 : 1 ≤ x2 ∧ x2 ≤ 20
    · by_cases h3 : 0 ≤ x3 ∧ x3 < walkers
      · have hl := hlw (by omega)
        by_cases h4 : 0 ≤ x4 ∧ x4 ≤ 600
        · have hp := hw x3 h3.1 h3.2
          rw [if_neg (show ¬ ¬ (0 ≤ x1 ∧ x1 ≤ 2000000000) from fun z => z h1), if_neg (show ¬ ¬ (1 ≤ x2 ∧ x2 ≤ 20) from fun z => z h2), if_pos h3, if_neg (show ¬ ¬ (0 ≤ x4 ∧ x4 ≤ 600) from fun z => z h4), if_pos (show 0 < lines ∧ 0 ≤ x1 ∧ x1 ≤ 2000000000 from ⟨hl, h1⟩), if_pos h2, if_pos (show (0 ≤ x3 ∧ x3 < walkers) ∧ 0 ≤ x4 ∧ x4 ≤ 600 from ⟨h3, h4⟩)]
          unfold ml_X8_luck_52 ml_X9_luck_44
          refine loopN_rel (I := fun s t => s.1 = t.1 ∧ s.2.1 = t.2.1 ∧ 0 ≤ s.2.1 ∧ s.2.1 ≤ 20) (μ := fun s => (20 - s.2.1).toNat) (P := Eq1) ?_ F _ _ ?_ ?_
          · rintro k1 k2 ⟨n, x, A1, B1⟩ ⟨n', x', A2, B2, sp2⟩ ⟨hn, hxx, hx0, hx20⟩ ih
            simp only at hn hxx hx0 hx20 ih ⊢
            subst hn; subst hxx
            unfold mb_X8_luck_52 mb_X9_luck_44
            rw [ifI_le (by omega) (by omega), ifI_le (by omega) (by omega)]
            by_cases hx : x2 ≤ x
            · rw [if_pos hx, if_pos hx]
              exact Eq1.mk
            · obtain ⟨bits, f1, f2, hbits⟩ := draw_pair hF L (x := x1 + x) (by omega)
              obtain ⟨s3, e3, hs3⟩ := lays_spec hF L sp2
              have cr := res_of (crosses_spec hF (pace := paces x3) (still := bits) (parts := parts) (sp := speeds) (stp := steps) ⟨p0, p4⟩ (fun i g0 g1 => by
                have := hq i g0 g1
                have := L.speeds_in g0 g1
                unfold rtS
                split <;> omega))
              rw [if_neg hx, if_neg hx, chk_pos (by omega), chk_pos hx1, chk_pos (by omega), f1, bnd1_s, e3, bnd1_s, chk_pos hx1, chk_pos (by omega), f2, bnd1_s]
              unfold ml_X9_luck_69
              refine loopN_rec (I := fun q : Int × (Int → Int) => 0 ≤ q.1 ∧ q.1 ≤ parts ∧ ∀ i, 0 ≤ i → i < parts → q.2 i = if i < q.1 ∧ bitJ bits i then 0 else speeds i) (μ := fun q => (parts - q.1).toNat) (P := fun q y => Eq1 (bnd3 (m_X6_isWithin F (paces x3) bits x4 parts speeds steps) fun r6 o7 o8 => if wI r6 = wI 0 then mb_X8_luck_96 F (fun y0 y1 y2 y3 => k1 (y0, y1, y2, y3)) x1 x2 x3 x4 n x odds parts paces speeds steps o7 o8 else mb_X8_luck_96 F (fun y0 y1 y2 y3 => k1 (y0, y1, y2, y3)) x1 x2 x3 x4 (n + 1) x odds parts paces speeds steps o7 o8) y) ?_ F (0, s3) ?_ ?_
              · rintro k ⟨i, s⟩ ⟨i0, i1, hsi⟩ ih2
                simp only at i0 i1 hsi ih2 ⊢
                unfold mb_X9_luck_69
                rw [e1, ifI_le (by omega) (by omega)]
                by_cases hi : parts ≤ i
                · have hrate : ∀ j, 0 ≤ j → j < parts → paces x3 + 1 * s j = rtS bits (paces x3) speeds j := fun j j0 j1 => by
                    rw [hsi j j0 j1]
                    unfold rtS
                    by_cases hb : bitJ bits j
                    · rw [if_pos ⟨by omega, hb⟩, if_pos hb]
                      omega
                    · rw [if_neg (fun z => hb z.2), if_neg hb]
                      omega
                  have go := res_of (goes_spec hF (by_ := paces x3) (way := 1) (h := h) (p := p) (sp := s) (by omega) (fun j j0 j1 => by
                    have := hq j j0 (by omega)
                    have h9 := L.speeds_in j0 (show j < parts by omega)
                    rw [hrate j j0 (by omega)]
                    unfold rtS
                    split <;> omega))
                  rw [tmO_congr (st' := steps) (r' := rtS bits (paces x3) speeds) (fun j j0 j1 => ⟨(hq j j0 (by omega)).1, hrate j j0 (by omega)⟩), e1] at go
                  rw [if_pos hi, chk_pos (by omega), hp.1]
                  unfold m_X6_isWithin
                  cases hT : tmO steps (rtS bits (paces x3) speeds) parts.toNat 0 with
                  | none =>
                    rw [hT] at cr go
                    obtain ⟨A, B, cr⟩ := cr
                    obtain ⟨A', B', go⟩ := go
                    rw [cr, go, bnd3_s, bnd3_s, if_pos rfl, if_pos rfl, bnd3_s, if_pos rfl]
                    simp only [mb_X8_luck_96, mb_X9_luck_140, mb_X9_luck_141, nam, Int.add_zero]
                    exact ih _ _ ⟨rfl, rfl, by simp only; omega, by simp only; omega⟩ (by simp only; omega)
                  | some q =>
                    obtain ⟨hb, hq0⟩ := tmO_bt (A := 200) hT (fun j j0 j1 => by
                      have := hq j j0 (by omega)
                      have := L.speeds_in j0 (show j < parts by omega)
                      unfold rtS
                      split <;> omega)
                    have hqn : Nq q := hb.nq hq0 (Cap8.le (by omega))
                    have hd := hb.den (pow90 (by omega))
                    obtain ⟨g1, g2, g3⟩ := hqn.p
                    have m4 : 0 ≤ x4 * (q.den : Int) := Int.mul_nonneg h4.1 (by omega)
                    have m5 : x4 * (q.den : Int) ≤ 600 * (q.den : Int) := Int.mul_le_mul_of_nonneg_right h4.2 (by omega)
                    rw [hT] at cr go
                    simp only [Res] at cr go
                    rw [cr, go, bnd3_s, bnd3_s, if_neg one0, if_neg one0, chk_pos hx4, chk_pos hx4, isAbove_spec h4 hqn (by omega), bnd1_s, ifB, ifJ_lt (by omega) (by omega)]
                    simp only [mb_X8_luck_96, mb_X9_luck_140, mb_X9_luck_141, nam, Int.add_zero]
                    by_cases g : x4 * (q.den : Int) < q.num
                    · rw [if_pos g, if_pos g, bnd3_s, if_pos rfl]
                      exact ih _ _ ⟨rfl, rfl, by simp only; omega, by simp only; omega⟩ (by simp only; omega)
                    · rw [if_neg g, if_neg g, bnd3_s, if_neg one0]
                      exact ih _ _ ⟨rfl, rfl, by simp only; omega, by simp only; omega⟩ (by simp only; omega)
                · rw [if_neg hi, isBit_spec, bnd1_s, ifB]
                  simp only [mb_X9_luck_98]
                  by_cases hb : bitJ bits i
                  · rw [if_pos hb, chk_pos (by omega)]
                    refine ih2 (i + 1, up s i 0) ⟨by simp only; omega, by simp only; omega, fun j j0 j1 => ?_⟩ (by simp only; omega)
                    simp only [up]
                    by_cases ej : j = i
                    · rw [if_pos ej, if_pos ⟨by omega, by rw [ej]; exact hb⟩]
                    · rw [if_neg ej, hsi j j0 j1]
                      by_cases hj : j < i ∧ bitJ bits j
                      · rw [if_pos hj, if_pos ⟨by omega, hj.2⟩]
                      · rw [if_neg hj, if_neg (fun z => hj ⟨by omega, z.2⟩)]
                  · rw [if_neg hb]
                    refine ih2 (i + 1, s) ⟨by simp only; omega, by simp only; omega, fun j j0 j1 => ?_⟩ (by simp only; omega)
                    simp only
                    rw [hsi j j0 j1]
                    by_cases hj : j < i ∧ bitJ bits j
                    · rw [if_pos hj, if_pos ⟨by omega, hj.2⟩]
                    · rw [if_neg hj, if_neg (fun z => by
                        by_cases ej : j = i
                        · exact hb (ej ▸ z.2)
                        · exact hj ⟨by omega, z.2⟩)]
              · refine ⟨by simp only; omega, by simp only; omega, fun j j0 j1 => ?_⟩
                simp only
                rw [hs3 j j0 j1, if_neg (fun z => by omega)]
              · simp only
                omega
          · exact ⟨rfl, rfl, by simp only; omega, by simp only; omega⟩
          · simp only
            omega
        · simp only [h1, h2, h3, h4, hl, and_self, not_true_eq_false, not_false_eq_true, if_false, if_true, and_false]
          exact Eq1.mk
      · simp only [h1, h2, h3, and_self, not_true_eq_false, if_false, if_true, false_and]
        split <;> exact Eq1.mk
    · simp only [h1, h2, and_self, not_true_eq_false, not_false_eq_true, if_false, if_true]
      split <;> exact Eq1.mk
  · simp only [h1, not_false_eq_true, if_true, and_false, if_false]
    exact Eq1.mk
end DRW
/-! count, image, back (k), feed, end, fault -/
theorem cpy0 {f g : Int → Int} {n k : Int} (h0 : 0 ≤ k) (h1 : k < n) : cpy f g 0 0 n k = f k := by
  unfold cpy
  rw [if_pos (by omega), show 0 + (k - 0) = k by omega]
def TapeR (n : Int) (f g : Int → Int) : Prop := (0 ≤ n ∧ n ≤ 900) ∧ ∀ i, 0 ≤ i → i < n → f i = g i ∧ -128 ≤ f i ∧ f i ≤ 127
section TAPE
variable {F : Nat}
theorem four_pair (hF : 1000 ≤ F) {n x : Int} {f g : Int → Int} (T : TapeR n f g) (hn : n + 4 ≤ 900) : ∃ f' g', m_X8_putBytes F x n f = some (n + 4, f') ∧ m_X9_four F x n g = some (n + 4, g') ∧ TapeR (n + 4) f' g' := by
  obtain ⟨⟨n0, n9⟩, hT⟩ := id T
  unfold m_X8_putBytes m_X9_four ml_X8_putBytes_3 ml_X9_four_3
  refine loopN_rel (I := fun s t => s.1 = t.1 ∧ s.2.1 = t.2.1 ∧ (-8 ≤ s.1 ∧ s.1 ≤ 24) ∧ 8 * (s.2.1 - n) = 24 - s.1 ∧ ∀ i, 0 ≤ i → i < s.2.1 → s.2.2 i = t.2.2 i ∧ -128 ≤ s.2.2 i ∧ s.2.2 i ≤ 127) (μ := fun s => (s.1 + 8).toNat) (P := fun X Y => ∃ f' g', X = some (n + 4, f') ∧ Y = some (n + 4, g') ∧ TapeR (n + 4) f' g') ?_ F _ _ ?_ ?_
  · rintro k1 k2 ⟨y, m, f1⟩ ⟨y', m', g1⟩ ⟨hy, hm, hyr, he, hf⟩ ih
    simp only at hy hm hyr he hf ih ⊢
    subst hy; subst hm
    unfold mb_X8_putBytes_3 mb_X9_four_3
    rw [ifI_lt (by omega) (by decide), ifI_lt (by omega) (by decide)]
    by_cases h1 : y < 0
    · have e : m = n + 4 := by omega
      subst e
      rw [if_pos h1, if_pos h1]
      exact ⟨f1, g1, rfl, rfl, ⟨by omega, hn⟩, hf⟩
    · rw [if_neg h1, if_neg h1, ifI_le (by decide) (by omega), if_neg (by omega)]
      simp only [nam]
      rw [chk_pos (by omega), chk_pos (by omega)]
      refine ih _ _ ⟨rfl, rfl, by simp only; omega, by simp only; omega, fun i i0 i1 => ?_⟩ (by simp only; omega)
      simp only [up] at i1 ⊢
      by_cases e : i = m
      · rw [if_pos e, if_pos e]
        exact ⟨rfl, b8_in _⟩
      · rw [if_neg e, if_neg e]
        exact hf i i0 (by omega)
  · exact ⟨rfl, rfl, by simp only; omega, by simp only; omega, hT⟩
  · simp only
    omega
/-- feed -/
theorem op_feed (hF : 1000 ≤ F) {n : Int} {f g : Int → Int} (T : TapeR n f g) (x1 x2 x3 x4 x5 : Int) : ∃ r n' f' t g', m_X8_feed F x1 x2 x3 x4 x5 n f = some (r, n', f') ∧ m_X9_feed F x1 x2 x3 x4 x5 n g = some (r, t, n', g') ∧ TapeR n' f' g' := by
  obtain ⟨⟨n0, n9⟩, -⟩ := id T
  unfold m_X8_feed m_X9_feed
  rw [ifI_le (by omega) (by decide), ifI_le (by omega) (by decide)]
  by_cases h1 : n + 20 ≤ 900
  · rw [if_pos h1, if_pos h1]
    obtain ⟨f1, g1, a1, b1, T1⟩ := four_pair hF T (x := x1) (by omega)
    obtain ⟨f2, g2, a2, b2, T2⟩ := four_pair hF T1 (x := x2) (by omega)
    obtain ⟨f3, g3, a3, b3, T3⟩ := four_pair hF T2 (x := x3) (by omega)
    obtain ⟨f4, g4, a4, b4, T4⟩ := four_pair hF T3 (x := x4) (by omega)
    obtain ⟨f5, g5, a5, b5, T5⟩ := four_pair hF T4 (x := x5) (by omega)
    rw [a1, b1, bnd2_s, bnd2_s, a2, b2, bnd2_s, bnd2_s, a3, b3, bnd2_s, bnd2_s, a4, b4, bnd2_s, bnd2_s, a5, b5, bnd2_s, bnd2_s]
    exact ⟨_, _, _, _, _, rfl, rfl, T5⟩
  · rw [if_neg h1, if_neg h1]
    exact ⟨_, _, _, _, _, rfl, rfl, T⟩
/-- end -/
theorem op_end {n : Int} {f g : Int → Int} (T : TapeR n f g) {x1 : Int} (hx1 : r32 x1) : ∃ r n' t, m_X8_end F x1 n = some (r, n') ∧ m_X9_end F x1 n = some (r, t, n') ∧ TapeR n' f g := by
  obtain ⟨⟨n0, n9⟩, hT⟩ := id T
  unfold m_X8_end m_X9_end
  rw [ifI_lt hx1 (by decide), ifI_le hx1 (by omega), chk_pos hx1, chk_pos (by omega), in_spec (by omega) (by decide) (by omega), bnd1_s, ifB]
  by_cases h1 : x1 < 0
  · rw [if_pos h1, if_neg (by omega)]
    exact ⟨_, _, _, rfl, rfl, T⟩
  · rw [if_neg h1]
    by_cases h2 : x1 ≤ n
    · rw [if_pos h2, if_pos (by omega)]
      exact ⟨_, _, _, rfl, rfl, ⟨by omega, by omega⟩, fun i i0 i1 => hT i i0 (by omega)⟩
    · rw [if_neg h2, if_neg (by omega)]
      exact ⟨_, _, _, rfl, rfl, T⟩
/-- fault -/
theorem op_fault (x1 k pl : Int) : Eq0 (m_X8_fault F x1 k pl) (m_X9_fault F x1 k pl) := by
  unfold m_X8_fault m_X9_fault
  by_cases h0 : wI x1 = wI 0
  · rw [if_pos h0, if_pos h0]
    exact Eq0.mk
  · by_cases h1 : wI x1 = wI 1
    · rw [if_neg h0, if_neg h0, if_pos h1, if_pos h1]
      exact Eq0.mk
    · rw [if_neg h0, if_neg h0, if_neg h1, if_neg h1]
      exact Eq0.mk
end TAPE
theorem Lay.congr8 {lines odds parts walkers bands sided st wk pc wd acts l : Int} {steps speeds paces carried aP aS h p a b c steps' speeds' paces' carried' aP' aS' : Int → Int} (L : Lay lines odds parts steps speeds walkers paces bands carried sided st wk pc wd acts aP aS l h p a b c)
    (h1 : ∀ i, 0 ≤ i → i < 4 → steps' i = steps i ∧ speeds' i = speeds i ∧ carried' i = carried i) (h2 : ∀ i, 0 ≤ i → i < 8 → paces' i = paces i) (h3 : ∀ i, 0 ≤ i → i < 60 → aP' i = aP i ∧ aS' i = aS i) : Lay lines odds parts steps' speeds' walkers paces' bands carried' sided st wk pc wd acts aP' aS' l h p a b c := by
  obtain ⟨g1, g2, g3, g4, g5, g6, g7, g8, g9, g10, g11, g12⟩ := L
  refine ⟨g1, g2, g3, g4, g5, g6, g7, fun i i0 i1 => ?_, fun i i0 i1 => ?_, fun i i0 i1 => ?_, fun k hk => ?_, fun i i0 i1 => ?_⟩
  · rw [(h1 i i0 (by omega)).1]
    exact g8 i i0 i1
  · rw [h2 i i0 (by omega)]
    exact g9 i i0 i1
  · rw [(h1 i i0 (by omega)).2.2]
    exact g10 i i0 i1
  · rw [(h3 k (by omega) (by omega)).1, (h3 k (by omega) (by omega)).2]
    exact g11 k hk
  · rw [(h1 i i0 (by omega)).2.1]
    exact g12 i i0 i1
/-- one region of a row is a copy of another, the rest stays -/
def Reg (m x y : Int) (f f' : Int → Int) : Prop := (∀ i, 0 ≤ i → i < m → f' (m * y + i) = f (m * x + i)) ∧ ∀ j, (j < m * y ∨ m * y + m ≤ j) → f' j = f j
theorem copyRow_spec {F n : Nat} (hF : 1000 ≤ F) {m x y : Int} {f : Int → Int} (hm : 0 ≤ m ∧ m ≤ 120) (hx : 0 ≤ m * x ∧ m * x + m ≤ n) (hy : 0 ≤ m * y ∧ m * y + m ≤ n) (hxy : m * x + m ≤ m * y ∨ m * y + m ≤ m * x) : ∃ f', m_X9_copyRow F n m x y f = some f' ∧ Reg m x y f f' := by
  unfold m_X9_copyRow ml_X9_copyRow_3 Reg
  have key := loopN_rec (body := fun (k : Int × (Int → Int) → Option ((Int → Int))) q => mb_X9_copyRow_3 F (fun y0 y1 => k (y0, y1)) n m x y q.1 q.2) (I := fun q : Int × (Int → Int) => 0 ≤ q.1 ∧ q.1 ≤ m ∧ ∀ j, q.2 j = if m * y ≤ j ∧ j < m * y + q.1 then f (m * x + (j - m * y)) else f j) (μ := fun q => (m - q.1).toNat) (P := fun q z => ∃ f' : Int → Int, z = some f' ∧ ∀ j, f' j = if m * y ≤ j ∧ j < m * y + m then f (m * x + (j - m * y)) else f j) ?_ F (0, f) ?_ ?_
  · obtain ⟨f', e, hf⟩ := key
    refine ⟨f', e, fun i i0 i1 => ?_, fun j hj => ?_⟩
    · rw [hf, if_pos (by omega), show m * x + (m * y + i - m * y) = m * x + i by omega]
    · rw [hf, if_neg (by omega)]
  · rintro k ⟨i, g⟩ ⟨i0, i1, hg⟩ ih
    simp only at i0 i1 hg ih ⊢
    unfold mb_X9_copyRow_3
    rw [ifI_le (by omega) (by omega)]
    by_cases h1 : m ≤ i
    · rw [if_pos h1]
      refine ⟨g, rfl, fun j => ?_⟩
      rw [hg, show i = m by omega]
    · rw [if_neg h1, chk_pos (by omega)]
      simp only [nam]
      rw [chk_pos (by omega)]
      refine ih _ ⟨by simp only; omega, by simp only; omega, fun j => ?_⟩ (by simp only; omega)
      simp only [up]
      by_cases e : j = m * y + i
      · rw [if_pos e, if_pos (by omega), hg, if_neg (by omega), e, show m * x + (m * y + i - m * y) = m * x + i by omega]
      · rw [if_neg e, hg]
        by_cases e2 : m * y ≤ j ∧ j < m * y + i
        · rw [if_pos e2, if_pos (by omega)]
        · rw [if_neg e2, if_neg (by omega)]
  · refine ⟨by simp only; omega, by simp only; omega, fun j => ?_⟩
    simp only
    rw [if_neg (by omega)]
  · simp only
    omega
theorem copyStair_spec {F : Nat} (hF : 1000 ≤ F) {x y : Int} (hx : 0 ≤ x ∧ x ≤ 4) (hy : 0 ≤ y ∧ y ≤ 4) (hxy : x ≠ y) (c b h l a p : Int → Int) : ∃ c' b' h' l' a' p', m_X9_copyStair F x y c b h l a p = some (c', b', h', l', a', p') ∧ Reg 1 x y l l' ∧ Reg 9 x y h h' ∧ Reg 8 x y p p' ∧ Reg 8 x y a a' ∧ Reg 4 x y b b' ∧ Reg 120 x y c c' := by
  unfold m_X9_copyStair
  obtain ⟨l', e1, r1⟩ := copyRow_spec (n := 5) hF (m := 1) (x := x) (y := y) (f := l) (by omega) (by omega) (by omega) (by omega)
  obtain ⟨h', e2, r2⟩ := copyRow_spec (n := 45) hF (m := 9) (x := x) (y := y) (f := h) (by omega) (by omega) (by omega) (by omega)
  obtain ⟨p', e3, r3⟩ := copyRow_spec (n := 40) hF (m := 8) (x := x) (y := y) (f := p) (by omega) (by omega) (by omega) (by omega)
  obtain ⟨a', e4, r4⟩ := copyRow_spec (n := 40) hF (m := 8) (x := x) (y := y) (f := a) (by omega) (by omega) (by omega) (by omega)
  obtain ⟨b', e5, r5⟩ := copyRow_spec (n := 20) hF (m := 4) (x := x) (y := y) (f := b) (by omega) (by omega) (by omega) (by omega)
  obtain ⟨c', e6, r6⟩ := copyRow_spec (n := 600) hF (m := 120) (x := x) (y := y) (f := c) (by omega) (by omega) (by omega) (by omega)
  rw [e1, bnd1_s, e2, bnd1_s, e3, bnd1_s, e4, bnd1_s, e5, bnd1_s, e6, bnd1_s]
  exact ⟨_, _, _, _, _, _, rfl, r1, r2, r3, r4, r5, r6⟩
/-- the reference's region k -/
abbrev LayK (k : Int) (lines odds parts : Int) (steps speeds : Int → Int) (walkers : Int) (paces : Int → Int) (bands : Int) (carried : Int → Int) (sided st wk pc wd acts : Int) (aP aS : Int → Int) (l h p a b c : Int → Int) : Prop := Lay lines odds parts steps speeds walkers paces bands carried sided st wk pc wd acts aP aS (l k) (fun i => h (9 * k + i)) (fun i => p (8 * k + i)) (fun i => a (8 * k + i)) (fun i => b (4 * k + i)) (fun i => c (120 * k + i))
section REG
variable {lines odds parts walkers bands sided st wk pc wd acts : Int} {steps speeds paces carried aP aS l h p a b c l' h' p' a' b' c' : Int → Int}
theorem LayK.copied {x y : Int} (L : LayK x lines odds parts steps speeds walkers paces bands carried sided st wk pc wd acts aP aS l h p a b c) (r1 : Reg 1 x y l l') (r2 : Reg 9 x y h h') (r3 : Reg 8 x y p p') (r4 : Reg 8 x y a a') (r5 : Reg 4 x y b b') (r6 : Reg 120 x y c c') : LayK y lines odds parts steps speeds walkers paces bands carried sided st wk pc wd acts aP aS l' h' p' a' b' c' := by
  have e : l' y = l x := by
    have := r1.1 0 (by decide) (by decide)
    rw [Int.one_mul, Int.one_mul, Int.add_zero, Int.add_zero] at this
    exact this
  unfold LayK
  rw [e]
  exact Lay.congr L (fun i i0 i1 => r2.1 i i0 i1) (fun i i0 i1 => r3.1 i i0 i1) (fun i i0 i1 => r4.1 i i0 i1) (fun i i0 i1 => r5.1 i i0 i1) (fun i i0 i1 => r6.1 i i0 i1)
theorem LayK.stays {x y k : Int} (hk : k ≠ y) (L : LayK k lines odds parts steps speeds walkers paces bands carried sided st wk pc wd acts aP aS l h p a b c) (r1 : Reg 1 x y l l') (r2 : Reg 9 x y h h') (r3 : Reg 8 x y p p') (r4 : Reg 8 x y a a') (r5 : Reg 4 x y b b') (r6 : Reg 120 x y c c') : LayK k lines odds parts steps speeds walkers paces bands carried sided st wk pc wd acts aP aS l' h' p' a' b' c' := by
  have e : l' k = l k := r1.2 k (by omega)
  unfold LayK
  rw [e]
  exact Lay.congr L (fun i i0 i1 => r2.2 _ (by omega)) (fun i i0 i1 => r3.2 _ (by omega)) (fun i i0 i1 => r4.2 _ (by omega)) (fun i i0 i1 => r5.2 _ (by omega)) (fun i i0 i1 => r6.2 _ (by omega))
theorem LayK.zero (L : LayN lines odds parts steps speeds walkers paces bands carried sided st wk pc wd acts aP aS l h p a b c) : LayK 0 lines odds parts steps speeds walkers paces bands carried sided st wk pc wd acts aP aS l h p a b c :=
  Lay.congr L (fun i _ _ => by rw [Int.mul_zero, Int.zero_add]) (fun i _ _ => by rw [Int.mul_zero, Int.zero_add]) (fun i _ _ => by rw [Int.mul_zero, Int.zero_add]) (fun i _ _ => by rw [Int.mul_zero, Int.zero_add]) (fun i _ _ => by rw [Int.mul_zero, Int.zero_add])
theorem LayK.unzero (L : LayK 0 lines odds parts steps speeds walkers paces bands carried sided st wk pc wd acts aP aS l h p a b c) : LayN lines odds parts steps speeds walkers paces bands carried sided st wk pc wd acts aP aS l h p a b c :=
  Lay.congr L (fun i _ _ => by rw [Int.mul_zero, Int.zero_add]) (fun i _ _ => by rw [Int.mul_zero, Int.zero_add]) (fun i _ _ => by rw [Int.mul_zero, Int.zero_add]) (fun i _ _ => by rw [Int.mul_zero, Int.zero_add]) (fun i _ _ => by rw [Int.mul_zero, Int.zero_add])
theorem Lay.sided01 {l : Int} (L : Lay lines odds parts steps speeds walkers paces bands carried sided st wk pc wd acts aP aS l h p a b c) : sided = 0 ∨ sided = 1 := by
  obtain ⟨-, -, -, -, -, -, g7, -⟩ := L
  rcases g7 with ⟨q, -⟩ | ⟨q, -⟩
  · exact Or.inl q
  · exact Or.inr q
end REG
/-- the images on both sides -/
def ImgR (im iL iO iP iW iB iS iT iK iC iD iA : Int → Int) (jP jS jC jW jV jT : Int → Int → Int) (kept l h p a b c : Int → Int) : Prop :=
  ∀ k, 0 ≤ k → k < 3 → (im k = 0 ∧ kept k = 0) ∨ (im k = 1 ∧ kept k = 1 ∧ LayK (1 + k) (iL k) (iO k) (iP k) (jT k) (jV k) (iW k) (jW k) (iB k) (jC k) (iS k) (iT k) (iK k) (iC k) (iD k) (iA k) (jP k) (jS k) l h p a b c ∧ (0 < iW k → 0 < iL k))
section IMG
variable {lines odds parts walkers bands sided st wk pc wd acts : Int} {steps speeds paces carried aP aS l h p a b c : Int → Int} {F : Nat}
variable {im iL iO iP iW iB iS iT iK iC iD iA kept : Int → Int} {jP jS jC jW jV jT : Int → Int → Int}
/-- image -/
theorem op_image (hF : 1000 ≤ F) (L : LayN lines odds parts steps speeds walkers paces bands carried sided st wk pc wd acts aP aS l h p a b c) (hlw : 0 < walkers → 0 < lines) (I : ImgR im iL iO iP iW iB iS iT iK iC iD iA jP jS jC jW jV jT kept l h p a b c) {x1 : Int} (hx1 : r32 x1) :
    ∃ v w, m_X8_image F x1 im iL iO iP iW iB iS iT iK iC iD iA jP jS jC jW jV jT lines odds parts walkers bands sided st wk pc wd acts aP aS carried paces speeds steps = some v ∧ m_X9_image F x1 c b h kept l a p = some w ∧ v.1 = w.1 ∧
      ImgR v.2.1 v.2.2.1 v.2.2.2.1 v.2.2.2.2.1 v.2.2.2.2.2.1 v.2.2.2.2.2.2.1 v.2.2.2.2.2.2.2.1 v.2.2.2.2.2.2.2.2.1 v.2.2.2.2.2.2.2.2.2.1 v.2.2.2.2.2.2.2.2.2.2.1 v.2.2.2.2.2.2.2.2.2.2.2.1 v.2.2.2.2.2.2.2.2.2.2.2.2.1 v.2.2.2.2.2.2.2.2.2.2.2.2.2.1 v.2.2.2.2.2.2.2.2.2.2.2.2.2.2.1 v.2.2.2.2.2.2.2.2.2.2.2.2.2.2.2.1 v.2.2.2.2.2.2.2.2.2.2.2.2.2.2.2.2.1 v.2.2.2.2.2.2.2.2.2.2.2.2.2.2.2.2.2.1 v.2.2.2.2.2.2.2.2.2.2.2.2.2.2.2.2.2.2 w.2.2.2.2.2.1 w.2.2.2.2.2.2.1 w.2.2.2.2.1 w.2.2.2.2.2.2.2.2 w.2.2.2.2.2.2.2.1 w.2.2.2.1 w.2.2.1 ∧
      LayN lines odds parts steps speeds walkers paces bands carried sided st wk pc wd acts aP aS w.2.2.2.2.2.2.1 w.2.2.2.2.1 w.2.2.2.2.2.2.2.2 w.2.2.2.2.2.2.2.1 w.2.2.2.1 w.2.2.1 := by
  unfold m_X8_image m_X9_image
  rw [chk_pos hx1, isOut_spec (by omega) (by decide) (by decide), bnd1_s, ifB, chk_pos hx1, in_spec (by omega) (by decide) (by decide), bnd1_s, ifB]
  by_cases h1 : 0 ≤ x1 ∧ x1 ≤ 2
  · obtain ⟨c', b', h', l', a', p', e, r1, r2, r3, r4, r5, r6⟩ := copyStair_spec hF (x := 0) (y := 1 + x1) (by omega) (by omega) (by omega) c b h l a p
    unfold m_X2_copyFrom
    rw [if_neg (fun z => z h1), if_pos h1, chk_pos (by omega), chk_pos L.sided01, bnd17_s, chk_pos (by omega), e, bnd6_s, chk_pos (by omega)]
    refine ⟨_, _, rfl, rfl, rfl, fun k k0 k1 => ?_, (LayK.stays (x := 0) (y := 1 + x1) (by omega) (LayK.zero L) r1 r2 r3 r4 r5 r6).unzero⟩
    by_cases ek : k = x1
    · subst ek
      simp only [up_at]
      refine Or.inr ⟨trivial, trivial, ?_, hlw⟩
      have L' := LayK.copied (LayK.zero L) r1 r2 r3 r4 r5 r6
      exact Lay.congr8 L' (fun i i0 i1 => ⟨cpy0 i0 i1, cpy0 i0 i1, cpy0 i0 i1⟩) (fun i i0 i1 => cpy0 i0 i1) (fun i i0 i1 => ⟨cpy0 i0 i1, cpy0 i0 i1⟩)
    · simp only [up_ne ek]
      rcases I k k0 k1 with q | ⟨q1, q2, q3, q4⟩
      · exact Or.inl q
      · exact Or.inr ⟨q1, q2, LayK.stays (by omega) q3 r1 r2 r3 r4 r5 r6, q4⟩
  · rw [if_pos h1, if_neg h1]
    exact ⟨_, _, rfl, rfl, rfl, I, L⟩
/-- back (k) -/
theorem op_backk (hF : 1000 ≤ F) (L : LayN lines odds parts steps speeds walkers paces bands carried sided st wk pc wd acts aP aS l h p a b c) (hlw : 0 < walkers → 0 < lines) (I : ImgR im iL iO iP iW iB iS iT iK iC iD iA jP jS jC jW jV jT kept l h p a b c) {x1 : Int} (hx1 : r32 x1) :
    ∃ v w, m_X8_back_ F x1 im iL iO iP iW iB iS iT iK iC iD iA jP jS jC jW jV jT lines odds parts walkers bands sided st wk pc wd acts aP aS carried paces speeds steps = some v ∧ m_X9_back_ F x1 c b h kept l a p = some w ∧ v.1 = w.1 ∧
      LayN v.2.1 v.2.2.1 v.2.2.2.1 v.2.2.2.2.2.2.2.2.2.2.2.2.2.2.2.2.2 v.2.2.2.2.2.2.2.2.2.2.2.2.2.2.2.2.1 v.2.2.2.2.1 v.2.2.2.2.2.2.2.2.2.2.2.2.2.2.2.1 v.2.2.2.2.2.1 v.2.2.2.2.2.2.2.2.2.2.2.2.2.2.1 v.2.2.2.2.2.2.1 v.2.2.2.2.2.2.2.1 v.2.2.2.2.2.2.2.2.1 v.2.2.2.2.2.2.2.2.2.1 v.2.2.2.2.2.2.2.2.2.2.1 v.2.2.2.2.2.2.2.2.2.2.2.1 v.2.2.2.2.2.2.2.2.2.2.2.2.1 v.2.2.2.2.2.2.2.2.2.2.2.2.2.1 w.2.2.2.2.2.1 w.2.2.2.2.1 w.2.2.2.2.2.2.2 w.2.2.2.2.2.2.1 w.2.2.2.1 w.2.2.1 ∧ (0 < v.2.2.2.2.1 → 0 < v.2.1) ∧
      ImgR im iL iO iP iW iB iS iT iK iC iD iA jP jS jC jW jV jT kept w.2.2.2.2.2.1 w.2.2.2.2.1 w.2.2.2.2.2.2.2 w.2.2.2.2.2.2.1 w.2.2.2.1 w.2.2.1 := by
  unfold m_X8_back_ m_X9_back_
  rw [chk_pos hx1, isOut_spec (by omega) (by decide) (by decide), bnd1_s, ifB, chk_pos hx1, in_spec (by omega) (by decide) (by decide), bnd1_s, ifB]
  by_cases h1 : 0 ≤ x1 ∧ x1 ≤ 2
  · rw [if_neg (fun z => z h1), if_pos h1]
    simp only [chk_pos (show 0 ≤ x1 ∧ x1 < 3 by omega)]
    rcases I x1 h1.1 (by omega) with ⟨q1, q2⟩ | ⟨q1, q2, q3, q4⟩
    · rw [q1, q2, if_pos rfl, if_pos rfl]
      exact ⟨_, _, rfl, rfl, rfl, L, hlw, I⟩
    · obtain ⟨c', b', h', l', a', p', e, r1, r2, r3, r4, r5, r6⟩ := copyStair_spec hF (x := 1 + x1) (y := 0) (by omega) (by omega) (by omega) c b h l a p
      unfold m_X2_copyFrom
      rw [q1, q2, if_neg one0, if_neg one0, chk_pos q3.sided01, bnd17_s, e, bnd6_s]
      refine ⟨_, _, rfl, rfl, rfl, ?_, q4, fun k k0 k1 => ?_⟩
      · have L' := LayK.unzero (LayK.copied q3 r1 r2 r3 r4 r5 r6)
        exact Lay.congr8 L' (fun i i0 i1 => ⟨cpy0 i0 i1, cpy0 i0 i1, cpy0 i0 i1⟩) (fun i i0 i1 => cpy0 i0 i1) (fun i i0 i1 => ⟨cpy0 i0 i1, cpy0 i0 i1⟩)
      · rcases I k k0 k1 with q | ⟨s1, s2, s3, s4⟩
        · exact Or.inl q
        · exact Or.inr ⟨s1, s2, LayK.stays (by omega) s3 r1 r2 r3 r4 r5 r6, s4⟩
  · rw [if_pos h1, if_neg h1]
    exact ⟨_, _, rfl, rfl, rfl, L, hlw, I⟩
variable {held width size wdt many cells : Int → Int} {num : Int → Int → Int}
theorem held_pair (hF : 1000 ≤ F) (S : SlotR held width size num wdt many cells) : ∃ r, m_X8_heldSlots F held = some r ∧ ml_X9_count_157 F 0 0 0 wdt = some (r, 0) := by
  unfold m_X8_heldSlots ml_X8_heldSlots_4 ml_X9_count_157
  refine loopN_rel (I := fun s t => s = t ∧ 0 ≤ s.2 ∧ s.2 ≤ 4) (μ := fun s => (4 - s.2).toNat) (P := fun X Y => ∃ r, X = some r ∧ Y = some (r, 0)) ?_ F _ _ ?_ ?_
  · rintro k1 k2 ⟨n, x⟩ ⟨n', x'⟩ ⟨hxx, h0, h4⟩ ih
    cases hxx
    simp only at h0 h4 ih ⊢
    unfold mb_X8_heldSlots_4 mb_X9_count_157
    rw [ifI_le (by decide) (by omega), ifI_le (by decide) (by omega)]
    by_cases h1 : 4 ≤ x
    · rw [if_pos h1, if_pos h1]
      exact ⟨_, rfl, rfl⟩
    · rw [if_neg h1, if_neg h1, chk_pos (by omega), chk_pos (by omega)]
      simp only [mb_X8_heldSlots_27, mb_X9_count_178, nam]
      rcases S x h0 (by omega) with ⟨q1, q2⟩ | ⟨q1, q2, q3, -⟩
      · rw [q1, q2, if_pos rfl, if_pos rfl]
        exact ih _ _ ⟨rfl, by simp only; omega, by simp only; omega⟩ (by simp only; omega)
      · rw [q1, q2, if_neg one0, ifI_eq (by omega) (by decide), if_neg (by omega)]
        exact ih _ _ ⟨rfl, by simp only; omega, by simp only; omega⟩ (by simp only; omega)
  · exact ⟨rfl, by simp only; omega, by simp only; omega⟩
  · simp only
    omega
theorem allSteps9 (hF : 1000 ≤ F) (L : LayN lines odds parts steps speeds walkers paces bands carried sided st wk pc wd acts aP aS l h p a b c) : ml_X9_count_94 F 0 0 0 h p = some (sumS steps parts.toNat, 0) := by
  obtain ⟨-, -, ⟨e1, p0, p4⟩, -, -, -, -, hq, -⟩ := id L
  unfold ml_X9_count_94
  refine loopN_rec (I := fun q : Int × Int => 0 ≤ q.2 ∧ q.2 ≤ parts ∧ q.1 = sumS steps q.2.toNat) (μ := fun q => (parts - q.2).toNat) (P := fun q y => y = some (sumS steps parts.toNat, 0)) ?_ F (0, 0) ?_ ?_
  · rintro k ⟨s, i⟩ ⟨i0, i1, hs⟩ ih
    simp only at i0 i1 hs ih ⊢
    unfold mb_X9_count_94 m_X9_stepsOf
    rw [e1, ifI_le (by omega) (by omega)]
    by_cases h1 : parts ≤ i
    · rw [if_pos h1, hs, show i = parts by omega]
    · rw [if_neg h1, chk_pos (by omega), bnd1_s]
      simp only [nam]
      refine ih (s + p (2 * i), i + 1) ⟨by simp only; omega, by simp only; omega, ?_⟩ (by simp only; omega)
      simp only
      rw [show (i + 1).toNat = i.toNat + 1 by omega, hs, (hq i i0 (by omega)).1]
      show sumS steps i.toNat + steps i = sumS steps i.toNat + steps ((i.toNat : Nat) : Int)
      rw [show ((i.toNat : Nat) : Int) = i by omega]
  · exact ⟨by simp only; omega, by simp only; omega, rfl⟩
  · simp only
    omega
/-- count -/
theorem op_count (hF : 1000 ≤ F) (L : LayN lines odds parts steps speeds walkers paces bands carried sided st wk pc wd acts aP aS l h p a b c) (S : SlotR held width size num wdt many cells) (x1 n : Int) : Eq0 (m_X8_count F x1 n lines odds parts walkers bands sided acts steps held) (m_X9_count F x1 n h l p wdt) := by
  obtain ⟨⟨e0, l0, l1⟩, ⟨eo, -⟩, ⟨e1, p0, p4⟩, ⟨e2, w0, w8⟩, ⟨e3, -⟩, ⟨e8, -⟩, g7, -⟩ := id L
  unfold m_X8_count m_X9_count
  by_cases q0 : wI x1 = wI 0
  · rw [if_pos q0, if_pos q0]
    rw [e1]
    exact Eq0.mk
  rw [if_neg q0, if_neg q0]
  by_cases q1 : wI x1 = wI 1
  · rw [if_pos q1, if_pos q1]
    rw [e2]
    exact Eq0.mk
  rw [if_neg q1, if_neg q1]
  by_cases q2 : wI x1 = wI 2
  · rw [if_pos q2, if_pos q2]
    rw [e3]
    exact Eq0.mk
  rw [if_neg q2, if_neg q2]
  by_cases q3 : wI x1 = wI 3
  · rw [if_pos q3, if_pos q3]
    rw [eo]
    exact Eq0.mk
  rw [if_neg q3, if_neg q3]
  by_cases q4 : wI x1 = wI 4
  · rw [if_pos q4, if_pos q4]
    unfold m_X2_allSteps
    rw [stepsAhead_spec hF (by omega), bnd1_s, bnd1_s, allSteps9 hF L]
    exact Eq0.mk
  rw [if_neg q4, if_neg q4]
  by_cases q5 : wI x1 = wI 5
  · rw [if_pos q5, if_pos q5]
    rcases g7 with ⟨s1, s2⟩ | ⟨s1, s2, s3, s4, s5, s6, -⟩
    · rw [s1, s2, if_pos rfl, if_pos (by decide)]
      exact Eq0.mk
    · rw [s1, if_neg one0, ifI_le (by omega) (by decide), if_neg (by omega)]
      exact Eq0.mk
  rw [if_neg q5, if_neg q5]
  by_cases q6 : wI x1 = wI 6
  · rw [if_pos q6, if_pos q6]
    rw [e8]
    exact Eq0.mk
  rw [if_neg q6, if_neg q6]
  by_cases q7 : wI x1 = wI 7
  · rw [if_pos q7, if_pos q7]
    rw [e0]
    exact Eq0.mk
  rw [if_neg q7, if_neg q7]
  by_cases q8 : wI x1 = wI 8
  · rw [if_pos q8, if_pos q8]
    exact Eq0.mk
  rw [if_neg q8, if_neg q8]
  by_cases q9 : wI x1 = wI 9
  · rw [if_pos q9, if_pos q9]
    obtain ⟨r, f1, f2⟩ := held_pair hF S
    rw [f1, f2, bnd1_s]
    exact Eq0.mk
  rw [if_neg q9, if_neg q9]
  exact Eq0.mk
end IMG
/-! FLOWS: stand, walk, more, enough -/
def flowS (st sp : Int) : Rat := Rat.divInt (2 * sp) st
def flowW (st wk pc sp w : Int) : Rat := if w = 100 ∨ (0 < w ∧ 100 * (sp + pc) * (st * (100 - w)) < 100 * sp * (wk * w)) then Rat.divInt (100 * (sp + pc)) (wk * w) else Rat.divInt (100 * sp) (st * (100 - w))
theorem flowS_bd {st sp : Int} (hst : 1 ≤ st ∧ st ≤ 9) (hsp : 0 < sp ∧ sp ≤ 30) : Bd (flowS st sp) 6000 900 ∧ 0 ≤ flowS st sp := by
  unfold flowS
  exact ⟨Bd.mono (Bd.of (N := 60) (D := 9) (by omega) (by omega) (by omega)) (by decide) (by decide), Rat.divInt_nonneg (by omega) (by omega)⟩
theorem flowW_bd {st wk pc sp w : Int} (hst : 1 ≤ st ∧ st ≤ 9) (hwk : 1 ≤ wk ∧ wk ≤ 9) (hpc : 1 ≤ pc ∧ pc ≤ 30) (hsp : 0 < sp ∧ sp ≤ 30) (hw : 0 ≤ w ∧ w ≤ 100) : Bd (flowW st wk pc sp w) 6000 900 ∧ 0 ≤ flowW st wk pc sp w := by
  unfold flowW
  have h1 := mul_in (x := wk) (y := w) (M := 9) (N := 100) (by omega) (by omega)
  have h2 := mul_in (x := st) (y := 100 - w) (M := 9) (N := 100) (by omega) (by omega)
  split
  · rename_i hc
    have h3 : 0 < wk * w := Int.mul_pos (by omega) (by omega)
    exact ⟨Bd.of (by omega) (by omega) (by omega), Rat.divInt_nonneg (by omega) (by omega)⟩
  · rename_i hc
    have h3 : 0 < st * (100 - w) := Int.mul_pos (by omega) (by omega)
    exact ⟨Bd.mono (Bd.of (N := 3000) (D := 900) (by omega) (by omega) (by omega)) (by decide) (by decide), Rat.divInt_nonneg (by omega) (by omega)⟩
theorem nq_small {q : Rat} (h : Bd q 6000 900 ∧ 0 ≤ q) : Nq q := Nq.of h.1 h.2 (by decide) (by decide)
section FLOW
variable {lines odds parts walkers bands sided st wk pc wd acts : Int} {steps speeds paces carried aP aS l h p a b c : Int → Int} {F : Nat}
theorem putStanding_spec (hF : 1000 ≤ F) {x st : Int} {sp : Int → Int} (hx : 0 ≤ x ∧ x < 4) (hst : 1 ≤ st ∧ st ≤ 9) (hsp : 0 < sp x ∧ sp x ≤ 30) : m_X2_putStanding F x st sp = some ((flowS st (sp x)).num, ((flowS st (sp x)).den : Int)) := by
  unfold m_X2_putStanding flowS
  rw [chk_pos hx, chk_pos (by omega), chk_pos (by omega), put_spec hF (by omega) (by omega), bnd2_s]
theorem putWalking_spec (hF : 1000 ≤ F) {x st wk pc w : Int} {sp : Int → Int} (hx : 0 ≤ x ∧ x < 4) (hst : 1 ≤ st ∧ st ≤ 9) (hwk : 1 ≤ wk ∧ wk ≤ 9) (hpc : 1 ≤ pc ∧ pc ≤ 30) (hsp : 0 < sp x ∧ sp x ≤ 30) (hw : 0 ≤ w ∧ w ≤ 100) : m_X2_putWalking F x w st wk pc sp = some ((flowW st wk pc (sp x) w).num, ((flowW st wk pc (sp x) w).den : Int)) := by
  have h1 := mul_in (x := wk) (y := w) (M := 9) (N := 100) (by omega) (by omega)
  have h2 := mul_in (x := st) (y := 100 - w) (M := 9) (N := 100) (by omega) (by omega)
  have h3 := mul_in (x := 100 * (sp x + pc)) (y := st * (100 - w)) (M := 6000) (N := 900) (by omega) (by omega)
  have h4 := mul_in (x := 100 * sp x) (y := wk * w) (M := 3000) (N := 900) (by omega) (by omega)
  unfold m_X2_putWalking flowW
  simp only [nam, mb_X2_putWalking_78, mb_X2_putWalking_82, mb_X2_putWalking_83]
  rw [chk_pos hx, chk_pos (by omega), chk_pos (by omega), chk_pos (by omega), chk_pos hx, chk_pos (by omega), chk_pos (by omega), chk_pos (by omega), ifI_eq (by omega) (by decide), ifI_le (by omega) (by decide), ifJ_le (by omega) (by omega), if_neg one0, if_pos trivial, put_spec hF (by omega) (by omega), bnd2_s, put_spec hF (by omega) (by omega), bnd2_s]
  by_cases g1 : w = 100
  · rw [if_pos g1, if_pos (Or.inl g1)]
  · rw [if_neg g1]
    by_cases g2 : w ≤ 0
    · rw [if_pos g2, if_neg (by omega)]
    · rw [if_neg g2]
      by_cases g3 : 100 * sp x * (wk * w) ≤ 100 * (sp x + pc) * (st * (100 - w))
      · rw [if_pos g3, if_neg (by omega)]
      · rw [if_neg g3, if_pos (by omega)]
theorem flows0_spec {x y : Int} {s' : Int → Int} (hx : 0 ≤ x ∧ x < 4) (hst : 1 ≤ h 4 ∧ h 4 ≤ 9) (hsp : 0 < s' x ∧ s' x ≤ 30) : m_X9_flows F x 0 y h s' = some ((flowS (h 4) (s' x)).num, ((flowS (h 4) (s' x)).den : Int)) := by
  unfold m_X9_flows m_X9_zero flowS
  rw [bnd2_s, if_pos rfl, chk_pos hx, chk_pos (by omega), chk_pos (by omega), adds0 (A := 60) (B := 9) (by omega) (by omega) (by omega) (by decide) (by decide), bnd2_s]
theorem flows1_spec {x w : Int} {s' : Int → Int} (hx : 0 ≤ x ∧ x < 4) (hst : 1 ≤ h 4 ∧ h 4 ≤ 9) (hwk : 1 ≤ h 5 ∧ h 5 ≤ 9) (hpc : 1 ≤ h 6 ∧ h 6 ≤ 30) (hsp : 0 < s' x ∧ s' x ≤ 30) (hw : 0 ≤ w ∧ w ≤ 100) : m_X9_flows F x 1 w h s' = some ((flowW (h 4) (h 5) (h 6) (s' x) w).num, ((flowW (h 4) (h 5) (h 6) (s' x) w).den : Int)) := by
  have h1 := mul_in (x := h 5) (y := w) (M := 9) (N := 100) (by omega) (by omega)
  have h2 := mul_in (x := h 4) (y := 100 - w) (M := 9) (N := 100) (by omega) (by omega)
  unfold m_X9_flows m_X9_zero flowW
  simp only [nam]
  rw [bnd2_s, if_neg one0, chk_pos hx, chk_pos (by omega), ifI_eq (by omega) (by decide), ifI_eq (by omega) (by decide)]
  by_cases g0 : w = 0
  · subst g0
    have e : h 4 * (100 - 0) = 100 * h 4 := by omega
    rw [if_pos rfl, if_neg (by omega), chk_pos hx, chk_pos (by omega), chk_pos (by omega), adds0 (A := 30) (B := 9) (by omega) (by omega) (by omega) (by decide) (by decide), bnd2_s, e, Rat.divInt_mul_left (by decide)]
  · by_cases g1 : w = 100
    · subst g1
      have e : h 5 * 100 = 100 * h 5 := by omega
      rw [if_neg g0, if_pos rfl, if_pos (Or.inl rfl), chk_pos (by omega), adds0 (A := 60) (B := 9) (by omega) (by omega) (by omega) (by decide) (by decide), bnd2_s, e, Rat.divInt_mul_left (by decide)]
    · have p1 : 0 < h 5 * w := Int.mul_pos (by omega) (by omega)
      have p2 : 0 < h 4 * (100 - w) := Int.mul_pos (by omega) (by omega)
      rw [if_neg g0, if_neg g1, chk_pos (by omega), chk_pos (by omega), chk_pos hx, chk_pos (by omega), chk_pos (by omega), chk_pos (by omega), isLess_spec (by omega) (by omega) p1 (by omega) (by omega) p2, bnd1_s]
      by_cases g2 : 100 * (s' x + h 6) * (h 4 * (100 - w)) < 100 * s' x * (h 5 * w)
      · rw [if_pos g2, if_neg one0, if_pos (Or.inr ⟨by omega, g2⟩), adds0 (A := 6000) (B := 900) (by omega) (by omega) p1 (by decide) (by decide), bnd2_s]
      · rw [if_neg g2, if_pos rfl, if_neg (fun z => by
          rcases z with z | z
          · exact g1 z
          · exact g2 z.2), adds0 (A := 3000) (B := 900) (by omega) (by omega) p2 (by decide) (by decide), bnd2_s]
theorem Lay.sides {l : Int} (L : Lay lines odds parts steps speeds walkers paces bands carried sided st wk pc wd acts aP aS l h p a b c) (hs : sided = 1) : (h 4 = st ∧ h 5 = wk ∧ h 6 = pc ∧ h 7 = wd) ∧ (1 ≤ st ∧ st ≤ 9) ∧ (1 ≤ wk ∧ wk ≤ 9) ∧ (1 ≤ pc ∧ pc ≤ 30) ∧ (0 ≤ wd ∧ wd ≤ 100) := by
  obtain ⟨-, -, -, -, -, -, g7, -⟩ := L
  rcases g7 with ⟨q, -⟩ | ⟨q, q1, q2, q3, q4, q5, q6, q7, q8⟩
  · omega
  · exact ⟨⟨q1, q2, q3, q4⟩, q5, q6, q7, q8⟩
theorem hasFlow_spec (L : LayN lines odds parts steps speeds walkers paces bands carried sided st wk pc wd acts aP aS l h p a b c) {x : Int} (hx : r32 x) : m_X8_hasFlow F x parts sided = some (bI ((0 ≤ x ∧ x < parts) ∧ sided = 1)) := by
  obtain ⟨-, -, ⟨e1, p0, p4⟩, -⟩ := id L
  have hs := L.sided01
  unfold m_X8_hasFlow
  rw [hasPart_spec hx ⟨p0, p4⟩, bnd1_s, ifB, ifI_eq (by omega) (by decide)]
  by_cases h1 : 0 ≤ x ∧ x < parts
  · rw [if_pos h1]
    by_cases h2 : sided = 0
    · rw [if_pos h2, bI_f (fun z => by omega)]
    · rw [if_neg h2, bI_t ⟨h1, by omega⟩]
  · rw [if_neg h1, bI_f (fun z => h1 z.1)]
theorem areSides_spec (hF : 1000 ≤ F) (L : LayN lines odds parts steps speeds walkers paces bands carried sided st wk pc wd acts aP aS l h p a b c) {x : Int} (hx : r32 x) (sp : Int → Int) : ∃ s', m_X9_areSides F x c h p sp = some (bI ((0 ≤ x ∧ x < parts) ∧ sided = 1), s') ∧ (((0 ≤ x ∧ x < parts) ∧ sided = 1) → ∀ i, 0 ≤ i → i < parts → s' i = speeds i) := by
  obtain ⟨-, -, ⟨e1, p0, p4⟩, -, -, -, g7, -⟩ := id L
  have hs := L.sided01
  unfold m_X9_areSides
  rw [isPart_spec hx (by omega), bnd1_s, ifB, e1]
  by_cases h1 : 0 ≤ x ∧ x < parts
  · rw [if_pos h1]
    rcases g7 with ⟨q, q0⟩ | ⟨q, q1, q2, q3, q4, q5, -⟩
    · rw [q0, if_pos rfl, bI_f (fun z => by omega)]
      exact ⟨_, rfl, fun z => by omega⟩
    · obtain ⟨s', e, hs'⟩ := lays_spec hF L sp
      rw [ifI_eq (by omega) (by decide), if_neg (by omega), e, bnd1_s, bI_t ⟨h1, q⟩]
      exact ⟨_, rfl, fun _ => hs'⟩
  · rw [if_neg h1, bI_f (fun z => h1 z.1)]
    exact ⟨_, rfl, fun z => absurd z.1 h1⟩
/-- stand -/
theorem op_stand (hF : 1000 ≤ F) (L : LayN lines odds parts steps speeds walkers paces bands carried sided st wk pc wd acts aP aS l h p a b c) {x1 x2 : Int} (hx1 : r32 x1) (hx2 : r32 x2) (u v u' v' : Int) (sp : Int → Int) : Eq1 (m_X8_stand F x1 x2 parts sided st speeds u v) (m_X9_stand F x1 x2 u' v' c h p sp) := by
  obtain ⟨-, -, ⟨e1, p0, p4⟩, -⟩ := id L
  obtain ⟨s', e, hs⟩ := areSides_spec hF L hx1 sp
  unfold m_X8_stand m_X9_stand
  rw [hasFlow_spec L hx1, bnd1_s, ifB, e, bnd2_s, ifB, isSide_spec hx2, bnd1_s, ifB, isHalf_spec hx2, bnd1_s, ifB]
  by_cases h1 : (0 ≤ x1 ∧ x1 < parts) ∧ sided = 1
  · rw [if_pos h1, if_pos h1]
    by_cases h2 : 0 ≤ x2 ∧ x2 ≤ 1
    · have hy := L.speeds_in h1.1.1 h1.1.2
      have hsx := hs h1 x1 h1.1.1 h1.1.2
      obtain ⟨⟨q4, -⟩, hst, -⟩ := L.sides h1.2
      rw [if_pos h2, if_pos h2, chk_pos (by omega), chk_pos (by omega), hsx, ifI_lt (by decide) (by omega), ifI_lt (by decide) (by omega)]
      by_cases h3 : 0 < speeds x1
      · rw [if_pos h3, if_pos h3, putStanding_spec hF (by omega) hst (by omega), bnd2_s, flows0_spec (by omega) (by omega) (by omega), bnd2_s, side_spec hx2, half_spec hx2, bnd1_s, bnd1_s, q4, hsx]
        exact Eq1.mk
      · rw [if_neg h3, if_neg h3]
        exact Eq1.mk
    · rw [if_neg h2, if_neg h2]
      exact Eq1.mk
  · rw [if_neg h1, if_neg h1]
    exact Eq1.mk
/-- walk -/
theorem op_walk (hF : 1000 ≤ F) (L : LayN lines odds parts steps speeds walkers paces bands carried sided st wk pc wd acts aP aS l h p a b c) {x1 x2 : Int} (hx1 : r32 x1) (hx2 : r32 x2) (u v u' v' : Int) (sp : Int → Int) : Eq1 (m_X8_walk F x1 x2 parts sided st wk pc wd speeds u v) (m_X9_walk F x1 x2 u' v' c h p sp) := by
  obtain ⟨-, -, ⟨e1, p0, p4⟩, -⟩ := id L
  obtain ⟨s', e, hs⟩ := areSides_spec hF L hx1 sp
  unfold m_X8_walk m_X9_walk
  rw [hasFlow_spec L hx1, bnd1_s, ifB, e, bnd2_s, ifB, isSide_spec hx2, bnd1_s, ifB, isHalf_spec hx2, bnd1_s, ifB]
  by_cases h1 : (0 ≤ x1 ∧ x1 < parts) ∧ sided = 1
  · rw [if_pos h1, if_pos h1]
    by_cases h2 : 0 ≤ x2 ∧ x2 ≤ 1
    · have hy := L.speeds_in h1.1.1 h1.1.2
      have hsx := hs h1 x1 h1.1.1 h1.1.2
      obtain ⟨⟨q4, q5, q6, q7⟩, hst, hwk, hpc, hwd⟩ := L.sides h1.2
      rw [if_pos h2, if_pos h2, chk_pos (by omega), chk_pos (by omega), hsx, ifI_lt (by decide) (by omega), ifI_lt (by decide) (by omega)]
      by_cases h3 : 0 < speeds x1
      · rw [if_pos h3, if_pos h3, putWalking_spec hF (by omega) hst hwk hpc (by omega) hwd, bnd2_s, flows1_spec (by omega) (by omega) (by omega) (by omega) (by omega) (by omega), bnd2_s, side_spec hx2, half_spec hx2, bnd1_s, bnd1_s, q4, q5, q6, q7, hsx]
        exact Eq1.mk
      · rw [if_neg h3, if_neg h3]
        exact Eq1.mk
    · rw [if_neg h2, if_neg h2]
      exact Eq1.mk
  · rw [if_neg h1, if_neg h1]
    exact Eq1.mk
theorem more_pair (hF : 1000 ≤ F) {x w : Int} {s' : Int → Int} (hx : 0 ≤ x ∧ x < 4) (q4 : h 4 = st) (q5 : h 5 = wk) (q6 : h 6 = pc) (hst : 1 ≤ st ∧ st ≤ 9) (hwk : 1 ≤ wk ∧ wk ≤ 9) (hpc : 1 ≤ pc ∧ pc ≤ 30) (hsx : s' x = speeds x) (hsp : 0 < speeds x ∧ speeds x ≤ 30) (hw : 0 ≤ w ∧ w ≤ 100) : ∃ r o1 o2 o3 o4 o5 o6, m_X8_walkingAgainstStanding F x w st wk pc speeds = some (r, o1, o2, o3, o4) ∧ m_X9_moreBy F x w h s' = some (r, o5, o6) ∧ (-1 ≤ r ∧ r ≤ 1) := by
  have b1 := nq_small (flowS_bd hst hsp)
  have b2 := nq_small (flowW_bd hst hwk hpc hsp hw)
  unfold m_X8_walkingAgainstStanding m_X9_moreBy
  rw [putStanding_spec hF hx hst hsp, bnd2_s, putWalking_spec hF hx hst hwk hpc hsp hw, bnd2_s, againstQ hF b2 b1, bnd1_s, flows0_spec hx (by omega) (by omega), bnd2_s, flows1_spec hx (by omega) (by omega) (by omega) (by omega) hw, bnd2_s, q4, q5, q6, hsx, isLessQ b1 b2, bnd1_s, ifB, isLessQ b2 b1, bnd1_s, ifB]
  by_cases g1 : flowS st (speeds x) < flowW st wk pc (speeds x) w
  · rw [if_pos g1, if_neg (fun z => Rat.not_lt.mpr (Rat.le_of_lt z) g1), if_neg (fun z => Rat.ne_of_lt g1 z.symm)]
    exact ⟨_, _, _, _, _, _, _, rfl, rfl, by decide⟩
  · rw [if_neg g1]
    by_cases g2 : flowW st wk pc (speeds x) w < flowS st (speeds x)
    · rw [if_pos g2, if_pos g2]
      exact ⟨_, _, _, _, _, _, _, rfl, rfl, by decide⟩
    · have g3 : flowW st wk pc (speeds x) w = flowS st (speeds x) := Rat.le_antisymm (Rat.not_lt.mp g1) (Rat.not_lt.mp g2)
      rw [if_neg g2, if_neg g2, if_pos g3]
      exact ⟨_, _, _, _, _, _, _, rfl, rfl, by decide⟩
/-- more -/
theorem op_more (hF : 1000 ≤ F) (L : LayN lines odds parts steps speeds walkers paces bands carried sided st wk pc wd acts aP aS l h p a b c) {x1 : Int} (hx1 : r32 x1) (u1 u2 u3 u4 v1 v2 : Int) (sp : Int → Int) : Eq1 (m_X8_more F x1 u1 u2 parts sided st wk pc wd speeds u3 u4) (m_X9_more F x1 v1 v2 c h p sp) := by
  obtain ⟨-, -, ⟨e1, p0, p4⟩, -⟩ := id L
  obtain ⟨s', e, hs⟩ := areSides_spec hF L hx1 sp
  unfold m_X8_more m_X9_more
  rw [hasFlow_spec L hx1, bnd1_s, ifB, e, bnd2_s, ifB]
  by_cases h1 : (0 ≤ x1 ∧ x1 < parts) ∧ sided = 1
  · have hy := L.speeds_in h1.1.1 h1.1.2
    have hsx := hs h1 x1 h1.1.1 h1.1.2
    obtain ⟨⟨q4, q5, q6, q7⟩, hst, hwk, hpc, hwd⟩ := L.sides h1.2
    rw [if_pos h1, if_pos h1, chk_pos (by omega), chk_pos (by omega), ifI_lt (by decide) (by omega), ifI_le (by omega) (by decide)]
    by_cases h3 : 0 < speeds x1
    · obtain ⟨r, o1, o2, o3, o4, o5, o6, f1, f2, -⟩ := more_pair (F := F) (h := h) (speeds := speeds) hF (x := x1) (w := wd) (s' := s') (by omega) q4 q5 q6 hst hwk hpc hsx (by omega) hwd
      rw [if_pos h3, if_neg (by omega), f1, bnd5_s, q7, f2, bnd3_s]
      exact Eq1.mk
    · rw [if_neg h3, if_pos (by omega)]
      exact Eq1.mk
  · rw [if_neg h1, if_neg h1]
    exact Eq1.mk
/-- enough -/
theorem op_enough (hF : 1000 ≤ F) (L : LayN lines odds parts steps speeds walkers paces bands carried sided st wk pc wd acts aP aS l h p a b c) {x1 : Int} (hx1 : r32 x1) (u1 u2 u3 u4 v1 v2 : Int) (sp : Int → Int) : Eq1 (m_X8_enough F x1 u1 u2 parts sided st wk pc speeds u3 u4) (m_X9_enough F x1 v1 v2 c h p sp) := by
  obtain ⟨-, -, ⟨e1, p0, p4⟩, -⟩ := id L
  obtain ⟨s', e, hs⟩ := areSides_spec hF L hx1 sp
  unfold m_X8_enough m_X9_enough
  rw [hasFlow_spec L hx1, bnd1_s, ifB, e, bnd2_s, ifB]
  by_cases h1 : (0 ≤ x1 ∧ x1 < parts) ∧ sided = 1
  · have hy := L.speeds_in h1.1.1 h1.1.2
    have hsx := hs h1 x1 h1.1.1 h1.1.2
    obtain ⟨⟨q4, q5, q6, q7⟩, hst, hwk, hpc, hwd⟩ := L.sides h1.2
    rw [if_pos h1, if_pos h1, chk_pos (by omega), chk_pos (by omega), ifI_lt (by decide) (by omega), ifI_lt (by decide) (by omega), hsx]
    by_cases h3 : 0 < speeds x1
    · rw [if_pos h3, if_pos h3]
      unfold ml_X8_enough_25 ml_X9_enough_27
      refine loopN_rel (I := fun s t => s.1 = t.1 ∧ 0 ≤ s.1 ∧ s.1 ≤ 101) (μ := fun s => (101 - s.1).toNat) (P := Eq1) ?_ F _ _ ?_ ?_
      · rintro k1 k2 ⟨x, y1, y2, y3, y4⟩ ⟨x', z1, z2⟩ ⟨hxx, hx0, hx101⟩ ih
        simp only at hxx hx0 hx101 ih ⊢
        subst hxx
        unfold mb_X8_enough_25 mb_X9_enough_27
        rw [ifI_lt (by decide) (by omega), ifI_lt (by decide) (by omega)]
        by_cases hx : 100 < x
        · rw [if_pos hx, if_pos hx]
          exact Eq1.mk
        · obtain ⟨r, o1, o2, o3, o4, o5, o6, f1, f2, hr⟩ := more_pair (F := F) (h := h) (speeds := speeds) hF (x := x1) (w := x) (s' := s') (by omega) q4 q5 q6 hst hwk hpc hsx (by omega) (by omega)
          rw [if_neg hx, if_neg hx, f1, bnd5_s, f2, bnd3_s, ifI_lt (by omega) (by decide), ifI_lt (by omega) (by decide)]
          by_cases hr0 : r < 0
          · rw [if_pos hr0, if_pos hr0]
            exact ih _ _ ⟨rfl, by simp only; omega, by simp only; omega⟩ (by simp only; omega)
          · rw [if_neg hr0, if_neg hr0]
            exact Eq1.mk
      · exact ⟨rfl, by simp only; omega, by simp only; omega⟩
      · simp only
        omega
    · rw [if_neg h3, if_neg h3]
      exact Eq1.mk
  · rw [if_neg h1, if_neg h1]
    exact Eq1.mk
end FLOW
/-! CROWD -/
theorem hasOut_spec {F : Nat} (hF : 1000 ≤ F) {start step lo hi size : Int} {num : Int → Int} (hs0 : 0 ≤ start ∧ start ≤ 3) (hst : 1 ≤ step ∧ step ≤ 3) (hlo : r64 lo) (hhi : r64 hi) (hsz : 0 ≤ size ∧ size ≤ 60) (hn : ∀ i, 0 ≤ i → i < size → r64 (num i)) :
    ∃ r, m_X5_hasOut F start step lo hi size num = some r ∧ ((r = 0 ∧ ∀ j : Nat, start + step * (j : Int) < size → lo ≤ num (start + step * (j : Int)) ∧ num (start + step * (j : Int)) ≤ hi) ∨ (r = 1 ∧ ∃ j : Nat, start + step * (j : Int) < size ∧ ¬ (lo ≤ num (start + step * (j : Int)) ∧ num (start + step * (j : Int)) ≤ hi))) := by
  unfold m_X5_hasOut ml_X5_hasOut_3
  refine loopN_rec (I := fun q : Int => q ≤ size + 3 ∧ ∃ j : Nat, q = start + step * (j : Int) ∧ ∀ i : Nat, i < j → lo ≤ num (start + step * (i : Int)) ∧ num (start + step * (i : Int)) ≤ hi) (μ := fun q => (size + 3 - q).toNat) (P := fun q x => ∃ r, x = some r ∧ ((r = 0 ∧ ∀ j : Nat, start + step * (j : Int) < size → lo ≤ num (start + step * (j : Int)) ∧ num (start + step * (j : Int)) ≤ hi) ∨ (r = 1 ∧ ∃ j : Nat, start + step * (j : Int) < size ∧ ¬ (lo ≤ num (start + step * (j : Int)) ∧ num (start + step * (j : Int)) ≤ hi)))) ?_ F start ?_ ?_
  · rintro k q ⟨hq3, j, hq, hj⟩ ih
    have hpos : 0 ≤ step * (j : Int) := Int.mul_nonneg (by omega) (by omega)
    unfold mb_X5_hasOut_3
    rw [ifI_le (by omega) (by omega), ifI_le (by decide) (by omega)]
    by_cases h1 : size ≤ q
    · rw [if_pos h1]
      refine ⟨0, rfl, Or.inl ⟨rfl, fun i hi => ?_⟩⟩
      rcases Nat.lt_or_ge i j with g | g
      · exact hj i g
      · have : step * (j : Int) ≤ step * (i : Int) := Int.mul_le_mul_of_nonneg_left (by omega) (by omega)
        omega
    · rw [if_neg h1, if_neg (by omega), chk_pos (by omega), isOut_spec (hn q (by omega) (by omega)) hlo hhi, bnd1_s, ifB]
      by_cases h2 : lo ≤ num q ∧ num q ≤ hi
      · rw [if_neg (fun z => z h2)]
        simp only [nam]
        refine ih (q + step) ⟨by omega, j + 1, ?_, fun i hi => ?_⟩ (by omega)
        · rw [hq, show ((j + 1 : Nat) : Int) = (j : Int) + 1 by omega, Int.mul_add, Int.mul_one, Int.add_assoc]
        · rcases Nat.lt_or_ge i j with g | g
          · exact hj i g
          · have e : i = j := by omega
            subst e
            rw [← hq]
            exact h2
      · rw [if_pos h2]
        exact ⟨1, rfl, Or.inr ⟨rfl, j, by omega, by rw [← hq]; exact h2⟩⟩
  · refine ⟨by omega, 0, by simp, fun i hi => absurd hi (Nat.not_lt_zero i)⟩
  · omega
/-- a stride of one -/
theorem hasOut1 {F : Nat} (hF : 1000 ≤ F) {hi size : Int} {num : Int → Int} (hhi : 0 ≤ hi ∧ hi ≤ 9999) (hsz : 0 ≤ size ∧ size ≤ 60) (hn : ∀ i, 0 ≤ i → i < size → r64 (num i)) :
    ∃ r, m_X5_hasOut F 0 1 0 hi size num = some r ∧ ((r = 0 ∧ ∀ i, 0 ≤ i → i < size → 0 ≤ num i ∧ num i ≤ hi) ∨ (r = 1 ∧ ∃ i, (0 ≤ i ∧ i < size) ∧ ¬ (0 ≤ num i ∧ num i ≤ hi))) := by
  obtain ⟨r, e, hr⟩ := hasOut_spec (F := F) hF (start := 0) (step := 1) (lo := 0) (hi := hi) (size := size) (num := num) (by decide) (by decide) (by decide) (by omega) hsz hn
  refine ⟨r, e, ?_⟩
  rcases hr with ⟨r0, hr⟩ | ⟨r1, j, hj, hr⟩
  · refine Or.inl ⟨r0, fun i i0 i1 => ?_⟩
    have := hr i.toNat (by omega)
    rw [show 0 + 1 * ((i.toNat : Nat) : Int) = i by omega] at this
    exact this
  · refine Or.inr ⟨r1, 0 + 1 * (j : Int), by omega, hr⟩
/-- who waits behind n minutes, all that were waited, the minute behind which none waits -/
def wq (num : Int → Int) (f : Int) : Nat → Int × Int × Int
  | 0 => (0, 0, 0)
  | n + 1 => (max 0 ((wq num f n).1 + num (n : Int) - f), (wq num f n).2.1 + max 0 ((wq num f n).1 + num (n : Int) - f), if 0 < max 0 ((wq num f n).1 + num (n : Int) - f) then (n : Int) + 2 else (wq num f n).2.2)
theorem wq_in {num : Int → Int} {f : Int} (hf : 0 ≤ f) : ∀ n : Nat, n ≤ 60 → (∀ i, 0 ≤ i → i < (n : Int) → 0 ≤ num i ∧ num i ≤ 999) → (0 ≤ (wq num f n).1 ∧ (wq num f n).1 ≤ 999 * n) ∧ (0 ≤ (wq num f n).2.1 ∧ (wq num f n).2.1 ≤ 59940 * n) ∧ (0 ≤ (wq num f n).2.2 ∧ (wq num f n).2.2 ≤ n + 1) ∧ (0 < (wq num f n).1 → (wq num f n).2.2 = (n : Int) + 1 ∧ 0 < n)
  | 0, _, _ => by simp [wq]
  | n + 1, hn, h => by
    obtain ⟨h1, h2, h3, h4⟩ := wq_in hf n (by omega) (fun i i0 i1 => h i i0 (by omega))
    have h5 := h n (by omega) (by omega)
    simp only [wq]
    generalize (wq num f n).1 = w at *
    generalize (wq num f n).2.1 = s at *
    generalize (wq num f n).2.2 = c at *
    generalize num (n : Int) = y at *
    refine ⟨by omega, by omega, ?_, ?_⟩
    · split <;> omega
    · intro z
      rw [if_pos z]
      omega
/-- how many minutes more -/
def cei (f w : Int) : Int := (w + f - 1) / f
def clo (f w : Int) : Int := (cei f w - 1) * w - f * (cei f w * (cei f w - 1) / 2)
theorem cei_step {f w : Int} (hf : 0 < f) : cei f w = cei f (w - f) + 1 := by
  unfold cei
  rw [show w + f - 1 = (w - f + f - 1) + f * 1 by omega, Int.add_mul_ediv_left _ _ (by omega)]
theorem cei_one {f w : Int} (hf : 0 < f) (h : 0 < w ∧ w ≤ f) : cei f w = 1 := by
  unfold cei
  have h1 : (w + f - 1) / f < 2 := Int.ediv_lt_of_lt_mul hf (by omega)
  have h2 : 1 ≤ (w + f - 1) / f := (Int.le_ediv_iff_mul_le hf).mpr (by omega)
  omega
theorem cei_in {f w : Int} (hf : 0 < f) (hw : 0 < w) : 1 ≤ cei f w ∧ cei f w ≤ w := by
  unfold cei
  constructor
  · exact (Int.le_ediv_iff_mul_le hf).mpr (by omega)
  · have h1 : (w - 1) * 1 ≤ (w - 1) * f := Int.mul_le_mul_of_nonneg_left (by omega) (by omega)
    have h2 : w * f = (w - 1) * f + f := by rw [Int.sub_mul]; omega
    have h3 : (w + f - 1) / f < w + 1 := Int.ediv_lt_of_lt_mul hf (by rw [Int.add_mul]; omega)
    omega
theorem clo_step {f w : Int} (hf : 0 < f) : clo f w = (w - f) + clo f (w - f) := by
  unfold clo
  have e := cei_step (f := f) (w := w) hf
  generalize cei f (w - f) = s at e
  rw [e]
  have t : (s + 1) * (s + 1 - 1) = s * (s - 1) + 2 * s := by
    rw [show s + 1 - 1 = s by omega, Int.add_mul, Int.mul_sub]
    omega
  rw [t, Int.add_mul_ediv_left _ _ (by decide), show s + 1 - 1 = s by omega, Int.mul_add, Int.sub_mul, Int.mul_sub, Int.mul_sub]
  rw [Int.mul_comm f s]
  omega
theorem clo_one {f w : Int} (hf : 0 < f) (h : 0 < w ∧ w ≤ f) : clo f w = 0 := by
  unfold clo
  rw [cei_one hf h]
  omega
theorem clo_in {f : Int} (hf : 0 < f) : ∀ (n : Nat) (w : Int), 0 < w → w ≤ n → 0 ≤ clo f w ∧ clo f w ≤ w * w
  | 0, w, h0, h1 => by omega
  | n + 1, w, h0, h1 => by
    by_cases h : w ≤ f
    · rw [clo_one hf ⟨h0, h⟩]
      exact ⟨by omega, Int.mul_nonneg (by omega) (by omega)⟩
    · obtain ⟨g1, g2⟩ := clo_in hf n (w - f) (by omega) (by omega)
      rw [clo_step hf]
      refine ⟨by omega, ?_⟩
      have k1 : (w - f) * (w - f + 1) ≤ w * w := Int.mul_le_mul (by omega) (by omega) (by omega) (by omega)
      rw [Int.mul_add, Int.mul_one] at k1
      omega
section CRW
variable {F : Nat}
theorem max0 {x : Int} : (if (0 : Int) < x then x else 0) = max 0 x := by omega
/-- pass -/
theorem pass_spec (hF : 1000 ≤ F) {f size : Int} {num : Int → Int} (hf : 0 ≤ f ∧ f ≤ 6000) (hsz : 0 ≤ size ∧ size ≤ 60) (hn : ∀ i, 0 ≤ i → i < size → 0 ≤ num i ∧ num i ≤ 999) :
    m_X3_pass F f size num = some (if (wq num f size.toNat).1 = 0 then (0, (wq num f size.toNat).2.1, (wq num f size.toNat).2.2) else if f = 0 then (1, (wq num f size.toNat).2.1, (wq num f size.toNat).2.2) else (0, (wq num f size.toNat).2.1 + clo f (wq num f size.toNat).1, size + cei f (wq num f size.toNat).1)) := by
  unfold m_X3_pass ml_X3_pass_16
  refine loopN_rec (I := fun q : Int × Int × Int × Int => (0 ≤ q.2.1 ∧ q.2.1 ≤ size) ∧ (q.1, q.2.2.1, q.2.2.2) = wq num f q.2.1.toNat) (μ := fun q => (size - q.2.1).toNat) (P := fun q x => x = some (if (wq num f size.toNat).1 = 0 then (0, (wq num f size.toNat).2.1, (wq num f size.toNat).2.2) else if f = 0 then (1, (wq num f size.toNat).2.1, (wq num f size.toNat).2.2) else (0, (wq num f size.toNat).2.1 + clo f (wq num f size.toNat).1, size + cei f (wq num f size.toNat).1))) ?_ F (0, 0, 0, 0) ?_ ?_
  · rintro k ⟨w, i, s, c⟩ ⟨⟨i0, i1⟩, hw⟩ ih
    simp only at i0 i1 hw ih ⊢
    obtain ⟨b1, b2, b3, b4⟩ := wq_in (num := num) hf.1 i.toNat (by omega) (fun j j0 j1 => hn j j0 (by omega))
    rw [← hw] at b1 b2 b3 b4
    simp only at b1 b2 b3 b4
    unfold mb_X3_pass_16
    rw [ifI_le (by omega) (by omega)]
    by_cases h1 : size ≤ i
    · have e : i = size := by omega
      subst e
      rw [← hw, if_pos h1, ifJ_le (by omega) (by decide), ifJ_lt (by decide) (by omega)]
      have t94 : ∀ z : Int, (z = 0 ∨ z = 1) → mb_X3_pass_94 F f w z s c i = if w = 0 then some (z, s, c) else if 0 < f then some (z, s + clo f w, i + cei f w) else some (z, s, c) := by
        intro z hz
        unfold mb_X3_pass_94
        rw [chk_pos hz, ifJ_eq (by omega) (by decide), ifJ_lt (by decide) (by omega)]
        by_cases h2 : w = 0
        · rw [if_pos h2, if_pos h2]
        · rw [if_neg h2, if_neg h2]
          by_cases h3 : 0 < f
          · obtain ⟨k1, k2⟩ := cei_in (f := f) (w := w) (by omega) (by omega)
            have e1 : (w + f - 1).tdiv f = cei f w := Int.tdiv_eq_ediv_of_nonneg (by omega)
            have k3 := mul_in (x := cei f w) (y := cei f w - 1) (M := 59940) (N := 59940) (by omega) (by omega)
            rw [if_pos h3, if_pos h3, chk_pos (by omega)]
            simp only [nam]
            rw [e1, chk_pos (by omega), Int.tdiv_eq_ediv_of_nonneg k3.1]
            rfl
          · rw [if_neg h3, if_neg h3]
      unfold mb_X3_pass_93
      rw [t94 0 (Or.inl rfl), t94 1 (Or.inr rfl)]
      by_cases h2 : w = 0
      · rw [if_pos (by omega), if_pos h2, if_pos h2]
      · rw [if_neg (show ¬ w ≤ 0 by omega), if_neg h2, if_neg h2, if_neg h2]
        by_cases h3 : f = 0
        · rw [if_neg (show ¬ 0 < f by omega), if_neg (show ¬ 0 < f by omega), if_pos h3]
        · rw [if_pos (show 0 < f by omega), if_pos (show 0 < f by omega), if_neg h3]
    · have hx := hn i i0 (by omega)
      rw [if_neg h1, chk_pos (by omega), max64 (by decide) (by omega), max0, bnd1_s]
      have hwq : wq num f (i + 1).toNat = (max 0 (w + num i - f), s + max 0 (w + num i - f), if 0 < max 0 (w + num i - f) then i + 2 else c) := by
        rw [show (i + 1).toNat = i.toNat + 1 by omega]
        simp only [wq]
        rw [← hw, show ((i.toNat : Nat) : Int) = i by omega]
      generalize hM : max 0 (w + num i - f) = M at hwq
      simp only [nam, mb_X3_pass_69]
      rw [ifJ_le (by omega) (by decide)]
      by_cases h2 : M ≤ 0
      · rw [if_pos h2]
        refine ih _ ⟨by simp only; omega, ?_⟩ (by simp only; omega)
        simp only
        rw [hwq, if_neg (by omega)]
      · rw [if_neg h2]
        refine ih _ ⟨by simp only; omega, ?_⟩ (by simp only; omega)
        simp only
        rw [hwq, if_pos (by omega)]
  · exact ⟨by simp only; omega, rfl⟩
  · simp only
    omega
theorem waits32_in {k : Int → Int → Int → Int → Option (Int × Int)} {x f w s i c : Int} {many cells : Int → Int} (hx : 0 ≤ x ∧ x < 4) (hf : 0 ≤ f ∧ f ≤ 6000) (hi : 0 ≤ i ∧ i < many x) (hm : many x ≤ 60) (hw : 0 ≤ w ∧ w ≤ 59940) (hv : 0 ≤ cells (60 * x + i) ∧ cells (60 * x + i) ≤ 999) :
    mb_X9_waits_32 F k x f w s i c cells many = if w + cells (60 * x + i) ≤ f then k 0 (s + 0) (i + 1) c else k (w + cells (60 * x + i) - f) (s + (w + cells (60 * x + i) - f)) (i + 1) (i + 2) := by
  unfold mb_X9_waits_32
  rw [chk_pos hx, ifI_le (by omega) (by omega), if_neg (by omega), chk_pos (by omega)]
  unfold mb_X9_waits_61
  simp only [nam]
  rw [ifJ_le (by omega) (by omega)]
  by_cases h2 : w + cells (60 * x + i) ≤ f
  · rw [if_pos h2, if_pos h2]
    unfold mb_X9_waits_79
    rw [if_pos (by decide)]
    unfold mb_X9_waits_96
    rw [if_pos (by decide)]
    rfl
  · rw [if_neg h2, if_neg h2]
    unfold mb_X9_waits_79
    rw [ifJ_le (by omega) (by decide), if_neg (by omega)]
    simp only [nam]
    unfold mb_X9_waits_96
    rw [ifJ_le (by omega) (by decide), if_neg (by omega), chk_pos hx, ifI_lt (by omega) (by omega), if_pos hi.2]
    rfl
theorem waits32_out {k : Int → Int → Int → Int → Option (Int × Int)} {x f w s i c : Int} {many cells : Int → Int} (hx : 0 ≤ x ∧ x < 4) (hf : 0 ≤ f ∧ f ≤ 6000) (hi : many x ≤ i ∧ i ≤ 90000) (hm : 0 ≤ many x) (hw : 0 < w ∧ w ≤ 59940) :
    mb_X9_waits_32 F k x f w s i c cells many = if w ≤ f then k 0 (s + 0) (i + 1) c else if f = 0 then some (-1, i + 2) else k (w - f) (s + (w - f)) (i + 1) (i + 2) := by
  unfold mb_X9_waits_32
  rw [chk_pos hx, ifI_le (by omega) (by omega), if_pos hi.1]
  unfold mb_X9_waits_61
  simp only [nam]
  rw [Int.add_zero, ifJ_le (by omega) (by omega)]
  by_cases h2 : w ≤ f
  · rw [if_pos h2, if_pos h2]
    unfold mb_X9_waits_79
    rw [if_pos (by decide)]
    unfold mb_X9_waits_96
    rw [if_pos (by decide)]
    rfl
  · rw [if_neg h2, if_neg h2]
    unfold mb_X9_waits_79
    rw [ifJ_le (by omega) (by decide), if_neg (by omega)]
    simp only [nam]
    unfold mb_X9_waits_96
    rw [ifJ_le (by omega) (by decide), if_neg (by omega), chk_pos hx, ifI_lt (by omega) (by omega), if_neg (by omega), ifJ_eq (by omega) (by decide)]
    by_cases h3 : f = 0
    · rw [if_pos h3, if_pos h3]
    · rw [if_neg h3, if_neg h3]
      rfl
/-- what the reference answers -/
def waR (num : Int → Int) (f size : Int) : Int × Int := if (wq num f size.toNat).1 = 0 then ((wq num f size.toNat).2.1, (wq num f size.toNat).2.2) else if f = 0 then (-1, size + 2) else ((wq num f size.toNat).2.1 + clo f (wq num f size.toNat).1, size + cei f (wq num f size.toNat).1)
/-- waits -/
theorem waits_spec (hF : 100000 ≤ F) {x f : Int} {many cells num : Int → Int} (hx : 0 ≤ x ∧ x < 4) (hf : 0 ≤ f ∧ f ≤ 6000) (hsz : 0 ≤ many x ∧ many x ≤ 60) (hn : ∀ i, 0 ≤ i → i < many x → 0 ≤ num i ∧ num i ≤ 999) (hc : ∀ i, 0 ≤ i → i < many x → cells (60 * x + i) = num i) :
    m_X9_waits F x f cells many = some (waR num f (many x)) := by
  unfold m_X9_waits ml_X9_waits_14
  generalize hR : waR num f (many x) = R
  unfold waR at hR
  refine loopN_rec (I := fun q : Int × Int × Int × Int => (0 ≤ q.2.2.1 ∧ q.2.2.1 ≤ 90000 - q.1) ∧ (0 ≤ q.1 ∧ q.1 ≤ 59940) ∧ (0 < q.1 → q.2.2.2 = q.2.2.1 + 1) ∧ ((q.2.2.1 ≤ many x ∧ (q.1, q.2.1, q.2.2.2) = wq num f q.2.2.1.toNat) ∨ (many x < q.2.2.1 ∧ 0 < f ∧ (q.1 = 0 → R = (q.2.1, q.2.2.2)) ∧ (0 < q.1 → R = (q.2.1 + clo f q.1, q.2.2.1 + cei f q.1))))) (μ := fun q => if q.2.2.1 < many x then 60000 + (many x - q.2.2.1).toNat else q.1.toNat) (P := fun q y => y = some R) ?_ F (0, 0, 0, 0) ?_ ?_
  · rintro k ⟨w, s, i, c⟩ ⟨⟨i0, i9⟩, ⟨w0, w9⟩, hcl, hq⟩ ih
    simp only at i0 i9 w0 w9 hcl hq ih ⊢
    unfold mb_X9_waits_14
    rw [chk_pos hx, ifI_lt (by omega) (by omega), ifJ_le (by omega) (by decide)]
    by_cases h1 : i < many x
    · rcases hq with ⟨-, hq⟩ | ⟨hq, -⟩
      · obtain ⟨b1, b2, b3, b4⟩ := wq_in (num := num) hf.1 i.toNat (by omega) (fun j j0 j1 => hn j j0 (by omega))
        rw [← hq] at b1 b2 b3 b4
        simp only at b1 b2 b3 b4
        have hxx := hn i i0 h1
        have hci := hc i i0 h1
        have hwq : wq num f (i + 1).toNat = (max 0 (w + num i - f), s + max 0 (w + num i - f), if 0 < max 0 (w + num i - f) then i + 2 else c) := by
          rw [show (i + 1).toNat = i.toNat + 1 by omega]
          simp only [wq]
          rw [← hq, show ((i.toNat : Nat) : Int) = i by omega]
        rw [if_pos h1, waits32_in hx hf ⟨i0, h1⟩ hsz.2 ⟨w0, w9⟩ (by omega), hci]
        by_cases h2 : w + num i ≤ f
        · have hM : max 0 (w + num i - f) = 0 := by omega
          rw [hM] at hwq
          rw [if_pos h2]
          refine ih (0, s + 0, i + 1, c) ⟨by simp only; omega, by simp only; omega, fun z => by simp only at z; omega, Or.inl ⟨by simp only; omega, ?_⟩⟩ ?_
          · simp only
            rw [hwq, if_neg (by decide)]
          · simp only
            rw [if_pos h1]
            split <;> omega
        · have hM : max 0 (w + num i - f) = w + num i - f := by omega
          rw [hM] at hwq
          rw [if_neg h2]
          refine ih (w + num i - f, s + (w + num i - f), i + 1, i + 2) ⟨by simp only; omega, by simp only; omega, fun z => by simp only; omega, Or.inl ⟨by simp only; omega, ?_⟩⟩ ?_
          · simp only
            rw [hwq, if_pos (by omega)]
          · simp only
            rw [if_pos h1]
            split <;> omega
      · omega
    · rw [if_neg h1]
      have hst : (w = 0 → R = (s, c)) ∧ (0 < w → f = 0 → R = (-1, i + 2)) ∧ (0 < w → 0 < f → R = (s + clo f w, i + cei f w)) := by
        rcases hq with ⟨hi, hq⟩ | ⟨hi, hf0, hz, hp⟩
        · have e : i = many x := by omega
          subst e
          rw [← hq] at hR
          simp only at hR
          refine ⟨fun z => ?_, fun z1 z2 => ?_, fun z1 z2 => ?_⟩
          · rw [if_pos z] at hR
            exact hR.symm
          · rw [if_neg (by omega), if_pos z2] at hR
            exact hR.symm
          · rw [if_neg (by omega), if_neg (by omega)] at hR
            exact hR.symm
        · exact ⟨hz, fun _ z => by omega, fun z _ => hp z⟩
      by_cases h2 : w ≤ 0
      · rw [if_pos h2, hst.1 (by omega)]
      · rw [if_neg h2, waits32_out hx hf (by omega) hsz.1 (by omega)]
        by_cases h3 : w ≤ f
        · have := hst.2.2 (by omega) (by omega)
          rw [clo_one (by omega) ⟨by omega, h3⟩, cei_one (by omega) ⟨by omega, h3⟩] at this
          rw [if_pos h3]
          refine ih (0, s + 0, i + 1, c) ⟨by simp only; omega, by simp only; omega, fun z => by simp only at z; omega, Or.inr ⟨by simp only; omega, by omega, fun _ => ?_, fun z => by simp only at z; omega⟩⟩ ?_
          · simp only
            rw [this, hcl (by omega)]
          · simp only
            rw [if_neg h1, if_neg (by omega)]
            omega
        · rw [if_neg h3]
          by_cases h4 : f = 0
          · rw [if_pos h4, hst.2.1 (by omega) h4]
          · have := hst.2.2 (by omega) (by omega)
            rw [clo_step (by omega), cei_step (by omega)] at this
            rw [if_neg h4]
            refine ih (w - f, s + (w - f), i + 1, i + 2) ⟨by simp only; omega, by simp only; omega, fun z => by simp only; omega, Or.inr ⟨by simp only; omega, by omega, fun z => by simp only at z; omega, fun _ => ?_⟩⟩ ?_
            · simp only
              rw [this]
              congr 1 <;> omega
            · simp only
              rw [if_neg h1, if_neg (by omega)]
              omega
  · exact ⟨by simp only; omega, by simp only; omega, fun z => by simp only at z; omega, Or.inl ⟨by simp only; omega, rfl⟩⟩
  · simp only
    split <;> omega
end CRW
section CRW2
variable {lines odds parts walkers bands sided st wk pc wd acts : Int} {steps speeds paces carried aP aS l h p a b c : Int → Int} {F : Nat}
variable {held width size wdt many cells : Int → Int} {num : Int → Int → Int}
/-- the reference's look at the row -/
theorem look9 (hF : 1000 ≤ F) {x : Int} {s' : Int → Int} {nm : Int → Int} (hx : 0 ≤ x ∧ x < 4) (hm : 0 ≤ many x ∧ many x ≤ 60) (hc : ∀ i, 0 ≤ i → i < many x → cells (60 * x + i) = nm i ∧ r64 (nm i)) :
    ((∀ i, 0 ≤ i → i < many x → 0 ≤ nm i ∧ nm i ≤ 999) → ml_X9_whyNotCrowd_50 F x 0 cells many s' = some (0, s')) ∧ ((∃ i, (0 ≤ i ∧ i < many x) ∧ ¬ (0 ≤ nm i ∧ nm i ≤ 999)) → ml_X9_whyNotCrowd_50 F x 0 cells many s' = some (-2, s')) := by
  have main := loopN_rec (body := fun (k : Int → Option (Int × (Int → Int))) q => mb_X9_whyNotCrowd_50 F k x q cells many s') (I := fun q : Int => 0 ≤ q ∧ q ≤ many x ∧ ∀ i, 0 ≤ i → i < q → 0 ≤ nm i ∧ nm i ≤ 999) (μ := fun q => (many x - q).toNat) (P := fun q y => ((∀ i, 0 ≤ i → i < many x → 0 ≤ nm i ∧ nm i ≤ 999) → y = some (0, s')) ∧ ((∃ i, (0 ≤ i ∧ i < many x) ∧ ¬ (0 ≤ nm i ∧ nm i ≤ 999)) → y = some (-2, s'))) ?_ F 0 ?_ ?_
  · exact main
  · rintro k q ⟨q0, q1, hq⟩ ih
    unfold mb_X9_whyNotCrowd_50
    rw [chk_pos hx, ifI_le (by omega) (by omega)]
    by_cases h1 : many x ≤ q
    · rw [if_pos h1]
      exact ⟨fun _ => rfl, fun ⟨i, hi, hn⟩ => absurd (hq i hi.1 (by omega)) hn⟩
    · have hcq := hc q q0 (by omega)
      rw [if_neg h1, chk_pos (by omega), hcq.1, in_spec hcq.2 (by decide) (by decide), bnd1_s, ifB]
      by_cases h2 : 0 ≤ nm q ∧ nm q ≤ 999
      · rw [if_pos h2]
        exact ih (q + 1) ⟨by omega, by omega, fun i i0 i1 => by
          by_cases e : i = q
          · rw [e]; exact h2
          · exact hq i i0 (by omega)⟩ (by omega)
      · rw [if_neg h2]
        exact ⟨fun z => absurd (z q q0 (by omega)) h2, fun _ => rfl⟩
  · exact ⟨by omega, hm.1, fun i i0 i1 => by omega⟩
  · omega
theorem whole_spec {q : Rat} (hq : Bd q 6000 900 ∧ 0 ≤ q) : m_X1_whole F q.num q.den = some (q.num / q.den) ∧ (0 ≤ q.num / (q.den : Int) ∧ q.num / (q.den : Int) ≤ 6000) ∧ dv64 q.num q.den ∧ q.num.tdiv q.den = q.num / q.den := by
  obtain ⟨⟨n0, n1⟩, d0, d1⟩ := Nq.small hq.1 hq.2
  have k1 : 0 ≤ q.num / (q.den : Int) := Int.ediv_nonneg n0 (by omega)
  have k2 : q.num / (q.den : Int) ≤ q.num := Int.ediv_le_self _ n0
  unfold m_X1_whole
  rw [wholeOf_spec (by omega) (by omega) d0, bnd1_s, Int.one_mul]
  exact ⟨rfl, ⟨k1, by omega⟩, by omega, Int.tdiv_eq_ediv_of_nonneg n0⟩
/-- the flow of a law -/
def flowL (st wk pc sp wd law : Int) : Rat := if law = 0 then flowS st sp else flowW st wk pc sp wd
/-- both sides up to the row's walk -/
theorem crowd_pair (hF : 100000 ≤ F) (L : LayN lines odds parts steps speeds walkers paces bands carried sided st wk pc wd acts aP aS l h p a b c) (S : SlotR held width size num wdt many cells) {x1 x2 x3 : Int} (hx1 : r32 x1) (hx2 : r32 x2) (hx3 : r32 x3) (u1 u2 u3 u4 u5 : Int) (sp : Int → Int) :
    (∃ r s', (r = -2 ∨ r = -6) ∧ m_X8_openCrowd F x1 x2 x3 parts sided st wk pc wd speeds u1 u2 u3 held size num u4 u5 = some (r, u1, u2, u3, u4, u5) ∧ m_X9_whyNotCrowd F x1 x2 x3 c cells h many p sp wdt = some (r, s')) ∨
    (∃ s' e w k o1 o2 o3 o4 o5 r8 o9, m_X8_openCrowd F x1 x2 x3 parts sided st wk pc wd speeds u1 u2 u3 held size num u4 u5 = some (0, e, w, k, o1, o2) ∧ m_X9_whyNotCrowd F x1 x2 x3 c cells h many p sp wdt = some (0, s') ∧ m_X9_flowOf F x2 x3 h s' = some (o3, o4, o5) ∧ m_X9_waits F x1 o3 cells many = some (r8, o9) ∧ ((e = 0 ∧ r8 = w ∧ o9 = k ∧ 0 ≤ w ∧ w ≤ 9000000000) ∨ (e = 1 ∧ r8 = -1))) := by
  obtain ⟨-, -, ⟨e1, p0, p4⟩, -⟩ := id L
  obtain ⟨s', e, hs⟩ := areSides_spec (F := F) (by omega) L hx2 sp
  unfold m_X8_openCrowd m_X9_whyNotCrowd m_X8_crowdState
  rw [isSide_spec hx3, bnd1_s, ifB, isSlot8_spec hx1, bnd1_s, ifB, hasFlow_spec L hx2, bnd1_s, ifB, isSlot9_spec hx1, bnd1_s, ifB, isHalf_spec hx3, bnd1_s, ifB, e, bnd2_s, ifB]
  have bad : mb_X8_openCrowd_18 F x1 x2 x3 (-2) st wk pc wd speeds u1 u2 u3 size num u4 u5 = some (-2, u1, u2, u3, u4, u5) := by
    unfold mb_X8_openCrowd_18
    rw [if_neg m20]
  have bad6 : mb_X8_openCrowd_18 F x1 x2 x3 (-6) st wk pc wd speeds u1 u2 u3 size num u4 u5 = some (-6, u1, u2, u3, u4, u5) := by
    unfold mb_X8_openCrowd_18
    rw [if_neg (show ¬ wI (-6) = wI 0 by decide)]
  by_cases h3 : 0 ≤ x3 ∧ x3 ≤ 1
  · by_cases h1 : 0 ≤ x1 ∧ x1 ≤ 3
    · by_cases h2 : (0 ≤ x2 ∧ x2 < parts) ∧ sided = 1
      · have hy := L.speeds_in h2.1.1 h2.1.2
        have hsx := hs h2 x2 h2.1.1 h2.1.2
        obtain ⟨⟨q4, q5, q6, q7⟩, hst, hwk, hpc, hwd⟩ := L.sides h2.2
        rw [if_pos h3, if_pos h3, if_pos h1, if_pos h1, if_pos h2, if_pos h2, chk_pos (by omega), chk_pos (by omega), ifI_lt (by decide) (by omega), ifI_lt (by decide) (by omega), hsx, chk_pos (by omega), chk_pos (by omega)]
        by_cases h4 : 0 < speeds x2
        · rw [if_pos h4, if_pos h4]
          rcases S x1 h1.1 (by omega) with ⟨g1, g2⟩ | ⟨g1, g2, g3, g4, g5, g6⟩
          · rw [g1, g2, if_pos rfl, if_pos rfl, bnd1_s, bad6]
            exact Or.inl ⟨-6, s', Or.inr rfl, rfl, rfl⟩
          · rw [g1, g2, if_neg one0, ifI_eq (by omega) (by decide), if_neg (by omega), bnd1_s]
            have lk := look9 (F := F) (cells := cells) (many := many) (by omega) (x := x1) (s' := s') (nm := num x1) (by omega) (by omega) (fun i i0 i1 => g6 i i0 (by omega))
            obtain ⟨r, er, hr⟩ := hasOut1 (F := F) (by omega) (hi := 999) (size := size x1) (num := num x1) (by decide) g5 (fun i i0 i1 => (g6 i i0 i1).2)
            unfold mb_X8_openCrowd_18
            rw [if_pos rfl, chk_pos (by omega), er, bnd1_s]
            rcases hr with ⟨rfl, hr⟩ | ⟨rfl, hr⟩
            · have hfl : Bd (flowL st wk pc (speeds x2) wd x3) 6000 900 ∧ 0 ≤ flowL st wk pc (speeds x2) wd x3 := by
                unfold flowL
                split
                · exact flowS_bd hst (by omega)
                · exact flowW_bd hst hwk hpc (by omega) hwd
              obtain ⟨w1, w2, w3, w4⟩ := whole_spec (F := F) hfl
              have hps := pass_spec (F := F) (by omega) (f := (flowL st wk pc (speeds x2) wd x3).num / ((flowL st wk pc (speeds x2) wd x3).den : Int)) (size := size x1) (num := num x1) w2 g5 hr
              have hwt := waits_spec (F := F) hF (x := x1) (f := (flowL st wk pc (speeds x2) wd x3).num / ((flowL st wk pc (speeds x2) wd x3).den : Int)) (many := many) (cells := cells) (num := num x1) (by omega) w2 (by omega) (fun i i0 i1 => hr i i0 (by omega)) (fun i i0 i1 => (g6 i i0 (by omega)).1)
              obtain ⟨b1, b2, b3, b4⟩ := wq_in (num := num x1) (f := (flowL st wk pc (speeds x2) wd x3).num / ((flowL st wk pc (speeds x2) wd x3).den : Int)) w2.1 (size x1).toNat (by omega) (fun j j0 j1 => hr j j0 (by omega))
              have open8 : (if wI x3 = wI 0 then (bnd2 (m_X2_putStanding F x2 st speeds) fun o3 o4 => mb_X8_openCrowd_87 F x1 size num o3 o4) else (bnd2 (m_X2_putWalking F x2 wd st wk pc speeds) fun o3 o4 => mb_X8_openCrowd_87 F x1 size num o3 o4)) = mb_X8_openCrowd_87 F x1 size num (flowL st wk pc (speeds x2) wd x3).num ((flowL st wk pc (speeds x2) wd x3).den : Int) := by
                unfold flowL
                rw [ifI_eq hx3 (by decide), putStanding_spec (by omega) (by omega) hst (by omega), bnd2_s, putWalking_spec (by omega) (by omega) hst hwk hpc (by omega) hwd, bnd2_s]
                by_cases z : x3 = 0
                · rw [if_pos z, if_pos z]
                · rw [if_neg z, if_neg z]
              have flow9 : m_X9_flowOf F x2 x3 h s' = some ((flowL st wk pc (speeds x2) wd x3).num / ((flowL st wk pc (speeds x2) wd x3).den : Int), (flowL st wk pc (speeds x2) wd x3).num, ((flowL st wk pc (speeds x2) wd x3).den : Int)) := by
                have : m_X9_flows F x2 x3 (h 7) h s' = some ((flowL st wk pc (speeds x2) wd x3).num, ((flowL st wk pc (speeds x2) wd x3).den : Int)) := by
                  unfold flowL
                  by_cases z : x3 = 0
                  · rw [if_pos z, z, flows0_spec (by omega) (by omega) (by omega), q4, hsx]
                  · rw [if_neg z, show x3 = 1 by omega, flows1_spec (by omega) (by omega) (by omega) (by omega) (by omega) (by omega), q4, q5, q6, q7, hsx]
                unfold m_X9_flowOf
                rw [this, bnd2_s, chk_pos w3, w4]
              rw [if_pos rfl, open8]
              unfold mb_X8_openCrowd_87
              rw [chk_pos (by omega), w1, bnd1_s, hps, lk.1 (fun i i0 i1 => hr i i0 (by omega))]
              refine Or.inr ⟨s', ?_⟩
              rw [flow9]
              unfold waR at hwt
              rw [g4] at hwt
              generalize hf : (flowL st wk pc (speeds x2) wd x3).num / ((flowL st wk pc (speeds x2) wd x3).den : Int) = f at *
              by_cases z0 : (wq (num x1) f (size x1).toNat).1 = 0
              · rw [if_pos z0] at hwt
                rw [if_pos z0, bnd3_s]
                exact ⟨_, _, _, _, _, _, _, _, _, _, rfl, rfl, rfl, hwt, Or.inl ⟨rfl, rfl, rfl, by omega, by omega⟩⟩
              · rw [if_neg z0] at hwt
                rw [if_neg z0]
                by_cases z1 : f = 0
                · rw [if_pos z1] at hwt
                  rw [if_pos z1, bnd3_s]
                  exact ⟨_, _, _, _, _, _, _, _, _, _, rfl, rfl, rfl, hwt, Or.inr ⟨rfl, rfl⟩⟩
                · rw [if_neg z1] at hwt
                  rw [if_neg z1, bnd3_s]
                  obtain ⟨k1, k2⟩ := clo_in (f := f) (by omega) 59940 (wq (num x1) f (size x1).toNat).1 (by omega) (by omega)
                  have k3 := mul_in (x := (wq (num x1) f (size x1).toNat).1) (y := (wq (num x1) f (size x1).toNat).1) (M := 59940) (N := 59940) (by omega) (by omega)
                  exact ⟨_, _, _, _, _, _, _, _, _, _, rfl, rfl, rfl, hwt, Or.inl ⟨rfl, rfl, rfl, by omega, by omega⟩⟩
            · rw [if_neg one0, lk.2 (by rw [g4]; exact hr)]
              exact Or.inl ⟨-2, s', Or.inl rfl, rfl, rfl⟩
        · rw [if_neg h4, if_neg h4, bnd1_s, bad]
          exact Or.inl ⟨-2, s', Or.inl rfl, rfl, rfl⟩
      · rw [if_pos h3, if_pos h3, if_pos h1, if_pos h1, if_neg h2, if_neg h2, bnd1_s, bad]
        exact Or.inl ⟨-2, s', Or.inl rfl, rfl, rfl⟩
    · rw [if_pos h3, if_neg h1, if_neg h1, bnd1_s, bad]
      exact Or.inl ⟨-2, sp, Or.inl rfl, rfl, rfl⟩
  · rw [if_neg h3, bad]
    refine Or.inl ⟨-2, sp, Or.inl rfl, rfl, ?_⟩
    rw [if_neg h3]
    split <;> rfl
/-- crowd -/
theorem op_crowd (hF : 100000 ≤ F) (L : LayN lines odds parts steps speeds walkers paces bands carried sided st wk pc wd acts aP aS l h p a b c) (S : SlotR held width size num wdt many cells) {x1 x2 x3 : Int} (hx1 : r32 x1) (hx2 : r32 x2) (hx3 : r32 x3) (u1 u2 u3 u4 u5 v1 v2 v3 : Int) (sp : Int → Int) : Eq1 (m_X8_crowd F x1 x2 x3 parts sided st wk pc wd speeds u1 u2 u3 held size num u4 u5) (m_X9_crowd F x1 x2 x3 v1 v2 v3 c cells h many p sp wdt) := by
  unfold m_X8_crowd m_X9_crowd
  rcases crowd_pair hF L S hx1 hx2 hx3 u1 u2 u3 u4 u5 sp with ⟨r, s', hr, f1, f2⟩ | ⟨s', e, w, k, o1, o2, o3, o4, o5, r8, o9, f1, f2, f3, f4, hr⟩
  · rw [f1, f2, bnd6_s, bnd2_s, ifI_eq (a := r) (b := 0) (by omega) (by decide), ifI_eq (a := r) (b := 0) (by omega) (by decide), if_neg (show ¬ r = 0 by omega), if_neg (show ¬ r = 0 by omega), chk_pos (by omega), chk_pos (by omega)]
    exact Eq1.mk
  · rw [f1, f2, bnd6_s, bnd2_s, if_pos rfl, if_pos rfl, f3, bnd3_s, f4, bnd2_s]
    rcases hr with ⟨rfl, rfl, rfl, -⟩ | ⟨rfl, rfl⟩
    · rw [if_pos rfl]
      exact Eq1.mk
    · rw [if_neg one0]
      exact Eq1.mk
/-- clears -/
theorem op_clears (hF : 100000 ≤ F) (L : LayN lines odds parts steps speeds walkers paces bands carried sided st wk pc wd acts aP aS l h p a b c) (S : SlotR held width size num wdt many cells) {x1 x2 x3 : Int} (hx1 : r32 x1) (hx2 : r32 x2) (hx3 : r32 x3) (u1 u2 u3 u4 u5 v1 v2 v3 : Int) (sp : Int → Int) : Eq1 (m_X8_clears F x1 x2 x3 parts sided st wk pc wd speeds u1 u2 u3 held size num u4 u5) (m_X9_clears F x1 x2 x3 v1 v2 v3 c cells h many p sp wdt) := by
  unfold m_X8_clears m_X9_clears
  rcases crowd_pair hF L S hx1 hx2 hx3 u1 u2 u3 u4 u5 sp with ⟨r, s', hr, f1, f2⟩ | ⟨s', e, w, k, o1, o2, o3, o4, o5, r8, o9, f1, f2, f3, f4, hr⟩
  · rw [f1, f2, bnd6_s, bnd2_s, ifI_eq (a := r) (b := 0) (by omega) (by decide), ifI_eq (a := r) (b := 0) (by omega) (by decide), if_neg (show ¬ r = 0 by omega), if_neg (show ¬ r = 0 by omega)]
    exact Eq1.mk
  · rw [f1, f2, bnd6_s, bnd2_s, if_pos rfl, if_pos rfl, f3, bnd3_s, f4, bnd2_s]
    rcases hr with ⟨rfl, rfl, rfl, hw0, hw1⟩ | ⟨rfl, rfl⟩
    · rw [if_pos rfl, ifJ_eq (by omega) (by decide), if_neg (by omega)]
      exact Eq1.mk
    · rw [if_neg one0, if_pos rfl]
      exact Eq1.mk
end CRW2
