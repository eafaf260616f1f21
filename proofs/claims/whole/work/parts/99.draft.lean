section OPS2
variable {lines odds parts walkers bands sided st wk pc wd acts : Int} {steps speeds paces carried aP aS l h p a b c : Int → Int} {F : Nat}
theorem keeps_spec {x1 la lb lo : Int} {q : Rat} (hq : Nq q) (hlo : r32 lo) (hl : lo ≠ -1 → ∃ t : Rat, Nq t ∧ la = t.num ∧ lb = (t.den : Int)) : ∃ la' lb' lo', m_X9_keeps F x1 q.num q.den la lb lo = some (la', lb', lo') ∧ ((lo = -1 ∧ la' = q.num ∧ lb' = (q.den : Int) ∧ lo' = x1) ∨ (∃ t : Rat, lo ≠ -1 ∧ la = t.num ∧ lb = (t.den : Int) ∧ ((q < t ∧ la' = q.num ∧ lb' = (q.den : Int) ∧ lo' = x1) ∨ (¬ q < t ∧ la' = la ∧ lb' = lb ∧ lo' = lo)))) := by
  unfold m_X9_keeps mb_X9_keeps_31
  rw [ifI_eq hlo (by decide)]
  by_cases h1 : lo = -1
  · rw [if_pos h1]
    exact ⟨_, _, _, rfl, Or.inl ⟨h1, rfl, rfl, rfl⟩⟩
  · rw [if_neg h1]
    obtain ⟨t, ht, rfl, rfl⟩ := hl h1
    rw [isLessQ hq ht, bnd1_s, ifB]
    by_cases h2 : q < t
    · rw [if_pos h2]
      exact ⟨_, _, _, rfl, Or.inr ⟨t, h1, rfl, rfl, Or.inl ⟨h2, rfl, rfl, rfl⟩⟩⟩
    · rw [if_neg h2]
      exact ⟨_, _, _, rfl, Or.inr ⟨t, h1, rfl, rfl, Or.inr ⟨h2, rfl, rfl, rfl⟩⟩⟩
theorem num_den_inj {q t : Rat} (h1 : q.num = t.num) (h2 : (q.den : Int) = (t.den : Int)) : q = t := Rat.ext h1 (by omega)
/-- what the two sides hold of the best so far -/
def BestR (w la lb lo ba bb : Int) : Prop := lo = w ∧ r32 w ∧ (w ≠ -1 → ∃ t : Rat, Nq t ∧ la = t.num ∧ lb = (t.den : Int) ∧ ba = t.num ∧ bb = (t.den : Int))
/-- first -/
theorem op_first (hF : 1000 ≤ F) (L : LayN lines odds parts steps speeds walkers paces bands carried sided st wk pc wd acts aP aS l h p a b c) (u1 u2 u3 u4 v1 v2 v3 v4 v5 : Int) (sp : Int → Int) : Eq1 (m_X8_first F lines parts walkers paces speeds steps u1 u2 u3 u4) (m_X9_first F v1 v2 v3 v4 v5 c h l a p sp) := by
  obtain ⟨⟨e0, l0, l1⟩, -, -, ⟨e2, w0, w8⟩, -, -, -, -, hw, -⟩ := id L
  unfold m_X8_first m_X9_first
  rw [isThere_spec (by omega), bnd1_s, ifB, isStair_spec (by omega), bnd1_s, ifB, e0]
  by_cases h1 : 0 < lines
  · obtain ⟨s', e, hs⟩ := lays_spec hF L sp
    rw [if_pos h1, if_pos h1, e, bnd1_s]
    unfold ml_X8_first_17 ml_X9_first_26
    refine loopN_rel (I := fun s t => s.2.1 = t.1 ∧ 0 ≤ s.2.1 ∧ s.2.1 ≤ walkers ∧ BestR s.1 t.2.2.2.1 t.2.2.2.2.1 t.2.2.2.2.2 s.2.2.1 s.2.2.2.1) (μ := fun s => (walkers - s.2.1).toNat) (P := Eq1) ?_ F _ _ ?_ ?_
    · rintro k1 k2 ⟨w, x, ba, bb, sa, sb⟩ ⟨x', ra, rb, la, lb, lo⟩ ⟨hxx, hx0, hx1, hlo, hwr, hb⟩ ih
      simp only at hxx hx0 hx1 hlo hwr hb ih ⊢
      subst hxx; subst hlo
      unfold mb_X8_first_17 mb_X9_first_26
      rw [e2, ifI_le (by omega) (by omega), ifI_le (by omega) (by omega)]
      by_cases hx : walkers ≤ x
      · rw [if_pos hx, if_pos hx]
        exact Eq1.mk
      · have hp := hw x hx0 (by omega)
        have cr := crossesR hF L (pace := paces x) (by omega)
        have go := goesR hF L hs (pace := paces x) (by omega)
        rw [if_neg hx, if_neg hx, chk_pos (by omega), chk_pos (by omega), hp.1]
        cases hT : TM steps speeds parts (paces x) with
        | none =>
          rw [hT] at cr go
          obtain ⟨A, B, cr⟩ := cr
          obtain ⟨A', B', go⟩ := go
          rw [cr, go, bnd3_s, bnd3_s, if_pos rfl, if_pos rfl]
          simp only [mb_X8_first_96, mb_X9_first_55]
          exact ih _ _ ⟨rfl, by simp only; omega, by simp only; omega, rfl, hwr, hb⟩ (by simp only; omega)
        | some q =>
          obtain ⟨-, -, hq⟩ := TM_nq L (by omega) hT
          rw [hT] at cr go
          simp only [Res] at cr go
          rw [cr, go, bnd3_s, bnd3_s, if_neg (by decide), if_neg (by decide)]
          obtain ⟨la', lb', lo', hk, hcase⟩ := keeps_spec (F := F) (x1 := x) (la := la) (lb := lb) (lo := w) hq hwr (fun z => by obtain ⟨t, ht, a1, a2, -⟩ := hb z; exact ⟨t, ht, a1, a2⟩)
          rw [hk, bnd3_s, ifI_eq hwr (by decide)]
          simp only [mb_X8_first_77, mb_X8_first_96, mb_X9_first_55, m_X1_take, bnd2_s]
          rcases hcase with ⟨g1, g2, g3, g4⟩ | ⟨t, g1, g2, g3, g4⟩
          · subst g2; subst g3; subst g4
            rw [if_pos g1]
            exact ih _ _ ⟨rfl, by simp only; omega, by simp only; omega, rfl, by simp only; omega, fun _ => ⟨q, hq, rfl, rfl, rfl, rfl⟩⟩ (by simp only; omega)
          · obtain ⟨t', ht', a1, a2, a3, a4⟩ := hb g1
            have : t' = t := num_den_inj (by rw [← a1, g2]) (by rw [← a2, g3])
            subst this
            rw [if_neg g1, a3, a4, againstQ hF hq ht', bnd1_s]
            rcases g4 with ⟨g4, g5, g6, g7⟩ | ⟨g4, g5, g6, g7⟩
            · subst g5; subst g6; subst g7
              rw [if_pos g4, if_neg (by decide)]
              exact ih _ _ ⟨rfl, by simp only; omega, by simp only; omega, rfl, by simp only; omega, fun _ => ⟨q, hq, rfl, rfl, rfl, rfl⟩⟩ (by simp only; omega)
            · subst g5; subst g6; subst g7
              rw [if_neg g4]
              have hc : wI 0 ≤ wI (if q = t' then 0 else 1) := by
                by_cases hqt : q = t'
                · rw [if_pos hqt]
                  decide
                · rw [if_neg hqt]
                  decide
              rw [if_pos hc]
              exact ih _ _ ⟨rfl, by simp only; omega, by simp only; omega, rfl, hwr, fun _ => ⟨t', ht', a1, a2, rfl, rfl⟩⟩ (by simp only; omega)
    · exact ⟨rfl, by simp only; omega, by simp only; omega, rfl, by simp only; decide, fun z => absurd rfl z⟩
    · simp only
      omega
  · rw [if_neg h1, if_neg h1]
    exact Eq1.mk
/-- catches -/
theorem op_catches (hF : 1000 ≤ F) (L : LayN lines odds parts steps speeds walkers paces bands carried sided st wk pc wd acts aP aS l h p a b c) {x1 x2 x3 : Int} (hx1 : r32 x1) (hx2 : r32 x2) (hx3 : r32 x3) (u1 u2 u3 u4 v1 v2 : Int) (sp : Int → Int) : Eq1 (m_X8_catches F x1 x2 x3 u1 u2 parts walkers paces speeds steps u3 u4) (m_X9_catches F x1 x2 x3 v1 v2 c h a p sp) := by
  obtain ⟨-, -, ⟨e1, p0, p4⟩, ⟨e2, w0, w8⟩, -, -, -, -, hw, -⟩ := id L
  obtain ⟨s', e, hs⟩ := areSeconds_spec hF L hx1 hx3 (show r32 3600 by decide) sp
  unfold m_X8_catches m_X9_catches
  rw [hasWalker_spec hx1 ⟨w0, w8⟩, bnd1_s, ifB, hasWalker_spec hx2 ⟨w0, w8⟩, bnd1_s, ifB, chk_pos hx3, isOut_spec (by omega) (by decide) (by decide), bnd1_s, ifB, e, bnd2_s, ifB, isWalker_spec hx2 (by omega), bnd1_s, ifB, e2]
  by_cases h1 : 0 ≤ x1 ∧ x1 < walkers
  · by_cases h2 : 0 ≤ x2 ∧ x2 < walkers
    · by_cases h3 : 0 ≤ x3 ∧ x3 ≤ 3600
      · have hp := hw x1 h1.1 h1.2
        have hp2 := hw x2 h2.1 h2.2
        have hss := hs ⟨h1, h3⟩
        have cr := crossesR hF L (pace := paces x1) (by omega)
        have go := goesR hF L hss (pace := paces x1) (by omega)
        have cr2 := crossesR hF L (pace := paces x2) (by omega)
        have go2 := goesR hF L hss (pace := paces x2) (by omega)
        rw [if_pos h1, if_pos h2, if_neg (by omega), if_pos ⟨h1, h3⟩, if_pos h2, chk_pos (by omega), chk_pos (by omega), hp.1]
        cases hT : TM steps speeds parts (paces x1) with
        | none =>
          rw [hT] at cr go
          obtain ⟨A, B, cr⟩ := cr
          obtain ⟨A', B', go⟩ := go
          rw [cr, go, bnd3_s, bnd3_s, if_pos rfl, if_pos rfl]
          exact Eq1.mk
        | some q =>
          obtain ⟨hb, hq0, hq⟩ := TM_nq L (by omega) hT
          rw [hT] at cr go
          simp only [Res] at cr go
          have hb2 : Bt 3600 0 1 parts.toNat q := Bd.mono hb (by exact Nat.mul_le_mul_right _ (Nat.add_le_add_left (Nat.mul_le_mul_right _ (Nat.mul_le_mul_right _ (by decide))) _)) (Nat.le_refl _)
          have hcap : Cap 3600 0 1 (parts.toNat + 1) := Cap.le (J := 5) ⟨by decide, by decide⟩ (by omega)
          have hadd := Bt.add (F := F) hF hb2 (a := x3) (b := 60) (by omega) (by decide) hcap
          have hadds := Bt.adds (F := F) hb2 (a := x3) (b := 60) (by omega) (by decide) hcap
          have hb3 := hb2.step (a := x3) (b := 60) (by omega) (by decide)
          have hq3 : Nq (q + Rat.divInt x3 60) := hb3.nq (Rat.add_nonneg hq0 (Rat.divInt_nonneg h3.1 (by decide))) hcap
          rw [cr, go, bnd3_s, bnd3_s, if_neg (by decide), if_neg (by decide)]
          unfold m_X1_take
          rw [bnd2_s, chk_pos hx3, hadd, bnd2_s, chk_pos (by omega), chk_pos hx3, hadds, bnd2_s, chk_pos (by omega), hp2.1]
          cases hT2 : TM steps speeds parts (paces x2) with
          | none =>
            rw [hT2] at cr2 go2
            obtain ⟨A, B, cr2⟩ := cr2
            obtain ⟨A', B', go2⟩ := go2
            rw [cr2, go2, bnd3_s, bnd3_s, if_pos rfl, if_pos rfl]
            exact Eq1.mk
          | some t =>
            obtain ⟨-, -, ht⟩ := TM_nq L (by omega) hT2
            rw [hT2] at cr2 go2
            simp only [Res] at cr2 go2
            rw [cr2, go2, bnd3_s, bnd3_s, if_neg (by decide), if_neg (by decide), againstQ hF hq3 ht, bnd1_s, isLessQ ht hq3, bnd1_s, ifB]
            by_cases g : t < q + Rat.divInt x3 60
            · rw [if_pos g, if_neg (fun z => Rat.not_lt.mpr (Rat.le_of_lt z) g), if_neg (fun z => Rat.ne_of_lt g z.symm), if_pos (by decide)]
              exact Eq1.mk
            · rw [if_neg g]
              have : ¬ wI 0 < wI (if q + Rat.divInt x3 60 < t then -1 else if q + Rat.divInt x3 60 = t then 0 else 1) := by
                by_cases g2 : q + Rat.divInt x3 60 < t
                · rw [if_pos g2]
                  decide
                · have g3 : q + Rat.divInt x3 60 = t := Rat.le_antisymm (Rat.not_lt.mp g) (Rat.not_lt.mp g2)
                  rw [if_neg g2, if_pos g3]
                  decide
              rw [if_neg this]
              exact Eq1.mk
      · rw [if_pos h1, if_pos h2, if_pos (by omega), if_neg (fun z => h3 z.2)]
        exact Eq1.mk
    · rw [if_pos h1, if_neg h2]
      by_cases h3 : 0 ≤ x3 ∧ x3 ≤ 3600
      · rw [if_pos ⟨h1, h3⟩, if_neg h2]
        exact Eq1.mk
      · rw [if_neg (fun z => h3 z.2)]
        exact Eq1.mk
  · rw [if_neg h1, if_neg (fun z => h1 z.1)]
    exact Eq1.mk
theorem isAbove_spec {x : Int} {q : Rat} (hx : 0 ≤ x ∧ x ≤ 600) (hq : Nq q) (hd : q.den ≤ 1000000000000000) : m_X1_isAbove F x q.num q.den = some (bI (x * q.den < q.num)) := by
  obtain ⟨h1, h2, h3⟩ := hq.p
  unfold m_X1_isAbove bI
  have h4 : 0 ≤ x * (q.den : Int) := Int.mul_nonneg hx.1 (by omega)
  have h5 : x * (q.den : Int) ≤ 600 * (q.den : Int) := Int.mul_le_mul_of_nonneg_right hx.2 (by omega)
  rw [ifJ_le (by omega) (by omega)]
  by_cases g : q.num ≤ x * q.den
  · rw [if_pos g, if_neg (by omega)]
  · rw [if_neg g, if_pos (by omega)]
theorem Bt.den {A N D j : Nat} {q : Rat} (h : Bt A N D j q) {M : Nat} (hM : D * 90 ^ j ≤ M) : q.den ≤ M := Nat.le_trans h.2 hM
theorem pow90 {j : Nat} (hj : j ≤ 4) : 1 * 90 ^ j ≤ 65610000 := by
  have : 90 ^ j ≤ 90 ^ 4 := Nat.pow_le_pow_right (by decide) hj
  have h4 : (90 : Nat) ^ 4 = 65610000 := by decide
  omega
/-- train -/
theorem op_train (hF : 1000 ≤ F) (L : LayN lines odds parts steps speeds walkers paces bands carried sided st wk pc wd acts aP aS l h p a b c) {x1 x2 : Int} (hx1 : r32 x1) (hx2 : r32 x2) (u1 u2 v1 v2 : Int) (sp : Int → Int) : Eq1 (m_X8_train F x1 x2 parts walkers paces speeds steps u1 u2) (m_X9_train F x1 x2 v1 v2 c h a p sp) := by
  obtain ⟨-, -, ⟨e1, p0, p4⟩, ⟨e2, w0, w8⟩, -, -, -, -, hw, -⟩ := id L
  obtain ⟨s', e, hs⟩ := isTrain_spec hF L hx1 hx2 sp
  unfold m_X8_train m_X9_train
  rw [hasWalker_spec hx1 ⟨w0, w8⟩, bnd1_s, ifB, chk_pos hx2, isOut_spec (by omega) (by decide) (by decide), bnd1_s, ifB, e, bnd2_s, ifB]
  by_cases h1 : 0 ≤ x1 ∧ x1 < walkers
  · by_cases h2 : 0 ≤ x2 ∧ x2 ≤ 600
    · have hp := hw x1 h1.1 h1.2
      have hss := hs ⟨h1, h2⟩
      rw [if_pos h1, if_neg (by omega), if_pos ⟨h1, h2⟩]
      unfold ml_X8_train_28 ml_X9_train_19
      refine loopN_rel (I := fun s t => s.1 = t.1 ∧ 0 ≤ s.1 ∧ s.1 ≤ 31) (μ := fun s => (31 - s.1).toNat) (P := Eq1) ?_ F _ _ ?_ ?_
      · rintro k1 k2 ⟨x, y1, z1⟩ ⟨x', y2, z2⟩ ⟨hxx, hx0, hx31⟩ ih
        simp only at hxx hx0 hx31 ih ⊢
        subst hxx
        unfold mb_X8_train_28 mb_X9_train_19
        rw [ifI_lt (by decide) (by omega), ifI_lt (by decide) (by omega)]
        by_cases hx : 30 < x
        · rw [if_pos hx, if_pos hx]
          exact Eq1.mk
        · have cr := crossesR hF L (pace := paces x1 + x) (by omega)
          have go := goesR hF L hss (pace := paces x1 + x) (by omega)
          rw [if_neg hx, if_neg hx, chk_pos (by omega), chk_pos (by omega), hp.1]
          unfold m_X6_isWithin
          simp only [mb_X9_train_58]
          cases hT : TM steps speeds parts (paces x1 + x) with
          | none =>
            rw [hT] at cr go
            obtain ⟨A, B, cr⟩ := cr
            obtain ⟨A', B', go⟩ := go
            rw [cr, go, bnd3_s, bnd3_s, if_pos rfl, if_pos rfl, bnd3_s, if_pos rfl]
            exact ih _ _ ⟨rfl, by simp only; omega, by simp only; omega⟩ (by simp only; omega)
          | some q =>
            obtain ⟨hb, hq0, hq⟩ := TM_nq L (by omega) hT
            have hd := hb.den (pow90 (by omega))
            obtain ⟨g1, g2, g3⟩ := hq.p
            have h4 : 0 ≤ x2 * (q.den : Int) := Int.mul_nonneg h2.1 (by omega)
            have h5 : x2 * (q.den : Int) ≤ 600 * (q.den : Int) := Int.mul_le_mul_of_nonneg_right h2.2 (by omega)
            rw [hT] at cr go
            simp only [Res] at cr go
            rw [cr, go, bnd3_s, bnd3_s, if_neg (by decide), if_neg (by decide), chk_pos hx2, chk_pos hx2, isAbove_spec h2 hq (by omega), bnd1_s, ifB, ifJ_lt (by omega) (by omega)]
            by_cases g : x2 * (q.den : Int) < q.num
            · rw [if_pos g, if_pos g, bnd3_s, if_pos rfl]
              exact ih _ _ ⟨rfl, by simp only; omega, by simp only; omega⟩ (by simp only; omega)
            · rw [if_neg g, if_neg g, bnd3_s, if_neg (by decide)]
              exact Eq1.mk
      · exact ⟨rfl, by simp only; omega, by simp only; omega⟩
      · simp only
        omega
    · rw [if_pos h1, if_pos (by omega), if_neg (fun z => h2 z.2)]
      exact Eq1.mk
  · rw [if_neg h1, if_neg (fun z => h1 z.1)]
    exact Eq1.mk
end OPS2
