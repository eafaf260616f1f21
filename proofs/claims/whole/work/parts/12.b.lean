theorem up_at {α : Type} (f : Int → α) (i : Int) (x : α) : up f i x i = x := if_pos rfl
theorem up_ne {α : Type} {f : Int → α} {i j : Int} {x : α} (h : j ≠ i) : up f i x j = f j := if_neg h
theorem one0 : ¬ (wI 1 = wI 0) := by decide
section OPS2
variable {lines odds parts walkers bands sided st wk pc wd acts : Int} {steps speeds paces carried aP aS l h p a b c : Int → Int} {F : Nat}
theorem keeps_spec {x1 la lb lo : Int} {q : Rat} (hq : Nq q) (hlo : r32 lo) (hl : lo ≠ -1 → ∃ t : Rat, Nq t ∧ la = t.num ∧ lb = (t.den : Int)) : ∃ la' lb' lo', m_X9_keeps F x1 q.num q.den la lb lo = some (la', lb', lo') ∧ ((lo = -1 ∧ la' = q.num ∧ lb' = (q.den : Int) ∧ lo' = x1) ∨ (∃ t : Rat, lo ≠ -1 ∧ la = t.num ∧ lb = (t.den : Int) ∧ ((q < t ∧ la' = q.num ∧ lb' = (q.den : Int) ∧ lo' = x1) ∨ (¬ q < t ∧ la' = la ∧ lb' = lb ∧ lo' = lo)))) := by
  unfold m_X9_keeps mb_X9_keeps_31
  rw [ifI_eq hlo (by decide)]
  by_cases h1 : lo = -1
  · rw [if_pos h1]
    exact ⟨_, _, _, rfl, Or.inl ⟨h1, rfl, rfl, rfl⟩⟩
  · rw [if_neg h1]
    obtain ⟨t, ht, rfl, rfl⟩ := hl h1
    rw [isLessQ hq ht, bnd1_s, ifB]
    by_cases h2 : q < t
    · rw [if_pos h2]
      exact ⟨_, _, _, rfl, Or.inr ⟨t, h1, rfl, rfl, Or.inl ⟨h2, rfl, rfl, rfl⟩⟩⟩
    · rw [if_neg h2]
      exact ⟨_, _, _, rfl, Or.inr ⟨t, h1, rfl, rfl, Or.inr ⟨h2, rfl, rfl, rfl⟩⟩⟩
theorem num_den_inj {q t : Rat} (h1 : q.num = t.num) (h2 : (q.den : Int) = (t.den : Int)) : q = t := Rat.ext h1 (by omega)
/-- what the two sides hold of the best so far -/
def BestR (w la lb lo ba bb : Int) : Prop := lo = w ∧ r32 w ∧ (w ≠ -1 → ∃ t : Rat, Nq t ∧ la = t.num ∧ lb = (t.den : Int) ∧ ba = t.num ∧ bb = (t.den : Int))
/-- first -/
theorem op_first (hF : 1000 ≤ F) (L : LayN lines odds parts steps speeds walkers paces bands carried sided st wk pc wd acts aP aS l h p a b c) (u1 u2 u3 u4 v1 v2 v3 v4 v5 : Int) (sp : Int → Int) : Eq1 (m_X8_first F lines parts walkers paces speeds steps u1 u2 u3 u4) (m_X9_first F v1 v2 v3 v4 v5 c h l a p sp) := by
  obtain ⟨⟨e0, l0, l1⟩, -, -, ⟨e2, w0, w8⟩, -, -, -, -, hw, -⟩ := id L
  unfold m_X8_first m_X9_first
  rw [isThere_spec (by omega), bnd1_s, ifB, isStair_spec (by omega), bnd1_s, ifB, e0]
  by_cases h1 : 0 < lines
  · obtain ⟨s', e, hs⟩ := lays_spec hF L sp
    rw [if_pos h1, if_pos h1, e, bnd1_s]
    unfold ml_X8_first_17 ml_X9_first_26
    refine loopN_rel (I := fun s t => s.2.1 = t.1 ∧ 0 ≤ s.2.1 ∧ s.2.1 ≤ walkers ∧ BestR s.1 t.2.2.2.1 t.2.2.2.2.1 t.2.2.2.2.2 s.2.2.1 s.2.2.2.1) (μ := fun s => (walkers - s.2.1).toNat) (P := Eq1) ?_ F _ _ ?_ ?_
    · rintro k1 k2 ⟨w, x, ba, bb, sa, sb⟩ ⟨x', ra, rb, la, lb, lo⟩ ⟨hxx, hx0, hx1, hlo, hwr, hb⟩ ih
      simp only at hxx hx0 hx1 hlo hwr hb ih ⊢
      subst hxx; subst hlo
      unfold mb_X8_first_17 mb_X9_first_26
      rw [e2, ifI_le (by omega) (by omega), ifI_le (by omega) (by omega)]
      by_cases hx : walkers ≤ x
      · rw [if_pos hx, if_pos hx]
        exact Eq1.mk
      · have hp := hw x hx0 (by omega)
        have cr := crossesR hF L (pace := paces x) (by omega)
        have go := goesR hF L hs (pace := paces x) (by omega)
        rw [if_neg hx, if_neg hx, chk_pos (by omega), chk_pos (by omega), hp.1]
        cases hT : TM steps speeds parts (paces x) with
        | none =>
          rw [hT] at cr go
          obtain ⟨A, B, cr⟩ := cr
          obtain ⟨A', B', go⟩ := go
          rw [cr, go, bnd3_s, bnd3_s, if_pos rfl, if_pos rfl]
          simp only [mb_X8_first_96, mb_X9_first_55]
          exact ih _ _ ⟨rfl, by simp only; omega, by simp only; omega, rfl, hwr, hb⟩ (by simp only; omega)
        | some q =>
          obtain ⟨-, -, hq⟩ := TM_nq L (by omega) hT
          rw [hT] at cr go
          simp only [Res] at cr go
          rw [cr, go, bnd3_s, bnd3_s, if_neg one0, if_neg one0]
          obtain ⟨la', lb', lo', hk, hcase⟩ := keeps_spec (F := F) (x1 := x) (la := la) (lb := lb) (lo := lo) hq hwr (fun z => by obtain ⟨t, ht, a1, a2, -⟩ := hb z; exact ⟨t, ht, a1, a2⟩)
          rw [hk, bnd3_s, ifI_eq hwr (by decide)]
          simp only [mb_X8_first_77, mb_X8_first_96, mb_X9_first_55, m_X1_take, bnd2_s]
          rcases hcase with ⟨g1, g2, g3, g4⟩ | ⟨t, g1, g2, g3, g4⟩
          · subst g2; subst g3; subst g4
            rw [if_pos g1]
            exact ih _ _ ⟨rfl, by simp only; omega, by simp only; omega, rfl, by simp only; omega, fun _ => ⟨q, hq, rfl, rfl, rfl, rfl⟩⟩ (by simp only; omega)
          · obtain ⟨t', ht', a1, a2, a3, a4⟩ := hb g1
            have : t' = t := num_den_inj (by rw [← a1, g2]) (by rw [← a2, g3])
            subst this
            rw [if_neg g1, a3, a4, againstQ hF hq ht', bnd1_s]
            rcases g4 with ⟨g4, g5, g6, g7⟩ | ⟨g4, g5, g6, g7⟩
            · subst g5; subst g6; subst g7
              rw [if_pos g4, if_neg (by decide)]
              exact ih _ _ ⟨rfl, by simp only; omega, by simp only; omega, rfl, by simp only; omega, fun _ => ⟨q, hq, rfl, rfl, rfl, rfl⟩⟩ (by simp only; omega)
            · subst g5; subst g6; subst g7
              rw [if_neg g4]
              have hc : wI 0 ≤ wI (if q = t' then 0 else 1) := by
                by_cases hqt : q = t'
                · rw [if_pos hqt]
                  decide
                · rw [if_neg hqt]
                  decide
              rw [if_pos hc]
              exact ih _ _ ⟨rfl, by simp only; omega, by simp only; omega, rfl, hwr, fun _ => ⟨t', ht', a1, a2, rfl, rfl⟩⟩ (by simp only; omega)
    · exact ⟨rfl, by simp only; omega, by simp only; omega, rfl, by simp only; decide, fun z => absurd rfl z⟩
    · simp only
      omega
  · rw [if_neg h1, if_neg h1]
    exact Eq1.mk
/-- catches -/
theorem op_catches (hF : 1000 ≤ F) (L : LayN lines odds parts steps speeds walkers paces bands carried sided st wk pc wd acts aP aS l h p a b c) {x1 x2 x3 : Int} (hx1 : r32 x1) (hx2 : r32 x2) (hx3 : r32 x3) (u1 u2 u3 u4 v1 v2 : Int) (sp : Int → Int) : Eq1 (m_X8_catches F x1 x2 x3 u1 u2 parts walkers paces speeds steps u3 u4) (m_X9_catches F x1 x2 x3 v1 v2 c h a p sp) := by
  obtain ⟨-, -, ⟨e1, p0, p4⟩, ⟨e2, w0, w8⟩, -, -, -, -, hw, -⟩ := id L
  obtain ⟨s', e, hs⟩ := areSeconds_spec hF L hx1 hx3 (show r32 3600 by decide) sp
  unfold m_X8_catches m_X9_catches
  rw [hasWalker_spec hx1 ⟨w0, w8⟩, bnd1_s, ifB, hasWalker_spec hx2 ⟨w0, w8⟩, bnd1_s, ifB, chk_pos hx3, isOut_spec (by omega) (by decide) (by decide), bnd1_s, ifB, e, bnd2_s, ifB, isWalker_spec hx2 (by omega), bnd1_s, ifB, e2]
  by_cases h1 : 0 ≤ x1 ∧ x1 < walkers
  · by_cases h2 : 0 ≤ x2 ∧ x2 < walkers
    · by_cases h3 : 0 ≤ x3 ∧ x3 ≤ 3600
      · have hp := hw x1 h1.1 h1.2
        have hp2 := hw x2 h2.1 h2.2
        have hss := hs ⟨h1, h3⟩
        have cr := crossesR hF L (pace := paces x1) (by omega)
        have go := goesR hF L hss (pace := paces x1) (by omega)
        have cr2 := crossesR hF L (pace := paces x2) (by omega)
        have go2 := goesR hF L hss (pace := paces x2) (by omega)
        rw [if_pos h1, if_pos h2, if_neg (by omega), if_pos ⟨h1, h3⟩, if_pos h2, chk_pos (by omega), chk_pos (by omega), hp.1]
        cases hT : TM steps speeds parts (paces x1) with
        | none =>
          rw [hT] at cr go
          obtain ⟨A, B, cr⟩ := cr
          obtain ⟨A', B', go⟩ := go
          rw [cr, go, bnd3_s, bnd3_s, if_pos rfl, if_pos rfl]
          exact Eq1.mk
        | some q =>
          obtain ⟨hb, hq0, hq⟩ := TM_nq L (by omega) hT
          rw [hT] at cr go
          simp only [Res] at cr go
          have hb2 : Bt 3600 0 1 parts.toNat q := Bd.mono hb (by exact Nat.mul_le_mul_right _ (Nat.add_le_add_left (Nat.mul_le_mul_right _ (Nat.mul_le_mul_right _ (by decide))) _)) (Nat.le_refl _)
          have hcap : Cap 3600 0 1 (parts.toNat + 1) := Cap.le (J := 5) ⟨by decide, by decide⟩ (by omega)
          have hadd := Bt.add (F := F) hF hb2 (a := x3) (b := 60) (by omega) (by decide) hcap
          have hadds := Bt.adds (F := F) hb2 (a := x3) (b := 60) (by omega) (by decide) hcap
          have hb3 := hb2.step (a := x3) (b := 60) (by omega) (by decide)
          have hq3 : Nq (q + Rat.divInt x3 60) := hb3.nq (Rat.add_nonneg hq0 (Rat.divInt_nonneg h3.1 (by decide))) hcap
          rw [cr, go, bnd3_s, bnd3_s, if_neg one0, if_neg one0]
          unfold m_X1_take
          rw [bnd2_s, chk_pos hx3, hadd, bnd2_s, chk_pos (by omega), chk_pos hx3, hadds, bnd2_s, chk_pos (by omega), hp2.1]
          cases hT2 : TM steps speeds parts (paces x2) with
          | none =>
            rw [hT2] at cr2 go2
            obtain ⟨A, B, cr2⟩ := cr2
            obtain ⟨A', B', go2⟩ := go2
            rw [cr2, go2, bnd3_s, bnd3_s, if_pos rfl, if_pos rfl]
            exact Eq1.mk
          | some t =>
            obtain ⟨-, -, ht⟩ := TM_nq L (by omega) hT2
            rw [hT2] at cr2 go2
            simp only [Res] at cr2 go2
            rw [cr2, go2, bnd3_s, bnd3_s, if_neg one0, if_neg one0, againstQ hF hq3 ht, bnd1_s, isLessQ ht hq3, bnd1_s, ifB]
            by_cases g : t < q + Rat.divInt x3 60
            · have hval : (if q + Rat.divInt x3 60 < t then (-1 : Int) else if q + Rat.divInt x3 60 = t then 0 else 1) = 1 := by
                rw [if_neg (fun z => Rat.not_lt.mpr (Rat.le_of_lt z) g), if_neg (fun z => Rat.ne_of_lt g z.symm)]
              rw [if_pos g, hval, if_pos (by decide)]
              exact Eq1.mk
            · rw [if_neg g]
              have : ¬ wI 0 < wI (if q + Rat.divInt x3 60 < t then -1 else if q + Rat.divInt x3 60 = t then 0 else 1) := by
                by_cases g2 : q + Rat.divInt x3 60 < t
                · rw [if_pos g2]
                  decide
                · have g3 : q + Rat.divInt x3 60 = t := Rat.le_antisymm (Rat.not_lt.mp g) (Rat.not_lt.mp g2)
                  rw [if_neg g2, if_pos g3]
                  decide
              rw [if_neg this]
              exact Eq1.mk
      · rw [if_pos h1, if_pos h2, if_pos (by omega), if_neg (fun z => h3 z.2)]
        exact Eq1.mk
    · rw [if_pos h1, if_neg h2]
      by_cases h3 : 0 ≤ x3 ∧ x3 ≤ 3600
      · rw [if_pos ⟨h1, h3⟩, if_neg h2]
        exact Eq1.mk
      · rw [if_neg (fun z => h3 z.2)]
        exact Eq1.mk
  · rw [if_neg h1, if_neg (fun z => h1 z.1)]
    exact Eq1.mk
theorem isAbove_spec {x : Int} {q : Rat} (hx : 0 ≤ x ∧ x ≤ 600) (hq : Nq q) (hd : q.den ≤ 1000000000000000) : m_X1_isAbove F x q.num q.den = some (bI (x * q.den < q.num)) := by
  obtain ⟨h1, h2, h3⟩ := hq.p
  unfold m_X1_isAbove bI
  have h4 : 0 ≤ x * (q.den : Int) := Int.mul_nonneg hx.1 (by omega)
  have h5 : x * (q.den : Int) ≤ 600 * (q.den : Int) := Int.mul_le_mul_of_nonneg_right hx.2 (by omega)
  rw [ifJ_le (by omega) (by omega)]
  by_cases g : q.num ≤ x * q.den
  · rw [if_pos g, if_neg (by omega)]
  · rw [if_neg g, if_pos (by omega)]
theorem Bt.den {A N D j : Nat} {q : Rat} (h : Bt A N D j q) {M : Nat} (hM : D * 90 ^ j ≤ M) : q.den ≤ M := Nat.le_trans h.2 hM
theorem pow90 {j : Nat} (hj : j ≤ 4) : 1 * 90 ^ j ≤ 65610000 := by
  have : 90 ^ j ≤ 90 ^ 4 := Nat.pow_le_pow_right (by decide) hj
  have h4 : (90 : Nat) ^ 4 = 65610000 := by decide
  omega
/-- train -/
theorem op_train (hF : 1000 ≤ F) (L : LayN lines odds parts steps speeds walkers paces bands carried sided st wk pc wd acts aP aS l h p a b c) {x1 x2 : Int} (hx1 : r32 x1) (hx2 : r32 x2) (u1 u2 v1 v2 : Int) (sp : Int → Int) : Eq1 (m_X8_train F x1 x2 parts walkers paces speeds steps u1 u2) (m_X9_train F x1 x2 v1 v2 c h a p sp) := by
  obtain ⟨-, -, ⟨e1, p0, p4⟩, ⟨e2, w0, w8⟩, -, -, -, -, hw, -⟩ := id L
  obtain ⟨s', e, hs⟩ := isTrain_spec hF L hx1 hx2 sp
  unfold m_X8_train m_X9_train
  rw [hasWalker_spec hx1 ⟨w0, w8⟩, bnd1_s, ifB, chk_pos hx2, isOut_spec (by omega) (by decide) (by decide), bnd1_s, ifB, e, bnd2_s, ifB]
  by_cases h1 : 0 ≤ x1 ∧ x1 < walkers
  · by_cases h2 : 0 ≤ x2 ∧ x2 ≤ 600
    · have hp := hw x1 h1.1 h1.2
      have hss := hs ⟨h1, h2⟩
      rw [if_pos h1, if_neg (by omega), if_pos ⟨h1, h2⟩]
      unfold ml_X8_train_28 ml_X9_train_19
      refine loopN_rel (I := fun s t => s.1 = t.1 ∧ 0 ≤ s.1 ∧ s.1 ≤ 31) (μ := fun s => (31 - s.1).toNat) (P := Eq1) ?_ F _ _ ?_ ?_
      · rintro k1 k2 ⟨x, y1, z1⟩ ⟨x', y2, z2⟩ ⟨hxx, hx0, hx31⟩ ih
        simp only at hxx hx0 hx31 ih ⊢
        subst hxx
        unfold mb_X8_train_28 mb_X9_train_19
        rw [ifI_lt (by decide) (by omega), ifI_lt (by decide) (by omega)]
        by_cases hx : 30 < x
        · rw [if_pos hx, if_pos hx]
          exact Eq1.mk
        · have cr := crossesR hF L (pace := paces x1 + x) (by omega)
          have go := goesR hF L hss (pace := paces x1 + x) (by omega)
          rw [if_neg hx, if_neg hx, chk_pos (by omega), chk_pos (by omega), hp.1]
          unfold m_X6_isWithin
          simp only [mb_X9_train_58]
          cases hT : TM steps speeds parts (paces x1 + x) with
          | none =>
            rw [hT] at cr go
            obtain ⟨A, B, cr⟩ := cr
            obtain ⟨A', B', go⟩ := go
            rw [cr, go, bnd3_s, bnd3_s, if_pos rfl, if_pos rfl, bnd3_s, if_pos rfl]
            exact ih _ _ ⟨rfl, by simp only; omega, by simp only; omega⟩ (by simp only; omega)
          | some q =>
            obtain ⟨hb, hq0, hq⟩ := TM_nq L (by omega) hT
            have hd := hb.den (pow90 (by omega))
            obtain ⟨g1, g2, g3⟩ := hq.p
            have h4 : 0 ≤ x2 * (q.den : Int) := Int.mul_nonneg h2.1 (by omega)
            have h5 : x2 * (q.den : Int) ≤ 600 * (q.den : Int) := Int.mul_le_mul_of_nonneg_right h2.2 (by omega)
            rw [hT] at cr go
            simp only [Res] at cr go
            rw [cr, go, bnd3_s, bnd3_s, if_neg one0, if_neg one0, chk_pos hx2, chk_pos hx2, isAbove_spec h2 hq (by omega), bnd1_s, ifB, ifJ_lt (by omega) (by omega)]
            by_cases g : x2 * (q.den : Int) < q.num
            · rw [if_pos g, if_pos g, bnd3_s, if_pos rfl]
              exact ih _ _ ⟨rfl, by simp only; omega, by simp only; omega⟩ (by simp only; omega)
            · rw [if_neg g, if_neg g, bnd3_s, if_neg one0]
              exact Eq1.mk
      · exact ⟨rfl, by simp only; omega, by simp only; omega⟩
      · simp only
        omega
    · rw [if_pos h1, if_pos (by omega), if_neg (fun z => h2 z.2)]
      exact Eq1.mk
  · rw [if_neg h1, if_neg (fun z => h1 z.1)]
    exact Eq1.mk
end OPS2
/-! ACTS: set, reverse, undo, anew, grow -/
theorem rep_congr {p c p' c' : Int → Int} {n : Int} (hp : ∀ i, 0 ≤ i → i < n → p (2 * i + 1) = p' (2 * i + 1)) : ∀ k : Nat, (∀ j : Nat, j < k → c (2 * (j : Int)) = c' (2 * (j : Int)) ∧ c (2 * (j : Int) + 1) = c' (2 * (j : Int) + 1)) → ∀ i, 0 ≤ i → i < n → rep p c k i = rep p' c' k i
  | 0, _, i, h0, h1 => hp i h0 h1
  | k + 1, h, i, h0, h1 => by
    show (if c (2 * (k : Int)) = -1 then -(rep p c k i) else if i = c (2 * (k : Int)) then c (2 * (k : Int) + 1) else rep p c k i) = (if c' (2 * (k : Int)) = -1 then -(rep p' c' k i) else if i = c' (2 * (k : Int)) then c' (2 * (k : Int) + 1) else rep p' c' k i)
    rw [(h k (by omega)).1, (h k (by omega)).2, rep_congr hp k (fun j hj => h j (by omega)) i h0 h1]
theorem Lay.congr {lines odds parts walkers bands sided st wk pc wd acts l : Int} {steps speeds paces carried aP aS h p a b c h' p' a' b' c' : Int → Int} (L : Lay lines odds parts steps speeds walkers paces bands carried sided st wk pc wd acts aP aS l h p a b c)
    (hh : ∀ i, 0 ≤ i → i < 9 → h' i = h i) (hp : ∀ i, 0 ≤ i → i < 8 → p' i = p i) (ha : ∀ i, 0 ≤ i → i < 8 → a' i = a i) (hb : ∀ i, 0 ≤ i → i < 4 → b' i = b i) (hc : ∀ i, 0 ≤ i → i < 120 → c' i = c i) : Lay lines odds parts steps speeds walkers paces bands carried sided st wk pc wd acts aP aS l h' p' a' b' c' := by
  obtain ⟨g1, ⟨g2, g2'⟩, ⟨g3, g3'⟩, ⟨g4, g4'⟩, ⟨g5, g5'⟩, ⟨g6, g6'⟩, g7, g8, g9, g10, g11, g12⟩ := L
  have hrep : ∀ k : Nat, (k : Int) ≤ 60 → ∀ i, 0 ≤ i → i < parts → rep p' c' k i = rep p c k i := fun k hk => rep_congr (fun i h0 h1 => hp _ (by omega) (by omega)) k (fun j hj => ⟨hc _ (by omega) (by omega), hc _ (by omega) (by omega)⟩)
  refine ⟨g1, ⟨by rw [hh 0 (by decide) (by decide)]; exact g2, g2'⟩, ⟨by rw [hh 1 (by decide) (by decide)]; exact g3, g3'⟩, ⟨by rw [hh 2 (by decide) (by decide)]; exact g4, g4'⟩, ⟨by rw [hh 3 (by decide) (by decide)]; exact g5, g5'⟩, ⟨by rw [hh 8 (by decide) (by decide)]; exact g6, g6'⟩, ?_, ?_, ?_, ?_, ?_, ?_⟩
  · rw [hh 4 (by decide) (by decide), hh 5 (by decide) (by decide), hh 6 (by decide) (by decide), hh 7 (by decide) (by decide)]
    exact g7
  · intro i h0 h1
    rw [hp (2 * i) (by omega) (by omega), hp (2 * i + 1) (by omega) (by omega)]
    exact g8 i h0 h1
  · intro i h0 h1
    rw [ha i h0 (by omega)]
    exact g9 i h0 h1
  · intro i h0 h1
    rw [hb i h0 (by omega)]
    exact g10 i h0 h1
  · intro k hk
    have := g11 k hk
    rw [hc (2 * (k : Int)) (by omega) (by omega), hc (2 * (k : Int) + 1) (by omega) (by omega)]
    refine ⟨this.1, ?_⟩
    rcases this.2 with q | ⟨q1, q2, q3, q4, q5⟩
    · exact Or.inl q
    · refine Or.inr ⟨q1, q2, q3, q4, ?_⟩
      rw [hrep k (by omega) _ q1 q2]
      exact q5
  · intro i h0 h1
    rw [hrep _ (by omega) i h0 h1]
    exact g12 i h0 h1
section ACTS
variable {lines odds parts walkers bands sided st wk pc wd acts l : Int} {steps speeds paces carried aP aS h p a b c : Int → Int} {F : Nat}
theorem turnRound_spec (hF : 1000 ≤ F) {parts : Int} (hp : 0 ≤ parts ∧ parts ≤ 4) (sp : Int → Int) : ∃ s', m_X2_turnRound F parts sp = some s' ∧ ∀ i, 0 ≤ i → i < parts → s' i = -(sp i) := by
  unfold m_X2_turnRound ml_X2_turnRound_2
  refine loopN_rec (I := fun q : Int × (Int → Int) => 0 ≤ q.1 ∧ q.1 ≤ parts ∧ ∀ i, 0 ≤ i → i < parts → q.2 i = if i < q.1 then -(sp i) else sp i) (μ := fun q => (parts - q.1).toNat) (P := fun q x' => ∃ s' : Int → Int, x' = some s' ∧ ∀ i, 0 ≤ i → i < parts → s' i = -(sp i)) ?_ F (0, sp) ?_ ?_
  · rintro k ⟨i, s⟩ ⟨h0, h1, h2⟩ ih
    simp only at h0 h1 h2 ih ⊢
    unfold mb_X2_turnRound_2
    rw [ifI_le (by omega) (by omega)]
    by_cases hi : parts ≤ i
    · rw [if_pos hi]
      refine ⟨s, rfl, fun j hj0 hj1 => ?_⟩
      rw [h2 j hj0 hj1, if_pos (by omega)]
    · rw [if_neg hi, chk_pos (by omega)]
      simp only [nam]
      rw [chk_pos (by omega)]
      refine ih (i + 1, up s i (-(s i))) ⟨by simp only; omega, by simp only; omega, fun j hj0 hj1 => ?_⟩ (by simp only; omega)
      simp only [up]
      by_cases e : j = i
      · subst e
        have := h2 j hj0 hj1
        rw [if_neg (by omega)] at this
        rw [if_pos rfl, if_pos (by omega), this]
      · rw [if_neg e, h2 j hj0 hj1]
        by_cases e2 : j < i
        · rw [if_pos e2, if_pos (by omega)]
        · rw [if_neg e2, if_neg (by omega)]
  · exact ⟨by simp only; omega, by simp only; omega, fun i h0 h1 => by simp only; rw [if_neg (by omega)]⟩
  · show (parts - 0).toNat < F
    omega
/-- an act is noted on both sides -/
theorem Lay.note (L : Lay lines odds parts steps speeds walkers paces bands carried sided st wk pc wd acts aP aS l h p a b c) (hA : acts < 60) {x y y8 : Int} {s8 : Int → Int}
    (hx : (x = -1 ∧ ∀ i, 0 ≤ i → i < parts → s8 i = -(speeds i)) ∨ (0 ≤ x ∧ x < parts ∧ -30 ≤ y ∧ y ≤ 30 ∧ y8 = speeds x ∧ ∀ i, 0 ≤ i → i < parts → s8 i = if i = x then y else speeds i)) :
    Lay lines odds parts steps s8 walkers paces bands carried sided st wk pc wd (acts + 1) (up aP acts x) (up aS acts y8) l (up h 8 (acts + 1)) p a b (up (up c (2 * acts) x) (2 * acts + 1) y) := by
  obtain ⟨g1, ⟨g2, g2'⟩, ⟨g3, g3'⟩, ⟨g4, g4'⟩, ⟨g5, g5'⟩, ⟨g6, g6a, g6b⟩, g7, g8, g9, g10, g11, g12⟩ := L
  have cl : ∀ j : Nat, (j : Int) < acts → (up (up c (2 * acts) x) (2 * acts + 1) y) (2 * (j : Int)) = c (2 * (j : Int)) ∧ (up (up c (2 * acts) x) (2 * acts + 1) y) (2 * (j : Int) + 1) = c (2 * (j : Int) + 1) := by
    intro j hj
    simp only [up]
    rw [if_neg (by omega), if_neg (by omega), if_neg (by omega), if_neg (by omega)]
    exact ⟨rfl, rfl⟩
  have ca : (up (up c (2 * acts) x) (2 * acts + 1) y) (2 * acts) = x := by
    rw [up_ne (by omega), up_at]
  have cb : (up (up c (2 * acts) x) (2 * acts + 1) y) (2 * acts + 1) = y := up_at _ _ _
  have hrep : ∀ k : Nat, (k : Int) ≤ acts → ∀ i, 0 ≤ i → i < parts → rep p (up (up c (2 * acts) x) (2 * acts + 1) y) k i = rep p c k i := fun k hk => rep_congr (fun i _ _ => rfl) k (fun j hj => cl j (by omega))
  generalize hC : up (up c (2 * acts) x) (2 * acts + 1) y = C at cl ca cb hrep ⊢
  obtain ⟨n, hn⟩ : ∃ n : Nat, acts = (n : Int) := ⟨acts.toNat, by omega⟩
  subst hn
  rw [Int.toNat_natCast] at g12
  have hup : ∀ i, 0 ≤ i → i < 8 → up h 8 ((n : Int) + 1) i = h i := fun i h0 h1 => by
    simp only [up]
    rw [if_neg (by omega)]
  refine ⟨g1, ⟨by rw [hup 0 (by decide) (by decide)]; exact g2, g2'⟩, ⟨by rw [hup 1 (by decide) (by decide)]; exact g3, g3'⟩, ⟨by rw [hup 2 (by decide) (by decide)]; exact g4, g4'⟩, ⟨by rw [hup 3 (by decide) (by decide)]; exact g5, g5'⟩, ⟨up_at _ _ _, by omega, by omega⟩, ?_, g8, g9, g10, ?_, ?_⟩
  · rw [hup 4 (by decide) (by decide), hup 5 (by decide) (by decide), hup 6 (by decide) (by decide), hup 7 (by decide) (by decide)]
    exact g7
  · intro k hk
    by_cases e : (k : Int) = n
    · have e2 : k = n := by omega
      subst e2
      rw [ca, cb, up_at, up_at]
      refine ⟨rfl, ?_⟩
      rcases hx with ⟨q, -⟩ | ⟨q1, q2, q3, q4, q5, -⟩
      · exact Or.inl q
      · refine Or.inr ⟨q1, q2, q3, q4, ?_⟩
        rw [hrep k (by omega) x q1 q2, q5, g12 x q1 q2]
    · have := g11 k (by omega)
      rw [(cl k (by omega)).1, (cl k (by omega)).2]
      simp only [up]
      rw [if_neg e, if_neg e]
      refine ⟨this.1, ?_⟩
      rcases this.2 with q | ⟨q1, q2, q3, q4, q5⟩
      · exact Or.inl q
      · refine Or.inr ⟨q1, q2, q3, q4, ?_⟩
        rw [hrep k (by omega) _ q1 q2]
        exact q5
  · intro i h0 h1
    rw [show ((n : Int) + 1).toNat = n + 1 by omega]
    show s8 i = if C (2 * (n : Int)) = -1 then -(rep p C n i) else if i = C (2 * (n : Int)) then C (2 * (n : Int) + 1) else rep p C n i
    rw [ca, cb, hrep n (by omega) i h0 h1, ← g12 i h0 h1]
    rcases hx with ⟨q, q2⟩ | ⟨q1, q2, q3, q4, q5, q6⟩
    · rw [if_pos q]
      exact q2 i h0 h1
    · rw [if_neg (by omega)]
      exact q6 i h0 h1
/-- set -/
theorem op_set {l : Int → Int} (hF : 1000 ≤ F) (L : LayN lines odds parts steps speeds walkers paces bands carried sided st wk pc wd acts aP aS l h p a b c) {x1 x2 : Int} (hx1 : r32 x1) (hx2 : r32 x2) (sp : Int → Int) : ∃ r acts' aP' aS' s8 t c' h' s9, m_X8_set F x1 x2 parts acts aP aS speeds = some (r, acts', aP', aS', s8) ∧ m_X9_set F x1 x2 c h p sp = some (r, t, c', h', s9) ∧ LayN lines odds parts steps s8 walkers paces bands carried sided st wk pc wd acts' aP' aS' l h' p a b c' ∧ (∀ i, i ≠ 8 → h' i = h i) ∧ (∀ i, 120 ≤ i → c' i = c i) := by
  obtain ⟨-, -, ⟨e1, p0, p4⟩, -, -, ⟨e8, a0, a60⟩, -⟩ := id L
  unfold m_X8_set m_X9_set
  rw [hasPart_spec hx1 ⟨p0, p4⟩, bnd1_s, ifB, isPart_spec hx1 (by omega), bnd1_s, ifB, e1, chk_pos hx2, chk_pos hx2, isOut_spec (by omega) (by decide) (by decide), bnd1_s, ifB, in_spec (by omega) (by decide) (by decide), bnd1_s, ifB]
  by_cases h1 : 0 ≤ x1 ∧ x1 < parts
  · by_cases h2 : -30 ≤ x2 ∧ x2 ≤ 30
    · rw [if_pos h1, if_pos h1, if_neg (fun z => z h2), if_pos h2, ifI_lt (by omega) (by decide)]
      unfold m_X9_isFull
      rw [e8, ifI_eq (by omega) (by decide)]
      by_cases h3 : acts < 60
      · obtain ⟨s', e, hs⟩ := lays_spec hF L sp
        rw [if_pos h3, if_neg (by omega), bnd1_s, if_pos rfl, chk_pos (by omega), e, bnd1_s]
        simp only [nam]
        unfold m_X2_noteAct m_X9_acts
        rw [ifI_lt (by omega) (by decide), if_pos h3, chk_pos (by omega), chk_pos (by omega)]
        simp only [nam]
        rw [bnd3_s, chk_pos (by omega), e8, chk_pos (by omega), chk_pos (by omega), bnd2_s, chk_pos (by omega), hs x1 h1.1 h1.2]
        refine ⟨_, _, _, _, _, _, _, _, _, rfl, rfl, ?_, ?_, ?_⟩
        · exact Lay.note L h3 (x := x1) (y := x2) (y8 := speeds x1) (s8 := up speeds x1 x2) (Or.inr ⟨h1.1, h1.2, h2.1, h2.2, rfl, fun i _ _ => rfl⟩)
        · intro i hi
          simp only [up]
          rw [if_neg hi]
        · intro i hi
          simp only [up]
          rw [if_neg (by omega), if_neg (by omega)]
      · rw [if_neg h3, if_pos (by omega), bnd1_s, if_neg (by decide)]
        exact ⟨_, _, _, _, _, _, _, _, _, rfl, rfl, L, fun _ _ => rfl, fun _ _ => rfl⟩
    · rw [if_pos h1, if_pos h1, if_pos h2, if_neg h2]
      exact ⟨_, _, _, _, _, _, _, _, _, rfl, rfl, L, fun _ _ => rfl, fun _ _ => rfl⟩
  · rw [if_neg h1, if_neg h1]
    exact ⟨_, _, _, _, _, _, _, _, _, rfl, rfl, L, fun _ _ => rfl, fun _ _ => rfl⟩
/-- reverse -/
theorem op_reverse {l : Int → Int} (hF : 1000 ≤ F) (L : LayN lines odds parts steps speeds walkers paces bands carried sided st wk pc wd acts aP aS l h p a b c) (sp : Int → Int) : ∃ r acts' aP' aS' s8 t c' h' s9, m_X8_reverse F lines parts acts aP aS speeds = some (r, acts', aP', aS', s8) ∧ m_X9_reverse F c h l p sp = some (r, t, c', h', s9) ∧ LayN lines odds parts steps s8 walkers paces bands carried sided st wk pc wd acts' aP' aS' l h' p a b c' ∧ (∀ i, i ≠ 8 → h' i = h i) ∧ (∀ i, 120 ≤ i → c' i = c i) := by
  obtain ⟨⟨e0, l0, l1⟩, -, ⟨e1, p0, p4⟩, -, -, ⟨e8, a0, a60⟩, -⟩ := id L
  unfold m_X8_reverse m_X9_reverse
  rw [isThere_spec (by omega), bnd1_s, ifB, isStair_spec (by omega), bnd1_s, ifB, e0]
  by_cases h1 : 0 < lines
  · unfold m_X9_isFull
    rw [if_pos h1, if_pos h1, ifI_lt (by omega) (by decide), e8, ifI_eq (by omega) (by decide)]
    by_cases h3 : acts < 60
    · rw [if_pos h3, if_neg (by omega), bnd1_s, if_pos rfl]
      unfold m_X2_noteAct m_X9_acts
      rw [ifI_lt (by omega) (by decide), if_pos h3, chk_pos (by omega), chk_pos (by omega), e8, chk_pos (by omega), chk_pos (by omega)]
      simp only [nam]
      rw [bnd3_s, bnd2_s]
      obtain ⟨s8, e, hs⟩ := turnRound_spec hF ⟨p0, p4⟩ speeds
      rw [e, bnd1_s]
      have L' : LayN lines odds parts steps s8 walkers paces bands carried sided st wk pc wd (acts + 1) (up aP acts (-1)) (up aS acts 0) l (up h 8 (acts + 1)) p a b (up (up c (2 * acts) (-1)) (2 * acts + 1) 0) := Lay.note L h3 (x := -1) (y := 0) (y8 := 0) (s8 := s8) (Or.inl ⟨rfl, hs⟩)
      obtain ⟨s9, e9, hs9⟩ := lays_spec hF L' sp
      rw [e9, bnd1_s]
      have main : ∃ (r : Int) (v : Int × (Int → Int) × (Int → Int) × (Int → Int)) (w : Int × (Int → Int) × (Int → Int) × (Int → Int)), ml_X8_reverse_48 F 0 0 parts (acts + 1) (up aP acts (-1)) (up aS acts 0) s8 = some (r, v) ∧ ml_X9_reverse_39 F 0 0 0 (up (up c (2 * acts) (-1)) (2 * acts + 1) 0) (up h 8 (acts + 1)) s9 = some (r, w) ∧ v = (acts + 1, up aP acts (-1), up aS acts 0, s8) ∧ w = (0, up (up c (2 * acts) (-1)) (2 * acts + 1) 0, up h 8 (acts + 1), s9) := by
        unfold ml_X8_reverse_48 ml_X9_reverse_39
        refine loopN_rel (I := fun s t => s = t ∧ 0 ≤ s.2 ∧ s.2 ≤ parts) (μ := fun s => (parts - s.2).toNat) (P := fun X Y => ∃ (r : Int) (v : Int × (Int → Int) × (Int → Int) × (Int → Int)) (w : Int × (Int → Int) × (Int → Int) × (Int → Int)), X = some (r, v) ∧ Y = some (r, w) ∧ v = (acts + 1, up aP acts (-1), up aS acts 0, s8) ∧ w = (0, up (up c (2 * acts) (-1)) (2 * acts + 1) 0, up h 8 (acts + 1), s9)) ?_ F _ _ ?_ ?_
        · rintro k1 k2 ⟨y, x⟩ ⟨y', x'⟩ ⟨hxy, hx0, hx1⟩ ih
          cases hxy
          simp only at hx0 hx1 ih ⊢
          unfold mb_X8_reverse_48 mb_X9_reverse_39
          have ep : up h 8 (acts + 1) 1 = parts := by
            simp only [up]
            rw [if_neg (by decide), e1]
          rw [ep, ifI_le (a := parts) (b := x) (by omega) (by omega), ifI_le (a := parts) (b := x) (by omega) (by omega)]
          by_cases hx : parts ≤ x
          · rw [if_pos hx, if_pos hx]
            exact ⟨_, _, _, rfl, rfl, rfl, rfl⟩
          · have hin := L'.speeds_in hx0 (show x < parts by omega)
            rw [if_neg hx, if_neg hx, chk_pos (by omega), chk_pos (by omega), hs9 x hx0 (by omega), ifI_le (a := 0) (b := s8 x) (by decide) (by omega), ifI_le (a := 0) (b := s8 x) (by decide) (by omega)]
            simp only [mb_X8_reverse_77, mb_X9_reverse_64, nam]
            by_cases hz : 0 ≤ s8 x
            · rw [if_pos hz, if_pos hz]
              exact ih _ _ ⟨rfl, by simp only; omega, by simp only; omega⟩ (by simp only; omega)
            · rw [if_neg hz, if_neg hz]
              exact ih _ _ ⟨rfl, by simp only; omega, by simp only; omega⟩ (by simp only; omega)
        · exact ⟨rfl, by simp only; omega, by simp only; omega⟩
        · simp only
          omega
      obtain ⟨r, v, w, m1, m2, rfl, rfl⟩ := main
      rw [m1, m2]
      refine ⟨_, _, _, _, _, _, _, _, _, rfl, rfl, L', ?_, ?_⟩
      · intro i hi
        simp only [up]
        rw [if_neg hi]
      · intro i hi
        simp only [up]
        rw [if_neg (by omega), if_neg (by omega)]
    · rw [if_neg h3, if_pos (by omega), bnd1_s, if_neg (by decide)]
      exact ⟨_, _, _, _, _, _, _, _, _, rfl, rfl, L, fun _ _ => rfl, fun _ _ => rfl⟩
  · rw [if_neg h1, if_neg h1]
    exact ⟨_, _, _, _, _, _, _, _, _, rfl, rfl, L, fun _ _ => rfl, fun _ _ => rfl⟩
/-- the latest act is taken back -/
theorem takeBack_spec (hF : 1000 ≤ F) (L : Lay lines odds parts steps speeds walkers paces bands carried sided st wk pc wd acts aP aS l h p a b c) (hA : 0 < acts) : ∃ s8, m_X2_takeBackAct F parts acts aP aS speeds = some (acts - 1, s8) ∧ Lay lines odds parts steps s8 walkers paces bands carried sided st wk pc wd (acts - 1) aP aS l (up h 8 (acts - 1)) p a b c := by
  obtain ⟨g1, ⟨g2, g2'⟩, ⟨g3, g3a, g3b⟩, ⟨g4, g4'⟩, ⟨g5, g5'⟩, ⟨g6, g6a, g6b⟩, g7, g8, g9, g10, g11, g12⟩ := id L
  obtain ⟨n, hn⟩ : ∃ n : Nat, acts = (n : Int) + 1 := ⟨(acts - 1).toNat, by omega⟩
  subst hn
  rw [show ((n : Int) + 1).toNat = n + 1 by omega] at g12
  have key : ∀ s8 : Int → Int, (∀ i, 0 ≤ i → i < parts → s8 i = rep p c n i) → Lay lines odds parts steps s8 walkers paces bands carried sided st wk pc wd ((n : Int) + 1 - 1) aP aS l (up h 8 ((n : Int) + 1 - 1)) p a b c := by
    intro s8 hs
    have hup : ∀ i, 0 ≤ i → i < 8 → up h 8 ((n : Int) + 1 - 1) i = h i := fun i h0 h1 => by
      simp only [up]
      rw [if_neg (by omega)]
    refine ⟨g1, ⟨by rw [hup 0 (by decide) (by decide)]; exact g2, g2'⟩, ⟨by rw [hup 1 (by decide) (by decide)]; exact g3, g3a, g3b⟩, ⟨by rw [hup 2 (by decide) (by decide)]; exact g4, g4'⟩, ⟨by rw [hup 3 (by decide) (by decide)]; exact g5, g5'⟩, ⟨up_at _ _ _, by omega, by omega⟩, ?_, g8, g9, g10, fun k hk => g11 k (by omega), ?_⟩
    · rw [hup 4 (by decide) (by decide), hup 5 (by decide) (by decide), hup 6 (by decide) (by decide), hup 7 (by decide) (by decide)]
      exact g7
    · intro i h0 h1
      rw [show ((n : Int) + 1 - 1).toNat = n by omega]
      exact hs i h0 h1
  have hk := g11 n (by omega)
  have hstep : ∀ i, rep p c (n + 1) i = if c (2 * (n : Int)) = -1 then -(rep p c n i) else if i = c (2 * (n : Int)) then c (2 * (n : Int) + 1) else rep p c n i := fun i => rfl
  unfold m_X2_takeBackAct
  rw [ifI_lt (by decide) (by omega), if_pos hA]
  simp only [nam]
  rw [show (n : Int) + 1 - 1 = (n : Int) by omega] at key ⊢
  have hr : r32 (aP (n : Int)) := by
    rcases hk.2 with q | q <;> omega
  rw [chk_pos (by omega), hasPart_spec hr ⟨g3a, g3b⟩, bnd1_s, ifB]
  rcases hk.2 with q | ⟨q1, q2, q3, q4, q5⟩
  · rw [if_neg (by omega)]
    obtain ⟨s8, e, hs⟩ := turnRound_spec hF ⟨g3a, g3b⟩ speeds
    rw [e, bnd1_s]
    refine ⟨s8, rfl, key s8 (fun i h0 h1 => ?_)⟩
    rw [hs i h0 h1, g12 i h0 h1, hstep, if_pos q]
    omega
  · rw [if_pos (by omega), chk_pos (by omega), chk_pos (by omega), chk_pos (by omega)]
    refine ⟨_, rfl, key _ (fun i h0 h1 => ?_)⟩
    simp only [up]
    by_cases e : i = aP (n : Int)
    · rw [if_pos e, q5, e, hk.1]
    · rw [if_neg e, g12 i h0 h1, hstep, if_neg (by omega), if_neg (by omega)]
/-- undo -/
theorem op_undo {l : Int → Int} (hF : 1000 ≤ F) (L : LayN lines odds parts steps speeds walkers paces bands carried sided st wk pc wd acts aP aS l h p a b c) : ∃ r acts' s8 t h', m_X8_undo F lines parts acts aP aS speeds = some (r, acts', s8) ∧ m_X9_undo F h l = some (r, t, h') ∧ LayN lines odds parts steps s8 walkers paces bands carried sided st wk pc wd acts' aP aS l h' p a b c ∧ (∀ i, i ≠ 8 → h' i = h i) := by
  obtain ⟨⟨e0, l0, l1⟩, -, -, -, -, ⟨e8, a0, a60⟩, -⟩ := id L
  unfold m_X8_undo m_X9_undo
  rw [isThere_spec (by omega), bnd1_s, ifB, isStair_spec (by omega), bnd1_s, ifB, e0]
  by_cases h1 : 0 < lines
  · rw [if_pos h1, if_pos h1, e8, ifI_eq (by omega) (by decide), ifI_eq (by omega) (by decide)]
    by_cases h2 : acts = 0
    · rw [if_pos h2, if_pos h2]
      exact ⟨_, _, _, _, _, rfl, rfl, L, fun _ _ => rfl⟩
    · obtain ⟨s8, e, L'⟩ := takeBack_spec hF L (by omega)
      rw [if_neg h2, if_neg h2, e, bnd2_s]
      simp only [nam]
      have e88 : up h 8 (acts - 1) 8 = acts - 1 := up_at _ _ _
      rw [e88]
      refine ⟨_, _, _, _, _, rfl, rfl, L', fun i hi => ?_⟩
      simp only [up]
      rw [if_neg hi]
  · rw [if_neg h1, if_neg h1]
    exact ⟨_, _, _, _, _, rfl, rfl, L, fun _ _ => rfl⟩
theorem up_up (f : Int → Int) (i x y : Int) : up (up f i x) i y = up f i y := by
  funext j
  simp only [up]
  split <;> rfl
theorem up_self (f : Int → Int) (i : Int) : up f i (f i) = f := by
  funext j
  simp only [up]
  split
  · subst_vars; rfl
  · rfl
/-- anew -/
theorem op_anew {l : Int → Int} (hF : 1000 ≤ F) (L : LayN lines odds parts steps speeds walkers paces bands carried sided st wk pc wd acts aP aS l h p a b c) : ∃ r acts' s8 t h', m_X8_anew F lines parts acts aP aS speeds = some (r, acts', s8) ∧ m_X9_anew F h l = some (r, t, h') ∧ LayN lines odds parts steps s8 walkers paces bands carried sided st wk pc wd acts' aP aS l h' p a b c ∧ (∀ i, i ≠ 8 → h' i = h i) := by
  obtain ⟨⟨e0, l0, l1⟩, -, -, -, -, ⟨e8, a0, a60⟩, -⟩ := id L
  unfold m_X8_anew m_X9_anew
  rw [isThere_spec (by omega), bnd1_s, ifB, isStair_spec (by omega), bnd1_s, ifB, e0]
  by_cases h1 : 0 < lines
  · rw [if_pos h1, if_pos h1, e8]
    simp only [nam]
    have main : ∃ s8, ml_X8_anew_23 F acts 0 parts acts aP aS speeds = some (acts, 0, s8) ∧ LayN lines odds parts steps s8 walkers paces bands carried sided st wk pc wd 0 aP aS l (up h 8 0) p a b c := by
      unfold ml_X8_anew_23
      refine loopN_rec (I := fun q : Int × Int × (Int → Int) => 0 ≤ q.1 ∧ q.1 ≤ acts ∧ q.2.1 = acts - q.1 ∧ LayN lines odds parts steps q.2.2 walkers paces bands carried sided st wk pc wd (acts - q.1) aP aS l (up h 8 (acts - q.1)) p a b c) (μ := fun q => (acts - q.1).toNat) (P := fun q x => ∃ s8, x = some (acts, 0, s8) ∧ LayN lines odds parts steps s8 walkers paces bands carried sided st wk pc wd 0 aP aS l (up h 8 0) p a b c) ?_ F (0, acts, speeds) ?_ ?_
      · rintro k ⟨x, y, s⟩ ⟨hx0, hx1, hy, hL⟩ ih
        simp only at hx0 hx1 hy hL ih ⊢
        unfold mb_X8_anew_23
        subst hy
        rw [ifI_le (by omega) (by omega)]
        by_cases hx : acts ≤ x
        · rw [if_pos hx]
          have e : acts - x = 0 := by omega
          rw [e] at hL ⊢
          exact ⟨s, rfl, hL⟩
        · obtain ⟨s8, e, L'⟩ := takeBack_spec hF hL (by omega)
          rw [if_neg hx, e, bnd2_s]
          rw [up_up, show acts - x - 1 = acts - (x + 1) by omega] at L'
          exact ih (x + 1, acts - x - 1, s8) ⟨by simp only; omega, by simp only; omega, by simp only; omega, L'⟩ (by simp only; omega)
      · refine ⟨by simp only; omega, by simp only; omega, by simp only; omega, ?_⟩
        simp only [Int.sub_zero]
        have e : up h 8 acts = h := by
          rw [← e8]
          exact up_self h 8
        rw [e]
        exact L
      · show (acts - 0).toNat < F
        omega
    obtain ⟨s8, e, L'⟩ := main
    rw [e]
    refine ⟨_, _, _, _, _, rfl, rfl, L', fun i hi => ?_⟩
    simp only [up]
    rw [if_neg hi]
  · rw [if_neg h1, if_neg h1]
    exact ⟨_, _, _, _, _, rfl, rfl, L, fun _ _ => rfl⟩
/-- grow -/
theorem op_grow {l : Int → Int} (L : LayN lines odds parts steps speeds walkers paces bands carried sided st wk pc wd acts aP aS l h p a b c) {x1 x2 : Int} (hx1 : r32 x1) (hx2 : r32 x2) : ∃ r paces' t a', m_X8_grow F x1 x2 walkers acts paces = some (r, paces') ∧ m_X9_grow F x1 x2 h a = some (r, t, a') ∧ LayN lines odds parts steps speeds walkers paces' bands carried sided st wk pc wd acts aP aS l h p a' b c ∧ (∀ i, 8 ≤ i → a' i = a i) := by
  obtain ⟨g1, g2, g3, ⟨e2, w0, w8⟩, g5, ⟨e8, a0, a60⟩, g7, g8, hw, g10, g11, g12⟩ := id L
  unfold m_X8_grow m_X9_grow
  rw [hasWalker_spec hx1 ⟨w0, w8⟩, bnd1_s, ifB, isWalker_spec hx1 (by omega), bnd1_s, ifB, e2, chk_pos hx2, chk_pos hx2, isOut_spec (by omega) (by decide) (by decide), bnd1_s, ifB, in_spec (by omega) (by decide) (by decide), bnd1_s, ifB]
  by_cases h1 : 0 ≤ x1 ∧ x1 < walkers
  · by_cases h2 : 0 ≤ x2 ∧ x2 ≤ 30
    · rw [if_pos h1, if_pos h1, if_neg (fun z => z h2), if_pos h2, e8, ifI_le (by omega) (by decide), ifI_le (by omega) (by decide)]
      by_cases h3 : acts ≤ 0
      · rw [if_pos h3, if_pos h3, chk_pos (by omega), chk_pos (by omega)]
        simp only [nam]
        rw [chk_pos (by omega), chk_pos (by omega), (hw x1 h1.1 h1.2).1]
        refine ⟨_, _, _, _, rfl, rfl, ⟨g1, g2, g3, ⟨e2, w0, w8⟩, g5, ⟨e8, a0, a60⟩, g7, g8, fun i h0 h1 => ?_, g10, g11, g12⟩, fun i hi => ?_⟩
        · simp only [up]
          by_cases e : i = x1
          · rw [if_pos e, if_pos e]
            omega
          · rw [if_neg e, if_neg e]
            exact hw i h0 h1
        · simp only [up]
          rw [if_neg (by omega)]
      · rw [if_neg h3, if_neg h3]
        exact ⟨_, _, _, _, rfl, rfl, L, fun _ _ => rfl⟩
    · rw [if_pos h1, if_pos h1, if_pos h2, if_neg h2]
      exact ⟨_, _, _, _, rfl, rfl, L, fun _ _ => rfl⟩
  · rw [if_neg h1, if_neg h1]
    exact ⟨_, _, _, _, rfl, rfl, L, fun _ _ => rfl⟩
end ACTS
/-! steps, back, round -/
theorem max32 {F : Nat} {x y : Int} (hx : r32 x) (hy : r32 y) : m_J9_max_7cf53 F x y = some (if x < y then y else x) := by
  unfold m_J9_max_7cf53
  rw [ifI_lt hx hy]
  split <;> rfl
theorem min32 {F : Nat} {x y : Int} (hx : r32 x) (hy : r32 y) : m_J9_min_7cf53 F x y = some (if y < x then y else x) := by
  unfold m_J9_min_7cf53
  rw [ifI_lt hy hx]
  split <;> rfl
theorem max64 {F : Nat} {x y : Int} (hx : r64 x) (hy : r64 y) : m_J9_max_f86c9 F x y = some (if x < y then y else x) := by
  unfold m_J9_max_f86c9
  rw [ifJ_lt hx hy]
  split <;> rfl
theorem divInt_cmul (k a b : Int) : Rat.divInt (k * a) b = Rat.divInt k 1 * Rat.divInt a b := by
  rw [Rat.divInt_mul_divInt, Int.one_mul]
theorem accT_last {st r : Int → Int} (m : Nat) (q : Rat) (x : Int) : accT st r (m + 1) q x = accT st r m q x + Rat.divInt (st (x + m)) (r (x + m)) := by
  rw [accT_split m 1]
  rfl
theorem accT_cmul {st r : Int → Int} (k : Int) : ∀ (m : Nat) (q : Rat) (x : Int), accT (fun i => k * st i) r m (Rat.divInt k 1 * q) x = Rat.divInt k 1 * accT st r m q x
  | 0, q, x => rfl
  | m + 1, q, x => by
    show accT (fun i => k * st i) r m (Rat.divInt k 1 * q + Rat.divInt (k * st x) (r x)) (x + 1) = Rat.divInt k 1 * accT st r m (q + Rat.divInt (st x) (r x)) (x + 1)
    rw [divInt_cmul, ← Rat.mul_add, accT_cmul k m]
theorem tmO_val {st r : Int → Int} {m : Nat} {x : Int} {q : Rat} (h : tmO st r m x = some q) : okA r x m ∧ q = accT st r m 0 x := by
  unfold tmO at h
  by_cases e : okB r m x = true
  · rw [if_pos e] at h
    exact ⟨(okB_iff m x).mp e, (Option.some.inj h).symm⟩
  · rw [if_neg e] at h
    cases h
theorem tmO_none {st r : Int → Int} {m : Nat} {x : Int} (h : tmO st r m x = none) : ¬ okA r x m := by
  unfold tmO at h
  by_cases e : okB r m x = true
  · rw [if_pos e] at h
    cases h
  · exact fun z => e ((okB_iff m x).mpr z)
theorem Bt.le {A N D i j : Nat} {q : Rat} (h : Bt A N D i q) (hij : i ≤ j) : Bt A N D j q := by
  have h1 : 90 ^ i ≤ 90 ^ j := Nat.pow_le_pow_right (by decide) hij
  have h2 : A * i * D ≤ A * j * D := Nat.mul_le_mul_right D (Nat.mul_le_mul_left A hij)
  exact Bd.mono h (Nat.mul_le_mul (by omega) h1) (Nat.mul_le_mul_left D h1)
section OPS4
variable {lines odds parts walkers bands sided st wk pc wd acts : Int} {steps speeds paces carried aP aS l h p a b c : Int → Int} {F : Nat}
theorem steps9_loop (hF : 1000 ≤ F) {x1 x2 : Int} {s' : Int → Int} (hx1 : 0 ≤ x1 ∧ x1 < 40) (hx2 : r32 x2) (ha : 0 ≤ a x1 ∧ a x1 ≤ 30) (hn : 0 ≤ h 1 ∧ h 1 ≤ 4) (hr : ∀ i, 0 ≤ i → i < h 1 → (1 ≤ p (2 * i) ∧ p (2 * i) ≤ 200) ∧ 0 < a x1 + s' i ∧ a x1 + s' i ≤ 90) :
    ml_X9_steps_42 F x1 x2 0 0 0 1 h a p s' = some (if x2 = 0 then (accT (fun i => a x1 * p (2 * i)) (fun i => a x1 + s' i) (h 1).toNat 0 0).num else ((accT (fun i => a x1 * p (2 * i)) (fun i => a x1 + s' i) (h 1).toNat 0 0).den : Int), 0, (accT (fun i => a x1 * p (2 * i)) (fun i => a x1 + s' i) (h 1).toNat 0 0).num, ((accT (fun i => a x1 * p (2 * i)) (fun i => a x1 + s' i) (h 1).toNat 0 0).den : Int), s') := by
  unfold ml_X9_steps_42
  have main := loopN_rec (body := fun (k : Int × Int × Int → Option (Int × Int × Int × Int × (Int → Int))) q => mb_X9_steps_42 F (fun y0 y1 y2 => k (y0, y1, y2)) x1 x2 q.1 0 q.2.1 q.2.2 h a p s')
    (I := fun q : Int × Int × Int => 0 ≤ q.1 ∧ q.1 ≤ h 1 ∧ ∃ t : Rat, Bt 6000 0 1 q.1.toNat t ∧ q.2.1 = t.num ∧ q.2.2 = (t.den : Int)) (μ := fun q => (h 1 - q.1).toNat)
    (P := fun q x => ∀ t : Rat, Bt 6000 0 1 q.1.toNat t → q.2.1 = t.num → q.2.2 = (t.den : Int) → x = some (if x2 = 0 then (accT (fun i => a x1 * p (2 * i)) (fun i => a x1 + s' i) (h 1 - q.1).toNat t q.1).num else ((accT (fun i => a x1 * p (2 * i)) (fun i => a x1 + s' i) (h 1 - q.1).toNat t q.1).den : Int), 0, (accT (fun i => a x1 * p (2 * i)) (fun i => a x1 + s' i) (h 1 - q.1).toNat t q.1).num, ((accT (fun i => a x1 * p (2 * i)) (fun i => a x1 + s' i) (h 1 - q.1).toNat t q.1).den : Int), s')) ?_ F (0, 0, 1) ?_ ?_
  · have := main 0 (Bt.start Bd.zero) rfl rfl
    simp only [Int.sub_zero] at this
    exact this
  · rintro k ⟨x, u, w⟩ ⟨h0, h1, -⟩ ih t hb hu hw
    simp only at h0 h1 ih hb hu hw ⊢
    subst hu; subst hw
    unfold mb_X9_steps_42
    rw [ifI_le (by omega) (by omega)]
    by_cases hx : h 1 ≤ x
    · have e : (h 1 - x).toNat = 0 := by omega
      rw [if_pos hx, half_spec hx2, bnd1_s, e]
      rfl
    · obtain ⟨⟨s1, s2⟩, r1, r2⟩ := hr x h0 (by omega)
      obtain ⟨m, hm⟩ : ∃ m : Nat, (h 1 - x).toNat = m + 1 := ⟨(h 1 - x).toNat - 1, by omega⟩
      have hm2 : (h 1 - (x + 1)).toNat = m := by omega
      have hA : (a x1 * p (2 * x)).natAbs ≤ 6000 := by
        rw [Int.natAbs_mul]
        exact Nat.mul_le_mul (show (a x1).natAbs ≤ 30 by omega) (show (p (2 * x)).natAbs ≤ 200 by omega)
      unfold m_X9_stepsOf
      rw [if_neg hx, chk_pos hx1, chk_pos (by omega), chk_pos (by omega), bnd1_s, chk_pos (by omega), chk_pos hx1, chk_pos (by omega), chk_pos (by omega), Bt.adds hb hA ⟨r1, r2⟩ (Cap.le (J := 4) ⟨by decide, by decide⟩ (by omega)), bnd2_s]
      have hb2 : Bt 6000 0 1 (x + 1).toNat (t + Rat.divInt (a x1 * p (2 * x)) (a x1 + s' x)) := by
        rw [show (x + 1).toNat = x.toNat + 1 by omega]
        exact hb.step hA ⟨r1, r2⟩
      have := ih (x + 1, (t + Rat.divInt (a x1 * p (2 * x)) (a x1 + s' x)).num, ((t + Rat.divInt (a x1 * p (2 * x)) (a x1 + s' x)).den : Int)) ⟨by simp only; omega, by simp only; omega, _, hb2, rfl, rfl⟩ (by simp only; omega) _ hb2 rfl rfl
      simp only at this
      rw [hm2] at this
      rw [hm]
      exact this
  · exact ⟨by simp only; omega, by simp only; omega, 0, Bt.start Bd.zero, rfl, rfl⟩
  · show (h 1 - 0).toNat < F
    omega
/-- steps -/
theorem op_steps (hF : 1000 ≤ F) (L : LayN lines odds parts steps speeds walkers paces bands carried sided st wk pc wd acts aP aS l h p a b c) {x1 x2 : Int} (hx1 : r32 x1) (hx2 : r32 x2) (u1 u2 u3 u4 v1 v2 : Int) (sp : Int → Int) : Eq1 (m_X8_steps F x1 x2 parts walkers paces speeds steps u1 u2 u3 u4) (m_X9_steps F x1 x2 v1 v2 c h a p sp) := by
  obtain ⟨-, -, ⟨e1, p0, p4⟩, ⟨e2, w0, w8⟩, -, -, -, hq, hw, -⟩ := id L
  obtain ⟨s', e, hs⟩ := isWay_spec hF L hx1 hx2 sp
  unfold m_X8_steps m_X9_steps
  rw [hasWalker_spec hx1 ⟨w0, w8⟩, bnd1_s, ifB, e, bnd2_s, ifB]
  by_cases h1 : 0 ≤ x1 ∧ x1 < walkers
  · rw [if_pos h1, isSide_spec hx2, bnd1_s, ifB]
    by_cases h2 : 0 ≤ x2 ∧ x2 ≤ 1
    · have hp := hw x1 h1.1 h1.2
      have hss := hs ⟨h1, h2⟩
      have cr := crossesR hF L (pace := paces x1) (by omega)
      have go := goesR hF L hss (pace := paces x1) (by omega)
      rw [if_pos h2, if_pos ⟨h1, h2⟩, chk_pos (by omega), chk_pos (by omega), hp.1]
      simp only [nam]
      cases hT : TM steps speeds parts (paces x1) with
      | none =>
        rw [hT] at cr go
        obtain ⟨A, B, cr⟩ := cr
        obtain ⟨A', B', go⟩ := go
        rw [cr, go, bnd3_s, bnd3_s, if_pos rfl, if_pos rfl]
        exact Eq1.mk
      | some q =>
        obtain ⟨hb, -, -⟩ := TM_nq L (by omega) hT
        obtain ⟨hok, hval⟩ := tmO_val hT
        rw [hT] at cr go
        simp only [Res] at cr go
        have hl := steps9_loop (F := F) (h := h) (a := a) (p := p) (s' := s') hF (x1 := x1) (x2 := x2) (by omega) hx2 (by omega) (by omega) (fun i h3 h4 => by
          have := hq i h3 (by omega)
          have := hok i h3 (by omega)
          have := L.speeds_in h3 (show i < parts by omega)
          have := hss i h3 (by omega)
          simp only at *
          omega)
        have hT2 : accT (fun i => a x1 * p (2 * i)) (fun i => a x1 + s' i) (h 1).toNat 0 0 = Rat.divInt (q.num * paces x1) q.den := by
          rw [Int.mul_comm, divInt_cmul, Rat.num_divInt_den, hval, ← accT_cmul, Rat.mul_zero, e1]
          exact accT_congr _ _ _ (fun i h3 h4 => ⟨by rw [hp.1, (hq i h3 (by omega)).1], by rw [hp.1, hss i h3 (by omega)]⟩)
        have hnum : (q.num * paces x1).natAbs ≤ (0 + 200 * parts.toNat * 1) * 90 ^ parts.toNat * 30 := by
          rw [Int.natAbs_mul]
          exact Nat.mul_le_mul hb.1 (by omega)
        have hden := hb.den (pow90 (by omega))
        have hnum2 : (0 + 200 * parts.toNat * 1) * 90 ^ parts.toNat * 30 ≤ (0 + 200 * 4 * 1) * 65610000 * 30 := Nat.mul_le_mul_right _ (Nat.mul_le_mul (by omega) (by have := pow90 (j := parts.toNat) (by omega); omega))
        rw [cr, go, bnd3_s, bnd3_s, if_neg one0, if_neg one0]
        unfold m_X9_zero
        rw [bnd2_s, hl, hT2, chk_pos (by omega), put_spec hF (by omega) (by omega), bnd2_s, side_spec hx2, bnd1_s]
        exact Eq1.mk
    · rw [if_neg h2, if_neg (fun z => h2 z.2)]
      exact Eq1.mk
  · rw [if_neg h1, if_neg (fun z => h1 z.1)]
    exact Eq1.mk
/-- the component's way back -/
theorem addReturn_spec (hF : 1000 ≤ F) {pace parts : Int} {sp stp : Int → Int} {A N D j : Nat} {q : Rat} (hp : 0 ≤ parts ∧ parts ≤ 4) (hr : ∀ i, 0 ≤ i → i < parts → ((stp i).natAbs ≤ A ∧ r32 (stp i)) ∧ -90 ≤ pace + -1 * sp i ∧ pace + -1 * sp i ≤ 90) (hq : Bt A N D j q) (hc : Cap A N D (j + parts.toNat)) :
    (okA (fun i => pace + -1 * sp i) 0 parts.toNat → m_X6_addReturn F pace parts sp stp q.num q.den = some (1, (q + accT stp (fun i => pace + -1 * sp i) parts.toNat 0 0).num, ((q + accT stp (fun i => pace + -1 * sp i) parts.toNat 0 0).den : Int))) ∧
    (¬ okA (fun i => pace + -1 * sp i) 0 parts.toNat → ∃ A B, m_X6_addReturn F pace parts sp stp q.num q.den = some (0, A, B)) := by
  unfold m_X6_addReturn
  simp only [nam]
  unfold ml_X6_addReturn_7
  have main := loopN_rec (body := fun (k : Int × Int × Int → Option (Int × Int × Int)) q => mb_X6_addReturn_7 F (fun y0 y1 y2 => k (y0, y1, y2)) pace q.1 sp stp q.2.1 q.2.2)
    (I := fun q : Int × Int × Int => -1 ≤ q.1 ∧ q.1 < parts ∧ ∃ (t : Rat) (i : Nat), Bt A N D i t ∧ i + (q.1 + 1).toNat ≤ j + parts.toNat ∧ q.2.1 = t.num ∧ q.2.2 = (t.den : Int)) (μ := fun q => (q.1 + 1).toNat)
    (P := fun q x => ∀ (t : Rat) (i : Nat), Bt A N D i t → i + (q.1 + 1).toNat ≤ j + parts.toNat → q.2.1 = t.num → q.2.2 = (t.den : Int) → (okA (fun i => pace + -1 * sp i) 0 (q.1 + 1).toNat → x = some (1, (t + accT stp (fun i => pace + -1 * sp i) (q.1 + 1).toNat 0 0).num, ((t + accT stp (fun i => pace + -1 * sp i) (q.1 + 1).toNat 0 0).den : Int))) ∧ (¬ okA (fun i => pace + -1 * sp i) 0 (q.1 + 1).toNat → ∃ A B, x = some (0, A, B))) ?_ F (parts - 1, q.num, (q.den : Int)) ?_ ?_
  · have := main q j hq (by simp only; omega) rfl rfl
    simp only [show parts - 1 + 1 = parts by omega] at this
    exact this
  · rintro k ⟨x, u, w⟩ ⟨h0, h1, -⟩ ih t i hb hi hu hw
    simp only at h0 h1 ih hb hi hu hw ⊢
    subst hu; subst hw
    unfold mb_X6_addReturn_7
    rw [ifI_lt (by omega) (by omega)]
    by_cases hx : x < 0
    · rw [if_pos hx]
      have e : (x + 1).toNat = 0 := by omega
      rw [e]
      refine ⟨fun _ => ?_, fun hno => absurd (fun i h2 h3 => by omega) hno⟩
      simp only [accT]
      rw [Rat.add_zero]
    · obtain ⟨⟨s1, s2⟩, r1, r2⟩ := hr x (by omega) (by omega)
      obtain ⟨m, hm⟩ : ∃ m : Nat, (x + 1).toNat = m + 1 := ⟨x.toNat, by omega⟩
      have hmx : (m : Int) = x := by omega
      have hm2 : (x + -1 + 1).toNat = m := by omega
      rw [if_neg hx, chk_pos (by omega)]
      simp only [nam]
      rw [show pace - sp x = pace + -1 * sp x by omega, ifI_lt (by decide) (by omega)]
      by_cases hv : 0 < pace + -1 * sp x
      · have hcap : Cap A N D (i + 1) := hc.le (by omega)
        have hb2 : Bt A N D (i + 1) (t + Rat.divInt (stp x) (pace + -1 * sp x)) := hb.step s1 ⟨hv, r2⟩
        rw [if_pos hv, chk_pos (by omega), chk_pos s2, chk_pos (by omega), Bt.add hF hb s1 ⟨hv, r2⟩ hcap, bnd2_s]
        have := ih (x + -1, (t + Rat.divInt (stp x) (pace + -1 * sp x)).num, ((t + Rat.divInt (stp x) (pace + -1 * sp x)).den : Int)) ⟨by simp only; omega, by simp only; omega, _, i + 1, hb2, by simp only; omega, rfl, rfl⟩ (by simp only; omega) _ (i + 1) hb2 (by simp only; omega) rfl rfl
        simp only at this
        rw [hm2] at this
        rw [hm, accT_last, Int.zero_add, hmx, Rat.add_comm (accT _ _ _ _ _), ← Rat.add_assoc]
        refine ⟨fun hok => this.1 (fun i h2 h3 => hok i (by omega) (by omega)), fun hno => this.2 (fun hok => hno (fun i h2 h3 => ?_))⟩
        by_cases e : i = x
        · rw [e]; exact hv
        · exact hok i (by omega) (by omega)
      · rw [if_neg hv]
        refine ⟨fun hok => absurd (hok x (by omega) (by omega)) hv, fun _ => ⟨_, _, rfl⟩⟩
  · exact ⟨by simp only; omega, by simp only; omega, q, j, hq, by simp only; omega, rfl, rfl⟩
  · show (parts - 1 + 1).toNat < F
    omega
theorem returnR (hF : 1000 ≤ F) (L : LayN lines odds parts steps speeds walkers paces bands carried sided st wk pc wd acts aP aS l h p a b c) {pace : Int} (hp : 0 ≤ pace ∧ pace ≤ 60) {q : Rat} {j : Nat} (hq : Bt 200 0 1 j q) (hj : j ≤ 4) : Res ((TB steps speeds parts pace).map (q + ·)) (m_X6_addReturn F pace parts speeds steps q.num q.den) := by
  obtain ⟨-, -, ⟨e1, p0, p4⟩, -, -, -, -, hs, -⟩ := id L
  have main := addReturn_spec hF (pace := pace) (parts := parts) (sp := speeds) (stp := steps) (j := j) ⟨p0, p4⟩ (fun i h0 h1 => by
    have := hs i h0 h1
    have := L.speeds_in h0 h1
    omega) hq (Cap8.le (by omega))
  cases hT : TB steps speeds parts pace with
  | none => exact main.2 (tmO_none hT)
  | some t =>
    obtain ⟨hok, hval⟩ := tmO_val hT
    have := main.1 hok
    rw [← hval] at this
    exact this
/-- back (w, what) -/
theorem op_back (hF : 1000 ≤ F) (L : LayN lines odds parts steps speeds walkers paces bands carried sided st wk pc wd acts aP aS l h p a b c) {x1 x2 : Int} (hx1 : r32 x1) (hx2 : r32 x2) (u v u' v' : Int) (sp : Int → Int) : Eq1 (m_X8_back F x1 x2 parts walkers paces speeds steps u v) (m_X9_back F x1 x2 u' v' c h a p sp) := by
  obtain ⟨-, -, -, ⟨e2, w0, w8⟩, -, -, -, -, hw, -⟩ := id L
  obtain ⟨s', e, hs⟩ := isWay_spec hF L hx1 hx2 sp
  unfold m_X8_back m_X9_back
  rw [hasWalker_spec hx1 ⟨w0, w8⟩, bnd1_s, ifB, e, bnd2_s, ifB]
  by_cases h1 : 0 ≤ x1 ∧ x1 < walkers
  · rw [if_pos h1, isSide_spec hx2, bnd1_s, ifB]
    by_cases h2 : 0 ≤ x2 ∧ x2 ≤ 1
    · have hp := hw x1 h1.1 h1.2
      have cr := returnR hF L (pace := paces x1) (q := 0) (j := 0) (by omega) (Bt.start Bd.zero) (by omega)
      have go := goesB hF L (hs ⟨h1, h2⟩) (pace := paces x1) (by omega)
      have e0 : (Rat.divInt (0 : Int) 1) = 0 := Rat.zero_divInt 1
      rw [if_pos h2, if_pos ⟨h1, h2⟩, put_spec hF (by decide) (by decide), e0, bnd2_s, chk_pos (by omega), chk_pos (by omega), hp.1]
      cases hT : TB steps speeds parts (paces x1) with
      | none =>
        rw [hT] at cr go
        obtain ⟨A, B, cr⟩ := cr
        obtain ⟨A', B', go⟩ := go
        rw [cr, go, bnd3_s, bnd3_s, if_pos rfl, if_pos rfl]
        exact Eq1.mk
      | some q =>
        rw [hT] at cr go
        simp only [Res, Option.map, Rat.zero_add] at cr go
        rw [cr, go, bnd3_s, bnd3_s, if_neg one0, if_neg one0, side_spec hx2, half_spec hx2, bnd1_s, bnd1_s]
        exact Eq1.mk
    · rw [if_neg h2, if_neg (fun z => h2 z.2)]
      exact Eq1.mk
  · rw [if_neg h1, if_neg (fun z => h1 z.1)]
    exact Eq1.mk
/-- round -/
theorem op_round (hF : 1000 ≤ F) (L : LayN lines odds parts steps speeds walkers paces bands carried sided st wk pc wd acts aP aS l h p a b c) (u1 u2 u3 u4 v1 v2 v3 v4 v5 : Int) (sp : Int → Int) : Eq1 (m_X8_round F lines parts walkers paces speeds steps u1 u2 u3 u4) (m_X9_round F v1 v2 v3 v4 v5 c h l a p sp) := by
  obtain ⟨⟨e0, l0, l1⟩, -, ⟨e1, p0, p4⟩, ⟨e2, w0, w8⟩, -, -, -, -, hw, -⟩ := id L
  unfold m_X8_round m_X9_round
  rw [isThere_spec (by omega), bnd1_s, ifB, isStair_spec (by omega), bnd1_s, ifB, e0]
  by_cases h1 : 0 < lines
  · obtain ⟨s', e, hs⟩ := lays_spec hF L sp
    rw [if_pos h1, if_pos h1, e, bnd1_s]
    unfold ml_X8_round_17 ml_X9_round_26
    refine loopN_rel (I := fun s t => s.2.1 = t.1 ∧ 0 ≤ s.2.1 ∧ s.2.1 ≤ walkers ∧ BestR s.1 t.2.2.2.1 t.2.2.2.2.1 t.2.2.2.2.2 s.2.2.1 s.2.2.2.1) (μ := fun s => (walkers - s.2.1).toNat) (P := Eq1) ?_ F _ _ ?_ ?_
    · rintro k1 k2 ⟨w, x, ba, bb, sa, sb⟩ ⟨x', ra, rb, la, lb, lo⟩ ⟨hxx, hx0, hx1, hlo, hwr, hb⟩ ih
      simp only at hxx hx0 hx1 hlo hwr hb ih ⊢
      subst hxx; subst hlo
      unfold mb_X8_round_17 mb_X9_round_26
      rw [e2, ifI_le (by omega) (by omega), ifI_le (by omega) (by omega)]
      by_cases hx : walkers ≤ x
      · rw [if_pos hx, if_pos hx]
        exact Eq1.mk
      · have hp := hw x hx0 (by omega)
        have cr := crossesR hF L (pace := paces x) (by omega)
        have go := goesR hF L hs (pace := paces x) (by omega)
        have gb := goesB hF L hs (pace := paces x) (by omega)
        rw [if_neg hx, if_neg hx, chk_pos (by omega), chk_pos (by omega), hp.1]
        simp only [nam]
        cases hB : TB steps speeds parts (paces x) with
        | none =>
          rw [hB] at gb
          obtain ⟨A', B', gb⟩ := gb
          rw [gb, bnd3_s, if_pos rfl]
          simp only [mb_X9_round_93]
          cases hT : TM steps speeds parts (paces x) with
          | none =>
            rw [hT] at cr
            obtain ⟨A, B, cr⟩ := cr
            rw [cr, bnd3_s, if_pos rfl]
            simp only [mb_X8_round_113]
            exact ih _ _ ⟨rfl, by simp only; omega, by simp only; omega, rfl, hwr, hb⟩ (by simp only; omega)
          | some q =>
            obtain ⟨hbt, -, -⟩ := TM_nq L (by omega) hT
            have rt := returnR hF L (pace := paces x) (by omega) hbt (by omega)
            rw [hT] at cr
            rw [hB] at rt
            simp only [Res] at cr
            obtain ⟨A, B, rt⟩ := rt
            rw [cr, bnd3_s, if_neg one0, rt, bnd3_s, if_pos rfl]
            simp only [mb_X8_round_113]
            exact ih _ _ ⟨rfl, by simp only; omega, by simp only; omega, rfl, hwr, hb⟩ (by simp only; omega)
        | some t0 =>
          obtain ⟨hbt0, ht0, -⟩ := TB_nq L (by omega) hB
          rw [hB] at gb
          simp only [Res] at gb
          rw [gb, bnd3_s, if_neg one0, chk_pos (by omega)]
          cases hT : TM steps speeds parts (paces x) with
          | none =>
            rw [hT] at cr go
            obtain ⟨A, B, cr⟩ := cr
            obtain ⟨A', B', go⟩ := go
            rw [cr, go, bnd3_s, bnd3_s, if_pos rfl, if_pos rfl]
            simp only [mb_X8_round_113, mb_X9_round_93]
            exact ih _ _ ⟨rfl, by simp only; omega, by simp only; omega, rfl, hwr, hb⟩ (by simp only; omega)
          | some q0 =>
            obtain ⟨hbt, hq0, -⟩ := TM_nq L (by omega) hT
            have rt := returnR hF L (pace := paces x) (by omega) hbt (by omega)
            rw [hB] at rt
            rw [hT] at cr go
            simp only [Res, Option.map] at cr go rt
            have hb4 : Bt 200 0 1 4 q0 := hbt.le (by omega)
            have hb40 : Bt 200 0 1 4 t0 := hbt0.le (by omega)
            have hadds : m_X9_adds F t0.num t0.den q0.num q0.den = some ((q0 + t0).num, ((q0 + t0).den : Int)) := by
              have := adds_spec (F := F) (q := q0) (a := t0.num) (b := (t0.den : Int)) (N := 52488000000) (D := 65610000) (A := 52488000000) (B := 65610000) (Bd.mono hb4 (by decide) (by decide)) (Bd.mono hb40 (N' := 52488000000) (D' := 65610000) (by decide) (by decide)).1 (by rw [Int.natAbs_natCast]; exact (Bd.mono hb40 (N' := 52488000000) (D' := 65610000) (by decide) (by decide)).2) (by have := t0.den_nz; omega) (by decide) (by decide) (by decide) (by decide)
              rw [Rat.num_divInt_den] at this
              exact this
            have hq : Nq (q0 + t0) := by
              have : Bd (q0 + t0) (52488000000 * 65610000 + 52488000000 * 65610000) (65610000 * 65610000) := by
                have h5 := Bd.add (a := t0.num) (b := (t0.den : Int)) (A := 52488000000) (B := 65610000) (Bd.mono hb4 (N' := 52488000000) (D' := 65610000) (by decide) (by decide)) (Bd.mono hb40 (N' := 52488000000) (D' := 65610000) (by decide) (by decide)).1 (by rw [Int.natAbs_natCast]; exact (Bd.mono hb40 (N' := 52488000000) (D' := 65610000) (by decide) (by decide)).2) (by have := t0.den_nz; omega)
                rw [Rat.num_divInt_den] at h5
                exact h5
              exact Nq.of this (Rat.add_nonneg hq0 ht0) (by decide) (by decide)
            generalize q0 + t0 = q at *
            rw [cr, go, bnd3_s, bnd3_s, if_neg one0, if_neg one0, rt, bnd3_s, if_neg one0, hadds, bnd2_s]
            obtain ⟨la', lb', lo', hk, hcase⟩ := keeps_spec (F := F) (x1 := x) (la := la) (lb := lb) (lo := lo) hq hwr (fun z => by obtain ⟨t, ht, a1, a2, -⟩ := hb z; exact ⟨t, ht, a1, a2⟩)
            rw [hk, bnd3_s, ifI_eq hwr (by decide)]
            simp only [mb_X8_round_94, mb_X8_round_113, mb_X9_round_93, m_X1_take, bnd2_s]
            rcases hcase with ⟨g1, g2, g3, g4⟩ | ⟨t, g1, g2, g3, g4⟩
            · subst g2; subst g3; subst g4
              rw [if_pos g1]
              exact ih _ _ ⟨rfl, by simp only; omega, by simp only; omega, rfl, by simp only; omega, fun _ => ⟨q, hq, rfl, rfl, rfl, rfl⟩⟩ (by simp only; omega)
            · obtain ⟨t', ht', a1, a2, a3, a4⟩ := hb g1
              have : t' = t := num_den_inj (by rw [← a1, g2]) (by rw [← a2, g3])
              subst this
              rw [if_neg g1, a3, a4, againstQ hF hq ht', bnd1_s]
              rcases g4 with ⟨g4, g5, g6, g7⟩ | ⟨g4, g5, g6, g7⟩
              · subst g5; subst g6; subst g7
                rw [if_pos g4, if_neg (by decide)]
                exact ih _ _ ⟨rfl, by simp only; omega, by simp only; omega, rfl, by simp only; omega, fun _ => ⟨q, hq, rfl, rfl, rfl, rfl⟩⟩ (by simp only; omega)
              · subst g5; subst g6; subst g7
                rw [if_neg g4]
                have hc : wI 0 ≤ wI (if q = t' then 0 else 1) := by
                  by_cases hqt : q = t'
                  · rw [if_pos hqt]
                    decide
                  · rw [if_neg hqt]
                    decide
                rw [if_pos hc]
                exact ih _ _ ⟨rfl, by simp only; omega, by simp only; omega, rfl, hwr, fun _ => ⟨t', ht', a1, a2, rfl, rfl⟩⟩ (by simp only; omega)
    · exact ⟨rfl, by simp only; omega, by simp only; omega, rfl, by simp only; decide, fun z => absurd rfl z⟩
    · simp only
      omega
  · rw [if_neg h1, if_neg h1]
    exact Eq1.mk
end OPS4
/-! at, on, miss -/
/-- spending minutes from a PART's start on: the PART he is on then, and what is over -/
def carR (stp r : Int → Int) : Nat → Rat → Int → Int × Rat
  | 0, q, x => (x, q)
  | m + 1, q, x => if 0 < r x ∧ stp x * q.den ≤ r x * q.num then carR stp r m (q + Rat.divInt (-(stp x)) (r x)) (x + 1) else (x, q)
theorem carR_le {stp r : Int → Int} : ∀ (m : Nat) (q : Rat) (x : Int), x ≤ (carR stp r m q x).1 ∧ (carR stp r m q x).1 ≤ x + m
  | 0, q, x => ⟨by simp [carR], by simp [carR]⟩
  | m + 1, q, x => by
    unfold carR
    by_cases hc : 0 < r x ∧ stp x * q.den ≤ r x * q.num
    · rw [if_pos hc]
      have := carR_le (stp := stp) (r := r) m (q + Rat.divInt (-(stp x)) (r x)) (x + 1)
      omega
    · rw [if_neg hc]
      simp only
      omega
theorem sub_nonneg_of {q : Rat} {s v : Int} (hv : 0 < v) (h : s * q.den ≤ v * q.num) : 0 ≤ q + Rat.divInt (-s) v := by
  rw [add_divInt (by omega)]
  refine Rat.divInt_nonneg ?_ ?_
  · rw [Int.mul_comm q.num, Int.neg_mul]
    omega
  · exact Int.mul_nonneg (by omega) (by omega)
theorem carR_bt {A N D : Nat} {stp r : Int → Int} : ∀ (m j : Nat) (q : Rat) (x : Int), Bt A N D j q → 0 ≤ q → (∀ i, x ≤ i → i < x + m → (stp i).natAbs ≤ A ∧ r i ≤ 90) → Bt A N D (j + ((carR stp r m q x).1 - x).toNat) (carR stp r m q x).2 ∧ 0 ≤ (carR stp r m q x).2
  | 0, j, q, x, h, h0, _ => by
    unfold carR
    simp only [Int.sub_self, Int.toNat_zero, Nat.add_zero]
    exact ⟨h, h0⟩
  | m + 1, j, q, x, h, h0, hr => by
    unfold carR
    by_cases hc : 0 < r x ∧ stp x * q.den ≤ r x * q.num
    · rw [if_pos hc]
      have h1 := hr x (by omega) (by omega)
      have h2 := carR_bt m (j + 1) (q + Rat.divInt (-(stp x)) (r x)) (x + 1) (h.step (by omega) ⟨hc.1, h1.2⟩) (sub_nonneg_of hc.1 hc.2) (fun i hi1 hi2 => hr i (by omega) (by omega))
      have h3 := carR_le (stp := stp) (r := r) m (q + Rat.divInt (-(stp x)) (r x)) (x + 1)
      exact ⟨h2.1.le (by omega), h2.2⟩
    · rw [if_neg hc]
      simp only [Int.sub_self, Int.toNat_zero, Nat.add_zero]
      exact ⟨h, h0⟩
theorem carR_stop {stp r : Int → Int} : ∀ (m : Nat) (q : Rat) (x : Int), (carR stp r m q x).1 < x + m → ¬ (0 < r (carR stp r m q x).1 ∧ stp (carR stp r m q x).1 * (carR stp r m q x).2.den ≤ r (carR stp r m q x).1 * (carR stp r m q x).2.num)
  | 0, q, x, h => by
    unfold carR at h
    simp only at h
    omega
  | m + 1, q, x, h => by
    unfold carR at h ⊢
    by_cases hc : 0 < r x ∧ stp x * q.den ≤ r x * q.num
    · rw [if_pos hc] at h ⊢
      exact carR_stop m _ (x + 1) (by omega)
    · rw [if_neg hc]
      exact hc
theorem divInt_neg_add {s v : Int} {q : Rat} : q + Rat.divInt (-s) v + Rat.divInt s v = q := by
  rw [← Rat.neg_divInt, Rat.add_assoc, Rat.neg_add_cancel, Rat.add_zero]
theorem carR_diff {stp r : Int → Int} : ∀ (m : Nat) (q : Rat) (x : Int), (∀ i, x ≤ i → i < x + m → 0 ≤ stp i) → ∃ d : Rat, 0 ≤ d ∧ (carR stp r m q x).2 + d = q
  | 0, q, x, _ => ⟨0, Rat.le_refl, Rat.add_zero q⟩
  | m + 1, q, x, h => by
    unfold carR
    by_cases hc : 0 < r x ∧ stp x * q.den ≤ r x * q.num
    · rw [if_pos hc]
      obtain ⟨d, hd, e⟩ := carR_diff (stp := stp) (r := r) m (q + Rat.divInt (-(stp x)) (r x)) (x + 1) (fun i hi1 hi2 => h i (by omega) (by omega))
      refine ⟨d + Rat.divInt (stp x) (r x), Rat.add_nonneg hd (Rat.divInt_nonneg (h x (by omega) (by omega)) (by omega)), ?_⟩
      rw [← Rat.add_assoc, e]
      exact divInt_neg_add
    · rw [if_neg hc]
      exact ⟨0, Rat.le_refl, Rat.add_zero q⟩
theorem carR_congr {stp r stp' r' : Int → Int} : ∀ (m : Nat) (q : Rat) (x : Int), (∀ i, x ≤ i → i < x + m → stp i = stp' i ∧ r i = r' i) → carR stp r m q x = carR stp' r' m q x
  | 0, q, x, _ => rfl
  | m + 1, q, x, h => by
    unfold carR
    rw [(h x (by omega) (by omega)).1, (h x (by omega) (by omega)).2, carR_congr m _ (x + 1) (fun i h1 h2 => h i (by omega) (by omega))]
/-- the STEPS ahead of a PART -/
def sumS (stp : Int → Int) : Nat → Int
  | 0 => 0
  | n + 1 => sumS stp n + stp n
theorem sumS_in {stp : Int → Int} : ∀ (n : Nat), (∀ i, 0 ≤ i → i < (n : Int) → 0 ≤ stp i ∧ stp i ≤ 200) → 0 ≤ sumS stp n ∧ sumS stp n ≤ 200 * n
  | 0, _ => by simp [sumS]
  | n + 1, h => by
    have h1 := sumS_in n (fun i a b => h i a (by omega))
    have h2 := h n (by omega) (by omega)
    unfold sumS
    omega
theorem mul_in {x y M N : Int} (hx : 0 ≤ x ∧ x ≤ M) (hy : 0 ≤ y ∧ y ≤ N) : 0 ≤ x * y ∧ x * y ≤ M * N := ⟨Int.mul_nonneg hx.1 hy.1, Int.mul_le_mul hx.2 hy.2 hy.1 (by omega)⟩
section OPS5
variable {lines odds parts walkers bands sided st wk pc wd acts : Int} {steps speeds paces carried aP aS l h p a b c : Int → Int} {F : Nat}
theorem Nq.small {q : Rat} {N D : Nat} (h : Bd q N D) (h0 : 0 ≤ q) : (0 ≤ q.num ∧ q.num ≤ N) ∧ (0 < (q.den : Int) ∧ (q.den : Int) ≤ D) := by
  have h1 := Rat.num_nonneg.mpr h0
  have h2 := h.1
  have h3 := h.2
  have h4 : 0 < q.den := Nat.pos_of_ne_zero q.den_nz
  omega
/-- bounds of what a walker has over -/
theorem Bt.four {A N D j : Nat} {q : Rat} (h : Bt A N D j q) (h0 : 0 ≤ q) (hj : j ≤ 4) : (0 ≤ q.num ∧ q.num ≤ ((N + A * 4 * D) * 65610000 : Nat)) ∧ (0 < (q.den : Int) ∧ (q.den : Int) ≤ (D * 65610000 : Nat)) := Nq.small (h.le hj) h0
/-- the component's carry -/
theorem carry_spec (hF : 1000 ≤ F) {pace x parts : Int} {sp stp : Int → Int} {j N D : Nat} {q : Rat} (hp : 0 ≤ parts ∧ parts ≤ 4) (hx : 0 ≤ x ∧ x ≤ parts) (hr : ∀ i, 0 ≤ i → i < parts → (1 ≤ stp i ∧ stp i ≤ 200) ∧ -90 ≤ pace + sp i ∧ pace + sp i ≤ 90) (hN : N ≤ 100000) (hD : D ≤ 60) (hq : Bt 200 N D j q) (h0 : 0 ≤ q) (hj : j + (parts - x).toNat ≤ 4) :
    m_X6_carry F pace x parts sp stp q.num q.den = some ((carR stp (fun i => pace + sp i) (parts - x).toNat q x).1, (carR stp (fun i => pace + sp i) (parts - x).toNat q x).2.num, ((carR stp (fun i => pace + sp i) (parts - x).toNat q x).2.den : Int)) := by
  have hcap : ∀ i, i ≤ 4 → Cap 200 N D i := fun i hi => by
    have h1 : 90 ^ i ≤ 90 ^ 4 := Nat.pow_le_pow_right (by decide) hi
    have h2 : 200 * i * D ≤ 200 * 4 * 60 := Nat.mul_le_mul (by omega) hD
    have h3 : (N + 200 * i * D) * 90 ^ i ≤ 148000 * 90 ^ 4 := Nat.mul_le_mul (by omega) h1
    have h4 : D * 90 ^ i ≤ 60 * 90 ^ 4 := Nat.mul_le_mul hD h1
    exact ⟨Nat.le_trans h3 (by decide), Nat.le_trans h4 (by decide)⟩
  unfold m_X6_carry ml_X6_carry_3
  have main := loopN_rec (body := fun (k : Int × Int × Int → Option (Int × Int × Int)) q => mb_X6_carry_3 F (fun y0 y1 y2 => k (y0, y1, y2)) pace q.1 parts sp stp q.2.1 q.2.2)
    (I := fun q : Int × Int × Int => 0 ≤ q.1 ∧ q.1 ≤ parts ∧ ∃ (t : Rat) (i : Nat), Bt 200 N D i t ∧ 0 ≤ t ∧ i + (parts - q.1).toNat ≤ 4 ∧ q.2.1 = t.num ∧ q.2.2 = (t.den : Int)) (μ := fun q => (parts - q.1).toNat)
    (P := fun q x => ∀ (t : Rat) (i : Nat), Bt 200 N D i t → 0 ≤ t → i + (parts - q.1).toNat ≤ 4 → q.2.1 = t.num → q.2.2 = (t.den : Int) → x = some ((carR stp (fun i => pace + sp i) (parts - q.1).toNat t q.1).1, (carR stp (fun i => pace + sp i) (parts - q.1).toNat t q.1).2.num, ((carR stp (fun i => pace + sp i) (parts - q.1).toNat t q.1).2.den : Int))) ?_ F (x, q.num, (q.den : Int)) ?_ ?_
  · exact main q j hq h0 hj rfl rfl
  · rintro k ⟨x, u, w⟩ ⟨h0, h1, -⟩ ih t i hb ht hi hu hw
    simp only at h0 h1 ih hb ht hi hu hw ⊢
    subst hu; subst hw
    unfold mb_X6_carry_3
    rw [ifI_le (by omega) (by omega)]
    by_cases hx : parts ≤ x
    · have e : (parts - x).toNat = 0 := by omega
      rw [if_pos hx, e]
      rfl
    · obtain ⟨⟨s1, s2⟩, r1, r2⟩ := hr x h0 (by omega)
      obtain ⟨m, hm⟩ : ∃ m : Nat, (parts - x).toNat = m + 1 := ⟨(parts - x).toNat - 1, by omega⟩
      have hm2 : (parts - (x + 1)).toNat = m := by omega
      obtain ⟨⟨n0, n1⟩, d0, d1⟩ := hb.four ht (by omega)
      rw [if_neg hx, chk_pos (by omega)]
      simp only [nam]
      rw [ifI_le (by omega) (by decide), hm]
      unfold carR
      by_cases hv : pace + sp x ≤ 0
      · rw [if_pos hv, if_neg (fun z => by omega)]
      · have hD2 : ((D * 65610000 : Nat) : Int) ≤ 60 * 65610000 := by
          have : D * 65610000 ≤ 60 * 65610000 := Nat.mul_le_mul_right _ hD
          omega
        have hN2 : (((N + 200 * 4 * D) * 65610000 : Nat) : Int) ≤ 9710280000000 := by
          have h2 : N + 200 * 4 * D ≤ 148000 := by omega
          exact Int.ofNat_le.mpr (Nat.le_trans (Nat.mul_le_mul_right 65610000 h2) (by decide))
        have m1 := mul_in (x := stp x) (y := t.den) (M := 200) (N := 60 * 65610000) (by omega) (by omega)
        have m2 := mul_in (x := pace + sp x) (y := t.num) (M := 90) (N := 9710280000000) (by omega) (by omega)
        rw [if_neg hv, chk_pos (by omega), chk_pos (by omega), chk_pos (by omega), ifJ_le (by omega) (by omega)]
        by_cases hc : stp x * t.den ≤ (pace + sp x) * t.num
        · have hb2 : Bt 200 N D (i + 1) (t + Rat.divInt (-(stp x)) (pace + sp x)) := hb.step (by omega) ⟨by omega, r2⟩
          have ht2 := sub_nonneg_of (q := t) (s := stp x) (v := pace + sp x) (by omega) hc
          rw [if_pos hc, if_pos ⟨by omega, hc⟩, chk_pos (by omega), chk_pos (by omega), chk_pos (by omega), Bt.add hF hb (by omega) ⟨by omega, r2⟩ (hcap _ (by omega)), bnd2_s]
          have := ih (x + 1, (t + Rat.divInt (-(stp x)) (pace + sp x)).num, ((t + Rat.divInt (-(stp x)) (pace + sp x)).den : Int)) ⟨by simp only; omega, by simp only; omega, _, i + 1, hb2, ht2, by simp only; omega, rfl, rfl⟩ (by simp only; omega) _ (i + 1) hb2 ht2 (by simp only; omega) rfl rfl
          simp only at this
          rw [hm2] at this
          exact this
        · rw [if_neg hc, if_neg (fun z => hc z.2)]
  · exact ⟨by simp only; omega, by simp only; omega, q, j, hq, h0, by simp only; omega, rfl, rfl⟩
  · show (parts - x).toNat < F
    omega
theorem stepsAhead_spec (hF : 1000 ≤ F) {x : Int} {stp : Int → Int} (hx : 0 ≤ x ∧ x ≤ 4) : m_X2_stepsAhead F x stp = some (sumS stp x.toNat) := by
  unfold m_X2_stepsAhead ml_X2_stepsAhead_4
  refine loopN_rec (I := fun q : Int × Int => 0 ≤ q.2 ∧ q.2 ≤ x ∧ q.1 = sumS stp q.2.toNat) (μ := fun q => (x - q.2).toNat) (P := fun q y => y = some (sumS stp x.toNat)) ?_ F (0, 0) ?_ ?_
  · rintro k ⟨s, i⟩ ⟨h0, h1, h2⟩ ih
    simp only at h0 h1 h2 ih ⊢
    unfold mb_X2_stepsAhead_4
    rw [ifI_le (by omega) (by omega), ifI_le (by decide) (by omega)]
    by_cases hi : x ≤ i
    · rw [if_pos hi, h2, show i = x by omega]
    · rw [if_neg hi, if_neg (by omega), chk_pos (by omega)]
      simp only [nam]
      refine ih (s + stp i, i + 1) ⟨by simp only; omega, by simp only; omega, ?_⟩ (by simp only; omega)
      simp only
      rw [show (i + 1).toNat = i.toNat + 1 by omega, h2]
      show sumS stp i.toNat + stp i = sumS stp i.toNat + stp ((i.toNat : Nat) : Int)
      rw [show ((i.toNat : Nat) : Int) = i by omega]
  · exact ⟨by simp only; omega, by simp only; omega, rfl⟩
  · show (x - 0).toNat < F
    omega
/-- how far he is: the STEPS ahead and those on the PART -/
def farR (stp r : Int → Int) (parts : Int) (z : Int × Rat) : Int := sumS stp z.1.toNat + (if z.1 < parts ∧ 0 < r z.1 then r z.1 * z.2.num / z.2.den else 0)
/-- the reference's comes -/
theorem comes_spec (hF : 1000 ≤ F) {w x2 : Int} {s' : Int → Int} (hw : 0 ≤ w ∧ w < 40) (hx2 : 0 ≤ x2 ∧ x2 ≤ 36000) (hn : 0 ≤ h 1 ∧ h 1 ≤ 4) (hr : ∀ i, 0 ≤ i → i < h 1 → (1 ≤ p (2 * i) ∧ p (2 * i) ≤ 200) ∧ -90 ≤ a w + s' i ∧ a w + s' i ≤ 90) :
    ∃ A B, m_X9_comes F w x2 h a p s' = some (farR (fun i => p (2 * i)) (fun i => a w + s' i) (h 1) (carR (fun i => p (2 * i)) (fun i => a w + s' i) (h 1).toNat (Rat.divInt x2 60) 0), A, B, if (carR (fun i => p (2 * i)) (fun i => a w + s' i) (h 1).toNat (Rat.divInt x2 60) 0).1 < h 1 then (carR (fun i => p (2 * i)) (fun i => a w + s' i) (h 1).toNat (Rat.divInt x2 60) 0).1 else -1) := by
  have hb0 : Bt 200 36000 60 0 (Rat.divInt x2 60) := Bt.start (Bd.of (by omega) (by decide) (by decide))
  have hq0 : 0 ≤ Rat.divInt x2 60 := Rat.divInt_nonneg hx2.1 (by decide)
  have hst := Bt.adds (F := F) (A := 36000) (N := 0) (D := 1) (j := 0) (q := 0) (a := x2) (b := 60) (Bt.start Bd.zero) (by omega) (by decide) (Cap.le (J := 1) ⟨by decide, by decide⟩ (by omega))
  rw [Rat.zero_add] at hst
  unfold m_X9_comes m_X9_zero
  rw [bnd2_s, chk_pos (by omega), show m_X9_adds F x2 60 0 1 = _ from hst, bnd2_s]
  unfold ml_X9_comes_20
  have main := loopN_rec (body := fun (k : Int × Int × Int × Int → Option (Int × Int × Int × Int)) q => mb_X9_comes_20 F (fun y0 y1 y2 y3 => k (y0, y1, y2, y3)) w q.1 q.2.1 q.2.2.1 q.2.2.2 h a p s')
    (I := fun q : Int × Int × Int × Int => 0 ≤ q.2.2.2 ∧ q.2.2.2 ≤ h 1 ∧ q.1 = sumS (fun i => p (2 * i)) q.2.2.2.toNat ∧ ∃ t : Rat, Bt 200 36000 60 q.2.2.2.toNat t ∧ 0 ≤ t ∧ q.2.1 = t.num ∧ q.2.2.1 = (t.den : Int)) (μ := fun q => (h 1 - q.2.2.2).toNat)
    (P := fun q x => ∀ t : Rat, Bt 200 36000 60 q.2.2.2.toNat t → 0 ≤ t → q.2.1 = t.num → q.2.2.1 = (t.den : Int) → ∃ A B, x = some (farR (fun i => p (2 * i)) (fun i => a w + s' i) (h 1) (carR (fun i => p (2 * i)) (fun i => a w + s' i) (h 1 - q.2.2.2).toNat t q.2.2.2), A, B, if (carR (fun i => p (2 * i)) (fun i => a w + s' i) (h 1 - q.2.2.2).toNat t q.2.2.2).1 < h 1 then (carR (fun i => p (2 * i)) (fun i => a w + s' i) (h 1 - q.2.2.2).toNat t q.2.2.2).1 else -1)) ?_ F (0, (Rat.divInt x2 60).num, ((Rat.divInt x2 60).den : Int), 0) ?_ ?_
  · have := main _ hb0 hq0 rfl rfl
    simp only [Int.sub_zero] at this
    exact this
  · rintro k ⟨far, u, v, x⟩ ⟨h0, h1, hfar, -⟩ ih t hb ht hu hv
    simp only at h0 h1 hfar ih hb ht hu hv ⊢
    subst hu; subst hv
    unfold mb_X9_comes_20
    rw [ifI_le (by omega) (by omega)]
    by_cases hx : h 1 ≤ x
    · have e : (h 1 - x).toNat = 0 := by omega
      rw [if_pos hx, e]
      unfold carR farR
      simp only
      rw [if_neg (by omega), if_neg (by omega), hfar, Int.add_zero]
      exact ⟨_, _, rfl⟩
    · obtain ⟨⟨s1, s2⟩, r1, r2⟩ := hr x h0 (by omega)
      obtain ⟨m, hm⟩ : ∃ m : Nat, (h 1 - x).toNat = m + 1 := ⟨(h 1 - x).toNat - 1, by omega⟩
      have hm2 : (h 1 - (x + 1)).toNat = m := by omega
      obtain ⟨⟨n0, n1⟩, d0, d1⟩ := hb.four ht (by omega)
      rw [if_neg hx, chk_pos hw, chk_pos (by omega)]
      simp only [nam]
      rw [ifI_lt (by decide) (by omega), hm]
      unfold carR
      by_cases hv : 0 < a w + s' x
      · have m2 := mul_in (x := a w + s' x) (y := t.num) (M := 90) (N := 84000 * 65610000) (by omega) (by omega)
        unfold m_X9_stepsOf
        rw [if_pos hv, chk_pos (by omega), bnd1_s, chk_pos (by omega), chk_pos (by omega), isLess_spec (by omega) (by omega) (by omega) (by omega) (by omega) hv, bnd1_s]
        by_cases hc : t.num * (a w + s' x) < p (2 * x) * t.den
        · rw [if_pos hc, if_neg (by decide), chk_pos (by omega)]
          rw [Int.mul_comm t.num] at hc ⊢
          rw [chk_pos (by omega), if_neg (fun z => by omega)]
          unfold farR
          simp only
          have q1 : (if x < h 1 then x else -1) = x := if_pos (by omega)
          have q2 : (if x < h 1 ∧ 0 < a w + s' x then (a w + s' x) * t.num / (t.den : Int) else 0) = (a w + s' x) * t.num / (t.den : Int) := if_pos ⟨by omega, hv⟩
          rw [q1, q2, hfar, Int.tdiv_eq_ediv_of_nonneg (by omega)]
          exact ⟨_, _, rfl⟩
        · have hc2 : p (2 * x) * t.den ≤ (a w + s' x) * t.num := by
            rw [Int.mul_comm (a w + s' x)]
            omega
          have hb2 : Bt 200 36000 60 (x + 1).toNat (t + Rat.divInt (-(p (2 * x))) (a w + s' x)) := by
            rw [show (x + 1).toNat = x.toNat + 1 by omega]
            exact hb.step (by omega) ⟨hv, r2⟩
          have ht2 := sub_nonneg_of (q := t) (s := p (2 * x)) (v := a w + s' x) (by omega) hc2
          rw [if_neg hc, if_pos rfl, if_pos ⟨hv, hc2⟩, bnd1_s, chk_pos (by omega), chk_pos (by omega), Bt.adds hb (by omega) ⟨hv, r2⟩ (Cap.le (J := 4) ⟨by decide, by decide⟩ (by omega)), bnd2_s, bnd1_s]
          have := ih (far + p (2 * x), (t + Rat.divInt (-(p (2 * x))) (a w + s' x)).num, ((t + Rat.divInt (-(p (2 * x))) (a w + s' x)).den : Int), x + 1) ⟨by simp only; omega, by simp only; omega, by
            simp only
            rw [show (x + 1).toNat = x.toNat + 1 by omega, hfar]
            show sumS (fun i => p (2 * i)) x.toNat + p (2 * x) = sumS (fun i => p (2 * i)) x.toNat + p (2 * ((x.toNat : Nat) : Int))
            rw [show ((x.toNat : Nat) : Int) = x by omega], _, hb2, ht2, rfl, rfl⟩ (by simp only; omega) _ hb2 ht2 rfl rfl
          simp only at this
          rw [hm2] at this
          exact this
      · rw [if_neg hv, if_neg (fun z => hv z.1)]
        unfold farR
        simp only
        have q1 : (if x < h 1 then x else -1) = x := if_pos (by omega)
        have q2 : (if x < h 1 ∧ 0 < a w + s' x then (a w + s' x) * t.num / (t.den : Int) else 0) = 0 := if_neg (fun z => hv z.2)
        rw [q1, q2, hfar, Int.add_zero]
        exact ⟨_, _, rfl⟩
  · exact ⟨by simp only; omega, by simp only; omega, rfl, _, hb0, hq0, rfl, rfl⟩
  · show (h 1 - 0).toNat < F
    omega
theorem sumS_congr {f g : Int → Int} : ∀ (n : Nat), (∀ i, 0 ≤ i → i < (n : Int) → f i = g i) → sumS f n = sumS g n
  | 0, _ => rfl
  | n + 1, hh => by
    unfold sumS
    rw [sumS_congr n (fun i x y => hh i x (by omega)), hh n (by omega) (by omega)]
theorem partAfter_spec (hF : 1000 ≤ F) (L : LayN lines odds parts steps speeds walkers paces bands carried sided st wk pc wd acts aP aS l h p a b c) {pace x2 : Int} (hp : 0 ≤ pace ∧ pace ≤ 30) (hx2 : 0 ≤ x2 ∧ x2 ≤ 36000) : m_X6_partAfter F pace x2 parts speeds steps = some ((carR steps (fun i => pace + speeds i) parts.toNat (Rat.divInt x2 60) 0).1, (carR steps (fun i => pace + speeds i) parts.toNat (Rat.divInt x2 60) 0).2.num, ((carR steps (fun i => pace + speeds i) parts.toNat (Rat.divInt x2 60) 0).2.den : Int)) := by
  obtain ⟨-, -, ⟨e1, p0, p4⟩, -, -, -, -, hq, -⟩ := id L
  have hb0 : Bt 200 36000 60 0 (Rat.divInt x2 60) := Bt.start (Bd.of (by omega) (by decide) (by decide))
  have hq0 : 0 ≤ Rat.divInt x2 60 := Rat.divInt_nonneg hx2.1 (by decide)
  have main := carry_spec hF (pace := pace) (x := 0) (parts := parts) (sp := speeds) (stp := steps) ⟨p0, p4⟩ (by omega) (fun i h0 h1 => by
    have := hq i h0 h1
    have := L.speeds_in h0 h1
    omega) (by decide) (by decide) hb0 hq0 (by omega)
  rw [Int.sub_zero] at main
  unfold m_X6_partAfter
  rw [chk_pos (by omega), put_spec hF (by omega) (by decide), bnd2_s, main, bnd3_s]
/-- at -/
theorem op_at (hF : 1000 ≤ F) (L : LayN lines odds parts steps speeds walkers paces bands carried sided st wk pc wd acts aP aS l h p a b c) {x1 x2 : Int} (hx1 : r32 x1) (hx2 : r32 x2) (u1 u2 v1 v2 v3 : Int) (sp : Int → Int) : Eq1 (m_X8_at F x1 x2 parts walkers paces speeds steps u1 u2) (m_X9_at F x1 x2 v1 v2 v3 c h a p sp) := by
  obtain ⟨-, -, ⟨e1, p0, p4⟩, ⟨e2, w0, w8⟩, -, -, -, hq, hw, -⟩ := id L
  obtain ⟨s', e, hs⟩ := areSeconds_spec hF L hx1 hx2 (show r32 36000 by decide) sp
  unfold m_X8_at m_X9_at
  rw [hasWalker_spec hx1 ⟨w0, w8⟩, bnd1_s, ifB, chk_pos hx2, isOut_spec (by omega) (by decide) (by decide), bnd1_s, ifB, e, bnd2_s, ifB]
  by_cases h1 : 0 ≤ x1 ∧ x1 < walkers
  · by_cases h2 : 0 ≤ x2 ∧ x2 ≤ 36000
    · have hp := hw x1 h1.1 h1.2
      have hss := hs ⟨h1, h2⟩
      obtain ⟨A, B, hc⟩ := comes_spec (F := F) (h := h) (a := a) (p := p) hF (w := x1) (x2 := x2) (s' := s') (by omega) h2 (by omega) (fun i h0 h3 => by
        have := hq i h0 (by omega)
        have := L.speeds_in h0 (show i < parts by omega)
        rw [hss i h0 (by omega)]
        omega)
      have hcar : carR (fun i => p (2 * i)) (fun i => a x1 + s' i) (h 1).toNat (Rat.divInt x2 60) 0 = carR steps (fun i => paces x1 + speeds i) parts.toNat (Rat.divInt x2 60) 0 := by
        rw [e1]
        exact carR_congr _ _ _ (fun i h0 h3 => ⟨(hq i h0 (by omega)).1, by rw [hp.1, hss i h0 (by omega)]⟩)
      rw [hcar] at hc
      have hle := carR_le (stp := steps) (r := fun i => paces x1 + speeds i) parts.toNat (Rat.divInt x2 60) 0
      have hbt := carR_bt (A := 200) (N := 36000) (D := 60) (stp := steps) (r := fun i => paces x1 + speeds i) parts.toNat 0 (Rat.divInt x2 60) 0 (Bt.start (Bd.of (by omega) (by decide) (by decide))) (Rat.divInt_nonneg h2.1 (by decide)) (fun i h0 h3 => by
        have := hq i h0 (by omega)
        have := L.speeds_in h0 (show i < parts by omega)
        omega)
      have hpa := partAfter_spec hF L (pace := paces x1) (x2 := x2) (by omega) h2
      generalize carR steps (fun i => paces x1 + speeds i) parts.toNat (Rat.divInt x2 60) 0 = z at hc hle hbt hpa
      obtain ⟨y, t⟩ := z
      simp only at hc hle hbt hpa
      rw [if_pos h1, if_neg (fun z => z h2), if_pos ⟨h1, h2⟩, chk_pos (by omega), hc, bnd4_s]
      unfold m_X6_stepsAfter
      rw [hpa, bnd3_s, stepsAhead_spec hF (by omega), bnd1_s, hasPart_spec (by omega) ⟨p0, p4⟩, bnd1_s, ifB]
      have hsum : sumS (fun i => p (2 * i)) y.toNat = sumS steps y.toNat := sumS_congr _ (fun i h0 h3 => (hq i h0 (by omega)).1)
      unfold farR
      simp only
      rw [hsum]
      by_cases h3 : 0 ≤ y ∧ y < parts
      · have hz := hq y h3.1 h3.2
        have hy := L.speeds_in h3.1 h3.2
        obtain ⟨⟨n0, n1⟩, d0, d1⟩ := hbt.1.four hbt.2 (by omega)
        rw [if_pos h3, chk_pos (by omega), max32 (by omega) (by omega), bnd1_s, hp.1, hss y h3.1 h3.2]
        by_cases h4 : 0 < paces x1 + speeds y
        · have m2 := mul_in (x := paces x1 + speeds y) (y := t.num) (M := 90) (N := 84000 * 65610000) (by omega) (by omega)
          rw [if_pos h4, chk_pos (by omega), wholeOf_spec (by omega) (by omega) d0, bnd1_s, bnd3_s, if_pos ⟨by omega, h4⟩]
          exact Eq1.mk
        · rw [if_neg h4, chk_pos (by omega), wholeOf_spec (by rw [Int.zero_mul]; decide) (by omega) d0, Int.zero_mul, bnd1_s, bnd3_s, if_neg (fun z => h4 z.2), Int.zero_ediv]
          exact Eq1.mk
      · rw [if_neg h3, bnd3_s, if_neg (fun z => by omega), Int.add_zero]
        exact Eq1.mk
    · rw [if_pos h1, if_pos h2, if_neg (fun z => h2 z.2)]
      exact Eq1.mk
  · rw [if_neg h1, if_neg (fun z => h1 z.1)]
    exact Eq1.mk
/-- on -/
theorem op_on (hF : 1000 ≤ F) (L : LayN lines odds parts steps speeds walkers paces bands carried sided st wk pc wd acts aP aS l h p a b c) {x1 x2 : Int} (hx1 : r32 x1) (hx2 : r32 x2) (u1 u2 v1 v2 v3 : Int) (sp : Int → Int) : Eq1 (m_X8_on F x1 x2 parts walkers paces speeds steps u1 u2) (m_X9_on F x1 x2 v1 v2 v3 c h a p sp) := by
  obtain ⟨-, -, ⟨e1, p0, p4⟩, ⟨e2, w0, w8⟩, -, -, -, hq, hw, -⟩ := id L
  obtain ⟨s', e, hs⟩ := areSeconds_spec hF L hx1 hx2 (show r32 36000 by decide) sp
  unfold m_X8_on m_X9_on
  rw [hasWalker_spec hx1 ⟨w0, w8⟩, bnd1_s, ifB, chk_pos hx2, isOut_spec (by omega) (by decide) (by decide), bnd1_s, ifB, e, bnd2_s, ifB]
  by_cases h1 : 0 ≤ x1 ∧ x1 < walkers
  · by_cases h2 : 0 ≤ x2 ∧ x2 ≤ 36000
    · have hp := hw x1 h1.1 h1.2
      have hss := hs ⟨h1, h2⟩
      obtain ⟨A, B, hc⟩ := comes_spec (F := F) (h := h) (a := a) (p := p) hF (w := x1) (x2 := x2) (s' := s') (by omega) h2 (by omega) (fun i h0 h3 => by
        have := hq i h0 (by omega)
        have := L.speeds_in h0 (show i < parts by omega)
        rw [hss i h0 (by omega)]
        omega)
      have hcar : carR (fun i => p (2 * i)) (fun i => a x1 + s' i) (h 1).toNat (Rat.divInt x2 60) 0 = carR steps (fun i => paces x1 + speeds i) parts.toNat (Rat.divInt x2 60) 0 := by
        rw [e1]
        exact carR_congr _ _ _ (fun i h0 h3 => ⟨(hq i h0 (by omega)).1, by rw [hp.1, hss i h0 (by omega)]⟩)
      rw [hcar] at hc
      have hle := carR_le (stp := steps) (r := fun i => paces x1 + speeds i) parts.toNat (Rat.divInt x2 60) 0
      have hpa := partAfter_spec hF L (pace := paces x1) (x2 := x2) (by omega) h2
      generalize carR steps (fun i => paces x1 + speeds i) parts.toNat (Rat.divInt x2 60) 0 = z at hc hle hpa
      obtain ⟨y, t⟩ := z
      simp only at hc hle hpa
      rw [if_pos h1, if_neg (fun z => z h2), if_pos ⟨h1, h2⟩, chk_pos (by omega), hc, bnd4_s, hpa, bnd3_s, hasPart_spec (by omega) ⟨p0, p4⟩, bnd1_s, ifB, e1]
      by_cases h3 : 0 ≤ y ∧ y < parts
      · rw [if_pos h3, if_pos h3.2]
        exact Eq1.mk
      · rw [if_neg h3, if_neg (by omega)]
        exact Eq1.mk
    · rw [if_pos h1, if_pos h2, if_neg (fun z => h2 z.2)]
      exact Eq1.mk
  · rw [if_neg h1, if_neg (fun z => h1 z.1)]
    exact Eq1.mk
theorem sub_whole {q : Rat} {n : Int} : (q + Rat.divInt (-n) 1).num = q.num - n * q.den ∧ ((q + Rat.divInt (-n) 1).den : Int) = (q.den : Int) := by
  have hd : 0 < q.den := Nat.pos_of_ne_zero q.den_nz
  rw [add_divInt (by decide), Int.mul_one, Int.mul_one]
  have hg : Int.gcd (q.num + -n * (q.den : Int)) (q.den : Int) = 1 := by
    rw [Int.gcd_add_mul_right_left]
    have := q.reduced
    simp only [Int.gcd, Int.natAbs_natCast]
    exact this
  have := divInt_parts (a := q.num + -n * (q.den : Int)) (b := (q.den : Int)) (g := 1) (a' := q.num + -n * (q.den : Int)) (b' := (q.den : Int)) (by decide) (by omega) (by omega) (by omega) (by omega)
  rw [this.1, this.2, Int.sign_eq_one_of_pos (by omega), Int.one_mul, Int.neg_mul]
  constructor
  · omega
  · omega
theorem ceil_flip {x d : Int} (hd : 0 < d) : -(-x / d) = (x + d - 1) / d := by
  have h1 := Int.mul_ediv_add_emod (-x) d
  have h2 := Int.emod_nonneg (-x) (show d ≠ 0 by omega)
  have h3 := Int.emod_lt_of_pos (-x) hd
  have h4 : x + d - 1 = (d - 1 - -x % d) + d * -(-x / d) := by
    rw [Int.mul_neg]
    omega
  rw [h4, Int.add_mul_ediv_left _ _ (by omega), Int.ediv_eq_zero_of_lt (a := d - 1 - -x % d) (b := d) (by omega) (by omega)]
  omega
/-- miss -/
theorem op_miss (hF : 1000 ≤ F) (L : LayN lines odds parts steps speeds walkers paces bands carried sided st wk pc wd acts aP aS l h p a b c) {x1 x2 : Int} (hx1 : r32 x1) (hx2 : r32 x2) (u1 u2 u3 u4 v1 v2 : Int) (sp : Int → Int) : Eq1 (m_X8_miss F x1 x2 parts walkers paces speeds steps u1 u2 u3 u4) (m_X9_miss F x1 x2 v1 v2 c h a p sp) := by
  obtain ⟨-, -, ⟨e1, p0, p4⟩, ⟨e2, w0, w8⟩, -, -, -, hq, hw, -⟩ := id L
  obtain ⟨s', e, hs⟩ := isTrain_spec hF L hx1 hx2 sp
  unfold m_X8_miss m_X9_miss
  rw [hasWalker_spec hx1 ⟨w0, w8⟩, bnd1_s, ifB, chk_pos hx2, isOut_spec (by omega) (by decide) (by decide), bnd1_s, ifB, e, bnd2_s, ifB]
  by_cases h1 : 0 ≤ x1 ∧ x1 < walkers
  · by_cases h2 : 0 ≤ x2 ∧ x2 ≤ 600
    · have hp := hw x1 h1.1 h1.2
      have cr := crossesR hF L (pace := paces x1) (by omega)
      have go := goesR hF L (hs ⟨h1, h2⟩) (pace := paces x1) (by omega)
      rw [if_pos h1, if_neg (fun z => z h2), if_pos ⟨h1, h2⟩, chk_pos (by omega), chk_pos (by omega), hp.1]
      cases hT : TM steps speeds parts (paces x1) with
      | none =>
        rw [hT] at cr go
        obtain ⟨A, B, cr⟩ := cr
        obtain ⟨A', B', go⟩ := go
        rw [cr, go, bnd3_s, bnd3_s, if_pos rfl, if_pos rfl]
        exact Eq1.mk
      | some q =>
        obtain ⟨hb, hq0, -⟩ := TM_nq L (by omega) hT
        obtain ⟨⟨n0, n1⟩, d0, d1⟩ := hb.four hq0 (by omega)
        have hb2 : Bt 600 0 1 parts.toNat q := Bd.mono hb (by exact Nat.mul_le_mul_right _ (Nat.add_le_add_left (Nat.mul_le_mul_right _ (Nat.mul_le_mul_right _ (by decide))) _)) (Nat.le_refl _)
        have hcap : Cap 600 0 1 (parts.toNat + 1) := Cap.le (J := 5) ⟨by decide, by decide⟩ (by omega)
        have hadd := Bt.add (F := F) hF hb2 (a := -x2) (b := 1) (by omega) (by decide) hcap
        rw [(sub_whole (q := q) (n := x2)).1, (sub_whole (q := q) (n := x2)).2] at hadd
        have m2 := mul_in (x := x2) (y := (q.den : Int)) (M := 600) (N := 65610000) h2 (by omega)
        rw [hT] at cr go
        simp only [Res] at cr go
        rw [cr, go, bnd3_s, bnd3_s, if_neg one0, if_neg one0]
        unfold m_X1_take
        simp only [nam]
        rw [bnd2_s, chk_pos (by omega), hadd, bnd2_s, wholeOf_spec (by omega) (by omega) d0, bnd1_s, chk_pos hx2, show -60 * (q.num - x2 * (q.den : Int)) = -((q.num - x2 * (q.den : Int)) * 60) by omega, ceil_flip d0]
        generalize hX : (q.num - x2 * (q.den : Int)) * 60 = X
        have hXr : -1000000000000000 ≤ X ∧ X ≤ 1000000000000000 := by omega
        rw [ifJ_lt (by decide) (by omega)]
        by_cases h3 : 0 < X
        · have hY : 1 ≤ (X + (q.den : Int) - 1) / (q.den : Int) := (Int.le_ediv_iff_mul_le d0).mpr (by omega)
          have hY2 : (X + (q.den : Int) - 1) / (q.den : Int) ≤ X + (q.den : Int) - 1 := Int.ediv_le_self _ (by omega)
          rw [if_pos h3, max64 (by decide) (by omega), bnd1_s, if_pos (by omega), chk_pos (by omega), Int.tdiv_eq_ediv_of_nonneg (by omega)]
          exact Eq1.mk
        · have hY : (X + (q.den : Int) - 1) / (q.den : Int) ≤ 0 := by
            have := Int.ediv_lt_of_lt_mul d0 (show X + (q.den : Int) - 1 < 1 * (q.den : Int) by omega)
            omega
          have hY2 : -1000000000000000 ≤ (X + (q.den : Int) - 1) / (q.den : Int) := (Int.le_ediv_iff_mul_le d0).mpr (by
            have := Int.mul_le_mul_of_nonneg_left (show 1 ≤ (q.den : Int) by omega) (show (0 : Int) ≤ 1000000000000000 by decide)
            omega)
          rw [if_neg h3, max64 (by decide) (by omega), bnd1_s, if_neg (by omega)]
          exact Eq1.mk
    · rw [if_pos h1, if_pos h2, if_neg (fun z => h2 z.2)]
      exact Eq1.mk
  · rw [if_neg h1, if_neg (fun z => h1 z.1)]
    exact Eq1.mk
end OPS5
