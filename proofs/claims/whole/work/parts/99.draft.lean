section OPS2
variable {lines odds parts walkers bands sided st wk pc wd acts : Int} {steps speeds paces carried aP aS l h p a b c : Int → Int} {F : Nat}
theorem keeps_spec {x1 la lb lo : Int} {q : Rat} (hq : Nq q) (hlo : r32 lo) (hl : lo ≠ -1 → ∃ t : Rat, Nq t ∧ la = t.num ∧ lb = (t.den : Int)) : ∃ la' lb' lo', m_X9_keeps F x1 q.num q.den la lb lo = some (la', lb', lo') ∧ ((lo = -1 ∧ la' = q.num ∧ lb' = (q.den : Int) ∧ lo' = x1) ∨ (∃ t : Rat, lo ≠ -1 ∧ la = t.num ∧ lb = (t.den : Int) ∧ ((q < t ∧ la' = q.num ∧ lb' = (q.den : Int) ∧ lo' = x1) ∨ (¬ q < t ∧ la' = la ∧ lb' = lb ∧ lo' = lo)))) := by
  unfold m_X9_keeps mb_X9_keeps_31
  rw [ifI_eq hlo (by decide)]
  by_cases h1 : lo = -1
  · rw [if_pos h1]
    exact ⟨_, _, _, rfl, Or.inl ⟨h1, rfl, rfl, rfl⟩⟩
  · rw [if_neg h1]
    obtain ⟨t, ht, rfl, rfl⟩ := hl h1
    rw [isLessQ hq ht, bnd1_s, ifB]
    by_cases h2 : q < t
    · rw [if_pos h2]
      exact ⟨_, _, _, rfl, Or.inr ⟨t, h1, rfl, rfl, Or.inl ⟨h2, rfl, rfl, rfl⟩⟩⟩
    · rw [if_neg h2]
      exact ⟨_, _, _, rfl, Or.inr ⟨t, h1, rfl, rfl, Or.inr ⟨h2, rfl, rfl, rfl⟩⟩⟩
theorem num_den_inj {q t : Rat} (h1 : q.num = t.num) (h2 : (q.den : Int) = (t.den : Int)) : q = t := Rat.ext h1 (by omega)
/-- what the two sides hold of the best so far -/
def BestR (w la lb lo ba bb : Int) : Prop := lo = w ∧ r32 w ∧ (w ≠ -1 → ∃ t : Rat, Nq t ∧ la = t.num ∧ lb = (t.den : Int) ∧ ba = t.num ∧ bb = (t.den : Int))
/-- first -/
theorem op_first (hF : 1000 ≤ F) (L : LayN lines odds parts steps speeds walkers paces bands carried sided st wk pc wd acts aP aS l h p a b c) (u1 u2 u3 u4 v1 v2 v3 v4 v5 : Int) (sp : Int → Int) : Eq1 (m_X8_first F lines parts walkers paces speeds steps u1 u2 u3 u4) (m_X9_first F v1 v2 v3 v4 v5 c h l a p sp) := by
  obtain ⟨⟨e0, l0, l1⟩, -, -, ⟨e2, w0, w8⟩, -, -, -, -, hw, -⟩ := id L
  unfold m_X8_first m_X9_first
  rw [isThere_spec (by omega), bnd1_s, ifB, isStair_spec (by omega), bnd1_s, ifB, e0]
  by_cases h1 : 0 < lines
  · obtain ⟨s', e, hs⟩ := lays_spec hF L sp
    rw [if_pos h1, if_pos h1, e, bnd1_s]
    unfold ml_X8_first_17 ml_X9_first_26
    refine loopN_rel (I := fun s t => s.2.1 = t.1 ∧ 0 ≤ s.2.1 ∧ s.2.1 ≤ walkers ∧ BestR s.1 t.2.2.2.1 t.2.2.2.2.1 t.2.2.2.2.2 s.2.2.1 s.2.2.2.1) (μ := fun s => (walkers - s.2.1).toNat) (P := Eq1) ?_ F _ _ ?_ ?_
    · rintro k1 k2 ⟨w, x, ba, bb, sa, sb⟩ ⟨x', ra, rb, la, lb, lo⟩ ⟨hxx, hx0, hx1, hlo, hwr, hb⟩ ih
      simp only at hxx hx0 hx1 hlo hwr hb ih ⊢
      subst hxx; subst hlo
      unfold mb_X8_first_17 mb_X9_first_26
      rw [e2, ifI_le (by omega) (by omega), ifI_le (by omega) (by omega)]
      by_cases hx : walkers ≤ x
      · rw [if_pos hx, if_pos hx]
        exact Eq1.mk
      · have hp := hw x hx0 (by omega)
        have cr := crossesR hF L (pace := paces x) (by omega)
        have go := goesR hF L hs (pace := paces x) (by omega)
        rw [if_neg hx, if_neg hx, chk_pos (by omega), chk_pos (by omega), hp.1]
        cases hT : TM steps speeds parts (paces x) with
        | none =>
          rw [hT] at cr go
          obtain ⟨A, B, cr⟩ := cr
          obtain ⟨A', B', go⟩ := go
          rw [cr, go, bnd3_s, bnd3_s, if_pos rfl, if_pos rfl]
          simp only [mb_X8_first_96, mb_X9_first_55]
          exact ih _ _ ⟨rfl, by simp only; omega, by simp only; omega, rfl, hwr, hb⟩ (by simp only; omega)
        | some q =>
          obtain ⟨-, -, hq⟩ := TM_nq L (by omega) hT
          rw [hT] at cr go
          simp only [Res] at cr go
          rw [cr, go, bnd3_s, bnd3_s, if_neg (by decide), if_neg (by decide)]
          obtain ⟨la', lb', lo', hk, hcase⟩ := keeps_spec (F := F) (x1 := x) (la := la) (lb := lb) (lo := w) hq hwr (fun z => by obtain ⟨t, ht, a1, a2, -⟩ := hb z; exact ⟨t, ht, a1, a2⟩)
          rw [hk, bnd3_s, ifI_eq hwr (by decide)]
          simp only [mb_X8_first_77, mb_X8_first_96, mb_X9_first_55, m_X1_take, bnd2_s]
          rcases hcase with ⟨g1, g2, g3, g4⟩ | ⟨t, g1, g2, g3, g4⟩
          · subst g2; subst g3; subst g4
            rw [if_pos g1]
            exact ih _ _ ⟨rfl, by simp only; omega, by simp only; omega, rfl, by simp only; omega, fun _ => ⟨q, hq, rfl, rfl, rfl, rfl⟩⟩ (by simp only; omega)
          · obtain ⟨t', ht', a1, a2, a3, a4⟩ := hb g1
            have : t' = t := num_den_inj (by rw [← a1, g2]) (by rw [← a2, g3])
            subst this
            rw [if_neg g1, a3, a4, againstQ hF hq ht', bnd1_s]
            rcases g4 with ⟨g4, g5, g6, g7⟩ | ⟨g4, g5, g6, g7⟩
            · subst g5; subst g6; subst g7
              rw [if_pos g4, if_neg (by decide)]
              exact ih _ _ ⟨rfl, by simp only; omega, by simp only; omega, rfl, by simp only; omega, fun _ => ⟨q, hq, rfl, rfl, rfl, rfl⟩⟩ (by simp only; omega)
            · subst g5; subst g6; subst g7
              rw [if_neg g4]
              have hc : wI 0 ≤ wI (if q = t' then 0 else 1) := by
                by_cases hqt : q = t'
                · rw [if_pos hqt]
                  decide
                · rw [if_neg hqt]
                  decide
              rw [if_pos hc]
              exact ih _ _ ⟨rfl, by simp only; omega, by simp only; omega, rfl, hwr, fun _ => ⟨t', ht', a1, a2, rfl, rfl⟩⟩ (by simp only; omega)
    · exact ⟨rfl, by simp only; omega, by simp only; omega, rfl, by simp only; decide, fun z => absurd rfl z⟩
    · simp only
      omega
  · rw [if_neg h1, if_neg h1]
    exact Eq1.mk
end OPS2
