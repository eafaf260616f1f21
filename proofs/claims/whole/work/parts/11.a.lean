/-! HOW THE TWO STATES STAND TO EACH OTHER -/
def bI (c : Prop) [Decidable c] : Int := if c then 1 else 0
theorem bI_eq0 {c : Prop} [Decidable c] : (wI (bI c) = wI 0) = ¬ c := by
  unfold bI
  apply propext
  by_cases h : c
  · simp only [h, if_true, not_true_eq_false, iff_false]
    decide
  · simp only [h, if_false, not_false_eq_true]
theorem ifB {ρ : Type} {c : Prop} [Decidable c] {X Y : Option ρ} : (if wI (bI c) = wI 0 then X else Y) = (if c then Y else X) := by
  simp only [bI_eq0]
  by_cases h : c
  · rw [if_neg (fun q => q h), if_pos h]
  · rw [if_pos h, if_neg h]
theorem bI_01 {c : Prop} [Decidable c] : bI c = 0 ∨ bI c = 1 := by
  unfold bI
  split <;> simp
theorem bI_t {c : Prop} [Decidable c] (h : c) : bI c = 1 := if_pos h
theorem bI_f {c : Prop} [Decidable c] (h : ¬ c) : bI c = 0 := if_neg h
theorem bI_congr {c d : Prop} [Decidable c] [Decidable d] (h : c ↔ d) : bI c = bI d := by
  unfold bI
  by_cases hc : c
  · rw [if_pos hc, if_pos (h.mp hc)]
  · rw [if_neg hc, if_neg (fun q => hc (h.mpr q))]
theorem in_spec {F : Nat} {x lo hi : Int} (hx : r64 x) (hl : r64 lo) (hh : r64 hi) : m_X9_in F x lo hi = some (bI (lo ≤ x ∧ x ≤ hi)) := by
  unfold m_X9_in bI
  rw [ifJ_lt (by omega) (by omega), ifJ_lt (by omega) (by omega)]
  by_cases h1 : x < lo
  · rw [if_pos h1, if_neg (by omega)]
  · by_cases h2 : hi < x
    · rw [if_neg h1, if_pos h2, if_neg (by omega)]
    · rw [if_neg h1, if_neg h2, if_pos (by omega)]
theorem isOut_spec {F : Nat} {x lo hi : Int} (hx : r64 x) (hl : r64 lo) (hh : r64 hi) : m_X8_isOut F x lo hi = some (bI (¬ (lo ≤ x ∧ x ≤ hi))) := by
  unfold m_X8_isOut bI
  rw [ifJ_lt (by omega) (by omega), ifJ_le (by omega) (by omega)]
  by_cases h1 : x < lo
  · rw [if_pos h1, if_pos (by omega)]
  · by_cases h2 : x ≤ hi
    · rw [if_neg h1, if_pos h2, if_neg (by omega)]
    · rw [if_neg h1, if_neg h2, if_pos (by omega)]
theorem isSlot9_spec {F : Nat} {x : Int} (hx : r32 x) : m_X9_isSlot F x = some (bI (0 ≤ x ∧ x ≤ 3)) := by
  unfold m_X9_isSlot
  rw [chk_pos hx, in_spec (by omega) (by decide) (by decide), bnd1_s, chk_pos bI_01]
theorem isHalf_spec {F : Nat} {x : Int} (hx : r32 x) : m_X9_isHalf F x = some (bI (0 ≤ x ∧ x ≤ 1)) := by
  unfold m_X9_isHalf
  rw [chk_pos hx, in_spec (by omega) (by decide) (by decide), bnd1_s, chk_pos bI_01]
theorem isPart_spec {F : Nat} {x : Int} {h : Int → Int} (hx : r32 x) (hp : 0 ≤ h 1 ∧ h 1 ≤ 4) : m_X9_isPart F x h = some (bI (0 ≤ x ∧ x < h 1)) := by
  unfold m_X9_isPart
  rw [chk_pos hx, chk_pos (by omega), in_spec (by omega) (by decide) (by omega), bnd1_s, chk_pos bI_01]
  exact congrArg some (bI_congr (by omega))
theorem isWalker_spec {F : Nat} {x : Int} {h : Int → Int} (hx : r32 x) (hp : 0 ≤ h 2 ∧ h 2 ≤ 8) : m_X9_isWalker F x h = some (bI (0 ≤ x ∧ x < h 2)) := by
  unfold m_X9_isWalker
  rw [chk_pos hx, chk_pos (by omega), in_spec (by omega) (by decide) (by omega), bnd1_s, chk_pos bI_01]
  exact congrArg some (bI_congr (by omega))
theorem hasPart_spec {F : Nat} {x n : Int} (hx : r32 x) (hp : 0 ≤ n ∧ n ≤ 4) : m_X2_hasPart F x n = some (bI (0 ≤ x ∧ x < n)) := by
  unfold m_X2_hasPart bI
  rw [ifI_lt (by omega) (by decide), ifI_le (by omega) (by omega)]
  by_cases h1 : x < 0
  · rw [if_pos h1, if_neg (by omega)]
  · by_cases h2 : n ≤ x
    · rw [if_neg h1, if_pos h2, if_neg (by omega)]
    · rw [if_neg h1, if_neg h2, if_pos (by omega)]
theorem hasWalker_spec {F : Nat} {x n : Int} (hx : r32 x) (hp : 0 ≤ n ∧ n ≤ 8) : m_X2_hasWalker F x n = some (bI (0 ≤ x ∧ x < n)) := by
  unfold m_X2_hasWalker bI
  rw [ifI_lt (by omega) (by decide), ifI_le (by omega) (by omega)]
  by_cases h1 : x < 0
  · rw [if_pos h1, if_neg (by omega)]
  · by_cases h2 : n ≤ x
    · rw [if_neg h1, if_pos h2, if_neg (by omega)]
    · rw [if_neg h1, if_neg h2, if_pos (by omega)]
theorem isSide_spec {F : Nat} {x : Int} (hx : r32 x) : m_X8_isSide F x = some (bI (0 ≤ x ∧ x ≤ 1)) := by
  unfold m_X8_isSide bI
  rw [ifI_eq (by omega) (by decide), ifI_eq (by omega) (by decide)]
  by_cases h1 : x = 0
  · rw [if_pos h1, if_pos (by omega)]
  · by_cases h2 : x = 1
    · rw [if_neg h1, if_pos h2, if_pos (by omega)]
    · rw [if_neg h1, if_neg h2, if_neg (by omega)]
theorem isSlot8_spec {F : Nat} {x : Int} (hx : r32 x) : m_X8_isSlot F x = some (bI (0 ≤ x ∧ x ≤ 3)) := by
  unfold m_X8_isSlot
  rw [chk_pos hx, isOut_spec (by omega) (by decide) (by decide), bnd1_s, ifB]
  unfold bI
  by_cases h : 0 ≤ x ∧ x ≤ 3
  · rw [if_neg (by omega), if_pos h]
  · rw [if_pos (by omega), if_neg h]
/-- the speeds behind the first k acts -/
def rep (p c : Int → Int) : Nat → Int → Int
  | 0, i => p (2 * i + 1)
  | k + 1, i => if c (2 * (k : Int)) = -1 then -(rep p c k i) else if i = c (2 * (k : Int)) then c (2 * (k : Int) + 1) else rep p c k i
/-- the component's layout beside a region of the reference -/
def Lay (lines odds parts : Int) (steps speeds : Int → Int) (walkers : Int) (paces : Int → Int) (bands : Int) (carried : Int → Int) (sided st wk pc wd acts : Int) (aP aS : Int → Int) (l : Int) (h p a b c : Int → Int) : Prop :=
  (l = lines ∧ 0 ≤ lines ∧ lines ≤ 1000) ∧ (h 0 = odds ∧ 0 ≤ odds ∧ odds ≤ 100) ∧ (h 1 = parts ∧ 0 ≤ parts ∧ parts ≤ 4) ∧ (h 2 = walkers ∧ 0 ≤ walkers ∧ walkers ≤ 8) ∧ (h 3 = bands ∧ 0 ≤ bands ∧ bands ≤ 4) ∧ (h 8 = acts ∧ 0 ≤ acts ∧ acts ≤ 60) ∧
  ((sided = 0 ∧ h 4 = 0) ∨ (sided = 1 ∧ h 4 = st ∧ h 5 = wk ∧ h 6 = pc ∧ h 7 = wd ∧ (1 ≤ st ∧ st ≤ 9) ∧ (1 ≤ wk ∧ wk ≤ 9) ∧ (1 ≤ pc ∧ pc ≤ 30) ∧ (0 ≤ wd ∧ wd ≤ 100))) ∧
  (∀ i, 0 ≤ i → i < parts → p (2 * i) = steps i ∧ 1 ≤ steps i ∧ steps i ≤ 200 ∧ -30 ≤ p (2 * i + 1) ∧ p (2 * i + 1) ≤ 30) ∧
  (∀ i, 0 ≤ i → i < walkers → a i = paces i ∧ 0 ≤ paces i ∧ paces i ≤ 30) ∧
  (∀ i, 0 ≤ i → i < bands → b i = carried i ∧ 1 ≤ carried i ∧ carried i ≤ 9999) ∧
  (∀ k : Nat, (k : Int) < acts → aP k = c (2 * (k : Int)) ∧ (c (2 * (k : Int)) = -1 ∨ (0 ≤ c (2 * (k : Int)) ∧ c (2 * (k : Int)) < parts ∧ -30 ≤ c (2 * (k : Int) + 1) ∧ c (2 * (k : Int) + 1) ≤ 30 ∧ aS k = rep p c k (c (2 * (k : Int)))))) ∧
  (∀ i, 0 ≤ i → i < parts → speeds i = rep p c acts.toNat i)
section LAY
variable {lines odds parts walkers bands sided st wk pc wd acts l : Int} {steps speeds paces carried aP aS h p a b c : Int → Int} {F : Nat}
theorem Lay.rep_in (L : Lay lines odds parts steps speeds walkers paces bands carried sided st wk pc wd acts aP aS l h p a b c) : ∀ k : Nat, (k : Int) ≤ acts → ∀ i, 0 ≤ i → i < parts → -30 ≤ rep p c k i ∧ rep p c k i ≤ 30 := by
  obtain ⟨-, -, -, -, -, -, -, hp, -, -, hc, -⟩ := L
  intro k
  induction k with
  | zero =>
    intro _ i h0 h1
    have := hp i h0 h1
    exact ⟨this.2.2.2.1, this.2.2.2.2⟩
  | succ k ih =>
    intro hk i h0 h1
    have h2 := ih (by omega) i h0 h1
    have h3 := (hc k (by omega)).2
    show -30 ≤ (if c (2 * (k : Int)) = -1 then -(rep p c k i) else if i = c (2 * (k : Int)) then c (2 * (k : Int) + 1) else rep p c k i) ∧ (if c (2 * (k : Int)) = -1 then -(rep p c k i) else if i = c (2 * (k : Int)) then c (2 * (k : Int) + 1) else rep p c k i) ≤ 30
    by_cases h4 : c (2 * (k : Int)) = -1
    · rw [if_pos h4]
      omega
    · rw [if_neg h4]
      split <;> omega
theorem Lay.speeds_in (L : Lay lines odds parts steps speeds walkers paces bands carried sided st wk pc wd acts aP aS l h p a b c) {i : Int} (h0 : 0 ≤ i) (h1 : i < parts) : -30 ≤ speeds i ∧ speeds i ≤ 30 := by
  have h2 := L.rep_in acts.toNat (by obtain ⟨-, -, -, -, -, ⟨-, q, -⟩, -⟩ := L; omega) i h0 h1
  obtain ⟨-, -, -, -, -, -, -, -, -, -, -, hs⟩ := L
  rw [hs i h0 h1]
  exact h2
/-- the reference turns all speeds round -/
theorem lays_neg (hn : 0 ≤ h 1 ∧ h 1 ≤ 4) (hF : 1000 ≤ F) {k36 : Int → (Int → Int) → Option ((Int → Int))} {x : Int} {sp : Int → Int} : ∃ s', ml_X9_lays_87 F k36 x 0 c h sp = k36 (x + 1) s' ∧ ∀ i, 0 ≤ i → i < h 1 → s' i = -(sp i) := by
  unfold ml_X9_lays_87
  refine loopN_rec (I := fun q : Int × (Int → Int) => 0 ≤ q.1 ∧ q.1 ≤ h 1 ∧ ∀ i, 0 ≤ i → i < h 1 → q.2 i = if i < q.1 then -(sp i) else sp i) (μ := fun q => (h 1 - q.1).toNat) (P := fun q x' => ∃ s' : Int → Int, x' = k36 (x + 1) s' ∧ ∀ i, 0 ≤ i → i < h 1 → s' i = -(sp i)) ?_ F (0, sp) ?_ ?_
  · rintro k ⟨i, s⟩ ⟨h0, h1, h2⟩ ih
    simp only at h0 h1 h2 ih ⊢
    unfold mb_X9_lays_87
    rw [ifI_le (by omega) (by omega)]
    by_cases hi : h 1 ≤ i
    · rw [if_pos hi]
      unfold mb_X9_lays_116
      refine ⟨s, rfl, fun j hj0 hj1 => ?_⟩
      rw [h2 j hj0 hj1, if_pos (by omega)]
    · rw [if_neg hi, chk_pos (by omega)]
      simp only [nam]
      rw [chk_pos (by omega)]
      refine ih (i + 1, up s i (-(s i))) ⟨by simp only; omega, by simp only; omega, fun j hj0 hj1 => ?_⟩ (by simp only; omega)
      simp only [up]
      by_cases e : j = i
      · subst e
        have := h2 j hj0 hj1
        rw [if_neg (by omega)] at this
        rw [if_pos rfl, if_pos (by omega), this]
      · rw [if_neg e, h2 j hj0 hj1]
        by_cases e2 : j < i
        · rw [if_pos e2, if_pos (by omega)]
        · rw [if_neg e2, if_neg (by omega)]
  · exact ⟨by simp only; omega, by simp only; omega, fun i h0 h1 => by simp only; rw [if_neg (by omega)]⟩
  · show (h 1 - 0).toNat < F
    omega
theorem lays_acts (hF : 1000 ≤ F) (L : Lay lines odds parts steps speeds walkers paces bands carried sided st wk pc wd acts aP aS l h p a b c) {sp : Int → Int} (hsp : ∀ i, 0 ≤ i → i < parts → sp i = rep p c 0 i) : ∃ s', ml_X9_lays_36 F 0 c h sp = some s' ∧ ∀ i, 0 ≤ i → i < parts → s' i = speeds i := by
  obtain ⟨-, -, ⟨e1, p0, p4⟩, -, -, ⟨e8, a0, a60⟩, -, hp, -, -, hc, hs⟩ := id L
  unfold ml_X9_lays_36
  refine loopN_rec (I := fun q : Int × (Int → Int) => 0 ≤ q.1 ∧ q.1 ≤ acts ∧ ∀ i, 0 ≤ i → i < parts → q.2 i = rep p c q.1.toNat i) (μ := fun q => (acts - q.1).toNat) (P := fun q x' => ∃ s' : Int → Int, x' = some s' ∧ ∀ i, 0 ≤ i → i < parts → s' i = speeds i) ?_ F (0, sp) ?_ ?_
  · rintro k ⟨x, s⟩ ⟨h0, h1, h2⟩ ih
    simp only at h0 h1 h2 ih ⊢
    unfold mb_X9_lays_36
    rw [e8, ifI_le (by omega) (by omega)]
    by_cases hx : acts ≤ x
    · rw [if_pos hx]
      refine ⟨s, rfl, fun i hi0 hi1 => ?_⟩
      rw [h2 i hi0 hi1, hs i hi0 hi1, show x = acts by omega]
    · rw [if_neg hx, chk_pos (by omega)]
      obtain ⟨j, rfl⟩ : ∃ j : Nat, x = (j : Int) := ⟨x.toNat, by omega⟩
      have hcj := (hc j (by omega)).2
      rw [Int.toNat_natCast] at h2
      have hrep : ∀ i, rep p c (j + 1) i = if c (2 * (j : Int)) = -1 then -(rep p c j i) else if i = c (2 * (j : Int)) then c (2 * (j : Int) + 1) else rep p c j i := fun i => rfl
      rw [ifI_eq (by omega) (by decide)]
      by_cases hm : c (2 * (j : Int)) = -1
      · rw [if_pos hm]
        obtain ⟨s', hs', hs2⟩ := lays_neg (F := F) (c := c) (h := h) (by omega) hF (k36 := fun y0 y1 => k (y0, y1)) (x := (j : Int)) (sp := s)
        rw [hs']
        refine ih ((j : Int) + 1, s') ⟨by simp only; omega, by simp only; omega, fun i hi0 hi1 => ?_⟩ (by simp only; omega)
        simp only
        rw [show ((j : Int) + 1).toNat = j + 1 by omega, hrep, if_pos hm, hs2 i hi0 (by omega), h2 i hi0 hi1]
      · rw [if_neg hm, chk_pos (by omega), chk_pos (by omega)]
        simp only [nam]
        rw [chk_pos (by omega)]
        unfold mb_X9_lays_116
        refine ih ((j : Int) + 1, up s (c (2 * (j : Int))) (c (2 * (j : Int) + 1))) ⟨by simp only; omega, by simp only; omega, fun i hi0 hi1 => ?_⟩ (by simp only; omega)
        simp only [up]
        rw [show ((j : Int) + 1).toNat = j + 1 by omega, hrep, if_neg hm]
        by_cases e : i = c (2 * (j : Int))
        · rw [if_pos e, if_pos e]
        · rw [if_neg e, if_neg e, h2 i hi0 hi1]
  · exact ⟨by simp only; omega, by simp only; omega, fun i h0 h1 => hsp i h0 h1⟩
  · show (acts - 0).toNat < F
    omega
/-- lays(): the reference's speeds are the component's -/
theorem lays_spec (hF : 1000 ≤ F) (L : Lay lines odds parts steps speeds walkers paces bands carried sided st wk pc wd acts aP aS l h p a b c) (sp : Int → Int) : ∃ s', m_X9_lays F c h p sp = some s' ∧ ∀ i, 0 ≤ i → i < parts → s' i = speeds i := by
  obtain ⟨-, -, ⟨e1, p0, p4⟩, -, -, -, -, hp, -⟩ := id L
  unfold m_X9_lays ml_X9_lays_2
  refine loopN_rec (I := fun q : Int × (Int → Int) => 0 ≤ q.1 ∧ q.1 ≤ parts ∧ ∀ i, 0 ≤ i → i < q.1 → q.2 i = rep p c 0 i) (μ := fun q => (parts - q.1).toNat) (P := fun q x' => ∃ s' : Int → Int, x' = some s' ∧ ∀ i, 0 ≤ i → i < parts → s' i = speeds i) ?_ F (0, sp) ?_ ?_
  · rintro k ⟨x, s⟩ ⟨h0, h1, h2⟩ ih
    simp only at h0 h1 h2 ih ⊢
    unfold mb_X9_lays_2
    rw [e1, ifI_le (by omega) (by omega)]
    by_cases hx : parts ≤ x
    · rw [if_pos hx]
      exact lays_acts hF L (fun i hi0 hi1 => h2 i hi0 (by omega))
    · rw [if_neg hx, chk_pos (by omega)]
      simp only [nam]
      rw [chk_pos (by omega)]
      refine ih (x + 1, up s x (p (2 * x + 1))) ⟨by simp only; omega, by simp only; omega, fun i hi0 hi1 => ?_⟩ (by simp only; omega)
      simp only [up] at hi1 ⊢
      by_cases e : i = x
      · rw [if_pos e, e]
        rfl
      · rw [if_neg e]
        exact h2 i hi0 (by omega)
  · exact ⟨by simp only; omega, by simp only; omega, fun i h0 h1 => by simp only at h1; omega⟩
  · show (parts - 0).toNat < F
    omega
end LAY
/-! SUMS OF TIMES -/
def accT (st r : Int → Int) : Nat → Rat → Int → Rat
  | 0, q, _ => q
  | m + 1, q, x => accT st r m (q + Rat.divInt (st x) (r x)) (x + 1)
def okA (r : Int → Int) (x : Int) (m : Nat) : Prop := ∀ i, x ≤ i → i < x + m → 0 < r i
/-- bounds behind j sums of fractions with parts up to A and 90, begun at N / D -/
def Bt (A N D j : Nat) (q : Rat) : Prop := Bd q ((N + A * j * D) * 90 ^ j) (D * 90 ^ j)
def Cap (A N D J : Nat) : Prop := (N + A * J * D) * 90 ^ J ≤ 9223372036854775807 ∧ D * 90 ^ J ≤ 9223372036854775807
theorem Cap.le {A N D J j : Nat} (h : Cap A N D J) (hj : j ≤ J) : Cap A N D j := by
  have h1 : 90 ^ j ≤ 90 ^ J := Nat.pow_le_pow_right (by decide) hj
  have h2 : A * j * D ≤ A * J * D := Nat.mul_le_mul_right D (Nat.mul_le_mul_left A hj)
  exact ⟨Nat.le_trans (Nat.mul_le_mul (by omega) h1) h.1, Nat.le_trans (Nat.mul_le_mul_left D h1) h.2⟩
theorem Bt.start {A N D : Nat} {q : Rat} (h : Bd q N D) : Bt A N D 0 q := by
  unfold Bt
  rw [Nat.mul_zero, Nat.zero_mul, Nat.add_zero, Nat.pow_zero, Nat.mul_one, Nat.mul_one]
  exact h
theorem Bt_num {A N D j : Nat} : (N + A * j * D) * 90 ^ j * 90 + A * (D * 90 ^ j) ≤ (N + A * (j + 1) * D) * 90 ^ (j + 1) := by
  have e1 : (N + A * j * D) * 90 ^ j * 90 = (N + A * j * D) * 90 ^ (j + 1) := by rw [Nat.pow_succ, Nat.mul_assoc]
  have e2 : (N + A * (j + 1) * D) * 90 ^ (j + 1) = (N + A * j * D) * 90 ^ (j + 1) + A * D * 90 ^ (j + 1) := by
    rw [← Nat.add_mul]
    congr 1
    rw [Nat.mul_add, Nat.mul_one, Nat.add_mul]
    omega
  have e3 : A * (D * 90 ^ j) ≤ A * D * 90 ^ (j + 1) := by
    rw [← Nat.mul_assoc]
    exact Nat.mul_le_mul_left (A * D) (Nat.pow_le_pow_right (by decide) (by omega))
  omega
theorem Bt.step {A N D j : Nat} {q : Rat} {a b : Int} (h : Bt A N D j q) (ha : a.natAbs ≤ A) (hb : 0 < b ∧ b ≤ 90) : Bt A N D (j + 1) (q + Rat.divInt a b) := by
  have := Bd.add h ha (show b.natAbs ≤ 90 by omega) (by omega)
  exact this.mono Bt_num (by rw [Nat.pow_succ, Nat.mul_assoc]; exact Nat.le_refl _)
theorem Bt.adds {F A N D j : Nat} {q : Rat} {a b : Int} (h : Bt A N D j q) (ha : a.natAbs ≤ A) (hb : 0 < b ∧ b ≤ 90) (hc : Cap A N D (j + 1)) : m_X9_adds F a b q.num q.den = some ((q + Rat.divInt a b).num, ((q + Rat.divInt a b).den : Int)) := by
  have hp2 : D * 90 ^ j * 90 = D * 90 ^ (j + 1) := by rw [Nat.pow_succ, Nat.mul_assoc]
  have := hc.2
  exact adds_spec h ha (show b.natAbs ≤ 90 by omega) hb.1 (Nat.le_trans Bt_num hc.1) (by omega) (by omega) (by omega)
theorem Bt.add {F A N D j : Nat} (hF : 1000 ≤ F) {q : Rat} {a b : Int} (h : Bt A N D j q) (ha : a.natAbs ≤ A) (hb : 0 < b ∧ b ≤ 90) (hc : Cap A N D (j + 1)) : m_X1_add F a b q.num q.den = some ((q + Rat.divInt a b).num, ((q + Rat.divInt a b).den : Int)) := by
  have hp2 : D * 90 ^ j * 90 = D * 90 ^ (j + 1) := by rw [Nat.pow_succ, Nat.mul_assoc]
  have := hc.2
  exact add_spec hF h ha (show b.natAbs ≤ 90 by omega) (by omega) (Nat.le_trans Bt_num hc.1) (by omega)
theorem Cap8 : Cap 200 0 1 8 := ⟨by decide, by decide⟩
theorem accT_bt {A N D : Nat} {st r : Int → Int} : ∀ (m j : Nat) (q : Rat) (x : Int), Bt A N D j q → (∀ i, x ≤ i → i < x + m → (st i).natAbs ≤ A ∧ 0 < r i ∧ r i ≤ 90) → Bt A N D (j + m) (accT st r m q x)
  | 0, j, q, x, h, _ => h
  | m + 1, j, q, x, h, hr => by
    have h1 := hr x (by omega) (by omega)
    have h2 := accT_bt m (j + 1) (q + Rat.divInt (st x) (r x)) (x + 1) (h.step h1.1 ⟨h1.2.1, h1.2.2⟩) (fun i hi1 hi2 => hr i (by omega) (by omega))
    rw [show j + (m + 1) = j + 1 + m by omega]
    exact h2
theorem accT_add {st r : Int → Int} : ∀ (m : Nat) (q : Rat) (x : Int), accT st r m q x = q + accT st r m 0 x
  | 0, q, x => (Rat.add_zero q).symm
  | m + 1, q, x => by
    show accT st r m (q + Rat.divInt (st x) (r x)) (x + 1) = q + accT st r m (0 + Rat.divInt (st x) (r x)) (x + 1)
    rw [accT_add m (q + _), accT_add m (0 + _), Rat.zero_add, Rat.add_assoc]
theorem accT_congr {st r st' r' : Int → Int} : ∀ (m : Nat) (q : Rat) (x : Int), (∀ i, x ≤ i → i < x + m → st i = st' i ∧ r i = r' i) → accT st r m q x = accT st' r' m q x
  | 0, q, x, _ => rfl
  | m + 1, q, x, h => by
    show accT st r m (q + Rat.divInt (st x) (r x)) (x + 1) = accT st' r' m (q + Rat.divInt (st' x) (r' x)) (x + 1)
    rw [(h x (by omega) (by omega)).1, (h x (by omega) (by omega)).2, accT_congr m _ (x + 1) (fun i h1 h2 => h i (by omega) (by omega))]
theorem accT_split {st r : Int → Int} : ∀ (m n : Nat) (q : Rat) (x : Int), accT st r (m + n) q x = accT st r n (accT st r m q x) (x + m)
  | 0, n, q, x => by
    rw [Nat.zero_add]
    simp [accT]
  | m + 1, n, q, x => by
    rw [show m + 1 + n = m + n + 1 by omega]
    show accT st r (m + n) (q + Rat.divInt (st x) (r x)) (x + 1) = accT st r n (accT st r m (q + Rat.divInt (st x) (r x)) (x + 1)) (x + ((m + 1 : Nat) : Int))
    rw [accT_split m n _ (x + 1), show x + 1 + (m : Int) = x + ((m + 1 : Nat) : Int) by omega]
section GO
variable {F : Nat}
/-- the reference's way -/
theorem goes_spec (hF : 1000 ≤ F) {by_ way : Int} {h p sp : Int → Int} (hn : 0 ≤ h 1 ∧ h 1 ≤ 4) (hr : ∀ i, 0 ≤ i → i < h 1 → (1 ≤ p (2 * i) ∧ p (2 * i) ≤ 200) ∧ -90 ≤ by_ + way * sp i ∧ by_ + way * sp i ≤ 90) :
    (okA (fun i => by_ + way * sp i) 0 (h 1).toNat → m_X9_goes F by_ way h p sp = some (1, (accT (fun i => p (2 * i)) (fun i => by_ + way * sp i) (h 1).toNat 0 0).num, ((accT (fun i => p (2 * i)) (fun i => by_ + way * sp i) (h 1).toNat 0 0).den : Int))) ∧
    (¬ okA (fun i => by_ + way * sp i) 0 (h 1).toNat → ∃ A B, m_X9_goes F by_ way h p sp = some (0, A, B)) := by
  unfold m_X9_goes m_X9_zero
  rw [bnd2_s]
  unfold ml_X9_goes_6
  have main := loopN_rec (body := fun (k : Int × Int × Int → Option (Int × Int × Int)) q => mb_X9_goes_6 F (fun y0 y1 y2 => k (y0, y1, y2)) by_ way q.1 q.2.1 q.2.2 h p sp)
    (I := fun q : Int × Int × Int => 0 ≤ q.1 ∧ q.1 ≤ h 1 ∧ ∃ t : Rat, Bt 200 0 1 q.1.toNat t ∧ q.2.1 = t.num ∧ q.2.2 = (t.den : Int)) (μ := fun q => (h 1 - q.1).toNat)
    (P := fun q x => ∀ t : Rat, Bt 200 0 1 q.1.toNat t → q.2.1 = t.num → q.2.2 = (t.den : Int) → (okA (fun i => by_ + way * sp i) q.1 (h 1 - q.1).toNat → x = some (1, (accT (fun i => p (2 * i)) (fun i => by_ + way * sp i) (h 1 - q.1).toNat t q.1).num, ((accT (fun i => p (2 * i)) (fun i => by_ + way * sp i) (h 1 - q.1).toNat t q.1).den : Int))) ∧ (¬ okA (fun i => by_ + way * sp i) q.1 (h 1 - q.1).toNat → ∃ A B, x = some (0, A, B))) ?_ F (0, 0, 1) ?_ ?_
  · have := main 0 (Bt.start Bd.zero) rfl rfl
    simp only [Int.sub_zero] at this
    exact this
  · rintro k ⟨x, u, w⟩ ⟨h0, h1, -⟩ ih t hb hu hw
    simp only at h0 h1 ih hb hu hw ⊢
    subst hu; subst hw
    unfold mb_X9_goes_6
    rw [ifI_le (by omega) (by omega)]
    by_cases hx : h 1 ≤ x
    · rw [if_pos hx]
      have e : (h 1 - x).toNat = 0 := by omega
      rw [e]
      refine ⟨fun _ => rfl, fun hno => absurd (fun i h2 h3 => by omega) hno⟩
    · obtain ⟨⟨s1, s2⟩, r1, r2⟩ := hr x h0 (by omega)
      rw [if_neg hx, chk_pos (by omega)]
      simp only [nam]
      rw [ifI_lt (by decide) (by omega)]
      obtain ⟨m, hm⟩ : ∃ m : Nat, (h 1 - x).toNat = m + 1 := ⟨(h 1 - x).toNat - 1, by omega⟩
      have hm2 : (h 1 - (x + 1)).toNat = m := by omega
      by_cases hv : 0 < by_ + way * sp x
      · rw [if_pos hv]
        unfold m_X9_stepsOf
        rw [chk_pos (by omega), bnd1_s, chk_pos (by omega), chk_pos (by omega), Bt.adds hb (by omega) ⟨hv, r2⟩ (Cap8.le (by omega)), bnd2_s]
        have hb2 : Bt 200 0 1 (x + 1).toNat (t + Rat.divInt (p (2 * x)) (by_ + way * sp x)) := by
          rw [show (x + 1).toNat = x.toNat + 1 by omega]
          exact hb.step (by omega) ⟨hv, r2⟩
        have := ih (x + 1, (t + Rat.divInt (p (2 * x)) (by_ + way * sp x)).num, ((t + Rat.divInt (p (2 * x)) (by_ + way * sp x)).den : Int)) ⟨by simp only; omega, by simp only; omega, _, hb2, rfl, rfl⟩ (by simp only; omega) _ hb2 rfl rfl
        simp only at this
        rw [hm2] at this
        rw [hm]
        refine ⟨fun hok => this.1 (fun i h2 h3 => hok i (by omega) (by omega)), fun hno => this.2 (fun hok => hno (fun i h2 h3 => ?_))⟩
        by_cases e : i = x
        · rw [e]; exact hv
        · exact hok i (by omega) (by omega)
      · rw [if_neg hv]
        refine ⟨fun hok => absurd (hok x (by omega) (by omega)) hv, fun _ => ⟨_, _, rfl⟩⟩
  · exact ⟨by simp only; omega, by simp only; omega, 0, Bt.start Bd.zero, rfl, rfl⟩
  · show (h 1 - 0).toNat < F
    omega
/-- is a PART still that day -/
def bitI (b i : Int) : Prop := wI (andI (shrI b i) 1) = wI 1
def rtS (still pace : Int) (sp : Int → Int) (i : Int) : Int := pace + (if wI (andI (shrI still i) 1) = wI 1 then 0 else sp i)
/-- the component's way from one PART's start to another's -/
theorem addTimes_spec (hF : 1000 ≤ F) {pace still from_ to parts : Int} {sp stp : Int → Int} {A N D j : Nat} {q : Rat} (hp : 0 ≤ parts ∧ parts ≤ 4) (hf : 0 ≤ from_ ∧ from_ ≤ 5) (ht : 0 ≤ to ∧ to ≤ parts) (hr : ∀ i, 0 ≤ i → i < parts → ((stp i).natAbs ≤ A ∧ r32 (stp i)) ∧ -90 ≤ rtS still pace sp i ∧ rtS still pace sp i ≤ 90) (hq : Bt A N D j q) (hc : Cap A N D (j + (to - from_).toNat)) :
    (okA (rtS still pace sp) from_ (to - from_).toNat → m_X6_addTimes F pace still from_ to parts sp stp q.num q.den = some (1, (accT stp (rtS still pace sp) (to - from_).toNat q from_).num, ((accT stp (rtS still pace sp) (to - from_).toNat q from_).den : Int))) ∧
    (¬ okA (rtS still pace sp) from_ (to - from_).toNat → ∃ A B, m_X6_addTimes F pace still from_ to parts sp stp q.num q.den = some (0, A, B)) := by
  unfold m_X6_addTimes ml_X6_addTimes_4
  have main := loopN_rec (body := fun (k : Int × Int × Int → Option (Int × Int × Int)) q => mb_X6_addTimes_4 F (fun y0 y1 y2 => k (y0, y1, y2)) pace still to q.1 parts sp stp q.2.1 q.2.2)
    (I := fun q : Int × Int × Int => 0 ≤ q.1 ∧ q.1 ≤ 5 ∧ ∃ (t : Rat) (i : Nat), Bt A N D i t ∧ i + (to - q.1).toNat ≤ j + (to - from_).toNat ∧ q.2.1 = t.num ∧ q.2.2 = (t.den : Int)) (μ := fun q => (to - q.1).toNat)
    (P := fun q x => ∀ (t : Rat) (i : Nat), Bt A N D i t → i + (to - q.1).toNat ≤ j + (to - from_).toNat → q.2.1 = t.num → q.2.2 = (t.den : Int) → (okA (rtS still pace sp) q.1 (to - q.1).toNat → x = some (1, (accT stp (rtS still pace sp) (to - q.1).toNat t q.1).num, ((accT stp (rtS still pace sp) (to - q.1).toNat t q.1).den : Int))) ∧ (¬ okA (rtS still pace sp) q.1 (to - q.1).toNat → ∃ A B, x = some (0, A, B))) ?_ F (from_, q.num, (q.den : Int)) ?_ ?_
  · exact main q j hq (Nat.le_refl _) rfl rfl
  · rintro k ⟨x, u, w⟩ ⟨h0, h1, -⟩ ih t i hb hi hu hw
    simp only at h0 h1 ih hb hi hu hw ⊢
    subst hu; subst hw
    unfold mb_X6_addTimes_4
    rw [ifI_le (by omega) (by omega), ifI_le (by omega) (by omega)]
    by_cases hx : to ≤ x
    · rw [if_pos hx]
      have e : (to - x).toNat = 0 := by omega
      rw [e]
      refine ⟨fun _ => rfl, fun hno => absurd (fun i h2 h3 => by omega) hno⟩
    · obtain ⟨⟨s1, s2⟩, r1, r2⟩ := hr x h0 (by omega)
      obtain ⟨m, hm⟩ : ∃ m : Nat, (to - x).toNat = m + 1 := ⟨(to - x).toNat - 1, by omega⟩
      have hm2 : (to - (x + 1)).toNat = m := by omega
      have tail : ∀ s : Int, pace + s = rtS still pace sp x → (okA (rtS still pace sp) x (to - x).toNat → mb_X6_addTimes_42 F (fun y0 y1 y2 => k (y0, y1, y2)) pace still to x pace s parts sp stp t.num t.den = some (1, (accT stp (rtS still pace sp) (to - x).toNat t x).num, ((accT stp (rtS still pace sp) (to - x).toNat t x).den : Int))) ∧ (¬ okA (rtS still pace sp) x (to - x).toNat → ∃ A B, mb_X6_addTimes_42 F (fun y0 y1 y2 => k (y0, y1, y2)) pace still to x pace s parts sp stp t.num t.den = some (0, A, B)) := by
        intro s hs
        unfold mb_X6_addTimes_42
        simp only [nam]
        rw [hs, ifI_lt (by decide) (by omega)]
        by_cases hv : 0 < rtS still pace sp x
        · have hcap : Cap A N D (i + 1) := hc.le (by omega)
          rw [if_pos hv, chk_pos (by omega), chk_pos s2, chk_pos (by omega), Bt.add hF hb s1 ⟨hv, r2⟩ hcap, bnd2_s]
          have hb2 : Bt A N D (i + 1) (t + Rat.divInt (stp x) (rtS still pace sp x)) := hb.step s1 ⟨hv, r2⟩
          have := ih (x + 1, (t + Rat.divInt (stp x) (rtS still pace sp x)).num, ((t + Rat.divInt (stp x) (rtS still pace sp x)).den : Int)) ⟨by simp only; omega, by simp only; omega, _, i + 1, hb2, by simp only; omega, rfl, rfl⟩ (by simp only; omega) _ (i + 1) hb2 (by simp only; omega) rfl rfl
          simp only at this
          rw [hm2] at this
          rw [hm]
          refine ⟨fun hok => this.1 (fun i h2 h3 => hok i (by omega) (by omega)), fun hno => this.2 (fun hok => hno (fun i h2 h3 => ?_))⟩
          by_cases e : i = x
          · rw [e]; exact hv
          · exact hok i (by omega) (by omega)
        · rw [if_neg hv]
          refine ⟨fun hok => absurd (hok x (by omega) (by omega)) hv, fun _ => ⟨_, _, rfl⟩⟩
      rw [if_neg hx, if_neg (by omega)]
      by_cases hbit : wI (andI (shrI still x) 1) = wI 1
      · rw [if_pos hbit]
        exact tail 0 (by unfold rtS; rw [if_pos hbit])
      · rw [if_neg hbit, chk_pos (by omega)]
        exact tail (sp x) (by unfold rtS; rw [if_neg hbit])
  · exact ⟨by simp only; omega, by simp only; omega, q, j, hq, by simp only; omega, rfl, rfl⟩
  · show (to - from_).toNat < F
    omega
/-- the component's whole way -/
theorem crosses_spec (hF : 1000 ≤ F) {pace still parts : Int} {sp stp : Int → Int} (hp : 0 ≤ parts ∧ parts ≤ 4) (hr : ∀ i, 0 ≤ i → i < parts → ((stp i).natAbs ≤ 200 ∧ r32 (stp i)) ∧ -90 ≤ rtS still pace sp i ∧ rtS still pace sp i ≤ 90) :
    (okA (rtS still pace sp) 0 parts.toNat → m_X6_crosses F pace still parts sp stp = some (1, (accT stp (rtS still pace sp) parts.toNat 0 0).num, ((accT stp (rtS still pace sp) parts.toNat 0 0).den : Int))) ∧
    (¬ okA (rtS still pace sp) 0 parts.toNat → ∃ A B, m_X6_crosses F pace still parts sp stp = some (0, A, B)) := by
  unfold m_X6_crosses
  rw [put_spec hF (by decide) (by decide), bnd2_s]
  have e0 : (Rat.divInt (0 : Int) 1) = 0 := Rat.zero_divInt 1
  rw [e0]
  have main := addTimes_spec hF (pace := pace) (still := still) (from_ := 0) (to := parts) (parts := parts) (sp := sp) (stp := stp) (A := 200) (N := 0) (D := 1) (j := 0) (q := 0) hp (by omega) (by omega) hr (Bt.start Bd.zero) (Cap8.le (by omega))
  rw [Int.sub_zero] at main
  constructor
  · intro hok
    rw [main.1 hok, bnd3_s, chk_pos (by decide)]
  · intro hno
    obtain ⟨A, B, hAB⟩ := main.2 hno
    rw [hAB, bnd3_s, chk_pos (by decide)]
    exact ⟨A, B, rfl⟩
end GO
