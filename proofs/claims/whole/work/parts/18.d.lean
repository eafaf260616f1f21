/-! EXACT, QUICK -/
theorem mul_ab {x y : Int} {M N : Nat} (hx : -(M : Int) ≤ x ∧ x ≤ M) (hy : -(N : Int) ≤ y ∧ y ≤ N) : -((M * N : Nat) : Int) ≤ x * y ∧ x * y ≤ ((M * N : Nat) : Int) := by
  have h := Nat.mul_le_mul (show x.natAbs ≤ M by omega) (show y.natAbs ≤ N by omega)
  rw [← Int.natAbs_mul] at h
  generalize M * N = K at h ⊢
  omega
theorem low_spec {a b : Int} (hb0 : 0 < b) : a.tdiv ((Int.gcd a b : Nat) : Int) = (Rat.divInt a b).num ∧ b.tdiv ((Int.gcd a b : Nat) : Int) = ((Rat.divInt a b).den : Int) := by
  have hg : 0 < Int.gcd a b := Int.gcd_pos_of_ne_zero_right a (by omega)
  obtain ⟨a', ha'⟩ := Int.gcd_dvd_left a b
  obtain ⟨b', hb'⟩ := Int.gcd_dvd_right a b
  generalize hge : (Int.gcd a b : Int) = g at ha' hb' ⊢
  have hgp : 0 < g := by omega
  obtain ⟨h1, h2⟩ := divInt_parts hgp ha' hb' hge (by omega)
  have hbp : 0 < b' := by
    rcases Int.lt_or_le 0 b' with h | h
    · exact h
    · have := Int.mul_le_mul_of_nonneg_left h (Int.le_of_lt hgp)
      omega
  rw [Int.sign_eq_one_of_pos hbp, Int.one_mul] at h1
  refine ⟨?_, ?_⟩
  · rw [h1, ha', Int.mul_tdiv_cancel_left _ (by omega)]
  · rw [h2, hb', Int.mul_tdiv_cancel_left _ (by omega)]
    omega
theorem eq_steps {p q c d v w D : Int} (hD : D = c * v * q - d * w * p) (hp : 0 < p) (h0 : D ≠ 0) : Rat.divInt (c * d * (q * v - p * w)) D = Rat.divInt (c * (p * D + v * ((d - c) * p * q))) (p * D) := by
  have hpD : p * D ≠ 0 := Int.mul_ne_zero (by omega) h0
  rw [Rat.divInt_eq_divInt_iff h0 hpD]
  subst hD
  grind
theorem eq_steps' {p q c d v w D : Int} (hD : D = c * v * q - d * w * p) (hp : 0 < p) (h0 : D ≠ 0) : Rat.divInt (c * d * (q * v - p * w)) D = Rat.divInt (c * (p * -D + v * -((d - c) * p * q))) (p * -D) := by
  have hpD : p * -D ≠ 0 := Int.mul_ne_zero (by omega) (by omega)
  rw [Rat.divInt_eq_divInt_iff h0 hpD]
  subst hD
  grind
theorem eq_speed {p q c d D : Int} : Rat.divInt (p * q * (d - c)) D = Rat.divInt ((d - c) * p * q) D := by
  congr 1
  grind
theorem eq_speed' {p q c d D : Int} : Rat.divInt (p * q * (d - c)) D = Rat.divInt (-((d - c) * p * q)) (-D) := by
  rw [Rat.neg_divInt_neg]
  exact eq_speed
section EXQ
variable {F : Nat} {x n p q c d v w : Int} {pa wa co cells many : Int → Int}
def ExR (p q c d v w : Int) (A B Ea Eb : Int) : Prop := 0 < B ∧ 0 < Eb ∧ s63 A ∧ s63 B ∧ s63 Ea ∧ s63 Eb ∧ Rat.divInt (p * q * (d - c)) (c * v * q - d * w * p) = Rat.divInt A B ∧ Rat.divInt (c * d * (q * v - p * w)) (c * v * q - d * w * p) = Rat.divInt Ea Eb
theorem ex_bounds (hp : 1 ≤ p ∧ p ≤ 30) (hq : 1 ≤ q ∧ q ≤ 30) (hc : 0 ≤ c ∧ c ≤ 9999) (hd : 0 ≤ d ∧ d ≤ 9999) (hv : v = 1 ∨ v = -1) (hw : w = 1 ∨ w = -1) : (-599940 ≤ c * v * q - d * w * p ∧ c * v * q - d * w * p ≤ 599940) ∧ (-8999100 ≤ (d - c) * p * q ∧ (d - c) * p * q ≤ 8999100) ∧ s63 (c * d * (q * v - p * w)) ∧ s63 (p * q * (d - c)) ∧ r32 (q * v - p * w) := by
  have a1 := mul_ab (x := c) (y := v) (M := 9999) (N := 1) (by omega) (by omega)
  have a2 := mul_ab (x := c * v) (y := q) (M := 9999) (N := 30) (by omega) (by omega)
  have a3 := mul_ab (x := d) (y := w) (M := 9999) (N := 1) (by omega) (by omega)
  have a4 := mul_ab (x := d * w) (y := p) (M := 9999) (N := 30) (by omega) (by omega)
  have a5 := mul_ab (x := d - c) (y := p) (M := 9999) (N := 30) (by omega) (by omega)
  have a6 := mul_ab (x := (d - c) * p) (y := q) (M := 299970) (N := 30) (by omega) (by omega)
  have a7 := mul_ab (x := q) (y := v) (M := 30) (N := 1) (by omega) (by omega)
  have a8 := mul_ab (x := p) (y := w) (M := 30) (N := 1) (by omega) (by omega)
  have a9 := mul_ab (x := c) (y := d) (M := 9999) (N := 9999) (by omega) (by omega)
  have b1 := mul_ab (x := c * d) (y := q * v - p * w) (M := 99980001) (N := 60) (by omega) (by omega)
  have b2 := mul_ab (x := p) (y := q) (M := 30) (N := 30) (by omega) (by omega)
  have b3 := mul_ab (x := p * q) (y := d - c) (M := 900) (N := 9999) (by omega) (by omega)
  omega
theorem ex_R (hp : 1 ≤ p ∧ p ≤ 30) (hq : 1 ≤ q ∧ q ≤ 30) (hc : 0 ≤ c ∧ c ≤ 9999) (hd : 0 ≤ d ∧ d ≤ 9999) (hv : v = 1 ∨ v = -1) (hw : w = 1 ∨ w = -1) {A B : Int} (hB : 0 < B) (hAB : (A = (d - c) * p * q ∧ B = c * v * q - d * w * p) ∨ (A = -((d - c) * p * q) ∧ B = -(c * v * q - d * w * p))) : ExR p q c d v w A B (c * (p * B + v * A)) (p * B) := by
  obtain ⟨b1, b2, b3, b4, b5⟩ := ex_bounds hp hq hc hd hv hw
  have hA : -8999100 ≤ A ∧ A ≤ 8999100 := by omega
  have hB' : B ≤ 599940 := by omega
  have c1 := mul_ab (x := p) (y := B) (M := 30) (N := 599940) (by omega) (by omega)
  have c2 := mul_ab (x := v) (y := A) (M := 1) (N := 8999100) (by omega) (by omega)
  have c3 := mul_ab (x := c) (y := p * B + v * A) (M := 9999) (N := 26997300) (by omega) (by omega)
  have c4 : 0 < p * B := Int.mul_pos (by omega) hB
  refine ⟨hB, c4, by omega, by omega, by omega, by omega, ?_, ?_⟩
  · rcases hAB with ⟨e1, e2⟩ | ⟨e1, e2⟩
    · rw [e1, e2]
      exact eq_speed
    · rw [e1, e2]
      exact eq_speed'
  · rcases hAB with ⟨e1, e2⟩ | ⟨e1, e2⟩
    · rw [e1, e2]
      exact eq_steps rfl (by omega) (by omega)
    · rw [e1, e2]
      exact eq_steps' rfl (by omega) (by omega)
theorem isExact_spec (Q : CntQ x n pa wa co cells many) (hn : 2 ≤ n) (u1 u2 : Int) :
    (co 0 * wa 0 * pa 1 - co 1 * wa 1 * pa 0 = 0 ∧ ∃ r, m_X9_isExact F x u1 u2 cells = some (0, r)) ∨
    (co 0 * wa 0 * pa 1 - co 1 * wa 1 * pa 0 ≠ 0 ∧ ∃ A B Ea Eb, m_X9_isExact F x u1 u2 cells = some (1, Ea, Eb, A, B) ∧ ExR (pa 0) (pa 1) (co 0) (co 1) (wa 0) (wa 1) A B Ea Eb) := by
  obtain ⟨c00, c01, c02⟩ := cellOf_spec (F := F) Q (i := 0) (by omega)
  obtain ⟨c10, c11, c12⟩ := cellOf_spec (F := F) Q (i := 1) (by omega)
  obtain ⟨p0, w0, k0⟩ := Q.2.2.1.2 0 (by omega) (by omega)
  obtain ⟨p1, w1, k1⟩ := Q.2.2.1.2 1 (by omega) (by omega)
  obtain ⟨b1, b2, -⟩ := ex_bounds p0 p1 k0 k1 w0 w1
  unfold m_X9_isExact mb_X9_isExact_117
  simp only [c00, c01, c02, c10, c11, c12, bnd1_s, nam]
  rw [ifJ_eq (by omega) (by decide)]
  by_cases h0 : co 0 * wa 0 * pa 1 - co 1 * wa 1 * pa 0 = 0
  · rw [if_pos h0]
    exact Or.inl ⟨h0, _, rfl⟩
  · rw [if_neg h0, ifJ_le (by decide) (by omega)]
    refine Or.inr ⟨h0, ?_⟩
    by_cases h1 : 0 ≤ co 0 * wa 0 * pa 1 - co 1 * wa 1 * pa 0
    · rw [if_pos h1]
      exact ⟨_, _, _, _, rfl, ex_R p0 p1 k0 k1 w0 w1 (by omega) (Or.inl ⟨rfl, rfl⟩)⟩
    · rw [if_neg h1]
      exact ⟨_, _, _, _, rfl, ex_R p0 p1 k0 k1 w0 w1 (by omega) (Or.inr ⟨rfl, rfl⟩)⟩
theorem divisor_spec (hC : Cnt n pa wa co) (hn : 2 ≤ n) : m_X0_divisor F co pa wa = some (co 0 * wa 0 * pa 1 - co 1 * wa 1 * pa 0) := by
  obtain ⟨p0, w0, k0⟩ := hC.2 0 (by omega) (by omega)
  obtain ⟨p1, w1, k1⟩ := hC.2 1 (by omega) (by omega)
  unfold m_X0_divisor
  rw [chk_pos (by omega), chk_pos (by omega), chk_pos (by omega), chk_pos (by omega), chk_pos (by omega), chk_pos (by omega)]
theorem solve_spec (hF : 1000 ≤ F) (hC : Cnt n pa wa co) (hn : 2 ≤ n) :
    m_X0_solveSteps F co pa wa = some (bI (co 0 * wa 0 * pa 1 - co 1 * wa 1 * pa 0 ≠ 0), (Rat.divInt (co 0 * co 1 * (pa 1 * wa 0 - pa 0 * wa 1)) (co 0 * wa 0 * pa 1 - co 1 * wa 1 * pa 0)).num, ((Rat.divInt (co 0 * co 1 * (pa 1 * wa 0 - pa 0 * wa 1)) (co 0 * wa 0 * pa 1 - co 1 * wa 1 * pa 0)).den : Int)) ∧
    m_X0_solveSpeed F co pa wa = some (bI (co 0 * wa 0 * pa 1 - co 1 * wa 1 * pa 0 ≠ 0), (Rat.divInt (pa 0 * pa 1 * (co 1 - co 0)) (co 0 * wa 0 * pa 1 - co 1 * wa 1 * pa 0)).num, ((Rat.divInt (pa 0 * pa 1 * (co 1 - co 0)) (co 0 * wa 0 * pa 1 - co 1 * wa 1 * pa 0)).den : Int)) := by
  obtain ⟨p0, w0, k0⟩ := hC.2 0 (by omega) (by omega)
  obtain ⟨p1, w1, k1⟩ := hC.2 1 (by omega) (by omega)
  obtain ⟨b1, b2, b3, b4, b5⟩ := ex_bounds p0 p1 k0 k1 w0 w1
  constructor
  · unfold m_X0_solveSteps
    rw [divisor_spec hC hn, bnd1_s, chk_pos (by omega), chk_pos (by omega), chk_pos b5, put_spec hF b3 (by omega), bnd2_s, ifJ_eq (by omega) (by decide)]
    unfold bI
    by_cases h : co 0 * wa 0 * pa 1 - co 1 * wa 1 * pa 0 = 0
    · rw [if_pos h, if_neg (by omega)]
    · rw [if_neg h, if_pos h]
  · unfold m_X0_solveSpeed
    rw [divisor_spec hC hn, bnd1_s, chk_pos (by omega), chk_pos (by omega), chk_pos (by omega), put_spec hF b4 (by omega), bnd2_s, ifJ_eq (by omega) (by decide)]
    unfold bI
    by_cases h : co 0 * wa 0 * pa 1 - co 1 * wa 1 * pa 0 = 0
    · rw [if_pos h, if_neg (by omega)]
    · rw [if_neg h, if_pos h]
end EXQ
section EXO
variable {F : Nat} {x n : Int} {held width size wdt many cells : Int → Int} {num : Int → Int → Int}
theorem two_pair (hF : 100000 ≤ F) (S : SlotR held width size num wdt many cells) {x1 x2 : Int} (hx1 : r32 x1) (hx2 : r32 x2) (u1 u2 u3 : Int) (f1 f2 f3 f4 f5 : Int → Int) :
    (∃ r w, (r = -2 ∨ r = -6) ∧ m_X8_openTwoCounts F x1 x2 u1 u2 u3 f1 f2 f3 f4 f5 held size num = some (r, w) ∧ m_X9_whyNotExact F x1 x2 cells many wdt = some r) ∨
    (∃ n o1 o2 co le mo pa wa, m_X8_openTwoCounts F x1 x2 u1 u2 u3 f1 f2 f3 f4 f5 held size num = some (0, n, o1, o2, co, le, mo, pa, wa) ∧ m_X9_whyNotExact F x1 x2 cells many wdt = some 0 ∧ CntQ x1 n pa wa co cells many ∧ 2 ≤ n ∧ (x2 = 0 ∨ x2 = 1)) := by
  unfold m_X8_openTwoCounts m_X9_whyNotExact
  rw [isSide_spec hx2, bnd1_s, ifB, isHalf_spec hx2, bnd1_s, ifB]
  by_cases h1 : 0 ≤ x2 ∧ x2 ≤ 1
  · rw [if_pos h1, if_pos h1]
    rcases counts_pair hF S hx1 u1 u2 u3 f1 f2 f3 f4 f5 with ⟨r, w, hr, k1, k2⟩ | ⟨n, o1, o2, co, le, mo, pa, wa, k1, k2, Q, hE⟩
    · obtain ⟨w1, w2, w3, w4, w5, w6, w7, w8⟩ := w
      rw [k1, k2, bnd9_s, bnd1_s]
      unfold mb_X8_openTwoCounts_17 mb_X9_whyNotExact_17
      rw [ifI_eq (a := r) (b := 0) (by omega) (by decide), ifI_eq (a := r) (b := 0) (by omega) (by decide), if_neg (show ¬ r = 0 by omega), if_neg (show ¬ r = 0 by omega)]
      exact Or.inl ⟨_, _, hr, rfl, rfl⟩
    · rw [k1, k2, bnd9_s, bnd1_s]
      unfold mb_X8_openTwoCounts_17 mb_X9_whyNotExact_17
      have hn := Q.2.2.1.1
      rw [if_pos rfl, if_pos rfl, rows_spec Q, bnd1_s, ifI_le (by decide) (by omega), ifI_le (by decide) (by omega)]
      by_cases h2 : 2 ≤ n
      · rw [if_pos h2, if_pos h2]
        exact Or.inr ⟨_, _, _, _, _, _, _, _, rfl, rfl, Q, h2, by omega⟩
      · rw [if_neg h2, if_neg h2]
        exact Or.inl ⟨_, _, Or.inl rfl, rfl, rfl⟩
  · rw [if_neg h1, if_neg h1]
    unfold mb_X8_openTwoCounts_17 mb_X9_whyNotExact_17
    rw [if_neg m20, if_neg m20]
    exact Or.inl ⟨_, _, Or.inl rfl, rfl, rfl⟩
theorem low_end {a b y : Int} {β : Type} {k : Int → Option β} (hy : s63 y) (h0 : 0 < b) (ha : s63 a) (hb : s63 b) : (bnd1 (m_X9_common F a b) fun r1 => chk (dv64 y r1) <| k (y.tdiv r1)) = k (y.tdiv ((Int.gcd a b : Nat) : Int)) := by
  have hg : 0 < Int.gcd a b := Int.gcd_pos_of_ne_zero_right a (by omega)
  rw [common_spec ha hb, bnd1_s, chk_pos (by
    have : Int.gcd a b ≤ b.natAbs := Nat.le_of_dvd (by omega) (Nat.gcd_dvd_right _ _)
    omega)]
theorem op_exact (hF : 100000 ≤ F) (S : SlotR held width size num wdt many cells) {x1 x2 : Int} (hx1 : r32 x1) (hx2 : r32 x2) (u1 u2 u3 u4 u5 v1 v2 v3 v4 : Int) (f1 f2 f3 f4 f5 : Int → Int) : Eq1 (m_X8_exact F x1 x2 u1 u2 u3 f1 f2 f3 f4 f5 held size num u4 u5) (m_X9_exact F x1 x2 v1 v2 v3 v4 cells many wdt) := by
  unfold m_X8_exact m_X9_exact
  rcases two_pair hF S hx1 hx2 u1 u2 u3 f1 f2 f3 f4 f5 with ⟨r, w, hr, k1, k2⟩ | ⟨n, o1, o2, co, le, mo, pa, wa, k1, k2, Q, hn, hw⟩
  · obtain ⟨w1, w2, w3, w4, w5, w6, w7, w8⟩ := w
    rw [k1, k2, bnd9_s, bnd1_s, ifI_eq (a := r) (b := 0) (by omega) (by decide), ifI_eq (a := r) (b := 0) (by omega) (by decide), if_neg (show ¬ r = 0 by omega), if_neg (show ¬ r = 0 by omega), chk_pos (by omega), chk_pos (by omega)]
    exact Eq1.mk
  · obtain ⟨s1, s2⟩ := solve_spec (F := F) (by omega) Q.2.2.1 hn
    rw [k1, k2, bnd9_s, bnd1_s, if_pos rfl, if_pos rfl, s1, bnd3_s, ifB]
    rcases isExact_spec (F := F) Q hn v1 v2 with ⟨h0, ⟨z1, z2, z3, z4⟩, e⟩ | ⟨h0, A, B, Ea, Eb, e, R⟩
    · rw [if_neg (fun h => h h0), e, bnd5_s, if_pos rfl]
      exact Eq1.mk
    · obtain ⟨R1, R2, R3, R4, R5, R6, R7, R8⟩ := R
      obtain ⟨l1, l2⟩ := low_spec (a := Ea) R2
      rw [if_pos h0, e, bnd5_s, if_neg one0, side_spec hx2, bnd1_s, ifI_eq (by omega) (by decide), R8]
      unfold mb_X9_exact_46
      rcases hw with rfl | rfl
      · rw [if_pos rfl, if_pos rfl, low_end (y := Ea) (k := fun z => some (z, 0, Ea, Eb, A, B)) R5 R2 R5 R6]
        exact Eq1.of l1.symm
      · rw [if_neg (by decide), if_neg (by decide), low_end (y := Eb) (k := fun z => some (z, 0, Ea, Eb, A, B)) R6 R2 R5 R6]
        exact Eq1.of l2.symm
theorem op_quick (hF : 100000 ≤ F) (S : SlotR held width size num wdt many cells) {x1 x2 : Int} (hx1 : r32 x1) (hx2 : r32 x2) (u1 u2 u3 u4 u5 v1 v2 v3 v4 : Int) (f1 f2 f3 f4 f5 : Int → Int) : Eq1 (m_X8_quick F x1 x2 u1 u2 u3 f1 f2 f3 f4 f5 held size num u4 u5) (m_X9_quick F x1 x2 v1 v2 v3 v4 cells many wdt) := by
  unfold m_X8_quick m_X9_quick
  rcases two_pair hF S hx1 hx2 u1 u2 u3 f1 f2 f3 f4 f5 with ⟨r, w, hr, k1, k2⟩ | ⟨n, o1, o2, co, le, mo, pa, wa, k1, k2, Q, hn, hw⟩
  · obtain ⟨w1, w2, w3, w4, w5, w6, w7, w8⟩ := w
    rw [k1, k2, bnd9_s, bnd1_s, ifI_eq (a := r) (b := 0) (by omega) (by decide), ifI_eq (a := r) (b := 0) (by omega) (by decide), if_neg (show ¬ r = 0 by omega), if_neg (show ¬ r = 0 by omega), chk_pos (by omega), chk_pos (by omega)]
    exact Eq1.mk
  · obtain ⟨s1, s2⟩ := solve_spec (F := F) (by omega) Q.2.2.1 hn
    rw [k1, k2, bnd9_s, bnd1_s, if_pos rfl, if_pos rfl, s2, bnd3_s, ifB]
    rcases isExact_spec (F := F) Q hn v1 v2 with ⟨h0, ⟨z1, z2, z3, z4⟩, e⟩ | ⟨h0, A, B, Ea, Eb, e, R⟩
    · rw [if_neg (fun h => h h0), e, bnd5_s, if_pos rfl]
      exact Eq1.mk
    · obtain ⟨R1, R2, R3, R4, R5, R6, R7, R8⟩ := R
      obtain ⟨l1, l2⟩ := low_spec (a := A) R1
      rw [if_pos h0, e, bnd5_s, if_neg one0, side_spec hx2, bnd1_s, ifI_eq (by omega) (by decide), R7]
      unfold mb_X9_quick_46
      rcases hw with rfl | rfl
      · rw [if_pos rfl, if_pos rfl, low_end (y := A) (k := fun z => some (z, 0, Ea, Eb, A, B)) R3 R1 R3 R4]
        exact Eq1.of l1.symm
      · rw [if_neg (by decide), if_neg (by decide), low_end (y := B) (k := fun z => some (z, 0, Ea, Eb, A, B)) R4 R1 R3 R4]
        exact Eq1.of l2.symm
end EXO
