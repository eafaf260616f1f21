/-! MATHEMATICS: loops, Euclid, fractions -/
theorem loopN_rec {σ ρ : Type} {body : (σ → Option ρ) → σ → Option ρ} (I : σ → Prop) (μ : σ → Nat) (P : σ → Option ρ → Prop)
    (step : ∀ (k : σ → Option ρ) (s : σ), I s → (∀ s', I s' → μ s' < μ s → P s' (k s')) → P s (body k s)) : ∀ (n : Nat) (s : σ), I s → μ s < n → P s (loopN body n s)
  | 0, s, _, h => by omega
  | n + 1, s, hI, h => step (loopN body n) s hI (fun s' h1 h2 => loopN_rec I μ P step n s' h1 (by omega))
theorem ifI_lt {ρ : Type} {a b : Int} {X Y : Option ρ} (ha : (-2147483648 ≤ a ∧ a ≤ 2147483647)) (hb : (-2147483648 ≤ b ∧ b ≤ 2147483647)) : (if wI a < wI b then X else Y) = (if a < b then X else Y) := by
  simp only [wI_lt ha hb]
theorem ifI_le {ρ : Type} {a b : Int} {X Y : Option ρ} (ha : (-2147483648 ≤ a ∧ a ≤ 2147483647)) (hb : (-2147483648 ≤ b ∧ b ≤ 2147483647)) : (if wI a ≤ wI b then X else Y) = (if a ≤ b then X else Y) := by
  simp only [wI_le ha hb]
theorem ifI_eq {ρ : Type} {a b : Int} {X Y : Option ρ} (ha : (-2147483648 ≤ a ∧ a ≤ 2147483647)) (hb : (-2147483648 ≤ b ∧ b ≤ 2147483647)) : (if wI a = wI b then X else Y) = (if a = b then X else Y) := by
  simp only [wI_eq ha hb]
theorem ifJ_lt {ρ : Type} {a b : Int} {X Y : Option ρ} (ha : (-9223372036854775808 ≤ a ∧ a ≤ 9223372036854775807)) (hb : (-9223372036854775808 ≤ b ∧ b ≤ 9223372036854775807)) : (if wJ a < wJ b then X else Y) = (if a < b then X else Y) := by
  simp only [wJ_lt ha hb]
theorem ifJ_le {ρ : Type} {a b : Int} {X Y : Option ρ} (ha : (-9223372036854775808 ≤ a ∧ a ≤ 9223372036854775807)) (hb : (-9223372036854775808 ≤ b ∧ b ≤ 9223372036854775807)) : (if wJ a ≤ wJ b then X else Y) = (if a ≤ b then X else Y) := by
  simp only [wJ_le ha hb]
theorem ifJ_eq {ρ : Type} {a b : Int} {X Y : Option ρ} (ha : (-9223372036854775808 ≤ a ∧ a ≤ 9223372036854775807)) (hb : (-9223372036854775808 ≤ b ∧ b ≤ 9223372036854775807)) : (if wJ a = wJ b then X else Y) = (if a = b then X else Y) := by
  simp only [wJ_eq ha hb]
/-- how many bits -/
def bl (n : Nat) : Nat := if n = 0 then 0 else n.log2 + 1
theorem bl_le {n k : Nat} (h : n < 2 ^ k) : bl n ≤ k := by
  unfold bl
  split
  · omega
  · have := (Nat.log2_lt (by assumption)).mpr h
    omega
theorem bl_half {n m : Nat} (h : 2 * n ≤ m) (hm : 0 < m) : bl n < bl m := by
  have hm0 : m ≠ 0 := by omega
  have h1 : bl m = m.log2 + 1 := by unfold bl; rw [if_neg hm0]
  have h2 : m < 2 ^ (m.log2 + 1) := Nat.lt_log2_self
  have h3 : n < 2 ^ m.log2 := by
    rw [Nat.pow_succ] at h2
    omega
  have := bl_le h3
  omega
/-- Euclid's measure: falls with each step -/
def eu (a b : Nat) : Nat := bl a + bl b + (if a < b then 1 else 0)
theorem eu_step {a b : Nat} (hb : 0 < b) : eu b (a % b) < eu a b := by
  unfold eu
  have hm : a % b < b := Nat.mod_lt _ hb
  rw [if_neg (show ¬ b < a % b by omega)]
  by_cases h : a < b
  · rw [if_pos h, Nat.mod_eq_of_lt h]
    omega
  · rw [if_neg h]
    have h2 : 2 * (a % b) ≤ a := by
      have h3 := Nat.div_add_mod a b
      have h4 : 1 ≤ a / b := (Nat.le_div_iff_mul_le hb).mpr (by omega)
      have h5 : b * 1 ≤ b * (a / b) := Nat.mul_le_mul_left b h4
      omega
    have := bl_half h2 (by omega)
    omega
theorem eu_le {a b k : Nat} (ha : a < 2 ^ k) (hb : b < 2 ^ k) : eu a b ≤ 2 * k + 1 := by
  unfold eu
  have := bl_le ha
  have := bl_le hb
  split <;> omega
theorem gcd_step (a b : Int) : Int.gcd b (a.tmod b) = Int.gcd a b := by
  rw [Int.gcd_eq_natAbs_gcd_natAbs, Int.gcd_eq_natAbs_gcd_natAbs, Int.natAbs_tmod, Nat.gcd_comm, ← Nat.gcd_rec, Nat.gcd_comm]
/-- the numbers that stay clear of the ends of long -/
abbrev s63 (a : Int) : Prop := -9223372036854775807 ≤ a ∧ a ≤ 9223372036854775807
theorem s63_abs {a : Int} (h : s63 a) : a.natAbs < 2 ^ 63 := by omega
theorem s63_tmod {a b : Int} (hb : s63 b) (h0 : b ≠ 0) : s63 (a.tmod b) := by
  have h1 := Int.natAbs_tmod a b
  have h2 : a.natAbs % b.natAbs < b.natAbs := Nat.mod_lt _ (by omega)
  omega
theorem common_spec {F : Nat} {a b : Int} (ha : s63 a) (hb : s63 b) : m_X9_common F a b = some ((Int.gcd a b : Nat) : Int) := by
  unfold m_X9_common m_X9_common_at
  refine loopN_rec (I := fun q : Int × Int => s63 q.1 ∧ s63 q.2) (μ := fun q => eu q.1.natAbs q.2.natAbs) (P := fun q x => x = some ((Int.gcd q.1 q.2 : Nat) : Int)) ?_ 200 (a, b) ⟨ha, hb⟩ ?_
  · rintro k ⟨a, b⟩ ⟨ha, hb⟩ ih
    simp only at ha hb ih ⊢
    unfold mz_X9_common
    by_cases h0 : b = 0
    · subst h0
      rw [if_pos rfl]
      rw [Int.gcd_zero_right]
      by_cases h1 : 0 ≤ a
      · rw [if_pos (by rw [wJ_le (by decide) (by omega)]; exact h1)]
        congr 1
        omega
      · rw [if_neg (by rw [wJ_le (by decide) (by omega)]; exact h1)]
        congr 1
        omega
    · rw [if_neg (by rw [wJ_eq (by omega) (by decide)]; exact h0), chk_pos (by omega)]
      have hm := s63_tmod (a := a) hb h0
      have := ih (b, a.tmod b) ⟨hb, hm⟩ (by
        show eu b.natAbs (a.tmod b).natAbs < eu a.natAbs b.natAbs
        rw [Int.natAbs_tmod]
        exact eu_step (by omega))
      simp only at this
      rw [this, bnd1_s, gcd_step]
  · have := eu_le (s63_abs ha) (s63_abs hb)
    show eu a.natAbs b.natAbs < 200
    omega
/-- a fraction in lowest terms -/
theorem divInt_parts {a b g a' b' : Int} (hg : 0 < g) (ha : a = g * a') (hb : b = g * b') (hgg : (Int.gcd a b : Int) = g) (hb0 : b ≠ 0) : (Rat.divInt a b).num = b'.sign * a' ∧ ((Rat.divInt a b).den : Int) = b'.natAbs := by
  have hs : b.sign = b'.sign := by rw [hb, Int.sign_mul, Int.sign_eq_one_of_pos hg, Int.one_mul]
  have hgc : (Int.gcd b a : Int) = g := by rw [Int.gcd_comm]; exact hgg
  constructor
  · rw [Rat.num_divInt, hgc, hs, ha, show b'.sign * (g * a') = g * (b'.sign * a') by rw [Int.mul_left_comm], Int.mul_ediv_cancel_left _ (by omega)]
  · rw [Rat.den_divInt, if_neg hb0]
    have hn : b.natAbs = b.gcd a * b'.natAbs := by
      rw [hb, Int.natAbs_mul, ← hb]
      congr 1
      omega
    rw [hn, Nat.mul_div_cancel_left _ (by omega)]
theorem put_tail {F : Nat} {a b d : Int} (ha : s63 a) (hb : s63 b) (hd : d.natAbs = Int.gcd a b) : mb_X1_put_45 F a b d = some ((Rat.divInt a b).num, ((Rat.divInt a b).den : Int)) := by
  unfold mb_X1_put_45 mb_X1_put_58
  by_cases h0 : b = 0
  · subst h0
    rw [if_pos rfl, Rat.divInt_zero]
    rfl
  · rw [if_neg (by rw [wJ_eq (by omega) (by decide)]; exact h0)]
    have hg : 0 < Int.gcd a b := Int.gcd_pos_of_ne_zero_right a h0
    obtain ⟨a', ha'⟩ := Int.gcd_dvd_left a b
    obtain ⟨b', hb'⟩ := Int.gcd_dvd_right a b
    generalize hge : (Int.gcd a b : Int) = g at ha' hb'
    have hgp : 0 < g := by omega
    obtain ⟨h1, h2⟩ := divInt_parts hgp ha' hb' hge h0
    have hd2 : d = g ∨ d = -g := by omega
    have hb0 : b' ≠ 0 := by
      intro q
      rw [q, Int.mul_zero] at hb'
      exact h0 hb'
    have hgle : g ≤ 9223372036854775807 := by
      have h3 : g * 1 ≤ g * (b'.natAbs : Int) := Int.mul_le_mul_of_nonneg_left (by omega) (by omega)
      have h4 : (b.natAbs : Int) = g * b'.natAbs := by
        rw [hb', Int.natAbs_mul, Int.natCast_mul]
        congr 1
        omega
      omega
    have hbl : (b'.natAbs : Int) ≤ 9223372036854775807 := by
      have h3 : 1 * (b'.natAbs : Int) ≤ g * (b'.natAbs : Int) := Int.mul_le_mul_of_nonneg_right (by omega) (by omega)
      have h4 : (b.natAbs : Int) = g * b'.natAbs := by
        rw [hb', Int.natAbs_mul, Int.natCast_mul]
        congr 1
        omega
      omega
    rw [if_neg (by rw [wJ_eq (by omega) (by decide)]; omega), chk_pos (by omega)]
    simp only [nam]
    rw [chk_pos (by omega), h1, h2]
    have hta : a.tdiv g = a' := by rw [ha']; exact Int.mul_tdiv_cancel_left _ (by omega)
    have htb : b.tdiv g = b' := by rw [hb']; exact Int.mul_tdiv_cancel_left _ (by omega)
    have key : ∀ x y : Int, ((x = a' ∧ y = b') ∨ (x = -a' ∧ y = -b')) → (if wJ 0 ≤ wJ y then some (x, y) else some (-x, -y)) = some (b'.sign * a', (b'.natAbs : Int)) := by
      intro x y hxy
      have hy : s63 y := by omega
      rcases Int.lt_or_gt_of_ne hb0 with hneg | hpos
      · rw [Int.sign_eq_neg_one_of_neg hneg]
        rcases hxy with ⟨rfl, rfl⟩ | ⟨rfl, rfl⟩
        · rw [if_neg (by rw [wJ_le (by decide) (by omega)]; omega)]
          congr 2 <;> omega
        · rw [if_pos (by rw [wJ_le (by decide) (by omega)]; omega)]
          congr 2 <;> omega
      · rw [Int.sign_eq_one_of_pos hpos]
        rcases hxy with ⟨rfl, rfl⟩ | ⟨rfl, rfl⟩
        · rw [if_pos (by rw [wJ_le (by decide) (by omega)]; omega)]
          congr 2 <;> omega
        · rw [if_neg (by rw [wJ_le (by decide) (by omega)]; omega)]
          congr 2 <;> omega
    apply key
    rcases hd2 with rfl | rfl
    · exact Or.inl ⟨hta, htb⟩
    · rw [Int.tdiv_neg, Int.tdiv_neg, hta, htb]
      exact Or.inr ⟨rfl, rfl⟩
/-- Fraction.put -/
theorem put_spec {F : Nat} (hF : 1000 ≤ F) {a b : Int} (ha : s63 a) (hb : s63 b) : m_X1_put F a b = some ((Rat.divInt a b).num, ((Rat.divInt a b).den : Int)) := by
  unfold m_X1_put ml_X1_put_9
  refine loopN_rec (I := fun q : Int × Int × Int => s63 q.1 ∧ s63 q.2.1 ∧ Int.gcd q.1 q.2.1 = Int.gcd a b ∧ 0 ≤ q.2.2 ∧ q.2.2 + (eu q.1.natAbs q.2.1.natAbs : Nat) ≤ 199) (μ := fun q => eu q.1.natAbs q.2.1.natAbs) (P := fun q x => x = some ((Rat.divInt a b).num, ((Rat.divInt a b).den : Int))) ?_ F (b, a, 0) ?_ ?_
  · rintro k ⟨x, y, i⟩ ⟨hx, hy, hgcd, hi0, hi⟩ ih
    simp only at hx hy hgcd hi0 hi ih ⊢
    unfold mb_X1_put_9
    rw [if_neg (by rw [wI_le (by decide) (by omega)]; omega)]
    by_cases h0 : y = 0
    · subst h0
      rw [if_pos rfl]
      apply put_tail ha hb
      rw [← hgcd, Int.gcd_zero_right]
    · rw [if_neg (by rw [wJ_eq (by omega) (by decide)]; exact h0), chk_pos (by omega)]
      simp only [nam]
      have hm := s63_tmod (a := x) hy h0
      have hlt : eu y.natAbs (x.tmod y).natAbs < eu x.natAbs y.natAbs := by
        rw [Int.natAbs_tmod]
        exact eu_step (by omega)
      exact ih (y, x.tmod y, i + 1) ⟨hy, hm, by simp only; rw [gcd_step]; exact hgcd, by simp only; omega, by simp only; omega⟩ hlt
  · have := eu_le (s63_abs hb) (s63_abs ha)
    exact ⟨hb, ha, Int.gcd_comm b a, by simp only; omega, by simp only; omega⟩
  · have := eu_le (s63_abs hb) (s63_abs ha)
    show eu b.natAbs a.natAbs < F
    omega
/-! fractions: sums, comparisons -/
theorem rat_parts (q : Rat) : q = Rat.divInt q.num (q.den : Int) := (Rat.num_divInt_den q).symm
theorem add_divInt {q : Rat} {a b : Int} (hb : b ≠ 0) : q + Rat.divInt a b = Rat.divInt (q.num * b + a * q.den) (q.den * b) := by
  have h : ((q.den : Nat) : Int) ≠ 0 := by have := q.den_nz; omega
  rw [show q + Rat.divInt a b = Rat.divInt q.num (q.den : Int) + Rat.divInt a b by rw [← rat_parts], Rat.divInt_add_divInt _ _ h hb]
theorem divInt_le {x y : Int} (hy : y ≠ 0) : (Rat.divInt x y).num.natAbs ≤ x.natAbs ∧ (Rat.divInt x y).den ≤ y.natAbs := by
  have hg : 0 < Int.gcd x y := Int.gcd_pos_of_ne_zero_right x hy
  obtain ⟨x', hx'⟩ := Int.gcd_dvd_left x y
  obtain ⟨y', hy'⟩ := Int.gcd_dvd_right x y
  obtain ⟨h1, h2⟩ := divInt_parts (g := (Int.gcd x y : Int)) (by omega) hx' hy' rfl hy
  have hy0 : y' ≠ 0 := by
    intro q
    rw [q, Int.mul_zero] at hy'
    exact hy hy'
  constructor
  · rw [h1, Int.natAbs_mul, Int.natAbs_sign_of_ne_zero hy0, Nat.one_mul]
    have h3 : x.natAbs = Int.gcd x y * x'.natAbs := by
      have := congrArg Int.natAbs hx'
      rw [Int.natAbs_mul, Int.natAbs_natCast] at this
      exact this
    rw [h3]
    exact Nat.le_mul_of_pos_left _ hg
  · have h3 : y.natAbs = Int.gcd x y * y'.natAbs := by
      have := congrArg Int.natAbs hy'
      rw [Int.natAbs_mul, Int.natAbs_natCast] at this
      exact this
    have h4 : (Rat.divInt x y).den = y'.natAbs := by omega
    rw [h3, h4]
    exact Nat.le_mul_of_pos_left _ hg
/-- how large the parts of a fraction are -/
def Bd (q : Rat) (N D : Nat) : Prop := q.num.natAbs ≤ N ∧ q.den ≤ D
theorem Bd.add {q : Rat} {N D A B : Nat} {a b : Int} (h : Bd q N D) (ha : a.natAbs ≤ A) (hb : b.natAbs ≤ B) (hb0 : b ≠ 0) : Bd (q + Rat.divInt a b) (N * B + A * D) (D * B) := by
  have hd : ((q.den : Nat) : Int) * b ≠ 0 := Int.mul_ne_zero (by have := q.den_nz; omega) hb0
  rw [add_divInt hb0]
  obtain ⟨h1, h2⟩ := divInt_le (x := q.num * b + a * q.den) hd
  constructor
  · refine Nat.le_trans h1 (Nat.le_trans (Int.natAbs_add_le _ _) ?_)
    rw [Int.natAbs_mul, Int.natAbs_mul, Int.natAbs_natCast]
    exact Nat.add_le_add (Nat.mul_le_mul h.1 hb) (Nat.mul_le_mul ha h.2)
  · refine Nat.le_trans h2 ?_
    rw [Int.natAbs_mul, Int.natAbs_natCast]
    exact Nat.mul_le_mul h.2 hb
theorem Bd.of {a b : Int} {N D : Nat} (ha : a.natAbs ≤ N) (hb : b.natAbs ≤ D) (hb0 : b ≠ 0) : Bd (Rat.divInt a b) N D := ⟨Nat.le_trans (divInt_le hb0).1 ha, Nat.le_trans (divInt_le hb0).2 hb⟩
theorem Bd.zero : Bd 0 0 1 := ⟨Nat.le_refl _, Nat.le_refl _⟩
theorem Bd.mono {q : Rat} {N D N' D' : Nat} (h : Bd q N D) (h1 : N ≤ N') (h2 : D ≤ D') : Bd q N' D' := ⟨Nat.le_trans h.1 h1, Nat.le_trans h.2 h2⟩
theorem abs_mul_add_le {x y b d : Int} {N A B D : Nat} (hx : x.natAbs ≤ N) (hb : b.natAbs ≤ B) (hy : y.natAbs ≤ A) (hd : d.natAbs ≤ D) : (x * b + y * d).natAbs ≤ N * B + A * D := by
  refine Nat.le_trans (Int.natAbs_add_le _ _) ?_
  rw [Int.natAbs_mul, Int.natAbs_mul]
  exact Nat.add_le_add (Nat.mul_le_mul hx hb) (Nat.mul_le_mul hy hd)
/-- the component's sum -/
theorem add_spec {F : Nat} (hF : 1000 ≤ F) {q : Rat} {a b : Int} {N D A B : Nat} (h : Bd q N D) (ha : a.natAbs ≤ A) (hb : b.natAbs ≤ B) (hb0 : b ≠ 0) (h1 : N * B + A * D ≤ 9223372036854775807) (h2 : D * B ≤ 9223372036854775807) : m_X1_add F a b q.num q.den = some ((q + Rat.divInt a b).num, ((q + Rat.divInt a b).den : Int)) := by
  unfold m_X1_add
  have e1 := abs_mul_add_le h.1 hb ha (show ((q.den : Nat) : Int).natAbs ≤ D by rw [Int.natAbs_natCast]; exact h.2)
  have e2 : (((q.den : Nat) : Int) * b).natAbs ≤ D * B := by
    rw [Int.natAbs_mul, Int.natAbs_natCast]
    exact Nat.mul_le_mul h.2 hb
  rw [put_spec hF (by omega) (by omega), bnd2_s, ← add_divInt hb0]
/-- the reference's sum -/
theorem adds_spec {F : Nat} {q : Rat} {a b : Int} {N D A B : Nat} (h : Bd q N D) (ha : a.natAbs ≤ A) (hb : b.natAbs ≤ B) (hb0 : 0 < b) (h1 : N * B + A * D ≤ 9223372036854775807) (h2 : D * B ≤ 9223372036854775807) (hB : B ≤ 9223372036854775807) (hD : D ≤ 9223372036854775807) : m_X9_adds F a b q.num q.den = some ((q + Rat.divInt a b).num, ((q + Rat.divInt a b).den : Int)) := by
  unfold m_X9_adds
  have hdp : 0 < q.den := Nat.pos_of_ne_zero q.den_nz
  have hdD := h.2
  rw [common_spec (by omega) (by omega), bnd1_s]
  obtain ⟨d', hd'⟩ := Int.gcd_dvd_left ((q.den : Nat) : Int) b
  obtain ⟨b', hb'⟩ := Int.gcd_dvd_right ((q.den : Nat) : Int) b
  have hg : 0 < Int.gcd ((q.den : Nat) : Int) b := Int.gcd_pos_of_ne_zero_right _ (by omega)
  generalize hge : ((Int.gcd ((q.den : Nat) : Int) b : Nat) : Int) = g at hd' hb'
  have hgp : 0 < g := by omega
  have hd0 : 0 < d' := by
    rcases Int.lt_or_le 0 d' with h | h
    · exact h
    · have := Int.mul_nonneg_of_nonpos_of_nonpos (show -g ≤ 0 by omega) h
      rw [Int.neg_mul] at this
      omega
  have hb0' : 0 < b' := by
    rcases Int.lt_or_le 0 b' with h | h
    · exact h
    · have := Int.mul_nonneg_of_nonpos_of_nonpos (show -g ≤ 0 by omega) h
      rw [Int.neg_mul] at this
      omega
  have hgd : g ≤ q.den := by
    have : g * 1 ≤ g * d' := Int.mul_le_mul_of_nonneg_left (by omega) (by omega)
    omega
  rw [chk_pos (by omega), chk_pos (by omega)]
  simp only [nam]
  rw [chk_pos (by omega)]
  have tb : b.tdiv g = b' := by
    have := Int.mul_tdiv_cancel_left (a := g) b' (by omega)
    rw [← hb'] at this
    exact this
  have td : (((q.den : Nat) : Int)).tdiv g = d' := by
    have := Int.mul_tdiv_cancel_left (a := g) d' (by omega)
    rw [← hd'] at this
    exact this
  rw [tb, td]
  -- the sum's parts, times g
  have ey : (q.num * b' + a * d') * g = q.num * b + a * q.den := by
    rw [Int.add_mul, Int.mul_assoc, Int.mul_assoc, Int.mul_comm b' g, Int.mul_comm d' g, ← hb', ← hd']
  have ez : (d' * b) * g = q.den * b := by
    rw [Int.mul_right_comm, Int.mul_comm d' g, ← hd']
  have hz0 : 0 < d' * b := Int.mul_pos hd0 hb0
  have er : q + Rat.divInt a b = Rat.divInt (q.num * b' + a * d') (d' * b) := by
    rw [add_divInt (by omega), ← ey, ← ez, Rat.divInt_mul_right (by omega)]
  have b1 : (q.num * b + a * q.den).natAbs ≤ N * B + A * D := abs_mul_add_le h.1 hb ha (by rw [Int.natAbs_natCast]; exact h.2)
  have b2 : (((q.den : Nat) : Int) * b).natAbs ≤ D * B := by
    rw [Int.natAbs_mul, Int.natAbs_natCast]
    exact Nat.mul_le_mul h.2 hb
  have c1 : (q.num * b' + a * d').natAbs ≤ (q.num * b + a * q.den).natAbs := by
    rw [← ey, Int.natAbs_mul]
    exact Nat.le_mul_of_pos_right _ (by omega)
  have c2 : (d' * b).natAbs ≤ (((q.den : Nat) : Int) * b).natAbs := by
    rw [← ez, Int.natAbs_mul (d' * b) g]
    exact Nat.le_mul_of_pos_right _ (by omega)
  rw [er]
  generalize q.num * b' + a * d' = y at c1 ⊢
  generalize d' * b = z at c2 hz0 ⊢
  have hy : s63 y := by omega
  have hz : s63 z := by omega
  rw [common_spec hy hz, bnd1_s]
  have hG : 0 < Int.gcd y z := Int.gcd_pos_of_ne_zero_right y (by omega)
  obtain ⟨y', hy'⟩ := Int.gcd_dvd_left y z
  obtain ⟨z', hz'⟩ := Int.gcd_dvd_right y z
  obtain ⟨p1, p2⟩ := divInt_parts (g := ((Int.gcd y z : Nat) : Int)) (by omega) hy' hz' rfl (by omega)
  generalize hGe : ((Int.gcd y z : Nat) : Int) = G at *
  have hGp : 0 < G := by omega
  have hz0' : 0 < z' := by
    rcases Int.lt_or_le 0 z' with h | h
    · exact h
    · have := Int.mul_nonneg_of_nonpos_of_nonpos (show -G ≤ 0 by omega) h
      rw [Int.neg_mul] at this
      omega
  have hGz : G ≤ z := by
    have : G * 1 ≤ G * z' := Int.mul_le_mul_of_nonneg_left (by omega) (by omega)
    omega
  have ty : y.tdiv G = y' := by
    have := Int.mul_tdiv_cancel_left (a := G) y' (by omega)
    rw [← hy'] at this
    exact this
  have tz : z.tdiv G = z' := by
    have := Int.mul_tdiv_cancel_left (a := G) z' (by omega)
    rw [← hz'] at this
    exact this
  rw [p1, p2, Int.sign_eq_one_of_pos hz0', Int.one_mul, show ((z'.natAbs : Nat) : Int) = z' by omega]
  by_cases h1 : G ≤ 1
  · have : G = 1 := by omega
    subst this
    rw [if_pos (by decide)]
    rw [Int.one_mul] at hy' hz'
    rw [hy', hz']
  · rw [if_neg (by rw [wJ_le (by omega) (by decide)]; exact h1), chk_pos (by omega)]
    rw [chk_pos (by omega), ty, tz]
/-- comparison by cross products -/
theorem cross_lt {a b c d x r s : Int} (ha : a = b * x + r) (hc : c = d * x + s) : (a * d < c * b) ↔ (r * d < s * b) := by
  subst ha; subst hc
  have e : (b * x + r) * d = b * x * d + r * d := Int.add_mul _ _ _
  have e2 : (d * x + s) * b = b * x * d + s * b := by
    rw [Int.add_mul]
    congr 1
    rw [Int.mul_comm d x, Int.mul_assoc, Int.mul_comm d b, ← Int.mul_assoc, Int.mul_comm x b]
  rw [e, e2]
  omega
theorem cross_eq {a b c d x r s : Int} (ha : a = b * x + r) (hc : c = d * x + s) : (a * d = c * b) ↔ (r * d = s * b) := by
  subst ha; subst hc
  have e : (b * x + r) * d = b * x * d + r * d := Int.add_mul _ _ _
  have e2 : (d * x + s) * b = b * x * d + s * b := by
    rw [Int.add_mul]
    congr 1
    rw [Int.mul_comm d x, Int.mul_assoc, Int.mul_comm d b, ← Int.mul_assoc, Int.mul_comm x b]
  rw [e, e2]
  omega
theorem cross_floor {a b c d x y r s : Int} (hb : 0 < b) (hd : 0 < d) (ha : a = b * x + r) (hc : c = d * y + s) (hr : 0 ≤ r ∧ r < b) (hs : 0 ≤ s ∧ s < d) (hxy : x < y) : a * d < c * b := by
  have h1 : a < b * (x + 1) := by rw [ha, Int.mul_add]; omega
  have h2 : d * (x + 1) ≤ c := by
    have : d * (x + 1) ≤ d * y := Int.mul_le_mul_of_nonneg_left (by omega) (by omega)
    omega
  have h3 : a * d < b * (x + 1) * d := Int.mul_lt_mul_of_pos_right h1 hd
  have h4 : d * (x + 1) * b ≤ c * b := Int.mul_le_mul_of_nonneg_right h2 (by omega)
  have e : b * (x + 1) * d = d * (x + 1) * b := by
    rw [Int.mul_comm b, Int.mul_assoc, Int.mul_comm b d, ← Int.mul_assoc, Int.mul_comm (x + 1) d]
  omega
abbrev p63 (a : Int) : Prop := 0 ≤ a ∧ a ≤ 9223372036854775807
theorem tmod_nn {a b : Int} (ha : 0 ≤ a) (hb : 0 < b) : 0 ≤ a.tmod b ∧ a.tmod b < b ∧ a = b * a.tdiv b + a.tmod b ∧ 0 ≤ a.tdiv b ∧ a.tdiv b ≤ a := by
  refine ⟨Int.tmod_nonneg b ha, Int.tmod_lt_of_pos a hb, (Int.mul_tdiv_add_tmod a b).symm, Int.tdiv_nonneg ha (by omega), ?_⟩
  exact Int.tdiv_le_self b ha
theorem isLess_spec {F : Nat} {a b c d : Int} (ha : p63 a) (hb : p63 b) (hb0 : 0 < b) (hc : p63 c) (hd : p63 d) (hd0 : 0 < d) : m_X9_isLess F a b c d = some (if a * d < c * b then 1 else 0) := by
  unfold m_X9_isLess m_X9_isLess_at
  refine loopN_rec (I := fun q : Int × Int × Int × Int => p63 q.1 ∧ (p63 q.2.1 ∧ 0 < q.2.1) ∧ p63 q.2.2.1 ∧ (p63 q.2.2.2 ∧ 0 < q.2.2.2)) (μ := fun q => max (eu q.1.natAbs q.2.1.natAbs) (eu q.2.2.1.natAbs q.2.2.2.natAbs)) (P := fun q x => x = some (if q.1 * q.2.2.2 < q.2.2.1 * q.2.1 then 1 else 0)) ?_ 200 (a, b, c, d) ⟨ha, ⟨hb, hb0⟩, hc, ⟨hd, hd0⟩⟩ ?_
  · rintro k ⟨a, b, c, d⟩ ⟨ha, ⟨hb, hb0⟩, hc, ⟨hd, hd0⟩⟩ ih
    simp only at ha hb hb0 hc hd hd0 ih ⊢
    unfold mz_X9_isLess
    obtain ⟨r1, r2, r3, r4, r5⟩ := tmod_nn ha.1 hb0
    obtain ⟨s1, s2, s3, s4, s5⟩ := tmod_nn hc.1 hd0
    rw [chk_pos (by omega)]
    simp only [nam]
    rw [chk_pos (by omega)]
    by_cases hxy : a.tdiv b = c.tdiv d
    · rw [if_pos (by rw [hxy]), chk_pos (by omega)]
      have s3' : c = d * a.tdiv b + c.tmod d := by
        rw [hxy]
        exact s3
      have hx := cross_lt (x := a.tdiv b) r3 s3'
      by_cases h0 : c.tmod d = 0
      · rw [if_pos (by rw [h0]), if_neg]
        rw [hx, h0, Int.zero_mul]
        have := Int.mul_nonneg r1 (show 0 ≤ d by omega)
        omega
      · rw [if_neg (by rw [wJ_eq (by omega) (by decide)]; exact h0), chk_pos (by omega)]
        by_cases h1 : a.tmod b = 0
        · rw [if_pos (by rw [h1]), if_pos]
          rw [hx, h1, Int.zero_mul]
          exact Int.mul_pos (by omega) hb0
        · rw [if_neg (by rw [wJ_eq (by omega) (by decide)]; exact h1), chk_pos (by omega), chk_pos (by omega)]
          have e1 : eu d.natAbs (c.tmod d).natAbs < eu c.natAbs d.natAbs := by
            rw [Int.natAbs_tmod]; exact eu_step (by omega)
          have e2 : eu b.natAbs (a.tmod b).natAbs < eu a.natAbs b.natAbs := by
            rw [Int.natAbs_tmod]; exact eu_step (by omega)
          have := ih (d, c.tmod d, b, a.tmod b) ⟨hd, ⟨by simp only; omega, by simp only; omega⟩, hb, ⟨by simp only; omega, by simp only; omega⟩⟩ (by simp only; omega)
          simp only at this
          rw [this, bnd1_s]
          have hiff : (d * a.tmod b < b * c.tmod d) ↔ a * d < c * b := by
            rw [hx, Int.mul_comm d, Int.mul_comm b]
          by_cases hh : a * d < c * b
          · rw [if_pos (hiff.mpr hh), if_pos hh, if_neg (by decide)]
          · rw [if_neg (fun q => hh (hiff.mp q)), if_neg hh, if_pos rfl]
    · rw [if_neg (by rw [wJ_eq (by omega) (by omega)]; exact hxy)]
      rcases Int.lt_or_gt_of_ne hxy with h | h
      · rw [if_neg (by rw [wJ_le (by omega) (by omega)]; omega), if_pos (cross_floor hb0 hd0 r3 s3 ⟨r1, r2⟩ ⟨s1, s2⟩ h)]
      · rw [if_pos (by rw [wJ_le (by omega) (by omega)]; omega), if_neg]
        have := cross_floor hd0 hb0 s3 r3 ⟨s1, s2⟩ ⟨r1, r2⟩ h
        omega
  · have h1 := eu_le (a := a.natAbs) (b := b.natAbs) (k := 63) (by omega) (by omega)
    have h2 := eu_le (a := c.natAbs) (b := d.natAbs) (k := 63) (by omega) (by omega)
    show max (eu a.natAbs b.natAbs) (eu c.natAbs d.natAbs) < 200
    omega
theorem xorJ_sign {a b : Int} (ha : s63 a) (hb : s63 b) (hb0 : 0 < b) : (wJ 0 ≤ wJ (xorJ a b)) = (0 ≤ a) := by
  have e : wJ (xorJ a b) = wJ a ^^^ wJ b := wJ_of _
  rw [e, Int64.le_iff_toInt_le]
  have h0 : (wJ 0).toInt = 0 := by decide
  rw [h0]
  have m1 : (wJ a).toBitVec.msb = decide (a < 0) := by
    rw [BitVec.msb_eq_toInt]
    have : (wJ a).toBitVec.toInt = a := wJ_toInt (by omega)
    rw [this]
  have m2 : (wJ b).toBitVec.msb = false := by
    rw [BitVec.msb_eq_toInt]
    have : (wJ b).toBitVec.toInt = b := wJ_toInt (by omega)
    rw [this]
    exact decide_eq_false (by omega)
  have m3 : (wJ a ^^^ wJ b).toBitVec.msb = decide ((wJ a ^^^ wJ b).toInt < 0) := BitVec.msb_eq_toInt
  have m4 : (wJ a ^^^ wJ b).toBitVec.msb = decide (a < 0) := by
    rw [Int64.toBitVec_xor, BitVec.msb_xor, m1, m2, Bool.xor_false]
  rw [m4] at m3
  apply propext
  have := decide_eq_decide.mp m3
  omega
theorem floorDiv_spec {F : Nat} {a b : Int} (ha : s63 a) (hb : s63 b) (hb0 : 0 < b) : m_J9_floorDiv_f86c9 F a b = some (a / b) := by
  unfold m_J9_floorDiv_f86c9
  rw [chk_pos (by omega)]
  simp only [nam]
  simp only [xorJ_sign ha hb hb0]
  by_cases h : 0 ≤ a
  · rw [if_pos h, Int.tdiv_eq_ediv_of_nonneg h]
  · rw [if_neg h]
    have h1 := Int.mul_tdiv_add_tmod a b
    have h20 := Int.tmod_nonneg b (show 0 ≤ -a by omega)
    rw [Int.neg_tmod] at h20
    have h2 : -b < a.tmod b ∧ a.tmod b ≤ 0 := ⟨Int.lt_tmod_of_pos a hb0, by omega⟩
    have h3 := Int.mul_ediv_add_emod a b
    have h4 := Int.emod_nonneg a (show b ≠ 0 by omega)
    have h5 := Int.emod_lt_of_pos a hb0
    have hmul : a.tdiv b * b = b * a.tdiv b := Int.mul_comm _ _
    have hle : s63 (a.tdiv b * b) := by omega
    by_cases h6 : a.tdiv b * b = a
    · rw [if_pos (by rw [h6])]
      congr 1
      have h7 : b * (a.tdiv b - a / b) = a % b := by rw [Int.mul_sub]; omega
      rcases Int.lt_trichotomy (a.tdiv b - a / b) 0 with q | q | q
      · have := Int.mul_le_mul_of_nonneg_left (show a.tdiv b - a / b ≤ -1 by omega) (show 0 ≤ b by omega)
        omega
      · omega
      · have := Int.mul_le_mul_of_nonneg_left (show 1 ≤ a.tdiv b - a / b by omega) (show 0 ≤ b by omega)
        omega
    · rw [if_neg (by rw [wJ_eq (by omega) (by omega)]; exact h6)]
      congr 1
      have h7 : b * (a.tdiv b - a / b) = a % b - a.tmod b := by rw [Int.mul_sub]; omega
      have h8 : a.tmod b ≠ 0 := by omega
      rcases Int.lt_trichotomy (a.tdiv b - a / b) 1 with q | q | q
      · have := Int.mul_le_mul_of_nonneg_left (show a.tdiv b - a / b ≤ 0 by omega) (show 0 ≤ b by omega)
        omega
      · omega
      · have := Int.mul_le_mul_of_nonneg_left (show 2 ≤ a.tdiv b - a / b by omega) (show 0 ≤ b by omega)
        omega
theorem wholeOf_spec {F : Nat} {k a b : Int} (ha : s63 (k * a)) (hb : s63 b) (hb0 : 0 < b) : m_X1_wholeOf F k a b = some (k * a / b) := by
  unfold m_X1_wholeOf
  rw [ifJ_eq (by omega) (by decide), if_neg (by omega), floorDiv_spec ha hb hb0, bnd1_s]
/-- how two fractions stand -/
def cmpF (a b c d : Int) : Int := if a * d < c * b then -1 else if a * d = c * b then 0 else 1
theorem compare_spec {F : Nat} {a b : Int} (ha : s63 a) (hb : s63 b) : m_J13_compare_74951 F a b = some (if a < b then -1 else if a = b then 0 else 1) := by
  unfold m_J13_compare_74951
  rw [ifJ_le (by omega) (by omega), ifJ_eq (by omega) (by omega)]
  by_cases h : a < b
  · rw [if_neg (by omega), if_pos h]
  · rw [if_pos (by omega), if_neg h]
    split <;> rfl
theorem against_spec {F : Nat} (hF : 1000 ≤ F) {a b c d : Int} (ha : p63 a) (hb : p63 b) (hb0 : 0 < b) (hc : p63 c) (hd : p63 d) (hd0 : 0 < d) : m_X1_against F a b c d = some (cmpF a b c d) := by
  unfold m_X1_against ml_X1_against_29
  have key := loopN_rec (body := fun (k : Int × Int × Int × Int × Int × Int → Option (Int)) q => mb_X1_against_29 F (fun y0 y1 y2 y3 y4 y5 => k (y0, y1, y2, y3, y4, y5)) q.1 q.2.1 q.2.2.1 q.2.2.2.1 q.2.2.2.2.1 q.2.2.2.2.2) (I := fun q : Int × Int × Int × Int × Int × Int => p63 q.1 ∧ (p63 q.2.1 ∧ 0 < q.2.1) ∧ p63 q.2.2.1 ∧ (p63 q.2.2.2.1 ∧ 0 < q.2.2.2.1) ∧ (q.2.2.2.2.1 = 1 ∨ q.2.2.2.2.1 = -1) ∧ 0 ≤ q.2.2.2.2.2 ∧ q.2.2.2.2.2 + (max (eu q.1.natAbs q.2.1.natAbs) (eu q.2.2.1.natAbs q.2.2.2.1.natAbs) : Nat) ≤ 199) (μ := fun q => max (eu q.1.natAbs q.2.1.natAbs) (eu q.2.2.1.natAbs q.2.2.2.1.natAbs)) (P := fun q x => x = some (q.2.2.2.2.1 * cmpF q.1 q.2.1 q.2.2.1 q.2.2.2.1)) ?_ F (a, b, c, d, 1, 0) ?_ ?_
  · simp only [Int.one_mul] at key
    exact key
  · rintro k ⟨a, b, c, d, sg, i⟩ ⟨ha, ⟨hb, hb0⟩, hc, ⟨hd, hd0⟩, hsg, hi0, hi⟩ ih
    simp only at ha hb hb0 hc hd hd0 hsg hi0 hi ih ⊢
    unfold mb_X1_against_29
    rw [if_neg (by rw [wI_le (by decide) (by omega)]; omega), if_neg (by rw [wJ_eq (by omega) (by decide)]; omega), if_neg (by rw [wJ_eq (by omega) (by decide)]; omega), floorDiv_spec (by omega) (by omega) hb0, bnd1_s, floorDiv_spec (by omega) (by omega) hd0, bnd1_s]
    have r3 := (Int.mul_ediv_add_emod a b).symm
    have r1 := Int.emod_nonneg a (show b ≠ 0 by omega)
    have r2 := Int.emod_lt_of_pos a hb0
    have s3 := (Int.mul_ediv_add_emod c d).symm
    have s1 := Int.emod_nonneg c (show d ≠ 0 by omega)
    have s2 := Int.emod_lt_of_pos c hd0
    have r4 : 0 ≤ a / b := Int.ediv_nonneg ha.1 (by omega)
    have r5 : a / b ≤ a := Int.ediv_le_self b ha.1
    have s4 : 0 ≤ c / d := Int.ediv_nonneg hc.1 (by omega)
    have s5 : c / d ≤ c := Int.ediv_le_self d hc.1
    have er : a - a / b * b = a % b := by rw [Int.mul_comm]; omega
    have es : c - c / d * d = c % d := by rw [Int.mul_comm]; omega
    by_cases hxy : a / b = c / d
    · rw [if_pos (by rw [hxy])]
      simp only [nam]
      rw [er, es]
      have s3' : c = d * (a / b) + c % d := by
        rw [hxy]
        exact s3
      have hlt := cross_lt (x := a / b) r3 s3'
      have heq := cross_eq (x := a / b) r3 s3'
      have fin : (a % b = 0 ∨ c % d = 0) → mb_X1_against_126 F sg (a % b) (c % d) = some (sg * cmpF a b c d) := by
        intro hz
        unfold mb_X1_against_126
        rw [compare_spec (by omega) (by omega), bnd1_s]
        congr 2
        unfold cmpF
        have g1 : 0 ≤ a % b * d := Int.mul_nonneg r1 (by omega)
        have g2 : 0 ≤ c % d * b := Int.mul_nonneg s1 (by omega)
        rcases hz with hz | hz
        · rw [hz, Int.zero_mul] at hlt heq
          by_cases hq : c % d = 0
          · rw [hq, Int.zero_mul] at hlt heq
            rw [hz, hq, if_neg (by decide), if_pos rfl, if_neg (by omega), if_pos (by omega)]
          · have := Int.mul_pos (show 0 < c % d by omega) hb0
            rw [hz, if_pos (by omega), if_pos (by omega)]
        · rw [hz, Int.zero_mul] at hlt heq
          by_cases hq : a % b = 0
          · rw [hq, Int.zero_mul] at hlt heq
            rw [hz, hq, if_neg (by decide), if_pos rfl, if_neg (by omega), if_pos (by omega)]
          · have := Int.mul_pos (show 0 < a % b by omega) hd0
            rw [hz, if_neg (by omega), if_neg (by omega), if_neg (by omega), if_neg (by omega)]
      by_cases h0 : a % b = 0
      · rw [if_pos (by rw [h0])]
        exact fin (Or.inl h0)
      · rw [if_neg (by rw [wJ_eq (by omega) (by decide)]; exact h0)]
        by_cases h1 : c % d = 0
        · rw [if_pos (by rw [h1])]
          exact fin (Or.inr h1)
        · rw [if_neg (by rw [wJ_eq (by omega) (by decide)]; exact h1)]
          have n1 : (a % b).natAbs = a.natAbs % b.natAbs := by
            rw [Int.natAbs_emod_of_nonneg ha.1]
          have n2 : (c % d).natAbs = c.natAbs % d.natAbs := by
            rw [Int.natAbs_emod_of_nonneg hc.1]
          have e1 : eu d.natAbs (c % d).natAbs < eu c.natAbs d.natAbs := by rw [n2]; exact eu_step (by omega)
          have e2 : eu b.natAbs (a % b).natAbs < eu a.natAbs b.natAbs := by rw [n1]; exact eu_step (by omega)
          have := ih (b, a % b, d, c % d, -sg, i + 1) ⟨hb, ⟨by simp only; omega, by simp only; omega⟩, hd, ⟨by simp only; omega, by simp only; omega⟩, by simp only; omega, by simp only; omega, by simp only; omega⟩ (by simp only; omega)
          simp only at this
          rw [this]
          congr 1
          have hc1 : b * (c % d) = c % d * b := Int.mul_comm _ _
          have hc2 : d * (a % b) = a % b * d := Int.mul_comm _ _
          unfold cmpF
          rw [hc1, hc2, Int.neg_mul, ← Int.mul_neg]
          congr 1
          by_cases g1 : a * d < c * b
          · rw [if_pos g1, if_neg (by omega), if_neg (by omega)]
          · by_cases g2 : a * d = c * b
            · rw [if_neg g1, if_pos g2, if_neg (by omega), if_pos (by omega)]
              rfl
            · rw [if_neg g1, if_neg g2, if_pos (by omega)]
              rfl
    · rw [if_neg (by rw [wJ_eq (by omega) (by omega)]; exact hxy)]
      rcases Int.lt_or_gt_of_ne hxy with h | h
      · rw [if_neg (by rw [wJ_le (by omega) (by omega)]; omega)]
        have := cross_floor hb0 hd0 r3 s3 ⟨r1, r2⟩ ⟨s1, s2⟩ h
        unfold cmpF
        rw [if_pos this, Int.mul_neg, Int.mul_one]
      · rw [if_pos (by rw [wJ_le (by omega) (by omega)]; omega)]
        have := cross_floor hd0 hb0 s3 r3 ⟨s1, s2⟩ ⟨r1, r2⟩ h
        unfold cmpF
        rw [if_neg (by omega), if_neg (by omega), Int.mul_one]
  · have h1 := eu_le (a := a.natAbs) (b := b.natAbs) (k := 63) (by omega) (by omega)
    have h2 := eu_le (a := c.natAbs) (b := d.natAbs) (k := 63) (by omega) (by omega)
    exact ⟨ha, ⟨hb, hb0⟩, hc, ⟨hd, hd0⟩, Or.inl rfl, by simp only; omega, by simp only; omega⟩
  · have h1 := eu_le (a := a.natAbs) (b := b.natAbs) (k := 63) (by omega) (by omega)
    have h2 := eu_le (a := c.natAbs) (b := d.natAbs) (k := 63) (by omega) (by omega)
    show max (eu a.natAbs b.natAbs) (eu c.natAbs d.natAbs) < F
    omega
