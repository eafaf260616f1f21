/-! ANSWERS SIDE BY SIDE: first tools -/
def Eq1 {α β : Type} (x : Option (Int × α)) (y : Option (Int × β)) : Prop := ∃ v w, x = some v ∧ y = some w ∧ v.1 = w.1
def Eq0 {β : Type} (x : Option Int) (y : Option (Int × β)) : Prop := ∃ v w, x = some v ∧ y = some w ∧ v = w.1
theorem Eq1.mk {α β : Type} {r : Int} {a : α} {b : β} : Eq1 (some (r, a)) (some (r, b)) := ⟨_, _, rfl, rfl, rfl⟩
theorem Eq0.mk {β : Type} {r : Int} {b : β} : Eq0 (some r) (some (r, b)) := ⟨_, _, rfl, rfl, rfl⟩
theorem Eq1.of {α β : Type} {r s : Int} {a : α} {b : β} (h : r = s) : Eq1 (some (r, a)) (some (s, b)) := ⟨_, _, rfl, rfl, h⟩
/-- two loops at one pace -/
theorem loopN_rel {σ τ ρ ρ' : Type} {b1 : (σ → Option ρ) → σ → Option ρ} {b2 : (τ → Option ρ') → τ → Option ρ'} (I : σ → τ → Prop) (μ : σ → Nat) (P : Option ρ → Option ρ' → Prop)
    (step : ∀ (k1 : σ → Option ρ) (k2 : τ → Option ρ') (s : σ) (t : τ), I s t → (∀ s' t', I s' t' → μ s' < μ s → P (k1 s') (k2 t')) → P (b1 k1 s) (b2 k2 t)) : ∀ (n : Nat) (s : σ) (t : τ), I s t → μ s < n → P (loopN b1 n s) (loopN b2 n t)
  | 0, s, t, _, h => by omega
  | n + 1, s, t, hI, h => step (loopN b1 n) (loopN b2 n) s t hI (fun s' t' h1 h2 => loopN_rel I μ P step n s' t' h1 (by omega))
def okB (r : Int → Int) : Nat → Int → Bool
  | 0, _ => true
  | m + 1, x => decide (0 < r x) && okB r m (x + 1)
theorem okB_iff {r : Int → Int} : ∀ (m : Nat) (x : Int), okB r m x = true ↔ okA r x m
  | 0, x => ⟨fun _ i h1 h2 => by omega, fun _ => rfl⟩
  | m + 1, x => by
    unfold okB
    rw [Bool.and_eq_true, decide_eq_true_eq, okB_iff m (x + 1)]
    constructor
    · rintro ⟨h1, h2⟩ i hi1 hi2
      by_cases e : i = x
      · rw [e]; exact h1
      · exact h2 i (by omega) (by omega)
    · intro h
      exact ⟨h x (by omega) (by omega), fun i hi1 hi2 => h i (by omega) (by omega)⟩
/-- the time of a way, if one comes to its end -/
def tmO (st r : Int → Int) (m : Nat) (x : Int) : Option Rat := if okB r m x = true then some (accT st r m 0 x) else none
theorem okB_congr {r r' : Int → Int} {m : Nat} {x : Int} (h : ∀ i, x ≤ i → i < x + m → r i = r' i) : okB r m x = okB r' m x := by
  have h1 := okB_iff (r := r) m x
  have h2 := okB_iff (r := r') m x
  have h3 : okA r x m ↔ okA r' x m := by
    constructor
    · intro q i a b
      rw [← h i a b]
      exact q i a b
    · intro q i a b
      rw [h i a b]
      exact q i a b
  cases e1 : okB r m x <;> cases e2 : okB r' m x <;> simp_all
theorem tmO_congr {st r st' r' : Int → Int} {m : Nat} {x : Int} (h : ∀ i, x ≤ i → i < x + m → st i = st' i ∧ r i = r' i) : tmO st r m x = tmO st' r' m x := by
  unfold tmO
  rw [okB_congr (fun i a b => (h i a b).2), accT_congr m 0 x h]
def Res (o : Option Rat) (x : Option (Int × Int × Int)) : Prop := match o with
  | some q => x = some (1, q.num, (q.den : Int))
  | none => ∃ A B, x = some (0, A, B)
theorem res_of {st r : Int → Int} {m : Nat} {x : Int} {y : Option (Int × Int × Int)} (h : (okA r x m → y = some (1, (accT st r m 0 x).num, ((accT st r m 0 x).den : Int))) ∧ (¬ okA r x m → ∃ A B, y = some (0, A, B))) : Res (tmO st r m x) y := by
  unfold tmO
  by_cases e : okB r m x = true
  · rw [if_pos e]
    exact h.1 ((okB_iff m x).mp e)
  · rw [if_neg e]
    exact h.2 (fun q => e ((okB_iff m x).mpr q))
theorem accT_nonneg {st r : Int → Int} : ∀ (m : Nat) (q : Rat) (x : Int), 0 ≤ q → (∀ i, x ≤ i → i < x + m → 0 ≤ st i ∧ 0 < r i) → 0 ≤ accT st r m q x
  | 0, q, x, hq, _ => hq
  | m + 1, q, x, hq, h => accT_nonneg m _ (x + 1) (Rat.add_nonneg hq (Rat.divInt_nonneg (h x (by omega) (by omega)).1 (by have := (h x (by omega) (by omega)).2; omega))) (fun i a b => h i (by omega) (by omega))
theorem tmO_bt {A : Nat} {st r : Int → Int} {m : Nat} {x : Int} {q : Rat} (h : tmO st r m x = some q) (hs : ∀ i, x ≤ i → i < x + m → 0 ≤ st i ∧ (st i).natAbs ≤ A ∧ r i ≤ 90) : Bt A 0 1 m q ∧ 0 ≤ q := by
  unfold tmO at h
  by_cases e : okB r m x = true
  · rw [if_pos e] at h
    have h := Option.some.inj h
    have ok := (okB_iff m x).mp e
    subst h
    refine ⟨?_, accT_nonneg m 0 x (Rat.le_refl) (fun i a b => ⟨(hs i a b).1, ok i a b⟩)⟩
    have := accT_bt (A := A) (N := 0) (D := 1) m 0 0 x (Bt.start Bd.zero) (fun i a b => ⟨(hs i a b).2.1, ok i a b, (hs i a b).2.2⟩)
    rw [Nat.zero_add] at this
    exact this
  · rw [if_neg e] at h
    cases h
theorem rtS0 {pace : Int} {sp : Int → Int} {i : Int} (h : 0 ≤ i ∧ i < 4) : rtS 0 pace sp i = pace + sp i := by
  unfold rtS
  rw [if_neg]
  rcases (show i = 0 ∨ i = 1 ∨ i = 2 ∨ i = 3 by omega) with rfl | rfl | rfl | rfl <;> decide
theorem side_spec {F : Nat} {x a b : Int} (hx : r32 x) : m_X1_side F x a b = some (if x = 0 then a else b) := by
  unfold m_X1_side
  rw [ifI_eq hx (by decide)]
  split <;> rfl
theorem half_spec {F : Nat} {x a b : Int} (hx : r32 x) : m_X9_half F x a b = some (if x = 0 then a else b) := by
  unfold m_X9_half
  rw [ifI_eq hx (by decide)]
  split <;> rfl
/-- a fraction that a comparison may meet -/
def Nq (q : Rat) : Prop := 0 ≤ q ∧ q.num.natAbs ≤ 9223372036854775807 ∧ q.den ≤ 9223372036854775807
theorem Nq.p {q : Rat} (h : Nq q) : p63 q.num ∧ p63 (q.den : Int) ∧ 0 < (q.den : Int) := by
  have h1 := Rat.num_nonneg.mpr h.1
  have h2 := h.2.1
  have h3 := h.2.2
  have h4 : 0 < q.den := Nat.pos_of_ne_zero q.den_nz
  omega
theorem Nq.of {q : Rat} {N D : Nat} (h : Bd q N D) (h0 : 0 ≤ q) (h1 : N ≤ 9223372036854775807) (h2 : D ≤ 9223372036854775807) : Nq q := ⟨h0, Nat.le_trans h.1 h1, Nat.le_trans h.2 h2⟩
theorem Bt.nq {A N D j : Nat} {q : Rat} (h : Bt A N D j q) (h0 : 0 ≤ q) (hc : Cap A N D j) : Nq q := Nq.of h h0 hc.1 hc.2
theorem isLessQ {F : Nat} {q t : Rat} (hq : Nq q) (ht : Nq t) : m_X9_isLess F q.num q.den t.num t.den = some (bI (q < t)) := by
  obtain ⟨h1, h2, h3⟩ := hq.p
  obtain ⟨h4, h5, h6⟩ := ht.p
  rw [isLess_spec h1 h2 h3 h4 h5 h6]
  unfold bI
  have := Rat.lt_iff q t
  by_cases h : q < t
  · rw [if_pos h, if_pos (this.mp h)]
  · rw [if_neg h, if_neg (fun z => h (this.mpr z))]
theorem againstQ {F : Nat} (hF : 1000 ≤ F) {q t : Rat} (hq : Nq q) (ht : Nq t) : m_X1_against F q.num q.den t.num t.den = some (if q < t then -1 else if q = t then 0 else 1) := by
  obtain ⟨h1, h2, h3⟩ := hq.p
  obtain ⟨h4, h5, h6⟩ := ht.p
  rw [against_spec hF h1 h2 h3 h4 h5 h6]
  unfold cmpF
  have e1 := Rat.lt_iff q t
  have e2 := @Rat.eq_iff_mul_eq_mul q t
  by_cases h : q < t
  · rw [if_pos h, if_pos (e1.mp h)]
  · rw [if_neg h, if_neg (fun z => h (e1.mpr z))]
    by_cases h' : q = t
    · rw [if_pos h', if_pos (e2.mp h')]
    · rw [if_neg h', if_neg (fun z => h' (e2.mpr z))]
theorem isStair_spec {F : Nat} {f : Int → Int} (h : r32 (f 0)) : m_X9_isStair F f = some (bI (0 < f 0)) := by
  unfold m_X9_isStair bI
  rw [ifI_le (by omega) (by decide)]
  by_cases h1 : f 0 ≤ 0
  · rw [if_pos h1, if_neg (by omega)]
  · rw [if_neg h1, if_pos (by omega)]
theorem isThere_spec {F : Nat} {x : Int} (h : r32 x) : m_X2_isThere F x = some (bI (0 < x)) := by
  unfold m_X2_isThere bI
  rw [ifI_le (by omega) (by decide)]
  by_cases h1 : x ≤ 0
  · rw [if_pos h1, if_neg (by omega)]
  · rw [if_neg h1, if_pos (by omega)]
theorem orI_0 {b : Int} (h : r32 b) : orI b 0 = b := by
  unfold orI
  have : wI b ||| wI 0 = wI b := by
    show wI b ||| 0 = wI b
    exact Int32.or_zero
  rw [this, wI_toInt h]
theorem orI_in (a b : Int) : r32 (orI a b) := by
  unfold orI
  have h1 := Int32.le_toInt (wI a ||| wI b)
  have h2 := Int32.toInt_lt (wI a ||| wI b)
  omega
/-- the time of a walker of this pace -/
def TM (steps speeds : Int → Int) (parts pace : Int) : Option Rat := tmO steps (fun i => pace + speeds i) parts.toNat 0
def TB (steps speeds : Int → Int) (parts pace : Int) : Option Rat := tmO steps (fun i => pace + -1 * speeds i) parts.toNat 0
section OPS
variable {lines odds parts walkers bands sided st wk pc wd acts : Int} {steps speeds paces carried aP aS l h p a b c : Int → Int} {F : Nat}
/-- the layout in use beside region 0 -/
abbrev LayN (lines odds parts : Int) (steps speeds : Int → Int) (walkers : Int) (paces : Int → Int) (bands : Int) (carried : Int → Int) (sided st wk pc wd acts : Int) (aP aS : Int → Int) (l h p a b c : Int → Int) : Prop := Lay lines odds parts steps speeds walkers paces bands carried sided st wk pc wd acts aP aS (l 0) h p a b c
theorem crossesR (hF : 1000 ≤ F) (L : LayN lines odds parts steps speeds walkers paces bands carried sided st wk pc wd acts aP aS l h p a b c) {pace : Int} (hp : 0 ≤ pace ∧ pace ≤ 60) : Res (TM steps speeds parts pace) (m_X6_crosses F pace 0 parts speeds steps) := by
  obtain ⟨-, -, ⟨e1, p0, p4⟩, -, -, -, -, hq, -⟩ := id L
  have main := crosses_spec hF (pace := pace) (still := 0) (parts := parts) (sp := speeds) (stp := steps) ⟨p0, p4⟩ (fun i h0 h1 => by
    have := hq i h0 h1
    have := L.speeds_in h0 h1
    rw [rtS0 (by omega)]
    omega)
  have := res_of main
  unfold TM
  rw [tmO_congr (st' := steps) (r' := rtS 0 pace speeds) (fun i h0 h1 => ⟨rfl, (rtS0 (by omega)).symm⟩)]
  exact this
theorem goesR (hF : 1000 ≤ F) (L : LayN lines odds parts steps speeds walkers paces bands carried sided st wk pc wd acts aP aS l h p a b c) {s' : Int → Int} (hs : ∀ i, 0 ≤ i → i < parts → s' i = speeds i) {pace : Int} (hp : 0 ≤ pace ∧ pace ≤ 60) : Res (TM steps speeds parts pace) (m_X9_goes F pace 1 h p s') := by
  obtain ⟨-, -, ⟨e1, p0, p4⟩, -, -, -, -, hq, -⟩ := id L
  have main := goes_spec hF (by_ := pace) (way := 1) (h := h) (p := p) (sp := s') (by omega) (fun i h0 h1 => by
    have := hq i h0 (by omega)
    have := L.speeds_in h0 (show i < parts by omega)
    rw [hs i h0 (by omega)]
    omega)
  have := res_of main
  unfold TM
  rw [tmO_congr (st' := fun i => p (2 * i)) (r' := fun i => pace + 1 * s' i) (fun i h0 h1 => ⟨((hq i h0 (by omega)).1).symm, by rw [hs i h0 (by omega)]; omega⟩), ← e1]
  exact this
theorem goesB (hF : 1000 ≤ F) (L : LayN lines odds parts steps speeds walkers paces bands carried sided st wk pc wd acts aP aS l h p a b c) {s' : Int → Int} (hs : ∀ i, 0 ≤ i → i < parts → s' i = speeds i) {pace : Int} (hp : 0 ≤ pace ∧ pace ≤ 60) : Res (TB steps speeds parts pace) (m_X9_goes F pace (-1) h p s') := by
  obtain ⟨-, -, ⟨e1, p0, p4⟩, -, -, -, -, hq, -⟩ := id L
  have main := goes_spec hF (by_ := pace) (way := -1) (h := h) (p := p) (sp := s') (by omega) (fun i h0 h1 => by
    have := hq i h0 (by omega)
    have := L.speeds_in h0 (show i < parts by omega)
    rw [hs i h0 (by omega)]
    omega)
  have := res_of main
  unfold TB
  rw [tmO_congr (st' := fun i => p (2 * i)) (r' := fun i => pace + -1 * s' i) (fun i h0 h1 => ⟨((hq i h0 (by omega)).1).symm, by rw [hs i h0 (by omega)]⟩), ← e1]
  exact this
theorem TM_nq (L : LayN lines odds parts steps speeds walkers paces bands carried sided st wk pc wd acts aP aS l h p a b c) {pace : Int} (hp : 0 ≤ pace ∧ pace ≤ 60) {q : Rat} (hT : TM steps speeds parts pace = some q) : Bt 200 0 1 parts.toNat q ∧ 0 ≤ q ∧ Nq q := by
  obtain ⟨-, -, ⟨e1, p0, p4⟩, -, -, -, -, hq, -⟩ := id L
  obtain ⟨h1, h2⟩ := tmO_bt (A := 200) hT (fun i h0 h1 => by
    have := hq i h0 (by omega)
    have := L.speeds_in h0 (show i < parts by omega)
    omega)
  exact ⟨h1, h2, h1.nq h2 (Cap8.le (by omega))⟩
theorem TB_nq (L : LayN lines odds parts steps speeds walkers paces bands carried sided st wk pc wd acts aP aS l h p a b c) {pace : Int} (hp : 0 ≤ pace ∧ pace ≤ 60) {q : Rat} (hT : TB steps speeds parts pace = some q) : Bt 200 0 1 parts.toNat q ∧ 0 ≤ q ∧ Nq q := by
  obtain ⟨-, -, ⟨e1, p0, p4⟩, -, -, -, -, hq, -⟩ := id L
  obtain ⟨h1, h2⟩ := tmO_bt (A := 200) hT (fun i h0 h1 => by
    have := hq i h0 (by omega)
    have := L.speeds_in h0 (show i < parts by omega)
    omega)
  exact ⟨h1, h2, h1.nq h2 (Cap8.le (by omega))⟩
theorem isWay_spec (hF : 1000 ≤ F) (L : LayN lines odds parts steps speeds walkers paces bands carried sided st wk pc wd acts aP aS l h p a b c) {x1 x2 : Int} (hx1 : r32 x1) (hx2 : r32 x2) (sp : Int → Int) : ∃ s', m_X9_isWay F x1 x2 c h p sp = some (bI ((0 ≤ x1 ∧ x1 < walkers) ∧ (0 ≤ x2 ∧ x2 ≤ 1)), s') ∧ (((0 ≤ x1 ∧ x1 < walkers) ∧ (0 ≤ x2 ∧ x2 ≤ 1)) → ∀ i, 0 ≤ i → i < parts → s' i = speeds i) := by
  obtain ⟨-, -, -, ⟨e2, w0, w8⟩, -⟩ := id L
  unfold m_X9_isWay
  rw [isWalker_spec hx1 (by omega), bnd1_s, ifB, e2]
  by_cases h1 : 0 ≤ x1 ∧ x1 < walkers
  · rw [if_pos h1, isHalf_spec hx2, bnd1_s, ifB]
    by_cases h2 : 0 ≤ x2 ∧ x2 ≤ 1
    · rw [if_pos h2]
      obtain ⟨s', e, hs⟩ := lays_spec hF L sp
      rw [e, bnd1_s, bI_t ⟨h1, h2⟩]
      exact ⟨s', rfl, fun _ => hs⟩
    · rw [if_neg h2, bI_f (fun z => h2 z.2)]
      exact ⟨sp, rfl, fun z => absurd z.2 h2⟩
  · rw [if_neg h1, bI_f (fun z => h1 z.1)]
    exact ⟨sp, rfl, fun z => absurd z.1 h1⟩
theorem areSeconds_spec (hF : 1000 ≤ F) (L : LayN lines odds parts steps speeds walkers paces bands carried sided st wk pc wd acts aP aS l h p a b c) {x1 x2 x3 : Int} (hx1 : r32 x1) (hx2 : r32 x2) (hx3 : r32 x3) (sp : Int → Int) : ∃ s', m_X9_areSeconds F x1 x2 x3 c h p sp = some (bI ((0 ≤ x1 ∧ x1 < walkers) ∧ (0 ≤ x2 ∧ x2 ≤ x3)), s') ∧ (((0 ≤ x1 ∧ x1 < walkers) ∧ (0 ≤ x2 ∧ x2 ≤ x3)) → ∀ i, 0 ≤ i → i < parts → s' i = speeds i) := by
  obtain ⟨s', e, hs⟩ := isWay_spec hF L hx1 (show r32 0 by decide) sp
  unfold m_X9_areSeconds
  rw [e, bnd2_s, ifB]
  by_cases h1 : 0 ≤ x1 ∧ x1 < walkers
  · rw [if_pos ⟨h1, by decide⟩, chk_pos hx2, chk_pos hx3, in_spec (by omega) (by decide) (by omega), bnd1_s, ifB]
    by_cases h2 : 0 ≤ x2 ∧ x2 ≤ x3
    · rw [if_pos h2, bI_t ⟨h1, h2⟩]
      exact ⟨s', rfl, fun _ => hs ⟨h1, by decide⟩⟩
    · rw [if_neg h2, bI_f (fun z => h2 z.2)]
      exact ⟨s', rfl, fun z => absurd z.2 h2⟩
  · rw [if_neg (fun z => h1 z.1), bI_f (fun z => h1 z.1)]
    exact ⟨s', rfl, fun z => absurd z.1 h1⟩
theorem isTrain_spec (hF : 1000 ≤ F) (L : LayN lines odds parts steps speeds walkers paces bands carried sided st wk pc wd acts aP aS l h p a b c) {x1 x2 : Int} (hx1 : r32 x1) (hx2 : r32 x2) (sp : Int → Int) : ∃ s', m_X9_isTrain F x1 x2 c h p sp = some (bI ((0 ≤ x1 ∧ x1 < walkers) ∧ (0 ≤ x2 ∧ x2 ≤ 600)), s') ∧ (((0 ≤ x1 ∧ x1 < walkers) ∧ (0 ≤ x2 ∧ x2 ≤ 600)) → ∀ i, 0 ≤ i → i < parts → s' i = speeds i) := by
  obtain ⟨s', e, hs⟩ := isWay_spec hF L hx1 (show r32 0 by decide) sp
  unfold m_X9_isTrain
  rw [e, bnd2_s, ifB]
  by_cases h1 : 0 ≤ x1 ∧ x1 < walkers
  · rw [if_pos ⟨h1, by decide⟩, chk_pos hx2, in_spec (by omega) (by decide) (by decide), bnd1_s, ifB]
    by_cases h2 : 0 ≤ x2 ∧ x2 ≤ 600
    · rw [if_pos h2, bI_t ⟨h1, h2⟩]
      exact ⟨s', rfl, fun _ => hs ⟨h1, by decide⟩⟩
    · rw [if_neg h2, bI_f (fun z => h2 z.2)]
      exact ⟨s', rfl, fun z => absurd z.2 h2⟩
  · rw [if_neg (fun z => h1 z.1), bI_f (fun z => h1 z.1)]
    exact ⟨s', rfl, fun z => absurd z.1 h1⟩
/-- part -/
theorem op_part (hF : 1000 ≤ F) (L : LayN lines odds parts steps speeds walkers paces bands carried sided st wk pc wd acts aP aS l h p a b c) {x1 x2 : Int} (hx1 : r32 x1) (hx2 : r32 x2) (sp : Int → Int) : Eq0 (m_X8_part F x1 x2 parts speeds steps) (m_X9_part F x1 x2 c h p sp) := by
  obtain ⟨-, -, ⟨e1, p0, p4⟩, -, -, -, -, hq, -⟩ := id L
  unfold m_X8_part m_X9_part
  rw [hasPart_spec hx1 ⟨p0, p4⟩, bnd1_s, ifB, isPart_spec hx1 (by omega), bnd1_s, ifB, e1]
  by_cases h1 : 0 ≤ x1 ∧ x1 < parts
  · rw [if_pos h1, if_pos h1, isSide_spec hx2, bnd1_s, ifB, chk_pos hx2, in_spec (by omega) (by decide) (by decide), bnd1_s, ifB]
    by_cases h2 : 0 ≤ x2 ∧ x2 ≤ 1
    · obtain ⟨s', e, hs⟩ := lays_spec hF L sp
      rw [if_pos h2, if_pos h2, e, bnd1_s, ifI_eq hx2 (by decide), ifI_eq hx2 (by decide)]
      by_cases h3 : x2 = 0
      · rw [if_pos h3, if_pos h3, chk_pos (by omega)]
        unfold m_X9_stepsOf
        rw [chk_pos (by omega), bnd1_s, (hq x1 h1.1 h1.2).1]
        exact Eq0.mk
      · rw [if_neg h3, if_neg h3, chk_pos (by omega), chk_pos (by omega), hs x1 h1.1 h1.2]
        exact Eq0.mk
    · rw [if_neg h2, if_neg h2]
      exact Eq0.mk
  · rw [if_neg h1, if_neg h1]
    exact Eq0.mk
/-- walker -/
theorem op_walker (L : LayN lines odds parts steps speeds walkers paces bands carried sided st wk pc wd acts aP aS l h p a b c) {x1 : Int} (hx1 : r32 x1) : Eq0 (m_X8_walker F x1 walkers paces) (m_X9_walker F x1 h a) := by
  obtain ⟨-, -, -, ⟨e2, w0, w8⟩, -, -, -, -, hw, -⟩ := id L
  unfold m_X8_walker m_X9_walker
  rw [hasWalker_spec hx1 ⟨w0, w8⟩, bnd1_s, ifB, isWalker_spec hx1 (by omega), bnd1_s, ifB, e2]
  by_cases h1 : 0 ≤ x1 ∧ x1 < walkers
  · rw [if_pos h1, if_pos h1, chk_pos (by omega), chk_pos (by omega), (hw x1 h1.1 h1.2).1]
    exact Eq0.mk
  · rw [if_neg h1, if_neg h1]
    exact Eq0.mk
/-- time -/
theorem op_time (hF : 1000 ≤ F) (L : LayN lines odds parts steps speeds walkers paces bands carried sided st wk pc wd acts aP aS l h p a b c) {x1 x2 : Int} (hx1 : r32 x1) (hx2 : r32 x2) (u v u' v' : Int) (sp : Int → Int) : Eq1 (m_X8_time F x1 x2 parts walkers paces speeds steps u v) (m_X9_time F x1 x2 u' v' c h a p sp) := by
  obtain ⟨-, -, -, ⟨e2, w0, w8⟩, -, -, -, -, hw, -⟩ := id L
  obtain ⟨s', e, hs⟩ := isWay_spec hF L hx1 hx2 sp
  unfold m_X8_time m_X9_time
  rw [hasWalker_spec hx1 ⟨w0, w8⟩, bnd1_s, ifB, e, bnd2_s, ifB]
  by_cases h1 : 0 ≤ x1 ∧ x1 < walkers
  · rw [if_pos h1, isSide_spec hx2, bnd1_s, ifB]
    by_cases h2 : 0 ≤ x2 ∧ x2 ≤ 1
    · have hp := hw x1 h1.1 h1.2
      have cr := crossesR hF L (pace := paces x1) (by omega)
      have go := goesR hF L (hs ⟨h1, h2⟩) (pace := paces x1) (by omega)
      rw [if_pos h2, if_pos ⟨h1, h2⟩, chk_pos (by omega), chk_pos (by omega), hp.1]
      cases hT : TM steps speeds parts (paces x1) with
      | none =>
        rw [hT] at cr go
        obtain ⟨A, B, cr⟩ := cr
        obtain ⟨A', B', go⟩ := go
        rw [cr, go, bnd3_s, bnd3_s, if_pos rfl, if_pos rfl]
        exact Eq1.mk
      | some q =>
        rw [hT] at cr go
        simp only [Res] at cr go
        rw [cr, go, bnd3_s, bnd3_s, if_neg (by decide), if_neg (by decide), side_spec hx2, half_spec hx2, bnd1_s, bnd1_s]
        exact Eq1.mk
    · rw [if_neg h2, if_neg (fun z => h2 z.2)]
      exact Eq1.mk
  · rw [if_neg h1, if_neg (fun z => h1 z.1)]
    exact Eq1.mk
/-- spends -/
theorem op_spends (hF : 1000 ≤ F) (L : LayN lines odds parts steps speeds walkers paces bands carried sided st wk pc wd acts aP aS l h p a b c) {x1 x2 x3 : Int} (hx1 : r32 x1) (hx2 : r32 x2) (hx3 : r32 x3) (u v u' v' : Int) (sp : Int → Int) : Eq1 (m_X8_spends F x1 x2 x3 parts walkers paces speeds steps u v) (m_X9_spends F x1 x2 x3 u' v' c h a p sp) := by
  obtain ⟨-, -, ⟨e1, p0, p4⟩, ⟨e2, w0, w8⟩, -, -, -, hq, hw, -⟩ := id L
  obtain ⟨s', e, hs⟩ := isWay_spec hF L hx1 hx3 sp
  unfold m_X8_spends m_X9_spends
  rw [hasWalker_spec hx1 ⟨w0, w8⟩, bnd1_s, ifB, e, bnd2_s, ifB, isPart_spec hx2 (by omega), bnd1_s, ifB, hasPart_spec hx2 ⟨p0, p4⟩, bnd1_s, ifB, isSide_spec hx3, bnd1_s, ifB, e1]
  by_cases h1 : 0 ≤ x1 ∧ x1 < walkers
  · by_cases h2 : 0 ≤ x2 ∧ x2 < parts
    · by_cases h3 : 0 ≤ x3 ∧ x3 ≤ 1
      · have hp := hw x1 h1.1 h1.2
        have hz := hq x2 h2.1 h2.2
        have hy := L.speeds_in h2.1 h2.2
        rw [if_pos h1, if_pos h2, if_pos h3, if_pos ⟨h1, h3⟩, if_pos h2, chk_pos (by omega), chk_pos (by omega), chk_pos (by omega), chk_pos (by omega)]
        simp only [nam]
        rw [hp.1, hs ⟨h1, h3⟩ x2 h2.1 h2.2, ifI_lt (by decide) (by omega), ifI_lt (by decide) (by omega)]
        by_cases h4 : 0 < paces x1 + speeds x2
        · rw [if_pos h4, if_pos h4, chk_pos (by omega), chk_pos (by omega), chk_pos (by omega), put_spec hF (by omega) (by omega), bnd2_s]
          unfold m_X9_zero m_X9_stepsOf
          rw [bnd2_s, chk_pos (by omega), bnd1_s, hz.1, chk_pos (by omega), chk_pos (by omega)]
          have := Bt.adds (F := F) (A := 200) (N := 0) (D := 1) (j := 0) (q := 0) (a := steps x2) (b := paces x1 + speeds x2) (Bt.start Bd.zero) (by omega) (by omega) (Cap8.le (by omega))
          rw [Rat.zero_add] at this
          rw [show m_X9_adds F (steps x2) (paces x1 + speeds x2) 0 1 = _ from this, bnd2_s, side_spec hx3, half_spec hx3, bnd1_s, bnd1_s]
          exact Eq1.mk
        · rw [if_neg h4, if_neg h4]
          exact Eq1.mk
      · rw [if_pos h1, if_pos h2, if_neg h3, if_neg (fun z => h3 z.2)]
        exact Eq1.mk
    · rw [if_pos h1, if_neg h2]
      by_cases h3 : 0 ≤ x3 ∧ x3 ≤ 1
      · rw [if_pos ⟨h1, h3⟩, if_neg h2]
        exact Eq1.mk
      · rw [if_neg (fun z => h3 z.2)]
        exact Eq1.mk
  · rw [if_neg h1, if_neg (fun z => h1 z.1)]
    exact Eq1.mk
/-- never -/
theorem op_never (hF : 1000 ≤ F) (L : LayN lines odds parts steps speeds walkers paces bands carried sided st wk pc wd acts aP aS l h p a b c) (u v u' v' : Int) (sp : Int → Int) : Eq1 (m_X8_never F lines parts walkers paces speeds steps u v) (m_X9_never F u' v' c h l a p sp) := by
  obtain ⟨⟨e0, l0, l1⟩, -, -, ⟨e2, w0, w8⟩, -, -, -, -, hw, -⟩ := id L
  unfold m_X8_never m_X9_never
  rw [isThere_spec (by omega), bnd1_s, ifB, isStair_spec (by omega), bnd1_s, ifB, e0]
  by_cases h1 : 0 < lines
  · obtain ⟨s', e, hs⟩ := lays_spec hF L sp
    rw [if_pos h1, if_pos h1, e, bnd1_s]
    unfold ml_X8_never_17 ml_X9_never_23
    refine loopN_rel (I := fun s t => s.1 = t.1 ∧ s.2.1 = t.2.1 ∧ r32 s.1 ∧ 0 ≤ s.2.1 ∧ s.2.1 ≤ walkers) (μ := fun s => (walkers - s.2.1).toNat) (P := Eq1) ?_ F _ _ ?_ ?_
    · rintro k1 k2 ⟨b1, x, y1, z1⟩ ⟨b2, x', y2, z2⟩ ⟨hb, hxx, hr, hx0, hx1⟩ ih
      simp only at hb hxx hr hx0 hx1 ih ⊢
      subst hb; subst hxx
      unfold mb_X8_never_17 mb_X9_never_23
      rw [e2, ifI_le (by omega) (by omega), ifI_le (by omega) (by omega)]
      by_cases hx : walkers ≤ x
      · rw [if_pos hx, if_pos hx]
        exact Eq1.mk
      · have hp := hw x hx0 (by omega)
        have cr := crossesR hF L (pace := paces x) (by omega)
        have go := goesR hF L hs (pace := paces x) (by omega)
        rw [if_neg hx, if_neg hx, chk_pos (by omega), chk_pos (by omega), hp.1]
        cases hT : TM steps speeds parts (paces x) with
        | none =>
          rw [hT] at cr go
          obtain ⟨A, B, cr⟩ := cr
          obtain ⟨A', B', go⟩ := go
          rw [cr, go, bnd3_s, bnd3_s, if_pos rfl, if_pos rfl]
          simp only [nam, mb_X8_never_58, mb_X9_never_55]
          exact ih _ _ ⟨rfl, rfl, orI_in _ _, by simp only; omega, by simp only; omega⟩ (by simp only; omega)
        | some q =>
          rw [hT] at cr go
          simp only [Res] at cr go
          rw [cr, go, bnd3_s, bnd3_s, if_neg (by decide), if_neg (by decide)]
          simp only [nam, mb_X8_never_58, mb_X9_never_55]
          rw [orI_0 hr]
          exact ih _ _ ⟨rfl, rfl, hr, by simp only; omega, by simp only; omega⟩ (by simp only; omega)
    · exact ⟨rfl, rfl, by simp only; decide, by simp only; omega, by simp only; omega⟩
    · simp only
      omega
  · rw [if_neg h1, if_neg h1]
    exact Eq1.mk
end OPS
