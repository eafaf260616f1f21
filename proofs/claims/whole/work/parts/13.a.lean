/-! lace, ties, saves, spurt, runs, rests -/
theorem Bt.step2 {A N j k : Nat} {q : Rat} {a b : Int} (h : Bt A N 1 j q) (ha : a.natAbs ≤ A * 90 ^ k) (hb : b.natAbs ≤ 90 ^ (k + 1)) (hb0 : b ≠ 0) : Bt A N 1 (j + k + 1) (q + Rat.divInt a b) := by
  have e : 90 ^ j * 90 ^ (k + 1) = 90 ^ (j + k + 1) := by rw [← Nat.pow_add, Nat.add_assoc]
  have e2 : 90 ^ k * 90 ^ j ≤ 90 ^ (j + k + 1) := by
    rw [← Nat.pow_add]
    exact Nat.pow_le_pow_right (by decide) (by omega)
  have e3 : A * (j + k + 1) = A * j + A * k + A := by rw [Nat.mul_add, Nat.mul_add, Nat.mul_one]
  refine Bd.mono (Bd.add h ha hb hb0) ?_ ?_
  · have h1 : (N + A * j * 1) * 90 ^ j * 90 ^ (k + 1) = (N + A * j * 1) * 90 ^ (j + k + 1) := by rw [Nat.mul_assoc, e]
    have h2 : A * 90 ^ k * (1 * 90 ^ j) ≤ A * 90 ^ (j + k + 1) := by
      rw [Nat.one_mul, Nat.mul_assoc]
      exact Nat.mul_le_mul_left A e2
    have h3 : (N + A * j * 1) * 90 ^ (j + k + 1) + A * 90 ^ (j + k + 1) = (N + A * j * 1 + A) * 90 ^ (j + k + 1) := by rw [← Nat.add_mul]
    have h4 : (N + A * j * 1 + A) * 90 ^ (j + k + 1) ≤ (N + A * (j + k + 1) * 1) * 90 ^ (j + k + 1) := Nat.mul_le_mul_right _ (by rw [Nat.mul_one, Nat.mul_one, e3]; omega)
    omega
  · rw [Nat.one_mul, Nat.one_mul, e]
    exact Nat.le_refl _
theorem Bt.plus {A j : Nat} {q : Rat} {a : Int} (h : Bt A 0 1 j q) (ha : a.natAbs ≤ 60) : Bt A 60 1 j (q + Rat.divInt a 1) := by
  refine Bd.mono (Bd.add h ha (show (1 : Int).natAbs ≤ 1 by decide) (by decide)) ?_ ?_
  · rw [Nat.mul_one, Nat.one_mul, ← Nat.add_mul]
    exact Nat.mul_le_mul_right _ (by omega)
  · rw [Nat.mul_one]
    exact Nat.le_refl _
theorem Bt.minus {j k : Nat} {q t : Rat} (h : Bt 200 60 1 j q) (ht : Bt 200 60 1 k t) (hjk : j + k ≤ 4) : Bt 200 120 1 4 (q + Rat.divInt (-t.num) t.den) := by
  have hd : t.den ≠ 0 := t.den_nz
  have h1 : Bt 200 120 1 (j + k) (q + Rat.divInt (-t.num) t.den) := by
    refine Bd.mono (Bd.add h (a := -t.num) (b := (t.den : Int)) (A := (60 + 200 * k * 1) * 90 ^ k) (B := 1 * 90 ^ k) (by rw [Int.natAbs_neg]; exact ht.1) (by rw [Int.natAbs_natCast]; exact ht.2) (by omega)) ?_ ?_
    · have e1 : (60 + 200 * j * 1) * 90 ^ j * (1 * 90 ^ k) = (60 + 200 * j * 1) * 90 ^ (j + k) := by rw [Nat.one_mul, Nat.mul_assoc, ← Nat.pow_add]
      have e2 : (60 + 200 * k * 1) * 90 ^ k * (1 * 90 ^ j) = (60 + 200 * k * 1) * 90 ^ (j + k) := by rw [Nat.one_mul, Nat.mul_assoc, ← Nat.pow_add, Nat.add_comm k j]
      rw [e1, e2, ← Nat.add_mul]
      exact Nat.mul_le_mul_right _ (by omega)
    · rw [Nat.one_mul, Nat.one_mul, Nat.one_mul, ← Nat.pow_add]
      exact Nat.le_refl _
  exact h1.le hjk
theorem Bt.wide {N j : Nat} {q : Rat} (h : Bt 200 N 1 j q) (hN : N ≤ 120) (hj : j ≤ 4) : Bt 200 120 1 4 q := by
  have h1 : Bt 200 120 1 j q := Bd.mono h (Nat.mul_le_mul_right _ (by omega)) (Nat.le_refl _)
  exact h1.le hj
theorem okA_congr {r r' : Int → Int} {x : Int} {m : Nat} (h : ∀ i, x ≤ i → i < x + m → r i = r' i) : okA r x m ↔ okA r' x m := by
  constructor
  · intro q i a b
    rw [← h i a b]
    exact q i a b
  · intro q i a b
    rw [h i a b]
    exact q i a b
theorem div_join {s d v w : Int} (hd : d ≠ 0) (hv : v ≠ 0) : Rat.divInt s v + Rat.divInt w (d * v) = Rat.divInt (s * d + w) (d * v) := by
  have hdv : d * v ≠ 0 := Int.mul_ne_zero hd hv
  rw [← Rat.divInt_mul_left (n := s) (d := v) hd, Rat.divInt_add_divInt _ _ hdv hdv, ← Int.add_mul, Rat.divInt_mul_right hdv, Int.mul_comm d s]
section TURN
variable {lines odds parts walkers bands sided st wk pc wd acts : Int} {steps speeds paces carried aP aS l h p a b c : Int → Int} {F : Nat}
theorem addTimes0 (hF : 1000 ≤ F) {pace from_ to parts : Int} {sp stp : Int → Int} {A N D j : Nat} {q : Rat} (hp : 0 ≤ parts ∧ parts ≤ 4) (hf : 0 ≤ from_ ∧ from_ ≤ 5) (ht : 0 ≤ to ∧ to ≤ parts) (hr : ∀ i, 0 ≤ i → i < parts → ((stp i).natAbs ≤ A ∧ r32 (stp i)) ∧ -90 ≤ pace + sp i ∧ pace + sp i ≤ 90) (hq : Bt A N D j q) (hc : Cap A N D (j + (to - from_).toNat)) :
    (okA (fun i => pace + sp i) from_ (to - from_).toNat → m_X6_addTimes F pace 0 from_ to parts sp stp q.num q.den = some (1, (accT stp (fun i => pace + sp i) (to - from_).toNat q from_).num, ((accT stp (fun i => pace + sp i) (to - from_).toNat q from_).den : Int))) ∧
    (¬ okA (fun i => pace + sp i) from_ (to - from_).toNat → ∃ A B, m_X6_addTimes F pace 0 from_ to parts sp stp q.num q.den = some (0, A, B)) := by
  have main := addTimes_spec hF (pace := pace) (still := 0) (sp := sp) (stp := stp) hp hf ht (fun i h0 h1 => by
    rw [rtS0 (by omega)]
    exact hr i h0 h1) hq hc
  have hcg : ∀ i, from_ ≤ i → i < from_ + ((to - from_).toNat : Nat) → rtS 0 pace sp i = pace + sp i := fun i h0 h1 => rtS0 (by omega)
  rw [okA_congr hcg, accT_congr (st' := stp) (r' := fun i => pace + sp i) _ _ _ (fun i h0 h1 => ⟨rfl, hcg i h0 h1⟩)] at main
  exact main
/-- the reference's rest of the way -/
theorem loop339 (hF : 1000 ≤ F) {by_ x : Int} {s' : Int → Int} {N j : Nat} {q : Rat} (hN : N ≤ 60) (hn : 0 ≤ h 1 ∧ h 1 ≤ 4) (hx : 0 ≤ x ∧ x ≤ h 1) (hr : ∀ i, 0 ≤ i → i < h 1 → (1 ≤ p (2 * i) ∧ p (2 * i) ≤ 200) ∧ -90 ≤ by_ + s' i ∧ by_ + s' i ≤ 90) (hq : Bt 200 N 1 j q) (hj : j + (h 1 - x).toNat ≤ 4) :
    (okA (fun i => by_ + s' i) x (h 1 - x).toNat → ml_X9_turnsAt_339 F by_ x q.num q.den h p s' = some (1, (accT (fun i => p (2 * i)) (fun i => by_ + s' i) (h 1 - x).toNat q x).num, ((accT (fun i => p (2 * i)) (fun i => by_ + s' i) (h 1 - x).toNat q x).den : Int))) ∧
    (¬ okA (fun i => by_ + s' i) x (h 1 - x).toNat → ∃ A B, ml_X9_turnsAt_339 F by_ x q.num q.den h p s' = some (0, A, B)) := by
  unfold ml_X9_turnsAt_339
  have hcap : ∀ i, i ≤ 4 → Cap 200 N 1 i := fun i hi => by
    have h1 : 90 ^ i ≤ 90 ^ 4 := Nat.pow_le_pow_right (by decide) hi
    have h3 : (N + 200 * i * 1) * 90 ^ i ≤ 860 * 90 ^ 4 := Nat.mul_le_mul (by omega) h1
    exact ⟨Nat.le_trans h3 (by decide), Nat.le_trans (Nat.mul_le_mul_left 1 h1) (by decide)⟩
  have main := loopN_rec (body := fun (k : Int × Int × Int → Option (Int × Int × Int)) q => mb_X9_turnsAt_339 F (fun y0 y1 y2 => k (y0, y1, y2)) by_ q.1 q.2.1 q.2.2 h p s')
    (I := fun q : Int × Int × Int => 0 ≤ q.1 ∧ q.1 ≤ h 1 ∧ ∃ (t : Rat) (i : Nat), Bt 200 N 1 i t ∧ i + (h 1 - q.1).toNat ≤ 4 ∧ q.2.1 = t.num ∧ q.2.2 = (t.den : Int)) (μ := fun q => (h 1 - q.1).toNat)
    (P := fun q x => ∀ (t : Rat) (i : Nat), Bt 200 N 1 i t → i + (h 1 - q.1).toNat ≤ 4 → q.2.1 = t.num → q.2.2 = (t.den : Int) → (okA (fun i => by_ + s' i) q.1 (h 1 - q.1).toNat → x = some (1, (accT (fun i => p (2 * i)) (fun i => by_ + s' i) (h 1 - q.1).toNat t q.1).num, ((accT (fun i => p (2 * i)) (fun i => by_ + s' i) (h 1 - q.1).toNat t q.1).den : Int))) ∧ (¬ okA (fun i => by_ + s' i) q.1 (h 1 - q.1).toNat → ∃ A B, x = some (0, A, B))) ?_ F (x, q.num, (q.den : Int)) ?_ ?_
  · exact main q j hq hj rfl rfl
  · rintro k ⟨x, u, w⟩ ⟨h0, h1, -⟩ ih t i hb hi hu hw
    simp only at h0 h1 ih hb hi hu hw ⊢
    subst hu; subst hw
    unfold mb_X9_turnsAt_339
    rw [ifI_le (by omega) (by omega)]
    by_cases hx : h 1 ≤ x
    · rw [if_pos hx]
      have e : (h 1 - x).toNat = 0 := by omega
      rw [e]
      refine ⟨fun _ => rfl, fun hno => absurd (fun i h2 h3 => by omega) hno⟩
    · obtain ⟨⟨s1, s2⟩, r1, r2⟩ := hr x h0 (by omega)
      obtain ⟨m, hm⟩ : ∃ m : Nat, (h 1 - x).toNat = m + 1 := ⟨(h 1 - x).toNat - 1, by omega⟩
      have hm2 : (h 1 - (x + 1)).toNat = m := by omega
      rw [if_neg hx, chk_pos (by omega)]
      simp only [nam]
      rw [ifI_lt (by decide) (by omega)]
      by_cases hv : 0 < by_ + s' x
      · have hb2 : Bt 200 N 1 (i + 1) (t + Rat.divInt (p (2 * x)) (by_ + s' x)) := hb.step (by omega) ⟨hv, r2⟩
        unfold m_X9_stepsOf
        rw [if_pos hv, chk_pos (by omega), bnd1_s, chk_pos (by omega), chk_pos (by omega), Bt.adds hb (by omega) ⟨hv, r2⟩ (hcap _ (by omega)), bnd2_s]
        have := ih (x + 1, (t + Rat.divInt (p (2 * x)) (by_ + s' x)).num, ((t + Rat.divInt (p (2 * x)) (by_ + s' x)).den : Int)) ⟨by simp only; omega, by simp only; omega, _, i + 1, hb2, by simp only; omega, rfl, rfl⟩ (by simp only; omega) _ (i + 1) hb2 (by simp only; omega) rfl rfl
        simp only at this
        rw [hm2] at this
        rw [hm]
        refine ⟨fun hok => this.1 (fun i h2 h3 => hok i (by omega) (by omega)), fun hno => this.2 (fun hok => hno (fun i h2 h3 => ?_))⟩
        by_cases e : i = x
        · rw [e]; exact hv
        · exact hok i (by omega) (by omega)
      · rw [if_neg hv]
        refine ⟨fun hok => absurd (hok x (by omega) (by omega)) hv, fun _ => ⟨_, _, rfl⟩⟩
  · exact ⟨by simp only; omega, by simp only; omega, q, j, hq, hj, rfl, rfl⟩
  · show (h 1 - x).toNat < F
    omega
/-- the reference's way up to the change -/
theorem loop7 (hF : 1000 ≤ F) {by_ other from_ x4 x5 : Int} {s' : Int → Int} (hx4 : 0 ≤ x4 ∧ x4 ≤ 60) (hn : 0 ≤ h 1 ∧ h 1 ≤ 4) (hf : 0 ≤ from_ ∧ from_ ≤ h 1) (hr : ∀ i, 0 ≤ i → i < h 1 → (1 ≤ p (2 * i) ∧ p (2 * i) ≤ 200) ∧ -90 ≤ by_ + s' i ∧ by_ + s' i ≤ 90) :
    (okA (fun i => by_ + s' i) 0 from_.toNat → ml_X9_turnsAt_7 F by_ other from_ x4 x5 0 0 1 h p s' = ml_X9_turnsAt_81 F by_ other x4 x5 (accT (fun i => p (2 * i)) (fun i => by_ + s' i) from_.toNat 0 0).num ((accT (fun i => p (2 * i)) (fun i => by_ + s' i) from_.toNat 0 0).den : Int) from_ 0 (Rat.divInt x4 1).num ((Rat.divInt x4 1).den : Int) h p s') ∧
    (¬ okA (fun i => by_ + s' i) 0 from_.toNat → ∃ A B, ml_X9_turnsAt_7 F by_ other from_ x4 x5 0 0 1 h p s' = some (0, A, B)) := by
  have hst := Bt.adds (F := F) (A := 60) (N := 0) (D := 1) (j := 0) (q := 0) (a := x4) (b := 1) (Bt.start Bd.zero) (by omega) (by decide) (Cap.le (J := 1) ⟨by decide, by decide⟩ (by omega))
  rw [Rat.zero_add] at hst
  unfold ml_X9_turnsAt_7
  have main := loopN_rec (body := fun (k : Int × Int × Int → Option (Int × Int × Int)) q => mb_X9_turnsAt_7 F (fun y0 y1 y2 => k (y0, y1, y2)) by_ other from_ x4 x5 q.1 q.2.1 q.2.2 h p s')
    (I := fun q : Int × Int × Int => 0 ≤ q.1 ∧ q.1 ≤ from_ ∧ ∃ t : Rat, Bt 200 0 1 q.1.toNat t ∧ q.2.1 = t.num ∧ q.2.2 = (t.den : Int)) (μ := fun q => (from_ - q.1).toNat)
    (P := fun q x => ∀ t : Rat, Bt 200 0 1 q.1.toNat t → q.2.1 = t.num → q.2.2 = (t.den : Int) → (okA (fun i => by_ + s' i) q.1 (from_ - q.1).toNat → x = ml_X9_turnsAt_81 F by_ other x4 x5 (accT (fun i => p (2 * i)) (fun i => by_ + s' i) (from_ - q.1).toNat t q.1).num ((accT (fun i => p (2 * i)) (fun i => by_ + s' i) (from_ - q.1).toNat t q.1).den : Int) from_ 0 (Rat.divInt x4 1).num ((Rat.divInt x4 1).den : Int) h p s') ∧ (¬ okA (fun i => by_ + s' i) q.1 (from_ - q.1).toNat → ∃ A B, x = some (0, A, B))) ?_ F (0, 0, 1) ?_ ?_
  · have := main 0 (Bt.start Bd.zero) rfl rfl
    simp only [Int.sub_zero] at this
    exact this
  · rintro k ⟨x, u, w⟩ ⟨h0, h1, -⟩ ih t hb hu hw
    simp only at h0 h1 ih hb hu hw ⊢
    subst hu; subst hw
    unfold mb_X9_turnsAt_7
    rw [ifI_le (by omega) (by omega)]
    by_cases hx : from_ ≤ x
    · have e : (from_ - x).toNat = 0 := by omega
      unfold m_X9_zero
      rw [if_pos hx, e, bnd2_s, chk_pos (by omega), show m_X9_adds F x4 1 0 1 = _ from hst, bnd2_s]
      refine ⟨fun _ => rfl, fun hno => absurd (fun i h2 h3 => by omega) hno⟩
    · obtain ⟨⟨s1, s2⟩, r1, r2⟩ := hr x h0 (by omega)
      obtain ⟨m, hm⟩ : ∃ m : Nat, (from_ - x).toNat = m + 1 := ⟨(from_ - x).toNat - 1, by omega⟩
      have hm2 : (from_ - (x + 1)).toNat = m := by omega
      rw [if_neg hx, chk_pos (by omega)]
      simp only [nam]
      rw [ifI_lt (by decide) (by omega)]
      by_cases hv : 0 < by_ + s' x
      · have hb2 : Bt 200 0 1 (x + 1).toNat (t + Rat.divInt (p (2 * x)) (by_ + s' x)) := by
          rw [show (x + 1).toNat = x.toNat + 1 by omega]
          exact hb.step (by omega) ⟨hv, r2⟩
        unfold m_X9_stepsOf
        rw [if_pos hv, chk_pos (by omega), bnd1_s, chk_pos (by omega), chk_pos (by omega), Bt.adds hb (by omega) ⟨hv, r2⟩ (Cap8.le (by omega)), bnd2_s]
        have := ih (x + 1, (t + Rat.divInt (p (2 * x)) (by_ + s' x)).num, ((t + Rat.divInt (p (2 * x)) (by_ + s' x)).den : Int)) ⟨by simp only; omega, by simp only; omega, _, hb2, rfl, rfl⟩ (by simp only; omega) _ hb2 rfl rfl
        simp only at this
        rw [hm2] at this
        rw [hm]
        refine ⟨fun hok => this.1 (fun i h2 h3 => hok i (by omega) (by omega)), fun hno => this.2 (fun hok => hno (fun i h2 h3 => ?_))⟩
        by_cases e : i = x
        · rw [e]; exact hv
        · exact hok i (by omega) (by omega)
      · rw [if_neg hv]
        refine ⟨fun hok => absurd (hok x (by omega) (by omega)) hv, fun _ => ⟨_, _, rfl⟩⟩
  · exact ⟨by simp only; omega, by simp only; omega, 0, Bt.start Bd.zero, rfl, rfl⟩
  · show (from_ - 0).toNat < F
    omega
/-- the reference's minutes at the other pace -/
theorem loop81 (hF : 1000 ≤ F) {by_ other x4 x5 x6 x8 x : Int} {s' : Int → Int} {j : Nat} {q : Rat} (hn : 0 ≤ h 1 ∧ h 1 ≤ 4) (hx : 0 ≤ x ∧ x ≤ h 1) (hr : ∀ i, 0 ≤ i → i < h 1 → (1 ≤ p (2 * i) ∧ p (2 * i) ≤ 200) ∧ -90 ≤ other + s' i ∧ other + s' i ≤ 90) (hq : Bt 200 60 1 j q) (h0 : 0 ≤ q) (hj : j + (h 1 - x).toNat ≤ 4) :
    ml_X9_turnsAt_81 F by_ other x4 x5 x6 x8 x 0 q.num q.den h p s' = mb_X9_turnsAt_182 F by_ other x4 x5 x6 x8 (carR (fun i => p (2 * i)) (fun i => other + s' i) (h 1 - x).toNat q x).1 (carR (fun i => p (2 * i)) (fun i => other + s' i) (h 1 - x).toNat q x).2.num ((carR (fun i => p (2 * i)) (fun i => other + s' i) (h 1 - x).toNat q x).2.den : Int) h p s' := by
  have hcap : ∀ i, i ≤ 4 → Cap 200 60 1 i := fun i hi => by
    have h1 : 90 ^ i ≤ 90 ^ 4 := Nat.pow_le_pow_right (by decide) hi
    have h3 : (60 + 200 * i * 1) * 90 ^ i ≤ 860 * 90 ^ 4 := Nat.mul_le_mul (by omega) h1
    exact ⟨Nat.le_trans h3 (by decide), Nat.le_trans (Nat.mul_le_mul_left 1 h1) (by decide)⟩
  unfold ml_X9_turnsAt_81
  have main := loopN_rec (body := fun (k : Int × Int × Int × Int → Option (Int × Int × Int)) q => mb_X9_turnsAt_81 F (fun y0 y1 y2 y3 => k (y0, y1, y2, y3)) by_ other x4 x5 x6 x8 q.1 q.2.1 q.2.2.1 q.2.2.2 h p s')
    (I := fun q : Int × Int × Int × Int => (0 ≤ q.1 ∧ q.1 ≤ h 1) ∧ (q.2.1 = 0 ∨ q.2.1 = 1) ∧ ∃ (t : Rat) (i : Nat), Bt 200 60 1 i t ∧ 0 ≤ t ∧ i + (h 1 - q.1).toNat ≤ 4 ∧ q.2.2.1 = t.num ∧ q.2.2.2 = (t.den : Int)) (μ := fun q => 2 * (h 1 - q.1).toNat + (1 - q.2.1).toNat)
    (P := fun q x => ∀ (t : Rat) (i : Nat), Bt 200 60 1 i t → 0 ≤ t → i + (h 1 - q.1).toNat ≤ 4 → q.2.2.1 = t.num → q.2.2.2 = (t.den : Int) → (q.2.1 = 0 → x = mb_X9_turnsAt_182 F by_ other x4 x5 x6 x8 (carR (fun i => p (2 * i)) (fun i => other + s' i) (h 1 - q.1).toNat t q.1).1 (carR (fun i => p (2 * i)) (fun i => other + s' i) (h 1 - q.1).toNat t q.1).2.num ((carR (fun i => p (2 * i)) (fun i => other + s' i) (h 1 - q.1).toNat t q.1).2.den : Int) h p s') ∧ (q.2.1 = 1 → x = mb_X9_turnsAt_182 F by_ other x4 x5 x6 x8 q.1 t.num t.den h p s')) ?_ F (x, 0, q.num, (q.den : Int)) ?_ ?_
  · exact (main q j hq h0 hj rfl rfl).1 rfl
  · rintro k ⟨x, y, u, w⟩ ⟨⟨h0, h1⟩, hy, -⟩ ih t i hb ht hi hu hw
    simp only at h0 h1 hy ih hb ht hi hu hw ⊢
    subst hu; subst hw
    obtain ⟨⟨n0, n1⟩, d0, d1⟩ := hb.four ht (by omega)
    unfold mb_X9_turnsAt_81
    rw [ifI_le (by omega) (by omega)]
    by_cases hx : h 1 ≤ x
    · have e : (h 1 - x).toNat = 0 := by omega
      rw [if_pos hx, e]
      exact ⟨fun _ => rfl, fun _ => rfl⟩
    · obtain ⟨⟨s1, s2⟩, r1, r2⟩ := hr x h0 (by omega)
      obtain ⟨m, hm⟩ : ∃ m : Nat, (h 1 - x).toNat = m + 1 := ⟨(h 1 - x).toNat - 1, by omega⟩
      have hm2 : (h 1 - (x + 1)).toNat = m := by omega
      rw [if_neg hx, ifJ_le (by omega) (by decide), ifI_eq (by omega) (by decide), hm]
      unfold carR
      by_cases hz : t.num ≤ 0
      · have e0 : t.num = 0 := by omega
        have hno : ¬ (0 < other + s' x ∧ p (2 * x) * (t.den : Int) ≤ (other + s' x) * t.num) := by
          rintro ⟨-, hle⟩
          rw [e0, Int.mul_zero] at hle
          have := Int.mul_pos (show 0 < p (2 * x) by omega) d0
          omega
        rw [if_pos hz, if_neg hno]
        exact ⟨fun _ => rfl, fun _ => rfl⟩
      · rw [if_neg hz]
        rcases hy with hy | hy
        · subst hy
          rw [if_pos rfl, chk_pos (by omega)]
          simp only [nam]
          refine ⟨fun _ => ?_, fun hc => absurd hc (by decide)⟩
          have stay : ∀ (hno : ¬ (0 < other + s' x ∧ p (2 * x) * (t.den : Int) ≤ (other + s' x) * t.num)), mb_X9_turnsAt_146 F (fun y0 y1 y2 y3 => k (y0, y1, y2, y3)) by_ other x4 x5 x6 x8 x (other + s' x) t.num t.den h p s' = mb_X9_turnsAt_182 F by_ other x4 x5 x6 x8 x t.num t.den h p s' := by
            intro hno
            unfold mb_X9_turnsAt_146 mb_X9_turnsAt_151
            rw [if_neg one0]
            exact (ih (x, 1, t.num, (t.den : Int)) ⟨⟨h0, h1⟩, Or.inr rfl, t, i, hb, ht, hi, rfl, rfl⟩ (by simp only; omega) t i hb ht hi rfl rfl).2 rfl
          rw [ifI_le (by omega) (by decide)]
          by_cases hv : other + s' x ≤ 0
          · have hno : ¬ (0 < other + s' x ∧ p (2 * x) * (t.den : Int) ≤ (other + s' x) * t.num) := fun z => by omega
            rw [if_pos hv, if_neg hno]
            exact stay hno
          · unfold m_X9_stepsOf
            rw [if_neg hv, chk_pos (by omega), bnd1_s, chk_pos (by omega), chk_pos (by omega), isLess_spec (by omega) (by omega) (by omega) (by omega) (by omega) (by omega), bnd1_s]
            by_cases hc : t.num * (other + s' x) < p (2 * x) * t.den
            · have hno : ¬ (0 < other + s' x ∧ p (2 * x) * (t.den : Int) ≤ (other + s' x) * t.num) := by
                rw [Int.mul_comm (other + s' x)]
                omega
              rw [if_pos hc, if_neg one0, if_neg hno]
              exact stay hno
            · have hc2 : p (2 * x) * (t.den : Int) ≤ (other + s' x) * t.num := by
                rw [Int.mul_comm (other + s' x)]
                omega
              have hb2 : Bt 200 60 1 (i + 1) (t + Rat.divInt (-(p (2 * x))) (other + s' x)) := hb.step (by omega) ⟨by omega, r2⟩
              have ht2 := sub_nonneg_of (q := t) (s := p (2 * x)) (v := other + s' x) (by omega) hc2
              rw [if_neg hc, if_pos rfl, if_pos ⟨by omega, hc2⟩]
              unfold mb_X9_turnsAt_151 m_X9_stepsOf
              rw [if_pos rfl, chk_pos (by omega), bnd1_s, chk_pos (by omega), chk_pos (by omega), Bt.adds hb (by omega) ⟨by omega, r2⟩ (hcap _ (by omega)), bnd2_s]
              have := (ih (x + 1, 0, (t + Rat.divInt (-(p (2 * x))) (other + s' x)).num, ((t + Rat.divInt (-(p (2 * x))) (other + s' x)).den : Int)) ⟨⟨by simp only; omega, by simp only; omega⟩, Or.inl rfl, _, i + 1, hb2, ht2, by simp only; omega, rfl, rfl⟩ (by simp only; omega) _ (i + 1) hb2 ht2 (by simp only; omega) rfl rfl).1 rfl
              simp only at this
              rw [hm2] at this
              exact this
        · subst hy
          rw [if_neg (by decide)]
          exact ⟨fun hc => absurd hc (by decide), fun _ => rfl⟩
  · exact ⟨⟨hx.1, hx.2⟩, Or.inl rfl, q, j, hq, h0, hj, rfl, rfl⟩
  · simp only
    omega
end TURN
section TURN2
variable {lines odds parts walkers bands sided st wk pc wd acts : Int} {steps speeds paces carried aP aS l h p a b c : Int → Int} {F : Nat}
def ResC (o : Option Rat) (x : Option (Int × Int × Int × Int × Int)) : Prop := match o with
  | some q => ∃ A B, x = some (1, A, B, q.num, (q.den : Int))
  | none => ∃ A B C D, x = some (0, A, B, C, D)
/-- the reference's last sums -/
theorem tail317 {by_ x4 y : Int} {s' : Int → Int} {s X : Rat} (hx4 : 0 ≤ x4 ∧ x4 ≤ 60) (hX : Bd X 145800000 65610000) (hs : Bd s 437400000 729000) : mb_X9_turnsAt_317 F by_ x4 s.num s.den y X.num X.den h p s' = ml_X9_turnsAt_339 F by_ (y + 1) (s + Rat.divInt x4 1 + X).num ((s + Rat.divInt x4 1 + X).den : Int) h p s' := by
  have hd : s.den ≠ 0 := s.den_nz
  have e1 := adds_spec (F := F) (q := X) (a := s.num) (b := (s.den : Int)) hX hs.1 (by rw [Int.natAbs_natCast]; exact hs.2) (by omega) (by decide) (by decide) (by decide) (by decide)
  have hB := Bd.add hX hs.1 (b := (s.den : Int)) (B := 729000) (by rw [Int.natAbs_natCast]; exact hs.2) (by omega)
  rw [Rat.num_divInt_den] at e1 hB
  have e2 := adds_spec (F := F) (q := X + s) (a := x4) (b := 1) (A := 60) (B := 1) hB (by omega) (by decide) (by decide) (by decide) (by decide) (by decide) (by decide)
  unfold mb_X9_turnsAt_317
  rw [e1, bnd2_s, chk_pos (by omega), e2, bnd2_s]
  simp only [nam]
  rw [show X + s + Rat.divInt x4 1 = s + Rat.divInt x4 1 + X by rw [Rat.add_assoc, Rat.add_comm]]
/-- both sides at one change of pace -/
theorem turn_pair (hF : 1000 ≤ F) (L : LayN lines odds parts steps speeds walkers paces bands carried sided st wk pc wd acts aP aS l h p a b c) {s' : Int → Int} (hs : ∀ i, 0 ≤ i → i < parts → s' i = speeds i) {pace changed minutes stops start : Int} (hp : 0 ≤ pace ∧ pace ≤ 30) (hcg : 0 ≤ changed ∧ changed ≤ 60) (hm : 0 ≤ minutes ∧ minutes ≤ 60) (hst : stops = 0 ∨ stops = 1) (hs0 : 0 ≤ start ∧ start < parts) (u v : Int) :
    ∃ o : Option Rat, ResC o (m_X6_changes F pace changed minutes stops start parts speeds steps u v) ∧ Res o (m_X9_turnsAt F pace changed start minutes stops h p s') ∧ ∀ q, o = some q → Bt 200 120 1 4 q ∧ 0 ≤ q := by
  obtain ⟨-, -, ⟨e1, p0, p4⟩, -, -, -, -, hq, -⟩ := id L
  have hz0 : (Rat.divInt (0 : Int) 1) = 0 := Rat.zero_divInt 1
  have hsp : ∀ i, 0 ≤ i → i < parts → -30 ≤ speeds i ∧ speeds i ≤ 30 := fun i h0 h1 => L.speeds_in h0 h1
  have hr9 : ∀ (k : Int), 0 ≤ k ∧ k ≤ 60 → ∀ i, 0 ≤ i → i < h 1 → (1 ≤ p (2 * i) ∧ p (2 * i) ≤ 200) ∧ -90 ≤ k + s' i ∧ k + s' i ≤ 90 := fun k hk i h0 h1 => by
    have := hq i h0 (by omega)
    have := hsp i h0 (by omega)
    rw [hs i h0 (by omega)]
    omega
  have l7 := loop7 (F := F) (h := h) (p := p) hF (by_ := pace) (other := changed) (from_ := start) (x4 := minutes) (x5 := stops) (s' := s') hm (by omega) (by omega) (hr9 pace (by omega))
  have cg : ∀ (k : Int) (m : Nat) (x : Int), 0 ≤ x → x + m ≤ parts → ∀ i, x ≤ i → i < x + m → p (2 * i) = steps i ∧ k + s' i = k + speeds i := fun k m x hx hxm i h0 h1 => ⟨(hq i (by omega) (by omega)).1, by rw [hs i (by omega) (by omega)]⟩
  have okc : ∀ (m : Nat) (x : Int), 0 ≤ x → x + m ≤ parts → (okA (fun i => pace + s' i) x m ↔ okA (fun i => pace + speeds i) x m) := fun m x hx hxm => okA_congr (fun i h0 h1 => (cg pace m x hx hxm i h0 h1).2)
  have acc : ∀ (m : Nat) (x : Int) (q : Rat), 0 ≤ x → x + m ≤ parts → accT (fun i => p (2 * i)) (fun i => pace + s' i) m q x = accT steps (fun i => pace + speeds i) m q x := fun m x q hx hxm => accT_congr m q x (fun i h0 h1 => cg pace m x hx hxm i h0 h1)
  have at0 := addTimes0 hF (pace := pace) (from_ := 0) (to := start) (parts := parts) (sp := speeds) (stp := steps) (A := 200) (N := 0) (D := 1) (j := 0) (q := 0) ⟨p0, p4⟩ (by omega) (by omega) (fun i h0 h1 => by
    have := hq i h0 h1
    have := hsp i h0 h1
    omega) (Bt.start Bd.zero) (Cap8.le (by omega))
  rw [Int.sub_zero] at at0
  unfold m_X6_changes m_X9_turnsAt m_X9_zero
  rw [put_spec hF (by decide) (by decide), hz0, bnd2_s, bnd2_s]
  rw [okc _ _ (by omega) (by omega), acc _ _ _ (by omega) (by omega)] at l7
  by_cases hok : okA (fun i => pace + speeds i) 0 start.toNat
  · have c1 := at0.1 hok
    have r1 := l7.1 hok
    have hsb : Bt 200 0 1 start.toNat (accT steps (fun i => pace + speeds i) start.toNat 0 0) := by
      have := accT_bt (A := 200) (N := 0) (D := 1) (st := steps) (r := fun i => pace + speeds i) start.toNat 0 0 0 (Bt.start Bd.zero) (fun i h0 h1 => by
        have := hq i h0 (by omega)
        have := hsp i h0 (by omega)
        have := hok i h0 h1
        simp only at this ⊢
        omega)
      rw [Nat.zero_add] at this
      exact this
    have hsn : 0 ≤ accT steps (fun i => pace + speeds i) start.toNat 0 0 := accT_nonneg _ _ _ Rat.le_refl (fun i h0 h1 => by
      have := hq i h0 (by omega)
      exact ⟨by omega, hok i h0 h1⟩)
    have hs3 : Bd (accT steps (fun i => pace + speeds i) start.toNat 0 0) 437400000 729000 := Bd.mono (hsb.le (j := 3) (by omega)) (by decide) (by decide)
    generalize accT steps (fun i => pace + speeds i) start.toNat 0 0 = s at *
    have hmb : Bt 200 60 1 0 (Rat.divInt minutes 1) := Bt.start (Bd.of (by omega) (by decide) (by decide))
    have hmn : 0 ≤ Rat.divInt minutes 1 := Rat.divInt_nonneg hm.1 (by decide)
    have cy := carry_spec hF (pace := changed) (x := start) (parts := parts) (sp := speeds) (stp := steps) ⟨p0, p4⟩ (by omega) (fun i h0 h1 => by
      have := hq i h0 h1
      have := hsp i h0 h1
      omega) (by decide) (by decide) hmb hmn (by omega)
    have l81 := loop81 (F := F) (h := h) (p := p) hF (by_ := pace) (other := changed) (x4 := minutes) (x5 := stops) (x6 := s.num) (x8 := (s.den : Int)) (x := start) (s' := s') (by omega) (by omega) (hr9 changed hcg) hmb hmn (by omega)
    rw [e1, carR_congr (stp' := steps) (r' := fun i => changed + speeds i) _ _ _ (fun i h0 h1 => cg changed _ _ (by omega) (by omega) i h0 h1)] at l81
    have hle := carR_le (stp := steps) (r := fun i => changed + speeds i) (parts - start).toNat (Rat.divInt minutes 1) start
    have hbt := carR_bt (A := 200) (N := 60) (D := 1) (stp := steps) (r := fun i => changed + speeds i) (parts - start).toNat 0 (Rat.divInt minutes 1) start hmb hmn (fun i h0 h1 => by
      have := hq i (by omega) (by omega)
      have := hsp i (by omega) (by omega)
      omega)
    have hstop := carR_stop (stp := steps) (r := fun i => changed + speeds i) (parts - start).toNat (Rat.divInt minutes 1) start
    obtain ⟨d, hd0, hd⟩ := carR_diff (stp := steps) (r := fun i => changed + speeds i) (parts - start).toNat (Rat.divInt minutes 1) start (fun i h0 h1 => by
      have := hq i (by omega) (by omega)
      omega)
    generalize carR steps (fun i => changed + speeds i) (parts - start).toNat (Rat.divInt minutes 1) start = z at cy l81 hle hbt hstop hd
    obtain ⟨y, t⟩ := z
    simp only [Nat.zero_add] at cy l81 hle hbt hstop hd
    obtain ⟨hbt, htn⟩ := hbt
    have hadd := add_spec (F := F) hF (q := s) (a := minutes) (b := 1) (A := 60) (B := 1) hs3 (by omega) (by decide) (by decide) (by decide) (by decide)
    have hSb : Bt 200 60 1 start.toNat (s + Rat.divInt minutes 1) := hsb.plus (by omega)
    have hSn : 0 ≤ s + Rat.divInt minutes 1 := Rat.add_nonneg hsn hmn
    rw [show m_X6_addTimes F pace 0 0 start parts speeds steps (0 : Rat).num (0 : Rat).den = _ from c1, bnd3_s, if_neg one0, chk_pos (by omega), put_spec hF (by omega) (by decide), bnd2_s, cy, bnd3_s, chk_pos (by omega), hadd, bnd2_s, hasPart_spec (by omega) ⟨p0, p4⟩, bnd1_s, ifB, r1, l81]
    unfold mb_X9_turnsAt_182
    rw [e1, ifI_eq (a := y) (b := parts) (by omega) (by omega)]
    by_cases hy : y < parts
    · have hyq := hq y (by omega) hy
      have hys := hsp y (by omega) hy
      rw [if_pos (show 0 ≤ y ∧ y < parts by omega), if_neg (show ¬ y = parts by omega), chk_pos (by omega), chk_pos (by omega)]
      simp only [nam]
      rw [hs y (by omega) hy, ifI_lt (by decide) (by omega), ifI_lt (by decide) (by omega)]
      by_cases hv : 0 < pace + speeds y
      · have hk3 : (y - start).toNat ≤ 3 := by omega
        have hp3 : 90 ^ (y - start).toNat ≤ 729000 := Nat.le_trans (Nat.pow_le_pow_right (by decide) hk3) (by decide)
        have htd : t.den ≤ 90 ^ (y - start).toNat := by
          have := hbt.2
          rw [Nat.one_mul] at this
          exact this
        obtain ⟨⟨n0, n1⟩, d0, d1⟩ := Nq.small (Bd.mono (hbt.le (j := 3) hk3) (N' := 481140000) (D' := 729000) (by decide) (by decide)) htn
        have hM : ∃ M, M = (if 0 < changed + speeds y then changed + speeds y else 0) ∧ 0 ≤ M ∧ M ≤ 90 ∧ M * t.num ≤ steps y * t.den := by
          refine ⟨_, rfl, ?_, ?_, ?_⟩
          · split <;> omega
          · split <;> omega
          · have hst2 := hstop (by omega)
            by_cases hc : 0 < changed + speeds y
            · rw [if_pos hc]
              by_cases hle2 : steps y * (t.den : Int) ≤ (changed + speeds y) * t.num
              · exact absurd ⟨hc, hle2⟩ hst2
              · omega
            · rw [if_neg hc, Int.zero_mul]
              exact Int.mul_nonneg (by omega) (by omega)
        obtain ⟨M, hMe, hM0, hM90, hMle⟩ := hM
        have m1 := mul_in (x := M) (y := t.num) (M := 90) (N := 481140000) (by omega) (by omega)
        have m2 := mul_in (x := steps y) (y := (t.den : Int)) (M := 200) (N := 729000) (by omega) (by omega)
        have m3 := mul_in (x := (t.den : Int)) (y := pace + speeds y) (M := 729000) (N := 90) (by omega) (by omega)
        have hdv : 0 < (t.den : Int) * (pace + speeds y) := Int.mul_pos d0 hv
        have hWk : (steps y * (t.den : Int) - M * t.num).natAbs ≤ 200 * 90 ^ (y - start).toNat := by
          have h1 : (steps y * (t.den : Int)).natAbs ≤ 200 * 90 ^ (y - start).toNat := by
            rw [Int.natAbs_mul, Int.natAbs_natCast]
            exact Nat.mul_le_mul (by omega) htd
          omega
        have hDk : ((t.den : Int) * (pace + speeds y)).natAbs ≤ 90 ^ ((y - start).toNat + 1) := by
          rw [Int.natAbs_mul, Int.natAbs_natCast, Nat.pow_succ]
          exact Nat.mul_le_mul htd (by omega)
        have hadd2 := add_spec (F := F) hF (q := s + Rat.divInt minutes 1) (a := steps y * (t.den : Int) - M * t.num) (b := (t.den : Int) * (pace + speeds y)) (N := 481140000) (D := 729000) (A := 145800000) (B := 65610000) (Bd.mono (hSb.le (j := 3) (by omega)) (by decide) (by decide)) (by omega) (by omega) (by omega) (by decide) (by decide)
        have hS2 := hSb.step2 hWk hDk (by omega)
        have hX : Bd (Rat.divInt (steps y * (t.den : Int) - M * t.num) ((t.den : Int) * (pace + speeds y))) 145800000 65610000 := Bd.of (by omega) (by omega) (by omega)
        have hXn : 0 ≤ Rat.divInt (steps y * (t.den : Int) - M * t.num) ((t.den : Int) * (pace + speeds y)) := Rat.divInt_nonneg (by omega) (by omega)
        have at2 := addTimes0 hF (pace := pace) (from_ := y + 1) (to := parts) (parts := parts) (sp := speeds) (stp := steps) (A := 200) (N := 60) (D := 1) (j := start.toNat + (y - start).toNat + 1) ⟨p0, p4⟩ (by omega) (by omega) (fun i h0 h1 => by
          have := hq i h0 h1
          have := hsp i h0 h1
          omega) hS2 (Cap.le (J := 4) ⟨by decide, by decide⟩ (by omega))
        have l339 := loop339 (F := F) (h := h) (p := p) hF (by_ := pace) (x := y + 1) (s' := s') (by decide) (by omega) (by omega) (hr9 pace (by omega)) hS2 (by omega)
        rw [e1, okc _ _ (by omega) (by omega), acc _ _ _ (by omega) (by omega)] at l339
        have hRn : okA (fun i => pace + speeds i) (y + 1) (parts - (y + 1)).toNat → 0 ≤ accT steps (fun i => pace + speeds i) (parts - (y + 1)).toNat (s + Rat.divInt minutes 1 + Rat.divInt (steps y * (t.den : Int) - M * t.num) ((t.den : Int) * (pace + speeds y))) (y + 1) := fun hok2 => accT_nonneg _ _ _ (Rat.add_nonneg hSn hXn) (fun i h0 h1 => by
          have := hq i (by omega) (by omega)
          exact ⟨by omega, hok2 i h0 h1⟩)
        have hRb : okA (fun i => pace + speeds i) (y + 1) (parts - (y + 1)).toNat → Bt 200 120 1 4 (accT steps (fun i => pace + speeds i) (parts - (y + 1)).toNat (s + Rat.divInt minutes 1 + Rat.divInt (steps y * (t.den : Int) - M * t.num) ((t.den : Int) * (pace + speeds y))) (y + 1)) := fun hok2 => by
          have := accT_bt (st := steps) (r := fun i => pace + speeds i) (parts - (y + 1)).toNat _ _ (y + 1) hS2 (fun i h0 h1 => by
            have := hq i (by omega) (by omega)
            have := hsp i (by omega) (by omega)
            have := hok2 i h0 h1
            simp only at this ⊢
            omega)
          exact this.wide (by decide) (by omega)
        -- the reference comes to the same sum
        have href : (bnd2 (m_X9_zero F) fun o3 o4 => bnd1 (m_X9_stepsOf F y p) fun r6 => chk (r32 r6) <| chk (r32 (pace + speeds y)) <| bnd2 (m_X9_adds F r6 (pace + speeds y) o3 o4) fun o10 o11 => chk (0 ≤ y ∧ y < 4) <| if wI (changed + speeds y) ≤ wI 0 then mb_X9_turnsAt_317 F pace minutes s.num s.den y o10 o11 h p s' else if wJ t.num ≤ wJ 0 then mb_X9_turnsAt_317 F pace minutes s.num s.den y o10 o11 h p s' else chk (r32 (changed + speeds y)) <| chk (r32 (pace + speeds y)) <| bnd2 (m_X9_adds F ((-t.num) * (changed + speeds y)) ((t.den : Int) * (pace + speeds y)) o10 o11) fun o17 o18 => mb_X9_turnsAt_317 F pace minutes s.num s.den y o17 o18 h p s') = ml_X9_turnsAt_339 F pace (y + 1) (s + Rat.divInt minutes 1 + Rat.divInt (steps y * (t.den : Int) - M * t.num) ((t.den : Int) * (pace + speeds y))).num ((s + Rat.divInt minutes 1 + Rat.divInt (steps y * (t.den : Int) - M * t.num) ((t.den : Int) * (pace + speeds y))).den : Int) h p s' := by
          have ha := Bt.adds (F := F) (A := 200) (N := 0) (D := 1) (j := 0) (q := 0) (a := steps y) (b := pace + speeds y) (Bt.start Bd.zero) (by omega) (by omega) (Cap8.le (by omega))
          rw [Rat.zero_add] at ha
          unfold m_X9_zero m_X9_stepsOf
          rw [bnd2_s, chk_pos (by omega), bnd1_s, hyq.1, chk_pos (by omega), chk_pos (by omega), show m_X9_adds F (steps y) (pace + speeds y) 0 1 = _ from ha, bnd2_s, chk_pos (by omega), ifI_le (by omega) (by decide), ifJ_le (by omega) (by decide)]
          have same : M * t.num = 0 → Rat.divInt (steps y) (pace + speeds y) = Rat.divInt (steps y * (t.den : Int) - M * t.num) ((t.den : Int) * (pace + speeds y)) := fun hz => by
            rw [hz, Int.sub_zero, Int.mul_comm (steps y), Rat.divInt_mul_left (by omega)]
          by_cases g1 : changed + speeds y ≤ 0
          · rw [if_pos g1, same (by rw [hMe, if_neg (by omega), Int.zero_mul]), tail317 hm hX hs3]
          · by_cases g2 : t.num ≤ 0
            · rw [if_neg g1, if_pos g2, same (by rw [show t.num = 0 by omega, Int.mul_zero]), tail317 hm hX hs3]
            · have hMq : M = changed + speeds y := by rw [hMe, if_pos (by omega)]
              have hq1 : Bd (Rat.divInt (steps y) (pace + speeds y)) 200 90 := Bd.of (by omega) (by omega) (by omega)
              have hneg : -t.num * (changed + speeds y) = -(M * t.num) := by rw [hMq, Int.neg_mul, Int.mul_comm]
              have ha2 := adds_spec (F := F) (q := Rat.divInt (steps y) (pace + speeds y)) (a := -t.num * (changed + speeds y)) (b := (t.den : Int) * (pace + speeds y)) (A := 43302600000) (B := 65610000) hq1 (by rw [hneg]; omega) (by omega) hdv (by decide) (by decide) (by decide) (by decide)
              have hj : Rat.divInt (steps y) (pace + speeds y) + Rat.divInt (-t.num * (changed + speeds y)) ((t.den : Int) * (pace + speeds y)) = Rat.divInt (steps y * (t.den : Int) - M * t.num) ((t.den : Int) * (pace + speeds y)) := by
                rw [div_join (by omega) (by omega), hneg]
                rfl
              rw [hj] at ha2
              rw [if_neg g1, if_neg g2, chk_pos (by omega), chk_pos (by omega), ha2, bnd2_s, tail317 hm hX hs3]
        rw [if_pos hv, if_pos hv, chk_pos (by omega), max32 (by decide) (by omega), bnd1_s, ← hMe, chk_pos (by omega), chk_pos (by omega), chk_pos (by omega), chk_pos (by omega), hadd2, bnd2_s, href]
        by_cases hok2 : okA (fun i => pace + speeds i) (y + 1) (parts - (y + 1)).toNat
        · rw [at2.1 hok2, l339.1 hok2, bnd3_s, chk_pos (by decide)]
          exact ⟨some _, ⟨_, _, rfl⟩, rfl, fun q hqq => by
            rw [← Option.some.inj hqq]
            exact ⟨hRb hok2, hRn hok2⟩⟩
        · obtain ⟨A, B, ea⟩ := at2.2 hok2
          obtain ⟨A', B', el⟩ := l339.2 hok2
          rw [ea, el, bnd3_s, chk_pos (by decide)]
          exact ⟨none, ⟨_, _, _, _, rfl⟩, ⟨_, _, rfl⟩, fun q hqq => by cases hqq⟩
      · rw [if_neg hv, if_neg hv]
        exact ⟨none, ⟨_, _, _, _, rfl⟩, ⟨_, _, rfl⟩, fun q hqq => by cases hqq⟩
    · have hadds := adds_spec (F := F) (q := s) (a := minutes) (b := 1) (A := 60) (B := 1) hs3 (by omega) (by decide) (by decide) (by decide) (by decide) (by decide) (by decide)
      rw [if_neg (show ¬ (0 ≤ y ∧ y < parts) by omega), if_pos (show y = parts by omega), chk_pos (by omega), hadds, bnd2_s]
      rcases hst with hst | hst
      · subst hst
        have hb4 := Bd.mono (hbt.le (j := 4) (by omega)) (N' := 56424600000) (D' := 65610000) (by decide) (by decide)
        have hS4 := Bd.mono (hSb.le (j := 3) (by omega)) (N' := 481140000) (D' := 729000) (by decide) (by decide)
        have htd : t.den ≠ 0 := t.den_nz
        have ea := add_spec (F := F) hF (q := s + Rat.divInt minutes 1) (a := -t.num) (b := (t.den : Int)) (A := 56424600000) (B := 65610000) hS4 (by rw [Int.natAbs_neg]; exact hb4.1) (by rw [Int.natAbs_natCast]; exact hb4.2) (by omega) (by decide) (by decide)
        have el := adds_spec (F := F) (q := s + Rat.divInt minutes 1) (a := -t.num) (b := (t.den : Int)) (A := 56424600000) (B := 65610000) hS4 (by rw [Int.natAbs_neg]; exact hb4.1) (by rw [Int.natAbs_natCast]; exact hb4.2) (by omega) (by decide) (by decide) (by decide) (by decide)
        rw [if_pos rfl, if_pos rfl, ea, el, bnd2_s, bnd2_s]
        refine ⟨some _, ⟨_, _, rfl⟩, rfl, fun q hqq => ?_⟩
        rw [← Option.some.inj hqq]
        refine ⟨hSb.minus hbt (by omega), ?_⟩
        rw [← Rat.neg_divInt, Rat.num_divInt_den, ← hd, ← Rat.add_assoc, Rat.add_assoc s t d, Rat.add_comm t d, ← Rat.add_assoc, Rat.add_assoc (s + d), Rat.add_neg_cancel, Rat.add_zero]
        exact Rat.add_nonneg hsn hd0
      · subst hst
        rw [if_neg one0, if_neg one0]
        refine ⟨some _, ⟨_, _, rfl⟩, rfl, fun q hqq => ?_⟩
        rw [← Option.some.inj hqq]
        exact ⟨hSb.wide (by decide) (by omega), hSn⟩
  · obtain ⟨A, B, ea⟩ := at0.2 hok
    obtain ⟨A', B', el⟩ := l7.2 hok
    rw [show m_X6_addTimes F pace 0 0 start parts speeds steps (0 : Rat).num (0 : Rat).den = _ from ea, bnd3_s, if_pos rfl, el]
    exact ⟨none, ⟨_, _, _, _, rfl⟩, ⟨_, _, rfl⟩, fun q hqq => by cases hqq⟩
/-- what the two sides hold of the best change so far -/
def BestB (w la lb lo ba bb : Int) : Prop := lo = w ∧ r32 w ∧ (w ≠ -1 → ∃ t : Rat, Bt 200 120 1 4 t ∧ 0 ≤ t ∧ la = t.num ∧ lb = (t.den : Int) ∧ ba = t.num ∧ bb = (t.den : Int))
theorem Cap120 : Cap 200 120 1 4 := ⟨by decide, by decide⟩
theorem best_pair (hF : 1000 ≤ F) (L : LayN lines odds parts steps speeds walkers paces bands carried sided st wk pc wd acts aP aS l h p a b c) {s' : Int → Int} (hs : ∀ i, 0 ≤ i → i < parts → s' i = speeds i) {pace changed minutes stops : Int} (hp : 0 ≤ pace ∧ pace ≤ 30) (hcg : 0 ≤ changed ∧ changed ≤ 60) (hm : 0 ≤ minutes ∧ minutes ≤ 60) (hst : stops = 0 ∨ stops = 1) (u1 u2 u3 u4 u5 u6 v1 v2 v3 v4 : Int) :
    ∃ w ba bb c1 c2 c3 c4 ra rb la lb, m_X6_bestChange F pace changed minutes stops parts speeds steps u1 u2 u3 u4 u5 u6 = some (w, ba, bb, c1, c2, c3, c4) ∧ m_X9_laysTurns F pace changed minutes stops v1 v2 v3 v4 h p s' = some (ra, rb, la, lb, w) ∧ BestB w la lb w ba bb := by
  obtain ⟨-, -, ⟨e1, p0, p4⟩, -⟩ := id L
  unfold m_X6_bestChange m_X9_laysTurns ml_X6_bestChange_6 ml_X9_laysTurns_8
  refine loopN_rel (I := fun s t => s.2.1 = t.1 ∧ 0 ≤ s.2.1 ∧ s.2.1 ≤ parts ∧ BestB s.1 t.2.2.2.1 t.2.2.2.2.1 t.2.2.2.2.2 s.2.2.1 s.2.2.2.1) (μ := fun s => (parts - s.2.1).toNat) (P := fun X Y => ∃ w ba bb c1 c2 c3 c4 ra rb la lb, X = some (w, ba, bb, c1, c2, c3, c4) ∧ Y = some (ra, rb, la, lb, w) ∧ BestB w la lb w ba bb) ?_ F _ _ ?_ ?_
  · rintro k1 k2 ⟨w, x, ba, bb, ma, mb, sa, sb⟩ ⟨x', ra, rb, la, lb, lo⟩ ⟨hxx, hx0, hx1, hlo, hwr, hb⟩ ih
    simp only at hxx hx0 hx1 hlo hwr hb ih ⊢
    subst hxx; subst hlo
    unfold mb_X6_bestChange_6 mb_X9_laysTurns_8
    rw [e1, ifI_le (by omega) (by omega), ifI_le (by omega) (by omega)]
    by_cases hx : parts ≤ x
    · rw [if_pos hx, if_pos hx]
      exact ⟨_, _, _, _, _, _, _, _, _, _, _, rfl, rfl, rfl, hwr, hb⟩
    · obtain ⟨o, hC, hR, hO⟩ := turn_pair hF L hs hp hcg hm hst (start := x) (by omega) ma mb
      rw [if_neg hx, if_neg hx]
      cases o with
      | none =>
        obtain ⟨A, B, C, D, hC⟩ := hC
        obtain ⟨A', B', hR⟩ := hR
        rw [hC, hR, bnd5_s, bnd3_s, if_pos rfl, if_pos rfl]
        simp only [mb_X6_bestChange_66, mb_X9_laysTurns_39]
        exact ih _ _ ⟨rfl, by simp only; omega, by simp only; omega, rfl, hwr, hb⟩ (by simp only; omega)
      | some q =>
        obtain ⟨hqb, hq0⟩ := hO q rfl
        have hq : Nq q := hqb.nq hq0 Cap120
        obtain ⟨A, B, hC⟩ := hC
        simp only [Res] at hR
        rw [hC, hR, bnd5_s, bnd3_s, if_neg one0, if_neg one0]
        obtain ⟨la', lb', lo', hk, hcase⟩ := keeps_spec (F := F) (x1 := x) (la := la) (lb := lb) (lo := lo) hq hwr (fun z => by obtain ⟨t, ht, ht0, a1, a2, -⟩ := hb z; exact ⟨t, ht.nq ht0 Cap120, a1, a2⟩)
        rw [hk, bnd3_s, ifI_eq hwr (by decide)]
        simp only [mb_X6_bestChange_51, mb_X6_bestChange_66, mb_X9_laysTurns_39, m_X1_take, bnd2_s]
        rcases hcase with ⟨g1, g2, g3, g4⟩ | ⟨t, g1, g2, g3, g4⟩
        · subst g2; subst g3; subst g4
          rw [if_pos g1]
          exact ih _ _ ⟨rfl, by simp only; omega, by simp only; omega, rfl, by simp only; omega, fun _ => ⟨q, hqb, hq0, rfl, rfl, rfl, rfl⟩⟩ (by simp only; omega)
        · obtain ⟨t', ht', ht0, a1, a2, a3, a4⟩ := hb g1
          have : t' = t := num_den_inj (by rw [← a1, g2]) (by rw [← a2, g3])
          subst this
          rw [if_neg g1, a3, a4, againstQ hF hq (ht'.nq ht0 Cap120), bnd1_s]
          rcases g4 with ⟨g4, g5, g6, g7⟩ | ⟨g4, g5, g6, g7⟩
          · subst g5; subst g6; subst g7
            rw [if_pos g4, if_neg (by decide)]
            exact ih _ _ ⟨rfl, by simp only; omega, by simp only; omega, rfl, by simp only; omega, fun _ => ⟨q, hqb, hq0, rfl, rfl, rfl, rfl⟩⟩ (by simp only; omega)
          · subst g5; subst g6; subst g7
            rw [if_neg g4]
            have hc : wI 0 ≤ wI (if q = t' then 0 else 1) := by
              by_cases hqt : q = t'
              · rw [if_pos hqt]
                decide
              · rw [if_neg hqt]
                decide
            rw [if_pos hc]
            exact ih _ _ ⟨rfl, by simp only; omega, by simp only; omega, rfl, hwr, fun _ => ⟨t', ht', ht0, a1, a2, rfl, rfl⟩⟩ (by simp only; omega)
  · exact ⟨rfl, by simp only; omega, by simp only; omega, rfl, by simp only; decide, fun z => absurd rfl z⟩
  · simp only
    omega
end TURN2
section TURN3
variable {lines odds parts walkers bands sided st wk pc wd acts : Int} {steps speeds paces carried aP aS l h p a b c : Int → Int} {F : Nat}
theorem isTurn_spec (hF : 1000 ≤ F) (L : LayN lines odds parts steps speeds walkers paces bands carried sided st wk pc wd acts aP aS l h p a b c) {x1 x2 x3 : Int} (hx1 : r32 x1) (hx2 : r32 x2) (hx3 : r32 x3) (sp : Int → Int) : ∃ s', m_X9_isTurn F x1 x2 x3 c h p sp = some (bI (((0 ≤ x1 ∧ x1 < walkers) ∧ 0 < parts ∧ (0 ≤ x2 ∧ x2 ≤ 60)) ∧ (0 ≤ x3 ∧ x3 ≤ 1)), s') ∧ ((((0 ≤ x1 ∧ x1 < walkers) ∧ 0 < parts ∧ (0 ≤ x2 ∧ x2 ≤ 60)) ∧ (0 ≤ x3 ∧ x3 ≤ 1)) → ∀ i, 0 ≤ i → i < parts → s' i = speeds i) := by
  obtain ⟨-, -, ⟨e1, p0, p4⟩, -⟩ := id L
  obtain ⟨s', e, hs⟩ := isWay_spec hF L hx1 hx3 sp
  unfold m_X9_isTurn
  rw [e, bnd2_s, ifB]
  by_cases h1 : (0 ≤ x1 ∧ x1 < walkers) ∧ (0 ≤ x3 ∧ x3 ≤ 1)
  · rw [if_pos h1, chk_pos hx2, in_spec (by omega) (by decide) (by decide), bnd1_s, ifB]
    by_cases h2 : 0 ≤ x2 ∧ x2 ≤ 60
    · rw [if_pos h2, e1, ifI_le (by omega) (by decide)]
      by_cases h3 : parts ≤ 0
      · rw [if_pos h3, bI_f (fun z => by omega)]
        exact ⟨s', rfl, fun z => by omega⟩
      · rw [if_neg h3, bI_t ⟨⟨h1.1, by omega, h2⟩, h1.2⟩]
        exact ⟨s', rfl, fun _ => hs h1⟩
    · rw [if_neg h2, bI_f (fun z => h2 z.1.2.2)]
      exact ⟨s', rfl, fun z => absurd z.1.2.2 h2⟩
  · rw [if_neg h1, bI_f (fun z => h1 ⟨z.1.1, z.2⟩)]
    exact ⟨s', rfl, fun z => absurd ⟨z.1.1, z.2⟩ h1⟩
theorem canStop_spec (L : LayN lines odds parts steps speeds walkers paces bands carried sided st wk pc wd acts aP aS l h p a b c) {x1 x2 : Int} (hx1 : r32 x1) (hx2 : r32 x2) : m_X8_canStop F x1 x2 parts walkers = some (bI ((0 ≤ x1 ∧ x1 < walkers) ∧ 0 < parts ∧ (0 ≤ x2 ∧ x2 ≤ 60))) := by
  obtain ⟨-, -, ⟨e1, p0, p4⟩, ⟨e2, w0, w8⟩, -⟩ := id L
  unfold m_X8_canStop
  rw [hasWalker_spec hx1 ⟨w0, w8⟩, bnd1_s, ifB, ifI_le (by omega) (by decide), chk_pos hx2, isOut_spec (by omega) (by decide) (by decide), bnd1_s, ifB]
  by_cases h1 : 0 ≤ x1 ∧ x1 < walkers
  · rw [if_pos h1]
    by_cases h2 : parts ≤ 0
    · rw [if_pos h2, bI_f (fun z => by omega)]
    · rw [if_neg h2]
      by_cases h3 : 0 ≤ x2 ∧ x2 ≤ 60
      · rw [if_neg (fun z => z h3), bI_t ⟨h1, by omega, h3⟩]
      · rw [if_pos h3, bI_f (fun z => h3 z.2.2)]
  · rw [if_neg h1, bI_f (fun z => h1 z.1)]
/-- the best stop, both sides -/
theorem stop_pair (hF : 1000 ≤ F) (L : LayN lines odds parts steps speeds walkers paces bands carried sided st wk pc wd acts aP aS l h p a b c) {s' : Int → Int} (hs : ∀ i, 0 ≤ i → i < parts → s' i = speeds i) {x1 x2 : Int} (h1 : 0 ≤ x1 ∧ x1 < walkers) (h2 : 0 ≤ x2 ∧ x2 ≤ 60) (u1 u2 u3 u4 u5 u6 v1 v2 v3 v4 : Int) :
    ∃ w ba bb c1 c2 c3 c4 ra rb la lb, m_X8_bestStop F x1 x2 parts paces speeds steps u1 u2 u3 u4 u5 u6 = some (w, ba, bb, c1, c2, c3, c4) ∧ m_X9_laysTurns F (a x1) 0 x2 1 v1 v2 v3 v4 h p s' = some (ra, rb, la, lb, w) ∧ BestB w la lb w ba bb := by
  obtain ⟨-, -, -, ⟨e2, w0, w8⟩, -, -, -, -, hw, -⟩ := id L
  have hp := hw x1 h1.1 h1.2
  obtain ⟨w, ba, bb, c1, c2, c3, c4, ra, rb, la, lb, e1, e2, hb⟩ := best_pair hF L hs (pace := paces x1) (changed := 0) (minutes := x2) (stops := 1) (by omega) (by omega) h2 (Or.inr rfl) u1 u2 u3 u4 u5 u6 v1 v2 v3 v4
  unfold m_X8_bestStop
  rw [chk_pos (by omega), e1, bnd7_s, hp.1, e2]
  exact ⟨_, _, _, _, _, _, _, _, _, _, _, rfl, rfl, hb⟩
theorem run_pair (hF : 1000 ≤ F) (L : LayN lines odds parts steps speeds walkers paces bands carried sided st wk pc wd acts aP aS l h p a b c) {s' : Int → Int} (hs : ∀ i, 0 ≤ i → i < parts → s' i = speeds i) {x1 x2 x3 : Int} (h1 : 0 ≤ x1 ∧ x1 < walkers) (h2 : 0 ≤ x2 ∧ x2 ≤ 30) (h3 : 0 ≤ x3 ∧ x3 ≤ 60) (u1 u2 u3 u4 u5 u6 v1 v2 v3 v4 : Int) :
    ∃ w ba bb c1 c2 c3 c4 ra rb la lb, m_X8_bestRun F x1 x2 x3 parts paces speeds steps u1 u2 u3 u4 u5 u6 = some (w, ba, bb, c1, c2, c3, c4) ∧ m_X9_laysTurns F (a x1) (a x1 + x2) x3 0 v1 v2 v3 v4 h p s' = some (ra, rb, la, lb, w) ∧ BestB w la lb w ba bb := by
  obtain ⟨-, -, -, ⟨e2, w0, w8⟩, -, -, -, -, hw, -⟩ := id L
  have hp := hw x1 h1.1 h1.2
  obtain ⟨w, ba, bb, c1, c2, c3, c4, ra, rb, la, lb, e1, e2, hb⟩ := best_pair hF L hs (pace := paces x1) (changed := paces x1 + x2) (minutes := x3) (stops := 0) (by omega) (by omega) h3 (Or.inl rfl) u1 u2 u3 u4 u5 u6 v1 v2 v3 v4
  unfold m_X8_bestRun
  simp only [nam]
  rw [chk_pos (by omega), e1, bnd7_s, hp.1, e2]
  exact ⟨_, _, _, _, _, _, _, _, _, _, _, rfl, rfl, hb⟩
/-- lace -/
theorem op_lace (hF : 1000 ≤ F) (L : LayN lines odds parts steps speeds walkers paces bands carried sided st wk pc wd acts aP aS l h p a b c) {x1 x2 x3 : Int} (hx1 : r32 x1) (hx2 : r32 x2) (hx3 : r32 x3) (u1 u2 u3 u4 u5 u6 v1 v2 v3 v4 v5 : Int) (sp : Int → Int) : Eq1 (m_X8_lace F x1 x2 x3 parts walkers paces speeds steps u1 u2 u3 u4 u5 u6) (m_X9_lace F x1 x2 x3 v1 v2 v3 v4 v5 c h a p sp) := by
  obtain ⟨-, -, -, ⟨e2, w0, w8⟩, -⟩ := id L
  obtain ⟨s', e, hs⟩ := isTurn_spec hF L hx1 hx2 hx3 sp
  unfold m_X8_lace m_X9_lace
  rw [canStop_spec L hx1 hx2, bnd1_s, ifB, isSide_spec hx3, bnd1_s, ifB, e, bnd2_s, ifB]
  by_cases h1 : (0 ≤ x1 ∧ x1 < walkers) ∧ 0 < parts ∧ (0 ≤ x2 ∧ x2 ≤ 60)
  · by_cases h2 : 0 ≤ x3 ∧ x3 ≤ 1
    · obtain ⟨w, ba, bb, c1, c2, c3, c4, ra, rb, la, lb, f1, f2, rfl', hwr, hb⟩ := stop_pair hF L (hs ⟨h1, h2⟩) h1.1 h1.2.2 u1 u2 u3 u4 u5 u6 v1 v2 v3 v4
      rw [if_pos h1, if_pos h2, if_pos ⟨h1, h2⟩, f1, bnd7_s, chk_pos (by omega), f2, bnd5_s, ifI_eq hwr (by decide), ifI_eq hwr (by decide)]
      by_cases h3 : w = -1
      · rw [if_pos h3, if_pos h3]
        exact Eq1.mk
      · obtain ⟨t, -, -, a1, a2, a3, a4⟩ := hb h3
        rw [if_neg h3, if_neg h3, side_spec hx3, bnd1_s, ifI_eq hx3 (by decide), a1, a2, a3, a4]
        by_cases h4 : x3 = 0
        · rw [if_pos h4, if_pos h4]
          exact Eq1.mk
        · rw [if_neg h4, if_neg h4]
          exact Eq1.mk
    · rw [if_pos h1, if_neg h2, if_neg (fun z => h2 z.2)]
      exact Eq1.mk
  · rw [if_neg h1, if_neg (fun z => h1 z.1)]
    exact Eq1.mk
/-- ties -/
theorem op_ties (hF : 1000 ≤ F) (L : LayN lines odds parts steps speeds walkers paces bands carried sided st wk pc wd acts aP aS l h p a b c) {x1 x2 : Int} (hx1 : r32 x1) (hx2 : r32 x2) (u1 u2 u3 u4 u5 u6 v1 v2 v3 v4 v5 : Int) (sp : Int → Int) : Eq1 (m_X8_ties F x1 x2 parts walkers paces speeds steps u1 u2 u3 u4 u5 u6) (m_X9_ties F x1 x2 v1 v2 v3 v4 v5 c h a p sp) := by
  obtain ⟨-, -, -, ⟨e2, w0, w8⟩, -⟩ := id L
  obtain ⟨s', e, hs⟩ := isTurn_spec hF L hx1 hx2 (show r32 0 by decide) sp
  unfold m_X8_ties m_X9_ties
  rw [canStop_spec L hx1 hx2, bnd1_s, ifB, e, bnd2_s, ifB]
  by_cases h1 : (0 ≤ x1 ∧ x1 < walkers) ∧ 0 < parts ∧ (0 ≤ x2 ∧ x2 ≤ 60)
  · obtain ⟨w, ba, bb, c1, c2, c3, c4, ra, rb, la, lb, f1, f2, rfl', hwr, hb⟩ := stop_pair hF L (hs ⟨h1, by decide⟩) h1.1 h1.2.2 u1 u2 u3 u4 u5 u6 v1 v2 v3 v4
    rw [if_pos h1, if_pos ⟨h1, by decide⟩, f1, bnd7_s, chk_pos (by omega), f2, bnd5_s]
    exact Eq1.mk
  · rw [if_neg h1, if_neg (fun z => h1 z.1)]
    exact Eq1.mk
/-- saves -/
theorem op_saves (hF : 1000 ≤ F) (L : LayN lines odds parts steps speeds walkers paces bands carried sided st wk pc wd acts aP aS l h p a b c) {x1 x2 x3 : Int} (hx1 : r32 x1) (hx2 : r32 x2) (hx3 : r32 x3) (u1 u2 u3 u4 u5 u6 u7 u8 v1 v2 v3 v4 v5 : Int) (sp : Int → Int) : Eq1 (m_X8_saves F x1 x2 x3 parts walkers paces speeds steps u7 u8 u1 u2 u3 u4 u5 u6) (m_X9_saves F x1 x2 x3 v1 v2 v3 v4 v5 c h a p sp) := by
  obtain ⟨-, -, ⟨e1, p0, p4⟩, ⟨e2, w0, w8⟩, -, -, -, -, hw, -⟩ := id L
  obtain ⟨s', e, hs⟩ := isTurn_spec hF L hx1 hx2 hx3 sp
  unfold m_X8_saves m_X9_saves
  rw [canStop_spec L hx1 hx2, bnd1_s, ifB, isSide_spec hx3, bnd1_s, ifB, e, bnd2_s, ifB]
  by_cases h1 : (0 ≤ x1 ∧ x1 < walkers) ∧ 0 < parts ∧ (0 ≤ x2 ∧ x2 ≤ 60)
  · by_cases h2 : 0 ≤ x3 ∧ x3 ≤ 1
    · have hp := hw x1 h1.1.1 h1.1.2
      have cr := crossesR hF L (pace := paces x1) (by omega)
      have go := goesR hF L (hs ⟨h1, h2⟩) (pace := paces x1) (by omega)
      obtain ⟨w, ba, bb, c1, c2, c3, c4, ra, rb, la, lb, f1, f2, rfl', hwr, hb⟩ := stop_pair hF L (hs ⟨h1, h2⟩) h1.1 h1.2.2 u1 u2 u3 u4 u5 u6 v1 v2 v3 v4
      rw [if_pos h1, if_pos h2, if_pos ⟨h1, h2⟩, f1, bnd7_s, chk_pos (by omega), f2, bnd5_s, ifI_eq hwr (by decide), ifI_eq hwr (by decide)]
      simp only [chk_pos (show 0 ≤ x1 ∧ x1 < 40 by omega), chk_pos (show 0 ≤ x1 ∧ x1 < 8 by omega)]
      by_cases h3 : w = -1
      · rw [if_pos h3, if_pos h3]
        exact Eq1.mk
      · obtain ⟨t, ht, ht0, a1, a2, a3, a4⟩ := hb h3
        rw [if_neg h3, if_neg h3, hp.1]
        cases hT : TM steps speeds parts (paces x1) with
        | none =>
          rw [hT] at cr go
          obtain ⟨A, B, cr⟩ := cr
          obtain ⟨A', B', go⟩ := go
          rw [cr, go, bnd3_s, bnd3_s, if_pos rfl, if_pos rfl]
          exact Eq1.mk
        | some q =>
          obtain ⟨hqb, hq0, -⟩ := TM_nq L (by omega) hT
          rw [hT] at cr go
          simp only [Res] at cr go
          have hq4 : Bd q 52488000000 65610000 := Bd.mono (hqb.le (j := 4) (by omega)) (by decide) (by decide)
          have ea := add_spec (F := F) hF (q := q) (a := x2) (b := 1) (A := 60) (B := 1) hq4 (by omega) (by decide) (by decide) (by decide) (by decide)
          have el := adds_spec (F := F) (q := q) (a := x2) (b := 1) (A := 60) (B := 1) hq4 (by omega) (by decide) (by decide) (by decide) (by decide) (by decide) (by decide)
          have hq5 := Bd.add hq4 (a := x2) (b := 1) (A := 60) (B := 1) (by omega) (by decide) (by decide)
          have ht4 : Bd t 60361200000 65610000 := Bd.mono ht (by decide) (by decide)
          have htd : t.den ≠ 0 := t.den_nz
          have ea2 := add_spec (F := F) hF (q := q + Rat.divInt x2 1) (a := -t.num) (b := (t.den : Int)) (A := 60361200000) (B := 65610000) hq5 (by rw [Int.natAbs_neg]; exact ht4.1) (by rw [Int.natAbs_natCast]; exact ht4.2) (by omega) (by decide) (by decide)
          have el2 := adds_spec (F := F) (q := q + Rat.divInt x2 1) (a := -t.num) (b := (t.den : Int)) (A := 60361200000) (B := 65610000) hq5 (by rw [Int.natAbs_neg]; exact ht4.1) (by rw [Int.natAbs_natCast]; exact ht4.2) (by omega) (by decide) (by decide) (by decide) (by decide)
          unfold m_X1_take
          rw [cr, go, bnd3_s, bnd3_s, if_neg one0, if_neg one0, bnd2_s, chk_pos hx2, chk_pos hx2, ea, el, bnd2_s, bnd2_s, a1, a2, a3, a4, ea2, el2, bnd2_s, bnd2_s, side_spec hx3, half_spec hx3, bnd1_s, bnd1_s]
          exact Eq1.mk
    · rw [if_pos h1, if_neg h2, if_neg (fun z => h2 z.2)]
      exact Eq1.mk
  · rw [if_neg h1, if_neg (fun z => h1 z.1)]
    exact Eq1.mk
/-- spurt -/
theorem op_spurt (hF : 1000 ≤ F) (L : LayN lines odds parts steps speeds walkers paces bands carried sided st wk pc wd acts aP aS l h p a b c) {x1 x2 x3 x4 : Int} (hx1 : r32 x1) (hx2 : r32 x2) (hx3 : r32 x3) (hx4 : r32 x4) (u1 u2 u3 u4 u5 u6 v1 v2 v3 v4 v5 : Int) (sp : Int → Int) : Eq1 (m_X8_spurt F x1 x2 x3 x4 parts walkers paces speeds steps u1 u2 u3 u4 u5 u6) (m_X9_spurt F x1 x2 x3 x4 v1 v2 v3 v4 v5 c h a p sp) := by
  obtain ⟨-, -, -, ⟨e2, w0, w8⟩, -⟩ := id L
  obtain ⟨s', e, hs⟩ := isTurn_spec hF L hx1 hx3 hx4 sp
  unfold m_X8_spurt m_X9_spurt
  rw [canStop_spec L hx1 hx3, bnd1_s, ifB, chk_pos hx2, isOut_spec (by omega) (by decide) (by decide), bnd1_s, ifB, isSide_spec hx4, bnd1_s, ifB, e, bnd2_s, ifB, chk_pos hx2, in_spec (by omega) (by decide) (by decide), bnd1_s, ifB]
  by_cases h1 : (0 ≤ x1 ∧ x1 < walkers) ∧ 0 < parts ∧ (0 ≤ x3 ∧ x3 ≤ 60)
  · by_cases h5 : 0 ≤ x2 ∧ x2 ≤ 30
    · by_cases h2 : 0 ≤ x4 ∧ x4 ≤ 1
      · obtain ⟨w, ba, bb, c1, c2, c3, c4, ra, rb, la, lb, f1, f2, rfl', hwr, hb⟩ := run_pair hF L (hs ⟨h1, h2⟩) h1.1 h5 h1.2.2 u1 u2 u3 u4 u5 u6 v1 v2 v3 v4
        rw [if_pos h1, if_neg (fun z => z h5), if_pos h2, if_pos ⟨h1, h2⟩, if_pos h5, f1, bnd7_s, chk_pos (by omega), chk_pos (by omega), f2, bnd5_s, ifI_eq hwr (by decide), ifI_eq hwr (by decide)]
        by_cases h3 : w = -1
        · rw [if_pos h3, if_pos h3]
          exact Eq1.mk
        · obtain ⟨t, -, -, a1, a2, a3, a4⟩ := hb h3
          rw [if_neg h3, if_neg h3, side_spec hx4, bnd1_s, ifI_eq hx4 (by decide), a1, a2, a3, a4]
          by_cases h4 : x4 = 0
          · rw [if_pos h4, if_pos h4]
            exact Eq1.mk
          · rw [if_neg h4, if_neg h4]
            exact Eq1.mk
      · rw [if_pos h1, if_neg (fun z => z h5), if_neg h2, if_neg (fun z => h2 z.2)]
        exact Eq1.mk
    · rw [if_pos h1, if_pos h5]
      by_cases h2 : 0 ≤ x4 ∧ x4 ≤ 1
      · rw [if_pos ⟨h1, h2⟩, if_neg h5]
        exact Eq1.mk
      · rw [if_neg (fun z => h2 z.2)]
        exact Eq1.mk
  · rw [if_neg h1, if_neg (fun z => h1 z.1)]
    exact Eq1.mk
/-- runs -/
theorem op_runs (hF : 1000 ≤ F) (L : LayN lines odds parts steps speeds walkers paces bands carried sided st wk pc wd acts aP aS l h p a b c) {x1 x2 x3 : Int} (hx1 : r32 x1) (hx2 : r32 x2) (hx3 : r32 x3) (u1 u2 u3 u4 u5 u6 v1 v2 v3 v4 v5 : Int) (sp : Int → Int) : Eq1 (m_X8_runs F x1 x2 x3 parts walkers paces speeds steps u1 u2 u3 u4 u5 u6) (m_X9_runs F x1 x2 x3 v1 v2 v3 v4 v5 c h a p sp) := by
  obtain ⟨-, -, -, ⟨e2, w0, w8⟩, -⟩ := id L
  obtain ⟨s', e, hs⟩ := isTurn_spec hF L hx1 hx3 (show r32 0 by decide) sp
  unfold m_X8_runs m_X9_runs
  rw [canStop_spec L hx1 hx3, bnd1_s, ifB, chk_pos hx2, isOut_spec (by omega) (by decide) (by decide), bnd1_s, ifB, e, bnd2_s, ifB, chk_pos hx2, in_spec (by omega) (by decide) (by decide), bnd1_s, ifB]
  by_cases h1 : (0 ≤ x1 ∧ x1 < walkers) ∧ 0 < parts ∧ (0 ≤ x3 ∧ x3 ≤ 60)
  · by_cases h5 : 0 ≤ x2 ∧ x2 ≤ 30
    · obtain ⟨w, ba, bb, c1, c2, c3, c4, ra, rb, la, lb, f1, f2, rfl', hwr, hb⟩ := run_pair hF L (hs ⟨h1, by decide⟩) h1.1 h5 h1.2.2 u1 u2 u3 u4 u5 u6 v1 v2 v3 v4
      rw [if_pos h1, if_neg (fun z => z h5), if_pos ⟨h1, by decide⟩, if_pos h5, f1, bnd7_s, chk_pos (by omega), chk_pos (by omega), f2, bnd5_s]
      exact Eq1.mk
    · rw [if_pos h1, if_pos h5, if_pos ⟨h1, by decide⟩, if_neg h5]
      exact Eq1.mk
  · rw [if_neg h1, if_neg (fun z => h1 z.1)]
    exact Eq1.mk
/-- rests -/
theorem op_rests (hF : 1000 ≤ F) (L : LayN lines odds parts steps speeds walkers paces bands carried sided st wk pc wd acts aP aS l h p a b c) {x1 x2 : Int} (hx1 : r32 x1) (hx2 : r32 x2) (u1 u2 u3 u4 u5 u6 v1 v2 v3 v4 v5 : Int) (sp : Int → Int) : Eq1 (m_X8_rests F x1 x2 parts walkers paces speeds steps u1 u2 u3 u4 u5 u6) (m_X9_rests F x1 x2 v1 v2 v3 v4 v5 c h a p sp) := by
  obtain ⟨-, -, ⟨e1, p0, p4⟩, ⟨e2, w0, w8⟩, -⟩ := id L
  obtain ⟨s', e, hs⟩ := isTrain_spec hF L hx1 hx2 sp
  unfold m_X8_rests m_X9_rests
  rw [hasWalker_spec hx1 ⟨w0, w8⟩, bnd1_s, ifB, ifI_eq (by omega) (by decide), chk_pos hx2, isOut_spec (by omega) (by decide) (by decide), bnd1_s, ifB, e, bnd2_s, ifB, e1, ifI_eq (by omega) (by decide)]
  by_cases h1 : 0 ≤ x1 ∧ x1 < walkers
  · by_cases h2 : 0 ≤ x2 ∧ x2 ≤ 600
    · by_cases h3 : parts = 0
      · rw [if_pos h1, if_pos h3, if_pos ⟨h1, h2⟩, if_pos h3]
        exact Eq1.mk
      · have hss := hs ⟨h1, h2⟩
        rw [if_pos h1, if_neg h3, if_neg (fun z => z h2), if_pos ⟨h1, h2⟩, if_neg h3]
        unfold ml_X8_rests_39 ml_X9_rests_29
        refine loopN_rel (I := fun s t => s.1 = t.1 ∧ -1 ≤ s.1 ∧ s.1 ≤ 60) (μ := fun s => (s.1 + 1).toNat) (P := Eq1) ?_ F _ _ ?_ ?_
        · rintro k1 k2 ⟨x, y1, y2, y3, y4, y5, y6⟩ ⟨x', z1, z2, z3, z4, z5⟩ ⟨hxx, hx0, hx31⟩ ih
          simp only at hxx hx0 hx31 ih ⊢
          subst hxx
          unfold mb_X8_rests_39 mb_X9_rests_29
          rw [ifI_lt (by omega) (by decide), ifI_lt (by omega) (by decide)]
          by_cases hx : x < 0
          · rw [if_pos hx, if_pos hx]
            exact Eq1.mk
          · obtain ⟨w, ba, bb, c1, c2, c3, c4, ra, rb, la, lb, f1, f2, rfl', hwr, hb⟩ := stop_pair hF L hss h1 (show 0 ≤ x ∧ x ≤ 60 by omega) y1 y2 y3 y4 y5 y6 z1 z2 z3 z4
            rw [if_neg hx, if_neg hx, f1, bnd7_s, chk_pos (by omega), f2, bnd5_s, ifI_eq hwr (by decide), ifI_eq hwr (by decide)]
            simp only [mb_X8_rests_70, mb_X9_rests_71, chk_pos (show 0 ≤ x1 ∧ x1 < 40 by omega), chk_pos (show 0 ≤ x1 ∧ x1 < 8 by omega), chk_pos hx2]
            by_cases h4 : w = -1
            · rw [if_pos h4, if_pos h4]
              exact ih _ _ ⟨rfl, by simp only; omega, by simp only; omega⟩ (by simp only; omega)
            · obtain ⟨t, ht, ht0, a1, a2, a3, a4⟩ := hb h4
              have htq : Nq t := ht.nq ht0 Cap120
              have hd := ht.den (M := 65610000) (by decide)
              obtain ⟨g1, g2, g3⟩ := htq.p
              have h5 := mul_in (x := x2) (y := (t.den : Int)) (M := 600) (N := 65610000) h2 (by omega)
              rw [if_neg h4, if_neg h4, a1, a2, a3, a4, isAbove_spec h2 htq (by omega), bnd1_s, ifB, ifJ_lt (by omega) (by omega)]
              by_cases g : x2 * (t.den : Int) < t.num
              · rw [if_pos g, if_pos g]
                exact ih _ _ ⟨rfl, by simp only; omega, by simp only; omega⟩ (by simp only; omega)
              · rw [if_neg g, if_neg g]
                exact Eq1.mk
        · exact ⟨rfl, by simp only; omega, by simp only; omega⟩
        · simp only
          omega
    · rw [if_pos h1, if_neg (show ¬ ((0 ≤ x1 ∧ x1 < walkers) ∧ 0 ≤ x2 ∧ x2 ≤ 600) from fun z => h2 z.2)]
      by_cases h3 : parts = 0
      · rw [if_pos h3]
        exact Eq1.mk
      · rw [if_neg h3, if_pos h2]
        exact Eq1.mk
  · rw [if_neg h1, if_neg (show ¬ ((0 ≤ x1 ∧ x1 < walkers) ∧ 0 ≤ x2 ∧ x2 ≤ 600) from fun z => h1 z.1)]
    exact Eq1.mk
end TURN3
/-! SLOTS: row, write, paste; count -/
theorem fill_long {F n : Nat} (hn : n ≤ 2000) (hF : 100000 ≤ F) {x : Int} {f : Int → Int} : ∃ g, m_J7_fill_d0a16 F n x f = some g ∧ ∀ i, 0 ≤ i → i < (n : Int) → g i = x := by
  unfold m_J7_fill_d0a16
  simp only [nam]
  unfold ml_J7_fill_d0a16_6
  refine loopN_rec (I := fun q : Int × (Int → Int) => 0 ≤ q.1 ∧ q.1 ≤ n ∧ ∀ i, 0 ≤ i → i < q.1 → q.2 i = x) (μ := fun q => ((n : Int) - q.1).toNat) (P := fun q y => ∃ g : Int → Int, y = some g ∧ ∀ i, 0 ≤ i → i < (n : Int) → g i = x) ?_ F (0, f) ?_ ?_
  · rintro k ⟨j, g⟩ ⟨h0, h1, h2⟩ ih
    simp only at h0 h1 h2 ih ⊢
    unfold mb_J7_fill_d0a16_6
    rw [ifI_le (by omega) (by omega)]
    by_cases hj : (n : Int) ≤ j
    · rw [if_pos hj]
      exact ⟨g, rfl, fun i hi0 hi1 => h2 i hi0 (by omega)⟩
    · rw [if_neg hj, chk_pos (by omega)]
      refine ih (j + 1, up g j x) ⟨by simp only; omega, by simp only; omega, fun i hi0 hi1 => ?_⟩ (by simp only; omega)
      simp only [up] at hi1 ⊢
      by_cases e : i = j
      · rw [if_pos e]
      · rw [if_neg e]
        exact h2 i hi0 (by omega)
  · exact ⟨by simp only; omega, by simp only; omega, fun i h0 h1 => by simp only at h1; omega⟩
  · simp only
    omega
theorem fill_int {F n : Nat} (hn : n ≤ 2000) (hF : 100000 ≤ F) {x : Int} {f : Int → Int} : ∃ g, m_J7_fill_53178 F n x f = some g ∧ ∀ i, 0 ≤ i → i < (n : Int) → g i = x := by
  unfold m_J7_fill_53178
  simp only [nam]
  unfold ml_J7_fill_53178_5
  refine loopN_rec (I := fun q : Int × (Int → Int) => 0 ≤ q.1 ∧ q.1 ≤ n ∧ ∀ i, 0 ≤ i → i < q.1 → q.2 i = x) (μ := fun q => ((n : Int) - q.1).toNat) (P := fun q y => ∃ g : Int → Int, y = some g ∧ ∀ i, 0 ≤ i → i < (n : Int) → g i = x) ?_ F (0, f) ?_ ?_
  · rintro k ⟨j, g⟩ ⟨h0, h1, h2⟩ ih
    simp only at h0 h1 h2 ih ⊢
    unfold mb_J7_fill_53178_5
    rw [ifI_le (by omega) (by omega)]
    by_cases hj : (n : Int) ≤ j
    · rw [if_pos hj]
      exact ⟨g, rfl, fun i hi0 hi1 => h2 i hi0 (by omega)⟩
    · rw [if_neg hj, chk_pos (by omega)]
      refine ih (j + 1, up g j x) ⟨by simp only; omega, by simp only; omega, fun i hi0 hi1 => ?_⟩ (by simp only; omega)
      simp only [up] at hi1 ⊢
      by_cases e : i = j
      · rw [if_pos e]
      · rw [if_neg e]
        exact h2 i hi0 (by omega)
  · exact ⟨by simp only; omega, by simp only; omega, fun i h0 h1 => by simp only at h1; omega⟩
  · simp only
    omega
/-- a SLOT on both sides -/
def Slot1 (held width size : Int) (num : Int → Int) (wd many : Int) (cells : Int → Int) : Prop :=
  (held = 0 ∧ wd = -1) ∨ (held = 1 ∧ wd = width ∧ (0 ≤ width ∧ width ≤ 3) ∧ many = size ∧ (0 ≤ size ∧ size ≤ 60) ∧ ∀ i, 0 ≤ i → i < size → cells i = num i ∧ r64 (num i))
def SlotR (held width size : Int → Int) (num : Int → Int → Int) (wd many cells : Int → Int) : Prop :=
  ∀ s, 0 ≤ s → s < 4 → Slot1 (held s) (width s) (size s) (num s) (wd s) (many s) (fun i => cells (60 * s + i))
section SLOT
variable {held width size wd many cells : Int → Int} {num : Int → Int → Int} {F : Nat}
theorem row9_loop (hF : 100000 ≤ F) {x1 x3 : Int} (hx1 : 0 ≤ x1 ∧ x1 < 4) (hx3 : 0 ≤ x3 ∧ x3 ≤ 60) : ∃ cells', ml_X9_row_57 F x1 x3 0 0 cells many wd = some (0, 0, cells', many, wd) ∧ ∀ j, cells' j = if 60 * x1 ≤ j ∧ j < 60 * x1 + x3 then 0 else cells j := by
  unfold ml_X9_row_57
  refine loopN_rec (I := fun q : Int × (Int → Int) => 0 ≤ q.1 ∧ q.1 ≤ x3 ∧ ∀ j, q.2 j = if 60 * x1 ≤ j ∧ j < 60 * x1 + q.1 then 0 else cells j) (μ := fun q => (x3 - q.1).toNat) (P := fun q y => ∃ cells' : Int → Int, y = some (0, 0, cells', many, wd) ∧ ∀ j, cells' j = if 60 * x1 ≤ j ∧ j < 60 * x1 + x3 then 0 else cells j) ?_ F (0, cells) ?_ ?_
  · rintro k ⟨x, g⟩ ⟨h0, h1, h2⟩ ih
    simp only at h0 h1 h2 ih ⊢
    unfold mb_X9_row_57
    rw [ifI_le (by omega) (by omega)]
    by_cases hj : x3 ≤ x
    · rw [if_pos hj]
      refine ⟨g, rfl, fun j => ?_⟩
      rw [h2 j, show x = x3 by omega]
    · rw [if_neg hj, chk_pos (by omega)]
      refine ih (x + 1, up g (60 * x1 + x) 0) ⟨by simp only; omega, by simp only; omega, fun j => ?_⟩ (by simp only; omega)
      simp only [up]
      by_cases e : j = 60 * x1 + x
      · rw [if_pos e, if_pos (by omega)]
      · rw [if_neg e, h2 j]
        by_cases e2 : 60 * x1 ≤ j ∧ j < 60 * x1 + x
        · rw [if_pos e2, if_pos (by omega)]
        · rw [if_neg e2, if_neg (by omega)]
  · refine ⟨by simp only; omega, by simp only; omega, fun j => ?_⟩
    simp only
    rw [if_neg (by omega)]
  · simp only
    omega
/-- row -/
theorem op_row (hF : 100000 ≤ F) (S : SlotR held width size num wd many cells) {x1 x2 x3 : Int} (hx1 : r32 x1) (hx2 : r32 x2) (hx3 : r32 x3) : ∃ r held' width' size' num' t cells' many' wd', m_X8_row F x1 x2 x3 held width size num = some (r, held', width', size', num') ∧ m_X9_row F x1 x2 x3 cells many wd = some (r, t, cells', many', wd') ∧ SlotR held' width' size' num' wd' many' cells' := by
  unfold m_X8_row m_X9_row
  rw [isSlot8_spec hx1, bnd1_s, ifB, isSlot9_spec hx1, bnd1_s, ifB]
  by_cases h1 : 0 ≤ x1 ∧ x1 ≤ 3
  · rw [if_pos h1, if_pos h1, chk_pos hx2, chk_pos hx2, isOut_spec (by omega) (by decide) (by decide), bnd1_s, ifB, in_spec (by omega) (by decide) (by decide), bnd1_s, ifB]
    by_cases h2 : 0 ≤ x2 ∧ x2 ≤ 3
    · rw [if_neg (fun z => z h2), if_pos h2, ifI_le hx3 (by decide), ifI_le hx3 (by decide), ifI_le (by decide) hx3, ifI_le (by decide) hx3]
      by_cases h3 : x3 ≤ 60
      · rw [if_pos h3, if_pos h3]
        by_cases h4 : 0 ≤ x3
        · obtain ⟨g, e, hg⟩ := fill_long (F := F) (n := 60) (by decide) hF (x := 0) (f := num x1)
          obtain ⟨cells', e', hc⟩ := row9_loop (F := F) (cells := cells) (many := up many x1 x3) (wd := up wd x1 x2) hF (x1 := x1) (x3 := x3) (by omega) ⟨h4, h3⟩
          unfold m_X5_begin
          rw [if_pos h4, if_pos h4, chk_pos (by omega), e, bnd1_s, bnd4_s, chk_pos (by omega), chk_pos (by omega), e']
          refine ⟨_, _, _, _, _, _, _, _, _, rfl, rfl, fun s hs0 hs1 => ?_⟩
          simp only [up]
          by_cases es : s = x1
          · rw [if_pos es, if_pos es, if_pos es, if_pos es, if_pos es, if_pos es]
            refine Or.inr ⟨rfl, rfl, h2, rfl, ⟨h4, h3⟩, fun i hi0 hi1 => ⟨?_, ?_⟩⟩
            · show cells' (60 * s + i) = g i
              rw [hc, if_pos (by omega), hg i hi0 (by omega)]
            · rw [hg i hi0 (by omega)]
              decide
          · rw [if_neg es, if_neg es, if_neg es, if_neg es, if_neg es, if_neg es]
            have hS := S s hs0 hs1
            rcases hS with hS | ⟨q1, q2, q3, q4, q5, q6⟩
            · exact Or.inl hS
            · refine Or.inr ⟨q1, q2, q3, q4, q5, fun i hi0 hi1 => ?_⟩
              show cells' (60 * s + i) = num s i ∧ r64 (num s i)
              rw [hc, if_neg (by omega)]
              exact q6 i hi0 hi1
        · rw [if_neg h4, if_neg h4]
          exact ⟨_, _, _, _, _, _, _, _, _, rfl, rfl, S⟩
      · rw [if_neg h3, if_neg h3]
        exact ⟨_, _, _, _, _, _, _, _, _, rfl, rfl, S⟩
    · rw [if_pos h2, if_neg h2]
      exact ⟨_, _, _, _, _, _, _, _, _, rfl, rfl, S⟩
  · rw [if_neg h1, if_neg h1]
    exact ⟨_, _, _, _, _, _, _, _, _, rfl, rfl, S⟩
theorem b8_in (a : Int) : -128 ≤ b8 a ∧ b8 a ≤ 127 := by
  unfold b8
  have h1 := Int.le_bmod (x := a) (m := 256) (by decide)
  have h2 := Int.bmod_lt (x := a) (m := 256) (by decide)
  omega
theorem b16_in (a : Int) : -32768 ≤ b16 a ∧ b16 a ≤ 32767 := by
  unfold b16
  have h1 := Int.le_bmod (x := a) (m := 65536) (by decide)
  have h2 := Int.bmod_lt (x := a) (m := 65536) (by decide)
  omega
theorem w32_in (a : Int) : r32 (w32 a) := by
  unfold w32
  have h1 := Int32.le_toInt (wI a)
  have h2 := Int32.toInt_lt (wI a)
  omega
theorem cut_spec {x w : Int} (hx : r64 x) (hw : 0 ≤ w ∧ w ≤ 3) : ∃ v, m_X5_cut F x w = some v ∧ m_X9_cut F x w = some v ∧ r64 v := by
  have h1 := b8_in x
  have h2 := b16_in x
  have h3 := w32_in x
  unfold m_X5_cut m_X9_cut
  rw [ifI_eq (by omega) (by decide), ifI_eq (by omega) (by decide), ifI_eq (by omega) (by decide), chk_pos (by omega), chk_pos (by omega)]
  by_cases e0 : w = 0
  · simp only [if_pos e0]
    exact ⟨_, rfl, rfl, by omega⟩
  · simp only [if_neg e0]
    by_cases e1 : w = 1
    · simp only [if_pos e1]
      exact ⟨_, rfl, rfl, by omega⟩
    · simp only [if_neg e1]
      by_cases e2 : w = 2
      · simp only [if_pos e2]
        exact ⟨_, rfl, rfl, by omega⟩
      · simp only [if_neg e2]
        exact ⟨_, rfl, rfl, hx⟩
/-- write -/
theorem op_write (S : SlotR held width size num wd many cells) {x1 x2 x3 : Int} (hx1 : r32 x1) (hx2 : r32 x2) (hx3 : r64 x3) : ∃ r num' t cells', m_X8_write F x1 x2 x3 held width size num = some (r, num') ∧ m_X9_write F x1 x2 x3 cells many wd = some (r, t, cells') ∧ SlotR held width size num' wd many cells' := by
  unfold m_X8_write m_X9_write
  rw [isSlot8_spec hx1, bnd1_s, ifB, isSlot9_spec hx1, bnd1_s, ifB]
  by_cases h1 : 0 ≤ x1 ∧ x1 ≤ 3
  · simp only [if_pos h1, chk_pos (show 0 ≤ x1 ∧ x1 < 4 by omega), chk_pos hx2]
    rcases S x1 h1.1 (by omega) with ⟨q1, q2⟩ | ⟨q1, q2, q3, q4, q5, q6⟩
    · rw [q1, q2, if_pos rfl, if_pos rfl]
      exact ⟨_, _, _, _, rfl, rfl, S⟩
    · rw [q1, q2, q4, if_neg one0, ifI_eq (by omega) (by decide), if_neg (by omega), chk_pos (by omega), isOut_spec (by omega) (by decide) (by omega), bnd1_s, ifB, chk_pos (by omega), in_spec (by omega) (by decide) (by omega), bnd1_s, ifB]
      by_cases h2 : 0 ≤ x2 ∧ x2 ≤ size x1 - 1
      · obtain ⟨v, e1, e2, hv⟩ := cut_spec (F := F) hx3 q3
        rw [if_neg (fun z => z h2), if_pos h2, e1, bnd1_s, chk_pos (by omega), e2, bnd1_s, chk_pos (by omega)]
        refine ⟨_, _, _, _, rfl, rfl, fun s hs0 hs1 => ?_⟩
        simp only [up]
        by_cases es : s = x1
        · subst es
          rw [if_pos rfl]
          refine Or.inr ⟨q1, q2, q3, q4, q5, fun i hi0 hi1 => ?_⟩
          show (if 60 * s + i = 60 * s + x2 then v else cells (60 * s + i)) = up (num s) x2 v i ∧ r64 (up (num s) x2 v i)
          by_cases ei : i = x2
          · rw [ei, up_at, if_pos rfl]
            exact ⟨rfl, hv⟩
          · rw [up_ne ei, if_neg (by omega)]
            exact q6 i hi0 hi1
        · rw [if_neg es]
          rcases S s hs0 hs1 with hS | ⟨g1, g2, g3, g4, g5, g6⟩
          · exact Or.inl hS
          · refine Or.inr ⟨g1, g2, g3, g4, g5, fun i hi0 hi1 => ?_⟩
            show (if 60 * s + i = 60 * x1 + x2 then v else cells (60 * s + i)) = num s i ∧ r64 (num s i)
            rw [if_neg (by omega)]
            exact g6 i hi0 hi1
      · rw [if_pos h2, if_neg h2]
        exact ⟨_, _, _, _, rfl, rfl, S⟩
  · rw [if_neg h1, if_neg h1]
    exact ⟨_, _, _, _, rfl, rfl, S⟩
theorem paste9_second (hF : 100000 ≤ F) {x3 x4 x5 : Int} {moved : Int → Int} (hx3 : 0 ≤ x3 ∧ x3 < 4) (hx5 : 0 ≤ x4 ∧ 0 ≤ x5 ∧ x4 + x5 ≤ 60) : ∃ cells', ml_X9_paste_155 F x3 x4 x5 0 0 cells moved = some (0, 0, cells', moved) ∧ ∀ j, cells' j = if 60 * x3 + x4 ≤ j ∧ j < 60 * x3 + x4 + x5 then moved (j - (60 * x3 + x4)) else cells j := by
  unfold ml_X9_paste_155
  refine loopN_rec (I := fun q : Int × (Int → Int) => 0 ≤ q.1 ∧ q.1 ≤ x5 ∧ ∀ j, q.2 j = if 60 * x3 + x4 ≤ j ∧ j < 60 * x3 + x4 + q.1 then moved (j - (60 * x3 + x4)) else cells j) (μ := fun q => (x5 - q.1).toNat) (P := fun q y => ∃ cells' : Int → Int, y = some (0, 0, cells', moved) ∧ ∀ j, cells' j = if 60 * x3 + x4 ≤ j ∧ j < 60 * x3 + x4 + x5 then moved (j - (60 * x3 + x4)) else cells j) ?_ F (0, cells) ?_ ?_
  · rintro k ⟨x, g⟩ ⟨h0, h1, h2⟩ ih
    simp only at h0 h1 h2 ih ⊢
    unfold mb_X9_paste_155
    rw [ifI_le (by omega) (by omega)]
    by_cases hj : x5 ≤ x
    · rw [if_pos hj]
      refine ⟨g, rfl, fun j => ?_⟩
      rw [h2 j, show x = x5 by omega]
    · rw [if_neg hj, chk_pos (by omega)]
      simp only [nam]
      rw [chk_pos (by omega)]
      refine ih (x + 1, up g (60 * x3 + x4 + x) (moved x)) ⟨by simp only; omega, by simp only; omega, fun j => ?_⟩ (by simp only; omega)
      simp only [up]
      by_cases e : j = 60 * x3 + x4 + x
      · rw [if_pos e, if_pos (by omega), show j - (60 * x3 + x4) = x by omega]
      · rw [if_neg e, h2 j]
        by_cases e2 : 60 * x3 + x4 ≤ j ∧ j < 60 * x3 + x4 + x
        · rw [if_pos e2, if_pos (by omega)]
        · rw [if_neg e2, if_neg (by omega)]
  · refine ⟨by simp only; omega, by simp only; omega, fun j => ?_⟩
    simp only
    rw [if_neg (by omega)]
  · simp only
    omega
theorem paste9_loop (hF : 100000 ≤ F) {x1 x2 x3 x4 x5 : Int} {moved : Int → Int} (hx1 : 0 ≤ x1 ∧ x1 < 4) (hx3 : 0 ≤ x3 ∧ x3 < 4) (hx2 : 0 ≤ x2 ∧ x2 + x5 ≤ 60) (hx5 : 0 ≤ x4 ∧ 0 ≤ x5 ∧ x4 + x5 ≤ 60) : ∃ cells' moved', ml_X9_paste_118 F x1 x2 x3 x4 x5 0 0 cells moved = some (0, 0, cells', moved') ∧ ∀ j, cells' j = if 60 * x3 + x4 ≤ j ∧ j < 60 * x3 + x4 + x5 then cells (60 * x1 + x2 + (j - (60 * x3 + x4))) else cells j := by
  unfold ml_X9_paste_118
  refine loopN_rec (I := fun q : Int × (Int → Int) => 0 ≤ q.1 ∧ q.1 ≤ x5 ∧ ∀ j, 0 ≤ j → j < q.1 → q.2 j = cells (60 * x1 + x2 + j)) (μ := fun q => (x5 - q.1).toNat) (P := fun q y => ∃ cells' moved' : Int → Int, y = some (0, 0, cells', moved') ∧ ∀ j, cells' j = if 60 * x3 + x4 ≤ j ∧ j < 60 * x3 + x4 + x5 then cells (60 * x1 + x2 + (j - (60 * x3 + x4))) else cells j) ?_ F (0, moved) ?_ ?_
  · rintro k ⟨x, g⟩ ⟨h0, h1, h2⟩ ih
    simp only at h0 h1 h2 ih ⊢
    unfold mb_X9_paste_118
    rw [ifI_le (by omega) (by omega)]
    by_cases hj : x5 ≤ x
    · obtain ⟨cells', e, hc⟩ := paste9_second (F := F) (cells := cells) hF (x3 := x3) (x4 := x4) (x5 := x5) (moved := g) hx3 hx5
      rw [if_pos hj, e]
      refine ⟨cells', g, rfl, fun j => ?_⟩
      rw [hc j]
      by_cases e2 : 60 * x3 + x4 ≤ j ∧ j < 60 * x3 + x4 + x5
      · rw [if_pos e2, if_pos e2, h2 _ (by omega) (by omega)]
      · rw [if_neg e2, if_neg e2]
    · rw [if_neg hj, chk_pos (by omega)]
      simp only [nam]
      rw [chk_pos (by omega)]
      refine ih (x + 1, up g x (cells (60 * x1 + x2 + x))) ⟨by simp only; omega, by simp only; omega, fun j hj0 hj1 => ?_⟩ (by simp only; omega)
      simp only [up] at hj1 ⊢
      by_cases e : j = x
      · rw [if_pos e, e]
      · rw [if_neg e]
        exact h2 j hj0 (by omega)
  · exact ⟨by simp only; omega, by simp only; omega, fun j h0 h1 => by simp only at h1; omega⟩
  · simp only
    omega
/-- paste -/
theorem op_paste (hF : 100000 ≤ F) (S : SlotR held width size num wd many cells) {x1 x2 x3 x4 x5 : Int} (hx1 : r32 x1) (hx2 : r32 x2) (hx3 : r32 x3) (hx4 : r32 x4) (hx5 : r32 x5) (moved : Int → Int) : ∃ r num' t cells' moved', m_X8_paste F x1 x2 x3 x4 x5 held width size num = some (r, num') ∧ m_X9_paste F x1 x2 x3 x4 x5 cells many moved wd = some (r, t, cells', moved') ∧ SlotR held width size num' wd many cells' := by
  unfold m_X8_paste m_X9_paste
  rw [isSlot8_spec hx1, bnd1_s, ifB, isSlot9_spec hx1, bnd1_s, ifB, isSlot8_spec hx3, bnd1_s, ifB, isSlot9_spec hx3, bnd1_s, ifB]
  by_cases h1 : 0 ≤ x1 ∧ x1 ≤ 3
  · rw [if_pos h1, if_pos h1]
    by_cases h3 : 0 ≤ x3 ∧ x3 ≤ 3
    · simp only [if_pos h3, chk_pos (show 0 ≤ x1 ∧ x1 < 4 by omega), chk_pos (show 0 ≤ x3 ∧ x3 < 4 by omega), chk_pos hx2, chk_pos hx4, chk_pos hx5]
      rcases S x1 h1.1 (by omega) with ⟨q1, q2⟩ | ⟨q1, q2, q3, q4, q5, q6⟩
      · rw [q1, q2, if_pos rfl, if_pos rfl]
        exact ⟨_, _, _, _, _, rfl, rfl, S⟩
      · rcases S x3 h3.1 (by omega) with ⟨g1, g2⟩ | ⟨g1, g2, g3, g4, g5, g6⟩
        · rw [q1, q2, g1, g2, if_neg one0, if_pos rfl, ifI_eq (a := width x1) (b := -1) (by omega) (by decide), if_neg (by omega), if_pos rfl]
          exact ⟨_, _, _, _, _, rfl, rfl, S⟩
        · rw [q1, q2, g1, g2, if_neg one0, if_neg one0, ifI_eq (a := width x1) (b := -1) (by omega) (by decide), if_neg (show ¬ width x1 = -1 by omega), ifI_eq (a := width x3) (b := -1) (by omega) (by decide), if_neg (show ¬ width x3 = -1 by omega), ifI_eq (a := width x1) (b := width x3) (by omega) (by omega), ifI_eq (a := width x1) (b := width x3) (by omega) (by omega)]
          by_cases hw : width x1 = width x3
          · rw [if_pos hw, if_pos hw, ifI_lt (a := x5) (b := 0) hx5 (by decide), ifI_lt (a := x5) (b := 0) hx5 (by decide), ifI_lt (a := x2) (b := 0) hx2 (by decide), ifI_lt (a := x4) (b := 0) hx4 (by decide)]
            by_cases h5 : x5 < 0
            · rw [if_pos h5, if_pos h5]
              refine ⟨-7, num, 0, cells, moved, rfl, ?_, S⟩
              split
              · rfl
              · split <;> rfl
            · rw [if_neg h5, if_neg h5, chk_pos (show r32 (size x1 - x5) by omega), isOut_spec (x := x2) (by omega) (by decide) (by omega), bnd1_s, ifB, chk_pos (show r32 (size x3 - x5) by omega), isOut_spec (x := x4) (by omega) (by decide) (by omega), bnd1_s, ifB, q4, g4, chk_pos (show r32 (size x1) by omega), chk_pos (show r32 (size x3) by omega), ifJ_lt (a := size x1) (b := x2 + x5) (by omega) (by omega), ifJ_le (a := x4 + x5) (b := size x3) (by omega) (by omega)]
              by_cases h2 : 0 ≤ x2 ∧ x2 ≤ size x1 - x5
              · rw [if_neg (fun z => z h2), if_neg (show ¬ x2 < 0 by omega), if_neg (show ¬ size x1 < x2 + x5 by omega)]
                by_cases h4 : 0 ≤ x4 ∧ x4 ≤ size x3 - x5
                · obtain ⟨cells', moved', e, hc⟩ := paste9_loop (F := F) (cells := cells) hF (x1 := x1) (x2 := x2) (x3 := x3) (x4 := x4) (x5 := x5) (moved := moved) (by omega) (by omega) (by omega) (by omega)
                  rw [if_neg (fun z => z h4), if_neg (show ¬ x4 < 0 by omega), if_pos (show x4 + x5 ≤ size x3 by omega), chk_pos (by omega), e]
                  refine ⟨_, _, _, _, _, rfl, rfl, fun s hs0 hs1 => ?_⟩
                  by_cases es : s = x3
                  · subst es
                    rw [up_at]
                    refine Or.inr ⟨g1, g2, g3, g4, g5, fun i hi0 hi1 => ?_⟩
                    show cells' (60 * s + i) = (if x4 ≤ i ∧ i < x4 + x5 then num x1 (x2 + (i - x4)) else num s i) ∧ r64 (if x4 ≤ i ∧ i < x4 + x5 then num x1 (x2 + (i - x4)) else num s i)
                    rw [hc]
                    by_cases ei : x4 ≤ i ∧ i < x4 + x5
                    · rw [if_pos ei, if_pos (by omega), show 60 * x1 + x2 + (60 * s + i - (60 * s + x4)) = 60 * x1 + (x2 + (i - x4)) by omega]
                      exact q6 _ (by omega) (by omega)
                    · rw [if_neg ei, if_neg (by omega)]
                      exact g6 i hi0 hi1
                  · rw [up_ne es]
                    rcases S s hs0 hs1 with hS | ⟨f1, f2, f3, f4, f5, f6⟩
                    · exact Or.inl hS
                    · refine Or.inr ⟨f1, f2, f3, f4, f5, fun i hi0 hi1 => ?_⟩
                      show cells' (60 * s + i) = num s i ∧ r64 (num s i)
                      rw [hc, if_neg (by omega)]
                      exact f6 i hi0 hi1
                · rw [if_pos h4]
                  refine ⟨-7, num, 0, cells, moved, rfl, ?_, S⟩
                  by_cases h6 : x4 < 0
                  · rw [if_pos h6]
                  · rw [if_neg h6, if_neg (by omega)]
              · rw [if_pos h2]
                refine ⟨-7, num, 0, cells, moved, rfl, ?_, S⟩
                by_cases h6 : x2 < 0
                · rw [if_pos h6]
                · rw [if_neg h6]
                  by_cases h7 : x4 < 0
                  · rw [if_pos h7]
                  · rw [if_neg h7, if_pos (by omega)]
          · rw [if_neg hw, if_neg hw]
            exact ⟨_, _, _, _, _, rfl, rfl, S⟩
    · rw [if_neg h3, if_neg h3]
      exact ⟨_, _, _, _, _, rfl, rfl, S⟩
  · rw [if_neg h1, if_neg h1]
    exact ⟨_, _, _, _, _, rfl, rfl, S⟩
end SLOT
