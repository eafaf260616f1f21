/-- the first pair -/
def FirstR (A : Int → Int → Bool) (s0 v0 : Int) : Prop := (s0 = -1 ∧ v0 = -1 ∧ ∀ s v, 1 ≤ s → s ≤ 200 → 0 ≤ v → v ≤ 30 → ¬ A s v = true) ∨ ((1 ≤ s0 ∧ s0 ≤ 200) ∧ (0 ≤ v0 ∧ v0 ≤ 30) ∧ A s0 v0 = true ∧ ∀ s v, 1 ≤ s → s ≤ 200 → 0 ≤ v → v ≤ 30 → A s v = true → (s0 < s ∨ (s = s0 ∧ v0 ≤ v)))
def anyV (A : Int → Int → Bool) (s : Int) : Nat → Bool
  | 0 => false
  | k + 1 => anyV A s k || A s (k : Int)
def anyS (A : Int → Int → Bool) (v : Int) : Nat → Bool
  | 0 => false
  | k + 1 => anyS A v k || A ((k : Int) + 1) v
theorem anyV_mono {A : Int → Int → Bool} {s : Int} : ∀ k j : Nat, j ≤ k → anyV A s j = true → anyV A s k = true
  | 0, j, h, hj => by
    rw [show j = 0 by omega] at hj
    exact hj
  | k + 1, j, h, hj => by
    by_cases e : j = k + 1
    · rw [e] at hj
      exact hj
    · unfold anyV
      rw [anyV_mono k j (by omega) hj]
      rfl
theorem anyS_mono {A : Int → Int → Bool} {v : Int} : ∀ k j : Nat, j ≤ k → anyS A v j = true → anyS A v k = true
  | 0, j, h, hj => by
    rw [show j = 0 by omega] at hj
    exact hj
  | k + 1, j, h, hj => by
    by_cases e : j = k + 1
    · rw [e] at hj
      exact hj
    · unfold anyS
      rw [anyS_mono k j (by omega) hj]
      rfl
theorem anyS_iff {A : Int → Int → Bool} {v : Int} : ∀ k : Nat, anyS A v k = true ↔ ∃ s, 1 ≤ s ∧ s ≤ (k : Int) ∧ A s v = true
  | 0 => by
    constructor
    · intro h
      cases h
    · rintro ⟨s, h1, h2, -⟩
      omega
  | k + 1 => by
    unfold anyS
    rw [Bool.or_eq_true, anyS_iff k]
    constructor
    · rintro (⟨s, h1, h2, h3⟩ | h)
      · exact ⟨s, h1, by omega, h3⟩
      · exact ⟨_, by omega, by omega, h⟩
    · rintro ⟨s, h1, h2, h3⟩
      by_cases e : s = (k : Int) + 1
      · rw [e] at h3
        exact Or.inr h3
      · exact Or.inl ⟨s, h1, by omega, h3⟩
theorem sm_up {f : Int → Int} {s x : Int} : ∀ k : Nat, sm (fun a => up f s x (a + 1)) k = sm (fun a => f (a + 1)) k + (if 1 ≤ s ∧ s ≤ (k : Int) then x - f s else 0)
  | 0 => by
    unfold sm
    rw [if_neg (by omega)]
    rfl
  | k + 1 => by
    unfold sm
    rw [sm_up k]
    by_cases e : (k : Int) + 1 = s
    · subst e
      rw [up_at, if_neg (by omega), if_pos (by omega)]
      omega
    · rw [up_ne e]
      by_cases h : 1 ≤ s ∧ s ≤ (k : Int)
      · rw [if_pos h, if_pos (by omega)]
        omega
      · rw [if_neg h, if_neg (by omega)]
        omega
section CNT5
variable {F : Nat} {x n : Int} {pa wa co cells many le mo : Int → Int} {A : Int → Int → Bool}
theorem findFirst_spec (hF : 1000 ≤ F) (hE : EndsR le mo A) : ∃ s0 v0, m_X0_findFirst F le mo = some (s0, v0) ∧ FirstR A s0 v0 := by
  unfold m_X0_findFirst ml_X0_findFirst_12
  refine loopN_rec (I := fun q : Int × Int × Int => (0 ≤ q.1 ∧ q.1 ≤ 31) ∧ ((q.2.1 = -1 ∧ q.2.2 = -1 ∧ ∀ v, 0 ≤ v → v < q.1 → mo v < le v) ∨ ((0 ≤ q.2.2 ∧ q.2.2 < q.1) ∧ q.2.1 = le q.2.2 ∧ le q.2.2 ≤ mo q.2.2 ∧ ∀ v, 0 ≤ v → v < q.1 → le v ≤ mo v → (q.2.1 < le v ∨ (q.2.1 = le v ∧ q.2.2 ≤ v))))) (μ := fun q => (31 - q.1).toNat) (P := fun q y => ∃ s0 v0, y = some (s0, v0) ∧ FirstR A s0 v0) ?_ F (0, -1, -1) ?_ ?_
  · rintro k ⟨v, fs, fv⟩ ⟨hv, hI⟩ ih
    simp only at hv hI ih ⊢
    unfold mb_X0_findFirst_12
    rw [ifI_lt (by decide) (by omega)]
    by_cases h1 : 30 < v
    · rw [if_pos h1]
      refine ⟨fs, fv, rfl, ?_⟩
      rcases hI with ⟨a1, a2, a3⟩ | ⟨a1, a2, a3, a4⟩
      · refine Or.inl ⟨a1, a2, fun s v' s0 s1 v0 v1 hA => ?_⟩
        have := ((hE v' v0 v1).2.2 s s0 s1).mpr hA
        have := a3 v' v0 (by omega)
        omega
      · obtain ⟨b1, b2, b3⟩ := hE fv a1.1 (by omega)
        refine Or.inr ⟨by omega, by omega, ?_, fun s v' s0 s1 v0 v1 hA => ?_⟩
        · rw [a2]
          exact (b3 (le fv) (by omega) (by omega)).mp ⟨Int.le_refl _, a3⟩
        · have h2 := ((hE v' v0 v1).2.2 s s0 s1).mpr hA
          have h3 := a4 v' v0 (by omega) (by omega)
          omega
    · obtain ⟨b1, b2, b3⟩ := hE v hv.1 (by omega)
      have hfr : fs = -1 ∨ (1 ≤ fs ∧ fs ≤ 600000) := by
        rcases hI with ⟨a1, -⟩ | ⟨a1, a2, -⟩
        · exact Or.inl a1
        · have := (hE fv a1.1 (by omega)).1
          omega
      simp only [chk_pos (show 0 ≤ v ∧ v < 31 by omega), mb_X0_findFirst_69, mb_X0_findFirst_54, nam]
      rw [if_neg h1, ifI_lt (by omega) (by omega)]
      by_cases h2 : mo v < le v
      · rw [if_pos h2]
        refine ih _ ⟨by simp only; omega, ?_⟩ (by simp only; omega)
        rcases hI with ⟨a1, a2, a3⟩ | ⟨a1, a2, a3, a4⟩
        · refine Or.inl ⟨a1, a2, fun v' v0 v1 => ?_⟩
          simp only at v1
          by_cases e : v' = v
          · rw [e]
            exact h2
          · exact a3 v' v0 (by omega)
        · refine Or.inr ⟨by simp only; omega, a2, a3, fun v' v0 v1 hl => ?_⟩
          simp only at v1
          by_cases e : v' = v
          · rw [e] at hl
            omega
          · exact a4 v' v0 (by omega) hl
      · rw [if_neg h2, ifI_eq (by omega) (by decide), ifI_le (by omega) (by omega)]
        have take : (∀ v', 0 ≤ v' → v' < v → le v' ≤ mo v' → le v < le v') → ∃ s0 v0, k (v + 1, le v, v) = some (s0, v0) ∧ FirstR A s0 v0 := fun ht => ih _ ⟨by simp only; omega, Or.inr ⟨by simp only; omega, rfl, by simp only; omega, fun v' v0 v1 hl => by
          simp only at v1 ⊢
          by_cases e : v' = v
          · rw [e]
            omega
          · exact Or.inl (ht v' v0 (by omega) hl)⟩⟩ (by simp only; omega)
        rcases hI with ⟨a1, a2, a3⟩ | ⟨a1, a2, a3, a4⟩
        · rw [if_pos a1]
          exact take (fun v' v0 v1 hl => by
            have := a3 v' v0 v1
            omega)
        · rw [if_neg (show ¬ fs = -1 by have := (hE fv a1.1 (by omega)).1; omega)]
          by_cases h3 : fs ≤ le v
          · rw [if_pos h3]
            refine ih _ ⟨by simp only; omega, Or.inr ⟨by simp only; omega, a2, a3, fun v' v0 v1 hl => ?_⟩⟩ (by simp only; omega)
            simp only at v1 ⊢
            by_cases e : v' = v
            · rw [e]
              omega
            · exact a4 v' v0 (by omega) hl
          · rw [if_neg h3]
            exact take (fun v' v0 v1 hl => by
              have := a4 v' v0 v1 hl
              omega)
  · exact ⟨by simp only; omega, Or.inl ⟨rfl, rfl, fun v a b => by simp only at b; omega⟩⟩
  · simp only
    omega
theorem fit9_spec (hF : 1000 ≤ F) (Q : CntQ x n pa wa co cells many) {s0 v0 w : Int} (hw : r32 w) (hR : FirstR (fun s v => allF pa wa co s v n.toNat) s0 v0) : ml_X9_fit_32 F x w 1 0 cells many = some (if w = 0 then s0 else v0, 0) := by
  unfold ml_X9_fit_32
  refine loopN_rec (I := fun q : Int => (1 ≤ q ∧ q ≤ 201) ∧ (s0 = -1 ∨ q ≤ s0)) (μ := fun q => (201 - q).toNat) (P := fun q y => y = some (if w = 0 then s0 else v0, 0)) ?_ F 1 ?_ ?_
  · rintro k s ⟨hs, hI⟩ ih
    unfold mb_X9_fit_32
    rw [ifI_lt (by decide) (by omega)]
    by_cases h1 : 200 < s
    · rw [if_pos h1]
      rcases hR with ⟨a1, a2, -⟩ | ⟨a1, -⟩
      · rw [a1, a2]
        split <;> rfl
      · omega
    · rw [if_neg h1]
      unfold ml_X9_fit_43
      refine loopN_rec (I := fun q : Int => (0 ≤ q ∧ q ≤ 31) ∧ (s0 = -1 ∨ s < s0 ∨ (s = s0 ∧ q ≤ v0))) (μ := fun q => (31 - q).toNat) (P := fun q y => y = some (if w = 0 then s0 else v0, 0)) ?_ F 0 ?_ ?_
      · rintro k2 v ⟨hv, hJ⟩ ih2
        unfold mb_X9_fit_43
        rw [ifI_lt (by decide) (by omega)]
        by_cases h2 : 30 < v
        · rw [if_pos h2]
          refine ih (s + 1) ⟨by omega, ?_⟩ (by omega)
          rcases hR with ⟨a1, -⟩ | ⟨a1, a2, -⟩ <;> omega
        · rw [if_neg h2, areFit_spec hF Q (by omega) (by omega), bnd1_s, ifB, ifI_eq hw (by decide)]
          by_cases h3 : allF pa wa co s v n.toNat = true
          · rw [if_pos h3]
            rcases hR with ⟨a1, a2, a3⟩ | ⟨a1, a2, a3, a4⟩
            · exact absurd h3 (a3 s v (by omega) (by omega) (by omega) (by omega))
            · have := a4 s v (by omega) (by omega) (by omega) (by omega) h3
              have e1 : s = s0 := by omega
              have e2 : v = v0 := by omega
              rw [e1, e2]
              split <;> rfl
          · rw [if_neg h3]
            refine ih2 (v + 1) ⟨by omega, ?_⟩ (by omega)
            rcases hR with ⟨a1, -⟩ | ⟨a1, a2, a3, a4⟩
            · exact Or.inl a1
            · by_cases e : s = s0 ∧ v = v0
              · rw [← e.1, ← e.2] at a3
                exact absurd a3 h3
              · omega
      · refine ⟨by omega, ?_⟩
        rcases hR with ⟨a1, -⟩ | ⟨a1, a2, -⟩ <;> omega
      · omega
  · refine ⟨by omega, ?_⟩
    rcases hR with ⟨a1, -⟩ | ⟨a1, -⟩ <;> omega
  · omega
theorem bI_or {b c : Bool} : bI ((b || c) = true) = if b = true then 1 else bI (c = true) := by
  cases b <;> cases c <;> rfl
/-- unlike STEPS, the component -/
theorem unlikeSteps_spec (hF : 100000 ≤ F) (hE : EndsR le mo A) (t0 : Int → Int) : ∃ t', m_X0_unlikeSteps F le mo t0 = some (sm (fun a => bI (anyV A (a + 1) 31 = true)) 200, t') := by
  obtain ⟨t1, e1, ht1⟩ := fill_int (F := F) (n := 201) (by decide) hF (x := 0) (f := t0)
  unfold m_X0_unlikeSteps
  rw [e1, bnd1_s]
  have hsum : ∀ t : Int → Int, (∀ s, 1 ≤ s → s ≤ 200 → 0 ≤ t s ∧ t s ≤ 1) → 0 ≤ sm (fun a => t (a + 1)) 200 ∧ sm (fun a => t (a + 1)) 200 ≤ 1 * 200 := fun t ht => sm_in 200 (fun i i0 i1 => ht (i + 1) (by omega) (by omega))
  unfold ml_X0_unlikeSteps_12
  refine loopN_rec (I := fun q : Int × Int × (Int → Int) => (0 ≤ q.2.1 ∧ q.2.1 ≤ 31) ∧ q.1 = sm (fun a => q.2.2 (a + 1)) 200 ∧ ∀ s, 1 ≤ s → s ≤ 200 → q.2.2 s = bI (anyV A s q.2.1.toNat = true)) (μ := fun q => (31 - q.2.1).toNat) (P := fun q y => ∃ t', y = some (sm (fun a => bI (anyV A (a + 1) 31 = true)) 200, t')) ?_ F (0, 0, t1) ?_ ?_
  · rintro k ⟨u, v, t⟩ ⟨hv, hu, ht⟩ ih
    simp only at hv hu ht ih ⊢
    unfold mb_X0_unlikeSteps_12
    rw [ifI_lt (by decide) (by omega)]
    by_cases h1 : 30 < v
    · rw [if_pos h1]
      refine ⟨t, ?_⟩
      have : sm (fun a => t (a + 1)) 200 = sm (fun a => bI (anyV A (a + 1) 31 = true)) 200 := sm_congr 200 (fun a a0 a1 => by
        rw [ht (a + 1) (by omega) (by omega), show v = 31 by omega]
        rfl)
      rw [hu, this]
    · obtain ⟨b1, b2, b3⟩ := hE v hv.1 (by omega)
      rw [if_neg h1, chk_pos (by omega)]
      simp only [nam]
      unfold ml_X0_unlikeSteps_25
      refine loopN_rec (I := fun q : Int × Int × (Int → Int) => (le v ≤ q.2.1 ∧ (q.2.1 ≤ mo v + 1 ∨ q.2.1 = le v)) ∧ q.1 = sm (fun a => q.2.2 (a + 1)) 200 ∧ ∀ s, 1 ≤ s → s ≤ 200 → q.2.2 s = bI ((anyV A s v.toNat || (A s v && decide (s < q.2.1))) = true)) (μ := fun q => (mo v + 1 - q.2.1).toNat) (P := fun q y => ∃ t', y = some (sm (fun a => bI (anyV A (a + 1) 31 = true)) 200, t')) ?_ F (u, le v, t) ?_ ?_
      · rintro k2 ⟨u2, s, t2⟩ ⟨hs, hu2, ht2⟩ ih2
        simp only at hs hu2 ht2 ih2 ⊢
        have hr := hsum t2 (fun s' a b => by
          rw [ht2 s' a b]
          have := bI_01 (c := (anyV A s' v.toNat || (A s' v && decide (s' < s))) = true)
          omega)
        unfold mb_X0_unlikeSteps_25
        rw [chk_pos (by omega), ifI_lt (by omega) (by omega)]
        by_cases h2 : mo v < s
        · rw [if_pos h2]
          refine ih _ ⟨by simp only; omega, hu2, fun s' a b => ?_⟩ (by simp only; omega)
          simp only
          rw [ht2 s' a b, show (v + 1).toNat = v.toNat + 1 by omega]
          show _ = bI ((anyV A s' v.toNat || A s' ((v.toNat : Nat) : Int)) = true)
          rw [show ((v.toNat : Nat) : Int) = v by omega]
          have : (A s' v && decide (s' < s)) = A s' v := by
            cases hA : A s' v
            · rfl
            · have := (b3 s' a b).mpr hA
              rw [decide_eq_true (show s' < s by omega)]
              rfl
          rw [this]
        · have hA : A s v = true := (b3 s (by omega) (by omega)).mp ⟨hs.1, by omega⟩
          have hts := ht2 s (by omega) (by omega)
          have h01 := bI_01 (c := (anyV A s v.toNat || (A s v && decide (s < s))) = true)
          rw [← hts] at h01
          simp only [mb_X0_unlikeSteps_50, nam]
          rw [if_neg h2, chk_pos (by omega), ifI_eq (by omega) (by decide), chk_pos (by omega), chk_pos (by omega)]
          have next : ∀ z : Int, u2 + z = sm (fun a => up t2 s 1 (a + 1)) 200 → ∃ t', k2 (u2 + z, s + 1, up t2 s 1) = some (sm (fun a => bI (anyV A (a + 1) 31 = true)) 200, t') := by
            intro z hz
            refine ih2 _ ⟨by simp only; omega, hz, fun s' a b => ?_⟩ (by simp only; omega)
            simp only
            by_cases e : s' = s
            · rw [e, up_at, hA, decide_eq_true (show s < s + 1 by omega)]
              rw [bI_t]
              simp
            · rw [up_ne e, ht2 s' a b]
              have : decide (s' < s + 1) = decide (s' < s) := by
                by_cases z : s' < s
                · rw [decide_eq_true z, decide_eq_true (show s' < s + 1 by omega)]
                · rw [decide_eq_false z, decide_eq_false (show ¬ s' < s + 1 by omega)]
              rw [this]
          have hup : sm (fun a => up t2 s 1 (a + 1)) 200 = sm (fun a => t2 (a + 1)) 200 + (1 - t2 s) := by
            rw [sm_up 200, if_pos (by omega)]
          by_cases h3 : t2 s = 0
          · rw [if_pos h3]
            exact next 1 (by rw [hup, h3, hu2]; omega)
          · rw [if_neg h3]
            exact next 0 (by rw [hup, hu2]; omega)
      · refine ⟨⟨Int.le_refl _, Or.inr rfl⟩, hu, fun s a b => ?_⟩
        simp only
        rw [ht s a b]
        have : (A s v && decide (s < le v)) = false := by
          cases hA : A s v
          · rfl
          · have := (b3 s a b).mpr hA
            rw [decide_eq_false (show ¬ s < le v by omega)]
            rfl
        rw [this, Bool.or_false]
      · simp only
        omega
  · refine ⟨by simp only; omega, ?_, fun s a b => ?_⟩
    · simp only
      rw [sm_congr (g := fun _ => 0) 200 (fun a a0 a1 => ht1 (a + 1) (by omega) (by omega)), sm_zero]
    · simp only
      rw [ht1 s (by omega) (by omega)]
      rfl
  · simp only
    omega
/-- unlike SPEEDS, the component -/
theorem unlikeSpeeds_spec (hF : 1000 ≤ F) (hE : EndsR le mo A) : m_X0_unlikeSpeeds F le mo = some (sm (fun v => bI (anyS A v 200 = true)) 31) := by
  have hcol : ∀ v, 0 ≤ v → v ≤ 30 → (anyS A v 200 = true ↔ le v ≤ mo v) := fun v v0 v1 => by
    obtain ⟨b1, b2, b3⟩ := hE v v0 v1
    rw [anyS_iff]
    constructor
    · rintro ⟨s, h1, h2, h3⟩
      have := (b3 s h1 (by omega)).mpr h3
      omega
    · intro h
      exact ⟨le v, by omega, by omega, (b3 (le v) (by omega) (by omega)).mp ⟨Int.le_refl _, h⟩⟩
  have hbd : ∀ k : Nat, 0 ≤ sm (fun v => bI (anyS A v 200 = true)) k ∧ sm (fun v => bI (anyS A v 200 = true)) k ≤ 1 * k := fun k => sm_in k (fun i _ _ => by
    have := bI_01 (c := anyS A i 200 = true)
    omega)
  unfold m_X0_unlikeSpeeds ml_X0_unlikeSpeeds_4
  refine loopN_rec (I := fun q : Int × Int => (0 ≤ q.2 ∧ q.2 ≤ 31) ∧ q.1 = sm (fun v => bI (anyS A v 200 = true)) q.2.toNat) (μ := fun q => (31 - q.2).toNat) (P := fun q y => y = some (sm (fun v => bI (anyS A v 200 = true)) 31)) ?_ F (0, 0) ?_ ?_
  · rintro k ⟨u, v⟩ ⟨hv, hu⟩ ih
    simp only at hv hu ih ⊢
    unfold mb_X0_unlikeSpeeds_4
    rw [ifI_lt (by decide) (by omega)]
    by_cases h1 : 30 < v
    · rw [if_pos h1, hu, show v = 31 by omega]
      rfl
    · obtain ⟨b1, b2, b3⟩ := hE v hv.1 (by omega)
      have hst : sm (fun v => bI (anyS A v 200 = true)) (v + 1).toNat = sm (fun v => bI (anyS A v 200 = true)) v.toNat + bI (anyS A v 200 = true) := by
        rw [show (v + 1).toNat = v.toNat + 1 by omega]
        show _ + bI (anyS A ((v.toNat : Nat) : Int) 200 = true) = _
        rw [show ((v.toNat : Nat) : Int) = v by omega]
      simp only [chk_pos (show 0 ≤ v ∧ v < 31 by omega), mb_X0_unlikeSpeeds_31, nam]
      rw [if_neg h1, ifI_lt (by omega) (by omega)]
      by_cases h2 : mo v < le v
      · rw [if_pos h2]
        refine ih _ ⟨by simp only; omega, ?_⟩ (by simp only; omega)
        simp only
        rw [hst, hu, bI_f (fun z => by have := (hcol v hv.1 (by omega)).mp z; omega)]
      · rw [if_neg h2]
        refine ih _ ⟨by simp only; omega, ?_⟩ (by simp only; omega)
        simp only
        rw [hst, hu, bI_t ((hcol v hv.1 (by omega)).mpr (by omega))]
  · exact ⟨by simp only; omega, rfl⟩
  · simp only
    omega
/-- unlike STEPS, the reference -/
theorem unlike9_0 (hF : 1000 ≤ F) (Q : CntQ x n pa wa co cells many) : ml_X9_unlike_43 F x 0 0 1 0 cells many = some (sm (fun a => bI (anyV (fun s v => allF pa wa co s v n.toNat) (a + 1) 31 = true)) 200, 0) := by
  unfold ml_X9_unlike_43
  refine loopN_rec (I := fun q : Int × Int => (1 ≤ q.2 ∧ q.2 ≤ 201) ∧ q.1 = sm (fun a => bI (anyV (fun s v => allF pa wa co s v n.toNat) (a + 1) 31 = true)) (q.2 - 1).toNat) (μ := fun q => (201 - q.2).toNat) (P := fun q y => y = some (sm (fun a => bI (anyV (fun s v => allF pa wa co s v n.toNat) (a + 1) 31 = true)) 200, 0)) ?_ F (0, 1) ?_ ?_
  · rintro k ⟨u, s⟩ ⟨hs, hu⟩ ih
    simp only at hs hu ih ⊢
    unfold mb_X9_unlike_43 mb_X9_unlike_57
    rw [if_pos rfl, ifI_lt (by decide) (by omega)]
    by_cases h1 : 200 < s
    · rw [if_pos h1, hu, show s = 201 by omega]
      rfl
    · rw [if_neg h1, if_pos rfl]
      have fin : ∀ z : Int, z = bI (anyV (fun s v => allF pa wa co s v n.toNat) s 31 = true) → mb_X9_unlike_129 F (fun y0 y1 => k (y0, y1)) x 0 u s z 0 cells many = some (sm (fun a => bI (anyV (fun s v => allF pa wa co s v n.toNat) (a + 1) 31 = true)) 200, 0) := by
        intro z hz
        have z01 := bI_01 (c := anyV (fun s v => allF pa wa co s v n.toNat) s 31 = true)
        unfold mb_X9_unlike_129
        simp only [mb_X9_unlike_141, nam]
        rw [ifI_eq (by omega) (by decide)]
        have go : ∀ w : Int, w = z → k (u + w, s + 1) = some (sm (fun a => bI (anyV (fun s v => allF pa wa co s v n.toNat) (a + 1) 31 = true)) 200, 0) := by
          intro w hw
          refine ih (u + w, s + 1) ⟨by simp only; omega, ?_⟩ (by simp only; omega)
          simp only
          rw [show (s + 1 - 1).toNat = (s - 1).toNat + 1 by omega, hu, hw, hz]
          show _ = _ + bI (anyV (fun s v => allF pa wa co s v n.toNat) ((((s - 1).toNat : Nat) : Int) + 1) 31 = true)
          rw [show (((s - 1).toNat : Nat) : Int) + 1 = s by omega]
        by_cases h0 : z = 0
        · rw [if_pos h0]
          exact go 0 (by omega)
        · rw [if_neg h0]
          exact go 1 (by omega)
      unfold mb_X9_unlike_72 ml_X9_unlike_74
      refine loopN_rec (I := fun q : Int × Int => (0 ≤ q.2 ∧ q.2 ≤ 31) ∧ q.1 = bI (anyV (fun s v => allF pa wa co s v n.toNat) s q.2.toNat = true)) (μ := fun q => (31 - q.2).toNat) (P := fun q y => y = some (sm (fun a => bI (anyV (fun s v => allF pa wa co s v n.toNat) (a + 1) 31 = true)) 200, 0)) ?_ F (0, 0) ?_ ?_
      · rintro k2 ⟨z, v⟩ ⟨hv, hz⟩ ih2
        simp only at hv hz ih2 ⊢
        have z01 := bI_01 (c := anyV (fun s v => allF pa wa co s v n.toNat) s v.toNat = true)
        unfold mb_X9_unlike_74 mb_X9_unlike_88
        simp only [mb_X9_unlike_121]
        rw [if_pos trivial, ifI_lt (by decide) (by omega), if_pos trivial, ifI_eq (a := z) (b := 0) (by omega) (by decide)]
        by_cases h2 : 30 < v
        · rw [if_pos h2]
          exact fin z (by rw [hz, show v = 31 by omega]; rfl)
        · rw [if_neg h2]
          by_cases h3 : z = 0
          · have hno : anyV (fun s v => allF pa wa co s v n.toNat) s v.toNat = false := by
              cases hh : anyV (fun s v => allF pa wa co s v n.toNat) s v.toNat
              · rfl
              · rw [bI_t hh] at hz
                omega
            rw [if_pos h3, areFit_spec hF Q (by omega) (by omega), bnd1_s]
            refine ih2 _ ⟨by simp only; omega, ?_⟩ (by simp only; omega)
            simp only
            rw [show (v + 1).toNat = v.toNat + 1 by omega]
            show _ = bI ((anyV (fun s v => allF pa wa co s v n.toNat) s v.toNat || allF pa wa co s ((v.toNat : Nat) : Int) n.toNat) = true)
            rw [hno, Bool.false_or, show ((v.toNat : Nat) : Int) = v by omega]
          · have hyes : anyV (fun s v => allF pa wa co s v n.toNat) s v.toNat = true := by
              cases hh : anyV (fun s v => allF pa wa co s v n.toNat) s v.toNat
              · rw [hh, bI_f (by decide)] at hz
                omega
              · rfl
            rw [if_neg h3]
            exact fin z (by rw [hz, bI_t hyes, bI_t (anyV_mono 31 v.toNat (by omega) hyes)])
      · exact ⟨by simp only; omega, rfl⟩
      · simp only
        omega
  · exact ⟨by simp only; omega, rfl⟩
  · simp only
    omega
/-- unlike SPEEDS, the reference -/
theorem unlike9_1 (hF : 1000 ≤ F) (Q : CntQ x n pa wa co cells many) : ml_X9_unlike_43 F x 1 0 0 0 cells many = some (sm (fun v => bI (anyS (fun s v => allF pa wa co s v n.toNat) v 200 = true)) 31, 0) := by
  unfold ml_X9_unlike_43
  refine loopN_rec (I := fun q : Int × Int => (0 ≤ q.2 ∧ q.2 ≤ 31) ∧ q.1 = sm (fun v => bI (anyS (fun s v => allF pa wa co s v n.toNat) v 200 = true)) q.2.toNat) (μ := fun q => (31 - q.2).toNat) (P := fun q y => y = some (sm (fun v => bI (anyS (fun s v => allF pa wa co s v n.toNat) v 200 = true)) 31, 0)) ?_ F (0, 0) ?_ ?_
  · rintro k ⟨u, v⟩ ⟨hv, hu⟩ ih
    simp only at hv hu ih ⊢
    unfold mb_X9_unlike_43 mb_X9_unlike_57
    rw [if_neg one0, ifI_lt (by decide) (by omega)]
    by_cases h1 : 30 < v
    · rw [if_pos h1, hu, show v = 31 by omega]
      rfl
    · rw [if_neg h1, if_neg one0]
      have fin : ∀ z : Int, z = bI (anyS (fun s v => allF pa wa co s v n.toNat) v 200 = true) → mb_X9_unlike_129 F (fun y0 y1 => k (y0, y1)) x 1 u v z 0 cells many = some (sm (fun v => bI (anyS (fun s v => allF pa wa co s v n.toNat) v 200 = true)) 31, 0) := by
        intro z hz
        have z01 := bI_01 (c := anyS (fun s v => allF pa wa co s v n.toNat) v 200 = true)
        unfold mb_X9_unlike_129
        simp only [mb_X9_unlike_141, nam]
        rw [ifI_eq (by omega) (by decide)]
        have go : ∀ w : Int, w = z → k (u + w, v + 1) = some (sm (fun v => bI (anyS (fun s v => allF pa wa co s v n.toNat) v 200 = true)) 31, 0) := by
          intro w hw
          refine ih (u + w, v + 1) ⟨by simp only; omega, ?_⟩ (by simp only; omega)
          simp only
          rw [show (v + 1).toNat = v.toNat + 1 by omega, hu, hw, hz]
          show _ = _ + bI (anyS (fun s v => allF pa wa co s v n.toNat) ((v.toNat : Nat) : Int) 200 = true)
          rw [show ((v.toNat : Nat) : Int) = v by omega]
        by_cases h0 : z = 0
        · rw [if_pos h0]
          exact go 0 (by omega)
        · rw [if_neg h0]
          exact go 1 (by omega)
      unfold mb_X9_unlike_72 ml_X9_unlike_74
      refine loopN_rec (I := fun q : Int × Int => (1 ≤ q.2 ∧ q.2 ≤ 201) ∧ q.1 = bI (anyS (fun s v => allF pa wa co s v n.toNat) v (q.2 - 1).toNat = true)) (μ := fun q => (201 - q.2).toNat) (P := fun q y => y = some (sm (fun v => bI (anyS (fun s v => allF pa wa co s v n.toNat) v 200 = true)) 31, 0)) ?_ F (0, 1) ?_ ?_
      · rintro k2 ⟨z, s⟩ ⟨hs, hz⟩ ih2
        simp only at hs hz ih2 ⊢
        have z01 := bI_01 (c := anyS (fun s v => allF pa wa co s v n.toNat) v (s - 1).toNat = true)
        unfold mb_X9_unlike_74 mb_X9_unlike_88
        simp only [mb_X9_unlike_121]
        rw [if_neg one0, ifI_lt (by decide) (by omega), if_neg one0, ifI_eq (a := z) (b := 0) (by omega) (by decide)]
        by_cases h2 : 200 < s
        · rw [if_pos h2]
          exact fin z (by rw [hz, show s = 201 by omega]; rfl)
        · rw [if_neg h2]
          by_cases h3 : z = 0
          · have hno : anyS (fun s v => allF pa wa co s v n.toNat) v (s - 1).toNat = false := by
              cases hh : anyS (fun s v => allF pa wa co s v n.toNat) v (s - 1).toNat
              · rfl
              · rw [bI_t hh] at hz
                omega
            rw [if_pos h3, areFit_spec hF Q (by omega) (by omega), bnd1_s]
            refine ih2 _ ⟨by simp only; omega, ?_⟩ (by simp only; omega)
            simp only
            rw [show (s + 1 - 1).toNat = (s - 1).toNat + 1 by omega]
            show _ = bI ((anyS (fun s v => allF pa wa co s v n.toNat) v (s - 1).toNat || allF pa wa co ((((s - 1).toNat : Nat) : Int) + 1) v n.toNat) = true)
            rw [hno, Bool.false_or, show (((s - 1).toNat : Nat) : Int) + 1 = s by omega]
          · have hyes : anyS (fun s v => allF pa wa co s v n.toNat) v (s - 1).toNat = true := by
              cases hh : anyS (fun s v => allF pa wa co s v n.toNat) v (s - 1).toNat
              · rw [hh, bI_f (by decide)] at hz
                omega
              · rfl
            rw [if_neg h3]
            exact fin z (by rw [hz, bI_t hyes, bI_t (anyS_mono 200 (s - 1).toNat (by omega) hyes)])
      · exact ⟨by simp only; omega, rfl⟩
      · simp only
        omega
  · exact ⟨by simp only; omega, rfl⟩
  · simp only
    omega
end CNT5
section CNT6
variable {F : Nat} {held width size wdt many cells : Int → Int} {num : Int → Int → Int}
/-- fit -/
theorem op_fit (hF : 100000 ≤ F) (S : SlotR held width size num wdt many cells) {x1 x2 : Int} (hx1 : r32 x1) (hx2 : r32 x2) (u1 u2 u3 u4 u5 : Int) (f1 f2 f3 f4 f5 : Int → Int) : Eq1 (m_X8_fit F x1 x2 u1 u4 u5 u2 u3 f1 f2 f3 f4 f5 held size num) (m_X9_fit F x1 x2 cells many wdt) := by
  unfold m_X8_fit m_X9_fit
  rw [isSide_spec hx2, bnd1_s, ifB, isHalf_spec hx2, bnd1_s, ifB]
  by_cases h1 : 0 ≤ x2 ∧ x2 ≤ 1
  · rw [if_pos h1, if_pos h1]
    rcases counts_pair hF S hx1 u1 u2 u3 f1 f2 f3 f4 f5 with ⟨r, ⟨w1, w2, w3, w4, w5, w6, w7, w8⟩, hr, k1, k2⟩ | ⟨n, o1, o2, co, le, mo, pa, wa, k1, k2, Q, hE⟩
    · rw [k1, k2, bnd9_s, bnd1_s]
      unfold mb_X8_fit_17 mb_X9_fit_22
      rw [ifI_eq (a := r) (b := 0) (by omega) (by decide), ifI_eq (a := r) (b := 0) (by omega) (by decide), if_neg (show ¬ r = 0 by omega), if_neg (show ¬ r = 0 by omega)]
      exact Eq1.mk
    · obtain ⟨s0, v0, ef, hR⟩ := findFirst_spec (F := F) (by omega) hE
      rw [k1, k2, bnd9_s, bnd1_s]
      unfold mb_X8_fit_17 mb_X9_fit_22
      rw [if_pos rfl, if_pos rfl, ef, bnd2_s, fit9_spec (by omega) Q hx2 hR, ifI_eq hx2 (by decide)]
      by_cases h2 : x2 = 0
      · rw [if_pos h2, if_pos h2]
        exact Eq1.mk
      · rw [if_neg h2, if_neg h2]
        exact Eq1.mk
  · rw [if_neg h1, if_neg h1]
    unfold mb_X8_fit_17 mb_X9_fit_22
    rw [if_neg m20, if_neg m20]
    exact Eq1.mk
/-- unlike -/
theorem op_unlike (hF : 100000 ≤ F) (S : SlotR held width size num wdt many cells) {x1 x2 : Int} (hx1 : r32 x1) (hx2 : r32 x2) (u1 u2 u3 : Int) (f1 f2 f3 f4 f5 t0 : Int → Int) : Eq1 (m_X8_unlike F x1 x2 u1 u2 u3 f1 f2 f3 f4 t0 f5 held size num) (m_X9_unlike F x1 x2 cells many wdt) := by
  unfold m_X8_unlike m_X9_unlike
  rw [isSide_spec hx2, bnd1_s, ifB, isHalf_spec hx2, bnd1_s, ifB]
  by_cases h1 : 0 ≤ x2 ∧ x2 ≤ 1
  · rw [if_pos h1, if_pos h1]
    rcases counts_pair hF S hx1 u1 u2 u3 f1 f2 f3 f4 f5 with ⟨r, ⟨w1, w2, w3, w4, w5, w6, w7, w8⟩, hr, k1, k2⟩ | ⟨n, o1, o2, co, le, mo, pa, wa, k1, k2, Q, hE⟩
    · rw [k1, k2, bnd9_s, bnd1_s]
      unfold mb_X8_unlike_17 mb_X9_unlike_22
      rw [ifI_eq (a := r) (b := 0) (by omega) (by decide), ifI_eq (a := r) (b := 0) (by omega) (by decide), if_neg (show ¬ r = 0 by omega), if_neg (show ¬ r = 0 by omega)]
      exact Eq1.mk
    · rw [k1, k2, bnd9_s, bnd1_s]
      unfold mb_X8_unlike_17 mb_X9_unlike_22 mb_X9_unlike_41
      rw [if_pos rfl, if_pos rfl]
      obtain ⟨t', et⟩ := unlikeSteps_spec (F := F) hF hE t0
      rcases (show x2 = 0 ∨ x2 = 1 by omega) with rfl | rfl
      · rw [if_pos rfl, if_pos rfl, et, bnd2_s, unlike9_0 (by omega) Q]
        exact Eq1.mk
      · rw [if_neg one0, if_neg one0, unlikeSpeeds_spec (by omega) hE, bnd1_s, unlike9_1 (by omega) Q]
        exact Eq1.mk
  · rw [if_neg h1, if_neg h1]
    unfold mb_X8_unlike_17 mb_X9_unlike_22
    rw [if_neg m20, if_neg m20]
    exact Eq1.mk
end CNT6
