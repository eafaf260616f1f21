/-! ASK, LEFT -/
theorem sm_stop {f : Int → Int} {j : Nat} : ∀ k : Nat, j ≤ k → (∀ i, (j : Int) ≤ i → i < (k : Int) → f i = 0) → sm f k = sm f j
  | 0, h, _ => by rw [show j = 0 by omega]
  | k + 1, h, hz => by
    by_cases e : j = k + 1
    · rw [e]
    · show sm f k + f (k : Int) = _
      rw [sm_stop k (by omega) (fun i a b => hz i a (by omega)), hz k (by omega) (by omega), Int.add_zero]
theorem sm_nil {f : Int → Int} (k : Nat) (hz : ∀ i, 0 ≤ i → i < (k : Int) → f i = 0) : sm f k = 0 := by
  rw [sm_congr (g := fun _ => 0) k hz, sm_zero]
theorem sm_le {f : Int → Int} {j : Nat} : ∀ k : Nat, j ≤ k → (∀ i, 0 ≤ i → 0 ≤ f i) → sm f j ≤ sm f k
  | 0, h, _ => by
    rw [show j = 0 by omega]
    exact Int.le_refl _
  | k + 1, h, hz => by
    by_cases e : j = k + 1
    · rw [e]
      exact Int.le_refl _
    · have h1 := sm_le (f := f) (j := j) k (by omega) hz
      have h2 := hz k (by omega)
      show sm f j ≤ sm f k + f (k : Int)
      omega
theorem sm_s {f : Int → Int} {v : Int} (hv : 0 ≤ v) : sm f (v + 1).toNat = sm f v.toNat + f v := by
  rw [show (v + 1).toNat = v.toNat + 1 by omega]
  show _ + f ((v.toNat : Nat) : Int) = _
  rw [show ((v.toNat : Nat) : Int) = v by omega]
def mxn (f : Int → Int) : Nat → Int
  | 0 => 0
  | k + 1 => max (mxn f k) (f (k : Int))
theorem mxn_congr {f g : Int → Int} : ∀ k : Nat, (∀ i, 0 ≤ i → i < (k : Int) → f i = g i) → mxn f k = mxn g k
  | 0, _ => rfl
  | k + 1, h => by
    unfold mxn
    rw [mxn_congr k (fun i a b => h i a (by omega)), h k (by omega) (by omega)]
theorem mxn_ge {f : Int → Int} : ∀ k : Nat, 0 ≤ mxn f k ∧ ∀ i, 0 ≤ i → i < (k : Int) → f i ≤ mxn f k
  | 0 => ⟨Int.le_refl _, fun i a b => by omega⟩
  | k + 1 => by
    obtain ⟨h1, h2⟩ := mxn_ge (f := f) k
    unfold mxn
    refine ⟨by omega, fun i a b => ?_⟩
    by_cases e : i = (k : Int)
    · rw [e]
      omega
    · have := h2 i a (by omega)
      omega
theorem mxn_le {f : Int → Int} {M : Int} : ∀ k : Nat, 0 ≤ M → (∀ i, 0 ≤ i → i < (k : Int) → f i ≤ M) → mxn f k ≤ M
  | 0, h, _ => h
  | k + 1, h, hz => by
    have h1 := mxn_le (f := f) k h (fun i a b => hz i a (by omega))
    have h2 := hz k (by omega) (by omega)
    unfold mxn
    omega
def hit (A : Int → Int → Bool) (p k s v : Int) : Int := bI (A s v = true ∧ p * s / (p + v) = k)
theorem hit_01 {A : Int → Int → Bool} {p k s v : Int} : hit A p k s v = 0 ∨ hit A p k s v = 1 := bI_01
def totK (A : Int → Int → Bool) (p k : Int) : Int := sm (fun v => sm (fun a => hit A p k (a + 1) v) 200) 31
def wst (A : Int → Int → Bool) (p : Int) : Int := mxn (totK A p) 201
def askR (W : Int → Int) (all : Int) : Nat → Int × Int
  | 0 => (-1, all)
  | k + 1 => if W ((k : Int) + 1) < (askR W all k).2 then ((k : Int) + 1, W ((k : Int) + 1)) else askR W all k
theorem askR_s {W : Int → Int} {all p : Int} (hp : 1 ≤ p) : askR W all (p + 1 - 1).toNat = if W p < (askR W all (p - 1).toNat).2 then (p, W p) else askR W all (p - 1).toNat := by
  rw [show (p + 1 - 1).toNat = (p - 1).toNat + 1 by omega]
  unfold askR
  rw [show ((((p - 1).toNat : Nat) : Int) + 1) = p by omega]
  cases (p - 1).toNat <;> rfl
theorem cnt_in {p s v : Int} (hp : 1 ≤ p ∧ p ≤ 30) (hs : 1 ≤ s ∧ s ≤ 200) (hv : 0 ≤ v ∧ v ≤ 30) : (0 ≤ p * s / (p + v) ∧ p * s / (p + v) ≤ 200) ∧ (p * s).tdiv (p + v) = p * s / (p + v) ∧ (0 ≤ p * s ∧ p * s ≤ 6000) := by
  have h := mul_in (x := p) (y := s) (M := 30) (N := 200) (by omega) (by omega)
  have h2 : p * s ≤ 200 * (p + v) := by
    have := Int.mul_le_mul_of_nonneg_left hs.2 (show 0 ≤ p by omega)
    omega
  refine ⟨⟨Int.ediv_nonneg h.1 (by omega), ?_⟩, Int.tdiv_eq_ediv_of_nonneg h.1, h⟩
  have := Int.ediv_lt_of_lt_mul (a := p * s) (b := 201) (c := p + v) (by omega) (by omega)
  omega
section ASK
variable {F : Nat} {x n : Int} {pa wa co cells many le mo : Int → Int} {A : Int → Int → Bool}
theorem col_in {p k v : Int} (j : Nat) : 0 ≤ sm (fun a => hit A p k (a + 1) v) j ∧ sm (fun a => hit A p k (a + 1) v) j ≤ 1 * j := sm_in j (fun i _ _ => by
  have := hit_01 (A := A) (p := p) (k := k) (s := i + 1) (v := v)
  omega)
theorem cols_in {p k : Int} (j : Nat) : 0 ≤ sm (fun v => sm (fun a => hit A p k (a + 1) v) 200) j ∧ sm (fun v => sm (fun a => hit A p k (a + 1) v) 200) j ≤ 200 * j := sm_in j (fun i _ _ => by
  have := col_in (A := A) (p := p) (k := k) (v := i) 200
  omega)
theorem tot_in {p k : Int} : 0 ≤ totK A p k ∧ totK A p k ≤ 6200 := by
  have := cols_in (A := A) (p := p) (k := k) 31
  unfold totK
  omega
theorem wst_in {p : Int} : 0 ≤ wst A p ∧ wst A p ≤ 6200 := ⟨(mxn_ge 201).1, mxn_le 201 (by omega) (fun i _ _ => tot_in.2)⟩
/-- the component's worst count of one pace -/
theorem worst_spec (hF : 100000 ≤ F) (hE : EndsR le mo A) {p e : Int} (hp : 1 ≤ p ∧ p ≤ 30) (he : 0 ≤ e ∧ e ≤ 6200) (t0 : Int → Int) : ∃ r t', m_X0_worstAfter F p e le mo t0 = some (r, t') ∧ (0 ≤ r ∧ r ≤ 6200) ∧ (r = wst A p ∨ (e ≤ r ∧ e ≤ wst A p)) := by
  obtain ⟨t1, e1, ht1⟩ := fill_int (F := F) (n := 201) (by decide) hF (x := 0) (f := t0)
  unfold m_X0_worstAfter
  rw [e1, bnd1_s]
  unfold ml_X0_worstAfter_13
  have mx32 : ∀ {a b : Int}, r32 a → r32 b → m_J9_max_7cf53 F a b = some (max a b) := fun ha hb => by
    rw [max32 ha hb]
    congr 1
    omega
  refine loopN_rec (I := fun q : Int × Int × (Int → Int) => (0 ≤ q.2.1 ∧ q.2.1 ≤ 31) ∧ (0 ≤ q.1 ∧ q.1 ≤ 6200) ∧ (∀ k, 0 ≤ k → k ≤ 200 → q.2.2 k = sm (fun v => sm (fun a => hit A p k (a + 1) v) 200) q.2.1.toNat ∧ q.2.2 k ≤ q.1) ∧ (q.1 = 0 ∨ ∃ k, 0 ≤ k ∧ k ≤ 200 ∧ q.2.2 k = q.1)) (μ := fun q => (31 - q.2.1).toNat) (P := fun q y => ∃ r t', y = some (r, t') ∧ (0 ≤ r ∧ r ≤ 6200) ∧ (r = wst A p ∨ (e ≤ r ∧ e ≤ wst A p))) ?_ F (0, 0, t1) ?_ ?_
  · rintro kk ⟨w, v, t⟩ ⟨hv, hw, ht, hx⟩ ih
    simp only at hv hw ht hx ih ⊢
    unfold mb_X0_worstAfter_13
    rw [ifI_lt (by decide) (by omega), ifI_le (by omega) (by omega)]
    have low : w ≤ wst A p := by
      have h0 := (mxn_ge (f := totK A p) 201)
      rcases hx with hx | ⟨k, k0, k1, hk⟩
      · rw [hx]
        exact h0.1
      · rw [← hk, (ht k k0 k1).1]
        refine Int.le_trans ?_ (h0.2 k k0 (by omega))
        exact sm_le 31 (by omega) (fun i _ => (col_in 200).1)
    by_cases h1 : 30 < v
    · rw [if_pos h1]
      refine ⟨w, t, rfl, hw, Or.inl (Int.le_antisymm low ?_)⟩
      refine mxn_le 201 hw.1 (fun k k0 k1 => ?_)
      have := ht k k0 (by omega)
      rw [show v.toNat = 31 by omega] at this
      unfold totK
      omega
    · rw [if_neg h1]
      by_cases h2 : e ≤ w
      · rw [if_pos h2]
        exact ⟨w, t, rfl, hw, Or.inr ⟨h2, by omega⟩⟩
      · obtain ⟨b1, b2, b3⟩ := hE v hv.1 (by omega)
        rw [if_neg h2, mx32 (by omega) (by omega), bnd1_s, chk_pos (by omega)]
        simp only [nam]
        rw [show max 1 (p + v) = p + v by omega]
        unfold ml_X0_worstAfter_44
        refine loopN_rec (I := fun q : Int × Int × (Int → Int) => (le v ≤ q.2.1 ∧ (q.2.1 ≤ mo v + 1 ∨ q.2.1 = le v)) ∧ (0 ≤ q.1 ∧ q.1 ≤ 6200) ∧ (∀ k, 0 ≤ k → k ≤ 200 → q.2.2 k = sm (fun v => sm (fun a => hit A p k (a + 1) v) 200) v.toNat + sm (fun a => hit A p k (a + 1) v) (min (q.2.1 - 1) 200).toNat ∧ q.2.2 k ≤ q.1) ∧ (q.1 = 0 ∨ ∃ k, 0 ≤ k ∧ k ≤ 200 ∧ q.2.2 k = q.1)) (μ := fun q => (mo v + 1 - q.2.1).toNat) (P := fun q y => ∃ r t', y = some (r, t') ∧ (0 ≤ r ∧ r ≤ 6200) ∧ (r = wst A p ∨ (e ≤ r ∧ e ≤ wst A p))) ?_ F (w, le v, t) ?_ ?_
        · rintro k2 ⟨w2, s, t2⟩ ⟨hs, hw2, ht2, hx2⟩ ih2
          simp only at hs hw2 ht2 hx2 ih2 ⊢
          unfold mb_X0_worstAfter_44
          rw [chk_pos (by omega), ifI_lt (by omega) (by omega)]
          by_cases h3 : mo v < s
          · rw [if_pos h3]
            refine ih _ ⟨by simp only; omega, hw2, fun k k0 k1 => ⟨?_, (ht2 k k0 k1).2⟩, hx2⟩ (by simp only; omega)
            simp only
            rw [sm_s hv.1, (ht2 k k0 k1).1]
            have hst := sm_stop (f := fun a => hit A p k (a + 1) v) (j := (min (s - 1) 200).toNat) 200 (by omega) (fun a a0 a1 => by
              refine bI_f (fun hh => ?_)
              have := (b3 (a + 1) (by omega) (by omega)).mpr hh.1
              omega)
            rw [hst]
          · have hA : A s v = true := (b3 s (by omega) (by omega)).mp ⟨hs.1, by omega⟩
            obtain ⟨c1, c2, c3⟩ := cnt_in (p := p) (s := s) (v := v) hp (by omega) (by omega)
            rw [if_neg h3, chk_pos (by omega)]
            simp only [nam]
            rw [c2]
            generalize hc : p * s / (p + v) = c at c1 c2 ⊢
            have htc := ht2 c c1.1 c1.2
            have r1 := cols_in (A := A) (p := p) (k := c) v.toNat
            have r2 := col_in (A := A) (p := p) (k := c) (v := v) (min (s - 1) 200).toNat
            simp only [chk_pos (show 0 ≤ c ∧ c < 201 by omega)]
            rw [up_at, mx32 (by omega) (by omega), bnd1_s]
            have hstep : ∀ k, sm (fun a => hit A p k (a + 1) v) (min (s + 1 - 1) 200).toNat = sm (fun a => hit A p k (a + 1) v) (min (s - 1) 200).toNat + bI (c = k) := fun k => by
              rw [show (min (s + 1 - 1) 200).toNat = (s - 1 + 1).toNat by omega, sm_s (by omega), show (min (s - 1) 200).toNat = (s - 1).toNat by omega]
              congr 1
              unfold hit
              refine bI_congr ?_
              rw [show s - 1 + 1 = s by omega, hc]
              exact ⟨fun z => z.2, fun z => ⟨hA, z⟩⟩
            refine ih2 _ ⟨by simp only; omega, by simp only; omega, fun k k0 k1 => ?_, Or.inr ?_⟩ (by simp only; omega)
            · simp only
              rw [hstep k]
              have htk := ht2 k k0 k1
              by_cases ek : k = c
              · rw [ek, up_at, bI_t rfl]
                omega
              · rw [up_ne ek, bI_f (fun z => ek z.symm)]
                omega
            · simp only
              rcases hx2 with hx2 | ⟨k, k0, k1, hk⟩
              · refine ⟨c, c1.1, c1.2, ?_⟩
                rw [up_at]
                omega
              · by_cases hm : w2 ≤ t2 c + 1
                · refine ⟨c, c1.1, c1.2, ?_⟩
                  rw [up_at]
                  omega
                · refine ⟨k, k0, k1, ?_⟩
                  rw [up_ne (fun z => by rw [z] at hk; omega)]
                  omega
        · refine ⟨⟨Int.le_refl _, Or.inr rfl⟩, hw, fun k k0 k1 => ⟨?_, (ht k k0 k1).2⟩, hx⟩
          simp only
          rw [(ht k k0 k1).1, sm_nil (f := fun a => hit A p k (a + 1) v), Int.add_zero]
          intro a a0 a1
          refine bI_f (fun hh => ?_)
          have := (b3 (a + 1) (by omega) (by omega)).mpr hh.1
          omega
        · simp only
          omega
  · refine ⟨by simp only; omega, by simp only; omega, fun k k0 k1 => ?_, Or.inl rfl⟩
    simp only
    rw [ht1 k k0 (by omega)]
    exact ⟨rfl, by omega⟩
  · simp only
    omega
theorem question_spec (hF : 100000 ≤ F) (hE : EndsR le mo A) (t0 : Int → Int) : ∃ t', m_X0_findQuestion F le mo t0 = some ((askR (wst A) (sm (fun v => sm (fun a => bI (A (a + 1) v = true)) 200) 31) 30).1, (askR (wst A) (sm (fun v => sm (fun a => bI (A (a + 1) v = true)) 200) 31) 30).2, t') := by
  obtain ⟨p1, p2⟩ := pairs_spec (F := F) (by omega) hE
  unfold m_X0_findQuestion
  rw [p1, bnd1_s]
  generalize sm (fun v => sm (fun a => bI (A (a + 1) v = true)) 200) 31 = all at p2 ⊢
  unfold ml_X0_findQuestion_15
  refine loopN_rec (I := fun q : Int × Int × Int × (Int → Int) => (1 ≤ q.1 ∧ q.1 ≤ 31) ∧ (0 ≤ q.2.2.1 ∧ q.2.2.1 ≤ 6200) ∧ (q.2.1, q.2.2.1) = askR (wst A) all (q.1 - 1).toNat) (μ := fun q => (31 - q.1).toNat) (P := fun q y => ∃ t', y = some ((askR (wst A) all 30).1, (askR (wst A) all 30).2, t')) ?_ F (1, -1, all, t0) ?_ ?_
  · rintro k ⟨p, b, l, t⟩ ⟨hp, hl, hR⟩ ih
    simp only at hp hl hR ih ⊢
    unfold mb_X0_findQuestion_15
    simp only [mb_X0_findQuestion_49]
    rw [ifI_lt (by decide) (by omega)]
    by_cases h1 : 30 < p
    · rw [if_pos h1]
      rw [show (p - 1).toNat = 30 by omega] at hR
      exact ⟨t, by rw [← hR]⟩
    · obtain ⟨r, t', e1, hr, hw⟩ := worst_spec (F := F) hF hE (p := p) (e := l) (by omega) hl t
      rw [if_neg h1, e1, bnd2_s, ifI_le (by omega) (by omega)]
      have hs := askR_s (W := wst A) (all := all) hp.1
      rw [← hR] at hs
      simp only at hs
      by_cases h2 : l ≤ r
      · rw [if_pos h2]
        refine ih _ ⟨by simp only; omega, hl, ?_⟩ (by simp only; omega)
        simp only
        rw [hs, if_neg (by omega)]
      · rw [if_neg h2]
        refine ih _ ⟨by simp only; omega, hr, ?_⟩ (by simp only; omega)
        simp only
        rw [hs, if_pos (by omega), show r = wst A p by omega]
  · exact ⟨by simp only; omega, p2, rfl⟩
  · simp only
    omega
end ASK
/-! ASK, LEFT: the reference -/
section ASK9
variable {F : Nat} {x n : Int} {pa wa co cells many le mo : Int → Int} {A : Int → Int → Bool}
variable {k88 : Int → Int → Int → (Int → Int) → Option (Int × Int × (Int → Int) × (Int → Int))}
theorem ask192 (hF : 1000 ≤ F) {p b l : Int} {bc isP : Int → Int} (hl : 0 ≤ l ∧ l ≤ 6200) (hb : ∀ k, 0 ≤ k → k ≤ 200 → 0 ≤ bc k ∧ bc k ≤ 6200) : ml_X9_laysAsk_192 F k88 p 0 0 b l bc isP = if mxn bc 201 < l then k88 (p + 1) p (mxn bc 201) bc else k88 (p + 1) b l bc := by
  unfold ml_X9_laysAsk_192
  refine loopN_rec (I := fun q : Int × Int => (0 ≤ q.2 ∧ q.2 ≤ 201) ∧ q.1 = mxn bc q.2.toNat ∧ (0 ≤ q.1 ∧ q.1 ≤ 6200)) (μ := fun q => (201 - q.2).toNat) (P := fun q y => y = if mxn bc 201 < l then k88 (p + 1) p (mxn bc 201) bc else k88 (p + 1) b l bc) ?_ F (0, 0) ?_ ?_
  · rintro k ⟨m, i⟩ ⟨hi, hm, hr⟩ ih
    simp only at hi hm hr ih ⊢
    unfold mb_X9_laysAsk_192 
    simp only [mb_X9_laysAsk_255, mb_X9_laysAsk_224]
    rw [ifI_lt (by decide) (by omega)]
    by_cases h1 : 200 < i
    · rw [show i.toNat = 201 by omega] at hm
      rw [if_pos h1, ifI_lt (a := m) (b := l) (by omega) (by omega), hm]
    · have hbi := hb i hi.1 (by omega)
      have hst : mxn bc (i + 1).toNat = max m (bc i) := by
        rw [show (i + 1).toNat = i.toNat + 1 by omega]
        unfold mxn
        rw [show ((i.toNat : Nat) : Int) = i by omega, ← hm]
      rw [if_neg h1]
      simp only [chk_pos (show 0 ≤ i ∧ i < 201 by omega)]
      rw [ifI_le (a := bc i) (b := m) (by omega) (by omega)]
      by_cases h2 : bc i ≤ m
      · rw [if_pos h2]
        exact ih (m, i + 1) ⟨by simp only; omega, by simp only; omega, hr⟩ (by simp only; omega)
      · rw [if_neg h2]
        exact ih (bc i, i + 1) ⟨by simp only; omega, by simp only; omega, hbi⟩ (by simp only; omega)
  · exact ⟨by simp only; omega, rfl, by simp only; omega⟩
  · simp only
    omega
theorem ask122 (hF : 1000 ≤ F) {p b l : Int} {bc isP : Int → Int} (hp : 1 ≤ p ∧ p ≤ 30) (hP : ∀ s v, 1 ≤ s → s ≤ 200 → 0 ≤ v → v ≤ 30 → isP (31 * s + v) = bI (A s v = true)) (hb : ∀ k, 0 ≤ k → k ≤ 200 → bc k = 0) : ∃ bc', ml_X9_laysAsk_122 F k88 p 1 b l bc isP = ml_X9_laysAsk_192 F k88 p 0 0 b l bc' isP ∧ ∀ k, 0 ≤ k → k ≤ 200 → bc' k = totK A p k := by
  unfold ml_X9_laysAsk_122
  refine loopN_rec (I := fun q : Int × (Int → Int) => (1 ≤ q.1 ∧ q.1 ≤ 201) ∧ ∀ k, 0 ≤ k → k ≤ 200 → q.2 k = sm (fun a => sm (fun v => hit A p k (a + 1) v) 31) (q.1 - 1).toNat) (μ := fun q => (201 - q.1).toNat) (P := fun q y => ∃ bc', y = ml_X9_laysAsk_192 F k88 p 0 0 b l bc' isP ∧ ∀ k, 0 ≤ k → k ≤ 200 → bc' k = totK A p k) ?_ F (1, bc) ?_ ?_
  · rintro kk ⟨s, t⟩ ⟨hs, ht⟩ ih
    simp only at hs ht ih ⊢
    unfold mb_X9_laysAsk_122
    rw [ifI_lt (by decide) (by omega)]
    by_cases h1 : 200 < s
    · rw [if_pos h1]
      refine ⟨t, rfl, fun k k0 k1 => ?_⟩
      rw [ht k k0 k1, show (s - 1).toNat = 200 by omega]
      exact sm_swap (g := fun a v => hit A p k (a + 1) v) (B := 31) 200
    · rw [if_neg h1]
      unfold ml_X9_laysAsk_133
      refine loopN_rec (I := fun q : Int × (Int → Int) => (0 ≤ q.1 ∧ q.1 ≤ 31) ∧ ∀ k, 0 ≤ k → k ≤ 200 → q.2 k = sm (fun a => sm (fun v => hit A p k (a + 1) v) 31) (s - 1).toNat + sm (fun v => hit A p k s v) q.1.toNat) (μ := fun q => (31 - q.1).toNat) (P := fun q y => ∃ bc', y = ml_X9_laysAsk_192 F k88 p 0 0 b l bc' isP ∧ ∀ k, 0 ≤ k → k ≤ 200 → bc' k = totK A p k) ?_ F (0, t) ?_ ?_
      · rintro k2 ⟨v, t2⟩ ⟨hv, ht2⟩ ih2
        simp only at hv ht2 ih2 ⊢
        unfold mb_X9_laysAsk_133
        simp only [mb_X9_laysAsk_174]
        rw [ifI_lt (by decide) (by omega)]
        by_cases h2 : 30 < v
        · rw [if_pos h2]
          refine ih (s + 1, t2) ⟨by simp only; omega, fun k k0 k1 => ?_⟩ (by simp only; omega)
          simp only
          rw [ht2 k k0 k1, show s + 1 - 1 = s - 1 + 1 by omega, sm_s (by omega), show v.toNat = 31 by omega, show s - 1 + 1 = s by omega]
        · rw [if_neg h2, chk_pos (by omega), hP s v hs.1 (by omega) hv.1 (by omega), ifB]
          obtain ⟨c1, c2, c3⟩ := cnt_in (p := p) (s := s) (v := v) hp (by omega) (by omega)
          by_cases h3 : A s v = true
          · rw [if_pos h3, chk_pos (by omega)]
            simp only [nam]
            rw [c2]
            generalize hc : p * s / (p + v) = c at c1 c2 ⊢
            simp only [chk_pos (show 0 ≤ c ∧ c < 201 by omega)]
            refine ih2 (v + 1, up t2 c (t2 c + 1)) ⟨by simp only; omega, fun k k0 k1 => ?_⟩ (by simp only; omega)
            simp only
            have hh : hit A p k s v = bI (c = k) := by
              unfold hit
              refine bI_congr ?_
              rw [hc]
              exact ⟨fun z => z.2, fun z => ⟨h3, z⟩⟩
            rw [sm_s hv.1, hh, ← Int.add_assoc, ← ht2 k k0 k1]
            by_cases ek : k = c
            · rw [ek, up_at, bI_t rfl]
            · rw [up_ne ek, bI_f (fun z => ek z.symm), Int.add_zero]
          · rw [if_neg h3]
            refine ih2 (v + 1, t2) ⟨by simp only; omega, fun k k0 k1 => ?_⟩ (by simp only; omega)
            simp only
            have hh : hit A p k s v = 0 := bI_f (fun z => h3 z.1)
            rw [sm_s hv.1, hh, Int.add_zero]
            exact ht2 k k0 k1
      · refine ⟨by simp only; omega, fun k k0 k1 => ?_⟩
        simp only
        rw [ht k k0 k1]
        show _ = _ + 0
        omega
      · simp only
        omega
  · exact ⟨by simp only; omega, hb⟩
  · simp only
    omega
theorem ask97 (hF : 1000 ≤ F) {p b l : Int} {bc isP : Int → Int} : ∃ bc', ml_X9_laysAsk_97 F k88 p 0 b l bc isP = ml_X9_laysAsk_122 F k88 p 1 b l bc' isP ∧ ∀ k, 0 ≤ k → k ≤ 200 → bc' k = 0 := by
  unfold ml_X9_laysAsk_97
  refine loopN_rec (I := fun q : Int × (Int → Int) => (0 ≤ q.1 ∧ q.1 ≤ 201) ∧ ∀ k, 0 ≤ k → k < q.1 → q.2 k = 0) (μ := fun q => (201 - q.1).toNat) (P := fun q y => ∃ bc', y = ml_X9_laysAsk_122 F k88 p 1 b l bc' isP ∧ ∀ k, 0 ≤ k → k ≤ 200 → bc' k = 0) ?_ F (0, bc) ?_ ?_
  · rintro kk ⟨i, t⟩ ⟨hi, ht⟩ ih
    simp only at hi ht ih ⊢
    unfold mb_X9_laysAsk_97
    rw [ifI_lt (by decide) (by omega)]
    by_cases h1 : 200 < i
    · rw [if_pos h1]
      exact ⟨t, rfl, fun k k0 k1 => ht k k0 (by omega)⟩
    · rw [if_neg h1, chk_pos (by omega)]
      refine ih (i + 1, up t i 0) ⟨by simp only; omega, fun k k0 k1 => ?_⟩ (by simp only; omega)
      simp only at k1 ⊢
      by_cases e : k = i
      · rw [e, up_at]
      · rw [up_ne e]
        exact ht k k0 (by omega)
  · exact ⟨by simp only; omega, fun k k0 k1 => by simp only at k1; omega⟩
  · simp only
    omega
theorem ask88 (hF : 1000 ≤ F) {all : Int} {bc isP : Int → Int} (ha : 0 ≤ all ∧ all ≤ 6200) (hP : ∀ s v, 1 ≤ s → s ≤ 200 → 0 ≤ v → v ≤ 30 → isP (31 * s + v) = bI (A s v = true)) : ∃ bc', ml_X9_laysAsk_88 F 1 (-1) all bc isP = some ((askR (wst A) all 30).1, (askR (wst A) all 30).2, bc', isP) := by
  unfold ml_X9_laysAsk_88
  refine loopN_rec (I := fun q : Int × Int × Int × (Int → Int) => (1 ≤ q.1 ∧ q.1 ≤ 31) ∧ (0 ≤ q.2.2.1 ∧ q.2.2.1 ≤ 6200) ∧ (q.2.1, q.2.2.1) = askR (wst A) all (q.1 - 1).toNat) (μ := fun q => (31 - q.1).toNat) (P := fun q y => ∃ t', y = some ((askR (wst A) all 30).1, (askR (wst A) all 30).2, t', isP)) ?_ F (1, -1, all, bc) ?_ ?_
  · rintro k ⟨p, b, l, t⟩ ⟨hp, hl, hR⟩ ih
    simp only at hp hl hR ih ⊢
    unfold mb_X9_laysAsk_88
    rw [ifI_lt (by decide) (by omega)]
    by_cases h1 : 30 < p
    · rw [if_pos h1]
      rw [show (p - 1).toNat = 30 by omega] at hR
      exact ⟨t, by rw [← hR]⟩
    · obtain ⟨t1, e1, z1⟩ := ask97 (F := F) (k88 := fun y0 y1 y2 y3 => k (y0, y1, y2, y3)) hF (p := p) (b := b) (l := l) (bc := t) (isP := isP)
      obtain ⟨t2, e2, z2⟩ := ask122 (F := F) (k88 := fun y0 y1 y2 y3 => k (y0, y1, y2, y3)) hF (p := p) (b := b) (l := l) (bc := t1) (isP := isP) (by omega) hP z1
      rw [if_neg h1, e1, e2, ask192 hF hl (fun k k0 k1 => by
        rw [z2 k k0 k1]
        exact tot_in)]
      have hW : mxn t2 201 = wst A p := mxn_congr 201 (fun i a b => z2 i a (by omega))
      rw [hW]
      have hs := askR_s (W := wst A) (all := all) hp.1
      rw [← hR] at hs
      simp only at hs
      by_cases h2 : wst A p < l
      · rw [if_pos h2]
        rw [if_pos h2] at hs
        exact ih (p + 1, p, wst A p, t2) ⟨by simp only; omega, wst_in, hs.symm⟩ (by simp only; omega)
      · rw [if_neg h2]
        rw [if_neg h2] at hs
        exact ih (p + 1, b, l, t2) ⟨by simp only; omega, hl, hs.symm⟩ (by simp only; omega)
  · exact ⟨by simp only; omega, ha, rfl⟩
  · simp only
    omega
theorem lays_ask (hF : 1000 ≤ F) (Q : CntQ x n pa wa co cells many) (bc0 isP0 : Int → Int) : ∃ bc' isP', m_X9_laysAsk F x bc0 cells isP0 many = some ((askR (wst (fun s v => allF pa wa co s v n.toNat)) (sm (fun v => sm (fun a => bI (allF pa wa co (a + 1) v n.toNat = true)) 200) 31) 30).1, (askR (wst (fun s v => allF pa wa co s v n.toNat)) (sm (fun v => sm (fun a => bI (allF pa wa co (a + 1) v n.toNat = true)) 200) 31) 30).2, bc', isP') := by
  have hrow : ∀ s, ∀ k : Nat, 0 ≤ sm (fun v => bI (allF pa wa co s v n.toNat = true)) k ∧ sm (fun v => bI (allF pa wa co s v n.toNat = true)) k ≤ 1 * k := fun s k => sm_in k (fun i _ _ => by
    have := bI_01 (c := allF pa wa co s i n.toNat = true)
    omega)
  have hrows : ∀ k : Nat, 0 ≤ sm (fun a => sm (fun v => bI (allF pa wa co (a + 1) v n.toNat = true)) 31) k ∧ sm (fun a => sm (fun v => bI (allF pa wa co (a + 1) v n.toNat = true)) 31) k ≤ 31 * k := fun k => sm_in k (fun i _ _ => by
    have := hrow (i + 1) 31
    omega)
  rw [← sm_swap (g := fun a v => bI (allF pa wa co (a + 1) v n.toNat = true)) (B := 31) 200]
  generalize hall : sm (fun a => sm (fun v => bI (allF pa wa co (a + 1) v n.toNat = true)) 31) 200 = all
  have hall2 := hrows 200
  rw [hall] at hall2
  unfold m_X9_laysAsk ml_X9_laysAsk_4
  refine loopN_rec (I := fun q : Int × Int × (Int → Int) => (1 ≤ q.2.1 ∧ q.2.1 ≤ 201) ∧ q.1 = sm (fun a => sm (fun v => bI (allF pa wa co (a + 1) v n.toNat = true)) 31) (q.2.1 - 1).toNat ∧ ∀ s v, 1 ≤ s → s < q.2.1 → 0 ≤ v → v ≤ 30 → q.2.2 (31 * s + v) = bI (allF pa wa co s v n.toNat = true)) (μ := fun q => (201 - q.2.1).toNat) (P := fun q y => ∃ bc' isP', y = some ((askR (wst (fun s v => allF pa wa co s v n.toNat)) all 30).1, (askR (wst (fun s v => allF pa wa co s v n.toNat)) all 30).2, bc', isP')) ?_ F (0, 1, isP0) ?_ ?_
  · rintro k ⟨acc, s, t⟩ ⟨hs, hacc, ht⟩ ih
    simp only at hs hacc ht ih ⊢
    unfold mb_X9_laysAsk_4
    rw [ifI_lt (by decide) (by omega)]
    by_cases h1 : 200 < s
    · rw [if_pos h1]
      rw [show (s - 1).toNat = 200 by omega, hall] at hacc
      rw [hacc]
      obtain ⟨bc', e⟩ := ask88 (F := F) (A := fun s v => allF pa wa co s v n.toNat) hF (all := all) (bc := bc0) (isP := t) (by omega) (fun s' v' a b c d => ht s' v' a (by omega) c d)
      exact ⟨bc', t, e⟩
    · rw [if_neg h1]
      unfold ml_X9_laysAsk_14
      refine loopN_rec (I := fun q : Int × Int × (Int → Int) => (0 ≤ q.2.1 ∧ q.2.1 ≤ 31) ∧ q.1 = acc + sm (fun v => bI (allF pa wa co s v n.toNat = true)) q.2.1.toNat ∧ ∀ s' v, 1 ≤ s' → (s' < s ∨ (s' = s ∧ v < q.2.1)) → 0 ≤ v → v ≤ 30 → q.2.2 (31 * s' + v) = bI (allF pa wa co s' v n.toNat = true)) (μ := fun q => (31 - q.2.1).toNat) (P := fun q y => ∃ bc' isP', y = some ((askR (wst (fun s v => allF pa wa co s v n.toNat)) all 30).1, (askR (wst (fun s v => allF pa wa co s v n.toNat)) all 30).2, bc', isP')) ?_ F (acc, 0, t) ?_ ?_
      · rintro k2 ⟨m, v, t2⟩ ⟨hv, hm, ht2⟩ ih2
        simp only at hv hm ht2 ih2 ⊢
        unfold mb_X9_laysAsk_14
        simp only [mb_X9_laysAsk_62, nam]
        rw [ifI_lt (by decide) (by omega)]
        by_cases h2 : 30 < v
        · rw [if_pos h2]
          refine ih (m, s + 1, t2) ⟨by simp only; omega, ?_, fun s' v' a b c d => ht2 s' v' a (by simp only at b; omega) c d⟩ (by simp only; omega)
          simp only
          rw [show s + 1 - 1 = s - 1 + 1 by omega, sm_s (by omega), hm, hacc, show v.toNat = 31 by omega, show s - 1 + 1 = s by omega]
        · rw [if_neg h2, areFit_spec hF Q (by omega) (by omega), bnd1_s, chk_pos (by omega), chk_pos bI_01, chk_pos (by omega), up_at, ifB]
          have next : ∀ z, z = bI (allF pa wa co s v n.toNat = true) → ∃ bc' isP', k2 (m + z, v + 1, up t2 (31 * s + v) (bI (allF pa wa co s v n.toNat = true))) = some ((askR (wst (fun s v => allF pa wa co s v n.toNat)) all 30).1, (askR (wst (fun s v => allF pa wa co s v n.toNat)) all 30).2, bc', isP') := by
            intro z hz
            refine ih2 _ ⟨by simp only; omega, ?_, fun s' v' a b c d => ?_⟩ (by simp only; omega)
            · simp only
              rw [sm_s hv.1, hz, hm]
              omega
            · simp only at b ⊢
              by_cases e : s' = s ∧ v' = v
              · rw [e.1, e.2, up_at]
              · rw [up_ne (by omega)]
                exact ht2 s' v' a (by omega) c d
          by_cases h3 : allF pa wa co s v n.toNat = true
          · rw [if_pos h3]
            exact next 1 (bI_t h3).symm
          · rw [if_neg h3]
            exact next 0 (bI_f h3).symm
      · refine ⟨by simp only; omega, ?_, fun s' v' a b c d => ht s' v' a (by simp only at b; omega) c d⟩
        show acc = acc + 0
        omega
      · simp only
        omega
  · exact ⟨by simp only; omega, rfl, fun s' v' a b c d => by simp only at b; omega⟩
  · simp only
    omega
end ASK9
section ASKO
variable {F : Nat} {held width size wdt many cells : Int → Int} {num : Int → Int → Int}
theorem op_ask (hF : 100000 ≤ F) (S : SlotR held width size num wdt many cells) {x1 : Int} (hx1 : r32 x1) (u1 u2 u3 u4 u5 v1 v2 : Int) (f1 f2 f3 f4 f5 f6 g1 g2 : Int → Int) : Eq1 (m_X8_ask F x1 u1 u2 u3 u4 u5 f1 f2 f3 f4 f5 f6 held size num) (m_X9_ask F x1 v1 v2 g1 cells g2 many wdt) := by
  unfold m_X8_ask m_X9_ask
  rcases counts_pair hF S hx1 u1 u4 u5 f1 f2 f3 f4 f6 with ⟨r, ⟨w1, w2, w3, w4, w5, w6, w7, w8⟩, hr, k1, k2⟩ | ⟨n, o1, o2, co, le, mo, pa, wa, k1, k2, Q, hE⟩
  · rw [k1, k2, bnd9_s, bnd1_s, ifI_eq (a := r) (b := 0) (by omega) (by decide), ifI_eq (a := r) (b := 0) (by omega) (by decide), if_neg (show ¬ r = 0 by omega), if_neg (show ¬ r = 0 by omega)]
    exact Eq1.mk
  · obtain ⟨t', e1⟩ := question_spec (F := F) hF hE f5
    obtain ⟨b', i', e2⟩ := lays_ask (F := F) (by omega) Q g1 g2
    rw [k1, k2, bnd9_s, bnd1_s, if_pos rfl, if_pos rfl, e1, e2, bnd3_s, bnd4_s]
    exact Eq1.mk
theorem op_left (hF : 100000 ≤ F) (S : SlotR held width size num wdt many cells) {x1 : Int} (hx1 : r32 x1) (u1 u2 u3 u4 u5 v1 v2 : Int) (f1 f2 f3 f4 f5 f6 g1 g2 : Int → Int) : Eq1 (m_X8_left F x1 u1 u2 u3 u4 u5 f1 f2 f3 f4 f5 f6 held size num) (m_X9_left F x1 v1 v2 g1 cells g2 many wdt) := by
  unfold m_X8_left m_X9_left
  rcases counts_pair hF S hx1 u1 u4 u5 f1 f2 f3 f4 f6 with ⟨r, ⟨w1, w2, w3, w4, w5, w6, w7, w8⟩, hr, k1, k2⟩ | ⟨n, o1, o2, co, le, mo, pa, wa, k1, k2, Q, hE⟩
  · rw [k1, k2, bnd9_s, bnd1_s, ifI_eq (a := r) (b := 0) (by omega) (by decide), ifI_eq (a := r) (b := 0) (by omega) (by decide), if_neg (show ¬ r = 0 by omega), if_neg (show ¬ r = 0 by omega)]
    exact Eq1.mk
  · obtain ⟨t', e1⟩ := question_spec (F := F) hF hE f5
    obtain ⟨b', i', e2⟩ := lays_ask (F := F) (by omega) Q g1 g2
    rw [k1, k2, bnd9_s, bnd1_s, if_pos rfl, if_pos rfl, e1, e2, bnd3_s, bnd4_s]
    exact Eq1.mk
end ASKO
