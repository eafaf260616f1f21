/-! TURN: the first least of several, the counts of bits below 16 -/
def mnF (f : Int → Int) : Nat → Int
  | 0 => f 0
  | m + 1 => if f ((m : Int) + 1) < mnF f m then f ((m : Int) + 1) else mnF f m
def amF (f : Int → Int) : Nat → Int
  | 0 => 0
  | m + 1 => if f ((m : Int) + 1) < f (amF f m) then (m : Int) + 1 else amF f m
theorem amF_in {f : Int → Int} : ∀ m : Nat, 0 ≤ amF f m ∧ amF f m ≤ m
  | 0 => by simp [amF]
  | m + 1 => by
    have := amF_in (f := f) m
    unfold amF
    split <;> omega
theorem amF_val {f : Int → Int} : ∀ m : Nat, f (amF f m) = mnF f m
  | 0 => rfl
  | m + 1 => by
    have := amF_val (f := f) m
    unfold amF mnF
    rw [this]
    by_cases h : f ((m : Int) + 1) < mnF f m
    · rw [if_pos h, if_pos h]
    · rw [if_neg h, if_neg h, this]
theorem mnF_le {f : Int → Int} : ∀ (m : Nat) (t : Int), 0 ≤ t → t ≤ m → mnF f m ≤ f t
  | 0, t, h0, h1 => by
    rw [show t = 0 by omega]
    exact Int.le_refl _
  | m + 1, t, h0, h1 => by
    unfold mnF
    by_cases e : t = (m : Int) + 1
    · rw [e]
      split <;> omega
    · have := mnF_le (f := f) m t h0 (by omega)
      split <;> omega
theorem mnF_ge {f : Int → Int} {v : Int} : ∀ (m : Nat), (∀ t, 0 ≤ t → t ≤ (m : Int) → v ≤ f t) → v ≤ mnF f m
  | 0, h => h 0 (by omega) (by omega)
  | m + 1, h => by
    have h1 := mnF_ge (f := f) (v := v) m (fun t a b => h t a (by omega))
    have h2 := h ((m : Int) + 1) (by omega) (by omega)
    unfold mnF
    split <;> omega
theorem amF_first {f : Int → Int} : ∀ (m : Nat) (t : Int), 0 ≤ t → t < amF f m → mnF f m < f t
  | 0, t, h0, h1 => by
    simp only [amF] at h1
    omega
  | m + 1, t, h0, h1 => by
    have e := amF_val (f := f) m
    unfold amF at h1
    unfold mnF
    rw [e] at h1
    by_cases h : f ((m : Int) + 1) < mnF f m
    · rw [if_pos h] at h1
      rw [if_pos h]
      have := mnF_le (f := f) m t h0 (by omega)
      omega
    · rw [if_neg h] at h1
      rw [if_neg h]
      exact amF_first m t h0 h1
theorem mnF_congr {f g : Int → Int} : ∀ m : Nat, (∀ t, 0 ≤ t → t ≤ (m : Int) → f t = g t) → mnF f m = mnF g m
  | 0, h => h 0 (by omega) (by omega)
  | m + 1, h => by
    unfold mnF
    rw [mnF_congr m (fun t a b => h t a (by omega)), h ((m : Int) + 1) (by omega) (by omega)]
theorem amF_congr {f g : Int → Int} : ∀ m : Nat, (∀ t, 0 ≤ t → t ≤ (m : Int) → f t = g t) → amF f m = amF g m
  | 0, h => rfl
  | m + 1, h => by
    have h1 := amF_in (f := g) m
    unfold amF
    rw [amF_congr m (fun t a b => h t a (by omega)), h ((m : Int) + 1) (by omega) (by omega), h (amF g m) h1.1 (by omega)]
theorem mnF_zero : ∀ m : Nat, mnF (fun _ => 0) m = 0
  | 0 => rfl
  | m + 1 => by
    unfold mnF
    rw [mnF_zero m]
    simp
/-- how many bits, below 16 -/
def pc4 (x : Int) : Int := if x = 1 ∨ x = 2 ∨ x = 4 ∨ x = 8 then 1 else if x = 3 ∨ x = 5 ∨ x = 6 ∨ x = 9 ∨ x = 10 ∨ x = 12 then 2 else if x = 7 ∨ x = 11 ∨ x = 13 ∨ x = 14 then 3 else if x = 15 then 4 else 0
theorem pc4_in (x : Int) : 0 ≤ pc4 x ∧ pc4 x ≤ 4 := by
  unfold pc4
  split
  · omega
  · split
    · omega
    · split
      · omega
      · split <;> omega
theorem bit4F : ∀ a : Fin 16, m_J6_bitCount_0f7a4 0 (a.val : Int) = some (pc4 (a.val : Int)) := by decide +kernel
theorem bitCount4 {F : Nat} {x : Int} (h : 0 ≤ x ∧ x < 16) : m_J6_bitCount_0f7a4 F x = some (pc4 x) := by
  have := bit4F ⟨x.toNat, by omega⟩
  simp only at this
  rw [show ((x.toNat : Nat) : Int) = x by omega] at this
  exact this
theorem and4F : ∀ a : Fin 16, ¬ (a.val : Int) = 0 → (0 ≤ andI (a.val : Int) ((a.val : Int) - 1) ∧ andI (a.val : Int) ((a.val : Int) - 1) < 16) ∧ pc4 (andI (a.val : Int) ((a.val : Int) - 1)) = pc4 (a.val : Int) - 1 := by decide +kernel
theorem and4 {x : Int} (h : 0 ≤ x ∧ x < 16) (h0 : x ≠ 0) : (0 ≤ andI x (x - 1) ∧ andI x (x - 1) < 16) ∧ pc4 (andI x (x - 1)) = pc4 x - 1 := by
  have := and4F ⟨x.toNat, by omega⟩
  simp only at this
  rw [show ((x.toNat : Nat) : Int) = x by omega] at this
  exact this h0
theorem sizeOf4 {F : Nat} (hF : 1000 ≤ F) {x : Int} (h : 0 ≤ x ∧ x < 16) : m_X9_sizeOf F x = some (pc4 x) := by
  unfold m_X9_sizeOf ml_X9_sizeOf_4
  have hx := pc4_in x
  refine loopN_rec (I := fun q : Int × Int => (0 ≤ q.2 ∧ q.2 < 16) ∧ q.1 + pc4 q.2 = pc4 x) (μ := fun q => (pc4 q.2).toNat) (P := fun q y => y = some (pc4 x)) ?_ F (0, x) ?_ ?_
  · rintro k ⟨n, y⟩ ⟨hy, hn⟩ ih
    simp only at hy hn ih ⊢
    unfold mb_X9_sizeOf_4
    rw [ifI_eq (by omega) (by decide)]
    by_cases h0 : y = 0
    · rw [if_pos h0]
      rw [h0] at hn
      have : pc4 0 = 0 := by decide
      rw [this] at hn
      rw [← hn, Int.add_zero]
    · rw [if_neg h0]
      simp only [nam]
      obtain ⟨a1, a2⟩ := and4 hy h0
      have p1 := pc4_in (andI y (y - 1))
      exact ih (n + 1, andI y (y - 1)) ⟨a1, by simp only; omega⟩ (by simp only; omega)
  · exact ⟨h, by simp only; omega⟩
  · simp only
    omega
theorem xor4F : ∀ a b : Fin 16, (0 ≤ xorI (a.val : Int) (b.val : Int) ∧ xorI (a.val : Int) (b.val : Int) < 16) ∧ xorI (a.val : Int) (b.val : Int) = xorI (b.val : Int) (a.val : Int) := by decide +kernel
theorem xor4 {x y : Int} (hx : 0 ≤ x ∧ x < 16) (hy : 0 ≤ y ∧ y < 16) : (0 ≤ xorI x y ∧ xorI x y < 16) ∧ xorI x y = xorI y x := by
  have := xor4F ⟨x.toNat, by omega⟩ ⟨y.toNat, by omega⟩
  simp only at this
  rw [show ((x.toNat : Nat) : Int) = x by omega, show ((y.toNat : Nat) : Int) = y by omega] at this
  exact this
theorem compF : ∀ b : Fin 5, ∀ s : Fin 16, ∀ i : Fin 4, (s.val : Int) < shlI 1 (b.val : Int) → i.val < b.val → (bitJ (shlI 1 (b.val : Int) - 1 - (s.val : Int)) (i.val : Int) ↔ ¬ bitJ (s.val : Int) (i.val : Int)) := by decide +kernel
theorem setsF : ∀ b : Fin 5, 1 ≤ shlI 1 (b.val : Int) ∧ shlI 1 (b.val : Int) ≤ 16 := by decide +kernel
theorem sets_in {b : Int} (h : 0 ≤ b ∧ b ≤ 4) : 1 ≤ shlI 1 b ∧ shlI 1 b ≤ 16 := by
  have := setsF ⟨b.toNat, by omega⟩
  simp only at this
  rw [show ((b.toNat : Nat) : Int) = b by omega] at this
  exact this
theorem comp_bit {b s i : Int} (hb : 0 ≤ b ∧ b ≤ 4) (hs : 0 ≤ s ∧ s < shlI 1 b) (hi : 0 ≤ i ∧ i < b) : bitJ (shlI 1 b - 1 - s) i ↔ ¬ bitJ s i := by
  have h1 := sets_in hb
  have := compF ⟨b.toNat, by omega⟩ ⟨s.toNat, by omega⟩ ⟨i.toNat, by omega⟩
  simp only at this
  rw [show ((b.toNat : Nat) : Int) = b by omega, show ((s.toNat : Nat) : Int) = s by omega, show ((i.toNat : Nat) : Int) = i by omega] at this
  exact this hs.2 (by omega)
/-- what the BANDS of a set carry -/
def crr (cd : Int → Int) (s : Int) : Nat → Int
  | 0 => 0
  | i + 1 => crr cd s i + (if bitJ s (i : Int) then cd (i : Int) else 0)
theorem crr_in {cd : Int → Int} {s : Int} : ∀ b : Nat, (∀ i, 0 ≤ i → i < (b : Int) → 1 ≤ cd i ∧ cd i ≤ 9999) → 0 ≤ crr cd s b ∧ crr cd s b ≤ 9999 * b
  | 0, _ => by simp [crr]
  | b + 1, h => by
    have h1 := crr_in (cd := cd) (s := s) b (fun i a c => h i a (by omega))
    have h2 := h b (by omega) (by omega)
    unfold crr
    split <;> omega
theorem crr_congr {cd cd' : Int → Int} {s : Int} : ∀ b : Nat, (∀ i, 0 ≤ i → i < (b : Int) → cd i = cd' i) → crr cd s b = crr cd' s b
  | 0, _ => rfl
  | b + 1, h => by
    unfold crr
    rw [crr_congr b (fun i a c => h i a (by omega)), h b (by omega) (by omega)]
/-- who is left in an hour by a set -/
def lfH (nm cd : Int → Int) (bands h s : Int) : Int := max 0 (nm (2 * h) - crr cd s bands.toNat) + max 0 (nm (2 * h + 1) - crr cd (shlI 1 bands - 1 - s) bands.toNat)
/-- the least from an hour on -/
def tv (L : Int → Int → Int) (c : Int) (N1 : Nat) : Nat → Int → Int → Int
  | 0, h, s => L h s
  | k + 1, h, s => L h s + mnF (fun t => tv L c N1 k (h + 1) t + c * pc4 (xorI s t)) N1
theorem cpc_in {c x : Int} (hc : 0 ≤ c ∧ c ≤ 9999) : 0 ≤ c * pc4 x ∧ c * pc4 x ≤ 9999 * 4 := mul_in hc (pc4_in x)
theorem tv_in {L : Int → Int → Int} {c n : Int} {N1 : Nat} (hc : 0 ≤ c ∧ c ≤ 9999) (hL : ∀ h s, 0 ≤ h → h < n → 0 ≤ s → s ≤ (N1 : Int) → 0 ≤ L h s ∧ L h s ≤ 19998) : ∀ (k : Nat) (h s : Int), 0 ≤ h → h + k < n → 0 ≤ s → s ≤ (N1 : Int) → 0 ≤ tv L c N1 k h s ∧ tv L c N1 k h s ≤ 60000 * (k + 1)
  | 0, h, s, h0, h1, s0, s1 => by
    have := hL h s h0 (by omega) s0 s1
    unfold tv
    omega
  | k + 1, h, s, h0, h1, s0, s1 => by
    have g1 := hL h s h0 (by omega) s0 s1
    have g2 : 0 ≤ mnF (fun t => tv L c N1 k (h + 1) t + c * pc4 (xorI s t)) N1 := mnF_ge N1 (fun t t0 t1 => by
      have := tv_in hc hL k (h + 1) t (by omega) (by omega) t0 t1
      have := cpc_in (x := xorI s t) hc
      omega)
    have g3 := mnF_le (f := fun t => tv L c N1 k (h + 1) t + c * pc4 (xorI s t)) N1 0 (by omega) (by omega)
    have g4 := tv_in hc hL k (h + 1) 0 (by omega) (by omega) (by omega) (by omega)
    have g5 := cpc_in (x := xorI s 0) hc
    unfold tv
    omega
/-- the value at an hour of n -/
def vh (L : Int → Int → Int) (c n : Int) (N1 : Nat) (h s : Int) : Int := tv L c N1 (n - 1 - h).toNat h s
theorem vh_last {L : Int → Int → Int} {c n : Int} {N1 : Nat} {h s : Int} (hh : n ≤ h + 1) : vh L c n N1 h s = L h s := by
  unfold vh
  rw [show (n - 1 - h).toNat = 0 by omega]
  rfl
theorem vh_step {L : Int → Int → Int} {c n : Int} {N1 : Nat} {h s : Int} (hh : h + 1 < n) : vh L c n N1 h s = L h s + mnF (fun t => vh L c n N1 (h + 1) t + c * pc4 (xorI s t)) N1 := by
  unfold vh
  rw [show (n - 1 - h).toNat = (n - 1 - (h + 1)).toNat + 1 by omega]
  rfl
/-- the sets chosen, the turnings -/
def chs (V : Int → Int → Int) (c : Int) (N1 : Nat) : Nat → Int
  | 0 => amF (V 0) N1
  | k + 1 => amF (fun t => V ((k : Int) + 1) t + c * pc4 (xorI (chs V c N1 k) t)) N1
theorem chs_in {V : Int → Int → Int} {c : Int} {N1 : Nat} : ∀ k : Nat, 0 ≤ chs V c N1 k ∧ chs V c N1 k ≤ N1
  | 0 => amF_in N1
  | k + 1 => amF_in N1
def trs (V : Int → Int → Int) (c : Int) (N1 : Nat) : Nat → Int
  | 0 => 0
  | k + 1 => trs V c N1 k + pc4 (xorI (chs V c N1 k) (chs V c N1 (k + 1)))
section TRN
variable {F : Nat} {n N c bands : Int} {N1 : Nat} {nm cd : Int → Int}
theorem price_spec {h s t : Int} {LF : Int → Int → Int} (hh : 0 ≤ h ∧ h < 30) (hs : 0 ≤ s ∧ s < 16) (ht : 0 ≤ t ∧ t < 16) : m_X7_priceOf F h s t c LF = some (LF h t + c * pc4 (xorI s t)) := by
  unfold m_X7_priceOf
  rw [chk_pos hh, chk_pos ht, bitCount4 (xor4 hs ht).1, bnd1_s]
theorem best_spec (hF : 1000 ≤ F) {h s : Int} {LF : Int → Int → Int} (hN : N = N1 + 1) (hN16 : N ≤ 16) (hc : 0 ≤ c ∧ c ≤ 9999) (hh : 0 ≤ h ∧ h < 30) (hs : 0 ≤ s ∧ s < 16) (hb : ∀ t, 0 ≤ t → t ≤ (N1 : Int) → 0 ≤ LF h t ∧ LF h t ≤ 2000000) : m_X7_bestAfter F h s N c LF = some (amF (fun t => LF h t + c * pc4 (xorI s t)) N1) := by
  unfold m_X7_bestAfter ml_X7_bestAfter_5
  refine loopN_rec (I := fun q : Int × Int => (1 ≤ q.2 ∧ q.2 ≤ N) ∧ q.1 = amF (fun t => LF h t + c * pc4 (xorI s t)) (q.2 - 1).toNat) (μ := fun q => (N - q.2).toNat) (P := fun q y => y = some (amF (fun t => LF h t + c * pc4 (xorI s t)) N1)) ?_ F (0, 1) ?_ ?_
  · rintro k ⟨x, y⟩ ⟨hy, hx⟩ ih
    simp only at hy hx ih ⊢
    unfold mb_X7_bestAfter_5
    rw [ifI_le (by omega) (by omega)]
    by_cases h1 : N ≤ y
    · rw [if_pos h1, hx, show (y - 1).toNat = N1 by omega]
    · have hx2 := amF_in (f := fun t => LF h t + c * pc4 (xorI s t)) (y - 1).toNat
      rw [← hx] at hx2
      have b1 := hb y (by omega) (by omega)
      have b2 := hb x hx2.1 (by omega)
      have c1 := cpc_in (x := xorI s y) hc
      have c2 := cpc_in (x := xorI s x) hc
      rw [if_neg h1, price_spec hh hs (by omega), bnd1_s, price_spec hh hs (by omega), bnd1_s, ifI_le (by omega) (by omega)]
      simp only [mb_X7_bestAfter_35]
      have hst : amF (fun t => LF h t + c * pc4 (xorI s t)) (y + 1 - 1).toNat = if LF h y + c * pc4 (xorI s y) < LF h x + c * pc4 (xorI s x) then y else x := by
        rw [show (y + 1 - 1).toNat = (y - 1).toNat + 1 by omega]
        unfold amF
        rw [← hx, show (((y - 1).toNat : Nat) : Int) + 1 = y by omega]
      by_cases h2 : LF h x + c * pc4 (xorI s x) ≤ LF h y + c * pc4 (xorI s y)
      · rw [if_pos h2]
        exact ih (x, y + 1) ⟨by simp only; omega, by simp only; rw [hst, if_neg (by omega)]⟩ (by simp only; omega)
      · rw [if_neg h2]
        exact ih (y, y + 1) ⟨by simp only; omega, by simp only; rw [hst, if_pos (by omega)]⟩ (by simp only; omega)
  · exact ⟨by simp only; omega, rfl⟩
  · simp only
    omega
theorem lfH_in (hb : 0 ≤ bands ∧ bands ≤ 4) (hcd : ∀ i, 0 ≤ i → i < bands → 1 ≤ cd i ∧ cd i ≤ 9999) {h s : Int} (hn : (0 ≤ nm (2 * h) ∧ nm (2 * h) ≤ 9999) ∧ (0 ≤ nm (2 * h + 1) ∧ nm (2 * h + 1) ≤ 9999)) : 0 ≤ lfH nm cd bands h s ∧ lfH nm cd bands h s ≤ 19998 := by
  have h1 := crr_in (cd := cd) (s := s) bands.toNat (fun i a b => hcd i a (by omega))
  have h2 := crr_in (cd := cd) (s := shlI 1 bands - 1 - s) bands.toNat (fun i a b => hcd i a (by omega))
  unfold lfH
  omega
theorem max32' {x : Int} (hx : r32 x) : m_J9_max_7cf53 F 0 x = some (max 0 x) := by
  rw [max32 (by decide) hx]
  congr 1
  split <;> omega
/-- fillHour -/
theorem fill_spec (hF : 1000 ≤ F) (hb : 0 ≤ bands ∧ bands ≤ 4) (hNs : N = shlI 1 bands) (hN : N = N1 + 1) (hc : 0 ≤ c ∧ c ≤ 9999) (hcd : ∀ i, 0 ≤ i → i < bands → 1 ≤ cd i ∧ cd i ≤ 9999) (hn : 0 ≤ n ∧ n ≤ 30) (hnm : ∀ i, 0 ≤ i → i < n → (0 ≤ nm (2 * i) ∧ nm (2 * i) ≤ 9999) ∧ (0 ≤ nm (2 * i + 1) ∧ nm (2 * i + 1) ≤ 9999)) {h : Int} (hh : 0 ≤ h ∧ h < n) {cb : Int → Int} (hcb : ∀ s, 0 ≤ s → s < N → cb s = crr cd s bands.toNat) {LF : Int → Int → Int} (hLF : h + 1 < n → ∀ t, 0 ≤ t → t < N → LF (h + 1) t = vh (lfH nm cd bands) c n N1 (h + 1) t) :
    ∃ LF', m_X7_fillHour F h (nm (2 * h)) (nm (2 * h + 1)) n N c cb LF = some LF' ∧ (∀ s, 0 ≤ s → s < N → LF' h s = vh (lfH nm cd bands) c n N1 h s) ∧ ∀ j, j ≠ h → LF' j = LF j := by
  have hs := sets_in hb
  have hcr : ∀ s, 0 ≤ crr cd s bands.toNat ∧ crr cd s bands.toNat ≤ 39996 := fun s => by
    have := crr_in (cd := cd) (s := s) bands.toNat (fun i a b => hcd i a (by omega))
    omega
  have hv : ∀ j t, 0 ≤ j → j < n → 0 ≤ t → t ≤ (N1 : Int) → 0 ≤ vh (lfH nm cd bands) c n N1 j t ∧ vh (lfH nm cd bands) c n N1 j t ≤ 1800000 := fun j t j0 j1 t0 t1 => by
    have := tv_in (L := lfH nm cd bands) (c := c) (n := n) (N1 := N1) hc (fun h s a b _ _ => lfH_in hb hcd (hnm h a b)) (n - 1 - j).toNat j t j0 (by omega) t0 t1
    unfold vh
    omega
  have hnh := hnm h hh.1 hh.2
  unfold m_X7_fillHour ml_X7_fillHour_3
  refine loopN_rec (I := fun q : Int × (Int → Int → Int) => (0 ≤ q.1 ∧ q.1 ≤ N) ∧ (∀ s, 0 ≤ s → s < q.1 → q.2 h s = vh (lfH nm cd bands) c n N1 h s) ∧ ∀ j, j ≠ h → q.2 j = LF j) (μ := fun q => (N - q.1).toNat) (P := fun q y => ∃ LF' : Int → Int → Int, y = some LF' ∧ (∀ s, 0 ≤ s → s < N → LF' h s = vh (lfH nm cd bands) c n N1 h s) ∧ ∀ j, j ≠ h → LF' j = LF j) ?_ F (0, LF) ?_ ?_
  · rintro k ⟨s, G⟩ ⟨⟨s0, s1⟩, hG, hG2⟩ ih
    simp only at s0 s1 hG hG2 ih ⊢
    unfold mb_X7_fillHour_3
    rw [ifI_le (by omega) (by omega)]
    by_cases h1 : N ≤ s
    · rw [if_pos h1]
      exact ⟨G, rfl, fun t t0 t1 => hG t t0 (by omega), hG2⟩
    · have k1 := hcr s
      have k2 := hcr (N - 1 - s)
      have tail : ∀ v : Int, v = vh (lfH nm cd bands) c n N1 h s → ∃ LF' : Int → Int → Int, mb_X7_fillHour_85 F (fun y0 y1 => k (y0, y1)) h (nm (2 * h)) (nm (2 * h + 1)) s v n N c cb G = some LF' ∧ (∀ s, 0 ≤ s → s < N → LF' h s = vh (lfH nm cd bands) c n N1 h s) ∧ ∀ j, j ≠ h → LF' j = LF j := by
        intro v hv
        unfold mb_X7_fillHour_85
        rw [chk_pos (by omega), chk_pos (by omega)]
        refine ih (s + 1, up G h (up (G h) s v)) ⟨by simp only; omega, fun t t0 t1 => ?_, fun j hj => ?_⟩ (by simp only; omega)
        · simp only at t1 ⊢
          rw [up_at]
          by_cases e : t = s
          · rw [e, up_at, hv]
          · rw [up_ne e]
            exact hG t t0 (by omega)
        · simp only
          rw [up_ne hj]
          exact hG2 j hj
      rw [if_neg h1, chk_pos (by omega), hcb s s0 (by omega), max32' (by omega), bnd1_s, chk_pos (by omega), hcb (N - 1 - s) (by omega) (by omega), max32' (by omega), bnd1_s]
      have hl : max 0 (nm (2 * h) - crr cd s bands.toNat) + max 0 (nm (2 * h + 1) - crr cd (N - 1 - s) bands.toNat) = lfH nm cd bands h s := by
        rw [hNs]
        rfl
      simp only [nam]
      rw [hl, ifI_le (by omega) (by omega)]
      by_cases h2 : n ≤ h + 1
      · rw [if_pos h2]
        exact tail _ (vh_last h2).symm
      · have hne : h + 1 ≠ h := by omega
        have hGn : G (h + 1) = LF (h + 1) := hG2 _ hne
        have hGv : ∀ t, 0 ≤ t → t ≤ (N1 : Int) → G (h + 1) t = vh (lfH nm cd bands) c n N1 (h + 1) t := fun t t0 t1 => by
          rw [hGn]
          exact hLF (by omega) t t0 (by omega)
        have hbest := best_spec (F := F) hF (c := c) (h := h + 1) (s := s) (LF := G) hN (by omega) hc (by omega) (by omega) (fun t t0 t1 => by
          rw [hGv t t0 t1]
          have := hv (h + 1) t (by omega) (by omega) t0 t1
          omega)
        have hai := amF_in (f := fun t => G (h + 1) t + c * pc4 (xorI s t)) N1
        have hav := amF_val (f := fun t => G (h + 1) t + c * pc4 (xorI s t)) N1
        rw [if_neg h2, hbest, bnd1_s, price_spec (by omega) (by omega) (by omega), bnd1_s]
        rw [hav]
        apply tail
        rw [vh_step (by omega)]
        congr 1
        exact mnF_congr N1 (fun t t0 t1 => by rw [hGv t t0 t1])
  · exact ⟨by simp only; omega, fun s a b => by simp only at b; omega, fun j _ => rfl⟩
  · simp only
    omega
/-- choose -/
theorem choose_spec (hF : 1000 ≤ F) (hN : N = N1 + 1) (hN16 : N ≤ 16) (hc : 0 ≤ c ∧ c ≤ 9999) (hn : 0 ≤ n ∧ n ≤ 30) {V LF : Int → Int → Int} {ch0 : Int → Int} (hV : ∀ j t, 0 ≤ j → j < n → 0 ≤ t → t ≤ (N1 : Int) → LF j t = V j t ∧ 0 ≤ V j t ∧ V j t ≤ 2000000) :
    ∃ ch', m_X7_choose F n N c ch0 LF = some (if n = 0 then 0 else mnF (V 0) N1, if n = 0 then 0 else trs V c N1 (n - 1).toNat, ch') ∧ ∀ j : Nat, (j : Int) < n → ch' j = chs V c N1 j := by
  unfold m_X7_choose
  rw [ifI_eq (by omega) (by decide)]
  by_cases h0 : n = 0
  · rw [if_pos h0, if_pos h0, if_pos h0]
    exact ⟨ch0, rfl, fun j hj => by omega⟩
  · rw [if_neg h0, if_neg h0, if_neg h0]
    unfold ml_X7_choose_27
    refine loopN_rec (I := fun q : Int × (Int → Int) => (1 ≤ q.1 ∧ q.1 ≤ N) ∧ q.2 0 = amF (LF 0) (q.1 - 1).toNat) (μ := fun q => (N - q.1).toNat) (P := fun q y => ∃ ch' : Int → Int, y = some (mnF (V 0) N1, trs V c N1 (n - 1).toNat, ch') ∧ ∀ j : Nat, (j : Int) < n → ch' j = chs V c N1 j) ?_ F (1, up ch0 0 0) ?_ ?_
    · rintro k ⟨x, g⟩ ⟨hx, hg⟩ ih
      simp only at hx hg ih ⊢
      have hgi := amF_in (f := LF 0) (x - 1).toNat
      rw [← hg] at hgi
      unfold mb_X7_choose_27
      rw [ifI_le (by omega) (by omega)]
      by_cases h1 : N ≤ x
      · have hg0 : g 0 = chs V c N1 0 := by
          rw [hg, show (x - 1).toNat = N1 by omega]
          exact amF_congr N1 (fun t t0 t1 => (hV 0 t (by omega) (by omega) t0 t1).1)
        have hleast : LF 0 (g 0) = mnF (V 0) N1 := by
          rw [(hV 0 (g 0) (by omega) (by omega) hgi.1 (by omega)).1, hg0]
          exact amF_val N1
        rw [if_pos h1, chk_pos (by omega)]
        simp only [nam]
        rw [hleast]
        unfold ml_X7_choose_91
        refine loopN_rec (I := fun q : Int × Int × (Int → Int) => (1 ≤ q.1 ∧ q.1 ≤ n) ∧ q.2.1 = trs V c N1 (q.1 - 1).toNat ∧ ∀ j : Nat, (j : Int) < q.1 → q.2.2 j = chs V c N1 j) (μ := fun q => (n - q.1).toNat) (P := fun q y => ∃ ch' : Int → Int, y = some (mnF (V 0) N1, trs V c N1 (n - 1).toNat, ch') ∧ ∀ j : Nat, (j : Int) < n → ch' j = chs V c N1 j) ?_ F (1, 0, g) ?_ ?_
        · rintro k2 ⟨y, t, g2⟩ ⟨hy, ht, hg2⟩ ih2
          simp only at hy ht hg2 ih2 ⊢
          unfold mb_X7_choose_91
          rw [ifI_le (by omega) (by omega)]
          by_cases h2 : n ≤ y
          · rw [if_pos h2, ht, show y = n by omega]
            exact ⟨g2, rfl, fun j hj => hg2 j (by omega)⟩
          · obtain ⟨m, hm⟩ : ∃ m : Nat, y = (m : Int) + 1 := ⟨(y - 1).toNat, by omega⟩
            have hprev : g2 (y - 1) = chs V c N1 m := by
              rw [show y - 1 = (m : Int) by omega]
              exact hg2 m (by omega)
            have hci := chs_in (V := V) (c := c) (N1 := N1) m
            have hci2 := chs_in (V := V) (c := c) (N1 := N1) (m + 1)
            have hbest := best_spec (F := F) hF (c := c) (h := y) (s := chs V c N1 m) (LF := LF) hN hN16 hc (by omega) (by omega) (fun t t0 t1 => by
              have := hV y t (by omega) (by omega) t0 t1
              omega)
            have hbe : amF (fun t => LF y t + c * pc4 (xorI (chs V c N1 m) t)) N1 = chs V c N1 (m + 1) := by
              show _ = amF (fun t => V ((m : Int) + 1) t + c * pc4 (xorI (chs V c N1 m) t)) N1
              rw [← hm]
              exact amF_congr N1 (fun t t0 t1 => by rw [(hV y t (by omega) (by omega) t0 t1).1])
            rw [hbe] at hbest
            rw [if_neg h2, chk_pos (by omega), hprev, hbest, bnd1_s, up_at, up_ne (by omega), hprev]
            simp only [chk_pos (show 0 ≤ y ∧ y < 30 by omega), chk_pos (show 0 ≤ y - 1 ∧ y - 1 < 30 by omega)]
            obtain ⟨x1, x2⟩ := xor4 (x := chs V c N1 (m + 1)) (y := chs V c N1 m) (by omega) (by omega)
            rw [bitCount4 x1, bnd1_s]
            simp only [nam]
            refine ih2 _ ⟨by simp only; omega, ?_, fun j hj => ?_⟩ (by simp only; omega)
            · simp only
              rw [ht, show (y - 1).toNat = m by omega, show (y + 1 - 1).toNat = m + 1 by omega, x2]
              rfl
            · simp only at hj ⊢
              by_cases e : (j : Int) = y
              · have e2 : j = m + 1 := by omega
                rw [e, up_at, e2]
              · rw [up_ne e]
                exact hg2 j (by omega)
        · refine ⟨by simp only; omega, rfl, fun j hj => ?_⟩
          simp only at hj
          have : j = 0 := by omega
          subst this
          exact hg0
        · simp only
          omega
      · have b1 := hV 0 x (by omega) (by omega) (by omega) (by omega)
        have b2 := hV 0 (g 0) (by omega) (by omega) hgi.1 (by omega)
        rw [if_neg h1, chk_pos (by omega), chk_pos (by omega), ifI_le (by omega) (by omega)]
        simp only [mb_X7_choose_66]
        have hst : amF (LF 0) (x + 1 - 1).toNat = if LF 0 x < LF 0 (g 0) then x else g 0 := by
          rw [show (x + 1 - 1).toNat = (x - 1).toNat + 1 by omega]
          unfold amF
          rw [← hg, show (((x - 1).toNat : Nat) : Int) + 1 = x by omega]
        by_cases h2 : LF 0 (g 0) ≤ LF 0 x
        · rw [if_pos h2]
          exact ih (x + 1, g) ⟨by simp only; omega, by simp only; rw [hst, if_neg (by omega)]⟩ (by simp only; omega)
        · rw [if_neg h2]
          exact ih (x + 1, up g 0 x) ⟨by simp only; omega, by simp only; rw [up_at, hst, if_pos (by omega)]⟩ (by simp only; omega)
    · exact ⟨by simp only; omega, show up ch0 0 0 0 = amF (LF 0) 0 from up_at _ _ _⟩
    · simp only
      omega
/-- plan -/
theorem plan_spec (hF : 1000 ≤ F) (hb : 0 ≤ bands ∧ bands ≤ 4) (hN : shlI 1 bands = N1 + 1) (hc : 0 ≤ c ∧ c ≤ 9999) (hcd : ∀ i, 0 ≤ i → i < bands → 1 ≤ cd i ∧ cd i ≤ 9999) (hn : 0 ≤ n ∧ n ≤ 30) (hnm : ∀ i, 0 ≤ i → i < n → (0 ≤ nm (2 * i) ∧ nm (2 * i) ≤ 9999) ∧ (0 ≤ nm (2 * i + 1) ∧ nm (2 * i + 1) ≤ 9999)) {size : Int} (hsz : size = 2 * n) (cb0 ch0 : Int → Int) (LF0 : Int → Int → Int) :
    ∃ o4 o5 o6 ch' LF', m_X7_plan F c size bands nm cd cb0 ch0 LF0 = some (n, (if n = 0 then 0 else mnF (vh (lfH nm cd bands) c n N1 0) N1), (if n = 0 then 0 else trs (vh (lfH nm cd bands) c n N1) c N1 (n - 1).toNat), o4, o5, o6, ch', LF') ∧ ∀ j : Nat, (j : Int) < n → ch' j = chs (vh (lfH nm cd bands) c n N1) c N1 j := by
  have hs := sets_in hb
  have hv : ∀ j t, 0 ≤ j → j < n → 0 ≤ t → t ≤ (N1 : Int) → 0 ≤ vh (lfH nm cd bands) c n N1 j t ∧ vh (lfH nm cd bands) c n N1 j t ≤ 2000000 := fun j t j0 j1 t0 t1 => by
    have := tv_in (L := lfH nm cd bands) (c := c) (n := n) (N1 := N1) hc (fun h s a b _ _ => lfH_in hb hcd (hnm h a b)) (n - 1 - j).toNat j t j0 (by omega) t0 t1
    unfold vh
    omega
  have e2 : size.tdiv 2 = n := by
    rw [hsz]
    exact Int.mul_tdiv_cancel_left n (by decide)
  have e3 : (if n < 30 then n else 30) = n := by split <;> omega
  unfold m_X7_plan
  rw [chk_pos (by omega), e2, min32 (by decide) (by omega), bnd1_s, e3]
  simp only [nam]
  unfold ml_X7_plan_33
  refine loopN_rec (I := fun q : Int × (Int → Int) => (0 ≤ q.1 ∧ q.1 ≤ shlI 1 bands) ∧ ∀ s, 0 ≤ s → s < q.1 → q.2 s = crr cd s bands.toNat) (μ := fun q => (shlI 1 bands - q.1).toNat) (P := fun q y => ∃ (o4 o5 : Int) (o6 ch' : Int → Int) (LF' : Int → Int → Int), y = some (n, (if n = 0 then 0 else mnF (vh (lfH nm cd bands) c n N1 0) N1), (if n = 0 then 0 else trs (vh (lfH nm cd bands) c n N1) c N1 (n - 1).toNat), o4, o5, o6, ch', LF') ∧ ∀ j : Nat, (j : Int) < n → ch' j = chs (vh (lfH nm cd bands) c n N1) c N1 j) ?_ F (0, cb0) ?_ ?_
  · rintro k ⟨s, cb⟩ ⟨⟨s0, s1⟩, hcb⟩ ih
    simp only at s0 s1 hcb ih ⊢
    unfold mb_X7_plan_33
    rw [ifI_le (by omega) (by omega)]
    by_cases h1 : shlI 1 bands ≤ s
    · rw [if_pos h1]
      simp only [nam]
      unfold ml_X7_plan_114
      refine loopN_rec (I := fun q : Int × (Int → Int → Int) => (-1 ≤ q.1 ∧ q.1 < n) ∧ ∀ j t, q.1 < j → j < n → 0 ≤ t → t < shlI 1 bands → q.2 j t = vh (lfH nm cd bands) c n N1 j t) (μ := fun q => (q.1 + 1).toNat) (P := fun q y => ∃ (o4 o5 : Int) (o6 ch' : Int → Int) (LF' : Int → Int → Int), y = some (n, (if n = 0 then 0 else mnF (vh (lfH nm cd bands) c n N1 0) N1), (if n = 0 then 0 else trs (vh (lfH nm cd bands) c n N1) c N1 (n - 1).toNat), o4, o5, o6, ch', LF') ∧ ∀ j : Nat, (j : Int) < n → ch' j = chs (vh (lfH nm cd bands) c n N1) c N1 j) ?_ F (n - 1, LF0) ?_ ?_
      · rintro k2 ⟨h, LF⟩ ⟨hh, hLF⟩ ih2
        simp only at hh hLF ih2 ⊢
        unfold mb_X7_plan_114
        rw [ifI_lt (by omega) (by decide)]
        by_cases h2 : h < 0
        · obtain ⟨ch', e, hch⟩ := choose_spec (F := F) hF (N := shlI 1 bands) (N1 := N1) (n := n) (c := c) (V := vh (lfH nm cd bands) c n N1) (LF := LF) (ch0 := ch0) hN (by omega) hc hn (fun j t j0 j1 t0 t1 => ⟨hLF j t (by omega) j1 t0 (by omega), hv j t j0 j1 t0 t1⟩)
          rw [if_pos h2, e, bnd3_s]
          exact ⟨_, _, _, _, _, rfl, hch⟩
        · obtain ⟨LF', e, f1, f2⟩ := fill_spec (F := F) hF (n := n) (N := shlI 1 bands) (N1 := N1) (c := c) (bands := bands) (nm := nm) (cd := cd) hb rfl hN hc hcd hn hnm (h := h) (by omega) (cb := cb) (fun t t0 t1 => hcb t t0 (by omega)) (LF := LF) (fun g t t0 t1 => hLF (h + 1) t (by omega) g t0 t1)
          rw [if_neg h2, chk_pos (by omega), chk_pos (by omega), e, bnd1_s]
          refine ih2 _ ⟨by simp only; omega, fun j t j0 j1 t0 t1 => ?_⟩ (by simp only; omega)
          simp only at j0 ⊢
          by_cases ej : j = h
          · rw [ej]
            exact f1 t t0 t1
          · rw [f2 j ej]
            exact hLF j t (by omega) j1 t0 t1
      · exact ⟨by simp only; omega, fun j t j0 j1 => by simp only at j0; omega⟩
      · simp only
        omega
    · rw [if_neg h1, chk_pos (by omega)]
      unfold ml_X7_plan_53
      refine loopN_rec (I := fun q : Int × (Int → Int) => (0 ≤ q.1 ∧ q.1 ≤ bands) ∧ q.2 s = crr cd s q.1.toNat ∧ ∀ t, 0 ≤ t → t < s → q.2 t = crr cd t bands.toNat) (μ := fun q => (bands - q.1).toNat) (P := fun q y => ∃ (o4 o5 : Int) (o6 ch' : Int → Int) (LF' : Int → Int → Int), y = some (n, (if n = 0 then 0 else mnF (vh (lfH nm cd bands) c n N1 0) N1), (if n = 0 then 0 else trs (vh (lfH nm cd bands) c n N1) c N1 (n - 1).toNat), o4, o5, o6, ch', LF') ∧ ∀ j : Nat, (j : Int) < n → ch' j = chs (vh (lfH nm cd bands) c n N1) c N1 j) ?_ F (0, up cb s 0) ?_ ?_
      · rintro k2 ⟨i, g⟩ ⟨hi, hg, hg2⟩ ih2
        simp only at hi hg hg2 ih2 ⊢
        unfold mb_X7_plan_53
        rw [ifI_le (by omega) (by omega)]
        by_cases h2 : bands ≤ i
        · rw [if_pos h2]
          refine ih (s + 1, g) ⟨by simp only; omega, fun t t0 t1 => ?_⟩ (by simp only; omega)
          simp only at t1 ⊢
          by_cases e : t = s
          · rw [e, hg, show i = bands by omega]
          · exact hg2 t t0 (by omega)
        · rw [if_neg h2, chk_pos (by omega), chk_pos (by omega)]
          simp only [mb_X7_plan_92, nam]
          have hst : crr cd s (i + 1).toNat = crr cd s i.toNat + (if bitJ s i then cd i else 0) := by
            rw [show (i + 1).toNat = i.toNat + 1 by omega]
            show crr cd s i.toNat + (if bitJ s ((i.toNat : Nat) : Int) then cd ((i.toNat : Nat) : Int) else 0) = _
            rw [show ((i.toNat : Nat) : Int) = i by omega]
          have tail : ∀ v : Int, g s + v = crr cd s (i + 1).toNat → (∃ (o4 o5 : Int) (o6 ch' : Int → Int) (LF' : Int → Int → Int), (chk (0 ≤ s ∧ s < 16) (k2 (i + 1, up g s (g s + v)))) = some (n, (if n = 0 then 0 else mnF (vh (lfH nm cd bands) c n N1 0) N1), (if n = 0 then 0 else trs (vh (lfH nm cd bands) c n N1) c N1 (n - 1).toNat), o4, o5, o6, ch', LF') ∧ ∀ j : Nat, (j : Int) < n → ch' j = chs (vh (lfH nm cd bands) c n N1) c N1 j) := by
            intro v hv
            rw [chk_pos (by omega)]
            refine ih2 (i + 1, up g s (g s + v)) ⟨by simp only; omega, by simp only; rw [up_at, hv], fun t t0 t1 => ?_⟩ (by simp only; omega)
            simp only
            rw [up_ne (by omega)]
            exact hg2 t t0 t1
          by_cases hbit : bitJ s i
          · rw [if_pos hbit]
            exact tail (cd i) (by rw [hst, if_pos hbit, hg])
          · rw [if_neg hbit]
            exact tail 0 (by rw [hst, if_neg hbit, hg])
      · refine ⟨by simp only; omega, by simp only; rw [up_at]; rfl, fun t t0 t1 => ?_⟩
        simp only
        rw [up_ne (by omega)]
        exact hcb t t0 t1
      · simp only
        omega
  · exact ⟨by simp only; omega, fun s a b => by simp only at b; omega⟩
  · simp only
    omega
end TRN
section TRN9
variable {F : Nat} {n c : Int} {N1 : Nat} {nm cd band h cells many LL : Int → Int} {x : Int}
/-- what the reference holds of a turn's question -/
def TrnQ (x n c : Int) (N1 : Nat) (nm cd band h cells many : Int → Int) : Prop := (0 ≤ x ∧ x < 4) ∧ (0 ≤ n ∧ n ≤ 30) ∧ (0 ≤ c ∧ c ≤ 9999) ∧ (0 ≤ h 3 ∧ h 3 ≤ 4) ∧ shlI 1 (h 3) = N1 + 1 ∧ many x = 2 * n ∧ (∀ i, 0 ≤ i → i < h 3 → band i = cd i ∧ 1 ≤ cd i ∧ cd i ≤ 9999) ∧ (∀ i, 0 ≤ i → i < 2 * n → cells (60 * x + i) = nm i ∧ 0 ≤ nm i ∧ nm i ≤ 9999)
theorem TrnQ.nums (Q : TrnQ x n c N1 nm cd band h cells many) : ∀ i, 0 ≤ i → i < n → (0 ≤ nm (2 * i) ∧ nm (2 * i) ≤ 9999) ∧ (0 ≤ nm (2 * i + 1) ∧ nm (2 * i + 1) ≤ 9999) := fun i i0 i1 => by
  obtain ⟨-, -, -, -, -, -, -, q⟩ := Q
  have q1 := q (2 * i) (by omega) (by omega)
  have q2 := q (2 * i + 1) (by omega) (by omega)
  omega
theorem TrnQ.v (Q : TrnQ x n c N1 nm cd band h cells many) : ∀ j t, 0 ≤ j → j < n → 0 ≤ t → t ≤ (N1 : Int) → 0 ≤ vh (lfH nm cd (h 3)) c n N1 j t ∧ vh (lfH nm cd (h 3)) c n N1 j t ≤ 1800000 := fun j t j0 j1 t0 t1 => by
  obtain ⟨-, hn, hc, hb, -, -, hcd, -⟩ := id Q
  have := tv_in (L := lfH nm cd (h 3)) (c := c) (n := n) (N1 := N1) hc (fun g s a b _ _ => lfH_in hb (fun i i0 i1 => (hcd i i0 i1).2) (Q.nums g a b)) (n - 1 - j).toNat j t j0 (by omega) t0 t1
  unfold vh
  omega
theorem hours_spec (Q : TrnQ x n c N1 nm cd band h cells many) : m_X9_hours F x many = some n := by
  obtain ⟨hx, hn, -, -, -, hm, -⟩ := Q
  unfold m_X9_hours
  rw [chk_pos hx, chk_pos (by omega), hm, Int.mul_tdiv_cancel_left n (by decide)]
theorem leftBy_spec (hF : 1000 ≤ F) (Q : TrnQ x n c N1 nm cd band h cells many) {g s : Int} (hg : 0 ≤ g ∧ g < n) (hs : 0 ≤ s ∧ s ≤ N1) : m_X9_leftBy F x g s band cells h = some (lfH nm cd (h 3) g s) := by
  obtain ⟨hx, hn, hc, hb, hN, hm, hcd, hcl⟩ := id Q
  have hcr : ∀ (t : Int) (k : Nat), (k : Int) ≤ h 3 → 0 ≤ crr cd t k ∧ crr cd t k ≤ 39996 := fun t k hk => by
    have := crr_in (cd := cd) (s := t) k (fun i a b => (hcd i a (by omega)).2)
    omega
  have c1 := hcl (2 * g) (by omega) (by omega)
  have c2 := hcl (2 * g + 1) (by omega) (by omega)
  unfold m_X9_leftBy
  rw [chk_pos (by omega)]
  simp only [nam]
  rw [chk_pos (by omega), c1.1, show 60 * x + 2 * g + 1 = 60 * x + (2 * g + 1) by omega, c2.1]
  unfold ml_X9_leftBy_37
  refine loopN_rec (I := fun q : Int × Int × Int => (0 ≤ q.2.2 ∧ q.2.2 ≤ h 3) ∧ q.1 = nm (2 * g) - crr cd s q.2.2.toNat ∧ q.2.1 = nm (2 * g + 1) - crr cd (shlI 1 (h 3) - 1 - s) q.2.2.toNat) (μ := fun q => (h 3 - q.2.2).toNat) (P := fun q y => y = some (lfH nm cd (h 3) g s)) ?_ F (nm (2 * g), nm (2 * g + 1), 0) ?_ ?_
  · rintro k ⟨u, d, i⟩ ⟨hi, hu, hd⟩ ih
    simp only at hi hu hd ih ⊢
    have k1 := hcr s i.toNat (by omega)
    have k2 := hcr (shlI 1 (h 3) - 1 - s) i.toNat (by omega)
    unfold mb_X9_leftBy_37
    rw [ifI_le (by omega) (by omega)]
    by_cases h1 : h 3 ≤ i
    · have e : i = h 3 := by omega
      have hl : lfH nm cd (h 3) g s = max 0 u + max 0 d := by
        unfold lfH
        rw [hu, hd, e]
      rw [if_pos h1, ifI_le (by omega) (by decide)]
      unfold mb_X9_leftBy_101
      rw [ifI_le (by omega) (by decide), ifI_le (by omega) (by decide), hl]
      by_cases h2 : u ≤ 0
      · rw [if_pos h2]
        by_cases h3 : d ≤ 0
        · rw [if_pos h3]
          congr 1
          omega
        · rw [if_neg h3]
          congr 1
          omega
      · rw [if_neg h2]
        by_cases h3 : d ≤ 0
        · rw [if_pos h3]
          congr 1
          omega
        · rw [if_neg h3]
          congr 1
          omega
    · have hbi := hcd i hi.1 (by omega)
      have hst : ∀ t, crr cd t (i + 1).toNat = crr cd t i.toNat + (if bitJ t i then cd i else 0) := fun t => by
        rw [show (i + 1).toNat = i.toNat + 1 by omega]
        show crr cd t i.toNat + (if bitJ t ((i.toNat : Nat) : Int) then cd ((i.toNat : Nat) : Int) else 0) = _
        rw [show ((i.toNat : Nat) : Int) = i by omega]
      have hcomp := comp_bit (b := h 3) (s := s) (i := i) hb (by omega) (by omega)
      rw [if_neg h1, isBit_spec, bnd1_s, ifB]
      simp only [chk_pos (show 0 ≤ i ∧ i < 20 by omega), nam, mb_X9_leftBy_84]
      rw [hbi.1]
      by_cases hbit : bitJ s i
      · rw [if_pos hbit]
        refine ih _ ⟨by simp only; omega, ?_, ?_⟩ (by simp only; omega)
        · simp only
          rw [hst, if_pos hbit, hu]
          omega
        · simp only
          rw [hst, if_neg (fun z => hcomp.mp z hbit), hd]
          omega
      · rw [if_neg hbit]
        refine ih _ ⟨by simp only; omega, ?_, ?_⟩ (by simp only; omega)
        · simp only
          rw [hst, if_neg hbit, hu]
          omega
        · simp only
          rw [hst, if_pos (hcomp.mpr hbit), hd]
          omega
  · refine ⟨by simp only; omega, ?_, ?_⟩
    · simp only [crr]
      simp [crr]
    · simp [crr]
  · simp only
    omega
theorem onBy_spec (hF : 1000 ≤ F) {g s t : Int} (hn : 0 ≤ n ∧ n ≤ 30) (hg : 0 ≤ g ∧ g < n) (hs : 0 ≤ s ∧ s < 16) (ht : 0 ≤ t ∧ t < 16) : m_X9_onBy F g n s c t LL = some (if g + 1 = n then 0 else c * pc4 (xorI s t) + LL (16 * (g + 1) + t)) := by
  unfold m_X9_onBy
  rw [ifI_eq (by omega) (by omega)]
  by_cases h1 : g + 1 = n
  · rw [if_pos h1, if_pos h1]
  · rw [if_neg h1, if_neg h1, sizeOf4 hF (xor4 hs ht).1, bnd1_s, chk_pos (by omega)]
/-- laysTurn -/
theorem laysTurn_spec (hF : 1000 ≤ F) (Q : TrnQ x n c N1 nm cd band h cells many) (LL0 : Int → Int) : ∃ LL', m_X9_laysTurn F x c band cells h LL0 many = some LL' ∧ ∀ g s, 0 ≤ g → g < n → 0 ≤ s → s ≤ (N1 : Int) → LL' (16 * g + s) = vh (lfH nm cd (h 3)) c n N1 g s := by
  obtain ⟨hx, hn, hc, hb, hN, hm, hcd, hcl⟩ := id Q
  have hset := sets_in hb
  have hv := Q.v
  unfold m_X9_laysTurn
  simp only [nam]
  rw [hours_spec Q, bnd1_s]
  unfold ml_X9_laysTurn_18
  refine loopN_rec (I := fun q : Int × (Int → Int) => (-1 ≤ q.1 ∧ q.1 < n) ∧ ∀ g s, q.1 < g → g < n → 0 ≤ s → s ≤ (N1 : Int) → q.2 (16 * g + s) = vh (lfH nm cd (h 3)) c n N1 g s) (μ := fun q => (q.1 + 1).toNat) (P := fun q y => ∃ LL' : Int → Int, y = some LL' ∧ ∀ g s, 0 ≤ g → g < n → 0 ≤ s → s ≤ (N1 : Int) → LL' (16 * g + s) = vh (lfH nm cd (h 3)) c n N1 g s) ?_ F (n - 1, LL0) ?_ ?_
  · rintro k ⟨g, L1⟩ ⟨hg, hL1⟩ ih
    simp only at hg hL1 ih ⊢
    unfold mb_X9_laysTurn_18
    rw [ifI_lt (by omega) (by decide)]
    by_cases h1 : g < 0
    · rw [if_pos h1]
      exact ⟨L1, rfl, fun g' s a b c d => hL1 g' s (by omega) b c d⟩
    · rw [if_neg h1]
      unfold ml_X9_laysTurn_26
      refine loopN_rec (I := fun q : Int × (Int → Int) => (0 ≤ q.1 ∧ q.1 ≤ (N1 : Int) + 1) ∧ (∀ s, 0 ≤ s → s < q.1 → q.2 (16 * g + s) = vh (lfH nm cd (h 3)) c n N1 g s) ∧ ∀ g' s, g < g' → g' < n → 0 ≤ s → s ≤ (N1 : Int) → q.2 (16 * g' + s) = vh (lfH nm cd (h 3)) c n N1 g' s) (μ := fun q => ((N1 : Int) + 1 - q.1).toNat) (P := fun q y => ∃ LL' : Int → Int, y = some LL' ∧ ∀ g s, 0 ≤ g → g < n → 0 ≤ s → s ≤ (N1 : Int) → LL' (16 * g + s) = vh (lfH nm cd (h 3)) c n N1 g s) ?_ F (0, L1) ?_ ?_
      · rintro k2 ⟨s, L2⟩ ⟨hs, hL2, hL3⟩ ih2
        simp only at hs hL2 hL3 ih2 ⊢
        unfold mb_X9_laysTurn_26
        rw [hN, ifI_le (by omega) (by omega)]
        by_cases h2 : (N1 : Int) + 1 ≤ s
        · rw [if_pos h2]
          refine ih _ ⟨by simp only; omega, fun g' s' a b c d => ?_⟩ (by simp only; omega)
          simp only at a ⊢
          by_cases e : g' = g
          · rw [e]
            exact hL2 s' c (by omega)
          · exact hL3 g' s' (by omega) b c d
        · rw [if_neg h2]
          -- the price of each next set
          have hprice : ∀ t, 0 ≤ t → t ≤ (N1 : Int) → 0 ≤ (if g + 1 = n then 0 else c * pc4 (xorI s t) + L2 (16 * (g + 1) + t)) ∧ (if g + 1 = n then 0 else c * pc4 (xorI s t) + L2 (16 * (g + 1) + t)) ≤ 2000000 := fun t t0 t1 => by
            by_cases e : g + 1 = n
            · rw [if_pos e]
              omega
            · have k1 := hv (g + 1) t (by omega) (by omega) t0 t1
              have k2 := cpc_in (x := xorI s t) hc
              rw [if_neg e, hL3 (g + 1) t (by omega) (by omega) t0 t1]
              omega
          have hval : lfH nm cd (h 3) g s + mnF (fun t => if g + 1 = n then 0 else c * pc4 (xorI s t) + L2 (16 * (g + 1) + t)) N1 = vh (lfH nm cd (h 3)) c n N1 g s := by
            by_cases e : g + 1 = n
            · rw [vh_last (by omega), mnF_congr (g := fun _ => 0) N1 (fun t _ _ => if_pos e), mnF_zero, Int.add_zero]
            · rw [vh_step (by omega)]
              congr 1
              refine mnF_congr N1 (fun t t0 t1 => ?_)
              rw [if_neg e, hL3 (g + 1) t (by omega) (by omega) t0 t1]
              omega
          unfold ml_X9_laysTurn_40
          refine loopN_rec (I := fun q : Int × Int => (0 ≤ q.2 ∧ q.2 ≤ (N1 : Int) + 1) ∧ ((q.2 = 0 ∧ q.1 = 1000000000) ∨ (0 < q.2 ∧ q.1 = mnF (fun t => if g + 1 = n then 0 else c * pc4 (xorI s t) + L2 (16 * (g + 1) + t)) (q.2 - 1).toNat))) (μ := fun q => ((N1 : Int) + 1 - q.2).toNat) (P := fun q y => ∃ LL' : Int → Int, y = some LL' ∧ ∀ g s, 0 ≤ g → g < n → 0 ≤ s → s ≤ (N1 : Int) → LL' (16 * g + s) = vh (lfH nm cd (h 3)) c n N1 g s) ?_ F (1000000000, 0) ?_ ?_
          · rintro k3 ⟨bst, t⟩ ⟨ht, hbst⟩ ih3
            simp only at ht hbst ih3 ⊢
            unfold mb_X9_laysTurn_40
            rw [ifI_le (by omega) (by omega)]
            by_cases h3 : (N1 : Int) + 1 ≤ t
            · have hb2 : bst = mnF (fun t => if g + 1 = n then 0 else c * pc4 (xorI s t) + L2 (16 * (g + 1) + t)) N1 := by
                rcases hbst with ⟨z, -⟩ | ⟨-, z⟩
                · omega
                · rw [z, show (t - 1).toNat = N1 by omega]
              rw [if_pos h3, leftBy_spec hF Q (by omega) (by omega), bnd1_s]
              simp only [nam]
              rw [chk_pos (by omega), hb2, hval]
              refine ih2 _ ⟨by simp only; omega, fun s' a b => ?_, fun g' s' a b c d => ?_⟩ (by simp only; omega)
              · simp only at b ⊢
                by_cases e : s' = s
                · rw [e, up_at]
                · rw [up_ne (by omega)]
                  exact hL2 s' a (by omega)
              · simp only
                rw [up_ne (by omega)]
                exact hL3 g' s' a b c d
            · have hp := hprice t ht.1 (by omega)
              have hbr : 0 ≤ bst ∧ bst ≤ 1000000000 := by
                rcases hbst with ⟨-, z⟩ | ⟨z0, z⟩
                · omega
                · have k1 := mnF_ge (f := fun t => if g + 1 = n then 0 else c * pc4 (xorI s t) + L2 (16 * (g + 1) + t)) (v := 0) (t - 1).toNat (fun u u0 u1 => (hprice u u0 (by omega)).1)
                  have k2 := mnF_le (f := fun t => if g + 1 = n then 0 else c * pc4 (xorI s t) + L2 (16 * (g + 1) + t)) (t - 1).toNat 0 (by omega) (by omega)
                  have k3 := (hprice 0 (by omega) (by omega)).2
                  omega
              have hst : ∀ w : Int, w = (if (if g + 1 = n then 0 else c * pc4 (xorI s t) + L2 (16 * (g + 1) + t)) < bst then (if g + 1 = n then 0 else c * pc4 (xorI s t) + L2 (16 * (g + 1) + t)) else bst) → (0 < t + 1 ∧ w = mnF (fun t => if g + 1 = n then 0 else c * pc4 (xorI s t) + L2 (16 * (g + 1) + t)) (t + 1 - 1).toNat) := by
                intro w hw
                refine ⟨by omega, ?_⟩
                rcases hbst with ⟨z, z2⟩ | ⟨z0, z⟩
                · subst z
                  rw [if_pos (by omega)] at hw
                  rw [hw]
                  rfl
                · rw [hw, show (t + 1 - 1).toNat = (t - 1).toNat + 1 by omega]
                  unfold mnF
                  rw [← z, show (((t - 1).toNat : Nat) : Int) + 1 = t by omega]
              rw [if_neg h3, hours_spec Q, bnd1_s, onBy_spec hF hn (by omega) (by omega) (by omega), bnd1_s, bnd1_s, onBy_spec hF hn (by omega) (by omega) (by omega), bnd1_s]
              generalize (if g + 1 = n then 0 else c * pc4 (xorI s t) + L2 (16 * (g + 1) + t)) = pr at hp hst
              rw [ifI_le (by omega) (by omega)]
              simp only [mb_X9_laysTurn_88]
              by_cases h4 : bst ≤ pr
              · rw [if_pos h4]
                exact ih3 (bst, t + 1) ⟨by simp only; omega, Or.inr (hst bst (by rw [if_neg (by omega)]))⟩ (by simp only; omega)
              · rw [if_neg h4]
                exact ih3 (pr, t + 1) ⟨by simp only; omega, Or.inr (hst pr (by rw [if_pos (by omega)]))⟩ (by simp only; omega)
          · exact ⟨by simp only; omega, Or.inl ⟨rfl, rfl⟩⟩
          · simp only
            omega
      · exact ⟨by simp only; omega, fun s a b => by simp only at b; omega, hL1⟩
      · simp only
        omega
  · exact ⟨by simp only; omega, fun g s a b => by simp only at a; omega⟩
  · simp only
    omega
/-- turnOf -/
theorem turnOf_spec (hF : 1000 ≤ F) (Q : TrnQ x n c N1 nm cd band h cells many) (hLL : ∀ g s, 0 ≤ g → g < n → 0 ≤ s → s ≤ (N1 : Int) → LL (16 * g + s) = vh (lfH nm cd (h 3)) c n N1 g s) : m_X9_turnOf F x h LL many = some (if n = 0 then 0 else mnF (vh (lfH nm cd (h 3)) c n N1 0) N1) := by
  obtain ⟨hx, hn, hc, hb, hN, hm, hcd, hcl⟩ := id Q
  have hset := sets_in hb
  have hv := Q.v
  unfold m_X9_turnOf
  rw [hours_spec Q, bnd1_s, ifI_eq (by omega) (by decide)]
  unfold mb_X9_turnOf_15 ml_X9_turnOf_18
  by_cases h0 : n = 0
  · rw [if_pos h0, if_pos h0]
    obtain ⟨m, hm⟩ : ∃ m, F = m + 1 := ⟨F - 1, by omega⟩
    rw [hm]
    unfold loopN
    simp only
    unfold mb_X9_turnOf_18
    rw [hN, ifI_le (by omega) (by decide), if_neg (by omega), hours_spec Q, bnd1_s, h0, if_pos (by decide)]
  · rw [if_neg h0, if_neg h0]
    refine loopN_rec (I := fun q : Int × Int => (0 ≤ q.2 ∧ q.2 ≤ (N1 : Int) + 1) ∧ ((q.2 = 0 ∧ q.1 = 1000000000) ∨ (0 < q.2 ∧ q.1 = mnF (vh (lfH nm cd (h 3)) c n N1 0) (q.2 - 1).toNat))) (μ := fun q => ((N1 : Int) + 1 - q.2).toNat) (P := fun q y => y = some (mnF (vh (lfH nm cd (h 3)) c n N1 0) N1)) ?_ F (1000000000, 0) ?_ ?_
    · rintro k ⟨bst, t⟩ ⟨ht, hbst⟩ ih
      simp only at ht hbst ih ⊢
      unfold mb_X9_turnOf_18
      rw [hN, ifI_le (by omega) (by omega)]
      by_cases h1 : (N1 : Int) + 1 ≤ t
      · rw [if_pos h1]
        rcases hbst with ⟨z, -⟩ | ⟨-, z⟩
        · omega
        · rw [z, show (t - 1).toNat = N1 by omega]
      · have hp := hv 0 t (by omega) (by omega) ht.1 (by omega)
        have hLt : LL t = vh (lfH nm cd (h 3)) c n N1 0 t := by
          have := hLL 0 t (by omega) (by omega) ht.1 (by omega)
          rw [Int.mul_zero, Int.zero_add] at this
          exact this
        have hbr : 0 ≤ bst ∧ bst ≤ 1000000000 := by
          rcases hbst with ⟨-, z⟩ | ⟨z0, z⟩
          · omega
          · have k1 := mnF_ge (f := vh (lfH nm cd (h 3)) c n N1 0) (v := 0) (t - 1).toNat (fun u u0 u1 => (hv 0 u (by omega) (by omega) u0 (by omega)).1)
            have k2 := mnF_le (f := vh (lfH nm cd (h 3)) c n N1 0) (t - 1).toNat 0 (by omega) (by omega)
            have k3 := (hv 0 0 (by omega) (by omega) (by omega) (by omega)).2
            omega
        have hst : ∀ w : Int, w = (if vh (lfH nm cd (h 3)) c n N1 0 t < bst then vh (lfH nm cd (h 3)) c n N1 0 t else bst) → (0 < t + 1 ∧ w = mnF (vh (lfH nm cd (h 3)) c n N1 0) (t + 1 - 1).toNat) := by
          intro w hw
          refine ⟨by omega, ?_⟩
          rcases hbst with ⟨z, z2⟩ | ⟨z0, z⟩
          · subst z
            rw [if_pos (by omega)] at hw
            rw [hw]
            rfl
          · rw [hw, show (t + 1 - 1).toNat = (t - 1).toNat + 1 by omega]
            unfold mnF
            rw [← z, show (((t - 1).toNat : Nat) : Int) + 1 = t by omega]
        rw [if_neg h1, hours_spec Q, bnd1_s, ifI_le (by omega) (by decide), if_neg (by omega), hLt]
        simp only [chk_pos (show 0 ≤ t ∧ t < 496 by omega), mb_X9_turnOf_58]
        rw [ifI_le (by omega) (by omega)]
        by_cases h4 : bst ≤ vh (lfH nm cd (h 3)) c n N1 0 t
        · rw [if_pos h4]
          exact ih (bst, t + 1) ⟨by simp only; omega, Or.inr (hst _ (by rw [if_neg (by omega)]))⟩ (by simp only; omega)
        · rw [if_neg h4]
          exact ih (_, t + 1) ⟨by simp only; omega, Or.inr (hst _ (by rw [if_pos (by omega)]))⟩ (by simp only; omega)
    · exact ⟨by simp only; omega, Or.inl ⟨rfl, rfl⟩⟩
    · simp only
      omega
/-- turnedIn -/
theorem turnedIn_spec (hF : 1000 ≤ F) (Q : TrnQ x n c N1 nm cd band h cells many) (hLL : ∀ g s, 0 ≤ g → g < n → 0 ≤ s → s ≤ (N1 : Int) → LL (16 * g + s) = vh (lfH nm cd (h 3)) c n N1 g s) {hour : Int} (hh : 0 ≤ hour ∧ hour < n) : m_X9_turnedIn F x c hour band cells h LL many = some (chs (vh (lfH nm cd (h 3)) c n N1) c N1 hour.toNat, trs (vh (lfH nm cd (h 3)) c n N1) c N1 hour.toNat) := by
  obtain ⟨hx, hn, hc, hb, hN, hm, hcd, hcl⟩ := id Q
  have hset := sets_in hb
  have hv := Q.v
  have htr : ∀ k : Nat, (k : Int) < 31 → 0 ≤ trs (vh (lfH nm cd (h 3)) c n N1) c N1 k ∧ trs (vh (lfH nm cd (h 3)) c n N1) c N1 k ≤ 4 * k := fun k => by
    induction k with
    | zero => intro _; simp [trs]
    | succ k ih =>
      intro hk
      have h1 := ih (by omega)
      have h2 := pc4_in (xorI (chs (vh (lfH nm cd (h 3)) c n N1) c N1 k) (chs (vh (lfH nm cd (h 3)) c n N1) c N1 (k + 1)))
      unfold trs
      omega
  unfold m_X9_turnedIn ml_X9_turnedIn_8
  refine loopN_rec (I := fun q : Int => 0 ≤ q ∧ q ≤ amF (vh (lfH nm cd (h 3)) c n N1 0) N1) (μ := fun q => (amF (vh (lfH nm cd (h 3)) c n N1 0) N1 - q).toNat) (P := fun q y => y = some (chs (vh (lfH nm cd (h 3)) c n N1) c N1 hour.toNat, trs (vh (lfH nm cd (h 3)) c n N1) c N1 hour.toNat)) ?_ F 0 ?_ ?_
  · rintro k q ⟨q0, q1⟩ ih
    have ha := amF_in (f := vh (lfH nm cd (h 3)) c n N1 0) N1
    have hav := amF_val (f := vh (lfH nm cd (h 3)) c n N1 0) N1
    have hLq : LL q = vh (lfH nm cd (h 3)) c n N1 0 q := by
      have := hLL 0 q (by omega) (by omega) q0 (by omega)
      rw [Int.mul_zero, Int.zero_add] at this
      exact this
    have b1 := hv 0 q (by omega) (by omega) q0 (by omega)
    have b2 := hv 0 _ (by omega) (by omega) ha.1 ha.2
    rw [hav] at b2
    unfold mb_X9_turnedIn_8
    rw [chk_pos (by omega), turnOf_spec hF Q hLL, bnd1_s, if_neg (show ¬ n = 0 by omega), hLq, ifI_eq (by omega) (by omega)]
    by_cases h1 : vh (lfH nm cd (h 3)) c n N1 0 q = mnF (vh (lfH nm cd (h 3)) c n N1 0) N1
    · have e : q = amF (vh (lfH nm cd (h 3)) c n N1 0) N1 := by
        rcases Int.lt_or_le q (amF (vh (lfH nm cd (h 3)) c n N1 0) N1) with z | z
        · have := amF_first N1 q q0 z
          omega
        · omega
      rw [if_pos h1, e]
      unfold ml_X9_turnedIn_32
      refine loopN_rec (I := fun q : Int × Int × Int => (0 ≤ q.2.1 ∧ q.2.1 ≤ hour) ∧ q.1 = chs (vh (lfH nm cd (h 3)) c n N1) c N1 q.2.1.toNat ∧ q.2.2 = trs (vh (lfH nm cd (h 3)) c n N1) c N1 q.2.1.toNat) (μ := fun q => (hour - q.2.1).toNat) (P := fun q y => y = some (chs (vh (lfH nm cd (h 3)) c n N1) c N1 hour.toNat, trs (vh (lfH nm cd (h 3)) c n N1) c N1 hour.toNat)) ?_ F _ ?_ ?_
      · rintro k2 ⟨s, g, tr⟩ ⟨hg, hs, htt⟩ ih2
        simp only at hg hs htt ih2 ⊢
        unfold mb_X9_turnedIn_32
        rw [ifI_le (by omega) (by omega)]
        by_cases h2 : hour ≤ g
        · rw [if_pos h2, hs, htt, show g = hour by omega]
        · rw [if_neg h2]
          have hci := chs_in (V := vh (lfH nm cd (h 3)) c n N1) (c := c) (N1 := N1) g.toNat
          have hnx : chs (vh (lfH nm cd (h 3)) c n N1) c N1 (g + 1).toNat = amF (fun t => vh (lfH nm cd (h 3)) c n N1 (g + 1) t + c * pc4 (xorI s t)) N1 := by
            rw [show (g + 1).toNat = g.toNat + 1 by omega, hs]
            show amF (fun t => vh (lfH nm cd (h 3)) c n N1 (((g.toNat : Nat) : Int) + 1) t + _) N1 = _
            rw [show ((g.toNat : Nat) : Int) = g by omega]
          have hLg : LL (16 * g + s) = lfH nm cd (h 3) g s + mnF (fun t => vh (lfH nm cd (h 3)) c n N1 (g + 1) t + c * pc4 (xorI s t)) N1 := by
            rw [hLL g s (by omega) (by omega) (by omega) (by omega), vh_step (by omega)]
          have hlf := lfH_in (bands := h 3) (cd := cd) (nm := nm) hb (fun i a b => (hcd i a b).2) (h := g) (s := s) (Q.nums g (by omega) (by omega))
          have ga := amF_in (f := fun t => vh (lfH nm cd (h 3)) c n N1 (g + 1) t + c * pc4 (xorI s t)) N1
          have gv := amF_val (f := fun t => vh (lfH nm cd (h 3)) c n N1 (g + 1) t + c * pc4 (xorI s t)) N1
          have gm := mnF_ge (f := fun t => vh (lfH nm cd (h 3)) c n N1 (g + 1) t + c * pc4 (xorI s t)) (v := 0) N1 (fun u u0 u1 => by
            have k1 := hv (g + 1) u (by omega) (by omega) u0 u1
            have k2 := cpc_in (x := xorI s u) hc
            omega)
          have gm2 := mnF_le (f := fun t => vh (lfH nm cd (h 3)) c n N1 (g + 1) t + c * pc4 (xorI s t)) N1 0 (by omega) (by omega)
          have gm3 := hv (g + 1) 0 (by omega) (by omega) (by omega) (by omega)
          have gm4 := cpc_in (x := xorI s 0) hc
          unfold ml_X9_turnedIn_41
          refine loopN_rec (I := fun q : Int => 0 ≤ q ∧ q ≤ amF (fun t => vh (lfH nm cd (h 3)) c n N1 (g + 1) t + c * pc4 (xorI s t)) N1) (μ := fun q => (amF (fun t => vh (lfH nm cd (h 3)) c n N1 (g + 1) t + c * pc4 (xorI s t)) N1 - q).toNat) (P := fun q y => y = some (chs (vh (lfH nm cd (h 3)) c n N1) c N1 hour.toNat, trs (vh (lfH nm cd (h 3)) c n N1) c N1 hour.toNat)) ?_ F 0 ?_ ?_
          · rintro k3 t ⟨t0, t1⟩ ih3
            have b3 := hv (g + 1) t (by omega) (by omega) t0 (by omega)
            have b4 := cpc_in (x := xorI s t) hc
            unfold mb_X9_turnedIn_41
            rw [leftBy_spec hF Q (by omega) (by omega), bnd1_s, hours_spec Q, bnd1_s, onBy_spec hF hn (by omega) (by omega) (by omega), bnd1_s, if_neg (show ¬ g + 1 = n by omega), chk_pos (by omega), hLL (g + 1) t (by omega) (by omega) t0 (by omega), hLg, ifI_eq (by omega) (by omega)]
            by_cases h3 : lfH nm cd (h 3) g s + (c * pc4 (xorI s t) + vh (lfH nm cd (h 3)) c n N1 (g + 1) t) = lfH nm cd (h 3) g s + mnF (fun t => vh (lfH nm cd (h 3)) c n N1 (g + 1) t + c * pc4 (xorI s t)) N1
            · have e2 : t = amF (fun t => vh (lfH nm cd (h 3)) c n N1 (g + 1) t + c * pc4 (xorI s t)) N1 := by
                rcases Int.lt_or_le t (amF (fun t => vh (lfH nm cd (h 3)) c n N1 (g + 1) t + c * pc4 (xorI s t)) N1) with z | z
                · have := amF_first (f := fun t => vh (lfH nm cd (h 3)) c n N1 (g + 1) t + c * pc4 (xorI s t)) N1 t t0 z
                  omega
                · omega
              rw [if_pos h3, sizeOf4 hF (xor4 (by omega) (by omega)).1, bnd1_s]
              simp only [nam]
              refine ih2 (t, g + 1, tr + pc4 (xorI s t)) ⟨by simp only; omega, ?_, ?_⟩ (by simp only; omega)
              · simp only
                rw [hnx, ← e2]
              · simp only
                rw [show (g + 1).toNat = g.toNat + 1 by omega]
                show _ = trs (vh (lfH nm cd (h 3)) c n N1) c N1 g.toNat + pc4 (xorI (chs (vh (lfH nm cd (h 3)) c n N1) c N1 g.toNat) (chs (vh (lfH nm cd (h 3)) c n N1) c N1 (g.toNat + 1)))
                rw [← show (g + 1).toNat = g.toNat + 1 by omega, hnx, ← e2, ← hs, htt]
            · rw [if_neg h3]
              refine ih3 (t + 1) ⟨by omega, ?_⟩ (by
                have : t ≠ amF (fun t => vh (lfH nm cd (h 3)) c n N1 (g + 1) t + c * pc4 (xorI s t)) N1 := fun z => by
                  rw [← z] at gv
                  omega
                omega)
              have : t ≠ amF (fun t => vh (lfH nm cd (h 3)) c n N1 (g + 1) t + c * pc4 (xorI s t)) N1 := fun z => by
                rw [← z] at gv
                omega
              omega
          · exact ⟨by omega, ga.1⟩
          · omega
      · exact ⟨by simp only; omega, rfl, rfl⟩
      · simp only
        omega
    · rw [if_neg h1]
      have hne : q ≠ amF (vh (lfH nm cd (h 3)) c n N1 0) N1 := fun z => by
        rw [← z] at hav
        exact h1 hav
      exact ih (q + 1) ⟨by omega, by omega⟩ (by omega)
  · exact ⟨by omega, (amF_in N1).1⟩
  · have ha := amF_in (f := vh (lfH nm cd (h 3)) c n N1 0) N1
    omega
end TRN9
section TRN2
variable {lines odds parts walkers bands sided st wk pc wd acts : Int} {steps speeds paces carried aP aS l h p a b c : Int → Int} {F : Nat}
variable {held width size wdt many cells : Int → Int} {num : Int → Int → Int}
theorem lookT (hF : 1000 ≤ F) {x : Int} {nm : Int → Int} (hx : 0 ≤ x ∧ x < 4) (hm : 0 ≤ many x ∧ many x ≤ 60) (hc : ∀ i, 0 ≤ i → i < many x → cells (60 * x + i) = nm i ∧ r64 (nm i)) :
    ((∀ i, 0 ≤ i → i < many x → 0 ≤ nm i ∧ nm i ≤ 9999) → ml_X9_whyNotTurn_58 F x 0 cells many = some 0) ∧ ((∃ i, (0 ≤ i ∧ i < many x) ∧ ¬ (0 ≤ nm i ∧ nm i ≤ 9999)) → ml_X9_whyNotTurn_58 F x 0 cells many = some (-2)) := by
  have main := loopN_rec (body := fun (k : Int → Option (Int)) q => mb_X9_whyNotTurn_58 F k x q cells many) (I := fun q : Int => 0 ≤ q ∧ q ≤ many x ∧ ∀ i, 0 ≤ i → i < q → 0 ≤ nm i ∧ nm i ≤ 9999) (μ := fun q => (many x - q).toNat) (P := fun q y => ((∀ i, 0 ≤ i → i < many x → 0 ≤ nm i ∧ nm i ≤ 9999) → y = some 0) ∧ ((∃ i, (0 ≤ i ∧ i < many x) ∧ ¬ (0 ≤ nm i ∧ nm i ≤ 9999)) → y = some (-2))) ?_ F 0 ?_ ?_
  · exact main
  · rintro k q ⟨q0, q1, hq⟩ ih
    unfold mb_X9_whyNotTurn_58
    rw [chk_pos hx, ifI_le (by omega) (by omega)]
    by_cases h1 : many x ≤ q
    · rw [if_pos h1]
      exact ⟨fun _ => rfl, fun ⟨i, hi, hn⟩ => absurd (hq i hi.1 (by omega)) hn⟩
    · have hcq := hc q q0 (by omega)
      rw [if_neg h1, chk_pos (by omega), hcq.1, in_spec hcq.2 (by decide) (by decide), bnd1_s, ifB]
      by_cases h2 : 0 ≤ nm q ∧ nm q ≤ 9999
      · rw [if_pos h2]
        exact ih (q + 1) ⟨by omega, by omega, fun i i0 i1 => by
          by_cases e : i = q
          · rw [e]; exact h2
          · exact hq i i0 (by omega)⟩ (by omega)
      · rw [if_neg h2]
        exact ⟨fun z => absurd (z q q0 (by omega)) h2, fun _ => rfl⟩
  · exact ⟨by omega, hm.1, fun i i0 i1 => by omega⟩
  · omega
/-- both sides of a turn's question -/
theorem turning_pair (hF : 100000 ≤ F) (L : LayN lines odds parts steps speeds walkers paces bands carried sided st wk pc wd acts aP aS l h p a b c) (S : SlotR held width size num wdt many cells) {x1 x2 : Int} (hx1 : r32 x1) (hx2 : r32 x2) (u1 u2 u3 u4 u5 : Int) (f1 f2 : Int → Int) (gl : Int → Int → Int) :
    (∃ r, (r = -2 ∨ r = -6) ∧ m_X8_openTurning F x1 x2 lines bands carried held size num u1 u2 u3 u4 u5 f1 f2 gl = some (r, u1, u2, u3, u4, u5, f1, f2, gl) ∧ m_X9_whyNotTurn F x1 x2 cells l many wdt = some r) ∨
    (∃ n N1 o4 o5 o6 ch' o8, m_X8_openTurning F x1 x2 lines bands carried held size num u1 u2 u3 u4 u5 f1 f2 gl = some (0, n, (if n = 0 then 0 else mnF (vh (lfH (num x1) carried (h 3)) x2 n N1 0) N1), (if n = 0 then 0 else trs (vh (lfH (num x1) carried (h 3)) x2 n N1) x2 N1 (n - 1).toNat), o4, o5, o6, ch', o8) ∧ m_X9_whyNotTurn F x1 x2 cells l many wdt = some 0 ∧ TrnQ x1 n x2 N1 (num x1) carried b h cells many ∧ ∀ j : Nat, (j : Int) < n → ch' j = chs (vh (lfH (num x1) carried (h 3)) x2 n N1) x2 N1 j) := by
  obtain ⟨⟨e0, l0, l1⟩, -, -, -, ⟨e3, b0, b4⟩, -, -, -, -, hbd, -⟩ := id L
  unfold m_X8_openTurning m_X9_whyNotTurn
  rw [isSlot8_spec hx1, bnd1_s, ifB, chk_pos hx2, isOut_spec (by omega) (by decide) (by decide), bnd1_s, ifB, isThere_spec (by omega), bnd1_s, ifB, isSlot9_spec hx1, bnd1_s, ifB, chk_pos hx2, in_spec (by omega) (by decide) (by decide), bnd1_s, ifB, isStair_spec (by omega), bnd1_s, ifB, e0]
  by_cases h1 : 0 ≤ x1 ∧ x1 ≤ 3
  · by_cases h2 : 0 ≤ x2 ∧ x2 ≤ 9999
    · by_cases h3 : 0 < lines
      · rw [if_pos h1, if_neg (show ¬ ¬ (0 ≤ x2 ∧ x2 ≤ 9999) from fun z => z h2), if_pos h3, if_pos h1, if_pos h2, if_pos h3]
        simp only [chk_pos (show 0 ≤ x1 ∧ x1 < 4 by omega)]
        rcases S x1 h1.1 (by omega) with ⟨g1, g2⟩ | ⟨g1, g2, g3, g4, g5, g6⟩
        · rw [g1, g2, if_pos rfl, if_pos rfl]
          exact Or.inl ⟨-6, Or.inr rfl, rfl, rfl⟩
        · have hmod : (size x1).tmod 2 = size x1 % 2 := Int.tmod_eq_emod_of_nonneg g5.1
          rw [g1, g2, if_neg one0, ifI_eq (a := width x1) (b := -1) (by omega) (by decide), if_neg (show ¬ width x1 = -1 by omega), g4]
          simp only [chk_pos (show dv32 (size x1) 2 by omega)]
          rw [hmod, ifI_eq (a := size x1 % 2) (b := 0) (by omega) (by decide), ifI_eq (a := size x1 % 2) (b := 0) (by omega) (by decide)]
          by_cases h5 : size x1 % 2 = 0
          · have lk := lookT (F := F) (cells := cells) (many := many) (by omega) (x := x1) (nm := num x1) (by omega) (by omega) (fun i i0 i1 => g6 i i0 (by omega))
            obtain ⟨r, er, hr⟩ := hasOut1 (F := F) (by omega) (hi := 9999) (size := size x1) (num := num x1) (by decide) g5 (fun i i0 i1 => (g6 i i0 i1).2)
            rw [if_pos h5, if_pos h5, er, bnd1_s]
            rcases hr with ⟨rfl, hr⟩ | ⟨rfl, hr⟩
            · have hN := sets_in (b := h 3) (by omega)
              have hcl : ∀ i, 0 ≤ i → i < size x1 → cells (60 * x1 + i) = num x1 i := fun i i0 i1 => (g6 i i0 i1).1
              obtain ⟨o4, o5, o6, ch', LF', ep, hch⟩ := plan_spec (F := F) (by omega) (bands := h 3) (N1 := (shlI 1 (h 3) - 1).toNat) (c := x2) (cd := carried) (nm := num x1) (n := size x1 / 2) (by omega) (by omega) h2 (fun i i0 i1 => (hbd i i0 (by omega)).2) (by omega) (fun i i0 i1 => ⟨hr (2 * i) (by omega) (by omega), hr (2 * i + 1) (by omega) (by omega)⟩) (size := size x1) (by omega) f1 f2 gl
              rw [if_pos rfl, show m_X7_plan F x2 (size x1) bands (num x1) carried f1 f2 gl = m_X7_plan F x2 (size x1) (h 3) (num x1) carried f1 f2 gl by rw [e3], ep, bnd8_s, lk.1 (fun i i0 i1 => hr i i0 (by omega))]
              refine Or.inr ⟨_, _, _, _, _, _, _, rfl, rfl, ⟨by omega, by omega, h2, by omega, by omega, by omega, fun i i0 i1 => ?_, fun i i0 i1 => ?_⟩, hch⟩
              · have := hbd i i0 (by omega)
                exact this
              · have := hr i i0 (by omega)
                exact ⟨hcl i i0 (by omega), this⟩
            · rw [if_neg one0, lk.2 (by rw [g4]; exact hr)]
              exact Or.inl ⟨-2, Or.inl rfl, rfl, rfl⟩
          · rw [if_neg h5, if_neg h5]
            exact Or.inl ⟨-2, Or.inl rfl, rfl, rfl⟩
      · rw [if_pos h1, if_neg (show ¬ ¬ (0 ≤ x2 ∧ x2 ≤ 9999) from fun z => z h2), if_neg h3, if_pos h1, if_pos h2, if_neg h3]
        exact Or.inl ⟨-2, Or.inl rfl, rfl, rfl⟩
    · rw [if_pos h1, if_pos h2, if_pos h1, if_neg h2]
      exact Or.inl ⟨-2, Or.inl rfl, rfl, rfl⟩
  · rw [if_neg h1, if_neg h1]
    exact Or.inl ⟨-2, Or.inl rfl, rfl, rfl⟩
/-- turn -/
theorem op_turn (hF : 100000 ≤ F) (L : LayN lines odds parts steps speeds walkers paces bands carried sided st wk pc wd acts aP aS l h p a b c) (S : SlotR held width size num wdt many cells) {x1 x2 : Int} (hx1 : r32 x1) (hx2 : r32 x2) (u1 u2 u3 u4 u5 : Int) (f1 f2 : Int → Int) (gl : Int → Int → Int) (LL : Int → Int) : Eq1 (m_X8_turn F x1 x2 lines bands carried held size num u1 u2 u3 u4 u5 f1 f2 gl) (m_X9_turn F x1 x2 b cells h LL l many wdt) := by
  unfold m_X8_turn m_X9_turn
  rcases turning_pair hF L S hx1 hx2 u1 u2 u3 u4 u5 f1 f2 gl with ⟨r, hr, k1, k2⟩ | ⟨n, N1, o4, o5, o6, ch', o8, k1, k2, Q, hch⟩
  · rw [k1, k2, bnd9_s, bnd1_s, ifI_eq (a := r) (b := 0) (by omega) (by decide), ifI_eq (a := r) (b := 0) (by omega) (by decide), if_neg (show ¬ r = 0 by omega), if_neg (show ¬ r = 0 by omega)]
    exact Eq1.mk
  · obtain ⟨LL', e, hLL⟩ := laysTurn_spec (F := F) (by omega) Q LL
    rw [k1, k2, bnd9_s, bnd1_s, if_pos rfl, if_pos rfl, e, bnd1_s, turnOf_spec (by omega) Q hLL, bnd1_s]
    exact Eq1.mk
/-- turned -/
theorem op_turned (hF : 100000 ≤ F) (L : LayN lines odds parts steps speeds walkers paces bands carried sided st wk pc wd acts aP aS l h p a b c) (S : SlotR held width size num wdt many cells) {x1 x2 x3 : Int} (hx1 : r32 x1) (hx2 : r32 x2) (hx3 : r32 x3) (u1 u2 u3 u4 u5 v1 : Int) (f1 f2 : Int → Int) (gl : Int → Int → Int) (LL : Int → Int) : Eq1 (m_X8_turned F x1 x2 x3 lines bands carried held size num u1 u2 u3 u4 u5 f1 f2 gl) (m_X9_turned F x1 x2 x3 v1 b cells h LL l many wdt) := by
  unfold m_X8_turned m_X9_turned
  rcases turning_pair hF L S hx1 hx2 u1 u2 u3 u4 u5 f1 f2 gl with ⟨r, hr, k1, k2⟩ | ⟨n, N1, o4, o5, o6, ch', o8, k1, k2, Q, hch⟩
  · rw [k1, k2, bnd9_s, bnd1_s, ifI_eq (a := r) (b := 0) (by omega) (by decide), ifI_eq (a := r) (b := 0) (by omega) (by decide), if_neg (show ¬ r = 0 by omega), if_neg (show ¬ r = 0 by omega)]
    exact Eq1.mk
  · obtain ⟨-, hn, -⟩ := id Q
    obtain ⟨LL', e, hLL⟩ := laysTurn_spec (F := F) (by omega) Q LL
    rw [k1, k2, bnd9_s, bnd1_s, if_pos rfl, if_pos rfl, chk_pos hx3, chk_pos (by omega), isOut_spec (by omega) (by decide) (by omega), bnd1_s, ifB, chk_pos hx3, hours_spec Q, bnd1_s, chk_pos (show r32 (n - 1) by omega), in_spec (by omega) (by decide) (by omega), bnd1_s, ifB]
    by_cases h1 : 0 ≤ x3 ∧ x3 ≤ n - 1
    · have hc := hch x3.toNat (by omega)
      rw [show ((x3.toNat : Nat) : Int) = x3 by omega] at hc
      rw [if_neg (show ¬ ¬ (0 ≤ x3 ∧ x3 ≤ n - 1) from fun z => z h1), if_pos h1, chk_pos (by omega), hc, e, bnd1_s, turnedIn_spec (by omega) Q hLL (by omega), bnd2_s]
      exact Eq1.mk
    · rw [if_pos h1, if_neg h1]
      exact Eq1.mk
/-- turnings -/
theorem op_turnings (hF : 100000 ≤ F) (L : LayN lines odds parts steps speeds walkers paces bands carried sided st wk pc wd acts aP aS l h p a b c) (S : SlotR held width size num wdt many cells) {x1 x2 : Int} (hx1 : r32 x1) (hx2 : r32 x2) (u1 u2 u3 u4 u5 v1 : Int) (f1 f2 : Int → Int) (gl : Int → Int → Int) (LL : Int → Int) : Eq1 (m_X8_turnings F x1 x2 lines bands carried held size num u1 u2 u3 u4 u5 f1 f2 gl) (m_X9_turnings F x1 x2 v1 b cells h LL l many wdt) := by
  unfold m_X8_turnings m_X9_turnings
  rcases turning_pair hF L S hx1 hx2 u1 u2 u3 u4 u5 f1 f2 gl with ⟨r, hr, k1, k2⟩ | ⟨n, N1, o4, o5, o6, ch', o8, k1, k2, Q, hch⟩
  · rw [k1, k2, bnd9_s, bnd1_s, ifI_eq (a := r) (b := 0) (by omega) (by decide), ifI_eq (a := r) (b := 0) (by omega) (by decide), if_neg (show ¬ r = 0 by omega), if_neg (show ¬ r = 0 by omega)]
    exact Eq1.mk
  · obtain ⟨-, hn, -⟩ := id Q
    obtain ⟨LL', e, hLL⟩ := laysTurn_spec (F := F) (by omega) Q LL
    rw [k1, k2, bnd9_s, bnd1_s, if_pos rfl, if_pos rfl, hours_spec Q, bnd1_s, ifI_eq (a := n) (b := 0) (by omega) (by decide)]
    by_cases h1 : n = 0
    · simp only [if_pos h1]
      exact Eq1.mk
    · simp only [if_neg h1]
      rw [e, bnd1_s, bnd1_s, turnedIn_spec (by omega) Q hLL (by omega), bnd2_s]
      exact Eq1.mk
end TRN2
