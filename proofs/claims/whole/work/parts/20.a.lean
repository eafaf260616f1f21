/-! STAIR: the words, numbers and signs of a text -/
def knd (c : Int) : Int := if 97 ≤ c ∧ c ≤ 122 then 1 else if 48 ≤ c ∧ c ≤ 57 then 2 else if c = 59 then 3 else 4
/-- the letters as a number -/
def wc (f : Int → Int) (p : Int) : Nat → Int
  | 0 => 0
  | k + 1 => if 11 < k then -1 else 27 * wc f p k + f (p + (k : Int)) - 96
theorem wc_in {f : Int → Int} {p : Int} : ∀ k : Nat, (∀ i, 0 ≤ i → i < (k : Int) → 97 ≤ f (p + i) ∧ f (p + i) ≤ 122) → (12 < k ∧ wc f p k = -1) ∨ (k ≤ 12 ∧ 0 ≤ wc f p k ∧ (0 < k → 0 < wc f p k) ∧ wc f p k < 27 ^ k)
  | 0, _ => Or.inr ⟨by decide, Int.le_refl _, fun h => by omega, (by decide : (0 : Int) < 27 ^ 0)⟩
  | k + 1, h => by
    have ih := wc_in (f := f) (p := p) k (fun i a b => h i a (by omega))
    have hk := h k (by omega) (by omega)
    unfold wc
    by_cases h1 : 11 < k
    · rw [if_pos h1]
      exact Or.inl ⟨by omega, rfl⟩
    · rw [if_neg h1]
      rcases ih with ⟨z, -⟩ | ⟨z1, z2, z3, z4⟩
      · omega
      · refine Or.inr ⟨by omega, by omega, fun _ => by omega, ?_⟩
        have e : (27 : Int) ^ (k + 1) = 27 * 27 ^ k := by rw [Int.pow_succ, Int.mul_comm]
        rw [e]
        generalize (27 : Int) ^ k = P at z4 ⊢
        omega
theorem wc_inj {f g : Int → Int} {p q : Int} : ∀ m k : Nat, m ≤ 12 → (∀ i, 0 ≤ i → i < (k : Int) → 97 ≤ f (p + i) ∧ f (p + i) ≤ 122) → (∀ i, 0 ≤ i → i < (m : Int) → 97 ≤ g (q + i) ∧ g (q + i) ≤ 122) → (wc f p k = wc g q m ↔ k = m ∧ ∀ i, 0 ≤ i → i < (m : Int) → f (p + i) = g (q + i))
  | 0, k, _, hf, _ => by
    have h := wc_in (f := f) (p := p) k hf
    show wc f p k = 0 ↔ _
    constructor
    · intro e
      refine ⟨by omega, fun i a b => by omega⟩
    · intro e
      rw [e.1]
      rfl
  | m + 1, 0, hm, _, hg => by
    have h := wc_in (f := g) (p := q) (m + 1) hg
    constructor
    · intro e
      have : wc f p 0 = 0 := rfl
      omega
    · intro e
      omega
  | m + 1, k + 1, hm, hf, hg => by
    have ih := wc_inj (f := f) (g := g) (p := p) (q := q) m k (by omega) (fun i a b => hf i a (by omega)) (fun i a b => hg i a (by omega))
    have h1 := hf k (by omega) (by omega)
    have h2 := hg m (by omega) (by omega)
    have h3 := wc_in (f := g) (p := q) (m + 1) hg
    by_cases hk : 11 < k
    · have : wc f p (k + 1) = -1 := by
        unfold wc
        rw [if_pos hk]
      constructor
      · intro e
        omega
      · intro e
        omega
    · have e1 : wc f p (k + 1) = 27 * wc f p k + f (p + (k : Int)) - 96 := by
        show (if 11 < k then _ else _) = _
        rw [if_neg hk]
      have e2 : wc g q (m + 1) = 27 * wc g q m + g (q + (m : Int)) - 96 := by
        show (if 11 < m then _ else _) = _
        rw [if_neg (by omega)]
      rw [e1, e2]
      constructor
      · intro e
        have a1 : wc f p k = wc g q m := by omega
        have a2 : f (p + (k : Int)) = g (q + (m : Int)) := by omega
        obtain ⟨b1, b2⟩ := ih.mp a1
        refine ⟨by omega, fun i i0 i1 => ?_⟩
        by_cases z : i = (m : Int)
        · rw [z]
          rw [b1] at a2
          exact a2
        · exact b2 i i0 (by omega)
      · rintro ⟨b1, b2⟩
        have a1 := ih.mpr ⟨by omega, fun i i0 i1 => b2 i i0 (by omega)⟩
        have a2 := b2 m (by omega) (by omega)
        rw [a1, show k = m by omega, a2]
/-- the digits as a number, as the component holds it -/
def nv (f : Int → Int) (p : Int) : Nat → Int
  | 0 => 0
  | k + 1 => min 1000000 (nv f p k * 10 + f (p + (k : Int)) - 48)
def VR (x y : Int) : Prop := (x = y ∧ 0 ≤ x ∧ x < 1000000) ∨ (x = 1000000 ∧ 1000000 ≤ y ∧ y ≤ 1000009)
theorem VR.step {x y d : Int} (h : VR x y) (hd : 48 ≤ d ∧ d ≤ 57) : VR (min 1000000 (x * 10 + d - 48)) (if y ≤ 100000 then 10 * y + d - 48 else 1000000) := by
  unfold VR at h ⊢
  split <;> omega
theorem nv_in {f : Int → Int} {p : Int} : ∀ k : Nat, (∀ i, 0 ≤ i → i < (k : Int) → 48 ≤ f (p + i) ∧ f (p + i) ≤ 57) → 0 ≤ nv f p k ∧ nv f p k ≤ 1000000
  | 0, _ => by
    unfold nv
    omega
  | k + 1, h => by
    have ih := nv_in (f := f) (p := p) k (fun i a b => h i a (by omega))
    have hk := h k (by omega) (by omega)
    unfold nv
    omega
/-- a token from fr to un -/
def TokR (n : Int) (f : Int → Int) (kd fr un va wo : Int) : Prop :=
  (0 ≤ fr ∧ fr ≤ un ∧ un ≤ n) ∧ ((kd = 0 ∧ fr = n) ∨ (kd = 1 ∧ fr < un ∧ (∀ i, 0 ≤ i → i < un - fr → 97 ≤ f (fr + i) ∧ f (fr + i) ≤ 122) ∧ wo = wc f fr (un - fr).toNat) ∨ (kd = 2 ∧ fr < un ∧ (∀ i, 0 ≤ i → i < un - fr → 48 ≤ f (fr + i) ∧ f (fr + i) ≤ 57) ∧ VR (nv f fr (un - fr).toNat) va) ∨ (kd = 3 ∧ fr < un) ∨ (kd = 4 ∧ fr < un))
section LEX
variable {F : Nat} {n : Int} {f g : Int → Int}
theorem kindAt_spec (T : TapeR n f g) {i : Int} (hi : 0 ≤ i ∧ i ≤ n) : m_X4_kindAt F i n f = some (if i < n then knd (f i) else 0) := by
  have hn := T.1
  unfold m_X4_kindAt mb_X4_kindAt_35 mb_X4_kindAt_49
  rw [ifI_lt (by omega) (by decide), if_neg (by omega), ifI_lt (by omega) (by omega)]
  by_cases h1 : i < n
  · have hb := T.2 i hi.1 h1
    rw [if_pos h1, if_pos h1, chk_pos (by omega)]
    simp only [nam]
    unfold knd
    rw [ifI_lt (by omega) (by decide), ifI_lt (a := 122) (by decide) (by omega), ifI_lt (by omega) (by decide), ifI_lt (a := 57) (by decide) (by omega), ifI_eq (by omega) (by decide)]
    generalize f i = z at hb ⊢
    repeat' split
    all_goals first
      | rfl
      | (exfalso; omega)
  · rw [if_neg h1, if_neg h1]
theorem isByte_spec (T : TapeR n f g) {i lo hi : Int} (h : 0 ≤ i ∧ i ≤ n) (hl : r32 lo) (hh : r32 hi) : m_X9_isByte F i lo hi n g = some (bI (i < n ∧ lo ≤ f i ∧ f i ≤ hi)) := by
  have hn := T.1
  unfold m_X9_isByte bI
  rw [ifI_le (by omega) (by omega)]
  by_cases h1 : n ≤ i
  · rw [if_pos h1, if_neg (by omega)]
  · have hb := T.2 i h.1 (by omega)
    rw [if_neg h1, chk_pos (by omega), ← hb.1, ifI_lt (by omega) hl, ifI_lt hh (by omega)]
    by_cases c1 : f i < lo
    · rw [if_pos c1, if_neg (by omega)]
    · rw [if_neg c1, chk_pos (by omega)]
      by_cases c2 : hi < f i
      · rw [if_pos c2, if_neg (by omega)]
      · rw [if_neg c2, if_pos (by omega)]
theorem run_comp (hF : 1000 ≤ F) (T : TapeR n f g) {kd fr : Int} (hk : kd = 1 ∨ kd = 2) (h0 : 0 ≤ fr) {P : Option (Int × Int × Int) → Prop} {i : Int} (hi : fr ≤ i ∧ i ≤ n) (hP : ∀ u, i ≤ u → u ≤ n → (∀ j, i ≤ j → j < u → knd (f j) = kd) → (u = n ∨ knd (f u) ≠ kd) → P (some (kd, fr, u))) : P (ml_X4_advance_65 F i n kd fr f) := by
  have hn := T.1
  unfold ml_X4_advance_65
  refine loopN_rec (I := fun q : Int => (i ≤ q ∧ q ≤ n) ∧ ∀ j, i ≤ j → j < q → knd (f j) = kd) (μ := fun q => (n - q).toNat) (P := fun q y => P y) ?_ F i ?_ ?_
  · rintro k q ⟨hq, hj⟩ ih
    unfold mb_X4_advance_65 mb_X4_advance_89 mb_X4_advance_107
    rw [ifI_le (by omega) (by omega), kindAt_spec T (by omega), bnd1_s]
    by_cases h1 : n ≤ q
    · rw [if_pos h1]
      exact hP q hq.1 hq.2 hj (Or.inl (by omega))
    · have hkr : r32 (knd (f q)) := by
        unfold knd
        split
        · omega
        · split
          · omega
          · split <;> omega
      rw [if_neg h1, if_pos (show q < n by omega), ifI_eq (a := knd (f q)) (b := kd) hkr (by omega)]
      have go : P (if knd (f q) = kd then k (q + 1) else some (kd, fr, q)) := by
        by_cases h2 : knd (f q) = kd
        · rw [if_pos h2]
          refine ih _ ⟨by omega, fun j a b => ?_⟩ (by omega)
          by_cases e : j = q
          · rw [e]
            exact h2
          · exact hj j a (by omega)
        · rw [if_neg h2]
          exact hP q hq.1 hq.2 hj (Or.inr h2)
      rcases hk with z | z
      · rw [if_pos (by rw [z])]
        exact go
      · rw [ifI_eq (a := kd) (b := 1) (by omega) (by decide), if_neg (by omega), ifI_eq (a := kd) (b := 2) (by omega) (by decide), if_pos z]
        exact go
  · exact ⟨by omega, fun j a b => by omega⟩
  · omega
end LEX
section LEX2
variable {F : Nat} {n : Int} {f g : Int → Int}
theorem end_uniq {Q : Int → Prop} {i u u' : Int} (hu : i ≤ u ∧ u ≤ n) (hu' : i ≤ u' ∧ u' ≤ n) (h1 : ∀ j, i ≤ j → j < u → Q j) (h2 : u = n ∨ ¬ Q u) (h1' : ∀ j, i ≤ j → j < u' → Q j) (h2' : u' = n ∨ ¬ Q u') : u = u' := by
  rcases Int.lt_trichotomy u u' with z | z | z
  · rcases h2 with y | y
    · omega
    · exact absurd (h1' u hu.1 z) y
  · exact z
  · rcases h2' with y | y
    · omega
    · exact absurd (h1 u' hu'.1 z) y
def blk (f : Int → Int) (j : Int) : Prop := f j = 32 ∨ f j = 10
theorem skip8 (hF : 1000 ≤ F) (T : TapeR n f g) {i : Int} (hi : 0 ≤ i ∧ i ≤ n) : ∃ s, (i ≤ s ∧ s ≤ n) ∧ (∀ j, i ≤ j → j < s → blk f j) ∧ (s = n ∨ ¬ blk f s) ∧ m_X4_advance F n i f = mb_X4_advance_41 F s n f := by
  have hn := T.1
  unfold m_X4_advance ml_X4_advance_5
  refine loopN_rec (I := fun q : Int => (i ≤ q ∧ q ≤ n) ∧ ∀ j, i ≤ j → j < q → blk f j) (μ := fun q => (n - q).toNat) (P := fun q y => ∃ s, (i ≤ s ∧ s ≤ n) ∧ (∀ j, i ≤ j → j < s → blk f j) ∧ (s = n ∨ ¬ blk f s) ∧ y = mb_X4_advance_41 F s n f) ?_ F i ?_ ?_
  · rintro k q ⟨hq, hj⟩ ih
    unfold mb_X4_advance_5 mb_X4_advance_35
    rw [ifI_le (by omega) (by omega)]
    by_cases h1 : n ≤ q
    · rw [if_pos h1]
      exact ⟨q, hq, hj, Or.inl (by omega), rfl⟩
    · have hb := T.2 q (by omega) (by omega)
      rw [if_neg h1, chk_pos (by omega), ifI_eq (by omega) (by decide), chk_pos (by omega), ifI_eq (a := f q) (b := 10) (by omega) (by decide)]
      have nxt : blk f q → ∃ s, (i ≤ s ∧ s ≤ n) ∧ (∀ j, i ≤ j → j < s → blk f j) ∧ (s = n ∨ ¬ blk f s) ∧ k (q + 1) = mb_X4_advance_41 F s n f := fun hbl => ih _ ⟨by omega, fun j a b => by
        by_cases e : j = q
        · rw [e]
          exact hbl
        · exact hj j a (by omega)⟩ (by omega)
      by_cases h2 : f q = 32
      · rw [if_pos h2]
        exact nxt (Or.inl h2)
      · rw [if_neg h2]
        by_cases h3 : f q = 10
        · rw [if_pos h3]
          exact nxt (Or.inr h3)
        · rw [if_neg h3]
          exact ⟨q, hq, hj, Or.inr (fun z => by rcases z with z | z <;> omega), rfl⟩
  · exact ⟨by omega, fun j a b => by omega⟩
  · omega
/-- what the reference does behind the blanks -/
def nx (F : Nat) (n s : Int) (g : Int → Int) : Option (Int × Int × Int × Int × Int) :=
  if wI s = wI n then
    (some (s, 0, s, 0, 0))
  else
    (bnd1 (m_X9_isByte F s 97 122 n g) fun r5 => if wI r5 = wI 0 then
    (bnd1 (m_X9_isByte F s 48 57 n g) fun r7 => if wI r7 = wI 0 then
    (chk (0 ≤ s ∧ s < 900) <| if wI (g s) = wI 59 then
    (mb_X9_next_294 F 3 s s 0 0)
  else
    (mb_X9_next_294 F 4 s s 0 0))
  else
    (ml_X9_next_208 F n s 2 s 0 0 g))
  else
    (ml_X9_next_102 F 0 n s 1 s 0 0 g))
theorem skip9 (hF : 1000 ≤ F) (T : TapeR n f g) {i : Int} (hi : 0 ≤ i ∧ i ≤ n) : ∃ s, (i ≤ s ∧ s ≤ n) ∧ (∀ j, i ≤ j → j < s → blk f j) ∧ (s = n ∨ ¬ blk f s) ∧ m_X9_next F n i g = nx F n s g := by
  have hn := T.1
  unfold m_X9_next ml_X9_next_0
  refine loopN_rec (I := fun q : Int => (i ≤ q ∧ q ≤ n) ∧ ∀ j, i ≤ j → j < q → blk f j) (μ := fun q => (n - q).toNat) (P := fun q y => ∃ s, (i ≤ s ∧ s ≤ n) ∧ (∀ j, i ≤ j → j < s → blk f j) ∧ (s = n ∨ ¬ blk f s) ∧ y = nx F n s g) ?_ F i ?_ ?_
  · rintro k q ⟨hq, hj⟩ ih
    unfold mb_X9_next_0 mb_X9_next_30
    simp only [nam]
    rw [isByte_spec T (lo := 32) (hi := 32) (by omega) (by decide) (by decide), bnd1_s, ifB, isByte_spec T (lo := 10) (hi := 10) (by omega) (by decide) (by decide), bnd1_s, ifB]
    have nxt : q < n → blk f q → ∃ s, (i ≤ s ∧ s ≤ n) ∧ (∀ j, i ≤ j → j < s → blk f j) ∧ (s = n ∨ ¬ blk f s) ∧ k (q + 1) = nx F n s g := fun hqn hbl => ih _ ⟨by omega, fun j a b => by
      by_cases e : j = q
      · rw [e]
        exact hbl
      · exact hj j a (by omega)⟩ (by omega)
    by_cases h2 : q < n ∧ 32 ≤ f q ∧ f q ≤ 32
    · rw [if_pos h2]
      exact nxt h2.1 (Or.inl (by omega))
    · rw [if_neg h2]
      by_cases h3 : q < n ∧ 10 ≤ f q ∧ f q ≤ 10
      · rw [if_pos h3]
        exact nxt h3.1 (Or.inr (by omega))
      · rw [if_neg h3]
        refine ⟨q, hq, hj, ?_, rfl⟩
        by_cases e : q = n
        · exact Or.inl e
        · exact Or.inr (fun z => by rcases z with z | z <;> omega)
  · exact ⟨by omega, fun j a b => by omega⟩
  · omega
theorem word9 (hF : 1000 ≤ F) (T : TapeR n f g) {fr : Int} (h0 : 0 ≤ fr ∧ fr ≤ n) : ∃ u, (fr ≤ u ∧ u ≤ n) ∧ (∀ j, fr ≤ j → j < u → knd (f j) = 1) ∧ (u = n ∨ ¬ knd (f u) = 1) ∧ ml_X9_next_102 F 0 n fr 1 fr 0 0 g = some (u, 1, fr, 0, wc f fr (u - fr).toNat) := by
  have hn := T.1
  have hk : ∀ c, knd c = 1 ↔ 97 ≤ c ∧ c ≤ 122 := fun c => by
    unfold knd
    repeat' split
    all_goals omega
  unfold ml_X9_next_102
  refine loopN_rec (I := fun q : Int × Int × Int => (0 ≤ q.1 ∧ q.2.1 = fr + q.1 ∧ q.2.1 ≤ n) ∧ (∀ j, fr ≤ j → j < q.2.1 → knd (f j) = 1) ∧ q.2.2 = wc f fr q.1.toNat) (μ := fun q => (n - q.2.1).toNat) (P := fun q y => ∃ u, (fr ≤ u ∧ u ≤ n) ∧ (∀ j, fr ≤ j → j < u → knd (f j) = 1) ∧ (u = n ∨ ¬ knd (f u) = 1) ∧ y = some (u, 1, fr, 0, wc f fr (u - fr).toNat)) ?_ F (0, fr, 0) ?_ ?_
  · rintro k ⟨m, q, w⟩ ⟨hq, hj, hw⟩ ih
    simp only at hq hj hw ih ⊢
    unfold mb_X9_next_102 mb_X9_next_153 mb_X9_next_169
    simp only [nam]
    rw [isByte_spec T (by omega) (by decide) (by decide), bnd1_s, ifB]
    by_cases h1 : q < n ∧ 97 ≤ f q ∧ f q ≤ 122
    · have hb := T.2 q (by omega) h1.1
      rw [if_pos h1, ifI_le (by omega) (by decide)]
      have hst : wc f fr (m + 1).toNat = if 11 < m.toNat then -1 else 27 * wc f fr m.toNat + f q - 96 := by
        rw [show (m + 1).toNat = m.toNat + 1 by omega]
        show (if 11 < m.toNat then _ else _) = _
        rw [show fr + ((m.toNat : Nat) : Int) = q by omega]
      have go : ∀ w', w' = wc f fr (m + 1).toNat → ∃ u, (fr ≤ u ∧ u ≤ n) ∧ (∀ j, fr ≤ j → j < u → knd (f j) = 1) ∧ (u = n ∨ ¬ knd (f u) = 1) ∧ k (m + 1, q + 1, w') = some (u, 1, fr, 0, wc f fr (u - fr).toNat) := fun w' hw' => ih _ ⟨by simp only; omega, fun j a b => by
        simp only at b
        by_cases e : j = q
        · rw [e]
          exact (hk _).mpr h1.2
        · exact hj j a (by omega), hw'⟩ (by simp only; omega)
      by_cases h2 : m ≤ 11
      · rw [if_pos h2, chk_pos (by omega), chk_pos (by omega), ifI_le (by omega) (by decide), if_pos h2, ← hb.1]
        refine go _ ?_
        rw [hst, if_neg (by omega), hw]
      · rw [if_neg h2, ifI_le (by omega) (by decide), if_neg h2]
        refine go _ ?_
        rw [hst, if_pos (by omega)]
    · rw [if_neg h1]
      refine ⟨q, by omega, hj, ?_, by rw [hw, show (q - fr).toNat = m.toNat by omega]⟩
      by_cases e : q = n
      · exact Or.inl e
      · refine Or.inr (fun z => ?_)
        have := (hk _).mp z
        omega
  · exact ⟨by simp only; omega, fun j a b => by simp only at b; omega, rfl⟩
  · simp only
    omega
theorem num9 (hF : 1000 ≤ F) (T : TapeR n f g) {fr : Int} (h0 : 0 ≤ fr ∧ fr ≤ n) : ∃ u va, (fr ≤ u ∧ u ≤ n) ∧ (∀ j, fr ≤ j → j < u → knd (f j) = 2) ∧ (u = n ∨ ¬ knd (f u) = 2) ∧ ml_X9_next_208 F n fr 2 fr 0 0 g = some (u, 2, fr, va, 0) ∧ VR (nv f fr (u - fr).toNat) va := by
  have hn := T.1
  have hk : ∀ c, knd c = 2 ↔ 48 ≤ c ∧ c ≤ 57 := fun c => by
    unfold knd
    repeat' split
    all_goals omega
  unfold ml_X9_next_208
  refine loopN_rec (I := fun q : Int × Int => (fr ≤ q.1 ∧ q.1 ≤ n) ∧ (∀ j, fr ≤ j → j < q.1 → knd (f j) = 2) ∧ VR (nv f fr (q.1 - fr).toNat) q.2) (μ := fun q => (n - q.1).toNat) (P := fun q y => ∃ u va, (fr ≤ u ∧ u ≤ n) ∧ (∀ j, fr ≤ j → j < u → knd (f j) = 2) ∧ (u = n ∨ ¬ knd (f u) = 2) ∧ y = some (u, 2, fr, va, 0) ∧ VR (nv f fr (u - fr).toNat) va) ?_ F (fr, 0) ?_ ?_
  · rintro k ⟨q, va⟩ ⟨hq, hj, hv⟩ ih
    simp only at hq hj hv ih ⊢
    unfold mb_X9_next_208 mb_X9_next_258
    simp only [nam]
    rw [isByte_spec T (by omega) (by decide) (by decide), bnd1_s, ifB]
    by_cases h1 : q < n ∧ 48 ≤ f q ∧ f q ≤ 57
    · have hb := T.2 q (by omega) h1.1
      have hvr : r32 va := by
        rcases hv with z | z <;> omega
      rw [if_pos h1, ifI_le hvr (by decide)]
      have hst : nv f fr (q + 1 - fr).toNat = min 1000000 (nv f fr (q - fr).toNat * 10 + f q - 48) := by
        rw [show (q + 1 - fr).toNat = (q - fr).toNat + 1 by omega]
        show min 1000000 (nv f fr (q - fr).toNat * 10 + f (fr + (((q - fr).toNat : Nat) : Int)) - 48) = _
        rw [show fr + (((q - fr).toNat : Nat) : Int) = q by omega]
      have hs := hv.step h1.2
      rw [← hst] at hs
      have go : ∀ w', w' = (if va ≤ 100000 then 10 * va + f q - 48 else 1000000) → ∃ u va, (fr ≤ u ∧ u ≤ n) ∧ (∀ j, fr ≤ j → j < u → knd (f j) = 2) ∧ (u = n ∨ ¬ knd (f u) = 2) ∧ k (q + 1, w') = some (u, 2, fr, va, 0) ∧ VR (nv f fr (u - fr).toNat) va := fun w' hw' => ih _ ⟨by simp only; omega, fun j a b => by
        simp only at b
        by_cases e : j = q
        · rw [e]
          exact (hk _).mpr h1.2
        · exact hj j a (by omega), by rw [hw']; exact hs⟩ (by simp only; omega)
      by_cases h2 : va ≤ 100000
      · rw [if_pos h2, chk_pos (by omega), ← hb.1]
        exact go _ (by rw [if_pos h2])
      · rw [if_neg h2]
        exact go _ (by rw [if_neg h2])
    · rw [if_neg h1]
      refine ⟨q, va, by omega, hj, ?_, rfl, hv⟩
      by_cases e : q = n
      · exact Or.inl e
      · refine Or.inr (fun z => ?_)
        have := (hk _).mp z
        omega
  · refine ⟨by simp only; omega, fun j a b => by simp only at b; omega, ?_⟩
    simp only
    rw [show (fr - fr).toNat = 0 by omega]
    exact Or.inl ⟨rfl, (by decide : (0 : Int) ≤ 0), (by decide : (0 : Int) < 1000000)⟩
  · simp only
    omega
/-- the next token, on both sides -/
theorem next_pair (hF : 1000 ≤ F) (T : TapeR n f g) {un : Int} (hu : 0 ≤ un ∧ un ≤ n) : ∃ kd fr un' va wo, m_X4_advance F n un f = some (kd, fr, un') ∧ m_X9_next F n un g = some (un', kd, fr, va, wo) ∧ TokR n f kd fr un' va wo ∧ un ≤ fr := by
  have hn := T.1
  obtain ⟨s, a1, a2, a3, a4⟩ := skip8 hF T hu
  obtain ⟨s', b1, b2, b3, b4⟩ := skip9 hF T hu
  obtain rfl := end_uniq a1 b1 a2 a3 b2 b3
  rw [a4, b4]
  unfold mb_X4_advance_41 nx
  rw [kindAt_spec T (by omega), bnd1_s, ifI_eq (a := s) (b := n) (by omega) (by omega)]
  by_cases h1 : s = n
  · rw [if_pos h1, if_neg (show ¬ s < n by omega), if_pos rfl]
    unfold ml_X4_advance_65
    obtain ⟨F', rfl⟩ : ∃ F', F = F' + 1 := ⟨F - 1, by omega⟩
    show ∃ kd fr un' va wo, mb_X4_advance_65 (F' + 1) _ s n 0 s f = _ ∧ _
    unfold mb_X4_advance_65 mb_X4_advance_107
    rw [ifI_le (by omega) (by omega), if_pos (by omega)]
    exact ⟨0, s, s, 0, 0, rfl, rfl, ⟨by omega, Or.inl ⟨rfl, h1⟩⟩, a1.1⟩
  · have hb := T.2 s (by omega) (by omega)
    have hkr : 1 ≤ knd (f s) ∧ knd (f s) ≤ 4 := by
      unfold knd
      repeat' split
      all_goals omega
    rw [if_neg h1, if_pos (show s < n by omega), ifI_eq (a := knd (f s)) (b := 0) (by omega) (by decide), if_neg (by omega), isByte_spec T (by omega) (by decide) (by decide), bnd1_s, ifB, isByte_spec T (by omega) (by decide) (by decide), bnd1_s, ifB]
    by_cases h2 : s < n ∧ 97 ≤ f s ∧ f s ≤ 122
    · have hk : knd (f s) = 1 := by
        unfold knd
        rw [if_pos h2.2]
      have hk1 : ∀ c, knd c = 1 ↔ 97 ≤ c ∧ c ≤ 122 := fun c => by
        unfold knd
        repeat' split
        all_goals omega
      rw [if_pos h2, hk]
      obtain ⟨u, c1, c2, c3, c4⟩ := word9 hF T (fr := s) (by omega)
      rw [c4]
      refine run_comp hF T (kd := 1) (fr := s) (Or.inl rfl) (by omega) (P := fun y => ∃ kd fr un' va wo, y = some (kd, fr, un') ∧ some (u, (1 : Int), s, (0 : Int), wc f s (u - s).toNat) = some (un', kd, fr, va, wo) ∧ TokR n f kd fr un' va wo ∧ un ≤ fr) (i := s + 1) (by omega) (fun u' d1 d2 d3 d4 => ?_)
      have e : u' = u := end_uniq (n := n) (Q := fun j => knd (f j) = 1) (i := s) (by omega) c1 (fun j x y => by
        by_cases z : j = s
        · rw [z]
          exact hk
        · exact d3 j (by omega) y) d4 c2 c3
      subst e
      exact ⟨1, s, u', 0, _, rfl, rfl, ⟨by omega, Or.inr (Or.inl ⟨rfl, by omega, fun i x y => (hk1 _).mp (c2 (s + i) (by omega) (by omega)), rfl⟩)⟩, a1.1⟩
    · rw [if_neg h2]
      by_cases h3 : s < n ∧ 48 ≤ f s ∧ f s ≤ 57
      · have hk : knd (f s) = 2 := by
          unfold knd
          rw [if_neg (by omega), if_pos h3.2]
        have hk1 : ∀ c, knd c = 2 ↔ 48 ≤ c ∧ c ≤ 57 := fun c => by
          unfold knd
          repeat' split
          all_goals omega
        rw [if_pos h3, hk]
        obtain ⟨u, va, c1, c2, c3, c4, c5⟩ := num9 hF T (fr := s) (by omega)
        rw [c4]
        refine run_comp hF T (kd := 2) (fr := s) (Or.inr rfl) (by omega) (P := fun y => ∃ kd fr un' va' wo, y = some (kd, fr, un') ∧ some (u, (2 : Int), s, va, (0 : Int)) = some (un', kd, fr, va', wo) ∧ TokR n f kd fr un' va' wo ∧ un ≤ fr) (i := s + 1) (by omega) (fun u' d1 d2 d3 d4 => ?_)
        have e : u' = u := end_uniq (n := n) (Q := fun j => knd (f j) = 2) (i := s) (by omega) c1 (fun j x y => by
          by_cases z : j = s
          · rw [z]
            exact hk
          · exact d3 j (by omega) y) d4 c2 c3
        subst e
        exact ⟨2, s, u', va, _, rfl, rfl, ⟨by omega, Or.inr (Or.inr (Or.inl ⟨rfl, by omega, fun i x y => (hk1 _).mp (c2 (s + i) (by omega) (by omega)), c5⟩))⟩, a1.1⟩
      · rw [if_neg h3, chk_pos (by omega), ← hb.1, ifI_eq (a := f s) (b := 59) (by omega) (by decide)]
        unfold mb_X9_next_294
        simp only [nam]
        have hk : knd (f s) = if f s = 59 then 3 else 4 := by
          unfold knd
          rw [if_neg (by omega), if_neg (by omega)]
        unfold ml_X4_advance_65
        obtain ⟨F', rfl⟩ : ∃ F', F = F' + 1 := ⟨F - 1, by omega⟩
        show ∃ kd fr un' va wo, mb_X4_advance_65 (F' + 1) _ (s + 1) n (knd (f s)) s f = _ ∧ _
        unfold mb_X4_advance_65 mb_X4_advance_107
        have k34 : knd (f s) = 3 ∨ knd (f s) = 4 := by
          rw [hk]
          split <;> omega
        rw [ifI_eq (a := knd (f s)) (b := 1) (by omega) (by decide), if_neg (show ¬ knd (f s) = 1 by omega), ifI_eq (a := knd (f s)) (b := 2) (by omega) (by decide), if_neg (show ¬ knd (f s) = 2 by omega)]
        have same : (if wI n ≤ wI (s + 1) then some (knd (f s), s, s + 1) else some (knd (f s), s, s + 1)) = some (knd (f s), s, s + 1) := by split <;> rfl
        rw [same]
        by_cases h4 : f s = 59
        · rw [if_pos h4] at hk
          rw [if_pos h4, hk]
          exact ⟨3, s, s + 1, 0, 0, rfl, rfl, ⟨by omega, Or.inr (Or.inr (Or.inr (Or.inl ⟨rfl, by omega⟩)))⟩, a1.1⟩
        · rw [if_neg h4] at hk
          rw [if_neg h4, hk]
          exact ⟨4, s, s + 1, 0, 0, rfl, rfl, ⟨by omega, Or.inr (Or.inr (Or.inr (Or.inr ⟨rfl, by omega⟩)))⟩, a1.1⟩
end LEX2
