/-! WAYS -/
theorem sm_up0 {f : Int → Int} {s x : Int} : ∀ k : Nat, sm (up f s x) k = sm f k + (if 0 ≤ s ∧ s < (k : Int) then x - f s else 0)
  | 0 => by
    rw [if_neg (by omega)]
    rfl
  | k + 1 => by
    show sm (up f s x) k + up f s x (k : Int) = sm f k + f (k : Int) + _
    rw [sm_up0 k]
    by_cases e : (k : Int) = s
    · rw [e, up_at, if_neg (by omega), if_pos (by omega)]
      omega
    · rw [up_ne e]
      by_cases z : 0 ≤ s ∧ s < (k : Int)
      · rw [if_pos z, if_pos (by omega)]
        omega
      · rw [if_neg z, if_neg (by omega)]
        omega
def OkB (W A N k : Nat) : Prop := ∀ i, i < N → (k.testBit i = true → W.testBit i = true) ∧ (k.testBit i = false → A.testBit i = true)
theorem land_not0 {p q N : Nat} (hp : p < 2 ^ N) (hq : q < 2 ^ N) : (p &&& (2 ^ N - (q + 1))) = 0 ↔ ∀ i, i < N → p.testBit i = true → q.testBit i = true := by
  constructor
  · intro h i hi hb
    have := congrArg (fun z => z.testBit i) h
    simp only [Nat.testBit_and, Nat.testBit_two_pow_sub_succ hq, Nat.zero_testBit, hb, decide_eq_true hi, Bool.true_and] at this
    simpa using this
  · intro h
    refine Nat.eq_of_testBit_eq (fun i => ?_)
    rw [Nat.testBit_and, Nat.testBit_two_pow_sub_succ hq, Nat.zero_testBit]
    by_cases hi : i < N
    · cases hb : p.testBit i
      · rfl
      · rw [h i hi hb]
        simp
    · rw [Nat.testBit_lt_two_pow (Nat.lt_of_lt_of_le hp (Nat.pow_le_pow_right (by decide) (by omega)))]
      rfl
theorem bit_high {p N i : Nat} (hp : p < 2 ^ N) (hi : ¬ i < N) : p.testBit i = false := Nat.testBit_lt_two_pow (Nat.lt_of_lt_of_le hp (Nat.pow_le_pow_right (by decide) (by omega)))
theorem ok_full {W A N k : Nat} (hW : W < 2 ^ N) (hA : A < 2 ^ N) (h : OkB W A N k) : (W ||| A) = 2 ^ N - 1 := by
  refine Nat.eq_of_testBit_eq (fun i => ?_)
  rw [Nat.testBit_or, Nat.testBit_two_pow_sub_one]
  by_cases hi : i < N
  · rw [decide_eq_true hi]
    cases hb : k.testBit i
    · rw [(h i hi).2 hb, Bool.or_true]
    · rw [(h i hi).1 hb, Bool.true_or]
  · rw [bit_high hW hi, bit_high hA hi, decide_eq_false hi]
    rfl
theorem ok_iff {W A N k : Nat} (hW : W < 2 ^ N) (hA : A < 2 ^ N) (hf : (W ||| A) = 2 ^ N - 1) : (∃ t, (t &&& (W &&& A)) = t ∧ k = ((W &&& (2 ^ N - (A + 1))) ||| t)) ↔ (k < 2 ^ N ∧ OkB W A N k) := by
  have hor : ∀ i, i < N → (W.testBit i || A.testBit i) = true := fun i hi => by
    rw [← Nat.testBit_or, hf, Nat.testBit_two_pow_sub_one, decide_eq_true hi]
  constructor
  · rintro ⟨t, ht, rfl⟩
    have htb : ∀ i, t.testBit i = true → W.testBit i = true ∧ A.testBit i = true := fun i hb => by
      rw [← ht, Nat.testBit_and, Nat.testBit_and] at hb
      simp only [Bool.and_eq_true] at hb
      exact hb.2
    have htl : t < 2 ^ N := by
      rw [← ht]
      exact Nat.and_lt_two_pow _ (Nat.and_lt_two_pow _ hA)
    refine ⟨Nat.or_lt_two_pow (Nat.lt_of_le_of_lt Nat.and_le_left hW) htl, fun i hi => ?_⟩
    rw [Nat.testBit_or, Nat.testBit_and, Nat.testBit_two_pow_sub_succ hA, decide_eq_true hi]
    constructor
    · intro h
      simp only [Bool.or_eq_true, Bool.and_eq_true] at h
      rcases h with h | h
      · exact h.1
      · exact (htb i h).1
    · intro h
      have h2 := hor i hi
      simp only [Bool.or_eq_false_iff, Bool.true_and] at h
      cases hw : W.testBit i
      · rw [hw] at h2
        simpa using h2
      · rw [hw] at h
        simpa using h.1
  · rintro ⟨hk, h⟩
    refine ⟨k &&& (W &&& A), ?_, Nat.eq_of_testBit_eq (fun i => ?_)⟩
    · refine Nat.eq_of_testBit_eq (fun i => ?_)
      simp only [Nat.testBit_and]
      cases k.testBit i <;> cases W.testBit i <;> cases A.testBit i <;> rfl
    · rw [Nat.testBit_or, Nat.testBit_and, Nat.testBit_and, Nat.testBit_and, Nat.testBit_two_pow_sub_succ hA]
      by_cases hi : i < N
      · obtain ⟨h1, h2⟩ := h i hi
        rw [decide_eq_true hi]
        cases hb : k.testBit i
        · rw [h2 hb]
          simp
        · rw [h1 hb]
          cases A.testBit i <;> rfl
      · rw [bit_high hk hi, bit_high hW hi]
        rfl
theorem land_two {a b r s : Nat} (hr : r < 2) (hs : s < 2) : (r + 2 * a) &&& (s + 2 * b) = (r &&& s) + 2 * (a &&& b) := by
  have h1 := Nat.and_mod_two_pow (a := r + 2 * a) (b := s + 2 * b) (n := 1)
  have h2 := Nat.and_div_two_pow (a := r + 2 * a) (b := s + 2 * b) (n := 1)
  rw [show (2 : Nat) ^ 1 = 2 by decide, show (r + 2 * a) % 2 = r by omega, show (s + 2 * b) % 2 = s by omega] at h1
  rw [show (2 : Nat) ^ 1 = 2 by decide, show (r + 2 * a) / 2 = a by omega, show (s + 2 * b) / 2 = b by omega] at h2
  omega
/-- the next smaller part of the free ones -/
theorem next_sub : ∀ (N : Nat) (f p t : Nat), p < 2 ^ N → (p &&& f) = p → (t &&& f) = t → t < p → t ≤ (p - 1 &&& f)
  | 0, f, p, t, hp, _, _, h => by
    rw [show (2 : Nat) ^ 0 = 1 by decide] at hp
    omega
  | N + 1, f, p, t, hp, h1, h2, h => by
    obtain ⟨f0, fr, hf0, rfl⟩ : ∃ f0 fr, f0 < 2 ∧ f = f0 + 2 * fr := ⟨f % 2, f / 2, by omega, by omega⟩
    obtain ⟨p0, pr, hp0, rfl⟩ : ∃ p0 pr, p0 < 2 ∧ p = p0 + 2 * pr := ⟨p % 2, p / 2, by omega, by omega⟩
    obtain ⟨t0, tr, ht0, rfl⟩ : ∃ t0 tr, t0 < 2 ∧ t = t0 + 2 * tr := ⟨t % 2, t / 2, by omega, by omega⟩
    rw [land_two hp0 hf0] at h1
    rw [land_two ht0 hf0] at h2
    have q1 : (p0 &&& f0) ≤ p0 := Nat.and_le_left
    have q2 : (t0 &&& f0) ≤ t0 := Nat.and_le_left
    have a1 : (pr &&& fr) = pr := by omega
    have a2 : (tr &&& fr) = tr := by omega
    have a3 : (t0 &&& f0) = t0 := by omega
    have a4 : t0 ≤ f0 := by rw [← a3]; exact Nat.and_le_right
    rw [Nat.pow_succ] at hp
    rcases (show p0 = 1 ∨ p0 = 0 by omega) with e | e
    · subst e
      rw [show 1 + 2 * pr - 1 = 0 + 2 * pr by omega, land_two (by decide) hf0, a1, Nat.zero_and]
      omega
    · subst e
      have := next_sub N fr pr tr (by omega) a1 a2 (by omega)
      rw [show 0 + 2 * pr - 1 = 1 + 2 * (pr - 1) by omega, land_two (by decide) hf0]
      have b : (1 &&& f0) = f0 := by
        rcases (show f0 = 0 ∨ f0 = 1 by omega) with z | z <;> rw [z] <;> rfl
      omega
section WAY
variable {F : Nat} {x n : Int} {pa wa co cells many : Int → Int}
def Row01 (po : Int → Int) : Prop := ∀ k : Nat, k < 1024 → po (k : Int) = 0 ∨ po (k : Int) = 1
theorem markWays_spec (hF : 100000 ≤ F) {W A N : Nat} (hN : N ≤ 10) (hW : W < 2 ^ N) (hA : A < 2 ^ N) (hf : (W ||| A) = 2 ^ N - 1) {po : Int → Int} (hp : Row01 po) : ∃ r po', m_X0_markWays F (W : Int) (A : Int) po = some (r, po') ∧ r = sm po' 1024 - sm po 1024 ∧ Row01 po' ∧ ∀ k : Nat, k < 1024 → (po' (k : Int) = 1 ↔ po (k : Int) = 1 ∨ (k < 2 ^ N ∧ OkB W A N k)) := by
  have h10 : (2 : Nat) ^ N ≤ 2 ^ 10 := Nat.pow_le_pow_right (by decide) hN
  have hl : (W &&& A) < 2 ^ N := Nat.and_lt_two_pow _ hA
  have hx : (W &&& (2 ^ N - (A + 1))) < 2 ^ N := Nat.lt_of_le_of_lt Nat.and_le_left hW
  unfold m_X0_markWays
  simp only [nam]
  rw [and_n (by omega) (by omega), andn_n (n := N) (by omega) hW hA]
  have hok : ∀ k : Nat, (∃ t, (t &&& (W &&& A)) = t ∧ k = ((W &&& (2 ^ N - (A + 1))) ||| t)) ↔ (k < 2 ^ N ∧ OkB W A N k) := fun k => ok_iff hW hA hf
  generalize (W &&& A) = fr at hl hok ⊢
  generalize (W &&& (2 ^ N - (A + 1))) = fx at hx hok ⊢
  have sub : ∀ t, (t &&& fr) = t → t < 2 ^ N := fun t ht => by
    rw [← ht]
    exact Nat.and_lt_two_pow _ hl
  have bd : ∀ po : Int → Int, Row01 po → 0 ≤ sm po 1024 ∧ sm po 1024 ≤ 1 * 1024 := fun po h => sm_in 1024 (fun i i0 i1 => by
    have := h i.toNat (by omega)
    rw [show ((i.toNat : Nat) : Int) = i by omega] at this
    omega)
  unfold ml_X0_markWays_20
  refine loopN_rec (I := fun q : Int × Int × Int × (Int → Int) => ∃ p : Nat, q.2.1 = (p : Int) ∧ (0 ≤ q.2.2.1 ∧ q.2.2.1 + p ≤ 1023) ∧ (p &&& fr) = p ∧ q.1 = sm q.2.2.2 1024 - sm po 1024 ∧ Row01 q.2.2.2 ∧ ∀ k : Nat, k < 1024 → (q.2.2.2 (k : Int) = 1 ↔ po (k : Int) = 1 ∨ ∃ t, (t &&& fr) = t ∧ p < t ∧ k = (fx ||| t))) (μ := fun q => q.2.1.toNat) (P := fun q y => ∃ r po', y = some (r, po') ∧ r = sm po' 1024 - sm po 1024 ∧ Row01 po' ∧ ∀ k : Nat, k < 1024 → (po' (k : Int) = 1 ↔ po (k : Int) = 1 ∨ (k < 2 ^ N ∧ OkB W A N k))) ?_ F (0, (fr : Int), 0, po) ?_ ?_
  · rintro kk ⟨fo, pi, i, g⟩ ⟨p, hpi, hi, hpf, hfo, hg, hgk⟩ ih
    simp only at hpi hi hfo hg hgk ih ⊢
    have hpl := sub p hpf
    have hy : (fx ||| p) < 2 ^ N := Nat.or_lt_two_pow hx hpl
    have b0 := bd g hg
    have b1 := bd po hp
    unfold mb_X0_markWays_20
    simp only [nam]
    rw [hpi, or_n (by omega) (by omega), ifI_le (by decide) (by omega), if_neg (by omega), ifI_le (by decide) (by omega), if_neg (by omega), chk_pos (by omega), chk_pos (by omega)]
    have go : ∀ fo' g', fo' = sm g' 1024 - sm po 1024 → Row01 g' → (∀ k : Nat, k < 1024 → (g' (k : Int) = 1 ↔ po (k : Int) = 1 ∨ ∃ t, (t &&& fr) = t ∧ p ≤ t ∧ k = (fx ||| t))) → ∃ r po', mb_X0_markWays_68 F (fun y0 y1 y2 y3 => kk (y0, y1, y2, y3)) (fr : Int) (fx : Int) fo' (p : Int) i g' = some (r, po') ∧ r = sm po' 1024 - sm po 1024 ∧ Row01 po' ∧ ∀ k : Nat, k < 1024 → (po' (k : Int) = 1 ↔ po (k : Int) = 1 ∨ (k < 2 ^ N ∧ OkB W A N k)) := by
      intro fo' g' h1 h2 h3
      unfold mb_X0_markWays_68
      rw [ifI_eq (by omega) (by decide)]
      by_cases h0 : (p : Int) = 0
      · rw [if_pos h0]
        refine ⟨fo', g', rfl, h1, h2, fun k hk => ?_⟩
        rw [h3 k hk, ← hok k]
        constructor
        · rintro (z | ⟨t, z1, z2, z3⟩)
          · exact Or.inl z
          · exact Or.inr ⟨t, z1, z3⟩
        · rintro (z | ⟨t, z1, z3⟩)
          · exact Or.inl z
          · exact Or.inr ⟨t, z1, by omega, z3⟩
      · rw [if_neg h0]
        simp only [nam]
        rw [show (p : Int) - 1 = ((p - 1 : Nat) : Int) by omega, and_n (by omega) (by omega)]
        have hlt : (p - 1 &&& fr) ≤ p - 1 := Nat.and_le_left
        refine ih _ ⟨(p - 1 &&& fr), rfl, by simp only; omega, ?_, h1, h2, fun k hk => ?_⟩ (by simp only; omega)
        · rw [Nat.and_assoc, Nat.and_self]
        · simp only
          rw [h3 k hk]
          constructor
          · rintro (z | ⟨t, z1, z2, z3⟩)
            · exact Or.inl z
            · exact Or.inr ⟨t, z1, by omega, z3⟩
          · rintro (z | ⟨t, z1, z2, z3⟩)
            · exact Or.inl z
            · refine Or.inr ⟨t, z1, ?_, z3⟩
              rcases Nat.lt_or_ge t p with z4 | z4
              · have := next_sub N fr p t hpl hpf z1 z4
                omega
              · exact z4
    have hgy := hg (fx ||| p) (by omega)
    rw [ifI_eq (a := g ((fx ||| p : Nat) : Int)) (b := 0) (by omega) (by decide)]
    by_cases h5 : g ((fx ||| p : Nat) : Int) = 0
    · rw [if_pos h5]
      have hs := sm_up0 (f := g) (s := ((fx ||| p : Nat) : Int)) (x := 1) 1024
      rw [if_pos (by omega), h5] at hs
      refine go _ _ (by omega) (fun k hk => ?_) (fun k hk => ?_)
      · by_cases e : (k : Int) = ((fx ||| p : Nat) : Int)
        · rw [e, up_at]
          exact Or.inr rfl
        · rw [up_ne e]
          exact hg k hk
      · by_cases e : (k : Int) = ((fx ||| p : Nat) : Int)
        · rw [e, up_at]
          exact ⟨fun _ => Or.inr ⟨p, hpf, Nat.le_refl _, by omega⟩, fun _ => rfl⟩
        · rw [up_ne e, hgk k hk]
          constructor
          · rintro (z | ⟨t, z1, z2, z3⟩)
            · exact Or.inl z
            · exact Or.inr ⟨t, z1, by omega, z3⟩
          · rintro (z | ⟨t, z1, z2, z3⟩)
            · exact Or.inl z
            · refine Or.inr ⟨t, z1, ?_, z3⟩
              rcases Nat.lt_or_ge p t with z4 | z4
              · exact z4
              · exfalso
                apply e
                rw [z3, show t = p by omega]
    · rw [if_neg h5]
      refine go _ _ hfo hg (fun k hk => ?_)
      rw [hgk k hk]
      constructor
      · rintro (z | ⟨t, z1, z2, z3⟩)
        · exact Or.inl z
        · exact Or.inr ⟨t, z1, by omega, z3⟩
      · rintro (z | ⟨t, z1, z2, z3⟩)
        · exact Or.inl z
        · rcases Nat.lt_or_ge p t with z4 | z4
          · exact Or.inr ⟨t, z1, z4, z3⟩
          · have e : t = p := by omega
            subst e
            subst z3
            exact (hgk _ hk).mp (by omega)
  · refine ⟨fr, rfl, by simp only; omega, Nat.and_self _, by simp only; omega, hp, fun k hk => ?_⟩
    simp only
    constructor
    · exact Or.inl
    · rintro (z | ⟨t, z1, z2, z3⟩)
      · exact z
      · exfalso
        have : (t &&& fr) ≤ fr := Nat.and_le_right
        omega
  · simp only
    omega
end WAY
section WAY2
variable {F : Nat} {x n : Int} {pa wa co cells many : Int → Int}
def wW (pa co : Int → Int) (N : Nat) (s v : Int) : Nat := bsN (fb pa (fun _ => 1) co s v) N
def wA (pa co : Int → Int) (N : Nat) (s v : Int) : Nat := bsN (fb pa (fun _ => -1) co s v) N
def PosR (pa co : Int → Int) (N M : Nat) (V : Int → Int → Prop) (po : Int → Int) : Prop := ∀ k : Nat, k < M → (po (k : Int) = 0 ∨ po (k : Int) = 1) ∧ (po (k : Int) = 1 ↔ k < 2 ^ N ∧ ∃ s v, V s v ∧ OkB (wW pa co N s v) (wA pa co N s v) N k)
theorem PosR.weak {N M : Nat} {V V' : Int → Int → Prop} {po : Int → Int} (h : PosR pa co N M V po) (hv : ∀ s v, V s v ↔ V' s v) : PosR pa co N M V' po := fun k hk => ⟨(h k hk).1, by
  rw [(h k hk).2]
  constructor
  · rintro ⟨z, s, v, z1, z2⟩
    exact ⟨z, s, v, (hv s v).mp z1, z2⟩
  · rintro ⟨z, s, v, z1, z2⟩
    exact ⟨z, s, v, (hv s v).mpr z1, z2⟩⟩
theorem possible_spec (hF : 100000 ≤ F) (hC : Cnt n pa wa co) (h10 : n ≤ 10) (u1 u2 : Int) (f1 f2 f3 : Int → Int) : ∃ po o1 o2 g1 g2, m_X0_possibleWays F n u1 u2 f1 co pa f2 f3 = some (sm po 1024, o1, o2, g1, po, g2) ∧ PosR pa co n.toNat 1024 (fun s v => (1 ≤ s ∧ s ≤ 200) ∧ 0 ≤ v ∧ v ≤ 30) po := by
  have hn := hC.1
  have hp : (2 : Nat) ^ n.toNat ≤ 2 ^ 10 := Nat.pow_le_pow_right (by decide) (by omega)
  have hp0 : 0 < (2 : Nat) ^ n.toNat := Nat.pow_pos (by decide)
  have hsh : shlI 1 n - 1 = ((2 ^ n.toNat - 1 : Nat) : Int) := by
    have := shl_n (k := n.toNat) (by omega)
    rw [show ((n.toNat : Nat) : Int) = n by omega] at this
    omega
  obtain ⟨p0, e0, hp0'⟩ := fill_int (F := F) (n := 1024) (by decide) hF (x := 0) (f := f2)
  have e0 : m_J7_fill_53178 F 1024 0 f2 = some p0 := e0
  unfold m_X0_possibleWays
  rw [ifI_le (by omega) (by decide), if_pos h10, e0, bnd1_s]
  simp only [nam]
  rw [hsh]
  unfold ml_X0_possibleWays_32
  refine loopN_rec (I := fun q : Int × Int × Int × Int × (Int → Int) × (Int → Int) × (Int → Int) => (0 ≤ q.2.1 ∧ q.2.1 ≤ 31) ∧ q.1 = sm q.2.2.2.2.2.1 1024 ∧ PosR pa co n.toNat 1024 (fun s v => (1 ≤ s ∧ s ≤ 200) ∧ 0 ≤ v ∧ v < q.2.1) q.2.2.2.2.2.1) (μ := fun q => (31 - q.2.1).toNat) (P := fun q y => ∃ po o1 o2 g1 g2, y = some (sm po 1024, o1, o2, g1, po, g2) ∧ PosR pa co n.toNat 1024 (fun s v => (1 ≤ s ∧ s ≤ 200) ∧ 0 ≤ v ∧ v ≤ 30) po) ?_ F (0, 0, u1, u2, f1, p0, f3) ?_ ?_
  · rintro k ⟨fo, v, w1, w2, ag, po, wi⟩ ⟨hv, hfo, hR⟩ ih
    simp only at hv hfo hR ih ⊢
    unfold mb_X0_possibleWays_32
    rw [ifI_lt (by decide) (by omega)]
    by_cases h1 : 30 < v
    · rw [if_pos h1]
      exact ⟨po, _, _, _, _, by rw [hfo], hR.weak (fun s v' => by omega)⟩
    · obtain ⟨t1, e1, ht1⟩ := fill_int (F := F) (n := 201) (by decide) hF (x := 0) (f := wi)
      have e1 : m_J7_fill_53178 F 201 0 wi = some t1 := e1
      obtain ⟨t2, e2, ht2⟩ := fill_int (F := F) (n := 201) (by decide) hF (x := 0) (f := ag)
      have e2 : m_J7_fill_53178 F 201 0 ag = some t2 := e2
      rw [if_neg h1, e1, bnd1_s, e2, bnd1_s]
      unfold ml_X0_possibleWays_57
      refine loopN_rec (I := fun q : Int × Int × Int × (Int → Int) × (Int → Int) => (0 ≤ q.1 ∧ q.1 ≤ n) ∧ ∀ s, 1 ≤ s → s ≤ 200 → q.2.2.2.2 s = ((wW pa co q.1.toNat s v : Nat) : Int) ∧ q.2.2.2.1 s = ((wA pa co q.1.toNat s v : Nat) : Int)) (μ := fun q => (n - q.1).toNat) (P := fun q y => ∃ po o1 o2 g1 g2, y = some (sm po 1024, o1, o2, g1, po, g2) ∧ PosR pa co n.toNat 1024 (fun s v => (1 ≤ s ∧ s ≤ 200) ∧ 0 ≤ v ∧ v ≤ 30) po) ?_ F (0, w1, w2, t2, t1) ?_ ?_
      · rintro k2 ⟨i, w3, w4, ag2, wi2⟩ ⟨hi, hM⟩ ih2
        simp only at hi hM ih2 ⊢
        unfold mb_X0_possibleWays_57
        rw [ifI_le (by omega) (by omega)]
        by_cases h2 : n ≤ i
        · rw [if_pos h2]
          rw [show i.toNat = n.toNat by omega] at hM
          unfold ml_X0_possibleWays_99
          refine loopN_rec (I := fun q : Int × Int × (Int → Int) => (1 ≤ q.2.1 ∧ q.2.1 ≤ 201) ∧ q.1 = sm q.2.2 1024 ∧ PosR pa co n.toNat 1024 (fun s' v' => (1 ≤ s' ∧ s' ≤ 200) ∧ 0 ≤ v' ∧ (v' < v ∨ (v' = v ∧ s' < q.2.1))) q.2.2) (μ := fun q => (201 - q.2.1).toNat) (P := fun q y => ∃ po o1 o2 g1 g2, y = some (sm po 1024, o1, o2, g1, po, g2) ∧ PosR pa co n.toNat 1024 (fun s v => (1 ≤ s ∧ s ≤ 200) ∧ 0 ≤ v ∧ v ≤ 30) po) ?_ F (fo, 1, po) ?_ ?_
          · rintro k3 ⟨fo3, s, po3⟩ ⟨hs, hfo3, hR3⟩ ih3
            simp only at hs hfo3 hR3 ih3 ⊢
            unfold mb_X0_possibleWays_99
            simp only [mb_X0_possibleWays_147, nam]
            rw [ifI_lt (by decide) (by omega)]
            by_cases h3 : 200 < s
            · rw [if_pos h3]
              exact ih _ ⟨by simp only; omega, hfo3, hR3.weak (fun s' v' => by simp only; omega)⟩ (by simp only; omega)
            · rw [if_neg h3]
              simp only [chk_pos (show 0 ≤ s ∧ s < 201 by omega)]
              obtain ⟨m1, m2⟩ := hM s (by omega) (by omega)
              have l1 : wW pa co n.toNat s v < 2 ^ n.toNat := bsN_lt _
              have l2 : wA pa co n.toNat s v < 2 ^ n.toNat := bsN_lt _
              have l3 : (wW pa co n.toNat s v ||| wA pa co n.toNat s v) < 2 ^ n.toNat := Nat.or_lt_two_pow l1 l2
              rw [m1, m2, or_n (by omega) (by omega), ifI_eq (by omega) (by omega)]
              by_cases h4 : ((wW pa co n.toNat s v ||| wA pa co n.toNat s v : Nat) : Int) = ((2 ^ n.toNat - 1 : Nat) : Int)
              · obtain ⟨r, po', e, hr, hrow, hpo⟩ := markWays_spec (F := F) hF (N := n.toNat) (by omega) l1 l2 (by omega) (po := po3) (fun k hk => (hR3 k hk).1)
                rw [if_pos h4, e, bnd2_s]
                refine ih3 _ ⟨by simp only; omega, by simp only; omega, fun k hk => ⟨hrow k hk, ?_⟩⟩ (by simp only; omega)
                simp only
                rw [hpo k hk, (hR3 k hk).2]
                constructor
                · rintro (⟨z, s', v', z1, z2⟩ | ⟨z, z2⟩)
                  · exact ⟨z, s', v', by omega, z2⟩
                  · exact ⟨z, s, v, by omega, z2⟩
                · rintro ⟨z, s', v', z1, z2⟩
                  by_cases y : s' = s ∧ v' = v
                  · rw [y.1, y.2] at z2
                    exact Or.inr ⟨z, z2⟩
                  · exact Or.inl ⟨z, s', v', by omega, z2⟩
              · rw [if_neg h4]
                refine ih3 _ ⟨by simp only; omega, hfo3, fun k hk => ⟨(hR3 k hk).1, ?_⟩⟩ (by simp only; omega)
                simp only
                rw [(hR3 k hk).2]
                constructor
                · rintro ⟨z, s', v', z1, z2⟩
                  exact ⟨z, s', v', by omega, z2⟩
                · rintro ⟨z, s', v', z1, z2⟩
                  by_cases y : s' = s ∧ v' = v
                  · rw [y.1, y.2] at z2
                    have := ok_full l1 l2 z2
                    omega
                  · exact ⟨z, s', v', by omega, z2⟩
          · exact ⟨by simp only; omega, hfo, hR.weak (fun s' v' => by simp only; omega)⟩
          · simp only
            omega
        · have hb : ∀ w s, bsN (fb pa w co s v) i.toNat < 2 ^ 20 := fun w s => (ky_bs (by omega)).2
          obtain ⟨o1, o2, t', e, he⟩ := mark_spec (F := F) (by omega) hC (i := i) (w := 1) (v := v) (by omega) (Or.inl rfl) (by omega) (m := fun s => bsN (fb pa (fun _ => 1) co s v) i.toNat) (t := wi2) (fun s a b => ⟨(hM s a b).1, hb _ s⟩)
          obtain ⟨o3, o4, t'', e', he'⟩ := mark_spec (F := F) (by omega) hC (i := i) (w := -1) (v := v) (by omega) (Or.inr rfl) (by omega) (m := fun s => bsN (fb pa (fun _ => -1) co s v) i.toNat) (t := ag2) (fun s a b => ⟨(hM s a b).2, hb _ s⟩)
          rw [if_neg h2, e, bnd3_s, e', bnd3_s]
          refine ih2 _ ⟨by simp only; omega, fun s a b => ?_⟩ (by simp only; omega)
          simp only
          unfold wW wA
          rw [he s a b, he' s a b, bs_s hi.1, bs_s hi.1]
          exact ⟨rfl, rfl⟩
      · refine ⟨by simp only; omega, fun s a b => ?_⟩
        simp only
        rw [ht1 s (by omega) (by omega), ht2 s (by omega) (by omega)]
        exact ⟨rfl, rfl⟩
      · simp only
        omega
  · have hz : ∀ k : Nat, k < 1024 → p0 (k : Int) = 0 := fun k hk => hp0' k (by omega) (by omega)
    refine ⟨by simp only; omega, ?_, fun k hk => ?_⟩
    · simp only
      rw [sm_nil 1024 (fun i i0 i1 => hp0' i i0 i1)]
    · simp only
      rw [hz k hk]
      refine ⟨Or.inl rfl, ⟨fun h => by omega, ?_⟩⟩
      rintro ⟨z, s', v', z1, z2⟩
      omega
  · simp only
    omega
theorem ways9_spec (hF : 100000 ≤ F) (Q : CntQ x n pa wa co cells many) (h10 : n ≤ 10) (g : Int → Int) : ∃ g' g'', ml_X9_ways_28 F x (shlI 1 n) 0 0 cells g many = some (sm g' (2 ^ n.toNat), 0, g'') ∧ PosR pa co n.toNat (2 ^ n.toNat) (fun s v => (1 ≤ s ∧ s ≤ 200) ∧ 0 ≤ v ∧ v ≤ 30) g' := by
  have hn := Q.2.2.1.1
  have hp : (2 : Nat) ^ n.toNat ≤ 2 ^ 10 := Nat.pow_le_pow_right (by decide) (by omega)
  have hp0 : 0 < (2 : Nat) ^ n.toNat := Nat.pow_pos (by decide)
  have hsh : shlI 1 n = ((2 ^ n.toNat : Nat) : Int) := by
    have := shl_n (k := n.toNat) (by omega)
    rw [show ((n.toNat : Nat) : Int) = n by omega] at this
    exact this
  rw [hsh]
  generalize hT : (2 : Nat) ^ n.toNat = T at hp hp0 hsh ⊢
  unfold ml_X9_ways_28
  refine loopN_rec (I := fun q : Int × (Int → Int) => (0 ≤ q.1 ∧ q.1 ≤ T) ∧ ∀ k : Nat, (k : Int) < q.1 → q.2 (k : Int) = 0) (μ := fun q => (T - q.1).toNat) (P := fun q y => ∃ g' g'', y = some (sm g' T, 0, g'') ∧ PosR pa co n.toNat T (fun s v => (1 ≤ s ∧ s ≤ 200) ∧ 0 ≤ v ∧ v ≤ 30) g') ?_ F (0, g) ?_ ?_
  · rintro kk ⟨j, g1⟩ ⟨hj, hz⟩ ih
    simp only at hj hz ih ⊢
    unfold mb_X9_ways_28
    rw [ifI_le (by omega) (by omega)]
    by_cases h0 : (T : Int) ≤ j
    · rw [if_pos h0]
      unfold ml_X9_ways_51
      refine loopN_rec (I := fun q : Int × (Int → Int) => (1 ≤ q.1 ∧ q.1 ≤ 201) ∧ PosR pa co n.toNat T (fun s v => (1 ≤ s ∧ s < q.1) ∧ 0 ≤ v ∧ v ≤ 30) q.2) (μ := fun q => (201 - q.1).toNat) (P := fun q y => ∃ g' g'', y = some (sm g' T, 0, g'') ∧ PosR pa co n.toNat T (fun s v => (1 ≤ s ∧ s ≤ 200) ∧ 0 ≤ v ∧ v ≤ 30) g') ?_ F (1, g1) ?_ ?_
      · rintro k1 ⟨s, g2⟩ ⟨hs, hR⟩ ih1
        simp only at hs hR ih1 ⊢
        unfold mb_X9_ways_51
        rw [ifI_lt (by decide) (by omega)]
        by_cases h1 : 200 < s
        · rw [if_pos h1]
          refine ⟨g2, g2, ?_, hR.weak (fun s' v' => by omega)⟩
          have hb : ∀ k : Nat, k ≤ T → 0 ≤ sm g2 k ∧ sm g2 k ≤ 1 * k := fun k hk => sm_in k (fun i i0 i1 => by
            have := (hR i.toNat (by omega)).1
            rw [show ((i.toNat : Nat) : Int) = i by omega] at this
            omega)
          unfold ml_X9_ways_233
          refine loopN_rec (I := fun q : Int × Int => (0 ≤ q.2 ∧ q.2 ≤ T) ∧ q.1 = sm g2 q.2.toNat) (μ := fun q => (T - q.2).toNat) (P := fun q y => y = some (sm g2 T, 0, g2)) ?_ F (0, 0) ?_ ?_
          · rintro k2 ⟨m, i⟩ ⟨hi, hm⟩ ih2
            simp only at hi hm ih2 ⊢
            unfold mb_X9_ways_233
            simp only [mb_X9_ways_256, nam]
            rw [ifI_le (by omega) (by omega)]
            by_cases h2 : (T : Int) ≤ i
            · rw [if_pos h2, hm, show i.toNat = T by omega]
            · have hgi := (hR i.toNat (by omega)).1
              rw [show ((i.toNat : Nat) : Int) = i by omega] at hgi
              have hst := sm_s (f := g2) hi.1
              rw [if_neg h2, chk_pos (by omega), ifI_eq (by omega) (by decide)]
              by_cases h3 : g2 i = 0
              · rw [if_pos h3]
                exact ih2 (m + 0, i + 1) ⟨by simp only; omega, by simp only; omega⟩ (by simp only; omega)
              · rw [if_neg h3]
                exact ih2 (m + 1, i + 1) ⟨by simp only; omega, by simp only; omega⟩ (by simp only; omega)
          · exact ⟨by simp only; omega, rfl⟩
          · simp only
            omega
        · rw [if_neg h1]
          unfold ml_X9_ways_62
          refine loopN_rec (I := fun q : Int × (Int → Int) => (0 ≤ q.1 ∧ q.1 ≤ 31) ∧ PosR pa co n.toNat T (fun s' v' => 1 ≤ s' ∧ (s' < s ∨ (s' = s ∧ v' < q.1)) ∧ 0 ≤ v' ∧ v' ≤ 30) q.2) (μ := fun q => (31 - q.1).toNat) (P := fun q y => ∃ g' g'', y = some (sm g' T, 0, g'') ∧ PosR pa co n.toNat T (fun s v => (1 ≤ s ∧ s ≤ 200) ∧ 0 ≤ v ∧ v ≤ 30) g') ?_ F (0, g2) ?_ ?_
          · rintro k2 ⟨v, g3⟩ ⟨hv, hR2⟩ ih2
            simp only at hv hR2 ih2 ⊢
            unfold mb_X9_ways_62
            rw [ifI_lt (by decide) (by omega)]
            by_cases h2 : 30 < v
            · rw [if_pos h2]
              exact ih1 _ ⟨by simp only; omega, hR2.weak (fun s' v' => by simp only; omega)⟩ (by simp only; omega)
            · rw [if_neg h2]
              unfold ml_X9_ways_78
              refine loopN_rec (I := fun q : Int × Int × Int => (0 ≤ q.2.2 ∧ q.2.2 ≤ n) ∧ q.1 = ((wW pa co q.2.2.toNat s v : Nat) : Int) ∧ q.2.1 = ((wA pa co q.2.2.toNat s v : Nat) : Int)) (μ := fun q => (n - q.2.2).toNat) (P := fun q y => ∃ g' g'', y = some (sm g' T, 0, g'') ∧ PosR pa co n.toNat T (fun s v => (1 ≤ s ∧ s ≤ 200) ∧ 0 ≤ v ∧ v ≤ 30) g') ?_ F (0, 0, 0) ?_ ?_
              · rintro k3 ⟨c1, c2, i⟩ ⟨hi, hc1, hc2⟩ ih3
                simp only at hi hc1 hc2 ih3 ⊢
                unfold mb_X9_ways_78
                rw [rows_spec Q, bnd1_s, ifI_le (by omega) (by omega)]
                by_cases h3 : n ≤ i
                · rw [show i.toNat = n.toNat by omega] at hc1 hc2
                  have l1 : wW pa co n.toNat s v < 2 ^ n.toNat := bsN_lt _
                  have l2 : wA pa co n.toNat s v < 2 ^ n.toNat := bsN_lt _
                  have l3 : (wW pa co n.toNat s v ||| wA pa co n.toNat s v) < 2 ^ n.toNat := Nat.or_lt_two_pow l1 l2
                  rw [hT] at l3
                  have l1' := l1
                  have l2' := l2
                  rw [hT] at l1' l2'
                  rw [if_pos h3, hc1, hc2, or_n (by omega) (by omega), ifI_eq (by omega) (by omega)]
                  by_cases h4 : ((wW pa co n.toNat s v ||| wA pa co n.toNat s v : Nat) : Int) = (T : Int) - 1
                  · rw [if_pos h4]
                    unfold ml_X9_ways_169
                    refine loopN_rec (I := fun q : Int × (Int → Int) => (0 ≤ q.1 ∧ q.1 ≤ T) ∧ ∀ k : Nat, k < T → (q.2 (k : Int) = 0 ∨ q.2 (k : Int) = 1) ∧ (q.2 (k : Int) = 1 ↔ g3 (k : Int) = 1 ∨ ((k : Int) < q.1 ∧ OkB (wW pa co n.toNat s v) (wA pa co n.toNat s v) n.toNat k))) (μ := fun q => (T - q.1).toNat) (P := fun q y => ∃ g' g'', y = some (sm g' T, 0, g'') ∧ PosR pa co n.toNat T (fun s v => (1 ≤ s ∧ s ≤ 200) ∧ 0 ≤ v ∧ v ≤ 30) g') ?_ F (0, g3) ?_ ?_
                    · rintro k4 ⟨ji, g4⟩ ⟨hji, hg4⟩ ih4
                      simp only at hji hg4 ih4 ⊢
                      obtain ⟨m, rfl⟩ : ∃ m : Nat, ji = (m : Int) := ⟨ji.toNat, by omega⟩
                      unfold mb_X9_ways_169
                      simp only [mb_X9_ways_215, mb_X9_ways_209]
                      rw [ifI_le (by omega) (by omega)]
                      by_cases h5 : (T : Int) ≤ (m : Int)
                      · rw [if_pos h5]
                        refine ih2 _ ⟨by simp only; omega, fun k hk => ⟨(hg4 k hk).1, ?_⟩⟩ (by simp only; omega)
                        simp only
                        rw [(hg4 k hk).2, (hR2 k hk).2]
                        constructor
                        · rintro (⟨z, s', v', z1, z2⟩ | ⟨z, z2⟩)
                          · exact ⟨z, s', v', by omega, z2⟩
                          · exact ⟨by omega, s, v, by omega, z2⟩
                        · rintro ⟨z, s', v', z1, z2⟩
                          by_cases y : s' = s ∧ v' = v
                          · rw [y.1, y.2] at z2
                            exact Or.inr ⟨by omega, z2⟩
                          · exact Or.inl ⟨z, s', v', by omega, z2⟩
                      · have lm : m < 2 ^ n.toNat := by omega
                        have lf : (2 : Nat) ^ n.toNat - 1 < 2 ^ n.toNat := by omega
                        have q1 := andn_n (a := m) (b := wW pa co n.toNat s v) (n := n.toNat) (by omega) lm l1
                        have q2 := andn_n (a := 2 ^ n.toNat - 1) (b := m) (n := n.toNat) (by omega) lf lm
                        have q2' : (2 ^ n.toNat - 1 &&& 2 ^ n.toNat - (m + 1)) = 2 ^ n.toNat - (m + 1) := by
                          rw [Nat.and_comm]
                          exact Nat.and_two_pow_sub_one_of_lt_two_pow (by omega)
                        rw [q2'] at q2
                        have lk : 2 ^ n.toNat - (m + 1) < 2 ^ n.toNat := by omega
                        have q3 := andn_n (a := 2 ^ n.toNat - (m + 1)) (b := wA pa co n.toNat s v) (n := n.toNat) (by omega) lk l2
                        have i1 := land_not0 (p := m) (q := wW pa co n.toNat s v) lm l1
                        have i2 := land_not0 (p := 2 ^ n.toNat - (m + 1)) (q := wA pa co n.toNat s v) lk l2
                        have b1 : (m &&& 2 ^ n.toNat - (wW pa co n.toNat s v + 1)) ≤ m := Nat.and_le_left
                        have b2 : (2 ^ n.toNat - (m + 1) &&& 2 ^ n.toNat - (wA pa co n.toNat s v + 1)) ≤ 2 ^ n.toNat - (m + 1) := Nat.and_le_left
                        have hok : OkB (wW pa co n.toNat s v) (wA pa co n.toNat s v) n.toNat m ↔ ((m &&& 2 ^ n.toNat - (wW pa co n.toNat s v + 1)) = 0 ∧ (2 ^ n.toNat - (m + 1) &&& 2 ^ n.toNat - (wA pa co n.toNat s v + 1)) = 0) := by
                          rw [i1, i2]
                          constructor
                          · intro h
                            refine ⟨fun i hi hb => (h i hi).1 hb, fun i hi hb => (h i hi).2 ?_⟩
                            rw [Nat.testBit_two_pow_sub_succ lm, decide_eq_true hi] at hb
                            simpa using hb
                          · intro h i hi
                            refine ⟨h.1 i hi, fun hb => h.2 i hi ?_⟩
                            rw [Nat.testBit_two_pow_sub_succ lm, decide_eq_true hi, hb]
                            rfl
                        rw [if_neg h5, show (T : Int) - 1 = ((2 ^ n.toNat - 1 : Nat) : Int) by omega, q1, q2, q3]
                        generalize (m &&& 2 ^ n.toNat - (wW pa co n.toNat s v + 1)) = y1 at b1 hok ⊢
                        generalize (2 ^ n.toNat - (m + 1) &&& 2 ^ n.toNat - (wA pa co n.toNat s v + 1)) = y2 at b2 hok ⊢
                        rw [ifI_eq (a := (y1 : Int)) (b := 0) (by omega) (by decide), ifI_eq (a := (y2 : Int)) (b := 0) (by omega) (by decide)]
                        have no : ¬ (y1 = 0 ∧ y2 = 0) → ∃ g' g'', k4 ((m : Int) + 1, g4) = some (sm g' T, 0, g'') ∧ PosR pa co n.toNat T (fun s v => (1 ≤ s ∧ s ≤ 200) ∧ 0 ≤ v ∧ v ≤ 30) g' := fun hno => by
                          refine ih4 _ ⟨by simp only; omega, fun k hk => ⟨(hg4 k hk).1, ?_⟩⟩ (by simp only; omega)
                          simp only
                          rw [(hg4 k hk).2]
                          constructor
                          · rintro (z | ⟨z1, z2⟩)
                            · exact Or.inl z
                            · exact Or.inr ⟨by omega, z2⟩
                          · rintro (z | ⟨z1, z2⟩)
                            · exact Or.inl z
                            · refine Or.inr ⟨?_, z2⟩
                              by_cases y : k = m
                              · rw [y] at z2
                                exact absurd (hok.mp z2) hno
                              · omega
                        by_cases h6 : (y1 : Int) = 0
                        · rw [if_pos h6]
                          by_cases h7 : (y2 : Int) = 0
                          · rw [if_pos h7, chk_pos (by omega)]
                            refine ih4 _ ⟨by simp only; omega, fun k hk => ?_⟩ (by simp only; omega)
                            simp only
                            by_cases y : (k : Int) = (m : Int)
                            · rw [y, up_at]
                              refine ⟨Or.inr rfl, fun _ => Or.inr ⟨by omega, ?_⟩, fun _ => rfl⟩
                              rw [show k = m by omega]
                              exact hok.mpr ⟨by omega, by omega⟩
                            · rw [up_ne y]
                              refine ⟨(hg4 k hk).1, ?_⟩
                              rw [(hg4 k hk).2]
                              constructor
                              · rintro (z | ⟨z1, z2⟩)
                                · exact Or.inl z
                                · exact Or.inr ⟨by omega, z2⟩
                              · rintro (z | ⟨z1, z2⟩)
                                · exact Or.inl z
                                · exact Or.inr ⟨by omega, z2⟩
                          · rw [if_neg h7]
                            exact no (by omega)
                        · rw [if_neg h6]
                          exact no (by omega)
                    · refine ⟨by simp only; omega, fun k hk => ⟨(hR2 k hk).1, ?_⟩⟩
                      simp only
                      constructor
                      · exact Or.inl
                      · rintro (z | ⟨z1, z2⟩)
                        · exact z
                        · omega
                    · simp only
                      omega
                  · rw [if_neg h4]
                    simp only [mb_X9_ways_215]
                    refine ih2 _ ⟨by simp only; omega, fun k hk => ⟨(hR2 k hk).1, ?_⟩⟩ (by simp only; omega)
                    simp only
                    rw [(hR2 k hk).2]
                    constructor
                    · rintro ⟨z, s', v', z1, z2⟩
                      exact ⟨z, s', v', by omega, z2⟩
                    · rintro ⟨z, s', v', z1, z2⟩
                      by_cases y : s' = s ∧ v' = v
                      · rw [y.1, y.2] at z2
                        have := ok_full l1 l2 z2
                        omega
                      · exact ⟨z, s', v', by omega, z2⟩
                · have hb : ∀ w, bsN (fb pa w co s v) i.toNat < 2 ^ 20 := fun w => (ky_bs (by omega)).2
                  have hb1 : wW pa co i.toNat s v < 2 ^ 20 := hb _
                  have hb2 : wA pa co i.toNat s v < 2 ^ 20 := hb _
                  have hsi : shlI 1 i = ((2 ^ i.toNat : Nat) : Int) := by
                    have := shl_n (k := i.toNat) (by omega)
                    rw [show ((i.toNat : Nat) : Int) = i by omega] at this
                    exact this
                  have hpi : (2 : Nat) ^ i.toNat < 2 ^ 20 := Nat.pow_lt_pow_right (by decide) (by omega)
                  have s1 : wW pa co (i + 1).toNat s v = if fitP (pa i) (co i) (pa i + 1 * v) s then wW pa co i.toNat s v ||| 2 ^ i.toNat else wW pa co i.toNat s v := bs_s hi.1
                  have s2 : wA pa co (i + 1).toNat s v = if fitP (pa i) (co i) (pa i + -1 * v) s then wA pa co i.toNat s v ||| 2 ^ i.toNat else wA pa co i.toNat s v := bs_s hi.1
                  simp only [mb_X9_ways_113, mb_X9_ways_143, nam]
                  rw [if_neg h3, isFit_spec Q (by omega) (by omega) (by omega) (Or.inl rfl), bnd1_s, ifB]
                  have second : ∀ c, c = ((wW pa co (i + 1).toNat s v : Nat) : Int) → ∃ g' g'', (bnd1 (m_X9_isFit F x i s v (-1) cells) fun r2 => if wI r2 = wI 0 then k3 (c, orI c2 0, i + 1) else k3 (c, orI c2 (shlI 1 i), i + 1)) = some (sm g' T, 0, g'') ∧ PosR pa co n.toNat T (fun s v => (1 ≤ s ∧ s ≤ 200) ∧ 0 ≤ v ∧ v ≤ 30) g' := by
                    intro c hc
                    rw [isFit_spec Q (by omega) (by omega) (by omega) (Or.inr rfl), bnd1_s, ifB]
                    by_cases h5 : fitP (pa i) (co i) (pa i + -1 * v) s
                    · rw [if_pos h5] at s2
                      rw [if_pos h5, hsi, hc2, or_n (by omega) (by omega), ← s2]
                      exact ih3 _ ⟨by simp only; omega, hc, rfl⟩ (by simp only; omega)
                    · rw [if_neg h5] at s2
                      rw [if_neg h5, orI_0 (by omega), hc2, ← s2]
                      exact ih3 _ ⟨by simp only; omega, hc, rfl⟩ (by simp only; omega)
                  by_cases h4 : fitP (pa i) (co i) (pa i + 1 * v) s
                  · rw [if_pos h4] at s1
                    rw [if_pos h4]
                    exact second _ (by rw [hsi, hc1, or_n (by omega) (by omega), ← s1])
                  · rw [if_neg h4] at s1
                    rw [if_neg h4]
                    exact second _ (by rw [orI_0 (by omega), hc1, ← s1])
              · exact ⟨by simp only; omega, rfl, rfl⟩
              · simp only
                omega
          · exact ⟨by simp only; omega, hR.weak (fun s' v' => by simp only; omega)⟩
          · simp only
            omega
      · refine ⟨by simp only; omega, fun k hk => ?_⟩
        simp only
        rw [hz k (by omega)]
        refine ⟨Or.inl rfl, ⟨fun h => by omega, ?_⟩⟩
        rintro ⟨z, s', v', z1, z2⟩
        omega
      · simp only
        omega
    · rw [if_neg h0, chk_pos (by omega)]
      refine ih _ ⟨by simp only; omega, fun k hk => ?_⟩ (by simp only; omega)
      simp only at hk ⊢
      by_cases y : (k : Int) = j
      · rw [y, up_at]
      · rw [up_ne y]
        exact hz k (by omega)
  · exact ⟨by simp only; omega, fun k hk => by simp only at hk; omega⟩
  · simp only
    omega
end WAY2
section WAYO
variable {F : Nat} {held width size wdt many cells : Int → Int} {num : Int → Int → Int}
theorem op_ways (hF : 100000 ≤ F) (S : SlotR held width size num wdt many cells) {x1 : Int} (hx1 : r32 x1) (u1 u2 u3 : Int) (f1 f2 f3 f4 f5 f6 f7 f8 g : Int → Int) : Eq1 (m_X8_ways F x1 u1 u2 u3 f6 f1 f2 f3 f4 f7 f5 f8 held size num) (m_X9_ways F x1 cells g many wdt) := by
  unfold m_X8_ways m_X9_ways
  rcases few_pair hF S hx1 u1 u2 u3 f1 f2 f3 f4 f5 with ⟨r, ⟨w1, w2, w3, w4, w5, w6, w7, w8⟩, hr, k1, k2⟩ | ⟨n, o1, o2, co, le, mo, pa, wa, k1, k2, Q, h10⟩
  · rw [k1, k2, bnd9_s, bnd1_s, ifI_eq (a := r) (b := 0) (by omega) (by decide), ifI_eq (a := r) (b := 0) (by omega) (by decide), if_neg (show ¬ r = 0 by omega), if_neg (show ¬ r = 0 by omega)]
    exact Eq1.mk
  · have hn := Q.2.2.1.1
    have hp : (2 : Nat) ^ n.toNat ≤ 2 ^ 10 := Nat.pow_le_pow_right (by decide) (by omega)
    obtain ⟨po, z1, z2, z3, z4, e1, hR1⟩ := possible_spec (F := F) hF Q.2.2.1 h10 o1 o2 f6 f7 f8
    obtain ⟨g', g'', e2, hR2⟩ := ways9_spec (F := F) hF Q h10 g
    rw [k1, k2, bnd9_s, bnd1_s, if_pos rfl, if_pos rfl, e1, bnd6_s, rows_spec Q, bnd1_s]
    simp only [nam]
    rw [e2]
    refine Eq1.of ?_
    rw [sm_stop (f := po) (j := 2 ^ n.toNat) 1024 (by omega) (fun i i0 i1 => ?_)]
    · refine sm_congr _ (fun i i0 i1 => ?_)
      have a1 := hR1 i.toNat (by omega)
      have a2 := hR2 i.toNat (by omega)
      rw [show ((i.toNat : Nat) : Int) = i by omega] at a1 a2
      have a3 := a1.2.trans a2.2.symm
      rcases a1.1 with z | z
      · rcases a2.1 with y | y
        · rw [z, y]
        · have := a3.mpr y
          omega
      · rw [z, a3.mp z]
    · have h0 : 0 ≤ i := Int.le_trans (Int.natCast_nonneg _) i0
      have a1 := hR1 i.toNat (by omega)
      rw [show ((i.toNat : Nat) : Int) = i by omega] at a1
      rcases a1.1 with z | z
      · exact z
      · have := (a1.2.mp z).1
        omega
end WAYO
