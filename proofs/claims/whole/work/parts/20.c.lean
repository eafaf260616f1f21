/-! STAIR: the words that are asked for -/
theorem str_F : ∀ x : Fin 13, (1 ≤ sLenI x.val ∧ sLenI x.val ≤ 6) ∧ ∀ j : Fin 6, (j.val : Int) < sLenI x.val → 97 ≤ sChr x.val (j.val : Int) ∧ sChr x.val (j.val : Int) ≤ 122 := by decide +kernel
theorem str_in {x : Nat} (hx : x < 13) : (1 ≤ sLenI x ∧ sLenI x ≤ 6) ∧ ∀ j, 0 ≤ j → j < sLenI x → 97 ≤ sChr x (0 + j) ∧ sChr x (0 + j) ≤ 122 := by
  obtain ⟨h1, h2⟩ := str_F ⟨x, hx⟩
  refine ⟨h1, fun j a b => ?_⟩
  simp only at h1 h2
  have := h2 ⟨j.toNat, by omega⟩
  simp only at this
  rw [show ((j.toNat : Nat) : Int) = j by omega] at this
  rw [Int.zero_add]
  exact this b
def kw (x : Nat) : Int := wc (sChr x) 0 (sLenI x).toNat
theorem kw_F : kw 0 = 10492029 ∧ kw 1 = 298288 ∧ kw 2 = 316163 ∧ kw 3 = 10495135 ∧ kw 4 = 7220170 ∧ kw 5 = 40187 ∧ kw 6 = 330800670 ∧ kw 7 = 315743 ∧ kw 8 = 10277596 ∧ kw 9 = 10492150 ∧ kw 10 = 453773 ∧ kw 11 = 12534025 ∧ kw 12 = 40477 := by decide +kernel
section ASKS
variable {F : Nat} {n : Int} {f g : Int → Int} {b bp kd fr un va wo : Int}
theorem TokR.k4 (S : TokR n f kd fr un va wo) : 0 ≤ kd ∧ kd ≤ 4 := by
  rcases S.2 with z | z | z | z | z <;> omega
theorem TokR.word (S : TokR n f kd fr un va wo) (h : kd = 1) : fr < un ∧ (∀ i, 0 ≤ i → i < un - fr → 97 ≤ f (fr + i) ∧ f (fr + i) ≤ 122) ∧ wo = wc f fr (un - fr).toNat := by
  rcases S.2 with z | z | z | z | z
  · omega
  · exact z.2
  · omega
  · omega
  · omega
theorem TokR.numb (S : TokR n f kd fr un va wo) (h : kd = 2) : fr < un ∧ (∀ i, 0 ≤ i → i < un - fr → 48 ≤ f (fr + i) ∧ f (fr + i) ≤ 57) ∧ VR (nv f fr (un - fr).toNat) va := by
  rcases S.2 with z | z | z | z | z
  · omega
  · omega
  · exact z.2
  · omega
  · omega
theorem TokR.wo_in (S : TokR n f kd fr un va wo) (h : kd = 1) : -1 ≤ wo ∧ wo ≤ 150094635296999121 := by
  obtain ⟨h1, h2, h3⟩ := S.word h
  rw [h3]
  rcases wc_in (f := f) (p := fr) (un - fr).toNat (fun i a b => h2 i a (by omega)) with z | ⟨z1, z2, z3, z4⟩
  · omega
  · have : (27 : Int) ^ (un - fr).toNat ≤ 27 ^ 12 := by
      have hN := Nat.pow_le_pow_right (n := 27) (by decide) z1
      have hc : ∀ k : Nat, (27 : Int) ^ k = ((27 ^ k : Nat) : Int) := fun k => by
        rw [Int.natCast_pow]
        rfl
      rw [hc, hc]
      omega
    have e : (27 : Int) ^ 12 = 150094635296999121 := by decide
    rw [e] at this
    omega
theorem isWord_spec (hF : 1000 ≤ F) (T : TapeR n f g) (S : TokR n f kd fr un va wo) {x : Nat} (hx : x < 13) : m_X4_isWord F x n kd fr un f = some (bI (kd = 1 ∧ wo = kw x)) := by
  have hn := T.1
  have hk := S.k4
  have hs := S.1
  obtain ⟨l1, l2⟩ := str_in hx
  unfold m_X4_isWord
  rw [ifI_eq (by omega) (by decide)]
  by_cases h1 : kd = 1
  · obtain ⟨w1, w2, w3⟩ := S.word h1
    have hinj := wc_inj (f := f) (g := sChr x) (p := fr) (q := 0) (sLenI x).toNat (un - fr).toNat (by omega) (fun i a b => w2 i a (by omega)) (fun i a b => l2 i a (by omega))
    rw [if_pos h1, ifI_eq (by omega) (by omega)]
    by_cases h2 : un - fr = sLenI x
    · rw [if_pos h2]
      unfold ml_X4_isWord_28
      refine loopN_rec (I := fun q : Int => (0 ≤ q ∧ q ≤ sLenI x) ∧ ∀ i, 0 ≤ i → i < q → f (fr + i) = sChr x (0 + i)) (μ := fun q => (sLenI x - q).toNat) (P := fun q y => y = some (bI (kd = 1 ∧ wo = kw x))) ?_ F 0 ?_ ?_
      · rintro k q ⟨hq, hj⟩ ih
        unfold mb_X4_isWord_28
        rw [ifI_le (by omega) (by omega)]
        by_cases h3 : sLenI x ≤ q
        · rw [if_pos h3, bI_t]
          refine ⟨h1, ?_⟩
          rw [w3]
          exact hinj.mpr ⟨by omega, fun i a b => hj i a (by omega)⟩
        · have hb := T.2 (fr + q) (by omega) (by omega)
          have hc := l2 q hq.1 (by omega)
          rw [Int.zero_add] at hc
          rw [if_neg h3, ifI_le (by omega) (by omega), if_neg (by omega), chk_pos (by omega), chk_pos (by omega), ifI_eq (by omega) (by omega)]
          by_cases h4 : f (fr + q) = sChr x q
          · rw [if_pos h4]
            refine ih _ ⟨by omega, fun i a b => ?_⟩ (by omega)
            by_cases e : i = q
            · rw [e, Int.zero_add]
              exact h4
            · exact hj i a (by omega)
          · rw [if_neg h4, bI_f]
            rintro ⟨-, z⟩
            rw [w3] at z
            have := (hinj.mp z).2 q hq.1 (by omega)
            rw [Int.zero_add] at this
            exact h4 this
      · exact ⟨by omega, fun i a b => by omega⟩
      · omega
    · rw [if_neg h2, bI_f]
      rintro ⟨-, z⟩
      rw [w3] at z
      have := (hinj.mp z).1
      omega
  · rw [if_neg h1, bI_f (fun z => h1 z.1)]
theorem is_spec (S : TokR n f kd fr un va wo) (hb : 0 ≤ b ∧ b ≤ 3) {K : Int} (hK : r32 K) : m_X9_is F K kd wo b = some (bI (b = 0 ∧ kd = 1 ∧ wo = K)) := by
  have hk := S.k4
  unfold m_X9_is
  rw [ifI_eq (by omega) (by decide), ifI_eq (by omega) (by decide)]
  by_cases h1 : b = 0
  · rw [if_pos h1]
    by_cases h2 : kd = 1
    · have hw := S.wo_in h2
      rw [if_pos h2, ifJ_eq (by omega) (by omega)]
      by_cases h3 : wo = K
      · rw [if_pos h3, bI_t ⟨h1, h2, h3⟩]
      · rw [if_neg h3, bI_f (fun z => h3 z.2.2)]
    · rw [if_neg h2, bI_f (fun z => h2 z.2.1)]
  · rw [if_neg h1, bI_f (fun z => h1 z.1)]
theorem refuse_spec (hb : 0 ≤ b ∧ b ≤ 3) (w : Int) : m_X4_refuse F w b bp fr = some (if b = 0 then (w, fr) else (b, bp)) ∧ m_X9_fails F w fr b bp = some (if b = 0 then (w, fr) else (b, bp)) := by
  unfold m_X4_refuse m_X9_fails
  rw [ifI_eq (by omega) (by decide)]
  by_cases h1 : b = 0
  · rw [if_pos h1, if_pos h1]
    exact ⟨rfl, rfl⟩
  · rw [if_neg h1, if_neg h1]
    exact ⟨rfl, rfl⟩
/-- the state behind a step of reading, on both sides -/
def Nx (n : Int) (f : Int → Int) (b bp fr b' bp' kd' fr' un' va' wo' : Int) : Prop := TokR n f kd' fr' un' va' wo' ∧ (0 ≤ b' ∧ b' ≤ 3) ∧ fr ≤ fr' ∧ (b' = 0 → b = 0 ∧ bp' = bp)
section NXA
variable {n b bp fr b' bp' kd' fr' un' va' wo' : Int} {f : Int → Int}
theorem Nx.tok (N : Nx n f b bp fr b' bp' kd' fr' un' va' wo') : TokR n f kd' fr' un' va' wo' := N.1
theorem Nx.b3 (N : Nx n f b bp fr b' bp' kd' fr' un' va' wo') : 0 ≤ b' ∧ b' ≤ 3 := N.2.1
theorem Nx.on (N : Nx n f b bp fr b' bp' kd' fr' un' va' wo') : fr ≤ fr' := N.2.2.1
theorem Nx.good (N : Nx n f b bp fr b' bp' kd' fr' un' va' wo') : b' = 0 → b = 0 ∧ bp' = bp := N.2.2.2
end NXA
theorem takes_t (hF : 1000 ≤ F) (T : TapeR n f g) (S : TokR n f kd fr un va wo) (hb : b = 0) {x : Nat} (hK : r32 (kw x)) (hw : kd = 1 ∧ wo = kw x) : ∃ kd' fr' un' va' wo', m_X4_advance F n un f = some (kd', fr', un') ∧ m_X9_next F n un g = some (un', kd', fr', va', wo') ∧ m_X9_takes F (kw x) n un kd fr va wo b g = some (1, un', kd', fr', va', wo') ∧ TokR n f kd' fr' un' va' wo' ∧ fr < fr' := by
  have hn := T.1
  have hs := S.1
  obtain ⟨kd', fr', un', va', wo', e1, e2, S', hl⟩ := next_pair hF T (un := un) (by omega)
  refine ⟨kd', fr', un', va', wo', e1, e2, ?_, S', ?_⟩
  · unfold m_X9_takes
    rw [is_spec S (by omega) hK, bnd1_s, ifB, if_pos ⟨hb, hw⟩, e2, bnd5_s]
  · have := (S.word hw.1).1
    omega
theorem takes_f (S : TokR n f kd fr un va wo) (hb : 0 ≤ b ∧ b ≤ 3) {x : Nat} (hK : r32 (kw x)) (hw : ¬ (b = 0 ∧ kd = 1 ∧ wo = kw x)) : m_X9_takes F (kw x) n un kd fr va wo b g = some (0, un, kd, fr, va, wo) := by
  unfold m_X9_takes
  rw [is_spec S hb hK, bnd1_s, ifB, if_neg hw]
theorem expect_pair (hF : 1000 ≤ F) (T : TapeR n f g) (S : TokR n f kd fr un va wo) (hb : 0 ≤ b ∧ b ≤ 3) {x : Nat} (hx : x < 13) (hK : r32 (kw x)) : ∃ b' bp' kd' fr' un' va' wo', m_X4_expectWord F x b bp n kd fr un f = some (b', bp', kd', fr', un') ∧ m_X9_asks F (kw x) n un kd fr va wo b bp g = some (un', kd', fr', va', wo', b', bp') ∧ Nx n f b bp fr b' bp' kd' fr' un' va' wo' := by
  unfold m_X4_expectWord m_X9_asks
  rw [ifI_eq (by omega) (by decide), isWord_spec hF T S hx, bnd1_s, ifB]
  by_cases h1 : b = 0
  · rw [if_pos h1]
    by_cases h2 : kd = 1 ∧ wo = kw x
    · obtain ⟨kd', fr', un', va', wo', e1, e2, e3, S', hl⟩ := takes_t hF T S h1 hK h2
      rw [if_pos h2, e1, e3, bnd3_s, bnd6_s, if_neg one0]
      exact ⟨_, _, _, _, _, _, _, rfl, rfl, S', hb, by omega, fun z => ⟨z, rfl⟩⟩
    · rw [if_neg h2, takes_f S hb hK (fun z => h2 z.2), (refuse_spec hb 1).1, bnd6_s, if_pos rfl, (refuse_spec hb 1).2, if_pos h1, bnd2_s, bnd2_s]
      exact ⟨_, _, _, _, _, _, _, rfl, rfl, S, by omega, Int.le_refl _, fun z => absurd z (by decide)⟩
  · rw [if_neg h1, takes_f S hb hK (fun z => h1 z.1), bnd6_s, if_pos rfl, (refuse_spec hb 1).2, if_neg h1, bnd2_s]
    exact ⟨_, _, _, _, _, _, _, rfl, rfl, S, hb, Int.le_refl _, fun z => ⟨z, rfl⟩⟩
theorem numberHere_spec (hF : 1000 ≤ F) (T : TapeR n f g) (S : TokR n f kd fr un va wo) (hk : kd = 2) : m_X4_numberHere F n fr un f = some (nv f fr (un - fr).toNat) := by
  have hn := T.1
  have hs := S.1
  obtain ⟨h1, h2, h3⟩ := S.numb hk
  unfold m_X4_numberHere ml_X4_numberHere_7
  refine loopN_rec (I := fun q : Int × Int => (fr ≤ q.2 ∧ q.2 ≤ un) ∧ q.1 = nv f fr (q.2 - fr).toNat) (μ := fun q => (un - q.2).toNat) (P := fun q y => y = some (nv f fr (un - fr).toNat)) ?_ F (0, fr) ?_ ?_
  · rintro k ⟨v, q⟩ ⟨hq, hv⟩ ih
    simp only at hq hv ih ⊢
    unfold mb_X4_numberHere_7
    rw [ifI_le (by omega) (by omega)]
    by_cases c1 : un ≤ q
    · rw [if_pos c1, hv, show q = un by omega]
    · have hb := T.2 q (by omega) (by omega)
      have hd := h2 (q - fr) (by omega) (by omega)
      rw [show fr + (q - fr) = q by omega] at hd
      have hi := nv_in (f := f) (p := fr) (q - fr).toNat (fun i a b => h2 i a (by omega))
      have hst : nv f fr (q + 1 - fr).toNat = min 1000000 (nv f fr (q - fr).toNat * 10 + f q - 48) := by
        rw [show (q + 1 - fr).toNat = (q - fr).toNat + 1 by omega]
        show min 1000000 (nv f fr (q - fr).toNat * 10 + f (fr + (((q - fr).toNat : Nat) : Int)) - 48) = _
        rw [show fr + (((q - fr).toNat : Nat) : Int) = q by omega]
      rw [if_neg c1, ifI_le (by omega) (by omega), if_neg (by omega), chk_pos (by omega), min32 (by omega) (by omega), bnd1_s]
      refine ih _ ⟨by simp only; omega, ?_⟩ (by simp only; omega)
      simp only
      rw [hst, hv]
      omega
  · refine ⟨by simp only; omega, ?_⟩
    simp only
    rw [show (fr - fr).toNat = 0 by omega]
    rfl
  · simp only
    omega
theorem number_pair (hF : 1000 ≤ F) (T : TapeR n f g) (S : TokR n f kd fr un va wo) (hb : 0 ≤ b ∧ b ≤ 3) {lo hi : Int} (hlh : 0 ≤ lo ∧ lo ≤ hi ∧ hi ≤ 9999) : ∃ r b' bp' kd' fr' un' va' wo', m_X4_boundedNumber F lo hi b bp n kd fr un f = some (r, b', bp', kd', fr', un') ∧ m_X9_number F lo hi n un kd fr va wo b bp g = some (r, un', kd', fr', va', wo', b', bp') ∧ Nx n f b bp fr b' bp' kd' fr' un' va' wo' ∧ (lo ≤ r ∧ r ≤ hi) := by
  have hn := T.1
  have hs := S.1
  have hk := S.k4
  unfold m_X4_boundedNumber m_X9_number mb_X4_boundedNumber_39
  rw [ifI_eq (a := b) (by omega) (by decide), ifI_eq (a := b) (by omega) (by decide)]
  by_cases h1 : b = 0
  · rw [if_pos h1, if_pos h1, ifI_eq (a := kd) (by omega) (by decide), ifI_eq (a := kd) (by omega) (by decide), (refuse_spec hb 1).1, (refuse_spec hb 1).2, if_pos h1, bnd2_s, bnd2_s]
    by_cases h2 : kd = 2
    · obtain ⟨w1, w2, w3⟩ := S.numb h2
      have hni := nv_in (f := f) (p := fr) (un - fr).toNat (fun i a b => w2 i a (by omega))
      have hva : 0 ≤ va ∧ va ≤ 1000009 := by
        rcases w3 with z | z <;> omega
      rw [if_pos h2, if_pos h2, numberHere_spec hF T S h2, bnd1_s, chk_pos (by omega), chk_pos (by omega), chk_pos (by omega), in_spec (by omega) (by omega) (by omega), bnd1_s, ifB, ifI_lt (by omega) (by omega), ifI_le (by omega) (by omega), (refuse_spec hb 2).1, (refuse_spec hb 2).2, if_pos h1, bnd2_s, bnd2_s]
      have hout : ¬ (lo ≤ va ∧ va ≤ hi) → ∃ r b' bp' kd' fr' un' va' wo', some (lo, (2 : Int), fr, kd, fr, un) = some (r, b', bp', kd', fr', un') ∧ some (lo, un, kd, fr, va, wo, (2 : Int), fr) = some (r, un', kd', fr', va', wo', b', bp') ∧ Nx n f b bp fr b' bp' kd' fr' un' va' wo' ∧ (lo ≤ r ∧ r ≤ hi) := fun _ => ⟨_, _, _, _, _, _, _, _, rfl, rfl, ⟨S, by omega, Int.le_refl _, fun z => absurd z (by decide)⟩, by omega⟩
      by_cases h3 : lo ≤ va ∧ va ≤ hi
      · have hnv : nv f fr (un - fr).toNat = va := by
          rcases w3 with z | z <;> omega
        obtain ⟨kd', fr', un', va', wo', e1, e2, S', hl⟩ := next_pair hF T (un := un) (by omega)
        rw [if_pos h3, hnv, if_neg (by omega), if_pos (by omega), e1, e2, bnd3_s, bnd5_s]
        exact ⟨_, _, _, _, _, _, _, _, rfl, rfl, ⟨S', hb, by omega, fun z => ⟨z, rfl⟩⟩, h3⟩
      · rw [if_neg h3]
        by_cases h4 : nv f fr (un - fr).toNat < lo
        · rw [if_pos h4]
          exact hout h3
        · rw [if_neg h4, if_neg (by rcases w3 with z | z <;> omega)]
          exact hout h3
    · rw [if_neg h2, if_neg h2]
      exact ⟨_, _, _, _, _, _, _, _, rfl, rfl, ⟨S, by omega, Int.le_refl _, fun z => absurd z (by decide)⟩, by omega⟩
  · rw [if_neg h1, if_neg h1]
    exact ⟨_, _, _, _, _, _, _, _, rfl, rfl, ⟨S, hb, Int.le_refl _, fun z => ⟨z, rfl⟩⟩, by omega⟩
theorem named_pair (hF : 1000 ≤ F) (T : TapeR n f g) (S : TokR n f kd fr un va wo) (hb : 0 ≤ b ∧ b ≤ 3) {x : Nat} (hx : x < 13) (hK : r32 (kw x)) {lo hi : Int} (hlh : 0 ≤ lo ∧ lo ≤ hi ∧ hi ≤ 9999) : ∃ r b' bp' kd' fr' un' va' wo', m_X4_namedNumber F x lo hi b bp n kd fr un f = some (r, b', bp', kd', fr', un') ∧ m_X9_number_ F (kw x) lo hi n un kd fr va wo b bp g = some (r, un', kd', fr', va', wo', b', bp') ∧ Nx n f b bp fr b' bp' kd' fr' un' va' wo' ∧ (lo ≤ r ∧ r ≤ hi) := by
  obtain ⟨b1, bp1, kd1, fr1, un1, va1, wo1, e1, e2, N1⟩ := expect_pair (bp := bp) hF T S hb hx hK
  obtain ⟨r, b2, bp2, kd2, fr2, un2, va2, wo2, e3, e4, N2, hr⟩ := number_pair (bp := bp1) hF T N1.tok N1.b3 hlh
  unfold m_X4_namedNumber m_X9_number_
  rw [e1, e2, bnd5_s, bnd7_s, e3, e4, bnd6_s, bnd8_s]
  exact ⟨_, _, _, _, _, _, _, _, rfl, rfl, ⟨N2.tok, N2.b3, Int.le_trans N1.on N2.on, fun z => ⟨(N1.good (N2.good z).1).1, (N2.good z).2.trans (N1.good (N2.good z).1).2⟩⟩, hr⟩
end ASKS
/-! STAIR: the lines -/
def FR (lines odds parts walkers bands sided st wk pc wd : Int) (steps speeds paces carried l h p a b : Int → Int) : Prop :=
  (l 4 = lines ∧ 0 ≤ lines) ∧ (h 36 = odds ∧ 0 ≤ odds ∧ odds ≤ 100) ∧ (h 37 = parts ∧ 0 ≤ parts ∧ parts ≤ 4) ∧ (h 38 = walkers ∧ 0 ≤ walkers ∧ walkers ≤ 8) ∧ (h 39 = bands ∧ 0 ≤ bands ∧ bands ≤ 4) ∧ h 44 = 0 ∧
  ((sided = 0 ∧ h 40 = 0) ∨ (sided = 1 ∧ h 40 = st ∧ h 41 = wk ∧ h 42 = pc ∧ h 43 = wd ∧ (1 ≤ st ∧ st ≤ 9) ∧ (1 ≤ wk ∧ wk ≤ 9) ∧ (1 ≤ pc ∧ pc ≤ 30) ∧ (0 ≤ wd ∧ wd ≤ 100))) ∧
  (∀ i, 0 ≤ i → i < parts → p (32 + 2 * i) = steps i ∧ (1 ≤ steps i ∧ steps i ≤ 200) ∧ p (33 + 2 * i) = speeds i ∧ (-30 ≤ speeds i ∧ speeds i ≤ 30)) ∧
  (∀ i, 0 ≤ i → i < walkers → a (32 + i) = paces i ∧ 0 ≤ paces i ∧ paces i ≤ 30) ∧
  (∀ i, 0 ≤ i → i < bands → b (16 + i) = carried i ∧ 1 ≤ carried i ∧ carried i ≤ 9999)
def Kp (h0 p0 a0 b0 h p a b : Int → Int) : Prop := ∀ j, (j < 36 → h j = h0 j) ∧ (j < 32 → p j = p0 j ∧ a j = a0 j) ∧ (j < 16 → b j = b0 j)
section LINES
variable {F : Nat} {n : Int} {f g : Int → Int} {b bp kd fr un va wo : Int}
variable {lines odds parts walkers bands sided st wk pc wd : Int} {steps speeds paces carried l h p a bd h0 p0 a0 b0 : Int → Int}
theorem room_f {x2 x3 : Int} : m_X9_isRoom F 0 x2 x3 n un kd fr va wo b bp h g = some (0, un, kd, fr, va, wo, b, bp) := by
  unfold m_X9_isRoom mb_X9_isRoom_18 mb_X9_isRoom_33
  rw [if_pos rfl, if_pos rfl, if_pos rfl]
theorem room_full {x2 x3 : Int} (hx : 0 ≤ x2 ∧ x2 ≤ 8) (hh : h (36 + x2) = x3) : m_X9_isRoom F 1 x2 x3 n un kd fr va wo 0 bp h g = some (0, un, kd, fr, va, wo, 3, fr) := by
  unfold m_X9_isRoom mb_X9_isRoom_18 mb_X9_isRoom_33 m_X9_hasRead m_X9_fails
  rw [if_neg one0, chk_pos (by omega), bnd1_s, if_pos (by rw [hh]), if_pos rfl, bnd2_s, if_neg one0, if_neg (by decide), if_neg one0, if_neg (by decide)]
theorem room_t {x2 x3 kd' fr' un' va' wo' : Int} (hx : 0 ≤ x2 ∧ x2 ≤ 8) (h1 : r32 (h (36 + x2))) (h2 : r32 x3) (hh : h (36 + x2) ≠ x3) (e : m_X9_next F n un g = some (un', kd', fr', va', wo')) : m_X9_isRoom F 1 x2 x3 n un kd fr va wo 0 bp h g = some (1, un', kd', fr', va', wo', 0, bp) := by
  unfold m_X9_isRoom mb_X9_isRoom_18 mb_X9_isRoom_33 m_X9_hasRead
  rw [if_neg one0, chk_pos (by omega), bnd1_s, ifI_eq h1 h2, if_neg hh, if_neg one0, if_pos rfl, e, bnd5_s, if_neg one0, if_pos rfl]
theorem expect_t (hF : 1000 ≤ F) (T : TapeR n f g) (S : TokR n f kd fr un va wo) {x : Nat} (hx : x < 13) (hw : kd = 1 ∧ wo = kw x) {kd' fr' un' : Int} (e : m_X4_advance F n un f = some (kd', fr', un')) : m_X4_expectWord F x 0 bp n kd fr un f = some (0, bp, kd', fr', un') := by
  unfold m_X4_expectWord
  rw [if_pos rfl, isWord_spec hF T S hx, bnd1_s, ifB, if_pos hw, e, bnd3_s]
theorem hasR {x : Int} (hx : 0 ≤ x ∧ x ≤ 8) : m_X9_hasRead F x h = some (h (36 + x)) := by
  unfold m_X9_hasRead
  rw [chk_pos (by omega)]
theorem tellsR {x y : Int} (hx : 0 ≤ x ∧ x ≤ 8) : m_X9_tells F x y h = some (up h (36 + x) y) := by
  unfold m_X9_tells
  rw [chk_pos (by omega)]
theorem kw32 : r32 (kw 0) ∧ r32 (kw 1) ∧ r32 (kw 2) ∧ r32 (kw 3) ∧ r32 (kw 4) ∧ r32 (kw 5) ∧ r32 (kw 6) ∧ r32 (kw 7) ∧ r32 (kw 8) ∧ r32 (kw 9) ∧ r32 (kw 10) ∧ r32 (kw 11) ∧ r32 (kw 12) := by
  obtain ⟨k0, k1, k2, k3, k4, k5, k6, k7, k8, k9, k10, k11, k12⟩ := kw_F
  omega
/-- part -/
theorem part_pair (hF : 1000 ≤ F) (T : TapeR n f g) (S : TokR n f kd fr un va wo) (hw : kd = 1 ∧ wo = kw 2) (R : FR lines odds parts walkers bands sided st wk pc wd steps speeds paces carried l h p a bd) (K : Kp h0 p0 a0 b0 h p a bd) :
    ∃ r3 b1 bp1 kd1 fr1 un1 va1 wo1 parts' speeds' steps', m_X4_readPart F 0 bp n kd fr un parts speeds steps f = some (b1, bp1, kd1, fr1, un1, parts', speeds', steps') ∧ Nx n f 0 bp fr b1 bp1 kd1 fr1 un1 va1 wo1 ∧
      ((r3 = 0 ∧ b1 ≠ 0 ∧ m_X9_isRoom F 1 1 4 n un kd fr va wo 0 bp h g = some (0, un1, kd1, fr1, va1, wo1, b1, bp1)) ∨
       (r3 = 1 ∧ ∃ o4 o5 o6 o7 o8 o9 o10 h' p', m_X9_isRoom F 1 1 4 n un kd fr va wo 0 bp h g = some (1, o4, o5, o6, o7, o8, o9, o10) ∧ m_X9_partLine F n o4 o5 o6 o7 o8 o9 o10 h p g = some (un1, kd1, fr1, va1, wo1, b1, bp1, h', p') ∧ FR lines odds parts' walkers bands sided st wk pc wd steps' speeds' paces carried l h' p' a bd ∧ Kp h0 p0 a0 b0 h' p' a bd)) := by
  have hn := T.1
  have hs := S.1
  obtain ⟨R1, R2, R3, R4, R5, R6, R7, R8, R9, R10⟩ := R
  obtain ⟨k0, k1, k2, k3, k4, k5, k6, k7, k8, k9, k10, k11, k12⟩ := kw_F
  unfold m_X4_readPart
  rw [ifI_lt (by omega) (by decide)]
  by_cases h4 : parts < 4
  · obtain ⟨kd', fr', un', va', wo', e1, e2, S', hl⟩ := next_pair hF T (un := un) (by omega)
    have hfr : fr ≤ fr' := by omega
    rw [if_pos h4, expect_t (bp := bp) hF T S (by decide) hw e1, bnd5_s]
    have eroom := room_t (F := F) (kd := kd) (fr := fr) (va := va) (wo := wo) (bp := bp) (x2 := 1) (x3 := 4) (h := h) (by decide) (by rw [show (36 : Int) + 1 = 37 by decide]; omega) (by decide) (by rw [show (36 : Int) + 1 = 37 by decide]; omega) e2
    obtain ⟨r, b2, bp2, kd2, fr2, un2, va2, wo2, c1, c2, N2, hr⟩ := named_pair (b := 0) (bp := bp) hF T S' (by decide) (x := 3) (by decide) (by omega) (lo := 1) (hi := 200) (by decide)
    obtain ⟨q, b3, bp3, kd3, fr3, un3, va3, wo3, d1, d2, N3, hq⟩ := named_pair (b := b2) (bp := bp2) hF T N2.tok N2.b3 (x := 4) (by decide) (by omega) (lo := 0) (hi := 30) (by decide)
    rw [k3] at c2
    rw [k4] at d2
    rw [c1, bnd6_s, chk_pos (by omega), d1, bnd6_s, chk_pos (by omega), ifI_eq (a := b3) (b := 0) (by have := N3.b3; omega) (by decide)]
    have hp37 : h (36 + 1) = parts := by rw [show (36 : Int) + 1 = 37 by decide]; omega
    -- the line of the reference
    have FRn : ∀ z : Int, (-30 ≤ z ∧ z ≤ 30) → FR lines odds (parts + 1) walkers bands sided st wk pc wd (up steps parts r) (up speeds parts z) paces carried l (up h (36 + 1) (parts + 1)) (up (up p (2 * (16 + parts)) r) (2 * (16 + parts) + 1) z) a bd ∧ Kp h0 p0 a0 b0 (up h (36 + 1) (parts + 1)) (up (up p (2 * (16 + parts)) r) (2 * (16 + parts) + 1) z) a bd := by
      intro z hz
      refine ⟨⟨R1, ?_, ?_, ?_, ?_, ?_, ?_, fun i i0 i1 => ?_, R9, R10⟩, fun j => ⟨fun hj => ?_, fun hj => ⟨?_, ((K j).2.1 hj).2⟩, (K j).2.2⟩⟩
      · rw [up_ne (by decide)]
        exact R2
      · rw [show (36 : Int) + 1 = 37 by decide, up_at]
        omega
      · rw [up_ne (by decide)]
        exact R4
      · rw [up_ne (by decide)]
        exact R5
      · rw [up_ne (by decide)]
        exact R6
      · rw [up_ne (by decide), up_ne (by decide), up_ne (by decide), up_ne (by decide)]
        exact R7
      · by_cases e : i = parts
        · rw [e, up_at, up_at, show 32 + 2 * parts = 2 * (16 + parts) by omega, up_ne (by omega), up_at, show 33 + 2 * parts = 2 * (16 + parts) + 1 by omega, up_at]
          exact ⟨rfl, hr, rfl, hz⟩
        · rw [up_ne e, up_ne e, up_ne (by omega), up_ne (by omega), up_ne (by omega), up_ne (by omega)]
          exact R8 i i0 (by omega)
      · rw [up_ne (by omega)]
        exact (K j).1 hj
      · rw [up_ne (by omega), up_ne (by omega)]
        exact ((K j).2.1 hj).1
    have pl : ∀ X : Option (Int × Int × Int × Int × Int × Int × Int × (Int → Int) × (Int → Int)), (if wI b3 = wI 0 then
    (bnd6 (m_X9_takes F 40187 n un3 kd3 fr3 va3 wo3 b3 g) fun r23 o24 o25 o26 o27 o28 => if wI r23 = wI 0 then
    (mb_X9_partLine_68 F q (2 * (16 + parts) + 1) o24 o25 o26 o27 o28 b3 bp3 h (up p (2 * (16 + parts)) r))
  else
    (mb_X9_partLine_69 F (2 * (16 + parts) + 1) (-q) o24 o25 o26 o27 o28 b3 bp3 h (up p (2 * (16 + parts)) r)))
  else
    (mb_X9_partLine_68 F q (2 * (16 + parts) + 1) un3 kd3 fr3 va3 wo3 b3 bp3 h (up p (2 * (16 + parts)) r))) = X → m_X9_partLine F n un' kd' fr' va' wo' 0 bp h p g = X := by
      intro X hX
      unfold m_X9_partLine
      rw [hasR (by decide), bnd1_s, hp37]
      simp only [nam]
      rw [c2, bnd8_s, chk_pos (by omega), d2, bnd8_s]
      exact hX
    have p69 : ∀ z u1 u2 u3 u4 u5, mb_X9_partLine_69 F (2 * (16 + parts) + 1) z u1 u2 u3 u4 u5 b3 bp3 h (up p (2 * (16 + parts)) r) = some (u1, u2, u3, u4, u5, b3, bp3, up h (36 + 1) (parts + 1), up (up p (2 * (16 + parts)) r) (2 * (16 + parts) + 1) z) := by
      intro z u1 u2 u3 u4 u5
      unfold mb_X9_partLine_69
      rw [chk_pos (by omega), hasR (by decide), bnd1_s, hp37, tellsR (by decide), bnd1_s]
    by_cases hb3 : b3 = 0
    · rw [if_pos hb3, isWord_spec hF T N3.tok (x := 5) (by decide), bnd1_s, ifB]
      by_cases hwb : kd3 = 1 ∧ wo3 = kw 5
      · obtain ⟨kd4, fr4, un4, va4, wo4, g1, g2, g3, S4, hl4⟩ := takes_t (b := b3) hF T N3.tok hb3 (by omega) hwb
        rw [k5] at g3
        rw [if_pos hwb, chk_pos (by omega)]
        unfold mb_X4_readPart_101
        simp only [nam]
        rw [up_at, chk_pos (by omega), g1, bnd3_s]
        refine ⟨1, _, _, _, _, _, va4, wo4, _, _, _, rfl, ⟨S4, N3.b3, by have := N2.on; have := N3.on; omega, fun z => ⟨rfl, (N3.good z).2.trans (N2.good (N3.good z).1).2⟩⟩, Or.inr ⟨rfl, _, _, _, _, _, _, _, _, _, eroom, pl _ (by rw [if_pos (by rw [hb3]), g3, bnd6_s, if_neg one0, p69]), ?_⟩⟩
        have := FRn (-q) (by omega)
        have e : up (up speeds parts q) parts (-q) = up speeds parts (-q) := by
          funext j
          by_cases z : j = parts
          · rw [z, up_at, up_at]
          · rw [up_ne z, up_ne z, up_ne z]
        rw [e]
        exact this
      · rw [if_neg hwb]
        unfold mb_X4_readPart_101
        simp only [nam]
        have g3 := takes_f (F := F) (g := g) N3.tok N3.b3 (b := b3) (x := 5) (by omega) (fun z => hwb z.2)
        rw [k5] at g3
        exact ⟨1, _, _, _, _, _, va3, wo3, _, _, _, rfl, ⟨N3.tok, N3.b3, by have := N2.on; have := N3.on; omega, fun z => ⟨rfl, (N3.good z).2.trans (N2.good (N3.good z).1).2⟩⟩, Or.inr ⟨rfl, _, _, _, _, _, _, _, _, _, eroom, pl _ (by rw [if_pos (by rw [hb3]), g3, bnd6_s, if_pos rfl]; unfold mb_X9_partLine_68; rw [p69]), FRn q (by omega)⟩⟩
    · rw [if_neg hb3]
      unfold mb_X4_readPart_101
      simp only [nam]
      exact ⟨1, _, _, _, _, _, va3, wo3, _, _, _, rfl, ⟨N3.tok, N3.b3, by have := N2.on; have := N3.on; omega, fun z => ⟨rfl, (N3.good z).2.trans (N2.good (N3.good z).1).2⟩⟩, Or.inr ⟨rfl, _, _, _, _, _, _, _, _, _, eroom, pl _ (by rw [ifI_eq (by have := N3.b3; omega) (by decide), if_neg hb3]; unfold mb_X9_partLine_68; rw [p69]), FRn q (by omega)⟩⟩
  · rw [if_neg h4, (refuse_spec (b := 0) (by decide) 3).1, if_pos rfl, bnd2_s]
    exact ⟨0, _, _, _, _, _, va, wo, _, _, _, rfl, ⟨S, by decide, Int.le_refl _, fun z => absurd z (by decide)⟩, Or.inl ⟨rfl, by decide, room_full (by decide) (by rw [show (36 : Int) + 1 = 37 by decide]; omega)⟩⟩
end LINES
section LINES2
variable {F : Nat} {n : Int} {f g : Int → Int} {b bp kd fr un va wo : Int}
variable {lines odds parts walkers bands sided st wk pc wd : Int} {steps speeds paces carried l h p a bd h0 p0 a0 b0 : Int → Int}
/-- walker -/
theorem walker_pair (hF : 1000 ≤ F) (T : TapeR n f g) (S : TokR n f kd fr un va wo) (hw : kd = 1 ∧ wo = kw 6) (R : FR lines odds parts walkers bands sided st wk pc wd steps speeds paces carried l h p a bd) (K : Kp h0 p0 a0 b0 h p a bd) :
    ∃ b1 bp1 kd1 fr1 un1 va1 wo1 walkers' paces', m_X4_readWalker F 0 bp n kd fr un walkers paces f = some (b1, bp1, kd1, fr1, un1, walkers', paces') ∧ Nx n f 0 bp fr b1 bp1 kd1 fr1 un1 va1 wo1 ∧
      ((b1 ≠ 0 ∧ m_X9_isRoom F 1 2 8 n un kd fr va wo 0 bp h g = some (0, un1, kd1, fr1, va1, wo1, b1, bp1)) ∨
       (∃ o4 o5 o6 o7 o8 o9 o10 r, m_X9_isRoom F 1 2 8 n un kd fr va wo 0 bp h g = some (1, o4, o5, o6, o7, o8, o9, o10) ∧ m_X9_number_ F 315743 0 30 n o4 o5 o6 o7 o8 o9 o10 g = some (r, un1, kd1, fr1, va1, wo1, b1, bp1) ∧ walkers < 8 ∧ FR lines odds parts walkers' bands sided st wk pc wd steps speeds paces' carried l (up h (36 + 2) (walkers + 1)) p (up a (32 + walkers) r) bd ∧ Kp h0 p0 a0 b0 (up h (36 + 2) (walkers + 1)) p (up a (32 + walkers) r) bd)) := by
  have hn := T.1
  have hs := S.1
  obtain ⟨R1, R2, R3, R4, R5, R6, R7, R8, R9, R10⟩ := R
  obtain ⟨k0, k1, k2, k3, k4, k5, k6, k7, k8, k9, k10, k11, k12⟩ := kw_F
  unfold m_X4_readWalker
  rw [ifI_lt (by omega) (by decide)]
  by_cases h4 : walkers < 8
  · obtain ⟨kd', fr', un', va', wo', e1, e2, S', hl⟩ := next_pair hF T (un := un) (by omega)
    rw [if_pos h4, expect_t (bp := bp) hF T S (by decide) hw e1, bnd5_s]
    have eroom := room_t (F := F) (kd := kd) (fr := fr) (va := va) (wo := wo) (bp := bp) (x2 := 2) (x3 := 8) (h := h) (by decide) (by rw [show (36 : Int) + 2 = 38 by decide]; omega) (by decide) (by rw [show (36 : Int) + 2 = 38 by decide]; omega) e2
    obtain ⟨r, b2, bp2, kd2, fr2, un2, va2, wo2, c1, c2, N2, hr⟩ := named_pair (b := 0) (bp := bp) hF T S' (by decide) (x := 7) (by decide) (by omega) (lo := 0) (hi := 30) (by decide)
    rw [k7] at c2
    rw [c1, bnd6_s, chk_pos (by omega)]
    simp only [nam]
    refine ⟨_, _, _, _, _, va2, wo2, _, _, rfl, ⟨N2.tok, N2.b3, by have := N2.on; omega, fun z => ⟨rfl, (N2.good z).2⟩⟩, Or.inr ⟨_, _, _, _, _, _, _, r, eroom, c2, h4, ⟨R1, ?_, ?_, ?_, ?_, ?_, ?_, R8, fun i i0 i1 => ?_, R10⟩, fun j => ⟨fun hj => ?_, fun hj => ⟨((K j).2.1 hj).1, ?_⟩, (K j).2.2⟩⟩⟩
    · rw [up_ne (by decide)]
      exact R2
    · rw [up_ne (by decide)]
      exact R3
    · rw [show (36 : Int) + 2 = 38 by decide, up_at]
      omega
    · rw [up_ne (by decide)]
      exact R5
    · rw [up_ne (by decide)]
      exact R6
    · rw [up_ne (by decide), up_ne (by decide), up_ne (by decide), up_ne (by decide)]
      exact R7
    · by_cases e : i = walkers
      · rw [e, up_at, up_at]
        exact ⟨rfl, hr⟩
      · rw [up_ne e, up_ne (by omega)]
        exact R9 i i0 (by omega)
    · rw [up_ne (by omega)]
      exact (K j).1 hj
    · rw [up_ne (by omega)]
      exact ((K j).2.1 hj).2
  · rw [if_neg h4, (refuse_spec (b := 0) (by decide) 3).1, if_pos rfl, bnd2_s]
    exact ⟨_, _, _, _, _, va, wo, _, _, rfl, ⟨S, by decide, Int.le_refl _, fun z => absurd z (by decide)⟩, Or.inl ⟨by decide, room_full (by decide) (by rw [show (36 : Int) + 2 = 38 by decide]; omega)⟩⟩
/-- band -/
theorem band_pair (hF : 1000 ≤ F) (T : TapeR n f g) (S : TokR n f kd fr un va wo) (hw : kd = 1 ∧ wo = kw 12) (R : FR lines odds parts walkers bands sided st wk pc wd steps speeds paces carried l h p a bd) (K : Kp h0 p0 a0 b0 h p a bd) :
    ∃ b1 bp1 kd1 fr1 un1 va1 wo1 bands' carried', m_X4_readBand F 0 bp n kd fr un bands carried f = some (b1, bp1, kd1, fr1, un1, bands', carried') ∧ Nx n f 0 bp fr b1 bp1 kd1 fr1 un1 va1 wo1 ∧
      ((b1 ≠ 0 ∧ m_X9_isRoom F 1 3 4 n un kd fr va wo 0 bp h g = some (0, un1, kd1, fr1, va1, wo1, b1, bp1)) ∨
       (∃ o4 o5 o6 o7 o8 o9 o10 r, m_X9_isRoom F 1 3 4 n un kd fr va wo 0 bp h g = some (1, o4, o5, o6, o7, o8, o9, o10) ∧ m_X9_valueHere F n o4 o5 o6 o7 o8 o9 o10 g = some (r, un1, kd1, fr1, va1, wo1, b1, bp1) ∧ bands < 4 ∧ FR lines odds parts walkers bands' sided st wk pc wd steps speeds paces carried' l (up h (36 + 3) (bands + 1)) p a (up bd (16 + bands) r) ∧ Kp h0 p0 a0 b0 (up h (36 + 3) (bands + 1)) p a (up bd (16 + bands) r))) := by
  have hn := T.1
  have hs := S.1
  obtain ⟨R1, R2, R3, R4, R5, R6, R7, R8, R9, R10⟩ := R
  unfold m_X4_readBand
  rw [ifI_lt (by omega) (by decide)]
  by_cases h4 : bands < 4
  · obtain ⟨kd', fr', un', va', wo', e1, e2, S', hl⟩ := next_pair hF T (un := un) (by omega)
    rw [if_pos h4, expect_t (bp := bp) hF T S (by decide) hw e1, bnd5_s]
    have eroom := room_t (F := F) (kd := kd) (fr := fr) (va := va) (wo := wo) (bp := bp) (x2 := 3) (x3 := 4) (h := h) (by decide) (by rw [show (36 : Int) + 3 = 39 by decide]; omega) (by decide) (by rw [show (36 : Int) + 3 = 39 by decide]; omega) e2
    obtain ⟨r, b2, bp2, kd2, fr2, un2, va2, wo2, c1, c2, N2, hr⟩ := number_pair (b := 0) (bp := bp) hF T S' (by decide) (lo := 1) (hi := 9999) (by decide)
    rw [c1, bnd6_s, chk_pos (by omega)]
    simp only [nam]
    refine ⟨_, _, _, _, _, va2, wo2, _, _, rfl, ⟨N2.tok, N2.b3, by have := N2.on; omega, fun z => ⟨rfl, (N2.good z).2⟩⟩, Or.inr ⟨_, _, _, _, _, _, _, r, eroom, by unfold m_X9_valueHere; rw [c2, bnd8_s], h4, ⟨R1, ?_, ?_, ?_, ?_, ?_, ?_, R8, R9, fun i i0 i1 => ?_⟩, fun j => ⟨fun hj => ?_, (K j).2.1, fun hj => ?_⟩⟩⟩
    · rw [up_ne (by decide)]
      exact R2
    · rw [up_ne (by decide)]
      exact R3
    · rw [up_ne (by decide)]
      exact R4
    · rw [show (36 : Int) + 3 = 39 by decide, up_at]
      omega
    · rw [up_ne (by decide)]
      exact R6
    · rw [up_ne (by decide), up_ne (by decide), up_ne (by decide), up_ne (by decide)]
      exact R7
    · by_cases e : i = bands
      · rw [e, up_at, up_at]
        exact ⟨rfl, hr⟩
      · rw [up_ne e, up_ne (by omega)]
        exact R10 i i0 (by omega)
    · rw [up_ne (by omega)]
      exact (K j).1 hj
    · rw [up_ne (by omega)]
      exact (K j).2.2 hj
  · rw [if_neg h4, (refuse_spec (b := 0) (by decide) 3).1, if_pos rfl, bnd2_s]
    exact ⟨_, _, _, _, _, va, wo, _, _, rfl, ⟨S, by decide, Int.le_refl _, fun z => absurd z (by decide)⟩, Or.inl ⟨by decide, room_full (by decide) (by rw [show (36 : Int) + 3 = 39 by decide]; omega)⟩⟩
theorem good_spec (hb : 0 ≤ b ∧ b ≤ 3) : m_X9_isGood F b = some (bI (b = 0)) := by
  unfold m_X9_isGood
  rw [ifI_eq (by omega) (by decide)]
  by_cases h : b = 0
  · rw [if_pos h, bI_t h]
  · rw [if_neg h, bI_f h]
/-- sides -/
theorem sidesL_pair (hF : 1000 ≤ F) (T : TapeR n f g) (S : TokR n f kd fr un va wo) (R : FR lines odds parts walkers bands sided st wk pc wd steps speeds paces carried l h p a bd) (K : Kp h0 p0 a0 b0 h p a bd) :
    ∃ b1 bp1 kd1 fr1 un1 va1 wo1 st' wk' pc' wd' h', m_X4_readSides F 0 bp n kd fr un f = some (b1, bp1, kd1, fr1, un1, 1, st', wk', pc', wd') ∧ mb_X9_line_140 F n un kd fr va wo 0 bp bd h a p g = some (un1, kd1, fr1, va1, wo1, b1, bp1, bd, h', a, p) ∧ Nx n f 0 bp fr b1 bp1 kd1 fr1 un1 va1 wo1 ∧ (b1 = 0 → FR lines odds parts walkers bands 1 st' wk' pc' wd' steps speeds paces carried l h' p a bd) ∧ Kp h0 p0 a0 b0 h' p a bd := by
  have hn := T.1
  obtain ⟨R1, R2, R3, R4, R5, R6, R7, R8, R9, R10⟩ := R
  obtain ⟨k0, k1, k2, k3, k4, k5, k6, k7, k8, k9, k10, k11, k12⟩ := kw_F
  unfold m_X4_readSides mb_X9_line_140
  obtain ⟨b1, bp1, kd1, fr1, un1, va1, wo1, c1, c2, N1⟩ := expect_pair (b := 0) (bp := bp) hF T S (by decide) (x := 8) (by decide) (by omega)
  obtain ⟨r2, b2, bp2, kd2, fr2, un2, va2, wo2, d1, d2, N2, hr2⟩ := named_pair (bp := bp1) hF T N1.tok N1.b3 (x := 9) (by decide) (by omega) (lo := 1) (hi := 9) (by decide)
  obtain ⟨r3, b3, bp3, kd3, fr3, un3, va3, wo3, e1, e2, N3, hr3⟩ := named_pair (bp := bp2) hF T N2.tok N2.b3 (x := 10) (by decide) (by omega) (lo := 1) (hi := 9) (by decide)
  obtain ⟨r4, b4, bp4, kd4, fr4, un4, va4, wo4, f1, f2, N4, hr4⟩ := named_pair (bp := bp3) hF T N3.tok N3.b3 (x := 7) (by decide) (by omega) (lo := 1) (hi := 30) (by decide)
  obtain ⟨r5, b5, bp5, kd5, fr5, un5, va5, wo5, g1, g2, N5, hr5⟩ := named_pair (bp := bp4) hF T N4.tok N4.b3 (x := 11) (by decide) (by omega) (lo := 0) (hi := 100) (by decide)
  rw [k8] at c2
  rw [k9] at d2
  rw [k10] at e2
  rw [k7] at f2
  rw [k11] at g2
  rw [c1, bnd5_s, d1, bnd6_s, e1, bnd6_s, f1, bnd6_s, g1, bnd6_s, if_pos rfl, c2, bnd7_s, d2, bnd8_s, e2, bnd8_s, f2, bnd8_s, g2, bnd8_s, good_spec N5.b3, bnd1_s, ifB]
  have NX : Nx n f 0 bp fr b5 bp5 kd5 fr5 un5 va5 wo5 := ⟨N5.tok, N5.b3, by have := N1.on; have := N2.on; have := N3.on; have := N4.on; have := N5.on; omega, fun z => ⟨rfl, by have q4 := N5.good z; have q3 := N4.good q4.1; have q2 := N3.good q3.1; have q1 := N2.good q2.1; have q0 := N1.good q1.1; omega⟩⟩
  by_cases hb : b5 = 0
  · rw [if_pos hb, tellsR (by decide), bnd1_s, tellsR (by decide), bnd1_s, tellsR (by decide), bnd1_s, tellsR (by decide), bnd1_s]
    refine ⟨_, _, _, _, _, _, _, _, _, _, _, _, rfl, rfl, NX, fun _ => ⟨R1, ?_, ?_, ?_, ?_, ?_, Or.inr ⟨rfl, ?_, ?_, ?_, ?_, hr2, hr3, hr4, hr5⟩, R8, R9, R10⟩, fun j => ⟨fun hj => ?_, (K j).2.1, (K j).2.2⟩⟩
    · rw [up_ne (by decide), up_ne (by decide), up_ne (by decide), up_ne (by decide)]
      exact R2
    · rw [up_ne (by decide), up_ne (by decide), up_ne (by decide), up_ne (by decide)]
      exact R3
    · rw [up_ne (by decide), up_ne (by decide), up_ne (by decide), up_ne (by decide)]
      exact R4
    · rw [up_ne (by decide), up_ne (by decide), up_ne (by decide), up_ne (by decide)]
      exact R5
    · rw [up_ne (by decide), up_ne (by decide), up_ne (by decide), up_ne (by decide)]
      exact R6
    · rw [up_ne (by decide), up_ne (by decide), up_ne (by decide), show (36 : Int) + 4 = 40 by decide, up_at]
    · rw [up_ne (by decide), up_ne (by decide), show (36 : Int) + 5 = 41 by decide, up_at]
    · rw [up_ne (by decide), show (36 : Int) + 6 = 42 by decide, up_at]
    · rw [show (36 : Int) + 7 = 43 by decide, up_at]
    · rw [up_ne (by omega), up_ne (by omega), up_ne (by omega), up_ne (by omega)]
      exact (K j).1 hj
  · rw [if_neg hb]
    exact ⟨_, _, _, _, _, _, _, _, _, _, _, _, rfl, rfl, NX, fun z => absurd z hb, K⟩
/-- a line behind the first -/
theorem line_pair (hF : 1000 ≤ F) (T : TapeR n f g) (S : TokR n f kd fr un va wo) (R : FR lines odds parts walkers bands sided st wk pc wd steps speeds paces carried l h p a bd) (K : Kp h0 p0 a0 b0 h p a bd) (hl : ¬ lines = 0) (hl2 : r32 lines) :
    ∃ b1 bp1 kd1 fr1 un1 va1 wo1 parts' walkers' bands' sided' st' wk' pc' wd' steps' speeds' paces' carried' h' p' a' bd',
      m_X4_readLine F 0 bp n kd fr un lines odds parts walkers bands sided st wk pc wd carried paces speeds steps f = mb_X4_readLine_86 F b1 bp1 n kd1 fr1 un1 lines odds parts' walkers' bands' sided' st' wk' pc' wd' carried' paces' speeds' steps' f ∧
      m_X9_line F n un kd fr va wo 0 bp bd h a p g = some (un1, kd1, fr1, va1, wo1, b1, bp1, bd', h', a', p') ∧ Nx n f 0 bp fr b1 bp1 kd1 fr1 un1 va1 wo1 ∧ (b1 = 0 → FR lines odds parts' walkers' bands' sided' st' wk' pc' wd' steps' speeds' paces' carried' l h' p' a' bd') ∧ Kp h0 p0 a0 b0 h' p' a' bd' := by
  have hn := T.1
  obtain ⟨k0, k1, k2, k3, k4, k5, k6, k7, k8, k9, k10, k11, k12⟩ := kw_F
  have i2 := is_spec (F := F) (b := 0) S (by decide) (K := 316163) (by decide)
  have i6 := is_spec (F := F) (b := 0) S (by decide) (K := 330800670) (by decide)
  have i12 := is_spec (F := F) (b := 0) S (by decide) (K := 40477) (by decide)
  unfold m_X4_readLine m_X9_line
  rw [ifI_eq hl2 (by decide), if_neg hl, isWord_spec hF T S (x := 2) (by decide), bnd1_s, ifB, i2, bnd1_s]
  by_cases c2 : kd = 1 ∧ wo = kw 2
  · rw [if_pos c2, bI_t (show (0 : Int) = 0 ∧ kd = 1 ∧ wo = 316163 from ⟨rfl, c2.1, by omega⟩)]
    obtain ⟨r3, b1, bp1, kd1, fr1, un1, va1, wo1, parts', speeds', steps', e1, N, ⟨-, hb, e2⟩ | ⟨-, o4, o5, o6, o7, o8, o9, o10, h', p', e2, e3, R', K'⟩⟩ := part_pair (bp := bp) hF T S c2 R K
    · unfold mb_X9_line_85 mb_X9_line_140
      have hb' := N.b3
      rw [e1, bnd8_s, e2, bnd8_s, if_pos rfl]
      simp only [ifI_eq (show r32 b1 by omega) (show r32 (0 : Int) by decide), if_neg hb]
      exact ⟨_, _, _, _, _, va1, wo1, _, _, _, _, _, _, _, _, _, _, _, _, _, _, _, _, rfl, rfl, N, fun z => absurd z hb, K⟩
    · rw [e1, bnd8_s, e2, bnd8_s, if_neg one0, e3, bnd9_s]
      exact ⟨_, _, _, _, _, va1, wo1, _, _, _, _, _, _, _, _, _, _, _, _, _, _, _, _, rfl, rfl, N, fun _ => R', K'⟩
  · rw [if_neg c2, bI_f (fun z => c2 ⟨z.2.1, by omega⟩), room_f, bnd8_s, if_pos rfl, if_pos rfl, isWord_spec hF T S (x := 6) (by decide), bnd1_s, ifB, i6, bnd1_s]
    by_cases c6 : kd = 1 ∧ wo = kw 6
    · rw [if_pos c6, bI_t (show (0 : Int) = 0 ∧ kd = 1 ∧ wo = 330800670 from ⟨rfl, c6.1, by omega⟩)]
      obtain ⟨b1, bp1, kd1, fr1, un1, va1, wo1, walkers', paces', e1, N, ⟨hb, e2⟩ | ⟨o4, o5, o6, o7, o8, o9, o10, r, e2, e3, hw8, R', K'⟩⟩ := walker_pair (bp := bp) hF T S c6 R K
      · unfold mb_X9_line_85 mb_X9_line_140
        have hb' := N.b3
        rw [e1, bnd7_s, e2, bnd8_s, if_pos rfl]
        simp only [ifI_eq (show r32 b1 by omega) (show r32 (0 : Int) by decide), if_neg hb]
        exact ⟨_, _, _, _, _, va1, wo1, _, _, _, _, _, _, _, _, _, _, _, _, _, _, _, _, rfl, rfl, N, fun z => absurd z hb, K⟩
      · have h38 : h (36 + 2) = walkers := by
          rw [show (36 : Int) + 2 = 38 by decide]
          exact R.2.2.2.1.1
        have hw0 := R.2.2.2.1.2.1
        rw [e1, bnd7_s, e2, bnd8_s, if_neg one0, hasR (by decide), bnd1_s, e3, bnd8_s, h38, chk_pos (by omega), bnd1_s, tellsR (by decide), bnd1_s]
        exact ⟨_, _, _, _, _, va1, wo1, _, _, _, _, _, _, _, _, _, _, _, _, _, _, _, _, rfl, rfl, N, fun _ => R', K'⟩
    · rw [if_neg c6, bI_f (fun z => c6 ⟨z.2.1, by omega⟩), room_f, bnd8_s, if_pos rfl, isWord_spec hF T S (x := 8) (by decide), bnd1_s, ifB]
      unfold mb_X9_line_85
      rw [if_pos rfl, i12, bnd1_s]
      by_cases c8 : kd = 1 ∧ wo = kw 8
      · rw [if_pos c8, bI_f (fun z => by omega), room_f, bnd8_s, if_pos rfl]
        obtain ⟨b1, bp1, kd1, fr1, un1, va1, wo1, st', wk', pc', wd', h', e1, e2, N, R', K'⟩ := sidesL_pair (bp := bp) hF T S R K
        rw [e1, bnd10_s, e2]
        exact ⟨_, _, _, _, _, va1, wo1, _, _, _, _, _, _, _, _, _, _, _, _, _, _, _, _, rfl, rfl, N, R', K'⟩
      · rw [if_neg c8, isWord_spec hF T S (x := 12) (by decide), bnd1_s, ifB]
        by_cases c12 : kd = 1 ∧ wo = kw 12
        · rw [if_pos c12, bI_t (show (0 : Int) = 0 ∧ kd = 1 ∧ wo = 40477 from ⟨rfl, c12.1, by omega⟩)]
          obtain ⟨b1, bp1, kd1, fr1, un1, va1, wo1, bands', carried', e1, N, ⟨hb, e2⟩ | ⟨o4, o5, o6, o7, o8, o9, o10, r, e2, e3, hw8, R', K'⟩⟩ := band_pair (bp := bp) hF T S c12 R K
          · unfold mb_X9_line_140
            have hb' := N.b3
            rw [e1, bnd7_s, e2, bnd8_s, if_pos rfl]
            simp only [ifI_eq (show r32 b1 by omega) (show r32 (0 : Int) by decide), if_neg hb]
            exact ⟨_, _, _, _, _, va1, wo1, _, _, _, _, _, _, _, _, _, _, _, _, _, _, _, _, rfl, rfl, N, fun z => absurd z hb, K⟩
          · have h39 : h (36 + 3) = bands := by
              rw [show (36 : Int) + 3 = 39 by decide]
              exact R.2.2.2.2.1.1
            have hw0 := R.2.2.2.2.1.2.1
            rw [e1, bnd7_s, e2, bnd8_s, if_neg one0, hasR (by decide), bnd1_s, e3, bnd8_s, h39, chk_pos (by omega), bnd1_s, tellsR (by decide), bnd1_s]
            exact ⟨_, _, _, _, _, va1, wo1, _, _, _, _, _, _, _, _, _, _, _, _, _, _, _, _, rfl, rfl, N, fun _ => R', K'⟩
        · rw [if_neg c12, bI_f (fun z => c12 ⟨z.2.1, by omega⟩), room_f, bnd8_s, if_pos rfl]
          -- no line begins so
          have hasks : m_X9_asks F 10277596 n un kd fr va wo 0 bp g = some (un, kd, fr, va, wo, 1, fr) := by
            unfold m_X9_asks
            have := takes_f (F := F) (g := g) (b := 0) S (by decide) (x := 8) (by omega) (fun z => c8 z.2)
            rw [k8] at this
            rw [this, bnd6_s, if_pos rfl, (refuse_spec (b := 0) (by decide) 1).2, if_pos rfl, bnd2_s]
          have hnum : ∀ K lo hi, m_X9_number_ F K lo hi n un kd fr va wo 1 fr g = some (lo, un, kd, fr, va, wo, 1, fr) := by
            intro K lo hi
            unfold m_X9_number_ m_X9_asks m_X9_takes m_X9_is m_X9_number m_X9_fails
            rw [if_neg one0, bnd1_s, if_pos rfl, bnd6_s, if_pos rfl, if_neg one0, bnd2_s, bnd7_s, if_neg one0, bnd8_s]
          unfold mb_X9_line_140
          rw [(refuse_spec (b := 0) (by decide) 1).1, if_pos rfl, bnd2_s, if_pos rfl, hasks, bnd7_s, hnum, bnd8_s, hnum, bnd8_s, hnum, bnd8_s, hnum, bnd8_s, good_spec (by decide), bnd1_s, ifB, if_neg (by decide)]
          exact ⟨_, _, _, _, _, va, wo, _, _, _, _, _, _, _, _, _, _, _, _, _, _, _, _, rfl, rfl, ⟨S, by decide, Int.le_refl _, fun z => absurd z (by decide)⟩, fun z => absurd z (by decide), K⟩
end LINES2
/-! STAIR: the whole text -/
section TEXT
variable {F : Nat} {n : Int} {f g : Int → Int} {b bp kd fr un va wo : Int}
variable {lines odds parts walkers bands sided st wk pc wd : Int} {steps speeds paces carried l h p a bd h0 p0 a0 b0 l0 : Int → Int}
theorem head_pair (hF : 1000 ≤ F) (T : TapeR n f g) (S : TokR n f kd fr un va wo) : ∃ r b1 bp1 kd1 fr1 un1 va1 wo1, m_X4_readHead F 0 bp n kd fr un f = some (b1, bp1, kd1, fr1, un1, r) ∧ (∀ (β : Type) (k : Int → Int → Int → Int → Int → Int → Int → Int → Option β), (bnd7 (m_X9_asks F 10492029 n un kd fr va wo 0 bp g) fun o3 o4 o5 o6 o7 o8 o9 => bnd8 (m_X9_number_ F 298288 0 100 n o3 o4 o5 o6 o7 o8 o9 g) fun r11 o12 o13 o14 o15 o16 o17 o18 => k r11 o12 o13 o14 o15 o16 o17 o18) = k r un1 kd1 fr1 va1 wo1 b1 bp1) ∧ Nx n f 0 bp fr b1 bp1 kd1 fr1 un1 va1 wo1 ∧ (0 ≤ r ∧ r ≤ 100) := by
  obtain ⟨k0, k1, k2, k3, k4, k5, k6, k7, k8, k9, k10, k11, k12⟩ := kw_F
  obtain ⟨b1, bp1, kd1, fr1, un1, va1, wo1, c1, c2, N1⟩ := expect_pair (b := 0) (bp := bp) hF T S (by decide) (x := 0) (by decide) (by omega)
  obtain ⟨r2, b2, bp2, kd2, fr2, un2, va2, wo2, d1, d2, N2, hr2⟩ := named_pair (bp := bp1) hF T N1.tok N1.b3 (x := 1) (by decide) (by omega) (lo := 0) (hi := 100) (by decide)
  rw [k0] at c2
  rw [k1] at d2
  unfold m_X4_readHead
  rw [c1, bnd5_s, d1, bnd6_s]
  refine ⟨_, _, _, _, _, _, va2, wo2, rfl, fun β k => ?_, ⟨N2.tok, N2.b3, by have := N1.on; have := N2.on; omega, fun z => ⟨rfl, (N2.good z).2.trans (N1.good (N2.good z).1).2⟩⟩, hr2⟩
  rw [c2, bnd7_s, d2, bnd8_s]
/-- the sign behind a line -/
theorem tail_pair (hF : 1000 ≤ F) (T : TapeR n f g) (S : TokR n f kd fr un va wo) (hb : 0 ≤ b ∧ b ≤ 3) : ∃ b2 bp2 kd2 fr2 un2 va2 wo2,
    (∀ lines odds parts walkers bands sided st wk pc wd carried paces speeds steps, mb_X4_readLine_86 F b bp n kd fr un lines odds parts walkers bands sided st wk pc wd carried paces speeds steps f = some (b2, bp2, kd2, fr2, un2, (if b2 = 0 then lines + 1 else lines), odds, parts, walkers, bands, sided, st, wk, pc, wd, carried, paces, speeds, steps)) ∧
    (∀ k13 th act bd h l a p, mb_X9_stair_65 F k13 th n un kd fr va wo b bp act bd h l a p g = k13 un2 kd2 fr2 va2 wo2 b2 bp2 bd h (up l 4 (l 4 + 1)) a p) ∧
    TokR n f kd2 fr2 un2 va2 wo2 ∧ (0 ≤ b2 ∧ b2 ≤ 3) ∧ fr ≤ fr2 ∧ (b2 = 0 → b = 0 ∧ fr < fr2 ∧ bp2 = bp) := by
  have hn := T.1
  have hs := S.1
  have hk := S.k4
  unfold mb_X4_readLine_86 mb_X9_stair_65 mb_X9_stair_76 m_X9_ends mb_X9_ends_13 mb_X4_readLine_106
  simp only [good_spec hb, bnd1_s, ifB, nam, (refuse_spec (F := F) (fr := fr) (bp := bp) hb 1).1, (refuse_spec (F := F) (fr := fr) (bp := bp) hb 1).2, ifI_eq (show r32 b by omega) (show r32 (0 : Int) by decide), ifI_eq (show r32 kd by omega) (show r32 (3 : Int) by decide)]
  by_cases h1 : b = 0
  · simp only [if_pos h1]
    by_cases h2 : kd = 3
    · obtain ⟨kd', fr', un', va', wo', e1, e2, S', hl⟩ := next_pair hF T (un := un) (by omega)
      have hlt : fr < un := by
        rcases S.2 with z | z | z | z | z <;> omega
      simp only [if_pos h2, e1, e2, bnd3_s, bnd5_s, bnd7_s]
      refine ⟨b, bp, kd', fr', un', va', wo', fun _ _ _ _ _ _ _ _ _ _ _ _ _ _ => ?_, fun _ _ _ _ _ _ _ _ => rfl, S', hb, by omega, fun _ => ⟨h1, by omega, rfl⟩⟩
      rw [if_pos h1]
    · simp only [if_neg h2, bnd2_s, if_neg one0, bnd7_s]
      refine ⟨1, fr, kd, fr, un, va, wo, fun _ _ _ _ _ _ _ _ _ _ _ _ _ _ => ?_, fun _ _ _ _ _ _ _ _ => rfl, S, by decide, Int.le_refl _, fun z => absurd z (by decide)⟩
      rw [if_neg (by decide)]
  · simp only [if_neg h1]
    refine ⟨b, bp, kd, fr, un, va, wo, fun _ _ _ _ _ _ _ _ _ _ _ _ _ _ => ?_, fun _ _ _ _ _ _ _ _ => rfl, S, hb, Int.le_refl _, fun z => absurd z h1⟩
    rw [if_neg h1]
theorem FR.line (R : FR lines odds parts walkers bands sided st wk pc wd steps speeds paces carried l h p a bd) : FR (lines + 1) odds parts walkers bands sided st wk pc wd steps speeds paces carried (up l 4 (l 4 + 1)) h p a bd := by
  obtain ⟨R1, R2⟩ := R
  refine ⟨?_, R2⟩
  rw [up_at]
  omega
theorem read_pair (hF : 100000 ≤ F) (T : TapeR n f g) (S : TokR n f kd fr un va wo) (R : FR 0 0 0 0 0 0 st wk pc wd steps speeds paces carried l h p a bd) (K : Kp h0 p0 a0 b0 h p a bd) (hl : ∀ j, j ≠ 4 → l j = l0 j) (act : Int → Int) :
    ∃ b' bp' kd' fr' un' lines' odds' parts' walkers' bands' sided' st' wk' pc' wd' carried' paces' speeds' steps' va' wo' bd' h' l' a' p',
      ml_X4_read_41 F 0 0 (-1) n kd fr un 0 0 0 0 0 0 st wk pc wd 0 carried paces speeds steps f = some (b', bp', n, kd', fr', un', lines', odds', parts', walkers', bands', sided', st', wk', pc', wd', 0, carried', paces', speeds', steps') ∧
      ml_X9_stair_13 F 0 n un kd fr va wo 0 (-1) act bd h l a p g = mb_X9_stair_89 F 0 un' kd' fr' va' wo' b' bp' act bd' h' l' a' p' ∧ (0 ≤ b' ∧ b' ≤ 3) ∧ (b' = 0 → bp' = -1) ∧ Kp h0 p0 a0 b0 h' p' a' bd' ∧ (∀ j, j ≠ 4 → l' j = l0 j) ∧
      (b' = 0 → FR lines' odds' parts' walkers' bands' sided' st' wk' pc' wd' steps' speeds' paces' carried' l' h' p' a' bd' ∧ lines' ≤ 900 ∧ (0 < walkers' → 0 < lines')) := by
  have hn := T.1
  unfold ml_X4_read_41 ml_X9_stair_13
  refine loopN_rel (I := fun s t => ∃ i b bp kd fr un lines odds parts walkers bands sided st wk pc wd carried paces speeds steps va wo bd h l a p, s = (i, b, bp, kd, fr, un, lines, odds, parts, walkers, bands, sided, st, wk, pc, wd, carried, paces, speeds, steps) ∧ t = (un, kd, fr, va, wo, b, bp, bd, h, l, a, p) ∧ TokR n f kd fr un va wo ∧ (0 ≤ b ∧ b ≤ 3) ∧ (b = 0 → bp = -1) ∧ Kp h0 p0 a0 b0 h p a bd ∧ (∀ j, j ≠ 4 → l j = l0 j) ∧ (0 ≤ i ∧ i ≤ n + 1) ∧ (b = 0 → FR lines odds parts walkers bands sided st wk pc wd steps speeds paces carried l h p a bd ∧ i = lines ∧ lines ≤ fr ∧ (0 < walkers → 0 < lines)))
    (μ := fun s => 2 * (n - s.2.2.2.2.1).toNat + (if s.2.1 = 0 then 1 else 0))
    (P := fun X Y => ∃ b' bp' kd' fr' un' lines' odds' parts' walkers' bands' sided' st' wk' pc' wd' carried' paces' speeds' steps' va' wo' bd' h' l' a' p',
      X = some (b', bp', n, kd', fr', un', lines', odds', parts', walkers', bands', sided', st', wk', pc', wd', 0, carried', paces', speeds', steps') ∧
      Y = mb_X9_stair_89 F 0 un' kd' fr' va' wo' b' bp' act bd' h' l' a' p' ∧ (0 ≤ b' ∧ b' ≤ 3) ∧ (b' = 0 → bp' = -1) ∧ Kp h0 p0 a0 b0 h' p' a' bd' ∧ (∀ j, j ≠ 4 → l' j = l0 j) ∧
      (b' = 0 → FR lines' odds' parts' walkers' bands' sided' st' wk' pc' wd' steps' speeds' paces' carried' l' h' p' a' bd' ∧ lines' ≤ 900 ∧ (0 < walkers' → 0 < lines'))) ?_ F _ _ ?_ ?_
  · rintro k1 k2 s t ⟨i, b, bp, kd, fr, un, lines, odds, parts, walkers, bands, sided, st, wk, pc, wd, carried, paces, speeds, steps, va, wo, bd, h, l, a, p, rfl, rfl, S, hb, hbp, K, hl, hi, hg⟩ ih
    simp only at ih ⊢
    have hs := S.1
    have hk := S.k4
    unfold mb_X4_read_41 mb_X9_stair_13
    rw [ifI_lt (by omega) (by omega), ifI_eq (a := kd) (by omega) (by decide), ifI_eq (a := b) (by omega) (by decide), good_spec hb, bnd1_s, ifB, ifI_eq (a := kd) (by omega) (by decide)]
    by_cases h1 : b = 0
    · obtain ⟨R, hil, hlf, hlw⟩ := hg h1
      rw [if_neg (show ¬ n < i by omega), if_pos h1, if_pos h1]
      by_cases h2 : kd = 0
      · rw [if_pos h2, if_pos h2]
        exact ⟨_, _, _, _, _, _, _, _, _, _, _, _, _, _, _, _, _, _, _, va, wo, _, _, _, _, _, rfl, rfl, hb, hbp, K, hl, fun _ => ⟨R, by omega, hlw⟩⟩
      · rw [if_neg h2, if_neg h2]
        have hl4 : l 4 = lines := R.1.1
        have hl0 := R.1.2
        subst h1
        -- behind the line
        have fin : ∀ (b1 bp1 kd1 fr1 un1 va1 wo1 odds' parts' walkers' bands' sided' st' wk' pc' wd' : Int) (carried' paces' speeds' steps' bd' h' a' p' : Int → Int), Nx n f 0 bp fr b1 bp1 kd1 fr1 un1 va1 wo1 → (b1 = 0 → FR lines odds' parts' walkers' bands' sided' st' wk' pc' wd' steps' speeds' paces' carried' l h' p' a' bd') → Kp h0 p0 a0 b0 h' p' a' bd' →
            ∃ b' bp' kd' fr' un' lines' odds'' parts'' walkers'' bands'' sided'' st'' wk'' pc'' wd'' carried'' paces'' speeds'' steps'' va' wo' bd'' h'' l'' a'' p'',
              (bnd19 (mb_X4_readLine_86 F b1 bp1 n kd1 fr1 un1 lines odds' parts' walkers' bands' sided' st' wk' pc' wd' carried' paces' speeds' steps' f) fun o1 o2 o3 o4 o5 o6 o7 o8 o9 o10 o11 o12 o13 o14 o15 o16 o17 o18 o19 => k1 (i + 1, o1, o2, o3, o4, o5, o6, o7, o8, o9, o10, o11, o12, o13, o14, o15, o16, o17, o18, o19)) = some (b', bp', n, kd', fr', un', lines', odds'', parts'', walkers'', bands'', sided'', st'', wk'', pc'', wd'', 0, carried'', paces'', speeds'', steps'') ∧
              mb_X9_stair_65 F (fun y0 y1 y2 y3 y4 y5 y6 y7 y8 y9 y10 y11 => k2 (y0, y1, y2, y3, y4, y5, y6, y7, y8, y9, y10, y11)) 0 n un1 kd1 fr1 va1 wo1 b1 bp1 act bd' h' l a' p' g = mb_X9_stair_89 F 0 un' kd' fr' va' wo' b' bp' act bd'' h'' l'' a'' p'' ∧ (0 ≤ b' ∧ b' ≤ 3) ∧ (b' = 0 → bp' = -1) ∧ Kp h0 p0 a0 b0 h'' p'' a'' bd'' ∧ (∀ j, j ≠ 4 → l'' j = l0 j) ∧
              (b' = 0 → FR lines' odds'' parts'' walkers'' bands'' sided'' st'' wk'' pc'' wd'' steps'' speeds'' paces'' carried'' l'' h'' p'' a'' bd'' ∧ lines' ≤ 900 ∧ (0 < walkers'' → 0 < lines')) := by
          intro b1 bp1 kd1 fr1 un1 va1 wo1 odds' parts' walkers' bands' sided' st' wk' pc' wd' carried' paces' speeds' steps' bd' h' a' p' N R' K'
          obtain ⟨b2, bp2, kd2, fr2, un2, va2, wo2, c1, c2, S2, hb2, hf2, hg2⟩ := tail_pair (F := F) (bp := bp1) (by omega) T N.tok N.b3
          have hf1 := N.on
          have hs2 := S2.1
          rw [c1, c2, bnd19_s]
          refine ih _ _ ⟨i + 1, b2, bp2, kd2, fr2, un2, _, odds', parts', walkers', bands', sided', st', wk', pc', wd', carried', paces', speeds', steps', va2, wo2, bd', h', _, a', p', rfl, rfl, S2, hb2, ?_, K', fun j hj => ?_, by omega, fun z => ?_⟩ ?_
          · intro z
            have q1 := hg2 z
            have q2 := (N.good q1.1).2
            have q3 := hbp rfl
            omega
          · rw [up_ne hj]
            exact hl j hj
          · rw [if_pos z]
            have := hg2 z
            exact ⟨(R' this.1).line, by omega, by omega, fun _ => by omega⟩
          · simp only
            by_cases z : b2 = 0
            · have := hg2 z
              rw [if_pos z]
              omega
            · rw [if_neg z, if_pos trivial]
              omega
        rw [ifI_eq (a := l 4) (b := 0) (by omega) (by decide)]
        by_cases h3 : l 4 = 0
        · obtain ⟨r, b1, bp1, kd1, fr1, un1, va1, wo1, c1, c2, N, hr⟩ := head_pair (bp := bp) (F := F) (by omega) T S
          have hcomp : m_X4_readLine F 0 bp n kd fr un lines odds parts walkers bands sided st wk pc wd carried paces speeds steps f = mb_X4_readLine_86 F b1 bp1 n kd1 fr1 un1 lines r parts walkers bands sided st wk pc wd carried paces speeds steps f := by
            unfold m_X4_readLine
            rw [ifI_eq (by omega) (by decide), if_pos (by omega), c1, bnd6_s]
          rw [if_pos h3, hcomp, c2, tellsR (by decide), bnd1_s]
          refine fin _ _ _ _ _ _ _ _ _ _ _ _ _ _ _ _ _ _ _ _ _ _ _ _ N (fun _ => ?_) ?_
          · obtain ⟨R1, R2, R3, R4, R5, R6, R7, R8, R9, R10⟩ := R
            refine ⟨R1, ?_, ?_, ?_, ?_, ?_, ?_, R8, R9, R10⟩
            · rw [show (36 : Int) + 0 = 36 by decide, up_at]
              exact ⟨rfl, hr⟩
            · rw [up_ne (by decide)]
              exact R3
            · rw [up_ne (by decide)]
              exact R4
            · rw [up_ne (by decide)]
              exact R5
            · rw [up_ne (by decide)]
              exact R6
            · rw [up_ne (by decide), up_ne (by decide), up_ne (by decide), up_ne (by decide)]
              exact R7
          · intro j
            refine ⟨fun hj => ?_, (K j).2.1, (K j).2.2⟩
            rw [up_ne (by omega)]
            exact (K j).1 hj
        · obtain ⟨b1, bp1, kd1, fr1, un1, va1, wo1, parts', walkers', bands', sided', st', wk', pc', wd', steps', speeds', paces', carried', h', p', a', bd', c1, c2, N, R', K'⟩ := line_pair (bp := bp) (F := F) (by omega) T S R K (by omega) (by omega)
          rw [if_neg h3, c1, c2, bnd11_s]
          exact fin _ _ _ _ _ _ _ _ _ _ _ _ _ _ _ _ _ _ _ _ _ _ _ _ N R' K'
    · rw [if_neg h1, if_neg h1]
      by_cases h2 : n < i
      · rw [if_pos h2]
        exact ⟨_, _, _, _, _, _, _, _, _, _, _, _, _, _, _, _, _, _, _, va, wo, _, _, _, _, _, rfl, rfl, hb, hbp, K, hl, fun z => absurd z h1⟩
      · rw [if_neg h2]
        by_cases h3 : kd = 0
        · rw [if_pos h3]
          exact ⟨_, _, _, _, _, _, _, _, _, _, _, _, _, _, _, _, _, _, _, va, wo, _, _, _, _, _, rfl, rfl, hb, hbp, K, hl, fun z => absurd z h1⟩
        · rw [if_neg h3]
          exact ⟨_, _, _, _, _, _, _, _, _, _, _, _, _, _, _, _, _, _, _, va, wo, _, _, _, _, _, rfl, rfl, hb, hbp, K, hl, fun z => absurd z h1⟩
  · have hs := S.1
    exact ⟨_, _, _, _, _, _, _, _, _, _, _, _, _, _, _, _, _, _, _, _, va, wo, _, _, _, _, _, rfl, rfl, S, by decide, fun _ => rfl, K, hl, by omega, fun _ => ⟨R, rfl, by omega, fun z => absurd z (by decide)⟩⟩
  · have hs := S.1
    simp only
    split <;> omega
theorem clears_spec (hF : 1000 ≤ F) (h l : Int → Int) : ∃ h', m_X9_clears0 F h l = some (h', up l 4 0) ∧ (∀ j, j < 36 → h' j = h j) ∧ ∀ j, 36 ≤ j → j < 45 → h' j = 0 := by
  unfold m_X9_clears0 ml_X9_clears0_9
  refine loopN_rec (I := fun q : Int × (Int → Int) => (0 ≤ q.1 ∧ q.1 ≤ 9) ∧ (∀ j, j < 36 → q.2 j = h j) ∧ ∀ j, 36 ≤ j → j < 36 + q.1 → q.2 j = 0) (μ := fun q => (9 - q.1).toNat) (P := fun q y => ∃ h' : Int → Int, y = some (h', up l 4 0) ∧ (∀ j, j < 36 → h' j = h j) ∧ ∀ j, 36 ≤ j → j < 45 → h' j = 0) ?_ F (0, h) ?_ ?_
  · rintro k ⟨i, e⟩ ⟨hi, h1, h2⟩ ih
    simp only at hi h1 h2 ih ⊢
    unfold mb_X9_clears0_9
    rw [ifI_le (by decide) (by omega)]
    by_cases c1 : 9 ≤ i
    · rw [if_pos c1]
      exact ⟨e, rfl, h1, fun j a b => h2 j a (by omega)⟩
    · rw [if_neg c1, tellsR (by omega), bnd1_s]
      refine ih _ ⟨by simp only; omega, fun j a => ?_, fun j a b => ?_⟩ (by simp only; omega)
      · simp only
        rw [up_ne (by omega)]
        exact h1 j a
      · simp only at b ⊢
        by_cases z : j = 36 + i
        · rw [z, up_at]
        · rw [up_ne z]
          exact h2 j a (by omega)
  · exact ⟨by simp only; omega, fun j a => rfl, fun j a b => by simp only at b; omega⟩
  · simp only
    omega
theorem FR.lay {c aP aS : Int → Int} (R : FR lines odds parts walkers bands sided st wk pc wd steps speeds paces carried l h p a bd) (hl : lines ≤ 900) : LayK 4 lines odds parts steps speeds walkers paces bands carried sided st wk pc wd 0 aP aS l h p a bd c := by
  obtain ⟨R1, R2, R3, R4, R5, R6, R7, R8, R9, R10⟩ := R
  refine ⟨⟨R1.1, R1.2, by omega⟩, R2, R3, R4, R5, ⟨R6, by decide, by decide⟩, R7, fun i i0 i1 => ?_, R9, R10, fun k hk => absurd hk (by omega), fun i i0 i1 => ?_⟩
  · obtain ⟨q1, q2, q3, q4⟩ := R8 i i0 i1
    simp only
    rw [show (8 : Int) * 4 + 2 * i = 32 + 2 * i by omega, show (8 : Int) * 4 + (2 * i + 1) = 33 + 2 * i by omega, q1, q3]
    exact ⟨rfl, q2.1, q2.2, q4⟩
  · obtain ⟨q1, q2, q3, q4⟩ := R8 i i0 i1
    show speeds i = p (8 * 4 + (2 * i + 1))
    rw [show (8 : Int) * 4 + (2 * i + 1) = 33 + 2 * i by omega, q3]
end TEXT
section STAIR
variable {lines odds parts walkers bands sided st wk pc wd acts : Int} {steps speeds paces carried aP aS l h p a b c : Int → Int} {F : Nat}
variable {im iL iO iP iW iB iS iT iK iC iD iA kept : Int → Int} {jP jS jC jW jV jT : Int → Int → Int}
/-- stair -/
theorem op_stair (hF : 100000 ≤ F) (L : LayN lines odds parts steps speeds walkers paces bands carried sided st wk pc wd acts aP aS l h p a b c) (hlw : 0 < walkers → 0 < lines) (I : ImgR im iL iO iP iW iB iS iT iK iC iD iA jP jS jC jW jV jT kept l h p a b c) {n : Int} {f g : Int → Int} (T : TapeR n f g) (u1 u2 u3 u4 : Int) (f1 f2 f3 f4 f5 f6 : Int → Int) :
    ∃ r k pl x1 x2 x3 x4 x5 x6 x7 x8 x9 x10 x11 y1 y2 y3 y4 lines' odds' parts' walkers' bands' sided' st' wk' pc' wd' acts' aP' aS' carried' paces' speeds' steps' z1 z2 z3 z4 z5 z6 w1 w2 w3 w4 w5 w6 w7 c' b' h' l' a' p',
      m_X8_stair F n lines odds parts walkers bands sided st wk pc wd acts aP aS carried paces speeds steps u1 u2 u3 u4 f1 f2 f3 f4 f5 f6 f = some (r, 0, k, pl, lines', odds', parts', walkers', bands', sided', st', wk', pc', wd', acts', aP', aS', carried', paces', speeds', steps', z1, z2, z3, z4, z5, z6, x1, x2, x3, x4, x5, x6, x7, x8, x9, x10, x11, y1, y2, y3, y4) ∧
      m_X9_stair F n c b h l a p g = some (r, 0, 0, w1, w2, w3, w4, w5, w6, w7, k, pl, c', b', h', l', a', p') ∧
      LayN lines' odds' parts' steps' speeds' walkers' paces' bands' carried' sided' st' wk' pc' wd' acts' aP' aS' l' h' p' a' b' c' ∧ (0 < walkers' → 0 < lines') ∧ ImgR im iL iO iP iW iB iS iT iK iC iD iA jP jS jC jW jV jT kept l' h' p' a' b' c' := by
  have hn := T.1
  obtain ⟨h1, e1, q1, q2⟩ := clears_spec (F := F) (by omega) h l
  obtain ⟨kd, fr, un, va, wo, e2, e3, S, -⟩ := next_pair (F := F) (by omega) T (un := 0) (by omega)
  have R : FR 0 0 0 0 0 0 u1 u2 u3 u4 f6 f5 f4 f3 (up l 4 0) h1 p a b := ⟨⟨up_at _ _ _, by decide⟩, ⟨q2 36 (by decide) (by decide), by decide, by decide⟩, ⟨q2 37 (by decide) (by decide), by decide, by decide⟩, ⟨q2 38 (by decide) (by decide), by decide, by decide⟩, ⟨q2 39 (by decide) (by decide), by decide, by decide⟩, q2 44 (by decide) (by decide), Or.inl ⟨rfl, q2 40 (by decide) (by decide)⟩, fun i i0 i1 => by omega, fun i i0 i1 => by omega, fun i i0 i1 => by omega⟩
  obtain ⟨b', bp', kd', fr', un', lines', odds', parts', walkers', bands', sided', st', wk', pc', wd', carried', paces', speeds', steps', va', wo', bd', h', l', a', p', e4, e5, hb, hbp, K, hl, hG⟩ := read_pair (F := F) hF T S R (h0 := h) (p0 := p) (a0 := a) (b0 := b) (l0 := l) (fun j => ⟨q1 j, fun _ => ⟨rfl, rfl⟩, fun _ => rfl⟩) (fun j hj => up_ne hj) c
  unfold m_X8_stair m_X9_stair m_X4_read m_X2_clear m_X9_begins
  rw [min32 (by omega) (by decide), if_neg (by omega), bnd1_s, bnd7_s, e2, bnd3_s, e4, bnd21_s, e1, bnd2_s, e3, bnd5_s, bnd7_s, e5]
  unfold mb_X9_stair_89 m_X9_isOver mb_X9_isOver_29
  rw [ifI_eq (a := b') (by omega) (by decide), ifI_eq (a := b') (by omega) (by decide)]
  have L1 : LayN lines odds parts steps speeds walkers paces bands carried sided st wk pc wd acts aP aS l' h' p' a' bd' c := by
    have hl0 : l' 0 = l 0 := hl 0 (by decide)
    unfold LayN
    rw [hl0]
    exact Lay.congr L (fun i i0 i1 => (K i).1 (by omega)) (fun i i0 i1 => ((K i).2.1 (by omega)).1) (fun i i0 i1 => ((K i).2.1 (by omega)).2) (fun i i0 i1 => (K i).2.2 (by omega)) (fun i i0 i1 => rfl)
  have I1 : ImgR im iL iO iP iW iB iS iT iK iC iD iA jP jS jC jW jV jT kept l' h' p' a' bd' c := by
    intro k k0 k1
    rcases I k k0 k1 with q | ⟨s1, s2, s3, s4⟩
    · exact Or.inl q
    · refine Or.inr ⟨s1, s2, ?_, s4⟩
      have hlk : l' (1 + k) = l (1 + k) := hl _ (by omega)
      unfold LayK
      rw [hlk]
      exact Lay.congr s3 (fun i i0 i1 => (K _).1 (by omega)) (fun i i0 i1 => ((K _).2.1 (by omega)).1) (fun i i0 i1 => ((K _).2.1 (by omega)).2) (fun i i0 i1 => (K _).2.2 (by omega)) (fun i i0 i1 => rfl)
  by_cases hb0 : b' = 0
  · obtain ⟨R', hl9, hlw'⟩ := hG hb0
    obtain ⟨c2, b2, h2, l2, a2, p2, e6, r1, r2, r3, r4, r5, r6⟩ := copyStair_spec (F := F) (by omega) (x := 4) (y := 0) (by decide) (by decide) (by decide) c bd' h' l' a' p'
    have LK := R'.lay (c := c) (aP := f1) (aS := f2) hl9
    have L2 := LayK.unzero (LayK.copied LK r1 r2 r3 r4 r5 r6)
    have hl20 : l2 0 = lines' := L2.1.1
    unfold m_X2_copyFrom
    rw [if_pos hb0, if_pos hb0, bnd3_s, ifI_eq (a := b') (by omega) (by decide), if_pos hb0, chk_pos LK.sided01, bnd17_s, e6, bnd6_s, hl20, hbp hb0]
    refine ⟨_, _, _, _, _, _, _, _, _, _, _, _, _, _, _, _, _, _, _, _, _, _, _, _, _, _, _, _, _, _, _, _, _, _, _, _, _, _, _, _, _, _, _, _, _, _, _, _, _, _, _, _, _, _, rfl, rfl, ?_, hlw', ?_⟩
    · exact Lay.congr8 L2 (fun i i0 i1 => ⟨cpy0 i0 i1, cpy0 i0 i1, cpy0 i0 i1⟩) (fun i i0 i1 => cpy0 i0 i1) (fun i i0 i1 => ⟨cpy0 i0 i1, cpy0 i0 i1⟩)
    · intro k k0 k1
      rcases I1 k k0 k1 with q | ⟨s1, s2, s3, s4⟩
      · exact Or.inl q
      · exact Or.inr ⟨s1, s2, LayK.stays (by omega) s3 r1 r2 r3 r4 r5 r6, s4⟩
  · rw [if_neg hb0, if_neg hb0, bnd3_s, ifI_eq (a := b') (by omega) (by decide), if_neg hb0]
    exact ⟨_, _, _, _, _, _, _, _, _, _, _, _, _, _, _, _, _, _, _, _, _, _, _, _, _, _, _, _, _, _, _, _, _, _, _, _, _, _, _, _, _, _, _, _, _, _, _, _, _, _, _, _, _, _, rfl, rfl, L1, hlw, I1⟩
end STAIR
