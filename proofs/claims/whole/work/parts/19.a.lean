/-! BITS: the words of 32 bits as natural numbers -/
theorem wI_nat {a : Nat} (h : a < 2147483648) : (wI (a : Int)).toBitVec.toNat = a := by
  show (BitVec.ofInt 32 (a : Int)).toNat = a
  rw [BitVec.toNat_ofInt]
  omega
theorem bv_int {x : BitVec 32} (h : x.toNat < 2147483648) : x.toInt = (x.toNat : Int) := by
  rw [BitVec.toInt_eq_toNat_cond]
  rw [if_pos (by omega)]
theorem and_n {a b : Nat} (ha : a < 2147483648) (hb : b < 2147483648) : andI (a : Int) (b : Int) = ((a &&& b : Nat) : Int) := by
  have e : ((wI (a : Int)).toBitVec &&& (wI (b : Int)).toBitVec).toNat = a &&& b := by
    rw [BitVec.toNat_and, wI_nat ha, wI_nat hb]
  have l : a &&& b < 2147483648 := Nat.lt_of_le_of_lt Nat.and_le_left ha
  show ((wI (a : Int)).toBitVec &&& (wI (b : Int)).toBitVec).toInt = _
  rw [bv_int (by omega), e]
theorem or_n {a b : Nat} (ha : a < 2147483648) (hb : b < 2147483648) : orI (a : Int) (b : Int) = ((a ||| b : Nat) : Int) := by
  have e : ((wI (a : Int)).toBitVec ||| (wI (b : Int)).toBitVec).toNat = a ||| b := by
    rw [BitVec.toNat_or, wI_nat ha, wI_nat hb]
  have l : a ||| b < 2147483648 := Nat.or_lt_two_pow (n := 31) ha hb
  show ((wI (a : Int)).toBitVec ||| (wI (b : Int)).toBitVec).toInt = _
  rw [bv_int (by omega), e]
/-- a and not b -/
theorem andn_n {a b n : Nat} (hn : n ≤ 31) (ha : a < 2 ^ n) (hb : b < 2 ^ n) : andI (a : Int) (xorI (b : Int) (-1)) = ((a &&& (2 ^ n - (b + 1)) : Nat) : Int) := by
  have h31 : 2 ^ n ≤ 2147483648 := Nat.pow_le_pow_right (by decide) hn
  have e : ((wI (a : Int)).toBitVec &&& ((wI (b : Int)).toBitVec ^^^ BitVec.allOnes 32)).toNat = a &&& (2 ^ n - (b + 1)) := by
    rw [BitVec.toNat_and, BitVec.xor_allOnes, BitVec.toNat_not, wI_nat (by omega), wI_nat (by omega)]
    refine Nat.eq_of_testBit_eq (fun i => ?_)
    rw [Nat.testBit_and, Nat.testBit_and, show 2 ^ 32 - 1 - b = 2 ^ 32 - (b + 1) by omega, Nat.testBit_two_pow_sub_succ (by omega), Nat.testBit_two_pow_sub_succ hb]
    by_cases hi : i < n
    · rw [decide_eq_true hi, decide_eq_true (show i < 32 by omega)]
    · rw [Nat.testBit_lt_two_pow (Nat.lt_of_lt_of_le ha (Nat.pow_le_pow_right (by decide) (by omega)))]
      rfl
  have l : a &&& (2 ^ n - (b + 1)) < 2147483648 := Nat.lt_of_le_of_lt Nat.and_le_left (by omega)
  have x1 : xorI (b : Int) (-1) = ((wI (b : Int)).toBitVec ^^^ BitVec.allOnes 32).toInt := rfl
  have x2 : wI (((wI (b : Int)).toBitVec ^^^ BitVec.allOnes 32).toInt) = ⟨⟨(wI (b : Int)).toBitVec ^^^ BitVec.allOnes 32⟩⟩ := by
    show (⟨⟨BitVec.ofInt 32 _⟩⟩ : Int32) = _
    rw [BitVec.ofInt_toInt]
  unfold andI
  rw [x1, x2]
  show ((wI (a : Int)).toBitVec &&& ((wI (b : Int)).toBitVec ^^^ BitVec.allOnes 32)).toInt = _
  rw [bv_int (by omega), e]
theorem shr_n {a k : Nat} (ha : a < 2147483648) (hk : k < 32) : ushrI (a : Int) (k : Int) = ((a / 2 ^ k : Nat) : Int) := by
  have e : ((wI (a : Int)).toBitVec >>> (((wI (k : Int)).toBitVec &&& 31#32) % 32#32)).toNat = a / 2 ^ k := by
    rw [BitVec.ushiftRight_eq', BitVec.toNat_ushiftRight, wI_nat ha, BitVec.toNat_umod, BitVec.toNat_and, wI_nat (by omega)]
    show a >>> ((k &&& 31) % 32) = _
    rw [show k &&& 31 = k % 32 from Nat.and_two_pow_sub_one_eq_mod k 5, Nat.mod_mod, Nat.mod_eq_of_lt hk, Nat.shiftRight_eq_div_pow]
  have l : a / 2 ^ k < 2147483648 := Nat.lt_of_le_of_lt (Nat.div_le_self _ _) ha
  show ((wI (a : Int)).toBitVec >>> (((wI (k : Int)).toBitVec &&& 31#32) % 32#32)).toInt = _
  rw [bv_int (by omega), e]
theorem shl_F : ∀ k : Fin 31, shlI 1 (k.val : Int) = ((2 ^ k.val : Nat) : Int) := by decide +kernel
theorem shl_n {k : Nat} (hk : k < 31) : shlI 1 (k : Int) = ((2 ^ k : Nat) : Int) := shl_F ⟨k, hk⟩
/-! the count of bits -/
def pcN : Nat → Nat → Nat
  | 0, _ => 0
  | f + 1, x => x % 2 + pcN f (x / 2)
theorem pcN_split {f : Nat} {y : Nat} : ∀ m x : Nat, x < 2 ^ m → pcN (m + f) (x + 2 ^ m * y) = pcN m x + pcN f y
  | 0, x, h => by
    rw [show x = 0 by simpa using h]
    simp [pcN]
  | m + 1, x, h => by
    rw [show m + 1 + f = (m + f) + 1 by omega]
    show (x + 2 ^ (m + 1) * y) % 2 + pcN (m + f) ((x + 2 ^ (m + 1) * y) / 2) = (x % 2 + pcN m (x / 2)) + pcN f y
    have e : 2 ^ (m + 1) * y = 2 * (2 ^ m * y) := by
      rw [Nat.pow_succ, Nat.mul_comm (2 ^ m) 2, Nat.mul_assoc]
    have hx : x / 2 < 2 ^ m := by
      rw [Nat.pow_succ] at h
      omega
    have := pcN_split (f := f) (y := y) m (x / 2) hx
    rw [e, show (x + 2 * (2 ^ m * y)) % 2 = x % 2 by omega, show (x + 2 * (2 ^ m * y)) / 2 = x / 2 + 2 ^ m * y by omega, this, Nat.add_assoc]
theorem pcN_zero : ∀ f : Nat, pcN f 0 = 0
  | 0 => rfl
  | f + 1 => by
    unfold pcN
    rw [show 0 / 2 = 0 from rfl, pcN_zero f]
theorem land_byte {a b r s : Nat} (hr : r < 256) (hs : s < 256) : (r + 256 * a) &&& (s + 256 * b) = (r &&& s) + 256 * (a &&& b) := by
  have h1 := Nat.and_mod_two_pow (a := r + 256 * a) (b := s + 256 * b) (n := 8)
  have h2 := Nat.and_div_two_pow (a := r + 256 * a) (b := s + 256 * b) (n := 8)
  rw [show (2 : Nat) ^ 8 = 256 from rfl, show (r + 256 * a) % 256 = r by omega, show (s + 256 * b) % 256 = s by omega] at h1
  rw [show (2 : Nat) ^ 8 = 256 from rfl, show (r + 256 * a) / 256 = a by omega, show (s + 256 * b) / 256 = b by omega] at h2
  omega
def b1 (a : Nat) : Nat := a - (a / 2 &&& 85)
def b2 (a : Nat) : Nat := (a &&& 51) + (a / 4 &&& 51)
def b3 (a : Nat) : Nat := a + a / 16 &&& 15
theorem byteF1 : ∀ a : Fin 256, (a.val / 2 &&& 85) = ((a.val / 2 + 128) &&& 85) ∧ (a.val / 2 &&& 85) ≤ a.val ∧ b1 a.val < 256 := by decide +kernel
theorem byteF2 : ∀ a : Fin 256, (∀ r : Fin 4, ((a.val / 4 + 64 * r.val) &&& 51) = (a.val / 4 &&& 51)) ∧ b2 a.val < 256 := by decide +kernel
theorem byteF3 : ∀ a : Fin 256, b3 (b2 (b1 a.val)) = pcN 8 a.val ∧ b2 (b1 a.val) ≤ 68 ∧ b2 (b1 a.val) % 16 ≤ 4 ∧ pcN 8 a.val ≤ 8 := by decide +kernel
theorem st1 {a x M : Nat} (ha : a < 256) (hx : (x / 2 &&& M) ≤ x) : a + 256 * x - ((a + 256 * x) / 2 &&& (85 + 256 * M)) = b1 a + 256 * (x - (x / 2 &&& M)) ∧ ((a + 256 * x) / 2 &&& (85 + 256 * M)) ≤ a + 256 * x := by
  obtain ⟨h1, h2, h3⟩ := byteF1 ⟨a, ha⟩
  simp only at h1 h2 h3
  have e : (a + 256 * x) / 2 = (a / 2 + 128 * (x % 2)) + 256 * (x / 2) := by omega
  rw [e, land_byte (by omega) (by decide)]
  have : (a / 2 + 128 * (x % 2) &&& 85) = (a / 2 &&& 85) := by
    rcases Nat.mod_two_eq_zero_or_one x with h | h
    · rw [h]
      rfl
    · rw [h]
      exact h1.symm
  rw [this]
  unfold b1
  omega
theorem st2 {a x M : Nat} (ha : a < 256) : ((a + 256 * x) &&& (51 + 256 * M)) + ((a + 256 * x) / 4 &&& (51 + 256 * M)) = b2 a + 256 * ((x &&& M) + (x / 4 &&& M)) := by
  obtain ⟨h1, h2⟩ := byteF2 ⟨a, ha⟩
  simp only at h1 h2
  have e : (a + 256 * x) / 4 = (a / 4 + 64 * (x % 4)) + 256 * (x / 4) := by omega
  have h3 := h1 ⟨x % 4, Nat.mod_lt _ (by decide)⟩
  simp only at h3
  rw [e, land_byte ha (by decide), land_byte (by omega) (by decide), h3]
  unfold b2
  omega
theorem and15 (z : Nat) : z &&& 15 = z % 16 := Nat.and_two_pow_sub_one_eq_mod z 4
theorem st3 {a x M : Nat} (ha : a ≤ 68) (hx : x % 16 ≤ 4) : ((a + 256 * x) + (a + 256 * x) / 16 &&& (15 + 256 * M)) = b3 a + 256 * (x + x / 16 &&& M) := by
  have e : (a + 256 * x) + (a + 256 * x) / 16 = (a + a / 16 + 16 * (x % 16)) + 256 * (x + x / 16) := by omega
  unfold b3
  rw [e, land_byte (by omega) (by decide), and15, and15]
  omega
theorem bits_nat {a b c : Nat} (ha : a < 256) (hb : b < 256) (hc : c < 256) : ∃ y1 y2 y3, y1 = (a + 256 * (b + 256 * c)) - ((a + 256 * (b + 256 * c)) / 2 &&& 1431655765) ∧ y1 < 16777216 ∧ ((a + 256 * (b + 256 * c)) / 2 &&& 1431655765) ≤ a + 256 * (b + 256 * c) ∧ y2 = (y1 &&& 858993459) + (y1 / 4 &&& 858993459) ∧ y2 < 16777216 ∧ y3 = (y2 + y2 / 16 &&& 252645135) ∧ y3 = pcN 8 a + 256 * (pcN 8 b + 256 * pcN 8 c) := by
  obtain ⟨a1, a2, a3⟩ := byteF1 ⟨a, ha⟩
  obtain ⟨b1', b2', b3'⟩ := byteF1 ⟨b, hb⟩
  obtain ⟨c1, c2, c3⟩ := byteF1 ⟨c, hc⟩
  simp only at a1 a2 a3 b1' b2' b3' c1 c2 c3
  obtain ⟨d1, d2, d3, d4⟩ := byteF3 ⟨a, ha⟩
  obtain ⟨e1, e2, e3, e4⟩ := byteF3 ⟨b, hb⟩
  obtain ⟨f1, f2, f3, f4⟩ := byteF3 ⟨c, hc⟩
  simp only at d1 d2 d3 d4 e1 e2 e3 e4 f1 f2 f3 f4
  obtain ⟨s1, s2⟩ := st1 (a := c) (x := 0) (M := 85) hc (by decide)
  have s1 : c - (c / 2 &&& (85 + 256 * 85)) = b1 c := s1
  have s2 : (c / 2 &&& (85 + 256 * 85)) ≤ c := s2
  obtain ⟨t1, t2⟩ := st1 (a := b) (x := c) (M := 85 + 256 * 85) hb s2
  obtain ⟨u1, u2⟩ := st1 (a := a) (x := b + 256 * c) (M := 85 + 256 * (85 + 256 * 85)) ha t2
  rw [t1, s1] at u1
  have q1 : (b1 c &&& (51 + 256 * 51)) + (b1 c / 4 &&& (51 + 256 * 51)) = b2 (b1 c) := st2 (a := b1 c) (x := 0) (M := 51) c3
  have q2 := st2 (a := b1 b) (x := b1 c) (M := 51 + 256 * 51) b3'
  have q3 := st2 (a := b1 a) (x := b1 b + 256 * b1 c) (M := 51 + 256 * (51 + 256 * 51)) a3
  rw [q2, q1] at q3
  have w1 : (b2 (b1 c) + b2 (b1 c) / 16 &&& (15 + 256 * 15)) = b3 (b2 (b1 c)) := st3 (a := b2 (b1 c)) (x := 0) (M := 15) f2 (by decide)
  have w2 := st3 (a := b2 (b1 b)) (x := b2 (b1 c)) (M := 15 + 256 * 15) e2 f3
  have w3 := st3 (a := b2 (b1 a)) (x := b2 (b1 b) + 256 * b2 (b1 c)) (M := 15 + 256 * (15 + 256 * 15)) d2 (by omega)
  rw [w2, w1, d1, e1, f1] at w3
  refine ⟨b1 a + 256 * (b1 b + 256 * b1 c), b2 (b1 a) + 256 * (b2 (b1 b) + 256 * b2 (b1 c)), _, u1.symm, by omega, u2, q3.symm, by omega, rfl, w3⟩
/-- Integer.bitCount, below 2^24 -/
theorem bits_int {F x y1 y2 y3 : Nat} (hx : x < 16777216) (e1 : y1 = x - (x / 2 &&& 1431655765)) (l1 : y1 < 16777216) (u : (x / 2 &&& 1431655765) ≤ x) (e2 : y2 = (y1 &&& 858993459) + (y1 / 4 &&& 858993459)) (l2 : y2 < 16777216) (e3 : y3 = (y2 + y2 / 16 &&& 252645135)) (l3 : y3 < 16777216) : m_J6_bitCount_0f7a4 F (x : Int) = some (((y3 + y3 / 256 + (y3 + y3 / 256) / 65536) % 64 : Nat) : Int) := by
  unfold m_J6_bitCount_0f7a4
  simp only [nam]
  have h1 := shr_n (a := x) (k := 1) (by omega) (by decide)
  have h2 := and_n (a := x / 2) (b := 1431655765) (by omega) (by decide)
  have k2 : (x : Int) - ((x / 2 &&& 1431655765 : Nat) : Int) = (y1 : Int) := by omega
  have h3 := shr_n (a := y1) (k := 2) (by omega) (by decide)
  have h4 := and_n (a := y1) (b := 858993459) (by omega) (by decide)
  have h5 := and_n (a := y1 / 4) (b := 858993459) (by omega) (by decide)
  have k5 : ((y1 &&& 858993459 : Nat) : Int) + ((y1 / 4 &&& 858993459 : Nat) : Int) = (y2 : Int) := by omega
  have h6 := shr_n (a := y2) (k := 4) (by omega) (by decide)
  have h7 := and_n (a := y2 + y2 / 16) (b := 252645135) (by omega) (by decide)
  rw [← e3] at h7
  have k6 : (y2 : Int) + ((y2 / 16 : Nat) : Int) = ((y2 + y2 / 16 : Nat) : Int) := by omega
  have h8 := shr_n (a := y3) (k := 8) (by omega) (by decide)
  have k8 : (y3 : Int) + ((y3 / 256 : Nat) : Int) = ((y3 + y3 / 256 : Nat) : Int) := by omega
  have h9 := shr_n (a := y3 + y3 / 256) (k := 16) (by omega) (by decide)
  have k9 : ((y3 + y3 / 256 : Nat) : Int) + (((y3 + y3 / 256) / 65536 : Nat) : Int) = ((y3 + y3 / 256 + (y3 + y3 / 256) / 65536 : Nat) : Int) := by omega
  have h10 := and_n (a := y3 + y3 / 256 + (y3 + y3 / 256) / 65536) (b := 63) (by omega) (by decide)
  have k10 := Nat.and_two_pow_sub_one_eq_mod (y3 + y3 / 256 + (y3 + y3 / 256) / 65536) 6
  rw [show (2 : Nat) ^ 6 - 1 = 63 by decide, show (2 : Nat) ^ 6 = 64 by decide] at k10
  rw [k10] at h10
  rw [show (2 : Nat) ^ 1 = 2 by decide, show ((1 : Nat) : Int) = 1 by decide] at h1
  rw [show (2 : Nat) ^ 2 = 4 by decide, show ((2 : Nat) : Int) = 2 by decide] at h3
  rw [show (2 : Nat) ^ 4 = 16 by decide, show ((4 : Nat) : Int) = 4 by decide] at h6
  rw [show (2 : Nat) ^ 8 = 256 by decide, show ((8 : Nat) : Int) = 8 by decide] at h8
  rw [show (2 : Nat) ^ 16 = 65536 by decide, show ((16 : Nat) : Int) = 16 by decide] at h9
  rw [show ((1431655765 : Nat) : Int) = 1431655765 by decide] at h2
  rw [show ((858993459 : Nat) : Int) = 858993459 by decide] at h4 h5
  rw [show ((252645135 : Nat) : Int) = 252645135 by decide] at h7
  rw [show ((63 : Nat) : Int) = 63 by decide] at h10
  rw [h1, h2, k2, h3, h4, h5, k5, h6, k6, h7, h8, k8, h9, k9, h10]
theorem bitCount_n {F x : Nat} (hx : x < 16777216) : m_J6_bitCount_0f7a4 F (x : Int) = some ((pcN 24 x : Nat) : Int) := by
  obtain ⟨a, b, c, ha, hb, hc, he⟩ : ∃ a b c, a < 256 ∧ b < 256 ∧ c < 256 ∧ x = a + 256 * (b + 256 * c) := ⟨x % 256, x / 256 % 256, x / 65536, by omega, by omega, by omega, by omega⟩
  obtain ⟨y1, y2, y3, e1, l1, u, e2, l2, e3, e4⟩ := bits_nat ha hb hc
  have d4 := (byteF3 ⟨a, ha⟩).2.2.2
  have f4 := (byteF3 ⟨b, hb⟩).2.2.2
  have g4 := (byteF3 ⟨c, hc⟩).2.2.2
  simp only at d4 f4 g4
  have hp : pcN 24 x = pcN 8 a + (pcN 8 b + pcN 8 c) := by
    have h1 := pcN_split (f := 16) (y := b + 256 * c) 8 a ha
    have h2 := pcN_split (f := 8) (y := c) 8 b hb
    rw [show (2 : Nat) ^ 8 = 256 by decide] at h1 h2
    rw [he]
    exact h1.trans (congrArg (pcN 8 a + ·) h2)
  rw [← he] at e1 u
  rw [bits_int hx e1 l1 u e2 l2 e3 (by omega), hp]
  refine congrArg (fun z : Nat => some (z : Int)) ?_
  generalize pcN 8 a = p at e4 d4 ⊢
  generalize pcN 8 b = q at e4 f4 ⊢
  generalize pcN 8 c = r at e4 g4 ⊢
  have z1 : y3 / 256 = q + 256 * r := by omega
  have z2 : (y3 + y3 / 256) / 65536 = r := by omega
  rw [z2, z1]
  omega
/-! a row of marks as bits -/
def bsN (f : Nat → Bool) : Nat → Nat
  | 0 => 0
  | k + 1 => if f k = true then bsN f k ||| 2 ^ k else bsN f k
def ctN (f : Nat → Bool) : Nat → Nat
  | 0 => 0
  | k + 1 => ctN f k + (if f k = true then 1 else 0)
theorem bsN_lt {f : Nat → Bool} : ∀ k : Nat, bsN f k < 2 ^ k
  | 0 => Nat.one_pos
  | k + 1 => by
    have h := bsN_lt (f := f) k
    have h1 : (2 : Nat) ^ k < 2 ^ (k + 1) := Nat.pow_lt_pow_right (by decide) (by omega)
    unfold bsN
    split
    · exact Nat.or_lt_two_pow (by omega) h1
    · omega
theorem bsN_add {f : Nat → Bool} (k : Nat) : bsN f k ||| 2 ^ k = bsN f k + 2 ^ k := by
  have := Nat.two_pow_add_eq_or_of_lt (bsN_lt (f := f) k) 1
  rw [Nat.mul_one] at this
  rw [Nat.or_comm, ← this, Nat.add_comm]
theorem bsN_bit {f : Nat → Bool} {i : Nat} : ∀ k : Nat, (bsN f k).testBit i = (decide (i < k) && f i)
  | 0 => by simp [bsN]
  | k + 1 => by
    have ih := bsN_bit (f := f) (i := i) k
    unfold bsN
    by_cases e : i = k
    · subst e
      split
      · next h => rw [Nat.testBit_or, Nat.testBit_two_pow_self, h]; simp
      · next h => rw [ih]; simp [h]
    · have hd : decide (i < k + 1) = decide (i < k) := by
        by_cases z : i < k
        · rw [decide_eq_true z, decide_eq_true (show i < k + 1 by omega)]
        · rw [decide_eq_false z, decide_eq_false (show ¬ i < k + 1 by omega)]
      split
      · rw [Nat.testBit_or, Nat.testBit_two_pow_of_ne (fun h => e h.symm), ih, hd, Bool.or_false]
      · rw [ih, hd]
theorem bsN_not {f : Nat → Bool} (k : Nat) : 2 ^ k - (bsN f k + 1) = bsN (fun i => !f i) k := by
  refine Nat.eq_of_testBit_eq (fun i => ?_)
  rw [Nat.testBit_two_pow_sub_succ (bsN_lt k), bsN_bit, bsN_bit]
  by_cases z : i < k
  · rw [decide_eq_true z]
    simp
  · rw [decide_eq_false z]
    rfl
theorem pcN_bs {f : Nat → Bool} {m : Nat} : ∀ k : Nat, pcN (k + m) (bsN f k) = ctN f k
  | 0 => pcN_zero _
  | k + 1 => by
    have h := bsN_lt (f := f) k
    have ih := pcN_bs (f := f) (m := m + 1) k
    unfold bsN ctN
    rw [show k + 1 + m = k + (m + 1) by omega]
    split
    · have := pcN_split (f := m + 1) (y := 1) k _ h
      have h0 := pcN_split (f := m + 1) (y := 0) k _ h
      simp only [Nat.mul_zero, Nat.add_zero, pcN_zero] at h0
      rw [ih] at h0
      rw [Nat.mul_one] at this
      rw [bsN_add, this, ← h0]
      congr 1
      show 1 % 2 + pcN m (1 / 2) = 1
      rw [show 1 / 2 = 0 from rfl, pcN_zero]
    · rw [ih, Nat.add_zero]
theorem ctN_le {f : Nat → Bool} : ∀ k : Nat, ctN f k ≤ k
  | 0 => Nat.le_refl _
  | k + 1 => by
    have := ctN_le (f := f) k
    unfold ctN
    split <;> omega
theorem bs_count {F : Nat} {f : Nat → Bool} {k : Nat} (hk : k ≤ 24) : m_J6_bitCount_0f7a4 F ((bsN f k : Nat) : Int) = some ((ctN f k : Nat) : Int) := by
  have h := bsN_lt (f := f) k
  have h1 : (2 : Nat) ^ k ≤ 2 ^ 24 := Nat.pow_le_pow_right (by decide) hk
  rw [bitCount_n (by omega)]
  have := pcN_bs (f := f) (m := 24 - k) k
  rw [show k + (24 - k) = 24 by omega] at this
  rw [this]
