/-! WRONG, WRONGS -/
def fb (pa wa co : Int → Int) (s v : Int) : Nat → Bool := fun j => decide (fitP (pa j) (co j) (pa j + wa j * v) s)
def nb (pa wa co : Int → Int) (s v : Int) : Nat → Bool := fun j => !fb pa wa co s v j
def kyN (x : Nat) : Nat := 16777216 * pcN 24 x + x
theorem pcN_le : ∀ f x : Nat, pcN f x ≤ f
  | 0, _ => Nat.le_refl _
  | f + 1, x => by
    have := pcN_le f (x / 2)
    unfold pcN
    omega
theorem fewer_spec {F a b : Nat} (ha : a < 16777216) (hb : b < 16777216) : m_X0_fewer F (a : Int) (b : Int) = some ((if kyN a < kyN b then a else b : Nat) : Int) := by
  have h1 := pcN_le 24 a
  have h2 := pcN_le 24 b
  unfold m_X0_fewer kyN
  rw [bitCount_n ha, bitCount_n hb, bnd1_s, bnd1_s, ifI_lt (by omega) (by omega), ifI_eq (a := ((pcN 24 a : Nat) : Int)) (by omega) (by omega), ifI_le (by omega) (by omega)]
  by_cases c1 : ((pcN 24 a : Nat) : Int) < ((pcN 24 b : Nat) : Int)
  · rw [if_pos c1, if_pos (by omega)]
  · rw [if_neg c1]
    by_cases c2 : ((pcN 24 a : Nat) : Int) = ((pcN 24 b : Nat) : Int)
    · rw [if_pos c2]
      by_cases c3 : (b : Int) ≤ (a : Int)
      · rw [if_pos c3, if_neg (by omega)]
      · rw [if_neg c3, if_pos (by omega)]
    · rw [if_neg c2, if_neg (by omega)]
theorem bs_s {pa wa co : Int → Int} {s v i : Int} (hi : 0 ≤ i) : bsN (fb pa wa co s v) (i + 1).toNat = if fitP (pa i) (co i) (pa i + wa i * v) s then bsN (fb pa wa co s v) i.toNat ||| 2 ^ i.toNat else bsN (fb pa wa co s v) i.toNat := by
  rw [show (i + 1).toNat = i.toNat + 1 by omega]
  show (if fb pa wa co s v i.toNat = true then _ else _) = _
  have : fb pa wa co s v i.toNat = true ↔ fitP (pa i) (co i) (pa i + wa i * v) s := by
    unfold fb
    rw [show ((i.toNat : Nat) : Int) = i by omega, decide_eq_true_iff]
  by_cases h : fitP (pa i) (co i) (pa i + wa i * v) s
  · rw [if_pos (this.mpr h), if_pos h]
  · rw [if_neg (fun z => h (this.mp z)), if_neg h]
theorem nb_s {pa wa co : Int → Int} {s v i : Int} (hi : 0 ≤ i) : (bsN (nb pa wa co s v) (i + 1).toNat = if fitP (pa i) (co i) (pa i + wa i * v) s then bsN (nb pa wa co s v) i.toNat else bsN (nb pa wa co s v) i.toNat ||| 2 ^ i.toNat) ∧ (ctN (nb pa wa co s v) (i + 1).toNat = if fitP (pa i) (co i) (pa i + wa i * v) s then ctN (nb pa wa co s v) i.toNat else ctN (nb pa wa co s v) i.toNat + 1) := by
  rw [show (i + 1).toNat = i.toNat + 1 by omega]
  have : nb pa wa co s v i.toNat = true ↔ ¬ fitP (pa i) (co i) (pa i + wa i * v) s := by
    unfold nb fb
    rw [show ((i.toNat : Nat) : Int) = i by omega, Bool.not_eq_true', decide_eq_false_iff_not]
  refine ⟨?_, ?_⟩
  · show (if nb pa wa co s v i.toNat = true then _ else _) = _
    by_cases h : fitP (pa i) (co i) (pa i + wa i * v) s
    · rw [if_neg (fun z => this.mp z h), if_pos h]
    · rw [if_pos (this.mpr h), if_neg h]
  · show _ + (if nb pa wa co s v i.toNat = true then 1 else 0) = _
    by_cases h : fitP (pa i) (co i) (pa i + wa i * v) s
    · rw [if_neg (fun z => this.mp z h), if_pos h, Nat.add_zero]
    · rw [if_pos (this.mpr h), if_neg h]
section WRG
variable {F : Nat} {x n : Int} {pa wa co cells many : Int → Int}
theorem mark_spec (hF : 1000 ≤ F) (hC : Cnt n pa wa co) {i w v : Int} (hi : 0 ≤ i ∧ i < n) (hw : w = 1 ∨ w = -1) (hv : 0 ≤ v ∧ v ≤ 30) {m : Int → Nat} {t : Int → Int} (ht : ∀ s, 1 ≤ s → s ≤ 200 → t s = ((m s : Nat) : Int) ∧ m s < 2 ^ 20) : ∃ o1 o2 t', m_X0_markFitting F 201 i w v t co pa = some (o1, o2, t') ∧ ∀ s, 1 ≤ s → s ≤ 200 → t' s = ((if fitP (pa i) (co i) (pa i + w * v) s then m s ||| 2 ^ i.toNat else m s : Nat) : Int) := by
  have hn := hC.1
  obtain ⟨c1, c2, c3⟩ := hC.2 i hi.1 hi.2
  have hwv := wv_in hw hv
  obtain ⟨e1, e2⟩ := ends_in (p := pa i) (r := pa i + w * v) (c := co i) c1 c3 (by omega)
  unfold m_X0_markFitting
  rw [findOne_spec hC hi hw hv, bnd2_s]
  have hfit : ∀ s, 1 ≤ s → s ≤ 200 → ((loE (pa i) (pa i + w * v) (co i) ≤ s ∧ s ≤ hiE (pa i) (pa i + w * v) (co i)) ↔ fitP (pa i) (co i) (pa i + w * v) s) := fun s a b => fit_iff c1.1 ⟨a, b⟩
  generalize loE (pa i) (pa i + w * v) (co i) = lo at e1 hfit ⊢
  generalize hiE (pa i) (pa i + w * v) (co i) = hh at e2 hfit ⊢
  have hsh : shlI 1 i = ((2 ^ i.toNat : Nat) : Int) := by
    have := shl_n (k := i.toNat) (by omega)
    rw [show ((i.toNat : Nat) : Int) = i by omega] at this
    exact this
  have hp : (2 : Nat) ^ i.toNat < 2 ^ 20 := Nat.pow_lt_pow_right (by decide) (by omega)
  unfold ml_X0_markFitting_14
  refine loopN_rec (I := fun q : Int × (Int → Int) => (lo ≤ q.1 ∧ (q.1 ≤ hh + 1 ∨ q.1 = lo)) ∧ ∀ s, 1 ≤ s → s ≤ 200 → q.2 s = ((if lo ≤ s ∧ s < q.1 then m s ||| 2 ^ i.toNat else m s : Nat) : Int)) (μ := fun q => (hh + 1 - q.1).toNat) (P := fun q y => ∃ (o1 o2 : Int) (t' : Int → Int), y = some (o1, o2, t') ∧ ∀ s, 1 ≤ s → s ≤ 200 → t' s = ((if fitP (pa i) (co i) (pa i + w * v) s then m s ||| 2 ^ i.toNat else m s : Nat) : Int)) ?_ F (lo, t) ?_ ?_
  · rintro k ⟨s, t2⟩ ⟨hs, ht2⟩ ih
    simp only at hs ht2 ih ⊢
    unfold mb_X0_markFitting_14
    rw [ifI_lt (by omega) (by omega)]
    by_cases h1 : hh < s
    · rw [if_pos h1]
      refine ⟨_, _, t2, rfl, fun s' a b => ?_⟩
      rw [ht2 s' a b]
      by_cases h2 : fitP (pa i) (co i) (pa i + w * v) s'
      · have := (hfit s' a b).mpr h2
        rw [if_pos h2, if_pos (by omega)]
      · rw [if_neg h2, if_neg (fun z => h2 ((hfit s' a b).mp (by omega)))]
    · rw [if_neg h1]
      simp only [chk_pos (show 0 ≤ s ∧ s < ((201 : Nat) : Int) by omega), nam]
      have h2 := ht s (by omega) (by omega)
      rw [ht2 s (by omega) (by omega), if_neg (by omega), hsh, or_n (by omega) (by omega)]
      refine ih _ ⟨by simp only; omega, fun s' a b => ?_⟩ (by simp only; omega)
      simp only
      by_cases e : s' = s
      · rw [e, up_at, if_pos (by omega)]
      · rw [up_ne e, ht2 s' a b]
        by_cases z : lo ≤ s' ∧ s' < s
        · rw [if_pos z, if_pos (by omega)]
        · rw [if_neg z, if_neg (by omega)]
  · refine ⟨⟨Int.le_refl _, Or.inr rfl⟩, fun s a b => ?_⟩
    simp only
    rw [if_neg (by omega)]
    exact (ht s a b).1
  · simp only
    omega
theorem all_bs (k : Nat) : 2 ^ k - 1 = bsN (fun _ => true) k := by
  have h := bsN_not (f := fun _ => false) k
  have z : bsN (fun _ => false) k = 0 := by
    refine Nat.eq_of_testBit_eq (fun i => ?_)
    rw [bsN_bit]
    simp
  rw [z] at h
  exact h
theorem ct_all : ∀ k : Nat, ctN (fun _ => true) k = k
  | 0 => rfl
  | k + 1 => by
    unfold ctN
    rw [ct_all k, if_pos rfl]
theorem ky_bs {f : Nat → Bool} {k : Nat} (hk : k ≤ 20) : kyN (bsN f k) = 16777216 * ctN f k + bsN f k ∧ bsN f k < 2 ^ 20 := by
  have h := bsN_lt (f := f) k
  have h1 : (2 : Nat) ^ k ≤ 2 ^ 20 := Nat.pow_le_pow_right (by decide) hk
  have := pcN_bs (f := f) (m := 24 - k) k
  rw [show k + (24 - k) = 24 by omega] at this
  unfold kyN
  rw [this]
  exact ⟨rfl, by omega⟩
/-- the fewest and then the least -/
def FewR (pa wa co : Int → Int) (n : Nat) (f : Nat) : Prop := (∃ s v, (1 ≤ s ∧ s ≤ 200) ∧ (0 ≤ v ∧ v ≤ 30) ∧ f = bsN (nb pa wa co s v) n) ∧ ∀ s v, 1 ≤ s → s ≤ 200 → 0 ≤ v → v ≤ 30 → kyN f ≤ kyN (bsN (nb pa wa co s v) n)
theorem fewest_spec (hF : 100000 ≤ F) (hC : Cnt n pa wa co) (u1 u2 : Int) (t0 : Int → Int) : ∃ f o1 o2 t', m_X0_fewestWrong F n u1 u2 co pa wa t0 = some (((f : Nat) : Int), o1, o2, t') ∧ FewR pa wa co n.toNat f := by
  have hn := hC.1
  have hp : (2 : Nat) ^ n.toNat ≤ 2 ^ 20 := Nat.pow_le_pow_right (by decide) (by omega)
  have hp0 : 0 < (2 : Nat) ^ n.toNat := Nat.pow_pos (by decide)
  have hsh : shlI 1 n - 1 = ((2 ^ n.toNat - 1 : Nat) : Int) := by
    have := shl_n (k := n.toNat) (by omega)
    rw [show ((n.toNat : Nat) : Int) = n by omega] at this
    omega
  unfold m_X0_fewestWrong
  simp only [nam]
  rw [hsh]
  unfold ml_X0_fewestWrong_13
  refine loopN_rec (I := fun q : Int × Int × Int × Int × (Int → Int) => (0 ≤ q.2.1 ∧ q.2.1 ≤ 31) ∧ ∃ f : Nat, q.1 = (f : Int) ∧ ((f = 2 ^ n.toNat - 1) ∨ ∃ s v, (1 ≤ s ∧ s ≤ 200) ∧ (0 ≤ v ∧ v ≤ 30) ∧ f = bsN (nb pa wa co s v) n.toNat) ∧ ∀ s v, 1 ≤ s → s ≤ 200 → 0 ≤ v → v < q.2.1 → kyN f ≤ kyN (bsN (nb pa wa co s v) n.toNat)) (μ := fun q => (31 - q.2.1).toNat) (P := fun q y => ∃ f o1 o2 t', y = some (((f : Nat) : Int), o1, o2, t') ∧ FewR pa wa co n.toNat f) ?_ F (((2 ^ n.toNat - 1 : Nat) : Int), 0, u1, u2, t0) ?_ ?_
  · rintro k ⟨fi, v, w1, w2, t⟩ ⟨hv, f, hf, hx, hm⟩ ih
    simp only at hv hf hm ih ⊢
    unfold mb_X0_fewestWrong_13
    rw [ifI_lt (by decide) (by omega)]
    by_cases h1 : 30 < v
    · rw [if_pos h1]
      refine ⟨f, _, _, _, by rw [hf], ?_, fun s v' a b c d => hm s v' a b c (by omega)⟩
      rcases hx with hx | hx
      · refine ⟨1, 0, by omega, by omega, ?_⟩
        have h2 := hm 1 0 (by omega) (by omega) (by omega) (by omega)
        obtain ⟨k1, k2⟩ := ky_bs (f := nb pa wa co 1 0) (k := n.toNat) (by omega)
        obtain ⟨k3, k4⟩ := ky_bs (f := fun _ => true) (k := n.toNat) (by omega)
        rw [all_bs] at hx
        rw [hx, k1, k3, ct_all] at h2
        have k5 := ctN_le (f := nb pa wa co 1 0) n.toNat
        have k6 := bsN_lt (f := nb pa wa co 1 0) n.toNat
        have k7 := all_bs n.toNat
        omega
      · exact hx
    · obtain ⟨t1, e1, ht1⟩ := fill_int (F := F) (n := 201) (by decide) hF (x := 0) (f := t)
      have e1 : m_J7_fill_53178 F 201 0 t = some t1 := e1
      rw [if_neg h1, e1, bnd1_s]
      unfold ml_X0_fewestWrong_30
      refine loopN_rec (I := fun q : Int × Int × Int × (Int → Int) => (0 ≤ q.1 ∧ q.1 ≤ n) ∧ ∀ s, 1 ≤ s → s ≤ 200 → q.2.2.2 s = ((bsN (fb pa wa co s v) q.1.toNat : Nat) : Int)) (μ := fun q => (n - q.1).toNat) (P := fun q y => ∃ f o1 o2 t', y = some (((f : Nat) : Int), o1, o2, t') ∧ FewR pa wa co n.toNat f) ?_ F (0, w1, w2, t1) ?_ ?_
      · rintro k2 ⟨i, w3, w4, t2⟩ ⟨hi, ht2⟩ ih2
        simp only at hi ht2 ih2 ⊢
        unfold mb_X0_fewestWrong_30
        rw [ifI_le (by omega) (by omega)]
        by_cases h2 : n ≤ i
        · rw [if_pos h2]
          unfold ml_X0_fewestWrong_66
          refine loopN_rec (I := fun q : Int × Int => (1 ≤ q.2 ∧ q.2 ≤ 201) ∧ ∃ f : Nat, q.1 = (f : Int) ∧ ((f = 2 ^ n.toNat - 1) ∨ ∃ s v, (1 ≤ s ∧ s ≤ 200) ∧ (0 ≤ v ∧ v ≤ 30) ∧ f = bsN (nb pa wa co s v) n.toNat) ∧ ∀ s v', 1 ≤ s → s ≤ 200 → 0 ≤ v' → (v' < v ∨ (v' = v ∧ s < q.2)) → kyN f ≤ kyN (bsN (nb pa wa co s v') n.toNat)) (μ := fun q => (201 - q.2).toNat) (P := fun q y => ∃ f o1 o2 t', y = some (((f : Nat) : Int), o1, o2, t') ∧ FewR pa wa co n.toNat f) ?_ F (fi, 1) ?_ ?_
          · rintro k3 ⟨fj, s⟩ ⟨hs, g, hg, hgx, hgm⟩ ih3
            simp only at hs hg hgm ih3 ⊢
            unfold mb_X0_fewestWrong_66
            rw [ifI_lt (by decide) (by omega)]
            by_cases h3 : 200 < s
            · rw [if_pos h3]
              exact ih _ ⟨by simp only; omega, g, hg, hgx, fun s' v' a b c d => hgm s' v' a b c (by simp only at d; omega)⟩ (by simp only; omega)
            · have hgl : g < 2 ^ 20 := by
                rcases hgx with z | ⟨s', v', -, -, z⟩
                · omega
                · rw [z]
                  exact (ky_bs (by omega)).2
              have hbl := bsN_lt (f := fb pa wa co s v) n.toNat
              have hnl := (ky_bs (f := nb pa wa co s v) (k := n.toNat) (by omega)).2
              rw [if_neg h3, chk_pos (by omega), ht2 s (by omega) (by omega), show i.toNat = n.toNat by omega, andn_n (n := n.toNat) (by omega) (Nat.sub_lt hp0 Nat.one_pos) hbl, bsN_not, Nat.and_comm, show (bsN (fun i => !fb pa wa co s v i) n.toNat &&& 2 ^ n.toNat - 1) = bsN (nb pa wa co s v) n.toNat from Nat.and_two_pow_sub_one_of_lt_two_pow (bsN_lt (f := nb pa wa co s v) n.toNat), hg, fewer_spec (by omega) (by omega), bnd1_s]
              refine ih3 _ ⟨by simp only; omega, _, rfl, ?_, ?_⟩ (by simp only; omega)
              · split
                · exact Or.inr ⟨s, v, by omega, by omega, rfl⟩
                · exact hgx
              · intro s' v' a b c d
                simp only at d
                split
                · next hk =>
                  by_cases e : v' = v ∧ s' = s
                  · rw [e.1, e.2]
                    exact Nat.le_refl _
                  · have := hgm s' v' a b c (by omega)
                    omega
                · next hk =>
                  by_cases e : v' = v ∧ s' = s
                  · rw [e.1, e.2]
                    omega
                  · exact hgm s' v' a b c (by omega)
          · exact ⟨by simp only; omega, f, hf, hx, fun s' v' a b c d => hm s' v' a b c (by simp only at d; omega)⟩
          · simp only
            omega
        · obtain ⟨c1, c2, c3⟩ := hC.2 i hi.1 (by omega)
          obtain ⟨o1, o2, t', e, he⟩ := mark_spec (F := F) (by omega) hC (i := i) (w := wa i) (v := v) (by omega) c2 (by omega) (m := fun s => bsN (fb pa wa co s v) i.toNat) (t := t2) (fun s a b => ⟨ht2 s a b, (ky_bs (by omega)).2⟩)
          rw [if_neg h2, chk_pos (by omega), e, bnd3_s]
          refine ih2 _ ⟨by simp only; omega, fun s a b => ?_⟩ (by simp only; omega)
          simp only
          rw [he s a b, bs_s hi.1]
      · refine ⟨by simp only; omega, fun s a b => ?_⟩
        simp only
        rw [ht1 s (by omega) (by omega)]
        rfl
      · simp only
        omega
  · exact ⟨by simp only; omega, _, rfl, Or.inl rfl, fun s v a b c d => by simp only at d; omega⟩
  · simp only
    omega
theorem wrongBy_spec (hF : 1000 ≤ F) (Q : CntQ x n pa wa co cells many) {s v : Int} (hs : 1 ≤ s ∧ s ≤ 200) (hv : 0 ≤ v ∧ v ≤ 30) : m_X9_wrongBy F x s v cells many = some ((ctN (nb pa wa co s v) n.toNat : Nat) : Int) := by
  have hn := Q.2.2.1.1
  unfold m_X9_wrongBy ml_X9_wrongBy_6
  refine loopN_rec (I := fun q : Int × Int => (0 ≤ q.2 ∧ q.2 ≤ n) ∧ q.1 = ((ctN (nb pa wa co s v) q.2.toNat : Nat) : Int)) (μ := fun q => (n - q.2).toNat) (P := fun q y => y = some ((ctN (nb pa wa co s v) n.toNat : Nat) : Int)) ?_ F (0, 0) ?_ ?_
  · rintro k ⟨m, i⟩ ⟨hi, hm⟩ ih
    simp only at hi hm ih ⊢
    unfold mb_X9_wrongBy_6
    rw [rows_spec Q, bnd1_s, ifI_le (by omega) (by omega)]
    by_cases h1 : n ≤ i
    · rw [if_pos h1, hm, show i = n by omega]
    · obtain ⟨c1, c2, c3⟩ := cellOf_spec (F := F) Q (i := i) (by omega)
      have hw := (Q.2.2.1.2 i hi.1 (by omega)).2.1
      rw [if_neg h1, c2, bnd1_s, isFit_spec Q (by omega) hs hv hw, bnd1_s, ifB]
      simp only [mb_X9_wrongBy_43, nam]
      have hst := (nb_s (pa := pa) (wa := wa) (co := co) (s := s) (v := v) hi.1).2
      by_cases h2 : fitP (pa i) (co i) (pa i + wa i * v) s
      · rw [if_pos h2]
        rw [if_pos h2] at hst
        exact ih (m + 0, i + 1) ⟨by simp only; omega, by simp only; omega⟩ (by simp only; omega)
      · rw [if_neg h2]
        rw [if_neg h2] at hst
        exact ih (m + 1, i + 1) ⟨by simp only; omega, by simp only; omega⟩ (by simp only; omega)
  · exact ⟨by simp only; omega, rfl⟩
  · simp only
    omega
theorem wrongOf_spec (hF : 1000 ≤ F) (Q : CntQ x n pa wa co cells many) : ∃ m : Nat, m_X9_wrongOf F x cells many = some (m : Int) ∧ (∀ s v, 1 ≤ s → s ≤ 200 → 0 ≤ v → v ≤ 30 → m ≤ ctN (nb pa wa co s v) n.toNat) ∧ ∃ s v, (1 ≤ s ∧ s ≤ 200) ∧ (0 ≤ v ∧ v ≤ 30) ∧ m = ctN (nb pa wa co s v) n.toNat := by
  have hn := Q.2.2.1.1
  unfold m_X9_wrongOf ml_X9_wrongOf_6
  refine loopN_rec (I := fun q : Int × Int => (1 ≤ q.2 ∧ q.2 ≤ 201) ∧ (0 ≤ q.1 ∧ q.1 ≤ 1000000000) ∧ (∀ s v, 1 ≤ s → s < q.2 → 0 ≤ v → v ≤ 30 → q.1 ≤ ctN (nb pa wa co s v) n.toNat) ∧ (q.1 = 1000000000 ∨ ∃ s v, (1 ≤ s ∧ s ≤ 200) ∧ (0 ≤ v ∧ v ≤ 30) ∧ q.1 = ctN (nb pa wa co s v) n.toNat)) (μ := fun q => (201 - q.2).toNat) (P := fun q y => ∃ m : Nat, y = some (m : Int) ∧ (∀ s v, 1 ≤ s → s ≤ 200 → 0 ≤ v → v ≤ 30 → m ≤ ctN (nb pa wa co s v) n.toNat) ∧ ∃ s v, (1 ≤ s ∧ s ≤ 200) ∧ (0 ≤ v ∧ v ≤ 30) ∧ m = ctN (nb pa wa co s v) n.toNat) ?_ F (1000000000, 1) ?_ ?_
  · rintro k ⟨m, s⟩ ⟨hs, hr, hm, hx⟩ ih
    simp only at hs hr hm hx ih ⊢
    unfold mb_X9_wrongOf_6
    rw [ifI_lt (by decide) (by omega)]
    by_cases h1 : 200 < s
    · rw [if_pos h1]
      refine ⟨m.toNat, by rw [show ((m.toNat : Nat) : Int) = m by omega], fun s' v' a b c d => ?_, ?_⟩
      · have := hm s' v' a (by omega) c d
        omega
      · rcases hx with hx | ⟨s', v', a, b, c⟩
        · have h2 := hm 1 0 (by omega) (by omega) (by omega) (by omega)
          have h3 := ctN_le (f := nb pa wa co 1 0) n.toNat
          omega
        · exact ⟨s', v', a, b, by omega⟩
    · rw [if_neg h1]
      unfold ml_X9_wrongOf_16
      refine loopN_rec (I := fun q : Int × Int => (0 ≤ q.2 ∧ q.2 ≤ 31) ∧ (0 ≤ q.1 ∧ q.1 ≤ 1000000000) ∧ (∀ s' v, 1 ≤ s' → (s' < s ∨ (s' = s ∧ v < q.2)) → 0 ≤ v → v ≤ 30 → q.1 ≤ ctN (nb pa wa co s' v) n.toNat) ∧ (q.1 = 1000000000 ∨ ∃ s v, (1 ≤ s ∧ s ≤ 200) ∧ (0 ≤ v ∧ v ≤ 30) ∧ q.1 = ctN (nb pa wa co s v) n.toNat)) (μ := fun q => (31 - q.2).toNat) (P := fun q y => ∃ m : Nat, y = some (m : Int) ∧ (∀ s v, 1 ≤ s → s ≤ 200 → 0 ≤ v → v ≤ 30 → m ≤ ctN (nb pa wa co s v) n.toNat) ∧ ∃ s v, (1 ≤ s ∧ s ≤ 200) ∧ (0 ≤ v ∧ v ≤ 30) ∧ m = ctN (nb pa wa co s v) n.toNat) ?_ F (m, 0) ?_ ?_
      · rintro k2 ⟨m2, v⟩ ⟨hv, hr2, hm2, hx2⟩ ih2
        simp only at hv hr2 hm2 hx2 ih2 ⊢
        unfold mb_X9_wrongOf_16
        simp only [mb_X9_wrongOf_47]
        rw [ifI_lt (by decide) (by omega)]
        by_cases h2 : 30 < v
        · rw [if_pos h2]
          exact ih _ ⟨by simp only; omega, hr2, fun s' v' a b c d => hm2 s' v' a (by simp only at b; omega) c d, hx2⟩ (by simp only; omega)
        · have h3 := ctN_le (f := nb pa wa co s v) n.toNat
          rw [if_neg h2, wrongBy_spec hF Q (by omega) (by omega), bnd1_s, bnd1_s, ifI_le (by omega) (by omega)]
          by_cases h4 : m2 ≤ ((ctN (nb pa wa co s v) n.toNat : Nat) : Int)
          · rw [if_pos h4]
            refine ih2 _ ⟨by simp only; omega, hr2, fun s' v' a b c d => ?_, hx2⟩ (by simp only; omega)
            simp only at b ⊢
            by_cases e : s' = s ∧ v' = v
            · rw [e.1, e.2]
              exact h4
            · exact hm2 s' v' a (by omega) c d
          · rw [if_neg h4]
            refine ih2 _ ⟨by simp only; omega, by simp only; omega, fun s' v' a b c d => ?_, Or.inr ⟨s, v, by omega, by omega, rfl⟩⟩ (by simp only; omega)
            simp only at b ⊢
            by_cases e : s' = s ∧ v' = v
            · rw [e.1, e.2]
              exact Int.le_refl _
            · have := hm2 s' v' a (by omega) c d
              omega
      · exact ⟨by simp only; omega, hr, fun s' v' a b c d => hm s' v' a (by simp only at b; omega) c d, hx⟩
      · simp only
        omega
  · exact ⟨by simp only; omega, by simp only; omega, fun s' v' a b c d => by simp only at b; omega, Or.inl rfl⟩
  · simp only
    omega
theorem wrongs9_spec (hF : 1000 ≤ F) (Q : CntQ x n pa wa co cells many) (hn10 : n ≤ 10) {f m : Nat} (hR : FewR pa wa co n.toNat f) (hm1 : ∀ s v, 1 ≤ s → s ≤ 200 → 0 ≤ v → v ≤ 30 → m ≤ ctN (nb pa wa co s v) n.toNat) (hm2 : ∃ s v, (1 ≤ s ∧ s ≤ 200) ∧ (0 ≤ v ∧ v ≤ 30) ∧ m = ctN (nb pa wa co s v) n.toNat) : ml_X9_wrongs_31 F x (m : Int) 1000000000 1 0 cells many = some ((f : Int), 0) := by
  have hn := Q.2.2.1.1
  have fin : ∀ b : Int, (∀ s v, 1 ≤ s → s ≤ 200 → 0 ≤ v → v ≤ 30 → ctN (nb pa wa co s v) n.toNat = m → b ≤ bsN (nb pa wa co s v) n.toNat) → (b = 1000000000 ∨ ∃ s v, (1 ≤ s ∧ s ≤ 200) ∧ (0 ≤ v ∧ v ≤ 30) ∧ ctN (nb pa wa co s v) n.toNat = m ∧ b = bsN (nb pa wa co s v) n.toNat) → b = (f : Int) := by
    intro b h1 h2
    obtain ⟨⟨s0, v0, a1, a2, a3⟩, a4⟩ := hR
    obtain ⟨s1, v1, c1, c2, c3⟩ := hm2
    obtain ⟨k1, k2⟩ := ky_bs (f := nb pa wa co s0 v0) (k := n.toNat) (by omega)
    have d1 := a4 s1 v1 c1.1 c1.2 c2.1 c2.2
    obtain ⟨k3, k4⟩ := ky_bs (f := nb pa wa co s1 v1) (k := n.toNat) (by omega)
    have d2 := hm1 s0 v0 a1.1 a1.2 a2.1 a2.2
    rw [a3, k1, k3] at d1
    have d3 : ctN (nb pa wa co s0 v0) n.toNat = m := by omega
    have d4 := h1 s0 v0 a1.1 a1.2 a2.1 a2.2 d3
    rcases h2 with h2 | ⟨s2, v2, e1, e2, e3, e4⟩
    · omega
    · have d5 := a4 s2 v2 e1.1 e1.2 e2.1 e2.2
      obtain ⟨k5, k6⟩ := ky_bs (f := nb pa wa co s2 v2) (k := n.toNat) (by omega)
      rw [a3, k1, k5] at d5
      omega
  have hmn : m ≤ 10 := by
    have h1 := hm1 1 0 (by omega) (by omega) (by omega) (by omega)
    have h2 := ctN_le (f := nb pa wa co 1 0) n.toNat
    omega
  unfold ml_X9_wrongs_31
  refine loopN_rec (I := fun q : Int × Int => (1 ≤ q.2 ∧ q.2 ≤ 201) ∧ (0 ≤ q.1 ∧ q.1 ≤ 1000000000) ∧ (∀ s v, 1 ≤ s → s < q.2 → 0 ≤ v → v ≤ 30 → ctN (nb pa wa co s v) n.toNat = m → q.1 ≤ bsN (nb pa wa co s v) n.toNat) ∧ (q.1 = 1000000000 ∨ ∃ s v, (1 ≤ s ∧ s ≤ 200) ∧ (0 ≤ v ∧ v ≤ 30) ∧ ctN (nb pa wa co s v) n.toNat = m ∧ q.1 = bsN (nb pa wa co s v) n.toNat)) (μ := fun q => (201 - q.2).toNat) (P := fun q y => y = some ((f : Int), 0)) ?_ F (1000000000, 1) ?_ ?_
  · rintro k ⟨b, s⟩ ⟨hs, hr, hm, hx⟩ ih
    simp only at hs hr hm hx ih ⊢
    unfold mb_X9_wrongs_31
    rw [ifI_lt (by decide) (by omega)]
    by_cases h1 : 200 < s
    · rw [if_pos h1, fin b (fun s' v' a b' c d e => hm s' v' a (by omega) c d e) hx]
    · rw [if_neg h1]
      unfold ml_X9_wrongs_42
      refine loopN_rec (I := fun q : Int × Int => (0 ≤ q.2 ∧ q.2 ≤ 31) ∧ (0 ≤ q.1 ∧ q.1 ≤ 1000000000) ∧ (∀ s' v, 1 ≤ s' → (s' < s ∨ (s' = s ∧ v < q.2)) → 0 ≤ v → v ≤ 30 → ctN (nb pa wa co s' v) n.toNat = m → q.1 ≤ bsN (nb pa wa co s' v) n.toNat) ∧ (q.1 = 1000000000 ∨ ∃ s v, (1 ≤ s ∧ s ≤ 200) ∧ (0 ≤ v ∧ v ≤ 30) ∧ ctN (nb pa wa co s v) n.toNat = m ∧ q.1 = bsN (nb pa wa co s v) n.toNat)) (μ := fun q => (31 - q.2).toNat) (P := fun q y => y = some ((f : Int), 0)) ?_ F (b, 0) ?_ ?_
      · rintro k2 ⟨b2, v⟩ ⟨hv, hr2, hm2', hx2⟩ ih2
        simp only at hv hr2 hm2' hx2 ih2 ⊢
        unfold mb_X9_wrongs_42
        rw [ifI_lt (by decide) (by omega)]
        by_cases h2 : 30 < v
        · rw [if_pos h2]
          exact ih _ ⟨by simp only; omega, hr2, fun s' v' a b c d e => hm2' s' v' a (by simp only at b; omega) c d e, hx2⟩ (by simp only; omega)
        · have h3 := ctN_le (f := nb pa wa co s v) n.toNat
          rw [if_neg h2, wrongBy_spec hF Q (by omega) (by omega), bnd1_s, ifI_eq (by omega) (by omega)]
          by_cases h4 : ((ctN (nb pa wa co s v) n.toNat : Nat) : Int) = (m : Int)
          · rw [if_pos h4]
            unfold ml_X9_wrongs_71
            refine loopN_rec (I := fun q : Int × Int => (0 ≤ q.2 ∧ q.2 ≤ n) ∧ q.1 = ((bsN (nb pa wa co s v) q.2.toNat : Nat) : Int)) (μ := fun q => (n - q.2).toNat) (P := fun q y => y = some ((f : Int), 0)) ?_ F (0, 0) ?_ ?_
            · rintro k3 ⟨c, i⟩ ⟨hi, hc⟩ ih3
              simp only at hi hc ih3 ⊢
              unfold mb_X9_wrongs_71
              simp only [mb_X9_wrongs_136, mb_X9_wrongs_138, mb_X9_wrongs_113, nam]
              have hbl := (ky_bs (f := nb pa wa co s v) (k := i.toNat) (by omega)).2
              rw [rows_spec Q, bnd1_s, ifI_le (a := n) (b := i) (by omega) (by omega)]
              by_cases h5 : n ≤ i
              · rw [if_pos h5, ifI_le (a := b2) (b := c) (by omega) (by omega)]
                rw [show i.toNat = n.toNat by omega] at hc hbl
                by_cases h6 : b2 ≤ c
                · rw [if_pos h6]
                  refine ih2 _ ⟨by simp only; omega, hr2, fun s' v' a b c' d e => ?_, hx2⟩ (by simp only; omega)
                  simp only at b ⊢
                  by_cases z : s' = s ∧ v' = v
                  · rw [z.1, z.2]
                    omega
                  · exact hm2' s' v' a (by omega) c' d e
                · rw [if_neg h6]
                  refine ih2 _ ⟨by simp only; omega, by simp only; omega, fun s' v' a b c' d e => ?_, Or.inr ⟨s, v, by omega, by omega, by omega, hc⟩⟩ (by simp only; omega)
                  simp only at b ⊢
                  by_cases z : s' = s ∧ v' = v
                  · rw [z.1, z.2]
                    omega
                  · have := hm2' s' v' a (by omega) c' d e
                    omega
              · obtain ⟨c1, c2, c3⟩ := cellOf_spec (F := F) Q (i := i) (by omega)
                have hw := (Q.2.2.1.2 i hi.1 (by omega)).2.1
                have hsh : shlI 1 i = ((2 ^ i.toNat : Nat) : Int) := by
                  have := shl_n (k := i.toNat) (by omega)
                  rw [show ((i.toNat : Nat) : Int) = i by omega] at this
                  exact this
                have hp : (2 : Nat) ^ i.toNat < 2 ^ 20 := Nat.pow_lt_pow_right (by decide) (by omega)
                rw [if_neg h5, c2, bnd1_s, isFit_spec Q (by omega) (by omega) (by omega) hw, bnd1_s, ifB]
                have hst := (nb_s (pa := pa) (wa := wa) (co := co) (s := s) (v := v) hi.1).1
                by_cases h6 : fitP (pa i) (co i) (pa i + wa i * v) s
                · rw [if_pos h6] at hst
                  rw [if_pos h6, orI_0 (by omega)]
                  exact ih3 (c, i + 1) ⟨by simp only; omega, by simp only; omega⟩ (by simp only; omega)
                · rw [if_neg h6] at hst
                  rw [if_neg h6, hsh, hc, or_n (by omega) (by omega), ← hst]
                  exact ih3 (_, i + 1) ⟨by simp only; omega, rfl⟩ (by simp only; omega)
            · exact ⟨by simp only; omega, rfl⟩
            · simp only
              omega
          · rw [if_neg h4]
            simp only [mb_X9_wrongs_138]
            refine ih2 _ ⟨by simp only; omega, hr2, fun s' v' a b c d e => ?_, hx2⟩ (by simp only; omega)
            simp only at b ⊢
            by_cases z : s' = s ∧ v' = v
            · rw [z.1, z.2] at e
              omega
            · exact hm2' s' v' a (by omega) c d e
      · exact ⟨by simp only; omega, hr, fun s' v' a b c d e => hm s' v' a (by simp only at b; omega) c d e, hx⟩
      · simp only
        omega
  · exact ⟨by simp only; omega, by simp only; omega, fun s' v' a b c d => by simp only at b; omega, Or.inl rfl⟩
  · simp only
    omega
end WRG
section WRO
variable {F : Nat} {held width size wdt many cells : Int → Int} {num : Int → Int → Int}
theorem few_pair (hF : 100000 ≤ F) (S : SlotR held width size num wdt many cells) {x1 : Int} (hx1 : r32 x1) (u1 u2 u3 : Int) (f1 f2 f3 f4 f5 : Int → Int) :
    (∃ r w, (r = -2 ∨ r = -6) ∧ m_X8_openFewCounts F x1 u1 u2 u3 f1 f2 f3 f4 f5 held size num = some (r, w) ∧ m_X9_whyNotTen F x1 cells many wdt = some r) ∨
    (∃ n o1 o2 co le mo pa wa, m_X8_openFewCounts F x1 u1 u2 u3 f1 f2 f3 f4 f5 held size num = some (0, n, o1, o2, co, le, mo, pa, wa) ∧ m_X9_whyNotTen F x1 cells many wdt = some 0 ∧ CntQ x1 n pa wa co cells many ∧ n ≤ 10) := by
  unfold m_X8_openFewCounts m_X9_whyNotTen
  rcases counts_pair hF S hx1 u1 u2 u3 f1 f2 f3 f4 f5 with ⟨r, w, hr, k1, k2⟩ | ⟨n, o1, o2, co, le, mo, pa, wa, k1, k2, Q, hE⟩
  · obtain ⟨w1, w2, w3, w4, w5, w6, w7, w8⟩ := w
    rw [k1, k2, bnd9_s, bnd1_s, ifI_eq (a := r) (b := 0) (by omega) (by decide), ifI_eq (a := r) (b := 0) (by omega) (by decide), if_neg (show ¬ r = 0 by omega), if_neg (show ¬ r = 0 by omega)]
    exact Or.inl ⟨_, _, hr, rfl, rfl⟩
  · have hn := Q.2.2.1.1
    rw [k1, k2, bnd9_s, bnd1_s, if_pos rfl, if_pos rfl, rows_spec Q, bnd1_s, ifI_le (by omega) (by decide), ifI_le (by omega) (by decide)]
    by_cases h2 : n ≤ 10
    · rw [if_pos h2, if_pos h2]
      exact Or.inr ⟨_, _, _, _, _, _, _, _, rfl, rfl, Q, h2⟩
    · rw [if_neg h2, if_neg h2]
      exact Or.inl ⟨_, _, Or.inl rfl, rfl, rfl⟩
theorem op_wrong (hF : 100000 ≤ F) (S : SlotR held width size num wdt many cells) {x1 : Int} (hx1 : r32 x1) (u1 u2 u3 : Int) (f1 f2 f3 f4 f5 f6 : Int → Int) : Eq1 (m_X8_wrong F x1 u1 u2 u3 f1 f2 f3 f4 f5 f6 held size num) (m_X9_wrong F x1 cells many wdt) := by
  unfold m_X8_wrong m_X9_wrong
  rcases counts_pair hF S hx1 u1 u2 u3 f1 f2 f3 f4 f5 with ⟨r, ⟨w1, w2, w3, w4, w5, w6, w7, w8⟩, hr, k1, k2⟩ | ⟨n, o1, o2, co, le, mo, pa, wa, k1, k2, Q, hE⟩
  · rw [k1, k2, bnd9_s, bnd1_s, ifI_eq (a := r) (b := 0) (by omega) (by decide), ifI_eq (a := r) (b := 0) (by omega) (by decide), if_neg (show ¬ r = 0 by omega), if_neg (show ¬ r = 0 by omega)]
    exact Eq1.mk
  · have hn := Q.2.2.1.1
    obtain ⟨f, p1, p2, t', e1, ⟨s0, v0, a1, a2, a3⟩, hR⟩ := fewest_spec (F := F) hF Q.2.2.1 o1 o2 f6
    obtain ⟨m, e2, hm1, s1, v1, c1, c2, c3⟩ := wrongOf_spec (F := F) (by omega) Q
    rw [k1, k2, bnd9_s, bnd1_s, if_pos rfl, if_pos rfl, e1, e2, bnd4_s, bnd1_s, a3, bs_count (by omega), bnd1_s]
    refine Eq1.of ?_
    have d1 := hR s1 v1 c1.1 c1.2 c2.1 c2.2
    obtain ⟨k1, k2⟩ := ky_bs (f := nb pa wa co s0 v0) (k := n.toNat) (by omega)
    obtain ⟨k3, k4⟩ := ky_bs (f := nb pa wa co s1 v1) (k := n.toNat) (by omega)
    have d2 := hm1 s0 v0 a1.1 a1.2 a2.1 a2.2
    rw [a3, k1, k3] at d1
    omega
theorem op_wrongs (hF : 100000 ≤ F) (S : SlotR held width size num wdt many cells) {x1 : Int} (hx1 : r32 x1) (u1 u2 u3 : Int) (f1 f2 f3 f4 f5 f6 : Int → Int) : Eq1 (m_X8_wrongs F x1 u1 u2 u3 f1 f2 f3 f4 f5 f6 held size num) (m_X9_wrongs F x1 cells many wdt) := by
  unfold m_X8_wrongs m_X9_wrongs
  rcases few_pair hF S hx1 u1 u2 u3 f1 f2 f3 f4 f5 with ⟨r, ⟨w1, w2, w3, w4, w5, w6, w7, w8⟩, hr, k1, k2⟩ | ⟨n, o1, o2, co, le, mo, pa, wa, k1, k2, Q, h10⟩
  · rw [k1, k2, bnd9_s, bnd1_s, ifI_eq (a := r) (b := 0) (by omega) (by decide), ifI_eq (a := r) (b := 0) (by omega) (by decide), if_neg (show ¬ r = 0 by omega), if_neg (show ¬ r = 0 by omega)]
    exact Eq1.mk
  · obtain ⟨f, p1, p2, t', e1, hR⟩ := fewest_spec (F := F) hF Q.2.2.1 o1 o2 f6
    obtain ⟨m, e2, hm1, hm2⟩ := wrongOf_spec (F := F) (by omega) Q
    rw [k1, k2, bnd9_s, bnd1_s, if_pos rfl, if_pos rfl, e1, e2, bnd4_s, bnd1_s, wrongs9_spec (by omega) Q h10 hR hm1 hm2]
    exact Eq1.mk
end WRO
