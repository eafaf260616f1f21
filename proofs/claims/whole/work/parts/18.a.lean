/-! COUNTS: the STEPS that fit lie side by side -/
abbrev fitP (p c r s : Int) : Prop := 0 < r ∧ p * s / r = c
def loE (p r c : Int) : Int := if r ≤ 0 then 1 else if 1 < (c * r + p - 1) / p then (c * r + p - 1) / p else 1
def hiE (p r c : Int) : Int := if r ≤ 0 then 0 else if ((c + 1) * r - 1) / p < 200 then ((c + 1) * r - 1) / p else 200
theorem div_eq_iff {a r c : Int} (hr : 0 < r) : a / r = c ↔ c * r ≤ a ∧ a < c * r + r := by
  constructor
  · intro h
    subst h
    have h1 := Int.mul_ediv_add_emod a r
    have h2 := Int.emod_nonneg a (show r ≠ 0 by omega)
    have h3 := Int.emod_lt_of_pos a hr
    rw [Int.mul_comm (a / r) r]
    omega
  · rintro ⟨h1, h2⟩
    have h3 : a / r < c + 1 := Int.ediv_lt_of_lt_mul hr (by rw [Int.add_mul]; omega)
    have h4 : c ≤ a / r := (Int.le_ediv_iff_mul_le hr).mpr h1
    omega
theorem fit_iff {p c r s : Int} (hp : 1 ≤ p) (hs : 1 ≤ s ∧ s ≤ 200) : (loE p r c ≤ s ∧ s ≤ hiE p r c) ↔ fitP p c r s := by
  unfold loE hiE
  by_cases hr : r ≤ 0
  · rw [if_pos hr, if_pos hr]
    constructor
    · intro h
      omega
    · intro h
      have := h.1
      omega
  · rw [if_neg hr, if_neg hr]
    have e1 : (c * r + p - 1) / p ≤ s ↔ c * r ≤ p * s := by
      have := Int.ediv_lt_iff_lt_mul (a := c * r + p - 1) (b := s + 1) (c := p) (by omega)
      rw [Int.add_mul, Int.mul_comm s p] at this
      omega
    have e2 : s ≤ ((c + 1) * r - 1) / p ↔ p * s < c * r + r := by
      have := Int.le_ediv_iff_mul_le (a := s) (b := (c + 1) * r - 1) (c := p) (by omega)
      rw [Int.add_mul, Int.mul_comm s p] at this
      rw [Int.add_mul]
      omega
    have e3 := div_eq_iff (a := p * s) (r := r) (c := c) (by omega)
    constructor
    · rintro ⟨h1, h2⟩
      refine ⟨by omega, e3.mpr ⟨e1.mp ?_, e2.mp ?_⟩⟩
      · split at h1 <;> omega
      · split at h2 <;> omega
    · rintro ⟨-, h⟩
      obtain ⟨h1, h2⟩ := e3.mp h
      have h3 := e1.mpr h1
      have h4 := e2.mpr h2
      constructor
      · split <;> omega
      · split <;> omega
theorem ends_in {p c r : Int} (hp : 1 ≤ p ∧ p ≤ 30) (hc : 0 ≤ c ∧ c ≤ 9999) (hr : r ≤ 60) : (1 ≤ loE p r c ∧ loE p r c ≤ 600000) ∧ (0 ≤ hiE p r c ∧ hiE p r c ≤ 200) := by
  unfold loE hiE
  by_cases h : r ≤ 0
  · rw [if_pos h, if_pos h]
    omega
  · rw [if_neg h, if_neg h]
    have m1 := mul_in (x := c) (y := r) (M := 9999) (N := 60) hc (by omega)
    have k1 : 0 ≤ (c * r + p - 1) / p := Int.ediv_nonneg (by omega) (by omega)
    have k2 : (c * r + p - 1) / p ≤ c * r + p - 1 := Int.ediv_le_self _ (by omega)
    have k3 : 0 ≤ ((c + 1) * r - 1) / p := Int.ediv_nonneg (by rw [Int.add_mul]; omega) (by omega)
    refine ⟨?_, ?_⟩
    · split <;> omega
    · split <;> omega
/-- all of the first k counts fit -/
def allF (pa wa co : Int → Int) (s v : Int) : Nat → Bool
  | 0 => true
  | k + 1 => allF pa wa co s v k && decide (fitP (pa k) (co k) (pa k + wa k * v) s)
/-- the counts of a row -/
def Cnt (n : Int) (pa wa co : Int → Int) : Prop := (0 ≤ n ∧ n ≤ 20) ∧ ∀ i, 0 ≤ i → i < n → (1 ≤ pa i ∧ pa i ≤ 30) ∧ (wa i = 1 ∨ wa i = -1) ∧ (0 ≤ co i ∧ co i ≤ 9999)
def CntQ (x n : Int) (pa wa co cells many : Int → Int) : Prop := (0 ≤ x ∧ x < 4) ∧ many x = 3 * n ∧ Cnt n pa wa co ∧ ∀ i, 0 ≤ i → i < n → cells (60 * x + 3 * i + 0) = pa i ∧ cells (60 * x + 3 * i + 1) = wa i ∧ cells (60 * x + 3 * i + 2) = co i
section CNT
variable {F : Nat} {x n : Int} {pa wa co cells many : Int → Int}
theorem wv_in {w v : Int} (hw : w = 1 ∨ w = -1) (hv : 0 ≤ v ∧ v ≤ 30) : -30 ≤ w * v ∧ w * v ≤ 30 := by
  rcases hw with rfl | rfl <;> omega
theorem cellOf_spec (Q : CntQ x n pa wa co cells many) {i : Int} (hi : 0 ≤ i ∧ i < n) : m_X9_cellOf F x i 0 cells = some (pa i) ∧ m_X9_cellOf F x i 1 cells = some (wa i) ∧ m_X9_cellOf F x i 2 cells = some (co i) := by
  obtain ⟨hx, hm, hC, hq⟩ := Q
  have hn := hC.1
  obtain ⟨q1, q2, q3⟩ := hq i hi.1 hi.2
  unfold m_X9_cellOf
  rw [chk_pos (by omega), chk_pos (by omega), chk_pos (by omega), q1, q2, q3]
  exact ⟨rfl, rfl, rfl⟩
theorem rows_spec (Q : CntQ x n pa wa co cells many) : m_X9_rows F x many = some n := by
  obtain ⟨hx, hm, hC, hq⟩ := Q
  have hn := hC.1
  unfold m_X9_rows
  rw [chk_pos hx, chk_pos (by omega), hm, Int.mul_tdiv_cancel_left n (by decide)]
theorem isFit_spec (Q : CntQ x n pa wa co cells many) {i s v w : Int} (hi : 0 ≤ i ∧ i < n) (hs : 1 ≤ s ∧ s ≤ 200) (hv : 0 ≤ v ∧ v ≤ 30) (hw : w = 1 ∨ w = -1) : m_X9_isFit F x i s v w cells = some (bI (fitP (pa i) (co i) (pa i + w * v) s)) := by
  obtain ⟨c1, c2, c3⟩ := cellOf_spec (F := F) Q hi
  obtain ⟨p1, p2, p3⟩ := Q.2.2.1.2 i hi.1 hi.2
  have hwv := wv_in hw hv
  have m1 := mul_in (x := pa i) (y := s) (M := 30) (N := 200) (by omega) (by omega)
  unfold m_X9_isFit
  rw [c1, bnd1_s, chk_pos (by omega)]
  simp only [nam]
  rw [ifJ_le (by omega) (by decide)]
  by_cases h1 : pa i + w * v ≤ 0
  · rw [if_pos h1, bI_f (fun z => by have := z.1; omega)]
  · have m2 : pa i * s / (pa i + w * v) ≤ pa i * s := Int.ediv_le_self _ m1.1
    have m3 : 0 ≤ pa i * s / (pa i + w * v) := Int.ediv_nonneg m1.1 (by omega)
    rw [if_neg h1, chk_pos (by omega), chk_pos (by omega), c3, bnd1_s, Int.tdiv_eq_ediv_of_nonneg m1.1, ifJ_eq (by omega) (by omega)]
    by_cases h2 : pa i * s / (pa i + w * v) = co i
    · rw [if_pos h2, bI_t ⟨by omega, h2⟩]
    · rw [if_neg h2, bI_f (fun z => h2 z.2)]
theorem allF_upto {s v : Int} : ∀ k j : Nat, j ≤ k → allF pa wa co s v k = true → allF pa wa co s v j = true
  | 0, j, h, _ => by
    rw [show j = 0 by omega]
    rfl
  | k + 1, j, h, hk => by
    by_cases e : j = k + 1
    · rw [e]
      exact hk
    · unfold allF at hk
      rw [Bool.and_eq_true] at hk
      exact allF_upto k j (by omega) hk.1
theorem areFit_spec (hF : 1000 ≤ F) (Q : CntQ x n pa wa co cells many) {s v : Int} (hs : 1 ≤ s ∧ s ≤ 200) (hv : 0 ≤ v ∧ v ≤ 30) : m_X9_areFit F x s v cells many = some (bI (allF pa wa co s v n.toNat = true)) := by
  have hn := Q.2.2.1.1
  unfold m_X9_areFit ml_X9_areFit_3
  refine loopN_rec (I := fun q : Int => 0 ≤ q ∧ q ≤ n ∧ allF pa wa co s v q.toNat = true) (μ := fun q => (n - q).toNat) (P := fun q y => y = some (bI (allF pa wa co s v n.toNat = true))) ?_ F 0 ?_ ?_
  · rintro k q ⟨q0, q1, hq⟩ ih
    unfold mb_X9_areFit_3
    rw [rows_spec Q, bnd1_s, ifI_le (by omega) (by omega)]
    by_cases h1 : n ≤ q
    · rw [if_pos h1, bI_t (by rw [show n = q by omega]; exact hq)]
    · obtain ⟨c1, c2, c3⟩ := cellOf_spec (F := F) Q (i := q) (by omega)
      have hw := (Q.2.2.1.2 q q0 (by omega)).2.1
      have hst : allF pa wa co s v (q + 1).toNat = (allF pa wa co s v q.toNat && decide (fitP (pa q) (co q) (pa q + wa q * v) s)) := by
        rw [show (q + 1).toNat = q.toNat + 1 by omega]
        show (allF pa wa co s v q.toNat && decide (fitP (pa ((q.toNat : Nat) : Int)) (co ((q.toNat : Nat) : Int)) (pa ((q.toNat : Nat) : Int) + wa ((q.toNat : Nat) : Int) * v) s)) = _
        rw [show ((q.toNat : Nat) : Int) = q by omega]
      rw [if_neg h1, c2, bnd1_s, isFit_spec Q (by omega) hs hv hw, bnd1_s, ifB]
      by_cases h2 : fitP (pa q) (co q) (pa q + wa q * v) s
      · rw [if_pos h2]
        exact ih (q + 1) ⟨by omega, by omega, by rw [hst, hq, decide_eq_true h2]; rfl⟩ (by omega)
      · rw [if_neg h2, bI_f (fun z => ?_)]
        have := allF_upto n.toNat (q + 1).toNat (by omega) z
        rw [hst, hq, decide_eq_false h2] at this
        cases this
  · exact ⟨by omega, by omega, rfl⟩
  · omega
theorem findOne_spec (hC : Cnt n pa wa co) {i w v : Int} (hi : 0 ≤ i ∧ i < n) (hw : w = 1 ∨ w = -1) (hv : 0 ≤ v ∧ v ≤ 30) : m_X0_findOne F i w v co pa = some (loE (pa i) (pa i + w * v) (co i), hiE (pa i) (pa i + w * v) (co i)) := by
  obtain ⟨hn, hq⟩ := hC
  obtain ⟨p1, p2, p3⟩ := hq i hi.1 hi.2
  have hwv := wv_in hw hv
  unfold m_X0_findOne loE hiE
  simp only [nam, mb_X0_findOne_26]
  rw [chk_pos (by omega), ifI_le (by omega) (by decide)]
  by_cases h1 : pa i + w * v ≤ 0
  · rw [if_pos h1, if_pos h1, if_pos h1]
  · have m1 := mul_in (x := co i) (y := pa i + w * v) (M := 9999) (N := 60) p3 (by omega)
    have m2 := Int.add_mul (co i) 1 (pa i + w * v)
    have k1 : 0 ≤ (co i * (pa i + w * v) + pa i - 1) / pa i := Int.ediv_nonneg (by omega) (by omega)
    have k2 : (co i * (pa i + w * v) + pa i - 1) / pa i ≤ co i * (pa i + w * v) + pa i - 1 := Int.ediv_le_self _ (by omega)
    have k3 : 0 ≤ ((co i + 1) * (pa i + w * v) - 1) / pa i := Int.ediv_nonneg (by omega) (by omega)
    have k4 : ((co i + 1) * (pa i + w * v) - 1) / pa i ≤ (co i + 1) * (pa i + w * v) - 1 := Int.ediv_le_self _ (by omega)
    rw [if_neg h1, if_neg h1, if_neg h1, ifI_lt (by decide) (by omega), if_pos (by omega), chk_pos (by omega), chk_pos (by omega), Int.tdiv_eq_ediv_of_nonneg (by omega), max32 (by decide) (by omega), bnd1_s, chk_pos (by omega), chk_pos (by omega), Int.tdiv_eq_ediv_of_nonneg (by omega), min32 (by decide) (by omega), bnd1_s]
/-- the ends that a SPEED has -/
def EndsR (le mo : Int → Int) (A : Int → Int → Bool) : Prop := ∀ v, 0 ≤ v → v ≤ 30 → (1 ≤ le v ∧ le v ≤ 600000) ∧ (0 ≤ mo v ∧ mo v ≤ 200) ∧ ∀ s, 1 ≤ s → s ≤ 200 → ((le v ≤ s ∧ s ≤ mo v) ↔ A s v = true)
theorem findEnds_spec (hF : 1000 ≤ F) (hC : Cnt n pa wa co) (u1 u2 : Int) (f1 f2 : Int → Int) : ∃ o1 o2 le mo, m_X0_findEnds F n u1 u2 co f1 f2 pa wa = some (o1, o2, le, mo) ∧ EndsR le mo (fun s v => allF pa wa co s v n.toNat) := by
  obtain ⟨hn, hq⟩ := id hC
  unfold m_X0_findEnds ml_X0_findEnds_2
  refine loopN_rec (I := fun q : Int × Int × Int × (Int → Int) × (Int → Int) => (0 ≤ q.1 ∧ q.1 ≤ 31) ∧ ∀ v, 0 ≤ v → v < q.1 → (1 ≤ q.2.2.2.1 v ∧ q.2.2.2.1 v ≤ 600000) ∧ (0 ≤ q.2.2.2.2 v ∧ q.2.2.2.2 v ≤ 200) ∧ ∀ s, 1 ≤ s → s ≤ 200 → ((q.2.2.2.1 v ≤ s ∧ s ≤ q.2.2.2.2 v) ↔ allF pa wa co s v n.toNat = true)) (μ := fun q => (31 - q.1).toNat) (P := fun q y => ∃ (o1 o2 : Int) (le mo : Int → Int), y = some (o1, o2, le, mo) ∧ EndsR le mo (fun s v => allF pa wa co s v n.toNat)) ?_ F (0, u1, u2, f1, f2) ?_ ?_
  · rintro k ⟨v, w1, w2, le, mo⟩ ⟨hv, hE⟩ ih
    simp only at hv hE ih ⊢
    unfold mb_X0_findEnds_2
    rw [ifI_lt (by decide) (by omega)]
    by_cases h1 : 30 < v
    · rw [if_pos h1]
      exact ⟨_, _, _, _, rfl, fun v' a b => hE v' a (by omega)⟩
    · rw [if_neg h1]
      unfold ml_X0_findEnds_17
      refine loopN_rec (I := fun q : Int × Int × Int × Int × Int => (0 ≤ q.2.2.1 ∧ q.2.2.1 ≤ n) ∧ (1 ≤ q.1 ∧ q.1 ≤ 600000) ∧ (0 ≤ q.2.1 ∧ q.2.1 ≤ 200) ∧ ∀ s, 1 ≤ s → s ≤ 200 → ((q.1 ≤ s ∧ s ≤ q.2.1) ↔ allF pa wa co s v q.2.2.1.toNat = true)) (μ := fun q => (n - q.2.2.1).toNat) (P := fun q y => ∃ (o1 o2 : Int) (le mo : Int → Int), y = some (o1, o2, le, mo) ∧ EndsR le mo (fun s v => allF pa wa co s v n.toNat)) ?_ F (1, 200, 0, w1, w2) ?_ ?_
      · rintro k2 ⟨lo, hi, i, y1, y2⟩ ⟨hi0, hlo, hhi, hb⟩ ih2
        simp only at hi0 hlo hhi hb ih2 ⊢
        have done : (n ≤ i ∨ hi < lo) → ∃ (o1 o2 : Int) (le' mo' : Int → Int), mb_X0_findEnds_69 F (fun z0 z1 z2 z3 z4 => k (z0, z1, z2, z3, z4)) v lo hi n y1 y2 co le mo pa wa = some (o1, o2, le', mo') ∧ EndsR le' mo' (fun s v => allF pa wa co s v n.toNat) := by
          intro hd
          unfold mb_X0_findEnds_69
          rw [chk_pos (by omega), chk_pos (by omega)]
          refine ih (v + 1, y1, y2, up le v lo, up mo v hi) ⟨by simp only; omega, fun v' a b => ?_⟩ (by simp only; omega)
          simp only at b ⊢
          by_cases e : v' = v
          · rw [e, up_at, up_at]
            refine ⟨hlo, hhi, fun s s0 s1 => ?_⟩
            rcases hd with hd | hd
            · rw [show n = i by omega]
              exact hb s s0 s1
            · constructor
              · intro z
                omega
              · intro z
                have := (hb s s0 s1).mpr (allF_upto n.toNat i.toNat (by omega) z)
                omega
          · rw [up_ne e, up_ne e]
            exact hE v' a (by omega)
        unfold mb_X0_findEnds_17
        rw [ifI_le (by omega) (by omega), ifI_lt (by omega) (by omega)]
        by_cases h2 : n ≤ i
        · rw [if_pos h2]
          exact done (Or.inl h2)
        · rw [if_neg h2]
          by_cases h3 : hi < lo
          · rw [if_pos h3]
            exact done (Or.inr h3)
          · obtain ⟨p1, p2, p3⟩ := hq i hi0.1 (by omega)
            have hwv := wv_in p2 (show 0 ≤ v ∧ v ≤ 30 by omega)
            obtain ⟨e1, e2⟩ := ends_in (p := pa i) (c := co i) (r := pa i + wa i * v) p1 p3 (by omega)
            rw [if_neg h3, chk_pos (by omega), findOne_spec hC (by omega) p2 (by omega), bnd2_s, max32 (by omega) (by omega), bnd1_s, min32 (by omega) (by omega), bnd1_s]
            refine ih2 _ ⟨by simp only; omega, ?_, ?_, fun s s0 s1 => ?_⟩ (by simp only; omega)
            · simp only
              split <;> omega
            · simp only
              split <;> omega
            · simp only
              have hf := fit_iff (p := pa i) (c := co i) (r := pa i + wa i * v) (s := s) p1.1 ⟨s0, s1⟩
              have hst : allF pa wa co s v (i + 1).toNat = (allF pa wa co s v i.toNat && decide (fitP (pa i) (co i) (pa i + wa i * v) s)) := by
                rw [show (i + 1).toNat = i.toNat + 1 by omega]
                show (allF pa wa co s v i.toNat && decide (fitP (pa ((i.toNat : Nat) : Int)) (co ((i.toNat : Nat) : Int)) (pa ((i.toNat : Nat) : Int) + wa ((i.toNat : Nat) : Int) * v) s)) = _
                rw [show ((i.toNat : Nat) : Int) = i by omega]
              rw [hst, Bool.and_eq_true, decide_eq_true_eq, ← hf, ← hb s s0 s1]
              constructor
              · rintro ⟨z1, z2⟩
                split at z1 <;> split at z2 <;> omega
              · rintro ⟨⟨z1, z2⟩, z3, z4⟩
                constructor
                · split <;> omega
                · split <;> omega
      · refine ⟨by simp only; omega, by simp only; omega, by simp only; omega, fun s s0 s1 => ?_⟩
        simp only
        constructor
        · intro _
          rfl
        · intro _
          exact ⟨s0, s1⟩
      · simp only
        omega
  · exact ⟨by simp only; omega, fun v a b => by simp only at b; omega⟩
  · simp only
    omega
end CNT
/-- a row of counts is good -/
def GoodC (nm : Int → Int) (n : Int) : Prop := ∀ i, 0 ≤ i → i < n → (1 ≤ nm (3 * i) ∧ nm (3 * i) ≤ 30) ∧ (nm (3 * i + 1) = 1 ∨ nm (3 * i + 1) = -1) ∧ (0 ≤ nm (3 * i + 2) ∧ nm (3 * i + 2) ≤ 9999)
section CNT2
variable {F : Nat}
theorem load_spec (hF : 1000 ≤ F) {size : Int} {nm : Int → Int} (hsz : 0 ≤ size ∧ size ≤ 60) (hn : ∀ i, 0 ≤ i → i < size → r64 (nm i)) (u1 u2 u3 : Int) (f1 f2 f3 f4 f5 : Int → Int) :
    (size % 3 = 0 ∧ GoodC nm (size / 3) ∧ ∃ o1 o2 co le mo pa wa, m_X0_load F u1 u2 u3 size nm f1 f2 f3 f4 f5 = some (1, size / 3, o1, o2, co, le, mo, pa, wa) ∧ Cnt (size / 3) pa wa co ∧ (∀ i, 0 ≤ i → i < size / 3 → pa i = nm (3 * i) ∧ wa i = nm (3 * i + 1) ∧ co i = nm (3 * i + 2)) ∧ EndsR le mo (fun s v => allF pa wa co s v (size / 3).toNat)) ∨
    (¬ (size % 3 = 0 ∧ GoodC nm (size / 3)) ∧ ∃ w, m_X0_load F u1 u2 u3 size nm f1 f2 f3 f4 f5 = some (0, w)) := by
  unfold m_X0_load
  have hmod : size.tmod 3 = size % 3 := Int.tmod_eq_emod_of_nonneg hsz.1
  have hdiv : size.tdiv 3 = size / 3 := Int.tdiv_eq_ediv_of_nonneg hsz.1
  obtain ⟨r0, e0, h0⟩ := hasOut_spec (F := F) hF (start := 0) (step := 3) (lo := 1) (hi := 30) (size := size) (num := nm) (by decide) (by decide) (by decide) (by decide) hsz hn
  obtain ⟨r1, e1, h1⟩ := hasOut_spec (F := F) hF (start := 1) (step := 3) (lo := -1) (hi := 1) (size := size) (num := nm) (by decide) (by decide) (by decide) (by decide) hsz hn
  obtain ⟨r2, e2, h2⟩ := hasOut_spec (F := F) hF (start := 2) (step := 3) (lo := 0) (hi := 9999) (size := size) (num := nm) (by decide) (by decide) (by decide) (by decide) hsz hn
  simp only [chk_pos (show dv32 size 3 by omega)]
  rw [hmod, ifI_eq (by omega) (by decide), e0, bnd1_s, e1, bnd1_s, e2, bnd1_s, hdiv]
  by_cases g : size % 3 = 0
  · rw [if_pos g]
    rcases h0 with ⟨rfl, h0⟩ | ⟨rfl, j, hj, h0⟩
    · rw [if_pos rfl]
      rcases h1 with ⟨rfl, h1⟩ | ⟨rfl, j, hj, h1⟩
      · rw [if_pos rfl]
        rcases h2 with ⟨rfl, h2⟩ | ⟨rfl, j, hj, h2⟩
        · rw [if_pos rfl]
          simp only [nam]
          have gd : ∀ i, 0 ≤ i → i < size / 3 → (1 ≤ nm (3 * i) ∧ nm (3 * i) ≤ 30) ∧ (-1 ≤ nm (3 * i + 1) ∧ nm (3 * i + 1) ≤ 1) ∧ (0 ≤ nm (3 * i + 2) ∧ nm (3 * i + 2) ≤ 9999) := fun i i0 i1 => by
            have k0 := h0 i.toNat (by omega)
            have k1 := h1 i.toNat (by omega)
            have k2 := h2 i.toNat (by omega)
            rw [show 0 + 3 * ((i.toNat : Nat) : Int) = 3 * i by omega] at k0
            rw [show 1 + 3 * ((i.toNat : Nat) : Int) = 3 * i + 1 by omega] at k1
            rw [show 2 + 3 * ((i.toNat : Nat) : Int) = 3 * i + 2 by omega] at k2
            exact ⟨k0, k1, k2⟩
          unfold ml_X0_load_62
          refine loopN_rec (I := fun q : Int × (Int → Int) × (Int → Int) × (Int → Int) => (0 ≤ q.1 ∧ q.1 ≤ size / 3) ∧ ∀ i, 0 ≤ i → i < q.1 → q.2.2.1 i = nm (3 * i) ∧ q.2.2.2 i = nm (3 * i + 1) ∧ q.2.1 i = nm (3 * i + 2) ∧ nm (3 * i + 1) ≠ 0) (μ := fun q => (size / 3 - q.1).toNat) (P := fun q y => (size % 3 = 0 ∧ GoodC nm (size / 3) ∧ ∃ o1 o2 co le mo pa wa, y = some (1, size / 3, o1, o2, co, le, mo, pa, wa) ∧ Cnt (size / 3) pa wa co ∧ (∀ i, 0 ≤ i → i < size / 3 → pa i = nm (3 * i) ∧ wa i = nm (3 * i + 1) ∧ co i = nm (3 * i + 2)) ∧ EndsR le mo (fun s v => allF pa wa co s v (size / 3).toNat)) ∨ (¬ (size % 3 = 0 ∧ GoodC nm (size / 3)) ∧ ∃ w, y = some (0, w))) ?_ F (0, f1, f4, f5) ?_ ?_
          · rintro k ⟨i, co, pa, wa⟩ ⟨hi, hq⟩ ih
            simp only at hi hq ih ⊢
            unfold mb_X0_load_62
            rw [ifI_le (by omega) (by omega)]
            by_cases h3 : size / 3 ≤ i
            · have hC : Cnt (size / 3) pa wa co := ⟨by omega, fun j j0 j1 => by
                obtain ⟨a1, a2, a3, a4⟩ := hq j j0 (by omega)
                have := gd j j0 j1
                rw [a1, a2, a3]
                omega⟩
              obtain ⟨o1, o2, le, mo, ef, hE⟩ := findEnds_spec (F := F) hF hC u2 u3 f2 f3
              rw [if_pos h3, ef, bnd4_s]
              refine Or.inl ⟨g, fun j j0 j1 => ?_, _, _, _, _, _, _, _, rfl, hC, fun j j0 j1 => ?_, hE⟩
              · obtain ⟨a1, a2, a3, a4⟩ := hq j j0 (by omega)
                have := gd j j0 j1
                omega
              · obtain ⟨a1, a2, a3, a4⟩ := hq j j0 (by omega)
                exact ⟨a1, a2, a3⟩
            · have hg := gd i hi.1 (by omega)
              rw [if_neg h3]
              simp only [nam, chk_pos (show 0 ≤ i ∧ i < 20 by omega), chk_pos (show 0 ≤ 3 * i ∧ 3 * i < 60 by omega), chk_pos (show 0 ≤ 3 * i + 1 ∧ 3 * i + 1 < 60 by omega), chk_pos (show 0 ≤ 3 * i + 2 ∧ 3 * i + 2 < 60 by omega)]
              rw [up_at, ifI_eq (by omega) (by decide)]
              by_cases h4 : nm (3 * i + 1) = 0
              · rw [if_pos h4]
                refine Or.inr ⟨fun z => ?_, _, rfl⟩
                have := z.2 i hi.1 (by omega)
                omega
              · rw [if_neg h4]
                refine ih _ ⟨by simp only; omega, fun j j0 j1 => ?_⟩ (by simp only; omega)
                simp only at j1 ⊢
                by_cases e : j = i
                · rw [e, up_at, up_at, up_at]
                  exact ⟨rfl, rfl, rfl, h4⟩
                · rw [up_ne e, up_ne e, up_ne e]
                  exact hq j j0 (by omega)
          · exact ⟨by simp only; omega, fun i a b => by simp only at b; omega⟩
          · simp only
            omega
        · rw [if_neg one0]
          refine Or.inr ⟨fun z => h2 ?_, _, rfl⟩
          have := (z.2 (j : Int) (by omega) (by omega)).2.2
          rw [show 2 + 3 * (j : Int) = 3 * (j : Int) + 2 by omega]
          exact this
      · rw [if_neg one0]
        refine Or.inr ⟨fun z => h1 ?_, _, rfl⟩
        have := (z.2 (j : Int) (by omega) (by omega)).2.1
        rw [show 1 + 3 * (j : Int) = 3 * (j : Int) + 1 by omega]
        omega
    · rw [if_neg one0]
      refine Or.inr ⟨fun z => h0 ?_, _, rfl⟩
      have := (z.2 (j : Int) (by omega) (by omega)).1
      rw [show 0 + 3 * (j : Int) = 3 * (j : Int) by omega]
      exact this
  · rw [if_neg g]
    exact Or.inr ⟨fun z => g z.1, _, rfl⟩
variable {cells many : Int → Int}
theorem lookC (hF : 1000 ≤ F) {x n : Int} {nm : Int → Int} (hx : 0 ≤ x ∧ x < 4) (hn : 0 ≤ n ∧ n ≤ 20) (hm : many x = 3 * n) (hc : ∀ i, 0 ≤ i → i < 3 * n → cells (60 * x + i) = nm i ∧ r64 (nm i)) :
    (GoodC nm n → ml_X9_whyNot_39 F x 0 cells many = some 0) ∧ (¬ GoodC nm n → ml_X9_whyNot_39 F x 0 cells many = some (-2)) := by
  have main := loopN_rec (body := fun (k : Int → Option (Int)) q => mb_X9_whyNot_39 F k x q cells many) (I := fun q : Int => ∃ j, q = 3 * j ∧ 0 ≤ j ∧ j ≤ n ∧ GoodC nm j) (μ := fun q => (3 * n - q).toNat) (P := fun q y => (GoodC nm n → y = some 0) ∧ (¬ GoodC nm n → y = some (-2))) ?_ F 0 ?_ ?_
  · exact main
  · rintro k q ⟨j, rfl, j0, j1, hj⟩ ih
    unfold mb_X9_whyNot_39
    simp only [nam]
    rw [chk_pos hx, hm, ifI_le (by omega) (by omega)]
    by_cases h1 : 3 * n ≤ 3 * j
    · rw [if_pos h1]
      exact ⟨fun _ => rfl, fun z => absurd (by rw [show n = j by omega]; exact hj) z⟩
    · have q0 := hc (3 * j) (by omega) (by omega)
      have q1 := hc (3 * j + 1) (by omega) (by omega)
      have q2 := hc (3 * j + 2) (by omega) (by omega)
      have bad : ¬ ((1 ≤ nm (3 * j) ∧ nm (3 * j) ≤ 30) ∧ (nm (3 * j + 1) = 1 ∨ nm (3 * j + 1) = -1) ∧ (0 ≤ nm (3 * j + 2) ∧ nm (3 * j + 2) ≤ 9999)) → (GoodC nm n → (some (-2) : Option Int) = some 0) ∧ (¬ GoodC nm n → (some (-2) : Option Int) = some (-2)) := fun z => ⟨fun g => absurd (g j j0 (by omega)) z, fun _ => rfl⟩
      have tail : ((1 ≤ nm (3 * j) ∧ nm (3 * j) ≤ 30) ∧ (nm (3 * j + 1) = 1 ∨ nm (3 * j + 1) = -1)) → (GoodC nm n → mb_X9_whyNot_100 F k x (3 * j) (60 * x + 3 * j) cells many = some 0) ∧ (¬ GoodC nm n → mb_X9_whyNot_100 F k x (3 * j) (60 * x + 3 * j) cells many = some (-2)) := by
        intro hg
        unfold mb_X9_whyNot_100
        rw [chk_pos (by omega), show 60 * x + 3 * j + 2 = 60 * x + (3 * j + 2) by omega, q2.1, in_spec q2.2 (by decide) (by decide), bnd1_s, ifB]
        by_cases h4 : 0 ≤ nm (3 * j + 2) ∧ nm (3 * j + 2) ≤ 9999
        · rw [if_pos h4]
          refine ih (3 * j + 3) ⟨j + 1, by omega, by omega, by omega, fun i i0 i1 => ?_⟩ (by omega)
          by_cases e : i = j
          · rw [e]
            exact ⟨hg.1, hg.2, h4⟩
          · exact hj i i0 (by omega)
        · rw [if_neg h4]
          exact bad (fun z => h4 z.2.2)
      simp only [chk_pos (show 0 ≤ 60 * x + 3 * j ∧ 60 * x + 3 * j < 240 by omega), chk_pos (show 0 ≤ 60 * x + 3 * j + 1 ∧ 60 * x + 3 * j + 1 < 240 by omega)]
      rw [if_neg h1, q0.1, in_spec q0.2 (by decide) (by decide), bnd1_s, ifB, show 60 * x + 3 * j + 1 = 60 * x + (3 * j + 1) by omega, q1.1, ifJ_eq (a := nm (3 * j + 1)) (b := 1) q1.2 (by decide), ifJ_eq (a := nm (3 * j + 1)) (b := -1) q1.2 (by decide)]
      by_cases h2 : 1 ≤ nm (3 * j) ∧ nm (3 * j) ≤ 30
      · rw [if_pos h2]
        by_cases h3 : nm (3 * j + 1) = 1
        · rw [if_pos h3]
          exact tail ⟨h2, Or.inl h3⟩
        · rw [if_neg h3]
          by_cases h4 : nm (3 * j + 1) = -1
          · rw [if_pos h4]
            exact tail ⟨h2, Or.inr h4⟩
          · rw [if_neg h4]
            exact bad (fun z => by omega)
      · rw [if_neg h2]
        exact bad (fun z => h2 z.1)
  · exact ⟨0, rfl, by omega, by omega, fun i a b => by omega⟩
  · omega
variable {held width size wdt : Int → Int} {num : Int → Int → Int}
theorem counts_pair (hF : 100000 ≤ F) (S : SlotR held width size num wdt many cells) {x1 : Int} (hx1 : r32 x1) (u1 u2 u3 : Int) (f1 f2 f3 f4 f5 : Int → Int) :
    (∃ r w, (r = -2 ∨ r = -6) ∧ m_X8_openCounts F x1 u1 u2 u3 f1 f2 f3 f4 f5 held size num = some (r, w) ∧ m_X9_whyNot F x1 cells many wdt = some r) ∨
    (∃ n o1 o2 co le mo pa wa, m_X8_openCounts F x1 u1 u2 u3 f1 f2 f3 f4 f5 held size num = some (0, n, o1, o2, co, le, mo, pa, wa) ∧ m_X9_whyNot F x1 cells many wdt = some 0 ∧ CntQ x1 n pa wa co cells many ∧ EndsR le mo (fun s v => allF pa wa co s v n.toNat)) := by
  unfold m_X8_openCounts m_X9_whyNot
  rw [isSlot8_spec hx1, bnd1_s, ifB, isSlot9_spec hx1, bnd1_s, ifB]
  by_cases h1 : 0 ≤ x1 ∧ x1 ≤ 3
  · simp only [if_pos h1, chk_pos (show 0 ≤ x1 ∧ x1 < 4 by omega)]
    rcases S x1 h1.1 (by omega) with ⟨g1, g2⟩ | ⟨g1, g2, g3, g4, g5, g6⟩
    · rw [g1, g2, if_pos rfl, if_pos rfl]
      exact Or.inl ⟨-6, _, Or.inr rfl, rfl, rfl⟩
    · have hmod : (size x1).tmod 3 = size x1 % 3 := Int.tmod_eq_emod_of_nonneg g5.1
      rw [g1, g2, if_neg one0, ifI_eq (a := width x1) (b := -1) (by omega) (by decide), if_neg (show ¬ width x1 = -1 by omega), g4, chk_pos (show dv32 (size x1) 3 by omega), hmod, ifI_eq (a := size x1 % 3) (b := 0) (by omega) (by decide)]
      rcases load_spec (F := F) (by omega) (size := size x1) (nm := num x1) g5 (fun i i0 i1 => (g6 i i0 i1).2) u1 u2 u3 f1 f2 f3 f4 f5 with ⟨q1, q2, o1, o2, co, le, mo, pa, wa, el, hC, hr, hE⟩ | ⟨q1, w, el⟩
      · have lk := lookC (F := F) (cells := cells) (many := many) (by omega) (x := x1) (n := size x1 / 3) (nm := num x1) (by omega) (by omega) (by omega) (fun i i0 i1 => g6 i i0 (by omega))
        rw [el, bnd9_s, if_neg one0, if_pos q1, lk.1 q2]
        refine Or.inr ⟨_, _, _, _, _, _, _, _, rfl, rfl, ⟨by omega, by omega, hC, fun i i0 i1 => ?_⟩, hE⟩
        obtain ⟨a1, a2, a3⟩ := hr i i0 i1
        have b0 := (g6 (3 * i + 0) (by omega) (by omega)).1
        have b1 := (g6 (3 * i + 1) (by omega) (by omega)).1
        have b2 := (g6 (3 * i + 2) (by omega) (by omega)).1
        simp only [Int.add_zero] at b0 b1 b2
        rw [a1, a2, a3, Int.add_zero, b0, Int.add_assoc, Int.add_assoc, b1, b2]
        exact ⟨rfl, rfl, rfl⟩
      · obtain ⟨w1, w2, w3, w4, w5, w6, w7, w8⟩ := w
        rw [el, bnd9_s, if_pos rfl]
        refine Or.inl ⟨-2, _, Or.inl rfl, rfl, ?_⟩
        by_cases q2 : size x1 % 3 = 0
        · have lk := lookC (F := F) (cells := cells) (many := many) (by omega) (x := x1) (n := size x1 / 3) (nm := num x1) (by omega) (by omega) (by omega) (fun i i0 i1 => g6 i i0 (by omega))
          rw [if_pos q2, lk.2 (fun z => q1 ⟨q2, z⟩)]
        · rw [if_neg q2]
  · rw [if_neg h1, if_neg h1]
    exact Or.inl ⟨-2, _, Or.inl rfl, rfl, rfl⟩
end CNT2
/-! sums -/
def sm (f : Int → Int) : Nat → Int
  | 0 => 0
  | k + 1 => sm f k + f (k : Int)
theorem sm_congr {f g : Int → Int} : ∀ k : Nat, (∀ i, 0 ≤ i → i < (k : Int) → f i = g i) → sm f k = sm g k
  | 0, _ => rfl
  | k + 1, h => by
    unfold sm
    rw [sm_congr k (fun i a b => h i a (by omega)), h k (by omega) (by omega)]
theorem sm_zero : ∀ k : Nat, sm (fun _ => 0) k = 0
  | 0 => rfl
  | k + 1 => by
    unfold sm
    rw [sm_zero k]
    rfl
theorem sm_add {f g : Int → Int} : ∀ k : Nat, sm (fun i => f i + g i) k = sm f k + sm g k
  | 0 => rfl
  | k + 1 => by
    unfold sm
    rw [sm_add k]
    omega
theorem sm_swap {g : Int → Int → Int} {B : Nat} : ∀ A : Nat, sm (fun a => sm (fun b => g a b) B) A = sm (fun b => sm (fun a => g a b) A) B
  | 0 => (sm_zero B).symm
  | A + 1 => by
    show sm (fun a => sm (fun b => g a b) B) A + sm (fun b => g (A : Int) b) B = sm (fun b => sm (fun a => g a b) A + g (A : Int) b) B
    rw [sm_swap A, sm_add]
theorem sm_in {f : Int → Int} {M : Int} : ∀ k : Nat, (∀ i, 0 ≤ i → i < (k : Int) → 0 ≤ f i ∧ f i ≤ M) → 0 ≤ sm f k ∧ sm f k ≤ M * k
  | 0, _ => by simp [sm]
  | k + 1, h => by
    have h1 := sm_in (f := f) (M := M) k (fun i a b => h i a (by omega))
    have h2 := h k (by omega) (by omega)
    unfold sm
    have e : M * ((k + 1 : Nat) : Int) = M * k + M := by
      rw [show ((k + 1 : Nat) : Int) = (k : Int) + 1 by omega, Int.mul_add, Int.mul_one]
    rw [e]
    omega
theorem sm_run {lo hi : Int} : ∀ k : Nat, sm (fun a => if lo ≤ a + 1 ∧ a + 1 ≤ hi then 1 else 0) k = max 0 (min hi k - max lo 1 + 1)
  | 0 => by
    unfold sm
    omega
  | k + 1 => by
    unfold sm
    rw [sm_run k]
    split <;> omega
section CNT3
variable {F : Nat} {x n : Int} {pa wa co cells many le mo : Int → Int} {A : Int → Int → Bool}
theorem pairs_spec (hF : 1000 ≤ F) (hE : EndsR le mo A) : m_X0_pairs F le mo = some (sm (fun v => sm (fun a => bI (A (a + 1) v = true)) 200) 31) ∧ (0 ≤ sm (fun v => sm (fun a => bI (A (a + 1) v = true)) 200) 31 ∧ sm (fun v => sm (fun a => bI (A (a + 1) v = true)) 200) 31 ≤ 6200) := by
  have hcol : ∀ v, 0 ≤ v → v ≤ 30 → sm (fun a => bI (A (a + 1) v = true)) 200 = max 0 (mo v - le v + 1) := fun v v0 v1 => by
    obtain ⟨b1, b2, b3⟩ := hE v v0 v1
    have e1 : sm (fun a => bI (A (a + 1) v = true)) 200 = sm (fun a => if le v ≤ a + 1 ∧ a + 1 ≤ mo v then 1 else 0) 200 := sm_congr 200 (fun a a0 a1 => by
      unfold bI
      by_cases h : le v ≤ a + 1 ∧ a + 1 ≤ mo v
      · rw [if_pos h, if_pos ((b3 (a + 1) (by omega) (by omega)).mp h)]
      · rw [if_neg h, if_neg (fun z => h ((b3 (a + 1) (by omega) (by omega)).mpr z))])
    rw [e1, sm_run]
    omega
  have hbd : ∀ k : Nat, (k : Int) ≤ 31 → 0 ≤ sm (fun v => sm (fun a => bI (A (a + 1) v = true)) 200) k ∧ sm (fun v => sm (fun a => bI (A (a + 1) v = true)) 200) k ≤ 200 * k := fun k hk => sm_in k (fun i i0 i1 => by
    obtain ⟨b1, b2, b3⟩ := hE i i0 (by omega)
    rw [hcol i i0 (by omega)]
    omega)
  refine ⟨?_, by have := hbd 31 (by omega); omega⟩
  unfold m_X0_pairs ml_X0_pairs_4
  refine loopN_rec (I := fun q : Int × Int => (0 ≤ q.2 ∧ q.2 ≤ 31) ∧ q.1 = sm (fun v => sm (fun a => bI (A (a + 1) v = true)) 200) q.2.toNat) (μ := fun q => (31 - q.2).toNat) (P := fun q y => y = some (sm (fun v => sm (fun a => bI (A (a + 1) v = true)) 200) 31)) ?_ F (0, 0) ?_ ?_
  · rintro k ⟨s, v⟩ ⟨hv, hs⟩ ih
    simp only at hv hs ih ⊢
    unfold mb_X0_pairs_4
    rw [ifI_lt (by decide) (by omega)]
    by_cases h1 : 30 < v
    · rw [if_pos h1, hs, show v = 31 by omega]
      rfl
    · obtain ⟨b1, b2, b3⟩ := hE v hv.1 (by omega)
      rw [if_neg h1, chk_pos (by omega), chk_pos (by omega), max32' (by omega), bnd1_s]
      simp only [nam]
      refine ih _ ⟨by simp only; omega, ?_⟩ (by simp only; omega)
      simp only
      rw [show (v + 1).toNat = v.toNat + 1 by omega, hs, ← hcol v hv.1 (by omega)]
      show _ = sm (fun v => sm (fun a => bI (A (a + 1) v = true)) 200) v.toNat + sm (fun a => bI (A (a + 1) ((v.toNat : Nat) : Int) = true)) 200
      rw [show ((v.toNat : Nat) : Int) = v by omega]
  · exact ⟨by simp only; omega, rfl⟩
  · simp only
    omega
/-- the reference's count of pairs -/
theorem fits9_spec (hF : 1000 ≤ F) (Q : CntQ x n pa wa co cells many) : ml_X9_fits_22 F x 0 1 0 cells many = some (sm (fun a => sm (fun v => bI (allF pa wa co (a + 1) v n.toNat = true)) 31) 200, 0) := by
  have hrow : ∀ s, ∀ k : Nat, 0 ≤ sm (fun v => bI (allF pa wa co s v n.toNat = true)) k ∧ sm (fun v => bI (allF pa wa co s v n.toNat = true)) k ≤ 1 * k := fun s k => sm_in k (fun i _ _ => by
    have := bI_01 (c := allF pa wa co s i n.toNat = true)
    omega)
  unfold ml_X9_fits_22
  refine loopN_rec (I := fun q : Int × Int => (1 ≤ q.2 ∧ q.2 ≤ 201) ∧ q.1 = sm (fun a => sm (fun v => bI (allF pa wa co (a + 1) v n.toNat = true)) 31) (q.2 - 1).toNat) (μ := fun q => (201 - q.2).toNat) (P := fun q y => y = some (sm (fun a => sm (fun v => bI (allF pa wa co (a + 1) v n.toNat = true)) 31) 200, 0)) ?_ F (0, 1) ?_ ?_
  · rintro k ⟨acc, s⟩ ⟨hs, hacc⟩ ih
    simp only at hs hacc ih ⊢
    unfold mb_X9_fits_22
    rw [ifI_lt (by decide) (by omega)]
    by_cases h1 : 200 < s
    · rw [if_pos h1, hacc, show s = 201 by omega]
      rfl
    · rw [if_neg h1]
      unfold ml_X9_fits_33
      refine loopN_rec (I := fun q : Int × Int => (0 ≤ q.2 ∧ q.2 ≤ 31) ∧ q.1 = acc + sm (fun v => bI (allF pa wa co s v n.toNat = true)) q.2.toNat) (μ := fun q => (31 - q.2).toNat) (P := fun q y => y = some (sm (fun a => sm (fun v => bI (allF pa wa co (a + 1) v n.toNat = true)) 31) 200, 0)) ?_ F (acc, 0) ?_ ?_
      · rintro k2 ⟨m, v⟩ ⟨hv, hm⟩ ih2
        simp only at hv hm ih2 ⊢
        unfold mb_X9_fits_33
        rw [ifI_lt (by decide) (by omega)]
        by_cases h2 : 30 < v
        · rw [if_pos h2]
          refine ih (m, s + 1) ⟨by simp only; omega, ?_⟩ (by simp only; omega)
          simp only
          rw [show (s + 1 - 1).toNat = (s - 1).toNat + 1 by omega, hm, hacc, show v = 31 by omega]
          show _ = sm (fun a => sm (fun v => bI (allF pa wa co (a + 1) v n.toNat = true)) 31) (s - 1).toNat + sm (fun v => bI (allF pa wa co ((((s - 1).toNat : Nat) : Int) + 1) v n.toNat = true)) 31
          rw [show (((s - 1).toNat : Nat) : Int) + 1 = s by omega]
          rfl
        · have hst : sm (fun v => bI (allF pa wa co s v n.toNat = true)) (v + 1).toNat = sm (fun v => bI (allF pa wa co s v n.toNat = true)) v.toNat + bI (allF pa wa co s v n.toNat = true) := by
            rw [show (v + 1).toNat = v.toNat + 1 by omega]
            show _ + bI (allF pa wa co s ((v.toNat : Nat) : Int) n.toNat = true) = _
            rw [show ((v.toNat : Nat) : Int) = v by omega]
          rw [if_neg h2, areFit_spec hF Q (by omega) (by omega), bnd1_s, ifB]
          simp only [mb_X9_fits_58, nam]
          by_cases h3 : allF pa wa co s v n.toNat = true
          · rw [if_pos h3]
            refine ih2 (m + 1, v + 1) ⟨by simp only; omega, ?_⟩ (by simp only; omega)
            simp only
            rw [hst, bI_t h3, hm, Int.add_assoc]
          · rw [if_neg h3]
            refine ih2 (m + 0, v + 1) ⟨by simp only; omega, ?_⟩ (by simp only; omega)
            simp only
            rw [hst, bI_f h3, hm, Int.add_assoc]
      · refine ⟨by simp only; omega, ?_⟩
        show acc = acc + 0
        omega
      · simp only
        omega
  · exact ⟨by simp only; omega, rfl⟩
  · simp only
    omega
end CNT3
section CNT4
variable {F : Nat} {held width size wdt many cells : Int → Int} {num : Int → Int → Int}
/-- fits -/
theorem op_fits (hF : 100000 ≤ F) (S : SlotR held width size num wdt many cells) {x1 : Int} (hx1 : r32 x1) (u1 u2 u3 : Int) (f1 f2 f3 f4 f5 : Int → Int) : Eq1 (m_X8_fits F x1 u1 u2 u3 f1 f2 f3 f4 f5 held size num) (m_X9_fits F x1 cells many wdt) := by
  unfold m_X8_fits m_X9_fits
  rcases counts_pair hF S hx1 u1 u2 u3 f1 f2 f3 f4 f5 with ⟨r, ⟨w1, w2, w3, w4, w5, w6, w7, w8⟩, hr, k1, k2⟩ | ⟨n, o1, o2, co, le, mo, pa, wa, k1, k2, Q, hE⟩
  · rw [k1, k2, bnd9_s, bnd1_s, ifI_eq (a := r) (b := 0) (by omega) (by decide), ifI_eq (a := r) (b := 0) (by omega) (by decide), if_neg (show ¬ r = 0 by omega), if_neg (show ¬ r = 0 by omega)]
    exact Eq1.mk
  · rw [k1, k2, bnd9_s, bnd1_s, if_pos rfl, if_pos rfl, (pairs_spec (by omega) hE).1, bnd1_s, fits9_spec (by omega) Q]
    exact Eq1.of (sm_swap (g := fun v a => bI (allF pa wa co (a + 1) v n.toNat = true)) 31)
end CNT4
