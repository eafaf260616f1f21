/-! SIDES -/
/-- the least wait from a minute on -/
def lwt (com gw : Int → Int) (g0 : Int) : Nat → Int → Int → Int → Int → Int
  | 0, _, _, _, _ => 0
  | m + 1, i, law, ch, w => if ch ≤ 0 then max 0 (w + com i - (if law = 0 then g0 else gw i)) + lwt com gw g0 m (i + 1) law ch (max 0 (w + com i - (if law = 0 then g0 else gw i))) else min (max 0 (w + com i - (if law = 0 then g0 else gw i)) + lwt com gw g0 m (i + 1) law ch (max 0 (w + com i - (if law = 0 then g0 else gw i)))) (max 0 (w + com i - (if law = 0 then g0 else gw i)) + lwt com gw g0 m (i + 1) (1 - law) (ch - 1) (max 0 (w + com i - (if law = 0 then g0 else gw i))))
theorem lwt_in {com gw : Int → Int} {g0 n : Int} (hg0 : 0 ≤ g0 ∧ g0 ≤ 6000) (hc : ∀ i, 0 ≤ i → i < n → (0 ≤ com i ∧ com i ≤ 999) ∧ (0 ≤ gw i ∧ gw i ≤ 6000)) : ∀ (m : Nat) (i law ch w : Int), 0 ≤ i → i + m = n → 0 ≤ w → w + 999 * m ≤ 29970 → 0 ≤ lwt com gw g0 m i law ch w ∧ lwt com gw g0 m i law ch w ≤ 29970 * m
  | 0, i, law, ch, w, _, _, _, _ => by simp [lwt]
  | m + 1, i, law, ch, w, hi, hn, hw, hw2 => by
    have h1 := hc i hi (by omega)
    unfold lwt
    have h2 : 0 ≤ (if law = 0 then g0 else gw i) := by split <;> omega
    generalize (if law = 0 then g0 else gw i) = g at h2
    have h3 : 0 ≤ max 0 (w + com i - g) ∧ max 0 (w + com i - g) ≤ w + 999 := by omega
    generalize max 0 (w + com i - g) = M at h3
    have k1 := lwt_in hg0 hc m (i + 1) law ch M (by omega) (by omega) (by omega) (by omega)
    have k2 := lwt_in hg0 hc m (i + 1) (1 - law) (ch - 1) M (by omega) (by omega) (by omega) (by omega)
    split <;> omega
theorem min64 {F : Nat} {x y : Int} (hx : r64 x) (hy : r64 y) : m_J9_min_f86c9 F x y = some (min x y) := by
  unfold m_J9_min_f86c9
  rw [ifJ_lt hy hx]
  by_cases h : y < x
  · rw [if_pos h]
    congr 1
    omega
  · rw [if_neg h]
    congr 1
    omega
section SID
variable {F : Nat}
theorem leastWait_spec {com gw : Int → Int} {g0 n law ch K : Int} (hn : 0 ≤ n ∧ n ≤ 30) (hg0 : 0 ≤ g0 ∧ g0 ≤ 6000) (hc : ∀ i, 0 ≤ i → i < n → (0 ≤ com i ∧ com i ≤ 999) ∧ (0 ≤ gw i ∧ gw i ≤ 6000)) (hl : law = 0 ∨ law = 1) (hch : 0 ≤ ch ∧ ch ≤ 3) (hK : r64 K) :
    m_X3_leastWait F 0 law ch 0 0 K n g0 com gw = some (min K (lwt com gw g0 n.toNat 0 law ch 0)) := by
  unfold m_X3_leastWait m_X3_leastWait_at
  have key := loopN_rec (body := fun self q => mz_X3_leastWait F self q.1 q.2.1 q.2.2.1 q.2.2.2.1 q.2.2.2.2.1 q.2.2.2.2.2.1 q.2.2.2.2.2.2.1 q.2.2.2.2.2.2.2.1 q.2.2.2.2.2.2.2.2.1 q.2.2.2.2.2.2.2.2.2) (I := fun q : Int × Int × Int × Int × Int × Int × Int × Int × (Int → Int) × (Int → Int) => (0 ≤ q.1 ∧ q.1 ≤ n) ∧ (q.2.1 = 0 ∨ q.2.1 = 1) ∧ (0 ≤ q.2.2.1 ∧ q.2.2.1 ≤ 3) ∧ (0 ≤ q.2.2.2.1 ∧ q.2.2.2.1 + 999 * (n - q.1) ≤ 29970) ∧ (0 ≤ q.2.2.2.2.1 ∧ q.2.2.2.2.1 ≤ 29970 * q.1) ∧ r64 q.2.2.2.2.2.1 ∧ q.2.2.2.2.2.2 = (n, g0, com, gw)) (μ := fun q => (n - q.1).toNat) (P := fun q x => x = some (min q.2.2.2.2.2.1 (q.2.2.2.2.1 + lwt com gw g0 (n - q.1).toNat q.1 q.2.1 q.2.2.1 q.2.2.2.1))) ?_ 200 (0, law, ch, 0, 0, K, n, g0, com, gw) ?_ ?_
  · simp only [Int.sub_zero, Int.zero_add] at key
    exact key
  · rintro k ⟨i, lw, cg, w, s, K, n1, g1, c1, w1⟩ ⟨⟨i0, i1⟩, hlw, hcg, hw, hs, hK, hq⟩ ih
    cases hq
    simp only at i0 i1 hlw hcg hw hs hK ih ⊢
    have hlb := lwt_in (com := com) (gw := gw) (g0 := g0) (n := n) hg0 hc (n - i).toNat i lw cg w i0 (by omega) hw.1 (by omega)
    unfold mz_X3_leastWait mb_X3_leastWait_16
    rw [ifI_le (by omega) (by omega), ifJ_lt (by omega) (by omega), min64 hK (by omega), bnd1_s]
    by_cases h1 : n ≤ i
    · rw [if_pos h1, show (n - i).toNat = 0 by omega]
      simp only [lwt, Int.add_zero]
    · rw [if_neg h1]
      by_cases h2 : s < K
      · obtain ⟨m, hm⟩ : ∃ m : Nat, (n - i).toNat = m + 1 := ⟨(n - i).toNat - 1, by omega⟩
        have hm2 : (n - (i + 1)).toNat = m := by omega
        have hci := hc i i0 (by omega)
        have step : ∀ g : Int, g = (if lw = 0 then g0 else gw i) → mb_X3_leastWait_41 F k i lw cg w s K g n g0 com gw = some (min K (s + lwt com gw g0 (n - i).toNat i lw cg w)) := by
          intro g hg
          have hg2 : 0 ≤ g ∧ g ≤ 6000 := by rw [hg]; split <;> omega
          unfold mb_X3_leastWait_41
          rw [chk_pos (by omega), max64 (by decide) (by omega), max0, bnd1_s, hm]
          have hun : lwt com gw g0 (m + 1) i lw cg w = if cg ≤ 0 then max 0 (w + com i - g) + lwt com gw g0 m (i + 1) lw cg (max 0 (w + com i - g)) else min (max 0 (w + com i - g) + lwt com gw g0 m (i + 1) lw cg (max 0 (w + com i - g))) (max 0 (w + com i - g) + lwt com gw g0 m (i + 1) (1 - lw) (cg - 1) (max 0 (w + com i - g))) := by
            rw [hg]
            rfl
          have hM : 0 ≤ max 0 (w + com i - g) ∧ max 0 (w + com i - g) ≤ w + 999 := by omega
          generalize max 0 (w + com i - g) = M at hun hM
          have e1 := ih (i + 1, lw, cg, M, s + M, K, n, g0, com, gw) ⟨by simp only; omega, hlw, hcg, by simp only; omega, by simp only; omega, hK, rfl⟩ (by simp only; omega)
          simp only at e1
          rw [hm2] at e1
          rw [e1, bnd1_s, hun, ifI_le (by omega) (by decide)]
          by_cases h3 : cg ≤ 0
          · rw [if_pos h3, if_pos h3, Int.add_assoc]
          · have hl2 := lwt_in (com := com) (gw := gw) (g0 := g0) (n := n) hg0 hc m (i + 1) lw cg M (by omega) (by omega) (by omega) (by omega)
            have e2 := ih (i + 1, 1 - lw, cg - 1, M, s + M, min K (s + M + lwt com gw g0 m (i + 1) lw cg M), n, g0, com, gw) ⟨by simp only; omega, by simp only; omega, by simp only; omega, by simp only; omega, by simp only; omega, by simp only; omega, rfl⟩ (by simp only; omega)
            simp only at e2
            rw [hm2] at e2
            rw [if_neg h3, if_neg h3, e2, bnd1_s]
            congr 1
            omega
        rw [if_pos h2, ifI_eq (by omega) (by decide)]
        by_cases h4 : lw = 0
        · rw [if_pos h4]
          exact step g0 (by rw [if_pos h4])
        · rw [if_neg h4, chk_pos (by omega)]
          exact step (gw i) (by rw [if_neg h4])
      · rw [if_neg h2]
        congr 1
        omega
  · exact ⟨by simp only; omega, hl, hch, by simp only; omega, by simp only; omega, hK, rfl⟩
  · simp only
    omega
theorem tries_spec {com gw cells going many : Int → Int} {x g0 n law ch K : Int} (hx : 0 ≤ x ∧ x < 4) (hm : many x = 2 * n) (hn : 0 ≤ n ∧ n ≤ 30) (hg0 : 0 ≤ g0 ∧ g0 ≤ 6000) (hc : ∀ i, 0 ≤ i → i < n → (0 ≤ com i ∧ com i ≤ 999) ∧ (0 ≤ gw i ∧ gw i ≤ 6000)) (hr : ∀ i, 0 ≤ i → i < n → cells (60 * x + 2 * i) = com i ∧ going (2 * i) = g0 ∧ going (2 * i + 1) = gw i) (hl : law = 0 ∨ law = 1) (hch : 0 ≤ ch ∧ ch ≤ 3) (hK : r64 K) :
    m_X9_tries F x 0 law ch 0 0 K cells going many = some (min K (lwt com gw g0 n.toNat 0 law ch 0)) := by
  unfold m_X9_tries m_X9_tries_at
  have key := loopN_rec (body := fun self q => mz_X9_tries F self q.1 q.2.1 q.2.2.1 q.2.2.2.1 q.2.2.2.2.1 q.2.2.2.2.2.1 q.2.2.2.2.2.2.1 q.2.2.2.2.2.2.2.1 q.2.2.2.2.2.2.2.2.1 q.2.2.2.2.2.2.2.2.2) (I := fun q : Int × Int × Int × Int × Int × Int × Int × (Int → Int) × (Int → Int) × (Int → Int) => q.1 = x ∧ (0 ≤ q.2.1 ∧ q.2.1 ≤ n) ∧ (q.2.2.1 = 0 ∨ q.2.2.1 = 1) ∧ (0 ≤ q.2.2.2.1 ∧ q.2.2.2.1 ≤ 3) ∧ (0 ≤ q.2.2.2.2.1 ∧ q.2.2.2.2.1 + 999 * (n - q.2.1) ≤ 29970) ∧ (0 ≤ q.2.2.2.2.2.1 ∧ q.2.2.2.2.2.1 ≤ 29970 * q.2.1) ∧ r64 q.2.2.2.2.2.2.1 ∧ q.2.2.2.2.2.2.2 = (cells, going, many)) (μ := fun q => (n - q.2.1).toNat) (P := fun q y => y = some (min q.2.2.2.2.2.2.1 (q.2.2.2.2.2.1 + lwt com gw g0 (n - q.2.1).toNat q.2.1 q.2.2.1 q.2.2.2.1 q.2.2.2.2.1))) ?_ 200 (x, 0, law, ch, 0, 0, K, cells, going, many) ?_ ?_
  · simp only [Int.sub_zero, Int.zero_add] at key
    exact key
  · rintro k ⟨x', i, lw, cg, w, s, K, c1, w1, m1⟩ ⟨hxx, ⟨i0, i1⟩, hlw, hcg, hw, hs, hK, hq⟩ ih
    cases hq
    simp only at hxx i0 i1 hlw hcg hw hs hK ih ⊢
    subst hxx
    have hlb := lwt_in (com := com) (gw := gw) (g0 := g0) (n := n) hg0 hc (n - i).toNat i lw cg w i0 (by omega) hw.1 (by omega)
    unfold mz_X9_tries
    simp only [mb_X9_tries_32, nam]
    rw [chk_pos hx, ifI_lt (by omega) (by omega), ifJ_le (a := K) (b := s) (by omega) (by omega)]
    by_cases h1 : n ≤ i
    · rw [if_neg (by omega), show (n - i).toNat = 0 by omega]
      simp only [lwt, Int.add_zero]
      by_cases h2 : K ≤ s
      · rw [if_pos h2]
        congr 1
        omega
      · rw [if_neg h2]
        congr 1
        omega
    · obtain ⟨m, hmm⟩ : ∃ m : Nat, (n - i).toNat = m + 1 := ⟨(n - i).toNat - 1, by omega⟩
      have hm2 : (n - (i + 1)).toNat = m := by omega
      have hci := hc i i0 (by omega)
      obtain ⟨r1, r2, r3⟩ := hr i i0 (by omega)
      have hgo : going (2 * i + lw) = (if lw = 0 then g0 else gw i) := by
        rcases hlw with z | z
        · rw [z, if_pos rfl, Int.add_zero]
          exact r2
        · rw [z, if_neg (by decide)]
          exact r3
      have hg2 : 0 ≤ (if lw = 0 then g0 else gw i) ∧ (if lw = 0 then g0 else gw i) ≤ 6000 := by split <;> omega
      have hun : lwt com gw g0 (m + 1) i lw cg w = if cg ≤ 0 then max 0 (w + com i - (if lw = 0 then g0 else gw i)) + lwt com gw g0 m (i + 1) lw cg (max 0 (w + com i - (if lw = 0 then g0 else gw i))) else min (max 0 (w + com i - (if lw = 0 then g0 else gw i)) + lwt com gw g0 m (i + 1) lw cg (max 0 (w + com i - (if lw = 0 then g0 else gw i)))) (max 0 (w + com i - (if lw = 0 then g0 else gw i)) + lwt com gw g0 m (i + 1) (1 - lw) (cg - 1) (max 0 (w + com i - (if lw = 0 then g0 else gw i)))) := rfl
      rw [if_pos (by omega), chk_pos (by omega), chk_pos (by omega), r1, hgo, hmm, hun]
      generalize (if lw = 0 then g0 else gw i) = g at hg2
      have step : ∀ M : Int, M = max 0 (w + com i - g) → mb_X9_tries_78 F k x' i lw cg s M K cells going many = some (min K (s + if cg ≤ 0 then max 0 (w + com i - g) + lwt com gw g0 m (i + 1) lw cg (max 0 (w + com i - g)) else min (max 0 (w + com i - g) + lwt com gw g0 m (i + 1) lw cg (max 0 (w + com i - g))) (max 0 (w + com i - g) + lwt com gw g0 m (i + 1) (1 - lw) (cg - 1) (max 0 (w + com i - g))))) := by
        intro M hM
        rw [← hM]
        have hM2 : 0 ≤ M ∧ M ≤ w + 999 := by omega
        have e1 := ih (x', i + 1, lw, cg, M, s + M, K, cells, going, many) ⟨rfl, by simp only; omega, hlw, hcg, by simp only; omega, by simp only; omega, hK, rfl⟩ (by simp only; omega)
        simp only at e1
        rw [hm2] at e1
        unfold mb_X9_tries_78
        rw [e1, bnd1_s, ifI_le (by omega) (by decide)]
        by_cases h3 : cg ≤ 0
        · rw [if_pos h3, if_pos h3, Int.add_assoc]
        · have hl2 := lwt_in (com := com) (gw := gw) (g0 := g0) (n := n) hg0 hc m (i + 1) lw cg M (by omega) (by omega) (by omega) (by omega)
          have e2 := ih (x', i + 1, 1 - lw, cg - 1, M, s + M, min K (s + M + lwt com gw g0 m (i + 1) lw cg M), cells, going, many) ⟨rfl, by simp only; omega, by simp only; omega, by simp only; omega, by simp only; omega, by simp only; omega, by simp only; omega, rfl⟩ (by simp only; omega)
          simp only at e2
          rw [hm2] at e2
          rw [if_neg h3, if_neg h3, e2, bnd1_s]
          congr 1
          omega
      rw [ifJ_le (by decide) (by omega)]
      by_cases h5 : 0 ≤ w + com i - g
      · rw [if_pos h5]
        exact step _ (by omega)
      · rw [if_neg h5]
        exact step _ (by omega)
  · exact ⟨rfl, by simp only; omega, hl, hch, by simp only; omega, by simp only; omega, hK, rfl⟩
  · simp only
    omega
end SID
section SID2
variable {lines odds parts walkers bands sided st wk pc wd acts : Int} {steps speeds paces carried aP aS l h p a b c : Int → Int} {F : Nat}
variable {held width size wdt many cells : Int → Int} {num : Int → Int → Int}
def flo (q : Rat) : Int := q.num / (q.den : Int)
theorem flo_in {q : Rat} (hq : Bd q 6000 900 ∧ 0 ≤ q) : 0 ≤ flo q ∧ flo q ≤ 6000 := (whole_spec (F := 0) hq).2.1
theorem lwt_congr {com gw com' gw' : Int → Int} {g0 : Int} : ∀ (m : Nat) (i law ch w : Int), (∀ j, i ≤ j → j < i + m → com j = com' j ∧ gw j = gw' j) → lwt com gw g0 m i law ch w = lwt com' gw' g0 m i law ch w
  | 0, _, _, _, _, _ => rfl
  | m + 1, i, law, ch, w, h => by
    unfold lwt
    rw [(h i (by omega) (by omega)).1, (h i (by omega) (by omega)).2, lwt_congr m (i + 1) law ch _ (fun j j0 j1 => h j (by omega) (by omega)), lwt_congr m (i + 1) (1 - law) (ch - 1) _ (fun j j0 j1 => h j (by omega) (by omega))]
/-- the least wait of a row -/
def lwS (st wk pc sp : Int) (nm : Int → Int) (n law ch : Int) : Int := lwt (fun i => nm (2 * i)) (fun i => flo (flowW st wk pc sp (nm (2 * i + 1)))) (flo (flowS st sp)) n.toNat 0 law ch 0
/-- changeLaws -/
theorem changeLaws_spec (hF : 1000 ≤ F) {x ch size st wk pc : Int} {nm sp com0 wlk0 : Int → Int} (hx : 0 ≤ x ∧ x < 4) (hst : 1 ≤ st ∧ st ≤ 9) (hwk : 1 ≤ wk ∧ wk ≤ 9) (hpc : 1 ≤ pc ∧ pc ≤ 30) (hsp : 0 < sp x ∧ sp x ≤ 30) (hch : 0 ≤ ch ∧ ch ≤ 3) {n : Int} (hn : 0 ≤ n ∧ n ≤ 30) (hsz : size = 2 * n) (hg : ∀ i, 0 ≤ i → i < n → (0 ≤ nm (2 * i) ∧ nm (2 * i) ≤ 999) ∧ (0 ≤ nm (2 * i + 1) ∧ nm (2 * i + 1) ≤ 100)) :
    (0 ≤ lwS st wk pc (sp x) nm n 0 ch ∧ lwS st wk pc (sp x) nm n 0 ch ≤ 899100) ∧ (0 ≤ lwS st wk pc (sp x) nm n 1 ch ∧ lwS st wk pc (sp x) nm n 1 ch ≤ 899100) ∧ ∃ o3 o4 o5 o6 o7 o8, m_X3_changeLaws F x ch size st wk pc nm sp com0 wlk0 = some (lwS st wk pc (sp x) nm n 0 ch, min (lwS st wk pc (sp x) nm n 0 ch) (lwS st wk pc (sp x) nm n 1 ch), o3, o4, o5, o6, o7, o8) := by
  have hS := flowS_bd hst hsp
  have hSf := flo_in hS
  obtain ⟨w1, -⟩ := whole_spec (F := F) hS
  have hc : ∀ i, 0 ≤ i → i < n → (0 ≤ nm (2 * i) ∧ nm (2 * i) ≤ 999) ∧ (0 ≤ flo (flowW st wk pc (sp x) (nm (2 * i + 1))) ∧ flo (flowW st wk pc (sp x) (nm (2 * i + 1))) ≤ 6000) := fun i i0 i1 => ⟨(hg i i0 i1).1, flo_in (flowW_bd hst hwk hpc hsp (hg i i0 i1).2)⟩
  have l0 := lwt_in (com := fun i => nm (2 * i)) (gw := fun i => flo (flowW st wk pc (sp x) (nm (2 * i + 1)))) (n := n) hSf hc n.toNat 0 0 ch 0 (by omega) (by omega) (by omega) (by omega)
  have l1 := lwt_in (com := fun i => nm (2 * i)) (gw := fun i => flo (flowW st wk pc (sp x) (nm (2 * i + 1)))) (n := n) hSf hc n.toNat 0 1 ch 0 (by omega) (by omega) (by omega) (by omega)
  have L0 : 0 ≤ lwS st wk pc (sp x) nm n 0 ch ∧ lwS st wk pc (sp x) nm n 0 ch ≤ 899100 := by
    unfold lwS
    omega
  have L1 : 0 ≤ lwS st wk pc (sp x) nm n 1 ch ∧ lwS st wk pc (sp x) nm n 1 ch ≤ 899100 := by
    unfold lwS
    omega
  refine ⟨L0, L1, ?_⟩
  have e2 : size.tdiv 2 = n := by
    rw [hsz]
    exact Int.mul_tdiv_cancel_left n (by decide)
  have e3 : (if n < 30 then n else 30) = n := by split <;> omega
  unfold m_X3_changeLaws
  rw [putStanding_spec hF hx hst hsp, bnd2_s, w1, bnd1_s, chk_pos (by omega), e2, min32 (by decide) (by omega), bnd1_s, e3]
  unfold ml_X3_changeLaws_34
  refine loopN_rec (I := fun q : Int × Int × Int × (Int → Int) × (Int → Int) => 0 ≤ q.1 ∧ q.1 ≤ n ∧ ∀ j, 0 ≤ j → j < q.1 → q.2.2.2.1 j = nm (2 * j) ∧ q.2.2.2.2 j = flo (flowW st wk pc (sp x) (nm (2 * j + 1)))) (μ := fun q => (n - q.1).toNat) (P := fun q y => ∃ o3 o4 o5 o6 o7 o8, y = some (lwS st wk pc (sp x) nm n 0 ch, min (lwS st wk pc (sp x) nm n 0 ch) (lwS st wk pc (sp x) nm n 1 ch), o3, o4, o5, o6, o7, o8)) ?_ F _ ?_ ?_
  · rintro k ⟨i, A, B, com, wlk⟩ ⟨i0, i1, hq⟩ ih
    simp only at i0 i1 hq ih ⊢
    unfold mb_X3_changeLaws_34
    rw [ifI_le (by omega) (by omega)]
    by_cases h1 : n ≤ i
    · have hc2 : ∀ j, 0 ≤ j → j < n → (0 ≤ com j ∧ com j ≤ 999) ∧ (0 ≤ wlk j ∧ wlk j ≤ 6000) := fun j j0 j1 => by
        rw [(hq j j0 (by omega)).1, (hq j j0 (by omega)).2]
        exact hc j j0 j1
      have e0 : lwt com wlk (flo (flowS st (sp x))) n.toNat 0 0 ch 0 = lwS st wk pc (sp x) nm n 0 ch := lwt_congr _ _ _ _ _ (fun j j0 j1 => hq j j0 (by omega))
      have e1 : lwt com wlk (flo (flowS st (sp x))) n.toNat 0 1 ch 0 = lwS st wk pc (sp x) nm n 1 ch := lwt_congr _ _ _ _ _ (fun j j0 j1 => hq j j0 (by omega))
      have f0 := leastWait_spec (F := F) (com := com) (gw := wlk) (g0 := flo (flowS st (sp x))) (n := n) (law := 0) (ch := ch) (K := 899101) hn hSf hc2 (Or.inl rfl) hch (by decide)
      have f1 := leastWait_spec (F := F) (com := com) (gw := wlk) (g0 := flo (flowS st (sp x))) (n := n) (law := 1) (ch := ch) (K := lwS st wk pc (sp x) nm n 0 ch) hn hSf hc2 (Or.inr rfl) hch (by omega)
      rw [e0, show min 899101 (lwS st wk pc (sp x) nm n 0 ch) = lwS st wk pc (sp x) nm n 0 ch by omega] at f0
      rw [e1] at f1
      unfold flo at f0 f1
      rw [if_pos h1, f0, bnd1_s, f1, bnd1_s]
      exact ⟨_, _, _, _, _, _, rfl⟩
    · have hgi := hg i i0 (by omega)
      have hW := flowW_bd hst hwk hpc hsp hgi.2
      obtain ⟨w2, -⟩ := whole_spec (F := F) hW
      rw [if_neg h1, chk_pos (by omega)]
      simp only [nam]
      rw [chk_pos (by omega), chk_pos (by omega), putWalking_spec hF hx hst hwk hpc hsp hgi.2, bnd2_s, w2, bnd1_s, chk_pos (by omega)]
      refine ih _ ⟨by simp only; omega, by simp only; omega, fun j j0 j1 => ?_⟩ (by simp only; omega)
      simp only at j1 ⊢
      by_cases e : j = i
      · subst e
        rw [up_at, up_at]
        exact ⟨rfl, rfl⟩
      · rw [up_ne e, up_ne e]
        exact hq j j0 (by omega)
  · exact ⟨by simp only; omega, by simp only; omega, fun j j0 j1 => by simp only at j1; omega⟩
  · simp only
    omega
/-- sidesOf -/
theorem sidesOf_spec (hF : 1000 ≤ F) {x1 x2 law ch st wk pc : Int} {nm sp s' : Int → Int} (hx1 : 0 ≤ x1 ∧ x1 < 4) (hx2 : 0 ≤ x2 ∧ x2 < 4) (q4 : h 4 = st) (q5 : h 5 = wk) (q6 : h 6 = pc) (hsx : s' x2 = sp x2) (hst : 1 ≤ st ∧ st ≤ 9) (hwk : 1 ≤ wk ∧ wk ≤ 9) (hpc : 1 ≤ pc ∧ pc ≤ 30) (hsp : 0 < sp x2 ∧ sp x2 ≤ 30) (hl : law = 0 ∨ law = 1) (hch : 0 ≤ ch ∧ ch ≤ 3) {n : Int} (hn : 0 ≤ n ∧ n ≤ 30) (hsz : many x1 = 2 * n) (hg : ∀ i, 0 ≤ i → i < n → (0 ≤ nm (2 * i) ∧ nm (2 * i) ≤ 999) ∧ (0 ≤ nm (2 * i + 1) ∧ nm (2 * i + 1) ≤ 100)) (hcl : ∀ i, 0 ≤ i → i < 2 * n → cells (60 * x1 + i) = nm i) (A0 B0 : Int) (g0 : Int → Int) :
    ∃ o1 o2 g', m_X9_sidesOf F x1 x2 law ch A0 B0 cells g0 h many s' = some (lwS st wk pc (sp x2) nm n law ch, o1, o2, lwS st wk pc (sp x2) nm n law ch, g') := by
  have hS := flowS_bd hst hsp
  have hSf := flo_in hS
  obtain ⟨-, -, w3, w4⟩ := whole_spec (F := F) hS
  have hc : ∀ i, 0 ≤ i → i < n → (0 ≤ nm (2 * i) ∧ nm (2 * i) ≤ 999) ∧ (0 ≤ flo (flowW st wk pc (sp x2) (nm (2 * i + 1))) ∧ flo (flowW st wk pc (sp x2) (nm (2 * i + 1))) ≤ 6000) := fun i i0 i1 => ⟨(hg i i0 i1).1, flo_in (flowW_bd hst hwk hpc hsp (hg i i0 i1).2)⟩
  have l0 := lwt_in (com := fun i => nm (2 * i)) (gw := fun i => flo (flowW st wk pc (sp x2) (nm (2 * i + 1)))) (n := n) hSf hc n.toNat 0 law ch 0 (by omega) (by omega) (by omega) (by omega)
  have L0 : 0 ≤ lwS st wk pc (sp x2) nm n law ch ∧ lwS st wk pc (sp x2) nm n law ch ≤ 899100 := by
    unfold lwS
    omega
  unfold m_X9_sidesOf ml_X9_sidesOf_3
  refine loopN_rec (I := fun q : Int × Int × Int × (Int → Int) => 0 ≤ q.1 ∧ q.1 ≤ n ∧ ∀ j, 0 ≤ j → j < q.1 → q.2.2.2 (2 * j) = flo (flowS st (sp x2)) ∧ q.2.2.2 (2 * j + 1) = flo (flowW st wk pc (sp x2) (nm (2 * j + 1)))) (μ := fun q => (n - q.1).toNat) (P := fun q y => ∃ o1 o2 g', y = some (lwS st wk pc (sp x2) nm n law ch, o1, o2, lwS st wk pc (sp x2) nm n law ch, g')) ?_ F _ ?_ ?_
  · rintro k ⟨i, A, B, go⟩ ⟨i0, i1, hq⟩ ih
    simp only at i0 i1 hq ih ⊢
    unfold mb_X9_sidesOf_3
    rw [chk_pos hx1, hsz, ifI_le (by omega) (by omega)]
    by_cases h1 : 2 * n ≤ 2 * i
    · have f0 := tries_spec (F := F) (com := fun i => nm (2 * i)) (gw := fun i => flo (flowW st wk pc (sp x2) (nm (2 * i + 1)))) (cells := cells) (going := go) (many := many) (x := x1) (g0 := flo (flowS st (sp x2))) (n := n) (law := law) (ch := ch) (K := 9000000000) hx1 hsz hn hSf hc (fun j j0 j1 => ⟨hcl (2 * j) (by omega) (by omega), (hq j j0 (by omega)).1, (hq j j0 (by omega)).2⟩) hl hch (by decide)
      have e0 : min 9000000000 (lwS st wk pc (sp x2) nm n law ch) = lwS st wk pc (sp x2) nm n law ch := by omega
      unfold lwS at e0
      rw [e0] at f0
      rw [if_pos h1, f0, bnd1_s]
      exact ⟨_, _, _, rfl⟩
    · have hgi := hg i i0 (by omega)
      have hW := flowW_bd hst hwk hpc hsp hgi.2
      obtain ⟨-, -, v3, v4⟩ := whole_spec (F := F) hW
      have hci := hcl (2 * i + 1) (by omega) (by omega)
      rw [if_neg h1, flows0_spec hx2 (by omega) (by omega), bnd2_s, q4, hsx, chk_pos w3, w4]
      simp only [nam]
      rw [chk_pos (by omega), chk_pos (by omega), show 60 * x1 + 2 * i + 1 = 60 * x1 + (2 * i + 1) by omega, hci, flows1_spec hx2 (by omega) (by omega) (by omega) (by omega) hgi.2, bnd2_s, q4, q5, q6, hsx, chk_pos v3, v4, chk_pos (by omega)]
      refine ih _ ⟨by simp only; omega, by simp only; omega, fun j j0 j1 => ?_⟩ (by simp only; omega)
      simp only at j1 ⊢
      by_cases e : j = i
      · subst e
        rw [up_ne (by omega), up_at, up_at]
        exact ⟨rfl, rfl⟩
      · rw [up_ne (by omega), up_ne (by omega), up_ne (by omega), up_ne (by omega)]
        exact hq j j0 (by omega)
  · exact ⟨by simp only; omega, by simp only; omega, fun j j0 j1 => by simp only at j1; omega⟩
  · simp only
    omega
/-- the reference's look at the row -/
theorem lookS (hF : 1000 ≤ F) {x : Int} {s' : Int → Int} {nm : Int → Int} (hx : 0 ≤ x ∧ x < 4) (hm : 0 ≤ many x ∧ many x ≤ 60) (hc : ∀ i, 0 ≤ i → i < many x → cells (60 * x + i) = nm i ∧ r64 (nm i)) :
    ((∀ i, 0 ≤ i → i < many x → 0 ≤ nm i ∧ nm i ≤ (if i % 2 = 0 then 999 else 100)) → ml_X9_whyNotSides_69 F x 0 cells many s' = some (0, s')) ∧ ((∃ i, (0 ≤ i ∧ i < many x) ∧ ¬ (0 ≤ nm i ∧ nm i ≤ (if i % 2 = 0 then 999 else 100))) → ml_X9_whyNotSides_69 F x 0 cells many s' = some (-2, s')) := by
  have main := loopN_rec (body := fun (k : Int → Option (Int × (Int → Int))) q => mb_X9_whyNotSides_69 F k x q cells many s') (I := fun q : Int => 0 ≤ q ∧ q ≤ many x ∧ ∀ i, 0 ≤ i → i < q → 0 ≤ nm i ∧ nm i ≤ (if i % 2 = 0 then 999 else 100)) (μ := fun q => (many x - q).toNat) (P := fun q y => ((∀ i, 0 ≤ i → i < many x → 0 ≤ nm i ∧ nm i ≤ (if i % 2 = 0 then 999 else 100)) → y = some (0, s')) ∧ ((∃ i, (0 ≤ i ∧ i < many x) ∧ ¬ (0 ≤ nm i ∧ nm i ≤ (if i % 2 = 0 then 999 else 100))) → y = some (-2, s'))) ?_ F 0 ?_ ?_
  · exact main
  · rintro k q ⟨q0, q1, hq⟩ ih
    unfold mb_X9_whyNotSides_69
    rw [chk_pos hx, ifI_le (by omega) (by omega)]
    by_cases h1 : many x ≤ q
    · rw [if_pos h1]
      exact ⟨fun _ => rfl, fun ⟨i, hi, hn⟩ => absurd (hq i hi.1 (by omega)) hn⟩
    · have hcq := hc q q0 (by omega)
      have step : ∀ t : Int, r64 t → t = (if q % 2 = 0 then 999 else 100) → ((∀ i, 0 ≤ i → i < many x → 0 ≤ nm i ∧ nm i ≤ (if i % 2 = 0 then 999 else 100)) → mb_X9_whyNotSides_109 F k x q (nm q) 0 t cells many s' = some (0, s')) ∧ ((∃ i, (0 ≤ i ∧ i < many x) ∧ ¬ (0 ≤ nm i ∧ nm i ≤ (if i % 2 = 0 then 999 else 100))) → mb_X9_whyNotSides_109 F k x q (nm q) 0 t cells many s' = some (-2, s')) := by
        intro t ht et
        unfold mb_X9_whyNotSides_109
        rw [in_spec hcq.2 (by decide) ht, bnd1_s, ifB]
        by_cases h2 : 0 ≤ nm q ∧ nm q ≤ t
        · rw [if_pos h2]
          exact ih (q + 1) ⟨by omega, by omega, fun i i0 i1 => by
            by_cases e : i = q
            · rw [e, ← et]; exact h2
            · exact hq i i0 (by omega)⟩ (by omega)
        · rw [if_neg h2]
          exact ⟨fun z => absurd (by have := z q q0 (by omega); rw [← et] at this; exact this) h2, fun _ => rfl⟩
      have hmod : q.tmod 2 = q % 2 := Int.tmod_eq_emod_of_nonneg q0
      rw [if_neg h1, chk_pos (by omega), chk_pos (by omega), hcq.1, hmod, ifI_eq (by omega) (by decide)]
      by_cases h3 : q % 2 = 0
      · rw [if_pos h3]
        exact step 999 (by decide) (by rw [if_pos h3])
      · rw [if_neg h3]
        exact step 100 (by decide) (by rw [if_neg h3])
  · exact ⟨by omega, hm.1, fun i i0 i1 => by omega⟩
  · omega
/-- both sides up to the laws -/
theorem sides_pair (hF : 100000 ≤ F) (L : LayN lines odds parts steps speeds walkers paces bands carried sided st wk pc wd acts aP aS l h p a b c) (S : SlotR held width size num wdt many cells) {x1 x2 x3 : Int} (hx1 : r32 x1) (hx2 : r32 x2) (hx3 : r32 x3) (u1 u2 u3 u4 u5 u6 : Int) (f1 f2 sp : Int → Int) :
    (∃ r s', (r = -2 ∨ r = -6) ∧ m_X8_openSides F x1 x2 x3 parts sided st wk pc speeds u1 u2 u3 u4 f1 f2 held size num u5 u6 = some (r, u1, u2, u3, u4, f1, f2, u5, u6) ∧ m_X9_whyNotSides F x1 x2 x3 c cells h many p sp wdt = some (r, s')) ∨
    (∃ s' A B o3 o4 o5 o6 o7 o8, m_X8_openSides F x1 x2 x3 parts sided st wk pc speeds u1 u2 u3 u4 f1 f2 held size num u5 u6 = some (0, A, min A B, o3, o4, o5, o6, o7, o8) ∧ m_X9_whyNotSides F x1 x2 x3 c cells h many p sp wdt = some (0, s') ∧ (∀ A0 B0 g0, ∃ w1 w2 w3, m_X9_sidesOf F x1 x2 0 x3 A0 B0 cells g0 h many s' = some (A, w1, w2, A, w3)) ∧ (∀ A0 B0 g0, ∃ w1 w2 w3, m_X9_sidesOf F x1 x2 1 x3 A0 B0 cells g0 h many s' = some (B, w1, w2, B, w3)) ∧ (0 ≤ A ∧ A ≤ 899100) ∧ (0 ≤ B ∧ B ≤ 899100)) := by
  obtain ⟨-, -, ⟨e1, p0, p4⟩, -⟩ := id L
  obtain ⟨s', e, hs⟩ := areSides_spec (F := F) (by omega) L hx2 sp
  have bad : mb_X8_openSides_23 F x1 x2 x3 (-2) st wk pc speeds u1 u2 u3 u4 f1 f2 size num u5 u6 = some (-2, u1, u2, u3, u4, f1, f2, u5, u6) := by
    unfold mb_X8_openSides_23
    rw [if_neg m20]
  have bad6 : mb_X8_openSides_23 F x1 x2 x3 (-6) st wk pc speeds u1 u2 u3 u4 f1 f2 size num u5 u6 = some (-6, u1, u2, u3, u4, f1, f2, u5, u6) := by
    unfold mb_X8_openSides_23
    rw [if_neg (show ¬ wI (-6) = wI 0 by decide)]
  unfold m_X8_openSides m_X9_whyNotSides m_X8_crowdState
  rw [chk_pos hx3, isOut_spec (by omega) (by decide) (by decide), bnd1_s, ifB, isSlot8_spec hx1, bnd1_s, ifB, hasFlow_spec L hx2, bnd1_s, ifB, isSlot9_spec hx1, bnd1_s, ifB, chk_pos hx3, in_spec (by omega) (by decide) (by decide), bnd1_s, ifB, e, bnd2_s, ifB]
  by_cases h3 : 0 ≤ x3 ∧ x3 ≤ 3
  · by_cases h1 : 0 ≤ x1 ∧ x1 ≤ 3
    · by_cases h2 : (0 ≤ x2 ∧ x2 < parts) ∧ sided = 1
      · have hy := L.speeds_in h2.1.1 h2.1.2
        have hsx := hs h2 x2 h2.1.1 h2.1.2
        obtain ⟨⟨q4, q5, q6, q7⟩, hst, hwk, hpc, hwd⟩ := L.sides h2.2
        rw [if_neg (show ¬ ¬ (0 ≤ x3 ∧ x3 ≤ 3) from fun z => z h3), if_pos h1, if_pos h2, if_pos h1, if_pos h3, if_pos h2]
        simp only [chk_pos (show 0 ≤ x1 ∧ x1 < 4 by omega), chk_pos (show 0 ≤ x2 ∧ x2 < 4 by omega)]
        rw [hsx, ifI_lt (a := 0) (b := speeds x2) (by decide) (by omega), ifI_lt (a := 0) (b := speeds x2) (by decide) (by omega)]
        by_cases h4 : 0 < speeds x2
        · rw [if_pos h4, if_pos h4]
          rcases S x1 h1.1 (by omega) with ⟨g1, g2⟩ | ⟨g1, g2, g3, g4, g5, g6⟩
          · rw [g1, g2, if_pos rfl, if_pos rfl, bnd1_s, bad6]
            exact Or.inl ⟨-6, s', Or.inr rfl, rfl, rfl⟩
          · have hmod : (size x1).tmod 2 = size x1 % 2 := Int.tmod_eq_emod_of_nonneg g5.1
            rw [g1, g2, if_neg one0, ifI_eq (a := width x1) (b := -1) (by omega) (by decide), if_neg (show ¬ width x1 = -1 by omega), bnd1_s, g4]
            unfold mb_X8_openSides_23
            simp only [chk_pos (show 0 ≤ x1 ∧ x1 < 4 by omega), chk_pos (show dv32 (size x1) 2 by omega)]
            rw [if_pos trivial, hmod, ifI_eq (a := size x1 % 2) (b := 0) (by omega) (by decide), ifI_eq (a := size x1 % 2) (b := 0) (by omega) (by decide)]
            by_cases h5 : size x1 % 2 = 0
            · rw [if_pos h5, if_pos h5]
              have lk := lookS (F := F) (cells := cells) (many := many) (by omega) (x := x1) (s' := s') (nm := num x1) (by omega) (by omega) (fun i i0 i1 => g6 i i0 (by omega))
              obtain ⟨r, er, hr⟩ := hasOut_spec (F := F) (by omega) (start := 0) (step := 2) (lo := 0) (hi := 999) (size := size x1) (num := num x1) (by decide) (by decide) (by decide) (by decide) g5 (fun i i0 i1 => (g6 i i0 i1).2)
              obtain ⟨r', er', hr'⟩ := hasOut_spec (F := F) (by omega) (start := 1) (step := 2) (lo := 0) (hi := 100) (size := size x1) (num := num x1) (by decide) (by decide) (by decide) (by decide) g5 (fun i i0 i1 => (g6 i i0 i1).2)
              rw [er, bnd1_s]
              rcases hr with ⟨rfl, hr⟩ | ⟨rfl, j, hj, hr⟩
              · rw [if_pos rfl, er', bnd1_s]
                rcases hr' with ⟨rfl, hr'⟩ | ⟨rfl, j, hj, hr'⟩
                · have good : ∀ i, 0 ≤ i → i < many x1 → 0 ≤ num x1 i ∧ num x1 i ≤ (if i % 2 = 0 then 999 else 100) := fun i i0 i1 => by
                    by_cases ei : i % 2 = 0
                    · rw [if_pos ei]
                      have := hr (i / 2).toNat (by omega)
                      rw [show 0 + 2 * (((i / 2).toNat : Nat) : Int) = i by omega] at this
                      exact this
                    · rw [if_neg ei]
                      have := hr' (i / 2).toNat (by omega)
                      rw [show 1 + 2 * (((i / 2).toNat : Nat) : Int) = i by omega] at this
                      exact this
                  have gg : ∀ i, 0 ≤ i → i < size x1 / 2 → (0 ≤ num x1 (2 * i) ∧ num x1 (2 * i) ≤ 999) ∧ (0 ≤ num x1 (2 * i + 1) ∧ num x1 (2 * i + 1) ≤ 100) := fun i i0 i1 => by
                    have k1 := good (2 * i) (by omega) (by omega)
                    have k2 := good (2 * i + 1) (by omega) (by omega)
                    rw [if_pos (by omega)] at k1
                    rw [if_neg (by omega)] at k2
                    exact ⟨k1, k2⟩
                  obtain ⟨b0, b1, o3, o4, o5, o6, o7, o8, ec⟩ := changeLaws_spec (F := F) (by omega) (x := x2) (ch := x3) (size := size x1) (st := st) (wk := wk) (pc := pc) (nm := num x1) (sp := speeds) (com0 := f1) (wlk0 := f2) (by omega) hst hwk hpc (by omega) h3 (n := size x1 / 2) (by omega) (by omega) gg
                  rw [if_pos rfl, ec, bnd8_s, lk.1 good]
                  refine Or.inr ⟨s', _, _, _, _, _, _, _, _, rfl, rfl, fun A0 B0 g0 => ?_, fun A0 B0 g0 => ?_, b0, b1⟩
                  · exact sidesOf_spec (F := F) (h := h) (cells := cells) (many := many) (by omega) (nm := num x1) (sp := speeds) (by omega) (by omega) q4 q5 q6 hsx hst hwk hpc (by omega) (Or.inl rfl) h3 (n := size x1 / 2) (by omega) (by omega) gg (fun i i0 i1 => (g6 i i0 (by omega)).1) A0 B0 g0
                  · exact sidesOf_spec (F := F) (h := h) (cells := cells) (many := many) (by omega) (nm := num x1) (sp := speeds) (by omega) (by omega) q4 q5 q6 hsx hst hwk hpc (by omega) (Or.inr rfl) h3 (n := size x1 / 2) (by omega) (by omega) gg (fun i i0 i1 => (g6 i i0 (by omega)).1) A0 B0 g0
                · rw [if_neg one0, lk.2 ⟨1 + 2 * (j : Int), by omega, by rw [if_neg (by omega)]; exact hr'⟩]
                  exact Or.inl ⟨-2, s', Or.inl rfl, rfl, rfl⟩
              · rw [if_neg one0, lk.2 ⟨0 + 2 * (j : Int), by omega, by rw [if_pos (by omega)]; exact hr⟩]
                exact Or.inl ⟨-2, s', Or.inl rfl, rfl, rfl⟩
            · rw [if_neg h5, if_neg h5]
              exact Or.inl ⟨-2, s', Or.inl rfl, rfl, rfl⟩
        · rw [if_neg h4, if_neg h4, bnd1_s, bad]
          exact Or.inl ⟨-2, s', Or.inl rfl, rfl, rfl⟩
      · rw [if_neg (show ¬ ¬ (0 ≤ x3 ∧ x3 ≤ 3) from fun z => z h3), if_pos h1, if_neg h2, if_pos h1, if_pos h3, if_neg h2, bnd1_s, bad]
        exact Or.inl ⟨-2, s', Or.inl rfl, rfl, rfl⟩
    · rw [if_neg (show ¬ ¬ (0 ≤ x3 ∧ x3 ≤ 3) from fun z => z h3), if_neg h1, if_neg h1, bnd1_s, bad]
      exact Or.inl ⟨-2, sp, Or.inl rfl, rfl, rfl⟩
  · rw [if_pos h3, bad]
    refine Or.inl ⟨-2, sp, Or.inl rfl, rfl, ?_⟩
    rw [if_neg h3]
    split <;> rfl
/-- sides -/
theorem op_sides (hF : 100000 ≤ F) (L : LayN lines odds parts steps speeds walkers paces bands carried sided st wk pc wd acts aP aS l h p a b c) (S : SlotR held width size num wdt many cells) {x1 x2 x3 : Int} (hx1 : r32 x1) (hx2 : r32 x2) (hx3 : r32 x3) (u1 u2 u3 u4 u5 u6 v1 v2 v3 : Int) (f1 f2 g0 sp : Int → Int) : Eq1 (m_X8_sides F x1 x2 x3 parts sided st wk pc speeds u1 u2 u3 u4 f1 f2 held size num u5 u6) (m_X9_sides F x1 x2 x3 v1 v2 v3 c cells g0 h many p sp wdt) := by
  unfold m_X8_sides m_X9_sides
  rcases sides_pair hF L S hx1 hx2 hx3 u1 u2 u3 u4 u5 u6 f1 f2 sp with ⟨r, s', hr, k1, k2⟩ | ⟨s', A, B, o3, o4, o5, o6, o7, o8, k1, k2, k3, k4, hA, hB⟩
  · rw [k1, k2, bnd9_s, bnd2_s, ifI_eq (a := r) (b := 0) (by omega) (by decide), ifI_eq (a := r) (b := 0) (by omega) (by decide), if_neg (show ¬ r = 0 by omega), if_neg (show ¬ r = 0 by omega), chk_pos (by omega), chk_pos (by omega)]
    exact Eq1.mk
  · obtain ⟨w1, w2, w3, e1⟩ := k3 v1 v2 g0
    obtain ⟨y1, y2, y3, e2⟩ := k4 w1 w2 w3
    rw [k1, k2, bnd9_s, bnd2_s, if_pos rfl, if_pos rfl, e1, bnd5_s, e2, bnd5_s, ifJ_le (by omega) (by omega)]
    by_cases hAB : A ≤ B
    · rw [if_pos hAB]
      exact Eq1.of (by omega)
    · rw [if_neg hAB]
      exact Eq1.of (by omega)
/-- begins -/
theorem op_begins (hF : 100000 ≤ F) (L : LayN lines odds parts steps speeds walkers paces bands carried sided st wk pc wd acts aP aS l h p a b c) (S : SlotR held width size num wdt many cells) {x1 x2 x3 : Int} (hx1 : r32 x1) (hx2 : r32 x2) (hx3 : r32 x3) (u1 u2 u3 u4 u5 u6 v1 v2 v3 : Int) (f1 f2 g0 sp : Int → Int) : Eq1 (m_X8_begins F x1 x2 x3 parts sided st wk pc speeds u1 u2 u3 u4 f1 f2 held size num u5 u6) (m_X9_begins_ F x1 x2 x3 v1 v2 v3 c cells g0 h many p sp wdt) := by
  unfold m_X8_begins m_X9_begins_
  rcases sides_pair hF L S hx1 hx2 hx3 u1 u2 u3 u4 u5 u6 f1 f2 sp with ⟨r, s', hr, k1, k2⟩ | ⟨s', A, B, o3, o4, o5, o6, o7, o8, k1, k2, k3, k4, hA, hB⟩
  · rw [k1, k2, bnd9_s, bnd2_s, ifI_eq (a := r) (b := 0) (by omega) (by decide), ifI_eq (a := r) (b := 0) (by omega) (by decide), if_neg (show ¬ r = 0 by omega), if_neg (show ¬ r = 0 by omega)]
    exact Eq1.mk
  · obtain ⟨w1, w2, w3, e1⟩ := k3 v1 v2 g0
    obtain ⟨y1, y2, y3, e2⟩ := k4 w1 w2 w3
    rw [k1, k2, bnd9_s, bnd2_s, if_pos rfl, if_pos rfl, e1, bnd5_s, e2, bnd5_s, ifJ_le (a := A) (b := min A B) (by omega) (by omega), ifJ_le (a := A) (b := B) (by omega) (by omega)]
    by_cases hAB : A ≤ B
    · rw [if_pos hAB, if_pos (by omega)]
      exact Eq1.mk
    · rw [if_neg hAB, if_neg (by omega)]
      exact Eq1.mk
end SID2
