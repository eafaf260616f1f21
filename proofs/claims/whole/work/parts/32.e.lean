/-! a call whose cells stay where they are: the world behind it, place by place -/
def mixL : va_W → va_W → List (Option Nat) → va_W
  | a :: ws, wc, none :: T => a :: mixL ws wc T
  | a :: ws, wc, some j :: T => (wc[j]?).getD a :: mixL ws wc T
  | _, _, _ => []
def tagsOK (isC : List Nat) (T : List (Option Nat)) : Bool := va_nd isC && ((List.range isC.length).all (fun j => match isC[j]? with | some i => T[i]? == some (some j) | none => true) && (List.range T.length).all (fun k => match T[k]? with | some (some j) => isC[j]? == some k | _ => true))
theorem mix_at {wc : va_W} : ∀ (T : List (Option Nat)) (ws : va_W) (k : Nat) (q : Nat × va_E), (mixL ws wc T)[k]? = some q → (T[k]? = some none ∧ ws[k]? = some q) ∨ ∃ (j : Nat) (a : Nat × va_E), T[k]? = some (some j) ∧ ws[k]? = some a ∧ q = (wc[j]?).getD a
  | [], [], k, q, h => by simp [mixL] at h
  | [], a :: ws, k, q, h => by simp [mixL] at h
  | t :: T, [], k, q, h => by simp [mixL] at h
  | none :: T, a :: ws, 0, q, h => by
    simp only [mixL, List.getElem?_cons_zero] at h
    exact Or.inl ⟨rfl, h⟩
  | some j :: T, a :: ws, 0, q, h => by
    simp only [mixL, List.getElem?_cons_zero] at h
    exact Or.inr ⟨j, a, rfl, rfl, (Option.some.inj h).symm⟩
  | none :: T, a :: ws, k + 1, q, h => by
    simp only [mixL, List.getElem?_cons_succ] at h ⊢
    exact mix_at T ws k q h
  | some j :: T, a :: ws, k + 1, q, h => by
    simp only [mixL, List.getElem?_cons_succ] at h ⊢
    exact mix_at T ws k q h
theorem tags_spec {isC : List Nat} {T : List (Option Nat)} (h : tagsOK isC T = true) : va_nd isC = true ∧ (∀ j i : Nat, isC[j]? = some i → T[i]? = some (some j)) ∧ ∀ k j : Nat, T[k]? = some (some j) → isC[j]? = some k := by
  unfold tagsOK at h
  simp only [Bool.and_eq_true, List.all_eq_true, List.mem_range] at h
  refine ⟨h.1, fun j i hj => ?_, fun k j hk => ?_⟩
  · have := h.2.1 j (List.getElem?_eq_some_iff.mp hj).1
    rw [hj] at this
    exact eq_of_beq this
  · have := h.2.2 k (List.getElem?_eq_some_iff.mp hk).1
    rw [hk] at this
    exact eq_of_beq this
section GC2
variable {E : EE} {cc : ByteArray} {own : String} {rm : Room} {k n pc : Nat} {ws : va_W} {L : List (Option Value)} {st : List Value}
theorem g_afterS {ov : Option Value} {rest : List Value} {wc wc' ws2 : va_W} {isC : List Nat} {T0 : List (Option Nat)} {av : Array Value} {H : Heap} {locs : List Loc} {ls : Array Slot} (C : Cx E cc own rm)
    (hC : isC.map (fun i => ws[i]?) = wc.map some) (hF1 : wc'.map Prod.fst = wc.map Prod.fst) (hp : tagsOK isC T0 = true) (h2 : mixL ws wc' T0 = ws2)
    (hP : va_P (eD E) vwCl ws H) (hD : va_D (eA E) ws) (hS : va_S (eA E) (eS E).heap H locs) (hl : lh ls (eN E) L)
    (hr : va_Run (eP E) (eL E) (eE E) (eR E) (eS E) (eM E) (eAr E) (eB E) (eMt E) (eC E) H locs k n 0 0 (F0 (eM E) pc ls st) rest (QS (eD E) ov wc wc' H.size av) (va_A wc H.size))
    (kk : GG E k n ws2 L (pc + 3) (ov.toList ++ rest)) : W (eP E) (eL E) (eE E) (eR E) (eS E) (eM E) (eAr E) (eB E) (eMt E) (eC E) H locs k n (eQ E) (F0 (eM E) pc ls st) := by
  have hF := va_free (wc := wc) hD hS C.a isC hC
  obtain ⟨-, t1, t2⟩ := tags_spec hp
  have at' : ∀ (k : Nat) (q : Nat × va_E), wc[k]? = some q → ∃ i, isC[k]? = some i ∧ ws[i]? = some q := by
    intro k q hq
    have h1 : (isC.map (fun i => ws[i]?))[k]? = some (some q) := by rw [hC, List.getElem?_map, hq]; rfl
    rw [List.getElem?_map] at h1
    cases hi : isC[k]? with
    | none => rw [hi] at h1; cases h1
    | some i => rw [hi] at h1; exact ⟨i, rfl, Option.some.inj h1⟩
  have same : ∀ (k j : Nat), isC[j]? = some k → ∃ p q : Nat × va_E, ws[k]? = some p ∧ wc'[j]? = some q ∧ q.1 = p.1 := by
    intro k j hj
    have h1 : (isC.map (fun i => ws[i]?))[j]? = some (ws[k]?) := by rw [List.getElem?_map, hj]; rfl
    rw [hC, List.getElem?_map] at h1
    cases hw : wc[j]? with
    | none => rw [hw] at h1; cases h1
    | some p =>
      rw [hw] at h1
      have h2 : (wc'.map Prod.fst)[j]? = some p.1 := by rw [hF1, List.getElem?_map, hw]; rfl
      rw [List.getElem?_map] at h2
      cases hw2 : wc'[j]? with
      | none => rw [hw2] at h2; cases h2
      | some q =>
        rw [hw2] at h2
        exact ⟨p, q, (Option.some.inj h1).symm, rfl, Option.some.inj h2⟩
  intro T hT X
  obtain ⟨v, st₀, t, T', LL, h0, X', hL, e1, e2, ⟨⟨hv, hP1, hD1⟩, hz, hk⟩, stp⟩ := hr T hT X
  cases hv
  rw [h0] at hz hk
  rw [← e1] at hP1 hz hk
  have mix : ∀ (k : Nat) (q : Nat × va_E), ws2[k]? = some q → (T0[k]? = some none ∧ ws[k]? = some q) ∨ ∃ j : Nat, isC[j]? = some k ∧ wc'[j]? = some q := by
    intro k q hq
    rw [← h2] at hq
    rcases mix_at T0 ws k q hq with h | ⟨j, a, h3, h4, h5⟩
    · exact Or.inl h
    · have hj := t2 k j h3
      obtain ⟨p, q', g1, g2, g3⟩ := same k j hj
      rw [g2] at h5
      exact Or.inr ⟨j, hj, by rw [g2, h5]; rfl⟩
  have jP : va_P (eD E) vwCl ws2 T'.heap := by
    intro k q hq
    rcases mix k q hq with ⟨h3, h4⟩ | ⟨j, h3, h4⟩
    · refine (hP k q h4).kept (hk q.1 (hP k q h4).lt ?_)
      rintro (⟨j, e, h⟩ | h)
      · obtain ⟨i, g1, g2⟩ := at' j (q.1, e) h
        have hik := hD.1 i k (q.1, e) q g2 h4 rfl
        subst hik
        rw [t1 j i g1] at h3
        cases h3
      · exact absurd (hP k q h4).lt (Nat.not_lt.mpr h)
    · exact hP1 j q h4
  have jA : ∀ (k : Nat) (q : Nat × va_E), ws2[k]? = some q → ∃ p : Nat × va_E, ws[k]? = some p ∧ p.1 = q.1 := by
    intro k q hq
    rcases mix k q hq with ⟨h3, h4⟩ | ⟨j, h3, h4⟩
    · exact ⟨q, h4, rfl⟩
    · obtain ⟨p, q', g1, g2, g3⟩ := same k j h3
      rw [g2] at h4
      exact ⟨p, g1, by rw [← g3, Option.some.inj h4]⟩
  have jD : va_D (eA E) ws2 := by
    refine ⟨fun i j p q hi hj hpq => ?_, fun k q hq => ?_⟩
    · obtain ⟨p', a1, a2⟩ := jA i p hi
      obtain ⟨q', b1, b2⟩ := jA j q hj
      exact hD.1 i j p' q' a1 b1 (by rw [a2, b2, hpq])
    · obtain ⟨p', a1, a2⟩ := jA k q hq
      rw [← a2]
      exact hD.2 k p' a1
  have jS : va_S (eA E) (eS E).heap T'.heap (locs ++ LL) := ⟨Nat.le_trans hS.1 hz, fun q h1 h2 => by rw [hk q (Nat.lt_of_lt_of_le h1 hS.1) (fun z => h2 (hF q z))]; exact hS.2.1 q h1 h2, fun q hq => by
    rcases List.mem_append.mp hq with h | h
    · exact hS.2.2 q h
    · exact hF _ (hL q h)⟩
  obtain ⟨t2, a1, b1⟩ := kk T'.heap (locs ++ LL) ls jP jD jS hl T' rfl X'
  exact ⟨t2, stp t2 a1, b1⟩
theorem g_setV {y : MethodName} {cb : ByteArray} {mL nA index b ci q0 : Nat} {rt : Option FieldType} {rc : Room} {As rest fs : List Value} {wc wc' ws2 : va_W} {ov : Option Value} {T : u_T} {N : Nat} (isC : List Nat) (T0 : List (Option Nat)) (C : Cx E cc own rm) (M : MtV own index y cb mL rt nA)
    (hc : Ct (eL E) y cb mL rt rc (eD E) (eCy E) (eAd E) (.ref b :: As) wc wc' ov) (hq : wc[q0]? = some (b, .inr (ci, fs))) (hci : vwCl[ci]? = some (y.cls, T, N))
    (hC : isC.map (fun i => ws[i]?) = wc.map some) (hF1 : wc'.map Prod.fst = wc.map Prod.fst) (hp : tagsOK isC T0 = true) (h2 : mixL ws wc' T0 = ws2)
    (hnA : As.length = nA) (hst : st = As.reverse ++ .ref b :: rest) (hcat : Nat.ble (rest.map fun v => v.category).sum 8 = true) (hrm : roomOK rc rm mL k n = true) (d : decode cc pc = .ok (.invokevirtual index, 3)) (kk : GG E k n ws2 L (pc + 3) (ov.toList ++ rest)) : GG E k n ws L pc st := by
  intro H locs ls hP hD hS hl
  obtain ⟨-, -, -, -, r5, r6⟩ := roomOK_spec hrm
  have hF := va_free (wc := wc) hD hS C.a isC hC
  obtain ⟨hPc, hDc⟩ := cut_world (isR := []) (is2 := []) hP hD hC (by unfold placesOK; rw [(tags_spec hp).1]; rfl)
  have hB := M.1.cb (k := k) (n := n) (rc := rc) M.2.1 C hrm
  rw [← C.r] at hB
  exact g_afterS C hC hF1 hp h2 hP hD hS hl (va_runV (As := As) (rest := rest) ⟨C.x, C.b, C.ml, C.ow, C.ts⟩ (hc H.size) ⟨hB, C.ts _ M.2.2.1, C.ts _ M.2.2.2⟩ ⟨PcS_blind, va_recv C.kk.1 hPc hci hq, fun U hU hW => ⟨rfl, by rw [hU], by rw [hU]; exact hPc, KK.warm hW C.kk, hDc, SX.to C.sx hS hW hU hF⟩⟩ rfl hnA hl.1 hst (lv_room (Nat.ble_eq.mp hcat)) d ⟨by rw [C.r]; exact r5, by rw [C.r]; exact r6⟩) kk
theorem g_setI {y : MethodName} {cb : ByteArray} {mL nA index b ci q0 : Nat} {rt : Option FieldType} {rc : Room} {As rest fs : List Value} {wc wc' ws2 : va_W} {r : Int32} {T : u_T} {N : Nat} (isC : List Nat) (T0 : List (Option Nat)) (C : Cx E cc own rm) (M : MtV own index y cb mL rt nA)
    (hc : Ct (eL E) y cb mL rt rc (eD E) (eCy E) (eAd E) (.ref b :: As) wc wc' (some (.int r))) (hq : wc[q0]? = some (b, .inr (ci, fs))) (hci : vwCl[ci]? = some (y.cls, T, N))
    (hC : isC.map (fun i => ws[i]?) = wc.map some) (hF1 : wc'.map Prod.fst = wc.map Prod.fst) (hp : tagsOK isC T0 = true) (h2 : mixL ws wc' T0 = ws2)
    (hnA : As.length = nA) (hst : st = As.reverse ++ .ref b :: rest) (hcat : Nat.ble (rest.map fun v => v.category).sum 8 = true) (hrm : roomOK rc rm mL k n = true) (d : decode cc pc = .ok (.invokevirtual index, 3)) (kk : GG E k n ws2 L (pc + 3) (.int r :: rest)) : GG E k n ws L pc st := g_setV isC T0 C M hc hq hci hC hF1 hp h2 hnA hst hcat hrm d kk
theorem g_setJ {y : MethodName} {cb : ByteArray} {mL nA index b ci q0 : Nat} {rt : Option FieldType} {rc : Room} {As rest fs : List Value} {wc wc' ws2 : va_W} {r : Int64} {T : u_T} {N : Nat} (isC : List Nat) (T0 : List (Option Nat)) (C : Cx E cc own rm) (M : MtV own index y cb mL rt nA)
    (hc : Ct (eL E) y cb mL rt rc (eD E) (eCy E) (eAd E) (.ref b :: As) wc wc' (some (.long r))) (hq : wc[q0]? = some (b, .inr (ci, fs))) (hci : vwCl[ci]? = some (y.cls, T, N))
    (hC : isC.map (fun i => ws[i]?) = wc.map some) (hF1 : wc'.map Prod.fst = wc.map Prod.fst) (hp : tagsOK isC T0 = true) (h2 : mixL ws wc' T0 = ws2)
    (hnA : As.length = nA) (hst : st = As.reverse ++ .ref b :: rest) (hcat : Nat.ble (rest.map fun v => v.category).sum 8 = true) (hrm : roomOK rc rm mL k n = true) (d : decode cc pc = .ok (.invokevirtual index, 3)) (kk : GG E k n ws2 L (pc + 3) (.long r :: rest)) : GG E k n ws L pc st := g_setV isC T0 C M hc hq hci hC hF1 hp h2 hnA hst hcat hrm d kk
end GC2
