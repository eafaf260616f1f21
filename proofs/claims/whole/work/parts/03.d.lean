/-! ARRAYS OF REFERENCES, COPIES, TEXT CONSTANTS -/
section GT
variable {E : EE} {cc : ByteArray} {own : String} {rm : Room} {k n pc : Nat} {ws : va_W} {L : List (Option Value)} {st : List Value}
theorem g_aald {a N t0 x : Nat} {f : Nat → Option Nat} {i : Int} {Cn : String} (C : Cx E cc own rm) (q0 : Nat) {cA : ClassId} (he : ws[q0]? = some (a, .inl (cA, N, .inr (.inr (.inr (.inr f)))))) (ht : (tyL (eCy E))[t0]? = some (cA, .object Cn)) (hi : (0 ≤ i ∧ i < (N : Int)) ∧ N < 2147483648) (hf : f i.toNat = some x) (d : decode cc pc = .ok (.aaload, 1)) (kk : GG E k n ws L (pc + 1) (.ref x :: st)) : GG E k n ws L pc (.int (wI i) :: .ref a :: st) := by
  intro H locs ls hP hD hS hl
  refine va_aldq (D := eD E) C.x C.b C.kk.1 hP q0 t0 he ht (wI_in hi.1 hi.2) d ?_
  rw [wI_clamp hi.1 hi.2, hf]
  exact kk H locs ls hP hD hS hl
theorem g_aaldR {a N x : Nat} {f : Nat → Option Nat} {i : Int} (C : Cx E cc own rm) (q0 : Nat) (he : ws[q0]? = some (a, .inl (eCy E 6, N, .inr (.inr (.inr (.inr f)))))) (hi : (0 ≤ i ∧ i < (N : Int)) ∧ N < 2147483648) (hf : f i.toNat = some x) (d : decode cc pc = .ok (.aaload, 1)) (kk : GG E k n ws L (pc + 1) (.ref x :: st)) : GG E k n ws L pc (.int (wI i) :: .ref a :: st) := by
  intro H locs ls hP hD hS hl
  have hin := wI_in hi.1 hi.2
  have hlt : (wI i).toNatClampNeg < N := Nat.not_le.mp fun q => hin (Or.inr q)
  refine W.aald (v := va_rf (f (wI i).toNatClampNeg)) (ty := .array .int) C.x C.b (hP q0 _ he) ((C.kk.1.2 6 _ rfl).1 N (fun j => va_rf (f j))) rfl (fun q => by cases q) (by show ¬ (wI i < 0 ∨ (arrV _ _ _).slots.size ≤ _); rw [arrV_size]; exact hin) (by show (arrV _ _ _).slots[_]? = _; rw [arrV_read _ _ hlt]) rfl rfl d ?_
  rw [wI_clamp hi.1 hi.2, hf]
  exact kk H locs ls hP hD hS hl
def copyRoom (rm : Room) (rest : List Value) : Bool := Nat.ble 1 rm.frames && Nat.ble ((rest.map fun v => v.category).sum + 18) rm.locals
theorem cpyI_eq {f g : Int → Int} {i j m : Int} (hi : 0 ≤ i) (hj : 0 ≤ j) (hm : 0 ≤ m) : va_cpy (aI f) (aI g) i.toNat j.toNat m.toNat = aI (cpy f g i j m) := by
  funext q
  show (if j.toNat ≤ q ∧ q < j.toNat + m.toNat then wI (f ((i.toNat + (q - j.toNat) : Nat) : Int)) else wI (g q)) = wI (if j ≤ (q : Int) ∧ (q : Int) < j + m then f (i + ((q : Int) - j)) else g q)
  by_cases e : j.toNat ≤ q ∧ q < j.toNat + m.toNat
  · rw [if_pos e, if_pos (by omega)]
    congr 2
    omega
  · rw [if_neg e, if_neg (by omega)]
theorem cpyJ_eq {f g : Int → Int} {i j m : Int} (hi : 0 ≤ i) (hj : 0 ≤ j) (hm : 0 ≤ m) : va_cpy (aJ f) (aJ g) i.toNat j.toNat m.toNat = aJ (cpy f g i j m) := by
  funext q
  show (if j.toNat ≤ q ∧ q < j.toNat + m.toNat then wJ (f ((i.toNat + (q - j.toNat) : Nat) : Int)) else wJ (g q)) = wJ (if j ≤ (q : Int) ∧ (q : Int) < j + m then f (i + ((q : Int) - j)) else g q)
  by_cases e : j.toNat ≤ q ∧ q < j.toNat + m.toNat
  · rw [if_pos e, if_pos (by omega)]
    congr 2
    omega
  · rw [if_neg e, if_neg (by omega)]
theorem wI_nneg {i : Int} (h : 0 ≤ i ∧ i ≤ 2147483647) : ¬ wI i < 0 := by
  intro q
  have q : wI i < wI 0 := q
  rw [wI_lt (by omega) (by decide)] at q
  omega
theorem wI_cl {i : Int} (h : 0 ≤ i ∧ i ≤ 2147483647) : (wI i).toNatClampNeg = i.toNat := Int32.toNatClampNeg_ofInt_of_le (by omega) (by omega)
theorem nat_cp : Cond.native arraycopyName ∈ WL := wl_in (by decide +kernel) (by decide +kernel)
theorem sta_cp : Cond.static arraycopyName ∈ WL := wl_in (by decide +kernel) (by decide +kernel)
theorem ini_cp : Cond.initialized "java/lang/System" ∈ WL := wl_in (by decide +kernel) (by decide +kernel)
theorem g_copyI {a0 a1 N0 N1 index : Nat} {f g : Int → Int} {i j m : Int} {ws' : va_W} (C : Cx E cc own rm) (hw : Cond.methodLink own index arraycopyName ∈ WL) (q0 q1 : Nat) (he0 : ws[q0]? = some (a0, .inl (eCy E 1, N0, .inl (aI f)))) (he1 : ws[q1]? = some (a1, .inl (eCy E 1, N1, .inl (aI g)))) (hN : (Nat.blt N0 2147483648 && Nat.blt N1 2147483648) = true) (hr : (0 ≤ i ∧ 0 ≤ j ∧ 0 ≤ m) ∧ (i + m ≤ (N0 : Int) ∧ j + m ≤ (N1 : Int))) (e : ws.set q1 (a1, .inl (eCy E 1, N1, .inl (aI (cpy f g i j m)))) = ws') (hrm : copyRoom rm st = true) (d : decode cc pc = .ok (.invokestatic index, 3)) (kk : GG E k n ws' L (pc + 3) st) : GG E k n ws L pc (.int (wI m) :: .int (wI j) :: .ref a1 :: .int (wI i) :: .ref a0 :: st) := by
  simp only [Bool.and_eq_true, copyRoom] at hN hrm
  have hN0 := Nat.blt_eq.mp hN.1
  have hN1 := Nat.blt_eq.mp hN.2
  obtain ⟨⟨hi, hj, hm⟩, h4, h5⟩ := hr
  intro H locs ls hP hD hS hl
  refine va_copyi (D := eD E) C.x C.b (C.ml.trans hl.1.symm) C.ow (C.ts _ hw) (C.ts _ nat_cp) (C.ts _ sta_cp) (C.ts _ ini_cp) C.kk.1 hP hD hS q0 q1 1 1 he0 he1 rfl rfl rfl (wI_nneg (by omega)) (wI_nneg (by omega)) (wI_nneg (by omega)) (by rw [wI_cl (by omega), wI_cl (by omega)]; omega) (by rw [wI_cl (by omega), wI_cl (by omega)]; omega) (fun _ _ => rfl) (by rw [C.r]; exact Nat.ble_eq.mp hrm.1) (by rw [C.r]; exact Nat.ble_eq.mp hrm.2) d (fun H1 locs1 hP1 hD1 hS1 => ?_)
  rw [wI_cl (by omega), wI_cl (by omega), wI_cl (by omega), cpyI_eq hi hj hm] at hP1 hD1
  exact kk H1 locs1 ls (e ▸ hP1) (e ▸ hD1) hS1 hl
theorem g_copyJ {a0 a1 N0 N1 index : Nat} {f g : Int → Int} {i j m : Int} {ws' : va_W} (C : Cx E cc own rm) (hw : Cond.methodLink own index arraycopyName ∈ WL) (q0 q1 : Nat) (he0 : ws[q0]? = some (a0, .inl (eCy E 2, N0, .inr (.inl (aJ f))))) (he1 : ws[q1]? = some (a1, .inl (eCy E 2, N1, .inr (.inl (aJ g))))) (hN : (Nat.blt N0 2147483648 && Nat.blt N1 2147483648) = true) (hr : (0 ≤ i ∧ 0 ≤ j ∧ 0 ≤ m) ∧ (i + m ≤ (N0 : Int) ∧ j + m ≤ (N1 : Int))) (e : ws.set q1 (a1, .inl (eCy E 2, N1, .inr (.inl (aJ (cpy f g i j m))))) = ws') (hrm : copyRoom rm st = true) (d : decode cc pc = .ok (.invokestatic index, 3)) (kk : GG E k n ws' L (pc + 3) st) : GG E k n ws L pc (.int (wI m) :: .int (wI j) :: .ref a1 :: .int (wI i) :: .ref a0 :: st) := by
  simp only [Bool.and_eq_true, copyRoom] at hN hrm
  have hN0 := Nat.blt_eq.mp hN.1
  have hN1 := Nat.blt_eq.mp hN.2
  obtain ⟨⟨hi, hj, hm⟩, h4, h5⟩ := hr
  intro H locs ls hP hD hS hl
  refine va_copyl (D := eD E) C.x C.b (C.ml.trans hl.1.symm) C.ow (C.ts _ hw) (C.ts _ nat_cp) (C.ts _ sta_cp) (C.ts _ ini_cp) C.kk.1 hP hD hS q0 q1 2 2 he0 he1 rfl rfl rfl (wI_nneg (by omega)) (wI_nneg (by omega)) (wI_nneg (by omega)) (by rw [wI_cl (by omega), wI_cl (by omega)]; omega) (by rw [wI_cl (by omega), wI_cl (by omega)]; omega) (fun _ _ => rfl) (by rw [C.r]; exact Nat.ble_eq.mp hrm.1) (by rw [C.r]; exact Nat.ble_eq.mp hrm.2) d (fun H1 locs1 hP1 hD1 hS1 => ?_)
  rw [wI_cl (by omega), wI_cl (by omega), wI_cl (by omega), cpyJ_eq hi hj hm] at hP1 hD1
  exact kk H1 locs1 ls (e ▸ hP1) (e ▸ hD1) hS1 hl
/-- a long cut to an int and made a long again -/
def w32 (a : Int) : Int := (wI a).toInt
theorem g_i2lw {a : Int} (C : Cx E cc own rm) (d : decode cc pc = .ok (.i2l, 1)) (kk : GG E k n ws L (pc + 1) (.long (wJ (w32 a)) :: st)) : GG E k n ws L pc (.int (wI a) :: st) := by
  intro H locs ls hP hD hS hl
  refine lv_i2l C.x C.b d ?_ (kk H locs ls hP hD hS hl)
  show _ = Int64.ofInt (wI a).toInt
  exact (Int64.ofInt_int32ToInt _).symm
/-! text constants: the i-th of thirteen -/
def sLenI (i : Nat) : Int := ((sLen.getD i 0 : Nat) : Int)
def sChr (i : Nat) (j : Int) : Int := ((sByt.getD i []).getD j.toNat 0).toInt
theorem g_ldcS (i : Nat) (hi : i < 13) (C : Cx E cc RX4 rm) (d : decode cc pc = .ok (.ldc (sKey.getD i 0), 2)) (kk : GG E k n ws L (pc + 2) (.ref ((eAd E).1 i) :: st)) : GG E k n ws L pc st := by
  intro H locs ls hP hD hS hl
  exact va_ldcS C.x C.b C.ow (C.kk.2.2 i hi) d (kk H locs ls hP hD hS hl)
theorem g_getsC {index : Nat} (C : Cx E cc own rm) (hw : Cond.fieldLink own index "java/lang/String" "COMPACT_STRINGS" "Z" ∈ WL) (d : decode cc pc = .ok (.getstatic index, 3)) (kk : GG E k n ws L (pc + 3) (.int (wI 1) :: st)) : GG E k n ws L pc st := by
  intro H locs ls hP hD hS hl
  exact va_gets C.x C.b C.sx.2.1 hS C.ow (C.ts _ hw) (fun _ h => h) d (kk H locs ls hP hD hS hl)
theorem g_getsF {index : Nat} (C : Cx E cc own rm) (hw : Cond.fieldLink own index "jdk/internal/util/Preconditions" "SIOOBE_FORMATTER" "Ljava/util/function/BiFunction;" ∈ WL) (d : decode cc pc = .ok (.getstatic index, 3)) (kk : ∀ v : Value, (v = .null ∨ ∃ t, v = .ref t) → GG E k n ws L (pc + 3) (v :: st)) : GG E k n ws L pc st := by
  intro H locs ls hP hD hS hl
  rcases C.sx.2.2 with h | ⟨t, h⟩
  · exact va_gets C.x C.b h hS C.ow (C.ts _ hw) (fun _ h => h) d (kk _ (Or.inl rfl) H locs ls hP hD hS hl)
  · exact va_gets C.x C.b h hS C.ow (C.ts _ hw) (fun _ h => h) d (kk _ (Or.inr ⟨t, rfl⟩) H locs ls hP hD hS hl)
theorem g_sCoder {index i : Nat} (hi : i < 13) (C : Cx E cc own rm) (hw : Cond.fieldLink own index "java/lang/String" "coder" "B" ∈ WL) (d : decode cc pc = .ok (.getfield index, 3)) (kk : GG E k n ws L (pc + 3) (.int (wI 0) :: st)) : GG E k n ws L pc (.ref ((eAd E).1 i) :: st) := by
  intro H locs ls hP hD hS hl
  exact vk_getf C.x C.b (C.sx.1.1 i hi).2.1 hS C.ow (C.ts _ hw) (fun _ h => h) d (kk H locs ls hP hD hS hl)
theorem g_sValue {index i : Nat} (hi : i < 13) (C : Cx E cc own rm) (hw : Cond.fieldLink own index "java/lang/String" "value" "[B" ∈ WL) (d : decode cc pc = .ok (.getfield index, 3)) (kk : GG E k n ws L (pc + 3) (.ref ((eAd E).2 i) :: st)) : GG E k n ws L pc (.ref ((eAd E).1 i) :: st) := by
  intro H locs ls hP hD hS hl
  exact vk_getf C.x C.b (C.sx.1.1 i hi).2.2.1 hS C.ow (C.ts _ hw) (fun _ h => h) d (kk H locs ls hP hD hS hl)
theorem g_sVlen {i : Nat} (hi : i < 13) (C : Cx E cc own rm) (d : decode cc pc = .ok (.arraylength, 1)) (kk : GG E k n ws L (pc + 1) (.int (wI (sLenI i)) :: st)) : GG E k n ws L pc (.ref ((eAd E).2 i) :: st) := by
  intro H locs ls hP hD hS hl
  exact va_tlen C.x C.b (C.sx.1.1 i hi).2.2.2 hS (v := wI (sLenI i)) (by exact (Int32.ofInt_eq_ofNat).symm) d (kk H locs ls hP hD hS hl)
theorem sLen_small : ∀ i, i < 13 → sLen.getD i 0 < 2147483648 := by decide
theorem g_sVat {i : Nat} {j : Int} (hi : i < 13) (hj : 0 ≤ j ∧ j < sLenI i) (C : Cx E cc own rm) (d : decode cc pc = .ok (.baload, 1)) (kk : GG E k n ws L (pc + 1) (.int (wI (sChr i j)) :: st)) : GG E k n ws L pc (.int (wI j) :: .ref ((eAd E).2 i) :: st) := by
  intro H locs ls hP hD hS hl
  refine va_tb C.x C.b (C.sx.1.1 i hi).2.2.2 hS (wI_in hj (sLen_small i hi)) (v := .int (wI (sChr i j))) ?_ d (kk H locs ls hP hD hS hl)
  rw [wI_clamp hj (sLen_small i hi)]
  show Value.int ((sByt.getD i []).getD j.toNat 0) = _
  rw [show wI (sChr i j) = _ from wI_of _]
/-- a call of a method of String on the i-th constant -/
theorem g_callStr {y : MethodName} {cb : ByteArray} {mL nA index i : Nat} {rt : Option FieldType} {rc : Room} {As rest : List Value} {ov : Option Value} (hi : i < 13) (C : Cx E cc own rm) (M : MtV own index y cb mL rt nA) (hcl : y.cls = "java/lang/String")
    (hc : Ct (eL E) y cb mL rt rc (eD E) (eCy E) (eAd E) (.ref ((eAd E).1 i) :: As) [] [] ov)
    (hnA : As.length = nA) (hst : st = As.reverse ++ .ref ((eAd E).1 i) :: rest) (hcat : Nat.ble (rest.map fun v => v.category).sum 8 = true) (hrm : roomOK rc rm mL k n = true) (d : decode cc pc = .ok (.invokevirtual index, 3)) (kk : GG E k n ws L (pc + 3) (ov.toList ++ rest)) : GG E k n ws L pc st := by
  intro H locs ls hP hD hS hl
  obtain ⟨-, -, -, -, r5, r6⟩ := roomOK_spec hrm
  have hF : ∀ q, va_A [] H.size q → eA E q := va_free (wc := []) hD hS C.a [] rfl
  have hB := M.1.cb (k := k) (n := n) (rc := rc) M.2.1 C hrm
  rw [← C.r] at hB
  have hP0 : va_P (eD E) vwCl [] H := fun k q h => by simp at h
  have hD0 : va_D (fun _ => True) ([] : va_W) := ⟨fun i j p q h => by simp at h, fun k q h => by simp at h⟩
  have hrun : va_Run (eP E) (eL E) (eE E) (eR E) (eS E) (eM E) (eAr E) (eB E) (eMt E) (eC E) H locs k n 0 0 (F0 (eM E) pc ls st) rest (QS (eD E) ov [] [] H.size (Value.ref ((eAd E).1 i) :: As).toArray) (va_A [] H.size) := va_runV (As := As) (rest := rest) (C := y.cls) ⟨C.x, C.b, C.ml, C.ow, C.ts⟩ (hc H.size) ⟨hB, C.ts _ M.2.2.1, C.ts _ M.2.2.2⟩ ⟨PcS_blind, by rw [hcl]; exact vk_recv C.sx.1 hi hS, fun U hU hW => ⟨rfl, by rw [hU], by rw [hU]; exact hP0, KK.warm hW C.kk, hD0, SX.to C.sx hS hW hU hF⟩⟩ rfl hnA hl.1 hst (lv_room (Nat.ble_eq.mp hcat)) d ⟨by rw [C.r]; exact r5, by rw [C.r]; exact r6⟩
  intro T hT X
  obtain ⟨v, st₀, t, T', LL, h0, X', hL, e1, e2, ⟨⟨hv, hP1, hD1⟩, hz, hk⟩, stp⟩ := hrun T hT X
  cases hv
  rw [h0] at hz hk
  rw [← e1] at hz hk
  have hkeep : ∀ q, q < H.size → T'.heap[q]? = H[q]? := fun q h => hk q h (fun z => by
    rcases z with ⟨k, e, z⟩ | z
    · simp at z
    · omega)
  have jP : va_P (eD E) vwCl ws T'.heap := fun k q h => (hP k q h).kept (hkeep q.1 (hP k q h).lt)
  have jS : va_S (eA E) (eS E).heap T'.heap (locs ++ LL) := ⟨Nat.le_trans hS.1 hz, fun q h1 h2 => by rw [hkeep q (Nat.lt_of_lt_of_le h1 hS.1)]; exact hS.2.1 q h1 h2, fun q hq => by
    rcases List.mem_append.mp hq with h | h
    · exact hS.2.2 q h
    · exact hF _ (hL q h)⟩
  obtain ⟨t2, a1, b1⟩ := kk T'.heap (locs ++ LL) ls jP hD jS hl T' rfl X'
  exact ⟨t2, stp t2 a1, b1⟩
end GT
