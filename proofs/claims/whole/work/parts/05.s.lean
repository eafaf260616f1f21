/-! METHODS OF String ON CONSTANTS -/
section STR
variable {l : Launch} {D : va_G} {cy : Nat → ClassId} {ad : AD}
set_option maxRecDepth 100000 in
theorem c_coder {i : Nat} (hi : i < 13) : Ct l yJ0_coder_7d493 cJ0_coder_7d493 1 (some .byte) { frames := 0, cells := 0, slots := 0, locals := 0 } D cy ad [.ref (ad.1 i)] [] [] (some (.int (wI 0))) := by
  refine Ct.introZ (j := 0) (by decide +kernel) rfl rfl (fun E C e1 e2 e3 e4 e5 hret => ?_)
  subst e1; subst e2; subst e3; subst e4
  have h : (if wI 1 = wI 0 then none else some ()) = some () := by decide
  refine g_getsC C (wl_in (by decide +kernel) (by decide +kernel)) dJ0_coder_7d493_0 ?_
  refine g_if_eq 13 C dJ0_coder_7d493_3 (by decide) h (fun h => by cases h) (fun h => ?_)
  refine g_aload_n 0 C dJ0_coder_7d493_6 rfl rfl ?_
  refine g_sCoder hi C (wl_in (by decide +kernel) (by decide +kernel)) dJ0_coder_7d493_7 ?_
  refine g_goto (tgt := 14) C dJ0_coder_7d493_10 (by decide) ?_
  exact hret 14 _ (by decide) dJ0_coder_7d493_14
set_option maxRecDepth 100000 in
theorem c_isLatin1 {i : Nat} (hi : i < 13) : Ct l yJ0_isLatin1_aae02 cJ0_isLatin1_aae02 1 (some .boolean) { frames := 0, cells := 0, slots := 0, locals := 0 } D cy ad [.ref (ad.1 i)] [] [] (some (.int (wI 1))) := by
  refine Ct.introZ (j := 0) (by decide +kernel) rfl rfl (fun E C e1 e2 e3 e4 e5 hret => ?_)
  subst e1; subst e2; subst e3; subst e4
  have h : (if wI 1 = wI 0 then none else some ()) = some () := by decide
  have h' : (if wI 0 = wI 0 then some () else none) = some () := by decide
  refine g_getsC C (wl_in (by decide +kernel) (by decide +kernel)) dJ0_isLatin1_aae02_0 ?_
  refine g_if_eq 17 C dJ0_isLatin1_aae02_3 (by decide) h (fun h => by cases h) (fun h => ?_)
  refine g_aload_n 0 C dJ0_isLatin1_aae02_6 rfl rfl ?_
  refine g_sCoder hi C (wl_in (by decide +kernel) (by decide +kernel)) dJ0_isLatin1_aae02_7 ?_
  refine g_if_ne 17 C dJ0_isLatin1_aae02_10 (by decide) h' (fun h => by cases h) (fun h => ?_)
  refine g_iconst C dJ0_isLatin1_aae02_13 ?_
  refine g_goto (tgt := 18) C dJ0_isLatin1_aae02_14 (by decide) ?_
  exact hret 18 _ bn1 dJ0_isLatin1_aae02_18
theorem shr0 {a : Int} : wI (shrI a 0) = wI a := by
  rw [show wI (shrI a 0) = wI a >>> (wI 0 &&& 31) from wI_of _]
  exact sb_shr0 _
set_option maxRecDepth 100000 in
theorem c_length {i : Nat} (hi : i < 13) : Ct l yJ0_length_8abf5 cJ0_length_8abf5 1 (some .int) { frames := 1, cells := 0, slots := 0, locals := 20 } D cy ad [.ref (ad.1 i)] [] [] (some (.int (wI (sLenI i)))) := by
  refine Ct.introI (j := 0) (by decide +kernel) rfl rfl (fun E C e1 e2 e3 e4 e5 hret => ?_)
  subst e1; subst e2; subst e3; subst e4
  refine g_aload_n 0 C dJ0_length_8abf5_0 rfl rfl ?_
  refine g_sValue hi C (wl_in (by decide +kernel) (by decide +kernel)) dJ0_length_8abf5_1 ?_
  refine g_sVlen hi C dJ0_length_8abf5_4 ?_
  refine g_aload_n 0 C dJ0_length_8abf5_5 rfl rfl ?_
  refine g_callStr hi C mt_J0_335 rfl (c_coder hi) rfl (rest := [.int (wI (sLenI i))]) rfl rfl rfl dJ0_length_8abf5_6 ?_
  refine g_st (st' := [.int (wI 0), .int (wI (sLenI i))]) rfl ?_
  refine g_ishr C dJ0_length_8abf5_9 ?_
  rw [shr0]
  exact hret 10 _ dJ0_length_8abf5_10
set_option maxRecDepth 100000 in
theorem c_checkJ3 {a b : Int} {v : Value} (hv : v = .null ∨ ∃ t, v = .ref t) (ha : 0 ≤ a ∧ a < b) (hb : b ≤ 2147483647) : Ct l yJ3_checkIndex_8e157 cJ3_checkIndex_8e157 3 (some .int) { frames := 0, cells := 0, slots := 0, locals := 0 } D cy ad [.int (wI a), .int (wI b), v] [] [] (some (.int (wI a))) := by
  have h1 : (if wI a < wI 0 then none else some ()) = some () := by rw [if_neg]; rw [wI_lt (by omega) (by decide)]; omega
  have h2 : (if wI a < wI b then some () else none) = some () := by rw [if_pos]; rw [wI_lt (by omega) (by omega)]; omega
  have hL : initL [.int (wI a), .int (wI b), v] ++ List.replicate 0 none = [some (.int (wI a)), some (.int (wI b)), some v] := by
    rcases hv with rfl | ⟨t, rfl⟩ <;> rfl
  refine Ct.introI (j := 0) (by decide +kernel) (by rcases hv with rfl | ⟨t, rfl⟩ <;> rfl) hL (fun E C e1 e2 e3 e4 e5 hret => ?_)
  subst e1; subst e2; subst e3; subst e4
  refine g_iload_n 0 C dJ3_checkIndex_8e157_0 rfl rfl ?_
  refine g_if_lt 9 C dJ3_checkIndex_8e157_1 (by decide) h1 (fun h => by cases h) (fun h => ?_)
  refine g_iload_n 0 C dJ3_checkIndex_8e157_4 rfl rfl ?_
  refine g_iload_n 1 C dJ3_checkIndex_8e157_5 rfl rfl ?_
  refine g_icmp_lt 16 C dJ3_checkIndex_8e157_6 (by decide) h2 (fun h => ?_) (fun h => by cases h)
  refine g_iload_n 0 C dJ3_checkIndex_8e157_16 rfl rfl ?_
  exact hret 17 _ dJ3_checkIndex_8e157_17
set_option maxRecDepth 100000 in
theorem c_checkJ0 {a b : Int} (ha : 0 ≤ a ∧ a < b) (hb : b ≤ 2147483647) : Ct l yJ0_checkIndex_df160 cJ0_checkIndex_df160 2 none { frames := 1, cells := 0, slots := 0, locals := 22 } D cy ad [.int (wI a), .int (wI b)] [] [] none := by
  refine Ct.introV (j := 0) (by decide +kernel) rfl rfl (fun E C e1 e2 e3 e4 e5 hret => ?_)
  subst e1; subst e2; subst e3; subst e4
  refine g_iload_n 0 C dJ0_checkIndex_df160_0 rfl rfl ?_
  refine g_iload_n 1 C dJ0_checkIndex_df160_1 rfl rfl ?_
  refine g_getsF C (wl_in (by decide +kernel) (by decide +kernel)) dJ0_checkIndex_df160_2 (fun v hv => ?_)
  refine g_callSI [] [] [] C mt_J0_1059 (c_checkJ3 hv ha hb) rfl rfl (ws2 := []) rfl rfl rfl (rest := []) rfl rfl rfl dJ0_checkIndex_df160_5 ?_
  refine g_pop C dJ0_checkIndex_df160_8 rfl ?_
  exact hret 9 _ dJ0_checkIndex_df160_9
theorem chr_byte : ∀ i, i < 13 → ∀ j : Nat, j < sLen.getD i 0 → 0 ≤ ((sByt.getD i []).getD j 0).toInt ∧ ((sByt.getD i []).getD j 0).toInt ≤ 127 := by decide
theorem b255 : ∀ n : Nat, n < 128 → c16 (andI (n : Int) 255) = (n : Int) := by decide
theorem sChr_in {i : Nat} {j : Int} (hi : i < 13) (hj : 0 ≤ j ∧ j < sLenI i) : 0 ≤ sChr i j ∧ sChr i j ≤ 127 := by
  have := chr_byte i hi j.toNat (by unfold sLenI at hj; omega)
  exact this
theorem chr255 {i : Nat} {j : Int} (hi : i < 13) (hj : 0 ≤ j ∧ j < sLenI i) : c16 (andI (sChr i j) 255) = sChr i j := by
  have h := sChr_in hi hj
  have := b255 (sChr i j).toNat (by omega)
  rw [Int.toNat_of_nonneg h.1] at this
  exact this
theorem nar_chr {i : Nat} {j : Int} (hi : i < 13) (hj : 0 ≤ j ∧ j < sLenI i) : narrow .char (.int (wI (sChr i j))) = .int (wI (sChr i j)) := by
  have h := sChr_in hi hj
  have e : wI (sChr i j) = nI (sChr i j).toNat := by
    show Int32.ofInt _ = Int32.ofNat _
    rw [← Int32.ofInt_eq_ofNat, Int.toNat_of_nonneg h.1]
  rw [e]
  exact (pk_charN (by omega)).1
set_option maxRecDepth 100000 in
theorem c_lat1 {i : Nat} {j : Int} (hi : i < 13) (hj : 0 ≤ j ∧ j < sLenI i) : Ct l yJ1_charAt_3b067 cJ1_charAt_3b067 2 (some .char) { frames := 2, cells := 0, slots := 0, locals := 43 } D cy ad [.ref (ad.2 i), .int (wI j)] [] [] (some (.int (wI (sChr i j)))) := by
  have hs : sLenI i ≤ 2147483647 := by have := sLen_small i hi; unfold sLenI; omega
  refine Ct.introZ (j := 0) (by decide +kernel) rfl rfl (fun E C e1 e2 e3 e4 e5 hret => ?_)
  subst e1; subst e2; subst e3; subst e4
  refine g_iload_n 1 C dJ1_charAt_3b067_0 rfl rfl ?_
  refine g_aload_n 0 C dJ1_charAt_3b067_1 rfl rfl ?_
  refine g_sVlen hi C dJ1_charAt_3b067_2 ?_
  refine g_callSV [] [] [] C mt_J1_9 (c_checkJ0 hj hs) rfl rfl (ws2 := []) rfl rfl rfl (rest := []) rfl rfl rfl dJ1_charAt_3b067_3 ?_
  refine g_aload_n 0 C dJ1_charAt_3b067_6 rfl rfl ?_
  refine g_iload_n 1 C dJ1_charAt_3b067_7 rfl rfl ?_
  refine g_sVat hi hj C dJ1_charAt_3b067_8 ?_
  refine g_sipush C dJ1_charAt_3b067_9 (by decide) ?_
  refine g_iand C dJ1_charAt_3b067_12 ?_
  refine g_i2c C dJ1_charAt_3b067_13 ?_
  rw [chr255 hi hj]
  exact hret 14 _ (nar_chr hi hj) dJ1_charAt_3b067_14
set_option maxRecDepth 100000 in
theorem c_charAt {i : Nat} {j : Int} (hi : i < 13) (hj : 0 ≤ j ∧ j < sLenI i) : Ct l yJ0_charAt_5068e cJ0_charAt_5068e 2 (some .char) { frames := 3, cells := 0, slots := 0, locals := 64 } D cy ad [.ref (ad.1 i), .int (wI j)] [] [] (some (.int (wI (sChr i j)))) := by
  refine Ct.introZ (j := 0) (by decide +kernel) rfl rfl (fun E C e1 e2 e3 e4 e5 hret => ?_)
  subst e1; subst e2; subst e3; subst e4
  have h : (if wI 1 = wI 0 then none else some ()) = some () := by decide
  refine g_aload_n 0 C dJ0_charAt_5068e_0 rfl rfl ?_
  refine g_callStr hi C mt_J0_492 rfl (c_isLatin1 hi) rfl (rest := []) rfl rfl rfl dJ0_charAt_5068e_1 ?_
  refine g_st (st' := [.int (wI 1)]) rfl ?_
  refine g_if_eq 16 C dJ0_charAt_5068e_4 (by decide) h (fun h => by cases h) (fun h => ?_)
  refine g_aload_n 0 C dJ0_charAt_5068e_7 rfl rfl ?_
  refine g_sValue hi C (wl_in (by decide +kernel) (by decide +kernel)) dJ0_charAt_5068e_8 ?_
  refine g_iload_n 1 C dJ0_charAt_5068e_11 rfl rfl ?_
  refine g_callSI [] [] [] C mt_J0_495 (c_lat1 hi hj) rfl rfl (ws2 := []) rfl rfl rfl (rest := []) rfl rfl rfl dJ0_charAt_5068e_12 ?_
  exact hret 15 _ (nar_chr hi hj) dJ0_charAt_5068e_15
end STR
section STR2
variable {E : EE} {cc : ByteArray} {own : String} {rm : Room} {k n pc : Nat} {ws : va_W} {L : List (Option Value)} {rest : List Value}
theorem g_strLen {i index : Nat} (C : Cx E cc own rm) (M : MtV own index yJ0_length_8abf5 cJ0_length_8abf5 1 (some .int) 0) (hi : i < 13) (hcat : Nat.ble (rest.map fun v => v.category).sum 8 = true) (hrm : roomOK { frames := 1, cells := 0, slots := 0, locals := 20 } rm 1 k n = true) (d : decode cc pc = .ok (.invokevirtual index, 3)) (kk : GG E k n ws L (pc + 3) (.int (wI (sLenI i)) :: rest)) : GG E k n ws L pc (.ref ((eAd E).1 i) :: rest) := g_callStr hi C M rfl (c_length hi) rfl rfl hcat hrm d kk
theorem g_strAt {i index : Nat} {j : Int} (C : Cx E cc own rm) (M : MtV own index yJ0_charAt_5068e cJ0_charAt_5068e 2 (some .char) 1) (hi : i < 13) (hj : 0 ≤ j ∧ j < sLenI i) (hcat : Nat.ble (rest.map fun v => v.category).sum 8 = true) (hrm : roomOK { frames := 3, cells := 0, slots := 0, locals := 64 } rm 2 k n = true) (d : decode cc pc = .ok (.invokevirtual index, 3)) (kk : GG E k n ws L (pc + 3) (.int (wI (sChr i j)) :: rest)) : GG E k n ws L pc (.int (wI j) :: .ref ((eAd E).1 i) :: rest) := g_callStr (As := [.int (wI j)]) hi C M rfl (c_charAt hi hj) rfl rfl hcat hrm d kk
end STR2
