theorem law_step {E : EE} {b Ln : Nat} {xs : Nat → Int32} {x y : Nat → Nat} {i : Int} {ws : va_W} (C : Cx E cL_law RL room_1) (S : Scr E b Ln xs) (hi : 0 ≤ i ∧ i + 6 ≤ (Ln : Int)) (hI : Inv (eCy E) x y ws) (next : ∀ w, Inv (eCy E) x y w → GG E 121 14405 w [some (.ref b), some (.ref (x 0)), some (.ref (y 0)), some (.int (wI i))] 2330 []) : GG E 121 14405 ws [some (.ref b), some (.ref (x 0)), some (.ref (y 0)), some (.int (wI i))] 27 [] := by
  refine g_aload_n 0 C dL_law_27 rfl rfl ?_
  refine g_iload_n 3 C dL_law_28 rfl rfl ?_
  refine g_sld C S (by omega) dL_law_29 ?_
  refine g_bipush C dL_law_30 rfl ?_
  refine g_iand C dL_law_32 ?_
  generalize andI (xv xs i) 63 = t
  by_cases c0 : wI t = wI 0
  · exact g_tableIn (j := 0) (off := 259) 292 C dL_law_33 c0 (by decide) (by decide) (by decide) (by decide) (case_0 C S hi hI next)
  by_cases c1 : wI t = wI 1
  · exact g_tableIn (j := 1) (off := 322) 355 C dL_law_33 c1 (by decide) (by decide) (by decide) (by decide) (case_1 C S hi hI next)
  by_cases c2 : wI t = wI 2
  · exact g_tableIn (j := 2) (off := 345) 378 C dL_law_33 c2 (by decide) (by decide) (by decide) (by decide) (case_2 C S hi hI next)
  by_cases c3 : wI t = wI 3
  · exact g_tableIn (j := 3) (off := 358) 391 C dL_law_33 c3 (by decide) (by decide) (by decide) (by decide) (case_3 C S hi hI next)
  by_cases c4 : wI t = wI 4
  · exact g_tableIn (j := 4) (off := 381) 414 C dL_law_33 c4 (by decide) (by decide) (by decide) (by decide) (case_4 C S hi hI next)
  by_cases c5 : wI t = wI 5
  · exact g_tableIn (j := 5) (off := 414) 447 C dL_law_33 c5 (by decide) (by decide) (by decide) (by decide) (case_5 C S hi hI next)
  by_cases c6 : wI t = wI 6
  · exact g_tableIn (j := 6) (off := 437) 470 C dL_law_33 c6 (by decide) (by decide) (by decide) (by decide) (case_6 C S hi hI next)
  by_cases c7 : wI t = wI 7
  · exact g_tableIn (j := 7) (off := 471) 504 C dL_law_33 c7 (by decide) (by decide) (by decide) (by decide) (case_7 C S hi hI next)
  by_cases c8 : wI t = wI 8
  · exact g_tableIn (j := 8) (off := 515) 548 C dL_law_33 c8 (by decide) (by decide) (by decide) (by decide) (case_8 C S hi hI next)
  by_cases c9 : wI t = wI 9
  · exact g_tableIn (j := 9) (off := 549) 582 C dL_law_33 c9 (by decide) (by decide) (by decide) (by decide) (case_9 C S hi hI next)
  by_cases c10 : wI t = wI 10
  · exact g_tableIn (j := 10) (off := 582) 615 C dL_law_33 c10 (by decide) (by decide) (by decide) (by decide) (case_10 C S hi hI next)
  by_cases c11 : wI t = wI 11
  · exact g_tableIn (j := 11) (off := 615) 648 C dL_law_33 c11 (by decide) (by decide) (by decide) (by decide) (case_11 C S hi hI next)
  by_cases c12 : wI t = wI 12
  · exact g_tableIn (j := 12) (off := 628) 661 C dL_law_33 c12 (by decide) (by decide) (by decide) (by decide) (case_12 C S hi hI next)
  by_cases c13 : wI t = wI 13
  · exact g_tableIn (j := 13) (off := 641) 674 C dL_law_33 c13 (by decide) (by decide) (by decide) (by decide) (case_13 C S hi hI next)
  by_cases c14 : wI t = wI 14
  · exact g_tableIn (j := 14) (off := 684) 717 C dL_law_33 c14 (by decide) (by decide) (by decide) (by decide) (case_14 C S hi hI next)
  by_cases c15 : wI t = wI 15
  · exact g_tableIn (j := 15) (off := 728) 761 C dL_law_33 c15 (by decide) (by decide) (by decide) (by decide) (case_15 C S hi hI next)
  by_cases c16 : wI t = wI 16
  · exact g_tableIn (j := 16) (off := 761) 794 C dL_law_33 c16 (by decide) (by decide) (by decide) (by decide) (case_16 C S hi hI next)
  by_cases c17 : wI t = wI 17
  · exact g_tableIn (j := 17) (off := 805) 838 C dL_law_33 c17 (by decide) (by decide) (by decide) (by decide) (case_17 C S hi hI next)
  by_cases c18 : wI t = wI 18
  · exact g_tableIn (j := 18) (off := 859) 892 C dL_law_33 c18 (by decide) (by decide) (by decide) (by decide) (case_18 C S hi hI next)
  by_cases c19 : wI t = wI 19
  · exact g_tableIn (j := 19) (off := 902) 935 C dL_law_33 c19 (by decide) (by decide) (by decide) (by decide) (case_19 C S hi hI next)
  by_cases c20 : wI t = wI 20
  · exact g_tableIn (j := 20) (off := 935) 968 C dL_law_33 c20 (by decide) (by decide) (by decide) (by decide) (case_20 C S hi hI next)
  by_cases c21 : wI t = wI 21
  · exact g_tableIn (j := 21) (off := 968) 1001 C dL_law_33 c21 (by decide) (by decide) (by decide) (by decide) (case_21 C S hi hI next)
  by_cases c22 : wI t = wI 22
  · exact g_tableIn (j := 22) (off := 1001) 1034 C dL_law_33 c22 (by decide) (by decide) (by decide) (by decide) (case_22 C S hi hI next)
  by_cases c23 : wI t = wI 23
  · exact g_tableIn (j := 23) (off := 1035) 1068 C dL_law_33 c23 (by decide) (by decide) (by decide) (by decide) (case_23 C S hi hI next)
  by_cases c24 : wI t = wI 24
  · exact g_tableIn (j := 24) (off := 1048) 1081 C dL_law_33 c24 (by decide) (by decide) (by decide) (by decide) (case_24 C S hi hI next)
  by_cases c25 : wI t = wI 25
  · exact g_tableIn (j := 25) (off := 1071) 1104 C dL_law_33 c25 (by decide) (by decide) (by decide) (by decide) (case_25 C S hi hI next)
  by_cases c26 : wI t = wI 26
  · exact g_tableIn (j := 26) (off := 1104) 1137 C dL_law_33 c26 (by decide) (by decide) (by decide) (by decide) (case_26 C S hi hI next)
  by_cases c27 : wI t = wI 27
  · exact g_tableIn (j := 27) (off := 1137) 1170 C dL_law_33 c27 (by decide) (by decide) (by decide) (by decide) (case_27 C S hi hI next)
  by_cases c28 : wI t = wI 28
  · exact g_tableIn (j := 28) (off := 1160) 1193 C dL_law_33 c28 (by decide) (by decide) (by decide) (by decide) (case_28 C S hi hI next)
  by_cases c29 : wI t = wI 29
  · exact g_tableIn (j := 29) (off := 1183) 1216 C dL_law_33 c29 (by decide) (by decide) (by decide) (by decide) (case_29 C S hi hI next)
  by_cases c30 : wI t = wI 30
  · exact g_tableIn (j := 30) (off := 1206) 1239 C dL_law_33 c30 (by decide) (by decide) (by decide) (by decide) (case_30 C S hi hI next)
  by_cases c31 : wI t = wI 31
  · exact g_tableIn (j := 31) (off := 1229) 1262 C dL_law_33 c31 (by decide) (by decide) (by decide) (by decide) (case_31 C S hi hI next)
  by_cases c32 : wI t = wI 32
  · exact g_tableIn (j := 32) (off := 1252) 1285 C dL_law_33 c32 (by decide) (by decide) (by decide) (by decide) (case_32 C S hi hI next)
  by_cases c33 : wI t = wI 33
  · exact g_tableIn (j := 33) (off := 1286) 1319 C dL_law_33 c33 (by decide) (by decide) (by decide) (by decide) (case_33 C S hi hI next)
  by_cases c34 : wI t = wI 34
  · exact g_tableIn (j := 34) (off := 1320) 1353 C dL_law_33 c34 (by decide) (by decide) (by decide) (by decide) (case_34 C S hi hI next)
  by_cases c35 : wI t = wI 35
  · exact g_tableIn (j := 35) (off := 1354) 1387 C dL_law_33 c35 (by decide) (by decide) (by decide) (by decide) (case_35 C S hi hI next)
  by_cases c36 : wI t = wI 36
  · exact g_tableIn (j := 36) (off := 1388) 1421 C dL_law_33 c36 (by decide) (by decide) (by decide) (by decide) (case_36 C S hi hI next)
  by_cases c37 : wI t = wI 37
  · exact g_tableIn (j := 37) (off := 1411) 1444 C dL_law_33 c37 (by decide) (by decide) (by decide) (by decide) (case_37 C S hi hI next)
  by_cases c38 : wI t = wI 38
  · exact g_tableIn (j := 38) (off := 1434) 1467 C dL_law_33 c38 (by decide) (by decide) (by decide) (by decide) (case_38 C S hi hI next)
  by_cases c39 : wI t = wI 39
  · exact g_tableIn (j := 39) (off := 1478) 1511 C dL_law_33 c39 (by decide) (by decide) (by decide) (by decide) (case_39 C S hi hI next)
  by_cases c40 : wI t = wI 40
  · exact g_tableIn (j := 40) (off := 1521) 1554 C dL_law_33 c40 (by decide) (by decide) (by decide) (by decide) (case_40 C S hi hI next)
  by_cases c41 : wI t = wI 41
  · exact g_tableIn (j := 41) (off := 1565) 1598 C dL_law_33 c41 (by decide) (by decide) (by decide) (by decide) (case_41 C S hi hI next)
  by_cases c42 : wI t = wI 42
  · exact g_tableIn (j := 42) (off := 1608) 1641 C dL_law_33 c42 (by decide) (by decide) (by decide) (by decide) (case_42 C S hi hI next)
  by_cases c43 : wI t = wI 43
  · exact g_tableIn (j := 43) (off := 1641) 1674 C dL_law_33 c43 (by decide) (by decide) (by decide) (by decide) (case_43 C S hi hI next)
  by_cases c44 : wI t = wI 44
  · exact g_tableIn (j := 44) (off := 1684) 1717 C dL_law_33 c44 (by decide) (by decide) (by decide) (by decide) (case_44 C S hi hI next)
  by_cases c45 : wI t = wI 45
  · exact g_tableIn (j := 45) (off := 1717) 1750 C dL_law_33 c45 (by decide) (by decide) (by decide) (by decide) (case_45 C S hi hI next)
  by_cases c46 : wI t = wI 46
  · exact g_tableIn (j := 46) (off := 1771) 1804 C dL_law_33 c46 (by decide) (by decide) (by decide) (by decide) (case_46 C S hi hI next)
  by_cases c47 : wI t = wI 47
  · exact g_tableIn (j := 47) (off := 1825) 1858 C dL_law_33 c47 (by decide) (by decide) (by decide) (by decide) (case_47 C S hi hI next)
  by_cases c48 : wI t = wI 48
  · exact g_tableIn (j := 48) (off := 1868) 1901 C dL_law_33 c48 (by decide) (by decide) (by decide) (by decide) (case_48 C S hi hI next)
  by_cases c49 : wI t = wI 49
  · exact g_tableIn (j := 49) (off := 1901) 1934 C dL_law_33 c49 (by decide) (by decide) (by decide) (by decide) (case_49 C S hi hI next)
  by_cases c50 : wI t = wI 50
  · exact g_tableIn (j := 50) (off := 1914) 1947 C dL_law_33 c50 (by decide) (by decide) (by decide) (by decide) (case_50 C S hi hI next)
  by_cases c51 : wI t = wI 51
  · exact g_tableIn (j := 51) (off := 1927) 1960 C dL_law_33 c51 (by decide) (by decide) (by decide) (by decide) (case_51 C S hi hI next)
  by_cases c52 : wI t = wI 52
  · exact g_tableIn (j := 52) (off := 1940) 1973 C dL_law_33 c52 (by decide) (by decide) (by decide) (by decide) (case_52 C S hi hI next)
  by_cases c53 : wI t = wI 53
  · exact g_tableIn (j := 53) (off := 1963) 1996 C dL_law_33 c53 (by decide) (by decide) (by decide) (by decide) (case_53 C S hi hI next)
  by_cases c54 : wI t = wI 54
  · exact g_tableIn (j := 54) (off := 2016) 2049 C dL_law_33 c54 (by decide) (by decide) (by decide) (by decide) (case_54 C S hi hI next)
  by_cases c55 : wI t = wI 55
  · exact g_tableIn (j := 55) (off := 2049) 2082 C dL_law_33 c55 (by decide) (by decide) (by decide) (by decide) (case_55 C S hi hI next)
  by_cases c56 : wI t = wI 56
  · exact g_tableIn (j := 56) (off := 2072) 2105 C dL_law_33 c56 (by decide) (by decide) (by decide) (by decide) (case_56 C S hi hI next)
  by_cases c57 : wI t = wI 57
  · exact g_tableIn (j := 57) (off := 2095) 2128 C dL_law_33 c57 (by decide) (by decide) (by decide) (by decide) (case_57 C S hi hI next)
  by_cases c58 : wI t = wI 58
  · exact g_tableIn (j := 58) (off := 2118) 2151 C dL_law_33 c58 (by decide) (by decide) (by decide) (by decide) (case_58 C S hi hI next)
  by_cases c59 : wI t = wI 59
  · exact g_tableIn (j := 59) (off := 2161) 2194 C dL_law_33 c59 (by decide) (by decide) (by decide) (by decide) (case_59 C S hi hI next)
  by_cases c60 : wI t = wI 60
  · exact g_tableIn (j := 60) (off := 2234) 2267 C dL_law_33 c60 (by decide) (by decide) (by decide) (by decide) (case_60 C S hi hI next)
  refine g_tableOut 2330 C dL_law_33 (tab_out (fun j h1 h2 => by rcases (show j = 0 ∨ j = 1 ∨ j = 2 ∨ j = 3 ∨ j = 4 ∨ j = 5 ∨ j = 6 ∨ j = 7 ∨ j = 8 ∨ j = 9 ∨ j = 10 ∨ j = 11 ∨ j = 12 ∨ j = 13 ∨ j = 14 ∨ j = 15 ∨ j = 16 ∨ j = 17 ∨ j = 18 ∨ j = 19 ∨ j = 20 ∨ j = 21 ∨ j = 22 ∨ j = 23 ∨ j = 24 ∨ j = 25 ∨ j = 26 ∨ j = 27 ∨ j = 28 ∨ j = 29 ∨ j = 30 ∨ j = 31 ∨ j = 32 ∨ j = 33 ∨ j = 34 ∨ j = 35 ∨ j = 36 ∨ j = 37 ∨ j = 38 ∨ j = 39 ∨ j = 40 ∨ j = 41 ∨ j = 42 ∨ j = 43 ∨ j = 44 ∨ j = 45 ∨ j = 46 ∨ j = 47 ∨ j = 48 ∨ j = 49 ∨ j = 50 ∨ j = 51 ∨ j = 52 ∨ j = 53 ∨ j = 54 ∨ j = 55 ∨ j = 56 ∨ j = 57 ∨ j = 58 ∨ j = 59 ∨ j = 60 by omega) with rfl | rfl | rfl | rfl | rfl | rfl | rfl | rfl | rfl | rfl | rfl | rfl | rfl | rfl | rfl | rfl | rfl | rfl | rfl | rfl | rfl | rfl | rfl | rfl | rfl | rfl | rfl | rfl | rfl | rfl | rfl | rfl | rfl | rfl | rfl | rfl | rfl | rfl | rfl | rfl | rfl | rfl | rfl | rfl | rfl | rfl | rfl | rfl | rfl | rfl | rfl | rfl | rfl | rfl | rfl | rfl | rfl | rfl | rfl | rfl | rfl <;> assumption)) (by decide) (next _ hI)
theorem law_loop {E : EE} {b Ln : Nat} {xs : Nat → Int32} {x y : Nat → Nat} (C : Cx E cL_law RL room_1) (hN : eN E = 4) (S : Scr E b Ln xs) (fin : ∀ (ws : va_W) (L : List (Option Value)), GG E 121 14405 ws L 2337 [.int (wI 1)]) : ∀ (n : Nat) (i : Int) (ws : va_W), 0 ≤ i → i ≤ (Ln : Int) + 6 → (Ln : Int) - i < n → Inv (eCy E) x y ws → GG E 121 14405 ws [some (.ref b), some (.ref (x 0)), some (.ref (y 0)), some (.int (wI i))] 18 [] := by
  have hL := S.2.2.2
  intro n
  induction n with
  | zero =>
    intro i ws h0 h1 h2 hI
    refine g_iload_n 3 C dL_law_18 rfl rfl ?_
    refine g_aload_n 0 C dL_law_19 rfl rfl ?_
    refine g_slen C S dL_law_20 ?_
    refine g_bipush C dL_law_21 rfl ?_
    refine g_isub C dL_law_23 ?_
    refine g_icmp_gt (X := some ()) (Y := none) (v := ()) 2336 C dL_law_24 rfl (if_pos (by rw [wI_lt (by omega) (by omega)]; omega)) (fun _ => ?_) (fun h => nomatch h)
    exact g_iconst C dL_law_2336 (fin _ _)
  | succ n ih =>
    intro i ws h0 h1 h2 hI
    refine g_iload_n 3 C dL_law_18 rfl rfl ?_
    refine g_aload_n 0 C dL_law_19 rfl rfl ?_
    refine g_slen C S dL_law_20 ?_
    refine g_bipush C dL_law_21 rfl ?_
    refine g_isub C dL_law_23 ?_
    by_cases hc : (Ln : Int) - 6 < i
    · refine g_icmp_gt (X := some ()) (Y := none) (v := ()) 2336 C dL_law_24 rfl (if_pos (by rw [wI_lt (by omega) (by omega)]; exact hc)) (fun _ => ?_) (fun h => nomatch h)
      exact g_iconst C dL_law_2336 (fin _ _)
    · refine g_icmp_gt (X := none) (Y := some ()) (v := ()) 2336 C dL_law_24 rfl (if_neg (by rw [wI_lt (by omega) (by omega)]; exact hc)) (fun h => nomatch h) (fun _ => ?_)
      refine law_step C S ⟨h0, by omega⟩ hI (fun w hw => ?_)
      refine g_iinc (L' := [some (.ref b), some (.ref (x 0)), some (.ref (y 0)), some (.int (wI (i + 6)))]) C hN dL_law_2330 rfl rfl rfl ?_
      refine g_goto (tgt := 18) C dL_law_2333 rfl ?_
      exact ih (i + 6) w (by omega) (by omega) (by omega) hw
