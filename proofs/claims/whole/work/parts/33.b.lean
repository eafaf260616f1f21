theorem mbl_X8_feed (own : String) : MtB own yX8_feed cX8_feed 6 (some .int) 5 := ⟨wl_in (List.mem_of_getElem? (i := 520) (by decide +kernel)) (by decide +kernel), wl_in (List.mem_of_getElem? (i := 114) (by decide +kernel)) (by decide +kernel), by decide, by decide, by decide +kernel⟩
theorem mt_L_13 : MtV RL 13 yX8_feed cX8_feed 6 (some .int) 5 := ⟨mbl_X8_feed _, wl_in (List.mem_of_getElem? (i := 517) (by decide +kernel)) (by decide +kernel), wl_in (List.mem_of_getElem? (i := 518) (by decide +kernel)) (by decide +kernel), wl_in (List.mem_of_getElem? (i := 519) (by decide +kernel)) (by decide +kernel)⟩
theorem mbl_X9_feed (own : String) : MtB own yX9_feed cX9_feed 6 (some .int) 5 := ⟨wl_in (List.mem_of_getElem? (i := 1447) (by decide +kernel)) (by decide +kernel), wl_in (List.mem_of_getElem? (i := 123) (by decide +kernel)) (by decide +kernel), by decide, by decide, by decide +kernel⟩
theorem mt_L_17 : MtV RL 17 yX9_feed cX9_feed 6 (some .int) 5 := ⟨mbl_X9_feed _, wl_in (List.mem_of_getElem? (i := 1444) (by decide +kernel)) (by decide +kernel), wl_in (List.mem_of_getElem? (i := 1445) (by decide +kernel)) (by decide +kernel), wl_in (List.mem_of_getElem? (i := 1446) (by decide +kernel)) (by decide +kernel)⟩
theorem mbl_X8_end (own : String) : MtB own yX8_end cX8_end 2 (some .int) 1 := ⟨wl_in (List.mem_of_getElem? (i := 528) (by decide +kernel)) (by decide +kernel), wl_in (List.mem_of_getElem? (i := 114) (by decide +kernel)) (by decide +kernel), by decide, by decide, by decide +kernel⟩
theorem mt_L_18 : MtV RL 18 yX8_end cX8_end 2 (some .int) 1 := ⟨mbl_X8_end _, wl_in (List.mem_of_getElem? (i := 525) (by decide +kernel)) (by decide +kernel), wl_in (List.mem_of_getElem? (i := 526) (by decide +kernel)) (by decide +kernel), wl_in (List.mem_of_getElem? (i := 527) (by decide +kernel)) (by decide +kernel)⟩
theorem mbl_X9_end (own : String) : MtB own yX9_end cX9_end 2 (some .int) 1 := ⟨wl_in (List.mem_of_getElem? (i := 1455) (by decide +kernel)) (by decide +kernel), wl_in (List.mem_of_getElem? (i := 123) (by decide +kernel)) (by decide +kernel), by decide, by decide, by decide +kernel⟩
theorem mt_L_22 : MtV RL 22 yX9_end cX9_end 2 (some .int) 1 := ⟨mbl_X9_end _, wl_in (List.mem_of_getElem? (i := 1452) (by decide +kernel)) (by decide +kernel), wl_in (List.mem_of_getElem? (i := 1453) (by decide +kernel)) (by decide +kernel), wl_in (List.mem_of_getElem? (i := 1454) (by decide +kernel)) (by decide +kernel)⟩
theorem mbl_X8_stair (own : String) : MtB own yX8_stair cX8_stair 1 (some .int) 0 := ⟨wl_in (List.mem_of_getElem? (i := 532) (by decide +kernel)) (by decide +kernel), wl_in (List.mem_of_getElem? (i := 114) (by decide +kernel)) (by decide +kernel), by decide, by decide, by decide +kernel⟩
theorem mt_L_23 : MtV RL 23 yX8_stair cX8_stair 1 (some .int) 0 := ⟨mbl_X8_stair _, wl_in (List.mem_of_getElem? (i := 529) (by decide +kernel)) (by decide +kernel), wl_in (List.mem_of_getElem? (i := 530) (by decide +kernel)) (by decide +kernel), wl_in (List.mem_of_getElem? (i := 531) (by decide +kernel)) (by decide +kernel)⟩
theorem mbl_X9_stair (own : String) : MtB own yX9_stair cX9_stair 1 (some .int) 0 := ⟨wl_in (List.mem_of_getElem? (i := 1463) (by decide +kernel)) (by decide +kernel), wl_in (List.mem_of_getElem? (i := 123) (by decide +kernel)) (by decide +kernel), by decide, by decide, by decide +kernel⟩
theorem mt_L_27 : MtV RL 27 yX9_stair cX9_stair 1 (some .int) 0 := ⟨mbl_X9_stair _, wl_in (List.mem_of_getElem? (i := 1460) (by decide +kernel)) (by decide +kernel), wl_in (List.mem_of_getElem? (i := 1461) (by decide +kernel)) (by decide +kernel), wl_in (List.mem_of_getElem? (i := 1462) (by decide +kernel)) (by decide +kernel)⟩
theorem mbl_X8_fault (own : String) : MtB own yX8_fault cX8_fault 2 (some .int) 1 := ⟨wl_in (List.mem_of_getElem? (i := 672) (by decide +kernel)) (by decide +kernel), wl_in (List.mem_of_getElem? (i := 114) (by decide +kernel)) (by decide +kernel), by decide, by decide, by decide +kernel⟩
theorem mt_L_28 : MtV RL 28 yX8_fault cX8_fault 2 (some .int) 1 := ⟨mbl_X8_fault _, wl_in (List.mem_of_getElem? (i := 669) (by decide +kernel)) (by decide +kernel), wl_in (List.mem_of_getElem? (i := 670) (by decide +kernel)) (by decide +kernel), wl_in (List.mem_of_getElem? (i := 671) (by decide +kernel)) (by decide +kernel)⟩
theorem mbl_X9_fault (own : String) : MtB own yX9_fault cX9_fault 2 (some .int) 1 := ⟨wl_in (List.mem_of_getElem? (i := 1459) (by decide +kernel)) (by decide +kernel), wl_in (List.mem_of_getElem? (i := 123) (by decide +kernel)) (by decide +kernel), by decide, by decide, by decide +kernel⟩
theorem mt_L_31 : MtV RL 31 yX9_fault cX9_fault 2 (some .int) 1 := ⟨mbl_X9_fault _, wl_in (List.mem_of_getElem? (i := 1456) (by decide +kernel)) (by decide +kernel), wl_in (List.mem_of_getElem? (i := 1457) (by decide +kernel)) (by decide +kernel), wl_in (List.mem_of_getElem? (i := 1458) (by decide +kernel)) (by decide +kernel)⟩
theorem mbl_X8_part (own : String) : MtB own yX8_part cX8_part 3 (some .int) 2 := ⟨wl_in (List.mem_of_getElem? (i := 676) (by decide +kernel)) (by decide +kernel), wl_in (List.mem_of_getElem? (i := 114) (by decide +kernel)) (by decide +kernel), by decide, by decide, by decide +kernel⟩
theorem mt_L_32 : MtV RL 32 yX8_part cX8_part 3 (some .int) 2 := ⟨mbl_X8_part _, wl_in (List.mem_of_getElem? (i := 673) (by decide +kernel)) (by decide +kernel), wl_in (List.mem_of_getElem? (i := 674) (by decide +kernel)) (by decide +kernel), wl_in (List.mem_of_getElem? (i := 675) (by decide +kernel)) (by decide +kernel)⟩
theorem mbl_X9_part (own : String) : MtB own yX9_part cX9_part 3 (some .int) 2 := ⟨wl_in (List.mem_of_getElem? (i := 1568) (by decide +kernel)) (by decide +kernel), wl_in (List.mem_of_getElem? (i := 123) (by decide +kernel)) (by decide +kernel), by decide, by decide, by decide +kernel⟩
theorem mt_L_36 : MtV RL 36 yX9_part cX9_part 3 (some .int) 2 := ⟨mbl_X9_part _, wl_in (List.mem_of_getElem? (i := 1565) (by decide +kernel)) (by decide +kernel), wl_in (List.mem_of_getElem? (i := 1566) (by decide +kernel)) (by decide +kernel), wl_in (List.mem_of_getElem? (i := 1567) (by decide +kernel)) (by decide +kernel)⟩
theorem mbl_X8_walker (own : String) : MtB own yX8_walker cX8_walker 2 (some .int) 1 := ⟨wl_in (List.mem_of_getElem? (i := 687) (by decide +kernel)) (by decide +kernel), wl_in (List.mem_of_getElem? (i := 114) (by decide +kernel)) (by decide +kernel), by decide, by decide, by decide +kernel⟩
theorem mt_L_37 : MtV RL 37 yX8_walker cX8_walker 2 (some .int) 1 := ⟨mbl_X8_walker _, wl_in (List.mem_of_getElem? (i := 684) (by decide +kernel)) (by decide +kernel), wl_in (List.mem_of_getElem? (i := 685) (by decide +kernel)) (by decide +kernel), wl_in (List.mem_of_getElem? (i := 686) (by decide +kernel)) (by decide +kernel)⟩
theorem mbl_X9_walker (own : String) : MtB own yX9_walker cX9_walker 2 (some .int) 1 := ⟨wl_in (List.mem_of_getElem? (i := 1584) (by decide +kernel)) (by decide +kernel), wl_in (List.mem_of_getElem? (i := 123) (by decide +kernel)) (by decide +kernel), by decide, by decide, by decide +kernel⟩
theorem mt_L_40 : MtV RL 40 yX9_walker cX9_walker 2 (some .int) 1 := ⟨mbl_X9_walker _, wl_in (List.mem_of_getElem? (i := 1581) (by decide +kernel)) (by decide +kernel), wl_in (List.mem_of_getElem? (i := 1582) (by decide +kernel)) (by decide +kernel), wl_in (List.mem_of_getElem? (i := 1583) (by decide +kernel)) (by decide +kernel)⟩
theorem mbl_X8_time (own : String) : MtB own yX8_time cX8_time 3 (some .long) 2 := ⟨wl_in (List.mem_of_getElem? (i := 695) (by decide +kernel)) (by decide +kernel), wl_in (List.mem_of_getElem? (i := 114) (by decide +kernel)) (by decide +kernel), by decide, by decide, by decide +kernel⟩
theorem mt_L_41 : MtV RL 41 yX8_time cX8_time 3 (some .long) 2 := ⟨mbl_X8_time _, wl_in (List.mem_of_getElem? (i := 692) (by decide +kernel)) (by decide +kernel), wl_in (List.mem_of_getElem? (i := 693) (by decide +kernel)) (by decide +kernel), wl_in (List.mem_of_getElem? (i := 694) (by decide +kernel)) (by decide +kernel)⟩
theorem mbl_X9_time (own : String) : MtB own yX9_time cX9_time 3 (some .long) 2 := ⟨wl_in (List.mem_of_getElem? (i := 1592) (by decide +kernel)) (by decide +kernel), wl_in (List.mem_of_getElem? (i := 123) (by decide +kernel)) (by decide +kernel), by decide, by decide, by decide +kernel⟩
theorem mt_L_45 : MtV RL 45 yX9_time cX9_time 3 (some .long) 2 := ⟨mbl_X9_time _, wl_in (List.mem_of_getElem? (i := 1589) (by decide +kernel)) (by decide +kernel), wl_in (List.mem_of_getElem? (i := 1590) (by decide +kernel)) (by decide +kernel), wl_in (List.mem_of_getElem? (i := 1591) (by decide +kernel)) (by decide +kernel)⟩
theorem mbl_X8_spends (own : String) : MtB own yX8_spends cX8_spends 5 (some .long) 3 := ⟨wl_in (List.mem_of_getElem? (i := 722) (by decide +kernel)) (by decide +kernel), wl_in (List.mem_of_getElem? (i := 114) (by decide +kernel)) (by decide +kernel), by decide, by decide, by decide +kernel⟩
theorem mt_L_46 : MtV RL 46 yX8_spends cX8_spends 5 (some .long) 3 := ⟨mbl_X8_spends _, wl_in (List.mem_of_getElem? (i := 719) (by decide +kernel)) (by decide +kernel), wl_in (List.mem_of_getElem? (i := 720) (by decide +kernel)) (by decide +kernel), wl_in (List.mem_of_getElem? (i := 721) (by decide +kernel)) (by decide +kernel)⟩
theorem mbl_X9_spends (own : String) : MtB own yX9_spends cX9_spends 5 (some .long) 3 := ⟨wl_in (List.mem_of_getElem? (i := 1623) (by decide +kernel)) (by decide +kernel), wl_in (List.mem_of_getElem? (i := 123) (by decide +kernel)) (by decide +kernel), by decide, by decide, by decide +kernel⟩
theorem mt_L_50 : MtV RL 50 yX9_spends cX9_spends 5 (some .long) 3 := ⟨mbl_X9_spends _, wl_in (List.mem_of_getElem? (i := 1620) (by decide +kernel)) (by decide +kernel), wl_in (List.mem_of_getElem? (i := 1621) (by decide +kernel)) (by decide +kernel), wl_in (List.mem_of_getElem? (i := 1622) (by decide +kernel)) (by decide +kernel)⟩
theorem mbl_X8_steps (own : String) : MtB own yX8_steps cX8_steps 4 (some .long) 2 := ⟨wl_in (List.mem_of_getElem? (i := 727) (by decide +kernel)) (by decide +kernel), wl_in (List.mem_of_getElem? (i := 114) (by decide +kernel)) (by decide +kernel), by decide, by decide, by decide +kernel⟩
theorem mt_L_51 : MtV RL 51 yX8_steps cX8_steps 4 (some .long) 2 := ⟨mbl_X8_steps _, wl_in (List.mem_of_getElem? (i := 724) (by decide +kernel)) (by decide +kernel), wl_in (List.mem_of_getElem? (i := 725) (by decide +kernel)) (by decide +kernel), wl_in (List.mem_of_getElem? (i := 726) (by decide +kernel)) (by decide +kernel)⟩
theorem mbl_X9_steps (own : String) : MtB own yX9_steps cX9_steps 4 (some .long) 2 := ⟨wl_in (List.mem_of_getElem? (i := 1627) (by decide +kernel)) (by decide +kernel), wl_in (List.mem_of_getElem? (i := 123) (by decide +kernel)) (by decide +kernel), by decide, by decide, by decide +kernel⟩
theorem mt_L_54 : MtV RL 54 yX9_steps cX9_steps 4 (some .long) 2 := ⟨mbl_X9_steps _, wl_in (List.mem_of_getElem? (i := 1624) (by decide +kernel)) (by decide +kernel), wl_in (List.mem_of_getElem? (i := 1625) (by decide +kernel)) (by decide +kernel), wl_in (List.mem_of_getElem? (i := 1626) (by decide +kernel)) (by decide +kernel)⟩
theorem mbl_X8_at (own : String) : MtB own yX8_at cX8_at 3 (some .int) 2 := ⟨wl_in (List.mem_of_getElem? (i := 731) (by decide +kernel)) (by decide +kernel), wl_in (List.mem_of_getElem? (i := 114) (by decide +kernel)) (by decide +kernel), by decide, by decide, by decide +kernel⟩
theorem mt_L_55 : MtV RL 55 yX8_at cX8_at 3 (some .int) 2 := ⟨mbl_X8_at _, wl_in (List.mem_of_getElem? (i := 728) (by decide +kernel)) (by decide +kernel), wl_in (List.mem_of_getElem? (i := 729) (by decide +kernel)) (by decide +kernel), wl_in (List.mem_of_getElem? (i := 730) (by decide +kernel)) (by decide +kernel)⟩
theorem mbl_X9_at (own : String) : MtB own yX9_at cX9_at 3 (some .int) 2 := ⟨wl_in (List.mem_of_getElem? (i := 1631) (by decide +kernel)) (by decide +kernel), wl_in (List.mem_of_getElem? (i := 123) (by decide +kernel)) (by decide +kernel), by decide, by decide, by decide +kernel⟩
theorem mt_L_58 : MtV RL 58 yX9_at cX9_at 3 (some .int) 2 := ⟨mbl_X9_at _, wl_in (List.mem_of_getElem? (i := 1628) (by decide +kernel)) (by decide +kernel), wl_in (List.mem_of_getElem? (i := 1629) (by decide +kernel)) (by decide +kernel), wl_in (List.mem_of_getElem? (i := 1630) (by decide +kernel)) (by decide +kernel)⟩
theorem mbl_X8_on (own : String) : MtB own yX8_on cX8_on 4 (some .int) 2 := ⟨wl_in (List.mem_of_getElem? (i := 767) (by decide +kernel)) (by decide +kernel), wl_in (List.mem_of_getElem? (i := 114) (by decide +kernel)) (by decide +kernel), by decide, by decide, by decide +kernel⟩
theorem mt_L_59 : MtV RL 59 yX8_on cX8_on 4 (some .int) 2 := ⟨mbl_X8_on _, wl_in (List.mem_of_getElem? (i := 764) (by decide +kernel)) (by decide +kernel), wl_in (List.mem_of_getElem? (i := 765) (by decide +kernel)) (by decide +kernel), wl_in (List.mem_of_getElem? (i := 766) (by decide +kernel)) (by decide +kernel)⟩
theorem mbl_X9_on (own : String) : MtB own yX9_on cX9_on 3 (some .int) 2 := ⟨wl_in (List.mem_of_getElem? (i := 1648) (by decide +kernel)) (by decide +kernel), wl_in (List.mem_of_getElem? (i := 123) (by decide +kernel)) (by decide +kernel), by decide, by decide, by decide +kernel⟩
theorem mt_L_62 : MtV RL 62 yX9_on cX9_on 3 (some .int) 2 := ⟨mbl_X9_on _, wl_in (List.mem_of_getElem? (i := 1645) (by decide +kernel)) (by decide +kernel), wl_in (List.mem_of_getElem? (i := 1646) (by decide +kernel)) (by decide +kernel), wl_in (List.mem_of_getElem? (i := 1647) (by decide +kernel)) (by decide +kernel)⟩
theorem mbl_X8_first (own : String) : MtB own yX8_first cX8_first 3 (some .int) 0 := ⟨wl_in (List.mem_of_getElem? (i := 772) (by decide +kernel)) (by decide +kernel), wl_in (List.mem_of_getElem? (i := 114) (by decide +kernel)) (by decide +kernel), by decide, by decide, by decide +kernel⟩
theorem mt_L_63 : MtV RL 63 yX8_first cX8_first 3 (some .int) 0 := ⟨mbl_X8_first _, wl_in (List.mem_of_getElem? (i := 769) (by decide +kernel)) (by decide +kernel), wl_in (List.mem_of_getElem? (i := 770) (by decide +kernel)) (by decide +kernel), wl_in (List.mem_of_getElem? (i := 771) (by decide +kernel)) (by decide +kernel)⟩
theorem mbl_X9_first (own : String) : MtB own yX9_first cX9_first 2 (some .int) 0 := ⟨wl_in (List.mem_of_getElem? (i := 1652) (by decide +kernel)) (by decide +kernel), wl_in (List.mem_of_getElem? (i := 123) (by decide +kernel)) (by decide +kernel), by decide, by decide, by decide +kernel⟩
theorem mt_L_66 : MtV RL 66 yX9_first cX9_first 2 (some .int) 0 := ⟨mbl_X9_first _, wl_in (List.mem_of_getElem? (i := 1649) (by decide +kernel)) (by decide +kernel), wl_in (List.mem_of_getElem? (i := 1650) (by decide +kernel)) (by decide +kernel), wl_in (List.mem_of_getElem? (i := 1651) (by decide +kernel)) (by decide +kernel)⟩
theorem mbl_X8_never (own : String) : MtB own yX8_never cX8_never 3 (some .int) 0 := ⟨wl_in (List.mem_of_getElem? (i := 791) (by decide +kernel)) (by decide +kernel), wl_in (List.mem_of_getElem? (i := 114) (by decide +kernel)) (by decide +kernel), by decide, by decide, by decide +kernel⟩
theorem mt_L_67 : MtV RL 67 yX8_never cX8_never 3 (some .int) 0 := ⟨mbl_X8_never _, wl_in (List.mem_of_getElem? (i := 788) (by decide +kernel)) (by decide +kernel), wl_in (List.mem_of_getElem? (i := 789) (by decide +kernel)) (by decide +kernel), wl_in (List.mem_of_getElem? (i := 790) (by decide +kernel)) (by decide +kernel)⟩
theorem mbl_X9_never (own : String) : MtB own yX9_never cX9_never 3 (some .int) 0 := ⟨wl_in (List.mem_of_getElem? (i := 1664) (by decide +kernel)) (by decide +kernel), wl_in (List.mem_of_getElem? (i := 123) (by decide +kernel)) (by decide +kernel), by decide, by decide, by decide +kernel⟩
theorem mt_L_70 : MtV RL 70 yX9_never cX9_never 3 (some .int) 0 := ⟨mbl_X9_never _, wl_in (List.mem_of_getElem? (i := 1661) (by decide +kernel)) (by decide +kernel), wl_in (List.mem_of_getElem? (i := 1662) (by decide +kernel)) (by decide +kernel), wl_in (List.mem_of_getElem? (i := 1663) (by decide +kernel)) (by decide +kernel)⟩
theorem mbl_X8_catches (own : String) : MtB own yX8_catches cX8_catches 4 (some .int) 3 := ⟨wl_in (List.mem_of_getElem? (i := 795) (by decide +kernel)) (by decide +kernel), wl_in (List.mem_of_getElem? (i := 114) (by decide +kernel)) (by decide +kernel), by decide, by decide, by decide +kernel⟩
theorem mt_L_71 : MtV RL 71 yX8_catches cX8_catches 4 (some .int) 3 := ⟨mbl_X8_catches _, wl_in (List.mem_of_getElem? (i := 792) (by decide +kernel)) (by decide +kernel), wl_in (List.mem_of_getElem? (i := 793) (by decide +kernel)) (by decide +kernel), wl_in (List.mem_of_getElem? (i := 794) (by decide +kernel)) (by decide +kernel)⟩
theorem mbl_X9_catches (own : String) : MtB own yX9_catches cX9_catches 8 (some .int) 3 := ⟨wl_in (List.mem_of_getElem? (i := 1668) (by decide +kernel)) (by decide +kernel), wl_in (List.mem_of_getElem? (i := 123) (by decide +kernel)) (by decide +kernel), by decide, by decide, by decide +kernel⟩
theorem mt_L_75 : MtV RL 75 yX9_catches cX9_catches 8 (some .int) 3 := ⟨mbl_X9_catches _, wl_in (List.mem_of_getElem? (i := 1665) (by decide +kernel)) (by decide +kernel), wl_in (List.mem_of_getElem? (i := 1666) (by decide +kernel)) (by decide +kernel), wl_in (List.mem_of_getElem? (i := 1667) (by decide +kernel)) (by decide +kernel)⟩
theorem mbl_X8_lace (own : String) : MtB own yX8_lace cX8_lace 4 (some .long) 3 := ⟨wl_in (List.mem_of_getElem? (i := 802) (by decide +kernel)) (by decide +kernel), wl_in (List.mem_of_getElem? (i := 114) (by decide +kernel)) (by decide +kernel), by decide, by decide, by decide +kernel⟩
theorem mt_L_76 : MtV RL 76 yX8_lace cX8_lace 4 (some .long) 3 := ⟨mbl_X8_lace _, wl_in (List.mem_of_getElem? (i := 799) (by decide +kernel)) (by decide +kernel), wl_in (List.mem_of_getElem? (i := 800) (by decide +kernel)) (by decide +kernel), wl_in (List.mem_of_getElem? (i := 801) (by decide +kernel)) (by decide +kernel)⟩
theorem mbl_X9_lace (own : String) : MtB own yX9_lace cX9_lace 4 (some .long) 3 := ⟨wl_in (List.mem_of_getElem? (i := 1672) (by decide +kernel)) (by decide +kernel), wl_in (List.mem_of_getElem? (i := 123) (by decide +kernel)) (by decide +kernel), by decide, by decide, by decide +kernel⟩
theorem mt_L_79 : MtV RL 79 yX9_lace cX9_lace 4 (some .long) 3 := ⟨mbl_X9_lace _, wl_in (List.mem_of_getElem? (i := 1669) (by decide +kernel)) (by decide +kernel), wl_in (List.mem_of_getElem? (i := 1670) (by decide +kernel)) (by decide +kernel), wl_in (List.mem_of_getElem? (i := 1671) (by decide +kernel)) (by decide +kernel)⟩
theorem mbl_X8_ties (own : String) : MtB own yX8_ties cX8_ties 3 (some .int) 2 := ⟨wl_in (List.mem_of_getElem? (i := 824) (by decide +kernel)) (by decide +kernel), wl_in (List.mem_of_getElem? (i := 114) (by decide +kernel)) (by decide +kernel), by decide, by decide, by decide +kernel⟩
theorem mt_L_80 : MtV RL 80 yX8_ties cX8_ties 3 (some .int) 2 := ⟨mbl_X8_ties _, wl_in (List.mem_of_getElem? (i := 821) (by decide +kernel)) (by decide +kernel), wl_in (List.mem_of_getElem? (i := 822) (by decide +kernel)) (by decide +kernel), wl_in (List.mem_of_getElem? (i := 823) (by decide +kernel)) (by decide +kernel)⟩
theorem mbl_X9_ties (own : String) : MtB own yX9_ties cX9_ties 3 (some .int) 2 := ⟨wl_in (List.mem_of_getElem? (i := 1688) (by decide +kernel)) (by decide +kernel), wl_in (List.mem_of_getElem? (i := 123) (by decide +kernel)) (by decide +kernel), by decide, by decide, by decide +kernel⟩
theorem mt_L_83 : MtV RL 83 yX9_ties cX9_ties 3 (some .int) 2 := ⟨mbl_X9_ties _, wl_in (List.mem_of_getElem? (i := 1685) (by decide +kernel)) (by decide +kernel), wl_in (List.mem_of_getElem? (i := 1686) (by decide +kernel)) (by decide +kernel), wl_in (List.mem_of_getElem? (i := 1687) (by decide +kernel)) (by decide +kernel)⟩
theorem case_0 {E : EE} {b Ln : Nat} {xs : Nat → Int32} {x y : Nat → Nat} {i : Int} {ws : va_W} (C : Cx E cL_law RL room_1) (S : Scr E b Ln xs) (hi : 0 ≤ i ∧ i + 6 ≤ (Ln : Int)) (hI : Inv (eCy E) x y ws) (next : ∀ w, Inv (eCy E) x y w → GG E 121 14405 w [some (.ref b), some (.ref (x 0)), some (.ref (y 0)), some (.int (wI i))] 2330 []) : GG E 121 14405 ws [some (.ref b), some (.ref (x 0)), some (.ref (y 0)), some (.int (wI i))] 292 [] := by
  obtain ⟨ci, cf, cg, rfl, R1, R2, R3, R4, R5⟩ := hI
  refine g_aload_n 1 C dL_law_292 rfl rfl ?_
  refine g_aload_n 0 C dL_law_293 rfl rfl ?_
  refine g_iload_n 3 C dL_law_294 rfl rfl ?_
  refine g_iconst C dL_law_295 ?_
  refine g_iadd C dL_law_296 ?_
  refine g_sld C S (by omega) dL_law_297 ?_
  refine g_aload_n 0 C dL_law_298 rfl rfl ?_
  refine g_iload_n 3 C dL_law_299 rfl rfl ?_
  refine g_iconst C dL_law_300 ?_
  refine g_iadd C dL_law_301 ?_
  refine g_sld C S (by omega) dL_law_302 ?_
  refine g_aload_n 0 C dL_law_303 rfl rfl ?_
  refine g_iload_n 3 C dL_law_304 rfl rfl ?_
  refine g_iconst C dL_law_305 ?_
  refine g_iadd C dL_law_306 ?_
  refine g_sld C S (by omega) dL_law_307 ?_
  refine g_aload_n 0 C dL_law_308 rfl rfl ?_
  refine g_iload_n 3 C dL_law_309 rfl rfl ?_
  refine g_iconst C dL_law_310 ?_
  refine g_iadd C dL_law_311 ?_
  refine g_sld C S (by omega) dL_law_312 ?_
  refine g_aload_n 0 C dL_law_313 rfl rfl ?_
  refine g_iload_n 3 C dL_law_314 rfl rfl ?_
  refine g_iconst C dL_law_315 ?_
  refine g_iadd C dL_law_316 ?_
  refine g_sld C S (by omega) dL_law_317 ?_
  have h := op_feed (F := 100000) (by decide) R5 (xv xs (i + 1)) (xv xs (i + 2)) (xv xs (i + 3)) (xv xs (i + 4)) (xv xs (i + 5))
  refine h.elim (fun u0 h => ?_)
  refine h.elim (fun u1 h => ?_)
  refine h.elim (fun u2 h => ?_)
  refine h.elim (fun u3 h => ?_)
  refine h.elim (fun u4 h => ?_)
  obtain ⟨e8, e9, N5⟩ := h
  refine g_setI (q0 := 0) (As := [.int (wI (xv xs (i + 1))), .int (wI (xv xs (i + 2))), .int (wI (xv xs (i + 3))), .int (wI (xv xs (i + 4))), .int (wI (xv xs (i + 5)))]) (ws2 := _) (r := (wI (u0))) [0, 1, 2] [some 0, some 1, some 2, none, none, none, none, none, none, none, none, none, none, none, none, none, none, none, none, none, none, none, none, none, none, none, none, none, none, none, none, none, none, none, none, none, none, none, none, none, none, none, none, none, none, none, none, none, none, none, none, none, none, none, none, none, none, none, none, none, none, none, none, none, none, none, none, none, none, none, none, none, none, none, none, none, none, none, none, none, none, none, none, none, none, none, none, none, none, none, none, none, none, none, none, none, none, none, none, none, none, none, none, none, none, none, none, none, none, none, none, none, none, none, none, none, none, none, none, none, none] C mt_L_13 (c_X8_feed _ _ _ _ (x 0) (x 1) (x 2) (.int (wI (ci 1))) (.int (wI (ci 2))) (.ref (x 3)) (.ref (x 80)) (.ref (x 79)) (.ref (x 29)) (.ref (x 17)) (.ref (x 23)) (.ref (x 42)) (.ref (x 45)) (.ref (x 19)) (.ref (x 22)) (.int (wI (ci 14))) (.int (wI (ci 15))) (.ref (x 10)) (.int (wI (ci 16))) (.int (wI (ci 17))) (.int (wI (ci 18))) (.int (wI (ci 19))) (xv xs (i + 1)) (xv xs (i + 2)) (xv xs (i + 3)) (xv xs (i + 4)) (xv xs (i + 5)) (ci 0) (cf 0) 100000 e8) rfl rfl rfl rfl (by decide +kernel) rfl rfl rfl rfl rfl dL_law_318 ?_
  refine g_aload_n 2 C dL_law_321 rfl rfl ?_
  refine g_aload_n 0 C dL_law_322 rfl rfl ?_
  refine g_iload_n 3 C dL_law_323 rfl rfl ?_
  refine g_iconst C dL_law_324 ?_
  refine g_iadd C dL_law_325 ?_
  refine g_sld C S (by omega) dL_law_326 ?_
  refine g_aload_n 0 C dL_law_327 rfl rfl ?_
  refine g_iload_n 3 C dL_law_328 rfl rfl ?_
  refine g_iconst C dL_law_329 ?_
  refine g_iadd C dL_law_330 ?_
  refine g_sld C S (by omega) dL_law_331 ?_
  refine g_aload_n 0 C dL_law_332 rfl rfl ?_
  refine g_iload_n 3 C dL_law_333 rfl rfl ?_
  refine g_iconst C dL_law_334 ?_
  refine g_iadd C dL_law_335 ?_
  refine g_sld C S (by omega) dL_law_336 ?_
  refine g_aload_n 0 C dL_law_337 rfl rfl ?_
  refine g_iload_n 3 C dL_law_338 rfl rfl ?_
  refine g_iconst C dL_law_339 ?_
  refine g_iadd C dL_law_340 ?_
  refine g_sld C S (by omega) dL_law_341 ?_
  refine g_aload_n 0 C dL_law_342 rfl rfl ?_
  refine g_iload_n 3 C dL_law_343 rfl rfl ?_
  refine g_iconst C dL_law_344 ?_
  refine g_iadd C dL_law_345 ?_
  refine g_sld C S (by omega) dL_law_346 ?_
  refine g_setI (q0 := 0) (As := [.int (wI (xv xs (i + 1))), .int (wI (xv xs (i + 2))), .int (wI (xv xs (i + 3))), .int (wI (xv xs (i + 4))), .int (wI (xv xs (i + 5)))]) (ws2 := WW (eCy E) x y (upN (upN ci 0 (u1)) 60 (u3)) (upN (upN cf 0 (u2)) 41 (u4)) cg) (r := (wI (u0))) [102, 103] [none, none, none, none, none, none, none, none, none, none, none, none, none, none, none, none, none, none, none, none, none, none, none, none, none, none, none, none, none, none, none, none, none, none, none, none, none, none, none, none, none, none, none, none, none, none, none, none, none, none, none, none, none, none, none, none, none, none, none, none, none, none, none, none, none, none, none, none, none, none, none, none, none, none, none, none, none, none, none, none, none, none, none, none, none, none, none, none, none, none, none, none, none, none, none, none, none, none, none, none, none, none, some 0, some 1, none, none, none, none, none, none, none, none, none, none, none, none, none, none, none, none, none] C mt_L_17 (c_X9_feed _ _ _ _ (y 0) (y 1) (.ref (y 11)) (.ref (y 10)) (.ref (y 9)) (.ref (y 18)) (.int (wI (ci 61))) (.int (wI (ci 62))) (.int (wI (ci 63))) (.int (wI (ci 64))) (.long (wJ (ci 65))) (.int (wI (ci 66))) (.int (wI (ci 67))) (.int (wI (ci 1))) (.int (wI (ci 2))) (.ref (y 5)) (.ref (y 4)) (.ref (y 7)) (.ref (y 6)) (.ref (y 3)) (.ref (y 2)) (.ref (y 17)) (.ref (y 8)) (.long (wJ (ci 68))) (.long (wJ (ci 69))) (.int (wI (ci 70))) (.long (wJ (ci 71))) (.long (wJ (ci 72))) (.int (wI (ci 73))) (.ref (y 12)) (.ref (y 13)) (.ref (y 14)) (.int (wI (ci 74))) (.int (wI (ci 75))) (.long (wJ (ci 76))) (.long (wJ (ci 77))) (.long (wJ (ci 78))) (.long (wJ (ci 79))) (.int (wI (ci 80))) (.ref (y 15)) (.long (wJ (ci 81))) (.ref (y 16)) (.int (wI (ci 82))) (xv xs (i + 1)) (xv xs (i + 2)) (xv xs (i + 3)) (xv xs (i + 4)) (xv xs (i + 5)) (ci 60) (ci 0) (cf 41) 100000 e9) rfl rfl rfl rfl (by decide +kernel) rfl rfl rfl rfl rfl dL_law_347 ?_
  refine g_icmp_eq (X := some ()) (Y := none) (v := ()) 2330 C dL_law_350 rfl (if_pos rfl) (fun _ => ?_) (fun h => nomatch h)
  exact next _ ⟨_, _, _, rfl, R1, R2, R3, R4, N5⟩
theorem case_1 {E : EE} {b Ln : Nat} {xs : Nat → Int32} {x y : Nat → Nat} {i : Int} {ws : va_W} (C : Cx E cL_law RL room_1) (S : Scr E b Ln xs) (hi : 0 ≤ i ∧ i + 6 ≤ (Ln : Int)) (hI : Inv (eCy E) x y ws) (next : ∀ w, Inv (eCy E) x y w → GG E 121 14405 w [some (.ref b), some (.ref (x 0)), some (.ref (y 0)), some (.int (wI i))] 2330 []) : GG E 121 14405 ws [some (.ref b), some (.ref (x 0)), some (.ref (y 0)), some (.int (wI i))] 355 [] := by
  obtain ⟨ci, cf, cg, rfl, R1, R2, R3, R4, R5⟩ := hI
  refine g_aload_n 1 C dL_law_355 rfl rfl ?_
  refine g_aload_n 0 C dL_law_356 rfl rfl ?_
  refine g_iload_n 3 C dL_law_357 rfl rfl ?_
  refine g_iconst C dL_law_358 ?_
  refine g_iadd C dL_law_359 ?_
  refine g_sld C S (by omega) dL_law_360 ?_
  have h := op_end (F := 100000) R5 (xv_in xs (i + 1))
  refine h.elim (fun u0 h => ?_)
  refine h.elim (fun u1 h => ?_)
  refine h.elim (fun u2 h => ?_)
  obtain ⟨e8, e9, N5⟩ := h
  refine g_setI (q0 := 0) (As := [.int (wI (xv xs (i + 1)))]) (ws2 := _) (r := (wI (u0))) [0] [some 0, none, none, none, none, none, none, none, none, none, none, none, none, none, none, none, none, none, none, none, none, none, none, none, none, none, none, none, none, none, none, none, none, none, none, none, none, none, none, none, none, none, none, none, none, none, none, none, none, none, none, none, none, none, none, none, none, none, none, none, none, none, none, none, none, none, none, none, none, none, none, none, none, none, none, none, none, none, none, none, none, none, none, none, none, none, none, none, none, none, none, none, none, none, none, none, none, none, none, none, none, none, none, none, none, none, none, none, none, none, none, none, none, none, none, none, none, none, none, none, none] C mt_L_18 (c_X8_end _ _ _ _ (x 0) (.int (wI (ci 1))) (.int (wI (ci 2))) (.ref (x 3)) (.ref (x 80)) (.ref (x 79)) (.ref (x 29)) (.ref (x 1)) (.ref (x 17)) (.ref (x 23)) (.ref (x 42)) (.ref (x 45)) (.ref (x 19)) (.ref (x 22)) (xv xs (i + 1)) (ci 0) 100000 e8) rfl rfl rfl rfl (by decide +kernel) rfl rfl rfl rfl rfl dL_law_361 ?_
  refine g_aload_n 2 C dL_law_364 rfl rfl ?_
  refine g_aload_n 0 C dL_law_365 rfl rfl ?_
  refine g_iload_n 3 C dL_law_366 rfl rfl ?_
  refine g_iconst C dL_law_367 ?_
  refine g_iadd C dL_law_368 ?_
  refine g_sld C S (by omega) dL_law_369 ?_
  refine g_setI (q0 := 0) (As := [.int (wI (xv xs (i + 1)))]) (ws2 := WW (eCy E) x y (upN (upN ci 0 (u1)) 60 (u2)) cf cg) (r := (wI (u0))) [102] [none, none, none, none, none, none, none, none, none, none, none, none, none, none, none, none, none, none, none, none, none, none, none, none, none, none, none, none, none, none, none, none, none, none, none, none, none, none, none, none, none, none, none, none, none, none, none, none, none, none, none, none, none, none, none, none, none, none, none, none, none, none, none, none, none, none, none, none, none, none, none, none, none, none, none, none, none, none, none, none, none, none, none, none, none, none, none, none, none, none, none, none, none, none, none, none, none, none, none, none, none, none, some 0, none, none, none, none, none, none, none, none, none, none, none, none, none, none, none, none, none, none] C mt_L_22 (c_X9_end _ _ _ _ (y 0) (.ref (y 11)) (.ref (y 10)) (.ref (y 9)) (.ref (y 18)) (.ref (y 1)) (.int (wI (ci 61))) (.int (wI (ci 62))) (.int (wI (ci 63))) (.int (wI (ci 64))) (.long (wJ (ci 65))) (.int (wI (ci 66))) (.int (wI (ci 67))) (.int (wI (ci 1))) (.int (wI (ci 2))) (.ref (y 5)) (.ref (y 4)) (.ref (y 7)) (.ref (y 6)) (.ref (y 3)) (.ref (y 2)) (.ref (y 17)) (.ref (y 8)) (.long (wJ (ci 68))) (.long (wJ (ci 69))) (.int (wI (ci 70))) (.long (wJ (ci 71))) (.long (wJ (ci 72))) (.int (wI (ci 73))) (.ref (y 12)) (.ref (y 13)) (.ref (y 14)) (.int (wI (ci 74))) (.int (wI (ci 75))) (.long (wJ (ci 76))) (.long (wJ (ci 77))) (.long (wJ (ci 78))) (.long (wJ (ci 79))) (.int (wI (ci 80))) (.ref (y 15)) (.long (wJ (ci 81))) (.ref (y 16)) (.int (wI (ci 82))) (xv xs (i + 1)) (ci 60) (ci 0) 100000 e9) rfl rfl rfl rfl (by decide +kernel) rfl rfl rfl rfl rfl dL_law_370 ?_
  refine g_icmp_eq (X := some ()) (Y := none) (v := ()) 2330 C dL_law_373 rfl (if_pos rfl) (fun _ => ?_) (fun h => nomatch h)
  exact next _ ⟨_, _, _, rfl, R1, R2, R3, R4, N5⟩
set_option maxRecDepth 8000 in
theorem case_2 {E : EE} {b Ln : Nat} {xs : Nat → Int32} {x y : Nat → Nat} {i : Int} {ws : va_W} (C : Cx E cL_law RL room_1) (S : Scr E b Ln xs) (hi : 0 ≤ i ∧ i + 6 ≤ (Ln : Int)) (hI : Inv (eCy E) x y ws) (next : ∀ w, Inv (eCy E) x y w → GG E 121 14405 w [some (.ref b), some (.ref (x 0)), some (.ref (y 0)), some (.int (wI i))] 2330 []) : GG E 121 14405 ws [some (.ref b), some (.ref (x 0)), some (.ref (y 0)), some (.int (wI i))] 378 [] := by
  obtain ⟨ci, cf, cg, rfl, R1, R2, R3, R4, R5⟩ := hI
  refine g_aload_n 1 C dL_law_378 rfl rfl ?_
  have h := op_stair (F := 100000) (by decide) R1 R2 R3 R5 (ci 26) (ci 27) (ci 28) (ci 29) (cf 7) (cf 8) (cf 9) (cf 10) (cf 11) (cf 12)
  refine h.elim (fun u0 h => ?_)
  refine h.elim (fun u1 h => ?_)
  refine h.elim (fun u2 h => ?_)
  refine h.elim (fun u3 h => ?_)
  refine h.elim (fun u4 h => ?_)
  refine h.elim (fun u5 h => ?_)
  refine h.elim (fun u6 h => ?_)
  refine h.elim (fun u7 h => ?_)
  refine h.elim (fun u8 h => ?_)
  refine h.elim (fun u9 h => ?_)
  refine h.elim (fun u10 h => ?_)
  refine h.elim (fun u11 h => ?_)
  refine h.elim (fun u12 h => ?_)
  refine h.elim (fun u13 h => ?_)
  refine h.elim (fun u14 h => ?_)
  refine h.elim (fun u15 h => ?_)
  refine h.elim (fun u16 h => ?_)
  refine h.elim (fun u17 h => ?_)
  refine h.elim (fun u18 h => ?_)
  refine h.elim (fun u19 h => ?_)
  refine h.elim (fun u20 h => ?_)
  refine h.elim (fun u21 h => ?_)
  refine h.elim (fun u22 h => ?_)
  refine h.elim (fun u23 h => ?_)
  refine h.elim (fun u24 h => ?_)
  refine h.elim (fun u25 h => ?_)
  refine h.elim (fun u26 h => ?_)
  refine h.elim (fun u27 h => ?_)
  refine h.elim (fun u28 h => ?_)
  refine h.elim (fun u29 h => ?_)
  refine h.elim (fun u30 h => ?_)
  refine h.elim (fun u31 h => ?_)
  refine h.elim (fun u32 h => ?_)
  refine h.elim (fun u33 h => ?_)
  refine h.elim (fun u34 h => ?_)
  refine h.elim (fun u35 h => ?_)
  refine h.elim (fun u36 h => ?_)
  refine h.elim (fun u37 h => ?_)
  refine h.elim (fun u38 h => ?_)
  refine h.elim (fun u39 h => ?_)
  refine h.elim (fun u40 h => ?_)
  refine h.elim (fun u41 h => ?_)
  refine h.elim (fun u42 h => ?_)
  refine h.elim (fun u43 h => ?_)
  refine h.elim (fun u44 h => ?_)
  refine h.elim (fun u45 h => ?_)
  refine h.elim (fun u46 h => ?_)
  refine h.elim (fun u47 h => ?_)
  refine h.elim (fun u48 h => ?_)
  refine h.elim (fun u49 h => ?_)
  refine h.elim (fun u50 h => ?_)
  refine h.elim (fun u51 h => ?_)
  refine h.elim (fun u52 h => ?_)
  refine h.elim (fun u53 h => ?_)
  obtain ⟨e8, e9, N1, N2, N3⟩ := h
  refine g_setI (q0 := 0) (As := []) (ws2 := _) (r := (wI (u0))) [0, 3, 4, 5, 6, 7, 8, 9, 1, 10, 11, 12, 13, 14, 15, 16, 2] [some 0, some 8, some 16, some 1, some 2, some 3, some 4, some 5, some 6, some 7, some 9, some 10, some 11, some 12, some 13, some 14, some 15, none, none, none, none, none, none, none, none, none, none, none, none, none, none, none, none, none, none, none, none, none, none, none, none, none, none, none, none, none, none, none, none, none, none, none, none, none, none, none, none, none, none, none, none, none, none, none, none, none, none, none, none, none, none, none, none, none, none, none, none, none, none, none, none, none, none, none, none, none, none, none, none, none, none, none, none, none, none, none, none, none, none, none, none, none, none, none, none, none, none, none, none, none, none, none, none, none, none, none, none, none, none, none, none] C mt_L_23 (c_X8_stair _ _ _ _ (x 0) (x 3) (x 4) (x 5) (x 6) (x 7) (x 8) (x 9) (x 1) (x 10) (x 11) (x 12) (x 13) (x 14) (x 15) (x 16) (x 2) (.ref (x 80)) (.ref (x 79)) (.ref (x 29)) (.ref (x 17)) (.ref (x 23)) (.ref (x 42)) (.ref (x 45)) (.ref (x 19)) (.ref (x 22)) (ci 0) (ci 1) (ci 2) (ci 3) (ci 4) (ci 5) (ci 6) (ci 7) (ci 8) (ci 9) (ci 10) (ci 11) (ci 12) (ci 13) (cf 1) (cf 2) (cf 3) (cf 4) (cf 5) (cf 6) (ci 14) (ci 15) (ci 16) (ci 17) (ci 18) (ci 19) (ci 20) (ci 21) (ci 22) (ci 23) (ci 24) (ci 25) (ci 26) (ci 27) (ci 28) (ci 29) (ci 30) (cf 7) (cf 8) (cf 9) (cf 10) (cf 11) (cf 12) (cf 0) 100000 e8) rfl rfl rfl rfl (by decide +kernel) rfl rfl rfl rfl rfl dL_law_379 ?_
  refine g_aload_n 2 C dL_law_382 rfl rfl ?_
  refine g_setI (q0 := 0) (As := []) (ws2 := WW (eCy E) x y (upN (upN (upN (upN (upN (upN (upN (upN (upN (upN (upN (upN (upN (upN (upN (upN (upN (upN (upN (upN (upN (upN (upN (upN (upN (upN (upN (upN (upN (upN (upN (upN (upN (upN (upN (upN (upN (upN (upN ci 0 (0)) 1 (u1)) 2 (u2)) 3 (u18)) 4 (u19)) 5 (u20)) 6 (u21)) 7 (u22)) 8 (u23)) 9 (u24)) 10 (u25)) 11 (u26)) 12 (u27)) 13 (u28)) 14 (u35)) 15 (u36)) 16 (u37)) 17 (u38)) 18 (u39)) 19 (u40)) 20 (u3)) 21 (u4)) 22 (u5)) 23 (u6)) 24 (u7)) 25 (u8)) 26 (u9)) 27 (u10)) 28 (u11)) 29 (u12)) 30 (u13)) 60 (0)) 61 (u41)) 62 (u42)) 63 (u43)) 64 (u44)) 65 (u45)) 66 (u46)) 67 (u47)) (upN (upN (upN (upN (upN (upN (upN (upN (upN (upN (upN (upN (upN (upN (upN (upN cf 1 (u29)) 2 (u30)) 3 (u31)) 4 (u32)) 5 (u33)) 6 (u34)) 9 (u14)) 10 (u15)) 11 (u16)) 12 (u17)) 42 (u48)) 43 (u49)) 44 (u50)) 45 (u51)) 46 (u52)) 47 (u53)) cg) (r := (wI (u0))) [102, 104, 105, 106, 107, 108, 109, 103] [none, none, none, none, none, none, none, none, none, none, none, none, none, none, none, none, none, none, none, none, none, none, none, none, none, none, none, none, none, none, none, none, none, none, none, none, none, none, none, none, none, none, none, none, none, none, none, none, none, none, none, none, none, none, none, none, none, none, none, none, none, none, none, none, none, none, none, none, none, none, none, none, none, none, none, none, none, none, none, none, none, none, none, none, none, none, none, none, none, none, none, none, none, none, none, none, none, none, none, none, none, none, some 0, some 7, some 1, some 2, some 3, some 4, some 5, some 6, none, none, none, none, none, none, none, none, none, none, none] C mt_L_27 (c_X9_stair _ _ _ _ (y 0) (y 2) (y 3) (y 4) (y 5) (y 6) (y 7) (y 1) (.ref (y 11)) (.ref (y 10)) (.ref (y 9)) (.ref (y 18)) (.ref (y 17)) (.ref (y 8)) (.long (wJ (ci 68))) (.long (wJ (ci 69))) (.int (wI (ci 70))) (.long (wJ (ci 71))) (.long (wJ (ci 72))) (.int (wI (ci 73))) (.ref (y 12)) (.ref (y 13)) (.ref (y 14)) (.int (wI (ci 74))) (.int (wI (ci 75))) (.long (wJ (ci 76))) (.long (wJ (ci 77))) (.long (wJ (ci 78))) (.long (wJ (ci 79))) (.int (wI (ci 80))) (.ref (y 15)) (.long (wJ (ci 81))) (.ref (y 16)) (.int (wI (ci 82))) (ci 60) (ci 0) (ci 61) (ci 62) (ci 63) (ci 64) (ci 65) (ci 66) (ci 67) (ci 1) (ci 2) (cf 42) (cf 43) (cf 44) (cf 45) (cf 46) (cf 47) (cf 41) 100000 e9) rfl rfl rfl rfl (by decide +kernel) rfl rfl rfl rfl rfl dL_law_383 ?_
  refine g_icmp_eq (X := some ()) (Y := none) (v := ()) 2330 C dL_law_386 rfl (if_pos rfl) (fun _ => ?_) (fun h => nomatch h)
  exact next _ ⟨_, _, _, rfl, N1, N2, N3, R4, TapeR.zero⟩
theorem case_3 {E : EE} {b Ln : Nat} {xs : Nat → Int32} {x y : Nat → Nat} {i : Int} {ws : va_W} (C : Cx E cL_law RL room_1) (S : Scr E b Ln xs) (hi : 0 ≤ i ∧ i + 6 ≤ (Ln : Int)) (hI : Inv (eCy E) x y ws) (next : ∀ w, Inv (eCy E) x y w → GG E 121 14405 w [some (.ref b), some (.ref (x 0)), some (.ref (y 0)), some (.int (wI i))] 2330 []) : GG E 121 14405 ws [some (.ref b), some (.ref (x 0)), some (.ref (y 0)), some (.int (wI i))] 391 [] := by
  obtain ⟨ci, cf, cg, rfl, R1, R2, R3, R4, R5⟩ := hI
  refine g_aload_n 1 C dL_law_391 rfl rfl ?_
  refine g_aload_n 0 C dL_law_392 rfl rfl ?_
  refine g_iload_n 3 C dL_law_393 rfl rfl ?_
  refine g_iconst C dL_law_394 ?_
  refine g_iadd C dL_law_395 ?_
  refine g_sld C S (by omega) dL_law_396 ?_
  obtain ⟨v, w, e8, e9, hvw⟩ : Eq0 (m_X8_fault 100000 (xv xs (i + 1)) (ci 1) (ci 2)) (m_X9_fault 100000 (xv xs (i + 1)) (ci 1) (ci 2)) := op_fault _ _ _
  refine g_setI (q0 := 0) (As := [.int (wI (xv xs (i + 1)))]) (ws2 := WW (eCy E) x y ci cf cg) (r := (wI v)) [0] [some 0, none, none, none, none, none, none, none, none, none, none, none, none, none, none, none, none, none, none, none, none, none, none, none, none, none, none, none, none, none, none, none, none, none, none, none, none, none, none, none, none, none, none, none, none, none, none, none, none, none, none, none, none, none, none, none, none, none, none, none, none, none, none, none, none, none, none, none, none, none, none, none, none, none, none, none, none, none, none, none, none, none, none, none, none, none, none, none, none, none, none, none, none, none, none, none, none, none, none, none, none, none, none, none, none, none, none, none, none, none, none, none, none, none, none, none, none, none, none, none, none] C mt_L_28 (c_X8_fault _ _ _ _ (x 0) (.int (wI (ci 0))) (.ref (x 3)) (.ref (x 80)) (.ref (x 79)) (.ref (x 29)) (.ref (x 1)) (.ref (x 17)) (.ref (x 23)) (.ref (x 42)) (.ref (x 45)) (.ref (x 19)) (.ref (x 22)) (xv xs (i + 1)) (ci 1) (ci 2) 100000 e8) rfl rfl rfl rfl (by decide +kernel) rfl rfl rfl rfl rfl dL_law_397 ?_
  refine g_aload_n 2 C dL_law_400 rfl rfl ?_
  refine g_aload_n 0 C dL_law_401 rfl rfl ?_
  refine g_iload_n 3 C dL_law_402 rfl rfl ?_
  refine g_iconst C dL_law_403 ?_
  refine g_iadd C dL_law_404 ?_
  refine g_sld C S (by omega) dL_law_405 ?_
  refine g_setI (q0 := 0) (As := [.int (wI (xv xs (i + 1)))]) (ws2 := WW (eCy E) x y (upN ci 60 (w.2)) cf cg) (r := (wI (w.1))) [102] [none, none, none, none, none, none, none, none, none, none, none, none, none, none, none, none, none, none, none, none, none, none, none, none, none, none, none, none, none, none, none, none, none, none, none, none, none, none, none, none, none, none, none, none, none, none, none, none, none, none, none, none, none, none, none, none, none, none, none, none, none, none, none, none, none, none, none, none, none, none, none, none, none, none, none, none, none, none, none, none, none, none, none, none, none, none, none, none, none, none, none, none, none, none, none, none, none, none, none, none, none, none, some 0, none, none, none, none, none, none, none, none, none, none, none, none, none, none, none, none, none, none] C mt_L_31 (c_X9_fault _ _ _ _ (y 0) (.ref (y 11)) (.ref (y 10)) (.ref (y 9)) (.ref (y 18)) (.ref (y 1)) (.int (wI (ci 0))) (.int (wI (ci 61))) (.int (wI (ci 62))) (.int (wI (ci 63))) (.int (wI (ci 64))) (.long (wJ (ci 65))) (.int (wI (ci 66))) (.int (wI (ci 67))) (.ref (y 5)) (.ref (y 4)) (.ref (y 7)) (.ref (y 6)) (.ref (y 3)) (.ref (y 2)) (.ref (y 17)) (.ref (y 8)) (.long (wJ (ci 68))) (.long (wJ (ci 69))) (.int (wI (ci 70))) (.long (wJ (ci 71))) (.long (wJ (ci 72))) (.int (wI (ci 73))) (.ref (y 12)) (.ref (y 13)) (.ref (y 14)) (.int (wI (ci 74))) (.int (wI (ci 75))) (.long (wJ (ci 76))) (.long (wJ (ci 77))) (.long (wJ (ci 78))) (.long (wJ (ci 79))) (.int (wI (ci 80))) (.ref (y 15)) (.long (wJ (ci 81))) (.ref (y 16)) (.int (wI (ci 82))) (xv xs (i + 1)) (ci 60) (ci 1) (ci 2) 100000 e9) rfl rfl rfl rfl (by decide +kernel) rfl rfl rfl rfl rfl dL_law_406 ?_
  refine g_icmp_eq (X := some ()) (Y := none) (v := ()) 2330 C dL_law_409 rfl (if_pos (by rw [hvw])) (fun _ => ?_) (fun h => nomatch h)
  exact next _ ⟨_, _, _, rfl, R1, R2, R3, R4, R5⟩
theorem case_4 {E : EE} {b Ln : Nat} {xs : Nat → Int32} {x y : Nat → Nat} {i : Int} {ws : va_W} (C : Cx E cL_law RL room_1) (S : Scr E b Ln xs) (hi : 0 ≤ i ∧ i + 6 ≤ (Ln : Int)) (hI : Inv (eCy E) x y ws) (next : ∀ w, Inv (eCy E) x y w → GG E 121 14405 w [some (.ref b), some (.ref (x 0)), some (.ref (y 0)), some (.int (wI i))] 2330 []) : GG E 121 14405 ws [some (.ref b), some (.ref (x 0)), some (.ref (y 0)), some (.int (wI i))] 414 [] := by
  obtain ⟨ci, cf, cg, rfl, R1, R2, R3, R4, R5⟩ := hI
  refine g_aload_n 1 C dL_law_414 rfl rfl ?_
  refine g_aload_n 0 C dL_law_415 rfl rfl ?_
  refine g_iload_n 3 C dL_law_416 rfl rfl ?_
  refine g_iconst C dL_law_417 ?_
  refine g_iadd C dL_law_418 ?_
  refine g_sld C S (by omega) dL_law_419 ?_
  refine g_aload_n 0 C dL_law_420 rfl rfl ?_
  refine g_iload_n 3 C dL_law_421 rfl rfl ?_
  refine g_iconst C dL_law_422 ?_
  refine g_iadd C dL_law_423 ?_
  refine g_sld C S (by omega) dL_law_424 ?_
  obtain ⟨v, w, e8, e9, hvw⟩ : Eq0 (m_X8_part 100000 (xv xs (i + 1)) (xv xs (i + 2)) (ci 5) (cf 5) (cf 6)) (m_X9_part 100000 (xv xs (i + 1)) (xv xs (i + 2)) (cf 42) (cf 44) (cf 47) (cf 48)) := op_part (by decide) R1 (xv_in _ _) (xv_in _ _) _
  refine g_setI (q0 := 0) (As := [.int (wI (xv xs (i + 1))), .int (wI (xv xs (i + 2)))]) (ws2 := WW (eCy E) x y ci cf cg) (r := (wI v)) [0, 3, 8, 9] [some 0, none, none, some 1, none, none, none, none, some 2, some 3, none, none, none, none, none, none, none, none, none, none, none, none, none, none, none, none, none, none, none, none, none, none, none, none, none, none, none, none, none, none, none, none, none, none, none, none, none, none, none, none, none, none, none, none, none, none, none, none, none, none, none, none, none, none, none, none, none, none, none, none, none, none, none, none, none, none, none, none, none, none, none, none, none, none, none, none, none, none, none, none, none, none, none, none, none, none, none, none, none, none, none, none, none, none, none, none, none, none, none, none, none, none, none, none, none, none, none, none, none, none, none] C mt_L_32 (c_X8_part _ _ _ _ (x 0) (x 3) (x 8) (x 9) (.int (wI (ci 0))) (.int (wI (ci 1))) (.int (wI (ci 2))) (.ref (x 80)) (.ref (x 79)) (.ref (x 29)) (.ref (x 1)) (.ref (x 17)) (.ref (x 23)) (.ref (x 42)) (.ref (x 45)) (.ref (x 19)) (.ref (x 22)) (.int (wI (ci 3))) (.int (wI (ci 4))) (.int (wI (ci 6))) (.ref (x 7)) (.int (wI (ci 7))) (.ref (x 6)) (.int (wI (ci 8))) (.int (wI (ci 9))) (.int (wI (ci 10))) (.int (wI (ci 11))) (.int (wI (ci 12))) (.int (wI (ci 13))) (.ref (x 4)) (.ref (x 5)) (xv xs (i + 1)) (xv xs (i + 2)) (ci 5) (cf 5) (cf 6) 100000 e8) rfl rfl rfl rfl (by decide +kernel) rfl rfl rfl rfl rfl dL_law_425 ?_
  refine g_aload_n 2 C dL_law_428 rfl rfl ?_
  refine g_aload_n 0 C dL_law_429 rfl rfl ?_
  refine g_iload_n 3 C dL_law_430 rfl rfl ?_
  refine g_iconst C dL_law_431 ?_
  refine g_iadd C dL_law_432 ?_
  refine g_sld C S (by omega) dL_law_433 ?_
  refine g_aload_n 0 C dL_law_434 rfl rfl ?_
  refine g_iload_n 3 C dL_law_435 rfl rfl ?_
  refine g_iconst C dL_law_436 ?_
  refine g_iadd C dL_law_437 ?_
  refine g_sld C S (by omega) dL_law_438 ?_
  refine g_setI (q0 := 0) (As := [.int (wI (xv xs (i + 1))), .int (wI (xv xs (i + 2)))]) (ws2 := WW (eCy E) x y (upN ci 60 (w.2.1)) (upN cf 48 (w.2.2)) cg) (r := (wI (w.1))) [102, 104, 106, 109, 110] [none, none, none, none, none, none, none, none, none, none, none, none, none, none, none, none, none, none, none, none, none, none, none, none, none, none, none, none, none, none, none, none, none, none, none, none, none, none, none, none, none, none, none, none, none, none, none, none, none, none, none, none, none, none, none, none, none, none, none, none, none, none, none, none, none, none, none, none, none, none, none, none, none, none, none, none, none, none, none, none, none, none, none, none, none, none, none, none, none, none, none, none, none, none, none, none, none, none, none, none, none, none, some 0, none, some 1, none, some 2, none, none, some 3, some 4, none, none, none, none, none, none, none, none, none, none] C mt_L_36 (c_X9_part _ _ _ _ (y 0) (y 2) (y 4) (y 7) (y 8) (.ref (y 11)) (.ref (y 10)) (.ref (y 9)) (.ref (y 18)) (.ref (y 1)) (.int (wI (ci 0))) (.int (wI (ci 61))) (.int (wI (ci 62))) (.int (wI (ci 63))) (.int (wI (ci 64))) (.long (wJ (ci 65))) (.int (wI (ci 66))) (.int (wI (ci 67))) (.int (wI (ci 1))) (.int (wI (ci 2))) (.ref (y 5)) (.ref (y 6)) (.ref (y 3)) (.ref (y 17)) (.long (wJ (ci 68))) (.long (wJ (ci 69))) (.int (wI (ci 70))) (.long (wJ (ci 71))) (.long (wJ (ci 72))) (.int (wI (ci 73))) (.ref (y 12)) (.ref (y 13)) (.ref (y 14)) (.int (wI (ci 74))) (.int (wI (ci 75))) (.long (wJ (ci 76))) (.long (wJ (ci 77))) (.long (wJ (ci 78))) (.long (wJ (ci 79))) (.int (wI (ci 80))) (.ref (y 15)) (.long (wJ (ci 81))) (.ref (y 16)) (.int (wI (ci 82))) (xv xs (i + 1)) (xv xs (i + 2)) (ci 60) (cf 42) (cf 44) (cf 47) (cf 48) 100000 e9) rfl rfl rfl rfl (by decide +kernel) rfl rfl rfl rfl rfl dL_law_439 ?_
  refine g_icmp_eq (X := some ()) (Y := none) (v := ()) 2330 C dL_law_442 rfl (if_pos (by rw [hvw])) (fun _ => ?_) (fun h => nomatch h)
  exact next _ ⟨_, _, _, rfl, R1, R2, R3, R4, R5⟩
theorem case_5 {E : EE} {b Ln : Nat} {xs : Nat → Int32} {x y : Nat → Nat} {i : Int} {ws : va_W} (C : Cx E cL_law RL room_1) (S : Scr E b Ln xs) (hi : 0 ≤ i ∧ i + 6 ≤ (Ln : Int)) (hI : Inv (eCy E) x y ws) (next : ∀ w, Inv (eCy E) x y w → GG E 121 14405 w [some (.ref b), some (.ref (x 0)), some (.ref (y 0)), some (.int (wI i))] 2330 []) : GG E 121 14405 ws [some (.ref b), some (.ref (x 0)), some (.ref (y 0)), some (.int (wI i))] 447 [] := by
  obtain ⟨ci, cf, cg, rfl, R1, R2, R3, R4, R5⟩ := hI
  refine g_aload_n 1 C dL_law_447 rfl rfl ?_
  refine g_aload_n 0 C dL_law_448 rfl rfl ?_
  refine g_iload_n 3 C dL_law_449 rfl rfl ?_
  refine g_iconst C dL_law_450 ?_
  refine g_iadd C dL_law_451 ?_
  refine g_sld C S (by omega) dL_law_452 ?_
  obtain ⟨v, w, e8, e9, hvw⟩ : Eq0 (m_X8_walker 100000 (xv xs (i + 1)) (ci 6) (cf 4)) (m_X9_walker 100000 (xv xs (i + 1)) (cf 44) (cf 46)) := op_walker R1 (xv_in _ _)
  refine g_setI (q0 := 0) (As := [.int (wI (xv xs (i + 1)))]) (ws2 := WW (eCy E) x y ci cf cg) (r := (wI v)) [0, 3, 7] [some 0, none, none, some 1, none, none, none, some 2, none, none, none, none, none, none, none, none, none, none, none, none, none, none, none, none, none, none, none, none, none, none, none, none, none, none, none, none, none, none, none, none, none, none, none, none, none, none, none, none, none, none, none, none, none, none, none, none, none, none, none, none, none, none, none, none, none, none, none, none, none, none, none, none, none, none, none, none, none, none, none, none, none, none, none, none, none, none, none, none, none, none, none, none, none, none, none, none, none, none, none, none, none, none, none, none, none, none, none, none, none, none, none, none, none, none, none, none, none, none, none, none, none] C mt_L_37 (c_X8_walker _ _ _ _ (x 0) (x 3) (x 7) (.int (wI (ci 0))) (.int (wI (ci 1))) (.int (wI (ci 2))) (.ref (x 80)) (.ref (x 79)) (.ref (x 29)) (.ref (x 1)) (.ref (x 17)) (.ref (x 23)) (.ref (x 42)) (.ref (x 45)) (.ref (x 19)) (.ref (x 22)) (.int (wI (ci 3))) (.int (wI (ci 4))) (.int (wI (ci 5))) (.ref (x 9)) (.ref (x 8)) (.int (wI (ci 7))) (.ref (x 6)) (.int (wI (ci 8))) (.int (wI (ci 9))) (.int (wI (ci 10))) (.int (wI (ci 11))) (.int (wI (ci 12))) (.int (wI (ci 13))) (.ref (x 4)) (.ref (x 5)) (xv xs (i + 1)) (ci 6) (cf 4) 100000 e8) rfl rfl rfl rfl (by decide +kernel) rfl rfl rfl rfl rfl dL_law_453 ?_
  refine g_aload_n 2 C dL_law_456 rfl rfl ?_
  refine g_aload_n 0 C dL_law_457 rfl rfl ?_
  refine g_iload_n 3 C dL_law_458 rfl rfl ?_
  refine g_iconst C dL_law_459 ?_
  refine g_iadd C dL_law_460 ?_
  refine g_sld C S (by omega) dL_law_461 ?_
  refine g_setI (q0 := 0) (As := [.int (wI (xv xs (i + 1)))]) (ws2 := WW (eCy E) x y (upN ci 60 (w.2)) cf cg) (r := (wI (w.1))) [102, 106, 108] [none, none, none, none, none, none, none, none, none, none, none, none, none, none, none, none, none, none, none, none, none, none, none, none, none, none, none, none, none, none, none, none, none, none, none, none, none, none, none, none, none, none, none, none, none, none, none, none, none, none, none, none, none, none, none, none, none, none, none, none, none, none, none, none, none, none, none, none, none, none, none, none, none, none, none, none, none, none, none, none, none, none, none, none, none, none, none, none, none, none, none, none, none, none, none, none, none, none, none, none, none, none, some 0, none, none, none, some 1, none, some 2, none, none, none, none, none, none, none, none, none, none, none, none] C mt_L_40 (c_X9_walker _ _ _ _ (y 0) (y 4) (y 6) (.ref (y 11)) (.ref (y 10)) (.ref (y 9)) (.ref (y 18)) (.ref (y 1)) (.int (wI (ci 0))) (.int (wI (ci 61))) (.int (wI (ci 62))) (.int (wI (ci 63))) (.int (wI (ci 64))) (.long (wJ (ci 65))) (.int (wI (ci 66))) (.int (wI (ci 67))) (.int (wI (ci 1))) (.int (wI (ci 2))) (.ref (y 5)) (.ref (y 7)) (.ref (y 3)) (.ref (y 2)) (.ref (y 17)) (.ref (y 8)) (.long (wJ (ci 68))) (.long (wJ (ci 69))) (.int (wI (ci 70))) (.long (wJ (ci 71))) (.long (wJ (ci 72))) (.int (wI (ci 73))) (.ref (y 12)) (.ref (y 13)) (.ref (y 14)) (.int (wI (ci 74))) (.int (wI (ci 75))) (.long (wJ (ci 76))) (.long (wJ (ci 77))) (.long (wJ (ci 78))) (.long (wJ (ci 79))) (.int (wI (ci 80))) (.ref (y 15)) (.long (wJ (ci 81))) (.ref (y 16)) (.int (wI (ci 82))) (xv xs (i + 1)) (ci 60) (cf 44) (cf 46) 100000 e9) rfl rfl rfl rfl (by decide +kernel) rfl rfl rfl rfl rfl dL_law_462 ?_
  refine g_icmp_eq (X := some ()) (Y := none) (v := ()) 2330 C dL_law_465 rfl (if_pos (by rw [hvw])) (fun _ => ?_) (fun h => nomatch h)
  exact next _ ⟨_, _, _, rfl, R1, R2, R3, R4, R5⟩
theorem case_6 {E : EE} {b Ln : Nat} {xs : Nat → Int32} {x y : Nat → Nat} {i : Int} {ws : va_W} (C : Cx E cL_law RL room_1) (S : Scr E b Ln xs) (hi : 0 ≤ i ∧ i + 6 ≤ (Ln : Int)) (hI : Inv (eCy E) x y ws) (next : ∀ w, Inv (eCy E) x y w → GG E 121 14405 w [some (.ref b), some (.ref (x 0)), some (.ref (y 0)), some (.int (wI i))] 2330 []) : GG E 121 14405 ws [some (.ref b), some (.ref (x 0)), some (.ref (y 0)), some (.int (wI i))] 470 [] := by
  obtain ⟨ci, cf, cg, rfl, R1, R2, R3, R4, R5⟩ := hI
  refine g_aload_n 1 C dL_law_470 rfl rfl ?_
  refine g_aload_n 0 C dL_law_471 rfl rfl ?_
  refine g_iload_n 3 C dL_law_472 rfl rfl ?_
  refine g_iconst C dL_law_473 ?_
  refine g_iadd C dL_law_474 ?_
  refine g_sld C S (by omega) dL_law_475 ?_
  refine g_aload_n 0 C dL_law_476 rfl rfl ?_
  refine g_iload_n 3 C dL_law_477 rfl rfl ?_
  refine g_iconst C dL_law_478 ?_
  refine g_iadd C dL_law_479 ?_
  refine g_sld C S (by omega) dL_law_480 ?_
  obtain ⟨v, w, e8, e9, hvw⟩ : Eq1 (m_X8_time 100000 (xv xs (i + 1)) (xv xs (i + 2)) (ci 5) (ci 6) (cf 4) (cf 5) (cf 6) (ci 31) (ci 32)) (m_X9_time 100000 (xv xs (i + 1)) (xv xs (i + 2)) (ci 68) (ci 69) (cf 42) (cf 44) (cf 46) (cf 47) (cf 48)) := op_time (by decide) R1 (xv_in _ _) (xv_in _ _) _ _ _ _ _
  refine g_setJ (q0 := 0) (As := [.int (wI (xv xs (i + 1))), .int (wI (xv xs (i + 2)))]) (ws2 := WW (eCy E) x y (upN (upN ci 31 (v.2.1)) 32 (v.2.2)) cf cg) (r := (wJ (v.1))) [0, 3, 7, 8, 9, 17, 18] [some 0, none, none, some 1, none, none, none, some 2, some 3, some 4, none, none, none, none, none, none, none, some 5, some 6, none, none, none, none, none, none, none, none, none, none, none, none, none, none, none, none, none, none, none, none, none, none, none, none, none, none, none, none, none, none, none, none, none, none, none, none, none, none, none, none, none, none, none, none, none, none, none, none, none, none, none, none, none, none, none, none, none, none, none, none, none, none, none, none, none, none, none, none, none, none, none, none, none, none, none, none, none, none, none, none, none, none, none, none, none, none, none, none, none, none, none, none, none, none, none, none, none, none, none, none, none, none] C mt_L_41 (c_X8_time _ _ _ _ (x 0) (x 3) (x 7) (x 8) (x 9) (x 17) (x 18) (.int (wI (ci 0))) (.int (wI (ci 1))) (.int (wI (ci 2))) (.ref (x 80)) (.ref (x 79)) (.ref (x 29)) (.ref (x 1)) (.ref (x 23)) (.ref (x 42)) (.ref (x 45)) (.ref (x 19)) (.ref (x 22)) (.int (wI (ci 3))) (.int (wI (ci 4))) (.int (wI (ci 7))) (.ref (x 6)) (.int (wI (ci 8))) (.int (wI (ci 9))) (.int (wI (ci 10))) (.int (wI (ci 11))) (.int (wI (ci 12))) (.int (wI (ci 13))) (.ref (x 4)) (.ref (x 5)) (.ref (x 21)) (.ref (x 20)) (xv xs (i + 1)) (xv xs (i + 2)) (ci 5) (ci 6) (cf 4) (cf 5) (cf 6) (ci 31) (ci 32) 100000 e8) rfl rfl rfl rfl (by decide +kernel) rfl rfl rfl rfl rfl dL_law_481 ?_
  refine g_aload_n 2 C dL_law_484 rfl rfl ?_
  refine g_aload_n 0 C dL_law_485 rfl rfl ?_
  refine g_iload_n 3 C dL_law_486 rfl rfl ?_
  refine g_iconst C dL_law_487 ?_
  refine g_iadd C dL_law_488 ?_
  refine g_sld C S (by omega) dL_law_489 ?_
  refine g_aload_n 0 C dL_law_490 rfl rfl ?_
  refine g_iload_n 3 C dL_law_491 rfl rfl ?_
  refine g_iconst C dL_law_492 ?_
  refine g_iadd C dL_law_493 ?_
  refine g_sld C S (by omega) dL_law_494 ?_
  refine g_setJ (q0 := 0) (As := [.int (wI (xv xs (i + 1))), .int (wI (xv xs (i + 2)))]) (ws2 := WW (eCy E) x y (upN (upN (upN (upN (upN ci 31 (v.2.1)) 32 (v.2.2)) 60 (w.2.1)) 68 (w.2.2.1)) 69 (w.2.2.2.1)) (upN cf 48 (w.2.2.2.2)) cg) (r := (wJ (w.1))) [102, 104, 106, 108, 109, 110] [none, none, none, none, none, none, none, none, none, none, none, none, none, none, none, none, none, none, none, none, none, none, none, none, none, none, none, none, none, none, none, none, none, none, none, none, none, none, none, none, none, none, none, none, none, none, none, none, none, none, none, none, none, none, none, none, none, none, none, none, none, none, none, none, none, none, none, none, none, none, none, none, none, none, none, none, none, none, none, none, none, none, none, none, none, none, none, none, none, none, none, none, none, none, none, none, none, none, none, none, none, none, some 0, none, some 1, none, some 2, none, some 3, some 4, some 5, none, none, none, none, none, none, none, none, none, none] C mt_L_45 (c_X9_time _ _ _ _ (y 0) (y 2) (y 4) (y 6) (y 7) (y 8) (.ref (y 11)) (.ref (y 10)) (.ref (y 9)) (.ref (y 18)) (.ref (y 1)) (.int (wI (ci 0))) (.int (wI (ci 61))) (.int (wI (ci 62))) (.int (wI (ci 63))) (.int (wI (ci 64))) (.long (wJ (ci 65))) (.int (wI (ci 66))) (.int (wI (ci 67))) (.int (wI (ci 1))) (.int (wI (ci 2))) (.ref (y 5)) (.ref (y 3)) (.ref (y 17)) (.int (wI (ci 70))) (.long (wJ (ci 71))) (.long (wJ (ci 72))) (.int (wI (ci 73))) (.ref (y 12)) (.ref (y 13)) (.ref (y 14)) (.int (wI (ci 74))) (.int (wI (ci 75))) (.long (wJ (ci 76))) (.long (wJ (ci 77))) (.long (wJ (ci 78))) (.long (wJ (ci 79))) (.int (wI (ci 80))) (.ref (y 15)) (.long (wJ (ci 81))) (.ref (y 16)) (.int (wI (ci 82))) (xv xs (i + 1)) (xv xs (i + 2)) (ci 60) (ci 68) (ci 69) (cf 42) (cf 44) (cf 46) (cf 47) (cf 48) 100000 e9) rfl rfl rfl rfl (by decide +kernel) rfl rfl rfl rfl rfl dL_law_495 ?_
  refine g_lcmp_eq (X := some ()) (Y := none) (v := ()) 2330 C dL_law_498 dL_law_499 rfl (if_pos (by rw [hvw])) (fun _ => ?_) (fun h => nomatch h)
  exact next _ ⟨_, _, _, rfl, R1, R2, R3, R4, R5⟩
theorem case_7 {E : EE} {b Ln : Nat} {xs : Nat → Int32} {x y : Nat → Nat} {i : Int} {ws : va_W} (C : Cx E cL_law RL room_1) (S : Scr E b Ln xs) (hi : 0 ≤ i ∧ i + 6 ≤ (Ln : Int)) (hI : Inv (eCy E) x y ws) (next : ∀ w, Inv (eCy E) x y w → GG E 121 14405 w [some (.ref b), some (.ref (x 0)), some (.ref (y 0)), some (.int (wI i))] 2330 []) : GG E 121 14405 ws [some (.ref b), some (.ref (x 0)), some (.ref (y 0)), some (.int (wI i))] 504 [] := by
  obtain ⟨ci, cf, cg, rfl, R1, R2, R3, R4, R5⟩ := hI
  refine g_aload_n 1 C dL_law_504 rfl rfl ?_
  refine g_aload_n 0 C dL_law_505 rfl rfl ?_
  refine g_iload_n 3 C dL_law_506 rfl rfl ?_
  refine g_iconst C dL_law_507 ?_
  refine g_iadd C dL_law_508 ?_
  refine g_sld C S (by omega) dL_law_509 ?_
  refine g_aload_n 0 C dL_law_510 rfl rfl ?_
  refine g_iload_n 3 C dL_law_511 rfl rfl ?_
  refine g_iconst C dL_law_512 ?_
  refine g_iadd C dL_law_513 ?_
  refine g_sld C S (by omega) dL_law_514 ?_
  refine g_aload_n 0 C dL_law_515 rfl rfl ?_
  refine g_iload_n 3 C dL_law_516 rfl rfl ?_
  refine g_iconst C dL_law_517 ?_
  refine g_iadd C dL_law_518 ?_
  refine g_sld C S (by omega) dL_law_519 ?_
  obtain ⟨v, w, e8, e9, hvw⟩ : Eq1 (m_X8_spends 100000 (xv xs (i + 1)) (xv xs (i + 2)) (xv xs (i + 3)) (ci 5) (ci 6) (cf 4) (cf 5) (cf 6) (ci 33) (ci 34)) (m_X9_spends 100000 (xv xs (i + 1)) (xv xs (i + 2)) (xv xs (i + 3)) (ci 68) (ci 69) (cf 42) (cf 44) (cf 46) (cf 47) (cf 48)) := op_spends (by decide) R1 (xv_in _ _) (xv_in _ _) (xv_in _ _) _ _ _ _ _
  refine g_setJ (q0 := 0) (As := [.int (wI (xv xs (i + 1))), .int (wI (xv xs (i + 2))), .int (wI (xv xs (i + 3)))]) (ws2 := WW (eCy E) x y (upN (upN ci 33 (v.2.1)) 34 (v.2.2)) cf cg) (r := (wJ (v.1))) [0, 3, 7, 8, 9, 19] [some 0, none, none, some 1, none, none, none, some 2, some 3, some 4, none, none, none, none, none, none, none, none, none, some 5, none, none, none, none, none, none, none, none, none, none, none, none, none, none, none, none, none, none, none, none, none, none, none, none, none, none, none, none, none, none, none, none, none, none, none, none, none, none, none, none, none, none, none, none, none, none, none, none, none, none, none, none, none, none, none, none, none, none, none, none, none, none, none, none, none, none, none, none, none, none, none, none, none, none, none, none, none, none, none, none, none, none, none, none, none, none, none, none, none, none, none, none, none, none, none, none, none, none, none, none, none] C mt_L_46 (c_X8_spends _ _ _ _ (x 0) (x 3) (x 7) (x 8) (x 9) (x 19) (.int (wI (ci 0))) (.int (wI (ci 1))) (.int (wI (ci 2))) (.ref (x 80)) (.ref (x 79)) (.ref (x 29)) (.ref (x 1)) (.ref (x 17)) (.ref (x 23)) (.ref (x 42)) (.ref (x 45)) (.ref (x 22)) (.int (wI (ci 3))) (.int (wI (ci 4))) (.int (wI (ci 7))) (.ref (x 6)) (.int (wI (ci 8))) (.int (wI (ci 9))) (.int (wI (ci 10))) (.int (wI (ci 11))) (.int (wI (ci 12))) (.int (wI (ci 13))) (.ref (x 4)) (.ref (x 5)) (xv xs (i + 1)) (xv xs (i + 2)) (xv xs (i + 3)) (ci 5) (ci 6) (cf 4) (cf 5) (cf 6) (ci 33) (ci 34) 100000 e8) rfl rfl rfl rfl (by decide +kernel) rfl rfl rfl rfl rfl dL_law_520 ?_
  refine g_aload_n 2 C dL_law_523 rfl rfl ?_
  refine g_aload_n 0 C dL_law_524 rfl rfl ?_
  refine g_iload_n 3 C dL_law_525 rfl rfl ?_
  refine g_iconst C dL_law_526 ?_
  refine g_iadd C dL_law_527 ?_
  refine g_sld C S (by omega) dL_law_528 ?_
  refine g_aload_n 0 C dL_law_529 rfl rfl ?_
  refine g_iload_n 3 C dL_law_530 rfl rfl ?_
  refine g_iconst C dL_law_531 ?_
  refine g_iadd C dL_law_532 ?_
  refine g_sld C S (by omega) dL_law_533 ?_
  refine g_aload_n 0 C dL_law_534 rfl rfl ?_
  refine g_iload_n 3 C dL_law_535 rfl rfl ?_
  refine g_iconst C dL_law_536 ?_
  refine g_iadd C dL_law_537 ?_
  refine g_sld C S (by omega) dL_law_538 ?_
  refine g_setJ (q0 := 0) (As := [.int (wI (xv xs (i + 1))), .int (wI (xv xs (i + 2))), .int (wI (xv xs (i + 3)))]) (ws2 := WW (eCy E) x y (upN (upN (upN (upN (upN ci 33 (v.2.1)) 34 (v.2.2)) 60 (w.2.1)) 68 (w.2.2.1)) 69 (w.2.2.2.1)) (upN cf 48 (w.2.2.2.2)) cg) (r := (wJ (w.1))) [102, 104, 106, 108, 109, 110] [none, none, none, none, none, none, none, none, none, none, none, none, none, none, none, none, none, none, none, none, none, none, none, none, none, none, none, none, none, none, none, none, none, none, none, none, none, none, none, none, none, none, none, none, none, none, none, none, none, none, none, none, none, none, none, none, none, none, none, none, none, none, none, none, none, none, none, none, none, none, none, none, none, none, none, none, none, none, none, none, none, none, none, none, none, none, none, none, none, none, none, none, none, none, none, none, none, none, none, none, none, none, some 0, none, some 1, none, some 2, none, some 3, some 4, some 5, none, none, none, none, none, none, none, none, none, none] C mt_L_50 (c_X9_spends _ _ _ _ (y 0) (y 2) (y 4) (y 6) (y 7) (y 8) (.ref (y 11)) (.ref (y 10)) (.ref (y 9)) (.ref (y 18)) (.ref (y 1)) (.int (wI (ci 0))) (.int (wI (ci 61))) (.int (wI (ci 62))) (.int (wI (ci 63))) (.int (wI (ci 64))) (.long (wJ (ci 65))) (.int (wI (ci 66))) (.int (wI (ci 67))) (.int (wI (ci 1))) (.int (wI (ci 2))) (.ref (y 5)) (.ref (y 3)) (.ref (y 17)) (.int (wI (ci 70))) (.long (wJ (ci 71))) (.long (wJ (ci 72))) (.int (wI (ci 73))) (.ref (y 12)) (.ref (y 13)) (.ref (y 14)) (.int (wI (ci 74))) (.int (wI (ci 75))) (.long (wJ (ci 76))) (.long (wJ (ci 77))) (.long (wJ (ci 78))) (.long (wJ (ci 79))) (.int (wI (ci 80))) (.ref (y 15)) (.long (wJ (ci 81))) (.ref (y 16)) (.int (wI (ci 82))) (xv xs (i + 1)) (xv xs (i + 2)) (xv xs (i + 3)) (ci 60) (ci 68) (ci 69) (cf 42) (cf 44) (cf 46) (cf 47) (cf 48) 100000 e9) rfl rfl rfl rfl (by decide +kernel) rfl rfl rfl rfl rfl dL_law_539 ?_
  refine g_lcmp_eq (X := some ()) (Y := none) (v := ()) 2330 C dL_law_542 dL_law_543 rfl (if_pos (by rw [hvw])) (fun _ => ?_) (fun h => nomatch h)
  exact next _ ⟨_, _, _, rfl, R1, R2, R3, R4, R5⟩
theorem case_8 {E : EE} {b Ln : Nat} {xs : Nat → Int32} {x y : Nat → Nat} {i : Int} {ws : va_W} (C : Cx E cL_law RL room_1) (S : Scr E b Ln xs) (hi : 0 ≤ i ∧ i + 6 ≤ (Ln : Int)) (hI : Inv (eCy E) x y ws) (next : ∀ w, Inv (eCy E) x y w → GG E 121 14405 w [some (.ref b), some (.ref (x 0)), some (.ref (y 0)), some (.int (wI i))] 2330 []) : GG E 121 14405 ws [some (.ref b), some (.ref (x 0)), some (.ref (y 0)), some (.int (wI i))] 548 [] := by
  obtain ⟨ci, cf, cg, rfl, R1, R2, R3, R4, R5⟩ := hI
  refine g_aload_n 1 C dL_law_548 rfl rfl ?_
  refine g_aload_n 0 C dL_law_549 rfl rfl ?_
  refine g_iload_n 3 C dL_law_550 rfl rfl ?_
  refine g_iconst C dL_law_551 ?_
  refine g_iadd C dL_law_552 ?_
  refine g_sld C S (by omega) dL_law_553 ?_
  refine g_aload_n 0 C dL_law_554 rfl rfl ?_
  refine g_iload_n 3 C dL_law_555 rfl rfl ?_
  refine g_iconst C dL_law_556 ?_
  refine g_iadd C dL_law_557 ?_
  refine g_sld C S (by omega) dL_law_558 ?_
  obtain ⟨v, w, e8, e9, hvw⟩ : Eq1 (m_X8_steps 100000 (xv xs (i + 1)) (xv xs (i + 2)) (ci 5) (ci 6) (cf 4) (cf 5) (cf 6) (ci 33) (ci 34) (ci 31) (ci 32)) (m_X9_steps 100000 (xv xs (i + 1)) (xv xs (i + 2)) (ci 68) (ci 69) (cf 42) (cf 44) (cf 46) (cf 47) (cf 48)) := op_steps (by decide) R1 (xv_in _ _) (xv_in _ _) _ _ _ _ _ _ _
  refine g_setJ (q0 := 0) (As := [.int (wI (xv xs (i + 1))), .int (wI (xv xs (i + 2)))]) (ws2 := WW (eCy E) x y (upN (upN (upN (upN ci 33 (v.2.1)) 34 (v.2.2.1)) 31 (v.2.2.2.1)) 32 (v.2.2.2.2)) cf cg) (r := (wJ (v.1))) [0, 3, 7, 8, 9, 19, 17, 18] [some 0, none, none, some 1, none, none, none, some 2, some 3, some 4, none, none, none, none, none, none, none, some 6, some 7, some 5, none, none, none, none, none, none, none, none, none, none, none, none, none, none, none, none, none, none, none, none, none, none, none, none, none, none, none, none, none, none, none, none, none, none, none, none, none, none, none, none, none, none, none, none, none, none, none, none, none, none, none, none, none, none, none, none, none, none, none, none, none, none, none, none, none, none, none, none, none, none, none, none, none, none, none, none, none, none, none, none, none, none, none, none, none, none, none, none, none, none, none, none, none, none, none, none, none, none, none, none, none] C mt_L_51 (c_X8_steps _ _ _ _ (x 0) (x 3) (x 7) (x 8) (x 9) (x 19) (x 17) (x 18) (.int (wI (ci 0))) (.int (wI (ci 1))) (.int (wI (ci 2))) (.ref (x 80)) (.ref (x 79)) (.ref (x 29)) (.ref (x 1)) (.ref (x 23)) (.ref (x 42)) (.ref (x 45)) (.ref (x 22)) (.int (wI (ci 3))) (.int (wI (ci 4))) (.int (wI (ci 7))) (.ref (x 6)) (.int (wI (ci 8))) (.int (wI (ci 9))) (.int (wI (ci 10))) (.int (wI (ci 11))) (.int (wI (ci 12))) (.int (wI (ci 13))) (.ref (x 4)) (.ref (x 5)) (.ref (x 21)) (.ref (x 20)) (xv xs (i + 1)) (xv xs (i + 2)) (ci 5) (ci 6) (cf 4) (cf 5) (cf 6) (ci 33) (ci 34) (ci 31) (ci 32) 100000 e8) rfl rfl rfl rfl (by decide +kernel) rfl rfl rfl rfl rfl dL_law_559 ?_
  refine g_aload_n 2 C dL_law_562 rfl rfl ?_
  refine g_aload_n 0 C dL_law_563 rfl rfl ?_
  refine g_iload_n 3 C dL_law_564 rfl rfl ?_
  refine g_iconst C dL_law_565 ?_
  refine g_iadd C dL_law_566 ?_
  refine g_sld C S (by omega) dL_law_567 ?_
  refine g_aload_n 0 C dL_law_568 rfl rfl ?_
  refine g_iload_n 3 C dL_law_569 rfl rfl ?_
  refine g_iconst C dL_law_570 ?_
  refine g_iadd C dL_law_571 ?_
  refine g_sld C S (by omega) dL_law_572 ?_
  refine g_setJ (q0 := 0) (As := [.int (wI (xv xs (i + 1))), .int (wI (xv xs (i + 2)))]) (ws2 := WW (eCy E) x y (upN (upN (upN (upN (upN (upN (upN ci 33 (v.2.1)) 34 (v.2.2.1)) 31 (v.2.2.2.1)) 32 (v.2.2.2.2)) 60 (w.2.1)) 68 (w.2.2.1)) 69 (w.2.2.2.1)) (upN cf 48 (w.2.2.2.2)) cg) (r := (wJ (w.1))) [102, 104, 106, 108, 109, 110] [none, none, none, none, none, none, none, none, none, none, none, none, none, none, none, none, none, none, none, none, none, none, none, none, none, none, none, none, none, none, none, none, none, none, none, none, none, none, none, none, none, none, none, none, none, none, none, none, none, none, none, none, none, none, none, none, none, none, none, none, none, none, none, none, none, none, none, none, none, none, none, none, none, none, none, none, none, none, none, none, none, none, none, none, none, none, none, none, none, none, none, none, none, none, none, none, none, none, none, none, none, none, some 0, none, some 1, none, some 2, none, some 3, some 4, some 5, none, none, none, none, none, none, none, none, none, none] C mt_L_54 (c_X9_steps _ _ _ _ (y 0) (y 2) (y 4) (y 6) (y 7) (y 8) (.ref (y 11)) (.ref (y 10)) (.ref (y 9)) (.ref (y 18)) (.ref (y 1)) (.int (wI (ci 0))) (.int (wI (ci 61))) (.int (wI (ci 62))) (.int (wI (ci 63))) (.int (wI (ci 64))) (.long (wJ (ci 65))) (.int (wI (ci 66))) (.int (wI (ci 67))) (.int (wI (ci 1))) (.int (wI (ci 2))) (.ref (y 5)) (.ref (y 3)) (.ref (y 17)) (.int (wI (ci 70))) (.long (wJ (ci 71))) (.long (wJ (ci 72))) (.int (wI (ci 73))) (.ref (y 12)) (.ref (y 13)) (.ref (y 14)) (.int (wI (ci 74))) (.int (wI (ci 75))) (.long (wJ (ci 76))) (.long (wJ (ci 77))) (.long (wJ (ci 78))) (.long (wJ (ci 79))) (.int (wI (ci 80))) (.ref (y 15)) (.long (wJ (ci 81))) (.ref (y 16)) (.int (wI (ci 82))) (xv xs (i + 1)) (xv xs (i + 2)) (ci 60) (ci 68) (ci 69) (cf 42) (cf 44) (cf 46) (cf 47) (cf 48) 100000 e9) rfl rfl rfl rfl (by decide +kernel) rfl rfl rfl rfl rfl dL_law_573 ?_
  refine g_lcmp_eq (X := some ()) (Y := none) (v := ()) 2330 C dL_law_576 dL_law_577 rfl (if_pos (by rw [hvw])) (fun _ => ?_) (fun h => nomatch h)
  exact next _ ⟨_, _, _, rfl, R1, R2, R3, R4, R5⟩
theorem case_9 {E : EE} {b Ln : Nat} {xs : Nat → Int32} {x y : Nat → Nat} {i : Int} {ws : va_W} (C : Cx E cL_law RL room_1) (S : Scr E b Ln xs) (hi : 0 ≤ i ∧ i + 6 ≤ (Ln : Int)) (hI : Inv (eCy E) x y ws) (next : ∀ w, Inv (eCy E) x y w → GG E 121 14405 w [some (.ref b), some (.ref (x 0)), some (.ref (y 0)), some (.int (wI i))] 2330 []) : GG E 121 14405 ws [some (.ref b), some (.ref (x 0)), some (.ref (y 0)), some (.int (wI i))] 582 [] := by
  obtain ⟨ci, cf, cg, rfl, R1, R2, R3, R4, R5⟩ := hI
  refine g_aload_n 1 C dL_law_582 rfl rfl ?_
  refine g_aload_n 0 C dL_law_583 rfl rfl ?_
  refine g_iload_n 3 C dL_law_584 rfl rfl ?_
  refine g_iconst C dL_law_585 ?_
  refine g_iadd C dL_law_586 ?_
  refine g_sld C S (by omega) dL_law_587 ?_
  refine g_aload_n 0 C dL_law_588 rfl rfl ?_
  refine g_iload_n 3 C dL_law_589 rfl rfl ?_
  refine g_iconst C dL_law_590 ?_
  refine g_iadd C dL_law_591 ?_
  refine g_sld C S (by omega) dL_law_592 ?_
  obtain ⟨v, w, e8, e9, hvw⟩ : Eq1 (m_X8_at 100000 (xv xs (i + 1)) (xv xs (i + 2)) (ci 5) (ci 6) (cf 4) (cf 5) (cf 6) (ci 35) (ci 36)) (m_X9_at 100000 (xv xs (i + 1)) (xv xs (i + 2)) (ci 68) (ci 69) (ci 70) (cf 42) (cf 44) (cf 46) (cf 47) (cf 48)) := op_at (by decide) R1 (xv_in _ _) (xv_in _ _) _ _ _ _ _ _
  refine g_setI (q0 := 0) (As := [.int (wI (xv xs (i + 1))), .int (wI (xv xs (i + 2)))]) (ws2 := WW (eCy E) x y (upN (upN ci 35 (v.2.1)) 36 (v.2.2)) cf cg) (r := (wI (v.1))) [0, 3, 7, 8, 9, 17, 20] [some 0, none, none, some 1, none, none, none, some 2, some 3, some 4, none, none, none, none, none, none, none, some 5, none, none, some 6, none, none, none, none, none, none, none, none, none, none, none, none, none, none, none, none, none, none, none, none, none, none, none, none, none, none, none, none, none, none, none, none, none, none, none, none, none, none, none, none, none, none, none, none, none, none, none, none, none, none, none, none, none, none, none, none, none, none, none, none, none, none, none, none, none, none, none, none, none, none, none, none, none, none, none, none, none, none, none, none, none, none, none, none, none, none, none, none, none, none, none, none, none, none, none, none, none, none, none, none] C mt_L_55 (c_X8_at _ _ _ _ (x 0) (x 3) (x 7) (x 8) (x 9) (x 17) (x 20) (.int (wI (ci 0))) (.int (wI (ci 1))) (.int (wI (ci 2))) (.ref (x 80)) (.ref (x 79)) (.ref (x 29)) (.ref (x 1)) (.ref (x 23)) (.ref (x 42)) (.ref (x 45)) (.ref (x 19)) (.ref (x 22)) (.int (wI (ci 3))) (.int (wI (ci 4))) (.int (wI (ci 7))) (.ref (x 6)) (.int (wI (ci 8))) (.int (wI (ci 9))) (.int (wI (ci 10))) (.int (wI (ci 11))) (.int (wI (ci 12))) (.int (wI (ci 13))) (.ref (x 4)) (.ref (x 5)) (.ref (x 18)) (.ref (x 21)) (xv xs (i + 1)) (xv xs (i + 2)) (ci 5) (ci 6) (cf 4) (cf 5) (cf 6) (ci 35) (ci 36) 100000 e8) rfl rfl rfl rfl (by decide +kernel) rfl rfl rfl rfl rfl dL_law_593 ?_
  refine g_aload_n 2 C dL_law_596 rfl rfl ?_
  refine g_aload_n 0 C dL_law_597 rfl rfl ?_
  refine g_iload_n 3 C dL_law_598 rfl rfl ?_
  refine g_iconst C dL_law_599 ?_
  refine g_iadd C dL_law_600 ?_
  refine g_sld C S (by omega) dL_law_601 ?_
  refine g_aload_n 0 C dL_law_602 rfl rfl ?_
  refine g_iload_n 3 C dL_law_603 rfl rfl ?_
  refine g_iconst C dL_law_604 ?_
  refine g_iadd C dL_law_605 ?_
  refine g_sld C S (by omega) dL_law_606 ?_
  refine g_setI (q0 := 0) (As := [.int (wI (xv xs (i + 1))), .int (wI (xv xs (i + 2)))]) (ws2 := WW (eCy E) x y (upN (upN (upN (upN (upN (upN ci 35 (v.2.1)) 36 (v.2.2)) 60 (w.2.1)) 68 (w.2.2.1)) 69 (w.2.2.2.1)) 70 (w.2.2.2.2.1)) (upN cf 48 (w.2.2.2.2.2)) cg) (r := (wI (w.1))) [102, 104, 106, 108, 109, 110] [none, none, none, none, none, none, none, none, none, none, none, none, none, none, none, none, none, none, none, none, none, none, none, none, none, none, none, none, none, none, none, none, none, none, none, none, none, none, none, none, none, none, none, none, none, none, none, none, none, none, none, none, none, none, none, none, none, none, none, none, none, none, none, none, none, none, none, none, none, none, none, none, none, none, none, none, none, none, none, none, none, none, none, none, none, none, none, none, none, none, none, none, none, none, none, none, none, none, none, none, none, none, some 0, none, some 1, none, some 2, none, some 3, some 4, some 5, none, none, none, none, none, none, none, none, none, none] C mt_L_58 (c_X9_at _ _ _ _ (y 0) (y 2) (y 4) (y 6) (y 7) (y 8) (.ref (y 11)) (.ref (y 10)) (.ref (y 9)) (.ref (y 18)) (.ref (y 1)) (.int (wI (ci 0))) (.int (wI (ci 61))) (.int (wI (ci 62))) (.int (wI (ci 63))) (.int (wI (ci 64))) (.long (wJ (ci 65))) (.int (wI (ci 66))) (.int (wI (ci 67))) (.int (wI (ci 1))) (.int (wI (ci 2))) (.ref (y 5)) (.ref (y 3)) (.ref (y 17)) (.long (wJ (ci 71))) (.long (wJ (ci 72))) (.int (wI (ci 73))) (.ref (y 12)) (.ref (y 13)) (.ref (y 14)) (.int (wI (ci 74))) (.int (wI (ci 75))) (.long (wJ (ci 76))) (.long (wJ (ci 77))) (.long (wJ (ci 78))) (.long (wJ (ci 79))) (.int (wI (ci 80))) (.ref (y 15)) (.long (wJ (ci 81))) (.ref (y 16)) (.int (wI (ci 82))) (xv xs (i + 1)) (xv xs (i + 2)) (ci 60) (ci 68) (ci 69) (ci 70) (cf 42) (cf 44) (cf 46) (cf 47) (cf 48) 100000 e9) rfl rfl rfl rfl (by decide +kernel) rfl rfl rfl rfl rfl dL_law_607 ?_
  refine g_icmp_eq (X := some ()) (Y := none) (v := ()) 2330 C dL_law_610 rfl (if_pos (by rw [hvw])) (fun _ => ?_) (fun h => nomatch h)
  exact next _ ⟨_, _, _, rfl, R1, R2, R3, R4, R5⟩
theorem case_10 {E : EE} {b Ln : Nat} {xs : Nat → Int32} {x y : Nat → Nat} {i : Int} {ws : va_W} (C : Cx E cL_law RL room_1) (S : Scr E b Ln xs) (hi : 0 ≤ i ∧ i + 6 ≤ (Ln : Int)) (hI : Inv (eCy E) x y ws) (next : ∀ w, Inv (eCy E) x y w → GG E 121 14405 w [some (.ref b), some (.ref (x 0)), some (.ref (y 0)), some (.int (wI i))] 2330 []) : GG E 121 14405 ws [some (.ref b), some (.ref (x 0)), some (.ref (y 0)), some (.int (wI i))] 615 [] := by
  obtain ⟨ci, cf, cg, rfl, R1, R2, R3, R4, R5⟩ := hI
  refine g_aload_n 1 C dL_law_615 rfl rfl ?_
  refine g_aload_n 0 C dL_law_616 rfl rfl ?_
  refine g_iload_n 3 C dL_law_617 rfl rfl ?_
  refine g_iconst C dL_law_618 ?_
  refine g_iadd C dL_law_619 ?_
  refine g_sld C S (by omega) dL_law_620 ?_
  refine g_aload_n 0 C dL_law_621 rfl rfl ?_
  refine g_iload_n 3 C dL_law_622 rfl rfl ?_
  refine g_iconst C dL_law_623 ?_
  refine g_iadd C dL_law_624 ?_
  refine g_sld C S (by omega) dL_law_625 ?_
  obtain ⟨v, w, e8, e9, hvw⟩ : Eq1 (m_X8_on 100000 (xv xs (i + 1)) (xv xs (i + 2)) (ci 5) (ci 6) (cf 4) (cf 5) (cf 6) (ci 35) (ci 36)) (m_X9_on 100000 (xv xs (i + 1)) (xv xs (i + 2)) (ci 68) (ci 69) (ci 70) (cf 42) (cf 44) (cf 46) (cf 47) (cf 48)) := op_on (by decide) R1 (xv_in _ _) (xv_in _ _) _ _ _ _ _ _
  refine g_setI (q0 := 0) (As := [.int (wI (xv xs (i + 1))), .int (wI (xv xs (i + 2)))]) (ws2 := WW (eCy E) x y (upN (upN ci 35 (v.2.1)) 36 (v.2.2)) cf cg) (r := (wI (v.1))) [0, 3, 7, 8, 9, 17, 20] [some 0, none, none, some 1, none, none, none, some 2, some 3, some 4, none, none, none, none, none, none, none, some 5, none, none, some 6, none, none, none, none, none, none, none, none, none, none, none, none, none, none, none, none, none, none, none, none, none, none, none, none, none, none, none, none, none, none, none, none, none, none, none, none, none, none, none, none, none, none, none, none, none, none, none, none, none, none, none, none, none, none, none, none, none, none, none, none, none, none, none, none, none, none, none, none, none, none, none, none, none, none, none, none, none, none, none, none, none, none, none, none, none, none, none, none, none, none, none, none, none, none, none, none, none, none, none, none] C mt_L_59 (c_X8_on _ _ _ _ (x 0) (x 3) (x 7) (x 8) (x 9) (x 17) (x 20) (.int (wI (ci 0))) (.int (wI (ci 1))) (.int (wI (ci 2))) (.ref (x 80)) (.ref (x 79)) (.ref (x 29)) (.ref (x 1)) (.ref (x 23)) (.ref (x 42)) (.ref (x 45)) (.ref (x 19)) (.ref (x 22)) (.int (wI (ci 3))) (.int (wI (ci 4))) (.int (wI (ci 7))) (.ref (x 6)) (.int (wI (ci 8))) (.int (wI (ci 9))) (.int (wI (ci 10))) (.int (wI (ci 11))) (.int (wI (ci 12))) (.int (wI (ci 13))) (.ref (x 4)) (.ref (x 5)) (.ref (x 18)) (.ref (x 21)) (xv xs (i + 1)) (xv xs (i + 2)) (ci 5) (ci 6) (cf 4) (cf 5) (cf 6) (ci 35) (ci 36) 100000 e8) rfl rfl rfl rfl (by decide +kernel) rfl rfl rfl rfl rfl dL_law_626 ?_
  refine g_aload_n 2 C dL_law_629 rfl rfl ?_
  refine g_aload_n 0 C dL_law_630 rfl rfl ?_
  refine g_iload_n 3 C dL_law_631 rfl rfl ?_
  refine g_iconst C dL_law_632 ?_
  refine g_iadd C dL_law_633 ?_
  refine g_sld C S (by omega) dL_law_634 ?_
  refine g_aload_n 0 C dL_law_635 rfl rfl ?_
  refine g_iload_n 3 C dL_law_636 rfl rfl ?_
  refine g_iconst C dL_law_637 ?_
  refine g_iadd C dL_law_638 ?_
  refine g_sld C S (by omega) dL_law_639 ?_
  refine g_setI (q0 := 0) (As := [.int (wI (xv xs (i + 1))), .int (wI (xv xs (i + 2)))]) (ws2 := WW (eCy E) x y (upN (upN (upN (upN (upN (upN ci 35 (v.2.1)) 36 (v.2.2)) 60 (w.2.1)) 68 (w.2.2.1)) 69 (w.2.2.2.1)) 70 (w.2.2.2.2.1)) (upN cf 48 (w.2.2.2.2.2)) cg) (r := (wI (w.1))) [102, 104, 106, 108, 109, 110] [none, none, none, none, none, none, none, none, none, none, none, none, none, none, none, none, none, none, none, none, none, none, none, none, none, none, none, none, none, none, none, none, none, none, none, none, none, none, none, none, none, none, none, none, none, none, none, none, none, none, none, none, none, none, none, none, none, none, none, none, none, none, none, none, none, none, none, none, none, none, none, none, none, none, none, none, none, none, none, none, none, none, none, none, none, none, none, none, none, none, none, none, none, none, none, none, none, none, none, none, none, none, some 0, none, some 1, none, some 2, none, some 3, some 4, some 5, none, none, none, none, none, none, none, none, none, none] C mt_L_62 (c_X9_on _ _ _ _ (y 0) (y 2) (y 4) (y 6) (y 7) (y 8) (.ref (y 11)) (.ref (y 10)) (.ref (y 9)) (.ref (y 18)) (.ref (y 1)) (.int (wI (ci 0))) (.int (wI (ci 61))) (.int (wI (ci 62))) (.int (wI (ci 63))) (.int (wI (ci 64))) (.long (wJ (ci 65))) (.int (wI (ci 66))) (.int (wI (ci 67))) (.int (wI (ci 1))) (.int (wI (ci 2))) (.ref (y 5)) (.ref (y 3)) (.ref (y 17)) (.long (wJ (ci 71))) (.long (wJ (ci 72))) (.int (wI (ci 73))) (.ref (y 12)) (.ref (y 13)) (.ref (y 14)) (.int (wI (ci 74))) (.int (wI (ci 75))) (.long (wJ (ci 76))) (.long (wJ (ci 77))) (.long (wJ (ci 78))) (.long (wJ (ci 79))) (.int (wI (ci 80))) (.ref (y 15)) (.long (wJ (ci 81))) (.ref (y 16)) (.int (wI (ci 82))) (xv xs (i + 1)) (xv xs (i + 2)) (ci 60) (ci 68) (ci 69) (ci 70) (cf 42) (cf 44) (cf 46) (cf 47) (cf 48) 100000 e9) rfl rfl rfl rfl (by decide +kernel) rfl rfl rfl rfl rfl dL_law_640 ?_
  refine g_icmp_eq (X := some ()) (Y := none) (v := ()) 2330 C dL_law_643 rfl (if_pos (by rw [hvw])) (fun _ => ?_) (fun h => nomatch h)
  exact next _ ⟨_, _, _, rfl, R1, R2, R3, R4, R5⟩
theorem case_11 {E : EE} {b Ln : Nat} {xs : Nat → Int32} {x y : Nat → Nat} {i : Int} {ws : va_W} (C : Cx E cL_law RL room_1) (S : Scr E b Ln xs) (hi : 0 ≤ i ∧ i + 6 ≤ (Ln : Int)) (hI : Inv (eCy E) x y ws) (next : ∀ w, Inv (eCy E) x y w → GG E 121 14405 w [some (.ref b), some (.ref (x 0)), some (.ref (y 0)), some (.int (wI i))] 2330 []) : GG E 121 14405 ws [some (.ref b), some (.ref (x 0)), some (.ref (y 0)), some (.int (wI i))] 648 [] := by
  obtain ⟨ci, cf, cg, rfl, R1, R2, R3, R4, R5⟩ := hI
  refine g_aload_n 1 C dL_law_648 rfl rfl ?_
  obtain ⟨v, w, e8, e9, hvw⟩ : Eq1 (m_X8_first 100000 (ci 3) (ci 5) (ci 6) (cf 4) (cf 5) (cf 6) (ci 37) (ci 38) (ci 31) (ci 32)) (m_X9_first 100000 (ci 68) (ci 69) (ci 71) (ci 72) (ci 73) (cf 42) (cf 44) (cf 45) (cf 46) (cf 47) (cf 48)) := op_first (by decide) R1 _ _ _ _ _ _ _ _ _ _
  refine g_setI (q0 := 0) (As := []) (ws2 := WW (eCy E) x y (upN (upN (upN (upN ci 37 (v.2.1)) 38 (v.2.2.1)) 31 (v.2.2.2.1)) 32 (v.2.2.2.2)) cf cg) (r := (wI (v.1))) [0, 3, 7, 8, 9, 17, 21, 18] [some 0, none, none, some 1, none, none, none, some 2, some 3, some 4, none, none, none, none, none, none, none, some 5, some 7, none, none, some 6, none, none, none, none, none, none, none, none, none, none, none, none, none, none, none, none, none, none, none, none, none, none, none, none, none, none, none, none, none, none, none, none, none, none, none, none, none, none, none, none, none, none, none, none, none, none, none, none, none, none, none, none, none, none, none, none, none, none, none, none, none, none, none, none, none, none, none, none, none, none, none, none, none, none, none, none, none, none, none, none, none, none, none, none, none, none, none, none, none, none, none, none, none, none, none, none, none, none, none] C mt_L_63 (c_X8_first _ _ _ _ (x 0) (x 3) (x 7) (x 8) (x 9) (x 17) (x 21) (x 18) (.int (wI (ci 0))) (.int (wI (ci 1))) (.int (wI (ci 2))) (.ref (x 80)) (.ref (x 79)) (.ref (x 29)) (.ref (x 1)) (.ref (x 23)) (.ref (x 42)) (.ref (x 45)) (.ref (x 19)) (.ref (x 22)) (.int (wI (ci 4))) (.int (wI (ci 7))) (.ref (x 6)) (.int (wI (ci 8))) (.int (wI (ci 9))) (.int (wI (ci 10))) (.int (wI (ci 11))) (.int (wI (ci 12))) (.int (wI (ci 13))) (.ref (x 4)) (.ref (x 5)) (.ref (x 20)) (ci 3) (ci 5) (ci 6) (cf 4) (cf 5) (cf 6) (ci 37) (ci 38) (ci 31) (ci 32) 100000 e8) rfl rfl rfl rfl (by decide +kernel) rfl rfl rfl rfl rfl dL_law_649 ?_
  refine g_aload_n 2 C dL_law_652 rfl rfl ?_
  refine g_setI (q0 := 0) (As := []) (ws2 := WW (eCy E) x y (upN (upN (upN (upN (upN (upN (upN (upN (upN (upN ci 37 (v.2.1)) 38 (v.2.2.1)) 31 (v.2.2.2.1)) 32 (v.2.2.2.2)) 60 (w.2.1)) 68 (w.2.2.1)) 69 (w.2.2.2.1)) 71 (w.2.2.2.2.1)) 72 (w.2.2.2.2.2.1)) 73 (w.2.2.2.2.2.2.1)) (upN cf 48 (w.2.2.2.2.2.2.2)) cg) (r := (wI (w.1))) [102, 104, 106, 107, 108, 109, 110] [none, none, none, none, none, none, none, none, none, none, none, none, none, none, none, none, none, none, none, none, none, none, none, none, none, none, none, none, none, none, none, none, none, none, none, none, none, none, none, none, none, none, none, none, none, none, none, none, none, none, none, none, none, none, none, none, none, none, none, none, none, none, none, none, none, none, none, none, none, none, none, none, none, none, none, none, none, none, none, none, none, none, none, none, none, none, none, none, none, none, none, none, none, none, none, none, none, none, none, none, none, none, some 0, none, some 1, none, some 2, some 3, some 4, some 5, some 6, none, none, none, none, none, none, none, none, none, none] C mt_L_66 (c_X9_first _ _ _ _ (y 0) (y 2) (y 4) (y 5) (y 6) (y 7) (y 8) (.ref (y 11)) (.ref (y 10)) (.ref (y 9)) (.ref (y 18)) (.ref (y 1)) (.int (wI (ci 0))) (.int (wI (ci 61))) (.int (wI (ci 62))) (.int (wI (ci 63))) (.int (wI (ci 64))) (.long (wJ (ci 65))) (.int (wI (ci 66))) (.int (wI (ci 67))) (.int (wI (ci 1))) (.int (wI (ci 2))) (.ref (y 3)) (.ref (y 17)) (.int (wI (ci 70))) (.ref (y 12)) (.ref (y 13)) (.ref (y 14)) (.int (wI (ci 74))) (.int (wI (ci 75))) (.long (wJ (ci 76))) (.long (wJ (ci 77))) (.long (wJ (ci 78))) (.long (wJ (ci 79))) (.int (wI (ci 80))) (.ref (y 15)) (.long (wJ (ci 81))) (.ref (y 16)) (.int (wI (ci 82))) (ci 60) (ci 68) (ci 69) (ci 71) (ci 72) (ci 73) (cf 42) (cf 44) (cf 45) (cf 46) (cf 47) (cf 48) 100000 e9) rfl rfl rfl rfl (by decide +kernel) rfl rfl rfl rfl rfl dL_law_653 ?_
  refine g_icmp_eq (X := some ()) (Y := none) (v := ()) 2330 C dL_law_656 rfl (if_pos (by rw [hvw])) (fun _ => ?_) (fun h => nomatch h)
  exact next _ ⟨_, _, _, rfl, R1, R2, R3, R4, R5⟩
theorem case_12 {E : EE} {b Ln : Nat} {xs : Nat → Int32} {x y : Nat → Nat} {i : Int} {ws : va_W} (C : Cx E cL_law RL room_1) (S : Scr E b Ln xs) (hi : 0 ≤ i ∧ i + 6 ≤ (Ln : Int)) (hI : Inv (eCy E) x y ws) (next : ∀ w, Inv (eCy E) x y w → GG E 121 14405 w [some (.ref b), some (.ref (x 0)), some (.ref (y 0)), some (.int (wI i))] 2330 []) : GG E 121 14405 ws [some (.ref b), some (.ref (x 0)), some (.ref (y 0)), some (.int (wI i))] 661 [] := by
  obtain ⟨ci, cf, cg, rfl, R1, R2, R3, R4, R5⟩ := hI
  refine g_aload_n 1 C dL_law_661 rfl rfl ?_
  obtain ⟨v, w, e8, e9, hvw⟩ : Eq1 (m_X8_never 100000 (ci 3) (ci 5) (ci 6) (cf 4) (cf 5) (cf 6) (ci 31) (ci 32)) (m_X9_never 100000 (ci 68) (ci 69) (cf 42) (cf 44) (cf 45) (cf 46) (cf 47) (cf 48)) := op_never (by decide) R1 _ _ _ _ _
  refine g_setI (q0 := 0) (As := []) (ws2 := WW (eCy E) x y (upN (upN ci 31 (v.2.1)) 32 (v.2.2)) cf cg) (r := (wI (v.1))) [0, 3, 7, 8, 9, 17, 18] [some 0, none, none, some 1, none, none, none, some 2, some 3, some 4, none, none, none, none, none, none, none, some 5, some 6, none, none, none, none, none, none, none, none, none, none, none, none, none, none, none, none, none, none, none, none, none, none, none, none, none, none, none, none, none, none, none, none, none, none, none, none, none, none, none, none, none, none, none, none, none, none, none, none, none, none, none, none, none, none, none, none, none, none, none, none, none, none, none, none, none, none, none, none, none, none, none, none, none, none, none, none, none, none, none, none, none, none, none, none, none, none, none, none, none, none, none, none, none, none, none, none, none, none, none, none, none, none] C mt_L_67 (c_X8_never _ _ _ _ (x 0) (x 3) (x 7) (x 8) (x 9) (x 17) (x 18) (.int (wI (ci 0))) (.int (wI (ci 1))) (.int (wI (ci 2))) (.ref (x 80)) (.ref (x 79)) (.ref (x 29)) (.ref (x 1)) (.ref (x 23)) (.ref (x 42)) (.ref (x 45)) (.ref (x 19)) (.ref (x 22)) (.int (wI (ci 4))) (.int (wI (ci 7))) (.ref (x 6)) (.int (wI (ci 8))) (.int (wI (ci 9))) (.int (wI (ci 10))) (.int (wI (ci 11))) (.int (wI (ci 12))) (.int (wI (ci 13))) (.ref (x 4)) (.ref (x 5)) (.ref (x 21)) (.ref (x 20)) (ci 3) (ci 5) (ci 6) (cf 4) (cf 5) (cf 6) (ci 31) (ci 32) 100000 e8) rfl rfl rfl rfl (by decide +kernel) rfl rfl rfl rfl rfl dL_law_662 ?_
  refine g_aload_n 2 C dL_law_665 rfl rfl ?_
  refine g_setI (q0 := 0) (As := []) (ws2 := WW (eCy E) x y (upN (upN (upN (upN (upN ci 31 (v.2.1)) 32 (v.2.2)) 60 (w.2.1)) 68 (w.2.2.1)) 69 (w.2.2.2.1)) (upN cf 48 (w.2.2.2.2)) cg) (r := (wI (w.1))) [102, 104, 106, 107, 108, 109, 110] [none, none, none, none, none, none, none, none, none, none, none, none, none, none, none, none, none, none, none, none, none, none, none, none, none, none, none, none, none, none, none, none, none, none, none, none, none, none, none, none, none, none, none, none, none, none, none, none, none, none, none, none, none, none, none, none, none, none, none, none, none, none, none, none, none, none, none, none, none, none, none, none, none, none, none, none, none, none, none, none, none, none, none, none, none, none, none, none, none, none, none, none, none, none, none, none, none, none, none, none, none, none, some 0, none, some 1, none, some 2, some 3, some 4, some 5, some 6, none, none, none, none, none, none, none, none, none, none] C mt_L_70 (c_X9_never _ _ _ _ (y 0) (y 2) (y 4) (y 5) (y 6) (y 7) (y 8) (.ref (y 11)) (.ref (y 10)) (.ref (y 9)) (.ref (y 18)) (.ref (y 1)) (.int (wI (ci 0))) (.int (wI (ci 61))) (.int (wI (ci 62))) (.int (wI (ci 63))) (.int (wI (ci 64))) (.long (wJ (ci 65))) (.int (wI (ci 66))) (.int (wI (ci 67))) (.int (wI (ci 1))) (.int (wI (ci 2))) (.ref (y 3)) (.ref (y 17)) (.int (wI (ci 70))) (.long (wJ (ci 71))) (.long (wJ (ci 72))) (.int (wI (ci 73))) (.ref (y 12)) (.ref (y 13)) (.ref (y 14)) (.int (wI (ci 74))) (.int (wI (ci 75))) (.long (wJ (ci 76))) (.long (wJ (ci 77))) (.long (wJ (ci 78))) (.long (wJ (ci 79))) (.int (wI (ci 80))) (.ref (y 15)) (.long (wJ (ci 81))) (.ref (y 16)) (.int (wI (ci 82))) (ci 60) (ci 68) (ci 69) (cf 42) (cf 44) (cf 45) (cf 46) (cf 47) (cf 48) 100000 e9) rfl rfl rfl rfl (by decide +kernel) rfl rfl rfl rfl rfl dL_law_666 ?_
  refine g_icmp_eq (X := some ()) (Y := none) (v := ()) 2330 C dL_law_669 rfl (if_pos (by rw [hvw])) (fun _ => ?_) (fun h => nomatch h)
  exact next _ ⟨_, _, _, rfl, R1, R2, R3, R4, R5⟩
theorem case_13 {E : EE} {b Ln : Nat} {xs : Nat → Int32} {x y : Nat → Nat} {i : Int} {ws : va_W} (C : Cx E cL_law RL room_1) (S : Scr E b Ln xs) (hi : 0 ≤ i ∧ i + 6 ≤ (Ln : Int)) (hI : Inv (eCy E) x y ws) (next : ∀ w, Inv (eCy E) x y w → GG E 121 14405 w [some (.ref b), some (.ref (x 0)), some (.ref (y 0)), some (.int (wI i))] 2330 []) : GG E 121 14405 ws [some (.ref b), some (.ref (x 0)), some (.ref (y 0)), some (.int (wI i))] 674 [] := by
  obtain ⟨ci, cf, cg, rfl, R1, R2, R3, R4, R5⟩ := hI
  refine g_aload_n 1 C dL_law_674 rfl rfl ?_
  refine g_aload_n 0 C dL_law_675 rfl rfl ?_
  refine g_iload_n 3 C dL_law_676 rfl rfl ?_
  refine g_iconst C dL_law_677 ?_
  refine g_iadd C dL_law_678 ?_
  refine g_sld C S (by omega) dL_law_679 ?_
  refine g_aload_n 0 C dL_law_680 rfl rfl ?_
  refine g_iload_n 3 C dL_law_681 rfl rfl ?_
  refine g_iconst C dL_law_682 ?_
  refine g_iadd C dL_law_683 ?_
  refine g_sld C S (by omega) dL_law_684 ?_
  refine g_aload_n 0 C dL_law_685 rfl rfl ?_
  refine g_iload_n 3 C dL_law_686 rfl rfl ?_
  refine g_iconst C dL_law_687 ?_
  refine g_iadd C dL_law_688 ?_
  refine g_sld C S (by omega) dL_law_689 ?_
  obtain ⟨v, w, e8, e9, hvw⟩ : Eq1 (m_X8_catches 100000 (xv xs (i + 1)) (xv xs (i + 2)) (xv xs (i + 3)) (ci 39) (ci 40) (ci 5) (ci 6) (cf 4) (cf 5) (cf 6) (ci 31) (ci 32)) (m_X9_catches 100000 (xv xs (i + 1)) (xv xs (i + 2)) (xv xs (i + 3)) (ci 68) (ci 69) (cf 42) (cf 44) (cf 46) (cf 47) (cf 48)) := op_catches (by decide) R1 (xv_in _ _) (xv_in _ _) (xv_in _ _) _ _ _ _ _ _ _
  refine g_setI (q0 := 0) (As := [.int (wI (xv xs (i + 1))), .int (wI (xv xs (i + 2))), .int (wI (xv xs (i + 3)))]) (ws2 := WW (eCy E) x y (upN (upN (upN (upN ci 39 (v.2.1)) 40 (v.2.2.1)) 31 (v.2.2.2.1)) 32 (v.2.2.2.2)) cf cg) (r := (wI (v.1))) [0, 22, 3, 7, 8, 9, 17, 18] [some 0, none, none, some 2, none, none, none, some 3, some 4, some 5, none, none, none, none, none, none, none, some 6, some 7, none, none, none, some 1, none, none, none, none, none, none, none, none, none, none, none, none, none, none, none, none, none, none, none, none, none, none, none, none, none, none, none, none, none, none, none, none, none, none, none, none, none, none, none, none, none, none, none, none, none, none, none, none, none, none, none, none, none, none, none, none, none, none, none, none, none, none, none, none, none, none, none, none, none, none, none, none, none, none, none, none, none, none, none, none, none, none, none, none, none, none, none, none, none, none, none, none, none, none, none, none, none, none] C mt_L_71 (c_X8_catches _ _ _ _ (x 0) (x 22) (x 3) (x 7) (x 8) (x 9) (x 17) (x 18) (.int (wI (ci 0))) (.int (wI (ci 1))) (.int (wI (ci 2))) (.ref (x 80)) (.ref (x 79)) (.ref (x 29)) (.ref (x 1)) (.ref (x 23)) (.ref (x 42)) (.ref (x 45)) (.ref (x 19)) (.int (wI (ci 3))) (.int (wI (ci 4))) (.int (wI (ci 7))) (.ref (x 6)) (.int (wI (ci 8))) (.int (wI (ci 9))) (.int (wI (ci 10))) (.int (wI (ci 11))) (.int (wI (ci 12))) (.int (wI (ci 13))) (.ref (x 4)) (.ref (x 5)) (.ref (x 21)) (.ref (x 20)) (xv xs (i + 1)) (xv xs (i + 2)) (xv xs (i + 3)) (ci 39) (ci 40) (ci 5) (ci 6) (cf 4) (cf 5) (cf 6) (ci 31) (ci 32) 100000 e8) rfl rfl rfl rfl (by decide +kernel) rfl rfl rfl rfl rfl dL_law_690 ?_
  refine g_aload_n 2 C dL_law_693 rfl rfl ?_
  refine g_aload_n 0 C dL_law_694 rfl rfl ?_
  refine g_iload_n 3 C dL_law_695 rfl rfl ?_
  refine g_iconst C dL_law_696 ?_
  refine g_iadd C dL_law_697 ?_
  refine g_sld C S (by omega) dL_law_698 ?_
  refine g_aload_n 0 C dL_law_699 rfl rfl ?_
  refine g_iload_n 3 C dL_law_700 rfl rfl ?_
  refine g_iconst C dL_law_701 ?_
  refine g_iadd C dL_law_702 ?_
  refine g_sld C S (by omega) dL_law_703 ?_
  refine g_aload_n 0 C dL_law_704 rfl rfl ?_
  refine g_iload_n 3 C dL_law_705 rfl rfl ?_
  refine g_iconst C dL_law_706 ?_
  refine g_iadd C dL_law_707 ?_
  refine g_sld C S (by omega) dL_law_708 ?_
  refine g_setI (q0 := 0) (As := [.int (wI (xv xs (i + 1))), .int (wI (xv xs (i + 2))), .int (wI (xv xs (i + 3)))]) (ws2 := WW (eCy E) x y (upN (upN (upN (upN (upN (upN (upN ci 39 (v.2.1)) 40 (v.2.2.1)) 31 (v.2.2.2.1)) 32 (v.2.2.2.2)) 60 (w.2.1)) 68 (w.2.2.1)) 69 (w.2.2.2.1)) (upN cf 48 (w.2.2.2.2)) cg) (r := (wI (w.1))) [102, 104, 106, 108, 109, 110] [none, none, none, none, none, none, none, none, none, none, none, none, none, none, none, none, none, none, none, none, none, none, none, none, none, none, none, none, none, none, none, none, none, none, none, none, none, none, none, none, none, none, none, none, none, none, none, none, none, none, none, none, none, none, none, none, none, none, none, none, none, none, none, none, none, none, none, none, none, none, none, none, none, none, none, none, none, none, none, none, none, none, none, none, none, none, none, none, none, none, none, none, none, none, none, none, none, none, none, none, none, none, some 0, none, some 1, none, some 2, none, some 3, some 4, some 5, none, none, none, none, none, none, none, none, none, none] C mt_L_75 (c_X9_catches _ _ _ _ (y 0) (y 2) (y 4) (y 6) (y 7) (y 8) (.ref (y 11)) (.ref (y 10)) (.ref (y 9)) (.ref (y 18)) (.ref (y 1)) (.int (wI (ci 0))) (.int (wI (ci 61))) (.int (wI (ci 62))) (.int (wI (ci 63))) (.int (wI (ci 64))) (.long (wJ (ci 65))) (.int (wI (ci 66))) (.int (wI (ci 67))) (.int (wI (ci 1))) (.int (wI (ci 2))) (.ref (y 5)) (.ref (y 3)) (.ref (y 17)) (.int (wI (ci 70))) (.long (wJ (ci 71))) (.long (wJ (ci 72))) (.int (wI (ci 73))) (.ref (y 12)) (.ref (y 13)) (.ref (y 14)) (.int (wI (ci 74))) (.int (wI (ci 75))) (.long (wJ (ci 76))) (.long (wJ (ci 77))) (.long (wJ (ci 78))) (.long (wJ (ci 79))) (.int (wI (ci 80))) (.ref (y 15)) (.long (wJ (ci 81))) (.ref (y 16)) (.int (wI (ci 82))) (xv xs (i + 1)) (xv xs (i + 2)) (xv xs (i + 3)) (ci 60) (ci 68) (ci 69) (cf 42) (cf 44) (cf 46) (cf 47) (cf 48) 100000 e9) rfl rfl rfl rfl (by decide +kernel) rfl rfl rfl rfl rfl dL_law_709 ?_
  refine g_icmp_eq (X := some ()) (Y := none) (v := ()) 2330 C dL_law_712 rfl (if_pos (by rw [hvw])) (fun _ => ?_) (fun h => nomatch h)
  exact next _ ⟨_, _, _, rfl, R1, R2, R3, R4, R5⟩
theorem case_14 {E : EE} {b Ln : Nat} {xs : Nat → Int32} {x y : Nat → Nat} {i : Int} {ws : va_W} (C : Cx E cL_law RL room_1) (S : Scr E b Ln xs) (hi : 0 ≤ i ∧ i + 6 ≤ (Ln : Int)) (hI : Inv (eCy E) x y ws) (next : ∀ w, Inv (eCy E) x y w → GG E 121 14405 w [some (.ref b), some (.ref (x 0)), some (.ref (y 0)), some (.int (wI i))] 2330 []) : GG E 121 14405 ws [some (.ref b), some (.ref (x 0)), some (.ref (y 0)), some (.int (wI i))] 717 [] := by
  obtain ⟨ci, cf, cg, rfl, R1, R2, R3, R4, R5⟩ := hI
  refine g_aload_n 1 C dL_law_717 rfl rfl ?_
  refine g_aload_n 0 C dL_law_718 rfl rfl ?_
  refine g_iload_n 3 C dL_law_719 rfl rfl ?_
  refine g_iconst C dL_law_720 ?_
  refine g_iadd C dL_law_721 ?_
  refine g_sld C S (by omega) dL_law_722 ?_
  refine g_aload_n 0 C dL_law_723 rfl rfl ?_
  refine g_iload_n 3 C dL_law_724 rfl rfl ?_
  refine g_iconst C dL_law_725 ?_
  refine g_iadd C dL_law_726 ?_
  refine g_sld C S (by omega) dL_law_727 ?_
  refine g_aload_n 0 C dL_law_728 rfl rfl ?_
  refine g_iload_n 3 C dL_law_729 rfl rfl ?_
  refine g_iconst C dL_law_730 ?_
  refine g_iadd C dL_law_731 ?_
  refine g_sld C S (by omega) dL_law_732 ?_
  obtain ⟨v, w, e8, e9, hvw⟩ : Eq1 (m_X8_lace 100000 (xv xs (i + 1)) (xv xs (i + 2)) (xv xs (i + 3)) (ci 5) (ci 6) (cf 4) (cf 5) (cf 6) (ci 37) (ci 38) (ci 35) (ci 36) (ci 31) (ci 32)) (m_X9_lace 100000 (xv xs (i + 1)) (xv xs (i + 2)) (xv xs (i + 3)) (ci 68) (ci 69) (ci 71) (ci 72) (ci 73) (cf 42) (cf 44) (cf 46) (cf 47) (cf 48)) := op_lace (by decide) R1 (xv_in _ _) (xv_in _ _) (xv_in _ _) _ _ _ _ _ _ _ _ _ _ _ _
  refine g_setJ (q0 := 0) (As := [.int (wI (xv xs (i + 1))), .int (wI (xv xs (i + 2))), .int (wI (xv xs (i + 3)))]) (ws2 := WW (eCy E) x y (upN (upN (upN (upN (upN (upN ci 37 (v.2.1)) 38 (v.2.2.1)) 35 (v.2.2.2.1)) 36 (v.2.2.2.2.1)) 31 (v.2.2.2.2.2.1)) 32 (v.2.2.2.2.2.2)) cf cg) (r := (wJ (v.1))) [0, 3, 7, 8, 9, 17, 21, 20, 18] [some 0, none, none, some 1, none, none, none, some 2, some 3, some 4, none, none, none, none, none, none, none, some 5, some 8, none, some 7, some 6, none, none, none, none, none, none, none, none, none, none, none, none, none, none, none, none, none, none, none, none, none, none, none, none, none, none, none, none, none, none, none, none, none, none, none, none, none, none, none, none, none, none, none, none, none, none, none, none, none, none, none, none, none, none, none, none, none, none, none, none, none, none, none, none, none, none, none, none, none, none, none, none, none, none, none, none, none, none, none, none, none, none, none, none, none, none, none, none, none, none, none, none, none, none, none, none, none, none, none] C mt_L_76 (c_X8_lace _ _ _ _ (x 0) (x 3) (x 7) (x 8) (x 9) (x 17) (x 21) (x 20) (x 18) (.int (wI (ci 0))) (.int (wI (ci 1))) (.int (wI (ci 2))) (.ref (x 80)) (.ref (x 79)) (.ref (x 29)) (.ref (x 1)) (.ref (x 23)) (.ref (x 42)) (.ref (x 45)) (.ref (x 19)) (.ref (x 22)) (.int (wI (ci 3))) (.int (wI (ci 4))) (.int (wI (ci 7))) (.ref (x 6)) (.int (wI (ci 8))) (.int (wI (ci 9))) (.int (wI (ci 10))) (.int (wI (ci 11))) (.int (wI (ci 12))) (.int (wI (ci 13))) (.ref (x 4)) (.ref (x 5)) (xv xs (i + 1)) (xv xs (i + 2)) (xv xs (i + 3)) (ci 5) (ci 6) (cf 4) (cf 5) (cf 6) (ci 37) (ci 38) (ci 35) (ci 36) (ci 31) (ci 32) 100000 e8) rfl rfl rfl rfl (by decide +kernel) rfl rfl rfl rfl rfl dL_law_733 ?_
  refine g_aload_n 2 C dL_law_736 rfl rfl ?_
  refine g_aload_n 0 C dL_law_737 rfl rfl ?_
  refine g_iload_n 3 C dL_law_738 rfl rfl ?_
  refine g_iconst C dL_law_739 ?_
  refine g_iadd C dL_law_740 ?_
  refine g_sld C S (by omega) dL_law_741 ?_
  refine g_aload_n 0 C dL_law_742 rfl rfl ?_
  refine g_iload_n 3 C dL_law_743 rfl rfl ?_
  refine g_iconst C dL_law_744 ?_
  refine g_iadd C dL_law_745 ?_
  refine g_sld C S (by omega) dL_law_746 ?_
  refine g_aload_n 0 C dL_law_747 rfl rfl ?_
  refine g_iload_n 3 C dL_law_748 rfl rfl ?_
  refine g_iconst C dL_law_749 ?_
  refine g_iadd C dL_law_750 ?_
  refine g_sld C S (by omega) dL_law_751 ?_
  refine g_setJ (q0 := 0) (As := [.int (wI (xv xs (i + 1))), .int (wI (xv xs (i + 2))), .int (wI (xv xs (i + 3)))]) (ws2 := WW (eCy E) x y (upN (upN (upN (upN (upN (upN (upN (upN (upN (upN (upN (upN ci 37 (v.2.1)) 38 (v.2.2.1)) 35 (v.2.2.2.1)) 36 (v.2.2.2.2.1)) 31 (v.2.2.2.2.2.1)) 32 (v.2.2.2.2.2.2)) 60 (w.2.1)) 68 (w.2.2.1)) 69 (w.2.2.2.1)) 71 (w.2.2.2.2.1)) 72 (w.2.2.2.2.2.1)) 73 (w.2.2.2.2.2.2.1)) (upN cf 48 (w.2.2.2.2.2.2.2)) cg) (r := (wJ (w.1))) [102, 104, 106, 108, 109, 110] [none, none, none, none, none, none, none, none, none, none, none, none, none, none, none, none, none, none, none, none, none, none, none, none, none, none, none, none, none, none, none, none, none, none, none, none, none, none, none, none, none, none, none, none, none, none, none, none, none, none, none, none, none, none, none, none, none, none, none, none, none, none, none, none, none, none, none, none, none, none, none, none, none, none, none, none, none, none, none, none, none, none, none, none, none, none, none, none, none, none, none, none, none, none, none, none, none, none, none, none, none, none, some 0, none, some 1, none, some 2, none, some 3, some 4, some 5, none, none, none, none, none, none, none, none, none, none] C mt_L_79 (c_X9_lace _ _ _ _ (y 0) (y 2) (y 4) (y 6) (y 7) (y 8) (.ref (y 11)) (.ref (y 10)) (.ref (y 9)) (.ref (y 18)) (.ref (y 1)) (.int (wI (ci 0))) (.int (wI (ci 61))) (.int (wI (ci 62))) (.int (wI (ci 63))) (.int (wI (ci 64))) (.long (wJ (ci 65))) (.int (wI (ci 66))) (.int (wI (ci 67))) (.int (wI (ci 1))) (.int (wI (ci 2))) (.ref (y 5)) (.ref (y 3)) (.ref (y 17)) (.int (wI (ci 70))) (.ref (y 12)) (.ref (y 13)) (.ref (y 14)) (.int (wI (ci 74))) (.int (wI (ci 75))) (.long (wJ (ci 76))) (.long (wJ (ci 77))) (.long (wJ (ci 78))) (.long (wJ (ci 79))) (.int (wI (ci 80))) (.ref (y 15)) (.long (wJ (ci 81))) (.ref (y 16)) (.int (wI (ci 82))) (xv xs (i + 1)) (xv xs (i + 2)) (xv xs (i + 3)) (ci 60) (ci 68) (ci 69) (ci 71) (ci 72) (ci 73) (cf 42) (cf 44) (cf 46) (cf 47) (cf 48) 100000 e9) rfl rfl rfl rfl (by decide +kernel) rfl rfl rfl rfl rfl dL_law_752 ?_
  refine g_lcmp_eq (X := some ()) (Y := none) (v := ()) 2330 C dL_law_755 dL_law_756 rfl (if_pos (by rw [hvw])) (fun _ => ?_) (fun h => nomatch h)
  exact next _ ⟨_, _, _, rfl, R1, R2, R3, R4, R5⟩
theorem case_15 {E : EE} {b Ln : Nat} {xs : Nat → Int32} {x y : Nat → Nat} {i : Int} {ws : va_W} (C : Cx E cL_law RL room_1) (S : Scr E b Ln xs) (hi : 0 ≤ i ∧ i + 6 ≤ (Ln : Int)) (hI : Inv (eCy E) x y ws) (next : ∀ w, Inv (eCy E) x y w → GG E 121 14405 w [some (.ref b), some (.ref (x 0)), some (.ref (y 0)), some (.int (wI i))] 2330 []) : GG E 121 14405 ws [some (.ref b), some (.ref (x 0)), some (.ref (y 0)), some (.int (wI i))] 761 [] := by
  obtain ⟨ci, cf, cg, rfl, R1, R2, R3, R4, R5⟩ := hI
  refine g_aload_n 1 C dL_law_761 rfl rfl ?_
  refine g_aload_n 0 C dL_law_762 rfl rfl ?_
  refine g_iload_n 3 C dL_law_763 rfl rfl ?_
  refine g_iconst C dL_law_764 ?_
  refine g_iadd C dL_law_765 ?_
  refine g_sld C S (by omega) dL_law_766 ?_
  refine g_aload_n 0 C dL_law_767 rfl rfl ?_
  refine g_iload_n 3 C dL_law_768 rfl rfl ?_
  refine g_iconst C dL_law_769 ?_
  refine g_iadd C dL_law_770 ?_
  refine g_sld C S (by omega) dL_law_771 ?_
  obtain ⟨v, w, e8, e9, hvw⟩ : Eq1 (m_X8_ties 100000 (xv xs (i + 1)) (xv xs (i + 2)) (ci 5) (ci 6) (cf 4) (cf 5) (cf 6) (ci 37) (ci 38) (ci 35) (ci 36) (ci 31) (ci 32)) (m_X9_ties 100000 (xv xs (i + 1)) (xv xs (i + 2)) (ci 68) (ci 69) (ci 71) (ci 72) (ci 73) (cf 42) (cf 44) (cf 46) (cf 47) (cf 48)) := op_ties (by decide) R1 (xv_in _ _) (xv_in _ _) _ _ _ _ _ _ _ _ _ _ _ _
  refine g_setI (q0 := 0) (As := [.int (wI (xv xs (i + 1))), .int (wI (xv xs (i + 2)))]) (ws2 := WW (eCy E) x y (upN (upN (upN (upN (upN (upN ci 37 (v.2.1)) 38 (v.2.2.1)) 35 (v.2.2.2.1)) 36 (v.2.2.2.2.1)) 31 (v.2.2.2.2.2.1)) 32 (v.2.2.2.2.2.2)) cf cg) (r := (wI (v.1))) [0, 3, 7, 8, 9, 17, 21, 20, 18] [some 0, none, none, some 1, none, none, none, some 2, some 3, some 4, none, none, none, none, none, none, none, some 5, some 8, none, some 7, some 6, none, none, none, none, none, none, none, none, none, none, none, none, none, none, none, none, none, none, none, none, none, none, none, none, none, none, none, none, none, none, none, none, none, none, none, none, none, none, none, none, none, none, none, none, none, none, none, none, none, none, none, none, none, none, none, none, none, none, none, none, none, none, none, none, none, none, none, none, none, none, none, none, none, none, none, none, none, none, none, none, none, none, none, none, none, none, none, none, none, none, none, none, none, none, none, none, none, none, none] C mt_L_80 (c_X8_ties _ _ _ _ (x 0) (x 3) (x 7) (x 8) (x 9) (x 17) (x 21) (x 20) (x 18) (.int (wI (ci 0))) (.int (wI (ci 1))) (.int (wI (ci 2))) (.ref (x 80)) (.ref (x 79)) (.ref (x 29)) (.ref (x 1)) (.ref (x 23)) (.ref (x 42)) (.ref (x 45)) (.ref (x 19)) (.ref (x 22)) (.int (wI (ci 3))) (.int (wI (ci 4))) (.int (wI (ci 7))) (.ref (x 6)) (.int (wI (ci 8))) (.int (wI (ci 9))) (.int (wI (ci 10))) (.int (wI (ci 11))) (.int (wI (ci 12))) (.int (wI (ci 13))) (.ref (x 4)) (.ref (x 5)) (xv xs (i + 1)) (xv xs (i + 2)) (ci 5) (ci 6) (cf 4) (cf 5) (cf 6) (ci 37) (ci 38) (ci 35) (ci 36) (ci 31) (ci 32) 100000 e8) rfl rfl rfl rfl (by decide +kernel) rfl rfl rfl rfl rfl dL_law_772 ?_
  refine g_aload_n 2 C dL_law_775 rfl rfl ?_
  refine g_aload_n 0 C dL_law_776 rfl rfl ?_
  refine g_iload_n 3 C dL_law_777 rfl rfl ?_
  refine g_iconst C dL_law_778 ?_
  refine g_iadd C dL_law_779 ?_
  refine g_sld C S (by omega) dL_law_780 ?_
  refine g_aload_n 0 C dL_law_781 rfl rfl ?_
  refine g_iload_n 3 C dL_law_782 rfl rfl ?_
  refine g_iconst C dL_law_783 ?_
  refine g_iadd C dL_law_784 ?_
  refine g_sld C S (by omega) dL_law_785 ?_
  refine g_setI (q0 := 0) (As := [.int (wI (xv xs (i + 1))), .int (wI (xv xs (i + 2)))]) (ws2 := WW (eCy E) x y (upN (upN (upN (upN (upN (upN (upN (upN (upN (upN (upN (upN ci 37 (v.2.1)) 38 (v.2.2.1)) 35 (v.2.2.2.1)) 36 (v.2.2.2.2.1)) 31 (v.2.2.2.2.2.1)) 32 (v.2.2.2.2.2.2)) 60 (w.2.1)) 68 (w.2.2.1)) 69 (w.2.2.2.1)) 71 (w.2.2.2.2.1)) 72 (w.2.2.2.2.2.1)) 73 (w.2.2.2.2.2.2.1)) (upN cf 48 (w.2.2.2.2.2.2.2)) cg) (r := (wI (w.1))) [102, 104, 106, 108, 109, 110] [none, none, none, none, none, none, none, none, none, none, none, none, none, none, none, none, none, none, none, none, none, none, none, none, none, none, none, none, none, none, none, none, none, none, none, none, none, none, none, none, none, none, none, none, none, none, none, none, none, none, none, none, none, none, none, none, none, none, none, none, none, none, none, none, none, none, none, none, none, none, none, none, none, none, none, none, none, none, none, none, none, none, none, none, none, none, none, none, none, none, none, none, none, none, none, none, none, none, none, none, none, none, some 0, none, some 1, none, some 2, none, some 3, some 4, some 5, none, none, none, none, none, none, none, none, none, none] C mt_L_83 (c_X9_ties _ _ _ _ (y 0) (y 2) (y 4) (y 6) (y 7) (y 8) (.ref (y 11)) (.ref (y 10)) (.ref (y 9)) (.ref (y 18)) (.ref (y 1)) (.int (wI (ci 0))) (.int (wI (ci 61))) (.int (wI (ci 62))) (.int (wI (ci 63))) (.int (wI (ci 64))) (.long (wJ (ci 65))) (.int (wI (ci 66))) (.int (wI (ci 67))) (.int (wI (ci 1))) (.int (wI (ci 2))) (.ref (y 5)) (.ref (y 3)) (.ref (y 17)) (.int (wI (ci 70))) (.ref (y 12)) (.ref (y 13)) (.ref (y 14)) (.int (wI (ci 74))) (.int (wI (ci 75))) (.long (wJ (ci 76))) (.long (wJ (ci 77))) (.long (wJ (ci 78))) (.long (wJ (ci 79))) (.int (wI (ci 80))) (.ref (y 15)) (.long (wJ (ci 81))) (.ref (y 16)) (.int (wI (ci 82))) (xv xs (i + 1)) (xv xs (i + 2)) (ci 60) (ci 68) (ci 69) (ci 71) (ci 72) (ci 73) (cf 42) (cf 44) (cf 46) (cf 47) (cf 48) 100000 e9) rfl rfl rfl rfl (by decide +kernel) rfl rfl rfl rfl rfl dL_law_786 ?_
  refine g_icmp_eq (X := some ()) (Y := none) (v := ()) 2330 C dL_law_789 rfl (if_pos (by rw [hvw])) (fun _ => ?_) (fun h => nomatch h)
  exact next _ ⟨_, _, _, rfl, R1, R2, R3, R4, R5⟩
