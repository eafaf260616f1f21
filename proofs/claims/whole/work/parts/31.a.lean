def zF : Int → Int := fun _ => 0
theorem oi_X1_1 : Cond.methodLink RX1 1 Lib.objectInit ∈ WL := wl_in (List.mem_of_getElem? (i := 283) (by decide +kernel)) (by decide +kernel)
theorem ip_X1_7 : FldP RX1 7 1 0 .long := ⟨RX1, TX1, 2, tyX1, rfl, by decide, inX1, wl_in (List.mem_of_getElem? (i := 284) (by decide +kernel)) (by decide +kernel), tyX1_ok, nmX1, rfl, by decide +kernel⟩
theorem ip_X1_13 : FldP RX1 13 1 1 .long := ⟨RX1, TX1, 2, tyX1, rfl, by decide, inX1, wl_in (List.mem_of_getElem? (i := 287) (by decide +kernel)) (by decide +kernel), tyX1_ok, nmX1, rfl, by decide +kernel⟩
theorem oi_X5_3 : Cond.methodLink RX5 3 Lib.objectInit ∈ WL := wl_in (List.mem_of_getElem? (i := 450) (by decide +kernel)) (by decide +kernel)
theorem ip_X5_9 : FldP RX5 9 5 0 .boolean := ⟨RX5, TX5, 4, tyX5, rfl, by decide, inX5, wl_in (List.mem_of_getElem? (i := 451) (by decide +kernel)) (by decide +kernel), tyX5_ok, nmX5, rfl, by decide +kernel⟩
theorem ip_X5_15 : FldP RX5 15 5 1 .int := ⟨RX5, TX5, 4, tyX5, rfl, by decide, inX5, wl_in (List.mem_of_getElem? (i := 453) (by decide +kernel)) (by decide +kernel), tyX5_ok, nmX5, rfl, by decide +kernel⟩
theorem ip_X5_19 : FldP RX5 19 5 2 .int := ⟨RX5, TX5, 4, tyX5, rfl, by decide, inX5, wl_in (List.mem_of_getElem? (i := 455) (by decide +kernel)) (by decide +kernel), tyX5_ok, nmX5, rfl, by decide +kernel⟩
theorem ac_long : Cond.arrayClass .long ∈ WL := wl_in (List.mem_of_getElem? (i := 406) (by decide +kernel)) (by decide +kernel)
theorem if_X5_22 : FldF RX5 22 5 3 (.array .long) := ⟨RX5, TX5, 4, tyX5, rfl, by decide, inX5, wl_in (List.mem_of_getElem? (i := 460) (by decide +kernel)) (by decide +kernel), tyX5_ok, nmX5, rfl, rfl, by decide +kernel⟩
theorem oi_X2_3 : Cond.methodLink RX2 3 Lib.objectInit ∈ WL := wl_in (List.mem_of_getElem? (i := 146) (by decide +kernel)) (by decide +kernel)
theorem ip_X2_9 : FldP RX2 9 2 0 .int := ⟨RX2, TX2, 17, tyX2, rfl, by decide, inX2, wl_in (List.mem_of_getElem? (i := 147) (by decide +kernel)) (by decide +kernel), tyX2_ok, nmX2, rfl, by decide +kernel⟩
theorem ip_X2_15 : FldP RX2 15 2 1 .int := ⟨RX2, TX2, 17, tyX2, rfl, by decide, inX2, wl_in (List.mem_of_getElem? (i := 150) (by decide +kernel)) (by decide +kernel), tyX2_ok, nmX2, rfl, by decide +kernel⟩
theorem ip_X2_18 : FldP RX2 18 2 2 .int := ⟨RX2, TX2, 17, tyX2, rfl, by decide, inX2, wl_in (List.mem_of_getElem? (i := 153) (by decide +kernel)) (by decide +kernel), tyX2_ok, nmX2, rfl, by decide +kernel⟩
theorem ac_int : Cond.arrayClass .int ∈ WL := wl_in (List.mem_of_getElem? (i := 229) (by decide +kernel)) (by decide +kernel)
theorem if_X2_21 : FldF RX2 21 2 3 (.array .int) := ⟨RX2, TX2, 17, tyX2, rfl, by decide, inX2, wl_in (List.mem_of_getElem? (i := 157) (by decide +kernel)) (by decide +kernel), tyX2_ok, nmX2, rfl, rfl, by decide +kernel⟩
theorem if_X2_25 : FldF RX2 25 2 4 (.array .int) := ⟨RX2, TX2, 17, tyX2, rfl, by decide, inX2, wl_in (List.mem_of_getElem? (i := 161) (by decide +kernel)) (by decide +kernel), tyX2_ok, nmX2, rfl, rfl, by decide +kernel⟩
theorem ip_X2_28 : FldP RX2 28 2 5 .int := ⟨RX2, TX2, 17, tyX2, rfl, by decide, inX2, wl_in (List.mem_of_getElem? (i := 165) (by decide +kernel)) (by decide +kernel), tyX2_ok, nmX2, rfl, by decide +kernel⟩
theorem if_X2_31 : FldF RX2 31 2 6 (.array .int) := ⟨RX2, TX2, 17, tyX2, rfl, by decide, inX2, wl_in (List.mem_of_getElem? (i := 168) (by decide +kernel)) (by decide +kernel), tyX2_ok, nmX2, rfl, rfl, by decide +kernel⟩
theorem ip_X2_34 : FldP RX2 34 2 7 .int := ⟨RX2, TX2, 17, tyX2, rfl, by decide, inX2, wl_in (List.mem_of_getElem? (i := 171) (by decide +kernel)) (by decide +kernel), tyX2_ok, nmX2, rfl, by decide +kernel⟩
theorem if_X2_37 : FldF RX2 37 2 8 (.array .int) := ⟨RX2, TX2, 17, tyX2, rfl, by decide, inX2, wl_in (List.mem_of_getElem? (i := 175) (by decide +kernel)) (by decide +kernel), tyX2_ok, nmX2, rfl, rfl, by decide +kernel⟩
theorem ip_X2_40 : FldP RX2 40 2 9 .boolean := ⟨RX2, TX2, 17, tyX2, rfl, by decide, inX2, wl_in (List.mem_of_getElem? (i := 178) (by decide +kernel)) (by decide +kernel), tyX2_ok, nmX2, rfl, by decide +kernel⟩
theorem ip_X2_44 : FldP RX2 44 2 10 .int := ⟨RX2, TX2, 17, tyX2, rfl, by decide, inX2, wl_in (List.mem_of_getElem? (i := 181) (by decide +kernel)) (by decide +kernel), tyX2_ok, nmX2, rfl, by decide +kernel⟩
theorem ip_X2_47 : FldP RX2 47 2 11 .int := ⟨RX2, TX2, 17, tyX2, rfl, by decide, inX2, wl_in (List.mem_of_getElem? (i := 183) (by decide +kernel)) (by decide +kernel), tyX2_ok, nmX2, rfl, by decide +kernel⟩
theorem ip_X2_50 : FldP RX2 50 2 12 .int := ⟨RX2, TX2, 17, tyX2, rfl, by decide, inX2, wl_in (List.mem_of_getElem? (i := 185) (by decide +kernel)) (by decide +kernel), tyX2_ok, nmX2, rfl, by decide +kernel⟩
theorem ip_X2_53 : FldP RX2 53 2 13 .int := ⟨RX2, TX2, 17, tyX2, rfl, by decide, inX2, wl_in (List.mem_of_getElem? (i := 187) (by decide +kernel)) (by decide +kernel), tyX2_ok, nmX2, rfl, by decide +kernel⟩
theorem ip_X2_56 : FldP RX2 56 2 14 .int := ⟨RX2, TX2, 17, tyX2, rfl, by decide, inX2, wl_in (List.mem_of_getElem? (i := 190) (by decide +kernel)) (by decide +kernel), tyX2_ok, nmX2, rfl, by decide +kernel⟩
theorem if_X2_59 : FldF RX2 59 2 15 (.array .int) := ⟨RX2, TX2, 17, tyX2, rfl, by decide, inX2, wl_in (List.mem_of_getElem? (i := 192) (by decide +kernel)) (by decide +kernel), tyX2_ok, nmX2, rfl, rfl, by decide +kernel⟩
theorem if_X2_62 : FldF RX2 62 2 16 (.array .int) := ⟨RX2, TX2, 17, tyX2, rfl, by decide, inX2, wl_in (List.mem_of_getElem? (i := 193) (by decide +kernel)) (by decide +kernel), tyX2_ok, nmX2, rfl, rfl, by decide +kernel⟩
theorem oi_X3_5 : Cond.methodLink RX3 5 Lib.objectInit ∈ WL := wl_in (List.mem_of_getElem? (i := 372) (by decide +kernel)) (by decide +kernel)
theorem ip_X3_11 : FldP RX3 11 3 0 .boolean := ⟨RX3, TX3, 9, tyX3, rfl, by decide, inX3, wl_in (List.mem_of_getElem? (i := 373) (by decide +kernel)) (by decide +kernel), tyX3_ok, nmX3, rfl, by decide +kernel⟩
theorem ip_X3_15 : FldP RX3 15 3 1 .long := ⟨RX3, TX3, 9, tyX3, rfl, by decide, inX3, wl_in (List.mem_of_getElem? (i := 375) (by decide +kernel)) (by decide +kernel), tyX3_ok, nmX3, rfl, by decide +kernel⟩
theorem ip_X3_19 : FldP RX3 19 3 2 .int := ⟨RX3, TX3, 9, tyX3, rfl, by decide, inX3, wl_in (List.mem_of_getElem? (i := 377) (by decide +kernel)) (by decide +kernel), tyX3_ok, nmX3, rfl, by decide +kernel⟩
theorem ip_X3_23 : FldP RX3 23 3 3 .long := ⟨RX3, TX3, 9, tyX3, rfl, by decide, inX3, wl_in (List.mem_of_getElem? (i := 379) (by decide +kernel)) (by decide +kernel), tyX3_ok, nmX3, rfl, by decide +kernel⟩
theorem ip_X3_26 : FldP RX3 26 3 4 .long := ⟨RX3, TX3, 9, tyX3, rfl, by decide, inX3, wl_in (List.mem_of_getElem? (i := 381) (by decide +kernel)) (by decide +kernel), tyX3_ok, nmX3, rfl, by decide +kernel⟩
theorem ip_X3_29 : FldP RX3 29 3 5 .int := ⟨RX3, TX3, 9, tyX3, rfl, by decide, inX3, wl_in (List.mem_of_getElem? (i := 383) (by decide +kernel)) (by decide +kernel), tyX3_ok, nmX3, rfl, by decide +kernel⟩
theorem ip_X3_32 : FldP RX3 32 3 6 .long := ⟨RX3, TX3, 9, tyX3, rfl, by decide, inX3, wl_in (List.mem_of_getElem? (i := 384) (by decide +kernel)) (by decide +kernel), tyX3_ok, nmX3, rfl, by decide +kernel⟩
theorem if_X3_35 : FldF RX3 35 3 7 (.array .long) := ⟨RX3, TX3, 9, tyX3, rfl, by decide, inX3, wl_in (List.mem_of_getElem? (i := 385) (by decide +kernel)) (by decide +kernel), tyX3_ok, nmX3, rfl, rfl, by decide +kernel⟩
theorem if_X3_39 : FldF RX3 39 3 8 (.array .long) := ⟨RX3, TX3, 9, tyX3, rfl, by decide, inX3, wl_in (List.mem_of_getElem? (i := 386) (by decide +kernel)) (by decide +kernel), tyX3_ok, nmX3, rfl, rfl, by decide +kernel⟩
theorem oi_X0_3 : Cond.methodLink RX0 3 Lib.objectInit ∈ WL := wl_in (List.mem_of_getElem? (i := 312) (by decide +kernel)) (by decide +kernel)
theorem ip_X0_9 : FldP RX0 9 0 0 .int := ⟨RX0, TX0, 16, tyX0, rfl, by decide, inX0, wl_in (List.mem_of_getElem? (i := 313) (by decide +kernel)) (by decide +kernel), tyX0_ok, nmX0, rfl, by decide +kernel⟩
theorem ip_X0_15 : FldP RX0 15 0 1 .int := ⟨RX0, TX0, 16, tyX0, rfl, by decide, inX0, wl_in (List.mem_of_getElem? (i := 315) (by decide +kernel)) (by decide +kernel), tyX0_ok, nmX0, rfl, by decide +kernel⟩
theorem ip_X0_18 : FldP RX0 18 0 2 .int := ⟨RX0, TX0, 16, tyX0, rfl, by decide, inX0, wl_in (List.mem_of_getElem? (i := 317) (by decide +kernel)) (by decide +kernel), tyX0_ok, nmX0, rfl, by decide +kernel⟩
theorem ip_X0_21 : FldP RX0 21 0 3 .int := ⟨RX0, TX0, 16, tyX0, rfl, by decide, inX0, wl_in (List.mem_of_getElem? (i := 319) (by decide +kernel)) (by decide +kernel), tyX0_ok, nmX0, rfl, by decide +kernel⟩
theorem ip_X0_24 : FldP RX0 24 0 4 .int := ⟨RX0, TX0, 16, tyX0, rfl, by decide, inX0, wl_in (List.mem_of_getElem? (i := 321) (by decide +kernel)) (by decide +kernel), tyX0_ok, nmX0, rfl, by decide +kernel⟩
theorem if_X0_27 : FldF RX0 27 0 5 (.array .int) := ⟨RX0, TX0, 16, tyX0, rfl, by decide, inX0, wl_in (List.mem_of_getElem? (i := 323) (by decide +kernel)) (by decide +kernel), tyX0_ok, nmX0, rfl, rfl, by decide +kernel⟩
theorem if_X0_31 : FldF RX0 31 0 6 (.array .int) := ⟨RX0, TX0, 16, tyX0, rfl, by decide, inX0, wl_in (List.mem_of_getElem? (i := 324) (by decide +kernel)) (by decide +kernel), tyX0_ok, nmX0, rfl, rfl, by decide +kernel⟩
theorem if_X0_34 : FldF RX0 34 0 7 (.array .int) := ⟨RX0, TX0, 16, tyX0, rfl, by decide, inX0, wl_in (List.mem_of_getElem? (i := 325) (by decide +kernel)) (by decide +kernel), tyX0_ok, nmX0, rfl, rfl, by decide +kernel⟩
theorem if_X0_37 : FldF RX0 37 0 8 (.array .int) := ⟨RX0, TX0, 16, tyX0, rfl, by decide, inX0, wl_in (List.mem_of_getElem? (i := 326) (by decide +kernel)) (by decide +kernel), tyX0_ok, nmX0, rfl, rfl, by decide +kernel⟩
theorem if_X0_40 : FldF RX0 40 0 9 (.array .int) := ⟨RX0, TX0, 16, tyX0, rfl, by decide, inX0, wl_in (List.mem_of_getElem? (i := 327) (by decide +kernel)) (by decide +kernel), tyX0_ok, nmX0, rfl, rfl, by decide +kernel⟩
theorem if_X0_43 : FldF RX0 43 0 10 (.array .int) := ⟨RX0, TX0, 16, tyX0, rfl, by decide, inX0, wl_in (List.mem_of_getElem? (i := 328) (by decide +kernel)) (by decide +kernel), tyX0_ok, nmX0, rfl, rfl, by decide +kernel⟩
theorem if_X0_46 : FldF RX0 46 0 11 (.array .int) := ⟨RX0, TX0, 16, tyX0, rfl, by decide, inX0, wl_in (List.mem_of_getElem? (i := 329) (by decide +kernel)) (by decide +kernel), tyX0_ok, nmX0, rfl, rfl, by decide +kernel⟩
theorem if_X0_49 : FldF RX0 49 0 12 (.array .int) := ⟨RX0, TX0, 16, tyX0, rfl, by decide, inX0, wl_in (List.mem_of_getElem? (i := 330) (by decide +kernel)) (by decide +kernel), tyX0_ok, nmX0, rfl, rfl, by decide +kernel⟩
theorem if_X0_52 : FldF RX0 52 0 13 (.array .int) := ⟨RX0, TX0, 16, tyX0, rfl, by decide, inX0, wl_in (List.mem_of_getElem? (i := 331) (by decide +kernel)) (by decide +kernel), tyX0_ok, nmX0, rfl, rfl, by decide +kernel⟩
theorem ip_X0_55 : FldP RX0 55 0 14 .int := ⟨RX0, TX0, 16, tyX0, rfl, by decide, inX0, wl_in (List.mem_of_getElem? (i := 332) (by decide +kernel)) (by decide +kernel), tyX0_ok, nmX0, rfl, by decide +kernel⟩
theorem ip_X0_58 : FldP RX0 58 0 15 .int := ⟨RX0, TX0, 16, tyX0, rfl, by decide, inX0, wl_in (List.mem_of_getElem? (i := 333) (by decide +kernel)) (by decide +kernel), tyX0_ok, nmX0, rfl, by decide +kernel⟩
theorem oi_X4_3 : Cond.methodLink RX4 3 Lib.objectInit ∈ WL := wl_in (List.mem_of_getElem? (i := 238) (by decide +kernel)) (by decide +kernel)
theorem ip_X4_9 : FldP RX4 9 4 0 .int := ⟨RX4, TX4, 8, tyX4, rfl, by decide, inX4, wl_in (List.mem_of_getElem? (i := 241) (by decide +kernel)) (by decide +kernel), tyX4_ok, nmX4, rfl, by decide +kernel⟩
theorem ip_X4_15 : FldP RX4 15 4 1 .int := ⟨RX4, TX4, 8, tyX4, rfl, by decide, inX4, wl_in (List.mem_of_getElem? (i := 243) (by decide +kernel)) (by decide +kernel), tyX4_ok, nmX4, rfl, by decide +kernel⟩
theorem ac_byte : Cond.arrayClass .byte ∈ WL := wl_in (List.mem_of_getElem? (i := 271) (by decide +kernel)) (by decide +kernel)
theorem if_X4_18 : FldF RX4 18 4 2 (.array .byte) := ⟨RX4, TX4, 8, tyX4, rfl, by decide, inX4, wl_in (List.mem_of_getElem? (i := 245) (by decide +kernel)) (by decide +kernel), tyX4_ok, nmX4, rfl, rfl, by decide +kernel⟩
theorem nw_X4_22 : NewW RX4 22 2 17 [.int (wI 0), .int (wI 0), .int (wI 0), .null, .null, .int (wI 0), .null, .int (wI 0), .null, .int (wI 0), .int (wI 0), .int (wI 0), .int (wI 0), .int (wI 0), .int (wI 0), .null, .null] := ⟨RX2, TX2, tyX2, rfl, inX2, tyX2_ok, wl_in (List.mem_of_getElem? (i := 239) (by decide +kernel)) (by decide +kernel), wl_in (List.mem_of_getElem? (i := 142) (by decide +kernel)) (by decide +kernel), wl_in (List.mem_of_getElem? (i := 115) (by decide +kernel)) (by decide +kernel), by decide +kernel⟩
theorem mbi_X2 (own : String) : MtB own yX2_init cX2_init 1 none 0 := ⟨wl_in (List.mem_of_getElem? (i := 145) (by decide +kernel)) (by decide +kernel), wl_in (List.mem_of_getElem? (i := 115) (by decide +kernel)) (by decide +kernel), by decide, by decide, by decide +kernel⟩
theorem ini_X2 : Cond.instanceMethod yX2_init ∈ WL := wl_in (List.mem_of_getElem? (i := 144) (by decide +kernel)) (by decide +kernel)
theorem nst_X4_24 : Cond.methodLinkNest RX4 24 yX2_init RX8 ∈ nestL := by decide +kernel
theorem if_X4_25 : FldF RX4 25 4 3 (.object "MovingStair$Layout") := ⟨RX4, TX4, 8, tyX4, rfl, by decide, inX4, wl_in (List.mem_of_getElem? (i := 247) (by decide +kernel)) (by decide +kernel), tyX4_ok, nmX4, rfl, rfl, by decide +kernel⟩
theorem ip_X4_29 : FldP RX4 29 4 4 .int := ⟨RX4, TX4, 8, tyX4, rfl, by decide, inX4, wl_in (List.mem_of_getElem? (i := 249) (by decide +kernel)) (by decide +kernel), tyX4_ok, nmX4, rfl, by decide +kernel⟩
theorem ip_X4_32 : FldP RX4 32 4 5 .int := ⟨RX4, TX4, 8, tyX4, rfl, by decide, inX4, wl_in (List.mem_of_getElem? (i := 250) (by decide +kernel)) (by decide +kernel), tyX4_ok, nmX4, rfl, by decide +kernel⟩
theorem ip_X4_35 : FldP RX4 35 4 6 .int := ⟨RX4, TX4, 8, tyX4, rfl, by decide, inX4, wl_in (List.mem_of_getElem? (i := 251) (by decide +kernel)) (by decide +kernel), tyX4_ok, nmX4, rfl, by decide +kernel⟩
theorem ip_X4_38 : FldP RX4 38 4 7 .int := ⟨RX4, TX4, 8, tyX4, rfl, by decide, inX4, wl_in (List.mem_of_getElem? (i := 252) (by decide +kernel)) (by decide +kernel), tyX4_ok, nmX4, rfl, by decide +kernel⟩
theorem oi_X6_3 : Cond.methodLink RX6 3 Lib.objectInit ∈ WL := wl_in (List.mem_of_getElem? (i := 277) (by decide +kernel)) (by decide +kernel)
theorem nw_X6_9 : NewW RX6 9 1 2 [.long (wJ 0), .long (wJ 0)] := ⟨RX1, TX1, tyX1, rfl, inX1, tyX1_ok, wl_in (List.mem_of_getElem? (i := 278) (by decide +kernel)) (by decide +kernel), wl_in (List.mem_of_getElem? (i := 279) (by decide +kernel)) (by decide +kernel), wl_in (List.mem_of_getElem? (i := 118) (by decide +kernel)) (by decide +kernel), by decide +kernel⟩
theorem mbi_X1 (own : String) : MtB own yX1_init cX1_init 1 none 0 := ⟨wl_in (List.mem_of_getElem? (i := 282) (by decide +kernel)) (by decide +kernel), wl_in (List.mem_of_getElem? (i := 118) (by decide +kernel)) (by decide +kernel), by decide, by decide, by decide +kernel⟩
theorem ini_X1 : Cond.instanceMethod yX1_init ∈ WL := wl_in (List.mem_of_getElem? (i := 281) (by decide +kernel)) (by decide +kernel)
theorem nst_X6_11 : Cond.methodLinkNest RX6 11 yX1_init RX8 ∈ nestL := by decide +kernel
theorem if_X6_12 : FldF RX6 12 6 0 (.object "MovingStair$Fraction") := ⟨RX6, TX6, 3, tyX6, rfl, by decide, inX6, wl_in (List.mem_of_getElem? (i := 295) (by decide +kernel)) (by decide +kernel), tyX6_ok, nmX6, rfl, rfl, by decide +kernel⟩
theorem if_X6_18 : FldF RX6 18 6 1 (.object "MovingStair$Fraction") := ⟨RX6, TX6, 3, tyX6, rfl, by decide, inX6, wl_in (List.mem_of_getElem? (i := 297) (by decide +kernel)) (by decide +kernel), tyX6_ok, nmX6, rfl, rfl, by decide +kernel⟩
theorem if_X6_21 : FldF RX6 21 6 2 (.object "MovingStair$Fraction") := ⟨RX6, TX6, 3, tyX6, rfl, by decide, inX6, wl_in (List.mem_of_getElem? (i := 299) (by decide +kernel)) (by decide +kernel), tyX6_ok, nmX6, rfl, rfl, by decide +kernel⟩
theorem oi_X9_1 : Cond.methodLink RX9 1 Lib.objectInit ∈ WL := wl_in (List.mem_of_getElem? (i := 1288) (by decide +kernel)) (by decide +kernel)
theorem if_X9_7 : FldF RX9 7 9 1 (.array .int) := ⟨RX9, TX9, 44, tyX9, rfl, by decide, inX9, wl_in (List.mem_of_getElem? (i := 1290) (by decide +kernel)) (by decide +kernel), tyX9_ok, nmX9, rfl, rfl, by decide +kernel⟩
theorem if_X9_13 : FldF RX9 13 9 2 (.array .int) := ⟨RX9, TX9, 44, tyX9, rfl, by decide, inX9, wl_in (List.mem_of_getElem? (i := 1291) (by decide +kernel)) (by decide +kernel), tyX9_ok, nmX9, rfl, rfl, by decide +kernel⟩
theorem if_X9_16 : FldF RX9 16 9 3 (.array .long) := ⟨RX9, TX9, 44, tyX9, rfl, by decide, inX9, wl_in (List.mem_of_getElem? (i := 1292) (by decide +kernel)) (by decide +kernel), tyX9_ok, nmX9, rfl, rfl, by decide +kernel⟩
theorem if_X9_20 : FldF RX9 20 9 4 (.array .long) := ⟨RX9, TX9, 44, tyX9, rfl, by decide, inX9, wl_in (List.mem_of_getElem? (i := 1293) (by decide +kernel)) (by decide +kernel), tyX9_ok, nmX9, rfl, rfl, by decide +kernel⟩
theorem if_X9_23 : FldF RX9 23 9 5 (.array .byte) := ⟨RX9, TX9, 44, tyX9, rfl, by decide, inX9, wl_in (List.mem_of_getElem? (i := 1294) (by decide +kernel)) (by decide +kernel), tyX9_ok, nmX9, rfl, rfl, by decide +kernel⟩
theorem ip_X9_27 : FldP RX9 27 9 15 .int := ⟨RX9, TX9, 44, tyX9, rfl, by decide, inX9, wl_in (List.mem_of_getElem? (i := 1304) (by decide +kernel)) (by decide +kernel), tyX9_ok, nmX9, rfl, by decide +kernel⟩
theorem if_X9_31 : FldF RX9 31 9 16 (.array .int) := ⟨RX9, TX9, 44, tyX9, rfl, by decide, inX9, wl_in (List.mem_of_getElem? (i := 1305) (by decide +kernel)) (by decide +kernel), tyX9_ok, nmX9, rfl, rfl, by decide +kernel⟩
theorem if_X9_34 : FldF RX9 34 9 17 (.array .int) := ⟨RX9, TX9, 44, tyX9, rfl, by decide, inX9, wl_in (List.mem_of_getElem? (i := 1306) (by decide +kernel)) (by decide +kernel), tyX9_ok, nmX9, rfl, rfl, by decide +kernel⟩
theorem if_X9_37 : FldF RX9 37 9 18 (.array .int) := ⟨RX9, TX9, 44, tyX9, rfl, by decide, inX9, wl_in (List.mem_of_getElem? (i := 1307) (by decide +kernel)) (by decide +kernel), tyX9_ok, nmX9, rfl, rfl, by decide +kernel⟩
theorem if_X9_40 : FldF RX9 40 9 19 (.array .int) := ⟨RX9, TX9, 44, tyX9, rfl, by decide, inX9, wl_in (List.mem_of_getElem? (i := 1308) (by decide +kernel)) (by decide +kernel), tyX9_ok, nmX9, rfl, rfl, by decide +kernel⟩
theorem if_X9_43 : FldF RX9 43 9 20 (.array .int) := ⟨RX9, TX9, 44, tyX9, rfl, by decide, inX9, wl_in (List.mem_of_getElem? (i := 1309) (by decide +kernel)) (by decide +kernel), tyX9_ok, nmX9, rfl, rfl, by decide +kernel⟩
theorem if_X9_46 : FldF RX9 46 9 21 (.array .int) := ⟨RX9, TX9, 44, tyX9, rfl, by decide, inX9, wl_in (List.mem_of_getElem? (i := 1310) (by decide +kernel)) (by decide +kernel), tyX9_ok, nmX9, rfl, rfl, by decide +kernel⟩
theorem ac_boolean : Cond.arrayClass .boolean ∈ WL := wl_in (List.mem_of_getElem? (i := 270) (by decide +kernel)) (by decide +kernel)
theorem if_X9_49 : FldF RX9 49 9 22 (.array .boolean) := ⟨RX9, TX9, 44, tyX9, rfl, by decide, inX9, wl_in (List.mem_of_getElem? (i := 1311) (by decide +kernel)) (by decide +kernel), tyX9_ok, nmX9, rfl, rfl, by decide +kernel⟩
theorem if_X9_53 : FldF RX9 53 9 23 (.array .int) := ⟨RX9, TX9, 44, tyX9, rfl, by decide, inX9, wl_in (List.mem_of_getElem? (i := 1312) (by decide +kernel)) (by decide +kernel), tyX9_ok, nmX9, rfl, rfl, by decide +kernel⟩
theorem if_X9_56 : FldF RX9 56 9 30 (.array .boolean) := ⟨RX9, TX9, 44, tyX9, rfl, by decide, inX9, wl_in (List.mem_of_getElem? (i := 1319) (by decide +kernel)) (by decide +kernel), tyX9_ok, nmX9, rfl, rfl, by decide +kernel⟩
theorem if_X9_59 : FldF RX9 59 9 31 (.array .int) := ⟨RX9, TX9, 44, tyX9, rfl, by decide, inX9, wl_in (List.mem_of_getElem? (i := 1320) (by decide +kernel)) (by decide +kernel), tyX9_ok, nmX9, rfl, rfl, by decide +kernel⟩
theorem if_X9_62 : FldF RX9 62 9 32 (.array .boolean) := ⟨RX9, TX9, 44, tyX9, rfl, by decide, inX9, wl_in (List.mem_of_getElem? (i := 1321) (by decide +kernel)) (by decide +kernel), tyX9_ok, nmX9, rfl, rfl, by decide +kernel⟩
theorem if_X9_65 : FldF RX9 65 9 40 (.array .long) := ⟨RX9, TX9, 44, tyX9, rfl, by decide, inX9, wl_in (List.mem_of_getElem? (i := 1329) (by decide +kernel)) (by decide +kernel), tyX9_ok, nmX9, rfl, rfl, by decide +kernel⟩
theorem if_X9_68 : FldF RX9 68 9 42 (.array .int) := ⟨RX9, TX9, 44, tyX9, rfl, by decide, inX9, wl_in (List.mem_of_getElem? (i := 1331) (by decide +kernel)) (by decide +kernel), tyX9_ok, nmX9, rfl, rfl, by decide +kernel⟩
theorem ig_X9_7 : FldG RX9 7 9 1 := ⟨RX9, TX9, 44, rfl, by decide, inX9, wl_in (List.mem_of_getElem? (i := 1290) (by decide +kernel)) (by decide +kernel)⟩
theorem i_X1 (l : Launch) (D : va_G) (cy : Nat → ClassId) (ad : AD) (o : Nat) : Ci l yX1_init cX1_init 1 { frames := 1, cells := 0, slots := 0, locals := 12 } D cy ad [.ref o] [(o, .inr (1, [.long (wJ 0), .long (wJ 0)]))] XT (fun w1 => w1 = [(o, .inr (1, [.long (wJ 0), .long (wJ 1)]))]) := by
  refine Ci.intro (j := 0) (by decide +kernel) rfl rfl rfl (fun E C e1 e2 e3 e4 e5 hin hX fin => ?_)
  refine g_aload_n 0 C dX1_init_0 rfl rfl ?_
  refine g_objInit C oi_X1_1 ⟨rfl, rfl⟩ dX1_init_1 ?_
  refine g_aload_n 0 C dX1_init_4 rfl rfl ?_
  refine g_lconst (x := 0) C dX1_init_5 rfl ?_
  refine g_put (ws' := [(o, .inr (1, [.long (wJ 0), .long (wJ 0)]))]) C ip_X1_7 0 rfl (by decide +kernel) (by decide +kernel) rfl rfl dX1_init_6 ?_
  refine g_aload_n 0 C dX1_init_9 rfl rfl ?_
  refine g_lconst (x := 1) C dX1_init_10 rfl ?_
  refine g_put (ws' := [(o, .inr (1, [.long (wJ 0), .long (wJ 1)]))]) C ip_X1_13 0 rfl (by decide +kernel) (by decide +kernel) rfl rfl dX1_init_11 ?_
  exact fin 14 _ _ rfl dX1_init_14
theorem i_X5 (l : Launch) (D : va_G) (cy : Nat → ClassId) (ad : AD) (o : Nat) : Ci l yX5_init cX5_init 1 { frames := 1, cells := 1, slots := 60, locals := 12 } D cy ad [.ref o] [(o, .inr (5, [.int (wI 0), .int (wI 0), .int (wI 0), .null]))] XT (fun w1 => ∃ q1 : Nat, w1 = [(o, .inr (5, [.int (wI 0), .int (wI 0), .int (wI 0), .ref q1])), (q1, .inl (cy 2, 60, .inr (.inl (aJ zF))))]) := by
  refine Ci.intro (j := 0) (by decide +kernel) rfl rfl rfl (fun E C e1 e2 e3 e4 e5 hin hX fin => ?_)
  refine g_aload_n 0 C dX5_init_0 rfl rfl ?_
  refine g_objInit C oi_X5_3 ⟨rfl, rfl⟩ dX5_init_1 ?_
  refine g_aload_n 0 C dX5_init_4 rfl rfl ?_
  refine g_iconst C dX5_init_5 ?_
  refine g_put (ws' := [(o, .inr (5, [.int (wI 0), .int (wI 0), .int (wI 0), .null]))]) C ip_X5_9 0 rfl (by decide +kernel) (by decide +kernel) rfl rfl dX5_init_6 ?_
  refine g_aload_n 0 C dX5_init_9 rfl rfl ?_
  refine g_iconst C dX5_init_10 ?_
  refine g_put (ws' := [(o, .inr (5, [.int (wI 0), .int (wI 0), .int (wI 0), .null]))]) C ip_X5_15 0 rfl (by decide +kernel) (by decide +kernel) rfl rfl dX5_init_11 ?_
  refine g_aload_n 0 C dX5_init_14 rfl rfl ?_
  refine g_iconst C dX5_init_15 ?_
  refine g_put (ws' := [(o, .inr (5, [.int (wI 0), .int (wI 0), .int (wI 0), .null]))]) C ip_X5_19 0 rfl (by decide +kernel) (by decide +kernel) rfl rfl dX5_init_16 ?_
  refine g_aload_n 0 C dX5_init_19 rfl rfl ?_
  refine g_bipush C dX5_init_20 rfl ?_
  refine g_newarr (atype := .long) (ty := .long) (a0 := (60, .inr (.inl (aJ zF)))) 2 C rfl rfl ac_long (fun _ => rfl) (by decide) rfl (by decide) ⟨rfl, rfl⟩ dX5_init_22 (fun q1 => ?_)
  rw [e3]
  refine g_putF (ws' := [(o, .inr (5, [.int (wI 0), .int (wI 0), .int (wI 0), .ref q1])), (q1, .inl (cy 2, 60, .inr (.inl (aJ zF))))]) C hin if_X5_22 0 rfl rfl rfl rfl rfl dX5_init_24 ?_
  exact fin 27 _ _ ⟨q1, rfl⟩ dX5_init_27
theorem i_X2 (l : Launch) (D : va_G) (cy : Nat → ClassId) (ad : AD) (o : Nat) : Ci l yX2_init cX2_init 1 { frames := 1, cells := 6, slots := 140, locals := 12 } D cy ad [.ref o] [(o, .inr (2, [.int (wI 0), .int (wI 0), .int (wI 0), .null, .null, .int (wI 0), .null, .int (wI 0), .null, .int (wI 0), .int (wI 0), .int (wI 0), .int (wI 0), .int (wI 0), .int (wI 0), .null, .null]))] XT (fun w1 => ∃ q1 q2 q3 q4 q5 q6 : Nat, w1 = [(o, .inr (2, [.int (wI 0), .int (wI 0), .int (wI 0), .ref q1, .ref q2, .int (wI 0), .ref q3, .int (wI 0), .ref q4, .int (wI 0), .int (wI 1), .int (wI 1), .int (wI 1), .int (wI 0), .int (wI 0), .ref q5, .ref q6])), (q1, .inl (cy 1, 4, .inl (aI zF))), (q2, .inl (cy 1, 4, .inl (aI zF))), (q3, .inl (cy 1, 8, .inl (aI zF))), (q4, .inl (cy 1, 4, .inl (aI zF))), (q5, .inl (cy 1, 60, .inl (aI zF))), (q6, .inl (cy 1, 60, .inl (aI zF)))]) := by
  refine Ci.intro (j := 0) (by decide +kernel) rfl rfl rfl (fun E C e1 e2 e3 e4 e5 hin hX fin => ?_)
  refine g_aload_n 0 C dX2_init_0 rfl rfl ?_
  refine g_objInit C oi_X2_3 ⟨rfl, rfl⟩ dX2_init_1 ?_
  refine g_aload_n 0 C dX2_init_4 rfl rfl ?_
  refine g_iconst C dX2_init_5 ?_
  refine g_put (ws' := [(o, .inr (2, [.int (wI 0), .int (wI 0), .int (wI 0), .null, .null, .int (wI 0), .null, .int (wI 0), .null, .int (wI 0), .int (wI 0), .int (wI 0), .int (wI 0), .int (wI 0), .int (wI 0), .null, .null]))]) C ip_X2_9 0 rfl (by decide +kernel) (by decide +kernel) rfl rfl dX2_init_6 ?_
  refine g_aload_n 0 C dX2_init_9 rfl rfl ?_
  refine g_iconst C dX2_init_10 ?_
  refine g_put (ws' := [(o, .inr (2, [.int (wI 0), .int (wI 0), .int (wI 0), .null, .null, .int (wI 0), .null, .int (wI 0), .null, .int (wI 0), .int (wI 0), .int (wI 0), .int (wI 0), .int (wI 0), .int (wI 0), .null, .null]))]) C ip_X2_15 0 rfl (by decide +kernel) (by decide +kernel) rfl rfl dX2_init_11 ?_
  refine g_aload_n 0 C dX2_init_14 rfl rfl ?_
  refine g_iconst C dX2_init_15 ?_
  refine g_put (ws' := [(o, .inr (2, [.int (wI 0), .int (wI 0), .int (wI 0), .null, .null, .int (wI 0), .null, .int (wI 0), .null, .int (wI 0), .int (wI 0), .int (wI 0), .int (wI 0), .int (wI 0), .int (wI 0), .null, .null]))]) C ip_X2_18 0 rfl (by decide +kernel) (by decide +kernel) rfl rfl dX2_init_16 ?_
  refine g_aload_n 0 C dX2_init_19 rfl rfl ?_
  refine g_iconst C dX2_init_20 ?_
  refine g_newarr (atype := .int) (ty := .int) (a0 := (4, .inl (aI zF))) 1 C rfl rfl ac_int (fun _ => rfl) (by decide) rfl (by decide) ⟨rfl, rfl⟩ dX2_init_21 (fun q1 => ?_)
  rw [e3]
  refine g_putF (ws' := [(o, .inr (2, [.int (wI 0), .int (wI 0), .int (wI 0), .ref q1, .null, .int (wI 0), .null, .int (wI 0), .null, .int (wI 0), .int (wI 0), .int (wI 0), .int (wI 0), .int (wI 0), .int (wI 0), .null, .null])), (q1, .inl (cy 1, 4, .inl (aI zF)))]) C hin if_X2_21 0 rfl rfl rfl rfl rfl dX2_init_23 ?_
  refine g_aload_n 0 C dX2_init_26 rfl rfl ?_
  refine g_iconst C dX2_init_27 ?_
  refine g_newarr (atype := .int) (ty := .int) (a0 := (4, .inl (aI zF))) 1 C rfl rfl ac_int (fun _ => rfl) (by decide) rfl (by decide) ⟨rfl, rfl⟩ dX2_init_28 (fun q2 => ?_)
  rw [e3]
  refine g_putF (ws' := [(o, .inr (2, [.int (wI 0), .int (wI 0), .int (wI 0), .ref q1, .ref q2, .int (wI 0), .null, .int (wI 0), .null, .int (wI 0), .int (wI 0), .int (wI 0), .int (wI 0), .int (wI 0), .int (wI 0), .null, .null])), (q1, .inl (cy 1, 4, .inl (aI zF))), (q2, .inl (cy 1, 4, .inl (aI zF)))]) C hin if_X2_25 0 rfl rfl rfl rfl rfl dX2_init_30 ?_
  refine g_aload_n 0 C dX2_init_33 rfl rfl ?_
  refine g_iconst C dX2_init_34 ?_
  refine g_put (ws' := [(o, .inr (2, [.int (wI 0), .int (wI 0), .int (wI 0), .ref q1, .ref q2, .int (wI 0), .null, .int (wI 0), .null, .int (wI 0), .int (wI 0), .int (wI 0), .int (wI 0), .int (wI 0), .int (wI 0), .null, .null])), (q1, .inl (cy 1, 4, .inl (aI zF))), (q2, .inl (cy 1, 4, .inl (aI zF)))]) C ip_X2_28 0 rfl (by decide +kernel) (by decide +kernel) rfl rfl dX2_init_35 ?_
  refine g_aload_n 0 C dX2_init_38 rfl rfl ?_
  refine g_bipush C dX2_init_39 rfl ?_
  refine g_newarr (atype := .int) (ty := .int) (a0 := (8, .inl (aI zF))) 1 C rfl rfl ac_int (fun _ => rfl) (by decide) rfl (by decide) ⟨rfl, rfl⟩ dX2_init_41 (fun q3 => ?_)
  rw [e3]
  refine g_putF (ws' := [(o, .inr (2, [.int (wI 0), .int (wI 0), .int (wI 0), .ref q1, .ref q2, .int (wI 0), .ref q3, .int (wI 0), .null, .int (wI 0), .int (wI 0), .int (wI 0), .int (wI 0), .int (wI 0), .int (wI 0), .null, .null])), (q1, .inl (cy 1, 4, .inl (aI zF))), (q2, .inl (cy 1, 4, .inl (aI zF))), (q3, .inl (cy 1, 8, .inl (aI zF)))]) C hin if_X2_31 0 rfl rfl rfl rfl rfl dX2_init_43 ?_
  refine g_aload_n 0 C dX2_init_46 rfl rfl ?_
  refine g_iconst C dX2_init_47 ?_
  refine g_put (ws' := [(o, .inr (2, [.int (wI 0), .int (wI 0), .int (wI 0), .ref q1, .ref q2, .int (wI 0), .ref q3, .int (wI 0), .null, .int (wI 0), .int (wI 0), .int (wI 0), .int (wI 0), .int (wI 0), .int (wI 0), .null, .null])), (q1, .inl (cy 1, 4, .inl (aI zF))), (q2, .inl (cy 1, 4, .inl (aI zF))), (q3, .inl (cy 1, 8, .inl (aI zF)))]) C ip_X2_34 0 rfl (by decide +kernel) (by decide +kernel) rfl rfl dX2_init_48 ?_
  refine g_aload_n 0 C dX2_init_51 rfl rfl ?_
  refine g_iconst C dX2_init_52 ?_
  refine g_newarr (atype := .int) (ty := .int) (a0 := (4, .inl (aI zF))) 1 C rfl rfl ac_int (fun _ => rfl) (by decide) rfl (by decide) ⟨rfl, rfl⟩ dX2_init_53 (fun q4 => ?_)
  rw [e3]
  refine g_putF (ws' := [(o, .inr (2, [.int (wI 0), .int (wI 0), .int (wI 0), .ref q1, .ref q2, .int (wI 0), .ref q3, .int (wI 0), .ref q4, .int (wI 0), .int (wI 0), .int (wI 0), .int (wI 0), .int (wI 0), .int (wI 0), .null, .null])), (q1, .inl (cy 1, 4, .inl (aI zF))), (q2, .inl (cy 1, 4, .inl (aI zF))), (q3, .inl (cy 1, 8, .inl (aI zF))), (q4, .inl (cy 1, 4, .inl (aI zF)))]) C hin if_X2_37 0 rfl rfl rfl rfl rfl dX2_init_55 ?_
  refine g_aload_n 0 C dX2_init_58 rfl rfl ?_
  refine g_iconst C dX2_init_59 ?_
  refine g_put (ws' := [(o, .inr (2, [.int (wI 0), .int (wI 0), .int (wI 0), .ref q1, .ref q2, .int (wI 0), .ref q3, .int (wI 0), .ref q4, .int (wI 0), .int (wI 0), .int (wI 0), .int (wI 0), .int (wI 0), .int (wI 0), .null, .null])), (q1, .inl (cy 1, 4, .inl (aI zF))), (q2, .inl (cy 1, 4, .inl (aI zF))), (q3, .inl (cy 1, 8, .inl (aI zF))), (q4, .inl (cy 1, 4, .inl (aI zF)))]) C ip_X2_40 0 rfl (by decide +kernel) (by decide +kernel) rfl rfl dX2_init_60 ?_
  refine g_aload_n 0 C dX2_init_63 rfl rfl ?_
  refine g_iconst C dX2_init_64 ?_
  refine g_put (ws' := [(o, .inr (2, [.int (wI 0), .int (wI 0), .int (wI 0), .ref q1, .ref q2, .int (wI 0), .ref q3, .int (wI 0), .ref q4, .int (wI 0), .int (wI 1), .int (wI 0), .int (wI 0), .int (wI 0), .int (wI 0), .null, .null])), (q1, .inl (cy 1, 4, .inl (aI zF))), (q2, .inl (cy 1, 4, .inl (aI zF))), (q3, .inl (cy 1, 8, .inl (aI zF))), (q4, .inl (cy 1, 4, .inl (aI zF)))]) C ip_X2_44 0 rfl (by decide +kernel) (by decide +kernel) rfl rfl dX2_init_65 ?_
  refine g_aload_n 0 C dX2_init_68 rfl rfl ?_
  refine g_iconst C dX2_init_69 ?_
  refine g_put (ws' := [(o, .inr (2, [.int (wI 0), .int (wI 0), .int (wI 0), .ref q1, .ref q2, .int (wI 0), .ref q3, .int (wI 0), .ref q4, .int (wI 0), .int (wI 1), .int (wI 1), .int (wI 0), .int (wI 0), .int (wI 0), .null, .null])), (q1, .inl (cy 1, 4, .inl (aI zF))), (q2, .inl (cy 1, 4, .inl (aI zF))), (q3, .inl (cy 1, 8, .inl (aI zF))), (q4, .inl (cy 1, 4, .inl (aI zF)))]) C ip_X2_47 0 rfl (by decide +kernel) (by decide +kernel) rfl rfl dX2_init_70 ?_
  refine g_aload_n 0 C dX2_init_73 rfl rfl ?_
  refine g_iconst C dX2_init_74 ?_
  refine g_put (ws' := [(o, .inr (2, [.int (wI 0), .int (wI 0), .int (wI 0), .ref q1, .ref q2, .int (wI 0), .ref q3, .int (wI 0), .ref q4, .int (wI 0), .int (wI 1), .int (wI 1), .int (wI 1), .int (wI 0), .int (wI 0), .null, .null])), (q1, .inl (cy 1, 4, .inl (aI zF))), (q2, .inl (cy 1, 4, .inl (aI zF))), (q3, .inl (cy 1, 8, .inl (aI zF))), (q4, .inl (cy 1, 4, .inl (aI zF)))]) C ip_X2_50 0 rfl (by decide +kernel) (by decide +kernel) rfl rfl dX2_init_75 ?_
  refine g_aload_n 0 C dX2_init_78 rfl rfl ?_
  refine g_iconst C dX2_init_79 ?_
  refine g_put (ws' := [(o, .inr (2, [.int (wI 0), .int (wI 0), .int (wI 0), .ref q1, .ref q2, .int (wI 0), .ref q3, .int (wI 0), .ref q4, .int (wI 0), .int (wI 1), .int (wI 1), .int (wI 1), .int (wI 0), .int (wI 0), .null, .null])), (q1, .inl (cy 1, 4, .inl (aI zF))), (q2, .inl (cy 1, 4, .inl (aI zF))), (q3, .inl (cy 1, 8, .inl (aI zF))), (q4, .inl (cy 1, 4, .inl (aI zF)))]) C ip_X2_53 0 rfl (by decide +kernel) (by decide +kernel) rfl rfl dX2_init_80 ?_
  refine g_aload_n 0 C dX2_init_83 rfl rfl ?_
  refine g_iconst C dX2_init_84 ?_
  refine g_put (ws' := [(o, .inr (2, [.int (wI 0), .int (wI 0), .int (wI 0), .ref q1, .ref q2, .int (wI 0), .ref q3, .int (wI 0), .ref q4, .int (wI 0), .int (wI 1), .int (wI 1), .int (wI 1), .int (wI 0), .int (wI 0), .null, .null])), (q1, .inl (cy 1, 4, .inl (aI zF))), (q2, .inl (cy 1, 4, .inl (aI zF))), (q3, .inl (cy 1, 8, .inl (aI zF))), (q4, .inl (cy 1, 4, .inl (aI zF)))]) C ip_X2_56 0 rfl (by decide +kernel) (by decide +kernel) rfl rfl dX2_init_85 ?_
  refine g_aload_n 0 C dX2_init_88 rfl rfl ?_
  refine g_bipush C dX2_init_89 rfl ?_
  refine g_newarr (atype := .int) (ty := .int) (a0 := (60, .inl (aI zF))) 1 C rfl rfl ac_int (fun _ => rfl) (by decide) rfl (by decide) ⟨rfl, rfl⟩ dX2_init_91 (fun q5 => ?_)
  rw [e3]
  refine g_putF (ws' := [(o, .inr (2, [.int (wI 0), .int (wI 0), .int (wI 0), .ref q1, .ref q2, .int (wI 0), .ref q3, .int (wI 0), .ref q4, .int (wI 0), .int (wI 1), .int (wI 1), .int (wI 1), .int (wI 0), .int (wI 0), .ref q5, .null])), (q1, .inl (cy 1, 4, .inl (aI zF))), (q2, .inl (cy 1, 4, .inl (aI zF))), (q3, .inl (cy 1, 8, .inl (aI zF))), (q4, .inl (cy 1, 4, .inl (aI zF))), (q5, .inl (cy 1, 60, .inl (aI zF)))]) C hin if_X2_59 0 rfl rfl rfl rfl rfl dX2_init_93 ?_
  refine g_aload_n 0 C dX2_init_96 rfl rfl ?_
  refine g_bipush C dX2_init_97 rfl ?_
  refine g_newarr (atype := .int) (ty := .int) (a0 := (60, .inl (aI zF))) 1 C rfl rfl ac_int (fun _ => rfl) (by decide) rfl (by decide) ⟨rfl, rfl⟩ dX2_init_99 (fun q6 => ?_)
  rw [e3]
  refine g_putF (ws' := [(o, .inr (2, [.int (wI 0), .int (wI 0), .int (wI 0), .ref q1, .ref q2, .int (wI 0), .ref q3, .int (wI 0), .ref q4, .int (wI 0), .int (wI 1), .int (wI 1), .int (wI 1), .int (wI 0), .int (wI 0), .ref q5, .ref q6])), (q1, .inl (cy 1, 4, .inl (aI zF))), (q2, .inl (cy 1, 4, .inl (aI zF))), (q3, .inl (cy 1, 8, .inl (aI zF))), (q4, .inl (cy 1, 4, .inl (aI zF))), (q5, .inl (cy 1, 60, .inl (aI zF))), (q6, .inl (cy 1, 60, .inl (aI zF)))]) C hin if_X2_62 0 rfl rfl rfl rfl rfl dX2_init_101 ?_
  exact fin 104 _ _ ⟨q1, q2, q3, q4, q5, q6, rfl⟩ dX2_init_104
theorem i_X3 (l : Launch) (D : va_G) (cy : Nat → ClassId) (ad : AD) (o : Nat) : Ci l yX3_init cX3_init 1 { frames := 1, cells := 2, slots := 60, locals := 12 } D cy ad [.ref o] [(o, .inr (3, [.int (wI 0), .long (wJ 0), .int (wI 0), .long (wJ 0), .long (wJ 0), .int (wI 0), .long (wJ 0), .null, .null]))] XT (fun w1 => ∃ q1 q2 : Nat, w1 = [(o, .inr (3, [.int (wI 0), .long (wJ 0), .int (wI 0), .long (wJ 0), .long (wJ 0), .int (wI 0), .long (wJ 0), .ref q1, .ref q2])), (q1, .inl (cy 2, 30, .inr (.inl (aJ zF)))), (q2, .inl (cy 2, 30, .inr (.inl (aJ zF))))]) := by
  refine Ci.intro (j := 0) (by decide +kernel) rfl rfl rfl (fun E C e1 e2 e3 e4 e5 hin hX fin => ?_)
  refine g_aload_n 0 C dX3_init_0 rfl rfl ?_
  refine g_objInit C oi_X3_5 ⟨rfl, rfl⟩ dX3_init_1 ?_
  refine g_aload_n 0 C dX3_init_4 rfl rfl ?_
  refine g_iconst C dX3_init_5 ?_
  refine g_put (ws' := [(o, .inr (3, [.int (wI 0), .long (wJ 0), .int (wI 0), .long (wJ 0), .long (wJ 0), .int (wI 0), .long (wJ 0), .null, .null]))]) C ip_X3_11 0 rfl (by decide +kernel) (by decide +kernel) rfl rfl dX3_init_6 ?_
  refine g_aload_n 0 C dX3_init_9 rfl rfl ?_
  refine g_lconst (x := 0) C dX3_init_10 rfl ?_
  refine g_put (ws' := [(o, .inr (3, [.int (wI 0), .long (wJ 0), .int (wI 0), .long (wJ 0), .long (wJ 0), .int (wI 0), .long (wJ 0), .null, .null]))]) C ip_X3_15 0 rfl (by decide +kernel) (by decide +kernel) rfl rfl dX3_init_11 ?_
  refine g_aload_n 0 C dX3_init_14 rfl rfl ?_
  refine g_iconst C dX3_init_15 ?_
  refine g_put (ws' := [(o, .inr (3, [.int (wI 0), .long (wJ 0), .int (wI 0), .long (wJ 0), .long (wJ 0), .int (wI 0), .long (wJ 0), .null, .null]))]) C ip_X3_19 0 rfl (by decide +kernel) (by decide +kernel) rfl rfl dX3_init_16 ?_
  refine g_aload_n 0 C dX3_init_19 rfl rfl ?_
  refine g_lconst (x := 0) C dX3_init_20 rfl ?_
  refine g_put (ws' := [(o, .inr (3, [.int (wI 0), .long (wJ 0), .int (wI 0), .long (wJ 0), .long (wJ 0), .int (wI 0), .long (wJ 0), .null, .null]))]) C ip_X3_23 0 rfl (by decide +kernel) (by decide +kernel) rfl rfl dX3_init_21 ?_
  refine g_aload_n 0 C dX3_init_24 rfl rfl ?_
  refine g_lconst (x := 0) C dX3_init_25 rfl ?_
  refine g_put (ws' := [(o, .inr (3, [.int (wI 0), .long (wJ 0), .int (wI 0), .long (wJ 0), .long (wJ 0), .int (wI 0), .long (wJ 0), .null, .null]))]) C ip_X3_26 0 rfl (by decide +kernel) (by decide +kernel) rfl rfl dX3_init_26 ?_
  refine g_aload_n 0 C dX3_init_29 rfl rfl ?_
  refine g_iconst C dX3_init_30 ?_
  refine g_put (ws' := [(o, .inr (3, [.int (wI 0), .long (wJ 0), .int (wI 0), .long (wJ 0), .long (wJ 0), .int (wI 0), .long (wJ 0), .null, .null]))]) C ip_X3_29 0 rfl (by decide +kernel) (by decide +kernel) rfl rfl dX3_init_31 ?_
  refine g_aload_n 0 C dX3_init_34 rfl rfl ?_
  refine g_lconst (x := 0) C dX3_init_35 rfl ?_
  refine g_put (ws' := [(o, .inr (3, [.int (wI 0), .long (wJ 0), .int (wI 0), .long (wJ 0), .long (wJ 0), .int (wI 0), .long (wJ 0), .null, .null]))]) C ip_X3_32 0 rfl (by decide +kernel) (by decide +kernel) rfl rfl dX3_init_36 ?_
  refine g_aload_n 0 C dX3_init_39 rfl rfl ?_
  refine g_bipush C dX3_init_40 rfl ?_
  refine g_newarr (atype := .long) (ty := .long) (a0 := (30, .inr (.inl (aJ zF)))) 2 C rfl rfl ac_long (fun _ => rfl) (by decide) rfl (by decide) ⟨rfl, rfl⟩ dX3_init_42 (fun q1 => ?_)
  rw [e3]
  refine g_putF (ws' := [(o, .inr (3, [.int (wI 0), .long (wJ 0), .int (wI 0), .long (wJ 0), .long (wJ 0), .int (wI 0), .long (wJ 0), .ref q1, .null])), (q1, .inl (cy 2, 30, .inr (.inl (aJ zF))))]) C hin if_X3_35 0 rfl rfl rfl rfl rfl dX3_init_44 ?_
  refine g_aload_n 0 C dX3_init_47 rfl rfl ?_
  refine g_bipush C dX3_init_48 rfl ?_
  refine g_newarr (atype := .long) (ty := .long) (a0 := (30, .inr (.inl (aJ zF)))) 2 C rfl rfl ac_long (fun _ => rfl) (by decide) rfl (by decide) ⟨rfl, rfl⟩ dX3_init_50 (fun q2 => ?_)
  rw [e3]
  refine g_putF (ws' := [(o, .inr (3, [.int (wI 0), .long (wJ 0), .int (wI 0), .long (wJ 0), .long (wJ 0), .int (wI 0), .long (wJ 0), .ref q1, .ref q2])), (q1, .inl (cy 2, 30, .inr (.inl (aJ zF)))), (q2, .inl (cy 2, 30, .inr (.inl (aJ zF))))]) C hin if_X3_39 0 rfl rfl rfl rfl rfl dX3_init_52 ?_
  exact fin 55 _ _ ⟨q1, q2, rfl⟩ dX3_init_55
theorem i_X0 (l : Launch) (D : va_G) (cy : Nat → ClassId) (ad : AD) (o : Nat) : Ci l yX0_init cX0_init 1 { frames := 1, cells := 9, slots := 1749, locals := 12 } D cy ad [.ref o] [(o, .inr (0, [.int (wI 0), .int (wI 0), .int (wI 0), .int (wI 0), .int (wI 0), .null, .null, .null, .null, .null, .null, .null, .null, .null, .int (wI 0), .int (wI 0)]))] XT (fun w1 => ∃ q1 q2 q3 q4 q5 q6 q7 q8 q9 : Nat, w1 = [(o, .inr (0, [.int (wI 0), .int (wI (-1)), .int (wI (-1)), .int (wI (-1)), .int (wI 0), .ref q1, .ref q2, .ref q3, .ref q4, .ref q5, .ref q6, .ref q7, .ref q8, .ref q9, .int (wI 1), .int (wI 200)])), (q1, .inl (cy 1, 20, .inl (aI zF))), (q2, .inl (cy 1, 20, .inl (aI zF))), (q3, .inl (cy 1, 20, .inl (aI zF))), (q4, .inl (cy 1, 31, .inl (aI zF))), (q5, .inl (cy 1, 31, .inl (aI zF))), (q6, .inl (cy 1, 201, .inl (aI zF))), (q7, .inl (cy 1, 201, .inl (aI zF))), (q8, .inl (cy 1, 201, .inl (aI zF))), (q9, .inl (cy 1, 1024, .inl (aI zF)))]) := by
  refine Ci.intro (j := 0) (by decide +kernel) rfl rfl rfl (fun E C e1 e2 e3 e4 e5 hin hX fin => ?_)
  refine g_aload_n 0 C dX0_init_0 rfl rfl ?_
  refine g_objInit C oi_X0_3 ⟨rfl, rfl⟩ dX0_init_1 ?_
  refine g_aload_n 0 C dX0_init_4 rfl rfl ?_
  refine g_iconst C dX0_init_5 ?_
  refine g_put (ws' := [(o, .inr (0, [.int (wI 0), .int (wI 0), .int (wI 0), .int (wI 0), .int (wI 0), .null, .null, .null, .null, .null, .null, .null, .null, .null, .int (wI 0), .int (wI 0)]))]) C ip_X0_9 0 rfl (by decide +kernel) (by decide +kernel) rfl rfl dX0_init_6 ?_
  refine g_aload_n 0 C dX0_init_9 rfl rfl ?_
  refine g_iconst C dX0_init_10 ?_
  refine g_put (ws' := [(o, .inr (0, [.int (wI 0), .int (wI (-1)), .int (wI 0), .int (wI 0), .int (wI 0), .null, .null, .null, .null, .null, .null, .null, .null, .null, .int (wI 0), .int (wI 0)]))]) C ip_X0_15 0 rfl (by decide +kernel) (by decide +kernel) rfl rfl dX0_init_11 ?_
  refine g_aload_n 0 C dX0_init_14 rfl rfl ?_
  refine g_iconst C dX0_init_15 ?_
  refine g_put (ws' := [(o, .inr (0, [.int (wI 0), .int (wI (-1)), .int (wI (-1)), .int (wI 0), .int (wI 0), .null, .null, .null, .null, .null, .null, .null, .null, .null, .int (wI 0), .int (wI 0)]))]) C ip_X0_18 0 rfl (by decide +kernel) (by decide +kernel) rfl rfl dX0_init_16 ?_
  refine g_aload_n 0 C dX0_init_19 rfl rfl ?_
  refine g_iconst C dX0_init_20 ?_
  refine g_put (ws' := [(o, .inr (0, [.int (wI 0), .int (wI (-1)), .int (wI (-1)), .int (wI (-1)), .int (wI 0), .null, .null, .null, .null, .null, .null, .null, .null, .null, .int (wI 0), .int (wI 0)]))]) C ip_X0_21 0 rfl (by decide +kernel) (by decide +kernel) rfl rfl dX0_init_21 ?_
  refine g_aload_n 0 C dX0_init_24 rfl rfl ?_
  refine g_iconst C dX0_init_25 ?_
  refine g_put (ws' := [(o, .inr (0, [.int (wI 0), .int (wI (-1)), .int (wI (-1)), .int (wI (-1)), .int (wI 0), .null, .null, .null, .null, .null, .null, .null, .null, .null, .int (wI 0), .int (wI 0)]))]) C ip_X0_24 0 rfl (by decide +kernel) (by decide +kernel) rfl rfl dX0_init_26 ?_
  refine g_aload_n 0 C dX0_init_29 rfl rfl ?_
  refine g_bipush C dX0_init_30 rfl ?_
  refine g_newarr (atype := .int) (ty := .int) (a0 := (20, .inl (aI zF))) 1 C rfl rfl ac_int (fun _ => rfl) (by decide) rfl (by decide) ⟨rfl, rfl⟩ dX0_init_32 (fun q1 => ?_)
  rw [e3]
  refine g_putF (ws' := [(o, .inr (0, [.int (wI 0), .int (wI (-1)), .int (wI (-1)), .int (wI (-1)), .int (wI 0), .ref q1, .null, .null, .null, .null, .null, .null, .null, .null, .int (wI 0), .int (wI 0)])), (q1, .inl (cy 1, 20, .inl (aI zF)))]) C hin if_X0_27 0 rfl rfl rfl rfl rfl dX0_init_34 ?_
  refine g_aload_n 0 C dX0_init_37 rfl rfl ?_
  refine g_bipush C dX0_init_38 rfl ?_
  refine g_newarr (atype := .int) (ty := .int) (a0 := (20, .inl (aI zF))) 1 C rfl rfl ac_int (fun _ => rfl) (by decide) rfl (by decide) ⟨rfl, rfl⟩ dX0_init_40 (fun q2 => ?_)
  rw [e3]
  refine g_putF (ws' := [(o, .inr (0, [.int (wI 0), .int (wI (-1)), .int (wI (-1)), .int (wI (-1)), .int (wI 0), .ref q1, .ref q2, .null, .null, .null, .null, .null, .null, .null, .int (wI 0), .int (wI 0)])), (q1, .inl (cy 1, 20, .inl (aI zF))), (q2, .inl (cy 1, 20, .inl (aI zF)))]) C hin if_X0_31 0 rfl rfl rfl rfl rfl dX0_init_42 ?_
  refine g_aload_n 0 C dX0_init_45 rfl rfl ?_
  refine g_bipush C dX0_init_46 rfl ?_
  refine g_newarr (atype := .int) (ty := .int) (a0 := (20, .inl (aI zF))) 1 C rfl rfl ac_int (fun _ => rfl) (by decide) rfl (by decide) ⟨rfl, rfl⟩ dX0_init_48 (fun q3 => ?_)
  rw [e3]
  refine g_putF (ws' := [(o, .inr (0, [.int (wI 0), .int (wI (-1)), .int (wI (-1)), .int (wI (-1)), .int (wI 0), .ref q1, .ref q2, .ref q3, .null, .null, .null, .null, .null, .null, .int (wI 0), .int (wI 0)])), (q1, .inl (cy 1, 20, .inl (aI zF))), (q2, .inl (cy 1, 20, .inl (aI zF))), (q3, .inl (cy 1, 20, .inl (aI zF)))]) C hin if_X0_34 0 rfl rfl rfl rfl rfl dX0_init_50 ?_
  refine g_aload_n 0 C dX0_init_53 rfl rfl ?_
  refine g_bipush C dX0_init_54 rfl ?_
  refine g_newarr (atype := .int) (ty := .int) (a0 := (31, .inl (aI zF))) 1 C rfl rfl ac_int (fun _ => rfl) (by decide) rfl (by decide) ⟨rfl, rfl⟩ dX0_init_56 (fun q4 => ?_)
  rw [e3]
  refine g_putF (ws' := [(o, .inr (0, [.int (wI 0), .int (wI (-1)), .int (wI (-1)), .int (wI (-1)), .int (wI 0), .ref q1, .ref q2, .ref q3, .ref q4, .null, .null, .null, .null, .null, .int (wI 0), .int (wI 0)])), (q1, .inl (cy 1, 20, .inl (aI zF))), (q2, .inl (cy 1, 20, .inl (aI zF))), (q3, .inl (cy 1, 20, .inl (aI zF))), (q4, .inl (cy 1, 31, .inl (aI zF)))]) C hin if_X0_37 0 rfl rfl rfl rfl rfl dX0_init_58 ?_
  refine g_aload_n 0 C dX0_init_61 rfl rfl ?_
  refine g_bipush C dX0_init_62 rfl ?_
  refine g_newarr (atype := .int) (ty := .int) (a0 := (31, .inl (aI zF))) 1 C rfl rfl ac_int (fun _ => rfl) (by decide) rfl (by decide) ⟨rfl, rfl⟩ dX0_init_64 (fun q5 => ?_)
  rw [e3]
  refine g_putF (ws' := [(o, .inr (0, [.int (wI 0), .int (wI (-1)), .int (wI (-1)), .int (wI (-1)), .int (wI 0), .ref q1, .ref q2, .ref q3, .ref q4, .ref q5, .null, .null, .null, .null, .int (wI 0), .int (wI 0)])), (q1, .inl (cy 1, 20, .inl (aI zF))), (q2, .inl (cy 1, 20, .inl (aI zF))), (q3, .inl (cy 1, 20, .inl (aI zF))), (q4, .inl (cy 1, 31, .inl (aI zF))), (q5, .inl (cy 1, 31, .inl (aI zF)))]) C hin if_X0_40 0 rfl rfl rfl rfl rfl dX0_init_66 ?_
  refine g_aload_n 0 C dX0_init_69 rfl rfl ?_
  refine g_sipush C dX0_init_70 rfl ?_
  refine g_newarr (atype := .int) (ty := .int) (a0 := (201, .inl (aI zF))) 1 C rfl rfl ac_int (fun _ => rfl) (by decide) rfl (by decide) ⟨rfl, rfl⟩ dX0_init_73 (fun q6 => ?_)
  rw [e3]
  refine g_putF (ws' := [(o, .inr (0, [.int (wI 0), .int (wI (-1)), .int (wI (-1)), .int (wI (-1)), .int (wI 0), .ref q1, .ref q2, .ref q3, .ref q4, .ref q5, .ref q6, .null, .null, .null, .int (wI 0), .int (wI 0)])), (q1, .inl (cy 1, 20, .inl (aI zF))), (q2, .inl (cy 1, 20, .inl (aI zF))), (q3, .inl (cy 1, 20, .inl (aI zF))), (q4, .inl (cy 1, 31, .inl (aI zF))), (q5, .inl (cy 1, 31, .inl (aI zF))), (q6, .inl (cy 1, 201, .inl (aI zF)))]) C hin if_X0_43 0 rfl rfl rfl rfl rfl dX0_init_75 ?_
  refine g_aload_n 0 C dX0_init_78 rfl rfl ?_
  refine g_sipush C dX0_init_79 rfl ?_
  refine g_newarr (atype := .int) (ty := .int) (a0 := (201, .inl (aI zF))) 1 C rfl rfl ac_int (fun _ => rfl) (by decide) rfl (by decide) ⟨rfl, rfl⟩ dX0_init_82 (fun q7 => ?_)
  rw [e3]
  refine g_putF (ws' := [(o, .inr (0, [.int (wI 0), .int (wI (-1)), .int (wI (-1)), .int (wI (-1)), .int (wI 0), .ref q1, .ref q2, .ref q3, .ref q4, .ref q5, .ref q6, .ref q7, .null, .null, .int (wI 0), .int (wI 0)])), (q1, .inl (cy 1, 20, .inl (aI zF))), (q2, .inl (cy 1, 20, .inl (aI zF))), (q3, .inl (cy 1, 20, .inl (aI zF))), (q4, .inl (cy 1, 31, .inl (aI zF))), (q5, .inl (cy 1, 31, .inl (aI zF))), (q6, .inl (cy 1, 201, .inl (aI zF))), (q7, .inl (cy 1, 201, .inl (aI zF)))]) C hin if_X0_46 0 rfl rfl rfl rfl rfl dX0_init_84 ?_
  refine g_aload_n 0 C dX0_init_87 rfl rfl ?_
  refine g_sipush C dX0_init_88 rfl ?_
  refine g_newarr (atype := .int) (ty := .int) (a0 := (201, .inl (aI zF))) 1 C rfl rfl ac_int (fun _ => rfl) (by decide) rfl (by decide) ⟨rfl, rfl⟩ dX0_init_91 (fun q8 => ?_)
  rw [e3]
  refine g_putF (ws' := [(o, .inr (0, [.int (wI 0), .int (wI (-1)), .int (wI (-1)), .int (wI (-1)), .int (wI 0), .ref q1, .ref q2, .ref q3, .ref q4, .ref q5, .ref q6, .ref q7, .ref q8, .null, .int (wI 0), .int (wI 0)])), (q1, .inl (cy 1, 20, .inl (aI zF))), (q2, .inl (cy 1, 20, .inl (aI zF))), (q3, .inl (cy 1, 20, .inl (aI zF))), (q4, .inl (cy 1, 31, .inl (aI zF))), (q5, .inl (cy 1, 31, .inl (aI zF))), (q6, .inl (cy 1, 201, .inl (aI zF))), (q7, .inl (cy 1, 201, .inl (aI zF))), (q8, .inl (cy 1, 201, .inl (aI zF)))]) C hin if_X0_49 0 rfl rfl rfl rfl rfl dX0_init_93 ?_
  refine g_aload_n 0 C dX0_init_96 rfl rfl ?_
  refine g_sipush C dX0_init_97 rfl ?_
  refine g_newarr (atype := .int) (ty := .int) (a0 := (1024, .inl (aI zF))) 1 C rfl rfl ac_int (fun _ => rfl) (by decide) rfl (by decide) ⟨rfl, rfl⟩ dX0_init_100 (fun q9 => ?_)
  rw [e3]
  refine g_putF (ws' := [(o, .inr (0, [.int (wI 0), .int (wI (-1)), .int (wI (-1)), .int (wI (-1)), .int (wI 0), .ref q1, .ref q2, .ref q3, .ref q4, .ref q5, .ref q6, .ref q7, .ref q8, .ref q9, .int (wI 0), .int (wI 0)])), (q1, .inl (cy 1, 20, .inl (aI zF))), (q2, .inl (cy 1, 20, .inl (aI zF))), (q3, .inl (cy 1, 20, .inl (aI zF))), (q4, .inl (cy 1, 31, .inl (aI zF))), (q5, .inl (cy 1, 31, .inl (aI zF))), (q6, .inl (cy 1, 201, .inl (aI zF))), (q7, .inl (cy 1, 201, .inl (aI zF))), (q8, .inl (cy 1, 201, .inl (aI zF))), (q9, .inl (cy 1, 1024, .inl (aI zF)))]) C hin if_X0_52 0 rfl rfl rfl rfl rfl dX0_init_102 ?_
  refine g_aload_n 0 C dX0_init_105 rfl rfl ?_
  refine g_iconst C dX0_init_106 ?_
  refine g_put (ws' := [(o, .inr (0, [.int (wI 0), .int (wI (-1)), .int (wI (-1)), .int (wI (-1)), .int (wI 0), .ref q1, .ref q2, .ref q3, .ref q4, .ref q5, .ref q6, .ref q7, .ref q8, .ref q9, .int (wI 1), .int (wI 0)])), (q1, .inl (cy 1, 20, .inl (aI zF))), (q2, .inl (cy 1, 20, .inl (aI zF))), (q3, .inl (cy 1, 20, .inl (aI zF))), (q4, .inl (cy 1, 31, .inl (aI zF))), (q5, .inl (cy 1, 31, .inl (aI zF))), (q6, .inl (cy 1, 201, .inl (aI zF))), (q7, .inl (cy 1, 201, .inl (aI zF))), (q8, .inl (cy 1, 201, .inl (aI zF))), (q9, .inl (cy 1, 1024, .inl (aI zF)))]) C ip_X0_55 0 rfl (by decide +kernel) (by decide +kernel) rfl rfl dX0_init_107 ?_
  refine g_aload_n 0 C dX0_init_110 rfl rfl ?_
  refine g_sipush C dX0_init_111 rfl ?_
  refine g_put (ws' := [(o, .inr (0, [.int (wI 0), .int (wI (-1)), .int (wI (-1)), .int (wI (-1)), .int (wI 0), .ref q1, .ref q2, .ref q3, .ref q4, .ref q5, .ref q6, .ref q7, .ref q8, .ref q9, .int (wI 1), .int (wI 200)])), (q1, .inl (cy 1, 20, .inl (aI zF))), (q2, .inl (cy 1, 20, .inl (aI zF))), (q3, .inl (cy 1, 20, .inl (aI zF))), (q4, .inl (cy 1, 31, .inl (aI zF))), (q5, .inl (cy 1, 31, .inl (aI zF))), (q6, .inl (cy 1, 201, .inl (aI zF))), (q7, .inl (cy 1, 201, .inl (aI zF))), (q8, .inl (cy 1, 201, .inl (aI zF))), (q9, .inl (cy 1, 1024, .inl (aI zF)))]) C ip_X0_58 0 rfl (by decide +kernel) (by decide +kernel) rfl rfl dX0_init_114 ?_
  exact fin 117 _ _ ⟨q1, q2, q3, q4, q5, q6, q7, q8, q9, rfl⟩ dX0_init_117
theorem i_X4 (l : Launch) (D : va_G) (cy : Nat → ClassId) (ad : AD) (o : Nat) : Ci l yX4_init cX4_init 1 { frames := 2, cells := 8, slots := 1057, locals := 32 } D cy ad [.ref o] [(o, .inr (4, [.int (wI 0), .int (wI 0), .null, .null, .int (wI 0), .int (wI 0), .int (wI 0), .int (wI 0)]))] XT (fun w1 => ∃ q1 q2 q3 q4 q5 q6 q7 q8 : Nat, w1 = [(o, .inr (4, [.int (wI 0), .int (wI (-1)), .ref q1, .ref q2, .int (wI 0), .int (wI 0), .int (wI 0), .int (wI 0)])), (q1, .inl (cy 0, 900, .inl (aI zF))), (q2, .inr (2, [.int (wI 0), .int (wI 0), .int (wI 0), .ref q3, .ref q4, .int (wI 0), .ref q5, .int (wI 0), .ref q6, .int (wI 0), .int (wI 1), .int (wI 1), .int (wI 1), .int (wI 0), .int (wI 0), .ref q7, .ref q8])), (q3, .inl (cy 1, 4, .inl (aI zF))), (q4, .inl (cy 1, 4, .inl (aI zF))), (q5, .inl (cy 1, 8, .inl (aI zF))), (q6, .inl (cy 1, 4, .inl (aI zF))), (q7, .inl (cy 1, 60, .inl (aI zF))), (q8, .inl (cy 1, 60, .inl (aI zF)))]) := by
  refine Ci.intro (j := 0) (by decide +kernel) rfl rfl rfl (fun E C e1 e2 e3 e4 e5 hin hX fin => ?_)
  refine g_aload_n 0 C dX4_init_0 rfl rfl ?_
  refine g_objInit C oi_X4_3 ⟨rfl, rfl⟩ dX4_init_1 ?_
  refine g_aload_n 0 C dX4_init_4 rfl rfl ?_
  refine g_iconst C dX4_init_5 ?_
  refine g_put (ws' := [(o, .inr (4, [.int (wI 0), .int (wI 0), .null, .null, .int (wI 0), .int (wI 0), .int (wI 0), .int (wI 0)]))]) C ip_X4_9 0 rfl (by decide +kernel) (by decide +kernel) rfl rfl dX4_init_6 ?_
  refine g_aload_n 0 C dX4_init_9 rfl rfl ?_
  refine g_iconst C dX4_init_10 ?_
  refine g_put (ws' := [(o, .inr (4, [.int (wI 0), .int (wI (-1)), .null, .null, .int (wI 0), .int (wI 0), .int (wI 0), .int (wI 0)]))]) C ip_X4_15 0 rfl (by decide +kernel) (by decide +kernel) rfl rfl dX4_init_11 ?_
  refine g_aload_n 0 C dX4_init_14 rfl rfl ?_
  refine g_sipush C dX4_init_15 rfl ?_
  refine g_newarr (atype := .byte) (ty := .byte) (a0 := (900, .inl (aI zF))) 0 C rfl rfl ac_byte (fun _ => rfl) (by decide) rfl (by decide) ⟨rfl, rfl⟩ dX4_init_18 (fun q1 => ?_)
  rw [e3]
  refine g_putF (ws' := [(o, .inr (4, [.int (wI 0), .int (wI (-1)), .ref q1, .null, .int (wI 0), .int (wI 0), .int (wI 0), .int (wI 0)])), (q1, .inl (cy 0, 900, .inl (aI zF)))]) C hin if_X4_18 0 rfl rfl rfl rfl rfl dX4_init_20 ?_
  refine g_aload_n 0 C dX4_init_23 rfl rfl ?_
  refine g_new C nw_X4_22 ⟨rfl, rfl⟩ dX4_init_24 (fun q2 => ?_)
  refine g_dup C dX4_init_27 rfl ?_
  refine g_initN (As := []) C (mbi_X2 _) rfl ini_X2 nst_X4_24 (i_X2 _ _ _ _ q2) XT_mvd trivial rfl rfl rfl rfl dX4_init_28 (fun w1 hw => ?_)
  obtain ⟨q3, q4, q5, q6, q7, q8, rfl⟩ := hw
  rw [e3]
  refine g_putF (ws' := [(o, .inr (4, [.int (wI 0), .int (wI (-1)), .ref q1, .ref q2, .int (wI 0), .int (wI 0), .int (wI 0), .int (wI 0)])), (q1, .inl (cy 0, 900, .inl (aI zF))), (q2, .inr (2, [.int (wI 0), .int (wI 0), .int (wI 0), .ref q3, .ref q4, .int (wI 0), .ref q5, .int (wI 0), .ref q6, .int (wI 0), .int (wI 1), .int (wI 1), .int (wI 1), .int (wI 0), .int (wI 0), .ref q7, .ref q8])), (q3, .inl (cy 1, 4, .inl (aI zF))), (q4, .inl (cy 1, 4, .inl (aI zF))), (q5, .inl (cy 1, 8, .inl (aI zF))), (q6, .inl (cy 1, 4, .inl (aI zF))), (q7, .inl (cy 1, 60, .inl (aI zF))), (q8, .inl (cy 1, 60, .inl (aI zF)))]) C hin if_X4_25 0 rfl rfl rfl rfl rfl dX4_init_31 ?_
  refine g_aload_n 0 C dX4_init_34 rfl rfl ?_
  refine g_iconst C dX4_init_35 ?_
  refine g_put (ws' := [(o, .inr (4, [.int (wI 0), .int (wI (-1)), .ref q1, .ref q2, .int (wI 0), .int (wI 0), .int (wI 0), .int (wI 0)])), (q1, .inl (cy 0, 900, .inl (aI zF))), (q2, .inr (2, [.int (wI 0), .int (wI 0), .int (wI 0), .ref q3, .ref q4, .int (wI 0), .ref q5, .int (wI 0), .ref q6, .int (wI 0), .int (wI 1), .int (wI 1), .int (wI 1), .int (wI 0), .int (wI 0), .ref q7, .ref q8])), (q3, .inl (cy 1, 4, .inl (aI zF))), (q4, .inl (cy 1, 4, .inl (aI zF))), (q5, .inl (cy 1, 8, .inl (aI zF))), (q6, .inl (cy 1, 4, .inl (aI zF))), (q7, .inl (cy 1, 60, .inl (aI zF))), (q8, .inl (cy 1, 60, .inl (aI zF)))]) C ip_X4_29 0 rfl (by decide +kernel) (by decide +kernel) rfl rfl dX4_init_36 ?_
  refine g_aload_n 0 C dX4_init_39 rfl rfl ?_
  refine g_iconst C dX4_init_40 ?_
  refine g_put (ws' := [(o, .inr (4, [.int (wI 0), .int (wI (-1)), .ref q1, .ref q2, .int (wI 0), .int (wI 0), .int (wI 0), .int (wI 0)])), (q1, .inl (cy 0, 900, .inl (aI zF))), (q2, .inr (2, [.int (wI 0), .int (wI 0), .int (wI 0), .ref q3, .ref q4, .int (wI 0), .ref q5, .int (wI 0), .ref q6, .int (wI 0), .int (wI 1), .int (wI 1), .int (wI 1), .int (wI 0), .int (wI 0), .ref q7, .ref q8])), (q3, .inl (cy 1, 4, .inl (aI zF))), (q4, .inl (cy 1, 4, .inl (aI zF))), (q5, .inl (cy 1, 8, .inl (aI zF))), (q6, .inl (cy 1, 4, .inl (aI zF))), (q7, .inl (cy 1, 60, .inl (aI zF))), (q8, .inl (cy 1, 60, .inl (aI zF)))]) C ip_X4_32 0 rfl (by decide +kernel) (by decide +kernel) rfl rfl dX4_init_41 ?_
  refine g_aload_n 0 C dX4_init_44 rfl rfl ?_
  refine g_iconst C dX4_init_45 ?_
  refine g_put (ws' := [(o, .inr (4, [.int (wI 0), .int (wI (-1)), .ref q1, .ref q2, .int (wI 0), .int (wI 0), .int (wI 0), .int (wI 0)])), (q1, .inl (cy 0, 900, .inl (aI zF))), (q2, .inr (2, [.int (wI 0), .int (wI 0), .int (wI 0), .ref q3, .ref q4, .int (wI 0), .ref q5, .int (wI 0), .ref q6, .int (wI 0), .int (wI 1), .int (wI 1), .int (wI 1), .int (wI 0), .int (wI 0), .ref q7, .ref q8])), (q3, .inl (cy 1, 4, .inl (aI zF))), (q4, .inl (cy 1, 4, .inl (aI zF))), (q5, .inl (cy 1, 8, .inl (aI zF))), (q6, .inl (cy 1, 4, .inl (aI zF))), (q7, .inl (cy 1, 60, .inl (aI zF))), (q8, .inl (cy 1, 60, .inl (aI zF)))]) C ip_X4_35 0 rfl (by decide +kernel) (by decide +kernel) rfl rfl dX4_init_46 ?_
  refine g_aload_n 0 C dX4_init_49 rfl rfl ?_
  refine g_iconst C dX4_init_50 ?_
  refine g_put (ws' := [(o, .inr (4, [.int (wI 0), .int (wI (-1)), .ref q1, .ref q2, .int (wI 0), .int (wI 0), .int (wI 0), .int (wI 0)])), (q1, .inl (cy 0, 900, .inl (aI zF))), (q2, .inr (2, [.int (wI 0), .int (wI 0), .int (wI 0), .ref q3, .ref q4, .int (wI 0), .ref q5, .int (wI 0), .ref q6, .int (wI 0), .int (wI 1), .int (wI 1), .int (wI 1), .int (wI 0), .int (wI 0), .ref q7, .ref q8])), (q3, .inl (cy 1, 4, .inl (aI zF))), (q4, .inl (cy 1, 4, .inl (aI zF))), (q5, .inl (cy 1, 8, .inl (aI zF))), (q6, .inl (cy 1, 4, .inl (aI zF))), (q7, .inl (cy 1, 60, .inl (aI zF))), (q8, .inl (cy 1, 60, .inl (aI zF)))]) C ip_X4_38 0 rfl (by decide +kernel) (by decide +kernel) rfl rfl dX4_init_51 ?_
  exact fin 54 _ _ ⟨q1, q2, q3, q4, q5, q6, q7, q8, rfl⟩ dX4_init_54
theorem i_X6 (l : Launch) (D : va_G) (cy : Nat → ClassId) (ad : AD) (o : Nat) : Ci l yX6_init cX6_init 1 { frames := 2, cells := 3, slots := 6, locals := 32 } D cy ad [.ref o] [(o, .inr (6, [.null, .null, .null]))] XT (fun w1 => ∃ q1 q2 q3 : Nat, w1 = [(o, .inr (6, [.ref q1, .ref q2, .ref q3])), (q1, .inr (1, [.long (wJ 0), .long (wJ 1)])), (q2, .inr (1, [.long (wJ 0), .long (wJ 1)])), (q3, .inr (1, [.long (wJ 0), .long (wJ 1)]))]) := by
  refine Ci.intro (j := 0) (by decide +kernel) rfl rfl rfl (fun E C e1 e2 e3 e4 e5 hin hX fin => ?_)
  refine g_aload_n 0 C dX6_init_0 rfl rfl ?_
  refine g_objInit C oi_X6_3 ⟨rfl, rfl⟩ dX6_init_1 ?_
  refine g_aload_n 0 C dX6_init_4 rfl rfl ?_
  refine g_new C nw_X6_9 ⟨rfl, rfl⟩ dX6_init_5 (fun q1 => ?_)
  refine g_dup C dX6_init_8 rfl ?_
  refine g_initN (As := []) C (mbi_X1 _) rfl ini_X1 nst_X6_11 (i_X1 _ _ _ _ q1) XT_mvd trivial rfl rfl rfl rfl dX6_init_9 (fun w1 hw => ?_)
  subst hw
  refine g_putF (ws' := [(o, .inr (6, [.ref q1, .null, .null])), (q1, .inr (1, [.long (wJ 0), .long (wJ 1)]))]) C hin if_X6_12 0 rfl rfl rfl rfl rfl dX6_init_12 ?_
  refine g_aload_n 0 C dX6_init_15 rfl rfl ?_
  refine g_new C nw_X6_9 ⟨rfl, rfl⟩ dX6_init_16 (fun q2 => ?_)
  refine g_dup C dX6_init_19 rfl ?_
  refine g_initN (As := []) C (mbi_X1 _) rfl ini_X1 nst_X6_11 (i_X1 _ _ _ _ q2) XT_mvd trivial rfl rfl rfl rfl dX6_init_20 (fun w1 hw => ?_)
  subst hw
  refine g_putF (ws' := [(o, .inr (6, [.ref q1, .ref q2, .null])), (q1, .inr (1, [.long (wJ 0), .long (wJ 1)])), (q2, .inr (1, [.long (wJ 0), .long (wJ 1)]))]) C hin if_X6_18 0 rfl rfl rfl rfl rfl dX6_init_23 ?_
  refine g_aload_n 0 C dX6_init_26 rfl rfl ?_
  refine g_new C nw_X6_9 ⟨rfl, rfl⟩ dX6_init_27 (fun q3 => ?_)
  refine g_dup C dX6_init_30 rfl ?_
  refine g_initN (As := []) C (mbi_X1 _) rfl ini_X1 nst_X6_11 (i_X1 _ _ _ _ q3) XT_mvd trivial rfl rfl rfl rfl dX6_init_31 (fun w1 hw => ?_)
  subst hw
  refine g_putF (ws' := [(o, .inr (6, [.ref q1, .ref q2, .ref q3])), (q1, .inr (1, [.long (wJ 0), .long (wJ 1)])), (q2, .inr (1, [.long (wJ 0), .long (wJ 1)])), (q3, .inr (1, [.long (wJ 0), .long (wJ 1)]))]) C hin if_X6_21 0 rfl rfl rfl rfl rfl dX6_init_34 ?_
  exact fin 37 _ _ ⟨q1, q2, q3, rfl⟩ dX6_init_37
theorem i_X9 (l : Launch) (D : va_G) (cy : Nat → ClassId) (ad : AD) (o : Nat) : Ci l yX9_init cX9_init 2 { frames := 1, cells := 18, slots := 9977, locals := 12 } D cy ad [.ref o] [(o, .inr (9, [.int (wI 0), .null, .null, .null, .null, .null, .int (wI 0), .int (wI 0), .int (wI 0), .int (wI 0), .int (wI 0), .long (wJ 0), .int (wI 0), .int (wI 0), .int (wI 0), .int (wI 0), .null, .null, .null, .null, .null, .null, .null, .null, .long (wJ 0), .long (wJ 0), .int (wI 0), .long (wJ 0), .long (wJ 0), .int (wI 0), .null, .null, .null, .int (wI 0), .int (wI 0), .long (wJ 0), .long (wJ 0), .long (wJ 0), .long (wJ 0), .int (wI 0), .null, .long (wJ 0), .null, .int (wI 0)]))] XT (fun w1 => ∃ q1 q2 q3 q4 q5 q6 q7 q8 q9 q10 q11 q12 q13 q14 q15 q16 q17 q18 : Nat, w1 = [(o, .inr (9, [.int (wI 0), .ref q1, .ref q2, .ref q3, .ref q4, .ref q5, .int (wI 0), .int (wI 0), .int (wI 0), .int (wI 0), .int (wI 0), .long (wJ 0), .int (wI 0), .int (wI 0), .int (wI 0), .int (wI (-1)), .ref q6, .ref q7, .ref q8, .ref q9, .ref q10, .ref q11, .ref q12, .ref q13, .long (wJ 0), .long (wJ 0), .int (wI 0), .long (wJ 0), .long (wJ 0), .int (wI 0), .ref q14, .ref q15, .ref q16, .int (wI 0), .int (wI 0), .long (wJ 0), .long (wJ 0), .long (wJ 0), .long (wJ 0), .int (wI 0), .ref q17, .long (wJ 0), .ref q18, .int (wI 0)])), (q1, .inl (cy 1, 4, .inl (aI (up (up (up (up zF 0 (-1)) 1 (-1)) 2 (-1)) 3 (-1))))), (q2, .inl (cy 1, 4, .inl (aI zF))), (q3, .inl (cy 2, 240, .inr (.inl (aJ zF)))), (q4, .inl (cy 2, 60, .inr (.inl (aJ zF)))), (q5, .inl (cy 0, 900, .inl (aI zF))), (q6, .inl (cy 1, 5, .inl (aI zF))), (q7, .inl (cy 1, 45, .inl (aI zF))), (q8, .inl (cy 1, 40, .inl (aI zF))), (q9, .inl (cy 1, 40, .inl (aI zF))), (q10, .inl (cy 1, 20, .inl (aI zF))), (q11, .inl (cy 1, 600, .inl (aI zF))), (q12, .inl (cy 3, 3, .inl (aI zF))), (q13, .inl (cy 1, 4, .inl (aI zF))), (q14, .inl (cy 3, 1024, .inl (aI zF))), (q15, .inl (cy 1, 201, .inl (aI zF))), (q16, .inl (cy 3, 6231, .inl (aI zF))), (q17, .inl (cy 2, 60, .inr (.inl (aJ zF)))), (q18, .inl (cy 1, 496, .inl (aI zF)))]) := by
  refine Ci.intro (j := 1) (by decide +kernel) rfl rfl rfl (fun E C e1 e2 e3 e4 e5 hin hX fin => ?_)
  refine g_aload_n 0 C dX9_init_0 rfl rfl ?_
  refine g_objInit C oi_X9_1 ⟨rfl, rfl⟩ dX9_init_1 ?_
  refine g_aload_n 0 C dX9_init_4 rfl rfl ?_
  refine g_iconst C dX9_init_5 ?_
  refine g_newarr (atype := .int) (ty := .int) (a0 := (4, .inl (aI zF))) 1 C rfl rfl ac_int (fun _ => rfl) (by decide) rfl (by decide) ⟨rfl, rfl⟩ dX9_init_6 (fun q1 => ?_)
  rw [e3]
  refine g_putF (ws' := [(o, .inr (9, [.int (wI 0), .ref q1, .null, .null, .null, .null, .int (wI 0), .int (wI 0), .int (wI 0), .int (wI 0), .int (wI 0), .long (wJ 0), .int (wI 0), .int (wI 0), .int (wI 0), .int (wI 0), .null, .null, .null, .null, .null, .null, .null, .null, .long (wJ 0), .long (wJ 0), .int (wI 0), .long (wJ 0), .long (wJ 0), .int (wI 0), .null, .null, .null, .int (wI 0), .int (wI 0), .long (wJ 0), .long (wJ 0), .long (wJ 0), .long (wJ 0), .int (wI 0), .null, .long (wJ 0), .null, .int (wI 0)])), (q1, .inl (cy 1, 4, .inl (aI zF)))]) C hin if_X9_7 0 rfl rfl rfl rfl rfl dX9_init_8 ?_
  refine g_aload_n 0 C dX9_init_11 rfl rfl ?_
  refine g_iconst C dX9_init_12 ?_
  refine g_newarr (atype := .int) (ty := .int) (a0 := (4, .inl (aI zF))) 1 C rfl rfl ac_int (fun _ => rfl) (by decide) rfl (by decide) ⟨rfl, rfl⟩ dX9_init_13 (fun q2 => ?_)
  rw [e3]
  refine g_putF (ws' := [(o, .inr (9, [.int (wI 0), .ref q1, .ref q2, .null, .null, .null, .int (wI 0), .int (wI 0), .int (wI 0), .int (wI 0), .int (wI 0), .long (wJ 0), .int (wI 0), .int (wI 0), .int (wI 0), .int (wI 0), .null, .null, .null, .null, .null, .null, .null, .null, .long (wJ 0), .long (wJ 0), .int (wI 0), .long (wJ 0), .long (wJ 0), .int (wI 0), .null, .null, .null, .int (wI 0), .int (wI 0), .long (wJ 0), .long (wJ 0), .long (wJ 0), .long (wJ 0), .int (wI 0), .null, .long (wJ 0), .null, .int (wI 0)])), (q1, .inl (cy 1, 4, .inl (aI zF))), (q2, .inl (cy 1, 4, .inl (aI zF)))]) C hin if_X9_13 0 rfl rfl rfl rfl rfl dX9_init_15 ?_
  refine g_aload_n 0 C dX9_init_18 rfl rfl ?_
  refine g_sipush C dX9_init_19 rfl ?_
  refine g_newarr (atype := .long) (ty := .long) (a0 := (240, .inr (.inl (aJ zF)))) 2 C rfl rfl ac_long (fun _ => rfl) (by decide) rfl (by decide) ⟨rfl, rfl⟩ dX9_init_22 (fun q3 => ?_)
  rw [e3]
  refine g_putF (ws' := [(o, .inr (9, [.int (wI 0), .ref q1, .ref q2, .ref q3, .null, .null, .int (wI 0), .int (wI 0), .int (wI 0), .int (wI 0), .int (wI 0), .long (wJ 0), .int (wI 0), .int (wI 0), .int (wI 0), .int (wI 0), .null, .null, .null, .null, .null, .null, .null, .null, .long (wJ 0), .long (wJ 0), .int (wI 0), .long (wJ 0), .long (wJ 0), .int (wI 0), .null, .null, .null, .int (wI 0), .int (wI 0), .long (wJ 0), .long (wJ 0), .long (wJ 0), .long (wJ 0), .int (wI 0), .null, .long (wJ 0), .null, .int (wI 0)])), (q1, .inl (cy 1, 4, .inl (aI zF))), (q2, .inl (cy 1, 4, .inl (aI zF))), (q3, .inl (cy 2, 240, .inr (.inl (aJ zF))))]) C hin if_X9_16 0 rfl rfl rfl rfl rfl dX9_init_24 ?_
  refine g_aload_n 0 C dX9_init_27 rfl rfl ?_
  refine g_bipush C dX9_init_28 rfl ?_
  refine g_newarr (atype := .long) (ty := .long) (a0 := (60, .inr (.inl (aJ zF)))) 2 C rfl rfl ac_long (fun _ => rfl) (by decide) rfl (by decide) ⟨rfl, rfl⟩ dX9_init_30 (fun q4 => ?_)
  rw [e3]
  refine g_putF (ws' := [(o, .inr (9, [.int (wI 0), .ref q1, .ref q2, .ref q3, .ref q4, .null, .int (wI 0), .int (wI 0), .int (wI 0), .int (wI 0), .int (wI 0), .long (wJ 0), .int (wI 0), .int (wI 0), .int (wI 0), .int (wI 0), .null, .null, .null, .null, .null, .null, .null, .null, .long (wJ 0), .long (wJ 0), .int (wI 0), .long (wJ 0), .long (wJ 0), .int (wI 0), .null, .null, .null, .int (wI 0), .int (wI 0), .long (wJ 0), .long (wJ 0), .long (wJ 0), .long (wJ 0), .int (wI 0), .null, .long (wJ 0), .null, .int (wI 0)])), (q1, .inl (cy 1, 4, .inl (aI zF))), (q2, .inl (cy 1, 4, .inl (aI zF))), (q3, .inl (cy 2, 240, .inr (.inl (aJ zF)))), (q4, .inl (cy 2, 60, .inr (.inl (aJ zF))))]) C hin if_X9_20 0 rfl rfl rfl rfl rfl dX9_init_32 ?_
  refine g_aload_n 0 C dX9_init_35 rfl rfl ?_
  refine g_sipush C dX9_init_36 rfl ?_
  refine g_newarr (atype := .byte) (ty := .byte) (a0 := (900, .inl (aI zF))) 0 C rfl rfl ac_byte (fun _ => rfl) (by decide) rfl (by decide) ⟨rfl, rfl⟩ dX9_init_39 (fun q5 => ?_)
  rw [e3]
  refine g_putF (ws' := [(o, .inr (9, [.int (wI 0), .ref q1, .ref q2, .ref q3, .ref q4, .ref q5, .int (wI 0), .int (wI 0), .int (wI 0), .int (wI 0), .int (wI 0), .long (wJ 0), .int (wI 0), .int (wI 0), .int (wI 0), .int (wI 0), .null, .null, .null, .null, .null, .null, .null, .null, .long (wJ 0), .long (wJ 0), .int (wI 0), .long (wJ 0), .long (wJ 0), .int (wI 0), .null, .null, .null, .int (wI 0), .int (wI 0), .long (wJ 0), .long (wJ 0), .long (wJ 0), .long (wJ 0), .int (wI 0), .null, .long (wJ 0), .null, .int (wI 0)])), (q1, .inl (cy 1, 4, .inl (aI zF))), (q2, .inl (cy 1, 4, .inl (aI zF))), (q3, .inl (cy 2, 240, .inr (.inl (aJ zF)))), (q4, .inl (cy 2, 60, .inr (.inl (aJ zF)))), (q5, .inl (cy 0, 900, .inl (aI zF)))]) C hin if_X9_23 0 rfl rfl rfl rfl rfl dX9_init_41 ?_
  refine g_aload_n 0 C dX9_init_44 rfl rfl ?_
  refine g_iconst C dX9_init_45 ?_
  refine g_put (ws' := [(o, .inr (9, [.int (wI 0), .ref q1, .ref q2, .ref q3, .ref q4, .ref q5, .int (wI 0), .int (wI 0), .int (wI 0), .int (wI 0), .int (wI 0), .long (wJ 0), .int (wI 0), .int (wI 0), .int (wI 0), .int (wI (-1)), .null, .null, .null, .null, .null, .null, .null, .null, .long (wJ 0), .long (wJ 0), .int (wI 0), .long (wJ 0), .long (wJ 0), .int (wI 0), .null, .null, .null, .int (wI 0), .int (wI 0), .long (wJ 0), .long (wJ 0), .long (wJ 0), .long (wJ 0), .int (wI 0), .null, .long (wJ 0), .null, .int (wI 0)])), (q1, .inl (cy 1, 4, .inl (aI zF))), (q2, .inl (cy 1, 4, .inl (aI zF))), (q3, .inl (cy 2, 240, .inr (.inl (aJ zF)))), (q4, .inl (cy 2, 60, .inr (.inl (aJ zF)))), (q5, .inl (cy 0, 900, .inl (aI zF)))]) C ip_X9_27 0 rfl (by decide +kernel) (by decide +kernel) rfl rfl dX9_init_46 ?_
  refine g_aload_n 0 C dX9_init_49 rfl rfl ?_
  refine g_iconst C dX9_init_50 ?_
  refine g_newarr (atype := .int) (ty := .int) (a0 := (5, .inl (aI zF))) 1 C rfl rfl ac_int (fun _ => rfl) (by decide) rfl (by decide) ⟨rfl, rfl⟩ dX9_init_51 (fun q6 => ?_)
  rw [e3]
  refine g_putF (ws' := [(o, .inr (9, [.int (wI 0), .ref q1, .ref q2, .ref q3, .ref q4, .ref q5, .int (wI 0), .int (wI 0), .int (wI 0), .int (wI 0), .int (wI 0), .long (wJ 0), .int (wI 0), .int (wI 0), .int (wI 0), .int (wI (-1)), .ref q6, .null, .null, .null, .null, .null, .null, .null, .long (wJ 0), .long (wJ 0), .int (wI 0), .long (wJ 0), .long (wJ 0), .int (wI 0), .null, .null, .null, .int (wI 0), .int (wI 0), .long (wJ 0), .long (wJ 0), .long (wJ 0), .long (wJ 0), .int (wI 0), .null, .long (wJ 0), .null, .int (wI 0)])), (q1, .inl (cy 1, 4, .inl (aI zF))), (q2, .inl (cy 1, 4, .inl (aI zF))), (q3, .inl (cy 2, 240, .inr (.inl (aJ zF)))), (q4, .inl (cy 2, 60, .inr (.inl (aJ zF)))), (q5, .inl (cy 0, 900, .inl (aI zF))), (q6, .inl (cy 1, 5, .inl (aI zF)))]) C hin if_X9_31 0 rfl rfl rfl rfl rfl dX9_init_53 ?_
  refine g_aload_n 0 C dX9_init_56 rfl rfl ?_
  refine g_bipush C dX9_init_57 rfl ?_
  refine g_newarr (atype := .int) (ty := .int) (a0 := (45, .inl (aI zF))) 1 C rfl rfl ac_int (fun _ => rfl) (by decide) rfl (by decide) ⟨rfl, rfl⟩ dX9_init_59 (fun q7 => ?_)
  rw [e3]
  refine g_putF (ws' := [(o, .inr (9, [.int (wI 0), .ref q1, .ref q2, .ref q3, .ref q4, .ref q5, .int (wI 0), .int (wI 0), .int (wI 0), .int (wI 0), .int (wI 0), .long (wJ 0), .int (wI 0), .int (wI 0), .int (wI 0), .int (wI (-1)), .ref q6, .ref q7, .null, .null, .null, .null, .null, .null, .long (wJ 0), .long (wJ 0), .int (wI 0), .long (wJ 0), .long (wJ 0), .int (wI 0), .null, .null, .null, .int (wI 0), .int (wI 0), .long (wJ 0), .long (wJ 0), .long (wJ 0), .long (wJ 0), .int (wI 0), .null, .long (wJ 0), .null, .int (wI 0)])), (q1, .inl (cy 1, 4, .inl (aI zF))), (q2, .inl (cy 1, 4, .inl (aI zF))), (q3, .inl (cy 2, 240, .inr (.inl (aJ zF)))), (q4, .inl (cy 2, 60, .inr (.inl (aJ zF)))), (q5, .inl (cy 0, 900, .inl (aI zF))), (q6, .inl (cy 1, 5, .inl (aI zF))), (q7, .inl (cy 1, 45, .inl (aI zF)))]) C hin if_X9_34 0 rfl rfl rfl rfl rfl dX9_init_61 ?_
  refine g_aload_n 0 C dX9_init_64 rfl rfl ?_
  refine g_bipush C dX9_init_65 rfl ?_
  refine g_newarr (atype := .int) (ty := .int) (a0 := (40, .inl (aI zF))) 1 C rfl rfl ac_int (fun _ => rfl) (by decide) rfl (by decide) ⟨rfl, rfl⟩ dX9_init_67 (fun q8 => ?_)
  rw [e3]
  refine g_putF (ws' := [(o, .inr (9, [.int (wI 0), .ref q1, .ref q2, .ref q3, .ref q4, .ref q5, .int (wI 0), .int (wI 0), .int (wI 0), .int (wI 0), .int (wI 0), .long (wJ 0), .int (wI 0), .int (wI 0), .int (wI 0), .int (wI (-1)), .ref q6, .ref q7, .ref q8, .null, .null, .null, .null, .null, .long (wJ 0), .long (wJ 0), .int (wI 0), .long (wJ 0), .long (wJ 0), .int (wI 0), .null, .null, .null, .int (wI 0), .int (wI 0), .long (wJ 0), .long (wJ 0), .long (wJ 0), .long (wJ 0), .int (wI 0), .null, .long (wJ 0), .null, .int (wI 0)])), (q1, .inl (cy 1, 4, .inl (aI zF))), (q2, .inl (cy 1, 4, .inl (aI zF))), (q3, .inl (cy 2, 240, .inr (.inl (aJ zF)))), (q4, .inl (cy 2, 60, .inr (.inl (aJ zF)))), (q5, .inl (cy 0, 900, .inl (aI zF))), (q6, .inl (cy 1, 5, .inl (aI zF))), (q7, .inl (cy 1, 45, .inl (aI zF))), (q8, .inl (cy 1, 40, .inl (aI zF)))]) C hin if_X9_37 0 rfl rfl rfl rfl rfl dX9_init_69 ?_
  refine g_aload_n 0 C dX9_init_72 rfl rfl ?_
  refine g_bipush C dX9_init_73 rfl ?_
  refine g_newarr (atype := .int) (ty := .int) (a0 := (40, .inl (aI zF))) 1 C rfl rfl ac_int (fun _ => rfl) (by decide) rfl (by decide) ⟨rfl, rfl⟩ dX9_init_75 (fun q9 => ?_)
  rw [e3]
  refine g_putF (ws' := [(o, .inr (9, [.int (wI 0), .ref q1, .ref q2, .ref q3, .ref q4, .ref q5, .int (wI 0), .int (wI 0), .int (wI 0), .int (wI 0), .int (wI 0), .long (wJ 0), .int (wI 0), .int (wI 0), .int (wI 0), .int (wI (-1)), .ref q6, .ref q7, .ref q8, .ref q9, .null, .null, .null, .null, .long (wJ 0), .long (wJ 0), .int (wI 0), .long (wJ 0), .long (wJ 0), .int (wI 0), .null, .null, .null, .int (wI 0), .int (wI 0), .long (wJ 0), .long (wJ 0), .long (wJ 0), .long (wJ 0), .int (wI 0), .null, .long (wJ 0), .null, .int (wI 0)])), (q1, .inl (cy 1, 4, .inl (aI zF))), (q2, .inl (cy 1, 4, .inl (aI zF))), (q3, .inl (cy 2, 240, .inr (.inl (aJ zF)))), (q4, .inl (cy 2, 60, .inr (.inl (aJ zF)))), (q5, .inl (cy 0, 900, .inl (aI zF))), (q6, .inl (cy 1, 5, .inl (aI zF))), (q7, .inl (cy 1, 45, .inl (aI zF))), (q8, .inl (cy 1, 40, .inl (aI zF))), (q9, .inl (cy 1, 40, .inl (aI zF)))]) C hin if_X9_40 0 rfl rfl rfl rfl rfl dX9_init_77 ?_
  refine g_aload_n 0 C dX9_init_80 rfl rfl ?_
  refine g_bipush C dX9_init_81 rfl ?_
  refine g_newarr (atype := .int) (ty := .int) (a0 := (20, .inl (aI zF))) 1 C rfl rfl ac_int (fun _ => rfl) (by decide) rfl (by decide) ⟨rfl, rfl⟩ dX9_init_83 (fun q10 => ?_)
  rw [e3]
  refine g_putF (ws' := [(o, .inr (9, [.int (wI 0), .ref q1, .ref q2, .ref q3, .ref q4, .ref q5, .int (wI 0), .int (wI 0), .int (wI 0), .int (wI 0), .int (wI 0), .long (wJ 0), .int (wI 0), .int (wI 0), .int (wI 0), .int (wI (-1)), .ref q6, .ref q7, .ref q8, .ref q9, .ref q10, .null, .null, .null, .long (wJ 0), .long (wJ 0), .int (wI 0), .long (wJ 0), .long (wJ 0), .int (wI 0), .null, .null, .null, .int (wI 0), .int (wI 0), .long (wJ 0), .long (wJ 0), .long (wJ 0), .long (wJ 0), .int (wI 0), .null, .long (wJ 0), .null, .int (wI 0)])), (q1, .inl (cy 1, 4, .inl (aI zF))), (q2, .inl (cy 1, 4, .inl (aI zF))), (q3, .inl (cy 2, 240, .inr (.inl (aJ zF)))), (q4, .inl (cy 2, 60, .inr (.inl (aJ zF)))), (q5, .inl (cy 0, 900, .inl (aI zF))), (q6, .inl (cy 1, 5, .inl (aI zF))), (q7, .inl (cy 1, 45, .inl (aI zF))), (q8, .inl (cy 1, 40, .inl (aI zF))), (q9, .inl (cy 1, 40, .inl (aI zF))), (q10, .inl (cy 1, 20, .inl (aI zF)))]) C hin if_X9_43 0 rfl rfl rfl rfl rfl dX9_init_85 ?_
  refine g_aload_n 0 C dX9_init_88 rfl rfl ?_
  refine g_sipush C dX9_init_89 rfl ?_
  refine g_newarr (atype := .int) (ty := .int) (a0 := (600, .inl (aI zF))) 1 C rfl rfl ac_int (fun _ => rfl) (by decide) rfl (by decide) ⟨rfl, rfl⟩ dX9_init_92 (fun q11 => ?_)
  rw [e3]
  refine g_putF (ws' := [(o, .inr (9, [.int (wI 0), .ref q1, .ref q2, .ref q3, .ref q4, .ref q5, .int (wI 0), .int (wI 0), .int (wI 0), .int (wI 0), .int (wI 0), .long (wJ 0), .int (wI 0), .int (wI 0), .int (wI 0), .int (wI (-1)), .ref q6, .ref q7, .ref q8, .ref q9, .ref q10, .ref q11, .null, .null, .long (wJ 0), .long (wJ 0), .int (wI 0), .long (wJ 0), .long (wJ 0), .int (wI 0), .null, .null, .null, .int (wI 0), .int (wI 0), .long (wJ 0), .long (wJ 0), .long (wJ 0), .long (wJ 0), .int (wI 0), .null, .long (wJ 0), .null, .int (wI 0)])), (q1, .inl (cy 1, 4, .inl (aI zF))), (q2, .inl (cy 1, 4, .inl (aI zF))), (q3, .inl (cy 2, 240, .inr (.inl (aJ zF)))), (q4, .inl (cy 2, 60, .inr (.inl (aJ zF)))), (q5, .inl (cy 0, 900, .inl (aI zF))), (q6, .inl (cy 1, 5, .inl (aI zF))), (q7, .inl (cy 1, 45, .inl (aI zF))), (q8, .inl (cy 1, 40, .inl (aI zF))), (q9, .inl (cy 1, 40, .inl (aI zF))), (q10, .inl (cy 1, 20, .inl (aI zF))), (q11, .inl (cy 1, 600, .inl (aI zF)))]) C hin if_X9_46 0 rfl rfl rfl rfl rfl dX9_init_94 ?_
  refine g_aload_n 0 C dX9_init_97 rfl rfl ?_
  refine g_iconst C dX9_init_98 ?_
  refine g_newarr (atype := .boolean) (ty := .boolean) (a0 := (3, .inl (aI zF))) 3 C rfl rfl ac_boolean (fun _ => rfl) (by decide) rfl (by decide) ⟨rfl, rfl⟩ dX9_init_99 (fun q12 => ?_)
  rw [e3]
  refine g_putF (ws' := [(o, .inr (9, [.int (wI 0), .ref q1, .ref q2, .ref q3, .ref q4, .ref q5, .int (wI 0), .int (wI 0), .int (wI 0), .int (wI 0), .int (wI 0), .long (wJ 0), .int (wI 0), .int (wI 0), .int (wI 0), .int (wI (-1)), .ref q6, .ref q7, .ref q8, .ref q9, .ref q10, .ref q11, .ref q12, .null, .long (wJ 0), .long (wJ 0), .int (wI 0), .long (wJ 0), .long (wJ 0), .int (wI 0), .null, .null, .null, .int (wI 0), .int (wI 0), .long (wJ 0), .long (wJ 0), .long (wJ 0), .long (wJ 0), .int (wI 0), .null, .long (wJ 0), .null, .int (wI 0)])), (q1, .inl (cy 1, 4, .inl (aI zF))), (q2, .inl (cy 1, 4, .inl (aI zF))), (q3, .inl (cy 2, 240, .inr (.inl (aJ zF)))), (q4, .inl (cy 2, 60, .inr (.inl (aJ zF)))), (q5, .inl (cy 0, 900, .inl (aI zF))), (q6, .inl (cy 1, 5, .inl (aI zF))), (q7, .inl (cy 1, 45, .inl (aI zF))), (q8, .inl (cy 1, 40, .inl (aI zF))), (q9, .inl (cy 1, 40, .inl (aI zF))), (q10, .inl (cy 1, 20, .inl (aI zF))), (q11, .inl (cy 1, 600, .inl (aI zF))), (q12, .inl (cy 3, 3, .inl (aI zF)))]) C hin if_X9_49 0 rfl rfl rfl rfl rfl dX9_init_101 ?_
  refine g_aload_n 0 C dX9_init_104 rfl rfl ?_
  refine g_iconst C dX9_init_105 ?_
  refine g_newarr (atype := .int) (ty := .int) (a0 := (4, .inl (aI zF))) 1 C rfl rfl ac_int (fun _ => rfl) (by decide) rfl (by decide) ⟨rfl, rfl⟩ dX9_init_106 (fun q13 => ?_)
  rw [e3]
  refine g_putF (ws' := [(o, .inr (9, [.int (wI 0), .ref q1, .ref q2, .ref q3, .ref q4, .ref q5, .int (wI 0), .int (wI 0), .int (wI 0), .int (wI 0), .int (wI 0), .long (wJ 0), .int (wI 0), .int (wI 0), .int (wI 0), .int (wI (-1)), .ref q6, .ref q7, .ref q8, .ref q9, .ref q10, .ref q11, .ref q12, .ref q13, .long (wJ 0), .long (wJ 0), .int (wI 0), .long (wJ 0), .long (wJ 0), .int (wI 0), .null, .null, .null, .int (wI 0), .int (wI 0), .long (wJ 0), .long (wJ 0), .long (wJ 0), .long (wJ 0), .int (wI 0), .null, .long (wJ 0), .null, .int (wI 0)])), (q1, .inl (cy 1, 4, .inl (aI zF))), (q2, .inl (cy 1, 4, .inl (aI zF))), (q3, .inl (cy 2, 240, .inr (.inl (aJ zF)))), (q4, .inl (cy 2, 60, .inr (.inl (aJ zF)))), (q5, .inl (cy 0, 900, .inl (aI zF))), (q6, .inl (cy 1, 5, .inl (aI zF))), (q7, .inl (cy 1, 45, .inl (aI zF))), (q8, .inl (cy 1, 40, .inl (aI zF))), (q9, .inl (cy 1, 40, .inl (aI zF))), (q10, .inl (cy 1, 20, .inl (aI zF))), (q11, .inl (cy 1, 600, .inl (aI zF))), (q12, .inl (cy 3, 3, .inl (aI zF))), (q13, .inl (cy 1, 4, .inl (aI zF)))]) C hin if_X9_53 0 rfl rfl rfl rfl rfl dX9_init_108 ?_
  refine g_aload_n 0 C dX9_init_111 rfl rfl ?_
  refine g_sipush C dX9_init_112 rfl ?_
  refine g_newarr (atype := .boolean) (ty := .boolean) (a0 := (1024, .inl (aI zF))) 3 C rfl rfl ac_boolean (fun _ => rfl) (by decide) rfl (by decide) ⟨rfl, rfl⟩ dX9_init_115 (fun q14 => ?_)
  rw [e3]
  refine g_putF (ws' := [(o, .inr (9, [.int (wI 0), .ref q1, .ref q2, .ref q3, .ref q4, .ref q5, .int (wI 0), .int (wI 0), .int (wI 0), .int (wI 0), .int (wI 0), .long (wJ 0), .int (wI 0), .int (wI 0), .int (wI 0), .int (wI (-1)), .ref q6, .ref q7, .ref q8, .ref q9, .ref q10, .ref q11, .ref q12, .ref q13, .long (wJ 0), .long (wJ 0), .int (wI 0), .long (wJ 0), .long (wJ 0), .int (wI 0), .ref q14, .null, .null, .int (wI 0), .int (wI 0), .long (wJ 0), .long (wJ 0), .long (wJ 0), .long (wJ 0), .int (wI 0), .null, .long (wJ 0), .null, .int (wI 0)])), (q1, .inl (cy 1, 4, .inl (aI zF))), (q2, .inl (cy 1, 4, .inl (aI zF))), (q3, .inl (cy 2, 240, .inr (.inl (aJ zF)))), (q4, .inl (cy 2, 60, .inr (.inl (aJ zF)))), (q5, .inl (cy 0, 900, .inl (aI zF))), (q6, .inl (cy 1, 5, .inl (aI zF))), (q7, .inl (cy 1, 45, .inl (aI zF))), (q8, .inl (cy 1, 40, .inl (aI zF))), (q9, .inl (cy 1, 40, .inl (aI zF))), (q10, .inl (cy 1, 20, .inl (aI zF))), (q11, .inl (cy 1, 600, .inl (aI zF))), (q12, .inl (cy 3, 3, .inl (aI zF))), (q13, .inl (cy 1, 4, .inl (aI zF))), (q14, .inl (cy 3, 1024, .inl (aI zF)))]) C hin if_X9_56 0 rfl rfl rfl rfl rfl dX9_init_117 ?_
  refine g_aload_n 0 C dX9_init_120 rfl rfl ?_
  refine g_sipush C dX9_init_121 rfl ?_
  refine g_newarr (atype := .int) (ty := .int) (a0 := (201, .inl (aI zF))) 1 C rfl rfl ac_int (fun _ => rfl) (by decide) rfl (by decide) ⟨rfl, rfl⟩ dX9_init_124 (fun q15 => ?_)
  rw [e3]
  refine g_putF (ws' := [(o, .inr (9, [.int (wI 0), .ref q1, .ref q2, .ref q3, .ref q4, .ref q5, .int (wI 0), .int (wI 0), .int (wI 0), .int (wI 0), .int (wI 0), .long (wJ 0), .int (wI 0), .int (wI 0), .int (wI 0), .int (wI (-1)), .ref q6, .ref q7, .ref q8, .ref q9, .ref q10, .ref q11, .ref q12, .ref q13, .long (wJ 0), .long (wJ 0), .int (wI 0), .long (wJ 0), .long (wJ 0), .int (wI 0), .ref q14, .ref q15, .null, .int (wI 0), .int (wI 0), .long (wJ 0), .long (wJ 0), .long (wJ 0), .long (wJ 0), .int (wI 0), .null, .long (wJ 0), .null, .int (wI 0)])), (q1, .inl (cy 1, 4, .inl (aI zF))), (q2, .inl (cy 1, 4, .inl (aI zF))), (q3, .inl (cy 2, 240, .inr (.inl (aJ zF)))), (q4, .inl (cy 2, 60, .inr (.inl (aJ zF)))), (q5, .inl (cy 0, 900, .inl (aI zF))), (q6, .inl (cy 1, 5, .inl (aI zF))), (q7, .inl (cy 1, 45, .inl (aI zF))), (q8, .inl (cy 1, 40, .inl (aI zF))), (q9, .inl (cy 1, 40, .inl (aI zF))), (q10, .inl (cy 1, 20, .inl (aI zF))), (q11, .inl (cy 1, 600, .inl (aI zF))), (q12, .inl (cy 3, 3, .inl (aI zF))), (q13, .inl (cy 1, 4, .inl (aI zF))), (q14, .inl (cy 3, 1024, .inl (aI zF))), (q15, .inl (cy 1, 201, .inl (aI zF)))]) C hin if_X9_59 0 rfl rfl rfl rfl rfl dX9_init_126 ?_
  refine g_aload_n 0 C dX9_init_129 rfl rfl ?_
  refine g_sipush C dX9_init_130 rfl ?_
  refine g_newarr (atype := .boolean) (ty := .boolean) (a0 := (6231, .inl (aI zF))) 3 C rfl rfl ac_boolean (fun _ => rfl) (by decide) rfl (by decide) ⟨rfl, rfl⟩ dX9_init_133 (fun q16 => ?_)
  rw [e3]
  refine g_putF (ws' := [(o, .inr (9, [.int (wI 0), .ref q1, .ref q2, .ref q3, .ref q4, .ref q5, .int (wI 0), .int (wI 0), .int (wI 0), .int (wI 0), .int (wI 0), .long (wJ 0), .int (wI 0), .int (wI 0), .int (wI 0), .int (wI (-1)), .ref q6, .ref q7, .ref q8, .ref q9, .ref q10, .ref q11, .ref q12, .ref q13, .long (wJ 0), .long (wJ 0), .int (wI 0), .long (wJ 0), .long (wJ 0), .int (wI 0), .ref q14, .ref q15, .ref q16, .int (wI 0), .int (wI 0), .long (wJ 0), .long (wJ 0), .long (wJ 0), .long (wJ 0), .int (wI 0), .null, .long (wJ 0), .null, .int (wI 0)])), (q1, .inl (cy 1, 4, .inl (aI zF))), (q2, .inl (cy 1, 4, .inl (aI zF))), (q3, .inl (cy 2, 240, .inr (.inl (aJ zF)))), (q4, .inl (cy 2, 60, .inr (.inl (aJ zF)))), (q5, .inl (cy 0, 900, .inl (aI zF))), (q6, .inl (cy 1, 5, .inl (aI zF))), (q7, .inl (cy 1, 45, .inl (aI zF))), (q8, .inl (cy 1, 40, .inl (aI zF))), (q9, .inl (cy 1, 40, .inl (aI zF))), (q10, .inl (cy 1, 20, .inl (aI zF))), (q11, .inl (cy 1, 600, .inl (aI zF))), (q12, .inl (cy 3, 3, .inl (aI zF))), (q13, .inl (cy 1, 4, .inl (aI zF))), (q14, .inl (cy 3, 1024, .inl (aI zF))), (q15, .inl (cy 1, 201, .inl (aI zF))), (q16, .inl (cy 3, 6231, .inl (aI zF)))]) C hin if_X9_62 0 rfl rfl rfl rfl rfl dX9_init_135 ?_
  refine g_aload_n 0 C dX9_init_138 rfl rfl ?_
  refine g_bipush C dX9_init_139 rfl ?_
  refine g_newarr (atype := .long) (ty := .long) (a0 := (60, .inr (.inl (aJ zF)))) 2 C rfl rfl ac_long (fun _ => rfl) (by decide) rfl (by decide) ⟨rfl, rfl⟩ dX9_init_141 (fun q17 => ?_)
  rw [e3]
  refine g_putF (ws' := [(o, .inr (9, [.int (wI 0), .ref q1, .ref q2, .ref q3, .ref q4, .ref q5, .int (wI 0), .int (wI 0), .int (wI 0), .int (wI 0), .int (wI 0), .long (wJ 0), .int (wI 0), .int (wI 0), .int (wI 0), .int (wI (-1)), .ref q6, .ref q7, .ref q8, .ref q9, .ref q10, .ref q11, .ref q12, .ref q13, .long (wJ 0), .long (wJ 0), .int (wI 0), .long (wJ 0), .long (wJ 0), .int (wI 0), .ref q14, .ref q15, .ref q16, .int (wI 0), .int (wI 0), .long (wJ 0), .long (wJ 0), .long (wJ 0), .long (wJ 0), .int (wI 0), .ref q17, .long (wJ 0), .null, .int (wI 0)])), (q1, .inl (cy 1, 4, .inl (aI zF))), (q2, .inl (cy 1, 4, .inl (aI zF))), (q3, .inl (cy 2, 240, .inr (.inl (aJ zF)))), (q4, .inl (cy 2, 60, .inr (.inl (aJ zF)))), (q5, .inl (cy 0, 900, .inl (aI zF))), (q6, .inl (cy 1, 5, .inl (aI zF))), (q7, .inl (cy 1, 45, .inl (aI zF))), (q8, .inl (cy 1, 40, .inl (aI zF))), (q9, .inl (cy 1, 40, .inl (aI zF))), (q10, .inl (cy 1, 20, .inl (aI zF))), (q11, .inl (cy 1, 600, .inl (aI zF))), (q12, .inl (cy 3, 3, .inl (aI zF))), (q13, .inl (cy 1, 4, .inl (aI zF))), (q14, .inl (cy 3, 1024, .inl (aI zF))), (q15, .inl (cy 1, 201, .inl (aI zF))), (q16, .inl (cy 3, 6231, .inl (aI zF))), (q17, .inl (cy 2, 60, .inr (.inl (aJ zF))))]) C hin if_X9_65 0 rfl rfl rfl rfl rfl dX9_init_143 ?_
  refine g_aload_n 0 C dX9_init_146 rfl rfl ?_
  refine g_sipush C dX9_init_147 rfl ?_
  refine g_newarr (atype := .int) (ty := .int) (a0 := (496, .inl (aI zF))) 1 C rfl rfl ac_int (fun _ => rfl) (by decide) rfl (by decide) ⟨rfl, rfl⟩ dX9_init_150 (fun q18 => ?_)
  rw [e3]
  refine g_putF (ws' := [(o, .inr (9, [.int (wI 0), .ref q1, .ref q2, .ref q3, .ref q4, .ref q5, .int (wI 0), .int (wI 0), .int (wI 0), .int (wI 0), .int (wI 0), .long (wJ 0), .int (wI 0), .int (wI 0), .int (wI 0), .int (wI (-1)), .ref q6, .ref q7, .ref q8, .ref q9, .ref q10, .ref q11, .ref q12, .ref q13, .long (wJ 0), .long (wJ 0), .int (wI 0), .long (wJ 0), .long (wJ 0), .int (wI 0), .ref q14, .ref q15, .ref q16, .int (wI 0), .int (wI 0), .long (wJ 0), .long (wJ 0), .long (wJ 0), .long (wJ 0), .int (wI 0), .ref q17, .long (wJ 0), .ref q18, .int (wI 0)])), (q1, .inl (cy 1, 4, .inl (aI zF))), (q2, .inl (cy 1, 4, .inl (aI zF))), (q3, .inl (cy 2, 240, .inr (.inl (aJ zF)))), (q4, .inl (cy 2, 60, .inr (.inl (aJ zF)))), (q5, .inl (cy 0, 900, .inl (aI zF))), (q6, .inl (cy 1, 5, .inl (aI zF))), (q7, .inl (cy 1, 45, .inl (aI zF))), (q8, .inl (cy 1, 40, .inl (aI zF))), (q9, .inl (cy 1, 40, .inl (aI zF))), (q10, .inl (cy 1, 20, .inl (aI zF))), (q11, .inl (cy 1, 600, .inl (aI zF))), (q12, .inl (cy 3, 3, .inl (aI zF))), (q13, .inl (cy 1, 4, .inl (aI zF))), (q14, .inl (cy 3, 1024, .inl (aI zF))), (q15, .inl (cy 1, 201, .inl (aI zF))), (q16, .inl (cy 3, 6231, .inl (aI zF))), (q17, .inl (cy 2, 60, .inr (.inl (aJ zF)))), (q18, .inl (cy 1, 496, .inl (aI zF)))]) C hin if_X9_68 0 rfl rfl rfl rfl rfl dX9_init_152 ?_
  refine g_iconst C dX9_init_155 ?_
  refine g_istore_n (L' := [some (.ref o), some (.int (wI 0))]) 1 C e5 dX9_init_156 rfl rfl rfl ?_
  refine g_iload_n 1 C dX9_init_157 rfl rfl ?_
  refine g_iconst C dX9_init_158 ?_
  refine g_icmp_ge (X := none) (Y := some ()) (v := ()) 175 C dX9_init_159 rfl (by decide) (fun h => nomatch h) (fun _ => ?_)
  refine g_aload_n 0 C dX9_init_162 rfl rfl ?_
  refine g_get C ig_X9_7 0 rfl rfl dX9_init_163 ?_
  refine g_iload_n 1 C dX9_init_166 rfl rfl ?_
  refine g_iconst C dX9_init_167 ?_
  refine g_iast (f := zF) (i := 0) (x := -1) (ws' := [(o, .inr (9, [.int (wI 0), .ref q1, .ref q2, .ref q3, .ref q4, .ref q5, .int (wI 0), .int (wI 0), .int (wI 0), .int (wI 0), .int (wI 0), .long (wJ 0), .int (wI 0), .int (wI 0), .int (wI 0), .int (wI (-1)), .ref q6, .ref q7, .ref q8, .ref q9, .ref q10, .ref q11, .ref q12, .ref q13, .long (wJ 0), .long (wJ 0), .int (wI 0), .long (wJ 0), .long (wJ 0), .int (wI 0), .ref q14, .ref q15, .ref q16, .int (wI 0), .int (wI 0), .long (wJ 0), .long (wJ 0), .long (wJ 0), .long (wJ 0), .int (wI 0), .ref q17, .long (wJ 0), .ref q18, .int (wI 0)])), (q1, .inl (cy 1, 4, .inl (aI (up zF 0 (-1))))), (q2, .inl (cy 1, 4, .inl (aI zF))), (q3, .inl (cy 2, 240, .inr (.inl (aJ zF)))), (q4, .inl (cy 2, 60, .inr (.inl (aJ zF)))), (q5, .inl (cy 0, 900, .inl (aI zF))), (q6, .inl (cy 1, 5, .inl (aI zF))), (q7, .inl (cy 1, 45, .inl (aI zF))), (q8, .inl (cy 1, 40, .inl (aI zF))), (q9, .inl (cy 1, 40, .inl (aI zF))), (q10, .inl (cy 1, 20, .inl (aI zF))), (q11, .inl (cy 1, 600, .inl (aI zF))), (q12, .inl (cy 3, 3, .inl (aI zF))), (q13, .inl (cy 1, 4, .inl (aI zF))), (q14, .inl (cy 3, 1024, .inl (aI zF))), (q15, .inl (cy 1, 201, .inl (aI zF))), (q16, .inl (cy 3, 6231, .inl (aI zF))), (q17, .inl (cy 2, 60, .inr (.inl (aJ zF)))), (q18, .inl (cy 1, 496, .inl (aI zF)))]) C 1 (by rw [e3]; rfl) (by decide) rfl (by rw [e3]; rfl) dX9_init_168 ?_
  refine g_iinc (x := 0) (L' := [some (.ref o), some (.int (wI 1))]) C e5 dX9_init_169 rfl rfl rfl ?_
  refine g_goto (tgt := 157) C dX9_init_172 rfl ?_
  refine g_iload_n 1 C dX9_init_157 rfl rfl ?_
  refine g_iconst C dX9_init_158 ?_
  refine g_icmp_ge (X := none) (Y := some ()) (v := ()) 175 C dX9_init_159 rfl (by decide) (fun h => nomatch h) (fun _ => ?_)
  refine g_aload_n 0 C dX9_init_162 rfl rfl ?_
  refine g_get C ig_X9_7 0 rfl rfl dX9_init_163 ?_
  refine g_iload_n 1 C dX9_init_166 rfl rfl ?_
  refine g_iconst C dX9_init_167 ?_
  refine g_iast (f := (up zF 0 (-1))) (i := 1) (x := -1) (ws' := [(o, .inr (9, [.int (wI 0), .ref q1, .ref q2, .ref q3, .ref q4, .ref q5, .int (wI 0), .int (wI 0), .int (wI 0), .int (wI 0), .int (wI 0), .long (wJ 0), .int (wI 0), .int (wI 0), .int (wI 0), .int (wI (-1)), .ref q6, .ref q7, .ref q8, .ref q9, .ref q10, .ref q11, .ref q12, .ref q13, .long (wJ 0), .long (wJ 0), .int (wI 0), .long (wJ 0), .long (wJ 0), .int (wI 0), .ref q14, .ref q15, .ref q16, .int (wI 0), .int (wI 0), .long (wJ 0), .long (wJ 0), .long (wJ 0), .long (wJ 0), .int (wI 0), .ref q17, .long (wJ 0), .ref q18, .int (wI 0)])), (q1, .inl (cy 1, 4, .inl (aI (up (up zF 0 (-1)) 1 (-1))))), (q2, .inl (cy 1, 4, .inl (aI zF))), (q3, .inl (cy 2, 240, .inr (.inl (aJ zF)))), (q4, .inl (cy 2, 60, .inr (.inl (aJ zF)))), (q5, .inl (cy 0, 900, .inl (aI zF))), (q6, .inl (cy 1, 5, .inl (aI zF))), (q7, .inl (cy 1, 45, .inl (aI zF))), (q8, .inl (cy 1, 40, .inl (aI zF))), (q9, .inl (cy 1, 40, .inl (aI zF))), (q10, .inl (cy 1, 20, .inl (aI zF))), (q11, .inl (cy 1, 600, .inl (aI zF))), (q12, .inl (cy 3, 3, .inl (aI zF))), (q13, .inl (cy 1, 4, .inl (aI zF))), (q14, .inl (cy 3, 1024, .inl (aI zF))), (q15, .inl (cy 1, 201, .inl (aI zF))), (q16, .inl (cy 3, 6231, .inl (aI zF))), (q17, .inl (cy 2, 60, .inr (.inl (aJ zF)))), (q18, .inl (cy 1, 496, .inl (aI zF)))]) C 1 (by rw [e3]; rfl) (by decide) rfl (by rw [e3]; rfl) dX9_init_168 ?_
  refine g_iinc (x := 1) (L' := [some (.ref o), some (.int (wI 2))]) C e5 dX9_init_169 rfl rfl rfl ?_
  refine g_goto (tgt := 157) C dX9_init_172 rfl ?_
  refine g_iload_n 1 C dX9_init_157 rfl rfl ?_
  refine g_iconst C dX9_init_158 ?_
  refine g_icmp_ge (X := none) (Y := some ()) (v := ()) 175 C dX9_init_159 rfl (by decide) (fun h => nomatch h) (fun _ => ?_)
  refine g_aload_n 0 C dX9_init_162 rfl rfl ?_
  refine g_get C ig_X9_7 0 rfl rfl dX9_init_163 ?_
  refine g_iload_n 1 C dX9_init_166 rfl rfl ?_
  refine g_iconst C dX9_init_167 ?_
  refine g_iast (f := (up (up zF 0 (-1)) 1 (-1))) (i := 2) (x := -1) (ws' := [(o, .inr (9, [.int (wI 0), .ref q1, .ref q2, .ref q3, .ref q4, .ref q5, .int (wI 0), .int (wI 0), .int (wI 0), .int (wI 0), .int (wI 0), .long (wJ 0), .int (wI 0), .int (wI 0), .int (wI 0), .int (wI (-1)), .ref q6, .ref q7, .ref q8, .ref q9, .ref q10, .ref q11, .ref q12, .ref q13, .long (wJ 0), .long (wJ 0), .int (wI 0), .long (wJ 0), .long (wJ 0), .int (wI 0), .ref q14, .ref q15, .ref q16, .int (wI 0), .int (wI 0), .long (wJ 0), .long (wJ 0), .long (wJ 0), .long (wJ 0), .int (wI 0), .ref q17, .long (wJ 0), .ref q18, .int (wI 0)])), (q1, .inl (cy 1, 4, .inl (aI (up (up (up zF 0 (-1)) 1 (-1)) 2 (-1))))), (q2, .inl (cy 1, 4, .inl (aI zF))), (q3, .inl (cy 2, 240, .inr (.inl (aJ zF)))), (q4, .inl (cy 2, 60, .inr (.inl (aJ zF)))), (q5, .inl (cy 0, 900, .inl (aI zF))), (q6, .inl (cy 1, 5, .inl (aI zF))), (q7, .inl (cy 1, 45, .inl (aI zF))), (q8, .inl (cy 1, 40, .inl (aI zF))), (q9, .inl (cy 1, 40, .inl (aI zF))), (q10, .inl (cy 1, 20, .inl (aI zF))), (q11, .inl (cy 1, 600, .inl (aI zF))), (q12, .inl (cy 3, 3, .inl (aI zF))), (q13, .inl (cy 1, 4, .inl (aI zF))), (q14, .inl (cy 3, 1024, .inl (aI zF))), (q15, .inl (cy 1, 201, .inl (aI zF))), (q16, .inl (cy 3, 6231, .inl (aI zF))), (q17, .inl (cy 2, 60, .inr (.inl (aJ zF)))), (q18, .inl (cy 1, 496, .inl (aI zF)))]) C 1 (by rw [e3]; rfl) (by decide) rfl (by rw [e3]; rfl) dX9_init_168 ?_
  refine g_iinc (x := 2) (L' := [some (.ref o), some (.int (wI 3))]) C e5 dX9_init_169 rfl rfl rfl ?_
  refine g_goto (tgt := 157) C dX9_init_172 rfl ?_
  refine g_iload_n 1 C dX9_init_157 rfl rfl ?_
  refine g_iconst C dX9_init_158 ?_
  refine g_icmp_ge (X := none) (Y := some ()) (v := ()) 175 C dX9_init_159 rfl (by decide) (fun h => nomatch h) (fun _ => ?_)
  refine g_aload_n 0 C dX9_init_162 rfl rfl ?_
  refine g_get C ig_X9_7 0 rfl rfl dX9_init_163 ?_
  refine g_iload_n 1 C dX9_init_166 rfl rfl ?_
  refine g_iconst C dX9_init_167 ?_
  refine g_iast (f := (up (up (up zF 0 (-1)) 1 (-1)) 2 (-1))) (i := 3) (x := -1) (ws' := [(o, .inr (9, [.int (wI 0), .ref q1, .ref q2, .ref q3, .ref q4, .ref q5, .int (wI 0), .int (wI 0), .int (wI 0), .int (wI 0), .int (wI 0), .long (wJ 0), .int (wI 0), .int (wI 0), .int (wI 0), .int (wI (-1)), .ref q6, .ref q7, .ref q8, .ref q9, .ref q10, .ref q11, .ref q12, .ref q13, .long (wJ 0), .long (wJ 0), .int (wI 0), .long (wJ 0), .long (wJ 0), .int (wI 0), .ref q14, .ref q15, .ref q16, .int (wI 0), .int (wI 0), .long (wJ 0), .long (wJ 0), .long (wJ 0), .long (wJ 0), .int (wI 0), .ref q17, .long (wJ 0), .ref q18, .int (wI 0)])), (q1, .inl (cy 1, 4, .inl (aI (up (up (up (up zF 0 (-1)) 1 (-1)) 2 (-1)) 3 (-1))))), (q2, .inl (cy 1, 4, .inl (aI zF))), (q3, .inl (cy 2, 240, .inr (.inl (aJ zF)))), (q4, .inl (cy 2, 60, .inr (.inl (aJ zF)))), (q5, .inl (cy 0, 900, .inl (aI zF))), (q6, .inl (cy 1, 5, .inl (aI zF))), (q7, .inl (cy 1, 45, .inl (aI zF))), (q8, .inl (cy 1, 40, .inl (aI zF))), (q9, .inl (cy 1, 40, .inl (aI zF))), (q10, .inl (cy 1, 20, .inl (aI zF))), (q11, .inl (cy 1, 600, .inl (aI zF))), (q12, .inl (cy 3, 3, .inl (aI zF))), (q13, .inl (cy 1, 4, .inl (aI zF))), (q14, .inl (cy 3, 1024, .inl (aI zF))), (q15, .inl (cy 1, 201, .inl (aI zF))), (q16, .inl (cy 3, 6231, .inl (aI zF))), (q17, .inl (cy 2, 60, .inr (.inl (aJ zF)))), (q18, .inl (cy 1, 496, .inl (aI zF)))]) C 1 (by rw [e3]; rfl) (by decide) rfl (by rw [e3]; rfl) dX9_init_168 ?_
  refine g_iinc (x := 3) (L' := [some (.ref o), some (.int (wI 4))]) C e5 dX9_init_169 rfl rfl rfl ?_
  refine g_goto (tgt := 157) C dX9_init_172 rfl ?_
  refine g_iload_n 1 C dX9_init_157 rfl rfl ?_
  refine g_iconst C dX9_init_158 ?_
  refine g_icmp_ge (X := some ()) (Y := none) (v := ()) 175 C dX9_init_159 rfl (by decide) (fun _ => ?_) (fun h => nomatch h)
  exact fin 175 _ _ ⟨q1, q2, q3, q4, q5, q6, q7, q8, q9, q10, q11, q12, q13, q14, q15, q16, q17, q18, rfl⟩ dX9_init_175
