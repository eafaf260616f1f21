theorem inX0 : ∀ w ∈ u_ws RX0 TX0 16, w ∈ WL := by decide +kernel
theorem inX1 : ∀ w ∈ u_ws RX1 TX1 2, w ∈ WL := by decide +kernel
theorem inX2 : ∀ w ∈ u_ws RX2 TX2 17, w ∈ WL := by decide +kernel
theorem inX3 : ∀ w ∈ u_ws RX3 TX3 9, w ∈ WL := by decide +kernel
theorem inX4 : ∀ w ∈ u_ws RX4 TX4 8, w ∈ WL := by decide +kernel
theorem inX5 : ∀ w ∈ u_ws RX5 TX5 4, w ∈ WL := by decide +kernel
theorem inX6 : ∀ w ∈ u_ws RX6 TX6 3, w ∈ WL := by decide +kernel
theorem inX7 : ∀ w ∈ u_ws RX7 TX7 8, w ∈ WL := by decide +kernel
theorem inX8 : ∀ w ∈ u_ws RX8 TX8 16, w ∈ WL := by decide +kernel
theorem inX9 : ∀ w ∈ u_ws RX9 TX9 44, w ∈ WL := by decide +kernel
theorem mb0_J0_checkIndex_df160 (own : String) : MtB own yJ0_checkIndex_df160 cJ0_checkIndex_df160 2 none 2 := ⟨wl_in (List.mem_of_getElem? (i := 594) (by decide +kernel)) (by decide +kernel), wl_in (List.mem_of_getElem? (i := 125) (by decide +kernel)) (by decide +kernel), by decide, by decide, by decide +kernel⟩
theorem mb0_J0_coder_7d493 (own : String) : MtB own yJ0_coder_7d493 cJ0_coder_7d493 1 (some .byte) 0 := ⟨wl_in (List.mem_of_getElem? (i := 578) (by decide +kernel)) (by decide +kernel), wl_in (List.mem_of_getElem? (i := 125) (by decide +kernel)) (by decide +kernel), by decide, by decide, by decide +kernel⟩
theorem mb0_J0_isLatin1_aae02 (own : String) : MtB own yJ0_isLatin1_aae02 cJ0_isLatin1_aae02 1 (some .boolean) 0 := ⟨wl_in (List.mem_of_getElem? (i := 588) (by decide +kernel)) (by decide +kernel), wl_in (List.mem_of_getElem? (i := 125) (by decide +kernel)) (by decide +kernel), by decide, by decide, by decide +kernel⟩
theorem mb0_J1_charAt_3b067 (own : String) : MtB own yJ1_charAt_3b067 cJ1_charAt_3b067 2 (some .char) 2 := ⟨wl_in (List.mem_of_getElem? (i := 591) (by decide +kernel)) (by decide +kernel), wl_in (List.mem_of_getElem? (i := 126) (by decide +kernel)) (by decide +kernel), by decide, by decide, by decide +kernel⟩
theorem mb0_J3_checkIndex_8e157 (own : String) : MtB own yJ3_checkIndex_8e157 cJ3_checkIndex_8e157 3 (some .int) 3 := ⟨wl_in (List.mem_of_getElem? (i := 599) (by decide +kernel)) (by decide +kernel), wl_in (List.mem_of_getElem? (i := 127) (by decide +kernel)) (by decide +kernel), by decide, by decide, by decide +kernel⟩
theorem mc_J6_265 : Cond.constant RJ6 265 (wI (1431655765)) ∈ WL := wl_in (List.mem_of_getElem? (i := 960) (by decide +kernel)) (by decide +kernel)
theorem mc_J6_266 : Cond.constant RJ6 266 (wI (858993459)) ∈ WL := wl_in (List.mem_of_getElem? (i := 961) (by decide +kernel)) (by decide +kernel)
theorem mc_J6_267 : Cond.constant RJ6 267 (wI (252645135)) ∈ WL := wl_in (List.mem_of_getElem? (i := 962) (by decide +kernel)) (by decide +kernel)
theorem mt_J0_1059 : MtS RJ0 1059 yJ3_checkIndex_8e157 cJ3_checkIndex_8e157 3 (some .int) 3 := ⟨mb0_J3_checkIndex_8e157 _, wl_in (List.mem_of_getElem? (i := 597) (by decide +kernel)) (by decide +kernel), wl_in (List.mem_of_getElem? (i := 598) (by decide +kernel)) (by decide +kernel)⟩
theorem mt_J0_335 : MtV RJ0 335 yJ0_coder_7d493 cJ0_coder_7d493 1 (some .byte) 0 := ⟨mb0_J0_coder_7d493 _, wl_in (List.mem_of_getElem? (i := 575) (by decide +kernel)) (by decide +kernel), wl_in (List.mem_of_getElem? (i := 576) (by decide +kernel)) (by decide +kernel), wl_in (List.mem_of_getElem? (i := 577) (by decide +kernel)) (by decide +kernel)⟩
theorem mt_J0_492 : MtV RJ0 492 yJ0_isLatin1_aae02 cJ0_isLatin1_aae02 1 (some .boolean) 0 := ⟨mb0_J0_isLatin1_aae02 _, wl_in (List.mem_of_getElem? (i := 585) (by decide +kernel)) (by decide +kernel), wl_in (List.mem_of_getElem? (i := 586) (by decide +kernel)) (by decide +kernel), wl_in (List.mem_of_getElem? (i := 587) (by decide +kernel)) (by decide +kernel)⟩
theorem mt_J0_495 : MtS RJ0 495 yJ1_charAt_3b067 cJ1_charAt_3b067 2 (some .char) 2 := ⟨mb0_J1_charAt_3b067 _, wl_in (List.mem_of_getElem? (i := 589) (by decide +kernel)) (by decide +kernel), wl_in (List.mem_of_getElem? (i := 590) (by decide +kernel)) (by decide +kernel)⟩
theorem mt_J1_9 : MtS RJ1 9 yJ0_checkIndex_df160 cJ0_checkIndex_df160 2 none 2 := ⟨mb0_J0_checkIndex_df160 _, wl_in (List.mem_of_getElem? (i := 592) (by decide +kernel)) (by decide +kernel), wl_in (List.mem_of_getElem? (i := 593) (by decide +kernel)) (by decide +kernel)⟩
