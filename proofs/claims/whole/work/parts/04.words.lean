/-! words that the rows use -/
theorem dn_hs_X11_within : yX11_within.cls ≠ "java/lang/invoke/MethodHandle" ∧ yX11_within.cls ≠ "java/lang/invoke/VarHandle" ∧ (parseMethodDescriptor yX11_within.desc).map (fun d => d.parameters.length) = some 3 := by decide +kernel
theorem dn_hs_X11_put : yX11_put.cls ≠ "java/lang/invoke/MethodHandle" ∧ yX11_put.cls ≠ "java/lang/invoke/VarHandle" ∧ (parseMethodDescriptor yX11_put.desc).map (fun d => d.parameters.length) = some 3 := by decide +kernel
theorem dn_hd_X9_add : yX9_add.cls = RX9 ∧ yX9_add.cls ≠ "java/lang/invoke/MethodHandle" ∧ yX9_add.cls ≠ "java/lang/invoke/VarHandle" ∧ (parseMethodDescriptor yX9_add.desc).map (fun d => d.parameters.length) = some 1 := by decide +kernel
theorem dn_fw_X9_add_15 : Cond.fieldLink RX9 15 "DayNames$Text" "length" "I" ∈ wsX9_add := List.mem_of_getElem? (i := 2) rfl
theorem dn_fw_X9_add_9 : Cond.fieldLink RX9 9 "DayNames$Text" "letters" "[I" ∈ wsX9_add := List.mem_of_getElem? (i := 1) rfl
theorem dn_in_X9_add_9 : ∀ w ∈ u_ws RX9 TX9 2, w ∈ wsX9_add := fun w h => (goodIn_r (u_ws RX9 TX9 2) [6, 7] rfl (by decide +kernel) w h).1
theorem dn_nm_X9_add_19 : Cond.methodLinkNest RX9 19 yX11_put "DayNames" ∈ dn_nw := by decide +kernel
theorem dn_sw_X9_add_X11_put_1 : Cond.initialized yX11_put.cls ∈ wsX9_add := by decide +kernel
theorem dn_sw_X9_add_X11_put_2 : Cond.static yX11_put ∈ wsX9_add := List.mem_of_getElem? (i := 3) rfl
theorem dn_hd_X11_type : yX11_type.cls = RX11 ∧ yX11_type.cls ≠ "java/lang/invoke/MethodHandle" ∧ yX11_type.cls ≠ "java/lang/invoke/VarHandle" ∧ (parseMethodDescriptor yX11_type.desc).map (fun d => d.parameters.length) = some 1 := by decide +kernel
theorem dn_fw_X11_type_10 : Cond.fieldLink RX11 10 "DayNames" "text" "LDayNames$Text;" ∈ wsX11_type := List.mem_of_getElem? (i := 1) rfl
theorem dn_fw_X11_type_96 : Cond.fieldLinkNest RX11 96 "DayNames$Text" "length" "I" "DayNames" ∈ dn_nw := by decide +kernel
theorem dn_in_X11_type_11 : ∀ w ∈ u_ws RX11 TX11 10, w ∈ wsX11_type := fun w h => (goodIn_r (u_ws RX11 TX11 10) [15, 16, 17, 18, 19, 20, 21, 22, 23, 24] rfl (by decide +kernel) w h).1
theorem dn_in_X11_type_9 : ∀ w ∈ u_ws RX9 TX9 2, w ∈ wsX11_type := fun w h => (goodIn_r (u_ws RX9 TX9 2) [25, 26] rfl (by decide +kernel) w h).1
theorem dn_hd_X9_empty : yX9_empty.cls = RX9 ∧ yX9_empty.cls ≠ "java/lang/invoke/MethodHandle" ∧ yX9_empty.cls ≠ "java/lang/invoke/VarHandle" ∧ (parseMethodDescriptor yX9_empty.desc).map (fun d => d.parameters.length) = some 0 := by decide +kernel
theorem dn_fw_X9_empty_15 : Cond.fieldLink RX9 15 "DayNames$Text" "length" "I" ∈ wsX9_empty := List.mem_of_getElem? (i := 1) rfl
theorem dn_in_X9_empty_9 : ∀ w ∈ u_ws RX9 TX9 2, w ∈ wsX9_empty := fun w h => (goodIn_r (u_ws RX9 TX9 2) [2, 3] rfl (by decide +kernel) w h).1
theorem dn_hd_X11_clear : yX11_clear.cls = RX11 ∧ yX11_clear.cls ≠ "java/lang/invoke/MethodHandle" ∧ yX11_clear.cls ≠ "java/lang/invoke/VarHandle" ∧ (parseMethodDescriptor yX11_clear.desc).map (fun d => d.parameters.length) = some 0 := by decide +kernel
theorem dn_fw_X11_clear_10 : Cond.fieldLink RX11 10 "DayNames" "text" "LDayNames$Text;" ∈ wsX11_clear := List.mem_of_getElem? (i := 1) rfl
theorem dn_in_X11_clear_11 : ∀ w ∈ u_ws RX11 TX11 10, w ∈ wsX11_clear := fun w h => (goodIn_r (u_ws RX11 TX11 10) [8, 9, 10, 11, 12, 13, 14, 15, 16, 17] rfl (by decide +kernel) w h).1
theorem dn_hd_X10_empty : yX10_empty.cls = RX10 ∧ yX10_empty.cls ≠ "java/lang/invoke/MethodHandle" ∧ yX10_empty.cls ≠ "java/lang/invoke/VarHandle" ∧ (parseMethodDescriptor yX10_empty.desc).map (fun d => d.parameters.length) = some 0 := by decide +kernel
theorem dn_fw_X10_empty_18 : Cond.fieldLink RX10 18 "DayNames$Town" "bar" "I" ∈ wsX10_empty := List.mem_of_getElem? (i := 3) rfl
theorem dn_fw_X10_empty_22 : Cond.fieldLink RX10 22 "DayNames$Town" "bidders" "I" ∈ wsX10_empty := List.mem_of_getElem? (i := 1) rfl
theorem dn_fw_X10_empty_25 : Cond.fieldLink RX10 25 "DayNames$Town" "debts" "I" ∈ wsX10_empty := List.mem_of_getElem? (i := 2) rfl
theorem dn_in_X10_empty_10 : ∀ w ∈ u_ws RX10 TX10 5, w ∈ wsX10_empty := fun w h => (goodIn_r (u_ws RX10 TX10 5) [4, 5, 6, 7, 8] rfl (by decide +kernel) w h).1
theorem dn_hd_X9_letter : yX9_letter.cls = RX9 ∧ yX9_letter.cls ≠ "java/lang/invoke/MethodHandle" ∧ yX9_letter.cls ≠ "java/lang/invoke/VarHandle" ∧ (parseMethodDescriptor yX9_letter.desc).map (fun d => d.parameters.length) = some 1 := by decide +kernel
theorem dn_fw_X9_letter_9 : Cond.fieldLink RX9 9 "DayNames$Text" "letters" "[I" ∈ wsX9_letter := List.mem_of_getElem? (i := 1) rfl
theorem dn_in_X9_letter_9 : ∀ w ∈ u_ws RX9 TX9 2, w ∈ wsX9_letter := fun w h => (goodIn_r (u_ws RX9 TX9 2) [2, 3] rfl (by decide +kernel) w h).1
theorem dn_hs_X8_isDigit : yX8_isDigit.cls ≠ "java/lang/invoke/MethodHandle" ∧ yX8_isDigit.cls ≠ "java/lang/invoke/VarHandle" ∧ (parseMethodDescriptor yX8_isDigit.desc).map (fun d => d.parameters.length) = some 1 := by decide +kernel
theorem dn_hd_X8_takeNumber : yX8_takeNumber.cls = RX8 ∧ yX8_takeNumber.cls ≠ "java/lang/invoke/MethodHandle" ∧ yX8_takeNumber.cls ≠ "java/lang/invoke/VarHandle" ∧ (parseMethodDescriptor yX8_takeNumber.desc).map (fun d => d.parameters.length) = some 0 := by decide +kernel
theorem dn_fw_X8_takeNumber_100 : Cond.fieldLinkNest RX8 100 "DayNames$Text" "length" "I" "DayNames" ∈ dn_nw := by decide +kernel
theorem dn_fw_X8_takeNumber_18 : Cond.fieldLink RX8 18 "DayNames$Reader" "text" "LDayNames$Text;" ∈ wsX8_takeNumber := List.mem_of_getElem? (i := 3) rfl
theorem dn_fw_X8_takeNumber_22 : Cond.fieldLink RX8 22 "DayNames$Reader" "place" "I" ∈ wsX8_takeNumber := List.mem_of_getElem? (i := 2) rfl
theorem dn_fw_X8_takeNumber_36 : Cond.fieldLink RX8 36 "DayNames$Reader" "token" "I" ∈ wsX8_takeNumber := List.mem_of_getElem? (i := 9) rfl
theorem dn_fw_X8_takeNumber_49 : Cond.fieldLink RX8 49 "DayNames$Reader" "start" "I" ∈ wsX8_takeNumber := List.mem_of_getElem? (i := 8) rfl
theorem dn_fw_X8_takeNumber_67 : Cond.fieldLink RX8 67 "DayNames$Reader" "number" "I" ∈ wsX8_takeNumber := List.mem_of_getElem? (i := 1) rfl
theorem dn_in_X8_takeNumber_8 : ∀ w ∈ u_ws RX8 TX8 7, w ∈ wsX8_takeNumber := fun w h => (goodIn_r (u_ws RX8 TX8 7) [20, 21, 22, 23, 24, 25, 26] rfl (by decide +kernel) w h).1
theorem dn_in_X8_takeNumber_9 : ∀ w ∈ u_ws RX9 TX9 2, w ∈ wsX8_takeNumber := fun w h => (goodIn_r (u_ws RX9 TX9 2) [27, 28] rfl (by decide +kernel) w h).1
theorem dn_mw_X8_takeNumber_min_1 : Cond.methodLink RX8 116 Lib.Math.min.name ∈ wsX8_takeNumber := List.mem_of_getElem? (i := 4) rfl
theorem dn_mw_X8_takeNumber_min_2 : Cond.static Lib.Math.min.name ∈ wsX8_takeNumber := List.mem_of_getElem? (i := 5) rfl
theorem dn_mw_X8_takeNumber_min_3 : Cond.initialized "java/lang/Math" ∈ wsX8_takeNumber := List.mem_of_getElem? (i := 6) rfl
theorem dn_mw_X8_takeNumber_min_4 : Cond.code Lib.Math.min.name Lib.Math.min.code 2 (some .int) ∈ wsX8_takeNumber := List.mem_of_getElem? (i := 7) rfl
theorem dn_hd_X8_nextToken : yX8_nextToken.cls = RX8 ∧ yX8_nextToken.cls ≠ "java/lang/invoke/MethodHandle" ∧ yX8_nextToken.cls ≠ "java/lang/invoke/VarHandle" ∧ (parseMethodDescriptor yX8_nextToken.desc).map (fun d => d.parameters.length) = some 0 := by decide +kernel
theorem dn_fw_X8_nextToken_100 : Cond.fieldLinkNest RX8 100 "DayNames$Text" "length" "I" "DayNames" ∈ dn_nw := by decide +kernel
theorem dn_fw_X8_nextToken_18 : Cond.fieldLink RX8 18 "DayNames$Reader" "text" "LDayNames$Text;" ∈ wsX8_nextToken := List.mem_of_getElem? (i := 2) rfl
theorem dn_fw_X8_nextToken_22 : Cond.fieldLink RX8 22 "DayNames$Reader" "place" "I" ∈ wsX8_nextToken := List.mem_of_getElem? (i := 1) rfl
theorem dn_fw_X8_nextToken_36 : Cond.fieldLink RX8 36 "DayNames$Reader" "token" "I" ∈ wsX8_nextToken := List.mem_of_getElem? (i := 4) rfl
theorem dn_fw_X8_nextToken_49 : Cond.fieldLink RX8 49 "DayNames$Reader" "start" "I" ∈ wsX8_nextToken := List.mem_of_getElem? (i := 3) rfl
theorem dn_in_X8_nextToken_8 : ∀ w ∈ u_ws RX8 TX8 7, w ∈ wsX8_nextToken := fun w h => (goodIn_r (u_ws RX8 TX8 7) [24, 25, 26, 27, 28, 29, 30] rfl (by decide +kernel) w h).1
theorem dn_in_X8_nextToken_9 : ∀ w ∈ u_ws RX9 TX9 2, w ∈ wsX8_nextToken := fun w h => (goodIn_r (u_ws RX9 TX9 2) [31, 32] rfl (by decide +kernel) w h).1
theorem dn_hs_X11_at : yX11_at.cls ≠ "java/lang/invoke/MethodHandle" ∧ yX11_at.cls ≠ "java/lang/invoke/VarHandle" ∧ (parseMethodDescriptor yX11_at.desc).map (fun d => d.parameters.length) = some 2 := by decide +kernel
theorem dn_hd_X8_readsNumber : yX8_readsNumber.cls = RX8 ∧ yX8_readsNumber.cls ≠ "java/lang/invoke/MethodHandle" ∧ yX8_readsNumber.cls ≠ "java/lang/invoke/VarHandle" ∧ (parseMethodDescriptor yX8_readsNumber.desc).map (fun d => d.parameters.length) = some 2 := by decide +kernel
theorem dn_fw_X8_readsNumber_36 : Cond.fieldLink RX8 36 "DayNames$Reader" "token" "I" ∈ wsX8_readsNumber := List.mem_of_getElem? (i := 1) rfl
theorem dn_fw_X8_readsNumber_67 : Cond.fieldLink RX8 67 "DayNames$Reader" "number" "I" ∈ wsX8_readsNumber := List.mem_of_getElem? (i := 2) rfl
theorem dn_in_X8_readsNumber_8 : ∀ w ∈ u_ws RX8 TX8 7, w ∈ wsX8_readsNumber := fun w h => (goodIn_r (u_ws RX8 TX8 7) [31, 32, 33, 34, 35, 36, 37] rfl (by decide +kernel) w h).1
theorem dn_nm_X8_readsNumber_96 : Cond.methodLinkNest RX8 96 yX11_within "DayNames" ∈ dn_nw := by decide +kernel
theorem dn_sw_X8_readsNumber_X11_within_1 : Cond.initialized yX11_within.cls ∈ wsX8_readsNumber := by decide +kernel
theorem dn_sw_X8_readsNumber_X11_within_2 : Cond.static yX11_within ∈ wsX8_readsNumber := List.mem_of_getElem? (i := 28) rfl
theorem dn_hd_X10_setOfBidder : yX10_setOfBidder.cls = RX10 ∧ yX10_setOfBidder.cls ≠ "java/lang/invoke/MethodHandle" ∧ yX10_setOfBidder.cls ≠ "java/lang/invoke/VarHandle" ∧ (parseMethodDescriptor yX10_setOfBidder.desc).map (fun d => d.parameters.length) = some 3 := by decide +kernel
theorem dn_fw_X10_setOfBidder_11 : Cond.fieldLink RX10 11 "DayNames$Town" "bidderFacts" "[I" ∈ wsX10_setOfBidder := List.mem_of_getElem? (i := 1) rfl
theorem dn_in_X10_setOfBidder_10 : ∀ w ∈ u_ws RX10 TX10 5, w ∈ wsX10_setOfBidder := fun w h => (goodIn_r (u_ws RX10 TX10 5) [5, 6, 7, 8, 9] rfl (by decide +kernel) w h).1
theorem dn_nm_X10_setOfBidder_36 : Cond.methodLinkNest RX10 36 yX11_put "DayNames" ∈ dn_nw := by decide +kernel
theorem dn_sw_X10_setOfBidder_X11_put_1 : Cond.initialized yX11_put.cls ∈ wsX10_setOfBidder := by decide +kernel
theorem dn_sw_X10_setOfBidder_X11_put_2 : Cond.static yX11_put ∈ wsX10_setOfBidder := List.mem_of_getElem? (i := 2) rfl
theorem dn_hd_X8_readsEnd : yX8_readsEnd.cls = RX8 ∧ yX8_readsEnd.cls ≠ "java/lang/invoke/MethodHandle" ∧ yX8_readsEnd.cls ≠ "java/lang/invoke/VarHandle" ∧ (parseMethodDescriptor yX8_readsEnd.desc).map (fun d => d.parameters.length) = some 0 := by decide +kernel
theorem dn_fw_X8_readsEnd_36 : Cond.fieldLink RX8 36 "DayNames$Reader" "token" "I" ∈ wsX8_readsEnd := List.mem_of_getElem? (i := 1) rfl
theorem dn_in_X8_readsEnd_8 : ∀ w ∈ u_ws RX8 TX8 7, w ∈ wsX8_readsEnd := fun w h => (goodIn_r (u_ws RX8 TX8 7) [28, 29, 30, 31, 32, 33, 34] rfl (by decide +kernel) w h).1
theorem dn_hd_X8_readsBidder : yX8_readsBidder.cls = RX8 ∧ yX8_readsBidder.cls ≠ "java/lang/invoke/MethodHandle" ∧ yX8_readsBidder.cls ≠ "java/lang/invoke/VarHandle" ∧ (parseMethodDescriptor yX8_readsBidder.desc).map (fun d => d.parameters.length) = some 0 := by decide +kernel
theorem dn_fw_X8_readsBidder_12 : Cond.fieldLink RX8 12 "DayNames$Reader" "draft" "LDayNames$Town;" ∈ wsX8_readsBidder := List.mem_of_getElem? (i := 1) rfl
theorem dn_fw_X8_readsBidder_52 : Cond.fieldLinkNest RX8 52 "DayNames$Town" "bidders" "I" "DayNames" ∈ dn_nw := by decide +kernel
theorem dn_fw_X8_readsBidder_55 : Cond.fieldLink RX8 55 "DayNames$Reader" "BIDDER_MOST" "[I" ∈ wsX8_readsBidder := List.mem_of_getElem? (i := 2) rfl
theorem dn_fw_X8_readsBidder_67 : Cond.fieldLink RX8 67 "DayNames$Reader" "number" "I" ∈ wsX8_readsBidder := List.mem_of_getElem? (i := 3) rfl
theorem dn_in_X8_readsBidder_10 : ∀ w ∈ u_ws RX10 TX10 5, w ∈ wsX8_readsBidder := fun w h => (goodIn_r (u_ws RX10 TX10 5) [58, 59, 60, 61, 62] rfl (by decide +kernel) w h).1
theorem dn_in_X8_readsBidder_8 : ∀ w ∈ u_ws RX8 TX8 7, w ∈ wsX8_readsBidder := fun w h => (goodIn_r (u_ws RX8 TX8 7) [51, 52, 53, 54, 55, 56, 57] rfl (by decide +kernel) w h).1
theorem dn_nm_X8_readsBidder_59 : Cond.methodLinkNest RX8 59 yX11_at "DayNames" ∈ dn_nw := by decide +kernel
theorem dn_sw_X8_readsBidder_X11_at_1 : Cond.initialized yX11_at.cls ∈ wsX8_readsBidder := by decide +kernel
theorem dn_sw_X8_readsBidder_X11_at_2 : Cond.static yX11_at ∈ wsX8_readsBidder := List.mem_of_getElem? (i := 4) rfl
theorem dn_hd_X8_readsBar : yX8_readsBar.cls = RX8 ∧ yX8_readsBar.cls ≠ "java/lang/invoke/MethodHandle" ∧ yX8_readsBar.cls ≠ "java/lang/invoke/VarHandle" ∧ (parseMethodDescriptor yX8_readsBar.desc).map (fun d => d.parameters.length) = some 0 := by decide +kernel
theorem dn_fw_X8_readsBar_12 : Cond.fieldLink RX8 12 "DayNames$Reader" "draft" "LDayNames$Town;" ∈ wsX8_readsBar := List.mem_of_getElem? (i := 2) rfl
theorem dn_fw_X8_readsBar_26 : Cond.fieldLink RX8 26 "DayNames$Reader" "barTold" "Z" ∈ wsX8_readsBar := List.mem_of_getElem? (i := 1) rfl
theorem dn_fw_X8_readsBar_67 : Cond.fieldLink RX8 67 "DayNames$Reader" "number" "I" ∈ wsX8_readsBar := List.mem_of_getElem? (i := 3) rfl
theorem dn_fw_X8_readsBar_77 : Cond.fieldLinkNest RX8 77 "DayNames$Town" "bar" "I" "DayNames" ∈ dn_nw := by decide +kernel
theorem dn_in_X8_readsBar_10 : ∀ w ∈ u_ws RX10 TX10 5, w ∈ wsX8_readsBar := fun w h => (goodIn_r (u_ws RX10 TX10 5) [48, 49, 50, 51, 52] rfl (by decide +kernel) w h).1
theorem dn_in_X8_readsBar_8 : ∀ w ∈ u_ws RX8 TX8 7, w ∈ wsX8_readsBar := fun w h => (goodIn_r (u_ws RX8 TX8 7) [41, 42, 43, 44, 45, 46, 47] rfl (by decide +kernel) w h).1
theorem dn_hd_X10_ofDebt : yX10_ofDebt.cls = RX10 ∧ yX10_ofDebt.cls ≠ "java/lang/invoke/MethodHandle" ∧ yX10_ofDebt.cls ≠ "java/lang/invoke/VarHandle" ∧ (parseMethodDescriptor yX10_ofDebt.desc).map (fun d => d.parameters.length) = some 2 := by decide +kernel
theorem dn_fw_X10_ofDebt_15 : Cond.fieldLink RX10 15 "DayNames$Town" "debtFacts" "[I" ∈ wsX10_ofDebt := List.mem_of_getElem? (i := 1) rfl
theorem dn_in_X10_ofDebt_10 : ∀ w ∈ u_ws RX10 TX10 5, w ∈ wsX10_ofDebt := fun w h => (goodIn_r (u_ws RX10 TX10 5) [5, 6, 7, 8, 9] rfl (by decide +kernel) w h).1
theorem dn_nm_X10_ofDebt_32 : Cond.methodLinkNest RX10 32 yX11_at "DayNames" ∈ dn_nw := by decide +kernel
theorem dn_sw_X10_ofDebt_X11_at_1 : Cond.initialized yX11_at.cls ∈ wsX10_ofDebt := by decide +kernel
theorem dn_sw_X10_ofDebt_X11_at_2 : Cond.static yX11_at ∈ wsX10_ofDebt := List.mem_of_getElem? (i := 2) rfl
theorem dn_hd_X10_setOfDebt : yX10_setOfDebt.cls = RX10 ∧ yX10_setOfDebt.cls ≠ "java/lang/invoke/MethodHandle" ∧ yX10_setOfDebt.cls ≠ "java/lang/invoke/VarHandle" ∧ (parseMethodDescriptor yX10_setOfDebt.desc).map (fun d => d.parameters.length) = some 3 := by decide +kernel
theorem dn_fw_X10_setOfDebt_15 : Cond.fieldLink RX10 15 "DayNames$Town" "debtFacts" "[I" ∈ wsX10_setOfDebt := List.mem_of_getElem? (i := 1) rfl
theorem dn_in_X10_setOfDebt_10 : ∀ w ∈ u_ws RX10 TX10 5, w ∈ wsX10_setOfDebt := fun w h => (goodIn_r (u_ws RX10 TX10 5) [5, 6, 7, 8, 9] rfl (by decide +kernel) w h).1
theorem dn_nm_X10_setOfDebt_36 : Cond.methodLinkNest RX10 36 yX11_put "DayNames" ∈ dn_nw := by decide +kernel
theorem dn_sw_X10_setOfDebt_X11_put_1 : Cond.initialized yX11_put.cls ∈ wsX10_setOfDebt := by decide +kernel
theorem dn_sw_X10_setOfDebt_X11_put_2 : Cond.static yX11_put ∈ wsX10_setOfDebt := List.mem_of_getElem? (i := 2) rfl
theorem dn_hd_X8_readsDebt : yX8_readsDebt.cls = RX8 ∧ yX8_readsDebt.cls ≠ "java/lang/invoke/MethodHandle" ∧ yX8_readsDebt.cls ≠ "java/lang/invoke/VarHandle" ∧ (parseMethodDescriptor yX8_readsDebt.desc).map (fun d => d.parameters.length) = some 0 := by decide +kernel
theorem dn_fw_X8_readsDebt_12 : Cond.fieldLink RX8 12 "DayNames$Reader" "draft" "LDayNames$Town;" ∈ wsX8_readsDebt := List.mem_of_getElem? (i := 1) rfl
theorem dn_fw_X8_readsDebt_52 : Cond.fieldLinkNest RX8 52 "DayNames$Town" "bidders" "I" "DayNames" ∈ dn_nw := by decide +kernel
theorem dn_fw_X8_readsDebt_67 : Cond.fieldLink RX8 67 "DayNames$Reader" "number" "I" ∈ wsX8_readsDebt := List.mem_of_getElem? (i := 4) rfl
theorem dn_fw_X8_readsDebt_80 : Cond.fieldLinkNest RX8 80 "DayNames$Town" "debts" "I" "DayNames" ∈ dn_nw := by decide +kernel
theorem dn_fw_X8_readsDebt_83 : Cond.fieldLink RX8 83 "DayNames$Reader" "DEBT_MOST" "[I" ∈ wsX8_readsDebt := List.mem_of_getElem? (i := 2) rfl
theorem dn_fw_X8_readsDebt_86 : Cond.fieldLink RX8 86 "DayNames$Reader" "DEBT_LEAST" "[I" ∈ wsX8_readsDebt := List.mem_of_getElem? (i := 3) rfl
theorem dn_in_X8_readsDebt_10 : ∀ w ∈ u_ws RX10 TX10 5, w ∈ wsX8_readsDebt := fun w h => (goodIn_r (u_ws RX10 TX10 5) [63, 64, 65, 66, 67] rfl (by decide +kernel) w h).1
theorem dn_in_X8_readsDebt_8 : ∀ w ∈ u_ws RX8 TX8 7, w ∈ wsX8_readsDebt := fun w h => (goodIn_r (u_ws RX8 TX8 7) [56, 57, 58, 59, 60, 61, 62] rfl (by decide +kernel) w h).1
theorem dn_nm_X8_readsDebt_59 : Cond.methodLinkNest RX8 59 yX11_at "DayNames" ∈ dn_nw := by decide +kernel
theorem dn_sw_X8_readsDebt_X11_at_1 : Cond.initialized yX11_at.cls ∈ wsX8_readsDebt := by decide +kernel
theorem dn_sw_X8_readsDebt_X11_at_2 : Cond.static yX11_at ∈ wsX8_readsDebt := List.mem_of_getElem? (i := 5) rfl
theorem dn_hd_X8_read : yX8_read.cls = RX8 ∧ yX8_read.cls ≠ "java/lang/invoke/MethodHandle" ∧ yX8_read.cls ≠ "java/lang/invoke/VarHandle" ∧ (parseMethodDescriptor yX8_read.desc).map (fun d => d.parameters.length) = some 0 := by decide +kernel
theorem dn_fw_X8_read_12 : Cond.fieldLink RX8 12 "DayNames$Reader" "draft" "LDayNames$Town;" ∈ wsX8_read := List.mem_of_getElem? (i := 3) rfl
theorem dn_fw_X8_read_22 : Cond.fieldLink RX8 22 "DayNames$Reader" "place" "I" ∈ wsX8_read := List.mem_of_getElem? (i := 1) rfl
theorem dn_fw_X8_read_26 : Cond.fieldLink RX8 26 "DayNames$Reader" "barTold" "Z" ∈ wsX8_read := List.mem_of_getElem? (i := 2) rfl
theorem dn_fw_X8_read_36 : Cond.fieldLink RX8 36 "DayNames$Reader" "token" "I" ∈ wsX8_read := List.mem_of_getElem? (i := 4) rfl
theorem dn_fw_X8_read_49 : Cond.fieldLink RX8 49 "DayNames$Reader" "start" "I" ∈ wsX8_read := List.mem_of_getElem? (i := 5) rfl
theorem dn_in_X8_read_8 : ∀ w ∈ u_ws RX8 TX8 7, w ∈ wsX8_read := fun w h => (goodIn_r (u_ws RX8 TX8 7) [82, 83, 84, 85, 86, 87, 88] rfl (by decide +kernel) w h).1
theorem dn_hs_X11_copyRow : yX11_copyRow.cls ≠ "java/lang/invoke/MethodHandle" ∧ yX11_copyRow.cls ≠ "java/lang/invoke/VarHandle" ∧ (parseMethodDescriptor yX11_copyRow.desc).map (fun d => d.parameters.length) = some 2 := by decide +kernel
theorem dn_hd_X10_copyFrom : yX10_copyFrom.cls = RX10 ∧ yX10_copyFrom.cls ≠ "java/lang/invoke/MethodHandle" ∧ yX10_copyFrom.cls ≠ "java/lang/invoke/VarHandle" ∧ (parseMethodDescriptor yX10_copyFrom.desc).map (fun d => d.parameters.length) = some 1 := by decide +kernel
theorem dn_fw_X10_copyFrom_11 : Cond.fieldLink RX10 11 "DayNames$Town" "bidderFacts" "[I" ∈ wsX10_copyFrom := List.mem_of_getElem? (i := 1) rfl
theorem dn_fw_X10_copyFrom_15 : Cond.fieldLink RX10 15 "DayNames$Town" "debtFacts" "[I" ∈ wsX10_copyFrom := List.mem_of_getElem? (i := 2) rfl
theorem dn_fw_X10_copyFrom_18 : Cond.fieldLink RX10 18 "DayNames$Town" "bar" "I" ∈ wsX10_copyFrom := List.mem_of_getElem? (i := 5) rfl
theorem dn_fw_X10_copyFrom_22 : Cond.fieldLink RX10 22 "DayNames$Town" "bidders" "I" ∈ wsX10_copyFrom := List.mem_of_getElem? (i := 3) rfl
theorem dn_fw_X10_copyFrom_25 : Cond.fieldLink RX10 25 "DayNames$Town" "debts" "I" ∈ wsX10_copyFrom := List.mem_of_getElem? (i := 4) rfl
theorem dn_in_X10_copyFrom_10 : ∀ w ∈ u_ws RX10 TX10 5, w ∈ wsX10_copyFrom := fun w h => (goodIn_r (u_ws RX10 TX10 5) [9, 10, 11, 12, 13] rfl (by decide +kernel) w h).1
theorem dn_nm_X10_copyFrom_28 : Cond.methodLinkNest RX10 28 yX11_copyRow "DayNames" ∈ dn_nw := by decide +kernel
theorem dn_sw_X10_copyFrom_X11_copyRow_1 : Cond.initialized yX11_copyRow.cls ∈ wsX10_copyFrom := by decide +kernel
theorem dn_sw_X10_copyFrom_X11_copyRow_2 : Cond.static yX11_copyRow ∈ wsX10_copyFrom := List.mem_of_getElem? (i := 6) rfl
theorem dn_hd_X10_ofBidder : yX10_ofBidder.cls = RX10 ∧ yX10_ofBidder.cls ≠ "java/lang/invoke/MethodHandle" ∧ yX10_ofBidder.cls ≠ "java/lang/invoke/VarHandle" ∧ (parseMethodDescriptor yX10_ofBidder.desc).map (fun d => d.parameters.length) = some 2 := by decide +kernel
theorem dn_fw_X10_ofBidder_11 : Cond.fieldLink RX10 11 "DayNames$Town" "bidderFacts" "[I" ∈ wsX10_ofBidder := List.mem_of_getElem? (i := 1) rfl
theorem dn_in_X10_ofBidder_10 : ∀ w ∈ u_ws RX10 TX10 5, w ∈ wsX10_ofBidder := fun w h => (goodIn_r (u_ws RX10 TX10 5) [5, 6, 7, 8, 9] rfl (by decide +kernel) w h).1
theorem dn_nm_X10_ofBidder_32 : Cond.methodLinkNest RX10 32 yX11_at "DayNames" ∈ dn_nw := by decide +kernel
theorem dn_sw_X10_ofBidder_X11_at_1 : Cond.initialized yX11_at.cls ∈ wsX10_ofBidder := by decide +kernel
theorem dn_sw_X10_ofBidder_X11_at_2 : Cond.static yX11_at ∈ wsX10_ofBidder := List.mem_of_getElem? (i := 2) rfl
theorem dn_hd_X3_dropOwn : yX3_dropOwn.cls = RX3 ∧ yX3_dropOwn.cls ≠ "java/lang/invoke/MethodHandle" ∧ yX3_dropOwn.cls ≠ "java/lang/invoke/VarHandle" ∧ (parseMethodDescriptor yX3_dropOwn.desc).map (fun d => d.parameters.length) = some 0 := by decide +kernel
theorem dn_fw_X3_dropOwn_44 : Cond.fieldLink RX3 44 "DayNames$Moment" "ownName" "I" ∈ wsX3_dropOwn := List.mem_of_getElem? (i := 1) rfl
theorem dn_fw_X3_dropOwn_47 : Cond.fieldLink RX3 47 "DayNames$Moment" "ownCoins" "I" ∈ wsX3_dropOwn := List.mem_of_getElem? (i := 2) rfl
theorem dn_in_X3_dropOwn_3 : ∀ w ∈ u_ws RX3 TX3 8, w ∈ wsX3_dropOwn := fun w h => (goodIn_r (u_ws RX3 TX3 8) [3, 4, 5, 6, 7, 8, 9, 10] rfl (by decide +kernel) w h).1
theorem dn_hd_X3_begin : yX3_begin.cls = RX3 ∧ yX3_begin.cls ≠ "java/lang/invoke/MethodHandle" ∧ yX3_begin.cls ≠ "java/lang/invoke/VarHandle" ∧ (parseMethodDescriptor yX3_begin.desc).map (fun d => d.parameters.length) = some 1 := by decide +kernel
theorem dn_fw_X3_begin_15 : Cond.fieldLink RX3 15 "DayNames$Moment" "purses" "[I" ∈ wsX3_begin := List.mem_of_getElem? (i := 1) rfl
theorem dn_fw_X3_begin_18 : Cond.fieldLink RX3 18 "DayNames$Moment" "debts" "[I" ∈ wsX3_begin := List.mem_of_getElem? (i := 2) rfl
theorem dn_fw_X3_begin_27 : Cond.fieldLink RX3 27 "DayNames$Moment" "days" "I" ∈ wsX3_begin := List.mem_of_getElem? (i := 3) rfl
theorem dn_fw_X3_begin_31 : Cond.fieldLink RX3 31 "DayNames$Moment" "skipped" "I" ∈ wsX3_begin := List.mem_of_getElem? (i := 4) rfl
theorem dn_fw_X3_begin_34 : Cond.fieldLink RX3 34 "DayNames$Moment" "spent" "I" ∈ wsX3_begin := List.mem_of_getElem? (i := 5) rfl
theorem dn_in_X3_begin_3 : ∀ w ∈ u_ws RX3 TX3 8, w ∈ wsX3_begin := fun w h => (goodIn_r (u_ws RX3 TX3 8) [22, 23, 24, 25, 26, 27, 28, 29] rfl (by decide +kernel) w h).1
theorem dn_hd_X2_empty : yX2_empty.cls = RX2 ∧ yX2_empty.cls ≠ "java/lang/invoke/MethodHandle" ∧ yX2_empty.cls ≠ "java/lang/invoke/VarHandle" ∧ (parseMethodDescriptor yX2_empty.desc).map (fun d => d.parameters.length) = some 0 := by decide +kernel
theorem dn_fw_X2_empty_33 : Cond.fieldLink RX2 33 "DayNames$Finds" "many" "I" ∈ wsX2_empty := List.mem_of_getElem? (i := 1) rfl
theorem dn_in_X2_empty_2 : ∀ w ∈ u_ws RX2 TX2 6, w ∈ wsX2_empty := fun w h => (goodIn_r (u_ws RX2 TX2 6) [2, 3, 4, 5, 6, 7] rfl (by decide +kernel) w h).1
theorem dn_hd_X0_empty : yX0_empty.cls = RX0 ∧ yX0_empty.cls ≠ "java/lang/invoke/MethodHandle" ∧ yX0_empty.cls ≠ "java/lang/invoke/VarHandle" ∧ (parseMethodDescriptor yX0_empty.desc).map (fun d => d.parameters.length) = some 0 := by decide +kernel
theorem dn_fw_X0_empty_26 : Cond.fieldLink RX0 26 "DayNames$Agenda" "many" "I" ∈ wsX0_empty := List.mem_of_getElem? (i := 1) rfl
theorem dn_in_X0_empty_0 : ∀ w ∈ u_ws RX0 TX0 4, w ∈ wsX0_empty := fun w h => (goodIn_r (u_ws RX0 TX0 4) [2, 3, 4, 5] rfl (by decide +kernel) w h).1
theorem dn_hd_X6_loseAll : yX6_loseAll.cls = RX6 ∧ yX6_loseAll.cls ≠ "java/lang/invoke/MethodHandle" ∧ yX6_loseAll.cls ≠ "java/lang/invoke/VarHandle" ∧ (parseMethodDescriptor yX6_loseAll.desc).map (fun d => d.parameters.length) = some 0 := by decide +kernel
theorem dn_fw_X6_loseAll_20 : Cond.fieldLink RX6 20 "DayNames$Past" "kept" "[Z" ∈ wsX6_loseAll := List.mem_of_getElem? (i := 2) rfl
theorem dn_fw_X6_loseAll_25 : Cond.fieldLink RX6 25 "DayNames$Past" "known" "I" ∈ wsX6_loseAll := List.mem_of_getElem? (i := 1) rfl
theorem dn_in_X6_loseAll_6 : ∀ w ∈ u_ws RX6 TX6 5, w ∈ wsX6_loseAll := fun w h => (goodIn_r (u_ws RX6 TX6 5) [3, 4, 5, 6, 7] rfl (by decide +kernel) w h).1
theorem dn_hd_X11_town : yX11_town.cls = RX11 ∧ yX11_town.cls ≠ "java/lang/invoke/MethodHandle" ∧ yX11_town.cls ≠ "java/lang/invoke/VarHandle" ∧ (parseMethodDescriptor yX11_town.desc).map (fun d => d.parameters.length) = some 0 := by decide +kernel
theorem dn_fw_X11_town_10 : Cond.fieldLink RX11 10 "DayNames" "text" "LDayNames$Text;" ∈ wsX11_town := List.mem_of_getElem? (i := 7) rfl
theorem dn_fw_X11_town_111 : Cond.fieldLinkNest RX11 111 "DayNames$Reader" "draft" "LDayNames$Town;" "DayNames" ∈ dn_nw := by decide +kernel
theorem dn_fw_X11_town_19 : Cond.fieldLink RX11 19 "DayNames" "told" "LDayNames$Town;" ∈ wsX11_town := List.mem_of_getElem? (i := 2) rfl
theorem dn_fw_X11_town_28 : Cond.fieldLink RX11 28 "DayNames" "reader" "LDayNames$Reader;" ∈ wsX11_town := List.mem_of_getElem? (i := 1) rfl
theorem dn_fw_X11_town_35 : Cond.fieldLink RX11 35 "DayNames" "current" "LDayNames$Moment;" ∈ wsX11_town := List.mem_of_getElem? (i := 3) rfl
theorem dn_fw_X11_town_60 : Cond.fieldLink RX11 60 "DayNames" "finds" "LDayNames$Finds;" ∈ wsX11_town := List.mem_of_getElem? (i := 4) rfl
theorem dn_fw_X11_town_69 : Cond.fieldLink RX11 69 "DayNames" "agenda" "LDayNames$Agenda;" ∈ wsX11_town := List.mem_of_getElem? (i := 5) rfl
theorem dn_fw_X11_town_76 : Cond.fieldLink RX11 76 "DayNames" "past" "LDayNames$Past;" ∈ wsX11_town := List.mem_of_getElem? (i := 6) rfl
theorem dn_in_X11_town_11 : ∀ w ∈ u_ws RX11 TX11 10, w ∈ wsX11_town := fun w h => (goodIn_r (u_ws RX11 TX11 10) [143, 144, 145, 146, 147, 148, 149, 150, 151, 152] rfl (by decide +kernel) w h).1
theorem dn_in_X11_town_8 : ∀ w ∈ u_ws RX8 TX8 7, w ∈ wsX11_town := fun w h => (goodIn_r (u_ws RX8 TX8 7) [153, 154, 155, 156, 157, 158, 159] rfl (by decide +kernel) w h).1
theorem dn_hd_X11_isBidder : yX11_isBidder.cls = RX11 ∧ yX11_isBidder.cls ≠ "java/lang/invoke/MethodHandle" ∧ yX11_isBidder.cls ≠ "java/lang/invoke/VarHandle" ∧ (parseMethodDescriptor yX11_isBidder.desc).map (fun d => d.parameters.length) = some 1 := by decide +kernel
theorem dn_fw_X11_isBidder_19 : Cond.fieldLink RX11 19 "DayNames" "told" "LDayNames$Town;" ∈ wsX11_isBidder := List.mem_of_getElem? (i := 1) rfl
theorem dn_fw_X11_isBidder_268 : Cond.fieldLinkNest RX11 268 "DayNames$Town" "bidders" "I" "DayNames" ∈ dn_nw := by decide +kernel
theorem dn_in_X11_isBidder_10 : ∀ w ∈ u_ws RX10 TX10 5, w ∈ wsX11_isBidder := fun w h => (goodIn_r (u_ws RX10 TX10 5) [16, 17, 18, 19, 20] rfl (by decide +kernel) w h).1
theorem dn_in_X11_isBidder_11 : ∀ w ∈ u_ws RX11 TX11 10, w ∈ wsX11_isBidder := fun w h => (goodIn_r (u_ws RX11 TX11 10) [6, 7, 8, 9, 10, 11, 12, 13, 14, 15] rfl (by decide +kernel) w h).1
theorem dn_hd_X3_purse : yX3_purse.cls = RX3 ∧ yX3_purse.cls ≠ "java/lang/invoke/MethodHandle" ∧ yX3_purse.cls ≠ "java/lang/invoke/VarHandle" ∧ (parseMethodDescriptor yX3_purse.desc).map (fun d => d.parameters.length) = some 1 := by decide +kernel
theorem dn_fw_X3_purse_15 : Cond.fieldLink RX3 15 "DayNames$Moment" "purses" "[I" ∈ wsX3_purse := List.mem_of_getElem? (i := 1) rfl
theorem dn_in_X3_purse_3 : ∀ w ∈ u_ws RX3 TX3 8, w ∈ wsX3_purse := fun w h => (goodIn_r (u_ws RX3 TX3 8) [5, 6, 7, 8, 9, 10, 11, 12] rfl (by decide +kernel) w h).1
theorem dn_nm_X3_purse_54 : Cond.methodLinkNest RX3 54 yX11_at "DayNames" ∈ dn_nw := by decide +kernel
theorem dn_sw_X3_purse_X11_at_1 : Cond.initialized yX11_at.cls ∈ wsX3_purse := by decide +kernel
theorem dn_sw_X3_purse_X11_at_2 : Cond.static yX11_at ∈ wsX3_purse := List.mem_of_getElem? (i := 2) rfl
theorem dn_hd_X11_bidder : yX11_bidder.cls = RX11 ∧ yX11_bidder.cls ≠ "java/lang/invoke/MethodHandle" ∧ yX11_bidder.cls ≠ "java/lang/invoke/VarHandle" ∧ (parseMethodDescriptor yX11_bidder.desc).map (fun d => d.parameters.length) = some 2 := by decide +kernel
theorem dn_fw_X11_bidder_19 : Cond.fieldLink RX11 19 "DayNames" "told" "LDayNames$Town;" ∈ wsX11_bidder := List.mem_of_getElem? (i := 2) rfl
theorem dn_fw_X11_bidder_35 : Cond.fieldLink RX11 35 "DayNames" "current" "LDayNames$Moment;" ∈ wsX11_bidder := List.mem_of_getElem? (i := 1) rfl
theorem dn_in_X11_bidder_11 : ∀ w ∈ u_ws RX11 TX11 10, w ∈ wsX11_bidder := fun w h => (goodIn_r (u_ws RX11 TX11 10) [25, 26, 27, 28, 29, 30, 31, 32, 33, 34] rfl (by decide +kernel) w h).1
theorem dn_hd_X11_isDebt : yX11_isDebt.cls = RX11 ∧ yX11_isDebt.cls ≠ "java/lang/invoke/MethodHandle" ∧ yX11_isDebt.cls ≠ "java/lang/invoke/VarHandle" ∧ (parseMethodDescriptor yX11_isDebt.desc).map (fun d => d.parameters.length) = some 1 := by decide +kernel
theorem dn_fw_X11_isDebt_19 : Cond.fieldLink RX11 19 "DayNames" "told" "LDayNames$Town;" ∈ wsX11_isDebt := List.mem_of_getElem? (i := 1) rfl
theorem dn_fw_X11_isDebt_271 : Cond.fieldLinkNest RX11 271 "DayNames$Town" "debts" "I" "DayNames" ∈ dn_nw := by decide +kernel
theorem dn_in_X11_isDebt_10 : ∀ w ∈ u_ws RX10 TX10 5, w ∈ wsX11_isDebt := fun w h => (goodIn_r (u_ws RX10 TX10 5) [16, 17, 18, 19, 20] rfl (by decide +kernel) w h).1
theorem dn_in_X11_isDebt_11 : ∀ w ∈ u_ws RX11 TX11 10, w ∈ wsX11_isDebt := fun w h => (goodIn_r (u_ws RX11 TX11 10) [6, 7, 8, 9, 10, 11, 12, 13, 14, 15] rfl (by decide +kernel) w h).1
theorem dn_hd_X3_howIs : yX3_howIs.cls = RX3 ∧ yX3_howIs.cls ≠ "java/lang/invoke/MethodHandle" ∧ yX3_howIs.cls ≠ "java/lang/invoke/VarHandle" ∧ (parseMethodDescriptor yX3_howIs.desc).map (fun d => d.parameters.length) = some 1 := by decide +kernel
theorem dn_fw_X3_howIs_18 : Cond.fieldLink RX3 18 "DayNames$Moment" "debts" "[I" ∈ wsX3_howIs := List.mem_of_getElem? (i := 1) rfl
theorem dn_in_X3_howIs_3 : ∀ w ∈ u_ws RX3 TX3 8, w ∈ wsX3_howIs := fun w h => (goodIn_r (u_ws RX3 TX3 8) [5, 6, 7, 8, 9, 10, 11, 12] rfl (by decide +kernel) w h).1
theorem dn_nm_X3_howIs_54 : Cond.methodLinkNest RX3 54 yX11_at "DayNames" ∈ dn_nw := by decide +kernel
theorem dn_sw_X3_howIs_X11_at_1 : Cond.initialized yX11_at.cls ∈ wsX3_howIs := by decide +kernel
theorem dn_sw_X3_howIs_X11_at_2 : Cond.static yX11_at ∈ wsX3_howIs := List.mem_of_getElem? (i := 2) rfl
theorem dn_hd_X11_debt : yX11_debt.cls = RX11 ∧ yX11_debt.cls ≠ "java/lang/invoke/MethodHandle" ∧ yX11_debt.cls ≠ "java/lang/invoke/VarHandle" ∧ (parseMethodDescriptor yX11_debt.desc).map (fun d => d.parameters.length) = some 2 := by decide +kernel
theorem dn_fw_X11_debt_19 : Cond.fieldLink RX11 19 "DayNames" "told" "LDayNames$Town;" ∈ wsX11_debt := List.mem_of_getElem? (i := 2) rfl
theorem dn_fw_X11_debt_35 : Cond.fieldLink RX11 35 "DayNames" "current" "LDayNames$Moment;" ∈ wsX11_debt := List.mem_of_getElem? (i := 1) rfl
theorem dn_in_X11_debt_11 : ∀ w ∈ u_ws RX11 TX11 10, w ∈ wsX11_debt := fun w h => (goodIn_r (u_ws RX11 TX11 10) [25, 26, 27, 28, 29, 30, 31, 32, 33, 34] rfl (by decide +kernel) w h).1
theorem dn_hd_X3_nameOfDay : yX3_nameOfDay.cls = RX3 ∧ yX3_nameOfDay.cls ≠ "java/lang/invoke/MethodHandle" ∧ yX3_nameOfDay.cls ≠ "java/lang/invoke/VarHandle" ∧ (parseMethodDescriptor yX3_nameOfDay.desc).map (fun d => d.parameters.length) = some 1 := by decide +kernel
theorem dn_fw_X3_nameOfDay_9 : Cond.fieldLink RX3 9 "DayNames$Moment" "names" "[I" ∈ wsX3_nameOfDay := List.mem_of_getElem? (i := 1) rfl
theorem dn_in_X3_nameOfDay_3 : ∀ w ∈ u_ws RX3 TX3 8, w ∈ wsX3_nameOfDay := fun w h => (goodIn_r (u_ws RX3 TX3 8) [5, 6, 7, 8, 9, 10, 11, 12] rfl (by decide +kernel) w h).1
theorem dn_nm_X3_nameOfDay_54 : Cond.methodLinkNest RX3 54 yX11_at "DayNames" ∈ dn_nw := by decide +kernel
theorem dn_sw_X3_nameOfDay_X11_at_1 : Cond.initialized yX11_at.cls ∈ wsX3_nameOfDay := by decide +kernel
theorem dn_sw_X3_nameOfDay_X11_at_2 : Cond.static yX11_at ∈ wsX3_nameOfDay := List.mem_of_getElem? (i := 2) rfl
theorem dn_hd_X11_day : yX11_day.cls = RX11 ∧ yX11_day.cls ≠ "java/lang/invoke/MethodHandle" ∧ yX11_day.cls ≠ "java/lang/invoke/VarHandle" ∧ (parseMethodDescriptor yX11_day.desc).map (fun d => d.parameters.length) = some 1 := by decide +kernel
theorem dn_fw_X11_day_143 : Cond.fieldLinkNest RX11 143 "DayNames$Moment" "days" "I" "DayNames" ∈ dn_nw := by decide +kernel
theorem dn_fw_X11_day_35 : Cond.fieldLink RX11 35 "DayNames" "current" "LDayNames$Moment;" ∈ wsX11_day := List.mem_of_getElem? (i := 1) rfl
theorem dn_in_X11_day_11 : ∀ w ∈ u_ws RX11 TX11 10, w ∈ wsX11_day := fun w h => (goodIn_r (u_ws RX11 TX11 10) [14, 15, 16, 17, 18, 19, 20, 21, 22, 23] rfl (by decide +kernel) w h).1
theorem dn_in_X11_day_3 : ∀ w ∈ u_ws RX3 TX3 8, w ∈ wsX11_day := fun w h => (goodIn_r (u_ws RX3 TX3 8) [24, 25, 26, 27, 28, 29, 30, 31] rfl (by decide +kernel) w h).1
theorem dn_hs_X11_isName : yX11_isName.cls ≠ "java/lang/invoke/MethodHandle" ∧ yX11_isName.cls ≠ "java/lang/invoke/VarHandle" ∧ (parseMethodDescriptor yX11_isName.desc).map (fun d => d.parameters.length) = some 1 := by decide +kernel
theorem dn_hd_X3_daysCalled : yX3_daysCalled.cls = RX3 ∧ yX3_daysCalled.cls ≠ "java/lang/invoke/MethodHandle" ∧ yX3_daysCalled.cls ≠ "java/lang/invoke/VarHandle" ∧ (parseMethodDescriptor yX3_daysCalled.desc).map (fun d => d.parameters.length) = some 1 := by decide +kernel
theorem dn_fw_X3_daysCalled_27 : Cond.fieldLink RX3 27 "DayNames$Moment" "days" "I" ∈ wsX3_daysCalled := List.mem_of_getElem? (i := 1) rfl
theorem dn_in_X3_daysCalled_3 : ∀ w ∈ u_ws RX3 TX3 8, w ∈ wsX3_daysCalled := fun w h => (goodIn_r (u_ws RX3 TX3 8) [11, 12, 13, 14, 15, 16, 17, 18] rfl (by decide +kernel) w h).1
theorem dn_hd_X3_latestCalled : yX3_latestCalled.cls = RX3 ∧ yX3_latestCalled.cls ≠ "java/lang/invoke/MethodHandle" ∧ yX3_latestCalled.cls ≠ "java/lang/invoke/VarHandle" ∧ (parseMethodDescriptor yX3_latestCalled.desc).map (fun d => d.parameters.length) = some 1 := by decide +kernel
theorem dn_fw_X3_latestCalled_27 : Cond.fieldLink RX3 27 "DayNames$Moment" "days" "I" ∈ wsX3_latestCalled := List.mem_of_getElem? (i := 1) rfl
theorem dn_in_X3_latestCalled_3 : ∀ w ∈ u_ws RX3 TX3 8, w ∈ wsX3_latestCalled := fun w h => (goodIn_r (u_ws RX3 TX3 8) [11, 12, 13, 14, 15, 16, 17, 18] rfl (by decide +kernel) w h).1
theorem dn_hd_X3_isBarred : yX3_isBarred.cls = RX3 ∧ yX3_isBarred.cls ≠ "java/lang/invoke/MethodHandle" ∧ yX3_isBarred.cls ≠ "java/lang/invoke/VarHandle" ∧ (parseMethodDescriptor yX3_isBarred.desc).map (fun d => d.parameters.length) = some 2 := by decide +kernel
theorem dn_fw_X3_isBarred_27 : Cond.fieldLink RX3 27 "DayNames$Moment" "days" "I" ∈ wsX3_isBarred := List.mem_of_getElem? (i := 1) rfl
theorem dn_fw_X3_isBarred_9 : Cond.fieldLink RX3 9 "DayNames$Moment" "names" "[I" ∈ wsX3_isBarred := List.mem_of_getElem? (i := 2) rfl
theorem dn_in_X3_isBarred_3 : ∀ w ∈ u_ws RX3 TX3 8, w ∈ wsX3_isBarred := fun w h => (goodIn_r (u_ws RX3 TX3 8) [6, 7, 8, 9, 10, 11, 12, 13] rfl (by decide +kernel) w h).1
theorem dn_nm_X3_isBarred_54 : Cond.methodLinkNest RX3 54 yX11_at "DayNames" ∈ dn_nw := by decide +kernel
theorem dn_sw_X3_isBarred_X11_at_1 : Cond.initialized yX11_at.cls ∈ wsX3_isBarred := by decide +kernel
theorem dn_sw_X3_isBarred_X11_at_2 : Cond.static yX11_at ∈ wsX3_isBarred := List.mem_of_getElem? (i := 3) rfl
theorem dn_hd_X11_name : yX11_name.cls = RX11 ∧ yX11_name.cls ≠ "java/lang/invoke/MethodHandle" ∧ yX11_name.cls ≠ "java/lang/invoke/VarHandle" ∧ (parseMethodDescriptor yX11_name.desc).map (fun d => d.parameters.length) = some 2 := by decide +kernel
theorem dn_fw_X11_name_158 : Cond.fieldLinkNest RX11 158 "DayNames$Town" "bar" "I" "DayNames" ∈ dn_nw := by decide +kernel
theorem dn_fw_X11_name_19 : Cond.fieldLink RX11 19 "DayNames" "told" "LDayNames$Town;" ∈ wsX11_name := List.mem_of_getElem? (i := 2) rfl
theorem dn_fw_X11_name_35 : Cond.fieldLink RX11 35 "DayNames" "current" "LDayNames$Moment;" ∈ wsX11_name := List.mem_of_getElem? (i := 1) rfl
theorem dn_in_X11_name_10 : ∀ w ∈ u_ws RX10 TX10 5, w ∈ wsX11_name := fun w h => (goodIn_r (u_ws RX10 TX10 5) [41, 42, 43, 44, 45] rfl (by decide +kernel) w h).1
theorem dn_in_X11_name_11 : ∀ w ∈ u_ws RX11 TX11 10, w ∈ wsX11_name := fun w h => (goodIn_r (u_ws RX11 TX11 10) [31, 32, 33, 34, 35, 36, 37, 38, 39, 40] rfl (by decide +kernel) w h).1
theorem dn_hd_X3_defaults : yX3_defaults.cls = RX3 ∧ yX3_defaults.cls ≠ "java/lang/invoke/MethodHandle" ∧ yX3_defaults.cls ≠ "java/lang/invoke/VarHandle" ∧ (parseMethodDescriptor yX3_defaults.desc).map (fun d => d.parameters.length) = some 0 := by decide +kernel
theorem dn_fw_X3_defaults_18 : Cond.fieldLink RX3 18 "DayNames$Moment" "debts" "[I" ∈ wsX3_defaults := List.mem_of_getElem? (i := 1) rfl
theorem dn_in_X3_defaults_3 : ∀ w ∈ u_ws RX3 TX3 8, w ∈ wsX3_defaults := fun w h => (goodIn_r (u_ws RX3 TX3 8) [2, 3, 4, 5, 6, 7, 8, 9] rfl (by decide +kernel) w h).1
theorem dn_hd_X10_worth : yX10_worth.cls = RX10 ∧ yX10_worth.cls ≠ "java/lang/invoke/MethodHandle" ∧ yX10_worth.cls ≠ "java/lang/invoke/VarHandle" ∧ (parseMethodDescriptor yX10_worth.desc).map (fun d => d.parameters.length) = some 2 := by decide +kernel
theorem dn_fw_X10_worth_11 : Cond.fieldLink RX10 11 "DayNames$Town" "bidderFacts" "[I" ∈ wsX10_worth := List.mem_of_getElem? (i := 1) rfl
theorem dn_in_X10_worth_10 : ∀ w ∈ u_ws RX10 TX10 5, w ∈ wsX10_worth := fun w h => (goodIn_r (u_ws RX10 TX10 5) [5, 6, 7, 8, 9] rfl (by decide +kernel) w h).1
theorem dn_nm_X10_worth_32 : Cond.methodLinkNest RX10 32 yX11_at "DayNames" ∈ dn_nw := by decide +kernel
theorem dn_sw_X10_worth_X11_at_1 : Cond.initialized yX11_at.cls ∈ wsX10_worth := by decide +kernel
theorem dn_sw_X10_worth_X11_at_2 : Cond.static yX11_at ∈ wsX10_worth := List.mem_of_getElem? (i := 2) rfl
theorem dn_hd_X10_isWanted : yX10_isWanted.cls = RX10 ∧ yX10_isWanted.cls ≠ "java/lang/invoke/MethodHandle" ∧ yX10_isWanted.cls ≠ "java/lang/invoke/VarHandle" ∧ (parseMethodDescriptor yX10_isWanted.desc).map (fun d => d.parameters.length) = some 1 := by decide +kernel
theorem dn_fw_X10_isWanted_22 : Cond.fieldLink RX10 22 "DayNames$Town" "bidders" "I" ∈ wsX10_isWanted := List.mem_of_getElem? (i := 1) rfl
theorem dn_in_X10_isWanted_10 : ∀ w ∈ u_ws RX10 TX10 5, w ∈ wsX10_isWanted := fun w h => (goodIn_r (u_ws RX10 TX10 5) [11, 12, 13, 14, 15] rfl (by decide +kernel) w h).1
theorem dn_hd_X11_neverDue : yX11_neverDue.cls = RX11 ∧ yX11_neverDue.cls ≠ "java/lang/invoke/MethodHandle" ∧ yX11_neverDue.cls ≠ "java/lang/invoke/VarHandle" ∧ (parseMethodDescriptor yX11_neverDue.desc).map (fun d => d.parameters.length) = some 0 := by decide +kernel
theorem dn_fw_X11_neverDue_19 : Cond.fieldLink RX11 19 "DayNames" "told" "LDayNames$Town;" ∈ wsX11_neverDue := List.mem_of_getElem? (i := 1) rfl
theorem dn_fw_X11_neverDue_271 : Cond.fieldLinkNest RX11 271 "DayNames$Town" "debts" "I" "DayNames" ∈ dn_nw := by decide +kernel
theorem dn_fw_X11_neverDue_35 : Cond.fieldLink RX11 35 "DayNames" "current" "LDayNames$Moment;" ∈ wsX11_neverDue := List.mem_of_getElem? (i := 2) rfl
theorem dn_in_X11_neverDue_10 : ∀ w ∈ u_ws RX10 TX10 5, w ∈ wsX11_neverDue := fun w h => (goodIn_r (u_ws RX10 TX10 5) [38, 39, 40, 41, 42] rfl (by decide +kernel) w h).1
theorem dn_in_X11_neverDue_11 : ∀ w ∈ u_ws RX11 TX11 10, w ∈ wsX11_neverDue := fun w h => (goodIn_r (u_ws RX11 TX11 10) [28, 29, 30, 31, 32, 33, 34, 35, 36, 37] rfl (by decide +kernel) w h).1
theorem dn_hd_X11_now : yX11_now.cls = RX11 ∧ yX11_now.cls ≠ "java/lang/invoke/MethodHandle" ∧ yX11_now.cls ≠ "java/lang/invoke/VarHandle" ∧ (parseMethodDescriptor yX11_now.desc).map (fun d => d.parameters.length) = some 1 := by decide +kernel
theorem dn_fw_X11_now_143 : Cond.fieldLinkNest RX11 143 "DayNames$Moment" "days" "I" "DayNames" ∈ dn_nw := by decide +kernel
theorem dn_fw_X11_now_165 : Cond.fieldLinkNest RX11 165 "DayNames$Moment" "skipped" "I" "DayNames" ∈ dn_nw := by decide +kernel
theorem dn_fw_X11_now_168 : Cond.fieldLinkNest RX11 168 "DayNames$Moment" "spent" "I" "DayNames" ∈ dn_nw := by decide +kernel
theorem dn_fw_X11_now_177 : Cond.fieldLinkNest RX11 177 "DayNames$Past" "known" "I" "DayNames" ∈ dn_nw := by decide +kernel
theorem dn_fw_X11_now_35 : Cond.fieldLink RX11 35 "DayNames" "current" "LDayNames$Moment;" ∈ wsX11_now := List.mem_of_getElem? (i := 1) rfl
theorem dn_fw_X11_now_76 : Cond.fieldLink RX11 76 "DayNames" "past" "LDayNames$Past;" ∈ wsX11_now := List.mem_of_getElem? (i := 2) rfl
theorem dn_in_X11_now_11 : ∀ w ∈ u_ws RX11 TX11 10, w ∈ wsX11_now := fun w h => (goodIn_r (u_ws RX11 TX11 10) [37, 38, 39, 40, 41, 42, 43, 44, 45, 46] rfl (by decide +kernel) w h).1
theorem dn_in_X11_now_3 : ∀ w ∈ u_ws RX3 TX3 8, w ∈ wsX11_now := fun w h => (goodIn_r (u_ws RX3 TX3 8) [47, 48, 49, 50, 51, 52, 53, 54] rfl (by decide +kernel) w h).1
theorem dn_in_X11_now_6 : ∀ w ∈ u_ws RX6 TX6 5, w ∈ wsX11_now := fun w h => (goodIn_r (u_ws RX6 TX6 5) [55, 56, 57, 58, 59] rfl (by decide +kernel) w h).1
theorem dn_hs_X6_momentAt : yX6_momentAt.cls ≠ "java/lang/invoke/MethodHandle" ∧ yX6_momentAt.cls ≠ "java/lang/invoke/VarHandle" ∧ (parseMethodDescriptor yX6_momentAt.desc).map (fun d => d.parameters.length) = some 2 := by decide +kernel
theorem dn_hd_X3_copyFrom : yX3_copyFrom.cls = RX3 ∧ yX3_copyFrom.cls ≠ "java/lang/invoke/MethodHandle" ∧ yX3_copyFrom.cls ≠ "java/lang/invoke/VarHandle" ∧ (parseMethodDescriptor yX3_copyFrom.desc).map (fun d => d.parameters.length) = some 1 := by decide +kernel
theorem dn_fw_X3_copyFrom_15 : Cond.fieldLink RX3 15 "DayNames$Moment" "purses" "[I" ∈ wsX3_copyFrom := List.mem_of_getElem? (i := 2) rfl
theorem dn_fw_X3_copyFrom_18 : Cond.fieldLink RX3 18 "DayNames$Moment" "debts" "[I" ∈ wsX3_copyFrom := List.mem_of_getElem? (i := 3) rfl
theorem dn_fw_X3_copyFrom_27 : Cond.fieldLink RX3 27 "DayNames$Moment" "days" "I" ∈ wsX3_copyFrom := List.mem_of_getElem? (i := 4) rfl
theorem dn_fw_X3_copyFrom_31 : Cond.fieldLink RX3 31 "DayNames$Moment" "skipped" "I" ∈ wsX3_copyFrom := List.mem_of_getElem? (i := 5) rfl
theorem dn_fw_X3_copyFrom_34 : Cond.fieldLink RX3 34 "DayNames$Moment" "spent" "I" ∈ wsX3_copyFrom := List.mem_of_getElem? (i := 6) rfl
theorem dn_fw_X3_copyFrom_44 : Cond.fieldLink RX3 44 "DayNames$Moment" "ownName" "I" ∈ wsX3_copyFrom := List.mem_of_getElem? (i := 7) rfl
theorem dn_fw_X3_copyFrom_47 : Cond.fieldLink RX3 47 "DayNames$Moment" "ownCoins" "I" ∈ wsX3_copyFrom := List.mem_of_getElem? (i := 8) rfl
theorem dn_fw_X3_copyFrom_9 : Cond.fieldLink RX3 9 "DayNames$Moment" "names" "[I" ∈ wsX3_copyFrom := List.mem_of_getElem? (i := 1) rfl
theorem dn_in_X3_copyFrom_3 : ∀ w ∈ u_ws RX3 TX3 8, w ∈ wsX3_copyFrom := fun w h => (goodIn_r (u_ws RX3 TX3 8) [12, 13, 14, 15, 16, 17, 18, 19] rfl (by decide +kernel) w h).1
theorem dn_nm_X3_copyFrom_40 : Cond.methodLinkNest RX3 40 yX11_copyRow "DayNames" ∈ dn_nw := by decide +kernel
theorem dn_sw_X3_copyFrom_X11_copyRow_1 : Cond.initialized yX11_copyRow.cls ∈ wsX3_copyFrom := by decide +kernel
theorem dn_sw_X3_copyFrom_X11_copyRow_2 : Cond.static yX11_copyRow ∈ wsX3_copyFrom := List.mem_of_getElem? (i := 9) rfl
theorem dn_hd_X6_remember : yX6_remember.cls = RX6 ∧ yX6_remember.cls ≠ "java/lang/invoke/MethodHandle" ∧ yX6_remember.cls ≠ "java/lang/invoke/VarHandle" ∧ (parseMethodDescriptor yX6_remember.desc).map (fun d => d.parameters.length) = some 1 := by decide +kernel
theorem dn_fw_X6_remember_11 : Cond.fieldLink RX6 11 "DayNames$Past" "steps" "[LDayNames$Moment;" ∈ wsX6_remember := List.mem_of_getElem? (i := 1) rfl
theorem dn_fw_X6_remember_25 : Cond.fieldLink RX6 25 "DayNames$Past" "known" "I" ∈ wsX6_remember := List.mem_of_getElem? (i := 3) rfl
theorem dn_fw_X6_remember_29 : Cond.fieldLink RX6 29 "DayNames$Past" "next" "I" ∈ wsX6_remember := List.mem_of_getElem? (i := 2) rfl
theorem dn_in_X6_remember_6 : ∀ w ∈ u_ws RX6 TX6 5, w ∈ wsX6_remember := fun w h => (goodIn_r (u_ws RX6 TX6 5) [28, 29, 30, 31, 32] rfl (by decide +kernel) w h).1
theorem dn_mw_X6_remember_min_1 : Cond.methodLink RX6 40 Lib.Math.min.name ∈ wsX6_remember := List.mem_of_getElem? (i := 4) rfl
theorem dn_mw_X6_remember_min_2 : Cond.static Lib.Math.min.name ∈ wsX6_remember := List.mem_of_getElem? (i := 5) rfl
theorem dn_mw_X6_remember_min_3 : Cond.initialized "java/lang/Math" ∈ wsX6_remember := List.mem_of_getElem? (i := 6) rfl
theorem dn_mw_X6_remember_min_4 : Cond.code Lib.Math.min.name Lib.Math.min.code 2 (some .int) ∈ wsX6_remember := List.mem_of_getElem? (i := 7) rfl
theorem dn_hd_X1_set : yX1_set.cls = RX1 ∧ yX1_set.cls ≠ "java/lang/invoke/MethodHandle" ∧ yX1_set.cls ≠ "java/lang/invoke/VarHandle" ∧ (parseMethodDescriptor yX1_set.desc).map (fun d => d.parameters.length) = some 3 := by decide +kernel
theorem dn_fw_X1_set_15 : Cond.fieldLink RX1 15 "DayNames$Bids" "coins" "[I" ∈ wsX1_set := List.mem_of_getElem? (i := 2) rfl
theorem dn_fw_X1_set_9 : Cond.fieldLink RX1 9 "DayNames$Bids" "names" "[I" ∈ wsX1_set := List.mem_of_getElem? (i := 1) rfl
theorem dn_in_X1_set_1 : ∀ w ∈ u_ws RX1 TX1 2, w ∈ wsX1_set := fun w h => (goodIn_r (u_ws RX1 TX1 2) [6, 7] rfl (by decide +kernel) w h).1
theorem dn_nm_X1_set_53 : Cond.methodLinkNest RX1 53 yX11_put "DayNames" ∈ dn_nw := by decide +kernel
theorem dn_sw_X1_set_X11_put_1 : Cond.initialized yX11_put.cls ∈ wsX1_set := by decide +kernel
theorem dn_sw_X1_set_X11_put_2 : Cond.static yX11_put ∈ wsX1_set := List.mem_of_getElem? (i := 3) rfl
theorem dn_hd_X1_raise : yX1_raise.cls = RX1 ∧ yX1_raise.cls ≠ "java/lang/invoke/MethodHandle" ∧ yX1_raise.cls ≠ "java/lang/invoke/VarHandle" ∧ (parseMethodDescriptor yX1_raise.desc).map (fun d => d.parameters.length) = some 4 := by decide +kernel
theorem dn_fw_X1_raise_15 : Cond.fieldLink RX1 15 "DayNames$Bids" "coins" "[I" ∈ wsX1_raise := List.mem_of_getElem? (i := 1) rfl
theorem dn_fw_X1_raise_42 : Cond.fieldLinkNest RX1 42 "DayNames$Town" "bar" "I" "DayNames" ∈ dn_nw := by decide +kernel
theorem dn_in_X1_raise_1 : ∀ w ∈ u_ws RX1 TX1 2, w ∈ wsX1_raise := fun w h => (goodIn_r (u_ws RX1 TX1 2) [31, 32] rfl (by decide +kernel) w h).1
theorem dn_in_X1_raise_10 : ∀ w ∈ u_ws RX10 TX10 5, w ∈ wsX1_raise := fun w h => (goodIn_r (u_ws RX10 TX10 5) [33, 34, 35, 36, 37] rfl (by decide +kernel) w h).1
theorem dn_nm_X1_raise_32 : Cond.methodLinkNest RX1 32 yX11_at "DayNames" ∈ dn_nw := by decide +kernel
theorem dn_sw_X1_raise_X11_at_1 : Cond.initialized yX11_at.cls ∈ wsX1_raise := by decide +kernel
theorem dn_sw_X1_raise_X11_at_2 : Cond.static yX11_at ∈ wsX1_raise := List.mem_of_getElem? (i := 8) rfl
theorem dn_hd_X1_callFor : yX1_callFor.cls = RX1 ∧ yX1_callFor.cls ≠ "java/lang/invoke/MethodHandle" ∧ yX1_callFor.cls ≠ "java/lang/invoke/VarHandle" ∧ (parseMethodDescriptor yX1_callFor.desc).map (fun d => d.parameters.length) = some 2 := by decide +kernel
theorem dn_fw_X1_callFor_15 : Cond.fieldLink RX1 15 "DayNames$Bids" "coins" "[I" ∈ wsX1_callFor := List.mem_of_getElem? (i := 1) rfl
theorem dn_fw_X1_callFor_18 : Cond.fieldLinkNest RX1 18 "DayNames$Town" "bidders" "I" "DayNames" ∈ dn_nw := by decide +kernel
theorem dn_in_X1_callFor_1 : ∀ w ∈ u_ws RX1 TX1 2, w ∈ wsX1_callFor := fun w h => (goodIn_r (u_ws RX1 TX1 2) [35, 36] rfl (by decide +kernel) w h).1
theorem dn_in_X1_callFor_10 : ∀ w ∈ u_ws RX10 TX10 5, w ∈ wsX1_callFor := fun w h => (goodIn_r (u_ws RX10 TX10 5) [37, 38, 39, 40, 41] rfl (by decide +kernel) w h).1
theorem dn_hd_X4_open : yX4_open.cls = RX4 ∧ yX4_open.cls ≠ "java/lang/invoke/MethodHandle" ∧ yX4_open.cls ≠ "java/lang/invoke/VarHandle" ∧ (parseMethodDescriptor yX4_open.desc).map (fun d => d.parameters.length) = some 1 := by decide +kernel
theorem dn_fw_X4_open_12 : Cond.fieldLink RX4 12 "DayNames$Nights" "bids" "LDayNames$Bids;" ∈ wsX4_open := List.mem_of_getElem? (i := 1) rfl
theorem dn_fw_X4_open_18 : Cond.fieldLink RX4 18 "DayNames$Nights" "town" "LDayNames$Town;" ∈ wsX4_open := List.mem_of_getElem? (i := 2) rfl
theorem dn_in_X4_open_4 : ∀ w ∈ u_ws RX4 TX4 4, w ∈ wsX4_open := fun w h => (goodIn_r (u_ws RX4 TX4 4) [41, 42, 43, 44] rfl (by decide +kernel) w h).1
theorem dn_hd_X4_bidOwn : yX4_bidOwn.cls = RX4 ∧ yX4_bidOwn.cls ≠ "java/lang/invoke/MethodHandle" ∧ yX4_bidOwn.cls ≠ "java/lang/invoke/VarHandle" ∧ (parseMethodDescriptor yX4_bidOwn.desc).map (fun d => d.parameters.length) = some 3 := by decide +kernel
theorem dn_fw_X4_bidOwn_12 : Cond.fieldLink RX4 12 "DayNames$Nights" "bids" "LDayNames$Bids;" ∈ wsX4_bidOwn := List.mem_of_getElem? (i := 2) rfl
theorem dn_fw_X4_bidOwn_18 : Cond.fieldLink RX4 18 "DayNames$Nights" "town" "LDayNames$Town;" ∈ wsX4_bidOwn := List.mem_of_getElem? (i := 1) rfl
theorem dn_fw_X4_bidOwn_30 : Cond.fieldLinkNest RX4 30 "DayNames$Town" "bar" "I" "DayNames" ∈ dn_nw := by decide +kernel
theorem dn_in_X4_bidOwn_10 : ∀ w ∈ u_ws RX10 TX10 5, w ∈ wsX4_bidOwn := fun w h => (goodIn_r (u_ws RX10 TX10 5) [31, 32, 33, 34, 35] rfl (by decide +kernel) w h).1
theorem dn_in_X4_bidOwn_4 : ∀ w ∈ u_ws RX4 TX4 4, w ∈ wsX4_bidOwn := fun w h => (goodIn_r (u_ws RX4 TX4 4) [27, 28, 29, 30] rfl (by decide +kernel) w h).1
theorem dn_nm_X4_bidOwn_26 : Cond.methodLinkNest RX4 26 yX11_isName "DayNames" ∈ dn_nw := by decide +kernel
theorem dn_sw_X4_bidOwn_X11_isName_1 : Cond.initialized yX11_isName.cls ∈ wsX4_bidOwn := by decide +kernel
theorem dn_sw_X4_bidOwn_X11_isName_2 : Cond.static yX11_isName ∈ wsX4_bidOwn := List.mem_of_getElem? (i := 3) rfl
theorem dn_hd_X1_winner : yX1_winner.cls = RX1 ∧ yX1_winner.cls ≠ "java/lang/invoke/MethodHandle" ∧ yX1_winner.cls ≠ "java/lang/invoke/VarHandle" ∧ (parseMethodDescriptor yX1_winner.desc).map (fun d => d.parameters.length) = some 0 := by decide +kernel
theorem dn_fw_X1_winner_15 : Cond.fieldLink RX1 15 "DayNames$Bids" "coins" "[I" ∈ wsX1_winner := List.mem_of_getElem? (i := 1) rfl
theorem dn_in_X1_winner_1 : ∀ w ∈ u_ws RX1 TX1 2, w ∈ wsX1_winner := fun w h => (goodIn_r (u_ws RX1 TX1 2) [2, 3] rfl (by decide +kernel) w h).1
theorem dn_hd_X1_price : yX1_price.cls = RX1 ∧ yX1_price.cls ≠ "java/lang/invoke/MethodHandle" ∧ yX1_price.cls ≠ "java/lang/invoke/VarHandle" ∧ (parseMethodDescriptor yX1_price.desc).map (fun d => d.parameters.length) = some 1 := by decide +kernel
theorem dn_fw_X1_price_15 : Cond.fieldLink RX1 15 "DayNames$Bids" "coins" "[I" ∈ wsX1_price := List.mem_of_getElem? (i := 1) rfl
theorem dn_in_X1_price_1 : ∀ w ∈ u_ws RX1 TX1 2, w ∈ wsX1_price := fun w h => (goodIn_r (u_ws RX1 TX1 2) [12, 13] rfl (by decide +kernel) w h).1
theorem dn_mw_X1_price_max_1 : Cond.methodLink RX1 62 Lib.Math.max.name ∈ wsX1_price := List.mem_of_getElem? (i := 2) rfl
theorem dn_mw_X1_price_max_2 : Cond.static Lib.Math.max.name ∈ wsX1_price := List.mem_of_getElem? (i := 3) rfl
theorem dn_mw_X1_price_max_3 : Cond.initialized "java/lang/Math" ∈ wsX1_price := List.mem_of_getElem? (i := 4) rfl
theorem dn_mw_X1_price_max_4 : Cond.code Lib.Math.max.name Lib.Math.max.code 2 (some .int) ∈ wsX1_price := List.mem_of_getElem? (i := 5) rfl
theorem dn_mw_X1_price_min_1 : Cond.methodLink RX1 57 Lib.Math.min.name ∈ wsX1_price := List.mem_of_getElem? (i := 6) rfl
theorem dn_mw_X1_price_min_2 : Cond.static Lib.Math.min.name ∈ wsX1_price := List.mem_of_getElem? (i := 7) rfl
theorem dn_mw_X1_price_min_3 : Cond.initialized "java/lang/Math" ∈ wsX1_price := List.mem_of_getElem? (i := 4) rfl
theorem dn_mw_X1_price_min_4 : Cond.code Lib.Math.min.name Lib.Math.min.code 2 (some .int) ∈ wsX1_price := List.mem_of_getElem? (i := 8) rfl
theorem dn_nm_X1_price_32 : Cond.methodLinkNest RX1 32 yX11_at "DayNames" ∈ dn_nw := by decide +kernel
theorem dn_sw_X1_price_X11_at_1 : Cond.initialized yX11_at.cls ∈ wsX1_price := by decide +kernel
theorem dn_sw_X1_price_X11_at_2 : Cond.static yX11_at ∈ wsX1_price := List.mem_of_getElem? (i := 9) rfl
theorem dn_hd_X3_addToPurse : yX3_addToPurse.cls = RX3 ∧ yX3_addToPurse.cls ≠ "java/lang/invoke/MethodHandle" ∧ yX3_addToPurse.cls ≠ "java/lang/invoke/VarHandle" ∧ (parseMethodDescriptor yX3_addToPurse.desc).map (fun d => d.parameters.length) = some 2 := by decide +kernel
theorem dn_fw_X3_addToPurse_15 : Cond.fieldLink RX3 15 "DayNames$Moment" "purses" "[I" ∈ wsX3_addToPurse := List.mem_of_getElem? (i := 1) rfl
theorem dn_in_X3_addToPurse_3 : ∀ w ∈ u_ws RX3 TX3 8, w ∈ wsX3_addToPurse := fun w h => (goodIn_r (u_ws RX3 TX3 8) [7, 8, 9, 10, 11, 12, 13, 14] rfl (by decide +kernel) w h).1
theorem dn_nm_X3_addToPurse_50 : Cond.methodLinkNest RX3 50 yX11_put "DayNames" ∈ dn_nw := by decide +kernel
theorem dn_sw_X3_addToPurse_X11_put_1 : Cond.initialized yX11_put.cls ∈ wsX3_addToPurse := by decide +kernel
theorem dn_sw_X3_addToPurse_X11_put_2 : Cond.static yX11_put ∈ wsX3_addToPurse := List.mem_of_getElem? (i := 5) rfl
theorem dn_nm_X3_addToPurse_54 : Cond.methodLinkNest RX3 54 yX11_at "DayNames" ∈ dn_nw := by decide +kernel
theorem dn_sw_X3_addToPurse_X11_at_1 : Cond.initialized yX11_at.cls ∈ wsX3_addToPurse := by decide +kernel
theorem dn_sw_X3_addToPurse_X11_at_2 : Cond.static yX11_at ∈ wsX3_addToPurse := List.mem_of_getElem? (i := 2) rfl
theorem dn_hd_X1_nameOf : yX1_nameOf.cls = RX1 ∧ yX1_nameOf.cls ≠ "java/lang/invoke/MethodHandle" ∧ yX1_nameOf.cls ≠ "java/lang/invoke/VarHandle" ∧ (parseMethodDescriptor yX1_nameOf.desc).map (fun d => d.parameters.length) = some 1 := by decide +kernel
theorem dn_fw_X1_nameOf_9 : Cond.fieldLink RX1 9 "DayNames$Bids" "names" "[I" ∈ wsX1_nameOf := List.mem_of_getElem? (i := 1) rfl
theorem dn_in_X1_nameOf_1 : ∀ w ∈ u_ws RX1 TX1 2, w ∈ wsX1_nameOf := fun w h => (goodIn_r (u_ws RX1 TX1 2) [5, 6] rfl (by decide +kernel) w h).1
theorem dn_nm_X1_nameOf_32 : Cond.methodLinkNest RX1 32 yX11_at "DayNames" ∈ dn_nw := by decide +kernel
theorem dn_sw_X1_nameOf_X11_at_1 : Cond.initialized yX11_at.cls ∈ wsX1_nameOf := by decide +kernel
theorem dn_sw_X1_nameOf_X11_at_2 : Cond.static yX11_at ∈ wsX1_nameOf := List.mem_of_getElem? (i := 2) rfl
theorem dn_hd_X3_addDay : yX3_addDay.cls = RX3 ∧ yX3_addDay.cls ≠ "java/lang/invoke/MethodHandle" ∧ yX3_addDay.cls ≠ "java/lang/invoke/VarHandle" ∧ (parseMethodDescriptor yX3_addDay.desc).map (fun d => d.parameters.length) = some 1 := by decide +kernel
theorem dn_fw_X3_addDay_27 : Cond.fieldLink RX3 27 "DayNames$Moment" "days" "I" ∈ wsX3_addDay := List.mem_of_getElem? (i := 2) rfl
theorem dn_fw_X3_addDay_9 : Cond.fieldLink RX3 9 "DayNames$Moment" "names" "[I" ∈ wsX3_addDay := List.mem_of_getElem? (i := 1) rfl
theorem dn_in_X3_addDay_3 : ∀ w ∈ u_ws RX3 TX3 8, w ∈ wsX3_addDay := fun w h => (goodIn_r (u_ws RX3 TX3 8) [6, 7, 8, 9, 10, 11, 12, 13] rfl (by decide +kernel) w h).1
theorem dn_nm_X3_addDay_50 : Cond.methodLinkNest RX3 50 yX11_put "DayNames" ∈ dn_nw := by decide +kernel
theorem dn_sw_X3_addDay_X11_put_1 : Cond.initialized yX11_put.cls ∈ wsX3_addDay := by decide +kernel
theorem dn_sw_X3_addDay_X11_put_2 : Cond.static yX11_put ∈ wsX3_addDay := List.mem_of_getElem? (i := 3) rfl
theorem dn_hd_X3_setHowIs : yX3_setHowIs.cls = RX3 ∧ yX3_setHowIs.cls ≠ "java/lang/invoke/MethodHandle" ∧ yX3_setHowIs.cls ≠ "java/lang/invoke/VarHandle" ∧ (parseMethodDescriptor yX3_setHowIs.desc).map (fun d => d.parameters.length) = some 2 := by decide +kernel
theorem dn_fw_X3_setHowIs_18 : Cond.fieldLink RX3 18 "DayNames$Moment" "debts" "[I" ∈ wsX3_setHowIs := List.mem_of_getElem? (i := 1) rfl
theorem dn_in_X3_setHowIs_3 : ∀ w ∈ u_ws RX3 TX3 8, w ∈ wsX3_setHowIs := fun w h => (goodIn_r (u_ws RX3 TX3 8) [5, 6, 7, 8, 9, 10, 11, 12] rfl (by decide +kernel) w h).1
theorem dn_nm_X3_setHowIs_50 : Cond.methodLinkNest RX3 50 yX11_put "DayNames" ∈ dn_nw := by decide +kernel
theorem dn_sw_X3_setHowIs_X11_put_1 : Cond.initialized yX11_put.cls ∈ wsX3_setHowIs := by decide +kernel
theorem dn_sw_X3_setHowIs_X11_put_2 : Cond.static yX11_put ∈ wsX3_setHowIs := List.mem_of_getElem? (i := 2) rfl
theorem dn_hd_X4_fallDue : yX4_fallDue.cls = RX4 ∧ yX4_fallDue.cls ≠ "java/lang/invoke/MethodHandle" ∧ yX4_fallDue.cls ≠ "java/lang/invoke/VarHandle" ∧ (parseMethodDescriptor yX4_fallDue.desc).map (fun d => d.parameters.length) = some 2 := by decide +kernel
theorem dn_fw_X4_fallDue_18 : Cond.fieldLink RX4 18 "DayNames$Nights" "town" "LDayNames$Town;" ∈ wsX4_fallDue := List.mem_of_getElem? (i := 1) rfl
theorem dn_in_X4_fallDue_4 : ∀ w ∈ u_ws RX4 TX4 4, w ∈ wsX4_fallDue := fun w h => (goodIn_r (u_ws RX4 TX4 4) [28, 29, 30, 31] rfl (by decide +kernel) w h).1
theorem dn_hd_X4_callDay : yX4_callDay.cls = RX4 ∧ yX4_callDay.cls ≠ "java/lang/invoke/MethodHandle" ∧ yX4_callDay.cls ≠ "java/lang/invoke/VarHandle" ∧ (parseMethodDescriptor yX4_callDay.desc).map (fun d => d.parameters.length) = some 2 := by decide +kernel
theorem dn_fw_X4_callDay_18 : Cond.fieldLink RX4 18 "DayNames$Nights" "town" "LDayNames$Town;" ∈ wsX4_callDay := List.mem_of_getElem? (i := 1) rfl
theorem dn_fw_X4_callDay_85 : Cond.fieldLinkNest RX4 85 "DayNames$Town" "bidders" "I" "DayNames" ∈ dn_nw := by decide +kernel
theorem dn_fw_X4_callDay_95 : Cond.fieldLinkNest RX4 95 "DayNames$Town" "debts" "I" "DayNames" ∈ dn_nw := by decide +kernel
theorem dn_in_X4_callDay_10 : ∀ w ∈ u_ws RX10 TX10 5, w ∈ wsX4_callDay := fun w h => (goodIn_r (u_ws RX10 TX10 5) [60, 61, 62, 63, 64] rfl (by decide +kernel) w h).1
theorem dn_in_X4_callDay_4 : ∀ w ∈ u_ws RX4 TX4 4, w ∈ wsX4_callDay := fun w h => (goodIn_r (u_ws RX4 TX4 4) [56, 57, 58, 59] rfl (by decide +kernel) w h).1
theorem dn_hd_X4_close : yX4_close.cls = RX4 ∧ yX4_close.cls ≠ "java/lang/invoke/MethodHandle" ∧ yX4_close.cls ≠ "java/lang/invoke/VarHandle" ∧ (parseMethodDescriptor yX4_close.desc).map (fun d => d.parameters.length) = some 1 := by decide +kernel
theorem dn_fw_X4_close_12 : Cond.fieldLink RX4 12 "DayNames$Nights" "bids" "LDayNames$Bids;" ∈ wsX4_close := List.mem_of_getElem? (i := 1) rfl
theorem dn_fw_X4_close_57 : Cond.fieldLink RX4 57 "DayNames$Nights" "winner" "I" ∈ wsX4_close := List.mem_of_getElem? (i := 2) rfl
theorem dn_fw_X4_close_59 : Cond.fieldLinkNest RX4 59 "DayNames$Moment" "skipped" "I" "DayNames" ∈ dn_nw := by decide +kernel
theorem dn_fw_X4_close_66 : Cond.fieldLink RX4 66 "DayNames$Nights" "price" "I" ∈ wsX4_close := List.mem_of_getElem? (i := 3) rfl
theorem dn_fw_X4_close_68 : Cond.fieldLinkNest RX4 68 "DayNames$Moment" "spent" "I" "DayNames" ∈ dn_nw := by decide +kernel
theorem dn_in_X4_close_3 : ∀ w ∈ u_ws RX3 TX3 8, w ∈ wsX4_close := fun w h => (goodIn_r (u_ws RX3 TX3 8) [89, 90, 91, 92, 93, 94, 95, 96] rfl (by decide +kernel) w h).1
theorem dn_in_X4_close_4 : ∀ w ∈ u_ws RX4 TX4 4, w ∈ wsX4_close := fun w h => (goodIn_r (u_ws RX4 TX4 4) [85, 86, 87, 88] rfl (by decide +kernel) w h).1
theorem dn_hd_X11_night : yX11_night.cls = RX11 ∧ yX11_night.cls ≠ "java/lang/invoke/MethodHandle" ∧ yX11_night.cls ≠ "java/lang/invoke/VarHandle" ∧ (parseMethodDescriptor yX11_night.desc).map (fun d => d.parameters.length) = some 0 := by decide +kernel
theorem dn_fw_X11_night_143 : Cond.fieldLinkNest RX11 143 "DayNames$Moment" "days" "I" "DayNames" ∈ dn_nw := by decide +kernel
theorem dn_fw_X11_night_165 : Cond.fieldLinkNest RX11 165 "DayNames$Moment" "skipped" "I" "DayNames" ∈ dn_nw := by decide +kernel
theorem dn_fw_X11_night_187 : Cond.fieldLinkNest RX11 187 "DayNames$Moment" "ownName" "I" "DayNames" ∈ dn_nw := by decide +kernel
theorem dn_fw_X11_night_190 : Cond.fieldLinkNest RX11 190 "DayNames$Moment" "ownCoins" "I" "DayNames" ∈ dn_nw := by decide +kernel
theorem dn_fw_X11_night_35 : Cond.fieldLink RX11 35 "DayNames" "current" "LDayNames$Moment;" ∈ wsX11_night := List.mem_of_getElem? (i := 1) rfl
theorem dn_fw_X11_night_44 : Cond.fieldLink RX11 44 "DayNames" "nights" "LDayNames$Nights;" ∈ wsX11_night := List.mem_of_getElem? (i := 3) rfl
theorem dn_fw_X11_night_76 : Cond.fieldLink RX11 76 "DayNames" "past" "LDayNames$Past;" ∈ wsX11_night := List.mem_of_getElem? (i := 2) rfl
theorem dn_in_X11_night_11 : ∀ w ∈ u_ws RX11 TX11 10, w ∈ wsX11_night := fun w h => (goodIn_r (u_ws RX11 TX11 10) [154, 155, 156, 157, 158, 159, 160, 161, 162, 163] rfl (by decide +kernel) w h).1
theorem dn_in_X11_night_3 : ∀ w ∈ u_ws RX3 TX3 8, w ∈ wsX11_night := fun w h => (goodIn_r (u_ws RX3 TX3 8) [164, 165, 166, 167, 168, 169, 170, 171] rfl (by decide +kernel) w h).1
theorem dn_hd_X11_bids : yX11_bids.cls = RX11 ∧ yX11_bids.cls ≠ "java/lang/invoke/MethodHandle" ∧ yX11_bids.cls ≠ "java/lang/invoke/VarHandle" ∧ (parseMethodDescriptor yX11_bids.desc).map (fun d => d.parameters.length) = some 2 := by decide +kernel
theorem dn_fw_X11_bids_187 : Cond.fieldLinkNest RX11 187 "DayNames$Moment" "ownName" "I" "DayNames" ∈ dn_nw := by decide +kernel
theorem dn_fw_X11_bids_190 : Cond.fieldLinkNest RX11 190 "DayNames$Moment" "ownCoins" "I" "DayNames" ∈ dn_nw := by decide +kernel
theorem dn_fw_X11_bids_35 : Cond.fieldLink RX11 35 "DayNames" "current" "LDayNames$Moment;" ∈ wsX11_bids := List.mem_of_getElem? (i := 2) rfl
theorem dn_fw_X11_bids_76 : Cond.fieldLink RX11 76 "DayNames" "past" "LDayNames$Past;" ∈ wsX11_bids := List.mem_of_getElem? (i := 1) rfl
theorem dn_in_X11_bids_11 : ∀ w ∈ u_ws RX11 TX11 10, w ∈ wsX11_bids := fun w h => (goodIn_r (u_ws RX11 TX11 10) [40, 41, 42, 43, 44, 45, 46, 47, 48, 49] rfl (by decide +kernel) w h).1
theorem dn_in_X11_bids_3 : ∀ w ∈ u_ws RX3 TX3 8, w ∈ wsX11_bids := fun w h => (goodIn_r (u_ws RX3 TX3 8) [50, 51, 52, 53, 54, 55, 56, 57] rfl (by decide +kernel) w h).1
theorem dn_hd_X6_stepBack : yX6_stepBack.cls = RX6 ∧ yX6_stepBack.cls ≠ "java/lang/invoke/MethodHandle" ∧ yX6_stepBack.cls ≠ "java/lang/invoke/VarHandle" ∧ (parseMethodDescriptor yX6_stepBack.desc).map (fun d => d.parameters.length) = some 1 := by decide +kernel
theorem dn_fw_X6_stepBack_11 : Cond.fieldLink RX6 11 "DayNames$Past" "steps" "[LDayNames$Moment;" ∈ wsX6_stepBack := List.mem_of_getElem? (i := 3) rfl
theorem dn_fw_X6_stepBack_25 : Cond.fieldLink RX6 25 "DayNames$Past" "known" "I" ∈ wsX6_stepBack := List.mem_of_getElem? (i := 1) rfl
theorem dn_fw_X6_stepBack_29 : Cond.fieldLink RX6 29 "DayNames$Past" "next" "I" ∈ wsX6_stepBack := List.mem_of_getElem? (i := 2) rfl
theorem dn_in_X6_stepBack_6 : ∀ w ∈ u_ws RX6 TX6 5, w ∈ wsX6_stepBack := fun w h => (goodIn_r (u_ws RX6 TX6 5) [24, 25, 26, 27, 28] rfl (by decide +kernel) w h).1
theorem dn_hd_X11_undo : yX11_undo.cls = RX11 ∧ yX11_undo.cls ≠ "java/lang/invoke/MethodHandle" ∧ yX11_undo.cls ≠ "java/lang/invoke/VarHandle" ∧ (parseMethodDescriptor yX11_undo.desc).map (fun d => d.parameters.length) = some 0 := by decide +kernel
theorem dn_fw_X11_undo_177 : Cond.fieldLinkNest RX11 177 "DayNames$Past" "known" "I" "DayNames" ∈ dn_nw := by decide +kernel
theorem dn_fw_X11_undo_35 : Cond.fieldLink RX11 35 "DayNames" "current" "LDayNames$Moment;" ∈ wsX11_undo := List.mem_of_getElem? (i := 2) rfl
theorem dn_fw_X11_undo_76 : Cond.fieldLink RX11 76 "DayNames" "past" "LDayNames$Past;" ∈ wsX11_undo := List.mem_of_getElem? (i := 1) rfl
theorem dn_in_X11_undo_11 : ∀ w ∈ u_ws RX11 TX11 10, w ∈ wsX11_undo := fun w h => (goodIn_r (u_ws RX11 TX11 10) [30, 31, 32, 33, 34, 35, 36, 37, 38, 39] rfl (by decide +kernel) w h).1
theorem dn_in_X11_undo_6 : ∀ w ∈ u_ws RX6 TX6 5, w ∈ wsX11_undo := fun w h => (goodIn_r (u_ws RX6 TX6 5) [40, 41, 42, 43, 44] rfl (by decide +kernel) w h).1
theorem dn_hd_X5_after : yX5_after.cls = RX5 ∧ yX5_after.cls ≠ "java/lang/invoke/MethodHandle" ∧ yX5_after.cls ≠ "java/lang/invoke/VarHandle" ∧ (parseMethodDescriptor yX5_after.desc).map (fun d => d.parameters.length) = some 2 := by decide +kernel
theorem dn_fw_X5_after_12 : Cond.fieldLink RX5 12 "DayNames$Outlook" "ahead" "LDayNames$Moment;" ∈ wsX5_after := List.mem_of_getElem? (i := 1) rfl
theorem dn_fw_X5_after_22 : Cond.fieldLink RX5 22 "DayNames$Outlook" "nights" "LDayNames$Nights;" ∈ wsX5_after := List.mem_of_getElem? (i := 2) rfl
theorem dn_in_X5_after_5 : ∀ w ∈ u_ws RX5 TX5 3, w ∈ wsX5_after := fun w h => (goodIn_r (u_ws RX5 TX5 3) [126, 127, 128] rfl (by decide +kernel) w h).1
theorem dn_hd_X11_inNights : yX11_inNights.cls = RX11 ∧ yX11_inNights.cls ≠ "java/lang/invoke/MethodHandle" ∧ yX11_inNights.cls ≠ "java/lang/invoke/VarHandle" ∧ (parseMethodDescriptor yX11_inNights.desc).map (fun d => d.parameters.length) = some 2 := by decide +kernel
theorem dn_fw_X11_inNights_143 : Cond.fieldLinkNest RX11 143 "DayNames$Moment" "days" "I" "DayNames" ∈ dn_nw := by decide +kernel
theorem dn_fw_X11_inNights_35 : Cond.fieldLink RX11 35 "DayNames" "current" "LDayNames$Moment;" ∈ wsX11_inNights := List.mem_of_getElem? (i := 2) rfl
theorem dn_fw_X11_inNights_53 : Cond.fieldLink RX11 53 "DayNames" "outlook" "LDayNames$Outlook;" ∈ wsX11_inNights := List.mem_of_getElem? (i := 1) rfl
theorem dn_in_X11_inNights_11 : ∀ w ∈ u_ws RX11 TX11 10, w ∈ wsX11_inNights := fun w h => (goodIn_r (u_ws RX11 TX11 10) [141, 142, 143, 144, 145, 146, 147, 148, 149, 150] rfl (by decide +kernel) w h).1
theorem dn_in_X11_inNights_3 : ∀ w ∈ u_ws RX3 TX3 8, w ∈ wsX11_inNights := fun w h => (goodIn_r (u_ws RX3 TX3 8) [151, 152, 153, 154, 155, 156, 157, 158] rfl (by decide +kernel) w h).1
theorem dn_hd_X11_purseIn : yX11_purseIn.cls = RX11 ∧ yX11_purseIn.cls ≠ "java/lang/invoke/MethodHandle" ∧ yX11_purseIn.cls ≠ "java/lang/invoke/VarHandle" ∧ (parseMethodDescriptor yX11_purseIn.desc).map (fun d => d.parameters.length) = some 2 := by decide +kernel
theorem dn_fw_X11_purseIn_35 : Cond.fieldLink RX11 35 "DayNames" "current" "LDayNames$Moment;" ∈ wsX11_purseIn := List.mem_of_getElem? (i := 2) rfl
theorem dn_fw_X11_purseIn_53 : Cond.fieldLink RX11 53 "DayNames" "outlook" "LDayNames$Outlook;" ∈ wsX11_purseIn := List.mem_of_getElem? (i := 1) rfl
theorem dn_in_X11_purseIn_11 : ∀ w ∈ u_ws RX11 TX11 10, w ∈ wsX11_purseIn := fun w h => (goodIn_r (u_ws RX11 TX11 10) [142, 143, 144, 145, 146, 147, 148, 149, 150, 151] rfl (by decide +kernel) w h).1
theorem dn_hd_X5_nightDue : yX5_nightDue.cls = RX5 ∧ yX5_nightDue.cls ≠ "java/lang/invoke/MethodHandle" ∧ yX5_nightDue.cls ≠ "java/lang/invoke/VarHandle" ∧ (parseMethodDescriptor yX5_nightDue.desc).map (fun d => d.parameters.length) = some 3 := by decide +kernel
theorem dn_fw_X5_nightDue_12 : Cond.fieldLink RX5 12 "DayNames$Outlook" "ahead" "LDayNames$Moment;" ∈ wsX5_nightDue := List.mem_of_getElem? (i := 1) rfl
theorem dn_fw_X5_nightDue_22 : Cond.fieldLink RX5 22 "DayNames$Outlook" "nights" "LDayNames$Nights;" ∈ wsX5_nightDue := List.mem_of_getElem? (i := 2) rfl
theorem dn_in_X5_nightDue_5 : ∀ w ∈ u_ws RX5 TX5 3, w ∈ wsX5_nightDue := fun w h => (goodIn_r (u_ws RX5 TX5 3) [127, 128, 129] rfl (by decide +kernel) w h).1
theorem dn_hd_X11_falls : yX11_falls.cls = RX11 ∧ yX11_falls.cls ≠ "java/lang/invoke/MethodHandle" ∧ yX11_falls.cls ≠ "java/lang/invoke/VarHandle" ∧ (parseMethodDescriptor yX11_falls.desc).map (fun d => d.parameters.length) = some 1 := by decide +kernel
theorem dn_fw_X11_falls_35 : Cond.fieldLink RX11 35 "DayNames" "current" "LDayNames$Moment;" ∈ wsX11_falls := List.mem_of_getElem? (i := 2) rfl
theorem dn_fw_X11_falls_53 : Cond.fieldLink RX11 53 "DayNames" "outlook" "LDayNames$Outlook;" ∈ wsX11_falls := List.mem_of_getElem? (i := 1) rfl
theorem dn_in_X11_falls_11 : ∀ w ∈ u_ws RX11 TX11 10, w ∈ wsX11_falls := fun w h => (goodIn_r (u_ws RX11 TX11 10) [142, 143, 144, 145, 146, 147, 148, 149, 150, 151] rfl (by decide +kernel) w h).1
theorem dn_hd_X1_highest : yX1_highest.cls = RX1 ∧ yX1_highest.cls ≠ "java/lang/invoke/MethodHandle" ∧ yX1_highest.cls ≠ "java/lang/invoke/VarHandle" ∧ (parseMethodDescriptor yX1_highest.desc).map (fun d => d.parameters.length) = some 0 := by decide +kernel
theorem dn_fw_X1_highest_15 : Cond.fieldLink RX1 15 "DayNames$Bids" "coins" "[I" ∈ wsX1_highest := List.mem_of_getElem? (i := 1) rfl
theorem dn_in_X1_highest_1 : ∀ w ∈ u_ws RX1 TX1 2, w ∈ wsX1_highest := fun w h => (goodIn_r (u_ws RX1 TX1 2) [10, 11] rfl (by decide +kernel) w h).1
theorem dn_nm_X1_highest_32 : Cond.methodLinkNest RX1 32 yX11_at "DayNames" ∈ dn_nw := by decide +kernel
theorem dn_sw_X1_highest_X11_at_1 : Cond.initialized yX11_at.cls ∈ wsX1_highest := by decide +kernel
theorem dn_sw_X1_highest_X11_at_2 : Cond.static yX11_at ∈ wsX1_highest := List.mem_of_getElem? (i := 7) rfl
theorem dn_hd_X4_highestBid : yX4_highestBid.cls = RX4 ∧ yX4_highestBid.cls ≠ "java/lang/invoke/MethodHandle" ∧ yX4_highestBid.cls ≠ "java/lang/invoke/VarHandle" ∧ (parseMethodDescriptor yX4_highestBid.desc).map (fun d => d.parameters.length) = some 0 := by decide +kernel
theorem dn_fw_X4_highestBid_12 : Cond.fieldLink RX4 12 "DayNames$Nights" "bids" "LDayNames$Bids;" ∈ wsX4_highestBid := List.mem_of_getElem? (i := 1) rfl
theorem dn_in_X4_highestBid_4 : ∀ w ∈ u_ws RX4 TX4 4, w ∈ wsX4_highestBid := fun w h => (goodIn_r (u_ws RX4 TX4 4) [15, 16, 17, 18] rfl (by decide +kernel) w h).1
theorem dn_hd_X5_cheapest : yX5_cheapest.cls = RX5 ∧ yX5_cheapest.cls ≠ "java/lang/invoke/MethodHandle" ∧ yX5_cheapest.cls ≠ "java/lang/invoke/VarHandle" ∧ (parseMethodDescriptor yX5_cheapest.desc).map (fun d => d.parameters.length) = some 4 := by decide +kernel
theorem dn_fw_X5_cheapest_12 : Cond.fieldLink RX5 12 "DayNames$Outlook" "ahead" "LDayNames$Moment;" ∈ wsX5_cheapest := List.mem_of_getElem? (i := 1) rfl
theorem dn_fw_X5_cheapest_18 : Cond.fieldLink RX5 18 "DayNames$Outlook" "town" "LDayNames$Town;" ∈ wsX5_cheapest := List.mem_of_getElem? (i := 2) rfl
theorem dn_fw_X5_cheapest_22 : Cond.fieldLink RX5 22 "DayNames$Outlook" "nights" "LDayNames$Nights;" ∈ wsX5_cheapest := List.mem_of_getElem? (i := 3) rfl
theorem dn_fw_X5_cheapest_43 : Cond.fieldLinkNest RX5 43 "DayNames$Town" "bar" "I" "DayNames" ∈ dn_nw := by decide +kernel
theorem dn_in_X5_cheapest_10 : ∀ w ∈ u_ws RX10 TX10 5, w ∈ wsX5_cheapest := fun w h => (goodIn_r (u_ws RX10 TX10 5) [140, 141, 142, 143, 144] rfl (by decide +kernel) w h).1
theorem dn_in_X5_cheapest_5 : ∀ w ∈ u_ws RX5 TX5 3, w ∈ wsX5_cheapest := fun w h => (goodIn_r (u_ws RX5 TX5 3) [137, 138, 139] rfl (by decide +kernel) w h).1
theorem dn_hd_X11_buy : yX11_buy.cls = RX11 ∧ yX11_buy.cls ≠ "java/lang/invoke/MethodHandle" ∧ yX11_buy.cls ≠ "java/lang/invoke/VarHandle" ∧ (parseMethodDescriptor yX11_buy.desc).map (fun d => d.parameters.length) = some 3 := by decide +kernel
theorem dn_fw_X11_buy_35 : Cond.fieldLink RX11 35 "DayNames" "current" "LDayNames$Moment;" ∈ wsX11_buy := List.mem_of_getElem? (i := 2) rfl
theorem dn_fw_X11_buy_53 : Cond.fieldLink RX11 53 "DayNames" "outlook" "LDayNames$Outlook;" ∈ wsX11_buy := List.mem_of_getElem? (i := 1) rfl
theorem dn_in_X11_buy_11 : ∀ w ∈ u_ws RX11 TX11 10, w ∈ wsX11_buy := fun w h => (goodIn_r (u_ws RX11 TX11 10) [150, 151, 152, 153, 154, 155, 156, 157, 158, 159] rfl (by decide +kernel) w h).1
theorem dn_hd_X5_holding : yX5_holding.cls = RX5 ∧ yX5_holding.cls ≠ "java/lang/invoke/MethodHandle" ∧ yX5_holding.cls ≠ "java/lang/invoke/VarHandle" ∧ (parseMethodDescriptor yX5_holding.desc).map (fun d => d.parameters.length) = some 4 := by decide +kernel
theorem dn_fw_X5_holding_12 : Cond.fieldLink RX5 12 "DayNames$Outlook" "ahead" "LDayNames$Moment;" ∈ wsX5_holding := List.mem_of_getElem? (i := 1) rfl
theorem dn_fw_X5_holding_18 : Cond.fieldLink RX5 18 "DayNames$Outlook" "town" "LDayNames$Town;" ∈ wsX5_holding := List.mem_of_getElem? (i := 3) rfl
theorem dn_fw_X5_holding_22 : Cond.fieldLink RX5 22 "DayNames$Outlook" "nights" "LDayNames$Nights;" ∈ wsX5_holding := List.mem_of_getElem? (i := 2) rfl
theorem dn_fw_X5_holding_43 : Cond.fieldLinkNest RX5 43 "DayNames$Town" "bar" "I" "DayNames" ∈ dn_nw := by decide +kernel
theorem dn_fw_X5_holding_61 : Cond.fieldLinkNest RX5 61 "DayNames$Moment" "spent" "I" "DayNames" ∈ dn_nw := by decide +kernel
theorem dn_in_X5_holding_10 : ∀ w ∈ u_ws RX10 TX10 5, w ∈ wsX5_holding := fun w h => (goodIn_r (u_ws RX10 TX10 5) [151, 152, 153, 154, 155] rfl (by decide +kernel) w h).1
theorem dn_in_X5_holding_3 : ∀ w ∈ u_ws RX3 TX3 8, w ∈ wsX5_holding := fun w h => (goodIn_r (u_ws RX3 TX3 8) [156, 157, 158, 159, 160, 161, 162, 163] rfl (by decide +kernel) w h).1
theorem dn_in_X5_holding_5 : ∀ w ∈ u_ws RX5 TX5 3, w ∈ wsX5_holding := fun w h => (goodIn_r (u_ws RX5 TX5 3) [148, 149, 150] rfl (by decide +kernel) w h).1
theorem dn_hd_X11_hold : yX11_hold.cls = RX11 ∧ yX11_hold.cls ≠ "java/lang/invoke/MethodHandle" ∧ yX11_hold.cls ≠ "java/lang/invoke/VarHandle" ∧ (parseMethodDescriptor yX11_hold.desc).map (fun d => d.parameters.length) = some 3 := by decide +kernel
theorem dn_fw_X11_hold_35 : Cond.fieldLink RX11 35 "DayNames" "current" "LDayNames$Moment;" ∈ wsX11_hold := List.mem_of_getElem? (i := 2) rfl
theorem dn_fw_X11_hold_53 : Cond.fieldLink RX11 53 "DayNames" "outlook" "LDayNames$Outlook;" ∈ wsX11_hold := List.mem_of_getElem? (i := 1) rfl
theorem dn_in_X11_hold_11 : ∀ w ∈ u_ws RX11 TX11 10, w ∈ wsX11_hold := fun w h => (goodIn_r (u_ws RX11 TX11 10) [156, 157, 158, 159, 160, 161, 162, 163, 164, 165] rfl (by decide +kernel) w h).1
theorem dn_hd_X1_silenceLower : yX1_silenceLower.cls = RX1 ∧ yX1_silenceLower.cls ≠ "java/lang/invoke/MethodHandle" ∧ yX1_silenceLower.cls ≠ "java/lang/invoke/VarHandle" ∧ (parseMethodDescriptor yX1_silenceLower.desc).map (fun d => d.parameters.length) = some 2 := by decide +kernel
theorem dn_fw_X1_silenceLower_15 : Cond.fieldLink RX1 15 "DayNames$Bids" "coins" "[I" ∈ wsX1_silenceLower := List.mem_of_getElem? (i := 8) rfl
theorem dn_in_X1_silenceLower_1 : ∀ w ∈ u_ws RX1 TX1 2, w ∈ wsX1_silenceLower := fun w h => (goodIn_r (u_ws RX1 TX1 2) [14, 15] rfl (by decide +kernel) w h).1
theorem dn_mw_X1_silenceLower_max_1 : Cond.methodLink RX1 62 Lib.Math.max.name ∈ wsX1_silenceLower := List.mem_of_getElem? (i := 5) rfl
theorem dn_mw_X1_silenceLower_max_2 : Cond.static Lib.Math.max.name ∈ wsX1_silenceLower := List.mem_of_getElem? (i := 6) rfl
theorem dn_mw_X1_silenceLower_max_3 : Cond.initialized "java/lang/Math" ∈ wsX1_silenceLower := List.mem_of_getElem? (i := 3) rfl
theorem dn_mw_X1_silenceLower_max_4 : Cond.code Lib.Math.max.name Lib.Math.max.code 2 (some .int) ∈ wsX1_silenceLower := List.mem_of_getElem? (i := 7) rfl
theorem dn_mw_X1_silenceLower_min_1 : Cond.methodLink RX1 57 Lib.Math.min.name ∈ wsX1_silenceLower := List.mem_of_getElem? (i := 1) rfl
theorem dn_mw_X1_silenceLower_min_2 : Cond.static Lib.Math.min.name ∈ wsX1_silenceLower := List.mem_of_getElem? (i := 2) rfl
theorem dn_mw_X1_silenceLower_min_3 : Cond.initialized "java/lang/Math" ∈ wsX1_silenceLower := List.mem_of_getElem? (i := 3) rfl
theorem dn_mw_X1_silenceLower_min_4 : Cond.code Lib.Math.min.name Lib.Math.min.code 2 (some .int) ∈ wsX1_silenceLower := List.mem_of_getElem? (i := 4) rfl
theorem dn_nm_X1_silenceLower_32 : Cond.methodLinkNest RX1 32 yX11_at "DayNames" ∈ dn_nw := by decide +kernel
theorem dn_sw_X1_silenceLower_X11_at_1 : Cond.initialized yX11_at.cls ∈ wsX1_silenceLower := by decide +kernel
theorem dn_sw_X1_silenceLower_X11_at_2 : Cond.static yX11_at ∈ wsX1_silenceLower := List.mem_of_getElem? (i := 9) rfl
theorem dn_nm_X1_silenceLower_53 : Cond.methodLinkNest RX1 53 yX11_put "DayNames" ∈ dn_nw := by decide +kernel
theorem dn_sw_X1_silenceLower_X11_put_1 : Cond.initialized yX11_put.cls ∈ wsX1_silenceLower := by decide +kernel
theorem dn_sw_X1_silenceLower_X11_put_2 : Cond.static yX11_put ∈ wsX1_silenceLower := List.mem_of_getElem? (i := 12) rfl
theorem dn_hd_X4_silenceLower : yX4_silenceLower.cls = RX4 ∧ yX4_silenceLower.cls ≠ "java/lang/invoke/MethodHandle" ∧ yX4_silenceLower.cls ≠ "java/lang/invoke/VarHandle" ∧ (parseMethodDescriptor yX4_silenceLower.desc).map (fun d => d.parameters.length) = some 2 := by decide +kernel
theorem dn_fw_X4_silenceLower_12 : Cond.fieldLink RX4 12 "DayNames$Nights" "bids" "LDayNames$Bids;" ∈ wsX4_silenceLower := List.mem_of_getElem? (i := 1) rfl
theorem dn_in_X4_silenceLower_4 : ∀ w ∈ u_ws RX4 TX4 4, w ∈ wsX4_silenceLower := fun w h => (goodIn_r (u_ws RX4 TX4 4) [20, 21, 22, 23] rfl (by decide +kernel) w h).1
theorem dn_hd_X4_paidLast : yX4_paidLast.cls = RX4 ∧ yX4_paidLast.cls ≠ "java/lang/invoke/MethodHandle" ∧ yX4_paidLast.cls ≠ "java/lang/invoke/VarHandle" ∧ (parseMethodDescriptor yX4_paidLast.desc).map (fun d => d.parameters.length) = some 2 := by decide +kernel
theorem dn_fw_X4_paidLast_57 : Cond.fieldLink RX4 57 "DayNames$Nights" "winner" "I" ∈ wsX4_paidLast := List.mem_of_getElem? (i := 1) rfl
theorem dn_fw_X4_paidLast_66 : Cond.fieldLink RX4 66 "DayNames$Nights" "price" "I" ∈ wsX4_paidLast := List.mem_of_getElem? (i := 2) rfl
theorem dn_in_X4_paidLast_4 : ∀ w ∈ u_ws RX4 TX4 4, w ∈ wsX4_paidLast := fun w h => (goodIn_r (u_ws RX4 TX4 4) [3, 4, 5, 6] rfl (by decide +kernel) w h).1
theorem dn_hd_X5_paidBy : yX5_paidBy.cls = RX5 ∧ yX5_paidBy.cls ≠ "java/lang/invoke/MethodHandle" ∧ yX5_paidBy.cls ≠ "java/lang/invoke/VarHandle" ∧ (parseMethodDescriptor yX5_paidBy.desc).map (fun d => d.parameters.length) = some 5 := by decide +kernel
theorem dn_fw_X5_paidBy_12 : Cond.fieldLink RX5 12 "DayNames$Outlook" "ahead" "LDayNames$Moment;" ∈ wsX5_paidBy := List.mem_of_getElem? (i := 1) rfl
theorem dn_fw_X5_paidBy_22 : Cond.fieldLink RX5 22 "DayNames$Outlook" "nights" "LDayNames$Nights;" ∈ wsX5_paidBy := List.mem_of_getElem? (i := 2) rfl
theorem dn_in_X5_paidBy_5 : ∀ w ∈ u_ws RX5 TX5 3, w ∈ wsX5_paidBy := fun w h => (goodIn_r (u_ws RX5 TX5 3) [138, 139, 140] rfl (by decide +kernel) w h).1
theorem dn_hd_X11_ring : yX11_ring.cls = RX11 ∧ yX11_ring.cls ≠ "java/lang/invoke/MethodHandle" ∧ yX11_ring.cls ≠ "java/lang/invoke/VarHandle" ∧ (parseMethodDescriptor yX11_ring.desc).map (fun d => d.parameters.length) = some 3 := by decide +kernel
theorem dn_fw_X11_ring_35 : Cond.fieldLink RX11 35 "DayNames" "current" "LDayNames$Moment;" ∈ wsX11_ring := List.mem_of_getElem? (i := 3) rfl
theorem dn_fw_X11_ring_53 : Cond.fieldLink RX11 53 "DayNames" "outlook" "LDayNames$Outlook;" ∈ wsX11_ring := List.mem_of_getElem? (i := 2) rfl
theorem dn_in_X11_ring_11 : ∀ w ∈ u_ws RX11 TX11 10, w ∈ wsX11_ring := fun w h => (goodIn_r (u_ws RX11 TX11 10) [154, 155, 156, 157, 158, 159, 160, 161, 162, 163] rfl (by decide +kernel) w h).1
theorem dn_hs_X11_isNameOrNone : yX11_isNameOrNone.cls ≠ "java/lang/invoke/MethodHandle" ∧ yX11_isNameOrNone.cls ≠ "java/lang/invoke/VarHandle" ∧ (parseMethodDescriptor yX11_isNameOrNone.desc).map (fun d => d.parameters.length) = some 1 := by decide +kernel
theorem dn_hd_X2_add : yX2_add.cls = RX2 ∧ yX2_add.cls ≠ "java/lang/invoke/MethodHandle" ∧ yX2_add.cls ≠ "java/lang/invoke/VarHandle" ∧ (parseMethodDescriptor yX2_add.desc).map (fun d => d.parameters.length) = some 2 := by decide +kernel
theorem dn_fw_X2_add_18 : Cond.fieldLink RX2 18 "DayNames$Finds" "whichNight" "[I" ∈ wsX2_add := List.mem_of_getElem? (i := 1) rfl
theorem dn_fw_X2_add_22 : Cond.fieldLink RX2 22 "DayNames$Finds" "names" "[I" ∈ wsX2_add := List.mem_of_getElem? (i := 3) rfl
theorem dn_fw_X2_add_33 : Cond.fieldLink RX2 33 "DayNames$Finds" "many" "I" ∈ wsX2_add := List.mem_of_getElem? (i := 2) rfl
theorem dn_in_X2_add_2 : ∀ w ∈ u_ws RX2 TX2 6, w ∈ wsX2_add := fun w h => (goodIn_r (u_ws RX2 TX2 6) [7, 8, 9, 10, 11, 12] rfl (by decide +kernel) w h).1
theorem dn_nm_X2_add_37 : Cond.methodLinkNest RX2 37 yX11_put "DayNames" ∈ dn_nw := by decide +kernel
theorem dn_sw_X2_add_X11_put_1 : Cond.initialized yX11_put.cls ∈ wsX2_add := by decide +kernel
theorem dn_sw_X2_add_X11_put_2 : Cond.static yX11_put ∈ wsX2_add := List.mem_of_getElem? (i := 4) rfl
theorem dn_hd_X11_found : yX11_found.cls = RX11 ∧ yX11_found.cls ≠ "java/lang/invoke/MethodHandle" ∧ yX11_found.cls ≠ "java/lang/invoke/VarHandle" ∧ (parseMethodDescriptor yX11_found.desc).map (fun d => d.parameters.length) = some 2 := by decide +kernel
theorem dn_fw_X11_found_231 : Cond.fieldLinkNest RX11 231 "DayNames$Finds" "many" "I" "DayNames" ∈ dn_nw := by decide +kernel
theorem dn_fw_X11_found_60 : Cond.fieldLink RX11 60 "DayNames" "finds" "LDayNames$Finds;" ∈ wsX11_found := List.mem_of_getElem? (i := 1) rfl
theorem dn_in_X11_found_11 : ∀ w ∈ u_ws RX11 TX11 10, w ∈ wsX11_found := fun w h => (goodIn_r (u_ws RX11 TX11 10) [19, 20, 21, 22, 23, 24, 25, 26, 27, 28] rfl (by decide +kernel) w h).1
theorem dn_in_X11_found_2 : ∀ w ∈ u_ws RX2 TX2 6, w ∈ wsX11_found := fun w h => (goodIn_r (u_ws RX2 TX2 6) [29, 30, 31, 32, 33, 34] rfl (by decide +kernel) w h).1
theorem dn_hd_X11_forget : yX11_forget.cls = RX11 ∧ yX11_forget.cls ≠ "java/lang/invoke/MethodHandle" ∧ yX11_forget.cls ≠ "java/lang/invoke/VarHandle" ∧ (parseMethodDescriptor yX11_forget.desc).map (fun d => d.parameters.length) = some 0 := by decide +kernel
theorem dn_fw_X11_forget_60 : Cond.fieldLink RX11 60 "DayNames" "finds" "LDayNames$Finds;" ∈ wsX11_forget := List.mem_of_getElem? (i := 1) rfl
theorem dn_in_X11_forget_11 : ∀ w ∈ u_ws RX11 TX11 10, w ∈ wsX11_forget := fun w h => (goodIn_r (u_ws RX11 TX11 10) [8, 9, 10, 11, 12, 13, 14, 15, 16, 17] rfl (by decide +kernel) w h).1
theorem dn_hd_X10_setWorth : yX10_setWorth.cls = RX10 ∧ yX10_setWorth.cls ≠ "java/lang/invoke/MethodHandle" ∧ yX10_setWorth.cls ≠ "java/lang/invoke/VarHandle" ∧ (parseMethodDescriptor yX10_setWorth.desc).map (fun d => d.parameters.length) = some 3 := by decide +kernel
theorem dn_hd_X2_agreeOn : yX2_agreeOn.cls = RX2 ∧ yX2_agreeOn.cls ≠ "java/lang/invoke/MethodHandle" ∧ yX2_agreeOn.cls ≠ "java/lang/invoke/VarHandle" ∧ (parseMethodDescriptor yX2_agreeOn.desc).map (fun d => d.parameters.length) = some 2 := by decide +kernel
theorem dn_fw_X2_agreeOn_18 : Cond.fieldLink RX2 18 "DayNames$Finds" "whichNight" "[I" ∈ wsX2_agreeOn := List.mem_of_getElem? (i := 2) rfl
theorem dn_fw_X2_agreeOn_22 : Cond.fieldLink RX2 22 "DayNames$Finds" "names" "[I" ∈ wsX2_agreeOn := List.mem_of_getElem? (i := 3) rfl
theorem dn_fw_X2_agreeOn_33 : Cond.fieldLink RX2 33 "DayNames$Finds" "many" "I" ∈ wsX2_agreeOn := List.mem_of_getElem? (i := 1) rfl
theorem dn_in_X2_agreeOn_2 : ∀ w ∈ u_ws RX2 TX2 6, w ∈ wsX2_agreeOn := fun w h => (goodIn_r (u_ws RX2 TX2 6) [7, 8, 9, 10, 11, 12] rfl (by decide +kernel) w h).1
theorem dn_nm_X2_agreeOn_68 : Cond.methodLinkNest RX2 68 yX11_at "DayNames" ∈ dn_nw := by decide +kernel
theorem dn_sw_X2_agreeOn_X11_at_1 : Cond.initialized yX11_at.cls ∈ wsX2_agreeOn := by decide +kernel
theorem dn_sw_X2_agreeOn_X11_at_2 : Cond.static yX11_at ∈ wsX2_agreeOn := List.mem_of_getElem? (i := 4) rfl
theorem dn_hd_X2_agreeWith : yX2_agreeWith.cls = RX2 ∧ yX2_agreeWith.cls ≠ "java/lang/invoke/MethodHandle" ∧ yX2_agreeWith.cls ≠ "java/lang/invoke/VarHandle" ∧ (parseMethodDescriptor yX2_agreeWith.desc).map (fun d => d.parameters.length) = some 4 := by decide +kernel
theorem dn_fw_X2_agreeWith_12 : Cond.fieldLink RX2 12 "DayNames$Finds" "ahead" "LDayNames$Moment;" ∈ wsX2_agreeWith := List.mem_of_getElem? (i := 2) rfl
theorem dn_fw_X2_agreeWith_25 : Cond.fieldLink RX2 25 "DayNames$Finds" "town" "LDayNames$Town;" ∈ wsX2_agreeWith := List.mem_of_getElem? (i := 1) rfl
theorem dn_fw_X2_agreeWith_29 : Cond.fieldLink RX2 29 "DayNames$Finds" "nights" "LDayNames$Nights;" ∈ wsX2_agreeWith := List.mem_of_getElem? (i := 3) rfl
theorem dn_in_X2_agreeWith_2 : ∀ w ∈ u_ws RX2 TX2 6, w ∈ wsX2_agreeWith := fun w h => (goodIn_r (u_ws RX2 TX2 6) [144, 145, 146, 147, 148, 149] rfl (by decide +kernel) w h).1
theorem dn_hd_X11_mayBe : yX11_mayBe.cls = RX11 ∧ yX11_mayBe.cls ≠ "java/lang/invoke/MethodHandle" ∧ yX11_mayBe.cls ≠ "java/lang/invoke/VarHandle" ∧ (parseMethodDescriptor yX11_mayBe.desc).map (fun d => d.parameters.length) = some 3 := by decide +kernel
theorem dn_fw_X11_mayBe_35 : Cond.fieldLink RX11 35 "DayNames" "current" "LDayNames$Moment;" ∈ wsX11_mayBe := List.mem_of_getElem? (i := 2) rfl
theorem dn_fw_X11_mayBe_60 : Cond.fieldLink RX11 60 "DayNames" "finds" "LDayNames$Finds;" ∈ wsX11_mayBe := List.mem_of_getElem? (i := 1) rfl
theorem dn_in_X11_mayBe_11 : ∀ w ∈ u_ws RX11 TX11 10, w ∈ wsX11_mayBe := fun w h => (goodIn_r (u_ws RX11 TX11 10) [161, 162, 163, 164, 165, 166, 167, 168, 169, 170] rfl (by decide +kernel) w h).1
theorem dn_hd_X0_add : yX0_add.cls = RX0 ∧ yX0_add.cls ≠ "java/lang/invoke/MethodHandle" ∧ yX0_add.cls ≠ "java/lang/invoke/VarHandle" ∧ (parseMethodDescriptor yX0_add.desc).map (fun d => d.parameters.length) = some 1 := by decide +kernel
theorem dn_fw_X0_add_18 : Cond.fieldLink RX0 18 "DayNames$Agenda" "names" "[I" ∈ wsX0_add := List.mem_of_getElem? (i := 1) rfl
theorem dn_fw_X0_add_26 : Cond.fieldLink RX0 26 "DayNames$Agenda" "many" "I" ∈ wsX0_add := List.mem_of_getElem? (i := 2) rfl
theorem dn_in_X0_add_0 : ∀ w ∈ u_ws RX0 TX0 4, w ∈ wsX0_add := fun w h => (goodIn_r (u_ws RX0 TX0 4) [6, 7, 8, 9] rfl (by decide +kernel) w h).1
theorem dn_nm_X0_add_30 : Cond.methodLinkNest RX0 30 yX11_put "DayNames" ∈ dn_nw := by decide +kernel
theorem dn_sw_X0_add_X11_put_1 : Cond.initialized yX11_put.cls ∈ wsX0_add := by decide +kernel
theorem dn_sw_X0_add_X11_put_2 : Cond.static yX11_put ∈ wsX0_add := List.mem_of_getElem? (i := 3) rfl
theorem dn_hd_X11_plan : yX11_plan.cls = RX11 ∧ yX11_plan.cls ≠ "java/lang/invoke/MethodHandle" ∧ yX11_plan.cls ≠ "java/lang/invoke/VarHandle" ∧ (parseMethodDescriptor yX11_plan.desc).map (fun d => d.parameters.length) = some 1 := by decide +kernel
theorem dn_fw_X11_plan_241 : Cond.fieldLinkNest RX11 241 "DayNames$Agenda" "many" "I" "DayNames" ∈ dn_nw := by decide +kernel
theorem dn_fw_X11_plan_69 : Cond.fieldLink RX11 69 "DayNames" "agenda" "LDayNames$Agenda;" ∈ wsX11_plan := List.mem_of_getElem? (i := 1) rfl
theorem dn_in_X11_plan_0 : ∀ w ∈ u_ws RX0 TX0 4, w ∈ wsX11_plan := fun w h => (goodIn_r (u_ws RX0 TX0 4) [28, 29, 30, 31] rfl (by decide +kernel) w h).1
theorem dn_in_X11_plan_11 : ∀ w ∈ u_ws RX11 TX11 10, w ∈ wsX11_plan := fun w h => (goodIn_r (u_ws RX11 TX11 10) [18, 19, 20, 21, 22, 23, 24, 25, 26, 27] rfl (by decide +kernel) w h).1
theorem dn_hd_X11_unplan : yX11_unplan.cls = RX11 ∧ yX11_unplan.cls ≠ "java/lang/invoke/MethodHandle" ∧ yX11_unplan.cls ≠ "java/lang/invoke/VarHandle" ∧ (parseMethodDescriptor yX11_unplan.desc).map (fun d => d.parameters.length) = some 0 := by decide +kernel
theorem dn_fw_X11_unplan_69 : Cond.fieldLink RX11 69 "DayNames" "agenda" "LDayNames$Agenda;" ∈ wsX11_unplan := List.mem_of_getElem? (i := 1) rfl
theorem dn_in_X11_unplan_11 : ∀ w ∈ u_ws RX11 TX11 10, w ∈ wsX11_unplan := fun w h => (goodIn_r (u_ws RX11 TX11 10) [8, 9, 10, 11, 12, 13, 14, 15, 16, 17] rfl (by decide +kernel) w h).1
theorem dn_hd_X0_carriedOut : yX0_carriedOut.cls = RX0 ∧ yX0_carriedOut.cls ≠ "java/lang/invoke/MethodHandle" ∧ yX0_carriedOut.cls ≠ "java/lang/invoke/VarHandle" ∧ (parseMethodDescriptor yX0_carriedOut.desc).map (fun d => d.parameters.length) = some 1 := by decide +kernel
theorem dn_fw_X0_carriedOut_12 : Cond.fieldLink RX0 12 "DayNames$Agenda" "ahead" "LDayNames$Moment;" ∈ wsX0_carriedOut := List.mem_of_getElem? (i := 1) rfl
theorem dn_fw_X0_carriedOut_18 : Cond.fieldLink RX0 18 "DayNames$Agenda" "names" "[I" ∈ wsX0_carriedOut := List.mem_of_getElem? (i := 3) rfl
theorem dn_fw_X0_carriedOut_22 : Cond.fieldLink RX0 22 "DayNames$Agenda" "nights" "LDayNames$Nights;" ∈ wsX0_carriedOut := List.mem_of_getElem? (i := 4) rfl
theorem dn_fw_X0_carriedOut_26 : Cond.fieldLink RX0 26 "DayNames$Agenda" "many" "I" ∈ wsX0_carriedOut := List.mem_of_getElem? (i := 2) rfl
theorem dn_in_X0_carriedOut_0 : ∀ w ∈ u_ws RX0 TX0 4, w ∈ wsX0_carriedOut := fun w h => (goodIn_r (u_ws RX0 TX0 4) [74, 75, 76, 77] rfl (by decide +kernel) w h).1
theorem dn_nm_X0_carriedOut_38 : Cond.methodLinkNest RX0 38 yX11_at "DayNames" ∈ dn_nw := by decide +kernel
theorem dn_sw_X0_carriedOut_X11_at_1 : Cond.initialized yX11_at.cls ∈ wsX0_carriedOut := by decide +kernel
theorem dn_sw_X0_carriedOut_X11_at_2 : Cond.static yX11_at ∈ wsX0_carriedOut := List.mem_of_getElem? (i := 21) rfl
theorem dn_hd_X11_planned : yX11_planned.cls = RX11 ∧ yX11_planned.cls ≠ "java/lang/invoke/MethodHandle" ∧ yX11_planned.cls ≠ "java/lang/invoke/VarHandle" ∧ (parseMethodDescriptor yX11_planned.desc).map (fun d => d.parameters.length) = some 1 := by decide +kernel
theorem dn_fw_X11_planned_35 : Cond.fieldLink RX11 35 "DayNames" "current" "LDayNames$Moment;" ∈ wsX11_planned := List.mem_of_getElem? (i := 2) rfl
theorem dn_fw_X11_planned_69 : Cond.fieldLink RX11 69 "DayNames" "agenda" "LDayNames$Agenda;" ∈ wsX11_planned := List.mem_of_getElem? (i := 1) rfl
theorem dn_in_X11_planned_11 : ∀ w ∈ u_ws RX11 TX11 10, w ∈ wsX11_planned := fun w h => (goodIn_r (u_ws RX11 TX11 10) [94, 95, 96, 97, 98, 99, 100, 101, 102, 103] rfl (by decide +kernel) w h).1
theorem dn_hs_X11_choose : yX11_choose.cls ≠ "java/lang/invoke/MethodHandle" ∧ yX11_choose.cls ≠ "java/lang/invoke/VarHandle" ∧ (parseMethodDescriptor yX11_choose.desc).map (fun d => d.parameters.length) = some 2 := by decide +kernel
theorem dn_hs_X11_power : yX11_power.cls ≠ "java/lang/invoke/MethodHandle" ∧ yX11_power.cls ≠ "java/lang/invoke/VarHandle" ∧ (parseMethodDescriptor yX11_power.desc).map (fun d => d.parameters.length) = some 2 := by decide +kernel
theorem dn_hs_X11_chancesOf : yX11_chancesOf.cls ≠ "java/lang/invoke/MethodHandle" ∧ yX11_chancesOf.cls ≠ "java/lang/invoke/VarHandle" ∧ (parseMethodDescriptor yX11_chancesOf.desc).map (fun d => d.parameters.length) = some 3 := by decide +kernel
theorem dn_hs_X11_commonDivisor : yX11_commonDivisor.cls ≠ "java/lang/invoke/MethodHandle" ∧ yX11_commonDivisor.cls ≠ "java/lang/invoke/VarHandle" ∧ (parseMethodDescriptor yX11_commonDivisor.desc).map (fun d => d.parameters.length) = some 2 := by decide +kernel
theorem dn_hd_X11_odds : yX11_odds.cls = RX11 ∧ yX11_odds.cls ≠ "java/lang/invoke/MethodHandle" ∧ yX11_odds.cls ≠ "java/lang/invoke/VarHandle" ∧ (parseMethodDescriptor yX11_odds.desc).map (fun d => d.parameters.length) = some 4 := by decide +kernel
theorem dn_fw_X11_odds_35 : Cond.fieldLink RX11 35 "DayNames" "current" "LDayNames$Moment;" ∈ wsX11_odds := List.mem_of_getElem? (i := 2) rfl
theorem dn_fw_X11_odds_53 : Cond.fieldLink RX11 53 "DayNames" "outlook" "LDayNames$Outlook;" ∈ wsX11_odds := List.mem_of_getElem? (i := 1) rfl
theorem dn_in_X11_odds_11 : ∀ w ∈ u_ws RX11 TX11 10, w ∈ wsX11_odds := fun w h => (goodIn_r (u_ws RX11 TX11 10) [154, 155, 156, 157, 158, 159, 160, 161, 162, 163] rfl (by decide +kernel) w h).1
theorem dn_hd_X7_asBidder : yX7_asBidder.cls = RX7 ∧ yX7_asBidder.cls ≠ "java/lang/invoke/MethodHandle" ∧ yX7_asBidder.cls ≠ "java/lang/invoke/VarHandle" ∧ (parseMethodDescriptor yX7_asBidder.desc).map (fun d => d.parameters.length) = some 1 := by decide +kernel
theorem dn_fw_X7_asBidder_15 : Cond.fieldLink RX7 15 "DayNames$Rates" "now" "LDayNames$Moment;" ∈ wsX7_asBidder := List.mem_of_getElem? (i := 2) rfl
theorem dn_fw_X7_asBidder_39 : Cond.fieldLink RX7 39 "DayNames$Rates" "track" "J" ∈ wsX7_asBidder := List.mem_of_getElem? (i := 1) rfl
theorem dn_in_X7_asBidder_7 : ∀ w ∈ u_ws RX7 TX7 3, w ∈ wsX7_asBidder := fun w h => (goodIn_r (u_ws RX7 TX7 3) [12, 13, 14] rfl (by decide +kernel) w h).1
theorem dn_hd_X7_asBrewer : yX7_asBrewer.cls = RX7 ∧ yX7_asBrewer.cls ≠ "java/lang/invoke/MethodHandle" ∧ yX7_asBrewer.cls ≠ "java/lang/invoke/VarHandle" ∧ (parseMethodDescriptor yX7_asBrewer.desc).map (fun d => d.parameters.length) = some 1 := by decide +kernel
theorem dn_fw_X7_asBrewer_39 : Cond.fieldLink RX7 39 "DayNames$Rates" "track" "J" ∈ wsX7_asBrewer := List.mem_of_getElem? (i := 1) rfl
theorem dn_fw_X7_asBrewer_9 : Cond.fieldLink RX7 9 "DayNames$Rates" "town" "LDayNames$Town;" ∈ wsX7_asBrewer := List.mem_of_getElem? (i := 3) rfl
theorem dn_in_X7_asBrewer_7 : ∀ w ∈ u_ws RX7 TX7 3, w ∈ wsX7_asBrewer := fun w h => (goodIn_r (u_ws RX7 TX7 3) [25, 26, 27] rfl (by decide +kernel) w h).1
theorem dn_hd_X7_owedYet : yX7_owedYet.cls = RX7 ∧ yX7_owedYet.cls ≠ "java/lang/invoke/MethodHandle" ∧ yX7_owedYet.cls ≠ "java/lang/invoke/VarHandle" ∧ (parseMethodDescriptor yX7_owedYet.desc).map (fun d => d.parameters.length) = some 1 := by decide +kernel
theorem dn_fw_X7_owedYet_15 : Cond.fieldLink RX7 15 "DayNames$Rates" "now" "LDayNames$Moment;" ∈ wsX7_owedYet := List.mem_of_getElem? (i := 2) rfl
theorem dn_fw_X7_owedYet_71 : Cond.fieldLinkNest RX7 71 "DayNames$Town" "debts" "I" "DayNames" ∈ dn_nw := by decide +kernel
theorem dn_fw_X7_owedYet_9 : Cond.fieldLink RX7 9 "DayNames$Rates" "town" "LDayNames$Town;" ∈ wsX7_owedYet := List.mem_of_getElem? (i := 1) rfl
theorem dn_in_X7_owedYet_10 : ∀ w ∈ u_ws RX10 TX10 5, w ∈ wsX7_owedYet := fun w h => (goodIn_r (u_ws RX10 TX10 5) [21, 22, 23, 24, 25] rfl (by decide +kernel) w h).1
theorem dn_in_X7_owedYet_7 : ∀ w ∈ u_ws RX7 TX7 3, w ∈ wsX7_owedYet := fun w h => (goodIn_r (u_ws RX7 TX7 3) [18, 19, 20] rfl (by decide +kernel) w h).1
theorem dn_hd_X7_asLover : yX7_asLover.cls = RX7 ∧ yX7_asLover.cls ≠ "java/lang/invoke/MethodHandle" ∧ yX7_asLover.cls ≠ "java/lang/invoke/VarHandle" ∧ (parseMethodDescriptor yX7_asLover.desc).map (fun d => d.parameters.length) = some 1 := by decide +kernel
theorem dn_fw_X7_asLover_39 : Cond.fieldLink RX7 39 "DayNames$Rates" "track" "J" ∈ wsX7_asLover := List.mem_of_getElem? (i := 1) rfl
theorem dn_in_X7_asLover_7 : ∀ w ∈ u_ws RX7 TX7 3, w ∈ wsX7_asLover := fun w h => (goodIn_r (u_ws RX7 TX7 3) [34, 35, 36] rfl (by decide +kernel) w h).1
theorem dn_hd_X7_asRival : yX7_asRival.cls = RX7 ∧ yX7_asRival.cls ≠ "java/lang/invoke/MethodHandle" ∧ yX7_asRival.cls ≠ "java/lang/invoke/VarHandle" ∧ (parseMethodDescriptor yX7_asRival.desc).map (fun d => d.parameters.length) = some 1 := by decide +kernel
theorem dn_fw_X7_asRival_39 : Cond.fieldLink RX7 39 "DayNames$Rates" "track" "J" ∈ wsX7_asRival := List.mem_of_getElem? (i := 1) rfl
theorem dn_in_X7_asRival_7 : ∀ w ∈ u_ws RX7 TX7 3, w ∈ wsX7_asRival := fun w h => (goodIn_r (u_ws RX7 TX7 3) [30, 31, 32] rfl (by decide +kernel) w h).1
theorem dn_hd_X7_asPoet : yX7_asPoet.cls = RX7 ∧ yX7_asPoet.cls ≠ "java/lang/invoke/MethodHandle" ∧ yX7_asPoet.cls ≠ "java/lang/invoke/VarHandle" ∧ (parseMethodDescriptor yX7_asPoet.desc).map (fun d => d.parameters.length) = some 1 := by decide +kernel
theorem dn_fw_X7_asPoet_39 : Cond.fieldLink RX7 39 "DayNames$Rates" "track" "J" ∈ wsX7_asPoet := List.mem_of_getElem? (i := 1) rfl
theorem dn_in_X7_asPoet_7 : ∀ w ∈ u_ws RX7 TX7 3, w ∈ wsX7_asPoet := fun w h => (goodIn_r (u_ws RX7 TX7 3) [39, 40, 41] rfl (by decide +kernel) w h).1
theorem dn_hd_X7_asHeir : yX7_asHeir.cls = RX7 ∧ yX7_asHeir.cls ≠ "java/lang/invoke/MethodHandle" ∧ yX7_asHeir.cls ≠ "java/lang/invoke/VarHandle" ∧ (parseMethodDescriptor yX7_asHeir.desc).map (fun d => d.parameters.length) = some 1 := by decide +kernel
theorem dn_fw_X7_asHeir_15 : Cond.fieldLink RX7 15 "DayNames$Rates" "now" "LDayNames$Moment;" ∈ wsX7_asHeir := List.mem_of_getElem? (i := 3) rfl
theorem dn_fw_X7_asHeir_39 : Cond.fieldLink RX7 39 "DayNames$Rates" "track" "J" ∈ wsX7_asHeir := List.mem_of_getElem? (i := 1) rfl
theorem dn_fw_X7_asHeir_67 : Cond.fieldLinkNest RX7 67 "DayNames$Moment" "days" "I" "DayNames" ∈ dn_nw := by decide +kernel
theorem dn_in_X7_asHeir_3 : ∀ w ∈ u_ws RX3 TX3 8, w ∈ wsX7_asHeir := fun w h => (goodIn_r (u_ws RX3 TX3 8) [21, 22, 23, 24, 25, 26, 27, 28] rfl (by decide +kernel) w h).1
theorem dn_in_X7_asHeir_7 : ∀ w ∈ u_ws RX7 TX7 3, w ∈ wsX7_asHeir := fun w h => (goodIn_r (u_ws RX7 TX7 3) [18, 19, 20] rfl (by decide +kernel) w h).1
theorem dn_hd_X7_asIf : yX7_asIf.cls = RX7 ∧ yX7_asIf.cls ≠ "java/lang/invoke/MethodHandle" ∧ yX7_asIf.cls ≠ "java/lang/invoke/VarHandle" ∧ (parseMethodDescriptor yX7_asIf.desc).map (fun d => d.parameters.length) = some 2 := by decide +kernel
theorem dn_hd_X11_rate : yX11_rate.cls = RX11 ∧ yX11_rate.cls ≠ "java/lang/invoke/MethodHandle" ∧ yX11_rate.cls ≠ "java/lang/invoke/VarHandle" ∧ (parseMethodDescriptor yX11_rate.desc).map (fun d => d.parameters.length) = some 2 := by decide +kernel
theorem dn_fw_X11_rate_85 : Cond.fieldLink RX11 85 "DayNames" "rates" "LDayNames$Rates;" ∈ wsX11_rate := List.mem_of_getElem? (i := 1) rfl
theorem dn_in_X11_rate_11 : ∀ w ∈ u_ws RX11 TX11 10, w ∈ wsX11_rate := fun w h => (goodIn_r (u_ws RX11 TX11 10) [78, 79, 80, 81, 82, 83, 84, 85, 86, 87] rfl (by decide +kernel) w h).1
theorem dn_hd_X6_keepImage : yX6_keepImage.cls = RX6 ∧ yX6_keepImage.cls ≠ "java/lang/invoke/MethodHandle" ∧ yX6_keepImage.cls ≠ "java/lang/invoke/VarHandle" ∧ (parseMethodDescriptor yX6_keepImage.desc).map (fun d => d.parameters.length) = some 2 := by decide +kernel
theorem dn_fw_X6_keepImage_17 : Cond.fieldLink RX6 17 "DayNames$Past" "images" "[LDayNames$Moment;" ∈ wsX6_keepImage := List.mem_of_getElem? (i := 1) rfl
theorem dn_fw_X6_keepImage_20 : Cond.fieldLink RX6 20 "DayNames$Past" "kept" "[Z" ∈ wsX6_keepImage := List.mem_of_getElem? (i := 2) rfl
theorem dn_in_X6_keepImage_6 : ∀ w ∈ u_ws RX6 TX6 5, w ∈ wsX6_keepImage := fun w h => (goodIn_r (u_ws RX6 TX6 5) [23, 24, 25, 26, 27] rfl (by decide +kernel) w h).1
theorem dn_hd_X11_keep : yX11_keep.cls = RX11 ∧ yX11_keep.cls ≠ "java/lang/invoke/MethodHandle" ∧ yX11_keep.cls ≠ "java/lang/invoke/VarHandle" ∧ (parseMethodDescriptor yX11_keep.desc).map (fun d => d.parameters.length) = some 1 := by decide +kernel
theorem dn_fw_X11_keep_143 : Cond.fieldLinkNest RX11 143 "DayNames$Moment" "days" "I" "DayNames" ∈ dn_nw := by decide +kernel
theorem dn_fw_X11_keep_35 : Cond.fieldLink RX11 35 "DayNames" "current" "LDayNames$Moment;" ∈ wsX11_keep := List.mem_of_getElem? (i := 2) rfl
theorem dn_fw_X11_keep_76 : Cond.fieldLink RX11 76 "DayNames" "past" "LDayNames$Past;" ∈ wsX11_keep := List.mem_of_getElem? (i := 1) rfl
theorem dn_in_X11_keep_11 : ∀ w ∈ u_ws RX11 TX11 10, w ∈ wsX11_keep := fun w h => (goodIn_r (u_ws RX11 TX11 10) [32, 33, 34, 35, 36, 37, 38, 39, 40, 41] rfl (by decide +kernel) w h).1
theorem dn_in_X11_keep_3 : ∀ w ∈ u_ws RX3 TX3 8, w ∈ wsX11_keep := fun w h => (goodIn_r (u_ws RX3 TX3 8) [42, 43, 44, 45, 46, 47, 48, 49] rfl (by decide +kernel) w h).1
theorem dn_hd_X6_backTo : yX6_backTo.cls = RX6 ∧ yX6_backTo.cls ≠ "java/lang/invoke/MethodHandle" ∧ yX6_backTo.cls ≠ "java/lang/invoke/VarHandle" ∧ (parseMethodDescriptor yX6_backTo.desc).map (fun d => d.parameters.length) = some 2 := by decide +kernel
theorem dn_fw_X6_backTo_17 : Cond.fieldLink RX6 17 "DayNames$Past" "images" "[LDayNames$Moment;" ∈ wsX6_backTo := List.mem_of_getElem? (i := 1) rfl
theorem dn_fw_X6_backTo_20 : Cond.fieldLink RX6 20 "DayNames$Past" "kept" "[Z" ∈ wsX6_backTo := List.mem_of_getElem? (i := 2) rfl
theorem dn_fw_X6_backTo_25 : Cond.fieldLink RX6 25 "DayNames$Past" "known" "I" ∈ wsX6_backTo := List.mem_of_getElem? (i := 3) rfl
theorem dn_in_X6_backTo_6 : ∀ w ∈ u_ws RX6 TX6 5, w ∈ wsX6_backTo := fun w h => (goodIn_r (u_ws RX6 TX6 5) [24, 25, 26, 27, 28] rfl (by decide +kernel) w h).1
theorem dn_hd_X11_back : yX11_back.cls = RX11 ∧ yX11_back.cls ≠ "java/lang/invoke/MethodHandle" ∧ yX11_back.cls ≠ "java/lang/invoke/VarHandle" ∧ (parseMethodDescriptor yX11_back.desc).map (fun d => d.parameters.length) = some 1 := by decide +kernel
theorem dn_fw_X11_back_143 : Cond.fieldLinkNest RX11 143 "DayNames$Moment" "days" "I" "DayNames" ∈ dn_nw := by decide +kernel
theorem dn_fw_X11_back_35 : Cond.fieldLink RX11 35 "DayNames" "current" "LDayNames$Moment;" ∈ wsX11_back := List.mem_of_getElem? (i := 2) rfl
theorem dn_fw_X11_back_76 : Cond.fieldLink RX11 76 "DayNames" "past" "LDayNames$Past;" ∈ wsX11_back := List.mem_of_getElem? (i := 1) rfl
theorem dn_in_X11_back_11 : ∀ w ∈ u_ws RX11 TX11 10, w ∈ wsX11_back := fun w h => (goodIn_r (u_ws RX11 TX11 10) [33, 34, 35, 36, 37, 38, 39, 40, 41, 42] rfl (by decide +kernel) w h).1
theorem dn_in_X11_back_3 : ∀ w ∈ u_ws RX3 TX3 8, w ∈ wsX11_back := fun w h => (goodIn_r (u_ws RX3 TX3 8) [43, 44, 45, 46, 47, 48, 49, 50] rfl (by decide +kernel) w h).1
theorem dn_hd_X11_count : yX11_count.cls = RX11 ∧ yX11_count.cls ≠ "java/lang/invoke/MethodHandle" ∧ yX11_count.cls ≠ "java/lang/invoke/VarHandle" ∧ (parseMethodDescriptor yX11_count.desc).map (fun d => d.parameters.length) = some 1 := by decide +kernel
theorem dn_fw_X11_count_10 : Cond.fieldLink RX11 10 "DayNames" "text" "LDayNames$Text;" ∈ wsX11_count := List.mem_of_getElem? (i := 4) rfl
theorem dn_fw_X11_count_158 : Cond.fieldLinkNest RX11 158 "DayNames$Town" "bar" "I" "DayNames" ∈ dn_nw := by decide +kernel
theorem dn_fw_X11_count_19 : Cond.fieldLink RX11 19 "DayNames" "told" "LDayNames$Town;" ∈ wsX11_count := List.mem_of_getElem? (i := 1) rfl
theorem dn_fw_X11_count_231 : Cond.fieldLinkNest RX11 231 "DayNames$Finds" "many" "I" "DayNames" ∈ dn_nw := by decide +kernel
theorem dn_fw_X11_count_241 : Cond.fieldLinkNest RX11 241 "DayNames$Agenda" "many" "I" "DayNames" ∈ dn_nw := by decide +kernel
theorem dn_fw_X11_count_268 : Cond.fieldLinkNest RX11 268 "DayNames$Town" "bidders" "I" "DayNames" ∈ dn_nw := by decide +kernel
theorem dn_fw_X11_count_271 : Cond.fieldLinkNest RX11 271 "DayNames$Town" "debts" "I" "DayNames" ∈ dn_nw := by decide +kernel
theorem dn_fw_X11_count_60 : Cond.fieldLink RX11 60 "DayNames" "finds" "LDayNames$Finds;" ∈ wsX11_count := List.mem_of_getElem? (i := 2) rfl
theorem dn_fw_X11_count_69 : Cond.fieldLink RX11 69 "DayNames" "agenda" "LDayNames$Agenda;" ∈ wsX11_count := List.mem_of_getElem? (i := 3) rfl
theorem dn_fw_X11_count_96 : Cond.fieldLinkNest RX11 96 "DayNames$Text" "length" "I" "DayNames" ∈ dn_nw := by decide +kernel
theorem dn_in_X11_count_0 : ∀ w ∈ u_ws RX0 TX0 4, w ∈ wsX11_count := fun w h => (goodIn_r (u_ws RX0 TX0 4) [26, 27, 28, 29] rfl (by decide +kernel) w h).1
theorem dn_in_X11_count_10 : ∀ w ∈ u_ws RX10 TX10 5, w ∈ wsX11_count := fun w h => (goodIn_r (u_ws RX10 TX10 5) [15, 16, 17, 18, 19] rfl (by decide +kernel) w h).1
theorem dn_in_X11_count_11 : ∀ w ∈ u_ws RX11 TX11 10, w ∈ wsX11_count := fun w h => (goodIn_r (u_ws RX11 TX11 10) [5, 6, 7, 8, 9, 10, 11, 12, 13, 14] rfl (by decide +kernel) w h).1
theorem dn_in_X11_count_2 : ∀ w ∈ u_ws RX2 TX2 6, w ∈ wsX11_count := fun w h => (goodIn_r (u_ws RX2 TX2 6) [20, 21, 22, 23, 24, 25] rfl (by decide +kernel) w h).1
theorem dn_in_X11_count_9 : ∀ w ∈ u_ws RX9 TX9 2, w ∈ wsX11_count := fun w h => (goodIn_r (u_ws RX9 TX9 2) [30, 31] rfl (by decide +kernel) w h).1
theorem dn_hd_X11_trace : yX11_trace.cls = RX11 ∧ yX11_trace.cls ≠ "java/lang/invoke/MethodHandle" ∧ yX11_trace.cls ≠ "java/lang/invoke/VarHandle" ∧ (parseMethodDescriptor yX11_trace.desc).map (fun d => d.parameters.length) = some 0 := by decide +kernel
theorem dn_fw_X11_trace_274 : Cond.fieldLinkNest RX11 274 "DayNames$Rates" "track" "J" "DayNames" ∈ dn_nw := by decide +kernel
theorem dn_fw_X11_trace_85 : Cond.fieldLink RX11 85 "DayNames" "rates" "LDayNames$Rates;" ∈ wsX11_trace := List.mem_of_getElem? (i := 1) rfl
theorem dn_in_X11_trace_11 : ∀ w ∈ u_ws RX11 TX11 10, w ∈ wsX11_trace := fun w h => (goodIn_r (u_ws RX11 TX11 10) [2, 3, 4, 5, 6, 7, 8, 9, 10, 11] rfl (by decide +kernel) w h).1
theorem dn_in_X11_trace_7 : ∀ w ∈ u_ws RX7 TX7 3, w ∈ wsX11_trace := fun w h => (goodIn_r (u_ws RX7 TX7 3) [12, 13, 14] rfl (by decide +kernel) w h).1
theorem dn_hs_X12_in : yX12_in.cls ≠ "java/lang/invoke/MethodHandle" ∧ yX12_in.cls ≠ "java/lang/invoke/VarHandle" ∧ (parseMethodDescriptor yX12_in.desc).map (fun d => d.parameters.length) = some 3 := by decide +kernel
theorem dn_hd_X12_type : yX12_type.cls = RX12 ∧ yX12_type.cls ≠ "java/lang/invoke/MethodHandle" ∧ yX12_type.cls ≠ "java/lang/invoke/VarHandle" ∧ (parseMethodDescriptor yX12_type.desc).map (fun d => d.parameters.length) = some 1 := by decide +kernel
theorem dn_fw_X12_type_42 : Cond.fieldLink RX12 42 "DayNamesModel" "text" "[I" ∈ wsX12_type := List.mem_of_getElem? (i := 3) rfl
theorem dn_fw_X12_type_72 : Cond.fieldLink RX12 72 "DayNamesModel" "texted" "I" ∈ wsX12_type := List.mem_of_getElem? (i := 2) rfl
theorem dn_in_X12_type_12 : ∀ w ∈ u_ws RX12 TX12 35, w ∈ wsX12_type := fun w h => (goodIn_r (u_ws RX12 TX12 35) [8, 9, 10, 11, 12, 13, 14, 15, 16, 17, 18, 19, 20, 21, 22, 23, 24, 25, 26, 27, 28, 29, 30, 31, 32, 33, 34, 35, 36, 37, 38, 39, 40, 41, 42] rfl (by decide +kernel) w h).1
theorem dn_hd_X12_clear : yX12_clear.cls = RX12 ∧ yX12_clear.cls ≠ "java/lang/invoke/MethodHandle" ∧ yX12_clear.cls ≠ "java/lang/invoke/VarHandle" ∧ (parseMethodDescriptor yX12_clear.desc).map (fun d => d.parameters.length) = some 0 := by decide +kernel
theorem dn_fw_X12_clear_72 : Cond.fieldLink RX12 72 "DayNamesModel" "texted" "I" ∈ wsX12_clear := List.mem_of_getElem? (i := 1) rfl
theorem dn_in_X12_clear_12 : ∀ w ∈ u_ws RX12 TX12 35, w ∈ wsX12_clear := fun w h => (goodIn_r (u_ws RX12 TX12 35) [2, 3, 4, 5, 6, 7, 8, 9, 10, 11, 12, 13, 14, 15, 16, 17, 18, 19, 20, 21, 22, 23, 24, 25, 26, 27, 28, 29, 30, 31, 32, 33, 34, 35, 36] rfl (by decide +kernel) w h).1
theorem dn_hd_X12_letterAt : yX12_letterAt.cls = RX12 ∧ yX12_letterAt.cls ≠ "java/lang/invoke/MethodHandle" ∧ yX12_letterAt.cls ≠ "java/lang/invoke/VarHandle" ∧ (parseMethodDescriptor yX12_letterAt.desc).map (fun d => d.parameters.length) = some 1 := by decide +kernel
theorem dn_fw_X12_letterAt_42 : Cond.fieldLink RX12 42 "DayNamesModel" "text" "[I" ∈ wsX12_letterAt := List.mem_of_getElem? (i := 2) rfl
theorem dn_fw_X12_letterAt_72 : Cond.fieldLink RX12 72 "DayNamesModel" "texted" "I" ∈ wsX12_letterAt := List.mem_of_getElem? (i := 1) rfl
theorem dn_in_X12_letterAt_12 : ∀ w ∈ u_ws RX12 TX12 35, w ∈ wsX12_letterAt := fun w h => (goodIn_r (u_ws RX12 TX12 35) [3, 4, 5, 6, 7, 8, 9, 10, 11, 12, 13, 14, 15, 16, 17, 18, 19, 20, 21, 22, 23, 24, 25, 26, 27, 28, 29, 30, 31, 32, 33, 34, 35, 36, 37] rfl (by decide +kernel) w h).1
theorem dn_hd_X12_blanks : yX12_blanks.cls = RX12 ∧ yX12_blanks.cls ≠ "java/lang/invoke/MethodHandle" ∧ yX12_blanks.cls ≠ "java/lang/invoke/VarHandle" ∧ (parseMethodDescriptor yX12_blanks.desc).map (fun d => d.parameters.length) = some 0 := by decide +kernel
theorem dn_fw_X12_blanks_75 : Cond.fieldLink RX12 75 "DayNamesModel" "at" "I" ∈ wsX12_blanks := List.mem_of_getElem? (i := 1) rfl
theorem dn_fw_X12_blanks_82 : Cond.fieldLink RX12 82 "DayNamesModel" "start" "I" ∈ wsX12_blanks := List.mem_of_getElem? (i := 2) rfl
theorem dn_in_X12_blanks_12 : ∀ w ∈ u_ws RX12 TX12 35, w ∈ wsX12_blanks := fun w h => (goodIn_r (u_ws RX12 TX12 35) [10, 11, 12, 13, 14, 15, 16, 17, 18, 19, 20, 21, 22, 23, 24, 25, 26, 27, 28, 29, 30, 31, 32, 33, 34, 35, 36, 37, 38, 39, 40, 41, 42, 43, 44] rfl (by decide +kernel) w h).1
theorem dn_hd_X12_takesNumber : yX12_takesNumber.cls = RX12 ∧ yX12_takesNumber.cls ≠ "java/lang/invoke/MethodHandle" ∧ yX12_takesNumber.cls ≠ "java/lang/invoke/VarHandle" ∧ (parseMethodDescriptor yX12_takesNumber.desc).map (fun d => d.parameters.length) = some 2 := by decide +kernel
theorem dn_fw_X12_takesNumber_75 : Cond.fieldLink RX12 75 "DayNamesModel" "at" "I" ∈ wsX12_takesNumber := List.mem_of_getElem? (i := 2) rfl
theorem dn_fw_X12_takesNumber_82 : Cond.fieldLink RX12 82 "DayNamesModel" "start" "I" ∈ wsX12_takesNumber := List.mem_of_getElem? (i := 5) rfl
theorem dn_fw_X12_takesNumber_88 : Cond.fieldLink RX12 88 "DayNamesModel" "value" "I" ∈ wsX12_takesNumber := List.mem_of_getElem? (i := 1) rfl
theorem dn_in_X12_takesNumber_12 : ∀ w ∈ u_ws RX12 TX12 35, w ∈ wsX12_takesNumber := fun w h => (goodIn_r (u_ws RX12 TX12 35) [20, 21, 22, 23, 24, 25, 26, 27, 28, 29, 30, 31, 32, 33, 34, 35, 36, 37, 38, 39, 40, 41, 42, 43, 44, 45, 46, 47, 48, 49, 50, 51, 52, 53, 54] rfl (by decide +kernel) w h).1
theorem dn_hd_X12_takesBidder : yX12_takesBidder.cls = RX12 ∧ yX12_takesBidder.cls ≠ "java/lang/invoke/MethodHandle" ∧ yX12_takesBidder.cls ≠ "java/lang/invoke/VarHandle" ∧ (parseMethodDescriptor yX12_takesBidder.desc).map (fun d => d.parameters.length) = some 0 := by decide +kernel
theorem dn_fw_X12_takesBidder_45 : Cond.fieldLink RX12 45 "DayNamesModel" "readFirst" "[I" ∈ wsX12_takesBidder := List.mem_of_getElem? (i := 2) rfl
theorem dn_fw_X12_takesBidder_48 : Cond.fieldLink RX12 48 "DayNamesModel" "readWage" "[I" ∈ wsX12_takesBidder := List.mem_of_getElem? (i := 4) rfl
theorem dn_fw_X12_takesBidder_51 : Cond.fieldLink RX12 51 "DayNamesModel" "readWorth" "[I" ∈ wsX12_takesBidder := List.mem_of_getElem? (i := 5) rfl
theorem dn_fw_X12_takesBidder_88 : Cond.fieldLink RX12 88 "DayNamesModel" "value" "I" ∈ wsX12_takesBidder := List.mem_of_getElem? (i := 3) rfl
theorem dn_fw_X12_takesBidder_95 : Cond.fieldLink RX12 95 "DayNamesModel" "readBidders" "I" ∈ wsX12_takesBidder := List.mem_of_getElem? (i := 1) rfl
theorem dn_in_X12_takesBidder_12 : ∀ w ∈ u_ws RX12 TX12 35, w ∈ wsX12_takesBidder := fun w h => (goodIn_r (u_ws RX12 TX12 35) [28, 29, 30, 31, 32, 33, 34, 35, 36, 37, 38, 39, 40, 41, 42, 43, 44, 45, 46, 47, 48, 49, 50, 51, 52, 53, 54, 55, 56, 57, 58, 59, 60, 61, 62] rfl (by decide +kernel) w h).1
theorem dn_hd_X12_takesDebt : yX12_takesDebt.cls = RX12 ∧ yX12_takesDebt.cls ≠ "java/lang/invoke/MethodHandle" ∧ yX12_takesDebt.cls ≠ "java/lang/invoke/VarHandle" ∧ (parseMethodDescriptor yX12_takesDebt.desc).map (fun d => d.parameters.length) = some 0 := by decide +kernel
theorem dn_fw_X12_takesDebt_102 : Cond.fieldLink RX12 102 "DayNamesModel" "readDebts" "I" ∈ wsX12_takesDebt := List.mem_of_getElem? (i := 1) rfl
theorem dn_fw_X12_takesDebt_54 : Cond.fieldLink RX12 54 "DayNamesModel" "readOwed" "[I" ∈ wsX12_takesDebt := List.mem_of_getElem? (i := 4) rfl
theorem dn_fw_X12_takesDebt_88 : Cond.fieldLink RX12 88 "DayNamesModel" "value" "I" ∈ wsX12_takesDebt := List.mem_of_getElem? (i := 3) rfl
theorem dn_fw_X12_takesDebt_95 : Cond.fieldLink RX12 95 "DayNamesModel" "readBidders" "I" ∈ wsX12_takesDebt := List.mem_of_getElem? (i := 2) rfl
theorem dn_in_X12_takesDebt_12 : ∀ w ∈ u_ws RX12 TX12 35, w ∈ wsX12_takesDebt := fun w h => (goodIn_r (u_ws RX12 TX12 35) [27, 28, 29, 30, 31, 32, 33, 34, 35, 36, 37, 38, 39, 40, 41, 42, 43, 44, 45, 46, 47, 48, 49, 50, 51, 52, 53, 54, 55, 56, 57, 58, 59, 60, 61] rfl (by decide +kernel) w h).1
theorem dn_hd_X12_takesBar : yX12_takesBar.cls = RX12 ∧ yX12_takesBar.cls ≠ "java/lang/invoke/MethodHandle" ∧ yX12_takesBar.cls ≠ "java/lang/invoke/VarHandle" ∧ (parseMethodDescriptor yX12_takesBar.desc).map (fun d => d.parameters.length) = some 0 := by decide +kernel
theorem dn_fw_X12_takesBar_105 : Cond.fieldLink RX12 105 "DayNamesModel" "hasBar" "Z" ∈ wsX12_takesBar := List.mem_of_getElem? (i := 1) rfl
theorem dn_fw_X12_takesBar_63 : Cond.fieldLink RX12 63 "DayNamesModel" "readBar" "I" ∈ wsX12_takesBar := List.mem_of_getElem? (i := 3) rfl
theorem dn_fw_X12_takesBar_88 : Cond.fieldLink RX12 88 "DayNamesModel" "value" "I" ∈ wsX12_takesBar := List.mem_of_getElem? (i := 2) rfl
theorem dn_in_X12_takesBar_12 : ∀ w ∈ u_ws RX12 TX12 35, w ∈ wsX12_takesBar := fun w h => (goodIn_r (u_ws RX12 TX12 35) [26, 27, 28, 29, 30, 31, 32, 33, 34, 35, 36, 37, 38, 39, 40, 41, 42, 43, 44, 45, 46, 47, 48, 49, 50, 51, 52, 53, 54, 55, 56, 57, 58, 59, 60] rfl (by decide +kernel) w h).1
theorem dn_hd_X12_takesItem : yX12_takesItem.cls = RX12 ∧ yX12_takesItem.cls ≠ "java/lang/invoke/MethodHandle" ∧ yX12_takesItem.cls ≠ "java/lang/invoke/VarHandle" ∧ (parseMethodDescriptor yX12_takesItem.desc).map (fun d => d.parameters.length) = some 0 := by decide +kernel
theorem dn_fw_X12_takesItem_75 : Cond.fieldLink RX12 75 "DayNamesModel" "at" "I" ∈ wsX12_takesItem := List.mem_of_getElem? (i := 1) rfl
theorem dn_in_X12_takesItem_12 : ∀ w ∈ u_ws RX12 TX12 35, w ∈ wsX12_takesItem := fun w h => (goodIn_r (u_ws RX12 TX12 35) [44, 45, 46, 47, 48, 49, 50, 51, 52, 53, 54, 55, 56, 57, 58, 59, 60, 61, 62, 63, 64, 65, 66, 67, 68, 69, 70, 71, 72, 73, 74, 75, 76, 77, 78] rfl (by decide +kernel) w h).1
theorem dn_hd_X12_town : yX12_town.cls = RX12 ∧ yX12_town.cls ≠ "java/lang/invoke/MethodHandle" ∧ yX12_town.cls ≠ "java/lang/invoke/VarHandle" ∧ (parseMethodDescriptor yX12_town.desc).map (fun d => d.parameters.length) = some 0 := by decide +kernel
theorem dn_fw_X12_town_102 : Cond.fieldLink RX12 102 "DayNamesModel" "readDebts" "I" ∈ wsX12_town := List.mem_of_getElem? (i := 2) rfl
theorem dn_fw_X12_town_105 : Cond.fieldLink RX12 105 "DayNamesModel" "hasBar" "Z" ∈ wsX12_town := List.mem_of_getElem? (i := 4) rfl
theorem dn_fw_X12_town_119 : Cond.fieldLink RX12 119 "DayNamesModel" "items" "I" ∈ wsX12_town := List.mem_of_getElem? (i := 5) rfl
theorem dn_fw_X12_town_125 : Cond.fieldLink RX12 125 "DayNamesModel" "bidders" "I" ∈ wsX12_town := List.mem_of_getElem? (i := 9) rfl
theorem dn_fw_X12_town_128 : Cond.fieldLink RX12 128 "DayNamesModel" "debts" "I" ∈ wsX12_town := List.mem_of_getElem? (i := 10) rfl
theorem dn_fw_X12_town_13 : Cond.fieldLink RX12 13 "DayNamesModel" "isKept" "[Z" ∈ wsX12_town := List.mem_of_getElem? (i := 24) rfl
theorem dn_fw_X12_town_131 : Cond.fieldLink RX12 131 "DayNamesModel" "founds" "I" ∈ wsX12_town := List.mem_of_getElem? (i := 21) rfl
theorem dn_fw_X12_town_134 : Cond.fieldLink RX12 134 "DayNamesModel" "plans" "I" ∈ wsX12_town := List.mem_of_getElem? (i := 22) rfl
theorem dn_fw_X12_town_137 : Cond.fieldLink RX12 137 "DayNamesModel" "undoes" "I" ∈ wsX12_town := List.mem_of_getElem? (i := 23) rfl
theorem dn_fw_X12_town_17 : Cond.fieldLink RX12 17 "DayNamesModel" "first" "[I" ∈ wsX12_town := List.mem_of_getElem? (i := 12) rfl
theorem dn_fw_X12_town_20 : Cond.fieldLink RX12 20 "DayNamesModel" "wage" "[I" ∈ wsX12_town := List.mem_of_getElem? (i := 14) rfl
theorem dn_fw_X12_town_23 : Cond.fieldLink RX12 23 "DayNamesModel" "worth" "[I" ∈ wsX12_town := List.mem_of_getElem? (i := 16) rfl
theorem dn_fw_X12_town_26 : Cond.fieldLink RX12 26 "DayNamesModel" "bar" "I" ∈ wsX12_town := List.mem_of_getElem? (i := 11) rfl
theorem dn_fw_X12_town_30 : Cond.fieldLink RX12 30 "DayNamesModel" "owed" "[I" ∈ wsX12_town := List.mem_of_getElem? (i := 18) rfl
theorem dn_fw_X12_town_45 : Cond.fieldLink RX12 45 "DayNamesModel" "readFirst" "[I" ∈ wsX12_town := List.mem_of_getElem? (i := 13) rfl
theorem dn_fw_X12_town_48 : Cond.fieldLink RX12 48 "DayNamesModel" "readWage" "[I" ∈ wsX12_town := List.mem_of_getElem? (i := 15) rfl
theorem dn_fw_X12_town_51 : Cond.fieldLink RX12 51 "DayNamesModel" "readWorth" "[I" ∈ wsX12_town := List.mem_of_getElem? (i := 17) rfl
theorem dn_fw_X12_town_54 : Cond.fieldLink RX12 54 "DayNamesModel" "readOwed" "[I" ∈ wsX12_town := List.mem_of_getElem? (i := 19) rfl
theorem dn_fw_X12_town_63 : Cond.fieldLink RX12 63 "DayNamesModel" "readBar" "I" ∈ wsX12_town := List.mem_of_getElem? (i := 3) rfl
theorem dn_fw_X12_town_7 : Cond.fieldLink RX12 7 "DayNamesModel" "w" "[I" ∈ wsX12_town := List.mem_of_getElem? (i := 20) rfl
theorem dn_fw_X12_town_72 : Cond.fieldLink RX12 72 "DayNamesModel" "texted" "I" ∈ wsX12_town := List.mem_of_getElem? (i := 7) rfl
theorem dn_fw_X12_town_75 : Cond.fieldLink RX12 75 "DayNamesModel" "at" "I" ∈ wsX12_town := List.mem_of_getElem? (i := 6) rfl
theorem dn_fw_X12_town_82 : Cond.fieldLink RX12 82 "DayNamesModel" "start" "I" ∈ wsX12_town := List.mem_of_getElem? (i := 8) rfl
theorem dn_fw_X12_town_95 : Cond.fieldLink RX12 95 "DayNamesModel" "readBidders" "I" ∈ wsX12_town := List.mem_of_getElem? (i := 1) rfl
theorem dn_in_X12_town_12 : ∀ w ∈ u_ws RX12 TX12 35, w ∈ wsX12_town := fun w h => (goodIn_r (u_ws RX12 TX12 35) [61, 62, 63, 64, 65, 66, 67, 68, 69, 70, 71, 72, 73, 74, 75, 76, 77, 78, 79, 80, 81, 82, 83, 84, 85, 86, 87, 88, 89, 90, 91, 92, 93, 94, 95] rfl (by decide +kernel) w h).1
theorem dn_hd_X12_isBidder : yX12_isBidder.cls = RX12 ∧ yX12_isBidder.cls ≠ "java/lang/invoke/MethodHandle" ∧ yX12_isBidder.cls ≠ "java/lang/invoke/VarHandle" ∧ (parseMethodDescriptor yX12_isBidder.desc).map (fun d => d.parameters.length) = some 1 := by decide +kernel
theorem dn_fw_X12_isBidder_125 : Cond.fieldLink RX12 125 "DayNamesModel" "bidders" "I" ∈ wsX12_isBidder := List.mem_of_getElem? (i := 1) rfl
theorem dn_in_X12_isBidder_12 : ∀ w ∈ u_ws RX12 TX12 35, w ∈ wsX12_isBidder := fun w h => (goodIn_r (u_ws RX12 TX12 35) [6, 7, 8, 9, 10, 11, 12, 13, 14, 15, 16, 17, 18, 19, 20, 21, 22, 23, 24, 25, 26, 27, 28, 29, 30, 31, 32, 33, 34, 35, 36, 37, 38, 39, 40] rfl (by decide +kernel) w h).1
theorem dn_hd_X12_bidder : yX12_bidder.cls = RX12 ∧ yX12_bidder.cls ≠ "java/lang/invoke/MethodHandle" ∧ yX12_bidder.cls ≠ "java/lang/invoke/VarHandle" ∧ (parseMethodDescriptor yX12_bidder.desc).map (fun d => d.parameters.length) = some 2 := by decide +kernel
theorem dn_fw_X12_bidder_20 : Cond.fieldLink RX12 20 "DayNamesModel" "wage" "[I" ∈ wsX12_bidder := List.mem_of_getElem? (i := 3) rfl
theorem dn_fw_X12_bidder_23 : Cond.fieldLink RX12 23 "DayNamesModel" "worth" "[I" ∈ wsX12_bidder := List.mem_of_getElem? (i := 4) rfl
theorem dn_fw_X12_bidder_7 : Cond.fieldLink RX12 7 "DayNamesModel" "w" "[I" ∈ wsX12_bidder := List.mem_of_getElem? (i := 2) rfl
theorem dn_in_X12_bidder_12 : ∀ w ∈ u_ws RX12 TX12 35, w ∈ wsX12_bidder := fun w h => (goodIn_r (u_ws RX12 TX12 35) [14, 15, 16, 17, 18, 19, 20, 21, 22, 23, 24, 25, 26, 27, 28, 29, 30, 31, 32, 33, 34, 35, 36, 37, 38, 39, 40, 41, 42, 43, 44, 45, 46, 47, 48] rfl (by decide +kernel) w h).1
theorem dn_hd_X12_isDebt : yX12_isDebt.cls = RX12 ∧ yX12_isDebt.cls ≠ "java/lang/invoke/MethodHandle" ∧ yX12_isDebt.cls ≠ "java/lang/invoke/VarHandle" ∧ (parseMethodDescriptor yX12_isDebt.desc).map (fun d => d.parameters.length) = some 1 := by decide +kernel
theorem dn_fw_X12_isDebt_128 : Cond.fieldLink RX12 128 "DayNamesModel" "debts" "I" ∈ wsX12_isDebt := List.mem_of_getElem? (i := 1) rfl
theorem dn_in_X12_isDebt_12 : ∀ w ∈ u_ws RX12 TX12 35, w ∈ wsX12_isDebt := fun w h => (goodIn_r (u_ws RX12 TX12 35) [6, 7, 8, 9, 10, 11, 12, 13, 14, 15, 16, 17, 18, 19, 20, 21, 22, 23, 24, 25, 26, 27, 28, 29, 30, 31, 32, 33, 34, 35, 36, 37, 38, 39, 40] rfl (by decide +kernel) w h).1
theorem dn_hd_X12_debt : yX12_debt.cls = RX12 ∧ yX12_debt.cls ≠ "java/lang/invoke/MethodHandle" ∧ yX12_debt.cls ≠ "java/lang/invoke/VarHandle" ∧ (parseMethodDescriptor yX12_debt.desc).map (fun d => d.parameters.length) = some 2 := by decide +kernel
theorem dn_fw_X12_debt_30 : Cond.fieldLink RX12 30 "DayNamesModel" "owed" "[I" ∈ wsX12_debt := List.mem_of_getElem? (i := 2) rfl
theorem dn_fw_X12_debt_7 : Cond.fieldLink RX12 7 "DayNamesModel" "w" "[I" ∈ wsX12_debt := List.mem_of_getElem? (i := 3) rfl
theorem dn_in_X12_debt_12 : ∀ w ∈ u_ws RX12 TX12 35, w ∈ wsX12_debt := fun w h => (goodIn_r (u_ws RX12 TX12 35) [13, 14, 15, 16, 17, 18, 19, 20, 21, 22, 23, 24, 25, 26, 27, 28, 29, 30, 31, 32, 33, 34, 35, 36, 37, 38, 39, 40, 41, 42, 43, 44, 45, 46, 47] rfl (by decide +kernel) w h).1
theorem dn_hd_X12_day : yX12_day.cls = RX12 ∧ yX12_day.cls ≠ "java/lang/invoke/MethodHandle" ∧ yX12_day.cls ≠ "java/lang/invoke/VarHandle" ∧ (parseMethodDescriptor yX12_day.desc).map (fun d => d.parameters.length) = some 1 := by decide +kernel
theorem dn_fw_X12_day_7 : Cond.fieldLink RX12 7 "DayNamesModel" "w" "[I" ∈ wsX12_day := List.mem_of_getElem? (i := 1) rfl
theorem dn_in_X12_day_12 : ∀ w ∈ u_ws RX12 TX12 35, w ∈ wsX12_day := fun w h => (goodIn_r (u_ws RX12 TX12 35) [6, 7, 8, 9, 10, 11, 12, 13, 14, 15, 16, 17, 18, 19, 20, 21, 22, 23, 24, 25, 26, 27, 28, 29, 30, 31, 32, 33, 34, 35, 36, 37, 38, 39, 40] rfl (by decide +kernel) w h).1
theorem dn_hs_X12_isName : yX12_isName.cls ≠ "java/lang/invoke/MethodHandle" ∧ yX12_isName.cls ≠ "java/lang/invoke/VarHandle" ∧ (parseMethodDescriptor yX12_isName.desc).map (fun d => d.parameters.length) = some 1 := by decide +kernel
theorem dn_hd_X12_countOf : yX12_countOf.cls = RX12 ∧ yX12_countOf.cls ≠ "java/lang/invoke/MethodHandle" ∧ yX12_countOf.cls ≠ "java/lang/invoke/VarHandle" ∧ (parseMethodDescriptor yX12_countOf.desc).map (fun d => d.parameters.length) = some 2 := by decide +kernel
theorem dn_fw_X12_countOf_7 : Cond.fieldLink RX12 7 "DayNamesModel" "w" "[I" ∈ wsX12_countOf := List.mem_of_getElem? (i := 1) rfl
theorem dn_in_X12_countOf_12 : ∀ w ∈ u_ws RX12 TX12 35, w ∈ wsX12_countOf := fun w h => (goodIn_r (u_ws RX12 TX12 35) [2, 3, 4, 5, 6, 7, 8, 9, 10, 11, 12, 13, 14, 15, 16, 17, 18, 19, 20, 21, 22, 23, 24, 25, 26, 27, 28, 29, 30, 31, 32, 33, 34, 35, 36] rfl (by decide +kernel) w h).1
theorem dn_hd_X12_isBarred : yX12_isBarred.cls = RX12 ∧ yX12_isBarred.cls ≠ "java/lang/invoke/MethodHandle" ∧ yX12_isBarred.cls ≠ "java/lang/invoke/VarHandle" ∧ (parseMethodDescriptor yX12_isBarred.desc).map (fun d => d.parameters.length) = some 2 := by decide +kernel
theorem dn_fw_X12_isBarred_26 : Cond.fieldLink RX12 26 "DayNamesModel" "bar" "I" ∈ wsX12_isBarred := List.mem_of_getElem? (i := 1) rfl
theorem dn_fw_X12_isBarred_7 : Cond.fieldLink RX12 7 "DayNamesModel" "w" "[I" ∈ wsX12_isBarred := List.mem_of_getElem? (i := 2) rfl
theorem dn_in_X12_isBarred_12 : ∀ w ∈ u_ws RX12 TX12 35, w ∈ wsX12_isBarred := fun w h => (goodIn_r (u_ws RX12 TX12 35) [3, 4, 5, 6, 7, 8, 9, 10, 11, 12, 13, 14, 15, 16, 17, 18, 19, 20, 21, 22, 23, 24, 25, 26, 27, 28, 29, 30, 31, 32, 33, 34, 35, 36, 37] rfl (by decide +kernel) w h).1
theorem dn_hd_X12_name : yX12_name.cls = RX12 ∧ yX12_name.cls ≠ "java/lang/invoke/MethodHandle" ∧ yX12_name.cls ≠ "java/lang/invoke/VarHandle" ∧ (parseMethodDescriptor yX12_name.desc).map (fun d => d.parameters.length) = some 2 := by decide +kernel
theorem dn_fw_X12_name_7 : Cond.fieldLink RX12 7 "DayNamesModel" "w" "[I" ∈ wsX12_name := List.mem_of_getElem? (i := 2) rfl
theorem dn_in_X12_name_12 : ∀ w ∈ u_ws RX12 TX12 35, w ∈ wsX12_name := fun w h => (goodIn_r (u_ws RX12 TX12 35) [20, 21, 22, 23, 24, 25, 26, 27, 28, 29, 30, 31, 32, 33, 34, 35, 36, 37, 38, 39, 40, 41, 42, 43, 44, 45, 46, 47, 48, 49, 50, 51, 52, 53, 54] rfl (by decide +kernel) w h).1
theorem dn_hd_X12_never : yX12_never.cls = RX12 ∧ yX12_never.cls ≠ "java/lang/invoke/MethodHandle" ∧ yX12_never.cls ≠ "java/lang/invoke/VarHandle" ∧ (parseMethodDescriptor yX12_never.desc).map (fun d => d.parameters.length) = some 0 := by decide +kernel
theorem dn_fw_X12_never_125 : Cond.fieldLink RX12 125 "DayNamesModel" "bidders" "I" ∈ wsX12_never := List.mem_of_getElem? (i := 3) rfl
theorem dn_fw_X12_never_128 : Cond.fieldLink RX12 128 "DayNamesModel" "debts" "I" ∈ wsX12_never := List.mem_of_getElem? (i := 1) rfl
theorem dn_fw_X12_never_23 : Cond.fieldLink RX12 23 "DayNamesModel" "worth" "[I" ∈ wsX12_never := List.mem_of_getElem? (i := 4) rfl
theorem dn_fw_X12_never_30 : Cond.fieldLink RX12 30 "DayNamesModel" "owed" "[I" ∈ wsX12_never := List.mem_of_getElem? (i := 5) rfl
theorem dn_fw_X12_never_7 : Cond.fieldLink RX12 7 "DayNamesModel" "w" "[I" ∈ wsX12_never := List.mem_of_getElem? (i := 2) rfl
theorem dn_in_X12_never_12 : ∀ w ∈ u_ws RX12 TX12 35, w ∈ wsX12_never := fun w h => (goodIn_r (u_ws RX12 TX12 35) [6, 7, 8, 9, 10, 11, 12, 13, 14, 15, 16, 17, 18, 19, 20, 21, 22, 23, 24, 25, 26, 27, 28, 29, 30, 31, 32, 33, 34, 35, 36, 37, 38, 39, 40] rfl (by decide +kernel) w h).1
theorem dn_hd_X12_now : yX12_now.cls = RX12 ∧ yX12_now.cls ≠ "java/lang/invoke/MethodHandle" ∧ yX12_now.cls ≠ "java/lang/invoke/VarHandle" ∧ (parseMethodDescriptor yX12_now.desc).map (fun d => d.parameters.length) = some 1 := by decide +kernel
theorem dn_fw_X12_now_137 : Cond.fieldLink RX12 137 "DayNamesModel" "undoes" "I" ∈ wsX12_now := List.mem_of_getElem? (i := 3) rfl
theorem dn_fw_X12_now_7 : Cond.fieldLink RX12 7 "DayNamesModel" "w" "[I" ∈ wsX12_now := List.mem_of_getElem? (i := 2) rfl
theorem dn_in_X12_now_12 : ∀ w ∈ u_ws RX12 TX12 35, w ∈ wsX12_now := fun w h => (goodIn_r (u_ws RX12 TX12 35) [16, 17, 18, 19, 20, 21, 22, 23, 24, 25, 26, 27, 28, 29, 30, 31, 32, 33, 34, 35, 36, 37, 38, 39, 40, 41, 42, 43, 44, 45, 46, 47, 48, 49, 50] rfl (by decide +kernel) w h).1
theorem dn_hd_X12_isOver : yX12_isOver.cls = RX12 ∧ yX12_isOver.cls ≠ "java/lang/invoke/MethodHandle" ∧ yX12_isOver.cls ≠ "java/lang/invoke/VarHandle" ∧ (parseMethodDescriptor yX12_isOver.desc).map (fun d => d.parameters.length) = some 0 := by decide +kernel
theorem dn_fw_X12_isOver_7 : Cond.fieldLink RX12 7 "DayNamesModel" "w" "[I" ∈ wsX12_isOver := List.mem_of_getElem? (i := 1) rfl
theorem dn_in_X12_isOver_12 : ∀ w ∈ u_ws RX12 TX12 35, w ∈ wsX12_isOver := fun w h => (goodIn_r (u_ws RX12 TX12 35) [2, 3, 4, 5, 6, 7, 8, 9, 10, 11, 12, 13, 14, 15, 16, 17, 18, 19, 20, 21, 22, 23, 24, 25, 26, 27, 28, 29, 30, 31, 32, 33, 34, 35, 36] rfl (by decide +kernel) w h).1
theorem dn_hd_X12_copy : yX12_copy.cls = RX12 ∧ yX12_copy.cls ≠ "java/lang/invoke/MethodHandle" ∧ yX12_copy.cls ≠ "java/lang/invoke/VarHandle" ∧ (parseMethodDescriptor yX12_copy.desc).map (fun d => d.parameters.length) = some 2 := by decide +kernel
theorem dn_fw_X12_copy_7 : Cond.fieldLink RX12 7 "DayNamesModel" "w" "[I" ∈ wsX12_copy := List.mem_of_getElem? (i := 1) rfl
theorem dn_in_X12_copy_12 : ∀ w ∈ u_ws RX12 TX12 35, w ∈ wsX12_copy := fun w h => (goodIn_r (u_ws RX12 TX12 35) [2, 3, 4, 5, 6, 7, 8, 9, 10, 11, 12, 13, 14, 15, 16, 17, 18, 19, 20, 21, 22, 23, 24, 25, 26, 27, 28, 29, 30, 31, 32, 33, 34, 35, 36] rfl (by decide +kernel) w h).1
theorem dn_hd_X12_minds : yX12_minds.cls = RX12 ∧ yX12_minds.cls ≠ "java/lang/invoke/MethodHandle" ∧ yX12_minds.cls ≠ "java/lang/invoke/VarHandle" ∧ (parseMethodDescriptor yX12_minds.desc).map (fun d => d.parameters.length) = some 0 := by decide +kernel
theorem dn_fw_X12_minds_137 : Cond.fieldLink RX12 137 "DayNamesModel" "undoes" "I" ∈ wsX12_minds := List.mem_of_getElem? (i := 1) rfl
theorem dn_fw_X12_minds_7 : Cond.fieldLink RX12 7 "DayNamesModel" "w" "[I" ∈ wsX12_minds := List.mem_of_getElem? (i := 2) rfl
theorem dn_in_X12_minds_12 : ∀ w ∈ u_ws RX12 TX12 35, w ∈ wsX12_minds := fun w h => (goodIn_r (u_ws RX12 TX12 35) [8, 9, 10, 11, 12, 13, 14, 15, 16, 17, 18, 19, 20, 21, 22, 23, 24, 25, 26, 27, 28, 29, 30, 31, 32, 33, 34, 35, 36, 37, 38, 39, 40, 41, 42] rfl (by decide +kernel) w h).1
theorem dn_hd_X12_bidsOf : yX12_bidsOf.cls = RX12 ∧ yX12_bidsOf.cls ≠ "java/lang/invoke/MethodHandle" ∧ yX12_bidsOf.cls ≠ "java/lang/invoke/VarHandle" ∧ (parseMethodDescriptor yX12_bidsOf.desc).map (fun d => d.parameters.length) = some 1 := by decide +kernel
theorem dn_fw_X12_bidsOf_125 : Cond.fieldLink RX12 125 "DayNamesModel" "bidders" "I" ∈ wsX12_bidsOf := List.mem_of_getElem? (i := 2) rfl
theorem dn_fw_X12_bidsOf_23 : Cond.fieldLink RX12 23 "DayNamesModel" "worth" "[I" ∈ wsX12_bidsOf := List.mem_of_getElem? (i := 3) rfl
theorem dn_fw_X12_bidsOf_57 : Cond.fieldLink RX12 57 "DayNamesModel" "bid" "[I" ∈ wsX12_bidsOf := List.mem_of_getElem? (i := 1) rfl
theorem dn_fw_X12_bidsOf_60 : Cond.fieldLink RX12 60 "DayNamesModel" "wish" "[I" ∈ wsX12_bidsOf := List.mem_of_getElem? (i := 5) rfl
theorem dn_fw_X12_bidsOf_7 : Cond.fieldLink RX12 7 "DayNamesModel" "w" "[I" ∈ wsX12_bidsOf := List.mem_of_getElem? (i := 4) rfl
theorem dn_in_X12_bidsOf_12 : ∀ w ∈ u_ws RX12 TX12 35, w ∈ wsX12_bidsOf := fun w h => (goodIn_r (u_ws RX12 TX12 35) [12, 13, 14, 15, 16, 17, 18, 19, 20, 21, 22, 23, 24, 25, 26, 27, 28, 29, 30, 31, 32, 33, 34, 35, 36, 37, 38, 39, 40, 41, 42, 43, 44, 45, 46] rfl (by decide +kernel) w h).1
theorem dn_hd_X12_sells : yX12_sells.cls = RX12 ∧ yX12_sells.cls ≠ "java/lang/invoke/MethodHandle" ∧ yX12_sells.cls ≠ "java/lang/invoke/VarHandle" ∧ (parseMethodDescriptor yX12_sells.desc).map (fun d => d.parameters.length) = some 0 := by decide +kernel
theorem dn_fw_X12_sells_165 : Cond.fieldLink RX12 165 "DayNamesModel" "winner" "I" ∈ wsX12_sells := List.mem_of_getElem? (i := 1) rfl
theorem dn_fw_X12_sells_168 : Cond.fieldLink RX12 168 "DayNamesModel" "highest" "I" ∈ wsX12_sells := List.mem_of_getElem? (i := 2) rfl
theorem dn_fw_X12_sells_171 : Cond.fieldLink RX12 171 "DayNamesModel" "price" "I" ∈ wsX12_sells := List.mem_of_getElem? (i := 4) rfl
theorem dn_fw_X12_sells_57 : Cond.fieldLink RX12 57 "DayNamesModel" "bid" "[I" ∈ wsX12_sells := List.mem_of_getElem? (i := 3) rfl
theorem dn_in_X12_sells_12 : ∀ w ∈ u_ws RX12 TX12 35, w ∈ wsX12_sells := fun w h => (goodIn_r (u_ws RX12 TX12 35) [5, 6, 7, 8, 9, 10, 11, 12, 13, 14, 15, 16, 17, 18, 19, 20, 21, 22, 23, 24, 25, 26, 27, 28, 29, 30, 31, 32, 33, 34, 35, 36, 37, 38, 39] rfl (by decide +kernel) w h).1
theorem dn_hd_X12_comes : yX12_comes.cls = RX12 ∧ yX12_comes.cls ≠ "java/lang/invoke/MethodHandle" ∧ yX12_comes.cls ≠ "java/lang/invoke/VarHandle" ∧ (parseMethodDescriptor yX12_comes.desc).map (fun d => d.parameters.length) = some 2 := by decide +kernel
theorem dn_fw_X12_comes_125 : Cond.fieldLink RX12 125 "DayNamesModel" "bidders" "I" ∈ wsX12_comes := List.mem_of_getElem? (i := 2) rfl
theorem dn_fw_X12_comes_128 : Cond.fieldLink RX12 128 "DayNamesModel" "debts" "I" ∈ wsX12_comes := List.mem_of_getElem? (i := 4) rfl
theorem dn_fw_X12_comes_20 : Cond.fieldLink RX12 20 "DayNamesModel" "wage" "[I" ∈ wsX12_comes := List.mem_of_getElem? (i := 3) rfl
theorem dn_fw_X12_comes_30 : Cond.fieldLink RX12 30 "DayNamesModel" "owed" "[I" ∈ wsX12_comes := List.mem_of_getElem? (i := 5) rfl
theorem dn_fw_X12_comes_7 : Cond.fieldLink RX12 7 "DayNamesModel" "w" "[I" ∈ wsX12_comes := List.mem_of_getElem? (i := 1) rfl
theorem dn_in_X12_comes_12 : ∀ w ∈ u_ws RX12 TX12 35, w ∈ wsX12_comes := fun w h => (goodIn_r (u_ws RX12 TX12 35) [11, 12, 13, 14, 15, 16, 17, 18, 19, 20, 21, 22, 23, 24, 25, 26, 27, 28, 29, 30, 31, 32, 33, 34, 35, 36, 37, 38, 39, 40, 41, 42, 43, 44, 45] rfl (by decide +kernel) w h).1
theorem dn_hd_X12_ends : yX12_ends.cls = RX12 ∧ yX12_ends.cls ≠ "java/lang/invoke/MethodHandle" ∧ yX12_ends.cls ≠ "java/lang/invoke/VarHandle" ∧ (parseMethodDescriptor yX12_ends.desc).map (fun d => d.parameters.length) = some 1 := by decide +kernel
theorem dn_fw_X12_ends_165 : Cond.fieldLink RX12 165 "DayNamesModel" "winner" "I" ∈ wsX12_ends := List.mem_of_getElem? (i := 2) rfl
theorem dn_fw_X12_ends_171 : Cond.fieldLink RX12 171 "DayNamesModel" "price" "I" ∈ wsX12_ends := List.mem_of_getElem? (i := 3) rfl
theorem dn_fw_X12_ends_60 : Cond.fieldLink RX12 60 "DayNamesModel" "wish" "[I" ∈ wsX12_ends := List.mem_of_getElem? (i := 4) rfl
theorem dn_fw_X12_ends_7 : Cond.fieldLink RX12 7 "DayNamesModel" "w" "[I" ∈ wsX12_ends := List.mem_of_getElem? (i := 1) rfl
theorem dn_in_X12_ends_12 : ∀ w ∈ u_ws RX12 TX12 35, w ∈ wsX12_ends := fun w h => (goodIn_r (u_ws RX12 TX12 35) [24, 25, 26, 27, 28, 29, 30, 31, 32, 33, 34, 35, 36, 37, 38, 39, 40, 41, 42, 43, 44, 45, 46, 47, 48, 49, 50, 51, 52, 53, 54, 55, 56, 57, 58] rfl (by decide +kernel) w h).1
theorem dn_hd_X12_goes : yX12_goes.cls = RX12 ∧ yX12_goes.cls ≠ "java/lang/invoke/MethodHandle" ∧ yX12_goes.cls ≠ "java/lang/invoke/VarHandle" ∧ (parseMethodDescriptor yX12_goes.desc).map (fun d => d.parameters.length) = some 1 := by decide +kernel
theorem dn_hd_X12_night : yX12_night.cls = RX12 ∧ yX12_night.cls ≠ "java/lang/invoke/MethodHandle" ∧ yX12_night.cls ≠ "java/lang/invoke/VarHandle" ∧ (parseMethodDescriptor yX12_night.desc).map (fun d => d.parameters.length) = some 0 := by decide +kernel
theorem dn_hd_X12_bids : yX12_bids.cls = RX12 ∧ yX12_bids.cls ≠ "java/lang/invoke/MethodHandle" ∧ yX12_bids.cls ≠ "java/lang/invoke/VarHandle" ∧ (parseMethodDescriptor yX12_bids.desc).map (fun d => d.parameters.length) = some 2 := by decide +kernel
theorem dn_fw_X12_bids_7 : Cond.fieldLink RX12 7 "DayNamesModel" "w" "[I" ∈ wsX12_bids := List.mem_of_getElem? (i := 2) rfl
theorem dn_in_X12_bids_12 : ∀ w ∈ u_ws RX12 TX12 35, w ∈ wsX12_bids := fun w h => (goodIn_r (u_ws RX12 TX12 35) [20, 21, 22, 23, 24, 25, 26, 27, 28, 29, 30, 31, 32, 33, 34, 35, 36, 37, 38, 39, 40, 41, 42, 43, 44, 45, 46, 47, 48, 49, 50, 51, 52, 53, 54] rfl (by decide +kernel) w h).1
theorem dn_hd_X12_undo : yX12_undo.cls = RX12 ∧ yX12_undo.cls ≠ "java/lang/invoke/MethodHandle" ∧ yX12_undo.cls ≠ "java/lang/invoke/VarHandle" ∧ (parseMethodDescriptor yX12_undo.desc).map (fun d => d.parameters.length) = some 0 := by decide +kernel
theorem dn_fw_X12_undo_137 : Cond.fieldLink RX12 137 "DayNamesModel" "undoes" "I" ∈ wsX12_undo := List.mem_of_getElem? (i := 1) rfl
theorem dn_in_X12_undo_12 : ∀ w ∈ u_ws RX12 TX12 35, w ∈ wsX12_undo := fun w h => (goodIn_r (u_ws RX12 TX12 35) [8, 9, 10, 11, 12, 13, 14, 15, 16, 17, 18, 19, 20, 21, 22, 23, 24, 25, 26, 27, 28, 29, 30, 31, 32, 33, 34, 35, 36, 37, 38, 39, 40, 41, 42] rfl (by decide +kernel) w h).1
theorem dn_hd_X12_tries : yX12_tries.cls = RX12 ∧ yX12_tries.cls ≠ "java/lang/invoke/MethodHandle" ∧ yX12_tries.cls ≠ "java/lang/invoke/VarHandle" ∧ (parseMethodDescriptor yX12_tries.desc).map (fun d => d.parameters.length) = some 0 := by decide +kernel
theorem dn_fw_X12_tries_7 : Cond.fieldLink RX12 7 "DayNamesModel" "w" "[I" ∈ wsX12_tries := List.mem_of_getElem? (i := 1) rfl
theorem dn_in_X12_tries_12 : ∀ w ∈ u_ws RX12 TX12 35, w ∈ wsX12_tries := fun w h => (goodIn_r (u_ws RX12 TX12 35) [7, 8, 9, 10, 11, 12, 13, 14, 15, 16, 17, 18, 19, 20, 21, 22, 23, 24, 25, 26, 27, 28, 29, 30, 31, 32, 33, 34, 35, 36, 37, 38, 39, 40, 41] rfl (by decide +kernel) w h).1
theorem dn_hd_X12_goesMany : yX12_goesMany.cls = RX12 ∧ yX12_goesMany.cls ≠ "java/lang/invoke/MethodHandle" ∧ yX12_goesMany.cls ≠ "java/lang/invoke/VarHandle" ∧ (parseMethodDescriptor yX12_goesMany.desc).map (fun d => d.parameters.length) = some 1 := by decide +kernel
theorem dn_hd_X12_inNights : yX12_inNights.cls = RX12 ∧ yX12_inNights.cls ≠ "java/lang/invoke/MethodHandle" ∧ yX12_inNights.cls ≠ "java/lang/invoke/VarHandle" ∧ (parseMethodDescriptor yX12_inNights.desc).map (fun d => d.parameters.length) = some 2 := by decide +kernel
theorem dn_fw_X12_inNights_7 : Cond.fieldLink RX12 7 "DayNamesModel" "w" "[I" ∈ wsX12_inNights := List.mem_of_getElem? (i := 3) rfl
theorem dn_in_X12_inNights_12 : ∀ w ∈ u_ws RX12 TX12 35, w ∈ wsX12_inNights := fun w h => (goodIn_r (u_ws RX12 TX12 35) [59, 60, 61, 62, 63, 64, 65, 66, 67, 68, 69, 70, 71, 72, 73, 74, 75, 76, 77, 78, 79, 80, 81, 82, 83, 84, 85, 86, 87, 88, 89, 90, 91, 92, 93] rfl (by decide +kernel) w h).1
theorem dn_hd_X12_purseIn : yX12_purseIn.cls = RX12 ∧ yX12_purseIn.cls ≠ "java/lang/invoke/MethodHandle" ∧ yX12_purseIn.cls ≠ "java/lang/invoke/VarHandle" ∧ (parseMethodDescriptor yX12_purseIn.desc).map (fun d => d.parameters.length) = some 2 := by decide +kernel
theorem dn_fw_X12_purseIn_7 : Cond.fieldLink RX12 7 "DayNamesModel" "w" "[I" ∈ wsX12_purseIn := List.mem_of_getElem? (i := 2) rfl
theorem dn_in_X12_purseIn_12 : ∀ w ∈ u_ws RX12 TX12 35, w ∈ wsX12_purseIn := fun w h => (goodIn_r (u_ws RX12 TX12 35) [62, 63, 64, 65, 66, 67, 68, 69, 70, 71, 72, 73, 74, 75, 76, 77, 78, 79, 80, 81, 82, 83, 84, 85, 86, 87, 88, 89, 90, 91, 92, 93, 94, 95, 96] rfl (by decide +kernel) w h).1
theorem dn_hd_X12_falls : yX12_falls.cls = RX12 ∧ yX12_falls.cls ≠ "java/lang/invoke/MethodHandle" ∧ yX12_falls.cls ≠ "java/lang/invoke/VarHandle" ∧ (parseMethodDescriptor yX12_falls.desc).map (fun d => d.parameters.length) = some 1 := by decide +kernel
theorem dn_fw_X12_falls_7 : Cond.fieldLink RX12 7 "DayNamesModel" "w" "[I" ∈ wsX12_falls := List.mem_of_getElem? (i := 1) rfl
theorem dn_in_X12_falls_12 : ∀ w ∈ u_ws RX12 TX12 35, w ∈ wsX12_falls := fun w h => (goodIn_r (u_ws RX12 TX12 35) [57, 58, 59, 60, 61, 62, 63, 64, 65, 66, 67, 68, 69, 70, 71, 72, 73, 74, 75, 76, 77, 78, 79, 80, 81, 82, 83, 84, 85, 86, 87, 88, 89, 90, 91] rfl (by decide +kernel) w h).1
theorem dn_hd_X12_buy : yX12_buy.cls = RX12 ∧ yX12_buy.cls ≠ "java/lang/invoke/MethodHandle" ∧ yX12_buy.cls ≠ "java/lang/invoke/VarHandle" ∧ (parseMethodDescriptor yX12_buy.desc).map (fun d => d.parameters.length) = some 3 := by decide +kernel
theorem dn_fw_X12_buy_165 : Cond.fieldLink RX12 165 "DayNamesModel" "winner" "I" ∈ wsX12_buy := List.mem_of_getElem? (i := 2) rfl
theorem dn_fw_X12_buy_168 : Cond.fieldLink RX12 168 "DayNamesModel" "highest" "I" ∈ wsX12_buy := List.mem_of_getElem? (i := 4) rfl
theorem dn_fw_X12_buy_60 : Cond.fieldLink RX12 60 "DayNamesModel" "wish" "[I" ∈ wsX12_buy := List.mem_of_getElem? (i := 3) rfl
theorem dn_in_X12_buy_12 : ∀ w ∈ u_ws RX12 TX12 35, w ∈ wsX12_buy := fun w h => (goodIn_r (u_ws RX12 TX12 35) [58, 59, 60, 61, 62, 63, 64, 65, 66, 67, 68, 69, 70, 71, 72, 73, 74, 75, 76, 77, 78, 79, 80, 81, 82, 83, 84, 85, 86, 87, 88, 89, 90, 91, 92] rfl (by decide +kernel) w h).1
theorem dn_hd_X12_hold : yX12_hold.cls = RX12 ∧ yX12_hold.cls ≠ "java/lang/invoke/MethodHandle" ∧ yX12_hold.cls ≠ "java/lang/invoke/VarHandle" ∧ (parseMethodDescriptor yX12_hold.desc).map (fun d => d.parameters.length) = some 3 := by decide +kernel
theorem dn_fw_X12_hold_168 : Cond.fieldLink RX12 168 "DayNamesModel" "highest" "I" ∈ wsX12_hold := List.mem_of_getElem? (i := 3) rfl
theorem dn_fw_X12_hold_7 : Cond.fieldLink RX12 7 "DayNamesModel" "w" "[I" ∈ wsX12_hold := List.mem_of_getElem? (i := 2) rfl
theorem dn_in_X12_hold_12 : ∀ w ∈ u_ws RX12 TX12 35, w ∈ wsX12_hold := fun w h => (goodIn_r (u_ws RX12 TX12 35) [58, 59, 60, 61, 62, 63, 64, 65, 66, 67, 68, 69, 70, 71, 72, 73, 74, 75, 76, 77, 78, 79, 80, 81, 82, 83, 84, 85, 86, 87, 88, 89, 90, 91, 92] rfl (by decide +kernel) w h).1
theorem dn_hd_X12_paidBy : yX12_paidBy.cls = RX12 ∧ yX12_paidBy.cls ≠ "java/lang/invoke/MethodHandle" ∧ yX12_paidBy.cls ≠ "java/lang/invoke/VarHandle" ∧ (parseMethodDescriptor yX12_paidBy.desc).map (fun d => d.parameters.length) = some 4 := by decide +kernel
theorem dn_fw_X12_paidBy_165 : Cond.fieldLink RX12 165 "DayNamesModel" "winner" "I" ∈ wsX12_paidBy := List.mem_of_getElem? (i := 2) rfl
theorem dn_fw_X12_paidBy_171 : Cond.fieldLink RX12 171 "DayNamesModel" "price" "I" ∈ wsX12_paidBy := List.mem_of_getElem? (i := 3) rfl
theorem dn_fw_X12_paidBy_57 : Cond.fieldLink RX12 57 "DayNamesModel" "bid" "[I" ∈ wsX12_paidBy := List.mem_of_getElem? (i := 1) rfl
theorem dn_in_X12_paidBy_12 : ∀ w ∈ u_ws RX12 TX12 35, w ∈ wsX12_paidBy := fun w h => (goodIn_r (u_ws RX12 TX12 35) [46, 47, 48, 49, 50, 51, 52, 53, 54, 55, 56, 57, 58, 59, 60, 61, 62, 63, 64, 65, 66, 67, 68, 69, 70, 71, 72, 73, 74, 75, 76, 77, 78, 79, 80] rfl (by decide +kernel) w h).1
theorem dn_hd_X12_ring : yX12_ring.cls = RX12 ∧ yX12_ring.cls ≠ "java/lang/invoke/MethodHandle" ∧ yX12_ring.cls ≠ "java/lang/invoke/VarHandle" ∧ (parseMethodDescriptor yX12_ring.desc).map (fun d => d.parameters.length) = some 3 := by decide +kernel
theorem dn_hd_X12_found : yX12_found.cls = RX12 ∧ yX12_found.cls ≠ "java/lang/invoke/MethodHandle" ∧ yX12_found.cls ≠ "java/lang/invoke/VarHandle" ∧ (parseMethodDescriptor yX12_found.desc).map (fun d => d.parameters.length) = some 2 := by decide +kernel
theorem dn_fw_X12_found_131 : Cond.fieldLink RX12 131 "DayNamesModel" "founds" "I" ∈ wsX12_found := List.mem_of_getElem? (i := 4) rfl
theorem dn_fw_X12_found_33 : Cond.fieldLink RX12 33 "DayNamesModel" "foundNight" "[I" ∈ wsX12_found := List.mem_of_getElem? (i := 5) rfl
theorem dn_fw_X12_found_36 : Cond.fieldLink RX12 36 "DayNamesModel" "foundName" "[I" ∈ wsX12_found := List.mem_of_getElem? (i := 6) rfl
theorem dn_in_X12_found_12 : ∀ w ∈ u_ws RX12 TX12 35, w ∈ wsX12_found := fun w h => (goodIn_r (u_ws RX12 TX12 35) [11, 12, 13, 14, 15, 16, 17, 18, 19, 20, 21, 22, 23, 24, 25, 26, 27, 28, 29, 30, 31, 32, 33, 34, 35, 36, 37, 38, 39, 40, 41, 42, 43, 44, 45] rfl (by decide +kernel) w h).1
theorem dn_hd_X12_forget : yX12_forget.cls = RX12 ∧ yX12_forget.cls ≠ "java/lang/invoke/MethodHandle" ∧ yX12_forget.cls ≠ "java/lang/invoke/VarHandle" ∧ (parseMethodDescriptor yX12_forget.desc).map (fun d => d.parameters.length) = some 0 := by decide +kernel
theorem dn_fw_X12_forget_131 : Cond.fieldLink RX12 131 "DayNamesModel" "founds" "I" ∈ wsX12_forget := List.mem_of_getElem? (i := 1) rfl
theorem dn_in_X12_forget_12 : ∀ w ∈ u_ws RX12 TX12 35, w ∈ wsX12_forget := fun w h => (goodIn_r (u_ws RX12 TX12 35) [2, 3, 4, 5, 6, 7, 8, 9, 10, 11, 12, 13, 14, 15, 16, 17, 18, 19, 20, 21, 22, 23, 24, 25, 26, 27, 28, 29, 30, 31, 32, 33, 34, 35, 36] rfl (by decide +kernel) w h).1
theorem dn_hd_X12_isSo : yX12_isSo.cls = RX12 ∧ yX12_isSo.cls ≠ "java/lang/invoke/MethodHandle" ∧ yX12_isSo.cls ≠ "java/lang/invoke/VarHandle" ∧ (parseMethodDescriptor yX12_isSo.desc).map (fun d => d.parameters.length) = some 0 := by decide +kernel
theorem dn_fw_X12_isSo_131 : Cond.fieldLink RX12 131 "DayNamesModel" "founds" "I" ∈ wsX12_isSo := List.mem_of_getElem? (i := 1) rfl
theorem dn_fw_X12_isSo_33 : Cond.fieldLink RX12 33 "DayNamesModel" "foundNight" "[I" ∈ wsX12_isSo := List.mem_of_getElem? (i := 2) rfl
theorem dn_fw_X12_isSo_36 : Cond.fieldLink RX12 36 "DayNamesModel" "foundName" "[I" ∈ wsX12_isSo := List.mem_of_getElem? (i := 3) rfl
theorem dn_in_X12_isSo_12 : ∀ w ∈ u_ws RX12 TX12 35, w ∈ wsX12_isSo := fun w h => (goodIn_r (u_ws RX12 TX12 35) [53, 54, 55, 56, 57, 58, 59, 60, 61, 62, 63, 64, 65, 66, 67, 68, 69, 70, 71, 72, 73, 74, 75, 76, 77, 78, 79, 80, 81, 82, 83, 84, 85, 86, 87] rfl (by decide +kernel) w h).1
theorem dn_hd_X12_mayBe : yX12_mayBe.cls = RX12 ∧ yX12_mayBe.cls ≠ "java/lang/invoke/MethodHandle" ∧ yX12_mayBe.cls ≠ "java/lang/invoke/VarHandle" ∧ (parseMethodDescriptor yX12_mayBe.desc).map (fun d => d.parameters.length) = some 3 := by decide +kernel
theorem dn_fw_X12_mayBe_23 : Cond.fieldLink RX12 23 "DayNamesModel" "worth" "[I" ∈ wsX12_mayBe := List.mem_of_getElem? (i := 1) rfl
theorem dn_in_X12_mayBe_12 : ∀ w ∈ u_ws RX12 TX12 35, w ∈ wsX12_mayBe := fun w h => (goodIn_r (u_ws RX12 TX12 35) [68, 69, 70, 71, 72, 73, 74, 75, 76, 77, 78, 79, 80, 81, 82, 83, 84, 85, 86, 87, 88, 89, 90, 91, 92, 93, 94, 95, 96, 97, 98, 99, 100, 101, 102] rfl (by decide +kernel) w h).1
theorem dn_hd_X12_plan : yX12_plan.cls = RX12 ∧ yX12_plan.cls ≠ "java/lang/invoke/MethodHandle" ∧ yX12_plan.cls ≠ "java/lang/invoke/VarHandle" ∧ (parseMethodDescriptor yX12_plan.desc).map (fun d => d.parameters.length) = some 1 := by decide +kernel
theorem dn_fw_X12_plan_134 : Cond.fieldLink RX12 134 "DayNamesModel" "plans" "I" ∈ wsX12_plan := List.mem_of_getElem? (i := 3) rfl
theorem dn_fw_X12_plan_39 : Cond.fieldLink RX12 39 "DayNamesModel" "planNames" "[I" ∈ wsX12_plan := List.mem_of_getElem? (i := 4) rfl
theorem dn_in_X12_plan_12 : ∀ w ∈ u_ws RX12 TX12 35, w ∈ wsX12_plan := fun w h => (goodIn_r (u_ws RX12 TX12 35) [9, 10, 11, 12, 13, 14, 15, 16, 17, 18, 19, 20, 21, 22, 23, 24, 25, 26, 27, 28, 29, 30, 31, 32, 33, 34, 35, 36, 37, 38, 39, 40, 41, 42, 43] rfl (by decide +kernel) w h).1
theorem dn_hd_X12_unplan : yX12_unplan.cls = RX12 ∧ yX12_unplan.cls ≠ "java/lang/invoke/MethodHandle" ∧ yX12_unplan.cls ≠ "java/lang/invoke/VarHandle" ∧ (parseMethodDescriptor yX12_unplan.desc).map (fun d => d.parameters.length) = some 0 := by decide +kernel
theorem dn_fw_X12_unplan_134 : Cond.fieldLink RX12 134 "DayNamesModel" "plans" "I" ∈ wsX12_unplan := List.mem_of_getElem? (i := 1) rfl
theorem dn_in_X12_unplan_12 : ∀ w ∈ u_ws RX12 TX12 35, w ∈ wsX12_unplan := fun w h => (goodIn_r (u_ws RX12 TX12 35) [2, 3, 4, 5, 6, 7, 8, 9, 10, 11, 12, 13, 14, 15, 16, 17, 18, 19, 20, 21, 22, 23, 24, 25, 26, 27, 28, 29, 30, 31, 32, 33, 34, 35, 36] rfl (by decide +kernel) w h).1
theorem dn_hd_X12_planned : yX12_planned.cls = RX12 ∧ yX12_planned.cls ≠ "java/lang/invoke/MethodHandle" ∧ yX12_planned.cls ≠ "java/lang/invoke/VarHandle" ∧ (parseMethodDescriptor yX12_planned.desc).map (fun d => d.parameters.length) = some 1 := by decide +kernel
theorem dn_fw_X12_planned_134 : Cond.fieldLink RX12 134 "DayNamesModel" "plans" "I" ∈ wsX12_planned := List.mem_of_getElem? (i := 1) rfl
theorem dn_fw_X12_planned_39 : Cond.fieldLink RX12 39 "DayNamesModel" "planNames" "[I" ∈ wsX12_planned := List.mem_of_getElem? (i := 2) rfl
theorem dn_fw_X12_planned_7 : Cond.fieldLink RX12 7 "DayNamesModel" "w" "[I" ∈ wsX12_planned := List.mem_of_getElem? (i := 3) rfl
theorem dn_in_X12_planned_12 : ∀ w ∈ u_ws RX12 TX12 35, w ∈ wsX12_planned := fun w h => (goodIn_r (u_ws RX12 TX12 35) [32, 33, 34, 35, 36, 37, 38, 39, 40, 41, 42, 43, 44, 45, 46, 47, 48, 49, 50, 51, 52, 53, 54, 55, 56, 57, 58, 59, 60, 61, 62, 63, 64, 65, 66] rfl (by decide +kernel) w h).1
theorem dn_hs_X12_has : yX12_has.cls ≠ "java/lang/invoke/MethodHandle" ∧ yX12_has.cls ≠ "java/lang/invoke/VarHandle" ∧ (parseMethodDescriptor yX12_has.desc).map (fun d => d.parameters.length) = some 2 := by decide +kernel
theorem dn_hd_X12_odds : yX12_odds.cls = RX12 ∧ yX12_odds.cls ≠ "java/lang/invoke/MethodHandle" ∧ yX12_odds.cls ≠ "java/lang/invoke/VarHandle" ∧ (parseMethodDescriptor yX12_odds.desc).map (fun d => d.parameters.length) = some 4 := by decide +kernel
theorem dn_fw_X12_odds_7 : Cond.fieldLink RX12 7 "DayNamesModel" "w" "[I" ∈ wsX12_odds := List.mem_of_getElem? (i := 3) rfl
theorem dn_in_X12_odds_12 : ∀ w ∈ u_ws RX12 TX12 35, w ∈ wsX12_odds := fun w h => (goodIn_r (u_ws RX12 TX12 35) [62, 63, 64, 65, 66, 67, 68, 69, 70, 71, 72, 73, 74, 75, 76, 77, 78, 79, 80, 81, 82, 83, 84, 85, 86, 87, 88, 89, 90, 91, 92, 93, 94, 95, 96] rfl (by decide +kernel) w h).1
theorem dn_hd_X12_bareRate : yX12_bareRate.cls = RX12 ∧ yX12_bareRate.cls ≠ "java/lang/invoke/MethodHandle" ∧ yX12_bareRate.cls ≠ "java/lang/invoke/VarHandle" ∧ (parseMethodDescriptor yX12_bareRate.desc).map (fun d => d.parameters.length) = some 1 := by decide +kernel
theorem dn_fw_X12_bareRate_233 : Cond.fieldLink RX12 233 "DayNamesModel" "trace" "J" ∈ wsX12_bareRate := List.mem_of_getElem? (i := 1) rfl
theorem dn_fw_X12_bareRate_7 : Cond.fieldLink RX12 7 "DayNamesModel" "w" "[I" ∈ wsX12_bareRate := List.mem_of_getElem? (i := 2) rfl
theorem dn_in_X12_bareRate_12 : ∀ w ∈ u_ws RX12 TX12 35, w ∈ wsX12_bareRate := fun w h => (goodIn_r (u_ws RX12 TX12 35) [3, 4, 5, 6, 7, 8, 9, 10, 11, 12, 13, 14, 15, 16, 17, 18, 19, 20, 21, 22, 23, 24, 25, 26, 27, 28, 29, 30, 31, 32, 33, 34, 35, 36, 37] rfl (by decide +kernel) w h).1
theorem dn_hd_X12_brewerRate : yX12_brewerRate.cls = RX12 ∧ yX12_brewerRate.cls ≠ "java/lang/invoke/MethodHandle" ∧ yX12_brewerRate.cls ≠ "java/lang/invoke/VarHandle" ∧ (parseMethodDescriptor yX12_brewerRate.desc).map (fun d => d.parameters.length) = some 1 := by decide +kernel
theorem dn_fw_X12_brewerRate_20 : Cond.fieldLink RX12 20 "DayNamesModel" "wage" "[I" ∈ wsX12_brewerRate := List.mem_of_getElem? (i := 3) rfl
theorem dn_fw_X12_brewerRate_233 : Cond.fieldLink RX12 233 "DayNamesModel" "trace" "J" ∈ wsX12_brewerRate := List.mem_of_getElem? (i := 1) rfl
theorem dn_in_X12_brewerRate_12 : ∀ w ∈ u_ws RX12 TX12 35, w ∈ wsX12_brewerRate := fun w h => (goodIn_r (u_ws RX12 TX12 35) [10, 11, 12, 13, 14, 15, 16, 17, 18, 19, 20, 21, 22, 23, 24, 25, 26, 27, 28, 29, 30, 31, 32, 33, 34, 35, 36, 37, 38, 39, 40, 41, 42, 43, 44] rfl (by decide +kernel) w h).1
theorem dn_hd_X12_loverRate : yX12_loverRate.cls = RX12 ∧ yX12_loverRate.cls ≠ "java/lang/invoke/MethodHandle" ∧ yX12_loverRate.cls ≠ "java/lang/invoke/VarHandle" ∧ (parseMethodDescriptor yX12_loverRate.desc).map (fun d => d.parameters.length) = some 1 := by decide +kernel
theorem dn_fw_X12_loverRate_128 : Cond.fieldLink RX12 128 "DayNamesModel" "debts" "I" ∈ wsX12_loverRate := List.mem_of_getElem? (i := 3) rfl
theorem dn_fw_X12_loverRate_233 : Cond.fieldLink RX12 233 "DayNamesModel" "trace" "J" ∈ wsX12_loverRate := List.mem_of_getElem? (i := 1) rfl
theorem dn_fw_X12_loverRate_30 : Cond.fieldLink RX12 30 "DayNamesModel" "owed" "[I" ∈ wsX12_loverRate := List.mem_of_getElem? (i := 4) rfl
theorem dn_fw_X12_loverRate_7 : Cond.fieldLink RX12 7 "DayNamesModel" "w" "[I" ∈ wsX12_loverRate := List.mem_of_getElem? (i := 5) rfl
theorem dn_in_X12_loverRate_12 : ∀ w ∈ u_ws RX12 TX12 35, w ∈ wsX12_loverRate := fun w h => (goodIn_r (u_ws RX12 TX12 35) [11, 12, 13, 14, 15, 16, 17, 18, 19, 20, 21, 22, 23, 24, 25, 26, 27, 28, 29, 30, 31, 32, 33, 34, 35, 36, 37, 38, 39, 40, 41, 42, 43, 44, 45] rfl (by decide +kernel) w h).1
theorem dn_hd_X12_rate : yX12_rate.cls = RX12 ∧ yX12_rate.cls ≠ "java/lang/invoke/MethodHandle" ∧ yX12_rate.cls ≠ "java/lang/invoke/VarHandle" ∧ (parseMethodDescriptor yX12_rate.desc).map (fun d => d.parameters.length) = some 2 := by decide +kernel
theorem dn_fw_X12_rate_233 : Cond.fieldLink RX12 233 "DayNamesModel" "trace" "J" ∈ wsX12_rate := List.mem_of_getElem? (i := 3) rfl
theorem dn_fw_X12_rate_7 : Cond.fieldLink RX12 7 "DayNamesModel" "w" "[I" ∈ wsX12_rate := List.mem_of_getElem? (i := 7) rfl
theorem dn_in_X12_rate_12 : ∀ w ∈ u_ws RX12 TX12 35, w ∈ wsX12_rate := fun w h => (goodIn_r (u_ws RX12 TX12 35) [34, 35, 36, 37, 38, 39, 40, 41, 42, 43, 44, 45, 46, 47, 48, 49, 50, 51, 52, 53, 54, 55, 56, 57, 58, 59, 60, 61, 62, 63, 64, 65, 66, 67, 68] rfl (by decide +kernel) w h).1
theorem dn_hd_X12_keep : yX12_keep.cls = RX12 ∧ yX12_keep.cls ≠ "java/lang/invoke/MethodHandle" ∧ yX12_keep.cls ≠ "java/lang/invoke/VarHandle" ∧ (parseMethodDescriptor yX12_keep.desc).map (fun d => d.parameters.length) = some 1 := by decide +kernel
theorem dn_fw_X12_keep_13 : Cond.fieldLink RX12 13 "DayNamesModel" "isKept" "[Z" ∈ wsX12_keep := List.mem_of_getElem? (i := 1) rfl
theorem dn_fw_X12_keep_7 : Cond.fieldLink RX12 7 "DayNamesModel" "w" "[I" ∈ wsX12_keep := List.mem_of_getElem? (i := 2) rfl
theorem dn_in_X12_keep_12 : ∀ w ∈ u_ws RX12 TX12 35, w ∈ wsX12_keep := fun w h => (goodIn_r (u_ws RX12 TX12 35) [11, 12, 13, 14, 15, 16, 17, 18, 19, 20, 21, 22, 23, 24, 25, 26, 27, 28, 29, 30, 31, 32, 33, 34, 35, 36, 37, 38, 39, 40, 41, 42, 43, 44, 45] rfl (by decide +kernel) w h).1
theorem dn_hd_X12_back : yX12_back.cls = RX12 ∧ yX12_back.cls ≠ "java/lang/invoke/MethodHandle" ∧ yX12_back.cls ≠ "java/lang/invoke/VarHandle" ∧ (parseMethodDescriptor yX12_back.desc).map (fun d => d.parameters.length) = some 1 := by decide +kernel
theorem dn_fw_X12_back_13 : Cond.fieldLink RX12 13 "DayNamesModel" "isKept" "[Z" ∈ wsX12_back := List.mem_of_getElem? (i := 1) rfl
theorem dn_fw_X12_back_137 : Cond.fieldLink RX12 137 "DayNamesModel" "undoes" "I" ∈ wsX12_back := List.mem_of_getElem? (i := 2) rfl
theorem dn_fw_X12_back_7 : Cond.fieldLink RX12 7 "DayNamesModel" "w" "[I" ∈ wsX12_back := List.mem_of_getElem? (i := 3) rfl
theorem dn_in_X12_back_12 : ∀ w ∈ u_ws RX12 TX12 35, w ∈ wsX12_back := fun w h => (goodIn_r (u_ws RX12 TX12 35) [12, 13, 14, 15, 16, 17, 18, 19, 20, 21, 22, 23, 24, 25, 26, 27, 28, 29, 30, 31, 32, 33, 34, 35, 36, 37, 38, 39, 40, 41, 42, 43, 44, 45, 46] rfl (by decide +kernel) w h).1
theorem dn_hd_X12_count : yX12_count.cls = RX12 ∧ yX12_count.cls ≠ "java/lang/invoke/MethodHandle" ∧ yX12_count.cls ≠ "java/lang/invoke/VarHandle" ∧ (parseMethodDescriptor yX12_count.desc).map (fun d => d.parameters.length) = some 1 := by decide +kernel
theorem dn_fw_X12_count_125 : Cond.fieldLink RX12 125 "DayNamesModel" "bidders" "I" ∈ wsX12_count := List.mem_of_getElem? (i := 1) rfl
theorem dn_fw_X12_count_128 : Cond.fieldLink RX12 128 "DayNamesModel" "debts" "I" ∈ wsX12_count := List.mem_of_getElem? (i := 3) rfl
theorem dn_fw_X12_count_131 : Cond.fieldLink RX12 131 "DayNamesModel" "founds" "I" ∈ wsX12_count := List.mem_of_getElem? (i := 4) rfl
theorem dn_fw_X12_count_134 : Cond.fieldLink RX12 134 "DayNamesModel" "plans" "I" ∈ wsX12_count := List.mem_of_getElem? (i := 5) rfl
theorem dn_fw_X12_count_26 : Cond.fieldLink RX12 26 "DayNamesModel" "bar" "I" ∈ wsX12_count := List.mem_of_getElem? (i := 2) rfl
theorem dn_fw_X12_count_72 : Cond.fieldLink RX12 72 "DayNamesModel" "texted" "I" ∈ wsX12_count := List.mem_of_getElem? (i := 6) rfl
theorem dn_in_X12_count_12 : ∀ w ∈ u_ws RX12 TX12 35, w ∈ wsX12_count := fun w h => (goodIn_r (u_ws RX12 TX12 35) [7, 8, 9, 10, 11, 12, 13, 14, 15, 16, 17, 18, 19, 20, 21, 22, 23, 24, 25, 26, 27, 28, 29, 30, 31, 32, 33, 34, 35, 36, 37, 38, 39, 40, 41] rfl (by decide +kernel) w h).1
theorem dn_hd_X12_trace : yX12_trace.cls = RX12 ∧ yX12_trace.cls ≠ "java/lang/invoke/MethodHandle" ∧ yX12_trace.cls ≠ "java/lang/invoke/VarHandle" ∧ (parseMethodDescriptor yX12_trace.desc).map (fun d => d.parameters.length) = some 0 := by decide +kernel
theorem dn_fw_X12_trace_233 : Cond.fieldLink RX12 233 "DayNamesModel" "trace" "J" ∈ wsX12_trace := List.mem_of_getElem? (i := 1) rfl
theorem dn_in_X12_trace_12 : ∀ w ∈ u_ws RX12 TX12 35, w ∈ wsX12_trace := fun w h => (goodIn_r (u_ws RX12 TX12 35) [2, 3, 4, 5, 6, 7, 8, 9, 10, 11, 12, 13, 14, 15, 16, 17, 18, 19, 20, 21, 22, 23, 24, 25, 26, 27, 28, 29, 30, 31, 32, 33, 34, 35, 36] rfl (by decide +kernel) w h).1
