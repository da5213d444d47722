set_option maxRecDepth 100000 in
set_option maxHeartbeats 4000000 in
theorem c_X12_rate (l : Launch) (u : dn_U) (hu : dn_Lu u = dn_LR) (a1 : Int32) (a2 : Int32) (s : dn_S) : dn_Met l u yX12_rate wsX12_rate 2 46 [.ref (dn_a u 100), .int a1, .int a2] s (m_X12_rate a1 a2 s) (dn_QI u) := by
  refine dt_entry RX12 [(0, .ref (dn_a u 100)), (1, .int a1), (2, .int a2)] (by decide +kernel) rfl rfl rfl rfl (fun g hgl X => ?_)
  subst hgl
  unfold m_X12_rate
  refine dt_iload_n X 1 dX12_rate_0 rfl rfl ?_
  refine dt_i2l X dX12_rate_1 ?_
  refine dt_lconst X (v := 0) dX12_rate_2 (by decide) ?_
  refine dt_ldc2 X (v := 5) dX12_rate_3 (by decide +kernel) ?_
  refine dt_callZ X (dn_runS X [.long ((a1 : Int32).toInt64), .long 0, .long 5] (c_X12_in (dn_la g) u hu ((a1 : Int32).toInt64) 0 5 s) gX12_rate_X12_in rfl dn_hs_X12_in rfl rfl rfl rfl dX12_rate_6) (fun r3 s1 e2 => ?_)
  refine dt_if_eqb X 20 dX12_rate_9 (by decide) ?_ ?_
  · refine dt_ldc X (v := -1000000) dX12_rate_20 (by decide +kernel) ?_
    exact dt_iret X dX12_rate_22
  · refine dt_aload_n X 0 dX12_rate_12 rfl rfl ?_
    refine dt_iload_n X 2 dX12_rate_13 rfl rfl ?_
    refine dt_callZ X (dn_runV X (T := TX12) (N := 35) [.int a2] (dn_h100 hu) rfl rfl (c_X12_isBidder (dn_la g) u hu a2 s1) gX12_rate_X12_isBidder rfl dn_hd_X12_isBidder rfl rfl rfl rfl dX12_rate_14) (fun r6 s4 e5 => ?_)
    refine dt_if_neb X 23 dX12_rate_17 (by decide) ?_ ?_
    · refine dt_iload_n X 1 dX12_rate_23 rfl rfl ?_
      refine dt_case X (c0 := 1) (fun h7 => ?_) (fun h7 => ?_)
      · refine dt_tabIn X 1 60 dX12_rate_24 (by rw [h7]; rfl) rfl rfl rfl (by decide) ?_
        refine dt_aload_n X 0 dX12_rate_60 rfl rfl ?_
        refine dt_iload_n X 2 dX12_rate_61 rfl rfl ?_
        refine dt_callI X (dn_runV X (T := TX12) (N := 35) [.int a2] (dn_h100 hu) rfl rfl (c_X12_brewerRate (dn_la g) u hu a2 s4) gX12_rate_X12_brewerRate rfl dn_hd_X12_brewerRate rfl rfl rfl rfl dX12_rate_62) (fun r10 s8 e9 => ?_)
        exact dt_iret X dX12_rate_65
      refine dt_case X (c0 := 2) (fun h11 => ?_) (fun h11 => ?_)
      · refine dt_tabIn X 2 66 dX12_rate_24 (by rw [h11]; rfl) rfl rfl rfl (by decide) ?_
        refine dt_aload_n X 0 dX12_rate_66 rfl rfl ?_
        refine dt_iload_n X 2 dX12_rate_67 rfl rfl ?_
        refine dt_callI X (dn_runV X (T := TX12) (N := 35) [.int a2] (dn_h100 hu) rfl rfl (c_X12_loverRate (dn_la g) u hu a2 s4) gX12_rate_X12_loverRate rfl dn_hd_X12_loverRate rfl rfl rfl rfl dX12_rate_68) (fun r14 s12 e13 => ?_)
        exact dt_iret X dX12_rate_71
      refine dt_case X (c0 := 3) (fun h15 => ?_) (fun h15 => ?_)
      · refine dt_tabIn X 3 72 dX12_rate_24 (by rw [h15]; rfl) rfl rfl rfl (by decide) ?_
        refine dt_aload_n X 0 dX12_rate_72 rfl rfl ?_
        refine dt_dup X dX12_rate_73 rfl ?_
        refine dt_get X (T := TX12) (N := 35) (v := .long (dn_l s4)) 15 (dn_h100 hu) rfl dn_in_X12_rate_12 rfl rfl dn_fw_X12_rate_233 rfl dX12_rate_74 ?_
        refine dt_ldc2 X (v := 1000) dX12_rate_77 (by decide +kernel) ?_
        refine dt_ladd X dX12_rate_80 ?_
        refine dt_putl X (T := TX12) (N := 35) 15 (dn_h100 hu) rfl dn_in_X12_rate_12 rfl tyX12 tyX12_ok nmX12 rfl rfl dn_fw_X12_rate_233 rfl rfl (dn_setq100 _ _ _) (dn_qz100 hu) dX12_rate_81 (fun s16 => ?_)
        refine dt_iconst X (v := 2) dX12_rate_84 (by decide) ?_
        refine dt_aload_n X 0 dX12_rate_85 rfl rfl ?_
        refine dt_iload_n X 2 dX12_rate_86 rfl rfl ?_
        refine dt_callI X (dn_runV X (T := TX12) (N := 35) [.int a2] (dn_h100 hu) rfl rfl (c_X12_brewerRate (dn_la g) u hu a2 s16) gX12_rate_X12_brewerRate rfl dn_hd_X12_brewerRate rfl rfl rfl rfl dX12_rate_87) (fun r19 s17 e18 => ?_)
        refine dt_imul X dX12_rate_90 ?_
        exact dt_iret X dX12_rate_91
      refine dt_case X (c0 := 4) (fun h20 => ?_) (fun h20 => ?_)
      · refine dt_tabIn X 4 92 dX12_rate_24 (by rw [h20]; rfl) rfl rfl rfl (by decide) ?_
        refine dt_aload_n X 0 dX12_rate_92 rfl rfl ?_
        refine dt_dup X dX12_rate_93 rfl ?_
        refine dt_get X (T := TX12) (N := 35) (v := .long (dn_l s4)) 15 (dn_h100 hu) rfl dn_in_X12_rate_12 rfl rfl dn_fw_X12_rate_233 rfl dX12_rate_94 ?_
        refine dt_ldc2 X (v := 10000) dX12_rate_97 (by decide +kernel) ?_
        refine dt_ladd X dX12_rate_100 ?_
        refine dt_putl X (T := TX12) (N := 35) 15 (dn_h100 hu) rfl dn_in_X12_rate_12 rfl tyX12 tyX12_ok nmX12 rfl rfl dn_fw_X12_rate_233 rfl rfl (dn_setq100 _ _ _) (dn_qz100 hu) dX12_rate_101 (fun s21 => ?_)
        refine dt_aload_n X 0 dX12_rate_104 rfl rfl ?_
        refine dt_iload_n X 2 dX12_rate_105 rfl rfl ?_
        refine dt_callI X (dn_runV X (T := TX12) (N := 35) [.int a2] (dn_h100 hu) rfl rfl (c_X12_loverRate (dn_la g) u hu a2 s21) gX12_rate_X12_loverRate rfl dn_hd_X12_loverRate rfl rfl rfl rfl dX12_rate_106) (fun r24 s22 e23 => ?_)
        refine dt_iload_n X 2 dX12_rate_109 rfl rfl ?_
        refine dt_iadd X dX12_rate_110 ?_
        exact dt_iret X dX12_rate_111
      refine dt_case X (c0 := 5) (fun h25 => ?_) (fun h25 => ?_)
      · refine dt_tabIn X 5 112 dX12_rate_24 (by rw [h25]; rfl) rfl rfl rfl (by decide) ?_
        refine dt_aload_n X 0 dX12_rate_112 rfl rfl ?_
        refine dt_dup X dX12_rate_113 rfl ?_
        refine dt_get X (T := TX12) (N := 35) (v := .long (dn_l s4)) 15 (dn_h100 hu) rfl dn_in_X12_rate_12 rfl rfl dn_fw_X12_rate_233 rfl dX12_rate_114 ?_
        refine dt_ldc2 X (v := 100000) dX12_rate_117 (by decide +kernel) ?_
        refine dt_ladd X dX12_rate_120 ?_
        refine dt_putl X (T := TX12) (N := 35) 15 (dn_h100 hu) rfl dn_in_X12_rate_12 rfl tyX12 tyX12_ok nmX12 rfl rfl dn_fw_X12_rate_233 rfl rfl (dn_setq100 _ _ _) (dn_qz100 hu) dX12_rate_121 (fun s26 => ?_)
        refine dt_aload_n X 0 dX12_rate_124 rfl rfl ?_
        refine dt_iload_n X 2 dX12_rate_125 rfl rfl ?_
        refine dt_callI X (dn_runV X (T := TX12) (N := 35) [.int a2] (dn_h100 hu) rfl rfl (c_X12_bareRate (dn_la g) u hu a2 s26) gX12_rate_X12_bareRate rfl dn_hd_X12_bareRate rfl rfl rfl rfl dX12_rate_126) (fun r29 s27 e28 => ?_)
        refine dt_aload_n X 0 dX12_rate_129 rfl rfl ?_
        refine dt_get X (T := TX12) (N := 35) (v := .ref (dn_a u 101)) 0 (dn_h100 hu) rfl dn_in_X12_rate_12 rfl rfl dn_fw_X12_rate_7 rfl dX12_rate_130 ?_
        refine dt_iconst X (v := 0) dX12_rate_133 (by decide) ?_
        refine dt_iald X (dn_h101 hu) dX12_rate_134 ?_
        refine dt_iadd X dX12_rate_135 ?_
        exact dt_iret X dX12_rate_136
      refine dt_tabOut X 137 dX12_rate_24 (dn_out_1_5 h7 h11 h15 h20 h25) (by decide) ?_
      refine dt_aload_n X 0 dX12_rate_137 rfl rfl ?_
      refine dt_iload_n X 2 dX12_rate_138 rfl rfl ?_
      refine dt_callI X (dn_runV X (T := TX12) (N := 35) [.int a2] (dn_h100 hu) rfl rfl (c_X12_bareRate (dn_la g) u hu a2 s4) gX12_rate_X12_bareRate rfl dn_hd_X12_bareRate rfl rfl rfl rfl dX12_rate_139) (fun r32 s30 e31 => ?_)
      exact dt_iret X dX12_rate_142
    · refine dt_ldc X (v := -1000000) dX12_rate_20 (by decide +kernel) ?_
      exact dt_iret X dX12_rate_22
set_option maxRecDepth 100000 in
set_option maxHeartbeats 4000000 in
theorem c_X12_keep (l : Launch) (u : dn_U) (hu : dn_Lu u = dn_LR) (a1 : Int32) (s : dn_S) : dn_Met l u yX12_keep wsX12_keep 1 25 [.ref (dn_a u 100), .int a1] s (m_X12_keep a1 s) (dn_QI u) := by
  refine dt_entry RX12 [(0, .ref (dn_a u 100)), (1, .int a1)] (by decide +kernel) rfl rfl rfl rfl (fun g hgl X => ?_)
  subst hgl
  unfold m_X12_keep
  refine dt_iload_n X 1 dX12_keep_0 rfl rfl ?_
  refine dt_i2l X dX12_keep_1 ?_
  refine dt_lconst X (v := 0) dX12_keep_2 (by decide) ?_
  refine dt_lconst X (v := 1) dX12_keep_3 (by decide) ?_
  refine dt_callZ X (dn_runS X [.long ((a1 : Int32).toInt64), .long 0, .long 1] (c_X12_in (dn_la g) u hu ((a1 : Int32).toInt64) 0 1 s) gX12_keep_X12_in rfl dn_hs_X12_in rfl rfl rfl rfl dX12_keep_4) (fun r3 s1 e2 => ?_)
  refine dt_if_neb X 12 dX12_keep_7 (by decide) ?_ ?_
  · refine dt_aload_n X 0 dX12_keep_12 rfl rfl ?_
    refine dt_iconst X (v := 0) dX12_keep_13 (by decide) ?_
    refine dt_sipush X (v := 240) dX12_keep_14 (by decide) ?_
    refine dt_bipush X (v := 120) dX12_keep_17 (by decide) ?_
    refine dt_iload_n X 1 dX12_keep_19 rfl rfl ?_
    refine dt_imul X dX12_keep_20 ?_
    refine dt_iadd X dX12_keep_21 ?_
    refine dt_callV X (dn_runV X (T := TX12) (N := 35) [.int 0, .int (240 + (120 * a1))] (dn_h100 hu) rfl rfl (c_X12_copy (dn_la g) u hu 0 (240 + (120 * a1)) s1) gX12_keep_X12_copy rfl dn_hd_X12_copy rfl rfl rfl rfl dX12_keep_22) (fun r6 s4 e5 => ?_)
    refine dt_aload_n X 0 dX12_keep_25 rfl rfl ?_
    refine dt_get X (T := TX12) (N := 35) (v := .ref (dn_a u 102)) 2 (dn_h100 hu) rfl dn_in_X12_keep_12 rfl rfl dn_fw_X12_keep_13 rfl dX12_keep_26 ?_
    refine dt_iload_n X 1 dX12_keep_29 rfl rfl ?_
    refine dt_iconst X (v := 1) dX12_keep_30 (by decide) ?_
    refine dt_zast X (v := true) (dn_h102 hu) dX12_keep_31 (fun s7 => ?_)
    refine dt_aload_n X 0 dX12_keep_32 rfl rfl ?_
    refine dt_get X (T := TX12) (N := 35) (v := .ref (dn_a u 101)) 0 (dn_h100 hu) rfl dn_in_X12_keep_12 rfl rfl dn_fw_X12_keep_7 rfl dX12_keep_33 ?_
    refine dt_iconst X (v := 0) dX12_keep_36 (by decide) ?_
    refine dt_iald X (dn_h101 hu) dX12_keep_37 ?_
    exact dt_iret X dX12_keep_38
  · refine dt_iconst X (v := -1) dX12_keep_10 (by decide) ?_
    exact dt_iret X dX12_keep_11
set_option maxRecDepth 100000 in
set_option maxHeartbeats 4000000 in
theorem c_X12_back (l : Launch) (u : dn_U) (hu : dn_Lu u = dn_LR) (a1 : Int32) (s : dn_S) : dn_Met l u yX12_back wsX12_back 1 25 [.ref (dn_a u 100), .int a1] s (m_X12_back a1 s) (dn_QI u) := by
  refine dt_entry RX12 [(0, .ref (dn_a u 100)), (1, .int a1)] (by decide +kernel) rfl rfl rfl rfl (fun g hgl X => ?_)
  subst hgl
  unfold m_X12_back
  refine dt_iload_n X 1 dX12_back_0 rfl rfl ?_
  refine dt_i2l X dX12_back_1 ?_
  refine dt_lconst X (v := 0) dX12_back_2 (by decide) ?_
  refine dt_lconst X (v := 1) dX12_back_3 (by decide) ?_
  refine dt_callZ X (dn_runS X [.long ((a1 : Int32).toInt64), .long 0, .long 1] (c_X12_in (dn_la g) u hu ((a1 : Int32).toInt64) 0 1 s) gX12_back_X12_in rfl dn_hs_X12_in rfl rfl rfl rfl dX12_back_4) (fun r3 s1 e2 => ?_)
  refine dt_if_neb X 12 dX12_back_7 (by decide) ?_ ?_
  · refine dt_aload_n X 0 dX12_back_12 rfl rfl ?_
    refine dt_get X (T := TX12) (N := 35) (v := .ref (dn_a u 102)) 2 (dn_h100 hu) rfl dn_in_X12_back_12 rfl rfl dn_fw_X12_back_13 rfl dX12_back_13 ?_
    refine dt_iload_n X 1 dX12_back_16 rfl rfl ?_
    refine dt_zald X (dn_h102 hu) dX12_back_17 ?_
    refine dt_if_ne X 24 dX12_back_18 (by decide) ?_ ?_
    · refine dt_aload_n X 0 dX12_back_24 rfl rfl ?_
      refine dt_sipush X (v := 240) dX12_back_25 (by decide) ?_
      refine dt_bipush X (v := 120) dX12_back_28 (by decide) ?_
      refine dt_iload_n X 1 dX12_back_30 rfl rfl ?_
      refine dt_imul X dX12_back_31 ?_
      refine dt_iadd X dX12_back_32 ?_
      refine dt_iconst X (v := 0) dX12_back_33 (by decide) ?_
      refine dt_callV X (dn_runV X (T := TX12) (N := 35) [.int (240 + (120 * a1)), .int 0] (dn_h100 hu) rfl rfl (c_X12_copy (dn_la g) u hu (240 + (120 * a1)) 0 s1) gX12_back_X12_copy rfl dn_hd_X12_copy rfl rfl rfl rfl dX12_back_34) (fun r6 s4 e5 => ?_)
      refine dt_aload_n X 0 dX12_back_37 rfl rfl ?_
      refine dt_iconst X (v := 0) dX12_back_38 (by decide) ?_
      refine dt_put X (T := TX12) (N := 35) 1 (dn_h100 hu) rfl dn_in_X12_back_12 rfl tyX12 tyX12_ok nmX12 rfl rfl dn_fw_X12_back_137 rfl rfl (dn_set100_1 _ _ _) dX12_back_39 (fun s7 => ?_)
      refine dt_aload_n X 0 dX12_back_42 rfl rfl ?_
      refine dt_get X (T := TX12) (N := 35) (v := .ref (dn_a u 101)) 0 (dn_h100 hu) rfl dn_in_X12_back_12 rfl rfl dn_fw_X12_back_7 rfl dX12_back_43 ?_
      refine dt_iconst X (v := 0) dX12_back_46 (by decide) ?_
      refine dt_iald X (dn_h101 hu) dX12_back_47 ?_
      exact dt_iret X dX12_back_48
    · refine dt_bipush X (v := -2) dX12_back_21 (by decide) ?_
      exact dt_iret X dX12_back_23
  · refine dt_iconst X (v := -1) dX12_back_10 (by decide) ?_
    exact dt_iret X dX12_back_11
set_option maxRecDepth 100000 in
set_option maxHeartbeats 4000000 in
theorem c_X12_count (l : Launch) (u : dn_U) (hu : dn_Lu u = dn_LR) (a1 : Int32) (s : dn_S) : dn_Met l u yX12_count wsX12_count 0 0 [.ref (dn_a u 100), .int a1] s (m_X12_count a1 s) (dn_QI u) := by
  refine dt_entry RX12 [(0, .ref (dn_a u 100)), (1, .int a1)] (by decide +kernel) rfl rfl rfl rfl (fun g hgl X => ?_)
  subst hgl
  unfold m_X12_count
  refine dt_iload_n X 1 dX12_count_0 rfl rfl ?_
  refine dt_case X (c0 := 0) (fun h1 => ?_) (fun h1 => ?_)
  · refine dt_tabIn X 0 40 dX12_count_1 (by rw [h1]; rfl) rfl rfl rfl (by decide) ?_
    refine dt_aload_n X 0 dX12_count_40 rfl rfl ?_
    refine dt_get X (T := TX12) (N := 35) (v := .int (dn_g s 100 3)) 3 (dn_h100 hu) rfl dn_in_X12_count_12 rfl rfl dn_fw_X12_count_125 rfl dX12_count_41 ?_
    exact dt_iret X dX12_count_44
  refine dt_case X (c0 := 1) (fun h2 => ?_) (fun h2 => ?_)
  · refine dt_tabIn X 1 45 dX12_count_1 (by rw [h2]; rfl) rfl rfl rfl (by decide) ?_
    refine dt_aload_n X 0 dX12_count_45 rfl rfl ?_
    refine dt_get X (T := TX12) (N := 35) (v := .int (dn_g s 100 7)) 7 (dn_h100 hu) rfl dn_in_X12_count_12 rfl rfl dn_fw_X12_count_26 rfl dX12_count_46 ?_
    exact dt_iret X dX12_count_49
  refine dt_case X (c0 := 2) (fun h3 => ?_) (fun h3 => ?_)
  · refine dt_tabIn X 2 50 dX12_count_1 (by rw [h3]; rfl) rfl rfl rfl (by decide) ?_
    refine dt_aload_n X 0 dX12_count_50 rfl rfl ?_
    refine dt_get X (T := TX12) (N := 35) (v := .int (dn_g s 100 8)) 8 (dn_h100 hu) rfl dn_in_X12_count_12 rfl rfl dn_fw_X12_count_128 rfl dX12_count_51 ?_
    exact dt_iret X dX12_count_54
  refine dt_case X (c0 := 3) (fun h4 => ?_) (fun h4 => ?_)
  · refine dt_tabIn X 3 55 dX12_count_1 (by rw [h4]; rfl) rfl rfl rfl (by decide) ?_
    refine dt_aload_n X 0 dX12_count_55 rfl rfl ?_
    refine dt_get X (T := TX12) (N := 35) (v := .int (dn_g s 100 10)) 10 (dn_h100 hu) rfl dn_in_X12_count_12 rfl rfl dn_fw_X12_count_131 rfl dX12_count_56 ?_
    exact dt_iret X dX12_count_59
  refine dt_case X (c0 := 4) (fun h5 => ?_) (fun h5 => ?_)
  · refine dt_tabIn X 4 60 dX12_count_1 (by rw [h5]; rfl) rfl rfl rfl (by decide) ?_
    refine dt_aload_n X 0 dX12_count_60 rfl rfl ?_
    refine dt_get X (T := TX12) (N := 35) (v := .int (dn_g s 100 13)) 13 (dn_h100 hu) rfl dn_in_X12_count_12 rfl rfl dn_fw_X12_count_134 rfl dX12_count_61 ?_
    exact dt_iret X dX12_count_64
  refine dt_case X (c0 := 5) (fun h6 => ?_) (fun h6 => ?_)
  · refine dt_tabIn X 5 65 dX12_count_1 (by rw [h6]; rfl) rfl rfl rfl (by decide) ?_
    refine dt_aload_n X 0 dX12_count_65 rfl rfl ?_
    refine dt_get X (T := TX12) (N := 35) (v := .int (dn_g s 100 17)) 17 (dn_h100 hu) rfl dn_in_X12_count_12 rfl rfl dn_fw_X12_count_72 rfl dX12_count_66 ?_
    exact dt_iret X dX12_count_69
  refine dt_tabOut X 70 dX12_count_1 (dn_out_0_5 h1 h2 h3 h4 h5 h6) (by decide) ?_
  refine dt_iconst X (v := -1) dX12_count_70 (by decide) ?_
  exact dt_iret X dX12_count_71
set_option maxRecDepth 100000 in
set_option maxHeartbeats 4000000 in
theorem c_X12_trace (l : Launch) (u : dn_U) (hu : dn_Lu u = dn_LR) (s : dn_S) : dn_Met l u yX12_trace wsX12_trace 0 0 [.ref (dn_a u 100)] s (m_X12_trace  s) (dn_QJ u) := by
  refine dt_entry RX12 [(0, .ref (dn_a u 100))] (by decide +kernel) rfl rfl rfl rfl (fun g hgl X => ?_)
  subst hgl
  unfold m_X12_trace
  refine dt_aload_n X 0 dX12_trace_0 rfl rfl ?_
  refine dt_get X (T := TX12) (N := 35) (v := .long (dn_l s)) 15 (dn_h100 hu) rfl dn_in_X12_trace_12 rfl rfl dn_fw_X12_trace_233 rfl dX12_trace_1 ?_
  exact dt_lret X dX12_trace_4
