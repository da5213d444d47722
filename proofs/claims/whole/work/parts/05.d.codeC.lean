set_option maxRecDepth 100000 in
set_option maxHeartbeats 4000000 in
theorem b_X4_close_85 {g : dn_M} {u : dn_U} (hu : dn_Lu u = dn_LC) (k1 : Nat) (h1 : dn_isM k1) (X : dn_X u g cX4_close wsX4_close RX4 3 4 93 (some .int)) (s : dn_S) : dn_T u g 3 (dn_QI u) (m_X4_close_85 k1 s) s 85 [(0, .ref (dn_a u 14)), (1, .ref (dn_a u k1))] [] := by
  unfold m_X4_close_85
  refine dt_aload_n X 0 dX4_close_85 rfl rfl ?_
  refine dt_get X (T := TX4) (N := 4) (v := .ref (dn_a u 15)) 1 (dn_h14 hu) rfl dn_in_X4_close_4 rfl rfl dn_fw_X4_close_12 rfl dX4_close_86 ?_
  refine dt_aload_n X 0 dX4_close_89 rfl rfl ?_
  refine dt_get X (T := TX4) (N := 4) (v := .int (dn_g s 14 2)) 2 (dn_h14 hu) rfl dn_in_X4_close_4 rfl rfl dn_fw_X4_close_57 rfl dX4_close_90 ?_
  refine dt_callI X (dn_runV X (T := TX1) (N := 2) [.int (dn_g s 14 2)] (dn_h15 hu) rfl rfl (c_X1_nameOf (dn_la g) u hu (dn_g s 14 2) s) gX4_close_X1_nameOf rfl dn_hd_X1_nameOf rfl rfl rfl rfl dX4_close_93) (fun r3 s1 e2 => ?_)
  refine dt_istore_n X [(2, .int r3), (0, .ref (dn_a u 14)), (1, .ref (dn_a u k1))] dX4_close_96 rfl rfl rfl ?_
  refine dt_aload_n X 1 dX4_close_97 rfl rfl ?_
  refine dt_aload_n X 2 dX4_close_98 rfl rfl ?_
  refine dt_iload_n X 0 dX4_close_99 rfl rfl ?_
  refine dt_callV X (dn_runV X (T := TX4) (N := 4) [.ref (dn_a u k1), .int r3] (dn_h14 hu) rfl rfl (c_X4_callDay (dn_la g) u hu k1 r3 h1 s1) gX4_close_X4_callDay rfl dn_hd_X4_callDay rfl rfl rfl rfl dX4_close_100) (fun r6 s4 e5 => ?_)
  refine dt_iload_n X 0 dX4_close_103 rfl rfl ?_
  exact dt_iret X dX4_close_104
set_option maxRecDepth 100000 in
set_option maxHeartbeats 4000000 in
theorem c_X4_close (l : Launch) (u : dn_U) (hu : dn_Lu u = dn_LC) (k1 : Nat) (h1 : dn_isM k1) (s : dn_S) : dn_Met l u yX4_close wsX4_close 4 93 [.ref (dn_a u 14), .ref (dn_a u k1)] s (m_X4_close k1 s) (dn_QI u) := by
  refine dt_entry RX4 [(0, .ref (dn_a u 14)), (1, .ref (dn_a u k1))] (by decide +kernel) rfl rfl rfl rfl (fun g hgl X => ?_)
  subst hgl
  unfold m_X4_close
  refine dt_aload_n X 0 dX4_close_0 rfl rfl ?_
  refine dt_aload_n X 0 dX4_close_1 rfl rfl ?_
  refine dt_get X (T := TX4) (N := 4) (v := .ref (dn_a u 15)) 1 (dn_h14 hu) rfl dn_in_X4_close_4 rfl rfl dn_fw_X4_close_12 rfl dX4_close_2 ?_
  refine dt_callI X (dn_runV X (T := TX1) (N := 2) [] (dn_h15 hu) rfl rfl (c_X1_winner (dn_la g) u hu s) gX4_close_X1_winner rfl dn_hd_X1_winner rfl rfl rfl rfl dX4_close_5) (fun r3 s1 e2 => ?_)
  refine dt_put X (T := TX4) (N := 4) 2 (dn_h14 hu) rfl dn_in_X4_close_4 rfl tyX4 tyX4_ok nmX4 rfl rfl dn_fw_X4_close_57 rfl rfl (dn_set14_2 _ _ _) dX4_close_8 (fun s4 => ?_)
  refine dt_aload_n X 0 dX4_close_11 rfl rfl ?_
  refine dt_get X (T := TX4) (N := 4) (v := .int (dn_g s4 14 2)) 2 (dn_h14 hu) rfl dn_in_X4_close_4 rfl rfl dn_fw_X4_close_57 rfl dX4_close_12 ?_
  refine dt_bipush X (v := -9) dX4_close_15 (by decide) ?_
  refine dt_icmp_ne X 33 dX4_close_17 (by decide) ?_ ?_
  · refine dt_aload_n X 0 dX4_close_33 rfl rfl ?_
    refine dt_aload_n X 0 dX4_close_34 rfl rfl ?_
    refine dt_get X (T := TX4) (N := 4) (v := .ref (dn_a u 15)) 1 (dn_h14 hu) rfl dn_in_X4_close_4 rfl rfl dn_fw_X4_close_12 rfl dX4_close_35 ?_
    refine dt_aload_n X 0 dX4_close_38 rfl rfl ?_
    refine dt_get X (T := TX4) (N := 4) (v := .int (dn_g s4 14 2)) 2 (dn_h14 hu) rfl dn_in_X4_close_4 rfl rfl dn_fw_X4_close_57 rfl dX4_close_39 ?_
    refine dt_callI X (dn_runV X (T := TX1) (N := 2) [.int (dn_g s4 14 2)] (dn_h15 hu) rfl rfl (c_X1_price (dn_la g) u hu (dn_g s4 14 2) s4) gX4_close_X1_price rfl dn_hd_X1_price rfl rfl rfl rfl dX4_close_42) (fun r7 s5 e6 => ?_)
    refine dt_put X (T := TX4) (N := 4) 3 (dn_h14 hu) rfl dn_in_X4_close_4 rfl tyX4 tyX4_ok nmX4 rfl rfl dn_fw_X4_close_66 rfl rfl (dn_set14_3 _ _ _) dX4_close_45 (fun s8 => ?_)
    refine dt_aload_n X 0 dX4_close_48 rfl rfl ?_
    refine dt_get X (T := TX4) (N := 4) (v := .int (dn_g s8 14 2)) 2 (dn_h14 hu) rfl dn_in_X4_close_4 rfl rfl dn_fw_X4_close_57 rfl dX4_close_49 ?_
    refine dt_iconst X (v := 4) dX4_close_52 (by decide) ?_
    refine dt_icmp_ne X 72 dX4_close_53 (by decide) ?_ ?_
    · refine dt_aload_n X 1 dX4_close_72 rfl rfl ?_
      refine dt_aload_n X 0 dX4_close_73 rfl rfl ?_
      refine dt_get X (T := TX4) (N := 4) (v := .int (dn_g s8 14 2)) 2 (dn_h14 hu) rfl dn_in_X4_close_4 rfl rfl dn_fw_X4_close_57 rfl dX4_close_74 ?_
      refine dt_aload_n X 0 dX4_close_77 rfl rfl ?_
      refine dt_get X (T := TX4) (N := 4) (v := .int (dn_g s8 14 3)) 3 (dn_h14 hu) rfl dn_in_X4_close_4 rfl rfl dn_fw_X4_close_66 rfl dX4_close_78 ?_
      refine dt_ineg X dX4_close_81 ?_
      refine dt_callV X (dn_runV X (T := TX3) (N := 8) [.int (dn_g s8 14 2), .int (-(dn_g s8 14 3))] (dn_hM hu h1) rfl rfl (c_X3_addToPurse (dn_la g) u hu k1 (dn_g s8 14 2) (-(dn_g s8 14 3)) h1 s8) gX4_close_X3_addToPurse rfl dn_hd_X3_addToPurse rfl rfl rfl rfl dX4_close_82) (fun r11 s9 e10 => ?_)
      refine dt_sub X [(0, .ref (dn_a u 14)), (1, .ref (dn_a u k1))] [0, 1] rfl ?_
      exact b_X4_close_85 hu k1 h1 X s9
    · refine dt_aload_n X 1 dX4_close_56 rfl rfl ?_
      refine dt_dup X dX4_close_57 rfl ?_
      refine dt_getN X (T := TX3) (N := 8) (v := .int (dn_g s8 k1 5)) 5 (dn_hM hu h1) rfl dn_in_X4_close_3 rfl rfl dn_fw_X4_close_68 rfl dX4_close_58 ?_
      refine dt_aload_n X 0 dX4_close_61 rfl rfl ?_
      refine dt_get X (T := TX4) (N := 4) (v := .int (dn_g s8 14 3)) 3 (dn_h14 hu) rfl dn_in_X4_close_4 rfl rfl dn_fw_X4_close_66 rfl dX4_close_62 ?_
      refine dt_iadd X dX4_close_65 ?_
      refine dt_putN X (T := TX3) (N := 8) 5 (dn_hM hu h1) rfl dn_in_X4_close_3 rfl tyX3 tyX3_ok nmX3 rfl rfl dn_fw_X4_close_68 rfl rfl (dn_setM_5 _ _ _ _) dX4_close_66 (fun s12 => ?_)
      refine dt_goto X 85 dX4_close_69 (by decide) ?_
      refine dt_sub X [(0, .ref (dn_a u 14)), (1, .ref (dn_a u k1))] [0, 1] rfl ?_
      exact b_X4_close_85 hu k1 h1 X s12
  · refine dt_aload_n X 1 dX4_close_20 rfl rfl ?_
    refine dt_dup X dX4_close_21 rfl ?_
    refine dt_getN X (T := TX3) (N := 8) (v := .int (dn_g s4 k1 4)) 4 (dn_hM hu h1) rfl dn_in_X4_close_3 rfl rfl dn_fw_X4_close_59 rfl dX4_close_22 ?_
    refine dt_iconst X (v := 1) dX4_close_25 (by decide) ?_
    refine dt_iadd X dX4_close_26 ?_
    refine dt_putN X (T := TX3) (N := 8) 4 (dn_hM hu h1) rfl dn_in_X4_close_3 rfl tyX3 tyX3_ok nmX3 rfl rfl dn_fw_X4_close_59 rfl rfl (dn_setM_4 _ _ _ _) dX4_close_27 (fun s13 => ?_)
    refine dt_bipush X (v := -5) dX4_close_30 (by decide) ?_
    exact dt_iret X dX4_close_32
set_option maxRecDepth 100000 in
set_option maxHeartbeats 4000000 in
theorem c_X11_night (l : Launch) (u : dn_U) (hu : dn_Lu u = dn_LC) (s : dn_S) : dn_Met l u yX11_night wsX11_night 5 115 [.ref (dn_a u 0)] s (m_X11_night  s) (dn_QI u) := by
  refine dt_entry RX11 [(0, .ref (dn_a u 0))] (by decide +kernel) rfl rfl rfl rfl (fun g hgl X => ?_)
  subst hgl
  unfold m_X11_night
  refine dt_aload_n X 0 dX11_night_0 rfl rfl ?_
  refine dt_get X (T := TX11) (N := 10) (v := .ref (dn_a u 10)) 3 (dn_h0 hu) rfl dn_in_X11_night_11 rfl rfl dn_fw_X11_night_35 rfl dX11_night_1 ?_
  refine dt_getN X (T := TX3) (N := 8) (v := .int (dn_g s 10 3)) 3 (dn_hM hu dn_M10) rfl dn_in_X11_night_3 rfl rfl dn_fw_X11_night_143 rfl dX11_night_4 ?_
  refine dt_bipush X (v := 60) dX11_night_7 (by decide) ?_
  refine dt_icmp_ge X 24 dX11_night_9 (by decide) ?_ ?_
  · refine dt_bipush X (v := -2) dX11_night_24 (by decide) ?_
    exact dt_iret X dX11_night_26
  · refine dt_aload_n X 0 dX11_night_12 rfl rfl ?_
    refine dt_get X (T := TX11) (N := 10) (v := .ref (dn_a u 10)) 3 (dn_h0 hu) rfl dn_in_X11_night_11 rfl rfl dn_fw_X11_night_35 rfl dX11_night_13 ?_
    refine dt_getN X (T := TX3) (N := 8) (v := .int (dn_g s 10 4)) 4 (dn_hM hu dn_M10) rfl dn_in_X11_night_3 rfl rfl dn_fw_X11_night_165 rfl dX11_night_16 ?_
    refine dt_bipush X (v := 99) dX11_night_19 (by decide) ?_
    refine dt_icmp_lt X 27 dX11_night_21 (by decide) ?_ ?_
    · refine dt_aload_n X 0 dX11_night_27 rfl rfl ?_
      refine dt_get X (T := TX11) (N := 10) (v := .ref (dn_a u 36)) 8 (dn_h0 hu) rfl dn_in_X11_night_11 rfl rfl dn_fw_X11_night_76 rfl dX11_night_28 ?_
      refine dt_aload_n X 0 dX11_night_31 rfl rfl ?_
      refine dt_get X (T := TX11) (N := 10) (v := .ref (dn_a u 10)) 3 (dn_h0 hu) rfl dn_in_X11_night_11 rfl rfl dn_fw_X11_night_35 rfl dX11_night_32 ?_
      refine dt_callV X (dn_runV X (T := TX6) (N := 5) [.ref (dn_a u 10)] (dn_h36 hu) rfl rfl (c_X6_remember (dn_la g) u hu 10 dn_M10 s) gX11_night_X6_remember rfl dn_hd_X6_remember rfl rfl rfl rfl dX11_night_35) (fun r3 s1 e2 => ?_)
      refine dt_aload_n X 0 dX11_night_38 rfl rfl ?_
      refine dt_get X (T := TX11) (N := 10) (v := .ref (dn_a u 14)) 4 (dn_h0 hu) rfl dn_in_X11_night_11 rfl rfl dn_fw_X11_night_44 rfl dX11_night_39 ?_
      refine dt_aload_n X 0 dX11_night_42 rfl rfl ?_
      refine dt_get X (T := TX11) (N := 10) (v := .ref (dn_a u 10)) 3 (dn_h0 hu) rfl dn_in_X11_night_11 rfl rfl dn_fw_X11_night_35 rfl dX11_night_43 ?_
      refine dt_callV X (dn_runV X (T := TX4) (N := 4) [.ref (dn_a u 10)] (dn_h14 hu) rfl rfl (c_X4_open (dn_la g) u hu 10 dn_M10 s1) gX11_night_X4_open rfl dn_hd_X4_open rfl rfl rfl rfl dX11_night_46) (fun r6 s4 e5 => ?_)
      refine dt_aload_n X 0 dX11_night_49 rfl rfl ?_
      refine dt_get X (T := TX11) (N := 10) (v := .ref (dn_a u 14)) 4 (dn_h0 hu) rfl dn_in_X11_night_11 rfl rfl dn_fw_X11_night_44 rfl dX11_night_50 ?_
      refine dt_aload_n X 0 dX11_night_53 rfl rfl ?_
      refine dt_get X (T := TX11) (N := 10) (v := .ref (dn_a u 10)) 3 (dn_h0 hu) rfl dn_in_X11_night_11 rfl rfl dn_fw_X11_night_35 rfl dX11_night_54 ?_
      refine dt_aload_n X 0 dX11_night_57 rfl rfl ?_
      refine dt_get X (T := TX11) (N := 10) (v := .ref (dn_a u 10)) 3 (dn_h0 hu) rfl dn_in_X11_night_11 rfl rfl dn_fw_X11_night_35 rfl dX11_night_58 ?_
      refine dt_getN X (T := TX3) (N := 8) (v := .int (dn_g s4 10 6)) 6 (dn_hM hu dn_M10) rfl dn_in_X11_night_3 rfl rfl dn_fw_X11_night_187 rfl dX11_night_61 ?_
      refine dt_aload_n X 0 dX11_night_64 rfl rfl ?_
      refine dt_get X (T := TX11) (N := 10) (v := .ref (dn_a u 10)) 3 (dn_h0 hu) rfl dn_in_X11_night_11 rfl rfl dn_fw_X11_night_35 rfl dX11_night_65 ?_
      refine dt_getN X (T := TX3) (N := 8) (v := .int (dn_g s4 10 7)) 7 (dn_hM hu dn_M10) rfl dn_in_X11_night_3 rfl rfl dn_fw_X11_night_190 rfl dX11_night_68 ?_
      refine dt_callV X (dn_runV X (T := TX4) (N := 4) [.ref (dn_a u 10), .int (dn_g s4 10 6), .int (dn_g s4 10 7)] (dn_h14 hu) rfl rfl (c_X4_bidOwn (dn_la g) u hu 10 (dn_g s4 10 6) (dn_g s4 10 7) dn_M10 s4) gX11_night_X4_bidOwn rfl dn_hd_X4_bidOwn rfl rfl rfl rfl dX11_night_71) (fun r9 s7 e8 => ?_)
      refine dt_aload_n X 0 dX11_night_74 rfl rfl ?_
      refine dt_get X (T := TX11) (N := 10) (v := .ref (dn_a u 10)) 3 (dn_h0 hu) rfl dn_in_X11_night_11 rfl rfl dn_fw_X11_night_35 rfl dX11_night_75 ?_
      refine dt_callV X (dn_runV X (T := TX3) (N := 8) [] (dn_hM hu dn_M10) rfl rfl (c_X3_dropOwn (dn_la g) u hu 10 dn_M10 s7) gX11_night_X3_dropOwn rfl dn_hd_X3_dropOwn rfl rfl rfl rfl dX11_night_78) (fun r12 s10 e11 => ?_)
      refine dt_aload_n X 0 dX11_night_81 rfl rfl ?_
      refine dt_get X (T := TX11) (N := 10) (v := .ref (dn_a u 14)) 4 (dn_h0 hu) rfl dn_in_X11_night_11 rfl rfl dn_fw_X11_night_44 rfl dX11_night_82 ?_
      refine dt_aload_n X 0 dX11_night_85 rfl rfl ?_
      refine dt_get X (T := TX11) (N := 10) (v := .ref (dn_a u 10)) 3 (dn_h0 hu) rfl dn_in_X11_night_11 rfl rfl dn_fw_X11_night_35 rfl dX11_night_86 ?_
      refine dt_callI X (dn_runV X (T := TX4) (N := 4) [.ref (dn_a u 10)] (dn_h14 hu) rfl rfl (c_X4_close (dn_la g) u hu 10 dn_M10 s10) gX11_night_X4_close rfl dn_hd_X4_close rfl rfl rfl rfl dX11_night_89) (fun r15 s13 e14 => ?_)
      exact dt_iret X dX11_night_92
    · refine dt_bipush X (v := -2) dX11_night_24 (by decide) ?_
      exact dt_iret X dX11_night_26
set_option maxRecDepth 100000 in
set_option maxHeartbeats 4000000 in
theorem c_X11_bids (l : Launch) (u : dn_U) (hu : dn_Lu u = dn_LC) (a1 : Int32) (a2 : Int32) (s : dn_S) : dn_Met l u yX11_bids wsX11_bids 3 65 [.ref (dn_a u 0), .int a1, .int a2] s (m_X11_bids a1 a2 s) (dn_QI u) := by
  refine dt_entry RX11 [(0, .ref (dn_a u 0)), (1, .int a1), (2, .int a2)] (by decide +kernel) rfl rfl rfl rfl (fun g hgl X => ?_)
  subst hgl
  unfold m_X11_bids
  refine dt_iload_n X 1 dX11_bids_0 rfl rfl ?_
  refine dt_callZ X (dn_runS X [.int a1] (c_X11_isName (dn_la g) u hu a1 s) gX11_bids_X11_isName rfl dn_hs_X11_isName rfl rfl rfl rfl dX11_bids_1) (fun r3 s1 e2 => ?_)
  refine dt_if_eqb X 17 dX11_bids_4 (by decide) ?_ ?_
  · refine dt_iconst X (v := -1) dX11_bids_17 (by decide) ?_
    exact dt_iret X dX11_bids_18
  · refine dt_iload_n X 2 dX11_bids_7 rfl rfl ?_
    refine dt_iconst X (v := 1) dX11_bids_8 (by decide) ?_
    refine dt_bipush X (v := 40) dX11_bids_9 (by decide) ?_
    refine dt_callZ X (dn_runS X [.int a2, .int 1, .int 40] (c_X11_within (dn_la g) u hu a2 1 40 s1) gX11_bids_X11_within rfl dn_hs_X11_within rfl rfl rfl rfl dX11_bids_11) (fun r6 s4 e5 => ?_)
    refine dt_if_neb X 19 dX11_bids_14 (by decide) ?_ ?_
    · refine dt_aload_n X 0 dX11_bids_19 rfl rfl ?_
      refine dt_get X (T := TX11) (N := 10) (v := .ref (dn_a u 36)) 8 (dn_h0 hu) rfl dn_in_X11_bids_11 rfl rfl dn_fw_X11_bids_76 rfl dX11_bids_20 ?_
      refine dt_aload_n X 0 dX11_bids_23 rfl rfl ?_
      refine dt_get X (T := TX11) (N := 10) (v := .ref (dn_a u 10)) 3 (dn_h0 hu) rfl dn_in_X11_bids_11 rfl rfl dn_fw_X11_bids_35 rfl dX11_bids_24 ?_
      refine dt_callV X (dn_runV X (T := TX6) (N := 5) [.ref (dn_a u 10)] (dn_h36 hu) rfl rfl (c_X6_remember (dn_la g) u hu 10 dn_M10 s4) gX11_bids_X6_remember rfl dn_hd_X6_remember rfl rfl rfl rfl dX11_bids_27) (fun r9 s7 e8 => ?_)
      refine dt_aload_n X 0 dX11_bids_30 rfl rfl ?_
      refine dt_get X (T := TX11) (N := 10) (v := .ref (dn_a u 10)) 3 (dn_h0 hu) rfl dn_in_X11_bids_11 rfl rfl dn_fw_X11_bids_35 rfl dX11_bids_31 ?_
      refine dt_getN X (T := TX3) (N := 8) (v := .int (dn_g s7 10 6)) 6 (dn_hM hu dn_M10) rfl dn_in_X11_bids_3 rfl rfl dn_fw_X11_bids_187 rfl dX11_bids_34 ?_
      refine dt_let X (fun x10 => ?_)
      refine dt_istore_n X [(3, .int x10), (0, .ref (dn_a u 0)), (1, .int a1), (2, .int a2)] dX11_bids_37 rfl rfl rfl ?_
      refine dt_aload_n X 1 dX11_bids_38 rfl rfl ?_
      refine dt_get X (T := TX11) (N := 10) (v := .ref (dn_a u 10)) 3 (dn_h0 hu) rfl dn_in_X11_bids_11 rfl rfl dn_fw_X11_bids_35 rfl dX11_bids_39 ?_
      refine dt_iload_n X 2 dX11_bids_42 rfl rfl ?_
      refine dt_putN X (T := TX3) (N := 8) 6 (dn_hM hu dn_M10) rfl dn_in_X11_bids_3 rfl tyX3 tyX3_ok nmX3 rfl rfl dn_fw_X11_bids_187 rfl rfl (dn_setM_6 _ _ _ _) dX11_bids_43 (fun s11 => ?_)
      refine dt_aload_n X 1 dX11_bids_46 rfl rfl ?_
      refine dt_get X (T := TX11) (N := 10) (v := .ref (dn_a u 10)) 3 (dn_h0 hu) rfl dn_in_X11_bids_11 rfl rfl dn_fw_X11_bids_35 rfl dX11_bids_47 ?_
      refine dt_iload_n X 3 dX11_bids_50 rfl rfl ?_
      refine dt_putN X (T := TX3) (N := 8) 7 (dn_hM hu dn_M10) rfl dn_in_X11_bids_3 rfl tyX3 tyX3_ok nmX3 rfl rfl dn_fw_X11_bids_190 rfl rfl (dn_setM_7 _ _ _ _) dX11_bids_51 (fun s12 => ?_)
      refine dt_iload_n X 0 dX11_bids_54 rfl rfl ?_
      exact dt_iret X dX11_bids_55
    · refine dt_iconst X (v := -1) dX11_bids_17 (by decide) ?_
      exact dt_iret X dX11_bids_18
set_option maxRecDepth 100000 in
set_option maxHeartbeats 4000000 in
theorem c_X6_stepBack (l : Launch) (u : dn_U) (hu : dn_Lu u = dn_LC) (k1 : Nat) (h1 : dn_isM k1) (s : dn_S) : dn_Met l u yX6_stepBack wsX6_stepBack 2 43 [.ref (dn_a u 36), .ref (dn_a u k1)] s (m_X6_stepBack k1 s) (dn_QZ u) := by
  refine dt_entry RX6 [(0, .ref (dn_a u 36)), (1, .ref (dn_a u k1))] (by decide +kernel) rfl rfl rfl rfl (fun g hgl X => ?_)
  subst hgl
  unfold m_X6_stepBack
  refine dt_aload_n X 0 dX6_stepBack_0 rfl rfl ?_
  refine dt_get X (T := TX6) (N := 5) (v := .int (dn_g s 36 4)) 4 (dn_h36 hu) rfl dn_in_X6_stepBack_6 rfl rfl dn_fw_X6_stepBack_25 rfl dX6_stepBack_1 ?_
  refine dt_if_ne X 9 dX6_stepBack_4 (by decide) ?_ ?_
  · refine dt_aload_n X 0 dX6_stepBack_9 rfl rfl ?_
    refine dt_get X (T := TX6) (N := 5) (v := .int (dn_g s 36 3)) 3 (dn_h36 hu) rfl dn_in_X6_stepBack_6 rfl rfl dn_fw_X6_stepBack_29 rfl dX6_stepBack_10 ?_
    refine dt_bipush X (v := 10) dX6_stepBack_13 (by decide) ?_
    refine dt_iadd X dX6_stepBack_15 ?_
    refine dt_iconst X (v := 1) dX6_stepBack_16 (by decide) ?_
    refine dt_isub X dX6_stepBack_17 ?_
    refine dt_bipush X (v := 10) dX6_stepBack_18 (by decide) ?_
    refine dt_irem X dX6_stepBack_20 ?_
    refine dt_let X (fun x1 => ?_)
    refine dt_istore_n X [(2, .int x1), (0, .ref (dn_a u 36)), (1, .ref (dn_a u k1))] dX6_stepBack_21 rfl rfl rfl ?_
    refine dt_aload_n X 1 dX6_stepBack_22 rfl rfl ?_
    refine dt_get X (T := TX6) (N := 5) (v := .ref (dn_a u 37)) 0 (dn_h36 hu) rfl dn_in_X6_stepBack_6 rfl rfl dn_fw_X6_stepBack_11 rfl dX6_stepBack_23 ?_
    refine dt_iload_n X 0 dX6_stepBack_26 rfl rfl ?_
    refine dt_callR X (dn_runS X [.ref (dn_a u 37), .int x1] (c_X6_momentAt (dn_la g) u hu 37 10 x1 (dn_h37 hu) s) gX6_stepBack_X6_momentAt rfl dn_hs_X6_momentAt rfl rfl rfl rfl dX6_stepBack_27) (fun r4 s2 e3 => ?_)
    refine dt_astore_n X [(3, .ref (dn_a u (dn_rb 37 + 4 * x1.toNatClampNeg))), (2, .int x1), (0, .ref (dn_a u 36)), (1, .ref (dn_a u k1))] dX6_stepBack_30 rfl rfl rfl ?_
    refine dt_aload_n X 0 dX6_stepBack_31 rfl rfl ?_
    refine dt_ifnonnull X 37 dX6_stepBack_32 (by decide) ?_
    refine dt_aload_n X 3 dX6_stepBack_37 rfl rfl ?_
    refine dt_aload_n X 0 dX6_stepBack_38 rfl rfl ?_
    refine dt_callV X (dn_runV X (T := TX3) (N := 8) [.ref (dn_a u (dn_rb 37 + 4 * x1.toNatClampNeg))] (dn_hM hu h1) rfl rfl (c_X3_copyFrom (dn_la g) u hu k1 (dn_rb 37 + 4 * x1.toNatClampNeg) h1 (dn_Mst37 e3) s2) gX6_stepBack_X3_copyFrom rfl dn_hd_X3_copyFrom rfl rfl rfl rfl dX6_stepBack_39) (fun r7 s5 e6 => ?_)
    refine dt_aload_n X 2 dX6_stepBack_42 rfl rfl ?_
    refine dt_iload_n X 1 dX6_stepBack_43 rfl rfl ?_
    refine dt_put X (T := TX6) (N := 5) 3 (dn_h36 hu) rfl dn_in_X6_stepBack_6 rfl tyX6 tyX6_ok nmX6 rfl rfl dn_fw_X6_stepBack_29 rfl rfl (dn_set36_3 _ _ _) dX6_stepBack_44 (fun s8 => ?_)
    refine dt_aload_n X 2 dX6_stepBack_47 rfl rfl ?_
    refine dt_dup X dX6_stepBack_48 rfl ?_
    refine dt_get X (T := TX6) (N := 5) (v := .int (dn_g s8 36 4)) 4 (dn_h36 hu) rfl dn_in_X6_stepBack_6 rfl rfl dn_fw_X6_stepBack_25 rfl dX6_stepBack_49 ?_
    refine dt_iconst X (v := 1) dX6_stepBack_52 (by decide) ?_
    refine dt_isub X dX6_stepBack_53 ?_
    refine dt_put X (T := TX6) (N := 5) 4 (dn_h36 hu) rfl dn_in_X6_stepBack_6 rfl tyX6 tyX6_ok nmX6 rfl rfl dn_fw_X6_stepBack_25 rfl rfl (dn_set36_4 _ _ _) dX6_stepBack_54 (fun s9 => ?_)
    refine dt_iconst X (v := 1) dX6_stepBack_57 (by decide) ?_
    exact dt_zret (v := true) X dX6_stepBack_58
  · refine dt_iconst X (v := 0) dX6_stepBack_7 (by decide) ?_
    exact dt_zret (v := false) X dX6_stepBack_8
set_option maxRecDepth 100000 in
set_option maxHeartbeats 4000000 in
theorem c_X11_undo (l : Launch) (u : dn_U) (hu : dn_Lu u = dn_LC) (s : dn_S) : dn_Met l u yX11_undo wsX11_undo 3 66 [.ref (dn_a u 0)] s (m_X11_undo  s) (dn_QI u) := by
  refine dt_entry RX11 [(0, .ref (dn_a u 0))] (by decide +kernel) rfl rfl rfl rfl (fun g hgl X => ?_)
  subst hgl
  unfold m_X11_undo
  refine dt_aload_n X 0 dX11_undo_0 rfl rfl ?_
  refine dt_get X (T := TX11) (N := 10) (v := .ref (dn_a u 36)) 8 (dn_h0 hu) rfl dn_in_X11_undo_11 rfl rfl dn_fw_X11_undo_76 rfl dX11_undo_1 ?_
  refine dt_aload_n X 0 dX11_undo_4 rfl rfl ?_
  refine dt_get X (T := TX11) (N := 10) (v := .ref (dn_a u 10)) 3 (dn_h0 hu) rfl dn_in_X11_undo_11 rfl rfl dn_fw_X11_undo_35 rfl dX11_undo_5 ?_
  refine dt_callZ X (dn_runV X (T := TX6) (N := 5) [.ref (dn_a u 10)] (dn_h36 hu) rfl rfl (c_X6_stepBack (dn_la g) u hu 10 dn_M10 s) gX11_undo_X6_stepBack rfl dn_hd_X6_stepBack rfl rfl rfl rfl dX11_undo_8) (fun r3 s1 e2 => ?_)
  refine dt_if_eqb X 24 dX11_undo_11 (by decide) ?_ ?_
  · refine dt_bipush X (v := -2) dX11_undo_24 (by decide) ?_
    exact dt_iret X dX11_undo_26
  · refine dt_aload_n X 0 dX11_undo_14 rfl rfl ?_
    refine dt_get X (T := TX11) (N := 10) (v := .ref (dn_a u 36)) 8 (dn_h0 hu) rfl dn_in_X11_undo_11 rfl rfl dn_fw_X11_undo_76 rfl dX11_undo_15 ?_
    refine dt_getN X (T := TX6) (N := 5) (v := .int (dn_g s1 36 4)) 4 (dn_h36 hu) rfl dn_in_X11_undo_6 rfl rfl dn_fw_X11_undo_177 rfl dX11_undo_18 ?_
    refine dt_goto X 26 dX11_undo_21 (by decide) ?_
    exact dt_iret X dX11_undo_26
set_option maxRecDepth 100000 in
set_option maxHeartbeats 4000000 in
theorem b_X5_after_10 {g : dn_M} {u : dn_U} (hu : dn_Lu u = dn_LC) (k1 : Nat) (h1 : dn_isM k1) (X : dn_X u g cX5_after wsX5_after RX5 4 5 115 (some (.object "DayNames$Moment"))) : ∀ (n : Nat) (y2 : Int32) (y3 : Int32) (s : dn_S), dn_T u g 4 (dn_QR u 19) (m_X5_after_10 k1 n y2 y3 s) s 10 [(0, .ref (dn_a u 18)), (2, .int y2), (3, .int y3)] [] := by
  intro n
  induction n with
  | zero =>
    intro y2 y3 s
    exact dt_none X
  | succ n ih =>
    intro y2 y3 s
    rw [m_X5_after_10]
    refine dt_iload_n X 2 dX5_after_10 rfl rfl ?_
    refine dt_iload_n X 1 dX5_after_11 rfl rfl ?_
    refine dt_icmp_gt X 44 dX5_after_12 (by decide) ?_ ?_
    · refine dt_aload_n X 0 dX5_after_44 rfl rfl ?_
      refine dt_get X (T := TX5) (N := 3) (v := .ref (dn_a u 19)) 2 (dn_h18 hu) rfl dn_in_X5_after_5 rfl rfl dn_fw_X5_after_12 rfl dX5_after_45 ?_
      exact dt_rret X dX5_after_48
    · refine dt_aload_n X 0 dX5_after_15 rfl rfl ?_
      refine dt_get X (T := TX5) (N := 3) (v := .ref (dn_a u 14)) 1 (dn_h18 hu) rfl dn_in_X5_after_5 rfl rfl dn_fw_X5_after_22 rfl dX5_after_16 ?_
      refine dt_aload_n X 0 dX5_after_19 rfl rfl ?_
      refine dt_get X (T := TX5) (N := 3) (v := .ref (dn_a u 19)) 2 (dn_h18 hu) rfl dn_in_X5_after_5 rfl rfl dn_fw_X5_after_12 rfl dX5_after_20 ?_
      refine dt_callV X (dn_runV X (T := TX4) (N := 4) [.ref (dn_a u 19)] (dn_h14 hu) rfl rfl (c_X4_open (dn_la g) u hu 19 dn_M19 s) gX5_after_X4_open rfl dn_hd_X4_open rfl rfl rfl rfl dX5_after_23) (fun r3 s1 e2 => ?_)
      refine dt_aload_n X 0 dX5_after_26 rfl rfl ?_
      refine dt_get X (T := TX5) (N := 3) (v := .ref (dn_a u 14)) 1 (dn_h18 hu) rfl dn_in_X5_after_5 rfl rfl dn_fw_X5_after_22 rfl dX5_after_27 ?_
      refine dt_aload_n X 0 dX5_after_30 rfl rfl ?_
      refine dt_get X (T := TX5) (N := 3) (v := .ref (dn_a u 19)) 2 (dn_h18 hu) rfl dn_in_X5_after_5 rfl rfl dn_fw_X5_after_12 rfl dX5_after_31 ?_
      refine dt_callI X (dn_runV X (T := TX4) (N := 4) [.ref (dn_a u 19)] (dn_h14 hu) rfl rfl (c_X4_close (dn_la g) u hu 19 dn_M19 s1) gX5_after_X4_close rfl dn_hd_X4_close rfl rfl rfl rfl dX5_after_34) (fun r6 s4 e5 => ?_)
      refine dt_pop X dX5_after_37 rfl ?_
      refine dt_iinc X (v := y3 + 1) 2 [(3, .int (y3 + 1)), (0, .ref (dn_a u 18)), (2, .int y2)] dX5_after_38 rfl (by rfl) rfl rfl ?_
      refine dt_ilet X rfl (fun x7 => ?_)
      refine dt_goto X 10 dX5_after_41 (by decide) ?_
      refine dt_sub X [(0, .ref (dn_a u 18)), (2, .int y2), (3, .int x7)] [1, 2, 0] rfl ?_
      exact ih y2 x7 s4
set_option maxRecDepth 100000 in
set_option maxHeartbeats 4000000 in
theorem c_X5_after (l : Launch) (u : dn_U) (hu : dn_Lu u = dn_LC) (k1 : Nat) (a2 : Int32) (h1 : dn_isM k1) (s : dn_S) : dn_Met l u yX5_after wsX5_after 5 115 [.ref (dn_a u 18), .ref (dn_a u k1), .int a2] s (m_X5_after k1 a2 s) (dn_QR u 19) := by
  refine dt_entry RX5 [(0, .ref (dn_a u 18)), (1, .ref (dn_a u k1)), (2, .int a2)] (by decide +kernel) rfl rfl rfl rfl (fun g hgl X => ?_)
  subst hgl
  unfold m_X5_after
  refine dt_aload_n X 0 dX5_after_0 rfl rfl ?_
  refine dt_get X (T := TX5) (N := 3) (v := .ref (dn_a u 19)) 2 (dn_h18 hu) rfl dn_in_X5_after_5 rfl rfl dn_fw_X5_after_12 rfl dX5_after_1 ?_
  refine dt_aload_n X 1 dX5_after_4 rfl rfl ?_
  refine dt_callV X (dn_runV X (T := TX3) (N := 8) [.ref (dn_a u k1)] (dn_hM hu dn_M19) rfl rfl (c_X3_copyFrom (dn_la g) u hu 19 k1 dn_M19 h1 s) gX5_after_X3_copyFrom rfl dn_hd_X3_copyFrom rfl rfl rfl rfl dX5_after_5) (fun r3 s1 e2 => ?_)
  refine dt_iconst X (v := 1) dX5_after_8 (by decide) ?_
  refine dt_istore_n X [(3, .int 1), (0, .ref (dn_a u 18)), (1, .ref (dn_a u k1)), (2, .int a2)] dX5_after_9 rfl rfl rfl ?_
  refine dt_sub X [(0, .ref (dn_a u 18)), (2, .int a2), (3, .int 1)] [1, 3, 0] rfl ?_
  exact b_X5_after_10 hu k1 h1 X 2048 a2 1 s1
set_option maxRecDepth 100000 in
set_option maxHeartbeats 4000000 in
theorem c_X11_inNights (l : Launch) (u : dn_U) (hu : dn_Lu u = dn_LC) (a1 : Int32) (a2 : Int32) (s : dn_S) : dn_Met l u yX11_inNights wsX11_inNights 6 138 [.ref (dn_a u 0), .int a1, .int a2] s (m_X11_inNights a1 a2 s) (dn_QI u) := by
  refine dt_entry RX11 [(0, .ref (dn_a u 0)), (1, .int a1), (2, .int a2)] (by decide +kernel) rfl rfl rfl rfl (fun g hgl X => ?_)
  subst hgl
  unfold m_X11_inNights
  refine dt_iload_n X 1 dX11_inNights_0 rfl rfl ?_
  refine dt_iconst X (v := 0) dX11_inNights_1 (by decide) ?_
  refine dt_bipush X (v := 20) dX11_inNights_2 (by decide) ?_
  refine dt_callZ X (dn_runS X [.int a1, .int 0, .int 20] (c_X11_within (dn_la g) u hu a1 0 20 s) gX11_inNights_X11_within rfl dn_hs_X11_within rfl rfl rfl rfl dX11_inNights_4) (fun r3 s1 e2 => ?_)
  refine dt_if_eqb X 19 dX11_inNights_7 (by decide) ?_ ?_
  · refine dt_iconst X (v := -1) dX11_inNights_19 (by decide) ?_
    exact dt_iret X dX11_inNights_20
  · refine dt_iload_n X 2 dX11_inNights_10 rfl rfl ?_
    refine dt_iconst X (v := 0) dX11_inNights_11 (by decide) ?_
    refine dt_iconst X (v := 2) dX11_inNights_12 (by decide) ?_
    refine dt_callZ X (dn_runS X [.int a2, .int 0, .int 2] (c_X11_within (dn_la g) u hu a2 0 2 s1) gX11_inNights_X11_within rfl dn_hs_X11_within rfl rfl rfl rfl dX11_inNights_13) (fun r6 s4 e5 => ?_)
    refine dt_if_neb X 21 dX11_inNights_16 (by decide) ?_ ?_
    · refine dt_aload_n X 0 dX11_inNights_21 rfl rfl ?_
      refine dt_get X (T := TX11) (N := 10) (v := .ref (dn_a u 18)) 5 (dn_h0 hu) rfl dn_in_X11_inNights_11 rfl rfl dn_fw_X11_inNights_53 rfl dX11_inNights_22 ?_
      refine dt_aload_n X 0 dX11_inNights_25 rfl rfl ?_
      refine dt_get X (T := TX11) (N := 10) (v := .ref (dn_a u 10)) 3 (dn_h0 hu) rfl dn_in_X11_inNights_11 rfl rfl dn_fw_X11_inNights_35 rfl dX11_inNights_26 ?_
      refine dt_iload_n X 1 dX11_inNights_29 rfl rfl ?_
      refine dt_callR X (dn_runV X (T := TX5) (N := 3) [.ref (dn_a u 10), .int a1] (dn_h18 hu) rfl rfl (c_X5_after (dn_la g) u hu 10 a1 dn_M10 s4) gX11_inNights_X5_after rfl dn_hd_X5_after rfl rfl rfl rfl dX11_inNights_30) (fun r9 s7 e8 => ?_)
      refine dt_astore_n X [(3, .ref (dn_a u 19)), (0, .ref (dn_a u 0)), (1, .int a1), (2, .int a2)] dX11_inNights_33 rfl rfl rfl ?_
      refine dt_iload_n X 3 dX11_inNights_34 rfl rfl ?_
      refine dt_iconst X (v := 1) dX11_inNights_35 (by decide) ?_
      refine dt_icmp_ne X 44 dX11_inNights_36 (by decide) ?_ ?_
      · refine dt_iload_n X 3 dX11_inNights_44 rfl rfl ?_
        refine dt_iconst X (v := 2) dX11_inNights_45 (by decide) ?_
        refine dt_icmp_ne X 54 dX11_inNights_46 (by decide) ?_ ?_
        · refine dt_aload_n X 0 dX11_inNights_54 rfl rfl ?_
          refine dt_getN X (T := TX3) (N := 8) (v := .int (dn_g s7 19 3)) 3 (dn_hM hu dn_M19) rfl dn_in_X11_inNights_3 rfl rfl dn_fw_X11_inNights_143 rfl dX11_inNights_55 ?_
          refine dt_if_ne X 66 dX11_inNights_58 (by decide) ?_ ?_
          · refine dt_aload_n X 0 dX11_inNights_66 rfl rfl ?_
            refine dt_aload_n X 0 dX11_inNights_67 rfl rfl ?_
            refine dt_getN X (T := TX3) (N := 8) (v := .int (dn_g s7 19 3)) 3 (dn_hM hu dn_M19) rfl dn_in_X11_inNights_3 rfl rfl dn_fw_X11_inNights_143 rfl dX11_inNights_68 ?_
            refine dt_callI X (dn_runV X (T := TX3) (N := 8) [.int (dn_g s7 19 3)] (dn_hM hu dn_M19) rfl rfl (c_X3_nameOfDay (dn_la g) u hu 19 (dn_g s7 19 3) dn_M19 s7) gX11_inNights_X3_nameOfDay rfl dn_hd_X3_nameOfDay rfl rfl rfl rfl dX11_inNights_71) (fun r12 s10 e11 => ?_)
            exact dt_iret X dX11_inNights_74
          · refine dt_bipush X (v := -9) dX11_inNights_61 (by decide) ?_
            refine dt_goto X 74 dX11_inNights_63 (by decide) ?_
            exact dt_iret X dX11_inNights_74
        · refine dt_aload_n X 0 dX11_inNights_49 rfl rfl ?_
          refine dt_callI X (dn_runV X (T := TX3) (N := 8) [] (dn_hM hu dn_M19) rfl rfl (c_X3_defaults (dn_la g) u hu 19 dn_M19 s7) gX11_inNights_X3_defaults rfl dn_hd_X3_defaults rfl rfl rfl rfl dX11_inNights_50) (fun r15 s13 e14 => ?_)
          exact dt_iret X dX11_inNights_53
      · refine dt_aload_n X 0 dX11_inNights_39 rfl rfl ?_
        refine dt_getN X (T := TX3) (N := 8) (v := .int (dn_g s7 19 3)) 3 (dn_hM hu dn_M19) rfl dn_in_X11_inNights_3 rfl rfl dn_fw_X11_inNights_143 rfl dX11_inNights_40 ?_
        exact dt_iret X dX11_inNights_43
    · refine dt_iconst X (v := -1) dX11_inNights_19 (by decide) ?_
      exact dt_iret X dX11_inNights_20
set_option maxRecDepth 100000 in
set_option maxHeartbeats 4000000 in
theorem c_X11_purseIn (l : Launch) (u : dn_U) (hu : dn_Lu u = dn_LC) (a1 : Int32) (a2 : Int32) (s : dn_S) : dn_Met l u yX11_purseIn wsX11_purseIn 6 138 [.ref (dn_a u 0), .int a1, .int a2] s (m_X11_purseIn a1 a2 s) (dn_QI u) := by
  refine dt_entry RX11 [(0, .ref (dn_a u 0)), (1, .int a1), (2, .int a2)] (by decide +kernel) rfl rfl rfl rfl (fun g hgl X => ?_)
  subst hgl
  unfold m_X11_purseIn
  refine dt_aload_n X 0 dX11_purseIn_0 rfl rfl ?_
  refine dt_iload_n X 1 dX11_purseIn_1 rfl rfl ?_
  refine dt_callZ X (dn_runV X (T := TX11) (N := 10) [.int a1] (dn_h0 hu) rfl rfl (c_X11_isBidder (dn_la g) u hu a1 s) gX11_purseIn_X11_isBidder rfl dn_hd_X11_isBidder rfl rfl rfl rfl dX11_purseIn_2) (fun r3 s1 e2 => ?_)
  refine dt_if_eqb X 18 dX11_purseIn_5 (by decide) ?_ ?_
  · refine dt_iconst X (v := -1) dX11_purseIn_18 (by decide) ?_
    exact dt_iret X dX11_purseIn_19
  · refine dt_iload_n X 2 dX11_purseIn_8 rfl rfl ?_
    refine dt_iconst X (v := 0) dX11_purseIn_9 (by decide) ?_
    refine dt_bipush X (v := 20) dX11_purseIn_10 (by decide) ?_
    refine dt_callZ X (dn_runS X [.int a2, .int 0, .int 20] (c_X11_within (dn_la g) u hu a2 0 20 s1) gX11_purseIn_X11_within rfl dn_hs_X11_within rfl rfl rfl rfl dX11_purseIn_12) (fun r6 s4 e5 => ?_)
    refine dt_if_neb X 20 dX11_purseIn_15 (by decide) ?_ ?_
    · refine dt_aload_n X 0 dX11_purseIn_20 rfl rfl ?_
      refine dt_get X (T := TX11) (N := 10) (v := .ref (dn_a u 18)) 5 (dn_h0 hu) rfl dn_in_X11_purseIn_11 rfl rfl dn_fw_X11_purseIn_53 rfl dX11_purseIn_21 ?_
      refine dt_aload_n X 0 dX11_purseIn_24 rfl rfl ?_
      refine dt_get X (T := TX11) (N := 10) (v := .ref (dn_a u 10)) 3 (dn_h0 hu) rfl dn_in_X11_purseIn_11 rfl rfl dn_fw_X11_purseIn_35 rfl dX11_purseIn_25 ?_
      refine dt_iload_n X 2 dX11_purseIn_28 rfl rfl ?_
      refine dt_callR X (dn_runV X (T := TX5) (N := 3) [.ref (dn_a u 10), .int a2] (dn_h18 hu) rfl rfl (c_X5_after (dn_la g) u hu 10 a2 dn_M10 s4) gX11_purseIn_X5_after rfl dn_hd_X5_after rfl rfl rfl rfl dX11_purseIn_29) (fun r9 s7 e8 => ?_)
      refine dt_iload_n X 1 dX11_purseIn_32 rfl rfl ?_
      refine dt_callI X (dn_runV X (T := TX3) (N := 8) [.int a1] (dn_hM hu dn_M19) rfl rfl (c_X3_purse (dn_la g) u hu 19 a1 dn_M19 s7) gX11_purseIn_X3_purse rfl dn_hd_X3_purse rfl rfl rfl rfl dX11_purseIn_33) (fun r12 s10 e11 => ?_)
      exact dt_iret X dX11_purseIn_36
    · refine dt_iconst X (v := -1) dX11_purseIn_18 (by decide) ?_
      exact dt_iret X dX11_purseIn_19
set_option maxRecDepth 100000 in
set_option maxHeartbeats 4000000 in
theorem b_X5_nightDue_21 {g : dn_M} {u : dn_U} (hu : dn_Lu u = dn_LC) (k1 : Nat) (h1 : dn_isM k1) (X : dn_X u g cX5_nightDue wsX5_nightDue RX5 5 5 115 (some .int)) : ∀ (n : Nat) (y2 : Int32) (y3 : Int32) (y4 : Int32) (s : dn_S), dn_T u g 5 (dn_QI u) (m_X5_nightDue_21 k1 n y2 y3 y4 s) s 21 [(0, .ref (dn_a u 18)), (2, .int y2), (3, .int y3), (4, .int y4)] [] := by
  intro n
  induction n with
  | zero =>
    intro y2 y3 y4 s
    exact dt_none X
  | succ n ih =>
    intro y2 y3 y4 s
    rw [m_X5_nightDue_21]
    refine dt_iload X 3 dX5_nightDue_21 rfl ?_
    refine dt_iload_n X 2 dX5_nightDue_23 rfl rfl ?_
    refine dt_icmp_gt X 70 dX5_nightDue_24 (by decide) ?_ ?_
    · refine dt_bipush X (v := -9) dX5_nightDue_70 (by decide) ?_
      exact dt_iret X dX5_nightDue_72
    · refine dt_aload_n X 0 dX5_nightDue_27 rfl rfl ?_
      refine dt_get X (T := TX5) (N := 3) (v := .ref (dn_a u 14)) 1 (dn_h18 hu) rfl dn_in_X5_nightDue_5 rfl rfl dn_fw_X5_nightDue_22 rfl dX5_nightDue_28 ?_
      refine dt_aload_n X 0 dX5_nightDue_31 rfl rfl ?_
      refine dt_get X (T := TX5) (N := 3) (v := .ref (dn_a u 19)) 2 (dn_h18 hu) rfl dn_in_X5_nightDue_5 rfl rfl dn_fw_X5_nightDue_12 rfl dX5_nightDue_32 ?_
      refine dt_callV X (dn_runV X (T := TX4) (N := 4) [.ref (dn_a u 19)] (dn_h14 hu) rfl rfl (c_X4_open (dn_la g) u hu 19 dn_M19 s) gX5_nightDue_X4_open rfl dn_hd_X4_open rfl rfl rfl rfl dX5_nightDue_35) (fun r3 s1 e2 => ?_)
      refine dt_aload_n X 0 dX5_nightDue_38 rfl rfl ?_
      refine dt_get X (T := TX5) (N := 3) (v := .ref (dn_a u 14)) 1 (dn_h18 hu) rfl dn_in_X5_nightDue_5 rfl rfl dn_fw_X5_nightDue_22 rfl dX5_nightDue_39 ?_
      refine dt_aload_n X 0 dX5_nightDue_42 rfl rfl ?_
      refine dt_get X (T := TX5) (N := 3) (v := .ref (dn_a u 19)) 2 (dn_h18 hu) rfl dn_in_X5_nightDue_5 rfl rfl dn_fw_X5_nightDue_12 rfl dX5_nightDue_43 ?_
      refine dt_callI X (dn_runV X (T := TX4) (N := 4) [.ref (dn_a u 19)] (dn_h14 hu) rfl rfl (c_X4_close (dn_la g) u hu 19 dn_M19 s1) gX5_nightDue_X4_close rfl dn_hd_X4_close rfl rfl rfl rfl dX5_nightDue_46) (fun r6 s4 e5 => ?_)
      refine dt_pop X dX5_nightDue_49 rfl ?_
      refine dt_aload_n X 0 dX5_nightDue_50 rfl rfl ?_
      refine dt_get X (T := TX5) (N := 3) (v := .ref (dn_a u 19)) 2 (dn_h18 hu) rfl dn_in_X5_nightDue_5 rfl rfl dn_fw_X5_nightDue_12 rfl dX5_nightDue_51 ?_
      refine dt_iload_n X 1 dX5_nightDue_54 rfl rfl ?_
      refine dt_callI X (dn_runV X (T := TX3) (N := 8) [.int y2] (dn_hM hu dn_M19) rfl rfl (c_X3_howIs (dn_la g) u hu 19 y2 dn_M19 s4) gX5_nightDue_X3_howIs rfl dn_hd_X3_howIs rfl rfl rfl rfl dX5_nightDue_55) (fun r9 s7 e8 => ?_)
      refine dt_if_eq X 64 dX5_nightDue_58 (by decide) ?_ ?_
      · refine dt_iinc X (v := y4 + 1) 3 [(4, .int (y4 + 1)), (0, .ref (dn_a u 18)), (2, .int y2), (3, .int y3)] dX5_nightDue_64 rfl (by rfl) rfl rfl ?_
        refine dt_ilet X rfl (fun x10 => ?_)
        refine dt_goto X 21 dX5_nightDue_67 (by decide) ?_
        refine dt_sub X [(0, .ref (dn_a u 18)), (2, .int y2), (3, .int y3), (4, .int x10)] [1, 2, 3, 0] rfl ?_
        exact ih y2 y3 x10 s7
      · refine dt_iload X 3 dX5_nightDue_61 rfl ?_
        exact dt_iret X dX5_nightDue_63
set_option maxRecDepth 100000 in
set_option maxHeartbeats 4000000 in
theorem c_X5_nightDue (l : Launch) (u : dn_U) (hu : dn_Lu u = dn_LC) (k1 : Nat) (a2 : Int32) (a3 : Int32) (h1 : dn_isM k1) (s : dn_S) : dn_Met l u yX5_nightDue wsX5_nightDue 5 115 [.ref (dn_a u 18), .ref (dn_a u k1), .int a2, .int a3] s (m_X5_nightDue k1 a2 a3 s) (dn_QI u) := by
  refine dt_entry RX5 [(0, .ref (dn_a u 18)), (1, .ref (dn_a u k1)), (2, .int a2), (3, .int a3)] (by decide +kernel) rfl rfl rfl rfl (fun g hgl X => ?_)
  subst hgl
  unfold m_X5_nightDue
  refine dt_aload_n X 1 dX5_nightDue_0 rfl rfl ?_
  refine dt_iload_n X 2 dX5_nightDue_1 rfl rfl ?_
  refine dt_callI X (dn_runV X (T := TX3) (N := 8) [.int a2] (dn_hM hu h1) rfl rfl (c_X3_howIs (dn_la g) u hu k1 a2 h1 s) gX5_nightDue_X3_howIs rfl dn_hd_X3_howIs rfl rfl rfl rfl dX5_nightDue_2) (fun r3 s1 e2 => ?_)
  refine dt_if_eq X 10 dX5_nightDue_5 (by decide) ?_ ?_
  · refine dt_aload_n X 0 dX5_nightDue_10 rfl rfl ?_
    refine dt_get X (T := TX5) (N := 3) (v := .ref (dn_a u 19)) 2 (dn_h18 hu) rfl dn_in_X5_nightDue_5 rfl rfl dn_fw_X5_nightDue_12 rfl dX5_nightDue_11 ?_
    refine dt_aload_n X 1 dX5_nightDue_14 rfl rfl ?_
    refine dt_callV X (dn_runV X (T := TX3) (N := 8) [.ref (dn_a u k1)] (dn_hM hu dn_M19) rfl rfl (c_X3_copyFrom (dn_la g) u hu 19 k1 dn_M19 h1 s1) gX5_nightDue_X3_copyFrom rfl dn_hd_X3_copyFrom rfl rfl rfl rfl dX5_nightDue_15) (fun r6 s4 e5 => ?_)
    refine dt_iconst X (v := 1) dX5_nightDue_18 (by decide) ?_
    refine dt_istore X [(4, .int 1), (0, .ref (dn_a u 18)), (1, .ref (dn_a u k1)), (2, .int a2), (3, .int a3)] dX5_nightDue_19 rfl rfl ?_
    refine dt_sub X [(0, .ref (dn_a u 18)), (2, .int a2), (3, .int a3), (4, .int 1)] [1, 3, 4, 0] rfl ?_
    exact b_X5_nightDue_21 hu k1 h1 X 2048 a2 a3 1 s4
  · refine dt_iconst X (v := 0) dX5_nightDue_8 (by decide) ?_
    exact dt_iret X dX5_nightDue_9
set_option maxRecDepth 100000 in
set_option maxHeartbeats 4000000 in
theorem c_X11_falls (l : Launch) (u : dn_U) (hu : dn_Lu u = dn_LC) (a1 : Int32) (s : dn_S) : dn_Met l u yX11_falls wsX11_falls 6 139 [.ref (dn_a u 0), .int a1] s (m_X11_falls a1 s) (dn_QI u) := by
  refine dt_entry RX11 [(0, .ref (dn_a u 0)), (1, .int a1)] (by decide +kernel) rfl rfl rfl rfl (fun g hgl X => ?_)
  subst hgl
  unfold m_X11_falls
  refine dt_aload_n X 0 dX11_falls_0 rfl rfl ?_
  refine dt_iload_n X 1 dX11_falls_1 rfl rfl ?_
  refine dt_callZ X (dn_runV X (T := TX11) (N := 10) [.int a1] (dn_h0 hu) rfl rfl (c_X11_isDebt (dn_la g) u hu a1 s) gX11_falls_X11_isDebt rfl dn_hd_X11_isDebt rfl rfl rfl rfl dX11_falls_2) (fun r3 s1 e2 => ?_)
  refine dt_if_eqb X 25 dX11_falls_5 (by decide) ?_ ?_
  · refine dt_iconst X (v := -1) dX11_falls_25 (by decide) ?_
    exact dt_iret X dX11_falls_26
  · refine dt_aload_n X 0 dX11_falls_8 rfl rfl ?_
    refine dt_get X (T := TX11) (N := 10) (v := .ref (dn_a u 18)) 5 (dn_h0 hu) rfl dn_in_X11_falls_11 rfl rfl dn_fw_X11_falls_53 rfl dX11_falls_9 ?_
    refine dt_aload_n X 0 dX11_falls_12 rfl rfl ?_
    refine dt_get X (T := TX11) (N := 10) (v := .ref (dn_a u 10)) 3 (dn_h0 hu) rfl dn_in_X11_falls_11 rfl rfl dn_fw_X11_falls_35 rfl dX11_falls_13 ?_
    refine dt_iload_n X 1 dX11_falls_16 rfl rfl ?_
    refine dt_bipush X (v := 40) dX11_falls_17 (by decide) ?_
    refine dt_callI X (dn_runV X (T := TX5) (N := 3) [.ref (dn_a u 10), .int a1, .int 40] (dn_h18 hu) rfl rfl (c_X5_nightDue (dn_la g) u hu 10 a1 40 dn_M10 s1) gX11_falls_X5_nightDue rfl dn_hd_X5_nightDue rfl rfl rfl rfl dX11_falls_19) (fun r6 s4 e5 => ?_)
    refine dt_goto X 26 dX11_falls_22 (by decide) ?_
    exact dt_iret X dX11_falls_26
set_option maxRecDepth 100000 in
set_option maxHeartbeats 4000000 in
theorem c_X1_highest (l : Launch) (u : dn_U) (hu : dn_Lu u = dn_LC) (s : dn_S) : dn_Met l u yX1_highest wsX1_highest 1 23 [.ref (dn_a u 15)] s (m_X1_highest  s) (dn_QI u) := by
  refine dt_entry RX1 [(0, .ref (dn_a u 15))] (by decide +kernel) rfl rfl rfl rfl (fun g hgl X => ?_)
  subst hgl
  unfold m_X1_highest
  refine dt_aload_n X 0 dX1_highest_0 rfl rfl ?_
  refine dt_get X (T := TX1) (N := 2) (v := .ref (dn_a u 17)) 1 (dn_h15 hu) rfl dn_in_X1_highest_1 rfl rfl dn_fw_X1_highest_15 rfl dX1_highest_1 ?_
  refine dt_aload_n X 0 dX1_highest_4 rfl rfl ?_
  refine dt_callI X (dn_runV X (T := TX1) (N := 2) [] (dn_h15 hu) rfl rfl (c_X1_winner (dn_la g) u hu s) gX1_highest_X1_winner rfl dn_hd_X1_winner rfl rfl rfl rfl dX1_highest_5) (fun r3 s1 e2 => ?_)
  refine dt_callI X (dn_runSN X [.ref (dn_a u 17), .int r3] (c_X11_at (dn_la g) u hu 17 5 r3 (dn_h17 hu) s1) gX1_highest_X11_at_n32 rfl dn_nm_X1_highest_32 dn_sw_X1_highest_X11_at_1 dn_sw_X1_highest_X11_at_2 dn_hs_X11_at rfl rfl rfl rfl dX1_highest_8) (fun r6 s4 e5 => ?_)
  exact dt_iret X dX1_highest_11
set_option maxRecDepth 100000 in
set_option maxHeartbeats 4000000 in
theorem c_X4_highestBid (l : Launch) (u : dn_U) (hu : dn_Lu u = dn_LC) (s : dn_S) : dn_Met l u yX4_highestBid wsX4_highestBid 2 43 [.ref (dn_a u 14)] s (m_X4_highestBid  s) (dn_QI u) := by
  refine dt_entry RX4 [(0, .ref (dn_a u 14))] (by decide +kernel) rfl rfl rfl rfl (fun g hgl X => ?_)
  subst hgl
  unfold m_X4_highestBid
  refine dt_aload_n X 0 dX4_highestBid_0 rfl rfl ?_
  refine dt_get X (T := TX4) (N := 4) (v := .ref (dn_a u 15)) 1 (dn_h14 hu) rfl dn_in_X4_highestBid_4 rfl rfl dn_fw_X4_highestBid_12 rfl dX4_highestBid_1 ?_
  refine dt_callI X (dn_runV X (T := TX1) (N := 2) [] (dn_h15 hu) rfl rfl (c_X1_highest (dn_la g) u hu s) gX4_highestBid_X1_highest rfl dn_hd_X1_highest rfl rfl rfl rfl dX4_highestBid_4) (fun r3 s1 e2 => ?_)
  exact dt_iret X dX4_highestBid_7
set_option maxRecDepth 100000 in
set_option maxHeartbeats 4000000 in
theorem b_X5_cheapest_124 {g : dn_M} {u : dn_U} (hu : dn_Lu u = dn_LC) (k1 : Nat) (h1 : dn_isM k1) (X : dn_X u g cX5_cheapest wsX5_cheapest RX5 11 5 115 (some .int)) (K19 : Int32 → Int32 → Int32 → Int32 → Int32 → Int32 → dn_S → Option (Int32 × dn_S)) (H19 : ∀ (y2 : Int32) (y3 : Int32) (y4 : Int32) (y5 : Int32) (y6 : Int32) (y7 : Int32) (s : dn_S), dn_T u g 11 (dn_QI u) (K19 y2 y3 y4 y5 y6 y7 s) s 19 [(0, .ref (dn_a u 18)), (2, .int y2), (3, .int y3), (4, .int y4), (5, .int y5), (6, .int y6), (7, .int y7)] []) (y2 : Int32) (y3 : Int32) (y4 : Int32) (y5 : Int32) (y6 : Int32) (y7 : Int32) (s : dn_S) : dn_T u g 11 (dn_QI u) (m_X5_cheapest_124 k1 K19 y2 y3 y4 y5 y6 y7 s) s 124 [(0, .ref (dn_a u 18)), (2, .int y2), (3, .int y3), (4, .int y4), (5, .int y5), (6, .int y6), (7, .int y7)] [] := by
  unfold m_X5_cheapest_124
  refine dt_iinc X (v := y7 + 1) 6 [(7, .int (y7 + 1)), (0, .ref (dn_a u 18)), (2, .int y2), (3, .int y3), (4, .int y4), (5, .int y5), (6, .int y6)] dX5_cheapest_124 rfl (by rfl) rfl rfl ?_
  refine dt_ilet X rfl (fun x1 => ?_)
  refine dt_goto X 19 dX5_cheapest_127 (by decide) ?_
  refine dt_sub X [(0, .ref (dn_a u 18)), (2, .int y2), (3, .int y3), (4, .int y4), (5, .int y5), (6, .int y6), (7, .int x1)] [1, 2, 3, 4, 5, 6, 0] rfl ?_
  exact H19 y2 y3 y4 y5 y6 x1 s
set_option maxRecDepth 100000 in
set_option maxHeartbeats 4000000 in
theorem b_X5_cheapest_116 {g : dn_M} {u : dn_U} (hu : dn_Lu u = dn_LC) (k1 : Nat) (h1 : dn_isM k1) (X : dn_X u g cX5_cheapest wsX5_cheapest RX5 11 5 115 (some .int)) (K19 : Int32 → Int32 → Int32 → Int32 → Int32 → Int32 → dn_S → Option (Int32 × dn_S)) (H19 : ∀ (y2 : Int32) (y3 : Int32) (y4 : Int32) (y5 : Int32) (y6 : Int32) (y7 : Int32) (s : dn_S), dn_T u g 11 (dn_QI u) (K19 y2 y3 y4 y5 y6 y7 s) s 19 [(0, .ref (dn_a u 18)), (2, .int y2), (3, .int y3), (4, .int y4), (5, .int y5), (6, .int y6), (7, .int y7)] []) (y2 : Int32) (y3 : Int32) (y4 : Int32) (y7 : Int32) (y10 : Int32) (s : dn_S) : dn_T u g 11 (dn_QI u) (m_X5_cheapest_116 k1 K19 y2 y3 y4 y7 y10 s) s 116 [(0, .ref (dn_a u 18)), (2, .int y2), (3, .int y3), (4, .int y4), (7, .int y7), (10, .int y10)] [] := by
  unfold m_X5_cheapest_116
  refine dt_iload X 4 dX5_cheapest_116 rfl ?_
  refine dt_istore X [(5, .int y7), (0, .ref (dn_a u 18)), (2, .int y2), (3, .int y3), (4, .int y4), (7, .int y7), (10, .int y10)] dX5_cheapest_118 rfl rfl ?_
  refine dt_iload X 6 dX5_cheapest_120 rfl ?_
  refine dt_istore X [(6, .int y10), (5, .int y7), (0, .ref (dn_a u 18)), (2, .int y2), (3, .int y3), (4, .int y4), (7, .int y7), (10, .int y10)] dX5_cheapest_122 rfl rfl ?_
  refine dt_sub X [(0, .ref (dn_a u 18)), (2, .int y2), (3, .int y3), (4, .int y4), (5, .int y7), (6, .int y10), (7, .int y7)] [2, 3, 4, 5, 1, 0, 6] rfl ?_
  exact b_X5_cheapest_124 hu k1 h1 X K19 H19 y2 y3 y4 y7 y10 y7 s
set_option maxRecDepth 100000 in
set_option maxHeartbeats 4000000 in
theorem b_X5_cheapest_85 {g : dn_M} {u : dn_U} (hu : dn_Lu u = dn_LC) (k1 : Nat) (h1 : dn_isM k1) (X : dn_X u g cX5_cheapest wsX5_cheapest RX5 11 5 115 (some .int)) (K19 : Int32 → Int32 → Int32 → Int32 → Int32 → Int32 → dn_S → Option (Int32 × dn_S)) (H19 : ∀ (y2 : Int32) (y3 : Int32) (y4 : Int32) (y5 : Int32) (y6 : Int32) (y7 : Int32) (s : dn_S), dn_T u g 11 (dn_QI u) (K19 y2 y3 y4 y5 y6 y7 s) s 19 [(0, .ref (dn_a u 18)), (2, .int y2), (3, .int y3), (4, .int y4), (5, .int y5), (6, .int y6), (7, .int y7)] []) (y2 : Int32) (y3 : Int32) (y4 : Int32) (y5 : Int32) (y6 : Int32) (y7 : Int32) (y8 : Bool) (z0 : Int32) (s : dn_S) : dn_T u g 11 (dn_QI u) (m_X5_cheapest_85 k1 K19 y2 y3 y4 y5 y6 y7 y8 z0 s) s 85 [(0, .ref (dn_a u 18)), (2, .int y2), (3, .int y3), (4, .int y4), (5, .int y5), (6, .int y6), (7, .int y7), (8, .int (dn_b y8))] [.int z0] := by
  unfold m_X5_cheapest_85
  refine dt_istore X [(10, .int z0), (0, .ref (dn_a u 18)), (2, .int y2), (3, .int y3), (4, .int y4), (5, .int y5), (6, .int y6), (7, .int y7), (8, .int (dn_b y8))] dX5_cheapest_85 rfl rfl ?_
  refine dt_iload X 8 dX5_cheapest_87 rfl ?_
  refine dt_if_neb X 124 dX5_cheapest_89 (by decide) ?_ ?_
  · refine dt_sub X [(0, .ref (dn_a u 18)), (2, .int y2), (3, .int y3), (4, .int y4), (5, .int y5), (6, .int y6), (7, .int y7)] [1, 2, 3, 4, 5, 6, 7] rfl ?_
    exact b_X5_cheapest_124 hu k1 h1 X K19 H19 y2 y3 y4 y5 y6 y7 s
  · refine dt_iload X 0 dX5_cheapest_92 rfl ?_
    refine dt_bipush X (v := 40) dX5_cheapest_94 (by decide) ?_
    refine dt_icmp_le X 102 dX5_cheapest_96 (by decide) ?_ ?_
    · refine dt_iload X 5 dX5_cheapest_102 rfl ?_
      refine dt_bipush X (v := -9) dX5_cheapest_104 (by decide) ?_
      refine dt_icmp_eq X 116 dX5_cheapest_106 (by decide) ?_ ?_
      · refine dt_sub X [(0, .ref (dn_a u 18)), (2, .int y2), (3, .int y3), (4, .int y4), (7, .int y7), (10, .int z0)] [1, 2, 3, 4, 7, 0] rfl ?_
        exact b_X5_cheapest_116 hu k1 h1 X K19 H19 y2 y3 y4 y7 z0 s
      · refine dt_iload X 0 dX5_cheapest_109 rfl ?_
        refine dt_iload X 6 dX5_cheapest_111 rfl ?_
        refine dt_icmp_ge X 124 dX5_cheapest_113 (by decide) ?_ ?_
        · refine dt_sub X [(0, .ref (dn_a u 18)), (2, .int y2), (3, .int y3), (4, .int y4), (5, .int y5), (6, .int y6), (7, .int y7)] [1, 2, 3, 4, 5, 6, 7] rfl ?_
          exact b_X5_cheapest_124 hu k1 h1 X K19 H19 y2 y3 y4 y5 y6 y7 s
        · refine dt_sub X [(0, .ref (dn_a u 18)), (2, .int y2), (3, .int y3), (4, .int y4), (7, .int y7), (10, .int z0)] [1, 2, 3, 4, 7, 0] rfl ?_
          exact b_X5_cheapest_116 hu k1 h1 X K19 H19 y2 y3 y4 y7 z0 s
    · refine dt_goto X 124 dX5_cheapest_99 (by decide) ?_
      refine dt_sub X [(0, .ref (dn_a u 18)), (2, .int y2), (3, .int y3), (4, .int y4), (5, .int y5), (6, .int y6), (7, .int y7)] [1, 2, 3, 4, 5, 6, 7] rfl ?_
      exact b_X5_cheapest_124 hu k1 h1 X K19 H19 y2 y3 y4 y5 y6 y7 s
set_option maxRecDepth 100000 in
set_option maxHeartbeats 4000000 in
theorem b_X5_cheapest_19 {g : dn_M} {u : dn_U} (hu : dn_Lu u = dn_LC) (k1 : Nat) (h1 : dn_isM k1) (X : dn_X u g cX5_cheapest wsX5_cheapest RX5 11 5 115 (some .int)) : ∀ (n : Nat) (y2 : Int32) (y3 : Int32) (y4 : Int32) (y5 : Int32) (y6 : Int32) (y7 : Int32) (s : dn_S), dn_T u g 11 (dn_QI u) (m_X5_cheapest_19 k1 n y2 y3 y4 y5 y6 y7 s) s 19 [(0, .ref (dn_a u 18)), (2, .int y2), (3, .int y3), (4, .int y4), (5, .int y5), (6, .int y6), (7, .int y7)] [] := by
  intro n
  induction n with
  | zero =>
    intro y2 y3 y4 y5 y6 y7 s
    exact dt_none X
  | succ n ih =>
    intro y2 y3 y4 y5 y6 y7 s
    rw [m_X5_cheapest_19]
    refine dt_iload X 6 dX5_cheapest_19 rfl ?_
    refine dt_iload_n X 2 dX5_cheapest_21 rfl rfl ?_
    refine dt_icmp_gt X 130 dX5_cheapest_22 (by decide) ?_ ?_
    · refine dt_iload X 3 dX5_cheapest_130 rfl ?_
      refine dt_if_ne X 140 dX5_cheapest_132 (by decide) ?_ ?_
      · refine dt_iload X 5 dX5_cheapest_140 rfl ?_
        exact dt_iret X dX5_cheapest_142
      · refine dt_iload X 4 dX5_cheapest_135 rfl ?_
        refine dt_goto X 142 dX5_cheapest_137 (by decide) ?_
        exact dt_iret X dX5_cheapest_142
    · refine dt_aload_n X 0 dX5_cheapest_25 rfl rfl ?_
      refine dt_get X (T := TX5) (N := 3) (v := .ref (dn_a u 19)) 2 (dn_h18 hu) rfl dn_in_X5_cheapest_5 rfl rfl dn_fw_X5_cheapest_12 rfl dX5_cheapest_26 ?_
      refine dt_iload_n X 1 dX5_cheapest_29 rfl rfl ?_
      refine dt_aload_n X 0 dX5_cheapest_30 rfl rfl ?_
      refine dt_get X (T := TX5) (N := 3) (v := .ref (dn_a u 3)) 0 (dn_h18 hu) rfl dn_in_X5_cheapest_5 rfl rfl dn_fw_X5_cheapest_18 rfl dX5_cheapest_31 ?_
      refine dt_getN X (T := TX10) (N := 5) (v := .int (dn_g s 3 4)) 4 (dn_hT hu dn_T3) rfl dn_in_X5_cheapest_10 rfl rfl dn_fw_X5_cheapest_43 rfl dX5_cheapest_34 ?_
      refine dt_callZ X (dn_runV X (T := TX3) (N := 8) [.int y2, .int (dn_g s 3 4)] (dn_hM hu dn_M19) rfl rfl (c_X3_isBarred (dn_la g) u hu 19 y2 (dn_g s 3 4) dn_M19 s) gX5_cheapest_X3_isBarred rfl dn_hd_X3_isBarred rfl rfl rfl rfl dX5_cheapest_37) (fun r3 s1 e2 => ?_)
      refine dt_istore X [(8, .int (dn_b r3)), (0, .ref (dn_a u 18)), (2, .int y2), (3, .int y3), (4, .int y4), (5, .int y5), (6, .int y6), (7, .int y7)] dX5_cheapest_40 rfl rfl ?_
      refine dt_aload_n X 1 dX5_cheapest_42 rfl rfl ?_
      refine dt_get X (T := TX5) (N := 3) (v := .ref (dn_a u 14)) 1 (dn_h18 hu) rfl dn_in_X5_cheapest_5 rfl rfl dn_fw_X5_cheapest_22 rfl dX5_cheapest_43 ?_
      refine dt_aload_n X 1 dX5_cheapest_46 rfl rfl ?_
      refine dt_get X (T := TX5) (N := 3) (v := .ref (dn_a u 19)) 2 (dn_h18 hu) rfl dn_in_X5_cheapest_5 rfl rfl dn_fw_X5_cheapest_12 rfl dX5_cheapest_47 ?_
      refine dt_callV X (dn_runV X (T := TX4) (N := 4) [.ref (dn_a u 19)] (dn_h14 hu) rfl rfl (c_X4_open (dn_la g) u hu 19 dn_M19 s1) gX5_cheapest_X4_open rfl dn_hd_X4_open rfl rfl rfl rfl dX5_cheapest_50) (fun r6 s4 e5 => ?_)
      refine dt_aload_n X 1 dX5_cheapest_53 rfl rfl ?_
      refine dt_get X (T := TX5) (N := 3) (v := .ref (dn_a u 14)) 1 (dn_h18 hu) rfl dn_in_X5_cheapest_5 rfl rfl dn_fw_X5_cheapest_22 rfl dX5_cheapest_54 ?_
      refine dt_callI X (dn_runV X (T := TX4) (N := 4) [] (dn_h14 hu) rfl rfl (c_X4_highestBid (dn_la g) u hu s4) gX5_cheapest_X4_highestBid rfl dn_hd_X4_highestBid rfl rfl rfl rfl dX5_cheapest_57) (fun r9 s7 e8 => ?_)
      refine dt_iconst X (v := 1) dX5_cheapest_60 (by decide) ?_
      refine dt_iadd X dX5_cheapest_61 ?_
      refine dt_let X (fun x10 => ?_)
      refine dt_istore X [(9, .int x10), (8, .int (dn_b r3)), (0, .ref (dn_a u 18)), (2, .int y2), (3, .int y3), (4, .int y4), (5, .int y5), (6, .int y6), (7, .int y7)] dX5_cheapest_62 rfl rfl ?_
      refine dt_aload_n X 2 dX5_cheapest_64 rfl rfl ?_
      refine dt_get X (T := TX5) (N := 3) (v := .ref (dn_a u 14)) 1 (dn_h18 hu) rfl dn_in_X5_cheapest_5 rfl rfl dn_fw_X5_cheapest_22 rfl dX5_cheapest_65 ?_
      refine dt_aload_n X 2 dX5_cheapest_68 rfl rfl ?_
      refine dt_get X (T := TX5) (N := 3) (v := .ref (dn_a u 19)) 2 (dn_h18 hu) rfl dn_in_X5_cheapest_5 rfl rfl dn_fw_X5_cheapest_12 rfl dX5_cheapest_69 ?_
      refine dt_callI X (dn_runV X (T := TX4) (N := 4) [.ref (dn_a u 19)] (dn_h14 hu) rfl rfl (c_X4_close (dn_la g) u hu 19 dn_M19 s7) gX5_cheapest_X4_close rfl dn_hd_X4_close rfl rfl rfl rfl dX5_cheapest_72) (fun r13 s11 e12 => ?_)
      refine dt_iload_n X 3 dX5_cheapest_75 rfl rfl ?_
      refine dt_icmp_ne X 83 dX5_cheapest_76 (by decide) ?_ ?_
      · refine dt_iload X 0 dX5_cheapest_83 rfl ?_
        refine dt_sub X [(0, .ref (dn_a u 18)), (2, .int y2), (3, .int y3), (4, .int y4), (5, .int y5), (6, .int y6), (7, .int y7), (8, .int (dn_b r3))] [2, 3, 4, 5, 6, 7, 8, 1] rfl ?_
        exact b_X5_cheapest_85 hu k1 h1 X (m_X5_cheapest_19 k1 n) ih y2 y3 y4 y5 y6 y7 r3 x10 s11
      · refine dt_iconst X (v := 0) dX5_cheapest_79 (by decide) ?_
        refine dt_goto X 85 dX5_cheapest_80 (by decide) ?_
        refine dt_sub X [(0, .ref (dn_a u 18)), (2, .int y2), (3, .int y3), (4, .int y4), (5, .int y5), (6, .int y6), (7, .int y7), (8, .int (dn_b r3))] [2, 3, 4, 5, 6, 7, 8, 1] rfl ?_
        exact b_X5_cheapest_85 hu k1 h1 X (m_X5_cheapest_19 k1 n) ih y2 y3 y4 y5 y6 y7 r3 0 s11
set_option maxRecDepth 100000 in
set_option maxHeartbeats 4000000 in
theorem c_X5_cheapest (l : Launch) (u : dn_U) (hu : dn_Lu u = dn_LC) (k1 : Nat) (a2 : Int32) (a3 : Int32) (a4 : Int32) (h1 : dn_isM k1) (s : dn_S) : dn_Met l u yX5_cheapest wsX5_cheapest 5 115 [.ref (dn_a u 18), .ref (dn_a u k1), .int a2, .int a3, .int a4] s (m_X5_cheapest k1 a2 a3 a4 s) (dn_QI u) := by
  refine dt_entry RX5 [(0, .ref (dn_a u 18)), (1, .ref (dn_a u k1)), (2, .int a2), (3, .int a3), (4, .int a4)] (by decide +kernel) rfl rfl rfl rfl (fun g hgl X => ?_)
  subst hgl
  unfold m_X5_cheapest
  refine dt_bipush X (v := -9) dX5_cheapest_0 (by decide) ?_
  refine dt_istore X [(5, .int (-9)), (0, .ref (dn_a u 18)), (1, .ref (dn_a u k1)), (2, .int a2), (3, .int a3), (4, .int a4)] dX5_cheapest_2 rfl rfl ?_
  refine dt_bipush X (v := -9) dX5_cheapest_4 (by decide) ?_
  refine dt_istore X [(6, .int (-9)), (5, .int (-9)), (0, .ref (dn_a u 18)), (1, .ref (dn_a u k1)), (2, .int a2), (3, .int a3), (4, .int a4)] dX5_cheapest_6 rfl rfl ?_
  refine dt_aload_n X 2 dX5_cheapest_8 rfl rfl ?_
  refine dt_get X (T := TX5) (N := 3) (v := .ref (dn_a u 19)) 2 (dn_h18 hu) rfl dn_in_X5_cheapest_5 rfl rfl dn_fw_X5_cheapest_12 rfl dX5_cheapest_9 ?_
  refine dt_aload_n X 3 dX5_cheapest_12 rfl rfl ?_
  refine dt_callV X (dn_runV X (T := TX3) (N := 8) [.ref (dn_a u k1)] (dn_hM hu dn_M19) rfl rfl (c_X3_copyFrom (dn_la g) u hu 19 k1 dn_M19 h1 s) gX5_cheapest_X3_copyFrom rfl dn_hd_X3_copyFrom rfl rfl rfl rfl dX5_cheapest_13) (fun r3 s1 e2 => ?_)
  refine dt_iconst X (v := 1) dX5_cheapest_16 (by decide) ?_
  refine dt_istore X [(7, .int 1), (6, .int (-9)), (5, .int (-9)), (0, .ref (dn_a u 18)), (1, .ref (dn_a u k1)), (2, .int a2), (3, .int a3), (4, .int a4)] dX5_cheapest_17 rfl rfl ?_
  refine dt_sub X [(0, .ref (dn_a u 18)), (2, .int a2), (3, .int a3), (4, .int a4), (5, .int (-9)), (6, .int (-9)), (7, .int 1)] [3, 5, 6, 7, 2, 1, 0] rfl ?_
  exact b_X5_cheapest_19 hu k1 h1 X 2048 a2 a3 a4 (-9) (-9) 1 s1
set_option maxRecDepth 100000 in
set_option maxHeartbeats 4000000 in
theorem c_X11_buy (l : Launch) (u : dn_U) (hu : dn_Lu u = dn_LC) (a1 : Int32) (a2 : Int32) (a3 : Int32) (s : dn_S) : dn_Met l u yX11_buy wsX11_buy 6 145 [.ref (dn_a u 0), .int a1, .int a2, .int a3] s (m_X11_buy a1 a2 a3 s) (dn_QI u) := by
  refine dt_entry RX11 [(0, .ref (dn_a u 0)), (1, .int a1), (2, .int a2), (3, .int a3)] (by decide +kernel) rfl rfl rfl rfl (fun g hgl X => ?_)
  subst hgl
  unfold m_X11_buy
  refine dt_iload_n X 1 dX11_buy_0 rfl rfl ?_
  refine dt_callZ X (dn_runS X [.int a1] (c_X11_isName (dn_la g) u hu a1 s) gX11_buy_X11_isName rfl dn_hs_X11_isName rfl rfl rfl rfl dX11_buy_1) (fun r3 s1 e2 => ?_)
  refine dt_if_eqb X 26 dX11_buy_4 (by decide) ?_ ?_
  · refine dt_iconst X (v := -1) dX11_buy_26 (by decide) ?_
    exact dt_iret X dX11_buy_27
  · refine dt_iload_n X 2 dX11_buy_7 rfl rfl ?_
    refine dt_iconst X (v := 1) dX11_buy_8 (by decide) ?_
    refine dt_bipush X (v := 10) dX11_buy_9 (by decide) ?_
    refine dt_callZ X (dn_runS X [.int a2, .int 1, .int 10] (c_X11_within (dn_la g) u hu a2 1 10 s1) gX11_buy_X11_within rfl dn_hs_X11_within rfl rfl rfl rfl dX11_buy_11) (fun r6 s4 e5 => ?_)
    refine dt_if_eqb X 26 dX11_buy_14 (by decide) ?_ ?_
    · refine dt_iconst X (v := -1) dX11_buy_26 (by decide) ?_
      exact dt_iret X dX11_buy_27
    · refine dt_iload_n X 3 dX11_buy_17 rfl rfl ?_
      refine dt_iconst X (v := 0) dX11_buy_18 (by decide) ?_
      refine dt_iconst X (v := 1) dX11_buy_19 (by decide) ?_
      refine dt_callZ X (dn_runS X [.int a3, .int 0, .int 1] (c_X11_within (dn_la g) u hu a3 0 1 s4) gX11_buy_X11_within rfl dn_hs_X11_within rfl rfl rfl rfl dX11_buy_20) (fun r9 s7 e8 => ?_)
      refine dt_if_neb X 28 dX11_buy_23 (by decide) ?_ ?_
      · refine dt_aload_n X 0 dX11_buy_28 rfl rfl ?_
        refine dt_get X (T := TX11) (N := 10) (v := .ref (dn_a u 18)) 5 (dn_h0 hu) rfl dn_in_X11_buy_11 rfl rfl dn_fw_X11_buy_53 rfl dX11_buy_29 ?_
        refine dt_aload_n X 0 dX11_buy_32 rfl rfl ?_
        refine dt_get X (T := TX11) (N := 10) (v := .ref (dn_a u 10)) 3 (dn_h0 hu) rfl dn_in_X11_buy_11 rfl rfl dn_fw_X11_buy_35 rfl dX11_buy_33 ?_
        refine dt_iload_n X 1 dX11_buy_36 rfl rfl ?_
        refine dt_iload_n X 2 dX11_buy_37 rfl rfl ?_
        refine dt_iload_n X 3 dX11_buy_38 rfl rfl ?_
        refine dt_callI X (dn_runV X (T := TX5) (N := 3) [.ref (dn_a u 10), .int a1, .int a2, .int a3] (dn_h18 hu) rfl rfl (c_X5_cheapest (dn_la g) u hu 10 a1 a2 a3 dn_M10 s7) gX11_buy_X5_cheapest rfl dn_hd_X5_cheapest rfl rfl rfl rfl dX11_buy_39) (fun r12 s10 e11 => ?_)
        exact dt_iret X dX11_buy_42
      · refine dt_iconst X (v := -1) dX11_buy_26 (by decide) ?_
        exact dt_iret X dX11_buy_27
set_option maxRecDepth 100000 in
set_option maxHeartbeats 4000000 in
theorem b_X5_holding_87 {g : dn_M} {u : dn_U} (hu : dn_Lu u = dn_LC) (k1 : Nat) (h1 : dn_isM k1) (X : dn_X u g cX5_holding wsX5_holding RX5 8 5 115 (some .int)) (K14 : Int32 → Int32 → Int32 → Int32 → Int32 → dn_S → Option (Int32 × dn_S)) (H14 : ∀ (y2 : Int32) (y3 : Int32) (y4 : Int32) (y5 : Int32) (y6 : Int32) (s : dn_S), dn_T u g 8 (dn_QI u) (K14 y2 y3 y4 y5 y6 s) s 14 [(0, .ref (dn_a u 18)), (1, .ref (dn_a u k1)), (2, .int y2), (3, .int y3), (4, .int y4), (5, .int y5), (6, .int y6)] []) (y2 : Int32) (y3 : Int32) (y4 : Int32) (y5 : Int32) (y6 : Int32) (s : dn_S) : dn_T u g 8 (dn_QI u) (m_X5_holding_87 k1 K14 y2 y3 y4 y5 y6 s) s 87 [(0, .ref (dn_a u 18)), (1, .ref (dn_a u k1)), (2, .int y2), (3, .int y3), (4, .int y4), (5, .int y5), (6, .int y6)] [] := by
  unfold m_X5_holding_87
  refine dt_aload_n X 0 dX5_holding_87 rfl rfl ?_
  refine dt_get X (T := TX5) (N := 3) (v := .ref (dn_a u 14)) 1 (dn_h18 hu) rfl dn_in_X5_holding_5 rfl rfl dn_fw_X5_holding_22 rfl dX5_holding_88 ?_
  refine dt_aload_n X 0 dX5_holding_91 rfl rfl ?_
  refine dt_get X (T := TX5) (N := 3) (v := .ref (dn_a u 19)) 2 (dn_h18 hu) rfl dn_in_X5_holding_5 rfl rfl dn_fw_X5_holding_12 rfl dX5_holding_92 ?_
  refine dt_callI X (dn_runV X (T := TX4) (N := 4) [.ref (dn_a u 19)] (dn_h14 hu) rfl rfl (c_X4_close (dn_la g) u hu 19 dn_M19 s) gX5_holding_X4_close rfl dn_hd_X4_close rfl rfl rfl rfl dX5_holding_95) (fun r3 s1 e2 => ?_)
  refine dt_pop X dX5_holding_98 rfl ?_
  refine dt_iinc X (v := y6 + 1) 6 [(6, .int (y6 + 1)), (0, .ref (dn_a u 18)), (1, .ref (dn_a u k1)), (2, .int y2), (3, .int y3), (4, .int y4), (5, .int y5)] dX5_holding_99 rfl (by rfl) rfl rfl ?_
  refine dt_ilet X rfl (fun x4 => ?_)
  refine dt_goto X 14 dX5_holding_102 (by decide) ?_
  refine dt_sub X [(0, .ref (dn_a u 18)), (1, .ref (dn_a u k1)), (2, .int y2), (3, .int y3), (4, .int y4), (5, .int y5), (6, .int x4)] [1, 2, 3, 4, 5, 6, 0] rfl ?_
  exact H14 y2 y3 y4 y5 x4 s1
set_option maxRecDepth 100000 in
set_option maxHeartbeats 4000000 in
theorem b_X5_holding_14 {g : dn_M} {u : dn_U} (hu : dn_Lu u = dn_LC) (k1 : Nat) (h1 : dn_isM k1) (X : dn_X u g cX5_holding wsX5_holding RX5 8 5 115 (some .int)) : ∀ (n : Nat) (y2 : Int32) (y3 : Int32) (y4 : Int32) (y5 : Int32) (y6 : Int32) (s : dn_S), dn_T u g 8 (dn_QI u) (m_X5_holding_14 k1 n y2 y3 y4 y5 y6 s) s 14 [(0, .ref (dn_a u 18)), (1, .ref (dn_a u k1)), (2, .int y2), (3, .int y3), (4, .int y4), (5, .int y5), (6, .int y6)] [] := by
  intro n
  induction n with
  | zero =>
    intro y2 y3 y4 y5 y6 s
    exact dt_none X
  | succ n ih =>
    intro y2 y3 y4 y5 y6 s
    rw [m_X5_holding_14]
    refine dt_iload X 6 dX5_holding_14 rfl ?_
    refine dt_iload_n X 3 dX5_holding_16 rfl rfl ?_
    refine dt_icmp_gt X 105 dX5_holding_17 (by decide) ?_ ?_
    · refine dt_iload X 4 dX5_holding_105 rfl ?_
      refine dt_if_ne X 125 dX5_holding_107 (by decide) ?_ ?_
      · refine dt_iload X 5 dX5_holding_125 rfl ?_
        exact dt_iret X dX5_holding_127
      · refine dt_aload_n X 0 dX5_holding_110 rfl rfl ?_
        refine dt_get X (T := TX5) (N := 3) (v := .ref (dn_a u 19)) 2 (dn_h18 hu) rfl dn_in_X5_holding_5 rfl rfl dn_fw_X5_holding_12 rfl dX5_holding_111 ?_
        refine dt_getN X (T := TX3) (N := 8) (v := .int (dn_g s 19 5)) 5 (dn_hM hu dn_M19) rfl dn_in_X5_holding_3 rfl rfl dn_fw_X5_holding_61 rfl dX5_holding_114 ?_
        refine dt_aload_n X 1 dX5_holding_117 rfl rfl ?_
        refine dt_getN X (T := TX3) (N := 8) (v := .int (dn_g s k1 5)) 5 (dn_hM hu h1) rfl dn_in_X5_holding_3 rfl rfl dn_fw_X5_holding_61 rfl dX5_holding_118 ?_
        refine dt_isub X dX5_holding_121 ?_
        refine dt_goto X 127 dX5_holding_122 (by decide) ?_
        exact dt_iret X dX5_holding_127
    · refine dt_aload_n X 0 dX5_holding_20 rfl rfl ?_
      refine dt_get X (T := TX5) (N := 3) (v := .ref (dn_a u 14)) 1 (dn_h18 hu) rfl dn_in_X5_holding_5 rfl rfl dn_fw_X5_holding_22 rfl dX5_holding_21 ?_
      refine dt_aload_n X 0 dX5_holding_24 rfl rfl ?_
      refine dt_get X (T := TX5) (N := 3) (v := .ref (dn_a u 19)) 2 (dn_h18 hu) rfl dn_in_X5_holding_5 rfl rfl dn_fw_X5_holding_12 rfl dX5_holding_25 ?_
      refine dt_callV X (dn_runV X (T := TX4) (N := 4) [.ref (dn_a u 19)] (dn_h14 hu) rfl rfl (c_X4_open (dn_la g) u hu 19 dn_M19 s) gX5_holding_X4_open rfl dn_hd_X4_open rfl rfl rfl rfl dX5_holding_28) (fun r3 s1 e2 => ?_)
      refine dt_aload_n X 0 dX5_holding_31 rfl rfl ?_
      refine dt_get X (T := TX5) (N := 3) (v := .ref (dn_a u 19)) 2 (dn_h18 hu) rfl dn_in_X5_holding_5 rfl rfl dn_fw_X5_holding_12 rfl dX5_holding_32 ?_
      refine dt_iload_n X 2 dX5_holding_35 rfl rfl ?_
      refine dt_aload_n X 0 dX5_holding_36 rfl rfl ?_
      refine dt_get X (T := TX5) (N := 3) (v := .ref (dn_a u 3)) 0 (dn_h18 hu) rfl dn_in_X5_holding_5 rfl rfl dn_fw_X5_holding_18 rfl dX5_holding_37 ?_
      refine dt_getN X (T := TX10) (N := 5) (v := .int (dn_g s1 3 4)) 4 (dn_hT hu dn_T3) rfl dn_in_X5_holding_10 rfl rfl dn_fw_X5_holding_43 rfl dX5_holding_40 ?_
      refine dt_callZ X (dn_runV X (T := TX3) (N := 8) [.int y2, .int (dn_g s1 3 4)] (dn_hM hu dn_M19) rfl rfl (c_X3_isBarred (dn_la g) u hu 19 y2 (dn_g s1 3 4) dn_M19 s1) gX5_holding_X3_isBarred rfl dn_hd_X3_isBarred rfl rfl rfl rfl dX5_holding_43) (fun r6 s4 e5 => ?_)
      refine dt_if_neb X 87 dX5_holding_46 (by decide) ?_ ?_
      · refine dt_sub X [(0, .ref (dn_a u 18)), (1, .ref (dn_a u k1)), (2, .int y2), (3, .int y3), (4, .int y4), (5, .int y5), (6, .int y6)] [0, 1, 2, 3, 4, 5, 6] rfl ?_
        exact b_X5_holding_87 hu k1 h1 X (m_X5_holding_14 k1 n) ih y2 y3 y4 y5 y6 s4
      · refine dt_aload_n X 0 dX5_holding_49 rfl rfl ?_
        refine dt_get X (T := TX5) (N := 3) (v := .ref (dn_a u 14)) 1 (dn_h18 hu) rfl dn_in_X5_holding_5 rfl rfl dn_fw_X5_holding_22 rfl dX5_holding_50 ?_
        refine dt_callI X (dn_runV X (T := TX4) (N := 4) [] (dn_h14 hu) rfl rfl (c_X4_highestBid (dn_la g) u hu s4) gX5_holding_X4_highestBid rfl dn_hd_X4_highestBid rfl rfl rfl rfl dX5_holding_53) (fun r9 s7 e8 => ?_)
        refine dt_iconst X (v := 1) dX5_holding_56 (by decide) ?_
        refine dt_iadd X dX5_holding_57 ?_
        refine dt_let X (fun x10 => ?_)
        refine dt_istore X [(7, .int x10), (0, .ref (dn_a u 18)), (1, .ref (dn_a u k1)), (2, .int y2), (3, .int y3), (4, .int y4), (5, .int y5), (6, .int y6)] dX5_holding_58 rfl rfl ?_
        refine dt_iload X 0 dX5_holding_60 rfl ?_
        refine dt_bipush X (v := 40) dX5_holding_62 (by decide) ?_
        refine dt_icmp_le X 70 dX5_holding_64 (by decide) ?_ ?_
        · refine dt_aload_n X 1 dX5_holding_70 rfl rfl ?_
          refine dt_get X (T := TX5) (N := 3) (v := .ref (dn_a u 14)) 1 (dn_h18 hu) rfl dn_in_X5_holding_5 rfl rfl dn_fw_X5_holding_22 rfl dX5_holding_71 ?_
          refine dt_aload_n X 1 dX5_holding_74 rfl rfl ?_
          refine dt_get X (T := TX5) (N := 3) (v := .ref (dn_a u 19)) 2 (dn_h18 hu) rfl dn_in_X5_holding_5 rfl rfl dn_fw_X5_holding_12 rfl dX5_holding_75 ?_
          refine dt_iload_n X 3 dX5_holding_78 rfl rfl ?_
          refine dt_iload X 0 dX5_holding_79 rfl ?_
          refine dt_callV X (dn_runV X (T := TX4) (N := 4) [.ref (dn_a u 19), .int y2, .int x10] (dn_h14 hu) rfl rfl (c_X4_bidOwn (dn_la g) u hu 19 y2 x10 dn_M19 s7) gX5_holding_X4_bidOwn rfl dn_hd_X4_bidOwn rfl rfl rfl rfl dX5_holding_81) (fun r13 s11 e12 => ?_)
          refine dt_iinc X (v := y5 + 1) 6 [(5, .int (y5 + 1)), (7, .int x10), (0, .ref (dn_a u 18)), (1, .ref (dn_a u k1)), (2, .int y2), (3, .int y3), (4, .int y4), (6, .int y6)] dX5_holding_84 rfl (by rfl) rfl rfl ?_
          refine dt_ilet X rfl (fun x14 => ?_)
          refine dt_sub X [(0, .ref (dn_a u 18)), (1, .ref (dn_a u k1)), (2, .int y2), (3, .int y3), (4, .int y4), (5, .int x14), (6, .int y6)] [2, 3, 4, 5, 6, 0, 7] rfl ?_
          exact b_X5_holding_87 hu k1 h1 X (m_X5_holding_14 k1 n) ih y2 y3 y4 x14 y6 s11
        · refine dt_bipush X (v := -9) dX5_holding_67 (by decide) ?_
          exact dt_iret X dX5_holding_69
set_option maxRecDepth 100000 in
set_option maxHeartbeats 4000000 in
theorem c_X5_holding (l : Launch) (u : dn_U) (hu : dn_Lu u = dn_LC) (k1 : Nat) (a2 : Int32) (a3 : Int32) (a4 : Int32) (h1 : dn_isM k1) (s : dn_S) : dn_Met l u yX5_holding wsX5_holding 5 115 [.ref (dn_a u 18), .ref (dn_a u k1), .int a2, .int a3, .int a4] s (m_X5_holding k1 a2 a3 a4 s) (dn_QI u) := by
  refine dt_entry RX5 [(0, .ref (dn_a u 18)), (1, .ref (dn_a u k1)), (2, .int a2), (3, .int a3), (4, .int a4)] (by decide +kernel) rfl rfl rfl rfl (fun g hgl X => ?_)
  subst hgl
  unfold m_X5_holding
  refine dt_iconst X (v := 0) dX5_holding_0 (by decide) ?_
  refine dt_istore X [(5, .int 0), (0, .ref (dn_a u 18)), (1, .ref (dn_a u k1)), (2, .int a2), (3, .int a3), (4, .int a4)] dX5_holding_1 rfl rfl ?_
  refine dt_aload_n X 1 dX5_holding_3 rfl rfl ?_
  refine dt_get X (T := TX5) (N := 3) (v := .ref (dn_a u 19)) 2 (dn_h18 hu) rfl dn_in_X5_holding_5 rfl rfl dn_fw_X5_holding_12 rfl dX5_holding_4 ?_
  refine dt_aload_n X 2 dX5_holding_7 rfl rfl ?_
  refine dt_callV X (dn_runV X (T := TX3) (N := 8) [.ref (dn_a u k1)] (dn_hM hu dn_M19) rfl rfl (c_X3_copyFrom (dn_la g) u hu 19 k1 dn_M19 h1 s) gX5_holding_X3_copyFrom rfl dn_hd_X3_copyFrom rfl rfl rfl rfl dX5_holding_8) (fun r3 s1 e2 => ?_)
  refine dt_iconst X (v := 1) dX5_holding_11 (by decide) ?_
  refine dt_istore X [(6, .int 1), (5, .int 0), (0, .ref (dn_a u 18)), (1, .ref (dn_a u k1)), (2, .int a2), (3, .int a3), (4, .int a4)] dX5_holding_12 rfl rfl ?_
  refine dt_sub X [(0, .ref (dn_a u 18)), (1, .ref (dn_a u k1)), (2, .int a2), (3, .int a3), (4, .int a4), (5, .int 0), (6, .int 1)] [2, 3, 4, 5, 6, 1, 0] rfl ?_
  exact b_X5_holding_14 hu k1 h1 X 2048 a2 a3 a4 0 1 s1
