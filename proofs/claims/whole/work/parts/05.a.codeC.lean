set_option maxRecDepth 100000 in
set_option maxHeartbeats 4000000 in
theorem c_X11_within (l : Launch) (u : dn_U) (hu : dn_Lu u = dn_LC) (a1 : Int32) (a2 : Int32) (a3 : Int32) (s : dn_S) : dn_Met l u yX11_within wsX11_within 0 0 [.int a1, .int a2, .int a3] s (m_X11_within a1 a2 a3 s) (dn_QZ u) := by
  refine dt_entry RX11 [(0, .int a1), (1, .int a2), (2, .int a3)] (by decide +kernel) rfl rfl rfl rfl (fun g hgl X => ?_)
  subst hgl
  unfold m_X11_within
  refine dt_iload_n X 0 dX11_within_0 rfl rfl ?_
  refine dt_iload_n X 1 dX11_within_1 rfl rfl ?_
  refine dt_icmp_lt X 14 dX11_within_2 (by decide) ?_ ?_
  · refine dt_iconst X (v := 0) dX11_within_14 (by decide) ?_
    exact dt_zret (v := false) X dX11_within_15
  · refine dt_iload_n X 0 dX11_within_5 rfl rfl ?_
    refine dt_iload_n X 2 dX11_within_6 rfl rfl ?_
    refine dt_icmp_gt X 14 dX11_within_7 (by decide) ?_ ?_
    · refine dt_iconst X (v := 0) dX11_within_14 (by decide) ?_
      exact dt_zret (v := false) X dX11_within_15
    · refine dt_iconst X (v := 1) dX11_within_10 (by decide) ?_
      refine dt_goto X 15 dX11_within_11 (by decide) ?_
      exact dt_zret (v := true) X dX11_within_15
set_option maxRecDepth 100000 in
set_option maxHeartbeats 4000000 in
theorem c_X11_put (l : Launch) (u : dn_U) (hu : dn_Lu u = dn_LC) (k1 : Nat) (n1 : Nat) (a2 : Int32) (a3 : Int32) (h1 : dn_has u k1 (fun σ => .inl (u.2.2.1.1, n1, .inl (fun j => dn_g σ k1 j)))) (s : dn_S) : dn_Met l u yX11_put wsX11_put 0 0 [.ref (dn_a u k1), .int a2, .int a3] s (m_X11_put k1 n1 a2 a3 s) (dn_QV u) := by
  refine dt_entry RX11 [(0, .ref (dn_a u k1)), (1, .int a2), (2, .int a3)] (by decide +kernel) rfl rfl rfl rfl (fun g hgl X => ?_)
  subst hgl
  unfold m_X11_put
  refine dt_iload_n X 1 dX11_put_0 rfl rfl ?_
  refine dt_if_lt X 14 dX11_put_1 (by decide) ?_ ?_
  · exact dt_vret X dX11_put_14
  · refine dt_iload_n X 1 dX11_put_4 rfl rfl ?_
    refine dt_aload_n X 0 dX11_put_5 rfl rfl ?_
    refine dt_alen X h1 dX11_put_6 rfl ?_
    refine dt_icmp_ge X 14 dX11_put_7 (by decide) ?_ ?_
    · exact dt_vret X dX11_put_14
    · refine dt_aload_n X 0 dX11_put_10 rfl rfl ?_
      refine dt_iload_n X 1 dX11_put_11 rfl rfl ?_
      refine dt_iload_n X 2 dX11_put_12 rfl rfl ?_
      refine dt_iast X h1 dX11_put_13 (fun s1 => ?_)
      exact dt_vret X dX11_put_14
set_option maxRecDepth 100000 in
set_option maxHeartbeats 4000000 in
theorem c_X9_add (l : Launch) (u : dn_U) (hu : dn_Lu u = dn_LC) (a1 : Int32) (s : dn_S) : dn_Met l u yX9_add wsX9_add 1 22 [.ref (dn_a u 1), .int a1] s (m_X9_add a1 s) (dn_QV u) := by
  refine dt_entry RX9 [(0, .ref (dn_a u 1)), (1, .int a1)] (by decide +kernel) rfl rfl rfl rfl (fun g hgl X => ?_)
  subst hgl
  unfold m_X9_add
  refine dt_aload_n X 0 dX9_add_0 rfl rfl ?_
  refine dt_get X (T := TX9) (N := 2) (v := .ref (dn_a u 2)) 0 (dn_h1 hu) rfl dn_in_X9_add_9 rfl rfl dn_fw_X9_add_9 rfl dX9_add_1 ?_
  refine dt_aload_n X 0 dX9_add_4 rfl rfl ?_
  refine dt_get X (T := TX9) (N := 2) (v := .int (dn_g s 1 1)) 1 (dn_h1 hu) rfl dn_in_X9_add_9 rfl rfl dn_fw_X9_add_15 rfl dX9_add_5 ?_
  refine dt_iload_n X 1 dX9_add_8 rfl rfl ?_
  refine dt_callV X (dn_runSN X [.ref (dn_a u 2), .int (dn_g s 1 1), .int a1] (c_X11_put (dn_la g) u hu 2 200 (dn_g s 1 1) a1 (dn_h2 hu) s) gX9_add_X11_put_n19 rfl dn_nm_X9_add_19 dn_sw_X9_add_X11_put_1 dn_sw_X9_add_X11_put_2 dn_hs_X11_put rfl rfl rfl rfl dX9_add_9) (fun r3 s1 e2 => ?_)
  refine dt_aload_n X 0 dX9_add_12 rfl rfl ?_
  refine dt_dup X dX9_add_13 rfl ?_
  refine dt_get X (T := TX9) (N := 2) (v := .int (dn_g s1 1 1)) 1 (dn_h1 hu) rfl dn_in_X9_add_9 rfl rfl dn_fw_X9_add_15 rfl dX9_add_14 ?_
  refine dt_iconst X (v := 1) dX9_add_17 (by decide) ?_
  refine dt_iadd X dX9_add_18 ?_
  refine dt_put X (T := TX9) (N := 2) 1 (dn_h1 hu) rfl dn_in_X9_add_9 rfl tyX9 tyX9_ok nmX9 rfl rfl dn_fw_X9_add_15 rfl rfl (dn_set1_1 _ _ _) dX9_add_19 (fun s4 => ?_)
  exact dt_vret X dX9_add_22
set_option maxRecDepth 100000 in
set_option maxHeartbeats 4000000 in
theorem c_X11_type (l : Launch) (u : dn_U) (hu : dn_Lu u = dn_LC) (a1 : Int32) (s : dn_S) : dn_Met l u yX11_type wsX11_type 2 43 [.ref (dn_a u 0), .int a1] s (m_X11_type a1 s) (dn_QI u) := by
  refine dt_entry RX11 [(0, .ref (dn_a u 0)), (1, .int a1)] (by decide +kernel) rfl rfl rfl rfl (fun g hgl X => ?_)
  subst hgl
  unfold m_X11_type
  refine dt_iload_n X 1 dX11_type_0 rfl rfl ?_
  refine dt_iconst X (v := 0) dX11_type_1 (by decide) ?_
  refine dt_sipush X (v := 255) dX11_type_2 (by decide) ?_
  refine dt_callZ X (dn_runS X [.int a1, .int 0, .int 255] (c_X11_within (dn_la g) u hu a1 0 255 s) gX11_type_X11_within rfl dn_hs_X11_within rfl rfl rfl rfl dX11_type_5) (fun r3 s1 e2 => ?_)
  refine dt_if_neb X 13 dX11_type_8 (by decide) ?_ ?_
  · refine dt_aload_n X 0 dX11_type_13 rfl rfl ?_
    refine dt_get X (T := TX11) (N := 10) (v := .ref (dn_a u 1)) 0 (dn_h0 hu) rfl dn_in_X11_type_11 rfl rfl dn_fw_X11_type_10 rfl dX11_type_14 ?_
    refine dt_getN X (T := TX9) (N := 2) (v := .int (dn_g s1 1 1)) 1 (dn_h1 hu) rfl dn_in_X11_type_9 rfl rfl dn_fw_X11_type_96 rfl dX11_type_17 ?_
    refine dt_sipush X (v := 200) dX11_type_20 (by decide) ?_
    refine dt_icmp_lt X 29 dX11_type_23 (by decide) ?_ ?_
    · refine dt_aload_n X 0 dX11_type_29 rfl rfl ?_
      refine dt_get X (T := TX11) (N := 10) (v := .ref (dn_a u 1)) 0 (dn_h0 hu) rfl dn_in_X11_type_11 rfl rfl dn_fw_X11_type_10 rfl dX11_type_30 ?_
      refine dt_iload_n X 1 dX11_type_33 rfl rfl ?_
      refine dt_callV X (dn_runV X (T := TX9) (N := 2) [.int a1] (dn_h1 hu) rfl rfl (c_X9_add (dn_la g) u hu a1 s1) gX11_type_X9_add rfl dn_hd_X9_add rfl rfl rfl rfl dX11_type_34) (fun r6 s4 e5 => ?_)
      refine dt_aload_n X 0 dX11_type_37 rfl rfl ?_
      refine dt_get X (T := TX11) (N := 10) (v := .ref (dn_a u 1)) 0 (dn_h0 hu) rfl dn_in_X11_type_11 rfl rfl dn_fw_X11_type_10 rfl dX11_type_38 ?_
      refine dt_getN X (T := TX9) (N := 2) (v := .int (dn_g s4 1 1)) 1 (dn_h1 hu) rfl dn_in_X11_type_9 rfl rfl dn_fw_X11_type_96 rfl dX11_type_41 ?_
      exact dt_iret X dX11_type_44
    · refine dt_bipush X (v := -3) dX11_type_26 (by decide) ?_
      exact dt_iret X dX11_type_28
  · refine dt_iconst X (v := -1) dX11_type_11 (by decide) ?_
    exact dt_iret X dX11_type_12
set_option maxRecDepth 100000 in
set_option maxHeartbeats 4000000 in
theorem c_X9_empty (l : Launch) (u : dn_U) (hu : dn_Lu u = dn_LC) (s : dn_S) : dn_Met l u yX9_empty wsX9_empty 0 0 [.ref (dn_a u 1)] s (m_X9_empty  s) (dn_QI u) := by
  refine dt_entry RX9 [(0, .ref (dn_a u 1))] (by decide +kernel) rfl rfl rfl rfl (fun g hgl X => ?_)
  subst hgl
  unfold m_X9_empty
  refine dt_aload_n X 0 dX9_empty_0 rfl rfl ?_
  refine dt_get X (T := TX9) (N := 2) (v := .int (dn_g s 1 1)) 1 (dn_h1 hu) rfl dn_in_X9_empty_9 rfl rfl dn_fw_X9_empty_15 rfl dX9_empty_1 ?_
  refine dt_let X (fun x1 => ?_)
  refine dt_istore_n X [(1, .int x1), (0, .ref (dn_a u 1))] dX9_empty_4 rfl rfl rfl ?_
  refine dt_aload_n X 1 dX9_empty_5 rfl rfl ?_
  refine dt_iconst X (v := 0) dX9_empty_6 (by decide) ?_
  refine dt_put X (T := TX9) (N := 2) 1 (dn_h1 hu) rfl dn_in_X9_empty_9 rfl tyX9 tyX9_ok nmX9 rfl rfl dn_fw_X9_empty_15 rfl rfl (dn_set1_1 _ _ _) dX9_empty_7 (fun s2 => ?_)
  refine dt_iload_n X 0 dX9_empty_10 rfl rfl ?_
  exact dt_iret X dX9_empty_11
set_option maxRecDepth 100000 in
set_option maxHeartbeats 4000000 in
theorem c_X11_clear (l : Launch) (u : dn_U) (hu : dn_Lu u = dn_LC) (s : dn_S) : dn_Met l u yX11_clear wsX11_clear 1 21 [.ref (dn_a u 0)] s (m_X11_clear  s) (dn_QI u) := by
  refine dt_entry RX11 [(0, .ref (dn_a u 0))] (by decide +kernel) rfl rfl rfl rfl (fun g hgl X => ?_)
  subst hgl
  unfold m_X11_clear
  refine dt_aload_n X 0 dX11_clear_0 rfl rfl ?_
  refine dt_get X (T := TX11) (N := 10) (v := .ref (dn_a u 1)) 0 (dn_h0 hu) rfl dn_in_X11_clear_11 rfl rfl dn_fw_X11_clear_10 rfl dX11_clear_1 ?_
  refine dt_callI X (dn_runV X (T := TX9) (N := 2) [] (dn_h1 hu) rfl rfl (c_X9_empty (dn_la g) u hu s) gX11_clear_X9_empty rfl dn_hd_X9_empty rfl rfl rfl rfl dX11_clear_4) (fun r3 s1 e2 => ?_)
  exact dt_iret X dX11_clear_7
set_option maxRecDepth 100000 in
set_option maxHeartbeats 4000000 in
theorem c_X10_empty (l : Launch) (u : dn_U) (hu : dn_Lu u = dn_LC) (k : Nat) (hk : dn_isT k) (s : dn_S) : dn_Met l u yX10_empty wsX10_empty 0 0 [.ref (dn_a u k)] s (m_X10_empty k s) (dn_QV u) := by
  refine dt_entry RX10 [(0, .ref (dn_a u k))] (by decide +kernel) rfl rfl rfl rfl (fun g hgl X => ?_)
  subst hgl
  unfold m_X10_empty
  refine dt_aload_n X 0 dX10_empty_0 rfl rfl ?_
  refine dt_iconst X (v := 0) dX10_empty_1 (by decide) ?_
  refine dt_put X (T := TX10) (N := 5) 2 (dn_hT hu hk) rfl dn_in_X10_empty_10 rfl tyX10 tyX10_ok nmX10 rfl rfl dn_fw_X10_empty_22 rfl rfl (dn_setT_2 _ _ _ _) dX10_empty_2 (fun s1 => ?_)
  refine dt_aload_n X 0 dX10_empty_5 rfl rfl ?_
  refine dt_iconst X (v := 0) dX10_empty_6 (by decide) ?_
  refine dt_put X (T := TX10) (N := 5) 3 (dn_hT hu hk) rfl dn_in_X10_empty_10 rfl tyX10 tyX10_ok nmX10 rfl rfl dn_fw_X10_empty_25 rfl rfl (dn_setT_3 _ _ _ _) dX10_empty_7 (fun s2 => ?_)
  refine dt_aload_n X 0 dX10_empty_10 rfl rfl ?_
  refine dt_iconst X (v := 1) dX10_empty_11 (by decide) ?_
  refine dt_put X (T := TX10) (N := 5) 4 (dn_hT hu hk) rfl dn_in_X10_empty_10 rfl tyX10 tyX10_ok nmX10 rfl rfl dn_fw_X10_empty_18 rfl rfl (dn_setT_4 _ _ _ _) dX10_empty_12 (fun s3 => ?_)
  exact dt_vret X dX10_empty_15
set_option maxRecDepth 100000 in
set_option maxHeartbeats 4000000 in
theorem c_X9_letter (l : Launch) (u : dn_U) (hu : dn_Lu u = dn_LC) (a1 : Int32) (s : dn_S) : dn_Met l u yX9_letter wsX9_letter 0 0 [.ref (dn_a u 1), .int a1] s (m_X9_letter a1 s) (dn_QI u) := by
  refine dt_entry RX9 [(0, .ref (dn_a u 1)), (1, .int a1)] (by decide +kernel) rfl rfl rfl rfl (fun g hgl X => ?_)
  subst hgl
  unfold m_X9_letter
  refine dt_iload_n X 1 dX9_letter_0 rfl rfl ?_
  refine dt_if_lt X 22 dX9_letter_1 (by decide) ?_ ?_
  · refine dt_iconst X (v := 0) dX9_letter_22 (by decide) ?_
    exact dt_iret X dX9_letter_23
  · refine dt_iload_n X 1 dX9_letter_4 rfl rfl ?_
    refine dt_aload_n X 0 dX9_letter_5 rfl rfl ?_
    refine dt_get X (T := TX9) (N := 2) (v := .ref (dn_a u 2)) 0 (dn_h1 hu) rfl dn_in_X9_letter_9 rfl rfl dn_fw_X9_letter_9 rfl dX9_letter_6 ?_
    refine dt_alen X (dn_h2 hu) dX9_letter_9 rfl ?_
    refine dt_icmp_ge X 22 dX9_letter_10 (by decide) ?_ ?_
    · refine dt_iconst X (v := 0) dX9_letter_22 (by decide) ?_
      exact dt_iret X dX9_letter_23
    · refine dt_aload_n X 0 dX9_letter_13 rfl rfl ?_
      refine dt_get X (T := TX9) (N := 2) (v := .ref (dn_a u 2)) 0 (dn_h1 hu) rfl dn_in_X9_letter_9 rfl rfl dn_fw_X9_letter_9 rfl dX9_letter_14 ?_
      refine dt_iload_n X 1 dX9_letter_17 rfl rfl ?_
      refine dt_iald X (dn_h2 hu) dX9_letter_18 ?_
      refine dt_goto X 23 dX9_letter_19 (by decide) ?_
      exact dt_iret X dX9_letter_23
set_option maxRecDepth 100000 in
set_option maxHeartbeats 4000000 in
theorem c_X8_isDigit (l : Launch) (u : dn_U) (hu : dn_Lu u = dn_LC) (a1 : Int32) (s : dn_S) : dn_Met l u yX8_isDigit wsX8_isDigit 0 0 [.int a1] s (m_X8_isDigit a1 s) (dn_QZ u) := by
  refine dt_entry RX8 [(0, .int a1)] (by decide +kernel) rfl rfl rfl rfl (fun g hgl X => ?_)
  subst hgl
  unfold m_X8_isDigit
  refine dt_iload_n X 0 dX8_isDigit_0 rfl rfl ?_
  refine dt_bipush X (v := 48) dX8_isDigit_1 (by decide) ?_
  refine dt_icmp_lt X 16 dX8_isDigit_3 (by decide) ?_ ?_
  · refine dt_iconst X (v := 0) dX8_isDigit_16 (by decide) ?_
    exact dt_zret (v := false) X dX8_isDigit_17
  · refine dt_iload_n X 0 dX8_isDigit_6 rfl rfl ?_
    refine dt_bipush X (v := 57) dX8_isDigit_7 (by decide) ?_
    refine dt_icmp_gt X 16 dX8_isDigit_9 (by decide) ?_ ?_
    · refine dt_iconst X (v := 0) dX8_isDigit_16 (by decide) ?_
      exact dt_zret (v := false) X dX8_isDigit_17
    · refine dt_iconst X (v := 1) dX8_isDigit_12 (by decide) ?_
      refine dt_goto X 17 dX8_isDigit_13 (by decide) ?_
      exact dt_zret (v := true) X dX8_isDigit_17
set_option maxRecDepth 100000 in
set_option maxHeartbeats 4000000 in
theorem b_X8_takeNumber_129 {g : dn_M} {u : dn_U} (hu : dn_Lu u = dn_LC) (X : dn_X u g cX8_takeNumber wsX8_takeNumber RX8 2 1 21 none) (s : dn_S) : dn_T u g 2 (dn_QV u) (m_X8_takeNumber_129 s) s 129 [] [.ref (dn_a u 6)] := by
  unfold m_X8_takeNumber_129
  refine dt_sipush X (v := 258) dX8_takeNumber_129 (by decide) ?_
  refine dt_goto X 138 dX8_takeNumber_132 (by decide) ?_
  refine dt_put X (T := TX8) (N := 7) 4 (dn_h6 hu) rfl dn_in_X8_takeNumber_8 rfl tyX8 tyX8_ok nmX8 rfl rfl dn_fw_X8_takeNumber_36 rfl rfl (dn_set6_4 _ _ _) dX8_takeNumber_138 (fun s1 => ?_)
  exact dt_vret X dX8_takeNumber_141
set_option maxRecDepth 100000 in
set_option maxHeartbeats 4000000 in
theorem b_X8_takeNumber_114 {g : dn_M} {u : dn_U} (hu : dn_Lu u = dn_LC) (X : dn_X u g cX8_takeNumber wsX8_takeNumber RX8 2 1 21 none) (z0 : Bool) (s : dn_S) : dn_T u g 2 (dn_QV u) (m_X8_takeNumber_114 z0 s) s 114 [(0, .ref (dn_a u 6))] [.int (dn_b z0)] := by
  unfold m_X8_takeNumber_114
  refine dt_istore_n X [(1, .int (dn_b z0)), (0, .ref (dn_a u 6))] dX8_takeNumber_114 rfl rfl rfl ?_
  refine dt_aload_n X 1 dX8_takeNumber_115 rfl rfl ?_
  refine dt_iload_n X 0 dX8_takeNumber_116 rfl rfl ?_
  refine dt_if_neb X 129 dX8_takeNumber_117 (by decide) ?_ ?_
  · refine dt_sub X [] [] rfl ?_
    exact b_X8_takeNumber_129 hu X s
  · refine dt_aload_n X 1 dX8_takeNumber_120 rfl rfl ?_
    refine dt_get X (T := TX8) (N := 7) (v := .int (dn_g s 6 5)) 5 (dn_h6 hu) rfl dn_in_X8_takeNumber_8 rfl rfl dn_fw_X8_takeNumber_67 rfl dX8_takeNumber_121 ?_
    refine dt_bipush X (v := 99) dX8_takeNumber_124 (by decide) ?_
    refine dt_icmp_le X 135 dX8_takeNumber_126 (by decide) ?_ ?_
    · refine dt_sipush X (v := 256) dX8_takeNumber_135 (by decide) ?_
      refine dt_put X (T := TX8) (N := 7) 4 (dn_h6 hu) rfl dn_in_X8_takeNumber_8 rfl tyX8 tyX8_ok nmX8 rfl rfl dn_fw_X8_takeNumber_36 rfl rfl (dn_set6_4 _ _ _) dX8_takeNumber_138 (fun s1 => ?_)
      exact dt_vret X dX8_takeNumber_141
    · refine dt_sub X [] [] rfl ?_
      exact b_X8_takeNumber_129 hu X s
set_option maxRecDepth 100000 in
set_option maxHeartbeats 4000000 in
theorem b_X8_takeNumber_113 {g : dn_M} {u : dn_U} (hu : dn_Lu u = dn_LC) (X : dn_X u g cX8_takeNumber wsX8_takeNumber RX8 2 1 21 none) (s : dn_S) : dn_T u g 2 (dn_QV u) (m_X8_takeNumber_113 s) s 113 [(0, .ref (dn_a u 6))] [] := by
  unfold m_X8_takeNumber_113
  refine dt_iconst X (v := 0) dX8_takeNumber_113 (by decide) ?_
  refine dt_sub X [(0, .ref (dn_a u 6))] [0] rfl ?_
  exact b_X8_takeNumber_114 hu X false s
set_option maxRecDepth 100000 in
set_option maxHeartbeats 4000000 in
theorem b_X8_takeNumber_80 {g : dn_M} {u : dn_U} (hu : dn_Lu u = dn_LC) (X : dn_X u g cX8_takeNumber wsX8_takeNumber RX8 2 1 21 none) (s : dn_S) : dn_T u g 2 (dn_QV u) (m_X8_takeNumber_80 s) s 80 [(0, .ref (dn_a u 6))] [] := by
  unfold m_X8_takeNumber_80
  refine dt_aload_n X 0 dX8_takeNumber_80 rfl rfl ?_
  refine dt_get X (T := TX8) (N := 7) (v := .ref (dn_a u 1)) 0 (dn_h6 hu) rfl dn_in_X8_takeNumber_8 rfl rfl dn_fw_X8_takeNumber_18 rfl dX8_takeNumber_81 ?_
  refine dt_aload_n X 0 dX8_takeNumber_84 rfl rfl ?_
  refine dt_get X (T := TX8) (N := 7) (v := .int (dn_g s 6 3)) 3 (dn_h6 hu) rfl dn_in_X8_takeNumber_8 rfl rfl dn_fw_X8_takeNumber_49 rfl dX8_takeNumber_85 ?_
  refine dt_callI X (dn_runV X (T := TX9) (N := 2) [.int (dn_g s 6 3)] (dn_h1 hu) rfl rfl (c_X9_letter (dn_la g) u hu (dn_g s 6 3) s) gX8_takeNumber_X9_letter rfl dn_hd_X9_letter rfl rfl rfl rfl dX8_takeNumber_88) (fun r3 s1 e2 => ?_)
  refine dt_bipush X (v := 48) dX8_takeNumber_91 (by decide) ?_
  refine dt_icmp_ne X 113 dX8_takeNumber_93 (by decide) ?_ ?_
  · refine dt_sub X [(0, .ref (dn_a u 6))] [0] rfl ?_
    exact b_X8_takeNumber_113 hu X s1
  · refine dt_aload_n X 0 dX8_takeNumber_96 rfl rfl ?_
    refine dt_get X (T := TX8) (N := 7) (v := .int (dn_g s1 6 2)) 2 (dn_h6 hu) rfl dn_in_X8_takeNumber_8 rfl rfl dn_fw_X8_takeNumber_22 rfl dX8_takeNumber_97 ?_
    refine dt_aload_n X 0 dX8_takeNumber_100 rfl rfl ?_
    refine dt_get X (T := TX8) (N := 7) (v := .int (dn_g s1 6 3)) 3 (dn_h6 hu) rfl dn_in_X8_takeNumber_8 rfl rfl dn_fw_X8_takeNumber_49 rfl dX8_takeNumber_101 ?_
    refine dt_iconst X (v := 1) dX8_takeNumber_104 (by decide) ?_
    refine dt_iadd X dX8_takeNumber_105 ?_
    refine dt_icmp_le X 113 dX8_takeNumber_106 (by decide) ?_ ?_
    · refine dt_sub X [(0, .ref (dn_a u 6))] [0] rfl ?_
      exact b_X8_takeNumber_113 hu X s1
    · refine dt_iconst X (v := 1) dX8_takeNumber_109 (by decide) ?_
      refine dt_goto X 114 dX8_takeNumber_110 (by decide) ?_
      refine dt_sub X [(0, .ref (dn_a u 6))] [0] rfl ?_
      exact b_X8_takeNumber_114 hu X true s1
set_option maxRecDepth 100000 in
set_option maxHeartbeats 4000000 in
theorem b_X8_takeNumber_5 {g : dn_M} {u : dn_U} (hu : dn_Lu u = dn_LC) (X : dn_X u g cX8_takeNumber wsX8_takeNumber RX8 2 1 21 none) : ∀ (n : Nat) (s : dn_S), dn_T u g 2 (dn_QV u) (m_X8_takeNumber_5 n s) s 5 [(0, .ref (dn_a u 6))] [] := by
  intro n
  induction n with
  | zero =>
    intro  s
    exact dt_none X
  | succ n ih =>
    intro  s
    rw [m_X8_takeNumber_5]
    refine dt_aload_n X 0 dX8_takeNumber_5 rfl rfl ?_
    refine dt_get X (T := TX8) (N := 7) (v := .int (dn_g s 6 2)) 2 (dn_h6 hu) rfl dn_in_X8_takeNumber_8 rfl rfl dn_fw_X8_takeNumber_22 rfl dX8_takeNumber_6 ?_
    refine dt_aload_n X 0 dX8_takeNumber_9 rfl rfl ?_
    refine dt_get X (T := TX8) (N := 7) (v := .ref (dn_a u 1)) 0 (dn_h6 hu) rfl dn_in_X8_takeNumber_8 rfl rfl dn_fw_X8_takeNumber_18 rfl dX8_takeNumber_10 ?_
    refine dt_getN X (T := TX9) (N := 2) (v := .int (dn_g s 1 1)) 1 (dn_h1 hu) rfl dn_in_X8_takeNumber_9 rfl rfl dn_fw_X8_takeNumber_100 rfl dX8_takeNumber_13 ?_
    refine dt_icmp_ge X 80 dX8_takeNumber_16 (by decide) ?_ ?_
    · refine dt_sub X [(0, .ref (dn_a u 6))] [0] rfl ?_
      exact b_X8_takeNumber_80 hu X s
    · refine dt_aload_n X 0 dX8_takeNumber_19 rfl rfl ?_
      refine dt_get X (T := TX8) (N := 7) (v := .ref (dn_a u 1)) 0 (dn_h6 hu) rfl dn_in_X8_takeNumber_8 rfl rfl dn_fw_X8_takeNumber_18 rfl dX8_takeNumber_20 ?_
      refine dt_aload_n X 0 dX8_takeNumber_23 rfl rfl ?_
      refine dt_get X (T := TX8) (N := 7) (v := .int (dn_g s 6 2)) 2 (dn_h6 hu) rfl dn_in_X8_takeNumber_8 rfl rfl dn_fw_X8_takeNumber_22 rfl dX8_takeNumber_24 ?_
      refine dt_callI X (dn_runV X (T := TX9) (N := 2) [.int (dn_g s 6 2)] (dn_h1 hu) rfl rfl (c_X9_letter (dn_la g) u hu (dn_g s 6 2) s) gX8_takeNumber_X9_letter rfl dn_hd_X9_letter rfl rfl rfl rfl dX8_takeNumber_27) (fun r3 s1 e2 => ?_)
      refine dt_callZ X (dn_runS X [.int r3] (c_X8_isDigit (dn_la g) u hu r3 s1) gX8_takeNumber_X8_isDigit rfl dn_hs_X8_isDigit rfl rfl rfl rfl dX8_takeNumber_30) (fun r6 s4 e5 => ?_)
      refine dt_if_eqb X 80 dX8_takeNumber_33 (by decide) ?_ ?_
      · refine dt_sub X [(0, .ref (dn_a u 6))] [0] rfl ?_
        exact b_X8_takeNumber_80 hu X s4
      · refine dt_aload_n X 0 dX8_takeNumber_36 rfl rfl ?_
        refine dt_bipush X (v := 100) dX8_takeNumber_37 (by decide) ?_
        refine dt_aload_n X 0 dX8_takeNumber_39 rfl rfl ?_
        refine dt_get X (T := TX8) (N := 7) (v := .int (dn_g s4 6 5)) 5 (dn_h6 hu) rfl dn_in_X8_takeNumber_8 rfl rfl dn_fw_X8_takeNumber_67 rfl dX8_takeNumber_40 ?_
        refine dt_bipush X (v := 10) dX8_takeNumber_43 (by decide) ?_
        refine dt_imul X dX8_takeNumber_45 ?_
        refine dt_aload_n X 0 dX8_takeNumber_46 rfl rfl ?_
        refine dt_get X (T := TX8) (N := 7) (v := .ref (dn_a u 1)) 0 (dn_h6 hu) rfl dn_in_X8_takeNumber_8 rfl rfl dn_fw_X8_takeNumber_18 rfl dX8_takeNumber_47 ?_
        refine dt_aload_n X 0 dX8_takeNumber_50 rfl rfl ?_
        refine dt_get X (T := TX8) (N := 7) (v := .int (dn_g s4 6 2)) 2 (dn_h6 hu) rfl dn_in_X8_takeNumber_8 rfl rfl dn_fw_X8_takeNumber_22 rfl dX8_takeNumber_51 ?_
        refine dt_callI X (dn_runV X (T := TX9) (N := 2) [.int (dn_g s4 6 2)] (dn_h1 hu) rfl rfl (c_X9_letter (dn_la g) u hu (dn_g s4 6 2) s4) gX8_takeNumber_X9_letter rfl dn_hd_X9_letter rfl rfl rfl rfl dX8_takeNumber_54) (fun r9 s7 e8 => ?_)
        refine dt_iadd X dX8_takeNumber_57 ?_
        refine dt_bipush X (v := 48) dX8_takeNumber_58 (by decide) ?_
        refine dt_isub X dX8_takeNumber_60 ?_
        refine dt_mmin X dn_mw_X8_takeNumber_min_1 dn_mw_X8_takeNumber_min_2 dn_mw_X8_takeNumber_min_3 dn_mw_X8_takeNumber_min_4 rfl rfl dX8_takeNumber_61 ?_
        refine dt_put X (T := TX8) (N := 7) 5 (dn_h6 hu) rfl dn_in_X8_takeNumber_8 rfl tyX8 tyX8_ok nmX8 rfl rfl dn_fw_X8_takeNumber_67 rfl rfl (dn_set6_5 _ _ _) dX8_takeNumber_64 (fun s10 => ?_)
        refine dt_aload_n X 0 dX8_takeNumber_67 rfl rfl ?_
        refine dt_dup X dX8_takeNumber_68 rfl ?_
        refine dt_get X (T := TX8) (N := 7) (v := .int (dn_g s10 6 2)) 2 (dn_h6 hu) rfl dn_in_X8_takeNumber_8 rfl rfl dn_fw_X8_takeNumber_22 rfl dX8_takeNumber_69 ?_
        refine dt_iconst X (v := 1) dX8_takeNumber_72 (by decide) ?_
        refine dt_iadd X dX8_takeNumber_73 ?_
        refine dt_put X (T := TX8) (N := 7) 2 (dn_h6 hu) rfl dn_in_X8_takeNumber_8 rfl tyX8 tyX8_ok nmX8 rfl rfl dn_fw_X8_takeNumber_22 rfl rfl (dn_set6_2 _ _ _) dX8_takeNumber_74 (fun s11 => ?_)
        refine dt_goto X 5 dX8_takeNumber_77 (by decide) ?_
        refine dt_sub X [(0, .ref (dn_a u 6))] [0] rfl ?_
        exact ih s11
set_option maxRecDepth 100000 in
set_option maxHeartbeats 4000000 in
theorem c_X8_takeNumber (l : Launch) (u : dn_U) (hu : dn_Lu u = dn_LC) (s : dn_S) : dn_Met l u yX8_takeNumber wsX8_takeNumber 1 21 [.ref (dn_a u 6)] s (m_X8_takeNumber  s) (dn_QV u) := by
  refine dt_entry RX8 [(0, .ref (dn_a u 6))] (by decide +kernel) rfl rfl rfl rfl (fun g hgl X => ?_)
  subst hgl
  unfold m_X8_takeNumber
  refine dt_aload_n X 0 dX8_takeNumber_0 rfl rfl ?_
  refine dt_iconst X (v := 0) dX8_takeNumber_1 (by decide) ?_
  refine dt_put X (T := TX8) (N := 7) 5 (dn_h6 hu) rfl dn_in_X8_takeNumber_8 rfl tyX8 tyX8_ok nmX8 rfl rfl dn_fw_X8_takeNumber_67 rfl rfl (dn_set6_5 _ _ _) dX8_takeNumber_2 (fun s1 => ?_)
  refine dt_sub X [(0, .ref (dn_a u 6))] [0] rfl ?_
  exact b_X8_takeNumber_5 hu X 2048 s1
set_option maxRecDepth 100000 in
set_option maxHeartbeats 4000000 in
theorem b_X8_nextToken_129 {g : dn_M} {u : dn_U} (hu : dn_Lu u = dn_LC) (X : dn_X u g cX8_nextToken wsX8_nextToken RX8 2 2 42 none) (z0 : Int32) (s : dn_S) : dn_T u g 2 (dn_QV u) (m_X8_nextToken_129 z0 s) s 129 [(0, .ref (dn_a u 6))] [.int z0, .ref (dn_a u 6)] := by
  unfold m_X8_nextToken_129
  refine dt_put X (T := TX8) (N := 7) 4 (dn_h6 hu) rfl dn_in_X8_nextToken_8 rfl tyX8 tyX8_ok nmX8 rfl rfl dn_fw_X8_nextToken_36 rfl rfl (dn_set6_4 _ _ _) dX8_nextToken_129 (fun s1 => ?_)
  refine dt_aload_n X 0 dX8_nextToken_132 rfl rfl ?_
  refine dt_dup X dX8_nextToken_133 rfl ?_
  refine dt_get X (T := TX8) (N := 7) (v := .int (dn_g s1 6 2)) 2 (dn_h6 hu) rfl dn_in_X8_nextToken_8 rfl rfl dn_fw_X8_nextToken_22 rfl dX8_nextToken_134 ?_
  refine dt_iconst X (v := 1) dX8_nextToken_137 (by decide) ?_
  refine dt_iadd X dX8_nextToken_138 ?_
  refine dt_put X (T := TX8) (N := 7) 2 (dn_h6 hu) rfl dn_in_X8_nextToken_8 rfl tyX8 tyX8_ok nmX8 rfl rfl dn_fw_X8_nextToken_22 rfl rfl (dn_set6_2 _ _ _) dX8_nextToken_139 (fun s2 => ?_)
  exact dt_vret X dX8_nextToken_142
set_option maxRecDepth 100000 in
set_option maxHeartbeats 4000000 in
theorem b_X8_nextToken_122 {g : dn_M} {u : dn_U} (hu : dn_Lu u = dn_LC) (X : dn_X u g cX8_nextToken wsX8_nextToken RX8 2 2 42 none) (y1 : Int32) (s : dn_S) : dn_T u g 2 (dn_QV u) (m_X8_nextToken_122 y1 s) s 122 [(0, .ref (dn_a u 6)), (1, .int y1)] [.ref (dn_a u 6)] := by
  unfold m_X8_nextToken_122
  refine dt_iload_n X 1 dX8_nextToken_122 rfl rfl ?_
  refine dt_goto X 129 dX8_nextToken_123 (by decide) ?_
  refine dt_sub X [(0, .ref (dn_a u 6))] [0] rfl ?_
  exact b_X8_nextToken_129 hu X y1 s
set_option maxRecDepth 100000 in
set_option maxHeartbeats 4000000 in
theorem b_X8_nextToken_43 {g : dn_M} {u : dn_U} (hu : dn_Lu u = dn_LC) (X : dn_X u g cX8_nextToken wsX8_nextToken RX8 2 2 42 none) (s : dn_S) : dn_T u g 2 (dn_QV u) (m_X8_nextToken_43 s) s 43 [(0, .ref (dn_a u 6))] [] := by
  unfold m_X8_nextToken_43
  refine dt_aload_n X 0 dX8_nextToken_43 rfl rfl ?_
  refine dt_aload_n X 0 dX8_nextToken_44 rfl rfl ?_
  refine dt_get X (T := TX8) (N := 7) (v := .int (dn_g s 6 2)) 2 (dn_h6 hu) rfl dn_in_X8_nextToken_8 rfl rfl dn_fw_X8_nextToken_22 rfl dX8_nextToken_45 ?_
  refine dt_put X (T := TX8) (N := 7) 3 (dn_h6 hu) rfl dn_in_X8_nextToken_8 rfl tyX8 tyX8_ok nmX8 rfl rfl dn_fw_X8_nextToken_49 rfl rfl (dn_set6_3 _ _ _) dX8_nextToken_48 (fun s1 => ?_)
  refine dt_aload_n X 0 dX8_nextToken_51 rfl rfl ?_
  refine dt_get X (T := TX8) (N := 7) (v := .int (dn_g s1 6 2)) 2 (dn_h6 hu) rfl dn_in_X8_nextToken_8 rfl rfl dn_fw_X8_nextToken_22 rfl dX8_nextToken_52 ?_
  refine dt_aload_n X 0 dX8_nextToken_55 rfl rfl ?_
  refine dt_get X (T := TX8) (N := 7) (v := .ref (dn_a u 1)) 0 (dn_h6 hu) rfl dn_in_X8_nextToken_8 rfl rfl dn_fw_X8_nextToken_18 rfl dX8_nextToken_56 ?_
  refine dt_getN X (T := TX9) (N := 2) (v := .int (dn_g s1 1 1)) 1 (dn_h1 hu) rfl dn_in_X8_nextToken_9 rfl rfl dn_fw_X8_nextToken_100 rfl dX8_nextToken_59 ?_
  refine dt_icmp_lt X 73 dX8_nextToken_62 (by decide) ?_ ?_
  · refine dt_aload_n X 0 dX8_nextToken_73 rfl rfl ?_
    refine dt_get X (T := TX8) (N := 7) (v := .ref (dn_a u 1)) 0 (dn_h6 hu) rfl dn_in_X8_nextToken_8 rfl rfl dn_fw_X8_nextToken_18 rfl dX8_nextToken_74 ?_
    refine dt_aload_n X 0 dX8_nextToken_77 rfl rfl ?_
    refine dt_get X (T := TX8) (N := 7) (v := .int (dn_g s1 6 2)) 2 (dn_h6 hu) rfl dn_in_X8_nextToken_8 rfl rfl dn_fw_X8_nextToken_22 rfl dX8_nextToken_78 ?_
    refine dt_callI X (dn_runV X (T := TX9) (N := 2) [.int (dn_g s1 6 2)] (dn_h1 hu) rfl rfl (c_X9_letter (dn_la g) u hu (dn_g s1 6 2) s1) gX8_nextToken_X9_letter rfl dn_hd_X9_letter rfl rfl rfl rfl dX8_nextToken_81) (fun r4 s2 e3 => ?_)
    refine dt_istore_n X [(1, .int r4), (0, .ref (dn_a u 6))] dX8_nextToken_84 rfl rfl rfl ?_
    refine dt_iload_n X 0 dX8_nextToken_85 rfl rfl ?_
    refine dt_callZ X (dn_runS X [.int r4] (c_X8_isDigit (dn_la g) u hu r4 s2) gX8_nextToken_X8_isDigit rfl dn_hs_X8_isDigit rfl rfl rfl rfl dX8_nextToken_86) (fun r7 s5 e6 => ?_)
    refine dt_if_eqb X 97 dX8_nextToken_89 (by decide) ?_ ?_
    · refine dt_aload_n X 1 dX8_nextToken_97 rfl rfl ?_
      refine dt_iload_n X 0 dX8_nextToken_98 rfl rfl ?_
      refine dt_bipush X (v := 98) dX8_nextToken_99 (by decide) ?_
      refine dt_icmp_eq X 122 dX8_nextToken_101 (by decide) ?_ ?_
      · refine dt_sub X [(0, .ref (dn_a u 6)), (1, .int r4)] [1, 0] rfl ?_
        exact b_X8_nextToken_122 hu X r4 s5
      · refine dt_iload_n X 0 dX8_nextToken_104 rfl rfl ?_
        refine dt_bipush X (v := 114) dX8_nextToken_105 (by decide) ?_
        refine dt_icmp_eq X 122 dX8_nextToken_107 (by decide) ?_ ?_
        · refine dt_sub X [(0, .ref (dn_a u 6)), (1, .int r4)] [1, 0] rfl ?_
          exact b_X8_nextToken_122 hu X r4 s5
        · refine dt_iload_n X 0 dX8_nextToken_110 rfl rfl ?_
          refine dt_bipush X (v := 111) dX8_nextToken_111 (by decide) ?_
          refine dt_icmp_eq X 122 dX8_nextToken_113 (by decide) ?_ ?_
          · refine dt_sub X [(0, .ref (dn_a u 6)), (1, .int r4)] [1, 0] rfl ?_
            exact b_X8_nextToken_122 hu X r4 s5
          · refine dt_iload_n X 0 dX8_nextToken_116 rfl rfl ?_
            refine dt_bipush X (v := 59) dX8_nextToken_117 (by decide) ?_
            refine dt_icmp_ne X 126 dX8_nextToken_119 (by decide) ?_ ?_
            · refine dt_sipush X (v := 258) dX8_nextToken_126 (by decide) ?_
              refine dt_sub X [(0, .ref (dn_a u 6))] [1] rfl ?_
              exact b_X8_nextToken_129 hu X 258 s5
            · refine dt_sub X [(0, .ref (dn_a u 6)), (1, .int r4)] [1, 0] rfl ?_
              exact b_X8_nextToken_122 hu X r4 s5
    · refine dt_aload_n X 1 dX8_nextToken_92 rfl rfl ?_
      refine dt_callV X (dn_runV X (T := TX8) (N := 7) [] (dn_h6 hu) rfl rfl (c_X8_takeNumber (dn_la g) u hu s5) gX8_nextToken_X8_takeNumber rfl dn_hd_X8_takeNumber rfl rfl rfl rfl dX8_nextToken_93) (fun r10 s8 e9 => ?_)
      exact dt_vret X dX8_nextToken_96
  · refine dt_aload_n X 0 dX8_nextToken_65 rfl rfl ?_
    refine dt_sipush X (v := 257) dX8_nextToken_66 (by decide) ?_
    refine dt_put X (T := TX8) (N := 7) 4 (dn_h6 hu) rfl dn_in_X8_nextToken_8 rfl tyX8 tyX8_ok nmX8 rfl rfl dn_fw_X8_nextToken_36 rfl rfl (dn_set6_4 _ _ _) dX8_nextToken_69 (fun s11 => ?_)
    exact dt_vret X dX8_nextToken_72
set_option maxRecDepth 100000 in
set_option maxHeartbeats 4000000 in
theorem b_X8_nextToken_0 {g : dn_M} {u : dn_U} (hu : dn_Lu u = dn_LC) (X : dn_X u g cX8_nextToken wsX8_nextToken RX8 2 2 42 none) : ∀ (n : Nat) (s : dn_S), dn_T u g 2 (dn_QV u) (m_X8_nextToken_0 n s) s 0 [(0, .ref (dn_a u 6))] [] := by
  intro n
  induction n with
  | zero =>
    intro  s
    exact dt_none X
  | succ n ih =>
    intro  s
    rw [m_X8_nextToken_0]
    refine dt_aload_n X 0 dX8_nextToken_0 rfl rfl ?_
    refine dt_get X (T := TX8) (N := 7) (v := .int (dn_g s 6 2)) 2 (dn_h6 hu) rfl dn_in_X8_nextToken_8 rfl rfl dn_fw_X8_nextToken_22 rfl dX8_nextToken_1 ?_
    refine dt_aload_n X 0 dX8_nextToken_4 rfl rfl ?_
    refine dt_get X (T := TX8) (N := 7) (v := .ref (dn_a u 1)) 0 (dn_h6 hu) rfl dn_in_X8_nextToken_8 rfl rfl dn_fw_X8_nextToken_18 rfl dX8_nextToken_5 ?_
    refine dt_getN X (T := TX9) (N := 2) (v := .int (dn_g s 1 1)) 1 (dn_h1 hu) rfl dn_in_X8_nextToken_9 rfl rfl dn_fw_X8_nextToken_100 rfl dX8_nextToken_8 ?_
    refine dt_icmp_ge X 43 dX8_nextToken_11 (by decide) ?_ ?_
    · refine dt_sub X [(0, .ref (dn_a u 6))] [0] rfl ?_
      exact b_X8_nextToken_43 hu X s
    · refine dt_aload_n X 0 dX8_nextToken_14 rfl rfl ?_
      refine dt_get X (T := TX8) (N := 7) (v := .ref (dn_a u 1)) 0 (dn_h6 hu) rfl dn_in_X8_nextToken_8 rfl rfl dn_fw_X8_nextToken_18 rfl dX8_nextToken_15 ?_
      refine dt_aload_n X 0 dX8_nextToken_18 rfl rfl ?_
      refine dt_get X (T := TX8) (N := 7) (v := .int (dn_g s 6 2)) 2 (dn_h6 hu) rfl dn_in_X8_nextToken_8 rfl rfl dn_fw_X8_nextToken_22 rfl dX8_nextToken_19 ?_
      refine dt_callI X (dn_runV X (T := TX9) (N := 2) [.int (dn_g s 6 2)] (dn_h1 hu) rfl rfl (c_X9_letter (dn_la g) u hu (dn_g s 6 2) s) gX8_nextToken_X9_letter rfl dn_hd_X9_letter rfl rfl rfl rfl dX8_nextToken_22) (fun r3 s1 e2 => ?_)
      refine dt_bipush X (v := 32) dX8_nextToken_25 (by decide) ?_
      refine dt_icmp_ne X 43 dX8_nextToken_27 (by decide) ?_ ?_
      · refine dt_sub X [(0, .ref (dn_a u 6))] [0] rfl ?_
        exact b_X8_nextToken_43 hu X s1
      · refine dt_aload_n X 0 dX8_nextToken_30 rfl rfl ?_
        refine dt_dup X dX8_nextToken_31 rfl ?_
        refine dt_get X (T := TX8) (N := 7) (v := .int (dn_g s1 6 2)) 2 (dn_h6 hu) rfl dn_in_X8_nextToken_8 rfl rfl dn_fw_X8_nextToken_22 rfl dX8_nextToken_32 ?_
        refine dt_iconst X (v := 1) dX8_nextToken_35 (by decide) ?_
        refine dt_iadd X dX8_nextToken_36 ?_
        refine dt_put X (T := TX8) (N := 7) 2 (dn_h6 hu) rfl dn_in_X8_nextToken_8 rfl tyX8 tyX8_ok nmX8 rfl rfl dn_fw_X8_nextToken_22 rfl rfl (dn_set6_2 _ _ _) dX8_nextToken_37 (fun s4 => ?_)
        refine dt_goto X 0 dX8_nextToken_40 (by decide) ?_
        refine dt_sub X [(0, .ref (dn_a u 6))] [0] rfl ?_
        exact ih s4
set_option maxRecDepth 100000 in
set_option maxHeartbeats 4000000 in
theorem c_X8_nextToken (l : Launch) (u : dn_U) (hu : dn_Lu u = dn_LC) (s : dn_S) : dn_Met l u yX8_nextToken wsX8_nextToken 2 42 [.ref (dn_a u 6)] s (m_X8_nextToken  s) (dn_QV u) := by
  refine dt_entry RX8 [(0, .ref (dn_a u 6))] (by decide +kernel) rfl rfl rfl rfl (fun g hgl X => ?_)
  subst hgl
  unfold m_X8_nextToken
  refine dt_sub X [(0, .ref (dn_a u 6))] [0] rfl ?_
  exact b_X8_nextToken_0 hu X 2048 s
set_option maxRecDepth 100000 in
set_option maxHeartbeats 4000000 in
theorem c_X11_at_s (l : Launch) (u : dn_U) (hu : dn_Lu u = dn_LC) (n1 : Nat) (f1 : Nat → Int32) (a2 : Int32) (t1 : Nat) (h1 : ∀ s : State, dn_C u s → va_T .int t1 n1 (fun j => .int (f1 j)) (dn_A u) s s.heap) (s : dn_S) : dn_Met l u yX11_at wsX11_at 0 0 [.ref t1, .int a2] s (m_X11_at_s n1 f1 a2 s) (dn_QI u) := by
  refine dt_entry RX11 [(0, .ref t1), (1, .int a2)] (by decide +kernel) rfl rfl rfl rfl (fun g hgl X => ?_)
  subst hgl
  unfold m_X11_at_s
  refine dt_iload_n X 1 dX11_at_0 rfl rfl ?_
  refine dt_if_lt X 16 dX11_at_1 (by decide) ?_ ?_
  · refine dt_iconst X (v := 0) dX11_at_16 (by decide) ?_
    exact dt_iret X dX11_at_17
  · refine dt_iload_n X 1 dX11_at_4 rfl rfl ?_
    refine dt_aload_n X 0 dX11_at_5 rfl rfl ?_
    refine dt_tlen X h1 dX11_at_6 rfl ?_
    refine dt_icmp_ge X 16 dX11_at_7 (by decide) ?_ ?_
    · refine dt_iconst X (v := 0) dX11_at_16 (by decide) ?_
      exact dt_iret X dX11_at_17
    · refine dt_aload_n X 0 dX11_at_10 rfl rfl ?_
      refine dt_iload_n X 1 dX11_at_11 rfl rfl ?_
      refine dt_tald X h1 dX11_at_12 ?_
      refine dt_goto X 17 dX11_at_13 (by decide) ?_
      exact dt_iret X dX11_at_17
set_option maxRecDepth 100000 in
set_option maxHeartbeats 4000000 in
theorem c_X11_at (l : Launch) (u : dn_U) (hu : dn_Lu u = dn_LC) (k1 : Nat) (n1 : Nat) (a2 : Int32) (h1 : dn_has u k1 (fun σ => .inl (u.2.2.1.1, n1, .inl (fun j => dn_g σ k1 j)))) (s : dn_S) : dn_Met l u yX11_at wsX11_at 0 0 [.ref (dn_a u k1), .int a2] s (m_X11_at k1 n1 a2 s) (dn_QI u) := by
  refine dt_entry RX11 [(0, .ref (dn_a u k1)), (1, .int a2)] (by decide +kernel) rfl rfl rfl rfl (fun g hgl X => ?_)
  subst hgl
  unfold m_X11_at
  refine dt_iload_n X 1 dX11_at_0 rfl rfl ?_
  refine dt_if_lt X 16 dX11_at_1 (by decide) ?_ ?_
  · refine dt_iconst X (v := 0) dX11_at_16 (by decide) ?_
    exact dt_iret X dX11_at_17
  · refine dt_iload_n X 1 dX11_at_4 rfl rfl ?_
    refine dt_aload_n X 0 dX11_at_5 rfl rfl ?_
    refine dt_alen X h1 dX11_at_6 rfl ?_
    refine dt_icmp_ge X 16 dX11_at_7 (by decide) ?_ ?_
    · refine dt_iconst X (v := 0) dX11_at_16 (by decide) ?_
      exact dt_iret X dX11_at_17
    · refine dt_aload_n X 0 dX11_at_10 rfl rfl ?_
      refine dt_iload_n X 1 dX11_at_11 rfl rfl ?_
      refine dt_iald X h1 dX11_at_12 ?_
      refine dt_goto X 17 dX11_at_13 (by decide) ?_
      exact dt_iret X dX11_at_17
set_option maxRecDepth 100000 in
set_option maxHeartbeats 4000000 in
theorem c_X8_readsNumber (l : Launch) (u : dn_U) (hu : dn_Lu u = dn_LC) (a1 : Int32) (a2 : Int32) (s : dn_S) : dn_Met l u yX8_readsNumber wsX8_readsNumber 3 63 [.ref (dn_a u 6), .int a1, .int a2] s (m_X8_readsNumber a1 a2 s) (dn_QZ u) := by
  refine dt_entry RX8 [(0, .ref (dn_a u 6)), (1, .int a1), (2, .int a2)] (by decide +kernel) rfl rfl rfl rfl (fun g hgl X => ?_)
  subst hgl
  unfold m_X8_readsNumber
  refine dt_aload_n X 0 dX8_readsNumber_0 rfl rfl ?_
  refine dt_callV X (dn_runV X (T := TX8) (N := 7) [] (dn_h6 hu) rfl rfl (c_X8_nextToken (dn_la g) u hu s) gX8_readsNumber_X8_nextToken rfl dn_hd_X8_nextToken rfl rfl rfl rfl dX8_readsNumber_1) (fun r3 s1 e2 => ?_)
  refine dt_aload_n X 0 dX8_readsNumber_4 rfl rfl ?_
  refine dt_get X (T := TX8) (N := 7) (v := .int (dn_g s1 6 4)) 4 (dn_h6 hu) rfl dn_in_X8_readsNumber_8 rfl rfl dn_fw_X8_readsNumber_36 rfl dX8_readsNumber_5 ?_
  refine dt_sipush X (v := 256) dX8_readsNumber_8 (by decide) ?_
  refine dt_icmp_ne X 30 dX8_readsNumber_11 (by decide) ?_ ?_
  · refine dt_iconst X (v := 0) dX8_readsNumber_30 (by decide) ?_
    exact dt_zret (v := false) X dX8_readsNumber_31
  · refine dt_aload_n X 0 dX8_readsNumber_14 rfl rfl ?_
    refine dt_get X (T := TX8) (N := 7) (v := .int (dn_g s1 6 5)) 5 (dn_h6 hu) rfl dn_in_X8_readsNumber_8 rfl rfl dn_fw_X8_readsNumber_67 rfl dX8_readsNumber_15 ?_
    refine dt_iload_n X 1 dX8_readsNumber_18 rfl rfl ?_
    refine dt_iload_n X 2 dX8_readsNumber_19 rfl rfl ?_
    refine dt_callZ X (dn_runSN X [.int (dn_g s1 6 5), .int a1, .int a2] (c_X11_within (dn_la g) u hu (dn_g s1 6 5) a1 a2 s1) gX8_readsNumber_X11_within_n96 rfl dn_nm_X8_readsNumber_96 dn_sw_X8_readsNumber_X11_within_1 dn_sw_X8_readsNumber_X11_within_2 dn_hs_X11_within rfl rfl rfl rfl dX8_readsNumber_20) (fun r6 s4 e5 => ?_)
    refine dt_if_eqb X 30 dX8_readsNumber_23 (by decide) ?_ ?_
    · refine dt_iconst X (v := 0) dX8_readsNumber_30 (by decide) ?_
      exact dt_zret (v := false) X dX8_readsNumber_31
    · refine dt_iconst X (v := 1) dX8_readsNumber_26 (by decide) ?_
      refine dt_goto X 31 dX8_readsNumber_27 (by decide) ?_
      exact dt_zret (v := true) X dX8_readsNumber_31
set_option maxRecDepth 100000 in
set_option maxHeartbeats 4000000 in
theorem c_X10_setOfBidder (l : Launch) (u : dn_U) (hu : dn_Lu u = dn_LC) (k : Nat) (a1 : Int32) (a2 : Int32) (a3 : Int32) (hk : dn_isT k) (s : dn_S) : dn_Met l u yX10_setOfBidder wsX10_setOfBidder 1 22 [.ref (dn_a u k), .int a1, .int a2, .int a3] s (m_X10_setOfBidder k a1 a2 a3 s) (dn_QV u) := by
  refine dt_entry RX10 [(0, .ref (dn_a u k)), (1, .int a1), (2, .int a2), (3, .int a3)] (by decide +kernel) rfl rfl rfl rfl (fun g hgl X => ?_)
  subst hgl
  unfold m_X10_setOfBidder
  refine dt_aload_n X 0 dX10_setOfBidder_0 rfl rfl ?_
  refine dt_get X (T := TX10) (N := 5) (v := .ref (dn_a u (k + 1))) 0 (dn_hT hu hk) rfl dn_in_X10_setOfBidder_10 rfl rfl dn_fw_X10_setOfBidder_11 rfl dX10_setOfBidder_1 ?_
  refine dt_iload_n X 1 dX10_setOfBidder_4 rfl rfl ?_
  refine dt_bipush X (v := 7) dX10_setOfBidder_5 (by decide) ?_
  refine dt_imul X dX10_setOfBidder_7 ?_
  refine dt_iload_n X 2 dX10_setOfBidder_8 rfl rfl ?_
  refine dt_iadd X dX10_setOfBidder_9 ?_
  refine dt_iload_n X 3 dX10_setOfBidder_10 rfl rfl ?_
  refine dt_callV X (dn_runSN X [.ref (dn_a u (k + 1)), .int ((a1 * 7) + a2), .int a3] (c_X11_put (dn_la g) u hu (k + 1) 28 ((a1 * 7) + a2) a3 (dn_hT1 hu hk) s) gX10_setOfBidder_X11_put_n36 rfl dn_nm_X10_setOfBidder_36 dn_sw_X10_setOfBidder_X11_put_1 dn_sw_X10_setOfBidder_X11_put_2 dn_hs_X11_put rfl rfl rfl rfl dX10_setOfBidder_11) (fun r3 s1 e2 => ?_)
  exact dt_vret X dX10_setOfBidder_14
set_option maxRecDepth 100000 in
set_option maxHeartbeats 4000000 in
theorem c_X8_readsEnd (l : Launch) (u : dn_U) (hu : dn_Lu u = dn_LC) (s : dn_S) : dn_Met l u yX8_readsEnd wsX8_readsEnd 3 63 [.ref (dn_a u 6)] s (m_X8_readsEnd  s) (dn_QZ u) := by
  refine dt_entry RX8 [(0, .ref (dn_a u 6))] (by decide +kernel) rfl rfl rfl rfl (fun g hgl X => ?_)
  subst hgl
  unfold m_X8_readsEnd
  refine dt_aload_n X 0 dX8_readsEnd_0 rfl rfl ?_
  refine dt_callV X (dn_runV X (T := TX8) (N := 7) [] (dn_h6 hu) rfl rfl (c_X8_nextToken (dn_la g) u hu s) gX8_readsEnd_X8_nextToken rfl dn_hd_X8_nextToken rfl rfl rfl rfl dX8_readsEnd_1) (fun r3 s1 e2 => ?_)
  refine dt_aload_n X 0 dX8_readsEnd_4 rfl rfl ?_
  refine dt_get X (T := TX8) (N := 7) (v := .int (dn_g s1 6 4)) 4 (dn_h6 hu) rfl dn_in_X8_readsEnd_8 rfl rfl dn_fw_X8_readsEnd_36 rfl dX8_readsEnd_5 ?_
  refine dt_bipush X (v := 59) dX8_readsEnd_8 (by decide) ?_
  refine dt_icmp_ne X 17 dX8_readsEnd_10 (by decide) ?_ ?_
  · refine dt_iconst X (v := 0) dX8_readsEnd_17 (by decide) ?_
    exact dt_zret (v := false) X dX8_readsEnd_18
  · refine dt_iconst X (v := 1) dX8_readsEnd_13 (by decide) ?_
    refine dt_goto X 18 dX8_readsEnd_14 (by decide) ?_
    exact dt_zret (v := true) X dX8_readsEnd_18
set_option maxRecDepth 100000 in
set_option maxHeartbeats 4000000 in
theorem b_X8_readsBidder_17 {g : dn_M} {u : dn_U} (hu : dn_Lu u = dn_LC) (X : dn_X u g cX8_readsBidder wsX8_readsBidder RX8 3 4 85 (some .boolean)) : ∀ (n : Nat) (y1 : Int32) (y2 : Int32) (s : dn_S), dn_T u g 3 (dn_QZ u) (m_X8_readsBidder_17 n y1 y2 s) s 17 [(0, .ref (dn_a u 6)), (1, .int y1), (2, .int y2)] [] := by
  intro n
  induction n with
  | zero =>
    intro y1 y2 s
    exact dt_none X
  | succ n ih =>
    intro y1 y2 s
    rw [m_X8_readsBidder_17]
    refine dt_iload_n X 2 dX8_readsBidder_17 rfl rfl ?_
    refine dt_bipush X (v := 7) dX8_readsBidder_18 (by decide) ?_
    refine dt_icmp_ge X 59 dX8_readsBidder_20 (by decide) ?_ ?_
    · refine dt_aload_n X 0 dX8_readsBidder_59 rfl rfl ?_
      refine dt_callZ X (dn_runV X (T := TX8) (N := 7) [] (dn_h6 hu) rfl rfl (c_X8_readsEnd (dn_la g) u hu s) gX8_readsBidder_X8_readsEnd rfl dn_hd_X8_readsEnd rfl rfl rfl rfl dX8_readsBidder_60) (fun r3 s1 e2 => ?_)
      refine dt_if_neb X 68 dX8_readsBidder_63 (by decide) ?_ ?_
      · refine dt_aload_n X 0 dX8_readsBidder_68 rfl rfl ?_
        refine dt_get X (T := TX8) (N := 7) (v := .ref (dn_a u 7)) 1 (dn_h6 hu) rfl dn_in_X8_readsBidder_8 rfl rfl dn_fw_X8_readsBidder_12 rfl dX8_readsBidder_69 ?_
        refine dt_dup X dX8_readsBidder_72 rfl ?_
        refine dt_getN X (T := TX10) (N := 5) (v := .int (dn_g s1 7 2)) 2 (dn_hT hu dn_T7) rfl dn_in_X8_readsBidder_10 rfl rfl dn_fw_X8_readsBidder_52 rfl dX8_readsBidder_73 ?_
        refine dt_iconst X (v := 1) dX8_readsBidder_76 (by decide) ?_
        refine dt_iadd X dX8_readsBidder_77 ?_
        refine dt_putN X (T := TX10) (N := 5) 2 (dn_hT hu dn_T7) rfl dn_in_X8_readsBidder_10 rfl tyX10 tyX10_ok nmX10 rfl rfl dn_fw_X8_readsBidder_52 rfl rfl (dn_setT_2 _ _ _ _) dX8_readsBidder_78 (fun s4 => ?_)
        refine dt_iconst X (v := 1) dX8_readsBidder_81 (by decide) ?_
        exact dt_zret (v := true) X dX8_readsBidder_82
      · refine dt_iconst X (v := 0) dX8_readsBidder_66 (by decide) ?_
        exact dt_zret (v := false) X dX8_readsBidder_67
    · refine dt_aload_n X 0 dX8_readsBidder_23 rfl rfl ?_
      refine dt_iconst X (v := 0) dX8_readsBidder_24 (by decide) ?_
      refine dt_gets X dn_tZ0 dn_fw_X8_readsBidder_55 dX8_readsBidder_25 ?_
      refine dt_iload_n X 2 dX8_readsBidder_28 rfl rfl ?_
      refine dt_callI X (dn_runSN X [.ref u.2.2.2.1.1, .int y2] (c_X11_at_s (dn_la g) u hu 7 dn_st0 y2 u.2.2.2.1.1 dn_tT0 s) gX8_readsBidder_X11_at_n59 rfl dn_nm_X8_readsBidder_59 dn_sw_X8_readsBidder_X11_at_1 dn_sw_X8_readsBidder_X11_at_2 dn_hs_X11_at rfl rfl rfl rfl dX8_readsBidder_29) (fun r7 s5 e6 => ?_)
      refine dt_callZ X (dn_runV X (T := TX8) (N := 7) [.int 0, .int r7] (dn_h6 hu) rfl rfl (c_X8_readsNumber (dn_la g) u hu 0 r7 s5) gX8_readsBidder_X8_readsNumber rfl dn_hd_X8_readsNumber rfl rfl rfl rfl dX8_readsBidder_32) (fun r10 s8 e9 => ?_)
      refine dt_if_neb X 40 dX8_readsBidder_35 (by decide) ?_ ?_
      · refine dt_aload_n X 0 dX8_readsBidder_40 rfl rfl ?_
        refine dt_get X (T := TX8) (N := 7) (v := .ref (dn_a u 7)) 1 (dn_h6 hu) rfl dn_in_X8_readsBidder_8 rfl rfl dn_fw_X8_readsBidder_12 rfl dX8_readsBidder_41 ?_
        refine dt_iload_n X 1 dX8_readsBidder_44 rfl rfl ?_
        refine dt_iload_n X 2 dX8_readsBidder_45 rfl rfl ?_
        refine dt_aload_n X 0 dX8_readsBidder_46 rfl rfl ?_
        refine dt_get X (T := TX8) (N := 7) (v := .int (dn_g s8 6 5)) 5 (dn_h6 hu) rfl dn_in_X8_readsBidder_8 rfl rfl dn_fw_X8_readsBidder_67 rfl dX8_readsBidder_47 ?_
        refine dt_callV X (dn_runV X (T := TX10) (N := 5) [.int y1, .int y2, .int (dn_g s8 6 5)] (dn_hT hu dn_T7) rfl rfl (c_X10_setOfBidder (dn_la g) u hu 7 y1 y2 (dn_g s8 6 5) dn_T7 s8) gX8_readsBidder_X10_setOfBidder rfl dn_hd_X10_setOfBidder rfl rfl rfl rfl dX8_readsBidder_50) (fun r13 s11 e12 => ?_)
        refine dt_iinc X (v := y2 + 1) 2 [(2, .int (y2 + 1)), (0, .ref (dn_a u 6)), (1, .int y1)] dX8_readsBidder_53 rfl (by rfl) rfl rfl ?_
        refine dt_ilet X rfl (fun x14 => ?_)
        refine dt_goto X 17 dX8_readsBidder_56 (by decide) ?_
        refine dt_sub X [(0, .ref (dn_a u 6)), (1, .int y1), (2, .int x14)] [1, 2, 0] rfl ?_
        exact ih y1 x14 s11
      · refine dt_iconst X (v := 0) dX8_readsBidder_38 (by decide) ?_
        exact dt_zret (v := false) X dX8_readsBidder_39
set_option maxRecDepth 100000 in
set_option maxHeartbeats 4000000 in
theorem c_X8_readsBidder (l : Launch) (u : dn_U) (hu : dn_Lu u = dn_LC) (s : dn_S) : dn_Met l u yX8_readsBidder wsX8_readsBidder 4 85 [.ref (dn_a u 6)] s (m_X8_readsBidder  s) (dn_QZ u) := by
  refine dt_entry RX8 [(0, .ref (dn_a u 6))] (by decide +kernel) rfl rfl rfl rfl (fun g hgl X => ?_)
  subst hgl
  unfold m_X8_readsBidder
  refine dt_aload_n X 0 dX8_readsBidder_0 rfl rfl ?_
  refine dt_get X (T := TX8) (N := 7) (v := .ref (dn_a u 7)) 1 (dn_h6 hu) rfl dn_in_X8_readsBidder_8 rfl rfl dn_fw_X8_readsBidder_12 rfl dX8_readsBidder_1 ?_
  refine dt_getN X (T := TX10) (N := 5) (v := .int (dn_g s 7 2)) 2 (dn_hT hu dn_T7) rfl dn_in_X8_readsBidder_10 rfl rfl dn_fw_X8_readsBidder_52 rfl dX8_readsBidder_4 ?_
  refine dt_let X (fun x1 => ?_)
  refine dt_istore_n X [(1, .int x1), (0, .ref (dn_a u 6))] dX8_readsBidder_7 rfl rfl rfl ?_
  refine dt_iload_n X 0 dX8_readsBidder_8 rfl rfl ?_
  refine dt_iconst X (v := 4) dX8_readsBidder_9 (by decide) ?_
  refine dt_icmp_lt X 15 dX8_readsBidder_10 (by decide) ?_ ?_
  · refine dt_iconst X (v := 0) dX8_readsBidder_15 (by decide) ?_
    refine dt_istore_n X [(2, .int 0), (1, .int x1), (0, .ref (dn_a u 6))] dX8_readsBidder_16 rfl rfl rfl ?_
    refine dt_sub X [(0, .ref (dn_a u 6)), (1, .int x1), (2, .int 0)] [2, 1, 0] rfl ?_
    exact b_X8_readsBidder_17 hu X 2048 x1 0 s
  · refine dt_iconst X (v := 0) dX8_readsBidder_13 (by decide) ?_
    exact dt_zret (v := false) X dX8_readsBidder_14
set_option maxRecDepth 100000 in
set_option maxHeartbeats 4000000 in
theorem c_X8_readsBar (l : Launch) (u : dn_U) (hu : dn_Lu u = dn_LC) (s : dn_S) : dn_Met l u yX8_readsBar wsX8_readsBar 4 85 [.ref (dn_a u 6)] s (m_X8_readsBar  s) (dn_QZ u) := by
  refine dt_entry RX8 [(0, .ref (dn_a u 6))] (by decide +kernel) rfl rfl rfl rfl (fun g hgl X => ?_)
  subst hgl
  unfold m_X8_readsBar
  refine dt_aload_n X 0 dX8_readsBar_0 rfl rfl ?_
  refine dt_get X (T := TX8) (N := 7) (v := .int (dn_g s 6 6)) 6 (dn_h6 hu) rfl dn_in_X8_readsBar_8 rfl rfl dn_fw_X8_readsBar_26 rfl dX8_readsBar_1 ?_
  refine dt_if_ne X 17 dX8_readsBar_4 (by decide) ?_ ?_
  · refine dt_iconst X (v := 0) dX8_readsBar_17 (by decide) ?_
    exact dt_zret (v := false) X dX8_readsBar_18
  · refine dt_aload_n X 0 dX8_readsBar_7 rfl rfl ?_
    refine dt_iconst X (v := 0) dX8_readsBar_8 (by decide) ?_
    refine dt_bipush X (v := 7) dX8_readsBar_9 (by decide) ?_
    refine dt_callZ X (dn_runV X (T := TX8) (N := 7) [.int 0, .int 7] (dn_h6 hu) rfl rfl (c_X8_readsNumber (dn_la g) u hu 0 7 s) gX8_readsBar_X8_readsNumber rfl dn_hd_X8_readsNumber rfl rfl rfl rfl dX8_readsBar_11) (fun r3 s1 e2 => ?_)
    refine dt_if_neb X 19 dX8_readsBar_14 (by decide) ?_ ?_
    · refine dt_aload_n X 0 dX8_readsBar_19 rfl rfl ?_
      refine dt_iconst X (v := 1) dX8_readsBar_20 (by decide) ?_
      refine dt_putz X (v := true) (T := TX8) (N := 7) 6 (dn_h6 hu) rfl dn_in_X8_readsBar_8 rfl tyX8 tyX8_ok nmX8 rfl rfl dn_fw_X8_readsBar_26 rfl rfl (dn_set6_6 _ _ _) dX8_readsBar_21 (fun s4 => ?_)
      refine dt_aload_n X 0 dX8_readsBar_24 rfl rfl ?_
      refine dt_get X (T := TX8) (N := 7) (v := .ref (dn_a u 7)) 1 (dn_h6 hu) rfl dn_in_X8_readsBar_8 rfl rfl dn_fw_X8_readsBar_12 rfl dX8_readsBar_25 ?_
      refine dt_aload_n X 0 dX8_readsBar_28 rfl rfl ?_
      refine dt_get X (T := TX8) (N := 7) (v := .int (dn_g s4 6 5)) 5 (dn_h6 hu) rfl dn_in_X8_readsBar_8 rfl rfl dn_fw_X8_readsBar_67 rfl dX8_readsBar_29 ?_
      refine dt_putN X (T := TX10) (N := 5) 4 (dn_hT hu dn_T7) rfl dn_in_X8_readsBar_10 rfl tyX10 tyX10_ok nmX10 rfl rfl dn_fw_X8_readsBar_77 rfl rfl (dn_setT_4 _ _ _ _) dX8_readsBar_32 (fun s5 => ?_)
      refine dt_aload_n X 0 dX8_readsBar_35 rfl rfl ?_
      refine dt_callZ X (dn_runV X (T := TX8) (N := 7) [] (dn_h6 hu) rfl rfl (c_X8_readsEnd (dn_la g) u hu s5) gX8_readsBar_X8_readsEnd rfl dn_hd_X8_readsEnd rfl rfl rfl rfl dX8_readsBar_36) (fun r8 s6 e7 => ?_)
      exact dt_zret (v := r8) X dX8_readsBar_39
    · refine dt_iconst X (v := 0) dX8_readsBar_17 (by decide) ?_
      exact dt_zret (v := false) X dX8_readsBar_18
set_option maxRecDepth 100000 in
set_option maxHeartbeats 4000000 in
theorem c_X10_ofDebt (l : Launch) (u : dn_U) (hu : dn_Lu u = dn_LC) (k : Nat) (a1 : Int32) (a2 : Int32) (hk : dn_isT k) (s : dn_S) : dn_Met l u yX10_ofDebt wsX10_ofDebt 1 21 [.ref (dn_a u k), .int a1, .int a2] s (m_X10_ofDebt k a1 a2 s) (dn_QI u) := by
  refine dt_entry RX10 [(0, .ref (dn_a u k)), (1, .int a1), (2, .int a2)] (by decide +kernel) rfl rfl rfl rfl (fun g hgl X => ?_)
  subst hgl
  unfold m_X10_ofDebt
  refine dt_aload_n X 0 dX10_ofDebt_0 rfl rfl ?_
  refine dt_get X (T := TX10) (N := 5) (v := .ref (dn_a u (k + 2))) 1 (dn_hT hu hk) rfl dn_in_X10_ofDebt_10 rfl rfl dn_fw_X10_ofDebt_15 rfl dX10_ofDebt_1 ?_
  refine dt_iload_n X 1 dX10_ofDebt_4 rfl rfl ?_
  refine dt_iconst X (v := 5) dX10_ofDebt_5 (by decide) ?_
  refine dt_imul X dX10_ofDebt_6 ?_
  refine dt_iload_n X 2 dX10_ofDebt_7 rfl rfl ?_
  refine dt_iadd X dX10_ofDebt_8 ?_
  refine dt_callI X (dn_runSN X [.ref (dn_a u (k + 2)), .int ((a1 * 5) + a2)] (c_X11_at (dn_la g) u hu (k + 2) 30 ((a1 * 5) + a2) (dn_hT2 hu hk) s) gX10_ofDebt_X11_at_n32 rfl dn_nm_X10_ofDebt_32 dn_sw_X10_ofDebt_X11_at_1 dn_sw_X10_ofDebt_X11_at_2 dn_hs_X11_at rfl rfl rfl rfl dX10_ofDebt_9) (fun r3 s1 e2 => ?_)
  exact dt_iret X dX10_ofDebt_12
set_option maxRecDepth 100000 in
set_option maxHeartbeats 4000000 in
theorem c_X10_setOfDebt (l : Launch) (u : dn_U) (hu : dn_Lu u = dn_LC) (k : Nat) (a1 : Int32) (a2 : Int32) (a3 : Int32) (hk : dn_isT k) (s : dn_S) : dn_Met l u yX10_setOfDebt wsX10_setOfDebt 1 22 [.ref (dn_a u k), .int a1, .int a2, .int a3] s (m_X10_setOfDebt k a1 a2 a3 s) (dn_QV u) := by
  refine dt_entry RX10 [(0, .ref (dn_a u k)), (1, .int a1), (2, .int a2), (3, .int a3)] (by decide +kernel) rfl rfl rfl rfl (fun g hgl X => ?_)
  subst hgl
  unfold m_X10_setOfDebt
  refine dt_aload_n X 0 dX10_setOfDebt_0 rfl rfl ?_
  refine dt_get X (T := TX10) (N := 5) (v := .ref (dn_a u (k + 2))) 1 (dn_hT hu hk) rfl dn_in_X10_setOfDebt_10 rfl rfl dn_fw_X10_setOfDebt_15 rfl dX10_setOfDebt_1 ?_
  refine dt_iload_n X 1 dX10_setOfDebt_4 rfl rfl ?_
  refine dt_iconst X (v := 5) dX10_setOfDebt_5 (by decide) ?_
  refine dt_imul X dX10_setOfDebt_6 ?_
  refine dt_iload_n X 2 dX10_setOfDebt_7 rfl rfl ?_
  refine dt_iadd X dX10_setOfDebt_8 ?_
  refine dt_iload_n X 3 dX10_setOfDebt_9 rfl rfl ?_
  refine dt_callV X (dn_runSN X [.ref (dn_a u (k + 2)), .int ((a1 * 5) + a2), .int a3] (c_X11_put (dn_la g) u hu (k + 2) 30 ((a1 * 5) + a2) a3 (dn_hT2 hu hk) s) gX10_setOfDebt_X11_put_n36 rfl dn_nm_X10_setOfDebt_36 dn_sw_X10_setOfDebt_X11_put_1 dn_sw_X10_setOfDebt_X11_put_2 dn_hs_X11_put rfl rfl rfl rfl dX10_setOfDebt_10) (fun r3 s1 e2 => ?_)
  exact dt_vret X dX10_setOfDebt_13
set_option maxRecDepth 100000 in
set_option maxHeartbeats 4000000 in
theorem b_X8_readsDebt_88 {g : dn_M} {u : dn_U} (hu : dn_Lu u = dn_LC) (X : dn_X u g cX8_readsDebt wsX8_readsDebt RX8 4 4 85 (some .boolean)) (K18 : Int32 → Int32 → dn_S → Option (Bool × dn_S)) (H18 : ∀ (y1 : Int32) (y2 : Int32) (s : dn_S), dn_T u g 4 (dn_QZ u) (K18 y1 y2 s) s 18 [(0, .ref (dn_a u 6)), (1, .int y1), (2, .int y2)] []) (y1 : Int32) (y2 : Int32) (s : dn_S) : dn_T u g 4 (dn_QZ u) (m_X8_readsDebt_88 K18 y1 y2 s) s 88 [(0, .ref (dn_a u 6)), (1, .int y1), (2, .int y2)] [] := by
  unfold m_X8_readsDebt_88
  refine dt_aload_n X 0 dX8_readsDebt_88 rfl rfl ?_
  refine dt_get X (T := TX8) (N := 7) (v := .ref (dn_a u 7)) 1 (dn_h6 hu) rfl dn_in_X8_readsDebt_8 rfl rfl dn_fw_X8_readsDebt_12 rfl dX8_readsDebt_89 ?_
  refine dt_iload_n X 1 dX8_readsDebt_92 rfl rfl ?_
  refine dt_iload_n X 2 dX8_readsDebt_93 rfl rfl ?_
  refine dt_aload_n X 0 dX8_readsDebt_94 rfl rfl ?_
  refine dt_get X (T := TX8) (N := 7) (v := .int (dn_g s 6 5)) 5 (dn_h6 hu) rfl dn_in_X8_readsDebt_8 rfl rfl dn_fw_X8_readsDebt_67 rfl dX8_readsDebt_95 ?_
  refine dt_callV X (dn_runV X (T := TX10) (N := 5) [.int y1, .int y2, .int (dn_g s 6 5)] (dn_hT hu dn_T7) rfl rfl (c_X10_setOfDebt (dn_la g) u hu 7 y1 y2 (dn_g s 6 5) dn_T7 s) gX8_readsDebt_X10_setOfDebt rfl dn_hd_X10_setOfDebt rfl rfl rfl rfl dX8_readsDebt_98) (fun r3 s1 e2 => ?_)
  refine dt_iinc X (v := y2 + 1) 2 [(2, .int (y2 + 1)), (0, .ref (dn_a u 6)), (1, .int y1)] dX8_readsDebt_101 rfl (by rfl) rfl rfl ?_
  refine dt_ilet X rfl (fun x4 => ?_)
  refine dt_goto X 18 dX8_readsDebt_104 (by decide) ?_
  refine dt_sub X [(0, .ref (dn_a u 6)), (1, .int y1), (2, .int x4)] [1, 2, 0] rfl ?_
  exact H18 y1 x4 s1
set_option maxRecDepth 100000 in
set_option maxHeartbeats 4000000 in
theorem b_X8_readsDebt_47 {g : dn_M} {u : dn_U} (hu : dn_Lu u = dn_LC) (X : dn_X u g cX8_readsDebt wsX8_readsDebt RX8 4 4 85 (some .boolean)) (K18 : Int32 → Int32 → dn_S → Option (Bool × dn_S)) (H18 : ∀ (y1 : Int32) (y2 : Int32) (s : dn_S), dn_T u g 4 (dn_QZ u) (K18 y1 y2 s) s 18 [(0, .ref (dn_a u 6)), (1, .int y1), (2, .int y2)] []) (y1 : Int32) (y2 : Int32) (z0 : Int32) (s : dn_S) : dn_T u g 4 (dn_QZ u) (m_X8_readsDebt_47 K18 y1 y2 z0 s) s 47 [(0, .ref (dn_a u 6)), (1, .int y1), (2, .int y2)] [.int z0] := by
  unfold m_X8_readsDebt_47
  refine dt_istore_n X [(3, .int z0), (0, .ref (dn_a u 6)), (1, .int y1), (2, .int y2)] dX8_readsDebt_47 rfl rfl rfl ?_
  refine dt_aload_n X 1 dX8_readsDebt_48 rfl rfl ?_
  refine dt_gets X dn_tZ1 dn_fw_X8_readsDebt_86 dX8_readsDebt_49 ?_
  refine dt_iload_n X 3 dX8_readsDebt_52 rfl rfl ?_
  refine dt_callI X (dn_runSN X [.ref u.2.2.2.1.2.1, .int y2] (c_X11_at_s (dn_la g) u hu 5 dn_st1 y2 u.2.2.2.1.2.1 dn_tT1 s) gX8_readsDebt_X11_at_n59 rfl dn_nm_X8_readsDebt_59 dn_sw_X8_readsDebt_X11_at_1 dn_sw_X8_readsDebt_X11_at_2 dn_hs_X11_at rfl rfl rfl rfl dX8_readsDebt_53) (fun r3 s1 e2 => ?_)
  refine dt_iload_n X 0 dX8_readsDebt_56 rfl rfl ?_
  refine dt_callZ X (dn_runV X (T := TX8) (N := 7) [.int r3, .int z0] (dn_h6 hu) rfl rfl (c_X8_readsNumber (dn_la g) u hu r3 z0 s1) gX8_readsDebt_X8_readsNumber rfl dn_hd_X8_readsNumber rfl rfl rfl rfl dX8_readsDebt_57) (fun r6 s4 e5 => ?_)
  refine dt_if_neb X 65 dX8_readsDebt_60 (by decide) ?_ ?_
  · refine dt_iload_n X 3 dX8_readsDebt_65 rfl rfl ?_
    refine dt_iconst X (v := 1) dX8_readsDebt_66 (by decide) ?_
    refine dt_icmp_ne X 88 dX8_readsDebt_67 (by decide) ?_ ?_
    · refine dt_sub X [(0, .ref (dn_a u 6)), (1, .int y1), (2, .int y2)] [1, 2, 3] rfl ?_
      exact b_X8_readsDebt_88 hu X K18 H18 y1 y2 s4
    · refine dt_aload_n X 1 dX8_readsDebt_70 rfl rfl ?_
      refine dt_get X (T := TX8) (N := 7) (v := .int (dn_g s4 6 5)) 5 (dn_h6 hu) rfl dn_in_X8_readsDebt_8 rfl rfl dn_fw_X8_readsDebt_67 rfl dX8_readsDebt_71 ?_
      refine dt_aload_n X 1 dX8_readsDebt_74 rfl rfl ?_
      refine dt_get X (T := TX8) (N := 7) (v := .ref (dn_a u 7)) 1 (dn_h6 hu) rfl dn_in_X8_readsDebt_8 rfl rfl dn_fw_X8_readsDebt_12 rfl dX8_readsDebt_75 ?_
      refine dt_iload_n X 2 dX8_readsDebt_78 rfl rfl ?_
      refine dt_iconst X (v := 0) dX8_readsDebt_79 (by decide) ?_
      refine dt_callI X (dn_runV X (T := TX10) (N := 5) [.int y1, .int 0] (dn_hT hu dn_T7) rfl rfl (c_X10_ofDebt (dn_la g) u hu 7 y1 0 dn_T7 s4) gX8_readsDebt_X10_ofDebt rfl dn_hd_X10_ofDebt rfl rfl rfl rfl dX8_readsDebt_80) (fun r9 s7 e8 => ?_)
      refine dt_icmp_ne X 88 dX8_readsDebt_83 (by decide) ?_ ?_
      · refine dt_sub X [(0, .ref (dn_a u 6)), (1, .int y1), (2, .int y2)] [1, 2, 3] rfl ?_
        exact b_X8_readsDebt_88 hu X K18 H18 y1 y2 s7
      · refine dt_iconst X (v := 0) dX8_readsDebt_86 (by decide) ?_
        exact dt_zret (v := false) X dX8_readsDebt_87
  · refine dt_iconst X (v := 0) dX8_readsDebt_63 (by decide) ?_
    exact dt_zret (v := false) X dX8_readsDebt_64
set_option maxRecDepth 100000 in
set_option maxHeartbeats 4000000 in
theorem b_X8_readsDebt_18 {g : dn_M} {u : dn_U} (hu : dn_Lu u = dn_LC) (X : dn_X u g cX8_readsDebt wsX8_readsDebt RX8 4 4 85 (some .boolean)) : ∀ (n : Nat) (y1 : Int32) (y2 : Int32) (s : dn_S), dn_T u g 4 (dn_QZ u) (m_X8_readsDebt_18 n y1 y2 s) s 18 [(0, .ref (dn_a u 6)), (1, .int y1), (2, .int y2)] [] := by
  intro n
  induction n with
  | zero =>
    intro y1 y2 s
    exact dt_none X
  | succ n ih =>
    intro y1 y2 s
    rw [m_X8_readsDebt_18]
    refine dt_iload_n X 2 dX8_readsDebt_18 rfl rfl ?_
    refine dt_iconst X (v := 5) dX8_readsDebt_19 (by decide) ?_
    refine dt_icmp_ge X 107 dX8_readsDebt_20 (by decide) ?_ ?_
    · refine dt_aload_n X 0 dX8_readsDebt_107 rfl rfl ?_
      refine dt_callZ X (dn_runV X (T := TX8) (N := 7) [] (dn_h6 hu) rfl rfl (c_X8_readsEnd (dn_la g) u hu s) gX8_readsDebt_X8_readsEnd rfl dn_hd_X8_readsEnd rfl rfl rfl rfl dX8_readsDebt_108) (fun r3 s1 e2 => ?_)
      refine dt_if_neb X 116 dX8_readsDebt_111 (by decide) ?_ ?_
      · refine dt_aload_n X 0 dX8_readsDebt_116 rfl rfl ?_
        refine dt_get X (T := TX8) (N := 7) (v := .ref (dn_a u 7)) 1 (dn_h6 hu) rfl dn_in_X8_readsDebt_8 rfl rfl dn_fw_X8_readsDebt_12 rfl dX8_readsDebt_117 ?_
        refine dt_dup X dX8_readsDebt_120 rfl ?_
        refine dt_getN X (T := TX10) (N := 5) (v := .int (dn_g s1 7 3)) 3 (dn_hT hu dn_T7) rfl dn_in_X8_readsDebt_10 rfl rfl dn_fw_X8_readsDebt_80 rfl dX8_readsDebt_121 ?_
        refine dt_iconst X (v := 1) dX8_readsDebt_124 (by decide) ?_
        refine dt_iadd X dX8_readsDebt_125 ?_
        refine dt_putN X (T := TX10) (N := 5) 3 (dn_hT hu dn_T7) rfl dn_in_X8_readsDebt_10 rfl tyX10 tyX10_ok nmX10 rfl rfl dn_fw_X8_readsDebt_80 rfl rfl (dn_setT_3 _ _ _ _) dX8_readsDebt_126 (fun s4 => ?_)
        refine dt_iconst X (v := 1) dX8_readsDebt_129 (by decide) ?_
        exact dt_zret (v := true) X dX8_readsDebt_130
      · refine dt_iconst X (v := 0) dX8_readsDebt_114 (by decide) ?_
        exact dt_zret (v := false) X dX8_readsDebt_115
    · refine dt_iload_n X 2 dX8_readsDebt_23 rfl rfl ?_
      refine dt_iconst X (v := 1) dX8_readsDebt_24 (by decide) ?_
      refine dt_icmp_gt X 40 dX8_readsDebt_25 (by decide) ?_ ?_
      · refine dt_gets X dn_tZ2 dn_fw_X8_readsDebt_83 dX8_readsDebt_40 ?_
        refine dt_iload_n X 2 dX8_readsDebt_43 rfl rfl ?_
        refine dt_callI X (dn_runSN X [.ref u.2.2.2.1.2.2, .int y2] (c_X11_at_s (dn_la g) u hu 5 dn_st2 y2 u.2.2.2.1.2.2 dn_tT2 s) gX8_readsDebt_X11_at_n59 rfl dn_nm_X8_readsDebt_59 dn_sw_X8_readsDebt_X11_at_1 dn_sw_X8_readsDebt_X11_at_2 dn_hs_X11_at rfl rfl rfl rfl dX8_readsDebt_44) (fun r7 s5 e6 => ?_)
        refine dt_sub X [(0, .ref (dn_a u 6)), (1, .int y1), (2, .int y2)] [0, 1, 2] rfl ?_
        exact b_X8_readsDebt_47 hu X (m_X8_readsDebt_18 n) ih y1 y2 r7 s5
      · refine dt_aload_n X 0 dX8_readsDebt_28 rfl rfl ?_
        refine dt_get X (T := TX8) (N := 7) (v := .ref (dn_a u 7)) 1 (dn_h6 hu) rfl dn_in_X8_readsDebt_8 rfl rfl dn_fw_X8_readsDebt_12 rfl dX8_readsDebt_29 ?_
        refine dt_getN X (T := TX10) (N := 5) (v := .int (dn_g s 7 2)) 2 (dn_hT hu dn_T7) rfl dn_in_X8_readsDebt_10 rfl rfl dn_fw_X8_readsDebt_52 rfl dX8_readsDebt_32 ?_
        refine dt_iconst X (v := 1) dX8_readsDebt_35 (by decide) ?_
        refine dt_isub X dX8_readsDebt_36 ?_
        refine dt_goto X 47 dX8_readsDebt_37 (by decide) ?_
        refine dt_sub X [(0, .ref (dn_a u 6)), (1, .int y1), (2, .int y2)] [0, 1, 2] rfl ?_
        exact b_X8_readsDebt_47 hu X (m_X8_readsDebt_18 n) ih y1 y2 ((dn_g s 7 2) - 1) s
set_option maxRecDepth 100000 in
set_option maxHeartbeats 4000000 in
theorem c_X8_readsDebt (l : Launch) (u : dn_U) (hu : dn_Lu u = dn_LC) (s : dn_S) : dn_Met l u yX8_readsDebt wsX8_readsDebt 4 85 [.ref (dn_a u 6)] s (m_X8_readsDebt  s) (dn_QZ u) := by
  refine dt_entry RX8 [(0, .ref (dn_a u 6))] (by decide +kernel) rfl rfl rfl rfl (fun g hgl X => ?_)
  subst hgl
  unfold m_X8_readsDebt
  refine dt_aload_n X 0 dX8_readsDebt_0 rfl rfl ?_
  refine dt_get X (T := TX8) (N := 7) (v := .ref (dn_a u 7)) 1 (dn_h6 hu) rfl dn_in_X8_readsDebt_8 rfl rfl dn_fw_X8_readsDebt_12 rfl dX8_readsDebt_1 ?_
  refine dt_getN X (T := TX10) (N := 5) (v := .int (dn_g s 7 3)) 3 (dn_hT hu dn_T7) rfl dn_in_X8_readsDebt_10 rfl rfl dn_fw_X8_readsDebt_80 rfl dX8_readsDebt_4 ?_
  refine dt_let X (fun x1 => ?_)
  refine dt_istore_n X [(1, .int x1), (0, .ref (dn_a u 6))] dX8_readsDebt_7 rfl rfl rfl ?_
  refine dt_iload_n X 0 dX8_readsDebt_8 rfl rfl ?_
  refine dt_bipush X (v := 6) dX8_readsDebt_9 (by decide) ?_
  refine dt_icmp_lt X 16 dX8_readsDebt_11 (by decide) ?_ ?_
  · refine dt_iconst X (v := 0) dX8_readsDebt_16 (by decide) ?_
    refine dt_istore_n X [(2, .int 0), (1, .int x1), (0, .ref (dn_a u 6))] dX8_readsDebt_17 rfl rfl rfl ?_
    refine dt_sub X [(0, .ref (dn_a u 6)), (1, .int x1), (2, .int 0)] [2, 1, 0] rfl ?_
    exact b_X8_readsDebt_18 hu X 2048 x1 0 s
  · refine dt_iconst X (v := 0) dX8_readsDebt_14 (by decide) ?_
    exact dt_zret (v := false) X dX8_readsDebt_15
