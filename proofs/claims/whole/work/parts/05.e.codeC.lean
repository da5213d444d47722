set_option maxRecDepth 100000 in
set_option maxHeartbeats 4000000 in
theorem c_X11_hold (l : Launch) (u : dn_U) (hu : dn_Lu u = dn_LC) (a1 : Int32) (a2 : Int32) (a3 : Int32) (s : dn_S) : dn_Met l u yX11_hold wsX11_hold 6 142 [.ref (dn_a u 0), .int a1, .int a2, .int a3] s (m_X11_hold a1 a2 a3 s) (dn_QI u) := by
  refine dt_entry RX11 [(0, .ref (dn_a u 0)), (1, .int a1), (2, .int a2), (3, .int a3)] (by decide +kernel) rfl rfl rfl rfl (fun g hgl X => ?_)
  subst hgl
  unfold m_X11_hold
  refine dt_iload_n X 1 dX11_hold_0 rfl rfl ?_
  refine dt_callZ X (dn_runS X [.int a1] (c_X11_isName (dn_la g) u hu a1 s) gX11_hold_X11_isName rfl dn_hs_X11_isName rfl rfl rfl rfl dX11_hold_1) (fun r3 s1 e2 => ?_)
  refine dt_if_eqb X 26 dX11_hold_4 (by decide) ?_ ?_
  · refine dt_iconst X (v := -1) dX11_hold_26 (by decide) ?_
    exact dt_iret X dX11_hold_27
  · refine dt_iload_n X 2 dX11_hold_7 rfl rfl ?_
    refine dt_iconst X (v := 1) dX11_hold_8 (by decide) ?_
    refine dt_bipush X (v := 6) dX11_hold_9 (by decide) ?_
    refine dt_callZ X (dn_runS X [.int a2, .int 1, .int 6] (c_X11_within (dn_la g) u hu a2 1 6 s1) gX11_hold_X11_within rfl dn_hs_X11_within rfl rfl rfl rfl dX11_hold_11) (fun r6 s4 e5 => ?_)
    refine dt_if_eqb X 26 dX11_hold_14 (by decide) ?_ ?_
    · refine dt_iconst X (v := -1) dX11_hold_26 (by decide) ?_
      exact dt_iret X dX11_hold_27
    · refine dt_iload_n X 3 dX11_hold_17 rfl rfl ?_
      refine dt_iconst X (v := 0) dX11_hold_18 (by decide) ?_
      refine dt_iconst X (v := 1) dX11_hold_19 (by decide) ?_
      refine dt_callZ X (dn_runS X [.int a3, .int 0, .int 1] (c_X11_within (dn_la g) u hu a3 0 1 s4) gX11_hold_X11_within rfl dn_hs_X11_within rfl rfl rfl rfl dX11_hold_20) (fun r9 s7 e8 => ?_)
      refine dt_if_neb X 28 dX11_hold_23 (by decide) ?_ ?_
      · refine dt_aload_n X 0 dX11_hold_28 rfl rfl ?_
        refine dt_get X (T := TX11) (N := 10) (v := .ref (dn_a u 18)) 5 (dn_h0 hu) rfl dn_in_X11_hold_11 rfl rfl dn_fw_X11_hold_53 rfl dX11_hold_29 ?_
        refine dt_aload_n X 0 dX11_hold_32 rfl rfl ?_
        refine dt_get X (T := TX11) (N := 10) (v := .ref (dn_a u 10)) 3 (dn_h0 hu) rfl dn_in_X11_hold_11 rfl rfl dn_fw_X11_hold_35 rfl dX11_hold_33 ?_
        refine dt_iload_n X 1 dX11_hold_36 rfl rfl ?_
        refine dt_iload_n X 2 dX11_hold_37 rfl rfl ?_
        refine dt_iload_n X 3 dX11_hold_38 rfl rfl ?_
        refine dt_callI X (dn_runV X (T := TX5) (N := 3) [.ref (dn_a u 10), .int a1, .int a2, .int a3] (dn_h18 hu) rfl rfl (c_X5_holding (dn_la g) u hu 10 a1 a2 a3 dn_M10 s7) gX11_hold_X5_holding rfl dn_hd_X5_holding rfl rfl rfl rfl dX11_hold_39) (fun r12 s10 e11 => ?_)
        exact dt_iret X dX11_hold_42
      · refine dt_iconst X (v := -1) dX11_hold_26 (by decide) ?_
        exact dt_iret X dX11_hold_27
set_option maxRecDepth 100000 in
set_option maxHeartbeats 4000000 in
theorem b_X1_silenceLower_43 {g : dn_M} {u : dn_U} (hu : dn_Lu u = dn_LC) (X : dn_X u g cX1_silenceLower wsX1_silenceLower RX1 5 1 22 none) (z0 : Int32) (s : dn_S) : dn_T u g 5 (dn_QV u) (m_X1_silenceLower_43 z0 s) s 43 [] [.int z0, .ref (dn_a u 17)] := by
  unfold m_X1_silenceLower_43
  refine dt_iconst X (v := 0) dX1_silenceLower_43 (by decide) ?_
  refine dt_callV X (dn_runSN X [.ref (dn_a u 17), .int z0, .int 0] (c_X11_put (dn_la g) u hu 17 5 z0 0 (dn_h17 hu) s) gX1_silenceLower_X11_put_n53 rfl dn_nm_X1_silenceLower_53 dn_sw_X1_silenceLower_X11_put_1 dn_sw_X1_silenceLower_X11_put_2 dn_hs_X11_put rfl rfl rfl rfl dX1_silenceLower_44) (fun r3 s1 e2 => ?_)
  exact dt_vret X dX1_silenceLower_47
set_option maxRecDepth 100000 in
set_option maxHeartbeats 4000000 in
theorem c_X1_silenceLower (l : Launch) (u : dn_U) (hu : dn_Lu u = dn_LC) (a1 : Int32) (a2 : Int32) (s : dn_S) : dn_Met l u yX1_silenceLower wsX1_silenceLower 1 22 [.ref (dn_a u 15), .int a1, .int a2] s (m_X1_silenceLower a1 a2 s) (dn_QV u) := by
  refine dt_entry RX1 [(0, .ref (dn_a u 15)), (1, .int a1), (2, .int a2)] (by decide +kernel) rfl rfl rfl rfl (fun g hgl X => ?_)
  subst hgl
  unfold m_X1_silenceLower
  refine dt_iload_n X 1 dX1_silenceLower_0 rfl rfl ?_
  refine dt_iload_n X 2 dX1_silenceLower_1 rfl rfl ?_
  refine dt_mmin X dn_mw_X1_silenceLower_min_1 dn_mw_X1_silenceLower_min_2 dn_mw_X1_silenceLower_min_3 dn_mw_X1_silenceLower_min_4 rfl rfl dX1_silenceLower_2 ?_
  refine dt_let X (fun x1 => ?_)
  refine dt_istore_n X [(3, .int x1), (0, .ref (dn_a u 15)), (1, .int a1), (2, .int a2)] dX1_silenceLower_5 rfl rfl rfl ?_
  refine dt_iload_n X 2 dX1_silenceLower_6 rfl rfl ?_
  refine dt_iload_n X 3 dX1_silenceLower_7 rfl rfl ?_
  refine dt_mmax X dn_mw_X1_silenceLower_max_1 dn_mw_X1_silenceLower_max_2 dn_mw_X1_silenceLower_max_3 dn_mw_X1_silenceLower_max_4 rfl rfl dX1_silenceLower_8 ?_
  refine dt_let X (fun x2 => ?_)
  refine dt_istore X [(4, .int x2), (3, .int x1), (0, .ref (dn_a u 15)), (1, .int a1), (2, .int a2)] dX1_silenceLower_11 rfl rfl ?_
  refine dt_aload_n X 2 dX1_silenceLower_13 rfl rfl ?_
  refine dt_get X (T := TX1) (N := 2) (v := .ref (dn_a u 17)) 1 (dn_h15 hu) rfl dn_in_X1_silenceLower_1 rfl rfl dn_fw_X1_silenceLower_15 rfl dX1_silenceLower_14 ?_
  refine dt_aload_n X 2 dX1_silenceLower_17 rfl rfl ?_
  refine dt_get X (T := TX1) (N := 2) (v := .ref (dn_a u 17)) 1 (dn_h15 hu) rfl dn_in_X1_silenceLower_1 rfl rfl dn_fw_X1_silenceLower_15 rfl dX1_silenceLower_18 ?_
  refine dt_iload_n X 1 dX1_silenceLower_21 rfl rfl ?_
  refine dt_callI X (dn_runSN X [.ref (dn_a u 17), .int x1] (c_X11_at (dn_la g) u hu 17 5 x1 (dn_h17 hu) s) gX1_silenceLower_X11_at_n32 rfl dn_nm_X1_silenceLower_32 dn_sw_X1_silenceLower_X11_at_1 dn_sw_X1_silenceLower_X11_at_2 dn_hs_X11_at rfl rfl rfl rfl dX1_silenceLower_22) (fun r5 s3 e4 => ?_)
  refine dt_aload_n X 2 dX1_silenceLower_25 rfl rfl ?_
  refine dt_get X (T := TX1) (N := 2) (v := .ref (dn_a u 17)) 1 (dn_h15 hu) rfl dn_in_X1_silenceLower_1 rfl rfl dn_fw_X1_silenceLower_15 rfl dX1_silenceLower_26 ?_
  refine dt_iload X 0 dX1_silenceLower_29 rfl ?_
  refine dt_callI X (dn_runSN X [.ref (dn_a u 17), .int x2] (c_X11_at (dn_la g) u hu 17 5 x2 (dn_h17 hu) s3) gX1_silenceLower_X11_at_n32 rfl dn_nm_X1_silenceLower_32 dn_sw_X1_silenceLower_X11_at_1 dn_sw_X1_silenceLower_X11_at_2 dn_hs_X11_at rfl rfl rfl rfl dX1_silenceLower_31) (fun r8 s6 e7 => ?_)
  refine dt_icmp_ge X 41 dX1_silenceLower_34 (by decide) ?_ ?_
  · refine dt_iload X 0 dX1_silenceLower_41 rfl ?_
    refine dt_sub X [] [] rfl ?_
    exact b_X1_silenceLower_43 hu X x2 s6
  · refine dt_iload_n X 1 dX1_silenceLower_37 rfl rfl ?_
    refine dt_goto X 43 dX1_silenceLower_38 (by decide) ?_
    refine dt_sub X [] [] rfl ?_
    exact b_X1_silenceLower_43 hu X x1 s6
set_option maxRecDepth 100000 in
set_option maxHeartbeats 4000000 in
theorem c_X4_silenceLower (l : Launch) (u : dn_U) (hu : dn_Lu u = dn_LC) (a1 : Int32) (a2 : Int32) (s : dn_S) : dn_Met l u yX4_silenceLower wsX4_silenceLower 2 46 [.ref (dn_a u 14), .int a1, .int a2] s (m_X4_silenceLower a1 a2 s) (dn_QV u) := by
  refine dt_entry RX4 [(0, .ref (dn_a u 14)), (1, .int a1), (2, .int a2)] (by decide +kernel) rfl rfl rfl rfl (fun g hgl X => ?_)
  subst hgl
  unfold m_X4_silenceLower
  refine dt_aload_n X 0 dX4_silenceLower_0 rfl rfl ?_
  refine dt_get X (T := TX4) (N := 4) (v := .ref (dn_a u 15)) 1 (dn_h14 hu) rfl dn_in_X4_silenceLower_4 rfl rfl dn_fw_X4_silenceLower_12 rfl dX4_silenceLower_1 ?_
  refine dt_iload_n X 1 dX4_silenceLower_4 rfl rfl ?_
  refine dt_iload_n X 2 dX4_silenceLower_5 rfl rfl ?_
  refine dt_callV X (dn_runV X (T := TX1) (N := 2) [.int a1, .int a2] (dn_h15 hu) rfl rfl (c_X1_silenceLower (dn_la g) u hu a1 a2 s) gX4_silenceLower_X1_silenceLower rfl dn_hd_X1_silenceLower rfl rfl rfl rfl dX4_silenceLower_6) (fun r3 s1 e2 => ?_)
  exact dt_vret X dX4_silenceLower_9
set_option maxRecDepth 100000 in
set_option maxHeartbeats 4000000 in
theorem b_X4_paidLast_16 {g : dn_M} {u : dn_U} (hu : dn_Lu u = dn_LC) (X : dn_X u g cX4_paidLast wsX4_paidLast RX4 3 0 0 (some .int)) (s : dn_S) : dn_T u g 3 (dn_QI u) (m_X4_paidLast_16 s) s 16 [(0, .ref (dn_a u 14))] [] := by
  unfold m_X4_paidLast_16
  refine dt_aload_n X 0 dX4_paidLast_16 rfl rfl ?_
  refine dt_get X (T := TX4) (N := 4) (v := .int (dn_g s 14 3)) 3 (dn_h14 hu) rfl dn_in_X4_paidLast_4 rfl rfl dn_fw_X4_paidLast_66 rfl dX4_paidLast_17 ?_
  refine dt_goto X 24 dX4_paidLast_20 (by decide) ?_
  exact dt_iret X dX4_paidLast_24
set_option maxRecDepth 100000 in
set_option maxHeartbeats 4000000 in
theorem c_X4_paidLast (l : Launch) (u : dn_U) (hu : dn_Lu u = dn_LC) (a1 : Int32) (a2 : Int32) (s : dn_S) : dn_Met l u yX4_paidLast wsX4_paidLast 0 0 [.ref (dn_a u 14), .int a1, .int a2] s (m_X4_paidLast a1 a2 s) (dn_QI u) := by
  refine dt_entry RX4 [(0, .ref (dn_a u 14)), (1, .int a1), (2, .int a2)] (by decide +kernel) rfl rfl rfl rfl (fun g hgl X => ?_)
  subst hgl
  unfold m_X4_paidLast
  refine dt_aload_n X 0 dX4_paidLast_0 rfl rfl ?_
  refine dt_get X (T := TX4) (N := 4) (v := .int (dn_g s 14 2)) 2 (dn_h14 hu) rfl dn_in_X4_paidLast_4 rfl rfl dn_fw_X4_paidLast_57 rfl dX4_paidLast_1 ?_
  refine dt_iload_n X 1 dX4_paidLast_4 rfl rfl ?_
  refine dt_icmp_eq X 16 dX4_paidLast_5 (by decide) ?_ ?_
  · refine dt_sub X [(0, .ref (dn_a u 14))] [0] rfl ?_
    exact b_X4_paidLast_16 hu X s
  · refine dt_aload_n X 0 dX4_paidLast_8 rfl rfl ?_
    refine dt_get X (T := TX4) (N := 4) (v := .int (dn_g s 14 2)) 2 (dn_h14 hu) rfl dn_in_X4_paidLast_4 rfl rfl dn_fw_X4_paidLast_57 rfl dX4_paidLast_9 ?_
    refine dt_iload_n X 2 dX4_paidLast_12 rfl rfl ?_
    refine dt_icmp_ne X 23 dX4_paidLast_13 (by decide) ?_ ?_
    · refine dt_iconst X (v := 0) dX4_paidLast_23 (by decide) ?_
      exact dt_iret X dX4_paidLast_24
    · refine dt_sub X [(0, .ref (dn_a u 14))] [0] rfl ?_
      exact b_X4_paidLast_16 hu X s
set_option maxRecDepth 100000 in
set_option maxHeartbeats 4000000 in
theorem b_X5_paidBy_46 {g : dn_M} {u : dn_U} (hu : dn_Lu u = dn_LC) (k1 : Nat) (h1 : dn_isM k1) (X : dn_X u g cX5_paidBy wsX5_paidBy RX5 8 5 115 (some .int)) (K14 : Int32 → Int32 → Int32 → Bool → Int32 → Int32 → dn_S → Option (Int32 × dn_S)) (H14 : ∀ (y2 : Int32) (y3 : Int32) (y4 : Int32) (y5 : Bool) (y6 : Int32) (y7 : Int32) (s : dn_S), dn_T u g 8 (dn_QI u) (K14 y2 y3 y4 y5 y6 y7 s) s 14 [(0, .ref (dn_a u 18)), (2, .int y2), (3, .int y3), (4, .int y4), (5, .int (dn_b y5)), (6, .int y6), (7, .int y7)] []) (y2 : Int32) (y3 : Int32) (y4 : Int32) (y5 : Bool) (y6 : Int32) (y7 : Int32) (s : dn_S) : dn_T u g 8 (dn_QI u) (m_X5_paidBy_46 k1 K14 y2 y3 y4 y5 y6 y7 s) s 46 [(0, .ref (dn_a u 18)), (2, .int y2), (3, .int y3), (4, .int y4), (5, .int (dn_b y5)), (6, .int y6), (7, .int y7)] [] := by
  unfold m_X5_paidBy_46
  refine dt_aload_n X 0 dX5_paidBy_46 rfl rfl ?_
  refine dt_get X (T := TX5) (N := 3) (v := .ref (dn_a u 14)) 1 (dn_h18 hu) rfl dn_in_X5_paidBy_5 rfl rfl dn_fw_X5_paidBy_22 rfl dX5_paidBy_47 ?_
  refine dt_aload_n X 0 dX5_paidBy_50 rfl rfl ?_
  refine dt_get X (T := TX5) (N := 3) (v := .ref (dn_a u 19)) 2 (dn_h18 hu) rfl dn_in_X5_paidBy_5 rfl rfl dn_fw_X5_paidBy_12 rfl dX5_paidBy_51 ?_
  refine dt_callI X (dn_runV X (T := TX4) (N := 4) [.ref (dn_a u 19)] (dn_h14 hu) rfl rfl (c_X4_close (dn_la g) u hu 19 dn_M19 s) gX5_paidBy_X4_close rfl dn_hd_X4_close rfl rfl rfl rfl dX5_paidBy_54) (fun r3 s1 e2 => ?_)
  refine dt_pop X dX5_paidBy_57 rfl ?_
  refine dt_iload X 5 dX5_paidBy_58 rfl ?_
  refine dt_aload_n X 0 dX5_paidBy_60 rfl rfl ?_
  refine dt_get X (T := TX5) (N := 3) (v := .ref (dn_a u 14)) 1 (dn_h18 hu) rfl dn_in_X5_paidBy_5 rfl rfl dn_fw_X5_paidBy_22 rfl dX5_paidBy_61 ?_
  refine dt_iload_n X 1 dX5_paidBy_64 rfl rfl ?_
  refine dt_iload_n X 2 dX5_paidBy_65 rfl rfl ?_
  refine dt_callI X (dn_runV X (T := TX4) (N := 4) [.int y2, .int y3] (dn_h14 hu) rfl rfl (c_X4_paidLast (dn_la g) u hu y2 y3 s1) gX5_paidBy_X4_paidLast rfl dn_hd_X4_paidLast rfl rfl rfl rfl dX5_paidBy_66) (fun r6 s4 e5 => ?_)
  refine dt_iadd X dX5_paidBy_69 ?_
  refine dt_let X (fun x7 => ?_)
  refine dt_istore X [(6, .int x7), (0, .ref (dn_a u 18)), (2, .int y2), (3, .int y3), (4, .int y4), (5, .int (dn_b y5)), (7, .int y7)] dX5_paidBy_70 rfl rfl ?_
  refine dt_iinc X (v := y7 + 1) 6 [(7, .int (y7 + 1)), (6, .int x7), (0, .ref (dn_a u 18)), (2, .int y2), (3, .int y3), (4, .int y4), (5, .int (dn_b y5))] dX5_paidBy_72 rfl (by rfl) rfl rfl ?_
  refine dt_ilet X rfl (fun x8 => ?_)
  refine dt_goto X 14 dX5_paidBy_75 (by decide) ?_
  refine dt_sub X [(0, .ref (dn_a u 18)), (2, .int y2), (3, .int y3), (4, .int y4), (5, .int (dn_b y5)), (6, .int x7), (7, .int x8)] [2, 3, 4, 5, 6, 1, 0] rfl ?_
  exact H14 y2 y3 y4 y5 x7 x8 s4
set_option maxRecDepth 100000 in
set_option maxHeartbeats 4000000 in
theorem b_X5_paidBy_14 {g : dn_M} {u : dn_U} (hu : dn_Lu u = dn_LC) (k1 : Nat) (h1 : dn_isM k1) (X : dn_X u g cX5_paidBy wsX5_paidBy RX5 8 5 115 (some .int)) : ∀ (n : Nat) (y2 : Int32) (y3 : Int32) (y4 : Int32) (y5 : Bool) (y6 : Int32) (y7 : Int32) (s : dn_S), dn_T u g 8 (dn_QI u) (m_X5_paidBy_14 k1 n y2 y3 y4 y5 y6 y7 s) s 14 [(0, .ref (dn_a u 18)), (2, .int y2), (3, .int y3), (4, .int y4), (5, .int (dn_b y5)), (6, .int y6), (7, .int y7)] [] := by
  intro n
  induction n with
  | zero =>
    intro y2 y3 y4 y5 y6 y7 s
    exact dt_none X
  | succ n ih =>
    intro y2 y3 y4 y5 y6 y7 s
    rw [m_X5_paidBy_14]
    refine dt_iload X 6 dX5_paidBy_14 rfl ?_
    refine dt_iload X 3 dX5_paidBy_16 rfl ?_
    refine dt_icmp_gt X 78 dX5_paidBy_18 (by decide) ?_ ?_
    · refine dt_iload X 5 dX5_paidBy_78 rfl ?_
      exact dt_iret X dX5_paidBy_80
    · refine dt_aload_n X 0 dX5_paidBy_21 rfl rfl ?_
      refine dt_get X (T := TX5) (N := 3) (v := .ref (dn_a u 14)) 1 (dn_h18 hu) rfl dn_in_X5_paidBy_5 rfl rfl dn_fw_X5_paidBy_22 rfl dX5_paidBy_22 ?_
      refine dt_aload_n X 0 dX5_paidBy_25 rfl rfl ?_
      refine dt_get X (T := TX5) (N := 3) (v := .ref (dn_a u 19)) 2 (dn_h18 hu) rfl dn_in_X5_paidBy_5 rfl rfl dn_fw_X5_paidBy_12 rfl dX5_paidBy_26 ?_
      refine dt_callV X (dn_runV X (T := TX4) (N := 4) [.ref (dn_a u 19)] (dn_h14 hu) rfl rfl (c_X4_open (dn_la g) u hu 19 dn_M19 s) gX5_paidBy_X4_open rfl dn_hd_X4_open rfl rfl rfl rfl dX5_paidBy_29) (fun r3 s1 e2 => ?_)
      refine dt_iload X 4 dX5_paidBy_32 rfl ?_
      refine dt_if_eqb X 46 dX5_paidBy_34 (by decide) ?_ ?_
      · refine dt_sub X [(0, .ref (dn_a u 18)), (2, .int y2), (3, .int y3), (4, .int y4), (5, .int (dn_b y5)), (6, .int y6), (7, .int y7)] [0, 1, 2, 3, 4, 5, 6] rfl ?_
        exact b_X5_paidBy_46 hu k1 h1 X (m_X5_paidBy_14 k1 n) ih y2 y3 y4 y5 y6 y7 s1
      · refine dt_aload_n X 0 dX5_paidBy_37 rfl rfl ?_
        refine dt_get X (T := TX5) (N := 3) (v := .ref (dn_a u 14)) 1 (dn_h18 hu) rfl dn_in_X5_paidBy_5 rfl rfl dn_fw_X5_paidBy_22 rfl dX5_paidBy_38 ?_
        refine dt_iload_n X 1 dX5_paidBy_41 rfl rfl ?_
        refine dt_iload_n X 2 dX5_paidBy_42 rfl rfl ?_
        refine dt_callV X (dn_runV X (T := TX4) (N := 4) [.int y2, .int y3] (dn_h14 hu) rfl rfl (c_X4_silenceLower (dn_la g) u hu y2 y3 s1) gX5_paidBy_X4_silenceLower rfl dn_hd_X4_silenceLower rfl rfl rfl rfl dX5_paidBy_43) (fun r6 s4 e5 => ?_)
        refine dt_sub X [(0, .ref (dn_a u 18)), (2, .int y2), (3, .int y3), (4, .int y4), (5, .int (dn_b y5)), (6, .int y6), (7, .int y7)] [0, 1, 2, 3, 4, 5, 6] rfl ?_
        exact b_X5_paidBy_46 hu k1 h1 X (m_X5_paidBy_14 k1 n) ih y2 y3 y4 y5 y6 y7 s4
set_option maxRecDepth 100000 in
set_option maxHeartbeats 4000000 in
theorem c_X5_paidBy (l : Launch) (u : dn_U) (hu : dn_Lu u = dn_LC) (k1 : Nat) (a2 : Int32) (a3 : Int32) (a4 : Int32) (a5 : Bool) (h1 : dn_isM k1) (s : dn_S) : dn_Met l u yX5_paidBy wsX5_paidBy 5 115 [.ref (dn_a u 18), .ref (dn_a u k1), .int a2, .int a3, .int a4, .int (dn_b a5)] s (m_X5_paidBy k1 a2 a3 a4 a5 s) (dn_QI u) := by
  refine dt_entry RX5 [(0, .ref (dn_a u 18)), (1, .ref (dn_a u k1)), (2, .int a2), (3, .int a3), (4, .int a4), (5, .int (dn_b a5))] (by decide +kernel) rfl rfl rfl rfl (fun g hgl X => ?_)
  subst hgl
  unfold m_X5_paidBy
  refine dt_iconst X (v := 0) dX5_paidBy_0 (by decide) ?_
  refine dt_istore X [(6, .int 0), (0, .ref (dn_a u 18)), (1, .ref (dn_a u k1)), (2, .int a2), (3, .int a3), (4, .int a4), (5, .int (dn_b a5))] dX5_paidBy_1 rfl rfl ?_
  refine dt_aload_n X 1 dX5_paidBy_3 rfl rfl ?_
  refine dt_get X (T := TX5) (N := 3) (v := .ref (dn_a u 19)) 2 (dn_h18 hu) rfl dn_in_X5_paidBy_5 rfl rfl dn_fw_X5_paidBy_12 rfl dX5_paidBy_4 ?_
  refine dt_aload_n X 2 dX5_paidBy_7 rfl rfl ?_
  refine dt_callV X (dn_runV X (T := TX3) (N := 8) [.ref (dn_a u k1)] (dn_hM hu dn_M19) rfl rfl (c_X3_copyFrom (dn_la g) u hu 19 k1 dn_M19 h1 s) gX5_paidBy_X3_copyFrom rfl dn_hd_X3_copyFrom rfl rfl rfl rfl dX5_paidBy_8) (fun r3 s1 e2 => ?_)
  refine dt_iconst X (v := 1) dX5_paidBy_11 (by decide) ?_
  refine dt_istore X [(7, .int 1), (6, .int 0), (0, .ref (dn_a u 18)), (1, .ref (dn_a u k1)), (2, .int a2), (3, .int a3), (4, .int a4), (5, .int (dn_b a5))] dX5_paidBy_12 rfl rfl ?_
  refine dt_sub X [(0, .ref (dn_a u 18)), (2, .int a2), (3, .int a3), (4, .int a4), (5, .int (dn_b a5)), (6, .int 0), (7, .int 1)] [2, 4, 5, 6, 7, 1, 0] rfl ?_
  exact b_X5_paidBy_14 hu k1 h1 X 2048 a2 a3 a4 a5 0 1 s1
set_option maxRecDepth 100000 in
set_option maxHeartbeats 4000000 in
theorem c_X11_ring (l : Launch) (u : dn_U) (hu : dn_Lu u = dn_LC) (a1 : Int32) (a2 : Int32) (a3 : Int32) (s : dn_S) : dn_Met l u yX11_ring wsX11_ring 6 142 [.ref (dn_a u 0), .int a1, .int a2, .int a3] s (m_X11_ring a1 a2 a3 s) (dn_QI u) := by
  refine dt_entry RX11 [(0, .ref (dn_a u 0)), (1, .int a1), (2, .int a2), (3, .int a3)] (by decide +kernel) rfl rfl rfl rfl (fun g hgl X => ?_)
  subst hgl
  unfold m_X11_ring
  refine dt_aload_n X 0 dX11_ring_0 rfl rfl ?_
  refine dt_iload_n X 1 dX11_ring_1 rfl rfl ?_
  refine dt_callZ X (dn_runV X (T := TX11) (N := 10) [.int a1] (dn_h0 hu) rfl rfl (c_X11_isBidder (dn_la g) u hu a1 s) gX11_ring_X11_isBidder rfl dn_hd_X11_isBidder rfl rfl rfl rfl dX11_ring_2) (fun r3 s1 e2 => ?_)
  refine dt_if_eqb X 31 dX11_ring_5 (by decide) ?_ ?_
  · refine dt_ldc X (v := -1000000) dX11_ring_31 (by decide +kernel) ?_
    exact dt_iret X dX11_ring_33
  · refine dt_aload_n X 0 dX11_ring_8 rfl rfl ?_
    refine dt_iload_n X 2 dX11_ring_9 rfl rfl ?_
    refine dt_callZ X (dn_runV X (T := TX11) (N := 10) [.int a2] (dn_h0 hu) rfl rfl (c_X11_isBidder (dn_la g) u hu a2 s1) gX11_ring_X11_isBidder rfl dn_hd_X11_isBidder rfl rfl rfl rfl dX11_ring_10) (fun r6 s4 e5 => ?_)
    refine dt_if_eqb X 31 dX11_ring_13 (by decide) ?_ ?_
    · refine dt_ldc X (v := -1000000) dX11_ring_31 (by decide +kernel) ?_
      exact dt_iret X dX11_ring_33
    · refine dt_iload_n X 1 dX11_ring_16 rfl rfl ?_
      refine dt_iload_n X 2 dX11_ring_17 rfl rfl ?_
      refine dt_icmp_eq X 31 dX11_ring_18 (by decide) ?_ ?_
      · refine dt_ldc X (v := -1000000) dX11_ring_31 (by decide +kernel) ?_
        exact dt_iret X dX11_ring_33
      · refine dt_iload_n X 3 dX11_ring_21 rfl rfl ?_
        refine dt_iconst X (v := 1) dX11_ring_22 (by decide) ?_
        refine dt_bipush X (v := 20) dX11_ring_23 (by decide) ?_
        refine dt_callZ X (dn_runS X [.int a3, .int 1, .int 20] (c_X11_within (dn_la g) u hu a3 1 20 s4) gX11_ring_X11_within rfl dn_hs_X11_within rfl rfl rfl rfl dX11_ring_25) (fun r9 s7 e8 => ?_)
        refine dt_if_neb X 34 dX11_ring_28 (by decide) ?_ ?_
        · refine dt_aload_n X 0 dX11_ring_34 rfl rfl ?_
          refine dt_get X (T := TX11) (N := 10) (v := .ref (dn_a u 18)) 5 (dn_h0 hu) rfl dn_in_X11_ring_11 rfl rfl dn_fw_X11_ring_53 rfl dX11_ring_35 ?_
          refine dt_aload_n X 0 dX11_ring_38 rfl rfl ?_
          refine dt_get X (T := TX11) (N := 10) (v := .ref (dn_a u 10)) 3 (dn_h0 hu) rfl dn_in_X11_ring_11 rfl rfl dn_fw_X11_ring_35 rfl dX11_ring_39 ?_
          refine dt_iload_n X 1 dX11_ring_42 rfl rfl ?_
          refine dt_iload_n X 2 dX11_ring_43 rfl rfl ?_
          refine dt_iload_n X 3 dX11_ring_44 rfl rfl ?_
          refine dt_iconst X (v := 0) dX11_ring_45 (by decide) ?_
          refine dt_callI X (dn_runV X (T := TX5) (N := 3) [.ref (dn_a u 10), .int a1, .int a2, .int a3, .int 0] (dn_h18 hu) rfl rfl (c_X5_paidBy (dn_la g) u hu 10 a1 a2 a3 false dn_M10 s7) gX11_ring_X5_paidBy rfl dn_hd_X5_paidBy rfl rfl rfl rfl dX11_ring_46) (fun r12 s10 e11 => ?_)
          refine dt_aload_n X 0 dX11_ring_49 rfl rfl ?_
          refine dt_get X (T := TX11) (N := 10) (v := .ref (dn_a u 18)) 5 (dn_h0 hu) rfl dn_in_X11_ring_11 rfl rfl dn_fw_X11_ring_53 rfl dX11_ring_50 ?_
          refine dt_aload_n X 0 dX11_ring_53 rfl rfl ?_
          refine dt_get X (T := TX11) (N := 10) (v := .ref (dn_a u 10)) 3 (dn_h0 hu) rfl dn_in_X11_ring_11 rfl rfl dn_fw_X11_ring_35 rfl dX11_ring_54 ?_
          refine dt_iload_n X 1 dX11_ring_57 rfl rfl ?_
          refine dt_iload_n X 2 dX11_ring_58 rfl rfl ?_
          refine dt_iload_n X 3 dX11_ring_59 rfl rfl ?_
          refine dt_iconst X (v := 1) dX11_ring_60 (by decide) ?_
          refine dt_callI X (dn_runV X (T := TX5) (N := 3) [.ref (dn_a u 10), .int a1, .int a2, .int a3, .int 1] (dn_h18 hu) rfl rfl (c_X5_paidBy (dn_la g) u hu 10 a1 a2 a3 true dn_M10 s10) gX11_ring_X5_paidBy rfl dn_hd_X5_paidBy rfl rfl rfl rfl dX11_ring_61) (fun r15 s13 e14 => ?_)
          refine dt_isub X dX11_ring_64 ?_
          exact dt_iret X dX11_ring_65
        · refine dt_ldc X (v := -1000000) dX11_ring_31 (by decide +kernel) ?_
          exact dt_iret X dX11_ring_33
set_option maxRecDepth 100000 in
set_option maxHeartbeats 4000000 in
theorem c_X11_isNameOrNone (l : Launch) (u : dn_U) (hu : dn_Lu u = dn_LC) (a1 : Int32) (s : dn_S) : dn_Met l u yX11_isNameOrNone wsX11_isNameOrNone 1 22 [.int a1] s (m_X11_isNameOrNone a1 s) (dn_QZ u) := by
  refine dt_entry RX11 [(0, .int a1)] (by decide +kernel) rfl rfl rfl rfl (fun g hgl X => ?_)
  subst hgl
  unfold m_X11_isNameOrNone
  refine dt_iload_n X 0 dX11_isNameOrNone_0 rfl rfl ?_
  refine dt_iconst X (v := -1) dX11_isNameOrNone_1 (by decide) ?_
  refine dt_iconst X (v := 4) dX11_isNameOrNone_2 (by decide) ?_
  refine dt_callZ X (dn_runS X [.int a1, .int (-1), .int 4] (c_X11_within (dn_la g) u hu a1 (-1) 4 s) gX11_isNameOrNone_X11_within rfl dn_hs_X11_within rfl rfl rfl rfl dX11_isNameOrNone_3) (fun r3 s1 e2 => ?_)
  exact dt_zret (v := r3) X dX11_isNameOrNone_6
set_option maxRecDepth 100000 in
set_option maxHeartbeats 4000000 in
theorem c_X2_add (l : Launch) (u : dn_U) (hu : dn_Lu u = dn_LC) (a1 : Int32) (a2 : Int32) (s : dn_S) : dn_Met l u yX2_add wsX2_add 1 22 [.ref (dn_a u 23), .int a1, .int a2] s (m_X2_add a1 a2 s) (dn_QV u) := by
  refine dt_entry RX2 [(0, .ref (dn_a u 23)), (1, .int a1), (2, .int a2)] (by decide +kernel) rfl rfl rfl rfl (fun g hgl X => ?_)
  subst hgl
  unfold m_X2_add
  refine dt_aload_n X 0 dX2_add_0 rfl rfl ?_
  refine dt_get X (T := TX2) (N := 6) (v := .ref (dn_a u 28)) 3 (dn_h23 hu) rfl dn_in_X2_add_2 rfl rfl dn_fw_X2_add_18 rfl dX2_add_1 ?_
  refine dt_aload_n X 0 dX2_add_4 rfl rfl ?_
  refine dt_get X (T := TX2) (N := 6) (v := .int (dn_g s 23 5)) 5 (dn_h23 hu) rfl dn_in_X2_add_2 rfl rfl dn_fw_X2_add_33 rfl dX2_add_5 ?_
  refine dt_iload_n X 1 dX2_add_8 rfl rfl ?_
  refine dt_callV X (dn_runSN X [.ref (dn_a u 28), .int (dn_g s 23 5), .int a1] (c_X11_put (dn_la g) u hu 28 5 (dn_g s 23 5) a1 (dn_h28 hu) s) gX2_add_X11_put_n37 rfl dn_nm_X2_add_37 dn_sw_X2_add_X11_put_1 dn_sw_X2_add_X11_put_2 dn_hs_X11_put rfl rfl rfl rfl dX2_add_9) (fun r3 s1 e2 => ?_)
  refine dt_aload_n X 0 dX2_add_12 rfl rfl ?_
  refine dt_get X (T := TX2) (N := 6) (v := .ref (dn_a u 29)) 4 (dn_h23 hu) rfl dn_in_X2_add_2 rfl rfl dn_fw_X2_add_22 rfl dX2_add_13 ?_
  refine dt_aload_n X 0 dX2_add_16 rfl rfl ?_
  refine dt_get X (T := TX2) (N := 6) (v := .int (dn_g s1 23 5)) 5 (dn_h23 hu) rfl dn_in_X2_add_2 rfl rfl dn_fw_X2_add_33 rfl dX2_add_17 ?_
  refine dt_iload_n X 2 dX2_add_20 rfl rfl ?_
  refine dt_callV X (dn_runSN X [.ref (dn_a u 29), .int (dn_g s1 23 5), .int a2] (c_X11_put (dn_la g) u hu 29 5 (dn_g s1 23 5) a2 (dn_h29 hu) s1) gX2_add_X11_put_n37 rfl dn_nm_X2_add_37 dn_sw_X2_add_X11_put_1 dn_sw_X2_add_X11_put_2 dn_hs_X11_put rfl rfl rfl rfl dX2_add_21) (fun r6 s4 e5 => ?_)
  refine dt_aload_n X 0 dX2_add_24 rfl rfl ?_
  refine dt_dup X dX2_add_25 rfl ?_
  refine dt_get X (T := TX2) (N := 6) (v := .int (dn_g s4 23 5)) 5 (dn_h23 hu) rfl dn_in_X2_add_2 rfl rfl dn_fw_X2_add_33 rfl dX2_add_26 ?_
  refine dt_iconst X (v := 1) dX2_add_29 (by decide) ?_
  refine dt_iadd X dX2_add_30 ?_
  refine dt_put X (T := TX2) (N := 6) 5 (dn_h23 hu) rfl dn_in_X2_add_2 rfl tyX2 tyX2_ok nmX2 rfl rfl dn_fw_X2_add_33 rfl rfl (dn_set23_5 _ _ _) dX2_add_31 (fun s7 => ?_)
  exact dt_vret X dX2_add_34
set_option maxRecDepth 100000 in
set_option maxHeartbeats 4000000 in
theorem c_X11_found (l : Launch) (u : dn_U) (hu : dn_Lu u = dn_LC) (a1 : Int32) (a2 : Int32) (s : dn_S) : dn_Met l u yX11_found wsX11_found 2 44 [.ref (dn_a u 0), .int a1, .int a2] s (m_X11_found a1 a2 s) (dn_QI u) := by
  refine dt_entry RX11 [(0, .ref (dn_a u 0)), (1, .int a1), (2, .int a2)] (by decide +kernel) rfl rfl rfl rfl (fun g hgl X => ?_)
  subst hgl
  unfold m_X11_found
  refine dt_iload_n X 1 dX11_found_0 rfl rfl ?_
  refine dt_iconst X (v := 1) dX11_found_1 (by decide) ?_
  refine dt_bipush X (v := 8) dX11_found_2 (by decide) ?_
  refine dt_callZ X (dn_runS X [.int a1, .int 1, .int 8] (c_X11_within (dn_la g) u hu a1 1 8 s) gX11_found_X11_within rfl dn_hs_X11_within rfl rfl rfl rfl dX11_found_4) (fun r3 s1 e2 => ?_)
  refine dt_if_eqb X 17 dX11_found_7 (by decide) ?_ ?_
  · refine dt_iconst X (v := -1) dX11_found_17 (by decide) ?_
    exact dt_iret X dX11_found_18
  · refine dt_iload_n X 2 dX11_found_10 rfl rfl ?_
    refine dt_callZ X (dn_runS X [.int a2] (c_X11_isNameOrNone (dn_la g) u hu a2 s1) gX11_found_X11_isNameOrNone rfl dn_hs_X11_isNameOrNone rfl rfl rfl rfl dX11_found_11) (fun r6 s4 e5 => ?_)
    refine dt_if_neb X 19 dX11_found_14 (by decide) ?_ ?_
    · refine dt_aload_n X 0 dX11_found_19 rfl rfl ?_
      refine dt_get X (T := TX11) (N := 10) (v := .ref (dn_a u 23)) 6 (dn_h0 hu) rfl dn_in_X11_found_11 rfl rfl dn_fw_X11_found_60 rfl dX11_found_20 ?_
      refine dt_getN X (T := TX2) (N := 6) (v := .int (dn_g s4 23 5)) 5 (dn_h23 hu) rfl dn_in_X11_found_2 rfl rfl dn_fw_X11_found_231 rfl dX11_found_23 ?_
      refine dt_iconst X (v := 5) dX11_found_26 (by decide) ?_
      refine dt_icmp_lt X 33 dX11_found_27 (by decide) ?_ ?_
      · refine dt_aload_n X 0 dX11_found_33 rfl rfl ?_
        refine dt_get X (T := TX11) (N := 10) (v := .ref (dn_a u 23)) 6 (dn_h0 hu) rfl dn_in_X11_found_11 rfl rfl dn_fw_X11_found_60 rfl dX11_found_34 ?_
        refine dt_iload_n X 1 dX11_found_37 rfl rfl ?_
        refine dt_iload_n X 2 dX11_found_38 rfl rfl ?_
        refine dt_callV X (dn_runV X (T := TX2) (N := 6) [.int a1, .int a2] (dn_h23 hu) rfl rfl (c_X2_add (dn_la g) u hu a1 a2 s4) gX11_found_X2_add rfl dn_hd_X2_add rfl rfl rfl rfl dX11_found_39) (fun r9 s7 e8 => ?_)
        refine dt_aload_n X 0 dX11_found_42 rfl rfl ?_
        refine dt_get X (T := TX11) (N := 10) (v := .ref (dn_a u 23)) 6 (dn_h0 hu) rfl dn_in_X11_found_11 rfl rfl dn_fw_X11_found_60 rfl dX11_found_43 ?_
        refine dt_getN X (T := TX2) (N := 6) (v := .int (dn_g s7 23 5)) 5 (dn_h23 hu) rfl dn_in_X11_found_2 rfl rfl dn_fw_X11_found_231 rfl dX11_found_46 ?_
        exact dt_iret X dX11_found_49
      · refine dt_bipush X (v := -3) dX11_found_30 (by decide) ?_
        exact dt_iret X dX11_found_32
    · refine dt_iconst X (v := -1) dX11_found_17 (by decide) ?_
      exact dt_iret X dX11_found_18
set_option maxRecDepth 100000 in
set_option maxHeartbeats 4000000 in
theorem c_X11_forget (l : Launch) (u : dn_U) (hu : dn_Lu u = dn_LC) (s : dn_S) : dn_Met l u yX11_forget wsX11_forget 1 21 [.ref (dn_a u 0)] s (m_X11_forget  s) (dn_QI u) := by
  refine dt_entry RX11 [(0, .ref (dn_a u 0))] (by decide +kernel) rfl rfl rfl rfl (fun g hgl X => ?_)
  subst hgl
  unfold m_X11_forget
  refine dt_aload_n X 0 dX11_forget_0 rfl rfl ?_
  refine dt_get X (T := TX11) (N := 10) (v := .ref (dn_a u 23)) 6 (dn_h0 hu) rfl dn_in_X11_forget_11 rfl rfl dn_fw_X11_forget_60 rfl dX11_forget_1 ?_
  refine dt_callI X (dn_runV X (T := TX2) (N := 6) [] (dn_h23 hu) rfl rfl (c_X2_empty (dn_la g) u hu s) gX11_forget_X2_empty rfl dn_hd_X2_empty rfl rfl rfl rfl dX11_forget_4) (fun r3 s1 e2 => ?_)
  exact dt_iret X dX11_forget_7
set_option maxRecDepth 100000 in
set_option maxHeartbeats 4000000 in
theorem c_X10_setWorth (l : Launch) (u : dn_U) (hu : dn_Lu u = dn_LC) (k : Nat) (a1 : Int32) (a2 : Int32) (a3 : Int32) (hk : dn_isT k) (s : dn_S) : dn_Met l u yX10_setWorth wsX10_setWorth 2 45 [.ref (dn_a u k), .int a1, .int a2, .int a3] s (m_X10_setWorth k a1 a2 a3 s) (dn_QV u) := by
  refine dt_entry RX10 [(0, .ref (dn_a u k)), (1, .int a1), (2, .int a2), (3, .int a3)] (by decide +kernel) rfl rfl rfl rfl (fun g hgl X => ?_)
  subst hgl
  unfold m_X10_setWorth
  refine dt_aload_n X 0 dX10_setWorth_0 rfl rfl ?_
  refine dt_iload_n X 1 dX10_setWorth_1 rfl rfl ?_
  refine dt_iconst X (v := 2) dX10_setWorth_2 (by decide) ?_
  refine dt_iload_n X 2 dX10_setWorth_3 rfl rfl ?_
  refine dt_iadd X dX10_setWorth_4 ?_
  refine dt_iload_n X 3 dX10_setWorth_5 rfl rfl ?_
  refine dt_callV X (dn_runV X (T := TX10) (N := 5) [.int a1, .int (2 + a2), .int a3] (dn_hT hu hk) rfl rfl (c_X10_setOfBidder (dn_la g) u hu k a1 (2 + a2) a3 hk s) gX10_setWorth_X10_setOfBidder rfl dn_hd_X10_setOfBidder rfl rfl rfl rfl dX10_setWorth_6) (fun r3 s1 e2 => ?_)
  exact dt_vret X dX10_setWorth_9
set_option maxRecDepth 100000 in
set_option maxHeartbeats 4000000 in
theorem b_X2_agreeOn_36 {g : dn_M} {u : dn_U} (hu : dn_Lu u = dn_LC) (X : dn_X u g cX2_agreeOn wsX2_agreeOn RX2 4 1 21 (some .boolean)) (K2 : Int32 → Int32 → Int32 → dn_S → Option (Bool × dn_S)) (H2 : ∀ (y1 : Int32) (y2 : Int32) (y3 : Int32) (s : dn_S), dn_T u g 4 (dn_QZ u) (K2 y1 y2 y3 s) s 2 [(0, .ref (dn_a u 23)), (1, .int y1), (2, .int y2), (3, .int y3)] []) (y1 : Int32) (y2 : Int32) (y3 : Int32) (s : dn_S) : dn_T u g 4 (dn_QZ u) (m_X2_agreeOn_36 K2 y1 y2 y3 s) s 36 [(0, .ref (dn_a u 23)), (1, .int y1), (2, .int y2), (3, .int y3)] [] := by
  unfold m_X2_agreeOn_36
  refine dt_iinc X (v := y3 + 1) 3 [(3, .int (y3 + 1)), (0, .ref (dn_a u 23)), (1, .int y1), (2, .int y2)] dX2_agreeOn_36 rfl (by rfl) rfl rfl ?_
  refine dt_ilet X rfl (fun x1 => ?_)
  refine dt_goto X 2 dX2_agreeOn_39 (by decide) ?_
  refine dt_sub X [(0, .ref (dn_a u 23)), (1, .int y1), (2, .int y2), (3, .int x1)] [1, 2, 3, 0] rfl ?_
  exact H2 y1 y2 x1 s
set_option maxRecDepth 100000 in
set_option maxHeartbeats 4000000 in
theorem b_X2_agreeOn_2 {g : dn_M} {u : dn_U} (hu : dn_Lu u = dn_LC) (X : dn_X u g cX2_agreeOn wsX2_agreeOn RX2 4 1 21 (some .boolean)) : ∀ (n : Nat) (y1 : Int32) (y2 : Int32) (y3 : Int32) (s : dn_S), dn_T u g 4 (dn_QZ u) (m_X2_agreeOn_2 n y1 y2 y3 s) s 2 [(0, .ref (dn_a u 23)), (1, .int y1), (2, .int y2), (3, .int y3)] [] := by
  intro n
  induction n with
  | zero =>
    intro y1 y2 y3 s
    exact dt_none X
  | succ n ih =>
    intro y1 y2 y3 s
    rw [m_X2_agreeOn_2]
    refine dt_iload_n X 3 dX2_agreeOn_2 rfl rfl ?_
    refine dt_aload_n X 0 dX2_agreeOn_3 rfl rfl ?_
    refine dt_get X (T := TX2) (N := 6) (v := .int (dn_g s 23 5)) 5 (dn_h23 hu) rfl dn_in_X2_agreeOn_2 rfl rfl dn_fw_X2_agreeOn_33 rfl dX2_agreeOn_4 ?_
    refine dt_icmp_ge X 42 dX2_agreeOn_7 (by decide) ?_ ?_
    · refine dt_iconst X (v := 1) dX2_agreeOn_42 (by decide) ?_
      exact dt_zret (v := true) X dX2_agreeOn_43
    · refine dt_aload_n X 0 dX2_agreeOn_10 rfl rfl ?_
      refine dt_get X (T := TX2) (N := 6) (v := .ref (dn_a u 28)) 3 (dn_h23 hu) rfl dn_in_X2_agreeOn_2 rfl rfl dn_fw_X2_agreeOn_18 rfl dX2_agreeOn_11 ?_
      refine dt_iload_n X 3 dX2_agreeOn_14 rfl rfl ?_
      refine dt_callI X (dn_runSN X [.ref (dn_a u 28), .int y3] (c_X11_at (dn_la g) u hu 28 5 y3 (dn_h28 hu) s) gX2_agreeOn_X11_at_n68 rfl dn_nm_X2_agreeOn_68 dn_sw_X2_agreeOn_X11_at_1 dn_sw_X2_agreeOn_X11_at_2 dn_hs_X11_at rfl rfl rfl rfl dX2_agreeOn_15) (fun r3 s1 e2 => ?_)
      refine dt_iload_n X 1 dX2_agreeOn_18 rfl rfl ?_
      refine dt_icmp_ne X 36 dX2_agreeOn_19 (by decide) ?_ ?_
      · refine dt_sub X [(0, .ref (dn_a u 23)), (1, .int y1), (2, .int y2), (3, .int y3)] [0, 1, 2, 3] rfl ?_
        exact b_X2_agreeOn_36 hu X (m_X2_agreeOn_2 n) ih y1 y2 y3 s1
      · refine dt_aload_n X 0 dX2_agreeOn_22 rfl rfl ?_
        refine dt_get X (T := TX2) (N := 6) (v := .ref (dn_a u 29)) 4 (dn_h23 hu) rfl dn_in_X2_agreeOn_2 rfl rfl dn_fw_X2_agreeOn_22 rfl dX2_agreeOn_23 ?_
        refine dt_iload_n X 3 dX2_agreeOn_26 rfl rfl ?_
        refine dt_callI X (dn_runSN X [.ref (dn_a u 29), .int y3] (c_X11_at (dn_la g) u hu 29 5 y3 (dn_h29 hu) s1) gX2_agreeOn_X11_at_n68 rfl dn_nm_X2_agreeOn_68 dn_sw_X2_agreeOn_X11_at_1 dn_sw_X2_agreeOn_X11_at_2 dn_hs_X11_at rfl rfl rfl rfl dX2_agreeOn_27) (fun r6 s4 e5 => ?_)
        refine dt_iload_n X 2 dX2_agreeOn_30 rfl rfl ?_
        refine dt_icmp_eq X 36 dX2_agreeOn_31 (by decide) ?_ ?_
        · refine dt_sub X [(0, .ref (dn_a u 23)), (1, .int y1), (2, .int y2), (3, .int y3)] [0, 1, 2, 3] rfl ?_
          exact b_X2_agreeOn_36 hu X (m_X2_agreeOn_2 n) ih y1 y2 y3 s4
        · refine dt_iconst X (v := 0) dX2_agreeOn_34 (by decide) ?_
          exact dt_zret (v := false) X dX2_agreeOn_35
set_option maxRecDepth 100000 in
set_option maxHeartbeats 4000000 in
theorem c_X2_agreeOn (l : Launch) (u : dn_U) (hu : dn_Lu u = dn_LC) (a1 : Int32) (a2 : Int32) (s : dn_S) : dn_Met l u yX2_agreeOn wsX2_agreeOn 1 21 [.ref (dn_a u 23), .int a1, .int a2] s (m_X2_agreeOn a1 a2 s) (dn_QZ u) := by
  refine dt_entry RX2 [(0, .ref (dn_a u 23)), (1, .int a1), (2, .int a2)] (by decide +kernel) rfl rfl rfl rfl (fun g hgl X => ?_)
  subst hgl
  unfold m_X2_agreeOn
  refine dt_iconst X (v := 0) dX2_agreeOn_0 (by decide) ?_
  refine dt_istore_n X [(3, .int 0), (0, .ref (dn_a u 23)), (1, .int a1), (2, .int a2)] dX2_agreeOn_1 rfl rfl rfl ?_
  refine dt_sub X [(0, .ref (dn_a u 23)), (1, .int a1), (2, .int a2), (3, .int 0)] [1, 2, 3, 0] rfl ?_
  exact b_X2_agreeOn_2 hu X 2048 a1 a2 0 s
set_option maxRecDepth 100000 in
set_option maxHeartbeats 4000000 in
theorem b_X2_agreeWith_99 {g : dn_M} {u : dn_U} (hu : dn_Lu u = dn_LC) (k1 : Nat) (h1 : dn_isM k1) (X : dn_X u g cX2_agreeWith wsX2_agreeWith RX2 9 5 115 (some .boolean)) (y2 : Int32) (y3 : Int32) (y5 : Int32) (y6 : Bool) (s : dn_S) : dn_T u g 9 (dn_QZ u) (m_X2_agreeWith_99 k1 y2 y3 y5 y6 s) s 99 [(0, .ref (dn_a u 23)), (2, .int y2), (3, .int y3), (5, .int y5), (6, .int (dn_b y6))] [] := by
  unfold m_X2_agreeWith_99
  refine dt_aload_n X 0 dX2_agreeWith_99 rfl rfl ?_
  refine dt_get X (T := TX2) (N := 6) (v := .ref (dn_a u 3)) 0 (dn_h23 hu) rfl dn_in_X2_agreeWith_2 rfl rfl dn_fw_X2_agreeWith_25 rfl dX2_agreeWith_100 ?_
  refine dt_iload_n X 1 dX2_agreeWith_103 rfl rfl ?_
  refine dt_iload_n X 2 dX2_agreeWith_104 rfl rfl ?_
  refine dt_iload X 3 dX2_agreeWith_105 rfl ?_
  refine dt_callV X (dn_runV X (T := TX10) (N := 5) [.int y2, .int y3, .int y5] (dn_hT hu dn_T3) rfl rfl (c_X10_setWorth (dn_la g) u hu 3 y2 y3 y5 dn_T3 s) gX2_agreeWith_X10_setWorth rfl dn_hd_X10_setWorth rfl rfl rfl rfl dX2_agreeWith_107) (fun r3 s1 e2 => ?_)
  refine dt_iload X 4 dX2_agreeWith_110 rfl ?_
  exact dt_zret (v := y6) X dX2_agreeWith_112
set_option maxRecDepth 100000 in
set_option maxHeartbeats 4000000 in
theorem b_X2_agreeWith_88 {g : dn_M} {u : dn_U} (hu : dn_Lu u = dn_LC) (k1 : Nat) (h1 : dn_isM k1) (X : dn_X u g cX2_agreeWith wsX2_agreeWith RX2 9 5 115 (some .boolean)) (K36 : Int32 → Int32 → Int32 → Bool → Int32 → dn_S → Option (Bool × dn_S)) (H36 : ∀ (y2 : Int32) (y3 : Int32) (y5 : Int32) (y6 : Bool) (y7 : Int32) (s : dn_S), dn_T u g 9 (dn_QZ u) (K36 y2 y3 y5 y6 y7 s) s 36 [(0, .ref (dn_a u 23)), (2, .int y2), (3, .int y3), (5, .int y5), (6, .int (dn_b y6)), (7, .int y7)] []) (y2 : Int32) (y3 : Int32) (y5 : Int32) (y7 : Int32) (z0 : Int32) (z1 : Int32) (s : dn_S) : dn_T u g 9 (dn_QZ u) (m_X2_agreeWith_88 k1 K36 y2 y3 y5 y7 z0 z1 s) s 88 [(0, .ref (dn_a u 23)), (2, .int y2), (3, .int y3), (5, .int y5), (7, .int y7)] [.int z0, .int z1, .ref (dn_a u 23)] := by
  unfold m_X2_agreeWith_88
  refine dt_callZ X (dn_runV X (T := TX2) (N := 6) [.int z1, .int z0] (dn_h23 hu) rfl rfl (c_X2_agreeOn (dn_la g) u hu z1 z0 s) gX2_agreeWith_X2_agreeOn rfl dn_hd_X2_agreeOn rfl rfl rfl rfl dX2_agreeWith_88) (fun r3 s1 e2 => ?_)
  refine dt_istore X [(6, .int (dn_b r3)), (0, .ref (dn_a u 23)), (2, .int y2), (3, .int y3), (5, .int y5), (7, .int y7)] dX2_agreeWith_91 rfl rfl ?_
  refine dt_iinc X (v := y7 + 1) 5 [(7, .int (y7 + 1)), (6, .int (dn_b r3)), (0, .ref (dn_a u 23)), (2, .int y2), (3, .int y3), (5, .int y5)] dX2_agreeWith_93 rfl (by rfl) rfl rfl ?_
  refine dt_ilet X rfl (fun x4 => ?_)
  refine dt_goto X 36 dX2_agreeWith_96 (by decide) ?_
  refine dt_sub X [(0, .ref (dn_a u 23)), (2, .int y2), (3, .int y3), (5, .int y5), (6, .int (dn_b r3)), (7, .int x4)] [2, 3, 4, 5, 1, 0] rfl ?_
  exact H36 y2 y3 y5 r3 x4 s1
set_option maxRecDepth 100000 in
set_option maxHeartbeats 4000000 in
theorem b_X2_agreeWith_36 {g : dn_M} {u : dn_U} (hu : dn_Lu u = dn_LC) (k1 : Nat) (h1 : dn_isM k1) (X : dn_X u g cX2_agreeWith wsX2_agreeWith RX2 9 5 115 (some .boolean)) : ∀ (n : Nat) (y2 : Int32) (y3 : Int32) (y5 : Int32) (y6 : Bool) (y7 : Int32) (s : dn_S), dn_T u g 9 (dn_QZ u) (m_X2_agreeWith_36 k1 n y2 y3 y5 y6 y7 s) s 36 [(0, .ref (dn_a u 23)), (2, .int y2), (3, .int y3), (5, .int y5), (6, .int (dn_b y6)), (7, .int y7)] [] := by
  intro n
  induction n with
  | zero =>
    intro y2 y3 y5 y6 y7 s
    exact dt_none X
  | succ n ih =>
    intro y2 y3 y5 y6 y7 s
    rw [m_X2_agreeWith_36]
    refine dt_iload X 5 dX2_agreeWith_36 rfl ?_
    refine dt_bipush X (v := 8) dX2_agreeWith_38 (by decide) ?_
    refine dt_icmp_gt X 99 dX2_agreeWith_40 (by decide) ?_ ?_
    · refine dt_sub X [(0, .ref (dn_a u 23)), (2, .int y2), (3, .int y3), (5, .int y5), (6, .int (dn_b y6))] [0, 1, 2, 3, 4] rfl ?_
      exact b_X2_agreeWith_99 hu k1 h1 X y2 y3 y5 y6 s
    · refine dt_iload X 4 dX2_agreeWith_43 rfl ?_
      refine dt_if_eqb X 99 dX2_agreeWith_45 (by decide) ?_ ?_
      · refine dt_sub X [(0, .ref (dn_a u 23)), (2, .int y2), (3, .int y3), (5, .int y5), (6, .int (dn_b y6))] [0, 1, 2, 3, 4] rfl ?_
        exact b_X2_agreeWith_99 hu k1 h1 X y2 y3 y5 y6 s
      · refine dt_aload_n X 0 dX2_agreeWith_48 rfl rfl ?_
        refine dt_get X (T := TX2) (N := 6) (v := .ref (dn_a u 14)) 1 (dn_h23 hu) rfl dn_in_X2_agreeWith_2 rfl rfl dn_fw_X2_agreeWith_29 rfl dX2_agreeWith_49 ?_
        refine dt_aload_n X 0 dX2_agreeWith_52 rfl rfl ?_
        refine dt_get X (T := TX2) (N := 6) (v := .ref (dn_a u 24)) 2 (dn_h23 hu) rfl dn_in_X2_agreeWith_2 rfl rfl dn_fw_X2_agreeWith_12 rfl dX2_agreeWith_53 ?_
        refine dt_callV X (dn_runV X (T := TX4) (N := 4) [.ref (dn_a u 24)] (dn_h14 hu) rfl rfl (c_X4_open (dn_la g) u hu 24 dn_M24 s) gX2_agreeWith_X4_open rfl dn_hd_X4_open rfl rfl rfl rfl dX2_agreeWith_56) (fun r3 s1 e2 => ?_)
        refine dt_aload_n X 0 dX2_agreeWith_59 rfl rfl ?_
        refine dt_get X (T := TX2) (N := 6) (v := .ref (dn_a u 14)) 1 (dn_h23 hu) rfl dn_in_X2_agreeWith_2 rfl rfl dn_fw_X2_agreeWith_29 rfl dX2_agreeWith_60 ?_
        refine dt_aload_n X 0 dX2_agreeWith_63 rfl rfl ?_
        refine dt_get X (T := TX2) (N := 6) (v := .ref (dn_a u 24)) 2 (dn_h23 hu) rfl dn_in_X2_agreeWith_2 rfl rfl dn_fw_X2_agreeWith_12 rfl dX2_agreeWith_64 ?_
        refine dt_callI X (dn_runV X (T := TX4) (N := 4) [.ref (dn_a u 24)] (dn_h14 hu) rfl rfl (c_X4_close (dn_la g) u hu 24 dn_M24 s1) gX2_agreeWith_X4_close rfl dn_hd_X4_close rfl rfl rfl rfl dX2_agreeWith_67) (fun r6 s4 e5 => ?_)
        refine dt_istore X [(8, .int r6), (0, .ref (dn_a u 23)), (2, .int y2), (3, .int y3), (5, .int y5), (6, .int (dn_b y6)), (7, .int y7)] dX2_agreeWith_70 rfl rfl ?_
        refine dt_aload_n X 1 dX2_agreeWith_72 rfl rfl ?_
        refine dt_iload X 6 dX2_agreeWith_73 rfl ?_
        refine dt_iload X 0 dX2_agreeWith_75 rfl ?_
        refine dt_bipush X (v := -5) dX2_agreeWith_77 (by decide) ?_
        refine dt_icmp_ne X 86 dX2_agreeWith_79 (by decide) ?_ ?_
        · refine dt_iload X 0 dX2_agreeWith_86 rfl ?_
          refine dt_sub X [(0, .ref (dn_a u 23)), (2, .int y2), (3, .int y3), (5, .int y5), (7, .int y7)] [1, 2, 3, 4, 6] rfl ?_
          exact b_X2_agreeWith_88 hu k1 h1 X (m_X2_agreeWith_36 k1 n) ih y2 y3 y5 y7 r6 y7 s4
        · refine dt_iconst X (v := -1) dX2_agreeWith_82 (by decide) ?_
          refine dt_goto X 88 dX2_agreeWith_83 (by decide) ?_
          refine dt_sub X [(0, .ref (dn_a u 23)), (2, .int y2), (3, .int y3), (5, .int y5), (7, .int y7)] [1, 2, 3, 4, 6] rfl ?_
          exact b_X2_agreeWith_88 hu k1 h1 X (m_X2_agreeWith_36 k1 n) ih y2 y3 y5 y7 (-1) y7 s4
set_option maxRecDepth 100000 in
set_option maxHeartbeats 4000000 in
theorem c_X2_agreeWith (l : Launch) (u : dn_U) (hu : dn_Lu u = dn_LC) (k1 : Nat) (a2 : Int32) (a3 : Int32) (a4 : Int32) (h1 : dn_isM k1) (s : dn_S) : dn_Met l u yX2_agreeWith wsX2_agreeWith 5 115 [.ref (dn_a u 23), .ref (dn_a u k1), .int a2, .int a3, .int a4] s (m_X2_agreeWith k1 a2 a3 a4 s) (dn_QZ u) := by
  refine dt_entry RX2 [(0, .ref (dn_a u 23)), (1, .ref (dn_a u k1)), (2, .int a2), (3, .int a3), (4, .int a4)] (by decide +kernel) rfl rfl rfl rfl (fun g hgl X => ?_)
  subst hgl
  unfold m_X2_agreeWith
  refine dt_aload_n X 0 dX2_agreeWith_0 rfl rfl ?_
  refine dt_get X (T := TX2) (N := 6) (v := .ref (dn_a u 3)) 0 (dn_h23 hu) rfl dn_in_X2_agreeWith_2 rfl rfl dn_fw_X2_agreeWith_25 rfl dX2_agreeWith_1 ?_
  refine dt_iload_n X 2 dX2_agreeWith_4 rfl rfl ?_
  refine dt_iload_n X 3 dX2_agreeWith_5 rfl rfl ?_
  refine dt_callI X (dn_runV X (T := TX10) (N := 5) [.int a2, .int a3] (dn_hT hu dn_T3) rfl rfl (c_X10_worth (dn_la g) u hu 3 a2 a3 dn_T3 s) gX2_agreeWith_X10_worth rfl dn_hd_X10_worth rfl rfl rfl rfl dX2_agreeWith_6) (fun r3 s1 e2 => ?_)
  refine dt_istore X [(5, .int r3), (0, .ref (dn_a u 23)), (1, .ref (dn_a u k1)), (2, .int a2), (3, .int a3), (4, .int a4)] dX2_agreeWith_9 rfl rfl ?_
  refine dt_iconst X (v := 1) dX2_agreeWith_11 (by decide) ?_
  refine dt_istore X [(6, .int 1), (5, .int r3), (0, .ref (dn_a u 23)), (1, .ref (dn_a u k1)), (2, .int a2), (3, .int a3), (4, .int a4)] dX2_agreeWith_12 rfl rfl ?_
  refine dt_aload_n X 2 dX2_agreeWith_14 rfl rfl ?_
  refine dt_get X (T := TX2) (N := 6) (v := .ref (dn_a u 3)) 0 (dn_h23 hu) rfl dn_in_X2_agreeWith_2 rfl rfl dn_fw_X2_agreeWith_25 rfl dX2_agreeWith_15 ?_
  refine dt_iload_n X 4 dX2_agreeWith_18 rfl rfl ?_
  refine dt_iload_n X 5 dX2_agreeWith_19 rfl rfl ?_
  refine dt_iload X 6 dX2_agreeWith_20 rfl ?_
  refine dt_callV X (dn_runV X (T := TX10) (N := 5) [.int a2, .int a3, .int a4] (dn_hT hu dn_T3) rfl rfl (c_X10_setWorth (dn_la g) u hu 3 a2 a3 a4 dn_T3 s1) gX2_agreeWith_X10_setWorth rfl dn_hd_X10_setWorth rfl rfl rfl rfl dX2_agreeWith_22) (fun r6 s4 e5 => ?_)
  refine dt_aload_n X 2 dX2_agreeWith_25 rfl rfl ?_
  refine dt_get X (T := TX2) (N := 6) (v := .ref (dn_a u 24)) 2 (dn_h23 hu) rfl dn_in_X2_agreeWith_2 rfl rfl dn_fw_X2_agreeWith_12 rfl dX2_agreeWith_26 ?_
  refine dt_aload_n X 3 dX2_agreeWith_29 rfl rfl ?_
  refine dt_callV X (dn_runV X (T := TX3) (N := 8) [.ref (dn_a u k1)] (dn_hM hu dn_M24) rfl rfl (c_X3_copyFrom (dn_la g) u hu 24 k1 dn_M24 h1 s4) gX2_agreeWith_X3_copyFrom rfl dn_hd_X3_copyFrom rfl rfl rfl rfl dX2_agreeWith_30) (fun r9 s7 e8 => ?_)
  refine dt_iconst X (v := 1) dX2_agreeWith_33 (by decide) ?_
  refine dt_istore X [(7, .int 1), (6, .int 1), (5, .int r3), (0, .ref (dn_a u 23)), (1, .ref (dn_a u k1)), (2, .int a2), (3, .int a3), (4, .int a4)] dX2_agreeWith_34 rfl rfl ?_
  refine dt_sub X [(0, .ref (dn_a u 23)), (2, .int a2), (3, .int a3), (5, .int r3), (6, .int 1), (7, .int 1)] [3, 5, 6, 2, 1, 0] rfl ?_
  exact b_X2_agreeWith_36 hu k1 h1 X 2048 a2 a3 r3 true 1 s7
set_option maxRecDepth 100000 in
set_option maxHeartbeats 4000000 in
theorem b_X11_mayBe_78 {g : dn_M} {u : dn_U} (hu : dn_Lu u = dn_LC) (X : dn_X u g cX11_mayBe wsX11_mayBe RX11 7 6 143 (some .int)) (K36 : Int32 → Int32 → Int32 → Int32 → Int32 → Int32 → dn_S → Option (Int32 × dn_S)) (H36 : ∀ (y1 : Int32) (y2 : Int32) (y3 : Int32) (y4 : Int32) (y5 : Int32) (y6 : Int32) (s : dn_S), dn_T u g 7 (dn_QI u) (K36 y1 y2 y3 y4 y5 y6 s) s 36 [(0, .ref (dn_a u 0)), (1, .int y1), (2, .int y2), (3, .int y3), (4, .int y4), (5, .int y5), (6, .int y6)] []) (y1 : Int32) (y2 : Int32) (y3 : Int32) (y4 : Int32) (y5 : Int32) (y6 : Int32) (s : dn_S) : dn_T u g 7 (dn_QI u) (m_X11_mayBe_78 K36 y1 y2 y3 y4 y5 y6 s) s 78 [(0, .ref (dn_a u 0)), (1, .int y1), (2, .int y2), (3, .int y3), (4, .int y4), (5, .int y5), (6, .int y6)] [] := by
  unfold m_X11_mayBe_78
  refine dt_iinc X (v := y6 + 1) 6 [(6, .int (y6 + 1)), (0, .ref (dn_a u 0)), (1, .int y1), (2, .int y2), (3, .int y3), (4, .int y4), (5, .int y5)] dX11_mayBe_78 rfl (by rfl) rfl rfl ?_
  refine dt_ilet X rfl (fun x1 => ?_)
  refine dt_goto X 36 dX11_mayBe_81 (by decide) ?_
  refine dt_sub X [(0, .ref (dn_a u 0)), (1, .int y1), (2, .int y2), (3, .int y3), (4, .int y4), (5, .int y5), (6, .int x1)] [1, 2, 3, 4, 5, 6, 0] rfl ?_
  exact H36 y1 y2 y3 y4 y5 x1 s
set_option maxRecDepth 100000 in
set_option maxHeartbeats 4000000 in
theorem b_X11_mayBe_36 {g : dn_M} {u : dn_U} (hu : dn_Lu u = dn_LC) (X : dn_X u g cX11_mayBe wsX11_mayBe RX11 7 6 143 (some .int)) : ∀ (n : Nat) (y1 : Int32) (y2 : Int32) (y3 : Int32) (y4 : Int32) (y5 : Int32) (y6 : Int32) (s : dn_S), dn_T u g 7 (dn_QI u) (m_X11_mayBe_36 n y1 y2 y3 y4 y5 y6 s) s 36 [(0, .ref (dn_a u 0)), (1, .int y1), (2, .int y2), (3, .int y3), (4, .int y4), (5, .int y5), (6, .int y6)] [] := by
  intro n
  induction n with
  | zero =>
    intro y1 y2 y3 y4 y5 y6 s
    exact dt_none X
  | succ n ih =>
    intro y1 y2 y3 y4 y5 y6 s
    rw [m_X11_mayBe_36]
    refine dt_iload X 6 dX11_mayBe_36 rfl ?_
    refine dt_bipush X (v := 20) dX11_mayBe_38 (by decide) ?_
    refine dt_icmp_gt X 84 dX11_mayBe_40 (by decide) ?_ ?_
    · refine dt_iload_n X 3 dX11_mayBe_84 rfl rfl ?_
      refine dt_if_ne X 93 dX11_mayBe_85 (by decide) ?_ ?_
      · refine dt_iload X 5 dX11_mayBe_93 rfl ?_
        exact dt_iret X dX11_mayBe_95
      · refine dt_iload X 4 dX11_mayBe_88 rfl ?_
        refine dt_goto X 95 dX11_mayBe_90 (by decide) ?_
        exact dt_iret X dX11_mayBe_95
    · refine dt_aload_n X 0 dX11_mayBe_43 rfl rfl ?_
      refine dt_get X (T := TX11) (N := 10) (v := .ref (dn_a u 23)) 6 (dn_h0 hu) rfl dn_in_X11_mayBe_11 rfl rfl dn_fw_X11_mayBe_60 rfl dX11_mayBe_44 ?_
      refine dt_aload_n X 0 dX11_mayBe_47 rfl rfl ?_
      refine dt_get X (T := TX11) (N := 10) (v := .ref (dn_a u 10)) 3 (dn_h0 hu) rfl dn_in_X11_mayBe_11 rfl rfl dn_fw_X11_mayBe_35 rfl dX11_mayBe_48 ?_
      refine dt_iload_n X 1 dX11_mayBe_51 rfl rfl ?_
      refine dt_iload_n X 2 dX11_mayBe_52 rfl rfl ?_
      refine dt_iload X 6 dX11_mayBe_53 rfl ?_
      refine dt_callZ X (dn_runV X (T := TX2) (N := 6) [.ref (dn_a u 10), .int y1, .int y2, .int y6] (dn_h23 hu) rfl rfl (c_X2_agreeWith (dn_la g) u hu 10 y1 y2 y6 dn_M10 s) gX11_mayBe_X2_agreeWith rfl dn_hd_X2_agreeWith rfl rfl rfl rfl dX11_mayBe_55) (fun r3 s1 e2 => ?_)
      refine dt_if_neb X 64 dX11_mayBe_58 (by decide) ?_ ?_
      · refine dt_iinc X (v := y4 + 1) 4 [(4, .int (y4 + 1)), (0, .ref (dn_a u 0)), (1, .int y1), (2, .int y2), (3, .int y3), (5, .int y5), (6, .int y6)] dX11_mayBe_64 rfl (by rfl) rfl rfl ?_
        refine dt_ilet X rfl (fun x4 => ?_)
        refine dt_iload X 5 dX11_mayBe_67 rfl ?_
        refine dt_bipush X (v := -9) dX11_mayBe_69 (by decide) ?_
        refine dt_icmp_ne X 78 dX11_mayBe_71 (by decide) ?_ ?_
        · refine dt_sub X [(0, .ref (dn_a u 0)), (1, .int y1), (2, .int y2), (3, .int y3), (4, .int x4), (5, .int y5), (6, .int y6)] [1, 2, 3, 4, 0, 5, 6] rfl ?_
          exact b_X11_mayBe_78 hu X (m_X11_mayBe_36 n) ih y1 y2 y3 x4 y5 y6 s1
        · refine dt_iload X 6 dX11_mayBe_74 rfl ?_
          refine dt_istore X [(5, .int y6), (4, .int x4), (0, .ref (dn_a u 0)), (1, .int y1), (2, .int y2), (3, .int y3), (6, .int y6)] dX11_mayBe_76 rfl rfl ?_
          refine dt_sub X [(0, .ref (dn_a u 0)), (1, .int y1), (2, .int y2), (3, .int y3), (4, .int x4), (5, .int y6), (6, .int y6)] [2, 3, 4, 5, 1, 0, 6] rfl ?_
          exact b_X11_mayBe_78 hu X (m_X11_mayBe_36 n) ih y1 y2 y3 x4 y6 y6 s1
      · refine dt_goto X 78 dX11_mayBe_61 (by decide) ?_
        refine dt_sub X [(0, .ref (dn_a u 0)), (1, .int y1), (2, .int y2), (3, .int y3), (4, .int y4), (5, .int y5), (6, .int y6)] [0, 1, 2, 3, 4, 5, 6] rfl ?_
        exact b_X11_mayBe_78 hu X (m_X11_mayBe_36 n) ih y1 y2 y3 y4 y5 y6 s1
set_option maxRecDepth 100000 in
set_option maxHeartbeats 4000000 in
theorem c_X11_mayBe (l : Launch) (u : dn_U) (hu : dn_Lu u = dn_LC) (a1 : Int32) (a2 : Int32) (a3 : Int32) (s : dn_S) : dn_Met l u yX11_mayBe wsX11_mayBe 6 143 [.ref (dn_a u 0), .int a1, .int a2, .int a3] s (m_X11_mayBe a1 a2 a3 s) (dn_QI u) := by
  refine dt_entry RX11 [(0, .ref (dn_a u 0)), (1, .int a1), (2, .int a2), (3, .int a3)] (by decide +kernel) rfl rfl rfl rfl (fun g hgl X => ?_)
  subst hgl
  unfold m_X11_mayBe
  refine dt_aload_n X 0 dX11_mayBe_0 rfl rfl ?_
  refine dt_iload_n X 1 dX11_mayBe_1 rfl rfl ?_
  refine dt_callZ X (dn_runV X (T := TX11) (N := 10) [.int a1] (dn_h0 hu) rfl rfl (c_X11_isBidder (dn_la g) u hu a1 s) gX11_mayBe_X11_isBidder rfl dn_hd_X11_isBidder rfl rfl rfl rfl dX11_mayBe_2) (fun r3 s1 e2 => ?_)
  refine dt_if_eqb X 24 dX11_mayBe_5 (by decide) ?_ ?_
  · refine dt_iconst X (v := -1) dX11_mayBe_24 (by decide) ?_
    exact dt_iret X dX11_mayBe_25
  · refine dt_iload_n X 2 dX11_mayBe_8 rfl rfl ?_
    refine dt_callZ X (dn_runS X [.int a2] (c_X11_isName (dn_la g) u hu a2 s1) gX11_mayBe_X11_isName rfl dn_hs_X11_isName rfl rfl rfl rfl dX11_mayBe_9) (fun r6 s4 e5 => ?_)
    refine dt_if_eqb X 24 dX11_mayBe_12 (by decide) ?_ ?_
    · refine dt_iconst X (v := -1) dX11_mayBe_24 (by decide) ?_
      exact dt_iret X dX11_mayBe_25
    · refine dt_iload_n X 3 dX11_mayBe_15 rfl rfl ?_
      refine dt_iconst X (v := 0) dX11_mayBe_16 (by decide) ?_
      refine dt_iconst X (v := 1) dX11_mayBe_17 (by decide) ?_
      refine dt_callZ X (dn_runS X [.int a3, .int 0, .int 1] (c_X11_within (dn_la g) u hu a3 0 1 s4) gX11_mayBe_X11_within rfl dn_hs_X11_within rfl rfl rfl rfl dX11_mayBe_18) (fun r9 s7 e8 => ?_)
      refine dt_if_neb X 26 dX11_mayBe_21 (by decide) ?_ ?_
      · refine dt_iconst X (v := 0) dX11_mayBe_26 (by decide) ?_
        refine dt_istore X [(4, .int 0), (0, .ref (dn_a u 0)), (1, .int a1), (2, .int a2), (3, .int a3)] dX11_mayBe_27 rfl rfl ?_
        refine dt_bipush X (v := -9) dX11_mayBe_29 (by decide) ?_
        refine dt_istore X [(5, .int (-9)), (4, .int 0), (0, .ref (dn_a u 0)), (1, .int a1), (2, .int a2), (3, .int a3)] dX11_mayBe_31 rfl rfl ?_
        refine dt_iconst X (v := 0) dX11_mayBe_33 (by decide) ?_
        refine dt_istore X [(6, .int 0), (5, .int (-9)), (4, .int 0), (0, .ref (dn_a u 0)), (1, .int a1), (2, .int a2), (3, .int a3)] dX11_mayBe_34 rfl rfl ?_
        refine dt_sub X [(0, .ref (dn_a u 0)), (1, .int a1), (2, .int a2), (3, .int a3), (4, .int 0), (5, .int (-9)), (6, .int 0)] [3, 4, 5, 6, 2, 1, 0] rfl ?_
        exact b_X11_mayBe_36 hu X 2048 a1 a2 a3 0 (-9) 0 s7
      · refine dt_iconst X (v := -1) dX11_mayBe_24 (by decide) ?_
        exact dt_iret X dX11_mayBe_25
set_option maxRecDepth 100000 in
set_option maxHeartbeats 4000000 in
theorem c_X0_add (l : Launch) (u : dn_U) (hu : dn_Lu u = dn_LC) (a1 : Int32) (s : dn_S) : dn_Met l u yX0_add wsX0_add 1 22 [.ref (dn_a u 30), .int a1] s (m_X0_add a1 s) (dn_QV u) := by
  refine dt_entry RX0 [(0, .ref (dn_a u 30)), (1, .int a1)] (by decide +kernel) rfl rfl rfl rfl (fun g hgl X => ?_)
  subst hgl
  unfold m_X0_add
  refine dt_aload_n X 0 dX0_add_0 rfl rfl ?_
  refine dt_get X (T := TX0) (N := 4) (v := .ref (dn_a u 35)) 2 (dn_h30 hu) rfl dn_in_X0_add_0 rfl rfl dn_fw_X0_add_18 rfl dX0_add_1 ?_
  refine dt_aload_n X 0 dX0_add_4 rfl rfl ?_
  refine dt_get X (T := TX0) (N := 4) (v := .int (dn_g s 30 3)) 3 (dn_h30 hu) rfl dn_in_X0_add_0 rfl rfl dn_fw_X0_add_26 rfl dX0_add_5 ?_
  refine dt_iload_n X 1 dX0_add_8 rfl rfl ?_
  refine dt_callV X (dn_runSN X [.ref (dn_a u 35), .int (dn_g s 30 3), .int a1] (c_X11_put (dn_la g) u hu 35 8 (dn_g s 30 3) a1 (dn_h35 hu) s) gX0_add_X11_put_n30 rfl dn_nm_X0_add_30 dn_sw_X0_add_X11_put_1 dn_sw_X0_add_X11_put_2 dn_hs_X11_put rfl rfl rfl rfl dX0_add_9) (fun r3 s1 e2 => ?_)
  refine dt_aload_n X 0 dX0_add_12 rfl rfl ?_
  refine dt_dup X dX0_add_13 rfl ?_
  refine dt_get X (T := TX0) (N := 4) (v := .int (dn_g s1 30 3)) 3 (dn_h30 hu) rfl dn_in_X0_add_0 rfl rfl dn_fw_X0_add_26 rfl dX0_add_14 ?_
  refine dt_iconst X (v := 1) dX0_add_17 (by decide) ?_
  refine dt_iadd X dX0_add_18 ?_
  refine dt_put X (T := TX0) (N := 4) 3 (dn_h30 hu) rfl dn_in_X0_add_0 rfl tyX0 tyX0_ok nmX0 rfl rfl dn_fw_X0_add_26 rfl rfl (dn_set30_3 _ _ _) dX0_add_19 (fun s4 => ?_)
  exact dt_vret X dX0_add_22
set_option maxRecDepth 100000 in
set_option maxHeartbeats 4000000 in
theorem c_X11_plan (l : Launch) (u : dn_U) (hu : dn_Lu u = dn_LC) (a1 : Int32) (s : dn_S) : dn_Met l u yX11_plan wsX11_plan 2 43 [.ref (dn_a u 0), .int a1] s (m_X11_plan a1 s) (dn_QI u) := by
  refine dt_entry RX11 [(0, .ref (dn_a u 0)), (1, .int a1)] (by decide +kernel) rfl rfl rfl rfl (fun g hgl X => ?_)
  subst hgl
  unfold m_X11_plan
  refine dt_iload_n X 1 dX11_plan_0 rfl rfl ?_
  refine dt_callZ X (dn_runS X [.int a1] (c_X11_isNameOrNone (dn_la g) u hu a1 s) gX11_plan_X11_isNameOrNone rfl dn_hs_X11_isNameOrNone rfl rfl rfl rfl dX11_plan_1) (fun r3 s1 e2 => ?_)
  refine dt_if_neb X 9 dX11_plan_4 (by decide) ?_ ?_
  · refine dt_aload_n X 0 dX11_plan_9 rfl rfl ?_
    refine dt_get X (T := TX11) (N := 10) (v := .ref (dn_a u 30)) 7 (dn_h0 hu) rfl dn_in_X11_plan_11 rfl rfl dn_fw_X11_plan_69 rfl dX11_plan_10 ?_
    refine dt_getN X (T := TX0) (N := 4) (v := .int (dn_g s1 30 3)) 3 (dn_h30 hu) rfl dn_in_X11_plan_0 rfl rfl dn_fw_X11_plan_241 rfl dX11_plan_13 ?_
    refine dt_bipush X (v := 8) dX11_plan_16 (by decide) ?_
    refine dt_icmp_lt X 24 dX11_plan_18 (by decide) ?_ ?_
    · refine dt_aload_n X 0 dX11_plan_24 rfl rfl ?_
      refine dt_get X (T := TX11) (N := 10) (v := .ref (dn_a u 30)) 7 (dn_h0 hu) rfl dn_in_X11_plan_11 rfl rfl dn_fw_X11_plan_69 rfl dX11_plan_25 ?_
      refine dt_iload_n X 1 dX11_plan_28 rfl rfl ?_
      refine dt_callV X (dn_runV X (T := TX0) (N := 4) [.int a1] (dn_h30 hu) rfl rfl (c_X0_add (dn_la g) u hu a1 s1) gX11_plan_X0_add rfl dn_hd_X0_add rfl rfl rfl rfl dX11_plan_29) (fun r6 s4 e5 => ?_)
      refine dt_aload_n X 0 dX11_plan_32 rfl rfl ?_
      refine dt_get X (T := TX11) (N := 10) (v := .ref (dn_a u 30)) 7 (dn_h0 hu) rfl dn_in_X11_plan_11 rfl rfl dn_fw_X11_plan_69 rfl dX11_plan_33 ?_
      refine dt_getN X (T := TX0) (N := 4) (v := .int (dn_g s4 30 3)) 3 (dn_h30 hu) rfl dn_in_X11_plan_0 rfl rfl dn_fw_X11_plan_241 rfl dX11_plan_36 ?_
      exact dt_iret X dX11_plan_39
    · refine dt_bipush X (v := -3) dX11_plan_21 (by decide) ?_
      exact dt_iret X dX11_plan_23
  · refine dt_iconst X (v := -1) dX11_plan_7 (by decide) ?_
    exact dt_iret X dX11_plan_8
set_option maxRecDepth 100000 in
set_option maxHeartbeats 4000000 in
theorem c_X11_unplan (l : Launch) (u : dn_U) (hu : dn_Lu u = dn_LC) (s : dn_S) : dn_Met l u yX11_unplan wsX11_unplan 1 21 [.ref (dn_a u 0)] s (m_X11_unplan  s) (dn_QI u) := by
  refine dt_entry RX11 [(0, .ref (dn_a u 0))] (by decide +kernel) rfl rfl rfl rfl (fun g hgl X => ?_)
  subst hgl
  unfold m_X11_unplan
  refine dt_aload_n X 0 dX11_unplan_0 rfl rfl ?_
  refine dt_get X (T := TX11) (N := 10) (v := .ref (dn_a u 30)) 7 (dn_h0 hu) rfl dn_in_X11_unplan_11 rfl rfl dn_fw_X11_unplan_69 rfl dX11_unplan_1 ?_
  refine dt_callI X (dn_runV X (T := TX0) (N := 4) [] (dn_h30 hu) rfl rfl (c_X0_empty (dn_la g) u hu s) gX11_unplan_X0_empty rfl dn_hd_X0_empty rfl rfl rfl rfl dX11_unplan_4) (fun r3 s1 e2 => ?_)
  exact dt_iret X dX11_unplan_7
set_option maxRecDepth 100000 in
set_option maxHeartbeats 4000000 in
theorem b_X0_carriedOut_43 {g : dn_M} {u : dn_U} (hu : dn_Lu u = dn_LC) (k1 : Nat) (h1 : dn_isM k1) (X : dn_X u g cX0_carriedOut wsX0_carriedOut RX0 4 4 93 (some (.object "DayNames$Moment"))) (K10 : Int32 → dn_S → Option (Unit × dn_S)) (H10 : ∀ (y2 : Int32) (s : dn_S), dn_T u g 4 (dn_QR u 31) (K10 y2 s) s 10 [(0, .ref (dn_a u 30)), (2, .int y2)] []) (y2 : Int32) (s : dn_S) : dn_T u g 4 (dn_QR u 31) (m_X0_carriedOut_43 k1 K10 y2 s) s 43 [(0, .ref (dn_a u 30)), (2, .int y2)] [] := by
  unfold m_X0_carriedOut_43
  refine dt_iinc X (v := y2 + 1) 1 [(2, .int (y2 + 1)), (0, .ref (dn_a u 30))] dX0_carriedOut_43 rfl (by rfl) rfl rfl ?_
  refine dt_ilet X rfl (fun x1 => ?_)
  refine dt_goto X 10 dX0_carriedOut_46 (by decide) ?_
  refine dt_sub X [(0, .ref (dn_a u 30)), (2, .int x1)] [1, 0] rfl ?_
  exact H10 x1 s
set_option maxRecDepth 100000 in
set_option maxHeartbeats 4000000 in
theorem b_X0_carriedOut_10 {g : dn_M} {u : dn_U} (hu : dn_Lu u = dn_LC) (k1 : Nat) (h1 : dn_isM k1) (X : dn_X u g cX0_carriedOut wsX0_carriedOut RX0 4 4 93 (some (.object "DayNames$Moment"))) : ∀ (n : Nat) (y2 : Int32) (s : dn_S), dn_T u g 4 (dn_QR u 31) (m_X0_carriedOut_10 k1 n y2 s) s 10 [(0, .ref (dn_a u 30)), (2, .int y2)] [] := by
  intro n
  induction n with
  | zero =>
    intro y2 s
    exact dt_none X
  | succ n ih =>
    intro y2 s
    rw [m_X0_carriedOut_10]
    refine dt_iload_n X 1 dX0_carriedOut_10 rfl rfl ?_
    refine dt_aload_n X 0 dX0_carriedOut_11 rfl rfl ?_
    refine dt_get X (T := TX0) (N := 4) (v := .int (dn_g s 30 3)) 3 (dn_h30 hu) rfl dn_in_X0_carriedOut_0 rfl rfl dn_fw_X0_carriedOut_26 rfl dX0_carriedOut_12 ?_
    refine dt_icmp_ge X 49 dX0_carriedOut_15 (by decide) ?_ ?_
    · refine dt_aload_n X 0 dX0_carriedOut_49 rfl rfl ?_
      refine dt_get X (T := TX0) (N := 4) (v := .ref (dn_a u 31)) 1 (dn_h30 hu) rfl dn_in_X0_carriedOut_0 rfl rfl dn_fw_X0_carriedOut_12 rfl dX0_carriedOut_50 ?_
      exact dt_rret X dX0_carriedOut_53
    · refine dt_aload_n X 0 dX0_carriedOut_18 rfl rfl ?_
      refine dt_get X (T := TX0) (N := 4) (v := .ref (dn_a u 35)) 2 (dn_h30 hu) rfl dn_in_X0_carriedOut_0 rfl rfl dn_fw_X0_carriedOut_18 rfl dX0_carriedOut_19 ?_
      refine dt_iload_n X 1 dX0_carriedOut_22 rfl rfl ?_
      refine dt_callI X (dn_runSN X [.ref (dn_a u 35), .int y2] (c_X11_at (dn_la g) u hu 35 8 y2 (dn_h35 hu) s) gX0_carriedOut_X11_at_n38 rfl dn_nm_X0_carriedOut_38 dn_sw_X0_carriedOut_X11_at_1 dn_sw_X0_carriedOut_X11_at_2 dn_hs_X11_at rfl rfl rfl rfl dX0_carriedOut_23) (fun r3 s1 e2 => ?_)
      refine dt_istore_n X [(3, .int r3), (0, .ref (dn_a u 30)), (2, .int y2)] dX0_carriedOut_26 rfl rfl rfl ?_
      refine dt_iload_n X 0 dX0_carriedOut_27 rfl rfl ?_
      refine dt_if_lt X 43 dX0_carriedOut_28 (by decide) ?_ ?_
      · refine dt_sub X [(0, .ref (dn_a u 30)), (2, .int y2)] [1, 2] rfl ?_
        exact b_X0_carriedOut_43 hu k1 h1 X (m_X0_carriedOut_10 k1 n) ih y2 s1
      · refine dt_aload_n X 1 dX0_carriedOut_31 rfl rfl ?_
        refine dt_get X (T := TX0) (N := 4) (v := .ref (dn_a u 14)) 0 (dn_h30 hu) rfl dn_in_X0_carriedOut_0 rfl rfl dn_fw_X0_carriedOut_22 rfl dX0_carriedOut_32 ?_
        refine dt_aload_n X 1 dX0_carriedOut_35 rfl rfl ?_
        refine dt_get X (T := TX0) (N := 4) (v := .ref (dn_a u 31)) 1 (dn_h30 hu) rfl dn_in_X0_carriedOut_0 rfl rfl dn_fw_X0_carriedOut_12 rfl dX0_carriedOut_36 ?_
        refine dt_iload_n X 0 dX0_carriedOut_39 rfl rfl ?_
        refine dt_callV X (dn_runV X (T := TX4) (N := 4) [.ref (dn_a u 31), .int r3] (dn_h14 hu) rfl rfl (c_X4_callDay (dn_la g) u hu 31 r3 dn_M31 s1) gX0_carriedOut_X4_callDay rfl dn_hd_X4_callDay rfl rfl rfl rfl dX0_carriedOut_40) (fun r6 s4 e5 => ?_)
        refine dt_sub X [(0, .ref (dn_a u 30)), (2, .int y2)] [1, 2] rfl ?_
        exact b_X0_carriedOut_43 hu k1 h1 X (m_X0_carriedOut_10 k1 n) ih y2 s4
set_option maxRecDepth 100000 in
set_option maxHeartbeats 4000000 in
theorem c_X0_carriedOut (l : Launch) (u : dn_U) (hu : dn_Lu u = dn_LC) (k1 : Nat) (h1 : dn_isM k1) (s : dn_S) : dn_Met l u yX0_carriedOut wsX0_carriedOut 4 93 [.ref (dn_a u 30), .ref (dn_a u k1)] s (m_X0_carriedOut k1 s) (dn_QR u 31) := by
  refine dt_entry RX0 [(0, .ref (dn_a u 30)), (1, .ref (dn_a u k1))] (by decide +kernel) rfl rfl rfl rfl (fun g hgl X => ?_)
  subst hgl
  unfold m_X0_carriedOut
  refine dt_aload_n X 0 dX0_carriedOut_0 rfl rfl ?_
  refine dt_get X (T := TX0) (N := 4) (v := .ref (dn_a u 31)) 1 (dn_h30 hu) rfl dn_in_X0_carriedOut_0 rfl rfl dn_fw_X0_carriedOut_12 rfl dX0_carriedOut_1 ?_
  refine dt_aload_n X 1 dX0_carriedOut_4 rfl rfl ?_
  refine dt_callV X (dn_runV X (T := TX3) (N := 8) [.ref (dn_a u k1)] (dn_hM hu dn_M31) rfl rfl (c_X3_copyFrom (dn_la g) u hu 31 k1 dn_M31 h1 s) gX0_carriedOut_X3_copyFrom rfl dn_hd_X3_copyFrom rfl rfl rfl rfl dX0_carriedOut_5) (fun r3 s1 e2 => ?_)
  refine dt_iconst X (v := 0) dX0_carriedOut_8 (by decide) ?_
  refine dt_istore_n X [(2, .int 0), (0, .ref (dn_a u 30)), (1, .ref (dn_a u k1))] dX0_carriedOut_9 rfl rfl rfl ?_
  refine dt_sub X [(0, .ref (dn_a u 30)), (2, .int 0)] [1, 0] rfl ?_
  exact b_X0_carriedOut_10 hu k1 h1 X 2048 0 s1
