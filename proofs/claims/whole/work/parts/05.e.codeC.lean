set_option maxRecDepth 100000 in
set_option maxHeartbeats 4000000 in
theorem c_X1_highest (l : Launch) (u : dn_U) (hu : dn_Lu u = dn_LC) (s : dn_S) : dn_Met l u yX1_highest wsX1_highest 1 23 [.ref (dn_a u 15)] s (m_X1_highest  s) (dn_QI u) := by
  refine dt_entry RX1 [(0, .ref (dn_a u 15))] (by decide +kernel) rfl rfl rfl rfl (fun g hgl X => ?_)
  subst hgl
  unfold m_X1_highest
  refine dt_aload_n X 0 dX1_highest_0 rfl rfl ?_
  refine dt_get X (T := TX1) (N := 2) (v := .ref (dn_a u 17)) 1 (dn_h15 hu) rfl dn_in_X1_highest_1 rfl rfl dn_fw_X1_highest_15 rfl dX1_highest_1 ?_
  refine dt_aload_n X 0 dX1_highest_4 rfl rfl ?_
  refine dt_callI X (dn_runV X (T := TX1) (N := 2) [] (dn_h15 hu) rfl rfl (c_X1_winner (dn_la g) u hu s) gX1_highest_X1_winner rfl dn_hd_X1_winner rfl rfl rfl rfl dX1_highest_5) (fun r3 s1 e2 => ?_)
  refine dt_callI X (dn_runSN X [.ref (dn_a u 17), .int r3] (c_X11_at (dn_la g) u hu 17 5 r3 (dn_h17 hu) s1) gX1_highest_X11_at_n32 rfl dn_nm_X1_highest_32 dn_sw_X1_highest_X11_at_1 dn_sw_X1_highest_X11_at_2 dn_hs_X11_at rfl rfl rfl rfl dX1_highest_8) (fun r6 s4 e5 => ?_)
  exact dt_iret X dX1_highest_11
set_option maxRecDepth 100000 in
set_option maxHeartbeats 4000000 in
theorem c_X4_highestBid (l : Launch) (u : dn_U) (hu : dn_Lu u = dn_LC) (s : dn_S) : dn_Met l u yX4_highestBid wsX4_highestBid 2 43 [.ref (dn_a u 14)] s (m_X4_highestBid  s) (dn_QI u) := by
  refine dt_entry RX4 [(0, .ref (dn_a u 14))] (by decide +kernel) rfl rfl rfl rfl (fun g hgl X => ?_)
  subst hgl
  unfold m_X4_highestBid
  refine dt_aload_n X 0 dX4_highestBid_0 rfl rfl ?_
  refine dt_get X (T := TX4) (N := 4) (v := .ref (dn_a u 15)) 1 (dn_h14 hu) rfl dn_in_X4_highestBid_4 rfl rfl dn_fw_X4_highestBid_12 rfl dX4_highestBid_1 ?_
  refine dt_callI X (dn_runV X (T := TX1) (N := 2) [] (dn_h15 hu) rfl rfl (c_X1_highest (dn_la g) u hu s) gX4_highestBid_X1_highest rfl dn_hd_X1_highest rfl rfl rfl rfl dX4_highestBid_4) (fun r3 s1 e2 => ?_)
  exact dt_iret X dX4_highestBid_7
set_option maxRecDepth 100000 in
set_option maxHeartbeats 4000000 in
theorem b_X5_cheapest_124 {g : dn_M} {u : dn_U} (hu : dn_Lu u = dn_LC) (k1 : Nat) (h1 : dn_isM k1) (X : dn_X u g cX5_cheapest wsX5_cheapest RX5 11 5 115 (some .int)) (K19 : Int32 → Int32 → Int32 → Int32 → Int32 → Int32 → dn_S → Option (Int32 × dn_S)) (H19 : ∀ (y2 : Int32) (y3 : Int32) (y4 : Int32) (y5 : Int32) (y6 : Int32) (y7 : Int32) (s : dn_S), dn_T u g 11 (dn_QI u) (K19 y2 y3 y4 y5 y6 y7 s) s 19 [(0, .ref (dn_a u 18)), (2, .int y2), (3, .int y3), (4, .int y4), (5, .int y5), (6, .int y6), (7, .int y7)] []) (y2 : Int32) (y3 : Int32) (y4 : Int32) (y5 : Int32) (y6 : Int32) (y7 : Int32) (s : dn_S) : dn_T u g 11 (dn_QI u) (m_X5_cheapest_124 k1 K19 y2 y3 y4 y5 y6 y7 s) s 124 [(0, .ref (dn_a u 18)), (2, .int y2), (3, .int y3), (4, .int y4), (5, .int y5), (6, .int y6), (7, .int y7)] [] := by
  unfold m_X5_cheapest_124
  refine dt_iinc X (v := y7 + 1) 6 [(7, .int (y7 + 1)), (0, .ref (dn_a u 18)), (2, .int y2), (3, .int y3), (4, .int y4), (5, .int y5), (6, .int y6)] dX5_cheapest_124 rfl (by rfl) rfl rfl ?_
  refine dt_ilet X rfl (fun x1 => ?_)
  refine dt_goto X 19 dX5_cheapest_127 (by decide) ?_
  refine dt_sub X [(0, .ref (dn_a u 18)), (2, .int y2), (3, .int y3), (4, .int y4), (5, .int y5), (6, .int y6), (7, .int x1)] [1, 2, 3, 4, 5, 6, 0] rfl ?_
  exact H19 y2 y3 y4 y5 y6 x1 s
set_option maxRecDepth 100000 in
set_option maxHeartbeats 4000000 in
theorem b_X5_cheapest_116 {g : dn_M} {u : dn_U} (hu : dn_Lu u = dn_LC) (k1 : Nat) (h1 : dn_isM k1) (X : dn_X u g cX5_cheapest wsX5_cheapest RX5 11 5 115 (some .int)) (K19 : Int32 → Int32 → Int32 → Int32 → Int32 → Int32 → dn_S → Option (Int32 × dn_S)) (H19 : ∀ (y2 : Int32) (y3 : Int32) (y4 : Int32) (y5 : Int32) (y6 : Int32) (y7 : Int32) (s : dn_S), dn_T u g 11 (dn_QI u) (K19 y2 y3 y4 y5 y6 y7 s) s 19 [(0, .ref (dn_a u 18)), (2, .int y2), (3, .int y3), (4, .int y4), (5, .int y5), (6, .int y6), (7, .int y7)] []) (y2 : Int32) (y3 : Int32) (y4 : Int32) (y7 : Int32) (y10 : Int32) (s : dn_S) : dn_T u g 11 (dn_QI u) (m_X5_cheapest_116 k1 K19 y2 y3 y4 y7 y10 s) s 116 [(0, .ref (dn_a u 18)), (2, .int y2), (3, .int y3), (4, .int y4), (7, .int y7), (10, .int y10)] [] := by
  unfold m_X5_cheapest_116
  refine dt_iload X 4 dX5_cheapest_116 rfl ?_
  refine dt_istore X [(5, .int y7), (0, .ref (dn_a u 18)), (2, .int y2), (3, .int y3), (4, .int y4), (7, .int y7), (10, .int y10)] dX5_cheapest_118 rfl rfl ?_
  refine dt_iload X 6 dX5_cheapest_120 rfl ?_
  refine dt_istore X [(6, .int y10), (5, .int y7), (0, .ref (dn_a u 18)), (2, .int y2), (3, .int y3), (4, .int y4), (7, .int y7), (10, .int y10)] dX5_cheapest_122 rfl rfl ?_
  refine dt_sub X [(0, .ref (dn_a u 18)), (2, .int y2), (3, .int y3), (4, .int y4), (5, .int y7), (6, .int y10), (7, .int y7)] [2, 3, 4, 5, 1, 0, 6] rfl ?_
  exact b_X5_cheapest_124 hu k1 h1 X K19 H19 y2 y3 y4 y7 y10 y7 s
set_option maxRecDepth 100000 in
set_option maxHeartbeats 4000000 in
theorem b_X5_cheapest_85 {g : dn_M} {u : dn_U} (hu : dn_Lu u = dn_LC) (k1 : Nat) (h1 : dn_isM k1) (X : dn_X u g cX5_cheapest wsX5_cheapest RX5 11 5 115 (some .int)) (K19 : Int32 → Int32 → Int32 → Int32 → Int32 → Int32 → dn_S → Option (Int32 × dn_S)) (H19 : ∀ (y2 : Int32) (y3 : Int32) (y4 : Int32) (y5 : Int32) (y6 : Int32) (y7 : Int32) (s : dn_S), dn_T u g 11 (dn_QI u) (K19 y2 y3 y4 y5 y6 y7 s) s 19 [(0, .ref (dn_a u 18)), (2, .int y2), (3, .int y3), (4, .int y4), (5, .int y5), (6, .int y6), (7, .int y7)] []) (y2 : Int32) (y3 : Int32) (y4 : Int32) (y5 : Int32) (y6 : Int32) (y7 : Int32) (y8 : Bool) (z0 : Int32) (s : dn_S) : dn_T u g 11 (dn_QI u) (m_X5_cheapest_85 k1 K19 y2 y3 y4 y5 y6 y7 y8 z0 s) s 85 [(0, .ref (dn_a u 18)), (2, .int y2), (3, .int y3), (4, .int y4), (5, .int y5), (6, .int y6), (7, .int y7), (8, .int (dn_b y8))] [.int z0] := by
  unfold m_X5_cheapest_85
  refine dt_istore X [(10, .int z0), (0, .ref (dn_a u 18)), (2, .int y2), (3, .int y3), (4, .int y4), (5, .int y5), (6, .int y6), (7, .int y7), (8, .int (dn_b y8))] dX5_cheapest_85 rfl rfl ?_
  refine dt_iload X 8 dX5_cheapest_87 rfl ?_
  refine dt_if_neb X 124 dX5_cheapest_89 (by decide) ?_ ?_
  · refine dt_sub X [(0, .ref (dn_a u 18)), (2, .int y2), (3, .int y3), (4, .int y4), (5, .int y5), (6, .int y6), (7, .int y7)] [1, 2, 3, 4, 5, 6, 7] rfl ?_
    exact b_X5_cheapest_124 hu k1 h1 X K19 H19 y2 y3 y4 y5 y6 y7 s
  · refine dt_iload X 0 dX5_cheapest_92 rfl ?_
    refine dt_bipush X (v := 40) dX5_cheapest_94 (by decide) ?_
    refine dt_icmp_le X 102 dX5_cheapest_96 (by decide) ?_ ?_
    · refine dt_iload X 5 dX5_cheapest_102 rfl ?_
      refine dt_bipush X (v := -9) dX5_cheapest_104 (by decide) ?_
      refine dt_icmp_eq X 116 dX5_cheapest_106 (by decide) ?_ ?_
      · refine dt_sub X [(0, .ref (dn_a u 18)), (2, .int y2), (3, .int y3), (4, .int y4), (7, .int y7), (10, .int z0)] [1, 2, 3, 4, 7, 0] rfl ?_
        exact b_X5_cheapest_116 hu k1 h1 X K19 H19 y2 y3 y4 y7 z0 s
      · refine dt_iload X 0 dX5_cheapest_109 rfl ?_
        refine dt_iload X 6 dX5_cheapest_111 rfl ?_
        refine dt_icmp_ge X 124 dX5_cheapest_113 (by decide) ?_ ?_
        · refine dt_sub X [(0, .ref (dn_a u 18)), (2, .int y2), (3, .int y3), (4, .int y4), (5, .int y5), (6, .int y6), (7, .int y7)] [1, 2, 3, 4, 5, 6, 7] rfl ?_
          exact b_X5_cheapest_124 hu k1 h1 X K19 H19 y2 y3 y4 y5 y6 y7 s
        · refine dt_sub X [(0, .ref (dn_a u 18)), (2, .int y2), (3, .int y3), (4, .int y4), (7, .int y7), (10, .int z0)] [1, 2, 3, 4, 7, 0] rfl ?_
          exact b_X5_cheapest_116 hu k1 h1 X K19 H19 y2 y3 y4 y7 z0 s
    · refine dt_goto X 124 dX5_cheapest_99 (by decide) ?_
      refine dt_sub X [(0, .ref (dn_a u 18)), (2, .int y2), (3, .int y3), (4, .int y4), (5, .int y5), (6, .int y6), (7, .int y7)] [1, 2, 3, 4, 5, 6, 7] rfl ?_
      exact b_X5_cheapest_124 hu k1 h1 X K19 H19 y2 y3 y4 y5 y6 y7 s
set_option maxRecDepth 100000 in
set_option maxHeartbeats 4000000 in
theorem b_X5_cheapest_19 {g : dn_M} {u : dn_U} (hu : dn_Lu u = dn_LC) (k1 : Nat) (h1 : dn_isM k1) (X : dn_X u g cX5_cheapest wsX5_cheapest RX5 11 5 115 (some .int)) : ∀ (n : Nat) (y2 : Int32) (y3 : Int32) (y4 : Int32) (y5 : Int32) (y6 : Int32) (y7 : Int32) (s : dn_S), dn_T u g 11 (dn_QI u) (m_X5_cheapest_19 k1 n y2 y3 y4 y5 y6 y7 s) s 19 [(0, .ref (dn_a u 18)), (2, .int y2), (3, .int y3), (4, .int y4), (5, .int y5), (6, .int y6), (7, .int y7)] [] := by
  intro n
  induction n with
  | zero =>
    intro y2 y3 y4 y5 y6 y7 s
    exact dt_none X
  | succ n ih =>
    intro y2 y3 y4 y5 y6 y7 s
    rw [m_X5_cheapest_19]
    refine dt_iload X 6 dX5_cheapest_19 rfl ?_
    refine dt_iload_n X 2 dX5_cheapest_21 rfl rfl ?_
    refine dt_icmp_gt X 130 dX5_cheapest_22 (by decide) ?_ ?_
    · refine dt_iload X 3 dX5_cheapest_130 rfl ?_
      refine dt_if_ne X 140 dX5_cheapest_132 (by decide) ?_ ?_
      · refine dt_iload X 5 dX5_cheapest_140 rfl ?_
        exact dt_iret X dX5_cheapest_142
      · refine dt_iload X 4 dX5_cheapest_135 rfl ?_
        refine dt_goto X 142 dX5_cheapest_137 (by decide) ?_
        exact dt_iret X dX5_cheapest_142
    · refine dt_aload_n X 0 dX5_cheapest_25 rfl rfl ?_
      refine dt_get X (T := TX5) (N := 3) (v := .ref (dn_a u 19)) 2 (dn_h18 hu) rfl dn_in_X5_cheapest_5 rfl rfl dn_fw_X5_cheapest_12 rfl dX5_cheapest_26 ?_
      refine dt_iload_n X 1 dX5_cheapest_29 rfl rfl ?_
      refine dt_aload_n X 0 dX5_cheapest_30 rfl rfl ?_
      refine dt_get X (T := TX5) (N := 3) (v := .ref (dn_a u 3)) 0 (dn_h18 hu) rfl dn_in_X5_cheapest_5 rfl rfl dn_fw_X5_cheapest_18 rfl dX5_cheapest_31 ?_
      refine dt_getN X (T := TX10) (N := 5) (v := .int (dn_g s 3 4)) 4 (dn_hT hu dn_T3) rfl dn_in_X5_cheapest_10 rfl rfl dn_fw_X5_cheapest_43 rfl dX5_cheapest_34 ?_
      refine dt_callZ X (dn_runV X (T := TX3) (N := 8) [.int y2, .int (dn_g s 3 4)] (dn_hM hu dn_M19) rfl rfl (c_X3_isBarred (dn_la g) u hu 19 y2 (dn_g s 3 4) dn_M19 s) gX5_cheapest_X3_isBarred rfl dn_hd_X3_isBarred rfl rfl rfl rfl dX5_cheapest_37) (fun r3 s1 e2 => ?_)
      refine dt_istore X [(8, .int (dn_b r3)), (0, .ref (dn_a u 18)), (2, .int y2), (3, .int y3), (4, .int y4), (5, .int y5), (6, .int y6), (7, .int y7)] dX5_cheapest_40 rfl rfl ?_
      refine dt_aload_n X 1 dX5_cheapest_42 rfl rfl ?_
      refine dt_get X (T := TX5) (N := 3) (v := .ref (dn_a u 14)) 1 (dn_h18 hu) rfl dn_in_X5_cheapest_5 rfl rfl dn_fw_X5_cheapest_22 rfl dX5_cheapest_43 ?_
      refine dt_aload_n X 1 dX5_cheapest_46 rfl rfl ?_
      refine dt_get X (T := TX5) (N := 3) (v := .ref (dn_a u 19)) 2 (dn_h18 hu) rfl dn_in_X5_cheapest_5 rfl rfl dn_fw_X5_cheapest_12 rfl dX5_cheapest_47 ?_
      refine dt_callV X (dn_runV X (T := TX4) (N := 4) [.ref (dn_a u 19)] (dn_h14 hu) rfl rfl (c_X4_open (dn_la g) u hu 19 dn_M19 s1) gX5_cheapest_X4_open rfl dn_hd_X4_open rfl rfl rfl rfl dX5_cheapest_50) (fun r6 s4 e5 => ?_)
      refine dt_aload_n X 1 dX5_cheapest_53 rfl rfl ?_
      refine dt_get X (T := TX5) (N := 3) (v := .ref (dn_a u 14)) 1 (dn_h18 hu) rfl dn_in_X5_cheapest_5 rfl rfl dn_fw_X5_cheapest_22 rfl dX5_cheapest_54 ?_
      refine dt_callI X (dn_runV X (T := TX4) (N := 4) [] (dn_h14 hu) rfl rfl (c_X4_highestBid (dn_la g) u hu s4) gX5_cheapest_X4_highestBid rfl dn_hd_X4_highestBid rfl rfl rfl rfl dX5_cheapest_57) (fun r9 s7 e8 => ?_)
      refine dt_iconst X (v := 1) dX5_cheapest_60 (by decide) ?_
      refine dt_iadd X dX5_cheapest_61 ?_
      refine dt_let X (fun x10 => ?_)
      refine dt_istore X [(9, .int x10), (8, .int (dn_b r3)), (0, .ref (dn_a u 18)), (2, .int y2), (3, .int y3), (4, .int y4), (5, .int y5), (6, .int y6), (7, .int y7)] dX5_cheapest_62 rfl rfl ?_
      refine dt_aload_n X 2 dX5_cheapest_64 rfl rfl ?_
      refine dt_get X (T := TX5) (N := 3) (v := .ref (dn_a u 14)) 1 (dn_h18 hu) rfl dn_in_X5_cheapest_5 rfl rfl dn_fw_X5_cheapest_22 rfl dX5_cheapest_65 ?_
      refine dt_aload_n X 2 dX5_cheapest_68 rfl rfl ?_
      refine dt_get X (T := TX5) (N := 3) (v := .ref (dn_a u 19)) 2 (dn_h18 hu) rfl dn_in_X5_cheapest_5 rfl rfl dn_fw_X5_cheapest_12 rfl dX5_cheapest_69 ?_
      refine dt_callI X (dn_runV X (T := TX4) (N := 4) [.ref (dn_a u 19)] (dn_h14 hu) rfl rfl (c_X4_close (dn_la g) u hu 19 dn_M19 s7) gX5_cheapest_X4_close rfl dn_hd_X4_close rfl rfl rfl rfl dX5_cheapest_72) (fun r13 s11 e12 => ?_)
      refine dt_iload_n X 3 dX5_cheapest_75 rfl rfl ?_
      refine dt_icmp_ne X 83 dX5_cheapest_76 (by decide) ?_ ?_
      · refine dt_iload X 0 dX5_cheapest_83 rfl ?_
        refine dt_sub X [(0, .ref (dn_a u 18)), (2, .int y2), (3, .int y3), (4, .int y4), (5, .int y5), (6, .int y6), (7, .int y7), (8, .int (dn_b r3))] [2, 3, 4, 5, 6, 7, 8, 1] rfl ?_
        exact b_X5_cheapest_85 hu k1 h1 X (m_X5_cheapest_19 k1 n) ih y2 y3 y4 y5 y6 y7 r3 x10 s11
      · refine dt_iconst X (v := 0) dX5_cheapest_79 (by decide) ?_
        refine dt_goto X 85 dX5_cheapest_80 (by decide) ?_
        refine dt_sub X [(0, .ref (dn_a u 18)), (2, .int y2), (3, .int y3), (4, .int y4), (5, .int y5), (6, .int y6), (7, .int y7), (8, .int (dn_b r3))] [2, 3, 4, 5, 6, 7, 8, 1] rfl ?_
        exact b_X5_cheapest_85 hu k1 h1 X (m_X5_cheapest_19 k1 n) ih y2 y3 y4 y5 y6 y7 r3 0 s11
set_option maxRecDepth 100000 in
set_option maxHeartbeats 4000000 in
theorem c_X5_cheapest (l : Launch) (u : dn_U) (hu : dn_Lu u = dn_LC) (k1 : Nat) (a2 : Int32) (a3 : Int32) (a4 : Int32) (h1 : dn_isM k1) (s : dn_S) : dn_Met l u yX5_cheapest wsX5_cheapest 5 115 [.ref (dn_a u 18), .ref (dn_a u k1), .int a2, .int a3, .int a4] s (m_X5_cheapest k1 a2 a3 a4 s) (dn_QI u) := by
  refine dt_entry RX5 [(0, .ref (dn_a u 18)), (1, .ref (dn_a u k1)), (2, .int a2), (3, .int a3), (4, .int a4)] (by decide +kernel) rfl rfl rfl rfl (fun g hgl X => ?_)
  subst hgl
  unfold m_X5_cheapest
    refine dt_iload X 6 dX5_cheapest_19 rfl ?_
    refine dt_iload_n X 2 dX5_cheapest_21 rfl rfl ?_
    refine dt_icmp_gt X 130 dX5_cheapest_22 (by decide) ?_ ?_
    · refine dt_iload X 3 dX5_cheapest_130 rfl ?_
      refine dt_if_ne X 140 dX5_cheapest_132 (by decide) ?_ ?_
      · refine dt_iload X 5 dX5_cheapest_140 rfl ?_
        exact dt_iret X dX5_cheapest_142
      · refine dt_iload X 4 dX5_cheapest_135 rfl ?_
        refine dt_goto X 142 dX5_cheapest_137 (by decide) ?_
        exact dt_iret X dX5_cheapest_142
    · refine dt_aload_n X 0 dX5_cheapest_25 rfl rfl ?_
      refine dt_get X (T := TX5) (N := 3) (v := .ref (dn_a u 19)) 2 (dn_h18 hu) rfl dn_in_X5_cheapest_5 rfl rfl dn_fw_X5_cheapest_12 rfl dX5_cheapest_26 ?_
      refine dt_iload_n X 1 dX5_cheapest_29 rfl rfl ?_
      refine dt_aload_n X 0 dX5_cheapest_30 rfl rfl ?_
      refine dt_get X (T := TX5) (N := 3) (v := .ref (dn_a u 3)) 0 (dn_h18 hu) rfl dn_in_X5_cheapest_5 rfl rfl dn_fw_X5_cheapest_18 rfl dX5_cheapest_31 ?_
      refine dt_getN X (T := TX10) (N := 5) (v := .int (dn_g s 3 4)) 4 (dn_hT hu dn_T3) rfl dn_in_X5_cheapest_10 rfl rfl dn_fw_X5_cheapest_43 rfl dX5_cheapest_34 ?_
      refine dt_callZ X (dn_runV X (T := TX3) (N := 8) [.int y2, .int (dn_g s 3 4)] (dn_hM hu dn_M19) rfl rfl (c_X3_isBarred (dn_la g) u hu 19 y2 (dn_g s 3 4) dn_M19 s) gX5_cheapest_X3_isBarred rfl dn_hd_X3_isBarred rfl rfl rfl rfl dX5_cheapest_37) (fun r3 s1 e2 => ?_)
      refine dt_istore X [(8, .int (dn_b r3)), (0, .ref (dn_a u 18)), (2, .int y2), (3, .int y3), (4, .int y4), (5, .int y5), (6, .int y6), (7, .int y7)] dX5_cheapest_40 rfl rfl ?_
      refine dt_aload_n X 1 dX5_cheapest_42 rfl rfl ?_
      refine dt_get X (T := TX5) (N := 3) (v := .ref (dn_a u 14)) 1 (dn_h18 hu) rfl dn_in_X5_cheapest_5 rfl rfl dn_fw_X5_cheapest_22 rfl dX5_cheapest_43 ?_
      refine dt_aload_n X 1 dX5_cheapest_46 rfl rfl ?_
      refine dt_get X (T := TX5) (N := 3) (v := .ref (dn_a u 19)) 2 (dn_h18 hu) rfl dn_in_X5_cheapest_5 rfl rfl dn_fw_X5_cheapest_12 rfl dX5_cheapest_47 ?_
      refine dt_callV X (dn_runV X (T := TX4) (N := 4) [.ref (dn_a u 19)] (dn_h14 hu) rfl rfl (c_X4_open (dn_la g) u hu 19 dn_M19 s1) gX5_cheapest_X4_open rfl dn_hd_X4_open rfl rfl rfl rfl dX5_cheapest_50) (fun r6 s4 e5 => ?_)
      refine dt_aload_n X 1 dX5_cheapest_53 rfl rfl ?_
      refine dt_get X (T := TX5) (N := 3) (v := .ref (dn_a u 14)) 1 (dn_h18 hu) rfl dn_in_X5_cheapest_5 rfl rfl dn_fw_X5_cheapest_22 rfl dX5_cheapest_54 ?_
      refine dt_callI X (dn_runV X (T := TX4) (N := 4) [] (dn_h14 hu) rfl rfl (c_X4_highestBid (dn_la g) u hu s4) gX5_cheapest_X4_highestBid rfl dn_hd_X4_highestBid rfl rfl rfl rfl dX5_cheapest_57) (fun r9 s7 e8 => ?_)
      refine dt_iconst X (v := 1) dX5_cheapest_60 (by decide) ?_
      refine dt_iadd X dX5_cheapest_61 ?_
      refine dt_let X (fun x10 => ?_)
      refine dt_istore X [(9, .int x10), (8, .int (dn_b r3)), (0, .ref (dn_a u 18)), (2, .int y2), (3, .int y3), (4, .int y4), (5, .int y5), (6, .int y6), (7, .int y7)] dX5_cheapest_62 rfl rfl ?_
      refine dt_aload_n X 2 dX5_cheapest_64 rfl rfl ?_
      refine dt_get X (T := TX5) (N := 3) (v := .ref (dn_a u 14)) 1 (dn_h18 hu) rfl dn_in_X5_cheapest_5 rfl rfl dn_fw_X5_cheapest_22 rfl dX5_cheapest_65 ?_
      refine dt_aload_n X 2 dX5_cheapest_68 rfl rfl ?_
      refine dt_get X (T := TX5) (N := 3) (v := .ref (dn_a u 19)) 2 (dn_h18 hu) rfl dn_in_X5_cheapest_5 rfl rfl dn_fw_X5_cheapest_12 rfl dX5_cheapest_69 ?_
      refine dt_callI X (dn_runV X (T := TX4) (N := 4) [.ref (dn_a u 19)] (dn_h14 hu) rfl rfl (c_X4_close (dn_la g) u hu 19 dn_M19 s7) gX5_cheapest_X4_close rfl dn_hd_X4_close rfl rfl rfl rfl dX5_cheapest_72) (fun r13 s11 e12 => ?_)
      refine dt_iload_n X 3 dX5_cheapest_75 rfl rfl ?_
      refine dt_icmp_ne X 83 dX5_cheapest_76 (by decide) ?_ ?_
      · refine dt_iload X 0 dX5_cheapest_83 rfl ?_
        refine dt_sub X [(0, .ref (dn_a u 18)), (2, .int y2), (3, .int y3), (4, .int y4), (5, .int y5), (6, .int y6), (7, .int y7), (8, .int (dn_b r3))] [2, 3, 4, 5, 6, 7, 8, 1] rfl ?_
        exact b_X5_cheapest_85 hu k1 h1 X (m_X5_cheapest_19 k1 n) ih y2 y3 y4 y5 y6 y7 r3 x10 s11
      · refine dt_iconst X (v := 0) dX5_cheapest_79 (by decide) ?_
        refine dt_goto X 85 dX5_cheapest_80 (by decide) ?_
        refine dt_sub X [(0, .ref (dn_a u 18)), (2, .int y2), (3, .int y3), (4, .int y4), (5, .int y5), (6, .int y6), (7, .int y7), (8, .int (dn_b r3))] [2, 3, 4, 5, 6, 7, 8, 1] rfl ?_
        exact b_X5_cheapest_85 hu k1 h1 X (m_X5_cheapest_19 k1 n) ih y2 y3 y4 y5 y6 y7 r3 0 s11
set_option maxRecDepth 100000 in
set_option maxHeartbeats 4000000 in
theorem c_X11_buy (l : Launch) (u : dn_U) (hu : dn_Lu u = dn_LC) (a1 : Int32) (a2 : Int32) (a3 : Int32) (s : dn_S) : dn_Met l u yX11_buy wsX11_buy 6 145 [.ref (dn_a u 0), .int a1, .int a2, .int a3] s (m_X11_buy a1 a2 a3 s) (dn_QI u) := by
  refine dt_entry RX11 [(0, .ref (dn_a u 0)), (1, .int a1), (2, .int a2), (3, .int a3)] (by decide +kernel) rfl rfl rfl rfl (fun g hgl X => ?_)
  subst hgl
  unfold m_X11_buy
  refine dt_iload_n X 1 dX11_buy_0 rfl rfl ?_
  refine dt_callZ X (dn_runS X [.int a1] (c_X11_isName (dn_la g) u hu a1 s) gX11_buy_X11_isName rfl dn_hs_X11_isName rfl rfl rfl rfl dX11_buy_1) (fun r3 s1 e2 => ?_)
  refine dt_if_eqb X 26 dX11_buy_4 (by decide) ?_ ?_
  · refine dt_iconst X (v := -1) dX11_buy_26 (by decide) ?_
    exact dt_iret X dX11_buy_27
  · refine dt_iload_n X 2 dX11_buy_7 rfl rfl ?_
    refine dt_iconst X (v := 1) dX11_buy_8 (by decide) ?_
    refine dt_bipush X (v := 10) dX11_buy_9 (by decide) ?_
    refine dt_callZ X (dn_runS X [.int a2, .int 1, .int 10] (c_X11_within (dn_la g) u hu a2 1 10 s1) gX11_buy_X11_within rfl dn_hs_X11_within rfl rfl rfl rfl dX11_buy_11) (fun r6 s4 e5 => ?_)
    refine dt_if_eqb X 26 dX11_buy_14 (by decide) ?_ ?_
    · refine dt_iconst X (v := -1) dX11_buy_26 (by decide) ?_
      exact dt_iret X dX11_buy_27
    · refine dt_iload_n X 3 dX11_buy_17 rfl rfl ?_
      refine dt_iconst X (v := 0) dX11_buy_18 (by decide) ?_
      refine dt_iconst X (v := 1) dX11_buy_19 (by decide) ?_
      refine dt_callZ X (dn_runS X [.int a3, .int 0, .int 1] (c_X11_within (dn_la g) u hu a3 0 1 s4) gX11_buy_X11_within rfl dn_hs_X11_within rfl rfl rfl rfl dX11_buy_20) (fun r9 s7 e8 => ?_)
      refine dt_if_neb X 28 dX11_buy_23 (by decide) ?_ ?_
      · refine dt_aload_n X 0 dX11_buy_28 rfl rfl ?_
        refine dt_get X (T := TX11) (N := 10) (v := .ref (dn_a u 18)) 5 (dn_h0 hu) rfl dn_in_X11_buy_11 rfl rfl dn_fw_X11_buy_53 rfl dX11_buy_29 ?_
        refine dt_aload_n X 0 dX11_buy_32 rfl rfl ?_
        refine dt_get X (T := TX11) (N := 10) (v := .ref (dn_a u 10)) 3 (dn_h0 hu) rfl dn_in_X11_buy_11 rfl rfl dn_fw_X11_buy_35 rfl dX11_buy_33 ?_
        refine dt_iload_n X 1 dX11_buy_36 rfl rfl ?_
        refine dt_iload_n X 2 dX11_buy_37 rfl rfl ?_
        refine dt_iload_n X 3 dX11_buy_38 rfl rfl ?_
        refine dt_callI X (dn_runV X (T := TX5) (N := 3) [.ref (dn_a u 10), .int a1, .int a2, .int a3] (dn_h18 hu) rfl rfl (c_X5_cheapest (dn_la g) u hu 10 a1 a2 a3 dn_M10 s7) gX11_buy_X5_cheapest rfl dn_hd_X5_cheapest rfl rfl rfl rfl dX11_buy_39) (fun r12 s10 e11 => ?_)
        exact dt_iret X dX11_buy_42
      · refine dt_iconst X (v := -1) dX11_buy_26 (by decide) ?_
        exact dt_iret X dX11_buy_27
set_option maxRecDepth 100000 in
set_option maxHeartbeats 4000000 in
theorem b_X5_holding_87 {g : dn_M} {u : dn_U} (hu : dn_Lu u = dn_LC) (k1 : Nat) (h1 : dn_isM k1) (X : dn_X u g cX5_holding wsX5_holding RX5 8 5 115 (some .int)) (K14 : Int32 → Int32 → Int32 → Int32 → Int32 → dn_S → Option (Int32 × dn_S)) (H14 : ∀ (y2 : Int32) (y3 : Int32) (y4 : Int32) (y5 : Int32) (y6 : Int32) (s : dn_S), dn_T u g 8 (dn_QI u) (K14 y2 y3 y4 y5 y6 s) s 14 [(0, .ref (dn_a u 18)), (1, .ref (dn_a u k1)), (2, .int y2), (3, .int y3), (4, .int y4), (5, .int y5), (6, .int y6)] []) (y2 : Int32) (y3 : Int32) (y4 : Int32) (y5 : Int32) (y6 : Int32) (s : dn_S) : dn_T u g 8 (dn_QI u) (m_X5_holding_87 k1 K14 y2 y3 y4 y5 y6 s) s 87 [(0, .ref (dn_a u 18)), (1, .ref (dn_a u k1)), (2, .int y2), (3, .int y3), (4, .int y4), (5, .int y5), (6, .int y6)] [] := by
  unfold m_X5_holding_87
  refine dt_aload_n X 0 dX5_holding_87 rfl rfl ?_
  refine dt_get X (T := TX5) (N := 3) (v := .ref (dn_a u 14)) 1 (dn_h18 hu) rfl dn_in_X5_holding_5 rfl rfl dn_fw_X5_holding_22 rfl dX5_holding_88 ?_
  refine dt_aload_n X 0 dX5_holding_91 rfl rfl ?_
  refine dt_get X (T := TX5) (N := 3) (v := .ref (dn_a u 19)) 2 (dn_h18 hu) rfl dn_in_X5_holding_5 rfl rfl dn_fw_X5_holding_12 rfl dX5_holding_92 ?_
  refine dt_callI X (dn_runV X (T := TX4) (N := 4) [.ref (dn_a u 19)] (dn_h14 hu) rfl rfl (c_X4_close (dn_la g) u hu 19 dn_M19 s) gX5_holding_X4_close rfl dn_hd_X4_close rfl rfl rfl rfl dX5_holding_95) (fun r3 s1 e2 => ?_)
  refine dt_pop X dX5_holding_98 rfl ?_
  refine dt_iinc X (v := y6 + 1) 6 [(6, .int (y6 + 1)), (0, .ref (dn_a u 18)), (1, .ref (dn_a u k1)), (2, .int y2), (3, .int y3), (4, .int y4), (5, .int y5)] dX5_holding_99 rfl (by rfl) rfl rfl ?_
  refine dt_ilet X rfl (fun x4 => ?_)
  refine dt_goto X 14 dX5_holding_102 (by decide) ?_
  refine dt_sub X [(0, .ref (dn_a u 18)), (1, .ref (dn_a u k1)), (2, .int y2), (3, .int y3), (4, .int y4), (5, .int y5), (6, .int x4)] [1, 2, 3, 4, 5, 6, 0] rfl ?_
  exact H14 y2 y3 y4 y5 x4 s1
set_option maxRecDepth 100000 in
set_option maxHeartbeats 4000000 in
theorem b_X5_holding_14 {g : dn_M} {u : dn_U} (hu : dn_Lu u = dn_LC) (k1 : Nat) (h1 : dn_isM k1) (X : dn_X u g cX5_holding wsX5_holding RX5 8 5 115 (some .int)) : ∀ (n : Nat) (y2 : Int32) (y3 : Int32) (y4 : Int32) (y5 : Int32) (y6 : Int32) (s : dn_S), dn_T u g 8 (dn_QI u) (m_X5_holding_14 k1 n y2 y3 y4 y5 y6 s) s 14 [(0, .ref (dn_a u 18)), (1, .ref (dn_a u k1)), (2, .int y2), (3, .int y3), (4, .int y4), (5, .int y5), (6, .int y6)] [] := by
  intro n
  induction n with
  | zero =>
    intro y2 y3 y4 y5 y6 s
    exact dt_none X
  | succ n ih =>
    intro y2 y3 y4 y5 y6 s
    rw [m_X5_holding_14]
    refine dt_iload X 6 dX5_holding_14 rfl ?_
    refine dt_iload_n X 3 dX5_holding_16 rfl rfl ?_
    refine dt_icmp_gt X 105 dX5_holding_17 (by decide) ?_ ?_
    · refine dt_iload X 4 dX5_holding_105 rfl ?_
      refine dt_if_ne X 125 dX5_holding_107 (by decide) ?_ ?_
      · refine dt_iload X 5 dX5_holding_125 rfl ?_
        exact dt_iret X dX5_holding_127
      · refine dt_aload_n X 0 dX5_holding_110 rfl rfl ?_
        refine dt_get X (T := TX5) (N := 3) (v := .ref (dn_a u 19)) 2 (dn_h18 hu) rfl dn_in_X5_holding_5 rfl rfl dn_fw_X5_holding_12 rfl dX5_holding_111 ?_
        refine dt_getN X (T := TX3) (N := 8) (v := .int (dn_g s 19 5)) 5 (dn_hM hu dn_M19) rfl dn_in_X5_holding_3 rfl rfl dn_fw_X5_holding_61 rfl dX5_holding_114 ?_
        refine dt_aload_n X 1 dX5_holding_117 rfl rfl ?_
        refine dt_getN X (T := TX3) (N := 8) (v := .int (dn_g s k1 5)) 5 (dn_hM hu h1) rfl dn_in_X5_holding_3 rfl rfl dn_fw_X5_holding_61 rfl dX5_holding_118 ?_
        refine dt_isub X dX5_holding_121 ?_
        refine dt_goto X 127 dX5_holding_122 (by decide) ?_
        exact dt_iret X dX5_holding_127
    · refine dt_aload_n X 0 dX5_holding_20 rfl rfl ?_
      refine dt_get X (T := TX5) (N := 3) (v := .ref (dn_a u 14)) 1 (dn_h18 hu) rfl dn_in_X5_holding_5 rfl rfl dn_fw_X5_holding_22 rfl dX5_holding_21 ?_
      refine dt_aload_n X 0 dX5_holding_24 rfl rfl ?_
      refine dt_get X (T := TX5) (N := 3) (v := .ref (dn_a u 19)) 2 (dn_h18 hu) rfl dn_in_X5_holding_5 rfl rfl dn_fw_X5_holding_12 rfl dX5_holding_25 ?_
      refine dt_callV X (dn_runV X (T := TX4) (N := 4) [.ref (dn_a u 19)] (dn_h14 hu) rfl rfl (c_X4_open (dn_la g) u hu 19 dn_M19 s) gX5_holding_X4_open rfl dn_hd_X4_open rfl rfl rfl rfl dX5_holding_28) (fun r3 s1 e2 => ?_)
      refine dt_aload_n X 0 dX5_holding_31 rfl rfl ?_
      refine dt_get X (T := TX5) (N := 3) (v := .ref (dn_a u 19)) 2 (dn_h18 hu) rfl dn_in_X5_holding_5 rfl rfl dn_fw_X5_holding_12 rfl dX5_holding_32 ?_
      refine dt_iload_n X 2 dX5_holding_35 rfl rfl ?_
      refine dt_aload_n X 0 dX5_holding_36 rfl rfl ?_
      refine dt_get X (T := TX5) (N := 3) (v := .ref (dn_a u 3)) 0 (dn_h18 hu) rfl dn_in_X5_holding_5 rfl rfl dn_fw_X5_holding_18 rfl dX5_holding_37 ?_
      refine dt_getN X (T := TX10) (N := 5) (v := .int (dn_g s1 3 4)) 4 (dn_hT hu dn_T3) rfl dn_in_X5_holding_10 rfl rfl dn_fw_X5_holding_43 rfl dX5_holding_40 ?_
      refine dt_callZ X (dn_runV X (T := TX3) (N := 8) [.int y2, .int (dn_g s1 3 4)] (dn_hM hu dn_M19) rfl rfl (c_X3_isBarred (dn_la g) u hu 19 y2 (dn_g s1 3 4) dn_M19 s1) gX5_holding_X3_isBarred rfl dn_hd_X3_isBarred rfl rfl rfl rfl dX5_holding_43) (fun r6 s4 e5 => ?_)
      refine dt_if_neb X 87 dX5_holding_46 (by decide) ?_ ?_
      · refine dt_sub X [(0, .ref (dn_a u 18)), (1, .ref (dn_a u k1)), (2, .int y2), (3, .int y3), (4, .int y4), (5, .int y5), (6, .int y6)] [0, 1, 2, 3, 4, 5, 6] rfl ?_
        exact b_X5_holding_87 hu k1 h1 X (m_X5_holding_14 k1 n) ih y2 y3 y4 y5 y6 s4
      · refine dt_aload_n X 0 dX5_holding_49 rfl rfl ?_
        refine dt_get X (T := TX5) (N := 3) (v := .ref (dn_a u 14)) 1 (dn_h18 hu) rfl dn_in_X5_holding_5 rfl rfl dn_fw_X5_holding_22 rfl dX5_holding_50 ?_
        refine dt_callI X (dn_runV X (T := TX4) (N := 4) [] (dn_h14 hu) rfl rfl (c_X4_highestBid (dn_la g) u hu s4) gX5_holding_X4_highestBid rfl dn_hd_X4_highestBid rfl rfl rfl rfl dX5_holding_53) (fun r9 s7 e8 => ?_)
        refine dt_iconst X (v := 1) dX5_holding_56 (by decide) ?_
        refine dt_iadd X dX5_holding_57 ?_
        refine dt_let X (fun x10 => ?_)
        refine dt_istore X [(7, .int x10), (0, .ref (dn_a u 18)), (1, .ref (dn_a u k1)), (2, .int y2), (3, .int y3), (4, .int y4), (5, .int y5), (6, .int y6)] dX5_holding_58 rfl rfl ?_
        refine dt_iload X 0 dX5_holding_60 rfl ?_
        refine dt_bipush X (v := 40) dX5_holding_62 (by decide) ?_
        refine dt_icmp_le X 70 dX5_holding_64 (by decide) ?_ ?_
        · refine dt_aload_n X 1 dX5_holding_70 rfl rfl ?_
          refine dt_get X (T := TX5) (N := 3) (v := .ref (dn_a u 14)) 1 (dn_h18 hu) rfl dn_in_X5_holding_5 rfl rfl dn_fw_X5_holding_22 rfl dX5_holding_71 ?_
          refine dt_aload_n X 1 dX5_holding_74 rfl rfl ?_
          refine dt_get X (T := TX5) (N := 3) (v := .ref (dn_a u 19)) 2 (dn_h18 hu) rfl dn_in_X5_holding_5 rfl rfl dn_fw_X5_holding_12 rfl dX5_holding_75 ?_
          refine dt_iload_n X 3 dX5_holding_78 rfl rfl ?_
          refine dt_iload X 0 dX5_holding_79 rfl ?_
          refine dt_callV X (dn_runV X (T := TX4) (N := 4) [.ref (dn_a u 19), .int y2, .int x10] (dn_h14 hu) rfl rfl (c_X4_bidOwn (dn_la g) u hu 19 y2 x10 dn_M19 s7) gX5_holding_X4_bidOwn rfl dn_hd_X4_bidOwn rfl rfl rfl rfl dX5_holding_81) (fun r13 s11 e12 => ?_)
          refine dt_iinc X (v := y5 + 1) 6 [(5, .int (y5 + 1)), (7, .int x10), (0, .ref (dn_a u 18)), (1, .ref (dn_a u k1)), (2, .int y2), (3, .int y3), (4, .int y4), (6, .int y6)] dX5_holding_84 rfl (by rfl) rfl rfl ?_
          refine dt_ilet X rfl (fun x14 => ?_)
          refine dt_sub X [(0, .ref (dn_a u 18)), (1, .ref (dn_a u k1)), (2, .int y2), (3, .int y3), (4, .int y4), (5, .int x14), (6, .int y6)] [2, 3, 4, 5, 6, 0, 7] rfl ?_
          exact b_X5_holding_87 hu k1 h1 X (m_X5_holding_14 k1 n) ih y2 y3 y4 x14 y6 s11
        · refine dt_bipush X (v := -9) dX5_holding_67 (by decide) ?_
          exact dt_iret X dX5_holding_69
set_option maxRecDepth 100000 in
set_option maxHeartbeats 4000000 in
theorem c_X5_holding (l : Launch) (u : dn_U) (hu : dn_Lu u = dn_LC) (k1 : Nat) (a2 : Int32) (a3 : Int32) (a4 : Int32) (h1 : dn_isM k1) (s : dn_S) : dn_Met l u yX5_holding wsX5_holding 5 115 [.ref (dn_a u 18), .ref (dn_a u k1), .int a2, .int a3, .int a4] s (m_X5_holding k1 a2 a3 a4 s) (dn_QI u) := by
  refine dt_entry RX5 [(0, .ref (dn_a u 18)), (1, .ref (dn_a u k1)), (2, .int a2), (3, .int a3), (4, .int a4)] (by decide +kernel) rfl rfl rfl rfl (fun g hgl X => ?_)
  subst hgl
  unfold m_X5_holding
    refine dt_iload X 6 dX5_holding_14 rfl ?_
    refine dt_iload_n X 3 dX5_holding_16 rfl rfl ?_
    refine dt_icmp_gt X 105 dX5_holding_17 (by decide) ?_ ?_
    · refine dt_iload X 4 dX5_holding_105 rfl ?_
      refine dt_if_ne X 125 dX5_holding_107 (by decide) ?_ ?_
      · refine dt_iload X 5 dX5_holding_125 rfl ?_
        exact dt_iret X dX5_holding_127
      · refine dt_aload_n X 0 dX5_holding_110 rfl rfl ?_
        refine dt_get X (T := TX5) (N := 3) (v := .ref (dn_a u 19)) 2 (dn_h18 hu) rfl dn_in_X5_holding_5 rfl rfl dn_fw_X5_holding_12 rfl dX5_holding_111 ?_
        refine dt_getN X (T := TX3) (N := 8) (v := .int (dn_g s 19 5)) 5 (dn_hM hu dn_M19) rfl dn_in_X5_holding_3 rfl rfl dn_fw_X5_holding_61 rfl dX5_holding_114 ?_
        refine dt_aload_n X 1 dX5_holding_117 rfl rfl ?_
        refine dt_getN X (T := TX3) (N := 8) (v := .int (dn_g s k1 5)) 5 (dn_hM hu h1) rfl dn_in_X5_holding_3 rfl rfl dn_fw_X5_holding_61 rfl dX5_holding_118 ?_
        refine dt_isub X dX5_holding_121 ?_
        refine dt_goto X 127 dX5_holding_122 (by decide) ?_
        exact dt_iret X dX5_holding_127
    · refine dt_aload_n X 0 dX5_holding_20 rfl rfl ?_
      refine dt_get X (T := TX5) (N := 3) (v := .ref (dn_a u 14)) 1 (dn_h18 hu) rfl dn_in_X5_holding_5 rfl rfl dn_fw_X5_holding_22 rfl dX5_holding_21 ?_
      refine dt_aload_n X 0 dX5_holding_24 rfl rfl ?_
      refine dt_get X (T := TX5) (N := 3) (v := .ref (dn_a u 19)) 2 (dn_h18 hu) rfl dn_in_X5_holding_5 rfl rfl dn_fw_X5_holding_12 rfl dX5_holding_25 ?_
      refine dt_callV X (dn_runV X (T := TX4) (N := 4) [.ref (dn_a u 19)] (dn_h14 hu) rfl rfl (c_X4_open (dn_la g) u hu 19 dn_M19 s) gX5_holding_X4_open rfl dn_hd_X4_open rfl rfl rfl rfl dX5_holding_28) (fun r3 s1 e2 => ?_)
      refine dt_aload_n X 0 dX5_holding_31 rfl rfl ?_
      refine dt_get X (T := TX5) (N := 3) (v := .ref (dn_a u 19)) 2 (dn_h18 hu) rfl dn_in_X5_holding_5 rfl rfl dn_fw_X5_holding_12 rfl dX5_holding_32 ?_
      refine dt_iload_n X 2 dX5_holding_35 rfl rfl ?_
      refine dt_aload_n X 0 dX5_holding_36 rfl rfl ?_
      refine dt_get X (T := TX5) (N := 3) (v := .ref (dn_a u 3)) 0 (dn_h18 hu) rfl dn_in_X5_holding_5 rfl rfl dn_fw_X5_holding_18 rfl dX5_holding_37 ?_
      refine dt_getN X (T := TX10) (N := 5) (v := .int (dn_g s1 3 4)) 4 (dn_hT hu dn_T3) rfl dn_in_X5_holding_10 rfl rfl dn_fw_X5_holding_43 rfl dX5_holding_40 ?_
      refine dt_callZ X (dn_runV X (T := TX3) (N := 8) [.int y2, .int (dn_g s1 3 4)] (dn_hM hu dn_M19) rfl rfl (c_X3_isBarred (dn_la g) u hu 19 y2 (dn_g s1 3 4) dn_M19 s1) gX5_holding_X3_isBarred rfl dn_hd_X3_isBarred rfl rfl rfl rfl dX5_holding_43) (fun r6 s4 e5 => ?_)
      refine dt_if_neb X 87 dX5_holding_46 (by decide) ?_ ?_
      · refine dt_sub X [(0, .ref (dn_a u 18)), (1, .ref (dn_a u k1)), (2, .int y2), (3, .int y3), (4, .int y4), (5, .int y5), (6, .int y6)] [0, 1, 2, 3, 4, 5, 6] rfl ?_
        exact b_X5_holding_87 hu k1 h1 X (m_X5_holding_14 k1 n) ih y2 y3 y4 y5 y6 s4
      · refine dt_aload_n X 0 dX5_holding_49 rfl rfl ?_
        refine dt_get X (T := TX5) (N := 3) (v := .ref (dn_a u 14)) 1 (dn_h18 hu) rfl dn_in_X5_holding_5 rfl rfl dn_fw_X5_holding_22 rfl dX5_holding_50 ?_
        refine dt_callI X (dn_runV X (T := TX4) (N := 4) [] (dn_h14 hu) rfl rfl (c_X4_highestBid (dn_la g) u hu s4) gX5_holding_X4_highestBid rfl dn_hd_X4_highestBid rfl rfl rfl rfl dX5_holding_53) (fun r9 s7 e8 => ?_)
        refine dt_iconst X (v := 1) dX5_holding_56 (by decide) ?_
        refine dt_iadd X dX5_holding_57 ?_
        refine dt_let X (fun x10 => ?_)
        refine dt_istore X [(7, .int x10), (0, .ref (dn_a u 18)), (1, .ref (dn_a u k1)), (2, .int y2), (3, .int y3), (4, .int y4), (5, .int y5), (6, .int y6)] dX5_holding_58 rfl rfl ?_
        refine dt_iload X 0 dX5_holding_60 rfl ?_
        refine dt_bipush X (v := 40) dX5_holding_62 (by decide) ?_
        refine dt_icmp_le X 70 dX5_holding_64 (by decide) ?_ ?_
        · refine dt_aload_n X 1 dX5_holding_70 rfl rfl ?_
          refine dt_get X (T := TX5) (N := 3) (v := .ref (dn_a u 14)) 1 (dn_h18 hu) rfl dn_in_X5_holding_5 rfl rfl dn_fw_X5_holding_22 rfl dX5_holding_71 ?_
          refine dt_aload_n X 1 dX5_holding_74 rfl rfl ?_
          refine dt_get X (T := TX5) (N := 3) (v := .ref (dn_a u 19)) 2 (dn_h18 hu) rfl dn_in_X5_holding_5 rfl rfl dn_fw_X5_holding_12 rfl dX5_holding_75 ?_
          refine dt_iload_n X 3 dX5_holding_78 rfl rfl ?_
          refine dt_iload X 0 dX5_holding_79 rfl ?_
          refine dt_callV X (dn_runV X (T := TX4) (N := 4) [.ref (dn_a u 19), .int y2, .int x10] (dn_h14 hu) rfl rfl (c_X4_bidOwn (dn_la g) u hu 19 y2 x10 dn_M19 s7) gX5_holding_X4_bidOwn rfl dn_hd_X4_bidOwn rfl rfl rfl rfl dX5_holding_81) (fun r13 s11 e12 => ?_)
          refine dt_iinc X (v := y5 + 1) 6 [(5, .int (y5 + 1)), (7, .int x10), (0, .ref (dn_a u 18)), (1, .ref (dn_a u k1)), (2, .int y2), (3, .int y3), (4, .int y4), (6, .int y6)] dX5_holding_84 rfl (by rfl) rfl rfl ?_
          refine dt_ilet X rfl (fun x14 => ?_)
          refine dt_sub X [(0, .ref (dn_a u 18)), (1, .ref (dn_a u k1)), (2, .int y2), (3, .int y3), (4, .int y4), (5, .int x14), (6, .int y6)] [2, 3, 4, 5, 6, 0, 7] rfl ?_
          exact b_X5_holding_87 hu k1 h1 X (m_X5_holding_14 k1 n) ih y2 y3 y4 x14 y6 s11
        · refine dt_bipush X (v := -9) dX5_holding_67 (by decide) ?_
          exact dt_iret X dX5_holding_69
set_option maxRecDepth 100000 in
set_option maxHeartbeats 4000000 in
theorem c_X11_hold (l : Launch) (u : dn_U) (hu : dn_Lu u = dn_LC) (a1 : Int32) (a2 : Int32) (a3 : Int32) (s : dn_S) : dn_Met l u yX11_hold wsX11_hold 6 142 [.ref (dn_a u 0), .int a1, .int a2, .int a3] s (m_X11_hold a1 a2 a3 s) (dn_QI u) := by
  refine dt_entry RX11 [(0, .ref (dn_a u 0)), (1, .int a1), (2, .int a2), (3, .int a3)] (by decide +kernel) rfl rfl rfl rfl (fun g hgl X => ?_)
  subst hgl
  unfold m_X11_hold
  refine dt_iload_n X 1 dX11_hold_0 rfl rfl ?_
  refine dt_callZ X (dn_runS X [.int a1] (c_X11_isName (dn_la g) u hu a1 s) gX11_hold_X11_isName rfl dn_hs_X11_isName rfl rfl rfl rfl dX11_hold_1) (fun r3 s1 e2 => ?_)
  refine dt_if_eqb X 26 dX11_hold_4 (by decide) ?_ ?_
  · refine dt_iconst X (v := -1) dX11_hold_26 (by decide) ?_
    exact dt_iret X dX11_hold_27
  · refine dt_iload_n X 2 dX11_hold_7 rfl rfl ?_
    refine dt_iconst X (v := 1) dX11_hold_8 (by decide) ?_
    refine dt_bipush X (v := 6) dX11_hold_9 (by decide) ?_
    refine dt_callZ X (dn_runS X [.int a2, .int 1, .int 6] (c_X11_within (dn_la g) u hu a2 1 6 s1) gX11_hold_X11_within rfl dn_hs_X11_within rfl rfl rfl rfl dX11_hold_11) (fun r6 s4 e5 => ?_)
    refine dt_if_eqb X 26 dX11_hold_14 (by decide) ?_ ?_
    · refine dt_iconst X (v := -1) dX11_hold_26 (by decide) ?_
      exact dt_iret X dX11_hold_27
    · refine dt_iload_n X 3 dX11_hold_17 rfl rfl ?_
      refine dt_iconst X (v := 0) dX11_hold_18 (by decide) ?_
      refine dt_iconst X (v := 1) dX11_hold_19 (by decide) ?_
      refine dt_callZ X (dn_runS X [.int a3, .int 0, .int 1] (c_X11_within (dn_la g) u hu a3 0 1 s4) gX11_hold_X11_within rfl dn_hs_X11_within rfl rfl rfl rfl dX11_hold_20) (fun r9 s7 e8 => ?_)
      refine dt_if_neb X 28 dX11_hold_23 (by decide) ?_ ?_
      · refine dt_aload_n X 0 dX11_hold_28 rfl rfl ?_
        refine dt_get X (T := TX11) (N := 10) (v := .ref (dn_a u 18)) 5 (dn_h0 hu) rfl dn_in_X11_hold_11 rfl rfl dn_fw_X11_hold_53 rfl dX11_hold_29 ?_
        refine dt_aload_n X 0 dX11_hold_32 rfl rfl ?_
        refine dt_get X (T := TX11) (N := 10) (v := .ref (dn_a u 10)) 3 (dn_h0 hu) rfl dn_in_X11_hold_11 rfl rfl dn_fw_X11_hold_35 rfl dX11_hold_33 ?_
        refine dt_iload_n X 1 dX11_hold_36 rfl rfl ?_
        refine dt_iload_n X 2 dX11_hold_37 rfl rfl ?_
        refine dt_iload_n X 3 dX11_hold_38 rfl rfl ?_
        refine dt_callI X (dn_runV X (T := TX5) (N := 3) [.ref (dn_a u 10), .int a1, .int a2, .int a3] (dn_h18 hu) rfl rfl (c_X5_holding (dn_la g) u hu 10 a1 a2 a3 dn_M10 s7) gX11_hold_X5_holding rfl dn_hd_X5_holding rfl rfl rfl rfl dX11_hold_39) (fun r12 s10 e11 => ?_)
        exact dt_iret X dX11_hold_42
      · refine dt_iconst X (v := -1) dX11_hold_26 (by decide) ?_
        exact dt_iret X dX11_hold_27
set_option maxRecDepth 100000 in
set_option maxHeartbeats 4000000 in
theorem b_X1_silenceLower_43 {g : dn_M} {u : dn_U} (hu : dn_Lu u = dn_LC) (X : dn_X u g cX1_silenceLower wsX1_silenceLower RX1 5 1 22 none) (z0 : Int32) (s : dn_S) : dn_T u g 5 (dn_QV u) (m_X1_silenceLower_43 z0 s) s 43 [] [.int z0, .ref (dn_a u 17)] := by
  unfold m_X1_silenceLower_43
  refine dt_iconst X (v := 0) dX1_silenceLower_43 (by decide) ?_
  refine dt_callV X (dn_runSN X [.ref (dn_a u 17), .int z0, .int 0] (c_X11_put (dn_la g) u hu 17 5 z0 0 (dn_h17 hu) s) gX1_silenceLower_X11_put_n53 rfl dn_nm_X1_silenceLower_53 dn_sw_X1_silenceLower_X11_put_1 dn_sw_X1_silenceLower_X11_put_2 dn_hs_X11_put rfl rfl rfl rfl dX1_silenceLower_44) (fun r3 s1 e2 => ?_)
  exact dt_vret X dX1_silenceLower_47
set_option maxRecDepth 100000 in
set_option maxHeartbeats 4000000 in
theorem c_X1_silenceLower (l : Launch) (u : dn_U) (hu : dn_Lu u = dn_LC) (a1 : Int32) (a2 : Int32) (s : dn_S) : dn_Met l u yX1_silenceLower wsX1_silenceLower 1 22 [.ref (dn_a u 15), .int a1, .int a2] s (m_X1_silenceLower a1 a2 s) (dn_QV u) := by
  refine dt_entry RX1 [(0, .ref (dn_a u 15)), (1, .int a1), (2, .int a2)] (by decide +kernel) rfl rfl rfl rfl (fun g hgl X => ?_)
  subst hgl
  unfold m_X1_silenceLower
  refine dt_iconst X (v := 0) dX1_silenceLower_43 (by decide) ?_
  refine dt_callV X (dn_runSN X [.ref (dn_a u 17), .int z0, .int 0] (c_X11_put (dn_la g) u hu 17 5 z0 0 (dn_h17 hu) s) gX1_silenceLower_X11_put_n53 rfl dn_nm_X1_silenceLower_53 dn_sw_X1_silenceLower_X11_put_1 dn_sw_X1_silenceLower_X11_put_2 dn_hs_X11_put rfl rfl rfl rfl dX1_silenceLower_44) (fun r3 s1 e2 => ?_)
  exact dt_vret X dX1_silenceLower_47
set_option maxRecDepth 100000 in
set_option maxHeartbeats 4000000 in
theorem c_X4_silenceLower (l : Launch) (u : dn_U) (hu : dn_Lu u = dn_LC) (a1 : Int32) (a2 : Int32) (s : dn_S) : dn_Met l u yX4_silenceLower wsX4_silenceLower 2 46 [.ref (dn_a u 14), .int a1, .int a2] s (m_X4_silenceLower a1 a2 s) (dn_QV u) := by
  refine dt_entry RX4 [(0, .ref (dn_a u 14)), (1, .int a1), (2, .int a2)] (by decide +kernel) rfl rfl rfl rfl (fun g hgl X => ?_)
  subst hgl
  unfold m_X4_silenceLower
  refine dt_aload_n X 0 dX4_silenceLower_0 rfl rfl ?_
  refine dt_get X (T := TX4) (N := 4) (v := .ref (dn_a u 15)) 1 (dn_h14 hu) rfl dn_in_X4_silenceLower_4 rfl rfl dn_fw_X4_silenceLower_12 rfl dX4_silenceLower_1 ?_
  refine dt_iload_n X 1 dX4_silenceLower_4 rfl rfl ?_
  refine dt_iload_n X 2 dX4_silenceLower_5 rfl rfl ?_
  refine dt_callV X (dn_runV X (T := TX1) (N := 2) [.int a1, .int a2] (dn_h15 hu) rfl rfl (c_X1_silenceLower (dn_la g) u hu a1 a2 s) gX4_silenceLower_X1_silenceLower rfl dn_hd_X1_silenceLower rfl rfl rfl rfl dX4_silenceLower_6) (fun r3 s1 e2 => ?_)
  exact dt_vret X dX4_silenceLower_9
set_option maxRecDepth 100000 in
set_option maxHeartbeats 4000000 in
theorem b_X4_paidLast_16 {g : dn_M} {u : dn_U} (hu : dn_Lu u = dn_LC) (X : dn_X u g cX4_paidLast wsX4_paidLast RX4 3 0 0 (some .int)) (s : dn_S) : dn_T u g 3 (dn_QI u) (m_X4_paidLast_16 s) s 16 [(0, .ref (dn_a u 14))] [] := by
  unfold m_X4_paidLast_16
  refine dt_aload_n X 0 dX4_paidLast_16 rfl rfl ?_
  refine dt_get X (T := TX4) (N := 4) (v := .int (dn_g s 14 3)) 3 (dn_h14 hu) rfl dn_in_X4_paidLast_4 rfl rfl dn_fw_X4_paidLast_66 rfl dX4_paidLast_17 ?_
  refine dt_goto X 24 dX4_paidLast_20 (by decide) ?_
  exact dt_iret X dX4_paidLast_24
set_option maxRecDepth 100000 in
set_option maxHeartbeats 4000000 in
theorem c_X4_paidLast (l : Launch) (u : dn_U) (hu : dn_Lu u = dn_LC) (a1 : Int32) (a2 : Int32) (s : dn_S) : dn_Met l u yX4_paidLast wsX4_paidLast 0 0 [.ref (dn_a u 14), .int a1, .int a2] s (m_X4_paidLast a1 a2 s) (dn_QI u) := by
  refine dt_entry RX4 [(0, .ref (dn_a u 14)), (1, .int a1), (2, .int a2)] (by decide +kernel) rfl rfl rfl rfl (fun g hgl X => ?_)
  subst hgl
  unfold m_X4_paidLast
  refine dt_aload_n X 0 dX4_paidLast_16 rfl rfl ?_
  refine dt_get X (T := TX4) (N := 4) (v := .int (dn_g s 14 3)) 3 (dn_h14 hu) rfl dn_in_X4_paidLast_4 rfl rfl dn_fw_X4_paidLast_66 rfl dX4_paidLast_17 ?_
  refine dt_goto X 24 dX4_paidLast_20 (by decide) ?_
  exact dt_iret X dX4_paidLast_24
set_option maxRecDepth 100000 in
set_option maxHeartbeats 4000000 in
theorem b_X5_paidBy_46 {g : dn_M} {u : dn_U} (hu : dn_Lu u = dn_LC) (k1 : Nat) (h1 : dn_isM k1) (X : dn_X u g cX5_paidBy wsX5_paidBy RX5 8 5 115 (some .int)) (K14 : Int32 → Int32 → Int32 → Bool → Int32 → Int32 → dn_S → Option (Int32 × dn_S)) (H14 : ∀ (y2 : Int32) (y3 : Int32) (y4 : Int32) (y5 : Bool) (y6 : Int32) (y7 : Int32) (s : dn_S), dn_T u g 8 (dn_QI u) (K14 y2 y3 y4 y5 y6 y7 s) s 14 [(0, .ref (dn_a u 18)), (2, .int y2), (3, .int y3), (4, .int y4), (5, .int (dn_b y5)), (6, .int y6), (7, .int y7)] []) (y2 : Int32) (y3 : Int32) (y4 : Int32) (y5 : Bool) (y6 : Int32) (y7 : Int32) (s : dn_S) : dn_T u g 8 (dn_QI u) (m_X5_paidBy_46 k1 K14 y2 y3 y4 y5 y6 y7 s) s 46 [(0, .ref (dn_a u 18)), (2, .int y2), (3, .int y3), (4, .int y4), (5, .int (dn_b y5)), (6, .int y6), (7, .int y7)] [] := by
  unfold m_X5_paidBy_46
  refine dt_aload_n X 0 dX5_paidBy_46 rfl rfl ?_
  refine dt_get X (T := TX5) (N := 3) (v := .ref (dn_a u 14)) 1 (dn_h18 hu) rfl dn_in_X5_paidBy_5 rfl rfl dn_fw_X5_paidBy_22 rfl dX5_paidBy_47 ?_
  refine dt_aload_n X 0 dX5_paidBy_50 rfl rfl ?_
  refine dt_get X (T := TX5) (N := 3) (v := .ref (dn_a u 19)) 2 (dn_h18 hu) rfl dn_in_X5_paidBy_5 rfl rfl dn_fw_X5_paidBy_12 rfl dX5_paidBy_51 ?_
  refine dt_callI X (dn_runV X (T := TX4) (N := 4) [.ref (dn_a u 19)] (dn_h14 hu) rfl rfl (c_X4_close (dn_la g) u hu 19 dn_M19 s) gX5_paidBy_X4_close rfl dn_hd_X4_close rfl rfl rfl rfl dX5_paidBy_54) (fun r3 s1 e2 => ?_)
  refine dt_pop X dX5_paidBy_57 rfl ?_
  refine dt_iload X 5 dX5_paidBy_58 rfl ?_
  refine dt_aload_n X 0 dX5_paidBy_60 rfl rfl ?_
  refine dt_get X (T := TX5) (N := 3) (v := .ref (dn_a u 14)) 1 (dn_h18 hu) rfl dn_in_X5_paidBy_5 rfl rfl dn_fw_X5_paidBy_22 rfl dX5_paidBy_61 ?_
  refine dt_iload_n X 1 dX5_paidBy_64 rfl rfl ?_
  refine dt_iload_n X 2 dX5_paidBy_65 rfl rfl ?_
  refine dt_callI X (dn_runV X (T := TX4) (N := 4) [.int y2, .int y3] (dn_h14 hu) rfl rfl (c_X4_paidLast (dn_la g) u hu y2 y3 s1) gX5_paidBy_X4_paidLast rfl dn_hd_X4_paidLast rfl rfl rfl rfl dX5_paidBy_66) (fun r6 s4 e5 => ?_)
  refine dt_iadd X dX5_paidBy_69 ?_
  refine dt_let X (fun x7 => ?_)
  refine dt_istore X [(6, .int x7), (0, .ref (dn_a u 18)), (2, .int y2), (3, .int y3), (4, .int y4), (5, .int (dn_b y5)), (7, .int y7)] dX5_paidBy_70 rfl rfl ?_
  refine dt_iinc X (v := y7 + 1) 6 [(7, .int (y7 + 1)), (6, .int x7), (0, .ref (dn_a u 18)), (2, .int y2), (3, .int y3), (4, .int y4), (5, .int (dn_b y5))] dX5_paidBy_72 rfl (by rfl) rfl rfl ?_
  refine dt_ilet X rfl (fun x8 => ?_)
  refine dt_goto X 14 dX5_paidBy_75 (by decide) ?_
  refine dt_sub X [(0, .ref (dn_a u 18)), (2, .int y2), (3, .int y3), (4, .int y4), (5, .int (dn_b y5)), (6, .int x7), (7, .int x8)] [2, 3, 4, 5, 6, 1, 0] rfl ?_
  exact H14 y2 y3 y4 y5 x7 x8 s4
set_option maxRecDepth 100000 in
set_option maxHeartbeats 4000000 in
theorem b_X5_paidBy_14 {g : dn_M} {u : dn_U} (hu : dn_Lu u = dn_LC) (k1 : Nat) (h1 : dn_isM k1) (X : dn_X u g cX5_paidBy wsX5_paidBy RX5 8 5 115 (some .int)) : ∀ (n : Nat) (y2 : Int32) (y3 : Int32) (y4 : Int32) (y5 : Bool) (y6 : Int32) (y7 : Int32) (s : dn_S), dn_T u g 8 (dn_QI u) (m_X5_paidBy_14 k1 n y2 y3 y4 y5 y6 y7 s) s 14 [(0, .ref (dn_a u 18)), (2, .int y2), (3, .int y3), (4, .int y4), (5, .int (dn_b y5)), (6, .int y6), (7, .int y7)] [] := by
  intro n
  induction n with
  | zero =>
    intro y2 y3 y4 y5 y6 y7 s
    exact dt_none X
  | succ n ih =>
    intro y2 y3 y4 y5 y6 y7 s
    rw [m_X5_paidBy_14]
    refine dt_iload X 6 dX5_paidBy_14 rfl ?_
    refine dt_iload X 3 dX5_paidBy_16 rfl ?_
    refine dt_icmp_gt X 78 dX5_paidBy_18 (by decide) ?_ ?_
    · refine dt_iload X 5 dX5_paidBy_78 rfl ?_
      exact dt_iret X dX5_paidBy_80
    · refine dt_aload_n X 0 dX5_paidBy_21 rfl rfl ?_
      refine dt_get X (T := TX5) (N := 3) (v := .ref (dn_a u 14)) 1 (dn_h18 hu) rfl dn_in_X5_paidBy_5 rfl rfl dn_fw_X5_paidBy_22 rfl dX5_paidBy_22 ?_
      refine dt_aload_n X 0 dX5_paidBy_25 rfl rfl ?_
      refine dt_get X (T := TX5) (N := 3) (v := .ref (dn_a u 19)) 2 (dn_h18 hu) rfl dn_in_X5_paidBy_5 rfl rfl dn_fw_X5_paidBy_12 rfl dX5_paidBy_26 ?_
      refine dt_callV X (dn_runV X (T := TX4) (N := 4) [.ref (dn_a u 19)] (dn_h14 hu) rfl rfl (c_X4_open (dn_la g) u hu 19 dn_M19 s) gX5_paidBy_X4_open rfl dn_hd_X4_open rfl rfl rfl rfl dX5_paidBy_29) (fun r3 s1 e2 => ?_)
      refine dt_iload X 4 dX5_paidBy_32 rfl ?_
      refine dt_if_eqb X 46 dX5_paidBy_34 (by decide) ?_ ?_
      · refine dt_sub X [(0, .ref (dn_a u 18)), (2, .int y2), (3, .int y3), (4, .int y4), (5, .int (dn_b y5)), (6, .int y6), (7, .int y7)] [0, 1, 2, 3, 4, 5, 6] rfl ?_
        exact b_X5_paidBy_46 hu k1 h1 X (m_X5_paidBy_14 k1 n) ih y2 y3 y4 y5 y6 y7 s1
      · refine dt_aload_n X 0 dX5_paidBy_37 rfl rfl ?_
        refine dt_get X (T := TX5) (N := 3) (v := .ref (dn_a u 14)) 1 (dn_h18 hu) rfl dn_in_X5_paidBy_5 rfl rfl dn_fw_X5_paidBy_22 rfl dX5_paidBy_38 ?_
        refine dt_iload_n X 1 dX5_paidBy_41 rfl rfl ?_
        refine dt_iload_n X 2 dX5_paidBy_42 rfl rfl ?_
        refine dt_callV X (dn_runV X (T := TX4) (N := 4) [.int y2, .int y3] (dn_h14 hu) rfl rfl (c_X4_silenceLower (dn_la g) u hu y2 y3 s1) gX5_paidBy_X4_silenceLower rfl dn_hd_X4_silenceLower rfl rfl rfl rfl dX5_paidBy_43) (fun r6 s4 e5 => ?_)
        refine dt_sub X [(0, .ref (dn_a u 18)), (2, .int y2), (3, .int y3), (4, .int y4), (5, .int (dn_b y5)), (6, .int y6), (7, .int y7)] [0, 1, 2, 3, 4, 5, 6] rfl ?_
        exact b_X5_paidBy_46 hu k1 h1 X (m_X5_paidBy_14 k1 n) ih y2 y3 y4 y5 y6 y7 s4
set_option maxRecDepth 100000 in
set_option maxHeartbeats 4000000 in
theorem c_X5_paidBy (l : Launch) (u : dn_U) (hu : dn_Lu u = dn_LC) (k1 : Nat) (a2 : Int32) (a3 : Int32) (a4 : Int32) (a5 : Bool) (h1 : dn_isM k1) (s : dn_S) : dn_Met l u yX5_paidBy wsX5_paidBy 5 115 [.ref (dn_a u 18), .ref (dn_a u k1), .int a2, .int a3, .int a4, .int (dn_b a5)] s (m_X5_paidBy k1 a2 a3 a4 a5 s) (dn_QI u) := by
  refine dt_entry RX5 [(0, .ref (dn_a u 18)), (1, .ref (dn_a u k1)), (2, .int a2), (3, .int a3), (4, .int a4), (5, .int (dn_b a5))] (by decide +kernel) rfl rfl rfl rfl (fun g hgl X => ?_)
  subst hgl
  unfold m_X5_paidBy
    refine dt_iload X 6 dX5_paidBy_14 rfl ?_
    refine dt_iload X 3 dX5_paidBy_16 rfl ?_
    refine dt_icmp_gt X 78 dX5_paidBy_18 (by decide) ?_ ?_
    · refine dt_iload X 5 dX5_paidBy_78 rfl ?_
      exact dt_iret X dX5_paidBy_80
    · refine dt_aload_n X 0 dX5_paidBy_21 rfl rfl ?_
      refine dt_get X (T := TX5) (N := 3) (v := .ref (dn_a u 14)) 1 (dn_h18 hu) rfl dn_in_X5_paidBy_5 rfl rfl dn_fw_X5_paidBy_22 rfl dX5_paidBy_22 ?_
      refine dt_aload_n X 0 dX5_paidBy_25 rfl rfl ?_
      refine dt_get X (T := TX5) (N := 3) (v := .ref (dn_a u 19)) 2 (dn_h18 hu) rfl dn_in_X5_paidBy_5 rfl rfl dn_fw_X5_paidBy_12 rfl dX5_paidBy_26 ?_
      refine dt_callV X (dn_runV X (T := TX4) (N := 4) [.ref (dn_a u 19)] (dn_h14 hu) rfl rfl (c_X4_open (dn_la g) u hu 19 dn_M19 s) gX5_paidBy_X4_open rfl dn_hd_X4_open rfl rfl rfl rfl dX5_paidBy_29) (fun r3 s1 e2 => ?_)
      refine dt_iload X 4 dX5_paidBy_32 rfl ?_
      refine dt_if_eqb X 46 dX5_paidBy_34 (by decide) ?_ ?_
      · refine dt_sub X [(0, .ref (dn_a u 18)), (2, .int y2), (3, .int y3), (4, .int y4), (5, .int (dn_b y5)), (6, .int y6), (7, .int y7)] [0, 1, 2, 3, 4, 5, 6] rfl ?_
        exact b_X5_paidBy_46 hu k1 h1 X (m_X5_paidBy_14 k1 n) ih y2 y3 y4 y5 y6 y7 s1
      · refine dt_aload_n X 0 dX5_paidBy_37 rfl rfl ?_
        refine dt_get X (T := TX5) (N := 3) (v := .ref (dn_a u 14)) 1 (dn_h18 hu) rfl dn_in_X5_paidBy_5 rfl rfl dn_fw_X5_paidBy_22 rfl dX5_paidBy_38 ?_
        refine dt_iload_n X 1 dX5_paidBy_41 rfl rfl ?_
        refine dt_iload_n X 2 dX5_paidBy_42 rfl rfl ?_
        refine dt_callV X (dn_runV X (T := TX4) (N := 4) [.int y2, .int y3] (dn_h14 hu) rfl rfl (c_X4_silenceLower (dn_la g) u hu y2 y3 s1) gX5_paidBy_X4_silenceLower rfl dn_hd_X4_silenceLower rfl rfl rfl rfl dX5_paidBy_43) (fun r6 s4 e5 => ?_)
        refine dt_sub X [(0, .ref (dn_a u 18)), (2, .int y2), (3, .int y3), (4, .int y4), (5, .int (dn_b y5)), (6, .int y6), (7, .int y7)] [0, 1, 2, 3, 4, 5, 6] rfl ?_
        exact b_X5_paidBy_46 hu k1 h1 X (m_X5_paidBy_14 k1 n) ih y2 y3 y4 y5 y6 y7 s4
set_option maxRecDepth 100000 in
set_option maxHeartbeats 4000000 in
theorem c_X11_ring (l : Launch) (u : dn_U) (hu : dn_Lu u = dn_LC) (a1 : Int32) (a2 : Int32) (a3 : Int32) (s : dn_S) : dn_Met l u yX11_ring wsX11_ring 6 142 [.ref (dn_a u 0), .int a1, .int a2, .int a3] s (m_X11_ring a1 a2 a3 s) (dn_QI u) := by
  refine dt_entry RX11 [(0, .ref (dn_a u 0)), (1, .int a1), (2, .int a2), (3, .int a3)] (by decide +kernel) rfl rfl rfl rfl (fun g hgl X => ?_)
  subst hgl
  unfold m_X11_ring
  refine dt_aload_n X 0 dX11_ring_0 rfl rfl ?_
  refine dt_iload_n X 1 dX11_ring_1 rfl rfl ?_
  refine dt_callZ X (dn_runV X (T := TX11) (N := 10) [.int a1] (dn_h0 hu) rfl rfl (c_X11_isBidder (dn_la g) u hu a1 s) gX11_ring_X11_isBidder rfl dn_hd_X11_isBidder rfl rfl rfl rfl dX11_ring_2) (fun r3 s1 e2 => ?_)
  refine dt_if_eqb X 31 dX11_ring_5 (by decide) ?_ ?_
  · refine dt_ldc X (v := -1000000) dX11_ring_31 (by decide +kernel) ?_
    exact dt_iret X dX11_ring_33
  · refine dt_aload_n X 0 dX11_ring_8 rfl rfl ?_
    refine dt_iload_n X 2 dX11_ring_9 rfl rfl ?_
    refine dt_callZ X (dn_runV X (T := TX11) (N := 10) [.int a2] (dn_h0 hu) rfl rfl (c_X11_isBidder (dn_la g) u hu a2 s1) gX11_ring_X11_isBidder rfl dn_hd_X11_isBidder rfl rfl rfl rfl dX11_ring_10) (fun r6 s4 e5 => ?_)
    refine dt_if_eqb X 31 dX11_ring_13 (by decide) ?_ ?_
    · refine dt_ldc X (v := -1000000) dX11_ring_31 (by decide +kernel) ?_
      exact dt_iret X dX11_ring_33
    · refine dt_iload_n X 1 dX11_ring_16 rfl rfl ?_
      refine dt_iload_n X 2 dX11_ring_17 rfl rfl ?_
      refine dt_icmp_eq X 31 dX11_ring_18 (by decide) ?_ ?_
      · refine dt_ldc X (v := -1000000) dX11_ring_31 (by decide +kernel) ?_
        exact dt_iret X dX11_ring_33
      · refine dt_iload_n X 3 dX11_ring_21 rfl rfl ?_
        refine dt_iconst X (v := 1) dX11_ring_22 (by decide) ?_
        refine dt_bipush X (v := 20) dX11_ring_23 (by decide) ?_
        refine dt_callZ X (dn_runS X [.int a3, .int 1, .int 20] (c_X11_within (dn_la g) u hu a3 1 20 s4) gX11_ring_X11_within rfl dn_hs_X11_within rfl rfl rfl rfl dX11_ring_25) (fun r9 s7 e8 => ?_)
        refine dt_if_neb X 34 dX11_ring_28 (by decide) ?_ ?_
        · refine dt_aload_n X 0 dX11_ring_34 rfl rfl ?_
          refine dt_get X (T := TX11) (N := 10) (v := .ref (dn_a u 18)) 5 (dn_h0 hu) rfl dn_in_X11_ring_11 rfl rfl dn_fw_X11_ring_53 rfl dX11_ring_35 ?_
          refine dt_aload_n X 0 dX11_ring_38 rfl rfl ?_
          refine dt_get X (T := TX11) (N := 10) (v := .ref (dn_a u 10)) 3 (dn_h0 hu) rfl dn_in_X11_ring_11 rfl rfl dn_fw_X11_ring_35 rfl dX11_ring_39 ?_
          refine dt_iload_n X 1 dX11_ring_42 rfl rfl ?_
          refine dt_iload_n X 2 dX11_ring_43 rfl rfl ?_
          refine dt_iload_n X 3 dX11_ring_44 rfl rfl ?_
          refine dt_iconst X (v := 0) dX11_ring_45 (by decide) ?_
          refine dt_callI X (dn_runV X (T := TX5) (N := 3) [.ref (dn_a u 10), .int a1, .int a2, .int a3, .int 0] (dn_h18 hu) rfl rfl (c_X5_paidBy (dn_la g) u hu 10 a1 a2 a3 false dn_M10 s7) gX11_ring_X5_paidBy rfl dn_hd_X5_paidBy rfl rfl rfl rfl dX11_ring_46) (fun r12 s10 e11 => ?_)
          refine dt_aload_n X 0 dX11_ring_49 rfl rfl ?_
          refine dt_get X (T := TX11) (N := 10) (v := .ref (dn_a u 18)) 5 (dn_h0 hu) rfl dn_in_X11_ring_11 rfl rfl dn_fw_X11_ring_53 rfl dX11_ring_50 ?_
          refine dt_aload_n X 0 dX11_ring_53 rfl rfl ?_
          refine dt_get X (T := TX11) (N := 10) (v := .ref (dn_a u 10)) 3 (dn_h0 hu) rfl dn_in_X11_ring_11 rfl rfl dn_fw_X11_ring_35 rfl dX11_ring_54 ?_
          refine dt_iload_n X 1 dX11_ring_57 rfl rfl ?_
          refine dt_iload_n X 2 dX11_ring_58 rfl rfl ?_
          refine dt_iload_n X 3 dX11_ring_59 rfl rfl ?_
          refine dt_iconst X (v := 1) dX11_ring_60 (by decide) ?_
          refine dt_callI X (dn_runV X (T := TX5) (N := 3) [.ref (dn_a u 10), .int a1, .int a2, .int a3, .int 1] (dn_h18 hu) rfl rfl (c_X5_paidBy (dn_la g) u hu 10 a1 a2 a3 true dn_M10 s10) gX11_ring_X5_paidBy rfl dn_hd_X5_paidBy rfl rfl rfl rfl dX11_ring_61) (fun r15 s13 e14 => ?_)
          refine dt_isub X dX11_ring_64 ?_
          exact dt_iret X dX11_ring_65
        · refine dt_ldc X (v := -1000000) dX11_ring_31 (by decide +kernel) ?_
          exact dt_iret X dX11_ring_33
set_option maxRecDepth 100000 in
set_option maxHeartbeats 4000000 in
theorem c_X11_isNameOrNone (l : Launch) (u : dn_U) (hu : dn_Lu u = dn_LC) (a1 : Int32) (s : dn_S) : dn_Met l u yX11_isNameOrNone wsX11_isNameOrNone 1 22 [.int a1] s (m_X11_isNameOrNone a1 s) (dn_QZ u) := by
  refine dt_entry RX11 [(0, .int a1)] (by decide +kernel) rfl rfl rfl rfl (fun g hgl X => ?_)
  subst hgl
  unfold m_X11_isNameOrNone
  refine dt_iload_n X 0 dX11_isNameOrNone_0 rfl rfl ?_
  refine dt_iconst X (v := -1) dX11_isNameOrNone_1 (by decide) ?_
  refine dt_iconst X (v := 4) dX11_isNameOrNone_2 (by decide) ?_
  refine dt_callZ X (dn_runS X [.int a1, .int (-1), .int 4] (c_X11_within (dn_la g) u hu a1 (-1) 4 s) gX11_isNameOrNone_X11_within rfl dn_hs_X11_within rfl rfl rfl rfl dX11_isNameOrNone_3) (fun r3 s1 e2 => ?_)
  exact dt_zret (v := r3) X dX11_isNameOrNone_6
set_option maxRecDepth 100000 in
set_option maxHeartbeats 4000000 in
theorem c_X2_add (l : Launch) (u : dn_U) (hu : dn_Lu u = dn_LC) (a1 : Int32) (a2 : Int32) (s : dn_S) : dn_Met l u yX2_add wsX2_add 1 22 [.ref (dn_a u 23), .int a1, .int a2] s (m_X2_add a1 a2 s) (dn_QV u) := by
  refine dt_entry RX2 [(0, .ref (dn_a u 23)), (1, .int a1), (2, .int a2)] (by decide +kernel) rfl rfl rfl rfl (fun g hgl X => ?_)
  subst hgl
  unfold m_X2_add
  refine dt_aload_n X 0 dX2_add_0 rfl rfl ?_
  refine dt_get X (T := TX2) (N := 6) (v := .ref (dn_a u 28)) 3 (dn_h23 hu) rfl dn_in_X2_add_2 rfl rfl dn_fw_X2_add_18 rfl dX2_add_1 ?_
  refine dt_aload_n X 0 dX2_add_4 rfl rfl ?_
  refine dt_get X (T := TX2) (N := 6) (v := .int (dn_g s 23 5)) 5 (dn_h23 hu) rfl dn_in_X2_add_2 rfl rfl dn_fw_X2_add_33 rfl dX2_add_5 ?_
  refine dt_iload_n X 1 dX2_add_8 rfl rfl ?_
  refine dt_callV X (dn_runSN X [.ref (dn_a u 28), .int (dn_g s 23 5), .int a1] (c_X11_put (dn_la g) u hu 28 5 (dn_g s 23 5) a1 (dn_h28 hu) s) gX2_add_X11_put_n37 rfl dn_nm_X2_add_37 dn_sw_X2_add_X11_put_1 dn_sw_X2_add_X11_put_2 dn_hs_X11_put rfl rfl rfl rfl dX2_add_9) (fun r3 s1 e2 => ?_)
  refine dt_aload_n X 0 dX2_add_12 rfl rfl ?_
  refine dt_get X (T := TX2) (N := 6) (v := .ref (dn_a u 29)) 4 (dn_h23 hu) rfl dn_in_X2_add_2 rfl rfl dn_fw_X2_add_22 rfl dX2_add_13 ?_
  refine dt_aload_n X 0 dX2_add_16 rfl rfl ?_
  refine dt_get X (T := TX2) (N := 6) (v := .int (dn_g s1 23 5)) 5 (dn_h23 hu) rfl dn_in_X2_add_2 rfl rfl dn_fw_X2_add_33 rfl dX2_add_17 ?_
  refine dt_iload_n X 2 dX2_add_20 rfl rfl ?_
  refine dt_callV X (dn_runSN X [.ref (dn_a u 29), .int (dn_g s1 23 5), .int a2] (c_X11_put (dn_la g) u hu 29 5 (dn_g s1 23 5) a2 (dn_h29 hu) s1) gX2_add_X11_put_n37 rfl dn_nm_X2_add_37 dn_sw_X2_add_X11_put_1 dn_sw_X2_add_X11_put_2 dn_hs_X11_put rfl rfl rfl rfl dX2_add_21) (fun r6 s4 e5 => ?_)
  refine dt_aload_n X 0 dX2_add_24 rfl rfl ?_
  refine dt_dup X dX2_add_25 rfl ?_
  refine dt_get X (T := TX2) (N := 6) (v := .int (dn_g s4 23 5)) 5 (dn_h23 hu) rfl dn_in_X2_add_2 rfl rfl dn_fw_X2_add_33 rfl dX2_add_26 ?_
  refine dt_iconst X (v := 1) dX2_add_29 (by decide) ?_
  refine dt_iadd X dX2_add_30 ?_
  refine dt_put X (T := TX2) (N := 6) 5 (dn_h23 hu) rfl dn_in_X2_add_2 rfl tyX2 tyX2_ok nmX2 rfl rfl dn_fw_X2_add_33 rfl rfl (dn_set23_5 _ _ _) dX2_add_31 (fun s7 => ?_)
  exact dt_vret X dX2_add_34
set_option maxRecDepth 100000 in
set_option maxHeartbeats 4000000 in
theorem c_X11_found (l : Launch) (u : dn_U) (hu : dn_Lu u = dn_LC) (a1 : Int32) (a2 : Int32) (s : dn_S) : dn_Met l u yX11_found wsX11_found 2 44 [.ref (dn_a u 0), .int a1, .int a2] s (m_X11_found a1 a2 s) (dn_QI u) := by
  refine dt_entry RX11 [(0, .ref (dn_a u 0)), (1, .int a1), (2, .int a2)] (by decide +kernel) rfl rfl rfl rfl (fun g hgl X => ?_)
  subst hgl
  unfold m_X11_found
  refine dt_iload_n X 1 dX11_found_0 rfl rfl ?_
  refine dt_iconst X (v := 1) dX11_found_1 (by decide) ?_
  refine dt_bipush X (v := 8) dX11_found_2 (by decide) ?_
  refine dt_callZ X (dn_runS X [.int a1, .int 1, .int 8] (c_X11_within (dn_la g) u hu a1 1 8 s) gX11_found_X11_within rfl dn_hs_X11_within rfl rfl rfl rfl dX11_found_4) (fun r3 s1 e2 => ?_)
  refine dt_if_eqb X 17 dX11_found_7 (by decide) ?_ ?_
  · refine dt_iconst X (v := -1) dX11_found_17 (by decide) ?_
    exact dt_iret X dX11_found_18
  · refine dt_iload_n X 2 dX11_found_10 rfl rfl ?_
    refine dt_callZ X (dn_runS X [.int a2] (c_X11_isNameOrNone (dn_la g) u hu a2 s1) gX11_found_X11_isNameOrNone rfl dn_hs_X11_isNameOrNone rfl rfl rfl rfl dX11_found_11) (fun r6 s4 e5 => ?_)
    refine dt_if_neb X 19 dX11_found_14 (by decide) ?_ ?_
    · refine dt_aload_n X 0 dX11_found_19 rfl rfl ?_
      refine dt_get X (T := TX11) (N := 10) (v := .ref (dn_a u 23)) 6 (dn_h0 hu) rfl dn_in_X11_found_11 rfl rfl dn_fw_X11_found_60 rfl dX11_found_20 ?_
      refine dt_getN X (T := TX2) (N := 6) (v := .int (dn_g s4 23 5)) 5 (dn_h23 hu) rfl dn_in_X11_found_2 rfl rfl dn_fw_X11_found_231 rfl dX11_found_23 ?_
      refine dt_iconst X (v := 5) dX11_found_26 (by decide) ?_
      refine dt_icmp_lt X 33 dX11_found_27 (by decide) ?_ ?_
      · refine dt_aload_n X 0 dX11_found_33 rfl rfl ?_
        refine dt_get X (T := TX11) (N := 10) (v := .ref (dn_a u 23)) 6 (dn_h0 hu) rfl dn_in_X11_found_11 rfl rfl dn_fw_X11_found_60 rfl dX11_found_34 ?_
        refine dt_iload_n X 1 dX11_found_37 rfl rfl ?_
        refine dt_iload_n X 2 dX11_found_38 rfl rfl ?_
        refine dt_callV X (dn_runV X (T := TX2) (N := 6) [.int a1, .int a2] (dn_h23 hu) rfl rfl (c_X2_add (dn_la g) u hu a1 a2 s4) gX11_found_X2_add rfl dn_hd_X2_add rfl rfl rfl rfl dX11_found_39) (fun r9 s7 e8 => ?_)
        refine dt_aload_n X 0 dX11_found_42 rfl rfl ?_
        refine dt_get X (T := TX11) (N := 10) (v := .ref (dn_a u 23)) 6 (dn_h0 hu) rfl dn_in_X11_found_11 rfl rfl dn_fw_X11_found_60 rfl dX11_found_43 ?_
        refine dt_getN X (T := TX2) (N := 6) (v := .int (dn_g s7 23 5)) 5 (dn_h23 hu) rfl dn_in_X11_found_2 rfl rfl dn_fw_X11_found_231 rfl dX11_found_46 ?_
        exact dt_iret X dX11_found_49
      · refine dt_bipush X (v := -3) dX11_found_30 (by decide) ?_
        exact dt_iret X dX11_found_32
    · refine dt_iconst X (v := -1) dX11_found_17 (by decide) ?_
      exact dt_iret X dX11_found_18
