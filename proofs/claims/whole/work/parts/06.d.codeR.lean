set_option maxRecDepth 100000 in
set_option maxHeartbeats 4000000 in
theorem b_X12_falls_16 {g : dn_M} {u : dn_U} (hu : dn_Lu u = dn_LR) (X : dn_X u g cX12_falls wsX12_falls RX12 3 4 94 (some .int)) : ∀ (n : Nat) (y1 : Int32) (y2 : Int32) (s : dn_S), dn_T u g 3 (dn_QI u) (m_X12_falls_16 n y1 y2 s) s 16 [(0, .ref (dn_a u 100)), (1, .int y1), (2, .int y2)] [] := by
  intro n
  induction n with
  | zero =>
    intro y1 y2 s
    exact dt_none X
  | succ n ih =>
    intro y1 y2 s
    rw [m_X12_falls_16]
    refine dt_iload_n X 2 dX12_falls_16 rfl rfl ?_
    refine dt_bipush X (v := 40) dX12_falls_17 (by decide) ?_
    refine dt_icmp_gt X 50 dX12_falls_19 (by decide) ?_ ?_
    · refine dt_bipush X (v := -9) dX12_falls_50 (by decide) ?_
      exact dt_iret X dX12_falls_52
    · refine dt_aload_n X 0 dX12_falls_22 rfl rfl ?_
      refine dt_get X (T := TX12) (N := 35) (v := .ref (dn_a u 101)) 0 (dn_h100 hu) rfl dn_in_X12_falls_12 rfl rfl dn_fw_X12_falls_7 rfl dX12_falls_23 ?_
      refine dt_sipush X (v := 130) dX12_falls_26 (by decide) ?_
      refine dt_iload_n X 1 dX12_falls_29 rfl rfl ?_
      refine dt_iadd X dX12_falls_30 ?_
      refine dt_iald X (dn_h101 hu) dX12_falls_31 ?_
      refine dt_if_eq X 37 dX12_falls_32 (by decide) ?_ ?_
      · refine dt_aload_n X 0 dX12_falls_37 rfl rfl ?_
        refine dt_bipush X (v := 120) dX12_falls_38 (by decide) ?_
        refine dt_callI X (dn_runV X (T := TX12) (N := 35) [.int 120] (dn_h100 hu) rfl rfl (c_X12_goes (dn_la g) u hu 120 s) gX12_falls_X12_goes rfl dn_hd_X12_goes rfl rfl rfl rfl dX12_falls_40) (fun r3 s1 e2 => ?_)
        refine dt_pop X dX12_falls_43 rfl ?_
        refine dt_iinc X (v := y2 + 1) 2 [(2, .int (y2 + 1)), (0, .ref (dn_a u 100)), (1, .int y1)] dX12_falls_44 rfl (by rfl) rfl rfl ?_
        refine dt_ilet X rfl (fun x4 => ?_)
        refine dt_goto X 16 dX12_falls_47 (by decide) ?_
        refine dt_sub X [(0, .ref (dn_a u 100)), (1, .int y1), (2, .int x4)] [1, 2, 0] rfl ?_
        exact ih y1 x4 s1
      · refine dt_iload_n X 2 dX12_falls_35 rfl rfl ?_
        exact dt_iret X dX12_falls_36
set_option maxRecDepth 100000 in
set_option maxHeartbeats 4000000 in
theorem c_X12_falls (l : Launch) (u : dn_U) (hu : dn_Lu u = dn_LR) (a1 : Int32) (s : dn_S) : dn_Met l u yX12_falls wsX12_falls 4 94 [.ref (dn_a u 100), .int a1] s (m_X12_falls a1 s) (dn_QI u) := by
  refine dt_entry RX12 [(0, .ref (dn_a u 100)), (1, .int a1)] (by decide +kernel) rfl rfl rfl rfl (fun g hgl X => ?_)
  subst hgl
  unfold m_X12_falls
  refine dt_aload_n X 0 dX12_falls_0 rfl rfl ?_
  refine dt_iload_n X 1 dX12_falls_1 rfl rfl ?_
  refine dt_callZ X (dn_runV X (T := TX12) (N := 35) [.int a1] (dn_h100 hu) rfl rfl (c_X12_isDebt (dn_la g) u hu a1 s) gX12_falls_X12_isDebt rfl dn_hd_X12_isDebt rfl rfl rfl rfl dX12_falls_2) (fun r3 s1 e2 => ?_)
  refine dt_if_neb X 10 dX12_falls_5 (by decide) ?_ ?_
  · refine dt_aload_n X 0 dX12_falls_10 rfl rfl ?_
    refine dt_callV X (dn_runV X (T := TX12) (N := 35) [] (dn_h100 hu) rfl rfl (c_X12_tries (dn_la g) u hu s1) gX12_falls_X12_tries rfl dn_hd_X12_tries rfl rfl rfl rfl dX12_falls_11) (fun r6 s4 e5 => ?_)
    refine dt_iconst X (v := 0) dX12_falls_14 (by decide) ?_
    refine dt_istore_n X [(2, .int 0), (0, .ref (dn_a u 100)), (1, .int a1)] dX12_falls_15 rfl rfl rfl ?_
    refine dt_sub X [(0, .ref (dn_a u 100)), (1, .int a1), (2, .int 0)] [1, 2, 0] rfl ?_
    exact b_X12_falls_16 hu X 2048 a1 0 s4
  · refine dt_iconst X (v := -1) dX12_falls_8 (by decide) ?_
    exact dt_iret X dX12_falls_9
set_option maxRecDepth 100000 in
set_option maxHeartbeats 4000000 in
theorem b_X12_buy_179 {g : dn_M} {u : dn_U} (hu : dn_Lu u = dn_LR) (X : dn_X u g cX12_buy wsX12_buy RX12 9 4 94 (some .int)) (y4 : Int32) (s : dn_S) : dn_T u g 9 (dn_QI u) (m_X12_buy_179 y4 s) s 179 [(4, .int y4)] [] := by
  unfold m_X12_buy_179
  refine dt_iload X 0 dX12_buy_179 rfl ?_
  refine dt_goto X 186 dX12_buy_181 (by decide) ?_
  exact dt_iret X dX12_buy_186
set_option maxRecDepth 100000 in
set_option maxHeartbeats 4000000 in
theorem b_X12_buy_153 {g : dn_M} {u : dn_U} (hu : dn_Lu u = dn_LR) (X : dn_X u g cX12_buy wsX12_buy RX12 9 4 94 (some .int)) (K46 : Int32 → Int32 → Int32 → Int32 → Int32 → Int32 → dn_S → Option (Int32 × dn_S)) (H46 : ∀ (y1 : Int32) (y2 : Int32) (y3 : Int32) (y4 : Int32) (y5 : Int32) (y6 : Int32) (s : dn_S), dn_T u g 9 (dn_QI u) (K46 y1 y2 y3 y4 y5 y6 s) s 46 [(0, .ref (dn_a u 100)), (1, .int y1), (2, .int y2), (3, .int y3), (4, .int y4), (5, .int y5), (6, .int y6)] []) (y1 : Int32) (y2 : Int32) (y3 : Int32) (y4 : Int32) (y6 : Int32) (z0 : Int32) (s : dn_S) : dn_T u g 9 (dn_QI u) (m_X12_buy_153 K46 y1 y2 y3 y4 y6 z0 s) s 153 [(0, .ref (dn_a u 100)), (1, .int y1), (2, .int y2), (3, .int y3), (4, .int y4), (6, .int y6)] [.int z0] := by
  unfold m_X12_buy_153
  refine dt_istore X [(5, .int z0), (0, .ref (dn_a u 100)), (1, .int y1), (2, .int y2), (3, .int y3), (4, .int y4), (6, .int y6)] dX12_buy_153 rfl rfl ?_
  refine dt_aload_n X 1 dX12_buy_155 rfl rfl ?_
  refine dt_bipush X (v := 120) dX12_buy_156 (by decide) ?_
  refine dt_callI X (dn_runV X (T := TX12) (N := 35) [.int 120] (dn_h100 hu) rfl rfl (c_X12_goes (dn_la g) u hu 120 s) gX12_buy_X12_goes rfl dn_hd_X12_goes rfl rfl rfl rfl dX12_buy_158) (fun r3 s1 e2 => ?_)
  refine dt_pop X dX12_buy_161 rfl ?_
  refine dt_iinc X (v := y6 + 1) 6 [(6, .int (y6 + 1)), (5, .int z0), (0, .ref (dn_a u 100)), (1, .int y1), (2, .int y2), (3, .int y3), (4, .int y4)] dX12_buy_162 rfl (by rfl) rfl rfl ?_
  refine dt_ilet X rfl (fun x4 => ?_)
  refine dt_goto X 46 dX12_buy_165 (by decide) ?_
  refine dt_sub X [(0, .ref (dn_a u 100)), (1, .int y1), (2, .int y2), (3, .int y3), (4, .int y4), (5, .int z0), (6, .int x4)] [2, 3, 4, 5, 6, 1, 0] rfl ?_
  exact H46 y1 y2 y3 y4 z0 x4 s1
set_option maxRecDepth 100000 in
set_option maxHeartbeats 4000000 in
theorem b_X12_buy_151 {g : dn_M} {u : dn_U} (hu : dn_Lu u = dn_LR) (X : dn_X u g cX12_buy wsX12_buy RX12 9 4 94 (some .int)) (K46 : Int32 → Int32 → Int32 → Int32 → Int32 → Int32 → dn_S → Option (Int32 × dn_S)) (H46 : ∀ (y1 : Int32) (y2 : Int32) (y3 : Int32) (y4 : Int32) (y5 : Int32) (y6 : Int32) (s : dn_S), dn_T u g 9 (dn_QI u) (K46 y1 y2 y3 y4 y5 y6 s) s 46 [(0, .ref (dn_a u 100)), (1, .int y1), (2, .int y2), (3, .int y3), (4, .int y4), (5, .int y5), (6, .int y6)] []) (y1 : Int32) (y2 : Int32) (y3 : Int32) (y4 : Int32) (y5 : Int32) (y6 : Int32) (s : dn_S) : dn_T u g 9 (dn_QI u) (m_X12_buy_151 K46 y1 y2 y3 y4 y5 y6 s) s 151 [(0, .ref (dn_a u 100)), (1, .int y1), (2, .int y2), (3, .int y3), (4, .int y4), (5, .int y5), (6, .int y6)] [] := by
  unfold m_X12_buy_151
  refine dt_iload X 5 dX12_buy_151 rfl ?_
  refine dt_sub X [(0, .ref (dn_a u 100)), (1, .int y1), (2, .int y2), (3, .int y3), (4, .int y4), (6, .int y6)] [0, 1, 2, 3, 4, 6] rfl ?_
  exact b_X12_buy_153 hu X K46 H46 y1 y2 y3 y4 y6 y5 s
set_option maxRecDepth 100000 in
set_option maxHeartbeats 4000000 in
theorem b_X12_buy_132 {g : dn_M} {u : dn_U} (hu : dn_Lu u = dn_LR) (X : dn_X u g cX12_buy wsX12_buy RX12 9 4 94 (some .int)) (K46 : Int32 → Int32 → Int32 → Int32 → Int32 → Int32 → dn_S → Option (Int32 × dn_S)) (H46 : ∀ (y1 : Int32) (y2 : Int32) (y3 : Int32) (y4 : Int32) (y5 : Int32) (y6 : Int32) (s : dn_S), dn_T u g 9 (dn_QI u) (K46 y1 y2 y3 y4 y5 y6 s) s 46 [(0, .ref (dn_a u 100)), (1, .int y1), (2, .int y2), (3, .int y3), (4, .int y4), (5, .int y5), (6, .int y6)] []) (y1 : Int32) (y2 : Int32) (y3 : Int32) (y5 : Int32) (y6 : Int32) (y7 : Bool) (y8 : Int32) (z0 : Int32) (s : dn_S) : dn_T u g 9 (dn_QI u) (m_X12_buy_132 K46 y1 y2 y3 y5 y6 y7 y8 z0 s) s 132 [(0, .ref (dn_a u 100)), (1, .int y1), (2, .int y2), (3, .int y3), (5, .int y5), (6, .int y6), (7, .int (dn_b y7)), (8, .int y8)] [.int z0] := by
  unfold m_X12_buy_132
  refine dt_istore X [(4, .int z0), (0, .ref (dn_a u 100)), (1, .int y1), (2, .int y2), (3, .int y3), (5, .int y5), (6, .int y6), (7, .int (dn_b y7)), (8, .int y8)] dX12_buy_132 rfl rfl ?_
  refine dt_iload X 7 dX12_buy_134 rfl ?_
  refine dt_if_eqb X 151 dX12_buy_136 (by decide) ?_ ?_
  · refine dt_sub X [(0, .ref (dn_a u 100)), (1, .int y1), (2, .int y2), (3, .int y3), (4, .int z0), (5, .int y5), (6, .int y6)] [1, 2, 3, 4, 0, 5, 6] rfl ?_
    exact b_X12_buy_151 hu X K46 H46 y1 y2 y3 z0 y5 y6 s
  · refine dt_iload X 8 dX12_buy_139 rfl ?_
    refine dt_iload X 5 dX12_buy_141 rfl ?_
    refine dt_icmp_ge X 151 dX12_buy_143 (by decide) ?_ ?_
    · refine dt_sub X [(0, .ref (dn_a u 100)), (1, .int y1), (2, .int y2), (3, .int y3), (4, .int z0), (5, .int y5), (6, .int y6)] [1, 2, 3, 4, 0, 5, 6] rfl ?_
      exact b_X12_buy_151 hu X K46 H46 y1 y2 y3 z0 y5 y6 s
    · refine dt_iload X 8 dX12_buy_146 rfl ?_
      refine dt_goto X 153 dX12_buy_148 (by decide) ?_
      refine dt_sub X [(0, .ref (dn_a u 100)), (1, .int y1), (2, .int y2), (3, .int y3), (4, .int z0), (6, .int y6)] [1, 2, 3, 4, 0, 6] rfl ?_
      exact b_X12_buy_153 hu X K46 H46 y1 y2 y3 z0 y6 y8 s
set_option maxRecDepth 100000 in
set_option maxHeartbeats 4000000 in
theorem b_X12_buy_130 {g : dn_M} {u : dn_U} (hu : dn_Lu u = dn_LR) (X : dn_X u g cX12_buy wsX12_buy RX12 9 4 94 (some .int)) (K46 : Int32 → Int32 → Int32 → Int32 → Int32 → Int32 → dn_S → Option (Int32 × dn_S)) (H46 : ∀ (y1 : Int32) (y2 : Int32) (y3 : Int32) (y4 : Int32) (y5 : Int32) (y6 : Int32) (s : dn_S), dn_T u g 9 (dn_QI u) (K46 y1 y2 y3 y4 y5 y6 s) s 46 [(0, .ref (dn_a u 100)), (1, .int y1), (2, .int y2), (3, .int y3), (4, .int y4), (5, .int y5), (6, .int y6)] []) (y1 : Int32) (y2 : Int32) (y3 : Int32) (y4 : Int32) (y5 : Int32) (y6 : Int32) (y7 : Bool) (y8 : Int32) (s : dn_S) : dn_T u g 9 (dn_QI u) (m_X12_buy_130 K46 y1 y2 y3 y4 y5 y6 y7 y8 s) s 130 [(0, .ref (dn_a u 100)), (1, .int y1), (2, .int y2), (3, .int y3), (4, .int y4), (5, .int y5), (6, .int y6), (7, .int (dn_b y7)), (8, .int y8)] [] := by
  unfold m_X12_buy_130
  refine dt_iload X 4 dX12_buy_130 rfl ?_
  refine dt_sub X [(0, .ref (dn_a u 100)), (1, .int y1), (2, .int y2), (3, .int y3), (5, .int y5), (6, .int y6), (7, .int (dn_b y7)), (8, .int y8)] [0, 1, 2, 3, 5, 6, 7, 8] rfl ?_
  exact b_X12_buy_132 hu X K46 H46 y1 y2 y3 y5 y6 y7 y8 y4 s
set_option maxRecDepth 100000 in
set_option maxHeartbeats 4000000 in
theorem b_X12_buy_111 {g : dn_M} {u : dn_U} (hu : dn_Lu u = dn_LR) (X : dn_X u g cX12_buy wsX12_buy RX12 9 4 94 (some .int)) (K46 : Int32 → Int32 → Int32 → Int32 → Int32 → Int32 → dn_S → Option (Int32 × dn_S)) (H46 : ∀ (y1 : Int32) (y2 : Int32) (y3 : Int32) (y4 : Int32) (y5 : Int32) (y6 : Int32) (s : dn_S), dn_T u g 9 (dn_QI u) (K46 y1 y2 y3 y4 y5 y6 s) s 46 [(0, .ref (dn_a u 100)), (1, .int y1), (2, .int y2), (3, .int y3), (4, .int y4), (5, .int y5), (6, .int y6)] []) (y1 : Int32) (y2 : Int32) (y3 : Int32) (y4 : Int32) (y5 : Int32) (y6 : Int32) (y7 : Bool) (z0 : Int32) (s : dn_S) : dn_T u g 9 (dn_QI u) (m_X12_buy_111 K46 y1 y2 y3 y4 y5 y6 y7 z0 s) s 111 [(0, .ref (dn_a u 100)), (1, .int y1), (2, .int y2), (3, .int y3), (4, .int y4), (5, .int y5), (6, .int y6), (7, .int (dn_b y7))] [.int z0] := by
  unfold m_X12_buy_111
  refine dt_istore X [(8, .int z0), (0, .ref (dn_a u 100)), (1, .int y1), (2, .int y2), (3, .int y3), (4, .int y4), (5, .int y5), (6, .int y6), (7, .int (dn_b y7))] dX12_buy_111 rfl rfl ?_
  refine dt_iload X 8 dX12_buy_113 rfl ?_
  refine dt_if_eqb X 130 dX12_buy_115 (by decide) ?_ ?_
  · refine dt_sub X [(0, .ref (dn_a u 100)), (1, .int y1), (2, .int y2), (3, .int y3), (4, .int y4), (5, .int y5), (6, .int y6), (7, .int (dn_b y7)), (8, .int z0)] [1, 2, 3, 4, 5, 6, 7, 8, 0] rfl ?_
    exact b_X12_buy_130 hu X K46 H46 y1 y2 y3 y4 y5 y6 y7 z0 s
  · refine dt_iload X 0 dX12_buy_118 rfl ?_
    refine dt_iload X 6 dX12_buy_120 rfl ?_
    refine dt_icmp_ge X 130 dX12_buy_122 (by decide) ?_ ?_
    · refine dt_sub X [(0, .ref (dn_a u 100)), (1, .int y1), (2, .int y2), (3, .int y3), (4, .int y4), (5, .int y5), (6, .int y6), (7, .int (dn_b y7)), (8, .int z0)] [1, 2, 3, 4, 5, 6, 7, 8, 0] rfl ?_
      exact b_X12_buy_130 hu X K46 H46 y1 y2 y3 y4 y5 y6 y7 z0 s
    · refine dt_iload X 7 dX12_buy_125 rfl ?_
      refine dt_goto X 132 dX12_buy_127 (by decide) ?_
      refine dt_sub X [(0, .ref (dn_a u 100)), (1, .int y1), (2, .int y2), (3, .int y3), (5, .int y5), (6, .int y6), (7, .int (dn_b y7)), (8, .int z0)] [1, 2, 3, 4, 6, 7, 8, 0] rfl ?_
      exact b_X12_buy_132 hu X K46 H46 y1 y2 y3 y5 y6 y7 z0 y6 s
set_option maxRecDepth 100000 in
set_option maxHeartbeats 4000000 in
theorem b_X12_buy_105 {g : dn_M} {u : dn_U} (hu : dn_Lu u = dn_LR) (X : dn_X u g cX12_buy wsX12_buy RX12 9 4 94 (some .int)) (K46 : Int32 → Int32 → Int32 → Int32 → Int32 → Int32 → dn_S → Option (Int32 × dn_S)) (H46 : ∀ (y1 : Int32) (y2 : Int32) (y3 : Int32) (y4 : Int32) (y5 : Int32) (y6 : Int32) (s : dn_S), dn_T u g 9 (dn_QI u) (K46 y1 y2 y3 y4 y5 y6 s) s 46 [(0, .ref (dn_a u 100)), (1, .int y1), (2, .int y2), (3, .int y3), (4, .int y4), (5, .int y5), (6, .int y6)] []) (y1 : Int32) (y2 : Int32) (y3 : Int32) (y4 : Int32) (y5 : Int32) (y6 : Int32) (y7 : Bool) (s : dn_S) : dn_T u g 9 (dn_QI u) (m_X12_buy_105 K46 y1 y2 y3 y4 y5 y6 y7 s) s 105 [(0, .ref (dn_a u 100)), (1, .int y1), (2, .int y2), (3, .int y3), (4, .int y4), (5, .int y5), (6, .int y6), (7, .int (dn_b y7))] [] := by
  unfold m_X12_buy_105
  refine dt_aload_n X 0 dX12_buy_105 rfl rfl ?_
  refine dt_get X (T := TX12) (N := 35) (v := .int (dn_g s 100 34)) 34 (dn_h100 hu) rfl dn_in_X12_buy_12 rfl rfl dn_fw_X12_buy_168 rfl dX12_buy_106 ?_
  refine dt_iconst X (v := 1) dX12_buy_109 (by decide) ?_
  refine dt_iadd X dX12_buy_110 ?_
  refine dt_sub X [(0, .ref (dn_a u 100)), (1, .int y1), (2, .int y2), (3, .int y3), (4, .int y4), (5, .int y5), (6, .int y6), (7, .int (dn_b y7))] [0, 1, 2, 3, 4, 5, 6, 7] rfl ?_
  exact b_X12_buy_111 hu X K46 H46 y1 y2 y3 y4 y5 y6 y7 ((dn_g s 100 34) + 1) s
set_option maxRecDepth 100000 in
set_option maxHeartbeats 4000000 in
theorem b_X12_buy_77 {g : dn_M} {u : dn_U} (hu : dn_Lu u = dn_LR) (X : dn_X u g cX12_buy wsX12_buy RX12 9 4 94 (some .int)) (K46 : Int32 → Int32 → Int32 → Int32 → Int32 → Int32 → dn_S → Option (Int32 × dn_S)) (H46 : ∀ (y1 : Int32) (y2 : Int32) (y3 : Int32) (y4 : Int32) (y5 : Int32) (y6 : Int32) (s : dn_S), dn_T u g 9 (dn_QI u) (K46 y1 y2 y3 y4 y5 y6 s) s 46 [(0, .ref (dn_a u 100)), (1, .int y1), (2, .int y2), (3, .int y3), (4, .int y4), (5, .int y5), (6, .int y6)] []) (y1 : Int32) (y2 : Int32) (y3 : Int32) (y4 : Int32) (y5 : Int32) (y6 : Int32) (z0 : Bool) (s : dn_S) : dn_T u g 9 (dn_QI u) (m_X12_buy_77 K46 y1 y2 y3 y4 y5 y6 z0 s) s 77 [(0, .ref (dn_a u 100)), (1, .int y1), (2, .int y2), (3, .int y3), (4, .int y4), (5, .int y5), (6, .int y6)] [.int (dn_b z0)] := by
  unfold m_X12_buy_77
  refine dt_istore X [(7, .int (dn_b z0)), (0, .ref (dn_a u 100)), (1, .int y1), (2, .int y2), (3, .int y3), (4, .int y4), (5, .int y5), (6, .int y6)] dX12_buy_77 rfl rfl ?_
  refine dt_aload_n X 1 dX12_buy_79 rfl rfl ?_
  refine dt_get X (T := TX12) (N := 35) (v := .int (dn_g s 100 32)) 32 (dn_h100 hu) rfl dn_in_X12_buy_12 rfl rfl dn_fw_X12_buy_165 rfl dX12_buy_80 ?_
  refine dt_bipush X (v := -9) dX12_buy_83 (by decide) ?_
  refine dt_icmp_eq X 105 dX12_buy_85 (by decide) ?_ ?_
  · refine dt_sub X [(0, .ref (dn_a u 100)), (1, .int y1), (2, .int y2), (3, .int y3), (4, .int y4), (5, .int y5), (6, .int y6), (7, .int (dn_b z0))] [1, 2, 3, 4, 5, 6, 7, 0] rfl ?_
    exact b_X12_buy_105 hu X K46 H46 y1 y2 y3 y4 y5 y6 z0 s
  · refine dt_aload_n X 1 dX12_buy_88 rfl rfl ?_
    refine dt_get X (T := TX12) (N := 35) (v := .ref (dn_a u 116)) 31 (dn_h100 hu) rfl dn_in_X12_buy_12 rfl rfl dn_fw_X12_buy_60 rfl dX12_buy_89 ?_
    refine dt_aload_n X 1 dX12_buy_92 rfl rfl ?_
    refine dt_get X (T := TX12) (N := 35) (v := .int (dn_g s 100 32)) 32 (dn_h100 hu) rfl dn_in_X12_buy_12 rfl rfl dn_fw_X12_buy_165 rfl dX12_buy_93 ?_
    refine dt_iald X (dn_h116 hu) dX12_buy_96 ?_
    refine dt_iload_n X 2 dX12_buy_97 rfl rfl ?_
    refine dt_icmp_ne X 105 dX12_buy_98 (by decide) ?_ ?_
    · refine dt_sub X [(0, .ref (dn_a u 100)), (1, .int y1), (2, .int y2), (3, .int y3), (4, .int y4), (5, .int y5), (6, .int y6), (7, .int (dn_b z0))] [1, 2, 3, 4, 5, 6, 7, 0] rfl ?_
      exact b_X12_buy_105 hu X K46 H46 y1 y2 y3 y4 y5 y6 z0 s
    · refine dt_iconst X (v := 0) dX12_buy_101 (by decide) ?_
      refine dt_goto X 111 dX12_buy_102 (by decide) ?_
      refine dt_sub X [(0, .ref (dn_a u 100)), (1, .int y1), (2, .int y2), (3, .int y3), (4, .int y4), (5, .int y5), (6, .int y6), (7, .int (dn_b z0))] [1, 2, 3, 4, 5, 6, 7, 0] rfl ?_
      exact b_X12_buy_111 hu X K46 H46 y1 y2 y3 y4 y5 y6 z0 0 s
set_option maxRecDepth 100000 in
set_option maxHeartbeats 4000000 in
theorem b_X12_buy_46 {g : dn_M} {u : dn_U} (hu : dn_Lu u = dn_LR) (X : dn_X u g cX12_buy wsX12_buy RX12 9 4 94 (some .int)) : ∀ (n : Nat) (y1 : Int32) (y2 : Int32) (y3 : Int32) (y4 : Int32) (y5 : Int32) (y6 : Int32) (s : dn_S), dn_T u g 9 (dn_QI u) (m_X12_buy_46 n y1 y2 y3 y4 y5 y6 s) s 46 [(0, .ref (dn_a u 100)), (1, .int y1), (2, .int y2), (3, .int y3), (4, .int y4), (5, .int y5), (6, .int y6)] [] := by
  intro n
  induction n with
  | zero =>
    intro y1 y2 y3 y4 y5 y6 s
    exact dt_none X
  | succ n ih =>
    intro y1 y2 y3 y4 y5 y6 s
    rw [m_X12_buy_46]
    refine dt_iload X 6 dX12_buy_46 rfl ?_
    refine dt_iload_n X 2 dX12_buy_48 rfl rfl ?_
    refine dt_icmp_gt X 168 dX12_buy_49 (by decide) ?_ ?_
    · refine dt_iload X 4 dX12_buy_168 rfl ?_
      refine dt_bipush X (v := -9) dX12_buy_170 (by decide) ?_
      refine dt_icmp_eq X 179 dX12_buy_172 (by decide) ?_ ?_
      · refine dt_sub X [(4, .int y4)] [4] rfl ?_
        exact b_X12_buy_179 hu X y4 s
      · refine dt_iload_n X 3 dX12_buy_175 rfl rfl ?_
        refine dt_if_ne X 184 dX12_buy_176 (by decide) ?_ ?_
        · refine dt_iload X 5 dX12_buy_184 rfl ?_
          exact dt_iret X dX12_buy_186
        · refine dt_sub X [(4, .int y4)] [4] rfl ?_
          exact b_X12_buy_179 hu X y4 s
    · refine dt_aload_n X 0 dX12_buy_52 rfl rfl ?_
      refine dt_bipush X (v := 120) dX12_buy_53 (by decide) ?_
      refine dt_callV X (dn_runV X (T := TX12) (N := 35) [.int 120] (dn_h100 hu) rfl rfl (c_X12_bidsOf (dn_la g) u hu 120 s) gX12_buy_X12_bidsOf rfl dn_hd_X12_bidsOf rfl rfl rfl rfl dX12_buy_55) (fun r3 s1 e2 => ?_)
      refine dt_aload_n X 0 dX12_buy_58 rfl rfl ?_
      refine dt_callV X (dn_runV X (T := TX12) (N := 35) [] (dn_h100 hu) rfl rfl (c_X12_sells (dn_la g) u hu s1) gX12_buy_X12_sells rfl dn_hd_X12_sells rfl rfl rfl rfl dX12_buy_59) (fun r6 s4 e5 => ?_)
      refine dt_aload_n X 0 dX12_buy_62 rfl rfl ?_
      refine dt_bipush X (v := 120) dX12_buy_63 (by decide) ?_
      refine dt_iload_n X 1 dX12_buy_65 rfl rfl ?_
      refine dt_callZ X (dn_runV X (T := TX12) (N := 35) [.int 120, .int y1] (dn_h100 hu) rfl rfl (c_X12_isBarred (dn_la g) u hu 120 y1 s4) gX12_buy_X12_isBarred rfl dn_hd_X12_isBarred rfl rfl rfl rfl dX12_buy_66) (fun r9 s7 e8 => ?_)
      refine dt_if_neb X 76 dX12_buy_69 (by decide) ?_ ?_
      · refine dt_iconst X (v := 0) dX12_buy_76 (by decide) ?_
        refine dt_sub X [(0, .ref (dn_a u 100)), (1, .int y1), (2, .int y2), (3, .int y3), (4, .int y4), (5, .int y5), (6, .int y6)] [0, 1, 2, 3, 4, 5, 6] rfl ?_
        exact b_X12_buy_77 hu X (m_X12_buy_46 n) ih y1 y2 y3 y4 y5 y6 false s7
      · refine dt_iconst X (v := 1) dX12_buy_72 (by decide) ?_
        refine dt_goto X 77 dX12_buy_73 (by decide) ?_
        refine dt_sub X [(0, .ref (dn_a u 100)), (1, .int y1), (2, .int y2), (3, .int y3), (4, .int y4), (5, .int y5), (6, .int y6)] [0, 1, 2, 3, 4, 5, 6] rfl ?_
        exact b_X12_buy_77 hu X (m_X12_buy_46 n) ih y1 y2 y3 y4 y5 y6 true s7
set_option maxRecDepth 100000 in
set_option maxHeartbeats 4000000 in
theorem c_X12_buy (l : Launch) (u : dn_U) (hu : dn_Lu u = dn_LR) (a1 : Int32) (a2 : Int32) (a3 : Int32) (s : dn_S) : dn_Met l u yX12_buy wsX12_buy 4 94 [.ref (dn_a u 100), .int a1, .int a2, .int a3] s (m_X12_buy a1 a2 a3 s) (dn_QI u) := by
  refine dt_entry RX12 [(0, .ref (dn_a u 100)), (1, .int a1), (2, .int a2), (3, .int a3)] (by decide +kernel) rfl rfl rfl rfl (fun g hgl X => ?_)
  subst hgl
  unfold m_X12_buy
  refine dt_iload_n X 1 dX12_buy_0 rfl rfl ?_
  refine dt_callZ X (dn_runS X [.int a1] (c_X12_isName (dn_la g) u hu a1 s) gX12_buy_X12_isName rfl dn_hs_X12_isName rfl rfl rfl rfl dX12_buy_1) (fun r3 s1 e2 => ?_)
  refine dt_if_eqb X 29 dX12_buy_4 (by decide) ?_ ?_
  · refine dt_iconst X (v := -1) dX12_buy_29 (by decide) ?_
    exact dt_iret X dX12_buy_30
  · refine dt_iload_n X 2 dX12_buy_7 rfl rfl ?_
    refine dt_i2l X dX12_buy_8 ?_
    refine dt_lconst X (v := 1) dX12_buy_9 (by decide) ?_
    refine dt_ldc2 X (v := 10) dX12_buy_10 (by decide +kernel) ?_
    refine dt_callZ X (dn_runS X [.long ((a2 : Int32).toInt64), .long 1, .long 10] (c_X12_in (dn_la g) u hu ((a2 : Int32).toInt64) 1 10 s1) gX12_buy_X12_in rfl dn_hs_X12_in rfl rfl rfl rfl dX12_buy_13) (fun r6 s4 e5 => ?_)
    refine dt_if_eqb X 29 dX12_buy_16 (by decide) ?_ ?_
    · refine dt_iconst X (v := -1) dX12_buy_29 (by decide) ?_
      exact dt_iret X dX12_buy_30
    · refine dt_iload_n X 3 dX12_buy_19 rfl rfl ?_
      refine dt_i2l X dX12_buy_20 ?_
      refine dt_lconst X (v := 0) dX12_buy_21 (by decide) ?_
      refine dt_lconst X (v := 1) dX12_buy_22 (by decide) ?_
      refine dt_callZ X (dn_runS X [.long ((a3 : Int32).toInt64), .long 0, .long 1] (c_X12_in (dn_la g) u hu ((a3 : Int32).toInt64) 0 1 s4) gX12_buy_X12_in rfl dn_hs_X12_in rfl rfl rfl rfl dX12_buy_23) (fun r9 s7 e8 => ?_)
      refine dt_if_neb X 31 dX12_buy_26 (by decide) ?_ ?_
      · refine dt_bipush X (v := -9) dX12_buy_31 (by decide) ?_
        refine dt_istore X [(4, .int (-9)), (0, .ref (dn_a u 100)), (1, .int a1), (2, .int a2), (3, .int a3)] dX12_buy_33 rfl rfl ?_
        refine dt_bipush X (v := 41) dX12_buy_35 (by decide) ?_
        refine dt_istore X [(5, .int 41), (4, .int (-9)), (0, .ref (dn_a u 100)), (1, .int a1), (2, .int a2), (3, .int a3)] dX12_buy_37 rfl rfl ?_
        refine dt_aload_n X 2 dX12_buy_39 rfl rfl ?_
        refine dt_callV X (dn_runV X (T := TX12) (N := 35) [] (dn_h100 hu) rfl rfl (c_X12_tries (dn_la g) u hu s7) gX12_buy_X12_tries rfl dn_hd_X12_tries rfl rfl rfl rfl dX12_buy_40) (fun r12 s10 e11 => ?_)
        refine dt_iconst X (v := 1) dX12_buy_43 (by decide) ?_
        refine dt_istore X [(6, .int 1), (5, .int 41), (4, .int (-9)), (0, .ref (dn_a u 100)), (1, .int a1), (2, .int a2), (3, .int a3)] dX12_buy_44 rfl rfl ?_
        refine dt_sub X [(0, .ref (dn_a u 100)), (1, .int a1), (2, .int a2), (3, .int a3), (4, .int (-9)), (5, .int 41), (6, .int 1)] [3, 4, 5, 6, 2, 1, 0] rfl ?_
        exact b_X12_buy_46 hu X 2048 a1 a2 a3 (-9) 41 1 s10
      · refine dt_iconst X (v := -1) dX12_buy_29 (by decide) ?_
        exact dt_iret X dX12_buy_30
set_option maxRecDepth 100000 in
set_option maxHeartbeats 4000000 in
theorem b_X12_hold_128 {g : dn_M} {u : dn_U} (hu : dn_Lu u = dn_LR) (X : dn_X u g cX12_hold wsX12_hold RX12 7 4 94 (some .int)) (K50 : Int32 → Int32 → Int32 → Int32 → Int32 → Int32 → dn_S → Option (Int32 × dn_S)) (H50 : ∀ (y1 : Int32) (y2 : Int32) (y3 : Int32) (y4 : Int32) (y5 : Int32) (y6 : Int32) (s : dn_S), dn_T u g 7 (dn_QI u) (K50 y1 y2 y3 y4 y5 y6 s) s 50 [(0, .ref (dn_a u 100)), (1, .int y1), (2, .int y2), (3, .int y3), (4, .int y4), (5, .int y5), (6, .int y6)] []) (y1 : Int32) (y2 : Int32) (y3 : Int32) (y5 : Int32) (y6 : Int32) (z0 : Bool) (z1 : Int32) (s : dn_S) : dn_T u g 7 (dn_QI u) (m_X12_hold_128 K50 y1 y2 y3 y5 y6 z0 z1 s) s 128 [(0, .ref (dn_a u 100)), (1, .int y1), (2, .int y2), (3, .int y3), (5, .int y5), (6, .int y6)] [.int (dn_b z0), .int z1] := by
  unfold m_X12_hold_128
  refine dt_iadd X dX12_hold_128 ?_
  refine dt_let X (fun x1 => ?_)
  refine dt_istore X [(4, .int x1), (0, .ref (dn_a u 100)), (1, .int y1), (2, .int y2), (3, .int y3), (5, .int y5), (6, .int y6)] dX12_hold_129 rfl rfl ?_
  refine dt_iinc X (v := y6 + 1) 6 [(6, .int (y6 + 1)), (4, .int x1), (0, .ref (dn_a u 100)), (1, .int y1), (2, .int y2), (3, .int y3), (5, .int y5)] dX12_hold_131 rfl (by rfl) rfl rfl ?_
  refine dt_ilet X rfl (fun x2 => ?_)
  refine dt_goto X 50 dX12_hold_134 (by decide) ?_
  refine dt_sub X [(0, .ref (dn_a u 100)), (1, .int y1), (2, .int y2), (3, .int y3), (4, .int x1), (5, .int y5), (6, .int x2)] [2, 3, 4, 5, 1, 6, 0] rfl ?_
  exact H50 y1 y2 y3 x1 y5 x2 s
set_option maxRecDepth 100000 in
set_option maxHeartbeats 4000000 in
theorem b_X12_hold_111 {g : dn_M} {u : dn_U} (hu : dn_Lu u = dn_LR) (X : dn_X u g cX12_hold wsX12_hold RX12 7 4 94 (some .int)) (K50 : Int32 → Int32 → Int32 → Int32 → Int32 → Int32 → dn_S → Option (Int32 × dn_S)) (H50 : ∀ (y1 : Int32) (y2 : Int32) (y3 : Int32) (y4 : Int32) (y5 : Int32) (y6 : Int32) (s : dn_S), dn_T u g 7 (dn_QI u) (K50 y1 y2 y3 y4 y5 y6 s) s 50 [(0, .ref (dn_a u 100)), (1, .int y1), (2, .int y2), (3, .int y3), (4, .int y4), (5, .int y5), (6, .int y6)] []) (y1 : Int32) (y2 : Int32) (y3 : Int32) (y4 : Int32) (y5 : Int32) (y6 : Int32) (s : dn_S) : dn_T u g 7 (dn_QI u) (m_X12_hold_111 K50 y1 y2 y3 y4 y5 y6 s) s 111 [(0, .ref (dn_a u 100)), (1, .int y1), (2, .int y2), (3, .int y3), (4, .int y4), (5, .int y5), (6, .int y6)] [] := by
  unfold m_X12_hold_111
  refine dt_iload X 4 dX12_hold_111 rfl ?_
  refine dt_aload_n X 0 dX12_hold_113 rfl rfl ?_
  refine dt_bipush X (v := 120) dX12_hold_114 (by decide) ?_
  refine dt_callI X (dn_runV X (T := TX12) (N := 35) [.int 120] (dn_h100 hu) rfl rfl (c_X12_goes (dn_la g) u hu 120 s) gX12_hold_X12_goes rfl dn_hd_X12_goes rfl rfl rfl rfl dX12_hold_116) (fun r3 s1 e2 => ?_)
  refine dt_iload_n X 1 dX12_hold_119 rfl rfl ?_
  refine dt_icmp_ne X 127 dX12_hold_120 (by decide) ?_ ?_
  · refine dt_iconst X (v := 0) dX12_hold_127 (by decide) ?_
    refine dt_sub X [(0, .ref (dn_a u 100)), (1, .int y1), (2, .int y2), (3, .int y3), (5, .int y5), (6, .int y6)] [0, 1, 2, 3, 5, 6] rfl ?_
    exact b_X12_hold_128 hu X K50 H50 y1 y2 y3 y5 y6 false y4 s1
  · refine dt_iconst X (v := 1) dX12_hold_123 (by decide) ?_
    refine dt_goto X 128 dX12_hold_124 (by decide) ?_
    refine dt_sub X [(0, .ref (dn_a u 100)), (1, .int y1), (2, .int y2), (3, .int y3), (5, .int y5), (6, .int y6)] [0, 1, 2, 3, 5, 6] rfl ?_
    exact b_X12_hold_128 hu X K50 H50 y1 y2 y3 y5 y6 true y4 s1
set_option maxRecDepth 100000 in
set_option maxHeartbeats 4000000 in
theorem b_X12_hold_50 {g : dn_M} {u : dn_U} (hu : dn_Lu u = dn_LR) (X : dn_X u g cX12_hold wsX12_hold RX12 7 4 94 (some .int)) : ∀ (n : Nat) (y1 : Int32) (y2 : Int32) (y3 : Int32) (y4 : Int32) (y5 : Int32) (y6 : Int32) (s : dn_S), dn_T u g 7 (dn_QI u) (m_X12_hold_50 n y1 y2 y3 y4 y5 y6 s) s 50 [(0, .ref (dn_a u 100)), (1, .int y1), (2, .int y2), (3, .int y3), (4, .int y4), (5, .int y5), (6, .int y6)] [] := by
  intro n
  induction n with
  | zero =>
    intro y1 y2 y3 y4 y5 y6 s
    exact dt_none X
  | succ n ih =>
    intro y1 y2 y3 y4 y5 y6 s
    rw [m_X12_hold_50]
    refine dt_iload X 6 dX12_hold_50 rfl ?_
    refine dt_iload_n X 2 dX12_hold_52 rfl rfl ?_
    refine dt_icmp_ge X 137 dX12_hold_53 (by decide) ?_ ?_
    · refine dt_iload_n X 3 dX12_hold_137 rfl rfl ?_
      refine dt_if_ne X 154 dX12_hold_138 (by decide) ?_ ?_
      · refine dt_iload X 4 dX12_hold_154 rfl ?_
        exact dt_iret X dX12_hold_156
      · refine dt_aload_n X 0 dX12_hold_141 rfl rfl ?_
        refine dt_get X (T := TX12) (N := 35) (v := .ref (dn_a u 101)) 0 (dn_h100 hu) rfl dn_in_X12_hold_12 rfl rfl dn_fw_X12_hold_7 rfl dX12_hold_142 ?_
        refine dt_bipush X (v := 122) dX12_hold_145 (by decide) ?_
        refine dt_iald X (dn_h101 hu) dX12_hold_147 ?_
        refine dt_iload X 5 dX12_hold_148 rfl ?_
        refine dt_isub X dX12_hold_150 ?_
        refine dt_goto X 156 dX12_hold_151 (by decide) ?_
        exact dt_iret X dX12_hold_156
    · refine dt_aload_n X 0 dX12_hold_56 rfl rfl ?_
      refine dt_bipush X (v := 120) dX12_hold_57 (by decide) ?_
      refine dt_iload_n X 1 dX12_hold_59 rfl rfl ?_
      refine dt_callZ X (dn_runV X (T := TX12) (N := 35) [.int 120, .int y1] (dn_h100 hu) rfl rfl (c_X12_isBarred (dn_la g) u hu 120 y1 s) gX12_hold_X12_isBarred rfl dn_hd_X12_isBarred rfl rfl rfl rfl dX12_hold_60) (fun r3 s1 e2 => ?_)
      refine dt_if_neb X 111 dX12_hold_63 (by decide) ?_ ?_
      · refine dt_sub X [(0, .ref (dn_a u 100)), (1, .int y1), (2, .int y2), (3, .int y3), (4, .int y4), (5, .int y5), (6, .int y6)] [0, 1, 2, 3, 4, 5, 6] rfl ?_
        exact b_X12_hold_111 hu X (m_X12_hold_50 n) ih y1 y2 y3 y4 y5 y6 s1
      · refine dt_aload_n X 0 dX12_hold_66 rfl rfl ?_
        refine dt_bipush X (v := 120) dX12_hold_67 (by decide) ?_
        refine dt_callV X (dn_runV X (T := TX12) (N := 35) [.int 120] (dn_h100 hu) rfl rfl (c_X12_bidsOf (dn_la g) u hu 120 s1) gX12_hold_X12_bidsOf rfl dn_hd_X12_bidsOf rfl rfl rfl rfl dX12_hold_69) (fun r6 s4 e5 => ?_)
        refine dt_aload_n X 0 dX12_hold_72 rfl rfl ?_
        refine dt_callV X (dn_runV X (T := TX12) (N := 35) [] (dn_h100 hu) rfl rfl (c_X12_sells (dn_la g) u hu s4) gX12_hold_X12_sells rfl dn_hd_X12_sells rfl rfl rfl rfl dX12_hold_73) (fun r9 s7 e8 => ?_)
        refine dt_aload_n X 0 dX12_hold_76 rfl rfl ?_
        refine dt_get X (T := TX12) (N := 35) (v := .int (dn_g s7 100 34)) 34 (dn_h100 hu) rfl dn_in_X12_hold_12 rfl rfl dn_fw_X12_hold_168 rfl dX12_hold_77 ?_
        refine dt_iconst X (v := 1) dX12_hold_80 (by decide) ?_
        refine dt_iadd X dX12_hold_81 ?_
        refine dt_bipush X (v := 40) dX12_hold_82 (by decide) ?_
        refine dt_icmp_le X 90 dX12_hold_84 (by decide) ?_ ?_
        · refine dt_aload_n X 0 dX12_hold_90 rfl rfl ?_
          refine dt_get X (T := TX12) (N := 35) (v := .ref (dn_a u 101)) 0 (dn_h100 hu) rfl dn_in_X12_hold_12 rfl rfl dn_fw_X12_hold_7 rfl dX12_hold_91 ?_
          refine dt_bipush X (v := 124) dX12_hold_94 (by decide) ?_
          refine dt_aload_n X 0 dX12_hold_96 rfl rfl ?_
          refine dt_get X (T := TX12) (N := 35) (v := .int (dn_g s7 100 34)) 34 (dn_h100 hu) rfl dn_in_X12_hold_12 rfl rfl dn_fw_X12_hold_168 rfl dX12_hold_97 ?_
          refine dt_iconst X (v := 1) dX12_hold_100 (by decide) ?_
          refine dt_iadd X dX12_hold_101 ?_
          refine dt_iast X (dn_h101 hu) dX12_hold_102 (fun s10 => ?_)
          refine dt_aload_n X 0 dX12_hold_103 rfl rfl ?_
          refine dt_get X (T := TX12) (N := 35) (v := .ref (dn_a u 101)) 0 (dn_h100 hu) rfl dn_in_X12_hold_12 rfl rfl dn_fw_X12_hold_7 rfl dX12_hold_104 ?_
          refine dt_bipush X (v := 125) dX12_hold_107 (by decide) ?_
          refine dt_iload_n X 1 dX12_hold_109 rfl rfl ?_
          refine dt_iast X (dn_h101 hu) dX12_hold_110 (fun s11 => ?_)
          refine dt_sub X [(0, .ref (dn_a u 100)), (1, .int y1), (2, .int y2), (3, .int y3), (4, .int y4), (5, .int y5), (6, .int y6)] [0, 1, 2, 3, 4, 5, 6] rfl ?_
          exact b_X12_hold_111 hu X (m_X12_hold_50 n) ih y1 y2 y3 y4 y5 y6 s11
        · refine dt_bipush X (v := -9) dX12_hold_87 (by decide) ?_
          exact dt_iret X dX12_hold_89
set_option maxRecDepth 100000 in
set_option maxHeartbeats 4000000 in
theorem c_X12_hold (l : Launch) (u : dn_U) (hu : dn_Lu u = dn_LR) (a1 : Int32) (a2 : Int32) (a3 : Int32) (s : dn_S) : dn_Met l u yX12_hold wsX12_hold 4 94 [.ref (dn_a u 100), .int a1, .int a2, .int a3] s (m_X12_hold a1 a2 a3 s) (dn_QI u) := by
  refine dt_entry RX12 [(0, .ref (dn_a u 100)), (1, .int a1), (2, .int a2), (3, .int a3)] (by decide +kernel) rfl rfl rfl rfl (fun g hgl X => ?_)
  subst hgl
  unfold m_X12_hold
  refine dt_iload_n X 1 dX12_hold_0 rfl rfl ?_
  refine dt_callZ X (dn_runS X [.int a1] (c_X12_isName (dn_la g) u hu a1 s) gX12_hold_X12_isName rfl dn_hs_X12_isName rfl rfl rfl rfl dX12_hold_1) (fun r3 s1 e2 => ?_)
  refine dt_if_eqb X 29 dX12_hold_4 (by decide) ?_ ?_
  · refine dt_iconst X (v := -1) dX12_hold_29 (by decide) ?_
    exact dt_iret X dX12_hold_30
  · refine dt_iload_n X 2 dX12_hold_7 rfl rfl ?_
    refine dt_i2l X dX12_hold_8 ?_
    refine dt_lconst X (v := 1) dX12_hold_9 (by decide) ?_
    refine dt_ldc2 X (v := 6) dX12_hold_10 (by decide +kernel) ?_
    refine dt_callZ X (dn_runS X [.long ((a2 : Int32).toInt64), .long 1, .long 6] (c_X12_in (dn_la g) u hu ((a2 : Int32).toInt64) 1 6 s1) gX12_hold_X12_in rfl dn_hs_X12_in rfl rfl rfl rfl dX12_hold_13) (fun r6 s4 e5 => ?_)
    refine dt_if_eqb X 29 dX12_hold_16 (by decide) ?_ ?_
    · refine dt_iconst X (v := -1) dX12_hold_29 (by decide) ?_
      exact dt_iret X dX12_hold_30
    · refine dt_iload_n X 3 dX12_hold_19 rfl rfl ?_
      refine dt_i2l X dX12_hold_20 ?_
      refine dt_lconst X (v := 0) dX12_hold_21 (by decide) ?_
      refine dt_lconst X (v := 1) dX12_hold_22 (by decide) ?_
      refine dt_callZ X (dn_runS X [.long ((a3 : Int32).toInt64), .long 0, .long 1] (c_X12_in (dn_la g) u hu ((a3 : Int32).toInt64) 0 1 s4) gX12_hold_X12_in rfl dn_hs_X12_in rfl rfl rfl rfl dX12_hold_23) (fun r9 s7 e8 => ?_)
      refine dt_if_neb X 31 dX12_hold_26 (by decide) ?_ ?_
      · refine dt_iconst X (v := 0) dX12_hold_31 (by decide) ?_
        refine dt_istore X [(4, .int 0), (0, .ref (dn_a u 100)), (1, .int a1), (2, .int a2), (3, .int a3)] dX12_hold_32 rfl rfl ?_
        refine dt_aload_n X 1 dX12_hold_34 rfl rfl ?_
        refine dt_callV X (dn_runV X (T := TX12) (N := 35) [] (dn_h100 hu) rfl rfl (c_X12_tries (dn_la g) u hu s7) gX12_hold_X12_tries rfl dn_hd_X12_tries rfl rfl rfl rfl dX12_hold_35) (fun r12 s10 e11 => ?_)
        refine dt_aload_n X 1 dX12_hold_38 rfl rfl ?_
        refine dt_get X (T := TX12) (N := 35) (v := .ref (dn_a u 101)) 0 (dn_h100 hu) rfl dn_in_X12_hold_12 rfl rfl dn_fw_X12_hold_7 rfl dX12_hold_39 ?_
        refine dt_bipush X (v := 122) dX12_hold_42 (by decide) ?_
        refine dt_iald X (dn_h101 hu) dX12_hold_44 ?_
        refine dt_let X (fun x13 => ?_)
        refine dt_istore X [(5, .int x13), (4, .int 0), (0, .ref (dn_a u 100)), (1, .int a1), (2, .int a2), (3, .int a3)] dX12_hold_45 rfl rfl ?_
        refine dt_iconst X (v := 0) dX12_hold_47 (by decide) ?_
        refine dt_istore X [(6, .int 0), (5, .int x13), (4, .int 0), (0, .ref (dn_a u 100)), (1, .int a1), (2, .int a2), (3, .int a3)] dX12_hold_48 rfl rfl ?_
        refine dt_sub X [(0, .ref (dn_a u 100)), (1, .int a1), (2, .int a2), (3, .int a3), (4, .int 0), (5, .int x13), (6, .int 0)] [3, 4, 5, 6, 2, 1, 0] rfl ?_
        exact b_X12_hold_50 hu X 2048 a1 a2 a3 0 x13 0 s10
      · refine dt_iconst X (v := -1) dX12_hold_29 (by decide) ?_
        exact dt_iret X dX12_hold_30
set_option maxRecDepth 100000 in
set_option maxHeartbeats 4000000 in
theorem b_X12_paidBy_136 {g : dn_M} {u : dn_U} (hu : dn_Lu u = dn_LR) (X : dn_X u g cX12_paidBy wsX12_paidBy RX12 8 3 73 (some .int)) (K10 : Int32 → Int32 → Int32 → Bool → Int32 → Int32 → dn_S → Option (Int32 × dn_S)) (H10 : ∀ (y1 : Int32) (y2 : Int32) (y3 : Int32) (y4 : Bool) (y5 : Int32) (y6 : Int32) (s : dn_S), dn_T u g 8 (dn_QI u) (K10 y1 y2 y3 y4 y5 y6 s) s 10 [(0, .ref (dn_a u 100)), (1, .int y1), (2, .int y2), (3, .int y3), (4, .int (dn_b y4)), (5, .int y5), (6, .int y6)] []) (y1 : Int32) (y2 : Int32) (y3 : Int32) (y4 : Bool) (y6 : Int32) (z0 : Int32) (z1 : Int32) (s : dn_S) : dn_T u g 8 (dn_QI u) (m_X12_paidBy_136 K10 y1 y2 y3 y4 y6 z0 z1 s) s 136 [(0, .ref (dn_a u 100)), (1, .int y1), (2, .int y2), (3, .int y3), (4, .int (dn_b y4)), (6, .int y6)] [.int z0, .int z1] := by
  unfold m_X12_paidBy_136
  refine dt_iadd X dX12_paidBy_136 ?_
  refine dt_let X (fun x1 => ?_)
  refine dt_istore X [(5, .int x1), (0, .ref (dn_a u 100)), (1, .int y1), (2, .int y2), (3, .int y3), (4, .int (dn_b y4)), (6, .int y6)] dX12_paidBy_137 rfl rfl ?_
  refine dt_iinc X (v := y6 + 1) 6 [(6, .int (y6 + 1)), (5, .int x1), (0, .ref (dn_a u 100)), (1, .int y1), (2, .int y2), (3, .int y3), (4, .int (dn_b y4))] dX12_paidBy_139 rfl (by rfl) rfl rfl ?_
  refine dt_ilet X rfl (fun x2 => ?_)
  refine dt_goto X 10 dX12_paidBy_142 (by decide) ?_
  refine dt_sub X [(0, .ref (dn_a u 100)), (1, .int y1), (2, .int y2), (3, .int y3), (4, .int (dn_b y4)), (5, .int x1), (6, .int x2)] [2, 3, 4, 5, 6, 1, 0] rfl ?_
  exact H10 y1 y2 y3 y4 x1 x2 s
set_option maxRecDepth 100000 in
set_option maxHeartbeats 4000000 in
theorem b_X12_paidBy_135 {g : dn_M} {u : dn_U} (hu : dn_Lu u = dn_LR) (X : dn_X u g cX12_paidBy wsX12_paidBy RX12 8 3 73 (some .int)) (K10 : Int32 → Int32 → Int32 → Bool → Int32 → Int32 → dn_S → Option (Int32 × dn_S)) (H10 : ∀ (y1 : Int32) (y2 : Int32) (y3 : Int32) (y4 : Bool) (y5 : Int32) (y6 : Int32) (s : dn_S), dn_T u g 8 (dn_QI u) (K10 y1 y2 y3 y4 y5 y6 s) s 10 [(0, .ref (dn_a u 100)), (1, .int y1), (2, .int y2), (3, .int y3), (4, .int (dn_b y4)), (5, .int y5), (6, .int y6)] []) (y1 : Int32) (y2 : Int32) (y3 : Int32) (y4 : Bool) (y6 : Int32) (z0 : Int32) (s : dn_S) : dn_T u g 8 (dn_QI u) (m_X12_paidBy_135 K10 y1 y2 y3 y4 y6 z0 s) s 135 [(0, .ref (dn_a u 100)), (1, .int y1), (2, .int y2), (3, .int y3), (4, .int (dn_b y4)), (6, .int y6)] [.int z0] := by
  unfold m_X12_paidBy_135
  refine dt_iconst X (v := 0) dX12_paidBy_135 (by decide) ?_
  refine dt_sub X [(0, .ref (dn_a u 100)), (1, .int y1), (2, .int y2), (3, .int y3), (4, .int (dn_b y4)), (6, .int y6)] [0, 1, 2, 3, 4, 5] rfl ?_
  exact b_X12_paidBy_136 hu X K10 H10 y1 y2 y3 y4 y6 0 z0 s
set_option maxRecDepth 100000 in
set_option maxHeartbeats 4000000 in
theorem b_X12_paidBy_128 {g : dn_M} {u : dn_U} (hu : dn_Lu u = dn_LR) (X : dn_X u g cX12_paidBy wsX12_paidBy RX12 8 3 73 (some .int)) (K10 : Int32 → Int32 → Int32 → Bool → Int32 → Int32 → dn_S → Option (Int32 × dn_S)) (H10 : ∀ (y1 : Int32) (y2 : Int32) (y3 : Int32) (y4 : Bool) (y5 : Int32) (y6 : Int32) (s : dn_S), dn_T u g 8 (dn_QI u) (K10 y1 y2 y3 y4 y5 y6 s) s 10 [(0, .ref (dn_a u 100)), (1, .int y1), (2, .int y2), (3, .int y3), (4, .int (dn_b y4)), (5, .int y5), (6, .int y6)] []) (y1 : Int32) (y2 : Int32) (y3 : Int32) (y4 : Bool) (y6 : Int32) (z0 : Int32) (s : dn_S) : dn_T u g 8 (dn_QI u) (m_X12_paidBy_128 K10 y1 y2 y3 y4 y6 z0 s) s 128 [(0, .ref (dn_a u 100)), (1, .int y1), (2, .int y2), (3, .int y3), (4, .int (dn_b y4)), (6, .int y6)] [.int z0] := by
  unfold m_X12_paidBy_128
  refine dt_aload_n X 0 dX12_paidBy_128 rfl rfl ?_
  refine dt_get X (T := TX12) (N := 35) (v := .int (dn_g s 100 33)) 33 (dn_h100 hu) rfl dn_in_X12_paidBy_12 rfl rfl dn_fw_X12_paidBy_171 rfl dX12_paidBy_129 ?_
  refine dt_goto X 136 dX12_paidBy_132 (by decide) ?_
  refine dt_sub X [(0, .ref (dn_a u 100)), (1, .int y1), (2, .int y2), (3, .int y3), (4, .int (dn_b y4)), (6, .int y6)] [0, 1, 2, 3, 4, 5] rfl ?_
  exact b_X12_paidBy_136 hu X K10 H10 y1 y2 y3 y4 y6 (dn_g s 100 33) z0 s
set_option maxRecDepth 100000 in
set_option maxHeartbeats 4000000 in
theorem b_X12_paidBy_95 {g : dn_M} {u : dn_U} (hu : dn_Lu u = dn_LR) (X : dn_X u g cX12_paidBy wsX12_paidBy RX12 8 3 73 (some .int)) (K10 : Int32 → Int32 → Int32 → Bool → Int32 → Int32 → dn_S → Option (Int32 × dn_S)) (H10 : ∀ (y1 : Int32) (y2 : Int32) (y3 : Int32) (y4 : Bool) (y5 : Int32) (y6 : Int32) (s : dn_S), dn_T u g 8 (dn_QI u) (K10 y1 y2 y3 y4 y5 y6 s) s 10 [(0, .ref (dn_a u 100)), (1, .int y1), (2, .int y2), (3, .int y3), (4, .int (dn_b y4)), (5, .int y5), (6, .int y6)] []) (y1 : Int32) (y2 : Int32) (y3 : Int32) (y4 : Bool) (y5 : Int32) (y6 : Int32) (s : dn_S) : dn_T u g 8 (dn_QI u) (m_X12_paidBy_95 K10 y1 y2 y3 y4 y5 y6 s) s 95 [(0, .ref (dn_a u 100)), (1, .int y1), (2, .int y2), (3, .int y3), (4, .int (dn_b y4)), (5, .int y5), (6, .int y6)] [] := by
  unfold m_X12_paidBy_95
  refine dt_aload_n X 0 dX12_paidBy_95 rfl rfl ?_
  refine dt_bipush X (v := 120) dX12_paidBy_96 (by decide) ?_
  refine dt_callI X (dn_runV X (T := TX12) (N := 35) [.int 120] (dn_h100 hu) rfl rfl (c_X12_ends (dn_la g) u hu 120 s) gX12_paidBy_X12_ends rfl dn_hd_X12_ends rfl rfl rfl rfl dX12_paidBy_98) (fun r3 s1 e2 => ?_)
  refine dt_istore X [(7, .int r3), (0, .ref (dn_a u 100)), (1, .int y1), (2, .int y2), (3, .int y3), (4, .int (dn_b y4)), (5, .int y5), (6, .int y6)] dX12_paidBy_101 rfl rfl ?_
  refine dt_iload X 6 dX12_paidBy_103 rfl ?_
  refine dt_iload X 0 dX12_paidBy_105 rfl ?_
  refine dt_bipush X (v := -5) dX12_paidBy_107 (by decide) ?_
  refine dt_icmp_eq X 135 dX12_paidBy_109 (by decide) ?_ ?_
  · refine dt_sub X [(0, .ref (dn_a u 100)), (1, .int y1), (2, .int y2), (3, .int y3), (4, .int (dn_b y4)), (6, .int y6)] [1, 2, 3, 4, 5, 7] rfl ?_
    exact b_X12_paidBy_135 hu X K10 H10 y1 y2 y3 y4 y6 y5 s1
  · refine dt_aload_n X 1 dX12_paidBy_112 rfl rfl ?_
    refine dt_get X (T := TX12) (N := 35) (v := .int (dn_g s1 100 32)) 32 (dn_h100 hu) rfl dn_in_X12_paidBy_12 rfl rfl dn_fw_X12_paidBy_165 rfl dX12_paidBy_113 ?_
    refine dt_iload_n X 2 dX12_paidBy_116 rfl rfl ?_
    refine dt_icmp_eq X 128 dX12_paidBy_117 (by decide) ?_ ?_
    · refine dt_sub X [(0, .ref (dn_a u 100)), (1, .int y1), (2, .int y2), (3, .int y3), (4, .int (dn_b y4)), (6, .int y6)] [1, 2, 3, 4, 5, 7] rfl ?_
      exact b_X12_paidBy_128 hu X K10 H10 y1 y2 y3 y4 y6 y5 s1
    · refine dt_aload_n X 1 dX12_paidBy_120 rfl rfl ?_
      refine dt_get X (T := TX12) (N := 35) (v := .int (dn_g s1 100 32)) 32 (dn_h100 hu) rfl dn_in_X12_paidBy_12 rfl rfl dn_fw_X12_paidBy_165 rfl dX12_paidBy_121 ?_
      refine dt_iload_n X 3 dX12_paidBy_124 rfl rfl ?_
      refine dt_icmp_ne X 135 dX12_paidBy_125 (by decide) ?_ ?_
      · refine dt_sub X [(0, .ref (dn_a u 100)), (1, .int y1), (2, .int y2), (3, .int y3), (4, .int (dn_b y4)), (6, .int y6)] [1, 2, 3, 4, 5, 7] rfl ?_
        exact b_X12_paidBy_135 hu X K10 H10 y1 y2 y3 y4 y6 y5 s1
      · refine dt_sub X [(0, .ref (dn_a u 100)), (1, .int y1), (2, .int y2), (3, .int y3), (4, .int (dn_b y4)), (6, .int y6)] [1, 2, 3, 4, 5, 7] rfl ?_
        exact b_X12_paidBy_128 hu X K10 H10 y1 y2 y3 y4 y6 y5 s1
set_option maxRecDepth 100000 in
set_option maxHeartbeats 4000000 in
theorem b_X12_paidBy_85 {g : dn_M} {u : dn_U} (hu : dn_Lu u = dn_LR) (X : dn_X u g cX12_paidBy wsX12_paidBy RX12 8 3 73 (some .int)) (K10 : Int32 → Int32 → Int32 → Bool → Int32 → Int32 → dn_S → Option (Int32 × dn_S)) (H10 : ∀ (y1 : Int32) (y2 : Int32) (y3 : Int32) (y4 : Bool) (y5 : Int32) (y6 : Int32) (s : dn_S), dn_T u g 8 (dn_QI u) (K10 y1 y2 y3 y4 y5 y6 s) s 10 [(0, .ref (dn_a u 100)), (1, .int y1), (2, .int y2), (3, .int y3), (4, .int (dn_b y4)), (5, .int y5), (6, .int y6)] []) (y1 : Int32) (y2 : Int32) (y3 : Int32) (y4 : Bool) (y5 : Int32) (y6 : Int32) (z0 : Int32) (s : dn_S) : dn_T u g 8 (dn_QI u) (m_X12_paidBy_85 K10 y1 y2 y3 y4 y5 y6 z0 s) s 85 [(0, .ref (dn_a u 100)), (1, .int y1), (2, .int y2), (3, .int y3), (4, .int (dn_b y4)), (5, .int y5), (6, .int y6)] [.int z0] := by
  unfold m_X12_paidBy_85
  refine dt_istore X [(7, .int z0), (0, .ref (dn_a u 100)), (1, .int y1), (2, .int y2), (3, .int y3), (4, .int (dn_b y4)), (5, .int y5), (6, .int y6)] dX12_paidBy_85 rfl rfl ?_
  refine dt_aload_n X 1 dX12_paidBy_87 rfl rfl ?_
  refine dt_get X (T := TX12) (N := 35) (v := .ref (dn_a u 115)) 30 (dn_h100 hu) rfl dn_in_X12_paidBy_12 rfl rfl dn_fw_X12_paidBy_57 rfl dX12_paidBy_88 ?_
  refine dt_iload X 0 dX12_paidBy_91 rfl ?_
  refine dt_iconst X (v := 0) dX12_paidBy_93 (by decide) ?_
  refine dt_iast X (dn_h115 hu) dX12_paidBy_94 (fun s1 => ?_)
  refine dt_sub X [(0, .ref (dn_a u 100)), (1, .int y1), (2, .int y2), (3, .int y3), (4, .int (dn_b y4)), (5, .int y5), (6, .int y6)] [1, 2, 3, 4, 5, 6, 7] rfl ?_
  exact b_X12_paidBy_95 hu X K10 H10 y1 y2 y3 y4 y5 y6 s1
set_option maxRecDepth 100000 in
set_option maxHeartbeats 4000000 in
theorem b_X12_paidBy_80 {g : dn_M} {u : dn_U} (hu : dn_Lu u = dn_LR) (X : dn_X u g cX12_paidBy wsX12_paidBy RX12 8 3 73 (some .int)) (K10 : Int32 → Int32 → Int32 → Bool → Int32 → Int32 → dn_S → Option (Int32 × dn_S)) (H10 : ∀ (y1 : Int32) (y2 : Int32) (y3 : Int32) (y4 : Bool) (y5 : Int32) (y6 : Int32) (s : dn_S), dn_T u g 8 (dn_QI u) (K10 y1 y2 y3 y4 y5 y6 s) s 10 [(0, .ref (dn_a u 100)), (1, .int y1), (2, .int y2), (3, .int y3), (4, .int (dn_b y4)), (5, .int y5), (6, .int y6)] []) (y1 : Int32) (y2 : Int32) (y3 : Int32) (y4 : Bool) (y5 : Int32) (y6 : Int32) (s : dn_S) : dn_T u g 8 (dn_QI u) (m_X12_paidBy_80 K10 y1 y2 y3 y4 y5 y6 s) s 80 [(0, .ref (dn_a u 100)), (1, .int y1), (2, .int y2), (3, .int y3), (4, .int (dn_b y4)), (5, .int y5), (6, .int y6)] [] := by
  unfold m_X12_paidBy_80
  refine dt_iload_n X 1 dX12_paidBy_80 rfl rfl ?_
  refine dt_goto X 85 dX12_paidBy_81 (by decide) ?_
  refine dt_sub X [(0, .ref (dn_a u 100)), (1, .int y1), (2, .int y2), (3, .int y3), (4, .int (dn_b y4)), (5, .int y5), (6, .int y6)] [0, 1, 2, 3, 4, 5, 6] rfl ?_
  exact b_X12_paidBy_85 hu X K10 H10 y1 y2 y3 y4 y5 y6 y1 s
set_option maxRecDepth 100000 in
set_option maxHeartbeats 4000000 in
theorem b_X12_paidBy_84 {g : dn_M} {u : dn_U} (hu : dn_Lu u = dn_LR) (X : dn_X u g cX12_paidBy wsX12_paidBy RX12 8 3 73 (some .int)) (K10 : Int32 → Int32 → Int32 → Bool → Int32 → Int32 → dn_S → Option (Int32 × dn_S)) (H10 : ∀ (y1 : Int32) (y2 : Int32) (y3 : Int32) (y4 : Bool) (y5 : Int32) (y6 : Int32) (s : dn_S), dn_T u g 8 (dn_QI u) (K10 y1 y2 y3 y4 y5 y6 s) s 10 [(0, .ref (dn_a u 100)), (1, .int y1), (2, .int y2), (3, .int y3), (4, .int (dn_b y4)), (5, .int y5), (6, .int y6)] []) (y1 : Int32) (y2 : Int32) (y3 : Int32) (y4 : Bool) (y5 : Int32) (y6 : Int32) (s : dn_S) : dn_T u g 8 (dn_QI u) (m_X12_paidBy_84 K10 y1 y2 y3 y4 y5 y6 s) s 84 [(0, .ref (dn_a u 100)), (1, .int y1), (2, .int y2), (3, .int y3), (4, .int (dn_b y4)), (5, .int y5), (6, .int y6)] [] := by
  unfold m_X12_paidBy_84
  refine dt_iload_n X 2 dX12_paidBy_84 rfl rfl ?_
  refine dt_sub X [(0, .ref (dn_a u 100)), (1, .int y1), (2, .int y2), (3, .int y3), (4, .int (dn_b y4)), (5, .int y5), (6, .int y6)] [0, 1, 2, 3, 4, 5, 6] rfl ?_
  exact b_X12_paidBy_85 hu X K10 H10 y1 y2 y3 y4 y5 y6 y2 s
set_option maxRecDepth 100000 in
set_option maxHeartbeats 4000000 in
theorem b_X12_paidBy_10 {g : dn_M} {u : dn_U} (hu : dn_Lu u = dn_LR) (X : dn_X u g cX12_paidBy wsX12_paidBy RX12 8 3 73 (some .int)) : ∀ (n : Nat) (y1 : Int32) (y2 : Int32) (y3 : Int32) (y4 : Bool) (y5 : Int32) (y6 : Int32) (s : dn_S), dn_T u g 8 (dn_QI u) (m_X12_paidBy_10 n y1 y2 y3 y4 y5 y6 s) s 10 [(0, .ref (dn_a u 100)), (1, .int y1), (2, .int y2), (3, .int y3), (4, .int (dn_b y4)), (5, .int y5), (6, .int y6)] [] := by
  intro n
  induction n with
  | zero =>
    intro y1 y2 y3 y4 y5 y6 s
    exact dt_none X
  | succ n ih =>
    intro y1 y2 y3 y4 y5 y6 s
    rw [m_X12_paidBy_10]
    refine dt_iload X 6 dX12_paidBy_10 rfl ?_
    refine dt_iload_n X 3 dX12_paidBy_12 rfl rfl ?_
    refine dt_icmp_ge X 145 dX12_paidBy_13 (by decide) ?_ ?_
    · refine dt_iload X 5 dX12_paidBy_145 rfl ?_
      exact dt_iret X dX12_paidBy_147
    · refine dt_aload_n X 0 dX12_paidBy_16 rfl rfl ?_
      refine dt_bipush X (v := 120) dX12_paidBy_17 (by decide) ?_
      refine dt_callV X (dn_runV X (T := TX12) (N := 35) [.int 120] (dn_h100 hu) rfl rfl (c_X12_bidsOf (dn_la g) u hu 120 s) gX12_paidBy_X12_bidsOf rfl dn_hd_X12_bidsOf rfl rfl rfl rfl dX12_paidBy_19) (fun r3 s1 e2 => ?_)
      refine dt_iload X 4 dX12_paidBy_22 rfl ?_
      refine dt_if_eqb X 95 dX12_paidBy_24 (by decide) ?_ ?_
      · refine dt_sub X [(0, .ref (dn_a u 100)), (1, .int y1), (2, .int y2), (3, .int y3), (4, .int (dn_b y4)), (5, .int y5), (6, .int y6)] [0, 1, 2, 3, 4, 5, 6] rfl ?_
        exact b_X12_paidBy_95 hu X (m_X12_paidBy_10 n) ih y1 y2 y3 y4 y5 y6 s1
      · refine dt_aload_n X 0 dX12_paidBy_27 rfl rfl ?_
        refine dt_get X (T := TX12) (N := 35) (v := .ref (dn_a u 115)) 30 (dn_h100 hu) rfl dn_in_X12_paidBy_12 rfl rfl dn_fw_X12_paidBy_57 rfl dX12_paidBy_28 ?_
        refine dt_iload_n X 1 dX12_paidBy_31 rfl rfl ?_
        refine dt_iald X (dn_h115 hu) dX12_paidBy_32 ?_
        refine dt_if_le X 95 dX12_paidBy_33 (by decide) ?_ ?_
        · refine dt_sub X [(0, .ref (dn_a u 100)), (1, .int y1), (2, .int y2), (3, .int y3), (4, .int (dn_b y4)), (5, .int y5), (6, .int y6)] [0, 1, 2, 3, 4, 5, 6] rfl ?_
          exact b_X12_paidBy_95 hu X (m_X12_paidBy_10 n) ih y1 y2 y3 y4 y5 y6 s1
        · refine dt_aload_n X 0 dX12_paidBy_36 rfl rfl ?_
          refine dt_get X (T := TX12) (N := 35) (v := .ref (dn_a u 115)) 30 (dn_h100 hu) rfl dn_in_X12_paidBy_12 rfl rfl dn_fw_X12_paidBy_57 rfl dX12_paidBy_37 ?_
          refine dt_iload_n X 2 dX12_paidBy_40 rfl rfl ?_
          refine dt_iald X (dn_h115 hu) dX12_paidBy_41 ?_
          refine dt_if_le X 95 dX12_paidBy_42 (by decide) ?_ ?_
          · refine dt_sub X [(0, .ref (dn_a u 100)), (1, .int y1), (2, .int y2), (3, .int y3), (4, .int (dn_b y4)), (5, .int y5), (6, .int y6)] [0, 1, 2, 3, 4, 5, 6] rfl ?_
            exact b_X12_paidBy_95 hu X (m_X12_paidBy_10 n) ih y1 y2 y3 y4 y5 y6 s1
          · refine dt_aload_n X 0 dX12_paidBy_45 rfl rfl ?_
            refine dt_get X (T := TX12) (N := 35) (v := .ref (dn_a u 115)) 30 (dn_h100 hu) rfl dn_in_X12_paidBy_12 rfl rfl dn_fw_X12_paidBy_57 rfl dX12_paidBy_46 ?_
            refine dt_iload_n X 1 dX12_paidBy_49 rfl rfl ?_
            refine dt_iald X (dn_h115 hu) dX12_paidBy_50 ?_
            refine dt_aload_n X 0 dX12_paidBy_51 rfl rfl ?_
            refine dt_get X (T := TX12) (N := 35) (v := .ref (dn_a u 115)) 30 (dn_h100 hu) rfl dn_in_X12_paidBy_12 rfl rfl dn_fw_X12_paidBy_57 rfl dX12_paidBy_52 ?_
            refine dt_iload_n X 2 dX12_paidBy_55 rfl rfl ?_
            refine dt_iald X (dn_h115 hu) dX12_paidBy_56 ?_
            refine dt_icmp_lt X 80 dX12_paidBy_57 (by decide) ?_ ?_
            · refine dt_sub X [(0, .ref (dn_a u 100)), (1, .int y1), (2, .int y2), (3, .int y3), (4, .int (dn_b y4)), (5, .int y5), (6, .int y6)] [0, 1, 2, 3, 4, 5, 6] rfl ?_
              exact b_X12_paidBy_80 hu X (m_X12_paidBy_10 n) ih y1 y2 y3 y4 y5 y6 s1
            · refine dt_aload_n X 0 dX12_paidBy_60 rfl rfl ?_
              refine dt_get X (T := TX12) (N := 35) (v := .ref (dn_a u 115)) 30 (dn_h100 hu) rfl dn_in_X12_paidBy_12 rfl rfl dn_fw_X12_paidBy_57 rfl dX12_paidBy_61 ?_
              refine dt_iload_n X 1 dX12_paidBy_64 rfl rfl ?_
              refine dt_iald X (dn_h115 hu) dX12_paidBy_65 ?_
              refine dt_aload_n X 0 dX12_paidBy_66 rfl rfl ?_
              refine dt_get X (T := TX12) (N := 35) (v := .ref (dn_a u 115)) 30 (dn_h100 hu) rfl dn_in_X12_paidBy_12 rfl rfl dn_fw_X12_paidBy_57 rfl dX12_paidBy_67 ?_
              refine dt_iload_n X 2 dX12_paidBy_70 rfl rfl ?_
              refine dt_iald X (dn_h115 hu) dX12_paidBy_71 ?_
              refine dt_icmp_ne X 84 dX12_paidBy_72 (by decide) ?_ ?_
              · refine dt_sub X [(0, .ref (dn_a u 100)), (1, .int y1), (2, .int y2), (3, .int y3), (4, .int (dn_b y4)), (5, .int y5), (6, .int y6)] [0, 1, 2, 3, 4, 5, 6] rfl ?_
                exact b_X12_paidBy_84 hu X (m_X12_paidBy_10 n) ih y1 y2 y3 y4 y5 y6 s1
              · refine dt_iload_n X 1 dX12_paidBy_75 rfl rfl ?_
                refine dt_iload_n X 2 dX12_paidBy_76 rfl rfl ?_
                refine dt_icmp_le X 84 dX12_paidBy_77 (by decide) ?_ ?_
                · refine dt_sub X [(0, .ref (dn_a u 100)), (1, .int y1), (2, .int y2), (3, .int y3), (4, .int (dn_b y4)), (5, .int y5), (6, .int y6)] [0, 1, 2, 3, 4, 5, 6] rfl ?_
                  exact b_X12_paidBy_84 hu X (m_X12_paidBy_10 n) ih y1 y2 y3 y4 y5 y6 s1
                · refine dt_sub X [(0, .ref (dn_a u 100)), (1, .int y1), (2, .int y2), (3, .int y3), (4, .int (dn_b y4)), (5, .int y5), (6, .int y6)] [0, 1, 2, 3, 4, 5, 6] rfl ?_
                  exact b_X12_paidBy_80 hu X (m_X12_paidBy_10 n) ih y1 y2 y3 y4 y5 y6 s1
set_option maxRecDepth 100000 in
set_option maxHeartbeats 4000000 in
theorem c_X12_paidBy (l : Launch) (u : dn_U) (hu : dn_Lu u = dn_LR) (a1 : Int32) (a2 : Int32) (a3 : Int32) (a4 : Bool) (s : dn_S) : dn_Met l u yX12_paidBy wsX12_paidBy 3 73 [.ref (dn_a u 100), .int a1, .int a2, .int a3, .int (dn_b a4)] s (m_X12_paidBy a1 a2 a3 a4 s) (dn_QI u) := by
  refine dt_entry RX12 [(0, .ref (dn_a u 100)), (1, .int a1), (2, .int a2), (3, .int a3), (4, .int (dn_b a4))] (by decide +kernel) rfl rfl rfl rfl (fun g hgl X => ?_)
  subst hgl
  unfold m_X12_paidBy
  refine dt_iconst X (v := 0) dX12_paidBy_0 (by decide) ?_
  refine dt_istore X [(5, .int 0), (0, .ref (dn_a u 100)), (1, .int a1), (2, .int a2), (3, .int a3), (4, .int (dn_b a4))] dX12_paidBy_1 rfl rfl ?_
  refine dt_aload_n X 1 dX12_paidBy_3 rfl rfl ?_
  refine dt_callV X (dn_runV X (T := TX12) (N := 35) [] (dn_h100 hu) rfl rfl (c_X12_tries (dn_la g) u hu s) gX12_paidBy_X12_tries rfl dn_hd_X12_tries rfl rfl rfl rfl dX12_paidBy_4) (fun r3 s1 e2 => ?_)
  refine dt_iconst X (v := 0) dX12_paidBy_7 (by decide) ?_
  refine dt_istore X [(6, .int 0), (5, .int 0), (0, .ref (dn_a u 100)), (1, .int a1), (2, .int a2), (3, .int a3), (4, .int (dn_b a4))] dX12_paidBy_8 rfl rfl ?_
  refine dt_sub X [(0, .ref (dn_a u 100)), (1, .int a1), (2, .int a2), (3, .int a3), (4, .int (dn_b a4)), (5, .int 0), (6, .int 0)] [2, 3, 4, 5, 6, 1, 0] rfl ?_
  exact b_X12_paidBy_10 hu X 2048 a1 a2 a3 a4 0 0 s1
set_option maxRecDepth 100000 in
set_option maxHeartbeats 4000000 in
theorem c_X12_ring (l : Launch) (u : dn_U) (hu : dn_Lu u = dn_LR) (a1 : Int32) (a2 : Int32) (a3 : Int32) (s : dn_S) : dn_Met l u yX12_ring wsX12_ring 4 100 [.ref (dn_a u 100), .int a1, .int a2, .int a3] s (m_X12_ring a1 a2 a3 s) (dn_QI u) := by
  refine dt_entry RX12 [(0, .ref (dn_a u 100)), (1, .int a1), (2, .int a2), (3, .int a3)] (by decide +kernel) rfl rfl rfl rfl (fun g hgl X => ?_)
  subst hgl
  unfold m_X12_ring
  refine dt_aload_n X 0 dX12_ring_0 rfl rfl ?_
  refine dt_iload_n X 1 dX12_ring_1 rfl rfl ?_
  refine dt_callZ X (dn_runV X (T := TX12) (N := 35) [.int a1] (dn_h100 hu) rfl rfl (c_X12_isBidder (dn_la g) u hu a1 s) gX12_ring_X12_isBidder rfl dn_hd_X12_isBidder rfl rfl rfl rfl dX12_ring_2) (fun r3 s1 e2 => ?_)
  refine dt_if_eqb X 33 dX12_ring_5 (by decide) ?_ ?_
  · refine dt_ldc X (v := -1000000) dX12_ring_33 (by decide +kernel) ?_
    exact dt_iret X dX12_ring_35
  · refine dt_aload_n X 0 dX12_ring_8 rfl rfl ?_
    refine dt_iload_n X 2 dX12_ring_9 rfl rfl ?_
    refine dt_callZ X (dn_runV X (T := TX12) (N := 35) [.int a2] (dn_h100 hu) rfl rfl (c_X12_isBidder (dn_la g) u hu a2 s1) gX12_ring_X12_isBidder rfl dn_hd_X12_isBidder rfl rfl rfl rfl dX12_ring_10) (fun r6 s4 e5 => ?_)
    refine dt_if_eqb X 33 dX12_ring_13 (by decide) ?_ ?_
    · refine dt_ldc X (v := -1000000) dX12_ring_33 (by decide +kernel) ?_
      exact dt_iret X dX12_ring_35
    · refine dt_iload_n X 1 dX12_ring_16 rfl rfl ?_
      refine dt_iload_n X 2 dX12_ring_17 rfl rfl ?_
      refine dt_icmp_eq X 33 dX12_ring_18 (by decide) ?_ ?_
      · refine dt_ldc X (v := -1000000) dX12_ring_33 (by decide +kernel) ?_
        exact dt_iret X dX12_ring_35
      · refine dt_iload_n X 3 dX12_ring_21 rfl rfl ?_
        refine dt_i2l X dX12_ring_22 ?_
        refine dt_lconst X (v := 1) dX12_ring_23 (by decide) ?_
        refine dt_ldc2 X (v := 20) dX12_ring_24 (by decide +kernel) ?_
        refine dt_callZ X (dn_runS X [.long ((a3 : Int32).toInt64), .long 1, .long 20] (c_X12_in (dn_la g) u hu ((a3 : Int32).toInt64) 1 20 s4) gX12_ring_X12_in rfl dn_hs_X12_in rfl rfl rfl rfl dX12_ring_27) (fun r9 s7 e8 => ?_)
        refine dt_if_neb X 36 dX12_ring_30 (by decide) ?_ ?_
        · refine dt_aload_n X 0 dX12_ring_36 rfl rfl ?_
          refine dt_iload_n X 1 dX12_ring_37 rfl rfl ?_
          refine dt_iload_n X 2 dX12_ring_38 rfl rfl ?_
          refine dt_iload_n X 3 dX12_ring_39 rfl rfl ?_
          refine dt_iconst X (v := 0) dX12_ring_40 (by decide) ?_
          refine dt_callI X (dn_runV X (T := TX12) (N := 35) [.int a1, .int a2, .int a3, .int 0] (dn_h100 hu) rfl rfl (c_X12_paidBy (dn_la g) u hu a1 a2 a3 false s7) gX12_ring_X12_paidBy rfl dn_hd_X12_paidBy rfl rfl rfl rfl dX12_ring_41) (fun r12 s10 e11 => ?_)
          refine dt_istore X [(4, .int r12), (0, .ref (dn_a u 100)), (1, .int a1), (2, .int a2), (3, .int a3)] dX12_ring_44 rfl rfl ?_
          refine dt_iload X 0 dX12_ring_46 rfl ?_
          refine dt_aload_n X 1 dX12_ring_48 rfl rfl ?_
          refine dt_iload_n X 2 dX12_ring_49 rfl rfl ?_
          refine dt_iload_n X 3 dX12_ring_50 rfl rfl ?_
          refine dt_iload_n X 4 dX12_ring_51 rfl rfl ?_
          refine dt_iconst X (v := 1) dX12_ring_52 (by decide) ?_
          refine dt_callI X (dn_runV X (T := TX12) (N := 35) [.int a1, .int a2, .int a3, .int 1] (dn_h100 hu) rfl rfl (c_X12_paidBy (dn_la g) u hu a1 a2 a3 true s10) gX12_ring_X12_paidBy rfl dn_hd_X12_paidBy rfl rfl rfl rfl dX12_ring_53) (fun r15 s13 e14 => ?_)
          refine dt_isub X dX12_ring_56 ?_
          exact dt_iret X dX12_ring_57
        · refine dt_ldc X (v := -1000000) dX12_ring_33 (by decide +kernel) ?_
          exact dt_iret X dX12_ring_35
set_option maxRecDepth 100000 in
set_option maxHeartbeats 4000000 in
theorem c_X12_found (l : Launch) (u : dn_U) (hu : dn_Lu u = dn_LR) (a1 : Int32) (a2 : Int32) (s : dn_S) : dn_Met l u yX12_found wsX12_found 1 25 [.ref (dn_a u 100), .int a1, .int a2] s (m_X12_found a1 a2 s) (dn_QI u) := by
  refine dt_entry RX12 [(0, .ref (dn_a u 100)), (1, .int a1), (2, .int a2)] (by decide +kernel) rfl rfl rfl rfl (fun g hgl X => ?_)
  subst hgl
  unfold m_X12_found
  refine dt_iload_n X 1 dX12_found_0 rfl rfl ?_
  refine dt_i2l X dX12_found_1 ?_
  refine dt_lconst X (v := 1) dX12_found_2 (by decide) ?_
  refine dt_ldc2 X (v := 8) dX12_found_3 (by decide +kernel) ?_
  refine dt_callZ X (dn_runS X [.long ((a1 : Int32).toInt64), .long 1, .long 8] (c_X12_in (dn_la g) u hu ((a1 : Int32).toInt64) 1 8 s) gX12_found_X12_in rfl dn_hs_X12_in rfl rfl rfl rfl dX12_found_6) (fun r3 s1 e2 => ?_)
  refine dt_if_eqb X 26 dX12_found_9 (by decide) ?_ ?_
  · refine dt_iconst X (v := -1) dX12_found_26 (by decide) ?_
    exact dt_iret X dX12_found_27
  · refine dt_iload_n X 2 dX12_found_12 rfl rfl ?_
    refine dt_i2l X dX12_found_13 ?_
    refine dt_ldc2 X (v := -1) dX12_found_14 (by decide +kernel) ?_
    refine dt_ldc2 X (v := 4) dX12_found_17 (by decide +kernel) ?_
    refine dt_callZ X (dn_runS X [.long ((a2 : Int32).toInt64), .long (-1), .long 4] (c_X12_in (dn_la g) u hu ((a2 : Int32).toInt64) (-1) 4 s1) gX12_found_X12_in rfl dn_hs_X12_in rfl rfl rfl rfl dX12_found_20) (fun r6 s4 e5 => ?_)
    refine dt_if_neb X 28 dX12_found_23 (by decide) ?_ ?_
    · refine dt_aload_n X 0 dX12_found_28 rfl rfl ?_
      refine dt_get X (T := TX12) (N := 35) (v := .int (dn_g s4 100 10)) 10 (dn_h100 hu) rfl dn_in_X12_found_12 rfl rfl dn_fw_X12_found_131 rfl dX12_found_29 ?_
      refine dt_iconst X (v := 5) dX12_found_32 (by decide) ?_
      refine dt_icmp_ne X 39 dX12_found_33 (by decide) ?_ ?_
      · refine dt_aload_n X 0 dX12_found_39 rfl rfl ?_
        refine dt_get X (T := TX12) (N := 35) (v := .ref (dn_a u 107)) 11 (dn_h100 hu) rfl dn_in_X12_found_12 rfl rfl dn_fw_X12_found_33 rfl dX12_found_40 ?_
        refine dt_aload_n X 0 dX12_found_43 rfl rfl ?_
        refine dt_get X (T := TX12) (N := 35) (v := .int (dn_g s4 100 10)) 10 (dn_h100 hu) rfl dn_in_X12_found_12 rfl rfl dn_fw_X12_found_131 rfl dX12_found_44 ?_
        refine dt_iload_n X 1 dX12_found_47 rfl rfl ?_
        refine dt_iast X (dn_h107 hu) dX12_found_48 (fun s7 => ?_)
        refine dt_aload_n X 0 dX12_found_49 rfl rfl ?_
        refine dt_get X (T := TX12) (N := 35) (v := .ref (dn_a u 108)) 12 (dn_h100 hu) rfl dn_in_X12_found_12 rfl rfl dn_fw_X12_found_36 rfl dX12_found_50 ?_
        refine dt_aload_n X 0 dX12_found_53 rfl rfl ?_
        refine dt_get X (T := TX12) (N := 35) (v := .int (dn_g s7 100 10)) 10 (dn_h100 hu) rfl dn_in_X12_found_12 rfl rfl dn_fw_X12_found_131 rfl dX12_found_54 ?_
        refine dt_iload_n X 2 dX12_found_57 rfl rfl ?_
        refine dt_iast X (dn_h108 hu) dX12_found_58 (fun s8 => ?_)
        refine dt_aload_n X 0 dX12_found_59 rfl rfl ?_
        refine dt_dup X dX12_found_60 rfl ?_
        refine dt_get X (T := TX12) (N := 35) (v := .int (dn_g s8 100 10)) 10 (dn_h100 hu) rfl dn_in_X12_found_12 rfl rfl dn_fw_X12_found_131 rfl dX12_found_61 ?_
        refine dt_iconst X (v := 1) dX12_found_64 (by decide) ?_
        refine dt_iadd X dX12_found_65 ?_
        refine dt_put X (T := TX12) (N := 35) 10 (dn_h100 hu) rfl dn_in_X12_found_12 rfl tyX12 tyX12_ok nmX12 rfl rfl dn_fw_X12_found_131 rfl rfl (dn_set100_10 _ _ _) dX12_found_66 (fun s9 => ?_)
        refine dt_aload_n X 0 dX12_found_69 rfl rfl ?_
        refine dt_get X (T := TX12) (N := 35) (v := .int (dn_g s9 100 10)) 10 (dn_h100 hu) rfl dn_in_X12_found_12 rfl rfl dn_fw_X12_found_131 rfl dX12_found_70 ?_
        exact dt_iret X dX12_found_73
      · refine dt_bipush X (v := -3) dX12_found_36 (by decide) ?_
        exact dt_iret X dX12_found_38
    · refine dt_iconst X (v := -1) dX12_found_26 (by decide) ?_
      exact dt_iret X dX12_found_27
