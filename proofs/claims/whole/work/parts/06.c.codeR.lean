set_option maxRecDepth 100000 in
set_option maxHeartbeats 4000000 in
theorem b_X12_bidsOf_148 {g : dn_M} {u : dn_U} (hu : dn_Lu u = dn_LR) (X : dn_X u g cX12_bidsOf wsX12_bidsOf RX12 5 1 24 none) (y1 : Int32) (z0 : Int32) (z1 : Int32) (s : dn_S) : dn_T u g 5 (dn_QV u) (m_X12_bidsOf_148 y1 z0 z1 s) s 148 [(0, .ref (dn_a u 100)), (1, .int y1)] [.int z0, .int z1, .ref (dn_a u 115)] := by
  unfold m_X12_bidsOf_148
  refine dt_iast X (dn_h115 hu) dX12_bidsOf_148 (fun s1 => ?_)
  refine dt_aload_n X 0 dX12_bidsOf_149 rfl rfl ?_
  refine dt_get X (T := TX12) (N := 35) (v := .ref (dn_a u 116)) 31 (dn_h100 hu) rfl dn_in_X12_bidsOf_12 rfl rfl dn_fw_X12_bidsOf_60 rfl dX12_bidsOf_150 ?_
  refine dt_iconst X (v := 4) dX12_bidsOf_153 (by decide) ?_
  refine dt_aload_n X 0 dX12_bidsOf_154 rfl rfl ?_
  refine dt_get X (T := TX12) (N := 35) (v := .ref (dn_a u 101)) 0 (dn_h100 hu) rfl dn_in_X12_bidsOf_12 rfl rfl dn_fw_X12_bidsOf_7 rfl dX12_bidsOf_155 ?_
  refine dt_iload_n X 1 dX12_bidsOf_158 rfl rfl ?_
  refine dt_iconst X (v := 5) dX12_bidsOf_159 (by decide) ?_
  refine dt_iadd X dX12_bidsOf_160 ?_
  refine dt_iald X (dn_h101 hu) dX12_bidsOf_161 ?_
  refine dt_iast X (dn_h116 hu) dX12_bidsOf_162 (fun s2 => ?_)
  exact dt_vret X dX12_bidsOf_163
set_option maxRecDepth 100000 in
set_option maxHeartbeats 4000000 in
theorem b_X12_bidsOf_147 {g : dn_M} {u : dn_U} (hu : dn_Lu u = dn_LR) (X : dn_X u g cX12_bidsOf wsX12_bidsOf RX12 5 1 24 none) (y1 : Int32) (z0 : Int32) (s : dn_S) : dn_T u g 5 (dn_QV u) (m_X12_bidsOf_147 y1 z0 s) s 147 [(0, .ref (dn_a u 100)), (1, .int y1)] [.int z0, .ref (dn_a u 115)] := by
  unfold m_X12_bidsOf_147
  refine dt_iconst X (v := 0) dX12_bidsOf_147 (by decide) ?_
  refine dt_sub X [(0, .ref (dn_a u 100)), (1, .int y1)] [0, 1] rfl ?_
  exact b_X12_bidsOf_148 hu X y1 0 z0 s
set_option maxRecDepth 100000 in
set_option maxHeartbeats 4000000 in
theorem b_X12_bidsOf_98 {g : dn_M} {u : dn_U} (hu : dn_Lu u = dn_LR) (X : dn_X u g cX12_bidsOf wsX12_bidsOf RX12 5 1 24 none) (K2 : Int32 → Int32 → dn_S → Option (Unit × dn_S)) (H2 : ∀ (y1 : Int32) (y2 : Int32) (s : dn_S), dn_T u g 5 (dn_QV u) (K2 y1 y2 s) s 2 [(0, .ref (dn_a u 100)), (1, .int y1), (2, .int y2)] []) (y1 : Int32) (y2 : Int32) (s : dn_S) : dn_T u g 5 (dn_QV u) (m_X12_bidsOf_98 K2 y1 y2 s) s 98 [(0, .ref (dn_a u 100)), (1, .int y1), (2, .int y2)] [] := by
  unfold m_X12_bidsOf_98
  refine dt_iinc X (v := y2 + 1) 2 [(2, .int (y2 + 1)), (0, .ref (dn_a u 100)), (1, .int y1)] dX12_bidsOf_98 rfl (by rfl) rfl rfl ?_
  refine dt_ilet X rfl (fun x1 => ?_)
  refine dt_goto X 2 dX12_bidsOf_101 (by decide) ?_
  refine dt_sub X [(0, .ref (dn_a u 100)), (1, .int y1), (2, .int x1)] [1, 2, 0] rfl ?_
  exact H2 y1 x1 s
set_option maxRecDepth 100000 in
set_option maxHeartbeats 4000000 in
theorem b_X12_bidsOf_92 {g : dn_M} {u : dn_U} (hu : dn_Lu u = dn_LR) (X : dn_X u g cX12_bidsOf wsX12_bidsOf RX12 5 1 24 none) (K2 : Int32 → Int32 → dn_S → Option (Unit × dn_S)) (H2 : ∀ (y1 : Int32) (y2 : Int32) (s : dn_S), dn_T u g 5 (dn_QV u) (K2 y1 y2 s) s 2 [(0, .ref (dn_a u 100)), (1, .int y1), (2, .int y2)] []) (K16 : Int32 → Int32 → Int32 → dn_S → Option (Unit × dn_S)) (H16 : ∀ (y1 : Int32) (y2 : Int32) (y3 : Int32) (s : dn_S), dn_T u g 5 (dn_QV u) (K16 y1 y2 y3 s) s 16 [(0, .ref (dn_a u 100)), (1, .int y1), (2, .int y2), (3, .int y3)] []) (y1 : Int32) (y2 : Int32) (y3 : Int32) (s : dn_S) : dn_T u g 5 (dn_QV u) (m_X12_bidsOf_92 K2 K16 y1 y2 y3 s) s 92 [(0, .ref (dn_a u 100)), (1, .int y1), (2, .int y2), (3, .int y3)] [] := by
  unfold m_X12_bidsOf_92
  refine dt_iinc X (v := y3 + 1) 3 [(3, .int (y3 + 1)), (0, .ref (dn_a u 100)), (1, .int y1), (2, .int y2)] dX12_bidsOf_92 rfl (by rfl) rfl rfl ?_
  refine dt_ilet X rfl (fun x1 => ?_)
  refine dt_goto X 16 dX12_bidsOf_95 (by decide) ?_
  refine dt_sub X [(0, .ref (dn_a u 100)), (1, .int y1), (2, .int y2), (3, .int x1)] [1, 2, 3, 0] rfl ?_
  exact H16 y1 y2 x1 s
set_option maxRecDepth 100000 in
set_option maxHeartbeats 4000000 in
theorem b_X12_bidsOf_16 {g : dn_M} {u : dn_U} (hu : dn_Lu u = dn_LR) (X : dn_X u g cX12_bidsOf wsX12_bidsOf RX12 5 1 24 none) (K2 : Int32 → Int32 → dn_S → Option (Unit × dn_S)) (H2 : ∀ (y1 : Int32) (y2 : Int32) (s : dn_S), dn_T u g 5 (dn_QV u) (K2 y1 y2 s) s 2 [(0, .ref (dn_a u 100)), (1, .int y1), (2, .int y2)] []) : ∀ (n : Nat) (y1 : Int32) (y2 : Int32) (y3 : Int32) (s : dn_S), dn_T u g 5 (dn_QV u) (m_X12_bidsOf_16 K2 n y1 y2 y3 s) s 16 [(0, .ref (dn_a u 100)), (1, .int y1), (2, .int y2), (3, .int y3)] [] := by
  intro n
  induction n with
  | zero =>
    intro y1 y2 y3 s
    exact dt_none X
  | succ n ih =>
    intro y1 y2 y3 s
    rw [m_X12_bidsOf_16]
    refine dt_iload_n X 3 dX12_bidsOf_16 rfl rfl ?_
    refine dt_iconst X (v := 5) dX12_bidsOf_17 (by decide) ?_
    refine dt_icmp_ge X 98 dX12_bidsOf_18 (by decide) ?_ ?_
    · refine dt_sub X [(0, .ref (dn_a u 100)), (1, .int y1), (2, .int y2)] [0, 1, 2] rfl ?_
      exact b_X12_bidsOf_98 hu X K2 H2 y1 y2 s
    · refine dt_iload_n X 2 dX12_bidsOf_21 rfl rfl ?_
      refine dt_aload_n X 0 dX12_bidsOf_22 rfl rfl ?_
      refine dt_get X (T := TX12) (N := 35) (v := .int (dn_g s 100 3)) 3 (dn_h100 hu) rfl dn_in_X12_bidsOf_12 rfl rfl dn_fw_X12_bidsOf_125 rfl dX12_bidsOf_23 ?_
      refine dt_icmp_ge X 98 dX12_bidsOf_26 (by decide) ?_ ?_
      · refine dt_sub X [(0, .ref (dn_a u 100)), (1, .int y1), (2, .int y2)] [0, 1, 2] rfl ?_
        exact b_X12_bidsOf_98 hu X K2 H2 y1 y2 s
      · refine dt_aload_n X 0 dX12_bidsOf_29 rfl rfl ?_
        refine dt_get X (T := TX12) (N := 35) (v := .ref (dn_a u 105)) 6 (dn_h100 hu) rfl dn_in_X12_bidsOf_12 rfl rfl dn_fw_X12_bidsOf_23 rfl dX12_bidsOf_30 ?_
        refine dt_iconst X (v := 5) dX12_bidsOf_33 (by decide) ?_
        refine dt_iload_n X 2 dX12_bidsOf_34 rfl rfl ?_
        refine dt_imul X dX12_bidsOf_35 ?_
        refine dt_iload_n X 3 dX12_bidsOf_36 rfl rfl ?_
        refine dt_iadd X dX12_bidsOf_37 ?_
        refine dt_iald X (dn_h105 hu) dX12_bidsOf_38 ?_
        refine dt_let X (fun x1 => ?_)
        refine dt_istore X [(4, .int x1), (0, .ref (dn_a u 100)), (1, .int y1), (2, .int y2), (3, .int y3)] dX12_bidsOf_39 rfl rfl ?_
        refine dt_iload X 0 dX12_bidsOf_41 rfl ?_
        refine dt_aload_n X 1 dX12_bidsOf_43 rfl rfl ?_
        refine dt_get X (T := TX12) (N := 35) (v := .ref (dn_a u 115)) 30 (dn_h100 hu) rfl dn_in_X12_bidsOf_12 rfl rfl dn_fw_X12_bidsOf_57 rfl dX12_bidsOf_44 ?_
        refine dt_iload_n X 3 dX12_bidsOf_47 rfl rfl ?_
        refine dt_iald X (dn_h115 hu) dX12_bidsOf_48 ?_
        refine dt_icmp_le X 92 dX12_bidsOf_49 (by decide) ?_ ?_
        · refine dt_sub X [(0, .ref (dn_a u 100)), (1, .int y1), (2, .int y2), (3, .int y3)] [1, 2, 3, 4] rfl ?_
          exact b_X12_bidsOf_92 hu X K2 H2 (m_X12_bidsOf_16 K2 n) ih y1 y2 y3 s
        · refine dt_iload X 0 dX12_bidsOf_52 rfl ?_
          refine dt_aload_n X 1 dX12_bidsOf_54 rfl rfl ?_
          refine dt_get X (T := TX12) (N := 35) (v := .ref (dn_a u 101)) 0 (dn_h100 hu) rfl dn_in_X12_bidsOf_12 rfl rfl dn_fw_X12_bidsOf_7 rfl dX12_bidsOf_55 ?_
          refine dt_iload_n X 2 dX12_bidsOf_58 rfl rfl ?_
          refine dt_bipush X (v := 6) dX12_bidsOf_59 (by decide) ?_
          refine dt_iadd X dX12_bidsOf_61 ?_
          refine dt_iload_n X 3 dX12_bidsOf_62 rfl rfl ?_
          refine dt_iadd X dX12_bidsOf_63 ?_
          refine dt_iald X (dn_h101 hu) dX12_bidsOf_64 ?_
          refine dt_icmp_gt X 92 dX12_bidsOf_65 (by decide) ?_ ?_
          · refine dt_sub X [(0, .ref (dn_a u 100)), (1, .int y1), (2, .int y2), (3, .int y3)] [1, 2, 3, 4] rfl ?_
            exact b_X12_bidsOf_92 hu X K2 H2 (m_X12_bidsOf_16 K2 n) ih y1 y2 y3 s
          · refine dt_aload_n X 1 dX12_bidsOf_68 rfl rfl ?_
            refine dt_iload_n X 2 dX12_bidsOf_69 rfl rfl ?_
            refine dt_iload_n X 4 dX12_bidsOf_70 rfl rfl ?_
            refine dt_callZ X (dn_runV X (T := TX12) (N := 35) [.int y1, .int y3] (dn_h100 hu) rfl rfl (c_X12_isBarred (dn_la g) u hu y1 y3 s) gX12_bidsOf_X12_isBarred rfl dn_hd_X12_isBarred rfl rfl rfl rfl dX12_bidsOf_71) (fun r4 s2 e3 => ?_)
            refine dt_if_neb X 92 dX12_bidsOf_74 (by decide) ?_ ?_
            · refine dt_sub X [(0, .ref (dn_a u 100)), (1, .int y1), (2, .int y2), (3, .int y3)] [1, 2, 3, 4] rfl ?_
              exact b_X12_bidsOf_92 hu X K2 H2 (m_X12_bidsOf_16 K2 n) ih y1 y2 y3 s2
            · refine dt_aload_n X 1 dX12_bidsOf_77 rfl rfl ?_
              refine dt_get X (T := TX12) (N := 35) (v := .ref (dn_a u 115)) 30 (dn_h100 hu) rfl dn_in_X12_bidsOf_12 rfl rfl dn_fw_X12_bidsOf_57 rfl dX12_bidsOf_78 ?_
              refine dt_iload_n X 3 dX12_bidsOf_81 rfl rfl ?_
              refine dt_iload X 0 dX12_bidsOf_82 rfl ?_
              refine dt_iast X (dn_h115 hu) dX12_bidsOf_84 (fun s5 => ?_)
              refine dt_aload_n X 1 dX12_bidsOf_85 rfl rfl ?_
              refine dt_get X (T := TX12) (N := 35) (v := .ref (dn_a u 116)) 31 (dn_h100 hu) rfl dn_in_X12_bidsOf_12 rfl rfl dn_fw_X12_bidsOf_60 rfl dX12_bidsOf_86 ?_
              refine dt_iload_n X 3 dX12_bidsOf_89 rfl rfl ?_
              refine dt_iload_n X 4 dX12_bidsOf_90 rfl rfl ?_
              refine dt_iast X (dn_h116 hu) dX12_bidsOf_91 (fun s6 => ?_)
              refine dt_sub X [(0, .ref (dn_a u 100)), (1, .int y1), (2, .int y2), (3, .int y3)] [1, 2, 3, 4] rfl ?_
              exact b_X12_bidsOf_92 hu X K2 H2 (m_X12_bidsOf_16 K2 n) ih y1 y2 y3 s6
set_option maxRecDepth 100000 in
set_option maxHeartbeats 4000000 in
theorem b_X12_bidsOf_2 {g : dn_M} {u : dn_U} (hu : dn_Lu u = dn_LR) (X : dn_X u g cX12_bidsOf wsX12_bidsOf RX12 5 1 24 none) : ∀ (n : Nat) (y1 : Int32) (y2 : Int32) (s : dn_S), dn_T u g 5 (dn_QV u) (m_X12_bidsOf_2 n y1 y2 s) s 2 [(0, .ref (dn_a u 100)), (1, .int y1), (2, .int y2)] [] := by
  intro n
  induction n with
  | zero =>
    intro y1 y2 s
    exact dt_none X
  | succ n ih =>
    intro y1 y2 s
    rw [m_X12_bidsOf_2]
    refine dt_iload_n X 2 dX12_bidsOf_2 rfl rfl ?_
    refine dt_iconst X (v := 4) dX12_bidsOf_3 (by decide) ?_
    refine dt_icmp_ge X 104 dX12_bidsOf_4 (by decide) ?_ ?_
    · refine dt_aload_n X 0 dX12_bidsOf_104 rfl rfl ?_
      refine dt_get X (T := TX12) (N := 35) (v := .ref (dn_a u 115)) 30 (dn_h100 hu) rfl dn_in_X12_bidsOf_12 rfl rfl dn_fw_X12_bidsOf_57 rfl dX12_bidsOf_105 ?_
      refine dt_iconst X (v := 4) dX12_bidsOf_108 (by decide) ?_
      refine dt_aload_n X 0 dX12_bidsOf_109 rfl rfl ?_
      refine dt_get X (T := TX12) (N := 35) (v := .ref (dn_a u 101)) 0 (dn_h100 hu) rfl dn_in_X12_bidsOf_12 rfl rfl dn_fw_X12_bidsOf_7 rfl dX12_bidsOf_110 ?_
      refine dt_iload_n X 1 dX12_bidsOf_113 rfl rfl ?_
      refine dt_iconst X (v := 4) dX12_bidsOf_114 (by decide) ?_
      refine dt_iadd X dX12_bidsOf_115 ?_
      refine dt_iald X (dn_h101 hu) dX12_bidsOf_116 ?_
      refine dt_if_le X 147 dX12_bidsOf_117 (by decide) ?_ ?_
      · refine dt_sub X [(0, .ref (dn_a u 100)), (1, .int y1)] [0, 1] rfl ?_
        exact b_X12_bidsOf_147 hu X y1 4 s
      · refine dt_aload_n X 0 dX12_bidsOf_120 rfl rfl ?_
        refine dt_iload_n X 1 dX12_bidsOf_121 rfl rfl ?_
        refine dt_aload_n X 0 dX12_bidsOf_122 rfl rfl ?_
        refine dt_get X (T := TX12) (N := 35) (v := .ref (dn_a u 101)) 0 (dn_h100 hu) rfl dn_in_X12_bidsOf_12 rfl rfl dn_fw_X12_bidsOf_7 rfl dX12_bidsOf_123 ?_
        refine dt_iload_n X 1 dX12_bidsOf_126 rfl rfl ?_
        refine dt_iconst X (v := 5) dX12_bidsOf_127 (by decide) ?_
        refine dt_iadd X dX12_bidsOf_128 ?_
        refine dt_iald X (dn_h101 hu) dX12_bidsOf_129 ?_
        refine dt_callZ X (dn_runV X (T := TX12) (N := 35) [.int y1, .int (dn_g s 101 (y1 + 5).toNatClampNeg)] (dn_h100 hu) rfl rfl (c_X12_isBarred (dn_la g) u hu y1 (dn_g s 101 (y1 + 5).toNatClampNeg) s) gX12_bidsOf_X12_isBarred rfl dn_hd_X12_isBarred rfl rfl rfl rfl dX12_bidsOf_130) (fun r3 s1 e2 => ?_)
        refine dt_if_neb X 147 dX12_bidsOf_133 (by decide) ?_ ?_
        · refine dt_sub X [(0, .ref (dn_a u 100)), (1, .int y1)] [0, 1] rfl ?_
          exact b_X12_bidsOf_147 hu X y1 4 s1
        · refine dt_aload_n X 0 dX12_bidsOf_136 rfl rfl ?_
          refine dt_get X (T := TX12) (N := 35) (v := .ref (dn_a u 101)) 0 (dn_h100 hu) rfl dn_in_X12_bidsOf_12 rfl rfl dn_fw_X12_bidsOf_7 rfl dX12_bidsOf_137 ?_
          refine dt_iload_n X 1 dX12_bidsOf_140 rfl rfl ?_
          refine dt_iconst X (v := 4) dX12_bidsOf_141 (by decide) ?_
          refine dt_iadd X dX12_bidsOf_142 ?_
          refine dt_iald X (dn_h101 hu) dX12_bidsOf_143 ?_
          refine dt_goto X 148 dX12_bidsOf_144 (by decide) ?_
          refine dt_sub X [(0, .ref (dn_a u 100)), (1, .int y1)] [0, 1] rfl ?_
          exact b_X12_bidsOf_148 hu X y1 (dn_g s1 101 (y1 + 4).toNatClampNeg) 4 s1
    · refine dt_aload_n X 0 dX12_bidsOf_7 rfl rfl ?_
      refine dt_get X (T := TX12) (N := 35) (v := .ref (dn_a u 115)) 30 (dn_h100 hu) rfl dn_in_X12_bidsOf_12 rfl rfl dn_fw_X12_bidsOf_57 rfl dX12_bidsOf_8 ?_
      refine dt_iload_n X 2 dX12_bidsOf_11 rfl rfl ?_
      refine dt_iconst X (v := 0) dX12_bidsOf_12 (by decide) ?_
      refine dt_iast X (dn_h115 hu) dX12_bidsOf_13 (fun s4 => ?_)
      refine dt_iconst X (v := 0) dX12_bidsOf_14 (by decide) ?_
      refine dt_istore_n X [(3, .int 0), (0, .ref (dn_a u 100)), (1, .int y1), (2, .int y2)] dX12_bidsOf_15 rfl rfl rfl ?_
      refine dt_sub X [(0, .ref (dn_a u 100)), (1, .int y1), (2, .int y2), (3, .int 0)] [1, 2, 3, 0] rfl ?_
      exact b_X12_bidsOf_16 hu X (m_X12_bidsOf_2 n) ih 2048 y1 y2 0 s4
set_option maxRecDepth 100000 in
set_option maxHeartbeats 4000000 in
theorem c_X12_bidsOf (l : Launch) (u : dn_U) (hu : dn_Lu u = dn_LR) (a1 : Int32) (s : dn_S) : dn_Met l u yX12_bidsOf wsX12_bidsOf 1 24 [.ref (dn_a u 100), .int a1] s (m_X12_bidsOf a1 s) (dn_QV u) := by
  refine dt_entry RX12 [(0, .ref (dn_a u 100)), (1, .int a1)] (by decide +kernel) rfl rfl rfl rfl (fun g hgl X => ?_)
  subst hgl
  unfold m_X12_bidsOf
    refine dt_iload_n X 2 dX12_bidsOf_2 rfl rfl ?_
    refine dt_iconst X (v := 4) dX12_bidsOf_3 (by decide) ?_
    refine dt_icmp_ge X 104 dX12_bidsOf_4 (by decide) ?_ ?_
    · refine dt_aload_n X 0 dX12_bidsOf_104 rfl rfl ?_
      refine dt_get X (T := TX12) (N := 35) (v := .ref (dn_a u 115)) 30 (dn_h100 hu) rfl dn_in_X12_bidsOf_12 rfl rfl dn_fw_X12_bidsOf_57 rfl dX12_bidsOf_105 ?_
      refine dt_iconst X (v := 4) dX12_bidsOf_108 (by decide) ?_
      refine dt_aload_n X 0 dX12_bidsOf_109 rfl rfl ?_
      refine dt_get X (T := TX12) (N := 35) (v := .ref (dn_a u 101)) 0 (dn_h100 hu) rfl dn_in_X12_bidsOf_12 rfl rfl dn_fw_X12_bidsOf_7 rfl dX12_bidsOf_110 ?_
      refine dt_iload_n X 1 dX12_bidsOf_113 rfl rfl ?_
      refine dt_iconst X (v := 4) dX12_bidsOf_114 (by decide) ?_
      refine dt_iadd X dX12_bidsOf_115 ?_
      refine dt_iald X (dn_h101 hu) dX12_bidsOf_116 ?_
      refine dt_if_le X 147 dX12_bidsOf_117 (by decide) ?_ ?_
      · refine dt_sub X [(0, .ref (dn_a u 100)), (1, .int y1)] [0, 1] rfl ?_
        exact b_X12_bidsOf_147 hu X y1 4 s
      · refine dt_aload_n X 0 dX12_bidsOf_120 rfl rfl ?_
        refine dt_iload_n X 1 dX12_bidsOf_121 rfl rfl ?_
        refine dt_aload_n X 0 dX12_bidsOf_122 rfl rfl ?_
        refine dt_get X (T := TX12) (N := 35) (v := .ref (dn_a u 101)) 0 (dn_h100 hu) rfl dn_in_X12_bidsOf_12 rfl rfl dn_fw_X12_bidsOf_7 rfl dX12_bidsOf_123 ?_
        refine dt_iload_n X 1 dX12_bidsOf_126 rfl rfl ?_
        refine dt_iconst X (v := 5) dX12_bidsOf_127 (by decide) ?_
        refine dt_iadd X dX12_bidsOf_128 ?_
        refine dt_iald X (dn_h101 hu) dX12_bidsOf_129 ?_
        refine dt_callZ X (dn_runV X (T := TX12) (N := 35) [.int y1, .int (dn_g s 101 (y1 + 5).toNatClampNeg)] (dn_h100 hu) rfl rfl (c_X12_isBarred (dn_la g) u hu y1 (dn_g s 101 (y1 + 5).toNatClampNeg) s) gX12_bidsOf_X12_isBarred rfl dn_hd_X12_isBarred rfl rfl rfl rfl dX12_bidsOf_130) (fun r3 s1 e2 => ?_)
        refine dt_if_neb X 147 dX12_bidsOf_133 (by decide) ?_ ?_
        · refine dt_sub X [(0, .ref (dn_a u 100)), (1, .int y1)] [0, 1] rfl ?_
          exact b_X12_bidsOf_147 hu X y1 4 s1
        · refine dt_aload_n X 0 dX12_bidsOf_136 rfl rfl ?_
          refine dt_get X (T := TX12) (N := 35) (v := .ref (dn_a u 101)) 0 (dn_h100 hu) rfl dn_in_X12_bidsOf_12 rfl rfl dn_fw_X12_bidsOf_7 rfl dX12_bidsOf_137 ?_
          refine dt_iload_n X 1 dX12_bidsOf_140 rfl rfl ?_
          refine dt_iconst X (v := 4) dX12_bidsOf_141 (by decide) ?_
          refine dt_iadd X dX12_bidsOf_142 ?_
          refine dt_iald X (dn_h101 hu) dX12_bidsOf_143 ?_
          refine dt_goto X 148 dX12_bidsOf_144 (by decide) ?_
          refine dt_sub X [(0, .ref (dn_a u 100)), (1, .int y1)] [0, 1] rfl ?_
          exact b_X12_bidsOf_148 hu X y1 (dn_g s1 101 (y1 + 4).toNatClampNeg) 4 s1
    · refine dt_aload_n X 0 dX12_bidsOf_7 rfl rfl ?_
      refine dt_get X (T := TX12) (N := 35) (v := .ref (dn_a u 115)) 30 (dn_h100 hu) rfl dn_in_X12_bidsOf_12 rfl rfl dn_fw_X12_bidsOf_57 rfl dX12_bidsOf_8 ?_
      refine dt_iload_n X 2 dX12_bidsOf_11 rfl rfl ?_
      refine dt_iconst X (v := 0) dX12_bidsOf_12 (by decide) ?_
      refine dt_iast X (dn_h115 hu) dX12_bidsOf_13 (fun s4 => ?_)
      refine dt_iconst X (v := 0) dX12_bidsOf_14 (by decide) ?_
      refine dt_istore_n X [(3, .int 0), (0, .ref (dn_a u 100)), (1, .int y1), (2, .int y2)] dX12_bidsOf_15 rfl rfl rfl ?_
      refine dt_sub X [(0, .ref (dn_a u 100)), (1, .int y1), (2, .int y2), (3, .int 0)] [1, 2, 3, 0] rfl ?_
      exact b_X12_bidsOf_16 hu X (m_X12_bidsOf_2 n) ih 2048 y1 y2 0 s4
set_option maxRecDepth 100000 in
set_option maxHeartbeats 4000000 in
theorem b_X12_sells_116 {g : dn_M} {u : dn_U} (hu : dn_Lu u = dn_LR) (X : dn_X u g cX12_sells wsX12_sells RX12 3 0 0 none) (K83 : Int32 → Int32 → dn_S → Option (Unit × dn_S)) (H83 : ∀ (y1 : Int32) (y2 : Int32) (s : dn_S), dn_T u g 3 (dn_QV u) (K83 y1 y2 s) s 83 [(0, .ref (dn_a u 100)), (1, .int y1), (2, .int y2)] []) (y2 : Int32) (z0 : Int32) (s : dn_S) : dn_T u g 3 (dn_QV u) (m_X12_sells_116 K83 y2 z0 s) s 116 [(0, .ref (dn_a u 100)), (2, .int y2)] [.int z0] := by
  unfold m_X12_sells_116
  refine dt_istore_n X [(1, .int z0), (0, .ref (dn_a u 100)), (2, .int y2)] dX12_sells_116 rfl rfl rfl ?_
  refine dt_iinc X (v := y2 + 1) 2 [(2, .int (y2 + 1)), (1, .int z0), (0, .ref (dn_a u 100))] dX12_sells_117 rfl (by rfl) rfl rfl ?_
  refine dt_ilet X rfl (fun x1 => ?_)
  refine dt_goto X 83 dX12_sells_120 (by decide) ?_
  refine dt_sub X [(0, .ref (dn_a u 100)), (1, .int z0), (2, .int x1)] [2, 1, 0] rfl ?_
  exact H83 z0 x1 s
set_option maxRecDepth 100000 in
set_option maxHeartbeats 4000000 in
theorem b_X12_sells_115 {g : dn_M} {u : dn_U} (hu : dn_Lu u = dn_LR) (X : dn_X u g cX12_sells wsX12_sells RX12 3 0 0 none) (K83 : Int32 → Int32 → dn_S → Option (Unit × dn_S)) (H83 : ∀ (y1 : Int32) (y2 : Int32) (s : dn_S), dn_T u g 3 (dn_QV u) (K83 y1 y2 s) s 83 [(0, .ref (dn_a u 100)), (1, .int y1), (2, .int y2)] []) (y1 : Int32) (y2 : Int32) (s : dn_S) : dn_T u g 3 (dn_QV u) (m_X12_sells_115 K83 y1 y2 s) s 115 [(0, .ref (dn_a u 100)), (1, .int y1), (2, .int y2)] [] := by
  unfold m_X12_sells_115
  refine dt_iload_n X 1 dX12_sells_115 rfl rfl ?_
  refine dt_sub X [(0, .ref (dn_a u 100)), (2, .int y2)] [0, 2] rfl ?_
  exact b_X12_sells_116 hu X K83 H83 y2 y1 s
set_option maxRecDepth 100000 in
set_option maxHeartbeats 4000000 in
theorem b_X12_sells_83 {g : dn_M} {u : dn_U} (hu : dn_Lu u = dn_LR) (X : dn_X u g cX12_sells wsX12_sells RX12 3 0 0 none) : ∀ (n : Nat) (y1 : Int32) (y2 : Int32) (s : dn_S), dn_T u g 3 (dn_QV u) (m_X12_sells_83 n y1 y2 s) s 83 [(0, .ref (dn_a u 100)), (1, .int y1), (2, .int y2)] [] := by
  intro n
  induction n with
  | zero =>
    intro y1 y2 s
    exact dt_none X
  | succ n ih =>
    intro y1 y2 s
    rw [m_X12_sells_83]
    refine dt_iload_n X 2 dX12_sells_83 rfl rfl ?_
    refine dt_iconst X (v := 5) dX12_sells_84 (by decide) ?_
    refine dt_icmp_ge X 123 dX12_sells_85 (by decide) ?_ ?_
    · refine dt_aload_n X 0 dX12_sells_123 rfl rfl ?_
      refine dt_iload_n X 1 dX12_sells_124 rfl rfl ?_
      refine dt_iconst X (v := 1) dX12_sells_125 (by decide) ?_
      refine dt_iadd X dX12_sells_126 ?_
      refine dt_aload_n X 0 dX12_sells_127 rfl rfl ?_
      refine dt_get X (T := TX12) (N := 35) (v := .int (dn_g s 100 34)) 34 (dn_h100 hu) rfl dn_in_X12_sells_12 rfl rfl dn_fw_X12_sells_168 rfl dX12_sells_128 ?_
      refine dt_icmp_le X 141 dX12_sells_131 (by decide) ?_ ?_
      · refine dt_iload_n X 1 dX12_sells_141 rfl rfl ?_
        refine dt_iconst X (v := 1) dX12_sells_142 (by decide) ?_
        refine dt_iadd X dX12_sells_143 ?_
        refine dt_put X (T := TX12) (N := 35) 33 (dn_h100 hu) rfl dn_in_X12_sells_12 rfl tyX12 tyX12_ok nmX12 rfl rfl dn_fw_X12_sells_171 rfl rfl (dn_set100_33 _ _ _) dX12_sells_144 (fun s1 => ?_)
        exact dt_vret X dX12_sells_147
      · refine dt_aload_n X 0 dX12_sells_134 rfl rfl ?_
        refine dt_get X (T := TX12) (N := 35) (v := .int (dn_g s 100 34)) 34 (dn_h100 hu) rfl dn_in_X12_sells_12 rfl rfl dn_fw_X12_sells_168 rfl dX12_sells_135 ?_
        refine dt_goto X 144 dX12_sells_138 (by decide) ?_
        refine dt_put X (T := TX12) (N := 35) 33 (dn_h100 hu) rfl dn_in_X12_sells_12 rfl tyX12 tyX12_ok nmX12 rfl rfl dn_fw_X12_sells_171 rfl rfl (dn_set100_33 _ _ _) dX12_sells_144 (fun s2 => ?_)
        exact dt_vret X dX12_sells_147
    · refine dt_iload_n X 2 dX12_sells_88 rfl rfl ?_
      refine dt_aload_n X 0 dX12_sells_89 rfl rfl ?_
      refine dt_get X (T := TX12) (N := 35) (v := .int (dn_g s 100 32)) 32 (dn_h100 hu) rfl dn_in_X12_sells_12 rfl rfl dn_fw_X12_sells_165 rfl dX12_sells_90 ?_
      refine dt_icmp_eq X 115 dX12_sells_93 (by decide) ?_ ?_
      · refine dt_sub X [(0, .ref (dn_a u 100)), (1, .int y1), (2, .int y2)] [0, 1, 2] rfl ?_
        exact b_X12_sells_115 hu X (m_X12_sells_83 n) ih y1 y2 s
      · refine dt_aload_n X 0 dX12_sells_96 rfl rfl ?_
        refine dt_get X (T := TX12) (N := 35) (v := .ref (dn_a u 115)) 30 (dn_h100 hu) rfl dn_in_X12_sells_12 rfl rfl dn_fw_X12_sells_57 rfl dX12_sells_97 ?_
        refine dt_iload_n X 2 dX12_sells_100 rfl rfl ?_
        refine dt_iald X (dn_h115 hu) dX12_sells_101 ?_
        refine dt_iload_n X 1 dX12_sells_102 rfl rfl ?_
        refine dt_icmp_le X 115 dX12_sells_103 (by decide) ?_ ?_
        · refine dt_sub X [(0, .ref (dn_a u 100)), (1, .int y1), (2, .int y2)] [0, 1, 2] rfl ?_
          exact b_X12_sells_115 hu X (m_X12_sells_83 n) ih y1 y2 s
        · refine dt_aload_n X 0 dX12_sells_106 rfl rfl ?_
          refine dt_get X (T := TX12) (N := 35) (v := .ref (dn_a u 115)) 30 (dn_h100 hu) rfl dn_in_X12_sells_12 rfl rfl dn_fw_X12_sells_57 rfl dX12_sells_107 ?_
          refine dt_iload_n X 2 dX12_sells_110 rfl rfl ?_
          refine dt_iald X (dn_h115 hu) dX12_sells_111 ?_
          refine dt_goto X 116 dX12_sells_112 (by decide) ?_
          refine dt_sub X [(0, .ref (dn_a u 100)), (2, .int y2)] [0, 2] rfl ?_
          exact b_X12_sells_116 hu X (m_X12_sells_83 n) ih y2 (dn_g s 115 y2.toNatClampNeg) s
set_option maxRecDepth 100000 in
set_option maxHeartbeats 4000000 in
theorem b_X12_sells_70 {g : dn_M} {u : dn_U} (hu : dn_Lu u = dn_LR) (X : dn_X u g cX12_sells wsX12_sells RX12 3 0 0 none) (K13 : Int32 → dn_S → Option (Unit × dn_S)) (H13 : ∀ (y1 : Int32) (s : dn_S), dn_T u g 3 (dn_QV u) (K13 y1 s) s 13 [(0, .ref (dn_a u 100)), (1, .int y1)] []) (y1 : Int32) (z0 : Int32) (s : dn_S) : dn_T u g 3 (dn_QV u) (m_X12_sells_70 K13 y1 z0 s) s 70 [(0, .ref (dn_a u 100)), (1, .int y1)] [.int z0, .ref (dn_a u 100)] := by
  unfold m_X12_sells_70
  refine dt_put X (T := TX12) (N := 35) 34 (dn_h100 hu) rfl dn_in_X12_sells_12 rfl tyX12 tyX12_ok nmX12 rfl rfl dn_fw_X12_sells_168 rfl rfl (dn_set100_34 _ _ _) dX12_sells_70 (fun s1 => ?_)
  refine dt_iinc X (v := y1 + 1) 1 [(1, .int (y1 + 1)), (0, .ref (dn_a u 100))] dX12_sells_73 rfl (by rfl) rfl rfl ?_
  refine dt_ilet X rfl (fun x2 => ?_)
  refine dt_goto X 13 dX12_sells_76 (by decide) ?_
  refine dt_sub X [(0, .ref (dn_a u 100)), (1, .int x2)] [1, 0] rfl ?_
  exact H13 x2 s1
set_option maxRecDepth 100000 in
set_option maxHeartbeats 4000000 in
theorem b_X12_sells_40 {g : dn_M} {u : dn_U} (hu : dn_Lu u = dn_LR) (X : dn_X u g cX12_sells wsX12_sells RX12 3 0 0 none) (K13 : Int32 → dn_S → Option (Unit × dn_S)) (H13 : ∀ (y1 : Int32) (s : dn_S), dn_T u g 3 (dn_QV u) (K13 y1 s) s 13 [(0, .ref (dn_a u 100)), (1, .int y1)] []) (y1 : Int32) (z0 : Int32) (s : dn_S) : dn_T u g 3 (dn_QV u) (m_X12_sells_40 K13 y1 z0 s) s 40 [(0, .ref (dn_a u 100)), (1, .int y1)] [.int z0, .ref (dn_a u 100)] := by
  unfold m_X12_sells_40
  refine dt_put X (T := TX12) (N := 35) 32 (dn_h100 hu) rfl dn_in_X12_sells_12 rfl tyX12 tyX12_ok nmX12 rfl rfl dn_fw_X12_sells_165 rfl rfl (dn_set100_32 _ _ _) dX12_sells_40 (fun s1 => ?_)
  refine dt_aload_n X 0 dX12_sells_43 rfl rfl ?_
  refine dt_aload_n X 0 dX12_sells_44 rfl rfl ?_
  refine dt_get X (T := TX12) (N := 35) (v := .ref (dn_a u 115)) 30 (dn_h100 hu) rfl dn_in_X12_sells_12 rfl rfl dn_fw_X12_sells_57 rfl dX12_sells_45 ?_
  refine dt_iload_n X 1 dX12_sells_48 rfl rfl ?_
  refine dt_iald X (dn_h115 hu) dX12_sells_49 ?_
  refine dt_aload_n X 0 dX12_sells_50 rfl rfl ?_
  refine dt_get X (T := TX12) (N := 35) (v := .int (dn_g s1 100 34)) 34 (dn_h100 hu) rfl dn_in_X12_sells_12 rfl rfl dn_fw_X12_sells_168 rfl dX12_sells_51 ?_
  refine dt_icmp_le X 66 dX12_sells_54 (by decide) ?_ ?_
  · refine dt_aload_n X 0 dX12_sells_66 rfl rfl ?_
    refine dt_get X (T := TX12) (N := 35) (v := .int (dn_g s1 100 34)) 34 (dn_h100 hu) rfl dn_in_X12_sells_12 rfl rfl dn_fw_X12_sells_168 rfl dX12_sells_67 ?_
    refine dt_sub X [(0, .ref (dn_a u 100)), (1, .int y1)] [0, 1] rfl ?_
    exact b_X12_sells_70 hu X K13 H13 y1 (dn_g s1 100 34) s1
  · refine dt_aload_n X 0 dX12_sells_57 rfl rfl ?_
    refine dt_get X (T := TX12) (N := 35) (v := .ref (dn_a u 115)) 30 (dn_h100 hu) rfl dn_in_X12_sells_12 rfl rfl dn_fw_X12_sells_57 rfl dX12_sells_58 ?_
    refine dt_iload_n X 1 dX12_sells_61 rfl rfl ?_
    refine dt_iald X (dn_h115 hu) dX12_sells_62 ?_
    refine dt_goto X 70 dX12_sells_63 (by decide) ?_
    refine dt_sub X [(0, .ref (dn_a u 100)), (1, .int y1)] [0, 1] rfl ?_
    exact b_X12_sells_70 hu X K13 H13 y1 (dn_g s1 115 y1.toNatClampNeg) s1
set_option maxRecDepth 100000 in
set_option maxHeartbeats 4000000 in
theorem b_X12_sells_13 {g : dn_M} {u : dn_U} (hu : dn_Lu u = dn_LR) (X : dn_X u g cX12_sells wsX12_sells RX12 3 0 0 none) : ∀ (n : Nat) (y1 : Int32) (s : dn_S), dn_T u g 3 (dn_QV u) (m_X12_sells_13 n y1 s) s 13 [(0, .ref (dn_a u 100)), (1, .int y1)] [] := by
  intro n
  induction n with
  | zero =>
    intro y1 s
    exact dt_none X
  | succ n ih =>
    intro y1 s
    rw [m_X12_sells_13]
    refine dt_iload_n X 1 dX12_sells_13 rfl rfl ?_
    refine dt_iconst X (v := 5) dX12_sells_14 (by decide) ?_
    refine dt_icmp_ge X 79 dX12_sells_15 (by decide) ?_ ?_
    · refine dt_iconst X (v := 0) dX12_sells_79 (by decide) ?_
      refine dt_istore_n X [(1, .int 0), (0, .ref (dn_a u 100))] dX12_sells_80 rfl rfl rfl ?_
      refine dt_iconst X (v := 0) dX12_sells_81 (by decide) ?_
      refine dt_istore_n X [(2, .int 0), (1, .int 0), (0, .ref (dn_a u 100))] dX12_sells_82 rfl rfl rfl ?_
      refine dt_sub X [(0, .ref (dn_a u 100)), (1, .int 0), (2, .int 0)] [2, 1, 0] rfl ?_
      exact b_X12_sells_83 hu X 2048 0 0 s
    · refine dt_aload_n X 0 dX12_sells_18 rfl rfl ?_
      refine dt_aload_n X 0 dX12_sells_19 rfl rfl ?_
      refine dt_get X (T := TX12) (N := 35) (v := .ref (dn_a u 115)) 30 (dn_h100 hu) rfl dn_in_X12_sells_12 rfl rfl dn_fw_X12_sells_57 rfl dX12_sells_20 ?_
      refine dt_iload_n X 1 dX12_sells_23 rfl rfl ?_
      refine dt_iald X (dn_h115 hu) dX12_sells_24 ?_
      refine dt_aload_n X 0 dX12_sells_25 rfl rfl ?_
      refine dt_get X (T := TX12) (N := 35) (v := .int (dn_g s 100 34)) 34 (dn_h100 hu) rfl dn_in_X12_sells_12 rfl rfl dn_fw_X12_sells_168 rfl dX12_sells_26 ?_
      refine dt_icmp_le X 36 dX12_sells_29 (by decide) ?_ ?_
      · refine dt_aload_n X 0 dX12_sells_36 rfl rfl ?_
        refine dt_get X (T := TX12) (N := 35) (v := .int (dn_g s 100 32)) 32 (dn_h100 hu) rfl dn_in_X12_sells_12 rfl rfl dn_fw_X12_sells_165 rfl dX12_sells_37 ?_
        refine dt_sub X [(0, .ref (dn_a u 100)), (1, .int y1)] [0, 1] rfl ?_
        exact b_X12_sells_40 hu X (m_X12_sells_13 n) ih y1 (dn_g s 100 32) s
      · refine dt_iload_n X 1 dX12_sells_32 rfl rfl ?_
        refine dt_goto X 40 dX12_sells_33 (by decide) ?_
        refine dt_sub X [(0, .ref (dn_a u 100)), (1, .int y1)] [0, 1] rfl ?_
        exact b_X12_sells_40 hu X (m_X12_sells_13 n) ih y1 y1 s
set_option maxRecDepth 100000 in
set_option maxHeartbeats 4000000 in
theorem c_X12_sells (l : Launch) (u : dn_U) (hu : dn_Lu u = dn_LR) (s : dn_S) : dn_Met l u yX12_sells wsX12_sells 0 0 [.ref (dn_a u 100)] s (m_X12_sells  s) (dn_QV u) := by
  refine dt_entry RX12 [(0, .ref (dn_a u 100))] (by decide +kernel) rfl rfl rfl rfl (fun g hgl X => ?_)
  subst hgl
  unfold m_X12_sells
    refine dt_iload_n X 1 dX12_sells_13 rfl rfl ?_
    refine dt_iconst X (v := 5) dX12_sells_14 (by decide) ?_
    refine dt_icmp_ge X 79 dX12_sells_15 (by decide) ?_ ?_
    · refine dt_iconst X (v := 0) dX12_sells_79 (by decide) ?_
      refine dt_istore_n X [(1, .int 0), (0, .ref (dn_a u 100))] dX12_sells_80 rfl rfl rfl ?_
      refine dt_iconst X (v := 0) dX12_sells_81 (by decide) ?_
      refine dt_istore_n X [(2, .int 0), (1, .int 0), (0, .ref (dn_a u 100))] dX12_sells_82 rfl rfl rfl ?_
      refine dt_sub X [(0, .ref (dn_a u 100)), (1, .int 0), (2, .int 0)] [2, 1, 0] rfl ?_
      exact b_X12_sells_83 hu X 2048 0 0 s
    · refine dt_aload_n X 0 dX12_sells_18 rfl rfl ?_
      refine dt_aload_n X 0 dX12_sells_19 rfl rfl ?_
      refine dt_get X (T := TX12) (N := 35) (v := .ref (dn_a u 115)) 30 (dn_h100 hu) rfl dn_in_X12_sells_12 rfl rfl dn_fw_X12_sells_57 rfl dX12_sells_20 ?_
      refine dt_iload_n X 1 dX12_sells_23 rfl rfl ?_
      refine dt_iald X (dn_h115 hu) dX12_sells_24 ?_
      refine dt_aload_n X 0 dX12_sells_25 rfl rfl ?_
      refine dt_get X (T := TX12) (N := 35) (v := .int (dn_g s 100 34)) 34 (dn_h100 hu) rfl dn_in_X12_sells_12 rfl rfl dn_fw_X12_sells_168 rfl dX12_sells_26 ?_
      refine dt_icmp_le X 36 dX12_sells_29 (by decide) ?_ ?_
      · refine dt_aload_n X 0 dX12_sells_36 rfl rfl ?_
        refine dt_get X (T := TX12) (N := 35) (v := .int (dn_g s 100 32)) 32 (dn_h100 hu) rfl dn_in_X12_sells_12 rfl rfl dn_fw_X12_sells_165 rfl dX12_sells_37 ?_
        refine dt_sub X [(0, .ref (dn_a u 100)), (1, .int y1)] [0, 1] rfl ?_
        exact b_X12_sells_40 hu X (m_X12_sells_13 n) ih y1 (dn_g s 100 32) s
      · refine dt_iload_n X 1 dX12_sells_32 rfl rfl ?_
        refine dt_goto X 40 dX12_sells_33 (by decide) ?_
        refine dt_sub X [(0, .ref (dn_a u 100)), (1, .int y1)] [0, 1] rfl ?_
        exact b_X12_sells_40 hu X (m_X12_sells_13 n) ih y1 y1 s
set_option maxRecDepth 100000 in
set_option maxHeartbeats 4000000 in
theorem b_X12_comes_283 {g : dn_M} {u : dn_U} (hu : dn_Lu u = dn_LR) (X : dn_X u g cX12_comes wsX12_comes RX12 8 1 24 none) (K77 : Int32 → Int32 → Int32 → Int32 → dn_S → Option (Unit × dn_S)) (H77 : ∀ (y1 : Int32) (y2 : Int32) (y3 : Int32) (y4 : Int32) (s : dn_S), dn_T u g 8 (dn_QV u) (K77 y1 y2 y3 y4 s) s 77 [(0, .ref (dn_a u 100)), (1, .int y1), (2, .int y2), (3, .int y3), (4, .int y4)] []) (y1 : Int32) (y2 : Int32) (y3 : Int32) (y4 : Int32) (s : dn_S) : dn_T u g 8 (dn_QV u) (m_X12_comes_283 K77 y1 y2 y3 y4 s) s 283 [(0, .ref (dn_a u 100)), (1, .int y1), (2, .int y2), (3, .int y3), (4, .int y4)] [] := by
  unfold m_X12_comes_283
  refine dt_iinc X (v := y4 + 1) 4 [(4, .int (y4 + 1)), (0, .ref (dn_a u 100)), (1, .int y1), (2, .int y2), (3, .int y3)] dX12_comes_283 rfl (by rfl) rfl rfl ?_
  refine dt_ilet X rfl (fun x1 => ?_)
  refine dt_goto X 77 dX12_comes_286 (by decide) ?_
  refine dt_sub X [(0, .ref (dn_a u 100)), (1, .int y1), (2, .int y2), (3, .int y3), (4, .int x1)] [1, 2, 3, 4, 0] rfl ?_
  exact H77 y1 y2 y3 x1 s
set_option maxRecDepth 100000 in
set_option maxHeartbeats 4000000 in
theorem b_X12_comes_281 {g : dn_M} {u : dn_U} (hu : dn_Lu u = dn_LR) (X : dn_X u g cX12_comes wsX12_comes RX12 8 1 24 none) (K77 : Int32 → Int32 → Int32 → Int32 → dn_S → Option (Unit × dn_S)) (H77 : ∀ (y1 : Int32) (y2 : Int32) (y3 : Int32) (y4 : Int32) (s : dn_S), dn_T u g 8 (dn_QV u) (K77 y1 y2 y3 y4 s) s 77 [(0, .ref (dn_a u 100)), (1, .int y1), (2, .int y2), (3, .int y3), (4, .int y4)] []) (y1 : Int32) (y2 : Int32) (y3 : Int32) (y4 : Int32) (z0 : Int32) (z1 : Int32) (z2 : Int32) (s : dn_S) : dn_T u g 8 (dn_QV u) (m_X12_comes_281 K77 y1 y2 y3 y4 z0 z1 z2 s) s 281 [(0, .ref (dn_a u 100)), (1, .int y1), (2, .int y2), (3, .int y3), (4, .int y4)] [.int z0, .int z1, .int z2, .ref (dn_a u 101)] := by
  unfold m_X12_comes_281
  refine dt_iadd X dX12_comes_281 ?_
  refine dt_iast X (dn_h101 hu) dX12_comes_282 (fun s1 => ?_)
  refine dt_sub X [(0, .ref (dn_a u 100)), (1, .int y1), (2, .int y2), (3, .int y3), (4, .int y4)] [0, 1, 2, 3, 4] rfl ?_
  exact b_X12_comes_283 hu X K77 H77 y1 y2 y3 y4 s1
set_option maxRecDepth 100000 in
set_option maxHeartbeats 4000000 in
theorem b_X12_comes_246 {g : dn_M} {u : dn_U} (hu : dn_Lu u = dn_LR) (X : dn_X u g cX12_comes wsX12_comes RX12 8 1 24 none) (K77 : Int32 → Int32 → Int32 → Int32 → dn_S → Option (Unit × dn_S)) (H77 : ∀ (y1 : Int32) (y2 : Int32) (y3 : Int32) (y4 : Int32) (s : dn_S), dn_T u g 8 (dn_QV u) (K77 y1 y2 y3 y4 s) s 77 [(0, .ref (dn_a u 100)), (1, .int y1), (2, .int y2), (3, .int y3), (4, .int y4)] []) (y1 : Int32) (y2 : Int32) (y3 : Int32) (y4 : Int32) (y6 : Int32) (y7 : Bool) (z0 : Int32) (z1 : Int32) (z2 : Int32) (s : dn_S) : dn_T u g 8 (dn_QV u) (m_X12_comes_246 K77 y1 y2 y3 y4 y6 y7 z0 z1 z2 s) s 246 [(0, .ref (dn_a u 100)), (1, .int y1), (2, .int y2), (3, .int y3), (4, .int y4), (6, .int y6), (7, .int (dn_b y7))] [.int z0, .int z1, .int z2, .ref (dn_a u 101)] := by
  unfold m_X12_comes_246
  refine dt_isub X dX12_comes_246 ?_
  refine dt_iast X (dn_h101 hu) dX12_comes_247 (fun s1 => ?_)
  refine dt_aload_n X 0 dX12_comes_248 rfl rfl ?_
  refine dt_get X (T := TX12) (N := 35) (v := .ref (dn_a u 101)) 0 (dn_h100 hu) rfl dn_in_X12_comes_12 rfl rfl dn_fw_X12_comes_7 rfl dX12_comes_249 ?_
  refine dt_iload_n X 1 dX12_comes_252 rfl rfl ?_
  refine dt_bipush X (v := 6) dX12_comes_253 (by decide) ?_
  refine dt_iadd X dX12_comes_255 ?_
  refine dt_aload_n X 0 dX12_comes_256 rfl rfl ?_
  refine dt_get X (T := TX12) (N := 35) (v := .ref (dn_a u 106)) 9 (dn_h100 hu) rfl dn_in_X12_comes_12 rfl rfl dn_fw_X12_comes_30 rfl dX12_comes_257 ?_
  refine dt_iconst X (v := 5) dX12_comes_260 (by decide) ?_
  refine dt_iload X 4 dX12_comes_261 rfl ?_
  refine dt_imul X dX12_comes_263 ?_
  refine dt_iconst X (v := 1) dX12_comes_264 (by decide) ?_
  refine dt_iadd X dX12_comes_265 ?_
  refine dt_iald X (dn_h106 hu) dX12_comes_266 ?_
  refine dt_iadd X dX12_comes_267 ?_
  refine dt_dup2 X dX12_comes_268 rfl rfl ?_
  refine dt_iald X (dn_h101 hu) dX12_comes_269 ?_
  refine dt_iload X 6 dX12_comes_270 rfl ?_
  refine dt_if_eqb X 280 dX12_comes_272 (by decide) ?_ ?_
  · refine dt_iconst X (v := 0) dX12_comes_280 (by decide) ?_
    refine dt_sub X [(0, .ref (dn_a u 100)), (1, .int y1), (2, .int y2), (3, .int y3), (4, .int y4)] [0, 1, 2, 3, 4] rfl ?_
    exact b_X12_comes_281 hu X K77 H77 y1 y2 y3 y4 0 (dn_g s1 101 ((y1 + 6) + (dn_g s1 106 ((5 * y4) + 1).toNatClampNeg)).toNatClampNeg) ((y1 + 6) + (dn_g s1 106 ((5 * y4) + 1).toNatClampNeg)) s1
  · refine dt_iload X 5 dX12_comes_275 rfl ?_
    refine dt_goto X 281 dX12_comes_277 (by decide) ?_
    refine dt_sub X [(0, .ref (dn_a u 100)), (1, .int y1), (2, .int y2), (3, .int y3), (4, .int y4)] [0, 1, 2, 3, 4] rfl ?_
    exact b_X12_comes_281 hu X K77 H77 y1 y2 y3 y4 y6 (dn_g s1 101 ((y1 + 6) + (dn_g s1 106 ((5 * y4) + 1).toNatClampNeg)).toNatClampNeg) ((y1 + 6) + (dn_g s1 106 ((5 * y4) + 1).toNatClampNeg)) s1
set_option maxRecDepth 100000 in
set_option maxHeartbeats 4000000 in
theorem b_X12_comes_220 {g : dn_M} {u : dn_U} (hu : dn_Lu u = dn_LR) (X : dn_X u g cX12_comes wsX12_comes RX12 8 1 24 none) (K77 : Int32 → Int32 → Int32 → Int32 → dn_S → Option (Unit × dn_S)) (H77 : ∀ (y1 : Int32) (y2 : Int32) (y3 : Int32) (y4 : Int32) (s : dn_S), dn_T u g 8 (dn_QV u) (K77 y1 y2 y3 y4 s) s 77 [(0, .ref (dn_a u 100)), (1, .int y1), (2, .int y2), (3, .int y3), (4, .int y4)] []) (y1 : Int32) (y2 : Int32) (y3 : Int32) (y4 : Int32) (y5 : Int32) (y6 : Int32) (y7 : Bool) (z0 : Bool) (z1 : Int32) (z2 : Int32) (s : dn_S) : dn_T u g 8 (dn_QV u) (m_X12_comes_220 K77 y1 y2 y3 y4 y5 y6 y7 z0 z1 z2 s) s 220 [(0, .ref (dn_a u 100)), (1, .int y1), (2, .int y2), (3, .int y3), (4, .int y4), (5, .int y5), (6, .int y6), (7, .int (dn_b y7))] [.int (dn_b z0), .int z1, .int z2, .ref (dn_a u 101)] := by
  unfold m_X12_comes_220
  refine dt_iadd X dX12_comes_220 ?_
  refine dt_iast X (dn_h101 hu) dX12_comes_221 (fun s1 => ?_)
  refine dt_aload_n X 0 dX12_comes_222 rfl rfl ?_
  refine dt_get X (T := TX12) (N := 35) (v := .ref (dn_a u 101)) 0 (dn_h100 hu) rfl dn_in_X12_comes_12 rfl rfl dn_fw_X12_comes_7 rfl dX12_comes_223 ?_
  refine dt_iload_n X 1 dX12_comes_226 rfl rfl ?_
  refine dt_bipush X (v := 6) dX12_comes_227 (by decide) ?_
  refine dt_iadd X dX12_comes_229 ?_
  refine dt_iload X 5 dX12_comes_230 rfl ?_
  refine dt_iadd X dX12_comes_232 ?_
  refine dt_dup2 X dX12_comes_233 rfl rfl ?_
  refine dt_iald X (dn_h101 hu) dX12_comes_234 ?_
  refine dt_iload X 7 dX12_comes_235 rfl ?_
  refine dt_if_eqb X 245 dX12_comes_237 (by decide) ?_ ?_
  · refine dt_iconst X (v := 0) dX12_comes_245 (by decide) ?_
    refine dt_sub X [(0, .ref (dn_a u 100)), (1, .int y1), (2, .int y2), (3, .int y3), (4, .int y4), (6, .int y6), (7, .int (dn_b y7))] [0, 1, 2, 3, 4, 6, 7] rfl ?_
    exact b_X12_comes_246 hu X K77 H77 y1 y2 y3 y4 y6 y7 0 (dn_g s1 101 ((y1 + 6) + y5).toNatClampNeg) ((y1 + 6) + y5) s1
  · refine dt_iload X 6 dX12_comes_240 rfl ?_
    refine dt_goto X 246 dX12_comes_242 (by decide) ?_
    refine dt_sub X [(0, .ref (dn_a u 100)), (1, .int y1), (2, .int y2), (3, .int y3), (4, .int y4), (6, .int y6), (7, .int (dn_b y7))] [0, 1, 2, 3, 4, 6, 7] rfl ?_
    exact b_X12_comes_246 hu X K77 H77 y1 y2 y3 y4 y6 y7 y6 (dn_g s1 101 ((y1 + 6) + y5).toNatClampNeg) ((y1 + 6) + y5) s1
set_option maxRecDepth 100000 in
set_option maxHeartbeats 4000000 in
theorem b_X12_comes_200 {g : dn_M} {u : dn_U} (hu : dn_Lu u = dn_LR) (X : dn_X u g cX12_comes wsX12_comes RX12 8 1 24 none) (K77 : Int32 → Int32 → Int32 → Int32 → dn_S → Option (Unit × dn_S)) (H77 : ∀ (y1 : Int32) (y2 : Int32) (y3 : Int32) (y4 : Int32) (s : dn_S), dn_T u g 8 (dn_QV u) (K77 y1 y2 y3 y4 s) s 77 [(0, .ref (dn_a u 100)), (1, .int y1), (2, .int y2), (3, .int y3), (4, .int y4)] []) (y1 : Int32) (y2 : Int32) (y3 : Int32) (y4 : Int32) (y5 : Int32) (y6 : Int32) (y7 : Bool) (z0 : Int32) (z1 : Int32) (s : dn_S) : dn_T u g 8 (dn_QV u) (m_X12_comes_200 K77 y1 y2 y3 y4 y5 y6 y7 z0 z1 s) s 200 [(0, .ref (dn_a u 100)), (1, .int y1), (2, .int y2), (3, .int y3), (4, .int y4), (5, .int y5), (6, .int y6), (7, .int (dn_b y7))] [.int z0, .int z1, .ref (dn_a u 101)] := by
  unfold m_X12_comes_200
  refine dt_iast X (dn_h101 hu) dX12_comes_200 (fun s1 => ?_)
  refine dt_aload_n X 0 dX12_comes_201 rfl rfl ?_
  refine dt_get X (T := TX12) (N := 35) (v := .ref (dn_a u 101)) 0 (dn_h100 hu) rfl dn_in_X12_comes_12 rfl rfl dn_fw_X12_comes_7 rfl dX12_comes_202 ?_
  refine dt_iload_n X 1 dX12_comes_205 rfl rfl ?_
  refine dt_iconst X (v := 3) dX12_comes_206 (by decide) ?_
  refine dt_iadd X dX12_comes_207 ?_
  refine dt_dup2 X dX12_comes_208 rfl rfl ?_
  refine dt_iald X (dn_h101 hu) dX12_comes_209 ?_
  refine dt_iload X 7 dX12_comes_210 rfl ?_
  refine dt_if_eqb X 219 dX12_comes_212 (by decide) ?_ ?_
  · refine dt_iconst X (v := 1) dX12_comes_219 (by decide) ?_
    refine dt_sub X [(0, .ref (dn_a u 100)), (1, .int y1), (2, .int y2), (3, .int y3), (4, .int y4), (5, .int y5), (6, .int y6), (7, .int (dn_b y7))] [0, 1, 2, 3, 4, 5, 6, 7] rfl ?_
    exact b_X12_comes_220 hu X K77 H77 y1 y2 y3 y4 y5 y6 y7 true (dn_g s1 101 (y1 + 3).toNatClampNeg) (y1 + 3) s1
  · refine dt_iconst X (v := 0) dX12_comes_215 (by decide) ?_
    refine dt_goto X 220 dX12_comes_216 (by decide) ?_
    refine dt_sub X [(0, .ref (dn_a u 100)), (1, .int y1), (2, .int y2), (3, .int y3), (4, .int y4), (5, .int y5), (6, .int y6), (7, .int (dn_b y7))] [0, 1, 2, 3, 4, 5, 6, 7] rfl ?_
    exact b_X12_comes_220 hu X K77 H77 y1 y2 y3 y4 y5 y6 y7 false (dn_g s1 101 (y1 + 3).toNatClampNeg) (y1 + 3) s1
set_option maxRecDepth 100000 in
set_option maxHeartbeats 4000000 in
theorem b_X12_comes_177 {g : dn_M} {u : dn_U} (hu : dn_Lu u = dn_LR) (X : dn_X u g cX12_comes wsX12_comes RX12 8 1 24 none) (K77 : Int32 → Int32 → Int32 → Int32 → dn_S → Option (Unit × dn_S)) (H77 : ∀ (y1 : Int32) (y2 : Int32) (y3 : Int32) (y4 : Int32) (s : dn_S), dn_T u g 8 (dn_QV u) (K77 y1 y2 y3 y4 s) s 77 [(0, .ref (dn_a u 100)), (1, .int y1), (2, .int y2), (3, .int y3), (4, .int y4)] []) (y1 : Int32) (y2 : Int32) (y3 : Int32) (y4 : Int32) (y5 : Int32) (y6 : Int32) (z0 : Bool) (s : dn_S) : dn_T u g 8 (dn_QV u) (m_X12_comes_177 K77 y1 y2 y3 y4 y5 y6 z0 s) s 177 [(0, .ref (dn_a u 100)), (1, .int y1), (2, .int y2), (3, .int y3), (4, .int y4), (5, .int y5), (6, .int y6)] [.int (dn_b z0)] := by
  unfold m_X12_comes_177
  refine dt_istore X [(7, .int (dn_b z0)), (0, .ref (dn_a u 100)), (1, .int y1), (2, .int y2), (3, .int y3), (4, .int y4), (5, .int y5), (6, .int y6)] dX12_comes_177 rfl rfl ?_
  refine dt_aload_n X 1 dX12_comes_179 rfl rfl ?_
  refine dt_get X (T := TX12) (N := 35) (v := .ref (dn_a u 101)) 0 (dn_h100 hu) rfl dn_in_X12_comes_12 rfl rfl dn_fw_X12_comes_7 rfl dX12_comes_180 ?_
  refine dt_iload_n X 2 dX12_comes_183 rfl rfl ?_
  refine dt_bipush X (v := 10) dX12_comes_184 (by decide) ?_
  refine dt_iadd X dX12_comes_186 ?_
  refine dt_iload X 5 dX12_comes_187 rfl ?_
  refine dt_iadd X dX12_comes_189 ?_
  refine dt_iload X 0 dX12_comes_190 rfl ?_
  refine dt_if_eqb X 199 dX12_comes_192 (by decide) ?_ ?_
  · refine dt_iconst X (v := 2) dX12_comes_199 (by decide) ?_
    refine dt_sub X [(0, .ref (dn_a u 100)), (1, .int y1), (2, .int y2), (3, .int y3), (4, .int y4), (5, .int y5), (6, .int y6), (7, .int (dn_b z0))] [1, 2, 3, 4, 5, 6, 7, 0] rfl ?_
    exact b_X12_comes_200 hu X K77 H77 y1 y2 y3 y4 y5 y6 z0 2 ((y1 + 10) + y4) s
  · refine dt_iconst X (v := 1) dX12_comes_195 (by decide) ?_
    refine dt_goto X 200 dX12_comes_196 (by decide) ?_
    refine dt_sub X [(0, .ref (dn_a u 100)), (1, .int y1), (2, .int y2), (3, .int y3), (4, .int y4), (5, .int y5), (6, .int y6), (7, .int (dn_b z0))] [1, 2, 3, 4, 5, 6, 7, 0] rfl ?_
    exact b_X12_comes_200 hu X K77 H77 y1 y2 y3 y4 y5 y6 z0 1 ((y1 + 10) + y4) s
set_option maxRecDepth 100000 in
set_option maxHeartbeats 4000000 in
theorem b_X12_comes_77 {g : dn_M} {u : dn_U} (hu : dn_Lu u = dn_LR) (X : dn_X u g cX12_comes wsX12_comes RX12 8 1 24 none) : ∀ (n : Nat) (y1 : Int32) (y2 : Int32) (y3 : Int32) (y4 : Int32) (s : dn_S), dn_T u g 8 (dn_QV u) (m_X12_comes_77 n y1 y2 y3 y4 s) s 77 [(0, .ref (dn_a u 100)), (1, .int y1), (2, .int y2), (3, .int y3), (4, .int y4)] [] := by
  intro n
  induction n with
  | zero =>
    intro y1 y2 y3 y4 s
    exact dt_none X
  | succ n ih =>
    intro y1 y2 y3 y4 s
    rw [m_X12_comes_77]
    refine dt_iload X 4 dX12_comes_77 rfl ?_
    refine dt_aload_n X 0 dX12_comes_79 rfl rfl ?_
    refine dt_get X (T := TX12) (N := 35) (v := .int (dn_g s 100 8)) 8 (dn_h100 hu) rfl dn_in_X12_comes_12 rfl rfl dn_fw_X12_comes_128 rfl dX12_comes_80 ?_
    refine dt_icmp_ge X 289 dX12_comes_83 (by decide) ?_ ?_
    · exact dt_vret X dX12_comes_289
    · refine dt_aload_n X 0 dX12_comes_86 rfl rfl ?_
      refine dt_get X (T := TX12) (N := 35) (v := .ref (dn_a u 101)) 0 (dn_h100 hu) rfl dn_in_X12_comes_12 rfl rfl dn_fw_X12_comes_7 rfl dX12_comes_87 ?_
      refine dt_iload_n X 1 dX12_comes_90 rfl rfl ?_
      refine dt_bipush X (v := 10) dX12_comes_91 (by decide) ?_
      refine dt_iadd X dX12_comes_93 ?_
      refine dt_iload X 4 dX12_comes_94 rfl ?_
      refine dt_iadd X dX12_comes_96 ?_
      refine dt_iald X (dn_h101 hu) dX12_comes_97 ?_
      refine dt_if_ne X 283 dX12_comes_98 (by decide) ?_ ?_
      · refine dt_sub X [(0, .ref (dn_a u 100)), (1, .int y1), (2, .int y2), (3, .int y3), (4, .int y4)] [0, 1, 2, 3, 4] rfl ?_
        exact b_X12_comes_283 hu X (m_X12_comes_77 n) ih y1 y2 y3 y4 s
      · refine dt_aload_n X 0 dX12_comes_101 rfl rfl ?_
        refine dt_get X (T := TX12) (N := 35) (v := .ref (dn_a u 106)) 9 (dn_h100 hu) rfl dn_in_X12_comes_12 rfl rfl dn_fw_X12_comes_30 rfl dX12_comes_102 ?_
        refine dt_iconst X (v := 5) dX12_comes_105 (by decide) ?_
        refine dt_iload X 4 dX12_comes_106 rfl ?_
        refine dt_imul X dX12_comes_108 ?_
        refine dt_iconst X (v := 4) dX12_comes_109 (by decide) ?_
        refine dt_iadd X dX12_comes_110 ?_
        refine dt_iald X (dn_h106 hu) dX12_comes_111 ?_
        refine dt_iload_n X 2 dX12_comes_112 rfl rfl ?_
        refine dt_icmp_ne X 283 dX12_comes_113 (by decide) ?_ ?_
        · refine dt_sub X [(0, .ref (dn_a u 100)), (1, .int y1), (2, .int y2), (3, .int y3), (4, .int y4)] [0, 1, 2, 3, 4] rfl ?_
          exact b_X12_comes_283 hu X (m_X12_comes_77 n) ih y1 y2 y3 y4 s
        · refine dt_aload_n X 0 dX12_comes_116 rfl rfl ?_
          refine dt_get X (T := TX12) (N := 35) (v := .ref (dn_a u 106)) 9 (dn_h100 hu) rfl dn_in_X12_comes_12 rfl rfl dn_fw_X12_comes_30 rfl dX12_comes_117 ?_
          refine dt_iconst X (v := 5) dX12_comes_120 (by decide) ?_
          refine dt_iload X 4 dX12_comes_121 rfl ?_
          refine dt_imul X dX12_comes_123 ?_
          refine dt_iconst X (v := 3) dX12_comes_124 (by decide) ?_
          refine dt_iadd X dX12_comes_125 ?_
          refine dt_iald X (dn_h106 hu) dX12_comes_126 ?_
          refine dt_iload_n X 3 dX12_comes_127 rfl rfl ?_
          refine dt_icmp_ne X 283 dX12_comes_128 (by decide) ?_ ?_
          · refine dt_sub X [(0, .ref (dn_a u 100)), (1, .int y1), (2, .int y2), (3, .int y3), (4, .int y4)] [0, 1, 2, 3, 4] rfl ?_
            exact b_X12_comes_283 hu X (m_X12_comes_77 n) ih y1 y2 y3 y4 s
          · refine dt_aload_n X 0 dX12_comes_131 rfl rfl ?_
            refine dt_get X (T := TX12) (N := 35) (v := .ref (dn_a u 106)) 9 (dn_h100 hu) rfl dn_in_X12_comes_12 rfl rfl dn_fw_X12_comes_30 rfl dX12_comes_132 ?_
            refine dt_iconst X (v := 5) dX12_comes_135 (by decide) ?_
            refine dt_iload X 4 dX12_comes_136 rfl ?_
            refine dt_imul X dX12_comes_138 ?_
            refine dt_iald X (dn_h106 hu) dX12_comes_139 ?_
            refine dt_let X (fun x1 => ?_)
            refine dt_istore X [(5, .int x1), (0, .ref (dn_a u 100)), (1, .int y1), (2, .int y2), (3, .int y3), (4, .int y4)] dX12_comes_140 rfl rfl ?_
            refine dt_aload_n X 1 dX12_comes_142 rfl rfl ?_
            refine dt_get X (T := TX12) (N := 35) (v := .ref (dn_a u 106)) 9 (dn_h100 hu) rfl dn_in_X12_comes_12 rfl rfl dn_fw_X12_comes_30 rfl dX12_comes_143 ?_
            refine dt_iconst X (v := 5) dX12_comes_146 (by decide) ?_
            refine dt_iload X 5 dX12_comes_147 rfl ?_
            refine dt_imul X dX12_comes_149 ?_
            refine dt_iconst X (v := 2) dX12_comes_150 (by decide) ?_
            refine dt_iadd X dX12_comes_151 ?_
            refine dt_iald X (dn_h106 hu) dX12_comes_152 ?_
            refine dt_let X (fun x2 => ?_)
            refine dt_istore X [(6, .int x2), (5, .int x1), (0, .ref (dn_a u 100)), (1, .int y1), (2, .int y2), (3, .int y3), (4, .int y4)] dX12_comes_153 rfl rfl ?_
            refine dt_aload_n X 2 dX12_comes_155 rfl rfl ?_
            refine dt_get X (T := TX12) (N := 35) (v := .ref (dn_a u 101)) 0 (dn_h100 hu) rfl dn_in_X12_comes_12 rfl rfl dn_fw_X12_comes_7 rfl dX12_comes_156 ?_
            refine dt_iload_n X 3 dX12_comes_159 rfl rfl ?_
            refine dt_bipush X (v := 6) dX12_comes_160 (by decide) ?_
            refine dt_iadd X dX12_comes_162 ?_
            refine dt_iload X 1 dX12_comes_163 rfl ?_
            refine dt_iadd X dX12_comes_165 ?_
            refine dt_iald X (dn_h101 hu) dX12_comes_166 ?_
            refine dt_iload X 0 dX12_comes_167 rfl ?_
            refine dt_icmp_lt X 176 dX12_comes_169 (by decide) ?_ ?_
            · refine dt_iconst X (v := 0) dX12_comes_176 (by decide) ?_
              refine dt_sub X [(0, .ref (dn_a u 100)), (1, .int y1), (2, .int y2), (3, .int y3), (4, .int y4), (5, .int x1), (6, .int x2)] [2, 3, 4, 5, 6, 1, 0] rfl ?_
              exact b_X12_comes_177 hu X (m_X12_comes_77 n) ih y1 y2 y3 y4 x1 x2 false s
            · refine dt_iconst X (v := 1) dX12_comes_172 (by decide) ?_
              refine dt_goto X 177 dX12_comes_173 (by decide) ?_
              refine dt_sub X [(0, .ref (dn_a u 100)), (1, .int y1), (2, .int y2), (3, .int y3), (4, .int y4), (5, .int x1), (6, .int x2)] [2, 3, 4, 5, 6, 1, 0] rfl ?_
              exact b_X12_comes_177 hu X (m_X12_comes_77 n) ih y1 y2 y3 y4 x1 x2 true s
set_option maxRecDepth 100000 in
set_option maxHeartbeats 4000000 in
theorem b_X12_comes_33 {g : dn_M} {u : dn_U} (hu : dn_Lu u = dn_LR) (X : dn_X u g cX12_comes wsX12_comes RX12 8 1 24 none) : ∀ (n : Nat) (y1 : Int32) (y2 : Int32) (y3 : Int32) (s : dn_S), dn_T u g 8 (dn_QV u) (m_X12_comes_33 n y1 y2 y3 s) s 33 [(0, .ref (dn_a u 100)), (1, .int y1), (2, .int y2), (3, .int y3)] [] := by
  intro n
  induction n with
  | zero =>
    intro y1 y2 y3 s
    exact dt_none X
  | succ n ih =>
    intro y1 y2 y3 s
    rw [m_X12_comes_33]
    refine dt_iload_n X 3 dX12_comes_33 rfl rfl ?_
    refine dt_aload_n X 0 dX12_comes_34 rfl rfl ?_
    refine dt_get X (T := TX12) (N := 35) (v := .int (dn_g s 100 3)) 3 (dn_h100 hu) rfl dn_in_X12_comes_12 rfl rfl dn_fw_X12_comes_125 rfl dX12_comes_35 ?_
    refine dt_icmp_ge X 67 dX12_comes_38 (by decide) ?_ ?_
    · refine dt_aload_n X 0 dX12_comes_67 rfl rfl ?_
      refine dt_iload_n X 1 dX12_comes_68 rfl rfl ?_
      refine dt_iload_n X 2 dX12_comes_69 rfl rfl ?_
      refine dt_callI X (dn_runV X (T := TX12) (N := 35) [.int y1, .int y2] (dn_h100 hu) rfl rfl (c_X12_countOf (dn_la g) u hu y1 y2 s) gX12_comes_X12_countOf rfl dn_hd_X12_countOf rfl rfl rfl rfl dX12_comes_70) (fun r3 s1 e2 => ?_)
      refine dt_istore_n X [(3, .int r3), (0, .ref (dn_a u 100)), (1, .int y1), (2, .int y2)] dX12_comes_73 rfl rfl rfl ?_
      refine dt_iconst X (v := 0) dX12_comes_74 (by decide) ?_
      refine dt_istore X [(4, .int 0), (3, .int r3), (0, .ref (dn_a u 100)), (1, .int y1), (2, .int y2)] dX12_comes_75 rfl rfl ?_
      refine dt_sub X [(0, .ref (dn_a u 100)), (1, .int y1), (2, .int y2), (3, .int r3), (4, .int 0)] [2, 3, 4, 1, 0] rfl ?_
      exact b_X12_comes_77 hu X 2048 y1 y2 r3 0 s1
    · refine dt_aload_n X 0 dX12_comes_41 rfl rfl ?_
      refine dt_get X (T := TX12) (N := 35) (v := .ref (dn_a u 101)) 0 (dn_h100 hu) rfl dn_in_X12_comes_12 rfl rfl dn_fw_X12_comes_7 rfl dX12_comes_42 ?_
      refine dt_iload_n X 1 dX12_comes_45 rfl rfl ?_
      refine dt_bipush X (v := 6) dX12_comes_46 (by decide) ?_
      refine dt_iadd X dX12_comes_48 ?_
      refine dt_iload_n X 3 dX12_comes_49 rfl rfl ?_
      refine dt_iadd X dX12_comes_50 ?_
      refine dt_dup2 X dX12_comes_51 rfl rfl ?_
      refine dt_iald X (dn_h101 hu) dX12_comes_52 ?_
      refine dt_aload_n X 0 dX12_comes_53 rfl rfl ?_
      refine dt_get X (T := TX12) (N := 35) (v := .ref (dn_a u 104)) 5 (dn_h100 hu) rfl dn_in_X12_comes_12 rfl rfl dn_fw_X12_comes_20 rfl dX12_comes_54 ?_
      refine dt_iload_n X 3 dX12_comes_57 rfl rfl ?_
      refine dt_iald X (dn_h104 hu) dX12_comes_58 ?_
      refine dt_iadd X dX12_comes_59 ?_
      refine dt_iast X (dn_h101 hu) dX12_comes_60 (fun s4 => ?_)
      refine dt_iinc X (v := y3 + 1) 3 [(3, .int (y3 + 1)), (0, .ref (dn_a u 100)), (1, .int y1), (2, .int y2)] dX12_comes_61 rfl (by rfl) rfl rfl ?_
      refine dt_ilet X rfl (fun x5 => ?_)
      refine dt_goto X 33 dX12_comes_64 (by decide) ?_
      refine dt_sub X [(0, .ref (dn_a u 100)), (1, .int y1), (2, .int y2), (3, .int x5)] [1, 2, 3, 0] rfl ?_
      exact ih y1 y2 x5 s4
set_option maxRecDepth 100000 in
set_option maxHeartbeats 4000000 in
theorem c_X12_comes (l : Launch) (u : dn_U) (hu : dn_Lu u = dn_LR) (a1 : Int32) (a2 : Int32) (s : dn_S) : dn_Met l u yX12_comes wsX12_comes 1 24 [.ref (dn_a u 100), .int a1, .int a2] s (m_X12_comes a1 a2 s) (dn_QV u) := by
  refine dt_entry RX12 [(0, .ref (dn_a u 100)), (1, .int a1), (2, .int a2)] (by decide +kernel) rfl rfl rfl rfl (fun g hgl X => ?_)
  subst hgl
  unfold m_X12_comes
    refine dt_iload_n X 3 dX12_comes_33 rfl rfl ?_
    refine dt_aload_n X 0 dX12_comes_34 rfl rfl ?_
    refine dt_get X (T := TX12) (N := 35) (v := .int (dn_g s 100 3)) 3 (dn_h100 hu) rfl dn_in_X12_comes_12 rfl rfl dn_fw_X12_comes_125 rfl dX12_comes_35 ?_
    refine dt_icmp_ge X 67 dX12_comes_38 (by decide) ?_ ?_
    · refine dt_aload_n X 0 dX12_comes_67 rfl rfl ?_
      refine dt_iload_n X 1 dX12_comes_68 rfl rfl ?_
      refine dt_iload_n X 2 dX12_comes_69 rfl rfl ?_
      refine dt_callI X (dn_runV X (T := TX12) (N := 35) [.int y1, .int y2] (dn_h100 hu) rfl rfl (c_X12_countOf (dn_la g) u hu y1 y2 s) gX12_comes_X12_countOf rfl dn_hd_X12_countOf rfl rfl rfl rfl dX12_comes_70) (fun r3 s1 e2 => ?_)
      refine dt_istore_n X [(3, .int r3), (0, .ref (dn_a u 100)), (1, .int y1), (2, .int y2)] dX12_comes_73 rfl rfl rfl ?_
      refine dt_iconst X (v := 0) dX12_comes_74 (by decide) ?_
      refine dt_istore X [(4, .int 0), (3, .int r3), (0, .ref (dn_a u 100)), (1, .int y1), (2, .int y2)] dX12_comes_75 rfl rfl ?_
      refine dt_sub X [(0, .ref (dn_a u 100)), (1, .int y1), (2, .int y2), (3, .int r3), (4, .int 0)] [2, 3, 4, 1, 0] rfl ?_
      exact b_X12_comes_77 hu X 2048 y1 y2 r3 0 s1
    · refine dt_aload_n X 0 dX12_comes_41 rfl rfl ?_
      refine dt_get X (T := TX12) (N := 35) (v := .ref (dn_a u 101)) 0 (dn_h100 hu) rfl dn_in_X12_comes_12 rfl rfl dn_fw_X12_comes_7 rfl dX12_comes_42 ?_
      refine dt_iload_n X 1 dX12_comes_45 rfl rfl ?_
      refine dt_bipush X (v := 6) dX12_comes_46 (by decide) ?_
      refine dt_iadd X dX12_comes_48 ?_
      refine dt_iload_n X 3 dX12_comes_49 rfl rfl ?_
      refine dt_iadd X dX12_comes_50 ?_
      refine dt_dup2 X dX12_comes_51 rfl rfl ?_
      refine dt_iald X (dn_h101 hu) dX12_comes_52 ?_
      refine dt_aload_n X 0 dX12_comes_53 rfl rfl ?_
      refine dt_get X (T := TX12) (N := 35) (v := .ref (dn_a u 104)) 5 (dn_h100 hu) rfl dn_in_X12_comes_12 rfl rfl dn_fw_X12_comes_20 rfl dX12_comes_54 ?_
      refine dt_iload_n X 3 dX12_comes_57 rfl rfl ?_
      refine dt_iald X (dn_h104 hu) dX12_comes_58 ?_
      refine dt_iadd X dX12_comes_59 ?_
      refine dt_iast X (dn_h101 hu) dX12_comes_60 (fun s4 => ?_)
      refine dt_iinc X (v := y3 + 1) 3 [(3, .int (y3 + 1)), (0, .ref (dn_a u 100)), (1, .int y1), (2, .int y2)] dX12_comes_61 rfl (by rfl) rfl rfl ?_
      refine dt_ilet X rfl (fun x5 => ?_)
      refine dt_goto X 33 dX12_comes_64 (by decide) ?_
      refine dt_sub X [(0, .ref (dn_a u 100)), (1, .int y1), (2, .int y2), (3, .int x5)] [1, 2, 3, 0] rfl ?_
      exact ih y1 y2 x5 s4
set_option maxRecDepth 100000 in
set_option maxHeartbeats 4000000 in
theorem b_X12_ends_84 {g : dn_M} {u : dn_U} (hu : dn_Lu u = dn_LR) (X : dn_X u g cX12_ends wsX12_ends RX12 3 2 51 (some .int)) (y1 : Int32) (s : dn_S) : dn_T u g 3 (dn_QI u) (m_X12_ends_84 y1 s) s 84 [(0, .ref (dn_a u 100)), (1, .int y1)] [] := by
  unfold m_X12_ends_84
  refine dt_aload_n X 0 dX12_ends_84 rfl rfl ?_
  refine dt_get X (T := TX12) (N := 35) (v := .ref (dn_a u 116)) 31 (dn_h100 hu) rfl dn_in_X12_ends_12 rfl rfl dn_fw_X12_ends_60 rfl dX12_ends_85 ?_
  refine dt_aload_n X 0 dX12_ends_88 rfl rfl ?_
  refine dt_get X (T := TX12) (N := 35) (v := .int (dn_g s 100 32)) 32 (dn_h100 hu) rfl dn_in_X12_ends_12 rfl rfl dn_fw_X12_ends_165 rfl dX12_ends_89 ?_
  refine dt_iald X (dn_h116 hu) dX12_ends_92 ?_
  refine dt_let X (fun x1 => ?_)
  refine dt_istore_n X [(2, .int x1), (0, .ref (dn_a u 100)), (1, .int y1)] dX12_ends_93 rfl rfl rfl ?_
  refine dt_aload_n X 1 dX12_ends_94 rfl rfl ?_
  refine dt_iload_n X 2 dX12_ends_95 rfl rfl ?_
  refine dt_iload_n X 0 dX12_ends_96 rfl rfl ?_
  refine dt_callV X (dn_runV X (T := TX12) (N := 35) [.int y1, .int x1] (dn_h100 hu) rfl rfl (c_X12_comes (dn_la g) u hu y1 x1 s) gX12_ends_X12_comes rfl dn_hd_X12_comes rfl rfl rfl rfl dX12_ends_97) (fun r4 s2 e3 => ?_)
  refine dt_iload_n X 0 dX12_ends_100 rfl rfl ?_
  exact dt_iret X dX12_ends_101
set_option maxRecDepth 100000 in
set_option maxHeartbeats 4000000 in
theorem c_X12_ends (l : Launch) (u : dn_U) (hu : dn_Lu u = dn_LR) (a1 : Int32) (s : dn_S) : dn_Met l u yX12_ends wsX12_ends 2 51 [.ref (dn_a u 100), .int a1] s (m_X12_ends a1 s) (dn_QI u) := by
  refine dt_entry RX12 [(0, .ref (dn_a u 100)), (1, .int a1)] (by decide +kernel) rfl rfl rfl rfl (fun g hgl X => ?_)
  subst hgl
  unfold m_X12_ends
  refine dt_aload_n X 0 dX12_ends_84 rfl rfl ?_
  refine dt_get X (T := TX12) (N := 35) (v := .ref (dn_a u 116)) 31 (dn_h100 hu) rfl dn_in_X12_ends_12 rfl rfl dn_fw_X12_ends_60 rfl dX12_ends_85 ?_
  refine dt_aload_n X 0 dX12_ends_88 rfl rfl ?_
  refine dt_get X (T := TX12) (N := 35) (v := .int (dn_g s 100 32)) 32 (dn_h100 hu) rfl dn_in_X12_ends_12 rfl rfl dn_fw_X12_ends_165 rfl dX12_ends_89 ?_
  refine dt_iald X (dn_h116 hu) dX12_ends_92 ?_
  refine dt_let X (fun x1 => ?_)
  refine dt_istore_n X [(2, .int x1), (0, .ref (dn_a u 100)), (1, .int y1)] dX12_ends_93 rfl rfl rfl ?_
  refine dt_aload_n X 1 dX12_ends_94 rfl rfl ?_
  refine dt_iload_n X 2 dX12_ends_95 rfl rfl ?_
  refine dt_iload_n X 0 dX12_ends_96 rfl rfl ?_
  refine dt_callV X (dn_runV X (T := TX12) (N := 35) [.int y1, .int x1] (dn_h100 hu) rfl rfl (c_X12_comes (dn_la g) u hu y1 x1 s) gX12_ends_X12_comes rfl dn_hd_X12_comes rfl rfl rfl rfl dX12_ends_97) (fun r4 s2 e3 => ?_)
  refine dt_iload_n X 0 dX12_ends_100 rfl rfl ?_
  exact dt_iret X dX12_ends_101
set_option maxRecDepth 100000 in
set_option maxHeartbeats 4000000 in
theorem c_X12_goes (l : Launch) (u : dn_U) (hu : dn_Lu u = dn_LR) (a1 : Int32) (s : dn_S) : dn_Met l u yX12_goes wsX12_goes 3 73 [.ref (dn_a u 100), .int a1] s (m_X12_goes a1 s) (dn_QI u) := by
  refine dt_entry RX12 [(0, .ref (dn_a u 100)), (1, .int a1)] (by decide +kernel) rfl rfl rfl rfl (fun g hgl X => ?_)
  subst hgl
  unfold m_X12_goes
  refine dt_aload_n X 0 dX12_goes_0 rfl rfl ?_
  refine dt_iload_n X 1 dX12_goes_1 rfl rfl ?_
  refine dt_callV X (dn_runV X (T := TX12) (N := 35) [.int a1] (dn_h100 hu) rfl rfl (c_X12_bidsOf (dn_la g) u hu a1 s) gX12_goes_X12_bidsOf rfl dn_hd_X12_bidsOf rfl rfl rfl rfl dX12_goes_2) (fun r3 s1 e2 => ?_)
  refine dt_aload_n X 0 dX12_goes_5 rfl rfl ?_
  refine dt_iload_n X 1 dX12_goes_6 rfl rfl ?_
  refine dt_callI X (dn_runV X (T := TX12) (N := 35) [.int a1] (dn_h100 hu) rfl rfl (c_X12_ends (dn_la g) u hu a1 s1) gX12_goes_X12_ends rfl dn_hd_X12_ends rfl rfl rfl rfl dX12_goes_7) (fun r6 s4 e5 => ?_)
  exact dt_iret X dX12_goes_10
set_option maxRecDepth 100000 in
set_option maxHeartbeats 4000000 in
theorem c_X12_night (l : Launch) (u : dn_U) (hu : dn_Lu u = dn_LR) (s : dn_S) : dn_Met l u yX12_night wsX12_night 4 94 [.ref (dn_a u 100)] s (m_X12_night  s) (dn_QI u) := by
  refine dt_entry RX12 [(0, .ref (dn_a u 100))] (by decide +kernel) rfl rfl rfl rfl (fun g hgl X => ?_)
  subst hgl
  unfold m_X12_night
  refine dt_aload_n X 0 dX12_night_0 rfl rfl ?_
  refine dt_callZ X (dn_runV X (T := TX12) (N := 35) [] (dn_h100 hu) rfl rfl (c_X12_isOver (dn_la g) u hu s) gX12_night_X12_isOver rfl dn_hd_X12_isOver rfl rfl rfl rfl dX12_night_1) (fun r3 s1 e2 => ?_)
  refine dt_if_eqb X 10 dX12_night_4 (by decide) ?_ ?_
  · refine dt_aload_n X 0 dX12_night_10 rfl rfl ?_
    refine dt_callV X (dn_runV X (T := TX12) (N := 35) [] (dn_h100 hu) rfl rfl (c_X12_minds (dn_la g) u hu s1) gX12_night_X12_minds rfl dn_hd_X12_minds rfl rfl rfl rfl dX12_night_11) (fun r6 s4 e5 => ?_)
    refine dt_aload_n X 0 dX12_night_14 rfl rfl ?_
    refine dt_iconst X (v := 0) dX12_night_15 (by decide) ?_
    refine dt_callI X (dn_runV X (T := TX12) (N := 35) [.int 0] (dn_h100 hu) rfl rfl (c_X12_goes (dn_la g) u hu 0 s4) gX12_night_X12_goes rfl dn_hd_X12_goes rfl rfl rfl rfl dX12_night_16) (fun r9 s7 e8 => ?_)
    exact dt_iret X dX12_night_19
  · refine dt_bipush X (v := -2) dX12_night_7 (by decide) ?_
    exact dt_iret X dX12_night_9
