set_option maxRecDepth 100000 in
set_option maxHeartbeats 4000000 in
theorem b_X12_sells_116 {g : dn_M} {u : dn_U} (hu : dn_Lu u = dn_LR) (X : dn_X u g cX12_sells wsX12_sells RX12 3 0 0 none) (K83 : Int32 → Int32 → dn_S → Option (Unit × dn_S)) (H83 : ∀ (y1 : Int32) (y2 : Int32) (s : dn_S), dn_T u g 3 (dn_QV u) (K83 y1 y2 s) s 83 [(0, .ref (dn_a u 100)), (1, .int y1), (2, .int y2)] []) (y2 : Int32) (z0 : Int32) (s : dn_S) : dn_T u g 3 (dn_QV u) (m_X12_sells_116 K83 y2 z0 s) s 116 [(0, .ref (dn_a u 100)), (2, .int y2)] [.int z0] := by
  unfold m_X12_sells_116
  refine dt_istore_n X [(1, .int z0), (0, .ref (dn_a u 100)), (2, .int y2)] dX12_sells_116 rfl rfl rfl ?_
  refine dt_iinc X (v := y2 + 1) 2 [(2, .int (y2 + 1)), (1, .int z0), (0, .ref (dn_a u 100))] dX12_sells_117 rfl (by rfl) rfl rfl ?_
  refine dt_ilet X rfl (fun x1 => ?_)
  refine dt_goto X 83 dX12_sells_120 (by decide) ?_
  refine dt_sub X [(0, .ref (dn_a u 100)), (1, .int z0), (2, .int x1)] [2, 1, 0] rfl ?_
  exact H83 z0 x1 s
set_option maxRecDepth 100000 in
set_option maxHeartbeats 4000000 in
theorem b_X12_sells_115 {g : dn_M} {u : dn_U} (hu : dn_Lu u = dn_LR) (X : dn_X u g cX12_sells wsX12_sells RX12 3 0 0 none) (K83 : Int32 → Int32 → dn_S → Option (Unit × dn_S)) (H83 : ∀ (y1 : Int32) (y2 : Int32) (s : dn_S), dn_T u g 3 (dn_QV u) (K83 y1 y2 s) s 83 [(0, .ref (dn_a u 100)), (1, .int y1), (2, .int y2)] []) (y1 : Int32) (y2 : Int32) (s : dn_S) : dn_T u g 3 (dn_QV u) (m_X12_sells_115 K83 y1 y2 s) s 115 [(0, .ref (dn_a u 100)), (1, .int y1), (2, .int y2)] [] := by
  unfold m_X12_sells_115
  refine dt_iload_n X 1 dX12_sells_115 rfl rfl ?_
  refine dt_sub X [(0, .ref (dn_a u 100)), (2, .int y2)] [0, 2] rfl ?_
  exact b_X12_sells_116 hu X K83 H83 y2 y1 s
set_option maxRecDepth 100000 in
set_option maxHeartbeats 4000000 in
theorem b_X12_sells_83 {g : dn_M} {u : dn_U} (hu : dn_Lu u = dn_LR) (X : dn_X u g cX12_sells wsX12_sells RX12 3 0 0 none) : ∀ (n : Nat) (y1 : Int32) (y2 : Int32) (s : dn_S), dn_T u g 3 (dn_QV u) (m_X12_sells_83 n y1 y2 s) s 83 [(0, .ref (dn_a u 100)), (1, .int y1), (2, .int y2)] [] := by
  intro n
  induction n with
  | zero =>
    intro y1 y2 s
    exact dt_none X
  | succ n ih =>
    intro y1 y2 s
    rw [m_X12_sells_83]
    refine dt_iload_n X 2 dX12_sells_83 rfl rfl ?_
    refine dt_iconst X (v := 5) dX12_sells_84 (by decide) ?_
    refine dt_icmp_ge X 123 dX12_sells_85 (by decide) ?_ ?_
    · refine dt_aload_n X 0 dX12_sells_123 rfl rfl ?_
      refine dt_iload_n X 1 dX12_sells_124 rfl rfl ?_
      refine dt_iconst X (v := 1) dX12_sells_125 (by decide) ?_
      refine dt_iadd X dX12_sells_126 ?_
      refine dt_aload_n X 0 dX12_sells_127 rfl rfl ?_
      refine dt_get X (T := TX12) (N := 35) (v := .int (dn_g s 100 34)) 34 (dn_h100 hu) rfl dn_in_X12_sells_12 rfl rfl dn_fw_X12_sells_168 rfl dX12_sells_128 ?_
      refine dt_icmp_le X 141 dX12_sells_131 (by decide) ?_ ?_
      · refine dt_iload_n X 1 dX12_sells_141 rfl rfl ?_
        refine dt_iconst X (v := 1) dX12_sells_142 (by decide) ?_
        refine dt_iadd X dX12_sells_143 ?_
        refine dt_put X (T := TX12) (N := 35) 33 (dn_h100 hu) rfl dn_in_X12_sells_12 rfl tyX12 tyX12_ok nmX12 rfl rfl dn_fw_X12_sells_171 rfl rfl (dn_set100_33 _ _ _) dX12_sells_144 (fun s1 => ?_)
        exact dt_vret X dX12_sells_147
      · refine dt_aload_n X 0 dX12_sells_134 rfl rfl ?_
        refine dt_get X (T := TX12) (N := 35) (v := .int (dn_g s 100 34)) 34 (dn_h100 hu) rfl dn_in_X12_sells_12 rfl rfl dn_fw_X12_sells_168 rfl dX12_sells_135 ?_
        refine dt_goto X 144 dX12_sells_138 (by decide) ?_
        refine dt_put X (T := TX12) (N := 35) 33 (dn_h100 hu) rfl dn_in_X12_sells_12 rfl tyX12 tyX12_ok nmX12 rfl rfl dn_fw_X12_sells_171 rfl rfl (dn_set100_33 _ _ _) dX12_sells_144 (fun s2 => ?_)
        exact dt_vret X dX12_sells_147
    · refine dt_iload_n X 2 dX12_sells_88 rfl rfl ?_
      refine dt_aload_n X 0 dX12_sells_89 rfl rfl ?_
      refine dt_get X (T := TX12) (N := 35) (v := .int (dn_g s 100 32)) 32 (dn_h100 hu) rfl dn_in_X12_sells_12 rfl rfl dn_fw_X12_sells_165 rfl dX12_sells_90 ?_
      refine dt_icmp_eq X 115 dX12_sells_93 (by decide) ?_ ?_
      · refine dt_sub X [(0, .ref (dn_a u 100)), (1, .int y1), (2, .int y2)] [0, 1, 2] rfl ?_
        exact b_X12_sells_115 hu X (m_X12_sells_83 n) ih y1 y2 s
      · refine dt_aload_n X 0 dX12_sells_96 rfl rfl ?_
        refine dt_get X (T := TX12) (N := 35) (v := .ref (dn_a u 115)) 30 (dn_h100 hu) rfl dn_in_X12_sells_12 rfl rfl dn_fw_X12_sells_57 rfl dX12_sells_97 ?_
        refine dt_iload_n X 2 dX12_sells_100 rfl rfl ?_
        refine dt_iald X (dn_h115 hu) dX12_sells_101 ?_
        refine dt_iload_n X 1 dX12_sells_102 rfl rfl ?_
        refine dt_icmp_le X 115 dX12_sells_103 (by decide) ?_ ?_
        · refine dt_sub X [(0, .ref (dn_a u 100)), (1, .int y1), (2, .int y2)] [0, 1, 2] rfl ?_
          exact b_X12_sells_115 hu X (m_X12_sells_83 n) ih y1 y2 s
        · refine dt_aload_n X 0 dX12_sells_106 rfl rfl ?_
          refine dt_get X (T := TX12) (N := 35) (v := .ref (dn_a u 115)) 30 (dn_h100 hu) rfl dn_in_X12_sells_12 rfl rfl dn_fw_X12_sells_57 rfl dX12_sells_107 ?_
          refine dt_iload_n X 2 dX12_sells_110 rfl rfl ?_
          refine dt_iald X (dn_h115 hu) dX12_sells_111 ?_
          refine dt_goto X 116 dX12_sells_112 (by decide) ?_
          refine dt_sub X [(0, .ref (dn_a u 100)), (2, .int y2)] [0, 2] rfl ?_
          exact b_X12_sells_116 hu X (m_X12_sells_83 n) ih y2 (dn_g s 115 y2.toNatClampNeg) s
set_option maxRecDepth 100000 in
set_option maxHeartbeats 4000000 in
theorem b_X12_sells_70 {g : dn_M} {u : dn_U} (hu : dn_Lu u = dn_LR) (X : dn_X u g cX12_sells wsX12_sells RX12 3 0 0 none) (K13 : Int32 → dn_S → Option (Unit × dn_S)) (H13 : ∀ (y1 : Int32) (s : dn_S), dn_T u g 3 (dn_QV u) (K13 y1 s) s 13 [(0, .ref (dn_a u 100)), (1, .int y1)] []) (y1 : Int32) (z0 : Int32) (s : dn_S) : dn_T u g 3 (dn_QV u) (m_X12_sells_70 K13 y1 z0 s) s 70 [(0, .ref (dn_a u 100)), (1, .int y1)] [.int z0, .ref (dn_a u 100)] := by
  unfold m_X12_sells_70
  refine dt_put X (T := TX12) (N := 35) 34 (dn_h100 hu) rfl dn_in_X12_sells_12 rfl tyX12 tyX12_ok nmX12 rfl rfl dn_fw_X12_sells_168 rfl rfl (dn_set100_34 _ _ _) dX12_sells_70 (fun s1 => ?_)
  refine dt_iinc X (v := y1 + 1) 1 [(1, .int (y1 + 1)), (0, .ref (dn_a u 100))] dX12_sells_73 rfl (by rfl) rfl rfl ?_
  refine dt_ilet X rfl (fun x2 => ?_)
  refine dt_goto X 13 dX12_sells_76 (by decide) ?_
  refine dt_sub X [(0, .ref (dn_a u 100)), (1, .int x2)] [1, 0] rfl ?_
  exact H13 x2 s1
set_option maxRecDepth 100000 in
set_option maxHeartbeats 4000000 in
theorem b_X12_sells_40 {g : dn_M} {u : dn_U} (hu : dn_Lu u = dn_LR) (X : dn_X u g cX12_sells wsX12_sells RX12 3 0 0 none) (K13 : Int32 → dn_S → Option (Unit × dn_S)) (H13 : ∀ (y1 : Int32) (s : dn_S), dn_T u g 3 (dn_QV u) (K13 y1 s) s 13 [(0, .ref (dn_a u 100)), (1, .int y1)] []) (y1 : Int32) (z0 : Int32) (s : dn_S) : dn_T u g 3 (dn_QV u) (m_X12_sells_40 K13 y1 z0 s) s 40 [(0, .ref (dn_a u 100)), (1, .int y1)] [.int z0, .ref (dn_a u 100)] := by
  unfold m_X12_sells_40
  refine dt_put X (T := TX12) (N := 35) 32 (dn_h100 hu) rfl dn_in_X12_sells_12 rfl tyX12 tyX12_ok nmX12 rfl rfl dn_fw_X12_sells_165 rfl rfl (dn_set100_32 _ _ _) dX12_sells_40 (fun s1 => ?_)
  refine dt_aload_n X 0 dX12_sells_43 rfl rfl ?_
  refine dt_aload_n X 0 dX12_sells_44 rfl rfl ?_
  refine dt_get X (T := TX12) (N := 35) (v := .ref (dn_a u 115)) 30 (dn_h100 hu) rfl dn_in_X12_sells_12 rfl rfl dn_fw_X12_sells_57 rfl dX12_sells_45 ?_
  refine dt_iload_n X 1 dX12_sells_48 rfl rfl ?_
  refine dt_iald X (dn_h115 hu) dX12_sells_49 ?_
  refine dt_aload_n X 0 dX12_sells_50 rfl rfl ?_
  refine dt_get X (T := TX12) (N := 35) (v := .int (dn_g s1 100 34)) 34 (dn_h100 hu) rfl dn_in_X12_sells_12 rfl rfl dn_fw_X12_sells_168 rfl dX12_sells_51 ?_
  refine dt_icmp_le X 66 dX12_sells_54 (by decide) ?_ ?_
  · refine dt_aload_n X 0 dX12_sells_66 rfl rfl ?_
    refine dt_get X (T := TX12) (N := 35) (v := .int (dn_g s1 100 34)) 34 (dn_h100 hu) rfl dn_in_X12_sells_12 rfl rfl dn_fw_X12_sells_168 rfl dX12_sells_67 ?_
    refine dt_sub X [(0, .ref (dn_a u 100)), (1, .int y1)] [0, 1] rfl ?_
    exact b_X12_sells_70 hu X K13 H13 y1 (dn_g s1 100 34) s1
  · refine dt_aload_n X 0 dX12_sells_57 rfl rfl ?_
    refine dt_get X (T := TX12) (N := 35) (v := .ref (dn_a u 115)) 30 (dn_h100 hu) rfl dn_in_X12_sells_12 rfl rfl dn_fw_X12_sells_57 rfl dX12_sells_58 ?_
    refine dt_iload_n X 1 dX12_sells_61 rfl rfl ?_
    refine dt_iald X (dn_h115 hu) dX12_sells_62 ?_
    refine dt_goto X 70 dX12_sells_63 (by decide) ?_
    refine dt_sub X [(0, .ref (dn_a u 100)), (1, .int y1)] [0, 1] rfl ?_
    exact b_X12_sells_70 hu X K13 H13 y1 (dn_g s1 115 y1.toNatClampNeg) s1
set_option maxRecDepth 100000 in
set_option maxHeartbeats 4000000 in
theorem b_X12_sells_13 {g : dn_M} {u : dn_U} (hu : dn_Lu u = dn_LR) (X : dn_X u g cX12_sells wsX12_sells RX12 3 0 0 none) : ∀ (n : Nat) (y1 : Int32) (s : dn_S), dn_T u g 3 (dn_QV u) (m_X12_sells_13 n y1 s) s 13 [(0, .ref (dn_a u 100)), (1, .int y1)] [] := by
  intro n
  induction n with
  | zero =>
    intro y1 s
    exact dt_none X
  | succ n ih =>
    intro y1 s
    rw [m_X12_sells_13]
    refine dt_iload_n X 1 dX12_sells_13 rfl rfl ?_
    refine dt_iconst X (v := 5) dX12_sells_14 (by decide) ?_
    refine dt_icmp_ge X 79 dX12_sells_15 (by decide) ?_ ?_
    · refine dt_iconst X (v := 0) dX12_sells_79 (by decide) ?_
      refine dt_istore_n X [(1, .int 0), (0, .ref (dn_a u 100))] dX12_sells_80 rfl rfl rfl ?_
      refine dt_iconst X (v := 0) dX12_sells_81 (by decide) ?_
      refine dt_istore_n X [(2, .int 0), (1, .int 0), (0, .ref (dn_a u 100))] dX12_sells_82 rfl rfl rfl ?_
      refine dt_sub X [(0, .ref (dn_a u 100)), (1, .int 0), (2, .int 0)] [2, 1, 0] rfl ?_
      exact b_X12_sells_83 hu X 2048 0 0 s
    · refine dt_aload_n X 0 dX12_sells_18 rfl rfl ?_
      refine dt_aload_n X 0 dX12_sells_19 rfl rfl ?_
      refine dt_get X (T := TX12) (N := 35) (v := .ref (dn_a u 115)) 30 (dn_h100 hu) rfl dn_in_X12_sells_12 rfl rfl dn_fw_X12_sells_57 rfl dX12_sells_20 ?_
      refine dt_iload_n X 1 dX12_sells_23 rfl rfl ?_
      refine dt_iald X (dn_h115 hu) dX12_sells_24 ?_
      refine dt_aload_n X 0 dX12_sells_25 rfl rfl ?_
      refine dt_get X (T := TX12) (N := 35) (v := .int (dn_g s 100 34)) 34 (dn_h100 hu) rfl dn_in_X12_sells_12 rfl rfl dn_fw_X12_sells_168 rfl dX12_sells_26 ?_
      refine dt_icmp_le X 36 dX12_sells_29 (by decide) ?_ ?_
      · refine dt_aload_n X 0 dX12_sells_36 rfl rfl ?_
        refine dt_get X (T := TX12) (N := 35) (v := .int (dn_g s 100 32)) 32 (dn_h100 hu) rfl dn_in_X12_sells_12 rfl rfl dn_fw_X12_sells_165 rfl dX12_sells_37 ?_
        refine dt_sub X [(0, .ref (dn_a u 100)), (1, .int y1)] [0, 1] rfl ?_
        exact b_X12_sells_40 hu X (m_X12_sells_13 n) ih y1 (dn_g s 100 32) s
      · refine dt_iload_n X 1 dX12_sells_32 rfl rfl ?_
        refine dt_goto X 40 dX12_sells_33 (by decide) ?_
        refine dt_sub X [(0, .ref (dn_a u 100)), (1, .int y1)] [0, 1] rfl ?_
        exact b_X12_sells_40 hu X (m_X12_sells_13 n) ih y1 y1 s
set_option maxRecDepth 100000 in
set_option maxHeartbeats 4000000 in
theorem c_X12_sells (l : Launch) (u : dn_U) (hu : dn_Lu u = dn_LR) (s : dn_S) : dn_Met l u yX12_sells wsX12_sells 0 0 [.ref (dn_a u 100)] s (m_X12_sells  s) (dn_QV u) := by
  refine dt_entry RX12 [(0, .ref (dn_a u 100))] (by decide +kernel) rfl rfl rfl rfl (fun g hgl X => ?_)
  subst hgl
  unfold m_X12_sells
  refine dt_aload_n X 0 dX12_sells_0 rfl rfl ?_
  refine dt_bipush X (v := -9) dX12_sells_1 (by decide) ?_
  refine dt_put X (T := TX12) (N := 35) 32 (dn_h100 hu) rfl dn_in_X12_sells_12 rfl tyX12 tyX12_ok nmX12 rfl rfl dn_fw_X12_sells_165 rfl rfl (dn_set100_32 _ _ _) dX12_sells_3 (fun s1 => ?_)
  refine dt_aload_n X 0 dX12_sells_6 rfl rfl ?_
  refine dt_iconst X (v := 0) dX12_sells_7 (by decide) ?_
  refine dt_put X (T := TX12) (N := 35) 34 (dn_h100 hu) rfl dn_in_X12_sells_12 rfl tyX12 tyX12_ok nmX12 rfl rfl dn_fw_X12_sells_168 rfl rfl (dn_set100_34 _ _ _) dX12_sells_8 (fun s2 => ?_)
  refine dt_iconst X (v := 0) dX12_sells_11 (by decide) ?_
  refine dt_istore_n X [(1, .int 0), (0, .ref (dn_a u 100))] dX12_sells_12 rfl rfl rfl ?_
  refine dt_sub X [(0, .ref (dn_a u 100)), (1, .int 0)] [1, 0] rfl ?_
  exact b_X12_sells_13 hu X 2048 0 s2
set_option maxRecDepth 100000 in
set_option maxHeartbeats 4000000 in
theorem b_X12_comes_283 {g : dn_M} {u : dn_U} (hu : dn_Lu u = dn_LR) (X : dn_X u g cX12_comes wsX12_comes RX12 8 1 24 none) (K77 : Int32 → Int32 → Int32 → Int32 → dn_S → Option (Unit × dn_S)) (H77 : ∀ (y1 : Int32) (y2 : Int32) (y3 : Int32) (y4 : Int32) (s : dn_S), dn_T u g 8 (dn_QV u) (K77 y1 y2 y3 y4 s) s 77 [(0, .ref (dn_a u 100)), (1, .int y1), (2, .int y2), (3, .int y3), (4, .int y4)] []) (y1 : Int32) (y2 : Int32) (y3 : Int32) (y4 : Int32) (s : dn_S) : dn_T u g 8 (dn_QV u) (m_X12_comes_283 K77 y1 y2 y3 y4 s) s 283 [(0, .ref (dn_a u 100)), (1, .int y1), (2, .int y2), (3, .int y3), (4, .int y4)] [] := by
  unfold m_X12_comes_283
  refine dt_iinc X (v := y4 + 1) 4 [(4, .int (y4 + 1)), (0, .ref (dn_a u 100)), (1, .int y1), (2, .int y2), (3, .int y3)] dX12_comes_283 rfl (by rfl) rfl rfl ?_
  refine dt_ilet X rfl (fun x1 => ?_)
  refine dt_goto X 77 dX12_comes_286 (by decide) ?_
  refine dt_sub X [(0, .ref (dn_a u 100)), (1, .int y1), (2, .int y2), (3, .int y3), (4, .int x1)] [1, 2, 3, 4, 0] rfl ?_
  exact H77 y1 y2 y3 x1 s
set_option maxRecDepth 100000 in
set_option maxHeartbeats 4000000 in
theorem b_X12_comes_281 {g : dn_M} {u : dn_U} (hu : dn_Lu u = dn_LR) (X : dn_X u g cX12_comes wsX12_comes RX12 8 1 24 none) (K77 : Int32 → Int32 → Int32 → Int32 → dn_S → Option (Unit × dn_S)) (H77 : ∀ (y1 : Int32) (y2 : Int32) (y3 : Int32) (y4 : Int32) (s : dn_S), dn_T u g 8 (dn_QV u) (K77 y1 y2 y3 y4 s) s 77 [(0, .ref (dn_a u 100)), (1, .int y1), (2, .int y2), (3, .int y3), (4, .int y4)] []) (y1 : Int32) (y2 : Int32) (y3 : Int32) (y4 : Int32) (z0 : Int32) (z1 : Int32) (z2 : Int32) (s : dn_S) : dn_T u g 8 (dn_QV u) (m_X12_comes_281 K77 y1 y2 y3 y4 z0 z1 z2 s) s 281 [(0, .ref (dn_a u 100)), (1, .int y1), (2, .int y2), (3, .int y3), (4, .int y4)] [.int z0, .int z1, .int z2, .ref (dn_a u 101)] := by
  unfold m_X12_comes_281
  refine dt_iadd X dX12_comes_281 ?_
  refine dt_iast X (dn_h101 hu) dX12_comes_282 (fun s1 => ?_)
  refine dt_sub X [(0, .ref (dn_a u 100)), (1, .int y1), (2, .int y2), (3, .int y3), (4, .int y4)] [0, 1, 2, 3, 4] rfl ?_
  exact b_X12_comes_283 hu X K77 H77 y1 y2 y3 y4 s1
set_option maxRecDepth 100000 in
set_option maxHeartbeats 4000000 in
theorem b_X12_comes_246 {g : dn_M} {u : dn_U} (hu : dn_Lu u = dn_LR) (X : dn_X u g cX12_comes wsX12_comes RX12 8 1 24 none) (K77 : Int32 → Int32 → Int32 → Int32 → dn_S → Option (Unit × dn_S)) (H77 : ∀ (y1 : Int32) (y2 : Int32) (y3 : Int32) (y4 : Int32) (s : dn_S), dn_T u g 8 (dn_QV u) (K77 y1 y2 y3 y4 s) s 77 [(0, .ref (dn_a u 100)), (1, .int y1), (2, .int y2), (3, .int y3), (4, .int y4)] []) (y1 : Int32) (y2 : Int32) (y3 : Int32) (y4 : Int32) (y6 : Int32) (y7 : Bool) (z0 : Int32) (z1 : Int32) (z2 : Int32) (s : dn_S) : dn_T u g 8 (dn_QV u) (m_X12_comes_246 K77 y1 y2 y3 y4 y6 y7 z0 z1 z2 s) s 246 [(0, .ref (dn_a u 100)), (1, .int y1), (2, .int y2), (3, .int y3), (4, .int y4), (6, .int y6), (7, .int (dn_b y7))] [.int z0, .int z1, .int z2, .ref (dn_a u 101)] := by
  unfold m_X12_comes_246
  refine dt_isub X dX12_comes_246 ?_
  refine dt_iast X (dn_h101 hu) dX12_comes_247 (fun s1 => ?_)
  refine dt_aload_n X 0 dX12_comes_248 rfl rfl ?_
  refine dt_get X (T := TX12) (N := 35) (v := .ref (dn_a u 101)) 0 (dn_h100 hu) rfl dn_in_X12_comes_12 rfl rfl dn_fw_X12_comes_7 rfl dX12_comes_249 ?_
  refine dt_iload_n X 1 dX12_comes_252 rfl rfl ?_
  refine dt_bipush X (v := 6) dX12_comes_253 (by decide) ?_
  refine dt_iadd X dX12_comes_255 ?_
  refine dt_aload_n X 0 dX12_comes_256 rfl rfl ?_
  refine dt_get X (T := TX12) (N := 35) (v := .ref (dn_a u 106)) 9 (dn_h100 hu) rfl dn_in_X12_comes_12 rfl rfl dn_fw_X12_comes_30 rfl dX12_comes_257 ?_
  refine dt_iconst X (v := 5) dX12_comes_260 (by decide) ?_
  refine dt_iload X 4 dX12_comes_261 rfl ?_
  refine dt_imul X dX12_comes_263 ?_
  refine dt_iconst X (v := 1) dX12_comes_264 (by decide) ?_
  refine dt_iadd X dX12_comes_265 ?_
  refine dt_iald X (dn_h106 hu) dX12_comes_266 ?_
  refine dt_iadd X dX12_comes_267 ?_
  refine dt_dup2 X dX12_comes_268 rfl rfl ?_
  refine dt_iald X (dn_h101 hu) dX12_comes_269 ?_
  refine dt_iload X 6 dX12_comes_270 rfl ?_
  refine dt_if_eqb X 280 dX12_comes_272 (by decide) ?_ ?_
  · refine dt_iconst X (v := 0) dX12_comes_280 (by decide) ?_
    refine dt_sub X [(0, .ref (dn_a u 100)), (1, .int y1), (2, .int y2), (3, .int y3), (4, .int y4)] [0, 1, 2, 3, 4] rfl ?_
    exact b_X12_comes_281 hu X K77 H77 y1 y2 y3 y4 0 (dn_g s1 101 ((y1 + 6) + (dn_g s1 106 ((5 * y4) + 1).toNatClampNeg)).toNatClampNeg) ((y1 + 6) + (dn_g s1 106 ((5 * y4) + 1).toNatClampNeg)) s1
  · refine dt_iload X 5 dX12_comes_275 rfl ?_
    refine dt_goto X 281 dX12_comes_277 (by decide) ?_
    refine dt_sub X [(0, .ref (dn_a u 100)), (1, .int y1), (2, .int y2), (3, .int y3), (4, .int y4)] [0, 1, 2, 3, 4] rfl ?_
    exact b_X12_comes_281 hu X K77 H77 y1 y2 y3 y4 y6 (dn_g s1 101 ((y1 + 6) + (dn_g s1 106 ((5 * y4) + 1).toNatClampNeg)).toNatClampNeg) ((y1 + 6) + (dn_g s1 106 ((5 * y4) + 1).toNatClampNeg)) s1
set_option maxRecDepth 100000 in
set_option maxHeartbeats 4000000 in
theorem b_X12_comes_220 {g : dn_M} {u : dn_U} (hu : dn_Lu u = dn_LR) (X : dn_X u g cX12_comes wsX12_comes RX12 8 1 24 none) (K77 : Int32 → Int32 → Int32 → Int32 → dn_S → Option (Unit × dn_S)) (H77 : ∀ (y1 : Int32) (y2 : Int32) (y3 : Int32) (y4 : Int32) (s : dn_S), dn_T u g 8 (dn_QV u) (K77 y1 y2 y3 y4 s) s 77 [(0, .ref (dn_a u 100)), (1, .int y1), (2, .int y2), (3, .int y3), (4, .int y4)] []) (y1 : Int32) (y2 : Int32) (y3 : Int32) (y4 : Int32) (y5 : Int32) (y6 : Int32) (y7 : Bool) (z0 : Bool) (z1 : Int32) (z2 : Int32) (s : dn_S) : dn_T u g 8 (dn_QV u) (m_X12_comes_220 K77 y1 y2 y3 y4 y5 y6 y7 z0 z1 z2 s) s 220 [(0, .ref (dn_a u 100)), (1, .int y1), (2, .int y2), (3, .int y3), (4, .int y4), (5, .int y5), (6, .int y6), (7, .int (dn_b y7))] [.int (dn_b z0), .int z1, .int z2, .ref (dn_a u 101)] := by
  unfold m_X12_comes_220
  refine dt_iadd X dX12_comes_220 ?_
  refine dt_iast X (dn_h101 hu) dX12_comes_221 (fun s1 => ?_)
  refine dt_aload_n X 0 dX12_comes_222 rfl rfl ?_
  refine dt_get X (T := TX12) (N := 35) (v := .ref (dn_a u 101)) 0 (dn_h100 hu) rfl dn_in_X12_comes_12 rfl rfl dn_fw_X12_comes_7 rfl dX12_comes_223 ?_
  refine dt_iload_n X 1 dX12_comes_226 rfl rfl ?_
  refine dt_bipush X (v := 6) dX12_comes_227 (by decide) ?_
  refine dt_iadd X dX12_comes_229 ?_
  refine dt_iload X 5 dX12_comes_230 rfl ?_
  refine dt_iadd X dX12_comes_232 ?_
  refine dt_dup2 X dX12_comes_233 rfl rfl ?_
  refine dt_iald X (dn_h101 hu) dX12_comes_234 ?_
  refine dt_iload X 7 dX12_comes_235 rfl ?_
  refine dt_if_eqb X 245 dX12_comes_237 (by decide) ?_ ?_
  · refine dt_iconst X (v := 0) dX12_comes_245 (by decide) ?_
    refine dt_sub X [(0, .ref (dn_a u 100)), (1, .int y1), (2, .int y2), (3, .int y3), (4, .int y4), (6, .int y6), (7, .int (dn_b y7))] [0, 1, 2, 3, 4, 6, 7] rfl ?_
    exact b_X12_comes_246 hu X K77 H77 y1 y2 y3 y4 y6 y7 0 (dn_g s1 101 ((y1 + 6) + y5).toNatClampNeg) ((y1 + 6) + y5) s1
  · refine dt_iload X 6 dX12_comes_240 rfl ?_
    refine dt_goto X 246 dX12_comes_242 (by decide) ?_
    refine dt_sub X [(0, .ref (dn_a u 100)), (1, .int y1), (2, .int y2), (3, .int y3), (4, .int y4), (6, .int y6), (7, .int (dn_b y7))] [0, 1, 2, 3, 4, 6, 7] rfl ?_
    exact b_X12_comes_246 hu X K77 H77 y1 y2 y3 y4 y6 y7 y6 (dn_g s1 101 ((y1 + 6) + y5).toNatClampNeg) ((y1 + 6) + y5) s1
set_option maxRecDepth 100000 in
set_option maxHeartbeats 4000000 in
theorem b_X12_comes_200 {g : dn_M} {u : dn_U} (hu : dn_Lu u = dn_LR) (X : dn_X u g cX12_comes wsX12_comes RX12 8 1 24 none) (K77 : Int32 → Int32 → Int32 → Int32 → dn_S → Option (Unit × dn_S)) (H77 : ∀ (y1 : Int32) (y2 : Int32) (y3 : Int32) (y4 : Int32) (s : dn_S), dn_T u g 8 (dn_QV u) (K77 y1 y2 y3 y4 s) s 77 [(0, .ref (dn_a u 100)), (1, .int y1), (2, .int y2), (3, .int y3), (4, .int y4)] []) (y1 : Int32) (y2 : Int32) (y3 : Int32) (y4 : Int32) (y5 : Int32) (y6 : Int32) (y7 : Bool) (z0 : Int32) (z1 : Int32) (s : dn_S) : dn_T u g 8 (dn_QV u) (m_X12_comes_200 K77 y1 y2 y3 y4 y5 y6 y7 z0 z1 s) s 200 [(0, .ref (dn_a u 100)), (1, .int y1), (2, .int y2), (3, .int y3), (4, .int y4), (5, .int y5), (6, .int y6), (7, .int (dn_b y7))] [.int z0, .int z1, .ref (dn_a u 101)] := by
  unfold m_X12_comes_200
  refine dt_iast X (dn_h101 hu) dX12_comes_200 (fun s1 => ?_)
  refine dt_aload_n X 0 dX12_comes_201 rfl rfl ?_
  refine dt_get X (T := TX12) (N := 35) (v := .ref (dn_a u 101)) 0 (dn_h100 hu) rfl dn_in_X12_comes_12 rfl rfl dn_fw_X12_comes_7 rfl dX12_comes_202 ?_
  refine dt_iload_n X 1 dX12_comes_205 rfl rfl ?_
  refine dt_iconst X (v := 3) dX12_comes_206 (by decide) ?_
  refine dt_iadd X dX12_comes_207 ?_
  refine dt_dup2 X dX12_comes_208 rfl rfl ?_
  refine dt_iald X (dn_h101 hu) dX12_comes_209 ?_
  refine dt_iload X 7 dX12_comes_210 rfl ?_
  refine dt_if_eqb X 219 dX12_comes_212 (by decide) ?_ ?_
  · refine dt_iconst X (v := 1) dX12_comes_219 (by decide) ?_
    refine dt_sub X [(0, .ref (dn_a u 100)), (1, .int y1), (2, .int y2), (3, .int y3), (4, .int y4), (5, .int y5), (6, .int y6), (7, .int (dn_b y7))] [0, 1, 2, 3, 4, 5, 6, 7] rfl ?_
    exact b_X12_comes_220 hu X K77 H77 y1 y2 y3 y4 y5 y6 y7 true (dn_g s1 101 (y1 + 3).toNatClampNeg) (y1 + 3) s1
  · refine dt_iconst X (v := 0) dX12_comes_215 (by decide) ?_
    refine dt_goto X 220 dX12_comes_216 (by decide) ?_
    refine dt_sub X [(0, .ref (dn_a u 100)), (1, .int y1), (2, .int y2), (3, .int y3), (4, .int y4), (5, .int y5), (6, .int y6), (7, .int (dn_b y7))] [0, 1, 2, 3, 4, 5, 6, 7] rfl ?_
    exact b_X12_comes_220 hu X K77 H77 y1 y2 y3 y4 y5 y6 y7 false (dn_g s1 101 (y1 + 3).toNatClampNeg) (y1 + 3) s1
set_option maxRecDepth 100000 in
set_option maxHeartbeats 4000000 in
theorem b_X12_comes_177 {g : dn_M} {u : dn_U} (hu : dn_Lu u = dn_LR) (X : dn_X u g cX12_comes wsX12_comes RX12 8 1 24 none) (K77 : Int32 → Int32 → Int32 → Int32 → dn_S → Option (Unit × dn_S)) (H77 : ∀ (y1 : Int32) (y2 : Int32) (y3 : Int32) (y4 : Int32) (s : dn_S), dn_T u g 8 (dn_QV u) (K77 y1 y2 y3 y4 s) s 77 [(0, .ref (dn_a u 100)), (1, .int y1), (2, .int y2), (3, .int y3), (4, .int y4)] []) (y1 : Int32) (y2 : Int32) (y3 : Int32) (y4 : Int32) (y5 : Int32) (y6 : Int32) (z0 : Bool) (s : dn_S) : dn_T u g 8 (dn_QV u) (m_X12_comes_177 K77 y1 y2 y3 y4 y5 y6 z0 s) s 177 [(0, .ref (dn_a u 100)), (1, .int y1), (2, .int y2), (3, .int y3), (4, .int y4), (5, .int y5), (6, .int y6)] [.int (dn_b z0)] := by
  unfold m_X12_comes_177
  refine dt_istore X [(7, .int (dn_b z0)), (0, .ref (dn_a u 100)), (1, .int y1), (2, .int y2), (3, .int y3), (4, .int y4), (5, .int y5), (6, .int y6)] dX12_comes_177 rfl rfl ?_
  refine dt_aload_n X 1 dX12_comes_179 rfl rfl ?_
  refine dt_get X (T := TX12) (N := 35) (v := .ref (dn_a u 101)) 0 (dn_h100 hu) rfl dn_in_X12_comes_12 rfl rfl dn_fw_X12_comes_7 rfl dX12_comes_180 ?_
  refine dt_iload_n X 2 dX12_comes_183 rfl rfl ?_
  refine dt_bipush X (v := 10) dX12_comes_184 (by decide) ?_
  refine dt_iadd X dX12_comes_186 ?_
  refine dt_iload X 5 dX12_comes_187 rfl ?_
  refine dt_iadd X dX12_comes_189 ?_
  refine dt_iload X 0 dX12_comes_190 rfl ?_
  refine dt_if_eqb X 199 dX12_comes_192 (by decide) ?_ ?_
  · refine dt_iconst X (v := 2) dX12_comes_199 (by decide) ?_
    refine dt_sub X [(0, .ref (dn_a u 100)), (1, .int y1), (2, .int y2), (3, .int y3), (4, .int y4), (5, .int y5), (6, .int y6), (7, .int (dn_b z0))] [1, 2, 3, 4, 5, 6, 7, 0] rfl ?_
    exact b_X12_comes_200 hu X K77 H77 y1 y2 y3 y4 y5 y6 z0 2 ((y1 + 10) + y4) s
  · refine dt_iconst X (v := 1) dX12_comes_195 (by decide) ?_
    refine dt_goto X 200 dX12_comes_196 (by decide) ?_
    refine dt_sub X [(0, .ref (dn_a u 100)), (1, .int y1), (2, .int y2), (3, .int y3), (4, .int y4), (5, .int y5), (6, .int y6), (7, .int (dn_b z0))] [1, 2, 3, 4, 5, 6, 7, 0] rfl ?_
    exact b_X12_comes_200 hu X K77 H77 y1 y2 y3 y4 y5 y6 z0 1 ((y1 + 10) + y4) s
set_option maxRecDepth 100000 in
set_option maxHeartbeats 4000000 in
theorem b_X12_comes_77 {g : dn_M} {u : dn_U} (hu : dn_Lu u = dn_LR) (X : dn_X u g cX12_comes wsX12_comes RX12 8 1 24 none) : ∀ (n : Nat) (y1 : Int32) (y2 : Int32) (y3 : Int32) (y4 : Int32) (s : dn_S), dn_T u g 8 (dn_QV u) (m_X12_comes_77 n y1 y2 y3 y4 s) s 77 [(0, .ref (dn_a u 100)), (1, .int y1), (2, .int y2), (3, .int y3), (4, .int y4)] [] := by
  intro n
  induction n with
  | zero =>
    intro y1 y2 y3 y4 s
    exact dt_none X
  | succ n ih =>
    intro y1 y2 y3 y4 s
    rw [m_X12_comes_77]
    refine dt_iload X 4 dX12_comes_77 rfl ?_
    refine dt_aload_n X 0 dX12_comes_79 rfl rfl ?_
    refine dt_get X (T := TX12) (N := 35) (v := .int (dn_g s 100 8)) 8 (dn_h100 hu) rfl dn_in_X12_comes_12 rfl rfl dn_fw_X12_comes_128 rfl dX12_comes_80 ?_
    refine dt_icmp_ge X 289 dX12_comes_83 (by decide) ?_ ?_
    · exact dt_vret X dX12_comes_289
    · refine dt_aload_n X 0 dX12_comes_86 rfl rfl ?_
      refine dt_get X (T := TX12) (N := 35) (v := .ref (dn_a u 101)) 0 (dn_h100 hu) rfl dn_in_X12_comes_12 rfl rfl dn_fw_X12_comes_7 rfl dX12_comes_87 ?_
      refine dt_iload_n X 1 dX12_comes_90 rfl rfl ?_
      refine dt_bipush X (v := 10) dX12_comes_91 (by decide) ?_
      refine dt_iadd X dX12_comes_93 ?_
      refine dt_iload X 4 dX12_comes_94 rfl ?_
      refine dt_iadd X dX12_comes_96 ?_
      refine dt_iald X (dn_h101 hu) dX12_comes_97 ?_
      refine dt_if_ne X 283 dX12_comes_98 (by decide) ?_ ?_
      · refine dt_sub X [(0, .ref (dn_a u 100)), (1, .int y1), (2, .int y2), (3, .int y3), (4, .int y4)] [0, 1, 2, 3, 4] rfl ?_
        exact b_X12_comes_283 hu X (m_X12_comes_77 n) ih y1 y2 y3 y4 s
      · refine dt_aload_n X 0 dX12_comes_101 rfl rfl ?_
        refine dt_get X (T := TX12) (N := 35) (v := .ref (dn_a u 106)) 9 (dn_h100 hu) rfl dn_in_X12_comes_12 rfl rfl dn_fw_X12_comes_30 rfl dX12_comes_102 ?_
        refine dt_iconst X (v := 5) dX12_comes_105 (by decide) ?_
        refine dt_iload X 4 dX12_comes_106 rfl ?_
        refine dt_imul X dX12_comes_108 ?_
        refine dt_iconst X (v := 4) dX12_comes_109 (by decide) ?_
        refine dt_iadd X dX12_comes_110 ?_
        refine dt_iald X (dn_h106 hu) dX12_comes_111 ?_
        refine dt_iload_n X 2 dX12_comes_112 rfl rfl ?_
        refine dt_icmp_ne X 283 dX12_comes_113 (by decide) ?_ ?_
        · refine dt_sub X [(0, .ref (dn_a u 100)), (1, .int y1), (2, .int y2), (3, .int y3), (4, .int y4)] [0, 1, 2, 3, 4] rfl ?_
          exact b_X12_comes_283 hu X (m_X12_comes_77 n) ih y1 y2 y3 y4 s
        · refine dt_aload_n X 0 dX12_comes_116 rfl rfl ?_
          refine dt_get X (T := TX12) (N := 35) (v := .ref (dn_a u 106)) 9 (dn_h100 hu) rfl dn_in_X12_comes_12 rfl rfl dn_fw_X12_comes_30 rfl dX12_comes_117 ?_
          refine dt_iconst X (v := 5) dX12_comes_120 (by decide) ?_
          refine dt_iload X 4 dX12_comes_121 rfl ?_
          refine dt_imul X dX12_comes_123 ?_
          refine dt_iconst X (v := 3) dX12_comes_124 (by decide) ?_
          refine dt_iadd X dX12_comes_125 ?_
          refine dt_iald X (dn_h106 hu) dX12_comes_126 ?_
          refine dt_iload_n X 3 dX12_comes_127 rfl rfl ?_
          refine dt_icmp_ne X 283 dX12_comes_128 (by decide) ?_ ?_
          · refine dt_sub X [(0, .ref (dn_a u 100)), (1, .int y1), (2, .int y2), (3, .int y3), (4, .int y4)] [0, 1, 2, 3, 4] rfl ?_
            exact b_X12_comes_283 hu X (m_X12_comes_77 n) ih y1 y2 y3 y4 s
          · refine dt_aload_n X 0 dX12_comes_131 rfl rfl ?_
            refine dt_get X (T := TX12) (N := 35) (v := .ref (dn_a u 106)) 9 (dn_h100 hu) rfl dn_in_X12_comes_12 rfl rfl dn_fw_X12_comes_30 rfl dX12_comes_132 ?_
            refine dt_iconst X (v := 5) dX12_comes_135 (by decide) ?_
            refine dt_iload X 4 dX12_comes_136 rfl ?_
            refine dt_imul X dX12_comes_138 ?_
            refine dt_iald X (dn_h106 hu) dX12_comes_139 ?_
            refine dt_let X (fun x1 => ?_)
            refine dt_istore X [(5, .int x1), (0, .ref (dn_a u 100)), (1, .int y1), (2, .int y2), (3, .int y3), (4, .int y4)] dX12_comes_140 rfl rfl ?_
            refine dt_aload_n X 1 dX12_comes_142 rfl rfl ?_
            refine dt_get X (T := TX12) (N := 35) (v := .ref (dn_a u 106)) 9 (dn_h100 hu) rfl dn_in_X12_comes_12 rfl rfl dn_fw_X12_comes_30 rfl dX12_comes_143 ?_
            refine dt_iconst X (v := 5) dX12_comes_146 (by decide) ?_
            refine dt_iload X 5 dX12_comes_147 rfl ?_
            refine dt_imul X dX12_comes_149 ?_
            refine dt_iconst X (v := 2) dX12_comes_150 (by decide) ?_
            refine dt_iadd X dX12_comes_151 ?_
            refine dt_iald X (dn_h106 hu) dX12_comes_152 ?_
            refine dt_let X (fun x2 => ?_)
            refine dt_istore X [(6, .int x2), (5, .int x1), (0, .ref (dn_a u 100)), (1, .int y1), (2, .int y2), (3, .int y3), (4, .int y4)] dX12_comes_153 rfl rfl ?_
            refine dt_aload_n X 2 dX12_comes_155 rfl rfl ?_
            refine dt_get X (T := TX12) (N := 35) (v := .ref (dn_a u 101)) 0 (dn_h100 hu) rfl dn_in_X12_comes_12 rfl rfl dn_fw_X12_comes_7 rfl dX12_comes_156 ?_
            refine dt_iload_n X 3 dX12_comes_159 rfl rfl ?_
            refine dt_bipush X (v := 6) dX12_comes_160 (by decide) ?_
            refine dt_iadd X dX12_comes_162 ?_
            refine dt_iload X 1 dX12_comes_163 rfl ?_
            refine dt_iadd X dX12_comes_165 ?_
            refine dt_iald X (dn_h101 hu) dX12_comes_166 ?_
            refine dt_iload X 0 dX12_comes_167 rfl ?_
            refine dt_icmp_lt X 176 dX12_comes_169 (by decide) ?_ ?_
            · refine dt_iconst X (v := 0) dX12_comes_176 (by decide) ?_
              refine dt_sub X [(0, .ref (dn_a u 100)), (1, .int y1), (2, .int y2), (3, .int y3), (4, .int y4), (5, .int x1), (6, .int x2)] [2, 3, 4, 5, 6, 1, 0] rfl ?_
              exact b_X12_comes_177 hu X (m_X12_comes_77 n) ih y1 y2 y3 y4 x1 x2 false s
            · refine dt_iconst X (v := 1) dX12_comes_172 (by decide) ?_
              refine dt_goto X 177 dX12_comes_173 (by decide) ?_
              refine dt_sub X [(0, .ref (dn_a u 100)), (1, .int y1), (2, .int y2), (3, .int y3), (4, .int y4), (5, .int x1), (6, .int x2)] [2, 3, 4, 5, 6, 1, 0] rfl ?_
              exact b_X12_comes_177 hu X (m_X12_comes_77 n) ih y1 y2 y3 y4 x1 x2 true s
set_option maxRecDepth 100000 in
set_option maxHeartbeats 4000000 in
theorem b_X12_comes_33 {g : dn_M} {u : dn_U} (hu : dn_Lu u = dn_LR) (X : dn_X u g cX12_comes wsX12_comes RX12 8 1 24 none) : ∀ (n : Nat) (y1 : Int32) (y2 : Int32) (y3 : Int32) (s : dn_S), dn_T u g 8 (dn_QV u) (m_X12_comes_33 n y1 y2 y3 s) s 33 [(0, .ref (dn_a u 100)), (1, .int y1), (2, .int y2), (3, .int y3)] [] := by
  intro n
  induction n with
  | zero =>
    intro y1 y2 y3 s
    exact dt_none X
  | succ n ih =>
    intro y1 y2 y3 s
    rw [m_X12_comes_33]
    refine dt_iload_n X 3 dX12_comes_33 rfl rfl ?_
    refine dt_aload_n X 0 dX12_comes_34 rfl rfl ?_
    refine dt_get X (T := TX12) (N := 35) (v := .int (dn_g s 100 3)) 3 (dn_h100 hu) rfl dn_in_X12_comes_12 rfl rfl dn_fw_X12_comes_125 rfl dX12_comes_35 ?_
    refine dt_icmp_ge X 67 dX12_comes_38 (by decide) ?_ ?_
    · refine dt_aload_n X 0 dX12_comes_67 rfl rfl ?_
      refine dt_iload_n X 1 dX12_comes_68 rfl rfl ?_
      refine dt_iload_n X 2 dX12_comes_69 rfl rfl ?_
      refine dt_callI X (dn_runV X (T := TX12) (N := 35) [.int y1, .int y2] (dn_h100 hu) rfl rfl (c_X12_countOf (dn_la g) u hu y1 y2 s) gX12_comes_X12_countOf rfl dn_hd_X12_countOf rfl rfl rfl rfl dX12_comes_70) (fun r3 s1 e2 => ?_)
      refine dt_istore_n X [(3, .int r3), (0, .ref (dn_a u 100)), (1, .int y1), (2, .int y2)] dX12_comes_73 rfl rfl rfl ?_
      refine dt_iconst X (v := 0) dX12_comes_74 (by decide) ?_
      refine dt_istore X [(4, .int 0), (3, .int r3), (0, .ref (dn_a u 100)), (1, .int y1), (2, .int y2)] dX12_comes_75 rfl rfl ?_
      refine dt_sub X [(0, .ref (dn_a u 100)), (1, .int y1), (2, .int y2), (3, .int r3), (4, .int 0)] [2, 3, 4, 1, 0] rfl ?_
      exact b_X12_comes_77 hu X 2048 y1 y2 r3 0 s1
    · refine dt_aload_n X 0 dX12_comes_41 rfl rfl ?_
      refine dt_get X (T := TX12) (N := 35) (v := .ref (dn_a u 101)) 0 (dn_h100 hu) rfl dn_in_X12_comes_12 rfl rfl dn_fw_X12_comes_7 rfl dX12_comes_42 ?_
      refine dt_iload_n X 1 dX12_comes_45 rfl rfl ?_
      refine dt_bipush X (v := 6) dX12_comes_46 (by decide) ?_
      refine dt_iadd X dX12_comes_48 ?_
      refine dt_iload_n X 3 dX12_comes_49 rfl rfl ?_
      refine dt_iadd X dX12_comes_50 ?_
      refine dt_dup2 X dX12_comes_51 rfl rfl ?_
      refine dt_iald X (dn_h101 hu) dX12_comes_52 ?_
      refine dt_aload_n X 0 dX12_comes_53 rfl rfl ?_
      refine dt_get X (T := TX12) (N := 35) (v := .ref (dn_a u 104)) 5 (dn_h100 hu) rfl dn_in_X12_comes_12 rfl rfl dn_fw_X12_comes_20 rfl dX12_comes_54 ?_
      refine dt_iload_n X 3 dX12_comes_57 rfl rfl ?_
      refine dt_iald X (dn_h104 hu) dX12_comes_58 ?_
      refine dt_iadd X dX12_comes_59 ?_
      refine dt_iast X (dn_h101 hu) dX12_comes_60 (fun s4 => ?_)
      refine dt_iinc X (v := y3 + 1) 3 [(3, .int (y3 + 1)), (0, .ref (dn_a u 100)), (1, .int y1), (2, .int y2)] dX12_comes_61 rfl (by rfl) rfl rfl ?_
      refine dt_ilet X rfl (fun x5 => ?_)
      refine dt_goto X 33 dX12_comes_64 (by decide) ?_
      refine dt_sub X [(0, .ref (dn_a u 100)), (1, .int y1), (2, .int y2), (3, .int x5)] [1, 2, 3, 0] rfl ?_
      exact ih y1 y2 x5 s4
set_option maxRecDepth 100000 in
set_option maxHeartbeats 4000000 in
theorem c_X12_comes (l : Launch) (u : dn_U) (hu : dn_Lu u = dn_LR) (a1 : Int32) (a2 : Int32) (s : dn_S) : dn_Met l u yX12_comes wsX12_comes 1 24 [.ref (dn_a u 100), .int a1, .int a2] s (m_X12_comes a1 a2 s) (dn_QV u) := by
  refine dt_entry RX12 [(0, .ref (dn_a u 100)), (1, .int a1), (2, .int a2)] (by decide +kernel) rfl rfl rfl rfl (fun g hgl X => ?_)
  subst hgl
  unfold m_X12_comes
  refine dt_aload_n X 0 dX12_comes_0 rfl rfl ?_
  refine dt_get X (T := TX12) (N := 35) (v := .ref (dn_a u 101)) 0 (dn_h100 hu) rfl dn_in_X12_comes_12 rfl rfl dn_fw_X12_comes_7 rfl dX12_comes_1 ?_
  refine dt_iload_n X 1 dX12_comes_4 rfl rfl ?_
  refine dt_bipush X (v := 16) dX12_comes_5 (by decide) ?_
  refine dt_iadd X dX12_comes_7 ?_
  refine dt_aload_n X 0 dX12_comes_8 rfl rfl ?_
  refine dt_get X (T := TX12) (N := 35) (v := .ref (dn_a u 101)) 0 (dn_h100 hu) rfl dn_in_X12_comes_12 rfl rfl dn_fw_X12_comes_7 rfl dX12_comes_9 ?_
  refine dt_iload_n X 1 dX12_comes_12 rfl rfl ?_
  refine dt_iconst X (v := 0) dX12_comes_13 (by decide) ?_
  refine dt_iadd X dX12_comes_14 ?_
  refine dt_iald X (dn_h101 hu) dX12_comes_15 ?_
  refine dt_iadd X dX12_comes_16 ?_
  refine dt_iload_n X 2 dX12_comes_17 rfl rfl ?_
  refine dt_iast X (dn_h101 hu) dX12_comes_18 (fun s1 => ?_)
  refine dt_aload_n X 0 dX12_comes_19 rfl rfl ?_
  refine dt_get X (T := TX12) (N := 35) (v := .ref (dn_a u 101)) 0 (dn_h100 hu) rfl dn_in_X12_comes_12 rfl rfl dn_fw_X12_comes_7 rfl dX12_comes_20 ?_
  refine dt_iload_n X 1 dX12_comes_23 rfl rfl ?_
  refine dt_iconst X (v := 0) dX12_comes_24 (by decide) ?_
  refine dt_iadd X dX12_comes_25 ?_
  refine dt_dup2 X dX12_comes_26 rfl rfl ?_
  refine dt_iald X (dn_h101 hu) dX12_comes_27 ?_
  refine dt_iconst X (v := 1) dX12_comes_28 (by decide) ?_
  refine dt_iadd X dX12_comes_29 ?_
  refine dt_iast X (dn_h101 hu) dX12_comes_30 (fun s2 => ?_)
  refine dt_iconst X (v := 0) dX12_comes_31 (by decide) ?_
  refine dt_istore_n X [(3, .int 0), (0, .ref (dn_a u 100)), (1, .int a1), (2, .int a2)] dX12_comes_32 rfl rfl rfl ?_
  refine dt_sub X [(0, .ref (dn_a u 100)), (1, .int a1), (2, .int a2), (3, .int 0)] [1, 2, 3, 0] rfl ?_
  exact b_X12_comes_33 hu X 2048 a1 a2 0 s2
set_option maxRecDepth 100000 in
set_option maxHeartbeats 4000000 in
theorem b_X12_ends_84 {g : dn_M} {u : dn_U} (hu : dn_Lu u = dn_LR) (X : dn_X u g cX12_ends wsX12_ends RX12 3 2 51 (some .int)) (y1 : Int32) (s : dn_S) : dn_T u g 3 (dn_QI u) (m_X12_ends_84 y1 s) s 84 [(0, .ref (dn_a u 100)), (1, .int y1)] [] := by
  unfold m_X12_ends_84
  refine dt_aload_n X 0 dX12_ends_84 rfl rfl ?_
  refine dt_get X (T := TX12) (N := 35) (v := .ref (dn_a u 116)) 31 (dn_h100 hu) rfl dn_in_X12_ends_12 rfl rfl dn_fw_X12_ends_60 rfl dX12_ends_85 ?_
  refine dt_aload_n X 0 dX12_ends_88 rfl rfl ?_
  refine dt_get X (T := TX12) (N := 35) (v := .int (dn_g s 100 32)) 32 (dn_h100 hu) rfl dn_in_X12_ends_12 rfl rfl dn_fw_X12_ends_165 rfl dX12_ends_89 ?_
  refine dt_iald X (dn_h116 hu) dX12_ends_92 ?_
  refine dt_let X (fun x1 => ?_)
  refine dt_istore_n X [(2, .int x1), (0, .ref (dn_a u 100)), (1, .int y1)] dX12_ends_93 rfl rfl rfl ?_
  refine dt_aload_n X 1 dX12_ends_94 rfl rfl ?_
  refine dt_iload_n X 2 dX12_ends_95 rfl rfl ?_
  refine dt_iload_n X 0 dX12_ends_96 rfl rfl ?_
  refine dt_callV X (dn_runV X (T := TX12) (N := 35) [.int y1, .int x1] (dn_h100 hu) rfl rfl (c_X12_comes (dn_la g) u hu y1 x1 s) gX12_ends_X12_comes rfl dn_hd_X12_comes rfl rfl rfl rfl dX12_ends_97) (fun r4 s2 e3 => ?_)
  refine dt_iload_n X 0 dX12_ends_100 rfl rfl ?_
  exact dt_iret X dX12_ends_101
set_option maxRecDepth 100000 in
set_option maxHeartbeats 4000000 in
theorem c_X12_ends (l : Launch) (u : dn_U) (hu : dn_Lu u = dn_LR) (a1 : Int32) (s : dn_S) : dn_Met l u yX12_ends wsX12_ends 2 51 [.ref (dn_a u 100), .int a1] s (m_X12_ends a1 s) (dn_QI u) := by
  refine dt_entry RX12 [(0, .ref (dn_a u 100)), (1, .int a1)] (by decide +kernel) rfl rfl rfl rfl (fun g hgl X => ?_)
  subst hgl
  unfold m_X12_ends
  refine dt_aload_n X 0 dX12_ends_0 rfl rfl ?_
  refine dt_callV X (dn_runV X (T := TX12) (N := 35) [] (dn_h100 hu) rfl rfl (c_X12_sells (dn_la g) u hu s) gX12_ends_X12_sells rfl dn_hd_X12_sells rfl rfl rfl rfl dX12_ends_1) (fun r3 s1 e2 => ?_)
  refine dt_aload_n X 0 dX12_ends_4 rfl rfl ?_
  refine dt_get X (T := TX12) (N := 35) (v := .ref (dn_a u 101)) 0 (dn_h100 hu) rfl dn_in_X12_ends_12 rfl rfl dn_fw_X12_ends_7 rfl dX12_ends_5 ?_
  refine dt_iload_n X 1 dX12_ends_8 rfl rfl ?_
  refine dt_iconst X (v := 4) dX12_ends_9 (by decide) ?_
  refine dt_iadd X dX12_ends_10 ?_
  refine dt_iconst X (v := 0) dX12_ends_11 (by decide) ?_
  refine dt_iast X (dn_h101 hu) dX12_ends_12 (fun s4 => ?_)
  refine dt_aload_n X 0 dX12_ends_13 rfl rfl ?_
  refine dt_get X (T := TX12) (N := 35) (v := .int (dn_g s4 100 32)) 32 (dn_h100 hu) rfl dn_in_X12_ends_12 rfl rfl dn_fw_X12_ends_165 rfl dX12_ends_14 ?_
  refine dt_bipush X (v := -9) dX12_ends_17 (by decide) ?_
  refine dt_icmp_ne X 37 dX12_ends_19 (by decide) ?_ ?_
  · refine dt_aload_n X 0 dX12_ends_37 rfl rfl ?_
    refine dt_get X (T := TX12) (N := 35) (v := .int (dn_g s4 100 32)) 32 (dn_h100 hu) rfl dn_in_X12_ends_12 rfl rfl dn_fw_X12_ends_165 rfl dX12_ends_38 ?_
    refine dt_iconst X (v := 4) dX12_ends_41 (by decide) ?_
    refine dt_icmp_ge X 69 dX12_ends_42 (by decide) ?_ ?_
    · refine dt_aload_n X 0 dX12_ends_69 rfl rfl ?_
      refine dt_get X (T := TX12) (N := 35) (v := .ref (dn_a u 101)) 0 (dn_h100 hu) rfl dn_in_X12_ends_12 rfl rfl dn_fw_X12_ends_7 rfl dX12_ends_70 ?_
      refine dt_iload_n X 1 dX12_ends_73 rfl rfl ?_
      refine dt_iconst X (v := 2) dX12_ends_74 (by decide) ?_
      refine dt_iadd X dX12_ends_75 ?_
      refine dt_dup2 X dX12_ends_76 rfl rfl ?_
      refine dt_iald X (dn_h101 hu) dX12_ends_77 ?_
      refine dt_aload_n X 0 dX12_ends_78 rfl rfl ?_
      refine dt_get X (T := TX12) (N := 35) (v := .int (dn_g s4 100 33)) 33 (dn_h100 hu) rfl dn_in_X12_ends_12 rfl rfl dn_fw_X12_ends_171 rfl dX12_ends_79 ?_
      refine dt_iadd X dX12_ends_82 ?_
      refine dt_iast X (dn_h101 hu) dX12_ends_83 (fun s5 => ?_)
      refine dt_sub X [(0, .ref (dn_a u 100)), (1, .int a1)] [0, 1] rfl ?_
      exact b_X12_ends_84 hu X a1 s5
    · refine dt_aload_n X 0 dX12_ends_45 rfl rfl ?_
      refine dt_get X (T := TX12) (N := 35) (v := .ref (dn_a u 101)) 0 (dn_h100 hu) rfl dn_in_X12_ends_12 rfl rfl dn_fw_X12_ends_7 rfl dX12_ends_46 ?_
      refine dt_iload_n X 1 dX12_ends_49 rfl rfl ?_
      refine dt_bipush X (v := 6) dX12_ends_50 (by decide) ?_
      refine dt_iadd X dX12_ends_52 ?_
      refine dt_aload_n X 0 dX12_ends_53 rfl rfl ?_
      refine dt_get X (T := TX12) (N := 35) (v := .int (dn_g s4 100 32)) 32 (dn_h100 hu) rfl dn_in_X12_ends_12 rfl rfl dn_fw_X12_ends_165 rfl dX12_ends_54 ?_
      refine dt_iadd X dX12_ends_57 ?_
      refine dt_dup2 X dX12_ends_58 rfl rfl ?_
      refine dt_iald X (dn_h101 hu) dX12_ends_59 ?_
      refine dt_aload_n X 0 dX12_ends_60 rfl rfl ?_
      refine dt_get X (T := TX12) (N := 35) (v := .int (dn_g s4 100 33)) 33 (dn_h100 hu) rfl dn_in_X12_ends_12 rfl rfl dn_fw_X12_ends_171 rfl dX12_ends_61 ?_
      refine dt_isub X dX12_ends_64 ?_
      refine dt_iast X (dn_h101 hu) dX12_ends_65 (fun s6 => ?_)
      refine dt_goto X 84 dX12_ends_66 (by decide) ?_
      refine dt_sub X [(0, .ref (dn_a u 100)), (1, .int a1)] [0, 1] rfl ?_
      exact b_X12_ends_84 hu X a1 s6
  · refine dt_aload_n X 0 dX12_ends_22 rfl rfl ?_
    refine dt_get X (T := TX12) (N := 35) (v := .ref (dn_a u 101)) 0 (dn_h100 hu) rfl dn_in_X12_ends_12 rfl rfl dn_fw_X12_ends_7 rfl dX12_ends_23 ?_
    refine dt_iload_n X 1 dX12_ends_26 rfl rfl ?_
    refine dt_iconst X (v := 1) dX12_ends_27 (by decide) ?_
    refine dt_iadd X dX12_ends_28 ?_
    refine dt_dup2 X dX12_ends_29 rfl rfl ?_
    refine dt_iald X (dn_h101 hu) dX12_ends_30 ?_
    refine dt_iconst X (v := 1) dX12_ends_31 (by decide) ?_
    refine dt_iadd X dX12_ends_32 ?_
    refine dt_iast X (dn_h101 hu) dX12_ends_33 (fun s7 => ?_)
    refine dt_bipush X (v := -5) dX12_ends_34 (by decide) ?_
    exact dt_iret X dX12_ends_36
set_option maxRecDepth 100000 in
set_option maxHeartbeats 4000000 in
theorem c_X12_goes (l : Launch) (u : dn_U) (hu : dn_Lu u = dn_LR) (a1 : Int32) (s : dn_S) : dn_Met l u yX12_goes wsX12_goes 3 73 [.ref (dn_a u 100), .int a1] s (m_X12_goes a1 s) (dn_QI u) := by
  refine dt_entry RX12 [(0, .ref (dn_a u 100)), (1, .int a1)] (by decide +kernel) rfl rfl rfl rfl (fun g hgl X => ?_)
  subst hgl
  unfold m_X12_goes
  refine dt_aload_n X 0 dX12_goes_0 rfl rfl ?_
  refine dt_iload_n X 1 dX12_goes_1 rfl rfl ?_
  refine dt_callV X (dn_runV X (T := TX12) (N := 35) [.int a1] (dn_h100 hu) rfl rfl (c_X12_bidsOf (dn_la g) u hu a1 s) gX12_goes_X12_bidsOf rfl dn_hd_X12_bidsOf rfl rfl rfl rfl dX12_goes_2) (fun r3 s1 e2 => ?_)
  refine dt_aload_n X 0 dX12_goes_5 rfl rfl ?_
  refine dt_iload_n X 1 dX12_goes_6 rfl rfl ?_
  refine dt_callI X (dn_runV X (T := TX12) (N := 35) [.int a1] (dn_h100 hu) rfl rfl (c_X12_ends (dn_la g) u hu a1 s1) gX12_goes_X12_ends rfl dn_hd_X12_ends rfl rfl rfl rfl dX12_goes_7) (fun r6 s4 e5 => ?_)
  exact dt_iret X dX12_goes_10
set_option maxRecDepth 100000 in
set_option maxHeartbeats 4000000 in
theorem c_X12_night (l : Launch) (u : dn_U) (hu : dn_Lu u = dn_LR) (s : dn_S) : dn_Met l u yX12_night wsX12_night 4 94 [.ref (dn_a u 100)] s (m_X12_night  s) (dn_QI u) := by
  refine dt_entry RX12 [(0, .ref (dn_a u 100))] (by decide +kernel) rfl rfl rfl rfl (fun g hgl X => ?_)
  subst hgl
  unfold m_X12_night
  refine dt_aload_n X 0 dX12_night_0 rfl rfl ?_
  refine dt_callZ X (dn_runV X (T := TX12) (N := 35) [] (dn_h100 hu) rfl rfl (c_X12_isOver (dn_la g) u hu s) gX12_night_X12_isOver rfl dn_hd_X12_isOver rfl rfl rfl rfl dX12_night_1) (fun r3 s1 e2 => ?_)
  refine dt_if_eqb X 10 dX12_night_4 (by decide) ?_ ?_
  · refine dt_aload_n X 0 dX12_night_10 rfl rfl ?_
    refine dt_callV X (dn_runV X (T := TX12) (N := 35) [] (dn_h100 hu) rfl rfl (c_X12_minds (dn_la g) u hu s1) gX12_night_X12_minds rfl dn_hd_X12_minds rfl rfl rfl rfl dX12_night_11) (fun r6 s4 e5 => ?_)
    refine dt_aload_n X 0 dX12_night_14 rfl rfl ?_
    refine dt_iconst X (v := 0) dX12_night_15 (by decide) ?_
    refine dt_callI X (dn_runV X (T := TX12) (N := 35) [.int 0] (dn_h100 hu) rfl rfl (c_X12_goes (dn_la g) u hu 0 s4) gX12_night_X12_goes rfl dn_hd_X12_goes rfl rfl rfl rfl dX12_night_16) (fun r9 s7 e8 => ?_)
    exact dt_iret X dX12_night_19
  · refine dt_bipush X (v := -2) dX12_night_7 (by decide) ?_
    exact dt_iret X dX12_night_9
set_option maxRecDepth 100000 in
set_option maxHeartbeats 4000000 in
theorem b_X12_bids_45 {g : dn_M} {u : dn_U} (hu : dn_Lu u = dn_LR) (X : dn_X u g cX12_bids wsX12_bids RX12 4 2 45 (some .int)) (y1 : Int32) (y2 : Int32) (z0 : Int32) (s : dn_S) : dn_T u g 4 (dn_QI u) (m_X12_bids_45 y1 y2 z0 s) s 45 [(0, .ref (dn_a u 100)), (1, .int y1), (2, .int y2)] [.int z0] := by
  unfold m_X12_bids_45
  refine dt_istore_n X [(3, .int z0), (0, .ref (dn_a u 100)), (1, .int y1), (2, .int y2)] dX12_bids_45 rfl rfl rfl ?_
  refine dt_aload_n X 1 dX12_bids_46 rfl rfl ?_
  refine dt_get X (T := TX12) (N := 35) (v := .ref (dn_a u 101)) 0 (dn_h100 hu) rfl dn_in_X12_bids_12 rfl rfl dn_fw_X12_bids_7 rfl dX12_bids_47 ?_
  refine dt_iconst X (v := 4) dX12_bids_50 (by decide) ?_
  refine dt_iload_n X 3 dX12_bids_51 rfl rfl ?_
  refine dt_iast X (dn_h101 hu) dX12_bids_52 (fun s1 => ?_)
  refine dt_aload_n X 1 dX12_bids_53 rfl rfl ?_
  refine dt_get X (T := TX12) (N := 35) (v := .ref (dn_a u 101)) 0 (dn_h100 hu) rfl dn_in_X12_bids_12 rfl rfl dn_fw_X12_bids_7 rfl dX12_bids_54 ?_
  refine dt_iconst X (v := 5) dX12_bids_57 (by decide) ?_
  refine dt_iload_n X 2 dX12_bids_58 rfl rfl ?_
  refine dt_iast X (dn_h101 hu) dX12_bids_59 (fun s2 => ?_)
  refine dt_iload_n X 0 dX12_bids_60 rfl rfl ?_
  exact dt_iret X dX12_bids_61
set_option maxRecDepth 100000 in
set_option maxHeartbeats 4000000 in
theorem c_X12_bids (l : Launch) (u : dn_U) (hu : dn_Lu u = dn_LR) (a1 : Int32) (a2 : Int32) (s : dn_S) : dn_Met l u yX12_bids wsX12_bids 2 45 [.ref (dn_a u 100), .int a1, .int a2] s (m_X12_bids a1 a2 s) (dn_QI u) := by
  refine dt_entry RX12 [(0, .ref (dn_a u 100)), (1, .int a1), (2, .int a2)] (by decide +kernel) rfl rfl rfl rfl (fun g hgl X => ?_)
  subst hgl
  unfold m_X12_bids
  refine dt_iload_n X 1 dX12_bids_0 rfl rfl ?_
  refine dt_callZ X (dn_runS X [.int a1] (c_X12_isName (dn_la g) u hu a1 s) gX12_bids_X12_isName rfl dn_hs_X12_isName rfl rfl rfl rfl dX12_bids_1) (fun r3 s1 e2 => ?_)
  refine dt_if_eqb X 19 dX12_bids_4 (by decide) ?_ ?_
  · refine dt_iconst X (v := -1) dX12_bids_19 (by decide) ?_
    exact dt_iret X dX12_bids_20
  · refine dt_iload_n X 2 dX12_bids_7 rfl rfl ?_
    refine dt_i2l X dX12_bids_8 ?_
    refine dt_lconst X (v := 1) dX12_bids_9 (by decide) ?_
    refine dt_ldc2 X (v := 40) dX12_bids_10 (by decide +kernel) ?_
    refine dt_callZ X (dn_runS X [.long ((a2 : Int32).toInt64), .long 1, .long 40] (c_X12_in (dn_la g) u hu ((a2 : Int32).toInt64) 1 40 s1) gX12_bids_X12_in rfl dn_hs_X12_in rfl rfl rfl rfl dX12_bids_13) (fun r6 s4 e5 => ?_)
    refine dt_if_neb X 21 dX12_bids_16 (by decide) ?_ ?_
    · refine dt_aload_n X 0 dX12_bids_21 rfl rfl ?_
      refine dt_callV X (dn_runV X (T := TX12) (N := 35) [] (dn_h100 hu) rfl rfl (c_X12_minds (dn_la g) u hu s4) gX12_bids_X12_minds rfl dn_hd_X12_minds rfl rfl rfl rfl dX12_bids_22) (fun r9 s7 e8 => ?_)
      refine dt_aload_n X 0 dX12_bids_25 rfl rfl ?_
      refine dt_get X (T := TX12) (N := 35) (v := .ref (dn_a u 101)) 0 (dn_h100 hu) rfl dn_in_X12_bids_12 rfl rfl dn_fw_X12_bids_7 rfl dX12_bids_26 ?_
      refine dt_iconst X (v := 4) dX12_bids_29 (by decide) ?_
      refine dt_iald X (dn_h101 hu) dX12_bids_30 ?_
      refine dt_if_le X 43 dX12_bids_31 (by decide) ?_ ?_
      · refine dt_bipush X (v := -9) dX12_bids_43 (by decide) ?_
        refine dt_sub X [(0, .ref (dn_a u 100)), (1, .int a1), (2, .int a2)] [0, 1, 2] rfl ?_
        exact b_X12_bids_45 hu X a1 a2 (-9) s7
      · refine dt_aload_n X 0 dX12_bids_34 rfl rfl ?_
        refine dt_get X (T := TX12) (N := 35) (v := .ref (dn_a u 101)) 0 (dn_h100 hu) rfl dn_in_X12_bids_12 rfl rfl dn_fw_X12_bids_7 rfl dX12_bids_35 ?_
        refine dt_iconst X (v := 5) dX12_bids_38 (by decide) ?_
        refine dt_iald X (dn_h101 hu) dX12_bids_39 ?_
        refine dt_goto X 45 dX12_bids_40 (by decide) ?_
        refine dt_sub X [(0, .ref (dn_a u 100)), (1, .int a1), (2, .int a2)] [0, 1, 2] rfl ?_
        exact b_X12_bids_45 hu X a1 a2 (dn_g s7 101 (5 : Int32).toNatClampNeg) s7
    · refine dt_iconst X (v := -1) dX12_bids_19 (by decide) ?_
      exact dt_iret X dX12_bids_20
set_option maxRecDepth 100000 in
set_option maxHeartbeats 4000000 in
theorem c_X12_undo (l : Launch) (u : dn_U) (hu : dn_Lu u = dn_LR) (s : dn_S) : dn_Met l u yX12_undo wsX12_undo 1 23 [.ref (dn_a u 100)] s (m_X12_undo  s) (dn_QI u) := by
  refine dt_entry RX12 [(0, .ref (dn_a u 100))] (by decide +kernel) rfl rfl rfl rfl (fun g hgl X => ?_)
  subst hgl
  unfold m_X12_undo
  refine dt_aload_n X 0 dX12_undo_0 rfl rfl ?_
  refine dt_get X (T := TX12) (N := 35) (v := .int (dn_g s 100 1)) 1 (dn_h100 hu) rfl dn_in_X12_undo_12 rfl rfl dn_fw_X12_undo_137 rfl dX12_undo_1 ?_
  refine dt_if_ne X 10 dX12_undo_4 (by decide) ?_ ?_
  · refine dt_aload_n X 0 dX12_undo_10 rfl rfl ?_
    refine dt_dup X dX12_undo_11 rfl ?_
    refine dt_get X (T := TX12) (N := 35) (v := .int (dn_g s 100 1)) 1 (dn_h100 hu) rfl dn_in_X12_undo_12 rfl rfl dn_fw_X12_undo_137 rfl dX12_undo_12 ?_
    refine dt_iconst X (v := 1) dX12_undo_15 (by decide) ?_
    refine dt_isub X dX12_undo_16 ?_
    refine dt_put X (T := TX12) (N := 35) 1 (dn_h100 hu) rfl dn_in_X12_undo_12 rfl tyX12 tyX12_ok nmX12 rfl rfl dn_fw_X12_undo_137 rfl rfl (dn_set100_1 _ _ _) dX12_undo_17 (fun s1 => ?_)
    refine dt_aload_n X 0 dX12_undo_20 rfl rfl ?_
    refine dt_sipush X (v := 480) dX12_undo_21 (by decide) ?_
    refine dt_bipush X (v := 120) dX12_undo_24 (by decide) ?_
    refine dt_aload_n X 0 dX12_undo_26 rfl rfl ?_
    refine dt_get X (T := TX12) (N := 35) (v := .int (dn_g s1 100 1)) 1 (dn_h100 hu) rfl dn_in_X12_undo_12 rfl rfl dn_fw_X12_undo_137 rfl dX12_undo_27 ?_
    refine dt_imul X dX12_undo_30 ?_
    refine dt_iadd X dX12_undo_31 ?_
    refine dt_iconst X (v := 0) dX12_undo_32 (by decide) ?_
    refine dt_callV X (dn_runV X (T := TX12) (N := 35) [.int (480 + (120 * (dn_g s1 100 1))), .int 0] (dn_h100 hu) rfl rfl (c_X12_copy (dn_la g) u hu (480 + (120 * (dn_g s1 100 1))) 0 s1) gX12_undo_X12_copy rfl dn_hd_X12_copy rfl rfl rfl rfl dX12_undo_33) (fun r4 s2 e3 => ?_)
    refine dt_aload_n X 0 dX12_undo_36 rfl rfl ?_
    refine dt_get X (T := TX12) (N := 35) (v := .int (dn_g s2 100 1)) 1 (dn_h100 hu) rfl dn_in_X12_undo_12 rfl rfl dn_fw_X12_undo_137 rfl dX12_undo_37 ?_
    exact dt_iret X dX12_undo_40
  · refine dt_bipush X (v := -2) dX12_undo_7 (by decide) ?_
    exact dt_iret X dX12_undo_9
set_option maxRecDepth 100000 in
set_option maxHeartbeats 4000000 in
theorem c_X12_tries (l : Launch) (u : dn_U) (hu : dn_Lu u = dn_LR) (s : dn_S) : dn_Met l u yX12_tries wsX12_tries 1 23 [.ref (dn_a u 100)] s (m_X12_tries  s) (dn_QV u) := by
  refine dt_entry RX12 [(0, .ref (dn_a u 100))] (by decide +kernel) rfl rfl rfl rfl (fun g hgl X => ?_)
  subst hgl
  unfold m_X12_tries
  refine dt_aload_n X 0 dX12_tries_0 rfl rfl ?_
  refine dt_iconst X (v := 0) dX12_tries_1 (by decide) ?_
  refine dt_bipush X (v := 120) dX12_tries_2 (by decide) ?_
  refine dt_callV X (dn_runV X (T := TX12) (N := 35) [.int 0, .int 120] (dn_h100 hu) rfl rfl (c_X12_copy (dn_la g) u hu 0 120 s) gX12_tries_X12_copy rfl dn_hd_X12_copy rfl rfl rfl rfl dX12_tries_4) (fun r3 s1 e2 => ?_)
  refine dt_aload_n X 0 dX12_tries_7 rfl rfl ?_
  refine dt_get X (T := TX12) (N := 35) (v := .ref (dn_a u 101)) 0 (dn_h100 hu) rfl dn_in_X12_tries_12 rfl rfl dn_fw_X12_tries_7 rfl dX12_tries_8 ?_
  refine dt_bipush X (v := 124) dX12_tries_11 (by decide) ?_
  refine dt_iconst X (v := 0) dX12_tries_13 (by decide) ?_
  refine dt_iast X (dn_h101 hu) dX12_tries_14 (fun s4 => ?_)
  exact dt_vret X dX12_tries_15
set_option maxRecDepth 100000 in
set_option maxHeartbeats 4000000 in
theorem b_X12_goesMany_6 {g : dn_M} {u : dn_U} (hu : dn_Lu u = dn_LR) (X : dn_X u g cX12_goesMany wsX12_goesMany RX12 3 4 94 none) : ∀ (n : Nat) (y1 : Int32) (y2 : Int32) (s : dn_S), dn_T u g 3 (dn_QV u) (m_X12_goesMany_6 n y1 y2 s) s 6 [(0, .ref (dn_a u 100)), (1, .int y1), (2, .int y2)] [] := by
  intro n
  induction n with
  | zero =>
    intro y1 y2 s
    exact dt_none X
  | succ n ih =>
    intro y1 y2 s
    rw [m_X12_goesMany_6]
    refine dt_iload_n X 2 dX12_goesMany_6 rfl rfl ?_
    refine dt_iload_n X 1 dX12_goesMany_7 rfl rfl ?_
    refine dt_icmp_ge X 24 dX12_goesMany_8 (by decide) ?_ ?_
    · exact dt_vret X dX12_goesMany_24
    · refine dt_aload_n X 0 dX12_goesMany_11 rfl rfl ?_
      refine dt_bipush X (v := 120) dX12_goesMany_12 (by decide) ?_
      refine dt_callI X (dn_runV X (T := TX12) (N := 35) [.int 120] (dn_h100 hu) rfl rfl (c_X12_goes (dn_la g) u hu 120 s) gX12_goesMany_X12_goes rfl dn_hd_X12_goes rfl rfl rfl rfl dX12_goesMany_14) (fun r3 s1 e2 => ?_)
      refine dt_pop X dX12_goesMany_17 rfl ?_
      refine dt_iinc X (v := y2 + 1) 2 [(2, .int (y2 + 1)), (0, .ref (dn_a u 100)), (1, .int y1)] dX12_goesMany_18 rfl (by rfl) rfl rfl ?_
      refine dt_ilet X rfl (fun x4 => ?_)
      refine dt_goto X 6 dX12_goesMany_21 (by decide) ?_
      refine dt_sub X [(0, .ref (dn_a u 100)), (1, .int y1), (2, .int x4)] [1, 2, 0] rfl ?_
      exact ih y1 x4 s1
set_option maxRecDepth 100000 in
set_option maxHeartbeats 4000000 in
theorem c_X12_goesMany (l : Launch) (u : dn_U) (hu : dn_Lu u = dn_LR) (a1 : Int32) (s : dn_S) : dn_Met l u yX12_goesMany wsX12_goesMany 4 94 [.ref (dn_a u 100), .int a1] s (m_X12_goesMany a1 s) (dn_QV u) := by
  refine dt_entry RX12 [(0, .ref (dn_a u 100)), (1, .int a1)] (by decide +kernel) rfl rfl rfl rfl (fun g hgl X => ?_)
  subst hgl
  unfold m_X12_goesMany
  refine dt_aload_n X 0 dX12_goesMany_0 rfl rfl ?_
  refine dt_callV X (dn_runV X (T := TX12) (N := 35) [] (dn_h100 hu) rfl rfl (c_X12_tries (dn_la g) u hu s) gX12_goesMany_X12_tries rfl dn_hd_X12_tries rfl rfl rfl rfl dX12_goesMany_1) (fun r3 s1 e2 => ?_)
  refine dt_iconst X (v := 0) dX12_goesMany_4 (by decide) ?_
  refine dt_istore_n X [(2, .int 0), (0, .ref (dn_a u 100)), (1, .int a1)] dX12_goesMany_5 rfl rfl rfl ?_
  refine dt_sub X [(0, .ref (dn_a u 100)), (1, .int a1), (2, .int 0)] [1, 2, 0] rfl ?_
  exact b_X12_goesMany_6 hu X 2048 a1 0 s1
set_option maxRecDepth 100000 in
set_option maxHeartbeats 4000000 in
theorem c_X12_inNights (l : Launch) (u : dn_U) (hu : dn_Lu u = dn_LR) (a1 : Int32) (a2 : Int32) (s : dn_S) : dn_Met l u yX12_inNights wsX12_inNights 5 116 [.ref (dn_a u 100), .int a1, .int a2] s (m_X12_inNights a1 a2 s) (dn_QI u) := by
  refine dt_entry RX12 [(0, .ref (dn_a u 100)), (1, .int a1), (2, .int a2)] (by decide +kernel) rfl rfl rfl rfl (fun g hgl X => ?_)
  subst hgl
  unfold m_X12_inNights
  refine dt_iload_n X 1 dX12_inNights_0 rfl rfl ?_
  refine dt_i2l X dX12_inNights_1 ?_
  refine dt_lconst X (v := 0) dX12_inNights_2 (by decide) ?_
  refine dt_ldc2 X (v := 20) dX12_inNights_3 (by decide +kernel) ?_
  refine dt_callZ X (dn_runS X [.long ((a1 : Int32).toInt64), .long 0, .long 20] (c_X12_in (dn_la g) u hu ((a1 : Int32).toInt64) 0 20 s) gX12_inNights_X12_in rfl dn_hs_X12_in rfl rfl rfl rfl dX12_inNights_6) (fun r3 s1 e2 => ?_)
  refine dt_if_eqb X 24 dX12_inNights_9 (by decide) ?_ ?_
  · refine dt_iconst X (v := -1) dX12_inNights_24 (by decide) ?_
    exact dt_iret X dX12_inNights_25
  · refine dt_iload_n X 2 dX12_inNights_12 rfl rfl ?_
    refine dt_i2l X dX12_inNights_13 ?_
    refine dt_lconst X (v := 0) dX12_inNights_14 (by decide) ?_
    refine dt_ldc2 X (v := 2) dX12_inNights_15 (by decide +kernel) ?_
    refine dt_callZ X (dn_runS X [.long ((a2 : Int32).toInt64), .long 0, .long 2] (c_X12_in (dn_la g) u hu ((a2 : Int32).toInt64) 0 2 s1) gX12_inNights_X12_in rfl dn_hs_X12_in rfl rfl rfl rfl dX12_inNights_18) (fun r6 s4 e5 => ?_)
    refine dt_if_neb X 26 dX12_inNights_21 (by decide) ?_ ?_
    · refine dt_aload_n X 0 dX12_inNights_26 rfl rfl ?_
      refine dt_iload_n X 1 dX12_inNights_27 rfl rfl ?_
      refine dt_callV X (dn_runV X (T := TX12) (N := 35) [.int a1] (dn_h100 hu) rfl rfl (c_X12_goesMany (dn_la g) u hu a1 s4) gX12_inNights_X12_goesMany rfl dn_hd_X12_goesMany rfl rfl rfl rfl dX12_inNights_28) (fun r9 s7 e8 => ?_)
      refine dt_aload_n X 0 dX12_inNights_31 rfl rfl ?_
      refine dt_get X (T := TX12) (N := 35) (v := .ref (dn_a u 101)) 0 (dn_h100 hu) rfl dn_in_X12_inNights_12 rfl rfl dn_fw_X12_inNights_7 rfl dX12_inNights_32 ?_
      refine dt_bipush X (v := 120) dX12_inNights_35 (by decide) ?_
      refine dt_iald X (dn_h101 hu) dX12_inNights_37 ?_
      refine dt_let X (fun x10 => ?_)
      refine dt_istore_n X [(3, .int x10), (0, .ref (dn_a u 100)), (1, .int a1), (2, .int a2)] dX12_inNights_38 rfl rfl rfl ?_
      refine dt_iload_n X 3 dX12_inNights_39 rfl rfl ?_
      refine dt_iconst X (v := 1) dX12_inNights_40 (by decide) ?_
      refine dt_icmp_ne X 48 dX12_inNights_41 (by decide) ?_ ?_
      · refine dt_iload_n X 3 dX12_inNights_48 rfl rfl ?_
        refine dt_iconst X (v := 2) dX12_inNights_49 (by decide) ?_
        refine dt_icmp_ne X 63 dX12_inNights_50 (by decide) ?_ ?_
        · refine dt_iload_n X 0 dX12_inNights_63 rfl rfl ?_
          refine dt_if_ne X 72 dX12_inNights_64 (by decide) ?_ ?_
          · refine dt_aload_n X 1 dX12_inNights_72 rfl rfl ?_
            refine dt_get X (T := TX12) (N := 35) (v := .ref (dn_a u 101)) 0 (dn_h100 hu) rfl dn_in_X12_inNights_12 rfl rfl dn_fw_X12_inNights_7 rfl dX12_inNights_73 ?_
            refine dt_sipush X (v := 136) dX12_inNights_76 (by decide) ?_
            refine dt_iload_n X 0 dX12_inNights_79 rfl rfl ?_
            refine dt_iadd X dX12_inNights_80 ?_
            refine dt_iconst X (v := 1) dX12_inNights_81 (by decide) ?_
            refine dt_isub X dX12_inNights_82 ?_
            refine dt_iald X (dn_h101 hu) dX12_inNights_83 ?_
            exact dt_iret X dX12_inNights_84
          · refine dt_bipush X (v := -9) dX12_inNights_67 (by decide) ?_
            refine dt_goto X 84 dX12_inNights_69 (by decide) ?_
            exact dt_iret X dX12_inNights_84
        · refine dt_aload_n X 1 dX12_inNights_53 rfl rfl ?_
          refine dt_get X (T := TX12) (N := 35) (v := .ref (dn_a u 101)) 0 (dn_h100 hu) rfl dn_in_X12_inNights_12 rfl rfl dn_fw_X12_inNights_7 rfl dX12_inNights_54 ?_
          refine dt_bipush X (v := 123) dX12_inNights_57 (by decide) ?_
          refine dt_iald X (dn_h101 hu) dX12_inNights_59 ?_
          refine dt_goto X 84 dX12_inNights_60 (by decide) ?_
          exact dt_iret X dX12_inNights_84
      · refine dt_iload_n X 0 dX12_inNights_44 rfl rfl ?_
        refine dt_goto X 84 dX12_inNights_45 (by decide) ?_
        exact dt_iret X dX12_inNights_84
    · refine dt_iconst X (v := -1) dX12_inNights_24 (by decide) ?_
      exact dt_iret X dX12_inNights_25
set_option maxRecDepth 100000 in
set_option maxHeartbeats 4000000 in
theorem c_X12_purseIn (l : Launch) (u : dn_U) (hu : dn_Lu u = dn_LR) (a1 : Int32) (a2 : Int32) (s : dn_S) : dn_Met l u yX12_purseIn wsX12_purseIn 5 116 [.ref (dn_a u 100), .int a1, .int a2] s (m_X12_purseIn a1 a2 s) (dn_QI u) := by
  refine dt_entry RX12 [(0, .ref (dn_a u 100)), (1, .int a1), (2, .int a2)] (by decide +kernel) rfl rfl rfl rfl (fun g hgl X => ?_)
  subst hgl
  unfold m_X12_purseIn
  refine dt_aload_n X 0 dX12_purseIn_0 rfl rfl ?_
  refine dt_iload_n X 1 dX12_purseIn_1 rfl rfl ?_
  refine dt_callZ X (dn_runV X (T := TX12) (N := 35) [.int a1] (dn_h100 hu) rfl rfl (c_X12_isBidder (dn_la g) u hu a1 s) gX12_purseIn_X12_isBidder rfl dn_hd_X12_isBidder rfl rfl rfl rfl dX12_purseIn_2) (fun r3 s1 e2 => ?_)
  refine dt_if_eqb X 20 dX12_purseIn_5 (by decide) ?_ ?_
  · refine dt_iconst X (v := -1) dX12_purseIn_20 (by decide) ?_
    exact dt_iret X dX12_purseIn_21
  · refine dt_iload_n X 2 dX12_purseIn_8 rfl rfl ?_
    refine dt_i2l X dX12_purseIn_9 ?_
    refine dt_lconst X (v := 0) dX12_purseIn_10 (by decide) ?_
    refine dt_ldc2 X (v := 20) dX12_purseIn_11 (by decide +kernel) ?_
    refine dt_callZ X (dn_runS X [.long ((a2 : Int32).toInt64), .long 0, .long 20] (c_X12_in (dn_la g) u hu ((a2 : Int32).toInt64) 0 20 s1) gX12_purseIn_X12_in rfl dn_hs_X12_in rfl rfl rfl rfl dX12_purseIn_14) (fun r6 s4 e5 => ?_)
    refine dt_if_neb X 22 dX12_purseIn_17 (by decide) ?_ ?_
    · refine dt_aload_n X 0 dX12_purseIn_22 rfl rfl ?_
      refine dt_iload_n X 2 dX12_purseIn_23 rfl rfl ?_
      refine dt_callV X (dn_runV X (T := TX12) (N := 35) [.int a2] (dn_h100 hu) rfl rfl (c_X12_goesMany (dn_la g) u hu a2 s4) gX12_purseIn_X12_goesMany rfl dn_hd_X12_goesMany rfl rfl rfl rfl dX12_purseIn_24) (fun r9 s7 e8 => ?_)
      refine dt_aload_n X 0 dX12_purseIn_27 rfl rfl ?_
      refine dt_get X (T := TX12) (N := 35) (v := .ref (dn_a u 101)) 0 (dn_h100 hu) rfl dn_in_X12_purseIn_12 rfl rfl dn_fw_X12_purseIn_7 rfl dX12_purseIn_28 ?_
      refine dt_bipush X (v := 126) dX12_purseIn_31 (by decide) ?_
      refine dt_iload_n X 1 dX12_purseIn_33 rfl rfl ?_
      refine dt_iadd X dX12_purseIn_34 ?_
      refine dt_iald X (dn_h101 hu) dX12_purseIn_35 ?_
      exact dt_iret X dX12_purseIn_36
    · refine dt_iconst X (v := -1) dX12_purseIn_20 (by decide) ?_
      exact dt_iret X dX12_purseIn_21
