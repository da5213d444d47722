set_option maxRecDepth 100000 in
set_option maxHeartbeats 4000000 in
theorem c_X12_in (l : Launch) (u : dn_U) (hu : dn_Lu u = dn_LR) (a1 : Int64) (a2 : Int64) (a3 : Int64) (s : dn_S) : dn_Met l u yX12_in wsX12_in 0 0 [.long a1, .long a2, .long a3] s (m_X12_in a1 a2 a3 s) (dn_QZ u) := by
  refine dt_entry RX12 [(0, .long a1), (2, .long a2), (4, .long a3)] (by decide +kernel) rfl rfl rfl rfl (fun g hgl X => ?_)
  subst hgl
  unfold m_X12_in
  refine dt_lload_n X 0 dX12_in_0 rfl rfl ?_
  refine dt_lload_n X 1 dX12_in_1 rfl rfl ?_
  refine dt_lcmp X dX12_in_2 ?_
  refine dt_if_lt X 17 dX12_in_3 (by decide) ?_ ?_
  · refine dt_iconst X (v := 0) dX12_in_17 (by decide) ?_
    exact dt_zret (v := false) X dX12_in_18
  · refine dt_lload_n X 0 dX12_in_6 rfl rfl ?_
    refine dt_lload X 2 dX12_in_7 rfl ?_
    refine dt_lcmp X dX12_in_9 ?_
    refine dt_if_gt X 17 dX12_in_10 (by decide) ?_ ?_
    · refine dt_iconst X (v := 0) dX12_in_17 (by decide) ?_
      exact dt_zret (v := false) X dX12_in_18
    · refine dt_iconst X (v := 1) dX12_in_13 (by decide) ?_
      refine dt_goto X 18 dX12_in_14 (by decide) ?_
      exact dt_zret (v := true) X dX12_in_18
set_option maxRecDepth 100000 in
set_option maxHeartbeats 4000000 in
theorem c_X12_type (l : Launch) (u : dn_U) (hu : dn_Lu u = dn_LR) (a1 : Int32) (s : dn_S) : dn_Met l u yX12_type wsX12_type 1 25 [.ref (dn_a u 100), .int a1] s (m_X12_type a1 s) (dn_QI u) := by
  refine dt_entry RX12 [(0, .ref (dn_a u 100)), (1, .int a1)] (by decide +kernel) rfl rfl rfl rfl (fun g hgl X => ?_)
  subst hgl
  unfold m_X12_type
  refine dt_iload_n X 1 dX12_type_0 rfl rfl ?_
  refine dt_i2l X dX12_type_1 ?_
  refine dt_lconst X (v := 0) dX12_type_2 (by decide) ?_
  refine dt_ldc2 X (v := 255) dX12_type_3 (by decide +kernel) ?_
  refine dt_callZ X (dn_runS X [.long ((a1 : Int32).toInt64), .long 0, .long 255] (c_X12_in (dn_la g) u hu ((a1 : Int32).toInt64) 0 255 s) gX12_type_X12_in rfl dn_hs_X12_in rfl rfl rfl rfl dX12_type_6) (fun r3 s1 e2 => ?_)
  refine dt_if_neb X 14 dX12_type_9 (by decide) ?_ ?_
  · refine dt_aload_n X 0 dX12_type_14 rfl rfl ?_
    refine dt_get X (T := TX12) (N := 35) (v := .int (dn_g s1 100 17)) 17 (dn_h100 hu) rfl dn_in_X12_type_12 rfl rfl dn_fw_X12_type_72 rfl dX12_type_15 ?_
    refine dt_sipush X (v := 200) dX12_type_18 (by decide) ?_
    refine dt_icmp_ne X 27 dX12_type_21 (by decide) ?_ ?_
    · refine dt_aload_n X 0 dX12_type_27 rfl rfl ?_
      refine dt_get X (T := TX12) (N := 35) (v := .ref (dn_a u 110)) 16 (dn_h100 hu) rfl dn_in_X12_type_12 rfl rfl dn_fw_X12_type_42 rfl dX12_type_28 ?_
      refine dt_aload_n X 0 dX12_type_31 rfl rfl ?_
      refine dt_get X (T := TX12) (N := 35) (v := .int (dn_g s1 100 17)) 17 (dn_h100 hu) rfl dn_in_X12_type_12 rfl rfl dn_fw_X12_type_72 rfl dX12_type_32 ?_
      refine dt_iload_n X 1 dX12_type_35 rfl rfl ?_
      refine dt_iast X (dn_h110 hu) dX12_type_36 (fun s4 => ?_)
      refine dt_aload_n X 0 dX12_type_37 rfl rfl ?_
      refine dt_dup X dX12_type_38 rfl ?_
      refine dt_get X (T := TX12) (N := 35) (v := .int (dn_g s4 100 17)) 17 (dn_h100 hu) rfl dn_in_X12_type_12 rfl rfl dn_fw_X12_type_72 rfl dX12_type_39 ?_
      refine dt_iconst X (v := 1) dX12_type_42 (by decide) ?_
      refine dt_iadd X dX12_type_43 ?_
      refine dt_put X (T := TX12) (N := 35) 17 (dn_h100 hu) rfl dn_in_X12_type_12 rfl tyX12 tyX12_ok nmX12 rfl rfl dn_fw_X12_type_72 rfl rfl (dn_set100_17 _ _ _) dX12_type_44 (fun s5 => ?_)
      refine dt_aload_n X 0 dX12_type_47 rfl rfl ?_
      refine dt_get X (T := TX12) (N := 35) (v := .int (dn_g s5 100 17)) 17 (dn_h100 hu) rfl dn_in_X12_type_12 rfl rfl dn_fw_X12_type_72 rfl dX12_type_48 ?_
      exact dt_iret X dX12_type_51
    · refine dt_bipush X (v := -3) dX12_type_24 (by decide) ?_
      exact dt_iret X dX12_type_26
  · refine dt_iconst X (v := -1) dX12_type_12 (by decide) ?_
    exact dt_iret X dX12_type_13
set_option maxRecDepth 100000 in
set_option maxHeartbeats 4000000 in
theorem c_X12_clear (l : Launch) (u : dn_U) (hu : dn_Lu u = dn_LR) (s : dn_S) : dn_Met l u yX12_clear wsX12_clear 0 0 [.ref (dn_a u 100)] s (m_X12_clear  s) (dn_QI u) := by
  refine dt_entry RX12 [(0, .ref (dn_a u 100))] (by decide +kernel) rfl rfl rfl rfl (fun g hgl X => ?_)
  subst hgl
  unfold m_X12_clear
  refine dt_aload_n X 0 dX12_clear_0 rfl rfl ?_
  refine dt_get X (T := TX12) (N := 35) (v := .int (dn_g s 100 17)) 17 (dn_h100 hu) rfl dn_in_X12_clear_12 rfl rfl dn_fw_X12_clear_72 rfl dX12_clear_1 ?_
  refine dt_let X (fun x1 => ?_)
  refine dt_istore_n X [(1, .int x1), (0, .ref (dn_a u 100))] dX12_clear_4 rfl rfl rfl ?_
  refine dt_aload_n X 1 dX12_clear_5 rfl rfl ?_
  refine dt_iconst X (v := 0) dX12_clear_6 (by decide) ?_
  refine dt_put X (T := TX12) (N := 35) 17 (dn_h100 hu) rfl dn_in_X12_clear_12 rfl tyX12 tyX12_ok nmX12 rfl rfl dn_fw_X12_clear_72 rfl rfl (dn_set100_17 _ _ _) dX12_clear_7 (fun s2 => ?_)
  refine dt_iload_n X 0 dX12_clear_10 rfl rfl ?_
  exact dt_iret X dX12_clear_11
set_option maxRecDepth 100000 in
set_option maxHeartbeats 4000000 in
theorem c_X12_letterAt (l : Launch) (u : dn_U) (hu : dn_Lu u = dn_LR) (a1 : Int32) (s : dn_S) : dn_Met l u yX12_letterAt wsX12_letterAt 0 0 [.ref (dn_a u 100), .int a1] s (m_X12_letterAt a1 s) (dn_QI u) := by
  refine dt_entry RX12 [(0, .ref (dn_a u 100)), (1, .int a1)] (by decide +kernel) rfl rfl rfl rfl (fun g hgl X => ?_)
  subst hgl
  unfold m_X12_letterAt
  refine dt_iload_n X 1 dX12_letterAt_0 rfl rfl ?_
  refine dt_aload_n X 0 dX12_letterAt_1 rfl rfl ?_
  refine dt_get X (T := TX12) (N := 35) (v := .int (dn_g s 100 17)) 17 (dn_h100 hu) rfl dn_in_X12_letterAt_12 rfl rfl dn_fw_X12_letterAt_72 rfl dX12_letterAt_2 ?_
  refine dt_icmp_ge X 17 dX12_letterAt_5 (by decide) ?_ ?_
  · refine dt_iconst X (v := -1) dX12_letterAt_17 (by decide) ?_
    exact dt_iret X dX12_letterAt_18
  · refine dt_aload_n X 0 dX12_letterAt_8 rfl rfl ?_
    refine dt_get X (T := TX12) (N := 35) (v := .ref (dn_a u 110)) 16 (dn_h100 hu) rfl dn_in_X12_letterAt_12 rfl rfl dn_fw_X12_letterAt_42 rfl dX12_letterAt_9 ?_
    refine dt_iload_n X 1 dX12_letterAt_12 rfl rfl ?_
    refine dt_iald X (dn_h110 hu) dX12_letterAt_13 ?_
    refine dt_goto X 18 dX12_letterAt_14 (by decide) ?_
    exact dt_iret X dX12_letterAt_18
set_option maxRecDepth 100000 in
set_option maxHeartbeats 4000000 in
theorem b_X12_blanks_0 {g : dn_M} {u : dn_U} (hu : dn_Lu u = dn_LR) (X : dn_X u g cX12_blanks wsX12_blanks RX12 1 1 21 none) : ∀ (n : Nat) (s : dn_S), dn_T u g 1 (dn_QV u) (m_X12_blanks_0 n s) s 0 [(0, .ref (dn_a u 100))] [] := by
  intro n
  induction n with
  | zero =>
    intro  s
    exact dt_none X
  | succ n ih =>
    intro  s
    rw [m_X12_blanks_0]
    refine dt_aload_n X 0 dX12_blanks_0 rfl rfl ?_
    refine dt_aload_n X 0 dX12_blanks_1 rfl rfl ?_
    refine dt_get X (T := TX12) (N := 35) (v := .int (dn_g s 100 18)) 18 (dn_h100 hu) rfl dn_in_X12_blanks_12 rfl rfl dn_fw_X12_blanks_75 rfl dX12_blanks_2 ?_
    refine dt_callI X (dn_runV X (T := TX12) (N := 35) [.int (dn_g s 100 18)] (dn_h100 hu) rfl rfl (c_X12_letterAt (dn_la g) u hu (dn_g s 100 18) s) gX12_blanks_X12_letterAt rfl dn_hd_X12_letterAt rfl rfl rfl rfl dX12_blanks_5) (fun r3 s1 e2 => ?_)
    refine dt_bipush X (v := 32) dX12_blanks_8 (by decide) ?_
    refine dt_icmp_ne X 26 dX12_blanks_10 (by decide) ?_ ?_
    · refine dt_aload_n X 0 dX12_blanks_26 rfl rfl ?_
      refine dt_aload_n X 0 dX12_blanks_27 rfl rfl ?_
      refine dt_get X (T := TX12) (N := 35) (v := .int (dn_g s1 100 18)) 18 (dn_h100 hu) rfl dn_in_X12_blanks_12 rfl rfl dn_fw_X12_blanks_75 rfl dX12_blanks_28 ?_
      refine dt_put X (T := TX12) (N := 35) 19 (dn_h100 hu) rfl dn_in_X12_blanks_12 rfl tyX12 tyX12_ok nmX12 rfl rfl dn_fw_X12_blanks_82 rfl rfl (dn_set100_19 _ _ _) dX12_blanks_31 (fun s4 => ?_)
      exact dt_vret X dX12_blanks_34
    · refine dt_aload_n X 0 dX12_blanks_13 rfl rfl ?_
      refine dt_dup X dX12_blanks_14 rfl ?_
      refine dt_get X (T := TX12) (N := 35) (v := .int (dn_g s1 100 18)) 18 (dn_h100 hu) rfl dn_in_X12_blanks_12 rfl rfl dn_fw_X12_blanks_75 rfl dX12_blanks_15 ?_
      refine dt_iconst X (v := 1) dX12_blanks_18 (by decide) ?_
      refine dt_iadd X dX12_blanks_19 ?_
      refine dt_put X (T := TX12) (N := 35) 18 (dn_h100 hu) rfl dn_in_X12_blanks_12 rfl tyX12 tyX12_ok nmX12 rfl rfl dn_fw_X12_blanks_75 rfl rfl (dn_set100_18 _ _ _) dX12_blanks_20 (fun s5 => ?_)
      refine dt_goto X 0 dX12_blanks_23 (by decide) ?_
      refine dt_sub X [(0, .ref (dn_a u 100))] [0] rfl ?_
      exact ih s5
set_option maxRecDepth 100000 in
set_option maxHeartbeats 4000000 in
theorem c_X12_blanks (l : Launch) (u : dn_U) (hu : dn_Lu u = dn_LR) (s : dn_S) : dn_Met l u yX12_blanks wsX12_blanks 1 21 [.ref (dn_a u 100)] s (m_X12_blanks  s) (dn_QV u) := by
  refine dt_entry RX12 [(0, .ref (dn_a u 100))] (by decide +kernel) rfl rfl rfl rfl (fun g hgl X => ?_)
  subst hgl
  unfold m_X12_blanks
  refine dt_sub X [(0, .ref (dn_a u 100))] [0] rfl ?_
  exact b_X12_blanks_0 hu X 2048 s
set_option maxRecDepth 100000 in
set_option maxHeartbeats 4000000 in
theorem b_X12_takesNumber_124 {g : dn_M} {u : dn_U} (hu : dn_Lu u = dn_LR) (X : dn_X u g cX12_takesNumber wsX12_takesNumber RX12 4 2 41 (some .boolean)) (y1 : Int32) (y2 : Int32) (z0 : Bool) (s : dn_S) : dn_T u g 4 (dn_QZ u) (m_X12_takesNumber_124 y1 y2 z0 s) s 124 [(0, .ref (dn_a u 100)), (1, .int y1), (2, .int y2)] [.int (dn_b z0)] := by
  unfold m_X12_takesNumber_124
  refine dt_istore_n X [(3, .int (dn_b z0)), (0, .ref (dn_a u 100)), (1, .int y1), (2, .int y2)] dX12_takesNumber_124 rfl rfl rfl ?_
  refine dt_iload_n X 0 dX12_takesNumber_125 rfl rfl ?_
  refine dt_if_eqb X 157 dX12_takesNumber_126 (by decide) ?_ ?_
  · refine dt_iconst X (v := 0) dX12_takesNumber_157 (by decide) ?_
    exact dt_zret (v := false) X dX12_takesNumber_158
  · refine dt_aload_n X 1 dX12_takesNumber_129 rfl rfl ?_
    refine dt_get X (T := TX12) (N := 35) (v := .int (dn_g s 100 20)) 20 (dn_h100 hu) rfl dn_in_X12_takesNumber_12 rfl rfl dn_fw_X12_takesNumber_88 rfl dX12_takesNumber_130 ?_
    refine dt_bipush X (v := 99) dX12_takesNumber_133 (by decide) ?_
    refine dt_icmp_gt X 157 dX12_takesNumber_135 (by decide) ?_ ?_
    · refine dt_iconst X (v := 0) dX12_takesNumber_157 (by decide) ?_
      exact dt_zret (v := false) X dX12_takesNumber_158
    · refine dt_aload_n X 1 dX12_takesNumber_138 rfl rfl ?_
      refine dt_get X (T := TX12) (N := 35) (v := .int (dn_g s 100 20)) 20 (dn_h100 hu) rfl dn_in_X12_takesNumber_12 rfl rfl dn_fw_X12_takesNumber_88 rfl dX12_takesNumber_139 ?_
      refine dt_i2l X dX12_takesNumber_142 ?_
      refine dt_iload_n X 2 dX12_takesNumber_143 rfl rfl ?_
      refine dt_i2l X dX12_takesNumber_144 ?_
      refine dt_iload_n X 3 dX12_takesNumber_145 rfl rfl ?_
      refine dt_i2l X dX12_takesNumber_146 ?_
      refine dt_callZ X (dn_runS X [.long ((dn_g s 100 20 : Int32).toInt64), .long ((y1 : Int32).toInt64), .long ((y2 : Int32).toInt64)] (c_X12_in (dn_la g) u hu ((dn_g s 100 20 : Int32).toInt64) ((y1 : Int32).toInt64) ((y2 : Int32).toInt64) s) gX12_takesNumber_X12_in rfl dn_hs_X12_in rfl rfl rfl rfl dX12_takesNumber_147) (fun r3 s1 e2 => ?_)
      refine dt_if_eqb X 157 dX12_takesNumber_150 (by decide) ?_ ?_
      · refine dt_iconst X (v := 0) dX12_takesNumber_157 (by decide) ?_
        exact dt_zret (v := false) X dX12_takesNumber_158
      · refine dt_iconst X (v := 1) dX12_takesNumber_153 (by decide) ?_
        refine dt_goto X 158 dX12_takesNumber_154 (by decide) ?_
        exact dt_zret (v := true) X dX12_takesNumber_158
set_option maxRecDepth 100000 in
set_option maxHeartbeats 4000000 in
theorem b_X12_takesNumber_119 {g : dn_M} {u : dn_U} (hu : dn_Lu u = dn_LR) (X : dn_X u g cX12_takesNumber wsX12_takesNumber RX12 4 2 41 (some .boolean)) (y1 : Int32) (y2 : Int32) (s : dn_S) : dn_T u g 4 (dn_QZ u) (m_X12_takesNumber_119 y1 y2 s) s 119 [(0, .ref (dn_a u 100)), (1, .int y1), (2, .int y2)] [] := by
  unfold m_X12_takesNumber_119
  refine dt_iconst X (v := 1) dX12_takesNumber_119 (by decide) ?_
  refine dt_goto X 124 dX12_takesNumber_120 (by decide) ?_
  refine dt_sub X [(0, .ref (dn_a u 100)), (1, .int y1), (2, .int y2)] [0, 1, 2] rfl ?_
  exact b_X12_takesNumber_124 hu X y1 y2 true s
set_option maxRecDepth 100000 in
set_option maxHeartbeats 4000000 in
theorem b_X12_takesNumber_123 {g : dn_M} {u : dn_U} (hu : dn_Lu u = dn_LR) (X : dn_X u g cX12_takesNumber wsX12_takesNumber RX12 4 2 41 (some .boolean)) (y1 : Int32) (y2 : Int32) (s : dn_S) : dn_T u g 4 (dn_QZ u) (m_X12_takesNumber_123 y1 y2 s) s 123 [(0, .ref (dn_a u 100)), (1, .int y1), (2, .int y2)] [] := by
  unfold m_X12_takesNumber_123
  refine dt_iconst X (v := 0) dX12_takesNumber_123 (by decide) ?_
  refine dt_sub X [(0, .ref (dn_a u 100)), (1, .int y1), (2, .int y2)] [0, 1, 2] rfl ?_
  exact b_X12_takesNumber_124 hu X y1 y2 false s
set_option maxRecDepth 100000 in
set_option maxHeartbeats 4000000 in
theorem b_X12_takesNumber_66 {g : dn_M} {u : dn_U} (hu : dn_Lu u = dn_LR) (X : dn_X u g cX12_takesNumber wsX12_takesNumber RX12 4 2 41 (some .boolean)) (K9 : Int32 → Int32 → dn_S → Option (Bool × dn_S)) (H9 : ∀ (y1 : Int32) (y2 : Int32) (s : dn_S), dn_T u g 4 (dn_QZ u) (K9 y1 y2 s) s 9 [(0, .ref (dn_a u 100)), (1, .int y1), (2, .int y2)] []) (y1 : Int32) (y2 : Int32) (z0 : Int32) (s : dn_S) : dn_T u g 4 (dn_QZ u) (m_X12_takesNumber_66 K9 y1 y2 z0 s) s 66 [(0, .ref (dn_a u 100)), (1, .int y1), (2, .int y2)] [.int z0, .ref (dn_a u 100)] := by
  unfold m_X12_takesNumber_66
  refine dt_put X (T := TX12) (N := 35) 20 (dn_h100 hu) rfl dn_in_X12_takesNumber_12 rfl tyX12 tyX12_ok nmX12 rfl rfl dn_fw_X12_takesNumber_88 rfl rfl (dn_set100_20 _ _ _) dX12_takesNumber_66 (fun s1 => ?_)
  refine dt_aload_n X 0 dX12_takesNumber_69 rfl rfl ?_
  refine dt_dup X dX12_takesNumber_70 rfl ?_
  refine dt_get X (T := TX12) (N := 35) (v := .int (dn_g s1 100 18)) 18 (dn_h100 hu) rfl dn_in_X12_takesNumber_12 rfl rfl dn_fw_X12_takesNumber_75 rfl dX12_takesNumber_71 ?_
  refine dt_iconst X (v := 1) dX12_takesNumber_74 (by decide) ?_
  refine dt_iadd X dX12_takesNumber_75 ?_
  refine dt_put X (T := TX12) (N := 35) 18 (dn_h100 hu) rfl dn_in_X12_takesNumber_12 rfl tyX12 tyX12_ok nmX12 rfl rfl dn_fw_X12_takesNumber_75 rfl rfl (dn_set100_18 _ _ _) dX12_takesNumber_76 (fun s2 => ?_)
  refine dt_goto X 9 dX12_takesNumber_79 (by decide) ?_
  refine dt_sub X [(0, .ref (dn_a u 100)), (1, .int y1), (2, .int y2)] [0, 1, 2] rfl ?_
  exact H9 y1 y2 s2
set_option maxRecDepth 100000 in
set_option maxHeartbeats 4000000 in
theorem b_X12_takesNumber_9 {g : dn_M} {u : dn_U} (hu : dn_Lu u = dn_LR) (X : dn_X u g cX12_takesNumber wsX12_takesNumber RX12 4 2 41 (some .boolean)) : ∀ (n : Nat) (y1 : Int32) (y2 : Int32) (s : dn_S), dn_T u g 4 (dn_QZ u) (m_X12_takesNumber_9 n y1 y2 s) s 9 [(0, .ref (dn_a u 100)), (1, .int y1), (2, .int y2)] [] := by
  intro n
  induction n with
  | zero =>
    intro y1 y2 s
    exact dt_none X
  | succ n ih =>
    intro y1 y2 s
    rw [m_X12_takesNumber_9]
    refine dt_aload_n X 0 dX12_takesNumber_9 rfl rfl ?_
    refine dt_aload_n X 0 dX12_takesNumber_10 rfl rfl ?_
    refine dt_get X (T := TX12) (N := 35) (v := .int (dn_g s 100 18)) 18 (dn_h100 hu) rfl dn_in_X12_takesNumber_12 rfl rfl dn_fw_X12_takesNumber_75 rfl dX12_takesNumber_11 ?_
    refine dt_callI X (dn_runV X (T := TX12) (N := 35) [.int (dn_g s 100 18)] (dn_h100 hu) rfl rfl (c_X12_letterAt (dn_la g) u hu (dn_g s 100 18) s) gX12_takesNumber_X12_letterAt rfl dn_hd_X12_letterAt rfl rfl rfl rfl dX12_takesNumber_14) (fun r3 s1 e2 => ?_)
    refine dt_i2l X dX12_takesNumber_17 ?_
    refine dt_ldc2 X (v := 48) dX12_takesNumber_18 (by decide +kernel) ?_
    refine dt_ldc2 X (v := 57) dX12_takesNumber_21 (by decide +kernel) ?_
    refine dt_callZ X (dn_runS X [.long ((r3 : Int32).toInt64), .long 48, .long 57] (c_X12_in (dn_la g) u hu ((r3 : Int32).toInt64) 48 57 s1) gX12_takesNumber_X12_in rfl dn_hs_X12_in rfl rfl rfl rfl dX12_takesNumber_24) (fun r6 s4 e5 => ?_)
    refine dt_if_eqb X 82 dX12_takesNumber_27 (by decide) ?_ ?_
    · refine dt_aload_n X 0 dX12_takesNumber_82 rfl rfl ?_
      refine dt_get X (T := TX12) (N := 35) (v := .int (dn_g s4 100 18)) 18 (dn_h100 hu) rfl dn_in_X12_takesNumber_12 rfl rfl dn_fw_X12_takesNumber_75 rfl dX12_takesNumber_83 ?_
      refine dt_aload_n X 0 dX12_takesNumber_86 rfl rfl ?_
      refine dt_get X (T := TX12) (N := 35) (v := .int (dn_g s4 100 19)) 19 (dn_h100 hu) rfl dn_in_X12_takesNumber_12 rfl rfl dn_fw_X12_takesNumber_82 rfl dX12_takesNumber_87 ?_
      refine dt_iconst X (v := 1) dX12_takesNumber_90 (by decide) ?_
      refine dt_iadd X dX12_takesNumber_91 ?_
      refine dt_icmp_eq X 119 dX12_takesNumber_92 (by decide) ?_ ?_
      · refine dt_sub X [(0, .ref (dn_a u 100)), (1, .int y1), (2, .int y2)] [0, 1, 2] rfl ?_
        exact b_X12_takesNumber_119 hu X y1 y2 s4
      · refine dt_aload_n X 0 dX12_takesNumber_95 rfl rfl ?_
        refine dt_get X (T := TX12) (N := 35) (v := .int (dn_g s4 100 18)) 18 (dn_h100 hu) rfl dn_in_X12_takesNumber_12 rfl rfl dn_fw_X12_takesNumber_75 rfl dX12_takesNumber_96 ?_
        refine dt_aload_n X 0 dX12_takesNumber_99 rfl rfl ?_
        refine dt_get X (T := TX12) (N := 35) (v := .int (dn_g s4 100 19)) 19 (dn_h100 hu) rfl dn_in_X12_takesNumber_12 rfl rfl dn_fw_X12_takesNumber_82 rfl dX12_takesNumber_100 ?_
        refine dt_icmp_le X 123 dX12_takesNumber_103 (by decide) ?_ ?_
        · refine dt_sub X [(0, .ref (dn_a u 100)), (1, .int y1), (2, .int y2)] [0, 1, 2] rfl ?_
          exact b_X12_takesNumber_123 hu X y1 y2 s4
        · refine dt_aload_n X 0 dX12_takesNumber_106 rfl rfl ?_
          refine dt_aload_n X 0 dX12_takesNumber_107 rfl rfl ?_
          refine dt_get X (T := TX12) (N := 35) (v := .int (dn_g s4 100 19)) 19 (dn_h100 hu) rfl dn_in_X12_takesNumber_12 rfl rfl dn_fw_X12_takesNumber_82 rfl dX12_takesNumber_108 ?_
          refine dt_callI X (dn_runV X (T := TX12) (N := 35) [.int (dn_g s4 100 19)] (dn_h100 hu) rfl rfl (c_X12_letterAt (dn_la g) u hu (dn_g s4 100 19) s4) gX12_takesNumber_X12_letterAt rfl dn_hd_X12_letterAt rfl rfl rfl rfl dX12_takesNumber_111) (fun r9 s7 e8 => ?_)
          refine dt_bipush X (v := 48) dX12_takesNumber_114 (by decide) ?_
          refine dt_icmp_eq X 123 dX12_takesNumber_116 (by decide) ?_ ?_
          · refine dt_sub X [(0, .ref (dn_a u 100)), (1, .int y1), (2, .int y2)] [0, 1, 2] rfl ?_
            exact b_X12_takesNumber_123 hu X y1 y2 s7
          · refine dt_sub X [(0, .ref (dn_a u 100)), (1, .int y1), (2, .int y2)] [0, 1, 2] rfl ?_
            exact b_X12_takesNumber_119 hu X y1 y2 s7
    · refine dt_aload_n X 0 dX12_takesNumber_30 rfl rfl ?_
      refine dt_aload_n X 0 dX12_takesNumber_31 rfl rfl ?_
      refine dt_get X (T := TX12) (N := 35) (v := .int (dn_g s4 100 20)) 20 (dn_h100 hu) rfl dn_in_X12_takesNumber_12 rfl rfl dn_fw_X12_takesNumber_88 rfl dX12_takesNumber_32 ?_
      refine dt_bipush X (v := 99) dX12_takesNumber_35 (by decide) ?_
      refine dt_icmp_le X 47 dX12_takesNumber_37 (by decide) ?_ ?_
      · refine dt_bipush X (v := 10) dX12_takesNumber_47 (by decide) ?_
        refine dt_aload_n X 0 dX12_takesNumber_49 rfl rfl ?_
        refine dt_get X (T := TX12) (N := 35) (v := .int (dn_g s4 100 20)) 20 (dn_h100 hu) rfl dn_in_X12_takesNumber_12 rfl rfl dn_fw_X12_takesNumber_88 rfl dX12_takesNumber_50 ?_
        refine dt_imul X dX12_takesNumber_53 ?_
        refine dt_aload_n X 0 dX12_takesNumber_54 rfl rfl ?_
        refine dt_aload_n X 0 dX12_takesNumber_55 rfl rfl ?_
        refine dt_get X (T := TX12) (N := 35) (v := .int (dn_g s4 100 18)) 18 (dn_h100 hu) rfl dn_in_X12_takesNumber_12 rfl rfl dn_fw_X12_takesNumber_75 rfl dX12_takesNumber_56 ?_
        refine dt_callI X (dn_runV X (T := TX12) (N := 35) [.int (dn_g s4 100 18)] (dn_h100 hu) rfl rfl (c_X12_letterAt (dn_la g) u hu (dn_g s4 100 18) s4) gX12_takesNumber_X12_letterAt rfl dn_hd_X12_letterAt rfl rfl rfl rfl dX12_takesNumber_59) (fun r12 s10 e11 => ?_)
        refine dt_iadd X dX12_takesNumber_62 ?_
        refine dt_bipush X (v := 48) dX12_takesNumber_63 (by decide) ?_
        refine dt_isub X dX12_takesNumber_65 ?_
        refine dt_sub X [(0, .ref (dn_a u 100)), (1, .int y1), (2, .int y2)] [0, 1, 2] rfl ?_
        exact b_X12_takesNumber_66 hu X (m_X12_takesNumber_9 n) ih y1 y2 (((10 * (dn_g s4 100 20)) + r12) - 48) s10
      · refine dt_aload_n X 0 dX12_takesNumber_40 rfl rfl ?_
        refine dt_get X (T := TX12) (N := 35) (v := .int (dn_g s4 100 20)) 20 (dn_h100 hu) rfl dn_in_X12_takesNumber_12 rfl rfl dn_fw_X12_takesNumber_88 rfl dX12_takesNumber_41 ?_
        refine dt_goto X 66 dX12_takesNumber_44 (by decide) ?_
        refine dt_sub X [(0, .ref (dn_a u 100)), (1, .int y1), (2, .int y2)] [0, 1, 2] rfl ?_
        exact b_X12_takesNumber_66 hu X (m_X12_takesNumber_9 n) ih y1 y2 (dn_g s4 100 20) s4
set_option maxRecDepth 100000 in
set_option maxHeartbeats 4000000 in
theorem c_X12_takesNumber (l : Launch) (u : dn_U) (hu : dn_Lu u = dn_LR) (a1 : Int32) (a2 : Int32) (s : dn_S) : dn_Met l u yX12_takesNumber wsX12_takesNumber 2 41 [.ref (dn_a u 100), .int a1, .int a2] s (m_X12_takesNumber a1 a2 s) (dn_QZ u) := by
  refine dt_entry RX12 [(0, .ref (dn_a u 100)), (1, .int a1), (2, .int a2)] (by decide +kernel) rfl rfl rfl rfl (fun g hgl X => ?_)
  subst hgl
  unfold m_X12_takesNumber
  refine dt_aload_n X 0 dX12_takesNumber_0 rfl rfl ?_
  refine dt_callV X (dn_runV X (T := TX12) (N := 35) [] (dn_h100 hu) rfl rfl (c_X12_blanks (dn_la g) u hu s) gX12_takesNumber_X12_blanks rfl dn_hd_X12_blanks rfl rfl rfl rfl dX12_takesNumber_1) (fun r3 s1 e2 => ?_)
  refine dt_aload_n X 0 dX12_takesNumber_4 rfl rfl ?_
  refine dt_iconst X (v := 0) dX12_takesNumber_5 (by decide) ?_
  refine dt_put X (T := TX12) (N := 35) 20 (dn_h100 hu) rfl dn_in_X12_takesNumber_12 rfl tyX12 tyX12_ok nmX12 rfl rfl dn_fw_X12_takesNumber_88 rfl rfl (dn_set100_20 _ _ _) dX12_takesNumber_6 (fun s4 => ?_)
  refine dt_sub X [(0, .ref (dn_a u 100)), (1, .int a1), (2, .int a2)] [0, 1, 2] rfl ?_
  exact b_X12_takesNumber_9 hu X 2048 a1 a2 s4
set_option maxRecDepth 100000 in
set_option maxHeartbeats 4000000 in
theorem b_X12_takesBidder_60 {g : dn_M} {u : dn_U} (hu : dn_Lu u = dn_LR) (X : dn_X u g cX12_takesBidder wsX12_takesBidder RX12 2 3 64 (some .boolean)) : ∀ (n : Nat) (y1 : Int32) (s : dn_S), dn_T u g 2 (dn_QZ u) (m_X12_takesBidder_60 n y1 s) s 60 [(0, .ref (dn_a u 100)), (1, .int y1)] [] := by
  intro n
  induction n with
  | zero =>
    intro y1 s
    exact dt_none X
  | succ n ih =>
    intro y1 s
    rw [m_X12_takesBidder_60]
    refine dt_iload_n X 1 dX12_takesBidder_60 rfl rfl ?_
    refine dt_iconst X (v := 5) dX12_takesBidder_61 (by decide) ?_
    refine dt_icmp_ge X 100 dX12_takesBidder_62 (by decide) ?_ ?_
    · refine dt_aload_n X 0 dX12_takesBidder_100 rfl rfl ?_
      refine dt_dup X dX12_takesBidder_101 rfl ?_
      refine dt_get X (T := TX12) (N := 35) (v := .int (dn_g s 100 22)) 22 (dn_h100 hu) rfl dn_in_X12_takesBidder_12 rfl rfl dn_fw_X12_takesBidder_95 rfl dX12_takesBidder_102 ?_
      refine dt_iconst X (v := 1) dX12_takesBidder_105 (by decide) ?_
      refine dt_iadd X dX12_takesBidder_106 ?_
      refine dt_put X (T := TX12) (N := 35) 22 (dn_h100 hu) rfl dn_in_X12_takesBidder_12 rfl tyX12 tyX12_ok nmX12 rfl rfl dn_fw_X12_takesBidder_95 rfl rfl (dn_set100_22 _ _ _) dX12_takesBidder_107 (fun s1 => ?_)
      refine dt_iconst X (v := 1) dX12_takesBidder_110 (by decide) ?_
      exact dt_zret (v := true) X dX12_takesBidder_111
    · refine dt_aload_n X 0 dX12_takesBidder_65 rfl rfl ?_
      refine dt_iconst X (v := 0) dX12_takesBidder_66 (by decide) ?_
      refine dt_bipush X (v := 20) dX12_takesBidder_67 (by decide) ?_
      refine dt_callZ X (dn_runV X (T := TX12) (N := 35) [.int 0, .int 20] (dn_h100 hu) rfl rfl (c_X12_takesNumber (dn_la g) u hu 0 20 s) gX12_takesBidder_X12_takesNumber rfl dn_hd_X12_takesNumber rfl rfl rfl rfl dX12_takesBidder_69) (fun r4 s2 e3 => ?_)
      refine dt_if_neb X 77 dX12_takesBidder_72 (by decide) ?_ ?_
      · refine dt_aload_n X 0 dX12_takesBidder_77 rfl rfl ?_
        refine dt_get X (T := TX12) (N := 35) (v := .ref (dn_a u 113)) 25 (dn_h100 hu) rfl dn_in_X12_takesBidder_12 rfl rfl dn_fw_X12_takesBidder_51 rfl dX12_takesBidder_78 ?_
        refine dt_iconst X (v := 5) dX12_takesBidder_81 (by decide) ?_
        refine dt_aload_n X 0 dX12_takesBidder_82 rfl rfl ?_
        refine dt_get X (T := TX12) (N := 35) (v := .int (dn_g s2 100 22)) 22 (dn_h100 hu) rfl dn_in_X12_takesBidder_12 rfl rfl dn_fw_X12_takesBidder_95 rfl dX12_takesBidder_83 ?_
        refine dt_imul X dX12_takesBidder_86 ?_
        refine dt_iload_n X 1 dX12_takesBidder_87 rfl rfl ?_
        refine dt_iadd X dX12_takesBidder_88 ?_
        refine dt_aload_n X 0 dX12_takesBidder_89 rfl rfl ?_
        refine dt_get X (T := TX12) (N := 35) (v := .int (dn_g s2 100 20)) 20 (dn_h100 hu) rfl dn_in_X12_takesBidder_12 rfl rfl dn_fw_X12_takesBidder_88 rfl dX12_takesBidder_90 ?_
        refine dt_iast X (dn_h113 hu) dX12_takesBidder_93 (fun s5 => ?_)
        refine dt_iinc X (v := y1 + 1) 1 [(1, .int (y1 + 1)), (0, .ref (dn_a u 100))] dX12_takesBidder_94 rfl (by rfl) rfl rfl ?_
        refine dt_ilet X rfl (fun x6 => ?_)
        refine dt_goto X 60 dX12_takesBidder_97 (by decide) ?_
        refine dt_sub X [(0, .ref (dn_a u 100)), (1, .int x6)] [1, 0] rfl ?_
        exact ih x6 s5
      · refine dt_iconst X (v := 0) dX12_takesBidder_75 (by decide) ?_
        exact dt_zret (v := false) X dX12_takesBidder_76
set_option maxRecDepth 100000 in
set_option maxHeartbeats 4000000 in
theorem c_X12_takesBidder (l : Launch) (u : dn_U) (hu : dn_Lu u = dn_LR) (s : dn_S) : dn_Met l u yX12_takesBidder wsX12_takesBidder 3 64 [.ref (dn_a u 100)] s (m_X12_takesBidder  s) (dn_QZ u) := by
  refine dt_entry RX12 [(0, .ref (dn_a u 100))] (by decide +kernel) rfl rfl rfl rfl (fun g hgl X => ?_)
  subst hgl
  unfold m_X12_takesBidder
  refine dt_aload_n X 0 dX12_takesBidder_0 rfl rfl ?_
  refine dt_get X (T := TX12) (N := 35) (v := .int (dn_g s 100 22)) 22 (dn_h100 hu) rfl dn_in_X12_takesBidder_12 rfl rfl dn_fw_X12_takesBidder_95 rfl dX12_takesBidder_1 ?_
  refine dt_iconst X (v := 4) dX12_takesBidder_4 (by decide) ?_
  refine dt_icmp_eq X 18 dX12_takesBidder_5 (by decide) ?_ ?_
  · refine dt_iconst X (v := 0) dX12_takesBidder_18 (by decide) ?_
    exact dt_zret (v := false) X dX12_takesBidder_19
  · refine dt_aload_n X 0 dX12_takesBidder_8 rfl rfl ?_
    refine dt_iconst X (v := 0) dX12_takesBidder_9 (by decide) ?_
    refine dt_bipush X (v := 99) dX12_takesBidder_10 (by decide) ?_
    refine dt_callZ X (dn_runV X (T := TX12) (N := 35) [.int 0, .int 99] (dn_h100 hu) rfl rfl (c_X12_takesNumber (dn_la g) u hu 0 99 s) gX12_takesBidder_X12_takesNumber rfl dn_hd_X12_takesNumber rfl rfl rfl rfl dX12_takesBidder_12) (fun r3 s1 e2 => ?_)
    refine dt_if_neb X 20 dX12_takesBidder_15 (by decide) ?_ ?_
    · refine dt_aload_n X 0 dX12_takesBidder_20 rfl rfl ?_
      refine dt_get X (T := TX12) (N := 35) (v := .ref (dn_a u 111)) 23 (dn_h100 hu) rfl dn_in_X12_takesBidder_12 rfl rfl dn_fw_X12_takesBidder_45 rfl dX12_takesBidder_21 ?_
      refine dt_aload_n X 0 dX12_takesBidder_24 rfl rfl ?_
      refine dt_get X (T := TX12) (N := 35) (v := .int (dn_g s1 100 22)) 22 (dn_h100 hu) rfl dn_in_X12_takesBidder_12 rfl rfl dn_fw_X12_takesBidder_95 rfl dX12_takesBidder_25 ?_
      refine dt_aload_n X 0 dX12_takesBidder_28 rfl rfl ?_
      refine dt_get X (T := TX12) (N := 35) (v := .int (dn_g s1 100 20)) 20 (dn_h100 hu) rfl dn_in_X12_takesBidder_12 rfl rfl dn_fw_X12_takesBidder_88 rfl dX12_takesBidder_29 ?_
      refine dt_iast X (dn_h111 hu) dX12_takesBidder_32 (fun s4 => ?_)
      refine dt_aload_n X 0 dX12_takesBidder_33 rfl rfl ?_
      refine dt_iconst X (v := 0) dX12_takesBidder_34 (by decide) ?_
      refine dt_bipush X (v := 9) dX12_takesBidder_35 (by decide) ?_
      refine dt_callZ X (dn_runV X (T := TX12) (N := 35) [.int 0, .int 9] (dn_h100 hu) rfl rfl (c_X12_takesNumber (dn_la g) u hu 0 9 s4) gX12_takesBidder_X12_takesNumber rfl dn_hd_X12_takesNumber rfl rfl rfl rfl dX12_takesBidder_37) (fun r7 s5 e6 => ?_)
      refine dt_if_neb X 45 dX12_takesBidder_40 (by decide) ?_ ?_
      · refine dt_aload_n X 0 dX12_takesBidder_45 rfl rfl ?_
        refine dt_get X (T := TX12) (N := 35) (v := .ref (dn_a u 112)) 24 (dn_h100 hu) rfl dn_in_X12_takesBidder_12 rfl rfl dn_fw_X12_takesBidder_48 rfl dX12_takesBidder_46 ?_
        refine dt_aload_n X 0 dX12_takesBidder_49 rfl rfl ?_
        refine dt_get X (T := TX12) (N := 35) (v := .int (dn_g s5 100 22)) 22 (dn_h100 hu) rfl dn_in_X12_takesBidder_12 rfl rfl dn_fw_X12_takesBidder_95 rfl dX12_takesBidder_50 ?_
        refine dt_aload_n X 0 dX12_takesBidder_53 rfl rfl ?_
        refine dt_get X (T := TX12) (N := 35) (v := .int (dn_g s5 100 20)) 20 (dn_h100 hu) rfl dn_in_X12_takesBidder_12 rfl rfl dn_fw_X12_takesBidder_88 rfl dX12_takesBidder_54 ?_
        refine dt_iast X (dn_h112 hu) dX12_takesBidder_57 (fun s8 => ?_)
        refine dt_iconst X (v := 0) dX12_takesBidder_58 (by decide) ?_
        refine dt_istore_n X [(1, .int 0), (0, .ref (dn_a u 100))] dX12_takesBidder_59 rfl rfl rfl ?_
        refine dt_sub X [(0, .ref (dn_a u 100)), (1, .int 0)] [1, 0] rfl ?_
        exact b_X12_takesBidder_60 hu X 2048 0 s8
      · refine dt_iconst X (v := 0) dX12_takesBidder_43 (by decide) ?_
        exact dt_zret (v := false) X dX12_takesBidder_44
    · refine dt_iconst X (v := 0) dX12_takesBidder_18 (by decide) ?_
      exact dt_zret (v := false) X dX12_takesBidder_19
set_option maxRecDepth 100000 in
set_option maxHeartbeats 4000000 in
theorem b_X12_takesDebt_107 {g : dn_M} {u : dn_U} (hu : dn_Lu u = dn_LR) (X : dn_X u g cX12_takesDebt wsX12_takesDebt RX12 5 3 64 (some .boolean)) (K20 : Int32 → Int32 → dn_S → Option (Bool × dn_S)) (H20 : ∀ (y1 : Int32) (y2 : Int32) (s : dn_S), dn_T u g 5 (dn_QZ u) (K20 y1 y2 s) s 20 [(0, .ref (dn_a u 100)), (1, .int y1), (2, .int y2)] []) (y1 : Int32) (y2 : Int32) (s : dn_S) : dn_T u g 5 (dn_QZ u) (m_X12_takesDebt_107 K20 y1 y2 s) s 107 [(0, .ref (dn_a u 100)), (1, .int y1), (2, .int y2)] [] := by
  unfold m_X12_takesDebt_107
  refine dt_aload_n X 0 dX12_takesDebt_107 rfl rfl ?_
  refine dt_get X (T := TX12) (N := 35) (v := .ref (dn_a u 114)) 29 (dn_h100 hu) rfl dn_in_X12_takesDebt_12 rfl rfl dn_fw_X12_takesDebt_54 rfl dX12_takesDebt_108 ?_
  refine dt_iload_n X 1 dX12_takesDebt_111 rfl rfl ?_
  refine dt_iload_n X 2 dX12_takesDebt_112 rfl rfl ?_
  refine dt_iadd X dX12_takesDebt_113 ?_
  refine dt_aload_n X 0 dX12_takesDebt_114 rfl rfl ?_
  refine dt_get X (T := TX12) (N := 35) (v := .int (dn_g s 100 20)) 20 (dn_h100 hu) rfl dn_in_X12_takesDebt_12 rfl rfl dn_fw_X12_takesDebt_88 rfl dX12_takesDebt_115 ?_
  refine dt_iast X (dn_h114 hu) dX12_takesDebt_118 (fun s1 => ?_)
  refine dt_iinc X (v := y2 + 1) 2 [(2, .int (y2 + 1)), (0, .ref (dn_a u 100)), (1, .int y1)] dX12_takesDebt_119 rfl (by rfl) rfl rfl ?_
  refine dt_ilet X rfl (fun x2 => ?_)
  refine dt_goto X 20 dX12_takesDebt_122 (by decide) ?_
  refine dt_sub X [(0, .ref (dn_a u 100)), (1, .int y1), (2, .int x2)] [1, 2, 0] rfl ?_
  exact H20 y1 x2 s1
set_option maxRecDepth 100000 in
set_option maxHeartbeats 4000000 in
theorem b_X12_takesDebt_75 {g : dn_M} {u : dn_U} (hu : dn_Lu u = dn_LR) (X : dn_X u g cX12_takesDebt wsX12_takesDebt RX12 5 3 64 (some .boolean)) (K20 : Int32 → Int32 → dn_S → Option (Bool × dn_S)) (H20 : ∀ (y1 : Int32) (y2 : Int32) (s : dn_S), dn_T u g 5 (dn_QZ u) (K20 y1 y2 s) s 20 [(0, .ref (dn_a u 100)), (1, .int y1), (2, .int y2)] []) (y1 : Int32) (y2 : Int32) (y3 : Bool) (z0 : Int32) (s : dn_S) : dn_T u g 5 (dn_QZ u) (m_X12_takesDebt_75 K20 y1 y2 y3 z0 s) s 75 [(0, .ref (dn_a u 100)), (1, .int y1), (2, .int y2), (3, .int (dn_b y3))] [.int z0] := by
  unfold m_X12_takesDebt_75
  refine dt_istore X [(4, .int z0), (0, .ref (dn_a u 100)), (1, .int y1), (2, .int y2), (3, .int (dn_b y3))] dX12_takesDebt_75 rfl rfl ?_
  refine dt_aload_n X 1 dX12_takesDebt_77 rfl rfl ?_
  refine dt_iload_n X 4 dX12_takesDebt_78 rfl rfl ?_
  refine dt_iload X 0 dX12_takesDebt_79 rfl ?_
  refine dt_callZ X (dn_runV X (T := TX12) (N := 35) [.int (dn_b y3), .int z0] (dn_h100 hu) rfl rfl (c_X12_takesNumber (dn_la g) u hu (dn_b y3) z0 s) gX12_takesDebt_X12_takesNumber rfl dn_hd_X12_takesNumber rfl rfl rfl rfl dX12_takesDebt_81) (fun r3 s1 e2 => ?_)
  refine dt_if_eqb X 105 dX12_takesDebt_84 (by decide) ?_ ?_
  · refine dt_iconst X (v := 0) dX12_takesDebt_105 (by decide) ?_
    exact dt_zret (v := false) X dX12_takesDebt_106
  · refine dt_iload_n X 3 dX12_takesDebt_87 rfl rfl ?_
    refine dt_iconst X (v := 1) dX12_takesDebt_88 (by decide) ?_
    refine dt_icmp_ne X 107 dX12_takesDebt_89 (by decide) ?_ ?_
    · refine dt_sub X [(0, .ref (dn_a u 100)), (1, .int y1), (2, .int y2)] [1, 2, 3] rfl ?_
      exact b_X12_takesDebt_107 hu X K20 H20 y1 y2 s1
    · refine dt_aload_n X 1 dX12_takesDebt_92 rfl rfl ?_
      refine dt_get X (T := TX12) (N := 35) (v := .int (dn_g s1 100 20)) 20 (dn_h100 hu) rfl dn_in_X12_takesDebt_12 rfl rfl dn_fw_X12_takesDebt_88 rfl dX12_takesDebt_93 ?_
      refine dt_aload_n X 1 dX12_takesDebt_96 rfl rfl ?_
      refine dt_get X (T := TX12) (N := 35) (v := .ref (dn_a u 114)) 29 (dn_h100 hu) rfl dn_in_X12_takesDebt_12 rfl rfl dn_fw_X12_takesDebt_54 rfl dX12_takesDebt_97 ?_
      refine dt_iload_n X 2 dX12_takesDebt_100 rfl rfl ?_
      refine dt_iald X (dn_h114 hu) dX12_takesDebt_101 ?_
      refine dt_icmp_ne X 107 dX12_takesDebt_102 (by decide) ?_ ?_
      · refine dt_sub X [(0, .ref (dn_a u 100)), (1, .int y1), (2, .int y2)] [1, 2, 3] rfl ?_
        exact b_X12_takesDebt_107 hu X K20 H20 y1 y2 s1
      · refine dt_iconst X (v := 0) dX12_takesDebt_105 (by decide) ?_
        exact dt_zret (v := false) X dX12_takesDebt_106
set_option maxRecDepth 100000 in
set_option maxHeartbeats 4000000 in
theorem b_X12_takesDebt_40 {g : dn_M} {u : dn_U} (hu : dn_Lu u = dn_LR) (X : dn_X u g cX12_takesDebt wsX12_takesDebt RX12 5 3 64 (some .boolean)) (K20 : Int32 → Int32 → dn_S → Option (Bool × dn_S)) (H20 : ∀ (y1 : Int32) (y2 : Int32) (s : dn_S), dn_T u g 5 (dn_QZ u) (K20 y1 y2 s) s 20 [(0, .ref (dn_a u 100)), (1, .int y1), (2, .int y2)] []) (y1 : Int32) (y2 : Int32) (z0 : Bool) (s : dn_S) : dn_T u g 5 (dn_QZ u) (m_X12_takesDebt_40 K20 y1 y2 z0 s) s 40 [(0, .ref (dn_a u 100)), (1, .int y1), (2, .int y2)] [.int (dn_b z0)] := by
  unfold m_X12_takesDebt_40
  refine dt_istore_n X [(3, .int (dn_b z0)), (0, .ref (dn_a u 100)), (1, .int y1), (2, .int y2)] dX12_takesDebt_40 rfl rfl rfl ?_
  refine dt_iload_n X 3 dX12_takesDebt_41 rfl rfl ?_
  refine dt_iconst X (v := 2) dX12_takesDebt_42 (by decide) ?_
  refine dt_icmp_ge X 55 dX12_takesDebt_43 (by decide) ?_ ?_
  · refine dt_iload_n X 3 dX12_takesDebt_55 rfl rfl ?_
    refine dt_iconst X (v := 2) dX12_takesDebt_56 (by decide) ?_
    refine dt_icmp_ne X 65 dX12_takesDebt_57 (by decide) ?_ ?_
    · refine dt_iload_n X 3 dX12_takesDebt_65 rfl rfl ?_
      refine dt_iconst X (v := 3) dX12_takesDebt_66 (by decide) ?_
      refine dt_icmp_ne X 74 dX12_takesDebt_67 (by decide) ?_ ?_
      · refine dt_iconst X (v := 4) dX12_takesDebt_74 (by decide) ?_
        refine dt_sub X [(0, .ref (dn_a u 100)), (1, .int y1), (2, .int y2), (3, .int (dn_b z0))] [1, 2, 3, 0] rfl ?_
        exact b_X12_takesDebt_75 hu X K20 H20 y1 y2 z0 4 s
      · refine dt_iconst X (v := 5) dX12_takesDebt_70 (by decide) ?_
        refine dt_goto X 75 dX12_takesDebt_71 (by decide) ?_
        refine dt_sub X [(0, .ref (dn_a u 100)), (1, .int y1), (2, .int y2), (3, .int (dn_b z0))] [1, 2, 3, 0] rfl ?_
        exact b_X12_takesDebt_75 hu X K20 H20 y1 y2 z0 5 s
    · refine dt_bipush X (v := 50) dX12_takesDebt_60 (by decide) ?_
      refine dt_goto X 75 dX12_takesDebt_62 (by decide) ?_
      refine dt_sub X [(0, .ref (dn_a u 100)), (1, .int y1), (2, .int y2), (3, .int (dn_b z0))] [1, 2, 3, 0] rfl ?_
      exact b_X12_takesDebt_75 hu X K20 H20 y1 y2 z0 50 s
  · refine dt_aload_n X 1 dX12_takesDebt_46 rfl rfl ?_
    refine dt_get X (T := TX12) (N := 35) (v := .int (dn_g s 100 22)) 22 (dn_h100 hu) rfl dn_in_X12_takesDebt_12 rfl rfl dn_fw_X12_takesDebt_95 rfl dX12_takesDebt_47 ?_
    refine dt_iconst X (v := 1) dX12_takesDebt_50 (by decide) ?_
    refine dt_isub X dX12_takesDebt_51 ?_
    refine dt_goto X 75 dX12_takesDebt_52 (by decide) ?_
    refine dt_sub X [(0, .ref (dn_a u 100)), (1, .int y1), (2, .int y2), (3, .int (dn_b z0))] [1, 2, 3, 0] rfl ?_
    exact b_X12_takesDebt_75 hu X K20 H20 y1 y2 z0 ((dn_g s 100 22) - 1) s
set_option maxRecDepth 100000 in
set_option maxHeartbeats 4000000 in
theorem b_X12_takesDebt_35 {g : dn_M} {u : dn_U} (hu : dn_Lu u = dn_LR) (X : dn_X u g cX12_takesDebt wsX12_takesDebt RX12 5 3 64 (some .boolean)) (K20 : Int32 → Int32 → dn_S → Option (Bool × dn_S)) (H20 : ∀ (y1 : Int32) (y2 : Int32) (s : dn_S), dn_T u g 5 (dn_QZ u) (K20 y1 y2 s) s 20 [(0, .ref (dn_a u 100)), (1, .int y1), (2, .int y2)] []) (y1 : Int32) (y2 : Int32) (s : dn_S) : dn_T u g 5 (dn_QZ u) (m_X12_takesDebt_35 K20 y1 y2 s) s 35 [(0, .ref (dn_a u 100)), (1, .int y1), (2, .int y2)] [] := by
  unfold m_X12_takesDebt_35
  refine dt_iconst X (v := 1) dX12_takesDebt_35 (by decide) ?_
  refine dt_goto X 40 dX12_takesDebt_36 (by decide) ?_
  refine dt_sub X [(0, .ref (dn_a u 100)), (1, .int y1), (2, .int y2)] [0, 1, 2] rfl ?_
  exact b_X12_takesDebt_40 hu X K20 H20 y1 y2 true s
set_option maxRecDepth 100000 in
set_option maxHeartbeats 4000000 in
theorem b_X12_takesDebt_20 {g : dn_M} {u : dn_U} (hu : dn_Lu u = dn_LR) (X : dn_X u g cX12_takesDebt wsX12_takesDebt RX12 5 3 64 (some .boolean)) : ∀ (n : Nat) (y1 : Int32) (y2 : Int32) (s : dn_S), dn_T u g 5 (dn_QZ u) (m_X12_takesDebt_20 n y1 y2 s) s 20 [(0, .ref (dn_a u 100)), (1, .int y1), (2, .int y2)] [] := by
  intro n
  induction n with
  | zero =>
    intro y1 y2 s
    exact dt_none X
  | succ n ih =>
    intro y1 y2 s
    rw [m_X12_takesDebt_20]
    refine dt_iload_n X 2 dX12_takesDebt_20 rfl rfl ?_
    refine dt_iconst X (v := 5) dX12_takesDebt_21 (by decide) ?_
    refine dt_icmp_ge X 125 dX12_takesDebt_22 (by decide) ?_ ?_
    · refine dt_aload_n X 0 dX12_takesDebt_125 rfl rfl ?_
      refine dt_dup X dX12_takesDebt_126 rfl ?_
      refine dt_get X (T := TX12) (N := 35) (v := .int (dn_g s 100 28)) 28 (dn_h100 hu) rfl dn_in_X12_takesDebt_12 rfl rfl dn_fw_X12_takesDebt_102 rfl dX12_takesDebt_127 ?_
      refine dt_iconst X (v := 1) dX12_takesDebt_130 (by decide) ?_
      refine dt_iadd X dX12_takesDebt_131 ?_
      refine dt_put X (T := TX12) (N := 35) 28 (dn_h100 hu) rfl dn_in_X12_takesDebt_12 rfl tyX12 tyX12_ok nmX12 rfl rfl dn_fw_X12_takesDebt_102 rfl rfl (dn_set100_28 _ _ _) dX12_takesDebt_132 (fun s1 => ?_)
      refine dt_iconst X (v := 1) dX12_takesDebt_135 (by decide) ?_
      exact dt_zret (v := true) X dX12_takesDebt_136
    · refine dt_iload_n X 2 dX12_takesDebt_25 rfl rfl ?_
      refine dt_iconst X (v := 2) dX12_takesDebt_26 (by decide) ?_
      refine dt_icmp_eq X 35 dX12_takesDebt_27 (by decide) ?_ ?_
      · refine dt_sub X [(0, .ref (dn_a u 100)), (1, .int y1), (2, .int y2)] [0, 1, 2] rfl ?_
        exact b_X12_takesDebt_35 hu X (m_X12_takesDebt_20 n) ih y1 y2 s
      · refine dt_iload_n X 2 dX12_takesDebt_30 rfl rfl ?_
        refine dt_iconst X (v := 3) dX12_takesDebt_31 (by decide) ?_
        refine dt_icmp_ne X 39 dX12_takesDebt_32 (by decide) ?_ ?_
        · refine dt_iconst X (v := 0) dX12_takesDebt_39 (by decide) ?_
          refine dt_sub X [(0, .ref (dn_a u 100)), (1, .int y1), (2, .int y2)] [0, 1, 2] rfl ?_
          exact b_X12_takesDebt_40 hu X (m_X12_takesDebt_20 n) ih y1 y2 false s
        · refine dt_sub X [(0, .ref (dn_a u 100)), (1, .int y1), (2, .int y2)] [0, 1, 2] rfl ?_
          exact b_X12_takesDebt_35 hu X (m_X12_takesDebt_20 n) ih y1 y2 s
set_option maxRecDepth 100000 in
set_option maxHeartbeats 4000000 in
theorem c_X12_takesDebt (l : Launch) (u : dn_U) (hu : dn_Lu u = dn_LR) (s : dn_S) : dn_Met l u yX12_takesDebt wsX12_takesDebt 3 64 [.ref (dn_a u 100)] s (m_X12_takesDebt  s) (dn_QZ u) := by
  refine dt_entry RX12 [(0, .ref (dn_a u 100))] (by decide +kernel) rfl rfl rfl rfl (fun g hgl X => ?_)
  subst hgl
  unfold m_X12_takesDebt
  refine dt_aload_n X 0 dX12_takesDebt_0 rfl rfl ?_
  refine dt_get X (T := TX12) (N := 35) (v := .int (dn_g s 100 28)) 28 (dn_h100 hu) rfl dn_in_X12_takesDebt_12 rfl rfl dn_fw_X12_takesDebt_102 rfl dX12_takesDebt_1 ?_
  refine dt_bipush X (v := 6) dX12_takesDebt_4 (by decide) ?_
  refine dt_icmp_ne X 11 dX12_takesDebt_6 (by decide) ?_ ?_
  · refine dt_iconst X (v := 5) dX12_takesDebt_11 (by decide) ?_
    refine dt_aload_n X 0 dX12_takesDebt_12 rfl rfl ?_
    refine dt_get X (T := TX12) (N := 35) (v := .int (dn_g s 100 28)) 28 (dn_h100 hu) rfl dn_in_X12_takesDebt_12 rfl rfl dn_fw_X12_takesDebt_102 rfl dX12_takesDebt_13 ?_
    refine dt_imul X dX12_takesDebt_16 ?_
    refine dt_let X (fun x1 => ?_)
    refine dt_istore_n X [(1, .int x1), (0, .ref (dn_a u 100))] dX12_takesDebt_17 rfl rfl rfl ?_
    refine dt_iconst X (v := 0) dX12_takesDebt_18 (by decide) ?_
    refine dt_istore_n X [(2, .int 0), (1, .int x1), (0, .ref (dn_a u 100))] dX12_takesDebt_19 rfl rfl rfl ?_
    refine dt_sub X [(0, .ref (dn_a u 100)), (1, .int x1), (2, .int 0)] [2, 1, 0] rfl ?_
    exact b_X12_takesDebt_20 hu X 2048 x1 0 s
  · refine dt_iconst X (v := 0) dX12_takesDebt_9 (by decide) ?_
    exact dt_zret (v := false) X dX12_takesDebt_10
set_option maxRecDepth 100000 in
set_option maxHeartbeats 4000000 in
theorem c_X12_takesBar (l : Launch) (u : dn_U) (hu : dn_Lu u = dn_LR) (s : dn_S) : dn_Met l u yX12_takesBar wsX12_takesBar 3 64 [.ref (dn_a u 100)] s (m_X12_takesBar  s) (dn_QZ u) := by
  refine dt_entry RX12 [(0, .ref (dn_a u 100))] (by decide +kernel) rfl rfl rfl rfl (fun g hgl X => ?_)
  subst hgl
  unfold m_X12_takesBar
  refine dt_aload_n X 0 dX12_takesBar_0 rfl rfl ?_
  refine dt_get X (T := TX12) (N := 35) (v := .int (dn_g s 100 27)) 27 (dn_h100 hu) rfl dn_in_X12_takesBar_12 rfl rfl dn_fw_X12_takesBar_105 rfl dX12_takesBar_1 ?_
  refine dt_if_ne X 17 dX12_takesBar_4 (by decide) ?_ ?_
  · refine dt_iconst X (v := 0) dX12_takesBar_17 (by decide) ?_
    exact dt_zret (v := false) X dX12_takesBar_18
  · refine dt_aload_n X 0 dX12_takesBar_7 rfl rfl ?_
    refine dt_iconst X (v := 0) dX12_takesBar_8 (by decide) ?_
    refine dt_bipush X (v := 7) dX12_takesBar_9 (by decide) ?_
    refine dt_callZ X (dn_runV X (T := TX12) (N := 35) [.int 0, .int 7] (dn_h100 hu) rfl rfl (c_X12_takesNumber (dn_la g) u hu 0 7 s) gX12_takesBar_X12_takesNumber rfl dn_hd_X12_takesNumber rfl rfl rfl rfl dX12_takesBar_11) (fun r3 s1 e2 => ?_)
    refine dt_if_neb X 19 dX12_takesBar_14 (by decide) ?_ ?_
    · refine dt_aload_n X 0 dX12_takesBar_19 rfl rfl ?_
      refine dt_iconst X (v := 1) dX12_takesBar_20 (by decide) ?_
      refine dt_putz X (v := true) (T := TX12) (N := 35) 27 (dn_h100 hu) rfl dn_in_X12_takesBar_12 rfl tyX12 tyX12_ok nmX12 rfl rfl dn_fw_X12_takesBar_105 rfl rfl (dn_set100_27 _ _ _) dX12_takesBar_21 (fun s4 => ?_)
      refine dt_aload_n X 0 dX12_takesBar_24 rfl rfl ?_
      refine dt_aload_n X 0 dX12_takesBar_25 rfl rfl ?_
      refine dt_get X (T := TX12) (N := 35) (v := .int (dn_g s4 100 20)) 20 (dn_h100 hu) rfl dn_in_X12_takesBar_12 rfl rfl dn_fw_X12_takesBar_88 rfl dX12_takesBar_26 ?_
      refine dt_put X (T := TX12) (N := 35) 26 (dn_h100 hu) rfl dn_in_X12_takesBar_12 rfl tyX12 tyX12_ok nmX12 rfl rfl dn_fw_X12_takesBar_63 rfl rfl (dn_set100_26 _ _ _) dX12_takesBar_29 (fun s5 => ?_)
      refine dt_iconst X (v := 1) dX12_takesBar_32 (by decide) ?_
      exact dt_zret (v := true) X dX12_takesBar_33
    · refine dt_iconst X (v := 0) dX12_takesBar_17 (by decide) ?_
      exact dt_zret (v := false) X dX12_takesBar_18
set_option maxRecDepth 100000 in
set_option maxHeartbeats 4000000 in
theorem b_X12_takesItem_107 {g : dn_M} {u : dn_U} (hu : dn_Lu u = dn_LR) (X : dn_X u g cX12_takesItem wsX12_takesItem RX12 4 4 88 (some .boolean)) (y3 : Bool) (z0 : Bool) (z1 : Int32) (s : dn_S) : dn_T u g 4 (dn_QZ u) (m_X12_takesItem_107 y3 z0 z1 s) s 107 [(3, .int (dn_b y3))] [.int (dn_b z0), .int z1, .ref (dn_a u 100)] := by
  unfold m_X12_takesItem_107
  refine dt_iadd X dX12_takesItem_107 ?_
  refine dt_put X (T := TX12) (N := 35) 18 (dn_h100 hu) rfl dn_in_X12_takesItem_12 rfl tyX12 tyX12_ok nmX12 rfl rfl dn_fw_X12_takesItem_75 rfl rfl (dn_set100_18 _ _ _) dX12_takesItem_108 (fun s1 => ?_)
  refine dt_iload_n X 0 dX12_takesItem_111 rfl rfl ?_
  exact dt_zret (v := y3) X dX12_takesItem_112
set_option maxRecDepth 100000 in
set_option maxHeartbeats 4000000 in
theorem b_X12_takesItem_92 {g : dn_M} {u : dn_U} (hu : dn_Lu u = dn_LR) (X : dn_X u g cX12_takesItem wsX12_takesItem RX12 4 4 88 (some .boolean)) (z0 : Bool) (s : dn_S) : dn_T u g 4 (dn_QZ u) (m_X12_takesItem_92 z0 s) s 92 [(0, .ref (dn_a u 100))] [.int (dn_b z0)] := by
  unfold m_X12_takesItem_92
  refine dt_istore_n X [(3, .int (dn_b z0)), (0, .ref (dn_a u 100))] dX12_takesItem_92 rfl rfl rfl ?_
  refine dt_aload_n X 1 dX12_takesItem_93 rfl rfl ?_
  refine dt_dup X dX12_takesItem_94 rfl ?_
  refine dt_get X (T := TX12) (N := 35) (v := .int (dn_g s 100 18)) 18 (dn_h100 hu) rfl dn_in_X12_takesItem_12 rfl rfl dn_fw_X12_takesItem_75 rfl dX12_takesItem_95 ?_
  refine dt_iload_n X 0 dX12_takesItem_98 rfl rfl ?_
  refine dt_if_eqb X 106 dX12_takesItem_99 (by decide) ?_ ?_
  · refine dt_iconst X (v := 0) dX12_takesItem_106 (by decide) ?_
    refine dt_sub X [(3, .int (dn_b z0))] [0] rfl ?_
    exact b_X12_takesItem_107 hu X z0 false (dn_g s 100 18) s
  · refine dt_iconst X (v := 1) dX12_takesItem_102 (by decide) ?_
    refine dt_goto X 107 dX12_takesItem_103 (by decide) ?_
    refine dt_sub X [(3, .int (dn_b z0))] [0] rfl ?_
    exact b_X12_takesItem_107 hu X z0 true (dn_g s 100 18) s
set_option maxRecDepth 100000 in
set_option maxHeartbeats 4000000 in
theorem b_X12_takesItem_63 {g : dn_M} {u : dn_U} (hu : dn_Lu u = dn_LR) (X : dn_X u g cX12_takesItem wsX12_takesItem RX12 4 4 88 (some .boolean)) (z0 : Bool) (s : dn_S) : dn_T u g 4 (dn_QZ u) (m_X12_takesItem_63 z0 s) s 63 [(0, .ref (dn_a u 100))] [.int (dn_b z0)] := by
  unfold m_X12_takesItem_63
  refine dt_istore_n X [(2, .int (dn_b z0)), (0, .ref (dn_a u 100))] dX12_takesItem_63 rfl rfl rfl ?_
  refine dt_iload_n X 0 dX12_takesItem_64 rfl rfl ?_
  refine dt_if_neb X 70 dX12_takesItem_65 (by decide) ?_ ?_
  · refine dt_aload_n X 1 dX12_takesItem_70 rfl rfl ?_
    refine dt_callV X (dn_runV X (T := TX12) (N := 35) [] (dn_h100 hu) rfl rfl (c_X12_blanks (dn_la g) u hu s) gX12_takesItem_X12_blanks rfl dn_hd_X12_blanks rfl rfl rfl rfl dX12_takesItem_71) (fun r3 s1 e2 => ?_)
    refine dt_aload_n X 1 dX12_takesItem_74 rfl rfl ?_
    refine dt_aload_n X 1 dX12_takesItem_75 rfl rfl ?_
    refine dt_get X (T := TX12) (N := 35) (v := .int (dn_g s1 100 18)) 18 (dn_h100 hu) rfl dn_in_X12_takesItem_12 rfl rfl dn_fw_X12_takesItem_75 rfl dX12_takesItem_76 ?_
    refine dt_callI X (dn_runV X (T := TX12) (N := 35) [.int (dn_g s1 100 18)] (dn_h100 hu) rfl rfl (c_X12_letterAt (dn_la g) u hu (dn_g s1 100 18) s1) gX12_takesItem_X12_letterAt rfl dn_hd_X12_letterAt rfl rfl rfl rfl dX12_takesItem_79) (fun r6 s4 e5 => ?_)
    refine dt_bipush X (v := 59) dX12_takesItem_82 (by decide) ?_
    refine dt_icmp_ne X 91 dX12_takesItem_84 (by decide) ?_ ?_
    · refine dt_iconst X (v := 0) dX12_takesItem_91 (by decide) ?_
      refine dt_sub X [(0, .ref (dn_a u 100))] [1] rfl ?_
      exact b_X12_takesItem_92 hu X false s4
    · refine dt_iconst X (v := 1) dX12_takesItem_87 (by decide) ?_
      refine dt_goto X 92 dX12_takesItem_88 (by decide) ?_
      refine dt_sub X [(0, .ref (dn_a u 100))] [1] rfl ?_
      exact b_X12_takesItem_92 hu X true s4
  · refine dt_iconst X (v := 0) dX12_takesItem_68 (by decide) ?_
    exact dt_zret (v := false) X dX12_takesItem_69
set_option maxRecDepth 100000 in
set_option maxHeartbeats 4000000 in
theorem b_X12_takesItem_62 {g : dn_M} {u : dn_U} (hu : dn_Lu u = dn_LR) (X : dn_X u g cX12_takesItem wsX12_takesItem RX12 4 4 88 (some .boolean)) (s : dn_S) : dn_T u g 4 (dn_QZ u) (m_X12_takesItem_62 s) s 62 [(0, .ref (dn_a u 100))] [] := by
  unfold m_X12_takesItem_62
  refine dt_iconst X (v := 0) dX12_takesItem_62 (by decide) ?_
  refine dt_sub X [(0, .ref (dn_a u 100))] [0] rfl ?_
  exact b_X12_takesItem_63 hu X false s
set_option maxRecDepth 100000 in
set_option maxHeartbeats 4000000 in
theorem c_X12_takesItem (l : Launch) (u : dn_U) (hu : dn_Lu u = dn_LR) (s : dn_S) : dn_Met l u yX12_takesItem wsX12_takesItem 4 88 [.ref (dn_a u 100)] s (m_X12_takesItem  s) (dn_QZ u) := by
  refine dt_entry RX12 [(0, .ref (dn_a u 100))] (by decide +kernel) rfl rfl rfl rfl (fun g hgl X => ?_)
  subst hgl
  unfold m_X12_takesItem
  refine dt_aload_n X 0 dX12_takesItem_0 rfl rfl ?_
  refine dt_aload_n X 0 dX12_takesItem_1 rfl rfl ?_
  refine dt_get X (T := TX12) (N := 35) (v := .int (dn_g s 100 18)) 18 (dn_h100 hu) rfl dn_in_X12_takesItem_12 rfl rfl dn_fw_X12_takesItem_75 rfl dX12_takesItem_2 ?_
  refine dt_callI X (dn_runV X (T := TX12) (N := 35) [.int (dn_g s 100 18)] (dn_h100 hu) rfl rfl (c_X12_letterAt (dn_la g) u hu (dn_g s 100 18) s) gX12_takesItem_X12_letterAt rfl dn_hd_X12_letterAt rfl rfl rfl rfl dX12_takesItem_5) (fun r3 s1 e2 => ?_)
  refine dt_istore_n X [(1, .int r3), (0, .ref (dn_a u 100))] dX12_takesItem_8 rfl rfl rfl ?_
  refine dt_aload_n X 1 dX12_takesItem_9 rfl rfl ?_
  refine dt_dup X dX12_takesItem_10 rfl ?_
  refine dt_get X (T := TX12) (N := 35) (v := .int (dn_g s1 100 18)) 18 (dn_h100 hu) rfl dn_in_X12_takesItem_12 rfl rfl dn_fw_X12_takesItem_75 rfl dX12_takesItem_11 ?_
  refine dt_iconst X (v := 1) dX12_takesItem_14 (by decide) ?_
  refine dt_iadd X dX12_takesItem_15 ?_
  refine dt_put X (T := TX12) (N := 35) 18 (dn_h100 hu) rfl dn_in_X12_takesItem_12 rfl tyX12 tyX12_ok nmX12 rfl rfl dn_fw_X12_takesItem_75 rfl rfl (dn_set100_18 _ _ _) dX12_takesItem_16 (fun s4 => ?_)
  refine dt_iload_n X 0 dX12_takesItem_19 rfl rfl ?_
  refine dt_bipush X (v := 98) dX12_takesItem_20 (by decide) ?_
  refine dt_icmp_ne X 32 dX12_takesItem_22 (by decide) ?_ ?_
  · refine dt_iload_n X 0 dX12_takesItem_32 rfl rfl ?_
    refine dt_bipush X (v := 111) dX12_takesItem_33 (by decide) ?_
    refine dt_icmp_ne X 45 dX12_takesItem_35 (by decide) ?_ ?_
    · refine dt_iload_n X 0 dX12_takesItem_45 rfl rfl ?_
      refine dt_bipush X (v := 114) dX12_takesItem_46 (by decide) ?_
      refine dt_icmp_ne X 62 dX12_takesItem_48 (by decide) ?_ ?_
      · refine dt_sub X [(0, .ref (dn_a u 100))] [1] rfl ?_
        exact b_X12_takesItem_62 hu X s4
      · refine dt_aload_n X 1 dX12_takesItem_51 rfl rfl ?_
        refine dt_callZ X (dn_runV X (T := TX12) (N := 35) [] (dn_h100 hu) rfl rfl (c_X12_takesBar (dn_la g) u hu s4) gX12_takesItem_X12_takesBar rfl dn_hd_X12_takesBar rfl rfl rfl rfl dX12_takesItem_52) (fun r7 s5 e6 => ?_)
        refine dt_if_eqb X 62 dX12_takesItem_55 (by decide) ?_ ?_
        · refine dt_sub X [(0, .ref (dn_a u 100))] [1] rfl ?_
          exact b_X12_takesItem_62 hu X s5
        · refine dt_iconst X (v := 1) dX12_takesItem_58 (by decide) ?_
          refine dt_goto X 63 dX12_takesItem_59 (by decide) ?_
          refine dt_sub X [(0, .ref (dn_a u 100))] [1] rfl ?_
          exact b_X12_takesItem_63 hu X true s5
    · refine dt_aload_n X 1 dX12_takesItem_38 rfl rfl ?_
      refine dt_callZ X (dn_runV X (T := TX12) (N := 35) [] (dn_h100 hu) rfl rfl (c_X12_takesDebt (dn_la g) u hu s4) gX12_takesItem_X12_takesDebt rfl dn_hd_X12_takesDebt rfl rfl rfl rfl dX12_takesItem_39) (fun r10 s8 e9 => ?_)
      refine dt_goto X 63 dX12_takesItem_42 (by decide) ?_
      refine dt_sub X [(0, .ref (dn_a u 100))] [1] rfl ?_
      exact b_X12_takesItem_63 hu X r10 s8
  · refine dt_aload_n X 1 dX12_takesItem_25 rfl rfl ?_
    refine dt_callZ X (dn_runV X (T := TX12) (N := 35) [] (dn_h100 hu) rfl rfl (c_X12_takesBidder (dn_la g) u hu s4) gX12_takesItem_X12_takesBidder rfl dn_hd_X12_takesBidder rfl rfl rfl rfl dX12_takesItem_26) (fun r13 s11 e12 => ?_)
    refine dt_goto X 63 dX12_takesItem_29 (by decide) ?_
    refine dt_sub X [(0, .ref (dn_a u 100))] [1] rfl ?_
    exact b_X12_takesItem_63 hu X r13 s11
set_option maxRecDepth 100000 in
set_option maxHeartbeats 4000000 in
theorem b_X12_town_213 {g : dn_M} {u : dn_U} (hu : dn_Lu u = dn_LR) (X : dn_X u g cX12_town wsX12_town RX12 2 5 111 (some .int)) : ∀ (n : Nat) (y1 : Int32) (s : dn_S), dn_T u g 2 (dn_QI u) (m_X12_town_213 n y1 s) s 213 [(0, .ref (dn_a u 100)), (1, .int y1)] [] := by
  intro n
  induction n with
  | zero =>
    intro y1 s
    exact dt_none X
  | succ n ih =>
    intro y1 s
    rw [m_X12_town_213]
    refine dt_iload_n X 1 dX12_town_213 rfl rfl ?_
    refine dt_aload_n X 0 dX12_town_214 rfl rfl ?_
    refine dt_get X (T := TX12) (N := 35) (v := .int (dn_g s 100 3)) 3 (dn_h100 hu) rfl dn_in_X12_town_12 rfl rfl dn_fw_X12_town_125 rfl dX12_town_215 ?_
    refine dt_icmp_ge X 242 dX12_town_218 (by decide) ?_ ?_
    · refine dt_aload_n X 0 dX12_town_242 rfl rfl ?_
      refine dt_iconst X (v := 0) dX12_town_243 (by decide) ?_
      refine dt_put X (T := TX12) (N := 35) 10 (dn_h100 hu) rfl dn_in_X12_town_12 rfl tyX12 tyX12_ok nmX12 rfl rfl dn_fw_X12_town_131 rfl rfl (dn_set100_10 _ _ _) dX12_town_244 (fun s1 => ?_)
      refine dt_aload_n X 0 dX12_town_247 rfl rfl ?_
      refine dt_iconst X (v := 0) dX12_town_248 (by decide) ?_
      refine dt_put X (T := TX12) (N := 35) 13 (dn_h100 hu) rfl dn_in_X12_town_12 rfl tyX12 tyX12_ok nmX12 rfl rfl dn_fw_X12_town_134 rfl rfl (dn_set100_13 _ _ _) dX12_town_249 (fun s2 => ?_)
      refine dt_aload_n X 0 dX12_town_252 rfl rfl ?_
      refine dt_iconst X (v := 0) dX12_town_253 (by decide) ?_
      refine dt_put X (T := TX12) (N := 35) 1 (dn_h100 hu) rfl dn_in_X12_town_12 rfl tyX12 tyX12_ok nmX12 rfl rfl dn_fw_X12_town_137 rfl rfl (dn_set100_1 _ _ _) dX12_town_254 (fun s3 => ?_)
      refine dt_aload_n X 0 dX12_town_257 rfl rfl ?_
      refine dt_get X (T := TX12) (N := 35) (v := .ref (dn_a u 102)) 2 (dn_h100 hu) rfl dn_in_X12_town_12 rfl rfl dn_fw_X12_town_13 rfl dX12_town_258 ?_
      refine dt_iconst X (v := 0) dX12_town_261 (by decide) ?_
      refine dt_iconst X (v := 0) dX12_town_262 (by decide) ?_
      refine dt_zast X (v := false) (dn_h102 hu) dX12_town_263 (fun s4 => ?_)
      refine dt_aload_n X 0 dX12_town_264 rfl rfl ?_
      refine dt_get X (T := TX12) (N := 35) (v := .ref (dn_a u 102)) 2 (dn_h100 hu) rfl dn_in_X12_town_12 rfl rfl dn_fw_X12_town_13 rfl dX12_town_265 ?_
      refine dt_iconst X (v := 1) dX12_town_268 (by decide) ?_
      refine dt_iconst X (v := 0) dX12_town_269 (by decide) ?_
      refine dt_zast X (v := false) (dn_h102 hu) dX12_town_270 (fun s5 => ?_)
      refine dt_aload_n X 0 dX12_town_271 rfl rfl ?_
      refine dt_iconst X (v := 0) dX12_town_272 (by decide) ?_
      refine dt_put X (T := TX12) (N := 35) 17 (dn_h100 hu) rfl dn_in_X12_town_12 rfl tyX12 tyX12_ok nmX12 rfl rfl dn_fw_X12_town_72 rfl rfl (dn_set100_17 _ _ _) dX12_town_273 (fun s6 => ?_)
      refine dt_aload_n X 0 dX12_town_276 rfl rfl ?_
      refine dt_get X (T := TX12) (N := 35) (v := .int (dn_g s6 100 21)) 21 (dn_h100 hu) rfl dn_in_X12_town_12 rfl rfl dn_fw_X12_town_119 rfl dX12_town_277 ?_
      exact dt_iret X dX12_town_280
    · refine dt_aload_n X 0 dX12_town_221 rfl rfl ?_
      refine dt_get X (T := TX12) (N := 35) (v := .ref (dn_a u 101)) 0 (dn_h100 hu) rfl dn_in_X12_town_12 rfl rfl dn_fw_X12_town_7 rfl dX12_town_222 ?_
      refine dt_bipush X (v := 6) dX12_town_225 (by decide) ?_
      refine dt_iload_n X 1 dX12_town_227 rfl rfl ?_
      refine dt_iadd X dX12_town_228 ?_
      refine dt_aload_n X 0 dX12_town_229 rfl rfl ?_
      refine dt_get X (T := TX12) (N := 35) (v := .ref (dn_a u 103)) 4 (dn_h100 hu) rfl dn_in_X12_town_12 rfl rfl dn_fw_X12_town_17 rfl dX12_town_230 ?_
      refine dt_iload_n X 1 dX12_town_233 rfl rfl ?_
      refine dt_iald X (dn_h103 hu) dX12_town_234 ?_
      refine dt_iast X (dn_h101 hu) dX12_town_235 (fun s7 => ?_)
      refine dt_iinc X (v := y1 + 1) 1 [(1, .int (y1 + 1)), (0, .ref (dn_a u 100))] dX12_town_236 rfl (by rfl) rfl rfl ?_
      refine dt_ilet X rfl (fun x8 => ?_)
      refine dt_goto X 213 dX12_town_239 (by decide) ?_
      refine dt_sub X [(0, .ref (dn_a u 100)), (1, .int x8)] [1, 0] rfl ?_
      exact ih x8 s7
set_option maxRecDepth 100000 in
set_option maxHeartbeats 4000000 in
theorem b_X12_town_192 {g : dn_M} {u : dn_U} (hu : dn_Lu u = dn_LR) (X : dn_X u g cX12_town wsX12_town RX12 2 5 111 (some .int)) : ∀ (n : Nat) (y1 : Int32) (s : dn_S), dn_T u g 2 (dn_QI u) (m_X12_town_192 n y1 s) s 192 [(0, .ref (dn_a u 100)), (1, .int y1)] [] := by
  intro n
  induction n with
  | zero =>
    intro y1 s
    exact dt_none X
  | succ n ih =>
    intro y1 s
    rw [m_X12_town_192]
    refine dt_iload_n X 1 dX12_town_192 rfl rfl ?_
    refine dt_bipush X (v := 120) dX12_town_193 (by decide) ?_
    refine dt_icmp_ge X 211 dX12_town_195 (by decide) ?_ ?_
    · refine dt_iconst X (v := 0) dX12_town_211 (by decide) ?_
      refine dt_istore_n X [(1, .int 0), (0, .ref (dn_a u 100))] dX12_town_212 rfl rfl rfl ?_
      refine dt_sub X [(0, .ref (dn_a u 100)), (1, .int 0)] [1, 0] rfl ?_
      exact b_X12_town_213 hu X 2048 0 s
    · refine dt_aload_n X 0 dX12_town_198 rfl rfl ?_
      refine dt_get X (T := TX12) (N := 35) (v := .ref (dn_a u 101)) 0 (dn_h100 hu) rfl dn_in_X12_town_12 rfl rfl dn_fw_X12_town_7 rfl dX12_town_199 ?_
      refine dt_iload_n X 1 dX12_town_202 rfl rfl ?_
      refine dt_iconst X (v := 0) dX12_town_203 (by decide) ?_
      refine dt_iast X (dn_h101 hu) dX12_town_204 (fun s1 => ?_)
      refine dt_iinc X (v := y1 + 1) 1 [(1, .int (y1 + 1)), (0, .ref (dn_a u 100))] dX12_town_205 rfl (by rfl) rfl rfl ?_
      refine dt_ilet X rfl (fun x2 => ?_)
      refine dt_goto X 192 dX12_town_208 (by decide) ?_
      refine dt_sub X [(0, .ref (dn_a u 100)), (1, .int x2)] [1, 0] rfl ?_
      exact ih x2 s1
set_option maxRecDepth 100000 in
set_option maxHeartbeats 4000000 in
theorem b_X12_town_166 {g : dn_M} {u : dn_U} (hu : dn_Lu u = dn_LR) (X : dn_X u g cX12_town wsX12_town RX12 2 5 111 (some .int)) : ∀ (n : Nat) (y1 : Int32) (s : dn_S), dn_T u g 2 (dn_QI u) (m_X12_town_166 n y1 s) s 166 [(0, .ref (dn_a u 100)), (1, .int y1)] [] := by
  intro n
  induction n with
  | zero =>
    intro y1 s
    exact dt_none X
  | succ n ih =>
    intro y1 s
    rw [m_X12_town_166]
    refine dt_iload_n X 1 dX12_town_166 rfl rfl ?_
    refine dt_bipush X (v := 30) dX12_town_167 (by decide) ?_
    refine dt_icmp_ge X 190 dX12_town_169 (by decide) ?_ ?_
    · refine dt_iconst X (v := 0) dX12_town_190 (by decide) ?_
      refine dt_istore_n X [(1, .int 0), (0, .ref (dn_a u 100))] dX12_town_191 rfl rfl rfl ?_
      refine dt_sub X [(0, .ref (dn_a u 100)), (1, .int 0)] [1, 0] rfl ?_
      exact b_X12_town_192 hu X 2048 0 s
    · refine dt_aload_n X 0 dX12_town_172 rfl rfl ?_
      refine dt_get X (T := TX12) (N := 35) (v := .ref (dn_a u 106)) 9 (dn_h100 hu) rfl dn_in_X12_town_12 rfl rfl dn_fw_X12_town_30 rfl dX12_town_173 ?_
      refine dt_iload_n X 1 dX12_town_176 rfl rfl ?_
      refine dt_aload_n X 0 dX12_town_177 rfl rfl ?_
      refine dt_get X (T := TX12) (N := 35) (v := .ref (dn_a u 114)) 29 (dn_h100 hu) rfl dn_in_X12_town_12 rfl rfl dn_fw_X12_town_54 rfl dX12_town_178 ?_
      refine dt_iload_n X 1 dX12_town_181 rfl rfl ?_
      refine dt_iald X (dn_h114 hu) dX12_town_182 ?_
      refine dt_iast X (dn_h106 hu) dX12_town_183 (fun s1 => ?_)
      refine dt_iinc X (v := y1 + 1) 1 [(1, .int (y1 + 1)), (0, .ref (dn_a u 100))] dX12_town_184 rfl (by rfl) rfl rfl ?_
      refine dt_ilet X rfl (fun x2 => ?_)
      refine dt_goto X 166 dX12_town_187 (by decide) ?_
      refine dt_sub X [(0, .ref (dn_a u 100)), (1, .int x2)] [1, 0] rfl ?_
      exact ih x2 s1
set_option maxRecDepth 100000 in
set_option maxHeartbeats 4000000 in
theorem b_X12_town_140 {g : dn_M} {u : dn_U} (hu : dn_Lu u = dn_LR) (X : dn_X u g cX12_town wsX12_town RX12 2 5 111 (some .int)) : ∀ (n : Nat) (y1 : Int32) (s : dn_S), dn_T u g 2 (dn_QI u) (m_X12_town_140 n y1 s) s 140 [(0, .ref (dn_a u 100)), (1, .int y1)] [] := by
  intro n
  induction n with
  | zero =>
    intro y1 s
    exact dt_none X
  | succ n ih =>
    intro y1 s
    rw [m_X12_town_140]
    refine dt_iload_n X 1 dX12_town_140 rfl rfl ?_
    refine dt_bipush X (v := 20) dX12_town_141 (by decide) ?_
    refine dt_icmp_ge X 164 dX12_town_143 (by decide) ?_ ?_
    · refine dt_iconst X (v := 0) dX12_town_164 (by decide) ?_
      refine dt_istore_n X [(1, .int 0), (0, .ref (dn_a u 100))] dX12_town_165 rfl rfl rfl ?_
      refine dt_sub X [(0, .ref (dn_a u 100)), (1, .int 0)] [1, 0] rfl ?_
      exact b_X12_town_166 hu X 2048 0 s
    · refine dt_aload_n X 0 dX12_town_146 rfl rfl ?_
      refine dt_get X (T := TX12) (N := 35) (v := .ref (dn_a u 105)) 6 (dn_h100 hu) rfl dn_in_X12_town_12 rfl rfl dn_fw_X12_town_23 rfl dX12_town_147 ?_
      refine dt_iload_n X 1 dX12_town_150 rfl rfl ?_
      refine dt_aload_n X 0 dX12_town_151 rfl rfl ?_
      refine dt_get X (T := TX12) (N := 35) (v := .ref (dn_a u 113)) 25 (dn_h100 hu) rfl dn_in_X12_town_12 rfl rfl dn_fw_X12_town_51 rfl dX12_town_152 ?_
      refine dt_iload_n X 1 dX12_town_155 rfl rfl ?_
      refine dt_iald X (dn_h113 hu) dX12_town_156 ?_
      refine dt_iast X (dn_h105 hu) dX12_town_157 (fun s1 => ?_)
      refine dt_iinc X (v := y1 + 1) 1 [(1, .int (y1 + 1)), (0, .ref (dn_a u 100))] dX12_town_158 rfl (by rfl) rfl rfl ?_
      refine dt_ilet X rfl (fun x2 => ?_)
      refine dt_goto X 140 dX12_town_161 (by decide) ?_
      refine dt_sub X [(0, .ref (dn_a u 100)), (1, .int x2)] [1, 0] rfl ?_
      exact ih x2 s1
set_option maxRecDepth 100000 in
set_option maxHeartbeats 4000000 in
theorem b_X12_town_103 {g : dn_M} {u : dn_U} (hu : dn_Lu u = dn_LR) (X : dn_X u g cX12_town wsX12_town RX12 2 5 111 (some .int)) : ∀ (n : Nat) (y1 : Int32) (s : dn_S), dn_T u g 2 (dn_QI u) (m_X12_town_103 n y1 s) s 103 [(0, .ref (dn_a u 100)), (1, .int y1)] [] := by
  intro n
  induction n with
  | zero =>
    intro y1 s
    exact dt_none X
  | succ n ih =>
    intro y1 s
    rw [m_X12_town_103]
    refine dt_iload_n X 1 dX12_town_103 rfl rfl ?_
    refine dt_iconst X (v := 4) dX12_town_104 (by decide) ?_
    refine dt_icmp_ge X 138 dX12_town_105 (by decide) ?_ ?_
    · refine dt_iconst X (v := 0) dX12_town_138 (by decide) ?_
      refine dt_istore_n X [(1, .int 0), (0, .ref (dn_a u 100))] dX12_town_139 rfl rfl rfl ?_
      refine dt_sub X [(0, .ref (dn_a u 100)), (1, .int 0)] [1, 0] rfl ?_
      exact b_X12_town_140 hu X 2048 0 s
    · refine dt_aload_n X 0 dX12_town_108 rfl rfl ?_
      refine dt_get X (T := TX12) (N := 35) (v := .ref (dn_a u 103)) 4 (dn_h100 hu) rfl dn_in_X12_town_12 rfl rfl dn_fw_X12_town_17 rfl dX12_town_109 ?_
      refine dt_iload_n X 1 dX12_town_112 rfl rfl ?_
      refine dt_aload_n X 0 dX12_town_113 rfl rfl ?_
      refine dt_get X (T := TX12) (N := 35) (v := .ref (dn_a u 111)) 23 (dn_h100 hu) rfl dn_in_X12_town_12 rfl rfl dn_fw_X12_town_45 rfl dX12_town_114 ?_
      refine dt_iload_n X 1 dX12_town_117 rfl rfl ?_
      refine dt_iald X (dn_h111 hu) dX12_town_118 ?_
      refine dt_iast X (dn_h103 hu) dX12_town_119 (fun s1 => ?_)
      refine dt_aload_n X 0 dX12_town_120 rfl rfl ?_
      refine dt_get X (T := TX12) (N := 35) (v := .ref (dn_a u 104)) 5 (dn_h100 hu) rfl dn_in_X12_town_12 rfl rfl dn_fw_X12_town_20 rfl dX12_town_121 ?_
      refine dt_iload_n X 1 dX12_town_124 rfl rfl ?_
      refine dt_aload_n X 0 dX12_town_125 rfl rfl ?_
      refine dt_get X (T := TX12) (N := 35) (v := .ref (dn_a u 112)) 24 (dn_h100 hu) rfl dn_in_X12_town_12 rfl rfl dn_fw_X12_town_48 rfl dX12_town_126 ?_
      refine dt_iload_n X 1 dX12_town_129 rfl rfl ?_
      refine dt_iald X (dn_h112 hu) dX12_town_130 ?_
      refine dt_iast X (dn_h104 hu) dX12_town_131 (fun s2 => ?_)
      refine dt_iinc X (v := y1 + 1) 1 [(1, .int (y1 + 1)), (0, .ref (dn_a u 100))] dX12_town_132 rfl (by rfl) rfl rfl ?_
      refine dt_ilet X rfl (fun x3 => ?_)
      refine dt_goto X 103 dX12_town_135 (by decide) ?_
      refine dt_sub X [(0, .ref (dn_a u 100)), (1, .int x3)] [1, 0] rfl ?_
      exact ih x3 s2
set_option maxRecDepth 100000 in
set_option maxHeartbeats 4000000 in
theorem b_X12_town_34 {g : dn_M} {u : dn_U} (hu : dn_Lu u = dn_LR) (X : dn_X u g cX12_town wsX12_town RX12 2 5 111 (some .int)) : ∀ (n : Nat) (s : dn_S), dn_T u g 2 (dn_QI u) (m_X12_town_34 n s) s 34 [(0, .ref (dn_a u 100))] [] := by
  intro n
  induction n with
  | zero =>
    intro  s
    exact dt_none X
  | succ n ih =>
    intro  s
    rw [m_X12_town_34]
    refine dt_aload_n X 0 dX12_town_34 rfl rfl ?_
    refine dt_get X (T := TX12) (N := 35) (v := .int (dn_g s 100 18)) 18 (dn_h100 hu) rfl dn_in_X12_town_12 rfl rfl dn_fw_X12_town_75 rfl dX12_town_35 ?_
    refine dt_aload_n X 0 dX12_town_38 rfl rfl ?_
    refine dt_get X (T := TX12) (N := 35) (v := .int (dn_g s 100 17)) 17 (dn_h100 hu) rfl dn_in_X12_town_12 rfl rfl dn_fw_X12_town_72 rfl dX12_town_39 ?_
    refine dt_icmp_ge X 77 dX12_town_42 (by decide) ?_ ?_
    · refine dt_aload_n X 0 dX12_town_77 rfl rfl ?_
      refine dt_aload_n X 0 dX12_town_78 rfl rfl ?_
      refine dt_get X (T := TX12) (N := 35) (v := .int (dn_g s 100 22)) 22 (dn_h100 hu) rfl dn_in_X12_town_12 rfl rfl dn_fw_X12_town_95 rfl dX12_town_79 ?_
      refine dt_put X (T := TX12) (N := 35) 3 (dn_h100 hu) rfl dn_in_X12_town_12 rfl tyX12 tyX12_ok nmX12 rfl rfl dn_fw_X12_town_125 rfl rfl (dn_set100_3 _ _ _) dX12_town_82 (fun s1 => ?_)
      refine dt_aload_n X 0 dX12_town_85 rfl rfl ?_
      refine dt_aload_n X 0 dX12_town_86 rfl rfl ?_
      refine dt_get X (T := TX12) (N := 35) (v := .int (dn_g s1 100 28)) 28 (dn_h100 hu) rfl dn_in_X12_town_12 rfl rfl dn_fw_X12_town_102 rfl dX12_town_87 ?_
      refine dt_put X (T := TX12) (N := 35) 8 (dn_h100 hu) rfl dn_in_X12_town_12 rfl tyX12 tyX12_ok nmX12 rfl rfl dn_fw_X12_town_128 rfl rfl (dn_set100_8 _ _ _) dX12_town_90 (fun s2 => ?_)
      refine dt_aload_n X 0 dX12_town_93 rfl rfl ?_
      refine dt_aload_n X 0 dX12_town_94 rfl rfl ?_
      refine dt_get X (T := TX12) (N := 35) (v := .int (dn_g s2 100 26)) 26 (dn_h100 hu) rfl dn_in_X12_town_12 rfl rfl dn_fw_X12_town_63 rfl dX12_town_95 ?_
      refine dt_put X (T := TX12) (N := 35) 7 (dn_h100 hu) rfl dn_in_X12_town_12 rfl tyX12 tyX12_ok nmX12 rfl rfl dn_fw_X12_town_26 rfl rfl (dn_set100_7 _ _ _) dX12_town_98 (fun s3 => ?_)
      refine dt_iconst X (v := 0) dX12_town_101 (by decide) ?_
      refine dt_istore_n X [(1, .int 0), (0, .ref (dn_a u 100))] dX12_town_102 rfl rfl rfl ?_
      refine dt_sub X [(0, .ref (dn_a u 100)), (1, .int 0)] [1, 0] rfl ?_
      exact b_X12_town_103 hu X 2048 0 s3
    · refine dt_aload_n X 0 dX12_town_45 rfl rfl ?_
      refine dt_callZ X (dn_runV X (T := TX12) (N := 35) [] (dn_h100 hu) rfl rfl (c_X12_takesItem (dn_la g) u hu s) gX12_town_X12_takesItem rfl dn_hd_X12_takesItem rfl rfl rfl rfl dX12_town_46) (fun r6 s4 e5 => ?_)
      refine dt_if_neb X 60 dX12_town_49 (by decide) ?_ ?_
      · refine dt_aload_n X 0 dX12_town_60 rfl rfl ?_
        refine dt_dup X dX12_town_61 rfl ?_
        refine dt_get X (T := TX12) (N := 35) (v := .int (dn_g s4 100 21)) 21 (dn_h100 hu) rfl dn_in_X12_town_12 rfl rfl dn_fw_X12_town_119 rfl dX12_town_62 ?_
        refine dt_iconst X (v := 1) dX12_town_65 (by decide) ?_
        refine dt_iadd X dX12_town_66 ?_
        refine dt_put X (T := TX12) (N := 35) 21 (dn_h100 hu) rfl dn_in_X12_town_12 rfl tyX12 tyX12_ok nmX12 rfl rfl dn_fw_X12_town_119 rfl rfl (dn_set100_21 _ _ _) dX12_town_67 (fun s7 => ?_)
        refine dt_aload_n X 0 dX12_town_70 rfl rfl ?_
        refine dt_callV X (dn_runV X (T := TX12) (N := 35) [] (dn_h100 hu) rfl rfl (c_X12_blanks (dn_la g) u hu s7) gX12_town_X12_blanks rfl dn_hd_X12_blanks rfl rfl rfl rfl dX12_town_71) (fun r10 s8 e9 => ?_)
        refine dt_goto X 34 dX12_town_74 (by decide) ?_
        refine dt_sub X [(0, .ref (dn_a u 100))] [0] rfl ?_
        exact ih s8
      · refine dt_bipush X (v := -10) dX12_town_52 (by decide) ?_
        refine dt_aload_n X 0 dX12_town_54 rfl rfl ?_
        refine dt_get X (T := TX12) (N := 35) (v := .int (dn_g s4 100 19)) 19 (dn_h100 hu) rfl dn_in_X12_town_12 rfl rfl dn_fw_X12_town_82 rfl dX12_town_55 ?_
        refine dt_isub X dX12_town_58 ?_
        exact dt_iret X dX12_town_59
set_option maxRecDepth 100000 in
set_option maxHeartbeats 4000000 in
theorem c_X12_town (l : Launch) (u : dn_U) (hu : dn_Lu u = dn_LR) (s : dn_S) : dn_Met l u yX12_town wsX12_town 5 111 [.ref (dn_a u 100)] s (m_X12_town  s) (dn_QI u) := by
  refine dt_entry RX12 [(0, .ref (dn_a u 100))] (by decide +kernel) rfl rfl rfl rfl (fun g hgl X => ?_)
  subst hgl
  unfold m_X12_town
  refine dt_aload_n X 0 dX12_town_0 rfl rfl ?_
  refine dt_iconst X (v := 0) dX12_town_1 (by decide) ?_
  refine dt_put X (T := TX12) (N := 35) 22 (dn_h100 hu) rfl dn_in_X12_town_12 rfl tyX12 tyX12_ok nmX12 rfl rfl dn_fw_X12_town_95 rfl rfl (dn_set100_22 _ _ _) dX12_town_2 (fun s1 => ?_)
  refine dt_aload_n X 0 dX12_town_5 rfl rfl ?_
  refine dt_iconst X (v := 0) dX12_town_6 (by decide) ?_
  refine dt_put X (T := TX12) (N := 35) 28 (dn_h100 hu) rfl dn_in_X12_town_12 rfl tyX12 tyX12_ok nmX12 rfl rfl dn_fw_X12_town_102 rfl rfl (dn_set100_28 _ _ _) dX12_town_7 (fun s2 => ?_)
  refine dt_aload_n X 0 dX12_town_10 rfl rfl ?_
  refine dt_iconst X (v := 1) dX12_town_11 (by decide) ?_
  refine dt_put X (T := TX12) (N := 35) 26 (dn_h100 hu) rfl dn_in_X12_town_12 rfl tyX12 tyX12_ok nmX12 rfl rfl dn_fw_X12_town_63 rfl rfl (dn_set100_26 _ _ _) dX12_town_12 (fun s3 => ?_)
  refine dt_aload_n X 0 dX12_town_15 rfl rfl ?_
  refine dt_iconst X (v := 0) dX12_town_16 (by decide) ?_
  refine dt_putz X (v := false) (T := TX12) (N := 35) 27 (dn_h100 hu) rfl dn_in_X12_town_12 rfl tyX12 tyX12_ok nmX12 rfl rfl dn_fw_X12_town_105 rfl rfl (dn_set100_27 _ _ _) dX12_town_17 (fun s4 => ?_)
  refine dt_aload_n X 0 dX12_town_20 rfl rfl ?_
  refine dt_iconst X (v := 0) dX12_town_21 (by decide) ?_
  refine dt_put X (T := TX12) (N := 35) 21 (dn_h100 hu) rfl dn_in_X12_town_12 rfl tyX12 tyX12_ok nmX12 rfl rfl dn_fw_X12_town_119 rfl rfl (dn_set100_21 _ _ _) dX12_town_22 (fun s5 => ?_)
  refine dt_aload_n X 0 dX12_town_25 rfl rfl ?_
  refine dt_iconst X (v := 0) dX12_town_26 (by decide) ?_
  refine dt_put X (T := TX12) (N := 35) 18 (dn_h100 hu) rfl dn_in_X12_town_12 rfl tyX12 tyX12_ok nmX12 rfl rfl dn_fw_X12_town_75 rfl rfl (dn_set100_18 _ _ _) dX12_town_27 (fun s6 => ?_)
  refine dt_aload_n X 0 dX12_town_30 rfl rfl ?_
  refine dt_callV X (dn_runV X (T := TX12) (N := 35) [] (dn_h100 hu) rfl rfl (c_X12_blanks (dn_la g) u hu s6) gX12_town_X12_blanks rfl dn_hd_X12_blanks rfl rfl rfl rfl dX12_town_31) (fun r9 s7 e8 => ?_)
  refine dt_sub X [(0, .ref (dn_a u 100))] [0] rfl ?_
  exact b_X12_town_34 hu X 2048 s7
