set_option maxRecDepth 100000 in
set_option maxHeartbeats 4000000 in
theorem b_X8_read_110 {g : dn_M} {u : dn_U} (hu : dn_Lu u = dn_LC) (X : dn_X u g cX8_read wsX8_read RX8 4 5 108 (some .int)) (K21 : Int32 → Int32 → dn_S → Option (Int32 × dn_S)) (H21 : ∀ (y1 : Int32) (y2 : Int32) (s : dn_S), dn_T u g 4 (dn_QI u) (K21 y1 y2 s) s 21 [(0, .ref (dn_a u 6)), (1, .int y1), (2, .int y2)] []) (y1 : Int32) (y2 : Int32) (y3 : Bool) (s : dn_S) : dn_T u g 4 (dn_QI u) (m_X8_read_110 K21 y1 y2 y3 s) s 110 [(0, .ref (dn_a u 6)), (1, .int y1), (2, .int y2), (3, .int (dn_b y3))] [] := by
  unfold m_X8_read_110
  refine dt_iload_n X 3 dX8_read_110 rfl rfl ?_
  refine dt_if_neb X 122 dX8_read_111 (by decide) ?_ ?_
  · refine dt_iinc X (v := y1 + 1) 1 [(1, .int (y1 + 1)), (0, .ref (dn_a u 6)), (2, .int y2), (3, .int (dn_b y3))] dX8_read_122 rfl (by rfl) rfl rfl ?_
    refine dt_ilet X rfl (fun x1 => ?_)
    refine dt_iinc X (v := y2 + 1) 2 [(2, .int (y2 + 1)), (1, .int x1), (0, .ref (dn_a u 6)), (3, .int (dn_b y3))] dX8_read_125 rfl (by rfl) rfl rfl ?_
    refine dt_ilet X rfl (fun x2 => ?_)
    refine dt_goto X 21 dX8_read_128 (by decide) ?_
    refine dt_sub X [(0, .ref (dn_a u 6)), (1, .int x1), (2, .int x2)] [2, 1, 0] rfl ?_
    exact H21 x1 x2 s
  · refine dt_bipush X (v := -10) dX8_read_114 (by decide) ?_
    refine dt_aload_n X 0 dX8_read_116 rfl rfl ?_
    refine dt_get X (T := TX8) (N := 7) (v := .int (dn_g s 6 3)) 3 (dn_h6 hu) rfl dn_in_X8_read_8 rfl rfl dn_fw_X8_read_49 rfl dX8_read_117 ?_
    refine dt_isub X dX8_read_120 ?_
    exact dt_iret X dX8_read_121
set_option maxRecDepth 100000 in
set_option maxHeartbeats 4000000 in
theorem b_X8_read_21 {g : dn_M} {u : dn_U} (hu : dn_Lu u = dn_LC) (X : dn_X u g cX8_read wsX8_read RX8 4 5 108 (some .int)) : ∀ (n : Nat) (y1 : Int32) (y2 : Int32) (s : dn_S), dn_T u g 4 (dn_QI u) (m_X8_read_21 n y1 y2 s) s 21 [(0, .ref (dn_a u 6)), (1, .int y1), (2, .int y2)] [] := by
  intro n
  induction n with
  | zero =>
    intro y1 y2 s
    exact dt_none X
  | succ n ih =>
    intro y1 y2 s
    rw [m_X8_read_21]
    refine dt_iload_n X 2 dX8_read_21 rfl rfl ?_
    refine dt_sipush X (v := 200) dX8_read_22 (by decide) ?_
    refine dt_icmp_ge X 131 dX8_read_25 (by decide) ?_ ?_
    · refine dt_iload_n X 1 dX8_read_131 rfl rfl ?_
      exact dt_iret X dX8_read_132
    · refine dt_aload_n X 0 dX8_read_28 rfl rfl ?_
      refine dt_callV X (dn_runV X (T := TX8) (N := 7) [] (dn_h6 hu) rfl rfl (c_X8_nextToken (dn_la g) u hu s) gX8_read_X8_nextToken rfl dn_hd_X8_nextToken rfl rfl rfl rfl dX8_read_29) (fun r3 s1 e2 => ?_)
      refine dt_aload_n X 0 dX8_read_32 rfl rfl ?_
      refine dt_get X (T := TX8) (N := 7) (v := .int (dn_g s1 6 4)) 4 (dn_h6 hu) rfl dn_in_X8_read_8 rfl rfl dn_fw_X8_read_36 rfl dX8_read_33 ?_
      refine dt_sipush X (v := 257) dX8_read_36 (by decide) ?_
      refine dt_icmp_ne X 45 dX8_read_39 (by decide) ?_ ?_
      · refine dt_aload_n X 0 dX8_read_45 rfl rfl ?_
        refine dt_get X (T := TX8) (N := 7) (v := .int (dn_g s1 6 4)) 4 (dn_h6 hu) rfl dn_in_X8_read_8 rfl rfl dn_fw_X8_read_36 rfl dX8_read_46 ?_
        refine dt_case X (c0 := 98) (fun h4 => ?_) (fun h4 => ?_)
        · refine dt_lookup X (off := 35) 84 dX8_read_49 rfl (by rw [h4]; rfl) (by decide) ?_
          refine dt_aload_n X 0 dX8_read_84 rfl rfl ?_
          refine dt_callZ X (dn_runV X (T := TX8) (N := 7) [] (dn_h6 hu) rfl rfl (c_X8_readsBidder (dn_la g) u hu s1) gX8_read_X8_readsBidder rfl dn_hd_X8_readsBidder rfl rfl rfl rfl dX8_read_85) (fun r7 s5 e6 => ?_)
          refine dt_istore_n X [(3, .int (dn_b r7)), (0, .ref (dn_a u 6)), (1, .int y1), (2, .int y2)] dX8_read_88 rfl rfl rfl ?_
          refine dt_goto X 110 dX8_read_89 (by decide) ?_
          refine dt_sub X [(0, .ref (dn_a u 6)), (1, .int y1), (2, .int y2), (3, .int (dn_b r7))] [1, 2, 3, 0] rfl ?_
          exact b_X8_read_110 hu X (m_X8_read_21 n) ih y1 y2 r7 s5
        refine dt_case X (c0 := 111) (fun h8 => ?_) (fun h8 => ?_)
        · refine dt_lookup X (off := 51) 100 dX8_read_49 rfl (by rw [h8]; rfl) (by decide) ?_
          refine dt_aload_n X 0 dX8_read_100 rfl rfl ?_
          refine dt_callZ X (dn_runV X (T := TX8) (N := 7) [] (dn_h6 hu) rfl rfl (c_X8_readsDebt (dn_la g) u hu s1) gX8_read_X8_readsDebt rfl dn_hd_X8_readsDebt rfl rfl rfl rfl dX8_read_101) (fun r11 s9 e10 => ?_)
          refine dt_istore_n X [(3, .int (dn_b r11)), (0, .ref (dn_a u 6)), (1, .int y1), (2, .int y2)] dX8_read_104 rfl rfl rfl ?_
          refine dt_goto X 110 dX8_read_105 (by decide) ?_
          refine dt_sub X [(0, .ref (dn_a u 6)), (1, .int y1), (2, .int y2), (3, .int (dn_b r11))] [1, 2, 3, 0] rfl ?_
          exact b_X8_read_110 hu X (m_X8_read_21 n) ih y1 y2 r11 s9
        refine dt_case X (c0 := 114) (fun h12 => ?_) (fun h12 => ?_)
        · refine dt_lookup X (off := 43) 92 dX8_read_49 rfl (by rw [h12]; rfl) (by decide) ?_
          refine dt_aload_n X 0 dX8_read_92 rfl rfl ?_
          refine dt_callZ X (dn_runV X (T := TX8) (N := 7) [] (dn_h6 hu) rfl rfl (c_X8_readsBar (dn_la g) u hu s1) gX8_read_X8_readsBar rfl dn_hd_X8_readsBar rfl rfl rfl rfl dX8_read_93) (fun r15 s13 e14 => ?_)
          refine dt_istore_n X [(3, .int (dn_b r15)), (0, .ref (dn_a u 6)), (1, .int y1), (2, .int y2)] dX8_read_96 rfl rfl rfl ?_
          refine dt_goto X 110 dX8_read_97 (by decide) ?_
          refine dt_sub X [(0, .ref (dn_a u 6)), (1, .int y1), (2, .int y2), (3, .int (dn_b r15))] [1, 2, 3, 0] rfl ?_
          exact b_X8_read_110 hu X (m_X8_read_21 n) ih y1 y2 r15 s13
        refine dt_lookup X (off := 59) 108 dX8_read_49 rfl ((lv_osw h4 rfl).trans ((lv_osw h8 rfl).trans ((lv_osw h12 rfl).trans rfl))) (by decide) ?_
        refine dt_iconst X (v := 0) dX8_read_108 (by decide) ?_
        refine dt_istore_n X [(3, .int 0), (0, .ref (dn_a u 6)), (1, .int y1), (2, .int y2)] dX8_read_109 rfl rfl rfl ?_
        refine dt_sub X [(0, .ref (dn_a u 6)), (1, .int y1), (2, .int y2), (3, .int 0)] [1, 2, 3, 0] rfl ?_
        exact b_X8_read_110 hu X (m_X8_read_21 n) ih y1 y2 false s1
      · refine dt_goto X 131 dX8_read_42 (by decide) ?_
        refine dt_iload_n X 1 dX8_read_131 rfl rfl ?_
        exact dt_iret X dX8_read_132
set_option maxRecDepth 100000 in
set_option maxHeartbeats 4000000 in
theorem c_X8_read (l : Launch) (u : dn_U) (hu : dn_Lu u = dn_LC) (s : dn_S) : dn_Met l u yX8_read wsX8_read 5 108 [.ref (dn_a u 6)] s (m_X8_read  s) (dn_QI u) := by
  refine dt_entry RX8 [(0, .ref (dn_a u 6))] (by decide +kernel) rfl rfl rfl rfl (fun g hgl X => ?_)
  subst hgl
  unfold m_X8_read
  refine dt_aload_n X 0 dX8_read_0 rfl rfl ?_
  refine dt_iconst X (v := 0) dX8_read_1 (by decide) ?_
  refine dt_put X (T := TX8) (N := 7) 2 (dn_h6 hu) rfl dn_in_X8_read_8 rfl tyX8 tyX8_ok nmX8 rfl rfl dn_fw_X8_read_22 rfl rfl (dn_set6_2 _ _ _) dX8_read_2 (fun s1 => ?_)
  refine dt_aload_n X 0 dX8_read_5 rfl rfl ?_
  refine dt_iconst X (v := 0) dX8_read_6 (by decide) ?_
  refine dt_putz X (v := false) (T := TX8) (N := 7) 6 (dn_h6 hu) rfl dn_in_X8_read_8 rfl tyX8 tyX8_ok nmX8 rfl rfl dn_fw_X8_read_26 rfl rfl (dn_set6_6 _ _ _) dX8_read_7 (fun s2 => ?_)
  refine dt_aload_n X 0 dX8_read_10 rfl rfl ?_
  refine dt_get X (T := TX8) (N := 7) (v := .ref (dn_a u 7)) 1 (dn_h6 hu) rfl dn_in_X8_read_8 rfl rfl dn_fw_X8_read_12 rfl dX8_read_11 ?_
  refine dt_callV X (dn_runV X (T := TX10) (N := 5) [] (dn_hT hu dn_T7) rfl rfl (c_X10_empty (dn_la g) u hu 7 dn_T7 s2) gX8_read_X10_empty rfl dn_hd_X10_empty rfl rfl rfl rfl dX8_read_14) (fun r5 s3 e4 => ?_)
  refine dt_iconst X (v := 0) dX8_read_17 (by decide) ?_
  refine dt_istore_n X [(1, .int 0), (0, .ref (dn_a u 6))] dX8_read_18 rfl rfl rfl ?_
  refine dt_iconst X (v := 0) dX8_read_19 (by decide) ?_
  refine dt_istore_n X [(2, .int 0), (1, .int 0), (0, .ref (dn_a u 6))] dX8_read_20 rfl rfl rfl ?_
  refine dt_sub X [(0, .ref (dn_a u 6)), (1, .int 0), (2, .int 0)] [2, 1, 0] rfl ?_
  exact b_X8_read_21 hu X 2048 0 0 s3
set_option maxRecDepth 100000 in
set_option maxHeartbeats 4000000 in
theorem b_X11_copyRow_2 {g : dn_M} {u : dn_U} (hu : dn_Lu u = dn_LC) (k1 : Nat) (n1 : Nat) (k2 : Nat) (n2 : Nat) (h1 : dn_has u k1 (fun σ => .inl (u.2.2.1.1, n1, .inl (fun j => dn_g σ k1 j)))) (h2 : dn_has u k2 (fun σ => .inl (u.2.2.1.1, n2, .inl (fun j => dn_g σ k2 j)))) (X : dn_X u g cX11_copyRow wsX11_copyRow RX11 3 0 0 none) : ∀ (n : Nat) (y2 : Int32) (s : dn_S), dn_T u g 3 (dn_QV u) (m_X11_copyRow_2 k1 n1 k2 n2 n y2 s) s 2 [(0, .ref (dn_a u k1)), (1, .ref (dn_a u k2)), (2, .int y2)] [] := by
  intro n
  induction n with
  | zero =>
    intro y2 s
    exact dt_none X
  | succ n ih =>
    intro y2 s
    rw [m_X11_copyRow_2]
    refine dt_iload_n X 2 dX11_copyRow_2 rfl rfl ?_
    refine dt_aload_n X 0 dX11_copyRow_3 rfl rfl ?_
    refine dt_alen X h1 dX11_copyRow_4 rfl ?_
    refine dt_icmp_ge X 26 dX11_copyRow_5 (by decide) ?_ ?_
    · exact dt_vret X dX11_copyRow_26
    · refine dt_iload_n X 2 dX11_copyRow_8 rfl rfl ?_
      refine dt_aload_n X 1 dX11_copyRow_9 rfl rfl ?_
      refine dt_alen X h2 dX11_copyRow_10 rfl ?_
      refine dt_icmp_ge X 26 dX11_copyRow_11 (by decide) ?_ ?_
      · exact dt_vret X dX11_copyRow_26
      · refine dt_aload_n X 1 dX11_copyRow_14 rfl rfl ?_
        refine dt_iload_n X 2 dX11_copyRow_15 rfl rfl ?_
        refine dt_aload_n X 0 dX11_copyRow_16 rfl rfl ?_
        refine dt_iload_n X 2 dX11_copyRow_17 rfl rfl ?_
        refine dt_iald X h1 dX11_copyRow_18 ?_
        refine dt_iast X h2 dX11_copyRow_19 (fun s1 => ?_)
        refine dt_iinc X (v := y2 + 1) 2 [(2, .int (y2 + 1)), (0, .ref (dn_a u k1)), (1, .ref (dn_a u k2))] dX11_copyRow_20 rfl (by rfl) rfl rfl ?_
        refine dt_ilet X rfl (fun x2 => ?_)
        refine dt_goto X 2 dX11_copyRow_23 (by decide) ?_
        refine dt_sub X [(0, .ref (dn_a u k1)), (1, .ref (dn_a u k2)), (2, .int x2)] [1, 2, 0] rfl ?_
        exact ih x2 s1
set_option maxRecDepth 100000 in
set_option maxHeartbeats 4000000 in
theorem c_X11_copyRow (l : Launch) (u : dn_U) (hu : dn_Lu u = dn_LC) (k1 : Nat) (n1 : Nat) (k2 : Nat) (n2 : Nat) (h1 : dn_has u k1 (fun σ => .inl (u.2.2.1.1, n1, .inl (fun j => dn_g σ k1 j)))) (h2 : dn_has u k2 (fun σ => .inl (u.2.2.1.1, n2, .inl (fun j => dn_g σ k2 j)))) (s : dn_S) : dn_Met l u yX11_copyRow wsX11_copyRow 0 0 [.ref (dn_a u k1), .ref (dn_a u k2)] s (m_X11_copyRow k1 n1 k2 n2 s) (dn_QV u) := by
  refine dt_entry RX11 [(0, .ref (dn_a u k1)), (1, .ref (dn_a u k2))] (by decide +kernel) rfl rfl rfl rfl (fun g hgl X => ?_)
  subst hgl
  unfold m_X11_copyRow
  refine dt_iconst X (v := 0) dX11_copyRow_0 (by decide) ?_
  refine dt_istore_n X [(2, .int 0), (0, .ref (dn_a u k1)), (1, .ref (dn_a u k2))] dX11_copyRow_1 rfl rfl rfl ?_
  refine dt_sub X [(0, .ref (dn_a u k1)), (1, .ref (dn_a u k2)), (2, .int 0)] [1, 2, 0] rfl ?_
  exact b_X11_copyRow_2 hu k1 n1 k2 n2 h1 h2 X 2048 0 s
set_option maxRecDepth 100000 in
set_option maxHeartbeats 4000000 in
theorem c_X10_copyFrom (l : Launch) (u : dn_U) (hu : dn_Lu u = dn_LC) (k : Nat) (k1 : Nat) (hk : dn_isT k) (h1 : dn_isT k1) (s : dn_S) : dn_Met l u yX10_copyFrom wsX10_copyFrom 1 22 [.ref (dn_a u k), .ref (dn_a u k1)] s (m_X10_copyFrom k k1 s) (dn_QV u) := by
  refine dt_entry RX10 [(0, .ref (dn_a u k)), (1, .ref (dn_a u k1))] (by decide +kernel) rfl rfl rfl rfl (fun g hgl X => ?_)
  subst hgl
  unfold m_X10_copyFrom
  refine dt_aload_n X 1 dX10_copyFrom_0 rfl rfl ?_
  refine dt_get X (T := TX10) (N := 5) (v := .ref (dn_a u (k1 + 1))) 0 (dn_hT hu h1) rfl dn_in_X10_copyFrom_10 rfl rfl dn_fw_X10_copyFrom_11 rfl dX10_copyFrom_1 ?_
  refine dt_aload_n X 0 dX10_copyFrom_4 rfl rfl ?_
  refine dt_get X (T := TX10) (N := 5) (v := .ref (dn_a u (k + 1))) 0 (dn_hT hu hk) rfl dn_in_X10_copyFrom_10 rfl rfl dn_fw_X10_copyFrom_11 rfl dX10_copyFrom_5 ?_
  refine dt_callV X (dn_runSN X [.ref (dn_a u (k1 + 1)), .ref (dn_a u (k + 1))] (c_X11_copyRow (dn_la g) u hu (k1 + 1) 28 (k + 1) 28 (dn_hT1 hu h1) (dn_hT1 hu hk) s) gX10_copyFrom_X11_copyRow_n28 rfl dn_nm_X10_copyFrom_28 dn_sw_X10_copyFrom_X11_copyRow_1 dn_sw_X10_copyFrom_X11_copyRow_2 dn_hs_X11_copyRow rfl rfl rfl rfl dX10_copyFrom_8) (fun r3 s1 e2 => ?_)
  refine dt_aload_n X 1 dX10_copyFrom_11 rfl rfl ?_
  refine dt_get X (T := TX10) (N := 5) (v := .ref (dn_a u (k1 + 2))) 1 (dn_hT hu h1) rfl dn_in_X10_copyFrom_10 rfl rfl dn_fw_X10_copyFrom_15 rfl dX10_copyFrom_12 ?_
  refine dt_aload_n X 0 dX10_copyFrom_15 rfl rfl ?_
  refine dt_get X (T := TX10) (N := 5) (v := .ref (dn_a u (k + 2))) 1 (dn_hT hu hk) rfl dn_in_X10_copyFrom_10 rfl rfl dn_fw_X10_copyFrom_15 rfl dX10_copyFrom_16 ?_
  refine dt_callV X (dn_runSN X [.ref (dn_a u (k1 + 2)), .ref (dn_a u (k + 2))] (c_X11_copyRow (dn_la g) u hu (k1 + 2) 30 (k + 2) 30 (dn_hT2 hu h1) (dn_hT2 hu hk) s1) gX10_copyFrom_X11_copyRow_n28 rfl dn_nm_X10_copyFrom_28 dn_sw_X10_copyFrom_X11_copyRow_1 dn_sw_X10_copyFrom_X11_copyRow_2 dn_hs_X11_copyRow rfl rfl rfl rfl dX10_copyFrom_19) (fun r6 s4 e5 => ?_)
  refine dt_aload_n X 0 dX10_copyFrom_22 rfl rfl ?_
  refine dt_aload_n X 1 dX10_copyFrom_23 rfl rfl ?_
  refine dt_get X (T := TX10) (N := 5) (v := .int (dn_g s4 k1 2)) 2 (dn_hT hu h1) rfl dn_in_X10_copyFrom_10 rfl rfl dn_fw_X10_copyFrom_22 rfl dX10_copyFrom_24 ?_
  refine dt_put X (T := TX10) (N := 5) 2 (dn_hT hu hk) rfl dn_in_X10_copyFrom_10 rfl tyX10 tyX10_ok nmX10 rfl rfl dn_fw_X10_copyFrom_22 rfl rfl (dn_setT_2 _ _ _ _) dX10_copyFrom_27 (fun s7 => ?_)
  refine dt_aload_n X 0 dX10_copyFrom_30 rfl rfl ?_
  refine dt_aload_n X 1 dX10_copyFrom_31 rfl rfl ?_
  refine dt_get X (T := TX10) (N := 5) (v := .int (dn_g s7 k1 3)) 3 (dn_hT hu h1) rfl dn_in_X10_copyFrom_10 rfl rfl dn_fw_X10_copyFrom_25 rfl dX10_copyFrom_32 ?_
  refine dt_put X (T := TX10) (N := 5) 3 (dn_hT hu hk) rfl dn_in_X10_copyFrom_10 rfl tyX10 tyX10_ok nmX10 rfl rfl dn_fw_X10_copyFrom_25 rfl rfl (dn_setT_3 _ _ _ _) dX10_copyFrom_35 (fun s8 => ?_)
  refine dt_aload_n X 0 dX10_copyFrom_38 rfl rfl ?_
  refine dt_aload_n X 1 dX10_copyFrom_39 rfl rfl ?_
  refine dt_get X (T := TX10) (N := 5) (v := .int (dn_g s8 k1 4)) 4 (dn_hT hu h1) rfl dn_in_X10_copyFrom_10 rfl rfl dn_fw_X10_copyFrom_18 rfl dX10_copyFrom_40 ?_
  refine dt_put X (T := TX10) (N := 5) 4 (dn_hT hu hk) rfl dn_in_X10_copyFrom_10 rfl tyX10 tyX10_ok nmX10 rfl rfl dn_fw_X10_copyFrom_18 rfl rfl (dn_setT_4 _ _ _ _) dX10_copyFrom_43 (fun s9 => ?_)
  exact dt_vret X dX10_copyFrom_46
set_option maxRecDepth 100000 in
set_option maxHeartbeats 4000000 in
theorem c_X10_ofBidder (l : Launch) (u : dn_U) (hu : dn_Lu u = dn_LC) (k : Nat) (a1 : Int32) (a2 : Int32) (hk : dn_isT k) (s : dn_S) : dn_Met l u yX10_ofBidder wsX10_ofBidder 1 21 [.ref (dn_a u k), .int a1, .int a2] s (m_X10_ofBidder k a1 a2 s) (dn_QI u) := by
  refine dt_entry RX10 [(0, .ref (dn_a u k)), (1, .int a1), (2, .int a2)] (by decide +kernel) rfl rfl rfl rfl (fun g hgl X => ?_)
  subst hgl
  unfold m_X10_ofBidder
  refine dt_aload_n X 0 dX10_ofBidder_0 rfl rfl ?_
  refine dt_get X (T := TX10) (N := 5) (v := .ref (dn_a u (k + 1))) 0 (dn_hT hu hk) rfl dn_in_X10_ofBidder_10 rfl rfl dn_fw_X10_ofBidder_11 rfl dX10_ofBidder_1 ?_
  refine dt_iload_n X 1 dX10_ofBidder_4 rfl rfl ?_
  refine dt_bipush X (v := 7) dX10_ofBidder_5 (by decide) ?_
  refine dt_imul X dX10_ofBidder_7 ?_
  refine dt_iload_n X 2 dX10_ofBidder_8 rfl rfl ?_
  refine dt_iadd X dX10_ofBidder_9 ?_
  refine dt_callI X (dn_runSN X [.ref (dn_a u (k + 1)), .int ((a1 * 7) + a2)] (c_X11_at (dn_la g) u hu (k + 1) 28 ((a1 * 7) + a2) (dn_hT1 hu hk) s) gX10_ofBidder_X11_at_n32 rfl dn_nm_X10_ofBidder_32 dn_sw_X10_ofBidder_X11_at_1 dn_sw_X10_ofBidder_X11_at_2 dn_hs_X11_at rfl rfl rfl rfl dX10_ofBidder_10) (fun r3 s1 e2 => ?_)
  exact dt_iret X dX10_ofBidder_13
set_option maxRecDepth 100000 in
set_option maxHeartbeats 4000000 in
theorem c_X3_dropOwn (l : Launch) (u : dn_U) (hu : dn_Lu u = dn_LC) (k : Nat) (hk : dn_isM k) (s : dn_S) : dn_Met l u yX3_dropOwn wsX3_dropOwn 0 0 [.ref (dn_a u k)] s (m_X3_dropOwn k s) (dn_QV u) := by
  refine dt_entry RX3 [(0, .ref (dn_a u k))] (by decide +kernel) rfl rfl rfl rfl (fun g hgl X => ?_)
  subst hgl
  unfold m_X3_dropOwn
  refine dt_aload_n X 0 dX3_dropOwn_0 rfl rfl ?_
  refine dt_bipush X (v := -9) dX3_dropOwn_1 (by decide) ?_
  refine dt_put X (T := TX3) (N := 8) 6 (dn_hM hu hk) rfl dn_in_X3_dropOwn_3 rfl tyX3 tyX3_ok nmX3 rfl rfl dn_fw_X3_dropOwn_44 rfl rfl (dn_setM_6 _ _ _ _) dX3_dropOwn_3 (fun s1 => ?_)
  refine dt_aload_n X 0 dX3_dropOwn_6 rfl rfl ?_
  refine dt_iconst X (v := 0) dX3_dropOwn_7 (by decide) ?_
  refine dt_put X (T := TX3) (N := 8) 7 (dn_hM hu hk) rfl dn_in_X3_dropOwn_3 rfl tyX3 tyX3_ok nmX3 rfl rfl dn_fw_X3_dropOwn_47 rfl rfl (dn_setM_7 _ _ _ _) dX3_dropOwn_8 (fun s2 => ?_)
  exact dt_vret X dX3_dropOwn_11
set_option maxRecDepth 100000 in
set_option maxHeartbeats 4000000 in
theorem b_X3_begin_31 {g : dn_M} {u : dn_U} (hu : dn_Lu u = dn_LC) (k : Nat) (k1 : Nat) (hk : dn_isM k) (h1 : dn_isT k1) (X : dn_X u g cX3_begin wsX3_begin RX3 3 2 43 none) : ∀ (n : Nat) (y2 : Int32) (s : dn_S), dn_T u g 3 (dn_QV u) (m_X3_begin_31 k k1 n y2 s) s 31 [(0, .ref (dn_a u k)), (2, .int y2)] [] := by
  intro n
  induction n with
  | zero =>
    intro y2 s
    exact dt_none X
  | succ n ih =>
    intro y2 s
    rw [m_X3_begin_31]
    refine dt_iload_n X 1 dX3_begin_31 rfl rfl ?_
    refine dt_aload_n X 0 dX3_begin_32 rfl rfl ?_
    refine dt_get X (T := TX3) (N := 8) (v := .ref (dn_a u (k + 3))) 2 (dn_hM hu hk) rfl dn_in_X3_begin_3 rfl rfl dn_fw_X3_begin_18 rfl dX3_begin_33 ?_
    refine dt_alen X (dn_hM3 hu hk) dX3_begin_36 rfl ?_
    refine dt_icmp_ge X 53 dX3_begin_37 (by decide) ?_ ?_
    · refine dt_aload_n X 0 dX3_begin_53 rfl rfl ?_
      refine dt_iconst X (v := 0) dX3_begin_54 (by decide) ?_
      refine dt_put X (T := TX3) (N := 8) 3 (dn_hM hu hk) rfl dn_in_X3_begin_3 rfl tyX3 tyX3_ok nmX3 rfl rfl dn_fw_X3_begin_27 rfl rfl (dn_setM_3 _ _ _ _) dX3_begin_55 (fun s1 => ?_)
      refine dt_aload_n X 0 dX3_begin_58 rfl rfl ?_
      refine dt_iconst X (v := 0) dX3_begin_59 (by decide) ?_
      refine dt_put X (T := TX3) (N := 8) 4 (dn_hM hu hk) rfl dn_in_X3_begin_3 rfl tyX3 tyX3_ok nmX3 rfl rfl dn_fw_X3_begin_31 rfl rfl (dn_setM_4 _ _ _ _) dX3_begin_60 (fun s2 => ?_)
      refine dt_aload_n X 0 dX3_begin_63 rfl rfl ?_
      refine dt_iconst X (v := 0) dX3_begin_64 (by decide) ?_
      refine dt_put X (T := TX3) (N := 8) 5 (dn_hM hu hk) rfl dn_in_X3_begin_3 rfl tyX3 tyX3_ok nmX3 rfl rfl dn_fw_X3_begin_34 rfl rfl (dn_setM_5 _ _ _ _) dX3_begin_65 (fun s3 => ?_)
      refine dt_aload_n X 0 dX3_begin_68 rfl rfl ?_
      refine dt_callV X (dn_runV X (T := TX3) (N := 8) [] (dn_hM hu hk) rfl rfl (c_X3_dropOwn (dn_la g) u hu k hk s3) gX3_begin_X3_dropOwn rfl dn_hd_X3_dropOwn rfl rfl rfl rfl dX3_begin_69) (fun r6 s4 e5 => ?_)
      exact dt_vret X dX3_begin_72
    · refine dt_aload_n X 0 dX3_begin_40 rfl rfl ?_
      refine dt_get X (T := TX3) (N := 8) (v := .ref (dn_a u (k + 3))) 2 (dn_hM hu hk) rfl dn_in_X3_begin_3 rfl rfl dn_fw_X3_begin_18 rfl dX3_begin_41 ?_
      refine dt_iload_n X 1 dX3_begin_44 rfl rfl ?_
      refine dt_iconst X (v := 0) dX3_begin_45 (by decide) ?_
      refine dt_iast X (dn_hM3 hu hk) dX3_begin_46 (fun s7 => ?_)
      refine dt_iinc X (v := y2 + 1) 1 [(2, .int (y2 + 1)), (0, .ref (dn_a u k))] dX3_begin_47 rfl (by rfl) rfl rfl ?_
      refine dt_ilet X rfl (fun x8 => ?_)
      refine dt_goto X 31 dX3_begin_50 (by decide) ?_
      refine dt_sub X [(0, .ref (dn_a u k)), (2, .int x8)] [1, 0] rfl ?_
      exact ih x8 s7
set_option maxRecDepth 100000 in
set_option maxHeartbeats 4000000 in
theorem b_X3_begin_2 {g : dn_M} {u : dn_U} (hu : dn_Lu u = dn_LC) (k : Nat) (k1 : Nat) (hk : dn_isM k) (h1 : dn_isT k1) (X : dn_X u g cX3_begin wsX3_begin RX3 3 2 43 none) : ∀ (n : Nat) (y2 : Int32) (s : dn_S), dn_T u g 3 (dn_QV u) (m_X3_begin_2 k k1 n y2 s) s 2 [(0, .ref (dn_a u k)), (1, .ref (dn_a u k1)), (2, .int y2)] [] := by
  intro n
  induction n with
  | zero =>
    intro y2 s
    exact dt_none X
  | succ n ih =>
    intro y2 s
    rw [m_X3_begin_2]
    refine dt_iload_n X 2 dX3_begin_2 rfl rfl ?_
    refine dt_aload_n X 0 dX3_begin_3 rfl rfl ?_
    refine dt_get X (T := TX3) (N := 8) (v := .ref (dn_a u (k + 2))) 1 (dn_hM hu hk) rfl dn_in_X3_begin_3 rfl rfl dn_fw_X3_begin_15 rfl dX3_begin_4 ?_
    refine dt_alen X (dn_hM2 hu hk) dX3_begin_7 rfl ?_
    refine dt_icmp_ge X 29 dX3_begin_8 (by decide) ?_ ?_
    · refine dt_iconst X (v := 0) dX3_begin_29 (by decide) ?_
      refine dt_istore_n X [(2, .int 0), (0, .ref (dn_a u k)), (1, .ref (dn_a u k1))] dX3_begin_30 rfl rfl rfl ?_
      refine dt_sub X [(0, .ref (dn_a u k)), (2, .int 0)] [1, 0] rfl ?_
      exact b_X3_begin_31 hu k k1 hk h1 X 2048 0 s
    · refine dt_aload_n X 0 dX3_begin_11 rfl rfl ?_
      refine dt_get X (T := TX3) (N := 8) (v := .ref (dn_a u (k + 2))) 1 (dn_hM hu hk) rfl dn_in_X3_begin_3 rfl rfl dn_fw_X3_begin_15 rfl dX3_begin_12 ?_
      refine dt_iload_n X 2 dX3_begin_15 rfl rfl ?_
      refine dt_aload_n X 1 dX3_begin_16 rfl rfl ?_
      refine dt_iload_n X 2 dX3_begin_17 rfl rfl ?_
      refine dt_iconst X (v := 0) dX3_begin_18 (by decide) ?_
      refine dt_callI X (dn_runV X (T := TX10) (N := 5) [.int y2, .int 0] (dn_hT hu h1) rfl rfl (c_X10_ofBidder (dn_la g) u hu k1 y2 0 h1 s) gX3_begin_X10_ofBidder rfl dn_hd_X10_ofBidder rfl rfl rfl rfl dX3_begin_19) (fun r3 s1 e2 => ?_)
      refine dt_iast X (dn_hM2 hu hk) dX3_begin_22 (fun s4 => ?_)
      refine dt_iinc X (v := y2 + 1) 2 [(2, .int (y2 + 1)), (0, .ref (dn_a u k)), (1, .ref (dn_a u k1))] dX3_begin_23 rfl (by rfl) rfl rfl ?_
      refine dt_ilet X rfl (fun x5 => ?_)
      refine dt_goto X 2 dX3_begin_26 (by decide) ?_
      refine dt_sub X [(0, .ref (dn_a u k)), (1, .ref (dn_a u k1)), (2, .int x5)] [1, 2, 0] rfl ?_
      exact ih x5 s4
set_option maxRecDepth 100000 in
set_option maxHeartbeats 4000000 in
theorem c_X3_begin (l : Launch) (u : dn_U) (hu : dn_Lu u = dn_LC) (k : Nat) (k1 : Nat) (hk : dn_isM k) (h1 : dn_isT k1) (s : dn_S) : dn_Met l u yX3_begin wsX3_begin 2 43 [.ref (dn_a u k), .ref (dn_a u k1)] s (m_X3_begin k k1 s) (dn_QV u) := by
  refine dt_entry RX3 [(0, .ref (dn_a u k)), (1, .ref (dn_a u k1))] (by decide +kernel) rfl rfl rfl rfl (fun g hgl X => ?_)
  subst hgl
  unfold m_X3_begin
  refine dt_iconst X (v := 0) dX3_begin_0 (by decide) ?_
  refine dt_istore_n X [(2, .int 0), (0, .ref (dn_a u k)), (1, .ref (dn_a u k1))] dX3_begin_1 rfl rfl rfl ?_
  refine dt_sub X [(0, .ref (dn_a u k)), (1, .ref (dn_a u k1)), (2, .int 0)] [1, 2, 0] rfl ?_
  exact b_X3_begin_2 hu k k1 hk h1 X 2048 0 s
set_option maxRecDepth 100000 in
set_option maxHeartbeats 4000000 in
theorem c_X2_empty (l : Launch) (u : dn_U) (hu : dn_Lu u = dn_LC) (s : dn_S) : dn_Met l u yX2_empty wsX2_empty 0 0 [.ref (dn_a u 23)] s (m_X2_empty  s) (dn_QI u) := by
  refine dt_entry RX2 [(0, .ref (dn_a u 23))] (by decide +kernel) rfl rfl rfl rfl (fun g hgl X => ?_)
  subst hgl
  unfold m_X2_empty
  refine dt_aload_n X 0 dX2_empty_0 rfl rfl ?_
  refine dt_get X (T := TX2) (N := 6) (v := .int (dn_g s 23 5)) 5 (dn_h23 hu) rfl dn_in_X2_empty_2 rfl rfl dn_fw_X2_empty_33 rfl dX2_empty_1 ?_
  refine dt_let X (fun x1 => ?_)
  refine dt_istore_n X [(1, .int x1), (0, .ref (dn_a u 23))] dX2_empty_4 rfl rfl rfl ?_
  refine dt_aload_n X 1 dX2_empty_5 rfl rfl ?_
  refine dt_iconst X (v := 0) dX2_empty_6 (by decide) ?_
  refine dt_put X (T := TX2) (N := 6) 5 (dn_h23 hu) rfl dn_in_X2_empty_2 rfl tyX2 tyX2_ok nmX2 rfl rfl dn_fw_X2_empty_33 rfl rfl (dn_set23_5 _ _ _) dX2_empty_7 (fun s2 => ?_)
  refine dt_iload_n X 0 dX2_empty_10 rfl rfl ?_
  exact dt_iret X dX2_empty_11
set_option maxRecDepth 100000 in
set_option maxHeartbeats 4000000 in
theorem c_X0_empty (l : Launch) (u : dn_U) (hu : dn_Lu u = dn_LC) (s : dn_S) : dn_Met l u yX0_empty wsX0_empty 0 0 [.ref (dn_a u 30)] s (m_X0_empty  s) (dn_QI u) := by
  refine dt_entry RX0 [(0, .ref (dn_a u 30))] (by decide +kernel) rfl rfl rfl rfl (fun g hgl X => ?_)
  subst hgl
  unfold m_X0_empty
  refine dt_aload_n X 0 dX0_empty_0 rfl rfl ?_
  refine dt_get X (T := TX0) (N := 4) (v := .int (dn_g s 30 3)) 3 (dn_h30 hu) rfl dn_in_X0_empty_0 rfl rfl dn_fw_X0_empty_26 rfl dX0_empty_1 ?_
  refine dt_let X (fun x1 => ?_)
  refine dt_istore_n X [(1, .int x1), (0, .ref (dn_a u 30))] dX0_empty_4 rfl rfl rfl ?_
  refine dt_aload_n X 1 dX0_empty_5 rfl rfl ?_
  refine dt_iconst X (v := 0) dX0_empty_6 (by decide) ?_
  refine dt_put X (T := TX0) (N := 4) 3 (dn_h30 hu) rfl dn_in_X0_empty_0 rfl tyX0 tyX0_ok nmX0 rfl rfl dn_fw_X0_empty_26 rfl rfl (dn_set30_3 _ _ _) dX0_empty_7 (fun s2 => ?_)
  refine dt_iload_n X 0 dX0_empty_10 rfl rfl ?_
  exact dt_iret X dX0_empty_11
set_option maxRecDepth 100000 in
set_option maxHeartbeats 4000000 in
theorem b_X6_loseAll_7 {g : dn_M} {u : dn_U} (hu : dn_Lu u = dn_LC) (X : dn_X u g cX6_loseAll wsX6_loseAll RX6 2 0 0 none) : ∀ (n : Nat) (y1 : Int32) (s : dn_S), dn_T u g 2 (dn_QV u) (m_X6_loseAll_7 n y1 s) s 7 [(0, .ref (dn_a u 36)), (1, .int y1)] [] := by
  intro n
  induction n with
  | zero =>
    intro y1 s
    exact dt_none X
  | succ n ih =>
    intro y1 s
    rw [m_X6_loseAll_7]
    refine dt_iload_n X 1 dX6_loseAll_7 rfl rfl ?_
    refine dt_aload_n X 0 dX6_loseAll_8 rfl rfl ?_
    refine dt_get X (T := TX6) (N := 5) (v := .ref (dn_a u 39)) 2 (dn_h36 hu) rfl dn_in_X6_loseAll_6 rfl rfl dn_fw_X6_loseAll_20 rfl dX6_loseAll_9 ?_
    refine dt_alenZ X (dn_h39 hu) dX6_loseAll_12 rfl ?_
    refine dt_icmp_ge X 29 dX6_loseAll_13 (by decide) ?_ ?_
    · exact dt_vret X dX6_loseAll_29
    · refine dt_aload_n X 0 dX6_loseAll_16 rfl rfl ?_
      refine dt_get X (T := TX6) (N := 5) (v := .ref (dn_a u 39)) 2 (dn_h36 hu) rfl dn_in_X6_loseAll_6 rfl rfl dn_fw_X6_loseAll_20 rfl dX6_loseAll_17 ?_
      refine dt_iload_n X 1 dX6_loseAll_20 rfl rfl ?_
      refine dt_iconst X (v := 0) dX6_loseAll_21 (by decide) ?_
      refine dt_zast X (v := false) (dn_h39 hu) dX6_loseAll_22 (fun s1 => ?_)
      refine dt_iinc X (v := y1 + 1) 1 [(1, .int (y1 + 1)), (0, .ref (dn_a u 36))] dX6_loseAll_23 rfl (by rfl) rfl rfl ?_
      refine dt_ilet X rfl (fun x2 => ?_)
      refine dt_goto X 7 dX6_loseAll_26 (by decide) ?_
      refine dt_sub X [(0, .ref (dn_a u 36)), (1, .int x2)] [1, 0] rfl ?_
      exact ih x2 s1
set_option maxRecDepth 100000 in
set_option maxHeartbeats 4000000 in
theorem c_X6_loseAll (l : Launch) (u : dn_U) (hu : dn_Lu u = dn_LC) (s : dn_S) : dn_Met l u yX6_loseAll wsX6_loseAll 0 0 [.ref (dn_a u 36)] s (m_X6_loseAll  s) (dn_QV u) := by
  refine dt_entry RX6 [(0, .ref (dn_a u 36))] (by decide +kernel) rfl rfl rfl rfl (fun g hgl X => ?_)
  subst hgl
  unfold m_X6_loseAll
  refine dt_aload_n X 0 dX6_loseAll_0 rfl rfl ?_
  refine dt_iconst X (v := 0) dX6_loseAll_1 (by decide) ?_
  refine dt_put X (T := TX6) (N := 5) 4 (dn_h36 hu) rfl dn_in_X6_loseAll_6 rfl tyX6 tyX6_ok nmX6 rfl rfl dn_fw_X6_loseAll_25 rfl rfl (dn_set36_4 _ _ _) dX6_loseAll_2 (fun s1 => ?_)
  refine dt_iconst X (v := 0) dX6_loseAll_5 (by decide) ?_
  refine dt_istore_n X [(1, .int 0), (0, .ref (dn_a u 36))] dX6_loseAll_6 rfl rfl rfl ?_
  refine dt_sub X [(0, .ref (dn_a u 36)), (1, .int 0)] [1, 0] rfl ?_
  exact b_X6_loseAll_7 hu X 2048 0 s1
set_option maxRecDepth 100000 in
set_option maxHeartbeats 4000000 in
theorem c_X11_town (l : Launch) (u : dn_U) (hu : dn_Lu u = dn_LC) (s : dn_S) : dn_Met l u yX11_town wsX11_town 6 131 [.ref (dn_a u 0)] s (m_X11_town  s) (dn_QI u) := by
  refine dt_entry RX11 [(0, .ref (dn_a u 0))] (by decide +kernel) rfl rfl rfl rfl (fun g hgl X => ?_)
  subst hgl
  unfold m_X11_town
  refine dt_aload_n X 0 dX11_town_0 rfl rfl ?_
  refine dt_get X (T := TX11) (N := 10) (v := .ref (dn_a u 6)) 2 (dn_h0 hu) rfl dn_in_X11_town_11 rfl rfl dn_fw_X11_town_28 rfl dX11_town_1 ?_
  refine dt_callI X (dn_runV X (T := TX8) (N := 7) [] (dn_h6 hu) rfl rfl (c_X8_read (dn_la g) u hu s) gX11_town_X8_read rfl dn_hd_X8_read rfl rfl rfl rfl dX11_town_4) (fun r3 s1 e2 => ?_)
  refine dt_istore_n X [(1, .int r3), (0, .ref (dn_a u 0))] dX11_town_7 rfl rfl rfl ?_
  refine dt_iload_n X 0 dX11_town_8 rfl rfl ?_
  refine dt_if_ge X 14 dX11_town_9 (by decide) ?_ ?_
  · refine dt_aload_n X 1 dX11_town_14 rfl rfl ?_
    refine dt_get X (T := TX11) (N := 10) (v := .ref (dn_a u 3)) 1 (dn_h0 hu) rfl dn_in_X11_town_11 rfl rfl dn_fw_X11_town_19 rfl dX11_town_15 ?_
    refine dt_aload_n X 1 dX11_town_18 rfl rfl ?_
    refine dt_get X (T := TX11) (N := 10) (v := .ref (dn_a u 6)) 2 (dn_h0 hu) rfl dn_in_X11_town_11 rfl rfl dn_fw_X11_town_28 rfl dX11_town_19 ?_
    refine dt_getN X (T := TX8) (N := 7) (v := .ref (dn_a u 7)) 1 (dn_h6 hu) rfl dn_in_X11_town_8 rfl rfl dn_fw_X11_town_111 rfl dX11_town_22 ?_
    refine dt_callV X (dn_runV X (T := TX10) (N := 5) [.ref (dn_a u 7)] (dn_hT hu dn_T3) rfl rfl (c_X10_copyFrom (dn_la g) u hu 3 7 dn_T3 dn_T7 s1) gX11_town_X10_copyFrom rfl dn_hd_X10_copyFrom rfl rfl rfl rfl dX11_town_25) (fun r6 s4 e5 => ?_)
    refine dt_aload_n X 1 dX11_town_28 rfl rfl ?_
    refine dt_get X (T := TX11) (N := 10) (v := .ref (dn_a u 10)) 3 (dn_h0 hu) rfl dn_in_X11_town_11 rfl rfl dn_fw_X11_town_35 rfl dX11_town_29 ?_
    refine dt_aload_n X 1 dX11_town_32 rfl rfl ?_
    refine dt_get X (T := TX11) (N := 10) (v := .ref (dn_a u 3)) 1 (dn_h0 hu) rfl dn_in_X11_town_11 rfl rfl dn_fw_X11_town_19 rfl dX11_town_33 ?_
    refine dt_callV X (dn_runV X (T := TX3) (N := 8) [.ref (dn_a u 3)] (dn_hM hu dn_M10) rfl rfl (c_X3_begin (dn_la g) u hu 10 3 dn_M10 dn_T3 s4) gX11_town_X3_begin rfl dn_hd_X3_begin rfl rfl rfl rfl dX11_town_36) (fun r9 s7 e8 => ?_)
    refine dt_aload_n X 1 dX11_town_39 rfl rfl ?_
    refine dt_get X (T := TX11) (N := 10) (v := .ref (dn_a u 23)) 6 (dn_h0 hu) rfl dn_in_X11_town_11 rfl rfl dn_fw_X11_town_60 rfl dX11_town_40 ?_
    refine dt_callI X (dn_runV X (T := TX2) (N := 6) [] (dn_h23 hu) rfl rfl (c_X2_empty (dn_la g) u hu s7) gX11_town_X2_empty rfl dn_hd_X2_empty rfl rfl rfl rfl dX11_town_43) (fun r12 s10 e11 => ?_)
    refine dt_pop X dX11_town_46 rfl ?_
    refine dt_aload_n X 1 dX11_town_47 rfl rfl ?_
    refine dt_get X (T := TX11) (N := 10) (v := .ref (dn_a u 30)) 7 (dn_h0 hu) rfl dn_in_X11_town_11 rfl rfl dn_fw_X11_town_69 rfl dX11_town_48 ?_
    refine dt_callI X (dn_runV X (T := TX0) (N := 4) [] (dn_h30 hu) rfl rfl (c_X0_empty (dn_la g) u hu s10) gX11_town_X0_empty rfl dn_hd_X0_empty rfl rfl rfl rfl dX11_town_51) (fun r15 s13 e14 => ?_)
    refine dt_pop X dX11_town_54 rfl ?_
    refine dt_aload_n X 1 dX11_town_55 rfl rfl ?_
    refine dt_get X (T := TX11) (N := 10) (v := .ref (dn_a u 36)) 8 (dn_h0 hu) rfl dn_in_X11_town_11 rfl rfl dn_fw_X11_town_76 rfl dX11_town_56 ?_
    refine dt_callV X (dn_runV X (T := TX6) (N := 5) [] (dn_h36 hu) rfl rfl (c_X6_loseAll (dn_la g) u hu s13) gX11_town_X6_loseAll rfl dn_hd_X6_loseAll rfl rfl rfl rfl dX11_town_59) (fun r18 s16 e17 => ?_)
    refine dt_aload_n X 1 dX11_town_62 rfl rfl ?_
    refine dt_get X (T := TX11) (N := 10) (v := .ref (dn_a u 1)) 0 (dn_h0 hu) rfl dn_in_X11_town_11 rfl rfl dn_fw_X11_town_10 rfl dX11_town_63 ?_
    refine dt_callI X (dn_runV X (T := TX9) (N := 2) [] (dn_h1 hu) rfl rfl (c_X9_empty (dn_la g) u hu s16) gX11_town_X9_empty rfl dn_hd_X9_empty rfl rfl rfl rfl dX11_town_66) (fun r21 s19 e20 => ?_)
    refine dt_pop X dX11_town_69 rfl ?_
    refine dt_iload_n X 0 dX11_town_70 rfl rfl ?_
    exact dt_iret X dX11_town_71
  · refine dt_iload_n X 0 dX11_town_12 rfl rfl ?_
    exact dt_iret X dX11_town_13
set_option maxRecDepth 100000 in
set_option maxHeartbeats 4000000 in
theorem c_X11_isBidder (l : Launch) (u : dn_U) (hu : dn_Lu u = dn_LC) (a1 : Int32) (s : dn_S) : dn_Met l u yX11_isBidder wsX11_isBidder 1 22 [.ref (dn_a u 0), .int a1] s (m_X11_isBidder a1 s) (dn_QZ u) := by
  refine dt_entry RX11 [(0, .ref (dn_a u 0)), (1, .int a1)] (by decide +kernel) rfl rfl rfl rfl (fun g hgl X => ?_)
  subst hgl
  unfold m_X11_isBidder
  refine dt_iload_n X 1 dX11_isBidder_0 rfl rfl ?_
  refine dt_iconst X (v := 0) dX11_isBidder_1 (by decide) ?_
  refine dt_aload_n X 0 dX11_isBidder_2 rfl rfl ?_
  refine dt_get X (T := TX11) (N := 10) (v := .ref (dn_a u 3)) 1 (dn_h0 hu) rfl dn_in_X11_isBidder_11 rfl rfl dn_fw_X11_isBidder_19 rfl dX11_isBidder_3 ?_
  refine dt_getN X (T := TX10) (N := 5) (v := .int (dn_g s 3 2)) 2 (dn_hT hu dn_T3) rfl dn_in_X11_isBidder_10 rfl rfl dn_fw_X11_isBidder_268 rfl dX11_isBidder_6 ?_
  refine dt_iconst X (v := 1) dX11_isBidder_9 (by decide) ?_
  refine dt_isub X dX11_isBidder_10 ?_
  refine dt_callZ X (dn_runS X [.int a1, .int 0, .int ((dn_g s 3 2) - 1)] (c_X11_within (dn_la g) u hu a1 0 ((dn_g s 3 2) - 1) s) gX11_isBidder_X11_within rfl dn_hs_X11_within rfl rfl rfl rfl dX11_isBidder_11) (fun r3 s1 e2 => ?_)
  exact dt_zret (v := r3) X dX11_isBidder_14
set_option maxRecDepth 100000 in
set_option maxHeartbeats 4000000 in
theorem c_X3_purse (l : Launch) (u : dn_U) (hu : dn_Lu u = dn_LC) (k : Nat) (a1 : Int32) (hk : dn_isM k) (s : dn_S) : dn_Met l u yX3_purse wsX3_purse 1 21 [.ref (dn_a u k), .int a1] s (m_X3_purse k a1 s) (dn_QI u) := by
  refine dt_entry RX3 [(0, .ref (dn_a u k)), (1, .int a1)] (by decide +kernel) rfl rfl rfl rfl (fun g hgl X => ?_)
  subst hgl
  unfold m_X3_purse
  refine dt_aload_n X 0 dX3_purse_0 rfl rfl ?_
  refine dt_get X (T := TX3) (N := 8) (v := .ref (dn_a u (k + 2))) 1 (dn_hM hu hk) rfl dn_in_X3_purse_3 rfl rfl dn_fw_X3_purse_15 rfl dX3_purse_1 ?_
  refine dt_iload_n X 1 dX3_purse_4 rfl rfl ?_
  refine dt_callI X (dn_runSN X [.ref (dn_a u (k + 2)), .int a1] (c_X11_at (dn_la g) u hu (k + 2) 4 a1 (dn_hM2 hu hk) s) gX3_purse_X11_at_n54 rfl dn_nm_X3_purse_54 dn_sw_X3_purse_X11_at_1 dn_sw_X3_purse_X11_at_2 dn_hs_X11_at rfl rfl rfl rfl dX3_purse_5) (fun r3 s1 e2 => ?_)
  exact dt_iret X dX3_purse_8
set_option maxRecDepth 100000 in
set_option maxHeartbeats 4000000 in
theorem c_X11_bidder (l : Launch) (u : dn_U) (hu : dn_Lu u = dn_LC) (a1 : Int32) (a2 : Int32) (s : dn_S) : dn_Met l u yX11_bidder wsX11_bidder 2 43 [.ref (dn_a u 0), .int a1, .int a2] s (m_X11_bidder a1 a2 s) (dn_QI u) := by
  refine dt_entry RX11 [(0, .ref (dn_a u 0)), (1, .int a1), (2, .int a2)] (by decide +kernel) rfl rfl rfl rfl (fun g hgl X => ?_)
  subst hgl
  unfold m_X11_bidder
  refine dt_aload_n X 0 dX11_bidder_0 rfl rfl ?_
  refine dt_iload_n X 1 dX11_bidder_1 rfl rfl ?_
  refine dt_callZ X (dn_runV X (T := TX11) (N := 10) [.int a1] (dn_h0 hu) rfl rfl (c_X11_isBidder (dn_la g) u hu a1 s) gX11_bidder_X11_isBidder rfl dn_hd_X11_isBidder rfl rfl rfl rfl dX11_bidder_2) (fun r3 s1 e2 => ?_)
  refine dt_if_eqb X 18 dX11_bidder_5 (by decide) ?_ ?_
  · refine dt_iconst X (v := -1) dX11_bidder_18 (by decide) ?_
    exact dt_iret X dX11_bidder_19
  · refine dt_iload_n X 2 dX11_bidder_8 rfl rfl ?_
    refine dt_iconst X (v := 0) dX11_bidder_9 (by decide) ?_
    refine dt_bipush X (v := 6) dX11_bidder_10 (by decide) ?_
    refine dt_callZ X (dn_runS X [.int a2, .int 0, .int 6] (c_X11_within (dn_la g) u hu a2 0 6 s1) gX11_bidder_X11_within rfl dn_hs_X11_within rfl rfl rfl rfl dX11_bidder_12) (fun r6 s4 e5 => ?_)
    refine dt_if_neb X 20 dX11_bidder_15 (by decide) ?_ ?_
    · refine dt_iload_n X 2 dX11_bidder_20 rfl rfl ?_
      refine dt_if_ne X 35 dX11_bidder_21 (by decide) ?_ ?_
      · refine dt_aload_n X 0 dX11_bidder_35 rfl rfl ?_
        refine dt_get X (T := TX11) (N := 10) (v := .ref (dn_a u 3)) 1 (dn_h0 hu) rfl dn_in_X11_bidder_11 rfl rfl dn_fw_X11_bidder_19 rfl dX11_bidder_36 ?_
        refine dt_iload_n X 1 dX11_bidder_39 rfl rfl ?_
        refine dt_iload_n X 2 dX11_bidder_40 rfl rfl ?_
        refine dt_callI X (dn_runV X (T := TX10) (N := 5) [.int a1, .int a2] (dn_hT hu dn_T3) rfl rfl (c_X10_ofBidder (dn_la g) u hu 3 a1 a2 dn_T3 s4) gX11_bidder_X10_ofBidder rfl dn_hd_X10_ofBidder rfl rfl rfl rfl dX11_bidder_41) (fun r9 s7 e8 => ?_)
        exact dt_iret X dX11_bidder_44
      · refine dt_aload_n X 0 dX11_bidder_24 rfl rfl ?_
        refine dt_get X (T := TX11) (N := 10) (v := .ref (dn_a u 10)) 3 (dn_h0 hu) rfl dn_in_X11_bidder_11 rfl rfl dn_fw_X11_bidder_35 rfl dX11_bidder_25 ?_
        refine dt_iload_n X 1 dX11_bidder_28 rfl rfl ?_
        refine dt_callI X (dn_runV X (T := TX3) (N := 8) [.int a1] (dn_hM hu dn_M10) rfl rfl (c_X3_purse (dn_la g) u hu 10 a1 dn_M10 s4) gX11_bidder_X3_purse rfl dn_hd_X3_purse rfl rfl rfl rfl dX11_bidder_29) (fun r12 s10 e11 => ?_)
        refine dt_goto X 44 dX11_bidder_32 (by decide) ?_
        exact dt_iret X dX11_bidder_44
    · refine dt_iconst X (v := -1) dX11_bidder_18 (by decide) ?_
      exact dt_iret X dX11_bidder_19
set_option maxRecDepth 100000 in
set_option maxHeartbeats 4000000 in
theorem c_X11_isDebt (l : Launch) (u : dn_U) (hu : dn_Lu u = dn_LC) (a1 : Int32) (s : dn_S) : dn_Met l u yX11_isDebt wsX11_isDebt 1 22 [.ref (dn_a u 0), .int a1] s (m_X11_isDebt a1 s) (dn_QZ u) := by
  refine dt_entry RX11 [(0, .ref (dn_a u 0)), (1, .int a1)] (by decide +kernel) rfl rfl rfl rfl (fun g hgl X => ?_)
  subst hgl
  unfold m_X11_isDebt
  refine dt_iload_n X 1 dX11_isDebt_0 rfl rfl ?_
  refine dt_iconst X (v := 0) dX11_isDebt_1 (by decide) ?_
  refine dt_aload_n X 0 dX11_isDebt_2 rfl rfl ?_
  refine dt_get X (T := TX11) (N := 10) (v := .ref (dn_a u 3)) 1 (dn_h0 hu) rfl dn_in_X11_isDebt_11 rfl rfl dn_fw_X11_isDebt_19 rfl dX11_isDebt_3 ?_
  refine dt_getN X (T := TX10) (N := 5) (v := .int (dn_g s 3 3)) 3 (dn_hT hu dn_T3) rfl dn_in_X11_isDebt_10 rfl rfl dn_fw_X11_isDebt_271 rfl dX11_isDebt_6 ?_
  refine dt_iconst X (v := 1) dX11_isDebt_9 (by decide) ?_
  refine dt_isub X dX11_isDebt_10 ?_
  refine dt_callZ X (dn_runS X [.int a1, .int 0, .int ((dn_g s 3 3) - 1)] (c_X11_within (dn_la g) u hu a1 0 ((dn_g s 3 3) - 1) s) gX11_isDebt_X11_within rfl dn_hs_X11_within rfl rfl rfl rfl dX11_isDebt_11) (fun r3 s1 e2 => ?_)
  exact dt_zret (v := r3) X dX11_isDebt_14
set_option maxRecDepth 100000 in
set_option maxHeartbeats 4000000 in
theorem c_X3_howIs (l : Launch) (u : dn_U) (hu : dn_Lu u = dn_LC) (k : Nat) (a1 : Int32) (hk : dn_isM k) (s : dn_S) : dn_Met l u yX3_howIs wsX3_howIs 1 21 [.ref (dn_a u k), .int a1] s (m_X3_howIs k a1 s) (dn_QI u) := by
  refine dt_entry RX3 [(0, .ref (dn_a u k)), (1, .int a1)] (by decide +kernel) rfl rfl rfl rfl (fun g hgl X => ?_)
  subst hgl
  unfold m_X3_howIs
  refine dt_aload_n X 0 dX3_howIs_0 rfl rfl ?_
  refine dt_get X (T := TX3) (N := 8) (v := .ref (dn_a u (k + 3))) 2 (dn_hM hu hk) rfl dn_in_X3_howIs_3 rfl rfl dn_fw_X3_howIs_18 rfl dX3_howIs_1 ?_
  refine dt_iload_n X 1 dX3_howIs_4 rfl rfl ?_
  refine dt_callI X (dn_runSN X [.ref (dn_a u (k + 3)), .int a1] (c_X11_at (dn_la g) u hu (k + 3) 6 a1 (dn_hM3 hu hk) s) gX3_howIs_X11_at_n54 rfl dn_nm_X3_howIs_54 dn_sw_X3_howIs_X11_at_1 dn_sw_X3_howIs_X11_at_2 dn_hs_X11_at rfl rfl rfl rfl dX3_howIs_5) (fun r3 s1 e2 => ?_)
  exact dt_iret X dX3_howIs_8
set_option maxRecDepth 100000 in
set_option maxHeartbeats 4000000 in
theorem c_X11_debt (l : Launch) (u : dn_U) (hu : dn_Lu u = dn_LC) (a1 : Int32) (a2 : Int32) (s : dn_S) : dn_Met l u yX11_debt wsX11_debt 2 43 [.ref (dn_a u 0), .int a1, .int a2] s (m_X11_debt a1 a2 s) (dn_QI u) := by
  refine dt_entry RX11 [(0, .ref (dn_a u 0)), (1, .int a1), (2, .int a2)] (by decide +kernel) rfl rfl rfl rfl (fun g hgl X => ?_)
  subst hgl
  unfold m_X11_debt
  refine dt_aload_n X 0 dX11_debt_0 rfl rfl ?_
  refine dt_iload_n X 1 dX11_debt_1 rfl rfl ?_
  refine dt_callZ X (dn_runV X (T := TX11) (N := 10) [.int a1] (dn_h0 hu) rfl rfl (c_X11_isDebt (dn_la g) u hu a1 s) gX11_debt_X11_isDebt rfl dn_hd_X11_isDebt rfl rfl rfl rfl dX11_debt_2) (fun r3 s1 e2 => ?_)
  refine dt_if_eqb X 17 dX11_debt_5 (by decide) ?_ ?_
  · refine dt_iconst X (v := -1) dX11_debt_17 (by decide) ?_
    exact dt_iret X dX11_debt_18
  · refine dt_iload_n X 2 dX11_debt_8 rfl rfl ?_
    refine dt_iconst X (v := 0) dX11_debt_9 (by decide) ?_
    refine dt_iconst X (v := 5) dX11_debt_10 (by decide) ?_
    refine dt_callZ X (dn_runS X [.int a2, .int 0, .int 5] (c_X11_within (dn_la g) u hu a2 0 5 s1) gX11_debt_X11_within rfl dn_hs_X11_within rfl rfl rfl rfl dX11_debt_11) (fun r6 s4 e5 => ?_)
    refine dt_if_neb X 19 dX11_debt_14 (by decide) ?_ ?_
    · refine dt_iload_n X 2 dX11_debt_19 rfl rfl ?_
      refine dt_iconst X (v := 5) dX11_debt_20 (by decide) ?_
      refine dt_icmp_ne X 35 dX11_debt_21 (by decide) ?_ ?_
      · refine dt_aload_n X 0 dX11_debt_35 rfl rfl ?_
        refine dt_get X (T := TX11) (N := 10) (v := .ref (dn_a u 3)) 1 (dn_h0 hu) rfl dn_in_X11_debt_11 rfl rfl dn_fw_X11_debt_19 rfl dX11_debt_36 ?_
        refine dt_iload_n X 1 dX11_debt_39 rfl rfl ?_
        refine dt_iload_n X 2 dX11_debt_40 rfl rfl ?_
        refine dt_callI X (dn_runV X (T := TX10) (N := 5) [.int a1, .int a2] (dn_hT hu dn_T3) rfl rfl (c_X10_ofDebt (dn_la g) u hu 3 a1 a2 dn_T3 s4) gX11_debt_X10_ofDebt rfl dn_hd_X10_ofDebt rfl rfl rfl rfl dX11_debt_41) (fun r9 s7 e8 => ?_)
        exact dt_iret X dX11_debt_44
      · refine dt_aload_n X 0 dX11_debt_24 rfl rfl ?_
        refine dt_get X (T := TX11) (N := 10) (v := .ref (dn_a u 10)) 3 (dn_h0 hu) rfl dn_in_X11_debt_11 rfl rfl dn_fw_X11_debt_35 rfl dX11_debt_25 ?_
        refine dt_iload_n X 1 dX11_debt_28 rfl rfl ?_
        refine dt_callI X (dn_runV X (T := TX3) (N := 8) [.int a1] (dn_hM hu dn_M10) rfl rfl (c_X3_howIs (dn_la g) u hu 10 a1 dn_M10 s4) gX11_debt_X3_howIs rfl dn_hd_X3_howIs rfl rfl rfl rfl dX11_debt_29) (fun r12 s10 e11 => ?_)
        refine dt_goto X 44 dX11_debt_32 (by decide) ?_
        exact dt_iret X dX11_debt_44
    · refine dt_iconst X (v := -1) dX11_debt_17 (by decide) ?_
      exact dt_iret X dX11_debt_18
set_option maxRecDepth 100000 in
set_option maxHeartbeats 4000000 in
theorem c_X3_nameOfDay (l : Launch) (u : dn_U) (hu : dn_Lu u = dn_LC) (k : Nat) (a1 : Int32) (hk : dn_isM k) (s : dn_S) : dn_Met l u yX3_nameOfDay wsX3_nameOfDay 1 21 [.ref (dn_a u k), .int a1] s (m_X3_nameOfDay k a1 s) (dn_QI u) := by
  refine dt_entry RX3 [(0, .ref (dn_a u k)), (1, .int a1)] (by decide +kernel) rfl rfl rfl rfl (fun g hgl X => ?_)
  subst hgl
  unfold m_X3_nameOfDay
  refine dt_aload_n X 0 dX3_nameOfDay_0 rfl rfl ?_
  refine dt_get X (T := TX3) (N := 8) (v := .ref (dn_a u (k + 1))) 0 (dn_hM hu hk) rfl dn_in_X3_nameOfDay_3 rfl rfl dn_fw_X3_nameOfDay_9 rfl dX3_nameOfDay_1 ?_
  refine dt_iload_n X 1 dX3_nameOfDay_4 rfl rfl ?_
  refine dt_iconst X (v := 1) dX3_nameOfDay_5 (by decide) ?_
  refine dt_isub X dX3_nameOfDay_6 ?_
  refine dt_callI X (dn_runSN X [.ref (dn_a u (k + 1)), .int (a1 - 1)] (c_X11_at (dn_la g) u hu (k + 1) 100 (a1 - 1) (dn_hM1 hu hk) s) gX3_nameOfDay_X11_at_n54 rfl dn_nm_X3_nameOfDay_54 dn_sw_X3_nameOfDay_X11_at_1 dn_sw_X3_nameOfDay_X11_at_2 dn_hs_X11_at rfl rfl rfl rfl dX3_nameOfDay_7) (fun r3 s1 e2 => ?_)
  exact dt_iret X dX3_nameOfDay_10
set_option maxRecDepth 100000 in
set_option maxHeartbeats 4000000 in
theorem c_X11_day (l : Launch) (u : dn_U) (hu : dn_Lu u = dn_LC) (a1 : Int32) (s : dn_S) : dn_Met l u yX11_day wsX11_day 2 42 [.ref (dn_a u 0), .int a1] s (m_X11_day a1 s) (dn_QI u) := by
  refine dt_entry RX11 [(0, .ref (dn_a u 0)), (1, .int a1)] (by decide +kernel) rfl rfl rfl rfl (fun g hgl X => ?_)
  subst hgl
  unfold m_X11_day
  refine dt_iload_n X 1 dX11_day_0 rfl rfl ?_
  refine dt_iconst X (v := 1) dX11_day_1 (by decide) ?_
  refine dt_aload_n X 0 dX11_day_2 rfl rfl ?_
  refine dt_get X (T := TX11) (N := 10) (v := .ref (dn_a u 10)) 3 (dn_h0 hu) rfl dn_in_X11_day_11 rfl rfl dn_fw_X11_day_35 rfl dX11_day_3 ?_
  refine dt_getN X (T := TX3) (N := 8) (v := .int (dn_g s 10 3)) 3 (dn_hM hu dn_M10) rfl dn_in_X11_day_3 rfl rfl dn_fw_X11_day_143 rfl dX11_day_6 ?_
  refine dt_callZ X (dn_runS X [.int a1, .int 1, .int (dn_g s 10 3)] (c_X11_within (dn_la g) u hu a1 1 (dn_g s 10 3) s) gX11_day_X11_within rfl dn_hs_X11_within rfl rfl rfl rfl dX11_day_9) (fun r3 s1 e2 => ?_)
  refine dt_if_eqb X 26 dX11_day_12 (by decide) ?_ ?_
  · refine dt_iconst X (v := -1) dX11_day_26 (by decide) ?_
    exact dt_iret X dX11_day_27
  · refine dt_aload_n X 0 dX11_day_15 rfl rfl ?_
    refine dt_get X (T := TX11) (N := 10) (v := .ref (dn_a u 10)) 3 (dn_h0 hu) rfl dn_in_X11_day_11 rfl rfl dn_fw_X11_day_35 rfl dX11_day_16 ?_
    refine dt_iload_n X 1 dX11_day_19 rfl rfl ?_
    refine dt_callI X (dn_runV X (T := TX3) (N := 8) [.int a1] (dn_hM hu dn_M10) rfl rfl (c_X3_nameOfDay (dn_la g) u hu 10 a1 dn_M10 s1) gX11_day_X3_nameOfDay rfl dn_hd_X3_nameOfDay rfl rfl rfl rfl dX11_day_20) (fun r6 s4 e5 => ?_)
    refine dt_goto X 27 dX11_day_23 (by decide) ?_
    exact dt_iret X dX11_day_27
set_option maxRecDepth 100000 in
set_option maxHeartbeats 4000000 in
theorem c_X11_isName (l : Launch) (u : dn_U) (hu : dn_Lu u = dn_LC) (a1 : Int32) (s : dn_S) : dn_Met l u yX11_isName wsX11_isName 1 22 [.int a1] s (m_X11_isName a1 s) (dn_QZ u) := by
  refine dt_entry RX11 [(0, .int a1)] (by decide +kernel) rfl rfl rfl rfl (fun g hgl X => ?_)
  subst hgl
  unfold m_X11_isName
  refine dt_iload_n X 0 dX11_isName_0 rfl rfl ?_
  refine dt_iconst X (v := 0) dX11_isName_1 (by decide) ?_
  refine dt_iconst X (v := 4) dX11_isName_2 (by decide) ?_
  refine dt_callZ X (dn_runS X [.int a1, .int 0, .int 4] (c_X11_within (dn_la g) u hu a1 0 4 s) gX11_isName_X11_within rfl dn_hs_X11_within rfl rfl rfl rfl dX11_isName_3) (fun r3 s1 e2 => ?_)
  exact dt_zret (v := r3) X dX11_isName_6
set_option maxRecDepth 100000 in
set_option maxHeartbeats 4000000 in
theorem b_X3_daysCalled_24 {g : dn_M} {u : dn_U} (hu : dn_Lu u = dn_LC) (k : Nat) (hk : dn_isM k) (X : dn_X u g cX3_daysCalled wsX3_daysCalled RX3 4 2 42 (some .int)) (K4 : Int32 → Int32 → Int32 → dn_S → Option (Int32 × dn_S)) (H4 : ∀ (y1 : Int32) (y2 : Int32) (y3 : Int32) (s : dn_S), dn_T u g 4 (dn_QI u) (K4 y1 y2 y3 s) s 4 [(0, .ref (dn_a u k)), (1, .int y1), (2, .int y2), (3, .int y3)] []) (y1 : Int32) (y2 : Int32) (y3 : Int32) (s : dn_S) : dn_T u g 4 (dn_QI u) (m_X3_daysCalled_24 k K4 y1 y2 y3 s) s 24 [(0, .ref (dn_a u k)), (1, .int y1), (2, .int y2), (3, .int y3)] [] := by
  unfold m_X3_daysCalled_24
  refine dt_iinc X (v := y3 + 1) 3 [(3, .int (y3 + 1)), (0, .ref (dn_a u k)), (1, .int y1), (2, .int y2)] dX3_daysCalled_24 rfl (by rfl) rfl rfl ?_
  refine dt_ilet X rfl (fun x1 => ?_)
  refine dt_goto X 4 dX3_daysCalled_27 (by decide) ?_
  refine dt_sub X [(0, .ref (dn_a u k)), (1, .int y1), (2, .int y2), (3, .int x1)] [1, 2, 3, 0] rfl ?_
  exact H4 y1 y2 x1 s
set_option maxRecDepth 100000 in
set_option maxHeartbeats 4000000 in
theorem b_X3_daysCalled_4 {g : dn_M} {u : dn_U} (hu : dn_Lu u = dn_LC) (k : Nat) (hk : dn_isM k) (X : dn_X u g cX3_daysCalled wsX3_daysCalled RX3 4 2 42 (some .int)) : ∀ (n : Nat) (y1 : Int32) (y2 : Int32) (y3 : Int32) (s : dn_S), dn_T u g 4 (dn_QI u) (m_X3_daysCalled_4 k n y1 y2 y3 s) s 4 [(0, .ref (dn_a u k)), (1, .int y1), (2, .int y2), (3, .int y3)] [] := by
  intro n
  induction n with
  | zero =>
    intro y1 y2 y3 s
    exact dt_none X
  | succ n ih =>
    intro y1 y2 y3 s
    rw [m_X3_daysCalled_4]
    refine dt_iload_n X 3 dX3_daysCalled_4 rfl rfl ?_
    refine dt_aload_n X 0 dX3_daysCalled_5 rfl rfl ?_
    refine dt_get X (T := TX3) (N := 8) (v := .int (dn_g s k 3)) 3 (dn_hM hu hk) rfl dn_in_X3_daysCalled_3 rfl rfl dn_fw_X3_daysCalled_27 rfl dX3_daysCalled_6 ?_
    refine dt_icmp_gt X 30 dX3_daysCalled_9 (by decide) ?_ ?_
    · refine dt_iload_n X 2 dX3_daysCalled_30 rfl rfl ?_
      exact dt_iret X dX3_daysCalled_31
    · refine dt_aload_n X 0 dX3_daysCalled_12 rfl rfl ?_
      refine dt_iload_n X 3 dX3_daysCalled_13 rfl rfl ?_
      refine dt_callI X (dn_runV X (T := TX3) (N := 8) [.int y3] (dn_hM hu hk) rfl rfl (c_X3_nameOfDay (dn_la g) u hu k y3 hk s) gX3_daysCalled_X3_nameOfDay rfl dn_hd_X3_nameOfDay rfl rfl rfl rfl dX3_daysCalled_14) (fun r3 s1 e2 => ?_)
      refine dt_iload_n X 1 dX3_daysCalled_17 rfl rfl ?_
      refine dt_icmp_ne X 24 dX3_daysCalled_18 (by decide) ?_ ?_
      · refine dt_sub X [(0, .ref (dn_a u k)), (1, .int y1), (2, .int y2), (3, .int y3)] [0, 1, 2, 3] rfl ?_
        exact b_X3_daysCalled_24 hu k hk X (m_X3_daysCalled_4 k n) ih y1 y2 y3 s1
      · refine dt_iinc X (v := y2 + 1) 2 [(2, .int (y2 + 1)), (0, .ref (dn_a u k)), (1, .int y1), (3, .int y3)] dX3_daysCalled_21 rfl (by rfl) rfl rfl ?_
        refine dt_ilet X rfl (fun x4 => ?_)
        refine dt_sub X [(0, .ref (dn_a u k)), (1, .int y1), (2, .int x4), (3, .int y3)] [1, 2, 0, 3] rfl ?_
        exact b_X3_daysCalled_24 hu k hk X (m_X3_daysCalled_4 k n) ih y1 x4 y3 s1
set_option maxRecDepth 100000 in
set_option maxHeartbeats 4000000 in
theorem c_X3_daysCalled (l : Launch) (u : dn_U) (hu : dn_Lu u = dn_LC) (k : Nat) (a1 : Int32) (hk : dn_isM k) (s : dn_S) : dn_Met l u yX3_daysCalled wsX3_daysCalled 2 42 [.ref (dn_a u k), .int a1] s (m_X3_daysCalled k a1 s) (dn_QI u) := by
  refine dt_entry RX3 [(0, .ref (dn_a u k)), (1, .int a1)] (by decide +kernel) rfl rfl rfl rfl (fun g hgl X => ?_)
  subst hgl
  unfold m_X3_daysCalled
  refine dt_iconst X (v := 0) dX3_daysCalled_0 (by decide) ?_
  refine dt_istore_n X [(2, .int 0), (0, .ref (dn_a u k)), (1, .int a1)] dX3_daysCalled_1 rfl rfl rfl ?_
  refine dt_iconst X (v := 1) dX3_daysCalled_2 (by decide) ?_
  refine dt_istore_n X [(3, .int 1), (2, .int 0), (0, .ref (dn_a u k)), (1, .int a1)] dX3_daysCalled_3 rfl rfl rfl ?_
  refine dt_sub X [(0, .ref (dn_a u k)), (1, .int a1), (2, .int 0), (3, .int 1)] [2, 3, 1, 0] rfl ?_
  exact b_X3_daysCalled_4 hu k hk X 2048 a1 0 1 s
set_option maxRecDepth 100000 in
set_option maxHeartbeats 4000000 in
theorem b_X3_latestCalled_5 {g : dn_M} {u : dn_U} (hu : dn_Lu u = dn_LC) (k : Nat) (hk : dn_isM k) (X : dn_X u g cX3_latestCalled wsX3_latestCalled RX3 3 2 42 (some .int)) : ∀ (n : Nat) (y1 : Int32) (y2 : Int32) (s : dn_S), dn_T u g 3 (dn_QI u) (m_X3_latestCalled_5 k n y1 y2 s) s 5 [(0, .ref (dn_a u k)), (1, .int y1), (2, .int y2)] [] := by
  intro n
  induction n with
  | zero =>
    intro y1 y2 s
    exact dt_none X
  | succ n ih =>
    intro y1 y2 s
    rw [m_X3_latestCalled_5]
    refine dt_iload_n X 2 dX3_latestCalled_5 rfl rfl ?_
    refine dt_iconst X (v := 1) dX3_latestCalled_6 (by decide) ?_
    refine dt_icmp_lt X 27 dX3_latestCalled_7 (by decide) ?_ ?_
    · refine dt_iconst X (v := 0) dX3_latestCalled_27 (by decide) ?_
      exact dt_iret X dX3_latestCalled_28
    · refine dt_aload_n X 0 dX3_latestCalled_10 rfl rfl ?_
      refine dt_iload_n X 2 dX3_latestCalled_11 rfl rfl ?_
      refine dt_callI X (dn_runV X (T := TX3) (N := 8) [.int y2] (dn_hM hu hk) rfl rfl (c_X3_nameOfDay (dn_la g) u hu k y2 hk s) gX3_latestCalled_X3_nameOfDay rfl dn_hd_X3_nameOfDay rfl rfl rfl rfl dX3_latestCalled_12) (fun r3 s1 e2 => ?_)
      refine dt_iload_n X 1 dX3_latestCalled_15 rfl rfl ?_
      refine dt_icmp_ne X 21 dX3_latestCalled_16 (by decide) ?_ ?_
      · refine dt_iinc X (v := y2 + (-1)) 2 [(2, .int (y2 + (-1))), (0, .ref (dn_a u k)), (1, .int y1)] dX3_latestCalled_21 rfl (by rfl) rfl rfl ?_
        refine dt_ilet X rfl (fun x4 => ?_)
        refine dt_goto X 5 dX3_latestCalled_24 (by decide) ?_
        refine dt_sub X [(0, .ref (dn_a u k)), (1, .int y1), (2, .int x4)] [1, 2, 0] rfl ?_
        exact ih y1 x4 s1
      · refine dt_iload_n X 2 dX3_latestCalled_19 rfl rfl ?_
        exact dt_iret X dX3_latestCalled_20
set_option maxRecDepth 100000 in
set_option maxHeartbeats 4000000 in
theorem c_X3_latestCalled (l : Launch) (u : dn_U) (hu : dn_Lu u = dn_LC) (k : Nat) (a1 : Int32) (hk : dn_isM k) (s : dn_S) : dn_Met l u yX3_latestCalled wsX3_latestCalled 2 42 [.ref (dn_a u k), .int a1] s (m_X3_latestCalled k a1 s) (dn_QI u) := by
  refine dt_entry RX3 [(0, .ref (dn_a u k)), (1, .int a1)] (by decide +kernel) rfl rfl rfl rfl (fun g hgl X => ?_)
  subst hgl
  unfold m_X3_latestCalled
  refine dt_aload_n X 0 dX3_latestCalled_0 rfl rfl ?_
  refine dt_get X (T := TX3) (N := 8) (v := .int (dn_g s k 3)) 3 (dn_hM hu hk) rfl dn_in_X3_latestCalled_3 rfl rfl dn_fw_X3_latestCalled_27 rfl dX3_latestCalled_1 ?_
  refine dt_let X (fun x1 => ?_)
  refine dt_istore_n X [(2, .int x1), (0, .ref (dn_a u k)), (1, .int a1)] dX3_latestCalled_4 rfl rfl rfl ?_
  refine dt_sub X [(0, .ref (dn_a u k)), (1, .int a1), (2, .int x1)] [1, 2, 0] rfl ?_
  exact b_X3_latestCalled_5 hu k hk X 2048 a1 x1 s
set_option maxRecDepth 100000 in
set_option maxHeartbeats 4000000 in
theorem b_X3_isBarred_2 {g : dn_M} {u : dn_U} (hu : dn_Lu u = dn_LC) (k : Nat) (hk : dn_isM k) (X : dn_X u g cX3_isBarred wsX3_isBarred RX3 4 1 21 (some .boolean)) : ∀ (n : Nat) (y1 : Int32) (y2 : Int32) (y3 : Int32) (s : dn_S), dn_T u g 4 (dn_QZ u) (m_X3_isBarred_2 k n y1 y2 y3 s) s 2 [(0, .ref (dn_a u k)), (1, .int y1), (2, .int y2), (3, .int y3)] [] := by
  intro n
  induction n with
  | zero =>
    intro y1 y2 y3 s
    exact dt_none X
  | succ n ih =>
    intro y1 y2 y3 s
    rw [m_X3_isBarred_2]
    refine dt_iload_n X 3 dX3_isBarred_2 rfl rfl ?_
    refine dt_iload_n X 2 dX3_isBarred_3 rfl rfl ?_
    refine dt_icmp_gt X 40 dX3_isBarred_4 (by decide) ?_ ?_
    · refine dt_iconst X (v := 0) dX3_isBarred_40 (by decide) ?_
      exact dt_zret (v := false) X dX3_isBarred_41
    · refine dt_iload_n X 3 dX3_isBarred_7 rfl rfl ?_
      refine dt_aload_n X 0 dX3_isBarred_8 rfl rfl ?_
      refine dt_get X (T := TX3) (N := 8) (v := .int (dn_g s k 3)) 3 (dn_hM hu hk) rfl dn_in_X3_isBarred_3 rfl rfl dn_fw_X3_isBarred_27 rfl dX3_isBarred_9 ?_
      refine dt_icmp_gt X 40 dX3_isBarred_12 (by decide) ?_ ?_
      · refine dt_iconst X (v := 0) dX3_isBarred_40 (by decide) ?_
        exact dt_zret (v := false) X dX3_isBarred_41
      · refine dt_aload_n X 0 dX3_isBarred_15 rfl rfl ?_
        refine dt_get X (T := TX3) (N := 8) (v := .ref (dn_a u (k + 1))) 0 (dn_hM hu hk) rfl dn_in_X3_isBarred_3 rfl rfl dn_fw_X3_isBarred_9 rfl dX3_isBarred_16 ?_
        refine dt_aload_n X 0 dX3_isBarred_19 rfl rfl ?_
        refine dt_get X (T := TX3) (N := 8) (v := .int (dn_g s k 3)) 3 (dn_hM hu hk) rfl dn_in_X3_isBarred_3 rfl rfl dn_fw_X3_isBarred_27 rfl dX3_isBarred_20 ?_
        refine dt_iload_n X 3 dX3_isBarred_23 rfl rfl ?_
        refine dt_isub X dX3_isBarred_24 ?_
        refine dt_callI X (dn_runSN X [.ref (dn_a u (k + 1)), .int ((dn_g s k 3) - y3)] (c_X11_at (dn_la g) u hu (k + 1) 100 ((dn_g s k 3) - y3) (dn_hM1 hu hk) s) gX3_isBarred_X11_at_n54 rfl dn_nm_X3_isBarred_54 dn_sw_X3_isBarred_X11_at_1 dn_sw_X3_isBarred_X11_at_2 dn_hs_X11_at rfl rfl rfl rfl dX3_isBarred_25) (fun r3 s1 e2 => ?_)
        refine dt_iload_n X 1 dX3_isBarred_28 rfl rfl ?_
        refine dt_icmp_ne X 34 dX3_isBarred_29 (by decide) ?_ ?_
        · refine dt_iinc X (v := y3 + 1) 3 [(3, .int (y3 + 1)), (0, .ref (dn_a u k)), (1, .int y1), (2, .int y2)] dX3_isBarred_34 rfl (by rfl) rfl rfl ?_
          refine dt_ilet X rfl (fun x4 => ?_)
          refine dt_goto X 2 dX3_isBarred_37 (by decide) ?_
          refine dt_sub X [(0, .ref (dn_a u k)), (1, .int y1), (2, .int y2), (3, .int x4)] [1, 2, 3, 0] rfl ?_
          exact ih y1 y2 x4 s1
        · refine dt_iconst X (v := 1) dX3_isBarred_32 (by decide) ?_
          exact dt_zret (v := true) X dX3_isBarred_33
set_option maxRecDepth 100000 in
set_option maxHeartbeats 4000000 in
theorem c_X3_isBarred (l : Launch) (u : dn_U) (hu : dn_Lu u = dn_LC) (k : Nat) (a1 : Int32) (a2 : Int32) (hk : dn_isM k) (s : dn_S) : dn_Met l u yX3_isBarred wsX3_isBarred 1 21 [.ref (dn_a u k), .int a1, .int a2] s (m_X3_isBarred k a1 a2 s) (dn_QZ u) := by
  refine dt_entry RX3 [(0, .ref (dn_a u k)), (1, .int a1), (2, .int a2)] (by decide +kernel) rfl rfl rfl rfl (fun g hgl X => ?_)
  subst hgl
  unfold m_X3_isBarred
  refine dt_iconst X (v := 1) dX3_isBarred_0 (by decide) ?_
  refine dt_istore_n X [(3, .int 1), (0, .ref (dn_a u k)), (1, .int a1), (2, .int a2)] dX3_isBarred_1 rfl rfl rfl ?_
  refine dt_sub X [(0, .ref (dn_a u k)), (1, .int a1), (2, .int a2), (3, .int 1)] [1, 2, 3, 0] rfl ?_
  exact b_X3_isBarred_2 hu k hk X 2048 a1 a2 1 s
set_option maxRecDepth 100000 in
set_option maxHeartbeats 4000000 in
theorem c_X11_name (l : Launch) (u : dn_U) (hu : dn_Lu u = dn_LC) (a1 : Int32) (a2 : Int32) (s : dn_S) : dn_Met l u yX11_name wsX11_name 3 65 [.ref (dn_a u 0), .int a1, .int a2] s (m_X11_name a1 a2 s) (dn_QI u) := by
  refine dt_entry RX11 [(0, .ref (dn_a u 0)), (1, .int a1), (2, .int a2)] (by decide +kernel) rfl rfl rfl rfl (fun g hgl X => ?_)
  subst hgl
  unfold m_X11_name
  refine dt_iload_n X 1 dX11_name_0 rfl rfl ?_
  refine dt_callZ X (dn_runS X [.int a1] (c_X11_isName (dn_la g) u hu a1 s) gX11_name_X11_isName rfl dn_hs_X11_isName rfl rfl rfl rfl dX11_name_1) (fun r3 s1 e2 => ?_)
  refine dt_if_neb X 9 dX11_name_4 (by decide) ?_ ?_
  · refine dt_iload_n X 2 dX11_name_9 rfl rfl ?_
    refine dt_case X (c0 := 0) (fun h4 => ?_) (fun h4 => ?_)
    · refine dt_tabIn X 0 36 dX11_name_10 (by rw [h4]; rfl) rfl rfl rfl (by decide) ?_
      refine dt_aload_n X 0 dX11_name_36 rfl rfl ?_
      refine dt_get X (T := TX11) (N := 10) (v := .ref (dn_a u 10)) 3 (dn_h0 hu) rfl dn_in_X11_name_11 rfl rfl dn_fw_X11_name_35 rfl dX11_name_37 ?_
      refine dt_iload_n X 1 dX11_name_40 rfl rfl ?_
      refine dt_callI X (dn_runV X (T := TX3) (N := 8) [.int a1] (dn_hM hu dn_M10) rfl rfl (c_X3_daysCalled (dn_la g) u hu 10 a1 dn_M10 s1) gX11_name_X3_daysCalled rfl dn_hd_X3_daysCalled rfl rfl rfl rfl dX11_name_41) (fun r7 s5 e6 => ?_)
      exact dt_iret X dX11_name_44
    refine dt_case X (c0 := 1) (fun h8 => ?_) (fun h8 => ?_)
    · refine dt_tabIn X 1 45 dX11_name_10 (by rw [h8]; rfl) rfl rfl rfl (by decide) ?_
      refine dt_aload_n X 0 dX11_name_45 rfl rfl ?_
      refine dt_get X (T := TX11) (N := 10) (v := .ref (dn_a u 10)) 3 (dn_h0 hu) rfl dn_in_X11_name_11 rfl rfl dn_fw_X11_name_35 rfl dX11_name_46 ?_
      refine dt_iload_n X 1 dX11_name_49 rfl rfl ?_
      refine dt_callI X (dn_runV X (T := TX3) (N := 8) [.int a1] (dn_hM hu dn_M10) rfl rfl (c_X3_latestCalled (dn_la g) u hu 10 a1 dn_M10 s1) gX11_name_X3_latestCalled rfl dn_hd_X3_latestCalled rfl rfl rfl rfl dX11_name_50) (fun r11 s9 e10 => ?_)
      exact dt_iret X dX11_name_53
    refine dt_case X (c0 := 2) (fun h12 => ?_) (fun h12 => ?_)
    · refine dt_tabIn X 2 54 dX11_name_10 (by rw [h12]; rfl) rfl rfl rfl (by decide) ?_
      refine dt_aload_n X 0 dX11_name_54 rfl rfl ?_
      refine dt_get X (T := TX11) (N := 10) (v := .ref (dn_a u 10)) 3 (dn_h0 hu) rfl dn_in_X11_name_11 rfl rfl dn_fw_X11_name_35 rfl dX11_name_55 ?_
      refine dt_iload_n X 1 dX11_name_58 rfl rfl ?_
      refine dt_aload_n X 0 dX11_name_59 rfl rfl ?_
      refine dt_get X (T := TX11) (N := 10) (v := .ref (dn_a u 3)) 1 (dn_h0 hu) rfl dn_in_X11_name_11 rfl rfl dn_fw_X11_name_19 rfl dX11_name_60 ?_
      refine dt_getN X (T := TX10) (N := 5) (v := .int (dn_g s1 3 4)) 4 (dn_hT hu dn_T3) rfl dn_in_X11_name_10 rfl rfl dn_fw_X11_name_158 rfl dX11_name_63 ?_
      refine dt_callZ X (dn_runV X (T := TX3) (N := 8) [.int a1, .int (dn_g s1 3 4)] (dn_hM hu dn_M10) rfl rfl (c_X3_isBarred (dn_la g) u hu 10 a1 (dn_g s1 3 4) dn_M10 s1) gX11_name_X3_isBarred rfl dn_hd_X3_isBarred rfl rfl rfl rfl dX11_name_66) (fun r15 s13 e14 => ?_)
      refine dt_if_eqb X 76 dX11_name_69 (by decide) ?_ ?_
      · refine dt_iconst X (v := 0) dX11_name_76 (by decide) ?_
        exact dt_iret X dX11_name_77
      · refine dt_iconst X (v := 1) dX11_name_72 (by decide) ?_
        refine dt_goto X 77 dX11_name_73 (by decide) ?_
        exact dt_iret X dX11_name_77
    refine dt_tabOut X 78 dX11_name_10 (dn_out_0_2 h4 h8 h12) (by decide) ?_
    refine dt_iconst X (v := -1) dX11_name_78 (by decide) ?_
    exact dt_iret X dX11_name_79
  · refine dt_iconst X (v := -1) dX11_name_7 (by decide) ?_
    exact dt_iret X dX11_name_8
set_option maxRecDepth 100000 in
set_option maxHeartbeats 4000000 in
theorem b_X3_defaults_26 {g : dn_M} {u : dn_U} (hu : dn_Lu u = dn_LC) (k : Nat) (hk : dn_isM k) (X : dn_X u g cX3_defaults wsX3_defaults RX3 3 0 0 (some .int)) (K4 : Int32 → Int32 → dn_S → Option (Int32 × dn_S)) (H4 : ∀ (y1 : Int32) (y2 : Int32) (s : dn_S), dn_T u g 3 (dn_QI u) (K4 y1 y2 s) s 4 [(0, .ref (dn_a u k)), (1, .int y1), (2, .int y2)] []) (y1 : Int32) (y2 : Int32) (s : dn_S) : dn_T u g 3 (dn_QI u) (m_X3_defaults_26 k K4 y1 y2 s) s 26 [(0, .ref (dn_a u k)), (1, .int y1), (2, .int y2)] [] := by
  unfold m_X3_defaults_26
  refine dt_iinc X (v := y2 + 1) 2 [(2, .int (y2 + 1)), (0, .ref (dn_a u k)), (1, .int y1)] dX3_defaults_26 rfl (by rfl) rfl rfl ?_
  refine dt_ilet X rfl (fun x1 => ?_)
  refine dt_goto X 4 dX3_defaults_29 (by decide) ?_
  refine dt_sub X [(0, .ref (dn_a u k)), (1, .int y1), (2, .int x1)] [1, 2, 0] rfl ?_
  exact H4 y1 x1 s
set_option maxRecDepth 100000 in
set_option maxHeartbeats 4000000 in
theorem b_X3_defaults_4 {g : dn_M} {u : dn_U} (hu : dn_Lu u = dn_LC) (k : Nat) (hk : dn_isM k) (X : dn_X u g cX3_defaults wsX3_defaults RX3 3 0 0 (some .int)) : ∀ (n : Nat) (y1 : Int32) (y2 : Int32) (s : dn_S), dn_T u g 3 (dn_QI u) (m_X3_defaults_4 k n y1 y2 s) s 4 [(0, .ref (dn_a u k)), (1, .int y1), (2, .int y2)] [] := by
  intro n
  induction n with
  | zero =>
    intro y1 y2 s
    exact dt_none X
  | succ n ih =>
    intro y1 y2 s
    rw [m_X3_defaults_4]
    refine dt_iload_n X 2 dX3_defaults_4 rfl rfl ?_
    refine dt_aload_n X 0 dX3_defaults_5 rfl rfl ?_
    refine dt_get X (T := TX3) (N := 8) (v := .ref (dn_a u (k + 3))) 2 (dn_hM hu hk) rfl dn_in_X3_defaults_3 rfl rfl dn_fw_X3_defaults_18 rfl dX3_defaults_6 ?_
    refine dt_alen X (dn_hM3 hu hk) dX3_defaults_9 rfl ?_
    refine dt_icmp_ge X 32 dX3_defaults_10 (by decide) ?_ ?_
    · refine dt_iload_n X 1 dX3_defaults_32 rfl rfl ?_
      exact dt_iret X dX3_defaults_33
    · refine dt_aload_n X 0 dX3_defaults_13 rfl rfl ?_
      refine dt_get X (T := TX3) (N := 8) (v := .ref (dn_a u (k + 3))) 2 (dn_hM hu hk) rfl dn_in_X3_defaults_3 rfl rfl dn_fw_X3_defaults_18 rfl dX3_defaults_14 ?_
      refine dt_iload_n X 2 dX3_defaults_17 rfl rfl ?_
      refine dt_iald X (dn_hM3 hu hk) dX3_defaults_18 ?_
      refine dt_iconst X (v := 2) dX3_defaults_19 (by decide) ?_
      refine dt_icmp_ne X 26 dX3_defaults_20 (by decide) ?_ ?_
      · refine dt_sub X [(0, .ref (dn_a u k)), (1, .int y1), (2, .int y2)] [0, 1, 2] rfl ?_
        exact b_X3_defaults_26 hu k hk X (m_X3_defaults_4 k n) ih y1 y2 s
      · refine dt_iinc X (v := y1 + 1) 1 [(1, .int (y1 + 1)), (0, .ref (dn_a u k)), (2, .int y2)] dX3_defaults_23 rfl (by rfl) rfl rfl ?_
        refine dt_ilet X rfl (fun x1 => ?_)
        refine dt_sub X [(0, .ref (dn_a u k)), (1, .int x1), (2, .int y2)] [1, 0, 2] rfl ?_
        exact b_X3_defaults_26 hu k hk X (m_X3_defaults_4 k n) ih x1 y2 s
set_option maxRecDepth 100000 in
set_option maxHeartbeats 4000000 in
theorem c_X3_defaults (l : Launch) (u : dn_U) (hu : dn_Lu u = dn_LC) (k : Nat) (hk : dn_isM k) (s : dn_S) : dn_Met l u yX3_defaults wsX3_defaults 0 0 [.ref (dn_a u k)] s (m_X3_defaults k s) (dn_QI u) := by
  refine dt_entry RX3 [(0, .ref (dn_a u k))] (by decide +kernel) rfl rfl rfl rfl (fun g hgl X => ?_)
  subst hgl
  unfold m_X3_defaults
  refine dt_iconst X (v := 0) dX3_defaults_0 (by decide) ?_
  refine dt_istore_n X [(1, .int 0), (0, .ref (dn_a u k))] dX3_defaults_1 rfl rfl rfl ?_
  refine dt_iconst X (v := 0) dX3_defaults_2 (by decide) ?_
  refine dt_istore_n X [(2, .int 0), (1, .int 0), (0, .ref (dn_a u k))] dX3_defaults_3 rfl rfl rfl ?_
  refine dt_sub X [(0, .ref (dn_a u k)), (1, .int 0), (2, .int 0)] [2, 1, 0] rfl ?_
  exact b_X3_defaults_4 hu k hk X 2048 0 0 s
