set_option maxRecDepth 100000 in
set_option maxHeartbeats 4000000 in
theorem c_X10_worth (l : Launch) (u : dn_U) (hu : dn_Lu u = dn_LC) (k : Nat) (a1 : Int32) (a2 : Int32) (hk : dn_isT k) (s : dn_S) : dn_Met l u yX10_worth wsX10_worth 1 21 [.ref (dn_a u k), .int a1, .int a2] s (m_X10_worth k a1 a2 s) (dn_QI u) := by
  refine dt_entry RX10 [(0, .ref (dn_a u k)), (1, .int a1), (2, .int a2)] (by decide +kernel) rfl rfl rfl rfl (fun g hgl X => ?_)
  subst hgl
  unfold m_X10_worth
  refine dt_aload_n X 0 dX10_worth_0 rfl rfl ?_
  refine dt_get X (T := TX10) (N := 5) (v := .ref (dn_a u (k + 1))) 0 (dn_hT hu hk) rfl dn_in_X10_worth_10 rfl rfl dn_fw_X10_worth_11 rfl dX10_worth_1 ?_
  refine dt_iload_n X 1 dX10_worth_4 rfl rfl ?_
  refine dt_bipush X (v := 7) dX10_worth_5 (by decide) ?_
  refine dt_imul X dX10_worth_7 ?_
  refine dt_iconst X (v := 2) dX10_worth_8 (by decide) ?_
  refine dt_iadd X dX10_worth_9 ?_
  refine dt_iload_n X 2 dX10_worth_10 rfl rfl ?_
  refine dt_iadd X dX10_worth_11 ?_
  refine dt_callI X (dn_runSN X [.ref (dn_a u (k + 1)), .int (((a1 * 7) + 2) + a2)] (c_X11_at (dn_la g) u hu (k + 1) 28 (((a1 * 7) + 2) + a2) (dn_hT1 hu hk) s) gX10_worth_X11_at_n32 rfl dn_nm_X10_worth_32 dn_sw_X10_worth_X11_at_1 dn_sw_X10_worth_X11_at_2 dn_hs_X11_at rfl rfl rfl rfl dX10_worth_12) (fun r3 s1 e2 => ?_)
  exact dt_iret X dX10_worth_15
set_option maxRecDepth 100000 in
set_option maxHeartbeats 4000000 in
theorem b_X10_isWanted_2 {g : dn_M} {u : dn_U} (hu : dn_Lu u = dn_LC) (k : Nat) (hk : dn_isT k) (X : dn_X u g cX10_isWanted wsX10_isWanted RX10 3 2 43 (some .boolean)) : ∀ (n : Nat) (y1 : Int32) (y2 : Int32) (s : dn_S), dn_T u g 3 (dn_QZ u) (m_X10_isWanted_2 k n y1 y2 s) s 2 [(0, .ref (dn_a u k)), (1, .int y1), (2, .int y2)] [] := by
  intro n
  induction n with
  | zero =>
    intro y1 y2 s
    exact dt_none X
  | succ n ih =>
    intro y1 y2 s
    rw [m_X10_isWanted_2]
    refine dt_iload_n X 2 dX10_isWanted_2 rfl rfl ?_
    refine dt_aload_n X 0 dX10_isWanted_3 rfl rfl ?_
    refine dt_get X (T := TX10) (N := 5) (v := .int (dn_g s k 2)) 2 (dn_hT hu hk) rfl dn_in_X10_isWanted_10 rfl rfl dn_fw_X10_isWanted_22 rfl dX10_isWanted_4 ?_
    refine dt_icmp_ge X 27 dX10_isWanted_7 (by decide) ?_ ?_
    · refine dt_iconst X (v := 0) dX10_isWanted_27 (by decide) ?_
      exact dt_zret (v := false) X dX10_isWanted_28
    · refine dt_aload_n X 0 dX10_isWanted_10 rfl rfl ?_
      refine dt_iload_n X 2 dX10_isWanted_11 rfl rfl ?_
      refine dt_iload_n X 1 dX10_isWanted_12 rfl rfl ?_
      refine dt_callI X (dn_runV X (T := TX10) (N := 5) [.int y2, .int y1] (dn_hT hu hk) rfl rfl (c_X10_worth (dn_la g) u hu k y2 y1 hk s) gX10_isWanted_X10_worth rfl dn_hd_X10_worth rfl rfl rfl rfl dX10_isWanted_13) (fun r3 s1 e2 => ?_)
      refine dt_if_le X 21 dX10_isWanted_16 (by decide) ?_ ?_
      · refine dt_iinc X (v := y2 + 1) 2 [(2, .int (y2 + 1)), (0, .ref (dn_a u k)), (1, .int y1)] dX10_isWanted_21 rfl (by rfl) rfl rfl ?_
        refine dt_ilet X rfl (fun x4 => ?_)
        refine dt_goto X 2 dX10_isWanted_24 (by decide) ?_
        refine dt_sub X [(0, .ref (dn_a u k)), (1, .int y1), (2, .int x4)] [1, 2, 0] rfl ?_
        exact ih y1 x4 s1
      · refine dt_iconst X (v := 1) dX10_isWanted_19 (by decide) ?_
        exact dt_zret (v := true) X dX10_isWanted_20
set_option maxRecDepth 100000 in
set_option maxHeartbeats 4000000 in
theorem c_X10_isWanted (l : Launch) (u : dn_U) (hu : dn_Lu u = dn_LC) (k : Nat) (a1 : Int32) (hk : dn_isT k) (s : dn_S) : dn_Met l u yX10_isWanted wsX10_isWanted 2 43 [.ref (dn_a u k), .int a1] s (m_X10_isWanted k a1 s) (dn_QZ u) := by
  refine dt_entry RX10 [(0, .ref (dn_a u k)), (1, .int a1)] (by decide +kernel) rfl rfl rfl rfl (fun g hgl X => ?_)
  subst hgl
  unfold m_X10_isWanted
  refine dt_iconst X (v := 0) dX10_isWanted_0 (by decide) ?_
  refine dt_istore_n X [(2, .int 0), (0, .ref (dn_a u k)), (1, .int a1)] dX10_isWanted_1 rfl rfl rfl ?_
  refine dt_sub X [(0, .ref (dn_a u k)), (1, .int a1), (2, .int 0)] [1, 2, 0] rfl ?_
  exact b_X10_isWanted_2 hu k hk X 2048 a1 0 s
set_option maxRecDepth 100000 in
set_option maxHeartbeats 4000000 in
theorem b_X11_neverDue_51 {g : dn_M} {u : dn_U} (hu : dn_Lu u = dn_LC) (X : dn_X u g cX11_neverDue wsX11_neverDue RX11 3 3 65 (some .int)) (K4 : Int32 → Int32 → dn_S → Option (Int32 × dn_S)) (H4 : ∀ (y1 : Int32) (y2 : Int32) (s : dn_S), dn_T u g 3 (dn_QI u) (K4 y1 y2 s) s 4 [(0, .ref (dn_a u 0)), (1, .int y1), (2, .int y2)] []) (y1 : Int32) (y2 : Int32) (s : dn_S) : dn_T u g 3 (dn_QI u) (m_X11_neverDue_51 K4 y1 y2 s) s 51 [(0, .ref (dn_a u 0)), (1, .int y1), (2, .int y2)] [] := by
  unfold m_X11_neverDue_51
  refine dt_iinc X (v := y2 + 1) 2 [(2, .int (y2 + 1)), (0, .ref (dn_a u 0)), (1, .int y1)] dX11_neverDue_51 rfl (by rfl) rfl rfl ?_
  refine dt_ilet X rfl (fun x1 => ?_)
  refine dt_goto X 4 dX11_neverDue_54 (by decide) ?_
  refine dt_sub X [(0, .ref (dn_a u 0)), (1, .int y1), (2, .int x1)] [1, 2, 0] rfl ?_
  exact H4 y1 x1 s
set_option maxRecDepth 100000 in
set_option maxHeartbeats 4000000 in
theorem b_X11_neverDue_4 {g : dn_M} {u : dn_U} (hu : dn_Lu u = dn_LC) (X : dn_X u g cX11_neverDue wsX11_neverDue RX11 3 3 65 (some .int)) : ∀ (n : Nat) (y1 : Int32) (y2 : Int32) (s : dn_S), dn_T u g 3 (dn_QI u) (m_X11_neverDue_4 n y1 y2 s) s 4 [(0, .ref (dn_a u 0)), (1, .int y1), (2, .int y2)] [] := by
  intro n
  induction n with
  | zero =>
    intro y1 y2 s
    exact dt_none X
  | succ n ih =>
    intro y1 y2 s
    rw [m_X11_neverDue_4]
    refine dt_iload_n X 2 dX11_neverDue_4 rfl rfl ?_
    refine dt_aload_n X 0 dX11_neverDue_5 rfl rfl ?_
    refine dt_get X (T := TX11) (N := 10) (v := .ref (dn_a u 3)) 1 (dn_h0 hu) rfl dn_in_X11_neverDue_11 rfl rfl dn_fw_X11_neverDue_19 rfl dX11_neverDue_6 ?_
    refine dt_getN X (T := TX10) (N := 5) (v := .int (dn_g s 3 3)) 3 (dn_hT hu dn_T3) rfl dn_in_X11_neverDue_10 rfl rfl dn_fw_X11_neverDue_271 rfl dX11_neverDue_9 ?_
    refine dt_icmp_ge X 57 dX11_neverDue_12 (by decide) ?_ ?_
    · refine dt_iload_n X 1 dX11_neverDue_57 rfl rfl ?_
      exact dt_iret X dX11_neverDue_58
    · refine dt_aload_n X 0 dX11_neverDue_15 rfl rfl ?_
      refine dt_get X (T := TX11) (N := 10) (v := .ref (dn_a u 10)) 3 (dn_h0 hu) rfl dn_in_X11_neverDue_11 rfl rfl dn_fw_X11_neverDue_35 rfl dX11_neverDue_16 ?_
      refine dt_iload_n X 2 dX11_neverDue_19 rfl rfl ?_
      refine dt_callI X (dn_runV X (T := TX3) (N := 8) [.int y2] (dn_hM hu dn_M10) rfl rfl (c_X3_howIs (dn_la g) u hu 10 y2 dn_M10 s) gX11_neverDue_X3_howIs rfl dn_hd_X3_howIs rfl rfl rfl rfl dX11_neverDue_20) (fun r3 s1 e2 => ?_)
      refine dt_if_ne X 51 dX11_neverDue_23 (by decide) ?_ ?_
      · refine dt_sub X [(0, .ref (dn_a u 0)), (1, .int y1), (2, .int y2)] [0, 1, 2] rfl ?_
        exact b_X11_neverDue_51 hu X (m_X11_neverDue_4 n) ih y1 y2 s1
      · refine dt_aload_n X 0 dX11_neverDue_26 rfl rfl ?_
        refine dt_get X (T := TX11) (N := 10) (v := .ref (dn_a u 3)) 1 (dn_h0 hu) rfl dn_in_X11_neverDue_11 rfl rfl dn_fw_X11_neverDue_19 rfl dX11_neverDue_27 ?_
        refine dt_aload_n X 0 dX11_neverDue_30 rfl rfl ?_
        refine dt_get X (T := TX11) (N := 10) (v := .ref (dn_a u 3)) 1 (dn_h0 hu) rfl dn_in_X11_neverDue_11 rfl rfl dn_fw_X11_neverDue_19 rfl dX11_neverDue_31 ?_
        refine dt_iload_n X 2 dX11_neverDue_34 rfl rfl ?_
        refine dt_iconst X (v := 4) dX11_neverDue_35 (by decide) ?_
        refine dt_callI X (dn_runV X (T := TX10) (N := 5) [.int y2, .int 4] (dn_hT hu dn_T3) rfl rfl (c_X10_ofDebt (dn_la g) u hu 3 y2 4 dn_T3 s1) gX11_neverDue_X10_ofDebt rfl dn_hd_X10_ofDebt rfl rfl rfl rfl dX11_neverDue_36) (fun r6 s4 e5 => ?_)
        refine dt_callZ X (dn_runV X (T := TX10) (N := 5) [.int r6] (dn_hT hu dn_T3) rfl rfl (c_X10_isWanted (dn_la g) u hu 3 r6 dn_T3 s4) gX11_neverDue_X10_isWanted rfl dn_hd_X10_isWanted rfl rfl rfl rfl dX11_neverDue_39) (fun r9 s7 e8 => ?_)
        refine dt_if_neb X 51 dX11_neverDue_42 (by decide) ?_ ?_
        · refine dt_sub X [(0, .ref (dn_a u 0)), (1, .int y1), (2, .int y2)] [0, 1, 2] rfl ?_
          exact b_X11_neverDue_51 hu X (m_X11_neverDue_4 n) ih y1 y2 s7
        · refine dt_iload_n X 1 dX11_neverDue_45 rfl rfl ?_
          refine dt_iconst X (v := 1) dX11_neverDue_46 (by decide) ?_
          refine dt_iload_n X 2 dX11_neverDue_47 rfl rfl ?_
          refine dt_ishl X dX11_neverDue_48 ?_
          refine dt_ior X dX11_neverDue_49 ?_
          refine dt_let X (fun x10 => ?_)
          refine dt_istore_n X [(1, .int x10), (0, .ref (dn_a u 0)), (2, .int y2)] dX11_neverDue_50 rfl rfl rfl ?_
          refine dt_sub X [(0, .ref (dn_a u 0)), (1, .int x10), (2, .int y2)] [1, 0, 2] rfl ?_
          exact b_X11_neverDue_51 hu X (m_X11_neverDue_4 n) ih x10 y2 s7
set_option maxRecDepth 100000 in
set_option maxHeartbeats 4000000 in
theorem c_X11_neverDue (l : Launch) (u : dn_U) (hu : dn_Lu u = dn_LC) (s : dn_S) : dn_Met l u yX11_neverDue wsX11_neverDue 3 65 [.ref (dn_a u 0)] s (m_X11_neverDue  s) (dn_QI u) := by
  refine dt_entry RX11 [(0, .ref (dn_a u 0))] (by decide +kernel) rfl rfl rfl rfl (fun g hgl X => ?_)
  subst hgl
  unfold m_X11_neverDue
  refine dt_iconst X (v := 0) dX11_neverDue_0 (by decide) ?_
  refine dt_istore_n X [(1, .int 0), (0, .ref (dn_a u 0))] dX11_neverDue_1 rfl rfl rfl ?_
  refine dt_iconst X (v := 0) dX11_neverDue_2 (by decide) ?_
  refine dt_istore_n X [(2, .int 0), (1, .int 0), (0, .ref (dn_a u 0))] dX11_neverDue_3 rfl rfl rfl ?_
  refine dt_sub X [(0, .ref (dn_a u 0)), (1, .int 0), (2, .int 0)] [2, 1, 0] rfl ?_
  exact b_X11_neverDue_4 hu X 2048 0 0 s
set_option maxRecDepth 100000 in
set_option maxHeartbeats 4000000 in
theorem c_X11_now (l : Launch) (u : dn_U) (hu : dn_Lu u = dn_LC) (a1 : Int32) (s : dn_S) : dn_Met l u yX11_now wsX11_now 4 87 [.ref (dn_a u 0), .int a1] s (m_X11_now a1 s) (dn_QI u) := by
  refine dt_entry RX11 [(0, .ref (dn_a u 0)), (1, .int a1)] (by decide +kernel) rfl rfl rfl rfl (fun g hgl X => ?_)
  subst hgl
  unfold m_X11_now
  refine dt_iload_n X 1 dX11_now_0 rfl rfl ?_
  refine dt_case X (c0 := 0) (fun h1 => ?_) (fun h1 => ?_)
  · refine dt_tabIn X 0 40 dX11_now_1 (by rw [h1]; rfl) rfl rfl rfl (by decide) ?_
    refine dt_aload_n X 0 dX11_now_40 rfl rfl ?_
    refine dt_get X (T := TX11) (N := 10) (v := .ref (dn_a u 10)) 3 (dn_h0 hu) rfl dn_in_X11_now_11 rfl rfl dn_fw_X11_now_35 rfl dX11_now_41 ?_
    refine dt_getN X (T := TX3) (N := 8) (v := .int (dn_g s 10 3)) 3 (dn_hM hu dn_M10) rfl dn_in_X11_now_3 rfl rfl dn_fw_X11_now_143 rfl dX11_now_44 ?_
    exact dt_iret X dX11_now_47
  refine dt_case X (c0 := 1) (fun h2 => ?_) (fun h2 => ?_)
  · refine dt_tabIn X 1 48 dX11_now_1 (by rw [h2]; rfl) rfl rfl rfl (by decide) ?_
    refine dt_aload_n X 0 dX11_now_48 rfl rfl ?_
    refine dt_get X (T := TX11) (N := 10) (v := .ref (dn_a u 10)) 3 (dn_h0 hu) rfl dn_in_X11_now_11 rfl rfl dn_fw_X11_now_35 rfl dX11_now_49 ?_
    refine dt_getN X (T := TX3) (N := 8) (v := .int (dn_g s 10 4)) 4 (dn_hM hu dn_M10) rfl dn_in_X11_now_3 rfl rfl dn_fw_X11_now_165 rfl dX11_now_52 ?_
    exact dt_iret X dX11_now_55
  refine dt_case X (c0 := 2) (fun h3 => ?_) (fun h3 => ?_)
  · refine dt_tabIn X 2 56 dX11_now_1 (by rw [h3]; rfl) rfl rfl rfl (by decide) ?_
    refine dt_aload_n X 0 dX11_now_56 rfl rfl ?_
    refine dt_get X (T := TX11) (N := 10) (v := .ref (dn_a u 10)) 3 (dn_h0 hu) rfl dn_in_X11_now_11 rfl rfl dn_fw_X11_now_35 rfl dX11_now_57 ?_
    refine dt_getN X (T := TX3) (N := 8) (v := .int (dn_g s 10 5)) 5 (dn_hM hu dn_M10) rfl dn_in_X11_now_3 rfl rfl dn_fw_X11_now_168 rfl dX11_now_60 ?_
    exact dt_iret X dX11_now_63
  refine dt_case X (c0 := 3) (fun h4 => ?_) (fun h4 => ?_)
  · refine dt_tabIn X 3 64 dX11_now_1 (by rw [h4]; rfl) rfl rfl rfl (by decide) ?_
    refine dt_aload_n X 0 dX11_now_64 rfl rfl ?_
    refine dt_get X (T := TX11) (N := 10) (v := .ref (dn_a u 10)) 3 (dn_h0 hu) rfl dn_in_X11_now_11 rfl rfl dn_fw_X11_now_35 rfl dX11_now_65 ?_
    refine dt_callI X (dn_runV X (T := TX3) (N := 8) [] (dn_hM hu dn_M10) rfl rfl (c_X3_defaults (dn_la g) u hu 10 dn_M10 s) gX11_now_X3_defaults rfl dn_hd_X3_defaults rfl rfl rfl rfl dX11_now_68) (fun r7 s5 e6 => ?_)
    exact dt_iret X dX11_now_71
  refine dt_case X (c0 := 4) (fun h8 => ?_) (fun h8 => ?_)
  · refine dt_tabIn X 4 72 dX11_now_1 (by rw [h8]; rfl) rfl rfl rfl (by decide) ?_
    refine dt_aload_n X 0 dX11_now_72 rfl rfl ?_
    refine dt_callI X (dn_runV X (T := TX11) (N := 10) [] (dn_h0 hu) rfl rfl (c_X11_neverDue (dn_la g) u hu s) gX11_now_X11_neverDue rfl dn_hd_X11_neverDue rfl rfl rfl rfl dX11_now_73) (fun r11 s9 e10 => ?_)
    exact dt_iret X dX11_now_76
  refine dt_case X (c0 := 5) (fun h12 => ?_) (fun h12 => ?_)
  · refine dt_tabIn X 5 77 dX11_now_1 (by rw [h12]; rfl) rfl rfl rfl (by decide) ?_
    refine dt_aload_n X 0 dX11_now_77 rfl rfl ?_
    refine dt_get X (T := TX11) (N := 10) (v := .ref (dn_a u 36)) 8 (dn_h0 hu) rfl dn_in_X11_now_11 rfl rfl dn_fw_X11_now_76 rfl dX11_now_78 ?_
    refine dt_getN X (T := TX6) (N := 5) (v := .int (dn_g s 36 4)) 4 (dn_h36 hu) rfl dn_in_X11_now_6 rfl rfl dn_fw_X11_now_177 rfl dX11_now_81 ?_
    exact dt_iret X dX11_now_84
  refine dt_tabOut X 85 dX11_now_1 (dn_out_0_5 h1 h2 h3 h4 h8 h12) (by decide) ?_
  refine dt_iconst X (v := -1) dX11_now_85 (by decide) ?_
  exact dt_iret X dX11_now_86
set_option maxRecDepth 100000 in
set_option maxHeartbeats 4000000 in
theorem c_X6_momentAt (l : Launch) (u : dn_U) (hu : dn_Lu u = dn_LC) (k1 : Nat) (n1 : Nat) (a2 : Int32) (h1 : dn_has u k1 (fun σ => .inl (u.2.2.1.2.2, n1, .inr (.inr (.inr (.inr (fun j => some (dn_a u (dn_rb k1 + 4 * j))))))))) (s : dn_S) : dn_Met l u yX6_momentAt wsX6_momentAt 0 0 [.ref (dn_a u k1), .int a2] s (m_X6_momentAt k1 n1 a2 s) (dn_QR u (dn_rb k1 + 4 * a2.toNatClampNeg)) := by
  refine dt_entry RX6 [(0, .ref (dn_a u k1)), (1, .int a2)] (by decide +kernel) rfl rfl rfl rfl (fun g hgl X => ?_)
  subst hgl
  unfold m_X6_momentAt
  refine dt_iload_n X 1 dX6_momentAt_0 rfl rfl ?_
  refine dt_if_lt X 16 dX6_momentAt_1 (by decide) ?_ ?_
  · exact dt_none X
  · refine dt_iload_n X 1 dX6_momentAt_4 rfl rfl ?_
    refine dt_aload_n X 0 dX6_momentAt_5 rfl rfl ?_
    refine dt_alenA X h1 dX6_momentAt_6 rfl ?_
    refine dt_icmp_ge X 16 dX6_momentAt_7 (by decide) ?_ ?_
    · exact dt_none X
    · refine dt_aload_n X 0 dX6_momentAt_10 rfl rfl ?_
      refine dt_iload_n X 1 dX6_momentAt_11 rfl rfl ?_
      refine dt_aald X (f := fun j => dn_rb k1 + 4 * j) h1 dX6_momentAt_12 ?_
      refine dt_goto X 17 dX6_momentAt_13 (by decide) ?_
      exact dt_rret X dX6_momentAt_17
set_option maxRecDepth 100000 in
set_option maxHeartbeats 4000000 in
theorem c_X3_copyFrom (l : Launch) (u : dn_U) (hu : dn_Lu u = dn_LC) (k : Nat) (k1 : Nat) (hk : dn_isM k) (h1 : dn_isM k1) (s : dn_S) : dn_Met l u yX3_copyFrom wsX3_copyFrom 1 22 [.ref (dn_a u k), .ref (dn_a u k1)] s (m_X3_copyFrom k k1 s) (dn_QV u) := by
  refine dt_entry RX3 [(0, .ref (dn_a u k)), (1, .ref (dn_a u k1))] (by decide +kernel) rfl rfl rfl rfl (fun g hgl X => ?_)
  subst hgl
  unfold m_X3_copyFrom
  refine dt_aload_n X 1 dX3_copyFrom_0 rfl rfl ?_
  refine dt_get X (T := TX3) (N := 8) (v := .ref (dn_a u (k1 + 1))) 0 (dn_hM hu h1) rfl dn_in_X3_copyFrom_3 rfl rfl dn_fw_X3_copyFrom_9 rfl dX3_copyFrom_1 ?_
  refine dt_aload_n X 0 dX3_copyFrom_4 rfl rfl ?_
  refine dt_get X (T := TX3) (N := 8) (v := .ref (dn_a u (k + 1))) 0 (dn_hM hu hk) rfl dn_in_X3_copyFrom_3 rfl rfl dn_fw_X3_copyFrom_9 rfl dX3_copyFrom_5 ?_
  refine dt_callV X (dn_runSN X [.ref (dn_a u (k1 + 1)), .ref (dn_a u (k + 1))] (c_X11_copyRow (dn_la g) u hu (k1 + 1) 100 (k + 1) 100 (dn_hM1 hu h1) (dn_hM1 hu hk) s) gX3_copyFrom_X11_copyRow_n40 rfl dn_nm_X3_copyFrom_40 dn_sw_X3_copyFrom_X11_copyRow_1 dn_sw_X3_copyFrom_X11_copyRow_2 dn_hs_X11_copyRow rfl rfl rfl rfl dX3_copyFrom_8) (fun r3 s1 e2 => ?_)
  refine dt_aload_n X 1 dX3_copyFrom_11 rfl rfl ?_
  refine dt_get X (T := TX3) (N := 8) (v := .ref (dn_a u (k1 + 2))) 1 (dn_hM hu h1) rfl dn_in_X3_copyFrom_3 rfl rfl dn_fw_X3_copyFrom_15 rfl dX3_copyFrom_12 ?_
  refine dt_aload_n X 0 dX3_copyFrom_15 rfl rfl ?_
  refine dt_get X (T := TX3) (N := 8) (v := .ref (dn_a u (k + 2))) 1 (dn_hM hu hk) rfl dn_in_X3_copyFrom_3 rfl rfl dn_fw_X3_copyFrom_15 rfl dX3_copyFrom_16 ?_
  refine dt_callV X (dn_runSN X [.ref (dn_a u (k1 + 2)), .ref (dn_a u (k + 2))] (c_X11_copyRow (dn_la g) u hu (k1 + 2) 4 (k + 2) 4 (dn_hM2 hu h1) (dn_hM2 hu hk) s1) gX3_copyFrom_X11_copyRow_n40 rfl dn_nm_X3_copyFrom_40 dn_sw_X3_copyFrom_X11_copyRow_1 dn_sw_X3_copyFrom_X11_copyRow_2 dn_hs_X11_copyRow rfl rfl rfl rfl dX3_copyFrom_19) (fun r6 s4 e5 => ?_)
  refine dt_aload_n X 1 dX3_copyFrom_22 rfl rfl ?_
  refine dt_get X (T := TX3) (N := 8) (v := .ref (dn_a u (k1 + 3))) 2 (dn_hM hu h1) rfl dn_in_X3_copyFrom_3 rfl rfl dn_fw_X3_copyFrom_18 rfl dX3_copyFrom_23 ?_
  refine dt_aload_n X 0 dX3_copyFrom_26 rfl rfl ?_
  refine dt_get X (T := TX3) (N := 8) (v := .ref (dn_a u (k + 3))) 2 (dn_hM hu hk) rfl dn_in_X3_copyFrom_3 rfl rfl dn_fw_X3_copyFrom_18 rfl dX3_copyFrom_27 ?_
  refine dt_callV X (dn_runSN X [.ref (dn_a u (k1 + 3)), .ref (dn_a u (k + 3))] (c_X11_copyRow (dn_la g) u hu (k1 + 3) 6 (k + 3) 6 (dn_hM3 hu h1) (dn_hM3 hu hk) s4) gX3_copyFrom_X11_copyRow_n40 rfl dn_nm_X3_copyFrom_40 dn_sw_X3_copyFrom_X11_copyRow_1 dn_sw_X3_copyFrom_X11_copyRow_2 dn_hs_X11_copyRow rfl rfl rfl rfl dX3_copyFrom_30) (fun r9 s7 e8 => ?_)
  refine dt_aload_n X 0 dX3_copyFrom_33 rfl rfl ?_
  refine dt_aload_n X 1 dX3_copyFrom_34 rfl rfl ?_
  refine dt_get X (T := TX3) (N := 8) (v := .int (dn_g s7 k1 3)) 3 (dn_hM hu h1) rfl dn_in_X3_copyFrom_3 rfl rfl dn_fw_X3_copyFrom_27 rfl dX3_copyFrom_35 ?_
  refine dt_put X (T := TX3) (N := 8) 3 (dn_hM hu hk) rfl dn_in_X3_copyFrom_3 rfl tyX3 tyX3_ok nmX3 rfl rfl dn_fw_X3_copyFrom_27 rfl rfl (dn_setM_3 _ _ _ _) dX3_copyFrom_38 (fun s10 => ?_)
  refine dt_aload_n X 0 dX3_copyFrom_41 rfl rfl ?_
  refine dt_aload_n X 1 dX3_copyFrom_42 rfl rfl ?_
  refine dt_get X (T := TX3) (N := 8) (v := .int (dn_g s10 k1 4)) 4 (dn_hM hu h1) rfl dn_in_X3_copyFrom_3 rfl rfl dn_fw_X3_copyFrom_31 rfl dX3_copyFrom_43 ?_
  refine dt_put X (T := TX3) (N := 8) 4 (dn_hM hu hk) rfl dn_in_X3_copyFrom_3 rfl tyX3 tyX3_ok nmX3 rfl rfl dn_fw_X3_copyFrom_31 rfl rfl (dn_setM_4 _ _ _ _) dX3_copyFrom_46 (fun s11 => ?_)
  refine dt_aload_n X 0 dX3_copyFrom_49 rfl rfl ?_
  refine dt_aload_n X 1 dX3_copyFrom_50 rfl rfl ?_
  refine dt_get X (T := TX3) (N := 8) (v := .int (dn_g s11 k1 5)) 5 (dn_hM hu h1) rfl dn_in_X3_copyFrom_3 rfl rfl dn_fw_X3_copyFrom_34 rfl dX3_copyFrom_51 ?_
  refine dt_put X (T := TX3) (N := 8) 5 (dn_hM hu hk) rfl dn_in_X3_copyFrom_3 rfl tyX3 tyX3_ok nmX3 rfl rfl dn_fw_X3_copyFrom_34 rfl rfl (dn_setM_5 _ _ _ _) dX3_copyFrom_54 (fun s12 => ?_)
  refine dt_aload_n X 0 dX3_copyFrom_57 rfl rfl ?_
  refine dt_aload_n X 1 dX3_copyFrom_58 rfl rfl ?_
  refine dt_get X (T := TX3) (N := 8) (v := .int (dn_g s12 k1 6)) 6 (dn_hM hu h1) rfl dn_in_X3_copyFrom_3 rfl rfl dn_fw_X3_copyFrom_44 rfl dX3_copyFrom_59 ?_
  refine dt_put X (T := TX3) (N := 8) 6 (dn_hM hu hk) rfl dn_in_X3_copyFrom_3 rfl tyX3 tyX3_ok nmX3 rfl rfl dn_fw_X3_copyFrom_44 rfl rfl (dn_setM_6 _ _ _ _) dX3_copyFrom_62 (fun s13 => ?_)
  refine dt_aload_n X 0 dX3_copyFrom_65 rfl rfl ?_
  refine dt_aload_n X 1 dX3_copyFrom_66 rfl rfl ?_
  refine dt_get X (T := TX3) (N := 8) (v := .int (dn_g s13 k1 7)) 7 (dn_hM hu h1) rfl dn_in_X3_copyFrom_3 rfl rfl dn_fw_X3_copyFrom_47 rfl dX3_copyFrom_67 ?_
  refine dt_put X (T := TX3) (N := 8) 7 (dn_hM hu hk) rfl dn_in_X3_copyFrom_3 rfl tyX3 tyX3_ok nmX3 rfl rfl dn_fw_X3_copyFrom_47 rfl rfl (dn_setM_7 _ _ _ _) dX3_copyFrom_70 (fun s14 => ?_)
  exact dt_vret X dX3_copyFrom_73
set_option maxRecDepth 100000 in
set_option maxHeartbeats 4000000 in
theorem c_X6_remember (l : Launch) (u : dn_U) (hu : dn_Lu u = dn_LC) (k1 : Nat) (h1 : dn_isM k1) (s : dn_S) : dn_Met l u yX6_remember wsX6_remember 2 43 [.ref (dn_a u 36), .ref (dn_a u k1)] s (m_X6_remember k1 s) (dn_QV u) := by
  refine dt_entry RX6 [(0, .ref (dn_a u 36)), (1, .ref (dn_a u k1))] (by decide +kernel) rfl rfl rfl rfl (fun g hgl X => ?_)
  subst hgl
  unfold m_X6_remember
  refine dt_aload_n X 0 dX6_remember_0 rfl rfl ?_
  refine dt_get X (T := TX6) (N := 5) (v := .ref (dn_a u 37)) 0 (dn_h36 hu) rfl dn_in_X6_remember_6 rfl rfl dn_fw_X6_remember_11 rfl dX6_remember_1 ?_
  refine dt_aload_n X 0 dX6_remember_4 rfl rfl ?_
  refine dt_get X (T := TX6) (N := 5) (v := .int (dn_g s 36 3)) 3 (dn_h36 hu) rfl dn_in_X6_remember_6 rfl rfl dn_fw_X6_remember_29 rfl dX6_remember_5 ?_
  refine dt_callR X (dn_runS X [.ref (dn_a u 37), .int (dn_g s 36 3)] (c_X6_momentAt (dn_la g) u hu 37 10 (dn_g s 36 3) (dn_h37 hu) s) gX6_remember_X6_momentAt rfl dn_hs_X6_momentAt rfl rfl rfl rfl dX6_remember_8) (fun r3 s1 e2 => ?_)
  refine dt_astore_n X [(2, .ref (dn_a u (dn_rb 37 + 4 * (dn_g s 36 3).toNatClampNeg))), (0, .ref (dn_a u 36)), (1, .ref (dn_a u k1))] dX6_remember_11 rfl rfl rfl ?_
  refine dt_aload_n X 0 dX6_remember_12 rfl rfl ?_
  refine dt_ifnonnull X 17 dX6_remember_13 (by decide) ?_
  refine dt_aload_n X 0 dX6_remember_17 rfl rfl ?_
  refine dt_aload_n X 2 dX6_remember_18 rfl rfl ?_
  refine dt_callV X (dn_runV X (T := TX3) (N := 8) [.ref (dn_a u k1)] (dn_hM hu (dn_Mst37 e2)) rfl rfl (c_X3_copyFrom (dn_la g) u hu (dn_rb 37 + 4 * (dn_g s 36 3).toNatClampNeg) k1 (dn_Mst37 e2) h1 s1) gX6_remember_X3_copyFrom rfl dn_hd_X3_copyFrom rfl rfl rfl rfl dX6_remember_19) (fun r6 s4 e5 => ?_)
  refine dt_aload_n X 1 dX6_remember_22 rfl rfl ?_
  refine dt_aload_n X 1 dX6_remember_23 rfl rfl ?_
  refine dt_get X (T := TX6) (N := 5) (v := .int (dn_g s4 36 3)) 3 (dn_h36 hu) rfl dn_in_X6_remember_6 rfl rfl dn_fw_X6_remember_29 rfl dX6_remember_24 ?_
  refine dt_iconst X (v := 1) dX6_remember_27 (by decide) ?_
  refine dt_iadd X dX6_remember_28 ?_
  refine dt_bipush X (v := 10) dX6_remember_29 (by decide) ?_
  refine dt_irem X dX6_remember_31 ?_
  refine dt_put X (T := TX6) (N := 5) 3 (dn_h36 hu) rfl dn_in_X6_remember_6 rfl tyX6 tyX6_ok nmX6 rfl rfl dn_fw_X6_remember_29 rfl rfl (dn_set36_3 _ _ _) dX6_remember_32 (fun s7 => ?_)
  refine dt_aload_n X 1 dX6_remember_35 rfl rfl ?_
  refine dt_bipush X (v := 10) dX6_remember_36 (by decide) ?_
  refine dt_aload_n X 1 dX6_remember_38 rfl rfl ?_
  refine dt_get X (T := TX6) (N := 5) (v := .int (dn_g s7 36 4)) 4 (dn_h36 hu) rfl dn_in_X6_remember_6 rfl rfl dn_fw_X6_remember_25 rfl dX6_remember_39 ?_
  refine dt_iconst X (v := 1) dX6_remember_42 (by decide) ?_
  refine dt_iadd X dX6_remember_43 ?_
  refine dt_mmin X dn_mw_X6_remember_min_1 dn_mw_X6_remember_min_2 dn_mw_X6_remember_min_3 dn_mw_X6_remember_min_4 rfl rfl dX6_remember_44 ?_
  refine dt_put X (T := TX6) (N := 5) 4 (dn_h36 hu) rfl dn_in_X6_remember_6 rfl tyX6 tyX6_ok nmX6 rfl rfl dn_fw_X6_remember_25 rfl rfl (dn_set36_4 _ _ _) dX6_remember_47 (fun s8 => ?_)
  exact dt_vret X dX6_remember_50
set_option maxRecDepth 100000 in
set_option maxHeartbeats 4000000 in
theorem c_X1_set (l : Launch) (u : dn_U) (hu : dn_Lu u = dn_LC) (a1 : Int32) (a2 : Int32) (a3 : Int32) (s : dn_S) : dn_Met l u yX1_set wsX1_set 1 22 [.ref (dn_a u 15), .int a1, .int a2, .int a3] s (m_X1_set a1 a2 a3 s) (dn_QV u) := by
  refine dt_entry RX1 [(0, .ref (dn_a u 15)), (1, .int a1), (2, .int a2), (3, .int a3)] (by decide +kernel) rfl rfl rfl rfl (fun g hgl X => ?_)
  subst hgl
  unfold m_X1_set
  refine dt_aload_n X 0 dX1_set_0 rfl rfl ?_
  refine dt_get X (T := TX1) (N := 2) (v := .ref (dn_a u 16)) 0 (dn_h15 hu) rfl dn_in_X1_set_1 rfl rfl dn_fw_X1_set_9 rfl dX1_set_1 ?_
  refine dt_iload_n X 1 dX1_set_4 rfl rfl ?_
  refine dt_iload_n X 2 dX1_set_5 rfl rfl ?_
  refine dt_callV X (dn_runSN X [.ref (dn_a u 16), .int a1, .int a2] (c_X11_put (dn_la g) u hu 16 5 a1 a2 (dn_h16 hu) s) gX1_set_X11_put_n53 rfl dn_nm_X1_set_53 dn_sw_X1_set_X11_put_1 dn_sw_X1_set_X11_put_2 dn_hs_X11_put rfl rfl rfl rfl dX1_set_6) (fun r3 s1 e2 => ?_)
  refine dt_aload_n X 0 dX1_set_9 rfl rfl ?_
  refine dt_get X (T := TX1) (N := 2) (v := .ref (dn_a u 17)) 1 (dn_h15 hu) rfl dn_in_X1_set_1 rfl rfl dn_fw_X1_set_15 rfl dX1_set_10 ?_
  refine dt_iload_n X 1 dX1_set_13 rfl rfl ?_
  refine dt_iload_n X 3 dX1_set_14 rfl rfl ?_
  refine dt_callV X (dn_runSN X [.ref (dn_a u 17), .int a1, .int a3] (c_X11_put (dn_la g) u hu 17 5 a1 a3 (dn_h17 hu) s1) gX1_set_X11_put_n53 rfl dn_nm_X1_set_53 dn_sw_X1_set_X11_put_1 dn_sw_X1_set_X11_put_2 dn_hs_X11_put rfl rfl rfl rfl dX1_set_15) (fun r6 s4 e5 => ?_)
  exact dt_vret X dX1_set_18
set_option maxRecDepth 100000 in
set_option maxHeartbeats 4000000 in
theorem c_X1_raise (l : Launch) (u : dn_U) (hu : dn_Lu u = dn_LC) (k1 : Nat) (k2 : Nat) (a3 : Int32) (a4 : Int32) (h1 : dn_isT k1) (h2 : dn_isM k2) (s : dn_S) : dn_Met l u yX1_raise wsX1_raise 2 45 [.ref (dn_a u 15), .ref (dn_a u k1), .ref (dn_a u k2), .int a3, .int a4] s (m_X1_raise k1 k2 a3 a4 s) (dn_QV u) := by
  refine dt_entry RX1 [(0, .ref (dn_a u 15)), (1, .ref (dn_a u k1)), (2, .ref (dn_a u k2)), (3, .int a3), (4, .int a4)] (by decide +kernel) rfl rfl rfl rfl (fun g hgl X => ?_)
  subst hgl
  unfold m_X1_raise
  refine dt_aload_n X 1 dX1_raise_0 rfl rfl ?_
  refine dt_iload_n X 3 dX1_raise_1 rfl rfl ?_
  refine dt_iload X 4 dX1_raise_2 rfl ?_
  refine dt_callI X (dn_runV X (T := TX10) (N := 5) [.int a3, .int a4] (dn_hT hu h1) rfl rfl (c_X10_worth (dn_la g) u hu k1 a3 a4 h1 s) gX1_raise_X10_worth rfl dn_hd_X10_worth rfl rfl rfl rfl dX1_raise_4) (fun r3 s1 e2 => ?_)
  refine dt_istore X [(5, .int r3), (0, .ref (dn_a u 15)), (1, .ref (dn_a u k1)), (2, .ref (dn_a u k2)), (3, .int a3), (4, .int a4)] dX1_raise_7 rfl rfl ?_
  refine dt_iload X 0 dX1_raise_9 rfl ?_
  refine dt_aload_n X 1 dX1_raise_11 rfl rfl ?_
  refine dt_get X (T := TX1) (N := 2) (v := .ref (dn_a u 17)) 1 (dn_h15 hu) rfl dn_in_X1_raise_1 rfl rfl dn_fw_X1_raise_15 rfl dX1_raise_12 ?_
  refine dt_iload_n X 4 dX1_raise_15 rfl rfl ?_
  refine dt_callI X (dn_runSN X [.ref (dn_a u 17), .int a3] (c_X11_at (dn_la g) u hu 17 5 a3 (dn_h17 hu) s1) gX1_raise_X11_at_n32 rfl dn_nm_X1_raise_32 dn_sw_X1_raise_X11_at_1 dn_sw_X1_raise_X11_at_2 dn_hs_X11_at rfl rfl rfl rfl dX1_raise_16) (fun r6 s4 e5 => ?_)
  refine dt_icmp_le X 32 dX1_raise_19 (by decide) ?_ ?_
  · exact dt_vret X dX1_raise_32
  · refine dt_iload X 0 dX1_raise_22 rfl ?_
    refine dt_aload_n X 3 dX1_raise_24 rfl rfl ?_
    refine dt_iload_n X 4 dX1_raise_25 rfl rfl ?_
    refine dt_callI X (dn_runV X (T := TX3) (N := 8) [.int a3] (dn_hM hu h2) rfl rfl (c_X3_purse (dn_la g) u hu k2 a3 h2 s4) gX1_raise_X3_purse rfl dn_hd_X3_purse rfl rfl rfl rfl dX1_raise_26) (fun r9 s7 e8 => ?_)
    refine dt_icmp_le X 33 dX1_raise_29 (by decide) ?_ ?_
    · refine dt_aload_n X 3 dX1_raise_33 rfl rfl ?_
      refine dt_iload X 5 dX1_raise_34 rfl ?_
      refine dt_aload_n X 2 dX1_raise_36 rfl rfl ?_
      refine dt_getN X (T := TX10) (N := 5) (v := .int (dn_g s7 k1 4)) 4 (dn_hT hu h1) rfl dn_in_X1_raise_10 rfl rfl dn_fw_X1_raise_42 rfl dX1_raise_37 ?_
      refine dt_callZ X (dn_runV X (T := TX3) (N := 8) [.int a4, .int (dn_g s7 k1 4)] (dn_hM hu h2) rfl rfl (c_X3_isBarred (dn_la g) u hu k2 a4 (dn_g s7 k1 4) h2 s7) gX1_raise_X3_isBarred rfl dn_hd_X3_isBarred rfl rfl rfl rfl dX1_raise_40) (fun r12 s10 e11 => ?_)
      refine dt_if_eqb X 47 dX1_raise_43 (by decide) ?_ ?_
      · refine dt_aload_n X 1 dX1_raise_47 rfl rfl ?_
        refine dt_iload_n X 4 dX1_raise_48 rfl rfl ?_
        refine dt_iload X 5 dX1_raise_49 rfl ?_
        refine dt_iload X 0 dX1_raise_51 rfl ?_
        refine dt_callV X (dn_runV X (T := TX1) (N := 2) [.int a3, .int a4, .int r3] (dn_h15 hu) rfl rfl (c_X1_set (dn_la g) u hu a3 a4 r3 s10) gX1_raise_X1_set rfl dn_hd_X1_set rfl rfl rfl rfl dX1_raise_53) (fun r15 s13 e14 => ?_)
        exact dt_vret X dX1_raise_56
      · exact dt_vret X dX1_raise_46
    · exact dt_vret X dX1_raise_32
set_option maxRecDepth 100000 in
set_option maxHeartbeats 4000000 in
theorem b_X1_callFor_37 {g : dn_M} {u : dn_U} (hu : dn_Lu u = dn_LC) (k1 : Nat) (k2 : Nat) (h1 : dn_isT k1) (h2 : dn_isM k2) (X : dn_X u g cX1_callFor wsX1_callFor RX1 5 3 70 none) (K26 : Int32 → dn_S → Option (Unit × dn_S)) (H26 : ∀ (y3 : Int32) (s : dn_S), dn_T u g 5 (dn_QV u) (K26 y3 s) s 26 [(0, .ref (dn_a u 15)), (1, .ref (dn_a u k1)), (2, .ref (dn_a u k2)), (3, .int y3)] []) : ∀ (n : Nat) (y3 : Int32) (y4 : Int32) (s : dn_S), dn_T u g 5 (dn_QV u) (m_X1_callFor_37 k1 k2 K26 n y3 y4 s) s 37 [(0, .ref (dn_a u 15)), (1, .ref (dn_a u k1)), (2, .ref (dn_a u k2)), (3, .int y3), (4, .int y4)] [] := by
  intro n
  induction n with
  | zero =>
    intro y3 y4 s
    exact dt_none X
  | succ n ih =>
    intro y3 y4 s
    rw [m_X1_callFor_37]
    refine dt_iload X 4 dX1_callFor_37 rfl ?_
    refine dt_iconst X (v := 5) dX1_callFor_39 (by decide) ?_
    refine dt_icmp_ge X 58 dX1_callFor_40 (by decide) ?_ ?_
    · refine dt_iinc X (v := y3 + 1) 3 [(3, .int (y3 + 1)), (0, .ref (dn_a u 15)), (1, .ref (dn_a u k1)), (2, .ref (dn_a u k2)), (4, .int y4)] dX1_callFor_58 rfl (by rfl) rfl rfl ?_
      refine dt_ilet X rfl (fun x1 => ?_)
      refine dt_goto X 26 dX1_callFor_61 (by decide) ?_
      refine dt_sub X [(0, .ref (dn_a u 15)), (1, .ref (dn_a u k1)), (2, .ref (dn_a u k2)), (3, .int x1)] [1, 2, 3, 0] rfl ?_
      exact H26 x1 s
    · refine dt_aload_n X 0 dX1_callFor_43 rfl rfl ?_
      refine dt_aload_n X 1 dX1_callFor_44 rfl rfl ?_
      refine dt_aload_n X 2 dX1_callFor_45 rfl rfl ?_
      refine dt_iload_n X 3 dX1_callFor_46 rfl rfl ?_
      refine dt_iload X 4 dX1_callFor_47 rfl ?_
      refine dt_callV X (dn_runV X (T := TX1) (N := 2) [.ref (dn_a u k1), .ref (dn_a u k2), .int y3, .int y4] (dn_h15 hu) rfl rfl (c_X1_raise (dn_la g) u hu k1 k2 y3 y4 h1 h2 s) gX1_callFor_X1_raise rfl dn_hd_X1_raise rfl rfl rfl rfl dX1_callFor_49) (fun r4 s2 e3 => ?_)
      refine dt_iinc X (v := y4 + 1) 4 [(4, .int (y4 + 1)), (0, .ref (dn_a u 15)), (1, .ref (dn_a u k1)), (2, .ref (dn_a u k2)), (3, .int y3)] dX1_callFor_52 rfl (by rfl) rfl rfl ?_
      refine dt_ilet X rfl (fun x5 => ?_)
      refine dt_goto X 37 dX1_callFor_55 (by decide) ?_
      refine dt_sub X [(0, .ref (dn_a u 15)), (1, .ref (dn_a u k1)), (2, .ref (dn_a u k2)), (3, .int y3), (4, .int x5)] [1, 2, 3, 4, 0] rfl ?_
      exact ih y3 x5 s2
set_option maxRecDepth 100000 in
set_option maxHeartbeats 4000000 in
theorem b_X1_callFor_26 {g : dn_M} {u : dn_U} (hu : dn_Lu u = dn_LC) (k1 : Nat) (k2 : Nat) (h1 : dn_isT k1) (h2 : dn_isM k2) (X : dn_X u g cX1_callFor wsX1_callFor RX1 5 3 70 none) : ∀ (n : Nat) (y3 : Int32) (s : dn_S), dn_T u g 5 (dn_QV u) (m_X1_callFor_26 k1 k2 n y3 s) s 26 [(0, .ref (dn_a u 15)), (1, .ref (dn_a u k1)), (2, .ref (dn_a u k2)), (3, .int y3)] [] := by
  intro n
  induction n with
  | zero =>
    intro y3 s
    exact dt_none X
  | succ n ih =>
    intro y3 s
    rw [m_X1_callFor_26]
    refine dt_iload_n X 3 dX1_callFor_26 rfl rfl ?_
    refine dt_aload_n X 1 dX1_callFor_27 rfl rfl ?_
    refine dt_getN X (T := TX10) (N := 5) (v := .int (dn_g s k1 2)) 2 (dn_hT hu h1) rfl dn_in_X1_callFor_10 rfl rfl dn_fw_X1_callFor_18 rfl dX1_callFor_28 ?_
    refine dt_icmp_ge X 64 dX1_callFor_31 (by decide) ?_ ?_
    · exact dt_vret X dX1_callFor_64
    · refine dt_iconst X (v := 0) dX1_callFor_34 (by decide) ?_
      refine dt_istore X [(4, .int 0), (0, .ref (dn_a u 15)), (1, .ref (dn_a u k1)), (2, .ref (dn_a u k2)), (3, .int y3)] dX1_callFor_35 rfl rfl ?_
      refine dt_sub X [(0, .ref (dn_a u 15)), (1, .ref (dn_a u k1)), (2, .ref (dn_a u k2)), (3, .int y3), (4, .int 0)] [1, 2, 3, 4, 0] rfl ?_
      exact b_X1_callFor_37 hu k1 k2 h1 h2 X (m_X1_callFor_26 k1 k2 n) ih 2048 y3 0 s
set_option maxRecDepth 100000 in
set_option maxHeartbeats 4000000 in
theorem b_X1_callFor_2 {g : dn_M} {u : dn_U} (hu : dn_Lu u = dn_LC) (k1 : Nat) (k2 : Nat) (h1 : dn_isT k1) (h2 : dn_isM k2) (X : dn_X u g cX1_callFor wsX1_callFor RX1 5 3 70 none) : ∀ (n : Nat) (y3 : Int32) (s : dn_S), dn_T u g 5 (dn_QV u) (m_X1_callFor_2 k1 k2 n y3 s) s 2 [(0, .ref (dn_a u 15)), (1, .ref (dn_a u k1)), (2, .ref (dn_a u k2)), (3, .int y3)] [] := by
  intro n
  induction n with
  | zero =>
    intro y3 s
    exact dt_none X
  | succ n ih =>
    intro y3 s
    rw [m_X1_callFor_2]
    refine dt_iload_n X 3 dX1_callFor_2 rfl rfl ?_
    refine dt_aload_n X 0 dX1_callFor_3 rfl rfl ?_
    refine dt_get X (T := TX1) (N := 2) (v := .ref (dn_a u 17)) 1 (dn_h15 hu) rfl dn_in_X1_callFor_1 rfl rfl dn_fw_X1_callFor_15 rfl dX1_callFor_4 ?_
    refine dt_alen X (dn_h17 hu) dX1_callFor_7 rfl ?_
    refine dt_icmp_ge X 24 dX1_callFor_8 (by decide) ?_ ?_
    · refine dt_iconst X (v := 0) dX1_callFor_24 (by decide) ?_
      refine dt_istore_n X [(3, .int 0), (0, .ref (dn_a u 15)), (1, .ref (dn_a u k1)), (2, .ref (dn_a u k2))] dX1_callFor_25 rfl rfl rfl ?_
      refine dt_sub X [(0, .ref (dn_a u 15)), (1, .ref (dn_a u k1)), (2, .ref (dn_a u k2)), (3, .int 0)] [1, 2, 3, 0] rfl ?_
      exact b_X1_callFor_26 hu k1 k2 h1 h2 X 2048 0 s
    · refine dt_aload_n X 0 dX1_callFor_11 rfl rfl ?_
      refine dt_get X (T := TX1) (N := 2) (v := .ref (dn_a u 17)) 1 (dn_h15 hu) rfl dn_in_X1_callFor_1 rfl rfl dn_fw_X1_callFor_15 rfl dX1_callFor_12 ?_
      refine dt_iload_n X 3 dX1_callFor_15 rfl rfl ?_
      refine dt_iconst X (v := 0) dX1_callFor_16 (by decide) ?_
      refine dt_iast X (dn_h17 hu) dX1_callFor_17 (fun s1 => ?_)
      refine dt_iinc X (v := y3 + 1) 3 [(3, .int (y3 + 1)), (0, .ref (dn_a u 15)), (1, .ref (dn_a u k1)), (2, .ref (dn_a u k2))] dX1_callFor_18 rfl (by rfl) rfl rfl ?_
      refine dt_ilet X rfl (fun x2 => ?_)
      refine dt_goto X 2 dX1_callFor_21 (by decide) ?_
      refine dt_sub X [(0, .ref (dn_a u 15)), (1, .ref (dn_a u k1)), (2, .ref (dn_a u k2)), (3, .int x2)] [1, 2, 3, 0] rfl ?_
      exact ih x2 s1
set_option maxRecDepth 100000 in
set_option maxHeartbeats 4000000 in
theorem c_X1_callFor (l : Launch) (u : dn_U) (hu : dn_Lu u = dn_LC) (k1 : Nat) (k2 : Nat) (h1 : dn_isT k1) (h2 : dn_isM k2) (s : dn_S) : dn_Met l u yX1_callFor wsX1_callFor 3 70 [.ref (dn_a u 15), .ref (dn_a u k1), .ref (dn_a u k2)] s (m_X1_callFor k1 k2 s) (dn_QV u) := by
  refine dt_entry RX1 [(0, .ref (dn_a u 15)), (1, .ref (dn_a u k1)), (2, .ref (dn_a u k2))] (by decide +kernel) rfl rfl rfl rfl (fun g hgl X => ?_)
  subst hgl
  unfold m_X1_callFor
  refine dt_iconst X (v := 0) dX1_callFor_0 (by decide) ?_
  refine dt_istore_n X [(3, .int 0), (0, .ref (dn_a u 15)), (1, .ref (dn_a u k1)), (2, .ref (dn_a u k2))] dX1_callFor_1 rfl rfl rfl ?_
  refine dt_sub X [(0, .ref (dn_a u 15)), (1, .ref (dn_a u k1)), (2, .ref (dn_a u k2)), (3, .int 0)] [1, 2, 3, 0] rfl ?_
  exact b_X1_callFor_2 hu k1 k2 h1 h2 X 2048 0 s
set_option maxRecDepth 100000 in
set_option maxHeartbeats 4000000 in
theorem c_X4_open (l : Launch) (u : dn_U) (hu : dn_Lu u = dn_LC) (k1 : Nat) (h1 : dn_isM k1) (s : dn_S) : dn_Met l u yX4_open wsX4_open 4 94 [.ref (dn_a u 14), .ref (dn_a u k1)] s (m_X4_open k1 s) (dn_QV u) := by
  refine dt_entry RX4 [(0, .ref (dn_a u 14)), (1, .ref (dn_a u k1))] (by decide +kernel) rfl rfl rfl rfl (fun g hgl X => ?_)
  subst hgl
  unfold m_X4_open
  refine dt_aload_n X 0 dX4_open_0 rfl rfl ?_
  refine dt_get X (T := TX4) (N := 4) (v := .ref (dn_a u 15)) 1 (dn_h14 hu) rfl dn_in_X4_open_4 rfl rfl dn_fw_X4_open_12 rfl dX4_open_1 ?_
  refine dt_aload_n X 0 dX4_open_4 rfl rfl ?_
  refine dt_get X (T := TX4) (N := 4) (v := .ref (dn_a u 3)) 0 (dn_h14 hu) rfl dn_in_X4_open_4 rfl rfl dn_fw_X4_open_18 rfl dX4_open_5 ?_
  refine dt_aload_n X 1 dX4_open_8 rfl rfl ?_
  refine dt_callV X (dn_runV X (T := TX1) (N := 2) [.ref (dn_a u 3), .ref (dn_a u k1)] (dn_h15 hu) rfl rfl (c_X1_callFor (dn_la g) u hu 3 k1 dn_T3 h1 s) gX4_open_X1_callFor rfl dn_hd_X1_callFor rfl rfl rfl rfl dX4_open_9) (fun r3 s1 e2 => ?_)
  exact dt_vret X dX4_open_12
set_option maxRecDepth 100000 in
set_option maxHeartbeats 4000000 in
theorem c_X4_bidOwn (l : Launch) (u : dn_U) (hu : dn_Lu u = dn_LC) (k1 : Nat) (a2 : Int32) (a3 : Int32) (h1 : dn_isM k1) (s : dn_S) : dn_Met l u yX4_bidOwn wsX4_bidOwn 2 45 [.ref (dn_a u 14), .ref (dn_a u k1), .int a2, .int a3] s (m_X4_bidOwn k1 a2 a3 s) (dn_QV u) := by
  refine dt_entry RX4 [(0, .ref (dn_a u 14)), (1, .ref (dn_a u k1)), (2, .int a2), (3, .int a3)] (by decide +kernel) rfl rfl rfl rfl (fun g hgl X => ?_)
  subst hgl
  unfold m_X4_bidOwn
  refine dt_iload_n X 2 dX4_bidOwn_0 rfl rfl ?_
  refine dt_callZ X (dn_runSN X [.int a2] (c_X11_isName (dn_la g) u hu a2 s) gX4_bidOwn_X11_isName_n26 rfl dn_nm_X4_bidOwn_26 dn_sw_X4_bidOwn_X11_isName_1 dn_sw_X4_bidOwn_X11_isName_2 dn_hs_X11_isName rfl rfl rfl rfl dX4_bidOwn_1) (fun r3 s1 e2 => ?_)
  refine dt_if_eqb X 32 dX4_bidOwn_4 (by decide) ?_ ?_
  · exact dt_vret X dX4_bidOwn_32
  · refine dt_aload_n X 1 dX4_bidOwn_7 rfl rfl ?_
    refine dt_iload_n X 2 dX4_bidOwn_8 rfl rfl ?_
    refine dt_aload_n X 0 dX4_bidOwn_9 rfl rfl ?_
    refine dt_get X (T := TX4) (N := 4) (v := .ref (dn_a u 3)) 0 (dn_h14 hu) rfl dn_in_X4_bidOwn_4 rfl rfl dn_fw_X4_bidOwn_18 rfl dX4_bidOwn_10 ?_
    refine dt_getN X (T := TX10) (N := 5) (v := .int (dn_g s1 3 4)) 4 (dn_hT hu dn_T3) rfl dn_in_X4_bidOwn_10 rfl rfl dn_fw_X4_bidOwn_30 rfl dX4_bidOwn_13 ?_
    refine dt_callZ X (dn_runV X (T := TX3) (N := 8) [.int a2, .int (dn_g s1 3 4)] (dn_hM hu h1) rfl rfl (c_X3_isBarred (dn_la g) u hu k1 a2 (dn_g s1 3 4) h1 s1) gX4_bidOwn_X3_isBarred rfl dn_hd_X3_isBarred rfl rfl rfl rfl dX4_bidOwn_16) (fun r6 s4 e5 => ?_)
    refine dt_if_neb X 32 dX4_bidOwn_19 (by decide) ?_ ?_
    · exact dt_vret X dX4_bidOwn_32
    · refine dt_aload_n X 0 dX4_bidOwn_22 rfl rfl ?_
      refine dt_get X (T := TX4) (N := 4) (v := .ref (dn_a u 15)) 1 (dn_h14 hu) rfl dn_in_X4_bidOwn_4 rfl rfl dn_fw_X4_bidOwn_12 rfl dX4_bidOwn_23 ?_
      refine dt_iconst X (v := 4) dX4_bidOwn_26 (by decide) ?_
      refine dt_iload_n X 2 dX4_bidOwn_27 rfl rfl ?_
      refine dt_iload_n X 3 dX4_bidOwn_28 rfl rfl ?_
      refine dt_callV X (dn_runV X (T := TX1) (N := 2) [.int 4, .int a2, .int a3] (dn_h15 hu) rfl rfl (c_X1_set (dn_la g) u hu 4 a2 a3 s4) gX4_bidOwn_X1_set rfl dn_hd_X1_set rfl rfl rfl rfl dX4_bidOwn_29) (fun r9 s7 e8 => ?_)
      exact dt_vret X dX4_bidOwn_32
set_option maxRecDepth 100000 in
set_option maxHeartbeats 4000000 in
theorem b_X1_winner_35 {g : dn_M} {u : dn_U} (hu : dn_Lu u = dn_LC) (X : dn_X u g cX1_winner wsX1_winner RX1 4 0 0 (some .int)) (K7 : Int32 → Int32 → Int32 → dn_S → Option (Int32 × dn_S)) (H7 : ∀ (y1 : Int32) (y2 : Int32) (y3 : Int32) (s : dn_S), dn_T u g 4 (dn_QI u) (K7 y1 y2 y3 s) s 7 [(0, .ref (dn_a u 15)), (1, .int y1), (2, .int y2), (3, .int y3)] []) (y1 : Int32) (y2 : Int32) (y3 : Int32) (s : dn_S) : dn_T u g 4 (dn_QI u) (m_X1_winner_35 K7 y1 y2 y3 s) s 35 [(0, .ref (dn_a u 15)), (1, .int y1), (2, .int y2), (3, .int y3)] [] := by
  unfold m_X1_winner_35
  refine dt_iinc X (v := y3 + 1) 3 [(3, .int (y3 + 1)), (0, .ref (dn_a u 15)), (1, .int y1), (2, .int y2)] dX1_winner_35 rfl (by rfl) rfl rfl ?_
  refine dt_ilet X rfl (fun x1 => ?_)
  refine dt_goto X 7 dX1_winner_38 (by decide) ?_
  refine dt_sub X [(0, .ref (dn_a u 15)), (1, .int y1), (2, .int y2), (3, .int x1)] [1, 2, 3, 0] rfl ?_
  exact H7 y1 y2 x1 s
set_option maxRecDepth 100000 in
set_option maxHeartbeats 4000000 in
theorem b_X1_winner_7 {g : dn_M} {u : dn_U} (hu : dn_Lu u = dn_LC) (X : dn_X u g cX1_winner wsX1_winner RX1 4 0 0 (some .int)) : ∀ (n : Nat) (y1 : Int32) (y2 : Int32) (y3 : Int32) (s : dn_S), dn_T u g 4 (dn_QI u) (m_X1_winner_7 n y1 y2 y3 s) s 7 [(0, .ref (dn_a u 15)), (1, .int y1), (2, .int y2), (3, .int y3)] [] := by
  intro n
  induction n with
  | zero =>
    intro y1 y2 y3 s
    exact dt_none X
  | succ n ih =>
    intro y1 y2 y3 s
    rw [m_X1_winner_7]
    refine dt_iload_n X 3 dX1_winner_7 rfl rfl ?_
    refine dt_aload_n X 0 dX1_winner_8 rfl rfl ?_
    refine dt_get X (T := TX1) (N := 2) (v := .ref (dn_a u 17)) 1 (dn_h15 hu) rfl dn_in_X1_winner_1 rfl rfl dn_fw_X1_winner_15 rfl dX1_winner_9 ?_
    refine dt_alen X (dn_h17 hu) dX1_winner_12 rfl ?_
    refine dt_icmp_ge X 41 dX1_winner_13 (by decide) ?_ ?_
    · refine dt_iload_n X 1 dX1_winner_41 rfl rfl ?_
      exact dt_iret X dX1_winner_42
    · refine dt_aload_n X 0 dX1_winner_16 rfl rfl ?_
      refine dt_get X (T := TX1) (N := 2) (v := .ref (dn_a u 17)) 1 (dn_h15 hu) rfl dn_in_X1_winner_1 rfl rfl dn_fw_X1_winner_15 rfl dX1_winner_17 ?_
      refine dt_iload_n X 3 dX1_winner_20 rfl rfl ?_
      refine dt_iald X (dn_h17 hu) dX1_winner_21 ?_
      refine dt_iload_n X 2 dX1_winner_22 rfl rfl ?_
      refine dt_icmp_le X 35 dX1_winner_23 (by decide) ?_ ?_
      · refine dt_sub X [(0, .ref (dn_a u 15)), (1, .int y1), (2, .int y2), (3, .int y3)] [0, 1, 2, 3] rfl ?_
        exact b_X1_winner_35 hu X (m_X1_winner_7 n) ih y1 y2 y3 s
      · refine dt_aload_n X 0 dX1_winner_26 rfl rfl ?_
        refine dt_get X (T := TX1) (N := 2) (v := .ref (dn_a u 17)) 1 (dn_h15 hu) rfl dn_in_X1_winner_1 rfl rfl dn_fw_X1_winner_15 rfl dX1_winner_27 ?_
        refine dt_iload_n X 3 dX1_winner_30 rfl rfl ?_
        refine dt_iald X (dn_h17 hu) dX1_winner_31 ?_
        refine dt_let X (fun x1 => ?_)
        refine dt_istore_n X [(2, .int x1), (0, .ref (dn_a u 15)), (1, .int y1), (3, .int y3)] dX1_winner_32 rfl rfl rfl ?_
        refine dt_iload_n X 3 dX1_winner_33 rfl rfl ?_
        refine dt_istore_n X [(1, .int y3), (2, .int x1), (0, .ref (dn_a u 15)), (3, .int y3)] dX1_winner_34 rfl rfl rfl ?_
        refine dt_sub X [(0, .ref (dn_a u 15)), (1, .int y3), (2, .int x1), (3, .int y3)] [2, 0, 1, 3] rfl ?_
        exact b_X1_winner_35 hu X (m_X1_winner_7 n) ih y3 x1 y3 s
set_option maxRecDepth 100000 in
set_option maxHeartbeats 4000000 in
theorem c_X1_winner (l : Launch) (u : dn_U) (hu : dn_Lu u = dn_LC) (s : dn_S) : dn_Met l u yX1_winner wsX1_winner 0 0 [.ref (dn_a u 15)] s (m_X1_winner  s) (dn_QI u) := by
  refine dt_entry RX1 [(0, .ref (dn_a u 15))] (by decide +kernel) rfl rfl rfl rfl (fun g hgl X => ?_)
  subst hgl
  unfold m_X1_winner
  refine dt_bipush X (v := -9) dX1_winner_0 (by decide) ?_
  refine dt_istore_n X [(1, .int (-9)), (0, .ref (dn_a u 15))] dX1_winner_2 rfl rfl rfl ?_
  refine dt_iconst X (v := 0) dX1_winner_3 (by decide) ?_
  refine dt_istore_n X [(2, .int 0), (1, .int (-9)), (0, .ref (dn_a u 15))] dX1_winner_4 rfl rfl rfl ?_
  refine dt_iconst X (v := 0) dX1_winner_5 (by decide) ?_
  refine dt_istore_n X [(3, .int 0), (2, .int 0), (1, .int (-9)), (0, .ref (dn_a u 15))] dX1_winner_6 rfl rfl rfl ?_
  refine dt_sub X [(0, .ref (dn_a u 15)), (1, .int (-9)), (2, .int 0), (3, .int 0)] [3, 2, 1, 0] rfl ?_
  exact b_X1_winner_7 hu X 2048 (-9) 0 0 s
set_option maxRecDepth 100000 in
set_option maxHeartbeats 4000000 in
theorem b_X1_price_29 {g : dn_M} {u : dn_U} (hu : dn_Lu u = dn_LC) (X : dn_X u g cX1_price wsX1_price RX1 4 1 21 (some .int)) (K4 : Int32 → Int32 → Int32 → dn_S → Option (Int32 × dn_S)) (H4 : ∀ (y1 : Int32) (y2 : Int32) (y3 : Int32) (s : dn_S), dn_T u g 4 (dn_QI u) (K4 y1 y2 y3 s) s 4 [(0, .ref (dn_a u 15)), (1, .int y1), (2, .int y2), (3, .int y3)] []) (y1 : Int32) (y2 : Int32) (y3 : Int32) (s : dn_S) : dn_T u g 4 (dn_QI u) (m_X1_price_29 K4 y1 y2 y3 s) s 29 [(0, .ref (dn_a u 15)), (1, .int y1), (2, .int y2), (3, .int y3)] [] := by
  unfold m_X1_price_29
  refine dt_iinc X (v := y3 + 1) 3 [(3, .int (y3 + 1)), (0, .ref (dn_a u 15)), (1, .int y1), (2, .int y2)] dX1_price_29 rfl (by rfl) rfl rfl ?_
  refine dt_ilet X rfl (fun x1 => ?_)
  refine dt_goto X 4 dX1_price_32 (by decide) ?_
  refine dt_sub X [(0, .ref (dn_a u 15)), (1, .int y1), (2, .int y2), (3, .int x1)] [1, 2, 3, 0] rfl ?_
  exact H4 y1 y2 x1 s
set_option maxRecDepth 100000 in
set_option maxHeartbeats 4000000 in
theorem b_X1_price_4 {g : dn_M} {u : dn_U} (hu : dn_Lu u = dn_LC) (X : dn_X u g cX1_price wsX1_price RX1 4 1 21 (some .int)) : ∀ (n : Nat) (y1 : Int32) (y2 : Int32) (y3 : Int32) (s : dn_S), dn_T u g 4 (dn_QI u) (m_X1_price_4 n y1 y2 y3 s) s 4 [(0, .ref (dn_a u 15)), (1, .int y1), (2, .int y2), (3, .int y3)] [] := by
  intro n
  induction n with
  | zero =>
    intro y1 y2 y3 s
    exact dt_none X
  | succ n ih =>
    intro y1 y2 y3 s
    rw [m_X1_price_4]
    refine dt_iload_n X 3 dX1_price_4 rfl rfl ?_
    refine dt_aload_n X 0 dX1_price_5 rfl rfl ?_
    refine dt_get X (T := TX1) (N := 2) (v := .ref (dn_a u 17)) 1 (dn_h15 hu) rfl dn_in_X1_price_1 rfl rfl dn_fw_X1_price_15 rfl dX1_price_6 ?_
    refine dt_alen X (dn_h17 hu) dX1_price_9 rfl ?_
    refine dt_icmp_ge X 35 dX1_price_10 (by decide) ?_ ?_
    · refine dt_aload_n X 0 dX1_price_35 rfl rfl ?_
      refine dt_get X (T := TX1) (N := 2) (v := .ref (dn_a u 17)) 1 (dn_h15 hu) rfl dn_in_X1_price_1 rfl rfl dn_fw_X1_price_15 rfl dX1_price_36 ?_
      refine dt_iload_n X 1 dX1_price_39 rfl rfl ?_
      refine dt_callI X (dn_runSN X [.ref (dn_a u 17), .int y1] (c_X11_at (dn_la g) u hu 17 5 y1 (dn_h17 hu) s) gX1_price_X11_at_n32 rfl dn_nm_X1_price_32 dn_sw_X1_price_X11_at_1 dn_sw_X1_price_X11_at_2 dn_hs_X11_at rfl rfl rfl rfl dX1_price_40) (fun r3 s1 e2 => ?_)
      refine dt_iload_n X 2 dX1_price_43 rfl rfl ?_
      refine dt_iconst X (v := 1) dX1_price_44 (by decide) ?_
      refine dt_iadd X dX1_price_45 ?_
      refine dt_mmin X dn_mw_X1_price_min_1 dn_mw_X1_price_min_2 dn_mw_X1_price_min_3 dn_mw_X1_price_min_4 rfl rfl dX1_price_46 ?_
      exact dt_iret X dX1_price_49
    · refine dt_iload_n X 3 dX1_price_13 rfl rfl ?_
      refine dt_iload_n X 1 dX1_price_14 rfl rfl ?_
      refine dt_icmp_eq X 29 dX1_price_15 (by decide) ?_ ?_
      · refine dt_sub X [(0, .ref (dn_a u 15)), (1, .int y1), (2, .int y2), (3, .int y3)] [0, 1, 2, 3] rfl ?_
        exact b_X1_price_29 hu X (m_X1_price_4 n) ih y1 y2 y3 s
      · refine dt_iload_n X 2 dX1_price_18 rfl rfl ?_
        refine dt_aload_n X 0 dX1_price_19 rfl rfl ?_
        refine dt_get X (T := TX1) (N := 2) (v := .ref (dn_a u 17)) 1 (dn_h15 hu) rfl dn_in_X1_price_1 rfl rfl dn_fw_X1_price_15 rfl dX1_price_20 ?_
        refine dt_iload_n X 3 dX1_price_23 rfl rfl ?_
        refine dt_iald X (dn_h17 hu) dX1_price_24 ?_
        refine dt_mmax X dn_mw_X1_price_max_1 dn_mw_X1_price_max_2 dn_mw_X1_price_max_3 dn_mw_X1_price_max_4 rfl rfl dX1_price_25 ?_
        refine dt_let X (fun x4 => ?_)
        refine dt_istore_n X [(2, .int x4), (0, .ref (dn_a u 15)), (1, .int y1), (3, .int y3)] dX1_price_28 rfl rfl rfl ?_
        refine dt_sub X [(0, .ref (dn_a u 15)), (1, .int y1), (2, .int x4), (3, .int y3)] [1, 2, 0, 3] rfl ?_
        exact b_X1_price_29 hu X (m_X1_price_4 n) ih y1 x4 y3 s
set_option maxRecDepth 100000 in
set_option maxHeartbeats 4000000 in
theorem c_X1_price (l : Launch) (u : dn_U) (hu : dn_Lu u = dn_LC) (a1 : Int32) (s : dn_S) : dn_Met l u yX1_price wsX1_price 1 21 [.ref (dn_a u 15), .int a1] s (m_X1_price a1 s) (dn_QI u) := by
  refine dt_entry RX1 [(0, .ref (dn_a u 15)), (1, .int a1)] (by decide +kernel) rfl rfl rfl rfl (fun g hgl X => ?_)
  subst hgl
  unfold m_X1_price
  refine dt_iconst X (v := 0) dX1_price_0 (by decide) ?_
  refine dt_istore_n X [(2, .int 0), (0, .ref (dn_a u 15)), (1, .int a1)] dX1_price_1 rfl rfl rfl ?_
  refine dt_iconst X (v := 0) dX1_price_2 (by decide) ?_
  refine dt_istore_n X [(3, .int 0), (2, .int 0), (0, .ref (dn_a u 15)), (1, .int a1)] dX1_price_3 rfl rfl rfl ?_
  refine dt_sub X [(0, .ref (dn_a u 15)), (1, .int a1), (2, .int 0), (3, .int 0)] [2, 3, 1, 0] rfl ?_
  exact b_X1_price_4 hu X 2048 a1 0 0 s
set_option maxRecDepth 100000 in
set_option maxHeartbeats 4000000 in
theorem c_X3_addToPurse (l : Launch) (u : dn_U) (hu : dn_Lu u = dn_LC) (k : Nat) (a1 : Int32) (a2 : Int32) (hk : dn_isM k) (s : dn_S) : dn_Met l u yX3_addToPurse wsX3_addToPurse 1 22 [.ref (dn_a u k), .int a1, .int a2] s (m_X3_addToPurse k a1 a2 s) (dn_QV u) := by
  refine dt_entry RX3 [(0, .ref (dn_a u k)), (1, .int a1), (2, .int a2)] (by decide +kernel) rfl rfl rfl rfl (fun g hgl X => ?_)
  subst hgl
  unfold m_X3_addToPurse
  refine dt_aload_n X 0 dX3_addToPurse_0 rfl rfl ?_
  refine dt_get X (T := TX3) (N := 8) (v := .ref (dn_a u (k + 2))) 1 (dn_hM hu hk) rfl dn_in_X3_addToPurse_3 rfl rfl dn_fw_X3_addToPurse_15 rfl dX3_addToPurse_1 ?_
  refine dt_iload_n X 1 dX3_addToPurse_4 rfl rfl ?_
  refine dt_aload_n X 0 dX3_addToPurse_5 rfl rfl ?_
  refine dt_get X (T := TX3) (N := 8) (v := .ref (dn_a u (k + 2))) 1 (dn_hM hu hk) rfl dn_in_X3_addToPurse_3 rfl rfl dn_fw_X3_addToPurse_15 rfl dX3_addToPurse_6 ?_
  refine dt_iload_n X 1 dX3_addToPurse_9 rfl rfl ?_
  refine dt_callI X (dn_runSN X [.ref (dn_a u (k + 2)), .int a1] (c_X11_at (dn_la g) u hu (k + 2) 4 a1 (dn_hM2 hu hk) s) gX3_addToPurse_X11_at_n54 rfl dn_nm_X3_addToPurse_54 dn_sw_X3_addToPurse_X11_at_1 dn_sw_X3_addToPurse_X11_at_2 dn_hs_X11_at rfl rfl rfl rfl dX3_addToPurse_10) (fun r3 s1 e2 => ?_)
  refine dt_iload_n X 2 dX3_addToPurse_13 rfl rfl ?_
  refine dt_iadd X dX3_addToPurse_14 ?_
  refine dt_callV X (dn_runSN X [.ref (dn_a u (k + 2)), .int a1, .int (r3 + a2)] (c_X11_put (dn_la g) u hu (k + 2) 4 a1 (r3 + a2) (dn_hM2 hu hk) s1) gX3_addToPurse_X11_put_n50 rfl dn_nm_X3_addToPurse_50 dn_sw_X3_addToPurse_X11_put_1 dn_sw_X3_addToPurse_X11_put_2 dn_hs_X11_put rfl rfl rfl rfl dX3_addToPurse_15) (fun r6 s4 e5 => ?_)
  exact dt_vret X dX3_addToPurse_18
set_option maxRecDepth 100000 in
set_option maxHeartbeats 4000000 in
theorem c_X1_nameOf (l : Launch) (u : dn_U) (hu : dn_Lu u = dn_LC) (a1 : Int32) (s : dn_S) : dn_Met l u yX1_nameOf wsX1_nameOf 1 21 [.ref (dn_a u 15), .int a1] s (m_X1_nameOf a1 s) (dn_QI u) := by
  refine dt_entry RX1 [(0, .ref (dn_a u 15)), (1, .int a1)] (by decide +kernel) rfl rfl rfl rfl (fun g hgl X => ?_)
  subst hgl
  unfold m_X1_nameOf
  refine dt_aload_n X 0 dX1_nameOf_0 rfl rfl ?_
  refine dt_get X (T := TX1) (N := 2) (v := .ref (dn_a u 16)) 0 (dn_h15 hu) rfl dn_in_X1_nameOf_1 rfl rfl dn_fw_X1_nameOf_9 rfl dX1_nameOf_1 ?_
  refine dt_iload_n X 1 dX1_nameOf_4 rfl rfl ?_
  refine dt_callI X (dn_runSN X [.ref (dn_a u 16), .int a1] (c_X11_at (dn_la g) u hu 16 5 a1 (dn_h16 hu) s) gX1_nameOf_X11_at_n32 rfl dn_nm_X1_nameOf_32 dn_sw_X1_nameOf_X11_at_1 dn_sw_X1_nameOf_X11_at_2 dn_hs_X11_at rfl rfl rfl rfl dX1_nameOf_5) (fun r3 s1 e2 => ?_)
  exact dt_iret X dX1_nameOf_8
set_option maxRecDepth 100000 in
set_option maxHeartbeats 4000000 in
theorem c_X3_addDay (l : Launch) (u : dn_U) (hu : dn_Lu u = dn_LC) (k : Nat) (a1 : Int32) (hk : dn_isM k) (s : dn_S) : dn_Met l u yX3_addDay wsX3_addDay 1 22 [.ref (dn_a u k), .int a1] s (m_X3_addDay k a1 s) (dn_QV u) := by
  refine dt_entry RX3 [(0, .ref (dn_a u k)), (1, .int a1)] (by decide +kernel) rfl rfl rfl rfl (fun g hgl X => ?_)
  subst hgl
  unfold m_X3_addDay
  refine dt_aload_n X 0 dX3_addDay_0 rfl rfl ?_
  refine dt_get X (T := TX3) (N := 8) (v := .ref (dn_a u (k + 1))) 0 (dn_hM hu hk) rfl dn_in_X3_addDay_3 rfl rfl dn_fw_X3_addDay_9 rfl dX3_addDay_1 ?_
  refine dt_aload_n X 0 dX3_addDay_4 rfl rfl ?_
  refine dt_get X (T := TX3) (N := 8) (v := .int (dn_g s k 3)) 3 (dn_hM hu hk) rfl dn_in_X3_addDay_3 rfl rfl dn_fw_X3_addDay_27 rfl dX3_addDay_5 ?_
  refine dt_iload_n X 1 dX3_addDay_8 rfl rfl ?_
  refine dt_callV X (dn_runSN X [.ref (dn_a u (k + 1)), .int (dn_g s k 3), .int a1] (c_X11_put (dn_la g) u hu (k + 1) 100 (dn_g s k 3) a1 (dn_hM1 hu hk) s) gX3_addDay_X11_put_n50 rfl dn_nm_X3_addDay_50 dn_sw_X3_addDay_X11_put_1 dn_sw_X3_addDay_X11_put_2 dn_hs_X11_put rfl rfl rfl rfl dX3_addDay_9) (fun r3 s1 e2 => ?_)
  refine dt_aload_n X 0 dX3_addDay_12 rfl rfl ?_
  refine dt_dup X dX3_addDay_13 rfl ?_
  refine dt_get X (T := TX3) (N := 8) (v := .int (dn_g s1 k 3)) 3 (dn_hM hu hk) rfl dn_in_X3_addDay_3 rfl rfl dn_fw_X3_addDay_27 rfl dX3_addDay_14 ?_
  refine dt_iconst X (v := 1) dX3_addDay_17 (by decide) ?_
  refine dt_iadd X dX3_addDay_18 ?_
  refine dt_put X (T := TX3) (N := 8) 3 (dn_hM hu hk) rfl dn_in_X3_addDay_3 rfl tyX3 tyX3_ok nmX3 rfl rfl dn_fw_X3_addDay_27 rfl rfl (dn_setM_3 _ _ _ _) dX3_addDay_19 (fun s4 => ?_)
  exact dt_vret X dX3_addDay_22
set_option maxRecDepth 100000 in
set_option maxHeartbeats 4000000 in
theorem c_X3_setHowIs (l : Launch) (u : dn_U) (hu : dn_Lu u = dn_LC) (k : Nat) (a1 : Int32) (a2 : Int32) (hk : dn_isM k) (s : dn_S) : dn_Met l u yX3_setHowIs wsX3_setHowIs 1 22 [.ref (dn_a u k), .int a1, .int a2] s (m_X3_setHowIs k a1 a2 s) (dn_QV u) := by
  refine dt_entry RX3 [(0, .ref (dn_a u k)), (1, .int a1), (2, .int a2)] (by decide +kernel) rfl rfl rfl rfl (fun g hgl X => ?_)
  subst hgl
  unfold m_X3_setHowIs
  refine dt_aload_n X 0 dX3_setHowIs_0 rfl rfl ?_
  refine dt_get X (T := TX3) (N := 8) (v := .ref (dn_a u (k + 3))) 2 (dn_hM hu hk) rfl dn_in_X3_setHowIs_3 rfl rfl dn_fw_X3_setHowIs_18 rfl dX3_setHowIs_1 ?_
  refine dt_iload_n X 1 dX3_setHowIs_4 rfl rfl ?_
  refine dt_iload_n X 2 dX3_setHowIs_5 rfl rfl ?_
  refine dt_callV X (dn_runSN X [.ref (dn_a u (k + 3)), .int a1, .int a2] (c_X11_put (dn_la g) u hu (k + 3) 6 a1 a2 (dn_hM3 hu hk) s) gX3_setHowIs_X11_put_n50 rfl dn_nm_X3_setHowIs_50 dn_sw_X3_setHowIs_X11_put_1 dn_sw_X3_setHowIs_X11_put_2 dn_hs_X11_put rfl rfl rfl rfl dX3_setHowIs_6) (fun r3 s1 e2 => ?_)
  exact dt_vret X dX3_setHowIs_9
set_option maxRecDepth 100000 in
set_option maxHeartbeats 4000000 in
theorem c_X4_fallDue (l : Launch) (u : dn_U) (hu : dn_Lu u = dn_LC) (k1 : Nat) (a2 : Int32) (h1 : dn_isM k1) (s : dn_S) : dn_Met l u yX4_fallDue wsX4_fallDue 2 44 [.ref (dn_a u 14), .ref (dn_a u k1), .int a2] s (m_X4_fallDue k1 a2 s) (dn_QV u) := by
  refine dt_entry RX4 [(0, .ref (dn_a u 14)), (1, .ref (dn_a u k1)), (2, .int a2)] (by decide +kernel) rfl rfl rfl rfl (fun g hgl X => ?_)
  subst hgl
  unfold m_X4_fallDue
  refine dt_aload_n X 0 dX4_fallDue_0 rfl rfl ?_
  refine dt_get X (T := TX4) (N := 4) (v := .ref (dn_a u 3)) 0 (dn_h14 hu) rfl dn_in_X4_fallDue_4 rfl rfl dn_fw_X4_fallDue_18 rfl dX4_fallDue_1 ?_
  refine dt_iload_n X 2 dX4_fallDue_4 rfl rfl ?_
  refine dt_iconst X (v := 0) dX4_fallDue_5 (by decide) ?_
  refine dt_callI X (dn_runV X (T := TX10) (N := 5) [.int a2, .int 0] (dn_hT hu dn_T3) rfl rfl (c_X10_ofDebt (dn_la g) u hu 3 a2 0 dn_T3 s) gX4_fallDue_X10_ofDebt rfl dn_hd_X10_ofDebt rfl rfl rfl rfl dX4_fallDue_6) (fun r3 s1 e2 => ?_)
  refine dt_istore_n X [(3, .int r3), (0, .ref (dn_a u 14)), (1, .ref (dn_a u k1)), (2, .int a2)] dX4_fallDue_9 rfl rfl rfl ?_
  refine dt_aload_n X 1 dX4_fallDue_10 rfl rfl ?_
  refine dt_get X (T := TX4) (N := 4) (v := .ref (dn_a u 3)) 0 (dn_h14 hu) rfl dn_in_X4_fallDue_4 rfl rfl dn_fw_X4_fallDue_18 rfl dX4_fallDue_11 ?_
  refine dt_iload_n X 3 dX4_fallDue_14 rfl rfl ?_
  refine dt_iconst X (v := 2) dX4_fallDue_15 (by decide) ?_
  refine dt_callI X (dn_runV X (T := TX10) (N := 5) [.int a2, .int 2] (dn_hT hu dn_T3) rfl rfl (c_X10_ofDebt (dn_la g) u hu 3 a2 2 dn_T3 s1) gX4_fallDue_X10_ofDebt rfl dn_hd_X10_ofDebt rfl rfl rfl rfl dX4_fallDue_16) (fun r6 s4 e5 => ?_)
  refine dt_istore X [(4, .int r6), (3, .int r3), (0, .ref (dn_a u 14)), (1, .ref (dn_a u k1)), (2, .int a2)] dX4_fallDue_19 rfl rfl ?_
  refine dt_aload_n X 3 dX4_fallDue_21 rfl rfl ?_
  refine dt_iload_n X 1 dX4_fallDue_22 rfl rfl ?_
  refine dt_callI X (dn_runV X (T := TX3) (N := 8) [.int r3] (dn_hM hu h1) rfl rfl (c_X3_purse (dn_la g) u hu k1 r3 h1 s4) gX4_fallDue_X3_purse rfl dn_hd_X3_purse rfl rfl rfl rfl dX4_fallDue_23) (fun r9 s7 e8 => ?_)
  refine dt_iload X 0 dX4_fallDue_26 rfl ?_
  refine dt_icmp_ge X 38 dX4_fallDue_28 (by decide) ?_ ?_
  · refine dt_aload_n X 3 dX4_fallDue_38 rfl rfl ?_
    refine dt_iload_n X 1 dX4_fallDue_39 rfl rfl ?_
    refine dt_iload X 0 dX4_fallDue_40 rfl ?_
    refine dt_ineg X dX4_fallDue_42 ?_
    refine dt_callV X (dn_runV X (T := TX3) (N := 8) [.int r3, .int (-r6)] (dn_hM hu h1) rfl rfl (c_X3_addToPurse (dn_la g) u hu k1 r3 (-r6) h1 s7) gX4_fallDue_X3_addToPurse rfl dn_hd_X3_addToPurse rfl rfl rfl rfl dX4_fallDue_43) (fun r12 s10 e11 => ?_)
    refine dt_aload_n X 3 dX4_fallDue_46 rfl rfl ?_
    refine dt_aload_n X 2 dX4_fallDue_47 rfl rfl ?_
    refine dt_get X (T := TX4) (N := 4) (v := .ref (dn_a u 3)) 0 (dn_h14 hu) rfl dn_in_X4_fallDue_4 rfl rfl dn_fw_X4_fallDue_18 rfl dX4_fallDue_48 ?_
    refine dt_iload_n X 4 dX4_fallDue_51 rfl rfl ?_
    refine dt_iconst X (v := 1) dX4_fallDue_52 (by decide) ?_
    refine dt_callI X (dn_runV X (T := TX10) (N := 5) [.int a2, .int 1] (dn_hT hu dn_T3) rfl rfl (c_X10_ofDebt (dn_la g) u hu 3 a2 1 dn_T3 s10) gX4_fallDue_X10_ofDebt rfl dn_hd_X10_ofDebt rfl rfl rfl rfl dX4_fallDue_53) (fun r15 s13 e14 => ?_)
    refine dt_iload X 0 dX4_fallDue_56 rfl ?_
    refine dt_callV X (dn_runV X (T := TX3) (N := 8) [.int r15, .int r6] (dn_hM hu h1) rfl rfl (c_X3_addToPurse (dn_la g) u hu k1 r15 r6 h1 s13) gX4_fallDue_X3_addToPurse rfl dn_hd_X3_addToPurse rfl rfl rfl rfl dX4_fallDue_58) (fun r18 s16 e17 => ?_)
    refine dt_aload_n X 3 dX4_fallDue_61 rfl rfl ?_
    refine dt_iload_n X 4 dX4_fallDue_62 rfl rfl ?_
    refine dt_iconst X (v := 1) dX4_fallDue_63 (by decide) ?_
    refine dt_callV X (dn_runV X (T := TX3) (N := 8) [.int a2, .int 1] (dn_hM hu h1) rfl rfl (c_X3_setHowIs (dn_la g) u hu k1 a2 1 h1 s16) gX4_fallDue_X3_setHowIs rfl dn_hd_X3_setHowIs rfl rfl rfl rfl dX4_fallDue_64) (fun r21 s19 e20 => ?_)
    exact dt_vret X dX4_fallDue_67
  · refine dt_aload_n X 3 dX4_fallDue_31 rfl rfl ?_
    refine dt_iload_n X 4 dX4_fallDue_32 rfl rfl ?_
    refine dt_iconst X (v := 2) dX4_fallDue_33 (by decide) ?_
    refine dt_callV X (dn_runV X (T := TX3) (N := 8) [.int a2, .int 2] (dn_hM hu h1) rfl rfl (c_X3_setHowIs (dn_la g) u hu k1 a2 2 h1 s7) gX4_fallDue_X3_setHowIs rfl dn_hd_X3_setHowIs rfl rfl rfl rfl dX4_fallDue_34) (fun r24 s22 e23 => ?_)
    exact dt_vret X dX4_fallDue_37
set_option maxRecDepth 100000 in
set_option maxHeartbeats 4000000 in
theorem b_X4_callDay_115 {g : dn_M} {u : dn_U} (hu : dn_Lu u = dn_LC) (k1 : Nat) (h1 : dn_isM k1) (X : dn_X u g cX4_callDay wsX4_callDay RX4 6 3 68 none) (K47 : Int32 → Int32 → Int32 → dn_S → Option (Unit × dn_S)) (H47 : ∀ (y2 : Int32) (y3 : Int32) (y4 : Int32) (s : dn_S), dn_T u g 6 (dn_QV u) (K47 y2 y3 y4 s) s 47 [(0, .ref (dn_a u 14)), (1, .ref (dn_a u k1)), (2, .int y2), (3, .int y3), (4, .int y4)] []) (y2 : Int32) (y3 : Int32) (y4 : Int32) (s : dn_S) : dn_T u g 6 (dn_QV u) (m_X4_callDay_115 k1 K47 y2 y3 y4 s) s 115 [(0, .ref (dn_a u 14)), (1, .ref (dn_a u k1)), (2, .int y2), (3, .int y3), (4, .int y4)] [] := by
  unfold m_X4_callDay_115
  refine dt_iinc X (v := y4 + 1) 4 [(4, .int (y4 + 1)), (0, .ref (dn_a u 14)), (1, .ref (dn_a u k1)), (2, .int y2), (3, .int y3)] dX4_callDay_115 rfl (by rfl) rfl rfl ?_
  refine dt_ilet X rfl (fun x1 => ?_)
  refine dt_goto X 47 dX4_callDay_118 (by decide) ?_
  refine dt_sub X [(0, .ref (dn_a u 14)), (1, .ref (dn_a u k1)), (2, .int y2), (3, .int y3), (4, .int x1)] [1, 2, 3, 4, 0] rfl ?_
  exact H47 y2 y3 x1 s
set_option maxRecDepth 100000 in
set_option maxHeartbeats 4000000 in
theorem b_X4_callDay_92 {g : dn_M} {u : dn_U} (hu : dn_Lu u = dn_LC) (k1 : Nat) (h1 : dn_isM k1) (X : dn_X u g cX4_callDay wsX4_callDay RX4 6 3 68 none) (K47 : Int32 → Int32 → Int32 → dn_S → Option (Unit × dn_S)) (H47 : ∀ (y2 : Int32) (y3 : Int32) (y4 : Int32) (s : dn_S), dn_T u g 6 (dn_QV u) (K47 y2 y3 y4 s) s 47 [(0, .ref (dn_a u 14)), (1, .ref (dn_a u k1)), (2, .int y2), (3, .int y3), (4, .int y4)] []) (y2 : Int32) (y3 : Int32) (y4 : Int32) (z0 : Bool) (s : dn_S) : dn_T u g 6 (dn_QV u) (m_X4_callDay_92 k1 K47 y2 y3 y4 z0 s) s 92 [(0, .ref (dn_a u 14)), (1, .ref (dn_a u k1)), (2, .int y2), (3, .int y3), (4, .int y4)] [.int (dn_b z0)] := by
  unfold m_X4_callDay_92
  refine dt_istore X [(5, .int (dn_b z0)), (0, .ref (dn_a u 14)), (1, .ref (dn_a u k1)), (2, .int y2), (3, .int y3), (4, .int y4)] dX4_callDay_92 rfl rfl ?_
  refine dt_iload X 0 dX4_callDay_94 rfl ?_
  refine dt_if_eqb X 115 dX4_callDay_96 (by decide) ?_ ?_
  · refine dt_sub X [(0, .ref (dn_a u 14)), (1, .ref (dn_a u k1)), (2, .int y2), (3, .int y3), (4, .int y4)] [1, 2, 3, 4, 5] rfl ?_
    exact b_X4_callDay_115 hu k1 h1 X K47 H47 y2 y3 y4 s
  · refine dt_aload_n X 2 dX4_callDay_99 rfl rfl ?_
    refine dt_iload X 5 dX4_callDay_100 rfl ?_
    refine dt_callI X (dn_runV X (T := TX3) (N := 8) [.int y4] (dn_hM hu h1) rfl rfl (c_X3_howIs (dn_la g) u hu k1 y4 h1 s) gX4_callDay_X3_howIs rfl dn_hd_X3_howIs rfl rfl rfl rfl dX4_callDay_102) (fun r3 s1 e2 => ?_)
    refine dt_if_ne X 115 dX4_callDay_105 (by decide) ?_ ?_
    · refine dt_sub X [(0, .ref (dn_a u 14)), (1, .ref (dn_a u k1)), (2, .int y2), (3, .int y3), (4, .int y4)] [1, 2, 3, 4, 5] rfl ?_
      exact b_X4_callDay_115 hu k1 h1 X K47 H47 y2 y3 y4 s1
    · refine dt_aload_n X 1 dX4_callDay_108 rfl rfl ?_
      refine dt_aload_n X 2 dX4_callDay_109 rfl rfl ?_
      refine dt_iload X 5 dX4_callDay_110 rfl ?_
      refine dt_callV X (dn_runV X (T := TX4) (N := 4) [.ref (dn_a u k1), .int y4] (dn_h14 hu) rfl rfl (c_X4_fallDue (dn_la g) u hu k1 y4 h1 s1) gX4_callDay_X4_fallDue rfl dn_hd_X4_fallDue rfl rfl rfl rfl dX4_callDay_112) (fun r6 s4 e5 => ?_)
      refine dt_sub X [(0, .ref (dn_a u 14)), (1, .ref (dn_a u k1)), (2, .int y2), (3, .int y3), (4, .int y4)] [1, 2, 3, 4, 5] rfl ?_
      exact b_X4_callDay_115 hu k1 h1 X K47 H47 y2 y3 y4 s4
set_option maxRecDepth 100000 in
set_option maxHeartbeats 4000000 in
theorem b_X4_callDay_91 {g : dn_M} {u : dn_U} (hu : dn_Lu u = dn_LC) (k1 : Nat) (h1 : dn_isM k1) (X : dn_X u g cX4_callDay wsX4_callDay RX4 6 3 68 none) (K47 : Int32 → Int32 → Int32 → dn_S → Option (Unit × dn_S)) (H47 : ∀ (y2 : Int32) (y3 : Int32) (y4 : Int32) (s : dn_S), dn_T u g 6 (dn_QV u) (K47 y2 y3 y4 s) s 47 [(0, .ref (dn_a u 14)), (1, .ref (dn_a u k1)), (2, .int y2), (3, .int y3), (4, .int y4)] []) (y2 : Int32) (y3 : Int32) (y4 : Int32) (s : dn_S) : dn_T u g 6 (dn_QV u) (m_X4_callDay_91 k1 K47 y2 y3 y4 s) s 91 [(0, .ref (dn_a u 14)), (1, .ref (dn_a u k1)), (2, .int y2), (3, .int y3), (4, .int y4)] [] := by
  unfold m_X4_callDay_91
  refine dt_iconst X (v := 0) dX4_callDay_91 (by decide) ?_
  refine dt_sub X [(0, .ref (dn_a u 14)), (1, .ref (dn_a u k1)), (2, .int y2), (3, .int y3), (4, .int y4)] [0, 1, 2, 3, 4] rfl ?_
  exact b_X4_callDay_92 hu k1 h1 X K47 H47 y2 y3 y4 false s
set_option maxRecDepth 100000 in
set_option maxHeartbeats 4000000 in
theorem b_X4_callDay_47 {g : dn_M} {u : dn_U} (hu : dn_Lu u = dn_LC) (k1 : Nat) (h1 : dn_isM k1) (X : dn_X u g cX4_callDay wsX4_callDay RX4 6 3 68 none) : ∀ (n : Nat) (y2 : Int32) (y3 : Int32) (y4 : Int32) (s : dn_S), dn_T u g 6 (dn_QV u) (m_X4_callDay_47 k1 n y2 y3 y4 s) s 47 [(0, .ref (dn_a u 14)), (1, .ref (dn_a u k1)), (2, .int y2), (3, .int y3), (4, .int y4)] [] := by
  intro n
  induction n with
  | zero =>
    intro y2 y3 y4 s
    exact dt_none X
  | succ n ih =>
    intro y2 y3 y4 s
    rw [m_X4_callDay_47]
    refine dt_iload X 4 dX4_callDay_47 rfl ?_
    refine dt_aload_n X 0 dX4_callDay_49 rfl rfl ?_
    refine dt_get X (T := TX4) (N := 4) (v := .ref (dn_a u 3)) 0 (dn_h14 hu) rfl dn_in_X4_callDay_4 rfl rfl dn_fw_X4_callDay_18 rfl dX4_callDay_50 ?_
    refine dt_getN X (T := TX10) (N := 5) (v := .int (dn_g s 3 3)) 3 (dn_hT hu dn_T3) rfl dn_in_X4_callDay_10 rfl rfl dn_fw_X4_callDay_95 rfl dX4_callDay_53 ?_
    refine dt_icmp_ge X 121 dX4_callDay_56 (by decide) ?_ ?_
    · exact dt_vret X dX4_callDay_121
    · refine dt_aload_n X 0 dX4_callDay_59 rfl rfl ?_
      refine dt_get X (T := TX4) (N := 4) (v := .ref (dn_a u 3)) 0 (dn_h14 hu) rfl dn_in_X4_callDay_4 rfl rfl dn_fw_X4_callDay_18 rfl dX4_callDay_60 ?_
      refine dt_iload X 4 dX4_callDay_63 rfl ?_
      refine dt_iconst X (v := 4) dX4_callDay_65 (by decide) ?_
      refine dt_callI X (dn_runV X (T := TX10) (N := 5) [.int y4, .int 4] (dn_hT hu dn_T3) rfl rfl (c_X10_ofDebt (dn_la g) u hu 3 y4 4 dn_T3 s) gX4_callDay_X10_ofDebt rfl dn_hd_X10_ofDebt rfl rfl rfl rfl dX4_callDay_66) (fun r3 s1 e2 => ?_)
      refine dt_iload_n X 2 dX4_callDay_69 rfl rfl ?_
      refine dt_icmp_ne X 91 dX4_callDay_70 (by decide) ?_ ?_
      · refine dt_sub X [(0, .ref (dn_a u 14)), (1, .ref (dn_a u k1)), (2, .int y2), (3, .int y3), (4, .int y4)] [0, 1, 2, 3, 4] rfl ?_
        exact b_X4_callDay_91 hu k1 h1 X (m_X4_callDay_47 k1 n) ih y2 y3 y4 s1
      · refine dt_aload_n X 0 dX4_callDay_73 rfl rfl ?_
        refine dt_get X (T := TX4) (N := 4) (v := .ref (dn_a u 3)) 0 (dn_h14 hu) rfl dn_in_X4_callDay_4 rfl rfl dn_fw_X4_callDay_18 rfl dX4_callDay_74 ?_
        refine dt_iload X 4 dX4_callDay_77 rfl ?_
        refine dt_iconst X (v := 3) dX4_callDay_79 (by decide) ?_
        refine dt_callI X (dn_runV X (T := TX10) (N := 5) [.int y4, .int 3] (dn_hT hu dn_T3) rfl rfl (c_X10_ofDebt (dn_la g) u hu 3 y4 3 dn_T3 s1) gX4_callDay_X10_ofDebt rfl dn_hd_X10_ofDebt rfl rfl rfl rfl dX4_callDay_80) (fun r6 s4 e5 => ?_)
        refine dt_iload_n X 3 dX4_callDay_83 rfl rfl ?_
        refine dt_icmp_ne X 91 dX4_callDay_84 (by decide) ?_ ?_
        · refine dt_sub X [(0, .ref (dn_a u 14)), (1, .ref (dn_a u k1)), (2, .int y2), (3, .int y3), (4, .int y4)] [0, 1, 2, 3, 4] rfl ?_
          exact b_X4_callDay_91 hu k1 h1 X (m_X4_callDay_47 k1 n) ih y2 y3 y4 s4
        · refine dt_iconst X (v := 1) dX4_callDay_87 (by decide) ?_
          refine dt_goto X 92 dX4_callDay_88 (by decide) ?_
          refine dt_sub X [(0, .ref (dn_a u 14)), (1, .ref (dn_a u k1)), (2, .int y2), (3, .int y3), (4, .int y4)] [0, 1, 2, 3, 4] rfl ?_
          exact b_X4_callDay_92 hu k1 h1 X (m_X4_callDay_47 k1 n) ih y2 y3 y4 true s4
set_option maxRecDepth 100000 in
set_option maxHeartbeats 4000000 in
theorem b_X4_callDay_7 {g : dn_M} {u : dn_U} (hu : dn_Lu u = dn_LC) (k1 : Nat) (h1 : dn_isM k1) (X : dn_X u g cX4_callDay wsX4_callDay RX4 6 3 68 none) : ∀ (n : Nat) (y2 : Int32) (y3 : Int32) (s : dn_S), dn_T u g 6 (dn_QV u) (m_X4_callDay_7 k1 n y2 y3 s) s 7 [(0, .ref (dn_a u 14)), (1, .ref (dn_a u k1)), (2, .int y2), (3, .int y3)] [] := by
  intro n
  induction n with
  | zero =>
    intro y2 y3 s
    exact dt_none X
  | succ n ih =>
    intro y2 y3 s
    rw [m_X4_callDay_7]
    refine dt_iload_n X 3 dX4_callDay_7 rfl rfl ?_
    refine dt_aload_n X 0 dX4_callDay_8 rfl rfl ?_
    refine dt_get X (T := TX4) (N := 4) (v := .ref (dn_a u 3)) 0 (dn_h14 hu) rfl dn_in_X4_callDay_4 rfl rfl dn_fw_X4_callDay_18 rfl dX4_callDay_9 ?_
    refine dt_getN X (T := TX10) (N := 5) (v := .int (dn_g s 3 2)) 2 (dn_hT hu dn_T3) rfl dn_in_X4_callDay_10 rfl rfl dn_fw_X4_callDay_85 rfl dX4_callDay_12 ?_
    refine dt_icmp_ge X 38 dX4_callDay_15 (by decide) ?_ ?_
    · refine dt_aload_n X 1 dX4_callDay_38 rfl rfl ?_
      refine dt_iload_n X 2 dX4_callDay_39 rfl rfl ?_
      refine dt_callI X (dn_runV X (T := TX3) (N := 8) [.int y2] (dn_hM hu h1) rfl rfl (c_X3_daysCalled (dn_la g) u hu k1 y2 h1 s) gX4_callDay_X3_daysCalled rfl dn_hd_X3_daysCalled rfl rfl rfl rfl dX4_callDay_40) (fun r3 s1 e2 => ?_)
      refine dt_istore_n X [(3, .int r3), (0, .ref (dn_a u 14)), (1, .ref (dn_a u k1)), (2, .int y2)] dX4_callDay_43 rfl rfl rfl ?_
      refine dt_iconst X (v := 0) dX4_callDay_44 (by decide) ?_
      refine dt_istore X [(4, .int 0), (3, .int r3), (0, .ref (dn_a u 14)), (1, .ref (dn_a u k1)), (2, .int y2)] dX4_callDay_45 rfl rfl ?_
      refine dt_sub X [(0, .ref (dn_a u 14)), (1, .ref (dn_a u k1)), (2, .int y2), (3, .int r3), (4, .int 0)] [2, 3, 4, 1, 0] rfl ?_
      exact b_X4_callDay_47 hu k1 h1 X 2048 y2 r3 0 s1
    · refine dt_aload_n X 1 dX4_callDay_18 rfl rfl ?_
      refine dt_iload_n X 3 dX4_callDay_19 rfl rfl ?_
      refine dt_aload_n X 0 dX4_callDay_20 rfl rfl ?_
      refine dt_get X (T := TX4) (N := 4) (v := .ref (dn_a u 3)) 0 (dn_h14 hu) rfl dn_in_X4_callDay_4 rfl rfl dn_fw_X4_callDay_18 rfl dX4_callDay_21 ?_
      refine dt_iload_n X 3 dX4_callDay_24 rfl rfl ?_
      refine dt_iconst X (v := 1) dX4_callDay_25 (by decide) ?_
      refine dt_callI X (dn_runV X (T := TX10) (N := 5) [.int y3, .int 1] (dn_hT hu dn_T3) rfl rfl (c_X10_ofBidder (dn_la g) u hu 3 y3 1 dn_T3 s) gX4_callDay_X10_ofBidder rfl dn_hd_X10_ofBidder rfl rfl rfl rfl dX4_callDay_26) (fun r6 s4 e5 => ?_)
      refine dt_callV X (dn_runV X (T := TX3) (N := 8) [.int y3, .int r6] (dn_hM hu h1) rfl rfl (c_X3_addToPurse (dn_la g) u hu k1 y3 r6 h1 s4) gX4_callDay_X3_addToPurse rfl dn_hd_X3_addToPurse rfl rfl rfl rfl dX4_callDay_29) (fun r9 s7 e8 => ?_)
      refine dt_iinc X (v := y3 + 1) 3 [(3, .int (y3 + 1)), (0, .ref (dn_a u 14)), (1, .ref (dn_a u k1)), (2, .int y2)] dX4_callDay_32 rfl (by rfl) rfl rfl ?_
      refine dt_ilet X rfl (fun x10 => ?_)
      refine dt_goto X 7 dX4_callDay_35 (by decide) ?_
      refine dt_sub X [(0, .ref (dn_a u 14)), (1, .ref (dn_a u k1)), (2, .int y2), (3, .int x10)] [1, 2, 3, 0] rfl ?_
      exact ih y2 x10 s7
set_option maxRecDepth 100000 in
set_option maxHeartbeats 4000000 in
theorem c_X4_callDay (l : Launch) (u : dn_U) (hu : dn_Lu u = dn_LC) (k1 : Nat) (a2 : Int32) (h1 : dn_isM k1) (s : dn_S) : dn_Met l u yX4_callDay wsX4_callDay 3 68 [.ref (dn_a u 14), .ref (dn_a u k1), .int a2] s (m_X4_callDay k1 a2 s) (dn_QV u) := by
  refine dt_entry RX4 [(0, .ref (dn_a u 14)), (1, .ref (dn_a u k1)), (2, .int a2)] (by decide +kernel) rfl rfl rfl rfl (fun g hgl X => ?_)
  subst hgl
  unfold m_X4_callDay
  refine dt_aload_n X 1 dX4_callDay_0 rfl rfl ?_
  refine dt_iload_n X 2 dX4_callDay_1 rfl rfl ?_
  refine dt_callV X (dn_runV X (T := TX3) (N := 8) [.int a2] (dn_hM hu h1) rfl rfl (c_X3_addDay (dn_la g) u hu k1 a2 h1 s) gX4_callDay_X3_addDay rfl dn_hd_X3_addDay rfl rfl rfl rfl dX4_callDay_2) (fun r3 s1 e2 => ?_)
  refine dt_iconst X (v := 0) dX4_callDay_5 (by decide) ?_
  refine dt_istore_n X [(3, .int 0), (0, .ref (dn_a u 14)), (1, .ref (dn_a u k1)), (2, .int a2)] dX4_callDay_6 rfl rfl rfl ?_
  refine dt_sub X [(0, .ref (dn_a u 14)), (1, .ref (dn_a u k1)), (2, .int a2), (3, .int 0)] [1, 2, 3, 0] rfl ?_
  exact b_X4_callDay_7 hu k1 h1 X 2048 a2 0 s1
