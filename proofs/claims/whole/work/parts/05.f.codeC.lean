set_option maxRecDepth 100000 in
set_option maxHeartbeats 4000000 in
theorem b_X11_planned_15 {g : dn_M} {u : dn_U} (hu : dn_Lu u = dn_LC) (X : dn_X u g cX11_planned wsX11_planned RX11 3 5 116 (some .int)) (y1 : Int32) (s : dn_S) : dn_T u g 3 (dn_QI u) (m_X11_planned_15 y1 s) s 15 [(0, .ref (dn_a u 0)), (1, .int y1)] [] := by
  unfold m_X11_planned_15
  refine dt_aload_n X 0 dX11_planned_15 rfl rfl ?_
  refine dt_get X (T := TX11) (N := 10) (v := .ref (dn_a u 30)) 7 (dn_h0 hu) rfl dn_in_X11_planned_11 rfl rfl dn_fw_X11_planned_69 rfl dX11_planned_16 ?_
  refine dt_aload_n X 0 dX11_planned_19 rfl rfl ?_
  refine dt_get X (T := TX11) (N := 10) (v := .ref (dn_a u 10)) 3 (dn_h0 hu) rfl dn_in_X11_planned_11 rfl rfl dn_fw_X11_planned_35 rfl dX11_planned_20 ?_
  refine dt_callR X (dn_runV X (T := TX0) (N := 4) [.ref (dn_a u 10)] (dn_h30 hu) rfl rfl (c_X0_carriedOut (dn_la g) u hu 10 dn_M10 s) gX11_planned_X0_carriedOut rfl dn_hd_X0_carriedOut rfl rfl rfl rfl dX11_planned_23) (fun r3 s1 e2 => ?_)
  refine dt_astore_n X [(2, .ref (dn_a u 31)), (0, .ref (dn_a u 0)), (1, .int y1)] dX11_planned_26 rfl rfl rfl ?_
  refine dt_iload_n X 2 dX11_planned_27 rfl rfl ?_
  refine dt_iconst X (v := -1) dX11_planned_28 (by decide) ?_
  refine dt_icmp_ne X 47 dX11_planned_29 (by decide) ?_ ?_
  · refine dt_aload_n X 0 dX11_planned_47 rfl rfl ?_
    refine dt_iload_n X 2 dX11_planned_48 rfl rfl ?_
    refine dt_callI X (dn_runV X (T := TX3) (N := 8) [.int y1] (dn_hM hu dn_M31) rfl rfl (c_X3_purse (dn_la g) u hu 31 y1 dn_M31 s1) gX11_planned_X3_purse rfl dn_hd_X3_purse rfl rfl rfl rfl dX11_planned_49) (fun r6 s4 e5 => ?_)
    exact dt_iret X dX11_planned_52
  · refine dt_aload_n X 0 dX11_planned_32 rfl rfl ?_
    refine dt_callI X (dn_runV X (T := TX3) (N := 8) [] (dn_hM hu dn_M31) rfl rfl (c_X3_defaults (dn_la g) u hu 31 dn_M31 s1) gX11_planned_X3_defaults rfl dn_hd_X3_defaults rfl rfl rfl rfl dX11_planned_33) (fun r9 s7 e8 => ?_)
    refine dt_aload_n X 1 dX11_planned_36 rfl rfl ?_
    refine dt_get X (T := TX11) (N := 10) (v := .ref (dn_a u 10)) 3 (dn_h0 hu) rfl dn_in_X11_planned_11 rfl rfl dn_fw_X11_planned_35 rfl dX11_planned_37 ?_
    refine dt_callI X (dn_runV X (T := TX3) (N := 8) [] (dn_hM hu dn_M10) rfl rfl (c_X3_defaults (dn_la g) u hu 10 dn_M10 s7) gX11_planned_X3_defaults rfl dn_hd_X3_defaults rfl rfl rfl rfl dX11_planned_40) (fun r12 s10 e11 => ?_)
    refine dt_isub X dX11_planned_43 ?_
    refine dt_goto X 52 dX11_planned_44 (by decide) ?_
    exact dt_iret X dX11_planned_52
set_option maxRecDepth 100000 in
set_option maxHeartbeats 4000000 in
theorem c_X11_planned (l : Launch) (u : dn_U) (hu : dn_Lu u = dn_LC) (a1 : Int32) (s : dn_S) : dn_Met l u yX11_planned wsX11_planned 5 116 [.ref (dn_a u 0), .int a1] s (m_X11_planned a1 s) (dn_QI u) := by
  refine dt_entry RX11 [(0, .ref (dn_a u 0)), (1, .int a1)] (by decide +kernel) rfl rfl rfl rfl (fun g hgl X => ?_)
  subst hgl
  unfold m_X11_planned
  refine dt_iload_n X 1 dX11_planned_0 rfl rfl ?_
  refine dt_iconst X (v := -1) dX11_planned_1 (by decide) ?_
  refine dt_icmp_eq X 15 dX11_planned_2 (by decide) ?_ ?_
  · refine dt_sub X [(0, .ref (dn_a u 0)), (1, .int a1)] [0, 1] rfl ?_
    exact b_X11_planned_15 hu X a1 s
  · refine dt_aload_n X 0 dX11_planned_5 rfl rfl ?_
    refine dt_iload_n X 1 dX11_planned_6 rfl rfl ?_
    refine dt_callZ X (dn_runV X (T := TX11) (N := 10) [.int a1] (dn_h0 hu) rfl rfl (c_X11_isBidder (dn_la g) u hu a1 s) gX11_planned_X11_isBidder rfl dn_hd_X11_isBidder rfl rfl rfl rfl dX11_planned_7) (fun r3 s1 e2 => ?_)
    refine dt_if_neb X 15 dX11_planned_10 (by decide) ?_ ?_
    · refine dt_sub X [(0, .ref (dn_a u 0)), (1, .int a1)] [0, 1] rfl ?_
      exact b_X11_planned_15 hu X a1 s1
    · refine dt_iconst X (v := -1) dX11_planned_13 (by decide) ?_
      exact dt_iret X dX11_planned_14
set_option maxRecDepth 100000 in
set_option maxHeartbeats 4000000 in
theorem b_X11_choose_4 {g : dn_M} {u : dn_U} (hu : dn_Lu u = dn_LC) (X : dn_X u g cX11_choose wsX11_choose RX11 4 0 0 (some .int)) : ∀ (n : Nat) (y0 : Int32) (y1 : Int32) (y2 : Int32) (y3 : Int32) (s : dn_S), dn_T u g 4 (dn_QI u) (m_X11_choose_4 n y0 y1 y2 y3 s) s 4 [(0, .int y0), (1, .int y1), (2, .int y2), (3, .int y3)] [] := by
  intro n
  induction n with
  | zero =>
    intro y0 y1 y2 y3 s
    exact dt_none X
  | succ n ih =>
    intro y0 y1 y2 y3 s
    rw [m_X11_choose_4]
    refine dt_iload_n X 3 dX11_choose_4 rfl rfl ?_
    refine dt_iload_n X 1 dX11_choose_5 rfl rfl ?_
    refine dt_icmp_gt X 25 dX11_choose_6 (by decide) ?_ ?_
    · refine dt_iload_n X 2 dX11_choose_25 rfl rfl ?_
      exact dt_iret X dX11_choose_26
    · refine dt_iload_n X 2 dX11_choose_9 rfl rfl ?_
      refine dt_iload_n X 0 dX11_choose_10 rfl rfl ?_
      refine dt_iload_n X 1 dX11_choose_11 rfl rfl ?_
      refine dt_isub X dX11_choose_12 ?_
      refine dt_iload_n X 3 dX11_choose_13 rfl rfl ?_
      refine dt_iadd X dX11_choose_14 ?_
      refine dt_imul X dX11_choose_15 ?_
      refine dt_iload_n X 3 dX11_choose_16 rfl rfl ?_
      refine dt_idiv X dX11_choose_17 ?_
      refine dt_let X (fun x1 => ?_)
      refine dt_istore_n X [(2, .int x1), (0, .int y0), (1, .int y1), (3, .int y3)] dX11_choose_18 rfl rfl rfl ?_
      refine dt_iinc X (v := y3 + 1) 3 [(3, .int (y3 + 1)), (2, .int x1), (0, .int y0), (1, .int y1)] dX11_choose_19 rfl (by rfl) rfl rfl ?_
      refine dt_ilet X rfl (fun x2 => ?_)
      refine dt_goto X 4 dX11_choose_22 (by decide) ?_
      refine dt_sub X [(0, .int y0), (1, .int y1), (2, .int x1), (3, .int x2)] [2, 3, 1, 0] rfl ?_
      exact ih y0 y1 x1 x2 s
set_option maxRecDepth 100000 in
set_option maxHeartbeats 4000000 in
theorem c_X11_choose (l : Launch) (u : dn_U) (hu : dn_Lu u = dn_LC) (a1 : Int32) (a2 : Int32) (s : dn_S) : dn_Met l u yX11_choose wsX11_choose 0 0 [.int a1, .int a2] s (m_X11_choose a1 a2 s) (dn_QI u) := by
  refine dt_entry RX11 [(0, .int a1), (1, .int a2)] (by decide +kernel) rfl rfl rfl rfl (fun g hgl X => ?_)
  subst hgl
  unfold m_X11_choose
  refine dt_iconst X (v := 1) dX11_choose_0 (by decide) ?_
  refine dt_istore_n X [(2, .int 1), (0, .int a1), (1, .int a2)] dX11_choose_1 rfl rfl rfl ?_
  refine dt_iconst X (v := 1) dX11_choose_2 (by decide) ?_
  refine dt_istore_n X [(3, .int 1), (2, .int 1), (0, .int a1), (1, .int a2)] dX11_choose_3 rfl rfl rfl ?_
  refine dt_sub X [(0, .int a1), (1, .int a2), (2, .int 1), (3, .int 1)] [2, 3, 1, 0] rfl ?_
  exact b_X11_choose_4 hu X 2048 a1 a2 1 1 s
set_option maxRecDepth 100000 in
set_option maxHeartbeats 4000000 in
theorem b_X11_power_4 {g : dn_M} {u : dn_U} (hu : dn_Lu u = dn_LC) (X : dn_X u g cX11_power wsX11_power RX11 4 0 0 (some .int)) : ∀ (n : Nat) (y0 : Int32) (y1 : Int32) (y2 : Int32) (y3 : Int32) (s : dn_S), dn_T u g 4 (dn_QI u) (m_X11_power_4 n y0 y1 y2 y3 s) s 4 [(0, .int y0), (1, .int y1), (2, .int y2), (3, .int y3)] [] := by
  intro n
  induction n with
  | zero =>
    intro y0 y1 y2 y3 s
    exact dt_none X
  | succ n ih =>
    intro y0 y1 y2 y3 s
    rw [m_X11_power_4]
    refine dt_iload_n X 3 dX11_power_4 rfl rfl ?_
    refine dt_iload_n X 1 dX11_power_5 rfl rfl ?_
    refine dt_icmp_ge X 19 dX11_power_6 (by decide) ?_ ?_
    · refine dt_iload_n X 2 dX11_power_19 rfl rfl ?_
      exact dt_iret X dX11_power_20
    · refine dt_iload_n X 2 dX11_power_9 rfl rfl ?_
      refine dt_iload_n X 0 dX11_power_10 rfl rfl ?_
      refine dt_imul X dX11_power_11 ?_
      refine dt_let X (fun x1 => ?_)
      refine dt_istore_n X [(2, .int x1), (0, .int y0), (1, .int y1), (3, .int y3)] dX11_power_12 rfl rfl rfl ?_
      refine dt_iinc X (v := y3 + 1) 3 [(3, .int (y3 + 1)), (2, .int x1), (0, .int y0), (1, .int y1)] dX11_power_13 rfl (by rfl) rfl rfl ?_
      refine dt_ilet X rfl (fun x2 => ?_)
      refine dt_goto X 4 dX11_power_16 (by decide) ?_
      refine dt_sub X [(0, .int y0), (1, .int y1), (2, .int x1), (3, .int x2)] [2, 3, 1, 0] rfl ?_
      exact ih y0 y1 x1 x2 s
set_option maxRecDepth 100000 in
set_option maxHeartbeats 4000000 in
theorem c_X11_power (l : Launch) (u : dn_U) (hu : dn_Lu u = dn_LC) (a1 : Int32) (a2 : Int32) (s : dn_S) : dn_Met l u yX11_power wsX11_power 0 0 [.int a1, .int a2] s (m_X11_power a1 a2 s) (dn_QI u) := by
  refine dt_entry RX11 [(0, .int a1), (1, .int a2)] (by decide +kernel) rfl rfl rfl rfl (fun g hgl X => ?_)
  subst hgl
  unfold m_X11_power
  refine dt_iconst X (v := 1) dX11_power_0 (by decide) ?_
  refine dt_istore_n X [(2, .int 1), (0, .int a1), (1, .int a2)] dX11_power_1 rfl rfl rfl ?_
  refine dt_iconst X (v := 0) dX11_power_2 (by decide) ?_
  refine dt_istore_n X [(3, .int 0), (2, .int 1), (0, .int a1), (1, .int a2)] dX11_power_3 rfl rfl rfl ?_
  refine dt_sub X [(0, .int a1), (1, .int a2), (2, .int 1), (3, .int 0)] [2, 3, 1, 0] rfl ?_
  exact b_X11_power_4 hu X 2048 a1 a2 1 0 s
set_option maxRecDepth 100000 in
set_option maxHeartbeats 4000000 in
theorem b_X11_chancesOf_13 {g : dn_M} {u : dn_U} (hu : dn_Lu u = dn_LC) (X : dn_X u g cX11_chancesOf wsX11_chancesOf RX11 5 1 23 (some .int)) : ∀ (n : Nat) (y1 : Int32) (y2 : Int32) (y3 : Int32) (y4 : Int32) (s : dn_S), dn_T u g 5 (dn_QI u) (m_X11_chancesOf_13 n y1 y2 y3 y4 s) s 13 [(1, .int y1), (2, .int y2), (3, .int y3), (4, .int y4)] [] := by
  intro n
  induction n with
  | zero =>
    intro y1 y2 y3 y4 s
    exact dt_none X
  | succ n ih =>
    intro y1 y2 y3 y4 s
    rw [m_X11_chancesOf_13]
    refine dt_iload X 3 dX11_chancesOf_13 rfl ?_
    refine dt_iload_n X 1 dX11_chancesOf_15 rfl rfl ?_
    refine dt_icmp_gt X 53 dX11_chancesOf_16 (by decide) ?_ ?_
    · refine dt_iload_n X 2 dX11_chancesOf_53 rfl rfl ?_
      exact dt_iret X dX11_chancesOf_54
    · refine dt_iload_n X 2 dX11_chancesOf_19 rfl rfl ?_
      refine dt_iload_n X 1 dX11_chancesOf_20 rfl rfl ?_
      refine dt_iload X 3 dX11_chancesOf_21 rfl ?_
      refine dt_callI X (dn_runS X [.int y2, .int y4] (c_X11_choose (dn_la g) u hu y2 y4 s) gX11_chancesOf_X11_choose rfl dn_hs_X11_choose rfl rfl rfl rfl dX11_chancesOf_23) (fun r3 s1 e2 => ?_)
      refine dt_bipush X (v := 10) dX11_chancesOf_26 (by decide) ?_
      refine dt_iload_n X 0 dX11_chancesOf_28 rfl rfl ?_
      refine dt_isub X dX11_chancesOf_29 ?_
      refine dt_iload X 3 dX11_chancesOf_30 rfl ?_
      refine dt_callI X (dn_runS X [.int (10 - y1), .int y4] (c_X11_power (dn_la g) u hu (10 - y1) y4 s1) gX11_chancesOf_X11_power rfl dn_hs_X11_power rfl rfl rfl rfl dX11_chancesOf_32) (fun r6 s4 e5 => ?_)
      refine dt_imul X dX11_chancesOf_35 ?_
      refine dt_iload_n X 0 dX11_chancesOf_36 rfl rfl ?_
      refine dt_iload_n X 1 dX11_chancesOf_37 rfl rfl ?_
      refine dt_iload X 3 dX11_chancesOf_38 rfl ?_
      refine dt_isub X dX11_chancesOf_40 ?_
      refine dt_callI X (dn_runS X [.int y1, .int (y2 - y4)] (c_X11_power (dn_la g) u hu y1 (y2 - y4) s4) gX11_chancesOf_X11_power rfl dn_hs_X11_power rfl rfl rfl rfl dX11_chancesOf_41) (fun r9 s7 e8 => ?_)
      refine dt_imul X dX11_chancesOf_44 ?_
      refine dt_iadd X dX11_chancesOf_45 ?_
      refine dt_let X (fun x10 => ?_)
      refine dt_istore_n X [(3, .int x10), (1, .int y1), (2, .int y2), (4, .int y4)] dX11_chancesOf_46 rfl rfl rfl ?_
      refine dt_iinc X (v := y4 + 1) 3 [(4, .int (y4 + 1)), (3, .int x10), (1, .int y1), (2, .int y2)] dX11_chancesOf_47 rfl (by rfl) rfl rfl ?_
      refine dt_ilet X rfl (fun x11 => ?_)
      refine dt_goto X 13 dX11_chancesOf_50 (by decide) ?_
      refine dt_sub X [(1, .int y1), (2, .int y2), (3, .int x10), (4, .int x11)] [2, 3, 1, 0] rfl ?_
      exact ih y1 y2 x10 x11 s7
set_option maxRecDepth 100000 in
set_option maxHeartbeats 4000000 in
theorem c_X11_chancesOf (l : Launch) (u : dn_U) (hu : dn_Lu u = dn_LC) (a1 : Int32) (a2 : Int32) (a3 : Int32) (s : dn_S) : dn_Met l u yX11_chancesOf wsX11_chancesOf 1 23 [.int a1, .int a2, .int a3] s (m_X11_chancesOf a1 a2 a3 s) (dn_QI u) := by
  refine dt_entry RX11 [(0, .int a1), (1, .int a2), (2, .int a3)] (by decide +kernel) rfl rfl rfl rfl (fun g hgl X => ?_)
  subst hgl
  unfold m_X11_chancesOf
  refine dt_iload_n X 0 dX11_chancesOf_0 rfl rfl ?_
  refine dt_bipush X (v := -9) dX11_chancesOf_1 (by decide) ?_
  refine dt_icmp_ne X 8 dX11_chancesOf_3 (by decide) ?_ ?_
  · refine dt_iconst X (v := 0) dX11_chancesOf_8 (by decide) ?_
    refine dt_istore_n X [(3, .int 0), (0, .int a1), (1, .int a2), (2, .int a3)] dX11_chancesOf_9 rfl rfl rfl ?_
    refine dt_iload_n X 1 dX11_chancesOf_10 rfl rfl ?_
    refine dt_istore X [(4, .int a1), (3, .int 0), (0, .int a1), (1, .int a2), (2, .int a3)] dX11_chancesOf_11 rfl rfl ?_
    refine dt_sub X [(1, .int a2), (2, .int a3), (3, .int 0), (4, .int a1)] [3, 4, 1, 0] rfl ?_
    exact b_X11_chancesOf_13 hu X 2048 a2 a3 0 a1 s
  · refine dt_iconst X (v := 0) dX11_chancesOf_6 (by decide) ?_
    exact dt_iret X dX11_chancesOf_7
set_option maxRecDepth 100000 in
set_option maxHeartbeats 4000000 in
theorem b_X11_commonDivisor_2 {g : dn_M} {u : dn_U} (hu : dn_Lu u = dn_LC) (X : dn_X u g cX11_commonDivisor wsX11_commonDivisor RX11 4 0 0 (some .int)) : ∀ (n : Nat) (y0 : Int32) (y1 : Int32) (y2 : Int32) (s : dn_S), dn_T u g 4 (dn_QI u) (m_X11_commonDivisor_2 n y0 y1 y2 s) s 2 [(0, .int y0), (1, .int y1), (2, .int y2)] [] := by
  intro n
  induction n with
  | zero =>
    intro y0 y1 y2 s
    exact dt_none X
  | succ n ih =>
    intro y0 y1 y2 s
    rw [m_X11_commonDivisor_2]
    refine dt_iload_n X 2 dX11_commonDivisor_2 rfl rfl ?_
    refine dt_bipush X (v := 64) dX11_commonDivisor_3 (by decide) ?_
    refine dt_icmp_ge X 26 dX11_commonDivisor_5 (by decide) ?_ ?_
    · refine dt_iload_n X 0 dX11_commonDivisor_26 rfl rfl ?_
      exact dt_iret X dX11_commonDivisor_27
    · refine dt_iload_n X 1 dX11_commonDivisor_8 rfl rfl ?_
      refine dt_if_eq X 26 dX11_commonDivisor_9 (by decide) ?_ ?_
      · refine dt_iload_n X 0 dX11_commonDivisor_26 rfl rfl ?_
        exact dt_iret X dX11_commonDivisor_27
      · refine dt_iload_n X 0 dX11_commonDivisor_12 rfl rfl ?_
        refine dt_iload_n X 1 dX11_commonDivisor_13 rfl rfl ?_
        refine dt_irem X dX11_commonDivisor_14 ?_
        refine dt_let X (fun x1 => ?_)
        refine dt_istore_n X [(3, .int x1), (0, .int y0), (1, .int y1), (2, .int y2)] dX11_commonDivisor_15 rfl rfl rfl ?_
        refine dt_iload_n X 2 dX11_commonDivisor_16 rfl rfl ?_
        refine dt_istore_n X [(0, .int y1), (3, .int x1), (1, .int y1), (2, .int y2)] dX11_commonDivisor_17 rfl rfl rfl ?_
        refine dt_iload_n X 1 dX11_commonDivisor_18 rfl rfl ?_
        refine dt_istore_n X [(1, .int x1), (0, .int y1), (3, .int x1), (2, .int y2)] dX11_commonDivisor_19 rfl rfl rfl ?_
        refine dt_iinc X (v := y2 + 1) 3 [(2, .int (y2 + 1)), (1, .int x1), (0, .int y1), (3, .int x1)] dX11_commonDivisor_20 rfl (by rfl) rfl rfl ?_
        refine dt_ilet X rfl (fun x2 => ?_)
        refine dt_goto X 2 dX11_commonDivisor_23 (by decide) ?_
        refine dt_sub X [(0, .int y1), (1, .int x1), (2, .int x2)] [2, 1, 0] rfl ?_
        exact ih y1 x1 x2 s
set_option maxRecDepth 100000 in
set_option maxHeartbeats 4000000 in
theorem c_X11_commonDivisor (l : Launch) (u : dn_U) (hu : dn_Lu u = dn_LC) (a1 : Int32) (a2 : Int32) (s : dn_S) : dn_Met l u yX11_commonDivisor wsX11_commonDivisor 0 0 [.int a1, .int a2] s (m_X11_commonDivisor a1 a2 s) (dn_QI u) := by
  refine dt_entry RX11 [(0, .int a1), (1, .int a2)] (by decide +kernel) rfl rfl rfl rfl (fun g hgl X => ?_)
  subst hgl
  unfold m_X11_commonDivisor
  refine dt_iconst X (v := 0) dX11_commonDivisor_0 (by decide) ?_
  refine dt_istore_n X [(2, .int 0), (0, .int a1), (1, .int a2)] dX11_commonDivisor_1 rfl rfl rfl ?_
  refine dt_sub X [(0, .int a1), (1, .int a2), (2, .int 0)] [1, 2, 0] rfl ?_
  exact b_X11_commonDivisor_2 hu X 2048 a1 a2 0 s
set_option maxRecDepth 100000 in
set_option maxHeartbeats 4000000 in
theorem c_X11_odds (l : Launch) (u : dn_U) (hu : dn_Lu u = dn_LC) (a1 : Int32) (a2 : Int32) (a3 : Int32) (a4 : Int32) (s : dn_S) : dn_Met l u yX11_odds wsX11_odds 6 139 [.ref (dn_a u 0), .int a1, .int a2, .int a3, .int a4] s (m_X11_odds a1 a2 a3 a4 s) (dn_QI u) := by
  refine dt_entry RX11 [(0, .ref (dn_a u 0)), (1, .int a1), (2, .int a2), (3, .int a3), (4, .int a4)] (by decide +kernel) rfl rfl rfl rfl (fun g hgl X => ?_)
  subst hgl
  unfold m_X11_odds
  refine dt_aload_n X 0 dX11_odds_0 rfl rfl ?_
  refine dt_iload_n X 1 dX11_odds_1 rfl rfl ?_
  refine dt_callZ X (dn_runV X (T := TX11) (N := 10) [.int a1] (dn_h0 hu) rfl rfl (c_X11_isDebt (dn_la g) u hu a1 s) gX11_odds_X11_isDebt rfl dn_hd_X11_isDebt rfl rfl rfl rfl dX11_odds_2) (fun r3 s1 e2 => ?_)
  refine dt_if_eqb X 38 dX11_odds_5 (by decide) ?_ ?_
  · refine dt_iconst X (v := -1) dX11_odds_38 (by decide) ?_
    exact dt_iret X dX11_odds_39
  · refine dt_iload_n X 2 dX11_odds_8 rfl rfl ?_
    refine dt_iconst X (v := 0) dX11_odds_9 (by decide) ?_
    refine dt_bipush X (v := 10) dX11_odds_10 (by decide) ?_
    refine dt_callZ X (dn_runS X [.int a2, .int 0, .int 10] (c_X11_within (dn_la g) u hu a2 0 10 s1) gX11_odds_X11_within rfl dn_hs_X11_within rfl rfl rfl rfl dX11_odds_12) (fun r6 s4 e5 => ?_)
    refine dt_if_eqb X 38 dX11_odds_15 (by decide) ?_ ?_
    · refine dt_iconst X (v := -1) dX11_odds_38 (by decide) ?_
      exact dt_iret X dX11_odds_39
    · refine dt_iload_n X 3 dX11_odds_18 rfl rfl ?_
      refine dt_iconst X (v := 0) dX11_odds_19 (by decide) ?_
      refine dt_bipush X (v := 6) dX11_odds_20 (by decide) ?_
      refine dt_callZ X (dn_runS X [.int a3, .int 0, .int 6] (c_X11_within (dn_la g) u hu a3 0 6 s4) gX11_odds_X11_within rfl dn_hs_X11_within rfl rfl rfl rfl dX11_odds_22) (fun r9 s7 e8 => ?_)
      refine dt_if_eqb X 38 dX11_odds_25 (by decide) ?_ ?_
      · refine dt_iconst X (v := -1) dX11_odds_38 (by decide) ?_
        exact dt_iret X dX11_odds_39
      · refine dt_iload X 4 dX11_odds_28 rfl ?_
        refine dt_iconst X (v := 0) dX11_odds_30 (by decide) ?_
        refine dt_iconst X (v := 1) dX11_odds_31 (by decide) ?_
        refine dt_callZ X (dn_runS X [.int a4, .int 0, .int 1] (c_X11_within (dn_la g) u hu a4 0 1 s7) gX11_odds_X11_within rfl dn_hs_X11_within rfl rfl rfl rfl dX11_odds_32) (fun r12 s10 e11 => ?_)
        refine dt_if_neb X 40 dX11_odds_35 (by decide) ?_ ?_
        · refine dt_aload_n X 0 dX11_odds_40 rfl rfl ?_
          refine dt_get X (T := TX11) (N := 10) (v := .ref (dn_a u 18)) 5 (dn_h0 hu) rfl dn_in_X11_odds_11 rfl rfl dn_fw_X11_odds_53 rfl dX11_odds_41 ?_
          refine dt_aload_n X 0 dX11_odds_44 rfl rfl ?_
          refine dt_get X (T := TX11) (N := 10) (v := .ref (dn_a u 10)) 3 (dn_h0 hu) rfl dn_in_X11_odds_11 rfl rfl dn_fw_X11_odds_35 rfl dX11_odds_45 ?_
          refine dt_iload_n X 1 dX11_odds_48 rfl rfl ?_
          refine dt_iload_n X 3 dX11_odds_49 rfl rfl ?_
          refine dt_callI X (dn_runV X (T := TX5) (N := 3) [.ref (dn_a u 10), .int a1, .int a3] (dn_h18 hu) rfl rfl (c_X5_nightDue (dn_la g) u hu 10 a1 a3 dn_M10 s10) gX11_odds_X5_nightDue rfl dn_hd_X5_nightDue rfl rfl rfl rfl dX11_odds_50) (fun r15 s13 e14 => ?_)
          refine dt_iload_n X 2 dX11_odds_53 rfl rfl ?_
          refine dt_iload_n X 3 dX11_odds_54 rfl rfl ?_
          refine dt_callI X (dn_runS X [.int r15, .int a2, .int a3] (c_X11_chancesOf (dn_la g) u hu r15 a2 a3 s13) gX11_odds_X11_chancesOf rfl dn_hs_X11_chancesOf rfl rfl rfl rfl dX11_odds_55) (fun r18 s16 e17 => ?_)
          refine dt_istore X [(5, .int r18), (0, .ref (dn_a u 0)), (1, .int a1), (2, .int a2), (3, .int a3), (4, .int a4)] dX11_odds_58 rfl rfl ?_
          refine dt_bipush X (v := 10) dX11_odds_60 (by decide) ?_
          refine dt_iload_n X 4 dX11_odds_62 rfl rfl ?_
          refine dt_callI X (dn_runS X [.int 10, .int a3] (c_X11_power (dn_la g) u hu 10 a3 s16) gX11_odds_X11_power rfl dn_hs_X11_power rfl rfl rfl rfl dX11_odds_63) (fun r21 s19 e20 => ?_)
          refine dt_istore X [(6, .int r21), (5, .int r18), (0, .ref (dn_a u 0)), (1, .int a1), (2, .int a2), (3, .int a3), (4, .int a4)] dX11_odds_66 rfl rfl ?_
          refine dt_iload X 1 dX11_odds_68 rfl ?_
          refine dt_iload X 0 dX11_odds_70 rfl ?_
          refine dt_callI X (dn_runS X [.int r18, .int r21] (c_X11_commonDivisor (dn_la g) u hu r18 r21 s19) gX11_odds_X11_commonDivisor rfl dn_hs_X11_commonDivisor rfl rfl rfl rfl dX11_odds_72) (fun r24 s22 e23 => ?_)
          refine dt_istore X [(7, .int r24), (6, .int r21), (5, .int r18), (0, .ref (dn_a u 0)), (1, .int a1), (2, .int a2), (3, .int a3), (4, .int a4)] dX11_odds_75 rfl rfl ?_
          refine dt_iload X 0 dX11_odds_77 rfl ?_
          refine dt_if_ne X 84 dX11_odds_79 (by decide) ?_ ?_
          · refine dt_iload X 7 dX11_odds_84 rfl ?_
            refine dt_if_ne X 94 dX11_odds_86 (by decide) ?_ ?_
            · refine dt_iload X 1 dX11_odds_94 rfl ?_
              refine dt_iload X 0 dX11_odds_96 rfl ?_
              refine dt_idiv X dX11_odds_98 ?_
              exact dt_iret X dX11_odds_99
            · refine dt_iload X 2 dX11_odds_89 rfl ?_
              refine dt_goto X 96 dX11_odds_91 (by decide) ?_
              refine dt_iload X 0 dX11_odds_96 rfl ?_
              refine dt_idiv X dX11_odds_98 ?_
              exact dt_iret X dX11_odds_99
          · refine dt_iconst X (v := 0) dX11_odds_82 (by decide) ?_
            exact dt_iret X dX11_odds_83
        · refine dt_iconst X (v := -1) dX11_odds_38 (by decide) ?_
          exact dt_iret X dX11_odds_39
set_option maxRecDepth 100000 in
set_option maxHeartbeats 4000000 in
theorem c_X7_asBidder (l : Launch) (u : dn_U) (hu : dn_Lu u = dn_LC) (a1 : Int32) (s : dn_S) : dn_Met l u yX7_asBidder wsX7_asBidder 2 42 [.ref (dn_a u 88), .int a1] s (m_X7_asBidder a1 s) (dn_QI u) := by
  refine dt_entry RX7 [(0, .ref (dn_a u 88)), (1, .int a1)] (by decide +kernel) rfl rfl rfl rfl (fun g hgl X => ?_)
  subst hgl
  unfold m_X7_asBidder
  refine dt_aload_n X 0 dX7_asBidder_0 rfl rfl ?_
  refine dt_dup X dX7_asBidder_1 rfl ?_
  refine dt_get X (T := TX7) (N := 3) (v := .long (dn_l s)) 2 (dn_h88 hu) rfl dn_in_X7_asBidder_7 rfl rfl dn_fw_X7_asBidder_39 rfl dX7_asBidder_2 ?_
  refine dt_lconst X (v := 1) dX7_asBidder_5 (by decide) ?_
  refine dt_ladd X dX7_asBidder_6 ?_
  refine dt_putl X (T := TX7) (N := 3) 2 (dn_h88 hu) rfl dn_in_X7_asBidder_7 rfl tyX7 tyX7_ok nmX7 rfl rfl dn_fw_X7_asBidder_39 rfl rfl (dn_setq88 _ _ _) (dn_qz88 hu) dX7_asBidder_7 (fun s1 => ?_)
  refine dt_aload_n X 0 dX7_asBidder_10 rfl rfl ?_
  refine dt_get X (T := TX7) (N := 3) (v := .ref (dn_a u 10)) 1 (dn_h88 hu) rfl dn_in_X7_asBidder_7 rfl rfl dn_fw_X7_asBidder_15 rfl dX7_asBidder_11 ?_
  refine dt_iload_n X 1 dX7_asBidder_14 rfl rfl ?_
  refine dt_callI X (dn_runV X (T := TX3) (N := 8) [.int a1] (dn_hM hu dn_M10) rfl rfl (c_X3_purse (dn_la g) u hu 10 a1 dn_M10 s1) gX7_asBidder_X3_purse rfl dn_hd_X3_purse rfl rfl rfl rfl dX7_asBidder_15) (fun r4 s2 e3 => ?_)
  exact dt_iret X dX7_asBidder_18
set_option maxRecDepth 100000 in
set_option maxHeartbeats 4000000 in
theorem c_X7_asBrewer (l : Launch) (u : dn_U) (hu : dn_Lu u = dn_LC) (a1 : Int32) (s : dn_S) : dn_Met l u yX7_asBrewer wsX7_asBrewer 3 63 [.ref (dn_a u 88), .int a1] s (m_X7_asBrewer a1 s) (dn_QI u) := by
  refine dt_entry RX7 [(0, .ref (dn_a u 88)), (1, .int a1)] (by decide +kernel) rfl rfl rfl rfl (fun g hgl X => ?_)
  subst hgl
  unfold m_X7_asBrewer
  refine dt_aload_n X 0 dX7_asBrewer_0 rfl rfl ?_
  refine dt_dup X dX7_asBrewer_1 rfl ?_
  refine dt_get X (T := TX7) (N := 3) (v := .long (dn_l s)) 2 (dn_h88 hu) rfl dn_in_X7_asBrewer_7 rfl rfl dn_fw_X7_asBrewer_39 rfl dX7_asBrewer_2 ?_
  refine dt_ldc2 X (v := 10) dX7_asBrewer_5 (by decide +kernel) ?_
  refine dt_ladd X dX7_asBrewer_8 ?_
  refine dt_putl X (T := TX7) (N := 3) 2 (dn_h88 hu) rfl dn_in_X7_asBrewer_7 rfl tyX7 tyX7_ok nmX7 rfl rfl dn_fw_X7_asBrewer_39 rfl rfl (dn_setq88 _ _ _) (dn_qz88 hu) dX7_asBrewer_9 (fun s1 => ?_)
  refine dt_aload_n X 0 dX7_asBrewer_12 rfl rfl ?_
  refine dt_iload_n X 1 dX7_asBrewer_13 rfl rfl ?_
  refine dt_callI X (dn_runV X (T := TX7) (N := 3) [.int a1] (dn_h88 hu) rfl rfl (c_X7_asBidder (dn_la g) u hu a1 s1) gX7_asBrewer_X7_asBidder rfl dn_hd_X7_asBidder rfl rfl rfl rfl dX7_asBrewer_14) (fun r4 s2 e3 => ?_)
  refine dt_aload_n X 0 dX7_asBrewer_17 rfl rfl ?_
  refine dt_get X (T := TX7) (N := 3) (v := .ref (dn_a u 3)) 0 (dn_h88 hu) rfl dn_in_X7_asBrewer_7 rfl rfl dn_fw_X7_asBrewer_9 rfl dX7_asBrewer_18 ?_
  refine dt_iload_n X 1 dX7_asBrewer_21 rfl rfl ?_
  refine dt_iconst X (v := 1) dX7_asBrewer_22 (by decide) ?_
  refine dt_callI X (dn_runV X (T := TX10) (N := 5) [.int a1, .int 1] (dn_hT hu dn_T3) rfl rfl (c_X10_ofBidder (dn_la g) u hu 3 a1 1 dn_T3 s2) gX7_asBrewer_X10_ofBidder rfl dn_hd_X10_ofBidder rfl rfl rfl rfl dX7_asBrewer_23) (fun r7 s5 e6 => ?_)
  refine dt_iadd X dX7_asBrewer_26 ?_
  exact dt_iret X dX7_asBrewer_27
set_option maxRecDepth 100000 in
set_option maxHeartbeats 4000000 in
theorem b_X7_owedYet_51 {g : dn_M} {u : dn_U} (hu : dn_Lu u = dn_LC) (X : dn_X u g cX7_owedYet wsX7_owedYet RX7 4 2 43 (some .int)) (K4 : Int32 → Int32 → Int32 → dn_S → Option (Int32 × dn_S)) (H4 : ∀ (y1 : Int32) (y2 : Int32) (y3 : Int32) (s : dn_S), dn_T u g 4 (dn_QI u) (K4 y1 y2 y3 s) s 4 [(0, .ref (dn_a u 88)), (1, .int y1), (2, .int y2), (3, .int y3)] []) (y1 : Int32) (y2 : Int32) (y3 : Int32) (s : dn_S) : dn_T u g 4 (dn_QI u) (m_X7_owedYet_51 K4 y1 y2 y3 s) s 51 [(0, .ref (dn_a u 88)), (1, .int y1), (2, .int y2), (3, .int y3)] [] := by
  unfold m_X7_owedYet_51
  refine dt_iinc X (v := y3 + 1) 3 [(3, .int (y3 + 1)), (0, .ref (dn_a u 88)), (1, .int y1), (2, .int y2)] dX7_owedYet_51 rfl (by rfl) rfl rfl ?_
  refine dt_ilet X rfl (fun x1 => ?_)
  refine dt_goto X 4 dX7_owedYet_54 (by decide) ?_
  refine dt_sub X [(0, .ref (dn_a u 88)), (1, .int y1), (2, .int y2), (3, .int x1)] [1, 2, 3, 0] rfl ?_
  exact H4 y1 y2 x1 s
set_option maxRecDepth 100000 in
set_option maxHeartbeats 4000000 in
theorem b_X7_owedYet_4 {g : dn_M} {u : dn_U} (hu : dn_Lu u = dn_LC) (X : dn_X u g cX7_owedYet wsX7_owedYet RX7 4 2 43 (some .int)) : ∀ (n : Nat) (y1 : Int32) (y2 : Int32) (y3 : Int32) (s : dn_S), dn_T u g 4 (dn_QI u) (m_X7_owedYet_4 n y1 y2 y3 s) s 4 [(0, .ref (dn_a u 88)), (1, .int y1), (2, .int y2), (3, .int y3)] [] := by
  intro n
  induction n with
  | zero =>
    intro y1 y2 y3 s
    exact dt_none X
  | succ n ih =>
    intro y1 y2 y3 s
    rw [m_X7_owedYet_4]
    refine dt_iload_n X 3 dX7_owedYet_4 rfl rfl ?_
    refine dt_aload_n X 0 dX7_owedYet_5 rfl rfl ?_
    refine dt_get X (T := TX7) (N := 3) (v := .ref (dn_a u 3)) 0 (dn_h88 hu) rfl dn_in_X7_owedYet_7 rfl rfl dn_fw_X7_owedYet_9 rfl dX7_owedYet_6 ?_
    refine dt_getN X (T := TX10) (N := 5) (v := .int (dn_g s 3 3)) 3 (dn_hT hu dn_T3) rfl dn_in_X7_owedYet_10 rfl rfl dn_fw_X7_owedYet_71 rfl dX7_owedYet_9 ?_
    refine dt_icmp_ge X 57 dX7_owedYet_12 (by decide) ?_ ?_
    · refine dt_iload_n X 2 dX7_owedYet_57 rfl rfl ?_
      exact dt_iret X dX7_owedYet_58
    · refine dt_aload_n X 0 dX7_owedYet_15 rfl rfl ?_
      refine dt_get X (T := TX7) (N := 3) (v := .ref (dn_a u 3)) 0 (dn_h88 hu) rfl dn_in_X7_owedYet_7 rfl rfl dn_fw_X7_owedYet_9 rfl dX7_owedYet_16 ?_
      refine dt_iload_n X 3 dX7_owedYet_19 rfl rfl ?_
      refine dt_iconst X (v := 0) dX7_owedYet_20 (by decide) ?_
      refine dt_callI X (dn_runV X (T := TX10) (N := 5) [.int y3, .int 0] (dn_hT hu dn_T3) rfl rfl (c_X10_ofDebt (dn_la g) u hu 3 y3 0 dn_T3 s) gX7_owedYet_X10_ofDebt rfl dn_hd_X10_ofDebt rfl rfl rfl rfl dX7_owedYet_21) (fun r3 s1 e2 => ?_)
      refine dt_iload_n X 1 dX7_owedYet_24 rfl rfl ?_
      refine dt_icmp_ne X 51 dX7_owedYet_25 (by decide) ?_ ?_
      · refine dt_sub X [(0, .ref (dn_a u 88)), (1, .int y1), (2, .int y2), (3, .int y3)] [0, 1, 2, 3] rfl ?_
        exact b_X7_owedYet_51 hu X (m_X7_owedYet_4 n) ih y1 y2 y3 s1
      · refine dt_aload_n X 0 dX7_owedYet_28 rfl rfl ?_
        refine dt_get X (T := TX7) (N := 3) (v := .ref (dn_a u 10)) 1 (dn_h88 hu) rfl dn_in_X7_owedYet_7 rfl rfl dn_fw_X7_owedYet_15 rfl dX7_owedYet_29 ?_
        refine dt_iload_n X 3 dX7_owedYet_32 rfl rfl ?_
        refine dt_callI X (dn_runV X (T := TX3) (N := 8) [.int y3] (dn_hM hu dn_M10) rfl rfl (c_X3_howIs (dn_la g) u hu 10 y3 dn_M10 s1) gX7_owedYet_X3_howIs rfl dn_hd_X3_howIs rfl rfl rfl rfl dX7_owedYet_33) (fun r6 s4 e5 => ?_)
        refine dt_if_ne X 51 dX7_owedYet_36 (by decide) ?_ ?_
        · refine dt_sub X [(0, .ref (dn_a u 88)), (1, .int y1), (2, .int y2), (3, .int y3)] [0, 1, 2, 3] rfl ?_
          exact b_X7_owedYet_51 hu X (m_X7_owedYet_4 n) ih y1 y2 y3 s4
        · refine dt_iload_n X 2 dX7_owedYet_39 rfl rfl ?_
          refine dt_aload_n X 0 dX7_owedYet_40 rfl rfl ?_
          refine dt_get X (T := TX7) (N := 3) (v := .ref (dn_a u 3)) 0 (dn_h88 hu) rfl dn_in_X7_owedYet_7 rfl rfl dn_fw_X7_owedYet_9 rfl dX7_owedYet_41 ?_
          refine dt_iload_n X 3 dX7_owedYet_44 rfl rfl ?_
          refine dt_iconst X (v := 2) dX7_owedYet_45 (by decide) ?_
          refine dt_callI X (dn_runV X (T := TX10) (N := 5) [.int y3, .int 2] (dn_hT hu dn_T3) rfl rfl (c_X10_ofDebt (dn_la g) u hu 3 y3 2 dn_T3 s4) gX7_owedYet_X10_ofDebt rfl dn_hd_X10_ofDebt rfl rfl rfl rfl dX7_owedYet_46) (fun r9 s7 e8 => ?_)
          refine dt_iadd X dX7_owedYet_49 ?_
          refine dt_let X (fun x10 => ?_)
          refine dt_istore_n X [(2, .int x10), (0, .ref (dn_a u 88)), (1, .int y1), (3, .int y3)] dX7_owedYet_50 rfl rfl rfl ?_
          refine dt_sub X [(0, .ref (dn_a u 88)), (1, .int y1), (2, .int x10), (3, .int y3)] [1, 2, 0, 3] rfl ?_
          exact b_X7_owedYet_51 hu X (m_X7_owedYet_4 n) ih y1 x10 y3 s7
set_option maxRecDepth 100000 in
set_option maxHeartbeats 4000000 in
theorem c_X7_owedYet (l : Launch) (u : dn_U) (hu : dn_Lu u = dn_LC) (a1 : Int32) (s : dn_S) : dn_Met l u yX7_owedYet wsX7_owedYet 2 43 [.ref (dn_a u 88), .int a1] s (m_X7_owedYet a1 s) (dn_QI u) := by
  refine dt_entry RX7 [(0, .ref (dn_a u 88)), (1, .int a1)] (by decide +kernel) rfl rfl rfl rfl (fun g hgl X => ?_)
  subst hgl
  unfold m_X7_owedYet
  refine dt_iconst X (v := 0) dX7_owedYet_0 (by decide) ?_
  refine dt_istore_n X [(2, .int 0), (0, .ref (dn_a u 88)), (1, .int a1)] dX7_owedYet_1 rfl rfl rfl ?_
  refine dt_iconst X (v := 0) dX7_owedYet_2 (by decide) ?_
  refine dt_istore_n X [(3, .int 0), (2, .int 0), (0, .ref (dn_a u 88)), (1, .int a1)] dX7_owedYet_3 rfl rfl rfl ?_
  refine dt_sub X [(0, .ref (dn_a u 88)), (1, .int a1), (2, .int 0), (3, .int 0)] [2, 3, 1, 0] rfl ?_
  exact b_X7_owedYet_4 hu X 2048 a1 0 0 s
set_option maxRecDepth 100000 in
set_option maxHeartbeats 4000000 in
theorem c_X7_asLover (l : Launch) (u : dn_U) (hu : dn_Lu u = dn_LC) (a1 : Int32) (s : dn_S) : dn_Met l u yX7_asLover wsX7_asLover 3 66 [.ref (dn_a u 88), .int a1] s (m_X7_asLover a1 s) (dn_QI u) := by
  refine dt_entry RX7 [(0, .ref (dn_a u 88)), (1, .int a1)] (by decide +kernel) rfl rfl rfl rfl (fun g hgl X => ?_)
  subst hgl
  unfold m_X7_asLover
  refine dt_aload_n X 0 dX7_asLover_0 rfl rfl ?_
  refine dt_dup X dX7_asLover_1 rfl ?_
  refine dt_get X (T := TX7) (N := 3) (v := .long (dn_l s)) 2 (dn_h88 hu) rfl dn_in_X7_asLover_7 rfl rfl dn_fw_X7_asLover_39 rfl dX7_asLover_2 ?_
  refine dt_ldc2 X (v := 100) dX7_asLover_5 (by decide +kernel) ?_
  refine dt_ladd X dX7_asLover_8 ?_
  refine dt_putl X (T := TX7) (N := 3) 2 (dn_h88 hu) rfl dn_in_X7_asLover_7 rfl tyX7 tyX7_ok nmX7 rfl rfl dn_fw_X7_asLover_39 rfl rfl (dn_setq88 _ _ _) (dn_qz88 hu) dX7_asLover_9 (fun s1 => ?_)
  refine dt_aload_n X 0 dX7_asLover_12 rfl rfl ?_
  refine dt_iload_n X 1 dX7_asLover_13 rfl rfl ?_
  refine dt_callI X (dn_runV X (T := TX7) (N := 3) [.int a1] (dn_h88 hu) rfl rfl (c_X7_asBidder (dn_la g) u hu a1 s1) gX7_asLover_X7_asBidder rfl dn_hd_X7_asBidder rfl rfl rfl rfl dX7_asLover_14) (fun r4 s2 e3 => ?_)
  refine dt_aload_n X 0 dX7_asLover_17 rfl rfl ?_
  refine dt_iload_n X 1 dX7_asLover_18 rfl rfl ?_
  refine dt_callI X (dn_runV X (T := TX7) (N := 3) [.int a1] (dn_h88 hu) rfl rfl (c_X7_owedYet (dn_la g) u hu a1 s2) gX7_asLover_X7_owedYet rfl dn_hd_X7_owedYet rfl rfl rfl rfl dX7_asLover_19) (fun r7 s5 e6 => ?_)
  refine dt_isub X dX7_asLover_22 ?_
  exact dt_iret X dX7_asLover_23
set_option maxRecDepth 100000 in
set_option maxHeartbeats 4000000 in
theorem c_X7_asRival (l : Launch) (u : dn_U) (hu : dn_Lu u = dn_LC) (a1 : Int32) (s : dn_S) : dn_Met l u yX7_asRival wsX7_asRival 4 84 [.ref (dn_a u 88), .int a1] s (m_X7_asRival a1 s) (dn_QI u) := by
  refine dt_entry RX7 [(0, .ref (dn_a u 88)), (1, .int a1)] (by decide +kernel) rfl rfl rfl rfl (fun g hgl X => ?_)
  subst hgl
  unfold m_X7_asRival
  refine dt_aload_n X 0 dX7_asRival_0 rfl rfl ?_
  refine dt_dup X dX7_asRival_1 rfl ?_
  refine dt_get X (T := TX7) (N := 3) (v := .long (dn_l s)) 2 (dn_h88 hu) rfl dn_in_X7_asRival_7 rfl rfl dn_fw_X7_asRival_39 rfl dX7_asRival_2 ?_
  refine dt_ldc2 X (v := 1000) dX7_asRival_5 (by decide +kernel) ?_
  refine dt_ladd X dX7_asRival_8 ?_
  refine dt_putl X (T := TX7) (N := 3) 2 (dn_h88 hu) rfl dn_in_X7_asRival_7 rfl tyX7 tyX7_ok nmX7 rfl rfl dn_fw_X7_asRival_39 rfl rfl (dn_setq88 _ _ _) (dn_qz88 hu) dX7_asRival_9 (fun s1 => ?_)
  refine dt_iconst X (v := 2) dX7_asRival_12 (by decide) ?_
  refine dt_aload_n X 0 dX7_asRival_13 rfl rfl ?_
  refine dt_iload_n X 1 dX7_asRival_14 rfl rfl ?_
  refine dt_callI X (dn_runV X (T := TX7) (N := 3) [.int a1] (dn_h88 hu) rfl rfl (c_X7_asBrewer (dn_la g) u hu a1 s1) gX7_asRival_X7_asBrewer rfl dn_hd_X7_asBrewer rfl rfl rfl rfl dX7_asRival_15) (fun r4 s2 e3 => ?_)
  refine dt_imul X dX7_asRival_18 ?_
  exact dt_iret X dX7_asRival_19
set_option maxRecDepth 100000 in
set_option maxHeartbeats 4000000 in
theorem c_X7_asPoet (l : Launch) (u : dn_U) (hu : dn_Lu u = dn_LC) (a1 : Int32) (s : dn_S) : dn_Met l u yX7_asPoet wsX7_asPoet 4 87 [.ref (dn_a u 88), .int a1] s (m_X7_asPoet a1 s) (dn_QI u) := by
  refine dt_entry RX7 [(0, .ref (dn_a u 88)), (1, .int a1)] (by decide +kernel) rfl rfl rfl rfl (fun g hgl X => ?_)
  subst hgl
  unfold m_X7_asPoet
  refine dt_aload_n X 0 dX7_asPoet_0 rfl rfl ?_
  refine dt_dup X dX7_asPoet_1 rfl ?_
  refine dt_get X (T := TX7) (N := 3) (v := .long (dn_l s)) 2 (dn_h88 hu) rfl dn_in_X7_asPoet_7 rfl rfl dn_fw_X7_asPoet_39 rfl dX7_asPoet_2 ?_
  refine dt_ldc2 X (v := 10000) dX7_asPoet_5 (by decide +kernel) ?_
  refine dt_ladd X dX7_asPoet_8 ?_
  refine dt_putl X (T := TX7) (N := 3) 2 (dn_h88 hu) rfl dn_in_X7_asPoet_7 rfl tyX7 tyX7_ok nmX7 rfl rfl dn_fw_X7_asPoet_39 rfl rfl (dn_setq88 _ _ _) (dn_qz88 hu) dX7_asPoet_9 (fun s1 => ?_)
  refine dt_aload_n X 0 dX7_asPoet_12 rfl rfl ?_
  refine dt_iload_n X 1 dX7_asPoet_13 rfl rfl ?_
  refine dt_callI X (dn_runV X (T := TX7) (N := 3) [.int a1] (dn_h88 hu) rfl rfl (c_X7_asLover (dn_la g) u hu a1 s1) gX7_asPoet_X7_asLover rfl dn_hd_X7_asLover rfl rfl rfl rfl dX7_asPoet_14) (fun r4 s2 e3 => ?_)
  refine dt_iload_n X 1 dX7_asPoet_17 rfl rfl ?_
  refine dt_iadd X dX7_asPoet_18 ?_
  exact dt_iret X dX7_asPoet_19
set_option maxRecDepth 100000 in
set_option maxHeartbeats 4000000 in
theorem c_X7_asHeir (l : Launch) (u : dn_U) (hu : dn_Lu u = dn_LC) (a1 : Int32) (s : dn_S) : dn_Met l u yX7_asHeir wsX7_asHeir 3 63 [.ref (dn_a u 88), .int a1] s (m_X7_asHeir a1 s) (dn_QI u) := by
  refine dt_entry RX7 [(0, .ref (dn_a u 88)), (1, .int a1)] (by decide +kernel) rfl rfl rfl rfl (fun g hgl X => ?_)
  subst hgl
  unfold m_X7_asHeir
  refine dt_aload_n X 0 dX7_asHeir_0 rfl rfl ?_
  refine dt_dup X dX7_asHeir_1 rfl ?_
  refine dt_get X (T := TX7) (N := 3) (v := .long (dn_l s)) 2 (dn_h88 hu) rfl dn_in_X7_asHeir_7 rfl rfl dn_fw_X7_asHeir_39 rfl dX7_asHeir_2 ?_
  refine dt_ldc2 X (v := 100000) dX7_asHeir_5 (by decide +kernel) ?_
  refine dt_ladd X dX7_asHeir_8 ?_
  refine dt_putl X (T := TX7) (N := 3) 2 (dn_h88 hu) rfl dn_in_X7_asHeir_7 rfl tyX7 tyX7_ok nmX7 rfl rfl dn_fw_X7_asHeir_39 rfl rfl (dn_setq88 _ _ _) (dn_qz88 hu) dX7_asHeir_9 (fun s1 => ?_)
  refine dt_aload_n X 0 dX7_asHeir_12 rfl rfl ?_
  refine dt_iload_n X 1 dX7_asHeir_13 rfl rfl ?_
  refine dt_callI X (dn_runV X (T := TX7) (N := 3) [.int a1] (dn_h88 hu) rfl rfl (c_X7_asBidder (dn_la g) u hu a1 s1) gX7_asHeir_X7_asBidder rfl dn_hd_X7_asBidder rfl rfl rfl rfl dX7_asHeir_14) (fun r4 s2 e3 => ?_)
  refine dt_aload_n X 0 dX7_asHeir_17 rfl rfl ?_
  refine dt_get X (T := TX7) (N := 3) (v := .ref (dn_a u 10)) 1 (dn_h88 hu) rfl dn_in_X7_asHeir_7 rfl rfl dn_fw_X7_asHeir_15 rfl dX7_asHeir_18 ?_
  refine dt_getN X (T := TX3) (N := 8) (v := .int (dn_g s2 10 3)) 3 (dn_hM hu dn_M10) rfl dn_in_X7_asHeir_3 rfl rfl dn_fw_X7_asHeir_67 rfl dX7_asHeir_21 ?_
  refine dt_iadd X dX7_asHeir_24 ?_
  exact dt_iret X dX7_asHeir_25
set_option maxRecDepth 100000 in
set_option maxHeartbeats 4000000 in
theorem c_X7_asIf (l : Launch) (u : dn_U) (hu : dn_Lu u = dn_LC) (a1 : Int32) (a2 : Int32) (s : dn_S) : dn_Met l u yX7_asIf wsX7_asIf 5 108 [.ref (dn_a u 88), .int a1, .int a2] s (m_X7_asIf a1 a2 s) (dn_QI u) := by
  refine dt_entry RX7 [(0, .ref (dn_a u 88)), (1, .int a1), (2, .int a2)] (by decide +kernel) rfl rfl rfl rfl (fun g hgl X => ?_)
  subst hgl
  unfold m_X7_asIf
  refine dt_iload_n X 1 dX7_asIf_0 rfl rfl ?_
  refine dt_case X (c0 := 0) (fun h1 => ?_) (fun h1 => ?_)
  · refine dt_tabIn X 0 40 dX7_asIf_1 (by rw [h1]; rfl) rfl rfl rfl (by decide) ?_
    refine dt_aload_n X 0 dX7_asIf_40 rfl rfl ?_
    refine dt_iload_n X 2 dX7_asIf_41 rfl rfl ?_
    refine dt_callI X (dn_runV X (T := TX7) (N := 3) [.int a2] (dn_h88 hu) rfl rfl (c_X7_asBidder (dn_la g) u hu a2 s) gX7_asIf_X7_asBidder rfl dn_hd_X7_asBidder rfl rfl rfl rfl dX7_asIf_42) (fun r4 s2 e3 => ?_)
    exact dt_iret X dX7_asIf_45
  refine dt_case X (c0 := 1) (fun h5 => ?_) (fun h5 => ?_)
  · refine dt_tabIn X 1 46 dX7_asIf_1 (by rw [h5]; rfl) rfl rfl rfl (by decide) ?_
    refine dt_aload_n X 0 dX7_asIf_46 rfl rfl ?_
    refine dt_iload_n X 2 dX7_asIf_47 rfl rfl ?_
    refine dt_callI X (dn_runV X (T := TX7) (N := 3) [.int a2] (dn_h88 hu) rfl rfl (c_X7_asBrewer (dn_la g) u hu a2 s) gX7_asIf_X7_asBrewer rfl dn_hd_X7_asBrewer rfl rfl rfl rfl dX7_asIf_48) (fun r8 s6 e7 => ?_)
    exact dt_iret X dX7_asIf_51
  refine dt_case X (c0 := 2) (fun h9 => ?_) (fun h9 => ?_)
  · refine dt_tabIn X 2 52 dX7_asIf_1 (by rw [h9]; rfl) rfl rfl rfl (by decide) ?_
    refine dt_aload_n X 0 dX7_asIf_52 rfl rfl ?_
    refine dt_iload_n X 2 dX7_asIf_53 rfl rfl ?_
    refine dt_callI X (dn_runV X (T := TX7) (N := 3) [.int a2] (dn_h88 hu) rfl rfl (c_X7_asLover (dn_la g) u hu a2 s) gX7_asIf_X7_asLover rfl dn_hd_X7_asLover rfl rfl rfl rfl dX7_asIf_54) (fun r12 s10 e11 => ?_)
    exact dt_iret X dX7_asIf_57
  refine dt_case X (c0 := 3) (fun h13 => ?_) (fun h13 => ?_)
  · refine dt_tabIn X 3 58 dX7_asIf_1 (by rw [h13]; rfl) rfl rfl rfl (by decide) ?_
    refine dt_aload_n X 0 dX7_asIf_58 rfl rfl ?_
    refine dt_iload_n X 2 dX7_asIf_59 rfl rfl ?_
    refine dt_callI X (dn_runV X (T := TX7) (N := 3) [.int a2] (dn_h88 hu) rfl rfl (c_X7_asRival (dn_la g) u hu a2 s) gX7_asIf_X7_asRival rfl dn_hd_X7_asRival rfl rfl rfl rfl dX7_asIf_60) (fun r16 s14 e15 => ?_)
    exact dt_iret X dX7_asIf_63
  refine dt_case X (c0 := 4) (fun h17 => ?_) (fun h17 => ?_)
  · refine dt_tabIn X 4 64 dX7_asIf_1 (by rw [h17]; rfl) rfl rfl rfl (by decide) ?_
    refine dt_aload_n X 0 dX7_asIf_64 rfl rfl ?_
    refine dt_iload_n X 2 dX7_asIf_65 rfl rfl ?_
    refine dt_callI X (dn_runV X (T := TX7) (N := 3) [.int a2] (dn_h88 hu) rfl rfl (c_X7_asPoet (dn_la g) u hu a2 s) gX7_asIf_X7_asPoet rfl dn_hd_X7_asPoet rfl rfl rfl rfl dX7_asIf_66) (fun r20 s18 e19 => ?_)
    exact dt_iret X dX7_asIf_69
  refine dt_case X (c0 := 5) (fun h21 => ?_) (fun h21 => ?_)
  · refine dt_tabIn X 5 70 dX7_asIf_1 (by rw [h21]; rfl) rfl rfl rfl (by decide) ?_
    refine dt_aload_n X 0 dX7_asIf_70 rfl rfl ?_
    refine dt_iload_n X 2 dX7_asIf_71 rfl rfl ?_
    refine dt_callI X (dn_runV X (T := TX7) (N := 3) [.int a2] (dn_h88 hu) rfl rfl (c_X7_asHeir (dn_la g) u hu a2 s) gX7_asIf_X7_asHeir rfl dn_hd_X7_asHeir rfl rfl rfl rfl dX7_asIf_72) (fun r24 s22 e23 => ?_)
    exact dt_iret X dX7_asIf_75
  refine dt_tabOut X 76 dX7_asIf_1 (dn_out_0_5 h1 h5 h9 h13 h17 h21) (by decide) ?_
  refine dt_ldc X (v := -1000000) dX7_asIf_76 (by decide +kernel) ?_
  exact dt_iret X dX7_asIf_78
set_option maxRecDepth 100000 in
set_option maxHeartbeats 4000000 in
theorem c_X11_rate (l : Launch) (u : dn_U) (hu : dn_Lu u = dn_LC) (a1 : Int32) (a2 : Int32) (s : dn_S) : dn_Met l u yX11_rate wsX11_rate 6 130 [.ref (dn_a u 0), .int a1, .int a2] s (m_X11_rate a1 a2 s) (dn_QI u) := by
  refine dt_entry RX11 [(0, .ref (dn_a u 0)), (1, .int a1), (2, .int a2)] (by decide +kernel) rfl rfl rfl rfl (fun g hgl X => ?_)
  subst hgl
  unfold m_X11_rate
  refine dt_aload_n X 0 dX11_rate_0 rfl rfl ?_
  refine dt_iload_n X 2 dX11_rate_1 rfl rfl ?_
  refine dt_callZ X (dn_runV X (T := TX11) (N := 10) [.int a2] (dn_h0 hu) rfl rfl (c_X11_isBidder (dn_la g) u hu a2 s) gX11_rate_X11_isBidder rfl dn_hd_X11_isBidder rfl rfl rfl rfl dX11_rate_2) (fun r3 s1 e2 => ?_)
  refine dt_if_eqb X 20 dX11_rate_5 (by decide) ?_ ?_
  · refine dt_ldc X (v := -1000000) dX11_rate_20 (by decide +kernel) ?_
    exact dt_iret X dX11_rate_22
  · refine dt_aload_n X 0 dX11_rate_8 rfl rfl ?_
    refine dt_get X (T := TX11) (N := 10) (v := .ref (dn_a u 88)) 9 (dn_h0 hu) rfl dn_in_X11_rate_11 rfl rfl dn_fw_X11_rate_85 rfl dX11_rate_9 ?_
    refine dt_iload_n X 1 dX11_rate_12 rfl rfl ?_
    refine dt_iload_n X 2 dX11_rate_13 rfl rfl ?_
    refine dt_callI X (dn_runV X (T := TX7) (N := 3) [.int a1, .int a2] (dn_h88 hu) rfl rfl (c_X7_asIf (dn_la g) u hu a1 a2 s1) gX11_rate_X7_asIf rfl dn_hd_X7_asIf rfl rfl rfl rfl dX11_rate_14) (fun r6 s4 e5 => ?_)
    refine dt_goto X 22 dX11_rate_17 (by decide) ?_
    exact dt_iret X dX11_rate_22
set_option maxRecDepth 100000 in
set_option maxHeartbeats 4000000 in
theorem c_X6_keepImage (l : Launch) (u : dn_U) (hu : dn_Lu u = dn_LC) (a1 : Int32) (k2 : Nat) (h2 : dn_isM k2) (s : dn_S) : dn_Met l u yX6_keepImage wsX6_keepImage 2 43 [.ref (dn_a u 36), .int a1, .ref (dn_a u k2)] s (m_X6_keepImage a1 k2 s) (dn_QV u) := by
  refine dt_entry RX6 [(0, .ref (dn_a u 36)), (1, .int a1), (2, .ref (dn_a u k2))] (by decide +kernel) rfl rfl rfl rfl (fun g hgl X => ?_)
  subst hgl
  unfold m_X6_keepImage
  refine dt_aload_n X 0 dX6_keepImage_0 rfl rfl ?_
  refine dt_get X (T := TX6) (N := 5) (v := .ref (dn_a u 38)) 1 (dn_h36 hu) rfl dn_in_X6_keepImage_6 rfl rfl dn_fw_X6_keepImage_17 rfl dX6_keepImage_1 ?_
  refine dt_iload_n X 1 dX6_keepImage_4 rfl rfl ?_
  refine dt_callR X (dn_runS X [.ref (dn_a u 38), .int a1] (c_X6_momentAt (dn_la g) u hu 38 2 a1 (dn_h38 hu) s) gX6_keepImage_X6_momentAt rfl dn_hs_X6_momentAt rfl rfl rfl rfl dX6_keepImage_5) (fun r3 s1 e2 => ?_)
  refine dt_astore_n X [(3, .ref (dn_a u (dn_rb 38 + 4 * a1.toNatClampNeg))), (0, .ref (dn_a u 36)), (1, .int a1), (2, .ref (dn_a u k2))] dX6_keepImage_8 rfl rfl rfl ?_
  refine dt_aload_n X 0 dX6_keepImage_9 rfl rfl ?_
  refine dt_ifnull X dX6_keepImage_10 ?_
  refine dt_iload_n X 2 dX6_keepImage_13 rfl rfl ?_
  refine dt_aload_n X 1 dX6_keepImage_14 rfl rfl ?_
  refine dt_get X (T := TX6) (N := 5) (v := .ref (dn_a u 39)) 2 (dn_h36 hu) rfl dn_in_X6_keepImage_6 rfl rfl dn_fw_X6_keepImage_20 rfl dX6_keepImage_15 ?_
  refine dt_alenZ X (dn_h39 hu) dX6_keepImage_18 rfl ?_
  refine dt_icmp_lt X 23 dX6_keepImage_19 (by decide) ?_ ?_
  · refine dt_aload_n X 0 dX6_keepImage_23 rfl rfl ?_
    refine dt_aload_n X 3 dX6_keepImage_24 rfl rfl ?_
    refine dt_callV X (dn_runV X (T := TX3) (N := 8) [.ref (dn_a u k2)] (dn_hM hu (dn_Mst38 e2)) rfl rfl (c_X3_copyFrom (dn_la g) u hu (dn_rb 38 + 4 * a1.toNatClampNeg) k2 (dn_Mst38 e2) h2 s1) gX6_keepImage_X3_copyFrom rfl dn_hd_X3_copyFrom rfl rfl rfl rfl dX6_keepImage_25) (fun r6 s4 e5 => ?_)
    refine dt_aload_n X 1 dX6_keepImage_28 rfl rfl ?_
    refine dt_get X (T := TX6) (N := 5) (v := .ref (dn_a u 39)) 2 (dn_h36 hu) rfl dn_in_X6_keepImage_6 rfl rfl dn_fw_X6_keepImage_20 rfl dX6_keepImage_29 ?_
    refine dt_iload_n X 2 dX6_keepImage_32 rfl rfl ?_
    refine dt_iconst X (v := 1) dX6_keepImage_33 (by decide) ?_
    refine dt_zast X (v := true) (dn_h39 hu) dX6_keepImage_34 (fun s7 => ?_)
    exact dt_vret X dX6_keepImage_35
  · exact dt_vret X dX6_keepImage_22
set_option maxRecDepth 100000 in
set_option maxHeartbeats 4000000 in
theorem c_X11_keep (l : Launch) (u : dn_U) (hu : dn_Lu u = dn_LC) (a1 : Int32) (s : dn_S) : dn_Met l u yX11_keep wsX11_keep 3 66 [.ref (dn_a u 0), .int a1] s (m_X11_keep a1 s) (dn_QI u) := by
  refine dt_entry RX11 [(0, .ref (dn_a u 0)), (1, .int a1)] (by decide +kernel) rfl rfl rfl rfl (fun g hgl X => ?_)
  subst hgl
  unfold m_X11_keep
  refine dt_iload_n X 1 dX11_keep_0 rfl rfl ?_
  refine dt_iconst X (v := 0) dX11_keep_1 (by decide) ?_
  refine dt_iconst X (v := 1) dX11_keep_2 (by decide) ?_
  refine dt_callZ X (dn_runS X [.int a1, .int 0, .int 1] (c_X11_within (dn_la g) u hu a1 0 1 s) gX11_keep_X11_within rfl dn_hs_X11_within rfl rfl rfl rfl dX11_keep_3) (fun r3 s1 e2 => ?_)
  refine dt_if_neb X 11 dX11_keep_6 (by decide) ?_ ?_
  · refine dt_aload_n X 0 dX11_keep_11 rfl rfl ?_
    refine dt_get X (T := TX11) (N := 10) (v := .ref (dn_a u 36)) 8 (dn_h0 hu) rfl dn_in_X11_keep_11 rfl rfl dn_fw_X11_keep_76 rfl dX11_keep_12 ?_
    refine dt_iload_n X 1 dX11_keep_15 rfl rfl ?_
    refine dt_aload_n X 0 dX11_keep_16 rfl rfl ?_
    refine dt_get X (T := TX11) (N := 10) (v := .ref (dn_a u 10)) 3 (dn_h0 hu) rfl dn_in_X11_keep_11 rfl rfl dn_fw_X11_keep_35 rfl dX11_keep_17 ?_
    refine dt_callV X (dn_runV X (T := TX6) (N := 5) [.int a1, .ref (dn_a u 10)] (dn_h36 hu) rfl rfl (c_X6_keepImage (dn_la g) u hu a1 10 dn_M10 s1) gX11_keep_X6_keepImage rfl dn_hd_X6_keepImage rfl rfl rfl rfl dX11_keep_20) (fun r6 s4 e5 => ?_)
    refine dt_aload_n X 0 dX11_keep_23 rfl rfl ?_
    refine dt_get X (T := TX11) (N := 10) (v := .ref (dn_a u 10)) 3 (dn_h0 hu) rfl dn_in_X11_keep_11 rfl rfl dn_fw_X11_keep_35 rfl dX11_keep_24 ?_
    refine dt_getN X (T := TX3) (N := 8) (v := .int (dn_g s4 10 3)) 3 (dn_hM hu dn_M10) rfl dn_in_X11_keep_3 rfl rfl dn_fw_X11_keep_143 rfl dX11_keep_27 ?_
    exact dt_iret X dX11_keep_30
  · refine dt_iconst X (v := -1) dX11_keep_9 (by decide) ?_
    exact dt_iret X dX11_keep_10
set_option maxRecDepth 100000 in
set_option maxHeartbeats 4000000 in
theorem c_X6_backTo (l : Launch) (u : dn_U) (hu : dn_Lu u = dn_LC) (a1 : Int32) (k2 : Nat) (h2 : dn_isM k2) (s : dn_S) : dn_Met l u yX6_backTo wsX6_backTo 2 43 [.ref (dn_a u 36), .int a1, .ref (dn_a u k2)] s (m_X6_backTo a1 k2 s) (dn_QZ u) := by
  refine dt_entry RX6 [(0, .ref (dn_a u 36)), (1, .int a1), (2, .ref (dn_a u k2))] (by decide +kernel) rfl rfl rfl rfl (fun g hgl X => ?_)
  subst hgl
  unfold m_X6_backTo
  refine dt_aload_n X 0 dX6_backTo_0 rfl rfl ?_
  refine dt_get X (T := TX6) (N := 5) (v := .ref (dn_a u 38)) 1 (dn_h36 hu) rfl dn_in_X6_backTo_6 rfl rfl dn_fw_X6_backTo_17 rfl dX6_backTo_1 ?_
  refine dt_iload_n X 1 dX6_backTo_4 rfl rfl ?_
  refine dt_callR X (dn_runS X [.ref (dn_a u 38), .int a1] (c_X6_momentAt (dn_la g) u hu 38 2 a1 (dn_h38 hu) s) gX6_backTo_X6_momentAt rfl dn_hs_X6_momentAt rfl rfl rfl rfl dX6_backTo_5) (fun r3 s1 e2 => ?_)
  refine dt_astore_n X [(3, .ref (dn_a u (dn_rb 38 + 4 * a1.toNatClampNeg))), (0, .ref (dn_a u 36)), (1, .int a1), (2, .ref (dn_a u k2))] dX6_backTo_8 rfl rfl rfl ?_
  refine dt_aload_n X 0 dX6_backTo_9 rfl rfl ?_
  refine dt_ifnull X dX6_backTo_10 ?_
  refine dt_iload_n X 2 dX6_backTo_13 rfl rfl ?_
  refine dt_aload_n X 1 dX6_backTo_14 rfl rfl ?_
  refine dt_get X (T := TX6) (N := 5) (v := .ref (dn_a u 39)) 2 (dn_h36 hu) rfl dn_in_X6_backTo_6 rfl rfl dn_fw_X6_backTo_20 rfl dX6_backTo_15 ?_
  refine dt_alenZ X (dn_h39 hu) dX6_backTo_18 rfl ?_
  refine dt_icmp_ge X 31 dX6_backTo_19 (by decide) ?_ ?_
  · refine dt_iconst X (v := 0) dX6_backTo_31 (by decide) ?_
    exact dt_zret (v := false) X dX6_backTo_32
  · refine dt_aload_n X 1 dX6_backTo_22 rfl rfl ?_
    refine dt_get X (T := TX6) (N := 5) (v := .ref (dn_a u 39)) 2 (dn_h36 hu) rfl dn_in_X6_backTo_6 rfl rfl dn_fw_X6_backTo_20 rfl dX6_backTo_23 ?_
    refine dt_iload_n X 2 dX6_backTo_26 rfl rfl ?_
    refine dt_zald X (dn_h39 hu) dX6_backTo_27 ?_
    refine dt_if_ne X 33 dX6_backTo_28 (by decide) ?_ ?_
    · refine dt_aload_n X 3 dX6_backTo_33 rfl rfl ?_
      refine dt_aload_n X 0 dX6_backTo_34 rfl rfl ?_
      refine dt_callV X (dn_runV X (T := TX3) (N := 8) [.ref (dn_a u (dn_rb 38 + 4 * a1.toNatClampNeg))] (dn_hM hu h2) rfl rfl (c_X3_copyFrom (dn_la g) u hu k2 (dn_rb 38 + 4 * a1.toNatClampNeg) h2 (dn_Mst38 e2) s1) gX6_backTo_X3_copyFrom rfl dn_hd_X3_copyFrom rfl rfl rfl rfl dX6_backTo_35) (fun r6 s4 e5 => ?_)
      refine dt_aload_n X 1 dX6_backTo_38 rfl rfl ?_
      refine dt_iconst X (v := 0) dX6_backTo_39 (by decide) ?_
      refine dt_put X (T := TX6) (N := 5) 4 (dn_h36 hu) rfl dn_in_X6_backTo_6 rfl tyX6 tyX6_ok nmX6 rfl rfl dn_fw_X6_backTo_25 rfl rfl (dn_set36_4 _ _ _) dX6_backTo_40 (fun s7 => ?_)
      refine dt_iconst X (v := 1) dX6_backTo_43 (by decide) ?_
      exact dt_zret (v := true) X dX6_backTo_44
    · refine dt_iconst X (v := 0) dX6_backTo_31 (by decide) ?_
      exact dt_zret (v := false) X dX6_backTo_32
set_option maxRecDepth 100000 in
set_option maxHeartbeats 4000000 in
theorem c_X11_back (l : Launch) (u : dn_U) (hu : dn_Lu u = dn_LC) (a1 : Int32) (s : dn_S) : dn_Met l u yX11_back wsX11_back 3 66 [.ref (dn_a u 0), .int a1] s (m_X11_back a1 s) (dn_QI u) := by
  refine dt_entry RX11 [(0, .ref (dn_a u 0)), (1, .int a1)] (by decide +kernel) rfl rfl rfl rfl (fun g hgl X => ?_)
  subst hgl
  unfold m_X11_back
  refine dt_iload_n X 1 dX11_back_0 rfl rfl ?_
  refine dt_iconst X (v := 0) dX11_back_1 (by decide) ?_
  refine dt_iconst X (v := 1) dX11_back_2 (by decide) ?_
  refine dt_callZ X (dn_runS X [.int a1, .int 0, .int 1] (c_X11_within (dn_la g) u hu a1 0 1 s) gX11_back_X11_within rfl dn_hs_X11_within rfl rfl rfl rfl dX11_back_3) (fun r3 s1 e2 => ?_)
  refine dt_if_neb X 11 dX11_back_6 (by decide) ?_ ?_
  · refine dt_aload_n X 0 dX11_back_11 rfl rfl ?_
    refine dt_get X (T := TX11) (N := 10) (v := .ref (dn_a u 36)) 8 (dn_h0 hu) rfl dn_in_X11_back_11 rfl rfl dn_fw_X11_back_76 rfl dX11_back_12 ?_
    refine dt_iload_n X 1 dX11_back_15 rfl rfl ?_
    refine dt_aload_n X 0 dX11_back_16 rfl rfl ?_
    refine dt_get X (T := TX11) (N := 10) (v := .ref (dn_a u 10)) 3 (dn_h0 hu) rfl dn_in_X11_back_11 rfl rfl dn_fw_X11_back_35 rfl dX11_back_17 ?_
    refine dt_callZ X (dn_runV X (T := TX6) (N := 5) [.int a1, .ref (dn_a u 10)] (dn_h36 hu) rfl rfl (c_X6_backTo (dn_la g) u hu a1 10 dn_M10 s1) gX11_back_X6_backTo rfl dn_hd_X6_backTo rfl rfl rfl rfl dX11_back_20) (fun r6 s4 e5 => ?_)
    refine dt_if_eqb X 36 dX11_back_23 (by decide) ?_ ?_
    · refine dt_bipush X (v := -2) dX11_back_36 (by decide) ?_
      exact dt_iret X dX11_back_38
    · refine dt_aload_n X 0 dX11_back_26 rfl rfl ?_
      refine dt_get X (T := TX11) (N := 10) (v := .ref (dn_a u 10)) 3 (dn_h0 hu) rfl dn_in_X11_back_11 rfl rfl dn_fw_X11_back_35 rfl dX11_back_27 ?_
      refine dt_getN X (T := TX3) (N := 8) (v := .int (dn_g s4 10 3)) 3 (dn_hM hu dn_M10) rfl dn_in_X11_back_3 rfl rfl dn_fw_X11_back_143 rfl dX11_back_30 ?_
      refine dt_goto X 38 dX11_back_33 (by decide) ?_
      exact dt_iret X dX11_back_38
  · refine dt_iconst X (v := -1) dX11_back_9 (by decide) ?_
    exact dt_iret X dX11_back_10
set_option maxRecDepth 100000 in
set_option maxHeartbeats 4000000 in
theorem c_X11_count (l : Launch) (u : dn_U) (hu : dn_Lu u = dn_LC) (a1 : Int32) (s : dn_S) : dn_Met l u yX11_count wsX11_count 0 0 [.ref (dn_a u 0), .int a1] s (m_X11_count a1 s) (dn_QI u) := by
  refine dt_entry RX11 [(0, .ref (dn_a u 0)), (1, .int a1)] (by decide +kernel) rfl rfl rfl rfl (fun g hgl X => ?_)
  subst hgl
  unfold m_X11_count
  refine dt_iload_n X 1 dX11_count_0 rfl rfl ?_
  refine dt_case X (c0 := 0) (fun h1 => ?_) (fun h1 => ?_)
  · refine dt_tabIn X 0 40 dX11_count_1 (by rw [h1]; rfl) rfl rfl rfl (by decide) ?_
    refine dt_aload_n X 0 dX11_count_40 rfl rfl ?_
    refine dt_get X (T := TX11) (N := 10) (v := .ref (dn_a u 3)) 1 (dn_h0 hu) rfl dn_in_X11_count_11 rfl rfl dn_fw_X11_count_19 rfl dX11_count_41 ?_
    refine dt_getN X (T := TX10) (N := 5) (v := .int (dn_g s 3 2)) 2 (dn_hT hu dn_T3) rfl dn_in_X11_count_10 rfl rfl dn_fw_X11_count_268 rfl dX11_count_44 ?_
    exact dt_iret X dX11_count_47
  refine dt_case X (c0 := 1) (fun h2 => ?_) (fun h2 => ?_)
  · refine dt_tabIn X 1 48 dX11_count_1 (by rw [h2]; rfl) rfl rfl rfl (by decide) ?_
    refine dt_aload_n X 0 dX11_count_48 rfl rfl ?_
    refine dt_get X (T := TX11) (N := 10) (v := .ref (dn_a u 3)) 1 (dn_h0 hu) rfl dn_in_X11_count_11 rfl rfl dn_fw_X11_count_19 rfl dX11_count_49 ?_
    refine dt_getN X (T := TX10) (N := 5) (v := .int (dn_g s 3 4)) 4 (dn_hT hu dn_T3) rfl dn_in_X11_count_10 rfl rfl dn_fw_X11_count_158 rfl dX11_count_52 ?_
    exact dt_iret X dX11_count_55
  refine dt_case X (c0 := 2) (fun h3 => ?_) (fun h3 => ?_)
  · refine dt_tabIn X 2 56 dX11_count_1 (by rw [h3]; rfl) rfl rfl rfl (by decide) ?_
    refine dt_aload_n X 0 dX11_count_56 rfl rfl ?_
    refine dt_get X (T := TX11) (N := 10) (v := .ref (dn_a u 3)) 1 (dn_h0 hu) rfl dn_in_X11_count_11 rfl rfl dn_fw_X11_count_19 rfl dX11_count_57 ?_
    refine dt_getN X (T := TX10) (N := 5) (v := .int (dn_g s 3 3)) 3 (dn_hT hu dn_T3) rfl dn_in_X11_count_10 rfl rfl dn_fw_X11_count_271 rfl dX11_count_60 ?_
    exact dt_iret X dX11_count_63
  refine dt_case X (c0 := 3) (fun h4 => ?_) (fun h4 => ?_)
  · refine dt_tabIn X 3 64 dX11_count_1 (by rw [h4]; rfl) rfl rfl rfl (by decide) ?_
    refine dt_aload_n X 0 dX11_count_64 rfl rfl ?_
    refine dt_get X (T := TX11) (N := 10) (v := .ref (dn_a u 23)) 6 (dn_h0 hu) rfl dn_in_X11_count_11 rfl rfl dn_fw_X11_count_60 rfl dX11_count_65 ?_
    refine dt_getN X (T := TX2) (N := 6) (v := .int (dn_g s 23 5)) 5 (dn_h23 hu) rfl dn_in_X11_count_2 rfl rfl dn_fw_X11_count_231 rfl dX11_count_68 ?_
    exact dt_iret X dX11_count_71
  refine dt_case X (c0 := 4) (fun h5 => ?_) (fun h5 => ?_)
  · refine dt_tabIn X 4 72 dX11_count_1 (by rw [h5]; rfl) rfl rfl rfl (by decide) ?_
    refine dt_aload_n X 0 dX11_count_72 rfl rfl ?_
    refine dt_get X (T := TX11) (N := 10) (v := .ref (dn_a u 30)) 7 (dn_h0 hu) rfl dn_in_X11_count_11 rfl rfl dn_fw_X11_count_69 rfl dX11_count_73 ?_
    refine dt_getN X (T := TX0) (N := 4) (v := .int (dn_g s 30 3)) 3 (dn_h30 hu) rfl dn_in_X11_count_0 rfl rfl dn_fw_X11_count_241 rfl dX11_count_76 ?_
    exact dt_iret X dX11_count_79
  refine dt_case X (c0 := 5) (fun h6 => ?_) (fun h6 => ?_)
  · refine dt_tabIn X 5 80 dX11_count_1 (by rw [h6]; rfl) rfl rfl rfl (by decide) ?_
    refine dt_aload_n X 0 dX11_count_80 rfl rfl ?_
    refine dt_get X (T := TX11) (N := 10) (v := .ref (dn_a u 1)) 0 (dn_h0 hu) rfl dn_in_X11_count_11 rfl rfl dn_fw_X11_count_10 rfl dX11_count_81 ?_
    refine dt_getN X (T := TX9) (N := 2) (v := .int (dn_g s 1 1)) 1 (dn_h1 hu) rfl dn_in_X11_count_9 rfl rfl dn_fw_X11_count_96 rfl dX11_count_84 ?_
    exact dt_iret X dX11_count_87
  refine dt_tabOut X 88 dX11_count_1 (dn_out_0_5 h1 h2 h3 h4 h5 h6) (by decide) ?_
  refine dt_iconst X (v := -1) dX11_count_88 (by decide) ?_
  exact dt_iret X dX11_count_89
set_option maxRecDepth 100000 in
set_option maxHeartbeats 4000000 in
theorem c_X11_trace (l : Launch) (u : dn_U) (hu : dn_Lu u = dn_LC) (s : dn_S) : dn_Met l u yX11_trace wsX11_trace 0 0 [.ref (dn_a u 0)] s (m_X11_trace  s) (dn_QJ u) := by
  refine dt_entry RX11 [(0, .ref (dn_a u 0))] (by decide +kernel) rfl rfl rfl rfl (fun g hgl X => ?_)
  subst hgl
  unfold m_X11_trace
  refine dt_aload_n X 0 dX11_trace_0 rfl rfl ?_
  refine dt_get X (T := TX11) (N := 10) (v := .ref (dn_a u 88)) 9 (dn_h0 hu) rfl dn_in_X11_trace_11 rfl rfl dn_fw_X11_trace_85 rfl dX11_trace_1 ?_
  refine dt_getN X (T := TX7) (N := 3) (v := .long (dn_l s)) 2 (dn_h88 hu) rfl dn_in_X11_trace_7 rfl rfl dn_fw_X11_trace_274 rfl dX11_trace_4 ?_
  exact dt_lret X dX11_trace_7
