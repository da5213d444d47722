set_option maxRecDepth 100000 in
set_option maxHeartbeats 4000000 in
theorem c_X12_isBidder (l : Launch) (u : dn_U) (hu : dn_Lu u = dn_LR) (a1 : Int32) (s : dn_S) : dn_Met l u yX12_isBidder wsX12_isBidder 1 25 [.ref (dn_a u 100), .int a1] s (m_X12_isBidder a1 s) (dn_QZ u) := by
  refine dt_entry RX12 [(0, .ref (dn_a u 100)), (1, .int a1)] (by decide +kernel) rfl rfl rfl rfl (fun g hgl X => ?_)
  subst hgl
  unfold m_X12_isBidder
  refine dt_iload_n X 1 dX12_isBidder_0 rfl rfl ?_
  refine dt_i2l X dX12_isBidder_1 ?_
  refine dt_lconst X (v := 0) dX12_isBidder_2 (by decide) ?_
  refine dt_aload_n X 0 dX12_isBidder_3 rfl rfl ?_
  refine dt_get X (T := TX12) (N := 35) (v := .int (dn_g s 100 3)) 3 (dn_h100 hu) rfl dn_in_X12_isBidder_12 rfl rfl dn_fw_X12_isBidder_125 rfl dX12_isBidder_4 ?_
  refine dt_iconst X (v := 1) dX12_isBidder_7 (by decide) ?_
  refine dt_isub X dX12_isBidder_8 ?_
  refine dt_i2l X dX12_isBidder_9 ?_
  refine dt_callZ X (dn_runS X [.long ((a1 : Int32).toInt64), .long 0, .long (((dn_g s 100 3) - 1 : Int32).toInt64)] (c_X12_in (dn_la g) u hu ((a1 : Int32).toInt64) 0 (((dn_g s 100 3) - 1 : Int32).toInt64) s) gX12_isBidder_X12_in rfl dn_hs_X12_in rfl rfl rfl rfl dX12_isBidder_10) (fun r3 s1 e2 => ?_)
  exact dt_zret (v := r3) X dX12_isBidder_13
set_option maxRecDepth 100000 in
set_option maxHeartbeats 4000000 in
theorem c_X12_bidder (l : Launch) (u : dn_U) (hu : dn_Lu u = dn_LR) (a1 : Int32) (a2 : Int32) (s : dn_S) : dn_Met l u yX12_bidder wsX12_bidder 2 46 [.ref (dn_a u 100), .int a1, .int a2] s (m_X12_bidder a1 a2 s) (dn_QI u) := by
  refine dt_entry RX12 [(0, .ref (dn_a u 100)), (1, .int a1), (2, .int a2)] (by decide +kernel) rfl rfl rfl rfl (fun g hgl X => ?_)
  subst hgl
  unfold m_X12_bidder
  refine dt_aload_n X 0 dX12_bidder_0 rfl rfl ?_
  refine dt_iload_n X 1 dX12_bidder_1 rfl rfl ?_
  refine dt_callZ X (dn_runV X (T := TX12) (N := 35) [.int a1] (dn_h100 hu) rfl rfl (c_X12_isBidder (dn_la g) u hu a1 s) gX12_bidder_X12_isBidder rfl dn_hd_X12_isBidder rfl rfl rfl rfl dX12_bidder_2) (fun r3 s1 e2 => ?_)
  refine dt_if_eqb X 20 dX12_bidder_5 (by decide) ?_ ?_
  · refine dt_iconst X (v := -1) dX12_bidder_20 (by decide) ?_
    exact dt_iret X dX12_bidder_21
  · refine dt_iload_n X 2 dX12_bidder_8 rfl rfl ?_
    refine dt_i2l X dX12_bidder_9 ?_
    refine dt_lconst X (v := 0) dX12_bidder_10 (by decide) ?_
    refine dt_ldc2 X (v := 6) dX12_bidder_11 (by decide +kernel) ?_
    refine dt_callZ X (dn_runS X [.long ((a2 : Int32).toInt64), .long 0, .long 6] (c_X12_in (dn_la g) u hu ((a2 : Int32).toInt64) 0 6 s1) gX12_bidder_X12_in rfl dn_hs_X12_in rfl rfl rfl rfl dX12_bidder_14) (fun r6 s4 e5 => ?_)
    refine dt_if_neb X 22 dX12_bidder_17 (by decide) ?_ ?_
    · refine dt_iload_n X 2 dX12_bidder_22 rfl rfl ?_
      refine dt_if_ne X 38 dX12_bidder_23 (by decide) ?_ ?_
      · refine dt_iload_n X 2 dX12_bidder_38 rfl rfl ?_
        refine dt_iconst X (v := 1) dX12_bidder_39 (by decide) ?_
        refine dt_icmp_ne X 52 dX12_bidder_40 (by decide) ?_ ?_
        · refine dt_aload_n X 0 dX12_bidder_52 rfl rfl ?_
          refine dt_get X (T := TX12) (N := 35) (v := .ref (dn_a u 105)) 6 (dn_h100 hu) rfl dn_in_X12_bidder_12 rfl rfl dn_fw_X12_bidder_23 rfl dX12_bidder_53 ?_
          refine dt_iconst X (v := 5) dX12_bidder_56 (by decide) ?_
          refine dt_iload_n X 1 dX12_bidder_57 rfl rfl ?_
          refine dt_imul X dX12_bidder_58 ?_
          refine dt_iload_n X 2 dX12_bidder_59 rfl rfl ?_
          refine dt_iadd X dX12_bidder_60 ?_
          refine dt_iconst X (v := 2) dX12_bidder_61 (by decide) ?_
          refine dt_isub X dX12_bidder_62 ?_
          refine dt_iald X (dn_h105 hu) dX12_bidder_63 ?_
          exact dt_iret X dX12_bidder_64
        · refine dt_aload_n X 0 dX12_bidder_43 rfl rfl ?_
          refine dt_get X (T := TX12) (N := 35) (v := .ref (dn_a u 104)) 5 (dn_h100 hu) rfl dn_in_X12_bidder_12 rfl rfl dn_fw_X12_bidder_20 rfl dX12_bidder_44 ?_
          refine dt_iload_n X 1 dX12_bidder_47 rfl rfl ?_
          refine dt_iald X (dn_h104 hu) dX12_bidder_48 ?_
          refine dt_goto X 64 dX12_bidder_49 (by decide) ?_
          exact dt_iret X dX12_bidder_64
      · refine dt_aload_n X 0 dX12_bidder_26 rfl rfl ?_
        refine dt_get X (T := TX12) (N := 35) (v := .ref (dn_a u 101)) 0 (dn_h100 hu) rfl dn_in_X12_bidder_12 rfl rfl dn_fw_X12_bidder_7 rfl dX12_bidder_27 ?_
        refine dt_bipush X (v := 6) dX12_bidder_30 (by decide) ?_
        refine dt_iload_n X 1 dX12_bidder_32 rfl rfl ?_
        refine dt_iadd X dX12_bidder_33 ?_
        refine dt_iald X (dn_h101 hu) dX12_bidder_34 ?_
        refine dt_goto X 64 dX12_bidder_35 (by decide) ?_
        exact dt_iret X dX12_bidder_64
    · refine dt_iconst X (v := -1) dX12_bidder_20 (by decide) ?_
      exact dt_iret X dX12_bidder_21
set_option maxRecDepth 100000 in
set_option maxHeartbeats 4000000 in
theorem c_X12_isDebt (l : Launch) (u : dn_U) (hu : dn_Lu u = dn_LR) (a1 : Int32) (s : dn_S) : dn_Met l u yX12_isDebt wsX12_isDebt 1 25 [.ref (dn_a u 100), .int a1] s (m_X12_isDebt a1 s) (dn_QZ u) := by
  refine dt_entry RX12 [(0, .ref (dn_a u 100)), (1, .int a1)] (by decide +kernel) rfl rfl rfl rfl (fun g hgl X => ?_)
  subst hgl
  unfold m_X12_isDebt
  refine dt_iload_n X 1 dX12_isDebt_0 rfl rfl ?_
  refine dt_i2l X dX12_isDebt_1 ?_
  refine dt_lconst X (v := 0) dX12_isDebt_2 (by decide) ?_
  refine dt_aload_n X 0 dX12_isDebt_3 rfl rfl ?_
  refine dt_get X (T := TX12) (N := 35) (v := .int (dn_g s 100 8)) 8 (dn_h100 hu) rfl dn_in_X12_isDebt_12 rfl rfl dn_fw_X12_isDebt_128 rfl dX12_isDebt_4 ?_
  refine dt_iconst X (v := 1) dX12_isDebt_7 (by decide) ?_
  refine dt_isub X dX12_isDebt_8 ?_
  refine dt_i2l X dX12_isDebt_9 ?_
  refine dt_callZ X (dn_runS X [.long ((a1 : Int32).toInt64), .long 0, .long (((dn_g s 100 8) - 1 : Int32).toInt64)] (c_X12_in (dn_la g) u hu ((a1 : Int32).toInt64) 0 (((dn_g s 100 8) - 1 : Int32).toInt64) s) gX12_isDebt_X12_in rfl dn_hs_X12_in rfl rfl rfl rfl dX12_isDebt_10) (fun r3 s1 e2 => ?_)
  exact dt_zret (v := r3) X dX12_isDebt_13
set_option maxRecDepth 100000 in
set_option maxHeartbeats 4000000 in
theorem c_X12_debt (l : Launch) (u : dn_U) (hu : dn_Lu u = dn_LR) (a1 : Int32) (a2 : Int32) (s : dn_S) : dn_Met l u yX12_debt wsX12_debt 2 46 [.ref (dn_a u 100), .int a1, .int a2] s (m_X12_debt a1 a2 s) (dn_QI u) := by
  refine dt_entry RX12 [(0, .ref (dn_a u 100)), (1, .int a1), (2, .int a2)] (by decide +kernel) rfl rfl rfl rfl (fun g hgl X => ?_)
  subst hgl
  unfold m_X12_debt
  refine dt_aload_n X 0 dX12_debt_0 rfl rfl ?_
  refine dt_iload_n X 1 dX12_debt_1 rfl rfl ?_
  refine dt_callZ X (dn_runV X (T := TX12) (N := 35) [.int a1] (dn_h100 hu) rfl rfl (c_X12_isDebt (dn_la g) u hu a1 s) gX12_debt_X12_isDebt rfl dn_hd_X12_isDebt rfl rfl rfl rfl dX12_debt_2) (fun r3 s1 e2 => ?_)
  refine dt_if_eqb X 20 dX12_debt_5 (by decide) ?_ ?_
  · refine dt_iconst X (v := -1) dX12_debt_20 (by decide) ?_
    exact dt_iret X dX12_debt_21
  · refine dt_iload_n X 2 dX12_debt_8 rfl rfl ?_
    refine dt_i2l X dX12_debt_9 ?_
    refine dt_lconst X (v := 0) dX12_debt_10 (by decide) ?_
    refine dt_ldc2 X (v := 5) dX12_debt_11 (by decide +kernel) ?_
    refine dt_callZ X (dn_runS X [.long ((a2 : Int32).toInt64), .long 0, .long 5] (c_X12_in (dn_la g) u hu ((a2 : Int32).toInt64) 0 5 s1) gX12_debt_X12_in rfl dn_hs_X12_in rfl rfl rfl rfl dX12_debt_14) (fun r6 s4 e5 => ?_)
    refine dt_if_neb X 22 dX12_debt_17 (by decide) ?_ ?_
    · refine dt_iload_n X 2 dX12_debt_22 rfl rfl ?_
      refine dt_iconst X (v := 5) dX12_debt_23 (by decide) ?_
      refine dt_icmp_ge X 40 dX12_debt_24 (by decide) ?_ ?_
      · refine dt_aload_n X 0 dX12_debt_40 rfl rfl ?_
        refine dt_get X (T := TX12) (N := 35) (v := .ref (dn_a u 101)) 0 (dn_h100 hu) rfl dn_in_X12_debt_12 rfl rfl dn_fw_X12_debt_7 rfl dX12_debt_41 ?_
        refine dt_bipush X (v := 10) dX12_debt_44 (by decide) ?_
        refine dt_iload_n X 1 dX12_debt_46 rfl rfl ?_
        refine dt_iadd X dX12_debt_47 ?_
        refine dt_iald X (dn_h101 hu) dX12_debt_48 ?_
        exact dt_iret X dX12_debt_49
      · refine dt_aload_n X 0 dX12_debt_27 rfl rfl ?_
        refine dt_get X (T := TX12) (N := 35) (v := .ref (dn_a u 106)) 9 (dn_h100 hu) rfl dn_in_X12_debt_12 rfl rfl dn_fw_X12_debt_30 rfl dX12_debt_28 ?_
        refine dt_iconst X (v := 5) dX12_debt_31 (by decide) ?_
        refine dt_iload_n X 1 dX12_debt_32 rfl rfl ?_
        refine dt_imul X dX12_debt_33 ?_
        refine dt_iload_n X 2 dX12_debt_34 rfl rfl ?_
        refine dt_iadd X dX12_debt_35 ?_
        refine dt_iald X (dn_h106 hu) dX12_debt_36 ?_
        refine dt_goto X 49 dX12_debt_37 (by decide) ?_
        exact dt_iret X dX12_debt_49
    · refine dt_iconst X (v := -1) dX12_debt_20 (by decide) ?_
      exact dt_iret X dX12_debt_21
set_option maxRecDepth 100000 in
set_option maxHeartbeats 4000000 in
theorem c_X12_day (l : Launch) (u : dn_U) (hu : dn_Lu u = dn_LR) (a1 : Int32) (s : dn_S) : dn_Met l u yX12_day wsX12_day 1 25 [.ref (dn_a u 100), .int a1] s (m_X12_day a1 s) (dn_QI u) := by
  refine dt_entry RX12 [(0, .ref (dn_a u 100)), (1, .int a1)] (by decide +kernel) rfl rfl rfl rfl (fun g hgl X => ?_)
  subst hgl
  unfold m_X12_day
  refine dt_iload_n X 1 dX12_day_0 rfl rfl ?_
  refine dt_i2l X dX12_day_1 ?_
  refine dt_lconst X (v := 1) dX12_day_2 (by decide) ?_
  refine dt_aload_n X 0 dX12_day_3 rfl rfl ?_
  refine dt_get X (T := TX12) (N := 35) (v := .ref (dn_a u 101)) 0 (dn_h100 hu) rfl dn_in_X12_day_12 rfl rfl dn_fw_X12_day_7 rfl dX12_day_4 ?_
  refine dt_iconst X (v := 0) dX12_day_7 (by decide) ?_
  refine dt_iald X (dn_h101 hu) dX12_day_8 ?_
  refine dt_i2l X dX12_day_9 ?_
  refine dt_callZ X (dn_runS X [.long ((a1 : Int32).toInt64), .long 1, .long ((dn_g s 101 (0 : Int32).toNatClampNeg : Int32).toInt64)] (c_X12_in (dn_la g) u hu ((a1 : Int32).toInt64) 1 ((dn_g s 101 (0 : Int32).toNatClampNeg : Int32).toInt64) s) gX12_day_X12_in rfl dn_hs_X12_in rfl rfl rfl rfl dX12_day_10) (fun r3 s1 e2 => ?_)
  refine dt_if_eqb X 30 dX12_day_13 (by decide) ?_ ?_
  · refine dt_iconst X (v := -1) dX12_day_30 (by decide) ?_
    exact dt_iret X dX12_day_31
  · refine dt_aload_n X 0 dX12_day_16 rfl rfl ?_
    refine dt_get X (T := TX12) (N := 35) (v := .ref (dn_a u 101)) 0 (dn_h100 hu) rfl dn_in_X12_day_12 rfl rfl dn_fw_X12_day_7 rfl dX12_day_17 ?_
    refine dt_bipush X (v := 16) dX12_day_20 (by decide) ?_
    refine dt_iload_n X 1 dX12_day_22 rfl rfl ?_
    refine dt_iadd X dX12_day_23 ?_
    refine dt_iconst X (v := 1) dX12_day_24 (by decide) ?_
    refine dt_isub X dX12_day_25 ?_
    refine dt_iald X (dn_h101 hu) dX12_day_26 ?_
    refine dt_goto X 31 dX12_day_27 (by decide) ?_
    exact dt_iret X dX12_day_31
set_option maxRecDepth 100000 in
set_option maxHeartbeats 4000000 in
theorem c_X12_isName (l : Launch) (u : dn_U) (hu : dn_Lu u = dn_LR) (a1 : Int32) (s : dn_S) : dn_Met l u yX12_isName wsX12_isName 1 25 [.int a1] s (m_X12_isName a1 s) (dn_QZ u) := by
  refine dt_entry RX12 [(0, .int a1)] (by decide +kernel) rfl rfl rfl rfl (fun g hgl X => ?_)
  subst hgl
  unfold m_X12_isName
  refine dt_iload_n X 0 dX12_isName_0 rfl rfl ?_
  refine dt_i2l X dX12_isName_1 ?_
  refine dt_lconst X (v := 0) dX12_isName_2 (by decide) ?_
  refine dt_ldc2 X (v := 4) dX12_isName_3 (by decide +kernel) ?_
  refine dt_callZ X (dn_runS X [.long ((a1 : Int32).toInt64), .long 0, .long 4] (c_X12_in (dn_la g) u hu ((a1 : Int32).toInt64) 0 4 s) gX12_isName_X12_in rfl dn_hs_X12_in rfl rfl rfl rfl dX12_isName_6) (fun r3 s1 e2 => ?_)
  exact dt_zret (v := r3) X dX12_isName_9
set_option maxRecDepth 100000 in
set_option maxHeartbeats 4000000 in
theorem b_X12_countOf_40 {g : dn_M} {u : dn_U} (hu : dn_Lu u = dn_LR) (X : dn_X u g cX12_countOf wsX12_countOf RX12 5 0 0 (some .int)) (K5 : Int32 → Int32 → Int32 → Int32 → dn_S → Option (Int32 × dn_S)) (H5 : ∀ (y1 : Int32) (y2 : Int32) (y3 : Int32) (y4 : Int32) (s : dn_S), dn_T u g 5 (dn_QI u) (K5 y1 y2 y3 y4 s) s 5 [(0, .ref (dn_a u 100)), (1, .int y1), (2, .int y2), (3, .int y3), (4, .int y4)] []) (y1 : Int32) (y2 : Int32) (y4 : Int32) (z0 : Bool) (z1 : Int32) (s : dn_S) : dn_T u g 5 (dn_QI u) (m_X12_countOf_40 K5 y1 y2 y4 z0 z1 s) s 40 [(0, .ref (dn_a u 100)), (1, .int y1), (2, .int y2), (4, .int y4)] [.int (dn_b z0), .int z1] := by
  unfold m_X12_countOf_40
  refine dt_iadd X dX12_countOf_40 ?_
  refine dt_let X (fun x1 => ?_)
  refine dt_istore_n X [(3, .int x1), (0, .ref (dn_a u 100)), (1, .int y1), (2, .int y2), (4, .int y4)] dX12_countOf_41 rfl rfl rfl ?_
  refine dt_iinc X (v := y4 + 1) 4 [(4, .int (y4 + 1)), (3, .int x1), (0, .ref (dn_a u 100)), (1, .int y1), (2, .int y2)] dX12_countOf_42 rfl (by rfl) rfl rfl ?_
  refine dt_ilet X rfl (fun x2 => ?_)
  refine dt_goto X 5 dX12_countOf_45 (by decide) ?_
  refine dt_sub X [(0, .ref (dn_a u 100)), (1, .int y1), (2, .int y2), (3, .int x1), (4, .int x2)] [2, 3, 4, 1, 0] rfl ?_
  exact H5 y1 y2 x1 x2 s
set_option maxRecDepth 100000 in
set_option maxHeartbeats 4000000 in
theorem b_X12_countOf_5 {g : dn_M} {u : dn_U} (hu : dn_Lu u = dn_LR) (X : dn_X u g cX12_countOf wsX12_countOf RX12 5 0 0 (some .int)) : ∀ (n : Nat) (y1 : Int32) (y2 : Int32) (y3 : Int32) (y4 : Int32) (s : dn_S), dn_T u g 5 (dn_QI u) (m_X12_countOf_5 n y1 y2 y3 y4 s) s 5 [(0, .ref (dn_a u 100)), (1, .int y1), (2, .int y2), (3, .int y3), (4, .int y4)] [] := by
  intro n
  induction n with
  | zero =>
    intro y1 y2 y3 y4 s
    exact dt_none X
  | succ n ih =>
    intro y1 y2 y3 y4 s
    rw [m_X12_countOf_5]
    refine dt_iload X 4 dX12_countOf_5 rfl ?_
    refine dt_aload_n X 0 dX12_countOf_7 rfl rfl ?_
    refine dt_get X (T := TX12) (N := 35) (v := .ref (dn_a u 101)) 0 (dn_h100 hu) rfl dn_in_X12_countOf_12 rfl rfl dn_fw_X12_countOf_7 rfl dX12_countOf_8 ?_
    refine dt_iload_n X 1 dX12_countOf_11 rfl rfl ?_
    refine dt_iconst X (v := 0) dX12_countOf_12 (by decide) ?_
    refine dt_iadd X dX12_countOf_13 ?_
    refine dt_iald X (dn_h101 hu) dX12_countOf_14 ?_
    refine dt_icmp_ge X 48 dX12_countOf_15 (by decide) ?_ ?_
    · refine dt_iload_n X 3 dX12_countOf_48 rfl rfl ?_
      exact dt_iret X dX12_countOf_49
    · refine dt_iload_n X 3 dX12_countOf_18 rfl rfl ?_
      refine dt_aload_n X 0 dX12_countOf_19 rfl rfl ?_
      refine dt_get X (T := TX12) (N := 35) (v := .ref (dn_a u 101)) 0 (dn_h100 hu) rfl dn_in_X12_countOf_12 rfl rfl dn_fw_X12_countOf_7 rfl dX12_countOf_20 ?_
      refine dt_iload_n X 1 dX12_countOf_23 rfl rfl ?_
      refine dt_bipush X (v := 16) dX12_countOf_24 (by decide) ?_
      refine dt_iadd X dX12_countOf_26 ?_
      refine dt_iload X 4 dX12_countOf_27 rfl ?_
      refine dt_iadd X dX12_countOf_29 ?_
      refine dt_iald X (dn_h101 hu) dX12_countOf_30 ?_
      refine dt_iload_n X 2 dX12_countOf_31 rfl rfl ?_
      refine dt_icmp_ne X 39 dX12_countOf_32 (by decide) ?_ ?_
      · refine dt_iconst X (v := 0) dX12_countOf_39 (by decide) ?_
        refine dt_sub X [(0, .ref (dn_a u 100)), (1, .int y1), (2, .int y2), (4, .int y4)] [0, 1, 2, 4] rfl ?_
        exact b_X12_countOf_40 hu X (m_X12_countOf_5 n) ih y1 y2 y4 false y3 s
      · refine dt_iconst X (v := 1) dX12_countOf_35 (by decide) ?_
        refine dt_goto X 40 dX12_countOf_36 (by decide) ?_
        refine dt_sub X [(0, .ref (dn_a u 100)), (1, .int y1), (2, .int y2), (4, .int y4)] [0, 1, 2, 4] rfl ?_
        exact b_X12_countOf_40 hu X (m_X12_countOf_5 n) ih y1 y2 y4 true y3 s
set_option maxRecDepth 100000 in
set_option maxHeartbeats 4000000 in
theorem c_X12_countOf (l : Launch) (u : dn_U) (hu : dn_Lu u = dn_LR) (a1 : Int32) (a2 : Int32) (s : dn_S) : dn_Met l u yX12_countOf wsX12_countOf 0 0 [.ref (dn_a u 100), .int a1, .int a2] s (m_X12_countOf a1 a2 s) (dn_QI u) := by
  refine dt_entry RX12 [(0, .ref (dn_a u 100)), (1, .int a1), (2, .int a2)] (by decide +kernel) rfl rfl rfl rfl (fun g hgl X => ?_)
  subst hgl
  unfold m_X12_countOf
  refine dt_iconst X (v := 0) dX12_countOf_0 (by decide) ?_
  refine dt_istore_n X [(3, .int 0), (0, .ref (dn_a u 100)), (1, .int a1), (2, .int a2)] dX12_countOf_1 rfl rfl rfl ?_
  refine dt_iconst X (v := 0) dX12_countOf_2 (by decide) ?_
  refine dt_istore X [(4, .int 0), (3, .int 0), (0, .ref (dn_a u 100)), (1, .int a1), (2, .int a2)] dX12_countOf_3 rfl rfl ?_
  refine dt_sub X [(0, .ref (dn_a u 100)), (1, .int a1), (2, .int a2), (3, .int 0), (4, .int 0)] [2, 3, 4, 1, 0] rfl ?_
  exact b_X12_countOf_5 hu X 2048 a1 a2 0 0 s
set_option maxRecDepth 100000 in
set_option maxHeartbeats 4000000 in
theorem b_X12_isBarred_61 {g : dn_M} {u : dn_U} (hu : dn_Lu u = dn_LR) (X : dn_X u g cX12_isBarred wsX12_isBarred RX12 5 0 0 (some .boolean)) (K5 : Int32 → Int32 → Bool → Int32 → dn_S → Option (Bool × dn_S)) (H5 : ∀ (y1 : Int32) (y2 : Int32) (y3 : Bool) (y4 : Int32) (s : dn_S), dn_T u g 5 (dn_QZ u) (K5 y1 y2 y3 y4 s) s 5 [(0, .ref (dn_a u 100)), (1, .int y1), (2, .int y2), (3, .int (dn_b y3)), (4, .int y4)] []) (y1 : Int32) (y2 : Int32) (y4 : Int32) (z0 : Bool) (s : dn_S) : dn_T u g 5 (dn_QZ u) (m_X12_isBarred_61 K5 y1 y2 y4 z0 s) s 61 [(0, .ref (dn_a u 100)), (1, .int y1), (2, .int y2), (4, .int y4)] [.int (dn_b z0)] := by
  unfold m_X12_isBarred_61
  refine dt_istore_n X [(3, .int (dn_b z0)), (0, .ref (dn_a u 100)), (1, .int y1), (2, .int y2), (4, .int y4)] dX12_isBarred_61 rfl rfl rfl ?_
  refine dt_iinc X (v := y4 + 1) 4 [(4, .int (y4 + 1)), (3, .int (dn_b z0)), (0, .ref (dn_a u 100)), (1, .int y1), (2, .int y2)] dX12_isBarred_62 rfl (by rfl) rfl rfl ?_
  refine dt_ilet X rfl (fun x1 => ?_)
  refine dt_goto X 5 dX12_isBarred_65 (by decide) ?_
  refine dt_sub X [(0, .ref (dn_a u 100)), (1, .int y1), (2, .int y2), (3, .int (dn_b z0)), (4, .int x1)] [2, 3, 4, 1, 0] rfl ?_
  exact H5 y1 y2 z0 x1 s
set_option maxRecDepth 100000 in
set_option maxHeartbeats 4000000 in
theorem b_X12_isBarred_56 {g : dn_M} {u : dn_U} (hu : dn_Lu u = dn_LR) (X : dn_X u g cX12_isBarred wsX12_isBarred RX12 5 0 0 (some .boolean)) (K5 : Int32 → Int32 → Bool → Int32 → dn_S → Option (Bool × dn_S)) (H5 : ∀ (y1 : Int32) (y2 : Int32) (y3 : Bool) (y4 : Int32) (s : dn_S), dn_T u g 5 (dn_QZ u) (K5 y1 y2 y3 y4 s) s 5 [(0, .ref (dn_a u 100)), (1, .int y1), (2, .int y2), (3, .int (dn_b y3)), (4, .int y4)] []) (y1 : Int32) (y2 : Int32) (y4 : Int32) (s : dn_S) : dn_T u g 5 (dn_QZ u) (m_X12_isBarred_56 K5 y1 y2 y4 s) s 56 [(0, .ref (dn_a u 100)), (1, .int y1), (2, .int y2), (4, .int y4)] [] := by
  unfold m_X12_isBarred_56
  refine dt_iconst X (v := 1) dX12_isBarred_56 (by decide) ?_
  refine dt_goto X 61 dX12_isBarred_57 (by decide) ?_
  refine dt_sub X [(0, .ref (dn_a u 100)), (1, .int y1), (2, .int y2), (4, .int y4)] [0, 1, 2, 3] rfl ?_
  exact b_X12_isBarred_61 hu X K5 H5 y1 y2 y4 true s
set_option maxRecDepth 100000 in
set_option maxHeartbeats 4000000 in
theorem b_X12_isBarred_5 {g : dn_M} {u : dn_U} (hu : dn_Lu u = dn_LR) (X : dn_X u g cX12_isBarred wsX12_isBarred RX12 5 0 0 (some .boolean)) : ∀ (n : Nat) (y1 : Int32) (y2 : Int32) (y3 : Bool) (y4 : Int32) (s : dn_S), dn_T u g 5 (dn_QZ u) (m_X12_isBarred_5 n y1 y2 y3 y4 s) s 5 [(0, .ref (dn_a u 100)), (1, .int y1), (2, .int y2), (3, .int (dn_b y3)), (4, .int y4)] [] := by
  intro n
  induction n with
  | zero =>
    intro y1 y2 y3 y4 s
    exact dt_none X
  | succ n ih =>
    intro y1 y2 y3 y4 s
    rw [m_X12_isBarred_5]
    refine dt_iload X 4 dX12_isBarred_5 rfl ?_
    refine dt_aload_n X 0 dX12_isBarred_7 rfl rfl ?_
    refine dt_get X (T := TX12) (N := 35) (v := .int (dn_g s 100 7)) 7 (dn_h100 hu) rfl dn_in_X12_isBarred_12 rfl rfl dn_fw_X12_isBarred_26 rfl dX12_isBarred_8 ?_
    refine dt_icmp_gt X 68 dX12_isBarred_11 (by decide) ?_ ?_
    · refine dt_iload_n X 3 dX12_isBarred_68 rfl rfl ?_
      exact dt_zret (v := y3) X dX12_isBarred_69
    · refine dt_iload X 4 dX12_isBarred_14 rfl ?_
      refine dt_aload_n X 0 dX12_isBarred_16 rfl rfl ?_
      refine dt_get X (T := TX12) (N := 35) (v := .ref (dn_a u 101)) 0 (dn_h100 hu) rfl dn_in_X12_isBarred_12 rfl rfl dn_fw_X12_isBarred_7 rfl dX12_isBarred_17 ?_
      refine dt_iload_n X 1 dX12_isBarred_20 rfl rfl ?_
      refine dt_iconst X (v := 0) dX12_isBarred_21 (by decide) ?_
      refine dt_iadd X dX12_isBarred_22 ?_
      refine dt_iald X (dn_h101 hu) dX12_isBarred_23 ?_
      refine dt_icmp_gt X 68 dX12_isBarred_24 (by decide) ?_ ?_
      · refine dt_iload_n X 3 dX12_isBarred_68 rfl rfl ?_
        exact dt_zret (v := y3) X dX12_isBarred_69
      · refine dt_iload_n X 3 dX12_isBarred_27 rfl rfl ?_
        refine dt_if_neb X 56 dX12_isBarred_28 (by decide) ?_ ?_
        · refine dt_sub X [(0, .ref (dn_a u 100)), (1, .int y1), (2, .int y2), (4, .int y4)] [0, 1, 2, 4] rfl ?_
          exact b_X12_isBarred_56 hu X (m_X12_isBarred_5 n) ih y1 y2 y4 s
        · refine dt_aload_n X 0 dX12_isBarred_31 rfl rfl ?_
          refine dt_get X (T := TX12) (N := 35) (v := .ref (dn_a u 101)) 0 (dn_h100 hu) rfl dn_in_X12_isBarred_12 rfl rfl dn_fw_X12_isBarred_7 rfl dX12_isBarred_32 ?_
          refine dt_iload_n X 1 dX12_isBarred_35 rfl rfl ?_
          refine dt_bipush X (v := 16) dX12_isBarred_36 (by decide) ?_
          refine dt_iadd X dX12_isBarred_38 ?_
          refine dt_aload_n X 0 dX12_isBarred_39 rfl rfl ?_
          refine dt_get X (T := TX12) (N := 35) (v := .ref (dn_a u 101)) 0 (dn_h100 hu) rfl dn_in_X12_isBarred_12 rfl rfl dn_fw_X12_isBarred_7 rfl dX12_isBarred_40 ?_
          refine dt_iload_n X 1 dX12_isBarred_43 rfl rfl ?_
          refine dt_iconst X (v := 0) dX12_isBarred_44 (by decide) ?_
          refine dt_iadd X dX12_isBarred_45 ?_
          refine dt_iald X (dn_h101 hu) dX12_isBarred_46 ?_
          refine dt_iadd X dX12_isBarred_47 ?_
          refine dt_iload X 4 dX12_isBarred_48 rfl ?_
          refine dt_isub X dX12_isBarred_50 ?_
          refine dt_iald X (dn_h101 hu) dX12_isBarred_51 ?_
          refine dt_iload_n X 2 dX12_isBarred_52 rfl rfl ?_
          refine dt_icmp_ne X 60 dX12_isBarred_53 (by decide) ?_ ?_
          · refine dt_iconst X (v := 0) dX12_isBarred_60 (by decide) ?_
            refine dt_sub X [(0, .ref (dn_a u 100)), (1, .int y1), (2, .int y2), (4, .int y4)] [0, 1, 2, 4] rfl ?_
            exact b_X12_isBarred_61 hu X (m_X12_isBarred_5 n) ih y1 y2 y4 false s
          · refine dt_sub X [(0, .ref (dn_a u 100)), (1, .int y1), (2, .int y2), (4, .int y4)] [0, 1, 2, 4] rfl ?_
            exact b_X12_isBarred_56 hu X (m_X12_isBarred_5 n) ih y1 y2 y4 s
set_option maxRecDepth 100000 in
set_option maxHeartbeats 4000000 in
theorem c_X12_isBarred (l : Launch) (u : dn_U) (hu : dn_Lu u = dn_LR) (a1 : Int32) (a2 : Int32) (s : dn_S) : dn_Met l u yX12_isBarred wsX12_isBarred 0 0 [.ref (dn_a u 100), .int a1, .int a2] s (m_X12_isBarred a1 a2 s) (dn_QZ u) := by
  refine dt_entry RX12 [(0, .ref (dn_a u 100)), (1, .int a1), (2, .int a2)] (by decide +kernel) rfl rfl rfl rfl (fun g hgl X => ?_)
  subst hgl
  unfold m_X12_isBarred
  refine dt_iconst X (v := 0) dX12_isBarred_0 (by decide) ?_
  refine dt_istore_n X [(3, .int 0), (0, .ref (dn_a u 100)), (1, .int a1), (2, .int a2)] dX12_isBarred_1 rfl rfl rfl ?_
  refine dt_iconst X (v := 1) dX12_isBarred_2 (by decide) ?_
  refine dt_istore X [(4, .int 1), (3, .int 0), (0, .ref (dn_a u 100)), (1, .int a1), (2, .int a2)] dX12_isBarred_3 rfl rfl ?_
  refine dt_sub X [(0, .ref (dn_a u 100)), (1, .int a1), (2, .int a2), (3, .int 0), (4, .int 1)] [2, 3, 4, 1, 0] rfl ?_
  exact b_X12_isBarred_5 hu X 2048 a1 a2 false 1 s
set_option maxRecDepth 100000 in
set_option maxHeartbeats 4000000 in
theorem b_X12_name_59 {g : dn_M} {u : dn_U} (hu : dn_Lu u = dn_LR) (X : dn_X u g cX12_name wsX12_name RX12 5 2 45 (some .int)) (K26 : Int32 → Int32 → Int32 → Int32 → dn_S → Option (Int32 × dn_S)) (H26 : ∀ (y1 : Int32) (y2 : Int32) (y3 : Int32) (y4 : Int32) (s : dn_S), dn_T u g 5 (dn_QI u) (K26 y1 y2 y3 y4 s) s 26 [(0, .ref (dn_a u 100)), (1, .int y1), (2, .int y2), (3, .int y3), (4, .int y4)] []) (y1 : Int32) (y2 : Int32) (y4 : Int32) (z0 : Int32) (s : dn_S) : dn_T u g 5 (dn_QI u) (m_X12_name_59 K26 y1 y2 y4 z0 s) s 59 [(0, .ref (dn_a u 100)), (1, .int y1), (2, .int y2), (4, .int y4)] [.int z0] := by
  unfold m_X12_name_59
  refine dt_istore_n X [(3, .int z0), (0, .ref (dn_a u 100)), (1, .int y1), (2, .int y2), (4, .int y4)] dX12_name_59 rfl rfl rfl ?_
  refine dt_iinc X (v := y4 + 1) 4 [(4, .int (y4 + 1)), (3, .int z0), (0, .ref (dn_a u 100)), (1, .int y1), (2, .int y2)] dX12_name_60 rfl (by rfl) rfl rfl ?_
  refine dt_ilet X rfl (fun x1 => ?_)
  refine dt_goto X 26 dX12_name_63 (by decide) ?_
  refine dt_sub X [(0, .ref (dn_a u 100)), (1, .int y1), (2, .int y2), (3, .int z0), (4, .int x1)] [2, 3, 4, 1, 0] rfl ?_
  exact H26 y1 y2 z0 x1 s
set_option maxRecDepth 100000 in
set_option maxHeartbeats 4000000 in
theorem b_X12_name_26 {g : dn_M} {u : dn_U} (hu : dn_Lu u = dn_LR) (X : dn_X u g cX12_name wsX12_name RX12 5 2 45 (some .int)) : ∀ (n : Nat) (y1 : Int32) (y2 : Int32) (y3 : Int32) (y4 : Int32) (s : dn_S), dn_T u g 5 (dn_QI u) (m_X12_name_26 n y1 y2 y3 y4 s) s 26 [(0, .ref (dn_a u 100)), (1, .int y1), (2, .int y2), (3, .int y3), (4, .int y4)] [] := by
  intro n
  induction n with
  | zero =>
    intro y1 y2 y3 y4 s
    exact dt_none X
  | succ n ih =>
    intro y1 y2 y3 y4 s
    rw [m_X12_name_26]
    refine dt_iload X 4 dX12_name_26 rfl ?_
    refine dt_aload_n X 0 dX12_name_28 rfl rfl ?_
    refine dt_get X (T := TX12) (N := 35) (v := .ref (dn_a u 101)) 0 (dn_h100 hu) rfl dn_in_X12_name_12 rfl rfl dn_fw_X12_name_7 rfl dX12_name_29 ?_
    refine dt_iconst X (v := 0) dX12_name_32 (by decide) ?_
    refine dt_iald X (dn_h101 hu) dX12_name_33 ?_
    refine dt_icmp_ge X 66 dX12_name_34 (by decide) ?_ ?_
    · refine dt_iload_n X 2 dX12_name_66 rfl rfl ?_
      refine dt_if_ne X 79 dX12_name_67 (by decide) ?_ ?_
      · refine dt_iload_n X 2 dX12_name_79 rfl rfl ?_
        refine dt_iconst X (v := 1) dX12_name_80 (by decide) ?_
        refine dt_icmp_ne X 88 dX12_name_81 (by decide) ?_ ?_
        · refine dt_aload_n X 0 dX12_name_88 rfl rfl ?_
          refine dt_iconst X (v := 0) dX12_name_89 (by decide) ?_
          refine dt_iload_n X 1 dX12_name_90 rfl rfl ?_
          refine dt_callZ X (dn_runV X (T := TX12) (N := 35) [.int 0, .int y1] (dn_h100 hu) rfl rfl (c_X12_isBarred (dn_la g) u hu 0 y1 s) gX12_name_X12_isBarred rfl dn_hd_X12_isBarred rfl rfl rfl rfl dX12_name_91) (fun r3 s1 e2 => ?_)
          refine dt_if_eqb X 101 dX12_name_94 (by decide) ?_ ?_
          · refine dt_iconst X (v := 0) dX12_name_101 (by decide) ?_
            exact dt_iret X dX12_name_102
          · refine dt_iconst X (v := 1) dX12_name_97 (by decide) ?_
            refine dt_goto X 102 dX12_name_98 (by decide) ?_
            exact dt_iret X dX12_name_102
        · refine dt_iload_n X 3 dX12_name_84 rfl rfl ?_
          refine dt_goto X 102 dX12_name_85 (by decide) ?_
          exact dt_iret X dX12_name_102
      · refine dt_aload_n X 0 dX12_name_70 rfl rfl ?_
        refine dt_iconst X (v := 0) dX12_name_71 (by decide) ?_
        refine dt_iload_n X 1 dX12_name_72 rfl rfl ?_
        refine dt_callI X (dn_runV X (T := TX12) (N := 35) [.int 0, .int y1] (dn_h100 hu) rfl rfl (c_X12_countOf (dn_la g) u hu 0 y1 s) gX12_name_X12_countOf rfl dn_hd_X12_countOf rfl rfl rfl rfl dX12_name_73) (fun r6 s4 e5 => ?_)
        refine dt_goto X 102 dX12_name_76 (by decide) ?_
        exact dt_iret X dX12_name_102
    · refine dt_aload_n X 0 dX12_name_37 rfl rfl ?_
      refine dt_get X (T := TX12) (N := 35) (v := .ref (dn_a u 101)) 0 (dn_h100 hu) rfl dn_in_X12_name_12 rfl rfl dn_fw_X12_name_7 rfl dX12_name_38 ?_
      refine dt_bipush X (v := 16) dX12_name_41 (by decide) ?_
      refine dt_iload X 4 dX12_name_43 rfl ?_
      refine dt_iadd X dX12_name_45 ?_
      refine dt_iald X (dn_h101 hu) dX12_name_46 ?_
      refine dt_iload_n X 1 dX12_name_47 rfl rfl ?_
      refine dt_icmp_ne X 58 dX12_name_48 (by decide) ?_ ?_
      · refine dt_iload_n X 3 dX12_name_58 rfl rfl ?_
        refine dt_sub X [(0, .ref (dn_a u 100)), (1, .int y1), (2, .int y2), (4, .int y4)] [0, 1, 2, 4] rfl ?_
        exact b_X12_name_59 hu X (m_X12_name_26 n) ih y1 y2 y4 y3 s
      · refine dt_iload X 4 dX12_name_51 rfl ?_
        refine dt_iconst X (v := 1) dX12_name_53 (by decide) ?_
        refine dt_iadd X dX12_name_54 ?_
        refine dt_goto X 59 dX12_name_55 (by decide) ?_
        refine dt_sub X [(0, .ref (dn_a u 100)), (1, .int y1), (2, .int y2), (4, .int y4)] [0, 1, 2, 4] rfl ?_
        exact b_X12_name_59 hu X (m_X12_name_26 n) ih y1 y2 y4 (y4 + 1) s
set_option maxRecDepth 100000 in
set_option maxHeartbeats 4000000 in
theorem c_X12_name (l : Launch) (u : dn_U) (hu : dn_Lu u = dn_LR) (a1 : Int32) (a2 : Int32) (s : dn_S) : dn_Met l u yX12_name wsX12_name 2 45 [.ref (dn_a u 100), .int a1, .int a2] s (m_X12_name a1 a2 s) (dn_QI u) := by
  refine dt_entry RX12 [(0, .ref (dn_a u 100)), (1, .int a1), (2, .int a2)] (by decide +kernel) rfl rfl rfl rfl (fun g hgl X => ?_)
  subst hgl
  unfold m_X12_name
  refine dt_iload_n X 1 dX12_name_0 rfl rfl ?_
  refine dt_callZ X (dn_runS X [.int a1] (c_X12_isName (dn_la g) u hu a1 s) gX12_name_X12_isName rfl dn_hs_X12_isName rfl rfl rfl rfl dX12_name_1) (fun r3 s1 e2 => ?_)
  refine dt_if_eqb X 19 dX12_name_4 (by decide) ?_ ?_
  · refine dt_iconst X (v := -1) dX12_name_19 (by decide) ?_
    exact dt_iret X dX12_name_20
  · refine dt_iload_n X 2 dX12_name_7 rfl rfl ?_
    refine dt_i2l X dX12_name_8 ?_
    refine dt_lconst X (v := 0) dX12_name_9 (by decide) ?_
    refine dt_ldc2 X (v := 2) dX12_name_10 (by decide +kernel) ?_
    refine dt_callZ X (dn_runS X [.long ((a2 : Int32).toInt64), .long 0, .long 2] (c_X12_in (dn_la g) u hu ((a2 : Int32).toInt64) 0 2 s1) gX12_name_X12_in rfl dn_hs_X12_in rfl rfl rfl rfl dX12_name_13) (fun r6 s4 e5 => ?_)
    refine dt_if_neb X 21 dX12_name_16 (by decide) ?_ ?_
    · refine dt_iconst X (v := 0) dX12_name_21 (by decide) ?_
      refine dt_istore_n X [(3, .int 0), (0, .ref (dn_a u 100)), (1, .int a1), (2, .int a2)] dX12_name_22 rfl rfl rfl ?_
      refine dt_iconst X (v := 0) dX12_name_23 (by decide) ?_
      refine dt_istore X [(4, .int 0), (3, .int 0), (0, .ref (dn_a u 100)), (1, .int a1), (2, .int a2)] dX12_name_24 rfl rfl ?_
      refine dt_sub X [(0, .ref (dn_a u 100)), (1, .int a1), (2, .int a2), (3, .int 0), (4, .int 0)] [2, 3, 4, 1, 0] rfl ?_
      exact b_X12_name_26 hu X 2048 a1 a2 0 0 s4
    · refine dt_iconst X (v := -1) dX12_name_19 (by decide) ?_
      exact dt_iret X dX12_name_20
set_option maxRecDepth 100000 in
set_option maxHeartbeats 4000000 in
theorem b_X12_never_93 {g : dn_M} {u : dn_U} (hu : dn_Lu u = dn_LR) (X : dn_X u g cX12_never wsX12_never RX12 5 0 0 (some .int)) (K4 : Int32 → Int32 → dn_S → Option (Int32 × dn_S)) (H4 : ∀ (y1 : Int32) (y2 : Int32) (s : dn_S), dn_T u g 5 (dn_QI u) (K4 y1 y2 s) s 4 [(0, .ref (dn_a u 100)), (1, .int y1), (2, .int y2)] []) (y2 : Int32) (z0 : Int32) (z1 : Int32) (s : dn_S) : dn_T u g 5 (dn_QI u) (m_X12_never_93 K4 y2 z0 z1 s) s 93 [(0, .ref (dn_a u 100)), (2, .int y2)] [.int z0, .int z1] := by
  unfold m_X12_never_93
  refine dt_ior X dX12_never_93 ?_
  refine dt_let X (fun x1 => ?_)
  refine dt_istore_n X [(1, .int x1), (0, .ref (dn_a u 100)), (2, .int y2)] dX12_never_94 rfl rfl rfl ?_
  refine dt_iinc X (v := y2 + 1) 2 [(2, .int (y2 + 1)), (1, .int x1), (0, .ref (dn_a u 100))] dX12_never_95 rfl (by rfl) rfl rfl ?_
  refine dt_ilet X rfl (fun x2 => ?_)
  refine dt_goto X 4 dX12_never_98 (by decide) ?_
  refine dt_sub X [(0, .ref (dn_a u 100)), (1, .int x1), (2, .int x2)] [2, 1, 0] rfl ?_
  exact H4 x1 x2 s
set_option maxRecDepth 100000 in
set_option maxHeartbeats 4000000 in
theorem b_X12_never_74 {g : dn_M} {u : dn_U} (hu : dn_Lu u = dn_LR) (X : dn_X u g cX12_never wsX12_never RX12 5 0 0 (some .int)) (K4 : Int32 → Int32 → dn_S → Option (Int32 × dn_S)) (H4 : ∀ (y1 : Int32) (y2 : Int32) (s : dn_S), dn_T u g 5 (dn_QI u) (K4 y1 y2 s) s 4 [(0, .ref (dn_a u 100)), (1, .int y1), (2, .int y2)] []) (K33 : Int32 → Int32 → Bool → Int32 → dn_S → Option (Int32 × dn_S)) (H33 : ∀ (y1 : Int32) (y2 : Int32) (y3 : Bool) (y4 : Int32) (s : dn_S), dn_T u g 5 (dn_QI u) (K33 y1 y2 y3 y4 s) s 33 [(0, .ref (dn_a u 100)), (1, .int y1), (2, .int y2), (3, .int (dn_b y3)), (4, .int y4)] []) (y1 : Int32) (y2 : Int32) (y4 : Int32) (z0 : Bool) (s : dn_S) : dn_T u g 5 (dn_QI u) (m_X12_never_74 K4 K33 y1 y2 y4 z0 s) s 74 [(0, .ref (dn_a u 100)), (1, .int y1), (2, .int y2), (4, .int y4)] [.int (dn_b z0)] := by
  unfold m_X12_never_74
  refine dt_istore_n X [(3, .int (dn_b z0)), (0, .ref (dn_a u 100)), (1, .int y1), (2, .int y2), (4, .int y4)] dX12_never_74 rfl rfl rfl ?_
  refine dt_iinc X (v := y4 + 1) 4 [(4, .int (y4 + 1)), (3, .int (dn_b z0)), (0, .ref (dn_a u 100)), (1, .int y1), (2, .int y2)] dX12_never_75 rfl (by rfl) rfl rfl ?_
  refine dt_ilet X rfl (fun x1 => ?_)
  refine dt_goto X 33 dX12_never_78 (by decide) ?_
  refine dt_sub X [(0, .ref (dn_a u 100)), (1, .int y1), (2, .int y2), (3, .int (dn_b z0)), (4, .int x1)] [2, 3, 4, 1, 0] rfl ?_
  exact H33 y1 y2 z0 x1 s
set_option maxRecDepth 100000 in
set_option maxHeartbeats 4000000 in
theorem b_X12_never_73 {g : dn_M} {u : dn_U} (hu : dn_Lu u = dn_LR) (X : dn_X u g cX12_never wsX12_never RX12 5 0 0 (some .int)) (K4 : Int32 → Int32 → dn_S → Option (Int32 × dn_S)) (H4 : ∀ (y1 : Int32) (y2 : Int32) (s : dn_S), dn_T u g 5 (dn_QI u) (K4 y1 y2 s) s 4 [(0, .ref (dn_a u 100)), (1, .int y1), (2, .int y2)] []) (K33 : Int32 → Int32 → Bool → Int32 → dn_S → Option (Int32 × dn_S)) (H33 : ∀ (y1 : Int32) (y2 : Int32) (y3 : Bool) (y4 : Int32) (s : dn_S), dn_T u g 5 (dn_QI u) (K33 y1 y2 y3 y4 s) s 33 [(0, .ref (dn_a u 100)), (1, .int y1), (2, .int y2), (3, .int (dn_b y3)), (4, .int y4)] []) (y1 : Int32) (y2 : Int32) (y4 : Int32) (s : dn_S) : dn_T u g 5 (dn_QI u) (m_X12_never_73 K4 K33 y1 y2 y4 s) s 73 [(0, .ref (dn_a u 100)), (1, .int y1), (2, .int y2), (4, .int y4)] [] := by
  unfold m_X12_never_73
  refine dt_iconst X (v := 0) dX12_never_73 (by decide) ?_
  refine dt_sub X [(0, .ref (dn_a u 100)), (1, .int y1), (2, .int y2), (4, .int y4)] [0, 1, 2, 3] rfl ?_
  exact b_X12_never_74 hu X K4 H4 K33 H33 y1 y2 y4 false s
set_option maxRecDepth 100000 in
set_option maxHeartbeats 4000000 in
theorem b_X12_never_33 {g : dn_M} {u : dn_U} (hu : dn_Lu u = dn_LR) (X : dn_X u g cX12_never wsX12_never RX12 5 0 0 (some .int)) (K4 : Int32 → Int32 → dn_S → Option (Int32 × dn_S)) (H4 : ∀ (y1 : Int32) (y2 : Int32) (s : dn_S), dn_T u g 5 (dn_QI u) (K4 y1 y2 s) s 4 [(0, .ref (dn_a u 100)), (1, .int y1), (2, .int y2)] []) : ∀ (n : Nat) (y1 : Int32) (y2 : Int32) (y3 : Bool) (y4 : Int32) (s : dn_S), dn_T u g 5 (dn_QI u) (m_X12_never_33 K4 n y1 y2 y3 y4 s) s 33 [(0, .ref (dn_a u 100)), (1, .int y1), (2, .int y2), (3, .int (dn_b y3)), (4, .int y4)] [] := by
  intro n
  induction n with
  | zero =>
    intro y1 y2 y3 y4 s
    exact dt_none X
  | succ n ih =>
    intro y1 y2 y3 y4 s
    rw [m_X12_never_33]
    refine dt_iload X 4 dX12_never_33 rfl ?_
    refine dt_aload_n X 0 dX12_never_35 rfl rfl ?_
    refine dt_get X (T := TX12) (N := 35) (v := .int (dn_g s 100 3)) 3 (dn_h100 hu) rfl dn_in_X12_never_12 rfl rfl dn_fw_X12_never_125 rfl dX12_never_36 ?_
    refine dt_icmp_ge X 81 dX12_never_39 (by decide) ?_ ?_
    · refine dt_iload_n X 1 dX12_never_81 rfl rfl ?_
      refine dt_iload_n X 3 dX12_never_82 rfl rfl ?_
      refine dt_if_eqb X 92 dX12_never_83 (by decide) ?_ ?_
      · refine dt_iconst X (v := 0) dX12_never_92 (by decide) ?_
        refine dt_sub X [(0, .ref (dn_a u 100)), (2, .int y2)] [0, 2] rfl ?_
        exact b_X12_never_93 hu X K4 H4 y2 0 y1 s
      · refine dt_iconst X (v := 1) dX12_never_86 (by decide) ?_
        refine dt_iload_n X 2 dX12_never_87 rfl rfl ?_
        refine dt_ishl X dX12_never_88 ?_
        refine dt_goto X 93 dX12_never_89 (by decide) ?_
        refine dt_sub X [(0, .ref (dn_a u 100)), (2, .int y2)] [0, 2] rfl ?_
        exact b_X12_never_93 hu X K4 H4 y2 (dn_shl 1 y2) y1 s
    · refine dt_iload_n X 3 dX12_never_42 rfl rfl ?_
      refine dt_if_eqb X 73 dX12_never_43 (by decide) ?_ ?_
      · refine dt_sub X [(0, .ref (dn_a u 100)), (1, .int y1), (2, .int y2), (4, .int y4)] [0, 1, 2, 4] rfl ?_
        exact b_X12_never_73 hu X K4 H4 (m_X12_never_33 K4 n) ih y1 y2 y4 s
      · refine dt_aload_n X 0 dX12_never_46 rfl rfl ?_
        refine dt_get X (T := TX12) (N := 35) (v := .ref (dn_a u 105)) 6 (dn_h100 hu) rfl dn_in_X12_never_12 rfl rfl dn_fw_X12_never_23 rfl dX12_never_47 ?_
        refine dt_iconst X (v := 5) dX12_never_50 (by decide) ?_
        refine dt_iload X 4 dX12_never_51 rfl ?_
        refine dt_imul X dX12_never_53 ?_
        refine dt_aload_n X 0 dX12_never_54 rfl rfl ?_
        refine dt_get X (T := TX12) (N := 35) (v := .ref (dn_a u 106)) 9 (dn_h100 hu) rfl dn_in_X12_never_12 rfl rfl dn_fw_X12_never_30 rfl dX12_never_55 ?_
        refine dt_iconst X (v := 5) dX12_never_58 (by decide) ?_
        refine dt_iload_n X 2 dX12_never_59 rfl rfl ?_
        refine dt_imul X dX12_never_60 ?_
        refine dt_iconst X (v := 4) dX12_never_61 (by decide) ?_
        refine dt_iadd X dX12_never_62 ?_
        refine dt_iald X (dn_h106 hu) dX12_never_63 ?_
        refine dt_iadd X dX12_never_64 ?_
        refine dt_iald X (dn_h105 hu) dX12_never_65 ?_
        refine dt_if_ne X 73 dX12_never_66 (by decide) ?_ ?_
        · refine dt_sub X [(0, .ref (dn_a u 100)), (1, .int y1), (2, .int y2), (4, .int y4)] [0, 1, 2, 4] rfl ?_
          exact b_X12_never_73 hu X K4 H4 (m_X12_never_33 K4 n) ih y1 y2 y4 s
        · refine dt_iconst X (v := 1) dX12_never_69 (by decide) ?_
          refine dt_goto X 74 dX12_never_70 (by decide) ?_
          refine dt_sub X [(0, .ref (dn_a u 100)), (1, .int y1), (2, .int y2), (4, .int y4)] [0, 1, 2, 4] rfl ?_
          exact b_X12_never_74 hu X K4 H4 (m_X12_never_33 K4 n) ih y1 y2 y4 true s
set_option maxRecDepth 100000 in
set_option maxHeartbeats 4000000 in
theorem b_X12_never_29 {g : dn_M} {u : dn_U} (hu : dn_Lu u = dn_LR) (X : dn_X u g cX12_never wsX12_never RX12 5 0 0 (some .int)) (K4 : Int32 → Int32 → dn_S → Option (Int32 × dn_S)) (H4 : ∀ (y1 : Int32) (y2 : Int32) (s : dn_S), dn_T u g 5 (dn_QI u) (K4 y1 y2 s) s 4 [(0, .ref (dn_a u 100)), (1, .int y1), (2, .int y2)] []) (y1 : Int32) (y2 : Int32) (z0 : Bool) (s : dn_S) : dn_T u g 5 (dn_QI u) (m_X12_never_29 K4 y1 y2 z0 s) s 29 [(0, .ref (dn_a u 100)), (1, .int y1), (2, .int y2)] [.int (dn_b z0)] := by
  unfold m_X12_never_29
  refine dt_istore_n X [(3, .int (dn_b z0)), (0, .ref (dn_a u 100)), (1, .int y1), (2, .int y2)] dX12_never_29 rfl rfl rfl ?_
  refine dt_iconst X (v := 0) dX12_never_30 (by decide) ?_
  refine dt_istore X [(4, .int 0), (3, .int (dn_b z0)), (0, .ref (dn_a u 100)), (1, .int y1), (2, .int y2)] dX12_never_31 rfl rfl ?_
  refine dt_sub X [(0, .ref (dn_a u 100)), (1, .int y1), (2, .int y2), (3, .int (dn_b z0)), (4, .int 0)] [2, 3, 4, 1, 0] rfl ?_
  exact b_X12_never_33 hu X K4 H4 2048 y1 y2 z0 0 s
set_option maxRecDepth 100000 in
set_option maxHeartbeats 4000000 in
theorem b_X12_never_4 {g : dn_M} {u : dn_U} (hu : dn_Lu u = dn_LR) (X : dn_X u g cX12_never wsX12_never RX12 5 0 0 (some .int)) : ∀ (n : Nat) (y1 : Int32) (y2 : Int32) (s : dn_S), dn_T u g 5 (dn_QI u) (m_X12_never_4 n y1 y2 s) s 4 [(0, .ref (dn_a u 100)), (1, .int y1), (2, .int y2)] [] := by
  intro n
  induction n with
  | zero =>
    intro y1 y2 s
    exact dt_none X
  | succ n ih =>
    intro y1 y2 s
    rw [m_X12_never_4]
    refine dt_iload_n X 2 dX12_never_4 rfl rfl ?_
    refine dt_aload_n X 0 dX12_never_5 rfl rfl ?_
    refine dt_get X (T := TX12) (N := 35) (v := .int (dn_g s 100 8)) 8 (dn_h100 hu) rfl dn_in_X12_never_12 rfl rfl dn_fw_X12_never_128 rfl dX12_never_6 ?_
    refine dt_icmp_ge X 101 dX12_never_9 (by decide) ?_ ?_
    · refine dt_iload_n X 1 dX12_never_101 rfl rfl ?_
      exact dt_iret X dX12_never_102
    · refine dt_aload_n X 0 dX12_never_12 rfl rfl ?_
      refine dt_get X (T := TX12) (N := 35) (v := .ref (dn_a u 101)) 0 (dn_h100 hu) rfl dn_in_X12_never_12 rfl rfl dn_fw_X12_never_7 rfl dX12_never_13 ?_
      refine dt_bipush X (v := 10) dX12_never_16 (by decide) ?_
      refine dt_iload_n X 2 dX12_never_18 rfl rfl ?_
      refine dt_iadd X dX12_never_19 ?_
      refine dt_iald X (dn_h101 hu) dX12_never_20 ?_
      refine dt_if_ne X 28 dX12_never_21 (by decide) ?_ ?_
      · refine dt_iconst X (v := 0) dX12_never_28 (by decide) ?_
        refine dt_sub X [(0, .ref (dn_a u 100)), (1, .int y1), (2, .int y2)] [0, 1, 2] rfl ?_
        exact b_X12_never_29 hu X (m_X12_never_4 n) ih y1 y2 false s
      · refine dt_iconst X (v := 1) dX12_never_24 (by decide) ?_
        refine dt_goto X 29 dX12_never_25 (by decide) ?_
        refine dt_sub X [(0, .ref (dn_a u 100)), (1, .int y1), (2, .int y2)] [0, 1, 2] rfl ?_
        exact b_X12_never_29 hu X (m_X12_never_4 n) ih y1 y2 true s
set_option maxRecDepth 100000 in
set_option maxHeartbeats 4000000 in
theorem c_X12_never (l : Launch) (u : dn_U) (hu : dn_Lu u = dn_LR) (s : dn_S) : dn_Met l u yX12_never wsX12_never 0 0 [.ref (dn_a u 100)] s (m_X12_never  s) (dn_QI u) := by
  refine dt_entry RX12 [(0, .ref (dn_a u 100))] (by decide +kernel) rfl rfl rfl rfl (fun g hgl X => ?_)
  subst hgl
  unfold m_X12_never
  refine dt_iconst X (v := 0) dX12_never_0 (by decide) ?_
  refine dt_istore_n X [(1, .int 0), (0, .ref (dn_a u 100))] dX12_never_1 rfl rfl rfl ?_
  refine dt_iconst X (v := 0) dX12_never_2 (by decide) ?_
  refine dt_istore_n X [(2, .int 0), (1, .int 0), (0, .ref (dn_a u 100))] dX12_never_3 rfl rfl rfl ?_
  refine dt_sub X [(0, .ref (dn_a u 100)), (1, .int 0), (2, .int 0)] [2, 1, 0] rfl ?_
  exact b_X12_never_4 hu X 2048 0 0 s
set_option maxRecDepth 100000 in
set_option maxHeartbeats 4000000 in
theorem c_X12_now (l : Launch) (u : dn_U) (hu : dn_Lu u = dn_LR) (a1 : Int32) (s : dn_S) : dn_Met l u yX12_now wsX12_now 1 25 [.ref (dn_a u 100), .int a1] s (m_X12_now a1 s) (dn_QI u) := by
  refine dt_entry RX12 [(0, .ref (dn_a u 100)), (1, .int a1)] (by decide +kernel) rfl rfl rfl rfl (fun g hgl X => ?_)
  subst hgl
  unfold m_X12_now
  refine dt_iload_n X 1 dX12_now_0 rfl rfl ?_
  refine dt_i2l X dX12_now_1 ?_
  refine dt_lconst X (v := 0) dX12_now_2 (by decide) ?_
  refine dt_ldc2 X (v := 3) dX12_now_3 (by decide +kernel) ?_
  refine dt_callZ X (dn_runS X [.long ((a1 : Int32).toInt64), .long 0, .long 3] (c_X12_in (dn_la g) u hu ((a1 : Int32).toInt64) 0 3 s) gX12_now_X12_in rfl dn_hs_X12_in rfl rfl rfl rfl dX12_now_6) (fun r3 s1 e2 => ?_)
  refine dt_if_eqb X 21 dX12_now_9 (by decide) ?_ ?_
  · refine dt_iload_n X 1 dX12_now_21 rfl rfl ?_
    refine dt_iconst X (v := 4) dX12_now_22 (by decide) ?_
    refine dt_icmp_ne X 33 dX12_now_23 (by decide) ?_ ?_
    · refine dt_iload_n X 1 dX12_now_33 rfl rfl ?_
      refine dt_iconst X (v := 5) dX12_now_34 (by decide) ?_
      refine dt_icmp_ne X 45 dX12_now_35 (by decide) ?_ ?_
      · refine dt_iconst X (v := -1) dX12_now_45 (by decide) ?_
        exact dt_iret X dX12_now_46
      · refine dt_aload_n X 0 dX12_now_38 rfl rfl ?_
        refine dt_get X (T := TX12) (N := 35) (v := .int (dn_g s1 100 1)) 1 (dn_h100 hu) rfl dn_in_X12_now_12 rfl rfl dn_fw_X12_now_137 rfl dX12_now_39 ?_
        refine dt_goto X 46 dX12_now_42 (by decide) ?_
        exact dt_iret X dX12_now_46
    · refine dt_aload_n X 0 dX12_now_26 rfl rfl ?_
      refine dt_callI X (dn_runV X (T := TX12) (N := 35) [] (dn_h100 hu) rfl rfl (c_X12_never (dn_la g) u hu s1) gX12_now_X12_never rfl dn_hd_X12_never rfl rfl rfl rfl dX12_now_27) (fun r6 s4 e5 => ?_)
      refine dt_goto X 46 dX12_now_30 (by decide) ?_
      exact dt_iret X dX12_now_46
  · refine dt_aload_n X 0 dX12_now_12 rfl rfl ?_
    refine dt_get X (T := TX12) (N := 35) (v := .ref (dn_a u 101)) 0 (dn_h100 hu) rfl dn_in_X12_now_12 rfl rfl dn_fw_X12_now_7 rfl dX12_now_13 ?_
    refine dt_iload_n X 1 dX12_now_16 rfl rfl ?_
    refine dt_iald X (dn_h101 hu) dX12_now_17 ?_
    refine dt_goto X 46 dX12_now_18 (by decide) ?_
    exact dt_iret X dX12_now_46
set_option maxRecDepth 100000 in
set_option maxHeartbeats 4000000 in
theorem b_X12_isOver_22 {g : dn_M} {u : dn_U} (hu : dn_Lu u = dn_LR) (X : dn_X u g cX12_isOver wsX12_isOver RX12 1 0 0 (some .boolean)) (s : dn_S) : dn_T u g 1 (dn_QZ u) (m_X12_isOver_22 s) s 22 [] [] := by
  unfold m_X12_isOver_22
  refine dt_iconst X (v := 1) dX12_isOver_22 (by decide) ?_
  refine dt_goto X 27 dX12_isOver_23 (by decide) ?_
  exact dt_zret (v := true) X dX12_isOver_27
set_option maxRecDepth 100000 in
set_option maxHeartbeats 4000000 in
theorem c_X12_isOver (l : Launch) (u : dn_U) (hu : dn_Lu u = dn_LR) (s : dn_S) : dn_Met l u yX12_isOver wsX12_isOver 0 0 [.ref (dn_a u 100)] s (m_X12_isOver  s) (dn_QZ u) := by
  refine dt_entry RX12 [(0, .ref (dn_a u 100))] (by decide +kernel) rfl rfl rfl rfl (fun g hgl X => ?_)
  subst hgl
  unfold m_X12_isOver
  refine dt_aload_n X 0 dX12_isOver_0 rfl rfl ?_
  refine dt_get X (T := TX12) (N := 35) (v := .ref (dn_a u 101)) 0 (dn_h100 hu) rfl dn_in_X12_isOver_12 rfl rfl dn_fw_X12_isOver_7 rfl dX12_isOver_1 ?_
  refine dt_iconst X (v := 0) dX12_isOver_4 (by decide) ?_
  refine dt_iald X (dn_h101 hu) dX12_isOver_5 ?_
  refine dt_bipush X (v := 60) dX12_isOver_6 (by decide) ?_
  refine dt_icmp_eq X 22 dX12_isOver_8 (by decide) ?_ ?_
  · refine dt_sub X [] [] rfl ?_
    exact b_X12_isOver_22 hu X s
  · refine dt_aload_n X 0 dX12_isOver_11 rfl rfl ?_
    refine dt_get X (T := TX12) (N := 35) (v := .ref (dn_a u 101)) 0 (dn_h100 hu) rfl dn_in_X12_isOver_12 rfl rfl dn_fw_X12_isOver_7 rfl dX12_isOver_12 ?_
    refine dt_iconst X (v := 1) dX12_isOver_15 (by decide) ?_
    refine dt_iald X (dn_h101 hu) dX12_isOver_16 ?_
    refine dt_bipush X (v := 99) dX12_isOver_17 (by decide) ?_
    refine dt_icmp_ne X 26 dX12_isOver_19 (by decide) ?_ ?_
    · refine dt_iconst X (v := 0) dX12_isOver_26 (by decide) ?_
      exact dt_zret (v := false) X dX12_isOver_27
    · refine dt_sub X [] [] rfl ?_
      exact b_X12_isOver_22 hu X s
set_option maxRecDepth 100000 in
set_option maxHeartbeats 4000000 in
theorem b_X12_copy_2 {g : dn_M} {u : dn_U} (hu : dn_Lu u = dn_LR) (X : dn_X u g cX12_copy wsX12_copy RX12 4 0 0 none) : ∀ (n : Nat) (y1 : Int32) (y2 : Int32) (y3 : Int32) (s : dn_S), dn_T u g 4 (dn_QV u) (m_X12_copy_2 n y1 y2 y3 s) s 2 [(0, .ref (dn_a u 100)), (1, .int y1), (2, .int y2), (3, .int y3)] [] := by
  intro n
  induction n with
  | zero =>
    intro y1 y2 y3 s
    exact dt_none X
  | succ n ih =>
    intro y1 y2 y3 s
    rw [m_X12_copy_2]
    refine dt_iload_n X 3 dX12_copy_2 rfl rfl ?_
    refine dt_bipush X (v := 120) dX12_copy_3 (by decide) ?_
    refine dt_icmp_ge X 30 dX12_copy_5 (by decide) ?_ ?_
    · exact dt_vret X dX12_copy_30
    · refine dt_aload_n X 0 dX12_copy_8 rfl rfl ?_
      refine dt_get X (T := TX12) (N := 35) (v := .ref (dn_a u 101)) 0 (dn_h100 hu) rfl dn_in_X12_copy_12 rfl rfl dn_fw_X12_copy_7 rfl dX12_copy_9 ?_
      refine dt_iload_n X 2 dX12_copy_12 rfl rfl ?_
      refine dt_iload_n X 3 dX12_copy_13 rfl rfl ?_
      refine dt_iadd X dX12_copy_14 ?_
      refine dt_aload_n X 0 dX12_copy_15 rfl rfl ?_
      refine dt_get X (T := TX12) (N := 35) (v := .ref (dn_a u 101)) 0 (dn_h100 hu) rfl dn_in_X12_copy_12 rfl rfl dn_fw_X12_copy_7 rfl dX12_copy_16 ?_
      refine dt_iload_n X 1 dX12_copy_19 rfl rfl ?_
      refine dt_iload_n X 3 dX12_copy_20 rfl rfl ?_
      refine dt_iadd X dX12_copy_21 ?_
      refine dt_iald X (dn_h101 hu) dX12_copy_22 ?_
      refine dt_iast X (dn_h101 hu) dX12_copy_23 (fun s1 => ?_)
      refine dt_iinc X (v := y3 + 1) 3 [(3, .int (y3 + 1)), (0, .ref (dn_a u 100)), (1, .int y1), (2, .int y2)] dX12_copy_24 rfl (by rfl) rfl rfl ?_
      refine dt_ilet X rfl (fun x2 => ?_)
      refine dt_goto X 2 dX12_copy_27 (by decide) ?_
      refine dt_sub X [(0, .ref (dn_a u 100)), (1, .int y1), (2, .int y2), (3, .int x2)] [1, 2, 3, 0] rfl ?_
      exact ih y1 y2 x2 s1
set_option maxRecDepth 100000 in
set_option maxHeartbeats 4000000 in
theorem c_X12_copy (l : Launch) (u : dn_U) (hu : dn_Lu u = dn_LR) (a1 : Int32) (a2 : Int32) (s : dn_S) : dn_Met l u yX12_copy wsX12_copy 0 0 [.ref (dn_a u 100), .int a1, .int a2] s (m_X12_copy a1 a2 s) (dn_QV u) := by
  refine dt_entry RX12 [(0, .ref (dn_a u 100)), (1, .int a1), (2, .int a2)] (by decide +kernel) rfl rfl rfl rfl (fun g hgl X => ?_)
  subst hgl
  unfold m_X12_copy
  refine dt_iconst X (v := 0) dX12_copy_0 (by decide) ?_
  refine dt_istore_n X [(3, .int 0), (0, .ref (dn_a u 100)), (1, .int a1), (2, .int a2)] dX12_copy_1 rfl rfl rfl ?_
  refine dt_sub X [(0, .ref (dn_a u 100)), (1, .int a1), (2, .int a2), (3, .int 0)] [1, 2, 3, 0] rfl ?_
  exact b_X12_copy_2 hu X 2048 a1 a2 0 s
set_option maxRecDepth 100000 in
set_option maxHeartbeats 4000000 in
theorem b_X12_minds_57 {g : dn_M} {u : dn_U} (hu : dn_Lu u = dn_LR) (X : dn_X u g cX12_minds wsX12_minds RX12 2 1 23 none) (s : dn_S) : dn_T u g 2 (dn_QV u) (m_X12_minds_57 s) s 57 [(0, .ref (dn_a u 100))] [] := by
  unfold m_X12_minds_57
  refine dt_aload_n X 0 dX12_minds_57 rfl rfl ?_
  refine dt_iconst X (v := 0) dX12_minds_58 (by decide) ?_
  refine dt_sipush X (v := 480) dX12_minds_59 (by decide) ?_
  refine dt_bipush X (v := 120) dX12_minds_62 (by decide) ?_
  refine dt_aload_n X 0 dX12_minds_64 rfl rfl ?_
  refine dt_get X (T := TX12) (N := 35) (v := .int (dn_g s 100 1)) 1 (dn_h100 hu) rfl dn_in_X12_minds_12 rfl rfl dn_fw_X12_minds_137 rfl dX12_minds_65 ?_
  refine dt_imul X dX12_minds_68 ?_
  refine dt_iadd X dX12_minds_69 ?_
  refine dt_callV X (dn_runV X (T := TX12) (N := 35) [.int 0, .int (480 + (120 * (dn_g s 100 1)))] (dn_h100 hu) rfl rfl (c_X12_copy (dn_la g) u hu 0 (480 + (120 * (dn_g s 100 1))) s) gX12_minds_X12_copy rfl dn_hd_X12_copy rfl rfl rfl rfl dX12_minds_70) (fun r3 s1 e2 => ?_)
  refine dt_aload_n X 0 dX12_minds_73 rfl rfl ?_
  refine dt_dup X dX12_minds_74 rfl ?_
  refine dt_get X (T := TX12) (N := 35) (v := .int (dn_g s1 100 1)) 1 (dn_h100 hu) rfl dn_in_X12_minds_12 rfl rfl dn_fw_X12_minds_137 rfl dX12_minds_75 ?_
  refine dt_iconst X (v := 1) dX12_minds_78 (by decide) ?_
  refine dt_iadd X dX12_minds_79 ?_
  refine dt_put X (T := TX12) (N := 35) 1 (dn_h100 hu) rfl dn_in_X12_minds_12 rfl tyX12 tyX12_ok nmX12 rfl rfl dn_fw_X12_minds_137 rfl rfl (dn_set100_1 _ _ _) dX12_minds_80 (fun s4 => ?_)
  exact dt_vret X dX12_minds_83
set_option maxRecDepth 100000 in
set_option maxHeartbeats 4000000 in
theorem b_X12_minds_11 {g : dn_M} {u : dn_U} (hu : dn_Lu u = dn_LR) (X : dn_X u g cX12_minds wsX12_minds RX12 2 1 23 none) : ∀ (n : Nat) (y1 : Int32) (s : dn_S), dn_T u g 2 (dn_QV u) (m_X12_minds_11 n y1 s) s 11 [(0, .ref (dn_a u 100)), (1, .int y1)] [] := by
  intro n
  induction n with
  | zero =>
    intro y1 s
    exact dt_none X
  | succ n ih =>
    intro y1 s
    rw [m_X12_minds_11]
    refine dt_iload_n X 1 dX12_minds_11 rfl rfl ?_
    refine dt_sipush X (v := 1080) dX12_minds_12 (by decide) ?_
    refine dt_icmp_ge X 47 dX12_minds_15 (by decide) ?_ ?_
    · refine dt_aload_n X 0 dX12_minds_47 rfl rfl ?_
      refine dt_dup X dX12_minds_48 rfl ?_
      refine dt_get X (T := TX12) (N := 35) (v := .int (dn_g s 100 1)) 1 (dn_h100 hu) rfl dn_in_X12_minds_12 rfl rfl dn_fw_X12_minds_137 rfl dX12_minds_49 ?_
      refine dt_iconst X (v := 1) dX12_minds_52 (by decide) ?_
      refine dt_isub X dX12_minds_53 ?_
      refine dt_put X (T := TX12) (N := 35) 1 (dn_h100 hu) rfl dn_in_X12_minds_12 rfl tyX12 tyX12_ok nmX12 rfl rfl dn_fw_X12_minds_137 rfl rfl (dn_set100_1 _ _ _) dX12_minds_54 (fun s1 => ?_)
      refine dt_sub X [(0, .ref (dn_a u 100))] [0] rfl ?_
      exact b_X12_minds_57 hu X s1
    · refine dt_aload_n X 0 dX12_minds_18 rfl rfl ?_
      refine dt_get X (T := TX12) (N := 35) (v := .ref (dn_a u 101)) 0 (dn_h100 hu) rfl dn_in_X12_minds_12 rfl rfl dn_fw_X12_minds_7 rfl dX12_minds_19 ?_
      refine dt_sipush X (v := 480) dX12_minds_22 (by decide) ?_
      refine dt_iload_n X 1 dX12_minds_25 rfl rfl ?_
      refine dt_iadd X dX12_minds_26 ?_
      refine dt_aload_n X 0 dX12_minds_27 rfl rfl ?_
      refine dt_get X (T := TX12) (N := 35) (v := .ref (dn_a u 101)) 0 (dn_h100 hu) rfl dn_in_X12_minds_12 rfl rfl dn_fw_X12_minds_7 rfl dX12_minds_28 ?_
      refine dt_sipush X (v := 480) dX12_minds_31 (by decide) ?_
      refine dt_iload_n X 1 dX12_minds_34 rfl rfl ?_
      refine dt_iadd X dX12_minds_35 ?_
      refine dt_bipush X (v := 120) dX12_minds_36 (by decide) ?_
      refine dt_iadd X dX12_minds_38 ?_
      refine dt_iald X (dn_h101 hu) dX12_minds_39 ?_
      refine dt_iast X (dn_h101 hu) dX12_minds_40 (fun s2 => ?_)
      refine dt_iinc X (v := y1 + 1) 1 [(1, .int (y1 + 1)), (0, .ref (dn_a u 100))] dX12_minds_41 rfl (by rfl) rfl rfl ?_
      refine dt_ilet X rfl (fun x3 => ?_)
      refine dt_goto X 11 dX12_minds_44 (by decide) ?_
      refine dt_sub X [(0, .ref (dn_a u 100)), (1, .int x3)] [1, 0] rfl ?_
      exact ih x3 s2
set_option maxRecDepth 100000 in
set_option maxHeartbeats 4000000 in
theorem c_X12_minds (l : Launch) (u : dn_U) (hu : dn_Lu u = dn_LR) (s : dn_S) : dn_Met l u yX12_minds wsX12_minds 1 23 [.ref (dn_a u 100)] s (m_X12_minds  s) (dn_QV u) := by
  refine dt_entry RX12 [(0, .ref (dn_a u 100))] (by decide +kernel) rfl rfl rfl rfl (fun g hgl X => ?_)
  subst hgl
  unfold m_X12_minds
  refine dt_aload_n X 0 dX12_minds_0 rfl rfl ?_
  refine dt_get X (T := TX12) (N := 35) (v := .int (dn_g s 100 1)) 1 (dn_h100 hu) rfl dn_in_X12_minds_12 rfl rfl dn_fw_X12_minds_137 rfl dX12_minds_1 ?_
  refine dt_bipush X (v := 10) dX12_minds_4 (by decide) ?_
  refine dt_icmp_ne X 57 dX12_minds_6 (by decide) ?_ ?_
  · refine dt_sub X [(0, .ref (dn_a u 100))] [0] rfl ?_
    exact b_X12_minds_57 hu X s
  · refine dt_iconst X (v := 0) dX12_minds_9 (by decide) ?_
    refine dt_istore_n X [(1, .int 0), (0, .ref (dn_a u 100))] dX12_minds_10 rfl rfl rfl ?_
    refine dt_sub X [(0, .ref (dn_a u 100)), (1, .int 0)] [1, 0] rfl ?_
    exact b_X12_minds_11 hu X 2048 0 s
set_option maxRecDepth 100000 in
set_option maxHeartbeats 4000000 in
theorem b_X12_bidsOf_148 {g : dn_M} {u : dn_U} (hu : dn_Lu u = dn_LR) (X : dn_X u g cX12_bidsOf wsX12_bidsOf RX12 5 1 24 none) (y1 : Int32) (z0 : Int32) (z1 : Int32) (s : dn_S) : dn_T u g 5 (dn_QV u) (m_X12_bidsOf_148 y1 z0 z1 s) s 148 [(0, .ref (dn_a u 100)), (1, .int y1)] [.int z0, .int z1, .ref (dn_a u 115)] := by
  unfold m_X12_bidsOf_148
  refine dt_iast X (dn_h115 hu) dX12_bidsOf_148 (fun s1 => ?_)
  refine dt_aload_n X 0 dX12_bidsOf_149 rfl rfl ?_
  refine dt_get X (T := TX12) (N := 35) (v := .ref (dn_a u 116)) 31 (dn_h100 hu) rfl dn_in_X12_bidsOf_12 rfl rfl dn_fw_X12_bidsOf_60 rfl dX12_bidsOf_150 ?_
  refine dt_iconst X (v := 4) dX12_bidsOf_153 (by decide) ?_
  refine dt_aload_n X 0 dX12_bidsOf_154 rfl rfl ?_
  refine dt_get X (T := TX12) (N := 35) (v := .ref (dn_a u 101)) 0 (dn_h100 hu) rfl dn_in_X12_bidsOf_12 rfl rfl dn_fw_X12_bidsOf_7 rfl dX12_bidsOf_155 ?_
  refine dt_iload_n X 1 dX12_bidsOf_158 rfl rfl ?_
  refine dt_iconst X (v := 5) dX12_bidsOf_159 (by decide) ?_
  refine dt_iadd X dX12_bidsOf_160 ?_
  refine dt_iald X (dn_h101 hu) dX12_bidsOf_161 ?_
  refine dt_iast X (dn_h116 hu) dX12_bidsOf_162 (fun s2 => ?_)
  exact dt_vret X dX12_bidsOf_163
set_option maxRecDepth 100000 in
set_option maxHeartbeats 4000000 in
theorem b_X12_bidsOf_147 {g : dn_M} {u : dn_U} (hu : dn_Lu u = dn_LR) (X : dn_X u g cX12_bidsOf wsX12_bidsOf RX12 5 1 24 none) (y1 : Int32) (z0 : Int32) (s : dn_S) : dn_T u g 5 (dn_QV u) (m_X12_bidsOf_147 y1 z0 s) s 147 [(0, .ref (dn_a u 100)), (1, .int y1)] [.int z0, .ref (dn_a u 115)] := by
  unfold m_X12_bidsOf_147
  refine dt_iconst X (v := 0) dX12_bidsOf_147 (by decide) ?_
  refine dt_sub X [(0, .ref (dn_a u 100)), (1, .int y1)] [0, 1] rfl ?_
  exact b_X12_bidsOf_148 hu X y1 0 z0 s
set_option maxRecDepth 100000 in
set_option maxHeartbeats 4000000 in
theorem b_X12_bidsOf_98 {g : dn_M} {u : dn_U} (hu : dn_Lu u = dn_LR) (X : dn_X u g cX12_bidsOf wsX12_bidsOf RX12 5 1 24 none) (K2 : Int32 → Int32 → dn_S → Option (Unit × dn_S)) (H2 : ∀ (y1 : Int32) (y2 : Int32) (s : dn_S), dn_T u g 5 (dn_QV u) (K2 y1 y2 s) s 2 [(0, .ref (dn_a u 100)), (1, .int y1), (2, .int y2)] []) (y1 : Int32) (y2 : Int32) (s : dn_S) : dn_T u g 5 (dn_QV u) (m_X12_bidsOf_98 K2 y1 y2 s) s 98 [(0, .ref (dn_a u 100)), (1, .int y1), (2, .int y2)] [] := by
  unfold m_X12_bidsOf_98
  refine dt_iinc X (v := y2 + 1) 2 [(2, .int (y2 + 1)), (0, .ref (dn_a u 100)), (1, .int y1)] dX12_bidsOf_98 rfl (by rfl) rfl rfl ?_
  refine dt_ilet X rfl (fun x1 => ?_)
  refine dt_goto X 2 dX12_bidsOf_101 (by decide) ?_
  refine dt_sub X [(0, .ref (dn_a u 100)), (1, .int y1), (2, .int x1)] [1, 2, 0] rfl ?_
  exact H2 y1 x1 s
set_option maxRecDepth 100000 in
set_option maxHeartbeats 4000000 in
theorem b_X12_bidsOf_92 {g : dn_M} {u : dn_U} (hu : dn_Lu u = dn_LR) (X : dn_X u g cX12_bidsOf wsX12_bidsOf RX12 5 1 24 none) (K2 : Int32 → Int32 → dn_S → Option (Unit × dn_S)) (H2 : ∀ (y1 : Int32) (y2 : Int32) (s : dn_S), dn_T u g 5 (dn_QV u) (K2 y1 y2 s) s 2 [(0, .ref (dn_a u 100)), (1, .int y1), (2, .int y2)] []) (K16 : Int32 → Int32 → Int32 → dn_S → Option (Unit × dn_S)) (H16 : ∀ (y1 : Int32) (y2 : Int32) (y3 : Int32) (s : dn_S), dn_T u g 5 (dn_QV u) (K16 y1 y2 y3 s) s 16 [(0, .ref (dn_a u 100)), (1, .int y1), (2, .int y2), (3, .int y3)] []) (y1 : Int32) (y2 : Int32) (y3 : Int32) (s : dn_S) : dn_T u g 5 (dn_QV u) (m_X12_bidsOf_92 K2 K16 y1 y2 y3 s) s 92 [(0, .ref (dn_a u 100)), (1, .int y1), (2, .int y2), (3, .int y3)] [] := by
  unfold m_X12_bidsOf_92
  refine dt_iinc X (v := y3 + 1) 3 [(3, .int (y3 + 1)), (0, .ref (dn_a u 100)), (1, .int y1), (2, .int y2)] dX12_bidsOf_92 rfl (by rfl) rfl rfl ?_
  refine dt_ilet X rfl (fun x1 => ?_)
  refine dt_goto X 16 dX12_bidsOf_95 (by decide) ?_
  refine dt_sub X [(0, .ref (dn_a u 100)), (1, .int y1), (2, .int y2), (3, .int x1)] [1, 2, 3, 0] rfl ?_
  exact H16 y1 y2 x1 s
set_option maxRecDepth 100000 in
set_option maxHeartbeats 4000000 in
theorem b_X12_bidsOf_16 {g : dn_M} {u : dn_U} (hu : dn_Lu u = dn_LR) (X : dn_X u g cX12_bidsOf wsX12_bidsOf RX12 5 1 24 none) (K2 : Int32 → Int32 → dn_S → Option (Unit × dn_S)) (H2 : ∀ (y1 : Int32) (y2 : Int32) (s : dn_S), dn_T u g 5 (dn_QV u) (K2 y1 y2 s) s 2 [(0, .ref (dn_a u 100)), (1, .int y1), (2, .int y2)] []) : ∀ (n : Nat) (y1 : Int32) (y2 : Int32) (y3 : Int32) (s : dn_S), dn_T u g 5 (dn_QV u) (m_X12_bidsOf_16 K2 n y1 y2 y3 s) s 16 [(0, .ref (dn_a u 100)), (1, .int y1), (2, .int y2), (3, .int y3)] [] := by
  intro n
  induction n with
  | zero =>
    intro y1 y2 y3 s
    exact dt_none X
  | succ n ih =>
    intro y1 y2 y3 s
    rw [m_X12_bidsOf_16]
    refine dt_iload_n X 3 dX12_bidsOf_16 rfl rfl ?_
    refine dt_iconst X (v := 5) dX12_bidsOf_17 (by decide) ?_
    refine dt_icmp_ge X 98 dX12_bidsOf_18 (by decide) ?_ ?_
    · refine dt_sub X [(0, .ref (dn_a u 100)), (1, .int y1), (2, .int y2)] [0, 1, 2] rfl ?_
      exact b_X12_bidsOf_98 hu X K2 H2 y1 y2 s
    · refine dt_iload_n X 2 dX12_bidsOf_21 rfl rfl ?_
      refine dt_aload_n X 0 dX12_bidsOf_22 rfl rfl ?_
      refine dt_get X (T := TX12) (N := 35) (v := .int (dn_g s 100 3)) 3 (dn_h100 hu) rfl dn_in_X12_bidsOf_12 rfl rfl dn_fw_X12_bidsOf_125 rfl dX12_bidsOf_23 ?_
      refine dt_icmp_ge X 98 dX12_bidsOf_26 (by decide) ?_ ?_
      · refine dt_sub X [(0, .ref (dn_a u 100)), (1, .int y1), (2, .int y2)] [0, 1, 2] rfl ?_
        exact b_X12_bidsOf_98 hu X K2 H2 y1 y2 s
      · refine dt_aload_n X 0 dX12_bidsOf_29 rfl rfl ?_
        refine dt_get X (T := TX12) (N := 35) (v := .ref (dn_a u 105)) 6 (dn_h100 hu) rfl dn_in_X12_bidsOf_12 rfl rfl dn_fw_X12_bidsOf_23 rfl dX12_bidsOf_30 ?_
        refine dt_iconst X (v := 5) dX12_bidsOf_33 (by decide) ?_
        refine dt_iload_n X 2 dX12_bidsOf_34 rfl rfl ?_
        refine dt_imul X dX12_bidsOf_35 ?_
        refine dt_iload_n X 3 dX12_bidsOf_36 rfl rfl ?_
        refine dt_iadd X dX12_bidsOf_37 ?_
        refine dt_iald X (dn_h105 hu) dX12_bidsOf_38 ?_
        refine dt_let X (fun x1 => ?_)
        refine dt_istore X [(4, .int x1), (0, .ref (dn_a u 100)), (1, .int y1), (2, .int y2), (3, .int y3)] dX12_bidsOf_39 rfl rfl ?_
        refine dt_iload X 0 dX12_bidsOf_41 rfl ?_
        refine dt_aload_n X 1 dX12_bidsOf_43 rfl rfl ?_
        refine dt_get X (T := TX12) (N := 35) (v := .ref (dn_a u 115)) 30 (dn_h100 hu) rfl dn_in_X12_bidsOf_12 rfl rfl dn_fw_X12_bidsOf_57 rfl dX12_bidsOf_44 ?_
        refine dt_iload_n X 3 dX12_bidsOf_47 rfl rfl ?_
        refine dt_iald X (dn_h115 hu) dX12_bidsOf_48 ?_
        refine dt_icmp_le X 92 dX12_bidsOf_49 (by decide) ?_ ?_
        · refine dt_sub X [(0, .ref (dn_a u 100)), (1, .int y1), (2, .int y2), (3, .int y3)] [1, 2, 3, 4] rfl ?_
          exact b_X12_bidsOf_92 hu X K2 H2 (m_X12_bidsOf_16 K2 n) ih y1 y2 y3 s
        · refine dt_iload X 0 dX12_bidsOf_52 rfl ?_
          refine dt_aload_n X 1 dX12_bidsOf_54 rfl rfl ?_
          refine dt_get X (T := TX12) (N := 35) (v := .ref (dn_a u 101)) 0 (dn_h100 hu) rfl dn_in_X12_bidsOf_12 rfl rfl dn_fw_X12_bidsOf_7 rfl dX12_bidsOf_55 ?_
          refine dt_iload_n X 2 dX12_bidsOf_58 rfl rfl ?_
          refine dt_bipush X (v := 6) dX12_bidsOf_59 (by decide) ?_
          refine dt_iadd X dX12_bidsOf_61 ?_
          refine dt_iload_n X 3 dX12_bidsOf_62 rfl rfl ?_
          refine dt_iadd X dX12_bidsOf_63 ?_
          refine dt_iald X (dn_h101 hu) dX12_bidsOf_64 ?_
          refine dt_icmp_gt X 92 dX12_bidsOf_65 (by decide) ?_ ?_
          · refine dt_sub X [(0, .ref (dn_a u 100)), (1, .int y1), (2, .int y2), (3, .int y3)] [1, 2, 3, 4] rfl ?_
            exact b_X12_bidsOf_92 hu X K2 H2 (m_X12_bidsOf_16 K2 n) ih y1 y2 y3 s
          · refine dt_aload_n X 1 dX12_bidsOf_68 rfl rfl ?_
            refine dt_iload_n X 2 dX12_bidsOf_69 rfl rfl ?_
            refine dt_iload_n X 4 dX12_bidsOf_70 rfl rfl ?_
            refine dt_callZ X (dn_runV X (T := TX12) (N := 35) [.int y1, .int y3] (dn_h100 hu) rfl rfl (c_X12_isBarred (dn_la g) u hu y1 y3 s) gX12_bidsOf_X12_isBarred rfl dn_hd_X12_isBarred rfl rfl rfl rfl dX12_bidsOf_71) (fun r4 s2 e3 => ?_)
            refine dt_if_neb X 92 dX12_bidsOf_74 (by decide) ?_ ?_
            · refine dt_sub X [(0, .ref (dn_a u 100)), (1, .int y1), (2, .int y2), (3, .int y3)] [1, 2, 3, 4] rfl ?_
              exact b_X12_bidsOf_92 hu X K2 H2 (m_X12_bidsOf_16 K2 n) ih y1 y2 y3 s2
            · refine dt_aload_n X 1 dX12_bidsOf_77 rfl rfl ?_
              refine dt_get X (T := TX12) (N := 35) (v := .ref (dn_a u 115)) 30 (dn_h100 hu) rfl dn_in_X12_bidsOf_12 rfl rfl dn_fw_X12_bidsOf_57 rfl dX12_bidsOf_78 ?_
              refine dt_iload_n X 3 dX12_bidsOf_81 rfl rfl ?_
              refine dt_iload X 0 dX12_bidsOf_82 rfl ?_
              refine dt_iast X (dn_h115 hu) dX12_bidsOf_84 (fun s5 => ?_)
              refine dt_aload_n X 1 dX12_bidsOf_85 rfl rfl ?_
              refine dt_get X (T := TX12) (N := 35) (v := .ref (dn_a u 116)) 31 (dn_h100 hu) rfl dn_in_X12_bidsOf_12 rfl rfl dn_fw_X12_bidsOf_60 rfl dX12_bidsOf_86 ?_
              refine dt_iload_n X 3 dX12_bidsOf_89 rfl rfl ?_
              refine dt_iload_n X 4 dX12_bidsOf_90 rfl rfl ?_
              refine dt_iast X (dn_h116 hu) dX12_bidsOf_91 (fun s6 => ?_)
              refine dt_sub X [(0, .ref (dn_a u 100)), (1, .int y1), (2, .int y2), (3, .int y3)] [1, 2, 3, 4] rfl ?_
              exact b_X12_bidsOf_92 hu X K2 H2 (m_X12_bidsOf_16 K2 n) ih y1 y2 y3 s6
set_option maxRecDepth 100000 in
set_option maxHeartbeats 4000000 in
theorem b_X12_bidsOf_2 {g : dn_M} {u : dn_U} (hu : dn_Lu u = dn_LR) (X : dn_X u g cX12_bidsOf wsX12_bidsOf RX12 5 1 24 none) : ∀ (n : Nat) (y1 : Int32) (y2 : Int32) (s : dn_S), dn_T u g 5 (dn_QV u) (m_X12_bidsOf_2 n y1 y2 s) s 2 [(0, .ref (dn_a u 100)), (1, .int y1), (2, .int y2)] [] := by
  intro n
  induction n with
  | zero =>
    intro y1 y2 s
    exact dt_none X
  | succ n ih =>
    intro y1 y2 s
    rw [m_X12_bidsOf_2]
    refine dt_iload_n X 2 dX12_bidsOf_2 rfl rfl ?_
    refine dt_iconst X (v := 4) dX12_bidsOf_3 (by decide) ?_
    refine dt_icmp_ge X 104 dX12_bidsOf_4 (by decide) ?_ ?_
    · refine dt_aload_n X 0 dX12_bidsOf_104 rfl rfl ?_
      refine dt_get X (T := TX12) (N := 35) (v := .ref (dn_a u 115)) 30 (dn_h100 hu) rfl dn_in_X12_bidsOf_12 rfl rfl dn_fw_X12_bidsOf_57 rfl dX12_bidsOf_105 ?_
      refine dt_iconst X (v := 4) dX12_bidsOf_108 (by decide) ?_
      refine dt_aload_n X 0 dX12_bidsOf_109 rfl rfl ?_
      refine dt_get X (T := TX12) (N := 35) (v := .ref (dn_a u 101)) 0 (dn_h100 hu) rfl dn_in_X12_bidsOf_12 rfl rfl dn_fw_X12_bidsOf_7 rfl dX12_bidsOf_110 ?_
      refine dt_iload_n X 1 dX12_bidsOf_113 rfl rfl ?_
      refine dt_iconst X (v := 4) dX12_bidsOf_114 (by decide) ?_
      refine dt_iadd X dX12_bidsOf_115 ?_
      refine dt_iald X (dn_h101 hu) dX12_bidsOf_116 ?_
      refine dt_if_le X 147 dX12_bidsOf_117 (by decide) ?_ ?_
      · refine dt_sub X [(0, .ref (dn_a u 100)), (1, .int y1)] [0, 1] rfl ?_
        exact b_X12_bidsOf_147 hu X y1 4 s
      · refine dt_aload_n X 0 dX12_bidsOf_120 rfl rfl ?_
        refine dt_iload_n X 1 dX12_bidsOf_121 rfl rfl ?_
        refine dt_aload_n X 0 dX12_bidsOf_122 rfl rfl ?_
        refine dt_get X (T := TX12) (N := 35) (v := .ref (dn_a u 101)) 0 (dn_h100 hu) rfl dn_in_X12_bidsOf_12 rfl rfl dn_fw_X12_bidsOf_7 rfl dX12_bidsOf_123 ?_
        refine dt_iload_n X 1 dX12_bidsOf_126 rfl rfl ?_
        refine dt_iconst X (v := 5) dX12_bidsOf_127 (by decide) ?_
        refine dt_iadd X dX12_bidsOf_128 ?_
        refine dt_iald X (dn_h101 hu) dX12_bidsOf_129 ?_
        refine dt_callZ X (dn_runV X (T := TX12) (N := 35) [.int y1, .int (dn_g s 101 (y1 + 5).toNatClampNeg)] (dn_h100 hu) rfl rfl (c_X12_isBarred (dn_la g) u hu y1 (dn_g s 101 (y1 + 5).toNatClampNeg) s) gX12_bidsOf_X12_isBarred rfl dn_hd_X12_isBarred rfl rfl rfl rfl dX12_bidsOf_130) (fun r3 s1 e2 => ?_)
        refine dt_if_neb X 147 dX12_bidsOf_133 (by decide) ?_ ?_
        · refine dt_sub X [(0, .ref (dn_a u 100)), (1, .int y1)] [0, 1] rfl ?_
          exact b_X12_bidsOf_147 hu X y1 4 s1
        · refine dt_aload_n X 0 dX12_bidsOf_136 rfl rfl ?_
          refine dt_get X (T := TX12) (N := 35) (v := .ref (dn_a u 101)) 0 (dn_h100 hu) rfl dn_in_X12_bidsOf_12 rfl rfl dn_fw_X12_bidsOf_7 rfl dX12_bidsOf_137 ?_
          refine dt_iload_n X 1 dX12_bidsOf_140 rfl rfl ?_
          refine dt_iconst X (v := 4) dX12_bidsOf_141 (by decide) ?_
          refine dt_iadd X dX12_bidsOf_142 ?_
          refine dt_iald X (dn_h101 hu) dX12_bidsOf_143 ?_
          refine dt_goto X 148 dX12_bidsOf_144 (by decide) ?_
          refine dt_sub X [(0, .ref (dn_a u 100)), (1, .int y1)] [0, 1] rfl ?_
          exact b_X12_bidsOf_148 hu X y1 (dn_g s1 101 (y1 + 4).toNatClampNeg) 4 s1
    · refine dt_aload_n X 0 dX12_bidsOf_7 rfl rfl ?_
      refine dt_get X (T := TX12) (N := 35) (v := .ref (dn_a u 115)) 30 (dn_h100 hu) rfl dn_in_X12_bidsOf_12 rfl rfl dn_fw_X12_bidsOf_57 rfl dX12_bidsOf_8 ?_
      refine dt_iload_n X 2 dX12_bidsOf_11 rfl rfl ?_
      refine dt_iconst X (v := 0) dX12_bidsOf_12 (by decide) ?_
      refine dt_iast X (dn_h115 hu) dX12_bidsOf_13 (fun s4 => ?_)
      refine dt_iconst X (v := 0) dX12_bidsOf_14 (by decide) ?_
      refine dt_istore_n X [(3, .int 0), (0, .ref (dn_a u 100)), (1, .int y1), (2, .int y2)] dX12_bidsOf_15 rfl rfl rfl ?_
      refine dt_sub X [(0, .ref (dn_a u 100)), (1, .int y1), (2, .int y2), (3, .int 0)] [1, 2, 3, 0] rfl ?_
      exact b_X12_bidsOf_16 hu X (m_X12_bidsOf_2 n) ih 2048 y1 y2 0 s4
set_option maxRecDepth 100000 in
set_option maxHeartbeats 4000000 in
theorem c_X12_bidsOf (l : Launch) (u : dn_U) (hu : dn_Lu u = dn_LR) (a1 : Int32) (s : dn_S) : dn_Met l u yX12_bidsOf wsX12_bidsOf 1 24 [.ref (dn_a u 100), .int a1] s (m_X12_bidsOf a1 s) (dn_QV u) := by
  refine dt_entry RX12 [(0, .ref (dn_a u 100)), (1, .int a1)] (by decide +kernel) rfl rfl rfl rfl (fun g hgl X => ?_)
  subst hgl
  unfold m_X12_bidsOf
  refine dt_iconst X (v := 0) dX12_bidsOf_0 (by decide) ?_
  refine dt_istore_n X [(2, .int 0), (0, .ref (dn_a u 100)), (1, .int a1)] dX12_bidsOf_1 rfl rfl rfl ?_
  refine dt_sub X [(0, .ref (dn_a u 100)), (1, .int a1), (2, .int 0)] [1, 2, 0] rfl ?_
  exact b_X12_bidsOf_2 hu X 2048 a1 0 s
