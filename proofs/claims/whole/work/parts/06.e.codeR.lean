set_option maxRecDepth 100000 in
set_option maxHeartbeats 4000000 in
theorem c_X12_forget (l : Launch) (u : dn_U) (hu : dn_Lu u = dn_LR) (s : dn_S) : dn_Met l u yX12_forget wsX12_forget 0 0 [.ref (dn_a u 100)] s (m_X12_forget  s) (dn_QI u) := by
  refine dt_entry RX12 [(0, .ref (dn_a u 100))] (by decide +kernel) rfl rfl rfl rfl (fun g hgl X => ?_)
  subst hgl
  unfold m_X12_forget
  refine dt_aload_n X 0 dX12_forget_0 rfl rfl ?_
  refine dt_get X (T := TX12) (N := 35) (v := .int (dn_g s 100 10)) 10 (dn_h100 hu) rfl dn_in_X12_forget_12 rfl rfl dn_fw_X12_forget_131 rfl dX12_forget_1 ?_
  refine dt_let X (fun x1 => ?_)
  refine dt_istore_n X [(1, .int x1), (0, .ref (dn_a u 100))] dX12_forget_4 rfl rfl rfl ?_
  refine dt_aload_n X 1 dX12_forget_5 rfl rfl ?_
  refine dt_iconst X (v := 0) dX12_forget_6 (by decide) ?_
  refine dt_put X (T := TX12) (N := 35) 10 (dn_h100 hu) rfl dn_in_X12_forget_12 rfl tyX12 tyX12_ok nmX12 rfl rfl dn_fw_X12_forget_131 rfl rfl (dn_set100_10 _ _ _) dX12_forget_7 (fun s2 => ?_)
  refine dt_iload_n X 0 dX12_forget_10 rfl rfl ?_
  exact dt_iret X dX12_forget_11
set_option maxRecDepth 100000 in
set_option maxHeartbeats 4000000 in
theorem b_X12_isSo_74 {g : dn_M} {u : dn_U} (hu : dn_Lu u = dn_LR) (X : dn_X u g cX12_isSo wsX12_isSo RX12 5 4 94 (some .boolean)) (K8 : Bool → Int32 → dn_S → Option (Bool × dn_S)) (H8 : ∀ (y1 : Bool) (y2 : Int32) (s : dn_S), dn_T u g 5 (dn_QZ u) (K8 y1 y2 s) s 8 [(0, .ref (dn_a u 100)), (1, .int (dn_b y1)), (2, .int y2)] []) (K24 : Bool → Int32 → Int32 → Int32 → dn_S → Option (Bool × dn_S)) (H24 : ∀ (y1 : Bool) (y2 : Int32) (y3 : Int32) (y4 : Int32) (s : dn_S), dn_T u g 5 (dn_QZ u) (K24 y1 y2 y3 y4 s) s 24 [(0, .ref (dn_a u 100)), (1, .int (dn_b y1)), (2, .int y2), (3, .int y3), (4, .int y4)] []) (y2 : Int32) (y3 : Int32) (y4 : Int32) (z0 : Bool) (s : dn_S) : dn_T u g 5 (dn_QZ u) (m_X12_isSo_74 K8 K24 y2 y3 y4 z0 s) s 74 [(0, .ref (dn_a u 100)), (2, .int y2), (3, .int y3), (4, .int y4)] [.int (dn_b z0)] := by
  unfold m_X12_isSo_74
  refine dt_istore_n X [(1, .int (dn_b z0)), (0, .ref (dn_a u 100)), (2, .int y2), (3, .int y3), (4, .int y4)] dX12_isSo_74 rfl rfl rfl ?_
  refine dt_iinc X (v := y4 + 1) 4 [(4, .int (y4 + 1)), (1, .int (dn_b z0)), (0, .ref (dn_a u 100)), (2, .int y2), (3, .int y3)] dX12_isSo_75 rfl (by rfl) rfl rfl ?_
  refine dt_ilet X rfl (fun x1 => ?_)
  refine dt_goto X 24 dX12_isSo_78 (by decide) ?_
  refine dt_sub X [(0, .ref (dn_a u 100)), (1, .int (dn_b z0)), (2, .int y2), (3, .int y3), (4, .int x1)] [2, 1, 3, 4, 0] rfl ?_
  exact H24 z0 y2 y3 x1 s
set_option maxRecDepth 100000 in
set_option maxHeartbeats 4000000 in
theorem b_X12_isSo_73 {g : dn_M} {u : dn_U} (hu : dn_Lu u = dn_LR) (X : dn_X u g cX12_isSo wsX12_isSo RX12 5 4 94 (some .boolean)) (K8 : Bool → Int32 → dn_S → Option (Bool × dn_S)) (H8 : ∀ (y1 : Bool) (y2 : Int32) (s : dn_S), dn_T u g 5 (dn_QZ u) (K8 y1 y2 s) s 8 [(0, .ref (dn_a u 100)), (1, .int (dn_b y1)), (2, .int y2)] []) (K24 : Bool → Int32 → Int32 → Int32 → dn_S → Option (Bool × dn_S)) (H24 : ∀ (y1 : Bool) (y2 : Int32) (y3 : Int32) (y4 : Int32) (s : dn_S), dn_T u g 5 (dn_QZ u) (K24 y1 y2 y3 y4 s) s 24 [(0, .ref (dn_a u 100)), (1, .int (dn_b y1)), (2, .int y2), (3, .int y3), (4, .int y4)] []) (y2 : Int32) (y3 : Int32) (y4 : Int32) (s : dn_S) : dn_T u g 5 (dn_QZ u) (m_X12_isSo_73 K8 K24 y2 y3 y4 s) s 73 [(0, .ref (dn_a u 100)), (2, .int y2), (3, .int y3), (4, .int y4)] [] := by
  unfold m_X12_isSo_73
  refine dt_iconst X (v := 0) dX12_isSo_73 (by decide) ?_
  refine dt_sub X [(0, .ref (dn_a u 100)), (2, .int y2), (3, .int y3), (4, .int y4)] [0, 1, 2, 3] rfl ?_
  exact b_X12_isSo_74 hu X K8 H8 K24 H24 y2 y3 y4 false s
set_option maxRecDepth 100000 in
set_option maxHeartbeats 4000000 in
theorem b_X12_isSo_69 {g : dn_M} {u : dn_U} (hu : dn_Lu u = dn_LR) (X : dn_X u g cX12_isSo wsX12_isSo RX12 5 4 94 (some .boolean)) (K8 : Bool → Int32 → dn_S → Option (Bool × dn_S)) (H8 : ∀ (y1 : Bool) (y2 : Int32) (s : dn_S), dn_T u g 5 (dn_QZ u) (K8 y1 y2 s) s 8 [(0, .ref (dn_a u 100)), (1, .int (dn_b y1)), (2, .int y2)] []) (K24 : Bool → Int32 → Int32 → Int32 → dn_S → Option (Bool × dn_S)) (H24 : ∀ (y1 : Bool) (y2 : Int32) (y3 : Int32) (y4 : Int32) (s : dn_S), dn_T u g 5 (dn_QZ u) (K24 y1 y2 y3 y4 s) s 24 [(0, .ref (dn_a u 100)), (1, .int (dn_b y1)), (2, .int y2), (3, .int y3), (4, .int y4)] []) (y2 : Int32) (y3 : Int32) (y4 : Int32) (s : dn_S) : dn_T u g 5 (dn_QZ u) (m_X12_isSo_69 K8 K24 y2 y3 y4 s) s 69 [(0, .ref (dn_a u 100)), (2, .int y2), (3, .int y3), (4, .int y4)] [] := by
  unfold m_X12_isSo_69
  refine dt_iconst X (v := 1) dX12_isSo_69 (by decide) ?_
  refine dt_goto X 74 dX12_isSo_70 (by decide) ?_
  refine dt_sub X [(0, .ref (dn_a u 100)), (2, .int y2), (3, .int y3), (4, .int y4)] [0, 1, 2, 3] rfl ?_
  exact b_X12_isSo_74 hu X K8 H8 K24 H24 y2 y3 y4 true s
set_option maxRecDepth 100000 in
set_option maxHeartbeats 4000000 in
theorem b_X12_isSo_66 {g : dn_M} {u : dn_U} (hu : dn_Lu u = dn_LR) (X : dn_X u g cX12_isSo wsX12_isSo RX12 5 4 94 (some .boolean)) (K8 : Bool → Int32 → dn_S → Option (Bool × dn_S)) (H8 : ∀ (y1 : Bool) (y2 : Int32) (s : dn_S), dn_T u g 5 (dn_QZ u) (K8 y1 y2 s) s 8 [(0, .ref (dn_a u 100)), (1, .int (dn_b y1)), (2, .int y2)] []) (K24 : Bool → Int32 → Int32 → Int32 → dn_S → Option (Bool × dn_S)) (H24 : ∀ (y1 : Bool) (y2 : Int32) (y3 : Int32) (y4 : Int32) (s : dn_S), dn_T u g 5 (dn_QZ u) (K24 y1 y2 y3 y4 s) s 24 [(0, .ref (dn_a u 100)), (1, .int (dn_b y1)), (2, .int y2), (3, .int y3), (4, .int y4)] []) (y2 : Int32) (y3 : Int32) (y4 : Int32) (z0 : Int32) (z1 : Int32) (s : dn_S) : dn_T u g 5 (dn_QZ u) (m_X12_isSo_66 K8 K24 y2 y3 y4 z0 z1 s) s 66 [(0, .ref (dn_a u 100)), (2, .int y2), (3, .int y3), (4, .int y4)] [.int z0, .int z1] := by
  unfold m_X12_isSo_66
  refine dt_icmp_ne X 73 dX12_isSo_66 (by decide) ?_ ?_
  · refine dt_sub X [(0, .ref (dn_a u 100)), (2, .int y2), (3, .int y3), (4, .int y4)] [0, 1, 2, 3] rfl ?_
    exact b_X12_isSo_73 hu X K8 H8 K24 H24 y2 y3 y4 s
  · refine dt_sub X [(0, .ref (dn_a u 100)), (2, .int y2), (3, .int y3), (4, .int y4)] [0, 1, 2, 3] rfl ?_
    exact b_X12_isSo_69 hu X K8 H8 K24 H24 y2 y3 y4 s
set_option maxRecDepth 100000 in
set_option maxHeartbeats 4000000 in
theorem b_X12_isSo_24 {g : dn_M} {u : dn_U} (hu : dn_Lu u = dn_LR) (X : dn_X u g cX12_isSo wsX12_isSo RX12 5 4 94 (some .boolean)) (K8 : Bool → Int32 → dn_S → Option (Bool × dn_S)) (H8 : ∀ (y1 : Bool) (y2 : Int32) (s : dn_S), dn_T u g 5 (dn_QZ u) (K8 y1 y2 s) s 8 [(0, .ref (dn_a u 100)), (1, .int (dn_b y1)), (2, .int y2)] []) : ∀ (n : Nat) (y1 : Bool) (y2 : Int32) (y3 : Int32) (y4 : Int32) (s : dn_S), dn_T u g 5 (dn_QZ u) (m_X12_isSo_24 K8 n y1 y2 y3 y4 s) s 24 [(0, .ref (dn_a u 100)), (1, .int (dn_b y1)), (2, .int y2), (3, .int y3), (4, .int y4)] [] := by
  intro n
  induction n with
  | zero =>
    intro y1 y2 y3 y4 s
    exact dt_none X
  | succ n ih =>
    intro y1 y2 y3 y4 s
    rw [m_X12_isSo_24]
    refine dt_iload X 4 dX12_isSo_24 rfl ?_
    refine dt_aload_n X 0 dX12_isSo_26 rfl rfl ?_
    refine dt_get X (T := TX12) (N := 35) (v := .int (dn_g s 100 10)) 10 (dn_h100 hu) rfl dn_in_X12_isSo_12 rfl rfl dn_fw_X12_isSo_131 rfl dX12_isSo_27 ?_
    refine dt_icmp_ge X 81 dX12_isSo_30 (by decide) ?_ ?_
    · refine dt_iinc X (v := y2 + 1) 2 [(2, .int (y2 + 1)), (0, .ref (dn_a u 100)), (1, .int (dn_b y1)), (3, .int y3), (4, .int y4)] dX12_isSo_81 rfl (by rfl) rfl rfl ?_
      refine dt_ilet X rfl (fun x1 => ?_)
      refine dt_goto X 8 dX12_isSo_84 (by decide) ?_
      refine dt_sub X [(0, .ref (dn_a u 100)), (1, .int (dn_b y1)), (2, .int x1)] [1, 2, 0] rfl ?_
      exact H8 y1 x1 s
    · refine dt_iload_n X 1 dX12_isSo_33 rfl rfl ?_
      refine dt_if_eqb X 73 dX12_isSo_34 (by decide) ?_ ?_
      · refine dt_sub X [(0, .ref (dn_a u 100)), (2, .int y2), (3, .int y3), (4, .int y4)] [0, 2, 3, 4] rfl ?_
        exact b_X12_isSo_73 hu X K8 H8 (m_X12_isSo_24 K8 n) ih y2 y3 y4 s
      · refine dt_aload_n X 0 dX12_isSo_37 rfl rfl ?_
        refine dt_get X (T := TX12) (N := 35) (v := .ref (dn_a u 107)) 11 (dn_h100 hu) rfl dn_in_X12_isSo_12 rfl rfl dn_fw_X12_isSo_33 rfl dX12_isSo_38 ?_
        refine dt_iload X 4 dX12_isSo_41 rfl ?_
        refine dt_iald X (dn_h107 hu) dX12_isSo_43 ?_
        refine dt_iload_n X 2 dX12_isSo_44 rfl rfl ?_
        refine dt_icmp_ne X 69 dX12_isSo_45 (by decide) ?_ ?_
        · refine dt_sub X [(0, .ref (dn_a u 100)), (2, .int y2), (3, .int y3), (4, .int y4)] [0, 2, 3, 4] rfl ?_
          exact b_X12_isSo_69 hu X K8 H8 (m_X12_isSo_24 K8 n) ih y2 y3 y4 s
        · refine dt_aload_n X 0 dX12_isSo_48 rfl rfl ?_
          refine dt_get X (T := TX12) (N := 35) (v := .ref (dn_a u 108)) 12 (dn_h100 hu) rfl dn_in_X12_isSo_12 rfl rfl dn_fw_X12_isSo_36 rfl dX12_isSo_49 ?_
          refine dt_iload X 4 dX12_isSo_52 rfl ?_
          refine dt_iald X (dn_h108 hu) dX12_isSo_54 ?_
          refine dt_iload_n X 3 dX12_isSo_55 rfl rfl ?_
          refine dt_bipush X (v := -5) dX12_isSo_56 (by decide) ?_
          refine dt_icmp_ne X 65 dX12_isSo_58 (by decide) ?_ ?_
          · refine dt_iload_n X 3 dX12_isSo_65 rfl rfl ?_
            refine dt_sub X [(0, .ref (dn_a u 100)), (2, .int y2), (3, .int y3), (4, .int y4)] [0, 2, 3, 4] rfl ?_
            exact b_X12_isSo_66 hu X K8 H8 (m_X12_isSo_24 K8 n) ih y2 y3 y4 y3 (dn_g s 108 y4.toNatClampNeg) s
          · refine dt_iconst X (v := -1) dX12_isSo_61 (by decide) ?_
            refine dt_goto X 66 dX12_isSo_62 (by decide) ?_
            refine dt_sub X [(0, .ref (dn_a u 100)), (2, .int y2), (3, .int y3), (4, .int y4)] [0, 2, 3, 4] rfl ?_
            exact b_X12_isSo_66 hu X K8 H8 (m_X12_isSo_24 K8 n) ih y2 y3 y4 (-1) (dn_g s 108 y4.toNatClampNeg) s
set_option maxRecDepth 100000 in
set_option maxHeartbeats 4000000 in
theorem b_X12_isSo_8 {g : dn_M} {u : dn_U} (hu : dn_Lu u = dn_LR) (X : dn_X u g cX12_isSo wsX12_isSo RX12 5 4 94 (some .boolean)) : ∀ (n : Nat) (y1 : Bool) (y2 : Int32) (s : dn_S), dn_T u g 5 (dn_QZ u) (m_X12_isSo_8 n y1 y2 s) s 8 [(0, .ref (dn_a u 100)), (1, .int (dn_b y1)), (2, .int y2)] [] := by
  intro n
  induction n with
  | zero =>
    intro y1 y2 s
    exact dt_none X
  | succ n ih =>
    intro y1 y2 s
    rw [m_X12_isSo_8]
    refine dt_iload_n X 2 dX12_isSo_8 rfl rfl ?_
    refine dt_bipush X (v := 8) dX12_isSo_9 (by decide) ?_
    refine dt_icmp_gt X 87 dX12_isSo_11 (by decide) ?_ ?_
    · refine dt_iload_n X 1 dX12_isSo_87 rfl rfl ?_
      exact dt_zret (v := y1) X dX12_isSo_88
    · refine dt_aload_n X 0 dX12_isSo_14 rfl rfl ?_
      refine dt_bipush X (v := 120) dX12_isSo_15 (by decide) ?_
      refine dt_callI X (dn_runV X (T := TX12) (N := 35) [.int 120] (dn_h100 hu) rfl rfl (c_X12_goes (dn_la g) u hu 120 s) gX12_isSo_X12_goes rfl dn_hd_X12_goes rfl rfl rfl rfl dX12_isSo_17) (fun r3 s1 e2 => ?_)
      refine dt_istore_n X [(3, .int r3), (0, .ref (dn_a u 100)), (1, .int (dn_b y1)), (2, .int y2)] dX12_isSo_20 rfl rfl rfl ?_
      refine dt_iconst X (v := 0) dX12_isSo_21 (by decide) ?_
      refine dt_istore X [(4, .int 0), (3, .int r3), (0, .ref (dn_a u 100)), (1, .int (dn_b y1)), (2, .int y2)] dX12_isSo_22 rfl rfl ?_
      refine dt_sub X [(0, .ref (dn_a u 100)), (1, .int (dn_b y1)), (2, .int y2), (3, .int r3), (4, .int 0)] [2, 3, 4, 1, 0] rfl ?_
      exact b_X12_isSo_24 hu X (m_X12_isSo_8 n) ih 2048 y1 y2 r3 0 s1
set_option maxRecDepth 100000 in
set_option maxHeartbeats 4000000 in
theorem c_X12_isSo (l : Launch) (u : dn_U) (hu : dn_Lu u = dn_LR) (s : dn_S) : dn_Met l u yX12_isSo wsX12_isSo 4 94 [.ref (dn_a u 100)] s (m_X12_isSo  s) (dn_QZ u) := by
  refine dt_entry RX12 [(0, .ref (dn_a u 100))] (by decide +kernel) rfl rfl rfl rfl (fun g hgl X => ?_)
  subst hgl
  unfold m_X12_isSo
  refine dt_iconst X (v := 1) dX12_isSo_0 (by decide) ?_
  refine dt_istore_n X [(1, .int 1), (0, .ref (dn_a u 100))] dX12_isSo_1 rfl rfl rfl ?_
  refine dt_aload_n X 1 dX12_isSo_2 rfl rfl ?_
  refine dt_callV X (dn_runV X (T := TX12) (N := 35) [] (dn_h100 hu) rfl rfl (c_X12_tries (dn_la g) u hu s) gX12_isSo_X12_tries rfl dn_hd_X12_tries rfl rfl rfl rfl dX12_isSo_3) (fun r3 s1 e2 => ?_)
  refine dt_iconst X (v := 1) dX12_isSo_6 (by decide) ?_
  refine dt_istore_n X [(2, .int 1), (1, .int 1), (0, .ref (dn_a u 100))] dX12_isSo_7 rfl rfl rfl ?_
  refine dt_sub X [(0, .ref (dn_a u 100)), (1, .int 1), (2, .int 1)] [2, 1, 0] rfl ?_
  exact b_X12_isSo_8 hu X 2048 true 1 s1
set_option maxRecDepth 100000 in
set_option maxHeartbeats 4000000 in
theorem b_X12_mayBe_93 {g : dn_M} {u : dn_U} (hu : dn_Lu u = dn_LR) (X : dn_X u g cX12_mayBe wsX12_mayBe RX12 9 5 118 (some .int)) (K53 : Int32 → Int32 → Int32 → Int32 → Int32 → Int32 → dn_S → Option (Int32 × dn_S)) (H53 : ∀ (y3 : Int32) (y4 : Int32) (y5 : Int32) (y6 : Int32) (y7 : Int32) (y8 : Int32) (s : dn_S), dn_T u g 9 (dn_QI u) (K53 y3 y4 y5 y6 y7 y8 s) s 53 [(0, .ref (dn_a u 100)), (3, .int y3), (4, .int y4), (5, .int y5), (6, .int y6), (7, .int y7), (8, .int y8)] []) (y3 : Int32) (y4 : Int32) (y5 : Int32) (y6 : Int32) (y7 : Int32) (y8 : Int32) (s : dn_S) : dn_T u g 9 (dn_QI u) (m_X12_mayBe_93 K53 y3 y4 y5 y6 y7 y8 s) s 93 [(0, .ref (dn_a u 100)), (3, .int y3), (4, .int y4), (5, .int y5), (6, .int y6), (7, .int y7), (8, .int y8)] [] := by
  unfold m_X12_mayBe_93
  refine dt_iinc X (v := y8 + 1) 6 [(8, .int (y8 + 1)), (0, .ref (dn_a u 100)), (3, .int y3), (4, .int y4), (5, .int y5), (6, .int y6), (7, .int y7)] dX12_mayBe_93 rfl (by rfl) rfl rfl ?_
  refine dt_ilet X rfl (fun x1 => ?_)
  refine dt_goto X 53 dX12_mayBe_96 (by decide) ?_
  refine dt_sub X [(0, .ref (dn_a u 100)), (3, .int y3), (4, .int y4), (5, .int y5), (6, .int y6), (7, .int y7), (8, .int x1)] [1, 2, 3, 4, 5, 6, 0] rfl ?_
  exact H53 y3 y4 y5 y6 y7 x1 s
set_option maxRecDepth 100000 in
set_option maxHeartbeats 4000000 in
theorem b_X12_mayBe_88 {g : dn_M} {u : dn_U} (hu : dn_Lu u = dn_LR) (X : dn_X u g cX12_mayBe wsX12_mayBe RX12 9 5 118 (some .int)) (K53 : Int32 → Int32 → Int32 → Int32 → Int32 → Int32 → dn_S → Option (Int32 × dn_S)) (H53 : ∀ (y3 : Int32) (y4 : Int32) (y5 : Int32) (y6 : Int32) (y7 : Int32) (y8 : Int32) (s : dn_S), dn_T u g 9 (dn_QI u) (K53 y3 y4 y5 y6 y7 y8 s) s 53 [(0, .ref (dn_a u 100)), (3, .int y3), (4, .int y4), (5, .int y5), (6, .int y6), (7, .int y7), (8, .int y8)] []) (y3 : Int32) (y4 : Int32) (y5 : Int32) (y6 : Int32) (y8 : Int32) (z0 : Int32) (s : dn_S) : dn_T u g 9 (dn_QI u) (m_X12_mayBe_88 K53 y3 y4 y5 y6 y8 z0 s) s 88 [(0, .ref (dn_a u 100)), (3, .int y3), (4, .int y4), (5, .int y5), (6, .int y6), (8, .int y8)] [.int z0] := by
  unfold m_X12_mayBe_88
  refine dt_istore X [(7, .int z0), (0, .ref (dn_a u 100)), (3, .int y3), (4, .int y4), (5, .int y5), (6, .int y6), (8, .int y8)] dX12_mayBe_88 rfl rfl ?_
  refine dt_iinc X (v := y6 + 1) 5 [(6, .int (y6 + 1)), (7, .int z0), (0, .ref (dn_a u 100)), (3, .int y3), (4, .int y4), (5, .int y5), (8, .int y8)] dX12_mayBe_90 rfl (by rfl) rfl rfl ?_
  refine dt_ilet X rfl (fun x1 => ?_)
  refine dt_sub X [(0, .ref (dn_a u 100)), (3, .int y3), (4, .int y4), (5, .int y5), (6, .int x1), (7, .int z0), (8, .int y8)] [2, 3, 4, 5, 0, 1, 6] rfl ?_
  exact b_X12_mayBe_93 hu X K53 H53 y3 y4 y5 x1 z0 y8 s
set_option maxRecDepth 100000 in
set_option maxHeartbeats 4000000 in
theorem b_X12_mayBe_53 {g : dn_M} {u : dn_U} (hu : dn_Lu u = dn_LR) (X : dn_X u g cX12_mayBe wsX12_mayBe RX12 9 5 118 (some .int)) : ∀ (n : Nat) (y3 : Int32) (y4 : Int32) (y5 : Int32) (y6 : Int32) (y7 : Int32) (y8 : Int32) (s : dn_S), dn_T u g 9 (dn_QI u) (m_X12_mayBe_53 n y3 y4 y5 y6 y7 y8 s) s 53 [(0, .ref (dn_a u 100)), (3, .int y3), (4, .int y4), (5, .int y5), (6, .int y6), (7, .int y7), (8, .int y8)] [] := by
  intro n
  induction n with
  | zero =>
    intro y3 y4 y5 y6 y7 y8 s
    exact dt_none X
  | succ n ih =>
    intro y3 y4 y5 y6 y7 y8 s
    rw [m_X12_mayBe_53]
    refine dt_iload X 6 dX12_mayBe_53 rfl ?_
    refine dt_bipush X (v := 20) dX12_mayBe_55 (by decide) ?_
    refine dt_icmp_gt X 99 dX12_mayBe_57 (by decide) ?_ ?_
    · refine dt_aload_n X 0 dX12_mayBe_99 rfl rfl ?_
      refine dt_get X (T := TX12) (N := 35) (v := .ref (dn_a u 105)) 6 (dn_h100 hu) rfl dn_in_X12_mayBe_12 rfl rfl dn_fw_X12_mayBe_23 rfl dX12_mayBe_100 ?_
      refine dt_iload X 2 dX12_mayBe_103 rfl ?_
      refine dt_iload X 3 dX12_mayBe_105 rfl ?_
      refine dt_iast X (dn_h105 hu) dX12_mayBe_107 (fun s1 => ?_)
      refine dt_iload_n X 1 dX12_mayBe_108 rfl rfl ?_
      refine dt_if_ne X 117 dX12_mayBe_109 (by decide) ?_ ?_
      · refine dt_iload X 5 dX12_mayBe_117 rfl ?_
        exact dt_iret X dX12_mayBe_119
      · refine dt_iload X 4 dX12_mayBe_112 rfl ?_
        refine dt_goto X 119 dX12_mayBe_114 (by decide) ?_
        exact dt_iret X dX12_mayBe_119
    · refine dt_aload_n X 0 dX12_mayBe_60 rfl rfl ?_
      refine dt_get X (T := TX12) (N := 35) (v := .ref (dn_a u 105)) 6 (dn_h100 hu) rfl dn_in_X12_mayBe_12 rfl rfl dn_fw_X12_mayBe_23 rfl dX12_mayBe_61 ?_
      refine dt_iload X 2 dX12_mayBe_64 rfl ?_
      refine dt_iload X 6 dX12_mayBe_66 rfl ?_
      refine dt_iast X (dn_h105 hu) dX12_mayBe_68 (fun s2 => ?_)
      refine dt_aload_n X 0 dX12_mayBe_69 rfl rfl ?_
      refine dt_callZ X (dn_runV X (T := TX12) (N := 35) [] (dn_h100 hu) rfl rfl (c_X12_isSo (dn_la g) u hu s2) gX12_mayBe_X12_isSo rfl dn_hd_X12_isSo rfl rfl rfl rfl dX12_mayBe_70) (fun r5 s3 e4 => ?_)
      refine dt_if_eqb X 93 dX12_mayBe_73 (by decide) ?_ ?_
      · refine dt_sub X [(0, .ref (dn_a u 100)), (3, .int y3), (4, .int y4), (5, .int y5), (6, .int y6), (7, .int y7), (8, .int y8)] [0, 1, 2, 3, 4, 5, 6] rfl ?_
        exact b_X12_mayBe_93 hu X (m_X12_mayBe_53 n) ih y3 y4 y5 y6 y7 y8 s3
      · refine dt_iload X 4 dX12_mayBe_76 rfl ?_
        refine dt_if_ne X 86 dX12_mayBe_78 (by decide) ?_ ?_
        · refine dt_iload X 5 dX12_mayBe_86 rfl ?_
          refine dt_sub X [(0, .ref (dn_a u 100)), (3, .int y3), (4, .int y4), (5, .int y5), (6, .int y6), (8, .int y8)] [0, 1, 2, 3, 4, 6] rfl ?_
          exact b_X12_mayBe_88 hu X (m_X12_mayBe_53 n) ih y3 y4 y5 y6 y8 y7 s3
        · refine dt_iload X 6 dX12_mayBe_81 rfl ?_
          refine dt_goto X 88 dX12_mayBe_83 (by decide) ?_
          refine dt_sub X [(0, .ref (dn_a u 100)), (3, .int y3), (4, .int y4), (5, .int y5), (6, .int y6), (8, .int y8)] [0, 1, 2, 3, 4, 6] rfl ?_
          exact b_X12_mayBe_88 hu X (m_X12_mayBe_53 n) ih y3 y4 y5 y6 y8 y8 s3
set_option maxRecDepth 100000 in
set_option maxHeartbeats 4000000 in
theorem c_X12_mayBe (l : Launch) (u : dn_U) (hu : dn_Lu u = dn_LR) (a1 : Int32) (a2 : Int32) (a3 : Int32) (s : dn_S) : dn_Met l u yX12_mayBe wsX12_mayBe 5 118 [.ref (dn_a u 100), .int a1, .int a2, .int a3] s (m_X12_mayBe a1 a2 a3 s) (dn_QI u) := by
  refine dt_entry RX12 [(0, .ref (dn_a u 100)), (1, .int a1), (2, .int a2), (3, .int a3)] (by decide +kernel) rfl rfl rfl rfl (fun g hgl X => ?_)
  subst hgl
  unfold m_X12_mayBe
  refine dt_aload_n X 0 dX12_mayBe_0 rfl rfl ?_
  refine dt_iload_n X 1 dX12_mayBe_1 rfl rfl ?_
  refine dt_callZ X (dn_runV X (T := TX12) (N := 35) [.int a1] (dn_h100 hu) rfl rfl (c_X12_isBidder (dn_la g) u hu a1 s) gX12_mayBe_X12_isBidder rfl dn_hd_X12_isBidder rfl rfl rfl rfl dX12_mayBe_2) (fun r3 s1 e2 => ?_)
  refine dt_if_eqb X 25 dX12_mayBe_5 (by decide) ?_ ?_
  · refine dt_iconst X (v := -1) dX12_mayBe_25 (by decide) ?_
    exact dt_iret X dX12_mayBe_26
  · refine dt_iload_n X 2 dX12_mayBe_8 rfl rfl ?_
    refine dt_callZ X (dn_runS X [.int a2] (c_X12_isName (dn_la g) u hu a2 s1) gX12_mayBe_X12_isName rfl dn_hs_X12_isName rfl rfl rfl rfl dX12_mayBe_9) (fun r6 s4 e5 => ?_)
    refine dt_if_eqb X 25 dX12_mayBe_12 (by decide) ?_ ?_
    · refine dt_iconst X (v := -1) dX12_mayBe_25 (by decide) ?_
      exact dt_iret X dX12_mayBe_26
    · refine dt_iload_n X 3 dX12_mayBe_15 rfl rfl ?_
      refine dt_i2l X dX12_mayBe_16 ?_
      refine dt_lconst X (v := 0) dX12_mayBe_17 (by decide) ?_
      refine dt_lconst X (v := 1) dX12_mayBe_18 (by decide) ?_
      refine dt_callZ X (dn_runS X [.long ((a3 : Int32).toInt64), .long 0, .long 1] (c_X12_in (dn_la g) u hu ((a3 : Int32).toInt64) 0 1 s4) gX12_mayBe_X12_in rfl dn_hs_X12_in rfl rfl rfl rfl dX12_mayBe_19) (fun r9 s7 e8 => ?_)
      refine dt_if_neb X 27 dX12_mayBe_22 (by decide) ?_ ?_
      · refine dt_iconst X (v := 5) dX12_mayBe_27 (by decide) ?_
        refine dt_iload_n X 1 dX12_mayBe_28 rfl rfl ?_
        refine dt_imul X dX12_mayBe_29 ?_
        refine dt_iload_n X 2 dX12_mayBe_30 rfl rfl ?_
        refine dt_iadd X dX12_mayBe_31 ?_
        refine dt_let X (fun x10 => ?_)
        refine dt_istore X [(4, .int x10), (0, .ref (dn_a u 100)), (1, .int a1), (2, .int a2), (3, .int a3)] dX12_mayBe_32 rfl rfl ?_
        refine dt_aload_n X 1 dX12_mayBe_34 rfl rfl ?_
        refine dt_get X (T := TX12) (N := 35) (v := .ref (dn_a u 105)) 6 (dn_h100 hu) rfl dn_in_X12_mayBe_12 rfl rfl dn_fw_X12_mayBe_23 rfl dX12_mayBe_35 ?_
        refine dt_iload X 0 dX12_mayBe_38 rfl ?_
        refine dt_iald X (dn_h105 hu) dX12_mayBe_40 ?_
        refine dt_let X (fun x11 => ?_)
        refine dt_istore X [(5, .int x11), (4, .int x10), (0, .ref (dn_a u 100)), (1, .int a1), (2, .int a2), (3, .int a3)] dX12_mayBe_41 rfl rfl ?_
        refine dt_iconst X (v := 0) dX12_mayBe_43 (by decide) ?_
        refine dt_istore X [(6, .int 0), (5, .int x11), (4, .int x10), (0, .ref (dn_a u 100)), (1, .int a1), (2, .int a2), (3, .int a3)] dX12_mayBe_44 rfl rfl ?_
        refine dt_bipush X (v := -9) dX12_mayBe_46 (by decide) ?_
        refine dt_istore X [(7, .int (-9)), (6, .int 0), (5, .int x11), (4, .int x10), (0, .ref (dn_a u 100)), (1, .int a1), (2, .int a2), (3, .int a3)] dX12_mayBe_48 rfl rfl ?_
        refine dt_iconst X (v := 0) dX12_mayBe_50 (by decide) ?_
        refine dt_istore X [(8, .int 0), (7, .int (-9)), (6, .int 0), (5, .int x11), (4, .int x10), (0, .ref (dn_a u 100)), (1, .int a1), (2, .int a2), (3, .int a3)] dX12_mayBe_51 rfl rfl ?_
        refine dt_sub X [(0, .ref (dn_a u 100)), (3, .int a3), (4, .int x10), (5, .int x11), (6, .int 0), (7, .int (-9)), (8, .int 0)] [5, 8, 4, 3, 2, 1, 0] rfl ?_
        exact b_X12_mayBe_53 hu X 2048 a3 x10 x11 0 (-9) 0 s7
      · refine dt_iconst X (v := -1) dX12_mayBe_25 (by decide) ?_
        exact dt_iret X dX12_mayBe_26
set_option maxRecDepth 100000 in
set_option maxHeartbeats 4000000 in
theorem c_X12_plan (l : Launch) (u : dn_U) (hu : dn_Lu u = dn_LR) (a1 : Int32) (s : dn_S) : dn_Met l u yX12_plan wsX12_plan 1 25 [.ref (dn_a u 100), .int a1] s (m_X12_plan a1 s) (dn_QI u) := by
  refine dt_entry RX12 [(0, .ref (dn_a u 100)), (1, .int a1)] (by decide +kernel) rfl rfl rfl rfl (fun g hgl X => ?_)
  subst hgl
  unfold m_X12_plan
  refine dt_iload_n X 1 dX12_plan_0 rfl rfl ?_
  refine dt_i2l X dX12_plan_1 ?_
  refine dt_ldc2 X (v := -1) dX12_plan_2 (by decide +kernel) ?_
  refine dt_ldc2 X (v := 4) dX12_plan_5 (by decide +kernel) ?_
  refine dt_callZ X (dn_runS X [.long ((a1 : Int32).toInt64), .long (-1), .long 4] (c_X12_in (dn_la g) u hu ((a1 : Int32).toInt64) (-1) 4 s) gX12_plan_X12_in rfl dn_hs_X12_in rfl rfl rfl rfl dX12_plan_8) (fun r3 s1 e2 => ?_)
  refine dt_if_neb X 16 dX12_plan_11 (by decide) ?_ ?_
  · refine dt_aload_n X 0 dX12_plan_16 rfl rfl ?_
    refine dt_get X (T := TX12) (N := 35) (v := .int (dn_g s1 100 13)) 13 (dn_h100 hu) rfl dn_in_X12_plan_12 rfl rfl dn_fw_X12_plan_134 rfl dX12_plan_17 ?_
    refine dt_bipush X (v := 8) dX12_plan_20 (by decide) ?_
    refine dt_icmp_ne X 28 dX12_plan_22 (by decide) ?_ ?_
    · refine dt_aload_n X 0 dX12_plan_28 rfl rfl ?_
      refine dt_get X (T := TX12) (N := 35) (v := .ref (dn_a u 109)) 14 (dn_h100 hu) rfl dn_in_X12_plan_12 rfl rfl dn_fw_X12_plan_39 rfl dX12_plan_29 ?_
      refine dt_aload_n X 0 dX12_plan_32 rfl rfl ?_
      refine dt_get X (T := TX12) (N := 35) (v := .int (dn_g s1 100 13)) 13 (dn_h100 hu) rfl dn_in_X12_plan_12 rfl rfl dn_fw_X12_plan_134 rfl dX12_plan_33 ?_
      refine dt_iload_n X 1 dX12_plan_36 rfl rfl ?_
      refine dt_iast X (dn_h109 hu) dX12_plan_37 (fun s4 => ?_)
      refine dt_aload_n X 0 dX12_plan_38 rfl rfl ?_
      refine dt_dup X dX12_plan_39 rfl ?_
      refine dt_get X (T := TX12) (N := 35) (v := .int (dn_g s4 100 13)) 13 (dn_h100 hu) rfl dn_in_X12_plan_12 rfl rfl dn_fw_X12_plan_134 rfl dX12_plan_40 ?_
      refine dt_iconst X (v := 1) dX12_plan_43 (by decide) ?_
      refine dt_iadd X dX12_plan_44 ?_
      refine dt_put X (T := TX12) (N := 35) 13 (dn_h100 hu) rfl dn_in_X12_plan_12 rfl tyX12 tyX12_ok nmX12 rfl rfl dn_fw_X12_plan_134 rfl rfl (dn_set100_13 _ _ _) dX12_plan_45 (fun s5 => ?_)
      refine dt_aload_n X 0 dX12_plan_48 rfl rfl ?_
      refine dt_get X (T := TX12) (N := 35) (v := .int (dn_g s5 100 13)) 13 (dn_h100 hu) rfl dn_in_X12_plan_12 rfl rfl dn_fw_X12_plan_134 rfl dX12_plan_49 ?_
      exact dt_iret X dX12_plan_52
    · refine dt_bipush X (v := -3) dX12_plan_25 (by decide) ?_
      exact dt_iret X dX12_plan_27
  · refine dt_iconst X (v := -1) dX12_plan_14 (by decide) ?_
    exact dt_iret X dX12_plan_15
set_option maxRecDepth 100000 in
set_option maxHeartbeats 4000000 in
theorem c_X12_unplan (l : Launch) (u : dn_U) (hu : dn_Lu u = dn_LR) (s : dn_S) : dn_Met l u yX12_unplan wsX12_unplan 0 0 [.ref (dn_a u 100)] s (m_X12_unplan  s) (dn_QI u) := by
  refine dt_entry RX12 [(0, .ref (dn_a u 100))] (by decide +kernel) rfl rfl rfl rfl (fun g hgl X => ?_)
  subst hgl
  unfold m_X12_unplan
  refine dt_aload_n X 0 dX12_unplan_0 rfl rfl ?_
  refine dt_get X (T := TX12) (N := 35) (v := .int (dn_g s 100 13)) 13 (dn_h100 hu) rfl dn_in_X12_unplan_12 rfl rfl dn_fw_X12_unplan_134 rfl dX12_unplan_1 ?_
  refine dt_let X (fun x1 => ?_)
  refine dt_istore_n X [(1, .int x1), (0, .ref (dn_a u 100))] dX12_unplan_4 rfl rfl rfl ?_
  refine dt_aload_n X 1 dX12_unplan_5 rfl rfl ?_
  refine dt_iconst X (v := 0) dX12_unplan_6 (by decide) ?_
  refine dt_put X (T := TX12) (N := 35) 13 (dn_h100 hu) rfl dn_in_X12_unplan_12 rfl tyX12 tyX12_ok nmX12 rfl rfl dn_fw_X12_unplan_134 rfl rfl (dn_set100_13 _ _ _) dX12_unplan_7 (fun s2 => ?_)
  refine dt_iload_n X 0 dX12_unplan_10 rfl rfl ?_
  exact dt_iret X dX12_unplan_11
set_option maxRecDepth 100000 in
set_option maxHeartbeats 4000000 in
theorem b_X12_planned_50 {g : dn_M} {u : dn_U} (hu : dn_Lu u = dn_LR) (X : dn_X u g cX12_planned wsX12_planned RX12 3 2 51 (some .int)) (K21 : Int32 → Int32 → dn_S → Option (Int32 × dn_S)) (H21 : ∀ (y1 : Int32) (y2 : Int32) (s : dn_S), dn_T u g 3 (dn_QI u) (K21 y1 y2 s) s 21 [(0, .ref (dn_a u 100)), (1, .int y1), (2, .int y2)] []) (y1 : Int32) (y2 : Int32) (s : dn_S) : dn_T u g 3 (dn_QI u) (m_X12_planned_50 K21 y1 y2 s) s 50 [(0, .ref (dn_a u 100)), (1, .int y1), (2, .int y2)] [] := by
  unfold m_X12_planned_50
  refine dt_iinc X (v := y2 + 1) 2 [(2, .int (y2 + 1)), (0, .ref (dn_a u 100)), (1, .int y1)] dX12_planned_50 rfl (by rfl) rfl rfl ?_
  refine dt_ilet X rfl (fun x1 => ?_)
  refine dt_goto X 21 dX12_planned_53 (by decide) ?_
  refine dt_sub X [(0, .ref (dn_a u 100)), (1, .int y1), (2, .int x1)] [1, 2, 0] rfl ?_
  exact H21 y1 x1 s
set_option maxRecDepth 100000 in
set_option maxHeartbeats 4000000 in
theorem b_X12_planned_21 {g : dn_M} {u : dn_U} (hu : dn_Lu u = dn_LR) (X : dn_X u g cX12_planned wsX12_planned RX12 3 2 51 (some .int)) : ∀ (n : Nat) (y1 : Int32) (y2 : Int32) (s : dn_S), dn_T u g 3 (dn_QI u) (m_X12_planned_21 n y1 y2 s) s 21 [(0, .ref (dn_a u 100)), (1, .int y1), (2, .int y2)] [] := by
  intro n
  induction n with
  | zero =>
    intro y1 y2 s
    exact dt_none X
  | succ n ih =>
    intro y1 y2 s
    rw [m_X12_planned_21]
    refine dt_iload_n X 2 dX12_planned_21 rfl rfl ?_
    refine dt_aload_n X 0 dX12_planned_22 rfl rfl ?_
    refine dt_get X (T := TX12) (N := 35) (v := .int (dn_g s 100 13)) 13 (dn_h100 hu) rfl dn_in_X12_planned_12 rfl rfl dn_fw_X12_planned_134 rfl dX12_planned_23 ?_
    refine dt_icmp_ge X 56 dX12_planned_26 (by decide) ?_ ?_
    · refine dt_iload_n X 1 dX12_planned_56 rfl rfl ?_
      refine dt_if_ge X 77 dX12_planned_57 (by decide) ?_ ?_
      · refine dt_aload_n X 0 dX12_planned_77 rfl rfl ?_
        refine dt_get X (T := TX12) (N := 35) (v := .ref (dn_a u 101)) 0 (dn_h100 hu) rfl dn_in_X12_planned_12 rfl rfl dn_fw_X12_planned_7 rfl dX12_planned_78 ?_
        refine dt_bipush X (v := 126) dX12_planned_81 (by decide) ?_
        refine dt_iload_n X 1 dX12_planned_83 rfl rfl ?_
        refine dt_iadd X dX12_planned_84 ?_
        refine dt_iald X (dn_h101 hu) dX12_planned_85 ?_
        exact dt_iret X dX12_planned_86
      · refine dt_aload_n X 0 dX12_planned_60 rfl rfl ?_
        refine dt_get X (T := TX12) (N := 35) (v := .ref (dn_a u 101)) 0 (dn_h100 hu) rfl dn_in_X12_planned_12 rfl rfl dn_fw_X12_planned_7 rfl dX12_planned_61 ?_
        refine dt_bipush X (v := 123) dX12_planned_64 (by decide) ?_
        refine dt_iald X (dn_h101 hu) dX12_planned_66 ?_
        refine dt_aload_n X 0 dX12_planned_67 rfl rfl ?_
        refine dt_get X (T := TX12) (N := 35) (v := .ref (dn_a u 101)) 0 (dn_h100 hu) rfl dn_in_X12_planned_12 rfl rfl dn_fw_X12_planned_7 rfl dX12_planned_68 ?_
        refine dt_iconst X (v := 3) dX12_planned_71 (by decide) ?_
        refine dt_iald X (dn_h101 hu) dX12_planned_72 ?_
        refine dt_isub X dX12_planned_73 ?_
        refine dt_goto X 86 dX12_planned_74 (by decide) ?_
        exact dt_iret X dX12_planned_86
    · refine dt_aload_n X 0 dX12_planned_29 rfl rfl ?_
      refine dt_get X (T := TX12) (N := 35) (v := .ref (dn_a u 109)) 14 (dn_h100 hu) rfl dn_in_X12_planned_12 rfl rfl dn_fw_X12_planned_39 rfl dX12_planned_30 ?_
      refine dt_iload_n X 2 dX12_planned_33 rfl rfl ?_
      refine dt_iald X (dn_h109 hu) dX12_planned_34 ?_
      refine dt_if_lt X 50 dX12_planned_35 (by decide) ?_ ?_
      · refine dt_sub X [(0, .ref (dn_a u 100)), (1, .int y1), (2, .int y2)] [0, 1, 2] rfl ?_
        exact b_X12_planned_50 hu X (m_X12_planned_21 n) ih y1 y2 s
      · refine dt_aload_n X 0 dX12_planned_38 rfl rfl ?_
        refine dt_bipush X (v := 120) dX12_planned_39 (by decide) ?_
        refine dt_aload_n X 0 dX12_planned_41 rfl rfl ?_
        refine dt_get X (T := TX12) (N := 35) (v := .ref (dn_a u 109)) 14 (dn_h100 hu) rfl dn_in_X12_planned_12 rfl rfl dn_fw_X12_planned_39 rfl dX12_planned_42 ?_
        refine dt_iload_n X 2 dX12_planned_45 rfl rfl ?_
        refine dt_iald X (dn_h109 hu) dX12_planned_46 ?_
        refine dt_callV X (dn_runV X (T := TX12) (N := 35) [.int 120, .int (dn_g s 109 y2.toNatClampNeg)] (dn_h100 hu) rfl rfl (c_X12_comes (dn_la g) u hu 120 (dn_g s 109 y2.toNatClampNeg) s) gX12_planned_X12_comes rfl dn_hd_X12_comes rfl rfl rfl rfl dX12_planned_47) (fun r3 s1 e2 => ?_)
        refine dt_sub X [(0, .ref (dn_a u 100)), (1, .int y1), (2, .int y2)] [0, 1, 2] rfl ?_
        exact b_X12_planned_50 hu X (m_X12_planned_21 n) ih y1 y2 s1
set_option maxRecDepth 100000 in
set_option maxHeartbeats 4000000 in
theorem b_X12_planned_15 {g : dn_M} {u : dn_U} (hu : dn_Lu u = dn_LR) (X : dn_X u g cX12_planned wsX12_planned RX12 3 2 51 (some .int)) (y1 : Int32) (s : dn_S) : dn_T u g 3 (dn_QI u) (m_X12_planned_15 y1 s) s 15 [(0, .ref (dn_a u 100)), (1, .int y1)] [] := by
  unfold m_X12_planned_15
  refine dt_aload_n X 0 dX12_planned_15 rfl rfl ?_
  refine dt_callV X (dn_runV X (T := TX12) (N := 35) [] (dn_h100 hu) rfl rfl (c_X12_tries (dn_la g) u hu s) gX12_planned_X12_tries rfl dn_hd_X12_tries rfl rfl rfl rfl dX12_planned_16) (fun r3 s1 e2 => ?_)
  refine dt_iconst X (v := 0) dX12_planned_19 (by decide) ?_
  refine dt_istore_n X [(2, .int 0), (0, .ref (dn_a u 100)), (1, .int y1)] dX12_planned_20 rfl rfl rfl ?_
  refine dt_sub X [(0, .ref (dn_a u 100)), (1, .int y1), (2, .int 0)] [1, 2, 0] rfl ?_
  exact b_X12_planned_21 hu X 2048 y1 0 s1
set_option maxRecDepth 100000 in
set_option maxHeartbeats 4000000 in
theorem c_X12_planned (l : Launch) (u : dn_U) (hu : dn_Lu u = dn_LR) (a1 : Int32) (s : dn_S) : dn_Met l u yX12_planned wsX12_planned 2 51 [.ref (dn_a u 100), .int a1] s (m_X12_planned a1 s) (dn_QI u) := by
  refine dt_entry RX12 [(0, .ref (dn_a u 100)), (1, .int a1)] (by decide +kernel) rfl rfl rfl rfl (fun g hgl X => ?_)
  subst hgl
  unfold m_X12_planned
  refine dt_iload_n X 1 dX12_planned_0 rfl rfl ?_
  refine dt_iconst X (v := -1) dX12_planned_1 (by decide) ?_
  refine dt_icmp_eq X 15 dX12_planned_2 (by decide) ?_ ?_
  · refine dt_sub X [(0, .ref (dn_a u 100)), (1, .int a1)] [0, 1] rfl ?_
    exact b_X12_planned_15 hu X a1 s
  · refine dt_aload_n X 0 dX12_planned_5 rfl rfl ?_
    refine dt_iload_n X 1 dX12_planned_6 rfl rfl ?_
    refine dt_callZ X (dn_runV X (T := TX12) (N := 35) [.int a1] (dn_h100 hu) rfl rfl (c_X12_isBidder (dn_la g) u hu a1 s) gX12_planned_X12_isBidder rfl dn_hd_X12_isBidder rfl rfl rfl rfl dX12_planned_7) (fun r3 s1 e2 => ?_)
    refine dt_if_neb X 15 dX12_planned_10 (by decide) ?_ ?_
    · refine dt_sub X [(0, .ref (dn_a u 100)), (1, .int a1)] [0, 1] rfl ?_
      exact b_X12_planned_15 hu X a1 s1
    · refine dt_iconst X (v := -1) dX12_planned_13 (by decide) ?_
      exact dt_iret X dX12_planned_14
set_option maxRecDepth 100000 in
set_option maxHeartbeats 4000000 in
theorem c_X12_has (l : Launch) (u : dn_U) (hu : dn_Lu u = dn_LR) (a1 : Int32) (a2 : Int32) (s : dn_S) : dn_Met l u yX12_has wsX12_has 0 0 [.int a1, .int a2] s (m_X12_has a1 a2 s) (dn_QZ u) := by
  refine dt_entry RX12 [(0, .int a1), (1, .int a2)] (by decide +kernel) rfl rfl rfl rfl (fun g hgl X => ?_)
  subst hgl
  unfold m_X12_has
  refine dt_iload_n X 0 dX12_has_0 rfl rfl ?_
  refine dt_iload_n X 1 dX12_has_1 rfl rfl ?_
  refine dt_ishr X dX12_has_2 ?_
  refine dt_iconst X (v := 1) dX12_has_3 (by decide) ?_
  refine dt_iand X dX12_has_4 ?_
  refine dt_iconst X (v := 1) dX12_has_5 (by decide) ?_
  refine dt_icmp_ne X 13 dX12_has_6 (by decide) ?_ ?_
  · refine dt_iconst X (v := 0) dX12_has_13 (by decide) ?_
    exact dt_zret (v := false) X dX12_has_14
  · refine dt_iconst X (v := 1) dX12_has_9 (by decide) ?_
    refine dt_goto X 14 dX12_has_10 (by decide) ?_
    exact dt_zret (v := true) X dX12_has_14
set_option maxRecDepth 100000 in
set_option maxHeartbeats 4000000 in
theorem b_X12_odds_198 {g : dn_M} {u : dn_U} (hu : dn_Lu u = dn_LR) (X : dn_X u g cX12_odds wsX12_odds RX12 10 4 94 (some .int)) : ∀ (n : Nat) (y4 : Int32) (y5 : Int32) (y6 : Int32) (y7 : Int32) (y8 : Int32) (s : dn_S), dn_T u g 10 (dn_QI u) (m_X12_odds_198 n y4 y5 y6 y7 y8 s) s 198 [(4, .int y4), (5, .int y5), (6, .int y6), (7, .int y7), (8, .int y8)] [] := by
  intro n
  induction n with
  | zero =>
    intro y4 y5 y6 y7 y8 s
    exact dt_none X
  | succ n ih =>
    intro y4 y5 y6 y7 y8 s
    rw [m_X12_odds_198]
    refine dt_iload X 4 dX12_odds_198 rfl ?_
    refine dt_if_eq X 221 dX12_odds_200 (by decide) ?_ ?_
    · refine dt_iload X 0 dX12_odds_221 rfl ?_
      refine dt_if_ne X 234 dX12_odds_223 (by decide) ?_ ?_
      · refine dt_iload X 2 dX12_odds_234 rfl ?_
        refine dt_iload X 3 dX12_odds_236 rfl ?_
        refine dt_idiv X dX12_odds_238 ?_
        exact dt_iret X dX12_odds_239
      · refine dt_iload X 1 dX12_odds_226 rfl ?_
        refine dt_iload X 3 dX12_odds_228 rfl ?_
        refine dt_idiv X dX12_odds_230 ?_
        refine dt_goto X 239 dX12_odds_231 (by decide) ?_
        exact dt_iret X dX12_odds_239
    · refine dt_iload X 3 dX12_odds_203 rfl ?_
      refine dt_iload X 4 dX12_odds_205 rfl ?_
      refine dt_irem X dX12_odds_207 ?_
      refine dt_let X (fun x1 => ?_)
      refine dt_istore X [(9, .int x1), (4, .int y4), (5, .int y5), (6, .int y6), (7, .int y7), (8, .int y8)] dX12_odds_208 rfl rfl ?_
      refine dt_iload X 5 dX12_odds_210 rfl ?_
      refine dt_istore X [(7, .int y8), (9, .int x1), (4, .int y4), (5, .int y5), (6, .int y6), (8, .int y8)] dX12_odds_212 rfl rfl ?_
      refine dt_iload X 1 dX12_odds_214 rfl ?_
      refine dt_istore X [(8, .int x1), (7, .int y8), (9, .int x1), (4, .int y4), (5, .int y5), (6, .int y6)] dX12_odds_216 rfl rfl ?_
      refine dt_goto X 198 dX12_odds_218 (by decide) ?_
      refine dt_sub X [(4, .int y4), (5, .int y5), (6, .int y6), (7, .int y8), (8, .int x1)] [3, 4, 5, 1, 0] rfl ?_
      exact ih y4 y5 y6 y8 x1 s
set_option maxRecDepth 100000 in
set_option maxHeartbeats 4000000 in
theorem b_X12_odds_181 {g : dn_M} {u : dn_U} (hu : dn_Lu u = dn_LR) (X : dn_X u g cX12_odds wsX12_odds RX12 10 4 94 (some .int)) (K76 : Int32 → Int32 → Int32 → Int32 → Int32 → Int32 → Int32 → dn_S → Option (Int32 × dn_S)) (H76 : ∀ (y1 : Int32) (y2 : Int32) (y3 : Int32) (y4 : Int32) (y5 : Int32) (y6 : Int32) (y7 : Int32) (s : dn_S), dn_T u g 10 (dn_QI u) (K76 y1 y2 y3 y4 y5 y6 y7 s) s 76 [(0, .ref (dn_a u 100)), (1, .int y1), (2, .int y2), (3, .int y3), (4, .int y4), (5, .int y5), (6, .int y6), (7, .int y7)] []) (y1 : Int32) (y2 : Int32) (y3 : Int32) (y4 : Int32) (y6 : Int32) (y7 : Int32) (z0 : Int32) (z1 : Int32) (s : dn_S) : dn_T u g 10 (dn_QI u) (m_X12_odds_181 K76 y1 y2 y3 y4 y6 y7 z0 z1 s) s 181 [(0, .ref (dn_a u 100)), (1, .int y1), (2, .int y2), (3, .int y3), (4, .int y4), (6, .int y6), (7, .int y7)] [.int z0, .int z1] := by
  unfold m_X12_odds_181
  refine dt_iadd X dX12_odds_181 ?_
  refine dt_let X (fun x1 => ?_)
  refine dt_istore X [(5, .int x1), (0, .ref (dn_a u 100)), (1, .int y1), (2, .int y2), (3, .int y3), (4, .int y4), (6, .int y6), (7, .int y7)] dX12_odds_182 rfl rfl ?_
  refine dt_iinc X (v := y7 + 1) 7 [(7, .int (y7 + 1)), (5, .int x1), (0, .ref (dn_a u 100)), (1, .int y1), (2, .int y2), (3, .int y3), (4, .int y4), (6, .int y6)] dX12_odds_184 rfl (by rfl) rfl rfl ?_
  refine dt_ilet X rfl (fun x2 => ?_)
  refine dt_goto X 76 dX12_odds_187 (by decide) ?_
  refine dt_sub X [(0, .ref (dn_a u 100)), (1, .int y1), (2, .int y2), (3, .int y3), (4, .int y4), (5, .int x1), (6, .int y6), (7, .int x2)] [2, 3, 4, 5, 6, 1, 7, 0] rfl ?_
  exact H76 y1 y2 y3 y4 x1 y6 x2 s
set_option maxRecDepth 100000 in
set_option maxHeartbeats 4000000 in
theorem b_X12_odds_154 {g : dn_M} {u : dn_U} (hu : dn_Lu u = dn_LR) (X : dn_X u g cX12_odds wsX12_odds RX12 10 4 94 (some .int)) (K76 : Int32 → Int32 → Int32 → Int32 → Int32 → Int32 → Int32 → dn_S → Option (Int32 × dn_S)) (H76 : ∀ (y1 : Int32) (y2 : Int32) (y3 : Int32) (y4 : Int32) (y5 : Int32) (y6 : Int32) (y7 : Int32) (s : dn_S), dn_T u g 10 (dn_QI u) (K76 y1 y2 y3 y4 y5 y6 y7 s) s 76 [(0, .ref (dn_a u 100)), (1, .int y1), (2, .int y2), (3, .int y3), (4, .int y4), (5, .int y5), (6, .int y6), (7, .int y7)] []) (K94 : Int32 → Int32 → Int32 → Int32 → Int32 → Int32 → Int32 → Int32 → Int32 → dn_S → Option (Int32 × dn_S)) (H94 : ∀ (y1 : Int32) (y2 : Int32) (y3 : Int32) (y4 : Int32) (y5 : Int32) (y6 : Int32) (y7 : Int32) (y8 : Int32) (y9 : Int32) (s : dn_S), dn_T u g 10 (dn_QI u) (K94 y1 y2 y3 y4 y5 y6 y7 y8 y9 s) s 94 [(0, .ref (dn_a u 100)), (1, .int y1), (2, .int y2), (3, .int y3), (4, .int y4), (5, .int y5), (6, .int y6), (7, .int y7), (8, .int y8), (9, .int y9)] []) (y1 : Int32) (y2 : Int32) (y3 : Int32) (y4 : Int32) (y5 : Int32) (y6 : Int32) (y7 : Int32) (y8 : Int32) (y9 : Int32) (s : dn_S) : dn_T u g 10 (dn_QI u) (m_X12_odds_154 K76 K94 y1 y2 y3 y4 y5 y6 y7 y8 y9 s) s 154 [(0, .ref (dn_a u 100)), (1, .int y1), (2, .int y2), (3, .int y3), (4, .int y4), (5, .int y5), (6, .int y6), (7, .int y7), (8, .int y8), (9, .int y9)] [] := by
  unfold m_X12_odds_154
  refine dt_iinc X (v := y9 + 1) 9 [(9, .int (y9 + 1)), (0, .ref (dn_a u 100)), (1, .int y1), (2, .int y2), (3, .int y3), (4, .int y4), (5, .int y5), (6, .int y6), (7, .int y7), (8, .int y8)] dX12_odds_154 rfl (by rfl) rfl rfl ?_
  refine dt_ilet X rfl (fun x1 => ?_)
  refine dt_goto X 94 dX12_odds_157 (by decide) ?_
  refine dt_sub X [(0, .ref (dn_a u 100)), (1, .int y1), (2, .int y2), (3, .int y3), (4, .int y4), (5, .int y5), (6, .int y6), (7, .int y7), (8, .int y8), (9, .int x1)] [1, 2, 3, 4, 5, 6, 7, 8, 9, 0] rfl ?_
  exact H94 y1 y2 y3 y4 y5 y6 y7 y8 x1 s
set_option maxRecDepth 100000 in
set_option maxHeartbeats 4000000 in
theorem b_X12_odds_120 {g : dn_M} {u : dn_U} (hu : dn_Lu u = dn_LR) (X : dn_X u g cX12_odds wsX12_odds RX12 10 4 94 (some .int)) (K76 : Int32 → Int32 → Int32 → Int32 → Int32 → Int32 → Int32 → dn_S → Option (Int32 × dn_S)) (H76 : ∀ (y1 : Int32) (y2 : Int32) (y3 : Int32) (y4 : Int32) (y5 : Int32) (y6 : Int32) (y7 : Int32) (s : dn_S), dn_T u g 10 (dn_QI u) (K76 y1 y2 y3 y4 y5 y6 y7 s) s 76 [(0, .ref (dn_a u 100)), (1, .int y1), (2, .int y2), (3, .int y3), (4, .int y4), (5, .int y5), (6, .int y6), (7, .int y7)] []) (K94 : Int32 → Int32 → Int32 → Int32 → Int32 → Int32 → Int32 → Int32 → Int32 → dn_S → Option (Int32 × dn_S)) (H94 : ∀ (y1 : Int32) (y2 : Int32) (y3 : Int32) (y4 : Int32) (y5 : Int32) (y6 : Int32) (y7 : Int32) (y8 : Int32) (y9 : Int32) (s : dn_S), dn_T u g 10 (dn_QI u) (K94 y1 y2 y3 y4 y5 y6 y7 y8 y9 s) s 94 [(0, .ref (dn_a u 100)), (1, .int y1), (2, .int y2), (3, .int y3), (4, .int y4), (5, .int y5), (6, .int y6), (7, .int y7), (8, .int y8), (9, .int y9)] []) (y1 : Int32) (y2 : Int32) (y3 : Int32) (y4 : Int32) (y5 : Int32) (y6 : Int32) (y7 : Int32) (y9 : Int32) (z0 : Int32) (z1 : Int32) (s : dn_S) : dn_T u g 10 (dn_QI u) (m_X12_odds_120 K76 K94 y1 y2 y3 y4 y5 y6 y7 y9 z0 z1 s) s 120 [(0, .ref (dn_a u 100)), (1, .int y1), (2, .int y2), (3, .int y3), (4, .int y4), (5, .int y5), (6, .int y6), (7, .int y7), (9, .int y9)] [.int z0, .int z1] := by
  unfold m_X12_odds_120
  refine dt_imul X dX12_odds_120 ?_
  refine dt_let X (fun x1 => ?_)
  refine dt_istore X [(8, .int x1), (0, .ref (dn_a u 100)), (1, .int y1), (2, .int y2), (3, .int y3), (4, .int y4), (5, .int y5), (6, .int y6), (7, .int y7), (9, .int y9)] dX12_odds_121 rfl rfl ?_
  refine dt_iload X 8 dX12_odds_123 rfl ?_
  refine dt_iload X 9 dX12_odds_125 rfl ?_
  refine dt_callZ X (dn_runS X [.int y7, .int y9] (c_X12_has (dn_la g) u hu y7 y9 s) gX12_odds_X12_has rfl dn_hs_X12_has rfl rfl rfl rfl dX12_odds_127) (fun r4 s2 e3 => ?_)
  refine dt_if_eqb X 147 dX12_odds_130 (by decide) ?_ ?_
  · refine dt_aload_n X 1 dX12_odds_147 rfl rfl ?_
    refine dt_bipush X (v := 120) dX12_odds_148 (by decide) ?_
    refine dt_callI X (dn_runV X (T := TX12) (N := 35) [.int 120] (dn_h100 hu) rfl rfl (c_X12_goes (dn_la g) u hu 120 s2) gX12_odds_X12_goes rfl dn_hd_X12_goes rfl rfl rfl rfl dX12_odds_150) (fun r7 s5 e6 => ?_)
    refine dt_pop X dX12_odds_153 rfl ?_
    refine dt_sub X [(0, .ref (dn_a u 100)), (1, .int y1), (2, .int y2), (3, .int y3), (4, .int y4), (5, .int y5), (6, .int y6), (7, .int y7), (8, .int x1), (9, .int y9)] [1, 2, 3, 4, 5, 6, 7, 8, 0, 9] rfl ?_
    exact b_X12_odds_154 hu X K76 H76 K94 H94 y1 y2 y3 y4 y5 y6 y7 x1 y9 s5
  · refine dt_aload_n X 1 dX12_odds_133 rfl rfl ?_
    refine dt_get X (T := TX12) (N := 35) (v := .ref (dn_a u 101)) 0 (dn_h100 hu) rfl dn_in_X12_odds_12 rfl rfl dn_fw_X12_odds_7 rfl dX12_odds_134 ?_
    refine dt_bipush X (v := 121) dX12_odds_137 (by decide) ?_
    refine dt_dup2 X dX12_odds_139 rfl rfl ?_
    refine dt_iald X (dn_h101 hu) dX12_odds_140 ?_
    refine dt_iconst X (v := 1) dX12_odds_141 (by decide) ?_
    refine dt_iadd X dX12_odds_142 ?_
    refine dt_iast X (dn_h101 hu) dX12_odds_143 (fun s8 => ?_)
    refine dt_goto X 154 dX12_odds_144 (by decide) ?_
    refine dt_sub X [(0, .ref (dn_a u 100)), (1, .int y1), (2, .int y2), (3, .int y3), (4, .int y4), (5, .int y5), (6, .int y6), (7, .int y7), (8, .int x1), (9, .int y9)] [1, 2, 3, 4, 5, 6, 7, 8, 0, 9] rfl ?_
    exact b_X12_odds_154 hu X K76 H76 K94 H94 y1 y2 y3 y4 y5 y6 y7 x1 y9 s8
set_option maxRecDepth 100000 in
set_option maxHeartbeats 4000000 in
theorem b_X12_odds_94 {g : dn_M} {u : dn_U} (hu : dn_Lu u = dn_LR) (X : dn_X u g cX12_odds wsX12_odds RX12 10 4 94 (some .int)) (K76 : Int32 → Int32 → Int32 → Int32 → Int32 → Int32 → Int32 → dn_S → Option (Int32 × dn_S)) (H76 : ∀ (y1 : Int32) (y2 : Int32) (y3 : Int32) (y4 : Int32) (y5 : Int32) (y6 : Int32) (y7 : Int32) (s : dn_S), dn_T u g 10 (dn_QI u) (K76 y1 y2 y3 y4 y5 y6 y7 s) s 76 [(0, .ref (dn_a u 100)), (1, .int y1), (2, .int y2), (3, .int y3), (4, .int y4), (5, .int y5), (6, .int y6), (7, .int y7)] []) : ∀ (n : Nat) (y1 : Int32) (y2 : Int32) (y3 : Int32) (y4 : Int32) (y5 : Int32) (y6 : Int32) (y7 : Int32) (y8 : Int32) (y9 : Int32) (s : dn_S), dn_T u g 10 (dn_QI u) (m_X12_odds_94 K76 n y1 y2 y3 y4 y5 y6 y7 y8 y9 s) s 94 [(0, .ref (dn_a u 100)), (1, .int y1), (2, .int y2), (3, .int y3), (4, .int y4), (5, .int y5), (6, .int y6), (7, .int y7), (8, .int y8), (9, .int y9)] [] := by
  intro n
  induction n with
  | zero =>
    intro y1 y2 y3 y4 y5 y6 y7 y8 y9 s
    exact dt_none X
  | succ n ih =>
    intro y1 y2 y3 y4 y5 y6 y7 y8 y9 s
    rw [m_X12_odds_94]
    refine dt_iload X 9 dX12_odds_94 rfl ?_
    refine dt_iload_n X 3 dX12_odds_96 rfl rfl ?_
    refine dt_icmp_ge X 160 dX12_odds_97 (by decide) ?_ ?_
    · refine dt_iload X 5 dX12_odds_160 rfl ?_
      refine dt_aload_n X 0 dX12_odds_162 rfl rfl ?_
      refine dt_get X (T := TX12) (N := 35) (v := .ref (dn_a u 101)) 0 (dn_h100 hu) rfl dn_in_X12_odds_12 rfl rfl dn_fw_X12_odds_7 rfl dX12_odds_163 ?_
      refine dt_sipush X (v := 130) dX12_odds_166 (by decide) ?_
      refine dt_iload_n X 1 dX12_odds_169 rfl rfl ?_
      refine dt_iadd X dX12_odds_170 ?_
      refine dt_iald X (dn_h101 hu) dX12_odds_171 ?_
      refine dt_if_eq X 180 dX12_odds_172 (by decide) ?_ ?_
      · refine dt_iconst X (v := 0) dX12_odds_180 (by decide) ?_
        refine dt_sub X [(0, .ref (dn_a u 100)), (1, .int y1), (2, .int y2), (3, .int y3), (4, .int y4), (6, .int y6), (7, .int y7)] [0, 1, 2, 3, 4, 6, 7] rfl ?_
        exact b_X12_odds_181 hu X K76 H76 y1 y2 y3 y4 y6 y7 0 y5 s
      · refine dt_iload X 8 dX12_odds_175 rfl ?_
        refine dt_goto X 181 dX12_odds_177 (by decide) ?_
        refine dt_sub X [(0, .ref (dn_a u 100)), (1, .int y1), (2, .int y2), (3, .int y3), (4, .int y4), (6, .int y6), (7, .int y7)] [0, 1, 2, 3, 4, 6, 7] rfl ?_
        exact b_X12_odds_181 hu X K76 H76 y1 y2 y3 y4 y6 y7 y8 y5 s
    · refine dt_iload X 8 dX12_odds_100 rfl ?_
      refine dt_iload X 7 dX12_odds_102 rfl ?_
      refine dt_iload X 9 dX12_odds_104 rfl ?_
      refine dt_callZ X (dn_runS X [.int y7, .int y9] (c_X12_has (dn_la g) u hu y7 y9 s) gX12_odds_X12_has rfl dn_hs_X12_has rfl rfl rfl rfl dX12_odds_106) (fun r3 s1 e2 => ?_)
      refine dt_if_eqb X 116 dX12_odds_109 (by decide) ?_ ?_
      · refine dt_bipush X (v := 10) dX12_odds_116 (by decide) ?_
        refine dt_iload_n X 2 dX12_odds_118 rfl rfl ?_
        refine dt_isub X dX12_odds_119 ?_
        refine dt_sub X [(0, .ref (dn_a u 100)), (1, .int y1), (2, .int y2), (3, .int y3), (4, .int y4), (5, .int y5), (6, .int y6), (7, .int y7), (9, .int y9)] [0, 1, 2, 3, 4, 5, 6, 7, 9] rfl ?_
        exact b_X12_odds_120 hu X K76 H76 (m_X12_odds_94 K76 n) ih y1 y2 y3 y4 y5 y6 y7 y9 (10 - y2) y8 s1
      · refine dt_iload_n X 2 dX12_odds_112 rfl rfl ?_
        refine dt_goto X 120 dX12_odds_113 (by decide) ?_
        refine dt_sub X [(0, .ref (dn_a u 100)), (1, .int y1), (2, .int y2), (3, .int y3), (4, .int y4), (5, .int y5), (6, .int y6), (7, .int y7), (9, .int y9)] [0, 1, 2, 3, 4, 5, 6, 7, 9] rfl ?_
        exact b_X12_odds_120 hu X K76 H76 (m_X12_odds_94 K76 n) ih y1 y2 y3 y4 y5 y6 y7 y9 y2 y8 s1
set_option maxRecDepth 100000 in
set_option maxHeartbeats 4000000 in
theorem b_X12_odds_76 {g : dn_M} {u : dn_U} (hu : dn_Lu u = dn_LR) (X : dn_X u g cX12_odds wsX12_odds RX12 10 4 94 (some .int)) : ∀ (n : Nat) (y1 : Int32) (y2 : Int32) (y3 : Int32) (y4 : Int32) (y5 : Int32) (y6 : Int32) (y7 : Int32) (s : dn_S), dn_T u g 10 (dn_QI u) (m_X12_odds_76 n y1 y2 y3 y4 y5 y6 y7 s) s 76 [(0, .ref (dn_a u 100)), (1, .int y1), (2, .int y2), (3, .int y3), (4, .int y4), (5, .int y5), (6, .int y6), (7, .int y7)] [] := by
  intro n
  induction n with
  | zero =>
    intro y1 y2 y3 y4 y5 y6 y7 s
    exact dt_none X
  | succ n ih =>
    intro y1 y2 y3 y4 y5 y6 y7 s
    rw [m_X12_odds_76]
    refine dt_iload X 7 dX12_odds_76 rfl ?_
    refine dt_iconst X (v := 1) dX12_odds_78 (by decide) ?_
    refine dt_iload_n X 3 dX12_odds_79 rfl rfl ?_
    refine dt_ishl X dX12_odds_80 ?_
    refine dt_icmp_ge X 190 dX12_odds_81 (by decide) ?_ ?_
    · refine dt_iload X 5 dX12_odds_190 rfl ?_
      refine dt_istore X [(7, .int y5), (0, .ref (dn_a u 100)), (1, .int y1), (2, .int y2), (3, .int y3), (4, .int y4), (5, .int y5), (6, .int y6)] dX12_odds_192 rfl rfl ?_
      refine dt_iload X 7 dX12_odds_194 rfl ?_
      refine dt_istore X [(8, .int y6), (7, .int y5), (0, .ref (dn_a u 100)), (1, .int y1), (2, .int y2), (3, .int y3), (4, .int y4), (5, .int y5), (6, .int y6)] dX12_odds_196 rfl rfl ?_
      refine dt_sub X [(4, .int y4), (5, .int y5), (6, .int y6), (7, .int y5), (8, .int y6)] [6, 7, 8, 1, 0] rfl ?_
      exact b_X12_odds_198 hu X 2048 y4 y5 y6 y5 y6 s
    · refine dt_iconst X (v := 1) dX12_odds_84 (by decide) ?_
      refine dt_istore X [(8, .int 1), (0, .ref (dn_a u 100)), (1, .int y1), (2, .int y2), (3, .int y3), (4, .int y4), (5, .int y5), (6, .int y6), (7, .int y7)] dX12_odds_85 rfl rfl ?_
      refine dt_aload_n X 1 dX12_odds_87 rfl rfl ?_
      refine dt_callV X (dn_runV X (T := TX12) (N := 35) [] (dn_h100 hu) rfl rfl (c_X12_tries (dn_la g) u hu s) gX12_odds_X12_tries rfl dn_hd_X12_tries rfl rfl rfl rfl dX12_odds_88) (fun r3 s1 e2 => ?_)
      refine dt_iconst X (v := 0) dX12_odds_91 (by decide) ?_
      refine dt_istore X [(9, .int 0), (8, .int 1), (0, .ref (dn_a u 100)), (1, .int y1), (2, .int y2), (3, .int y3), (4, .int y4), (5, .int y5), (6, .int y6), (7, .int y7)] dX12_odds_92 rfl rfl ?_
      refine dt_sub X [(0, .ref (dn_a u 100)), (1, .int y1), (2, .int y2), (3, .int y3), (4, .int y4), (5, .int y5), (6, .int y6), (7, .int y7), (8, .int 1), (9, .int 0)] [2, 3, 4, 5, 6, 7, 8, 9, 1, 0] rfl ?_
      exact b_X12_odds_94 hu X (m_X12_odds_76 n) ih 2048 y1 y2 y3 y4 y5 y6 y7 1 0 s1
set_option maxRecDepth 100000 in
set_option maxHeartbeats 4000000 in
theorem b_X12_odds_54 {g : dn_M} {u : dn_U} (hu : dn_Lu u = dn_LR) (X : dn_X u g cX12_odds wsX12_odds RX12 10 4 94 (some .int)) : ∀ (n : Nat) (y1 : Int32) (y2 : Int32) (y3 : Int32) (y4 : Int32) (y5 : Bool) (y6 : Int32) (y7 : Int32) (s : dn_S), dn_T u g 10 (dn_QI u) (m_X12_odds_54 n y1 y2 y3 y4 y5 y6 y7 s) s 54 [(0, .ref (dn_a u 100)), (1, .int y1), (2, .int y2), (3, .int y3), (4, .int y4), (5, .int (dn_b y5)), (6, .int y6), (7, .int y7)] [] := by
  intro n
  induction n with
  | zero =>
    intro y1 y2 y3 y4 y5 y6 y7 s
    exact dt_none X
  | succ n ih =>
    intro y1 y2 y3 y4 y5 y6 y7 s
    rw [m_X12_odds_54]
    refine dt_iload X 7 dX12_odds_54 rfl ?_
    refine dt_iload_n X 3 dX12_odds_56 rfl rfl ?_
    refine dt_icmp_ge X 73 dX12_odds_57 (by decide) ?_ ?_
    · refine dt_iconst X (v := 0) dX12_odds_73 (by decide) ?_
      refine dt_istore X [(7, .int 0), (0, .ref (dn_a u 100)), (1, .int y1), (2, .int y2), (3, .int y3), (4, .int y4), (5, .int (dn_b y5)), (6, .int y6)] dX12_odds_74 rfl rfl ?_
      refine dt_sub X [(0, .ref (dn_a u 100)), (1, .int y1), (2, .int y2), (3, .int y3), (4, .int y4), (5, .int (dn_b y5)), (6, .int y6), (7, .int 0)] [1, 2, 3, 4, 5, 6, 7, 0] rfl ?_
      exact b_X12_odds_76 hu X 2048 y1 y2 y3 y4 (dn_b y5) y6 0 s
    · refine dt_iload X 6 dX12_odds_60 rfl ?_
      refine dt_bipush X (v := 10) dX12_odds_62 (by decide) ?_
      refine dt_imul X dX12_odds_64 ?_
      refine dt_let X (fun x1 => ?_)
      refine dt_istore X [(6, .int x1), (0, .ref (dn_a u 100)), (1, .int y1), (2, .int y2), (3, .int y3), (4, .int y4), (5, .int (dn_b y5)), (7, .int y7)] dX12_odds_65 rfl rfl ?_
      refine dt_iinc X (v := y7 + 1) 7 [(7, .int (y7 + 1)), (6, .int x1), (0, .ref (dn_a u 100)), (1, .int y1), (2, .int y2), (3, .int y3), (4, .int y4), (5, .int (dn_b y5))] dX12_odds_67 rfl (by rfl) rfl rfl ?_
      refine dt_ilet X rfl (fun x2 => ?_)
      refine dt_goto X 54 dX12_odds_70 (by decide) ?_
      refine dt_sub X [(0, .ref (dn_a u 100)), (1, .int y1), (2, .int y2), (3, .int y3), (4, .int y4), (5, .int (dn_b y5)), (6, .int x1), (7, .int x2)] [2, 3, 4, 5, 6, 7, 1, 0] rfl ?_
      exact ih y1 y2 y3 y4 y5 x1 x2 s
set_option maxRecDepth 100000 in
set_option maxHeartbeats 4000000 in
theorem c_X12_odds (l : Launch) (u : dn_U) (hu : dn_Lu u = dn_LR) (a1 : Int32) (a2 : Int32) (a3 : Int32) (a4 : Int32) (s : dn_S) : dn_Met l u yX12_odds wsX12_odds 4 94 [.ref (dn_a u 100), .int a1, .int a2, .int a3, .int a4] s (m_X12_odds a1 a2 a3 a4 s) (dn_QI u) := by
  refine dt_entry RX12 [(0, .ref (dn_a u 100)), (1, .int a1), (2, .int a2), (3, .int a3), (4, .int a4)] (by decide +kernel) rfl rfl rfl rfl (fun g hgl X => ?_)
  subst hgl
  unfold m_X12_odds
  refine dt_aload_n X 0 dX12_odds_0 rfl rfl ?_
  refine dt_iload_n X 1 dX12_odds_1 rfl rfl ?_
  refine dt_callZ X (dn_runV X (T := TX12) (N := 35) [.int a1] (dn_h100 hu) rfl rfl (c_X12_isDebt (dn_la g) u hu a1 s) gX12_odds_X12_isDebt rfl dn_hd_X12_isDebt rfl rfl rfl rfl dX12_odds_2) (fun r3 s1 e2 => ?_)
  refine dt_if_eqb X 43 dX12_odds_5 (by decide) ?_ ?_
  · refine dt_iconst X (v := -1) dX12_odds_43 (by decide) ?_
    exact dt_iret X dX12_odds_44
  · refine dt_iload_n X 2 dX12_odds_8 rfl rfl ?_
    refine dt_i2l X dX12_odds_9 ?_
    refine dt_lconst X (v := 0) dX12_odds_10 (by decide) ?_
    refine dt_ldc2 X (v := 10) dX12_odds_11 (by decide +kernel) ?_
    refine dt_callZ X (dn_runS X [.long ((a2 : Int32).toInt64), .long 0, .long 10] (c_X12_in (dn_la g) u hu ((a2 : Int32).toInt64) 0 10 s1) gX12_odds_X12_in rfl dn_hs_X12_in rfl rfl rfl rfl dX12_odds_14) (fun r6 s4 e5 => ?_)
    refine dt_if_eqb X 43 dX12_odds_17 (by decide) ?_ ?_
    · refine dt_iconst X (v := -1) dX12_odds_43 (by decide) ?_
      exact dt_iret X dX12_odds_44
    · refine dt_iload_n X 3 dX12_odds_20 rfl rfl ?_
      refine dt_i2l X dX12_odds_21 ?_
      refine dt_lconst X (v := 0) dX12_odds_22 (by decide) ?_
      refine dt_ldc2 X (v := 6) dX12_odds_23 (by decide +kernel) ?_
      refine dt_callZ X (dn_runS X [.long ((a3 : Int32).toInt64), .long 0, .long 6] (c_X12_in (dn_la g) u hu ((a3 : Int32).toInt64) 0 6 s4) gX12_odds_X12_in rfl dn_hs_X12_in rfl rfl rfl rfl dX12_odds_26) (fun r9 s7 e8 => ?_)
      refine dt_if_eqb X 43 dX12_odds_29 (by decide) ?_ ?_
      · refine dt_iconst X (v := -1) dX12_odds_43 (by decide) ?_
        exact dt_iret X dX12_odds_44
      · refine dt_iload X 4 dX12_odds_32 rfl ?_
        refine dt_i2l X dX12_odds_34 ?_
        refine dt_lconst X (v := 0) dX12_odds_35 (by decide) ?_
        refine dt_lconst X (v := 1) dX12_odds_36 (by decide) ?_
        refine dt_callZ X (dn_runS X [.long ((a4 : Int32).toInt64), .long 0, .long 1] (c_X12_in (dn_la g) u hu ((a4 : Int32).toInt64) 0 1 s7) gX12_odds_X12_in rfl dn_hs_X12_in rfl rfl rfl rfl dX12_odds_37) (fun r12 s10 e11 => ?_)
        refine dt_if_neb X 45 dX12_odds_40 (by decide) ?_ ?_
        · refine dt_iconst X (v := 0) dX12_odds_45 (by decide) ?_
          refine dt_istore X [(5, .int 0), (0, .ref (dn_a u 100)), (1, .int a1), (2, .int a2), (3, .int a3), (4, .int a4)] dX12_odds_46 rfl rfl ?_
          refine dt_iconst X (v := 1) dX12_odds_48 (by decide) ?_
          refine dt_istore X [(6, .int 1), (5, .int 0), (0, .ref (dn_a u 100)), (1, .int a1), (2, .int a2), (3, .int a3), (4, .int a4)] dX12_odds_49 rfl rfl ?_
          refine dt_iconst X (v := 0) dX12_odds_51 (by decide) ?_
          refine dt_istore X [(7, .int 0), (6, .int 1), (5, .int 0), (0, .ref (dn_a u 100)), (1, .int a1), (2, .int a2), (3, .int a3), (4, .int a4)] dX12_odds_52 rfl rfl ?_
          refine dt_sub X [(0, .ref (dn_a u 100)), (1, .int a1), (2, .int a2), (3, .int a3), (4, .int a4), (5, .int 0), (6, .int 1), (7, .int 0)] [3, 4, 5, 6, 7, 2, 1, 0] rfl ?_
          exact b_X12_odds_54 hu X 2048 a1 a2 a3 a4 false 1 0 s10
        · refine dt_iconst X (v := -1) dX12_odds_43 (by decide) ?_
          exact dt_iret X dX12_odds_44
set_option maxRecDepth 100000 in
set_option maxHeartbeats 4000000 in
theorem c_X12_bareRate (l : Launch) (u : dn_U) (hu : dn_Lu u = dn_LR) (a1 : Int32) (s : dn_S) : dn_Met l u yX12_bareRate wsX12_bareRate 0 0 [.ref (dn_a u 100), .int a1] s (m_X12_bareRate a1 s) (dn_QI u) := by
  refine dt_entry RX12 [(0, .ref (dn_a u 100)), (1, .int a1)] (by decide +kernel) rfl rfl rfl rfl (fun g hgl X => ?_)
  subst hgl
  unfold m_X12_bareRate
  refine dt_aload_n X 0 dX12_bareRate_0 rfl rfl ?_
  refine dt_dup X dX12_bareRate_1 rfl ?_
  refine dt_get X (T := TX12) (N := 35) (v := .long (dn_l s)) 15 (dn_h100 hu) rfl dn_in_X12_bareRate_12 rfl rfl dn_fw_X12_bareRate_233 rfl dX12_bareRate_2 ?_
  refine dt_lconst X (v := 1) dX12_bareRate_5 (by decide) ?_
  refine dt_ladd X dX12_bareRate_6 ?_
  refine dt_putl X (T := TX12) (N := 35) 15 (dn_h100 hu) rfl dn_in_X12_bareRate_12 rfl tyX12 tyX12_ok nmX12 rfl rfl dn_fw_X12_bareRate_233 rfl rfl (dn_setq100 _ _ _) (dn_qz100 hu) dX12_bareRate_7 (fun s1 => ?_)
  refine dt_aload_n X 0 dX12_bareRate_10 rfl rfl ?_
  refine dt_get X (T := TX12) (N := 35) (v := .ref (dn_a u 101)) 0 (dn_h100 hu) rfl dn_in_X12_bareRate_12 rfl rfl dn_fw_X12_bareRate_7 rfl dX12_bareRate_11 ?_
  refine dt_bipush X (v := 6) dX12_bareRate_14 (by decide) ?_
  refine dt_iload_n X 1 dX12_bareRate_16 rfl rfl ?_
  refine dt_iadd X dX12_bareRate_17 ?_
  refine dt_iald X (dn_h101 hu) dX12_bareRate_18 ?_
  exact dt_iret X dX12_bareRate_19
set_option maxRecDepth 100000 in
set_option maxHeartbeats 4000000 in
theorem c_X12_brewerRate (l : Launch) (u : dn_U) (hu : dn_Lu u = dn_LR) (a1 : Int32) (s : dn_S) : dn_Met l u yX12_brewerRate wsX12_brewerRate 1 21 [.ref (dn_a u 100), .int a1] s (m_X12_brewerRate a1 s) (dn_QI u) := by
  refine dt_entry RX12 [(0, .ref (dn_a u 100)), (1, .int a1)] (by decide +kernel) rfl rfl rfl rfl (fun g hgl X => ?_)
  subst hgl
  unfold m_X12_brewerRate
  refine dt_aload_n X 0 dX12_brewerRate_0 rfl rfl ?_
  refine dt_dup X dX12_brewerRate_1 rfl ?_
  refine dt_get X (T := TX12) (N := 35) (v := .long (dn_l s)) 15 (dn_h100 hu) rfl dn_in_X12_brewerRate_12 rfl rfl dn_fw_X12_brewerRate_233 rfl dX12_brewerRate_2 ?_
  refine dt_ldc2 X (v := 10) dX12_brewerRate_5 (by decide +kernel) ?_
  refine dt_ladd X dX12_brewerRate_8 ?_
  refine dt_putl X (T := TX12) (N := 35) 15 (dn_h100 hu) rfl dn_in_X12_brewerRate_12 rfl tyX12 tyX12_ok nmX12 rfl rfl dn_fw_X12_brewerRate_233 rfl rfl (dn_setq100 _ _ _) (dn_qz100 hu) dX12_brewerRate_9 (fun s1 => ?_)
  refine dt_aload_n X 0 dX12_brewerRate_12 rfl rfl ?_
  refine dt_iload_n X 1 dX12_brewerRate_13 rfl rfl ?_
  refine dt_callI X (dn_runV X (T := TX12) (N := 35) [.int a1] (dn_h100 hu) rfl rfl (c_X12_bareRate (dn_la g) u hu a1 s1) gX12_brewerRate_X12_bareRate rfl dn_hd_X12_bareRate rfl rfl rfl rfl dX12_brewerRate_14) (fun r4 s2 e3 => ?_)
  refine dt_aload_n X 0 dX12_brewerRate_17 rfl rfl ?_
  refine dt_get X (T := TX12) (N := 35) (v := .ref (dn_a u 104)) 5 (dn_h100 hu) rfl dn_in_X12_brewerRate_12 rfl rfl dn_fw_X12_brewerRate_20 rfl dX12_brewerRate_18 ?_
  refine dt_iload_n X 1 dX12_brewerRate_21 rfl rfl ?_
  refine dt_iald X (dn_h104 hu) dX12_brewerRate_22 ?_
  refine dt_iadd X dX12_brewerRate_23 ?_
  exact dt_iret X dX12_brewerRate_24
set_option maxRecDepth 100000 in
set_option maxHeartbeats 4000000 in
theorem b_X12_loverRate_63 {g : dn_M} {u : dn_U} (hu : dn_Lu u = dn_LR) (X : dn_X u g cX12_loverRate wsX12_loverRate RX12 4 1 21 (some .int)) (K16 : Int32 → Int32 → Int32 → dn_S → Option (Int32 × dn_S)) (H16 : ∀ (y1 : Int32) (y2 : Int32) (y3 : Int32) (s : dn_S), dn_T u g 4 (dn_QI u) (K16 y1 y2 y3 s) s 16 [(0, .ref (dn_a u 100)), (1, .int y1), (2, .int y2), (3, .int y3)] []) (y1 : Int32) (y3 : Int32) (z0 : Int32) (z1 : Int32) (s : dn_S) : dn_T u g 4 (dn_QI u) (m_X12_loverRate_63 K16 y1 y3 z0 z1 s) s 63 [(0, .ref (dn_a u 100)), (1, .int y1), (3, .int y3)] [.int z0, .int z1] := by
  unfold m_X12_loverRate_63
  refine dt_iadd X dX12_loverRate_63 ?_
  refine dt_let X (fun x1 => ?_)
  refine dt_istore_n X [(2, .int x1), (0, .ref (dn_a u 100)), (1, .int y1), (3, .int y3)] dX12_loverRate_64 rfl rfl rfl ?_
  refine dt_iinc X (v := y3 + 1) 3 [(3, .int (y3 + 1)), (2, .int x1), (0, .ref (dn_a u 100)), (1, .int y1)] dX12_loverRate_65 rfl (by rfl) rfl rfl ?_
  refine dt_ilet X rfl (fun x2 => ?_)
  refine dt_goto X 16 dX12_loverRate_68 (by decide) ?_
  refine dt_sub X [(0, .ref (dn_a u 100)), (1, .int y1), (2, .int x1), (3, .int x2)] [2, 3, 1, 0] rfl ?_
  exact H16 y1 x1 x2 s
set_option maxRecDepth 100000 in
set_option maxHeartbeats 4000000 in
theorem b_X12_loverRate_62 {g : dn_M} {u : dn_U} (hu : dn_Lu u = dn_LR) (X : dn_X u g cX12_loverRate wsX12_loverRate RX12 4 1 21 (some .int)) (K16 : Int32 → Int32 → Int32 → dn_S → Option (Int32 × dn_S)) (H16 : ∀ (y1 : Int32) (y2 : Int32) (y3 : Int32) (s : dn_S), dn_T u g 4 (dn_QI u) (K16 y1 y2 y3 s) s 16 [(0, .ref (dn_a u 100)), (1, .int y1), (2, .int y2), (3, .int y3)] []) (y1 : Int32) (y3 : Int32) (z0 : Int32) (s : dn_S) : dn_T u g 4 (dn_QI u) (m_X12_loverRate_62 K16 y1 y3 z0 s) s 62 [(0, .ref (dn_a u 100)), (1, .int y1), (3, .int y3)] [.int z0] := by
  unfold m_X12_loverRate_62
  refine dt_iconst X (v := 0) dX12_loverRate_62 (by decide) ?_
  refine dt_sub X [(0, .ref (dn_a u 100)), (1, .int y1), (3, .int y3)] [0, 1, 2] rfl ?_
  exact b_X12_loverRate_63 hu X K16 H16 y1 y3 0 z0 s
set_option maxRecDepth 100000 in
set_option maxHeartbeats 4000000 in
theorem b_X12_loverRate_16 {g : dn_M} {u : dn_U} (hu : dn_Lu u = dn_LR) (X : dn_X u g cX12_loverRate wsX12_loverRate RX12 4 1 21 (some .int)) : ∀ (n : Nat) (y1 : Int32) (y2 : Int32) (y3 : Int32) (s : dn_S), dn_T u g 4 (dn_QI u) (m_X12_loverRate_16 n y1 y2 y3 s) s 16 [(0, .ref (dn_a u 100)), (1, .int y1), (2, .int y2), (3, .int y3)] [] := by
  intro n
  induction n with
  | zero =>
    intro y1 y2 y3 s
    exact dt_none X
  | succ n ih =>
    intro y1 y2 y3 s
    rw [m_X12_loverRate_16]
    refine dt_iload_n X 3 dX12_loverRate_16 rfl rfl ?_
    refine dt_aload_n X 0 dX12_loverRate_17 rfl rfl ?_
    refine dt_get X (T := TX12) (N := 35) (v := .int (dn_g s 100 8)) 8 (dn_h100 hu) rfl dn_in_X12_loverRate_12 rfl rfl dn_fw_X12_loverRate_128 rfl dX12_loverRate_18 ?_
    refine dt_icmp_ge X 71 dX12_loverRate_21 (by decide) ?_ ?_
    · refine dt_aload_n X 0 dX12_loverRate_71 rfl rfl ?_
      refine dt_iload_n X 1 dX12_loverRate_72 rfl rfl ?_
      refine dt_callI X (dn_runV X (T := TX12) (N := 35) [.int y1] (dn_h100 hu) rfl rfl (c_X12_bareRate (dn_la g) u hu y1 s) gX12_loverRate_X12_bareRate rfl dn_hd_X12_bareRate rfl rfl rfl rfl dX12_loverRate_73) (fun r3 s1 e2 => ?_)
      refine dt_iload_n X 2 dX12_loverRate_76 rfl rfl ?_
      refine dt_isub X dX12_loverRate_77 ?_
      exact dt_iret X dX12_loverRate_78
    · refine dt_iload_n X 2 dX12_loverRate_24 rfl rfl ?_
      refine dt_aload_n X 0 dX12_loverRate_25 rfl rfl ?_
      refine dt_get X (T := TX12) (N := 35) (v := .ref (dn_a u 106)) 9 (dn_h100 hu) rfl dn_in_X12_loverRate_12 rfl rfl dn_fw_X12_loverRate_30 rfl dX12_loverRate_26 ?_
      refine dt_iconst X (v := 5) dX12_loverRate_29 (by decide) ?_
      refine dt_iload_n X 3 dX12_loverRate_30 rfl rfl ?_
      refine dt_imul X dX12_loverRate_31 ?_
      refine dt_iald X (dn_h106 hu) dX12_loverRate_32 ?_
      refine dt_iload_n X 1 dX12_loverRate_33 rfl rfl ?_
      refine dt_icmp_ne X 62 dX12_loverRate_34 (by decide) ?_ ?_
      · refine dt_sub X [(0, .ref (dn_a u 100)), (1, .int y1), (3, .int y3)] [0, 1, 3] rfl ?_
        exact b_X12_loverRate_62 hu X (m_X12_loverRate_16 n) ih y1 y3 y2 s
      · refine dt_aload_n X 0 dX12_loverRate_37 rfl rfl ?_
        refine dt_get X (T := TX12) (N := 35) (v := .ref (dn_a u 101)) 0 (dn_h100 hu) rfl dn_in_X12_loverRate_12 rfl rfl dn_fw_X12_loverRate_7 rfl dX12_loverRate_38 ?_
        refine dt_bipush X (v := 10) dX12_loverRate_41 (by decide) ?_
        refine dt_iload_n X 3 dX12_loverRate_43 rfl rfl ?_
        refine dt_iadd X dX12_loverRate_44 ?_
        refine dt_iald X (dn_h101 hu) dX12_loverRate_45 ?_
        refine dt_if_ne X 62 dX12_loverRate_46 (by decide) ?_ ?_
        · refine dt_sub X [(0, .ref (dn_a u 100)), (1, .int y1), (3, .int y3)] [0, 1, 3] rfl ?_
          exact b_X12_loverRate_62 hu X (m_X12_loverRate_16 n) ih y1 y3 y2 s
        · refine dt_aload_n X 0 dX12_loverRate_49 rfl rfl ?_
          refine dt_get X (T := TX12) (N := 35) (v := .ref (dn_a u 106)) 9 (dn_h100 hu) rfl dn_in_X12_loverRate_12 rfl rfl dn_fw_X12_loverRate_30 rfl dX12_loverRate_50 ?_
          refine dt_iconst X (v := 5) dX12_loverRate_53 (by decide) ?_
          refine dt_iload_n X 3 dX12_loverRate_54 rfl rfl ?_
          refine dt_imul X dX12_loverRate_55 ?_
          refine dt_iconst X (v := 2) dX12_loverRate_56 (by decide) ?_
          refine dt_iadd X dX12_loverRate_57 ?_
          refine dt_iald X (dn_h106 hu) dX12_loverRate_58 ?_
          refine dt_goto X 63 dX12_loverRate_59 (by decide) ?_
          refine dt_sub X [(0, .ref (dn_a u 100)), (1, .int y1), (3, .int y3)] [0, 1, 3] rfl ?_
          exact b_X12_loverRate_63 hu X (m_X12_loverRate_16 n) ih y1 y3 (dn_g s 106 ((5 * y3) + 2).toNatClampNeg) y2 s
set_option maxRecDepth 100000 in
set_option maxHeartbeats 4000000 in
theorem c_X12_loverRate (l : Launch) (u : dn_U) (hu : dn_Lu u = dn_LR) (a1 : Int32) (s : dn_S) : dn_Met l u yX12_loverRate wsX12_loverRate 1 21 [.ref (dn_a u 100), .int a1] s (m_X12_loverRate a1 s) (dn_QI u) := by
  refine dt_entry RX12 [(0, .ref (dn_a u 100)), (1, .int a1)] (by decide +kernel) rfl rfl rfl rfl (fun g hgl X => ?_)
  subst hgl
  unfold m_X12_loverRate
  refine dt_aload_n X 0 dX12_loverRate_0 rfl rfl ?_
  refine dt_dup X dX12_loverRate_1 rfl ?_
  refine dt_get X (T := TX12) (N := 35) (v := .long (dn_l s)) 15 (dn_h100 hu) rfl dn_in_X12_loverRate_12 rfl rfl dn_fw_X12_loverRate_233 rfl dX12_loverRate_2 ?_
  refine dt_ldc2 X (v := 100) dX12_loverRate_5 (by decide +kernel) ?_
  refine dt_ladd X dX12_loverRate_8 ?_
  refine dt_putl X (T := TX12) (N := 35) 15 (dn_h100 hu) rfl dn_in_X12_loverRate_12 rfl tyX12 tyX12_ok nmX12 rfl rfl dn_fw_X12_loverRate_233 rfl rfl (dn_setq100 _ _ _) (dn_qz100 hu) dX12_loverRate_9 (fun s1 => ?_)
  refine dt_iconst X (v := 0) dX12_loverRate_12 (by decide) ?_
  refine dt_istore_n X [(2, .int 0), (0, .ref (dn_a u 100)), (1, .int a1)] dX12_loverRate_13 rfl rfl rfl ?_
  refine dt_iconst X (v := 0) dX12_loverRate_14 (by decide) ?_
  refine dt_istore_n X [(3, .int 0), (2, .int 0), (0, .ref (dn_a u 100)), (1, .int a1)] dX12_loverRate_15 rfl rfl rfl ?_
  refine dt_sub X [(0, .ref (dn_a u 100)), (1, .int a1), (2, .int 0), (3, .int 0)] [2, 3, 1, 0] rfl ?_
  exact b_X12_loverRate_16 hu X 2048 a1 0 0 s1
