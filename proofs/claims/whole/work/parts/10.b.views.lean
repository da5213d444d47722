/-! numbers; the abstract values: a town, a moment; how the class and the reference hold them -/
theorem nI_mul (a b : Nat) : nI a * nI b = nI (a * b) := (Int32.ofNat_mul a b).symm
theorem nI_sub {a b : Nat} (h : b ≤ a) : nI a - nI b = nI (a - b) := by
  have h1 := nI_add (a - b) b
  rw [Nat.sub_add_cancel h] at h1
  rw [← h1, Int32.add_sub_cancel]
theorem nl_0 : (0 : Int32) = nI 0 := by decide
theorem nl_1 : (1 : Int32) = nI 1 := by decide
theorem nl_2 : (2 : Int32) = nI 2 := by decide
theorem nl_3 : (3 : Int32) = nI 3 := by decide
theorem nl_4 : (4 : Int32) = nI 4 := by decide
theorem nl_5 : (5 : Int32) = nI 5 := by decide
theorem nl_6 : (6 : Int32) = nI 6 := by decide
theorem nl_7 : (7 : Int32) = nI 7 := by decide
theorem nl_8 : (8 : Int32) = nI 8 := by decide
theorem nl_9 : (9 : Int32) = nI 9 := by decide
theorem nl_10 : (10 : Int32) = nI 10 := by decide
theorem nl_16 : (16 : Int32) = nI 16 := by decide
theorem nl_17 : (17 : Int32) = nI 17 := by decide
theorem nl_19 : (19 : Int32) = nI 19 := by decide
theorem nl_20 : (20 : Int32) = nI 20 := by decide
theorem nl_21 : (21 : Int32) = nI 21 := by decide
theorem nl_30 : (30 : Int32) = nI 30 := by decide
theorem nl_31 : (31 : Int32) = nI 31 := by decide
theorem nl_32 : (32 : Int32) = nI 32 := by decide
theorem nl_40 : (40 : Int32) = nI 40 := by decide
theorem nl_41 : (41 : Int32) = nI 41 := by decide
theorem nl_48 : (48 : Int32) = nI 48 := by decide
theorem nl_50 : (50 : Int32) = nI 50 := by decide
theorem nl_57 : (57 : Int32) = nI 57 := by decide
theorem nl_60 : (60 : Int32) = nI 60 := by decide
theorem nl_64 : (64 : Int32) = nI 64 := by decide
theorem nl_99 : (99 : Int32) = nI 99 := by decide
theorem nl_100 : (100 : Int32) = nI 100 := by decide
theorem nl_119 : (119 : Int32) = nI 119 := by decide
theorem nl_120 : (120 : Int32) = nI 120 := by decide
theorem nl_121 : (121 : Int32) = nI 121 := by decide
theorem nl_122 : (122 : Int32) = nI 122 := by decide
theorem nl_123 : (123 : Int32) = nI 123 := by decide
theorem nl_124 : (124 : Int32) = nI 124 := by decide
theorem nl_125 : (125 : Int32) = nI 125 := by decide
theorem nl_126 : (126 : Int32) = nI 126 := by decide
theorem nl_130 : (130 : Int32) = nI 130 := by decide
theorem nl_136 : (136 : Int32) = nI 136 := by decide
theorem nl_200 : (200 : Int32) = nI 200 := by decide
theorem nl_240 : (240 : Int32) = nI 240 := by decide
theorem nl_255 : (255 : Int32) = nI 255 := by decide
theorem nl_256 : (256 : Int32) = nI 256 := by decide
theorem nl_257 : (257 : Int32) = nI 257 := by decide
theorem nl_480 : (480 : Int32) = nI 480 := by decide
theorem nl_1080 : (1080 : Int32) = nI 1080 := by decide
/-- a town: bidders, debts, bar; of a bidder: purse, wage, worths; of a debt: who, to whom, coins, k, name -/
abbrev Tv : Type := Nat × Nat × Nat × (Nat → Nat → Int32) × (Nat → Nat → Int32)
def tv_b (τ : Tv) : Nat := τ.1
def tv_d (τ : Tv) : Nat := τ.2.1
def tv_r (τ : Tv) : Nat := τ.2.2.1
def tv_F (τ : Tv) (b f : Nat) : Int32 := τ.2.2.2.1 b f
def tv_O (τ : Tv) (d j : Nat) : Int32 := τ.2.2.2.2 d j
/-- a moment: names, purses, how debts are, days, skipped, spent -/
abbrev Mv : Type := (Nat → Int32) × (Nat → Int32) × (Nat → Int32) × Nat × Int32 × Int32
def mv_N (m : Mv) (i : Nat) : Int32 := m.1 i
def mv_P (m : Mv) (b : Nat) : Int32 := m.2.1 b
def mv_H (m : Mv) (d : Nat) : Int32 := m.2.2.1 d
def mv_d (m : Mv) : Nat := m.2.2.2.1
def mv_k (m : Mv) : Int32 := m.2.2.2.2.1
def mv_p (m : Mv) : Int32 := m.2.2.2.2.2
/-- well made -/
def WT (τ : Tv) : Prop := tv_b τ ≤ 4 ∧ tv_d τ ≤ 6 ∧ tv_r τ ≤ 7 ∧ (∀ b, b < tv_b τ → ∀ n, n < 5 → ∃ v : Nat, v ≤ 20 ∧ tv_F τ b (n + 2) = nI v) ∧
  (∀ d, d < tv_d τ → (∃ w : Nat, w < tv_b τ ∧ tv_O τ d 0 = nI w) ∧ (∃ w : Nat, w < tv_b τ ∧ tv_O τ d 1 = nI w) ∧ ∃ w : Nat, w < 5 ∧ tv_O τ d 4 = nI w)
def CT (s : dn_S) (k : Nat) (τ : Tv) : Prop := dn_g s k 2 = nI (tv_b τ) ∧ dn_g s k 3 = nI (tv_d τ) ∧ dn_g s k 4 = nI (tv_r τ) ∧
  (∀ b, b < tv_b τ → ∀ f, f < 7 → dn_g s (k + 1) (b * 7 + f) = tv_F τ b f) ∧ (∀ d, d < tv_d τ → ∀ j, j < 5 → dn_g s (k + 2) (d * 5 + j) = tv_O τ d j)
def RT (t : dn_S) (τ : Tv) : Prop := dn_g t 100 3 = nI (tv_b τ) ∧ dn_g t 100 8 = nI (tv_d τ) ∧ dn_g t 100 7 = nI (tv_r τ) ∧
  (∀ b, b < tv_b τ → dn_g t 103 b = tv_F τ b 0 ∧ dn_g t 104 b = tv_F τ b 1 ∧ ∀ n, n < 5 → dn_g t 105 (5 * b + n) = tv_F τ b (n + 2)) ∧
  (∀ d, d < tv_d τ → ∀ j, j < 5 → dn_g t 106 (5 * d + j) = tv_O τ d j)
/-- how many debts are in default -/
def ab_df (H : Nat → Int32) : Nat → Nat → Nat
  | 0, _ => 0
  | c + 1, i => (if H i = nI 2 then 1 else 0) + ab_df H c (i + 1)
def CM (s : dn_S) (k : Nat) (τ : Tv) (m : Mv) : Prop := dn_g s k 3 = nI (mv_d m) ∧ dn_g s k 4 = mv_k m ∧ dn_g s k 5 = mv_p m ∧
  (∀ i, i < mv_d m → dn_g s (k + 1) i = mv_N m i) ∧ (∀ b, b < tv_b τ → dn_g s (k + 2) b = mv_P m b) ∧ (∀ j, j < 6 → dn_g s (k + 3) j = mv_H m j)
def RM (t : dn_S) (h : Nat) (τ : Tv) (m : Mv) : Prop := dn_g t 101 h = nI (mv_d m) ∧ dn_g t 101 (h + 1) = mv_k m ∧ dn_g t 101 (h + 2) = mv_p m ∧ dn_g t 101 (h + 3) = nI (ab_df (mv_H m) 6 0) ∧
  (∀ i, i < mv_d m → dn_g t 101 (h + 16 + i) = mv_N m i) ∧ (∀ b, b < tv_b τ → dn_g t 101 (h + 6 + b) = mv_P m b) ∧ (∀ j, j < 6 → dn_g t 101 (h + 10 + j) = mv_H m j)
/-- one's own bid: its name, its coins (0: none) -/
def CO (s : dn_S) (k : Nat) (o : Int32 × Int32) : Prop := dn_g s k 6 = o.1 ∧ dn_g s k 7 = o.2
def RO (t : dn_S) (h : Nat) (o : Int32 × Int32) : Prop := dn_g t 101 (h + 4) = o.2 ∧ (0 < o.2 → dn_g t 101 (h + 5) = o.1)
/-- barred: one of the latest c + i days, but i -/
def ab_bar (N : Nat → Int32) (d : Nat) (x : Int32) : Nat → Nat → Bool
  | 0, _ => false
  | c + 1, i => if N (d - (i + 1)) = x then true else ab_bar N d x c (i + 1)
def ab_brd (τ : Tv) (m : Mv) (x : Int32) : Bool := ab_bar (mv_N m) (mv_d m) x (min (tv_r τ) (mv_d m)) 0
theorem ab_bar_congr {N N' : Nat → Int32} {d : Nat} {x : Int32} (h : ∀ i, i < d → N i = N' i) : ∀ c i, i + c ≤ d → ab_bar N d x c i = ab_bar N' d x c i := by
  intro c
  induction c with
  | zero => intro i _; rfl
  | succ c ih =>
    intro i hi
    unfold ab_bar
    rw [h (d - (i + 1)) (by omega), ih (i + 1) (by omega)]
theorem cq_bar_loop {s : dn_S} {k d r : Nat} {x : Int32} (hd : dn_g s k 3 = nI d) (h1 : d ≤ 100) (h2 : r ≤ 7) : ∀ (c i fuel : Nat), i + c = min r d → c < fuel → m_X3_isBarred_2 k fuel x (nI r) (nI (i + 1)) s = some (ab_bar (fun i => dn_g s (k + 1) i) d x c i, s) := by
  intro c
  induction c with
  | zero =>
    intro i fuel hi hf
    obtain ⟨n, rfl⟩ : ∃ n, fuel = n + 1 := ⟨fuel - 1, by omega⟩
    rw [m_X3_isBarred_2, hd]
    try simp (disch := omega) only [nl_0, nl_1, nl_2, nl_3, nl_4, nl_5, nl_6, nl_7, nl_8, nl_9, nl_10, nl_16, nl_17, nl_19, nl_20, nl_21, nl_30, nl_31, nl_32, nl_40, nl_41, nl_48, nl_50, nl_57, nl_60, nl_64, nl_99, nl_100, nl_119, nl_120, nl_121, nl_122, nl_123, nl_124, nl_125, nl_126, nl_130, nl_136, nl_200, nl_240, nl_255, nl_256, nl_257, nl_480, nl_1080, nI_add, nI_mul, nI_sub, cq_ib, nI_clamp, nI_leI, nI_ltI, nI_eq, dn_ck_t, dn_bd_s, dn_wr_e, dn_lt_e, cq_ofNat]
    by_cases h : r < i + 1
    · rw [if_pos h]; rfl
    · rw [if_neg h, if_pos (by omega)]; rfl
  | succ c ih =>
    intro i fuel hi hf
    obtain ⟨n, rfl⟩ : ∃ n, fuel = n + 1 := ⟨fuel - 1, by omega⟩
    rw [m_X3_isBarred_2, hd]
    try simp (disch := omega) only [nl_0, nl_1, nl_2, nl_3, nl_4, nl_5, nl_6, nl_7, nl_8, nl_9, nl_10, nl_16, nl_17, nl_19, nl_20, nl_21, nl_30, nl_31, nl_32, nl_40, nl_41, nl_48, nl_50, nl_57, nl_60, nl_64, nl_99, nl_100, nl_119, nl_120, nl_121, nl_122, nl_123, nl_124, nl_125, nl_126, nl_130, nl_136, nl_200, nl_240, nl_255, nl_256, nl_257, nl_480, nl_1080, nI_add, nI_mul, nI_sub, cq_ib, nI_clamp, nI_leI, nI_ltI, nI_eq, dn_ck_t, dn_bd_s, dn_wr_e, dn_lt_e, cq_ofNat, cq_at_nI]
    rw [if_neg (by omega), if_neg (by omega), ih (i + 1) n (by omega) (by omega)]
    rw [ab_bar]
    split <;> rfl
theorem cq_bar {s : dn_S} {k : Nat} {τ : Tv} {m : Mv} {x : Int32} (hM : CM s k τ m) (h1 : mv_d m ≤ 100) (h2 : tv_r τ ≤ 7) : m_X3_isBarred k x (nI (tv_r τ)) s = some (ab_brd τ m x, s) := by
  unfold m_X3_isBarred ab_brd
  rw [nl_1, show nI 1 = nI (0 + 1) from rfl, cq_bar_loop hM.1 h1 h2 (min (tv_r τ) (mv_d m)) 0 2048 (by omega) (by omega), ab_bar_congr (N' := mv_N m) hM.2.2.2.1 _ _ (by omega)]
theorem rq_bar_done {t : dn_S} {h d r y : Nat} {x : Int32} (hd : dn_g t 101 h = nI d) (hr : dn_g t 100 7 = nI r) (h0 : h ≤ 1500) (h1 : d ≤ 104) (h2 : r ≤ 7) : ∀ (c i fuel : Nat), i + c = min r d → c < fuel → m_X12_isBarred_5 fuel (nI h) x true (nI (i + 1)) t = some (true, t) := by
  intro c
  induction c with
  | zero =>
    intro i fuel hi hf
    obtain ⟨n, rfl⟩ : ∃ n, fuel = n + 1 := ⟨fuel - 1, by omega⟩
    rw [m_X12_isBarred_5]
    try simp (disch := omega) only [nl_0, nl_1, nl_2, nl_3, nl_4, nl_5, nl_6, nl_7, nl_8, nl_9, nl_10, nl_16, nl_17, nl_19, nl_20, nl_21, nl_30, nl_31, nl_32, nl_40, nl_41, nl_48, nl_50, nl_57, nl_60, nl_64, nl_99, nl_100, nl_119, nl_120, nl_121, nl_122, nl_123, nl_124, nl_125, nl_126, nl_130, nl_136, nl_200, nl_240, nl_255, nl_256, nl_257, nl_480, nl_1080, nI_add, nI_mul, nI_sub, cq_ib, nI_clamp, nI_leI, nI_ltI, nI_eq, dn_ck_t, dn_bd_s, dn_wr_e, dn_lt_e, cq_ofNat, Nat.add_zero, hd, hr]
    by_cases h : r < i + 1
    · rw [if_pos h]
    · rw [if_neg h, if_pos (by omega)]
  | succ c ih =>
    intro i fuel hi hf
    obtain ⟨n, rfl⟩ : ∃ n, fuel = n + 1 := ⟨fuel - 1, by omega⟩
    rw [m_X12_isBarred_5]
    try simp (disch := omega) only [nl_0, nl_1, nl_2, nl_3, nl_4, nl_5, nl_6, nl_7, nl_8, nl_9, nl_10, nl_16, nl_17, nl_19, nl_20, nl_21, nl_30, nl_31, nl_32, nl_40, nl_41, nl_48, nl_50, nl_57, nl_60, nl_64, nl_99, nl_100, nl_119, nl_120, nl_121, nl_122, nl_123, nl_124, nl_125, nl_126, nl_130, nl_136, nl_200, nl_240, nl_255, nl_256, nl_257, nl_480, nl_1080, nI_add, nI_mul, nI_sub, cq_ib, nI_clamp, nI_leI, nI_ltI, nI_eq, dn_ck_t, dn_bd_s, dn_wr_e, dn_lt_e, cq_ofNat, Nat.add_zero, hd, hr]
    rw [if_neg (by omega), if_neg (by omega), if_pos trivial, m_X12_isBarred_56, m_X12_isBarred_61]
    try simp (disch := omega) only [nl_0, nl_1, nl_2, nl_3, nl_4, nl_5, nl_6, nl_7, nl_8, nl_9, nl_10, nl_16, nl_17, nl_19, nl_20, nl_21, nl_30, nl_31, nl_32, nl_40, nl_41, nl_48, nl_50, nl_57, nl_60, nl_64, nl_99, nl_100, nl_119, nl_120, nl_121, nl_122, nl_123, nl_124, nl_125, nl_126, nl_130, nl_136, nl_200, nl_240, nl_255, nl_256, nl_257, nl_480, nl_1080, nI_add, nI_mul, nI_sub, cq_ib, nI_clamp, nI_leI, nI_ltI, nI_eq, dn_ck_t, dn_bd_s, dn_wr_e, dn_lt_e, cq_ofNat]
    exact ih (i + 1) n (by omega) (by omega)
theorem rq_bar_loop {t : dn_S} {h d r : Nat} {x : Int32} (hd : dn_g t 101 h = nI d) (hr : dn_g t 100 7 = nI r) (h0 : h ≤ 1500) (h1 : d ≤ 104) (h2 : r ≤ 7) : ∀ (c i fuel : Nat), i + c = min r d → c < fuel → m_X12_isBarred_5 fuel (nI h) x false (nI (i + 1)) t = some (ab_bar (fun i => dn_g t 101 (h + 16 + i)) d x c i, t) := by
  intro c
  induction c with
  | zero =>
    intro i fuel hi hf
    obtain ⟨n, rfl⟩ : ∃ n, fuel = n + 1 := ⟨fuel - 1, by omega⟩
    rw [m_X12_isBarred_5]
    try simp (disch := omega) only [nl_0, nl_1, nl_2, nl_3, nl_4, nl_5, nl_6, nl_7, nl_8, nl_9, nl_10, nl_16, nl_17, nl_19, nl_20, nl_21, nl_30, nl_31, nl_32, nl_40, nl_41, nl_48, nl_50, nl_57, nl_60, nl_64, nl_99, nl_100, nl_119, nl_120, nl_121, nl_122, nl_123, nl_124, nl_125, nl_126, nl_130, nl_136, nl_200, nl_240, nl_255, nl_256, nl_257, nl_480, nl_1080, nI_add, nI_mul, nI_sub, cq_ib, nI_clamp, nI_leI, nI_ltI, nI_eq, dn_ck_t, dn_bd_s, dn_wr_e, dn_lt_e, cq_ofNat, Nat.add_zero, hd, hr]
    by_cases h : r < i + 1
    · rw [if_pos h]; rfl
    · rw [if_neg h, if_pos (by omega)]; rfl
  | succ c ih =>
    intro i fuel hi hf
    obtain ⟨n, rfl⟩ : ∃ n, fuel = n + 1 := ⟨fuel - 1, by omega⟩
    rw [m_X12_isBarred_5]
    try simp (disch := omega) only [nl_0, nl_1, nl_2, nl_3, nl_4, nl_5, nl_6, nl_7, nl_8, nl_9, nl_10, nl_16, nl_17, nl_19, nl_20, nl_21, nl_30, nl_31, nl_32, nl_40, nl_41, nl_48, nl_50, nl_57, nl_60, nl_64, nl_99, nl_100, nl_119, nl_120, nl_121, nl_122, nl_123, nl_124, nl_125, nl_126, nl_130, nl_136, nl_200, nl_240, nl_255, nl_256, nl_257, nl_480, nl_1080, nI_add, nI_mul, nI_sub, cq_ib, nI_clamp, nI_leI, nI_ltI, nI_eq, dn_ck_t, dn_bd_s, dn_wr_e, dn_lt_e, cq_ofNat, Nat.add_zero, hd, hr]
    rw [if_neg (by omega), if_neg (by omega), if_neg (by decide)]
    try simp (disch := omega) only [nl_0, nl_1, nl_2, nl_3, nl_4, nl_5, nl_6, nl_7, nl_8, nl_9, nl_10, nl_16, nl_17, nl_19, nl_20, nl_21, nl_30, nl_31, nl_32, nl_40, nl_41, nl_48, nl_50, nl_57, nl_60, nl_64, nl_99, nl_100, nl_119, nl_120, nl_121, nl_122, nl_123, nl_124, nl_125, nl_126, nl_130, nl_136, nl_200, nl_240, nl_255, nl_256, nl_257, nl_480, nl_1080, nI_add, nI_mul, nI_sub, cq_ib, nI_clamp, nI_leI, nI_ltI, nI_eq, dn_ck_t, dn_bd_s, dn_wr_e, dn_lt_e, cq_ofNat, Nat.add_zero, hd, hr]
    rw [show h + 16 + d - (i + 1) = h + 16 + (d - (i + 1)) by omega]
    rw [ab_bar]
    unfold m_X12_isBarred_56 m_X12_isBarred_61
    try simp (disch := omega) only [nl_0, nl_1, nl_2, nl_3, nl_4, nl_5, nl_6, nl_7, nl_8, nl_9, nl_10, nl_16, nl_17, nl_19, nl_20, nl_21, nl_30, nl_31, nl_32, nl_40, nl_41, nl_48, nl_50, nl_57, nl_60, nl_64, nl_99, nl_100, nl_119, nl_120, nl_121, nl_122, nl_123, nl_124, nl_125, nl_126, nl_130, nl_136, nl_200, nl_240, nl_255, nl_256, nl_257, nl_480, nl_1080, nI_add, nI_mul, nI_sub, cq_ib, nI_clamp, nI_leI, nI_ltI, nI_eq, dn_ck_t, dn_bd_s, dn_wr_e, dn_lt_e, cq_ofNat]
    by_cases hx : dn_g t 101 (h + 16 + (d - (i + 1))) = x
    · rw [if_pos hx, if_pos hx, rq_bar_done (y := 0) hd hr h0 h1 h2 c (i + 1) n (by omega) (by omega)]
    · rw [if_neg hx, if_neg hx, ih (i + 1) n (by omega) (by omega)]
theorem rq_bar {t : dn_S} {h : Nat} {τ : Tv} {m : Mv} {x : Int32} (hM : RM t h τ m) (hT : RT t τ) (h0 : h ≤ 1500) (h1 : mv_d m ≤ 104) (h2 : tv_r τ ≤ 7) : m_X12_isBarred (nI h) x t = some (ab_brd τ m x, t) := by
  unfold m_X12_isBarred ab_brd
  rw [nl_1, show nI 1 = nI (0 + 1) from rfl, rq_bar_loop hM.1 hT.2.2.1 h0 h1 h2 (min (tv_r τ) (mv_d m)) 0 2048 (by omega) (by omega), ab_bar_congr (N' := mv_N m) hM.2.2.2.2.1 _ _ (by omega)]
