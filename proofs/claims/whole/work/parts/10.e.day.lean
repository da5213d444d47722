/-! who wins a night and what is paid; a day of a name: wages, debts -/
def ab_wn (c : Nat → Int32) : Nat → Nat → Int32 × Int32 → Int32 × Int32
  | 0, _, z => z
  | n + 1, i, z => ab_wn c n (i + 1) (if c i ≤ z.2 then z else (nI i, c i))
def ab_nx (c : Nat → Int32) (w : Int32) : Nat → Nat → Int32 → Int32
  | 0, _, x => x
  | n + 1, i, x => ab_nx c w n (i + 1) (if nI i = w then x else if c i ≤ x then x else c i)
def ab_pr (x hi : Int32) : Int32 := if x + 1 ≤ hi then x + 1 else hi
def ab_w (c : Nat → Int32) : Int32 × Int32 := ab_wn c 5 0 (-9, 0)
def ab_price (c : Nat → Int32) : Int32 := ab_pr (ab_nx c (ab_w c).1 5 0 0) (ab_w c).2
theorem i32_nle {a b : Int32} (h : ¬ a ≤ b) : b < a := by rw [Int32.lt_iff_toInt_lt]; rw [Int32.le_iff_toInt_le] at h; omega
theorem i32_nlt {a b : Int32} (h : a ≤ b) : ¬ b < a := by rw [Int32.lt_iff_toInt_lt]; rw [Int32.le_iff_toInt_le] at h; omega
theorem i32_le {a b : Int32} (h : ¬ b < a) : a ≤ b := by rw [Int32.le_iff_toInt_le]; rw [Int32.lt_iff_toInt_lt] at h; omega
def ab_okw (c : Nat → Int32) (z : Int32 × Int32) : Prop := (z.1 = -9 ∧ z.2 = 0) ∨ ∃ i : Nat, i < 5 ∧ z.1 = nI i ∧ z.2 = c i ∧ 0 < c i
theorem ab_wn_ok (c : Nat → Int32) : ∀ n i z, i + n ≤ 5 → ab_okw c z → ab_okw c (ab_wn c n i z) := by
  intro n
  induction n with
  | zero => intro i z _ hz; exact hz
  | succ n ih =>
    intro i z hi hz
    rw [ab_wn]
    by_cases h : c i ≤ z.2
    · rw [if_pos h]; exact ih (i + 1) z (by omega) hz
    · rw [if_neg h]
      refine ih (i + 1) _ (by omega) (Or.inr ⟨i, by omega, rfl, rfl, ?_⟩)
      have h0 : (0 : Int32) ≤ z.2 := by
        rcases hz with ⟨_, q⟩ | ⟨j, _, _, q, r⟩
        · rw [q]; decide
        · rw [q, Int32.le_iff_toInt_le]; rw [Int32.lt_iff_toInt_lt] at r; omega
      have h1 := i32_nle h
      rw [Int32.lt_iff_toInt_lt] at h1 ⊢
      rw [Int32.le_iff_toInt_le] at h0
      omega
theorem ab_w_ok (c : Nat → Int32) : ab_okw c (ab_w c) := ab_wn_ok c 5 0 _ (by omega) (Or.inl ⟨rfl, rfl⟩)
theorem cq_wn {s : dn_S} {c : Nat → Int32} (hc : ∀ j, j < 5 → dn_g s 17 j = c j) : ∀ (n i fuel : Nat) (z : Int32 × Int32), i + n = 5 → n < fuel → m_X1_winner_7 fuel z.1 z.2 (nI i) s = some ((ab_wn c n i z).1, s) := by
  intro n
  induction n with
  | zero =>
    intro i fuel z hi hf
    obtain ⟨f, rfl⟩ : ∃ f, fuel = f + 1 := ⟨fuel - 1, by omega⟩
    rw [m_X1_winner_7]
    try simp (disch := omega) only [nl_0, nl_1, nl_2, nl_3, nl_4, nl_5, nl_6, nl_7, nl_8, nl_9, nl_10, nl_16, nl_17, nl_19, nl_20, nl_21, nl_30, nl_31, nl_32, nl_40, nl_41, nl_48, nl_50, nl_57, nl_60, nl_64, nl_99, nl_100, nl_119, nl_120, nl_121, nl_122, nl_123, nl_124, nl_125, nl_126, nl_130, nl_136, nl_200, nl_240, nl_255, nl_256, nl_257, nl_480, nl_1080, nI_add, nI_mul, nI_sub, cq_ib, nI_clamp, nI_leI, nI_ltI, nI_eq, dn_ck_t, dn_bd_s, dn_wr_e, dn_lt_e, cq_ofNat]
    rw [if_pos (by omega)]
    rfl
  | succ n ih =>
    intro i fuel z hi hf
    obtain ⟨f, rfl⟩ : ∃ f, fuel = f + 1 := ⟨fuel - 1, by omega⟩
    rw [m_X1_winner_7, ab_wn]
    unfold m_X1_winner_35
    try simp (disch := omega) only [nl_0, nl_1, nl_2, nl_3, nl_4, nl_5, nl_6, nl_7, nl_8, nl_9, nl_10, nl_16, nl_17, nl_19, nl_20, nl_21, nl_30, nl_31, nl_32, nl_40, nl_41, nl_48, nl_50, nl_57, nl_60, nl_64, nl_99, nl_100, nl_119, nl_120, nl_121, nl_122, nl_123, nl_124, nl_125, nl_126, nl_130, nl_136, nl_200, nl_240, nl_255, nl_256, nl_257, nl_480, nl_1080, nI_add, nI_mul, nI_sub, cq_ib, nI_clamp, nI_leI, nI_ltI, nI_eq, dn_ck_t, dn_bd_s, dn_wr_e, dn_lt_e, cq_ofNat]
    rw [if_neg (by omega), hc i (by omega)]
    by_cases h : c i ≤ z.2
    · rw [if_pos h, if_pos h]; exact ih (i + 1) f z (by omega) (by omega)
    · rw [if_neg h, if_neg h]; exact ih (i + 1) f (nI i, c i) (by omega) (by omega)
theorem cq_winner {s : dn_S} {c : Nat → Int32} (hc : ∀ j, j < 5 → dn_g s 17 j = c j) : m_X1_winner s = some ((ab_w c).1, s) := by
  unfold m_X1_winner
  have := cq_wn hc 5 0 2048 (-9, 0) (by omega) (by omega)
  exact this
theorem cq_high {s : dn_S} {c : Nat → Int32} (hc : ∀ j, j < 5 → dn_g s 17 j = c j) : m_X11_at 17 5 (ab_w c).1 s = some ((ab_w c).2, s) := by
  rcases ab_w_ok c with ⟨h1, h2⟩ | ⟨i, hi, h1, h2, _⟩
  · rw [h1, h2, cq_at (by omega), cq_ibf (Or.inl (by decide))]
    rfl
  · rw [h1, h2, cq_at_nI hi (by omega), hc i hi]
theorem cq_highest {s : dn_S} {c : Nat → Int32} (hc : ∀ j, j < 5 → dn_g s 17 j = c j) : m_X4_highestBid s = some ((ab_w c).2, s) := by
  unfold m_X4_highestBid m_X1_highest
  rw [cq_winner hc, dn_bd_s, cq_high hc]
  rfl
theorem cq_nx {s : dn_S} {c : Nat → Int32} (w : Int32) (hc : ∀ j, j < 5 → dn_g s 17 j = c j) : ∀ (n i fuel : Nat) (x : Int32), i + n = 5 → n < fuel → m_X1_price_4 fuel w x (nI i) s = m_X1_price_4 1 w (ab_nx c w n i x) (nI 5) s := by
  intro n
  induction n with
  | zero =>
    intro i fuel x hi hf
    obtain ⟨f, rfl⟩ : ∃ f, fuel = f + 1 := ⟨fuel - 1, by omega⟩
    obtain rfl : i = 5 := by omega
    rw [m_X1_price_4, ab_nx]
    rfl
  | succ n ih =>
    intro i fuel x hi hf
    obtain ⟨f, rfl⟩ : ∃ f, fuel = f + 1 := ⟨fuel - 1, by omega⟩
    rw [m_X1_price_4, ab_nx]
    unfold m_X1_price_29 dn_mx
    try simp (disch := omega) only [nl_0, nl_1, nl_2, nl_3, nl_4, nl_5, nl_6, nl_7, nl_8, nl_9, nl_10, nl_16, nl_17, nl_19, nl_20, nl_21, nl_30, nl_31, nl_32, nl_40, nl_41, nl_48, nl_50, nl_57, nl_60, nl_64, nl_99, nl_100, nl_119, nl_120, nl_121, nl_122, nl_123, nl_124, nl_125, nl_126, nl_130, nl_136, nl_200, nl_240, nl_255, nl_256, nl_257, nl_480, nl_1080, nI_add, nI_mul, nI_sub, cq_ib, nI_clamp, nI_leI, nI_ltI, nI_eq, dn_ck_t, dn_bd_s, dn_wr_e, dn_lt_e, cq_ofNat]
    rw [if_neg (by omega), hc i (by omega)]
    by_cases hw : nI i = w
    · rw [if_pos hw, if_pos hw]; exact ih (i + 1) f x (by omega) (by omega)
    · rw [if_neg hw, if_neg hw]
      by_cases h : c i ≤ x
      · rw [if_neg (i32_nlt h), if_pos h]; exact ih (i + 1) f x (by omega) (by omega)
      · rw [if_pos (i32_nle h), if_neg h]; exact ih (i + 1) f (c i) (by omega) (by omega)
theorem ab_pr_mn (x hi : Int32) : dn_mn hi (x + 1) = ab_pr x hi := by
  unfold dn_mn ab_pr
  by_cases h : x + 1 < hi
  · rw [if_pos h, if_pos (by rw [Int32.le_iff_toInt_le]; rw [Int32.lt_iff_toInt_lt] at h; omega)]
  · rw [if_neg h]
    by_cases h2 : x + 1 ≤ hi
    · rw [if_pos h2]
      apply Int32.toInt_inj.mp
      rw [Int32.le_iff_toInt_le] at h2; rw [Int32.lt_iff_toInt_lt] at h
      omega
    · rw [if_neg h2]
theorem cq_price {s : dn_S} {c : Nat → Int32} (hc : ∀ j, j < 5 → dn_g s 17 j = c j) : m_X1_price (ab_w c).1 s = some (ab_price c, s) := by
  unfold m_X1_price
  rw [nl_0, cq_nx (ab_w c).1 hc 5 0 2048 (nI 0) (by omega) (by omega), m_X1_price_4, if_pos (show (5 : Int32) ≤ nI 5 by decide), cq_high hc, dn_bd_s, ab_pr_mn]
  rfl
def PSR (a j : Nat) : Prop := a = 100 ∧ 32 ≤ j ∧ j ≤ 34
theorem rq_wn {c : Nat → Int32} : ∀ (n i fuel : Nat) (z : Int32 × Int32) (t : dn_S), i + n = 5 → n < fuel → (∀ j, j < 5 → dn_g t 115 j = c j) → dn_g t 100 32 = z.1 → dn_g t 100 34 = z.2 →
    ∃ t', m_X12_sells_13 fuel (nI i) t = m_X12_sells_83 2048 (nI 0) (nI 0) t' ∧ dn_g t' 100 32 = (ab_wn c n i z).1 ∧ dn_g t' 100 34 = (ab_wn c n i z).2 ∧ fr PSR t t' := by
  intro n
  induction n with
  | zero =>
    intro i fuel z t hi hf hc h1 h2
    obtain ⟨f, rfl⟩ : ∃ f, fuel = f + 1 := ⟨fuel - 1, by omega⟩
    refine ⟨t, ?_, h1, h2, fr_refl⟩
    rw [m_X12_sells_13]
    try simp (disch := omega) only [nl_0, nl_1, nl_2, nl_3, nl_4, nl_5, nl_6, nl_7, nl_8, nl_9, nl_10, nl_16, nl_17, nl_19, nl_20, nl_21, nl_30, nl_31, nl_32, nl_40, nl_41, nl_48, nl_50, nl_57, nl_60, nl_64, nl_99, nl_100, nl_119, nl_120, nl_121, nl_122, nl_123, nl_124, nl_125, nl_126, nl_130, nl_136, nl_200, nl_240, nl_255, nl_256, nl_257, nl_480, nl_1080, nI_add, nI_mul, nI_sub, cq_ib, nI_clamp, nI_leI, nI_ltI, nI_eq, dn_ck_t, dn_bd_s, dn_wr_e, dn_lt_e, cq_ofNat]
    rw [if_pos (by omega)]
  | succ n ih =>
    intro i fuel z t hi hf hc h1 h2
    obtain ⟨f, rfl⟩ : ∃ f, fuel = f + 1 := ⟨fuel - 1, by omega⟩
    rw [m_X12_sells_13, ab_wn]
    unfold m_X12_sells_40 m_X12_sells_70
    try simp (disch := omega) only [nl_0, nl_1, nl_2, nl_3, nl_4, nl_5, nl_6, nl_7, nl_8, nl_9, nl_10, nl_16, nl_17, nl_19, nl_20, nl_21, nl_30, nl_31, nl_32, nl_40, nl_41, nl_48, nl_50, nl_57, nl_60, nl_64, nl_99, nl_100, nl_119, nl_120, nl_121, nl_122, nl_123, nl_124, nl_125, nl_126, nl_130, nl_136, nl_200, nl_240, nl_255, nl_256, nl_257, nl_480, nl_1080, nI_add, nI_mul, nI_sub, cq_ib, nI_clamp, nI_leI, nI_ltI, nI_eq, dn_ck_t, dn_bd_s, dn_wr_e, dn_lt_e, cq_ofNat]
    rw [if_neg (by omega), hc i (by omega), h1, h2]
    by_cases h : c i ≤ z.2
    · rw [if_pos h, if_pos h, dn_p_k _ _ _ _ _ _ (by decide), hc i (by omega), dn_p_j _ _ _ _ _ _ (by decide), h2, if_pos h]
      have f1 : fr PSR t (dn_p (dn_p t 100 32 z.1) 100 34 z.2) := fr_trans (fr_p ⟨rfl, by omega, by omega⟩) (fr_p ⟨rfl, by omega, by omega⟩)
      obtain ⟨t2, e2, a2, b2, f2⟩ := ih (i + 1) f z _ (by omega) (by omega) (fun j hj => by rw [f1.1 115 j (fun q => by have := q.1; omega)]; exact hc j hj) (by rw [dn_p_j _ _ _ _ _ _ (by decide), dn_p_same]) (dn_p_same _ _ _ _)
      exact ⟨t2, e2, a2, b2, fr_trans f1 f2⟩
    · rw [if_neg h, if_neg h, dn_p_k _ _ _ _ _ _ (by decide), hc i (by omega), dn_p_j _ _ _ _ _ _ (by decide), h2, if_neg h]
      have f1 : fr PSR t (dn_p (dn_p t 100 32 (nI i)) 100 34 (c i)) := fr_trans (fr_p ⟨rfl, by omega, by omega⟩) (fr_p ⟨rfl, by omega, by omega⟩)
      obtain ⟨t2, e2, a2, b2, f2⟩ := ih (i + 1) f (nI i, c i) _ (by omega) (by omega) (fun j hj => by rw [f1.1 115 j (fun q => by have := q.1; omega)]; exact hc j hj) (by rw [dn_p_j _ _ _ _ _ _ (by decide), dn_p_same]) (dn_p_same _ _ _ _)
      exact ⟨t2, e2, a2, b2, fr_trans f1 f2⟩
theorem rq_nx {t : dn_S} {c : Nat → Int32} {w : Int32} (hw0 : dn_g t 100 32 = w) (hc : ∀ j, j < 5 → dn_g t 115 j = c j) : ∀ (n i fuel : Nat) (x : Int32), i + n = 5 → n < fuel → m_X12_sells_83 fuel x (nI i) t = m_X12_sells_83 1 (ab_nx c w n i x) (nI 5) t := by
  intro n
  induction n with
  | zero =>
    intro i fuel x hi hf
    obtain ⟨f, rfl⟩ : ∃ f, fuel = f + 1 := ⟨fuel - 1, by omega⟩
    obtain rfl : i = 5 := by omega
    rw [m_X12_sells_83, ab_nx]
    rfl
  | succ n ih =>
    intro i fuel x hi hf
    obtain ⟨f, rfl⟩ : ∃ f, fuel = f + 1 := ⟨fuel - 1, by omega⟩
    rw [m_X12_sells_83, ab_nx]
    unfold m_X12_sells_115 m_X12_sells_116
    try simp (disch := omega) only [nl_0, nl_1, nl_2, nl_3, nl_4, nl_5, nl_6, nl_7, nl_8, nl_9, nl_10, nl_16, nl_17, nl_19, nl_20, nl_21, nl_30, nl_31, nl_32, nl_40, nl_41, nl_48, nl_50, nl_57, nl_60, nl_64, nl_99, nl_100, nl_119, nl_120, nl_121, nl_122, nl_123, nl_124, nl_125, nl_126, nl_130, nl_136, nl_200, nl_240, nl_255, nl_256, nl_257, nl_480, nl_1080, nI_add, nI_mul, nI_sub, cq_ib, nI_clamp, nI_leI, nI_ltI, nI_eq, dn_ck_t, dn_bd_s, dn_wr_e, dn_lt_e, cq_ofNat]
    rw [if_neg (by omega), hc i (by omega), hw0]
    by_cases hw : nI i = w
    · rw [if_pos hw, if_pos hw]; exact ih (i + 1) f x (by omega) (by omega)
    · rw [if_neg hw, if_neg hw]
      by_cases h : c i ≤ x
      · rw [if_pos h, if_pos h]; exact ih (i + 1) f x (by omega) (by omega)
      · rw [if_neg h, if_neg h]; exact ih (i + 1) f (c i) (by omega) (by omega)
theorem rq_sells {t : dn_S} {c : Nat → Int32} (hc : ∀ j, j < 5 → dn_g t 115 j = c j) :
    ∃ t', m_X12_sells t = some ((), t') ∧ dn_g t' 100 32 = (ab_w c).1 ∧ dn_g t' 100 34 = (ab_w c).2 ∧ dn_g t' 100 33 = ab_price c ∧ fr PSR t t' := by
  have f0 : fr PSR t (dn_p (dn_p t 100 32 (-9)) 100 34 0) := fr_trans (fr_p ⟨rfl, by omega, by omega⟩) (fr_p ⟨rfl, by omega, by omega⟩)
  obtain ⟨t1, e1, a1, b1, f1⟩ := rq_wn (c := c) 5 0 2048 (-9, 0) _ (by omega) (by omega) (fun j hj => by rw [f0.1 115 j (fun q => by have := q.1; omega)]; exact hc j hj) (by rw [dn_p_j _ _ _ _ _ _ (by decide), dn_p_same]) (dn_p_same _ _ _ _)
  have hc1 : ∀ j, j < 5 → dn_g t1 115 j = c j := fun j hj => by rw [(fr_trans f0 f1).1 115 j (fun q => by have := q.1; omega)]; exact hc j hj
  have e2 : m_X12_sells t = m_X12_sells_83 2048 (nI 0) (nI 0) t1 := e1
  rw [e2, rq_nx (w := (ab_w c).1) a1 hc1 5 0 2048 (nI 0) (by omega) (by omega), m_X12_sells_83, if_pos (show (5 : Int32) ≤ nI 5 by decide), b1]
  unfold ab_price ab_pr
  by_cases h : ab_nx c (ab_w c).1 5 0 (nI 0) + 1 ≤ (ab_w c).2
  · refine ⟨dn_p t1 100 33 (ab_nx c (ab_w c).1 5 0 (nI 0) + 1), by rw [if_pos (show _ ≤ (ab_wn c 5 0 (-9, 0)).2 from h)]; rfl, ?_, ?_, ?_, fr_trans (fr_trans f0 f1) (fr_p ⟨rfl, by omega, by omega⟩)⟩
    · rw [dn_p_j _ _ _ _ _ _ (by decide)]; exact a1
    · rw [dn_p_j _ _ _ _ _ _ (by decide)]; exact b1
    · rw [dn_p_same, if_pos (show ab_nx c (ab_w c).1 5 0 0 + 1 ≤ (ab_w c).2 from h)]; rfl
  · refine ⟨dn_p t1 100 33 (ab_w c).2, by rw [if_neg (show ¬ _ ≤ (ab_wn c 5 0 (-9, 0)).2 from h)]; rfl, ?_, ?_, ?_, fr_trans (fr_trans f0 f1) (fr_p ⟨rfl, by omega, by omega⟩)⟩
    · rw [dn_p_j _ _ _ _ _ _ (by decide)]; exact a1
    · rw [dn_p_j _ _ _ _ _ _ (by decide)]; exact b1
    · rw [dn_p_same, if_neg (show ¬ ab_nx c (ab_w c).1 5 0 0 + 1 ≤ (ab_w c).2 from h)]
