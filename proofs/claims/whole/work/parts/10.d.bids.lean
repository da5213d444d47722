/-! the bids of a night -/
def ab_rs (τ : Tv) (m : Mv) (b n : Nat) (z : Int32 × Int32) : Int32 × Int32 :=
  if tv_F τ b (n + 2) ≤ z.1 then z else if tv_F τ b (n + 2) ≤ mv_P m b then (if ab_brd τ m (nI n) = true then z else (tv_F τ b (n + 2), nI n)) else z
def ab_rz (τ : Tv) (m : Mv) (b : Nat) : Nat → Nat → Int32 × Int32 → Int32 × Int32
  | 0, _, z => z
  | c + 1, n, z => ab_rz τ m b c (n + 1) (ab_rs τ m b n z)
def ab_cw (τ : Tv) (m : Mv) (b : Nat) : Int32 × Int32 := if b < tv_b τ then ab_rz τ m b 5 0 (0, 0) else (0, 0)
def ab_cwo (τ : Tv) (m : Mv) (o : Int32 × Int32) (b : Nat) : Int32 × Int32 := if b = 4 then (if 0 < o.2 ∧ ab_brd τ m o.1 = false then (o.2, o.1) else (0, o.1)) else ab_cw τ m b
def Zc (s : dn_S) (b : Nat) (z : Int32 × Int32) : Prop := dn_g s 17 b = z.1 ∧ (0 < z.1 → dn_g s 16 b = z.2)
def Zr (t : dn_S) (b : Nat) (z : Int32 × Int32) : Prop := dn_g t 115 b = z.1 ∧ (0 < z.1 → dn_g t 116 b = z.2)
theorem Zc.fr {P : Nat → Nat → Prop} {s s' : dn_S} {b : Nat} {z : Int32 × Int32} (h : Zc s b z) (hf : fr P s s') (hP : ∀ a j, P a j → j = b → a < 16 ∨ 17 < a) : Zc s' b z :=
  ⟨by rw [hf.1 17 b (fun q => by have := hP _ _ q rfl; omega)]; exact h.1, fun q => by rw [hf.1 16 b (fun q => by have := hP _ _ q rfl; omega)]; exact h.2 q⟩
theorem Zr.fr {P : Nat → Nat → Prop} {s s' : dn_S} {b : Nat} {z : Int32 × Int32} (h : Zr s b z) (hf : fr P s s') (hP : ∀ a j, P a j → j = b → a < 115 ∨ 116 < a) : Zr s' b z :=
  ⟨by rw [hf.1 115 b (fun q => by have := hP _ _ q rfl; omega)]; exact h.1, fun q => by rw [hf.1 116 b (fun q => by have := hP _ _ q rfl; omega)]; exact h.2 q⟩
theorem cq_worth {s : dn_S} {τ : Tv} {b n : Nat} (hT : CT s 3 τ) (hb : b < tv_b τ) (hn : n < 5) (h4 : tv_b τ ≤ 4) : m_X10_worth 3 (nI b) (nI n) s = some (tv_F τ b (n + 2), s) := by
  unfold m_X10_worth
  try simp (disch := omega) only [nl_0, nl_1, nl_2, nl_3, nl_4, nl_5, nl_6, nl_7, nl_8, nl_9, nl_10, nl_16, nl_17, nl_19, nl_20, nl_21, nl_30, nl_31, nl_32, nl_40, nl_41, nl_48, nl_50, nl_57, nl_60, nl_64, nl_99, nl_100, nl_119, nl_120, nl_121, nl_122, nl_123, nl_124, nl_125, nl_126, nl_130, nl_136, nl_200, nl_240, nl_255, nl_256, nl_257, nl_480, nl_1080, nI_add, nI_mul, nI_sub, cq_ib, nI_clamp, nI_leI, nI_ltI, nI_eq, dn_ck_t, dn_bd_s, dn_wr_e, dn_lt_e, cq_ofNat, cq_at_nI]
  rw [show b * 7 + 2 + n = b * 7 + (n + 2) by omega, hT.2.2.2.1 b hb (n + 2) (by omega)]
theorem cq_purse {s : dn_S} {k : Nat} {τ : Tv} {m : Mv} {b : Nat} (hM : CM s k τ m) (hb : b < tv_b τ) (h4 : tv_b τ ≤ 4) : m_X3_purse k (nI b) s = some (mv_P m b, s) := by
  unfold m_X3_purse
  try simp (disch := omega) only [nl_0, nl_1, nl_2, nl_3, nl_4, nl_5, nl_6, nl_7, nl_8, nl_9, nl_10, nl_16, nl_17, nl_19, nl_20, nl_21, nl_30, nl_31, nl_32, nl_40, nl_41, nl_48, nl_50, nl_57, nl_60, nl_64, nl_99, nl_100, nl_119, nl_120, nl_121, nl_122, nl_123, nl_124, nl_125, nl_126, nl_130, nl_136, nl_200, nl_240, nl_255, nl_256, nl_257, nl_480, nl_1080, nI_add, nI_mul, nI_sub, cq_ib, nI_clamp, nI_leI, nI_ltI, nI_eq, dn_ck_t, dn_bd_s, dn_wr_e, dn_lt_e, cq_ofNat, cq_at_nI]
  rw [hM.2.2.2.2.1 b hb]
theorem cq_set {s : dn_S} {b : Nat} {x v : Int32} (hb : b < 5) : m_X1_set (nI b) x v s = some ((), dn_p (dn_p s 16 b x) 17 b v) := by
  unfold m_X1_set
  try simp (disch := omega) only [nl_0, nl_1, nl_2, nl_3, nl_4, nl_5, nl_6, nl_7, nl_8, nl_9, nl_10, nl_16, nl_17, nl_19, nl_20, nl_21, nl_30, nl_31, nl_32, nl_40, nl_41, nl_48, nl_50, nl_57, nl_60, nl_64, nl_99, nl_100, nl_119, nl_120, nl_121, nl_122, nl_123, nl_124, nl_125, nl_126, nl_130, nl_136, nl_200, nl_240, nl_255, nl_256, nl_257, nl_480, nl_1080, nI_add, nI_mul, nI_sub, cq_ib, nI_clamp, nI_leI, nI_ltI, nI_eq, dn_ck_t, dn_bd_s, dn_wr_e, dn_lt_e, cq_ofNat, cq_put_nI]
theorem cq_raise {s : dn_S} {k : Nat} {τ : Tv} {m : Mv} {b n : Nat} {z : Int32 × Int32} (hW : WT τ) (hT : CT s 3 τ) (hM : CM s k τ m) (hd : mv_d m ≤ 100) (hb : b < tv_b τ) (hn : n < 5) (hz : Zc s b z) :
    ∃ s', m_X1_raise 3 k (nI b) (nI n) s = some ((), s') ∧ Zc s' b (ab_rs τ m b n z) ∧ fr (fun a j => (a = 16 ∨ a = 17) ∧ j = b) s s' := by
  have h4 := hW.1
  unfold m_X1_raise ab_rs
  rw [cq_worth hT hb hn h4, dn_bd_s, cq_at_nI (by omega) (by omega), dn_bd_s, hz.1]
  by_cases h1 : tv_F τ b (n + 2) ≤ z.1
  · rw [if_pos h1, if_pos h1]
    exact ⟨s, rfl, hz, fr_refl⟩
  · rw [if_neg h1, if_neg h1, cq_purse hM hb h4, dn_bd_s]
    by_cases h2 : tv_F τ b (n + 2) ≤ mv_P m b
    · rw [if_pos h2, if_pos h2, hT.2.2.1, cq_bar hM hd hW.2.2.1, dn_bd_s]
      by_cases h3 : ab_brd τ m (nI n) = true
      · rw [if_pos h3, if_pos h3]
        exact ⟨s, rfl, hz, fr_refl⟩
      · rw [if_neg h3, if_neg h3, cq_set (by omega), dn_bd_s]
        refine ⟨_, rfl, ⟨dn_p_same _ _ _ _, fun _ => ?_⟩, fr_trans (fr_p ⟨Or.inl rfl, rfl⟩) (fr_p ⟨Or.inr rfl, rfl⟩)⟩
        rw [dn_p_k _ _ _ _ _ _ (by decide), dn_p_same]
    · rw [if_neg h2, if_neg h2]
      exact ⟨s, rfl, hz, fr_refl⟩
theorem cq_row {k : Nat} {τ : Tv} {m : Mv} {b : Nat} {K : Int32 → dn_S → Option (Unit × dn_S)} (hW : WT τ) (hk : k = 10 ∨ 19 ≤ k) (hd : mv_d m ≤ 100) (hb : b < tv_b τ) :
    ∀ (c n fuel : Nat) (s : dn_S) (z : Int32 × Int32), n + c = 5 → c < fuel → CT s 3 τ → CM s k τ m → Zc s b z →
    ∃ s', m_X1_callFor_37 3 k K fuel (nI b) (nI n) s = K (nI (b + 1)) s' ∧ Zc s' b (ab_rz τ m b c n z) ∧ fr (fun a j => (a = 16 ∨ a = 17) ∧ j = b) s s' := by
  intro c
  induction c with
  | zero =>
    intro n fuel s z hn hf hT hM hz
    obtain ⟨f, rfl⟩ : ∃ f, fuel = f + 1 := ⟨fuel - 1, by omega⟩
    refine ⟨s, ?_, hz, fr_refl⟩
    rw [m_X1_callFor_37]
    try simp (disch := omega) only [nl_0, nl_1, nl_2, nl_3, nl_4, nl_5, nl_6, nl_7, nl_8, nl_9, nl_10, nl_16, nl_17, nl_19, nl_20, nl_21, nl_30, nl_31, nl_32, nl_40, nl_41, nl_48, nl_50, nl_57, nl_60, nl_64, nl_99, nl_100, nl_119, nl_120, nl_121, nl_122, nl_123, nl_124, nl_125, nl_126, nl_130, nl_136, nl_200, nl_240, nl_255, nl_256, nl_257, nl_480, nl_1080, nI_add, nI_mul, nI_sub, cq_ib, nI_clamp, nI_leI, nI_ltI, nI_eq, dn_ck_t, dn_bd_s, dn_wr_e, dn_lt_e, cq_ofNat]
    rw [if_pos (by omega)]
  | succ c ih =>
    intro n fuel s z hn hf hT hM hz
    obtain ⟨f, rfl⟩ : ∃ f, fuel = f + 1 := ⟨fuel - 1, by omega⟩
    obtain ⟨s1, e1, z1, f1⟩ := cq_raise (n := n) hW hT hM hd hb (by omega) hz
    obtain ⟨s2, e2, z2, f2⟩ := ih (n + 1) f s1 _ (by omega) (by omega) (hT.fr f1 (fun a j q => by omega)) (hM.fr f1 (fun a j q => by omega)) z1
    refine ⟨s2, ?_, z2, fr_trans f1 f2⟩
    rw [m_X1_callFor_37]
    try simp (disch := omega) only [nl_0, nl_1, nl_2, nl_3, nl_4, nl_5, nl_6, nl_7, nl_8, nl_9, nl_10, nl_16, nl_17, nl_19, nl_20, nl_21, nl_30, nl_31, nl_32, nl_40, nl_41, nl_48, nl_50, nl_57, nl_60, nl_64, nl_99, nl_100, nl_119, nl_120, nl_121, nl_122, nl_123, nl_124, nl_125, nl_126, nl_130, nl_136, nl_200, nl_240, nl_255, nl_256, nl_257, nl_480, nl_1080, nI_add, nI_mul, nI_sub, cq_ib, nI_clamp, nI_leI, nI_ltI, nI_eq, dn_ck_t, dn_bd_s, dn_wr_e, dn_lt_e, cq_ofNat]
    rw [if_neg (by omega), e1]
    try simp (disch := omega) only [nl_0, nl_1, nl_2, nl_3, nl_4, nl_5, nl_6, nl_7, nl_8, nl_9, nl_10, nl_16, nl_17, nl_19, nl_20, nl_21, nl_30, nl_31, nl_32, nl_40, nl_41, nl_48, nl_50, nl_57, nl_60, nl_64, nl_99, nl_100, nl_119, nl_120, nl_121, nl_122, nl_123, nl_124, nl_125, nl_126, nl_130, nl_136, nl_200, nl_240, nl_255, nl_256, nl_257, nl_480, nl_1080, nI_add, nI_mul, nI_sub, cq_ib, nI_clamp, nI_leI, nI_ltI, nI_eq, dn_ck_t, dn_bd_s, dn_wr_e, dn_lt_e, cq_ofNat]
    exact e2
theorem cq_rows {k : Nat} {τ : Tv} {m : Mv} (hW : WT τ) (hk : k = 10 ∨ 19 ≤ k) (hd : mv_d m ≤ 100) :
    ∀ (c b fuel : Nat) (s : dn_S), b + c = tv_b τ → c < fuel → CT s 3 τ → CM s k τ m → (∀ j, b ≤ j → j < 5 → dn_g s 17 j = 0) →
    ∃ s', m_X1_callFor_26 3 k fuel (nI b) s = some ((), s') ∧ (∀ j, b ≤ j → j < 5 → Zc s' j (ab_cw τ m j)) ∧ fr (fun a j => (a = 16 ∨ a = 17) ∧ b ≤ j) s s' := by
  intro c
  induction c with
  | zero =>
    intro b fuel s hn hf hT hM hz
    obtain ⟨f, rfl⟩ : ∃ f, fuel = f + 1 := ⟨fuel - 1, by omega⟩
    refine ⟨s, ?_, fun j h1 h2 => ?_, fr_refl⟩
    · rw [m_X1_callFor_26, hT.1]
      have := hW.1
      try simp (disch := omega) only [nl_0, nl_1, nl_2, nl_3, nl_4, nl_5, nl_6, nl_7, nl_8, nl_9, nl_10, nl_16, nl_17, nl_19, nl_20, nl_21, nl_30, nl_31, nl_32, nl_40, nl_41, nl_48, nl_50, nl_57, nl_60, nl_64, nl_99, nl_100, nl_119, nl_120, nl_121, nl_122, nl_123, nl_124, nl_125, nl_126, nl_130, nl_136, nl_200, nl_240, nl_255, nl_256, nl_257, nl_480, nl_1080, nI_add, nI_mul, nI_sub, cq_ib, nI_clamp, nI_leI, nI_ltI, nI_eq, dn_ck_t, dn_bd_s, dn_wr_e, dn_lt_e, cq_ofNat]
      rw [if_pos (by omega)]
    · unfold ab_cw
      rw [if_neg (by omega)]
      exact ⟨hz j h1 h2, fun q => absurd q (by decide)⟩
  | succ c ih =>
    intro b fuel s hn hf hT hM hz
    have h4 := hW.1
    obtain ⟨f, rfl⟩ : ∃ f, fuel = f + 1 := ⟨fuel - 1, by omega⟩
    obtain ⟨s1, e1, z1, f1⟩ := cq_row (K := m_X1_callFor_26 3 k f) (b := b) hW hk hd (by omega) 5 0 2048 s (0, 0) (by omega) (by omega) hT hM ⟨hz b (Nat.le_refl _) (by omega), fun q => absurd q (by decide)⟩
    obtain ⟨s2, e2, z2, f2⟩ := ih (b + 1) f s1 (by omega) (by omega) (hT.fr f1 (fun a j q => by omega)) (hM.fr f1 (fun a j q => by omega)) (fun j h1 h2 => by rw [f1.1 17 j (fun q => by omega)]; exact hz j (by omega) h2)
    refine ⟨s2, ?_, fun j h1 h2 => ?_, fr_trans (fr_mono f1 (fun a j q => ⟨q.1, by omega⟩)) (fr_mono f2 (fun a j q => ⟨q.1, by omega⟩))⟩
    · rw [m_X1_callFor_26, hT.1]
      try simp (disch := omega) only [nl_0, nl_1, nl_2, nl_3, nl_4, nl_5, nl_6, nl_7, nl_8, nl_9, nl_10, nl_16, nl_17, nl_19, nl_20, nl_21, nl_30, nl_31, nl_32, nl_40, nl_41, nl_48, nl_50, nl_57, nl_60, nl_64, nl_99, nl_100, nl_119, nl_120, nl_121, nl_122, nl_123, nl_124, nl_125, nl_126, nl_130, nl_136, nl_200, nl_240, nl_255, nl_256, nl_257, nl_480, nl_1080, nI_add, nI_mul, nI_sub, cq_ib, nI_clamp, nI_leI, nI_ltI, nI_eq, dn_ck_t, dn_bd_s, dn_wr_e, dn_lt_e, cq_ofNat]
      rw [if_neg (by omega), e1, e2]
    · rcases Nat.eq_or_lt_of_le h1 with rfl | h3
      · have := z1.fr f2 (fun a j q r => by omega)
        unfold ab_cw
        rw [if_pos (by omega)]
        exact this
      · exact z2 j h3 h2
theorem cq_reset {k : Nat} : ∀ (c i fuel : Nat) (s : dn_S), i + c = 5 → c < fuel →
    ∃ s', m_X1_callFor_2 3 k fuel (nI i) s = m_X1_callFor_26 3 k 2048 (nI 0) s' ∧ (∀ j, i ≤ j → j < 5 → dn_g s' 17 j = 0) ∧ fr (fun a j => a = 17 ∧ i ≤ j) s s' := by
  intro c
  induction c with
  | zero =>
    intro i fuel s hn hf
    obtain ⟨f, rfl⟩ : ∃ f, fuel = f + 1 := ⟨fuel - 1, by omega⟩
    refine ⟨s, ?_, fun j h1 h2 => by omega, fr_refl⟩
    rw [m_X1_callFor_2]
    try simp (disch := omega) only [nl_0, nl_1, nl_2, nl_3, nl_4, nl_5, nl_6, nl_7, nl_8, nl_9, nl_10, nl_16, nl_17, nl_19, nl_20, nl_21, nl_30, nl_31, nl_32, nl_40, nl_41, nl_48, nl_50, nl_57, nl_60, nl_64, nl_99, nl_100, nl_119, nl_120, nl_121, nl_122, nl_123, nl_124, nl_125, nl_126, nl_130, nl_136, nl_200, nl_240, nl_255, nl_256, nl_257, nl_480, nl_1080, nI_add, nI_mul, nI_sub, cq_ib, nI_clamp, nI_leI, nI_ltI, nI_eq, dn_ck_t, dn_bd_s, dn_wr_e, dn_lt_e, cq_ofNat]
    rw [if_pos (by omega)]
  | succ c ih =>
    intro i fuel s hn hf
    obtain ⟨f, rfl⟩ : ∃ f, fuel = f + 1 := ⟨fuel - 1, by omega⟩
    obtain ⟨s2, e2, z2, f2⟩ := ih (i + 1) f (dn_p s 17 i 0) (by omega) (by omega)
    refine ⟨s2, ?_, fun j h1 h2 => ?_, fr_trans (fr_p ⟨rfl, Nat.le_refl _⟩) (fr_mono f2 (fun a j q => ⟨q.1, by omega⟩))⟩
    · rw [m_X1_callFor_2]
      try simp (disch := omega) only [nl_0, nl_1, nl_2, nl_3, nl_4, nl_5, nl_6, nl_7, nl_8, nl_9, nl_10, nl_16, nl_17, nl_19, nl_20, nl_21, nl_30, nl_31, nl_32, nl_40, nl_41, nl_48, nl_50, nl_57, nl_60, nl_64, nl_99, nl_100, nl_119, nl_120, nl_121, nl_122, nl_123, nl_124, nl_125, nl_126, nl_130, nl_136, nl_200, nl_240, nl_255, nl_256, nl_257, nl_480, nl_1080, nI_add, nI_mul, nI_sub, cq_ib, nI_clamp, nI_leI, nI_ltI, nI_eq, dn_ck_t, dn_bd_s, dn_wr_e, dn_lt_e, cq_ofNat]
      rw [if_neg (by omega)]
      exact e2
    · rcases Nat.eq_or_lt_of_le h1 with rfl | h3
      · rw [f2.1 17 i (fun q => by omega), dn_p_same]
      · exact z2 j h3 h2
def PB (a _ : Nat) : Prop := a = 16 ∨ a = 17
theorem cq_open {s : dn_S} {k : Nat} {τ : Tv} {m : Mv} (hW : WT τ) (hk : k = 10 ∨ 19 ≤ k) (hT : CT s 3 τ) (hM : CM s k τ m) (hd : mv_d m ≤ 100) :
    ∃ s', m_X4_open k s = some ((), s') ∧ (∀ b, b < 5 → Zc s' b (ab_cw τ m b)) ∧ fr PB s s' := by
  obtain ⟨s1, e1, z1, f1⟩ := cq_reset (k := k) 5 0 2048 s (by omega) (by omega)
  obtain ⟨s2, e2, z2, f2⟩ := cq_rows hW hk hd (tv_b τ) 0 2048 s1 (by omega) (by have := hW.1; omega) (hT.fr f1 (fun a j q => by omega)) (hM.fr f1 (fun a j q => by omega)) z1
  refine ⟨s2, ?_, fun b hb => z2 b (Nat.zero_le _) hb, fr_trans (fr_mono f1 (fun a j q => Or.inr q.1)) (fr_mono f2 (fun a j q => q.1))⟩
  unfold m_X4_open m_X1_callFor
  rw [nl_0, e1, e2]
  rfl
theorem rq_row {h : Nat} {τ : Tv} {m : Mv} {b : Nat} {K : Int32 → Int32 → dn_S → Option (Unit × dn_S)} (hW : WT τ) (h0 : h ≤ 1500) (hd : mv_d m ≤ 104) (hb : b < tv_b τ) :
    ∀ (c n fuel : Nat) (t : dn_S) (z : Int32 × Int32), n + c = 5 → c < fuel → RT t τ → RM t h τ m → Zr t b z →
    ∃ t', m_X12_bidsOf_16 K fuel (nI h) (nI b) (nI n) t = K (nI h) (nI (b + 1)) t' ∧ Zr t' b (ab_rz τ m b c n z) ∧ fr (fun a j => (a = 115 ∨ a = 116) ∧ j = b) t t' := by
  intro c
  have h4 := hW.1
  induction c with
  | zero =>
    intro n fuel s z hn hf hT hM hz
    obtain ⟨f, rfl⟩ : ∃ f, fuel = f + 1 := ⟨fuel - 1, by omega⟩
    refine ⟨s, ?_, hz, fr_refl⟩
    rw [m_X12_bidsOf_16]
    unfold m_X12_bidsOf_98
    try simp (disch := omega) only [nl_0, nl_1, nl_2, nl_3, nl_4, nl_5, nl_6, nl_7, nl_8, nl_9, nl_10, nl_16, nl_17, nl_19, nl_20, nl_21, nl_30, nl_31, nl_32, nl_40, nl_41, nl_48, nl_50, nl_57, nl_60, nl_64, nl_99, nl_100, nl_119, nl_120, nl_121, nl_122, nl_123, nl_124, nl_125, nl_126, nl_130, nl_136, nl_200, nl_240, nl_255, nl_256, nl_257, nl_480, nl_1080, nI_add, nI_mul, nI_sub, cq_ib, nI_clamp, nI_leI, nI_ltI, nI_eq, dn_ck_t, dn_bd_s, dn_wr_e, dn_lt_e, cq_ofNat]
    rw [if_pos (by omega)]
  | succ c ih =>
    intro n fuel s z hn hf hT hM hz
    obtain ⟨f, rfl⟩ : ∃ f, fuel = f + 1 := ⟨fuel - 1, by omega⟩
    rw [m_X12_bidsOf_16, hT.1]
    unfold m_X12_bidsOf_92
    try simp (disch := omega) only [nl_0, nl_1, nl_2, nl_3, nl_4, nl_5, nl_6, nl_7, nl_8, nl_9, nl_10, nl_16, nl_17, nl_19, nl_20, nl_21, nl_30, nl_31, nl_32, nl_40, nl_41, nl_48, nl_50, nl_57, nl_60, nl_64, nl_99, nl_100, nl_119, nl_120, nl_121, nl_122, nl_123, nl_124, nl_125, nl_126, nl_130, nl_136, nl_200, nl_240, nl_255, nl_256, nl_257, nl_480, nl_1080, nI_add, nI_mul, nI_sub, cq_ib, nI_clamp, nI_leI, nI_ltI, nI_eq, dn_ck_t, dn_bd_s, dn_wr_e, dn_lt_e, cq_ofNat]
    rw [if_neg (by omega), if_neg (by omega), (hT.2.2.2.1 b hb).2.2 n (by omega), hz.1, hM.2.2.2.2.2.1 b hb, rq_bar hM hT h0 hd hW.2.2.1]
    try simp (disch := omega) only [nl_0, nl_1, nl_2, nl_3, nl_4, nl_5, nl_6, nl_7, nl_8, nl_9, nl_10, nl_16, nl_17, nl_19, nl_20, nl_21, nl_30, nl_31, nl_32, nl_40, nl_41, nl_48, nl_50, nl_57, nl_60, nl_64, nl_99, nl_100, nl_119, nl_120, nl_121, nl_122, nl_123, nl_124, nl_125, nl_126, nl_130, nl_136, nl_200, nl_240, nl_255, nl_256, nl_257, nl_480, nl_1080, nI_add, nI_mul, nI_sub, cq_ib, nI_clamp, nI_leI, nI_ltI, nI_eq, dn_ck_t, dn_bd_s, dn_wr_e, dn_lt_e, cq_ofNat]
    rw [ab_rz, ab_rs]
    by_cases h1 : tv_F τ b (n + 2) ≤ z.1
    · rw [if_pos h1, if_pos h1]
      exact ih (n + 1) f s z (by omega) (by omega) hT hM hz
    · rw [if_neg h1, if_neg h1]
      by_cases h2 : tv_F τ b (n + 2) ≤ mv_P m b
      · rw [if_pos h2, if_neg (fun q => by rw [Int32.lt_iff_toInt_lt] at q; rw [Int32.le_iff_toInt_le] at h2; omega)]
        by_cases h3 : ab_brd τ m (nI n) = true
        · rw [if_pos h3, if_pos h3]
          exact ih (n + 1) f s z (by omega) (by omega) hT hM hz
        · rw [if_neg h3, if_neg h3]
          have f1 : fr (fun a j => (a = 115 ∨ a = 116) ∧ j = b) s (dn_p (dn_p s 115 b (tv_F τ b (n + 2))) 116 b (nI n)) := fr_trans (fr_p ⟨Or.inl rfl, rfl⟩) (fr_p ⟨Or.inr rfl, rfl⟩)
          obtain ⟨t2, e2, z2, f2⟩ := ih (n + 1) f _ (tv_F τ b (n + 2), nI n) (by omega) (by omega) (hT.fr f1 (fun a j q => by omega)) (hM.fr f1 hd h4 (fun a j q => by omega)) ⟨by rw [dn_p_k _ _ _ _ _ _ (by decide), dn_p_same], fun _ => dn_p_same _ _ _ _⟩
          exact ⟨t2, e2, z2, fr_trans f1 f2⟩
      · rw [if_neg h2, if_pos (by rw [Int32.lt_iff_toInt_lt]; rw [Int32.le_iff_toInt_le] at h2; omega)]
        exact ih (n + 1) f s z (by omega) (by omega) hT hM hz
theorem rq_rows {h : Nat} {τ : Tv} {m : Mv} {o : Int32 × Int32} (hW : WT τ) (h0 : h ≤ 1500) (hd : mv_d m ≤ 104) :
    ∀ (c b fuel : Nat) (t : dn_S), b + c = 4 → c < fuel → RT t τ → RM t h τ m → RO t h o →
    ∃ t', m_X12_bidsOf_2 fuel (nI h) (nI b) t = some ((), t') ∧ (∀ j, b ≤ j → j < 5 → Zr t' j (ab_cwo τ m o j)) ∧ fr (fun a j => (a = 115 ∨ a = 116) ∧ b ≤ j) t t' := by
  have h4 := hW.1
  intro c
  induction c with
  | zero =>
    intro b fuel t hn hf hT hM hO
    obtain rfl : b = 4 := by omega
    obtain ⟨f, rfl⟩ : ∃ f, fuel = f + 1 := ⟨fuel - 1, by omega⟩
    rw [m_X12_bidsOf_2]
    unfold m_X12_bidsOf_147 m_X12_bidsOf_148
    try simp (disch := omega) only [nl_0, nl_1, nl_2, nl_3, nl_4, nl_5, nl_6, nl_7, nl_8, nl_9, nl_10, nl_16, nl_17, nl_19, nl_20, nl_21, nl_30, nl_31, nl_32, nl_40, nl_41, nl_48, nl_50, nl_57, nl_60, nl_64, nl_99, nl_100, nl_119, nl_120, nl_121, nl_122, nl_123, nl_124, nl_125, nl_126, nl_130, nl_136, nl_200, nl_240, nl_255, nl_256, nl_257, nl_480, nl_1080, nI_add, nI_mul, nI_sub, cq_ib, nI_clamp, nI_leI, nI_ltI, nI_eq, dn_ck_t, dn_bd_s, dn_wr_e, dn_lt_e, cq_ofNat]
    rw [if_pos (by omega), hO.1]
    have key : ∀ v : Int32, (∀ j, 4 ≤ j → j < 5 → (if 0 < o.2 ∧ ab_brd τ m o.1 = false then (o.2, o.1) else ((0 : Int32), o.1)).1 = v) → ∃ t', (some ((), dn_p (dn_p t 115 4 v) 116 4 (dn_g (dn_p t 115 4 v) 101 (h + 5))) : Option (Unit × dn_S)) = some ((), t') ∧ (∀ j, 4 ≤ j → j < 5 → Zr t' j (ab_cwo τ m o j)) ∧ fr (fun a j => (a = 115 ∨ a = 116) ∧ 4 ≤ j) t t' := by
      intro v hv
      refine ⟨_, rfl, fun j h1 h2 => ?_, fr_trans (fr_p ⟨Or.inl rfl, Nat.le_refl _⟩) (fr_p ⟨Or.inr rfl, Nat.le_refl _⟩)⟩
      obtain rfl : j = 4 := by omega
      unfold ab_cwo
      rw [if_pos rfl]
      refine ⟨by rw [dn_p_k _ _ _ _ _ _ (by decide), dn_p_same, hv 4 (by omega) (by omega)], fun q => ?_⟩
      rw [dn_p_same, dn_p_k _ _ _ _ _ _ (by decide)]
      by_cases hp : 0 < o.2
      · rw [hO.2 hp]
        split <;> rfl
      · rw [if_neg (fun z => hp z.1)] at q
        exact absurd q (show ¬ ((0 : Int32) < 0) by decide)
    by_cases h1 : o.2 ≤ nI 0
    · rw [if_pos h1]
      exact key (nI 0) (fun j _ _ => by rw [if_neg (fun z => by have := z.1; rw [Int32.lt_iff_toInt_lt] at this; rw [Int32.le_iff_toInt_le] at h1; exact absurd h1 (by show ¬ o.2.toInt ≤ (0 : Int32).toInt; omega))]; rfl)
    · have hp : 0 < o.2 := by rw [Int32.lt_iff_toInt_lt]; rw [Int32.le_iff_toInt_le] at h1; show (nI 0).toInt < _; omega
      rw [if_neg h1, hO.2 hp, rq_bar hM hT h0 hd hW.2.2.1]
      try simp (disch := omega) only [nl_0, nl_1, nl_2, nl_3, nl_4, nl_5, nl_6, nl_7, nl_8, nl_9, nl_10, nl_16, nl_17, nl_19, nl_20, nl_21, nl_30, nl_31, nl_32, nl_40, nl_41, nl_48, nl_50, nl_57, nl_60, nl_64, nl_99, nl_100, nl_119, nl_120, nl_121, nl_122, nl_123, nl_124, nl_125, nl_126, nl_130, nl_136, nl_200, nl_240, nl_255, nl_256, nl_257, nl_480, nl_1080, nI_add, nI_mul, nI_sub, cq_ib, nI_clamp, nI_leI, nI_ltI, nI_eq, dn_ck_t, dn_bd_s, dn_wr_e, dn_lt_e, cq_ofNat]
      by_cases h3 : ab_brd τ m o.1 = true
      · rw [if_pos h3]
        exact key (nI 0) (fun j _ _ => by rw [if_neg (fun z => by rw [h3] at z; exact absurd z.2 (by decide))]; rfl)
      · rw [if_neg h3, hO.1]
        exact key o.2 (fun j _ _ => by rw [if_pos ⟨hp, by simpa using h3⟩])
  | succ c ih =>
    intro b fuel t hn hf hT hM hO
    obtain ⟨f, rfl⟩ : ∃ f, fuel = f + 1 := ⟨fuel - 1, by omega⟩
    rw [m_X12_bidsOf_2]
    try simp (disch := omega) only [nl_0, nl_1, nl_2, nl_3, nl_4, nl_5, nl_6, nl_7, nl_8, nl_9, nl_10, nl_16, nl_17, nl_19, nl_20, nl_21, nl_30, nl_31, nl_32, nl_40, nl_41, nl_48, nl_50, nl_57, nl_60, nl_64, nl_99, nl_100, nl_119, nl_120, nl_121, nl_122, nl_123, nl_124, nl_125, nl_126, nl_130, nl_136, nl_200, nl_240, nl_255, nl_256, nl_257, nl_480, nl_1080, nI_add, nI_mul, nI_sub, cq_ib, nI_clamp, nI_leI, nI_ltI, nI_eq, dn_ck_t, dn_bd_s, dn_wr_e, dn_lt_e, cq_ofNat]
    rw [if_neg (by omega)]
    have f0 : fr (fun a j => (a = 115 ∨ a = 116) ∧ j = b) t (dn_p t 115 b (nI 0)) := fr_p ⟨Or.inl rfl, rfl⟩
    have z0 : Zr (dn_p t 115 b (nI 0)) b (0, 0) := ⟨dn_p_same _ _ _ _, fun q => absurd q (by decide)⟩
    have hT0 := hT.fr f0 (fun a j q => by omega)
    have hM0 := hM.fr f0 hd h4 (fun a j q => by omega)
    have hO0 := hO.fr f0 (fun a j q => by omega)
    have step : ∃ t1, m_X12_bidsOf_16 (m_X12_bidsOf_2 f) 2048 (nI h) (nI b) (nI 0) (dn_p t 115 b (nI 0)) = m_X12_bidsOf_2 f (nI h) (nI (b + 1)) t1 ∧ Zr t1 b (ab_cw τ m b) ∧ fr (fun a j => (a = 115 ∨ a = 116) ∧ j = b) (dn_p t 115 b (nI 0)) t1 := by
      by_cases hb : b < tv_b τ
      · obtain ⟨t1, e1, z1, f1⟩ := rq_row (K := m_X12_bidsOf_2 f) (b := b) hW h0 hd hb 5 0 2048 _ (0, 0) (by omega) (by omega) hT0 hM0 z0
        refine ⟨t1, e1, ?_, f1⟩
        unfold ab_cw
        rw [if_pos hb]
        exact z1
      · refine ⟨_, ?_, ?_, fr_refl⟩
        · rw [m_X12_bidsOf_16, hT0.1]
          unfold m_X12_bidsOf_98
          try simp (disch := omega) only [nl_0, nl_1, nl_2, nl_3, nl_4, nl_5, nl_6, nl_7, nl_8, nl_9, nl_10, nl_16, nl_17, nl_19, nl_20, nl_21, nl_30, nl_31, nl_32, nl_40, nl_41, nl_48, nl_50, nl_57, nl_60, nl_64, nl_99, nl_100, nl_119, nl_120, nl_121, nl_122, nl_123, nl_124, nl_125, nl_126, nl_130, nl_136, nl_200, nl_240, nl_255, nl_256, nl_257, nl_480, nl_1080, nI_add, nI_mul, nI_sub, cq_ib, nI_clamp, nI_leI, nI_ltI, nI_eq, dn_ck_t, dn_bd_s, dn_wr_e, dn_lt_e, cq_ofNat]
          rw [if_neg (by omega), if_pos (by omega)]
        · unfold ab_cw
          rw [if_neg hb]
          exact z0
    obtain ⟨t1, e1, z1, f1⟩ := step
    obtain ⟨t2, e2, z2, f2⟩ := ih (b + 1) f t1 (by omega) (by omega) (hT0.fr f1 (fun a j q => by omega)) (hM0.fr f1 hd h4 (fun a j q => by omega)) (hO0.fr f1 (fun a j q => by omega))
    refine ⟨t2, by rw [e1, e2], fun j h1 h2 => ?_, fr_trans (fr_mono f0 (fun a j q => ⟨q.1, by omega⟩)) (fr_trans (fr_mono f1 (fun a j q => ⟨q.1, by omega⟩)) (fr_mono f2 (fun a j q => ⟨q.1, by omega⟩)))⟩
    rcases Nat.eq_or_lt_of_le h1 with rfl | h3
    · have := z1.fr f2 (fun a j q r => by omega)
      unfold ab_cwo
      rw [if_neg (by omega)]
      exact this
    · exact z2 j h3 h2
def PBr (a _ : Nat) : Prop := a = 115 ∨ a = 116
theorem rq_open {t : dn_S} {h : Nat} {τ : Tv} {m : Mv} {o : Int32 × Int32} (hW : WT τ) (h0 : h ≤ 1500) (hT : RT t τ) (hM : RM t h τ m) (hO : RO t h o) (hd : mv_d m ≤ 104) :
    ∃ t', m_X12_bidsOf (nI h) t = some ((), t') ∧ (∀ b, b < 5 → Zr t' b (ab_cwo τ m o b)) ∧ fr PBr t t' := by
  obtain ⟨t1, e1, z1, f1⟩ := rq_rows hW h0 hd 4 0 2048 t (by omega) (by omega) hT hM hO
  exact ⟨t1, by unfold m_X12_bidsOf; rw [nl_0, e1], fun b hb => z1 b (Nat.zero_le _) hb, fr_mono f1 (fun a j q => q.1)⟩
theorem cq_bidOwn {s : dn_S} {k : Nat} {τ : Tv} {m : Mv} {cw : Nat → Int32 × Int32} {x : Nat} {v : Int32} (hW : WT τ) (hT : CT s 3 τ) (hM : CM s k τ m) (hd : mv_d m ≤ 100) (hx : x < 5) (hz : ∀ b, b < 5 → Zc s b (cw b)) :
    ∃ s', m_X4_bidOwn k (nI x) v s = some ((), s') ∧ (∀ b, b < 5 → Zc s' b (if b = 4 then (if ab_brd τ m (nI x) = true then cw 4 else (v, nI x)) else cw b)) ∧ fr PB s s' := by
  unfold m_X4_bidOwn m_X11_isName
  rw [cq_within, show ab_in (nI x).toInt (0 : Int32).toInt (4 : Int32).toInt = true from decide_eq_true (by rw [nI_toInt (by omega)]; show (0 : Int) ≤ _ ∧ _ ≤ (4 : Int); omega), dn_bd_s, dn_bd_s, if_pos rfl, hT.2.2.1, cq_bar hM hd hW.2.2.1, dn_bd_s]
  by_cases h3 : ab_brd τ m (nI x) = true
  · rw [if_pos h3, if_pos h3]
    refine ⟨s, rfl, fun b hb => ?_, fr_refl⟩
    by_cases h : b = 4
    · subst h; rw [if_pos rfl]; exact hz 4 (by omega)
    · rw [if_neg h]; exact hz b hb
  · rw [if_neg h3, if_neg h3, nl_4, cq_set (by omega), dn_bd_s]
    have f1 : fr (fun a j => (a = 16 ∨ a = 17) ∧ j = 4) s (dn_p (dn_p s 16 4 (nI x)) 17 4 v) := fr_trans (fr_p ⟨Or.inl rfl, rfl⟩) (fr_p ⟨Or.inr rfl, rfl⟩)
    refine ⟨_, rfl, fun b hb => ?_, fr_mono f1 (fun a j q => q.1)⟩
    by_cases h : b = 4
    · subst h
      rw [if_pos rfl]
      exact ⟨dn_p_same _ _ _ _, fun _ => by rw [dn_p_k _ _ _ _ _ _ (by decide), dn_p_same]⟩
    · rw [if_neg h]
      exact (hz b hb).fr f1 (fun a j q r => by omega)
