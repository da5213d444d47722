/-! rows and moments copied -/
theorem cq_copyRow {k1 k2 n : Nat} (hk : k1 ≠ k2) (hn : n ≤ 200) : ∀ (c i fuel : Nat) (s : dn_S), i + c = n → c < fuel →
    ∃ s', m_X11_copyRow_2 k1 n k2 n fuel (nI i) s = some ((), s') ∧ (∀ j, i ≤ j → j < n → dn_g s' k2 j = dn_g s k1 j) ∧ fr (fun a j => a = k2 ∧ i ≤ j) s s' := by
  intro c
  induction c with
  | zero =>
    intro i fuel s hi hf
    obtain ⟨f, rfl⟩ : ∃ f, fuel = f + 1 := ⟨fuel - 1, by omega⟩
    refine ⟨s, ?_, fun j h1 h2 => by omega, fr_refl⟩
    rw [m_X11_copyRow_2]
    try simp (disch := omega) only [nl_0, nl_1, nl_2, nl_3, nl_4, nl_5, nl_6, nl_7, nl_8, nl_9, nl_10, nl_16, nl_17, nl_19, nl_20, nl_21, nl_30, nl_31, nl_32, nl_40, nl_41, nl_48, nl_50, nl_57, nl_60, nl_64, nl_99, nl_100, nl_119, nl_120, nl_121, nl_122, nl_123, nl_124, nl_125, nl_126, nl_130, nl_136, nl_200, nl_240, nl_255, nl_256, nl_257, nl_480, nl_1080, nI_add, nI_mul, nI_sub, cq_ib, nI_clamp, nI_leI, nI_ltI, nI_eq, dn_ck_t, dn_bd_s, dn_wr_e, dn_lt_e, cq_ofNat]
    rw [if_pos (by omega)]
  | succ c ih =>
    intro i fuel s hi hf
    obtain ⟨f, rfl⟩ : ∃ f, fuel = f + 1 := ⟨fuel - 1, by omega⟩
    obtain ⟨s2, e2, z2, f2⟩ := ih (i + 1) f (dn_p s k2 i (dn_g s k1 i)) (by omega) (by omega)
    refine ⟨s2, ?_, fun j h1 h2 => ?_, fr_trans (fr_p ⟨rfl, Nat.le_refl _⟩) (fr_mono f2 (fun a j q => ⟨q.1, by omega⟩))⟩
    · rw [m_X11_copyRow_2]
      try simp (disch := omega) only [nl_0, nl_1, nl_2, nl_3, nl_4, nl_5, nl_6, nl_7, nl_8, nl_9, nl_10, nl_16, nl_17, nl_19, nl_20, nl_21, nl_30, nl_31, nl_32, nl_40, nl_41, nl_48, nl_50, nl_57, nl_60, nl_64, nl_99, nl_100, nl_119, nl_120, nl_121, nl_122, nl_123, nl_124, nl_125, nl_126, nl_130, nl_136, nl_200, nl_240, nl_255, nl_256, nl_257, nl_480, nl_1080, nI_add, nI_mul, nI_sub, cq_ib, nI_clamp, nI_leI, nI_ltI, nI_eq, dn_ck_t, dn_bd_s, dn_wr_e, dn_lt_e, cq_ofNat]
      rw [if_neg (by omega), if_neg (by omega)]
      exact e2
    · rcases Nat.eq_or_lt_of_le h1 with rfl | h3
      · rw [f2.1 k2 i (fun q => by omega), dn_p_same]
      · rw [z2 j h3 h2, dn_p_k _ _ _ _ _ _ hk]
theorem cq_copyR {k1 k2 n : Nat} (s : dn_S) (hk : k1 ≠ k2) (hn : n ≤ 200) : ∃ s', m_X11_copyRow k1 n k2 n s = some ((), s') ∧ (∀ j, j < n → dn_g s' k2 j = dn_g s k1 j) ∧ fr (fun a _ => a = k2) s s' := by
  obtain ⟨s', e, z, f⟩ := cq_copyRow hk hn n 0 2048 s (by omega) (by omega)
  exact ⟨s', by unfold m_X11_copyRow; rw [nl_0, e], fun j hj => z j (Nat.zero_le _) hj, fr_mono f (fun a j q => q.1)⟩
/-- all of a moment: as it is -/
def EM (s s' : dn_S) (k k' : Nat) : Prop := (∀ j, j < 100 → dn_g s' (k' + 1) j = dn_g s (k + 1) j) ∧ (∀ j, j < 4 → dn_g s' (k' + 2) j = dn_g s (k + 2) j) ∧ (∀ j, j < 6 → dn_g s' (k' + 3) j = dn_g s (k + 3) j) ∧ (∀ j, 3 ≤ j → j ≤ 7 → dn_g s' k' j = dn_g s k j)
theorem EM.cm {s s' : dn_S} {k k' : Nat} {τ : Tv} {m : Mv} (h : EM s s' k k') (h4 : tv_b τ ≤ 4) (hM : CM s k τ m) (hd : mv_d m ≤ 100) : CM s' k' τ m :=
  ⟨by rw [h.2.2.2 3 (by omega) (by omega)]; exact hM.1, by rw [h.2.2.2 4 (by omega) (by omega)]; exact hM.2.1, by rw [h.2.2.2 5 (by omega) (by omega)]; exact hM.2.2.1,
    fun i hi => by rw [h.1 i (by omega)]; exact hM.2.2.2.1 i hi, fun b hb => by rw [h.2.1 b (by omega)]; exact hM.2.2.2.2.1 b hb, fun j hj => by rw [h.2.2.1 j hj]; exact hM.2.2.2.2.2 j hj⟩
theorem EM.co {s s' : dn_S} {k k' : Nat} {o : Int32 × Int32} (h : EM s s' k k') (hO : CO s k o) : CO s' k' o := ⟨by rw [h.2.2.2 6 (by omega) (by omega)]; exact hO.1, by rw [h.2.2.2 7 (by omega) (by omega)]; exact hO.2⟩
theorem cq_copyM {k k1 : Nat} (s : dn_S) (hk : k + 3 < k1 ∨ k1 + 3 < k) : ∃ s', m_X3_copyFrom k k1 s = some ((), s') ∧ EM s s' k1 k ∧ fr (PM k) s s' := by
  obtain ⟨s1, e1, z1, f1⟩ := cq_copyR (k1 := k1 + 1) (k2 := k + 1) (n := 100) s (by omega) (by omega)
  obtain ⟨s2, e2, z2, f2⟩ := cq_copyR (k1 := k1 + 2) (k2 := k + 2) (n := 4) s1 (by omega) (by omega)
  obtain ⟨s3, e3, z3, f3⟩ := cq_copyR (k1 := k1 + 3) (k2 := k + 3) (n := 6) s2 (by omega) (by omega)
  have g1 : ∀ a j, a ≠ k + 1 → a ≠ k + 2 → a ≠ k + 3 → dn_g s3 a j = dn_g s a j := fun a j h1 h2 h3 => by rw [f3.1 a j h3, f2.1 a j h2, f1.1 a j h1]
  unfold m_X3_copyFrom
  rw [e1, dn_bd_s, e2, dn_bd_s, e3, dn_bd_s]
  simp only [dn_wr_e]
  refine ⟨_, rfl, ⟨fun j hj => ?_, fun j hj => ?_, fun j hj => ?_, fun j h1 h2 => ?_⟩, fr_trans (fr_mono f1 (fun a j q => ⟨by omega, by omega⟩)) (fr_trans (fr_mono f2 (fun a j q => ⟨by omega, by omega⟩)) (fr_trans (fr_mono f3 (fun a j q => ⟨by omega, by omega⟩)) ?_))⟩
  · rw [dn_p_k _ _ _ _ _ _ (by omega), dn_p_k _ _ _ _ _ _ (by omega), dn_p_k _ _ _ _ _ _ (by omega), dn_p_k _ _ _ _ _ _ (by omega), dn_p_k _ _ _ _ _ _ (by omega), f3.1 _ _ (by omega), f2.1 _ _ (by omega), z1 j hj]
  · rw [dn_p_k _ _ _ _ _ _ (by omega), dn_p_k _ _ _ _ _ _ (by omega), dn_p_k _ _ _ _ _ _ (by omega), dn_p_k _ _ _ _ _ _ (by omega), dn_p_k _ _ _ _ _ _ (by omega), f3.1 _ _ (by omega), z2 j hj, f1.1 _ _ (by omega)]
  · rw [dn_p_k _ _ _ _ _ _ (by omega), dn_p_k _ _ _ _ _ _ (by omega), dn_p_k _ _ _ _ _ _ (by omega), dn_p_k _ _ _ _ _ _ (by omega), dn_p_k _ _ _ _ _ _ (by omega), z3 j hj, f2.1 _ _ (by omega), f1.1 _ _ (by omega)]
  · have hj : j = 3 ∨ j = 4 ∨ j = 5 ∨ j = 6 ∨ j = 7 := by omega
    have hne : k1 ≠ k := by omega
    rcases hj with rfl | rfl | rfl | rfl | rfl
    · rw [dn_p_j _ _ _ _ _ _ (by decide), dn_p_j _ _ _ _ _ _ (by decide), dn_p_j _ _ _ _ _ _ (by decide), dn_p_j _ _ _ _ _ _ (by decide), dn_p_same, g1 _ _ (by omega) (by omega) (by omega)]
    · rw [dn_p_j _ _ _ _ _ _ (by decide), dn_p_j _ _ _ _ _ _ (by decide), dn_p_j _ _ _ _ _ _ (by decide), dn_p_same, dn_p_k _ _ _ _ _ _ hne, g1 _ _ (by omega) (by omega) (by omega)]
    · rw [dn_p_j _ _ _ _ _ _ (by decide), dn_p_j _ _ _ _ _ _ (by decide), dn_p_same, dn_p_k _ _ _ _ _ _ hne, dn_p_k _ _ _ _ _ _ hne, g1 _ _ (by omega) (by omega) (by omega)]
    · rw [dn_p_j _ _ _ _ _ _ (by decide), dn_p_same, dn_p_k _ _ _ _ _ _ hne, dn_p_k _ _ _ _ _ _ hne, dn_p_k _ _ _ _ _ _ hne, g1 _ _ (by omega) (by omega) (by omega)]
    · rw [dn_p_same, dn_p_k _ _ _ _ _ _ hne, dn_p_k _ _ _ _ _ _ hne, dn_p_k _ _ _ _ _ _ hne, dn_p_k _ _ _ _ _ _ hne, g1 _ _ (by omega) (by omega) (by omega)]
  · have z : ∀ (q : dn_S) (j : Nat) (v : Int32), fr (PM k) q (dn_p q k j v) := fun q j v => fr_p ⟨by omega, by omega⟩
    exact fr_trans (z _ _ _) (fr_trans (z _ _ _) (fr_trans (z _ _ _) (fr_trans (z _ _ _) (z _ _ _))))
theorem rq_copyL {a b : Nat} (hab : a + 120 ≤ b ∨ b + 120 ≤ a) (ha : a ≤ 1560) (hb : b ≤ 1560) : ∀ (c i fuel : Nat) (t : dn_S), i + c = 120 → c < fuel →
    ∃ t', m_X12_copy_2 fuel (nI a) (nI b) (nI i) t = some ((), t') ∧ (∀ j, i ≤ j → j < 120 → dn_g t' 101 (b + j) = dn_g t 101 (a + j)) ∧ fr (fun x j => x = 101 ∧ b + i ≤ j ∧ j < b + 120) t t' := by
  intro c
  induction c with
  | zero =>
    intro i fuel t hi hf
    obtain ⟨f, rfl⟩ : ∃ f, fuel = f + 1 := ⟨fuel - 1, by omega⟩
    refine ⟨t, ?_, fun j h1 h2 => by omega, fr_refl⟩
    rw [m_X12_copy_2]
    try simp (disch := omega) only [nl_0, nl_1, nl_2, nl_3, nl_4, nl_5, nl_6, nl_7, nl_8, nl_9, nl_10, nl_16, nl_17, nl_19, nl_20, nl_21, nl_30, nl_31, nl_32, nl_40, nl_41, nl_48, nl_50, nl_57, nl_60, nl_64, nl_99, nl_100, nl_119, nl_120, nl_121, nl_122, nl_123, nl_124, nl_125, nl_126, nl_130, nl_136, nl_200, nl_240, nl_255, nl_256, nl_257, nl_480, nl_1080, nI_add, nI_mul, nI_sub, cq_ib, nI_clamp, nI_leI, nI_ltI, nI_eq, dn_ck_t, dn_bd_s, dn_wr_e, dn_lt_e, cq_ofNat]
    rw [if_pos (by omega)]
  | succ c ih =>
    intro i fuel t hi hf
    obtain ⟨f, rfl⟩ : ∃ f, fuel = f + 1 := ⟨fuel - 1, by omega⟩
    obtain ⟨t2, e2, z2, f2⟩ := ih (i + 1) f (dn_p t 101 (b + i) (dn_g t 101 (a + i))) (by omega) (by omega)
    refine ⟨t2, ?_, fun j h1 h2 => ?_, fr_trans (fr_p ⟨rfl, by omega, by omega⟩) (fr_mono f2 (fun x j q => ⟨q.1, by omega, by omega⟩))⟩
    · rw [m_X12_copy_2]
      try simp (disch := omega) only [nl_0, nl_1, nl_2, nl_3, nl_4, nl_5, nl_6, nl_7, nl_8, nl_9, nl_10, nl_16, nl_17, nl_19, nl_20, nl_21, nl_30, nl_31, nl_32, nl_40, nl_41, nl_48, nl_50, nl_57, nl_60, nl_64, nl_99, nl_100, nl_119, nl_120, nl_121, nl_122, nl_123, nl_124, nl_125, nl_126, nl_130, nl_136, nl_200, nl_240, nl_255, nl_256, nl_257, nl_480, nl_1080, nI_add, nI_mul, nI_sub, cq_ib, nI_clamp, nI_leI, nI_ltI, nI_eq, dn_ck_t, dn_bd_s, dn_wr_e, dn_lt_e, cq_ofNat]
      rw [if_neg (by omega)]
      exact e2
    · rcases Nat.eq_or_lt_of_le h1 with rfl | h3
      · rw [f2.1 101 (b + i) (fun q => by omega), dn_p_same]
      · rw [z2 j h3 h2, dn_p_j _ _ _ _ _ _ (by omega)]
theorem rq_copy {a b : Nat} (t : dn_S) (hab : a + 120 ≤ b ∨ b + 120 ≤ a) (ha : a ≤ 1560) (hb : b ≤ 1560) : ∃ t', m_X12_copy (nI a) (nI b) t = some ((), t') ∧ (∀ j, j < 120 → dn_g t' 101 (b + j) = dn_g t 101 (a + j)) ∧ fr (fun x j => x = 101 ∧ b ≤ j ∧ j < b + 120) t t' := by
  obtain ⟨t', e, z, f⟩ := rq_copyL hab ha hb 120 0 2048 t (by omega) (by omega)
  exact ⟨t', by unfold m_X12_copy; rw [nl_0, e], fun j hj => z j (Nat.zero_le _) hj, fr_mono f (fun x j q => ⟨q.1, by omega, q.2.2⟩)⟩
theorem RM.copy {t t' : dn_S} {a b : Nat} {τ : Tv} {m : Mv} (hM : RM t a τ m) (hd : mv_d m ≤ 104) (h4 : tv_b τ ≤ 4) (h : ∀ j, j < 120 → dn_g t' 101 (b + j) = dn_g t 101 (a + j)) : RM t' b τ m :=
  ⟨(h 0 (by omega)).trans hM.1, by rw [h 1 (by omega)]; exact hM.2.1, by rw [h 2 (by omega)]; exact hM.2.2.1, by rw [h 3 (by omega)]; exact hM.2.2.2.1,
    fun i hi => by rw [Nat.add_assoc, h (16 + i) (by omega), ← Nat.add_assoc]; exact hM.2.2.2.2.1 i hi, fun i hi => by rw [Nat.add_assoc, h (6 + i) (by omega), ← Nat.add_assoc]; exact hM.2.2.2.2.2.1 i hi,
    fun i hi => by rw [Nat.add_assoc, h (10 + i) (by omega), ← Nat.add_assoc]; exact hM.2.2.2.2.2.2 i hi⟩
theorem RO.copy {t t' : dn_S} {a b : Nat} {o : Int32 × Int32} (hO : RO t a o) (h : ∀ j, j < 120 → dn_g t' 101 (b + j) = dn_g t 101 (a + j)) : RO t' b o :=
  ⟨by rw [h 4 (by omega)]; exact hO.1, fun q => by rw [h 5 (by omega)]; exact hO.2 q⟩
def PT (a j : Nat) : Prop := a = 101 ∧ 120 ≤ j ∧ j < 240
theorem rq_tries {t : dn_S} {τ : Tv} {m : Mv} (h4 : tv_b τ ≤ 4) (hM : RM t 0 τ m) (hd : mv_d m ≤ 104) : ∃ t', m_X12_tries t = some ((), t') ∧ RM t' 120 τ m ∧ RO t' 120 (-9, 0) ∧ fr PT t t' := by
  obtain ⟨t1, e1, z1, f1⟩ := rq_copy (a := 0) (b := 120) t (by omega) (by omega) (by omega)
  have hM1 := hM.copy hd h4 z1
  have hM2 : RM (dn_p t1 101 124 (nI 0)) 120 τ m := by
    refine ⟨?_, ?_, ?_, ?_, fun i hi => ?_, fun b hb => ?_, fun j hj => ?_⟩
    · rw [dn_p_j _ _ _ _ _ _ (by omega)]; exact hM1.1
    · rw [dn_p_j _ _ _ _ _ _ (by omega)]; exact hM1.2.1
    · rw [dn_p_j _ _ _ _ _ _ (by omega)]; exact hM1.2.2.1
    · rw [dn_p_j _ _ _ _ _ _ (by omega)]; exact hM1.2.2.2.1
    · rw [dn_p_j _ _ _ _ _ _ (by omega)]; exact hM1.2.2.2.2.1 i hi
    · rw [dn_p_j _ _ _ _ _ _ (by omega)]; exact hM1.2.2.2.2.2.1 b hb
    · rw [dn_p_j _ _ _ _ _ _ (by omega)]; exact hM1.2.2.2.2.2.2 j hj
  refine ⟨dn_p t1 101 124 (nI 0), ?_, hM2, ⟨dn_p_same _ _ _ _, fun q => absurd q (show ¬ ((0 : Int32) < 0) by decide)⟩, fr_trans (fr_mono f1 (fun x j q => q)) (fr_p ⟨rfl, by omega, by omega⟩)⟩
  unfold m_X12_tries
  rw [nl_0, nl_120, e1]
  try simp (disch := omega) only [nl_0, nl_1, nl_2, nl_3, nl_4, nl_5, nl_6, nl_7, nl_8, nl_9, nl_10, nl_16, nl_17, nl_19, nl_20, nl_21, nl_30, nl_31, nl_32, nl_40, nl_41, nl_48, nl_50, nl_57, nl_60, nl_64, nl_99, nl_100, nl_119, nl_120, nl_121, nl_122, nl_123, nl_124, nl_125, nl_126, nl_130, nl_136, nl_200, nl_240, nl_255, nl_256, nl_257, nl_480, nl_1080, nI_add, nI_mul, nI_sub, cq_ib, nI_clamp, nI_leI, nI_ltI, nI_eq, dn_ck_t, dn_bd_s, dn_wr_e, dn_lt_e, cq_ofNat]
