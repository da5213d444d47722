/-! nights ahead: in how many nights what -/
theorem PGC_SC {a j : Nat} (q : PGC 19 a j) : SC a j := by unfold PGC PCL PM at q; unfold SC; omega
theorem PM_SC {a j : Nat} (q : PM 19 a j) : SC a j := by unfold PM at q; unfold SC; omega
theorem PGR_SR {a j : Nat} (q : PGR 120 a j) : SR a j := by unfold PGR PNR at q; unfold SR; omega
theorem PT_SR {a j : Nat} (q : PT a j) : SR a j := by unfold PT at q; unfold SR; omega
theorem SC_ct {a j : Nat} (q : SC a j) : a < 3 ∨ 3 + 2 < a := by unfold SC at q; omega
theorem SR_rt {a j : Nat} (q : SR a j) : a = 101 ∨ 106 < a ∨ (a = 100 ∧ 9 ≤ j) := by unfold SR at q; omega
theorem ah_c {s : dn_S} {τ : Tv} {m : Mv} (hW : WT τ) (hT : CT s 3 τ) (hM : CM s 10 τ m) (hd : mv_d m ≤ 100) :
    ∃ s', m_X3_copyFrom 19 10 s = some ((), s') ∧ CT s' 3 τ ∧ CM s' 19 τ m ∧ fr SC s s' := by
  obtain ⟨s', e, z, f⟩ := cq_copyM (k := 19) (k1 := 10) s (by omega)
  have f' := fr_mono f (fun a j q => PM_SC q)
  exact ⟨s', e, hT.fr f' (fun a j q => SC_ct q), z.cm hW.1 hM hd, f'⟩
theorem ah_r {t : dn_S} {τ : Tv} {m : Mv} (hW : WT τ) (hT : RT t τ) (hM : RM t 0 τ m) (hd : mv_d m ≤ 104) :
    ∃ t', m_X12_tries t = some ((), t') ∧ RT t' τ ∧ RM t' 120 τ m ∧ RO t' 120 (-9, 0) ∧ fr SR t t' := by
  obtain ⟨t', e, z, o, f⟩ := rq_tries hW.1 hM hd
  have f' := fr_mono f (fun a j q => PT_SR q)
  exact ⟨t', e, hT.fr f' (fun a j q => SR_rt q), z, o, f'⟩
def ab_nt (τ : Tv) (m : Mv) : Int32 × Mv := ab_night τ m (-9, 0)
theorem ab_nt_d (τ : Tv) (m : Mv) : mv_d (ab_nt τ m).2 ≤ mv_d m + 1 := ab_night_d τ m (-9, 0)
theorem ab_n_s (τ : Tv) (n : Nat) (m : Mv) : ab_n τ (n + 1) m = ab_n τ n (ab_nt τ m).2 := rfl
theorem ah_gc {s : dn_S} {τ : Tv} {m : Mv} (hW : WT τ) (hT : CT s 3 τ) (hM : CM s 19 τ m) (hd : mv_d m < 100) :
    ∃ s1 s2, m_X4_open 19 s = some ((), s1) ∧ m_X4_close 19 s1 = some ((ab_nt τ m).1, s2) ∧ CT s2 3 τ ∧ CM s2 19 τ (ab_nt τ m).2 ∧ fr SC s s2 := by
  obtain ⟨s1, s2, e1, e2, z, f⟩ := cq_goes hW (Or.inr (Nat.le_refl 19)) hT hM hd (-9)
  have f' := fr_mono f (fun a j q => PGC_SC q)
  exact ⟨s1, s2, e1, e2, hT.fr f' (fun a j q => SC_ct q), z, f'⟩
theorem ah_gr {t : dn_S} {τ : Tv} {m : Mv} (hW : WT τ) (hT : RT t τ) (hM : RM t 120 τ m) (hO : RO t 120 (-9, 0)) (hd : mv_d m < 104) :
    ∃ t', m_X12_goes 120 t = some ((ab_nt τ m).1, t') ∧ RT t' τ ∧ RM t' 120 τ (ab_nt τ m).2 ∧ RO t' 120 (-9, 0) ∧ fr SR t t' := by
  obtain ⟨t', e, z, o, f⟩ := rq_goes hW (h := 120) (by omega) hT hM hO hd
  have f' := fr_mono f (fun a j q => PGR_SR q)
  exact ⟨t', e, hT.fr f' (fun a j q => SR_rt q), z, o, f'⟩
theorem cq_after_loop {τ : Tv} (hW : WT τ) : ∀ (c i fuel : Nat) (s : dn_S) (m : Mv), i + c ≤ 1000 → c < fuel → CT s 3 τ → CM s 19 τ m → mv_d m + c ≤ 100 →
    ∃ s', m_X5_after_10 10 fuel (nI (i + c)) (nI (i + 1)) s = some ((), s') ∧ CT s' 3 τ ∧ CM s' 19 τ (ab_n τ c m) ∧ fr SC s s' := by
  intro c
  induction c with
  | zero =>
    intro i fuel s m hi hf hT hM hd
    obtain ⟨n, rfl⟩ : ∃ n, fuel = n + 1 := ⟨fuel - 1, by omega⟩
    rw [m_X5_after_10]
    try simp (disch := omega) only [nl_0, nl_1, nl_2, nl_3, nl_4, nl_5, nl_6, nl_7, nl_8, nl_9, nl_10, nl_16, nl_17, nl_19, nl_20, nl_21, nl_30, nl_31, nl_32, nl_40, nl_41, nl_48, nl_50, nl_57, nl_60, nl_64, nl_99, nl_100, nl_119, nl_120, nl_121, nl_122, nl_123, nl_124, nl_125, nl_126, nl_130, nl_136, nl_200, nl_240, nl_255, nl_256, nl_257, nl_480, nl_1080, nI_add, nI_mul, nI_sub, cq_ib, nI_clamp, nI_leI, nI_ltI, nI_eq, dn_ck_t, dn_bd_s, dn_wr_e, dn_lt_e, cq_ofNat]
    rw [if_pos (by omega)]
    exact ⟨s, rfl, hT, hM, fr_refl⟩
  | succ c ih =>
    intro i fuel s m hi hf hT hM hd
    obtain ⟨n, rfl⟩ : ∃ n, fuel = n + 1 := ⟨fuel - 1, by omega⟩
    obtain ⟨s1, s2, e1, e2, hT2, hM2, f2⟩ := ah_gc hW hT hM (by omega)
    have hd2 := ab_nt_d τ m
    obtain ⟨s3, e3, hT3, hM3, f3⟩ := ih (i + 1) n s2 _ (by omega) (by omega) hT2 hM2 (by omega)
    refine ⟨s3, ?_, hT3, by rw [ab_n_s]; exact hM3, fr_trans f2 f3⟩
    rw [m_X5_after_10, e1, dn_bd_s, e2, dn_bd_s]
    try simp (disch := omega) only [nl_0, nl_1, nl_2, nl_3, nl_4, nl_5, nl_6, nl_7, nl_8, nl_9, nl_10, nl_16, nl_17, nl_19, nl_20, nl_21, nl_30, nl_31, nl_32, nl_40, nl_41, nl_48, nl_50, nl_57, nl_60, nl_64, nl_99, nl_100, nl_119, nl_120, nl_121, nl_122, nl_123, nl_124, nl_125, nl_126, nl_130, nl_136, nl_200, nl_240, nl_255, nl_256, nl_257, nl_480, nl_1080, nI_add, nI_mul, nI_sub, cq_ib, nI_clamp, nI_leI, nI_ltI, nI_eq, dn_ck_t, dn_bd_s, dn_wr_e, dn_lt_e, cq_ofNat]
    rw [if_neg (by omega)]
    rw [show i + (c + 1) = i + 1 + c by omega]
    exact e3
theorem rq_many_loop {τ : Tv} (hW : WT τ) : ∀ (c i fuel : Nat) (t : dn_S) (m : Mv), i + c ≤ 1000 → c < fuel → RT t τ → RM t 120 τ m → RO t 120 (-9, 0) → mv_d m + c ≤ 100 →
    ∃ t', m_X12_goesMany_6 fuel (nI (i + c)) (nI i) t = some ((), t') ∧ RT t' τ ∧ RM t' 120 τ (ab_n τ c m) ∧ RO t' 120 (-9, 0) ∧ fr SR t t' := by
  intro c
  induction c with
  | zero =>
    intro i fuel t m hi hf hT hM hO hd
    obtain ⟨n, rfl⟩ : ∃ n, fuel = n + 1 := ⟨fuel - 1, by omega⟩
    rw [m_X12_goesMany_6]
    try simp (disch := omega) only [nl_0, nl_1, nl_2, nl_3, nl_4, nl_5, nl_6, nl_7, nl_8, nl_9, nl_10, nl_16, nl_17, nl_19, nl_20, nl_21, nl_30, nl_31, nl_32, nl_40, nl_41, nl_48, nl_50, nl_57, nl_60, nl_64, nl_99, nl_100, nl_119, nl_120, nl_121, nl_122, nl_123, nl_124, nl_125, nl_126, nl_130, nl_136, nl_200, nl_240, nl_255, nl_256, nl_257, nl_480, nl_1080, nI_add, nI_mul, nI_sub, cq_ib, nI_clamp, nI_leI, nI_ltI, nI_eq, dn_ck_t, dn_bd_s, dn_wr_e, dn_lt_e, cq_ofNat]
    rw [if_pos (by omega)]
    exact ⟨t, rfl, hT, hM, hO, fr_refl⟩
  | succ c ih =>
    intro i fuel t m hi hf hT hM hO hd
    obtain ⟨n, rfl⟩ : ∃ n, fuel = n + 1 := ⟨fuel - 1, by omega⟩
    obtain ⟨t2, e2, hT2, hM2, hO2, f2⟩ := ah_gr hW hT hM hO (by omega)
    have hd2 := ab_nt_d τ m
    obtain ⟨t3, e3, hT3, hM3, hO3, f3⟩ := ih (i + 1) n t2 _ (by omega) (by omega) hT2 hM2 hO2 (by omega)
    refine ⟨t3, ?_, hT3, by rw [ab_n_s]; exact hM3, hO3, fr_trans f2 f3⟩
    rw [m_X12_goesMany_6, e2, dn_bd_s]
    try simp (disch := omega) only [nl_0, nl_1, nl_2, nl_3, nl_4, nl_5, nl_6, nl_7, nl_8, nl_9, nl_10, nl_16, nl_17, nl_19, nl_20, nl_21, nl_30, nl_31, nl_32, nl_40, nl_41, nl_48, nl_50, nl_57, nl_60, nl_64, nl_99, nl_100, nl_119, nl_120, nl_121, nl_122, nl_123, nl_124, nl_125, nl_126, nl_130, nl_136, nl_200, nl_240, nl_255, nl_256, nl_257, nl_480, nl_1080, nI_add, nI_mul, nI_sub, cq_ib, nI_clamp, nI_leI, nI_ltI, nI_eq, dn_ck_t, dn_bd_s, dn_wr_e, dn_lt_e, cq_ofNat]
    rw [if_neg (by omega)]
    rw [show i + (c + 1) = i + 1 + c by omega]
    exact e3
theorem ah_after {s t : dn_S} {τ : Tv} {m : Mv} {n : Nat} (hW : WT τ) (hT : CT s 3 τ) (hU : RT t τ) (hM : CM s 10 τ m) (hN : RM t 0 τ m) (hd : mv_d m ≤ 60) (hn : n ≤ 40) :
    ∃ s' t', m_X5_after 10 (nI n) s = some ((), s') ∧ m_X12_goesMany (nI n) t = some ((), t') ∧ CM s' 19 τ (ab_n τ n m) ∧ RM t' 120 τ (ab_n τ n m) ∧ fr SC s s' ∧ fr SR t t' := by
  obtain ⟨s1, e1, hT1, hM1, f1⟩ := ah_c hW hT hM (by omega)
  obtain ⟨t1, g1, hU1, hN1, hO1, k1⟩ := ah_r hW hU hN (by omega)
  obtain ⟨s2, e2, -, hM2, f2⟩ := cq_after_loop hW n 0 2048 s1 m (by omega) (by omega) hT1 hM1 (by omega)
  obtain ⟨t2, g2, -, hN2, -, k2⟩ := rq_many_loop hW n 0 2048 t1 m (by omega) (by omega) hU1 hN1 hO1 (by omega)
  refine ⟨s2, t2, ?_, ?_, hM2, hN2, fr_trans f1 f2, fr_trans k1 k2⟩
  · unfold m_X5_after
    rw [e1, dn_bd_s, nl_1]
    rw [Nat.zero_add, Nat.zero_add] at e2
    exact e2
  · unfold m_X12_goesMany
    rw [g1, dn_bd_s, nl_0]
    rw [Nat.zero_add] at g2
    exact g2
theorem ok_inNights (a1 a2 : Int32) : Ok Int32 (m_X11_inNights a1 a2) (m_X12_inNights a1 a2) := by
  intro s t hR
  obtain ⟨τ, hW, hT, hU, ⟨m, o, hM, hN, -, -, hd, -⟩, hR2⟩ := id hR
  have h6 := hW.2.1
  unfold m_X11_inNights m_X12_inNights
  rw [cq_within, rq_in, rq_i64, i32_0, i32_20, i64_0, i64_20, dn_bd_s, dn_bd_s]
  by_cases h1 : ab_in a1.toInt (0 : Nat) (20 : Nat) = true
  · obtain ⟨n, _, hn, rfl⟩ := in_split h1
    rw [if_pos h1, if_pos h1, cq_within, rq_in, rq_i64, i32_0, i32_2, i64_0, i64_2, dn_bd_s, dn_bd_s]
    by_cases h2 : ab_in a2.toInt (0 : Nat) (2 : Nat) = true
    · obtain ⟨f, _, hf, rfl⟩ := in_split h2
      rw [if_pos h2, if_pos h2]
      obtain ⟨s', t', e, g, hM', hN', f1, k1⟩ := ah_after (n := n) hW hT hU hM hN hd (by omega)
      have hd' := ab_n_d τ n m
      have hR' := hR.scr f1 k1
      rw [e, g, dn_bd_s, dn_bd_s, cq_dfl hM', dn_bd_s, hM'.1]
      have hx : dn_g t' 101 (120 : Int32).toNatClampNeg = nI (mv_d (ab_n τ n m)) := hN'.1
      have hy : dn_g t' 101 (123 : Int32).toNatClampNeg = nI (ab_df (mv_H (ab_n τ n m)) 6 0) := hN'.2.2.2.1
      rw [show dn_ib 120 1680 = true by decide, show dn_ib 123 1680 = true by decide, dn_ck_t, dn_ck_t, dn_lt_e, hx, hy]
      by_cases q1 : nI f = 1
      · rw [if_pos q1, if_pos q1]
        exact ⟨_, s', t', rfl, rfl, hR'⟩
      · rw [if_neg q1, if_neg q1]
        by_cases q2 : nI f = 2
        · rw [if_pos q2, if_pos q2]
          exact ⟨_, s', t', rfl, rfl, hR'⟩
        · rw [if_neg q2, if_neg q2]
          by_cases q3 : nI (mv_d (ab_n τ n m)) = 0
          · rw [if_pos q3, if_pos q3]
            exact ⟨_, s', t', rfl, rfl, hR'⟩
          · rw [if_neg q3, if_neg q3]
            have q4 : mv_d (ab_n τ n m) ≠ 0 := fun z => q3 (by rw [z]; rfl)
            unfold m_X3_nameOfDay
            try simp (disch := omega) only [nl_0, nl_1, nl_2, nl_3, nl_4, nl_5, nl_6, nl_7, nl_8, nl_9, nl_10, nl_16, nl_17, nl_19, nl_20, nl_21, nl_30, nl_31, nl_32, nl_40, nl_41, nl_48, nl_50, nl_57, nl_60, nl_64, nl_99, nl_100, nl_119, nl_120, nl_121, nl_122, nl_123, nl_124, nl_125, nl_126, nl_130, nl_136, nl_200, nl_240, nl_255, nl_256, nl_257, nl_480, nl_1080, nI_add, nI_mul, nI_sub, cq_ib, nI_clamp, nI_leI, nI_ltI, nI_eq, dn_ck_t, dn_bd_s, dn_wr_e, dn_lt_e, cq_ofNat, cq_at_nI]
            have h1 := hM'.2.2.2.1 (mv_d (ab_n τ n m) - 1) (by omega)
            have h2 := hN'.2.2.2.2.1 (mv_d (ab_n τ n m) - 1) (by omega)
            rw [show 120 + 16 + (mv_d (ab_n τ n m) - 1) = 136 + mv_d (ab_n τ n m) - 1 by omega] at h2
            rw [h1, h2]
            exact ⟨_, s', t', rfl, rfl, hR'⟩
    · rw [if_neg h2, if_neg h2]
      exact ⟨_, s, t, rfl, rfl, hR⟩
  · rw [if_neg h1, if_neg h1]
    exact ⟨_, s, t, rfl, rfl, hR⟩
theorem ok_purseIn (a1 a2 : Int32) : Ok Int32 (m_X11_purseIn a1 a2) (m_X12_purseIn a1 a2) := by
  intro s t hR
  obtain ⟨τ, hW, hT, hU, ⟨m, o, hM, hN, -, -, hd, -⟩, hR2⟩ := id hR
  have h4 := hW.1
  unfold m_X11_purseIn m_X12_purseIn
  rw [cq_isBidder a1 hW hT, rq_isBidder a1 hW hU, dn_bd_s, dn_bd_s]
  by_cases h1 : ab_in a1.toInt (0 : Nat) ((tv_b τ : Int) - 1) = true
  · obtain ⟨b, hb, rfl⟩ := in_split1 h1
    rw [if_pos h1, if_pos h1, cq_within, rq_in, rq_i64, i32_0, i32_20, i64_0, i64_20, dn_bd_s, dn_bd_s]
    by_cases h2 : ab_in a2.toInt (0 : Nat) (20 : Nat) = true
    · obtain ⟨n, _, hn, rfl⟩ := in_split h2
      rw [if_pos h2, if_pos h2]
      obtain ⟨s', t', e, g, hM', hN', f1, k1⟩ := ah_after (n := n) hW hT hU hM hN hd (by omega)
      have hR' := hR.scr f1 k1
      rw [e, g, dn_bd_s, dn_bd_s, cq_purse hM' hb h4]
      try simp (disch := omega) only [nl_0, nl_1, nl_2, nl_3, nl_4, nl_5, nl_6, nl_7, nl_8, nl_9, nl_10, nl_16, nl_17, nl_19, nl_20, nl_21, nl_30, nl_31, nl_32, nl_40, nl_41, nl_48, nl_50, nl_57, nl_60, nl_64, nl_99, nl_100, nl_119, nl_120, nl_121, nl_122, nl_123, nl_124, nl_125, nl_126, nl_130, nl_136, nl_200, nl_240, nl_255, nl_256, nl_257, nl_480, nl_1080, nI_add, nI_mul, nI_sub, cq_ib, nI_clamp, nI_leI, nI_ltI, nI_eq, dn_ck_t, dn_bd_s, dn_wr_e, dn_lt_e, cq_ofNat]
      have := hN'.2.2.2.2.2.1 b hb
      rw [show 120 + 6 + b = 126 + b by omega] at this
      rw [this]
      exact ⟨_, s', t', rfl, rfl, hR'⟩
    · rw [if_neg h2, if_neg h2]
      exact ⟨_, s, t, rfl, rfl, hR⟩
  · rw [if_neg h1, if_neg h1]
    exact ⟨_, s, t, rfl, rfl, hR⟩
