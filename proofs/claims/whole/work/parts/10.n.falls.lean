/-! the night on which a debt falls due -/
def ab_due (τ : Tv) (d : Nat) : Nat → Nat → Mv → Int32
  | 0, _, _ => -9
  | c + 1, i, m => if mv_H (ab_nt τ m).2 d = 0 then ab_due τ d c (i + 1) (ab_nt τ m).2 else nI (i + 1)
theorem cq_due_loop {τ : Tv} {L d : Nat} (hW : WT τ) (hd6 : d < 6) (hL : L ≤ 40) : ∀ (c i fuel : Nat) (s : dn_S) (m : Mv), i + c = L → c < fuel → CT s 3 τ → CM s 19 τ m → mv_d m + c ≤ 100 →
    ∃ s', m_X5_nightDue_21 10 fuel (nI d) (nI L) (nI (i + 1)) s = some (ab_due τ d c i m, s') ∧ fr SC s s' := by
  intro c
  induction c with
  | zero =>
    intro i fuel s m hi hf hT hM hd
    obtain ⟨n, rfl⟩ : ∃ n, fuel = n + 1 := ⟨fuel - 1, by omega⟩
    rw [m_X5_nightDue_21]
    try simp (disch := omega) only [nl_0, nl_1, nl_2, nl_3, nl_4, nl_5, nl_6, nl_7, nl_8, nl_9, nl_10, nl_16, nl_17, nl_19, nl_20, nl_21, nl_30, nl_31, nl_32, nl_40, nl_41, nl_48, nl_50, nl_57, nl_60, nl_64, nl_99, nl_100, nl_119, nl_120, nl_121, nl_122, nl_123, nl_124, nl_125, nl_126, nl_130, nl_136, nl_200, nl_240, nl_255, nl_256, nl_257, nl_480, nl_1080, nI_add, nI_mul, nI_sub, cq_ib, nI_clamp, nI_leI, nI_ltI, nI_eq, dn_ck_t, dn_bd_s, dn_wr_e, dn_lt_e, cq_ofNat]
    rw [if_pos (by omega)]
    exact ⟨s, rfl, fr_refl⟩
  | succ c ih =>
    intro i fuel s m hi hf hT hM hd
    obtain ⟨n, rfl⟩ : ∃ n, fuel = n + 1 := ⟨fuel - 1, by omega⟩
    obtain ⟨s1, s2, e1, e2, hT2, hM2, f2⟩ := ah_gc hW hT hM (by omega)
    have hd2 := ab_nt_d τ m
    rw [m_X5_nightDue_21, e1, dn_bd_s, e2, dn_bd_s, cq_howIs hd6, hM2.2.2.2.2.2 d hd6, ab_due]
    try simp (disch := omega) only [nl_0, nl_1, nl_2, nl_3, nl_4, nl_5, nl_6, nl_7, nl_8, nl_9, nl_10, nl_16, nl_17, nl_19, nl_20, nl_21, nl_30, nl_31, nl_32, nl_40, nl_41, nl_48, nl_50, nl_57, nl_60, nl_64, nl_99, nl_100, nl_119, nl_120, nl_121, nl_122, nl_123, nl_124, nl_125, nl_126, nl_130, nl_136, nl_200, nl_240, nl_255, nl_256, nl_257, nl_480, nl_1080, nI_add, nI_mul, nI_sub, cq_ib, nI_clamp, nI_leI, nI_ltI, nI_eq, dn_ck_t, dn_bd_s, dn_wr_e, dn_lt_e, cq_ofNat]
    rw [if_neg (by omega)]
    by_cases q : mv_H (ab_nt τ m).2 d = nI 0
    · rw [if_pos q, if_pos q]
      obtain ⟨s3, e3, f3⟩ := ih (i + 1) n s2 _ (by omega) (by omega) hT2 hM2 (by omega)
      exact ⟨s3, e3, fr_trans f2 f3⟩
    · rw [if_neg q, if_neg q]
      exact ⟨s2, rfl, f2⟩
theorem rq_due_loop {τ : Tv} {d : Nat} (hW : WT τ) (hd6 : d < 6) : ∀ (c i fuel : Nat) (t : dn_S) (m : Mv), i + c = 40 → c + 1 < fuel → RT t τ → RM t 120 τ m → RO t 120 (-9, 0) → mv_d m + c ≤ 100 →
    ∃ t', m_X12_falls_16 fuel (nI d) (nI i) t = some (if mv_H m d = 0 then ab_due τ d c i m else nI i, t') ∧ fr SR t t' := by
  intro c
  induction c with
  | zero =>
    intro i fuel t m hi hf hT hM hO hd
    obtain ⟨n, rfl⟩ : ∃ n, fuel = n + 1 := ⟨fuel - 1, by omega⟩
    obtain ⟨n, rfl⟩ : ∃ n', n = n' + 1 := ⟨n - 1, by omega⟩
    have hh := hM.2.2.2.2.2.2 d hd6
    rw [show 120 + 10 + d = 130 + d by omega] at hh
    rw [m_X12_falls_16]
    try simp (disch := omega) only [nl_0, nl_1, nl_2, nl_3, nl_4, nl_5, nl_6, nl_7, nl_8, nl_9, nl_10, nl_16, nl_17, nl_19, nl_20, nl_21, nl_30, nl_31, nl_32, nl_40, nl_41, nl_48, nl_50, nl_57, nl_60, nl_64, nl_99, nl_100, nl_119, nl_120, nl_121, nl_122, nl_123, nl_124, nl_125, nl_126, nl_130, nl_136, nl_200, nl_240, nl_255, nl_256, nl_257, nl_480, nl_1080, nI_add, nI_mul, nI_sub, cq_ib, nI_clamp, nI_leI, nI_ltI, nI_eq, dn_ck_t, dn_bd_s, dn_wr_e, dn_lt_e, cq_ofNat, hh]
    rw [if_neg (by omega)]
    by_cases q : mv_H m d = nI 0
    · rw [if_pos q, if_pos q]
      obtain ⟨t2, e2, hT2, hM2, hO2, f2⟩ := ah_gr hW hT hM hO (by omega)
      rw [← nl_120, e2, dn_bd_s, m_X12_falls_16]
      try simp (disch := omega) only [nl_0, nl_1, nl_2, nl_3, nl_4, nl_5, nl_6, nl_7, nl_8, nl_9, nl_10, nl_16, nl_17, nl_19, nl_20, nl_21, nl_30, nl_31, nl_32, nl_40, nl_41, nl_48, nl_50, nl_57, nl_60, nl_64, nl_99, nl_100, nl_119, nl_120, nl_121, nl_122, nl_123, nl_124, nl_125, nl_126, nl_130, nl_136, nl_200, nl_240, nl_255, nl_256, nl_257, nl_480, nl_1080, nI_add, nI_mul, nI_sub, cq_ib, nI_clamp, nI_leI, nI_ltI, nI_eq, dn_ck_t, dn_bd_s, dn_wr_e, dn_lt_e, cq_ofNat]
      rw [if_pos (by omega)]
      exact ⟨t2, rfl, f2⟩
    · rw [if_neg q, if_neg q]
      exact ⟨t, rfl, fr_refl⟩
  | succ c ih =>
    intro i fuel t m hi hf hT hM hO hd
    obtain ⟨n, rfl⟩ : ∃ n, fuel = n + 1 := ⟨fuel - 1, by omega⟩
    have hh := hM.2.2.2.2.2.2 d hd6
    rw [show 120 + 10 + d = 130 + d by omega] at hh
    rw [m_X12_falls_16, ab_due]
    try simp (disch := omega) only [nl_0, nl_1, nl_2, nl_3, nl_4, nl_5, nl_6, nl_7, nl_8, nl_9, nl_10, nl_16, nl_17, nl_19, nl_20, nl_21, nl_30, nl_31, nl_32, nl_40, nl_41, nl_48, nl_50, nl_57, nl_60, nl_64, nl_99, nl_100, nl_119, nl_120, nl_121, nl_122, nl_123, nl_124, nl_125, nl_126, nl_130, nl_136, nl_200, nl_240, nl_255, nl_256, nl_257, nl_480, nl_1080, nI_add, nI_mul, nI_sub, cq_ib, nI_clamp, nI_leI, nI_ltI, nI_eq, dn_ck_t, dn_bd_s, dn_wr_e, dn_lt_e, cq_ofNat, hh]
    rw [if_neg (by omega)]
    by_cases q : mv_H m d = nI 0
    · rw [if_pos q, if_pos q]
      obtain ⟨t2, e2, hT2, hM2, hO2, f2⟩ := ah_gr hW hT hM hO (by omega)
      have hd2 := ab_nt_d τ m
      rw [← nl_120, e2, dn_bd_s]
      obtain ⟨t3, e3, f3⟩ := ih (i + 1) n t2 _ (by omega) (by omega) hT2 hM2 hO2 (by omega)
      exact ⟨t3, e3, fr_trans f2 f3⟩
    · rw [if_neg q, if_neg q]
      exact ⟨t, rfl, fr_refl⟩
theorem cq_nightDue {s : dn_S} {τ : Tv} {m : Mv} {d L : Nat} (hW : WT τ) (hT : CT s 3 τ) (hM : CM s 10 τ m) (hd : mv_d m ≤ 60) (hd6 : d < 6) (hL : L ≤ 40) :
    ∃ s', m_X5_nightDue 10 (nI d) (nI L) s = some (if mv_H m d = 0 then ab_due τ d L 0 m else nI 0, s') ∧ fr SC s s' := by
  unfold m_X5_nightDue
  rw [cq_howIs hd6, dn_bd_s, hM.2.2.2.2.2 d hd6]
  by_cases q : mv_H m d = 0
  · rw [if_pos q, if_pos q]
    obtain ⟨s1, e1, hT1, hM1, f1⟩ := ah_c hW hT hM (by omega)
    obtain ⟨s2, e2, f2⟩ := cq_due_loop hW hd6 hL L 0 2048 s1 m (by omega) (by omega) hT1 hM1 (by omega)
    rw [e1, dn_bd_s, nl_1]
    rw [Nat.zero_add] at e2
    exact ⟨s2, e2, fr_trans f1 f2⟩
  · rw [if_neg q, if_neg q]
    exact ⟨s, rfl, fr_refl⟩
theorem ok_falls (a1 : Int32) : Ok Int32 (m_X11_falls a1) (m_X12_falls a1) := by
  intro s t hR
  obtain ⟨τ, hW, hT, hU, ⟨m, o, hM, hN, -, -, hd, -⟩, hR2⟩ := id hR
  have h6 := hW.2.1
  unfold m_X11_falls m_X12_falls
  rw [cq_isDebt a1 hW hT, rq_isDebt a1 hW hU, dn_bd_s, dn_bd_s]
  by_cases h1 : ab_in a1.toInt (0 : Nat) ((tv_d τ : Int) - 1) = true
  · obtain ⟨d, hdd, rfl⟩ := in_split1 h1
    rw [if_pos h1, if_pos h1]
    obtain ⟨s', e, f1⟩ := cq_nightDue (d := d) (L := 40) hW hT hM hd (by omega) (by omega)
    obtain ⟨t1, g1, hU1, hN1, hO1, k1⟩ := ah_r hW hU hN (by omega)
    obtain ⟨t2, g2, k2⟩ := rq_due_loop (d := d) hW (by omega) 40 0 2048 t1 m (by omega) (by omega) hU1 hN1 hO1 (by omega)
    rw [nl_40, e, dn_bd_s, g1, dn_bd_s, nl_0, g2]
    exact ⟨_, s', t2, rfl, rfl, hR.scr f1 (fr_trans k1 k2)⟩
  · rw [if_neg h1, if_neg h1]
    exact ⟨_, s, t, rfl, rfl, hR⟩
