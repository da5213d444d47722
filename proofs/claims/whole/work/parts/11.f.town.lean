/-! town: a new town on both sides -/
theorem cq_copyTown {s : dn_S} {τ : Tv} (hW : WT τ) (hT : CT s 7 τ) : ∃ s', m_X10_copyFrom 3 7 s = some ((), s') ∧ CT s' 3 τ ∧ fr (fun a _ => 3 ≤ a ∧ a ≤ 5) s s' := by
  have h4 := hW.1
  have h6 := hW.2.1
  obtain ⟨s1, e1, z1, f1⟩ := cq_copyR (k1 := 8) (k2 := 4) (n := 28) s (by decide) (by decide)
  obtain ⟨s2, e2, z2, f2⟩ := cq_copyR (k1 := 9) (k2 := 5) (n := 30) s1 (by decide) (by decide)
  have a2 : dn_g s2 7 2 = nI (tv_b τ) := (f2.1 _ _ (by decide)).trans ((f1.1 _ _ (by decide)).trans hT.1)
  have a3 : dn_g s2 7 3 = nI (tv_d τ) := (f2.1 _ _ (by decide)).trans ((f1.1 _ _ (by decide)).trans hT.2.1)
  have a4 : dn_g s2 7 4 = nI (tv_r τ) := (f2.1 _ _ (by decide)).trans ((f1.1 _ _ (by decide)).trans hT.2.2.1)
  have f3 : fr (fun a _ => a = 3) s2 (dn_p (dn_p (dn_p s2 3 2 (nI (tv_b τ))) 3 3 (nI (tv_d τ))) 3 4 (nI (tv_r τ))) := fr_trans (fr_p rfl) (fr_trans (fr_p rfl) (fr_p rfl))
  refine ⟨dn_p (dn_p (dn_p s2 3 2 (nI (tv_b τ))) 3 3 (nI (tv_d τ))) 3 4 (nI (tv_r τ)), ?_, ⟨?_, ?_, ?_, fun b hb f hf => ?_, fun d hd j hj => ?_⟩, fr_trans (fr_mono f1 (fun a j q => by omega)) (fr_trans (fr_mono f2 (fun a j q => by omega)) (fr_mono f3 (fun a j q => by omega)))⟩
  · unfold m_X10_copyFrom
    rw [show m_X11_copyRow (7 + 1) 28 (3 + 1) 28 s = some ((), s1) from e1, dn_bd_s, show m_X11_copyRow (7 + 2) 30 (3 + 2) 30 s1 = some ((), s2) from e2, dn_bd_s, dn_wr_e, dn_wr_e, dn_wr_e, a2, dn_p_k _ _ _ _ _ _ (by decide), a3, dn_p_k _ _ _ _ _ _ (by decide), dn_p_k _ _ _ _ _ _ (by decide), a4]
  · rw [dn_p_j _ _ _ _ _ _ (by decide), dn_p_j _ _ _ _ _ _ (by decide), dn_p_same]
  · rw [dn_p_j _ _ _ _ _ _ (by decide), dn_p_same]
  · rw [dn_p_same]
  · rw [f3.1 _ _ (by omega), f2.1 _ _ (by omega)]
    have := hT.2.2.2.1 b hb f hf
    rw [← this]
    exact z1 (b * 7 + f) (by omega)
  · rw [f3.1 _ _ (by omega)]
    have := hT.2.2.2.2 d hd j hj
    rw [← this]
    rw [show dn_g s2 (3 + 2) (d * 5 + j) = dn_g s1 9 (d * 5 + j) from z2 (d * 5 + j) (by omega), f1.1 _ _ (by omega)]
theorem cq_begin31 : ∀ (c i fuel : Nat) (s : dn_S), i + c = 6 → c < fuel →
    ∃ s', m_X3_begin_31 10 3 fuel (nI i) s = some ((), s') ∧ (∀ j, i ≤ j → j < 6 → dn_g s' 13 j = 0) ∧ dn_g s' 10 3 = 0 ∧ dn_g s' 10 4 = 0 ∧ dn_g s' 10 5 = 0 ∧ dn_g s' 10 6 = -9 ∧ dn_g s' 10 7 = 0 ∧ fr (fun a j => a = 10 ∨ (a = 13 ∧ i ≤ j)) s s' := by
  intro c
  induction c with
  | zero =>
    intro i fuel s hi hf
    obtain ⟨f, rfl⟩ : ∃ n, fuel = n + 1 := ⟨fuel - 1, by omega⟩
    rw [m_X3_begin_31, if_pos (show 6 ≤ nI i from nI_le (a := 6) (by omega) (by omega))]
    refine ⟨_, rfl, fun j h1 h2 => by omega, ?_, ?_, ?_, ?_, ?_, ?_⟩
    · rw [dn_p_j _ _ _ _ _ _ (by decide), dn_p_j _ _ _ _ _ _ (by decide), dn_p_j _ _ _ _ _ _ (by decide), dn_p_j _ _ _ _ _ _ (by decide), dn_p_same]
    · rw [dn_p_j _ _ _ _ _ _ (by decide), dn_p_j _ _ _ _ _ _ (by decide), dn_p_j _ _ _ _ _ _ (by decide), dn_p_same]
    · rw [dn_p_j _ _ _ _ _ _ (by decide), dn_p_j _ _ _ _ _ _ (by decide), dn_p_same]
    · rw [dn_p_j _ _ _ _ _ _ (by decide), dn_p_same]
    · rw [dn_p_same]
    · exact fr_trans (fr_p (Or.inl rfl)) (fr_trans (fr_p (Or.inl rfl)) (fr_trans (fr_p (Or.inl rfl)) (fr_trans (fr_p (Or.inl rfl)) (fr_p (Or.inl rfl)))))
  | succ c ih =>
    intro i fuel s hi hf
    obtain ⟨f, rfl⟩ : ∃ n, fuel = n + 1 := ⟨fuel - 1, by omega⟩
    obtain ⟨s', e, z, a, b, d, g, h, k⟩ := ih (i + 1) f (dn_p s 13 i 0) (by omega) (by omega)
    refine ⟨s', ?_, fun j h1 h2 => ?_, a, b, d, g, h, fr_trans (fr_p (Or.inr ⟨rfl, Nat.le_refl _⟩)) (fr_mono k (fun a j q => by omega))⟩
    · rw [m_X3_begin_31, if_neg (show ¬ 6 ≤ nI i from nI_nl (a := 6) (by omega) (by omega)), cq_ib (by omega) (by omega), dn_ck_t, nI_clamp (by omega), dn_wr_e, dn_lt_e, show nI i + (1 : Int32) = nI (i + 1) from by rw [nl_1, nI_add]]
      exact e
    · rcases Nat.eq_or_lt_of_le h1 with rfl | h3
      · rw [k.1 13 i (by omega), dn_p_same]
      · exact z j h3 h2
theorem cq_begin2 : ∀ (c i fuel : Nat) (s : dn_S), i + c = 4 → c < fuel →
    ∃ s', m_X3_begin_2 10 3 fuel (nI i) s = m_X3_begin_31 10 3 2048 (nI 0) s' ∧ (∀ j, i ≤ j → j < 4 → dn_g s' 12 j = dn_g s 4 (j * 7)) ∧ fr (fun a j => a = 12 ∧ i ≤ j) s s' := by
  intro c
  induction c with
  | zero =>
    intro i fuel s hi hf
    obtain ⟨f, rfl⟩ : ∃ n, fuel = n + 1 := ⟨fuel - 1, by omega⟩
    rw [m_X3_begin_2, if_pos (show 4 ≤ nI i from nI_le (a := 4) (by omega) (by omega))]
    exact ⟨s, rfl, fun j h1 h2 => by omega, fr_refl⟩
  | succ c ih =>
    intro i fuel s hi hf
    obtain ⟨f, rfl⟩ : ∃ n, fuel = n + 1 := ⟨fuel - 1, by omega⟩
    obtain ⟨s', e, z, k⟩ := ih (i + 1) f (dn_p s 12 i (dn_g s 4 (i * 7))) (by omega) (by omega)
    refine ⟨s', ?_, fun j h1 h2 => ?_, fr_trans (fr_p ⟨rfl, Nat.le_refl _⟩) (fr_mono k (fun a j q => by omega))⟩
    · have eo : m_X10_ofBidder 3 (nI i) 0 s = some (dn_g s 4 (i * 7), s) := by
        unfold m_X10_ofBidder
        try simp (disch := omega) only [nl_0, nl_1, nl_2, nl_3, nl_4, nl_5, nl_6, nl_7, nl_8, nl_9, nl_10, nl_16, nl_17, nl_19, nl_20, nl_21, nl_30, nl_31, nl_32, nl_40, nl_41, nl_48, nl_50, nl_57, nl_60, nl_64, nl_99, nl_100, nl_119, nl_120, nl_121, nl_122, nl_123, nl_124, nl_125, nl_126, nl_130, nl_136, nl_200, nl_240, nl_255, nl_256, nl_257, nl_480, nl_1080, nI_add, nI_mul, nI_sub, cq_ib, nI_clamp, nI_leI, nI_ltI, nI_eq, dn_ck_t, dn_bd_s, dn_wr_e, dn_lt_e, cq_ofNat]
        rw [cq_at_nI (by omega) (by omega)]
        rfl
      rw [m_X3_begin_2, if_neg (show ¬ 4 ≤ nI i from nI_nl (a := 4) (by omega) (by omega)), eo, dn_bd_s, cq_ib (by omega) (by omega), dn_ck_t, nI_clamp (by omega), dn_wr_e, dn_lt_e, show nI i + (1 : Int32) = nI (i + 1) from by rw [nl_1, nI_add]]
      exact e
    · rcases Nat.eq_or_lt_of_le h1 with rfl | h3
      · rw [k.1 12 i (by omega), dn_p_same]
      · rw [z j h3 h2, dn_p_k _ _ _ _ _ _ (by decide)]
def ab_0 (τ : Tv) : Mv := (fun _ => 0, fun b => tv_F τ b 0, fun _ => 0, 0, 0, 0)
theorem cq_begin {s : dn_S} {τ : Tv} (hW : WT τ) (hT : CT s 3 τ) : ∃ s', m_X3_begin 10 3 s = some ((), s') ∧ CM s' 10 τ (ab_0 τ) ∧ CO s' 10 (-9, 0) ∧ fr (fun a _ => 10 ≤ a ∧ a ≤ 13) s s' := by
  have h4 := hW.1
  obtain ⟨s1, e1, z1, f1⟩ := cq_begin2 4 0 2048 s (by omega) (by omega)
  obtain ⟨s2, e2, z2, a, b, c, d, e, f2⟩ := cq_begin31 6 0 2048 s1 (by omega) (by omega)
  refine ⟨s2, ?_, CM_mk.mpr ⟨a, b, c, fun i hi => by omega, fun b hb => ?_, fun j hj => z2 j (by omega) hj⟩, ⟨d, e⟩, fr_trans (fr_mono f1 (fun a j q => by omega)) (fr_mono f2 (fun a j q => by omega))⟩
  · unfold m_X3_begin
    rw [nl_0, e1, e2]
  · rw [f2.1 _ _ (by omega)]
    have := hT.2.2.2.1 b hb 0 (by omega)
    rw [← this]
    exact z1 b (by omega) (by omega)
theorem cq_lose {s : dn_S} : ∃ s', m_X6_loseAll s = some ((), s') ∧ dn_g s' 36 4 = 0 ∧ dn_g s' 39 0 = 0 ∧ dn_g s' 39 1 = 0 ∧ fr (fun a j => (a = 36 ∧ j = 4) ∨ a = 39) s s' := by
  refine ⟨dn_p (dn_p (dn_p s 36 4 0) 39 0 0) 39 1 0, rfl, ?_, ?_, ?_, fr_trans (fr_p (Or.inl ⟨rfl, rfl⟩)) (fr_trans (fr_p (Or.inr rfl)) (fr_p (Or.inr rfl)))⟩
  · rw [dn_p_k _ _ _ _ _ _ (by decide), dn_p_k _ _ _ _ _ _ (by decide), dn_p_same]
  · rw [dn_p_j _ _ _ _ _ _ (by decide), dn_p_same]
  · rw [dn_p_same]
theorem rq_103 : ∀ (c i fuel : Nat) (t : dn_S), i + c = 4 → c < fuel →
    ∃ t', m_X12_town_103 fuel (nI i) t = m_X12_town_140 2048 (nI 0) t' ∧ (∀ j, i ≤ j → j < 4 → dn_g t' 103 j = dn_g t 111 j ∧ dn_g t' 104 j = dn_g t 112 j) ∧ fr (fun a j => (a = 103 ∨ a = 104) ∧ i ≤ j) t t' := by
  intro c
  induction c with
  | zero =>
    intro i fuel t hi hf
    obtain ⟨f, rfl⟩ : ∃ n, fuel = n + 1 := ⟨fuel - 1, by omega⟩
    rw [m_X12_town_103, if_pos (show 4 ≤ nI i from nI_le (a := 4) (by omega) (by omega))]
    exact ⟨t, rfl, fun j h1 h2 => by omega, fr_refl⟩
  | succ c ih =>
    intro i fuel t hi hf
    obtain ⟨f, rfl⟩ : ∃ n, fuel = n + 1 := ⟨fuel - 1, by omega⟩
    have f0 : fr (fun a j => (a = 103 ∨ a = 104) ∧ j = i) t (dn_p (dn_p t 103 i (dn_g t 111 i)) 104 i (dn_g t 112 i)) := fr_trans (fr_p ⟨Or.inl rfl, rfl⟩) (fr_p ⟨Or.inr rfl, rfl⟩)
    obtain ⟨t', e, z, k⟩ := ih (i + 1) f (dn_p (dn_p t 103 i (dn_g t 111 i)) 104 i (dn_g t 112 i)) (by omega) (by omega)
    refine ⟨t', ?_, fun j h1 h2 => ?_, fr_trans (fr_mono f0 (fun a j q => by omega)) (fr_mono k (fun a j q => by omega))⟩
    · rw [m_X12_town_103, if_neg (show ¬ 4 ≤ nI i from nI_nl (a := 4) (by omega) (by omega)), cq_ib (by omega) (by omega), nI_clamp (by omega)]
      simp only [dn_ck_t, dn_wr_e, dn_lt_e]
      rw [dn_p_k _ _ _ _ _ _ (by decide), show nI i + (1 : Int32) = nI (i + 1) from by rw [nl_1, nI_add]]
      exact e
    · rcases Nat.eq_or_lt_of_le h1 with rfl | h3
      · rw [k.1 103 i (by omega), k.1 104 i (by omega)]
        exact ⟨by rw [dn_p_k _ _ _ _ _ _ (by decide), dn_p_same], dn_p_same _ _ _ _⟩
      · have := z j h3 h2
        rw [f0.1 111 j (by omega), f0.1 112 j (by omega)] at this
        exact this
theorem rq_140 : ∀ (c i fuel : Nat) (t : dn_S), i + c = 20 → c < fuel →
    ∃ t', m_X12_town_140 fuel (nI i) t = m_X12_town_166 2048 (nI 0) t' ∧ (∀ j, i ≤ j → j < 20 → dn_g t' 105 j = dn_g t 113 j) ∧ fr (fun a j => a = 105 ∧ i ≤ j) t t' := by
  intro c
  induction c with
  | zero =>
    intro i fuel t hi hf
    obtain ⟨f, rfl⟩ : ∃ n, fuel = n + 1 := ⟨fuel - 1, by omega⟩
    rw [m_X12_town_140, if_pos (show 20 ≤ nI i from nI_le (a := 20) (by omega) (by omega))]
    exact ⟨t, rfl, fun j h1 h2 => by omega, fr_refl⟩
  | succ c ih =>
    intro i fuel t hi hf
    obtain ⟨f, rfl⟩ : ∃ n, fuel = n + 1 := ⟨fuel - 1, by omega⟩
    obtain ⟨t', e, z, k⟩ := ih (i + 1) f (dn_p t 105 i (dn_g t 113 i)) (by omega) (by omega)
    refine ⟨t', ?_, fun j h1 h2 => ?_, fr_trans (fr_p ⟨rfl, Nat.le_refl _⟩) (fr_mono k (fun a j q => by omega))⟩
    · rw [m_X12_town_140, if_neg (show ¬ 20 ≤ nI i from nI_nl (a := 20) (by omega) (by omega)), cq_ib (by omega) (by omega), nI_clamp (by omega)]
      simp only [dn_ck_t, dn_wr_e, dn_lt_e]
      rw [show nI i + (1 : Int32) = nI (i + 1) from by rw [nl_1, nI_add]]
      exact e
    · rcases Nat.eq_or_lt_of_le h1 with rfl | h3
      · rw [k.1 105 i (by omega), dn_p_same]
      · rw [z j h3 h2, dn_p_k _ _ _ _ _ _ (by decide)]
theorem rq_166 : ∀ (c i fuel : Nat) (t : dn_S), i + c = 30 → c < fuel →
    ∃ t', m_X12_town_166 fuel (nI i) t = m_X12_town_192 2048 (nI 0) t' ∧ (∀ j, i ≤ j → j < 30 → dn_g t' 106 j = dn_g t 114 j) ∧ fr (fun a j => a = 106 ∧ i ≤ j) t t' := by
  intro c
  induction c with
  | zero =>
    intro i fuel t hi hf
    obtain ⟨f, rfl⟩ : ∃ n, fuel = n + 1 := ⟨fuel - 1, by omega⟩
    rw [m_X12_town_166, if_pos (show 30 ≤ nI i from nI_le (a := 30) (by omega) (by omega))]
    exact ⟨t, rfl, fun j h1 h2 => by omega, fr_refl⟩
  | succ c ih =>
    intro i fuel t hi hf
    obtain ⟨f, rfl⟩ : ∃ n, fuel = n + 1 := ⟨fuel - 1, by omega⟩
    obtain ⟨t', e, z, k⟩ := ih (i + 1) f (dn_p t 106 i (dn_g t 114 i)) (by omega) (by omega)
    refine ⟨t', ?_, fun j h1 h2 => ?_, fr_trans (fr_p ⟨rfl, Nat.le_refl _⟩) (fr_mono k (fun a j q => by omega))⟩
    · rw [m_X12_town_166, if_neg (show ¬ 30 ≤ nI i from nI_nl (a := 30) (by omega) (by omega)), cq_ib (by omega) (by omega), nI_clamp (by omega)]
      simp only [dn_ck_t, dn_wr_e, dn_lt_e]
      rw [show nI i + (1 : Int32) = nI (i + 1) from by rw [nl_1, nI_add]]
      exact e
    · rcases Nat.eq_or_lt_of_le h1 with rfl | h3
      · rw [k.1 106 i (by omega), dn_p_same]
      · rw [z j h3 h2, dn_p_k _ _ _ _ _ _ (by decide)]
theorem rq_192 : ∀ (c i fuel : Nat) (t : dn_S), i + c = 120 → c < fuel →
    ∃ t', m_X12_town_192 fuel (nI i) t = m_X12_town_213 2048 (nI 0) t' ∧ (∀ j, i ≤ j → j < 120 → dn_g t' 101 j = 0) ∧ fr (fun a j => a = 101 ∧ i ≤ j ∧ j < 120) t t' := by
  intro c
  induction c with
  | zero =>
    intro i fuel t hi hf
    obtain ⟨f, rfl⟩ : ∃ n, fuel = n + 1 := ⟨fuel - 1, by omega⟩
    rw [m_X12_town_192, if_pos (show 120 ≤ nI i from nI_le (a := 120) (by omega) (by omega))]
    exact ⟨t, rfl, fun j h1 h2 => by omega, fr_refl⟩
  | succ c ih =>
    intro i fuel t hi hf
    obtain ⟨f, rfl⟩ : ∃ n, fuel = n + 1 := ⟨fuel - 1, by omega⟩
    obtain ⟨t', e, z, k⟩ := ih (i + 1) f (dn_p t 101 i 0) (by omega) (by omega)
    refine ⟨t', ?_, fun j h1 h2 => ?_, fr_trans (fr_p ⟨rfl, Nat.le_refl _, by omega⟩) (fr_mono k (fun a j q => by omega))⟩
    · rw [m_X12_town_192, if_neg (show ¬ 120 ≤ nI i from nI_nl (a := 120) (by omega) (by omega)), cq_ib (by omega) (by omega), nI_clamp (by omega)]
      simp only [dn_ck_t, dn_wr_e, dn_lt_e]
      rw [show nI i + (1 : Int32) = nI (i + 1) from by rw [nl_1, nI_add]]
      exact e
    · rcases Nat.eq_or_lt_of_le h1 with rfl | h3
      · rw [k.1 101 i (by omega), dn_p_same]
      · exact z j h3 h2
def rq_F (t : dn_S) : dn_S := dn_p (dn_p (dn_p (dn_p (dn_p (dn_p t 100 10 0) 100 13 0) 100 1 0) 102 0 0) 102 1 0) 100 17 0
theorem rq_213 {nb : Nat} (h4 : nb ≤ 4) : ∀ (c i fuel : Nat) (t : dn_S), i + c = nb → c < fuel → dn_g t 100 3 = nI nb →
    ∃ t', m_X12_town_213 fuel (nI i) t = some (dn_g t 100 21, rq_F t') ∧ (∀ j, i ≤ j → j < nb → dn_g t' 101 (6 + j) = dn_g t 103 j) ∧ fr (fun a j => a = 101 ∧ 6 + i ≤ j ∧ j < 6 + nb) t t' := by
  intro c
  induction c with
  | zero =>
    intro i fuel t hi hf h3
    obtain ⟨f, rfl⟩ : ∃ n, fuel = n + 1 := ⟨fuel - 1, by omega⟩
    rw [m_X12_town_213, h3, if_pos (show nI nb ≤ nI i from nI_le (by omega) (by omega))]
    refine ⟨t, ?_, fun j h1 h2 => by omega, fr_refl⟩
    rw [show dn_ib 0 2 = true by decide, show dn_ib 1 2 = true by decide]
    simp only [dn_ck_t, dn_wr_e]
    rw [dn_p_j _ _ _ _ _ _ (by decide), dn_p_k _ _ _ _ _ _ (by decide), dn_p_k _ _ _ _ _ _ (by decide), dn_p_j _ _ _ _ _ _ (by decide), dn_p_j _ _ _ _ _ _ (by decide), dn_p_j _ _ _ _ _ _ (by decide)]
    rfl
  | succ c ih =>
    intro i fuel t hi hf h3
    obtain ⟨f, rfl⟩ : ∃ n, fuel = n + 1 := ⟨fuel - 1, by omega⟩
    obtain ⟨t', e, z, k⟩ := ih (i + 1) f (dn_p t 101 (6 + i) (dn_g t 103 i)) (by omega) (by omega) (by rw [dn_p_k _ _ _ _ _ _ (by decide)]; exact h3)
    refine ⟨t', ?_, fun j h1 h2 => ?_, fr_trans (fr_p ⟨rfl, Nat.le_refl _, by omega⟩) (fr_mono k (fun a j q => by omega))⟩
    · rw [m_X12_town_213, h3, if_neg (show ¬ nI nb ≤ nI i from nI_nl (by omega) (by omega)), cq_ib (show i < 4 by omega) (by omega), nI_clamp (show i < 2 ^ 31 by omega), show (6 : Int32) + nI i = nI (6 + i) from by rw [nl_6, nI_add], cq_ib (show 6 + i < 1680 by omega) (by omega), nI_clamp (show 6 + i < 2 ^ 31 by omega)]
      simp only [dn_ck_t, dn_wr_e, dn_lt_e]
      rw [show nI i + (1 : Int32) = nI (i + 1) from by rw [nl_1, nI_add], e, dn_p_k _ _ _ _ _ _ (by decide)]
    · rcases Nat.eq_or_lt_of_le h1 with rfl | h5
      · rw [k.1 101 (6 + i) (by omega), dn_p_same]
      · rw [z j h5 h2, dn_p_k _ _ _ _ _ _ (by decide)]
theorem rq_doneIs {t : dn_S} {τ : Tv} (hW : WT τ) (hD : RD t τ) :
    ∃ t', rq_done t = some (dn_g t 100 21, t') ∧ RT t' τ ∧ RM t' 0 τ (ab_0 τ) ∧ RO t' 0 (-9, 0) ∧ dn_g t' 100 10 = 0 ∧ dn_g t' 100 13 = 0 ∧ dn_g t' 100 1 = 0 ∧ dn_g t' 102 0 = 0 ∧ dn_g t' 102 1 = 0 ∧ dn_g t' 100 17 = 0 ∧ dn_l t' = dn_l t := by
  have h4 := hW.1
  have h6 := hW.2.1
  unfold rq_done
  rw [dn_wr_e, dn_wr_e, dn_wr_e, dn_p_j _ _ _ _ _ _ (show 28 ≠ 3 by decide), dn_p_j _ _ _ _ _ _ (show 26 ≠ 8 by decide), dn_p_j _ _ _ _ _ _ (show 26 ≠ 3 by decide), hD.1, hD.2.1, hD.2.2.1]
  have f0 : fr (fun a j => a = 100 ∧ (j = 3 ∨ j = 8 ∨ j = 7)) t (dn_p (dn_p (dn_p t 100 3 (nI (tv_b τ))) 100 8 (nI (tv_d τ))) 100 7 (nI (tv_r τ))) := fr_trans (fr_p ⟨rfl, by omega⟩) (fr_trans (fr_p ⟨rfl, by omega⟩) (fr_p ⟨rfl, by omega⟩))
  have a3 : dn_g (dn_p (dn_p (dn_p t 100 3 (nI (tv_b τ))) 100 8 (nI (tv_d τ))) 100 7 (nI (tv_r τ))) 100 3 = nI (tv_b τ) := by rw [dn_p_j _ _ _ _ _ _ (by decide), dn_p_j _ _ _ _ _ _ (by decide), dn_p_same]
  have a8 : dn_g (dn_p (dn_p (dn_p t 100 3 (nI (tv_b τ))) 100 8 (nI (tv_d τ))) 100 7 (nI (tv_r τ))) 100 8 = nI (tv_d τ) := by rw [dn_p_j _ _ _ _ _ _ (by decide), dn_p_same]
  have a7 : dn_g (dn_p (dn_p (dn_p t 100 3 (nI (tv_b τ))) 100 8 (nI (tv_d τ))) 100 7 (nI (tv_r τ))) 100 7 = nI (tv_r τ) := dn_p_same _ _ _ _
  generalize dn_p (dn_p (dn_p t 100 3 (nI (tv_b τ))) 100 8 (nI (tv_d τ))) 100 7 (nI (tv_r τ)) = t0 at f0 a3 a8 a7 ⊢
  obtain ⟨t1, e1, z1, f1⟩ := rq_103 4 0 2048 t0 (by omega) (by omega)
  obtain ⟨t2, e2, z2, f2⟩ := rq_140 20 0 2048 t1 (by omega) (by omega)
  obtain ⟨t3, e3, z3, f3⟩ := rq_166 30 0 2048 t2 (by omega) (by omega)
  obtain ⟨t4, e4, z4, f4⟩ := rq_192 120 0 2048 t3 (by omega) (by omega)
  have c100 : ∀ j, dn_g t4 100 j = dn_g t0 100 j := fun j => (f4.1 100 j (by omega)).trans ((f3.1 100 j (by omega)).trans ((f2.1 100 j (by omega)).trans (f1.1 100 j (by omega))))
  obtain ⟨t5, e5, z5, f5⟩ := rq_213 h4 (tv_b τ) 0 2048 t4 (by omega) (by omega) ((c100 3).trans a3)
  have d100 : ∀ j, j ≠ 10 → j ≠ 13 → j ≠ 1 → j ≠ 17 → dn_g (rq_F t5) 100 j = dn_g t0 100 j := fun j h1 h2 h3 h4 => by
    unfold rq_F
    rw [dn_p_j _ _ _ _ _ _ h4, dn_p_k _ _ _ _ _ _ (by decide), dn_p_k _ _ _ _ _ _ (by decide), dn_p_j _ _ _ _ _ _ h3, dn_p_j _ _ _ _ _ _ h2, dn_p_j _ _ _ _ _ _ h1, f5.1 100 j (by omega), c100]
  have dF : ∀ a j, a ≠ 100 → a ≠ 102 → dn_g (rq_F t5) a j = dn_g t5 a j := fun a j h1 h2 => by
    unfold rq_F
    rw [dn_p_k _ _ _ _ _ _ h1, dn_p_k _ _ _ _ _ _ h2, dn_p_k _ _ _ _ _ _ h2, dn_p_k _ _ _ _ _ _ h1, dn_p_k _ _ _ _ _ _ h1, dn_p_k _ _ _ _ _ _ h1]
  have r103 : ∀ j, j < 4 → dn_g t4 103 j = dn_g t 111 j := fun j hj => (f4.1 _ _ (by omega)).trans ((f3.1 _ _ (by omega)).trans ((f2.1 _ _ (by omega)).trans ((z1 j (by omega) hj).1.trans (f0.1 _ _ (by omega)))))
  have r104 : ∀ j, j < 4 → dn_g t4 104 j = dn_g t 112 j := fun j hj => (f4.1 _ _ (by omega)).trans ((f3.1 _ _ (by omega)).trans ((f2.1 _ _ (by omega)).trans ((z1 j (by omega) hj).2.trans (f0.1 _ _ (by omega)))))
  have r105 : ∀ j, j < 20 → dn_g t4 105 j = dn_g t 113 j := fun j hj => (f4.1 _ _ (by omega)).trans ((f3.1 _ _ (by omega)).trans ((z2 j (by omega) hj).trans ((f1.1 _ _ (by omega)).trans (f0.1 _ _ (by omega)))))
  have r106 : ∀ j, j < 30 → dn_g t4 106 j = dn_g t 114 j := fun j hj => (f4.1 _ _ (by omega)).trans ((z3 j (by omega) hj).trans ((f2.1 _ _ (by omega)).trans ((f1.1 _ _ (by omega)).trans (f0.1 _ _ (by omega)))))
  have z101 : ∀ j, j < 120 → (j < 6 ∨ 6 + tv_b τ ≤ j) → dn_g (rq_F t5) 101 j = 0 := fun j h1 h2 => by rw [dF 101 j (by decide) (by decide), f5.1 101 j (by omega)]; exact z4 j (by omega) h1
  refine ⟨rq_F t5, ?_, ⟨?_, ?_, ?_, fun b hb => ⟨?_, ?_, fun n hn => ?_⟩, fun d hd j hj => ?_⟩, RM_mk.mpr ⟨?_, ?_, ?_, ?_, fun i hi => by omega, fun b hb => ?_, fun j hj => ?_⟩, ⟨?_, fun q => absurd q (show ¬ ((0 : Int32) < 0) by decide)⟩, ?_, ?_, ?_, ?_, ?_, ?_, ?_⟩
  · rw [nl_0, e1, e2, e3, e4, e5, c100, f0.1 100 21 (by omega)]
  · rw [d100 3 (by decide) (by decide) (by decide) (by decide)]; exact a3
  · rw [d100 8 (by decide) (by decide) (by decide) (by decide)]; exact a8
  · rw [d100 7 (by decide) (by decide) (by decide) (by decide)]; exact a7
  · rw [dF _ _ (by decide) (by decide), f5.1 _ _ (by omega), r103 b (by omega)]; exact (hD.2.2.2.1 b hb).1
  · rw [dF _ _ (by decide) (by decide), f5.1 _ _ (by omega), r104 b (by omega)]; exact (hD.2.2.2.1 b hb).2.1
  · rw [dF _ _ (by decide) (by decide), f5.1 _ _ (by omega), r105 _ (by omega)]; exact (hD.2.2.2.1 b hb).2.2 n hn
  · rw [dF _ _ (by decide) (by decide), f5.1 _ _ (by omega), r106 _ (by omega)]; exact hD.2.2.2.2 d hd j hj
  · exact z101 0 (by omega) (by omega)
  · exact z101 1 (by omega) (by omega)
  · exact z101 2 (by omega) (by omega)
  · exact z101 3 (by omega) (by omega)
  · rw [dF _ _ (by decide) (by decide), show 0 + 6 + b = 6 + b by omega, z5 b (by omega) hb, r103 b (by omega)]; exact (hD.2.2.2.1 b hb).1
  · rw [show 0 + 10 + j = 10 + j by omega]; exact z101 (10 + j) (by omega) (by omega)
  · exact z101 4 (by omega) (by omega)
  · unfold rq_F; rw [dn_p_j _ _ _ _ _ _ (by decide), dn_p_k _ _ _ _ _ _ (by decide), dn_p_k _ _ _ _ _ _ (by decide), dn_p_j _ _ _ _ _ _ (by decide), dn_p_j _ _ _ _ _ _ (by decide), dn_p_same]
  · unfold rq_F; rw [dn_p_j _ _ _ _ _ _ (by decide), dn_p_k _ _ _ _ _ _ (by decide), dn_p_k _ _ _ _ _ _ (by decide), dn_p_j _ _ _ _ _ _ (by decide), dn_p_same]
  · unfold rq_F; rw [dn_p_j _ _ _ _ _ _ (by decide), dn_p_k _ _ _ _ _ _ (by decide), dn_p_k _ _ _ _ _ _ (by decide), dn_p_same]
  · unfold rq_F; rw [dn_p_k _ _ _ _ _ _ (by decide), dn_p_j _ _ _ _ _ _ (by decide), dn_p_same]
  · unfold rq_F; rw [dn_p_k _ _ _ _ _ _ (by decide), dn_p_same]
  · unfold rq_F; rw [dn_p_same]
  · exact (show dn_l (rq_F t5) = dn_l t5 from rfl).trans (f5.2.trans (f4.2.trans (f3.2.trans (f2.2.trans (f1.2.trans f0.2)))))
