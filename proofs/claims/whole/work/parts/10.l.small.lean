/-! letters, what is found, plans; rates -/
theorem XT.fr {P Q : Nat → Nat → Prop} {s s' t t' : dn_S} (h : XT s t) (hf : fr P s s') (hg : fr Q t t') (hP : ∀ a j, P a j → a ≠ 1 ∧ a ≠ 2) (hQ : ∀ a j, Q a j → a ≠ 110 ∧ (a ≠ 100 ∨ j ≠ 17)) : XT s' t' := by
  obtain ⟨n, h1, h2, h3, h4⟩ := h
  exact ⟨n, h1, by rw [hf.1 1 1 (fun q => (hP _ _ q).1 rfl)]; exact h2, by rw [hg.1 100 17 (fun q => by have := (hQ _ _ q).2; omega)]; exact h3, fun i hi => by rw [hf.1 2 i (fun q => (hP _ _ q).2 rfl), hg.1 110 i (fun q => (hQ _ _ q).1 rfl)]; exact h4 i hi⟩
theorem XF.fr {P Q : Nat → Nat → Prop} {s s' t t' : dn_S} (h : XF s t) (hf : fr P s s') (hg : fr Q t t') (hP : ∀ a j, P a j → a ≠ 23 ∧ a ≠ 28 ∧ a ≠ 29) (hQ : ∀ a j, Q a j → a ≠ 107 ∧ a ≠ 108 ∧ (a ≠ 100 ∨ j ≠ 10)) : XF s' t' := by
  obtain ⟨n, h1, h2, h3, h4⟩ := h
  exact ⟨n, h1, by rw [hf.1 23 5 (fun q => (hP _ _ q).1 rfl)]; exact h2, by rw [hg.1 100 10 (fun q => by have := (hQ _ _ q).2; omega)]; exact h3, fun i hi => ⟨by rw [hf.1 28 i (fun q => (hP _ _ q).2.1 rfl), hg.1 107 i (fun q => (hQ _ _ q).1 rfl)]; exact (h4 i hi).1, by rw [hf.1 29 i (fun q => (hP _ _ q).2.2 rfl), hg.1 108 i (fun q => (hQ _ _ q).2.1 rfl)]; exact (h4 i hi).2⟩⟩
theorem XP.fr {P Q : Nat → Nat → Prop} {s s' t t' : dn_S} (h : XP s t) (hf : fr P s s') (hg : fr Q t t') (hP : ∀ a j, P a j → a ≠ 30 ∧ a ≠ 35) (hQ : ∀ a j, Q a j → a ≠ 109 ∧ (a ≠ 100 ∨ j ≠ 13)) : XP s' t' := by
  obtain ⟨n, h1, h2, h3, h4⟩ := h
  exact ⟨n, h1, by rw [hf.1 30 3 (fun q => (hP _ _ q).1 rfl)]; exact h2, by rw [hg.1 100 13 (fun q => by have := (hQ _ _ q).2; omega)]; exact h3, fun i hi => by rw [hf.1 35 i (fun q => (hP _ _ q).2 rfl), hg.1 109 i (fun q => (hQ _ _ q).1 rfl)]; exact h4 i hi⟩
def PS (a _ : Nat) : Prop := a = 1 ∨ a = 2 ∨ a = 23 ∨ a = 28 ∨ a = 29 ∨ a = 30 ∨ a = 35
def PSr (a j : Nat) : Prop := (a = 100 ∧ (j = 17 ∨ j = 10 ∨ j = 13)) ∨ (107 ≤ a ∧ a ≤ 110)
theorem Rel.small {P Q : Nat → Nat → Prop} {s s' t t' : dn_S} (hR : Rel s t) (hf : fr P s s') (hg : fr Q t t') (hP : ∀ a j, P a j → PS a j) (hQ : ∀ a j, Q a j → PSr a j) (h1 : XT s' t') (h2 : XF s' t') (h3 : XP s' t') : Rel s' t' := by
  obtain ⟨τ, hW, hT, hU, hM, -, -, -, ⟨x, n4, d0, d1, d2, d3, d4, d5⟩, hI, hl⟩ := hR
  have p1 : ∀ a j, P a j → a = 1 ∨ a = 2 ∨ a = 23 ∨ a = 28 ∨ a = 29 ∨ a = 30 ∨ a = 35 := hP
  have q1 : ∀ a j, Q a j → (a = 100 ∧ (j = 17 ∨ j = 10 ∨ j = 13)) ∨ (107 ≤ a ∧ a ≤ 110) := hQ
  have ec : ∀ a j, 36 ≤ a → dn_g s' a j = dn_g s a j := fun a j q => hf.1 a j (fun r => by have := p1 a j r; omega)
  have er : ∀ a j, a < 107 → (a = 100 → j = 1) → dn_g t' a j = dn_g t a j := fun a j q2 q3 => hg.1 a j (fun r => by have := q1 a j r; omega)
  refine ⟨τ, hW, hT.fr hf (fun a j r => by have := p1 a j r; omega), hU.fr hg (fun a j r => by have := q1 a j r; omega), hM.fr hW.1 hf hg (fun a j r => by have := p1 a j r; omega) (fun a j r => by have := q1 a j r; omega), h1, h2, h3,
    ⟨x, n4, d0, d1, by rw [ec _ _ (by omega)]; exact d2, by rw [ec _ _ (by omega)]; exact d3, by rw [er _ _ (by omega) (by omega)]; exact d4, fun i hi => (d5 i hi).fr hW.1 hf hg (fun a j r => by have := p1 a j r; omega) (fun a j r => by have := q1 a j r; omega)⟩,
    fun i hi => ?_, by rw [hf.2, hg.2]; exact hl⟩
  rcases hI i hi with ⟨a1, a2⟩ | ⟨a1, a2, a3⟩
  · exact Or.inl ⟨by rw [ec _ _ (by omega)]; exact a1, by rw [er _ _ (by omega) (by omega)]; exact a2⟩
  · exact Or.inr ⟨by rw [ec _ _ (by omega)]; exact a1, by rw [er _ _ (by omega) (by omega)]; exact a2, a3.fr hW.1 hf hg (fun a j r => by have := p1 a j r; omega) (fun a j r => by have := q1 a j r; omega)⟩
theorem Rel.xt {s t : dn_S} (h : Rel s t) : XT s t := by obtain ⟨τ, -, -, -, -, h, -⟩ := h; exact h
theorem Rel.xf {s t : dn_S} (h : Rel s t) : XF s t := by obtain ⟨τ, -, -, -, -, -, h, -⟩ := h; exact h
theorem Rel.xp {s t : dn_S} (h : Rel s t) : XP s t := by obtain ⟨τ, -, -, -, -, -, -, h, -⟩ := h; exact h
theorem ok_type (a1 : Int32) : Ok Int32 (m_X11_type a1) (m_X12_type a1) := by
  intro s t hR
  obtain ⟨n, h1, h2, h3, h4⟩ := hR.xt
  unfold m_X11_type m_X12_type m_X9_add
  rw [cq_within, rq_in, rq_i64, i32_0, i32_255, i64_0, i64_255, dn_bd_s, dn_bd_s]
  by_cases q : ab_in a1.toInt (0 : Nat) (255 : Nat) = true
  · rw [if_pos q, if_pos q, h2, h3]
    by_cases hn : n = 200
    · rw [if_neg (show ¬ nI n < 200 from nI_nlt (a := n) (b := 200) (by omega) (by omega)), if_pos (by rw [hn]; rfl)]
      exact ⟨_, s, t, rfl, rfl, hR⟩
    · rw [if_pos (show nI n < 200 from nI_lt (a := n) (b := 200) (by omega) (by omega)), if_neg (show ¬ nI n = 200 from fun z => hn ((nI_eq (a := n) (b := 200) (by omega) (by omega)).mp z))]
      try simp (disch := omega) only [dn_p_same, dn_p_k, dn_p_j, dn_bd_s, dn_wr_e, dn_lt_e, dn_ck_t, cq_ib, nI_clamp, cq_put_nI, cq_at_nI, h2, h3]
      have f1 : fr (fun a _ => a = 1 ∨ a = 2) s (dn_p (dn_p s 2 n a1) 1 1 (nI n + 1)) := fr_trans (fr_p (Or.inr rfl)) (fr_p (Or.inl rfl))
      have g1 : fr (fun a j => (a = 100 ∧ j = 17) ∨ a = 110) t (dn_p (dn_p t 110 n a1) 100 17 (nI n + 1)) := fr_trans (fr_p (Or.inr rfl)) (fr_p (Or.inl ⟨rfl, rfl⟩))
      refine ⟨_, _, _, rfl, rfl, hR.small f1 g1 (fun a j r => by rcases r with r | r <;> unfold PS <;> omega) (fun a j r => by unfold PSr; omega) ⟨n + 1, by omega, ?_, ?_, fun i hi => ?_⟩ (hR.xf.fr f1 g1 (fun a j r => by omega) (fun a j r => by omega)) (hR.xp.fr f1 g1 (fun a j r => by omega) (fun a j r => by omega))⟩
      · rw [dn_p_same, nI_1]
      · rw [dn_p_same, nI_1]
      · by_cases e : i = n
        · subst e; try simp (disch := omega) only [dn_p_same, dn_p_k, dn_p_j, dn_bd_s, dn_wr_e, dn_lt_e, dn_ck_t, cq_ib, nI_clamp, cq_put_nI, cq_at_nI, Nat.le_refl]
        · try simp (disch := omega) only [dn_p_same, dn_p_k, dn_p_j, dn_bd_s, dn_wr_e, dn_lt_e, dn_ck_t, cq_ib, nI_clamp, cq_put_nI, cq_at_nI, Nat.le_refl]
          exact h4 i (by omega)
  · rw [if_neg q, if_neg q]
    exact ⟨_, s, t, rfl, rfl, hR⟩
theorem ok_clear : Ok Int32 m_X11_clear m_X12_clear := by
  intro s t hR
  obtain ⟨n, h1, h2, h3, h4⟩ := hR.xt
  unfold m_X11_clear m_X12_clear m_X9_empty
  simp only [dn_lt_e, dn_wr_e, dn_bd_s]
  rw [h2, h3]
  have f1 : fr (fun a _ => a = 1) s (dn_p s 1 1 0) := fr_p rfl
  have g1 : fr (fun a j => a = 100 ∧ j = 17) t (dn_p t 100 17 0) := fr_p ⟨rfl, rfl⟩
  exact ⟨_, _, _, rfl, rfl, hR.small f1 g1 (fun a j r => Or.inl r) (fun a j r => by unfold PSr; omega) ⟨0, by omega, dn_p_same _ _ _ _, dn_p_same _ _ _ _, fun i hi => by omega⟩ (hR.xf.fr f1 g1 (fun a j r => by omega) (fun a j r => by omega)) (hR.xp.fr f1 g1 (fun a j r => by omega) (fun a j r => by omega))⟩
theorem ok_found (a1 a2 : Int32) : Ok Int32 (m_X11_found a1 a2) (m_X12_found a1 a2) := by
  intro s t hR
  obtain ⟨n, h1, h2, h3, h4⟩ := hR.xf
  unfold m_X11_found m_X12_found m_X2_add m_X11_isNameOrNone
  rw [cq_within, rq_in, rq_i64, i32_1, i32_8, i64_1, i64_8, dn_bd_s, dn_bd_s]
  by_cases q : ab_in a1.toInt (1 : Nat) (8 : Nat) = true
  · rw [if_pos q, if_pos q, cq_within, rq_in, rq_i64, i32_m1, i32_4, i64_m1, i64_4, dn_bd_s, dn_bd_s, dn_bd_s]
    by_cases q2 : ab_in a2.toInt (-1) (4 : Nat) = true
    · rw [if_pos q2, if_pos q2, h2, h3]
      by_cases hn : n = 5
      · rw [if_neg (show ¬ nI n < 5 from nI_nlt (a := n) (b := 5) (by omega) (by omega)), if_pos (by rw [hn]; rfl)]
        exact ⟨_, s, t, rfl, rfl, hR⟩
      · rw [if_pos (show nI n < 5 from nI_lt (a := n) (b := 5) (by omega) (by omega)), if_neg (show ¬ nI n = 5 from fun z => hn ((nI_eq (a := n) (b := 5) (by omega) (by omega)).mp z)), cq_put_nI (by omega) (by omega)]
        simp only [dn_bd_s, dn_wr_e]
        rw [dn_p_k _ _ _ _ _ _ (by decide), h2]
        try simp (disch := omega) only [dn_p_same, dn_p_k, dn_p_j, dn_bd_s, dn_wr_e, dn_lt_e, dn_ck_t, cq_ib, nI_clamp, cq_put_nI, cq_at_nI, h2, h3]
        have f1 : fr (fun a _ => a = 23 ∨ a = 28 ∨ a = 29) s (dn_p (dn_p (dn_p s 28 n a1) 29 n a2) 23 5 (nI n + 1)) := fr_trans (fr_trans (fr_p (Or.inr (Or.inl rfl))) (fr_p (Or.inr (Or.inr rfl)))) (fr_p (Or.inl rfl))
        have g1 : fr (fun a j => (a = 100 ∧ j = 10) ∨ a = 107 ∨ a = 108) t (dn_p (dn_p (dn_p t 107 n a1) 108 n a2) 100 10 (nI n + 1)) := fr_trans (fr_trans (fr_p (Or.inr (Or.inl rfl))) (fr_p (Or.inr (Or.inr rfl)))) (fr_p (Or.inl ⟨rfl, rfl⟩))
        refine ⟨_, _, _, rfl, rfl, hR.small f1 g1 (fun a j r => by unfold PS; omega) (fun a j r => by unfold PSr; omega) (hR.xt.fr f1 g1 (fun a j r => by omega) (fun a j r => by omega)) ⟨n + 1, by omega, ?_, ?_, fun i hi => ?_⟩ (hR.xp.fr f1 g1 (fun a j r => by omega) (fun a j r => by omega))⟩
        · rw [dn_p_same, nI_1]
        · rw [dn_p_same, nI_1]
        · by_cases e : i = n
          · subst e
            exact ⟨by rw [dn_p_k _ _ _ _ _ _ (by decide), dn_p_k _ _ _ _ _ _ (by decide), dn_p_same, dn_p_k _ _ _ _ _ _ (by decide), dn_p_k _ _ _ _ _ _ (by decide), dn_p_same], by rw [dn_p_k _ _ _ _ _ _ (by decide), dn_p_same, dn_p_k _ _ _ _ _ _ (by decide), dn_p_same]⟩
          · exact ⟨by rw [dn_p_k _ _ _ _ _ _ (by decide), dn_p_k _ _ _ _ _ _ (by decide), dn_p_j _ _ _ _ _ _ e, dn_p_k _ _ _ _ _ _ (by decide), dn_p_k _ _ _ _ _ _ (by decide), dn_p_j _ _ _ _ _ _ e]; exact (h4 i (by omega)).1,
              by rw [dn_p_k _ _ _ _ _ _ (by decide), dn_p_j _ _ _ _ _ _ e, dn_p_k _ _ _ _ _ _ (by decide), dn_p_k _ _ _ _ _ _ (by decide), dn_p_j _ _ _ _ _ _ e, dn_p_k _ _ _ _ _ _ (by decide)]; exact (h4 i (by omega)).2⟩
    · rw [if_neg q2, if_neg q2]
      exact ⟨_, s, t, rfl, rfl, hR⟩
  · rw [if_neg q, if_neg q]
    exact ⟨_, s, t, rfl, rfl, hR⟩
theorem ok_forget : Ok Int32 m_X11_forget m_X12_forget := by
  intro s t hR
  obtain ⟨n, h1, h2, h3, h4⟩ := hR.xf
  unfold m_X11_forget m_X12_forget m_X2_empty
  simp only [dn_lt_e, dn_wr_e, dn_bd_s]
  rw [h2, h3]
  have f1 : fr (fun a _ => a = 23) s (dn_p s 23 5 0) := fr_p rfl
  have g1 : fr (fun a j => a = 100 ∧ j = 10) t (dn_p t 100 10 0) := fr_p ⟨rfl, rfl⟩
  exact ⟨_, _, _, rfl, rfl, hR.small f1 g1 (fun a j r => by unfold PS; omega) (fun a j r => by unfold PSr; omega) (hR.xt.fr f1 g1 (fun a j r => by omega) (fun a j r => by omega)) ⟨0, by omega, dn_p_same _ _ _ _, dn_p_same _ _ _ _, fun i hi => by omega⟩ (hR.xp.fr f1 g1 (fun a j r => by omega) (fun a j r => by omega))⟩
theorem ok_plan (a1 : Int32) : Ok Int32 (m_X11_plan a1) (m_X12_plan a1) := by
  intro s t hR
  obtain ⟨n, h1, h2, h3, h4⟩ := hR.xp
  unfold m_X11_plan m_X12_plan m_X0_add m_X11_isNameOrNone
  rw [cq_within, rq_in, rq_i64, i32_m1, i32_4, i64_m1, i64_4, dn_bd_s, dn_bd_s, dn_bd_s]
  by_cases q : ab_in a1.toInt (-1) (4 : Nat) = true
  · rw [if_pos q, if_pos q, h2, h3]
    by_cases hn : n = 8
    · rw [if_neg (show ¬ nI n < 8 from nI_nlt (a := n) (b := 8) (by omega) (by omega)), if_pos (by rw [hn]; rfl)]
      exact ⟨_, s, t, rfl, rfl, hR⟩
    · rw [if_pos (show nI n < 8 from nI_lt (a := n) (b := 8) (by omega) (by omega)), if_neg (show ¬ nI n = 8 from fun z => hn ((nI_eq (a := n) (b := 8) (by omega) (by omega)).mp z))]
      try simp (disch := omega) only [dn_p_same, dn_p_k, dn_p_j, dn_bd_s, dn_wr_e, dn_lt_e, dn_ck_t, cq_ib, nI_clamp, cq_put_nI, cq_at_nI, h2, h3]
      have f1 : fr (fun a _ => a = 30 ∨ a = 35) s (dn_p (dn_p s 35 n a1) 30 3 (nI n + 1)) := fr_trans (fr_p (Or.inr rfl)) (fr_p (Or.inl rfl))
      have g1 : fr (fun a j => (a = 100 ∧ j = 13) ∨ a = 109) t (dn_p (dn_p t 109 n a1) 100 13 (nI n + 1)) := fr_trans (fr_p (Or.inr rfl)) (fr_p (Or.inl ⟨rfl, rfl⟩))
      refine ⟨_, _, _, rfl, rfl, hR.small f1 g1 (fun a j r => by unfold PS; omega) (fun a j r => by unfold PSr; omega) (hR.xt.fr f1 g1 (fun a j r => by omega) (fun a j r => by omega)) (hR.xf.fr f1 g1 (fun a j r => by omega) (fun a j r => by omega)) ⟨n + 1, by omega, ?_, ?_, fun i hi => ?_⟩⟩
      · rw [dn_p_same, nI_1]
      · rw [dn_p_same, nI_1]
      · by_cases e : i = n
        · subst e; try simp (disch := omega) only [dn_p_same, dn_p_k, dn_p_j, dn_bd_s, dn_wr_e, dn_lt_e, dn_ck_t, cq_ib, nI_clamp, cq_put_nI, cq_at_nI, Nat.le_refl]
        · try simp (disch := omega) only [dn_p_same, dn_p_k, dn_p_j, dn_bd_s, dn_wr_e, dn_lt_e, dn_ck_t, cq_ib, nI_clamp, cq_put_nI, cq_at_nI, Nat.le_refl]
          exact h4 i (by omega)
  · rw [if_neg q, if_neg q]
    exact ⟨_, s, t, rfl, rfl, hR⟩
theorem ok_unplan : Ok Int32 m_X11_unplan m_X12_unplan := by
  intro s t hR
  obtain ⟨n, h1, h2, h3, h4⟩ := hR.xp
  unfold m_X11_unplan m_X12_unplan m_X0_empty
  simp only [dn_lt_e, dn_wr_e, dn_bd_s]
  rw [h2, h3]
  have f1 : fr (fun a _ => a = 30) s (dn_p s 30 3 0) := fr_p rfl
  have g1 : fr (fun a j => a = 100 ∧ j = 13) t (dn_p t 100 13 0) := fr_p ⟨rfl, rfl⟩
  exact ⟨_, _, _, rfl, rfl, hR.small f1 g1 (fun a j r => by unfold PS; omega) (fun a j r => by unfold PSr; omega) (hR.xt.fr f1 g1 (fun a j r => by omega) (fun a j r => by omega)) (hR.xf.fr f1 g1 (fun a j r => by omega) (fun a j r => by omega)) ⟨0, by omega, dn_p_same _ _ _ _, dn_p_same _ _ _ _, fun i hi => by omega⟩⟩
