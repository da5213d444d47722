/-! the class and the reference beside one another; what only asks -/
def WO (o : Int32 × Int32) : Prop := o = (-9, 0) ∨ ∃ n v : Nat, n < 5 ∧ 1 ≤ v ∧ v ≤ 40 ∧ o = (nI n, nI v)
def XM (τ : Tv) (s : dn_S) (k : Nat) (t : dn_S) (h : Nat) : Prop := ∃ (m : Mv) (o : Int32 × Int32), CM s k τ m ∧ RM t h τ m ∧ CO s k o ∧ RO t h o ∧ mv_d m ≤ 60 ∧ (∃ q : Nat, q ≤ 99 ∧ mv_k m = nI q) ∧ WO o
def XT (s t : dn_S) : Prop := ∃ n : Nat, n ≤ 200 ∧ dn_g s 1 1 = nI n ∧ dn_g t 100 17 = nI n ∧ ∀ i, i < n → dn_g s 2 i = dn_g t 110 i
def XF (s t : dn_S) : Prop := ∃ n : Nat, n ≤ 5 ∧ dn_g s 23 5 = nI n ∧ dn_g t 100 10 = nI n ∧ ∀ i, i < n → dn_g s 28 i = dn_g t 107 i ∧ dn_g s 29 i = dn_g t 108 i
def XP (s t : dn_S) : Prop := ∃ n : Nat, n ≤ 8 ∧ dn_g s 30 3 = nI n ∧ dn_g t 100 13 = nI n ∧ ∀ i, i < n → dn_g s 35 i = dn_g t 109 i
def XU (τ : Tv) (s t : dn_S) : Prop := ∃ x n : Nat, x < 10 ∧ n ≤ 10 ∧ dn_g s 36 3 = nI x ∧ dn_g s 36 4 = nI n ∧ dn_g t 100 1 = nI n ∧ ∀ i, i < n → XM τ s (40 + 4 * ((x + 10 - n + i) % 10)) t (480 + 120 * i)
def XI (τ : Tv) (s t : dn_S) : Prop := ∀ i, i < 2 → (dn_g s 39 i = 0 ∧ dn_g t 102 i = 0) ∨ (dn_g s 39 i = 1 ∧ dn_g t 102 i = 1 ∧ XM τ s (80 + 4 * i) t (240 + 120 * i))
def Rel (s t : dn_S) : Prop := ∃ τ, WT τ ∧ CT s 3 τ ∧ RT t τ ∧ XM τ s 10 t 0 ∧ XT s t ∧ XF s t ∧ XP s t ∧ XU τ s t ∧ XI τ s t ∧ dn_l s = dn_l t
def SC (a _ : Nat) : Prop := (6 ≤ a ∧ a ≤ 9) ∨ a = 14 ∨ a = 16 ∨ a = 17 ∨ (19 ≤ a ∧ a ≤ 22) ∨ (24 ≤ a ∧ a ≤ 27) ∨ (31 ≤ a ∧ a ≤ 34)
def SR (a j : Nat) : Prop := (a = 100 ∧ 18 ≤ j ∧ j ≤ 34) ∨ (111 ≤ a ∧ a ≤ 116) ∨ (a = 101 ∧ 120 ≤ j ∧ j < 240)
theorem XM.fr {P Q : Nat → Nat → Prop} {τ : Tv} {s s' t t' : dn_S} {k h : Nat} (h4 : tv_b τ ≤ 4) (hX : XM τ s k t h) (hf : fr P s s') (hg : fr Q t t') (hP : ∀ a j, P a j → a < k ∨ k + 3 < a) (hQ : ∀ a j, Q a j → a ≠ 101 ∨ j < h ∨ h + 120 ≤ j) : XM τ s' k t' h := by
  obtain ⟨m, o, h1, h2, h3, h5, h6, h7, h8⟩ := hX
  exact ⟨m, o, h1.fr hf hP, h2.fr hg (by omega) h4 hQ, h3.fr hf (fun a j q => by have := hP a j q; omega), h5.fr hg hQ, h6, h7, h8⟩
theorem Rel.scr {s s' t t' : dn_S} (hR : Rel s t) (hf : fr SC s s') (hg : fr SR t t') : Rel s' t' := by
  obtain ⟨τ, hW, hT, hU, hM, ⟨n1, a1, a2, a3, a4⟩, ⟨n2, b1, b2, b3, b4⟩, ⟨n3, c1, c2, c3, c4⟩, ⟨x, n4, d0, d1, d2, d3, d4, d5⟩, hI, hl⟩ := hR
  have ec : ∀ a j, (a < 6 ∨ (9 < a ∧ a < 14) ∨ a = 23 ∨ (27 < a ∧ a < 31) ∨ 34 < a) → dn_g s' a j = dn_g s a j := fun a j q => hf.1 a j (fun r => by unfold SC at r; omega)
  have er : ∀ a j, a ≠ 101 → a < 111 → (a = 100 → j < 18) → dn_g t' a j = dn_g t a j := fun a j q1 q2 q3 => hg.1 a j (fun r => by unfold SR at r; omega)
  have hP : ∀ k, (k = 10 ∨ 40 ≤ k) → ∀ a j, SC a j → a < k ∨ k + 3 < a := fun k hk a j r => by unfold SC at r; omega
  have hQ : ∀ h, (h = 0 ∨ 240 ≤ h) → ∀ a j, SR a j → a ≠ 101 ∨ j < h ∨ h + 120 ≤ j := fun h hh a j r => by unfold SR at r; omega
  refine ⟨τ, hW, hT.fr hf (fun a j r => by unfold SC at r; omega), hU.fr hg (fun a j r => by unfold SR at r; omega), hM.fr hW.1 hf hg (hP 10 (by omega)) (hQ 0 (by omega)),
    ⟨n1, a1, by rw [ec _ _ (by omega)]; exact a2, by rw [er _ _ (by omega) (by omega) (by omega)]; exact a3, fun i hi => by rw [ec _ _ (by omega), er _ _ (by omega) (by omega) (by omega)]; exact a4 i hi⟩,
    ⟨n2, b1, by rw [ec _ _ (by omega)]; exact b2, by rw [er _ _ (by omega) (by omega) (by omega)]; exact b3, fun i hi => ⟨by rw [ec _ _ (by omega), er _ _ (by omega) (by omega) (by omega)]; exact (b4 i hi).1, by rw [ec _ _ (by omega), er _ _ (by omega) (by omega) (by omega)]; exact (b4 i hi).2⟩⟩,
    ⟨n3, c1, by rw [ec _ _ (by omega)]; exact c2, by rw [er _ _ (by omega) (by omega) (by omega)]; exact c3, fun i hi => by rw [ec _ _ (by omega), er _ _ (by omega) (by omega) (by omega)]; exact c4 i hi⟩,
    ⟨x, n4, d0, d1, by rw [ec _ _ (by omega)]; exact d2, by rw [ec _ _ (by omega)]; exact d3, by rw [er _ _ (by omega) (by omega) (by omega)]; exact d4, fun i hi => (d5 i hi).fr hW.1 hf hg (hP _ (by omega)) (hQ _ (by omega))⟩,
    fun i hi => ?_, by rw [hf.2, hg.2]; exact hl⟩
  rcases hI i hi with ⟨q1, q2⟩ | ⟨q1, q2, q3⟩
  · exact Or.inl ⟨by rw [ec _ _ (by omega)]; exact q1, by rw [er _ _ (by omega) (by omega) (by omega)]; exact q2⟩
  · exact Or.inr ⟨by rw [ec _ _ (by omega)]; exact q1, by rw [er _ _ (by omega) (by omega) (by omega)]; exact q2, q3.fr hW.1 hf hg (hP _ (by omega)) (hQ _ (by omega))⟩
def Ok (α : Type) (mc mr : dn_S → Option (α × dn_S)) : Prop := ∀ s t, Rel s t → ∃ r s' t', mc s = some (r, s') ∧ mr t = some (r, t') ∧ Rel s' t'
theorem in_split {a : Int32} {lo hi : Nat} (h : ab_in a.toInt lo hi = true) : ∃ j : Nat, lo ≤ j ∧ j ≤ hi ∧ a = nI j := by
  have h1 := of_decide_eq_true h
  obtain ⟨j, hj, rfl⟩ := nI_of (x := a) (fun q => by rw [Int32.lt_iff_toInt_lt] at q; have : (0 : Int32).toInt = 0 := rfl; omega)
  rw [nI_toInt hj] at h1
  exact ⟨j, by omega, by omega, rfl⟩
theorem i64_0 : (0 : Int64).toInt = (0 : Nat) := by decide
theorem i64_1 : (1 : Int64).toInt = (1 : Nat) := by decide
theorem i64_2 : (2 : Int64).toInt = (2 : Nat) := by decide
theorem i64_3 : (3 : Int64).toInt = (3 : Nat) := by decide
theorem i64_4 : (4 : Int64).toInt = (4 : Nat) := by decide
theorem i64_5 : (5 : Int64).toInt = (5 : Nat) := by decide
theorem i64_6 : (6 : Int64).toInt = (6 : Nat) := by decide
theorem i64_8 : (8 : Int64).toInt = (8 : Nat) := by decide
theorem i64_10 : (10 : Int64).toInt = (10 : Nat) := by decide
theorem i64_20 : (20 : Int64).toInt = (20 : Nat) := by decide
theorem i64_40 : (40 : Int64).toInt = (40 : Nat) := by decide
theorem i64_48 : (48 : Int64).toInt = (48 : Nat) := by decide
theorem i64_57 : (57 : Int64).toInt = (57 : Nat) := by decide
theorem i64_255 : (255 : Int64).toInt = (255 : Nat) := by decide
theorem i64_m1 : (-1 : Int64).toInt = -1 := by decide
theorem i32_0 : (0 : Int32).toInt = (0 : Nat) := by decide
theorem i32_1 : (1 : Int32).toInt = (1 : Nat) := by decide
theorem i32_2 : (2 : Int32).toInt = (2 : Nat) := by decide
theorem i32_4 : (4 : Int32).toInt = (4 : Nat) := by decide
theorem i32_5 : (5 : Int32).toInt = (5 : Nat) := by decide
theorem i32_6 : (6 : Int32).toInt = (6 : Nat) := by decide
theorem i32_7 : (7 : Int32).toInt = (7 : Nat) := by decide
theorem i32_8 : (8 : Int32).toInt = (8 : Nat) := by decide
theorem i32_9 : (9 : Int32).toInt = (9 : Nat) := by decide
theorem i32_10 : (10 : Int32).toInt = (10 : Nat) := by decide
theorem i32_20 : (20 : Int32).toInt = (20 : Nat) := by decide
theorem i32_40 : (40 : Int32).toInt = (40 : Nat) := by decide
theorem i32_99 : (99 : Int32).toInt = (99 : Nat) := by decide
theorem i32_255 : (255 : Int32).toInt = (255 : Nat) := by decide
theorem i32_m1 : (-1 : Int32).toInt = -1 := by decide
theorem nI_m1 {n : Nat} (h : n ≤ 1000) : (nI n - 1).toInt = (n : Int) - 1 := by
  cases n with
  | zero => decide
  | succ n => rw [nI_pred, nI_toInt (by omega)]; omega
theorem cq_isBidder {s : dn_S} {τ : Tv} (a : Int32) (hW : WT τ) (hT : CT s 3 τ) : m_X11_isBidder a s = some (ab_in a.toInt (0 : Nat) ((tv_b τ : Int) - 1), s) := by
  unfold m_X11_isBidder
  rw [hT.1, cq_within, dn_bd_s, i32_0, nI_m1 (by have := hW.1; omega)]
theorem cq_isDebt {s : dn_S} {τ : Tv} (a : Int32) (hW : WT τ) (hT : CT s 3 τ) : m_X11_isDebt a s = some (ab_in a.toInt (0 : Nat) ((tv_d τ : Int) - 1), s) := by
  unfold m_X11_isDebt
  rw [hT.2.1, cq_within, dn_bd_s, i32_0, nI_m1 (by have := hW.2.1; omega)]
theorem rq_isBidder {t : dn_S} {τ : Tv} (a : Int32) (hW : WT τ) (hT : RT t τ) : m_X12_isBidder a t = some (ab_in a.toInt (0 : Nat) ((tv_b τ : Int) - 1), t) := by
  unfold m_X12_isBidder
  rw [hT.1, rq_in, dn_bd_s, rq_i64, rq_i64, i64_0, nI_m1 (by have := hW.1; omega)]
theorem rq_isDebt {t : dn_S} {τ : Tv} (a : Int32) (hW : WT τ) (hT : RT t τ) : m_X12_isDebt a t = some (ab_in a.toInt (0 : Nat) ((tv_d τ : Int) - 1), t) := by
  unfold m_X12_isDebt
  rw [hT.2.1, rq_in, dn_bd_s, rq_i64, rq_i64, i64_0, nI_m1 (by have := hW.2.1; omega)]
theorem cq_isName (a : Int32) (s : dn_S) : m_X11_isName a s = some (ab_in a.toInt (0 : Nat) (4 : Nat), s) := by
  unfold m_X11_isName
  rw [cq_within, dn_bd_s, i32_0, i32_4]
theorem rq_isName (a : Int32) (t : dn_S) : m_X12_isName a t = some (ab_in a.toInt (0 : Nat) (4 : Nat), t) := by
  unfold m_X12_isName
  rw [rq_in, dn_bd_s, rq_i64, i64_0, i64_4]
theorem in_split1 {a : Int32} {n : Nat} (h : ab_in a.toInt (0 : Nat) ((n : Int) - 1) = true) : ∃ j : Nat, j < n ∧ a = nI j := by
  have h1 := of_decide_eq_true h
  obtain ⟨j, hj, rfl⟩ := nI_of (x := a) (fun q => by rw [Int32.lt_iff_toInt_lt] at q; have : (0 : Int32).toInt = 0 := rfl; omega)
  rw [nI_toInt hj] at h1
  exact ⟨j, by omega, rfl⟩
theorem ok_bidder (a1 a2 : Int32) : Ok Int32 (m_X11_bidder a1 a2) (m_X12_bidder a1 a2) := by
  intro s t hR
  obtain ⟨τ, hW, hT, hU, ⟨m, o, hM, hN, hrest⟩, hR2⟩ := id hR
  have h4 := hW.1
  unfold m_X11_bidder m_X12_bidder
  rw [cq_isBidder a1 hW hT, rq_isBidder a1 hW hU, dn_bd_s, dn_bd_s]
  by_cases h1 : ab_in a1.toInt (0 : Nat) ((tv_b τ : Int) - 1) = true
  · obtain ⟨b, hb, rfl⟩ := in_split1 h1
    rw [if_pos h1, if_pos h1, cq_within, rq_in, rq_i64, i32_0, i32_6, i64_0, i64_6, dn_bd_s, dn_bd_s]
    by_cases h2 : ab_in a2.toInt (0 : Nat) (6 : Nat) = true
    · obtain ⟨f, _, hf, rfl⟩ := in_split h2
      rw [if_pos h2, if_pos h2, cq_purse hM hb h4, cq_ofBidder hT hb h4 (by omega)]
      by_cases e0 : nI f = 0
      · rw [if_pos e0, if_pos e0]
        try simp (disch := omega) only [nl_0, nl_1, nl_2, nl_3, nl_4, nl_5, nl_6, nl_7, nl_8, nl_9, nl_10, nl_16, nl_17, nl_19, nl_20, nl_21, nl_30, nl_31, nl_32, nl_40, nl_41, nl_48, nl_50, nl_57, nl_60, nl_64, nl_99, nl_100, nl_119, nl_120, nl_121, nl_122, nl_123, nl_124, nl_125, nl_126, nl_130, nl_136, nl_200, nl_240, nl_255, nl_256, nl_257, nl_480, nl_1080, nI_add, nI_mul, nI_sub, cq_ib, nI_clamp, nI_leI, nI_ltI, nI_eq, dn_ck_t, dn_bd_s, dn_wr_e, dn_lt_e, cq_ofNat]
        have := hN.2.2.2.2.2.1 b hb
        rw [Nat.zero_add] at this
        rw [this]
        exact ⟨_, s, t, rfl, rfl, hR⟩
      · have hf0 : f ≠ 0 := fun q => e0 (by rw [q]; rfl)
        rw [if_neg e0, if_neg e0, dn_bd_s]
        by_cases e1 : nI f = 1
        · have hf1 : f = 1 := (nI_eq (by omega) (by omega)).mp e1
          subst hf1
          rw [if_pos e1, cq_ib (by omega) (by omega), dn_ck_t, nI_clamp (by omega), (hU.2.2.2.1 b hb).2.1]
          exact ⟨_, s, t, rfl, rfl, hR⟩
        · have hf1 : f ≠ 1 := fun q => e1 (by rw [q]; rfl)
          rw [if_neg e1]
          try simp (disch := omega) only [nl_0, nl_1, nl_2, nl_3, nl_4, nl_5, nl_6, nl_7, nl_8, nl_9, nl_10, nl_16, nl_17, nl_19, nl_20, nl_21, nl_30, nl_31, nl_32, nl_40, nl_41, nl_48, nl_50, nl_57, nl_60, nl_64, nl_99, nl_100, nl_119, nl_120, nl_121, nl_122, nl_123, nl_124, nl_125, nl_126, nl_130, nl_136, nl_200, nl_240, nl_255, nl_256, nl_257, nl_480, nl_1080, nI_add, nI_mul, nI_sub, cq_ib, nI_clamp, nI_leI, nI_ltI, nI_eq, dn_ck_t, dn_bd_s, dn_wr_e, dn_lt_e, cq_ofNat]
          have := (hU.2.2.2.1 b hb).2.2 (f - 2) (by omega)
          rw [show 5 * b + f - 2 = 5 * b + (f - 2) by omega, this, show f - 2 + 2 = f by omega]
          exact ⟨_, s, t, rfl, rfl, hR⟩
    · rw [if_neg h2, if_neg h2]
      exact ⟨_, s, t, rfl, rfl, hR⟩
  · rw [if_neg h1, if_neg h1]
    exact ⟨_, s, t, rfl, rfl, hR⟩
theorem ok_debt (a1 a2 : Int32) : Ok Int32 (m_X11_debt a1 a2) (m_X12_debt a1 a2) := by
  intro s t hR
  obtain ⟨τ, hW, hT, hU, ⟨m, o, hM, hN, hrest⟩, hR2⟩ := id hR
  have h6 := hW.2.1
  unfold m_X11_debt m_X12_debt
  rw [cq_isDebt a1 hW hT, rq_isDebt a1 hW hU, dn_bd_s, dn_bd_s]
  by_cases h1 : ab_in a1.toInt (0 : Nat) ((tv_d τ : Int) - 1) = true
  · obtain ⟨d, hd, rfl⟩ := in_split1 h1
    rw [if_pos h1, if_pos h1, cq_within, rq_in, rq_i64, i32_0, i32_5, i64_0, i64_5, dn_bd_s, dn_bd_s]
    by_cases h2 : ab_in a2.toInt (0 : Nat) (5 : Nat) = true
    · obtain ⟨f, _, hf, rfl⟩ := in_split h2
      rw [if_pos h2, if_pos h2]
      by_cases e0 : nI f = 5
      · have hf5 : f = 5 := (nI_eq (by omega) (by omega)).mp e0
        subst hf5
        rw [if_pos e0, cq_howIs (by omega), dn_bd_s, hM.2.2.2.2.2 d (by omega)]
        try simp (disch := omega) only [nl_0, nl_1, nl_2, nl_3, nl_4, nl_5, nl_6, nl_7, nl_8, nl_9, nl_10, nl_16, nl_17, nl_19, nl_20, nl_21, nl_30, nl_31, nl_32, nl_40, nl_41, nl_48, nl_50, nl_57, nl_60, nl_64, nl_99, nl_100, nl_119, nl_120, nl_121, nl_122, nl_123, nl_124, nl_125, nl_126, nl_130, nl_136, nl_200, nl_240, nl_255, nl_256, nl_257, nl_480, nl_1080, nI_add, nI_mul, nI_sub, cq_ib, nI_clamp, nI_leI, nI_ltI, nI_eq, dn_ck_t, dn_bd_s, dn_wr_e, dn_lt_e, cq_ofNat]
        have := hN.2.2.2.2.2.2 d (by omega)
        rw [Nat.zero_add] at this
        rw [if_pos (by omega), this]
        exact ⟨_, s, t, rfl, rfl, hR⟩
      · have hf5 : f ≠ 5 := fun q => e0 (by rw [q]; rfl)
        rw [if_neg e0, cq_ofDebt hT hd h6 (by omega), dn_bd_s]
        try simp (disch := omega) only [nl_0, nl_1, nl_2, nl_3, nl_4, nl_5, nl_6, nl_7, nl_8, nl_9, nl_10, nl_16, nl_17, nl_19, nl_20, nl_21, nl_30, nl_31, nl_32, nl_40, nl_41, nl_48, nl_50, nl_57, nl_60, nl_64, nl_99, nl_100, nl_119, nl_120, nl_121, nl_122, nl_123, nl_124, nl_125, nl_126, nl_130, nl_136, nl_200, nl_240, nl_255, nl_256, nl_257, nl_480, nl_1080, nI_add, nI_mul, nI_sub, cq_ib, nI_clamp, nI_leI, nI_ltI, nI_eq, dn_ck_t, dn_bd_s, dn_wr_e, dn_lt_e, cq_ofNat]
        rw [if_neg (by omega), hU.2.2.2.2 d hd f (by omega)]
        exact ⟨_, s, t, rfl, rfl, hR⟩
    · rw [if_neg h2, if_neg h2]
      exact ⟨_, s, t, rfl, rfl, hR⟩
  · rw [if_neg h1, if_neg h1]
    exact ⟨_, s, t, rfl, rfl, hR⟩
theorem ok_day (a1 : Int32) : Ok Int32 (m_X11_day a1) (m_X12_day a1) := by
  intro s t hR
  obtain ⟨τ, hW, hT, hU, ⟨m, o, hM, hN, -, -, hd, -⟩, hR2⟩ := id hR
  unfold m_X11_day m_X12_day
  have h00 : dn_g t 101 (0 : Int32).toNatClampNeg = nI (mv_d m) := hN.1
  rw [hM.1, h00, cq_within, rq_in, rq_i64, rq_i64, i32_1, i64_1, nI_toInt (by omega), dn_bd_s, dn_bd_s, show dn_ib 0 1680 = true from by decide, dn_ck_t]
  by_cases h1 : ab_in a1.toInt (1 : Nat) (mv_d m) = true
  · obtain ⟨i, hi1, hi2, rfl⟩ := in_split h1
    rw [if_pos h1, if_pos h1]
    unfold m_X3_nameOfDay
    try simp (disch := omega) only [nl_0, nl_1, nl_2, nl_3, nl_4, nl_5, nl_6, nl_7, nl_8, nl_9, nl_10, nl_16, nl_17, nl_19, nl_20, nl_21, nl_30, nl_31, nl_32, nl_40, nl_41, nl_48, nl_50, nl_57, nl_60, nl_64, nl_99, nl_100, nl_119, nl_120, nl_121, nl_122, nl_123, nl_124, nl_125, nl_126, nl_130, nl_136, nl_200, nl_240, nl_255, nl_256, nl_257, nl_480, nl_1080, nI_add, nI_mul, nI_sub, cq_ib, nI_clamp, nI_leI, nI_ltI, nI_eq, dn_ck_t, dn_bd_s, dn_wr_e, dn_lt_e, cq_ofNat, cq_at_nI]
    have h1 := hM.2.2.2.1 (i - 1) (by omega)
    have h2 := hN.2.2.2.2.1 (i - 1) (by omega)
    rw [show 0 + 16 + (i - 1) = 16 + i - 1 by omega] at h2
    rw [h1, h2]
    exact ⟨_, s, t, rfl, rfl, hR⟩
  · rw [if_neg h1, if_neg h1]
    exact ⟨_, s, t, rfl, rfl, hR⟩
