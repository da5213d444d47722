/-! the text: blanks, digits, tokens on both sides -/
def TXc (s : dn_S) (N : Nat) (L : Nat → Int32) : Prop := dn_g s 1 1 = nI N ∧ ∀ i, i < N → dn_g s 2 i = L i
def TXr (t : dn_S) (N : Nat) (L : Nat → Int32) : Prop := dn_g t 100 17 = nI N ∧ ∀ i, i < N → dn_g t 110 i = L i
theorem txc_fr {P : Nat → Nat → Prop} {s s' : dn_S} {N : Nat} {L : Nat → Int32} (h : TXc s N L) (hf : fr P s s') (hP : ∀ a j, P a j → a ≠ 1 ∧ a ≠ 2) : TXc s' N L :=
  ⟨(hf.1 _ _ (fun q => (hP _ _ q).1 rfl)).trans h.1, fun i hi => (hf.1 _ _ (fun q => (hP _ _ q).2 rfl)).trans (h.2 i hi)⟩
theorem txr_fr {P : Nat → Nat → Prop} {t t' : dn_S} {N : Nat} {L : Nat → Int32} (h : TXr t N L) (hf : fr P t t') (hP : ∀ a j, P a j → a ≠ 110 ∧ (a ≠ 100 ∨ j ≠ 17)) : TXr t' N L :=
  ⟨(hf.1 _ _ (fun q => by have := hP _ _ q; omega)).trans h.1, fun i hi => (hf.1 _ _ (fun q => (hP _ _ q).1 rfl)).trans (h.2 i hi)⟩
theorem cq_letter {s : dn_S} {N i : Nat} {L : Nat → Int32} (hN : N ≤ 200) (h : TXc s N L) (hi : i < N) : m_X9_letter (nI i) s = some (L i, s) := by
  unfold m_X9_letter
  rw [if_neg (show ¬ nI i < 0 from nI_nlt (b := 0) (by omega) (by omega)), if_neg (show ¬ 200 ≤ nI i from nI_nl (a := 200) (by omega) (by omega)), cq_ib (show i < 200 by omega) (by omega), dn_ck_t, nI_clamp (by omega), h.2 i hi]
def ab_lt (N : Nat) (L : Nat → Int32) (i : Nat) : Int32 := if i < N then L i else -1
theorem rq_letter {t : dn_S} {N i : Nat} {L : Nat → Int32} (hN : N ≤ 200) (h : TXr t N L) (hi : i < 1000) : m_X12_letterAt (nI i) t = some (ab_lt N L i, t) := by
  unfold m_X12_letterAt ab_lt
  rw [h.1]
  by_cases q : i < N
  · rw [if_neg (show ¬ nI N ≤ nI i from nI_nl (by omega) (by omega)), if_pos q, cq_ib (show i < 200 by omega) (by omega), dn_ck_t, nI_clamp (by omega), h.2 i q]
  · rw [if_pos (show nI N ≤ nI i from nI_le (by omega) (by omega)), if_neg q]
def ab_dgt (x : Int32) : Bool := ab_in x.toInt (48 : Nat) (57 : Nat)
theorem i32_48 : (48 : Int32).toInt = (48 : Nat) := by decide
theorem i32_57 : (57 : Int32).toInt = (57 : Nat) := by decide
theorem cq_isDigit (a : Int32) (s : dn_S) : m_X8_isDigit a s = some (ab_dgt a, s) := by
  unfold m_X8_isDigit ab_dgt
  by_cases h1 : a < 48
  · rw [if_pos h1]
    rw [Int32.lt_iff_toInt_lt, i32_48] at h1
    rw [show ab_in a.toInt (48 : Nat) (57 : Nat) = false from decide_eq_false (by omega)]
  · rw [if_neg h1]
    rw [Int32.lt_iff_toInt_lt, i32_48] at h1
    by_cases h2 : 57 < a
    · rw [if_pos h2]
      rw [Int32.lt_iff_toInt_lt, i32_57] at h2
      rw [show ab_in a.toInt (48 : Nat) (57 : Nat) = false from decide_eq_false (by omega)]
    · rw [if_neg h2]
      rw [Int32.lt_iff_toInt_lt, i32_57] at h2
      rw [show ab_in a.toInt (48 : Nat) (57 : Nat) = true from decide_eq_true (by omega)]
theorem rq_isDigit (a : Int32) (t : dn_S) : m_X12_in a.toInt64 48 57 t = some (ab_dgt a, t) := by
  rw [rq_in, rq_i64, i64_48, i64_57]; rfl
theorem dgt_m1 : ab_dgt (-1) = false := by decide
def ab_bl (L : Nat → Int32) : Nat → Nat → Nat
  | 0, p => p
  | c + 1, p => if L p = 32 then ab_bl L c (p + 1) else p
theorem bl_le (L : Nat → Int32) : ∀ c p, p ≤ ab_bl L c p ∧ ab_bl L c p ≤ p + c := by
  intro c
  induction c with
  | zero => intro p; exact ⟨Nat.le_refl _, Nat.le_refl _⟩
  | succ c ih =>
    intro p
    rw [ab_bl]
    have := ih (p + 1)
    by_cases q : L p = 32
    · rw [if_pos q]; omega
    · rw [if_neg q]; omega
theorem bl_ne (L : Nat → Int32) : ∀ c p, ab_bl L c p < p + c → L (ab_bl L c p) ≠ 32 := by
  intro c
  induction c with
  | zero => intro p h; rw [ab_bl] at h; omega
  | succ c ih =>
    intro p h
    rw [ab_bl] at h ⊢
    by_cases q : L p = 32
    · rw [if_pos q] at h ⊢; exact ih (p + 1) (by omega)
    · rw [if_neg q]; exact q
theorem bl_bl (L : Nat → Int32) (N p : Nat) (hp : p ≤ N) : ab_bl L (N - ab_bl L (N - p) p) (ab_bl L (N - p) p) = ab_bl L (N - p) p := by
  have h1 := bl_le L (N - p) p
  have h2 := bl_ne L (N - p) p
  generalize ab_bl L (N - p) p = p' at h1 h2 ⊢
  by_cases q : p' < N
  · obtain ⟨c, hc⟩ : ∃ c, N - p' = c + 1 := ⟨N - p' - 1, by omega⟩
    rw [hc, ab_bl, if_neg (h2 (by omega))]
  · rw [show N - p' = 0 by omega]; rfl
theorem cq_bl {N : Nat} {L : Nat → Int32} (hN : N ≤ 200) : ∀ (c p fuel : Nat) (s : dn_S), p + c = N → c < fuel → TXc s N L → dn_g s 6 2 = nI p →
    ∃ s', m_X8_nextToken_0 fuel s = m_X8_nextToken_43 s' ∧ dn_g s' 6 2 = nI (ab_bl L c p) ∧ fr (fun a j => a = 6 ∧ j = 2) s s' := by
  intro c
  induction c with
  | zero =>
    intro p fuel s hp hf hT h2
    obtain ⟨f, rfl⟩ : ∃ n, fuel = n + 1 := ⟨fuel - 1, by omega⟩
    rw [m_X8_nextToken_0, hT.1, h2, if_pos (show nI N ≤ nI p from nI_le (by omega) (by omega))]
    exact ⟨s, rfl, h2, fr_refl⟩
  | succ c ih =>
    intro p fuel s hp hf hT h2
    obtain ⟨f, rfl⟩ : ∃ n, fuel = n + 1 := ⟨fuel - 1, by omega⟩
    rw [m_X8_nextToken_0, hT.1, h2, if_neg (show ¬ nI N ≤ nI p from nI_nl (by omega) (by omega)), cq_letter hN hT (by omega), dn_bd_s, ab_bl]
    by_cases q : L p = 32
    · rw [if_pos q, if_pos q, dn_wr_e, h2, nl_1, nI_add]
      have f1 : fr (fun a j => a = 6 ∧ j = 2) s (dn_p s 6 2 (nI (p + 1))) := fr_p ⟨rfl, rfl⟩
      obtain ⟨s', e, z, f2⟩ := ih (p + 1) f _ (by omega) (by omega) (txc_fr hT f1 (fun a j q => by omega)) (dn_p_same _ _ _ _)
      exact ⟨s', e, z, fr_trans f1 f2⟩
    · rw [if_neg q, if_neg q]
      exact ⟨s, rfl, h2, fr_refl⟩
theorem rq_bl {N : Nat} {L : Nat → Int32} (hN : N ≤ 200) : ∀ (c p fuel : Nat) (t : dn_S), p + c = N → c < fuel → TXr t N L → dn_g t 100 18 = nI p →
    ∃ t', m_X12_blanks_0 fuel t = some ((), t') ∧ dn_g t' 100 18 = nI (ab_bl L c p) ∧ dn_g t' 100 19 = nI (ab_bl L c p) ∧ fr (fun a j => a = 100 ∧ (j = 18 ∨ j = 19)) t t' := by
  intro c
  induction c with
  | zero =>
    intro p fuel t hp hf hT h2
    obtain ⟨f, rfl⟩ : ∃ n, fuel = n + 1 := ⟨fuel - 1, by omega⟩
    rw [m_X12_blanks_0, h2, rq_letter hN hT (by omega), dn_bd_s, if_neg (show ¬ ab_lt N L p = 32 from by unfold ab_lt; rw [if_neg (by omega)]; decide), dn_wr_e, h2]
    exact ⟨_, rfl, by rw [dn_p_j _ _ _ _ _ _ (by decide)]; exact h2, dn_p_same _ _ _ _, fr_p ⟨rfl, Or.inr rfl⟩⟩
  | succ c ih =>
    intro p fuel t hp hf hT h2
    obtain ⟨f, rfl⟩ : ∃ n, fuel = n + 1 := ⟨fuel - 1, by omega⟩
    rw [m_X12_blanks_0, h2, rq_letter hN hT (by omega), dn_bd_s, show ab_lt N L p = L p from if_pos (by omega), ab_bl]
    by_cases q : L p = 32
    · rw [if_pos q, if_pos q, dn_wr_e, h2, nl_1, nI_add]
      have f1 : fr (fun a j => a = 100 ∧ (j = 18 ∨ j = 19)) t (dn_p t 100 18 (nI (p + 1))) := fr_p ⟨rfl, Or.inl rfl⟩
      obtain ⟨t', e, z, z2, f2⟩ := ih (p + 1) f _ (by omega) (by omega) (txr_fr hT f1 (fun a j q => by omega)) (dn_p_same _ _ _ _)
      exact ⟨t', e, z, z2, fr_trans f1 f2⟩
    · rw [if_neg q, if_neg q, dn_wr_e, h2]
      exact ⟨_, rfl, by rw [dn_p_j _ _ _ _ _ _ (by decide)]; exact h2, dn_p_same _ _ _ _, fr_p ⟨rfl, Or.inr rfl⟩⟩
def ab_dg (L : Nat → Int32) : Nat → Nat → Nat → Nat × Nat
  | 0, p, n => (p, n)
  | c + 1, p, n => if ab_dgt (L p) = true then ab_dg L c (p + 1) (min 100 (n * 10 + (L p).toNatClampNeg - 48)) else (p, n)
theorem dg_le (L : Nat → Int32) : ∀ c p n, p ≤ (ab_dg L c p n).1 ∧ (ab_dg L c p n).1 ≤ p + c ∧ (n ≤ 100 → (ab_dg L c p n).2 ≤ 100) := by
  intro c
  induction c with
  | zero => intro p n; exact ⟨Nat.le_refl _, Nat.le_refl _, fun h => h⟩
  | succ c ih =>
    intro p n
    rw [ab_dg]
    by_cases q : ab_dgt (L p) = true
    · rw [if_pos q]
      have := ih (p + 1) (min 100 (n * 10 + (L p).toNatClampNeg - 48))
      exact ⟨by omega, by omega, fun _ => this.2.2 (Nat.min_le_left _ _)⟩
    · rw [if_neg q]; exact ⟨Nat.le_refl _, by omega, fun h => h⟩
theorem dg_s {x : Int32} (h : ab_dgt x = true) : ∃ l : Nat, 48 ≤ l ∧ l ≤ 57 ∧ x = nI l := in_split h
theorem dn_mn_nI2 {a b : Nat} (ha : a < 2 ^ 31) (hb : b < 2 ^ 31) : dn_mn (nI a) (nI b) = nI (min a b) := by
  unfold dn_mn
  by_cases q : nI b < nI a
  · rw [if_pos q]; rw [nI_ltI (by omega) (by omega)] at q; rw [Nat.min_eq_right (by omega)]
  · rw [if_neg q]; rw [nI_ltI (by omega) (by omega)] at q; rw [Nat.min_eq_left (by omega)]
theorem cq_dg {N : Nat} {L : Nat → Int32} (hN : N ≤ 200) : ∀ (c p n fuel : Nat) (s : dn_S), p + c = N → c < fuel → n ≤ 100 → TXc s N L → dn_g s 6 2 = nI p → dn_g s 6 5 = nI n →
    ∃ s', m_X8_takeNumber_5 fuel s = m_X8_takeNumber_80 s' ∧ dn_g s' 6 2 = nI (ab_dg L c p n).1 ∧ dn_g s' 6 5 = nI (ab_dg L c p n).2 ∧ fr (fun a j => a = 6 ∧ (j = 2 ∨ j = 5)) s s' := by
  intro c
  induction c with
  | zero =>
    intro p n fuel s hp hf hn hT h2 h5
    obtain ⟨f, rfl⟩ : ∃ n, fuel = n + 1 := ⟨fuel - 1, by omega⟩
    rw [m_X8_takeNumber_5, hT.1, h2, if_pos (show nI N ≤ nI p from nI_le (by omega) (by omega))]
    exact ⟨s, rfl, h2, h5, fr_refl⟩
  | succ c ih =>
    intro p n fuel s hp hf hn hT h2 h5
    obtain ⟨f, rfl⟩ : ∃ n, fuel = n + 1 := ⟨fuel - 1, by omega⟩
    rw [m_X8_takeNumber_5, hT.1, h2, if_neg (show ¬ nI N ≤ nI p from nI_nl (by omega) (by omega)), cq_letter hN hT (by omega), dn_bd_s, cq_isDigit, dn_bd_s, ab_dg]
    by_cases q : ab_dgt (L p) = true
    · obtain ⟨l, hl1, hl2, hl⟩ := dg_s q
      rw [if_pos q, if_pos q, h2, cq_letter hN hT (by omega), dn_bd_s, dn_wr_e, dn_wr_e, h5, hl, nI_clamp (by omega), show nI n * (10 : Int32) + nI l - 48 = nI (n * 10 + l - 48) from by rw [nl_10, nl_48, nI_mul, nI_add, nI_sub (by omega)], nl_100, dn_mn_nI2 (by omega) (by omega)]
      have f1 : fr (fun a j => a = 6 ∧ (j = 2 ∨ j = 5)) s (dn_p s 6 5 (nI (min 100 (n * 10 + l - 48)))) := fr_p ⟨rfl, Or.inr rfl⟩
      have h2a : dn_g (dn_p s 6 5 (nI (min 100 (n * 10 + l - 48)))) 6 2 = nI p := by rw [dn_p_j _ _ _ _ _ _ (by decide)]; exact h2
      rw [h2a, nl_1, nI_add]
      have f2 : fr (fun a j => a = 6 ∧ (j = 2 ∨ j = 5)) (dn_p s 6 5 (nI (min 100 (n * 10 + l - 48)))) (dn_p (dn_p s 6 5 (nI (min 100 (n * 10 + l - 48)))) 6 2 (nI (p + 1))) := fr_p ⟨rfl, Or.inl rfl⟩
      obtain ⟨s3, e3, z3, z4, f3⟩ := ih (p + 1) (min 100 (n * 10 + l - 48)) f _ (by omega) (by omega) (Nat.min_le_left _ _) (txc_fr (txc_fr hT f1 (fun a j q => by omega)) f2 (fun a j q => by omega)) (dn_p_same _ _ _ _) (by rw [dn_p_j _ _ _ _ _ _ (by decide), dn_p_same])
      exact ⟨s3, e3, z3, z4, fr_trans f1 (fr_trans f2 f3)⟩
    · rw [if_neg q, if_neg q]
      exact ⟨s, rfl, h2, h5, fr_refl⟩
