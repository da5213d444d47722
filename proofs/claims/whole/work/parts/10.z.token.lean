/-! tokens: numbers and ends, both sides beside one another -/
def rl_n (c r : Nat) : Prop := (c = r ∧ r ≤ 99) ∨ (c = 100 ∧ 99 < r ∧ r < 1000)
def rq_tail (lo hi : Int32) (t : dn_S) : Option (Bool × dn_S) := if dn_g t 100 18 = (dn_g t 100 19) + 1 then m_X12_takesNumber_119 lo hi t else (if dn_g t 100 18 ≤ dn_g t 100 19 then m_X12_takesNumber_123 lo hi t else dn_bd (m_X12_letterAt (dn_g t 100 19) t) fun r9 s7 => (if r9 = 48 then m_X12_takesNumber_123 lo hi s7 else m_X12_takesNumber_119 lo hi s7))
theorem rq_dg {N : Nat} {L : Nat → Int32} {lo hi : Int32} (hN : N ≤ 200) : ∀ (c p n r fuel : Nat) (t : dn_S), p + c = N → c < fuel → rl_n n r → TXr t N L → dn_g t 100 18 = nI p → dn_g t 100 20 = nI r →
    ∃ t' r', m_X12_takesNumber_9 fuel lo hi t = rq_tail lo hi t' ∧ dn_g t' 100 18 = nI (ab_dg L c p n).1 ∧ dn_g t' 100 20 = nI r' ∧ rl_n (ab_dg L c p n).2 r' ∧ fr (fun a j => a = 100 ∧ (j = 18 ∨ j = 20)) t t' := by
  intro c
  induction c with
  | zero =>
    intro p n r fuel t hp hf hn hT h2 h5
    obtain ⟨f, rfl⟩ : ∃ n, fuel = n + 1 := ⟨fuel - 1, by omega⟩
    rw [m_X12_takesNumber_9, h2, rq_letter hN hT (by omega), dn_bd_s, show ab_lt N L p = -1 from if_neg (by omega), rq_isDigit, dgt_m1, dn_bd_s, if_neg (by decide)]
    refine ⟨t, r, ?_, h2, h5, hn, fr_refl⟩
    unfold rq_tail
    rw [h2]
  | succ c ih =>
    intro p n r fuel t hp hf hn hT h2 h5
    obtain ⟨f, rfl⟩ : ∃ n, fuel = n + 1 := ⟨fuel - 1, by omega⟩
    rw [m_X12_takesNumber_9, h2, rq_letter hN hT (by omega), dn_bd_s, show ab_lt N L p = L p from if_pos (by omega), rq_isDigit, dn_bd_s, ab_dg]
    by_cases q : ab_dgt (L p) = true
    · obtain ⟨l, hl1, hl2, hl⟩ := dg_s q
      rw [if_pos q, if_pos q, h5]
      have step : ∀ r' : Nat, rl_n (min 100 (n * 10 + l - 48)) r' → ∃ t' r'', m_X12_takesNumber_66 (m_X12_takesNumber_9 f) lo hi (nI r') t = rq_tail lo hi t' ∧ dn_g t' 100 18 = nI (ab_dg L c (p + 1) (min 100 (n * 10 + l - 48))).1 ∧ dn_g t' 100 20 = nI r'' ∧ rl_n (ab_dg L c (p + 1) (min 100 (n * 10 + l - 48))).2 r'' ∧ fr (fun a j => a = 100 ∧ (j = 18 ∨ j = 20)) t t' := by
        intro r' hr'
        unfold m_X12_takesNumber_66
        have f1 : fr (fun a j => a = 100 ∧ (j = 18 ∨ j = 20)) t (dn_p t 100 20 (nI r')) := fr_p ⟨rfl, Or.inr rfl⟩
        have h2a : dn_g (dn_p t 100 20 (nI r')) 100 18 = nI p := by rw [dn_p_j _ _ _ _ _ _ (by decide)]; exact h2
        have f2 : fr (fun a j => a = 100 ∧ (j = 18 ∨ j = 20)) (dn_p t 100 20 (nI r')) (dn_p (dn_p t 100 20 (nI r')) 100 18 (nI (p + 1))) := fr_p ⟨rfl, Or.inl rfl⟩
        obtain ⟨t3, r3, e3, z3, z4, z5, f3⟩ := ih (p + 1) (min 100 (n * 10 + l - 48)) r' f _ (by omega) (by omega) hr' (txr_fr (txr_fr hT f1 (fun a j q => by omega)) f2 (fun a j q => by omega)) (dn_p_same _ _ _ _) (by rw [dn_p_j _ _ _ _ _ _ (by decide), dn_p_same])
        rw [dn_wr_e, dn_wr_e, h2a, nl_1, nI_add]
        exact ⟨t3, r3, e3, z3, z4, z5, fr_trans f1 (fr_trans f2 f3)⟩
      rw [hl, nI_clamp (by omega)]
      rcases hn with ⟨rfl, hr⟩ | ⟨rfl, hr, hr2⟩
      · rw [if_pos (show nI n ≤ 99 from nI_le (b := 99) (by omega) (by omega)), h2, rq_letter hN hT (by omega), dn_bd_s, show ab_lt N L p = L p from if_pos (by omega), hl, show (10 : Int32) * nI n + nI l - 48 = nI (10 * n + l - 48) from by rw [nl_10, nl_48, nI_mul, nI_add, nI_sub (by omega)]]
        refine step (10 * n + l - 48) ?_
        unfold rl_n
        omega
      · rw [if_neg (show ¬ nI r ≤ 99 from nI_nl (b := 99) (by omega) (by omega))]
        refine step r ?_
        unfold rl_n
        omega
    · rw [if_neg q, if_neg q]
      refine ⟨t, r, ?_, h2, h5, hn, fr_refl⟩
      unfold rq_tail
      rw [h2]
def PN (a j : Nat) : Prop := a = 6 ∧ 2 ≤ j ∧ j ≤ 5
def PNr (a j : Nat) : Prop := a = 100 ∧ 18 ≤ j ∧ j ≤ 20
def ab_p (N : Nat) (L : Nat → Int32) (p : Nat) : Nat := ab_bl L (N - p) p
def ab_q (N : Nat) (L : Nat → Int32) (p : Nat) : Nat × Nat := ab_dg L (N - p) p 0
def ab_bad (N : Nat) (L : Nat → Int32) (p : Nat) : Prop := (L p = 48 ∧ p + 1 < (ab_q N L p).1) ∨ 99 < (ab_q N L p).2
/-- the next token of the class -/
theorem cq_token {s : dn_S} {N p : Nat} {L : Nat → Int32} (hN : N ≤ 200) (hp : p ≤ N) (hT : TXc s N L) (h2 : dn_g s 6 2 = nI p) :
    ∃ s', m_X8_nextToken s = some ((), s') ∧ dn_g s' 6 3 = nI (ab_p N L p) ∧ fr PN s s' ∧
      ((ab_p N L p = N ∧ dn_g s' 6 4 = 257 ∧ dn_g s' 6 2 = nI (ab_p N L p)) ∨
       (ab_p N L p < N ∧ ab_dgt (L (ab_p N L p)) = true ∧ dn_g s' 6 2 = nI (ab_q N L (ab_p N L p)).1 ∧ dn_g s' 6 5 = nI (ab_q N L (ab_p N L p)).2 ∧ ((ab_bad N L (ab_p N L p) ∧ dn_g s' 6 4 = 258) ∨ (¬ ab_bad N L (ab_p N L p) ∧ dn_g s' 6 4 = 256))) ∨
       (ab_p N L p < N ∧ ab_dgt (L (ab_p N L p)) = false ∧ dn_g s' 6 2 = nI (ab_p N L p + 1) ∧ ((dn_g s' 6 4 = L (ab_p N L p) ∧ (L (ab_p N L p) = 98 ∨ L (ab_p N L p) = 114 ∨ L (ab_p N L p) = 111 ∨ L (ab_p N L p) = 59)) ∨ (dn_g s' 6 4 = 258 ∧ L (ab_p N L p) ≠ 98 ∧ L (ab_p N L p) ≠ 114 ∧ L (ab_p N L p) ≠ 111 ∧ L (ab_p N L p) ≠ 59)))) := by
  obtain ⟨s1, e1, z1, f1⟩ := cq_bl (L := L) hN (N - p) p 2048 s (by omega) (by omega) hT h2
  have hb := bl_le L (N - p) p
  have f1' : fr PN s s1 := fr_mono f1 (fun a j q => by unfold PN; omega)
  unfold m_X8_nextToken
  rw [e1]
  unfold m_X8_nextToken_43
  change dn_g s1 6 2 = nI (ab_p N L p) at z1
  change p ≤ ab_p N L p ∧ ab_p N L p ≤ p + (N - p) at hb
  generalize ab_p N L p = p' at z1 hb ⊢
  have f2 : fr PN s1 (dn_p s1 6 3 (nI p')) := fr_p ⟨rfl, by omega, by omega⟩
  have hT2 : TXc (dn_p s1 6 3 (nI p')) N L := txc_fr (txc_fr hT f1' (fun a j q => by unfold PN at q; omega)) f2 (fun a j q => by unfold PN at q; omega)
  have z2 : dn_g (dn_p s1 6 3 (nI p')) 6 2 = nI p' := by rw [dn_p_j _ _ _ _ _ _ (by decide)]; exact z1
  have z3 : dn_g (dn_p s1 6 3 (nI p')) 6 3 = nI p' := dn_p_same _ _ _ _
  rw [z1, dn_wr_e]
  generalize dn_p s1 6 3 (nI p') = s2 at f2 hT2 z2 z3 ⊢
  rw [z2, hT2.1]
  by_cases hpN : p' < N
  · rw [if_pos (show nI p' < nI N from nI_lt hpN (by omega)), cq_letter hN hT2 hpN, dn_bd_s, cq_isDigit, dn_bd_s]
    by_cases hd : ab_dgt (L p') = true
    · rw [if_pos hd]
      unfold m_X8_takeNumber
      have f3 : fr PN s2 (dn_p s2 6 5 0) := fr_p ⟨rfl, by omega, by omega⟩
      obtain ⟨s3, e3, a3, b3, f4⟩ := cq_dg (L := L) hN (N - p') p' 0 2048 (dn_p s2 6 5 0) (by omega) (by omega) (by omega) (txc_fr hT2 f3 (fun a j q => by unfold PN at q; omega)) (by rw [dn_p_j _ _ _ _ _ _ (by decide)]; exact z2) (dn_p_same _ _ _ _)
      have f4' : fr PN (dn_p s2 6 5 0) s3 := fr_mono f4 (fun a j q => by unfold PN; omega)
      have hT3 : TXc s3 N L := txc_fr (txc_fr hT2 f3 (fun a j q => by unfold PN at q; omega)) f4' (fun a j q => by unfold PN at q; omega)
      have c3 : dn_g s3 6 3 = nI p' := (f4.1 6 3 (fun q => by omega)).trans ((dn_p_j _ _ _ _ _ _ (by decide)).trans z3)
      change dn_g s3 6 2 = nI (ab_q N L p').1 at a3
      change dn_g s3 6 5 = nI (ab_q N L p').2 at b3
      have hq := dg_le L (N - p') p' 0
      change p' ≤ (ab_q N L p').1 ∧ (ab_q N L p').1 ≤ p' + (N - p') ∧ (0 ≤ 100 → (ab_q N L p').2 ≤ 100) at hq
      rw [dn_wr_e, e3]
      have f03 : fr PN s s3 := fr_trans f1' (fr_trans f2 (fr_trans f3 f4'))
      have tok : ∀ v : Int32, fr PN s (dn_p s3 6 4 v) ∧ dn_g (dn_p s3 6 4 v) 6 3 = nI p' ∧ dn_g (dn_p s3 6 4 v) 6 2 = nI (ab_q N L p').1 ∧ dn_g (dn_p s3 6 4 v) 6 5 = nI (ab_q N L p').2 ∧ dn_g (dn_p s3 6 4 v) 6 4 = v := fun v =>
        ⟨fr_trans f03 (fr_p ⟨rfl, by omega, by omega⟩), by rw [dn_p_j _ _ _ _ _ _ (by decide)]; exact c3, by rw [dn_p_j _ _ _ _ _ _ (by decide)]; exact a3, by rw [dn_p_j _ _ _ _ _ _ (by decide)]; exact b3, dn_p_same _ _ _ _⟩
      unfold m_X8_takeNumber_80 m_X8_takeNumber_113 m_X8_takeNumber_114 m_X8_takeNumber_129
      rw [c3, cq_letter hN hT3 hpN, dn_bd_s, a3, b3, c3, show nI p' + (1 : Int32) = nI (p' + 1) from by rw [nl_1, nI_add]]
      have ok : ∀ (h : ¬ (L p' = 48 ∧ p' + 1 < (ab_q N L p').1)), ∃ s', dn_bd (if nI (ab_q N L p').2 ≤ 99 then dn_wr (dn_p s3 6 4 256) fun s1 => some ((), s1) else dn_wr (dn_p s3 6 4 258) fun s1 => some ((), s1)) (fun _ s8 => some ((), s8)) = some ((), s') ∧ dn_g s' 6 3 = nI p' ∧ fr PN s s' ∧ ((p' = N ∧ dn_g s' 6 4 = 257 ∧ dn_g s' 6 2 = nI p') ∨ (p' < N ∧ ab_dgt (L p') = true ∧ dn_g s' 6 2 = nI (ab_q N L p').1 ∧ dn_g s' 6 5 = nI (ab_q N L p').2 ∧ ((ab_bad N L p' ∧ dn_g s' 6 4 = 258) ∨ (¬ ab_bad N L p' ∧ dn_g s' 6 4 = 256))) ∨ (p' < N ∧ ab_dgt (L p') = false ∧ dn_g s' 6 2 = nI (p' + 1) ∧ ((dn_g s' 6 4 = L p' ∧ (L p' = 98 ∨ L p' = 114 ∨ L p' = 111 ∨ L p' = 59)) ∨ (dn_g s' 6 4 = 258 ∧ L p' ≠ 98 ∧ L p' ≠ 114 ∧ L p' ≠ 111 ∧ L p' ≠ 59)))) := by
        intro h
        by_cases q : (ab_q N L p').2 ≤ 99
        · rw [if_pos (show nI (ab_q N L p').2 ≤ 99 from nI_le (b := 99) q (by omega))]
          obtain ⟨t1, t2, t3, t4, t5⟩ := tok 256
          exact ⟨_, rfl, t2, t1, Or.inr (Or.inl ⟨hpN, hd, t3, t4, Or.inr ⟨fun z => z.elim h (fun z => by omega), t5⟩⟩)⟩
        · rw [if_neg (show ¬ nI (ab_q N L p').2 ≤ 99 from nI_nl (b := 99) (by omega) (by omega))]
          obtain ⟨t1, t2, t3, t4, t5⟩ := tok 258
          exact ⟨_, rfl, t2, t1, Or.inr (Or.inl ⟨hpN, hd, t3, t4, Or.inl ⟨Or.inr (by omega), t5⟩⟩)⟩
      by_cases h48 : L p' = 48
      · rw [if_pos h48]
        by_cases hlead : p' + 1 < (ab_q N L p').1
        · rw [if_neg (show ¬ nI (ab_q N L p').1 ≤ nI (p' + 1) from nI_nl hlead (by omega)), if_pos rfl]
          obtain ⟨t1, t2, t3, t4, t5⟩ := tok 258
          exact ⟨_, rfl, t2, t1, Or.inr (Or.inl ⟨hpN, hd, t3, t4, Or.inl ⟨Or.inl ⟨h48, hlead⟩, t5⟩⟩)⟩
        · rw [if_pos (show nI (ab_q N L p').1 ≤ nI (p' + 1) from nI_le (by omega) (by omega)), if_neg (by decide)]
          exact ok (fun z => hlead z.2)
      · rw [if_neg h48, if_neg (by decide)]
        exact ok (fun z => h48 z.1)
    · have hd' : ab_dgt (L p') = false := by simpa using hd
      rw [if_neg hd]
      unfold m_X8_nextToken_122
      have nx : ∀ v : Int32, ∃ s', m_X8_nextToken_129 v s2 = some ((), s') ∧ dn_g s' 6 3 = nI p' ∧ fr PN s s' ∧ dn_g s' 6 2 = nI (p' + 1) ∧ dn_g s' 6 4 = v := by
        intro v
        unfold m_X8_nextToken_129
        have z2' : dn_g (dn_p s2 6 4 v) 6 2 = nI p' := by rw [dn_p_j _ _ _ _ _ _ (by decide)]; exact z2
        rw [dn_wr_e, dn_wr_e, z2', nl_1, nI_add]
        exact ⟨_, rfl, by rw [dn_p_j _ _ _ _ _ _ (by decide), dn_p_j _ _ _ _ _ _ (by decide)]; exact z3, fr_trans f1' (fr_trans f2 (fr_trans (fr_p ⟨rfl, by omega, by omega⟩) (fr_p ⟨rfl, by omega, by omega⟩))), dn_p_same _ _ _ _, by rw [dn_p_j _ _ _ _ _ _ (by decide), dn_p_same]⟩
      obtain ⟨s5, n1, n2, n3, n4, n5⟩ := nx (L p')
      obtain ⟨s6, o1, o2, o3, o4, o5⟩ := nx 258
      rw [n1, o1]
      by_cases q1 : L p' = 98
      · rw [if_pos q1]; exact ⟨s5, rfl, n2, n3, Or.inr (Or.inr ⟨hpN, hd', n4, Or.inl ⟨n5, Or.inl q1⟩⟩)⟩
      · rw [if_neg q1]
        by_cases q2 : L p' = 114
        · rw [if_pos q2]; exact ⟨s5, rfl, n2, n3, Or.inr (Or.inr ⟨hpN, hd', n4, Or.inl ⟨n5, Or.inr (Or.inl q2)⟩⟩)⟩
        · rw [if_neg q2]
          by_cases q3 : L p' = 111
          · rw [if_pos q3]; exact ⟨s5, rfl, n2, n3, Or.inr (Or.inr ⟨hpN, hd', n4, Or.inl ⟨n5, Or.inr (Or.inr (Or.inl q3))⟩⟩)⟩
          · rw [if_neg q3]
            by_cases q4 : L p' = 59
            · rw [if_pos q4]; exact ⟨s5, rfl, n2, n3, Or.inr (Or.inr ⟨hpN, hd', n4, Or.inl ⟨n5, Or.inr (Or.inr (Or.inr q4))⟩⟩)⟩
            · rw [if_neg q4]; exact ⟨s6, rfl, o2, o3, Or.inr (Or.inr ⟨hpN, hd', o4, Or.inr ⟨o5, q1, q2, q3, q4⟩⟩)⟩
  · rw [if_neg (show ¬ nI p' < nI N from nI_nlt (by omega) (by omega)), dn_wr_e]
    exact ⟨_, rfl, by rw [dn_p_j _ _ _ _ _ _ (by decide)]; exact z3, fr_trans f1' (fr_trans f2 (fr_p ⟨rfl, by omega, by omega⟩)), Or.inl ⟨by omega, dn_p_same _ _ _ _, by rw [dn_p_j _ _ _ _ _ _ (by decide)]; exact z2⟩⟩
