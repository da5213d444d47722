/-! rates; a bid put down -/
theorem Rel.q {s t : dn_S} (hR : Rel s t) (v : Int64) : Rel (dn_q s v) (dn_q t v) := by
  obtain ⟨τ, hW, hT, hU, hX, hXT, hXF, hXP, hXU, hXI, hl⟩ := hR
  exact ⟨τ, hW, hT, hU, hX, hXT, hXF, hXP, hXU, hXI, rfl⟩
theorem cq_asBidder {s : dn_S} {τ : Tv} {m : Mv} {b : Nat} (hM : CM s 10 τ m) (hb : b < tv_b τ) (h4 : tv_b τ ≤ 4) : m_X7_asBidder (nI b) s = some (mv_P m b, dn_q s (dn_l s + 1)) := by
  unfold m_X7_asBidder
  rw [dn_wr_e, cq_purse (show CM (dn_q s (dn_l s + 1)) 10 τ m from hM) hb h4]
  rfl
theorem rq_bare {t : dn_S} {τ : Tv} {m : Mv} {b : Nat} (hM : RM t 0 τ m) (hb : b < tv_b τ) (h4 : tv_b τ ≤ 4) : m_X12_bareRate (nI b) t = some (mv_P m b, dn_q t (dn_l t + 1)) := by
  unfold m_X12_bareRate
  have e : dn_g (dn_q t (dn_l t + 1)) 101 (6 + b) = mv_P m b := by
    have := hM.2.2.2.2.2.1 b hb
    rw [show 0 + 6 + b = 6 + b by omega] at this
    exact this
  rw [dn_wr_e]
  generalize dn_q t (dn_l t + 1) = t1 at e ⊢
  try simp (disch := omega) only [nl_0, nl_1, nl_2, nl_3, nl_4, nl_5, nl_6, nl_7, nl_8, nl_9, nl_10, nl_16, nl_17, nl_19, nl_20, nl_21, nl_30, nl_31, nl_32, nl_40, nl_41, nl_48, nl_50, nl_57, nl_60, nl_64, nl_99, nl_100, nl_119, nl_120, nl_121, nl_122, nl_123, nl_124, nl_125, nl_126, nl_130, nl_136, nl_200, nl_240, nl_255, nl_256, nl_257, nl_480, nl_1080, nI_add, nI_mul, nI_sub, cq_ib, nI_clamp, nI_leI, nI_ltI, nI_eq, dn_ck_t, dn_bd_s, dn_wr_e, dn_lt_e, cq_ofNat, e]
theorem cq_asBrewer {s : dn_S} {τ : Tv} {m : Mv} {b : Nat} (hT : CT s 3 τ) (hM : CM s 10 τ m) (hb : b < tv_b τ) (h4 : tv_b τ ≤ 4) : m_X7_asBrewer (nI b) s = some (mv_P m b + tv_F τ b 1, dn_q s (dn_l s + 10 + 1)) := by
  unfold m_X7_asBrewer
  rw [dn_wr_e, cq_asBidder (show CM (dn_q s (dn_l s + 10)) 10 τ m from hM) hb h4, dn_bd_s, nl_1,
    cq_ofBidder (s := dn_q (dn_q s (dn_l s + 10)) (dn_l (dn_q s (dn_l s + 10)) + 1)) (show CT (dn_q (dn_q s (dn_l s + 10)) (dn_l (dn_q s (dn_l s + 10)) + 1)) 3 τ from hT) hb h4 (by omega)]
  rfl
theorem rq_brewer {t : dn_S} {τ : Tv} {m : Mv} {b : Nat} (hT : RT t τ) (hM : RM t 0 τ m) (hb : b < tv_b τ) (h4 : tv_b τ ≤ 4) : m_X12_brewerRate (nI b) t = some (mv_P m b + tv_F τ b 1, dn_q t (dn_l t + 10 + 1)) := by
  unfold m_X12_brewerRate
  rw [dn_wr_e, rq_bare (show RM (dn_q t (dn_l t + 10)) 0 τ m from hM) hb h4, dn_bd_s, cq_ib (show b < 4 by omega) (by omega), dn_ck_t, nI_clamp (by omega)]
  have e : dn_g (dn_q (dn_q t (dn_l t + 10)) (dn_l (dn_q t (dn_l t + 10)) + 1)) 104 b = tv_F τ b 1 := (hT.2.2.2.1 b hb).2.1
  rw [e]
  rfl
def ab_ow (τ : Tv) (m : Mv) (b : Nat) : Nat → Nat → Int32 → Int32
  | 0, _, a => a
  | c + 1, j, a => ab_ow τ m b c (j + 1) (if tv_O τ j 0 = nI b then (if mv_H m j = 0 then a + tv_O τ j 2 else a) else a)
theorem cq_owed {s : dn_S} {τ : Tv} {m : Mv} {b : Nat} (hW : WT τ) (hT : CT s 3 τ) (hM : CM s 10 τ m) : ∀ (c j fuel : Nat) (a : Int32), j + c = tv_d τ → c < fuel → m_X7_owedYet_4 fuel (nI b) a (nI j) s = some (ab_ow τ m b c j a, s) := by
  have h6 := hW.2.1
  intro c
  induction c with
  | zero =>
    intro j fuel a hj hf
    obtain ⟨n, rfl⟩ : ∃ n, fuel = n + 1 := ⟨fuel - 1, by omega⟩
    rw [m_X7_owedYet_4, hT.2.1, if_pos (show nI (tv_d τ) ≤ nI j from nI_le (by omega) (by omega))]
    rfl
  | succ c ih =>
    intro j fuel a hj hf
    obtain ⟨n, rfl⟩ : ∃ n, fuel = n + 1 := ⟨fuel - 1, by omega⟩
    have e1 : nI j + (1 : Int32) = nI (j + 1) := by rw [nl_1, nI_add]
    have o0 := cq_ofDebt hT (d := j) (j := 0) (by omega) h6 (by omega)
    have o2 := cq_ofDebt hT (d := j) (j := 2) (by omega) h6 (by omega)
    have o0' : m_X10_ofDebt 3 (nI j) 0 s = some (tv_O τ j 0, s) := o0
    have o2' : m_X10_ofDebt 3 (nI j) 2 s = some (tv_O τ j 2, s) := o2
    rw [m_X7_owedYet_4, hT.2.1, if_neg (show ¬ nI (tv_d τ) ≤ nI j from nI_nl (by omega) (by omega)), o0', dn_bd_s, ab_ow]
    unfold m_X7_owedYet_51
    simp only [dn_lt_e, e1]
    by_cases q : tv_O τ j 0 = nI b
    · rw [if_pos q, if_pos q, cq_howIs (by omega), dn_bd_s, hM.2.2.2.2.2 j (by omega)]
      by_cases r : mv_H m j = 0
      · rw [if_pos r, if_pos r, o2', dn_bd_s]
        exact ih (j + 1) n _ (by omega) (by omega)
      · rw [if_neg r, if_neg r]
        exact ih (j + 1) n _ (by omega) (by omega)
    · rw [if_neg q, if_neg q]
      exact ih (j + 1) n _ (by omega) (by omega)
theorem cq_asLover {s : dn_S} {τ : Tv} {m : Mv} {b : Nat} (hW : WT τ) (hT : CT s 3 τ) (hM : CM s 10 τ m) (hb : b < tv_b τ) : m_X7_asLover (nI b) s = some (mv_P m b - ab_ow τ m b (tv_d τ) 0 0, dn_q s (dn_l s + 100 + 1)) := by
  have h6 := hW.2.1
  unfold m_X7_asLover m_X7_owedYet
  rw [dn_wr_e, cq_asBidder (show CM (dn_q s (dn_l s + 100)) 10 τ m from hM) hb hW.1, dn_bd_s]
  have e := cq_owed (b := b) hW (show CT (dn_q (dn_q s (dn_l s + 100)) (dn_l (dn_q s (dn_l s + 100)) + 1)) 3 τ from hT) (show CM (dn_q (dn_q s (dn_l s + 100)) (dn_l (dn_q s (dn_l s + 100)) + 1)) 10 τ m from hM) (tv_d τ) 0 2048 0 (by omega) (by omega)
  have e' : m_X7_owedYet_4 2048 (nI b) 0 0 (dn_q (dn_q s (dn_l s + 100)) (dn_l (dn_q s (dn_l s + 100)) + 1)) = _ := e
  rw [e']
  rfl
theorem rq_owed {t : dn_S} {τ : Tv} {m : Mv} {b : Nat} (hW : WT τ) (hT : RT t τ) (hM : RM t 0 τ m) (hb : b < tv_b τ) : ∀ (c j fuel : Nat) (a : Int32), j + c = tv_d τ → c < fuel → m_X12_loverRate_16 fuel (nI b) a (nI j) t = some (mv_P m b - ab_ow τ m b c j a, dn_q t (dn_l t + 1)) := by
  have h6 := hW.2.1
  intro c
  induction c with
  | zero =>
    intro j fuel a hj hf
    obtain ⟨n, rfl⟩ : ∃ n, fuel = n + 1 := ⟨fuel - 1, by omega⟩
    rw [m_X12_loverRate_16, hT.2.1, if_pos (show nI (tv_d τ) ≤ nI j from nI_le (by omega) (by omega)), rq_bare hM hb hW.1]
    rfl
  | succ c ih =>
    intro j fuel a hj hf
    obtain ⟨n, rfl⟩ : ∃ n, fuel = n + 1 := ⟨fuel - 1, by omega⟩
    have e1 : nI j + (1 : Int32) = nI (j + 1) := by rw [nl_1, nI_add]
    have m0 : (5 : Int32) * nI j = nI (5 * j) := by rw [nl_5, nI_mul]
    have m2 : nI (5 * j) + (2 : Int32) = nI (5 * j + 2) := by rw [nl_2, nI_add]
    have m10 : (10 : Int32) + nI j = nI (10 + j) := by rw [nl_10, nI_add]
    have o0 := hT.2.2.2.2 j (by omega) 0 (by omega)
    have o2 := hT.2.2.2.2 j (by omega) 2 (by omega)
    have hh := hM.2.2.2.2.2.2 j (by omega)
    rw [show 0 + 10 + j = 10 + j by omega] at hh
    rw [m_X12_loverRate_16, hT.2.1, if_neg (show ¬ nI (tv_d τ) ≤ nI j from nI_nl (by omega) (by omega)), m0, m2, m10, ab_ow]
    rw [cq_ib (show 5 * j < 30 by omega) (by omega), cq_ib (show 5 * j + 2 < 30 by omega) (by omega), cq_ib (show 10 + j < 1680 by omega) (by omega), nI_clamp (show 5 * j < 2 ^ 31 by omega), nI_clamp (show 5 * j + 2 < 2 ^ 31 by omega), nI_clamp (show 10 + j < 2 ^ 31 by omega)]
    rw [Nat.add_zero] at o0
    rw [o0, o2, hh]
    unfold m_X12_loverRate_62 m_X12_loverRate_63
    simp only [dn_ck_t, dn_lt_e, e1, Int32.add_zero]
    by_cases q : tv_O τ j 0 = nI b
    · rw [if_pos q, if_pos q]
      by_cases r : mv_H m j = 0
      · rw [if_pos r, if_pos r]
        exact ih (j + 1) n _ (by omega) (by omega)
      · rw [if_neg r, if_neg r]
        exact ih (j + 1) n _ (by omega) (by omega)
    · rw [if_neg q, if_neg q]
      exact ih (j + 1) n _ (by omega) (by omega)
theorem rq_lover {t : dn_S} {τ : Tv} {m : Mv} {b : Nat} (hW : WT τ) (hT : RT t τ) (hM : RM t 0 τ m) (hb : b < tv_b τ) : m_X12_loverRate (nI b) t = some (mv_P m b - ab_ow τ m b (tv_d τ) 0 0, dn_q t (dn_l t + 100 + 1)) := by
  have h6 := hW.2.1
  unfold m_X12_loverRate
  rw [dn_wr_e]
  exact rq_owed (b := b) hW (show RT (dn_q t (dn_l t + 100)) τ from hT) (show RM (dn_q t (dn_l t + 100)) 0 τ m from hM) hb (tv_d τ) 0 2048 0 (by omega) (by omega)
theorem ok_rate (a1 a2 : Int32) : Ok Int32 (m_X11_rate a1 a2) (m_X12_rate a1 a2) := by
  intro s t hR
  obtain ⟨τ, hW, hT, hU, ⟨m, o, hM, hN, -, -, hd, -⟩, -, -, -, -, -, hl⟩ := id hR
  have h4 := hW.1
  unfold m_X11_rate m_X12_rate
  rw [cq_isBidder a2 hW hT, dn_bd_s, rq_in, rq_i64, i64_0, i64_5, dn_bd_s]
  by_cases h1 : ab_in a1.toInt (0 : Nat) (5 : Nat) = true
  · rw [if_pos h1, rq_isBidder a2 hW hU, dn_bd_s]
    by_cases h2 : ab_in a2.toInt (0 : Nat) ((tv_b τ : Int) - 1) = true
    · obtain ⟨b, hb, rfl⟩ := in_split1 h2
      obtain ⟨k, _, hk, rfl⟩ := in_split h1
      rw [if_pos h2, if_pos h2]
      unfold m_X7_asIf m_X7_asHeir m_X7_asRival m_X7_asPoet
      have e0 : dn_g t 101 (0 : Int32).toNatClampNeg = nI (mv_d m) := hN.1
      simp only [dn_wr_e]
      have qT : ∀ v : Int64, CT (dn_q s v) 3 τ := fun _ => hT
      have qM : ∀ v : Int64, CM (dn_q s v) 10 τ m := fun _ => hM
      have qU : ∀ v : Int64, RT (dn_q t v) τ := fun _ => hU
      have qN : ∀ v : Int64, RM (dn_q t v) 0 τ m := fun _ => hN
      rw [cq_asBidder hM hb h4, cq_asBrewer hT hM hb h4, cq_asLover hW hT hM hb, rq_bare hN hb h4, rq_brewer hU hN hb h4, rq_lover hW hU hN hb,
        cq_asBrewer (qT (dn_l s + 1000)) (qM (dn_l s + 1000)) hb h4, rq_brewer (qU (dn_l t + 1000)) (qN (dn_l t + 1000)) hb h4,
        cq_asLover hW (qT (dn_l s + 10000)) (qM (dn_l s + 10000)) hb, rq_lover hW (qU (dn_l t + 10000)) (qN (dn_l t + 10000)) hb,
        cq_asBidder (qM (dn_l s + 100000)) hb h4, rq_bare (qN (dn_l t + 100000)) hb h4]
      simp only [dn_bd_s]
      have hk6 : k = 0 ∨ k = 1 ∨ k = 2 ∨ k = 3 ∨ k = 4 ∨ k = 5 := by omega
      rcases hk6 with rfl | rfl | rfl | rfl | rfl | rfl
      · rw [if_pos (show nI 0 = 0 from rfl), if_neg (by decide), if_neg (by decide), if_neg (by decide), if_neg (by decide), if_neg (by decide), hl]
        exact ⟨_, _, _, rfl, rfl, hR.q _⟩
      · rw [if_neg (by decide), if_pos (show nI 1 = 1 from rfl), if_pos (show nI 1 = 1 from rfl), hl]
        exact ⟨_, _, _, rfl, rfl, hR.q _⟩
      · rw [if_neg (by decide), if_neg (by decide), if_pos (show nI 2 = 2 from rfl), if_neg (by decide), if_pos (show nI 2 = 2 from rfl), hl]
        exact ⟨_, _, _, rfl, rfl, hR.q _⟩
      · rw [if_neg (by decide), if_neg (by decide), if_neg (by decide), if_pos (show nI 3 = 3 from rfl), if_neg (by decide), if_neg (by decide), if_pos (show nI 3 = 3 from rfl), hl]
        exact ⟨_, _, _, rfl, rfl, (hR.q _).q _⟩
      · rw [if_neg (by decide), if_neg (by decide), if_neg (by decide), if_neg (by decide), if_pos (show nI 4 = 4 from rfl), if_neg (by decide), if_neg (by decide), if_neg (by decide), if_pos (show nI 4 = 4 from rfl), hl]
        exact ⟨_, _, _, rfl, rfl, (hR.q _).q _⟩
      · rw [if_neg (by decide), if_neg (by decide), if_neg (by decide), if_neg (by decide), if_neg (by decide), if_pos (show nI 5 = 5 from rfl), if_neg (by decide), if_neg (by decide), if_neg (by decide), if_neg (by decide), if_pos (show nI 5 = 5 from rfl), hl, show dn_ib 0 1680 = true by decide, dn_ck_t]
        have c1 : ∀ v w : Int64, dn_g (dn_q (dn_q s v) w) 10 3 = nI (mv_d m) := fun _ _ => hM.1
        have c2 : ∀ v w : Int64, dn_g (dn_q (dn_q t v) w) 101 (0 : Int32).toNatClampNeg = nI (mv_d m) := fun _ _ => hN.1
        rw [c1, c2]
        exact ⟨_, _, _, rfl, rfl, (hR.q _).q _⟩
    · rw [if_neg h2, if_neg h2]
      exact ⟨_, s, t, rfl, rfl, hR⟩
  · rw [if_neg h1]
    by_cases h2 : ab_in a2.toInt (0 : Nat) ((tv_b τ : Int) - 1) = true
    · rw [if_pos h2]
      have hn : ∀ k : Nat, k ≤ 5 → a1 ≠ nI k := fun k hk z => h1 (by rw [z, nI_toInt (by omega)]; exact decide_eq_true (by omega))
      unfold m_X7_asIf
      rw [if_neg (show ¬ a1 = 0 from hn 0 (by omega)), if_neg (show ¬ a1 = 1 from hn 1 (by omega)), if_neg (show ¬ a1 = 2 from hn 2 (by omega)), if_neg (show ¬ a1 = 3 from hn 3 (by omega)), if_neg (show ¬ a1 = 4 from hn 4 (by omega)), if_neg (show ¬ a1 = 5 from hn 5 (by omega))]
      exact ⟨_, s, t, rfl, rfl, hR⟩
    · rw [if_neg h2]
      exact ⟨_, s, t, rfl, rfl, hR⟩
