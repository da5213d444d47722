/-! two bidders in a ring -/
theorem SC_cm {a j : Nat} (q : SC a j) : a < 10 ∨ 10 + 3 < a := by unfold SC at q; omega
theorem SR_rm {a j : Nat} (q : SR a j) : a ≠ 101 ∨ j < 0 ∨ 0 + 120 ≤ j := by unfold SR at q; omega
def ab_los (cw : Nat → Int32 × Int32) (y1 y2 : Nat) : Nat := if (cw (max y1 y2)).1 ≤ (cw (min y1 y2)).1 then max y1 y2 else min y1 y2
def ab_sil (cw : Nat → Int32 × Int32) (y1 y2 : Nat) : Nat → Int32 × Int32 := fun b => if b = ab_los cw y1 y2 then (0, (cw b).2) else cw b
theorem ab_sil_e {cw : Nat → Int32 × Int32} {y1 y2 b : Nat} (h : b = ab_los cw y1 y2) : ab_sil cw y1 y2 b = (0, (cw b).2) := by unfold ab_sil; rw [if_pos h]
theorem ab_sil_n {cw : Nat → Int32 × Int32} {y1 y2 b : Nat} (h : b ≠ ab_los cw y1 y2) : ab_sil cw y1 y2 b = cw b := by unfold ab_sil; rw [if_neg h]
def ab_cs (τ : Tv) (m : Mv) (y1 y2 : Nat) (b : Bool) : Nat → Int32 × Int32 := if b = true then ab_sil (ab_c0 τ m) y1 y2 else ab_c0 τ m
def ab_pb (τ : Tv) (y1 y2 : Nat) (b : Bool) : Nat → Mv → Int32 → Int32
  | 0, _, a => a
  | c + 1, m, a => ab_pb τ y1 y2 b c (ab_ends τ m (ab_cs τ m y1 y2 b)).2 (a + if (ab_w (ab_c1 (ab_cs τ m y1 y2 b))).1 = nI y1 ∨ (ab_w (ab_c1 (ab_cs τ m y1 y2 b))).1 = nI y2 then ab_price (ab_c1 (ab_cs τ m y1 y2 b)) else 0)
theorem ab_cs_0 (τ : Tv) (m : Mv) (y1 y2 : Nat) (b : Bool) : ∀ j, tv_b τ ≤ j → j < 4 → (ab_cs τ m y1 y2 b j).1 = 0 := by
  intro j h1 h2
  unfold ab_cs
  by_cases q : b = true
  · rw [if_pos q]
    by_cases r : j = ab_los (ab_c0 τ m) y1 y2
    · rw [ab_sil_e r]
    · rw [ab_sil_n r]; exact ab_cwo_0 τ m _ j h1 h2
  · rw [if_neg q]; exact ab_cwo_0 τ m _ j h1 h2
theorem ab_cs_k {τ : Tv} {m : Mv} (hW : WT τ) (y1 y2 : Nat) (b : Bool) (j : Nat) : (ab_cs τ m y1 y2 b j).1 = 0 ∨ ∃ v n : Nat, 1 ≤ v ∧ v ≤ 20 ∧ n < 5 ∧ ab_cs τ m y1 y2 b j = (nI v, nI n) ∧ ab_brd τ m (nI n) = false := by
  unfold ab_cs
  by_cases q : b = true
  · rw [if_pos q]
    by_cases r : j = ab_los (ab_c0 τ m) y1 y2
    · rw [ab_sil_e r]; exact Or.inl rfl
    · rw [ab_sil_n r]; exact ab_c0_k hW j
  · rw [if_neg q]; exact ab_c0_k hW j
theorem ab_cs_n5 {τ : Tv} {m : Mv} (hW : WT τ) (y1 y2 : Nat) (b : Bool) : (ab_ends τ m (ab_cs τ m y1 y2 b)).1 = -5 ↔ (ab_w (ab_c1 (ab_cs τ m y1 y2 b))).1 = -9 := by
  rw [ab_ends_1]
  rcases ab_w_ok (ab_c1 (ab_cs τ m y1 y2 b)) with ⟨q1, q2⟩ | ⟨i, hi, q1, q2, q3⟩
  · rw [if_pos q1]; exact ⟨fun _ => q1, fun _ => rfl⟩
  · have hn : (ab_w (ab_c1 (ab_cs τ m y1 y2 b))).1 ≠ -9 := by rw [q1]; exact nI_n9 (by omega)
    rw [if_neg hn]
    have hx' : ab_x (ab_cs τ m y1 y2 b) = (ab_cs τ m y1 y2 b i).2 := by unfold ab_x ab_wi; rw [q1, nI_clamp (by omega)]
    rw [hx']
    have q3' : 0 < (ab_cs τ m y1 y2 b i).1 := q3
    rcases ab_cs_k (m := m) hW y1 y2 b i with e | ⟨v, n, h1, h2, h3, h4, h5⟩
    · rw [e] at q3'; exact absurd q3' (by decide)
    · rw [h4]
      exact ⟨fun q => absurd q.symm (nI_n5 (by omega)), fun q => absurd q hn⟩
theorem dn_mn_nI {a b : Nat} (ha : a < 1000) (hb : b < 1000) : dn_mn (nI a) (nI b) = nI (min a b) := by
  unfold dn_mn
  by_cases q : nI b < nI a
  · rw [if_pos q]; rw [nI_ltI (by omega) (by omega)] at q; rw [Nat.min_eq_right (by omega)]
  · rw [if_neg q]; rw [nI_ltI (by omega) (by omega)] at q; rw [Nat.min_eq_left (by omega)]
theorem dn_mx_nI {a b : Nat} (ha : a < 1000) (hb : b < 1000) : dn_mx (nI a) (nI b) = nI (max a b) := by
  unfold dn_mx
  by_cases q : nI a < nI b
  · rw [if_pos q]; rw [nI_ltI (by omega) (by omega)] at q; rw [Nat.max_eq_right (by omega)]
  · rw [if_neg q]; rw [nI_ltI (by omega) (by omega)] at q; rw [Nat.max_eq_left (by omega)]
theorem cq_sil {s : dn_S} {cw : Nat → Int32 × Int32} {y1 y2 : Nat} (h1 : y1 < 4) (h2 : y2 < 4) (hz : ∀ b, b < 5 → Zc s b (cw b)) :
    ∃ s', m_X4_silenceLower (nI y1) (nI y2) s = some ((), s') ∧ (∀ b, b < 5 → Zc s' b (ab_sil cw y1 y2 b)) ∧ fr PB s s' := by
  have hl : ab_los cw y1 y2 < 5 := by unfold ab_los; split <;> omega
  refine ⟨dn_p s 17 (ab_los cw y1 y2) 0, ?_, ?_, fr_p (Or.inr rfl)⟩
  · unfold m_X4_silenceLower m_X1_silenceLower m_X1_silenceLower_43
    rw [dn_lt_e, dn_lt_e, dn_mn_nI (by omega) (by omega), dn_mx_nI (by omega) (by omega), cq_at_nI (by omega) (by omega), dn_bd_s, cq_at_nI (by omega) (by omega), dn_bd_s, (hz (max y1 y2) (by omega)).1, (hz (min y1 y2) (by omega)).1, cq_put_nI (by omega) (by omega), cq_put_nI (by omega) (by omega)]
    unfold ab_los
    by_cases q : (cw (max y1 y2)).1 ≤ (cw (min y1 y2)).1
    · rw [if_pos q, if_pos q]; rfl
    · rw [if_neg q, if_neg q]; rfl
  · intro b hb
    by_cases r : b = ab_los cw y1 y2
    · rw [ab_sil_e r]
      exact ⟨by rw [r, dn_p_same], fun q => absurd q (show ¬ ((0 : Int32) < 0) by decide)⟩
    · rw [ab_sil_n r]
      have := hz b hb
      exact ⟨by rw [dn_p_j _ _ _ _ _ _ r]; exact this.1, fun q => by rw [dn_p_k _ _ _ _ _ _ (by decide)]; exact this.2 q⟩
theorem cq_pb_loop {τ : Tv} {N y1 y2 : Nat} {b : Bool} (hW : WT τ) (h1 : y1 < tv_b τ) (h2 : y2 < tv_b τ) (hN : N ≤ 20) : ∀ (c i fuel : Nat) (s : dn_S) (m : Mv) (a : Int32), i + c = N → c < fuel → CT s 3 τ → CM s 19 τ m → mv_d m + c ≤ 100 →
    ∃ s', m_X5_paidBy_14 10 fuel (nI y1) (nI y2) (nI N) b a (nI (i + 1)) s = some (ab_pb τ y1 y2 b c m a, s') ∧ fr SC s s' := by
  have h4 := hW.1
  intro c
  induction c with
  | zero =>
    intro i fuel s m a hi hf hT hM hd
    obtain ⟨n, rfl⟩ : ∃ n, fuel = n + 1 := ⟨fuel - 1, by omega⟩
    rw [m_X5_paidBy_14, if_pos (show nI N < nI (i + 1) from nI_lt (by omega) (by omega))]
    exact ⟨s, rfl, fr_refl⟩
  | succ c ih =>
    intro i fuel s m a hi hf hT hM hd
    obtain ⟨n, rfl⟩ : ∃ n, fuel = n + 1 := ⟨fuel - 1, by omega⟩
    obtain ⟨s1, e1, hT1, hM1, hz1, f1⟩ := ah_open hW hT hM (by omega)
    have hz1' := cq_cwo hW (-9) hz1
    rw [m_X5_paidBy_14, if_neg (show ¬ nI N < nI (i + 1) from nI_nlt (by omega) (by omega)), e1, dn_bd_s, ab_pb]
    have key : ∀ s2, fr PB s1 s2 → (∀ j, j < 5 → Zc s2 j (ab_cs τ m y1 y2 b j)) → ∃ s', m_X5_paidBy_46 10 (m_X5_paidBy_14 10 n) (nI y1) (nI y2) (nI N) b a (nI (i + 1)) s2 = some (ab_pb τ y1 y2 b c (ab_ends τ m (ab_cs τ m y1 y2 b)).2 (a + if (ab_w (ab_c1 (ab_cs τ m y1 y2 b))).1 = nI y1 ∨ (ab_w (ab_c1 (ab_cs τ m y1 y2 b))).1 = nI y2 then ab_price (ab_c1 (ab_cs τ m y1 y2 b)) else 0), s') ∧ fr SC s s' := by
      intro s2 f2 hz2
      have f2' : fr SC s1 s2 := fr_mono f2 (fun a j q => by rcases q with q | q <;> (unfold SC; omega))
      obtain ⟨s3, e3, hT3, hM3, w3, p3, f3⟩ := ah_close hW (hT1.fr f2' (fun a j q => SC_ct q)) (hM1.fr f2 (fun a j q => by rcases q with q | q <;> omega)) (by omega) hz2 (ab_cs_0 τ m y1 y2 b)
      have hd3 := ab_ends_d τ m (ab_cs τ m y1 y2 b)
      obtain ⟨s4, e4, f4⟩ := ih (i + 1) n s3 (ab_ends τ m (ab_cs τ m y1 y2 b)).2 (a + if (ab_w (ab_c1 (ab_cs τ m y1 y2 b))).1 = nI y1 ∨ (ab_w (ab_c1 (ab_cs τ m y1 y2 b))).1 = nI y2 then ab_price (ab_c1 (ab_cs τ m y1 y2 b)) else 0) (by omega) (by omega) hT3 hM3 (by omega)
      refine ⟨s4, ?_, fr_trans f1 (fr_trans f2' (fr_trans f3 f4))⟩
      have ep : m_X4_paidLast (nI y1) (nI y2) s3 = some ((if (ab_w (ab_c1 (ab_cs τ m y1 y2 b))).1 = nI y1 ∨ (ab_w (ab_c1 (ab_cs τ m y1 y2 b))).1 = nI y2 then ab_price (ab_c1 (ab_cs τ m y1 y2 b)) else 0), s3) := by
        unfold m_X4_paidLast m_X4_paidLast_16
        rw [w3]
        by_cases q : (ab_w (ab_c1 (ab_cs τ m y1 y2 b))).1 = nI y1
        · rw [if_pos q, if_pos (Or.inl q), p3 (by rw [q]; exact nI_n9 (by omega))]
        · rw [if_neg q]
          by_cases r : (ab_w (ab_c1 (ab_cs τ m y1 y2 b))).1 = nI y2
          · rw [if_pos r, if_pos (Or.inr r), p3 (by rw [r]; exact nI_n9 (by omega))]
          · rw [if_neg r, if_neg (fun z => z.elim q r)]
      unfold m_X5_paidBy_46
      rw [e3, dn_bd_s, ep, dn_bd_s, dn_lt_e, dn_lt_e, show nI (i + 1) + (1 : Int32) = nI (i + 1 + 1) from by rw [nl_1, nI_add]]
      exact e4
    by_cases q : b = true
    · rw [if_pos q]
      obtain ⟨s2, e2, hz2, f2⟩ := cq_sil (y1 := y1) (y2 := y2) (by omega) (by omega) hz1'
      rw [e2, dn_bd_s]
      refine key s2 f2 ?_
      unfold ab_cs
      rw [if_pos q]
      exact hz2
    · rw [if_neg q]
      refine key s1 fr_refl ?_
      unfold ab_cs
      rw [if_neg q]
      exact hz1'
theorem rq_sil {K : Int32 → Int32 → Int32 → Bool → Int32 → Int32 → dn_S → Option (Int32 × dn_S)} {y3 y5 y6 : Int32} {τ : Tv} {m : Mv} {t : dn_S} {y1 y2 : Nat} (hW : WT τ) (h1 : y1 < 4) (h2 : y2 < 4) (h12 : y1 ≠ y2) (hz : ∀ b, b < 5 → Zr t b (ab_c0 τ m b)) :
    ∃ t', (dn_ck (dn_ib (nI y1) 5) ((if dn_g t 115 (nI y1).toNatClampNeg ≤ 0 then m_X12_paidBy_95 K (nI y1) (nI y2) y3 true y5 y6 t else dn_ck (dn_ib (nI y2) 5) ((if dn_g t 115 (nI y2).toNatClampNeg ≤ 0 then m_X12_paidBy_95 K (nI y1) (nI y2) y3 true y5 y6 t else dn_ck (dn_ib (nI y1) 5) (dn_ck (dn_ib (nI y2) 5) ((if dn_g t 115 (nI y1).toNatClampNeg < dn_g t 115 (nI y2).toNatClampNeg then m_X12_paidBy_80 K (nI y1) (nI y2) y3 true y5 y6 t else dn_ck (dn_ib (nI y1) 5) (dn_ck (dn_ib (nI y2) 5) ((if dn_g t 115 (nI y1).toNatClampNeg = dn_g t 115 (nI y2).toNatClampNeg then (if nI y1 ≤ nI y2 then m_X12_paidBy_84 K (nI y1) (nI y2) y3 true y5 y6 t else m_X12_paidBy_80 K (nI y1) (nI y2) y3 true y5 y6 t) else m_X12_paidBy_84 K (nI y1) (nI y2) y3 true y5 y6 t)))))))))))
      = m_X12_paidBy_95 K (nI y1) (nI y2) y3 true y5 y6 t' ∧ (∀ b, b < 5 → Zr t' b (ab_sil (ab_c0 τ m) y1 y2 b)) ∧ fr PBr t t' := by
  have a1 := (hz y1 (by omega)).1
  have a2 := (hz y2 (by omega)).1
  obtain ⟨v1, hv1, b1⟩ : ∃ v : Nat, v ≤ 20 ∧ (ab_c0 τ m y1).1 = nI v := by
    rcases ab_c0_k (m := m) hW y1 with e | ⟨v, n, _, hh, _, e, _⟩
    · exact ⟨0, by omega, e⟩
    · exact ⟨v, hh, by rw [e]⟩
  obtain ⟨v2, hv2, b2⟩ : ∃ v : Nat, v ≤ 20 ∧ (ab_c0 τ m y2).1 = nI v := by
    rcases ab_c0_k (m := m) hW y2 with e | ⟨v, n, _, hh, _, e, _⟩
    · exact ⟨0, by omega, e⟩
    · exact ⟨v, hh, by rw [e]⟩
  have hlos : ab_los (ab_c0 τ m) y1 y2 = if v1 < v2 ∨ (v1 = v2 ∧ y2 < y1) then y1 else y2 := by
    unfold ab_los
    rcases Nat.lt_or_gt_of_ne h12 with q | q
    · rw [Nat.max_eq_right (by omega), Nat.min_eq_left (by omega), b1, b2]
      by_cases r : nI v2 ≤ nI v1
      · rw [if_pos r]; rw [nI_leI (by omega) (by omega)] at r; rw [if_neg (by omega)]
      · rw [if_neg r]; rw [nI_leI (by omega) (by omega)] at r; rw [if_pos (by omega)]
    · rw [Nat.max_eq_left (by omega), Nat.min_eq_right (by omega), b1, b2]
      by_cases r : nI v1 ≤ nI v2
      · rw [if_pos r]; rw [nI_leI (by omega) (by omega)] at r; rw [if_pos (by omega)]
      · rw [if_neg r]; rw [nI_leI (by omega) (by omega)] at r; rw [if_neg (by omega)]
  have put : ∀ l, l = ab_los (ab_c0 τ m) y1 y2 → ∀ b, b < 5 → Zr (dn_p t 115 l 0) b (ab_sil (ab_c0 τ m) y1 y2 b) := by
    intro l hl b hb
    by_cases r : b = ab_los (ab_c0 τ m) y1 y2
    · rw [ab_sil_e r]
      exact ⟨by rw [r, ← hl, dn_p_same], fun q => absurd q (show ¬ ((0 : Int32) < 0) by decide)⟩
    · rw [ab_sil_n r]
      have := hz b hb
      exact ⟨by rw [dn_p_j _ _ _ _ _ _ (by rw [hl]; exact r)]; exact this.1, fun q => by rw [dn_p_k _ _ _ _ _ _ (by decide)]; exact this.2 q⟩
  have non : (∀ l, l = ab_los (ab_c0 τ m) y1 y2 → (ab_c0 τ m l).1 = 0) → ∀ b, b < 5 → Zr t b (ab_sil (ab_c0 τ m) y1 y2 b) := by
    intro hl b hb
    by_cases r : b = ab_los (ab_c0 τ m) y1 y2
    · rw [ab_sil_e r]
      exact ⟨by rw [(hz b hb).1, hl b r], fun q => absurd q (show ¬ ((0 : Int32) < 0) by decide)⟩
    · rw [ab_sil_n r]; exact hz b hb
  unfold m_X12_paidBy_80 m_X12_paidBy_84 m_X12_paidBy_85
  rw [nI_clamp (show y1 < 2 ^ 31 by omega), nI_clamp (show y2 < 2 ^ 31 by omega), cq_ib (show y1 < 5 by omega) (by omega), cq_ib (show y2 < 5 by omega) (by omega)]
  simp only [dn_ck_t, dn_wr_e]
  rw [a1, a2, b1, b2]
  by_cases q1 : nI v1 ≤ 0
  · rw [if_pos q1]
    have z1 : v1 = 0 := by rw [nl_0, nI_leI (by omega) (by omega)] at q1; omega
    refine ⟨t, rfl, non (fun l hl => ?_), fr_refl⟩
    rw [hlos] at hl
    by_cases r : v1 < v2 ∨ (v1 = v2 ∧ y2 < y1)
    · rw [if_pos r] at hl; rw [hl, b1, z1]; rfl
    · rw [if_neg r] at hl; rw [hl, b2, show v2 = 0 by omega]; rfl
  · rw [if_neg q1]
    by_cases q2 : nI v2 ≤ 0
    · rw [if_pos q2]
      have z2 : v2 = 0 := by rw [nl_0, nI_leI (by omega) (by omega)] at q2; omega
      refine ⟨t, rfl, non (fun l hl => ?_), fr_refl⟩
      rw [hlos] at hl
      by_cases r : v1 < v2 ∨ (v1 = v2 ∧ y2 < y1)
      · rw [if_pos r] at hl; rw [hl, b1, show v1 = 0 by omega]; rfl
      · rw [if_neg r] at hl; rw [hl, b2, z2]; rfl
    · rw [if_neg q2]
      by_cases q3 : v1 < v2
      · rw [if_pos (nI_lt q3 (by omega))]
        exact ⟨_, rfl, put y1 (by rw [hlos, if_pos (Or.inl q3)]), fr_p (Or.inl rfl)⟩
      · rw [if_neg (nI_nlt (by omega) (by omega))]
        by_cases q4 : v1 = v2
        · rw [if_pos (by rw [q4])]
          by_cases q5 : y1 ≤ y2
          · rw [if_pos (nI_le q5 (by omega))]
            exact ⟨_, rfl, put y2 (by rw [hlos, if_neg (by omega)]), fr_p (Or.inl rfl)⟩
          · rw [if_neg (nI_nl (by omega) (by omega))]
            exact ⟨_, rfl, put y1 (by rw [hlos, if_pos (by omega)]), fr_p (Or.inl rfl)⟩
        · rw [if_neg (fun z => q4 ((nI_eq (by omega) (by omega)).mp z))]
          exact ⟨_, rfl, put y2 (by rw [hlos, if_neg (by omega)]), fr_p (Or.inl rfl)⟩
theorem rq_pb_loop {τ : Tv} {N y1 y2 : Nat} {b : Bool} (hW : WT τ) (h1 : y1 < tv_b τ) (h2 : y2 < tv_b τ) (h12 : y1 ≠ y2) (hN : N ≤ 20) : ∀ (c i fuel : Nat) (t : dn_S) (m : Mv) (a : Int32), i + c = N → c < fuel → RT t τ → RM t 120 τ m → RO t 120 (-9, 0) → mv_d m + c ≤ 100 →
    ∃ t', m_X12_paidBy_10 fuel (nI y1) (nI y2) (nI N) b a (nI i) t = some (ab_pb τ y1 y2 b c m a, t') ∧ fr SR t t' := by
  have h4 := hW.1
  intro c
  induction c with
  | zero =>
    intro i fuel t m a hi hf hT hM hO hd
    obtain ⟨n, rfl⟩ : ∃ n, fuel = n + 1 := ⟨fuel - 1, by omega⟩
    rw [m_X12_paidBy_10, if_pos (show nI N ≤ nI i from nI_le (by omega) (by omega))]
    exact ⟨t, rfl, fr_refl⟩
  | succ c ih =>
    intro i fuel t m a hi hf hT hM hO hd
    obtain ⟨n, rfl⟩ : ∃ n, fuel = n + 1 := ⟨fuel - 1, by omega⟩
    obtain ⟨t1, e1, hT1, hM1, hO1, hz1, f1⟩ := ah_bids hW hT hM hO (by omega)
    rw [m_X12_paidBy_10, if_neg (show ¬ nI N ≤ nI i from nI_nl (by omega) (by omega)), e1, dn_bd_s, ab_pb]
    have key : ∀ t2, fr PBr t1 t2 → (∀ j, j < 5 → Zr t2 j (ab_cs τ m y1 y2 b j)) → ∃ t', m_X12_paidBy_95 (m_X12_paidBy_10 n) (nI y1) (nI y2) (nI N) b a (nI i) t2 = some (ab_pb τ y1 y2 b c (ab_ends τ m (ab_cs τ m y1 y2 b)).2 (a + if (ab_w (ab_c1 (ab_cs τ m y1 y2 b))).1 = nI y1 ∨ (ab_w (ab_c1 (ab_cs τ m y1 y2 b))).1 = nI y2 then ab_price (ab_c1 (ab_cs τ m y1 y2 b)) else 0), t') ∧ fr SR t t' := by
      intro t2 f2 hz2
      have hq : ∀ a j, PBr a j → a ≠ 101 ∨ j < 120 ∨ 120 + 120 ≤ j := fun a j q => by rcases q with q | q <;> omega
      have f2' : fr SR t1 t2 := fr_mono f2 (fun a j q => by rcases q with q | q <;> (unfold SR; omega))
      obtain ⟨t3, e3, hT3, hM3, hO3, w3, p3, f3⟩ := ah_ends hW (hT1.fr f2' (fun a j q => SR_rt q)) (hM1.fr f2 (by omega) hW.1 hq) (by omega) hz2 (ab_cs_0 τ m y1 y2 b)
      have hd3 := ab_ends_d τ m (ab_cs τ m y1 y2 b)
      obtain ⟨t4, e4, f4⟩ := ih (i + 1) n t3 (ab_ends τ m (ab_cs τ m y1 y2 b)).2 (a + if (ab_w (ab_c1 (ab_cs τ m y1 y2 b))).1 = nI y1 ∨ (ab_w (ab_c1 (ab_cs τ m y1 y2 b))).1 = nI y2 then ab_price (ab_c1 (ab_cs τ m y1 y2 b)) else 0) (by omega) (by omega) hT3 hM3 hO3 (by omega)
      refine ⟨t4, ?_, fr_trans f1 (fr_trans f2' (fr_trans f3 f4))⟩
      unfold m_X12_paidBy_95 m_X12_paidBy_128 m_X12_paidBy_135 m_X12_paidBy_136
      simp only [dn_lt_e]
      rw [e3, dn_bd_s, w3, p3, show nI i + (1 : Int32) = nI (i + 1) from by rw [nl_1, nI_add]]
      by_cases q5 : (ab_ends τ m (ab_cs τ m y1 y2 b)).1 = -5
      · have q9 := (ab_cs_n5 hW y1 y2 b).mp q5
        rw [if_pos q5]
        rw [if_neg (by rw [q9]; exact fun z => z.elim (fun z => nI_n9 (by omega) z.symm) (fun z => nI_n9 (by omega) z.symm))] at e4 ⊢
        exact e4
      · rw [if_neg q5]
        by_cases q : (ab_w (ab_c1 (ab_cs τ m y1 y2 b))).1 = nI y1
        · rw [if_pos q]
          rw [if_pos (Or.inl q)] at e4 ⊢
          exact e4
        · rw [if_neg q]
          by_cases r : (ab_w (ab_c1 (ab_cs τ m y1 y2 b))).1 = nI y2
          · rw [if_pos r]
            rw [if_pos (Or.inr r)] at e4 ⊢
            exact e4
          · rw [if_neg r]
            rw [if_neg (fun z => z.elim q r)] at e4 ⊢
            exact e4
    by_cases q : b = true
    · rw [if_pos q]
      subst q
      obtain ⟨t2, e2, hz2, f2⟩ := rq_sil (K := m_X12_paidBy_10 n) (y3 := nI N) (y5 := a) (y6 := nI i) hW (show y1 < 4 by omega) (show y2 < 4 by omega) h12 hz1
      rw [e2]
      exact key t2 f2 hz2
    · rw [if_neg q]
      refine key t1 fr_refl ?_
      unfold ab_cs
      rw [if_neg q]
      exact hz1
theorem ah_pb {s t : dn_S} {τ : Tv} {m : Mv} {N y1 y2 : Nat} (b : Bool) (hW : WT τ) (hT : CT s 3 τ) (hU : RT t τ) (hM : CM s 10 τ m) (hN : RM t 0 τ m) (hd : mv_d m ≤ 60) (h1 : y1 < tv_b τ) (h2 : y2 < tv_b τ) (h12 : y1 ≠ y2) (hn : N ≤ 20) :
    ∃ r s' t', m_X5_paidBy 10 (nI y1) (nI y2) (nI N) b s = some (r, s') ∧ m_X12_paidBy (nI y1) (nI y2) (nI N) b t = some (r, t') ∧ fr SC s s' ∧ fr SR t t' := by
  obtain ⟨s1, e1, hT1, hM1, f1⟩ := ah_c hW hT hM (by omega)
  obtain ⟨t1, g1, hU1, hN1, hO1, k1⟩ := ah_r hW hU hN (by omega)
  obtain ⟨s2, e2, f2⟩ := cq_pb_loop (b := b) hW h1 h2 hn N 0 2048 s1 m 0 (by omega) (by omega) hT1 hM1 (by omega)
  obtain ⟨t2, g2, k2⟩ := rq_pb_loop (b := b) hW h1 h2 h12 hn N 0 2048 t1 m 0 (by omega) (by omega) hU1 hN1 hO1 (by omega)
  refine ⟨ab_pb τ y1 y2 b N m 0, s2, t2, ?_, ?_, fr_trans f1 f2, fr_trans k1 k2⟩
  · unfold m_X5_paidBy
    rw [e1, dn_bd_s]
    exact e2
  · unfold m_X12_paidBy
    rw [g1, dn_bd_s]
    exact g2
theorem ok_ring (a1 a2 a3 : Int32) : Ok Int32 (m_X11_ring a1 a2 a3) (m_X12_ring a1 a2 a3) := by
  intro s t hR
  obtain ⟨τ, hW, hT, hU, ⟨m, o, hM, hN, -, -, hd, -⟩, hR2⟩ := id hR
  have h4 := hW.1
  unfold m_X11_ring m_X12_ring
  rw [cq_isBidder a1 hW hT, rq_isBidder a1 hW hU, dn_bd_s, dn_bd_s]
  by_cases h1 : ab_in a1.toInt (0 : Nat) ((tv_b τ : Int) - 1) = true
  · obtain ⟨y1, hy1, rfl⟩ := in_split1 h1
    rw [if_pos h1, if_pos h1, cq_isBidder a2 hW hT, rq_isBidder a2 hW hU, dn_bd_s, dn_bd_s]
    by_cases h2 : ab_in a2.toInt (0 : Nat) ((tv_b τ : Int) - 1) = true
    · obtain ⟨y2, hy2, rfl⟩ := in_split1 h2
      rw [if_pos h2, if_pos h2]
      by_cases h12 : nI y1 = nI y2
      · rw [if_pos h12, if_pos h12]
        exact ⟨_, s, t, rfl, rfl, hR⟩
      · have h12' : y1 ≠ y2 := fun z => h12 (by rw [z])
        rw [if_neg h12, if_neg h12, cq_within, rq_in, rq_i64, i32_1, i32_20, i64_1, i64_20, dn_bd_s, dn_bd_s]
        by_cases h3 : ab_in a3.toInt (1 : Nat) (20 : Nat) = true
        · obtain ⟨n, _, hn, rfl⟩ := in_split h3
          rw [if_pos h3, if_pos h3]
          obtain ⟨r1, s1, t1, e1, g1, f1, k1⟩ := ah_pb (N := n) false hW hT hU hM hN hd hy1 hy2 h12' hn
          obtain ⟨r2, s2, t2, e2, g2, f2, k2⟩ := ah_pb (N := n) true hW (hT.fr f1 (fun a j q => SC_ct q)) (hU.fr k1 (fun a j q => SR_rt q)) (hM.fr f1 (fun a j q => SC_cm q)) (hN.fr k1 (by omega) h4 (fun a j q => SR_rm q)) hd hy1 hy2 h12' hn
          rw [e1, g1, dn_bd_s, dn_bd_s, e2, g2, dn_bd_s, dn_bd_s]
          exact ⟨_, s2, t2, rfl, rfl, hR.scr (fr_trans f1 f2) (fr_trans k1 k2)⟩
        · rw [if_neg h3, if_neg h3]
          exact ⟨_, s, t, rfl, rfl, hR⟩
    · rw [if_neg h2, if_neg h2]
      exact ⟨_, s, t, rfl, rfl, hR⟩
  · rw [if_neg h1, if_neg h1]
    exact ⟨_, s, t, rfl, rfl, hR⟩
