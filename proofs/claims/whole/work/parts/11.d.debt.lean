/-! a debt told -/
def DF (τ : Tv) (s t : dn_S) (d j : Nat) : Prop := ∀ i, i < j → ∃ v : Nat, v ≤ 99 ∧ (i < 2 → v < tv_b τ) ∧ (i = 4 → v < 5) ∧ dn_g s 9 (d * 5 + i) = nI v ∧ dn_g t 114 (5 * d + i) = nI v
theorem df_fr {τ : Tv} {s s' t t' : dn_S} {d j : Nat} (h : DF τ s t d j) (hf : fr PN s s') (hg : fr PNr t t') : DF τ s' t' d j := by
  intro i hi
  obtain ⟨v, h0, h1, h2, h3, h4⟩ := h i hi
  exact ⟨v, h0, h1, h2, (hf.1 9 _ (fun q => by unfold PN at q; omega)).trans h3, (hg.1 114 _ (fun q => by unfold PNr at q; omega)).trans h4⟩
theorem df_step {τ : Tv} {s t : dn_S} {d j v : Nat} (h : DF τ s t d j) (h99 : v ≤ 99) (hv : j < 2 → v < tv_b τ) (hv4 : j = 4 → v < 5) : DF τ (dn_p s 9 (d * 5 + j) (nI v)) (dn_p t 114 (5 * d + j) (nI v)) d (j + 1) := by
  intro i hi
  by_cases q : i = j
  · subst q; exact ⟨v, h99, hv, hv4, dn_p_same _ _ _ _, dn_p_same _ _ _ _⟩
  · obtain ⟨w, h0, h1, h2, h3, h4⟩ := h i (by omega)
    exact ⟨w, h0, h1, h2, (dn_p_j _ _ _ _ _ _ (by omega)).trans h3, (dn_p_j _ _ _ _ _ _ (by omega)).trans h4⟩
theorem dr_dstep {s t : dn_S} {τ : Tv} {j : Nat} {v w : Int32} (h : DR s t τ) : DR (dn_p s 9 (tv_d τ * 5 + j) v) (dn_p t 114 (5 * tv_d τ + j) w) τ := by
  obtain ⟨w1, w2, w3, w4⟩ := h
  refine ⟨w1, ⟨?_, ?_, ?_, fun b hb f hf => ?_, fun d hd i hi => ?_⟩, ⟨?_, ?_, ?_, fun b hb => ⟨?_, ?_, fun n hn => ?_⟩, fun d hd i hi => ?_⟩, ?_⟩
  · rw [dn_p_k _ _ _ _ _ _ (by decide)]; exact w2.1
  · rw [dn_p_k _ _ _ _ _ _ (by decide)]; exact w2.2.1
  · rw [dn_p_k _ _ _ _ _ _ (by decide)]; exact w2.2.2.1
  · rw [dn_p_k _ _ _ _ _ _ (by decide)]; exact w2.2.2.2.1 b hb f hf
  · rw [dn_p_j _ _ _ _ _ _ (by omega)]; exact w2.2.2.2.2 d hd i hi
  · rw [dn_p_k _ _ _ _ _ _ (by decide)]; exact w3.1
  · rw [dn_p_k _ _ _ _ _ _ (by decide)]; exact w3.2.1
  · rw [dn_p_k _ _ _ _ _ _ (by decide)]; exact w3.2.2.1
  · rw [dn_p_k _ _ _ _ _ _ (by decide)]; exact (w3.2.2.2.1 b hb).1
  · rw [dn_p_k _ _ _ _ _ _ (by decide)]; exact (w3.2.2.2.1 b hb).2.1
  · rw [dn_p_k _ _ _ _ _ _ (by decide)]; exact (w3.2.2.2.1 b hb).2.2 n hn
  · rw [dn_p_j _ _ _ _ _ _ (by omega)]; exact w3.2.2.2.2 d hd i hi
  · rw [dn_p_k _ _ _ _ _ _ (by decide), dn_p_k _ _ _ _ _ _ (by decide)]; exact w4
def ab_td (τ : Tv) (s : dn_S) : Tv := (tv_b τ, tv_d τ + 1, tv_r τ, (fun b f => tv_F τ b f), fun d j => if d = tv_d τ then dn_g s 9 (tv_d τ * 5 + j) else tv_O τ d j)
theorem td_O (τ : Tv) (s : dn_S) (d j : Nat) : tv_O (ab_td τ s) d j = if d = tv_d τ then dn_g s 9 (tv_d τ * 5 + j) else tv_O τ d j := rfl
theorem dr_td {s t : dn_S} {τ : Tv} (h : DR s t τ) (hd6 : tv_d τ < 6) (hB : DF τ s t (tv_d τ) 5) : DR (dn_p s 7 3 (nI (tv_d τ + 1))) (dn_p t 100 28 (nI (tv_d τ + 1))) (ab_td τ s) := by
  obtain ⟨w1, w2, w3, w4⟩ := h
  refine ⟨⟨w1.1, hd6, w1.2.2.1, w1.2.2.2.1, fun d hd => ?_⟩, ⟨?_, ?_, ?_, fun b hb f hf => ?_, fun d hd j hj => ?_⟩, ⟨?_, ?_, ?_, fun b hb => ⟨?_, ?_, fun n hn => ?_⟩, fun d hd j hj => ?_⟩, ?_⟩
  · rw [td_O, td_O, td_O]
    by_cases q : d = tv_d τ
    · rw [if_pos q, if_pos q, if_pos q]
      obtain ⟨x, _, a1, _, a2, _⟩ := hB 0 (by omega)
      obtain ⟨y, _, b1, _, b2, _⟩ := hB 1 (by omega)
      obtain ⟨z, _, _, c1, c2, _⟩ := hB 4 (by omega)
      exact ⟨⟨x, a1 (by omega), a2⟩, ⟨y, b1 (by omega), b2⟩, ⟨z, c1 rfl, c2⟩⟩
    · rw [if_neg q, if_neg q, if_neg q]
      exact w1.2.2.2.2 d (by have : d < tv_d τ + 1 := hd; omega)
  · rw [dn_p_j _ _ _ _ _ _ (by decide)]; exact w2.1
  · rw [dn_p_same]; rfl
  · rw [dn_p_j _ _ _ _ _ _ (by decide)]; exact w2.2.2.1
  · rw [dn_p_k _ _ _ _ _ _ (by decide)]; exact w2.2.2.2.1 b hb f hf
  · rw [dn_p_k _ _ _ _ _ _ (by decide), td_O]
    by_cases q : d = tv_d τ
    · rw [if_pos q, q]
    · rw [if_neg q]; exact w2.2.2.2.2 d (by have : d < tv_d τ + 1 := hd; omega) j hj
  · rw [dn_p_j _ _ _ _ _ _ (by decide)]; exact w3.1
  · rw [dn_p_same]; rfl
  · rw [dn_p_j _ _ _ _ _ _ (by decide)]; exact w3.2.2.1
  · rw [dn_p_k _ _ _ _ _ _ (by decide)]; exact (w3.2.2.2.1 b hb).1
  · rw [dn_p_k _ _ _ _ _ _ (by decide)]; exact (w3.2.2.2.1 b hb).2.1
  · rw [dn_p_k _ _ _ _ _ _ (by decide)]; exact (w3.2.2.2.1 b hb).2.2 n hn
  · rw [dn_p_k _ _ _ _ _ _ (by decide), td_O]
    by_cases q : d = tv_d τ
    · rw [if_pos q, q]
      obtain ⟨v, _, _, _, h2, h3⟩ := hB j (by omega)
      exact h3.trans h2.symm
    · rw [if_neg q]; exact w3.2.2.2.2 d (by have : d < tv_d τ + 1 := hd; omega) j hj
  · rw [dn_p_k _ _ _ _ _ _ (by decide), dn_p_j _ _ _ _ _ _ (by decide)]; exact w4
def dhi (τ : Tv) (j : Nat) : Int32 := if 1 < j then dn_st2 j else nI (tv_b τ) - 1
theorem cq_d47 {s : dn_S} {τ : Tv} {n j : Nat} {y1 : Int32} (h2 : dn_g s 7 2 = nI (tv_b τ)) (hj : j < 5) : m_X8_readsDebt_18 (n + 1) y1 (nI j) s = m_X8_readsDebt_47 (m_X8_readsDebt_18 n) y1 (nI j) (dhi τ j) s := by
  rw [m_X8_readsDebt_18, if_neg (show ¬ 5 ≤ nI j from nI_nl (a := 5) (by omega) (by omega)), h2]
  unfold dhi
  by_cases q : 1 < j
  · rw [if_pos (show 1 < nI j from nI_lt (a := 1) q (by omega)), if_pos q, at_s hj (by omega), dn_bd_s]
  · rw [if_neg (show ¬ 1 < nI j from nI_nlt (a := 1) (by omega) (by omega)), if_neg q]
theorem rq_d75 {t : dn_S} {τ : Tv} {n j : Nat} {y1 : Int32} (h2 : dn_g t 100 22 = nI (tv_b τ)) (hj : j < 5) : ∃ z, dn_b z = dn_st1 j ∧ m_X12_takesDebt_20 (n + 1) y1 (nI j) t = m_X12_takesDebt_75 (m_X12_takesDebt_20 n) y1 (nI j) z (dhi τ j) t := by
  rw [m_X12_takesDebt_20, if_neg (show ¬ 5 ≤ nI j from nI_nl (a := 5) (by omega) (by omega))]
  unfold m_X12_takesDebt_35 m_X12_takesDebt_40
  rw [h2]
  have : j = 0 ∨ j = 1 ∨ j = 2 ∨ j = 3 ∨ j = 4 := by omega
  rcases this with rfl | rfl | rfl | rfl | rfl
  · exact ⟨false, rfl, by rw [if_neg (by decide), if_neg (by decide), if_neg (by decide)]; rfl⟩
  · exact ⟨false, rfl, by rw [if_neg (by decide), if_neg (by decide), if_neg (by decide)]; rfl⟩
  · exact ⟨true, rfl, by rw [if_pos (show nI 2 = 2 from rfl), if_pos (by decide), if_pos (show nI 2 = 2 from rfl)]; rfl⟩
  · exact ⟨true, rfl, by rw [if_neg (show ¬ nI 3 = 2 by decide), if_pos (show nI 3 = 3 from rfl), if_pos (by decide), if_neg (by decide), if_pos (show nI 3 = 3 from rfl)]; rfl⟩
  · exact ⟨false, rfl, by rw [if_neg (show ¬ nI 4 = 2 by decide), if_neg (show ¬ nI 4 = 3 by decide), if_pos (by decide), if_neg (by decide), if_neg (by decide)]; rfl⟩
theorem d_loop {N : Nat} {L : Nat → Int32} {τ : Tv} (hN : N ≤ 200) (hd6 : tv_d τ < 6) : ∀ (c j f g p f0 : Nat) (s t : dn_S), j + c = 5 → c < f → c < g → XS N L s t p f0 → DR s t τ → DF τ s t (tv_d τ) j →
    IT N L s t p (m_X8_readsDebt_18 f (nI (tv_d τ)) (nI j) s) (dn_bd (m_X12_takesDebt_20 g (nI (5 * tv_d τ)) (nI j) t) fun r13 s11 => m_X12_takesItem_63 r13 s11) := by
  intro c
  induction c with
  | zero =>
    intro j f g p f0 s t hj hf hg hX hD hB
    obtain ⟨f, rfl⟩ : ∃ n, f = n + 1 := ⟨f - 1, by omega⟩
    obtain ⟨g, rfl⟩ : ∃ n, g = n + 1 := ⟨g - 1, by omega⟩
    have h7 : j = 5 := by omega
    subst h7
    rw [m_X8_readsDebt_18, if_pos (show 5 ≤ nI 5 by decide), m_X12_takesDebt_20, if_pos (show 5 ≤ nI 5 by decide), dn_wr_e, hD.2.2.1.2.1, nl_1, nI_add, dn_bd_s]
    have k2 : fr (fun a i => a = 100 ∧ i = 28) t (dn_p t 100 28 (nI (tv_d τ + 1))) := fr_p ⟨rfl, rfl⟩
    have hX2 := xs_fr hX (fr_refl (P := fun _ _ => False) (s := s)) k2 (fun a j q => q.elim) (fun a j q => by omega)
    have hE := it_end (K := fun s' => dn_p s' 7 3 (nI (tv_d τ + 1))) (τ := ab_td τ s) hN hX2 (fun s' t' hf hg => ?_) (fun s' => fr_p rfl)
    · have ec : (dn_bd (m_X8_readsEnd s) fun r3 s1 => (if r3 = true then dn_wr (dn_p s1 7 3 ((dn_g s1 7 3) + nI 1)) fun s4 => some (true, s4) else some (false, s1))) = (dn_bd (m_X8_readsEnd s) fun r3 s1 => (if r3 = true then some (true, dn_p s1 7 3 (nI (tv_d τ + 1))) else some (false, s1))) := by
        obtain ⟨hc, hr, a1, a2, a3, a4, a5, a6⟩ := hX2
        obtain ⟨b, s1, t1, ff, e1, g1, hf, z1, z2, f1, k1, hb⟩ := x_end hN a5 hc hr a1 a2
        rw [e1, dn_bd_s, dn_bd_s, dn_wr_e, f1.1 7 3 (fun q => by unfold PN at q; omega), hD.2.1.2.1, nI_add]
      rw [ec]
      exact it_mono hE fr_refl (fr_mono k2 (fun a j q => by unfold PIr; omega)) (Nat.le_refl _)
    · have d1 := dr_td hD hd6 hB
      have hf2 : fr PN (dn_p s 7 3 (nI (tv_d τ + 1))) (dn_p s' 7 3 (nI (tv_d τ + 1))) := by
        refine ⟨fun a j q => ?_, hf.2⟩
        rw [dn_g_p, dn_g_p]
        by_cases r : a = 7 ∧ j = 3
        · rw [if_pos r, if_pos r]
        · rw [if_neg r, if_neg r]; exact hf.1 a j q
      exact dr_fr d1 hf2 hg
  | succ c ih =>
    intro j f g p f0 s t hj hf hg hX hD hB
    obtain ⟨f, rfl⟩ : ∃ n, f = n + 1 := ⟨f - 1, by omega⟩
    obtain ⟨g, rfl⟩ : ∃ n, g = n + 1 := ⟨g - 1, by omega⟩
    have hb4 := hD.1.1
    obtain ⟨z, hz, er⟩ := rq_d75 (n := g) (j := j) (y1 := nI (5 * tv_d τ)) hD.2.2.1.1 (by omega)
    rw [cq_d47 hD.2.1.1 (by omega), er]
    unfold m_X8_readsDebt_47 m_X12_takesDebt_75 m_X8_readsDebt_88 m_X12_takesDebt_107
    rw [at_s (by omega) (by omega), dn_bd_s, hz]
    obtain ⟨b, s1, t1, f1, e1, g1, hf1, z1, z2, k1, l1, hb⟩ := xs_num (dn_st1 j) (dhi τ j) hN hX
    rw [e1, g1, dn_bd_s, dn_bd_s]
    have hD1 := dr_fr hD k1 l1
    have hB1 := df_fr hB k1 l1
    have no : ∀ (f2 : fr PI s s1) (f3 : fr PIr t t1), IT N L s t p (some (false, s1)) (dn_bd (some (false, t1)) fun r13 s11 => m_X12_takesItem_63 r13 s11) := by
      intro f2 f3
      rw [dn_bd_s]
      unfold m_X12_takesItem_63
      rw [if_neg (by decide)]
      exact it_no hf1 z1 z2 f2 f3
    cases b with
    | false =>
      rw [if_neg (by decide), if_neg (by decide)]
      exact no (fr_mono k1 (fun a j q => PN_PI q)) (fr_mono l1 (fun a j q => PNr_PIr q))
    | true =>
      obtain ⟨q, v, h1, h3, h4, h5, hX1, h8, h9⟩ := hb rfl
      rw [if_pos rfl, if_pos rfl, h8, h9]
      have hv2 : j < 2 → v < tv_b τ := fun h => by
        unfold dhi at h5
        rw [if_neg (by omega), nI_m1 (by omega)] at h5
        omega
      have hv4 : j = 4 → v < 5 := fun h => by
        subst h
        have : (dhi τ 4).toInt = 4 := by unfold dhi; rw [if_pos (by omega)]; decide
        omega
      have e2 : m_X10_setOfDebt 7 (nI (tv_d τ)) (nI j) (nI v) s1 = some ((), dn_p s1 9 (tv_d τ * 5 + j) (nI v)) := by
        unfold m_X10_setOfDebt
        try simp (disch := omega) only [nl_0, nl_1, nl_2, nl_3, nl_4, nl_5, nl_6, nl_7, nl_8, nl_9, nl_10, nl_16, nl_17, nl_19, nl_20, nl_21, nl_30, nl_31, nl_32, nl_40, nl_41, nl_48, nl_50, nl_57, nl_60, nl_64, nl_99, nl_100, nl_119, nl_120, nl_121, nl_122, nl_123, nl_124, nl_125, nl_126, nl_130, nl_136, nl_200, nl_240, nl_255, nl_256, nl_257, nl_480, nl_1080, nI_add, nI_mul, nI_sub, cq_ib, nI_clamp, nI_leI, nI_ltI, nI_eq, dn_ck_t, dn_bd_s, dn_wr_e, dn_lt_e, cq_ofNat]
        rw [cq_put_nI (by omega) (by omega)]
        rfl
      have go : IT N L s t p (m_X8_readsDebt_18 f (nI (tv_d τ)) (nI (j + 1)) (dn_p s1 9 (tv_d τ * 5 + j) (nI v))) (dn_bd (m_X12_takesDebt_20 g (nI (5 * tv_d τ)) (nI (j + 1)) (dn_p t1 114 (5 * tv_d τ + j) (nI v))) fun r13 s11 => m_X12_takesItem_63 r13 s11) := by
        have k2 : fr (fun a i => a = 9) s1 (dn_p s1 9 (tv_d τ * 5 + j) (nI v)) := fr_p rfl
        have l2 : fr (fun a i => a = 114) t1 (dn_p t1 114 (5 * tv_d τ + j) (nI v)) := fr_p rfl
        have := ih (j + 1) f g q f1 _ _ (by omega) (by omega) (by omega) (xs_fr hX1 k2 l2 (fun a j q => by omega) (fun a j q => by omega)) (dr_dstep hD1) (df_step hB1 h3 hv2 hv4)
        exact it_mono this (fr_trans (fr_mono k1 (fun a j q => PN_PI q)) (fr_mono k2 (fun a j q => by unfold PI; omega))) (fr_trans (fr_mono l1 (fun a j q => PNr_PIr q)) (fr_mono l2 (fun a j q => by unfold PIr; omega))) (by omega)
      rw [e2, dn_bd_s]
      simp only [dn_lt_e]
      rw [show nI j + (1 : Int32) = nI (j + 1) from by rw [nl_1, nI_add], nI_add, cq_ib (show 5 * tv_d τ + j < 30 by omega) (by omega), dn_ck_t, nI_clamp (show 5 * tv_d τ + j < 2 ^ 31 by omega), dn_wr_e]
      by_cases q1 : j = 1
      · subst q1
        rw [if_pos (show nI 1 = 1 from rfl), if_pos (show nI 1 = 1 from rfl)]
        obtain ⟨w, _, _, _, u1, u2⟩ := hB1 0 (by omega)
        have e3 : m_X10_ofDebt 7 (nI (tv_d τ)) 0 s1 = some (nI w, s1) := by
          unfold m_X10_ofDebt
          try simp (disch := omega) only [nl_0, nl_1, nl_2, nl_3, nl_4, nl_5, nl_6, nl_7, nl_8, nl_9, nl_10, nl_16, nl_17, nl_19, nl_20, nl_21, nl_30, nl_31, nl_32, nl_40, nl_41, nl_48, nl_50, nl_57, nl_60, nl_64, nl_99, nl_100, nl_119, nl_120, nl_121, nl_122, nl_123, nl_124, nl_125, nl_126, nl_130, nl_136, nl_200, nl_240, nl_255, nl_256, nl_257, nl_480, nl_1080, nI_add, nI_mul, nI_sub, cq_ib, nI_clamp, nI_leI, nI_ltI, nI_eq, dn_ck_t, dn_bd_s, dn_wr_e, dn_lt_e, cq_ofNat]
          rw [cq_at_nI (by omega) (by omega), dn_bd_s]
          rw [show dn_g s1 (7 + 2) (tv_d τ * 5 + 0) = nI w from u1]
        rw [e3, dn_bd_s, cq_ib (show 5 * tv_d τ < 30 by omega) (by omega), dn_ck_t, nI_clamp (show 5 * tv_d τ < 2 ^ 31 by omega), show dn_g t1 114 (5 * tv_d τ) = nI w from u2]
        by_cases q2 : nI v = nI w
        · rw [if_pos q2, if_pos q2]
          exact no (fr_mono k1 (fun a j q => PN_PI q)) (fr_mono l1 (fun a j q => PNr_PIr q))
        · rw [if_neg q2, if_neg q2, h8, e2, dn_bd_s]
          exact go
      · have hq : ¬ nI j = 1 := fun z => q1 ((nI_eq (b := 1) (by omega) (by omega)).mp z)
        rw [if_neg hq, if_neg hq]
        exact go
theorem x_debt {N p f0 : Nat} {L : Nat → Int32} {s t : dn_S} {τ : Tv} (hN : N ≤ 200) (hX : XS N L s t p f0) (hD : DR s t τ) :
    IT N L s t p (m_X8_readsDebt s) (dn_bd (m_X12_takesDebt t) fun r10 s8 => m_X12_takesItem_63 r10 s8) := by
  have hb := hD.1.2.1
  unfold m_X8_readsDebt m_X12_takesDebt
  rw [hD.2.1.2.1, hD.2.2.1.2.1, dn_lt_e]
  by_cases h6 : tv_d τ = 6
  · rw [if_neg (show ¬ nI (tv_d τ) < 6 from nI_nlt (b := 6) (by omega) (by omega)), if_pos (by rw [h6]; rfl), dn_bd_s]
    unfold m_X12_takesItem_63
    rw [if_neg (by decide)]
    exact it_no hX.2.2.2.2.2.2.2 hX.2.2.2.2.1 hX.2.2.2.2.2.1 fr_refl fr_refl
  · have hd6 : tv_d τ < 6 := by omega
    rw [if_pos (show nI (tv_d τ) < 6 from nI_lt (b := 6) hd6 (by omega)), if_neg (show ¬ nI (tv_d τ) = 6 from fun z => h6 ((nI_eq (b := 6) (by omega) (by omega)).mp z)), dn_lt_e, show (5 : Int32) * nI (tv_d τ) = nI (5 * tv_d τ) from by rw [nl_5, nI_mul]]
    exact d_loop hN hd6 5 0 2048 2048 p f0 s t (by omega) (by omega) (by omega) hX hD (fun i hi => by omega)
