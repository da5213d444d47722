/-! a bidder told, a debt told -/
theorem at_s {n j : Nat} {f : Nat → Int32} {s : dn_S} (hj : j < n) (hn : n < 1000) : m_X11_at_s n f (nI j) s = some (f j, s) := by
  unfold m_X11_at_s
  rw [if_neg (show ¬ nI j < 0 from nI_nlt (b := 0) (by omega) (by omega)), if_neg (show ¬ Int32.ofNat n ≤ nI j from nI_nl (by omega) (by omega)), cq_ib hj (by omega), dn_ck_t, nI_clamp (by omega)]
def rbf (t : dn_S) (b i : Nat) : Int32 := if i = 0 then dn_g t 111 b else if i = 1 then dn_g t 112 b else dn_g t 113 (5 * b + (i - 2))
def BF (s t : dn_S) (b j : Nat) : Prop := ∀ i, i < j → ∃ v : Nat, (2 ≤ i → v ≤ 20) ∧ dn_g s 8 (b * 7 + i) = nI v ∧ rbf t b i = nI v
def wb (t : dn_S) (b j : Nat) (v : Int32) : dn_S := if j = 0 then dn_p t 111 b v else if j = 1 then dn_p t 112 b v else dn_p t 113 (5 * b + (j - 2)) v
theorem wb_fr {t : dn_S} {b j : Nat} {v : Int32} : fr (fun a i => (a = 111 ∧ i = b) ∨ (a = 112 ∧ i = b) ∨ (a = 113 ∧ 5 * b ≤ i)) t (wb t b j v) := by
  unfold wb
  by_cases q : j = 0
  · rw [if_pos q]; exact fr_p (Or.inl ⟨rfl, rfl⟩)
  · rw [if_neg q]
    by_cases q1 : j = 1
    · rw [if_pos q1]; exact fr_p (Or.inr (Or.inl ⟨rfl, rfl⟩))
    · rw [if_neg q1]; exact fr_p (Or.inr (Or.inr ⟨rfl, by omega⟩))
theorem wb_same {t : dn_S} {b j : Nat} {v : Int32} : rbf (wb t b j v) b j = v := by
  unfold wb rbf
  by_cases q : j = 0
  · rw [if_pos q, if_pos q]; exact dn_p_same _ _ _ _
  · rw [if_neg q, if_neg q]
    by_cases q1 : j = 1
    · rw [if_pos q1, if_pos q1]; exact dn_p_same _ _ _ _
    · rw [if_neg q1, if_neg q1]; exact dn_p_same _ _ _ _
theorem wb_other {t : dn_S} {b j i : Nat} {v : Int32} (h : i ≠ j) : rbf (wb t b j v) b i = rbf t b i := by
  unfold wb rbf
  by_cases q : j = 0
  · rw [if_pos q, if_neg (show ¬ i = 0 by omega), if_neg (show ¬ i = 0 by omega), dn_p_k _ _ _ _ _ _ (by decide), dn_p_k _ _ _ _ _ _ (by decide)]
  · rw [if_neg q]
    by_cases q1 : j = 1
    · rw [if_pos q1, if_neg (show ¬ i = 1 by omega), if_neg (show ¬ i = 1 by omega), dn_p_k _ _ _ _ _ _ (by decide), dn_p_k _ _ _ _ _ _ (by decide)]
    · rw [if_neg q1, dn_p_k _ _ _ _ _ _ (by decide), dn_p_k _ _ _ _ _ _ (by decide)]
      by_cases r : i = 0
      · rw [if_pos r, if_pos r]
      · rw [if_neg r, if_neg r]
        by_cases r1 : i = 1
        · rw [if_pos r1, if_pos r1]
        · rw [if_neg r1, if_neg r1, dn_p_j _ _ _ _ _ _ (by omega)]
theorem rbf_fr {P : Nat → Nat → Prop} {t t' : dn_S} {b i : Nat} (hf : fr P t t') (hP : ∀ a j, P a j → a = 100) : rbf t' b i = rbf t b i := by
  unfold rbf
  rw [hf.1 111 b (fun q => by have := hP _ _ q; omega), hf.1 112 b (fun q => by have := hP _ _ q; omega), hf.1 113 _ (fun q => by have := hP _ _ q; omega)]
theorem bf_fr {s s' t t' : dn_S} {b j : Nat} (h : BF s t b j) (hf : fr PN s s') (hg : fr PNr t t') : BF s' t' b j := by
  intro i hi
  obtain ⟨v, h1, h2, h3⟩ := h i hi
  exact ⟨v, h1, (hf.1 8 _ (fun q => by unfold PN at q; omega)).trans h2, (rbf_fr hg (fun a j q => q.1)).trans h3⟩
theorem bf_step {s t : dn_S} {b j v : Nat} (h : BF s t b j) (hv : 2 ≤ j → v ≤ 20) : BF (dn_p s 8 (b * 7 + j) (nI v)) (wb t b j (nI v)) b (j + 1) := by
  intro i hi
  by_cases q : i = j
  · subst q; exact ⟨v, hv, dn_p_same _ _ _ _, wb_same⟩
  · obtain ⟨w, h1, h2, h3⟩ := h i (by omega)
    exact ⟨w, h1, (dn_p_j _ _ _ _ _ _ (by omega)).trans h2, (wb_other q).trans h3⟩
theorem dr_step {s t : dn_S} {τ : Tv} {j : Nat} {v : Int32} (h : DR s t τ) : DR (dn_p s 8 (tv_b τ * 7 + j) v) (wb t (tv_b τ) j v) τ := by
  obtain ⟨w1, w2, w3, w4⟩ := h
  have k := @wb_fr t (tv_b τ) j v
  refine ⟨w1, ⟨?_, ?_, ?_, fun b hb f hf => ?_, fun d hd j hj => ?_⟩, ⟨?_, ?_, ?_, fun b hb => ⟨?_, ?_, fun n hn => ?_⟩, fun d hd j hj => ?_⟩, ?_⟩
  · rw [dn_p_k _ _ _ _ _ _ (by decide)]; exact w2.1
  · rw [dn_p_k _ _ _ _ _ _ (by decide)]; exact w2.2.1
  · rw [dn_p_k _ _ _ _ _ _ (by decide)]; exact w2.2.2.1
  · rw [dn_p_j _ _ _ _ _ _ (by omega)]; exact w2.2.2.2.1 b hb f hf
  · rw [dn_p_k _ _ _ _ _ _ (by decide)]; exact w2.2.2.2.2 d hd j hj
  · rw [k.1 100 22 (by omega)]; exact w3.1
  · rw [k.1 100 28 (by omega)]; exact w3.2.1
  · rw [k.1 100 26 (by omega)]; exact w3.2.2.1
  · rw [k.1 111 b (by omega)]; exact (w3.2.2.2.1 b hb).1
  · rw [k.1 112 b (by omega)]; exact (w3.2.2.2.1 b hb).2.1
  · rw [k.1 113 _ (by omega)]; exact (w3.2.2.2.1 b hb).2.2 n hn
  · rw [k.1 114 _ (by omega)]; exact w3.2.2.2.2 d hd j hj
  · rw [dn_p_k _ _ _ _ _ _ (by decide), k.1 100 27 (by omega)]; exact w4
def ab_tb (τ : Tv) (s : dn_S) : Tv := (tv_b τ + 1, tv_d τ, tv_r τ, (fun b f => if b = tv_b τ then dn_g s 8 (tv_b τ * 7 + f) else tv_F τ b f), fun d j => tv_O τ d j)
theorem tb_F (τ : Tv) (s : dn_S) (b f : Nat) : tv_F (ab_tb τ s) b f = if b = tv_b τ then dn_g s 8 (tv_b τ * 7 + f) else tv_F τ b f := rfl
theorem dr_tb {s t : dn_S} {τ : Tv} (h : DR s t τ) (hb4 : tv_b τ < 4) (hB : BF s t (tv_b τ) 7) : DR (dn_p s 7 2 (nI (tv_b τ + 1))) (dn_p t 100 22 (nI (tv_b τ + 1))) (ab_tb τ s) := by
  obtain ⟨w1, w2, w3, w4⟩ := h
  refine ⟨⟨hb4, w1.2.1, w1.2.2.1, fun b hb n hn => ?_, fun d hd => ?_⟩, ⟨?_, ?_, ?_, fun b hb f hf => ?_, fun d hd j hj => ?_⟩, ⟨?_, ?_, ?_, fun b hb => ⟨?_, ?_, fun n hn => ?_⟩, fun d hd j hj => ?_⟩, ?_⟩
  · rw [tb_F]
    by_cases q : b = tv_b τ
    · rw [if_pos q]
      obtain ⟨v, h1, h2, h3⟩ := hB (n + 2) (by omega)
      exact ⟨v, h1 (by omega), h2⟩
    · rw [if_neg q]
      exact w1.2.2.2.1 b (by have : b < tv_b τ + 1 := hb; omega) n hn
  · obtain ⟨⟨x, a1, a2⟩, ⟨y, b1, b2⟩, c⟩ := w1.2.2.2.2 d hd
    exact ⟨⟨x, by show x < tv_b τ + 1; omega, a2⟩, ⟨y, by show y < tv_b τ + 1; omega, b2⟩, c⟩
  · rw [dn_p_same]; rfl
  · rw [dn_p_j _ _ _ _ _ _ (by decide)]; exact w2.2.1
  · rw [dn_p_j _ _ _ _ _ _ (by decide)]; exact w2.2.2.1
  · rw [dn_p_k _ _ _ _ _ _ (by decide), tb_F]
    by_cases q : b = tv_b τ
    · rw [if_pos q, q]
    · rw [if_neg q]; exact w2.2.2.2.1 b (by have : b < tv_b τ + 1 := hb; omega) f hf
  · rw [dn_p_k _ _ _ _ _ _ (by decide)]; exact w2.2.2.2.2 d hd j hj
  · rw [dn_p_same]; rfl
  · rw [dn_p_j _ _ _ _ _ _ (by decide)]; exact w3.2.1
  · rw [dn_p_j _ _ _ _ _ _ (by decide)]; exact w3.2.2.1
  · rw [dn_p_k _ _ _ _ _ _ (by decide), tb_F]
    by_cases q : b = tv_b τ
    · rw [if_pos q, q]
      obtain ⟨v, h1, h2, h3⟩ := hB 0 (by omega)
      exact (show rbf t (tv_b τ) 0 = _ from h3).trans h2.symm
    · rw [if_neg q]; exact (w3.2.2.2.1 b (by have : b < tv_b τ + 1 := hb; omega)).1
  · rw [dn_p_k _ _ _ _ _ _ (by decide), tb_F]
    by_cases q : b = tv_b τ
    · rw [if_pos q, q]
      obtain ⟨v, h1, h2, h3⟩ := hB 1 (by omega)
      exact (show rbf t (tv_b τ) 1 = _ from h3).trans h2.symm
    · rw [if_neg q]; exact (w3.2.2.2.1 b (by have : b < tv_b τ + 1 := hb; omega)).2.1
  · rw [dn_p_k _ _ _ _ _ _ (by decide), tb_F]
    by_cases q : b = tv_b τ
    · rw [if_pos q, q]
      obtain ⟨v, h1, h2, h3⟩ := hB (n + 2) (by omega)
      unfold rbf at h3
      rw [if_neg (by omega), if_neg (by omega), show n + 2 - 2 = n by omega] at h3
      exact h3.trans h2.symm
    · rw [if_neg q]; exact (w3.2.2.2.1 b (by have : b < tv_b τ + 1 := hb; omega)).2.2 n hn
  · rw [dn_p_k _ _ _ _ _ _ (by decide)]; exact w3.2.2.2.2 d hd j hj
  · rw [dn_p_k _ _ _ _ _ _ (by decide), dn_p_j _ _ _ _ _ _ (by decide)]; exact w4
/-- one number of a bidder on both sides -/
theorem b_step {N p f0 j n : Nat} {L : Nat → Int32} {s t : dn_S} {τ : Tv} {hi : Int32} {Kr : dn_S → Option (Bool × dn_S)} (hN : N ≤ 200) (hX : XS N L s t p f0) (hD : DR s t τ) (hb4 : tv_b τ < 4) (hB : BF s t (tv_b τ) j) (hj : j < 7) (hhi : dn_st0 j = hi)
    (next : ∀ s' t' q f1, XS N L s' t' q f1 → DR s' t' τ → BF s' t' (tv_b τ) (j + 1) → p < q → IT N L s' t' q (m_X8_readsBidder_17 n (nI (tv_b τ)) (nI (j + 1)) s') (Kr t')) :
    IT N L s t p (m_X8_readsBidder_17 (n + 1) (nI (tv_b τ)) (nI j) s) (dn_bd (m_X12_takesNumber 0 hi t) fun r4 s2 => (if r4 = true then Kr (wb s2 (tv_b τ) j (dn_g s2 100 20)) else some (false, s2))) := by
  rw [m_X8_readsBidder_17, if_neg (show ¬ 7 ≤ nI j from nI_nl (a := 7) (by omega) (by omega)), at_s hj (by omega), dn_bd_s, hhi]
  obtain ⟨b, s1, t1, f1, e1, g1, hf, z1, z2, k1, l1, hb⟩ := xs_num 0 hi hN hX
  rw [e1, g1, dn_bd_s, dn_bd_s]
  cases b with
  | false =>
    rw [if_neg (by decide), if_neg (by decide)]
    exact it_no hf z1 z2 (fr_mono k1 (fun a j q => PN_PI q)) (fr_mono l1 (fun a j q => PNr_PIr q))
  | true =>
    obtain ⟨q, v, h1, h3, h4, h5, hX1, h8, h9⟩ := hb rfl
    rw [if_pos rfl, if_pos rfl, h8, h9]
    have e2 : m_X10_setOfBidder 7 (nI (tv_b τ)) (nI j) (nI v) s1 = some ((), dn_p s1 8 (tv_b τ * 7 + j) (nI v)) := by
      unfold m_X10_setOfBidder
      try simp (disch := omega) only [nl_0, nl_1, nl_2, nl_3, nl_4, nl_5, nl_6, nl_7, nl_8, nl_9, nl_10, nl_16, nl_17, nl_19, nl_20, nl_21, nl_30, nl_31, nl_32, nl_40, nl_41, nl_48, nl_50, nl_57, nl_60, nl_64, nl_99, nl_100, nl_119, nl_120, nl_121, nl_122, nl_123, nl_124, nl_125, nl_126, nl_130, nl_136, nl_200, nl_240, nl_255, nl_256, nl_257, nl_480, nl_1080, nI_add, nI_mul, nI_sub, cq_ib, nI_clamp, nI_leI, nI_ltI, nI_eq, dn_ck_t, dn_bd_s, dn_wr_e, dn_lt_e, cq_ofNat]
      rw [cq_put_nI (by omega) (by omega)]
      rfl
    rw [e2, dn_bd_s, dn_lt_e, show nI j + (1 : Int32) = nI (j + 1) from by rw [nl_1, nI_add]]
    have hv : 2 ≤ j → v ≤ 20 := fun h => by
      have : hi = 20 := by
        rw [← hhi]
        have : j = 2 ∨ j = 3 ∨ j = 4 ∨ j = 5 ∨ j = 6 := by omega
        rcases this with rfl | rfl | rfl | rfl | rfl <;> rfl
      rw [this, i32_20] at h5
      omega
    have k2 : fr (fun a i => a = 8) s1 (dn_p s1 8 (tv_b τ * 7 + j) (nI v)) := fr_p rfl
    have l2 := @wb_fr t1 (tv_b τ) j (nI v)
    have := next _ _ q f1 (xs_fr hX1 k2 l2 (fun a j q => by omega) (fun a j q => by omega)) (dr_step (dr_fr hD k1 l1)) (bf_step (bf_fr hB k1 l1) hv) h1
    exact it_mono this (fr_trans (fr_mono k1 (fun a j q => PN_PI q)) (fr_mono k2 (fun a j q => by unfold PI; omega))) (fr_trans (fr_mono l1 (fun a j q => PNr_PIr q)) (fr_mono l2 (fun a j q => by unfold PIr; omega))) (by omega)
theorem b_loop {N : Nat} {L : Nat → Int32} {τ : Tv} (hN : N ≤ 200) (hb4 : tv_b τ < 4) : ∀ (c j f g p f0 : Nat) (s t : dn_S), 2 ≤ j → j + c = 7 → c < f → c < g → XS N L s t p f0 → DR s t τ → BF s t (tv_b τ) j →
    IT N L s t p (m_X8_readsBidder_17 f (nI (tv_b τ)) (nI j) s) (dn_bd (m_X12_takesBidder_60 g (nI (j - 2)) t) fun r13 s11 => m_X12_takesItem_63 r13 s11) := by
  intro c
  induction c with
  | zero =>
    intro j f g p f0 s t h2 hj hf hg hX hD hB
    obtain ⟨f, rfl⟩ : ∃ n, f = n + 1 := ⟨f - 1, by omega⟩
    obtain ⟨g, rfl⟩ : ∃ n, g = n + 1 := ⟨g - 1, by omega⟩
    have h7 : j = 7 := by omega
    subst h7
    rw [m_X8_readsBidder_17, if_pos (show 7 ≤ nI 7 by decide), m_X12_takesBidder_60, if_pos (show 5 ≤ nI (7 - 2) by decide), dn_wr_e, hD.2.2.1.1, nl_1, nI_add, dn_bd_s]
    have k2 : fr (fun a i => a = 100 ∧ i = 22) t (dn_p t 100 22 (nI (tv_b τ + 1))) := fr_p ⟨rfl, rfl⟩
    have hX2 := xs_fr hX (fr_refl (P := fun _ _ => False) (s := s)) k2 (fun a j q => q.elim) (fun a j q => by omega)
    have hE := it_end (K := fun s' => dn_p s' 7 2 (nI (tv_b τ + 1))) (τ := ab_tb τ s) hN hX2 (fun s' t' hf hg => ?_) (fun s' => fr_p rfl)
    · have ec : (dn_bd (m_X8_readsEnd s) fun r3 s1 => (if r3 = true then dn_wr (dn_p s1 7 2 ((dn_g s1 7 2) + nI 1)) fun s4 => some (true, s4) else some (false, s1))) = (dn_bd (m_X8_readsEnd s) fun r3 s1 => (if r3 = true then some (true, dn_p s1 7 2 (nI (tv_b τ + 1))) else some (false, s1))) := by
        obtain ⟨hc, hr, a1, a2, a3, a4, a5, a6⟩ := hX2
        obtain ⟨b, s1, t1, ff, e1, g1, hf, z1, z2, f1, k1, hb⟩ := x_end hN a5 hc hr a1 a2
        rw [e1, dn_bd_s, dn_bd_s, dn_wr_e, f1.1 7 2 (fun q => by unfold PN at q; omega), hD.2.1.1, nI_add]
      rw [ec]
      exact it_mono hE fr_refl (fr_mono k2 (fun a j q => by unfold PIr; omega)) (Nat.le_refl _)
    · have hD' : DR s' (dn_p t 100 22 (nI (tv_b τ + 1))) τ → True := fun _ => trivial
      have d1 := dr_tb hD hb4 hB
      have e8 : ∀ i, dn_g s' 8 i = dn_g s 8 i := fun i => hf.1 8 i (fun q => by unfold PN at q; omega)
      have hf2 : fr PN (dn_p s 7 2 (nI (tv_b τ + 1))) (dn_p s' 7 2 (nI (tv_b τ + 1))) := by
        refine ⟨fun a j q => ?_, hf.2⟩
        rw [dn_g_p, dn_g_p]
        by_cases r : a = 7 ∧ j = 2
        · rw [if_pos r, if_pos r]
        · rw [if_neg r, if_neg r]; exact hf.1 a j q
      exact dr_fr d1 hf2 hg
  | succ c ih =>
    intro j f g p f0 s t h2 hj hf hg hX hD hB
    obtain ⟨f, rfl⟩ : ∃ n, f = n + 1 := ⟨f - 1, by omega⟩
    obtain ⟨g, rfl⟩ : ∃ n, g = n + 1 := ⟨g - 1, by omega⟩
    have hst : dn_st0 j = 20 := by
      have : j = 2 ∨ j = 3 ∨ j = 4 ∨ j = 5 ∨ j = 6 := by omega
      rcases this with rfl | rfl | rfl | rfl | rfl <;> rfl
    have hS := b_step (n := f) (hi := 20) (Kr := fun t' => dn_bd (m_X12_takesBidder_60 g (nI (j + 1 - 2)) t') fun r13 s11 => m_X12_takesItem_63 r13 s11) hN hX hD hb4 hB (by omega) hst
      (fun s' t' q f1 hX' hD' hB' _ => ih (j + 1) f g q f1 s' t' (by omega) (by omega) (by omega) (by omega) hX' hD' hB')
    have er : (dn_bd (m_X12_takesBidder_60 (g + 1) (nI (j - 2)) t) fun r13 s11 => m_X12_takesItem_63 r13 s11) = (dn_bd (m_X12_takesNumber 0 20 t) fun r4 s2 => (if r4 = true then (fun t' => dn_bd (m_X12_takesBidder_60 g (nI (j + 1 - 2)) t') fun r13 s11 => m_X12_takesItem_63 r13 s11) (wb s2 (tv_b τ) j (dn_g s2 100 20)) else some (false, s2))) := by
      obtain ⟨b, s1, t1, f1, e1, g1, hf, z1, z2, k1, l1, hb⟩ := xs_num 0 20 hN hX
      rw [m_X12_takesBidder_60, if_neg (show ¬ 5 ≤ nI (j - 2) from nI_nl (a := 5) (by omega) (by omega)), g1, dn_bd_s, dn_bd_s]
      cases b with
      | false => rw [if_neg (by decide), if_neg (by decide), dn_bd_s]; rfl
      | true =>
        rw [if_pos rfl, if_pos rfl, (dr_fr hD k1 l1).2.2.1.1, show (5 : Int32) * nI (tv_b τ) + nI (j - 2) = nI (5 * tv_b τ + (j - 2)) from by rw [nl_5, nI_mul, nI_add], cq_ib (by omega) (by omega), dn_ck_t, nI_clamp (by omega), dn_wr_e, dn_lt_e, show nI (j - 2) + (1 : Int32) = nI (j + 1 - 2) from by rw [nl_1, nI_add, show j - 2 + 1 = j + 1 - 2 by omega]]
        show _ = dn_bd (m_X12_takesBidder_60 g (nI (j + 1 - 2)) (wb t1 (tv_b τ) j (dn_g t1 100 20))) fun r13 s11 => m_X12_takesItem_63 r13 s11
        unfold wb
        rw [if_neg (show ¬ j = 0 by omega), if_neg (show ¬ j = 1 by omega)]
    rw [er]
    exact hS
theorem x_bidder {N p f0 : Nat} {L : Nat → Int32} {s t : dn_S} {τ : Tv} (hN : N ≤ 200) (hX : XS N L s t p f0) (hD : DR s t τ) :
    IT N L s t p (m_X8_readsBidder s) (dn_bd (m_X12_takesBidder t) fun r13 s11 => m_X12_takesItem_63 r13 s11) := by
  have hb := hD.1.1
  unfold m_X8_readsBidder m_X12_takesBidder
  rw [hD.2.1.1, hD.2.2.1.1, dn_lt_e]
  by_cases h4 : tv_b τ = 4
  · rw [if_neg (show ¬ nI (tv_b τ) < 4 from nI_nlt (b := 4) (by omega) (by omega)), if_pos (by rw [h4]; rfl), dn_bd_s]
    unfold m_X12_takesItem_63
    rw [if_neg (by decide)]
    exact it_no hX.2.2.2.2.2.2.2 hX.2.2.2.2.1 hX.2.2.2.2.2.1 fr_refl fr_refl
  · have hb4 : tv_b τ < 4 := by omega
    rw [if_pos (show nI (tv_b τ) < 4 from nI_lt (b := 4) hb4 (by omega)), if_neg (show ¬ nI (tv_b τ) = 4 from fun z => h4 ((nI_eq (b := 4) (by omega) (by omega)).mp z))]
    have hS := b_step (j := 0) (n := 2047) (hi := 99) (Kr := fun t' => dn_bd (m_X12_takesNumber 0 9 t') fun r4 s2 => (if r4 = true then (fun t'' => dn_bd (m_X12_takesBidder_60 2048 (nI 0) t'') fun r13 s11 => m_X12_takesItem_63 r13 s11) (wb s2 (tv_b τ) 1 (dn_g s2 100 20)) else some (false, s2))) hN hX hD hb4 (fun i hi => by omega) (by omega) rfl
      (fun s' t' q f1 hX' hD' hB' _ => b_step (j := 1) (n := 2046) (hi := 9) (Kr := fun t'' => dn_bd (m_X12_takesBidder_60 2048 (nI 0) t'') fun r13 s11 => m_X12_takesItem_63 r13 s11) hN hX' hD' hb4 hB' (by omega) rfl
        (fun s'' t'' q' f2 hX'' hD'' hB'' _ => b_loop hN hb4 5 2 2046 2048 q' f2 s'' t'' (by omega) (by omega) (by omega) (by omega) hX'' hD'' hB''))
    have er : (dn_bd (dn_bd (m_X12_takesNumber 0 99 t) fun r3 s1 => (if r3 = true then dn_ck (dn_ib (dn_g s1 100 22) 4) (dn_wr (dn_p s1 111 (dn_g s1 100 22).toNatClampNeg (dn_g s1 100 20)) fun s4 => dn_bd (m_X12_takesNumber 0 9 s4) fun r7 s5 => (if r7 = true then dn_ck (dn_ib (dn_g s5 100 22) 4) (dn_wr (dn_p s5 112 (dn_g s5 100 22).toNatClampNeg (dn_g s5 100 20)) fun s8 => m_X12_takesBidder_60 2048 0 s8) else some (false, s5))) else some (false, s1))) fun r13 s11 => m_X12_takesItem_63 r13 s11)
        = (dn_bd (m_X12_takesNumber 0 99 t) fun r4 s2 => (if r4 = true then (fun t' => dn_bd (m_X12_takesNumber 0 9 t') fun r4 s2 => (if r4 = true then (fun t'' => dn_bd (m_X12_takesBidder_60 2048 (nI 0) t'') fun r13 s11 => m_X12_takesItem_63 r13 s11) (wb s2 (tv_b τ) 1 (dn_g s2 100 20)) else some (false, s2))) (wb s2 (tv_b τ) 0 (dn_g s2 100 20)) else some (false, s2))) := by
      obtain ⟨b, s1, t1, f1, e1, g1, hf, z1, z2, k1, l1, hbb⟩ := xs_num 0 99 hN hX
      rw [g1, dn_bd_s, dn_bd_s]
      cases b with
      | false => rw [if_neg (by decide), if_neg (by decide), dn_bd_s]; rfl
      | true =>
        obtain ⟨q, v, h1, h3, h4', h5, hX1, h8, h9⟩ := hbb rfl
        have hD1 := dr_fr hD k1 l1
        rw [if_pos rfl, if_pos rfl, hD1.2.2.1.1, cq_ib hb4 (by omega), dn_ck_t, nI_clamp (by omega), dn_wr_e]
        show _ = dn_bd (m_X12_takesNumber 0 9 (wb t1 (tv_b τ) 0 (dn_g t1 100 20))) fun r4 s2 => (if r4 = true then (fun t'' => dn_bd (m_X12_takesBidder_60 2048 (nI 0) t'') fun r13 s11 => m_X12_takesItem_63 r13 s11) (wb s2 (tv_b τ) 1 (dn_g s2 100 20)) else some (false, s2))
        have ew : wb t1 (tv_b τ) 0 (dn_g t1 100 20) = dn_p t1 111 (tv_b τ) (dn_g t1 100 20) := rfl
        rw [ew]
        have hX2 := xs_fr hX1 (fr_refl (P := fun _ _ => False) (s := s1)) (fr_p (P := fun a _ => a = 111) (s := t1) (k := 111) (j := tv_b τ) (v := dn_g t1 100 20) rfl) (fun a j q => q.elim) (fun a j q => by omega)
        obtain ⟨b', s2, t2, f2, e2, g2, hf', z1', z2', k2, l2, hbb'⟩ := xs_num 0 9 hN hX2
        rw [g2, dn_bd_s, dn_bd_s]
        cases b' with
        | false => rw [if_neg (by decide), if_neg (by decide), dn_bd_s]; rfl
        | true =>
          have e22 : dn_g t2 100 22 = nI (tv_b τ) := (l2.1 100 22 (fun q => by unfold PNr at q; omega)).trans ((dn_p_k _ _ _ _ _ _ (by decide)).trans hD1.2.2.1.1)
          rw [if_pos rfl, if_pos rfl, e22, cq_ib hb4 (by omega), dn_ck_t, nI_clamp (by omega), dn_wr_e]
          rfl
    rw [er]
    exact hS
