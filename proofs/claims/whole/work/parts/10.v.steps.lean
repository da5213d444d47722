/-! a night, a step undone, an image kept and gone back to -/
theorem XU.fr {P Q : Nat → Nat → Prop} {τ : Tv} {s s' t t' : dn_S} (h4 : tv_b τ ≤ 4) (h : XU τ s t) (hf : fr P s s') (hg : fr Q t t') (hP : ∀ a j, P a j → a ≠ 36 ∧ (a < 40 ∨ 79 < a)) (hQ : ∀ a j, Q a j → (a ≠ 100 ∨ j ≠ 1) ∧ (a ≠ 101 ∨ j < 480)) : XU τ s' t' := by
  obtain ⟨y, n, u1, u2, u3, u4, u5, u6⟩ := h
  exact ⟨y, n, u1, u2, (hf.1 _ _ (fun q => by have := hP _ _ q; omega)).trans u3, (hf.1 _ _ (fun q => by have := hP _ _ q; omega)).trans u4, (hg.1 _ _ (fun q => by have := hQ _ _ q; omega)).trans u5, fun i hi => (u6 i hi).fr h4 hf hg (fun a j q => by have := hP a j q; omega) (fun a j q => by have := hQ a j q; omega)⟩
theorem mv_k_mk (N P H : Nat → Int32) (d : Nat) (a b : Int32) : mv_k (N, P, H, d, a, b) = a := rfl
theorem ab_night_k (τ : Tv) (m : Mv) (o : Int32 × Int32) : mv_k (ab_night τ m o).2 = mv_k m ∨ mv_k (ab_night τ m o).2 = mv_k m + 1 := by
  unfold ab_night ab_ends
  generalize ab_cwo τ m o = cw
  by_cases h : (ab_w (ab_c1 cw)).1 = -9
  · rw [if_pos h]; exact Or.inr rfl
  · rw [if_neg h]
    left
    unfold ab_day
    rw [mv_k_mk]
    unfold ab_m1
    by_cases q : (ab_w (ab_c1 cw)).1 = 4
    · rw [if_pos q, mv_k_mk]
    · rw [if_neg q, mv_k_mk]
theorem cq_own {s : dn_S} {τ : Tv} {m : Mv} {o : Int32 × Int32} (hW : WT τ) (hT : CT s 3 τ) (hM : CM s 10 τ m) (hd : mv_d m ≤ 100) (hwo : WO o) (hz : ∀ b, b < 5 → Zc s b (ab_cw τ m b)) :
    ∃ s', m_X4_bidOwn 10 o.1 o.2 s = some ((), s') ∧ (∀ b, b < 5 → Zc s' b (ab_cwo τ m o b)) ∧ fr PB s s' := by
  rcases hwo with rfl | ⟨n, v, hn, hv1, hv2, rfl⟩
  · refine ⟨s, ?_, cq_cwo hW (-9) hz, fr_refl⟩
    unfold m_X4_bidOwn
    rw [cq_isName, dn_bd_s, if_neg]
    show ¬ ab_in (-9 : Int32).toInt (0 : Nat) (4 : Nat) = true
    decide
  · obtain ⟨s', e, z, f⟩ := cq_bidOwn (v := nI v) hW hT hM hd hn hz
    exact ⟨s', e, cq_cwo2 hW (show (0 : Int32) < nI v from nI_lt (a := 0) (by omega) (by omega)) z, f⟩
theorem cm_own {s s' : dn_S} {τ : Tv} {m : Mv} (hM : CM s 10 τ m) (f : fr (fun a j => a = 10 ∧ (j = 6 ∨ j = 7)) s s') : CM s' 10 τ m :=
  ⟨(f.1 10 3 (by omega)).trans hM.1, (f.1 10 4 (by omega)).trans hM.2.1, (f.1 10 5 (by omega)).trans hM.2.2.1, fun i hi => (f.1 _ _ (by omega)).trans (hM.2.2.2.1 i hi), fun i hi => (f.1 _ _ (by omega)).trans (hM.2.2.2.2.1 i hi), fun i hi => (f.1 _ _ (by omega)).trans (hM.2.2.2.2.2 i hi)⟩
theorem ok_night : Ok Int32 m_X11_night m_X12_night := by
  intro s t hR
  obtain ⟨τ, hW, hT, hU, hX, hXT, hXF, hXP, hXU, hXI, hl⟩ := id hR
  have h4 := hW.1
  obtain ⟨m0, o0, hM0, hN0, -, -, hd0, ⟨q0, hq0, hk0⟩, -⟩ := id hX
  unfold m_X11_night m_X12_night m_X12_isOver m_X12_isOver_22
  have n0 : dn_g t 101 (0 : Int32).toNatClampNeg = nI (mv_d m0) := hN0.1
  have n1 : dn_g t 101 (1 : Int32).toNatClampNeg = nI q0 := hN0.2.1.trans hk0
  rw [show dn_ib 0 1680 = true by decide, show dn_ib 1 1680 = true by decide, dn_ck_t, dn_ck_t, n0, n1, hM0.1, hM0.2.1, hk0]
  by_cases h60 : mv_d m0 = 60
  · rw [if_pos (show 60 ≤ nI (mv_d m0) from nI_le (a := 60) (by omega) (by omega)), if_pos (by rw [h60]; rfl), dn_bd_s, if_pos rfl]
    exact ⟨_, s, t, rfl, rfl, hR⟩
  · rw [if_neg (show ¬ 60 ≤ nI (mv_d m0) from nI_nl (a := 60) (by omega) (by omega)), if_neg (show ¬ nI (mv_d m0) = 60 from fun z => h60 ((nI_eq (b := 60) (by omega) (by omega)).mp z))]
    by_cases h99 : q0 = 99
    · rw [if_neg (show ¬ nI q0 < 99 from nI_nlt (b := 99) (by omega) (by omega)), if_pos (by rw [h99]; rfl), dn_bd_s, if_pos rfl]
      exact ⟨_, s, t, rfl, rfl, hR⟩
    · rw [if_pos (show nI q0 < 99 from nI_lt (b := 99) (by omega) (by omega)), if_neg (show ¬ nI q0 = 99 from fun z => h99 ((nI_eq (b := 99) (by omega) (by omega)).mp z)), dn_bd_s, if_neg (by decide)]
      obtain ⟨s1, t1, e1, g1, hXU1, f1, k1⟩ := ah_mind h4 hX hXU
      have hXI1 : XI τ s1 t1 := hXI.fr h4 f1 k1 (fun a j q => by omega) (fun a j q => by unfold P1r at q; omega)
      obtain ⟨m, o, hM, hN, hC, hO, hd, hk, hwo⟩ := hX
      have hmd : mv_d m = mv_d m0 := (nI_eq (by omega) (by omega)).mp (hM.1.symm.trans hM0.1)
      have hmk : mv_k m = nI q0 := hM.2.1.symm.trans (hM0.2.1.trans hk0)
      have hT1 : CT s1 3 τ := hT.fr f1 (fun a j q => by omega)
      have hM1 : CM s1 10 τ m := hM.fr f1 (fun a j q => by omega)
      have hC1 : CO s1 10 o := hC.fr f1 (fun a j q => by omega)
      have hU1 : RT t1 τ := rt_fr2 hU (fr_mono k1 (fun a j q => by unfold P1r at q; unfold FR; omega))
      have hN1 : RM t1 0 τ m := hN.fr k1 (by omega) h4 (fun a j q => by unfold P1r at q; omega)
      have hO1 : RO t1 0 o := hO.fr k1 (fun a j q => by unfold P1r at q; omega)
      obtain ⟨s2, e2, z2, f2⟩ := cq_open hW (Or.inl rfl) hT1 hM1 (by omega)
      have p2 : ∀ a j, PB a j → a = 16 ∨ a = 17 := fun a j q => q
      have hM2 : CM s2 10 τ m := hM1.fr f2 (fun a j q => by have := p2 a j q; omega)
      have hT2 : CT s2 3 τ := hT1.fr f2 (fun a j q => by have := p2 a j q; omega)
      have hC2 : CO s2 10 o := hC1.fr f2 (fun a j q => by have := p2 a j q; omega)
      obtain ⟨s3, e3, z3, f3⟩ := cq_own hW hT2 hM2 (by omega) hwo z2
      have hM3 : CM s3 10 τ m := hM2.fr f3 (fun a j q => by have := p2 a j q; omega)
      have hT3 : CT s3 3 τ := hT2.fr f3 (fun a j q => by have := p2 a j q; omega)
      have f4 : fr (fun a j => a = 10 ∧ (j = 6 ∨ j = 7)) s3 (dn_p (dn_p s3 10 6 (-9)) 10 7 0) := fr_trans (fr_p ⟨rfl, Or.inl rfl⟩) (fr_p ⟨rfl, Or.inr rfl⟩)
      have hC4 : CO (dn_p (dn_p s3 10 6 (-9)) 10 7 0) 10 (-9, 0) := ⟨by rw [dn_p_j _ _ _ _ _ _ (by decide), dn_p_same], dn_p_same _ _ _ _⟩
      have hM4 := cm_own hM3 f4
      have hT4 := hT3.fr f4 (fun a j q => by omega)
      have z4 : ∀ b, b < 5 → Zc (dn_p (dn_p s3 10 6 (-9)) 10 7 0) b (ab_cwo τ m o b) := fun b hb => (z3 b hb).fr f4 (fun a j q _ => by omega)
      obtain ⟨s5, e5, hM5, -, -, f5⟩ := cq_close hW (Or.inl rfl) hT4 hM4 (by omega) z4 (ab_cwo_0 τ m o)
      have p5 : ∀ a j, PCL 10 a j → a = 14 ∨ (10 ≤ a ∧ a ≤ 13 ∧ (a = 10 → j = 3 ∨ j = 4 ∨ j = 5)) := fun a j q => by unfold PCL PM at q; omega
      have hC5 : CO s5 10 (-9, 0) := ⟨(f5.1 10 6 (fun q => by have := p5 _ _ q; omega)).trans hC4.1, (f5.1 10 7 (fun q => by have := p5 _ _ q; omega)).trans hC4.2⟩
      obtain ⟨t2, g2, hN2, hO2, k2⟩ := rq_goes hW (h := 0) (by omega) hU1 hN1 hO1 (by omega)
      have p6 : ∀ a j, PGR 0 a j → (a = 100 ∧ 32 ≤ j ∧ j ≤ 34) ∨ (a = 101 ∧ j < 120) ∨ a = 115 ∨ a = 116 := fun a j q => by unfold PGR PNR at q; omega
      have hd3 := ab_night_d τ m o
      rw [e1, g1, dn_bd_s, dn_bd_s, e2, dn_bd_s, hC2.1, hC2.2, e3, dn_bd_s]
      have e4 : m_X3_dropOwn 10 s3 = some ((), dn_p (dn_p s3 10 6 (-9)) 10 7 0) := rfl
      rw [e4, dn_bd_s, e5, dn_bd_s]
      have g2' : m_X12_goes 0 t1 = some ((ab_night τ m o).1, t2) := g2
      rw [g2', dn_bd_s]
      have fa : fr (fun a j => FC a j ∧ (a < 36)) s1 s5 := fr_trans (fr_mono f2 (fun a j q => by have := p2 a j q; unfold FC; omega)) (fr_trans (fr_mono f3 (fun a j q => by have := p2 a j q; unfold FC; omega)) (fr_trans (fr_mono f4 (fun a j q => by unfold FC; omega)) (fr_mono f5 (fun a j q => by have := p5 a j q; unfold FC; omega))))
      have ka : fr (fun a j => FR a j ∧ (a = 101 → j < 120) ∧ (a = 100 → 18 ≤ j) ∧ a ≠ 102) t1 t2 := fr_mono k2 (fun a j q => by have := p6 a j q; unfold FR; omega)
      refine ⟨_, s5, t2, rfl, rfl, Rel.re hW hT hU hXT hXF hXP hl (fr_trans (fr_mono f1 (fun a j q => by unfold FC; omega)) (fr_mono fa (fun a j q => q.1))) (fr_trans (fr_mono k1 (fun a j q => by unfold P1r at q; unfold FR; omega)) (fr_mono ka (fun a j q => q.1)))
        ⟨(ab_night τ m o).2, (-9, 0), hM5, hN2, hC5, hO2, by omega, ?_, Or.inl rfl⟩ (hXU1.fr h4 fa ka (fun a j q => by omega) (fun a j q => by omega)) (hXI1.fr h4 fa ka (fun a j q => by omega) (fun a j q => by omega))⟩
      rcases ab_night_k τ m o with h | h
      · exact ⟨q0, hq0, h.trans hmk⟩
      · exact ⟨q0 + 1, by omega, by rw [h, hmk, nl_1, nI_add]⟩
theorem ok_undo : Ok Int32 m_X11_undo m_X12_undo := by
  intro s t hR
  obtain ⟨τ, hW, hT, hU, hX, hXT, hXF, hXP, ⟨x, n, hx, hn, d2, d3, d4, d5⟩, hXI, hl⟩ := id hR
  have h4 := hW.1
  unfold m_X11_undo m_X12_undo m_X6_stepBack
  rw [d3, d4]
  by_cases hn0 : n = 0
  · rw [if_pos (show nI n = 0 by rw [hn0]; rfl), if_pos (show nI n = 0 by rw [hn0]; rfl), dn_bd_s, if_neg (by decide)]
    exact ⟨_, s, t, rfl, rfl, hR⟩
  · have hnz : ¬ nI n = 0 := fun z => hn0 ((nI_eq (a := n) (b := 0) (by omega) (by omega)).mp z)
    rw [if_neg hnz, if_neg hnz, show dn_nz 10 = true by decide, dn_ck_t, d2, show nI x + (10 : Int32) - 1 = nI (x + 9) from by rw [nl_10, nl_1, nI_add, nI_sub (by omega)]; rfl, nl_10, dn_rm10 (by omega), dn_lt_e, cq_momentAt (by omega) (by omega), dn_bd_s, nI_clamp (by omega)]
    obtain ⟨s1, e1, z1, f1⟩ := cq_copyM (k := 10) (k1 := 40 + 4 * ((x + 9) % 10)) s (by omega)
    have e1' : m_X3_copyFrom 10 (dn_rb 37 + 4 * ((x + 9) % 10)) s = some ((), s1) := e1
    have p1 : ∀ a j, PM 10 a j → 10 ≤ a ∧ a ≤ 13 := fun a j q => q
    have d3' : dn_g s1 36 4 = nI n := (f1.1 36 4 (fun q => by have := p1 _ _ q; omega)).trans d3
    rw [e1', dn_bd_s, dn_wr_e, dn_wr_e, dn_bd_s, if_pos rfl, dn_p_same, dn_p_j _ _ _ _ _ _ (by decide), d3', dn_wr_e, dn_p_same, nl_1, nI_sub (by omega)]
    have k0 : fr (fun a j => a = 100 ∧ j = 1) t (dn_p t 100 1 (nI (n - 1))) := fr_p ⟨rfl, rfl⟩
    obtain ⟨t1, g1, z2, k1⟩ := rq_copy (a := 480 + 120 * (n - 1)) (b := 0) (dn_p t 100 1 (nI (n - 1))) (by omega) (by omega) (by omega)
    rw [show (480 : Int32) + 120 * nI (n - 1) = nI (480 + 120 * (n - 1)) from by rw [nl_480, nl_120, nI_mul, nI_add], nl_0, g1, dn_bd_s]
    have d4' : dn_g t1 100 1 = nI (n - 1) := (k1.1 100 1 (fun q => by omega)).trans (dn_p_same _ _ _ _)
    rw [d4']
    have f2 : fr (fun a j => a = 36 ∧ (j = 3 ∨ j = 4)) s1 (dn_p (dn_p s1 36 3 (nI ((x + 9) % 10))) 36 4 (nI (n - 1))) := fr_trans (fr_p ⟨rfl, Or.inl rfl⟩) (fr_p ⟨rfl, Or.inr rfl⟩)
    have fa : fr (fun a j => (10 ≤ a ∧ a ≤ 13) ∨ (a = 36 ∧ (j = 3 ∨ j = 4))) s (dn_p (dn_p s1 36 3 (nI ((x + 9) % 10))) 36 4 (nI (n - 1))) := fr_trans (fr_mono f1 (fun a j q => Or.inl (p1 a j q))) (fr_mono f2 (fun a j q => Or.inr q))
    have ka : fr (fun a j => (a = 100 ∧ j = 1) ∨ (a = 101 ∧ j < 120)) t t1 := fr_trans (fr_mono k0 (fun a j q => Or.inl q)) (fr_mono k1 (fun a j q => Or.inr (by omega)))
    have hX0 : XM τ s (40 + 4 * ((x + 9) % 10)) t (480 + 120 * (n - 1)) := by
      have := d5 (n - 1) (by omega)
      rw [show (x + 10 - n + (n - 1)) % 10 = (x + 9) % 10 by omega] at this
      exact this
    have hX1 : XM τ s1 10 t1 0 := hX0.copy h4 z1 (fun j hj => by rw [z2 j hj, dn_p_k _ _ _ _ _ _ (by decide)])
    refine ⟨_, _, t1, rfl, rfl, Rel.re hW hT hU hXT hXF hXP hl (fr_mono fa (fun a j q => by unfold FC; omega)) (fr_mono ka (fun a j q => by unfold FR; omega)) (hX1.fr h4 f2 fr_refl (Q := fun _ _ => False) (fun a j q => by omega) (fun a j q => q.elim)) ⟨(x + 9) % 10, n - 1, by omega, by omega, ?_, dn_p_same _ _ _ _, d4', fun i hi => ?_⟩ (hXI.fr h4 fa ka (fun a j q => by omega) (fun a j q => by omega))⟩
    · rw [dn_p_j _ _ _ _ _ _ (by decide), dn_p_same]
    · rw [show ((x + 9) % 10 + 10 - (n - 1) + i) % 10 = (x + 10 - n + i) % 10 by omega]
      exact (d5 i (by omega)).fr h4 fa ka (fun a j q => by omega) (fun a j q => by omega)
theorem dn_b1 : dn_b true = 1 := rfl
theorem ok_keep (a1 : Int32) : Ok Int32 (m_X11_keep a1) (m_X12_keep a1) := by
  intro s t hR
  obtain ⟨τ, hW, hT, hU, hX, hXT, hXF, hXP, hXU, hXI, hl⟩ := id hR
  have h4 := hW.1
  unfold m_X11_keep m_X12_keep m_X6_keepImage
  rw [cq_within, rq_in, rq_i64, i32_0, i32_1, i64_0, i64_1, dn_bd_s, dn_bd_s]
  by_cases h1 : ab_in a1.toInt (0 : Nat) (1 : Nat) = true
  · obtain ⟨c, _, hc, rfl⟩ := in_split h1
    rw [if_pos h1, if_pos h1, cq_momentAt (by omega) (by omega), dn_bd_s, if_pos (show nI c < 2 from nI_lt (b := 2) (by omega) (by omega)), nI_clamp (by omega)]
    obtain ⟨s1, e1, z1, f1⟩ := cq_copyM (k := 80 + 4 * c) (k1 := 10) s (by omega)
    have e1' : m_X3_copyFrom (dn_rb 38 + 4 * c) 10 s = some ((), s1) := e1
    have p1 : ∀ a j, PM (80 + 4 * c) a j → 80 + 4 * c ≤ a ∧ a ≤ 80 + 4 * c + 3 := fun a j q => q
    obtain ⟨t1, g1, z2, k1⟩ := rq_copy (a := 0) (b := 240 + 120 * c) t (by omega) (by omega) (by omega)
    rw [e1', dn_bd_s, cq_ib (show c < 2 by omega) (by omega), show (240 : Int32) + 120 * nI c = nI (240 + 120 * c) from by rw [nl_240, nl_120, nI_mul, nI_add], nl_0, g1, show dn_ib (nI 0) 1680 = true by decide]
    simp only [dn_ck_t, dn_wr_e, dn_bd_s]
    have f2 : fr (fun a j => a = 39 ∧ j = c) s1 (dn_p s1 39 c (dn_b true)) := fr_p ⟨rfl, rfl⟩
    have k2 : fr (fun a j => a = 102 ∧ j = c) t1 (dn_p t1 102 c (dn_b true)) := fr_p ⟨rfl, rfl⟩
    have fa : fr (fun a j => (80 + 4 * c ≤ a ∧ a ≤ 80 + 4 * c + 3) ∨ (a = 39 ∧ j = c)) s (dn_p s1 39 c (dn_b true)) := fr_trans (fr_mono f1 (fun a j q => Or.inl (p1 a j q))) (fr_mono f2 (fun a j q => Or.inr q))
    have ka : fr (fun a j => (a = 101 ∧ 240 + 120 * c ≤ j ∧ j < 240 + 120 * c + 120) ∨ (a = 102 ∧ j = c)) t (dn_p t1 102 c (dn_b true)) := fr_trans (fr_mono k1 (fun a j q => Or.inl q)) (fr_mono k2 (fun a j q => Or.inr q))
    have hX2 := hX.fr h4 fa ka (fun a j q => by omega) (fun a j q => by omega)
    obtain ⟨m, o, hM, hN, -⟩ := id hX2
    have n0 : dn_g (dn_p t1 102 c (dn_b true)) 101 (nI 0).toNatClampNeg = nI (mv_d m) := hN.1
    rw [hM.1, n0]
    refine ⟨_, _, _, rfl, rfl, Rel.re hW hT hU hXT hXF hXP hl (fr_mono fa (fun a j q => by unfold FC; omega)) (fr_mono ka (fun a j q => by unfold FR; omega)) hX2 (hXU.fr h4 fa ka (fun a j q => by omega) (fun a j q => by omega)) (fun i hi => ?_)⟩
    by_cases hic : i = c
    · subst hic
      refine Or.inr ⟨by rw [dn_p_same]; rfl, by rw [dn_p_same]; rfl, ?_⟩
      exact (hX.copy h4 z1 (fun j hj => z2 j hj)).fr h4 f2 k2 (fun a j q => by omega) (fun a j q => by omega)
    · rw [fa.1 39 i (fun q => by omega), ka.1 102 i (fun q => by omega)]
      rcases hXI i hi with q | ⟨q1, q2, q3⟩
      · exact Or.inl q
      · exact Or.inr ⟨q1, q2, q3.fr h4 fa ka (fun a j q => by omega) (fun a j q => by omega)⟩
  · rw [if_neg h1, if_neg h1]
    exact ⟨_, s, t, rfl, rfl, hR⟩
theorem ok_back (a1 : Int32) : Ok Int32 (m_X11_back a1) (m_X12_back a1) := by
  intro s t hR
  obtain ⟨τ, hW, hT, hU, hX, hXT, hXF, hXP, hXU, hXI, hl⟩ := id hR
  have h4 := hW.1
  unfold m_X11_back m_X12_back m_X6_backTo
  rw [cq_within, rq_in, rq_i64, i32_0, i32_1, i64_0, i64_1, dn_bd_s, dn_bd_s]
  by_cases h1 : ab_in a1.toInt (0 : Nat) (1 : Nat) = true
  · obtain ⟨c, _, hc, rfl⟩ := in_split h1
    rw [if_pos h1, if_pos h1, cq_momentAt (by omega) (by omega), dn_bd_s, if_neg (show ¬ 2 ≤ nI c from nI_nl (a := 2) (by omega) (by omega)), nI_clamp (by omega), cq_ib (show c < 2 by omega) (by omega), dn_ck_t, dn_ck_t]
    rcases hXI c (by omega) with ⟨q1, q2⟩ | ⟨q1, q2, q3⟩
    · rw [if_pos q1, if_pos q2, dn_bd_s, if_neg (by decide)]
      exact ⟨_, s, t, rfl, rfl, hR⟩
    · rw [if_neg (by rw [q1]; decide), if_neg (by rw [q2]; decide)]
      obtain ⟨s1, e1, z1, f1⟩ := cq_copyM (k := 10) (k1 := 80 + 4 * c) s (by omega)
      have e1' : m_X3_copyFrom 10 (dn_rb 38 + 4 * c) s = some ((), s1) := e1
      have p1 : ∀ a j, PM 10 a j → 10 ≤ a ∧ a ≤ 13 := fun a j q => q
      obtain ⟨t1, g1, z2, k1⟩ := rq_copy (a := 240 + 120 * c) (b := 0) t (by omega) (by omega) (by omega)
      rw [e1', dn_bd_s, dn_wr_e, dn_bd_s, if_pos rfl, show (240 : Int32) + 120 * nI c = nI (240 + 120 * c) from by rw [nl_240, nl_120, nI_mul, nI_add], nl_0, g1, dn_bd_s, dn_wr_e, show dn_ib (nI 0) 1680 = true by decide, dn_ck_t]
      have f2 : fr (fun a j => a = 36 ∧ j = 4) s1 (dn_p s1 36 4 (nI 0)) := fr_p ⟨rfl, rfl⟩
      have k2 : fr (fun a j => a = 100 ∧ j = 1) t1 (dn_p t1 100 1 (nI 0)) := fr_p ⟨rfl, rfl⟩
      have fa : fr (fun a j => (10 ≤ a ∧ a ≤ 13) ∨ (a = 36 ∧ j = 4)) s (dn_p s1 36 4 (nI 0)) := fr_trans (fr_mono f1 (fun a j q => Or.inl (p1 a j q))) (fr_mono f2 (fun a j q => Or.inr q))
      have ka : fr (fun a j => (a = 101 ∧ j < 120) ∨ (a = 100 ∧ j = 1)) t (dn_p t1 100 1 (nI 0)) := fr_trans (fr_mono k1 (fun a j q => Or.inl (by omega))) (fr_mono k2 (fun a j q => Or.inr q))
      have hX2 : XM τ (dn_p s1 36 4 (nI 0)) 10 (dn_p t1 100 1 (nI 0)) 0 := (q3.copy h4 z1 (fun j hj => z2 j hj)).fr h4 f2 k2 (fun a j q => by omega) (fun a j q => by omega)
      obtain ⟨m, o, hM, hN, -⟩ := id hX2
      have n0 : dn_g (dn_p t1 100 1 (nI 0)) 101 (nI 0).toNatClampNeg = nI (mv_d m) := hN.1
      rw [hM.1, n0]
      obtain ⟨x, n, hx, hn, d2, d3, d4, d5⟩ := hXU
      exact ⟨_, _, _, rfl, rfl, Rel.re hW hT hU hXT hXF hXP hl (fr_mono fa (fun a j q => by unfold FC; omega)) (fr_mono ka (fun a j q => by unfold FR; omega)) hX2 ⟨x, 0, hx, by omega, (fa.1 36 3 (fun q => by omega)).trans d2, dn_p_same _ _ _ _, dn_p_same _ _ _ _, fun i hi => by omega⟩ (hXI.fr h4 fa ka (fun a j q => by omega) (fun a j q => by omega))⟩
  · rw [if_neg h1, if_neg h1]
    exact ⟨_, s, t, rfl, rfl, hR⟩
