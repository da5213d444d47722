/-! town, put together; and the state at first -/
theorem nI_neg (f : Nat) (h : f ≤ 200) : ¬ (0 : Int32) ≤ -10 - nI f := by
  have : ∀ f : Fin 201, ¬ (0 : Int32) ≤ -10 - nI f.val := by decide +kernel
  exact this ⟨f, by omega⟩
theorem Rel.mk0 {s t : dn_S} {τ : Tv} {x : Nat} (hW : WT τ) (hT : CT s 3 τ) (hU : RT t τ) (hM : CM s 10 τ (ab_0 τ)) (hN : RM t 0 τ (ab_0 τ)) (hC : CO s 10 (-9, 0)) (hO : RO t 0 (-9, 0)) (hx : x < 10) (h363 : dn_g s 36 3 = nI x)
    (a1 : dn_g s 1 1 = 0) (b1 : dn_g t 100 17 = 0) (a2 : dn_g s 23 5 = 0) (b2 : dn_g t 100 10 = 0) (a3 : dn_g s 30 3 = 0) (b3 : dn_g t 100 13 = 0) (a4 : dn_g s 36 4 = 0) (b4 : dn_g t 100 1 = 0)
    (a5 : dn_g s 39 0 = 0) (b5 : dn_g t 102 0 = 0) (a6 : dn_g s 39 1 = 0) (b6 : dn_g t 102 1 = 0) (hl : dn_l s = dn_l t) : Rel s t :=
  ⟨τ, hW, hT, hU, ⟨ab_0 τ, (-9, 0), hM, hN, hC, hO, by show 0 ≤ 60; omega, ⟨0, by omega, rfl⟩, Or.inl rfl⟩, ⟨0, by omega, a1, b1, fun i hi => by omega⟩, ⟨0, by omega, a2, b2, fun i hi => by omega⟩, ⟨0, by omega, a3, b3, fun i hi => by omega⟩,
    ⟨x, 0, hx, by omega, h363, a4, b4, fun i hi => by omega⟩, fun i hi => by
      have : i = 0 ∨ i = 1 := by omega
      rcases this with rfl | rfl
      · exact Or.inl ⟨a5, b5⟩
      · exact Or.inl ⟨a6, b6⟩, hl⟩
theorem ok_town : Ok Int32 m_X11_town m_X12_town := by
  intro s t hR
  obtain ⟨τ, hW, hT, hU, hX, ⟨N, hN, l1, l2, l3⟩, hXF, hXP, ⟨x, n, hx, hn, d2, d3, d4, d5⟩, hXI, hl⟩ := id hR
  have f0 : fr PI s (dn_p (dn_p (dn_p (dn_p (dn_p s 6 2 0) 6 6 (dn_b false)) 7 2 0) 7 3 0) 7 4 1) := fr_trans (fr_p ⟨by omega, by omega⟩) (fr_trans (fr_p ⟨by omega, by omega⟩) (fr_trans (fr_p ⟨by omega, by omega⟩) (fr_trans (fr_p ⟨by omega, by omega⟩) (fr_p ⟨by omega, by omega⟩))))
  have k0 : fr PW t (dn_p (dn_p (dn_p (dn_p (dn_p (dn_p t 100 22 0) 100 28 0) 100 26 1) 100 27 (dn_b false)) 100 21 0) 100 18 0) := fr_trans (fr_p (Or.inl (Or.inl (by decide)))) (fr_trans (fr_p (Or.inl (Or.inl (by decide)))) (fr_trans (fr_p (Or.inl (Or.inl (by decide)))) (fr_trans (fr_p (Or.inl (Or.inl (by decide)))) (fr_trans (fr_p (Or.inr ⟨rfl, rfl⟩)) (fr_p (Or.inl (Or.inl (by decide))))))))
  have pw : ∀ a j, PW a j → (a = 100 ∧ 18 ≤ j ∧ j ≤ 34) ∨ (111 ≤ a ∧ a ≤ 114) := fun a j q => by unfold PW PIr at q; omega
  have hc : TXc (dn_p (dn_p (dn_p (dn_p (dn_p s 6 2 0) 6 6 (dn_b false)) 7 2 0) 7 3 0) 7 4 1) N (fun i => dn_g s 2 i) := txc_fr ⟨l1, fun i _ => rfl⟩ f0 (fun a j q => by unfold PI at q; omega)
  have hr : TXr (dn_p (dn_p (dn_p (dn_p (dn_p (dn_p t 100 22 0) 100 28 0) 100 26 1) 100 27 (dn_b false)) 100 21 0) 100 18 0) N (fun i => dn_g s 2 i) := txr_fr ⟨l2, fun i hi => (l3 i hi).symm⟩ k0 (fun a j q => by have := pw a j q; omega)
  have c62 : dn_g (dn_p (dn_p (dn_p (dn_p (dn_p s 6 2 0) 6 6 (dn_b false)) 7 2 0) 7 3 0) 7 4 1) 6 2 = nI 0 := by rw [dn_p_k _ _ _ _ _ _ (by decide), dn_p_k _ _ _ _ _ _ (by decide), dn_p_k _ _ _ _ _ _ (by decide), dn_p_j _ _ _ _ _ _ (by decide), dn_p_same]; rfl
  have g18 : dn_g (dn_p (dn_p (dn_p (dn_p (dn_p (dn_p t 100 22 0) 100 28 0) 100 26 1) 100 27 (dn_b false)) 100 21 0) 100 18 0) 100 18 = nI 0 := dn_p_same _ _ _ _
  have g21 : dn_g (dn_p (dn_p (dn_p (dn_p (dn_p (dn_p t 100 22 0) 100 28 0) 100 26 1) 100 27 (dn_b false)) 100 21 0) 100 18 0) 100 21 = nI 0 := by rw [dn_p_j _ _ _ _ _ _ (by decide), dn_p_same]; rfl
  have hD : DR (dn_p (dn_p (dn_p (dn_p (dn_p s 6 2 0) 6 6 (dn_b false)) 7 2 0) 7 3 0) 7 4 1) (dn_p (dn_p (dn_p (dn_p (dn_p (dn_p t 100 22 0) 100 28 0) 100 26 1) 100 27 (dn_b false)) 100 21 0) 100 18 0) (0, 0, 1, (fun _ _ => 0), fun _ _ => 0) := by
    refine ⟨⟨by show 0 ≤ 4; omega, by show 0 ≤ 6; omega, by show 1 ≤ 7; omega, fun b hb => absurd hb (Nat.not_lt_zero _), fun d hd => absurd hd (Nat.not_lt_zero _)⟩, ⟨?_, ?_, ?_, fun b hb => absurd hb (Nat.not_lt_zero _), fun d hd => absurd hd (Nat.not_lt_zero _)⟩, ⟨?_, ?_, ?_, fun b hb => absurd hb (Nat.not_lt_zero _), fun d hd => absurd hd (Nat.not_lt_zero _)⟩, ?_⟩
    · rw [dn_p_j _ _ _ _ _ _ (by decide), dn_p_j _ _ _ _ _ _ (by decide), dn_p_same]; rfl
    · rw [dn_p_j _ _ _ _ _ _ (by decide), dn_p_same]; rfl
    · rw [dn_p_same]; rfl
    · rw [dn_p_j _ _ _ _ _ _ (by decide), dn_p_j _ _ _ _ _ _ (by decide), dn_p_j _ _ _ _ _ _ (by decide), dn_p_j _ _ _ _ _ _ (by decide), dn_p_j _ _ _ _ _ _ (by decide), dn_p_same]; rfl
    · rw [dn_p_j _ _ _ _ _ _ (by decide), dn_p_j _ _ _ _ _ _ (by decide), dn_p_j _ _ _ _ _ _ (by decide), dn_p_j _ _ _ _ _ _ (by decide), dn_p_same]; rfl
    · rw [dn_p_j _ _ _ _ _ _ (by decide), dn_p_j _ _ _ _ _ _ (by decide), dn_p_j _ _ _ _ _ _ (by decide), dn_p_same]; rfl
    · rw [dn_p_k _ _ _ _ _ _ (by decide), dn_p_k _ _ _ _ _ _ (by decide), dn_p_k _ _ _ _ _ _ (by decide), dn_p_same, dn_p_j _ _ _ _ _ _ (by decide), dn_p_j _ _ _ _ _ _ (by decide), dn_p_same]
  unfold m_X11_town m_X12_town m_X8_read m_X10_empty
  simp only [dn_wr_e, dn_bd_s]
  generalize dn_p (dn_p (dn_p (dn_p (dn_p s 6 2 0) 6 6 (dn_b false)) 7 2 0) 7 3 0) 7 4 1 = s0 at f0 hc c62 hD ⊢
  generalize dn_p (dn_p (dn_p (dn_p (dn_p (dn_p t 100 22 0) 100 28 0) 100 26 1) 100 27 (dn_b false)) 100 21 0) 100 18 0 = t0 at k0 hr g18 g21 hD ⊢
  obtain ⟨t1, e1, u1, u2, k1⟩ := rq_blanks hN (Nat.zero_le N) hr g18
  have k01 : fr PW t t1 := fr_trans k0 (fr_mono k1 (fun a j q => Or.inl (PNr_PIr q)))
  rw [e1, dn_bd_s]
  have hRD := x_read hN N 0 2048 2048 0 0 s0 t1 _ (by omega) (by omega) (by omega) rfl (Nat.le_refl _) hc (txr_fr hr k1 (fun a j q => by unfold PNr at q; omega)) c62 u1 u2 (dr_fr hD fr_refl k1) ((k1.1 100 21 (fun q => by unfold PNr at q; omega)).trans g21)
  have z0 : m_X8_read_21 2048 (nI 0) (nI 0) s0 = m_X8_read_21 2048 0 0 s0 := rfl
  rw [z0] at hRD
  have hscC : ∀ a j, PI a j → SC a j := fun a j q => by unfold PI at q; unfold SC; omega
  have hscR : ∀ a j, PW a j → SR a j := fun a j q => by have := pw a j q; unfold SR; omega
  rcases hRD with ⟨f, s2, t2, h1, h2, h3, h4, h5⟩ | ⟨k, s2, t2, τ2, h1, h2, h3, h4, h5, h6, h7⟩
  · rw [h2, h3, dn_bd_s, if_neg (nI_neg f (by omega))]
    exact ⟨_, s2, t2, rfl, rfl, hR.scr (fr_mono (fr_trans f0 h4) hscC) (fr_mono (fr_trans k01 h5) hscR)⟩
  · obtain ⟨w1, w2, w3, -⟩ := h6
    obtain ⟨t3, g3, r1, r2, r3, r4, r5, r6, r7, r8, r9, r10⟩ := rq_doneIs w1 w3
    obtain ⟨s3, c3, v3, f3⟩ := cq_copyTown w1 w2
    obtain ⟨s4, c4, v4, o4, f4⟩ := cq_begin w1 v3
    have f5 : fr (fun a j => a = 23 ∨ a = 30) s4 (dn_p (dn_p s4 23 5 0) 30 3 0) := fr_trans (fr_p (Or.inl rfl)) (fr_p (Or.inr rfl))
    obtain ⟨s6, c6, a6, b6, b7, f6⟩ := cq_lose (s := dn_p (dn_p s4 23 5 0) 30 3 0)
    rw [h2, h3, dn_bd_s, if_pos (show (0 : Int32) ≤ nI k from nI_le (a := 0) (by omega) (by omega)), c3, dn_bd_s, c4, dn_bd_s]
    unfold m_X2_empty m_X0_empty m_X9_empty
    simp only [dn_lt_e, dn_wr_e, dn_bd_s]
    rw [c6, dn_bd_s, g3, h7]
    have f7 : fr (fun a j => a = 1) s6 (dn_p s6 1 1 0) := fr_p rfl
    have f02 : fr PI s s2 := fr_trans f0 h4
    have e363 : dn_g (dn_p s6 1 1 0) 36 3 = nI x := (f7.1 36 3 (by decide)).trans ((f6.1 36 3 (by decide)).trans ((f5.1 36 3 (by decide)).trans ((f4.1 36 3 (by decide)).trans ((f3.1 36 3 (by decide)).trans ((f02.1 36 3 (fun q => by unfold PI at q; omega)).trans d2)))))
    refine ⟨_, _, t3, rfl, rfl, Rel.mk0 (x := x) w1 ?_ r1 ?_ r2 ?_ r3 hx e363 (dn_p_same _ _ _ _) r9 ?_ r4 ?_ r5 ?_ r6 ?_ r7 ?_ r8 ?_⟩
    · exact ((v3.fr f4 (fun a j q => by omega)).fr f5 (fun a j q => by omega)).fr (fr_trans (fr_mono f6 (fun a j q => (show a = 1 ∨ 36 ≤ a by omega))) (fr_mono f7 (fun a j q => Or.inl q))) (fun a j q => by omega)
    · exact (v4.fr f5 (fun a j q => by omega)).fr (fr_trans (fr_mono f6 (fun a j q => (show a = 1 ∨ 36 ≤ a by omega))) (fr_mono f7 (fun a j q => Or.inl q))) (fun a j q => by omega)
    · exact (o4.fr f5 (fun a j q => by omega)).fr (fr_trans (fr_mono f6 (fun a j q => (show a = 1 ∨ 36 ≤ a by omega))) (fr_mono f7 (fun a j q => Or.inl q))) (fun a j q => by omega)
    · rw [f7.1 _ _ (by decide), f6.1 _ _ (by decide), dn_p_k _ _ _ _ _ _ (by decide), dn_p_same]
    · rw [f7.1 _ _ (by decide), f6.1 _ _ (by decide), dn_p_same]
    · rw [f7.1 _ _ (by decide)]; exact a6
    · rw [f7.1 _ _ (by decide)]; exact b6
    · rw [f7.1 _ _ (by decide)]; exact b7
    · exact (f7.2.trans (f6.2.trans (f5.2.trans (f4.2.trans (f3.2.trans f02.2))))).trans (hl.trans ((r10.trans (fr_trans k01 h5).2).symm))
