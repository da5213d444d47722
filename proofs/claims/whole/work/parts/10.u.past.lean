/-! steps remembered, images kept, a night gone through -/
def FC (a _ : Nat) : Prop := (6 ≤ a ∧ a ≤ 22) ∨ (24 ≤ a ∧ a ≤ 27) ∨ (31 ≤ a ∧ a ≤ 34) ∨ 36 ≤ a
def FR (a j : Nat) : Prop := a = 101 ∨ a = 102 ∨ 111 ≤ a ∨ (a = 100 ∧ (j = 1 ∨ 18 ≤ j))
theorem rt_fr2 {t t' : dn_S} {τ : Tv} (h : RT t τ) (hf : fr FR t t') : RT t' τ := by
  have e : ∀ a j, 103 ≤ a → a ≤ 106 → dn_g t' a j = dn_g t a j := fun a j h1 h2 => hf.1 a j (fun q => by unfold FR at q; omega)
  have e2 : ∀ j, 3 ≤ j → j ≤ 8 → dn_g t' 100 j = dn_g t 100 j := fun j h1 h2 => hf.1 100 j (fun q => by unfold FR at q; omega)
  exact ⟨by rw [e2 _ (by omega) (by omega)]; exact h.1, by rw [e2 _ (by omega) (by omega)]; exact h.2.1, by rw [e2 _ (by omega) (by omega)]; exact h.2.2.1,
    fun b hb => ⟨by rw [e 103 _ (by omega) (by omega)]; exact (h.2.2.2.1 b hb).1, by rw [e 104 _ (by omega) (by omega)]; exact (h.2.2.2.1 b hb).2.1, fun n hn => by rw [e 105 _ (by omega) (by omega)]; exact (h.2.2.2.1 b hb).2.2 n hn⟩,
    fun d hd j hj => by rw [e 106 _ (by omega) (by omega)]; exact h.2.2.2.2 d hd j hj⟩
theorem Rel.re {s s' t t' : dn_S} {τ : Tv} (hW : WT τ) (hT : CT s 3 τ) (hU : RT t τ) (h1 : XT s t) (h2 : XF s t) (h3 : XP s t) (hl : dn_l s = dn_l t) (hf : fr FC s s') (hg : fr FR t t') (hM : XM τ s' 10 t' 0) (hX : XU τ s' t') (hI : XI τ s' t') : Rel s' t' := by
  have p1 : ∀ a j, FC a j → a < 1 ∨ (5 < a ∧ a < 23) ∨ (23 < a ∧ a < 28) ∨ (30 < a ∧ a < 35) ∨ 35 < a := fun a j q => by unfold FC at q; omega
  have q1 : ∀ a j, FR a j → a = 101 ∨ a = 102 ∨ 111 ≤ a ∨ (a = 100 ∧ (j = 1 ∨ 18 ≤ j)) := fun a j q => q
  exact ⟨τ, hW, hT.fr hf (fun a j q => by have := p1 a j q; omega), rt_fr2 hU hg, hM, h1.fr hf hg (fun a j q => by have := p1 a j q; omega) (fun a j q => by have := q1 a j q; omega), h2.fr hf hg (fun a j q => by have := p1 a j q; omega) (fun a j q => by have := q1 a j q; omega), h3.fr hf hg (fun a j q => by have := p1 a j q; omega) (fun a j q => by have := q1 a j q; omega), hX, hI, by rw [hf.2, hg.2]; exact hl⟩
theorem XM.copy {τ : Tv} {s s' t t' : dn_S} {k h k' h' : Nat} (h4 : tv_b τ ≤ 4) (hX : XM τ s k t h) (he : EM s s' k k') (hc : ∀ j, j < 120 → dn_g t' 101 (h' + j) = dn_g t 101 (h + j)) : XM τ s' k' t' h' := by
  obtain ⟨m, o, a1, a2, a3, a4, a5, a6, a7⟩ := hX
  exact ⟨m, o, he.cm h4 a1 (by omega), a2.copy (by omega) h4 hc, he.co a3, a4.copy hc, a5, a6, a7⟩
theorem XM.copyR {τ : Tv} {s t t' : dn_S} {k h h' : Nat} (h4 : tv_b τ ≤ 4) (hX : XM τ s k t h) (hc : ∀ j, j < 120 → dn_g t' 101 (h' + j) = dn_g t 101 (h + j)) : XM τ s k t' h' := by
  obtain ⟨m, o, a1, a2, a3, a4, a5, a6, a7⟩ := hX
  exact ⟨m, o, a1, a2.copy (by omega) h4 hc, a3, a4.copy hc, a5, a6, a7⟩
theorem dn_rm10 {a : Nat} (h : a < 20) : dn_rm (nI a) (nI 10) = nI (a % 10) := by
  have : ∀ a : Fin 20, dn_rm (nI a.val) (nI 10) = nI (a.val % 10) := by decide
  exact this ⟨a, h⟩
theorem cq_momentAt {k n x : Nat} {s : dn_S} (hx : x < n) (hn : n < 1000) : m_X6_momentAt k n (nI x) s = some ((), s) := by
  unfold m_X6_momentAt
  rw [if_neg (show ¬ nI x < 0 from nI_nlt (b := 0) (by omega) (by omega)), if_neg (show ¬ Int32.ofNat n ≤ nI x from nI_nl (by omega) (by omega)), cq_ib hx (by omega)]
  rfl
def P36 (x a j : Nat) : Prop := (a = 36 ∧ (j = 3 ∨ j = 4)) ∨ (40 + 4 * x ≤ a ∧ a ≤ 40 + 4 * x + 3)
theorem cq_remember {s : dn_S} {x n : Nat} (hx : x < 10) (hn : n ≤ 10) (h3 : dn_g s 36 3 = nI x) (h4 : dn_g s 36 4 = nI n) :
    ∃ s', m_X6_remember 10 s = some ((), s') ∧ EM s s' 10 (40 + 4 * x) ∧ dn_g s' 36 3 = nI ((x + 1) % 10) ∧ dn_g s' 36 4 = nI (min 10 (n + 1)) ∧ fr (P36 x) s s' := by
  obtain ⟨s1, e1, z1, f1⟩ := cq_copyM (k := 40 + 4 * x) (k1 := 10) s (by omega)
  have g3 : dn_g s1 36 3 = nI x := (f1.1 36 3 (fun q => by unfold PM at q; omega)).trans h3
  have g4 : dn_g s1 36 4 = nI n := (f1.1 36 4 (fun q => by unfold PM at q; omega)).trans h4
  refine ⟨dn_p (dn_p s1 36 3 (nI ((x + 1) % 10))) 36 4 (nI (min 10 (n + 1))), ?_, ?_, ?_, dn_p_same _ _ _ _, fr_trans (fr_mono f1 (fun a j q => Or.inr q)) (fr_trans (fr_p (Or.inl ⟨rfl, Or.inl rfl⟩)) (fr_p (Or.inl ⟨rfl, Or.inr rfl⟩)))⟩
  · unfold m_X6_remember
    have e1' : m_X3_copyFrom (dn_rb 37 + 4 * (nI x).toNatClampNeg) 10 s = some ((), s1) := by rw [nI_clamp (by omega)]; exact e1
    rw [h3, cq_momentAt hx (by omega), dn_bd_s, e1', dn_bd_s, show dn_nz 10 = true by decide, dn_ck_t, dn_wr_e, dn_wr_e, g3, dn_p_j _ _ _ _ _ _ (by decide), g4, nl_1, nI_add, nI_add, nl_10, dn_rm10 (by omega), dn_mn_nI (by omega) (by omega)]
  · refine ⟨fun j hj => ?_, fun j hj => ?_, fun j hj => ?_, fun j h1 h2 => ?_⟩
    · rw [dn_p_k _ _ _ _ _ _ (by omega), dn_p_k _ _ _ _ _ _ (by omega)]; exact z1.1 j hj
    · rw [dn_p_k _ _ _ _ _ _ (by omega), dn_p_k _ _ _ _ _ _ (by omega)]; exact z1.2.1 j hj
    · rw [dn_p_k _ _ _ _ _ _ (by omega), dn_p_k _ _ _ _ _ _ (by omega)]; exact z1.2.2.1 j hj
    · rw [dn_p_k _ _ _ _ _ _ (by omega), dn_p_k _ _ _ _ _ _ (by omega)]; exact z1.2.2.2 j h1 h2
  · rw [dn_p_j _ _ _ _ _ _ (by decide), dn_p_same]
theorem rq_shift : ∀ (c i fuel : Nat) (t : dn_S), i + c = 1080 → c < fuel →
    ∃ t', m_X12_minds_11 fuel (nI i) t = m_X12_minds_57 (dn_p t' 100 1 (dn_g t' 100 1 - 1)) ∧ (∀ j, i ≤ j → j < 1080 → dn_g t' 101 (480 + j) = dn_g t 101 (480 + j + 120)) ∧ fr (fun a j => a = 101 ∧ 480 + i ≤ j ∧ j < 1560) t t' := by
  intro c
  induction c with
  | zero =>
    intro i fuel t hi hf
    obtain ⟨n, rfl⟩ : ∃ n, fuel = n + 1 := ⟨fuel - 1, by omega⟩
    refine ⟨t, ?_, fun j h1 h2 => by omega, fr_refl⟩
    rw [m_X12_minds_11, if_pos (show 1080 ≤ nI i from nI_le (a := 1080) (by omega) (by omega)), dn_wr_e]
  | succ c ih =>
    intro i fuel t hi hf
    obtain ⟨n, rfl⟩ : ∃ n, fuel = n + 1 := ⟨fuel - 1, by omega⟩
    obtain ⟨t', e, z, f⟩ := ih (i + 1) n (dn_p t 101 (480 + i) (dn_g t 101 (480 + i + 120))) (by omega) (by omega)
    refine ⟨t', ?_, fun j h1 h2 => ?_, fr_trans (fr_p ⟨rfl, by omega, by omega⟩) (fr_mono f (fun a j q => ⟨q.1, by omega, q.2.2⟩))⟩
    · rw [m_X12_minds_11, if_neg (show ¬ 1080 ≤ nI i from nI_nl (a := 1080) (by omega) (by omega))]
      try simp (disch := omega) only [nl_0, nl_1, nl_2, nl_3, nl_4, nl_5, nl_6, nl_7, nl_8, nl_9, nl_10, nl_16, nl_17, nl_19, nl_20, nl_21, nl_30, nl_31, nl_32, nl_40, nl_41, nl_48, nl_50, nl_57, nl_60, nl_64, nl_99, nl_100, nl_119, nl_120, nl_121, nl_122, nl_123, nl_124, nl_125, nl_126, nl_130, nl_136, nl_200, nl_240, nl_255, nl_256, nl_257, nl_480, nl_1080, nI_add, nI_mul, nI_sub, cq_ib, nI_clamp, nI_leI, nI_ltI, nI_eq, dn_ck_t, dn_bd_s, dn_wr_e, dn_lt_e, cq_ofNat]
      exact e
    · rcases Nat.eq_or_lt_of_le h1 with rfl | h3
      · rw [f.1 101 (480 + i) (fun q => by omega), dn_p_same]
      · rw [z j h3 h2, dn_p_j _ _ _ _ _ _ (by omega)]
def P1r (a j : Nat) : Prop := (a = 100 ∧ j = 1) ∨ (a = 101 ∧ 480 ≤ j)
theorem rq_57 {t : dn_S} {n : Nat} (hn : n ≤ 9) (h1 : dn_g t 100 1 = nI n) :
    ∃ t', m_X12_minds_57 t = some ((), t') ∧ (∀ j, j < 120 → dn_g t' 101 (480 + 120 * n + j) = dn_g t 101 (0 + j)) ∧ dn_g t' 100 1 = nI (n + 1) ∧ fr (fun a j => (a = 100 ∧ j = 1) ∨ (a = 101 ∧ 480 + 120 * n ≤ j ∧ j < 480 + 120 * n + 120)) t t' := by
  obtain ⟨t1, e1, z1, f1⟩ := rq_copy (a := 0) (b := 480 + 120 * n) t (by omega) (by omega) (by omega)
  have g1 : dn_g t1 100 1 = nI n := (f1.1 100 1 (fun q => by omega)).trans h1
  refine ⟨dn_p t1 100 1 (nI (n + 1)), ?_, fun j hj => ?_, dn_p_same _ _ _ _, fr_trans (fr_mono f1 (fun a j q => Or.inr q)) (fr_p (Or.inl ⟨rfl, rfl⟩))⟩
  · unfold m_X12_minds_57
    rw [h1, show (480 : Int32) + 120 * nI n = nI (480 + 120 * n) from by rw [nl_480, nl_120, nI_mul, nI_add], nl_0, e1, dn_bd_s, g1, nl_1, nI_add]
    rfl
  · rw [dn_p_k _ _ _ _ _ _ (by decide)]; exact z1 j hj
theorem XI.fr {P Q : Nat → Nat → Prop} {τ : Tv} {s s' t t' : dn_S} (h4 : tv_b τ ≤ 4) (hI : XI τ s t) (hf : fr P s s') (hg : fr Q t t') (hP : ∀ a j, P a j → a ≠ 39 ∧ (a < 80 ∨ 87 < a)) (hQ : ∀ a j, Q a j → a ≠ 102 ∧ (a ≠ 101 ∨ j < 240 ∨ 480 ≤ j)) : XI τ s' t' := by
  intro i hi
  have e1 : dn_g s' 39 i = dn_g s 39 i := hf.1 39 i (fun q => by have := hP 39 i q; omega)
  have e2 : dn_g t' 102 i = dn_g t 102 i := hg.1 102 i (fun q => by have := hQ 102 i q; omega)
  rw [e1, e2]
  rcases hI i hi with q | ⟨q1, q2, q3⟩
  · exact Or.inl q
  · exact Or.inr ⟨q1, q2, q3.fr h4 hf hg (fun a j r => by have := hP a j r; omega) (fun a j r => by have := hQ a j r; omega)⟩
/-- both remember the moment: all else as before -/
theorem ah_mind {s t : dn_S} {τ : Tv} (h4 : tv_b τ ≤ 4) (hM : XM τ s 10 t 0) (hX : XU τ s t) :
    ∃ s' t', m_X6_remember 10 s = some ((), s') ∧ m_X12_minds t = some ((), t') ∧ XU τ s' t' ∧ fr (fun a _ => a = 36 ∨ (40 ≤ a ∧ a ≤ 79)) s s' ∧ fr P1r t t' := by
  obtain ⟨x, n, hx, hn, d2, d3, d4, d5⟩ := hX
  obtain ⟨s', e1, z1, b3, b4, f1⟩ := cq_remember hx hn d2 d3
  have f1' : fr (fun a _ => a = 36 ∨ (40 ≤ a ∧ a ≤ 79)) s s' := fr_mono f1 (fun a j q => by unfold P36 at q; omega)
  by_cases hn10 : n = 10
  · subst hn10
    obtain ⟨t1, g1, z2, k1⟩ := rq_shift 1080 0 2048 t (by omega) (by omega)
    have u1 : dn_g t1 100 1 = nI 10 := (k1.1 100 1 (fun q => by omega)).trans d4
    have u2 : dn_g (dn_p t1 100 1 (dn_g t1 100 1 - 1)) 100 1 = nI 9 := by rw [dn_p_same, u1]; rfl
    obtain ⟨t2, g2, z3, u3, k2⟩ := rq_57 (n := 9) (by omega) u2
    refine ⟨s', t2, e1, ?_, ⟨(x + 1) % 10, 10, by omega, by omega, b3, by rw [b4]; rfl, u3, fun i hi => ?_⟩, f1', fr_trans (fr_mono k1 (fun a j q => Or.inr ⟨q.1, by omega⟩)) (fr_trans (fr_p (Or.inl ⟨rfl, rfl⟩)) (fr_mono k2 (fun a j q => by unfold P1r; omega)))⟩
    · unfold m_X12_minds
      rw [d4, if_pos (show nI 10 = 10 from rfl), nl_0, g1]
      exact g2
    · by_cases hi9 : i = 9
      · subst hi9
        rw [show ((x + 1) % 10 + 10 - 10 + 9) % 10 = x by omega]
        refine hM.copy h4 z1 (fun j hj => ?_)
        rw [z3 j hj, dn_p_k _ _ _ _ _ _ (by decide), k1.1 101 (0 + j) (fun q => by omega)]
      · rw [show ((x + 1) % 10 + 10 - 10 + i) % 10 = (x + 10 - 10 + (i + 1)) % 10 by omega]
        have hi1 : XM τ s (40 + 4 * ((x + 10 - 10 + (i + 1)) % 10)) t2 (480 + 120 * i) := by
          refine (d5 (i + 1) (by omega)).copyR h4 (fun j hj => ?_)
          rw [k2.1 101 (480 + 120 * i + j) (fun q => by omega), dn_p_k _ _ _ _ _ _ (by decide), show 480 + 120 * i + j = 480 + (120 * i + j) by omega, z2 (120 * i + j) (by omega) (by omega), show 480 + (120 * i + j) + 120 = 480 + 120 * (i + 1) + j by omega]
        exact hi1.fr h4 f1 fr_refl (Q := fun _ _ => False) (fun a j q => by unfold P36 at q; omega) (fun a j q => q.elim)
  · obtain ⟨t2, g2, z3, u3, k2⟩ := rq_57 (n := n) (by omega) d4
    refine ⟨s', t2, e1, ?_, ⟨(x + 1) % 10, n + 1, by omega, by omega, b3, by rw [b4, Nat.min_eq_right (by omega)], u3, fun i hi => ?_⟩, f1', fr_mono k2 (fun a j q => by unfold P1r; omega)⟩
    · unfold m_X12_minds
      rw [d4, if_neg (show ¬ nI n = 10 from fun z => hn10 ((nI_eq (a := n) (b := 10) (by omega) (by omega)).mp z))]
      exact g2
    · by_cases hin : i = n
      · subst hin
        rw [show ((x + 1) % 10 + 10 - (i + 1) + i) % 10 = x by omega]
        exact hM.copy h4 z1 z3
      · rw [show ((x + 1) % 10 + 10 - (n + 1) + i) % 10 = (x + 10 - n + i) % 10 by omega]
        exact (d5 i (by omega)).fr h4 f1 k2 (fun a j q => by unfold P36 at q; omega) (fun a j q => by omega)
theorem ok_bids (a1 a2 : Int32) : Ok Int32 (m_X11_bids a1 a2) (m_X12_bids a1 a2) := by
  intro s t hR
  obtain ⟨τ, hW, hT, hU, hX, hXT, hXF, hXP, hXU, hXI, hl⟩ := id hR
  have h4 := hW.1
  unfold m_X11_bids m_X12_bids
  rw [cq_isName, rq_isName, dn_bd_s, dn_bd_s]
  by_cases h1 : ab_in a1.toInt (0 : Nat) (4 : Nat) = true
  · obtain ⟨x, _, hx, rfl⟩ := in_split h1
    rw [if_pos h1, if_pos h1, cq_within, rq_in, rq_i64, i32_1, i32_40, i64_1, i64_40, dn_bd_s, dn_bd_s]
    by_cases h2 : ab_in a2.toInt (1 : Nat) (40 : Nat) = true
    · obtain ⟨v, hv1, hv2, rfl⟩ := in_split h2
      rw [if_pos h2, if_pos h2]
      obtain ⟨s1, t1, e1, g1, hXU1, f1, k1⟩ := ah_mind h4 hX hXU
      have hX1 : XM τ s1 10 t1 0 := hX.fr h4 f1 k1 (fun a j q => by omega) (fun a j q => by unfold P1r at q; omega)
      have hXI1 : XI τ s1 t1 := hXI.fr h4 f1 k1 (fun a j q => by omega) (fun a j q => by unfold P1r at q; omega)
      obtain ⟨m, o, hM, hN, hC, hO, hd, hk, hwo⟩ := hX1
      rw [e1, g1, dn_bd_s, dn_bd_s]
      have r1 : dn_g t1 101 (4 : Int32).toNatClampNeg = o.2 := hO.1
      have r2 : 0 < o.2 → dn_g t1 101 (5 : Int32).toNatClampNeg = o.1 := hO.2
      unfold m_X12_bids_45
      rw [show dn_ib 4 1680 = true by decide, show dn_ib 5 1680 = true by decide, hC.1, r1]
      simp only [dn_ck_t, dn_lt_e, dn_wr_e]
      rw [show (4 : Int32).toNatClampNeg = 4 by decide, show (5 : Int32).toNatClampNeg = 5 by decide]
      have key : (if o.2 ≤ 0 then some ((-9 : Int32), dn_p (dn_p t1 101 4 (nI v)) 101 5 (nI x)) else some (dn_g t1 101 5, dn_p (dn_p t1 101 4 (nI v)) 101 5 (nI x))) = some (o.1, dn_p (dn_p t1 101 4 (nI v)) 101 5 (nI x)) := by
        rcases hwo with rfl | ⟨n, w, hn, hw1, hw2, rfl⟩
        · rw [if_pos (show (0 : Int32) ≤ 0 by decide)]
        · have hp : (0 : Int32) < nI w := nI_lt (a := 0) (by omega) (by omega)
          rw [if_neg (show ¬ nI w ≤ 0 from nI_nl (b := 0) (by omega) (by omega))]
          have := r2 hp
          rw [show (5 : Int32).toNatClampNeg = 5 by decide] at this
          rw [this]
      rw [key]
      have f2 : fr (fun a j => a = 10 ∧ (j = 6 ∨ j = 7)) s1 (dn_p (dn_p s1 10 6 (nI x)) 10 7 (nI v)) := fr_trans (fr_p ⟨rfl, Or.inl rfl⟩) (fr_p ⟨rfl, Or.inr rfl⟩)
      have k2 : fr (fun a j => a = 101 ∧ (j = 4 ∨ j = 5)) t1 (dn_p (dn_p t1 101 4 (nI v)) 101 5 (nI x)) := fr_trans (fr_p ⟨rfl, Or.inl rfl⟩) (fr_p ⟨rfl, Or.inr rfl⟩)
      refine ⟨_, _, _, rfl, rfl, Rel.re hW hT hU hXT hXF hXP hl (fr_trans (fr_mono f1 (fun a j q => by unfold FC; omega)) (fr_mono f2 (fun a j q => by unfold FC; omega))) (fr_trans (fr_mono k1 (fun a j q => by unfold P1r at q; unfold FR; omega)) (fr_mono k2 (fun a j q => by unfold FR; omega))) ⟨m, (nI x, nI v), ?_, ?_, ⟨?_, ?_⟩, ⟨?_, ?_⟩, hd, hk, Or.inr ⟨x, v, by omega, hv1, hv2, rfl⟩⟩ ?_ (hXI1.fr h4 f2 k2 (fun a j q => by omega) (fun a j q => by omega))⟩
      · exact ⟨(f2.1 10 3 (by omega)).trans hM.1, (f2.1 10 4 (by omega)).trans hM.2.1, (f2.1 10 5 (by omega)).trans hM.2.2.1, fun i hi => (f2.1 _ _ (by omega)).trans (hM.2.2.2.1 i hi), fun i hi => (f2.1 _ _ (by omega)).trans (hM.2.2.2.2.1 i hi), fun i hi => (f2.1 _ _ (by omega)).trans (hM.2.2.2.2.2 i hi)⟩
      · exact ⟨(k2.1 _ _ (by omega)).trans hN.1, (k2.1 _ _ (by omega)).trans hN.2.1, (k2.1 _ _ (by omega)).trans hN.2.2.1, (k2.1 _ _ (by omega)).trans hN.2.2.2.1, fun i hi => (k2.1 _ _ (by omega)).trans (hN.2.2.2.2.1 i hi), fun i hi => (k2.1 _ _ (by omega)).trans (hN.2.2.2.2.2.1 i hi), fun i hi => (k2.1 _ _ (by omega)).trans (hN.2.2.2.2.2.2 i hi)⟩
      · rw [dn_p_j _ _ _ _ _ _ (by decide), dn_p_same]
      · rw [dn_p_same]
      · rw [dn_p_j _ _ _ _ _ _ (by decide), dn_p_same]
      · intro _; rw [dn_p_same]
      · obtain ⟨y, n, u1, u2, u3, u4, u5, u6⟩ := hXU1
        exact ⟨y, n, u1, u2, (f2.1 _ _ (by omega)).trans u3, (f2.1 _ _ (by omega)).trans u4, (k2.1 _ _ (by omega)).trans u5, fun i hi => (u6 i hi).fr h4 f2 k2 (fun a j q => by omega) (fun a j q => by omega)⟩
    · rw [if_neg h2, if_neg h2]
      exact ⟨_, s, t, rfl, rfl, hR⟩
  · rw [if_neg h1, if_neg h1]
    exact ⟨_, s, t, rfl, rfl, hR⟩
