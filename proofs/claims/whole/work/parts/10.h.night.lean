/-! the reference's end of a night; whole nights -/
def PNR (h a j : Nat) : Prop := (a = 100 ∧ 32 ≤ j ∧ j ≤ 34) ∨ (a = 101 ∧ h ≤ j ∧ j < h + 120)
theorem rq_ends {t : dn_S} {h : Nat} {τ : Tv} {m : Mv} {cw : Nat → Int32 × Int32} (hW : WT τ) (hh : h ≤ 1500) (hT : RT t τ) (hM : RM t h τ m) (hd : mv_d m < 104) (hz : ∀ b, b < 5 → Zr t b (cw b)) (h0 : ∀ b, tv_b τ ≤ b → b < 4 → (cw b).1 = 0) :
    ∃ t', m_X12_ends (nI h) t = some ((ab_ends τ m cw).1, t') ∧ RM t' h τ (ab_ends τ m cw).2 ∧ dn_g t' 100 32 = (ab_w (ab_c1 cw)).1 ∧ dn_g t' 100 33 = ab_price (ab_c1 cw) ∧ dn_g t' 101 (h + 4) = 0 ∧ fr (PNR h) t t' := by
  have h4 := hW.1
  have hc : ∀ j, j < 5 → dn_g t 115 j = ab_c1 cw j := fun j hj => (hz j hj).1
  obtain ⟨t1, e1, a1, b1, p1, f1⟩ := rq_sells hc
  have f1' : fr (PNR h) t t1 := fr_mono f1 (fun a j q => Or.inl q)
  have f2 : fr (PNR h) t (dn_p t1 101 (h + 4) (nI 0)) := fr_trans f1' (fr_p (Or.inr ⟨rfl, by omega, by omega⟩))
  have hM1 : RM t1 h τ m := hM.fr f1 (by omega) h4 (fun a j q => Or.inl (by have := q.1; omega))
  have hM2 : RM (dn_p t1 101 (h + 4) (nI 0)) h τ m := by
    refine ⟨?_, ?_, ?_, ?_, fun i hi => ?_, fun b hb => ?_, fun j hj => ?_⟩
    · rw [dn_p_j _ _ _ _ _ _ (by omega)]; exact hM1.1
    · rw [dn_p_j _ _ _ _ _ _ (by omega)]; exact hM1.2.1
    · rw [dn_p_j _ _ _ _ _ _ (by omega)]; exact hM1.2.2.1
    · rw [dn_p_j _ _ _ _ _ _ (by omega)]; exact hM1.2.2.2.1
    · rw [dn_p_j _ _ _ _ _ _ (by omega)]; exact hM1.2.2.2.2.1 i hi
    · rw [dn_p_j _ _ _ _ _ _ (by omega)]; exact hM1.2.2.2.2.2.1 b hb
    · rw [dn_p_j _ _ _ _ _ _ (by omega)]; exact hM1.2.2.2.2.2.2 j hj
  have hT2 : RT (dn_p t1 101 (h + 4) (nI 0)) τ := hT.fr f2 (fun a j q => by rcases q with q | q <;> omega)
  have g4 : dn_g (dn_p t1 101 (h + 4) (nI 0)) 101 (h + 4) = 0 := dn_p_same _ _ _ _
  have g32 : dn_g (dn_p t1 101 (h + 4) (nI 0)) 100 32 = (ab_w (ab_c1 cw)).1 := by rw [dn_p_k _ _ _ _ _ _ (by decide)]; exact a1
  have g33 : dn_g (dn_p t1 101 (h + 4) (nI 0)) 100 33 = ab_price (ab_c1 cw) := by rw [dn_p_k _ _ _ _ _ _ (by decide)]; exact p1
  have hz2 : ∀ b, b < 5 → Zr (dn_p t1 101 (h + 4) (nI 0)) b (cw b) := fun b hb => (hz b hb).fr f2 (fun a j q r => by rcases q with q | q <;> omega)
  unfold m_X12_ends
  rw [e1, dn_bd_s, nl_4, nI_add, cq_ib (by omega) (by omega), dn_ck_t, dn_wr_e, nI_clamp (by omega), nl_0]
  generalize dn_p t1 101 (h + 4) (nI 0) = t2 at f2 hM2 hT2 g4 g32 g33 hz2 ⊢
  unfold ab_ends
  rw [g32]
  by_cases hw : (ab_w (ab_c1 cw)).1 = -9
  · rw [if_pos hw, if_pos hw]
    try simp (disch := omega) only [nl_0, nl_1, nl_2, nl_3, nl_4, nl_5, nl_6, nl_7, nl_8, nl_9, nl_10, nl_16, nl_17, nl_19, nl_20, nl_21, nl_30, nl_31, nl_32, nl_40, nl_41, nl_48, nl_50, nl_57, nl_60, nl_64, nl_99, nl_100, nl_119, nl_120, nl_121, nl_122, nl_123, nl_124, nl_125, nl_126, nl_130, nl_136, nl_200, nl_240, nl_255, nl_256, nl_257, nl_480, nl_1080, nI_add, nI_mul, nI_sub, cq_ib, nI_clamp, nI_leI, nI_ltI, nI_eq, dn_ck_t, dn_bd_s, dn_wr_e, dn_lt_e, cq_ofNat]
    rw [hM2.2.1]
    refine ⟨_, rfl, ?_, ?_, ?_, ?_, fr_trans f2 (fr_p (Or.inr ⟨rfl, by omega, by omega⟩))⟩
    · refine RM_mk.mpr ⟨?_, ?_, ?_, ?_, fun i hi => ?_, fun b hb => ?_, fun j hj => ?_⟩
      · rw [dn_p_j _ _ _ _ _ _ (by omega)]; exact hM2.1
      · rw [dn_p_same]
      · rw [dn_p_j _ _ _ _ _ _ (by omega)]; exact hM2.2.2.1
      · rw [dn_p_j _ _ _ _ _ _ (by omega)]; exact hM2.2.2.2.1
      · rw [dn_p_j _ _ _ _ _ _ (by omega)]; exact hM2.2.2.2.2.1 i hi
      · rw [dn_p_j _ _ _ _ _ _ (by omega)]; exact hM2.2.2.2.2.2.1 b hb
      · rw [dn_p_j _ _ _ _ _ _ (by omega)]; exact hM2.2.2.2.2.2.2 j hj
    · rw [dn_p_k _ _ _ _ _ _ (by decide)]; exact g32
    · rw [dn_p_k _ _ _ _ _ _ (by decide)]; exact g33
    · rw [dn_p_j _ _ _ _ _ _ (by omega)]; exact g4
  · rcases ab_w_ok (ab_c1 cw) with ⟨q, _⟩ | ⟨i, hi, e1, e2, e3⟩
    · exact absurd q hw
    · have eWi : ab_wi cw = i := by unfold ab_wi; rw [e1, nI_clamp (by omega)]
      rw [if_neg hw, if_neg hw]
      have key : ∀ t3, fr (PNR h) t t3 → dn_g t3 100 32 = nI i → dn_g t3 100 33 = ab_price (ab_c1 cw) → dn_g t3 101 (h + 4) = 0 → RM t3 h τ (ab_m1 m cw) → ∃ t', m_X12_ends_84 (nI h) t3 = some (ab_x cw, t') ∧ RM t' h τ (ab_day τ (ab_m1 m cw) (ab_x cw)) ∧ dn_g t' 100 32 = nI i ∧ dn_g t' 100 33 = ab_price (ab_c1 cw) ∧ dn_g t' 101 (h + 4) = 0 ∧ fr (PNR h) t t' := by
        intro t3 f3 k2 k3 k4 hM3
        unfold m_X12_ends_84
        have hx : dn_g t3 116 i = ab_x cw := by
          rw [f3.1 116 i (fun q => by rcases q with q | q <;> omega)]
          unfold ab_x
          rw [eWi]
          exact (hz i hi).2 e3
        rw [k2, cq_ib hi (by omega), dn_ck_t, nI_clamp (by omega), dn_lt_e, hx]
        obtain ⟨t4, e4, c4, f4⟩ := rq_comes (x := ab_x cw) hW hh (hT.fr f3 (fun a j q => by rcases q with q | q <;> omega)) hM3 (by rw [ab_m1_d]; exact hd)
        rw [e4, dn_bd_s]
        exact ⟨t4, rfl, c4, by rw [f4.1 100 32 (fun q => by have := q.1; omega), k2], by rw [f4.1 100 33 (fun q => by have := q.1; omega), k3], by rw [f4.1 101 (h + 4) (fun q => by have := q.2; omega), k4], fr_trans f3 (fr_mono f4 (fun a j q => Or.inr ⟨q.1, by have := q.2; omega, by have := q.2; omega⟩))⟩
      by_cases hw4 : (ab_w (ab_c1 cw)).1 = 4
      · have hi4 : i = 4 := by
          rw [e1, nl_4] at hw4
          exact (nI_eq (by omega) (by omega)).mp hw4
        rw [e1, if_pos (nI_le (show 4 ≤ i by omega) (by omega))]
        try simp (disch := omega) only [nl_0, nl_1, nl_2, nl_3, nl_4, nl_5, nl_6, nl_7, nl_8, nl_9, nl_10, nl_16, nl_17, nl_19, nl_20, nl_21, nl_30, nl_31, nl_32, nl_40, nl_41, nl_48, nl_50, nl_57, nl_60, nl_64, nl_99, nl_100, nl_119, nl_120, nl_121, nl_122, nl_123, nl_124, nl_125, nl_126, nl_130, nl_136, nl_200, nl_240, nl_255, nl_256, nl_257, nl_480, nl_1080, nI_add, nI_mul, nI_sub, cq_ib, nI_clamp, nI_leI, nI_ltI, nI_eq, dn_ck_t, dn_bd_s, dn_wr_e, dn_lt_e, cq_ofNat]
        rw [hM2.2.2.1, g33]
        refine key _ (fr_trans f2 (fr_p (Or.inr ⟨rfl, by omega, by omega⟩))) (by rw [dn_p_k _ _ _ _ _ _ (by decide), g32, e1]) (by rw [dn_p_k _ _ _ _ _ _ (by decide)]; exact g33) (by rw [dn_p_j _ _ _ _ _ _ (by omega)]; exact g4) ?_
        unfold ab_m1
        rw [if_pos hw4]
        refine RM_mk.mpr ⟨?_, ?_, dn_p_same _ _ _ _, ?_, fun i hi => ?_, fun b hb => ?_, fun j hj => ?_⟩
        · rw [dn_p_j _ _ _ _ _ _ (by omega)]; exact hM2.1
        · rw [dn_p_j _ _ _ _ _ _ (by omega)]; exact hM2.2.1
        · rw [dn_p_j _ _ _ _ _ _ (by omega)]; exact hM2.2.2.2.1
        · rw [dn_p_j _ _ _ _ _ _ (by omega)]; exact hM2.2.2.2.2.1 i hi
        · rw [dn_p_j _ _ _ _ _ _ (by omega)]; exact hM2.2.2.2.2.2.1 b hb
        · rw [dn_p_j _ _ _ _ _ _ (by omega)]; exact hM2.2.2.2.2.2.2 j hj
      · have hi4 : i < 4 := by
          rcases Nat.lt_or_ge i 4 with r | r
          · exact r
          · exact absurd (by rw [e1, show i = 4 by omega]; rfl) hw4
        have hib : i < tv_b τ := by
          rcases Nat.lt_or_ge i (tv_b τ) with q | q
          · exact q
          · have := h0 i q hi4
            rw [show ab_c1 cw i = 0 from this] at e3
            exact absurd e3 (by decide)
        rw [e1, if_neg (nI_ge (show i < 4 by omega) (by omega))]
        try simp (disch := omega) only [nl_0, nl_1, nl_2, nl_3, nl_4, nl_5, nl_6, nl_7, nl_8, nl_9, nl_10, nl_16, nl_17, nl_19, nl_20, nl_21, nl_30, nl_31, nl_32, nl_40, nl_41, nl_48, nl_50, nl_57, nl_60, nl_64, nl_99, nl_100, nl_119, nl_120, nl_121, nl_122, nl_123, nl_124, nl_125, nl_126, nl_130, nl_136, nl_200, nl_240, nl_255, nl_256, nl_257, nl_480, nl_1080, nI_add, nI_mul, nI_sub, cq_ib, nI_clamp, nI_leI, nI_ltI, nI_eq, dn_ck_t, dn_bd_s, dn_wr_e, dn_lt_e, cq_ofNat]
        rw [g33]
        have es : dn_g t2 101 (h + 6 + i) - ab_price (ab_c1 cw) = dn_g t2 101 (h + 6 + i) + -(ab_price (ab_c1 cw)) := Int32.sub_eq_add_neg _ _
        rw [es]
        refine key _ (fr_trans f2 (fr_p (Or.inr ⟨rfl, by omega, by omega⟩))) (by rw [dn_p_k _ _ _ _ _ _ (by decide), g32, e1]) (by rw [dn_p_k _ _ _ _ _ _ (by decide)]; exact g33) (by rw [dn_p_j _ _ _ _ _ _ (by omega)]; exact g4) ?_
        unfold ab_m1
        rw [if_neg hw4, eWi]
        have hz3 : TRr t2 h τ (mv_P m, mv_H m) (nI (ab_df (mv_H m) 6 0)) := ⟨hM2.2.2.2.2.2.1, hM2.2.2.2.2.2.2, hM2.2.2.2.1⟩
        have hz4 := hz3.ad (v := -(ab_price (ab_c1 cw))) h4 hib
        refine RM_mk.mpr ⟨?_, ?_, ?_, hz4.2.2, fun i hi => ?_, hz4.1, hz4.2.1⟩
        · rw [dn_p_j _ _ _ _ _ _ (by omega)]; exact hM2.1
        · rw [dn_p_j _ _ _ _ _ _ (by omega)]; exact hM2.2.1
        · rw [dn_p_j _ _ _ _ _ _ (by omega)]; exact hM2.2.2.1
        · rw [dn_p_j _ _ _ _ _ _ (by omega)]; exact hM2.2.2.2.2.1 i hi
theorem ab_cwo_0 (τ : Tv) (m : Mv) (o : Int32 × Int32) : ∀ b, tv_b τ ≤ b → b < 4 → (ab_cwo τ m o b).1 = 0 := by
  intro b h1 h2
  unfold ab_cwo ab_cw
  rw [if_neg (by omega), if_neg (by omega)]
/-- a whole night: the answer, and the moment behind it -/
def ab_night (τ : Tv) (m : Mv) (o : Int32 × Int32) : Int32 × Mv := ab_ends τ m (ab_cwo τ m o)
def PGR (h a j : Nat) : Prop := PNR h a j ∨ a = 115 ∨ a = 116
theorem rq_goes {t : dn_S} {h : Nat} {τ : Tv} {m : Mv} {o : Int32 × Int32} (hW : WT τ) (hh : h ≤ 1500) (hT : RT t τ) (hM : RM t h τ m) (hO : RO t h o) (hd : mv_d m < 104) :
    ∃ t', m_X12_goes (nI h) t = some ((ab_night τ m o).1, t') ∧ RM t' h τ (ab_night τ m o).2 ∧ RO t' h (-9, 0) ∧ fr (PGR h) t t' := by
  have h4 := hW.1
  obtain ⟨t1, e1, z1, f1⟩ := rq_open hW hh hT hM hO (by omega)
  obtain ⟨t2, e2, c2, -, -, g4, f2⟩ := rq_ends hW hh (hT.fr f1 (fun a j q => by rcases q with q | q <;> omega)) (hM.fr f1 (by omega) h4 (fun a j q => by rcases q with q | q <;> omega)) hd z1 (ab_cwo_0 τ m o)
  refine ⟨t2, ?_, c2, ⟨g4, fun q => absurd q (show ¬ ((0 : Int32) < 0) by decide)⟩, fr_trans (fr_mono f1 (fun a j q => Or.inr q)) (fr_mono f2 (fun a j q => Or.inl q))⟩
  unfold m_X12_goes
  rw [e1, dn_bd_s, e2, dn_bd_s]
  rfl
theorem cq_cwo {s : dn_S} {τ : Tv} {m : Mv} (hW : WT τ) (x : Int32) (hz : ∀ b, b < 5 → Zc s b (ab_cw τ m b)) : ∀ b, b < 5 → Zc s b (ab_cwo τ m (x, 0) b) := by
  intro b hb
  unfold ab_cwo
  by_cases h : b = 4
  · subst h
    rw [if_pos rfl, if_neg (fun q => absurd q.1 (show ¬ ((0 : Int32) < 0) by decide))]
    have := hz 4 (by omega)
    unfold ab_cw at this
    rw [if_neg (by have := hW.1; omega)] at this
    exact ⟨this.1, fun q => absurd q (show ¬ ((0 : Int32) < 0) by decide)⟩
  · rw [if_neg h]; exact hz b hb
theorem cq_cwo2 {s : dn_S} {τ : Tv} {m : Mv} {x : Nat} {v : Int32} (hW : WT τ) (hv : 0 < v) (hz : ∀ b, b < 5 → Zc s b (if b = 4 then (if ab_brd τ m (nI x) = true then ab_cw τ m 4 else (v, nI x)) else ab_cw τ m b)) : ∀ b, b < 5 → Zc s b (ab_cwo τ m (nI x, v) b) := by
  intro b hb
  have := hz b hb
  unfold ab_cwo
  by_cases h : b = 4
  · subst h
    rw [if_pos rfl] at this ⊢
    by_cases h3 : ab_brd τ m (nI x) = true
    · rw [if_pos h3] at this
      unfold ab_cw at this
      rw [if_neg (by have := hW.1; omega)] at this
      rw [if_neg (fun q => by rw [h3] at q; exact absurd q.2 (by decide))]
      exact ⟨this.1, fun q => absurd q (show ¬ ((0 : Int32) < 0) by decide)⟩
    · rw [if_neg h3] at this
      rw [if_pos ⟨hv, by simpa using h3⟩]
      exact this
  · rw [if_neg h] at this ⊢; exact this
def PGC (k a j : Nat) : Prop := PCL k a j ∨ a = 16 ∨ a = 17
/-- a night to come: opened and closed, without one's own bid -/
theorem cq_goes {s : dn_S} {k : Nat} {τ : Tv} {m : Mv} (hW : WT τ) (hk : k = 10 ∨ 19 ≤ k) (hT : CT s 3 τ) (hM : CM s k τ m) (hd : mv_d m < 100) (x : Int32) :
    ∃ s1 s2, m_X4_open k s = some ((), s1) ∧ m_X4_close k s1 = some ((ab_night τ m (x, 0)).1, s2) ∧ CM s2 k τ (ab_night τ m (x, 0)).2 ∧ fr (PGC k) s s2 := by
  obtain ⟨s1, e1, z1, f1⟩ := cq_open hW hk hT hM (by omega)
  obtain ⟨s2, e2, c2, -, -, f2⟩ := cq_close hW hk (hT.fr f1 (fun a j q => by rcases q with q | q <;> omega)) (hM.fr f1 (fun a j q => by rcases q with q | q <;> omega)) hd (cq_cwo hW x z1) (ab_cwo_0 τ m (x, 0))
  exact ⟨s1, s2, e1, e2, c2, fr_trans (fr_mono f1 (fun a j q => Or.inr q)) (fr_mono f2 (fun a j q => Or.inl q))⟩
theorem ab_ends_d (τ : Tv) (m : Mv) (cw : Nat → Int32 × Int32) : mv_d (ab_ends τ m cw).2 ≤ mv_d m + 1 := by
  unfold ab_ends
  by_cases h : (ab_w (ab_c1 cw)).1 = -9
  · rw [if_pos h, mv_d_mk]; omega
  · rw [if_neg h]
    show mv_d (ab_day τ (ab_m1 m cw) (ab_x cw)) ≤ _
    unfold ab_day
    rw [mv_d_mk, ab_m1_d]
    exact Nat.le_refl _
theorem ab_night_d (τ : Tv) (m : Mv) (o : Int32 × Int32) : mv_d (ab_night τ m o).2 ≤ mv_d m + 1 := ab_ends_d τ m _
/-- n nights, none of them with one's own bid -/
def ab_n (τ : Tv) : Nat → Mv → Mv
  | 0, m => m
  | n + 1, m => ab_n τ n (ab_night τ m (-9, 0)).2
theorem ab_n_d (τ : Tv) : ∀ n m, mv_d (ab_n τ n m) ≤ mv_d m + n := by
  intro n
  induction n with
  | zero => intro m; exact Nat.le_refl _
  | succ n ih =>
    intro m
    have h1 := ih (ab_night τ m (-9, 0)).2
    have h2 := ab_night_d τ m (-9, 0)
    rw [ab_n]
    omega
