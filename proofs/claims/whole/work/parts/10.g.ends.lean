/-! the reference's day; the end of a night on both sides -/
def RMw (t : dn_S) (h : Nat) (τ : Tv) (m : Mv) (i : Nat) : Prop := dn_g t 101 h = nI (mv_d m) ∧ dn_g t 101 (h + 1) = mv_k m ∧ dn_g t 101 (h + 2) = mv_p m ∧
  (∀ i, i < mv_d m → dn_g t 101 (h + 16 + i) = mv_N m i) ∧ DMr t h τ (fun b => if b < i then mv_P m b + tv_F τ b 1 else mv_P m b, mv_H m)
theorem rq_wages {h : Nat} {τ : Tv} {m : Mv} {x : Int32} (hW : WT τ) (h0 : h ≤ 1500) (hd : mv_d m ≤ 104) : ∀ (c b fuel : Nat) (t : dn_S), b + c = tv_b τ → c < fuel → RT t τ → RMw t h τ m b →
    ∃ t', m_X12_comes_33 fuel (nI h) x (nI b) t = m_X12_comes_77 2048 (nI h) x (nI (ab_cnt (mv_N m) x (mv_d m) 0)) (nI 0) t' ∧ RMw t' h τ m (tv_b τ) ∧ fr (PDr h) t t' := by
  have h4 := hW.1
  intro c
  induction c with
  | zero =>
    intro b fuel t hb hf hT hM
    obtain ⟨f, rfl⟩ : ∃ f, fuel = f + 1 := ⟨fuel - 1, by omega⟩
    obtain rfl : b = tv_b τ := by omega
    refine ⟨t, ?_, hM, fr_refl⟩
    have e : m_X12_countOf (nI h) x t = some (nI (0 + ab_cnt (fun i => dn_g t 101 (h + 16 + i)) x (mv_d m) 0), t) := rq_cnt_loop (x := x) hM.1 h0 hd (mv_d m) 0 0 2048 (by omega) (by omega)
    rw [ab_cnt_congr (N' := mv_N m) hM.2.2.2.1 _ _ (by omega), Nat.zero_add] at e
    rw [m_X12_comes_33, hT.1, if_pos (nI_le (by omega) (by omega)), e]
    rfl
  | succ c ih =>
    intro b fuel t hb hf hT hM
    obtain ⟨f, rfl⟩ : ∃ f, fuel = f + 1 := ⟨fuel - 1, by omega⟩
    rw [m_X12_comes_33, hT.1, if_neg (nI_ge (by omega) (by omega))]
    try simp (disch := omega) only [nl_0, nl_1, nl_2, nl_3, nl_4, nl_5, nl_6, nl_7, nl_8, nl_9, nl_10, nl_16, nl_17, nl_19, nl_20, nl_21, nl_30, nl_31, nl_32, nl_40, nl_41, nl_48, nl_50, nl_57, nl_60, nl_64, nl_99, nl_100, nl_119, nl_120, nl_121, nl_122, nl_123, nl_124, nl_125, nl_126, nl_130, nl_136, nl_200, nl_240, nl_255, nl_256, nl_257, nl_480, nl_1080, nI_add, nI_mul, nI_sub, cq_ib, nI_clamp, nI_leI, nI_ltI, nI_eq, dn_ck_t, dn_bd_s, dn_wr_e, dn_lt_e, cq_ofNat]
    rw [(hT.2.2.2.1 b (by omega)).2.1]
    have f1 : fr (PDr h) t (dn_p t 101 (h + 6 + b) (dn_g t 101 (h + 6 + b) + tv_F τ b 1)) := fr_p ⟨rfl, Or.inr (by omega)⟩
    have hz0 : TRr t h τ (fun b' => if b' < b then mv_P m b' + tv_F τ b' 1 else mv_P m b', mv_H m) (nI (ab_df (mv_H m) 6 0)) := hM.2.2.2.2
    have hz := hz0.ad (v := tv_F τ b 1) h4 (show b < tv_b τ by omega)
    obtain ⟨s2, e2, z2, f2⟩ := ih (b + 1) f (dn_p t 101 (h + 6 + b) (dn_g t 101 (h + 6 + b) + tv_F τ b 1)) (by omega) (by omega) (hT.fr f1 (fun a b q => Or.inl q.1))
      ⟨by rw [dn_p_j _ _ _ _ _ _ (by omega)]; exact hM.1, by rw [dn_p_j _ _ _ _ _ _ (by omega)]; exact hM.2.1, by rw [dn_p_j _ _ _ _ _ _ (by omega)]; exact hM.2.2.1, fun i hi => by rw [dn_p_j _ _ _ _ _ _ (by omega)]; exact hM.2.2.2.1 i hi,
        ⟨fun i hi => by
          rw [hz.1 i hi]
          show ab_ad _ b _ i = _
          unfold ab_ad
          dsimp only
          by_cases q : i = b
          · subst q; rw [if_pos rfl, if_neg (by omega), if_pos (by omega)]
          · rw [if_neg q]
            by_cases r : i < b
            · rw [if_pos r, if_pos (by omega)]
            · rw [if_neg r, if_neg (by omega)], hz.2.1, hz.2.2⟩⟩
    exact ⟨s2, e2, z2, fr_trans f1 f2⟩
def PHr (h a j : Nat) : Prop := a = 101 ∧ (j = h ∨ j = h + 3 ∨ (h + 6 ≤ j ∧ j < h + 120))
theorem rq_comes {t : dn_S} {h : Nat} {τ : Tv} {m : Mv} {x : Int32} (hW : WT τ) (h0 : h ≤ 1500) (hT : RT t τ) (hM : RM t h τ m) (hd : mv_d m < 104) :
    ∃ t', m_X12_comes (nI h) x t = some ((), t') ∧ RM t' h τ (ab_day τ m x) ∧ fr (PHr h) t t' := by
  have h4 := hW.1
  have f0 : fr (PHr h) t (dn_p (dn_p t 101 (h + 16 + mv_d m) x) 101 h (nI (mv_d m + 1))) := fr_trans (fr_p ⟨rfl, Or.inr (Or.inr ⟨by omega, by omega⟩)⟩) (fr_p ⟨rfl, Or.inl rfl⟩)
  let m1 : Mv := (ab_up (mv_N m) (mv_d m) x, mv_P m, mv_H m, mv_d m + 1, mv_k m, mv_p m)
  have hM1 : RMw (dn_p (dn_p t 101 (h + 16 + mv_d m) x) 101 h (nI (mv_d m + 1))) h τ m1 0 := by
    refine ⟨dn_p_same _ _ _ _, ?_, ?_, fun i hi => ?_, fun b hb => ?_, fun j hj => ?_, ?_⟩
    · rw [dn_p_j _ _ _ _ _ _ (by omega), dn_p_j _ _ _ _ _ _ (by omega)]; exact hM.2.1
    · rw [dn_p_j _ _ _ _ _ _ (by omega), dn_p_j _ _ _ _ _ _ (by omega)]; exact hM.2.2.1
    · rw [dn_p_j _ _ _ _ _ _ (by omega)]
      show _ = ab_up (mv_N m) (mv_d m) x i
      unfold ab_up
      by_cases q : i = mv_d m
      · subst q; rw [dn_p_same, if_pos rfl]
      · rw [dn_p_j _ _ _ _ _ _ (by omega), if_neg q]
        exact hM.2.2.2.2.1 i (by have : i < mv_d m + 1 := hi; omega)
    · rw [dn_p_j _ _ _ _ _ _ (by omega), dn_p_j _ _ _ _ _ _ (by omega)]
      show _ = if b < 0 then mv_P m b + tv_F τ b 1 else mv_P m b
      rw [if_neg (by omega)]; exact hM.2.2.2.2.2.1 b hb
    · rw [dn_p_j _ _ _ _ _ _ (by omega), dn_p_j _ _ _ _ _ _ (by omega)]; exact hM.2.2.2.2.2.2 j hj
    · rw [dn_p_j _ _ _ _ _ _ (by omega), dn_p_j _ _ _ _ _ _ (by omega)]; exact hM.2.2.2.1
  have hT1 := hT.fr f0 (fun a j q => Or.inl q.1)
  obtain ⟨s1, e1, c1, f1⟩ := rq_wages (x := x) (m := m1) hW h0 (by show mv_d m + 1 ≤ 104; omega) (tv_b τ) 0 2048 _ (by omega) (by omega) hT1 hM1
  have hz1 : DMr s1 h τ (fun b => mv_P m b + tv_F τ b 1, mv_H m) := ⟨fun b hb => by rw [c1.2.2.2.2.1 b hb]; show (if b < tv_b τ then _ else _) = _; rw [if_pos hb]; rfl, c1.2.2.2.2.2⟩
  have hT2 := hT1.fr f1 (fun a j q => Or.inl q.1)
  obtain ⟨s2, e2, z2, f2⟩ := rq_debts (x := x) (n := ab_cnt (ab_up (mv_N m) (mv_d m) x) x (mv_d m + 1) 0) hW h0 (tv_d τ) 0 2048 s1 _ (by omega) (by have := hW.2.1; omega) hT2 hz1
  refine ⟨s2, ?_, ?_, fr_trans f0 (fr_mono (fr_trans f1 f2) (fun a j q => ⟨q.1, by have := q.2; omega⟩))⟩
  · unfold m_X12_comes
    try simp (disch := omega) only [nl_0, nl_1, nl_2, nl_3, nl_4, nl_5, nl_6, nl_7, nl_8, nl_9, nl_10, nl_16, nl_17, nl_19, nl_20, nl_21, nl_30, nl_31, nl_32, nl_40, nl_41, nl_48, nl_50, nl_57, nl_60, nl_64, nl_99, nl_100, nl_119, nl_120, nl_121, nl_122, nl_123, nl_124, nl_125, nl_126, nl_130, nl_136, nl_200, nl_240, nl_255, nl_256, nl_257, nl_480, nl_1080, nI_add, nI_mul, nI_sub, cq_ib, nI_clamp, nI_leI, nI_ltI, nI_eq, dn_ck_t, dn_bd_s, dn_wr_e, dn_lt_e, cq_ofNat, Nat.add_zero, hM.1, dn_p_j]
    rw [e1]
    exact e2
  · have e3 : ∀ j, j ≠ h + 3 → (j < h + 6 ∨ h + 16 ≤ j) → dn_g s2 101 j = dn_g s1 101 j := fun j p q => f2.1 101 j (fun r => by have := r.2; omega)
    exact ⟨by rw [e3 _ (by omega) (by omega)]; exact c1.1, by rw [e3 _ (by omega) (by omega)]; exact c1.2.1, by rw [e3 _ (by omega) (by omega)]; exact c1.2.2.1, z2.2.2, fun i hi => by rw [e3 _ (by omega) (by omega)]; exact c1.2.2.2.1 i hi, z2.1, z2.2.1⟩
theorem CM_mk {s : dn_S} {k : Nat} {τ : Tv} {N P H : Nat → Int32} {d : Nat} {a b : Int32} : CM s k τ (N, P, H, d, a, b) ↔ (dn_g s k 3 = nI d ∧ dn_g s k 4 = a ∧ dn_g s k 5 = b ∧
  (∀ i, i < d → dn_g s (k + 1) i = N i) ∧ (∀ b, b < tv_b τ → dn_g s (k + 2) b = P b) ∧ (∀ j, j < 6 → dn_g s (k + 3) j = H j)) := Iff.rfl
theorem RM_mk {t : dn_S} {h : Nat} {τ : Tv} {N P H : Nat → Int32} {d : Nat} {a b : Int32} : RM t h τ (N, P, H, d, a, b) ↔ (dn_g t 101 h = nI d ∧ dn_g t 101 (h + 1) = a ∧ dn_g t 101 (h + 2) = b ∧ dn_g t 101 (h + 3) = nI (ab_df H 6 0) ∧
  (∀ i, i < d → dn_g t 101 (h + 16 + i) = N i) ∧ (∀ b, b < tv_b τ → dn_g t 101 (h + 6 + b) = P b) ∧ (∀ j, j < 6 → dn_g t 101 (h + 10 + j) = H j)) := Iff.rfl
theorem mv_d_mk (N P H : Nat → Int32) (d : Nat) (a b : Int32) : mv_d (N, P, H, d, a, b) = d := rfl
/-- the end of a night by the bids cw -/
def ab_c1 (cw : Nat → Int32 × Int32) (b : Nat) : Int32 := (cw b).1
def ab_wi (cw : Nat → Int32 × Int32) : Nat := (ab_w (ab_c1 cw)).1.toNatClampNeg
def ab_x (cw : Nat → Int32 × Int32) : Int32 := (cw (ab_wi cw)).2
def ab_m1 (m : Mv) (cw : Nat → Int32 × Int32) : Mv :=
  if (ab_w (ab_c1 cw)).1 = 4 then (mv_N m, mv_P m, mv_H m, mv_d m, mv_k m, mv_p m + ab_price (ab_c1 cw))
  else (mv_N m, ab_ad (mv_P m) (ab_wi cw) (-(ab_price (ab_c1 cw))), mv_H m, mv_d m, mv_k m, mv_p m)
def ab_ends (τ : Tv) (m : Mv) (cw : Nat → Int32 × Int32) : Int32 × Mv :=
  if (ab_w (ab_c1 cw)).1 = -9 then (-5, (mv_N m, mv_P m, mv_H m, mv_d m, mv_k m + 1, mv_p m)) else (ab_x cw, ab_day τ (ab_m1 m cw) (ab_x cw))
def PCL (k a j : Nat) : Prop := (a = 14 ∧ (j = 2 ∨ j = 3)) ∨ (PM k a j ∧ (a = k → j = 3 ∨ j = 4 ∨ j = 5))
theorem ab_m1_d (m : Mv) (cw : Nat → Int32 × Int32) : mv_d (ab_m1 m cw) = mv_d m := by
  unfold ab_m1
  by_cases h : (ab_w (ab_c1 cw)).1 = 4
  · rw [if_pos h, mv_d_mk]
  · rw [if_neg h, mv_d_mk]
theorem cq_nameOf {s : dn_S} {b : Nat} (hb : b < 5) : m_X1_nameOf (nI b) s = some (dn_g s 16 b, s) := by
  unfold m_X1_nameOf
  try simp (disch := omega) only [nl_0, nl_1, nl_2, nl_3, nl_4, nl_5, nl_6, nl_7, nl_8, nl_9, nl_10, nl_16, nl_17, nl_19, nl_20, nl_21, nl_30, nl_31, nl_32, nl_40, nl_41, nl_48, nl_50, nl_57, nl_60, nl_64, nl_99, nl_100, nl_119, nl_120, nl_121, nl_122, nl_123, nl_124, nl_125, nl_126, nl_130, nl_136, nl_200, nl_240, nl_255, nl_256, nl_257, nl_480, nl_1080, nI_add, nI_mul, nI_sub, cq_ib, nI_clamp, nI_leI, nI_ltI, nI_eq, dn_ck_t, dn_bd_s, dn_wr_e, dn_lt_e, cq_ofNat, cq_at_nI]
theorem PCL_ids {k a j : Nat} (hk : k = 10 ∨ 19 ≤ k) (q : PCL k a j) : a < 3 ∨ 5 < a := by
  rcases q with q | q
  · omega
  · have := q.1.1
    have := q.1.2
    omega
theorem PCL_16 {k j : Nat} (hk : k = 10 ∨ 19 ≤ k) (q : PCL k 16 j) : False := by
  rcases q with q | q
  · omega
  · have := q.1.1
    have := q.1.2
    omega
theorem cq_close {s : dn_S} {k : Nat} {τ : Tv} {m : Mv} {cw : Nat → Int32 × Int32} (hW : WT τ) (hk : k = 10 ∨ 19 ≤ k) (hT : CT s 3 τ) (hM : CM s k τ m) (hd : mv_d m < 100) (hz : ∀ b, b < 5 → Zc s b (cw b)) (h0 : ∀ b, tv_b τ ≤ b → b < 4 → (cw b).1 = 0) :
    ∃ s', m_X4_close k s = some ((ab_ends τ m cw).1, s') ∧ CM s' k τ (ab_ends τ m cw).2 ∧ dn_g s' 14 2 = (ab_w (ab_c1 cw)).1 ∧ ((ab_w (ab_c1 cw)).1 ≠ -9 → dn_g s' 14 3 = ab_price (ab_c1 cw)) ∧ fr (PCL k) s s' := by
  have h4 := hW.1
  have hc : ∀ j, j < 5 → dn_g s 17 j = ab_c1 cw j := fun j hj => (hz j hj).1
  have f1 : fr (PCL k) s (dn_p s 14 2 (ab_w (ab_c1 cw)).1) := fr_p (Or.inl ⟨rfl, Or.inl rfl⟩)
  have hPM : ∀ a j, PCL k a j → a < 3 ∨ 5 < a := fun a j q => PCL_ids hk q
  unfold m_X4_close ab_ends
  rw [cq_winner hc, dn_bd_s, dn_wr_e, dn_p_same]
  have hM1 : CM (dn_p s 14 2 (ab_w (ab_c1 cw)).1) k τ m := hM.fr (P := fun a _ => a = 14) (fr_p rfl) (fun a j q => by omega)
  by_cases hw : (ab_w (ab_c1 cw)).1 = -9
  · rw [if_pos hw, if_pos hw, dn_wr_e, hM1.2.1]
    refine ⟨_, rfl, ?_, ?_, fun q => absurd hw q, fr_trans f1 (fr_p (Or.inr ⟨⟨by omega, by omega⟩, fun _ => Or.inr (Or.inl rfl)⟩))⟩
    · refine CM_mk.mpr ⟨?_, dn_p_same _ _ _ _, ?_, fun i hi => ?_, fun b hb => ?_, fun j hj => ?_⟩
      · rw [dn_p_j _ _ _ _ _ _ (by omega)]; exact hM1.1
      · rw [dn_p_j _ _ _ _ _ _ (by omega)]; exact hM1.2.2.1
      · rw [dn_p_k _ _ _ _ _ _ (by omega)]; exact hM1.2.2.2.1 i hi
      · rw [dn_p_k _ _ _ _ _ _ (by omega)]; exact hM1.2.2.2.2.1 b hb
      · rw [dn_p_k _ _ _ _ _ _ (by omega)]; exact hM1.2.2.2.2.2 j hj
    · rw [dn_p_k _ _ _ _ _ _ (by omega), dn_p_same]
  · have hok := ab_w_ok (ab_c1 cw)
    rcases hok with ⟨q, _⟩ | ⟨i, hi, e1, e2, e3⟩
    · exact absurd q hw
    · have eWi : ab_wi cw = i := by unfold ab_wi; rw [e1, nI_clamp (by omega)]
      rw [if_neg hw, if_neg hw, cq_price (fun j hj => by rw [dn_p_k _ _ _ _ _ _ (by decide)]; exact hc j hj), dn_bd_s, dn_wr_e, dn_p_j _ _ _ _ _ _ (by decide), dn_p_same, dn_p_same]
      have f2 : fr (PCL k) s (dn_p (dn_p s 14 2 (ab_w (ab_c1 cw)).1) 14 3 (ab_price (ab_c1 cw))) := fr_trans f1 (fr_p (Or.inl ⟨rfl, Or.inr rfl⟩))
      have hM2 : CM (dn_p (dn_p s 14 2 (ab_w (ab_c1 cw)).1) 14 3 (ab_price (ab_c1 cw))) k τ m := hM1.fr (P := fun a _ => a = 14) (fr_p rfl) (fun a j q => by omega)
      have hnm : ∀ s', (∀ a j, a = 16 → dn_g s' a j = dn_g s a j) → dn_g s' 16 i = ab_x cw := fun s' e => by rw [e 16 i rfl]; unfold ab_x; rw [eWi]; exact (hz i hi).2 e3
      have key : ∀ s3, fr (PCL k) s s3 → dn_g s3 14 2 = nI i → dn_g s3 14 3 = ab_price (ab_c1 cw) → CM s3 k τ (ab_m1 m cw) → ∃ s', m_X4_close_85 k s3 = some (ab_x cw, s') ∧ CM s' k τ (ab_day τ (ab_m1 m cw) (ab_x cw)) ∧ dn_g s' 14 2 = (ab_w (ab_c1 cw)).1 ∧ ((ab_w (ab_c1 cw)).1 ≠ -9 → dn_g s' 14 3 = ab_price (ab_c1 cw)) ∧ fr (PCL k) s s' := by
        intro s3 f3 g2 g3 hM3
        unfold m_X4_close_85
        rw [g2, cq_nameOf hi, dn_bd_s, hnm s3 (fun a j q => f3.1 a j (fun r => PCL_16 hk (q ▸ r)))]
        obtain ⟨s4, e4, c4, f4⟩ := cq_callDay (x := ab_x cw) hW hk (hT.fr f3 hPM) hM3 (by rw [ab_m1_d]; exact hd)
        rw [e4, dn_bd_s]
        exact ⟨s4, rfl, c4, by rw [f4.1 14 2 (fun q => by have := q.1.1; have := q.1.2; omega), g2, e1], fun _ => by rw [f4.1 14 3 (fun q => by have := q.1.1; have := q.1.2; omega), g3], fr_trans f3 (fr_mono f4 (fun a j q => Or.inr ⟨q.1, fun r => Or.inl (q.2 r)⟩))⟩
      by_cases hw4 : (ab_w (ab_c1 cw)).1 = 4
      · rw [if_pos hw4, dn_wr_e, hM2.2.2.1]
        refine key _ (fr_trans f2 (fr_p (Or.inr ⟨⟨by omega, by omega⟩, fun _ => Or.inr (Or.inr rfl)⟩))) (by rw [dn_p_k _ _ _ _ _ _ (by omega), dn_p_j _ _ _ _ _ _ (by decide), dn_p_same, e1]) (by rw [dn_p_k _ _ _ _ _ _ (by omega), dn_p_same]) ?_
        unfold ab_m1
        rw [if_pos hw4]
        refine CM_mk.mpr ⟨?_, ?_, dn_p_same _ _ _ _, fun i hi => ?_, fun b hb => ?_, fun j hj => ?_⟩
        · rw [dn_p_j _ _ _ _ _ _ (by omega)]; exact hM2.1
        · rw [dn_p_j _ _ _ _ _ _ (by omega)]; exact hM2.2.1
        · rw [dn_p_k _ _ _ _ _ _ (by omega)]; exact hM2.2.2.2.1 i hi
        · rw [dn_p_k _ _ _ _ _ _ (by omega)]; exact hM2.2.2.2.2.1 b hb
        · rw [dn_p_k _ _ _ _ _ _ (by omega)]; exact hM2.2.2.2.2.2 j hj
      · have hib : i < tv_b τ := by
          rcases Nat.lt_or_ge i (tv_b τ) with q | q
          · exact q
          · have hi4 : i < 4 := by
              rcases Nat.lt_or_ge i 4 with r | r
              · exact r
              · exact absurd (by rw [e1, show i = 4 by omega]; rfl) hw4
            have := h0 i q hi4
            rw [show ab_c1 cw i = 0 from this] at e3
            exact absurd e3 (by decide)
        rw [if_neg hw4, e1, cq_addP (by omega), dn_bd_s, ← e1]
        refine key _ (fr_trans f2 (fr_p (Or.inr ⟨⟨by omega, by omega⟩, fun q => by omega⟩))) (by rw [dn_p_k _ _ _ _ _ _ (by omega), dn_p_j _ _ _ _ _ _ (by decide), dn_p_same, e1]) (by rw [dn_p_k _ _ _ _ _ _ (by omega), dn_p_same]) ?_
        unfold ab_m1
        rw [if_neg hw4, eWi]
        have hz2 : DMc (dn_p (dn_p s 14 2 (ab_w (ab_c1 cw)).1) 14 3 (ab_price (ab_c1 cw))) k τ (mv_P m, mv_H m) := ⟨hM2.2.2.2.2.1, hM2.2.2.2.2.2⟩
        have hz3 := hz2.ad (v := -(ab_price (ab_c1 cw))) hib
        exact CM_mk.mpr ⟨by rw [dn_p_k _ _ _ _ _ _ (by omega)]; exact hM2.1, by rw [dn_p_k _ _ _ _ _ _ (by omega)]; exact hM2.2.1, by rw [dn_p_k _ _ _ _ _ _ (by omega)]; exact hM2.2.2.1, fun i hi => by rw [dn_p_k _ _ _ _ _ _ (by omega)]; exact hM2.2.2.2.1 i hi, hz3.1, hz3.2⟩
