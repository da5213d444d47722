/-! a day of a name: wages, debts; the end of a night -/
def ab_up (f : Nat → Int32) (i : Nat) (v : Int32) : Nat → Int32 := fun b => if b = i then v else f b
def ab_ad (f : Nat → Int32) (i : Nat) (v : Int32) : Nat → Int32 := fun b => if b = i then f b + v else f b
abbrev PH : Type := (Nat → Int32) × (Nat → Int32)
def ab_who (τ : Tv) (j : Nat) : Nat := (tv_O τ j 0).toNatClampNeg
def ab_to (τ : Tv) (j : Nat) : Nat := (tv_O τ j 1).toNatClampNeg
def ab_ds (τ : Tv) (x : Int32) (n : Nat) (j : Nat) (z : PH) : PH :=
  if tv_O τ j 4 = x ∧ tv_O τ j 3 = nI n ∧ z.2 j = 0 then
    (if tv_O τ j 2 ≤ z.1 (ab_who τ j) then (ab_ad (ab_ad z.1 (ab_who τ j) (-(tv_O τ j 2))) (ab_to τ j) (tv_O τ j 2), ab_up z.2 j 1) else (z.1, ab_up z.2 j 2)) else z
def ab_db (τ : Tv) (x : Int32) (n : Nat) : Nat → Nat → PH → PH
  | 0, _, z => z
  | c + 1, j, z => ab_db τ x n c (j + 1) (ab_ds τ x n j z)
def ab_day (τ : Tv) (m : Mv) (x : Int32) : Mv :=
  (ab_up (mv_N m) (mv_d m) x,
   (ab_db τ x (ab_cnt (ab_up (mv_N m) (mv_d m) x) x (mv_d m + 1) 0) (tv_d τ) 0 (fun b => mv_P m b + tv_F τ b 1, mv_H m)).1,
   (ab_db τ x (ab_cnt (ab_up (mv_N m) (mv_d m) x) x (mv_d m + 1) 0) (tv_d τ) 0 (fun b => mv_P m b + tv_F τ b 1, mv_H m)).2, mv_d m + 1, mv_k m, mv_p m)
def DMc (s : dn_S) (k : Nat) (τ : Tv) (z : PH) : Prop := (∀ b, b < tv_b τ → dn_g s (k + 2) b = z.1 b) ∧ (∀ j, j < 6 → dn_g s (k + 3) j = z.2 j)
def DMr (t : dn_S) (h : Nat) (τ : Tv) (z : PH) : Prop := (∀ b, b < tv_b τ → dn_g t 101 (h + 6 + b) = z.1 b) ∧ (∀ j, j < 6 → dn_g t 101 (h + 10 + j) = z.2 j) ∧ dn_g t 101 (h + 3) = nI (ab_df z.2 6 0)
theorem cq_ofDebt {s : dn_S} {τ : Tv} {d j : Nat} (hT : CT s 3 τ) (hd : d < tv_d τ) (h6 : tv_d τ ≤ 6) (hj : j < 5) : m_X10_ofDebt 3 (nI d) (nI j) s = some (tv_O τ d j, s) := by
  unfold m_X10_ofDebt
  try simp (disch := omega) only [nl_0, nl_1, nl_2, nl_3, nl_4, nl_5, nl_6, nl_7, nl_8, nl_9, nl_10, nl_16, nl_17, nl_19, nl_20, nl_21, nl_30, nl_31, nl_32, nl_40, nl_41, nl_48, nl_50, nl_57, nl_60, nl_64, nl_99, nl_100, nl_119, nl_120, nl_121, nl_122, nl_123, nl_124, nl_125, nl_126, nl_130, nl_136, nl_200, nl_240, nl_255, nl_256, nl_257, nl_480, nl_1080, nI_add, nI_mul, nI_sub, cq_ib, nI_clamp, nI_leI, nI_ltI, nI_eq, dn_ck_t, dn_bd_s, dn_wr_e, dn_lt_e, cq_ofNat, cq_at_nI]
  rw [hT.2.2.2.2 d hd j hj]
theorem cq_ofBidder {s : dn_S} {τ : Tv} {b f : Nat} (hT : CT s 3 τ) (hb : b < tv_b τ) (h4 : tv_b τ ≤ 4) (hf : f < 7) : m_X10_ofBidder 3 (nI b) (nI f) s = some (tv_F τ b f, s) := by
  unfold m_X10_ofBidder
  try simp (disch := omega) only [nl_0, nl_1, nl_2, nl_3, nl_4, nl_5, nl_6, nl_7, nl_8, nl_9, nl_10, nl_16, nl_17, nl_19, nl_20, nl_21, nl_30, nl_31, nl_32, nl_40, nl_41, nl_48, nl_50, nl_57, nl_60, nl_64, nl_99, nl_100, nl_119, nl_120, nl_121, nl_122, nl_123, nl_124, nl_125, nl_126, nl_130, nl_136, nl_200, nl_240, nl_255, nl_256, nl_257, nl_480, nl_1080, nI_add, nI_mul, nI_sub, cq_ib, nI_clamp, nI_leI, nI_ltI, nI_eq, dn_ck_t, dn_bd_s, dn_wr_e, dn_lt_e, cq_ofNat, cq_at_nI]
  rw [hT.2.2.2.1 b hb f hf]
theorem cq_addP {s : dn_S} {k b : Nat} {v : Int32} (hb : b < 4) : m_X3_addToPurse k (nI b) v s = some ((), dn_p s (k + 2) b (dn_g s (k + 2) b + v)) := by
  unfold m_X3_addToPurse
  try simp (disch := omega) only [nl_0, nl_1, nl_2, nl_3, nl_4, nl_5, nl_6, nl_7, nl_8, nl_9, nl_10, nl_16, nl_17, nl_19, nl_20, nl_21, nl_30, nl_31, nl_32, nl_40, nl_41, nl_48, nl_50, nl_57, nl_60, nl_64, nl_99, nl_100, nl_119, nl_120, nl_121, nl_122, nl_123, nl_124, nl_125, nl_126, nl_130, nl_136, nl_200, nl_240, nl_255, nl_256, nl_257, nl_480, nl_1080, nI_add, nI_mul, nI_sub, cq_ib, nI_clamp, nI_leI, nI_ltI, nI_eq, dn_ck_t, dn_bd_s, dn_wr_e, dn_lt_e, cq_ofNat, cq_at_nI, cq_put_nI]
theorem cq_setHow {s : dn_S} {k d : Nat} {v : Int32} (hd : d < 6) : m_X3_setHowIs k (nI d) v s = some ((), dn_p s (k + 3) d v) := by
  unfold m_X3_setHowIs
  try simp (disch := omega) only [nl_0, nl_1, nl_2, nl_3, nl_4, nl_5, nl_6, nl_7, nl_8, nl_9, nl_10, nl_16, nl_17, nl_19, nl_20, nl_21, nl_30, nl_31, nl_32, nl_40, nl_41, nl_48, nl_50, nl_57, nl_60, nl_64, nl_99, nl_100, nl_119, nl_120, nl_121, nl_122, nl_123, nl_124, nl_125, nl_126, nl_130, nl_136, nl_200, nl_240, nl_255, nl_256, nl_257, nl_480, nl_1080, nI_add, nI_mul, nI_sub, cq_ib, nI_clamp, nI_leI, nI_ltI, nI_eq, dn_ck_t, dn_bd_s, dn_wr_e, dn_lt_e, cq_ofNat, cq_put_nI]
theorem cq_howIs {s : dn_S} {k d : Nat} (hd : d < 6) : m_X3_howIs k (nI d) s = some (dn_g s (k + 3) d, s) := by
  unfold m_X3_howIs
  try simp (disch := omega) only [nl_0, nl_1, nl_2, nl_3, nl_4, nl_5, nl_6, nl_7, nl_8, nl_9, nl_10, nl_16, nl_17, nl_19, nl_20, nl_21, nl_30, nl_31, nl_32, nl_40, nl_41, nl_48, nl_50, nl_57, nl_60, nl_64, nl_99, nl_100, nl_119, nl_120, nl_121, nl_122, nl_123, nl_124, nl_125, nl_126, nl_130, nl_136, nl_200, nl_240, nl_255, nl_256, nl_257, nl_480, nl_1080, nI_add, nI_mul, nI_sub, cq_ib, nI_clamp, nI_leI, nI_ltI, nI_eq, dn_ck_t, dn_bd_s, dn_wr_e, dn_lt_e, cq_ofNat, cq_at_nI]
theorem cq_purseG {s : dn_S} {k b : Nat} (hb : b < 4) : m_X3_purse k (nI b) s = some (dn_g s (k + 2) b, s) := by
  unfold m_X3_purse
  try simp (disch := omega) only [nl_0, nl_1, nl_2, nl_3, nl_4, nl_5, nl_6, nl_7, nl_8, nl_9, nl_10, nl_16, nl_17, nl_19, nl_20, nl_21, nl_30, nl_31, nl_32, nl_40, nl_41, nl_48, nl_50, nl_57, nl_60, nl_64, nl_99, nl_100, nl_119, nl_120, nl_121, nl_122, nl_123, nl_124, nl_125, nl_126, nl_130, nl_136, nl_200, nl_240, nl_255, nl_256, nl_257, nl_480, nl_1080, nI_add, nI_mul, nI_sub, cq_ib, nI_clamp, nI_leI, nI_ltI, nI_eq, dn_ck_t, dn_bd_s, dn_wr_e, dn_lt_e, cq_ofNat, cq_at_nI]
def PD (k a _ : Nat) : Prop := a = k + 2 ∨ a = k + 3
theorem DMc.ad {s : dn_S} {k : Nat} {τ : Tv} {z : PH} {w : Nat} {v : Int32} (h : DMc s k τ z) (hw : w < tv_b τ) : DMc (dn_p s (k + 2) w (dn_g s (k + 2) w + v)) k τ (ab_ad z.1 w v, z.2) := by
  refine ⟨fun b hb => ?_, fun j hj => ?_⟩
  · show _ = ab_ad z.1 w v b
    unfold ab_ad
    by_cases e : b = w
    · subst e; rw [dn_p_same, if_pos rfl, h.1 b hb]
    · rw [dn_p_j _ _ _ _ _ _ e, if_neg e, h.1 b hb]
  · rw [dn_p_k _ _ _ _ _ _ (by omega)]; exact h.2 j hj
theorem DMc.up {s : dn_S} {k : Nat} {τ : Tv} {z : PH} {d : Nat} {v : Int32} (h : DMc s k τ z) : DMc (dn_p s (k + 3) d v) k τ (z.1, ab_up z.2 d v) := by
  refine ⟨fun b hb => ?_, fun j hj => ?_⟩
  · rw [dn_p_k _ _ _ _ _ _ (by omega)]; exact h.1 b hb
  · show _ = ab_up z.2 d v j
    unfold ab_up
    by_cases e : j = d
    · subst e; rw [dn_p_same, if_pos rfl]
    · rw [dn_p_j _ _ _ _ _ _ e, if_neg e, h.2 j hj]
theorem cq_fall {s : dn_S} {k : Nat} {τ : Tv} {z : PH} {j : Nat} (hW : WT τ) (hk : k = 10 ∨ 19 ≤ k) (hT : CT s 3 τ) (hz : DMc s k τ z) (hj : j < tv_d τ) :
    ∃ s', m_X4_fallDue k (nI j) s = some ((), s') ∧ DMc s' k τ (if tv_O τ j 2 ≤ z.1 (ab_who τ j) then (ab_ad (ab_ad z.1 (ab_who τ j) (-(tv_O τ j 2))) (ab_to τ j) (tv_O τ j 2), ab_up z.2 j 1) else (z.1, ab_up z.2 j 2)) ∧ fr (PD k) s s' := by
  obtain ⟨w, hw, ew⟩ := (hW.2.2.2.2 j hj).1
  obtain ⟨v, hv, ev⟩ := (hW.2.2.2.2 j hj).2.1
  have h4 := hW.1
  have h6 := hW.2.1
  have eW : ab_who τ j = w := by unfold ab_who; rw [ew, nI_clamp (by omega)]
  have eV : ab_to τ j = v := by unfold ab_to; rw [ev, nI_clamp (by omega)]
  rw [eW, eV]
  unfold m_X4_fallDue
  rw [nl_0, cq_ofDebt hT hj h6 (by omega), dn_bd_s, nl_2, cq_ofDebt hT hj h6 (by omega), dn_bd_s, ew, cq_purseG (by omega), dn_bd_s, hz.1 w hw]
  by_cases h : tv_O τ j 2 ≤ z.1 w
  · rw [if_pos h, if_pos h, cq_addP (by omega), dn_bd_s]
    have f1 : fr (PD k) s (dn_p s (k + 2) w (dn_g s (k + 2) w + -(tv_O τ j 2))) := fr_p (Or.inl rfl)
    rw [nl_1, cq_ofDebt (hT.fr f1 (fun a b q => by rcases q with q | q <;> omega)) hj h6 (by omega), dn_bd_s, ev, cq_addP (by omega), dn_bd_s, cq_setHow (by omega), dn_bd_s]
    exact ⟨_, rfl, ((hz.ad hw).ad hv).up, fr_trans f1 (fr_trans (fr_p (Or.inl rfl)) (fr_p (Or.inr rfl)))⟩
  · rw [if_neg h, if_neg h, cq_setHow (by omega), dn_bd_s]
    exact ⟨_, rfl, hz.up, fr_p (Or.inr rfl)⟩
theorem cq_debts {k : Nat} {τ : Tv} {x : Int32} {n : Nat} (hW : WT τ) (hk : k = 10 ∨ 19 ≤ k) : ∀ (c j fuel : Nat) (s : dn_S) (z : PH), j + c = tv_d τ → c < fuel → CT s 3 τ → DMc s k τ z →
    ∃ s', m_X4_callDay_47 k fuel x (nI n) (nI j) s = some ((), s') ∧ DMc s' k τ (ab_db τ x n c j z) ∧ fr (PD k) s s' := by
  have h6 := hW.2.1
  intro c
  induction c with
  | zero =>
    intro j fuel s z hj hf hT hz
    obtain ⟨f, rfl⟩ : ∃ f, fuel = f + 1 := ⟨fuel - 1, by omega⟩
    refine ⟨s, ?_, hz, fr_refl⟩
    rw [m_X4_callDay_47, hT.2.1, if_pos (nI_le (by omega) (by omega))]
  | succ c ih =>
    intro j fuel s z hj hf hT hz
    obtain ⟨f, rfl⟩ : ∃ f, fuel = f + 1 := ⟨fuel - 1, by omega⟩
    rw [m_X4_callDay_47, hT.2.1, if_neg (nI_ge (by omega) (by omega)), nl_4, cq_ofDebt hT (by omega) h6 (by omega), dn_bd_s, nl_3, cq_ofDebt hT (by omega) h6 (by omega), dn_bd_s]
    unfold m_X4_callDay_91 m_X4_callDay_92 m_X4_callDay_115
    rw [ab_db, ab_ds]
    by_cases h1 : tv_O τ j 4 = x
    · rw [if_pos h1]
      by_cases h2 : tv_O τ j 3 = nI n
      · rw [if_pos h2, if_pos rfl, cq_howIs (by omega), dn_bd_s, hz.2 j (by omega)]
        by_cases h3 : z.2 j = 0
        · obtain ⟨s1, e1, z1, f1⟩ := cq_fall (j := j) hW hk hT hz (by omega)
          rw [if_pos h3, if_pos ⟨h1, h2, h3⟩, e1, dn_bd_s, dn_lt_e, nl_1, nI_add]
          obtain ⟨s2, e2, z2, f2⟩ := ih (j + 1) f s1 _ (by omega) (by omega) (hT.fr f1 (fun a b q => by rcases q with q | q <;> omega)) z1
          exact ⟨s2, e2, z2, fr_trans f1 f2⟩
        · rw [if_neg h3, if_neg (fun q => h3 q.2.2), dn_lt_e, nl_1, nI_add]
          exact ih (j + 1) f s z (by omega) (by omega) hT hz
      · rw [if_neg h2, if_neg (by decide), if_neg (fun q => h2 q.2.1), dn_lt_e, nl_1, nI_add]
        exact ih (j + 1) f s z (by omega) (by omega) hT hz
    · rw [if_neg h1, if_neg (by decide), if_neg (fun q => h1 q.1), dn_lt_e, nl_1, nI_add]
      exact ih (j + 1) f s z (by omega) (by omega) hT hz
/-- a moment whose first b wages are paid -/
def CMw (s : dn_S) (k : Nat) (τ : Tv) (m : Mv) (i : Nat) : Prop := dn_g s k 3 = nI (mv_d m) ∧ dn_g s k 4 = mv_k m ∧ dn_g s k 5 = mv_p m ∧
  (∀ i, i < mv_d m → dn_g s (k + 1) i = mv_N m i) ∧ DMc s k τ (fun b => if b < i then mv_P m b + tv_F τ b 1 else mv_P m b, mv_H m)
theorem cq_wages {k : Nat} {τ : Tv} {m : Mv} {x : Int32} (hW : WT τ) (hk : k = 10 ∨ 19 ≤ k) (hd : mv_d m ≤ 100) : ∀ (c b fuel : Nat) (s : dn_S), b + c = tv_b τ → c < fuel → CT s 3 τ → CMw s k τ m b →
    ∃ s', m_X4_callDay_7 k fuel x (nI b) s = m_X4_callDay_47 k 2048 x (nI (ab_cnt (mv_N m) x (mv_d m) 0)) (nI 0) s' ∧ CMw s' k τ m (tv_b τ) ∧ fr (PD k) s s' := by
  have h4 := hW.1
  intro c
  induction c with
  | zero =>
    intro b fuel s hb hf hT hM
    obtain ⟨f, rfl⟩ : ∃ f, fuel = f + 1 := ⟨fuel - 1, by omega⟩
    obtain rfl : b = tv_b τ := by omega
    refine ⟨s, ?_, hM, fr_refl⟩
    have e : m_X3_daysCalled k x s = some (nI (0 + ab_cnt (fun i => dn_g s (k + 1) i) x (mv_d m) 0), s) := cq_cnt_loop (x := x) hM.1 hd (mv_d m) 0 0 2048 (by omega) (by omega)
    rw [ab_cnt_congr (N' := mv_N m) hM.2.2.2.1 _ _ (by omega), Nat.zero_add] at e
    rw [m_X4_callDay_7, hT.1, if_pos (nI_le (by omega) (by omega)), e]
    rfl
  | succ c ih =>
    intro b fuel s hb hf hT hM
    obtain ⟨f, rfl⟩ : ∃ f, fuel = f + 1 := ⟨fuel - 1, by omega⟩
    rw [m_X4_callDay_7, hT.1, if_neg (nI_ge (by omega) (by omega)), nl_1, cq_ofBidder hT (by omega) h4 (by omega), dn_bd_s, cq_addP (by omega), dn_bd_s, dn_lt_e, nI_add]
    have f1 : fr (PD k) s (dn_p s (k + 2) b (dn_g s (k + 2) b + tv_F τ b 1)) := fr_p (Or.inl rfl)
    have hz := hM.2.2.2.2.ad (v := tv_F τ b 1) (show b < tv_b τ by omega)
    obtain ⟨s2, e2, z2, f2⟩ := ih (b + 1) f (dn_p s (k + 2) b (dn_g s (k + 2) b + tv_F τ b 1)) (by omega) (by omega) (hT.fr f1 (fun a b q => by rcases q with q | q <;> omega))
      ⟨by rw [dn_p_k _ _ _ _ _ _ (by omega)]; exact hM.1, by rw [dn_p_k _ _ _ _ _ _ (by omega)]; exact hM.2.1, by rw [dn_p_k _ _ _ _ _ _ (by omega)]; exact hM.2.2.1, fun i hi => by rw [dn_p_k _ _ _ _ _ _ (by omega)]; exact hM.2.2.2.1 i hi,
        ⟨fun i hi => by
          rw [hz.1 i hi]
          show ab_ad _ b _ i = _
          unfold ab_ad
          dsimp only
          by_cases q : i = b
          · subst q; rw [if_pos rfl, if_neg (by omega), if_pos (by omega)]
          · rw [if_neg q]
            by_cases r : i < b
            · rw [if_pos r, if_pos (by omega)]
            · rw [if_neg r, if_neg (by omega)], hz.2⟩⟩
    exact ⟨s2, e2, z2, fr_trans f1 f2⟩
def PM (k a _ : Nat) : Prop := k ≤ a ∧ a ≤ k + 3
theorem cq_callDay {s : dn_S} {k : Nat} {τ : Tv} {m : Mv} {x : Int32} (hW : WT τ) (hk : k = 10 ∨ 19 ≤ k) (hT : CT s 3 τ) (hM : CM s k τ m) (hd : mv_d m < 100) :
    ∃ s', m_X4_callDay k x s = some ((), s') ∧ CM s' k τ (ab_day τ m x) ∧ fr (fun a j => PM k a j ∧ (a = k → j = 3)) s s' := by
  have h4 := hW.1
  have f0 : fr (fun a j => PM k a j ∧ (a = k → j = 3)) s (dn_p (dn_p s (k + 1) (mv_d m) x) k 3 (nI (mv_d m + 1))) := fr_trans (fr_p ⟨⟨by omega, by omega⟩, by omega⟩) (fr_p ⟨⟨by omega, by omega⟩, fun _ => rfl⟩)
  have e0 : m_X3_addDay k x s = some ((), dn_p (dn_p s (k + 1) (mv_d m) x) k 3 (nI (mv_d m + 1))) := by
    unfold m_X3_addDay
    rw [hM.1, cq_put_nI (by omega) (by omega), dn_bd_s, dn_wr_e, dn_p_k _ _ _ _ _ _ (by omega), hM.1, nl_1, nI_add]
  let m1 : Mv := (ab_up (mv_N m) (mv_d m) x, mv_P m, mv_H m, mv_d m + 1, mv_k m, mv_p m)
  have hM1 : CMw (dn_p (dn_p s (k + 1) (mv_d m) x) k 3 (nI (mv_d m + 1))) k τ m1 0 := by
    refine ⟨dn_p_same _ _ _ _, ?_, ?_, fun i hi => ?_, fun b hb => ?_, fun j hj => ?_⟩
    · rw [dn_p_j _ _ _ _ _ _ (by decide), dn_p_k _ _ _ _ _ _ (by omega)]; exact hM.2.1
    · rw [dn_p_j _ _ _ _ _ _ (by decide), dn_p_k _ _ _ _ _ _ (by omega)]; exact hM.2.2.1
    · rw [dn_p_k _ _ _ _ _ _ (by omega)]
      show _ = ab_up (mv_N m) (mv_d m) x i
      unfold ab_up
      by_cases q : i = mv_d m
      · subst q; rw [dn_p_same, if_pos rfl]
      · rw [dn_p_j _ _ _ _ _ _ q, if_neg q]
        exact hM.2.2.2.1 i (by have : i < mv_d m + 1 := hi; omega)
    · rw [dn_p_k _ _ _ _ _ _ (by omega), dn_p_k _ _ _ _ _ _ (by omega)]
      show _ = if b < 0 then mv_P m b + tv_F τ b 1 else mv_P m b
      rw [if_neg (by omega)]; exact hM.2.2.2.2.1 b hb
    · rw [dn_p_k _ _ _ _ _ _ (by omega), dn_p_k _ _ _ _ _ _ (by omega)]; exact hM.2.2.2.2.2 j hj
  have hT1 := hT.fr f0 (fun a j q => by have := q.1.1; have := q.1.2; omega)
  obtain ⟨s1, e1, c1, f1⟩ := cq_wages (x := x) (m := m1) hW hk (by show mv_d m + 1 ≤ 100; omega) (tv_b τ) 0 2048 _ (by omega) (by omega) hT1 hM1
  have hz1 : DMc s1 k τ (fun b => mv_P m b + tv_F τ b 1, mv_H m) := ⟨fun b hb => by rw [c1.2.2.2.2.1 b hb]; show (if b < tv_b τ then _ else _) = _; rw [if_pos hb]; rfl, c1.2.2.2.2.2⟩
  have hT2 := hT1.fr f1 (fun a j q => by rcases q with q | q <;> omega)
  obtain ⟨s2, e2, z2, f2⟩ := cq_debts (x := x) (n := ab_cnt (ab_up (mv_N m) (mv_d m) x) x (mv_d m + 1) 0) hW hk (tv_d τ) 0 2048 s1 _ (by omega) (by have := hW.2.1; omega) hT2 hz1
  refine ⟨s2, ?_, ?_, fr_trans f0 (fr_mono (fr_trans f1 f2) (fun a j q => by rcases q with q | q <;> exact ⟨⟨by omega, by omega⟩, by omega⟩))⟩
  · unfold m_X4_callDay
    rw [e0, dn_bd_s, nl_0, e1]
    exact e2
  · have e3 : ∀ a j, a ≠ k + 2 → a ≠ k + 3 → dn_g s2 a j = dn_g s1 a j := fun a j p q => f2.1 a j (fun r => by rcases r with r | r <;> omega)
    exact ⟨by rw [e3 _ _ (by omega) (by omega)]; exact c1.1, by rw [e3 _ _ (by omega) (by omega)]; exact c1.2.1, by rw [e3 _ _ (by omega) (by omega)]; exact c1.2.2.1, fun i hi => by rw [e3 _ _ (by omega) (by omega)]; exact c1.2.2.2.1 i hi, z2.1, z2.2⟩

/-! the reference's day -/
theorem ab_df_up (H : Nat → Int32) (j : Nat) (v : Int32) : ∀ c i, H j ≠ nI 2 → ab_df (ab_up H j v) c i = ab_df H c i + (if v = nI 2 ∧ i ≤ j ∧ j < i + c then 1 else 0) := by
  intro c
  induction c with
  | zero => intro i _; rw [ab_df, ab_df, if_neg (by omega)]
  | succ c ih =>
    intro i h
    rw [ab_df, ab_df, ih (i + 1) h]
    unfold ab_up
    by_cases e : i = j
    · subst e
      rw [if_pos rfl, if_neg h]
      by_cases hv : v = nI 2
      · rw [if_pos hv, if_neg (by omega), if_pos ⟨hv, by omega, by omega⟩]; omega
      · rw [if_neg hv, if_neg (fun q => hv q.1), if_neg (fun q => hv q.1)]; omega
    · rw [if_neg e]
      generalize (if H i = nI 2 then 1 else 0) = g
      by_cases hv : v = nI 2
      · by_cases r : i + 1 ≤ j ∧ j < i + 1 + c
        · rw [if_pos ⟨hv, r⟩, if_pos ⟨hv, by omega, by omega⟩]; omega
        · rw [if_neg (fun q => r q.2), if_neg (fun q => r (by omega))]; omega
      · rw [if_neg (fun q => hv q.1), if_neg (fun q => hv q.1)]; omega
def PDr (h a j : Nat) : Prop := a = 101 ∧ (j = h + 3 ∨ (h + 6 ≤ j ∧ j < h + 16))
def TRr (t : dn_S) (h : Nat) (τ : Tv) (z : PH) (n : Int32) : Prop := (∀ b, b < tv_b τ → dn_g t 101 (h + 6 + b) = z.1 b) ∧ (∀ j, j < 6 → dn_g t 101 (h + 10 + j) = z.2 j) ∧ dn_g t 101 (h + 3) = n
theorem TRr.how {t : dn_S} {h : Nat} {τ : Tv} {z : PH} {n v : Int32} {d : Nat} (h4 : tv_b τ ≤ 4) (hz : TRr t h τ z n) : TRr (dn_p t 101 (h + 10 + d) v) h τ (z.1, ab_up z.2 d v) n := by
  refine ⟨fun b hb => ?_, fun j hj => ?_, ?_⟩
  · rw [dn_p_j _ _ _ _ _ _ (by omega)]; exact hz.1 b hb
  · show _ = ab_up z.2 d v j
    unfold ab_up
    by_cases e : j = d
    · subst e; rw [dn_p_same, if_pos rfl]
    · rw [dn_p_j _ _ _ _ _ _ (by omega), if_neg e]; exact hz.2.1 j hj
  · rw [dn_p_j _ _ _ _ _ _ (by omega)]; exact hz.2.2
theorem TRr.cnt {t : dn_S} {h : Nat} {τ : Tv} {z : PH} {n v : Int32} (hz : TRr t h τ z n) : TRr (dn_p t 101 (h + 3) v) h τ z v := by
  refine ⟨fun b hb => ?_, fun j hj => ?_, dn_p_same _ _ _ _⟩
  · rw [dn_p_j _ _ _ _ _ _ (by omega)]; exact hz.1 b hb
  · rw [dn_p_j _ _ _ _ _ _ (by omega)]; exact hz.2.1 j hj
theorem TRr.ad {t : dn_S} {h : Nat} {τ : Tv} {z : PH} {n v : Int32} {w : Nat} (h4 : tv_b τ ≤ 4) (hw : w < tv_b τ) (hz : TRr t h τ z n) : TRr (dn_p t 101 (h + 6 + w) (dn_g t 101 (h + 6 + w) + v)) h τ (ab_ad z.1 w v, z.2) n := by
  refine ⟨fun b hb => ?_, fun j hj => ?_, ?_⟩
  · show _ = ab_ad z.1 w v b
    unfold ab_ad
    by_cases e : b = w
    · subst e; rw [dn_p_same, if_pos rfl, hz.1 b hb]
    · rw [dn_p_j _ _ _ _ _ _ (by omega), if_neg e]; exact hz.1 b hb
  · rw [dn_p_j _ _ _ _ _ _ (by omega)]; exact hz.2.1 j hj
  · rw [dn_p_j _ _ _ _ _ _ (by omega)]; exact hz.2.2
theorem rq_fall {h : Nat} {x n : Int32} {j w v : Nat} {K : Int32 → Int32 → Int32 → Int32 → dn_S → Option (Unit × dn_S)} {t : dn_S} {co : Int32} (p : Bool) (h0 : h ≤ 1500) (hj : j < 6) (hw : w < 4) (hv : v < 4) (o1 : dn_g t 106 (5 * j + 1) = nI v) :
    m_X12_comes_177 K (nI h) x n (nI j) (nI w) co p t =
      (let t1 := dn_p t 101 (h + 10 + j) (if p = true then 1 else 2)
       let t2 := dn_p t1 101 (h + 3) (dn_g t1 101 (h + 3) + (if p = true then 0 else 1))
       let t3 := dn_p t2 101 (h + 6 + w) (dn_g t2 101 (h + 6 + w) - (if p = true then co else 0))
       let t4 := dn_p t3 101 (h + 6 + v) (dn_g t3 101 (h + 6 + v) + (if p = true then co else 0))
       K (nI h) x n (nI (j + 1)) t4) := by
  have q : ∀ (t' : dn_S), dn_g t' 106 (5 * j + 1) = dn_g t 106 (5 * j + 1) → dn_g t' 106 (5 * j + 1) = nI v := fun t' e => e.trans o1
  unfold m_X12_comes_177 m_X12_comes_200 m_X12_comes_220 m_X12_comes_246 m_X12_comes_281 m_X12_comes_283
  cases p
  · simp only [Bool.false_eq_true, if_false]
    try simp (disch := omega) only [nl_0, nl_1, nl_2, nl_3, nl_4, nl_5, nl_6, nl_7, nl_8, nl_9, nl_10, nl_16, nl_17, nl_19, nl_20, nl_21, nl_30, nl_31, nl_32, nl_40, nl_41, nl_48, nl_50, nl_57, nl_60, nl_64, nl_99, nl_100, nl_119, nl_120, nl_121, nl_122, nl_123, nl_124, nl_125, nl_126, nl_130, nl_136, nl_200, nl_240, nl_255, nl_256, nl_257, nl_480, nl_1080, nI_add, nI_mul, nI_sub, cq_ib, nI_clamp, nI_leI, nI_ltI, nI_eq, dn_ck_t, dn_bd_s, dn_wr_e, dn_lt_e, cq_ofNat, dn_bt, dn_bf, dn_p_k, o1]
  · simp only [if_true]
    try simp (disch := omega) only [nl_0, nl_1, nl_2, nl_3, nl_4, nl_5, nl_6, nl_7, nl_8, nl_9, nl_10, nl_16, nl_17, nl_19, nl_20, nl_21, nl_30, nl_31, nl_32, nl_40, nl_41, nl_48, nl_50, nl_57, nl_60, nl_64, nl_99, nl_100, nl_119, nl_120, nl_121, nl_122, nl_123, nl_124, nl_125, nl_126, nl_130, nl_136, nl_200, nl_240, nl_255, nl_256, nl_257, nl_480, nl_1080, nI_add, nI_mul, nI_sub, cq_ib, nI_clamp, nI_leI, nI_ltI, nI_eq, dn_ck_t, dn_bd_s, dn_wr_e, dn_lt_e, cq_ofNat, dn_bt, dn_bf, dn_p_k, o1]
theorem rq_debts {h : Nat} {τ : Tv} {x : Int32} {n : Nat} (hW : WT τ) (h0 : h ≤ 1500) : ∀ (c j fuel : Nat) (t : dn_S) (z : PH), j + c = tv_d τ → c < fuel → RT t τ → DMr t h τ z →
    ∃ t', m_X12_comes_77 fuel (nI h) x (nI n) (nI j) t = some ((), t') ∧ DMr t' h τ (ab_db τ x n c j z) ∧ fr (PDr h) t t' := by
  have h6 := hW.2.1
  have h4 := hW.1
  intro c
  induction c with
  | zero =>
    intro j fuel t z hj hf hT hz
    obtain ⟨f, rfl⟩ : ∃ f, fuel = f + 1 := ⟨fuel - 1, by omega⟩
    refine ⟨t, ?_, hz, fr_refl⟩
    rw [m_X12_comes_77, hT.2.1, if_pos (nI_le (by omega) (by omega))]
  | succ c ih =>
    intro j fuel t z hj hf hT hz
    obtain ⟨f, rfl⟩ : ∃ f, fuel = f + 1 := ⟨fuel - 1, by omega⟩
    obtain ⟨w, hw, ew⟩ := (hW.2.2.2.2 j (by omega)).1
    obtain ⟨v, hv, ev⟩ := (hW.2.2.2.2 j (by omega)).2.1
    have eW : ab_who τ j = w := by unfold ab_who; rw [ew, nI_clamp (by omega)]
    have eV : ab_to τ j = v := by unfold ab_to; rw [ev, nI_clamp (by omega)]
    have o0 : dn_g t 106 (5 * j) = nI w := (hT.2.2.2.2 j (by omega) 0 (by omega)).trans ew
    have o1 : dn_g t 106 (5 * j + 1) = nI v := (hT.2.2.2.2 j (by omega) 1 (by omega)).trans ev
    have skip : ∃ t', m_X12_comes_77 f (nI h) x (nI n) (nI (j + 1)) t = some ((), t') ∧ DMr t' h τ (ab_db τ x n c (j + 1) z) ∧ fr (PDr h) t t' := ih (j + 1) f t z (by omega) (by omega) hT hz
    have hds : ab_db τ x n (c + 1) j z = ab_db τ x n c (j + 1) (ab_ds τ x n j z) := rfl
    rw [m_X12_comes_77, hT.2.1, if_neg (nI_ge (by omega) (by omega)), hds]
    unfold m_X12_comes_283
    try simp (disch := omega) only [nl_0, nl_1, nl_2, nl_3, nl_4, nl_5, nl_6, nl_7, nl_8, nl_9, nl_10, nl_16, nl_17, nl_19, nl_20, nl_21, nl_30, nl_31, nl_32, nl_40, nl_41, nl_48, nl_50, nl_57, nl_60, nl_64, nl_99, nl_100, nl_119, nl_120, nl_121, nl_122, nl_123, nl_124, nl_125, nl_126, nl_130, nl_136, nl_200, nl_240, nl_255, nl_256, nl_257, nl_480, nl_1080, nI_add, nI_mul, nI_sub, cq_ib, nI_clamp, nI_leI, nI_ltI, nI_eq, dn_ck_t, dn_bd_s, dn_wr_e, dn_lt_e, cq_ofNat]
    rw [hz.2.1 j (by omega), hT.2.2.2.2 j (by omega) 4 (by omega), hT.2.2.2.2 j (by omega) 3 (by omega), hT.2.2.2.2 j (by omega) 2 (by omega), o0]
    by_cases h3 : z.2 j = nI 0
    · rw [if_pos h3]
      by_cases h1 : tv_O τ j 4 = x
      · rw [if_pos h1]
        by_cases h2 : tv_O τ j 3 = nI n
        · rw [if_pos h2]
          try simp (disch := omega) only [nl_0, nl_1, nl_2, nl_3, nl_4, nl_5, nl_6, nl_7, nl_8, nl_9, nl_10, nl_16, nl_17, nl_19, nl_20, nl_21, nl_30, nl_31, nl_32, nl_40, nl_41, nl_48, nl_50, nl_57, nl_60, nl_64, nl_99, nl_100, nl_119, nl_120, nl_121, nl_122, nl_123, nl_124, nl_125, nl_126, nl_130, nl_136, nl_200, nl_240, nl_255, nl_256, nl_257, nl_480, nl_1080, nI_add, nI_mul, nI_sub, cq_ib, nI_clamp, nI_leI, nI_ltI, nI_eq, dn_ck_t, dn_bd_s, dn_wr_e, dn_lt_e, cq_ofNat]
          rw [hz.1 w hw]
          have hne : z.2 j ≠ nI 2 := by rw [h3]; decide
          have hz0 : TRr t h τ z (nI (ab_df z.2 6 0)) := hz
          by_cases hp : z.1 w < tv_O τ j 2
          · have hp2 : ¬ tv_O τ j 2 ≤ z.1 w := by rw [Int32.le_iff_toInt_le]; rw [Int32.lt_iff_toInt_lt] at hp; omega
            rw [if_pos hp, rq_fall false h0 (by omega) (by omega) (by omega) o1]
            dsimp only
            have hs : ab_ds τ x n j z = (z.1, ab_up z.2 j 2) := by unfold ab_ds; rw [if_pos ⟨h1, h2, h3⟩, eW, if_neg hp2]
            rw [hs]
            have f1 : fr (PDr h) t (dn_p (dn_p (dn_p (dn_p t 101 (h + 10 + j) 2) 101 (h + 3) (dn_g (dn_p t 101 (h + 10 + j) 2) 101 (h + 3) + 1)) 101 (h + 6 + w) (dn_g (dn_p (dn_p t 101 (h + 10 + j) 2) 101 (h + 3) (dn_g (dn_p t 101 (h + 10 + j) 2) 101 (h + 3) + 1)) 101 (h + 6 + w) - 0)) 101 (h + 6 + v) (dn_g (dn_p (dn_p (dn_p t 101 (h + 10 + j) 2) 101 (h + 3) (dn_g (dn_p t 101 (h + 10 + j) 2) 101 (h + 3) + 1)) 101 (h + 6 + w) (dn_g (dn_p (dn_p t 101 (h + 10 + j) 2) 101 (h + 3) (dn_g (dn_p t 101 (h + 10 + j) 2) 101 (h + 3) + 1)) 101 (h + 6 + w) - 0)) 101 (h + 6 + v) + 0)) :=
              fr_trans (fr_trans (fr_trans (fr_p ⟨rfl, Or.inr (by omega)⟩) (fr_p ⟨rfl, Or.inl rfl⟩)) (fr_p ⟨rfl, Or.inr (by omega)⟩)) (fr_p ⟨rfl, Or.inr (by omega)⟩)
            have c1 := ((((hz0.how (d := j) (v := 2) h4).cnt (v := dn_g (dn_p t 101 (h + 10 + j) 2) 101 (h + 3) + 1)).ad (w := w) (v := -0) h4 hw).ad (w := v) (v := 0) h4 hv)
            have e0 : ∀ y : Int32, y + -0 = y - 0 := fun y => (Int32.sub_eq_add_neg _ _).symm
            rw [e0] at c1
            have ea : ∀ (g : Nat → Int32) (i : Nat), ab_ad g i (-0) = g := fun g i => by funext b; unfold ab_ad; split <;> simp
            have eb : ∀ (g : Nat → Int32) (i : Nat), ab_ad g i 0 = g := fun g i => by funext b; unfold ab_ad; split <;> simp
            rw [ea, eb] at c1
            obtain ⟨t2, e2, z2, f2⟩ := ih (j + 1) f _ (z.1, ab_up z.2 j 2) (by omega) (by omega) (hT.fr f1 (fun a b q => Or.inl q.1)) ⟨c1.1, c1.2.1, by
              rw [c1.2.2, dn_p_j _ _ _ _ _ _ (by omega), hz.2.2, nl_1, nI_add]
              show _ = nI (ab_df (ab_up z.2 j 2) 6 0)
              rw [ab_df_up _ _ _ _ _ hne, if_pos ⟨rfl, by omega, by omega⟩]⟩
            exact ⟨t2, e2, z2, fr_trans f1 f2⟩
          · have hp2 : tv_O τ j 2 ≤ z.1 w := i32_le hp
            rw [if_neg hp, rq_fall true h0 (by omega) (by omega) (by omega) o1]
            dsimp only
            have hs : ab_ds τ x n j z = (ab_ad (ab_ad z.1 w (-(tv_O τ j 2))) v (tv_O τ j 2), ab_up z.2 j 1) := by unfold ab_ds; rw [if_pos ⟨h1, h2, h3⟩, eW, if_pos hp2, eV]
            rw [hs]
            generalize tv_O τ j 2 = co
            have c1 := ((((hz0.how (d := j) (v := 1) h4).cnt (v := dn_g (dn_p t 101 (h + 10 + j) 1) 101 (h + 3) + 0)).ad (w := w) (v := -co) h4 hw).ad (w := v) (v := co) h4 hv)
            have e0 : ∀ y : Int32, y + -co = y - co := fun y => (Int32.sub_eq_add_neg _ _).symm
            rw [e0] at c1
            obtain ⟨t4, ht4⟩ : ∃ q, q = dn_p (dn_p (dn_p (dn_p t 101 (h + 10 + j) 1) 101 (h + 3) (dn_g (dn_p t 101 (h + 10 + j) 1) 101 (h + 3) + 0)) 101 (h + 6 + w) (dn_g (dn_p (dn_p t 101 (h + 10 + j) 1) 101 (h + 3) (dn_g (dn_p t 101 (h + 10 + j) 1) 101 (h + 3) + 0)) 101 (h + 6 + w) - co)) 101 (h + 6 + v) (dn_g (dn_p (dn_p (dn_p t 101 (h + 10 + j) 1) 101 (h + 3) (dn_g (dn_p t 101 (h + 10 + j) 1) 101 (h + 3) + 0)) 101 (h + 6 + w) (dn_g (dn_p (dn_p t 101 (h + 10 + j) 1) 101 (h + 3) (dn_g (dn_p t 101 (h + 10 + j) 1) 101 (h + 3) + 0)) 101 (h + 6 + w) - co)) 101 (h + 6 + v) + co) := ⟨_, rfl⟩
            have f1 : fr (PDr h) t t4 := by
              rw [ht4]
              exact fr_trans (fr_trans (fr_trans (fr_p ⟨rfl, Or.inr (by omega)⟩) (fr_p ⟨rfl, Or.inl rfl⟩)) (fr_p ⟨rfl, Or.inr (by omega)⟩)) (fr_p ⟨rfl, Or.inr (by omega)⟩)
            simp only [if_true]
            rw [← ht4] at c1 ⊢
            obtain ⟨t2, e2, z2, f2⟩ := ih (j + 1) f t4 (ab_ad (ab_ad z.1 w (-co)) v co, ab_up z.2 j 1) (by omega) (by omega) (hT.fr f1 (fun a b q => Or.inl q.1)) ⟨c1.1, c1.2.1, by
              rw [c1.2.2, dn_p_j _ _ _ _ _ _ (by omega), hz.2.2, nl_0, nI_add]
              show _ = nI (ab_df (ab_up z.2 j 1) 6 0)
              rw [ab_df_up _ _ _ _ _ hne, if_neg (fun q => absurd q.1 (by decide))]⟩
            exact ⟨t2, e2, z2, fr_trans f1 f2⟩
        · rw [if_neg h2, show ab_ds τ x n j z = z from by unfold ab_ds; rw [if_neg (fun q => h2 q.2.1)]]
          exact skip
      · rw [if_neg h1, show ab_ds τ x n j z = z from by unfold ab_ds; rw [if_neg (fun q => h1 q.1)]]
        exact skip
    · rw [if_neg h3, show ab_ds τ x n j z = z from by unfold ab_ds; rw [if_neg (fun q => h3 q.2.2)]]
      exact skip
