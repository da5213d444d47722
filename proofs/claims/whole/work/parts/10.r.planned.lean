/-! planned days carried out ahead -/
def ab_pl (τ : Tv) (P : Nat → Int32) : Nat → Nat → Mv → Mv
  | 0, _, m => m
  | c + 1, i, m => ab_pl τ P c (i + 1) (if P i < 0 then m else ab_day τ m (P i))
theorem ab_day_d (τ : Tv) (m : Mv) (x : Int32) : mv_d (ab_day τ m x) = mv_d m + 1 := rfl
theorem ab_pl_d (τ : Tv) (P : Nat → Int32) : ∀ c i m, mv_d (ab_pl τ P c i m) ≤ mv_d m + c := by
  intro c
  induction c with
  | zero => intro i m; exact Nat.le_refl _
  | succ c ih =>
    intro i m
    rw [ab_pl]
    have := ih (i + 1) (if P i < 0 then m else ab_day τ m (P i))
    by_cases q : P i < 0
    · rw [if_pos q] at this ⊢; omega
    · rw [if_neg q] at this ⊢; rw [ab_day_d] at this; omega
theorem cq_pl_loop {τ : Tv} {P : Nat → Int32} {N : Nat} (hW : WT τ) (hN : N ≤ 8) : ∀ (c i fuel : Nat) (s : dn_S) (m : Mv), i + c = N → c < fuel → CT s 3 τ → CM s 31 τ m → mv_d m + c ≤ 100 → dn_g s 30 3 = nI N → (∀ j, j < N → dn_g s 35 j = P j) →
    ∃ s', m_X0_carriedOut_10 10 fuel (nI i) s = some ((), s') ∧ CM s' 31 τ (ab_pl τ P c i m) ∧ fr (fun a _ => 31 ≤ a ∧ a ≤ 34) s s' := by
  intro c
  induction c with
  | zero =>
    intro i fuel s m hi hf hT hM hd hn hP
    obtain ⟨n, rfl⟩ : ∃ n, fuel = n + 1 := ⟨fuel - 1, by omega⟩
    rw [m_X0_carriedOut_10, hn, if_pos (show nI N ≤ nI i from nI_le (by omega) (by omega))]
    exact ⟨s, rfl, hM, fr_refl⟩
  | succ c ih =>
    intro i fuel s m hi hf hT hM hd hn hP
    obtain ⟨n, rfl⟩ : ∃ n, fuel = n + 1 := ⟨fuel - 1, by omega⟩
    rw [m_X0_carriedOut_10, hn, if_neg (show ¬ nI N ≤ nI i from nI_nl (by omega) (by omega)), cq_at_nI (by omega) (by omega), dn_bd_s, hP i (by omega), ab_pl]
    have e1 : nI i + (1 : Int32) = nI (i + 1) := by rw [nl_1, nI_add]
    unfold m_X0_carriedOut_43
    by_cases q : P i < 0
    · rw [if_pos q, if_pos q, dn_lt_e, e1]
      exact ih (i + 1) n s m (by omega) (by omega) hT hM (by omega) hn hP
    · rw [if_neg q, if_neg q]
      obtain ⟨s1, e2, hM1, f1⟩ := cq_callDay (x := P i) hW (Or.inr (show 19 ≤ 31 by omega)) hT hM (by omega)
      have f1' : fr (fun a _ => 31 ≤ a ∧ a ≤ 34) s s1 := fr_mono f1 (fun a j q => q.1)
      rw [e2, dn_bd_s, dn_lt_e, e1]
      obtain ⟨s2, e3, hM2, f2⟩ := ih (i + 1) n s1 (ab_day τ m (P i)) (by omega) (by omega) (hT.fr f1' (fun a j q => by omega)) hM1 (by rw [ab_day_d]; omega) ((f1'.1 30 3 (by omega)).trans hn) (fun j hj => (f1'.1 35 j (by omega)).trans (hP j hj))
      exact ⟨s2, e3, hM2, fr_trans f1' f2⟩
def ab_pe (τ : Tv) (y : Option Nat) (k : Nat) (m : Mv) : Int32 := match y with
  | some b => mv_P m b
  | none => nI (ab_df (mv_H m) 6 0) - nI k
def pl_y : Option Nat → Int32
  | some b => nI b
  | none => -1
theorem pl_s (b : Nat) : pl_y (some b) = nI b := rfl
theorem pl_n : pl_y none = -1 := rfl
theorem rq_pl_loop {τ : Tv} {P : Nat → Int32} {N k : Nat} {y : Option Nat} (hW : WT τ) (hN : N ≤ 8) (hy : ∀ b, y = some b → b < tv_b τ) : ∀ (c i fuel : Nat) (t : dn_S) (m : Mv), i + c = N → c < fuel → RT t τ → RM t 120 τ m → mv_d m + c ≤ 100 → dn_g t 100 13 = nI N → (∀ j, j < N → dn_g t 109 j = P j) → dn_g t 101 3 = nI k →
    ∃ t', m_X12_planned_21 fuel (pl_y y) (nI i) t = some (ab_pe τ y k (ab_pl τ P c i m), t') ∧ fr SR t t' := by
  intro c
  induction c with
  | zero =>
    intro i fuel t m hi hf hT hM hd hn hP hk
    obtain ⟨n, rfl⟩ : ∃ n, fuel = n + 1 := ⟨fuel - 1, by omega⟩
    rw [m_X12_planned_21, hn, if_pos (show nI N ≤ nI i from nI_le (by omega) (by omega))]
    refine ⟨t, ?_, fr_refl⟩
    cases y with
    | none =>
      have h3 : dn_g t 101 (123 : Int32).toNatClampNeg = nI (ab_df (mv_H m) 6 0) := hM.2.2.2.1
      have h4 : dn_g t 101 (3 : Int32).toNatClampNeg = nI k := hk
      rw [pl_n, if_neg (by decide), show dn_ib 123 1680 = true by decide, show dn_ib 3 1680 = true by decide, dn_ck_t, dn_ck_t, h3, h4]
      rfl
    | some b =>
      have hb := hy b rfl
      have := hW.1
      rw [pl_s, if_pos (show 0 ≤ nI b from nI_le (a := 0) (b := b) (by omega) (by omega))]
      have := hM.2.2.2.2.2.1 b hb
      rw [show 120 + 6 + b = 126 + b by omega] at this
      try simp (disch := omega) only [nl_0, nl_1, nl_2, nl_3, nl_4, nl_5, nl_6, nl_7, nl_8, nl_9, nl_10, nl_16, nl_17, nl_19, nl_20, nl_21, nl_30, nl_31, nl_32, nl_40, nl_41, nl_48, nl_50, nl_57, nl_60, nl_64, nl_99, nl_100, nl_119, nl_120, nl_121, nl_122, nl_123, nl_124, nl_125, nl_126, nl_130, nl_136, nl_200, nl_240, nl_255, nl_256, nl_257, nl_480, nl_1080, nI_add, nI_mul, nI_sub, cq_ib, nI_clamp, nI_leI, nI_ltI, nI_eq, dn_ck_t, dn_bd_s, dn_wr_e, dn_lt_e, cq_ofNat, this]
      rfl
  | succ c ih =>
    intro i fuel t m hi hf hT hM hd hn hP hk
    obtain ⟨n, rfl⟩ : ∃ n, fuel = n + 1 := ⟨fuel - 1, by omega⟩
    rw [m_X12_planned_21, hn, if_neg (show ¬ nI N ≤ nI i from nI_nl (by omega) (by omega)), cq_ib (show i < 8 by omega) (by omega), dn_ck_t, dn_ck_t, nI_clamp (by omega), hP i (by omega), ab_pl]
    have e1 : nI i + (1 : Int32) = nI (i + 1) := by rw [nl_1, nI_add]
    unfold m_X12_planned_50
    by_cases q : P i < 0
    · rw [if_pos q, if_pos q, dn_lt_e, e1]
      exact ih (i + 1) n t m (by omega) (by omega) hT hM (by omega) hn hP hk
    · rw [if_neg q, if_neg q]
      obtain ⟨t1, e2, hM1, f1⟩ := rq_comes (h := 120) (x := P i) hW (by omega) hT hM (by omega)
      have f1' : fr SR t t1 := fr_mono f1 (fun a j q => by unfold PHr at q; unfold SR; omega)
      rw [nl_120, e2, dn_bd_s, dn_lt_e, e1]
      obtain ⟨t2, e3, f2⟩ := ih (i + 1) n t1 (ab_day τ m (P i)) (by omega) (by omega) (hT.fr f1' (fun a j q => SR_rt q)) hM1 (by rw [ab_day_d]; omega) ((f1'.1 100 13 (fun q => by unfold SR at q; omega)).trans hn) (fun j hj => (f1'.1 109 j (fun q => by unfold SR at q; omega)).trans (hP j hj)) ((f1'.1 101 3 (fun q => by unfold SR at q; omega)).trans hk)
      exact ⟨t2, e3, fr_trans f1' f2⟩
theorem ah_pl {s t : dn_S} (y : Option Nat) (hR : Rel s t) (hy : ∀ τ, WT τ → CT s 3 τ → ∀ b, y = some b → b < tv_b τ) :
    ∃ r s' t', m_X11_planned_15 (pl_y y) s = some (r, s') ∧ m_X12_planned_15 (pl_y y) t = some (r, t') ∧ Rel s' t' := by
  obtain ⟨τ, hW, hT, hU, ⟨m, o, hM, hN, -, -, hd, -⟩, -, -, ⟨N, hN8, p1, p2, p3⟩, -⟩ := id hR
  have h4 := hW.1
  obtain ⟨s1, e1, z1, f1⟩ := cq_copyM (k := 31) (k1 := 10) s (by omega)
  obtain ⟨t1, g1, hU1, hN1, hO1, k1⟩ := ah_r hW hU hN (by omega)
  have f1' : fr SC s s1 := fr_mono f1 (fun a j q => by unfold PM at q; unfold SC; omega)
  have hT1 := hT.fr f1' (fun a j q => SC_ct q)
  obtain ⟨s2, e2, hM2, f2⟩ := cq_pl_loop (P := fun i => dn_g s 35 i) hW hN8 N 0 2048 s1 m (by omega) (by omega) hT1 (z1.cm h4 hM (by omega)) (by omega) ((f1'.1 30 3 (fun q => by unfold SC at q; omega)).trans p1) (fun j hj => f1'.1 35 j (fun q => by unfold SC at q; omega))
  obtain ⟨t2, g2, k2⟩ := rq_pl_loop (P := fun i => dn_g s 35 i) (y := y) (k := ab_df (mv_H m) 6 0) hW hN8 (hy τ hW hT) N 0 2048 t1 m (by omega) (by omega) hU1 hN1 (by omega) ((k1.1 100 13 (fun q => by unfold SR at q; omega)).trans p2) (fun j hj => (k1.1 109 j (fun q => by unfold SR at q; omega)).trans (p3 j hj).symm) ((k1.1 101 3 (fun q => by unfold SR at q; omega)).trans hN.2.2.2.1)
  have f2' : fr SC s1 s2 := fr_mono f2 (fun a j q => by unfold SC; omega)
  have f3 := fr_trans f1' f2'
  refine ⟨ab_pe τ y (ab_df (mv_H m) 6 0) (ab_pl τ (fun i => dn_g s 35 i) N 0 m), s2, t2, ?_, ?_, hR.scr f3 (fr_trans k1 k2)⟩
  · unfold m_X11_planned_15 m_X0_carriedOut
    rw [e1, dn_bd_s, nl_0, e2, dn_bd_s]
    cases y with
    | none =>
      rw [pl_n, if_pos rfl, cq_dfl hM2, dn_bd_s, cq_dfl (hM.fr f3 (fun a j q => SC_cm q)), dn_bd_s]
      rfl
    | some b =>
      have hb := hy τ hW hT b rfl
      rw [pl_s, if_neg (fun q => by have := congrArg Int32.toInt q; rw [nI_toInt (by omega), i32_m1] at this; omega), cq_purse hM2 hb h4]
      rfl
  · unfold m_X12_planned_15
    rw [g1, dn_bd_s, nl_0]
    exact g2
theorem ok_planned (a1 : Int32) : Ok Int32 (m_X11_planned a1) (m_X12_planned a1) := by
  intro s t hR
  unfold m_X11_planned m_X12_planned
  by_cases q : a1 = -1
  · rw [if_pos q, if_pos q, q]
    exact ah_pl none hR (fun _ _ _ b z => by cases z)
  · rw [if_neg q, if_neg q]
    obtain ⟨τ, hW, hT, hU, -⟩ := id hR
    rw [cq_isBidder a1 hW hT, rq_isBidder a1 hW hU, dn_bd_s, dn_bd_s]
    by_cases h1 : ab_in a1.toInt (0 : Nat) ((tv_b τ : Int) - 1) = true
    · obtain ⟨b, hb, rfl⟩ := in_split1 h1
      rw [if_pos h1, if_pos h1]
      refine ah_pl (some b) hR (fun τ' hW' hT' b' z => ?_)
      cases z
      have e : nI (tv_b τ') = nI (tv_b τ) := hT'.1.symm.trans hT.1
      rw [(nI_eq (by have := hW'.1; omega) (by have := hW.1; omega)).mp e]
      exact hb
    · rw [if_neg h1, if_neg h1]
      exact ⟨_, s, t, rfl, rfl, hR⟩
