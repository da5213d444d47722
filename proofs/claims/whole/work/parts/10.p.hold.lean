/-! holding a name -/
theorem nI_nl {a b : Nat} (h : b < a) (ha : a < 2 ^ 31) : ¬ nI a ≤ nI b := fun q => by rw [nI_leI ha (by omega)] at q; omega
def ab_rk (τ : Tv) (m : Mv) (z : Int32 × Int32) : Prop := z = (0, 0) ∨ ∃ v n : Nat, 1 ≤ v ∧ v ≤ 20 ∧ n < 5 ∧ z = (nI v, nI n) ∧ ab_brd τ m (nI n) = false
theorem ab_rk_step {τ : Tv} {m : Mv} {b n : Nat} {z : Int32 × Int32} (hW : WT τ) (hb : b < tv_b τ) (hn : n < 5) (hz : ab_rk τ m z) : ab_rk τ m (ab_rs τ m b n z) := by
  obtain ⟨v, hv, e⟩ := hW.2.2.2.1 b hb n hn
  unfold ab_rs
  rw [e]
  by_cases q : nI v ≤ z.1
  · rw [if_pos q]; exact hz
  · rw [if_neg q]
    by_cases q2 : nI v ≤ mv_P m b
    · rw [if_pos q2]
      by_cases q3 : ab_brd τ m (nI n) = true
      · rw [if_pos q3]; exact hz
      · rw [if_neg q3]
        refine Or.inr ⟨v, n, ?_, hv, hn, rfl, by simpa using q3⟩
        cases v with
        | zero =>
          exfalso
          apply q
          rcases hz with e | ⟨w, _, _, _, _, e, _⟩
          · rw [e]; show nI 0 ≤ 0; decide
          · rw [e]; exact nI_le (a := 0) (b := w) (by omega) (by omega)
        | succ v => omega
    · rw [if_neg q2]; exact hz
theorem ab_rk_z {τ : Tv} {m : Mv} {b : Nat} (hW : WT τ) (hb : b < tv_b τ) : ∀ c n z, n + c ≤ 5 → ab_rk τ m z → ab_rk τ m (ab_rz τ m b c n z) := by
  intro c
  induction c with
  | zero => intro n z _ hz; exact hz
  | succ c ih => intro n z hn hz; rw [ab_rz]; exact ih (n + 1) _ (by omega) (ab_rk_step hW hb (by omega) hz)
theorem ab_cw_k {τ : Tv} {m : Mv} (hW : WT τ) (b : Nat) : ab_rk τ m (ab_cw τ m b) := by
  unfold ab_cw
  by_cases h : b < tv_b τ
  · rw [if_pos h]; exact ab_rk_z hW h 5 0 _ (by omega) (Or.inl rfl)
  · rw [if_neg h]; exact Or.inl rfl
theorem ab_c0_k {τ : Tv} {m : Mv} (hW : WT τ) (b : Nat) : (ab_c0 τ m b).1 = 0 ∨ ∃ v n : Nat, 1 ≤ v ∧ v ≤ 20 ∧ n < 5 ∧ ab_c0 τ m b = (nI v, nI n) ∧ ab_brd τ m (nI n) = false := by
  unfold ab_c0 ab_cwo
  by_cases h : b = 4
  · rw [if_pos h, if_neg (fun q => absurd q.1 (show ¬ ((0 : Int32) < 0) by decide))]; exact Or.inl rfl
  · rw [if_neg h]
    rcases ab_cw_k (m := m) hW b with e | e
    · exact Or.inl (by rw [e])
    · exact Or.inr e
theorem ab_c0_4 (τ : Tv) (m : Mv) : (ab_c0 τ m 4).1 = 0 := by
  unfold ab_c0 ab_cwo
  rw [if_pos rfl, if_neg (fun q => absurd q.1 (show ¬ ((0 : Int32) < 0) by decide))]
/-- a barred name is never sold -/
theorem ab_nt_bar {τ : Tv} {m : Mv} {x : Nat} (hW : WT τ) (hx : x < 5) (h : ab_brd τ m (nI x) = true) : (ab_nt τ m).1 ≠ nI x := by
  rw [ab_nt_c, ab_ends_1]
  rcases ab_w_ok (ab_c1 (ab_c0 τ m)) with ⟨q1, q2⟩ | ⟨i, hi, q1, q2, q3⟩
  · rw [if_pos q1]; exact nI_n5 (by omega)
  · rw [if_neg (by rw [q1]; exact nI_n9 (by omega))]
    have hx' : ab_x (ab_c0 τ m) = (ab_c0 τ m i).2 := by unfold ab_x ab_wi; rw [q1, nI_clamp (by omega)]
    rw [hx']
    have q3' : 0 < (ab_c0 τ m i).1 := q3
    rcases ab_c0_k (m := m) hW i with e | ⟨v, n, h1, h2, h3, h4, h5⟩
    · rw [e] at q3'; exact absurd q3' (by decide)
    · rw [h4]
      intro q
      rw [show nI n = nI x from q, h] at h5
      exact absurd h5 (by decide)
theorem ab_hi_k {τ : Tv} {m : Mv} (hW : WT τ) : ∃ v : Nat, v ≤ 20 ∧ ab_hi τ m = nI v := by
  unfold ab_hi
  rcases ab_w_ok (ab_c1 (ab_c0 τ m)) with ⟨q1, q2⟩ | ⟨i, hi, q1, q2, q3⟩
  · exact ⟨0, by omega, q2⟩
  · rw [q2]
    show ∃ v : Nat, v ≤ 20 ∧ (ab_c0 τ m i).1 = nI v
    rcases ab_c0_k (m := m) hW i with e | ⟨v, n, h1, h2, h3, h4, h5⟩
    · exact ⟨0, by omega, e⟩
    · exact ⟨v, h2, by rw [h4]⟩
theorem ab_w_s (c : Nat → Int32) : ab_w c = (if c 4 ≤ (ab_wn c 4 0 (-9, 0)).2 then ab_wn c 4 0 (-9, 0) else (nI 4, c 4)) := rfl
theorem ab_wn_congr {c c' : Nat → Int32} : ∀ n i z, (∀ j, i ≤ j → j < i + n → c j = c' j) → ab_wn c n i z = ab_wn c' n i z := by
  intro n
  induction n with
  | zero => intro i z _; rfl
  | succ n ih => intro i z h; rw [ab_wn, ab_wn, h i (by omega) (by omega), ih (i + 1) _ (fun j h1 h2 => h j (by omega) (by omega))]
theorem ab_wn_pos (c : Nat → Int32) : ∀ n i z, (0 : Int32) ≤ z.2 → (0 : Int32) ≤ (ab_wn c n i z).2 := by
  intro n
  induction n with
  | zero => intro i z h; exact h
  | succ n ih =>
    intro i z h
    rw [ab_wn]
    refine ih (i + 1) _ ?_
    by_cases q : c i ≤ z.2
    · rw [if_pos q]; exact h
    · rw [if_neg q]; exact Int32.le_of_lt (Int32.lt_of_le_of_lt h (i32_nle q))
/-- one coin more than the highest bid wins -/
theorem ab_own_wins {τ : Tv} {m : Mv} {x v : Nat} (hv : ab_hi τ m = nI v) (hv20 : v ≤ 20) (h : ab_brd τ m (nI x) = false) : (ab_night τ m (nI x, nI (v + 1))).1 = nI x := by
  unfold ab_night
  rw [ab_ends_1]
  have e4 : ab_cwo τ m (nI x, nI (v + 1)) 4 = (nI (v + 1), nI x) := by
    unfold ab_cwo
    rw [if_pos rfl, if_pos ⟨nI_lt (a := 0) (by omega) (by omega), h⟩]
  have eo : ∀ j, j < 4 → ab_c1 (ab_cwo τ m (nI x, nI (v + 1))) j = ab_c1 (ab_c0 τ m) j := by
    intro j hj
    unfold ab_c1 ab_c0 ab_cwo
    rw [if_neg (by omega), if_neg (by omega)]
  have hw0 : ab_w (ab_c1 (ab_c0 τ m)) = ab_wn (ab_c1 (ab_c0 τ m)) 4 0 (-9, 0) := by
    rw [ab_w_s, if_pos]
    rw [show ab_c1 (ab_c0 τ m) 4 = 0 from ab_c0_4 τ m]
    exact ab_wn_pos _ 4 0 _ (by decide)
  have hw : ab_w (ab_c1 (ab_cwo τ m (nI x, nI (v + 1)))) = (nI 4, nI (v + 1)) := by
    rw [ab_w_s, ab_wn_congr (c' := ab_c1 (ab_c0 τ m)) 4 0 _ (fun j _ h2 => eo j (by omega)), ← hw0]
    have : ab_c1 (ab_cwo τ m (nI x, nI (v + 1))) 4 = nI (v + 1) := by unfold ab_c1; rw [e4]
    rw [this, if_neg]
    intro q
    have hv' : (ab_w (ab_c1 (ab_c0 τ m))).2 = nI v := hv
    rw [hv'] at q
    exact absurd q (nI_nl (by omega) (by omega))
  rw [hw, if_neg (show ¬ (nI 4 : Int32) = -9 from nI_n9 (by omega))]
  unfold ab_x ab_wi
  rw [hw, nI_clamp (by omega), e4]
def ab_ho (τ : Tv) (x : Int32) : Nat → Mv → Nat → Mv × Nat
  | 0, m, k => (m, k)
  | c + 1, m, k => if ab_brd τ m x = true then ab_ho τ x c (ab_nt τ m).2 k else ab_ho τ x c (ab_night τ m (x, ab_hi τ m + 1)).2 (k + 1)
def ab_hr (a p0 : Int32) (z : Mv × Nat) : Int32 := if a = 0 then mv_p z.1 - p0 else nI z.2
theorem cq_hold_loop {τ : Tv} {N x : Nat} {a p0 : Int32} (hW : WT τ) (hx : x < 5) (hN : N ≤ 10) : ∀ (c i fuel : Nat) (s : dn_S) (m : Mv) (k : Nat), i + c = N → c < fuel → CT s 3 τ → CM s 19 τ m → dn_g s 10 5 = p0 → mv_d m + c ≤ 100 →
    ∃ s', m_X5_holding_14 10 fuel (nI x) (nI N) a (nI k) (nI (i + 1)) s = some (ab_hr a p0 (ab_ho τ (nI x) c m k), s') ∧ fr SC s s' := by
  intro c
  induction c with
  | zero =>
    intro i fuel s m k hi hf hT hM hp hd
    obtain ⟨n, rfl⟩ : ∃ n, fuel = n + 1 := ⟨fuel - 1, by omega⟩
    rw [m_X5_holding_14, if_pos (show nI N < nI (i + 1) from nI_lt (by omega) (by omega)), ab_ho, hp, hM.2.2.1]
    refine ⟨s, ?_, fr_refl⟩
    unfold ab_hr
    split <;> rfl
  | succ c ih =>
    intro i fuel s m k hi hf hT hM hp hd
    obtain ⟨n, rfl⟩ : ∃ n, fuel = n + 1 := ⟨fuel - 1, by omega⟩
    obtain ⟨s1, e1, hT1, hM1, hz1, f1⟩ := ah_open hW hT hM (by omega)
    have hz1' := cq_cwo hW (-9) hz1
    have hp1 : dn_g s1 10 5 = p0 := (f1.1 10 5 (fun q => by unfold SC at q; omega)).trans hp
    rw [m_X5_holding_14, if_neg (show ¬ nI N < nI (i + 1) from nI_nlt (by omega) (by omega)), e1, dn_bd_s, hT1.2.2.1, cq_bar hM1 (by omega) hW.2.2.1, dn_bd_s, ab_ho]
    by_cases q : ab_brd τ m (nI x) = true
    · rw [if_pos q, if_pos q]
      obtain ⟨s2, e2, hT2, hM2, -, -, f2⟩ := ah_close hW hT1 hM1 (by omega) hz1' (ab_cwo_0 τ m (-9, 0))
      have hd3 := ab_nt_d τ m
      obtain ⟨s4, e4, f4⟩ := ih (i + 1) n s2 (ab_nt τ m).2 k (by omega) (by omega) hT2 hM2 ((f2.1 10 5 (fun q => by unfold SC at q; omega)).trans hp1) (by omega)
      refine ⟨s4, ?_, fr_trans f1 (fr_trans f2 f4)⟩
      unfold m_X5_holding_87
      rw [e2, dn_bd_s, dn_lt_e, nl_1, nI_add]
      exact e4
    · rw [if_neg q, if_neg q]
      obtain ⟨v, hv20, hv⟩ := ab_hi_k (m := m) hW
      have hh : (ab_w (ab_c1 (ab_c0 τ m))).2 = nI v := hv
      have hq : ab_brd τ m (nI x) = false := by simpa using q
      rw [cq_highest (c := ab_c1 (ab_c0 τ m)) (fun j hj => (hz1' j hj).1), dn_bd_s, dn_lt_e, hh, nl_1, nI_add, if_pos (show nI (v + 1) ≤ 40 from nI_le (b := 40) (by omega) (by omega))]
      obtain ⟨s2, e2, hz2, f2⟩ := cq_bidOwn (v := nI (v + 1)) hW hT1 hM1 (by omega) hx hz1
      have f2' : fr SC s1 s2 := fr_mono f2 (fun a j q => by rcases q with q | q <;> (unfold SC; omega))
      have hz3 := cq_cwo2 hW (show (0 : Int32) < nI (v + 1) from nI_lt (a := 0) (by omega) (by omega)) hz2
      obtain ⟨s3, e3, hT3, hM3, -, -, f3⟩ := ah_close hW (hT1.fr f2' (fun a j q => SC_ct q)) (hM1.fr f2 (fun a j q => by rcases q with q | q <;> omega)) (by omega) hz3 (ab_cwo_0 τ m (nI x, nI (v + 1)))
      have hd3 := ab_night_d τ m (nI x, nI (v + 1))
      obtain ⟨s4, e4, f4⟩ := ih (i + 1) n s3 (ab_night τ m (nI x, nI (v + 1))).2 (k + 1) (by omega) (by omega) hT3 hM3 ((f3.1 10 5 (fun q => by unfold SC at q; omega)).trans ((f2'.1 10 5 (fun q => by unfold SC at q; omega)).trans hp1)) (by omega)
      refine ⟨s4, ?_, fr_trans f1 (fr_trans f2' (fr_trans f3 f4))⟩
      rw [e2, dn_bd_s, dn_lt_e]
      unfold m_X5_holding_87
      rw [e3, dn_bd_s, dn_lt_e, show nI k + nI 1 = nI (k + 1) from nI_add k 1, show ab_hi τ m + nI 1 = nI (v + 1) from by rw [hv, nI_add], show nI (i + 1) + (1 : Int32) = nI (i + 1 + 1) from by rw [nl_1, nI_add]]
      exact e4
theorem rq_hold_loop {τ : Tv} {N x : Nat} {a p0 : Int32} (hW : WT τ) (hx : x < 5) (hN : N ≤ 10) : ∀ (c i fuel : Nat) (t : dn_S) (m : Mv) (k : Nat), i + c = N → c < fuel → RT t τ → RM t 120 τ m → RO t 120 (-9, 0) → mv_d m + c ≤ 100 →
    ∃ t', m_X12_hold_50 fuel (nI x) (nI N) a (nI k) p0 (nI i) t = some (ab_hr a p0 (ab_ho τ (nI x) c m k), t') ∧ fr SR t t' := by
  intro c
  induction c with
  | zero =>
    intro i fuel t m k hi hf hT hM hO hd
    obtain ⟨n, rfl⟩ : ∃ n, fuel = n + 1 := ⟨fuel - 1, by omega⟩
    have h122 : dn_g t 101 (122 : Int32).toNatClampNeg = mv_p m := hM.2.2.1
    rw [m_X12_hold_50, if_pos (show nI N ≤ nI i from nI_le (by omega) (by omega)), ab_ho, h122, show dn_ib 122 1680 = true by decide, dn_ck_t]
    refine ⟨t, ?_, fr_refl⟩
    unfold ab_hr
    split <;> rfl
  | succ c ih =>
    intro i fuel t m k hi hf hT hM hO hd
    obtain ⟨n, rfl⟩ : ∃ n, fuel = n + 1 := ⟨fuel - 1, by omega⟩
    rw [m_X12_hold_50, if_neg (show ¬ nI N ≤ nI i from nI_nl (by omega) (by omega)), nl_120, rq_bar hM hT (by omega) (by omega) hW.2.2.1, dn_bd_s, ab_ho]
    by_cases q : ab_brd τ m (nI x) = true
    · rw [if_pos q, if_pos q]
      obtain ⟨t3, e3, hT3, hM3, hO3, f3⟩ := ah_gr hW hT hM hO (by omega)
      have hd3 := ab_nt_d τ m
      obtain ⟨t4, e4, f4⟩ := ih (i + 1) n t3 (ab_nt τ m).2 k (by omega) (by omega) hT3 hM3 hO3 (by omega)
      refine ⟨t4, ?_, fr_trans f3 f4⟩
      unfold m_X12_hold_111 m_X12_hold_128
      rw [e3, dn_bd_s, if_neg (ab_nt_bar hW hx q), dn_lt_e, dn_lt_e, dn_bf, nI_add, nl_1, nI_add]
      exact e4
    · rw [if_neg q, if_neg q]
      obtain ⟨v, hv20, hv⟩ := ab_hi_k (m := m) hW
      have hq : ab_brd τ m (nI x) = false := by simpa using q
      obtain ⟨t1, e1, hT1, hM1, hO1, hz1, f1⟩ := ah_bids hW hT hM hO (by omega)
      obtain ⟨t2, e2, hT2, hM2, hO2, hz2, w2, p2, f2⟩ := ah_sells hW hT1 hM1 hO1 (by omega) hz1
      have p2' : dn_g t2 100 34 = nI v := p2.trans hv
      rw [← nl_120, e1, dn_bd_s, e2, dn_bd_s, p2', nl_1, nI_add, if_pos (show nI (v + 1) ≤ 40 from nI_le (b := 40) (by omega) (by omega))]
      rw [show dn_ib 124 1680 = true by decide, show dn_ib 125 1680 = true by decide, dn_ck_t, dn_wr_e, dn_ck_t, dn_wr_e]
      rw [show (124 : Int32).toNatClampNeg = 124 by decide, show (125 : Int32).toNatClampNeg = 125 by decide]
      have fw : fr (fun a j => a = 101 ∧ (j = 124 ∨ j = 125)) t2 (dn_p (dn_p t2 101 124 (nI (v + 1))) 101 125 (nI x)) := fr_trans (fr_p ⟨rfl, Or.inl rfl⟩) (fr_p ⟨rfl, Or.inr rfl⟩)
      have f3 : fr SR t2 (dn_p (dn_p t2 101 124 (nI (v + 1))) 101 125 (nI x)) := fr_mono fw (fun a j q => by unfold SR; omega)
      have hT3 := hT2.fr f3 (fun a j q => SR_rt q)
      have hO3 : RO (dn_p (dn_p t2 101 124 (nI (v + 1))) 101 125 (nI x)) 120 (nI x, nI (v + 1)) :=
        ⟨by rw [dn_p_j _ _ _ _ _ _ (by decide), dn_p_same], fun _ => dn_p_same _ _ _ _⟩
      have ef : ∀ j, j ≠ 124 → j ≠ 125 → dn_g (dn_p (dn_p t2 101 124 (nI (v + 1))) 101 125 (nI x)) 101 j = dn_g t2 101 j := fun j h1 h2 => fw.1 101 j (fun q => by omega)
      have hM3 : RM (dn_p (dn_p t2 101 124 (nI (v + 1))) 101 125 (nI x)) 120 τ m :=
        ⟨by rw [ef _ (by omega) (by omega)]; exact hM2.1, by rw [ef _ (by omega) (by omega)]; exact hM2.2.1, by rw [ef _ (by omega) (by omega)]; exact hM2.2.2.1, by rw [ef _ (by omega) (by omega)]; exact hM2.2.2.2.1,
          fun i hi => by rw [ef _ (by omega) (by omega)]; exact hM2.2.2.2.2.1 i hi, fun b hb => by have := hW.1; rw [ef _ (by omega) (by omega)]; exact hM2.2.2.2.2.2.1 b hb, fun j hj => by rw [ef _ (by omega) (by omega)]; exact hM2.2.2.2.2.2.2 j hj⟩
      obtain ⟨t4, e4, hM4, hO4, f4⟩ := rq_goes hW (h := 120) (by omega) hT3 hM3 hO3 (by omega)
      have f4' := fr_mono f4 (fun a j q => PGR_SR q)
      have hd3 := ab_night_d τ m (nI x, nI (v + 1))
      obtain ⟨t5, e5, f5⟩ := ih (i + 1) n t4 (ab_night τ m (nI x, nI (v + 1))).2 (k + 1) (by omega) (by omega) (hT3.fr f4' (fun a j q => SR_rt q)) hM4 hO4 (by omega)
      refine ⟨t5, ?_, fr_trans f1 (fr_trans f2 (fr_trans f3 (fr_trans f4' f5)))⟩
      unfold m_X12_hold_111 m_X12_hold_128
      rw [nl_120, e4, dn_bd_s, if_pos (ab_own_wins hv hv20 hq), dn_lt_e, dn_lt_e, dn_bt, nI_add, show ab_hi τ m + nI 1 = nI (v + 1) from by rw [hv, nI_add], show nI i + (1 : Int32) = nI (i + 1) from by rw [nl_1, nI_add]]
      exact e5
theorem ok_hold (a1 a2 a3 : Int32) : Ok Int32 (m_X11_hold a1 a2 a3) (m_X12_hold a1 a2 a3) := by
  intro s t hR
  obtain ⟨τ, hW, hT, hU, ⟨m, o, hM, hN, -, -, hd, -⟩, hR2⟩ := id hR
  unfold m_X11_hold m_X12_hold
  rw [cq_isName, rq_isName, dn_bd_s, dn_bd_s]
  by_cases h1 : ab_in a1.toInt (0 : Nat) (4 : Nat) = true
  · obtain ⟨x, _, hx, rfl⟩ := in_split h1
    rw [if_pos h1, if_pos h1, cq_within, rq_in, rq_i64, i32_1, i32_6, i64_1, i64_6, dn_bd_s, dn_bd_s]
    by_cases h2 : ab_in a2.toInt (1 : Nat) (6 : Nat) = true
    · obtain ⟨n, _, hn, rfl⟩ := in_split h2
      rw [if_pos h2, if_pos h2, cq_within, rq_in, rq_i64, i32_0, i32_1, i64_0, i64_1, dn_bd_s, dn_bd_s]
      by_cases h3 : ab_in a3.toInt (0 : Nat) (1 : Nat) = true
      · rw [if_pos h3, if_pos h3]
        obtain ⟨s1, e1, hT1, hM1, f1⟩ := ah_c hW hT hM (by omega)
        obtain ⟨t1, g1, hU1, hN1, hO1, k1⟩ := ah_r hW hU hN (by omega)
        obtain ⟨s2, e2, f2⟩ := cq_hold_loop (x := x) (N := n) (a := a3) (p0 := mv_p m) hW (by omega) (by omega) n 0 2048 s1 m 0 (by omega) (by omega) hT1 hM1 ((f1.1 10 5 (fun q => by unfold SC at q; omega)).trans hM.2.2.1) (by omega)
        obtain ⟨t2, g2, k2⟩ := rq_hold_loop (x := x) (N := n) (a := a3) (p0 := mv_p m) hW (by omega) (by omega) n 0 2048 t1 m 0 (by omega) (by omega) hU1 hN1 hO1 (by omega)
        unfold m_X5_holding
        have h122 : dn_g t1 101 (122 : Int32).toNatClampNeg = mv_p m := hN1.2.2.1
        rw [e1, g1, dn_bd_s, dn_bd_s, show dn_ib 122 1680 = true by decide, dn_ck_t, h122, dn_lt_e]
        have e2' : m_X5_holding_14 10 2048 (nI x) (nI n) a3 0 1 s1 = _ := e2
        have g2' : m_X12_hold_50 2048 (nI x) (nI n) a3 0 (mv_p m) 0 t1 = _ := g2
        rw [e2', g2', dn_bd_s]
        exact ⟨_, s2, t2, rfl, rfl, hR.scr (fr_trans f1 f2) (fr_trans k1 k2)⟩
      · rw [if_neg h3, if_neg h3]
        exact ⟨_, s, t, rfl, rfl, hR⟩
    · rw [if_neg h2, if_neg h2]
      exact ⟨_, s, t, rfl, rfl, hR⟩
  · rw [if_neg h1, if_neg h1]
    exact ⟨_, s, t, rfl, rfl, hR⟩
