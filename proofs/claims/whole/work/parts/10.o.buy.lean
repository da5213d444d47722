/-! nights ahead in pieces; what a name costs -/
theorem ah_open {s : dn_S} {τ : Tv} {m : Mv} (hW : WT τ) (hT : CT s 3 τ) (hM : CM s 19 τ m) (hd : mv_d m ≤ 100) :
    ∃ s1, m_X4_open 19 s = some ((), s1) ∧ CT s1 3 τ ∧ CM s1 19 τ m ∧ (∀ b, b < 5 → Zc s1 b (ab_cw τ m b)) ∧ fr SC s s1 := by
  obtain ⟨s1, e1, z1, f1⟩ := cq_open hW (Or.inr (Nat.le_refl 19)) hT hM hd
  have f' : fr SC s s1 := fr_mono f1 (fun a j q => by rcases q with q | q <;> (unfold SC; omega))
  exact ⟨s1, e1, hT.fr f' (fun a j q => SC_ct q), hM.fr f1 (fun a j q => by rcases q with q | q <;> omega), z1, f'⟩
theorem ah_close {s : dn_S} {τ : Tv} {m : Mv} {cw : Nat → Int32 × Int32} (hW : WT τ) (hT : CT s 3 τ) (hM : CM s 19 τ m) (hd : mv_d m < 100) (hz : ∀ b, b < 5 → Zc s b (cw b)) (h0 : ∀ b, tv_b τ ≤ b → b < 4 → (cw b).1 = 0) :
    ∃ s2, m_X4_close 19 s = some ((ab_ends τ m cw).1, s2) ∧ CT s2 3 τ ∧ CM s2 19 τ (ab_ends τ m cw).2 ∧ dn_g s2 14 2 = (ab_w (ab_c1 cw)).1 ∧ ((ab_w (ab_c1 cw)).1 ≠ -9 → dn_g s2 14 3 = ab_price (ab_c1 cw)) ∧ fr SC s s2 := by
  obtain ⟨s2, e2, c2, w2, p2, f2⟩ := cq_close hW (Or.inr (Nat.le_refl 19)) hT hM hd hz h0
  have f' : fr SC s s2 := fr_mono f2 (fun a j q => PGC_SC (Or.inl q))
  exact ⟨s2, e2, hT.fr f' (fun a j q => SC_ct q), c2, w2, p2, f'⟩
theorem ah_bids {t : dn_S} {τ : Tv} {m : Mv} {o : Int32 × Int32} (hW : WT τ) (hT : RT t τ) (hM : RM t 120 τ m) (hO : RO t 120 o) (hd : mv_d m ≤ 104) :
    ∃ t', m_X12_bidsOf 120 t = some ((), t') ∧ RT t' τ ∧ RM t' 120 τ m ∧ RO t' 120 o ∧ (∀ b, b < 5 → Zr t' b (ab_cwo τ m o b)) ∧ fr SR t t' := by
  obtain ⟨t', e, z, f⟩ := rq_open hW (h := 120) (by omega) hT hM hO hd
  have hq : ∀ a j, PBr a j → a ≠ 101 ∨ j < 120 ∨ 120 + 120 ≤ j := fun a j q => by rcases q with q | q <;> omega
  have f' : fr SR t t' := fr_mono f (fun a j q => by rcases q with q | q <;> (unfold SR; omega))
  exact ⟨t', e, hT.fr f' (fun a j q => SR_rt q), hM.fr f (by omega) hW.1 hq, hO.fr f hq, z, f'⟩
theorem ah_sells {t : dn_S} {τ : Tv} {m : Mv} {o : Int32 × Int32} {cw : Nat → Int32 × Int32} (hW : WT τ) (hT : RT t τ) (hM : RM t 120 τ m) (hO : RO t 120 o) (hd : mv_d m ≤ 104) (hz : ∀ b, b < 5 → Zr t b (cw b)) :
    ∃ t', m_X12_sells t = some ((), t') ∧ RT t' τ ∧ RM t' 120 τ m ∧ RO t' 120 o ∧ (∀ b, b < 5 → Zr t' b (cw b)) ∧ dn_g t' 100 32 = (ab_w (ab_c1 cw)).1 ∧ dn_g t' 100 34 = (ab_w (ab_c1 cw)).2 ∧ fr SR t t' := by
  have hc : ∀ j, j < 5 → dn_g t 115 j = ab_c1 cw j := fun j hj => (hz j hj).1
  obtain ⟨t', e, a1, b1, -, f⟩ := rq_sells hc
  have hq : ∀ a j, PSR a j → a ≠ 101 ∨ j < 120 ∨ 120 + 120 ≤ j := fun a j q => by have := q.1; omega
  have f' : fr SR t t' := fr_mono f (fun a j q => by unfold PSR at q; unfold SR; omega)
  exact ⟨t', e, hT.fr f' (fun a j q => SR_rt q), hM.fr f (by omega) hW.1 hq, hO.fr f hq, fun b hb => (hz b hb).fr f (fun a j q _ => by have := q.1; omega), a1, b1, f'⟩
theorem ah_ends {t : dn_S} {τ : Tv} {m : Mv} {cw : Nat → Int32 × Int32} (hW : WT τ) (hT : RT t τ) (hM : RM t 120 τ m) (hd : mv_d m < 104) (hz : ∀ b, b < 5 → Zr t b (cw b)) (h0 : ∀ b, tv_b τ ≤ b → b < 4 → (cw b).1 = 0) :
    ∃ t', m_X12_ends 120 t = some ((ab_ends τ m cw).1, t') ∧ RT t' τ ∧ RM t' 120 τ (ab_ends τ m cw).2 ∧ RO t' 120 (-9, 0) ∧ dn_g t' 100 32 = (ab_w (ab_c1 cw)).1 ∧ dn_g t' 100 33 = ab_price (ab_c1 cw) ∧ fr SR t t' := by
  obtain ⟨t', e, z, a1, b1, g4, f⟩ := rq_ends hW (h := 120) (by omega) hT hM hd hz h0
  have f' : fr SR t t' := fr_mono f (fun a j q => by rcases q with q | q <;> (unfold SR; omega))
  exact ⟨t', e, hT.fr f' (fun a j q => SR_rt q), z, ⟨g4, fun q => absurd q (show ¬ ((0 : Int32) < 0) by decide)⟩, a1, b1, f'⟩
def ab_c0 (τ : Tv) (m : Mv) : Nat → Int32 × Int32 := ab_cwo τ m (-9, 0)
theorem ab_nt_c (τ : Tv) (m : Mv) : ab_nt τ m = ab_ends τ m (ab_c0 τ m) := rfl
def ab_hi (τ : Tv) (m : Mv) : Int32 := (ab_w (ab_c1 (ab_c0 τ m))).2
def ab_bp (τ : Tv) (m : Mv) (x : Int32) : Int32 := if (ab_nt τ m).1 = x then 0 else ab_hi τ m + 1
def ab_bs (τ : Tv) (m : Mv) (x i : Int32) (z : Int32 × Int32) : Int32 × Int32 := if ab_brd τ m x = false ∧ ab_bp τ m x < z.2 then (i, ab_bp τ m x) else z
def ab_bu (τ : Tv) (x : Int32) : Nat → Nat → Mv → Int32 × Int32 → Int32 × Int32
  | 0, _, _, z => z
  | c + 1, i, m, z => ab_bu τ x c (i + 1) (ab_nt τ m).2 (ab_bs τ m x (nI (i + 1)) z)
def ab_ba (a : Int32) (z : Int32 × Int32) : Int32 := if z.1 = -9 then -9 else if a = 0 then z.1 else z.2
theorem ab_ends_1 (τ : Tv) (m : Mv) (cw : Nat → Int32 × Int32) : (ab_ends τ m cw).1 = if (ab_w (ab_c1 cw)).1 = -9 then -5 else ab_x cw := by
  unfold ab_ends
  by_cases h : (ab_w (ab_c1 cw)).1 = -9
  · rw [if_pos h, if_pos h]
  · rw [if_neg h, if_neg h]
theorem nI_n9 {n : Nat} (h : n < 1000) : nI n ≠ -9 := fun q => by
  have := congrArg Int32.toInt q
  rw [nI_toInt (by omega)] at this
  rw [show (-9 : Int32).toInt = -9 by decide] at this
  omega
theorem nI_n5 {n : Nat} (h : n < 1000) : (-5 : Int32) ≠ nI n := fun q => by
  have := congrArg Int32.toInt q
  rw [nI_toInt (by omega)] at this
  rw [show (-5 : Int32).toInt = -5 by decide] at this
  omega
theorem rq_77 {K : Int32 → Int32 → Int32 → Int32 → Int32 → Int32 → dn_S → Option (Int32 × dn_S)} {y2 y3 y4 y5 y6 : Int32} {z0 : Bool} {t : dn_S} {τ : Tv} {m : Mv} {x : Nat} (hx : x < 5)
    (hz : ∀ b, b < 5 → Zr t b (ab_c0 τ m b)) (h1 : dn_g t 100 32 = (ab_w (ab_c1 (ab_c0 τ m))).1) (h2 : dn_g t 100 34 = ab_hi τ m) :
    m_X12_buy_77 K (nI x) y2 y3 y4 y5 y6 z0 t = m_X12_buy_111 K (nI x) y2 y3 y4 y5 y6 z0 (ab_bp τ m (nI x)) t := by
  unfold m_X12_buy_77 m_X12_buy_105 ab_bp
  rw [ab_nt_c, ab_ends_1, h1, h2]
  rcases ab_w_ok (ab_c1 (ab_c0 τ m)) with ⟨q1, q2⟩ | ⟨i, hi, q1, q2, q3⟩
  · rw [if_pos q1, if_pos q1, if_neg (nI_n5 (by omega))]
  · have hn : (ab_w (ab_c1 (ab_c0 τ m))).1 ≠ -9 := by rw [q1]; exact nI_n9 (by omega)
    rw [if_neg hn, if_neg hn]
    have hx' : ab_x (ab_c0 τ m) = (ab_c0 τ m i).2 := by unfold ab_x ab_wi; rw [q1, nI_clamp (by omega)]
    rw [hx', q1, cq_ib hi (by omega), dn_ck_t, nI_clamp (by omega), (hz i hi).2 q3]
    by_cases r : (ab_c0 τ m i).2 = nI x
    · rw [if_pos r, if_pos r]
    · rw [if_neg r, if_neg r]
theorem rq_111 {K : Int32 → Int32 → Int32 → Int32 → Int32 → Int32 → dn_S → Option (Int32 × dn_S)} {y1 y2 y3 y6 p : Int32} {z : Int32 × Int32} {z0 : Bool} {t : dn_S} :
    m_X12_buy_111 K y1 y2 y3 z.1 z.2 y6 z0 p t = m_X12_buy_153 K y1 y2 y3 (if z0 = true ∧ p < z.2 then (y6, p) else z).1 y6 (if z0 = true ∧ p < z.2 then (y6, p) else z).2 t := by
  unfold m_X12_buy_111 m_X12_buy_130 m_X12_buy_132 m_X12_buy_151
  by_cases h : z0 = true
  · by_cases q : z.2 ≤ p
    · rw [show (if z0 = true ∧ p < z.2 then (y6, p) else z) = z from if_neg (fun r => i32_nlt q r.2), if_pos h, if_pos q, if_pos h, if_pos q]
    · rw [show (if z0 = true ∧ p < z.2 then (y6, p) else z) = (y6, p) from if_pos ⟨h, i32_nle q⟩, if_pos h, if_neg q, if_pos h, if_neg q]
  · rw [show (if z0 = true ∧ p < z.2 then (y6, p) else z) = z from if_neg (fun r => h r.1), if_neg h, if_neg h]
theorem rq_buy_loop {τ : Tv} {N x : Nat} {a : Int32} (hW : WT τ) (hx : x < 5) (hN : N ≤ 10) : ∀ (c i fuel : Nat) (t : dn_S) (m : Mv) (z : Int32 × Int32), i + c = N → c < fuel → RT t τ → RM t 120 τ m → RO t 120 (-9, 0) → mv_d m + c ≤ 100 →
    ∃ t', m_X12_buy_46 fuel (nI x) (nI N) a z.1 z.2 (nI (i + 1)) t = some (ab_ba a (ab_bu τ (nI x) c i m z), t') ∧ fr SR t t' := by
  intro c
  induction c with
  | zero =>
    intro i fuel t m z hi hf hT hM hO hd
    obtain ⟨n, rfl⟩ : ∃ n, fuel = n + 1 := ⟨fuel - 1, by omega⟩
    rw [m_X12_buy_46, if_pos (show nI N < nI (i + 1) from nI_lt (by omega) (by omega)), ab_bu]
    unfold m_X12_buy_179 ab_ba
    by_cases q : z.1 = -9
    · rw [if_pos q, if_pos q, q]
      exact ⟨t, rfl, fr_refl⟩
    · rw [if_neg q, if_neg q]
      by_cases r : a = 0
      · rw [if_pos r, if_pos r]
        exact ⟨t, rfl, fr_refl⟩
      · rw [if_neg r, if_neg r]
        exact ⟨t, rfl, fr_refl⟩
  | succ c ih =>
    intro i fuel t m z hi hf hT hM hO hd
    obtain ⟨n, rfl⟩ : ∃ n, fuel = n + 1 := ⟨fuel - 1, by omega⟩
    obtain ⟨t1, e1, hT1, hM1, hO1, hz1, f1⟩ := ah_bids hW hT hM hO (by omega)
    obtain ⟨t2, e2, hT2, hM2, hO2, hz2, w2, p2, f2⟩ := ah_sells hW hT1 hM1 hO1 (by omega) hz1
    obtain ⟨t3, e3, hT3, hM3, hO3, f3⟩ := ah_gr hW hT2 hM2 hO2 (by omega)
    have hd3 := ab_nt_d τ m
    obtain ⟨t4, e4, f4⟩ := ih (i + 1) n t3 (ab_nt τ m).2 (ab_bs τ m (nI x) (nI (i + 1)) z) (by omega) (by omega) hT3 hM3 hO3 (by omega)
    refine ⟨t4, ?_, fr_trans f1 (fr_trans f2 (fr_trans f3 f4))⟩
    rw [m_X12_buy_46, if_neg (show ¬ nI N < nI (i + 1) from nI_nlt (by omega) (by omega)), e1, dn_bd_s, e2, dn_bd_s, nl_120, rq_bar hM2 hT2 (by omega) (by omega) hW.2.2.1, dn_bd_s, ab_bu]
    have key : ∀ z0 : Bool, z0 = (!ab_brd τ m (nI x)) → m_X12_buy_77 (m_X12_buy_46 n) (nI x) (nI N) a z.1 z.2 (nI (i + 1)) z0 t2 = some (ab_ba a (ab_bu τ (nI x) c (i + 1) (ab_nt τ m).2 (ab_bs τ m (nI x) (nI (i + 1)) z)), t4) := by
      intro z0 hz0
      rw [rq_77 hx hz2 w2 p2, rq_111]
      have hb : (if z0 = true ∧ ab_bp τ m (nI x) < z.2 then (nI (i + 1), ab_bp τ m (nI x)) else z) = ab_bs τ m (nI x) (nI (i + 1)) z := by
        unfold ab_bs
        rw [hz0]
        cases ab_brd τ m (nI x) <;> simp
      rw [hb]
      unfold m_X12_buy_153
      rw [e3, dn_bd_s, dn_lt_e, nl_1, nI_add]
      exact e4
    by_cases q : ab_brd τ m (nI x) = true
    · rw [if_pos q]; exact key false (by rw [q]; rfl)
    · rw [if_neg q]; exact key true (by simp at q; rw [q]; rfl)
def ab_bz (z : Int32 × Int32) : Int32 × Int32 := if z.1 = -9 then (-9, -9) else z
theorem cq_85 {K : Int32 → Int32 → Int32 → Int32 → Int32 → Int32 → dn_S → Option (Int32 × dn_S)} {y2 y3 y4 p : Int32} {i : Nat} {z : Int32 × Int32} {y8 : Bool} {s : dn_S} (hz : (z.1 = -9 ∧ z.2 = 41) ∨ (z.1 ≠ -9 ∧ z.2 ≤ 40)) (hi : i < 1000) :
    m_X5_cheapest_85 10 K y2 y3 y4 (ab_bz z).1 (ab_bz z).2 (nI i) y8 p s = K y2 y3 y4 (ab_bz (if y8 = false ∧ p < z.2 then (nI i, p) else z)).1 (ab_bz (if y8 = false ∧ p < z.2 then (nI i, p) else z)).2 (nI i + 1) s := by
  unfold m_X5_cheapest_85 m_X5_cheapest_116 m_X5_cheapest_124
  simp only [dn_lt_e]
  by_cases h : y8 = true
  · rw [if_pos h, if_neg (fun r => by rw [h] at r; exact absurd r.1 (by decide))]
  · have h' : y8 = false := by simpa using h
    rw [if_neg h]
    rcases hz with ⟨q1, q2⟩ | ⟨q1, q2⟩
    · have hp : p < 41 ↔ p ≤ 40 := by
        rw [Int32.lt_iff_toInt_lt, Int32.le_iff_toInt_le, show (41 : Int32).toInt = 41 by decide, show (40 : Int32).toInt = 40 by decide]; omega
      have e : ab_bz z = (-9, -9) := by unfold ab_bz; rw [if_pos q1]
      by_cases q : p ≤ 40
      · rw [if_pos q, e, if_pos rfl, if_pos ⟨h', by rw [q2]; exact hp.mpr q⟩]
        unfold ab_bz
        rw [if_neg (nI_n9 hi)]
      · rw [if_neg q, if_neg (fun r => q (hp.mp (by rw [← q2]; exact r.2)))]
    · have e : ab_bz z = z := by unfold ab_bz; rw [if_neg q1]
      rw [e]
      by_cases q : p ≤ 40
      · rw [if_pos q, if_neg q1]
        by_cases r : z.2 ≤ p
        · rw [if_pos r, if_neg (fun r' => i32_nlt r r'.2), e]
        · rw [if_neg r, if_pos ⟨h', i32_nle r⟩]
          unfold ab_bz
          rw [if_neg (nI_n9 hi)]
      · rw [if_neg q, if_neg (fun r => q (Int32.le_of_lt (Int32.lt_of_lt_of_le r.2 q2))), e]
def ab_bk (z : Int32 × Int32) : Prop := (z.1 = -9 ∧ z.2 = 41) ∨ (z.1 ≠ -9 ∧ z.2 ≤ 40)
theorem ab_bk_step {z : Int32 × Int32} {p : Int32} {i : Nat} (hz : ab_bk z) (hi : i < 1000) (q : p < z.2) : ab_bk (nI i, p) := by
  refine Or.inr ⟨nI_n9 hi, ?_⟩
  rw [Int32.lt_iff_toInt_lt] at q
  show p ≤ 40
  rw [Int32.le_iff_toInt_le, show (40 : Int32).toInt = 40 by decide]
  rcases hz with ⟨_, r⟩ | ⟨_, r⟩
  · rw [r, show (41 : Int32).toInt = 41 by decide] at q
    omega
  · rw [Int32.le_iff_toInt_le, show (40 : Int32).toInt = 40 by decide] at r
    omega
theorem ab_bs_ok {τ : Tv} {m : Mv} {x : Int32} {i : Nat} {z : Int32 × Int32} (hz : ab_bk z) (hi : i < 1000) : ab_bk (ab_bs τ m x (nI i) z) := by
  unfold ab_bs
  generalize ab_bp τ m x = p
  by_cases q : ab_brd τ m x = false ∧ p < z.2
  · rw [if_pos q]; exact ab_bk_step hz hi q.2
  · rw [if_neg q]; exact hz
theorem cq_buy_loop {τ : Tv} {N x : Nat} {a : Int32} (hW : WT τ) (hx : x < 5) (hN : N ≤ 10) : ∀ (c i fuel : Nat) (s : dn_S) (m : Mv) (z : Int32 × Int32), i + c = N → c < fuel → CT s 3 τ → CM s 19 τ m → mv_d m + c ≤ 100 → ab_bk z →
    ∃ s', m_X5_cheapest_19 10 fuel (nI x) (nI N) a (ab_bz z).1 (ab_bz z).2 (nI (i + 1)) s = some (ab_ba a (ab_bu τ (nI x) c i m z), s') ∧ fr SC s s' := by
  intro c
  induction c with
  | zero =>
    intro i fuel s m z hi hf hT hM hd hz
    obtain ⟨n, rfl⟩ : ∃ n, fuel = n + 1 := ⟨fuel - 1, by omega⟩
    rw [m_X5_cheapest_19, if_pos (show nI N < nI (i + 1) from nI_lt (by omega) (by omega)), ab_bu]
    refine ⟨s, ?_, fr_refl⟩
    unfold ab_ba ab_bz
    by_cases q : z.1 = -9
    · rw [if_pos q, if_pos q]
      split <;> rfl
    · rw [if_neg q, if_neg q]
      split <;> rfl
  | succ c ih =>
    intro i fuel s m z hi hf hT hM hd hz
    obtain ⟨n, rfl⟩ : ∃ n, fuel = n + 1 := ⟨fuel - 1, by omega⟩
    obtain ⟨s1, e1, hT1, hM1, hz1, f1⟩ := ah_open hW hT hM (by omega)
    have hz1' := cq_cwo hW (-9) hz1
    obtain ⟨s2, e2, hT2, hM2, -, -, f2⟩ := ah_close hW hT1 hM1 (by omega) hz1' (ab_cwo_0 τ m (-9, 0))
    have hd3 := ab_nt_d τ m
    have hz3 := ab_bs_ok (τ := τ) (m := m) (x := nI x) (i := i + 1) hz (by omega)
    obtain ⟨s4, e4, f4⟩ := ih (i + 1) n s2 (ab_nt τ m).2 (ab_bs τ m (nI x) (nI (i + 1)) z) (by omega) (by omega) hT2 hM2 (by omega) hz3
    refine ⟨s4, ?_, fr_trans f1 (fr_trans f2 f4)⟩
    rw [m_X5_cheapest_19, if_neg (show ¬ nI N < nI (i + 1) from nI_nlt (by omega) (by omega)), hT.2.2.1, cq_bar hM (by omega) hW.2.2.1, dn_bd_s, e1, dn_bd_s, cq_highest (c := ab_c1 (ab_c0 τ m)) (fun j hj => (hz1' j hj).1), dn_bd_s, dn_lt_e, e2, dn_bd_s]
    have key : (if (ab_ends τ m (ab_cwo τ m (-9, 0))).1 = nI x then m_X5_cheapest_85 10 (m_X5_cheapest_19 10 n) (nI x) (nI N) a (ab_bz z).1 (ab_bz z).2 (nI (i + 1)) (ab_brd τ m (nI x)) 0 s2
        else m_X5_cheapest_85 10 (m_X5_cheapest_19 10 n) (nI x) (nI N) a (ab_bz z).1 (ab_bz z).2 (nI (i + 1)) (ab_brd τ m (nI x)) ((ab_w (ab_c1 (ab_c0 τ m))).2 + 1) s2)
        = m_X5_cheapest_85 10 (m_X5_cheapest_19 10 n) (nI x) (nI N) a (ab_bz z).1 (ab_bz z).2 (nI (i + 1)) (ab_brd τ m (nI x)) (ab_bp τ m (nI x)) s2 := by
      unfold ab_bp ab_hi
      rw [ab_nt_c, ab_c0]
      by_cases q : (ab_ends τ m (ab_cwo τ m (-9, 0))).1 = nI x
      · rw [if_pos q, if_pos q]
      · rw [if_neg q, if_neg q]
    rw [key, cq_85 hz (by omega), ab_bu]
    have : (nI (i + 1) + 1 : Int32) = nI (i + 1 + 1) := by rw [nl_1, nI_add]
    rw [this]
    exact e4
theorem ok_buy (a1 a2 a3 : Int32) : Ok Int32 (m_X11_buy a1 a2 a3) (m_X12_buy a1 a2 a3) := by
  intro s t hR
  obtain ⟨τ, hW, hT, hU, ⟨m, o, hM, hN, -, -, hd, -⟩, hR2⟩ := id hR
  unfold m_X11_buy m_X12_buy
  rw [cq_isName, rq_isName, dn_bd_s, dn_bd_s]
  by_cases h1 : ab_in a1.toInt (0 : Nat) (4 : Nat) = true
  · obtain ⟨x, _, hx, rfl⟩ := in_split h1
    rw [if_pos h1, if_pos h1, cq_within, rq_in, rq_i64, i32_1, i32_10, i64_1, i64_10, dn_bd_s, dn_bd_s]
    by_cases h2 : ab_in a2.toInt (1 : Nat) (10 : Nat) = true
    · obtain ⟨n, _, hn, rfl⟩ := in_split h2
      rw [if_pos h2, if_pos h2, cq_within, rq_in, rq_i64, i32_0, i32_1, i64_0, i64_1, dn_bd_s, dn_bd_s]
      by_cases h3 : ab_in a3.toInt (0 : Nat) (1 : Nat) = true
      · rw [if_pos h3, if_pos h3]
        obtain ⟨s1, e1, hT1, hM1, f1⟩ := ah_c hW hT hM (by omega)
        obtain ⟨t1, g1, hU1, hN1, hO1, k1⟩ := ah_r hW hU hN (by omega)
        obtain ⟨s2, e2, f2⟩ := cq_buy_loop (x := x) (N := n) (a := a3) hW (by omega) hn n 0 2048 s1 m (-9, 41) (by omega) (by omega) hT1 hM1 (by omega) (Or.inl ⟨rfl, rfl⟩)
        obtain ⟨t2, g2, k2⟩ := rq_buy_loop (x := x) (N := n) (a := a3) hW (by omega) hn n 0 2048 t1 m (-9, 41) (by omega) (by omega) hU1 hN1 hO1 (by omega)
        unfold m_X5_cheapest
        rw [e1, g1, dn_bd_s, dn_bd_s]
        have e2' : m_X5_cheapest_19 10 2048 (nI x) (nI n) a3 (-9) (-9) 1 s1 = _ := e2
        have g2' : m_X12_buy_46 2048 (nI x) (nI n) a3 (-9) 41 1 t1 = _ := g2
        rw [e2', g2', dn_bd_s]
        exact ⟨_, s2, t2, rfl, rfl, hR.scr (fr_trans f1 f2) (fr_trans k1 k2)⟩
      · rw [if_neg h3, if_neg h3]
        exact ⟨_, s, t, rfl, rfl, hR⟩
    · rw [if_neg h2, if_neg h2]
      exact ⟨_, s, t, rfl, rfl, hR⟩
  · rw [if_neg h1, if_neg h1]
    exact ⟨_, s, t, rfl, rfl, hR⟩
