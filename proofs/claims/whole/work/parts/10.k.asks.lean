/-! what asks, counts, and what is found and planned -/
theorem rq_name_loop {t : dn_S} {d : Nat} {x w : Int32} (hd : dn_g t 101 0 = nI d) (h1 : d ≤ 104) : ∀ (c i fuel : Nat), i + c = d → c < fuel → m_X12_name_26 fuel x w (nI (ab_lat (fun i => dn_g t 101 (16 + i)) x i)) (nI i) t = m_X12_name_26 1 x w (nI (ab_lat (fun i => dn_g t 101 (16 + i)) x d)) (nI d) t := by
  intro c
  induction c with
  | zero =>
    intro i fuel hi hf
    obtain ⟨n, rfl⟩ : ∃ n, fuel = n + 1 := ⟨fuel - 1, by omega⟩
    obtain rfl : i = d := by omega
    rw [m_X12_name_26, m_X12_name_26]
    try simp (disch := omega) only [nl_0, nl_1, nl_2, nl_3, nl_4, nl_5, nl_6, nl_7, nl_8, nl_9, nl_10, nl_16, nl_17, nl_19, nl_20, nl_21, nl_30, nl_31, nl_32, nl_40, nl_41, nl_48, nl_50, nl_57, nl_60, nl_64, nl_99, nl_100, nl_119, nl_120, nl_121, nl_122, nl_123, nl_124, nl_125, nl_126, nl_130, nl_136, nl_200, nl_240, nl_255, nl_256, nl_257, nl_480, nl_1080, nI_add, nI_mul, nI_sub, cq_ib, nI_clamp, nI_leI, nI_ltI, nI_eq, dn_ck_t, dn_bd_s, dn_wr_e, dn_lt_e, cq_ofNat, hd]
    simp only [Nat.le_refl, if_true]
  | succ c ih =>
    intro i fuel hi hf
    obtain ⟨n, rfl⟩ : ∃ n, fuel = n + 1 := ⟨fuel - 1, by omega⟩
    rw [m_X12_name_26]
    unfold m_X12_name_59
    try simp (disch := omega) only [nl_0, nl_1, nl_2, nl_3, nl_4, nl_5, nl_6, nl_7, nl_8, nl_9, nl_10, nl_16, nl_17, nl_19, nl_20, nl_21, nl_30, nl_31, nl_32, nl_40, nl_41, nl_48, nl_50, nl_57, nl_60, nl_64, nl_99, nl_100, nl_119, nl_120, nl_121, nl_122, nl_123, nl_124, nl_125, nl_126, nl_130, nl_136, nl_200, nl_240, nl_255, nl_256, nl_257, nl_480, nl_1080, nI_add, nI_mul, nI_sub, cq_ib, nI_clamp, nI_leI, nI_ltI, nI_eq, dn_ck_t, dn_bd_s, dn_wr_e, dn_lt_e, cq_ofNat, hd]
    rw [if_neg (by omega), ← ih (i + 1) n (by omega) (by omega), ab_lat]
    by_cases hx : dn_g t 101 (16 + i) = x
    · rw [if_pos hx, if_pos hx]
    · rw [if_neg hx, if_neg hx]
theorem ok_name (a1 a2 : Int32) : Ok Int32 (m_X11_name a1 a2) (m_X12_name a1 a2) := by
  intro s t hR
  obtain ⟨τ, hW, hT, hU, ⟨m, o, hM, hN, -, -, hd, -⟩, hR2⟩ := id hR
  unfold m_X11_name m_X12_name
  rw [cq_isName, rq_isName, dn_bd_s, dn_bd_s]
  by_cases h1 : ab_in a1.toInt (0 : Nat) (4 : Nat) = true
  · rw [if_pos h1, if_pos h1, rq_in, rq_i64, i64_0, i64_2, dn_bd_s, cq_cnt hM (by omega), cq_lat hM (by omega), hT.2.2.1, cq_bar hM (by omega) hW.2.2.1]
    simp only [dn_bd_s]
    by_cases h2 : ab_in a2.toInt (0 : Nat) (2 : Nat) = true
    · obtain ⟨f, _, hf, rfl⟩ := in_split h2
      have hN0 : dn_g t 101 0 = nI (mv_d m) := hN.1
      have e := rq_name_loop (x := a1) (w := nI f) hN0 (by omega) (mv_d m) 0 2048 (by omega) (by omega)
      have elat : ab_lat (fun i => dn_g t 101 (16 + i)) a1 (mv_d m) = ab_lat (mv_N m) a1 (mv_d m) := ab_lat_congr (d := mv_d m) (fun i hi => by have := hN.2.2.2.2.1 i hi; rw [Nat.zero_add] at this; exact this) _ (Nat.le_refl _)
      rw [elat] at e
      have e0 : m_X12_name_26 2048 a1 (nI f) 0 0 t = m_X12_name_26 1 a1 (nI f) (nI (ab_lat (mv_N m) a1 (mv_d m))) (nI (mv_d m)) t := e
      rw [if_pos h2, e0, m_X12_name_26]
      have h00 : dn_g t 101 (0 : Int32).toNatClampNeg = nI (mv_d m) := hN.1
      rw [show dn_ib 0 1680 = true from by decide, dn_ck_t, h00, if_pos (nI_le (Nat.le_refl _) (by omega))]
      have hc := rq_cnt (x := a1) hN (by omega) (by omega)
      have hb := rq_bar (x := a1) hN hU (by omega) (by omega) hW.2.2.1
      rw [show nI 0 = 0 from rfl] at hc hb
      rw [hc, hb]
      simp only [dn_bd_s]
      rcases (show f = 0 ∨ f = 1 ∨ f = 2 by omega) with rfl | rfl | rfl
      · rw [if_pos (show nI 0 = 0 from rfl), if_pos (show nI 0 = 0 from rfl)]
        exact ⟨_, s, t, rfl, rfl, hR⟩
      · rw [if_neg (show ¬ nI 1 = 0 by decide), if_neg (show ¬ nI 1 = 0 by decide), if_pos (show nI 1 = 1 from rfl), if_pos (show nI 1 = 1 from rfl)]
        exact ⟨_, s, t, rfl, rfl, hR⟩
      · rw [if_neg (show ¬ nI 2 = 0 by decide), if_neg (show ¬ nI 2 = 0 by decide), if_neg (show ¬ nI 2 = 1 by decide), if_neg (show ¬ nI 2 = 1 by decide), if_pos (show nI 2 = 2 from rfl)]
        by_cases q : ab_brd τ m a1 = true
        · rw [if_pos q, if_pos q]; exact ⟨_, s, t, rfl, rfl, hR⟩
        · rw [if_neg q, if_neg q]; exact ⟨_, s, t, rfl, rfl, hR⟩
    · rw [if_neg h2]
      have n0 : ¬ a2 = 0 := fun q => h2 (by rw [q]; decide)
      have n1 : ¬ a2 = 1 := fun q => h2 (by rw [q]; decide)
      have n2 : ¬ a2 = 2 := fun q => h2 (by rw [q]; decide)
      rw [if_neg n0, if_neg n1, if_neg n2]
      exact ⟨_, s, t, rfl, rfl, hR⟩
  · rw [if_neg h1, if_neg h1]
    exact ⟨_, s, t, rfl, rfl, hR⟩
/-- whether nobody wants a name, from the bidder b on -/
def ab_nob (τ : Tv) (n : Nat) : Nat → Nat → Bool
  | 0, _ => true
  | c + 1, b => if tv_F τ b (n + 2) = 0 then ab_nob τ n c (b + 1) else false
theorem cq_wanted {s : dn_S} {τ : Tv} {n : Nat} (hW : WT τ) (hT : CT s 3 τ) (hn : n < 5) : ∀ (c b fuel : Nat), b + c = tv_b τ → c < fuel → m_X10_isWanted_2 3 fuel (nI n) (nI b) s = some (!(ab_nob τ n c b), s) := by
  have h4 := hW.1
  intro c
  induction c with
  | zero =>
    intro b fuel hb hf
    obtain ⟨f, rfl⟩ : ∃ f, fuel = f + 1 := ⟨fuel - 1, by omega⟩
    rw [m_X10_isWanted_2, hT.1, if_pos (nI_le (by omega) (by omega))]
    rfl
  | succ c ih =>
    intro b fuel hb hf
    obtain ⟨f, rfl⟩ : ∃ f, fuel = f + 1 := ⟨fuel - 1, by omega⟩
    obtain ⟨v, hv, ev⟩ := hW.2.2.2.1 b (by omega) n hn
    rw [m_X10_isWanted_2, hT.1, if_neg (nI_ge (by omega) (by omega)), cq_worth hT (by omega) hn h4, dn_bd_s, ab_nob, ev]
    try simp (disch := omega) only [nl_0, nl_1, nl_2, nl_3, nl_4, nl_5, nl_6, nl_7, nl_8, nl_9, nl_10, nl_16, nl_17, nl_19, nl_20, nl_21, nl_30, nl_31, nl_32, nl_40, nl_41, nl_48, nl_50, nl_57, nl_60, nl_64, nl_99, nl_100, nl_119, nl_120, nl_121, nl_122, nl_123, nl_124, nl_125, nl_126, nl_130, nl_136, nl_200, nl_240, nl_255, nl_256, nl_257, nl_480, nl_1080, nI_add, nI_mul, nI_sub, cq_ib, nI_clamp, nI_leI, nI_ltI, nI_eq, dn_ck_t, dn_bd_s, dn_wr_e, dn_lt_e, cq_ofNat]
    by_cases q : v ≤ 0
    · rw [if_pos q, if_pos (by omega), ih (b + 1) f (by omega) (by omega)]
    · rw [if_neg q, if_neg (by omega)]
      rfl
def ab_nev (τ : Tv) (m : Mv) : Nat → Nat → Int32 → Int32
  | 0, _, x => x
  | c + 1, d, x => ab_nev τ m c (d + 1) (if mv_H m d = 0 ∧ ab_nob τ ((tv_O τ d 4).toNatClampNeg) (tv_b τ) 0 = true then x ||| dn_shl 1 (nI d) else x)
theorem cq_never {s : dn_S} {τ : Tv} {m : Mv} (hW : WT τ) (hT : CT s 3 τ) (hM : CM s 10 τ m) : ∀ (c d fuel : Nat) (x : Int32), d + c = tv_d τ → c < fuel → m_X11_neverDue_4 fuel x (nI d) s = some (ab_nev τ m c d x, s) := by
  have h6 := hW.2.1
  intro c
  induction c with
  | zero =>
    intro d fuel x hd hf
    obtain ⟨f, rfl⟩ : ∃ f, fuel = f + 1 := ⟨fuel - 1, by omega⟩
    rw [m_X11_neverDue_4, hT.2.1, if_pos (nI_le (by omega) (by omega))]
    rfl
  | succ c ih =>
    intro d fuel x hd hf
    obtain ⟨f, rfl⟩ : ∃ f, fuel = f + 1 := ⟨fuel - 1, by omega⟩
    obtain ⟨n, hn, en⟩ := (hW.2.2.2.2 d (by omega)).2.2
    rw [m_X11_neverDue_4, hT.2.1, if_neg (nI_ge (by omega) (by omega)), cq_howIs (by omega), dn_bd_s, hM.2.2.2.2.2 d (by omega), nl_4, cq_ofDebt hT (by omega) h6 (by omega), dn_bd_s, en]
    have e := cq_wanted (n := n) hW hT hn (tv_b τ) 0 2048 (by omega) (by have := hW.1; omega)
    have e' : m_X10_isWanted 3 (nI n) s = some (!(ab_nob τ n (tv_b τ) 0), s) := e
    rw [e', dn_bd_s, ab_nev, en, nI_clamp (by omega)]
    unfold m_X11_neverDue_51
    simp only [dn_lt_e, nl_1, nI_add]
    by_cases q : mv_H m d = 0
    · rw [if_pos q]
      cases hq : ab_nob τ n (tv_b τ) 0
      · rw [if_pos (by decide), if_neg (fun z => by simp at z)]
        exact ih (d + 1) f x (by omega) (by omega)
      · rw [if_neg (by decide), if_pos ⟨q, rfl⟩]
        exact ih (d + 1) f _ (by omega) (by omega)
    · rw [if_neg q, if_neg (fun z => q z.1)]
      exact ih (d + 1) f x (by omega) (by omega)
theorem rq_nob {t : dn_S} {τ : Tv} {n d : Nat} {x : Int32} {K : Int32 → Int32 → dn_S → Option (Int32 × dn_S)} (hW : WT τ) (hT : RT t τ) (hn : n < 5) (hd : d < tv_d τ) (en : tv_O τ d 4 = nI n) : ∀ (c b fuel : Nat) (y : Bool), b + c = tv_b τ → c < fuel →
    m_X12_never_33 K fuel x (nI d) y (nI b) t = K (x ||| (if (y && ab_nob τ n c b) = true then dn_shl 1 (nI d) else 0)) (nI (d + 1)) t := by
  have h4 := hW.1
  have h6 := hW.2.1
  intro c
  induction c with
  | zero =>
    intro b fuel y hb hf
    obtain ⟨f, rfl⟩ : ∃ f, fuel = f + 1 := ⟨fuel - 1, by omega⟩
    rw [m_X12_never_33, hT.1, if_pos (nI_le (by omega) (by omega)), ab_nob]
    unfold m_X12_never_93
    simp only [dn_lt_e, nl_1, nI_add, Bool.and_true]
    cases y
    · rw [if_neg (by decide), if_neg (by decide)]
    · rw [if_pos rfl, if_pos rfl]
  | succ c ih =>
    intro b fuel y hb hf
    obtain ⟨f, rfl⟩ : ∃ f, fuel = f + 1 := ⟨fuel - 1, by omega⟩
    rw [m_X12_never_33, hT.1, if_neg (nI_ge (by omega) (by omega)), ab_nob]
    unfold m_X12_never_73 m_X12_never_74
    cases y
    · rw [if_neg (by decide)]
      simp only [dn_lt_e, nl_1, nI_add, Bool.false_and]
      have := ih (b + 1) f false (by omega) (by omega)
      simp only [Bool.false_and] at this
      exact this
    · rw [if_pos rfl]
      have o4 : dn_g t 106 (5 * d + 4) = nI n := (hT.2.2.2.2 d hd 4 (by omega)).trans en
      try simp (disch := omega) only [nl_0, nl_1, nl_2, nl_3, nl_4, nl_5, nl_6, nl_7, nl_8, nl_9, nl_10, nl_16, nl_17, nl_19, nl_20, nl_21, nl_30, nl_31, nl_32, nl_40, nl_41, nl_48, nl_50, nl_57, nl_60, nl_64, nl_99, nl_100, nl_119, nl_120, nl_121, nl_122, nl_123, nl_124, nl_125, nl_126, nl_130, nl_136, nl_200, nl_240, nl_255, nl_256, nl_257, nl_480, nl_1080, nI_add, nI_mul, nI_sub, cq_ib, nI_clamp, nI_leI, nI_ltI, nI_eq, dn_ck_t, dn_bd_s, dn_wr_e, dn_lt_e, cq_ofNat, o4]
      rw [(hT.2.2.2.1 b (by omega)).2.2 n hn]
      by_cases q : tv_F τ b (n + 2) = nI 0
      · rw [if_pos q, if_pos q]
        exact ih (b + 1) f true (by omega) (by omega)
      · rw [if_neg q, if_neg q]
        have := ih (b + 1) f false (by omega) (by omega)
        simp only [Bool.false_and] at this
        simp only [Bool.and_false]
        exact this
theorem i32_or0 (x : Int32) : x ||| 0 = x := by simp
theorem rq_never {t : dn_S} {τ : Tv} {m : Mv} (hW : WT τ) (hT : RT t τ) (hM : RM t 0 τ m) : ∀ (c d fuel : Nat) (x : Int32), d + c = tv_d τ → c < fuel → m_X12_never_4 fuel x (nI d) t = some (ab_nev τ m c d x, t) := by
  have h6 := hW.2.1
  intro c
  induction c with
  | zero =>
    intro d fuel x hd hf
    obtain ⟨f, rfl⟩ : ∃ f, fuel = f + 1 := ⟨fuel - 1, by omega⟩
    rw [m_X12_never_4, hT.2.1, if_pos (nI_le (by omega) (by omega))]
    rfl
  | succ c ih =>
    intro d fuel x hd hf
    obtain ⟨f, rfl⟩ : ∃ f, fuel = f + 1 := ⟨fuel - 1, by omega⟩
    obtain ⟨n, hn, en⟩ := (hW.2.2.2.2 d (by omega)).2.2
    have hm : dn_g t 101 (10 + d) = mv_H m d := by have := hM.2.2.2.2.2.2 d (by omega); rw [Nat.zero_add] at this; exact this
    rw [m_X12_never_4, hT.2.1, if_neg (nI_ge (by omega) (by omega)), ab_nev, en, nI_clamp (by omega)]
    unfold m_X12_never_29
    rw [nl_10, nI_add, cq_ib (by omega) (by omega), dn_ck_t, nI_clamp (by omega), hm, nl_0]
    have e := fun y => rq_nob (K := m_X12_never_4 f) (x := x) hW hT hn (show d < tv_d τ by omega) en (tv_b τ) 0 2048 y (by omega) (by have := hW.1; omega)
    rw [e true, e false]
    by_cases q : mv_H m d = nI 0
    · rw [if_pos q, Bool.true_and]
      by_cases r : ab_nob τ n (tv_b τ) 0 = true
      · rw [if_pos r, if_pos ⟨q, r⟩]
        exact ih (d + 1) f _ (by omega) (by omega)
      · rw [if_neg r, if_neg (fun z => r z.2), i32_or0]
        exact ih (d + 1) f _ (by omega) (by omega)
    · rw [if_neg q, Bool.false_and, if_neg (by decide), i32_or0, if_neg (fun z => q z.1)]
      exact ih (d + 1) f _ (by omega) (by omega)
theorem ok_now (a1 : Int32) : Ok Int32 (m_X11_now a1) (m_X12_now a1) := by
  intro s t hR
  obtain ⟨τ, hW, hT, hU, ⟨m, o, hM, hN, -, -, hd, -⟩, -, -, -, ⟨x, n, -, -, -, hu1, hu2, -⟩, -⟩ := id hR
  unfold m_X11_now m_X12_now
  have c4 := cq_never hW hT hM (tv_d τ) 0 2048 0 (by omega) (by have := hW.2.1; omega)
  have r4 := rq_never hW hU hN (tv_d τ) 0 2048 0 (by omega) (by have := hW.2.1; omega)
  have c4' : m_X11_neverDue s = some (ab_nev τ m (tv_d τ) 0 0, s) := c4
  have r4' : m_X12_never t = some (ab_nev τ m (tv_d τ) 0 0, t) := r4
  rw [rq_in, rq_i64, i64_0, i64_3, dn_bd_s, cq_dfl hM, c4', r4']
  simp only [dn_bd_s]
  by_cases h : ab_in a1.toInt (0 : Nat) (3 : Nat) = true
  · obtain ⟨f, _, hf, rfl⟩ := in_split h
    rw [if_pos h, cq_ib (by omega) (by omega), dn_ck_t, nI_clamp (by omega)]
    rcases (show f = 0 ∨ f = 1 ∨ f = 2 ∨ f = 3 by omega) with rfl | rfl | rfl | rfl
    · rw [if_pos (show nI 0 = 0 from rfl), hM.1, show dn_g t 101 0 = nI (mv_d m) from hN.1]
      exact ⟨_, s, t, rfl, rfl, hR⟩
    · rw [if_neg (show ¬ nI 1 = 0 by decide), if_pos (show nI 1 = 1 from rfl), hM.2.1, show dn_g t 101 1 = mv_k m from hN.2.1]
      exact ⟨_, s, t, rfl, rfl, hR⟩
    · rw [if_neg (show ¬ nI 2 = 0 by decide), if_neg (show ¬ nI 2 = 1 by decide), if_pos (show nI 2 = 2 from rfl), hM.2.2.1, show dn_g t 101 2 = mv_p m from hN.2.2.1]
      exact ⟨_, s, t, rfl, rfl, hR⟩
    · rw [if_neg (show ¬ nI 3 = 0 by decide), if_neg (show ¬ nI 3 = 1 by decide), if_neg (show ¬ nI 3 = 2 by decide), if_pos (show nI 3 = 3 from rfl), show dn_g t 101 3 = nI (ab_df (mv_H m) 6 0) from hN.2.2.2.1]
      exact ⟨_, s, t, rfl, rfl, hR⟩
  · have n0 : ¬ a1 = 0 := fun q => h (by rw [q]; decide)
    have n1 : ¬ a1 = 1 := fun q => h (by rw [q]; decide)
    have n2 : ¬ a1 = 2 := fun q => h (by rw [q]; decide)
    have n3 : ¬ a1 = 3 := fun q => h (by rw [q]; decide)
    rw [if_neg h, if_neg n0, if_neg n1, if_neg n2, if_neg n3, hu1, hu2]
    by_cases q4 : a1 = 4
    · rw [if_pos q4, if_pos q4]; exact ⟨_, s, t, rfl, rfl, hR⟩
    · rw [if_neg q4, if_neg q4]
      by_cases q5 : a1 = 5
      · rw [if_pos q5, if_pos q5]; exact ⟨_, s, t, rfl, rfl, hR⟩
      · rw [if_neg q5, if_neg q5]; exact ⟨_, s, t, rfl, rfl, hR⟩
theorem ok_count (a1 : Int32) : Ok Int32 (m_X11_count a1) (m_X12_count a1) := by
  intro s t hR
  obtain ⟨τ, hW, hT, hU, hX, ⟨n1, -, a2, a3, -⟩, ⟨n2, -, b2, b3, -⟩, ⟨n3, -, c2, c3, -⟩, -⟩ := id hR
  unfold m_X11_count m_X12_count
  rw [hT.1, hT.2.1, hT.2.2.1, hU.1, hU.2.1, hU.2.2.1, a2, a3, b2, b3, c2, c3]
  by_cases q0 : a1 = 0
  · rw [if_pos q0, if_pos q0]; exact ⟨_, s, t, rfl, rfl, hR⟩
  rw [if_neg q0, if_neg q0]
  by_cases q1 : a1 = 1
  · rw [if_pos q1, if_pos q1]; exact ⟨_, s, t, rfl, rfl, hR⟩
  rw [if_neg q1, if_neg q1]
  by_cases q2 : a1 = 2
  · rw [if_pos q2, if_pos q2]; exact ⟨_, s, t, rfl, rfl, hR⟩
  rw [if_neg q2, if_neg q2]
  by_cases q3 : a1 = 3
  · rw [if_pos q3, if_pos q3]; exact ⟨_, s, t, rfl, rfl, hR⟩
  rw [if_neg q3, if_neg q3]
  by_cases q4 : a1 = 4
  · rw [if_pos q4, if_pos q4]; exact ⟨_, s, t, rfl, rfl, hR⟩
  rw [if_neg q4, if_neg q4]
  by_cases q5 : a1 = 5
  · rw [if_pos q5, if_pos q5]; exact ⟨_, s, t, rfl, rfl, hR⟩
  rw [if_neg q5, if_neg q5]
  exact ⟨_, s, t, rfl, rfl, hR⟩
theorem ok_trace : Ok Int64 m_X11_trace m_X12_trace := by
  intro s t hR
  have h := hR
  obtain ⟨τ, -, -, -, -, -, -, -, -, -, hl⟩ := h
  exact ⟨dn_l s, s, t, rfl, by unfold m_X12_trace; rw [hl], hR⟩
