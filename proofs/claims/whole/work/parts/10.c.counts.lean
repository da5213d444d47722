/-! counts over the days of a moment; defaults; what stays as it was -/
theorem dn_bt : dn_b true = nI 1 := rfl
theorem dn_bf : dn_b false = nI 0 := rfl
def ab_cnt (N : Nat → Int32) (x : Int32) : Nat → Nat → Nat
  | 0, _ => 0
  | c + 1, i => (if N i = x then 1 else 0) + ab_cnt N x c (i + 1)
def ab_lat (N : Nat → Int32) (x : Int32) : Nat → Nat
  | 0 => 0
  | i + 1 => if N i = x then i + 1 else ab_lat N x i
theorem ab_cnt_congr {N N' : Nat → Int32} {d : Nat} {x : Int32} (h : ∀ i, i < d → N i = N' i) : ∀ c i, i + c ≤ d → ab_cnt N x c i = ab_cnt N' x c i := by
  intro c
  induction c with
  | zero => intro i _; rfl
  | succ c ih =>
    intro i hi
    rw [ab_cnt, ab_cnt, h i (by omega), ih (i + 1) (by omega)]
theorem ab_lat_congr {N N' : Nat → Int32} {d : Nat} {x : Int32} (h : ∀ i, i < d → N i = N' i) : ∀ i, i ≤ d → ab_lat N x i = ab_lat N' x i := by
  intro i
  induction i with
  | zero => intro _; rfl
  | succ i ih =>
    intro hi
    rw [ab_lat, ab_lat, h i (by omega), ih (by omega)]
theorem ab_df_congr {H H' : Nat → Int32} {d : Nat} (h : ∀ i, i < d → H i = H' i) : ∀ c i, i + c ≤ d → ab_df H c i = ab_df H' c i := by
  intro c
  induction c with
  | zero => intro i _; rfl
  | succ c ih =>
    intro i hi
    rw [ab_df, ab_df, h i (by omega), ih (i + 1) (by omega)]
theorem ab_lat_le (N : Nat → Int32) (x : Int32) : ∀ i, ab_lat N x i ≤ i := by
  intro i
  induction i with
  | zero => exact Nat.le_refl _
  | succ i ih =>
    rw [ab_lat]
    split <;> omega
theorem cq_cnt_loop {s : dn_S} {k d : Nat} {x : Int32} (hd : dn_g s k 3 = nI d) (h1 : d ≤ 100) : ∀ (c i a fuel : Nat), i + c = d → c < fuel → m_X3_daysCalled_4 k fuel x (nI a) (nI (i + 1)) s = some (nI (a + ab_cnt (fun i => dn_g s (k + 1) i) x c i), s) := by
  intro c
  induction c with
  | zero =>
    intro i a fuel hi hf
    obtain ⟨n, rfl⟩ : ∃ n, fuel = n + 1 := ⟨fuel - 1, by omega⟩
    rw [m_X3_daysCalled_4, hd]
    try simp (disch := omega) only [nl_0, nl_1, nl_2, nl_3, nl_4, nl_5, nl_6, nl_7, nl_8, nl_9, nl_10, nl_16, nl_17, nl_19, nl_20, nl_21, nl_30, nl_31, nl_32, nl_40, nl_41, nl_48, nl_50, nl_57, nl_60, nl_64, nl_99, nl_100, nl_119, nl_120, nl_121, nl_122, nl_123, nl_124, nl_125, nl_126, nl_130, nl_136, nl_200, nl_240, nl_255, nl_256, nl_257, nl_480, nl_1080, nI_add, nI_mul, nI_sub, cq_ib, nI_clamp, nI_leI, nI_ltI, nI_eq, dn_ck_t, dn_bd_s, dn_wr_e, dn_lt_e, cq_ofNat]
    rw [if_pos (by omega)]
    rfl
  | succ c ih =>
    intro i a fuel hi hf
    obtain ⟨n, rfl⟩ : ∃ n, fuel = n + 1 := ⟨fuel - 1, by omega⟩
    rw [m_X3_daysCalled_4, hd]
    unfold m_X3_nameOfDay m_X3_daysCalled_24
    try simp (disch := omega) only [nl_0, nl_1, nl_2, nl_3, nl_4, nl_5, nl_6, nl_7, nl_8, nl_9, nl_10, nl_16, nl_17, nl_19, nl_20, nl_21, nl_30, nl_31, nl_32, nl_40, nl_41, nl_48, nl_50, nl_57, nl_60, nl_64, nl_99, nl_100, nl_119, nl_120, nl_121, nl_122, nl_123, nl_124, nl_125, nl_126, nl_130, nl_136, nl_200, nl_240, nl_255, nl_256, nl_257, nl_480, nl_1080, nI_add, nI_mul, nI_sub, cq_ib, nI_clamp, nI_leI, nI_ltI, nI_eq, dn_ck_t, dn_bd_s, dn_wr_e, dn_lt_e, cq_ofNat, cq_at_nI, Nat.add_sub_cancel]
    rw [if_neg (by omega), ab_cnt]
    by_cases hx : dn_g s (k + 1) i = x
    · rw [if_pos hx, if_pos hx, ih (i + 1) (a + 1) n (by omega) (by omega), Nat.add_assoc]
    · rw [if_neg hx, if_neg hx, ih (i + 1) a n (by omega) (by omega), Nat.zero_add]
theorem cq_cnt {s : dn_S} {k : Nat} {τ : Tv} {m : Mv} {x : Int32} (hM : CM s k τ m) (h1 : mv_d m ≤ 100) : m_X3_daysCalled k x s = some (nI (ab_cnt (mv_N m) x (mv_d m) 0), s) := by
  unfold m_X3_daysCalled
  rw [nl_0, nl_1, show nI 1 = nI (0 + 1) from rfl, cq_cnt_loop hM.1 h1 (mv_d m) 0 0 2048 (by omega) (by omega), ab_cnt_congr (N' := mv_N m) hM.2.2.2.1 _ _ (by omega), Nat.zero_add]
theorem rq_cnt_loop {t : dn_S} {h d : Nat} {x : Int32} (hd : dn_g t 101 h = nI d) (h0 : h ≤ 1500) (h1 : d ≤ 104) : ∀ (c i a fuel : Nat), i + c = d → c < fuel → m_X12_countOf_5 fuel (nI h) x (nI a) (nI i) t = some (nI (a + ab_cnt (fun i => dn_g t 101 (h + 16 + i)) x c i), t) := by
  intro c
  induction c with
  | zero =>
    intro i a fuel hi hf
    obtain ⟨n, rfl⟩ : ∃ n, fuel = n + 1 := ⟨fuel - 1, by omega⟩
    rw [m_X12_countOf_5]
    try simp (disch := omega) only [nl_0, nl_1, nl_2, nl_3, nl_4, nl_5, nl_6, nl_7, nl_8, nl_9, nl_10, nl_16, nl_17, nl_19, nl_20, nl_21, nl_30, nl_31, nl_32, nl_40, nl_41, nl_48, nl_50, nl_57, nl_60, nl_64, nl_99, nl_100, nl_119, nl_120, nl_121, nl_122, nl_123, nl_124, nl_125, nl_126, nl_130, nl_136, nl_200, nl_240, nl_255, nl_256, nl_257, nl_480, nl_1080, nI_add, nI_mul, nI_sub, cq_ib, nI_clamp, nI_leI, nI_ltI, nI_eq, dn_ck_t, dn_bd_s, dn_wr_e, dn_lt_e, cq_ofNat, Nat.add_zero, hd]
    rw [if_pos (by omega)]
    rfl
  | succ c ih =>
    intro i a fuel hi hf
    obtain ⟨n, rfl⟩ : ∃ n, fuel = n + 1 := ⟨fuel - 1, by omega⟩
    rw [m_X12_countOf_5]
    unfold m_X12_countOf_40
    try simp (disch := omega) only [nl_0, nl_1, nl_2, nl_3, nl_4, nl_5, nl_6, nl_7, nl_8, nl_9, nl_10, nl_16, nl_17, nl_19, nl_20, nl_21, nl_30, nl_31, nl_32, nl_40, nl_41, nl_48, nl_50, nl_57, nl_60, nl_64, nl_99, nl_100, nl_119, nl_120, nl_121, nl_122, nl_123, nl_124, nl_125, nl_126, nl_130, nl_136, nl_200, nl_240, nl_255, nl_256, nl_257, nl_480, nl_1080, nI_add, nI_mul, nI_sub, cq_ib, nI_clamp, nI_leI, nI_ltI, nI_eq, dn_ck_t, dn_bd_s, dn_wr_e, dn_lt_e, cq_ofNat, Nat.add_zero, hd, dn_bt, dn_bf]
    rw [if_neg (by omega), ab_cnt]
    by_cases hx : dn_g t 101 (h + 16 + i) = x
    · rw [if_pos hx, if_pos hx, ih (i + 1) (a + 1) n (by omega) (by omega), Nat.add_assoc]
    · rw [if_neg hx, if_neg hx, ih (i + 1) a n (by omega) (by omega), Nat.zero_add]
theorem rq_cnt {t : dn_S} {h : Nat} {τ : Tv} {m : Mv} {x : Int32} (hM : RM t h τ m) (h0 : h ≤ 1500) (h1 : mv_d m ≤ 104) : m_X12_countOf (nI h) x t = some (nI (ab_cnt (mv_N m) x (mv_d m) 0), t) := by
  unfold m_X12_countOf
  rw [nl_0, rq_cnt_loop hM.1 h0 h1 (mv_d m) 0 0 2048 (by omega) (by omega), ab_cnt_congr (N' := mv_N m) hM.2.2.2.2.1 _ _ (by omega), Nat.zero_add]
theorem cq_lat_loop {s : dn_S} {k : Nat} {x : Int32} : ∀ (i fuel : Nat), i ≤ 100 → i < fuel → m_X3_latestCalled_5 k fuel x (nI i) s = some (nI (ab_lat (fun i => dn_g s (k + 1) i) x i), s) := by
  intro i
  induction i with
  | zero =>
    intro fuel hi hf
    obtain ⟨n, rfl⟩ : ∃ n, fuel = n + 1 := ⟨fuel - 1, by omega⟩
    rw [m_X3_latestCalled_5]
    try simp (disch := omega) only [nl_0, nl_1, nl_2, nl_3, nl_4, nl_5, nl_6, nl_7, nl_8, nl_9, nl_10, nl_16, nl_17, nl_19, nl_20, nl_21, nl_30, nl_31, nl_32, nl_40, nl_41, nl_48, nl_50, nl_57, nl_60, nl_64, nl_99, nl_100, nl_119, nl_120, nl_121, nl_122, nl_123, nl_124, nl_125, nl_126, nl_130, nl_136, nl_200, nl_240, nl_255, nl_256, nl_257, nl_480, nl_1080, nI_add, nI_mul, nI_sub, cq_ib, nI_clamp, nI_leI, nI_ltI, nI_eq, dn_ck_t, dn_bd_s, dn_wr_e, dn_lt_e, cq_ofNat]
    rw [if_pos (by omega)]
    rfl
  | succ i ih =>
    intro fuel hi hf
    obtain ⟨n, rfl⟩ : ∃ n, fuel = n + 1 := ⟨fuel - 1, by omega⟩
    rw [m_X3_latestCalled_5]
    unfold m_X3_nameOfDay
    have e : nI (i + 1) + -nI 1 = nI i := by rw [← nI_pred i, Int32.sub_eq_add_neg]; rfl
    try simp (disch := omega) only [nl_0, nl_1, nl_2, nl_3, nl_4, nl_5, nl_6, nl_7, nl_8, nl_9, nl_10, nl_16, nl_17, nl_19, nl_20, nl_21, nl_30, nl_31, nl_32, nl_40, nl_41, nl_48, nl_50, nl_57, nl_60, nl_64, nl_99, nl_100, nl_119, nl_120, nl_121, nl_122, nl_123, nl_124, nl_125, nl_126, nl_130, nl_136, nl_200, nl_240, nl_255, nl_256, nl_257, nl_480, nl_1080, nI_add, nI_mul, nI_sub, cq_ib, nI_clamp, nI_leI, nI_ltI, nI_eq, dn_ck_t, dn_bd_s, dn_wr_e, dn_lt_e, cq_ofNat, cq_at_nI, Nat.add_sub_cancel, e]
    rw [if_neg (by omega), ab_lat]
    by_cases hx : dn_g s (k + 1) i = x
    · rw [if_pos hx, if_pos hx]
    · rw [if_neg hx, if_neg hx, ih n (by omega) (by omega)]
theorem cq_lat {s : dn_S} {k : Nat} {τ : Tv} {m : Mv} {x : Int32} (hM : CM s k τ m) (h1 : mv_d m ≤ 100) : m_X3_latestCalled k x s = some (nI (ab_lat (mv_N m) x (mv_d m)), s) := by
  unfold m_X3_latestCalled
  rw [dn_lt_e, hM.1, cq_lat_loop (mv_d m) 2048 h1 (by omega), ab_lat_congr (N' := mv_N m) hM.2.2.2.1 _ (by omega)]
theorem cq_dfl_loop {s : dn_S} {k : Nat} : ∀ (c i a fuel : Nat), i + c = 6 → c < fuel → m_X3_defaults_4 k fuel (nI a) (nI i) s = some (nI (a + ab_df (fun i => dn_g s (k + 3) i) c i), s) := by
  intro c
  induction c with
  | zero =>
    intro i a fuel hi hf
    obtain ⟨n, rfl⟩ : ∃ n, fuel = n + 1 := ⟨fuel - 1, by omega⟩
    rw [m_X3_defaults_4]
    try simp (disch := omega) only [nl_0, nl_1, nl_2, nl_3, nl_4, nl_5, nl_6, nl_7, nl_8, nl_9, nl_10, nl_16, nl_17, nl_19, nl_20, nl_21, nl_30, nl_31, nl_32, nl_40, nl_41, nl_48, nl_50, nl_57, nl_60, nl_64, nl_99, nl_100, nl_119, nl_120, nl_121, nl_122, nl_123, nl_124, nl_125, nl_126, nl_130, nl_136, nl_200, nl_240, nl_255, nl_256, nl_257, nl_480, nl_1080, nI_add, nI_mul, nI_sub, cq_ib, nI_clamp, nI_leI, nI_ltI, nI_eq, dn_ck_t, dn_bd_s, dn_wr_e, dn_lt_e, cq_ofNat]
    rw [if_pos (by omega)]
    rfl
  | succ c ih =>
    intro i a fuel hi hf
    obtain ⟨n, rfl⟩ : ∃ n, fuel = n + 1 := ⟨fuel - 1, by omega⟩
    rw [m_X3_defaults_4]
    unfold m_X3_defaults_26
    try simp (disch := omega) only [nl_0, nl_1, nl_2, nl_3, nl_4, nl_5, nl_6, nl_7, nl_8, nl_9, nl_10, nl_16, nl_17, nl_19, nl_20, nl_21, nl_30, nl_31, nl_32, nl_40, nl_41, nl_48, nl_50, nl_57, nl_60, nl_64, nl_99, nl_100, nl_119, nl_120, nl_121, nl_122, nl_123, nl_124, nl_125, nl_126, nl_130, nl_136, nl_200, nl_240, nl_255, nl_256, nl_257, nl_480, nl_1080, nI_add, nI_mul, nI_sub, cq_ib, nI_clamp, nI_leI, nI_ltI, nI_eq, dn_ck_t, dn_bd_s, dn_wr_e, dn_lt_e, cq_ofNat]
    rw [if_neg (by omega), ab_df]
    by_cases hx : dn_g s (k + 3) i = nI 2
    · rw [if_pos hx, if_pos hx, ih (i + 1) (a + 1) n (by omega) (by omega), Nat.add_assoc]
    · rw [if_neg hx, if_neg hx, ih (i + 1) a n (by omega) (by omega), Nat.zero_add]
theorem cq_dfl {s : dn_S} {k : Nat} {τ : Tv} {m : Mv} (hM : CM s k τ m) : m_X3_defaults k s = some (nI (ab_df (mv_H m) 6 0), s) := by
  unfold m_X3_defaults
  rw [nl_0, cq_dfl_loop 6 0 0 2048 (by omega) (by omega), ab_df_congr (H' := mv_H m) hM.2.2.2.2.2 _ _ (by omega), Nat.zero_add]
/-- what stays: all but P -/
def fr (P : Nat → Nat → Prop) (s s' : dn_S) : Prop := (∀ a j, ¬ P a j → dn_g s' a j = dn_g s a j) ∧ dn_l s' = dn_l s
theorem fr_refl {P : Nat → Nat → Prop} {s : dn_S} : fr P s s := ⟨fun _ _ _ => rfl, rfl⟩
theorem fr_trans {P : Nat → Nat → Prop} {s s' s'' : dn_S} (h : fr P s s') (h' : fr P s' s'') : fr P s s'' := ⟨fun a j q => (h'.1 a j q).trans (h.1 a j q), h'.2.trans h.2⟩
theorem fr_mono {P Q : Nat → Nat → Prop} {s s' : dn_S} (h : fr P s s') (hPQ : ∀ a j, P a j → Q a j) : fr Q s s' := ⟨fun a j q => h.1 a j (fun z => q (hPQ a j z)), h.2⟩
theorem fr_p {P : Nat → Nat → Prop} {s : dn_S} {k j : Nat} {v : Int32} (h : P k j) : fr P s (dn_p s k j v) := ⟨fun a b q => by rw [dn_g_p, if_neg (fun z => q (by rw [z.1, z.2]; exact h))], rfl⟩
theorem CT.fr {P : Nat → Nat → Prop} {s s' : dn_S} {k : Nat} {τ : Tv} (h : CT s k τ) (hf : fr P s s') (hP : ∀ a j, P a j → a < k ∨ k + 2 < a) : CT s' k τ := by
  have e : ∀ a j, k ≤ a → a ≤ k + 2 → dn_g s' a j = dn_g s a j := fun a j h1 h2 => hf.1 a j (fun q => by have := hP a j q; omega)
  exact ⟨by rw [e k _ (by omega) (by omega)]; exact h.1, by rw [e k _ (by omega) (by omega)]; exact h.2.1, by rw [e k _ (by omega) (by omega)]; exact h.2.2.1,
    fun b hb f hf => by rw [e (k + 1) _ (by omega) (by omega)]; exact h.2.2.2.1 b hb f hf, fun d hd j hj => by rw [e (k + 2) _ (by omega) (by omega)]; exact h.2.2.2.2 d hd j hj⟩
theorem CM.fr {P : Nat → Nat → Prop} {s s' : dn_S} {k : Nat} {τ : Tv} {m : Mv} (h : CM s k τ m) (hf : fr P s s') (hP : ∀ a j, P a j → a < k ∨ k + 3 < a) : CM s' k τ m := by
  have e : ∀ a j, k ≤ a → a ≤ k + 3 → dn_g s' a j = dn_g s a j := fun a j h1 h2 => hf.1 a j (fun q => by have := hP a j q; omega)
  exact ⟨by rw [e k _ (by omega) (by omega)]; exact h.1, by rw [e k _ (by omega) (by omega)]; exact h.2.1, by rw [e k _ (by omega) (by omega)]; exact h.2.2.1,
    fun i hi => by rw [e (k + 1) _ (by omega) (by omega)]; exact h.2.2.2.1 i hi, fun b hb => by rw [e (k + 2) _ (by omega) (by omega)]; exact h.2.2.2.2.1 b hb,
    fun j hj => by rw [e (k + 3) _ (by omega) (by omega)]; exact h.2.2.2.2.2 j hj⟩
theorem RT.fr {P : Nat → Nat → Prop} {t t' : dn_S} {τ : Tv} (h : RT t τ) (hf : fr P t t') (hP : ∀ a j, P a j → a = 101 ∨ 106 < a ∨ (a = 100 ∧ 9 ≤ j)) : RT t' τ := by
  have e : ∀ a j, 100 ≤ a → a ≤ 106 → a ≠ 101 → (a = 100 → j < 9) → dn_g t' a j = dn_g t a j := fun a j h1 h2 h3 h4 => hf.1 a j (fun q => by have := hP a j q; omega)
  exact ⟨by rw [e 100 _ (by omega) (by omega) (by omega) (by omega)]; exact h.1, by rw [e 100 _ (by omega) (by omega) (by omega) (by omega)]; exact h.2.1, by rw [e 100 _ (by omega) (by omega) (by omega) (by omega)]; exact h.2.2.1,
    fun b hb => ⟨by rw [e 103 _ (by omega) (by omega) (by omega) (by omega)]; exact (h.2.2.2.1 b hb).1, by rw [e 104 _ (by omega) (by omega) (by omega) (by omega)]; exact (h.2.2.2.1 b hb).2.1, fun n hn => by rw [e 105 _ (by omega) (by omega) (by omega) (by omega)]; exact (h.2.2.2.1 b hb).2.2 n hn⟩,
    fun d hd j hj => by rw [e 106 _ (by omega) (by omega) (by omega) (by omega)]; exact h.2.2.2.2 d hd j hj⟩
theorem RM.fr {P : Nat → Nat → Prop} {t t' : dn_S} {h : Nat} {τ : Tv} {m : Mv} (hM : RM t h τ m) (hf : fr P t t') (hd : mv_d m ≤ 104) (hb4 : tv_b τ ≤ 4) (hP : ∀ a j, P a j → a ≠ 101 ∨ j < h ∨ h + 120 ≤ j) : RM t' h τ m := by
  have e : ∀ j, h ≤ j → j < h + 120 → dn_g t' 101 j = dn_g t 101 j := fun j h1 h2 => hf.1 101 j (fun q => by have := hP 101 j q; omega)
  exact ⟨by rw [e _ (by omega) (by omega)]; exact hM.1, by rw [e _ (by omega) (by omega)]; exact hM.2.1, by rw [e _ (by omega) (by omega)]; exact hM.2.2.1, by rw [e _ (by omega) (by omega)]; exact hM.2.2.2.1,
    fun i hi => by rw [e _ (by omega) (by omega)]; exact hM.2.2.2.2.1 i hi, fun b hb => by rw [e _ (by omega) (by omega)]; exact hM.2.2.2.2.2.1 b hb, fun j hj => by rw [e _ (by omega) (by omega)]; exact hM.2.2.2.2.2.2 j hj⟩
theorem RO.fr {P : Nat → Nat → Prop} {t t' : dn_S} {h : Nat} {o : Int32 × Int32} (hO : RO t h o) (hf : fr P t t') (hP : ∀ a j, P a j → a ≠ 101 ∨ j < h ∨ h + 120 ≤ j) : RO t' h o := by
  have e : ∀ j, h ≤ j → j < h + 120 → dn_g t' 101 j = dn_g t 101 j := fun j h1 h2 => hf.1 101 j (fun q => by have := hP 101 j q; omega)
  exact ⟨by rw [e _ (by omega) (by omega)]; exact hO.1, fun q => by rw [e _ (by omega) (by omega)]; exact hO.2 q⟩
theorem CO.fr {P : Nat → Nat → Prop} {s s' : dn_S} {k : Nat} {o : Int32 × Int32} (hO : CO s k o) (hf : fr P s s') (hP : ∀ a j, P a j → a ≠ k) : CO s' k o :=
  ⟨by rw [hf.1 k 6 (fun q => hP _ _ q rfl)]; exact hO.1, by rw [hf.1 k 7 (fun q => hP _ _ q rfl)]; exact hO.2⟩
