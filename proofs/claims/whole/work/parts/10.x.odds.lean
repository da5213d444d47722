/-! chances -/
def ab_mk (m : Mv) (k : Int32) : Mv := (mv_N m, mv_P m, mv_H m, mv_d m, k, mv_p m)
theorem mk_brd (τ : Tv) (m : Mv) (k x : Int32) : ab_brd τ (ab_mk m k) x = ab_brd τ m x := rfl
theorem mk_rs (τ : Tv) (m : Mv) (k : Int32) (b n : Nat) (z : Int32 × Int32) : ab_rs τ (ab_mk m k) b n z = ab_rs τ m b n z := by
  unfold ab_rs
  rw [mk_brd]
  rfl
theorem mk_rz (τ : Tv) (m : Mv) (k : Int32) (b : Nat) : ∀ c n z, ab_rz τ (ab_mk m k) b c n z = ab_rz τ m b c n z := by
  intro c
  induction c with
  | zero => intro n z; rfl
  | succ c ih => intro n z; rw [ab_rz, ab_rz, mk_rs, ih]
theorem mk_c0 (τ : Tv) (m : Mv) (k : Int32) : ab_c0 τ (ab_mk m k) = ab_c0 τ m := by
  funext b
  unfold ab_c0 ab_cwo ab_cw
  rw [mk_rz, mk_brd]
theorem mk_day (τ : Tv) (m : Mv) (k x : Int32) : ab_day τ (ab_mk m k) x = ab_mk (ab_day τ m x) k := rfl
theorem mk_m1 (m : Mv) (k : Int32) (cw : Nat → Int32 × Int32) : ab_m1 (ab_mk m k) cw = ab_mk (ab_m1 m cw) k := by
  unfold ab_m1
  generalize (ab_w (ab_c1 cw)).1 = w
  generalize ab_price (ab_c1 cw) = p
  generalize ab_wi cw = i
  by_cases q : w = 4
  · rw [if_pos q, if_pos q]; rfl
  · rw [if_neg q, if_neg q]; rfl
theorem mk_nt (τ : Tv) (m : Mv) (k : Int32) : ∃ k', (ab_nt τ (ab_mk m k)).2 = ab_mk (ab_nt τ m).2 k' := by
  rw [ab_nt_c, ab_nt_c, mk_c0]
  generalize ab_c0 τ m = cw
  unfold ab_ends
  rw [mk_m1, mk_day]
  generalize ab_day τ (ab_m1 m cw) (ab_x cw) = m2
  generalize ab_x cw = x
  generalize (ab_w (ab_c1 cw)).1 = w
  by_cases q : w = -9
  · rw [if_pos q, if_pos q]; exact ⟨k + 1, rfl⟩
  · rw [if_neg q, if_neg q]; exact ⟨k, rfl⟩
theorem ds_keep {τ : Tv} {x : Int32} {n j d : Nat} {z : PH} (h : z.2 d ≠ 0) : (ab_ds τ x n j z).2 d ≠ 0 := by
  unfold ab_ds
  by_cases q : tv_O τ j 4 = x ∧ tv_O τ j 3 = nI n ∧ z.2 j = 0
  · have hj : d ≠ j := fun e => h (by rw [e]; exact q.2.2)
    have hu : ∀ v, ab_up z.2 j v d ≠ 0 := fun v => by unfold ab_up; rw [if_neg hj]; exact h
    rw [if_pos q]
    by_cases r : tv_O τ j 2 ≤ z.1 (ab_who τ j)
    · rw [if_pos r]; exact hu 1
    · rw [if_neg r]; exact hu 2
  · rw [if_neg q]; exact h
theorem db_keep {τ : Tv} {x : Int32} {n d : Nat} : ∀ c j (z : PH), z.2 d ≠ 0 → (ab_db τ x n c j z).2 d ≠ 0 := by
  intro c
  induction c with
  | zero => intro j z h; exact h
  | succ c ih => intro j z h; rw [ab_db]; exact ih (j + 1) _ (ds_keep h)
theorem mv_H_mk (N P H : Nat → Int32) (d : Nat) (a b : Int32) (j : Nat) : mv_H (N, P, H, d, a, b) j = H j := rfl
theorem day_keep {τ : Tv} {m : Mv} {x : Int32} {d : Nat} (h : mv_H m d ≠ 0) : mv_H (ab_day τ m x) d ≠ 0 := by
  unfold ab_day
  rw [mv_H_mk]
  exact db_keep _ _ _ h
theorem m1_H (m : Mv) (cw : Nat → Int32 × Int32) (d : Nat) : mv_H (ab_m1 m cw) d = mv_H m d := by
  unfold ab_m1
  generalize (ab_w (ab_c1 cw)).1 = w
  by_cases q : w = 4
  · rw [if_pos q, mv_H_mk]
  · rw [if_neg q, mv_H_mk]
theorem nt_keep {τ : Tv} {m : Mv} {d : Nat} (h : mv_H m d ≠ 0) : mv_H (ab_nt τ m).2 d ≠ 0 := by
  rw [ab_nt_c]
  generalize ab_c0 τ m = cw
  unfold ab_ends
  by_cases q : (ab_w (ab_c1 cw)).1 = -9
  · rw [if_pos q]; exact h
  · rw [if_neg q]
    exact day_keep (by rw [m1_H]; exact h)
theorem n_keep {τ : Tv} {d : Nat} : ∀ j m, mv_H m d ≠ 0 → mv_H (ab_n τ j m) d ≠ 0 := by
  intro j
  induction j with
  | zero => intro m h; exact h
  | succ j ih => intro m h; rw [ab_n_s]; exact ih _ (nt_keep h)
theorem due_is {τ : Tv} {d : Nat} : ∀ c i m, mv_H m d = 0 → (∃ e, i < e ∧ e ≤ i + c ∧ ab_due τ d c i m = nI e ∧ ∀ j, j ≤ c → (mv_H (ab_n τ j m) d ≠ 0 ↔ e - i ≤ j)) ∨ (ab_due τ d c i m = -9 ∧ ∀ j, j ≤ c → mv_H (ab_n τ j m) d = 0) := by
  intro c
  induction c with
  | zero => intro i m h; exact Or.inr ⟨rfl, fun j hj => by rw [show j = 0 by omega]; exact h⟩
  | succ c ih =>
    intro i m h
    rw [ab_due]
    by_cases q : mv_H (ab_nt τ m).2 d = 0
    · rw [if_pos q]
      rcases ih (i + 1) _ q with ⟨e, h1, h2, h3, h4⟩ | ⟨h3, h4⟩
      · refine Or.inl ⟨e, by omega, by omega, h3, fun j hj => ?_⟩
        cases j with
        | zero => exact ⟨fun z => absurd h z, fun z => by omega⟩
        | succ j => rw [ab_n_s, h4 j (by omega)]; omega
      · refine Or.inr ⟨h3, fun j hj => ?_⟩
        cases j with
        | zero => exact h
        | succ j => rw [ab_n_s]; exact h4 j (by omega)
    · rw [if_neg q]
      refine Or.inl ⟨i + 1, by omega, by omega, rfl, fun j hj => ?_⟩
      cases j with
      | zero => exact ⟨fun z => absurd h z, fun z => by omega⟩
      | succ j => rw [ab_n_s]; exact ⟨fun _ => by omega, fun _ => n_keep j _ q⟩
def ab_f (τ : Tv) (d p n : Nat) (m : Mv) (j : Nat) : Nat := if mv_H (ab_n τ j m) d = 0 then 0 else p ^ (n - j) * (10 - p) ^ j
theorem ab_f_le (τ : Tv) {d p n : Nat} (m : Mv) {j : Nat} (hp : p ≤ 10) (hn : n ≤ 6) (hj : j ≤ n) : ab_f τ d p n m j ≤ 1000000 := by
  unfold ab_f
  split
  · omega
  · have h1 : p ^ (n - j) ≤ 10 ^ (n - j) := Nat.pow_le_pow_left hp _
    have h2 : (10 - p) ^ j ≤ 10 ^ j := Nat.pow_le_pow_left (by omega) _
    have h3 : p ^ (n - j) * (10 - p) ^ j ≤ 10 ^ (n - j) * 10 ^ j := Nat.mul_le_mul h1 h2
    rw [← Nat.pow_add, show n - j + j = n by omega] at h3
    exact Nat.le_trans h3 (Nat.le_trans (Nat.pow_le_pow_right (by omega) hn) (by decide))
theorem oz_le (y : Nat) : ∀ c i, ab_oz y c i ≤ c := by
  intro c
  induction c with
  | zero => intro i; exact Nat.le_refl _
  | succ c ih => intro i; rw [ab_oz]; have := ih (i + 1); split <;> omega
theorem rf_le {n : Nat} {f : Nat → Nat} {M : Nat} (h : ∀ j, j ≤ n → f j ≤ M) : ∀ c y, ab_rf n f c y ≤ c * M := by
  intro c
  induction c with
  | zero => intro y; exact Nat.zero_le _
  | succ c ih =>
    intro y
    rw [ab_rf, Nat.succ_mul]
    have h1 := h _ (oz_le y n 0)
    have h2 := ih (y + 1)
    omega
theorem rq_has {y i : Nat} {t : dn_S} (hy : y < 64) (hi : i < 6) : m_X12_has (nI y) (nI i) t = some (y.testBit i, t) := by
  have key : ∀ (y : Fin 64) (i : Fin 6), decide ((dn_shr (nI y.val) (nI i.val)) &&& 1 = 1) = y.val.testBit i.val := by decide
  have k := key ⟨y, hy⟩ ⟨i, hi⟩
  unfold m_X12_has
  by_cases q : (dn_shr (nI y) (nI i)) &&& 1 = 1
  · rw [if_pos q, ← k, decide_eq_true q]
  · rw [if_neg q, ← k, decide_eq_false q]
theorem rq_chance {K : Int32 → Int32 → Int32 → Int32 → Int32 → Int32 → Int32 → dn_S → Option (Int32 × dn_S)} {τ : Tv} {d p n y a : Nat} {y4 y6 : Int32} (hW : WT τ) (hd6 : d < 6) (hp : p ≤ 10) (hn : n ≤ 6) (hy : y < 64) : ∀ (c i fuel : Nat) (t : dn_S) (m : Mv) (k : Int32) (w : Nat), i + c = n → c < fuel → RT t τ → RM t 120 τ (ab_mk m k) → RO t 120 (-9, 0) → mv_d m + c ≤ 100 →
    ∃ t', m_X12_odds_94 K fuel (nI d) (nI p) (nI n) y4 (nI a) y6 (nI y) (nI w) (nI i) t = K (nI d) (nI p) (nI n) y4 (nI (a + if mv_H (ab_n τ (ab_oz y c i) m) d = 0 then 0 else w * (p ^ (c - ab_oz y c i) * (10 - p) ^ (ab_oz y c i)))) y6 (nI (y + 1)) t' ∧ fr SR t t' := by
  intro c
  induction c with
  | zero =>
    intro i fuel t m k w hi hf hT hM hO hd
    obtain ⟨f, rfl⟩ : ∃ n, fuel = n + 1 := ⟨fuel - 1, by omega⟩
    have hh := hM.2.2.2.2.2.2 d hd6
    rw [show 120 + 10 + d = 130 + d by omega] at hh
    rw [m_X12_odds_94, if_pos (show nI n ≤ nI i from nI_le (by omega) (by omega)), show (130 : Int32) + nI d = nI (130 + d) from by rw [nl_130, nI_add], cq_ib (by omega) (by omega), dn_ck_t, nI_clamp (by omega), hh]
    refine ⟨t, ?_, fr_refl⟩
    unfold m_X12_odds_181
    simp only [dn_lt_e]
    rw [show mv_H (ab_mk m k) d = mv_H m d from rfl, show nI y + (1 : Int32) = nI (y + 1) from by rw [nl_1, nI_add]]
    show _ = K (nI d) (nI p) (nI n) y4 (nI (a + if mv_H m d = 0 then 0 else w * (p ^ 0 * (10 - p) ^ 0))) y6 (nI (y + 1)) t
    by_cases q : mv_H m d = 0
    · rw [if_pos q, if_pos q, Int32.add_zero]; rfl
    · rw [if_neg q, if_neg q, nI_add, Nat.pow_zero, Nat.pow_zero, Nat.mul_one]
  | succ c ih =>
    intro i fuel t m k w hi hf hT hM hO hd
    obtain ⟨f, rfl⟩ : ∃ n, fuel = n + 1 := ⟨fuel - 1, by omega⟩
    have e1 : nI i + (1 : Int32) = nI (i + 1) := by rw [nl_1, nI_add]
    rw [m_X12_odds_94, if_neg (show ¬ nI n ≤ nI i from nI_nl (by omega) (by omega)), rq_has hy (by omega), dn_bd_s]
    unfold m_X12_odds_120 m_X12_odds_154
    simp only [dn_lt_e]
    rw [rq_has hy (by omega), dn_bd_s, dn_bd_s, e1, nI_mul, show (10 : Int32) - nI p = nI (10 - p) from by rw [nl_10, nI_sub hp], nI_mul, ab_oz]
    by_cases q : y.testBit i = true
    · rw [if_pos q, if_pos q, show dn_ib 121 1680 = true by decide, dn_ck_t, dn_ck_t, dn_wr_e, show (121 : Int32).toNatClampNeg = 121 by decide, if_pos q, Nat.zero_add]
      have fw : fr (fun a j => a = 101 ∧ j = 121) t (dn_p t 101 121 (dn_g t 101 121 + 1)) := fr_p ⟨rfl, rfl⟩
      have fw' : fr SR t (dn_p t 101 121 (dn_g t 101 121 + 1)) := fr_mono fw (fun a j q => by unfold SR; omega)
      have ef : ∀ j, j ≠ 121 → dn_g (dn_p t 101 121 (dn_g t 101 121 + 1)) 101 j = dn_g t 101 j := fun j h1 => fw.1 101 j (fun q => by omega)
      have hM1 : RM (dn_p t 101 121 (dn_g t 101 121 + 1)) 120 τ (ab_mk m (dn_g t 101 121 + 1)) :=
        RM_mk.mpr ⟨by rw [ef _ (by omega)]; exact hM.1, dn_p_same _ _ _ _, by rw [ef _ (by omega)]; exact hM.2.2.1, by rw [ef _ (by omega)]; exact hM.2.2.2.1,
          fun i hi => by rw [ef _ (by omega)]; exact hM.2.2.2.2.1 i hi, fun b hb => by have := hW.1; rw [ef _ (by omega)]; exact hM.2.2.2.2.2.1 b hb, fun j hj => by rw [ef _ (by omega)]; exact hM.2.2.2.2.2.2 j hj⟩
      have hO1 : RO (dn_p t 101 121 (dn_g t 101 121 + 1)) 120 (-9, 0) := ⟨by rw [ef _ (by omega)]; exact hO.1, fun q => absurd q (show ¬ ((0 : Int32) < 0) by decide)⟩
      obtain ⟨t2, e2, f2⟩ := ih (i + 1) f _ m _ (w * p) (by omega) (by omega) (hT.fr fw' (fun a j q => SR_rt q)) hM1 hO1 (by omega)
      refine ⟨t2, ?_, fr_trans fw' f2⟩
      rw [e2]
      have hz := oz_le y c (i + 1)
      rw [show c + 1 - ab_oz y c (i + 1) = (c - ab_oz y c (i + 1)) + 1 by omega, Nat.pow_succ]
      have e3 : w * p * (p ^ (c - ab_oz y c (i + 1)) * (10 - p) ^ ab_oz y c (i + 1)) = w * (p ^ (c - ab_oz y c (i + 1)) * p * (10 - p) ^ ab_oz y c (i + 1)) := by
        rw [Nat.mul_assoc, ← Nat.mul_assoc p, Nat.mul_comm p (p ^ _)]
      rw [e3]
    · rw [if_neg q, if_neg q, if_neg q]
      obtain ⟨t1, g1, hT1, hM1, hO1, f1⟩ := ah_gr hW hT hM hO (show mv_d m < 104 by omega)
      obtain ⟨k', hk'⟩ := mk_nt τ m k
      rw [hk'] at hM1
      have hd2 := ab_nt_d τ m
      obtain ⟨t2, e2, f2⟩ := ih (i + 1) f t1 (ab_nt τ m).2 k' (w * (10 - p)) (by omega) (by omega) hT1 hM1 hO1 (by omega)
      refine ⟨t2, ?_, fr_trans f1 f2⟩
      rw [g1, dn_bd_s, e2]
      have hz := oz_le y c (i + 1)
      rw [Nat.add_comm 1 (ab_oz y c (i + 1)), ab_n_s, show c + 1 - (ab_oz y c (i + 1) + 1) = c - ab_oz y c (i + 1) by omega, Nat.pow_succ]
      have e3 : w * (10 - p) * (p ^ (c - ab_oz y c (i + 1)) * (10 - p) ^ ab_oz y c (i + 1)) = w * (p ^ (c - ab_oz y c (i + 1)) * ((10 - p) ^ ab_oz y c (i + 1) * (10 - p))) := by
        rw [Nat.mul_assoc, ← Nat.mul_assoc (10 - p), Nat.mul_comm (10 - p) (p ^ _), Nat.mul_assoc (p ^ _), Nat.mul_comm (10 - p) ((10 - p) ^ _)]
      rw [e3]
theorem shl_1 {n : Nat} (hn : n ≤ 6) : dn_shl 1 (nI n) = nI (2 ^ n) := by
  have : ∀ n : Fin 7, dn_shl 1 (nI n.val) = nI (2 ^ n.val) := by decide
  exact this ⟨n, by omega⟩
theorem rq_rows76 {τ : Tv} {m : Mv} {d p n : Nat} {y4 y6 : Int32} (hW : WT τ) (hd : mv_d m ≤ 60) (hd6 : d < 6) (hp : p ≤ 10) (hn : n ≤ 6) : ∀ (c y fuel : Nat) (t : dn_S) (a : Nat), y + c = 2 ^ n → c < fuel → RT t τ → RM t 0 τ m →
    ∃ t', m_X12_odds_76 fuel (nI d) (nI p) (nI n) y4 (nI a) y6 (nI y) t = m_X12_odds_198 2048 y4 (nI (a + ab_rf n (ab_f τ d p n m) c y)) y6 (nI (a + ab_rf n (ab_f τ d p n m) c y)) y6 t' ∧ fr SR t t' := by
  have h64 : 2 ^ n ≤ 2 ^ 6 := Nat.pow_le_pow_right (by omega) hn
  intro c
  induction c with
  | zero =>
    intro y fuel t a hy hf hT hM
    obtain ⟨f, rfl⟩ : ∃ n, fuel = n + 1 := ⟨fuel - 1, by omega⟩
    rw [m_X12_odds_76, shl_1 hn, if_pos (show nI (2 ^ n) ≤ nI y from nI_le (by omega) (by omega)), ab_rf, Nat.add_zero]
    exact ⟨t, rfl, fr_refl⟩
  | succ c ih =>
    intro y fuel t a hy hf hT hM
    obtain ⟨f, rfl⟩ : ∃ n, fuel = n + 1 := ⟨fuel - 1, by omega⟩
    obtain ⟨t1, e1, hT1, hM1, hO1, f1⟩ := ah_r hW hT hM (by omega)
    obtain ⟨t2, e2, f2⟩ := rq_chance (K := m_X12_odds_76 f) (y4 := y4) (y6 := y6) (a := a) hW hd6 hp hn (show y < 64 by omega) n 0 2048 t1 m (mv_k m) 1 (by omega) (by omega) hT1 hM1 hO1 (by omega)
    have f12 := fr_trans f1 f2
    obtain ⟨t3, e3, f3⟩ := ih (y + 1) f t2 (a + ab_f τ d p n m (ab_oz y n 0)) (by omega) (by omega) (hT.fr f12 (fun a j q => SR_rt q)) (hM.fr f12 (by omega) hW.1 (fun a j q => SR_rm q))
    refine ⟨t3, ?_, fr_trans f12 f3⟩
    have e2' : m_X12_odds_94 (m_X12_odds_76 f) 2048 (nI d) (nI p) (nI n) y4 (nI a) y6 (nI y) 1 0 t1 = _ := e2
    rw [m_X12_odds_76, shl_1 hn, if_neg (show ¬ nI (2 ^ n) ≤ nI y from nI_nl (by omega) (by omega)), e1, dn_bd_s, e2', ab_rf, ← Nat.add_assoc]
    rw [Nat.one_mul]
    exact e3
theorem rq_54 {τ : Tv} {d p n : Nat} {y4 : Int32} {t : dn_S} (hn : n ≤ 6) : ∀ (c i fuel y : Nat), i + c = n → c < fuel → m_X12_odds_54 fuel (nI d) (nI p) (nI n) y4 false (nI y) (nI i) t = m_X12_odds_76 2048 (nI d) (nI p) (nI n) y4 (nI 0) (nI (y * 10 ^ c)) (nI 0) t := by
  intro c
  induction c with
  | zero =>
    intro i fuel y hi hf
    obtain ⟨f, rfl⟩ : ∃ n, fuel = n + 1 := ⟨fuel - 1, by omega⟩
    rw [m_X12_odds_54, if_pos (show nI n ≤ nI i from nI_le (by omega) (by omega)), Nat.pow_zero, Nat.mul_one]
    rfl
  | succ c ih =>
    intro i fuel y hi hf
    obtain ⟨f, rfl⟩ : ∃ n, fuel = n + 1 := ⟨fuel - 1, by omega⟩
    rw [m_X12_odds_54, if_neg (show ¬ nI n ≤ nI i from nI_nl (by omega) (by omega)), dn_lt_e, dn_lt_e, show nI i + (1 : Int32) = nI (i + 1) from by rw [nl_1, nI_add], nl_10, nI_mul, ih (i + 1) f (y * 10) (by omega) (by omega), Nat.pow_succ, Nat.mul_assoc, Nat.mul_comm 10 (10 ^ c)]
theorem cq_cf {f : Nat → Nat} {p n e : Nat} {s : dn_S} (hp : p ≤ 10) (hn : n ≤ 6) (hf : ∀ k, e ≤ k → k ≤ n → f k = p ^ (n - k) * (10 - p) ^ k) : ∀ (c k fuel a : Nat), k + c = n + 1 → e ≤ k → c < fuel → m_X11_chancesOf_13 fuel (nI p) (nI n) (nI a) (nI k) s = some (nI (a + ab_cf n f c k), s) := by
  intro c
  induction c with
  | zero =>
    intro k fuel a hk he hfu
    obtain ⟨fu, rfl⟩ : ∃ n, fuel = n + 1 := ⟨fuel - 1, by omega⟩
    rw [m_X11_chancesOf_13, if_pos (show nI n < nI k from nI_lt (by omega) (by omega))]
    rfl
  | succ c ih =>
    intro k fuel a hk he hfu
    obtain ⟨fu, rfl⟩ : ∃ n, fuel = n + 1 := ⟨fuel - 1, by omega⟩
    rw [m_X11_chancesOf_13, if_neg (show ¬ nI n < nI k from nI_nlt (by omega) (by omega)), cq_choose s hn (by omega), dn_bd_s, show (10 : Int32) - nI p = nI (10 - p) from by rw [nl_10, nI_sub hp], cq_power _ _ _ (by omega), dn_bd_s, nI_sub (show k ≤ n by omega), cq_power _ _ _ (by omega), dn_bd_s, nI_mul, nI_mul, nI_add, dn_lt_e, dn_lt_e, show nI k + (1 : Int32) = nI (k + 1) from by rw [nl_1, nI_add], ih (k + 1) fu _ (by omega) (by omega) (by omega), ab_cf, hf k he (by omega), Nat.add_assoc, Nat.mul_comm (p ^ (n - k)), Nat.mul_assoc]
theorem ok_odds (a1 a2 a3 a4 : Int32) : Ok Int32 (m_X11_odds a1 a2 a3 a4) (m_X12_odds a1 a2 a3 a4) := by
  intro s t hR
  obtain ⟨τ, hW, hT, hU, ⟨m, o, hM, hN, -, -, hd, -⟩, hR2⟩ := id hR
  have h6 := hW.2.1
  unfold m_X11_odds m_X12_odds
  rw [cq_isDebt a1 hW hT, rq_isDebt a1 hW hU, dn_bd_s, dn_bd_s]
  by_cases h1 : ab_in a1.toInt (0 : Nat) ((tv_d τ : Int) - 1) = true
  · obtain ⟨d, hdd, rfl⟩ := in_split1 h1
    rw [if_pos h1, if_pos h1, cq_within, rq_in, rq_i64, i32_0, i32_10, i64_0, i64_10, dn_bd_s, dn_bd_s]
    by_cases h2 : ab_in a2.toInt (0 : Nat) (10 : Nat) = true
    · obtain ⟨p, _, hp, rfl⟩ := in_split h2
      rw [if_pos h2, if_pos h2, cq_within, rq_in, rq_i64, i32_0, i32_6, i64_0, i64_6, dn_bd_s, dn_bd_s]
      by_cases h3 : ab_in a3.toInt (0 : Nat) (6 : Nat) = true
      · obtain ⟨n, _, hn, rfl⟩ := in_split h3
        rw [if_pos h3, if_pos h3, cq_within, rq_in, rq_i64, i32_0, i32_1, i64_0, i64_1, dn_bd_s, dn_bd_s]
        by_cases h4 : ab_in a4.toInt (0 : Nat) (1 : Nat) = true
        · rw [if_pos h4, if_pos h4]
          obtain ⟨s1, e1, f1⟩ := cq_nightDue (d := d) (L := n) hW hT hM hd (by omega) (by omega)
          obtain ⟨t1, g1, k1⟩ := rq_rows76 (d := d) (p := p) (n := n) (y4 := a4) (y6 := nI (1 * 10 ^ n)) hW hd (by omega) hp hn (2 ^ n) 0 2048 t 0 (by omega) (by have := Nat.pow_le_pow_right (n := 2) (by omega) hn; omega) hU hN
          have hS : ab_rf n (ab_f τ d p n m) (2 ^ n) 0 ≤ 64000000 := by
            have h := rf_le (n := n) (f := ab_f τ d p n m) (M := 1000000) (fun j hj => ab_f_le τ m hp hn hj) (2 ^ n) 0
            have h5 : 2 ^ n * 1000000 ≤ 2 ^ 6 * 1000000 := Nat.mul_le_mul_right _ (Nat.pow_le_pow_right (by omega) hn)
            omega
          have h10 : 10 ^ n ≤ 10 ^ 6 := Nat.pow_le_pow_right (by omega) hn
          have h10' : 0 < 10 ^ n := Nat.pow_pos (by omega)
          have hc : ∀ r, (if mv_H m d = 0 then ab_due τ d n 0 m else nI 0) = r → m_X11_chancesOf r (nI p) (nI n) s1 = some (nI (ab_rf n (ab_f τ d p n m) (2 ^ n) 0), s1) := by
            intro r hr
            rw [← ab_sums hn]
            have fin : ∀ e, e ≤ n → r = nI e → (∀ j, j ≤ n → (mv_H (ab_n τ j m) d ≠ 0 ↔ e ≤ j)) → m_X11_chancesOf r (nI p) (nI n) s1 = some (nI (ab_cf n (ab_f τ d p n m) (n + 1) 0), s1) := by
              intro e he hre hD
              have hz : ∀ k, k < e → ab_f τ d p n m k = 0 := fun k hk => by
                unfold ab_f
                rw [if_pos]
                exact Classical.byContradiction (fun z => by have := (hD k (by omega)).mp z; omega)
              have := ab_cf_z (n := n) hz e 0 (by omega) (n + 1 - e)
              rw [show e + (n + 1 - e) = n + 1 by omega] at this
              rw [this]
              have h13 := cq_cf (f := ab_f τ d p n m) (e := e) (s := s1) hp hn (fun k h1 h2 => by unfold ab_f; rw [if_neg ((hD k h2).mpr h1)]) (n + 1 - e) e 2048 0 (by omega) (Nat.le_refl _) (by omega)
              rw [Nat.zero_add] at h13
              unfold m_X11_chancesOf
              rw [hre, if_neg (nI_n9 (by omega))]
              exact h13
            by_cases q : mv_H m d = 0
            · rw [if_pos q] at hr
              rcases due_is n 0 m q with ⟨e, u1, u2, u3, u4⟩ | ⟨u3, u4⟩
              · exact fin e (by omega) (hr.symm.trans u3) (fun j hj => by rw [u4 j hj, Nat.sub_zero])
              · have hz : ∀ k, k < n + 1 → ab_f τ d p n m k = 0 := fun k hk => by unfold ab_f; rw [if_pos (u4 k (by omega))]
                have := ab_cf_z (n := n) hz (n + 1) 0 (by omega) 0
                rw [Nat.add_zero] at this
                rw [this]
                unfold m_X11_chancesOf
                rw [← hr, u3, if_pos rfl]
                rfl
            · rw [if_neg q] at hr
              exact fin 0 (by omega) hr.symm (fun j hj => ⟨fun _ => by omega, fun _ => n_keep j m q⟩)
          rw [e1, dn_bd_s, hc _ rfl, dn_bd_s, nl_10, cq_power _ _ _ (by omega), dn_bd_s]
          have hg := cq_gcd 20 (ab_rf n (ab_f τ d p n m) (2 ^ n) 0) (10 ^ n) 0 2048 s1 (by omega) (by omega) (by omega) (by omega) (by omega)
          have hg' : m_X11_commonDivisor (nI (ab_rf n (ab_f τ d p n m) (2 ^ n) 0)) (nI (10 ^ n)) s1 = _ := hg
          rw [hg', dn_bd_s]
          have h54 := rq_54 (τ := τ) (d := d) (p := p) (y4 := a4) (t := t) hn n 0 2048 1 (by omega) (by omega)
          have h54' : m_X12_odds_54 2048 (nI d) (nI p) (nI n) a4 false 1 0 t = _ := h54
          rw [h54', g1, Nat.zero_add, Nat.one_mul]
          have hgpos : 0 < Nat.gcd (ab_rf n (ab_f τ d p n m) (2 ^ n) 0) (10 ^ n) := Nat.gcd_pos_of_pos_right _ h10'
          have hgle : Nat.gcd (ab_rf n (ab_f τ d p n m) (2 ^ n) 0) (10 ^ n) ≤ 10 ^ n := Nat.gcd_le_right _ h10'
          have hg2 := rq_gcd (y4 := a4) (y5 := nI (ab_rf n (ab_f τ d p n m) (2 ^ n) 0)) (y6 := nI (10 ^ n)) (t := t1) 20 (ab_rf n (ab_f τ d p n m) (2 ^ n) 0) (10 ^ n) 2048 (by omega) (by omega) (by omega) (by omega)
          rw [hg2, if_neg (show ¬ nI (Nat.gcd (ab_rf n (ab_f τ d p n m) (2 ^ n) 0) (10 ^ n)) = 0 from fun z => by have := (nI_eq (b := 0) (by omega) (by omega)).mp z; omega), dn_nz_nI hgpos (by omega), dn_ck_t, dn_ck_t]
          by_cases q4 : a4 = 0
          · rw [if_pos q4, if_pos q4]
            exact ⟨_, s1, t1, rfl, rfl, hR.scr f1 k1⟩
          · rw [if_neg q4, if_neg q4]
            exact ⟨_, s1, t1, rfl, rfl, hR.scr f1 k1⟩
        · rw [if_neg h4, if_neg h4]
          exact ⟨_, s, t, rfl, rfl, hR⟩
      · rw [if_neg h3, if_neg h3]
        exact ⟨_, s, t, rfl, rfl, hR⟩
    · rw [if_neg h2, if_neg h2]
      exact ⟨_, s, t, rfl, rfl, hR⟩
  · rw [if_neg h1, if_neg h1]
    exact ⟨_, s, t, rfl, rfl, hR⟩
