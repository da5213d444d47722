/-! sums, products, divisors -/
theorem nI_div {a b : Nat} (ha : a < 2 ^ 31) (hb : b < 2 ^ 31) : nI a / nI b = nI (a / b) := by
  have hq : a / b < 2 ^ 31 := Nat.lt_of_le_of_lt (Nat.div_le_self a b) ha
  apply Int32.toInt_inj.mp
  rw [Int32.toInt_div, nI_toInt ha, nI_toInt hb, nI_toInt hq, ← Int.ofNat_tdiv]
  generalize a / b = q at hq
  exact Int.bmod_eq_of_le (by omega) (by omega)
theorem dn_dv_nI {a b : Nat} (ha : a < 2 ^ 31) (hb : b < 2 ^ 31) : dn_dv (nI a) (nI b) = nI (a / b) := nI_div ha hb
theorem dn_rm_nI {a b : Nat} (ha : a < 2 ^ 31) (hb : b < 2 ^ 31) : dn_rm (nI a) (nI b) = nI (a % b) := by
  unfold dn_rm
  rw [nI_div ha hb, nI_mul, nI_sub (Nat.div_mul_le_self a b)]
  congr 1
  have := Nat.div_add_mod a b
  rw [Nat.mul_comm] at this
  omega
theorem dn_nz_nI {b : Nat} (h0 : 0 < b) (hb : b < 2 ^ 31) : dn_nz (nI b) = true := by
  unfold dn_nz
  exact decide_eq_true (fun z => by have := (nI_eq (a := b) (b := 0) hb (by omega)).mp z; omega)
theorem cq_gcd : ∀ (k a b i fuel : Nat) (s : dn_S), a < 2 ^ 31 → b < 2 ^ k → k ≤ 30 → i + 2 * k < 64 → 2 * k + 1 < fuel → m_X11_commonDivisor_2 fuel (nI a) (nI b) (nI i) s = some (nI (Nat.gcd a b), s) := by
  intro k
  induction k with
  | zero =>
    intro a b i fuel s ha hb hk hi hf
    obtain ⟨n, rfl⟩ : ∃ n, fuel = n + 1 := ⟨fuel - 1, by omega⟩
    have : b = 0 := by omega
    subst this
    rw [m_X11_commonDivisor_2, if_neg (show ¬ 64 ≤ nI i from nI_nl (a := 64) (by omega) (by omega)), if_pos (show nI 0 = 0 from rfl), Nat.gcd_zero_right]
  | succ k ih =>
    intro a b i fuel s ha hb hk hi hf
    have hkb : 2 ^ (k + 1) ≤ 2 ^ 30 := Nat.pow_le_pow_right (by omega) hk
    obtain ⟨n, rfl⟩ : ∃ n, fuel = n + 1 := ⟨fuel - 1, by omega⟩
    rw [m_X11_commonDivisor_2, if_neg (show ¬ 64 ≤ nI i from nI_nl (a := 64) (by omega) (by omega))]
    by_cases hb0 : b = 0
    · subst hb0
      rw [if_pos (show nI 0 = 0 from rfl), Nat.gcd_zero_right]
    · rw [if_neg (show ¬ nI b = 0 from fun z => hb0 ((nI_eq (a := b) (b := 0) (by omega) (by omega)).mp z)), dn_nz_nI (by omega) (by omega), dn_ck_t, dn_rm_nI ha (by omega), dn_lt_e, dn_lt_e, nl_1, nI_add]
      have hg : Nat.gcd a b = Nat.gcd b (a % b) := by rw [Nat.gcd_comm a b, Nat.gcd_rec b a, Nat.gcd_comm]
      rw [hg]
      have hr : a % b < b := Nat.mod_lt a (by omega)
      obtain ⟨n, rfl⟩ : ∃ n', n = n' + 1 := ⟨n - 1, by omega⟩
      by_cases hsm : a % b < 2 ^ k
      · by_cases hk1 : k = 0
        · subst hk1
          exact ih b (a % b) (i + 1) (n + 1) s (by omega) hsm (by omega) (by omega) (by omega)
        · exact ih b (a % b) (i + 1) (n + 1) s (by omega) hsm (by omega) (by omega) (by omega)
      · have hr0 : a % b ≠ 0 := by have := Nat.two_pow_pos k; omega
        rw [m_X11_commonDivisor_2, if_neg (show ¬ 64 ≤ nI (i + 1) from nI_nl (a := 64) (by omega) (by omega)), if_neg (show ¬ nI (a % b) = 0 from fun z => hr0 ((nI_eq (a := a % b) (b := 0) (by omega) (by omega)).mp z)), dn_nz_nI (by omega) (by omega), dn_ck_t, dn_rm_nI (by omega) (by omega), dn_lt_e, dn_lt_e, nl_1, nI_add]
        have hg2 : Nat.gcd b (a % b) = Nat.gcd (a % b) (b % (a % b)) := by rw [Nat.gcd_comm b (a % b), Nat.gcd_rec (a % b) b, Nat.gcd_comm]
        rw [hg2]
        have hp : 2 ^ (k + 1) = 2 * 2 ^ k := by rw [Nat.pow_succ, Nat.mul_comm]
        have hb2 : b % (a % b) < 2 ^ k := by
          have hlt : b < 2 * (a % b) := by omega
          have : b % (a % b) = b - (a % b) := by
            rw [Nat.mod_eq_sub_mod (by omega), Nat.mod_eq_of_lt (by omega)]
          omega
        exact ih (a % b) (b % (a % b)) (i + 1 + 1) n s (by omega) hb2 (by omega) (by omega) (by omega)
theorem rq_gcd {y5 y6 y4 : Int32} {t : dn_S} : ∀ (k a b fuel : Nat), a < 2 ^ 31 → b < 2 ^ k → k ≤ 30 → 2 * k + 1 < fuel → m_X12_odds_198 fuel y4 y5 y6 (nI a) (nI b) t = (if y4 = 0 then dn_ck (dn_nz (nI (Nat.gcd a b))) (some (dn_dv y5 (nI (Nat.gcd a b)), t)) else dn_ck (dn_nz (nI (Nat.gcd a b))) (some (dn_dv y6 (nI (Nat.gcd a b)), t))) := by
  intro k
  induction k with
  | zero =>
    intro a b fuel ha hb hk hf
    obtain ⟨n, rfl⟩ : ∃ n, fuel = n + 1 := ⟨fuel - 1, by omega⟩
    have : b = 0 := by omega
    subst this
    rw [m_X12_odds_198, if_pos (show nI 0 = 0 from rfl), Nat.gcd_zero_right]
  | succ k ih =>
    intro a b fuel ha hb hk hf
    have hkb : 2 ^ (k + 1) ≤ 2 ^ 30 := Nat.pow_le_pow_right (by omega) hk
    obtain ⟨n, rfl⟩ : ∃ n, fuel = n + 1 := ⟨fuel - 1, by omega⟩
    rw [m_X12_odds_198]
    by_cases hb0 : b = 0
    · subst hb0
      rw [if_pos (show nI 0 = 0 from rfl), Nat.gcd_zero_right]
    · rw [if_neg (show ¬ nI b = 0 from fun z => hb0 ((nI_eq (a := b) (b := 0) (by omega) (by omega)).mp z)), dn_nz_nI (by omega) (by omega), dn_ck_t, dn_rm_nI ha (by omega), dn_lt_e]
      have hg : Nat.gcd a b = Nat.gcd b (a % b) := by rw [Nat.gcd_comm a b, Nat.gcd_rec b a, Nat.gcd_comm]
      rw [hg]
      have hr : a % b < b := Nat.mod_lt a (by omega)
      obtain ⟨n, rfl⟩ : ∃ n', n = n' + 1 := ⟨n - 1, by omega⟩
      by_cases hsm : a % b < 2 ^ k
      · exact ih b (a % b) (n + 1) (by omega) hsm (by omega) (by omega)
      · have hr0 : a % b ≠ 0 := by have := Nat.two_pow_pos k; omega
        rw [m_X12_odds_198, if_neg (show ¬ nI (a % b) = 0 from fun z => hr0 ((nI_eq (a := a % b) (b := 0) (by omega) (by omega)).mp z)), dn_nz_nI (by omega) (by omega), dn_ck_t, dn_rm_nI (by omega) (by omega), dn_lt_e]
        have hg2 : Nat.gcd b (a % b) = Nat.gcd (a % b) (b % (a % b)) := by rw [Nat.gcd_comm b (a % b), Nat.gcd_rec (a % b) b, Nat.gcd_comm]
        rw [hg2]
        have hp : 2 ^ (k + 1) = 2 * 2 ^ k := by rw [Nat.pow_succ, Nat.mul_comm]
        have hb2 : b % (a % b) < 2 ^ k := by
          have hlt : b < 2 * (a % b) := by omega
          have : b % (a % b) = b - (a % b) := by
            rw [Nat.mod_eq_sub_mod (by omega), Nat.mod_eq_of_lt (by omega)]
          omega
        exact ih (a % b) (b % (a % b)) n (by omega) hb2 (by omega) (by omega)
theorem cq_pow {b : Nat} : ∀ (c i y fuel e : Nat) (s : dn_S), i + c = e → e < 1000 → c < fuel → m_X11_power_4 fuel (nI b) (nI e) (nI y) (nI i) s = some (nI (y * b ^ c), s) := by
  intro c
  induction c with
  | zero =>
    intro i y fuel e s hi he hf
    obtain ⟨n, rfl⟩ : ∃ n, fuel = n + 1 := ⟨fuel - 1, by omega⟩
    rw [m_X11_power_4, if_pos (show nI e ≤ nI i from nI_le (by omega) (by omega)), Nat.pow_zero, Nat.mul_one]
  | succ c ih =>
    intro i y fuel e s hi he hf
    obtain ⟨n, rfl⟩ : ∃ n, fuel = n + 1 := ⟨fuel - 1, by omega⟩
    rw [m_X11_power_4, if_neg (show ¬ nI e ≤ nI i from nI_nl (by omega) (by omega)), dn_lt_e, dn_lt_e, nI_mul, nl_1, nI_add, ih (i + 1) (y * b) n e s (by omega) he (by omega), Nat.pow_succ, Nat.mul_assoc, Nat.mul_comm b (b ^ c)]
theorem cq_power (b e : Nat) (s : dn_S) (he : e < 1000) : m_X11_power (nI b) (nI e) s = some (nI (b ^ e), s) := by
  have := cq_pow (b := b) e 0 1 2048 e s (by omega) he (by omega)
  rw [Nat.one_mul] at this
  exact this
def ab_ch (n k : Nat) : Nat → Nat → Nat → Nat
  | 0, _, y => y
  | c + 1, i, y => ab_ch n k c (i + 1) (y * ((n - k) + i) / i)
theorem cq_ch {n k : Nat} (hn : n ≤ 6) (hk : k ≤ n) : ∀ (c i y fuel : Nat) (s : dn_S), i + c = k + 1 → 0 < i → c < fuel → y * 20 ^ c < 1000000000 → m_X11_choose_4 fuel (nI n) (nI k) (nI y) (nI i) s = some (nI (ab_ch n k c i y), s) := by
  intro c
  induction c with
  | zero =>
    intro i y fuel s hi h0 hf hy
    obtain ⟨f, rfl⟩ : ∃ n, fuel = n + 1 := ⟨fuel - 1, by omega⟩
    rw [m_X11_choose_4, if_pos (show nI k < nI i from nI_lt (by omega) (by omega))]
    rfl
  | succ c ih =>
    intro i y fuel s hi h0 hf hy
    obtain ⟨f, rfl⟩ : ∃ n, fuel = n + 1 := ⟨fuel - 1, by omega⟩
    have h1 : 0 < 20 ^ c := Nat.pow_pos (by omega)
    have h2 : y * 20 * 20 ^ c < 1000000000 := by rw [Nat.mul_assoc, Nat.mul_comm 20 (20 ^ c), ← Nat.pow_succ]; exact hy
    have h3 : y * 20 ≤ y * 20 * 20 ^ c := Nat.le_mul_of_pos_right _ h1
    have h4 : y * ((n - k) + i) ≤ y * 20 := Nat.mul_le_mul_left y (by omega)
    have h5 : y * ((n - k) + i) / i ≤ y * 20 := Nat.le_trans (Nat.div_le_self _ _) h4
    rw [m_X11_choose_4, if_neg (show ¬ nI k < nI i from nI_nlt (by omega) (by omega)), dn_nz_nI h0 (by omega), dn_ck_t, nI_sub hk, nI_add, nI_mul, dn_dv_nI (by omega) (by omega), dn_lt_e, dn_lt_e, nl_1, nI_add, ab_ch]
    exact ih (i + 1) _ f s (by omega) (by omega) (by omega) (Nat.lt_of_le_of_lt (Nat.mul_le_mul_right (20 ^ c) h5) h2)
def ab_C (n k : Nat) : Nat := ab_ch n k k 1 1
theorem cq_choose {n k : Nat} (s : dn_S) (hn : n ≤ 6) (hk : k ≤ n) : m_X11_choose (nI n) (nI k) s = some (nI (ab_C n k), s) := by
  refine cq_ch hn hk k 1 1 2048 s (by omega) (by omega) (by omega) ?_
  rw [Nat.one_mul]
  exact Nat.lt_of_le_of_lt (Nat.pow_le_pow_right (by omega) (show k ≤ 6 by omega)) (by decide)
def ab_cf (n : Nat) (f : Nat → Nat) : Nat → Nat → Nat
  | 0, _ => 0
  | c + 1, k => ab_C n k * f k + ab_cf n f c (k + 1)
def ab_oz (y : Nat) : Nat → Nat → Nat
  | 0, _ => 0
  | c + 1, i => (if y.testBit i = true then 0 else 1) + ab_oz y c (i + 1)
def ab_rf (n : Nat) (f : Nat → Nat) : Nat → Nat → Nat
  | 0, _ => 0
  | c + 1, y => f (ab_oz y n 0) + ab_rf n f c (y + 1)
theorem ab_cf_z {n : Nat} {f : Nat → Nat} {e : Nat} (h : ∀ k, k < e → f k = 0) : ∀ c k, k + c = e → ∀ r, ab_cf n f (c + r) k = ab_cf n f r e := by
  intro c
  induction c with
  | zero => intro k hk r; rw [Nat.zero_add, show k = e by omega]
  | succ c ih =>
    intro k hk r
    rw [show c + 1 + r = (c + r) + 1 by omega, ab_cf, h k (by omega), Nat.mul_zero, Nat.zero_add, ih (k + 1) (by omega) r]
theorem ab_sums {n : Nat} (hn : n ≤ 6) (f : Nat → Nat) : ab_cf n f (n + 1) 0 = ab_rf n f (2 ^ n) 0 := by
  have h : n = 0 ∨ n = 1 ∨ n = 2 ∨ n = 3 ∨ n = 4 ∨ n = 5 ∨ n = 6 := by omega
  rcases h with rfl | rfl | rfl | rfl | rfl | rfl | rfl
  · have e1 : ab_cf 0 f (0 + 1) 0 = 1 * f 0 + 0 := rfl
    have e2 : ab_rf 0 f (2 ^ 0) 0 = f 0 + 0 := rfl
    rw [e1, e2]; omega
  · have e1 : ab_cf 1 f (1 + 1) 0 = 1 * f 0 + (1 * f 1 + 0) := rfl
    have e2 : ab_rf 1 f (2 ^ 1) 0 = f 1 + (f 0 + 0) := rfl
    rw [e1, e2]; omega
  · have e1 : ab_cf 2 f (2 + 1) 0 = 1 * f 0 + (2 * f 1 + (1 * f 2 + 0)) := rfl
    have e2 : ab_rf 2 f (2 ^ 2) 0 = f 2 + (f 1 + (f 1 + (f 0 + 0))) := rfl
    rw [e1, e2]; omega
  · have e1 : ab_cf 3 f (3 + 1) 0 = 1 * f 0 + (3 * f 1 + (3 * f 2 + (1 * f 3 + 0))) := rfl
    have e2 : ab_rf 3 f (2 ^ 3) 0 = f 3 + (f 2 + (f 2 + (f 1 + (f 2 + (f 1 + (f 1 + (f 0 + 0))))))) := rfl
    rw [e1, e2]; omega
  · have e1 : ab_cf 4 f (4 + 1) 0 = 1 * f 0 + (4 * f 1 + (6 * f 2 + (4 * f 3 + (1 * f 4 + 0)))) := rfl
    have e2 : ab_rf 4 f (2 ^ 4) 0 = f 4 + (f 3 + (f 3 + (f 2 + (f 3 + (f 2 + (f 2 + (f 1 + (f 3 + (f 2 + (f 2 + (f 1 + (f 2 + (f 1 + (f 1 + (f 0 + 0))))))))))))))) := rfl
    rw [e1, e2]; omega
  · have e1 : ab_cf 5 f (5 + 1) 0 = 1 * f 0 + (5 * f 1 + (10 * f 2 + (10 * f 3 + (5 * f 4 + (1 * f 5 + 0))))) := rfl
    have e2 : ab_rf 5 f (2 ^ 5) 0 = f 5 + (f 4 + (f 4 + (f 3 + (f 4 + (f 3 + (f 3 + (f 2 + (f 4 + (f 3 + (f 3 + (f 2 + (f 3 + (f 2 + (f 2 + (f 1 + (f 4 + (f 3 + (f 3 + (f 2 + (f 3 + (f 2 + (f 2 + (f 1 + (f 3 + (f 2 + (f 2 + (f 1 + (f 2 + (f 1 + (f 1 + (f 0 + 0))))))))))))))))))))))))))))))) := rfl
    rw [e1, e2]; omega
  · have e1 : ab_cf 6 f (6 + 1) 0 = 1 * f 0 + (6 * f 1 + (15 * f 2 + (20 * f 3 + (15 * f 4 + (6 * f 5 + (1 * f 6 + 0)))))) := rfl
    have e2 : ab_rf 6 f (2 ^ 6) 0 = f 6 + (f 5 + (f 5 + (f 4 + (f 5 + (f 4 + (f 4 + (f 3 + (f 5 + (f 4 + (f 4 + (f 3 + (f 4 + (f 3 + (f 3 + (f 2 + (f 5 + (f 4 + (f 4 + (f 3 + (f 4 + (f 3 + (f 3 + (f 2 + (f 4 + (f 3 + (f 3 + (f 2 + (f 3 + (f 2 + (f 2 + (f 1 + (f 5 + (f 4 + (f 4 + (f 3 + (f 4 + (f 3 + (f 3 + (f 2 + (f 4 + (f 3 + (f 3 + (f 2 + (f 3 + (f 2 + (f 2 + (f 1 + (f 4 + (f 3 + (f 3 + (f 2 + (f 3 + (f 2 + (f 2 + (f 1 + (f 3 + (f 2 + (f 2 + (f 1 + (f 2 + (f 1 + (f 1 + (f 0 + 0))))))))))))))))))))))))))))))))))))))))))))))))))))))))))))))) := rfl
    rw [e1, e2]; omega
