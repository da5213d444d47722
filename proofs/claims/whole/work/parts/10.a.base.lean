/-! small numbers, and what the small methods answer -/
theorem dn_bd_s {β α : Type} (r : β) (s : dn_S) (K : β → dn_S → Option α) : dn_bd (some (r, s)) K = K r s := rfl
theorem dn_bd_n {β α : Type} (K : β → dn_S → Option α) : dn_bd (none : Option (β × dn_S)) K = none := rfl
theorem dn_wr_e {α : Type} (s : dn_S) (K : dn_S → Option α) : dn_wr s K = K s := rfl
theorem dn_lt_e {β α : Type} (v : β) (K : β → Option α) : dn_lt v K = K v := rfl
theorem dn_ck_t {α : Type} (a : Option α) : dn_ck true a = a := rfl
theorem dn_p_same (s : dn_S) (k j : Nat) (v : Int32) : dn_g (dn_p s k j v) k j = v := by rw [dn_g_p, if_pos ⟨rfl, rfl⟩]
theorem dn_p_k (s : dn_S) (k j a b : Nat) (v : Int32) (h : a ≠ k) : dn_g (dn_p s k j v) a b = dn_g s a b := by rw [dn_g_p, if_neg (fun q => h q.1)]
theorem dn_p_j (s : dn_S) (k j a b : Nat) (v : Int32) (h : b ≠ j) : dn_g (dn_p s k j v) a b = dn_g s a b := by rw [dn_g_p, if_neg (fun q => h q.2)]
theorem cq_ib {j N : Nat} (h : j < N) (hN : N < 2 ^ 31) : dn_ib (nI j) N = true := by
  unfold dn_ib
  rw [nI_toInt (Nat.lt_trans h hN)]
  exact decide_eq_true (by omega)
theorem cq_ibf {i : Int32} {N : Nat} (h : i.toInt < 0 ∨ (N : Int) ≤ i.toInt) : dn_ib i N = false := by
  unfold dn_ib
  exact decide_eq_false (by omega)
theorem cq_ofNat (n : Nat) : Int32.ofNat n = nI n := rfl
theorem cq_at {k n : Nat} {i : Int32} {s : dn_S} (hn : n < 2 ^ 31) : m_X11_at k n i s = some (if dn_ib i n = true then dn_g s k i.toNatClampNeg else 0, s) := by
  unfold m_X11_at
  by_cases h1 : i < 0
  · rw [if_pos h1, cq_ibf (Or.inl (by have := Int32.lt_iff_toInt_lt.mp h1; simpa using this))]
    rfl
  · rw [if_neg h1]
    have h1' : ¬ i.toInt < 0 := fun q => h1 (Int32.lt_iff_toInt_lt.mpr (by simpa using q))
    by_cases h2 : Int32.ofNat n ≤ i
    · have h2' := Int32.le_iff_toInt_le.mp h2
      rw [cq_ofNat, nI_toInt hn] at h2'
      rw [if_pos h2, cq_ibf (Or.inr h2')]
      rfl
    · have h2' : ¬ (n : Int) ≤ i.toInt := fun q => h2 (Int32.le_iff_toInt_le.mpr (by rw [cq_ofNat, nI_toInt hn]; exact q))
      have h3 : dn_ib i n = true := by unfold dn_ib; exact decide_eq_true (by omega)
      rw [if_neg h2, h3]
      rfl
theorem cq_at_nI {k n j : Nat} {s : dn_S} (h : j < n) (hn : n < 2 ^ 31) : m_X11_at k n (nI j) s = some (dn_g s k j, s) := by
  rw [cq_at hn, cq_ib h hn, if_pos rfl, nI_clamp (Nat.lt_trans h hn)]
theorem cq_put {k n : Nat} {i v : Int32} {s : dn_S} (hn : n < 2 ^ 31) : m_X11_put k n i v s = some ((), if dn_ib i n = true then dn_p s k i.toNatClampNeg v else s) := by
  unfold m_X11_put
  by_cases h1 : i < 0
  · rw [if_pos h1, cq_ibf (Or.inl (by have := Int32.lt_iff_toInt_lt.mp h1; simpa using this))]
    rfl
  · rw [if_neg h1]
    have h1' : ¬ i.toInt < 0 := fun q => h1 (Int32.lt_iff_toInt_lt.mpr (by simpa using q))
    by_cases h2 : Int32.ofNat n ≤ i
    · have h2' := Int32.le_iff_toInt_le.mp h2
      rw [cq_ofNat, nI_toInt hn] at h2'
      rw [if_pos h2, cq_ibf (Or.inr h2')]
      rfl
    · have h2' : ¬ (n : Int) ≤ i.toInt := fun q => h2 (Int32.le_iff_toInt_le.mpr (by rw [cq_ofNat, nI_toInt hn]; exact q))
      have h3 : dn_ib i n = true := by unfold dn_ib; exact decide_eq_true (by omega)
      rw [if_neg h2, h3]
      rfl
theorem cq_put_nI {k n j : Nat} {v : Int32} {s : dn_S} (h : j < n) (hn : n < 2 ^ 31) : m_X11_put k n (nI j) v s = some ((), dn_p s k j v) := by
  rw [cq_put hn, cq_ib h hn, if_pos rfl, nI_clamp (Nat.lt_trans h hn)]
def ab_in (a lo hi : Int) : Bool := decide (lo ≤ a ∧ a ≤ hi)
theorem cq_within (a lo hi : Int32) (s : dn_S) : m_X11_within a lo hi s = some (ab_in a.toInt lo.toInt hi.toInt, s) := by
  unfold m_X11_within ab_in
  by_cases h1 : a < lo
  · rw [if_pos h1]
    have := Int32.lt_iff_toInt_lt.mp h1
    rw [decide_eq_false (by omega)]
  · rw [if_neg h1]
    have h1' : ¬ a.toInt < lo.toInt := fun q => h1 (Int32.lt_iff_toInt_lt.mpr q)
    by_cases h2 : hi < a
    · rw [if_pos h2]
      have := Int32.lt_iff_toInt_lt.mp h2
      rw [decide_eq_false (by omega)]
    · rw [if_neg h2]
      have h2' : ¬ hi.toInt < a.toInt := fun q => h2 (Int32.lt_iff_toInt_lt.mpr q)
      rw [decide_eq_true (by omega)]
theorem rq_cmp_lt (x y : Int64) : (dn_cmp x y < 0) ↔ x.toInt < y.toInt := by
  unfold dn_cmp
  have h := lg_cmp_ge x y
  rw [Int64.le_iff_toInt_le] at h
  constructor
  · intro q
    have : ¬ (0 ≤ lg_cmp x y) := by
      intro z
      rw [Int32.le_iff_toInt_le] at z
      rw [Int32.lt_iff_toInt_lt] at q
      omega
    have h2 := mt h.mpr this
    omega
  · intro q
    rw [Int32.lt_iff_toInt_lt]
    have h2 := mt h.mp (by omega)
    rw [Int32.le_iff_toInt_le] at h2
    omega
theorem rq_cmp_gt (x y : Int64) : (0 < dn_cmp x y) ↔ y.toInt < x.toInt := by
  unfold dn_cmp lg_cmp
  simp only [gt_iff_lt, Int64.lt_iff_toInt_lt, ← Int64.toInt_inj]
  by_cases h1 : y.toInt < x.toInt
  · simp [h1]
  · by_cases h2 : x.toInt = y.toInt
    · simp [h2]
    · simp [h1, h2]
theorem rq_in (x y z : Int64) (s : dn_S) : m_X12_in x y z s = some (ab_in x.toInt y.toInt z.toInt, s) := by
  unfold m_X12_in ab_in
  by_cases h1 : dn_cmp x y < 0
  · rw [if_pos h1]
    have := (rq_cmp_lt x y).mp h1
    rw [decide_eq_false (by omega)]
  · rw [if_neg h1]
    have h1' := mt (rq_cmp_lt x y).mpr h1
    by_cases h2 : 0 < dn_cmp x z
    · rw [if_pos h2]
      have := (rq_cmp_gt x z).mp h2
      rw [decide_eq_false (by omega)]
    · rw [if_neg h2]
      have h2' := mt (rq_cmp_gt x z).mpr h2
      rw [decide_eq_true (by omega)]
theorem rq_i64 (x : Int32) : x.toInt64.toInt = x.toInt := by simp
