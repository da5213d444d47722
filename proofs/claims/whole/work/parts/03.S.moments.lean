/-! the rows of moments hold moments -/
theorem dn_M37 : ∀ j, j < 10 → dn_isM (dn_rb 37 + 4 * j) := by
  unfold dn_isM
  decide +kernel
theorem dn_M38 : ∀ j, j < 2 → dn_isM (dn_rb 38 + 4 * j) := by
  unfold dn_isM
  decide +kernel
theorem dn_Mst37 {i : Int32} {σ : dn_S} {z : Unit × dn_S} (h : m_X6_momentAt 37 10 i σ = some z) : dn_isM (dn_rb 37 + 4 * i.toNatClampNeg) := by
  unfold m_X6_momentAt at h
  split at h
  · cases h
  · split at h
    · cases h
    · cases hi : dn_ib i 10 with
      | false => rw [hi] at h; cases h
      | true =>
        obtain ⟨j, hj, rfl⟩ := vp_in_of (dn_ib_in hi) (by decide)
        rw [nI_clamp (by omega)]
        exact dn_M37 j hj
theorem dn_Mst38 {i : Int32} {σ : dn_S} {z : Unit × dn_S} (h : m_X6_momentAt 38 2 i σ = some z) : dn_isM (dn_rb 38 + 4 * i.toNatClampNeg) := by
  unfold m_X6_momentAt at h
  split at h
  · cases h
  · split at h
    · cases h
    · cases hi : dn_ib i 2 with
      | false => rw [hi] at h; cases h
      | true =>
        obtain ⟨j, hj, rfl⟩ := vp_in_of (dn_ib_in hi) (by decide)
        rw [nI_clamp (by omega)]
        exact dn_M38 j hj
