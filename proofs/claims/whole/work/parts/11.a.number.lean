/-! numbers and ends: both sides -/
theorem ft {P : Prop} (z : false = true) : P := absurd z (by decide)
theorem dg_go {L : Nat → Int32} {N p : Nat} (hp : p < N) (hd : ab_dgt (L p) = true) : p + 1 ≤ (ab_q N L p).1 := by
  obtain ⟨c, hc⟩ : ∃ c, N - p = c + 1 := ⟨N - p - 1, by omega⟩
  unfold ab_q
  rw [hc, ab_dg, if_pos hd]
  exact (dg_le L c (p + 1) _).1
theorem dg_no {L : Nat → Int32} {N p : Nat} (h : p < N → ab_dgt (L p) = false) : (ab_q N L p).1 = p := by
  unfold ab_q
  by_cases hp : p < N
  · obtain ⟨c, hc⟩ : ∃ c, N - p = c + 1 := ⟨N - p - 1, by omega⟩
    rw [hc, ab_dg, if_neg (by rw [h hp]; decide)]
  · rw [show N - p = 0 by omega]; rfl
theorem q_le (L : Nat → Int32) (N p : Nat) (hp : p ≤ N) : p ≤ (ab_q N L p).1 ∧ (ab_q N L p).1 ≤ N ∧ (ab_q N L p).2 ≤ 100 := by
  have := dg_le L (N - p) p 0
  unfold ab_q
  exact ⟨this.1, by omega, this.2.2 (by omega)⟩
theorem p_le (L : Nat → Int32) (N p : Nat) (hp : p ≤ N) : p ≤ ab_p N L p ∧ ab_p N L p ≤ N := by
  have := bl_le L (N - p) p
  unfold ab_p
  omega
def NK (N : Nat) (L : Nat → Int32) (p : Nat) (lo hi : Int32) : Prop := ab_p N L p < N ∧ ab_dgt (L (ab_p N L p)) = true ∧ ¬ ab_bad N L (ab_p N L p) ∧ ab_in ((ab_q N L (ab_p N L p)).2 : Int) lo.toInt hi.toInt = true
theorem cq_number {s : dn_S} {N p : Nat} {L : Nat → Int32} {lo hi : Int32} (hN : N ≤ 200) (hp : p ≤ N) (hT : TXc s N L) (h2 : dn_g s 6 2 = nI p) :
    ∃ b s', m_X8_readsNumber lo hi s = some (b, s') ∧ (b = true ↔ NK N L p lo hi) ∧ dn_g s' 6 3 = nI (ab_p N L p) ∧ fr PN s s' ∧ (b = true → dn_g s' 6 2 = nI (ab_q N L (ab_p N L p)).1 ∧ dn_g s' 6 5 = nI (ab_q N L (ab_p N L p)).2) := by
  obtain ⟨s', e, z3, f, h⟩ := cq_token hN hp hT h2
  have hq := q_le L N (ab_p N L p) (p_le L N p hp).2
  unfold m_X8_readsNumber
  rw [e, dn_bd_s]
  rcases h with ⟨a, b, c⟩ | ⟨a, b, c, d, g⟩ | ⟨a, b, c, g⟩
  · rw [b, if_neg (by decide)]
    exact ⟨false, s', rfl, ⟨fun z => ft z, fun z => by have := z.1; omega⟩, z3, f, fun z => ft z⟩
  · rcases g with ⟨g1, g2⟩ | ⟨g1, g2⟩
    · rw [g2, if_neg (by decide)]
      exact ⟨false, s', rfl, ⟨fun z => ft z, fun z => absurd g1 z.2.2.1⟩, z3, f, fun z => ft z⟩
    · rw [g2, if_pos rfl, cq_within, d, nI_toInt (by omega), dn_bd_s]
      by_cases q : ab_in ((ab_q N L (ab_p N L p)).2 : Int) lo.toInt hi.toInt = true
      · rw [if_pos q]
        exact ⟨true, s', rfl, ⟨fun _ => ⟨a, b, g1, q⟩, fun _ => rfl⟩, z3, f, fun _ => ⟨c, d⟩⟩
      · rw [if_neg q]
        exact ⟨false, s', rfl, ⟨fun z => ft z, fun z => absurd z.2.2.2 q⟩, z3, f, fun z => ft z⟩
  · have hn : dn_g s' 6 4 ≠ 256 := by
      rcases g with ⟨g1, g2⟩ | ⟨g1, g2⟩
      · rw [g1]
        rcases g2 with g2 | g2 | g2 | g2 <;> (rw [g2]; decide)
      · rw [g1]; decide
    rw [if_neg hn]
    exact ⟨false, s', rfl, ⟨fun z => ft z, fun z => by have := z.2.1; rw [b] at this; cases this⟩, z3, f, fun z => ft z⟩
theorem rq_blanks {t : dn_S} {N p : Nat} {L : Nat → Int32} (hN : N ≤ 200) (hp : p ≤ N) (hT : TXr t N L) (h2 : dn_g t 100 18 = nI p) :
    ∃ t', m_X12_blanks t = some ((), t') ∧ dn_g t' 100 18 = nI (ab_p N L p) ∧ dn_g t' 100 19 = nI (ab_p N L p) ∧ fr PNr t t' := by
  obtain ⟨t', e, a, b, f⟩ := rq_bl (L := L) hN (N - p) p 2048 t (by omega) (by omega) hT h2
  exact ⟨t', e, a, b, fr_mono f (fun a j q => by unfold PNr; omega)⟩
theorem rq_number {t : dn_S} {N p : Nat} {L : Nat → Int32} {lo hi : Int32} (hN : N ≤ 200) (hp : p ≤ N) (hT : TXr t N L) (h2 : dn_g t 100 18 = nI p) :
    ∃ b t', m_X12_takesNumber lo hi t = some (b, t') ∧ (b = true ↔ NK N L p lo hi) ∧ dn_g t' 100 19 = nI (ab_p N L p) ∧ fr PNr t t' ∧ (b = true → dn_g t' 100 18 = nI (ab_q N L (ab_p N L p)).1 ∧ dn_g t' 100 20 = nI (ab_q N L (ab_p N L p)).2) := by
  obtain ⟨t1, e1, a1, b1, f1⟩ := rq_blanks hN hp hT h2
  have hpl := p_le L N p hp
  have hq := q_le L N (ab_p N L p) hpl.2
  unfold NK
  generalize ab_p N L p = p' at a1 b1 hpl hq ⊢
  have hT1 := txr_fr hT f1 (fun a j q => by unfold PNr at q; omega)
  have f2 : fr PNr t1 (dn_p t1 100 20 0) := fr_p ⟨rfl, by omega, by omega⟩
  have hT2 := txr_fr hT1 f2 (fun a j q => by unfold PNr at q; omega)
  obtain ⟨t3, r, e3, a3, r3, n3, f3⟩ := rq_dg (L := L) (lo := lo) (hi := hi) hN (N - p') p' 0 0 2048 (dn_p t1 100 20 0) (by omega) (by omega) (Or.inl ⟨rfl, by omega⟩) hT2 (by rw [dn_p_j _ _ _ _ _ _ (by decide)]; exact a1) (dn_p_same _ _ _ _)
  change dn_g t3 100 18 = nI (ab_q N L p').1 at a3
  change rl_n (ab_q N L p').2 r at n3
  have f3' : fr PNr (dn_p t1 100 20 0) t3 := fr_mono f3 (fun a j q => by unfold PNr; omega)
  have hT3 := txr_fr hT2 f3' (fun a j q => by unfold PNr at q; omega)
  have b3 : dn_g t3 100 19 = nI p' := (f3.1 100 19 (fun q => by omega)).trans ((dn_p_j _ _ _ _ _ _ (by decide)).trans b1)
  have f03 := fr_trans f1 (fr_trans f2 f3')
  unfold m_X12_takesNumber
  rw [e1, dn_bd_s, dn_wr_e, e3]
  unfold rq_tail m_X12_takesNumber_119 m_X12_takesNumber_123 m_X12_takesNumber_124
  rw [a3, b3, show nI p' + (1 : Int32) = nI (p' + 1) from by rw [nl_1, nI_add], if_pos (show true = true from rfl), if_neg (show ¬ (false = true) by decide)]
  have no : ¬ (p' < N ∧ ab_dgt (L p') = true ∧ ¬ ab_bad N L p' ∧ ab_in ((ab_q N L p').2 : Int) lo.toInt hi.toInt = true) → ∃ b t', some (false, t3) = some (b, t') ∧ (b = true ↔ (p' < N ∧ ab_dgt (L p') = true ∧ ¬ ab_bad N L p' ∧ ab_in ((ab_q N L p').2 : Int) lo.toInt hi.toInt = true)) ∧ dn_g t' 100 19 = nI p' ∧ fr PNr t t' ∧ (b = true → dn_g t' 100 18 = nI (ab_q N L p').1 ∧ dn_g t' 100 20 = nI (ab_q N L p').2) :=
    fun h => ⟨false, t3, rfl, ⟨fun z => ft z, fun z => absurd z h⟩, b3, f03, fun z => ft z⟩
  by_cases hd : p' < N ∧ ab_dgt (L p') = true
  · have hgo := dg_go hd.1 hd.2
    have yes : ¬ (L p' = 48 ∧ p' + 1 < (ab_q N L p').1) → ∃ b t', (if 99 < dn_g t3 100 20 then some (false, t3) else dn_bd (m_X12_in (dn_g t3 100 20).toInt64 lo.toInt64 hi.toInt64 t3) fun r3 s1 => if r3 = true then some (true, s1) else some (false, s1)) = some (b, t') ∧ (b = true ↔ (p' < N ∧ ab_dgt (L p') = true ∧ ¬ ab_bad N L p' ∧ ab_in ((ab_q N L p').2 : Int) lo.toInt hi.toInt = true)) ∧ dn_g t' 100 19 = nI p' ∧ fr PNr t t' ∧ (b = true → dn_g t' 100 18 = nI (ab_q N L p').1 ∧ dn_g t' 100 20 = nI (ab_q N L p').2) := by
      intro h
      rw [r3]
      rcases n3 with ⟨g1, g2⟩ | ⟨g1, g2, g3⟩
      · rw [if_neg (show ¬ 99 < nI r from nI_nlt (a := 99) (by omega) (by omega)), rq_in, rq_i64, rq_i64, rq_i64, nI_toInt (by omega), dn_bd_s]
        have hb : ¬ ab_bad N L p' := fun z => z.elim h (fun z => by omega)
        by_cases q : ab_in (r : Int) lo.toInt hi.toInt = true
        · rw [if_pos q]
          exact ⟨true, t3, rfl, ⟨fun _ => ⟨hd.1, hd.2, hb, by rw [g1]; exact q⟩, fun _ => rfl⟩, b3, f03, fun _ => ⟨a3, by rw [g1]; exact r3⟩⟩
        · rw [if_neg q]
          exact no (fun z => by have := z.2.2.2; rw [g1] at this; exact absurd this q)
      · rw [if_pos (show 99 < nI r from nI_lt (a := 99) (by omega) (by omega))]
        exact no (fun z => z.2.2.1 (Or.inr (by omega)))
    by_cases q1 : (ab_q N L p').1 = p' + 1
    · rw [if_pos (by rw [q1])]
      exact yes (fun z => by omega)
    · rw [if_neg (fun z => q1 ((nI_eq (by omega) (by omega)).mp z)), if_neg (show ¬ nI (ab_q N L p').1 ≤ nI p' from nI_nl (by omega) (by omega)), rq_letter hN hT3 (by omega), dn_bd_s, show ab_lt N L p' = L p' from if_pos hd.1]
      by_cases q2 : L p' = 48
      · rw [if_pos q2]
        exact no (fun z => z.2.2.1 (Or.inl ⟨q2, by omega⟩))
      · rw [if_neg q2]
        exact yes (fun z => q2 z.1)
  · have hno : (ab_q N L p').1 = p' := dg_no (fun h => by
      cases hh : ab_dgt (L p') with
      | false => rfl
      | true => exact absurd ⟨h, hh⟩ hd)
    rw [hno, if_neg (fun z => by have := (nI_eq (by omega) (by omega)).mp z; omega), if_pos (show nI p' ≤ nI p' from nI_le (Nat.le_refl _) (by omega))]
    have := no (fun z => hd ⟨z.1, z.2.1⟩)
    rw [hno] at this
    exact this
theorem NK_le {N : Nat} {L : Nat → Int32} {p : Nat} {lo hi : Int32} (hp : p ≤ N) (h : NK N L p lo hi) : p < (ab_q N L (ab_p N L p)).1 ∧ (ab_q N L (ab_p N L p)).1 ≤ N ∧ (ab_q N L (ab_p N L p)).2 ≤ 99 ∧ lo.toInt ≤ (ab_q N L (ab_p N L p)).2 ∧ ((ab_q N L (ab_p N L p)).2 : Int) ≤ hi.toInt := by
  have h1 := p_le L N p hp
  have h2 := q_le L N (ab_p N L p) h1.2
  have h3 := dg_go h.1 h.2.1
  have h4 := of_decide_eq_true h.2.2.2
  have h5 : ¬ 99 < (ab_q N L (ab_p N L p)).2 := fun z => h.2.2.1 (Or.inr z)
  exact ⟨by omega, by omega, by omega, h4.1, h4.2⟩
/-- a number read on both sides -/
theorem x_num {s t : dn_S} {N p : Nat} {L : Nat → Int32} (lo hi : Int32) (hN : N ≤ 200) (hp : p ≤ N) (hc : TXc s N L) (hr : TXr t N L) (h2 : dn_g s 6 2 = nI p) (g2 : dn_g t 100 18 = nI p) :
    ∃ b s' t' f, m_X8_readsNumber lo hi s = some (b, s') ∧ m_X12_takesNumber lo hi t = some (b, t') ∧ f ≤ N ∧ dn_g s' 6 3 = nI f ∧ dn_g t' 100 19 = nI f ∧ fr PN s s' ∧ fr PNr t t' ∧
      (b = true → ∃ q v : Nat, p < q ∧ q ≤ N ∧ v ≤ 99 ∧ lo.toInt ≤ v ∧ (v : Int) ≤ hi.toInt ∧ dn_g s' 6 2 = nI q ∧ dn_g t' 100 18 = nI q ∧ dn_g s' 6 5 = nI v ∧ dn_g t' 100 20 = nI v) := by
  obtain ⟨b, s', e, i1, z, f, k⟩ := cq_number (lo := lo) (hi := hi) hN hp hc h2
  obtain ⟨b', t', e', i2, z', f', k'⟩ := rq_number (lo := lo) (hi := hi) hN hp hr g2
  have hb : b' = b := by
    cases hb : b with
    | true => exact i2.mpr (i1.mp hb)
    | false =>
      cases hb' : b' with
      | false => rfl
      | true => have := i1.mpr (i2.mp hb'); rw [hb] at this; cases this
  subst hb
  refine ⟨b', s', t', _, e, e', (p_le L N p hp).2, z, z', f, f', fun h => ?_⟩
  obtain ⟨j1, j2, j3, j4, j5⟩ := NK_le hp (i1.mp h)
  exact ⟨_, _, j1, j2, j3, j4, j5, (k h).1, (k' h).1, (k h).2, (k' h).2⟩
/-- the end of an item -/
theorem x_end {s t : dn_S} {N p : Nat} {L : Nat → Int32} (hN : N ≤ 200) (hp : p ≤ N) (hc : TXc s N L) (hr : TXr t N L) (h2 : dn_g s 6 2 = nI p) (g2 : dn_g t 100 18 = nI p) :
    ∃ b s' t' f, m_X8_readsEnd s = some (b, s') ∧ m_X12_takesItem_63 true t = some (b, t') ∧ f ≤ N ∧ dn_g s' 6 3 = nI f ∧ dn_g t' 100 19 = nI f ∧ fr PN s s' ∧ fr PNr t t' ∧
      (b = true → ∃ q : Nat, p < q ∧ q ≤ N ∧ dn_g s' 6 2 = nI q ∧ dn_g t' 100 18 = nI q) := by
  obtain ⟨s', e, z3, f, h⟩ := cq_token hN hp hc h2
  obtain ⟨t1, e1, a1, b1, f1⟩ := rq_blanks hN hp hr g2
  have hpl := p_le L N p hp
  have hT1 := txr_fr hr f1 (fun a j q => by unfold PNr at q; omega)
  unfold m_X8_readsEnd m_X12_takesItem_63 m_X12_takesItem_92 m_X12_takesItem_107
  rw [e, dn_bd_s, if_pos rfl, e1, dn_bd_s, a1, rq_letter hN hT1 (by omega), dn_bd_s]
  generalize ab_p N L p = p' at *
  rw [if_pos rfl, if_neg (show ¬ (false = true) by decide), dn_wr_e, dn_wr_e, a1, dn_bt, dn_bf, nI_add, nI_add]
  have f2 : ∀ v, fr PNr t1 (dn_p t1 100 18 v) := fun v => fr_p ⟨rfl, by omega, by omega⟩
  have c2 : ∀ v, dn_g (dn_p t1 100 18 v) 100 19 = nI p' := fun v => by rw [dn_p_j _ _ _ _ _ _ (by decide)]; exact b1
  have no : ¬ (p' < N ∧ L p' = 59) → dn_g s' 6 4 ≠ 59 → ∃ b s'' t' f, (if dn_g s' 6 4 = 59 then some (true, s') else some (false, s')) = some (b, s'') ∧ (if ab_lt N L p' = 59 then some (true, dn_p t1 100 18 (nI (p' + 1))) else some (false, dn_p t1 100 18 (nI (p' + 0)))) = some (b, t') ∧ f ≤ N ∧ dn_g s'' 6 3 = nI f ∧ dn_g t' 100 19 = nI f ∧ fr PN s s'' ∧ fr PNr t t' ∧ (b = true → ∃ q : Nat, p < q ∧ q ≤ N ∧ dn_g s'' 6 2 = nI q ∧ dn_g t' 100 18 = nI q) := by
    intro h1 h2
    rw [if_neg h2, if_neg (show ¬ ab_lt N L p' = 59 from fun z => by
      unfold ab_lt at z
      by_cases q : p' < N
      · rw [if_pos q] at z; exact h1 ⟨q, z⟩
      · rw [if_neg q] at z; exact absurd z (by decide))]
    exact ⟨false, s', _, p', rfl, rfl, hpl.2, z3, c2 _, f, fr_trans f1 (f2 _), fun z => ft z⟩
  rcases h with ⟨a, b, c⟩ | ⟨a, b, c, d, g⟩ | ⟨a, b, c, g⟩
  · exact no (fun z => by omega) (by rw [b]; decide)
  · refine no (fun z => ?_) (by rcases g with ⟨_, g⟩ | ⟨_, g⟩ <;> (rw [g]; decide))
    rw [z.2] at b
    exact absurd b (by decide)
  · rcases g with ⟨g1, g2⟩ | ⟨g1, g2, g3, g4, g5⟩
    · by_cases q : L p' = 59
      · rw [if_pos (by rw [g1, q]), if_pos (show ab_lt N L p' = 59 from by unfold ab_lt; rw [if_pos a]; exact q)]
        exact ⟨true, s', _, p', rfl, rfl, hpl.2, z3, c2 _, f, fr_trans f1 (f2 _), fun _ => ⟨p' + 1, by omega, by omega, c, dn_p_same _ _ _ _⟩⟩
      · exact no (fun z => q z.2) (by rw [g1]; exact q)
    · exact no (fun z => g5 z.2) (by rw [g1]; decide)
