/-! the whole text read on both sides -/
def rq_done (t : dn_S) : Option (Int32 × dn_S) := dn_wr (dn_p t 100 3 (dn_g t 100 22)) fun s1 => dn_wr (dn_p s1 100 8 (dn_g s1 100 28)) fun s2 => dn_wr (dn_p s2 100 7 (dn_g s2 100 26)) fun s3 => m_X12_town_103 2048 0 s3
def PW (a j : Nat) : Prop := PIr a j ∨ (a = 100 ∧ j = 21)
def RDn (N : Nat) (s t : dn_S) (x y : Option (Int32 × dn_S)) : Prop :=
  (∃ f s' t', f ≤ N ∧ x = some (-10 - nI f, s') ∧ y = some (-10 - nI f, t') ∧ fr PI s s' ∧ fr PW t t') ∨
  (∃ k s' t' τ, k ≤ 200 ∧ x = some (nI k, s') ∧ y = rq_done t' ∧ fr PI s s' ∧ fr PW t t' ∧ DR s' t' τ ∧ dn_g t' 100 21 = nI k)
theorem rdn_mono {N : Nat} {s t s' t' : dn_S} {x y : Option (Int32 × dn_S)} (h : RDn N s' t' x y) (f1 : fr PI s s') (f2 : fr PW t t') : RDn N s t x y := by
  rcases h with ⟨f, s2, t2, h1, h2, h3, h4, h5⟩ | ⟨k, s2, t2, τ, h1, h2, h3, h4, h5, h6, h7⟩
  · exact Or.inl ⟨f, s2, t2, h1, h2, h3, fr_trans f1 h4, fr_trans f2 h5⟩
  · exact Or.inr ⟨k, s2, t2, τ, h1, h2, h3, fr_trans f1 h4, fr_trans f2 h5, h6, h7⟩
theorem x_read {N : Nat} {L : Nat → Int32} (hN : N ≤ 200) : ∀ (c p f g i k : Nat) (s t : dn_S) (τ : Tv), p + c = N → c < f → c < g → k = i → i ≤ p → TXc s N L → TXr t N L → dn_g s 6 2 = nI p → dn_g t 100 18 = nI (ab_p N L p) → dn_g t 100 19 = nI (ab_p N L p) → DR s t τ → dn_g t 100 21 = nI k →
    RDn N s t (m_X8_read_21 f (nI k) (nI i) s) (m_X12_town_34 g t) := by
  intro c
  induction c using Nat.strongRecOn with
  | ind c ih =>
    intro p f g i k s t τ hpc hf hg hki hip hc hr h2 g2 g3 hD h21
    obtain ⟨f, rfl⟩ : ∃ n, f = n + 1 := ⟨f - 1, by omega⟩
    obtain ⟨g, rfl⟩ : ∃ n, g = n + 1 := ⟨g - 1, by omega⟩
    have hpl := p_le L N p (by omega)
    rw [m_X8_read_21, m_X12_town_34, hr.1, g2]
    by_cases h200 : 200 ≤ i
    · rw [if_pos (show 200 ≤ nI i from nI_le (a := 200) h200 (by omega)), if_pos (show nI N ≤ nI (ab_p N L p) from nI_le (by omega) (by omega))]
      exact Or.inr ⟨k, s, t, τ, by omega, rfl, rfl, fr_refl, fr_refl, hD, h21⟩
    · rw [if_neg (show ¬ 200 ≤ nI i from nI_nl (a := 200) (by omega) (by omega))]
      obtain ⟨s1, e1, z3, f1, h⟩ := cq_token (L := L) hN (show p ≤ N by omega) hc h2
      have f1' : fr PI s s1 := fr_mono f1 (fun a j q => PN_PI q)
      rw [e1, dn_bd_s]
      rcases h with ⟨a, b, d⟩ | hlt
      · rw [b, if_pos (show (257 : Int32) = 257 from rfl), if_pos (show nI N ≤ nI (ab_p N L p) from nI_le (by omega) (by omega))]
        exact Or.inr ⟨k, s1, t, τ, by omega, rfl, rfl, f1', fr_refl, dr_fr hD f1 fr_refl, h21⟩
      · have hlt' : ab_p N L p < N := hlt.elim (fun z => z.1) (fun z => z.1)
        rw [if_neg (show ¬ nI N ≤ nI (ab_p N L p) from nI_nl hlt' (by omega))]
        unfold m_X12_takesItem m_X12_takesItem_62
        rw [g2, rq_letter hN hr (by omega), dn_bd_s, show ab_lt N L (ab_p N L p) = L (ab_p N L p) from if_pos hlt', dn_wr_e, g2, show nI (ab_p N L p) + (1 : Int32) = nI (ab_p N L p + 1) from by rw [nl_1, nI_add]]
        have k1 : fr PW t (dn_p t 100 18 (nI (ab_p N L p + 1))) := fr_p (Or.inl (Or.inl ⟨rfl, by omega, by omega, by omega⟩))
        have k1r : fr PNr t (dn_p t 100 18 (nI (ab_p N L p + 1))) := fr_p ⟨rfl, by omega, by omega⟩
        have g18 : dn_g (dn_p t 100 18 (nI (ab_p N L p + 1))) 100 18 = nI (ab_p N L p + 1) := dn_p_same _ _ _ _
        have g19 : dn_g (dn_p t 100 18 (nI (ab_p N L p + 1))) 100 19 = nI (ab_p N L p) := by rw [dn_p_j _ _ _ _ _ _ (by decide)]; exact g3
        have g21 : dn_g (dn_p t 100 18 (nI (ab_p N L p + 1))) 100 21 = nI k := by rw [dn_p_j _ _ _ _ _ _ (by decide)]; exact h21
        have hr1 : TXr (dn_p t 100 18 (nI (ab_p N L p + 1))) N L := txr_fr hr k1r (fun a j q => by unfold PNr at q; omega)
        have hD1 : DR s1 (dn_p t 100 18 (nI (ab_p N L p + 1))) τ := dr_fr hD f1 k1r
        generalize dn_p t 100 18 (nI (ab_p N L p + 1)) = t1 at k1 k1r g18 g19 g21 hr1 hD1 ⊢
        have hc1 : TXc s1 N L := txc_fr hc f1 (fun a j q => by unfold PN at q; omega)
        generalize ab_p N L p = p' at *
        have no : (∃ n, n = 1 ∧ dn_g s1 6 4 ≠ 257 ∧ dn_g s1 6 4 ≠ 98 ∧ dn_g s1 6 4 ≠ 111 ∧ dn_g s1 6 4 ≠ 114 ∧ L p' ≠ 98 ∧ L p' ≠ 111 ∧ L p' ≠ 114) → RDn N s t (if dn_g s1 6 4 = 257 then some (nI k, s1) else (if dn_g s1 6 4 = 98 then dn_bd (m_X8_readsBidder s1) fun r7 s5 => m_X8_read_110 (m_X8_read_21 f) (nI k) (nI i) r7 s5 else if dn_g s1 6 4 = 111 then dn_bd (m_X8_readsDebt s1) fun r11 s9 => m_X8_read_110 (m_X8_read_21 f) (nI k) (nI i) r11 s9 else if dn_g s1 6 4 = 114 then dn_bd (m_X8_readsBar s1) fun r15 s13 => m_X8_read_110 (m_X8_read_21 f) (nI k) (nI i) r15 s13 else m_X8_read_110 (m_X8_read_21 f) (nI k) (nI i) false s1))
            (dn_bd (if L p' = 98 then dn_bd (m_X12_takesBidder t1) fun r13 s11 => m_X12_takesItem_63 r13 s11 else (if L p' = 111 then dn_bd (m_X12_takesDebt t1) fun r10 s8 => m_X12_takesItem_63 r10 s8 else (if L p' = 114 then dn_bd (m_X12_takesBar t1) fun r7 s5 => (if r7 = true then m_X12_takesItem_63 true s5 else m_X12_takesItem_63 false s5) else m_X12_takesItem_63 false t1))) fun r6 s4 => (if r6 = true then dn_wr (dn_p s4 100 21 ((dn_g s4 100 21) + 1)) fun s7 => dn_bd (m_X12_blanks s7) fun _ s8 => m_X12_town_34 g s8 else some ((-10) - (dn_g s4 100 19), s4))) := by
          rintro ⟨_, _, n1, n2, n3, n4, n5, n6, n7⟩
          rw [if_neg n1, if_neg n2, if_neg n3, if_neg n4, if_neg n5, if_neg n6, if_neg n7]
          unfold m_X8_read_110 m_X12_takesItem_63
          rw [if_neg (show ¬ (false = true) by decide), if_neg (show ¬ (false = true) by decide), dn_bd_s, if_neg (by decide), z3, g19]
          exact Or.inl ⟨p', s1, t1, by omega, rfl, rfl, f1', k1⟩
        have yes : ∀ (x y : Option (Bool × dn_S)), IT N L s1 t1 (p' + 1) x y → RDn N s t (dn_bd x fun r s5 => m_X8_read_110 (m_X8_read_21 f) (nI k) (nI i) r s5) (dn_bd y fun r6 s4 => (if r6 = true then dn_wr (dn_p s4 100 21 ((dn_g s4 100 21) + 1)) fun s7 => dn_bd (m_X12_blanks s7) fun _ s8 => m_X12_town_34 g s8 else some ((-10) - (dn_g s4 100 19), s4))) := by
          rintro x y ⟨b, s2, t2, ff, rfl, rfl, w1, w2, w3, w4, w5, w6⟩
          have w5' : fr PW t1 t2 := fr_mono w5 (fun a j q => Or.inl q)
          rw [dn_bd_s, dn_bd_s]
          unfold m_X8_read_110
          cases b with
          | false =>
            rw [if_neg (by decide), if_neg (by decide), w2, w3]
            exact Or.inl ⟨ff, s2, t2, w1, rfl, rfl, fr_trans f1' w4, fr_trans k1 w5'⟩
          | true =>
            obtain ⟨τ2, q, v1, v2, hX⟩ := w6 rfl
            obtain ⟨x1, x2, x3, x4, x5, x6, x7, x8⟩ := hX
            have e21 : dn_g t2 100 21 = nI k := (w5.1 100 21 (fun q => by unfold PIr at q; omega)).trans g21
            rw [if_pos rfl, if_pos rfl, dn_lt_e, dn_lt_e, dn_wr_e, e21, nl_1, nI_add, nI_add]
            have k3 : fr (fun a j => a = 100 ∧ j = 21) t2 (dn_p t2 100 21 (nI (k + 1))) := fr_p ⟨rfl, rfl⟩
            have x2' := txr_fr x2 k3 (fun a j q => by omega)
            have x4' : dn_g (dn_p t2 100 21 (nI (k + 1))) 100 18 = nI q := by rw [dn_p_j _ _ _ _ _ _ (by decide)]; exact x4
            obtain ⟨t4, e4, u1, u2, k4⟩ := rq_blanks hN x7 x2' x4'
            rw [e4, dn_bd_s]
            have hD3 : DR s2 (dn_p t2 100 21 (nI (k + 1))) τ2 := ⟨v1.1, v1.2.1, rd_fr v1.2.2.1 k3 (fun a j q => by omega), by rw [dn_p_j _ _ _ _ _ _ (by decide)]; exact v1.2.2.2⟩
            have := ih (N - q) (by omega) q f g (i + 1) (k + 1) s2 t4 τ2 (by omega) (by omega) (by omega) (by omega) (by omega) x1 (txr_fr x2' k4 (fun a j q => by unfold PNr at q; omega)) x3 u1 u2 (dr_fr hD3 fr_refl k4) ((k4.1 100 21 (fun q => by unfold PNr at q; omega)).trans (dn_p_same _ _ _ _))
            exact rdn_mono this (fr_trans f1' w4) (fr_trans k1 (fr_trans w5' (fr_trans (fr_mono k3 (fun a j q => Or.inr q)) (fr_mono k4 (fun a j q => Or.inl (PNr_PIr q))))))
        rcases hlt with ⟨a, b, d, d2, gg⟩ | ⟨a, b, d, gg⟩
        · obtain ⟨l, l1, l2, hl⟩ := dg_s b
          have nl : ∀ m : Nat, 58 ≤ m → m < 1000 → L p' ≠ nI m := fun m h1 h2 z => by rw [hl] at z; have := (nI_eq (by omega) (by omega)).mp z; omega
          refine no ⟨1, rfl, ?_, ?_, ?_, ?_, nl 98 (by omega) (by omega), nl 111 (by omega) (by omega), nl 114 (by omega) (by omega)⟩ <;> (rcases gg with ⟨_, gg⟩ | ⟨_, gg⟩ <;> (rw [gg]; decide))
        · have hX : XS N L s1 t1 (p' + 1) p' := ⟨hc1, hr1, d, g18, z3, g19, by omega, by omega⟩
          rcases gg with ⟨t4, tt⟩ | ⟨t4, n1, n2, n3, n4⟩
          · rcases tt with q | q | q | q
            · rw [t4, q, if_neg (by decide), if_pos rfl, if_pos rfl]
              exact yes _ _ (x_bidder hN hX hD1)
            · rw [t4, q, if_neg (by decide), if_neg (by decide), if_neg (by decide), if_pos (show (114 : Int32) = 114 from rfl), if_neg (by decide), if_neg (by decide), if_pos (show (114 : Int32) = 114 from rfl)]
              exact yes _ _ (x_bar hN hX hD1)
            · rw [t4, q, if_neg (by decide), if_neg (by decide), if_pos (show (111 : Int32) = 111 from rfl), if_neg (by decide), if_pos (show (111 : Int32) = 111 from rfl)]
              exact yes _ _ (x_debt hN hX hD1)
            · refine no ⟨1, rfl, ?_, ?_, ?_, ?_, ?_, ?_, ?_⟩ <;> (first | (rw [t4, q]; decide) | (rw [q]; decide))
          · exact no ⟨1, rfl, by rw [t4]; decide, by rw [t4]; decide, by rw [t4]; decide, by rw [t4]; decide, n1, n3, n2⟩
