/-! items of the text: bar, bidder, debt, both sides -/
def RD (t : dn_S) (τ : Tv) : Prop := dn_g t 100 22 = nI (tv_b τ) ∧ dn_g t 100 28 = nI (tv_d τ) ∧ dn_g t 100 26 = nI (tv_r τ) ∧
  (∀ b, b < tv_b τ → dn_g t 111 b = tv_F τ b 0 ∧ dn_g t 112 b = tv_F τ b 1 ∧ ∀ n, n < 5 → dn_g t 113 (5 * b + n) = tv_F τ b (n + 2)) ∧
  (∀ d, d < tv_d τ → ∀ j, j < 5 → dn_g t 114 (5 * d + j) = tv_O τ d j)
theorem rd_fr {P : Nat → Nat → Prop} {t t' : dn_S} {τ : Tv} (h : RD t τ) (hf : fr P t t') (hP : ∀ a j, P a j → a = 100 ∧ (j < 22 ∨ j = 27)) : RD t' τ := by
  have e : ∀ a j, 100 < a → dn_g t' a j = dn_g t a j := fun a j h1 => hf.1 a j (fun q => by have := hP a j q; omega)
  have e2 : ∀ j, 22 ≤ j → j ≠ 27 → dn_g t' 100 j = dn_g t 100 j := fun j h1 h2 => hf.1 100 j (fun q => by have := hP 100 j q; omega)
  exact ⟨by rw [e2 _ (by omega) (by omega)]; exact h.1, by rw [e2 _ (by omega) (by omega)]; exact h.2.1, by rw [e2 _ (by omega) (by omega)]; exact h.2.2.1,
    fun b hb => ⟨by rw [e _ _ (by omega)]; exact (h.2.2.2.1 b hb).1, by rw [e _ _ (by omega)]; exact (h.2.2.2.1 b hb).2.1, fun n hn => by rw [e _ _ (by omega)]; exact (h.2.2.2.1 b hb).2.2 n hn⟩,
    fun d hd j hj => by rw [e _ _ (by omega)]; exact h.2.2.2.2 d hd j hj⟩
def XS (N : Nat) (L : Nat → Int32) (s t : dn_S) (p f : Nat) : Prop := TXc s N L ∧ TXr t N L ∧ dn_g s 6 2 = nI p ∧ dn_g t 100 18 = nI p ∧ dn_g s 6 3 = nI f ∧ dn_g t 100 19 = nI f ∧ p ≤ N ∧ f ≤ N
def PI (a _ : Nat) : Prop := 6 ≤ a ∧ a ≤ 9
def PIr (a j : Nat) : Prop := (a = 100 ∧ 18 ≤ j ∧ j ≤ 34 ∧ j ≠ 21) ∨ (111 ≤ a ∧ a ≤ 114)
theorem PN_PI {a j : Nat} (q : PN a j) : PI a j := by unfold PN at q; unfold PI; omega
theorem PNr_PIr {a j : Nat} (q : PNr a j) : PIr a j := by unfold PNr at q; unfold PIr; omega
def DR (s t : dn_S) (τ : Tv) : Prop := WT τ ∧ CT s 7 τ ∧ RD t τ ∧ dn_g s 6 6 = dn_g t 100 27
theorem dr_fr {s s' t t' : dn_S} {τ : Tv} (h : DR s t τ) (hf : fr PN s s') (hg : fr PNr t t') : DR s' t' τ :=
  ⟨h.1, h.2.1.fr hf (fun a j q => by unfold PN at q; omega), rd_fr h.2.2.1 hg (fun a j q => by unfold PNr at q; omega), by rw [hf.1 6 6 (fun q => by unfold PN at q; omega), hg.1 100 27 (fun q => by unfold PNr at q; omega)]; exact h.2.2.2⟩
/-- what an item brings about -/
def IT (N : Nat) (L : Nat → Int32) (s t : dn_S) (p : Nat) (x y : Option (Bool × dn_S)) : Prop :=
  ∃ b s' t' f, x = some (b, s') ∧ y = some (b, t') ∧ f ≤ N ∧ dn_g s' 6 3 = nI f ∧ dn_g t' 100 19 = nI f ∧ fr PI s s' ∧ fr PIr t t' ∧ (b = true → ∃ τ q, DR s' t' τ ∧ p < q ∧ XS N L s' t' q f)
theorem it_no {N : Nat} {L : Nat → Int32} {s t s' t' : dn_S} {p f : Nat} (hf : f ≤ N) (h1 : dn_g s' 6 3 = nI f) (h2 : dn_g t' 100 19 = nI f) (f1 : fr PI s s') (f2 : fr PIr t t') : IT N L s t p (some (false, s')) (some (false, t')) :=
  ⟨false, s', t', f, rfl, rfl, hf, h1, h2, f1, f2, fun z => ft z⟩
theorem it_mono {N : Nat} {L : Nat → Int32} {s t s' t' : dn_S} {p p' : Nat} {x y : Option (Bool × dn_S)} (h : IT N L s' t' p' x y) (f1 : fr PI s s') (f2 : fr PIr t t') (hp : p ≤ p') : IT N L s t p x y := by
  obtain ⟨b, s2, t2, f, e1, e2, h1, h2, h3, h4, h5, h6⟩ := h
  exact ⟨b, s2, t2, f, e1, e2, h1, h2, h3, fr_trans f1 h4, fr_trans f2 h5, fun z => by obtain ⟨τ, q, a, c, d⟩ := h6 z; exact ⟨τ, q, a, by omega, d⟩⟩
/-- the end of an item that went well -/
theorem it_end {N p f0 : Nat} {L : Nat → Int32} {s t : dn_S} {τ : Tv} {K : dn_S → dn_S} (hN : N ≤ 200) (hX : XS N L s t p f0)
    (hD : ∀ s' t', fr PN s s' → fr PNr t t' → DR (K s') t' τ) (hKf : ∀ s', fr (fun a j => a = 7) s' (K s')) :
    IT N L s t p (dn_bd (m_X8_readsEnd s) fun r3 s1 => (if r3 = true then some (true, K s1) else some (false, s1))) (m_X12_takesItem_63 true t) := by
  obtain ⟨hc, hr, a1, a2, a3, a4, a5, a6⟩ := hX
  obtain ⟨b, s1, t1, f, e1, g1, hf, z1, z2, f1, k1, hb⟩ := x_end hN a5 hc hr a1 a2
  rw [e1, g1, dn_bd_s]
  cases b with
  | false =>
    rw [if_neg (by decide)]
    exact it_no hf z1 z2 (fr_mono f1 (fun a j q => PN_PI q)) (fr_mono k1 (fun a j q => PNr_PIr q))
  | true =>
    rw [if_pos rfl]
    obtain ⟨q, h1, h2, h3, h4⟩ := hb rfl
    have f2 := hKf s1
    refine ⟨true, K s1, t1, f, rfl, rfl, hf, (f2.1 6 3 (fun q => by omega)).trans z1, z2, fr_trans (fr_mono f1 (fun a j q => PN_PI q)) (fr_mono f2 (fun a j q => by unfold PI; omega)), fr_mono k1 (fun a j q => PNr_PIr q), fun _ => ⟨τ, q, hD s1 t1 f1 k1, h1, ?_⟩⟩
    exact ⟨txc_fr (txc_fr hc f1 (fun a j q => by unfold PN at q; omega)) f2 (fun a j q => by omega), txr_fr hr k1 (fun a j q => by unfold PNr at q; omega), (f2.1 6 2 (fun q => by omega)).trans h3, h4, (f2.1 6 3 (fun q => by omega)).trans z1, z2, h2, hf⟩
theorem xs_num {N p f0 : Nat} {L : Nat → Int32} {s t : dn_S} (lo hi : Int32) (hN : N ≤ 200) (hX : XS N L s t p f0) :
    ∃ b s' t' f, m_X8_readsNumber lo hi s = some (b, s') ∧ m_X12_takesNumber lo hi t = some (b, t') ∧ f ≤ N ∧ dn_g s' 6 3 = nI f ∧ dn_g t' 100 19 = nI f ∧ fr PN s s' ∧ fr PNr t t' ∧
      (b = true → ∃ q v : Nat, p < q ∧ v ≤ 99 ∧ lo.toInt ≤ v ∧ (v : Int) ≤ hi.toInt ∧ XS N L s' t' q f ∧ dn_g s' 6 5 = nI v ∧ dn_g t' 100 20 = nI v) := by
  obtain ⟨hc, hr, a1, a2, a3, a4, a5, a6⟩ := hX
  obtain ⟨b, s1, t1, f, e1, g1, hf, z1, z2, f1, k1, hb⟩ := x_num lo hi hN a5 hc hr a1 a2
  refine ⟨b, s1, t1, f, e1, g1, hf, z1, z2, f1, k1, fun z => ?_⟩
  obtain ⟨q, v, h1, h2, h3, h4, h5, h6, h7, h8, h9⟩ := hb z
  exact ⟨q, v, h1, h3, h4, h5, ⟨txc_fr hc f1 (fun a j q => by unfold PN at q; omega), txr_fr hr k1 (fun a j q => by unfold PNr at q; omega), h6, h7, z1, z2, h2, hf⟩, h8, h9⟩
theorem xs_fr {N p f0 : Nat} {L : Nat → Int32} {s t s' t' : dn_S} {P Q : Nat → Nat → Prop} (hX : XS N L s t p f0) (hf : fr P s s') (hg : fr Q t t') (hP : ∀ a j, P a j → a ≠ 1 ∧ a ≠ 2 ∧ (a ≠ 6 ∨ 5 < j)) (hQ : ∀ a j, Q a j → a ≠ 110 ∧ (a ≠ 100 ∨ (j ≠ 17 ∧ j ≠ 18 ∧ j ≠ 19))) : XS N L s' t' p f0 := by
  obtain ⟨hc, hr, a1, a2, a3, a4, a5, a6⟩ := hX
  exact ⟨txc_fr hc hf (fun a j q => by have := hP a j q; omega), txr_fr hr hg (fun a j q => by have := hQ a j q; omega), (hf.1 _ _ (fun q => by have := hP _ _ q; omega)).trans a1, (hg.1 _ _ (fun q => by have := hQ _ _ q; omega)).trans a2, (hf.1 _ _ (fun q => by have := hP _ _ q; omega)).trans a3, (hg.1 _ _ (fun q => by have := hQ _ _ q; omega)).trans a4, a5, a6⟩
theorem x_bar {N p f0 : Nat} {L : Nat → Int32} {s t : dn_S} {τ : Tv} (hN : N ≤ 200) (hX : XS N L s t p f0) (hD : DR s t τ) :
    IT N L s t p (m_X8_readsBar s) (dn_bd (m_X12_takesBar t) fun r7 s5 => (if r7 = true then m_X12_takesItem_63 true s5 else m_X12_takesItem_62 s5)) := by
  unfold m_X8_readsBar m_X12_takesBar m_X12_takesItem_62
  rw [hD.2.2.2]
  by_cases q0 : dn_g t 100 27 = 0
  · rw [if_pos q0, if_pos q0]
    obtain ⟨b, s1, t1, f, e1, g1, hf, z1, z2, f1, k1, hb⟩ := xs_num 0 7 hN hX
    rw [e1, g1, dn_bd_s, dn_bd_s]
    cases b with
    | false =>
      rw [if_neg (by decide), if_neg (by decide), dn_bd_s, if_neg (by decide)]
      unfold m_X12_takesItem_63
      rw [if_neg (by decide)]
      exact it_no hf z1 z2 (fr_mono f1 (fun a j q => PN_PI q)) (fr_mono k1 (fun a j q => PNr_PIr q))
    | true =>
      obtain ⟨q, v, h1, h3, h4, h5, hX1, h8, h9⟩ := hb rfl
      have hv7 : v ≤ 7 := by have : (7 : Int32).toInt = 7 := by decide
                             omega
      rw [if_pos rfl, if_pos rfl]
      have c5 : dn_g (dn_p s1 6 6 (dn_b true)) 6 5 = nI v := by rw [dn_p_j _ _ _ _ _ _ (by decide)]; exact h8
      have d5 : dn_g (dn_p t1 100 27 (dn_b true)) 100 20 = nI v := by rw [dn_p_j _ _ _ _ _ _ (by decide)]; exact h9
      simp only [dn_wr_e]
      rw [c5, d5, dn_bd_s, if_pos rfl]
      have f2 : fr (fun a j => (a = 6 ∧ j = 6) ∨ (a = 7 ∧ j = 4)) s1 (dn_p (dn_p s1 6 6 (dn_b true)) 7 4 (nI v)) := fr_trans (fr_p (Or.inl ⟨rfl, rfl⟩)) (fr_p (Or.inr ⟨rfl, rfl⟩))
      have k2 : fr (fun a j => a = 100 ∧ (j = 26 ∨ j = 27)) t1 (dn_p (dn_p t1 100 27 (dn_b true)) 100 26 (nI v)) := fr_trans (fr_p ⟨rfl, Or.inr rfl⟩) (fr_p ⟨rfl, Or.inl rfl⟩)
      have hX2 := xs_fr hX1 f2 k2 (fun a j q => by omega) (fun a j q => by omega)
      have hD1 := dr_fr hD f1 k1
      have hD2 : DR (dn_p (dn_p s1 6 6 (dn_b true)) 7 4 (nI v)) (dn_p (dn_p t1 100 27 (dn_b true)) 100 26 (nI v)) (tv_b τ, tv_d τ, v, (fun b f => tv_F τ b f), fun d j => tv_O τ d j) := by
        obtain ⟨w1, w2, w3, w4⟩ := hD1
        refine ⟨⟨w1.1, w1.2.1, hv7, w1.2.2.2.1, w1.2.2.2.2⟩, ⟨?_, ?_, ?_, fun b hb f hf => ?_, fun d hd j hj => ?_⟩, ⟨?_, ?_, ?_, fun b hb => ⟨?_, ?_, fun n hn => ?_⟩, fun d hd j hj => ?_⟩, ?_⟩
        · rw [dn_p_j _ _ _ _ _ _ (by decide), dn_p_k _ _ _ _ _ _ (by decide)]; exact w2.1
        · rw [dn_p_j _ _ _ _ _ _ (by decide), dn_p_k _ _ _ _ _ _ (by decide)]; exact w2.2.1
        · rw [dn_p_same]; rfl
        · rw [dn_p_k _ _ _ _ _ _ (by decide), dn_p_k _ _ _ _ _ _ (by decide)]; exact w2.2.2.2.1 b hb f hf
        · rw [dn_p_k _ _ _ _ _ _ (by decide), dn_p_k _ _ _ _ _ _ (by decide)]; exact w2.2.2.2.2 d hd j hj
        · rw [dn_p_j _ _ _ _ _ _ (by decide), dn_p_j _ _ _ _ _ _ (by decide)]; exact w3.1
        · rw [dn_p_j _ _ _ _ _ _ (by decide), dn_p_j _ _ _ _ _ _ (by decide)]; exact w3.2.1
        · rw [dn_p_same]; rfl
        · rw [dn_p_k _ _ _ _ _ _ (by decide), dn_p_k _ _ _ _ _ _ (by decide)]; exact (w3.2.2.2.1 b hb).1
        · rw [dn_p_k _ _ _ _ _ _ (by decide), dn_p_k _ _ _ _ _ _ (by decide)]; exact (w3.2.2.2.1 b hb).2.1
        · rw [dn_p_k _ _ _ _ _ _ (by decide), dn_p_k _ _ _ _ _ _ (by decide)]; exact (w3.2.2.2.1 b hb).2.2 n hn
        · rw [dn_p_k _ _ _ _ _ _ (by decide), dn_p_k _ _ _ _ _ _ (by decide)]; exact w3.2.2.2.2 d hd j hj
        · rw [dn_p_k _ _ _ _ _ _ (by decide), dn_p_same, dn_p_j _ _ _ _ _ _ (by decide), dn_p_same]
      have := it_end (K := fun s => s) hN hX2 (fun s' t' hf hg => dr_fr hD2 hf hg) (fun s' => fr_refl)
      have e0 : (dn_bd (m_X8_readsEnd (dn_p (dn_p s1 6 6 (dn_b true)) 7 4 (nI v))) fun r8 s6 => some (r8, s6)) = (dn_bd (m_X8_readsEnd (dn_p (dn_p s1 6 6 (dn_b true)) 7 4 (nI v))) fun r3 s1 => (if r3 = true then some (true, s1) else some (false, s1))) := by
        congr 1
        funext r x
        cases r <;> rfl
      rw [e0]
      exact it_mono this (fr_trans (fr_mono f1 (fun a j q => PN_PI q)) (fr_mono f2 (fun a j q => by unfold PI; omega))) (fr_trans (fr_mono k1 (fun a j q => PNr_PIr q)) (fr_mono k2 (fun a j q => by unfold PIr; omega))) (by omega)
  · rw [if_neg q0, if_neg q0, dn_bd_s, if_neg (by decide)]
    unfold m_X12_takesItem_63
    rw [if_neg (by decide)]
    exact it_no hX.2.2.2.2.2.2.2 hX.2.2.2.2.1 hX.2.2.2.2.2.1 fr_refl fr_refl
