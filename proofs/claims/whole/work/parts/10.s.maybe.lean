/-! what a bidder may hold a name worth: one worth changed for a while -/
def ab_tw (τ : Tv) (b n : Nat) (v : Int32) : Tv := (tv_b τ, tv_d τ, tv_r τ, (fun b' f => if b' = b ∧ f = n + 2 then v else tv_F τ b' f), fun d j => tv_O τ d j)
theorem tw_b (τ : Tv) (b n : Nat) (v : Int32) : tv_b (ab_tw τ b n v) = tv_b τ := rfl
theorem tw_d (τ : Tv) (b n : Nat) (v : Int32) : tv_d (ab_tw τ b n v) = tv_d τ := rfl
theorem tw_r (τ : Tv) (b n : Nat) (v : Int32) : tv_r (ab_tw τ b n v) = tv_r τ := rfl
theorem tw_O (τ : Tv) (b n : Nat) (v : Int32) (d j : Nat) : tv_O (ab_tw τ b n v) d j = tv_O τ d j := rfl
theorem tw_F (τ : Tv) (b n : Nat) (v : Int32) (b' f : Nat) : tv_F (ab_tw τ b n v) b' f = if b' = b ∧ f = n + 2 then v else tv_F τ b' f := rfl
theorem tw_W {τ : Tv} {b n v : Nat} (hW : WT τ) (hv : v ≤ 20) : WT (ab_tw τ b n (nI v)) := by
  refine ⟨hW.1, hW.2.1, hW.2.2.1, fun b' hb' n' hn' => ?_, hW.2.2.2.2⟩
  rw [tw_F]
  by_cases q : b' = b ∧ n' + 2 = n + 2
  · rw [if_pos q]; exact ⟨v, hv, rfl⟩
  · rw [if_neg q]; exact hW.2.2.2.1 b' hb' n' hn'
theorem tw_CT {s : dn_S} {τ : Tv} {b n : Nat} {v : Int32} (hn : n < 5) (hT : CT s 3 τ) : CT (dn_p s 4 (b * 7 + (2 + n)) v) 3 (ab_tw τ b n v) := by
  refine ⟨?_, ?_, ?_, fun b' hb' f hf => ?_, fun d hd j hj => ?_⟩
  · rw [dn_p_k _ _ _ _ _ _ (by decide)]; exact hT.1
  · rw [dn_p_k _ _ _ _ _ _ (by decide)]; exact hT.2.1
  · rw [dn_p_k _ _ _ _ _ _ (by decide)]; exact hT.2.2.1
  · rw [tw_F]
    by_cases q : b' = b ∧ f = n + 2
    · rw [if_pos q, q.1, q.2, show b * 7 + (n + 2) = b * 7 + (2 + n) by omega]; exact dn_p_same _ _ _ _
    · rw [if_neg q, dn_p_j _ _ _ _ _ _ (by omega)]; exact hT.2.2.2.1 b' hb' f hf
  · rw [dn_p_k _ _ _ _ _ _ (by decide)]; exact hT.2.2.2.2 d hd j hj
theorem tw_R0 {t : dn_S} {τ : Tv} {b n : Nat} (hT : RT t τ) : RT t (ab_tw τ b n (tv_F τ b (n + 2))) := by
  have e : ∀ b' f, tv_F (ab_tw τ b n (tv_F τ b (n + 2))) b' f = tv_F τ b' f := by
    intro b' f
    rw [tw_F]
    by_cases q : b' = b ∧ f = n + 2
    · rw [if_pos q, q.1, q.2]
    · rw [if_neg q]
  refine ⟨hT.1, hT.2.1, hT.2.2.1, fun b' hb' => ⟨?_, ?_, fun n' hn' => ?_⟩, hT.2.2.2.2⟩
  · rw [e]; exact (hT.2.2.2.1 b' hb').1
  · rw [e]; exact (hT.2.2.2.1 b' hb').2.1
  · rw [e]; exact (hT.2.2.2.1 b' hb').2.2 n' hn'
theorem tw_RT {t : dn_S} {τ : Tv} {b n : Nat} {w v : Int32} (hn : n < 5) (hT : RT t (ab_tw τ b n w)) : RT (dn_p t 105 (5 * b + n) v) (ab_tw τ b n v) := by
  refine ⟨?_, ?_, ?_, fun b' hb' => ⟨?_, ?_, fun n' hn' => ?_⟩, fun d hd j hj => ?_⟩
  · rw [dn_p_k _ _ _ _ _ _ (by decide)]; exact hT.1
  · rw [dn_p_k _ _ _ _ _ _ (by decide)]; exact hT.2.1
  · rw [dn_p_k _ _ _ _ _ _ (by decide)]; exact hT.2.2.1
  · rw [dn_p_k _ _ _ _ _ _ (by decide), (hT.2.2.2.1 b' hb').1, tw_F, tw_F, if_neg (by omega), if_neg (by omega)]
  · rw [dn_p_k _ _ _ _ _ _ (by decide), (hT.2.2.2.1 b' hb').2.1, tw_F, tw_F, if_neg (by omega), if_neg (by omega)]
  · rw [tw_F]
    by_cases q : b' = b ∧ n' + 2 = n + 2
    · rw [if_pos q, q.1, show n' = n by omega]; exact dn_p_same _ _ _ _
    · rw [if_neg q, dn_p_j _ _ _ _ _ _ (by omega), (hT.2.2.2.1 b' hb').2.2 n' hn', tw_F, if_neg q]
  · rw [dn_p_k _ _ _ _ _ _ (by decide)]; exact hT.2.2.2.2 d hd j hj
theorem af_gc {s : dn_S} {τ : Tv} {m : Mv} (hW : WT τ) (hT : CT s 3 τ) (hM : CM s 24 τ m) (hd : mv_d m < 100) :
    ∃ s1 s2, m_X4_open 24 s = some ((), s1) ∧ m_X4_close 24 s1 = some ((ab_nt τ m).1, s2) ∧ CT s2 3 τ ∧ CM s2 24 τ (ab_nt τ m).2 ∧ fr SC s s2 := by
  obtain ⟨s1, s2, e1, e2, z, f⟩ := cq_goes hW (Or.inr (show 19 ≤ 24 by omega)) hT hM hd (-9)
  have f' : fr SC s s2 := fr_mono f (fun a j q => by unfold PGC PCL PM at q; unfold SC; omega)
  exact ⟨s1, s2, e1, e2, hT.fr f' (fun a j q => SC_ct q), z, f'⟩
def ab_ag (fn fx : Nat → Int32) (y x : Int32) : Nat → Nat → Bool
  | 0, _ => true
  | c + 1, i => if fn i = y then (if fx i = x then ab_ag fn fx y x c (i + 1) else false) else ab_ag fn fx y x c (i + 1)
def ab_nm (r : Int32) : Int32 := if r = -5 then -1 else r
def ab_so (τ : Tv) (fn fx : Nat → Int32) (N : Nat) : Nat → Nat → Mv → Bool
  | 0, _, _ => true
  | c + 1, i, m => if ab_ag fn fx (nI (i + 1)) (ab_nm (ab_nt τ m).1) N 0 = true then ab_so τ fn fx N c (i + 1) (ab_nt τ m).2 else false
theorem cq_ag {s : dn_S} {fn fx : Nat → Int32} {N : Nat} {y x : Int32} (hN : N ≤ 5) (hn : dn_g s 23 5 = nI N) (h1 : ∀ i, i < N → dn_g s 28 i = fn i ∧ dn_g s 29 i = fx i) : ∀ c i fuel, i + c = N → c < fuel → m_X2_agreeOn_2 fuel y x (nI i) s = some (ab_ag fn fx y x c i, s) := by
  intro c
  induction c with
  | zero =>
    intro i fuel hi hf
    obtain ⟨n, rfl⟩ : ∃ n, fuel = n + 1 := ⟨fuel - 1, by omega⟩
    rw [m_X2_agreeOn_2, hn, if_pos (show nI N ≤ nI i from nI_le (by omega) (by omega))]
    rfl
  | succ c ih =>
    intro i fuel hi hf
    obtain ⟨n, rfl⟩ : ∃ n, fuel = n + 1 := ⟨fuel - 1, by omega⟩
    have e1 : nI i + (1 : Int32) = nI (i + 1) := by rw [nl_1, nI_add]
    rw [m_X2_agreeOn_2, hn, if_neg (show ¬ nI N ≤ nI i from nI_nl (by omega) (by omega)), cq_at_nI (by omega) (by omega), dn_bd_s, (h1 i (by omega)).1, ab_ag]
    unfold m_X2_agreeOn_36
    simp only [dn_lt_e, e1]
    have hi' := ih (i + 1) n (by omega) (by omega)
    by_cases q : fn i = y
    · rw [if_pos q, if_pos q, cq_at_nI (by omega) (by omega), dn_bd_s, (h1 i (by omega)).2]
      by_cases r : fx i = x
      · rw [if_pos r, if_pos r]; exact hi'
      · rw [if_neg r, if_neg r]
    · rw [if_neg q, if_neg q]; exact hi'
theorem cq_so_loop {τ : Tv} {fn fx : Nat → Int32} {N b n : Nat} {v0 : Int32} (hW : WT τ) (hN : N ≤ 5) (hb : b < 4) (hn : n < 5) : ∀ (c i fuel : Nat) (s : dn_S) (m : Mv), i + c = 8 → c < fuel → CT s 3 τ → CM s 24 τ m → mv_d m + c ≤ 100 → dn_g s 23 5 = nI N → (∀ i, i < N → dn_g s 28 i = fn i ∧ dn_g s 29 i = fx i) →
    ∃ s', m_X2_agreeWith_36 10 fuel (nI b) (nI n) v0 true (nI (i + 1)) s = some (ab_so τ fn fx N c i m, dn_p s' 4 (b * 7 + (2 + n)) v0) ∧ fr SC s s' := by
  intro c
  have h99 : ∀ (r : Bool) (s : dn_S), m_X2_agreeWith_99 10 (nI b) (nI n) v0 r s = some (r, dn_p s 4 (b * 7 + (2 + n)) v0) := by
    intro r s
    unfold m_X2_agreeWith_99 m_X10_setWorth m_X10_setOfBidder
    try simp (disch := omega) only [nl_0, nl_1, nl_2, nl_3, nl_4, nl_5, nl_6, nl_7, nl_8, nl_9, nl_10, nl_16, nl_17, nl_19, nl_20, nl_21, nl_30, nl_31, nl_32, nl_40, nl_41, nl_48, nl_50, nl_57, nl_60, nl_64, nl_99, nl_100, nl_119, nl_120, nl_121, nl_122, nl_123, nl_124, nl_125, nl_126, nl_130, nl_136, nl_200, nl_240, nl_255, nl_256, nl_257, nl_480, nl_1080, nI_add, nI_mul, nI_sub, cq_ib, nI_clamp, nI_leI, nI_ltI, nI_eq, dn_ck_t, dn_bd_s, dn_wr_e, dn_lt_e, cq_ofNat]
    rw [cq_put_nI (by omega) (by omega)]
    rfl
  induction c with
  | zero =>
    intro i fuel s m hi hf hT hM hd hn' hF
    obtain ⟨k, rfl⟩ : ∃ n, fuel = n + 1 := ⟨fuel - 1, by omega⟩
    rw [m_X2_agreeWith_36, if_pos (show 8 < nI (i + 1) from nI_lt (a := 8) (by omega) (by omega)), h99]
    exact ⟨s, rfl, fr_refl⟩
  | succ c ih =>
    intro i fuel s m hi hf hT hM hd hn' hF
    obtain ⟨k, rfl⟩ : ∃ n, fuel = n + 1 := ⟨fuel - 1, by omega⟩
    obtain ⟨s1, s2, e1, e2, hT2, hM2, f2⟩ := af_gc hW hT hM (by omega)
    have hd2 := ab_nt_d τ m
    have hn2 := (f2.1 23 5 (fun q => by unfold SC at q; omega)).trans hn'
    have hF2 : ∀ i, i < N → dn_g s2 28 i = fn i ∧ dn_g s2 29 i = fx i := fun i hi => ⟨(f2.1 28 i (fun q => by unfold SC at q; omega)).trans (hF i hi).1, (f2.1 29 i (fun q => by unfold SC at q; omega)).trans (hF i hi).2⟩
    rw [m_X2_agreeWith_36, if_neg (show ¬ 8 < nI (i + 1) from nI_nlt (a := 8) (by omega) (by omega)), if_pos rfl, e1, dn_bd_s, e2, dn_bd_s]
    have key : (if (ab_nt τ m).1 = -5 then m_X2_agreeWith_88 10 (m_X2_agreeWith_36 10 k) (nI b) (nI n) v0 (nI (i + 1)) (-1) (nI (i + 1)) s2 else m_X2_agreeWith_88 10 (m_X2_agreeWith_36 10 k) (nI b) (nI n) v0 (nI (i + 1)) (ab_nt τ m).1 (nI (i + 1)) s2)
        = m_X2_agreeWith_88 10 (m_X2_agreeWith_36 10 k) (nI b) (nI n) v0 (nI (i + 1)) (ab_nm (ab_nt τ m).1) (nI (i + 1)) s2 := by
      unfold ab_nm
      by_cases q : (ab_nt τ m).1 = -5
      · rw [if_pos q, if_pos q]
      · rw [if_neg q, if_neg q]
    rw [key]
    unfold m_X2_agreeWith_88 m_X2_agreeOn
    rw [nl_0, cq_ag (x := ab_nm (ab_nt τ m).1) (y := nI (i + 1)) hN hn2 hF2 N 0 2048 (by omega) (by omega), dn_bd_s, dn_lt_e, show nI (i + 1) + (1 : Int32) = nI (i + 1 + 1) from by rw [nl_1, nI_add], ab_so]
    by_cases q : ab_ag fn fx (nI (i + 1)) (ab_nm (ab_nt τ m).1) N 0 = true
    · rw [if_pos q, q]
      obtain ⟨s3, e3, f3⟩ := ih (i + 1) k s2 (ab_nt τ m).2 (by omega) (by omega) hT2 hM2 (by omega) hn2 hF2
      exact ⟨s3, e3, fr_trans f2 f3⟩
    · rw [if_neg q]
      have q' : ab_ag fn fx (nI (i + 1)) (ab_nm (ab_nt τ m).1) N 0 = false := by simpa using q
      rw [q']
      obtain ⟨k', rfl⟩ : ∃ n, k = n + 1 := ⟨k - 1, by omega⟩
      rw [m_X2_agreeWith_36, h99]
      refine ⟨s2, ?_, f2⟩
      by_cases r : 8 < nI (i + 1 + 1)
      · rw [if_pos r]
      · rw [if_neg r, if_neg (by decide)]
theorem fr_back {P : Nat → Nat → Prop} {s s' : dn_S} {k j : Nat} {v0 : Int32} (hf : fr (fun a i => P a i ∨ (a = k ∧ i = j)) s s') (h : dn_g s k j = v0) : fr P s (dn_p s' k j v0) := by
  refine ⟨fun a i q => ?_, (show dn_l (dn_p s' k j v0) = dn_l s' from rfl).trans hf.2⟩
  rw [dn_g_p]
  by_cases r : a = k ∧ i = j
  · rw [if_pos r, r.1, r.2, h]
  · rw [if_neg r]; exact hf.1 a i (fun z => z.elim q r)
theorem cq_agree {s : dn_S} {τ : Tv} {m : Mv} {fn fx : Nat → Int32} {N b n v : Nat} (hW : WT τ) (hT : CT s 3 τ) (hM : CM s 10 τ m) (hd : mv_d m ≤ 60) (hN : N ≤ 5) (hb : b < tv_b τ) (hn : n < 5) (hv : v ≤ 20) (hn' : dn_g s 23 5 = nI N) (hF : ∀ i, i < N → dn_g s 28 i = fn i ∧ dn_g s 29 i = fx i) :
    ∃ s', m_X2_agreeWith 10 (nI b) (nI n) (nI v) s = some (ab_so (ab_tw τ b n (nI v)) fn fx N 8 0 m, s') ∧ fr SC s s' := by
  have h4 := hW.1
  have ew : m_X10_setWorth 3 (nI b) (nI n) (nI v) s = some ((), dn_p s 4 (b * 7 + (2 + n)) (nI v)) := by
    unfold m_X10_setWorth m_X10_setOfBidder
    try simp (disch := omega) only [nl_0, nl_1, nl_2, nl_3, nl_4, nl_5, nl_6, nl_7, nl_8, nl_9, nl_10, nl_16, nl_17, nl_19, nl_20, nl_21, nl_30, nl_31, nl_32, nl_40, nl_41, nl_48, nl_50, nl_57, nl_60, nl_64, nl_99, nl_100, nl_119, nl_120, nl_121, nl_122, nl_123, nl_124, nl_125, nl_126, nl_130, nl_136, nl_200, nl_240, nl_255, nl_256, nl_257, nl_480, nl_1080, nI_add, nI_mul, nI_sub, cq_ib, nI_clamp, nI_leI, nI_ltI, nI_eq, dn_ck_t, dn_bd_s, dn_wr_e, dn_lt_e, cq_ofNat]
    rw [cq_put_nI (by omega) (by omega)]
    rfl
  have hT1 : CT (dn_p s 4 (b * 7 + (2 + n)) (nI v)) 3 (ab_tw τ b n (nI v)) := tw_CT hn hT
  have f1 : fr (fun a i => SC a i ∨ (a = 4 ∧ i = b * 7 + (2 + n))) s (dn_p s 4 (b * 7 + (2 + n)) (nI v)) := fr_p (Or.inr ⟨rfl, rfl⟩)
  have hM1 : CM (dn_p s 4 (b * 7 + (2 + n)) (nI v)) 10 τ m := hM.fr f1 (fun a j q => q.elim (fun q => SC_cm q) (fun q => by omega))
  obtain ⟨s2, e2, z2, f2⟩ := cq_copyM (k := 24) (k1 := 10) (dn_p s 4 (b * 7 + (2 + n)) (nI v)) (by omega)
  have f2' : fr SC (dn_p s 4 (b * 7 + (2 + n)) (nI v)) s2 := fr_mono f2 (fun a j q => by unfold PM at q; unfold SC; omega)
  have f12 : fr (fun a i => SC a i ∨ (a = 4 ∧ i = b * 7 + (2 + n))) s s2 := fr_trans f1 (fr_mono f2' (fun a j q => Or.inl q))
  obtain ⟨s3, e3, f3⟩ := cq_so_loop (fn := fn) (fx := fx) (v0 := tv_F τ b (n + 2)) (b := b) (n := n) (tw_W (b := b) (n := n) hW hv) hN (by omega) hn 8 0 2048 s2 m (by omega) (by omega) (hT1.fr f2' (fun a j q => SC_ct q)) (show CM s2 24 τ m from z2.cm h4 hM1 (by omega)) (by omega)
    ((f12.1 23 5 (fun q => by rcases q with q | q <;> (try unfold SC at q) <;> omega)).trans hn') (fun i hi => ⟨(f12.1 28 i (fun q => by rcases q with q | q <;> (try unfold SC at q) <;> omega)).trans (hF i hi).1, (f12.1 29 i (fun q => by rcases q with q | q <;> (try unfold SC at q) <;> omega)).trans (hF i hi).2⟩)
  have h0 : dn_g s 4 (b * 7 + (2 + n)) = tv_F τ b (n + 2) := by
    rw [show b * 7 + (2 + n) = b * 7 + (n + 2) by omega]
    exact hT.2.2.2.1 b hb (n + 2) (by omega)
  refine ⟨dn_p s3 4 (b * 7 + (2 + n)) (tv_F τ b (n + 2)), ?_, fr_back (fr_trans f12 (fr_mono f3 (fun a j q => Or.inl q))) h0⟩
  unfold m_X2_agreeWith
  rw [cq_worth hT hb hn h4, dn_bd_s, ew, dn_bd_s, e2, dn_bd_s]
  exact e3
theorem rq_ag {K8 : Bool → Int32 → dn_S → Option (Bool × dn_S)} {t : dn_S} {fn fx : Nat → Int32} {N : Nat} {y r : Int32} (hN : N ≤ 5) (hn : dn_g t 100 10 = nI N) (h1 : ∀ i, i < N → dn_g t 107 i = fn i ∧ dn_g t 108 i = fx i) : ∀ c i fuel (f : Bool), i + c = N → c < fuel → m_X12_isSo_24 K8 fuel f y r (nI i) t = K8 (f && ab_ag fn fx y (ab_nm r) c i) (y + 1) t := by
  intro c
  induction c with
  | zero =>
    intro i fuel f hi hf
    obtain ⟨n, rfl⟩ : ∃ n, fuel = n + 1 := ⟨fuel - 1, by omega⟩
    rw [m_X12_isSo_24, hn, if_pos (show nI N ≤ nI i from nI_le (by omega) (by omega)), dn_lt_e]
    cases f <;> rfl
  | succ c ih =>
    intro i fuel f hi hf
    obtain ⟨n, rfl⟩ : ∃ n, fuel = n + 1 := ⟨fuel - 1, by omega⟩
    have e1 : nI i + (1 : Int32) = nI (i + 1) := by rw [nl_1, nI_add]
    rw [m_X12_isSo_24, hn, if_neg (show ¬ nI N ≤ nI i from nI_nl (by omega) (by omega)), cq_ib (show i < 5 by omega) (by omega), dn_ck_t, dn_ck_t, nI_clamp (by omega), (h1 i (by omega)).1, (h1 i (by omega)).2, ab_ag]
    unfold m_X12_isSo_66 m_X12_isSo_69 m_X12_isSo_73 m_X12_isSo_74
    simp only [dn_lt_e, e1]
    rw [ih (i + 1) n true (by omega) (by omega), ih (i + 1) n false (by omega) (by omega)]
    cases f with
    | false => rw [if_neg (by decide)]; rfl
    | true =>
      rw [if_pos rfl]
      by_cases q : fn i = y
      · rw [if_pos q, if_pos q]
        have key : (if r = -5 then (if fx i = -1 then K8 (true && ab_ag fn fx y (ab_nm r) c (i + 1)) (y + 1) t else K8 (false && ab_ag fn fx y (ab_nm r) c (i + 1)) (y + 1) t) else (if fx i = r then K8 (true && ab_ag fn fx y (ab_nm r) c (i + 1)) (y + 1) t else K8 (false && ab_ag fn fx y (ab_nm r) c (i + 1)) (y + 1) t))
            = (if fx i = ab_nm r then K8 (true && ab_ag fn fx y (ab_nm r) c (i + 1)) (y + 1) t else K8 (false && ab_ag fn fx y (ab_nm r) c (i + 1)) (y + 1) t) := by
          by_cases z : r = -5
          · rw [if_pos z, show ab_nm r = -1 from if_pos z]
          · rw [if_neg z, show ab_nm r = r from if_neg z]
        rw [key]
        by_cases z : fx i = ab_nm r
        · rw [if_pos z, if_pos z]
        · rw [if_neg z, if_neg z]; rfl
      · rw [if_neg q, if_neg q]
theorem rq_so_loop {τ : Tv} {fn fx : Nat → Int32} {N : Nat} (hW : WT τ) (hN : N ≤ 5) : ∀ (c i fuel : Nat) (t : dn_S) (m : Mv) (f : Bool), i + c = 8 → c < fuel → RT t τ → RM t 120 τ m → RO t 120 (-9, 0) → mv_d m + c ≤ 100 → dn_g t 100 10 = nI N → (∀ i, i < N → dn_g t 107 i = fn i ∧ dn_g t 108 i = fx i) →
    ∃ t', m_X12_isSo_8 fuel f (nI (i + 1)) t = some (f && ab_so τ fn fx N c i m, t') ∧ fr SR t t' := by
  intro c
  induction c with
  | zero =>
    intro i fuel t m f hi hf hT hM hO hd hn hF
    obtain ⟨k, rfl⟩ : ∃ n, fuel = n + 1 := ⟨fuel - 1, by omega⟩
    rw [m_X12_isSo_8, if_pos (show 8 < nI (i + 1) from nI_lt (a := 8) (by omega) (by omega))]
    exact ⟨t, by cases f <;> rfl, fr_refl⟩
  | succ c ih =>
    intro i fuel t m f hi hf hT hM hO hd hn hF
    obtain ⟨k, rfl⟩ : ∃ n, fuel = n + 1 := ⟨fuel - 1, by omega⟩
    obtain ⟨t1, e1, hT1, hM1, hO1, f1⟩ := ah_gr hW hT hM hO (by omega)
    have hd2 := ab_nt_d τ m
    have hn1 := (f1.1 100 10 (fun q => by unfold SR at q; omega)).trans hn
    have hF1 : ∀ i, i < N → dn_g t1 107 i = fn i ∧ dn_g t1 108 i = fx i := fun i hi => ⟨(f1.1 107 i (fun q => by unfold SR at q; omega)).trans (hF i hi).1, (f1.1 108 i (fun q => by unfold SR at q; omega)).trans (hF i hi).2⟩
    obtain ⟨t2, e2, f2⟩ := ih (i + 1) k t1 (ab_nt τ m).2 (f && ab_ag fn fx (nI (i + 1)) (ab_nm (ab_nt τ m).1) N 0) (by omega) (by omega) hT1 hM1 hO1 (by omega) hn1 hF1
    refine ⟨t2, ?_, fr_trans f1 f2⟩
    rw [m_X12_isSo_8, if_neg (show ¬ 8 < nI (i + 1) from nI_nlt (a := 8) (by omega) (by omega)), e1, dn_bd_s, nl_0, rq_ag (fn := fn) (fx := fx) hN hn1 hF1 N 0 2048 f (by omega) (by omega), show nI (i + 1) + (1 : Int32) = nI (i + 1 + 1) from by rw [nl_1, nI_add], e2, ab_so]
    cases f <;> cases ab_ag fn fx (nI (i + 1)) (ab_nm (ab_nt τ m).1) N 0 <;> rfl
theorem rq_so {t : dn_S} {τ : Tv} {m : Mv} {fn fx : Nat → Int32} {N : Nat} (hW : WT τ) (hT : RT t τ) (hM : RM t 0 τ m) (hd : mv_d m ≤ 60) (hN : N ≤ 5) (hn : dn_g t 100 10 = nI N) (hF : ∀ i, i < N → dn_g t 107 i = fn i ∧ dn_g t 108 i = fx i) :
    ∃ t', m_X12_isSo t = some (ab_so τ fn fx N 8 0 m, t') ∧ fr SR t t' := by
  obtain ⟨t1, e1, hT1, hM1, hO1, f1⟩ := ah_r hW hT hM (by omega)
  obtain ⟨t2, e2, f2⟩ := rq_so_loop (fn := fn) (fx := fx) hW hN 8 0 2048 t1 m true (by omega) (by omega) hT1 hM1 hO1 (by omega) ((f1.1 100 10 (fun q => by unfold SR at q; omega)).trans hn) (fun i hi => ⟨(f1.1 107 i (fun q => by unfold SR at q; omega)).trans (hF i hi).1, (f1.1 108 i (fun q => by unfold SR at q; omega)).trans (hF i hi).2⟩)
  refine ⟨t2, ?_, fr_trans f1 f2⟩
  unfold m_X12_isSo
  rw [e1, dn_bd_s]
  exact e2
def ab_ms (so : Bool) (w : Int32) (z : Nat × Int32) : Nat × Int32 := if so = true then (z.1 + 1, if z.1 = 0 then w else z.2) else z
def ab_mb (so : Nat → Bool) : Nat → Nat → Nat × Int32 → Nat × Int32
  | 0, _, z => z
  | c + 1, i, z => ab_mb so c (i + 1) (ab_ms (so i) (nI i) z)
def ab_mr (a : Int32) (z : Nat × Int32) : Int32 := if a = 0 then nI z.1 else z.2
def ab_mo (i : Nat) (z : Nat × Int32) : Prop := z.1 ≤ i ∧ (z.1 = 0 ∧ z.2 = -9 ∨ z.1 ≠ 0 ∧ z.2 ≠ -9)
theorem ab_mo_s {so : Bool} {i : Nat} {z : Nat × Int32} (hi : i < 100) (hz : ab_mo i z) : ab_mo (i + 1) (ab_ms so (nI i) z) := by
  obtain ⟨h1, h2⟩ := hz
  unfold ab_ms
  cases so with
  | false => rw [if_neg (by decide)]; exact ⟨by omega, h2⟩
  | true =>
    rw [if_pos rfl]
    refine ⟨by show z.1 + 1 ≤ i + 1; omega, Or.inr ⟨by show z.1 + 1 ≠ 0; omega, ?_⟩⟩
    show (if z.1 = 0 then nI i else z.2) ≠ -9
    rcases h2 with ⟨q, _⟩ | ⟨q, r⟩
    · rw [if_pos q]; exact nI_n9 (by omega)
    · rw [if_neg q]; exact r
theorem cq_mb_loop {τ : Tv} {m : Mv} {fn fx : Nat → Int32} {N b n : Nat} {a : Int32} (hW : WT τ) (hd : mv_d m ≤ 60) (hN : N ≤ 5) (hb : b < tv_b τ) (hn : n < 5) : ∀ (c i fuel : Nat) (s : dn_S) (z : Nat × Int32), i + c = 21 → c < fuel → CT s 3 τ → CM s 10 τ m → dn_g s 23 5 = nI N → (∀ i, i < N → dn_g s 28 i = fn i ∧ dn_g s 29 i = fx i) → ab_mo i z →
    ∃ s', m_X11_mayBe_36 fuel (nI b) (nI n) a (nI z.1) z.2 (nI i) s = some (ab_mr a (ab_mb (fun v => ab_so (ab_tw τ b n (nI v)) fn fx N 8 0 m) c i z), s') ∧ fr SC s s' := by
  intro c
  induction c with
  | zero =>
    intro i fuel s z hi hf hT hM hn' hF hz
    obtain ⟨k, rfl⟩ : ∃ n, fuel = n + 1 := ⟨fuel - 1, by omega⟩
    rw [m_X11_mayBe_36, if_pos (show 20 < nI i from nI_lt (a := 20) (by omega) (by omega)), ab_mb]
    refine ⟨s, ?_, fr_refl⟩
    unfold ab_mr
    split <;> rfl
  | succ c ih =>
    intro i fuel s z hi hf hT hM hn' hF hz
    obtain ⟨k, rfl⟩ : ∃ n, fuel = n + 1 := ⟨fuel - 1, by omega⟩
    obtain ⟨s1, e1, f1⟩ := cq_agree (v := i) (fn := fn) (fx := fx) hW hT hM hd hN hb hn (by omega) hn' hF
    obtain ⟨s2, e2, f2⟩ := ih (i + 1) k s1 (ab_ms (ab_so (ab_tw τ b n (nI i)) fn fx N 8 0 m) (nI i) z) (by omega) (by omega) (hT.fr f1 (fun a j q => SC_ct q)) (hM.fr f1 (fun a j q => SC_cm q)) ((f1.1 23 5 (fun q => by unfold SC at q; omega)).trans hn') (fun i hi => ⟨(f1.1 28 i (fun q => by unfold SC at q; omega)).trans (hF i hi).1, (f1.1 29 i (fun q => by unfold SC at q; omega)).trans (hF i hi).2⟩) (ab_mo_s (by omega) hz)
    refine ⟨s2, ?_, fr_trans f1 f2⟩
    rw [m_X11_mayBe_36, if_neg (show ¬ 20 < nI i from nI_nlt (a := 20) (by omega) (by omega)), e1, dn_bd_s, ab_mb]
    unfold m_X11_mayBe_78
    have e3 : nI i + (1 : Int32) = nI (i + 1) := by rw [nl_1, nI_add]
    have e4 : nI z.1 + (1 : Int32) = nI (z.1 + 1) := by rw [nl_1, nI_add]
    simp only [dn_lt_e, e3, e4]
    generalize ab_so (ab_tw τ b n (nI i)) fn fx N 8 0 m = so at e2 ⊢
    cases so with
    | false =>
      rw [if_neg (by decide)]
      exact e2
    | true =>
      rw [if_pos rfl]
      rcases hz.2 with ⟨q1, q2⟩ | ⟨q1, q2⟩
      · rw [if_pos q2]
        rw [show ab_ms true (nI i) z = (z.1 + 1, nI i) from by unfold ab_ms; rw [if_pos rfl, if_pos q1]] at e2 ⊢
        exact e2
      · rw [if_neg q2]
        rw [show ab_ms true (nI i) z = (z.1 + 1, z.2) from by unfold ab_ms; rw [if_pos rfl, if_neg q1]] at e2 ⊢
        exact e2
theorem rq_mb_loop {τ : Tv} {m : Mv} {fn fx : Nat → Int32} {N b n : Nat} {a w0 : Int32} (hW : WT τ) (hd : mv_d m ≤ 60) (hN : N ≤ 5) (hb : b < tv_b τ) (hn : n < 5) : ∀ (c i fuel : Nat) (t : dn_S) (z : Nat × Int32) (w : Int32), i + c = 21 → c < fuel → RT t (ab_tw τ b n w) → RM t 0 τ m → dn_g t 100 10 = nI N → (∀ i, i < N → dn_g t 107 i = fn i ∧ dn_g t 108 i = fx i) → z.1 ≤ i →
    ∃ t', m_X12_mayBe_53 fuel a (nI (5 * b + n)) w0 (nI z.1) z.2 (nI i) t = some (ab_mr a (ab_mb (fun v => ab_so (ab_tw τ b n (nI v)) fn fx N 8 0 m) c i z), dn_p t' 105 (5 * b + n) w0) ∧ fr (fun a j => SR a j ∨ (a = 105 ∧ j = 5 * b + n)) t t' := by
  have h4 := hW.1
  intro c
  induction c with
  | zero =>
    intro i fuel t z w hi hf hT hM hn' hF hz
    obtain ⟨k, rfl⟩ : ∃ n, fuel = n + 1 := ⟨fuel - 1, by omega⟩
    rw [m_X12_mayBe_53, if_pos (show 20 < nI i from nI_lt (a := 20) (by omega) (by omega)), cq_ib (show 5 * b + n < 20 by omega) (by omega), dn_ck_t, nI_clamp (by omega), dn_wr_e, ab_mb]
    refine ⟨t, ?_, fr_refl⟩
    unfold ab_mr
    split <;> rfl
  | succ c ih =>
    intro i fuel t z w hi hf hT hM hn' hF hz
    obtain ⟨k, rfl⟩ : ∃ n, fuel = n + 1 := ⟨fuel - 1, by omega⟩
    have f0 : fr (fun a j => SR a j ∨ (a = 105 ∧ j = 5 * b + n)) t (dn_p t 105 (5 * b + n) (nI i)) := fr_p (Or.inr ⟨rfl, rfl⟩)
    have hT0 : RT (dn_p t 105 (5 * b + n) (nI i)) (ab_tw τ b n (nI i)) := tw_RT hn hT
    have hM0 : RM (dn_p t 105 (5 * b + n) (nI i)) 0 τ m := hM.fr f0 (by omega) h4 (fun a j q => q.elim (fun q => SR_rm q) (fun q => by omega))
    have hn0 : dn_g (dn_p t 105 (5 * b + n) (nI i)) 100 10 = nI N := by rw [dn_p_k _ _ _ _ _ _ (by decide)]; exact hn'
    have hF0 : ∀ j, j < N → dn_g (dn_p t 105 (5 * b + n) (nI i)) 107 j = fn j ∧ dn_g (dn_p t 105 (5 * b + n) (nI i)) 108 j = fx j := fun j hj => ⟨by rw [dn_p_k _ _ _ _ _ _ (by decide)]; exact (hF j hj).1, by rw [dn_p_k _ _ _ _ _ _ (by decide)]; exact (hF j hj).2⟩
    obtain ⟨t1, e1, f1⟩ := rq_so (fn := fn) (fx := fx) (tw_W (b := b) (n := n) hW (show i ≤ 20 by omega)) hT0 hM0 hd hN hn0 hF0
    obtain ⟨t2, e2, f2⟩ := ih (i + 1) k t1 (ab_ms (ab_so (ab_tw τ b n (nI i)) fn fx N 8 0 m) (nI i) z) (nI i) (by omega) (by omega) (hT0.fr f1 (fun a j q => SR_rt q)) (hM0.fr f1 (by omega) h4 (fun a j q => SR_rm q)) ((f1.1 100 10 (fun q => by unfold SR at q; omega)).trans hn0) (fun i hi => ⟨(f1.1 107 i (fun q => by unfold SR at q; omega)).trans (hF0 i hi).1, (f1.1 108 i (fun q => by unfold SR at q; omega)).trans (hF0 i hi).2⟩) (by unfold ab_ms; split <;> (first | (show z.1 + 1 ≤ i + 1; omega) | omega))
    refine ⟨t2, ?_, fr_trans f0 (fr_trans (fr_mono f1 (fun a j q => Or.inl q)) f2)⟩
    rw [m_X12_mayBe_53, if_neg (show ¬ 20 < nI i from nI_nlt (a := 20) (by omega) (by omega)), cq_ib (show 5 * b + n < 20 by omega) (by omega), dn_ck_t, nI_clamp (by omega), dn_wr_e, e1, dn_bd_s, ab_mb]
    unfold m_X12_mayBe_88 m_X12_mayBe_93
    have e3 : nI i + (1 : Int32) = nI (i + 1) := by rw [nl_1, nI_add]
    have e4 : nI z.1 + (1 : Int32) = nI (z.1 + 1) := by rw [nl_1, nI_add]
    simp only [dn_lt_e, e3, e4]
    generalize ab_so (ab_tw τ b n (nI i)) fn fx N 8 0 m = so at e2 ⊢
    cases so with
    | false =>
      rw [if_neg (by decide)]
      exact e2
    | true =>
      rw [if_pos rfl]
      by_cases q : z.1 = 0
      · rw [if_pos (by rw [q]; rfl)]
        rw [show ab_ms true (nI i) z = (z.1 + 1, nI i) from by unfold ab_ms; rw [if_pos rfl, if_pos q]] at e2 ⊢
        exact e2
      · rw [if_neg (show ¬ nI z.1 = 0 from fun r => q ((nI_eq (a := z.1) (b := 0) (by omega) (by omega)).mp r))]
        rw [show ab_ms true (nI i) z = (z.1 + 1, z.2) from by unfold ab_ms; rw [if_pos rfl, if_neg q]] at e2 ⊢
        exact e2
theorem ok_mayBe (a1 a2 a3 : Int32) : Ok Int32 (m_X11_mayBe a1 a2 a3) (m_X12_mayBe a1 a2 a3) := by
  intro s t hR
  obtain ⟨τ, hW, hT, hU, ⟨m, o, hM, hN, -, -, hd, -⟩, -, ⟨N, hN5, q1, q2, q3⟩, -⟩ := id hR
  have h4 := hW.1
  unfold m_X11_mayBe m_X12_mayBe
  rw [cq_isBidder a1 hW hT, rq_isBidder a1 hW hU, dn_bd_s, dn_bd_s]
  by_cases h1 : ab_in a1.toInt (0 : Nat) ((tv_b τ : Int) - 1) = true
  · obtain ⟨b, hb, rfl⟩ := in_split1 h1
    rw [if_pos h1, if_pos h1, cq_isName, rq_isName, dn_bd_s, dn_bd_s]
    by_cases h2 : ab_in a2.toInt (0 : Nat) (4 : Nat) = true
    · obtain ⟨n, _, hn, rfl⟩ := in_split h2
      rw [if_pos h2, if_pos h2, cq_within, rq_in, rq_i64, i32_0, i32_1, i64_0, i64_1, dn_bd_s, dn_bd_s]
      by_cases h3 : ab_in a3.toInt (0 : Nat) (1 : Nat) = true
      · rw [if_pos h3, if_pos h3]
        have e5 : (5 : Int32) * nI b + nI n = nI (5 * b + n) := by rw [nl_5, nI_mul, nI_add]
        rw [dn_lt_e, e5, cq_ib (show 5 * b + n < 20 by omega) (by omega), dn_ck_t, dn_lt_e, nI_clamp (by omega)]
        obtain ⟨s1, e1, f1⟩ := cq_mb_loop (a := a3) (fn := fun i => dn_g s 28 i) (fx := fun i => dn_g s 29 i) hW hd hN5 hb (show n < 5 by omega) 21 0 2048 s (0, -9) (by omega) (by omega) hT hM q1 (fun i hi => ⟨rfl, rfl⟩) ⟨by omega, Or.inl ⟨rfl, rfl⟩⟩
        obtain ⟨t1, g1, k1⟩ := rq_mb_loop (a := a3) (w0 := dn_g t 105 (5 * b + n)) (fn := fun i => dn_g s 28 i) (fx := fun i => dn_g s 29 i) hW hd hN5 hb (show n < 5 by omega) 21 0 2048 t (0, -9) _ (by omega) (by omega) (tw_R0 (b := b) (n := n) hU) hN q2 (fun i hi => ⟨(q3 i hi).1.symm, (q3 i hi).2.symm⟩) (by omega)
        have e1' : m_X11_mayBe_36 2048 (nI b) (nI n) a3 0 (-9) 0 s = _ := e1
        have g1' : m_X12_mayBe_53 2048 a3 (nI (5 * b + n)) (dn_g t 105 (5 * b + n)) 0 (-9) 0 t = _ := g1
        rw [e1', g1']
        exact ⟨_, s1, _, rfl, rfl, hR.scr f1 (fr_back k1 rfl)⟩
      · rw [if_neg h3, if_neg h3]
        exact ⟨_, s, t, rfl, rfl, hR⟩
    · rw [if_neg h2, if_neg h2]
      exact ⟨_, s, t, rfl, rfl, hR⟩
  · rw [if_neg h1, if_neg h1]
    exact ⟨_, s, t, rfl, rfl, hR⟩
