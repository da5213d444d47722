/-! the law: one case a call (written by wip/whole/gen_law.py) -/
theorem dn_cmp_self (x : Int64) : dn_cmp x x = 0 := by unfold dn_cmp lg_cmp; rw [if_neg (Int64.lt_irrefl), if_pos rfl]
set_option maxRecDepth 100000 in
set_option maxHeartbeats 4000000 in
theorem lc_odds {p : Program} {l : Launch} {e : Env} {s : State} {m : MethodId} {below : List Frame} {meth : Method} {c : Code} {b L : Nat} {xs : Nat → Int32} {Z : State → Prop} (C0 : lw_At p s m meth c b L xs) {u v : dn_U} (K0 : lw_Cst s u v) {σ τ : dn_S} (hR : Rel σ τ) {H : Heap} {locs : List Loc} (I : lw_Inv s u v σ τ H locs) {x3 : Int32} {ls : Array Slot} (hin : vp_in (x3 + 1) L ∧ vp_in (x3 + 2) L ∧ vp_in (x3 + 3) L ∧ vp_in (x3 + 4) L) (hl : lv_has ls 4 [(0, .ref b), (1, .ref (dn_a u 0)), (2, .ref (dn_a v 100)), (3, .int x3)]) (kk : ∀ (σ τ : dn_S) (H : Heap) (locs : List Loc), Rel σ τ → lw_Inv s u v σ τ H locs → W p l e room_1 s m #[Value.ref b] below meth c H locs 106 4363 Z (F0 m 952 ls [])) : W p l e room_1 s m #[Value.ref b] below meth c H locs 106 4363 Z (F0 m 783 ls []) := by
  obtain ⟨hx, hb, hr, hml, hown, hts, hX, hbl, hlocks, hgv⟩ := id C0
  obtain ⟨⟨hu, hv⟩, ⟨hKu, hKv⟩, ⟨hzu, hzv⟩, hN, ⟨hIu, hIv⟩, ⟨hAu, hAv⟩, hdis⟩ := K0
  obtain ⟨hPu, hPv, hS⟩ := I
  have hbA : ¬ (fun q : Nat => s.heap.size ≤ q) b := Nat.not_le.mpr hbl
  obtain ⟨r, σ1, τ1, e1, e2, hR1⟩ := ok_odds (xs (x3 + 1).toNatClampNeg) (xs (x3 + 2).toNatClampNeg) (xs (x3 + 3).toNatClampNeg) (xs (x3 + 4).toNatClampNeg) σ τ hR
  refine lv_aload_n hx hb dL_law_783 rfl (lv_at hl 1 rfl) ?_
  refine lv_aload_n hx hb dL_law_784 rfl (lv_at hl 0 rfl) ?_
  refine lv_iload_n hx hb dL_law_785 rfl (lv_at hl 3 rfl) ?_
  refine lv_iconst (v := 1) hx hb dL_law_786 (by decide) ?_
  refine lv_iadd hx hb dL_law_787 ?_
  refine va_sld hx hb hX hbl hbA hS hin.1 dL_law_788 ?_
  refine lv_aload_n hx hb dL_law_789 rfl (lv_at hl 0 rfl) ?_
  refine lv_iload_n hx hb dL_law_790 rfl (lv_at hl 3 rfl) ?_
  refine lv_iconst (v := 2) hx hb dL_law_791 (by decide) ?_
  refine lv_iadd hx hb dL_law_792 ?_
  refine va_sld hx hb hX hbl hbA hS hin.2.1 dL_law_793 ?_
  refine lv_aload_n hx hb dL_law_794 rfl (lv_at hl 0 rfl) ?_
  refine lv_iload_n hx hb dL_law_795 rfl (lv_at hl 3 rfl) ?_
  refine lv_iconst (v := 3) hx hb dL_law_796 (by decide) ?_
  refine lv_iadd hx hb dL_law_797 ?_
  refine va_sld hx hb hX hbl hbA hS hin.2.2.1 dL_law_798 ?_
  refine lv_aload_n hx hb dL_law_799 rfl (lv_at hl 0 rfl) ?_
  refine lv_iload_n hx hb dL_law_800 rfl (lv_at hl 3 rfl) ?_
  refine lv_iconst (v := 4) hx hb dL_law_801 (by decide) ?_
  refine lv_iadd hx hb dL_law_802 ?_
  refine va_sld hx hb hX hbl hbA hS hin.2.2.2 dL_law_803 ?_
  refine lw_call C0 hKu hzu hN hIu hAu (T := TX11) (N := 10) [.int (xs (x3 + 1).toNatClampNeg), .int (xs (x3 + 2).toNatClampNeg), .int (xs (x3 + 3).toNatClampNeg), .int (xs (x3 + 4).toNatClampNeg)] (rest := []) (dn_h0 hu) rfl rfl (c_X11_odds l u hu (xs (x3 + 1).toNatClampNeg) (xs (x3 + 2).toNatClampNeg) (xs (x3 + 3).toNatClampNeg) (xs (x3 + 4).toNatClampNeg) σ) e1 tv_X11_odds rfl dn_hd_X11_odds rfl rfl rfl rfl dL_law_804 hPu hS hl.1 (fun H1 locs1 hP1 hk1 hS1 => ?_)
  have hPv := lw_kept hPv hk1 (fun q h1 h2 => hdis q h2 h1)
  clear hk1 hS
  clear hPu
  have hPu := hP1
  clear hP1
  have hS := hS1
  clear hS1
  generalize H1 = H at *
  refine lv_aload_n hx hb dL_law_807 rfl (lv_at hl 2 rfl) ?_
  refine lv_aload_n hx hb dL_law_808 rfl (lv_at hl 0 rfl) ?_
  refine lv_iload_n hx hb dL_law_809 rfl (lv_at hl 3 rfl) ?_
  refine lv_iconst (v := 1) hx hb dL_law_810 (by decide) ?_
  refine lv_iadd hx hb dL_law_811 ?_
  refine va_sld hx hb hX hbl hbA hS hin.1 dL_law_812 ?_
  refine lv_aload_n hx hb dL_law_813 rfl (lv_at hl 0 rfl) ?_
  refine lv_iload_n hx hb dL_law_814 rfl (lv_at hl 3 rfl) ?_
  refine lv_iconst (v := 2) hx hb dL_law_815 (by decide) ?_
  refine lv_iadd hx hb dL_law_816 ?_
  refine va_sld hx hb hX hbl hbA hS hin.2.1 dL_law_817 ?_
  refine lv_aload_n hx hb dL_law_818 rfl (lv_at hl 0 rfl) ?_
  refine lv_iload_n hx hb dL_law_819 rfl (lv_at hl 3 rfl) ?_
  refine lv_iconst (v := 3) hx hb dL_law_820 (by decide) ?_
  refine lv_iadd hx hb dL_law_821 ?_
  refine va_sld hx hb hX hbl hbA hS hin.2.2.1 dL_law_822 ?_
  refine lv_aload_n hx hb dL_law_823 rfl (lv_at hl 0 rfl) ?_
  refine lv_iload_n hx hb dL_law_824 rfl (lv_at hl 3 rfl) ?_
  refine lv_iconst (v := 4) hx hb dL_law_825 (by decide) ?_
  refine lv_iadd hx hb dL_law_826 ?_
  refine va_sld hx hb hX hbl hbA hS hin.2.2.2 dL_law_827 ?_
  refine lw_call C0 hKv hzv hN hIv hAv (T := TX12) (N := 35) [.int (xs (x3 + 1).toNatClampNeg), .int (xs (x3 + 2).toNatClampNeg), .int (xs (x3 + 3).toNatClampNeg), .int (xs (x3 + 4).toNatClampNeg)] (rest := [.int r]) (dn_h100 hv) rfl rfl (c_X12_odds l v hv (xs (x3 + 1).toNatClampNeg) (xs (x3 + 2).toNatClampNeg) (xs (x3 + 3).toNatClampNeg) (xs (x3 + 4).toNatClampNeg) τ) e2 tv_X12_odds rfl dn_hd_X12_odds rfl rfl rfl rfl dL_law_828 hPv hS hl.1 (fun H1 locs1 hP1 hk1 hS1 => ?_)
  have hPu := lw_kept hPu hk1 hdis
  clear hk1 hS
  clear hPv
  have hPv := hP1
  clear hP1
  have hS := hS1
  clear hS1
  generalize H1 = H at *
  refine lv_icmp_eq (tgt := 952) hx hb dL_law_831 (by decide) (fun _ => ?_) (fun hc => absurd rfl hc)
  exact kk σ1 τ1 _ _ hR1 ⟨hPu, hPv, hS⟩
set_option maxRecDepth 100000 in
set_option maxHeartbeats 4000000 in
theorem lc_rate {p : Program} {l : Launch} {e : Env} {s : State} {m : MethodId} {below : List Frame} {meth : Method} {c : Code} {b L : Nat} {xs : Nat → Int32} {Z : State → Prop} (C0 : lw_At p s m meth c b L xs) {u v : dn_U} (K0 : lw_Cst s u v) {σ τ : dn_S} (hR : Rel σ τ) {H : Heap} {locs : List Loc} (I : lw_Inv s u v σ τ H locs) {x3 : Int32} {ls : Array Slot} (hin : vp_in (x3 + 1) L ∧ vp_in (x3 + 2) L ∧ vp_in (x3 + 3) L ∧ vp_in (x3 + 4) L) (hl : lv_has ls 4 [(0, .ref b), (1, .ref (dn_a u 0)), (2, .ref (dn_a v 100)), (3, .int x3)]) (kk : ∀ (σ τ : dn_S) (H : Heap) (locs : List Loc), Rel σ τ → lw_Inv s u v σ τ H locs → W p l e room_1 s m #[Value.ref b] below meth c H locs 106 4363 Z (F0 m 952 ls [])) : W p l e room_1 s m #[Value.ref b] below meth c H locs 106 4363 Z (F0 m 836 ls []) := by
  obtain ⟨hx, hb, hr, hml, hown, hts, hX, hbl, hlocks, hgv⟩ := id C0
  obtain ⟨⟨hu, hv⟩, ⟨hKu, hKv⟩, ⟨hzu, hzv⟩, hN, ⟨hIu, hIv⟩, ⟨hAu, hAv⟩, hdis⟩ := K0
  obtain ⟨hPu, hPv, hS⟩ := I
  have hbA : ¬ (fun q : Nat => s.heap.size ≤ q) b := Nat.not_le.mpr hbl
  obtain ⟨r, σ1, τ1, e1, e2, hR1⟩ := ok_rate (xs (x3 + 1).toNatClampNeg) (xs (x3 + 2).toNatClampNeg) σ τ hR
  refine lv_aload_n hx hb dL_law_836 rfl (lv_at hl 1 rfl) ?_
  refine lv_aload_n hx hb dL_law_837 rfl (lv_at hl 0 rfl) ?_
  refine lv_iload_n hx hb dL_law_838 rfl (lv_at hl 3 rfl) ?_
  refine lv_iconst (v := 1) hx hb dL_law_839 (by decide) ?_
  refine lv_iadd hx hb dL_law_840 ?_
  refine va_sld hx hb hX hbl hbA hS hin.1 dL_law_841 ?_
  refine lv_aload_n hx hb dL_law_842 rfl (lv_at hl 0 rfl) ?_
  refine lv_iload_n hx hb dL_law_843 rfl (lv_at hl 3 rfl) ?_
  refine lv_iconst (v := 2) hx hb dL_law_844 (by decide) ?_
  refine lv_iadd hx hb dL_law_845 ?_
  refine va_sld hx hb hX hbl hbA hS hin.2.1 dL_law_846 ?_
  refine lw_call C0 hKu hzu hN hIu hAu (T := TX11) (N := 10) [.int (xs (x3 + 1).toNatClampNeg), .int (xs (x3 + 2).toNatClampNeg)] (rest := []) (dn_h0 hu) rfl rfl (c_X11_rate l u hu (xs (x3 + 1).toNatClampNeg) (xs (x3 + 2).toNatClampNeg) σ) e1 tv_X11_rate rfl dn_hd_X11_rate rfl rfl rfl rfl dL_law_847 hPu hS hl.1 (fun H1 locs1 hP1 hk1 hS1 => ?_)
  have hPv := lw_kept hPv hk1 (fun q h1 h2 => hdis q h2 h1)
  clear hk1 hS
  clear hPu
  have hPu := hP1
  clear hP1
  have hS := hS1
  clear hS1
  generalize H1 = H at *
  refine lv_aload_n hx hb dL_law_850 rfl (lv_at hl 2 rfl) ?_
  refine lv_aload_n hx hb dL_law_851 rfl (lv_at hl 0 rfl) ?_
  refine lv_iload_n hx hb dL_law_852 rfl (lv_at hl 3 rfl) ?_
  refine lv_iconst (v := 1) hx hb dL_law_853 (by decide) ?_
  refine lv_iadd hx hb dL_law_854 ?_
  refine va_sld hx hb hX hbl hbA hS hin.1 dL_law_855 ?_
  refine lv_aload_n hx hb dL_law_856 rfl (lv_at hl 0 rfl) ?_
  refine lv_iload_n hx hb dL_law_857 rfl (lv_at hl 3 rfl) ?_
  refine lv_iconst (v := 2) hx hb dL_law_858 (by decide) ?_
  refine lv_iadd hx hb dL_law_859 ?_
  refine va_sld hx hb hX hbl hbA hS hin.2.1 dL_law_860 ?_
  refine lw_call C0 hKv hzv hN hIv hAv (T := TX12) (N := 35) [.int (xs (x3 + 1).toNatClampNeg), .int (xs (x3 + 2).toNatClampNeg)] (rest := [.int r]) (dn_h100 hv) rfl rfl (c_X12_rate l v hv (xs (x3 + 1).toNatClampNeg) (xs (x3 + 2).toNatClampNeg) τ) e2 tv_X12_rate rfl dn_hd_X12_rate rfl rfl rfl rfl dL_law_861 hPv hS hl.1 (fun H1 locs1 hP1 hk1 hS1 => ?_)
  have hPu := lw_kept hPu hk1 hdis
  clear hk1 hS
  clear hPv
  have hPv := hP1
  clear hP1
  have hS := hS1
  clear hS1
  generalize H1 = H at *
  refine lv_icmp_eq (tgt := 952) hx hb dL_law_864 (by decide) (fun _ => ?_) (fun hc => absurd rfl hc)
  exact kk σ1 τ1 _ _ hR1 ⟨hPu, hPv, hS⟩
set_option maxRecDepth 100000 in
set_option maxHeartbeats 4000000 in
theorem lc_keep {p : Program} {l : Launch} {e : Env} {s : State} {m : MethodId} {below : List Frame} {meth : Method} {c : Code} {b L : Nat} {xs : Nat → Int32} {Z : State → Prop} (C0 : lw_At p s m meth c b L xs) {u v : dn_U} (K0 : lw_Cst s u v) {σ τ : dn_S} (hR : Rel σ τ) {H : Heap} {locs : List Loc} (I : lw_Inv s u v σ τ H locs) {x3 : Int32} {ls : Array Slot} (hin : vp_in (x3 + 1) L ∧ vp_in (x3 + 2) L ∧ vp_in (x3 + 3) L ∧ vp_in (x3 + 4) L) (hl : lv_has ls 4 [(0, .ref b), (1, .ref (dn_a u 0)), (2, .ref (dn_a v 100)), (3, .int x3)]) (kk : ∀ (σ τ : dn_S) (H : Heap) (locs : List Loc), Rel σ τ → lw_Inv s u v σ τ H locs → W p l e room_1 s m #[Value.ref b] below meth c H locs 106 4363 Z (F0 m 952 ls [])) : W p l e room_1 s m #[Value.ref b] below meth c H locs 106 4363 Z (F0 m 869 ls []) := by
  obtain ⟨hx, hb, hr, hml, hown, hts, hX, hbl, hlocks, hgv⟩ := id C0
  obtain ⟨⟨hu, hv⟩, ⟨hKu, hKv⟩, ⟨hzu, hzv⟩, hN, ⟨hIu, hIv⟩, ⟨hAu, hAv⟩, hdis⟩ := K0
  obtain ⟨hPu, hPv, hS⟩ := I
  have hbA : ¬ (fun q : Nat => s.heap.size ≤ q) b := Nat.not_le.mpr hbl
  obtain ⟨r, σ1, τ1, e1, e2, hR1⟩ := ok_keep (xs (x3 + 1).toNatClampNeg) σ τ hR
  refine lv_aload_n hx hb dL_law_869 rfl (lv_at hl 1 rfl) ?_
  refine lv_aload_n hx hb dL_law_870 rfl (lv_at hl 0 rfl) ?_
  refine lv_iload_n hx hb dL_law_871 rfl (lv_at hl 3 rfl) ?_
  refine lv_iconst (v := 1) hx hb dL_law_872 (by decide) ?_
  refine lv_iadd hx hb dL_law_873 ?_
  refine va_sld hx hb hX hbl hbA hS hin.1 dL_law_874 ?_
  refine lw_call C0 hKu hzu hN hIu hAu (T := TX11) (N := 10) [.int (xs (x3 + 1).toNatClampNeg)] (rest := []) (dn_h0 hu) rfl rfl (c_X11_keep l u hu (xs (x3 + 1).toNatClampNeg) σ) e1 tv_X11_keep rfl dn_hd_X11_keep rfl rfl rfl rfl dL_law_875 hPu hS hl.1 (fun H1 locs1 hP1 hk1 hS1 => ?_)
  have hPv := lw_kept hPv hk1 (fun q h1 h2 => hdis q h2 h1)
  clear hk1 hS
  clear hPu
  have hPu := hP1
  clear hP1
  have hS := hS1
  clear hS1
  generalize H1 = H at *
  refine lv_aload_n hx hb dL_law_878 rfl (lv_at hl 2 rfl) ?_
  refine lv_aload_n hx hb dL_law_879 rfl (lv_at hl 0 rfl) ?_
  refine lv_iload_n hx hb dL_law_880 rfl (lv_at hl 3 rfl) ?_
  refine lv_iconst (v := 1) hx hb dL_law_881 (by decide) ?_
  refine lv_iadd hx hb dL_law_882 ?_
  refine va_sld hx hb hX hbl hbA hS hin.1 dL_law_883 ?_
  refine lw_call C0 hKv hzv hN hIv hAv (T := TX12) (N := 35) [.int (xs (x3 + 1).toNatClampNeg)] (rest := [.int r]) (dn_h100 hv) rfl rfl (c_X12_keep l v hv (xs (x3 + 1).toNatClampNeg) τ) e2 tv_X12_keep rfl dn_hd_X12_keep rfl rfl rfl rfl dL_law_884 hPv hS hl.1 (fun H1 locs1 hP1 hk1 hS1 => ?_)
  have hPu := lw_kept hPu hk1 hdis
  clear hk1 hS
  clear hPv
  have hPv := hP1
  clear hP1
  have hS := hS1
  clear hS1
  generalize H1 = H at *
  refine lv_icmp_eq (tgt := 952) hx hb dL_law_887 (by decide) (fun _ => ?_) (fun hc => absurd rfl hc)
  exact kk σ1 τ1 _ _ hR1 ⟨hPu, hPv, hS⟩
set_option maxRecDepth 100000 in
set_option maxHeartbeats 4000000 in
theorem lc_back {p : Program} {l : Launch} {e : Env} {s : State} {m : MethodId} {below : List Frame} {meth : Method} {c : Code} {b L : Nat} {xs : Nat → Int32} {Z : State → Prop} (C0 : lw_At p s m meth c b L xs) {u v : dn_U} (K0 : lw_Cst s u v) {σ τ : dn_S} (hR : Rel σ τ) {H : Heap} {locs : List Loc} (I : lw_Inv s u v σ τ H locs) {x3 : Int32} {ls : Array Slot} (hin : vp_in (x3 + 1) L ∧ vp_in (x3 + 2) L ∧ vp_in (x3 + 3) L ∧ vp_in (x3 + 4) L) (hl : lv_has ls 4 [(0, .ref b), (1, .ref (dn_a u 0)), (2, .ref (dn_a v 100)), (3, .int x3)]) (kk : ∀ (σ τ : dn_S) (H : Heap) (locs : List Loc), Rel σ τ → lw_Inv s u v σ τ H locs → W p l e room_1 s m #[Value.ref b] below meth c H locs 106 4363 Z (F0 m 952 ls [])) : W p l e room_1 s m #[Value.ref b] below meth c H locs 106 4363 Z (F0 m 892 ls []) := by
  obtain ⟨hx, hb, hr, hml, hown, hts, hX, hbl, hlocks, hgv⟩ := id C0
  obtain ⟨⟨hu, hv⟩, ⟨hKu, hKv⟩, ⟨hzu, hzv⟩, hN, ⟨hIu, hIv⟩, ⟨hAu, hAv⟩, hdis⟩ := K0
  obtain ⟨hPu, hPv, hS⟩ := I
  have hbA : ¬ (fun q : Nat => s.heap.size ≤ q) b := Nat.not_le.mpr hbl
  obtain ⟨r, σ1, τ1, e1, e2, hR1⟩ := ok_back (xs (x3 + 1).toNatClampNeg) σ τ hR
  refine lv_aload_n hx hb dL_law_892 rfl (lv_at hl 1 rfl) ?_
  refine lv_aload_n hx hb dL_law_893 rfl (lv_at hl 0 rfl) ?_
  refine lv_iload_n hx hb dL_law_894 rfl (lv_at hl 3 rfl) ?_
  refine lv_iconst (v := 1) hx hb dL_law_895 (by decide) ?_
  refine lv_iadd hx hb dL_law_896 ?_
  refine va_sld hx hb hX hbl hbA hS hin.1 dL_law_897 ?_
  refine lw_call C0 hKu hzu hN hIu hAu (T := TX11) (N := 10) [.int (xs (x3 + 1).toNatClampNeg)] (rest := []) (dn_h0 hu) rfl rfl (c_X11_back l u hu (xs (x3 + 1).toNatClampNeg) σ) e1 tv_X11_back rfl dn_hd_X11_back rfl rfl rfl rfl dL_law_898 hPu hS hl.1 (fun H1 locs1 hP1 hk1 hS1 => ?_)
  have hPv := lw_kept hPv hk1 (fun q h1 h2 => hdis q h2 h1)
  clear hk1 hS
  clear hPu
  have hPu := hP1
  clear hP1
  have hS := hS1
  clear hS1
  generalize H1 = H at *
  refine lv_aload_n hx hb dL_law_901 rfl (lv_at hl 2 rfl) ?_
  refine lv_aload_n hx hb dL_law_902 rfl (lv_at hl 0 rfl) ?_
  refine lv_iload_n hx hb dL_law_903 rfl (lv_at hl 3 rfl) ?_
  refine lv_iconst (v := 1) hx hb dL_law_904 (by decide) ?_
  refine lv_iadd hx hb dL_law_905 ?_
  refine va_sld hx hb hX hbl hbA hS hin.1 dL_law_906 ?_
  refine lw_call C0 hKv hzv hN hIv hAv (T := TX12) (N := 35) [.int (xs (x3 + 1).toNatClampNeg)] (rest := [.int r]) (dn_h100 hv) rfl rfl (c_X12_back l v hv (xs (x3 + 1).toNatClampNeg) τ) e2 tv_X12_back rfl dn_hd_X12_back rfl rfl rfl rfl dL_law_907 hPv hS hl.1 (fun H1 locs1 hP1 hk1 hS1 => ?_)
  have hPu := lw_kept hPu hk1 hdis
  clear hk1 hS
  clear hPv
  have hPv := hP1
  clear hP1
  have hS := hS1
  clear hS1
  generalize H1 = H at *
  refine lv_icmp_eq (tgt := 952) hx hb dL_law_910 (by decide) (fun _ => ?_) (fun hc => absurd rfl hc)
  exact kk σ1 τ1 _ _ hR1 ⟨hPu, hPv, hS⟩
set_option maxRecDepth 100000 in
set_option maxHeartbeats 4000000 in
theorem lc_count {p : Program} {l : Launch} {e : Env} {s : State} {m : MethodId} {below : List Frame} {meth : Method} {c : Code} {b L : Nat} {xs : Nat → Int32} {Z : State → Prop} (C0 : lw_At p s m meth c b L xs) {u v : dn_U} (K0 : lw_Cst s u v) {σ τ : dn_S} (hR : Rel σ τ) {H : Heap} {locs : List Loc} (I : lw_Inv s u v σ τ H locs) {x3 : Int32} {ls : Array Slot} (hin : vp_in (x3 + 1) L ∧ vp_in (x3 + 2) L ∧ vp_in (x3 + 3) L ∧ vp_in (x3 + 4) L) (hl : lv_has ls 4 [(0, .ref b), (1, .ref (dn_a u 0)), (2, .ref (dn_a v 100)), (3, .int x3)]) (kk : ∀ (σ τ : dn_S) (H : Heap) (locs : List Loc), Rel σ τ → lw_Inv s u v σ τ H locs → W p l e room_1 s m #[Value.ref b] below meth c H locs 106 4363 Z (F0 m 952 ls [])) : W p l e room_1 s m #[Value.ref b] below meth c H locs 106 4363 Z (F0 m 915 ls []) := by
  obtain ⟨hx, hb, hr, hml, hown, hts, hX, hbl, hlocks, hgv⟩ := id C0
  obtain ⟨⟨hu, hv⟩, ⟨hKu, hKv⟩, ⟨hzu, hzv⟩, hN, ⟨hIu, hIv⟩, ⟨hAu, hAv⟩, hdis⟩ := K0
  obtain ⟨hPu, hPv, hS⟩ := I
  have hbA : ¬ (fun q : Nat => s.heap.size ≤ q) b := Nat.not_le.mpr hbl
  obtain ⟨r, σ1, τ1, e1, e2, hR1⟩ := ok_count (xs (x3 + 1).toNatClampNeg) σ τ hR
  refine lv_aload_n hx hb dL_law_915 rfl (lv_at hl 1 rfl) ?_
  refine lv_aload_n hx hb dL_law_916 rfl (lv_at hl 0 rfl) ?_
  refine lv_iload_n hx hb dL_law_917 rfl (lv_at hl 3 rfl) ?_
  refine lv_iconst (v := 1) hx hb dL_law_918 (by decide) ?_
  refine lv_iadd hx hb dL_law_919 ?_
  refine va_sld hx hb hX hbl hbA hS hin.1 dL_law_920 ?_
  refine lw_call C0 hKu hzu hN hIu hAu (T := TX11) (N := 10) [.int (xs (x3 + 1).toNatClampNeg)] (rest := []) (dn_h0 hu) rfl rfl (c_X11_count l u hu (xs (x3 + 1).toNatClampNeg) σ) e1 tv_X11_count rfl dn_hd_X11_count rfl rfl rfl rfl dL_law_921 hPu hS hl.1 (fun H1 locs1 hP1 hk1 hS1 => ?_)
  have hPv := lw_kept hPv hk1 (fun q h1 h2 => hdis q h2 h1)
  clear hk1 hS
  clear hPu
  have hPu := hP1
  clear hP1
  have hS := hS1
  clear hS1
  generalize H1 = H at *
  refine lv_aload_n hx hb dL_law_924 rfl (lv_at hl 2 rfl) ?_
  refine lv_aload_n hx hb dL_law_925 rfl (lv_at hl 0 rfl) ?_
  refine lv_iload_n hx hb dL_law_926 rfl (lv_at hl 3 rfl) ?_
  refine lv_iconst (v := 1) hx hb dL_law_927 (by decide) ?_
  refine lv_iadd hx hb dL_law_928 ?_
  refine va_sld hx hb hX hbl hbA hS hin.1 dL_law_929 ?_
  refine lw_call C0 hKv hzv hN hIv hAv (T := TX12) (N := 35) [.int (xs (x3 + 1).toNatClampNeg)] (rest := [.int r]) (dn_h100 hv) rfl rfl (c_X12_count l v hv (xs (x3 + 1).toNatClampNeg) τ) e2 tv_X12_count rfl dn_hd_X12_count rfl rfl rfl rfl dL_law_930 hPv hS hl.1 (fun H1 locs1 hP1 hk1 hS1 => ?_)
  have hPu := lw_kept hPu hk1 hdis
  clear hk1 hS
  clear hPv
  have hPv := hP1
  clear hP1
  have hS := hS1
  clear hS1
  generalize H1 = H at *
  refine lv_icmp_eq (tgt := 952) hx hb dL_law_933 (by decide) (fun _ => ?_) (fun hc => absurd rfl hc)
  exact kk σ1 τ1 _ _ hR1 ⟨hPu, hPv, hS⟩
set_option maxRecDepth 100000 in
set_option maxHeartbeats 4000000 in
theorem lc_trace {p : Program} {l : Launch} {e : Env} {s : State} {m : MethodId} {below : List Frame} {meth : Method} {c : Code} {b L : Nat} {xs : Nat → Int32} {Z : State → Prop} (C0 : lw_At p s m meth c b L xs) {u v : dn_U} (K0 : lw_Cst s u v) {σ τ : dn_S} (hR : Rel σ τ) {H : Heap} {locs : List Loc} (I : lw_Inv s u v σ τ H locs) {x3 : Int32} {ls : Array Slot} (hin : vp_in (x3 + 1) L ∧ vp_in (x3 + 2) L ∧ vp_in (x3 + 3) L ∧ vp_in (x3 + 4) L) (hl : lv_has ls 4 [(0, .ref b), (1, .ref (dn_a u 0)), (2, .ref (dn_a v 100)), (3, .int x3)]) (kk : ∀ (σ τ : dn_S) (H : Heap) (locs : List Loc), Rel σ τ → lw_Inv s u v σ τ H locs → W p l e room_1 s m #[Value.ref b] below meth c H locs 106 4363 Z (F0 m 952 ls [])) : W p l e room_1 s m #[Value.ref b] below meth c H locs 106 4363 Z (F0 m 938 ls []) := by
  obtain ⟨hx, hb, hr, hml, hown, hts, hX, hbl, hlocks, hgv⟩ := id C0
  obtain ⟨⟨hu, hv⟩, ⟨hKu, hKv⟩, ⟨hzu, hzv⟩, hN, ⟨hIu, hIv⟩, ⟨hAu, hAv⟩, hdis⟩ := K0
  obtain ⟨hPu, hPv, hS⟩ := I
  have hbA : ¬ (fun q : Nat => s.heap.size ≤ q) b := Nat.not_le.mpr hbl
  obtain ⟨r, σ1, τ1, e1, e2, hR1⟩ := ok_trace σ τ hR
  refine lv_aload_n hx hb dL_law_938 rfl (lv_at hl 1 rfl) ?_
  refine lw_calll C0 hKu hzu hN hIu hAu (T := TX11) (N := 10) [] (rest := []) (dn_h0 hu) rfl rfl (c_X11_trace l u hu σ) e1 tv_X11_trace rfl dn_hd_X11_trace rfl rfl rfl rfl dL_law_939 hPu hS hl.1 (fun H1 locs1 hP1 hk1 hS1 => ?_)
  have hPv := lw_kept hPv hk1 (fun q h1 h2 => hdis q h2 h1)
  clear hk1 hS
  clear hPu
  have hPu := hP1
  clear hP1
  have hS := hS1
  clear hS1
  generalize H1 = H at *
  refine lv_aload_n hx hb dL_law_942 rfl (lv_at hl 2 rfl) ?_
  refine lw_calll C0 hKv hzv hN hIv hAv (T := TX12) (N := 35) [] (rest := [.long r]) (dn_h100 hv) rfl rfl (c_X12_trace l v hv τ) e2 tv_X12_trace rfl dn_hd_X12_trace rfl rfl rfl rfl dL_law_943 hPv hS hl.1 (fun H1 locs1 hP1 hk1 hS1 => ?_)
  have hPu := lw_kept hPu hk1 hdis
  clear hk1 hS
  clear hPv
  have hPv := hP1
  clear hP1
  have hS := hS1
  clear hS1
  generalize H1 = H at *
  refine W.lcmp hx hb dL_law_946 ?_
  refine lv_if_eq (tgt := 952) hx hb dL_law_947 (by decide) (fun _ => ?_) (fun hc => absurd (dn_cmp_self r) hc)
  exact kk σ1 τ1 _ _ hR1 ⟨hPu, hPv, hS⟩
