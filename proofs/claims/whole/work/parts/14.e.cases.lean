/-! the law: one case a call (written by wip/whole/gen_law.py) -/
set_option maxRecDepth 100000 in
set_option maxHeartbeats 4000000 in
theorem lc_found {p : Program} {l : Launch} {e : Env} {s : State} {m : MethodId} {below : List Frame} {meth : Method} {c : Code} {b L : Nat} {xs : Nat → Int32} {Z : State → Prop} (C0 : lw_At p s m meth c b L xs) {u v : dn_U} (K0 : lw_Cst s u v) {σ τ : dn_S} (hR : Rel σ τ) {H : Heap} {locs : List Loc} (I : lw_Inv s u v σ τ H locs) {x3 : Int32} {ls : Array Slot} (hin : vp_in (x3 + 1) L ∧ vp_in (x3 + 2) L ∧ vp_in (x3 + 3) L ∧ vp_in (x3 + 4) L) (hl : lv_has ls 4 [(0, .ref b), (1, .ref (dn_a u 0)), (2, .ref (dn_a v 100)), (3, .int x3)]) (kk : ∀ (σ τ : dn_S) (H : Heap) (locs : List Loc), Rel σ τ → lw_Inv s u v σ τ H locs → W p l e room_1 s m #[Value.ref b] below meth c H locs 106 4363 Z (F0 m 952 ls [])) : W p l e room_1 s m #[Value.ref b] below meth c H locs 106 4363 Z (F0 m 635 ls []) := by
  obtain ⟨hx, hb, hr, hml, hown, hts, hX, hbl, hlocks, hgv⟩ := id C0
  obtain ⟨⟨hu, hv⟩, ⟨hKu, hKv⟩, ⟨hzu, hzv⟩, hN, ⟨hIu, hIv⟩, ⟨hAu, hAv⟩, hdis⟩ := K0
  obtain ⟨hPu, hPv, hS⟩ := I
  have hbA : ¬ (fun q : Nat => s.heap.size ≤ q) b := Nat.not_le.mpr hbl
  obtain ⟨r, σ1, τ1, e1, e2, hR1⟩ := ok_found (xs (x3 + 1).toNatClampNeg) (xs (x3 + 2).toNatClampNeg) σ τ hR
  refine lv_aload_n hx hb dL_law_635 rfl (lv_at hl 1 rfl) ?_
  refine lv_aload_n hx hb dL_law_636 rfl (lv_at hl 0 rfl) ?_
  refine lv_iload_n hx hb dL_law_637 rfl (lv_at hl 3 rfl) ?_
  refine lv_iconst (v := 1) hx hb dL_law_638 (by decide) ?_
  refine lv_iadd hx hb dL_law_639 ?_
  refine va_sld hx hb hX hbl hbA hS hin.1 dL_law_640 ?_
  refine lv_aload_n hx hb dL_law_641 rfl (lv_at hl 0 rfl) ?_
  refine lv_iload_n hx hb dL_law_642 rfl (lv_at hl 3 rfl) ?_
  refine lv_iconst (v := 2) hx hb dL_law_643 (by decide) ?_
  refine lv_iadd hx hb dL_law_644 ?_
  refine va_sld hx hb hX hbl hbA hS hin.2.1 dL_law_645 ?_
  refine lw_call C0 hKu hzu hN hIu hAu (T := TX11) (N := 10) [.int (xs (x3 + 1).toNatClampNeg), .int (xs (x3 + 2).toNatClampNeg)] (rest := []) (dn_h0 hu) rfl rfl (c_X11_found l u hu (xs (x3 + 1).toNatClampNeg) (xs (x3 + 2).toNatClampNeg) σ) e1 tv_X11_found rfl dn_hd_X11_found rfl rfl rfl rfl dL_law_646 hPu hS hl.1 (fun H1 locs1 hP1 hk1 hS1 => ?_)
  have hPv := lw_kept hPv hk1 (fun q h1 h2 => hdis q h2 h1)
  clear hk1 hS
  clear hPu
  have hPu := hP1
  clear hP1
  have hS := hS1
  clear hS1
  generalize H1 = H at *
  refine lv_aload_n hx hb dL_law_649 rfl (lv_at hl 2 rfl) ?_
  refine lv_aload_n hx hb dL_law_650 rfl (lv_at hl 0 rfl) ?_
  refine lv_iload_n hx hb dL_law_651 rfl (lv_at hl 3 rfl) ?_
  refine lv_iconst (v := 1) hx hb dL_law_652 (by decide) ?_
  refine lv_iadd hx hb dL_law_653 ?_
  refine va_sld hx hb hX hbl hbA hS hin.1 dL_law_654 ?_
  refine lv_aload_n hx hb dL_law_655 rfl (lv_at hl 0 rfl) ?_
  refine lv_iload_n hx hb dL_law_656 rfl (lv_at hl 3 rfl) ?_
  refine lv_iconst (v := 2) hx hb dL_law_657 (by decide) ?_
  refine lv_iadd hx hb dL_law_658 ?_
  refine va_sld hx hb hX hbl hbA hS hin.2.1 dL_law_659 ?_
  refine lw_call C0 hKv hzv hN hIv hAv (T := TX12) (N := 35) [.int (xs (x3 + 1).toNatClampNeg), .int (xs (x3 + 2).toNatClampNeg)] (rest := [.int r]) (dn_h100 hv) rfl rfl (c_X12_found l v hv (xs (x3 + 1).toNatClampNeg) (xs (x3 + 2).toNatClampNeg) τ) e2 tv_X12_found rfl dn_hd_X12_found rfl rfl rfl rfl dL_law_660 hPv hS hl.1 (fun H1 locs1 hP1 hk1 hS1 => ?_)
  have hPu := lw_kept hPu hk1 hdis
  clear hk1 hS
  clear hPv
  have hPv := hP1
  clear hP1
  have hS := hS1
  clear hS1
  generalize H1 = H at *
  refine lv_icmp_eq (tgt := 952) hx hb dL_law_663 (by decide) (fun _ => ?_) (fun hc => absurd rfl hc)
  exact kk σ1 τ1 _ _ hR1 ⟨hPu, hPv, hS⟩
set_option maxRecDepth 100000 in
set_option maxHeartbeats 4000000 in
theorem lc_forget {p : Program} {l : Launch} {e : Env} {s : State} {m : MethodId} {below : List Frame} {meth : Method} {c : Code} {b L : Nat} {xs : Nat → Int32} {Z : State → Prop} (C0 : lw_At p s m meth c b L xs) {u v : dn_U} (K0 : lw_Cst s u v) {σ τ : dn_S} (hR : Rel σ τ) {H : Heap} {locs : List Loc} (I : lw_Inv s u v σ τ H locs) {x3 : Int32} {ls : Array Slot} (hin : vp_in (x3 + 1) L ∧ vp_in (x3 + 2) L ∧ vp_in (x3 + 3) L ∧ vp_in (x3 + 4) L) (hl : lv_has ls 4 [(0, .ref b), (1, .ref (dn_a u 0)), (2, .ref (dn_a v 100)), (3, .int x3)]) (kk : ∀ (σ τ : dn_S) (H : Heap) (locs : List Loc), Rel σ τ → lw_Inv s u v σ τ H locs → W p l e room_1 s m #[Value.ref b] below meth c H locs 106 4363 Z (F0 m 952 ls [])) : W p l e room_1 s m #[Value.ref b] below meth c H locs 106 4363 Z (F0 m 668 ls []) := by
  obtain ⟨hx, hb, hr, hml, hown, hts, hX, hbl, hlocks, hgv⟩ := id C0
  obtain ⟨⟨hu, hv⟩, ⟨hKu, hKv⟩, ⟨hzu, hzv⟩, hN, ⟨hIu, hIv⟩, ⟨hAu, hAv⟩, hdis⟩ := K0
  obtain ⟨hPu, hPv, hS⟩ := I
  have hbA : ¬ (fun q : Nat => s.heap.size ≤ q) b := Nat.not_le.mpr hbl
  obtain ⟨r, σ1, τ1, e1, e2, hR1⟩ := ok_forget σ τ hR
  refine lv_aload_n hx hb dL_law_668 rfl (lv_at hl 1 rfl) ?_
  refine lw_call C0 hKu hzu hN hIu hAu (T := TX11) (N := 10) [] (rest := []) (dn_h0 hu) rfl rfl (c_X11_forget l u hu σ) e1 tv_X11_forget rfl dn_hd_X11_forget rfl rfl rfl rfl dL_law_669 hPu hS hl.1 (fun H1 locs1 hP1 hk1 hS1 => ?_)
  have hPv := lw_kept hPv hk1 (fun q h1 h2 => hdis q h2 h1)
  clear hk1 hS
  clear hPu
  have hPu := hP1
  clear hP1
  have hS := hS1
  clear hS1
  generalize H1 = H at *
  refine lv_aload_n hx hb dL_law_672 rfl (lv_at hl 2 rfl) ?_
  refine lw_call C0 hKv hzv hN hIv hAv (T := TX12) (N := 35) [] (rest := [.int r]) (dn_h100 hv) rfl rfl (c_X12_forget l v hv τ) e2 tv_X12_forget rfl dn_hd_X12_forget rfl rfl rfl rfl dL_law_673 hPv hS hl.1 (fun H1 locs1 hP1 hk1 hS1 => ?_)
  have hPu := lw_kept hPu hk1 hdis
  clear hk1 hS
  clear hPv
  have hPv := hP1
  clear hP1
  have hS := hS1
  clear hS1
  generalize H1 = H at *
  refine lv_icmp_eq (tgt := 952) hx hb dL_law_676 (by decide) (fun _ => ?_) (fun hc => absurd rfl hc)
  exact kk σ1 τ1 _ _ hR1 ⟨hPu, hPv, hS⟩
set_option maxRecDepth 100000 in
set_option maxHeartbeats 4000000 in
theorem lc_mayBe {p : Program} {l : Launch} {e : Env} {s : State} {m : MethodId} {below : List Frame} {meth : Method} {c : Code} {b L : Nat} {xs : Nat → Int32} {Z : State → Prop} (C0 : lw_At p s m meth c b L xs) {u v : dn_U} (K0 : lw_Cst s u v) {σ τ : dn_S} (hR : Rel σ τ) {H : Heap} {locs : List Loc} (I : lw_Inv s u v σ τ H locs) {x3 : Int32} {ls : Array Slot} (hin : vp_in (x3 + 1) L ∧ vp_in (x3 + 2) L ∧ vp_in (x3 + 3) L ∧ vp_in (x3 + 4) L) (hl : lv_has ls 4 [(0, .ref b), (1, .ref (dn_a u 0)), (2, .ref (dn_a v 100)), (3, .int x3)]) (kk : ∀ (σ τ : dn_S) (H : Heap) (locs : List Loc), Rel σ τ → lw_Inv s u v σ τ H locs → W p l e room_1 s m #[Value.ref b] below meth c H locs 106 4363 Z (F0 m 952 ls [])) : W p l e room_1 s m #[Value.ref b] below meth c H locs 106 4363 Z (F0 m 681 ls []) := by
  obtain ⟨hx, hb, hr, hml, hown, hts, hX, hbl, hlocks, hgv⟩ := id C0
  obtain ⟨⟨hu, hv⟩, ⟨hKu, hKv⟩, ⟨hzu, hzv⟩, hN, ⟨hIu, hIv⟩, ⟨hAu, hAv⟩, hdis⟩ := K0
  obtain ⟨hPu, hPv, hS⟩ := I
  have hbA : ¬ (fun q : Nat => s.heap.size ≤ q) b := Nat.not_le.mpr hbl
  obtain ⟨r, σ1, τ1, e1, e2, hR1⟩ := ok_mayBe (xs (x3 + 1).toNatClampNeg) (xs (x3 + 2).toNatClampNeg) (xs (x3 + 3).toNatClampNeg) σ τ hR
  refine lv_aload_n hx hb dL_law_681 rfl (lv_at hl 1 rfl) ?_
  refine lv_aload_n hx hb dL_law_682 rfl (lv_at hl 0 rfl) ?_
  refine lv_iload_n hx hb dL_law_683 rfl (lv_at hl 3 rfl) ?_
  refine lv_iconst (v := 1) hx hb dL_law_684 (by decide) ?_
  refine lv_iadd hx hb dL_law_685 ?_
  refine va_sld hx hb hX hbl hbA hS hin.1 dL_law_686 ?_
  refine lv_aload_n hx hb dL_law_687 rfl (lv_at hl 0 rfl) ?_
  refine lv_iload_n hx hb dL_law_688 rfl (lv_at hl 3 rfl) ?_
  refine lv_iconst (v := 2) hx hb dL_law_689 (by decide) ?_
  refine lv_iadd hx hb dL_law_690 ?_
  refine va_sld hx hb hX hbl hbA hS hin.2.1 dL_law_691 ?_
  refine lv_aload_n hx hb dL_law_692 rfl (lv_at hl 0 rfl) ?_
  refine lv_iload_n hx hb dL_law_693 rfl (lv_at hl 3 rfl) ?_
  refine lv_iconst (v := 3) hx hb dL_law_694 (by decide) ?_
  refine lv_iadd hx hb dL_law_695 ?_
  refine va_sld hx hb hX hbl hbA hS hin.2.2.1 dL_law_696 ?_
  refine lw_call C0 hKu hzu hN hIu hAu (T := TX11) (N := 10) [.int (xs (x3 + 1).toNatClampNeg), .int (xs (x3 + 2).toNatClampNeg), .int (xs (x3 + 3).toNatClampNeg)] (rest := []) (dn_h0 hu) rfl rfl (c_X11_mayBe l u hu (xs (x3 + 1).toNatClampNeg) (xs (x3 + 2).toNatClampNeg) (xs (x3 + 3).toNatClampNeg) σ) e1 tv_X11_mayBe rfl dn_hd_X11_mayBe rfl rfl rfl rfl dL_law_697 hPu hS hl.1 (fun H1 locs1 hP1 hk1 hS1 => ?_)
  have hPv := lw_kept hPv hk1 (fun q h1 h2 => hdis q h2 h1)
  clear hk1 hS
  clear hPu
  have hPu := hP1
  clear hP1
  have hS := hS1
  clear hS1
  generalize H1 = H at *
  refine lv_aload_n hx hb dL_law_700 rfl (lv_at hl 2 rfl) ?_
  refine lv_aload_n hx hb dL_law_701 rfl (lv_at hl 0 rfl) ?_
  refine lv_iload_n hx hb dL_law_702 rfl (lv_at hl 3 rfl) ?_
  refine lv_iconst (v := 1) hx hb dL_law_703 (by decide) ?_
  refine lv_iadd hx hb dL_law_704 ?_
  refine va_sld hx hb hX hbl hbA hS hin.1 dL_law_705 ?_
  refine lv_aload_n hx hb dL_law_706 rfl (lv_at hl 0 rfl) ?_
  refine lv_iload_n hx hb dL_law_707 rfl (lv_at hl 3 rfl) ?_
  refine lv_iconst (v := 2) hx hb dL_law_708 (by decide) ?_
  refine lv_iadd hx hb dL_law_709 ?_
  refine va_sld hx hb hX hbl hbA hS hin.2.1 dL_law_710 ?_
  refine lv_aload_n hx hb dL_law_711 rfl (lv_at hl 0 rfl) ?_
  refine lv_iload_n hx hb dL_law_712 rfl (lv_at hl 3 rfl) ?_
  refine lv_iconst (v := 3) hx hb dL_law_713 (by decide) ?_
  refine lv_iadd hx hb dL_law_714 ?_
  refine va_sld hx hb hX hbl hbA hS hin.2.2.1 dL_law_715 ?_
  refine lw_call C0 hKv hzv hN hIv hAv (T := TX12) (N := 35) [.int (xs (x3 + 1).toNatClampNeg), .int (xs (x3 + 2).toNatClampNeg), .int (xs (x3 + 3).toNatClampNeg)] (rest := [.int r]) (dn_h100 hv) rfl rfl (c_X12_mayBe l v hv (xs (x3 + 1).toNatClampNeg) (xs (x3 + 2).toNatClampNeg) (xs (x3 + 3).toNatClampNeg) τ) e2 tv_X12_mayBe rfl dn_hd_X12_mayBe rfl rfl rfl rfl dL_law_716 hPv hS hl.1 (fun H1 locs1 hP1 hk1 hS1 => ?_)
  have hPu := lw_kept hPu hk1 hdis
  clear hk1 hS
  clear hPv
  have hPv := hP1
  clear hP1
  have hS := hS1
  clear hS1
  generalize H1 = H at *
  refine lv_icmp_eq (tgt := 952) hx hb dL_law_719 (by decide) (fun _ => ?_) (fun hc => absurd rfl hc)
  exact kk σ1 τ1 _ _ hR1 ⟨hPu, hPv, hS⟩
set_option maxRecDepth 100000 in
set_option maxHeartbeats 4000000 in
theorem lc_plan {p : Program} {l : Launch} {e : Env} {s : State} {m : MethodId} {below : List Frame} {meth : Method} {c : Code} {b L : Nat} {xs : Nat → Int32} {Z : State → Prop} (C0 : lw_At p s m meth c b L xs) {u v : dn_U} (K0 : lw_Cst s u v) {σ τ : dn_S} (hR : Rel σ τ) {H : Heap} {locs : List Loc} (I : lw_Inv s u v σ τ H locs) {x3 : Int32} {ls : Array Slot} (hin : vp_in (x3 + 1) L ∧ vp_in (x3 + 2) L ∧ vp_in (x3 + 3) L ∧ vp_in (x3 + 4) L) (hl : lv_has ls 4 [(0, .ref b), (1, .ref (dn_a u 0)), (2, .ref (dn_a v 100)), (3, .int x3)]) (kk : ∀ (σ τ : dn_S) (H : Heap) (locs : List Loc), Rel σ τ → lw_Inv s u v σ τ H locs → W p l e room_1 s m #[Value.ref b] below meth c H locs 106 4363 Z (F0 m 952 ls [])) : W p l e room_1 s m #[Value.ref b] below meth c H locs 106 4363 Z (F0 m 724 ls []) := by
  obtain ⟨hx, hb, hr, hml, hown, hts, hX, hbl, hlocks, hgv⟩ := id C0
  obtain ⟨⟨hu, hv⟩, ⟨hKu, hKv⟩, ⟨hzu, hzv⟩, hN, ⟨hIu, hIv⟩, ⟨hAu, hAv⟩, hdis⟩ := K0
  obtain ⟨hPu, hPv, hS⟩ := I
  have hbA : ¬ (fun q : Nat => s.heap.size ≤ q) b := Nat.not_le.mpr hbl
  obtain ⟨r, σ1, τ1, e1, e2, hR1⟩ := ok_plan (xs (x3 + 1).toNatClampNeg) σ τ hR
  refine lv_aload_n hx hb dL_law_724 rfl (lv_at hl 1 rfl) ?_
  refine lv_aload_n hx hb dL_law_725 rfl (lv_at hl 0 rfl) ?_
  refine lv_iload_n hx hb dL_law_726 rfl (lv_at hl 3 rfl) ?_
  refine lv_iconst (v := 1) hx hb dL_law_727 (by decide) ?_
  refine lv_iadd hx hb dL_law_728 ?_
  refine va_sld hx hb hX hbl hbA hS hin.1 dL_law_729 ?_
  refine lw_call C0 hKu hzu hN hIu hAu (T := TX11) (N := 10) [.int (xs (x3 + 1).toNatClampNeg)] (rest := []) (dn_h0 hu) rfl rfl (c_X11_plan l u hu (xs (x3 + 1).toNatClampNeg) σ) e1 tv_X11_plan rfl dn_hd_X11_plan rfl rfl rfl rfl dL_law_730 hPu hS hl.1 (fun H1 locs1 hP1 hk1 hS1 => ?_)
  have hPv := lw_kept hPv hk1 (fun q h1 h2 => hdis q h2 h1)
  clear hk1 hS
  clear hPu
  have hPu := hP1
  clear hP1
  have hS := hS1
  clear hS1
  generalize H1 = H at *
  refine lv_aload_n hx hb dL_law_733 rfl (lv_at hl 2 rfl) ?_
  refine lv_aload_n hx hb dL_law_734 rfl (lv_at hl 0 rfl) ?_
  refine lv_iload_n hx hb dL_law_735 rfl (lv_at hl 3 rfl) ?_
  refine lv_iconst (v := 1) hx hb dL_law_736 (by decide) ?_
  refine lv_iadd hx hb dL_law_737 ?_
  refine va_sld hx hb hX hbl hbA hS hin.1 dL_law_738 ?_
  refine lw_call C0 hKv hzv hN hIv hAv (T := TX12) (N := 35) [.int (xs (x3 + 1).toNatClampNeg)] (rest := [.int r]) (dn_h100 hv) rfl rfl (c_X12_plan l v hv (xs (x3 + 1).toNatClampNeg) τ) e2 tv_X12_plan rfl dn_hd_X12_plan rfl rfl rfl rfl dL_law_739 hPv hS hl.1 (fun H1 locs1 hP1 hk1 hS1 => ?_)
  have hPu := lw_kept hPu hk1 hdis
  clear hk1 hS
  clear hPv
  have hPv := hP1
  clear hP1
  have hS := hS1
  clear hS1
  generalize H1 = H at *
  refine lv_icmp_eq (tgt := 952) hx hb dL_law_742 (by decide) (fun _ => ?_) (fun hc => absurd rfl hc)
  exact kk σ1 τ1 _ _ hR1 ⟨hPu, hPv, hS⟩
set_option maxRecDepth 100000 in
set_option maxHeartbeats 4000000 in
theorem lc_unplan {p : Program} {l : Launch} {e : Env} {s : State} {m : MethodId} {below : List Frame} {meth : Method} {c : Code} {b L : Nat} {xs : Nat → Int32} {Z : State → Prop} (C0 : lw_At p s m meth c b L xs) {u v : dn_U} (K0 : lw_Cst s u v) {σ τ : dn_S} (hR : Rel σ τ) {H : Heap} {locs : List Loc} (I : lw_Inv s u v σ τ H locs) {x3 : Int32} {ls : Array Slot} (hin : vp_in (x3 + 1) L ∧ vp_in (x3 + 2) L ∧ vp_in (x3 + 3) L ∧ vp_in (x3 + 4) L) (hl : lv_has ls 4 [(0, .ref b), (1, .ref (dn_a u 0)), (2, .ref (dn_a v 100)), (3, .int x3)]) (kk : ∀ (σ τ : dn_S) (H : Heap) (locs : List Loc), Rel σ τ → lw_Inv s u v σ τ H locs → W p l e room_1 s m #[Value.ref b] below meth c H locs 106 4363 Z (F0 m 952 ls [])) : W p l e room_1 s m #[Value.ref b] below meth c H locs 106 4363 Z (F0 m 747 ls []) := by
  obtain ⟨hx, hb, hr, hml, hown, hts, hX, hbl, hlocks, hgv⟩ := id C0
  obtain ⟨⟨hu, hv⟩, ⟨hKu, hKv⟩, ⟨hzu, hzv⟩, hN, ⟨hIu, hIv⟩, ⟨hAu, hAv⟩, hdis⟩ := K0
  obtain ⟨hPu, hPv, hS⟩ := I
  have hbA : ¬ (fun q : Nat => s.heap.size ≤ q) b := Nat.not_le.mpr hbl
  obtain ⟨r, σ1, τ1, e1, e2, hR1⟩ := ok_unplan σ τ hR
  refine lv_aload_n hx hb dL_law_747 rfl (lv_at hl 1 rfl) ?_
  refine lw_call C0 hKu hzu hN hIu hAu (T := TX11) (N := 10) [] (rest := []) (dn_h0 hu) rfl rfl (c_X11_unplan l u hu σ) e1 tv_X11_unplan rfl dn_hd_X11_unplan rfl rfl rfl rfl dL_law_748 hPu hS hl.1 (fun H1 locs1 hP1 hk1 hS1 => ?_)
  have hPv := lw_kept hPv hk1 (fun q h1 h2 => hdis q h2 h1)
  clear hk1 hS
  clear hPu
  have hPu := hP1
  clear hP1
  have hS := hS1
  clear hS1
  generalize H1 = H at *
  refine lv_aload_n hx hb dL_law_751 rfl (lv_at hl 2 rfl) ?_
  refine lw_call C0 hKv hzv hN hIv hAv (T := TX12) (N := 35) [] (rest := [.int r]) (dn_h100 hv) rfl rfl (c_X12_unplan l v hv τ) e2 tv_X12_unplan rfl dn_hd_X12_unplan rfl rfl rfl rfl dL_law_752 hPv hS hl.1 (fun H1 locs1 hP1 hk1 hS1 => ?_)
  have hPu := lw_kept hPu hk1 hdis
  clear hk1 hS
  clear hPv
  have hPv := hP1
  clear hP1
  have hS := hS1
  clear hS1
  generalize H1 = H at *
  refine lv_icmp_eq (tgt := 952) hx hb dL_law_755 (by decide) (fun _ => ?_) (fun hc => absurd rfl hc)
  exact kk σ1 τ1 _ _ hR1 ⟨hPu, hPv, hS⟩
set_option maxRecDepth 100000 in
set_option maxHeartbeats 4000000 in
theorem lc_planned {p : Program} {l : Launch} {e : Env} {s : State} {m : MethodId} {below : List Frame} {meth : Method} {c : Code} {b L : Nat} {xs : Nat → Int32} {Z : State → Prop} (C0 : lw_At p s m meth c b L xs) {u v : dn_U} (K0 : lw_Cst s u v) {σ τ : dn_S} (hR : Rel σ τ) {H : Heap} {locs : List Loc} (I : lw_Inv s u v σ τ H locs) {x3 : Int32} {ls : Array Slot} (hin : vp_in (x3 + 1) L ∧ vp_in (x3 + 2) L ∧ vp_in (x3 + 3) L ∧ vp_in (x3 + 4) L) (hl : lv_has ls 4 [(0, .ref b), (1, .ref (dn_a u 0)), (2, .ref (dn_a v 100)), (3, .int x3)]) (kk : ∀ (σ τ : dn_S) (H : Heap) (locs : List Loc), Rel σ τ → lw_Inv s u v σ τ H locs → W p l e room_1 s m #[Value.ref b] below meth c H locs 106 4363 Z (F0 m 952 ls [])) : W p l e room_1 s m #[Value.ref b] below meth c H locs 106 4363 Z (F0 m 760 ls []) := by
  obtain ⟨hx, hb, hr, hml, hown, hts, hX, hbl, hlocks, hgv⟩ := id C0
  obtain ⟨⟨hu, hv⟩, ⟨hKu, hKv⟩, ⟨hzu, hzv⟩, hN, ⟨hIu, hIv⟩, ⟨hAu, hAv⟩, hdis⟩ := K0
  obtain ⟨hPu, hPv, hS⟩ := I
  have hbA : ¬ (fun q : Nat => s.heap.size ≤ q) b := Nat.not_le.mpr hbl
  obtain ⟨r, σ1, τ1, e1, e2, hR1⟩ := ok_planned (xs (x3 + 1).toNatClampNeg) σ τ hR
  refine lv_aload_n hx hb dL_law_760 rfl (lv_at hl 1 rfl) ?_
  refine lv_aload_n hx hb dL_law_761 rfl (lv_at hl 0 rfl) ?_
  refine lv_iload_n hx hb dL_law_762 rfl (lv_at hl 3 rfl) ?_
  refine lv_iconst (v := 1) hx hb dL_law_763 (by decide) ?_
  refine lv_iadd hx hb dL_law_764 ?_
  refine va_sld hx hb hX hbl hbA hS hin.1 dL_law_765 ?_
  refine lw_call C0 hKu hzu hN hIu hAu (T := TX11) (N := 10) [.int (xs (x3 + 1).toNatClampNeg)] (rest := []) (dn_h0 hu) rfl rfl (c_X11_planned l u hu (xs (x3 + 1).toNatClampNeg) σ) e1 tv_X11_planned rfl dn_hd_X11_planned rfl rfl rfl rfl dL_law_766 hPu hS hl.1 (fun H1 locs1 hP1 hk1 hS1 => ?_)
  have hPv := lw_kept hPv hk1 (fun q h1 h2 => hdis q h2 h1)
  clear hk1 hS
  clear hPu
  have hPu := hP1
  clear hP1
  have hS := hS1
  clear hS1
  generalize H1 = H at *
  refine lv_aload_n hx hb dL_law_769 rfl (lv_at hl 2 rfl) ?_
  refine lv_aload_n hx hb dL_law_770 rfl (lv_at hl 0 rfl) ?_
  refine lv_iload_n hx hb dL_law_771 rfl (lv_at hl 3 rfl) ?_
  refine lv_iconst (v := 1) hx hb dL_law_772 (by decide) ?_
  refine lv_iadd hx hb dL_law_773 ?_
  refine va_sld hx hb hX hbl hbA hS hin.1 dL_law_774 ?_
  refine lw_call C0 hKv hzv hN hIv hAv (T := TX12) (N := 35) [.int (xs (x3 + 1).toNatClampNeg)] (rest := [.int r]) (dn_h100 hv) rfl rfl (c_X12_planned l v hv (xs (x3 + 1).toNatClampNeg) τ) e2 tv_X12_planned rfl dn_hd_X12_planned rfl rfl rfl rfl dL_law_775 hPv hS hl.1 (fun H1 locs1 hP1 hk1 hS1 => ?_)
  have hPu := lw_kept hPu hk1 hdis
  clear hk1 hS
  clear hPv
  have hPv := hP1
  clear hP1
  have hS := hS1
  clear hS1
  generalize H1 = H at *
  refine lv_icmp_eq (tgt := 952) hx hb dL_law_778 (by decide) (fun _ => ?_) (fun hc => absurd rfl hc)
  exact kk σ1 τ1 _ _ hR1 ⟨hPu, hPv, hS⟩
