/-! the law: one case a call (written by wip/whole/gen_law.py) -/
set_option maxRecDepth 100000 in
set_option maxHeartbeats 4000000 in
theorem lc_undo {p : Program} {l : Launch} {e : Env} {s : State} {m : MethodId} {below : List Frame} {meth : Method} {c : Code} {b L : Nat} {xs : Nat → Int32} {Z : State → Prop} (C0 : lw_At p s m meth c b L xs) {u v : dn_U} (K0 : lw_Cst s u v) {σ τ : dn_S} (hR : Rel σ τ) {H : Heap} {locs : List Loc} (I : lw_Inv s u v σ τ H locs) {x3 : Int32} {ls : Array Slot} (hin : vp_in (x3 + 1) L ∧ vp_in (x3 + 2) L ∧ vp_in (x3 + 3) L ∧ vp_in (x3 + 4) L) (hl : lv_has ls 4 [(0, .ref b), (1, .ref (dn_a u 0)), (2, .ref (dn_a v 100)), (3, .int x3)]) (kk : ∀ (σ τ : dn_S) (H : Heap) (locs : List Loc), Rel σ τ → lw_Inv s u v σ τ H locs → W p l e room_1 s m #[Value.ref b] below meth c H locs 106 4363 Z (F0 m 952 ls [])) : W p l e room_1 s m #[Value.ref b] below meth c H locs 106 4363 Z (F0 m 404 ls []) := by
  obtain ⟨hx, hb, hr, hml, hown, hts, hX, hbl, hlocks, hgv⟩ := id C0
  obtain ⟨⟨hu, hv⟩, ⟨hKu, hKv⟩, ⟨hzu, hzv⟩, hN, ⟨hIu, hIv⟩, ⟨hAu, hAv⟩, hdis⟩ := K0
  obtain ⟨hPu, hPv, hS⟩ := I
  have hbA : ¬ (fun q : Nat => s.heap.size ≤ q) b := Nat.not_le.mpr hbl
  obtain ⟨r, σ1, τ1, e1, e2, hR1⟩ := ok_undo σ τ hR
  refine lv_aload_n hx hb dL_law_404 rfl (lv_at hl 1 rfl) ?_
  refine lw_call C0 hKu hzu hN hIu hAu (T := TX11) (N := 10) [] (rest := []) (dn_h0 hu) rfl rfl (c_X11_undo l u hu σ) e1 tv_X11_undo rfl dn_hd_X11_undo rfl rfl rfl rfl dL_law_405 hPu hS hl.1 (fun H1 locs1 hP1 hk1 hS1 => ?_)
  have hPv := lw_kept hPv hk1 (fun q h1 h2 => hdis q h2 h1)
  clear hk1 hS
  clear hPu
  have hPu := hP1
  clear hP1
  have hS := hS1
  clear hS1
  generalize H1 = H at *
  refine lv_aload_n hx hb dL_law_408 rfl (lv_at hl 2 rfl) ?_
  refine lw_call C0 hKv hzv hN hIv hAv (T := TX12) (N := 35) [] (rest := [.int r]) (dn_h100 hv) rfl rfl (c_X12_undo l v hv τ) e2 tv_X12_undo rfl dn_hd_X12_undo rfl rfl rfl rfl dL_law_409 hPv hS hl.1 (fun H1 locs1 hP1 hk1 hS1 => ?_)
  have hPu := lw_kept hPu hk1 hdis
  clear hk1 hS
  clear hPv
  have hPv := hP1
  clear hP1
  have hS := hS1
  clear hS1
  generalize H1 = H at *
  refine lv_icmp_eq (tgt := 952) hx hb dL_law_412 (by decide) (fun _ => ?_) (fun hc => absurd rfl hc)
  exact kk σ1 τ1 _ _ hR1 ⟨hPu, hPv, hS⟩
set_option maxRecDepth 100000 in
set_option maxHeartbeats 4000000 in
theorem lc_inNights {p : Program} {l : Launch} {e : Env} {s : State} {m : MethodId} {below : List Frame} {meth : Method} {c : Code} {b L : Nat} {xs : Nat → Int32} {Z : State → Prop} (C0 : lw_At p s m meth c b L xs) {u v : dn_U} (K0 : lw_Cst s u v) {σ τ : dn_S} (hR : Rel σ τ) {H : Heap} {locs : List Loc} (I : lw_Inv s u v σ τ H locs) {x3 : Int32} {ls : Array Slot} (hin : vp_in (x3 + 1) L ∧ vp_in (x3 + 2) L ∧ vp_in (x3 + 3) L ∧ vp_in (x3 + 4) L) (hl : lv_has ls 4 [(0, .ref b), (1, .ref (dn_a u 0)), (2, .ref (dn_a v 100)), (3, .int x3)]) (kk : ∀ (σ τ : dn_S) (H : Heap) (locs : List Loc), Rel σ τ → lw_Inv s u v σ τ H locs → W p l e room_1 s m #[Value.ref b] below meth c H locs 106 4363 Z (F0 m 952 ls [])) : W p l e room_1 s m #[Value.ref b] below meth c H locs 106 4363 Z (F0 m 417 ls []) := by
  obtain ⟨hx, hb, hr, hml, hown, hts, hX, hbl, hlocks, hgv⟩ := id C0
  obtain ⟨⟨hu, hv⟩, ⟨hKu, hKv⟩, ⟨hzu, hzv⟩, hN, ⟨hIu, hIv⟩, ⟨hAu, hAv⟩, hdis⟩ := K0
  obtain ⟨hPu, hPv, hS⟩ := I
  have hbA : ¬ (fun q : Nat => s.heap.size ≤ q) b := Nat.not_le.mpr hbl
  obtain ⟨r, σ1, τ1, e1, e2, hR1⟩ := ok_inNights (xs (x3 + 1).toNatClampNeg) (xs (x3 + 2).toNatClampNeg) σ τ hR
  refine lv_aload_n hx hb dL_law_417 rfl (lv_at hl 1 rfl) ?_
  refine lv_aload_n hx hb dL_law_418 rfl (lv_at hl 0 rfl) ?_
  refine lv_iload_n hx hb dL_law_419 rfl (lv_at hl 3 rfl) ?_
  refine lv_iconst (v := 1) hx hb dL_law_420 (by decide) ?_
  refine lv_iadd hx hb dL_law_421 ?_
  refine va_sld hx hb hX hbl hbA hS hin.1 dL_law_422 ?_
  refine lv_aload_n hx hb dL_law_423 rfl (lv_at hl 0 rfl) ?_
  refine lv_iload_n hx hb dL_law_424 rfl (lv_at hl 3 rfl) ?_
  refine lv_iconst (v := 2) hx hb dL_law_425 (by decide) ?_
  refine lv_iadd hx hb dL_law_426 ?_
  refine va_sld hx hb hX hbl hbA hS hin.2.1 dL_law_427 ?_
  refine lw_call C0 hKu hzu hN hIu hAu (T := TX11) (N := 10) [.int (xs (x3 + 1).toNatClampNeg), .int (xs (x3 + 2).toNatClampNeg)] (rest := []) (dn_h0 hu) rfl rfl (c_X11_inNights l u hu (xs (x3 + 1).toNatClampNeg) (xs (x3 + 2).toNatClampNeg) σ) e1 tv_X11_inNights rfl dn_hd_X11_inNights rfl rfl rfl rfl dL_law_428 hPu hS hl.1 (fun H1 locs1 hP1 hk1 hS1 => ?_)
  have hPv := lw_kept hPv hk1 (fun q h1 h2 => hdis q h2 h1)
  clear hk1 hS
  clear hPu
  have hPu := hP1
  clear hP1
  have hS := hS1
  clear hS1
  generalize H1 = H at *
  refine lv_aload_n hx hb dL_law_431 rfl (lv_at hl 2 rfl) ?_
  refine lv_aload_n hx hb dL_law_432 rfl (lv_at hl 0 rfl) ?_
  refine lv_iload_n hx hb dL_law_433 rfl (lv_at hl 3 rfl) ?_
  refine lv_iconst (v := 1) hx hb dL_law_434 (by decide) ?_
  refine lv_iadd hx hb dL_law_435 ?_
  refine va_sld hx hb hX hbl hbA hS hin.1 dL_law_436 ?_
  refine lv_aload_n hx hb dL_law_437 rfl (lv_at hl 0 rfl) ?_
  refine lv_iload_n hx hb dL_law_438 rfl (lv_at hl 3 rfl) ?_
  refine lv_iconst (v := 2) hx hb dL_law_439 (by decide) ?_
  refine lv_iadd hx hb dL_law_440 ?_
  refine va_sld hx hb hX hbl hbA hS hin.2.1 dL_law_441 ?_
  refine lw_call C0 hKv hzv hN hIv hAv (T := TX12) (N := 35) [.int (xs (x3 + 1).toNatClampNeg), .int (xs (x3 + 2).toNatClampNeg)] (rest := [.int r]) (dn_h100 hv) rfl rfl (c_X12_inNights l v hv (xs (x3 + 1).toNatClampNeg) (xs (x3 + 2).toNatClampNeg) τ) e2 tv_X12_inNights rfl dn_hd_X12_inNights rfl rfl rfl rfl dL_law_442 hPv hS hl.1 (fun H1 locs1 hP1 hk1 hS1 => ?_)
  have hPu := lw_kept hPu hk1 hdis
  clear hk1 hS
  clear hPv
  have hPv := hP1
  clear hP1
  have hS := hS1
  clear hS1
  generalize H1 = H at *
  refine lv_icmp_eq (tgt := 952) hx hb dL_law_445 (by decide) (fun _ => ?_) (fun hc => absurd rfl hc)
  exact kk σ1 τ1 _ _ hR1 ⟨hPu, hPv, hS⟩
set_option maxRecDepth 100000 in
set_option maxHeartbeats 4000000 in
theorem lc_purseIn {p : Program} {l : Launch} {e : Env} {s : State} {m : MethodId} {below : List Frame} {meth : Method} {c : Code} {b L : Nat} {xs : Nat → Int32} {Z : State → Prop} (C0 : lw_At p s m meth c b L xs) {u v : dn_U} (K0 : lw_Cst s u v) {σ τ : dn_S} (hR : Rel σ τ) {H : Heap} {locs : List Loc} (I : lw_Inv s u v σ τ H locs) {x3 : Int32} {ls : Array Slot} (hin : vp_in (x3 + 1) L ∧ vp_in (x3 + 2) L ∧ vp_in (x3 + 3) L ∧ vp_in (x3 + 4) L) (hl : lv_has ls 4 [(0, .ref b), (1, .ref (dn_a u 0)), (2, .ref (dn_a v 100)), (3, .int x3)]) (kk : ∀ (σ τ : dn_S) (H : Heap) (locs : List Loc), Rel σ τ → lw_Inv s u v σ τ H locs → W p l e room_1 s m #[Value.ref b] below meth c H locs 106 4363 Z (F0 m 952 ls [])) : W p l e room_1 s m #[Value.ref b] below meth c H locs 106 4363 Z (F0 m 450 ls []) := by
  obtain ⟨hx, hb, hr, hml, hown, hts, hX, hbl, hlocks, hgv⟩ := id C0
  obtain ⟨⟨hu, hv⟩, ⟨hKu, hKv⟩, ⟨hzu, hzv⟩, hN, ⟨hIu, hIv⟩, ⟨hAu, hAv⟩, hdis⟩ := K0
  obtain ⟨hPu, hPv, hS⟩ := I
  have hbA : ¬ (fun q : Nat => s.heap.size ≤ q) b := Nat.not_le.mpr hbl
  obtain ⟨r, σ1, τ1, e1, e2, hR1⟩ := ok_purseIn (xs (x3 + 1).toNatClampNeg) (xs (x3 + 2).toNatClampNeg) σ τ hR
  refine lv_aload_n hx hb dL_law_450 rfl (lv_at hl 1 rfl) ?_
  refine lv_aload_n hx hb dL_law_451 rfl (lv_at hl 0 rfl) ?_
  refine lv_iload_n hx hb dL_law_452 rfl (lv_at hl 3 rfl) ?_
  refine lv_iconst (v := 1) hx hb dL_law_453 (by decide) ?_
  refine lv_iadd hx hb dL_law_454 ?_
  refine va_sld hx hb hX hbl hbA hS hin.1 dL_law_455 ?_
  refine lv_aload_n hx hb dL_law_456 rfl (lv_at hl 0 rfl) ?_
  refine lv_iload_n hx hb dL_law_457 rfl (lv_at hl 3 rfl) ?_
  refine lv_iconst (v := 2) hx hb dL_law_458 (by decide) ?_
  refine lv_iadd hx hb dL_law_459 ?_
  refine va_sld hx hb hX hbl hbA hS hin.2.1 dL_law_460 ?_
  refine lw_call C0 hKu hzu hN hIu hAu (T := TX11) (N := 10) [.int (xs (x3 + 1).toNatClampNeg), .int (xs (x3 + 2).toNatClampNeg)] (rest := []) (dn_h0 hu) rfl rfl (c_X11_purseIn l u hu (xs (x3 + 1).toNatClampNeg) (xs (x3 + 2).toNatClampNeg) σ) e1 tv_X11_purseIn rfl dn_hd_X11_purseIn rfl rfl rfl rfl dL_law_461 hPu hS hl.1 (fun H1 locs1 hP1 hk1 hS1 => ?_)
  have hPv := lw_kept hPv hk1 (fun q h1 h2 => hdis q h2 h1)
  clear hk1 hS
  clear hPu
  have hPu := hP1
  clear hP1
  have hS := hS1
  clear hS1
  generalize H1 = H at *
  refine lv_aload_n hx hb dL_law_464 rfl (lv_at hl 2 rfl) ?_
  refine lv_aload_n hx hb dL_law_465 rfl (lv_at hl 0 rfl) ?_
  refine lv_iload_n hx hb dL_law_466 rfl (lv_at hl 3 rfl) ?_
  refine lv_iconst (v := 1) hx hb dL_law_467 (by decide) ?_
  refine lv_iadd hx hb dL_law_468 ?_
  refine va_sld hx hb hX hbl hbA hS hin.1 dL_law_469 ?_
  refine lv_aload_n hx hb dL_law_470 rfl (lv_at hl 0 rfl) ?_
  refine lv_iload_n hx hb dL_law_471 rfl (lv_at hl 3 rfl) ?_
  refine lv_iconst (v := 2) hx hb dL_law_472 (by decide) ?_
  refine lv_iadd hx hb dL_law_473 ?_
  refine va_sld hx hb hX hbl hbA hS hin.2.1 dL_law_474 ?_
  refine lw_call C0 hKv hzv hN hIv hAv (T := TX12) (N := 35) [.int (xs (x3 + 1).toNatClampNeg), .int (xs (x3 + 2).toNatClampNeg)] (rest := [.int r]) (dn_h100 hv) rfl rfl (c_X12_purseIn l v hv (xs (x3 + 1).toNatClampNeg) (xs (x3 + 2).toNatClampNeg) τ) e2 tv_X12_purseIn rfl dn_hd_X12_purseIn rfl rfl rfl rfl dL_law_475 hPv hS hl.1 (fun H1 locs1 hP1 hk1 hS1 => ?_)
  have hPu := lw_kept hPu hk1 hdis
  clear hk1 hS
  clear hPv
  have hPv := hP1
  clear hP1
  have hS := hS1
  clear hS1
  generalize H1 = H at *
  refine lv_icmp_eq (tgt := 952) hx hb dL_law_478 (by decide) (fun _ => ?_) (fun hc => absurd rfl hc)
  exact kk σ1 τ1 _ _ hR1 ⟨hPu, hPv, hS⟩
set_option maxRecDepth 100000 in
set_option maxHeartbeats 4000000 in
theorem lc_falls {p : Program} {l : Launch} {e : Env} {s : State} {m : MethodId} {below : List Frame} {meth : Method} {c : Code} {b L : Nat} {xs : Nat → Int32} {Z : State → Prop} (C0 : lw_At p s m meth c b L xs) {u v : dn_U} (K0 : lw_Cst s u v) {σ τ : dn_S} (hR : Rel σ τ) {H : Heap} {locs : List Loc} (I : lw_Inv s u v σ τ H locs) {x3 : Int32} {ls : Array Slot} (hin : vp_in (x3 + 1) L ∧ vp_in (x3 + 2) L ∧ vp_in (x3 + 3) L ∧ vp_in (x3 + 4) L) (hl : lv_has ls 4 [(0, .ref b), (1, .ref (dn_a u 0)), (2, .ref (dn_a v 100)), (3, .int x3)]) (kk : ∀ (σ τ : dn_S) (H : Heap) (locs : List Loc), Rel σ τ → lw_Inv s u v σ τ H locs → W p l e room_1 s m #[Value.ref b] below meth c H locs 106 4363 Z (F0 m 952 ls [])) : W p l e room_1 s m #[Value.ref b] below meth c H locs 106 4363 Z (F0 m 483 ls []) := by
  obtain ⟨hx, hb, hr, hml, hown, hts, hX, hbl, hlocks, hgv⟩ := id C0
  obtain ⟨⟨hu, hv⟩, ⟨hKu, hKv⟩, ⟨hzu, hzv⟩, hN, ⟨hIu, hIv⟩, ⟨hAu, hAv⟩, hdis⟩ := K0
  obtain ⟨hPu, hPv, hS⟩ := I
  have hbA : ¬ (fun q : Nat => s.heap.size ≤ q) b := Nat.not_le.mpr hbl
  obtain ⟨r, σ1, τ1, e1, e2, hR1⟩ := ok_falls (xs (x3 + 1).toNatClampNeg) σ τ hR
  refine lv_aload_n hx hb dL_law_483 rfl (lv_at hl 1 rfl) ?_
  refine lv_aload_n hx hb dL_law_484 rfl (lv_at hl 0 rfl) ?_
  refine lv_iload_n hx hb dL_law_485 rfl (lv_at hl 3 rfl) ?_
  refine lv_iconst (v := 1) hx hb dL_law_486 (by decide) ?_
  refine lv_iadd hx hb dL_law_487 ?_
  refine va_sld hx hb hX hbl hbA hS hin.1 dL_law_488 ?_
  refine lw_call C0 hKu hzu hN hIu hAu (T := TX11) (N := 10) [.int (xs (x3 + 1).toNatClampNeg)] (rest := []) (dn_h0 hu) rfl rfl (c_X11_falls l u hu (xs (x3 + 1).toNatClampNeg) σ) e1 tv_X11_falls rfl dn_hd_X11_falls rfl rfl rfl rfl dL_law_489 hPu hS hl.1 (fun H1 locs1 hP1 hk1 hS1 => ?_)
  have hPv := lw_kept hPv hk1 (fun q h1 h2 => hdis q h2 h1)
  clear hk1 hS
  clear hPu
  have hPu := hP1
  clear hP1
  have hS := hS1
  clear hS1
  generalize H1 = H at *
  refine lv_aload_n hx hb dL_law_492 rfl (lv_at hl 2 rfl) ?_
  refine lv_aload_n hx hb dL_law_493 rfl (lv_at hl 0 rfl) ?_
  refine lv_iload_n hx hb dL_law_494 rfl (lv_at hl 3 rfl) ?_
  refine lv_iconst (v := 1) hx hb dL_law_495 (by decide) ?_
  refine lv_iadd hx hb dL_law_496 ?_
  refine va_sld hx hb hX hbl hbA hS hin.1 dL_law_497 ?_
  refine lw_call C0 hKv hzv hN hIv hAv (T := TX12) (N := 35) [.int (xs (x3 + 1).toNatClampNeg)] (rest := [.int r]) (dn_h100 hv) rfl rfl (c_X12_falls l v hv (xs (x3 + 1).toNatClampNeg) τ) e2 tv_X12_falls rfl dn_hd_X12_falls rfl rfl rfl rfl dL_law_498 hPv hS hl.1 (fun H1 locs1 hP1 hk1 hS1 => ?_)
  have hPu := lw_kept hPu hk1 hdis
  clear hk1 hS
  clear hPv
  have hPv := hP1
  clear hP1
  have hS := hS1
  clear hS1
  generalize H1 = H at *
  refine lv_icmp_eq (tgt := 952) hx hb dL_law_501 (by decide) (fun _ => ?_) (fun hc => absurd rfl hc)
  exact kk σ1 τ1 _ _ hR1 ⟨hPu, hPv, hS⟩
set_option maxRecDepth 100000 in
set_option maxHeartbeats 4000000 in
theorem lc_buy {p : Program} {l : Launch} {e : Env} {s : State} {m : MethodId} {below : List Frame} {meth : Method} {c : Code} {b L : Nat} {xs : Nat → Int32} {Z : State → Prop} (C0 : lw_At p s m meth c b L xs) {u v : dn_U} (K0 : lw_Cst s u v) {σ τ : dn_S} (hR : Rel σ τ) {H : Heap} {locs : List Loc} (I : lw_Inv s u v σ τ H locs) {x3 : Int32} {ls : Array Slot} (hin : vp_in (x3 + 1) L ∧ vp_in (x3 + 2) L ∧ vp_in (x3 + 3) L ∧ vp_in (x3 + 4) L) (hl : lv_has ls 4 [(0, .ref b), (1, .ref (dn_a u 0)), (2, .ref (dn_a v 100)), (3, .int x3)]) (kk : ∀ (σ τ : dn_S) (H : Heap) (locs : List Loc), Rel σ τ → lw_Inv s u v σ τ H locs → W p l e room_1 s m #[Value.ref b] below meth c H locs 106 4363 Z (F0 m 952 ls [])) : W p l e room_1 s m #[Value.ref b] below meth c H locs 106 4363 Z (F0 m 506 ls []) := by
  obtain ⟨hx, hb, hr, hml, hown, hts, hX, hbl, hlocks, hgv⟩ := id C0
  obtain ⟨⟨hu, hv⟩, ⟨hKu, hKv⟩, ⟨hzu, hzv⟩, hN, ⟨hIu, hIv⟩, ⟨hAu, hAv⟩, hdis⟩ := K0
  obtain ⟨hPu, hPv, hS⟩ := I
  have hbA : ¬ (fun q : Nat => s.heap.size ≤ q) b := Nat.not_le.mpr hbl
  obtain ⟨r, σ1, τ1, e1, e2, hR1⟩ := ok_buy (xs (x3 + 1).toNatClampNeg) (xs (x3 + 2).toNatClampNeg) (xs (x3 + 3).toNatClampNeg) σ τ hR
  refine lv_aload_n hx hb dL_law_506 rfl (lv_at hl 1 rfl) ?_
  refine lv_aload_n hx hb dL_law_507 rfl (lv_at hl 0 rfl) ?_
  refine lv_iload_n hx hb dL_law_508 rfl (lv_at hl 3 rfl) ?_
  refine lv_iconst (v := 1) hx hb dL_law_509 (by decide) ?_
  refine lv_iadd hx hb dL_law_510 ?_
  refine va_sld hx hb hX hbl hbA hS hin.1 dL_law_511 ?_
  refine lv_aload_n hx hb dL_law_512 rfl (lv_at hl 0 rfl) ?_
  refine lv_iload_n hx hb dL_law_513 rfl (lv_at hl 3 rfl) ?_
  refine lv_iconst (v := 2) hx hb dL_law_514 (by decide) ?_
  refine lv_iadd hx hb dL_law_515 ?_
  refine va_sld hx hb hX hbl hbA hS hin.2.1 dL_law_516 ?_
  refine lv_aload_n hx hb dL_law_517 rfl (lv_at hl 0 rfl) ?_
  refine lv_iload_n hx hb dL_law_518 rfl (lv_at hl 3 rfl) ?_
  refine lv_iconst (v := 3) hx hb dL_law_519 (by decide) ?_
  refine lv_iadd hx hb dL_law_520 ?_
  refine va_sld hx hb hX hbl hbA hS hin.2.2.1 dL_law_521 ?_
  refine lw_call C0 hKu hzu hN hIu hAu (T := TX11) (N := 10) [.int (xs (x3 + 1).toNatClampNeg), .int (xs (x3 + 2).toNatClampNeg), .int (xs (x3 + 3).toNatClampNeg)] (rest := []) (dn_h0 hu) rfl rfl (c_X11_buy l u hu (xs (x3 + 1).toNatClampNeg) (xs (x3 + 2).toNatClampNeg) (xs (x3 + 3).toNatClampNeg) σ) e1 tv_X11_buy rfl dn_hd_X11_buy rfl rfl rfl rfl dL_law_522 hPu hS hl.1 (fun H1 locs1 hP1 hk1 hS1 => ?_)
  have hPv := lw_kept hPv hk1 (fun q h1 h2 => hdis q h2 h1)
  clear hk1 hS
  clear hPu
  have hPu := hP1
  clear hP1
  have hS := hS1
  clear hS1
  generalize H1 = H at *
  refine lv_aload_n hx hb dL_law_525 rfl (lv_at hl 2 rfl) ?_
  refine lv_aload_n hx hb dL_law_526 rfl (lv_at hl 0 rfl) ?_
  refine lv_iload_n hx hb dL_law_527 rfl (lv_at hl 3 rfl) ?_
  refine lv_iconst (v := 1) hx hb dL_law_528 (by decide) ?_
  refine lv_iadd hx hb dL_law_529 ?_
  refine va_sld hx hb hX hbl hbA hS hin.1 dL_law_530 ?_
  refine lv_aload_n hx hb dL_law_531 rfl (lv_at hl 0 rfl) ?_
  refine lv_iload_n hx hb dL_law_532 rfl (lv_at hl 3 rfl) ?_
  refine lv_iconst (v := 2) hx hb dL_law_533 (by decide) ?_
  refine lv_iadd hx hb dL_law_534 ?_
  refine va_sld hx hb hX hbl hbA hS hin.2.1 dL_law_535 ?_
  refine lv_aload_n hx hb dL_law_536 rfl (lv_at hl 0 rfl) ?_
  refine lv_iload_n hx hb dL_law_537 rfl (lv_at hl 3 rfl) ?_
  refine lv_iconst (v := 3) hx hb dL_law_538 (by decide) ?_
  refine lv_iadd hx hb dL_law_539 ?_
  refine va_sld hx hb hX hbl hbA hS hin.2.2.1 dL_law_540 ?_
  refine lw_call C0 hKv hzv hN hIv hAv (T := TX12) (N := 35) [.int (xs (x3 + 1).toNatClampNeg), .int (xs (x3 + 2).toNatClampNeg), .int (xs (x3 + 3).toNatClampNeg)] (rest := [.int r]) (dn_h100 hv) rfl rfl (c_X12_buy l v hv (xs (x3 + 1).toNatClampNeg) (xs (x3 + 2).toNatClampNeg) (xs (x3 + 3).toNatClampNeg) τ) e2 tv_X12_buy rfl dn_hd_X12_buy rfl rfl rfl rfl dL_law_541 hPv hS hl.1 (fun H1 locs1 hP1 hk1 hS1 => ?_)
  have hPu := lw_kept hPu hk1 hdis
  clear hk1 hS
  clear hPv
  have hPv := hP1
  clear hP1
  have hS := hS1
  clear hS1
  generalize H1 = H at *
  refine lv_icmp_eq (tgt := 952) hx hb dL_law_544 (by decide) (fun _ => ?_) (fun hc => absurd rfl hc)
  exact kk σ1 τ1 _ _ hR1 ⟨hPu, hPv, hS⟩
set_option maxRecDepth 100000 in
set_option maxHeartbeats 4000000 in
theorem lc_hold {p : Program} {l : Launch} {e : Env} {s : State} {m : MethodId} {below : List Frame} {meth : Method} {c : Code} {b L : Nat} {xs : Nat → Int32} {Z : State → Prop} (C0 : lw_At p s m meth c b L xs) {u v : dn_U} (K0 : lw_Cst s u v) {σ τ : dn_S} (hR : Rel σ τ) {H : Heap} {locs : List Loc} (I : lw_Inv s u v σ τ H locs) {x3 : Int32} {ls : Array Slot} (hin : vp_in (x3 + 1) L ∧ vp_in (x3 + 2) L ∧ vp_in (x3 + 3) L ∧ vp_in (x3 + 4) L) (hl : lv_has ls 4 [(0, .ref b), (1, .ref (dn_a u 0)), (2, .ref (dn_a v 100)), (3, .int x3)]) (kk : ∀ (σ τ : dn_S) (H : Heap) (locs : List Loc), Rel σ τ → lw_Inv s u v σ τ H locs → W p l e room_1 s m #[Value.ref b] below meth c H locs 106 4363 Z (F0 m 952 ls [])) : W p l e room_1 s m #[Value.ref b] below meth c H locs 106 4363 Z (F0 m 549 ls []) := by
  obtain ⟨hx, hb, hr, hml, hown, hts, hX, hbl, hlocks, hgv⟩ := id C0
  obtain ⟨⟨hu, hv⟩, ⟨hKu, hKv⟩, ⟨hzu, hzv⟩, hN, ⟨hIu, hIv⟩, ⟨hAu, hAv⟩, hdis⟩ := K0
  obtain ⟨hPu, hPv, hS⟩ := I
  have hbA : ¬ (fun q : Nat => s.heap.size ≤ q) b := Nat.not_le.mpr hbl
  obtain ⟨r, σ1, τ1, e1, e2, hR1⟩ := ok_hold (xs (x3 + 1).toNatClampNeg) (xs (x3 + 2).toNatClampNeg) (xs (x3 + 3).toNatClampNeg) σ τ hR
  refine lv_aload_n hx hb dL_law_549 rfl (lv_at hl 1 rfl) ?_
  refine lv_aload_n hx hb dL_law_550 rfl (lv_at hl 0 rfl) ?_
  refine lv_iload_n hx hb dL_law_551 rfl (lv_at hl 3 rfl) ?_
  refine lv_iconst (v := 1) hx hb dL_law_552 (by decide) ?_
  refine lv_iadd hx hb dL_law_553 ?_
  refine va_sld hx hb hX hbl hbA hS hin.1 dL_law_554 ?_
  refine lv_aload_n hx hb dL_law_555 rfl (lv_at hl 0 rfl) ?_
  refine lv_iload_n hx hb dL_law_556 rfl (lv_at hl 3 rfl) ?_
  refine lv_iconst (v := 2) hx hb dL_law_557 (by decide) ?_
  refine lv_iadd hx hb dL_law_558 ?_
  refine va_sld hx hb hX hbl hbA hS hin.2.1 dL_law_559 ?_
  refine lv_aload_n hx hb dL_law_560 rfl (lv_at hl 0 rfl) ?_
  refine lv_iload_n hx hb dL_law_561 rfl (lv_at hl 3 rfl) ?_
  refine lv_iconst (v := 3) hx hb dL_law_562 (by decide) ?_
  refine lv_iadd hx hb dL_law_563 ?_
  refine va_sld hx hb hX hbl hbA hS hin.2.2.1 dL_law_564 ?_
  refine lw_call C0 hKu hzu hN hIu hAu (T := TX11) (N := 10) [.int (xs (x3 + 1).toNatClampNeg), .int (xs (x3 + 2).toNatClampNeg), .int (xs (x3 + 3).toNatClampNeg)] (rest := []) (dn_h0 hu) rfl rfl (c_X11_hold l u hu (xs (x3 + 1).toNatClampNeg) (xs (x3 + 2).toNatClampNeg) (xs (x3 + 3).toNatClampNeg) σ) e1 tv_X11_hold rfl dn_hd_X11_hold rfl rfl rfl rfl dL_law_565 hPu hS hl.1 (fun H1 locs1 hP1 hk1 hS1 => ?_)
  have hPv := lw_kept hPv hk1 (fun q h1 h2 => hdis q h2 h1)
  clear hk1 hS
  clear hPu
  have hPu := hP1
  clear hP1
  have hS := hS1
  clear hS1
  generalize H1 = H at *
  refine lv_aload_n hx hb dL_law_568 rfl (lv_at hl 2 rfl) ?_
  refine lv_aload_n hx hb dL_law_569 rfl (lv_at hl 0 rfl) ?_
  refine lv_iload_n hx hb dL_law_570 rfl (lv_at hl 3 rfl) ?_
  refine lv_iconst (v := 1) hx hb dL_law_571 (by decide) ?_
  refine lv_iadd hx hb dL_law_572 ?_
  refine va_sld hx hb hX hbl hbA hS hin.1 dL_law_573 ?_
  refine lv_aload_n hx hb dL_law_574 rfl (lv_at hl 0 rfl) ?_
  refine lv_iload_n hx hb dL_law_575 rfl (lv_at hl 3 rfl) ?_
  refine lv_iconst (v := 2) hx hb dL_law_576 (by decide) ?_
  refine lv_iadd hx hb dL_law_577 ?_
  refine va_sld hx hb hX hbl hbA hS hin.2.1 dL_law_578 ?_
  refine lv_aload_n hx hb dL_law_579 rfl (lv_at hl 0 rfl) ?_
  refine lv_iload_n hx hb dL_law_580 rfl (lv_at hl 3 rfl) ?_
  refine lv_iconst (v := 3) hx hb dL_law_581 (by decide) ?_
  refine lv_iadd hx hb dL_law_582 ?_
  refine va_sld hx hb hX hbl hbA hS hin.2.2.1 dL_law_583 ?_
  refine lw_call C0 hKv hzv hN hIv hAv (T := TX12) (N := 35) [.int (xs (x3 + 1).toNatClampNeg), .int (xs (x3 + 2).toNatClampNeg), .int (xs (x3 + 3).toNatClampNeg)] (rest := [.int r]) (dn_h100 hv) rfl rfl (c_X12_hold l v hv (xs (x3 + 1).toNatClampNeg) (xs (x3 + 2).toNatClampNeg) (xs (x3 + 3).toNatClampNeg) τ) e2 tv_X12_hold rfl dn_hd_X12_hold rfl rfl rfl rfl dL_law_584 hPv hS hl.1 (fun H1 locs1 hP1 hk1 hS1 => ?_)
  have hPu := lw_kept hPu hk1 hdis
  clear hk1 hS
  clear hPv
  have hPv := hP1
  clear hP1
  have hS := hS1
  clear hS1
  generalize H1 = H at *
  refine lv_icmp_eq (tgt := 952) hx hb dL_law_587 (by decide) (fun _ => ?_) (fun hc => absurd rfl hc)
  exact kk σ1 τ1 _ _ hR1 ⟨hPu, hPv, hS⟩
set_option maxRecDepth 100000 in
set_option maxHeartbeats 4000000 in
theorem lc_ring {p : Program} {l : Launch} {e : Env} {s : State} {m : MethodId} {below : List Frame} {meth : Method} {c : Code} {b L : Nat} {xs : Nat → Int32} {Z : State → Prop} (C0 : lw_At p s m meth c b L xs) {u v : dn_U} (K0 : lw_Cst s u v) {σ τ : dn_S} (hR : Rel σ τ) {H : Heap} {locs : List Loc} (I : lw_Inv s u v σ τ H locs) {x3 : Int32} {ls : Array Slot} (hin : vp_in (x3 + 1) L ∧ vp_in (x3 + 2) L ∧ vp_in (x3 + 3) L ∧ vp_in (x3 + 4) L) (hl : lv_has ls 4 [(0, .ref b), (1, .ref (dn_a u 0)), (2, .ref (dn_a v 100)), (3, .int x3)]) (kk : ∀ (σ τ : dn_S) (H : Heap) (locs : List Loc), Rel σ τ → lw_Inv s u v σ τ H locs → W p l e room_1 s m #[Value.ref b] below meth c H locs 106 4363 Z (F0 m 952 ls [])) : W p l e room_1 s m #[Value.ref b] below meth c H locs 106 4363 Z (F0 m 592 ls []) := by
  obtain ⟨hx, hb, hr, hml, hown, hts, hX, hbl, hlocks, hgv⟩ := id C0
  obtain ⟨⟨hu, hv⟩, ⟨hKu, hKv⟩, ⟨hzu, hzv⟩, hN, ⟨hIu, hIv⟩, ⟨hAu, hAv⟩, hdis⟩ := K0
  obtain ⟨hPu, hPv, hS⟩ := I
  have hbA : ¬ (fun q : Nat => s.heap.size ≤ q) b := Nat.not_le.mpr hbl
  obtain ⟨r, σ1, τ1, e1, e2, hR1⟩ := ok_ring (xs (x3 + 1).toNatClampNeg) (xs (x3 + 2).toNatClampNeg) (xs (x3 + 3).toNatClampNeg) σ τ hR
  refine lv_aload_n hx hb dL_law_592 rfl (lv_at hl 1 rfl) ?_
  refine lv_aload_n hx hb dL_law_593 rfl (lv_at hl 0 rfl) ?_
  refine lv_iload_n hx hb dL_law_594 rfl (lv_at hl 3 rfl) ?_
  refine lv_iconst (v := 1) hx hb dL_law_595 (by decide) ?_
  refine lv_iadd hx hb dL_law_596 ?_
  refine va_sld hx hb hX hbl hbA hS hin.1 dL_law_597 ?_
  refine lv_aload_n hx hb dL_law_598 rfl (lv_at hl 0 rfl) ?_
  refine lv_iload_n hx hb dL_law_599 rfl (lv_at hl 3 rfl) ?_
  refine lv_iconst (v := 2) hx hb dL_law_600 (by decide) ?_
  refine lv_iadd hx hb dL_law_601 ?_
  refine va_sld hx hb hX hbl hbA hS hin.2.1 dL_law_602 ?_
  refine lv_aload_n hx hb dL_law_603 rfl (lv_at hl 0 rfl) ?_
  refine lv_iload_n hx hb dL_law_604 rfl (lv_at hl 3 rfl) ?_
  refine lv_iconst (v := 3) hx hb dL_law_605 (by decide) ?_
  refine lv_iadd hx hb dL_law_606 ?_
  refine va_sld hx hb hX hbl hbA hS hin.2.2.1 dL_law_607 ?_
  refine lw_call C0 hKu hzu hN hIu hAu (T := TX11) (N := 10) [.int (xs (x3 + 1).toNatClampNeg), .int (xs (x3 + 2).toNatClampNeg), .int (xs (x3 + 3).toNatClampNeg)] (rest := []) (dn_h0 hu) rfl rfl (c_X11_ring l u hu (xs (x3 + 1).toNatClampNeg) (xs (x3 + 2).toNatClampNeg) (xs (x3 + 3).toNatClampNeg) σ) e1 tv_X11_ring rfl dn_hd_X11_ring rfl rfl rfl rfl dL_law_608 hPu hS hl.1 (fun H1 locs1 hP1 hk1 hS1 => ?_)
  have hPv := lw_kept hPv hk1 (fun q h1 h2 => hdis q h2 h1)
  clear hk1 hS
  clear hPu
  have hPu := hP1
  clear hP1
  have hS := hS1
  clear hS1
  generalize H1 = H at *
  refine lv_aload_n hx hb dL_law_611 rfl (lv_at hl 2 rfl) ?_
  refine lv_aload_n hx hb dL_law_612 rfl (lv_at hl 0 rfl) ?_
  refine lv_iload_n hx hb dL_law_613 rfl (lv_at hl 3 rfl) ?_
  refine lv_iconst (v := 1) hx hb dL_law_614 (by decide) ?_
  refine lv_iadd hx hb dL_law_615 ?_
  refine va_sld hx hb hX hbl hbA hS hin.1 dL_law_616 ?_
  refine lv_aload_n hx hb dL_law_617 rfl (lv_at hl 0 rfl) ?_
  refine lv_iload_n hx hb dL_law_618 rfl (lv_at hl 3 rfl) ?_
  refine lv_iconst (v := 2) hx hb dL_law_619 (by decide) ?_
  refine lv_iadd hx hb dL_law_620 ?_
  refine va_sld hx hb hX hbl hbA hS hin.2.1 dL_law_621 ?_
  refine lv_aload_n hx hb dL_law_622 rfl (lv_at hl 0 rfl) ?_
  refine lv_iload_n hx hb dL_law_623 rfl (lv_at hl 3 rfl) ?_
  refine lv_iconst (v := 3) hx hb dL_law_624 (by decide) ?_
  refine lv_iadd hx hb dL_law_625 ?_
  refine va_sld hx hb hX hbl hbA hS hin.2.2.1 dL_law_626 ?_
  refine lw_call C0 hKv hzv hN hIv hAv (T := TX12) (N := 35) [.int (xs (x3 + 1).toNatClampNeg), .int (xs (x3 + 2).toNatClampNeg), .int (xs (x3 + 3).toNatClampNeg)] (rest := [.int r]) (dn_h100 hv) rfl rfl (c_X12_ring l v hv (xs (x3 + 1).toNatClampNeg) (xs (x3 + 2).toNatClampNeg) (xs (x3 + 3).toNatClampNeg) τ) e2 tv_X12_ring rfl dn_hd_X12_ring rfl rfl rfl rfl dL_law_627 hPv hS hl.1 (fun H1 locs1 hP1 hk1 hS1 => ?_)
  have hPu := lw_kept hPu hk1 hdis
  clear hk1 hS
  clear hPv
  have hPv := hP1
  clear hP1
  have hS := hS1
  clear hS1
  generalize H1 = H at *
  refine lv_icmp_eq (tgt := 952) hx hb dL_law_630 (by decide) (fun _ => ?_) (fun hc => absurd rfl hc)
  exact kk σ1 τ1 _ _ hR1 ⟨hPu, hPv, hS⟩
