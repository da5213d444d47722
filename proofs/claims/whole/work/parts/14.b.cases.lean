/-! the law: one case a call (written by wip/whole/gen_law.py) -/
set_option maxRecDepth 100000 in
set_option maxHeartbeats 4000000 in
theorem lc_type {p : Program} {l : Launch} {e : Env} {s : State} {m : MethodId} {below : List Frame} {meth : Method} {c : Code} {b L : Nat} {xs : Nat → Int32} {Z : State → Prop} (C0 : lw_At p s m meth c b L xs) {u v : dn_U} (K0 : lw_Cst s u v) {σ τ : dn_S} (hR : Rel σ τ) {H : Heap} {locs : List Loc} (I : lw_Inv s u v σ τ H locs) {x3 : Int32} {ls : Array Slot} (hin : vp_in (x3 + 1) L ∧ vp_in (x3 + 2) L ∧ vp_in (x3 + 3) L ∧ vp_in (x3 + 4) L) (hl : lv_has ls 4 [(0, .ref b), (1, .ref (dn_a u 0)), (2, .ref (dn_a v 100)), (3, .int x3)]) (kk : ∀ (σ τ : dn_S) (H : Heap) (locs : List Loc), Rel σ τ → lw_Inv s u v σ τ H locs → W p l e room_1 s m #[Value.ref b] below meth c H locs 106 4363 Z (F0 m 952 ls [])) : W p l e room_1 s m #[Value.ref b] below meth c H locs 106 4363 Z (F0 m 164 ls []) := by
  obtain ⟨hx, hb, hr, hml, hown, hts, hX, hbl, hlocks, hgv⟩ := id C0
  obtain ⟨⟨hu, hv⟩, ⟨hKu, hKv⟩, ⟨hzu, hzv⟩, hN, ⟨hIu, hIv⟩, ⟨hAu, hAv⟩, hdis⟩ := K0
  obtain ⟨hPu, hPv, hS⟩ := I
  have hbA : ¬ (fun q : Nat => s.heap.size ≤ q) b := Nat.not_le.mpr hbl
  obtain ⟨r, σ1, τ1, e1, e2, hR1⟩ := ok_type (xs (x3 + 1).toNatClampNeg) σ τ hR
  refine lv_aload_n hx hb dL_law_164 rfl (lv_at hl 1 rfl) ?_
  refine lv_aload_n hx hb dL_law_165 rfl (lv_at hl 0 rfl) ?_
  refine lv_iload_n hx hb dL_law_166 rfl (lv_at hl 3 rfl) ?_
  refine lv_iconst (v := 1) hx hb dL_law_167 (by decide) ?_
  refine lv_iadd hx hb dL_law_168 ?_
  refine va_sld hx hb hX hbl hbA hS hin.1 dL_law_169 ?_
  refine lw_call C0 hKu hzu hN hIu hAu (T := TX11) (N := 10) [.int (xs (x3 + 1).toNatClampNeg)] (rest := []) (dn_h0 hu) rfl rfl (c_X11_type l u hu (xs (x3 + 1).toNatClampNeg) σ) e1 tv_X11_type rfl dn_hd_X11_type rfl rfl rfl rfl dL_law_170 hPu hS hl.1 (fun H1 locs1 hP1 hk1 hS1 => ?_)
  have hPv := lw_kept hPv hk1 (fun q h1 h2 => hdis q h2 h1)
  clear hk1 hS
  clear hPu
  have hPu := hP1
  clear hP1
  have hS := hS1
  clear hS1
  generalize H1 = H at *
  refine lv_aload_n hx hb dL_law_173 rfl (lv_at hl 2 rfl) ?_
  refine lv_aload_n hx hb dL_law_174 rfl (lv_at hl 0 rfl) ?_
  refine lv_iload_n hx hb dL_law_175 rfl (lv_at hl 3 rfl) ?_
  refine lv_iconst (v := 1) hx hb dL_law_176 (by decide) ?_
  refine lv_iadd hx hb dL_law_177 ?_
  refine va_sld hx hb hX hbl hbA hS hin.1 dL_law_178 ?_
  refine lw_call C0 hKv hzv hN hIv hAv (T := TX12) (N := 35) [.int (xs (x3 + 1).toNatClampNeg)] (rest := [.int r]) (dn_h100 hv) rfl rfl (c_X12_type l v hv (xs (x3 + 1).toNatClampNeg) τ) e2 tv_X12_type rfl dn_hd_X12_type rfl rfl rfl rfl dL_law_179 hPv hS hl.1 (fun H1 locs1 hP1 hk1 hS1 => ?_)
  have hPu := lw_kept hPu hk1 hdis
  clear hk1 hS
  clear hPv
  have hPv := hP1
  clear hP1
  have hS := hS1
  clear hS1
  generalize H1 = H at *
  refine lv_icmp_eq (tgt := 952) hx hb dL_law_182 (by decide) (fun _ => ?_) (fun hc => absurd rfl hc)
  exact kk σ1 τ1 _ _ hR1 ⟨hPu, hPv, hS⟩
