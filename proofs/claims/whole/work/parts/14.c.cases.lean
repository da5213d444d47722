/-! the law: one case a call (written by wip/whole/gen_law.py) -/
set_option maxRecDepth 100000 in
set_option maxHeartbeats 4000000 in
theorem lc_clear {p : Program} {l : Launch} {e : Env} {s : State} {m : MethodId} {below : List Frame} {meth : Method} {c : Code} {b L : Nat} {xs : Nat → Int32} {Z : State → Prop} (C0 : lw_At p s m meth c b L xs) {u v : dn_U} (K0 : lw_Cst s u v) {σ τ : dn_S} (hR : Rel σ τ) {H : Heap} {locs : List Loc} (I : lw_Inv s u v σ τ H locs) {x3 : Int32} {ls : Array Slot} (hin : vp_in (x3 + 1) L ∧ vp_in (x3 + 2) L ∧ vp_in (x3 + 3) L ∧ vp_in (x3 + 4) L) (hl : lv_has ls 4 [(0, .ref b), (1, .ref (dn_a u 0)), (2, .ref (dn_a v 100)), (3, .int x3)]) (kk : ∀ (σ τ : dn_S) (H : Heap) (locs : List Loc), Rel σ τ → lw_Inv s u v σ τ H locs → W p l e room_1 s m #[Value.ref b] below meth c H locs 106 4363 Z (F0 m 952 ls [])) : W p l e room_1 s m #[Value.ref b] below meth c H locs 106 4363 Z (F0 m 187 ls []) := by
  obtain ⟨hx, hb, hr, hml, hown, hts, hX, hbl, hlocks, hgv⟩ := id C0
  obtain ⟨⟨hu, hv⟩, ⟨hKu, hKv⟩, ⟨hzu, hzv⟩, hN, ⟨hIu, hIv⟩, ⟨hAu, hAv⟩, hdis⟩ := K0
  obtain ⟨hPu, hPv, hS⟩ := I
  have hbA : ¬ (fun q : Nat => s.heap.size ≤ q) b := Nat.not_le.mpr hbl
  obtain ⟨r, σ1, τ1, e1, e2, hR1⟩ := ok_clear σ τ hR
  refine lv_aload_n hx hb dL_law_187 rfl (lv_at hl 1 rfl) ?_
  refine lw_call C0 hKu hzu hN hIu hAu (T := TX11) (N := 10) [] (rest := []) (dn_h0 hu) rfl rfl (c_X11_clear l u hu σ) e1 tv_X11_clear rfl dn_hd_X11_clear rfl rfl rfl rfl dL_law_188 hPu hS hl.1 (fun H1 locs1 hP1 hk1 hS1 => ?_)
  have hPv := lw_kept hPv hk1 (fun q h1 h2 => hdis q h2 h1)
  clear hk1 hS
  clear hPu
  have hPu := hP1
  clear hP1
  have hS := hS1
  clear hS1
  generalize H1 = H at *
  refine lv_aload_n hx hb dL_law_191 rfl (lv_at hl 2 rfl) ?_
  refine lw_call C0 hKv hzv hN hIv hAv (T := TX12) (N := 35) [] (rest := [.int r]) (dn_h100 hv) rfl rfl (c_X12_clear l v hv τ) e2 tv_X12_clear rfl dn_hd_X12_clear rfl rfl rfl rfl dL_law_192 hPv hS hl.1 (fun H1 locs1 hP1 hk1 hS1 => ?_)
  have hPu := lw_kept hPu hk1 hdis
  clear hk1 hS
  clear hPv
  have hPv := hP1
  clear hP1
  have hS := hS1
  clear hS1
  generalize H1 = H at *
  refine lv_icmp_eq (tgt := 952) hx hb dL_law_195 (by decide) (fun _ => ?_) (fun hc => absurd rfl hc)
  exact kk σ1 τ1 _ _ hR1 ⟨hPu, hPv, hS⟩
set_option maxRecDepth 100000 in
set_option maxHeartbeats 4000000 in
theorem lc_town {p : Program} {l : Launch} {e : Env} {s : State} {m : MethodId} {below : List Frame} {meth : Method} {c : Code} {b L : Nat} {xs : Nat → Int32} {Z : State → Prop} (C0 : lw_At p s m meth c b L xs) {u v : dn_U} (K0 : lw_Cst s u v) {σ τ : dn_S} (hR : Rel σ τ) {H : Heap} {locs : List Loc} (I : lw_Inv s u v σ τ H locs) {x3 : Int32} {ls : Array Slot} (hin : vp_in (x3 + 1) L ∧ vp_in (x3 + 2) L ∧ vp_in (x3 + 3) L ∧ vp_in (x3 + 4) L) (hl : lv_has ls 4 [(0, .ref b), (1, .ref (dn_a u 0)), (2, .ref (dn_a v 100)), (3, .int x3)]) (kk : ∀ (σ τ : dn_S) (H : Heap) (locs : List Loc), Rel σ τ → lw_Inv s u v σ τ H locs → W p l e room_1 s m #[Value.ref b] below meth c H locs 106 4363 Z (F0 m 952 ls [])) : W p l e room_1 s m #[Value.ref b] below meth c H locs 106 4363 Z (F0 m 200 ls []) := by
  obtain ⟨hx, hb, hr, hml, hown, hts, hX, hbl, hlocks, hgv⟩ := id C0
  obtain ⟨⟨hu, hv⟩, ⟨hKu, hKv⟩, ⟨hzu, hzv⟩, hN, ⟨hIu, hIv⟩, ⟨hAu, hAv⟩, hdis⟩ := K0
  obtain ⟨hPu, hPv, hS⟩ := I
  have hbA : ¬ (fun q : Nat => s.heap.size ≤ q) b := Nat.not_le.mpr hbl
  obtain ⟨r, σ1, τ1, e1, e2, hR1⟩ := ok_town σ τ hR
  refine lv_aload_n hx hb dL_law_200 rfl (lv_at hl 1 rfl) ?_
  refine lw_call C0 hKu hzu hN hIu hAu (T := TX11) (N := 10) [] (rest := []) (dn_h0 hu) rfl rfl (c_X11_town l u hu σ) e1 tv_X11_town rfl dn_hd_X11_town rfl rfl rfl rfl dL_law_201 hPu hS hl.1 (fun H1 locs1 hP1 hk1 hS1 => ?_)
  have hPv := lw_kept hPv hk1 (fun q h1 h2 => hdis q h2 h1)
  clear hk1 hS
  clear hPu
  have hPu := hP1
  clear hP1
  have hS := hS1
  clear hS1
  generalize H1 = H at *
  refine lv_aload_n hx hb dL_law_204 rfl (lv_at hl 2 rfl) ?_
  refine lw_call C0 hKv hzv hN hIv hAv (T := TX12) (N := 35) [] (rest := [.int r]) (dn_h100 hv) rfl rfl (c_X12_town l v hv τ) e2 tv_X12_town rfl dn_hd_X12_town rfl rfl rfl rfl dL_law_205 hPv hS hl.1 (fun H1 locs1 hP1 hk1 hS1 => ?_)
  have hPu := lw_kept hPu hk1 hdis
  clear hk1 hS
  clear hPv
  have hPv := hP1
  clear hP1
  have hS := hS1
  clear hS1
  generalize H1 = H at *
  refine lv_icmp_eq (tgt := 952) hx hb dL_law_208 (by decide) (fun _ => ?_) (fun hc => absurd rfl hc)
  exact kk σ1 τ1 _ _ hR1 ⟨hPu, hPv, hS⟩
set_option maxRecDepth 100000 in
set_option maxHeartbeats 4000000 in
theorem lc_bidder {p : Program} {l : Launch} {e : Env} {s : State} {m : MethodId} {below : List Frame} {meth : Method} {c : Code} {b L : Nat} {xs : Nat → Int32} {Z : State → Prop} (C0 : lw_At p s m meth c b L xs) {u v : dn_U} (K0 : lw_Cst s u v) {σ τ : dn_S} (hR : Rel σ τ) {H : Heap} {locs : List Loc} (I : lw_Inv s u v σ τ H locs) {x3 : Int32} {ls : Array Slot} (hin : vp_in (x3 + 1) L ∧ vp_in (x3 + 2) L ∧ vp_in (x3 + 3) L ∧ vp_in (x3 + 4) L) (hl : lv_has ls 4 [(0, .ref b), (1, .ref (dn_a u 0)), (2, .ref (dn_a v 100)), (3, .int x3)]) (kk : ∀ (σ τ : dn_S) (H : Heap) (locs : List Loc), Rel σ τ → lw_Inv s u v σ τ H locs → W p l e room_1 s m #[Value.ref b] below meth c H locs 106 4363 Z (F0 m 952 ls [])) : W p l e room_1 s m #[Value.ref b] below meth c H locs 106 4363 Z (F0 m 213 ls []) := by
  obtain ⟨hx, hb, hr, hml, hown, hts, hX, hbl, hlocks, hgv⟩ := id C0
  obtain ⟨⟨hu, hv⟩, ⟨hKu, hKv⟩, ⟨hzu, hzv⟩, hN, ⟨hIu, hIv⟩, ⟨hAu, hAv⟩, hdis⟩ := K0
  obtain ⟨hPu, hPv, hS⟩ := I
  have hbA : ¬ (fun q : Nat => s.heap.size ≤ q) b := Nat.not_le.mpr hbl
  obtain ⟨r, σ1, τ1, e1, e2, hR1⟩ := ok_bidder (xs (x3 + 1).toNatClampNeg) (xs (x3 + 2).toNatClampNeg) σ τ hR
  refine lv_aload_n hx hb dL_law_213 rfl (lv_at hl 1 rfl) ?_
  refine lv_aload_n hx hb dL_law_214 rfl (lv_at hl 0 rfl) ?_
  refine lv_iload_n hx hb dL_law_215 rfl (lv_at hl 3 rfl) ?_
  refine lv_iconst (v := 1) hx hb dL_law_216 (by decide) ?_
  refine lv_iadd hx hb dL_law_217 ?_
  refine va_sld hx hb hX hbl hbA hS hin.1 dL_law_218 ?_
  refine lv_aload_n hx hb dL_law_219 rfl (lv_at hl 0 rfl) ?_
  refine lv_iload_n hx hb dL_law_220 rfl (lv_at hl 3 rfl) ?_
  refine lv_iconst (v := 2) hx hb dL_law_221 (by decide) ?_
  refine lv_iadd hx hb dL_law_222 ?_
  refine va_sld hx hb hX hbl hbA hS hin.2.1 dL_law_223 ?_
  refine lw_call C0 hKu hzu hN hIu hAu (T := TX11) (N := 10) [.int (xs (x3 + 1).toNatClampNeg), .int (xs (x3 + 2).toNatClampNeg)] (rest := []) (dn_h0 hu) rfl rfl (c_X11_bidder l u hu (xs (x3 + 1).toNatClampNeg) (xs (x3 + 2).toNatClampNeg) σ) e1 tv_X11_bidder rfl dn_hd_X11_bidder rfl rfl rfl rfl dL_law_224 hPu hS hl.1 (fun H1 locs1 hP1 hk1 hS1 => ?_)
  have hPv := lw_kept hPv hk1 (fun q h1 h2 => hdis q h2 h1)
  clear hk1 hS
  clear hPu
  have hPu := hP1
  clear hP1
  have hS := hS1
  clear hS1
  generalize H1 = H at *
  refine lv_aload_n hx hb dL_law_227 rfl (lv_at hl 2 rfl) ?_
  refine lv_aload_n hx hb dL_law_228 rfl (lv_at hl 0 rfl) ?_
  refine lv_iload_n hx hb dL_law_229 rfl (lv_at hl 3 rfl) ?_
  refine lv_iconst (v := 1) hx hb dL_law_230 (by decide) ?_
  refine lv_iadd hx hb dL_law_231 ?_
  refine va_sld hx hb hX hbl hbA hS hin.1 dL_law_232 ?_
  refine lv_aload_n hx hb dL_law_233 rfl (lv_at hl 0 rfl) ?_
  refine lv_iload_n hx hb dL_law_234 rfl (lv_at hl 3 rfl) ?_
  refine lv_iconst (v := 2) hx hb dL_law_235 (by decide) ?_
  refine lv_iadd hx hb dL_law_236 ?_
  refine va_sld hx hb hX hbl hbA hS hin.2.1 dL_law_237 ?_
  refine lw_call C0 hKv hzv hN hIv hAv (T := TX12) (N := 35) [.int (xs (x3 + 1).toNatClampNeg), .int (xs (x3 + 2).toNatClampNeg)] (rest := [.int r]) (dn_h100 hv) rfl rfl (c_X12_bidder l v hv (xs (x3 + 1).toNatClampNeg) (xs (x3 + 2).toNatClampNeg) τ) e2 tv_X12_bidder rfl dn_hd_X12_bidder rfl rfl rfl rfl dL_law_238 hPv hS hl.1 (fun H1 locs1 hP1 hk1 hS1 => ?_)
  have hPu := lw_kept hPu hk1 hdis
  clear hk1 hS
  clear hPv
  have hPv := hP1
  clear hP1
  have hS := hS1
  clear hS1
  generalize H1 = H at *
  refine lv_icmp_eq (tgt := 952) hx hb dL_law_241 (by decide) (fun _ => ?_) (fun hc => absurd rfl hc)
  exact kk σ1 τ1 _ _ hR1 ⟨hPu, hPv, hS⟩
set_option maxRecDepth 100000 in
set_option maxHeartbeats 4000000 in
theorem lc_debt {p : Program} {l : Launch} {e : Env} {s : State} {m : MethodId} {below : List Frame} {meth : Method} {c : Code} {b L : Nat} {xs : Nat → Int32} {Z : State → Prop} (C0 : lw_At p s m meth c b L xs) {u v : dn_U} (K0 : lw_Cst s u v) {σ τ : dn_S} (hR : Rel σ τ) {H : Heap} {locs : List Loc} (I : lw_Inv s u v σ τ H locs) {x3 : Int32} {ls : Array Slot} (hin : vp_in (x3 + 1) L ∧ vp_in (x3 + 2) L ∧ vp_in (x3 + 3) L ∧ vp_in (x3 + 4) L) (hl : lv_has ls 4 [(0, .ref b), (1, .ref (dn_a u 0)), (2, .ref (dn_a v 100)), (3, .int x3)]) (kk : ∀ (σ τ : dn_S) (H : Heap) (locs : List Loc), Rel σ τ → lw_Inv s u v σ τ H locs → W p l e room_1 s m #[Value.ref b] below meth c H locs 106 4363 Z (F0 m 952 ls [])) : W p l e room_1 s m #[Value.ref b] below meth c H locs 106 4363 Z (F0 m 246 ls []) := by
  obtain ⟨hx, hb, hr, hml, hown, hts, hX, hbl, hlocks, hgv⟩ := id C0
  obtain ⟨⟨hu, hv⟩, ⟨hKu, hKv⟩, ⟨hzu, hzv⟩, hN, ⟨hIu, hIv⟩, ⟨hAu, hAv⟩, hdis⟩ := K0
  obtain ⟨hPu, hPv, hS⟩ := I
  have hbA : ¬ (fun q : Nat => s.heap.size ≤ q) b := Nat.not_le.mpr hbl
  obtain ⟨r, σ1, τ1, e1, e2, hR1⟩ := ok_debt (xs (x3 + 1).toNatClampNeg) (xs (x3 + 2).toNatClampNeg) σ τ hR
  refine lv_aload_n hx hb dL_law_246 rfl (lv_at hl 1 rfl) ?_
  refine lv_aload_n hx hb dL_law_247 rfl (lv_at hl 0 rfl) ?_
  refine lv_iload_n hx hb dL_law_248 rfl (lv_at hl 3 rfl) ?_
  refine lv_iconst (v := 1) hx hb dL_law_249 (by decide) ?_
  refine lv_iadd hx hb dL_law_250 ?_
  refine va_sld hx hb hX hbl hbA hS hin.1 dL_law_251 ?_
  refine lv_aload_n hx hb dL_law_252 rfl (lv_at hl 0 rfl) ?_
  refine lv_iload_n hx hb dL_law_253 rfl (lv_at hl 3 rfl) ?_
  refine lv_iconst (v := 2) hx hb dL_law_254 (by decide) ?_
  refine lv_iadd hx hb dL_law_255 ?_
  refine va_sld hx hb hX hbl hbA hS hin.2.1 dL_law_256 ?_
  refine lw_call C0 hKu hzu hN hIu hAu (T := TX11) (N := 10) [.int (xs (x3 + 1).toNatClampNeg), .int (xs (x3 + 2).toNatClampNeg)] (rest := []) (dn_h0 hu) rfl rfl (c_X11_debt l u hu (xs (x3 + 1).toNatClampNeg) (xs (x3 + 2).toNatClampNeg) σ) e1 tv_X11_debt rfl dn_hd_X11_debt rfl rfl rfl rfl dL_law_257 hPu hS hl.1 (fun H1 locs1 hP1 hk1 hS1 => ?_)
  have hPv := lw_kept hPv hk1 (fun q h1 h2 => hdis q h2 h1)
  clear hk1 hS
  clear hPu
  have hPu := hP1
  clear hP1
  have hS := hS1
  clear hS1
  generalize H1 = H at *
  refine lv_aload_n hx hb dL_law_260 rfl (lv_at hl 2 rfl) ?_
  refine lv_aload_n hx hb dL_law_261 rfl (lv_at hl 0 rfl) ?_
  refine lv_iload_n hx hb dL_law_262 rfl (lv_at hl 3 rfl) ?_
  refine lv_iconst (v := 1) hx hb dL_law_263 (by decide) ?_
  refine lv_iadd hx hb dL_law_264 ?_
  refine va_sld hx hb hX hbl hbA hS hin.1 dL_law_265 ?_
  refine lv_aload_n hx hb dL_law_266 rfl (lv_at hl 0 rfl) ?_
  refine lv_iload_n hx hb dL_law_267 rfl (lv_at hl 3 rfl) ?_
  refine lv_iconst (v := 2) hx hb dL_law_268 (by decide) ?_
  refine lv_iadd hx hb dL_law_269 ?_
  refine va_sld hx hb hX hbl hbA hS hin.2.1 dL_law_270 ?_
  refine lw_call C0 hKv hzv hN hIv hAv (T := TX12) (N := 35) [.int (xs (x3 + 1).toNatClampNeg), .int (xs (x3 + 2).toNatClampNeg)] (rest := [.int r]) (dn_h100 hv) rfl rfl (c_X12_debt l v hv (xs (x3 + 1).toNatClampNeg) (xs (x3 + 2).toNatClampNeg) τ) e2 tv_X12_debt rfl dn_hd_X12_debt rfl rfl rfl rfl dL_law_271 hPv hS hl.1 (fun H1 locs1 hP1 hk1 hS1 => ?_)
  have hPu := lw_kept hPu hk1 hdis
  clear hk1 hS
  clear hPv
  have hPv := hP1
  clear hP1
  have hS := hS1
  clear hS1
  generalize H1 = H at *
  refine lv_icmp_eq (tgt := 952) hx hb dL_law_274 (by decide) (fun _ => ?_) (fun hc => absurd rfl hc)
  exact kk σ1 τ1 _ _ hR1 ⟨hPu, hPv, hS⟩
set_option maxRecDepth 100000 in
set_option maxHeartbeats 4000000 in
theorem lc_day {p : Program} {l : Launch} {e : Env} {s : State} {m : MethodId} {below : List Frame} {meth : Method} {c : Code} {b L : Nat} {xs : Nat → Int32} {Z : State → Prop} (C0 : lw_At p s m meth c b L xs) {u v : dn_U} (K0 : lw_Cst s u v) {σ τ : dn_S} (hR : Rel σ τ) {H : Heap} {locs : List Loc} (I : lw_Inv s u v σ τ H locs) {x3 : Int32} {ls : Array Slot} (hin : vp_in (x3 + 1) L ∧ vp_in (x3 + 2) L ∧ vp_in (x3 + 3) L ∧ vp_in (x3 + 4) L) (hl : lv_has ls 4 [(0, .ref b), (1, .ref (dn_a u 0)), (2, .ref (dn_a v 100)), (3, .int x3)]) (kk : ∀ (σ τ : dn_S) (H : Heap) (locs : List Loc), Rel σ τ → lw_Inv s u v σ τ H locs → W p l e room_1 s m #[Value.ref b] below meth c H locs 106 4363 Z (F0 m 952 ls [])) : W p l e room_1 s m #[Value.ref b] below meth c H locs 106 4363 Z (F0 m 279 ls []) := by
  obtain ⟨hx, hb, hr, hml, hown, hts, hX, hbl, hlocks, hgv⟩ := id C0
  obtain ⟨⟨hu, hv⟩, ⟨hKu, hKv⟩, ⟨hzu, hzv⟩, hN, ⟨hIu, hIv⟩, ⟨hAu, hAv⟩, hdis⟩ := K0
  obtain ⟨hPu, hPv, hS⟩ := I
  have hbA : ¬ (fun q : Nat => s.heap.size ≤ q) b := Nat.not_le.mpr hbl
  obtain ⟨r, σ1, τ1, e1, e2, hR1⟩ := ok_day (xs (x3 + 1).toNatClampNeg) σ τ hR
  refine lv_aload_n hx hb dL_law_279 rfl (lv_at hl 1 rfl) ?_
  refine lv_aload_n hx hb dL_law_280 rfl (lv_at hl 0 rfl) ?_
  refine lv_iload_n hx hb dL_law_281 rfl (lv_at hl 3 rfl) ?_
  refine lv_iconst (v := 1) hx hb dL_law_282 (by decide) ?_
  refine lv_iadd hx hb dL_law_283 ?_
  refine va_sld hx hb hX hbl hbA hS hin.1 dL_law_284 ?_
  refine lw_call C0 hKu hzu hN hIu hAu (T := TX11) (N := 10) [.int (xs (x3 + 1).toNatClampNeg)] (rest := []) (dn_h0 hu) rfl rfl (c_X11_day l u hu (xs (x3 + 1).toNatClampNeg) σ) e1 tv_X11_day rfl dn_hd_X11_day rfl rfl rfl rfl dL_law_285 hPu hS hl.1 (fun H1 locs1 hP1 hk1 hS1 => ?_)
  have hPv := lw_kept hPv hk1 (fun q h1 h2 => hdis q h2 h1)
  clear hk1 hS
  clear hPu
  have hPu := hP1
  clear hP1
  have hS := hS1
  clear hS1
  generalize H1 = H at *
  refine lv_aload_n hx hb dL_law_288 rfl (lv_at hl 2 rfl) ?_
  refine lv_aload_n hx hb dL_law_289 rfl (lv_at hl 0 rfl) ?_
  refine lv_iload_n hx hb dL_law_290 rfl (lv_at hl 3 rfl) ?_
  refine lv_iconst (v := 1) hx hb dL_law_291 (by decide) ?_
  refine lv_iadd hx hb dL_law_292 ?_
  refine va_sld hx hb hX hbl hbA hS hin.1 dL_law_293 ?_
  refine lw_call C0 hKv hzv hN hIv hAv (T := TX12) (N := 35) [.int (xs (x3 + 1).toNatClampNeg)] (rest := [.int r]) (dn_h100 hv) rfl rfl (c_X12_day l v hv (xs (x3 + 1).toNatClampNeg) τ) e2 tv_X12_day rfl dn_hd_X12_day rfl rfl rfl rfl dL_law_294 hPv hS hl.1 (fun H1 locs1 hP1 hk1 hS1 => ?_)
  have hPu := lw_kept hPu hk1 hdis
  clear hk1 hS
  clear hPv
  have hPv := hP1
  clear hP1
  have hS := hS1
  clear hS1
  generalize H1 = H at *
  refine lv_icmp_eq (tgt := 952) hx hb dL_law_297 (by decide) (fun _ => ?_) (fun hc => absurd rfl hc)
  exact kk σ1 τ1 _ _ hR1 ⟨hPu, hPv, hS⟩
set_option maxRecDepth 100000 in
set_option maxHeartbeats 4000000 in
theorem lc_name {p : Program} {l : Launch} {e : Env} {s : State} {m : MethodId} {below : List Frame} {meth : Method} {c : Code} {b L : Nat} {xs : Nat → Int32} {Z : State → Prop} (C0 : lw_At p s m meth c b L xs) {u v : dn_U} (K0 : lw_Cst s u v) {σ τ : dn_S} (hR : Rel σ τ) {H : Heap} {locs : List Loc} (I : lw_Inv s u v σ τ H locs) {x3 : Int32} {ls : Array Slot} (hin : vp_in (x3 + 1) L ∧ vp_in (x3 + 2) L ∧ vp_in (x3 + 3) L ∧ vp_in (x3 + 4) L) (hl : lv_has ls 4 [(0, .ref b), (1, .ref (dn_a u 0)), (2, .ref (dn_a v 100)), (3, .int x3)]) (kk : ∀ (σ τ : dn_S) (H : Heap) (locs : List Loc), Rel σ τ → lw_Inv s u v σ τ H locs → W p l e room_1 s m #[Value.ref b] below meth c H locs 106 4363 Z (F0 m 952 ls [])) : W p l e room_1 s m #[Value.ref b] below meth c H locs 106 4363 Z (F0 m 302 ls []) := by
  obtain ⟨hx, hb, hr, hml, hown, hts, hX, hbl, hlocks, hgv⟩ := id C0
  obtain ⟨⟨hu, hv⟩, ⟨hKu, hKv⟩, ⟨hzu, hzv⟩, hN, ⟨hIu, hIv⟩, ⟨hAu, hAv⟩, hdis⟩ := K0
  obtain ⟨hPu, hPv, hS⟩ := I
  have hbA : ¬ (fun q : Nat => s.heap.size ≤ q) b := Nat.not_le.mpr hbl
  obtain ⟨r, σ1, τ1, e1, e2, hR1⟩ := ok_name (xs (x3 + 1).toNatClampNeg) (xs (x3 + 2).toNatClampNeg) σ τ hR
  refine lv_aload_n hx hb dL_law_302 rfl (lv_at hl 1 rfl) ?_
  refine lv_aload_n hx hb dL_law_303 rfl (lv_at hl 0 rfl) ?_
  refine lv_iload_n hx hb dL_law_304 rfl (lv_at hl 3 rfl) ?_
  refine lv_iconst (v := 1) hx hb dL_law_305 (by decide) ?_
  refine lv_iadd hx hb dL_law_306 ?_
  refine va_sld hx hb hX hbl hbA hS hin.1 dL_law_307 ?_
  refine lv_aload_n hx hb dL_law_308 rfl (lv_at hl 0 rfl) ?_
  refine lv_iload_n hx hb dL_law_309 rfl (lv_at hl 3 rfl) ?_
  refine lv_iconst (v := 2) hx hb dL_law_310 (by decide) ?_
  refine lv_iadd hx hb dL_law_311 ?_
  refine va_sld hx hb hX hbl hbA hS hin.2.1 dL_law_312 ?_
  refine lw_call C0 hKu hzu hN hIu hAu (T := TX11) (N := 10) [.int (xs (x3 + 1).toNatClampNeg), .int (xs (x3 + 2).toNatClampNeg)] (rest := []) (dn_h0 hu) rfl rfl (c_X11_name l u hu (xs (x3 + 1).toNatClampNeg) (xs (x3 + 2).toNatClampNeg) σ) e1 tv_X11_name rfl dn_hd_X11_name rfl rfl rfl rfl dL_law_313 hPu hS hl.1 (fun H1 locs1 hP1 hk1 hS1 => ?_)
  have hPv := lw_kept hPv hk1 (fun q h1 h2 => hdis q h2 h1)
  clear hk1 hS
  clear hPu
  have hPu := hP1
  clear hP1
  have hS := hS1
  clear hS1
  generalize H1 = H at *
  refine lv_aload_n hx hb dL_law_316 rfl (lv_at hl 2 rfl) ?_
  refine lv_aload_n hx hb dL_law_317 rfl (lv_at hl 0 rfl) ?_
  refine lv_iload_n hx hb dL_law_318 rfl (lv_at hl 3 rfl) ?_
  refine lv_iconst (v := 1) hx hb dL_law_319 (by decide) ?_
  refine lv_iadd hx hb dL_law_320 ?_
  refine va_sld hx hb hX hbl hbA hS hin.1 dL_law_321 ?_
  refine lv_aload_n hx hb dL_law_322 rfl (lv_at hl 0 rfl) ?_
  refine lv_iload_n hx hb dL_law_323 rfl (lv_at hl 3 rfl) ?_
  refine lv_iconst (v := 2) hx hb dL_law_324 (by decide) ?_
  refine lv_iadd hx hb dL_law_325 ?_
  refine va_sld hx hb hX hbl hbA hS hin.2.1 dL_law_326 ?_
  refine lw_call C0 hKv hzv hN hIv hAv (T := TX12) (N := 35) [.int (xs (x3 + 1).toNatClampNeg), .int (xs (x3 + 2).toNatClampNeg)] (rest := [.int r]) (dn_h100 hv) rfl rfl (c_X12_name l v hv (xs (x3 + 1).toNatClampNeg) (xs (x3 + 2).toNatClampNeg) τ) e2 tv_X12_name rfl dn_hd_X12_name rfl rfl rfl rfl dL_law_327 hPv hS hl.1 (fun H1 locs1 hP1 hk1 hS1 => ?_)
  have hPu := lw_kept hPu hk1 hdis
  clear hk1 hS
  clear hPv
  have hPv := hP1
  clear hP1
  have hS := hS1
  clear hS1
  generalize H1 = H at *
  refine lv_icmp_eq (tgt := 952) hx hb dL_law_330 (by decide) (fun _ => ?_) (fun hc => absurd rfl hc)
  exact kk σ1 τ1 _ _ hR1 ⟨hPu, hPv, hS⟩
set_option maxRecDepth 100000 in
set_option maxHeartbeats 4000000 in
theorem lc_now {p : Program} {l : Launch} {e : Env} {s : State} {m : MethodId} {below : List Frame} {meth : Method} {c : Code} {b L : Nat} {xs : Nat → Int32} {Z : State → Prop} (C0 : lw_At p s m meth c b L xs) {u v : dn_U} (K0 : lw_Cst s u v) {σ τ : dn_S} (hR : Rel σ τ) {H : Heap} {locs : List Loc} (I : lw_Inv s u v σ τ H locs) {x3 : Int32} {ls : Array Slot} (hin : vp_in (x3 + 1) L ∧ vp_in (x3 + 2) L ∧ vp_in (x3 + 3) L ∧ vp_in (x3 + 4) L) (hl : lv_has ls 4 [(0, .ref b), (1, .ref (dn_a u 0)), (2, .ref (dn_a v 100)), (3, .int x3)]) (kk : ∀ (σ τ : dn_S) (H : Heap) (locs : List Loc), Rel σ τ → lw_Inv s u v σ τ H locs → W p l e room_1 s m #[Value.ref b] below meth c H locs 106 4363 Z (F0 m 952 ls [])) : W p l e room_1 s m #[Value.ref b] below meth c H locs 106 4363 Z (F0 m 335 ls []) := by
  obtain ⟨hx, hb, hr, hml, hown, hts, hX, hbl, hlocks, hgv⟩ := id C0
  obtain ⟨⟨hu, hv⟩, ⟨hKu, hKv⟩, ⟨hzu, hzv⟩, hN, ⟨hIu, hIv⟩, ⟨hAu, hAv⟩, hdis⟩ := K0
  obtain ⟨hPu, hPv, hS⟩ := I
  have hbA : ¬ (fun q : Nat => s.heap.size ≤ q) b := Nat.not_le.mpr hbl
  obtain ⟨r, σ1, τ1, e1, e2, hR1⟩ := ok_now (xs (x3 + 1).toNatClampNeg) σ τ hR
  refine lv_aload_n hx hb dL_law_335 rfl (lv_at hl 1 rfl) ?_
  refine lv_aload_n hx hb dL_law_336 rfl (lv_at hl 0 rfl) ?_
  refine lv_iload_n hx hb dL_law_337 rfl (lv_at hl 3 rfl) ?_
  refine lv_iconst (v := 1) hx hb dL_law_338 (by decide) ?_
  refine lv_iadd hx hb dL_law_339 ?_
  refine va_sld hx hb hX hbl hbA hS hin.1 dL_law_340 ?_
  refine lw_call C0 hKu hzu hN hIu hAu (T := TX11) (N := 10) [.int (xs (x3 + 1).toNatClampNeg)] (rest := []) (dn_h0 hu) rfl rfl (c_X11_now l u hu (xs (x3 + 1).toNatClampNeg) σ) e1 tv_X11_now rfl dn_hd_X11_now rfl rfl rfl rfl dL_law_341 hPu hS hl.1 (fun H1 locs1 hP1 hk1 hS1 => ?_)
  have hPv := lw_kept hPv hk1 (fun q h1 h2 => hdis q h2 h1)
  clear hk1 hS
  clear hPu
  have hPu := hP1
  clear hP1
  have hS := hS1
  clear hS1
  generalize H1 = H at *
  refine lv_aload_n hx hb dL_law_344 rfl (lv_at hl 2 rfl) ?_
  refine lv_aload_n hx hb dL_law_345 rfl (lv_at hl 0 rfl) ?_
  refine lv_iload_n hx hb dL_law_346 rfl (lv_at hl 3 rfl) ?_
  refine lv_iconst (v := 1) hx hb dL_law_347 (by decide) ?_
  refine lv_iadd hx hb dL_law_348 ?_
  refine va_sld hx hb hX hbl hbA hS hin.1 dL_law_349 ?_
  refine lw_call C0 hKv hzv hN hIv hAv (T := TX12) (N := 35) [.int (xs (x3 + 1).toNatClampNeg)] (rest := [.int r]) (dn_h100 hv) rfl rfl (c_X12_now l v hv (xs (x3 + 1).toNatClampNeg) τ) e2 tv_X12_now rfl dn_hd_X12_now rfl rfl rfl rfl dL_law_350 hPv hS hl.1 (fun H1 locs1 hP1 hk1 hS1 => ?_)
  have hPu := lw_kept hPu hk1 hdis
  clear hk1 hS
  clear hPv
  have hPv := hP1
  clear hP1
  have hS := hS1
  clear hS1
  generalize H1 = H at *
  refine lv_icmp_eq (tgt := 952) hx hb dL_law_353 (by decide) (fun _ => ?_) (fun hc => absurd rfl hc)
  exact kk σ1 τ1 _ _ hR1 ⟨hPu, hPv, hS⟩
set_option maxRecDepth 100000 in
set_option maxHeartbeats 4000000 in
theorem lc_night {p : Program} {l : Launch} {e : Env} {s : State} {m : MethodId} {below : List Frame} {meth : Method} {c : Code} {b L : Nat} {xs : Nat → Int32} {Z : State → Prop} (C0 : lw_At p s m meth c b L xs) {u v : dn_U} (K0 : lw_Cst s u v) {σ τ : dn_S} (hR : Rel σ τ) {H : Heap} {locs : List Loc} (I : lw_Inv s u v σ τ H locs) {x3 : Int32} {ls : Array Slot} (hin : vp_in (x3 + 1) L ∧ vp_in (x3 + 2) L ∧ vp_in (x3 + 3) L ∧ vp_in (x3 + 4) L) (hl : lv_has ls 4 [(0, .ref b), (1, .ref (dn_a u 0)), (2, .ref (dn_a v 100)), (3, .int x3)]) (kk : ∀ (σ τ : dn_S) (H : Heap) (locs : List Loc), Rel σ τ → lw_Inv s u v σ τ H locs → W p l e room_1 s m #[Value.ref b] below meth c H locs 106 4363 Z (F0 m 952 ls [])) : W p l e room_1 s m #[Value.ref b] below meth c H locs 106 4363 Z (F0 m 358 ls []) := by
  obtain ⟨hx, hb, hr, hml, hown, hts, hX, hbl, hlocks, hgv⟩ := id C0
  obtain ⟨⟨hu, hv⟩, ⟨hKu, hKv⟩, ⟨hzu, hzv⟩, hN, ⟨hIu, hIv⟩, ⟨hAu, hAv⟩, hdis⟩ := K0
  obtain ⟨hPu, hPv, hS⟩ := I
  have hbA : ¬ (fun q : Nat => s.heap.size ≤ q) b := Nat.not_le.mpr hbl
  obtain ⟨r, σ1, τ1, e1, e2, hR1⟩ := ok_night σ τ hR
  refine lv_aload_n hx hb dL_law_358 rfl (lv_at hl 1 rfl) ?_
  refine lw_call C0 hKu hzu hN hIu hAu (T := TX11) (N := 10) [] (rest := []) (dn_h0 hu) rfl rfl (c_X11_night l u hu σ) e1 tv_X11_night rfl dn_hd_X11_night rfl rfl rfl rfl dL_law_359 hPu hS hl.1 (fun H1 locs1 hP1 hk1 hS1 => ?_)
  have hPv := lw_kept hPv hk1 (fun q h1 h2 => hdis q h2 h1)
  clear hk1 hS
  clear hPu
  have hPu := hP1
  clear hP1
  have hS := hS1
  clear hS1
  generalize H1 = H at *
  refine lv_aload_n hx hb dL_law_362 rfl (lv_at hl 2 rfl) ?_
  refine lw_call C0 hKv hzv hN hIv hAv (T := TX12) (N := 35) [] (rest := [.int r]) (dn_h100 hv) rfl rfl (c_X12_night l v hv τ) e2 tv_X12_night rfl dn_hd_X12_night rfl rfl rfl rfl dL_law_363 hPv hS hl.1 (fun H1 locs1 hP1 hk1 hS1 => ?_)
  have hPu := lw_kept hPu hk1 hdis
  clear hk1 hS
  clear hPv
  have hPv := hP1
  clear hP1
  have hS := hS1
  clear hS1
  generalize H1 = H at *
  refine lv_icmp_eq (tgt := 952) hx hb dL_law_366 (by decide) (fun _ => ?_) (fun hc => absurd rfl hc)
  exact kk σ1 τ1 _ _ hR1 ⟨hPu, hPv, hS⟩
set_option maxRecDepth 100000 in
set_option maxHeartbeats 4000000 in
theorem lc_bids {p : Program} {l : Launch} {e : Env} {s : State} {m : MethodId} {below : List Frame} {meth : Method} {c : Code} {b L : Nat} {xs : Nat → Int32} {Z : State → Prop} (C0 : lw_At p s m meth c b L xs) {u v : dn_U} (K0 : lw_Cst s u v) {σ τ : dn_S} (hR : Rel σ τ) {H : Heap} {locs : List Loc} (I : lw_Inv s u v σ τ H locs) {x3 : Int32} {ls : Array Slot} (hin : vp_in (x3 + 1) L ∧ vp_in (x3 + 2) L ∧ vp_in (x3 + 3) L ∧ vp_in (x3 + 4) L) (hl : lv_has ls 4 [(0, .ref b), (1, .ref (dn_a u 0)), (2, .ref (dn_a v 100)), (3, .int x3)]) (kk : ∀ (σ τ : dn_S) (H : Heap) (locs : List Loc), Rel σ τ → lw_Inv s u v σ τ H locs → W p l e room_1 s m #[Value.ref b] below meth c H locs 106 4363 Z (F0 m 952 ls [])) : W p l e room_1 s m #[Value.ref b] below meth c H locs 106 4363 Z (F0 m 371 ls []) := by
  obtain ⟨hx, hb, hr, hml, hown, hts, hX, hbl, hlocks, hgv⟩ := id C0
  obtain ⟨⟨hu, hv⟩, ⟨hKu, hKv⟩, ⟨hzu, hzv⟩, hN, ⟨hIu, hIv⟩, ⟨hAu, hAv⟩, hdis⟩ := K0
  obtain ⟨hPu, hPv, hS⟩ := I
  have hbA : ¬ (fun q : Nat => s.heap.size ≤ q) b := Nat.not_le.mpr hbl
  obtain ⟨r, σ1, τ1, e1, e2, hR1⟩ := ok_bids (xs (x3 + 1).toNatClampNeg) (xs (x3 + 2).toNatClampNeg) σ τ hR
  refine lv_aload_n hx hb dL_law_371 rfl (lv_at hl 1 rfl) ?_
  refine lv_aload_n hx hb dL_law_372 rfl (lv_at hl 0 rfl) ?_
  refine lv_iload_n hx hb dL_law_373 rfl (lv_at hl 3 rfl) ?_
  refine lv_iconst (v := 1) hx hb dL_law_374 (by decide) ?_
  refine lv_iadd hx hb dL_law_375 ?_
  refine va_sld hx hb hX hbl hbA hS hin.1 dL_law_376 ?_
  refine lv_aload_n hx hb dL_law_377 rfl (lv_at hl 0 rfl) ?_
  refine lv_iload_n hx hb dL_law_378 rfl (lv_at hl 3 rfl) ?_
  refine lv_iconst (v := 2) hx hb dL_law_379 (by decide) ?_
  refine lv_iadd hx hb dL_law_380 ?_
  refine va_sld hx hb hX hbl hbA hS hin.2.1 dL_law_381 ?_
  refine lw_call C0 hKu hzu hN hIu hAu (T := TX11) (N := 10) [.int (xs (x3 + 1).toNatClampNeg), .int (xs (x3 + 2).toNatClampNeg)] (rest := []) (dn_h0 hu) rfl rfl (c_X11_bids l u hu (xs (x3 + 1).toNatClampNeg) (xs (x3 + 2).toNatClampNeg) σ) e1 tv_X11_bids rfl dn_hd_X11_bids rfl rfl rfl rfl dL_law_382 hPu hS hl.1 (fun H1 locs1 hP1 hk1 hS1 => ?_)
  have hPv := lw_kept hPv hk1 (fun q h1 h2 => hdis q h2 h1)
  clear hk1 hS
  clear hPu
  have hPu := hP1
  clear hP1
  have hS := hS1
  clear hS1
  generalize H1 = H at *
  refine lv_aload_n hx hb dL_law_385 rfl (lv_at hl 2 rfl) ?_
  refine lv_aload_n hx hb dL_law_386 rfl (lv_at hl 0 rfl) ?_
  refine lv_iload_n hx hb dL_law_387 rfl (lv_at hl 3 rfl) ?_
  refine lv_iconst (v := 1) hx hb dL_law_388 (by decide) ?_
  refine lv_iadd hx hb dL_law_389 ?_
  refine va_sld hx hb hX hbl hbA hS hin.1 dL_law_390 ?_
  refine lv_aload_n hx hb dL_law_391 rfl (lv_at hl 0 rfl) ?_
  refine lv_iload_n hx hb dL_law_392 rfl (lv_at hl 3 rfl) ?_
  refine lv_iconst (v := 2) hx hb dL_law_393 (by decide) ?_
  refine lv_iadd hx hb dL_law_394 ?_
  refine va_sld hx hb hX hbl hbA hS hin.2.1 dL_law_395 ?_
  refine lw_call C0 hKv hzv hN hIv hAv (T := TX12) (N := 35) [.int (xs (x3 + 1).toNatClampNeg), .int (xs (x3 + 2).toNatClampNeg)] (rest := [.int r]) (dn_h100 hv) rfl rfl (c_X12_bids l v hv (xs (x3 + 1).toNatClampNeg) (xs (x3 + 2).toNatClampNeg) τ) e2 tv_X12_bids rfl dn_hd_X12_bids rfl rfl rfl rfl dL_law_396 hPv hS hl.1 (fun H1 locs1 hP1 hk1 hS1 => ?_)
  have hPu := lw_kept hPu hk1 hdis
  clear hk1 hS
  clear hPv
  have hPv := hP1
  clear hP1
  have hS := hS1
  clear hS1
  generalize H1 = H at *
  refine lv_icmp_eq (tgt := 952) hx hb dL_law_399 (by decide) (fun _ => ?_) (fun hc => absurd rfl hc)
  exact kk σ1 τ1 _ _ hR1 ⟨hPu, hPv, hS⟩
