/-! the class's own constructor (written by wip/whole/gen_class.py) -/
def dn_SA (z : Nat × Nat × Nat) (A : Nat → Prop) (U : State) (H : Heap) : Prop :=
  (va_Z "DayNames$Reader" "BIDDER_MOST" "[I" (.ref z.1) A U H ∧ va_T .int z.1 7 (fun j => .int (dn_st0 j)) A U H) ∧
  (va_Z "DayNames$Reader" "DEBT_LEAST" "[I" (.ref z.2.1) A U H ∧ va_T .int z.2.1 5 (fun j => .int (dn_st1 j)) A U H) ∧
  (va_Z "DayNames$Reader" "DEBT_MOST" "[I" (.ref z.2.2) A U H ∧ va_T .int z.2.2 5 (fun j => .int (dn_st2 j)) A U H)
theorem dn_SA.go {z : Nat × Nat × Nat} {A : Nat → Prop} {s U : State} {H H1 : Heap} (h : dn_SA z A s H) (hW : s.vm.Alike U.vm) (hq : ∀ a : Nat, a < H.size → ¬ A a → H1[a]? = H[a]?) : dn_SA z A U H1 :=
  ⟨⟨(h.1.1.moved hW).kept hq, (h.1.2.moved hW).kept hq⟩, ⟨(h.2.1.1.moved hW).kept hq, (h.2.1.2.moved hW).kept hq⟩, ⟨(h.2.2.1.moved hW).kept hq, (h.2.2.2.moved hW).kept hq⟩⟩
theorem dn_SA.nar {z : Nat × Nat × Nat} {A B : Nat → Prop} {U : State} {H : Heap} (h : dn_SA z A U H) (hAB : ∀ q, B q → A q) : dn_SA z B U H :=
  ⟨⟨h.1.1.narrow hAB, h.1.2.narrow hAB⟩, ⟨h.2.1.1.narrow hAB, h.2.1.2.narrow hAB⟩, ⟨h.2.2.1.narrow hAB, h.2.2.2.narrow hAB⟩⟩
def dn_T0 : Tv := (0, 0, 1, (fun _ _ => 0), fun _ _ => 0)
theorem dn_WT0 : WT dn_T0 := ⟨by decide, by decide, by decide, fun b hb => absurd hb (Nat.not_lt_zero _), fun d hd => absurd hd (Nat.not_lt_zero _)⟩
theorem dn_CT0 : CT dn_s0 3 dn_T0 := ⟨rfl, rfl, rfl, fun b hb => absurd hb (Nat.not_lt_zero _), fun d hd => absurd hd (Nat.not_lt_zero _)⟩
theorem dn_RT0 : RT dn_t0 dn_T0 := ⟨rfl, rfl, rfl, fun b hb => absurd hb (Nat.not_lt_zero _), fun d hd => absurd hd (Nat.not_lt_zero _)⟩
theorem dn_begin0 : ∃ σ, m_X3_begin 10 3 dn_s0 = some ((), σ) := by
  obtain ⟨s', h, -⟩ := cq_begin dn_WT0 dn_CT0
  exact ⟨s', h⟩
def at_X11 (D : va_G) (A : Nat → Prop) (h0 : Nat) (z : Nat × Nat × Nat) (t : State) : Prop := ∃ u : dn_U, dn_Lu u = dn_LC ∧ u.1 = D ∧ u.2.2.2.1 = z ∧ dn_a u 0 = h0 ∧ ∃ σ, m_X3_begin 10 3 dn_s0 = some ((), σ) ∧ va_P D vwCl (dn_ws u σ) t.heap ∧ va_K D vwCl (dn_tys u) t ∧ dn_I u ∧ ∀ q, dn_A u q → A q
set_option maxHeartbeats 4000000 in
set_option maxRecDepth 100000 in
theorem c_X11_init (l : Launch) (D : va_G) (h0 : Nat) (sz : Nat) (z : Nat × Nat × Nat) : Met l yX11_init wsX11_init ({ frames := 4, cells := 88, slots := 2292, locals := 65 }) (va_Pc [.ref h0] (fun U => U.heap.size = sz ∧ va_P D vwCl [(h0, .inr (11, [.null, .null, .null, .null, .null, .null, .null, .null, .null, .null]))] U.heap ∧ va_K D vwCl [] U ∧ va_D (fun _ => True) [(h0, .inr (11, [.null, .null, .null, .null, .null, .null, .null, .null, .null, .null]))] ∧ dn_NA U ∧ dn_SA z (va_A [(h0, .inr (11, [.null, .null, .null, .null, .null, .null, .null, .null, .null, .null]))] sz) U U.heap)) (va_Qv (fun _ : Unit => True) (fun _ t => at_X11 D (va_A [(h0, .inr (11, [.null, .null, .null, .null, .null, .null, .null, .null, .null, .null]))] sz) h0 z t) (va_A [(h0, .inr (11, [.null, .null, .null, .null, .null, .null, .null, .null, .null, .null]))] sz)) 88 2292 (va_A [(h0, .inr (11, [.null, .null, .null, .null, .null, .null, .null, .null, .null, .null]))] sz) := by
  refine Met.ofW (cc := cX11_init) (maxL := 1) (ret := none) (by decide) rfl ?_
  intro p e s m args below meth c s₁ B hml hv
  obtain ⟨rfl, hsz, hP, hK, hD0, hNW, hZ⟩ := hv
  have hx := B.exec
  have hb := B.bytes
  have hr := B.returns
  have hts := atoms_spec (ws := wsX11_init) B.pre
  have hown : s.vm.findClass RX11 = some m.cls := findClass_of_methodNamed B.named
  have hlocks := B.notSynchronized
  have hin : meth.name = "<init>" := (name_of_methodNamed B.named B.method).1
  have hws : ∀ w ∈ u_ws RX11 TX11 10, w ∈ wsX11_init := by decide +kernel
  subst hsz
  have hD := hD0.self (sz := s.heap.size)
  generalize hAe : va_A [(h0, .inr (11, [.null, .null, .null, .null, .null, .null, .null, .null, .null, .null]))] s.heap.size = A at hD hZ ⊢
  have hA : ∀ q : Nat, s.heap.size ≤ q → A q := fun q h => by rw [← hAe]; exact Or.inr h
  have hS : va_S A s.heap s.heap [] := va_S.rf
  obtain ⟨pl, hpl⟩ : ∃ x : va_W, x = [] := ⟨_, rfl⟩
  obtain ⟨ts, hts0⟩ : ∃ x : List (ClassId × FieldType), x = [] := ⟨_, rfl⟩
  have hP : va_P D vwCl ((h0, .inr (11, [.null, .null, .null, .null, .null, .null, .null, .null, .null, .null])) :: pl) s.heap := by rw [hpl]; exact hP
  have hD : va_D A ((h0, .inr (11, [.null, .null, .null, .null, .null, .null, .null, .null, .null, .null])) :: pl) := by rw [hpl]; exact hD
  have hK : va_K D vwCl ts s := by rw [hts0]; exact hK
  have hl := lv_entry ([.ref h0]) (n := 1) (Nat.le_of_ble_eq_true rfl)
  rw [lg_entry_eq]
  generalize (lg_sl ([.ref h0]) ++ List.replicate (1 - (lg_sl ([.ref h0])).length) Slot.unset).toArray = ls at hl ⊢
  have hl : lv_has ls 1 [(0, .ref h0)] := hl
  refine lv_aload_n hx hb dX11_init_0 rfl (lv_at hl 0 rfl) ?_
  refine W.objInit hx hb hown (hts (.methodLink RX11 1 objectInit) (by decide +kernel)) (hts (.instanceMethod objectInit) (by decide +kernel)) (hts _ (List.mem_of_getElem? (i := 3) rfl)) rfl (by rw [hml]; exact hl.1) rfl dX11_init_1 (Nat.le_of_ble_eq_true rfl) (Nat.le_of_ble_eq_true rfl) ?_
  refine W.eq (g2 := F0 m 4 ls []) rfl ?_
  refine lv_aload_n hx hb dX11_init_4 rfl (lv_at hl 0 rfl) ?_
  refine va_new (ci := 9) (fs := [.null, .int 0]) (C := RX9) (T := TX9) (N := 2) hx hb hts (by decide +kernel) tyX9 tyX9_ok hown (hts (.classLink RX11 7 RX9) (by decide +kernel)) (hts (.instantiable RX9 2) (by decide +kernel)) (hts (.initialized RX9) (by decide +kernel)) hK hP hD hS hA rfl (fun j hj => by rcases (show j = 0 ∨ j = 1 by omega) with rfl | rfl <;> rfl) (Nat.le_of_ble_eq_true rfl) (Nat.le_of_ble_eq_true rfl) dX11_init_5 (fun q5 H hP hD hS => ?_)
  refine W.widen (k := 1) (n := 2) (Nat.le_of_ble_eq_true rfl) (Nat.le_of_ble_eq_true rfl) ?_
  refine lv_dup hx hb dX11_init_8 rfl ?_
  have hP : va_P D vwCl (((h0, .inr (11, [.null, .null, .null, .null, .null, .null, .null, .null, .null, .null])) :: pl) ++ [(q5, .inr (9, [.null, .int 0]))]) H := hP
  have hD : va_D A (((h0, .inr (11, [.null, .null, .null, .null, .null, .null, .null, .null, .null, .null])) :: pl) ++ [(q5, .inr (9, [.null, .int 0]))]) := hD
  have hPc := dn_lastP hP
  have hDc := dn_lastD hD
  have hKc := hK.sub (tys' := []) [] rfl
  have hFc := dn_lastF hD hS hA
  refine va_callv (va_runIN (As := []) (rest := [.ref q5, .ref h0]) ⟨hx, hb, hml, hown, hts⟩ (c_X9_init l D q5 H.size ) ⟨va_cnB 0 hts gX11_init_X9_init_n9 rfl rfl rfl (hNW.1 (.methodLinkNest RX11 9 yX9_init RX11) (by decide +kernel)) (hts (.initialized RX9) (by decide +kernel)) ⟨by decide +kernel, by decide +kernel, by decide +kernel⟩ ⟨Nat.le_of_ble_eq_true rfl, Nat.le_of_ble_eq_true rfl⟩, rfl, hts (.instanceMethod yX9_init) (by decide +kernel)⟩ ⟨fun a U g mk q => by obtain ⟨q0, q1, qP, qK, qD, qN⟩ := q; exact ⟨q0, q1, qP, va_K.moved (u := U) (U := U.calling g mk a) (Vm.Alike.refl U.vm) qK, qD, dn_NA.same (s := U) (U := U.calling g mk a) rfl qN⟩, fun U hU hW => ⟨rfl, by rw [hU], by rw [hU]; exact hPc, va_K.moved hW.alike hKc, hDc.weaken (fun _ _ _ _ => trivial), hNW.warm hW⟩⟩ rfl rfl hl.1 rfl (lv_room (Nat.le_of_ble_eq_true rfl)) dX11_init_9 ⟨Nat.le_of_ble_eq_true rfl, Nat.le_of_ble_eq_true rfl⟩) hS (fun q _ h => hFc q h) hFc (fun u t H1 locs ht hvm hu hB hz1 hk1 hS => ?_)
  obtain ⟨w_9, t_9, hI_9, hP1, hK1, hD1⟩ := at_X9_w hB
  rw [ht] at hP1
  have hK1 := va_K.moved hvm.symm hK1
  obtain ⟨hP, hD⟩ := dn_join hP hD hk1 hFc hP1 hD1
  have hK := hK.app hK1
  generalize H1 = H at hP hS ⊢
  have hP : va_P D vwCl ((h0, .inr (11, [.null, .null, .null, .null, .null, .null, .null, .null, .null, .null])) :: (pl ++ w_9)) H := hP
  have hD : va_D A ((h0, .inr (11, [.null, .null, .null, .null, .null, .null, .null, .null, .null, .null])) :: (pl ++ w_9)) := hD
  obtain ⟨pl_9, hpl_9⟩ : ∃ x, x = pl ++ w_9 := ⟨_, rfl⟩
  rw [← hpl_9] at hP hD
  obtain ⟨ts_9, hts_9⟩ : ∃ x, x = ts ++ t_9 := ⟨_, rfl⟩
  rw [← hts_9] at hK
  refine W.widen (k := 2) (n := 202) (Nat.le_of_ble_eq_true rfl) (Nat.le_of_ble_eq_true rfl) ?_
  refine va_putF (D := D) (ci := 11) (v := .ref q5) (ty := .object "DayNames$Text") (C := RX11) (T := TX11) (N := 10) hx hb hts hws tyX11 tyX11_ok nmX11 hown hK hP hD hS 0 rfl rfl 0 (by decide) (hts (.fieldLink RX11 10 "DayNames" "text" "LDayNames$Text;") (by decide +kernel)) (fun _ h9 => h9) rfl hin rfl (by decide +kernel) rfl rfl (Nat.le_of_ble_eq_true rfl) dX11_init_12 (fun H locs hP hD hS => ?_)
  have hP : va_P D vwCl ((h0, .inr (11, [.ref q5, .null, .null, .null, .null, .null, .null, .null, .null, .null])) :: pl_9) H := hP
  have hD : va_D A ((h0, .inr (11, [.ref q5, .null, .null, .null, .null, .null, .null, .null, .null, .null])) :: pl_9) := hD
  refine lv_aload_n hx hb dX11_init_15 rfl (lv_at hl 0 rfl) ?_
  refine va_new (ci := 10) (fs := [.null, .null, .int 0, .int 0, .int 0]) (C := RX10) (T := TX10) (N := 5) hx hb hts (by decide +kernel) tyX10 tyX10_ok hown (hts (.classLink RX11 16 RX10) (by decide +kernel)) (hts (.instantiable RX10 5) (by decide +kernel)) (hts (.initialized RX10) (by decide +kernel)) hK hP hD hS hA rfl (fun j hj => by rcases (show j = 0 ∨ j = 1 ∨ j = 2 ∨ j = 3 ∨ j = 4 by omega) with rfl | rfl | rfl | rfl | rfl <;> rfl) (Nat.le_of_ble_eq_true rfl) (Nat.le_of_ble_eq_true rfl) dX11_init_16 (fun q16 H hP hD hS => ?_)
  refine W.widen (k := 3) (n := 207) (Nat.le_of_ble_eq_true rfl) (Nat.le_of_ble_eq_true rfl) ?_
  refine lv_dup hx hb dX11_init_19 rfl ?_
  have hP : va_P D vwCl (((h0, .inr (11, [.ref q5, .null, .null, .null, .null, .null, .null, .null, .null, .null])) :: pl_9) ++ [(q16, .inr (10, [.null, .null, .int 0, .int 0, .int 0]))]) H := hP
  have hD : va_D A (((h0, .inr (11, [.ref q5, .null, .null, .null, .null, .null, .null, .null, .null, .null])) :: pl_9) ++ [(q16, .inr (10, [.null, .null, .int 0, .int 0, .int 0]))]) := hD
  have hPc := dn_lastP hP
  have hDc := dn_lastD hD
  have hKc := hK.sub (tys' := []) [] rfl
  have hFc := dn_lastF hD hS hA
  refine va_callv (va_runIN (As := []) (rest := [.ref q16, .ref h0]) ⟨hx, hb, hml, hown, hts⟩ (c_X10_init l D q16 H.size ) ⟨va_cnB 0 hts gX11_init_X10_init_n18 rfl rfl rfl (hNW.1 (.methodLinkNest RX11 18 yX10_init RX11) (by decide +kernel)) (hts (.initialized RX10) (by decide +kernel)) ⟨by decide +kernel, by decide +kernel, by decide +kernel⟩ ⟨Nat.le_of_ble_eq_true rfl, Nat.le_of_ble_eq_true rfl⟩, rfl, hts (.instanceMethod yX10_init) (by decide +kernel)⟩ ⟨fun a U g mk q => by obtain ⟨q0, q1, qP, qK, qD, qN⟩ := q; exact ⟨q0, q1, qP, va_K.moved (u := U) (U := U.calling g mk a) (Vm.Alike.refl U.vm) qK, qD, dn_NA.same (s := U) (U := U.calling g mk a) rfl qN⟩, fun U hU hW => ⟨rfl, by rw [hU], by rw [hU]; exact hPc, va_K.moved hW.alike hKc, hDc.weaken (fun _ _ _ _ => trivial), hNW.warm hW⟩⟩ rfl rfl hl.1 rfl (lv_room (Nat.le_of_ble_eq_true rfl)) dX11_init_20 ⟨Nat.le_of_ble_eq_true rfl, Nat.le_of_ble_eq_true rfl⟩) hS (fun q _ h => hFc q h) hFc (fun u t H1 locs ht hvm hu hB hz1 hk1 hS => ?_)
  obtain ⟨w_10, t_10, hI_10, hP1, hK1, hD1⟩ := at_X10_w hB
  rw [ht] at hP1
  have hK1 := va_K.moved hvm.symm hK1
  obtain ⟨hP, hD⟩ := dn_join hP hD hk1 hFc hP1 hD1
  have hK := hK.app hK1
  generalize H1 = H at hP hS ⊢
  have hP : va_P D vwCl ((h0, .inr (11, [.ref q5, .null, .null, .null, .null, .null, .null, .null, .null, .null])) :: (pl_9 ++ w_10)) H := hP
  have hD : va_D A ((h0, .inr (11, [.ref q5, .null, .null, .null, .null, .null, .null, .null, .null, .null])) :: (pl_9 ++ w_10)) := hD
  obtain ⟨pl_10, hpl_10⟩ : ∃ x, x = pl_9 ++ w_10 := ⟨_, rfl⟩
  rw [← hpl_10] at hP hD
  obtain ⟨ts_10, hts_10⟩ : ∃ x, x = ts_9 ++ t_10 := ⟨_, rfl⟩
  rw [← hts_10] at hK
  refine W.widen (k := 5) (n := 265) (Nat.le_of_ble_eq_true rfl) (Nat.le_of_ble_eq_true rfl) ?_
  refine va_putF (D := D) (ci := 11) (v := .ref q16) (ty := .object "DayNames$Town") (C := RX11) (T := TX11) (N := 10) hx hb hts hws tyX11 tyX11_ok nmX11 hown hK hP hD hS 0 rfl rfl 1 (by decide) (hts (.fieldLink RX11 19 "DayNames" "told" "LDayNames$Town;") (by decide +kernel)) (fun _ h9 => h9) rfl hin rfl (by decide +kernel) rfl rfl (Nat.le_of_ble_eq_true rfl) dX11_init_23 (fun H locs hP hD hS => ?_)
  have hP : va_P D vwCl ((h0, .inr (11, [.ref q5, .ref q16, .null, .null, .null, .null, .null, .null, .null, .null])) :: pl_10) H := hP
  have hD : va_D A ((h0, .inr (11, [.ref q5, .ref q16, .null, .null, .null, .null, .null, .null, .null, .null])) :: pl_10) := hD
  refine lv_aload_n hx hb dX11_init_26 rfl (lv_at hl 0 rfl) ?_
  refine va_new (ci := 8) (fs := [.null, .null, .int 0, .int 0, .int 0, .int 0, .int 0]) (C := RX8) (T := TX8) (N := 7) hx hb hts (by decide +kernel) tyX8 tyX8_ok hown (hts (.classLink RX11 23 RX8) (by decide +kernel)) (hts (.instantiable RX8 7) (by decide +kernel)) (hts (.initialized RX8) (by decide +kernel)) hK hP hD hS hA rfl (fun j hj => by rcases (show j = 0 ∨ j = 1 ∨ j = 2 ∨ j = 3 ∨ j = 4 ∨ j = 5 ∨ j = 6 by omega) with rfl | rfl | rfl | rfl | rfl | rfl | rfl <;> rfl) (Nat.le_of_ble_eq_true rfl) (Nat.le_of_ble_eq_true rfl) dX11_init_27 (fun q27 H hP hD hS => ?_)
  refine W.widen (k := 6) (n := 272) (Nat.le_of_ble_eq_true rfl) (Nat.le_of_ble_eq_true rfl) ?_
  refine lv_dup hx hb dX11_init_30 rfl ?_
  refine lv_aload_n hx hb dX11_init_31 rfl (lv_at hl 0 rfl) ?_
  refine va_get (C := RX11) (T := TX11) (N := 10) hx hb hts hws hown hK hP 0 rfl rfl 0 (by decide) (hts (.fieldLink RX11 10 "DayNames" "text" "LDayNames$Text;") (by decide +kernel)) (fun _ h9 => h9) (v := .ref q5) rfl dX11_init_32 ?_
  have hP : va_P D vwCl (((h0, .inr (11, [.ref q5, .ref q16, .null, .null, .null, .null, .null, .null, .null, .null])) :: pl_10) ++ [(q27, .inr (8, [.null, .null, .int 0, .int 0, .int 0, .int 0, .int 0]))]) H := hP
  have hD : va_D A (((h0, .inr (11, [.ref q5, .ref q16, .null, .null, .null, .null, .null, .null, .null, .null])) :: pl_10) ++ [(q27, .inr (8, [.null, .null, .int 0, .int 0, .int 0, .int 0, .int 0]))]) := hD
  have hPc := dn_lastP hP
  have hDc := dn_lastD hD
  have hKc := hK.sub (tys' := []) [] rfl
  have hFc := dn_lastF hD hS hA
  refine va_callv (va_runI (As := [.ref q5]) (rest := [.ref q27, .ref h0]) ⟨hx, hb, hml, hown, hts⟩ (c_X8_init l D q27 H.size q5) (cwI 1 hts gX11_init_X8_init rfl rfl rfl (hts (.initialized RX8) (by decide +kernel)) (hts (.methodLink RX11 25 yX8_init) (by decide +kernel)) (hts (.instanceMethod yX8_init) (by decide +kernel)) rfl (by decide +kernel) ⟨Nat.le_of_ble_eq_true rfl, Nat.le_of_ble_eq_true rfl⟩) ⟨fun a U g mk q => by obtain ⟨q0, q1, qP, qK, qD, qN⟩ := q; exact ⟨q0, q1, qP, va_K.moved (u := U) (U := U.calling g mk a) (Vm.Alike.refl U.vm) qK, qD, dn_NA.same (s := U) (U := U.calling g mk a) rfl qN⟩, fun U hU hW => ⟨rfl, by rw [hU], by rw [hU]; exact hPc, va_K.moved hW.alike hKc, hDc.weaken (fun _ _ _ _ => trivial), hNW.warm hW⟩⟩ rfl rfl hl.1 rfl (lv_room (Nat.le_of_ble_eq_true rfl)) dX11_init_35 ⟨Nat.le_of_ble_eq_true rfl, Nat.le_of_ble_eq_true rfl⟩) hS (fun q _ h => hFc q h) hFc (fun u t H1 locs ht hvm hu hB hz1 hk1 hS => ?_)
  obtain ⟨w_8, t_8, hI_8, hP1, hK1, hD1⟩ := at_X8_w hB
  rw [ht] at hP1
  have hK1 := va_K.moved hvm.symm hK1
  obtain ⟨hP, hD⟩ := dn_join hP hD hk1 hFc hP1 hD1
  have hK := hK.app hK1
  generalize H1 = H at hP hS ⊢
  have hP : va_P D vwCl ((h0, .inr (11, [.ref q5, .ref q16, .null, .null, .null, .null, .null, .null, .null, .null])) :: (pl_10 ++ w_8)) H := hP
  have hD : va_D A ((h0, .inr (11, [.ref q5, .ref q16, .null, .null, .null, .null, .null, .null, .null, .null])) :: (pl_10 ++ w_8)) := hD
  obtain ⟨pl_8, hpl_8⟩ : ∃ x, x = pl_10 ++ w_8 := ⟨_, rfl⟩
  rw [← hpl_8] at hP hD
  obtain ⟨ts_8, hts_8⟩ : ∃ x, x = ts_10 ++ t_8 := ⟨_, rfl⟩
  rw [← hts_8] at hK
  refine W.widen (k := 9) (n := 335) (Nat.le_of_ble_eq_true rfl) (Nat.le_of_ble_eq_true rfl) ?_
  refine va_putF (D := D) (ci := 11) (v := .ref q27) (ty := .object "DayNames$Reader") (C := RX11) (T := TX11) (N := 10) hx hb hts hws tyX11 tyX11_ok nmX11 hown hK hP hD hS 0 rfl rfl 2 (by decide) (hts (.fieldLink RX11 28 "DayNames" "reader" "LDayNames$Reader;") (by decide +kernel)) (fun _ h9 => h9) rfl hin rfl (by decide +kernel) rfl rfl (Nat.le_of_ble_eq_true rfl) dX11_init_38 (fun H locs hP hD hS => ?_)
  have hP : va_P D vwCl ((h0, .inr (11, [.ref q5, .ref q16, .ref q27, .null, .null, .null, .null, .null, .null, .null])) :: pl_8) H := hP
  have hD : va_D A ((h0, .inr (11, [.ref q5, .ref q16, .ref q27, .null, .null, .null, .null, .null, .null, .null])) :: pl_8) := hD
  refine lv_aload_n hx hb dX11_init_41 rfl (lv_at hl 0 rfl) ?_
  refine va_new (ci := 3) (fs := [.null, .null, .null, .int 0, .int 0, .int 0, .int 0, .int 0]) (C := RX3) (T := TX3) (N := 8) hx hb hts (by decide +kernel) tyX3 tyX3_ok hown (hts (.classLink RX11 32 RX3) (by decide +kernel)) (hts (.instantiable RX3 8) (by decide +kernel)) (hts (.initialized RX3) (by decide +kernel)) hK hP hD hS hA rfl (fun j hj => by rcases (show j = 0 ∨ j = 1 ∨ j = 2 ∨ j = 3 ∨ j = 4 ∨ j = 5 ∨ j = 6 ∨ j = 7 by omega) with rfl | rfl | rfl | rfl | rfl | rfl | rfl | rfl <;> rfl) (Nat.le_of_ble_eq_true rfl) (Nat.le_of_ble_eq_true rfl) dX11_init_42 (fun q42 H hP hD hS => ?_)
  refine W.widen (k := 10) (n := 343) (Nat.le_of_ble_eq_true rfl) (Nat.le_of_ble_eq_true rfl) ?_
  refine lv_dup hx hb dX11_init_45 rfl ?_
  have hP : va_P D vwCl (((h0, .inr (11, [.ref q5, .ref q16, .ref q27, .null, .null, .null, .null, .null, .null, .null])) :: pl_8) ++ [(q42, .inr (3, [.null, .null, .null, .int 0, .int 0, .int 0, .int 0, .int 0]))]) H := hP
  have hD : va_D A (((h0, .inr (11, [.ref q5, .ref q16, .ref q27, .null, .null, .null, .null, .null, .null, .null])) :: pl_8) ++ [(q42, .inr (3, [.null, .null, .null, .int 0, .int 0, .int 0, .int 0, .int 0]))]) := hD
  have hPc := dn_lastP hP
  have hDc := dn_lastD hD
  have hKc := hK.sub (tys' := []) [] rfl
  have hFc := dn_lastF hD hS hA
  refine va_callv (va_runIN (As := []) (rest := [.ref q42, .ref h0]) ⟨hx, hb, hml, hown, hts⟩ (c_X3_init l D q42 H.size ) ⟨va_cnB 0 hts gX11_init_X3_init_n34 rfl rfl rfl (hNW.1 (.methodLinkNest RX11 34 yX3_init RX11) (by decide +kernel)) (hts (.initialized RX3) (by decide +kernel)) ⟨by decide +kernel, by decide +kernel, by decide +kernel⟩ ⟨Nat.le_of_ble_eq_true rfl, Nat.le_of_ble_eq_true rfl⟩, rfl, hts (.instanceMethod yX3_init) (by decide +kernel)⟩ ⟨fun a U g mk q => by obtain ⟨q0, q1, qP, qK, qD, qN⟩ := q; exact ⟨q0, q1, qP, va_K.moved (u := U) (U := U.calling g mk a) (Vm.Alike.refl U.vm) qK, qD, dn_NA.same (s := U) (U := U.calling g mk a) rfl qN⟩, fun U hU hW => ⟨rfl, by rw [hU], by rw [hU]; exact hPc, va_K.moved hW.alike hKc, hDc.weaken (fun _ _ _ _ => trivial), hNW.warm hW⟩⟩ rfl rfl hl.1 rfl (lv_room (Nat.le_of_ble_eq_true rfl)) dX11_init_46 ⟨Nat.le_of_ble_eq_true rfl, Nat.le_of_ble_eq_true rfl⟩) hS (fun q _ h => hFc q h) hFc (fun u t H1 locs ht hvm hu hB hz1 hk1 hS => ?_)
  obtain ⟨w_3, t_3, hI_3, hP1, hK1, hD1⟩ := at_X3_w hB
  rw [ht] at hP1
  have hK1 := va_K.moved hvm.symm hK1
  obtain ⟨hP, hD⟩ := dn_join hP hD hk1 hFc hP1 hD1
  have hK := hK.app hK1
  generalize H1 = H at hP hS ⊢
  have hP : va_P D vwCl ((h0, .inr (11, [.ref q5, .ref q16, .ref q27, .null, .null, .null, .null, .null, .null, .null])) :: (pl_8 ++ w_3)) H := hP
  have hD : va_D A ((h0, .inr (11, [.ref q5, .ref q16, .ref q27, .null, .null, .null, .null, .null, .null, .null])) :: (pl_8 ++ w_3)) := hD
  obtain ⟨pl_3, hpl_3⟩ : ∃ x, x = pl_8 ++ w_3 := ⟨_, rfl⟩
  rw [← hpl_3] at hP hD
  obtain ⟨ts_3, hts_3⟩ : ∃ x, x = ts_8 ++ t_3 := ⟨_, rfl⟩
  rw [← hts_3] at hK
  refine W.widen (k := 13) (n := 453) (Nat.le_of_ble_eq_true rfl) (Nat.le_of_ble_eq_true rfl) ?_
  refine va_putF (D := D) (ci := 11) (v := .ref q42) (ty := .object "DayNames$Moment") (C := RX11) (T := TX11) (N := 10) hx hb hts hws tyX11 tyX11_ok nmX11 hown hK hP hD hS 0 rfl rfl 3 (by decide) (hts (.fieldLink RX11 35 "DayNames" "current" "LDayNames$Moment;") (by decide +kernel)) (fun _ h9 => h9) rfl hin rfl (by decide +kernel) rfl rfl (Nat.le_of_ble_eq_true rfl) dX11_init_49 (fun H locs hP hD hS => ?_)
  have hP : va_P D vwCl ((h0, .inr (11, [.ref q5, .ref q16, .ref q27, .ref q42, .null, .null, .null, .null, .null, .null])) :: pl_3) H := hP
  have hD : va_D A ((h0, .inr (11, [.ref q5, .ref q16, .ref q27, .ref q42, .null, .null, .null, .null, .null, .null])) :: pl_3) := hD
  refine lv_aload_n hx hb dX11_init_52 rfl (lv_at hl 0 rfl) ?_
  refine va_new (ci := 4) (fs := [.null, .null, .int 0, .int 0]) (C := RX4) (T := TX4) (N := 4) hx hb hts (by decide +kernel) tyX4 tyX4_ok hown (hts (.classLink RX11 39 RX4) (by decide +kernel)) (hts (.instantiable RX4 4) (by decide +kernel)) (hts (.initialized RX4) (by decide +kernel)) hK hP hD hS hA rfl (fun j hj => by rcases (show j = 0 ∨ j = 1 ∨ j = 2 ∨ j = 3 by omega) with rfl | rfl | rfl | rfl <;> rfl) (Nat.le_of_ble_eq_true rfl) (Nat.le_of_ble_eq_true rfl) dX11_init_53 (fun q53 H hP hD hS => ?_)
  refine W.widen (k := 14) (n := 457) (Nat.le_of_ble_eq_true rfl) (Nat.le_of_ble_eq_true rfl) ?_
  refine lv_dup hx hb dX11_init_56 rfl ?_
  refine lv_aload_n hx hb dX11_init_57 rfl (lv_at hl 0 rfl) ?_
  refine va_get (C := RX11) (T := TX11) (N := 10) hx hb hts hws hown hK hP 0 rfl rfl 1 (by decide) (hts (.fieldLink RX11 19 "DayNames" "told" "LDayNames$Town;") (by decide +kernel)) (fun _ h9 => h9) (v := .ref q16) rfl dX11_init_58 ?_
  have hP : va_P D vwCl (((h0, .inr (11, [.ref q5, .ref q16, .ref q27, .ref q42, .null, .null, .null, .null, .null, .null])) :: pl_3) ++ [(q53, .inr (4, [.null, .null, .int 0, .int 0]))]) H := hP
  have hD : va_D A (((h0, .inr (11, [.ref q5, .ref q16, .ref q27, .ref q42, .null, .null, .null, .null, .null, .null])) :: pl_3) ++ [(q53, .inr (4, [.null, .null, .int 0, .int 0]))]) := hD
  have hPc := dn_lastP hP
  have hDc := dn_lastD hD
  have hKc := hK.sub (tys' := []) [] rfl
  have hFc := dn_lastF hD hS hA
  refine va_callv (va_runI (As := [.ref q16]) (rest := [.ref q53, .ref h0]) ⟨hx, hb, hml, hown, hts⟩ (c_X4_init l D q53 H.size q16) (cwI 1 hts gX11_init_X4_init rfl rfl rfl (hts (.initialized RX4) (by decide +kernel)) (hts (.methodLink RX11 41 yX4_init) (by decide +kernel)) (hts (.instanceMethod yX4_init) (by decide +kernel)) rfl (by decide +kernel) ⟨Nat.le_of_ble_eq_true rfl, Nat.le_of_ble_eq_true rfl⟩) ⟨fun a U g mk q => by obtain ⟨q0, q1, qP, qK, qD, qN⟩ := q; exact ⟨q0, q1, qP, va_K.moved (u := U) (U := U.calling g mk a) (Vm.Alike.refl U.vm) qK, qD, dn_NA.same (s := U) (U := U.calling g mk a) rfl qN⟩, fun U hU hW => ⟨rfl, by rw [hU], by rw [hU]; exact hPc, va_K.moved hW.alike hKc, hDc.weaken (fun _ _ _ _ => trivial), hNW.warm hW⟩⟩ rfl rfl hl.1 rfl (lv_room (Nat.le_of_ble_eq_true rfl)) dX11_init_61 ⟨Nat.le_of_ble_eq_true rfl, Nat.le_of_ble_eq_true rfl⟩) hS (fun q _ h => hFc q h) hFc (fun u t H1 locs ht hvm hu hB hz1 hk1 hS => ?_)
  obtain ⟨w_4, t_4, hI_4, hP1, hK1, hD1⟩ := at_X4_w hB
  rw [ht] at hP1
  have hK1 := va_K.moved hvm.symm hK1
  obtain ⟨hP, hD⟩ := dn_join hP hD hk1 hFc hP1 hD1
  have hK := hK.app hK1
  generalize H1 = H at hP hS ⊢
  have hP : va_P D vwCl ((h0, .inr (11, [.ref q5, .ref q16, .ref q27, .ref q42, .null, .null, .null, .null, .null, .null])) :: (pl_3 ++ w_4)) H := hP
  have hD : va_D A ((h0, .inr (11, [.ref q5, .ref q16, .ref q27, .ref q42, .null, .null, .null, .null, .null, .null])) :: (pl_3 ++ w_4)) := hD
  obtain ⟨pl_4, hpl_4⟩ : ∃ x, x = pl_3 ++ w_4 := ⟨_, rfl⟩
  rw [← hpl_4] at hP hD
  obtain ⟨ts_4, hts_4⟩ : ∃ x, x = ts_3 ++ t_4 := ⟨_, rfl⟩
  rw [← hts_4] at hK
  refine W.widen (k := 17) (n := 469) (Nat.le_of_ble_eq_true rfl) (Nat.le_of_ble_eq_true rfl) ?_
  refine va_putF (D := D) (ci := 11) (v := .ref q53) (ty := .object "DayNames$Nights") (C := RX11) (T := TX11) (N := 10) hx hb hts hws tyX11 tyX11_ok nmX11 hown hK hP hD hS 0 rfl rfl 4 (by decide) (hts (.fieldLink RX11 44 "DayNames" "nights" "LDayNames$Nights;") (by decide +kernel)) (fun _ h9 => h9) rfl hin rfl (by decide +kernel) rfl rfl (Nat.le_of_ble_eq_true rfl) dX11_init_64 (fun H locs hP hD hS => ?_)
  have hP : va_P D vwCl ((h0, .inr (11, [.ref q5, .ref q16, .ref q27, .ref q42, .ref q53, .null, .null, .null, .null, .null])) :: pl_4) H := hP
  have hD : va_D A ((h0, .inr (11, [.ref q5, .ref q16, .ref q27, .ref q42, .ref q53, .null, .null, .null, .null, .null])) :: pl_4) := hD
  refine lv_aload_n hx hb dX11_init_67 rfl (lv_at hl 0 rfl) ?_
  refine va_new (ci := 5) (fs := [.null, .null, .null]) (C := RX5) (T := TX5) (N := 3) hx hb hts (by decide +kernel) tyX5 tyX5_ok hown (hts (.classLink RX11 48 RX5) (by decide +kernel)) (hts (.instantiable RX5 3) (by decide +kernel)) (hts (.initialized RX5) (by decide +kernel)) hK hP hD hS hA rfl (fun j hj => by rcases (show j = 0 ∨ j = 1 ∨ j = 2 by omega) with rfl | rfl | rfl <;> rfl) (Nat.le_of_ble_eq_true rfl) (Nat.le_of_ble_eq_true rfl) dX11_init_68 (fun q68 H hP hD hS => ?_)
  refine W.widen (k := 18) (n := 472) (Nat.le_of_ble_eq_true rfl) (Nat.le_of_ble_eq_true rfl) ?_
  refine lv_dup hx hb dX11_init_71 rfl ?_
  refine lv_aload_n hx hb dX11_init_72 rfl (lv_at hl 0 rfl) ?_
  refine va_get (C := RX11) (T := TX11) (N := 10) hx hb hts hws hown hK hP 0 rfl rfl 1 (by decide) (hts (.fieldLink RX11 19 "DayNames" "told" "LDayNames$Town;") (by decide +kernel)) (fun _ h9 => h9) (v := .ref q16) rfl dX11_init_73 ?_
  refine lv_aload_n hx hb dX11_init_76 rfl (lv_at hl 0 rfl) ?_
  refine va_get (C := RX11) (T := TX11) (N := 10) hx hb hts hws hown hK hP 0 rfl rfl 4 (by decide) (hts (.fieldLink RX11 44 "DayNames" "nights" "LDayNames$Nights;") (by decide +kernel)) (fun _ h9 => h9) (v := .ref q53) rfl dX11_init_77 ?_
  have hP : va_P D vwCl (((h0, .inr (11, [.ref q5, .ref q16, .ref q27, .ref q42, .ref q53, .null, .null, .null, .null, .null])) :: pl_4) ++ [(q68, .inr (5, [.null, .null, .null]))]) H := hP
  have hD : va_D A (((h0, .inr (11, [.ref q5, .ref q16, .ref q27, .ref q42, .ref q53, .null, .null, .null, .null, .null])) :: pl_4) ++ [(q68, .inr (5, [.null, .null, .null]))]) := hD
  have hPc := dn_lastP hP
  have hDc := dn_lastD hD
  have hKc := hK.sub (tys' := []) [] rfl
  have hFc := dn_lastF hD hS hA
  refine va_callv (va_runI (As := [.ref q16, .ref q53]) (rest := [.ref q68, .ref h0]) ⟨hx, hb, hml, hown, hts⟩ (c_X5_init l D q68 H.size q16 q53) (cwI 2 hts gX11_init_X5_init rfl rfl rfl (hts (.initialized RX5) (by decide +kernel)) (hts (.methodLink RX11 50 yX5_init) (by decide +kernel)) (hts (.instanceMethod yX5_init) (by decide +kernel)) rfl (by decide +kernel) ⟨Nat.le_of_ble_eq_true rfl, Nat.le_of_ble_eq_true rfl⟩) ⟨fun a U g mk q => by obtain ⟨q0, q1, qP, qK, qD, qN⟩ := q; exact ⟨q0, q1, qP, va_K.moved (u := U) (U := U.calling g mk a) (Vm.Alike.refl U.vm) qK, qD, dn_NA.same (s := U) (U := U.calling g mk a) rfl qN⟩, fun U hU hW => ⟨rfl, by rw [hU], by rw [hU]; exact hPc, va_K.moved hW.alike hKc, hDc.weaken (fun _ _ _ _ => trivial), hNW.warm hW⟩⟩ rfl rfl hl.1 rfl (lv_room (Nat.le_of_ble_eq_true rfl)) dX11_init_80 ⟨Nat.le_of_ble_eq_true rfl, Nat.le_of_ble_eq_true rfl⟩) hS (fun q _ h => hFc q h) hFc (fun u t H1 locs ht hvm hu hB hz1 hk1 hS => ?_)
  obtain ⟨w_5, t_5, hI_5, hP1, hK1, hD1⟩ := at_X5_w hB
  rw [ht] at hP1
  have hK1 := va_K.moved hvm.symm hK1
  obtain ⟨hP, hD⟩ := dn_join hP hD hk1 hFc hP1 hD1
  have hK := hK.app hK1
  generalize H1 = H at hP hS ⊢
  have hP : va_P D vwCl ((h0, .inr (11, [.ref q5, .ref q16, .ref q27, .ref q42, .ref q53, .null, .null, .null, .null, .null])) :: (pl_4 ++ w_5)) H := hP
  have hD : va_D A ((h0, .inr (11, [.ref q5, .ref q16, .ref q27, .ref q42, .ref q53, .null, .null, .null, .null, .null])) :: (pl_4 ++ w_5)) := hD
  obtain ⟨pl_5, hpl_5⟩ : ∃ x, x = pl_4 ++ w_5 := ⟨_, rfl⟩
  rw [← hpl_5] at hP hD
  obtain ⟨ts_5, hts_5⟩ : ∃ x, x = ts_4 ++ t_5 := ⟨_, rfl⟩
  rw [← hts_5] at hK
  refine W.widen (k := 22) (n := 590) (Nat.le_of_ble_eq_true rfl) (Nat.le_of_ble_eq_true rfl) ?_
  refine va_putF (D := D) (ci := 11) (v := .ref q68) (ty := .object "DayNames$Outlook") (C := RX11) (T := TX11) (N := 10) hx hb hts hws tyX11 tyX11_ok nmX11 hown hK hP hD hS 0 rfl rfl 5 (by decide) (hts (.fieldLink RX11 53 "DayNames" "outlook" "LDayNames$Outlook;") (by decide +kernel)) (fun _ h9 => h9) rfl hin rfl (by decide +kernel) rfl rfl (Nat.le_of_ble_eq_true rfl) dX11_init_83 (fun H locs hP hD hS => ?_)
  have hP : va_P D vwCl ((h0, .inr (11, [.ref q5, .ref q16, .ref q27, .ref q42, .ref q53, .ref q68, .null, .null, .null, .null])) :: pl_5) H := hP
  have hD : va_D A ((h0, .inr (11, [.ref q5, .ref q16, .ref q27, .ref q42, .ref q53, .ref q68, .null, .null, .null, .null])) :: pl_5) := hD
  refine lv_aload_n hx hb dX11_init_86 rfl (lv_at hl 0 rfl) ?_
  refine va_new (ci := 2) (fs := [.null, .null, .null, .null, .null, .int 0]) (C := RX2) (T := TX2) (N := 6) hx hb hts (by decide +kernel) tyX2 tyX2_ok hown (hts (.classLink RX11 57 RX2) (by decide +kernel)) (hts (.instantiable RX2 6) (by decide +kernel)) (hts (.initialized RX2) (by decide +kernel)) hK hP hD hS hA rfl (fun j hj => by rcases (show j = 0 ∨ j = 1 ∨ j = 2 ∨ j = 3 ∨ j = 4 ∨ j = 5 by omega) with rfl | rfl | rfl | rfl | rfl | rfl <;> rfl) (Nat.le_of_ble_eq_true rfl) (Nat.le_of_ble_eq_true rfl) dX11_init_87 (fun q87 H hP hD hS => ?_)
  refine W.widen (k := 23) (n := 596) (Nat.le_of_ble_eq_true rfl) (Nat.le_of_ble_eq_true rfl) ?_
  refine lv_dup hx hb dX11_init_90 rfl ?_
  refine lv_aload_n hx hb dX11_init_91 rfl (lv_at hl 0 rfl) ?_
  refine va_get (C := RX11) (T := TX11) (N := 10) hx hb hts hws hown hK hP 0 rfl rfl 1 (by decide) (hts (.fieldLink RX11 19 "DayNames" "told" "LDayNames$Town;") (by decide +kernel)) (fun _ h9 => h9) (v := .ref q16) rfl dX11_init_92 ?_
  refine lv_aload_n hx hb dX11_init_95 rfl (lv_at hl 0 rfl) ?_
  refine va_get (C := RX11) (T := TX11) (N := 10) hx hb hts hws hown hK hP 0 rfl rfl 4 (by decide) (hts (.fieldLink RX11 44 "DayNames" "nights" "LDayNames$Nights;") (by decide +kernel)) (fun _ h9 => h9) (v := .ref q53) rfl dX11_init_96 ?_
  have hP : va_P D vwCl (((h0, .inr (11, [.ref q5, .ref q16, .ref q27, .ref q42, .ref q53, .ref q68, .null, .null, .null, .null])) :: pl_5) ++ [(q87, .inr (2, [.null, .null, .null, .null, .null, .int 0]))]) H := hP
  have hD : va_D A (((h0, .inr (11, [.ref q5, .ref q16, .ref q27, .ref q42, .ref q53, .ref q68, .null, .null, .null, .null])) :: pl_5) ++ [(q87, .inr (2, [.null, .null, .null, .null, .null, .int 0]))]) := hD
  have hPc := dn_lastP hP
  have hDc := dn_lastD hD
  have hKc := hK.sub (tys' := []) [] rfl
  have hFc := dn_lastF hD hS hA
  refine va_callv (va_runI (As := [.ref q16, .ref q53]) (rest := [.ref q87, .ref h0]) ⟨hx, hb, hml, hown, hts⟩ (c_X2_init l D q87 H.size q16 q53) (cwI 2 hts gX11_init_X2_init rfl rfl rfl (hts (.initialized RX2) (by decide +kernel)) (hts (.methodLink RX11 59 yX2_init) (by decide +kernel)) (hts (.instanceMethod yX2_init) (by decide +kernel)) rfl (by decide +kernel) ⟨Nat.le_of_ble_eq_true rfl, Nat.le_of_ble_eq_true rfl⟩) ⟨fun a U g mk q => by obtain ⟨q0, q1, qP, qK, qD, qN⟩ := q; exact ⟨q0, q1, qP, va_K.moved (u := U) (U := U.calling g mk a) (Vm.Alike.refl U.vm) qK, qD, dn_NA.same (s := U) (U := U.calling g mk a) rfl qN⟩, fun U hU hW => ⟨rfl, by rw [hU], by rw [hU]; exact hPc, va_K.moved hW.alike hKc, hDc.weaken (fun _ _ _ _ => trivial), hNW.warm hW⟩⟩ rfl rfl hl.1 rfl (lv_room (Nat.le_of_ble_eq_true rfl)) dX11_init_99 ⟨Nat.le_of_ble_eq_true rfl, Nat.le_of_ble_eq_true rfl⟩) hS (fun q _ h => hFc q h) hFc (fun u t H1 locs ht hvm hu hB hz1 hk1 hS => ?_)
  obtain ⟨w_2, t_2, hI_2, hP1, hK1, hD1⟩ := at_X2_w hB
  rw [ht] at hP1
  have hK1 := va_K.moved hvm.symm hK1
  obtain ⟨hP, hD⟩ := dn_join hP hD hk1 hFc hP1 hD1
  have hK := hK.app hK1
  generalize H1 = H at hP hS ⊢
  have hP : va_P D vwCl ((h0, .inr (11, [.ref q5, .ref q16, .ref q27, .ref q42, .ref q53, .ref q68, .null, .null, .null, .null])) :: (pl_5 ++ w_2)) H := hP
  have hD : va_D A ((h0, .inr (11, [.ref q5, .ref q16, .ref q27, .ref q42, .ref q53, .ref q68, .null, .null, .null, .null])) :: (pl_5 ++ w_2)) := hD
  obtain ⟨pl_2, hpl_2⟩ : ∃ x, x = pl_5 ++ w_2 := ⟨_, rfl⟩
  rw [← hpl_2] at hP hD
  obtain ⟨ts_2, hts_2⟩ : ∃ x, x = ts_5 ++ t_2 := ⟨_, rfl⟩
  rw [← hts_2] at hK
  refine W.widen (k := 29) (n := 724) (Nat.le_of_ble_eq_true rfl) (Nat.le_of_ble_eq_true rfl) ?_
  refine va_putF (D := D) (ci := 11) (v := .ref q87) (ty := .object "DayNames$Finds") (C := RX11) (T := TX11) (N := 10) hx hb hts hws tyX11 tyX11_ok nmX11 hown hK hP hD hS 0 rfl rfl 6 (by decide) (hts (.fieldLink RX11 60 "DayNames" "finds" "LDayNames$Finds;") (by decide +kernel)) (fun _ h9 => h9) rfl hin rfl (by decide +kernel) rfl rfl (Nat.le_of_ble_eq_true rfl) dX11_init_102 (fun H locs hP hD hS => ?_)
  have hP : va_P D vwCl ((h0, .inr (11, [.ref q5, .ref q16, .ref q27, .ref q42, .ref q53, .ref q68, .ref q87, .null, .null, .null])) :: pl_2) H := hP
  have hD : va_D A ((h0, .inr (11, [.ref q5, .ref q16, .ref q27, .ref q42, .ref q53, .ref q68, .ref q87, .null, .null, .null])) :: pl_2) := hD
  refine lv_aload_n hx hb dX11_init_105 rfl (lv_at hl 0 rfl) ?_
  refine va_new (ci := 0) (fs := [.null, .null, .null, .int 0]) (C := RX0) (T := TX0) (N := 4) hx hb hts (by decide +kernel) tyX0 tyX0_ok hown (hts (.classLink RX11 64 RX0) (by decide +kernel)) (hts (.instantiable RX0 4) (by decide +kernel)) (hts (.initialized RX0) (by decide +kernel)) hK hP hD hS hA rfl (fun j hj => by rcases (show j = 0 ∨ j = 1 ∨ j = 2 ∨ j = 3 by omega) with rfl | rfl | rfl | rfl <;> rfl) (Nat.le_of_ble_eq_true rfl) (Nat.le_of_ble_eq_true rfl) dX11_init_106 (fun q106 H hP hD hS => ?_)
  refine W.widen (k := 30) (n := 728) (Nat.le_of_ble_eq_true rfl) (Nat.le_of_ble_eq_true rfl) ?_
  refine lv_dup hx hb dX11_init_109 rfl ?_
  refine lv_aload_n hx hb dX11_init_110 rfl (lv_at hl 0 rfl) ?_
  refine va_get (C := RX11) (T := TX11) (N := 10) hx hb hts hws hown hK hP 0 rfl rfl 4 (by decide) (hts (.fieldLink RX11 44 "DayNames" "nights" "LDayNames$Nights;") (by decide +kernel)) (fun _ h9 => h9) (v := .ref q53) rfl dX11_init_111 ?_
  have hP : va_P D vwCl (((h0, .inr (11, [.ref q5, .ref q16, .ref q27, .ref q42, .ref q53, .ref q68, .ref q87, .null, .null, .null])) :: pl_2) ++ [(q106, .inr (0, [.null, .null, .null, .int 0]))]) H := hP
  have hD : va_D A (((h0, .inr (11, [.ref q5, .ref q16, .ref q27, .ref q42, .ref q53, .ref q68, .ref q87, .null, .null, .null])) :: pl_2) ++ [(q106, .inr (0, [.null, .null, .null, .int 0]))]) := hD
  have hPc := dn_lastP hP
  have hDc := dn_lastD hD
  have hKc := hK.sub (tys' := []) [] rfl
  have hFc := dn_lastF hD hS hA
  refine va_callv (va_runI (As := [.ref q53]) (rest := [.ref q106, .ref h0]) ⟨hx, hb, hml, hown, hts⟩ (c_X0_init l D q106 H.size q53) (cwI 1 hts gX11_init_X0_init rfl rfl rfl (hts (.initialized RX0) (by decide +kernel)) (hts (.methodLink RX11 66 yX0_init) (by decide +kernel)) (hts (.instanceMethod yX0_init) (by decide +kernel)) rfl (by decide +kernel) ⟨Nat.le_of_ble_eq_true rfl, Nat.le_of_ble_eq_true rfl⟩) ⟨fun a U g mk q => by obtain ⟨q0, q1, qP, qK, qD, qN⟩ := q; exact ⟨q0, q1, qP, va_K.moved (u := U) (U := U.calling g mk a) (Vm.Alike.refl U.vm) qK, qD, dn_NA.same (s := U) (U := U.calling g mk a) rfl qN⟩, fun U hU hW => ⟨rfl, by rw [hU], by rw [hU]; exact hPc, va_K.moved hW.alike hKc, hDc.weaken (fun _ _ _ _ => trivial), hNW.warm hW⟩⟩ rfl rfl hl.1 rfl (lv_room (Nat.le_of_ble_eq_true rfl)) dX11_init_114 ⟨Nat.le_of_ble_eq_true rfl, Nat.le_of_ble_eq_true rfl⟩) hS (fun q _ h => hFc q h) hFc (fun u t H1 locs ht hvm hu hB hz1 hk1 hS => ?_)
  obtain ⟨w_0, t_0, hI_0, hP1, hK1, hD1⟩ := at_X0_w hB
  rw [ht] at hP1
  have hK1 := va_K.moved hvm.symm hK1
  obtain ⟨hP, hD⟩ := dn_join hP hD hk1 hFc hP1 hD1
  have hK := hK.app hK1
  generalize H1 = H at hP hS ⊢
  have hP : va_P D vwCl ((h0, .inr (11, [.ref q5, .ref q16, .ref q27, .ref q42, .ref q53, .ref q68, .ref q87, .null, .null, .null])) :: (pl_2 ++ w_0)) H := hP
  have hD : va_D A ((h0, .inr (11, [.ref q5, .ref q16, .ref q27, .ref q42, .ref q53, .ref q68, .ref q87, .null, .null, .null])) :: (pl_2 ++ w_0)) := hD
  obtain ⟨pl_0, hpl_0⟩ : ∃ x, x = pl_2 ++ w_0 := ⟨_, rfl⟩
  rw [← hpl_0] at hP hD
  obtain ⟨ts_0, hts_0⟩ : ∃ x, x = ts_2 ++ t_0 := ⟨_, rfl⟩
  rw [← hts_0] at hK
  refine W.widen (k := 35) (n := 854) (Nat.le_of_ble_eq_true rfl) (Nat.le_of_ble_eq_true rfl) ?_
  refine va_putF (D := D) (ci := 11) (v := .ref q106) (ty := .object "DayNames$Agenda") (C := RX11) (T := TX11) (N := 10) hx hb hts hws tyX11 tyX11_ok nmX11 hown hK hP hD hS 0 rfl rfl 7 (by decide) (hts (.fieldLink RX11 69 "DayNames" "agenda" "LDayNames$Agenda;") (by decide +kernel)) (fun _ h9 => h9) rfl hin rfl (by decide +kernel) rfl rfl (Nat.le_of_ble_eq_true rfl) dX11_init_117 (fun H locs hP hD hS => ?_)
  have hP : va_P D vwCl ((h0, .inr (11, [.ref q5, .ref q16, .ref q27, .ref q42, .ref q53, .ref q68, .ref q87, .ref q106, .null, .null])) :: pl_0) H := hP
  have hD : va_D A ((h0, .inr (11, [.ref q5, .ref q16, .ref q27, .ref q42, .ref q53, .ref q68, .ref q87, .ref q106, .null, .null])) :: pl_0) := hD
  refine lv_aload_n hx hb dX11_init_120 rfl (lv_at hl 0 rfl) ?_
  refine va_new (ci := 6) (fs := [.null, .null, .null, .int 0, .int 0]) (C := RX6) (T := TX6) (N := 5) hx hb hts (by decide +kernel) tyX6 tyX6_ok hown (hts (.classLink RX11 73 RX6) (by decide +kernel)) (hts (.instantiable RX6 5) (by decide +kernel)) (hts (.initialized RX6) (by decide +kernel)) hK hP hD hS hA rfl (fun j hj => by rcases (show j = 0 ∨ j = 1 ∨ j = 2 ∨ j = 3 ∨ j = 4 by omega) with rfl | rfl | rfl | rfl | rfl <;> rfl) (Nat.le_of_ble_eq_true rfl) (Nat.le_of_ble_eq_true rfl) dX11_init_121 (fun q121 H hP hD hS => ?_)
  refine W.widen (k := 36) (n := 859) (Nat.le_of_ble_eq_true rfl) (Nat.le_of_ble_eq_true rfl) ?_
  refine lv_dup hx hb dX11_init_124 rfl ?_
  have hP : va_P D vwCl (((h0, .inr (11, [.ref q5, .ref q16, .ref q27, .ref q42, .ref q53, .ref q68, .ref q87, .ref q106, .null, .null])) :: pl_0) ++ [(q121, .inr (6, [.null, .null, .null, .int 0, .int 0]))]) H := hP
  have hD : va_D A (((h0, .inr (11, [.ref q5, .ref q16, .ref q27, .ref q42, .ref q53, .ref q68, .ref q87, .ref q106, .null, .null])) :: pl_0) ++ [(q121, .inr (6, [.null, .null, .null, .int 0, .int 0]))]) := hD
  have hPc := dn_lastP hP
  have hDc := dn_lastD hD
  have hKc := hK.sub (tys' := []) [] rfl
  have hFc := dn_lastF hD hS hA
  refine va_callv (va_runI (As := []) (rest := [.ref q121, .ref h0]) ⟨hx, hb, hml, hown, hts⟩ (c_X6_init l D q121 H.size ) (cwI 0 hts gX11_init_X6_init rfl rfl rfl (hts (.initialized RX6) (by decide +kernel)) (hts (.methodLink RX11 75 yX6_init) (by decide +kernel)) (hts (.instanceMethod yX6_init) (by decide +kernel)) rfl (by decide +kernel) ⟨Nat.le_of_ble_eq_true rfl, Nat.le_of_ble_eq_true rfl⟩) ⟨fun a U g mk q => by obtain ⟨q0, q1, qP, qK, qD, qN⟩ := q; exact ⟨q0, q1, qP, va_K.moved (u := U) (U := U.calling g mk a) (Vm.Alike.refl U.vm) qK, qD, dn_NA.same (s := U) (U := U.calling g mk a) rfl qN⟩, fun U hU hW => ⟨rfl, by rw [hU], by rw [hU]; exact hPc, va_K.moved hW.alike hKc, hDc.weaken (fun _ _ _ _ => trivial), hNW.warm hW⟩⟩ rfl rfl hl.1 rfl (lv_room (Nat.le_of_ble_eq_true rfl)) dX11_init_125 ⟨Nat.le_of_ble_eq_true rfl, Nat.le_of_ble_eq_true rfl⟩) hS (fun q _ h => hFc q h) hFc (fun u t H1 locs ht hvm hu hB hz1 hk1 hS => ?_)
  obtain ⟨w_6, t_6, hI_6, hP1, hK1, hD1⟩ := at_X6_w hB
  rw [ht] at hP1
  have hK1 := va_K.moved hvm.symm hK1
  obtain ⟨hP, hD⟩ := dn_join hP hD hk1 hFc hP1 hD1
  have hK := hK.app hK1
  generalize H1 = H at hP hS ⊢
  have hP : va_P D vwCl ((h0, .inr (11, [.ref q5, .ref q16, .ref q27, .ref q42, .ref q53, .ref q68, .ref q87, .ref q106, .null, .null])) :: (pl_0 ++ w_6)) H := hP
  have hD : va_D A ((h0, .inr (11, [.ref q5, .ref q16, .ref q27, .ref q42, .ref q53, .ref q68, .ref q87, .ref q106, .null, .null])) :: (pl_0 ++ w_6)) := hD
  obtain ⟨pl_6, hpl_6⟩ : ∃ x, x = pl_0 ++ w_6 := ⟨_, rfl⟩
  rw [← hpl_6] at hP hD
  obtain ⟨ts_6, hts_6⟩ : ∃ x, x = ts_0 ++ t_6 := ⟨_, rfl⟩
  rw [← hts_6] at hK
  refine W.widen (k := 87) (n := 2289) (Nat.le_of_ble_eq_true rfl) (Nat.le_of_ble_eq_true rfl) ?_
  refine va_putF (D := D) (ci := 11) (v := .ref q121) (ty := .object "DayNames$Past") (C := RX11) (T := TX11) (N := 10) hx hb hts hws tyX11 tyX11_ok nmX11 hown hK hP hD hS 0 rfl rfl 8 (by decide) (hts (.fieldLink RX11 76 "DayNames" "past" "LDayNames$Past;") (by decide +kernel)) (fun _ h9 => h9) rfl hin rfl (by decide +kernel) rfl rfl (Nat.le_of_ble_eq_true rfl) dX11_init_128 (fun H locs hP hD hS => ?_)
  have hP : va_P D vwCl ((h0, .inr (11, [.ref q5, .ref q16, .ref q27, .ref q42, .ref q53, .ref q68, .ref q87, .ref q106, .ref q121, .null])) :: pl_6) H := hP
  have hD : va_D A ((h0, .inr (11, [.ref q5, .ref q16, .ref q27, .ref q42, .ref q53, .ref q68, .ref q87, .ref q106, .ref q121, .null])) :: pl_6) := hD
  refine lv_aload_n hx hb dX11_init_131 rfl (lv_at hl 0 rfl) ?_
  refine va_new (ci := 7) (fs := [.null, .null, .long 0]) (C := RX7) (T := TX7) (N := 3) hx hb hts (by decide +kernel) tyX7 tyX7_ok hown (hts (.classLink RX11 80 RX7) (by decide +kernel)) (hts (.instantiable RX7 3) (by decide +kernel)) (hts (.initialized RX7) (by decide +kernel)) hK hP hD hS hA rfl (fun j hj => by rcases (show j = 0 ∨ j = 1 ∨ j = 2 by omega) with rfl | rfl | rfl <;> rfl) (Nat.le_of_ble_eq_true rfl) (Nat.le_of_ble_eq_true rfl) dX11_init_132 (fun q132 H hP hD hS => ?_)
  refine W.widen (k := 88) (n := 2292) (Nat.le_of_ble_eq_true rfl) (Nat.le_of_ble_eq_true rfl) ?_
  refine lv_dup hx hb dX11_init_135 rfl ?_
  refine lv_aload_n hx hb dX11_init_136 rfl (lv_at hl 0 rfl) ?_
  refine va_get (C := RX11) (T := TX11) (N := 10) hx hb hts hws hown hK hP 0 rfl rfl 1 (by decide) (hts (.fieldLink RX11 19 "DayNames" "told" "LDayNames$Town;") (by decide +kernel)) (fun _ h9 => h9) (v := .ref q16) rfl dX11_init_137 ?_
  refine lv_aload_n hx hb dX11_init_140 rfl (lv_at hl 0 rfl) ?_
  refine va_get (C := RX11) (T := TX11) (N := 10) hx hb hts hws hown hK hP 0 rfl rfl 3 (by decide) (hts (.fieldLink RX11 35 "DayNames" "current" "LDayNames$Moment;") (by decide +kernel)) (fun _ h9 => h9) (v := .ref q42) rfl dX11_init_141 ?_
  have hP : va_P D vwCl (((h0, .inr (11, [.ref q5, .ref q16, .ref q27, .ref q42, .ref q53, .ref q68, .ref q87, .ref q106, .ref q121, .null])) :: pl_6) ++ [(q132, .inr (7, [.null, .null, .long 0]))]) H := hP
  have hD : va_D A (((h0, .inr (11, [.ref q5, .ref q16, .ref q27, .ref q42, .ref q53, .ref q68, .ref q87, .ref q106, .ref q121, .null])) :: pl_6) ++ [(q132, .inr (7, [.null, .null, .long 0]))]) := hD
  have hPc := dn_lastP hP
  have hDc := dn_lastD hD
  have hKc := hK.sub (tys' := []) [] rfl
  have hFc := dn_lastF hD hS hA
  refine va_callv (va_runI (As := [.ref q16, .ref q42]) (rest := [.ref q132, .ref h0]) ⟨hx, hb, hml, hown, hts⟩ (c_X7_init l D q132 H.size q16 q42) (cwI 2 hts gX11_init_X7_init rfl rfl rfl (hts (.initialized RX7) (by decide +kernel)) (hts (.methodLink RX11 82 yX7_init) (by decide +kernel)) (hts (.instanceMethod yX7_init) (by decide +kernel)) rfl (by decide +kernel) ⟨Nat.le_of_ble_eq_true rfl, Nat.le_of_ble_eq_true rfl⟩) ⟨fun a U g mk q => by obtain ⟨q0, q1, qP, qK, qD, qN⟩ := q; exact ⟨q0, q1, qP, va_K.moved (u := U) (U := U.calling g mk a) (Vm.Alike.refl U.vm) qK, qD, dn_NA.same (s := U) (U := U.calling g mk a) rfl qN⟩, fun U hU hW => ⟨rfl, by rw [hU], by rw [hU]; exact hPc, va_K.moved hW.alike hKc, hDc.weaken (fun _ _ _ _ => trivial), hNW.warm hW⟩⟩ rfl rfl hl.1 rfl (lv_room (Nat.le_of_ble_eq_true rfl)) dX11_init_144 ⟨Nat.le_of_ble_eq_true rfl, Nat.le_of_ble_eq_true rfl⟩) hS (fun q _ h => hFc q h) hFc (fun u t H1 locs ht hvm hu hB hz1 hk1 hS => ?_)
  obtain ⟨w_7, t_7, hI_7, hP1, hK1, hD1⟩ := at_X7_w hB
  rw [ht] at hP1
  have hK1 := va_K.moved hvm.symm hK1
  obtain ⟨hP, hD⟩ := dn_join hP hD hk1 hFc hP1 hD1
  have hK := hK.app hK1
  generalize H1 = H at hP hS ⊢
  have hP : va_P D vwCl ((h0, .inr (11, [.ref q5, .ref q16, .ref q27, .ref q42, .ref q53, .ref q68, .ref q87, .ref q106, .ref q121, .null])) :: (pl_6 ++ w_7)) H := hP
  have hD : va_D A ((h0, .inr (11, [.ref q5, .ref q16, .ref q27, .ref q42, .ref q53, .ref q68, .ref q87, .ref q106, .ref q121, .null])) :: (pl_6 ++ w_7)) := hD
  obtain ⟨pl_7, hpl_7⟩ : ∃ x, x = pl_6 ++ w_7 := ⟨_, rfl⟩
  rw [← hpl_7] at hP hD
  obtain ⟨ts_7, hts_7⟩ : ∃ x, x = ts_6 ++ t_7 := ⟨_, rfl⟩
  rw [← hts_7] at hK
  refine W.widen (k := 88) (n := 2292) (Nat.le_of_ble_eq_true rfl) (Nat.le_of_ble_eq_true rfl) ?_
  refine va_putF (D := D) (ci := 11) (v := .ref q132) (ty := .object "DayNames$Rates") (C := RX11) (T := TX11) (N := 10) hx hb hts hws tyX11 tyX11_ok nmX11 hown hK hP hD hS 0 rfl rfl 9 (by decide) (hts (.fieldLink RX11 85 "DayNames" "rates" "LDayNames$Rates;") (by decide +kernel)) (fun _ h9 => h9) rfl hin rfl (by decide +kernel) rfl rfl (Nat.le_of_ble_eq_true rfl) dX11_init_147 (fun H locs hP hD hS => ?_)
  have hP : va_P D vwCl ((h0, .inr (11, [.ref q5, .ref q16, .ref q27, .ref q42, .ref q53, .ref q68, .ref q87, .ref q106, .ref q121, .ref q132])) :: pl_7) H := hP
  have hD : va_D A ((h0, .inr (11, [.ref q5, .ref q16, .ref q27, .ref q42, .ref q53, .ref q68, .ref q87, .ref q106, .ref q121, .ref q132])) :: pl_7) := hD
  refine lv_aload_n hx hb dX11_init_150 rfl (lv_at hl 0 rfl) ?_
  refine va_get (C := RX11) (T := TX11) (N := 10) hx hb hts hws hown hK hP 0 rfl rfl 3 (by decide) (hts (.fieldLink RX11 35 "DayNames" "current" "LDayNames$Moment;") (by decide +kernel)) (fun _ h9 => h9) (v := .ref q42) rfl dX11_init_151 ?_
  refine lv_aload_n hx hb dX11_init_154 rfl (lv_at hl 0 rfl) ?_
  refine va_get (C := RX11) (T := TX11) (N := 10) hx hb hts hws hown hK hP 0 rfl rfl 1 (by decide) (hts (.fieldLink RX11 19 "DayNames" "told" "LDayNames$Town;") (by decide +kernel)) (fun _ h9 => h9) (v := .ref q16) rfl dX11_init_155 ?_
  subst hpl hts0 hpl_9 hts_9 hpl_10 hts_10 hpl_8 hts_8 hpl_3 hts_3 hpl_4 hts_4 hpl_5 hts_5 hpl_2 hts_2 hpl_0 hts_0 hpl_6 hts_6 hpl_7 hts_7
  obtain ⟨u, hu, huD, huz, d0, d3, d10, hPu, hKu, hIu, hAu⟩ := dn_uniC z hI_9 hI_10 hI_8 hI_3 hI_4 hI_5 hI_2 hI_0 hI_6 hI_7 hP hD hK
  obtain ⟨σ1, hbeg⟩ := dn_begin0
  clear hI_9 hI_10 hI_8 hI_3 hI_4 hI_5 hI_2 hI_0 hI_6 hI_7 hP hD hK
  subst huD
  subst huz
  obtain ⟨q0, hq1, hq2⟩ := (dn_hM hu dn_M10).at dn_s0
  rw [← d10, ← d3]
  refine va_callv (A0 := A) (A1 := dn_A u) (va_runV (As := [.ref (dn_a u 3)]) (rest := []) ⟨hx, hb, hml, hown, hts⟩ (c_X3_begin l u hu 10 3 dn_M10 dn_T3 dn_s0 ((), σ1) hbeg) (cwV 1 hts gX11_init_X3_begin rfl rfl rfl dn_hd_X3_begin ⟨Nat.le_of_ble_eq_true rfl, Nat.le_of_ble_eq_true rfl⟩) ⟨fun a U g mk q => ⟨q.1, q.2.calling g mk a⟩, va_recv (q := (RX3, TX3, 8)) hKu hPu rfl hq2, fun U hU hW => ⟨rfl, by rw [hU]; exact hPu, va_K.moved hW.alike hKu, (hZ.go (H1 := U.heap) hW.alike (fun a ha hn => by rw [hU]; exact hS.2.1 a ha hn)).nar hAu, hNW.1.warm hW, hIu⟩⟩ rfl rfl hl.1 rfl (lv_room (Nat.le_of_ble_eq_true rfl)) dX11_init_158 ⟨Nat.le_of_ble_eq_true rfl, Nat.le_of_ble_eq_true rfl⟩) hS (fun q _ h => hAu q h) hAu (fun x t H1 locs ht hvm hx0 hB hz1 hk1 hS => ?_)
  rw [hx0, ht] at hB
  exact W.vret hx hb hr (fun t9 ht9 hW => ⟨⟨(), rfl, trivial, u, hu, rfl, rfl, d0, σ1, hbeg, by rw [ht9]; exact hB, va_K.moved hW.alike hKu, hIu, hAu⟩, hS.F ht9⟩) hS.2.2 dX11_init_161
