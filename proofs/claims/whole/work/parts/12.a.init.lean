/-! constructors (written by wip/whole/gen_init.py) -/
def dn_at : List Nat → Nat → Nat
  | [], _ => 0
  | a :: _, 0 => a
  | _ :: l, k + 1 => dn_at l k
def dn_atc (d : ClassId) : List ClassId → Nat → ClassId
  | [], _ => d
  | a :: _, 0 => a
  | _ :: l, k + 1 => dn_atc d l k
def dn_NA (U : State) : Prop := dn_NW U ∧ va_AO "DayNames$Moment" U
theorem dn_NA.warm {s U : State} (h : dn_NA s) (hW : s.WarmedH U.vm) : dn_NA U := ⟨h.1.warm hW, va_AO.moved hW.alike h.2⟩
theorem dn_NA.same {s U : State} (hv : s.vm = U.vm) (h : dn_NA s) : dn_NA U := ⟨dn_NW.same hv h.1, va_AO.moved (by rw [hv]; exact Vm.Alike.refl U.vm) h.2⟩
def at_X9 (D : va_G) (A : Nat → Prop) (h0 : Nat) (t : State) : Prop := ∃ (q8 : Nat), ∃ (k8 : ClassId), va_P D vwCl [(h0, .inr (9, [.ref q8, .int 0])), (q8, .inl (k8, 200, .inl (fun _ => 0)))] t.heap ∧ va_K D vwCl [(k8, .int)] t ∧ va_D A [(h0, .inr (9, [.ref q8, .int 0])), (q8, .inl (k8, 200, .inl (fun _ => 0)))]
set_option maxHeartbeats 4000000 in
set_option maxRecDepth 100000 in
theorem c_X9_init (l : Launch) (D : va_G) (h0 : Nat) (sz : Nat) : Met l yX9_init wsX9_init ({ frames := 1, cells := 1, slots := 200, locals := 20 }) (va_Pc [.ref h0] (fun U => U.heap.size = sz ∧ va_P D vwCl [(h0, .inr (9, [.null, .int 0]))] U.heap ∧ va_K D vwCl [] U ∧ va_D (fun _ => True) [(h0, .inr (9, [.null, .int 0]))] ∧ dn_NA U)) (va_Qv (fun _ : Unit => True) (fun _ t => at_X9 D (va_A [(h0, .inr (9, [.null, .int 0]))] sz) h0  t) (va_A [(h0, .inr (9, [.null, .int 0]))] sz)) 1 200 (va_A [(h0, .inr (9, [.null, .int 0]))] sz) := by
  refine Met.ofW (cc := cX9_init) (maxL := 1) (ret := none) (by decide) rfl ?_
  intro p e s m args below meth c s₁ B hml hv
  obtain ⟨rfl, hsz, hP, hK, hD0, hNW⟩ := hv
  have hx := B.exec
  have hb := B.bytes
  have hr := B.returns
  have hts := atoms_spec (ws := wsX9_init) B.pre
  have hown : s.vm.findClass RX9 = some m.cls := findClass_of_methodNamed B.named
  have hlocks := B.notSynchronized
  have hin : meth.name = "<init>" := (name_of_methodNamed B.named B.method).1
  have hws : ∀ w ∈ u_ws RX9 TX9 2, w ∈ wsX9_init := by decide +kernel
  subst hsz
  have hD := hD0.self (sz := s.heap.size)
  generalize hAe : va_A [(h0, .inr (9, [.null, .int 0]))] s.heap.size = A at hD ⊢
  have hA : ∀ q : Nat, s.heap.size ≤ q → A q := fun q h => by rw [← hAe]; exact Or.inr h
  have hS : va_S A s.heap s.heap [] := va_S.rf
  have hP : va_P D vwCl [(h0, .inr (9, [.null, .int 0]))] s.heap := hP
  have hl := lv_entry ([.ref h0]) (n := 1) (Nat.le_of_ble_eq_true rfl)
  rw [lg_entry_eq]
  generalize (lg_sl ([.ref h0]) ++ List.replicate (1 - (lg_sl ([.ref h0])).length) Slot.unset).toArray = ls at hl ⊢
  have hl : lv_has ls 1 [(0, .ref h0)] := hl
  refine lv_aload_n hx hb dX9_init_0 rfl (lv_at hl 0 rfl) ?_
  refine W.objInit hx hb hown (hts (.methodLink RX9 3 objectInit) (by decide +kernel)) (hts (.instanceMethod objectInit) (by decide +kernel)) (hts _ (List.mem_of_getElem? (i := 3) rfl)) rfl (by rw [hml]; exact hl.1) rfl dX9_init_1 (Nat.le_of_ble_eq_true rfl) (Nat.le_of_ble_eq_true rfl) ?_
  refine W.eq (g2 := F0 m 4 ls []) rfl ?_
  refine lv_aload_n hx hb dX9_init_4 rfl (lv_at hl 0 rfl) ?_
  refine lv_sipush (v := 200) hx hb dX9_init_5 (by decide) ?_
  refine va_newa (atype := .int) (ty := .int) (N' := 200) (a0 := (200, .inl (fun _ => 0))) hx hb (hts (.arrayClass .int) (by decide +kernel)) rfl hK hP hD hS hA (fun _ => rfl) (by decide) (by decide) (by decide) (Nat.le_of_ble_eq_true rfl) (Nat.le_of_ble_eq_true rfl) dX9_init_8 (fun q8 k8 H hK hP hD hS => ?_)
  have hP : va_P D vwCl [(h0, .inr (9, [.null, .int 0])), (q8, .inl (k8, 200, .inl (fun _ => 0)))] H := hP
  have hD : va_D A [(h0, .inr (9, [.null, .int 0])), (q8, .inl (k8, 200, .inl (fun _ => 0)))] := hD
  have hK : va_K D vwCl [(k8, .int)] s := hK
  refine W.widen (k := 1) (n := 200) (Nat.le_of_ble_eq_true rfl) (Nat.le_of_ble_eq_true rfl) ?_
  refine va_putF (D := D) (ci := 9) (v := .ref q8) (ty := .array .int) (C := RX9) (T := TX9) (N := 2) hx hb hts hws tyX9 tyX9_ok nmX9 hown hK hP hD hS 0 rfl rfl 0 (by decide) (hts (.fieldLink RX9 9 "DayNames$Text" "letters" "[I") (by decide +kernel)) (fun _ h9 => h9) rfl hin rfl (by decide +kernel) rfl rfl (Nat.le_of_ble_eq_true rfl) dX9_init_10 (fun H locs hP hD hS => ?_)
  have hP : va_P D vwCl [(h0, .inr (9, [.ref q8, .int 0])), (q8, .inl (k8, 200, .inl (fun _ => 0)))] H := hP
  have hD : va_D A [(h0, .inr (9, [.ref q8, .int 0])), (q8, .inl (k8, 200, .inl (fun _ => 0)))] := hD
  have hP9 := hP.sub (ws' := [(h0, .inr (9, [.ref q8, .int 0])), (q8, .inl (k8, 200, .inl (fun _ => 0)))]) [0, 1] rfl
  have hD9 := hD.sub (ws' := [(h0, .inr (9, [.ref q8, .int 0])), (q8, .inl (k8, 200, .inl (fun _ => 0)))]) [0, 1] (by decide) rfl
  have hK9 := hK.sub (tys' := [(k8, .int)]) [0] rfl
  exact W.vret hx hb hr (fun t ht hW => ⟨⟨(), rfl, trivial, q8, k8, by rw [ht]; exact hP9, va_K.moved hW.alike hK9, hD9⟩, hS.F ht⟩) hS.2.2 dX9_init_13
def at_X10 (D : va_G) (A : Nat → Prop) (h0 : Nat) (t : State) : Prop := ∃ (q7 : Nat), ∃ (k7 : ClassId), ∃ (q15 : Nat), ∃ (k15 : ClassId), va_P D vwCl [(h0, .inr (10, [.ref q7, .ref q15, .int 0, .int 0, .int 1])), (q7, .inl (k7, 28, .inl (fun _ => 0))), (q15, .inl (k15, 30, .inl (fun _ => 0)))] t.heap ∧ va_K D vwCl [(k7, .int), (k15, .int)] t ∧ va_D A [(h0, .inr (10, [.ref q7, .ref q15, .int 0, .int 0, .int 1])), (q7, .inl (k7, 28, .inl (fun _ => 0))), (q15, .inl (k15, 30, .inl (fun _ => 0)))]
set_option maxHeartbeats 4000000 in
set_option maxRecDepth 100000 in
theorem c_X10_init (l : Launch) (D : va_G) (h0 : Nat) (sz : Nat) : Met l yX10_init wsX10_init ({ frames := 1, cells := 2, slots := 58, locals := 20 }) (va_Pc [.ref h0] (fun U => U.heap.size = sz ∧ va_P D vwCl [(h0, .inr (10, [.null, .null, .int 0, .int 0, .int 0]))] U.heap ∧ va_K D vwCl [] U ∧ va_D (fun _ => True) [(h0, .inr (10, [.null, .null, .int 0, .int 0, .int 0]))] ∧ dn_NA U)) (va_Qv (fun _ : Unit => True) (fun _ t => at_X10 D (va_A [(h0, .inr (10, [.null, .null, .int 0, .int 0, .int 0]))] sz) h0  t) (va_A [(h0, .inr (10, [.null, .null, .int 0, .int 0, .int 0]))] sz)) 2 58 (va_A [(h0, .inr (10, [.null, .null, .int 0, .int 0, .int 0]))] sz) := by
  refine Met.ofW (cc := cX10_init) (maxL := 1) (ret := none) (by decide) rfl ?_
  intro p e s m args below meth c s₁ B hml hv
  obtain ⟨rfl, hsz, hP, hK, hD0, hNW⟩ := hv
  have hx := B.exec
  have hb := B.bytes
  have hr := B.returns
  have hts := atoms_spec (ws := wsX10_init) B.pre
  have hown : s.vm.findClass RX10 = some m.cls := findClass_of_methodNamed B.named
  have hlocks := B.notSynchronized
  have hin : meth.name = "<init>" := (name_of_methodNamed B.named B.method).1
  have hws : ∀ w ∈ u_ws RX10 TX10 5, w ∈ wsX10_init := by decide +kernel
  subst hsz
  have hD := hD0.self (sz := s.heap.size)
  generalize hAe : va_A [(h0, .inr (10, [.null, .null, .int 0, .int 0, .int 0]))] s.heap.size = A at hD ⊢
  have hA : ∀ q : Nat, s.heap.size ≤ q → A q := fun q h => by rw [← hAe]; exact Or.inr h
  have hS : va_S A s.heap s.heap [] := va_S.rf
  have hP : va_P D vwCl [(h0, .inr (10, [.null, .null, .int 0, .int 0, .int 0]))] s.heap := hP
  have hl := lv_entry ([.ref h0]) (n := 1) (Nat.le_of_ble_eq_true rfl)
  rw [lg_entry_eq]
  generalize (lg_sl ([.ref h0]) ++ List.replicate (1 - (lg_sl ([.ref h0])).length) Slot.unset).toArray = ls at hl ⊢
  have hl : lv_has ls 1 [(0, .ref h0)] := hl
  refine lv_aload_n hx hb dX10_init_0 rfl (lv_at hl 0 rfl) ?_
  refine W.objInit hx hb hown (hts (.methodLink RX10 3 objectInit) (by decide +kernel)) (hts (.instanceMethod objectInit) (by decide +kernel)) (hts _ (List.mem_of_getElem? (i := 3) rfl)) rfl (by rw [hml]; exact hl.1) rfl dX10_init_1 (Nat.le_of_ble_eq_true rfl) (Nat.le_of_ble_eq_true rfl) ?_
  refine W.eq (g2 := F0 m 4 ls []) rfl ?_
  refine lv_aload_n hx hb dX10_init_4 rfl (lv_at hl 0 rfl) ?_
  refine lv_bipush (v := 28) hx hb dX10_init_5 (by decide) ?_
  refine va_newa (atype := .int) (ty := .int) (N' := 28) (a0 := (28, .inl (fun _ => 0))) hx hb (hts (.arrayClass .int) (by decide +kernel)) rfl hK hP hD hS hA (fun _ => rfl) (by decide) (by decide) (by decide) (Nat.le_of_ble_eq_true rfl) (Nat.le_of_ble_eq_true rfl) dX10_init_7 (fun q7 k7 H hK hP hD hS => ?_)
  have hP : va_P D vwCl [(h0, .inr (10, [.null, .null, .int 0, .int 0, .int 0])), (q7, .inl (k7, 28, .inl (fun _ => 0)))] H := hP
  have hD : va_D A [(h0, .inr (10, [.null, .null, .int 0, .int 0, .int 0])), (q7, .inl (k7, 28, .inl (fun _ => 0)))] := hD
  have hK : va_K D vwCl [(k7, .int)] s := hK
  refine W.widen (k := 1) (n := 28) (Nat.le_of_ble_eq_true rfl) (Nat.le_of_ble_eq_true rfl) ?_
  refine va_putF (D := D) (ci := 10) (v := .ref q7) (ty := .array .int) (C := RX10) (T := TX10) (N := 5) hx hb hts hws tyX10 tyX10_ok nmX10 hown hK hP hD hS 0 rfl rfl 0 (by decide) (hts (.fieldLink RX10 11 "DayNames$Town" "bidderFacts" "[I") (by decide +kernel)) (fun _ h9 => h9) rfl hin rfl (by decide +kernel) rfl rfl (Nat.le_of_ble_eq_true rfl) dX10_init_9 (fun H locs hP hD hS => ?_)
  have hP : va_P D vwCl [(h0, .inr (10, [.ref q7, .null, .int 0, .int 0, .int 0])), (q7, .inl (k7, 28, .inl (fun _ => 0)))] H := hP
  have hD : va_D A [(h0, .inr (10, [.ref q7, .null, .int 0, .int 0, .int 0])), (q7, .inl (k7, 28, .inl (fun _ => 0)))] := hD
  refine lv_aload_n hx hb dX10_init_12 rfl (lv_at hl 0 rfl) ?_
  refine lv_bipush (v := 30) hx hb dX10_init_13 (by decide) ?_
  refine va_newa (atype := .int) (ty := .int) (N' := 30) (a0 := (30, .inl (fun _ => 0))) hx hb (hts (.arrayClass .int) (by decide +kernel)) rfl hK hP hD hS hA (fun _ => rfl) (by decide) (by decide) (by decide) (Nat.le_of_ble_eq_true rfl) (Nat.le_of_ble_eq_true rfl) dX10_init_15 (fun q15 k15 H hK hP hD hS => ?_)
  have hP : va_P D vwCl [(h0, .inr (10, [.ref q7, .null, .int 0, .int 0, .int 0])), (q7, .inl (k7, 28, .inl (fun _ => 0))), (q15, .inl (k15, 30, .inl (fun _ => 0)))] H := hP
  have hD : va_D A [(h0, .inr (10, [.ref q7, .null, .int 0, .int 0, .int 0])), (q7, .inl (k7, 28, .inl (fun _ => 0))), (q15, .inl (k15, 30, .inl (fun _ => 0)))] := hD
  have hK : va_K D vwCl [(k7, .int), (k15, .int)] s := hK
  refine W.widen (k := 2) (n := 58) (Nat.le_of_ble_eq_true rfl) (Nat.le_of_ble_eq_true rfl) ?_
  refine va_putF (D := D) (ci := 10) (v := .ref q15) (ty := .array .int) (C := RX10) (T := TX10) (N := 5) hx hb hts hws tyX10 tyX10_ok nmX10 hown hK hP hD hS 0 rfl rfl 1 (by decide) (hts (.fieldLink RX10 15 "DayNames$Town" "debtFacts" "[I") (by decide +kernel)) (fun _ h9 => h9) rfl hin rfl (by decide +kernel) rfl rfl (Nat.le_of_ble_eq_true rfl) dX10_init_17 (fun H locs hP hD hS => ?_)
  have hP : va_P D vwCl [(h0, .inr (10, [.ref q7, .ref q15, .int 0, .int 0, .int 0])), (q7, .inl (k7, 28, .inl (fun _ => 0))), (q15, .inl (k15, 30, .inl (fun _ => 0)))] H := hP
  have hD : va_D A [(h0, .inr (10, [.ref q7, .ref q15, .int 0, .int 0, .int 0])), (q7, .inl (k7, 28, .inl (fun _ => 0))), (q15, .inl (k15, 30, .inl (fun _ => 0)))] := hD
  refine lv_aload_n hx hb dX10_init_20 rfl (lv_at hl 0 rfl) ?_
  refine lv_iconst (v := 1) hx hb dX10_init_21 (by decide) ?_
  refine va_put (D := D) (ci := 10) (v := .int 1) (ty := .int) (C := RX10) (T := TX10) (N := 5) hx hb hts hws tyX10 tyX10_ok nmX10 hown hK hP hD hS 0 rfl rfl 4 (by decide) (hts (.fieldLink RX10 18 "DayNames$Town" "bar" "I") (by decide +kernel)) (fun _ h9 => h9) rfl (by decide +kernel) rfl rfl (Nat.le_of_ble_eq_true rfl) dX10_init_22 (fun H locs hP hD hS => ?_)
  have hP : va_P D vwCl [(h0, .inr (10, [.ref q7, .ref q15, .int 0, .int 0, .int 1])), (q7, .inl (k7, 28, .inl (fun _ => 0))), (q15, .inl (k15, 30, .inl (fun _ => 0)))] H := hP
  have hD : va_D A [(h0, .inr (10, [.ref q7, .ref q15, .int 0, .int 0, .int 1])), (q7, .inl (k7, 28, .inl (fun _ => 0))), (q15, .inl (k15, 30, .inl (fun _ => 0)))] := hD
  have hP9 := hP.sub (ws' := [(h0, .inr (10, [.ref q7, .ref q15, .int 0, .int 0, .int 1])), (q7, .inl (k7, 28, .inl (fun _ => 0))), (q15, .inl (k15, 30, .inl (fun _ => 0)))]) [0, 1, 2] rfl
  have hD9 := hD.sub (ws' := [(h0, .inr (10, [.ref q7, .ref q15, .int 0, .int 0, .int 1])), (q7, .inl (k7, 28, .inl (fun _ => 0))), (q15, .inl (k15, 30, .inl (fun _ => 0)))]) [0, 1, 2] (by decide) rfl
  have hK9 := hK.sub (tys' := [(k7, .int), (k15, .int)]) [0, 1] rfl
  exact W.vret hx hb hr (fun t ht hW => ⟨⟨(), rfl, trivial, q7, k7, q15, k15, by rw [ht]; exact hP9, va_K.moved hW.alike hK9, hD9⟩, hS.F ht⟩) hS.2.2 dX10_init_25
def at_X3 (D : va_G) (A : Nat → Prop) (h0 : Nat) (t : State) : Prop := ∃ (q7 : Nat), ∃ (k7 : ClassId), ∃ (q14 : Nat), ∃ (k14 : ClassId), ∃ (q22 : Nat), ∃ (k22 : ClassId), va_P D vwCl [(h0, .inr (3, [.ref q7, .ref q14, .ref q22, .int 0, .int 0, .int 0, .int 0, .int 0])), (q7, .inl (k7, 100, .inl (fun _ => 0))), (q14, .inl (k14, 4, .inl (fun _ => 0))), (q22, .inl (k22, 6, .inl (fun _ => 0)))] t.heap ∧ va_K D vwCl [(k7, .int), (k14, .int), (k22, .int)] t ∧ va_D A [(h0, .inr (3, [.ref q7, .ref q14, .ref q22, .int 0, .int 0, .int 0, .int 0, .int 0])), (q7, .inl (k7, 100, .inl (fun _ => 0))), (q14, .inl (k14, 4, .inl (fun _ => 0))), (q22, .inl (k22, 6, .inl (fun _ => 0)))]
set_option maxHeartbeats 4000000 in
set_option maxRecDepth 100000 in
theorem c_X3_init (l : Launch) (D : va_G) (h0 : Nat) (sz : Nat) : Met l yX3_init wsX3_init ({ frames := 1, cells := 3, slots := 110, locals := 20 }) (va_Pc [.ref h0] (fun U => U.heap.size = sz ∧ va_P D vwCl [(h0, .inr (3, [.null, .null, .null, .int 0, .int 0, .int 0, .int 0, .int 0]))] U.heap ∧ va_K D vwCl [] U ∧ va_D (fun _ => True) [(h0, .inr (3, [.null, .null, .null, .int 0, .int 0, .int 0, .int 0, .int 0]))] ∧ dn_NA U)) (va_Qv (fun _ : Unit => True) (fun _ t => at_X3 D (va_A [(h0, .inr (3, [.null, .null, .null, .int 0, .int 0, .int 0, .int 0, .int 0]))] sz) h0  t) (va_A [(h0, .inr (3, [.null, .null, .null, .int 0, .int 0, .int 0, .int 0, .int 0]))] sz)) 3 110 (va_A [(h0, .inr (3, [.null, .null, .null, .int 0, .int 0, .int 0, .int 0, .int 0]))] sz) := by
  refine Met.ofW (cc := cX3_init) (maxL := 1) (ret := none) (by decide) rfl ?_
  intro p e s m args below meth c s₁ B hml hv
  obtain ⟨rfl, hsz, hP, hK, hD0, hNW⟩ := hv
  have hx := B.exec
  have hb := B.bytes
  have hr := B.returns
  have hts := atoms_spec (ws := wsX3_init) B.pre
  have hown : s.vm.findClass RX3 = some m.cls := findClass_of_methodNamed B.named
  have hlocks := B.notSynchronized
  have hin : meth.name = "<init>" := (name_of_methodNamed B.named B.method).1
  have hws : ∀ w ∈ u_ws RX3 TX3 8, w ∈ wsX3_init := by decide +kernel
  subst hsz
  have hD := hD0.self (sz := s.heap.size)
  generalize hAe : va_A [(h0, .inr (3, [.null, .null, .null, .int 0, .int 0, .int 0, .int 0, .int 0]))] s.heap.size = A at hD ⊢
  have hA : ∀ q : Nat, s.heap.size ≤ q → A q := fun q h => by rw [← hAe]; exact Or.inr h
  have hS : va_S A s.heap s.heap [] := va_S.rf
  have hP : va_P D vwCl [(h0, .inr (3, [.null, .null, .null, .int 0, .int 0, .int 0, .int 0, .int 0]))] s.heap := hP
  have hl := lv_entry ([.ref h0]) (n := 1) (Nat.le_of_ble_eq_true rfl)
  rw [lg_entry_eq]
  generalize (lg_sl ([.ref h0]) ++ List.replicate (1 - (lg_sl ([.ref h0])).length) Slot.unset).toArray = ls at hl ⊢
  have hl : lv_has ls 1 [(0, .ref h0)] := hl
  refine lv_aload_n hx hb dX3_init_0 rfl (lv_at hl 0 rfl) ?_
  refine W.objInit hx hb hown (hts (.methodLink RX3 3 objectInit) (by decide +kernel)) (hts (.instanceMethod objectInit) (by decide +kernel)) (hts _ (List.mem_of_getElem? (i := 3) rfl)) rfl (by rw [hml]; exact hl.1) rfl dX3_init_1 (Nat.le_of_ble_eq_true rfl) (Nat.le_of_ble_eq_true rfl) ?_
  refine W.eq (g2 := F0 m 4 ls []) rfl ?_
  refine lv_aload_n hx hb dX3_init_4 rfl (lv_at hl 0 rfl) ?_
  refine lv_bipush (v := 100) hx hb dX3_init_5 (by decide) ?_
  refine va_newa (atype := .int) (ty := .int) (N' := 100) (a0 := (100, .inl (fun _ => 0))) hx hb (hts (.arrayClass .int) (by decide +kernel)) rfl hK hP hD hS hA (fun _ => rfl) (by decide) (by decide) (by decide) (Nat.le_of_ble_eq_true rfl) (Nat.le_of_ble_eq_true rfl) dX3_init_7 (fun q7 k7 H hK hP hD hS => ?_)
  have hP : va_P D vwCl [(h0, .inr (3, [.null, .null, .null, .int 0, .int 0, .int 0, .int 0, .int 0])), (q7, .inl (k7, 100, .inl (fun _ => 0)))] H := hP
  have hD : va_D A [(h0, .inr (3, [.null, .null, .null, .int 0, .int 0, .int 0, .int 0, .int 0])), (q7, .inl (k7, 100, .inl (fun _ => 0)))] := hD
  have hK : va_K D vwCl [(k7, .int)] s := hK
  refine W.widen (k := 1) (n := 100) (Nat.le_of_ble_eq_true rfl) (Nat.le_of_ble_eq_true rfl) ?_
  refine va_putF (D := D) (ci := 3) (v := .ref q7) (ty := .array .int) (C := RX3) (T := TX3) (N := 8) hx hb hts hws tyX3 tyX3_ok nmX3 hown hK hP hD hS 0 rfl rfl 0 (by decide) (hts (.fieldLink RX3 9 "DayNames$Moment" "names" "[I") (by decide +kernel)) (fun _ h9 => h9) rfl hin rfl (by decide +kernel) rfl rfl (Nat.le_of_ble_eq_true rfl) dX3_init_9 (fun H locs hP hD hS => ?_)
  have hP : va_P D vwCl [(h0, .inr (3, [.ref q7, .null, .null, .int 0, .int 0, .int 0, .int 0, .int 0])), (q7, .inl (k7, 100, .inl (fun _ => 0)))] H := hP
  have hD : va_D A [(h0, .inr (3, [.ref q7, .null, .null, .int 0, .int 0, .int 0, .int 0, .int 0])), (q7, .inl (k7, 100, .inl (fun _ => 0)))] := hD
  refine lv_aload_n hx hb dX3_init_12 rfl (lv_at hl 0 rfl) ?_
  refine lv_iconst (v := 4) hx hb dX3_init_13 (by decide) ?_
  refine va_newa (atype := .int) (ty := .int) (N' := 4) (a0 := (4, .inl (fun _ => 0))) hx hb (hts (.arrayClass .int) (by decide +kernel)) rfl hK hP hD hS hA (fun _ => rfl) (by decide) (by decide) (by decide) (Nat.le_of_ble_eq_true rfl) (Nat.le_of_ble_eq_true rfl) dX3_init_14 (fun q14 k14 H hK hP hD hS => ?_)
  have hP : va_P D vwCl [(h0, .inr (3, [.ref q7, .null, .null, .int 0, .int 0, .int 0, .int 0, .int 0])), (q7, .inl (k7, 100, .inl (fun _ => 0))), (q14, .inl (k14, 4, .inl (fun _ => 0)))] H := hP
  have hD : va_D A [(h0, .inr (3, [.ref q7, .null, .null, .int 0, .int 0, .int 0, .int 0, .int 0])), (q7, .inl (k7, 100, .inl (fun _ => 0))), (q14, .inl (k14, 4, .inl (fun _ => 0)))] := hD
  have hK : va_K D vwCl [(k7, .int), (k14, .int)] s := hK
  refine W.widen (k := 2) (n := 104) (Nat.le_of_ble_eq_true rfl) (Nat.le_of_ble_eq_true rfl) ?_
  refine va_putF (D := D) (ci := 3) (v := .ref q14) (ty := .array .int) (C := RX3) (T := TX3) (N := 8) hx hb hts hws tyX3 tyX3_ok nmX3 hown hK hP hD hS 0 rfl rfl 1 (by decide) (hts (.fieldLink RX3 15 "DayNames$Moment" "purses" "[I") (by decide +kernel)) (fun _ h9 => h9) rfl hin rfl (by decide +kernel) rfl rfl (Nat.le_of_ble_eq_true rfl) dX3_init_16 (fun H locs hP hD hS => ?_)
  have hP : va_P D vwCl [(h0, .inr (3, [.ref q7, .ref q14, .null, .int 0, .int 0, .int 0, .int 0, .int 0])), (q7, .inl (k7, 100, .inl (fun _ => 0))), (q14, .inl (k14, 4, .inl (fun _ => 0)))] H := hP
  have hD : va_D A [(h0, .inr (3, [.ref q7, .ref q14, .null, .int 0, .int 0, .int 0, .int 0, .int 0])), (q7, .inl (k7, 100, .inl (fun _ => 0))), (q14, .inl (k14, 4, .inl (fun _ => 0)))] := hD
  refine lv_aload_n hx hb dX3_init_19 rfl (lv_at hl 0 rfl) ?_
  refine lv_bipush (v := 6) hx hb dX3_init_20 (by decide) ?_
  refine va_newa (atype := .int) (ty := .int) (N' := 6) (a0 := (6, .inl (fun _ => 0))) hx hb (hts (.arrayClass .int) (by decide +kernel)) rfl hK hP hD hS hA (fun _ => rfl) (by decide) (by decide) (by decide) (Nat.le_of_ble_eq_true rfl) (Nat.le_of_ble_eq_true rfl) dX3_init_22 (fun q22 k22 H hK hP hD hS => ?_)
  have hP : va_P D vwCl [(h0, .inr (3, [.ref q7, .ref q14, .null, .int 0, .int 0, .int 0, .int 0, .int 0])), (q7, .inl (k7, 100, .inl (fun _ => 0))), (q14, .inl (k14, 4, .inl (fun _ => 0))), (q22, .inl (k22, 6, .inl (fun _ => 0)))] H := hP
  have hD : va_D A [(h0, .inr (3, [.ref q7, .ref q14, .null, .int 0, .int 0, .int 0, .int 0, .int 0])), (q7, .inl (k7, 100, .inl (fun _ => 0))), (q14, .inl (k14, 4, .inl (fun _ => 0))), (q22, .inl (k22, 6, .inl (fun _ => 0)))] := hD
  have hK : va_K D vwCl [(k7, .int), (k14, .int), (k22, .int)] s := hK
  refine W.widen (k := 3) (n := 110) (Nat.le_of_ble_eq_true rfl) (Nat.le_of_ble_eq_true rfl) ?_
  refine va_putF (D := D) (ci := 3) (v := .ref q22) (ty := .array .int) (C := RX3) (T := TX3) (N := 8) hx hb hts hws tyX3 tyX3_ok nmX3 hown hK hP hD hS 0 rfl rfl 2 (by decide) (hts (.fieldLink RX3 18 "DayNames$Moment" "debts" "[I") (by decide +kernel)) (fun _ h9 => h9) rfl hin rfl (by decide +kernel) rfl rfl (Nat.le_of_ble_eq_true rfl) dX3_init_24 (fun H locs hP hD hS => ?_)
  have hP : va_P D vwCl [(h0, .inr (3, [.ref q7, .ref q14, .ref q22, .int 0, .int 0, .int 0, .int 0, .int 0])), (q7, .inl (k7, 100, .inl (fun _ => 0))), (q14, .inl (k14, 4, .inl (fun _ => 0))), (q22, .inl (k22, 6, .inl (fun _ => 0)))] H := hP
  have hD : va_D A [(h0, .inr (3, [.ref q7, .ref q14, .ref q22, .int 0, .int 0, .int 0, .int 0, .int 0])), (q7, .inl (k7, 100, .inl (fun _ => 0))), (q14, .inl (k14, 4, .inl (fun _ => 0))), (q22, .inl (k22, 6, .inl (fun _ => 0)))] := hD
  have hP9 := hP.sub (ws' := [(h0, .inr (3, [.ref q7, .ref q14, .ref q22, .int 0, .int 0, .int 0, .int 0, .int 0])), (q7, .inl (k7, 100, .inl (fun _ => 0))), (q14, .inl (k14, 4, .inl (fun _ => 0))), (q22, .inl (k22, 6, .inl (fun _ => 0)))]) [0, 1, 2, 3] rfl
  have hD9 := hD.sub (ws' := [(h0, .inr (3, [.ref q7, .ref q14, .ref q22, .int 0, .int 0, .int 0, .int 0, .int 0])), (q7, .inl (k7, 100, .inl (fun _ => 0))), (q14, .inl (k14, 4, .inl (fun _ => 0))), (q22, .inl (k22, 6, .inl (fun _ => 0)))]) [0, 1, 2, 3] (by decide) rfl
  have hK9 := hK.sub (tys' := [(k7, .int), (k14, .int), (k22, .int)]) [0, 1, 2] rfl
  exact W.vret hx hb hr (fun t ht hW => ⟨⟨(), rfl, trivial, q7, k7, q14, k14, q22, k22, by rw [ht]; exact hP9, va_K.moved hW.alike hK9, hD9⟩, hS.F ht⟩) hS.2.2 dX3_init_27
def at_X1 (D : va_G) (A : Nat → Prop) (h0 : Nat) (t : State) : Prop := ∃ (q6 : Nat), ∃ (k6 : ClassId), ∃ (q13 : Nat), ∃ (k13 : ClassId), va_P D vwCl [(h0, .inr (1, [.ref q6, .ref q13])), (q6, .inl (k6, 5, .inl (fun _ => 0))), (q13, .inl (k13, 5, .inl (fun _ => 0)))] t.heap ∧ va_K D vwCl [(k6, .int), (k13, .int)] t ∧ va_D A [(h0, .inr (1, [.ref q6, .ref q13])), (q6, .inl (k6, 5, .inl (fun _ => 0))), (q13, .inl (k13, 5, .inl (fun _ => 0)))]
set_option maxHeartbeats 4000000 in
set_option maxRecDepth 100000 in
theorem c_X1_init (l : Launch) (D : va_G) (h0 : Nat) (sz : Nat) : Met l yX1_init wsX1_init ({ frames := 1, cells := 2, slots := 10, locals := 20 }) (va_Pc [.ref h0] (fun U => U.heap.size = sz ∧ va_P D vwCl [(h0, .inr (1, [.null, .null]))] U.heap ∧ va_K D vwCl [] U ∧ va_D (fun _ => True) [(h0, .inr (1, [.null, .null]))] ∧ dn_NA U)) (va_Qv (fun _ : Unit => True) (fun _ t => at_X1 D (va_A [(h0, .inr (1, [.null, .null]))] sz) h0  t) (va_A [(h0, .inr (1, [.null, .null]))] sz)) 2 10 (va_A [(h0, .inr (1, [.null, .null]))] sz) := by
  refine Met.ofW (cc := cX1_init) (maxL := 1) (ret := none) (by decide) rfl ?_
  intro p e s m args below meth c s₁ B hml hv
  obtain ⟨rfl, hsz, hP, hK, hD0, hNW⟩ := hv
  have hx := B.exec
  have hb := B.bytes
  have hr := B.returns
  have hts := atoms_spec (ws := wsX1_init) B.pre
  have hown : s.vm.findClass RX1 = some m.cls := findClass_of_methodNamed B.named
  have hlocks := B.notSynchronized
  have hin : meth.name = "<init>" := (name_of_methodNamed B.named B.method).1
  have hws : ∀ w ∈ u_ws RX1 TX1 2, w ∈ wsX1_init := by decide +kernel
  subst hsz
  have hD := hD0.self (sz := s.heap.size)
  generalize hAe : va_A [(h0, .inr (1, [.null, .null]))] s.heap.size = A at hD ⊢
  have hA : ∀ q : Nat, s.heap.size ≤ q → A q := fun q h => by rw [← hAe]; exact Or.inr h
  have hS : va_S A s.heap s.heap [] := va_S.rf
  have hP : va_P D vwCl [(h0, .inr (1, [.null, .null]))] s.heap := hP
  have hl := lv_entry ([.ref h0]) (n := 1) (Nat.le_of_ble_eq_true rfl)
  rw [lg_entry_eq]
  generalize (lg_sl ([.ref h0]) ++ List.replicate (1 - (lg_sl ([.ref h0])).length) Slot.unset).toArray = ls at hl ⊢
  have hl : lv_has ls 1 [(0, .ref h0)] := hl
  refine lv_aload_n hx hb dX1_init_0 rfl (lv_at hl 0 rfl) ?_
  refine W.objInit hx hb hown (hts (.methodLink RX1 3 objectInit) (by decide +kernel)) (hts (.instanceMethod objectInit) (by decide +kernel)) (hts _ (List.mem_of_getElem? (i := 3) rfl)) rfl (by rw [hml]; exact hl.1) rfl dX1_init_1 (Nat.le_of_ble_eq_true rfl) (Nat.le_of_ble_eq_true rfl) ?_
  refine W.eq (g2 := F0 m 4 ls []) rfl ?_
  refine lv_aload_n hx hb dX1_init_4 rfl (lv_at hl 0 rfl) ?_
  refine lv_iconst (v := 5) hx hb dX1_init_5 (by decide) ?_
  refine va_newa (atype := .int) (ty := .int) (N' := 5) (a0 := (5, .inl (fun _ => 0))) hx hb (hts (.arrayClass .int) (by decide +kernel)) rfl hK hP hD hS hA (fun _ => rfl) (by decide) (by decide) (by decide) (Nat.le_of_ble_eq_true rfl) (Nat.le_of_ble_eq_true rfl) dX1_init_6 (fun q6 k6 H hK hP hD hS => ?_)
  have hP : va_P D vwCl [(h0, .inr (1, [.null, .null])), (q6, .inl (k6, 5, .inl (fun _ => 0)))] H := hP
  have hD : va_D A [(h0, .inr (1, [.null, .null])), (q6, .inl (k6, 5, .inl (fun _ => 0)))] := hD
  have hK : va_K D vwCl [(k6, .int)] s := hK
  refine W.widen (k := 1) (n := 5) (Nat.le_of_ble_eq_true rfl) (Nat.le_of_ble_eq_true rfl) ?_
  refine va_putF (D := D) (ci := 1) (v := .ref q6) (ty := .array .int) (C := RX1) (T := TX1) (N := 2) hx hb hts hws tyX1 tyX1_ok nmX1 hown hK hP hD hS 0 rfl rfl 0 (by decide) (hts (.fieldLink RX1 9 "DayNames$Bids" "names" "[I") (by decide +kernel)) (fun _ h9 => h9) rfl hin rfl (by decide +kernel) rfl rfl (Nat.le_of_ble_eq_true rfl) dX1_init_8 (fun H locs hP hD hS => ?_)
  have hP : va_P D vwCl [(h0, .inr (1, [.ref q6, .null])), (q6, .inl (k6, 5, .inl (fun _ => 0)))] H := hP
  have hD : va_D A [(h0, .inr (1, [.ref q6, .null])), (q6, .inl (k6, 5, .inl (fun _ => 0)))] := hD
  refine lv_aload_n hx hb dX1_init_11 rfl (lv_at hl 0 rfl) ?_
  refine lv_iconst (v := 5) hx hb dX1_init_12 (by decide) ?_
  refine va_newa (atype := .int) (ty := .int) (N' := 5) (a0 := (5, .inl (fun _ => 0))) hx hb (hts (.arrayClass .int) (by decide +kernel)) rfl hK hP hD hS hA (fun _ => rfl) (by decide) (by decide) (by decide) (Nat.le_of_ble_eq_true rfl) (Nat.le_of_ble_eq_true rfl) dX1_init_13 (fun q13 k13 H hK hP hD hS => ?_)
  have hP : va_P D vwCl [(h0, .inr (1, [.ref q6, .null])), (q6, .inl (k6, 5, .inl (fun _ => 0))), (q13, .inl (k13, 5, .inl (fun _ => 0)))] H := hP
  have hD : va_D A [(h0, .inr (1, [.ref q6, .null])), (q6, .inl (k6, 5, .inl (fun _ => 0))), (q13, .inl (k13, 5, .inl (fun _ => 0)))] := hD
  have hK : va_K D vwCl [(k6, .int), (k13, .int)] s := hK
  refine W.widen (k := 2) (n := 10) (Nat.le_of_ble_eq_true rfl) (Nat.le_of_ble_eq_true rfl) ?_
  refine va_putF (D := D) (ci := 1) (v := .ref q13) (ty := .array .int) (C := RX1) (T := TX1) (N := 2) hx hb hts hws tyX1 tyX1_ok nmX1 hown hK hP hD hS 0 rfl rfl 1 (by decide) (hts (.fieldLink RX1 15 "DayNames$Bids" "coins" "[I") (by decide +kernel)) (fun _ h9 => h9) rfl hin rfl (by decide +kernel) rfl rfl (Nat.le_of_ble_eq_true rfl) dX1_init_15 (fun H locs hP hD hS => ?_)
  have hP : va_P D vwCl [(h0, .inr (1, [.ref q6, .ref q13])), (q6, .inl (k6, 5, .inl (fun _ => 0))), (q13, .inl (k13, 5, .inl (fun _ => 0)))] H := hP
  have hD : va_D A [(h0, .inr (1, [.ref q6, .ref q13])), (q6, .inl (k6, 5, .inl (fun _ => 0))), (q13, .inl (k13, 5, .inl (fun _ => 0)))] := hD
  have hP9 := hP.sub (ws' := [(h0, .inr (1, [.ref q6, .ref q13])), (q6, .inl (k6, 5, .inl (fun _ => 0))), (q13, .inl (k13, 5, .inl (fun _ => 0)))]) [0, 1, 2] rfl
  have hD9 := hD.sub (ws' := [(h0, .inr (1, [.ref q6, .ref q13])), (q6, .inl (k6, 5, .inl (fun _ => 0))), (q13, .inl (k13, 5, .inl (fun _ => 0)))]) [0, 1, 2] (by decide) rfl
  have hK9 := hK.sub (tys' := [(k6, .int), (k13, .int)]) [0, 1] rfl
  exact W.vret hx hb hr (fun t ht hW => ⟨⟨(), rfl, trivial, q6, k6, q13, k13, by rw [ht]; exact hP9, va_K.moved hW.alike hK9, hD9⟩, hS.F ht⟩) hS.2.2 dX1_init_18
def at_X7 (D : va_G) (A : Nat → Prop) (h0 : Nat) (a1 a2 : Nat) (t : State) : Prop := va_P D vwCl [(h0, .inr (7, [.ref a1, .ref a2, .long 0]))] t.heap ∧ va_K D vwCl [] t ∧ va_D A [(h0, .inr (7, [.ref a1, .ref a2, .long 0]))]
set_option maxHeartbeats 4000000 in
set_option maxRecDepth 100000 in
theorem c_X7_init (l : Launch) (D : va_G) (h0 : Nat) (sz : Nat) (a1 a2 : Nat) : Met l yX7_init wsX7_init ({ frames := 1, cells := 0, slots := 0, locals := 20 }) (va_Pc [.ref h0, .ref a1, .ref a2] (fun U => U.heap.size = sz ∧ va_P D vwCl [(h0, .inr (7, [.null, .null, .long 0]))] U.heap ∧ va_K D vwCl [] U ∧ va_D (fun _ => True) [(h0, .inr (7, [.null, .null, .long 0]))] ∧ dn_NA U)) (va_Qv (fun _ : Unit => True) (fun _ t => at_X7 D (va_A [(h0, .inr (7, [.null, .null, .long 0]))] sz) h0 a1 a2 t) (va_A [(h0, .inr (7, [.null, .null, .long 0]))] sz)) 0 0 (va_A [(h0, .inr (7, [.null, .null, .long 0]))] sz) := by
  refine Met.ofW (cc := cX7_init) (maxL := 3) (ret := none) (by decide) rfl ?_
  intro p e s m args below meth c s₁ B hml hv
  obtain ⟨rfl, hsz, hP, hK, hD0, hNW⟩ := hv
  have hx := B.exec
  have hb := B.bytes
  have hr := B.returns
  have hts := atoms_spec (ws := wsX7_init) B.pre
  have hown : s.vm.findClass RX7 = some m.cls := findClass_of_methodNamed B.named
  have hlocks := B.notSynchronized
  have hin : meth.name = "<init>" := (name_of_methodNamed B.named B.method).1
  have hws : ∀ w ∈ u_ws RX7 TX7 3, w ∈ wsX7_init := by decide +kernel
  subst hsz
  have hD := hD0.self (sz := s.heap.size)
  generalize hAe : va_A [(h0, .inr (7, [.null, .null, .long 0]))] s.heap.size = A at hD ⊢
  have hA : ∀ q : Nat, s.heap.size ≤ q → A q := fun q h => by rw [← hAe]; exact Or.inr h
  have hS : va_S A s.heap s.heap [] := va_S.rf
  have hP : va_P D vwCl [(h0, .inr (7, [.null, .null, .long 0]))] s.heap := hP
  have hl := lv_entry ([.ref h0, .ref a1, .ref a2]) (n := 3) (Nat.le_of_ble_eq_true rfl)
  rw [lg_entry_eq]
  generalize (lg_sl ([.ref h0, .ref a1, .ref a2]) ++ List.replicate (3 - (lg_sl ([.ref h0, .ref a1, .ref a2])).length) Slot.unset).toArray = ls at hl ⊢
  have hl : lv_has ls 3 [(0, .ref h0), (1, .ref a1), (2, .ref a2)] := hl
  refine lv_aload_n hx hb dX7_init_0 rfl (lv_at hl 0 rfl) ?_
  refine W.objInit hx hb hown (hts (.methodLink RX7 3 objectInit) (by decide +kernel)) (hts (.instanceMethod objectInit) (by decide +kernel)) (hts _ (List.mem_of_getElem? (i := 3) rfl)) rfl (by rw [hml]; exact hl.1) rfl dX7_init_1 (Nat.le_of_ble_eq_true rfl) (Nat.le_of_ble_eq_true rfl) ?_
  refine W.eq (g2 := F0 m 4 ls []) rfl ?_
  refine lv_aload_n hx hb dX7_init_4 rfl (lv_at hl 0 rfl) ?_
  refine lv_aload_n hx hb dX7_init_5 rfl (lv_at hl 1 rfl) ?_
  refine va_putF (D := D) (ci := 7) (v := .ref a1) (ty := .object "DayNames$Town") (C := RX7) (T := TX7) (N := 3) hx hb hts hws tyX7 tyX7_ok nmX7 hown hK hP hD hS 0 rfl rfl 0 (by decide) (hts (.fieldLink RX7 9 "DayNames$Rates" "town" "LDayNames$Town;") (by decide +kernel)) (fun _ h9 => h9) rfl hin rfl (by decide +kernel) rfl rfl (Nat.le_of_ble_eq_true rfl) dX7_init_6 (fun H locs hP hD hS => ?_)
  have hP : va_P D vwCl [(h0, .inr (7, [.ref a1, .null, .long 0]))] H := hP
  have hD : va_D A [(h0, .inr (7, [.ref a1, .null, .long 0]))] := hD
  refine lv_aload_n hx hb dX7_init_9 rfl (lv_at hl 0 rfl) ?_
  refine lv_aload_n hx hb dX7_init_10 rfl (lv_at hl 2 rfl) ?_
  refine va_putF (D := D) (ci := 7) (v := .ref a2) (ty := .object "DayNames$Moment") (C := RX7) (T := TX7) (N := 3) hx hb hts hws tyX7 tyX7_ok nmX7 hown hK hP hD hS 0 rfl rfl 1 (by decide) (hts (.fieldLink RX7 15 "DayNames$Rates" "now" "LDayNames$Moment;") (by decide +kernel)) (fun _ h9 => h9) rfl hin rfl (by decide +kernel) rfl rfl (Nat.le_of_ble_eq_true rfl) dX7_init_11 (fun H locs hP hD hS => ?_)
  have hP : va_P D vwCl [(h0, .inr (7, [.ref a1, .ref a2, .long 0]))] H := hP
  have hD : va_D A [(h0, .inr (7, [.ref a1, .ref a2, .long 0]))] := hD
  have hP9 := hP.sub (ws' := [(h0, .inr (7, [.ref a1, .ref a2, .long 0]))]) [0] rfl
  have hD9 := hD.sub (ws' := [(h0, .inr (7, [.ref a1, .ref a2, .long 0]))]) [0] (by decide) rfl
  have hK9 := hK.sub (tys' := []) [] rfl
  exact W.vret hx hb hr (fun t ht hW => ⟨⟨(), rfl, trivial, by rw [ht]; exact hP9, va_K.moved hW.alike hK9, hD9⟩, hS.F ht⟩) hS.2.2 dX7_init_14
def at_X4 (D : va_G) (A : Nat → Prop) (h0 : Nat) (a1 : Nat) (t : State) : Prop := ∃ (q5 : Nat), ∃ (q9x6 : Nat), ∃ (k9x6 : ClassId), ∃ (q9x13 : Nat), ∃ (k9x13 : ClassId), va_P D vwCl [(h0, .inr (4, [.ref a1, .ref q5, .int 0, .int 0])), (q5, .inr (1, [.ref q9x6, .ref q9x13])), (q9x6, .inl (k9x6, 5, .inl (fun _ => 0))), (q9x13, .inl (k9x13, 5, .inl (fun _ => 0)))] t.heap ∧ va_K D vwCl [(k9x6, .int), (k9x13, .int)] t ∧ va_D A [(h0, .inr (4, [.ref a1, .ref q5, .int 0, .int 0])), (q5, .inr (1, [.ref q9x6, .ref q9x13])), (q9x6, .inl (k9x6, 5, .inl (fun _ => 0))), (q9x13, .inl (k9x13, 5, .inl (fun _ => 0)))]
set_option maxHeartbeats 4000000 in
set_option maxRecDepth 100000 in
theorem c_X4_init (l : Launch) (D : va_G) (h0 : Nat) (sz : Nat) (a1 : Nat) : Met l yX4_init wsX4_init ({ frames := 2, cells := 3, slots := 12, locals := 40 }) (va_Pc [.ref h0, .ref a1] (fun U => U.heap.size = sz ∧ va_P D vwCl [(h0, .inr (4, [.null, .null, .int 0, .int 0]))] U.heap ∧ va_K D vwCl [] U ∧ va_D (fun _ => True) [(h0, .inr (4, [.null, .null, .int 0, .int 0]))] ∧ dn_NA U)) (va_Qv (fun _ : Unit => True) (fun _ t => at_X4 D (va_A [(h0, .inr (4, [.null, .null, .int 0, .int 0]))] sz) h0 a1 t) (va_A [(h0, .inr (4, [.null, .null, .int 0, .int 0]))] sz)) 3 12 (va_A [(h0, .inr (4, [.null, .null, .int 0, .int 0]))] sz) := by
  refine Met.ofW (cc := cX4_init) (maxL := 2) (ret := none) (by decide) rfl ?_
  intro p e s m args below meth c s₁ B hml hv
  obtain ⟨rfl, hsz, hP, hK, hD0, hNW⟩ := hv
  have hx := B.exec
  have hb := B.bytes
  have hr := B.returns
  have hts := atoms_spec (ws := wsX4_init) B.pre
  have hown : s.vm.findClass RX4 = some m.cls := findClass_of_methodNamed B.named
  have hlocks := B.notSynchronized
  have hin : meth.name = "<init>" := (name_of_methodNamed B.named B.method).1
  have hws : ∀ w ∈ u_ws RX4 TX4 4, w ∈ wsX4_init := by decide +kernel
  subst hsz
  have hD := hD0.self (sz := s.heap.size)
  generalize hAe : va_A [(h0, .inr (4, [.null, .null, .int 0, .int 0]))] s.heap.size = A at hD ⊢
  have hA : ∀ q : Nat, s.heap.size ≤ q → A q := fun q h => by rw [← hAe]; exact Or.inr h
  have hS : va_S A s.heap s.heap [] := va_S.rf
  have hP : va_P D vwCl [(h0, .inr (4, [.null, .null, .int 0, .int 0]))] s.heap := hP
  have hl := lv_entry ([.ref h0, .ref a1]) (n := 2) (Nat.le_of_ble_eq_true rfl)
  rw [lg_entry_eq]
  generalize (lg_sl ([.ref h0, .ref a1]) ++ List.replicate (2 - (lg_sl ([.ref h0, .ref a1])).length) Slot.unset).toArray = ls at hl ⊢
  have hl : lv_has ls 2 [(0, .ref h0), (1, .ref a1)] := hl
  refine lv_aload_n hx hb dX4_init_0 rfl (lv_at hl 0 rfl) ?_
  refine W.objInit hx hb hown (hts (.methodLink RX4 3 objectInit) (by decide +kernel)) (hts (.instanceMethod objectInit) (by decide +kernel)) (hts _ (List.mem_of_getElem? (i := 3) rfl)) rfl (by rw [hml]; exact hl.1) rfl dX4_init_1 (Nat.le_of_ble_eq_true rfl) (Nat.le_of_ble_eq_true rfl) ?_
  refine W.eq (g2 := F0 m 4 ls []) rfl ?_
  refine lv_aload_n hx hb dX4_init_4 rfl (lv_at hl 0 rfl) ?_
  refine va_new (ci := 1) (fs := [.null, .null]) (C := RX1) (T := TX1) (N := 2) hx hb hts (by decide +kernel) tyX1 tyX1_ok hown (hts (.classLink RX4 9 RX1) (by decide +kernel)) (hts (.instantiable RX1 2) (by decide +kernel)) (hts (.initialized RX1) (by decide +kernel)) hK hP hD hS hA rfl (fun j hj => by rcases (show j = 0 ∨ j = 1 by omega) with rfl | rfl <;> rfl) (Nat.le_of_ble_eq_true rfl) (Nat.le_of_ble_eq_true rfl) dX4_init_5 (fun q5 H hP hD hS => ?_)
  have hP : va_P D vwCl [(h0, .inr (4, [.null, .null, .int 0, .int 0])), (q5, .inr (1, [.null, .null]))] H := hP
  have hD : va_D A [(h0, .inr (4, [.null, .null, .int 0, .int 0])), (q5, .inr (1, [.null, .null]))] := hD
  refine W.widen (k := 1) (n := 2) (Nat.le_of_ble_eq_true rfl) (Nat.le_of_ble_eq_true rfl) ?_
  refine lv_dup hx hb dX4_init_8 rfl ?_
  have hPc := hP.sub (ws' := [(q5, .inr (1, [.null, .null]))]) [1] rfl
  have hDc := hD.sub (ws' := [(q5, .inr (1, [.null, .null]))]) [1] (by decide) rfl
  have hKc := hK.sub (tys' := []) [] rfl
  have hFc := va_free (wc := [(q5, .inr (1, [.null, .null]))]) hD hS hA [1] rfl
  refine va_callv (va_runIN (As := []) (rest := [.ref q5, .ref h0]) ⟨hx, hb, hml, hown, hts⟩ (c_X1_init l D q5 H.size ) ⟨va_cnB 0 hts gX4_init_X1_init_n11 rfl rfl rfl (hNW.1 (.methodLinkNest RX4 11 yX1_init RX11) (by decide +kernel)) (hts (.initialized RX1) (by decide +kernel)) ⟨by decide +kernel, by decide +kernel, by decide +kernel⟩ ⟨Nat.le_of_ble_eq_true rfl, Nat.le_of_ble_eq_true rfl⟩, rfl, hts (.instanceMethod yX1_init) (by decide +kernel)⟩ ⟨fun a U g mk q => by obtain ⟨q0, q1, qP, qK, qD, qN⟩ := q; exact ⟨q0, q1, qP, va_K.moved (u := U) (U := U.calling g mk a) (Vm.Alike.refl U.vm) qK, qD, dn_NA.same (s := U) (U := U.calling g mk a) rfl qN⟩, fun U hU hW => ⟨rfl, by rw [hU], by rw [hU]; exact hPc, va_K.moved hW.alike hKc, hDc.weaken (fun _ _ _ _ => trivial), hNW.warm hW⟩⟩ rfl rfl hl.1 rfl (lv_room (Nat.le_of_ble_eq_true rfl)) dX4_init_9 ⟨Nat.le_of_ble_eq_true rfl, Nat.le_of_ble_eq_true rfl⟩) hS (fun q _ h => hFc q h) hFc (fun u t H1 locs ht hvm hu hB hz1 hk1 hS => ?_)
  obtain ⟨q9x6, k9x6, q9x13, k9x13, hP1, hK1, hD1⟩ := hB
  rw [ht] at hP1
  have hK1 := va_K.moved hvm.symm hK1
  obtain ⟨hP, hD⟩ := va_join (wr := [(h0, .inr (4, [.null, .null, .int 0, .int 0]))]) (w1 := [(q5, .inr (1, [.ref q9x6, .ref q9x13])), (q9x6, .inl (k9x6, 5, .inl (fun _ => 0))), (q9x13, .inl (k9x13, 5, .inl (fun _ => 0)))]) hP hD [1] [0] rfl rfl (by decide) (by decide) hk1 hFc hP1 hD1
  have hK := (hK.sub (tys' := []) [] rfl).app hK1
  generalize H1 = H at hP hS ⊢
  have hP : va_P D vwCl [(h0, .inr (4, [.null, .null, .int 0, .int 0])), (q5, .inr (1, [.ref q9x6, .ref q9x13])), (q9x6, .inl (k9x6, 5, .inl (fun _ => 0))), (q9x13, .inl (k9x13, 5, .inl (fun _ => 0)))] H := hP
  have hD : va_D A [(h0, .inr (4, [.null, .null, .int 0, .int 0])), (q5, .inr (1, [.ref q9x6, .ref q9x13])), (q9x6, .inl (k9x6, 5, .inl (fun _ => 0))), (q9x13, .inl (k9x13, 5, .inl (fun _ => 0)))] := hD
  have hK : va_K D vwCl [(k9x6, .int), (k9x13, .int)] s := hK
  refine W.widen (k := 3) (n := 12) (Nat.le_of_ble_eq_true rfl) (Nat.le_of_ble_eq_true rfl) ?_
  refine va_putF (D := D) (ci := 4) (v := .ref q5) (ty := .object "DayNames$Bids") (C := RX4) (T := TX4) (N := 4) hx hb hts hws tyX4 tyX4_ok nmX4 hown hK hP hD hS 0 rfl rfl 1 (by decide) (hts (.fieldLink RX4 12 "DayNames$Nights" "bids" "LDayNames$Bids;") (by decide +kernel)) (fun _ h9 => h9) rfl hin rfl (by decide +kernel) rfl rfl (Nat.le_of_ble_eq_true rfl) dX4_init_12 (fun H locs hP hD hS => ?_)
  have hP : va_P D vwCl [(h0, .inr (4, [.null, .ref q5, .int 0, .int 0])), (q5, .inr (1, [.ref q9x6, .ref q9x13])), (q9x6, .inl (k9x6, 5, .inl (fun _ => 0))), (q9x13, .inl (k9x13, 5, .inl (fun _ => 0)))] H := hP
  have hD : va_D A [(h0, .inr (4, [.null, .ref q5, .int 0, .int 0])), (q5, .inr (1, [.ref q9x6, .ref q9x13])), (q9x6, .inl (k9x6, 5, .inl (fun _ => 0))), (q9x13, .inl (k9x13, 5, .inl (fun _ => 0)))] := hD
  refine lv_aload_n hx hb dX4_init_15 rfl (lv_at hl 0 rfl) ?_
  refine lv_aload_n hx hb dX4_init_16 rfl (lv_at hl 1 rfl) ?_
  refine va_putF (D := D) (ci := 4) (v := .ref a1) (ty := .object "DayNames$Town") (C := RX4) (T := TX4) (N := 4) hx hb hts hws tyX4 tyX4_ok nmX4 hown hK hP hD hS 0 rfl rfl 0 (by decide) (hts (.fieldLink RX4 18 "DayNames$Nights" "town" "LDayNames$Town;") (by decide +kernel)) (fun _ h9 => h9) rfl hin rfl (by decide +kernel) rfl rfl (Nat.le_of_ble_eq_true rfl) dX4_init_17 (fun H locs hP hD hS => ?_)
  have hP : va_P D vwCl [(h0, .inr (4, [.ref a1, .ref q5, .int 0, .int 0])), (q5, .inr (1, [.ref q9x6, .ref q9x13])), (q9x6, .inl (k9x6, 5, .inl (fun _ => 0))), (q9x13, .inl (k9x13, 5, .inl (fun _ => 0)))] H := hP
  have hD : va_D A [(h0, .inr (4, [.ref a1, .ref q5, .int 0, .int 0])), (q5, .inr (1, [.ref q9x6, .ref q9x13])), (q9x6, .inl (k9x6, 5, .inl (fun _ => 0))), (q9x13, .inl (k9x13, 5, .inl (fun _ => 0)))] := hD
  have hP9 := hP.sub (ws' := [(h0, .inr (4, [.ref a1, .ref q5, .int 0, .int 0])), (q5, .inr (1, [.ref q9x6, .ref q9x13])), (q9x6, .inl (k9x6, 5, .inl (fun _ => 0))), (q9x13, .inl (k9x13, 5, .inl (fun _ => 0)))]) [0, 1, 2, 3] rfl
  have hD9 := hD.sub (ws' := [(h0, .inr (4, [.ref a1, .ref q5, .int 0, .int 0])), (q5, .inr (1, [.ref q9x6, .ref q9x13])), (q9x6, .inl (k9x6, 5, .inl (fun _ => 0))), (q9x13, .inl (k9x13, 5, .inl (fun _ => 0)))]) [0, 1, 2, 3] (by decide) rfl
  have hK9 := hK.sub (tys' := [(k9x6, .int), (k9x13, .int)]) [0, 1] rfl
  exact W.vret hx hb hr (fun t ht hW => ⟨⟨(), rfl, trivial, q5, q9x6, k9x6, q9x13, k9x13, by rw [ht]; exact hP9, va_K.moved hW.alike hK9, hD9⟩, hS.F ht⟩) hS.2.2 dX4_init_20
def at_X0 (D : va_G) (A : Nat → Prop) (h0 : Nat) (a1 : Nat) (t : State) : Prop := ∃ (q5 : Nat), ∃ (q9x7 : Nat), ∃ (k9x7 : ClassId), ∃ (q9x14 : Nat), ∃ (k9x14 : ClassId), ∃ (q9x22 : Nat), ∃ (k9x22 : ClassId), ∃ (q18 : Nat), ∃ (k18 : ClassId), va_P D vwCl [(h0, .inr (0, [.ref a1, .ref q5, .ref q18, .int 0])), (q5, .inr (3, [.ref q9x7, .ref q9x14, .ref q9x22, .int 0, .int 0, .int 0, .int 0, .int 0])), (q9x7, .inl (k9x7, 100, .inl (fun _ => 0))), (q9x14, .inl (k9x14, 4, .inl (fun _ => 0))), (q9x22, .inl (k9x22, 6, .inl (fun _ => 0))), (q18, .inl (k18, 8, .inl (fun _ => 0)))] t.heap ∧ va_K D vwCl [(k9x7, .int), (k9x14, .int), (k9x22, .int), (k18, .int)] t ∧ va_D A [(h0, .inr (0, [.ref a1, .ref q5, .ref q18, .int 0])), (q5, .inr (3, [.ref q9x7, .ref q9x14, .ref q9x22, .int 0, .int 0, .int 0, .int 0, .int 0])), (q9x7, .inl (k9x7, 100, .inl (fun _ => 0))), (q9x14, .inl (k9x14, 4, .inl (fun _ => 0))), (q9x22, .inl (k9x22, 6, .inl (fun _ => 0))), (q18, .inl (k18, 8, .inl (fun _ => 0)))]
set_option maxHeartbeats 4000000 in
set_option maxRecDepth 100000 in
theorem c_X0_init (l : Launch) (D : va_G) (h0 : Nat) (sz : Nat) (a1 : Nat) : Met l yX0_init wsX0_init ({ frames := 2, cells := 5, slots := 126, locals := 40 }) (va_Pc [.ref h0, .ref a1] (fun U => U.heap.size = sz ∧ va_P D vwCl [(h0, .inr (0, [.null, .null, .null, .int 0]))] U.heap ∧ va_K D vwCl [] U ∧ va_D (fun _ => True) [(h0, .inr (0, [.null, .null, .null, .int 0]))] ∧ dn_NA U)) (va_Qv (fun _ : Unit => True) (fun _ t => at_X0 D (va_A [(h0, .inr (0, [.null, .null, .null, .int 0]))] sz) h0 a1 t) (va_A [(h0, .inr (0, [.null, .null, .null, .int 0]))] sz)) 5 126 (va_A [(h0, .inr (0, [.null, .null, .null, .int 0]))] sz) := by
  refine Met.ofW (cc := cX0_init) (maxL := 2) (ret := none) (by decide) rfl ?_
  intro p e s m args below meth c s₁ B hml hv
  obtain ⟨rfl, hsz, hP, hK, hD0, hNW⟩ := hv
  have hx := B.exec
  have hb := B.bytes
  have hr := B.returns
  have hts := atoms_spec (ws := wsX0_init) B.pre
  have hown : s.vm.findClass RX0 = some m.cls := findClass_of_methodNamed B.named
  have hlocks := B.notSynchronized
  have hin : meth.name = "<init>" := (name_of_methodNamed B.named B.method).1
  have hws : ∀ w ∈ u_ws RX0 TX0 4, w ∈ wsX0_init := by decide +kernel
  subst hsz
  have hD := hD0.self (sz := s.heap.size)
  generalize hAe : va_A [(h0, .inr (0, [.null, .null, .null, .int 0]))] s.heap.size = A at hD ⊢
  have hA : ∀ q : Nat, s.heap.size ≤ q → A q := fun q h => by rw [← hAe]; exact Or.inr h
  have hS : va_S A s.heap s.heap [] := va_S.rf
  have hP : va_P D vwCl [(h0, .inr (0, [.null, .null, .null, .int 0]))] s.heap := hP
  have hl := lv_entry ([.ref h0, .ref a1]) (n := 2) (Nat.le_of_ble_eq_true rfl)
  rw [lg_entry_eq]
  generalize (lg_sl ([.ref h0, .ref a1]) ++ List.replicate (2 - (lg_sl ([.ref h0, .ref a1])).length) Slot.unset).toArray = ls at hl ⊢
  have hl : lv_has ls 2 [(0, .ref h0), (1, .ref a1)] := hl
  refine lv_aload_n hx hb dX0_init_0 rfl (lv_at hl 0 rfl) ?_
  refine W.objInit hx hb hown (hts (.methodLink RX0 3 objectInit) (by decide +kernel)) (hts (.instanceMethod objectInit) (by decide +kernel)) (hts _ (List.mem_of_getElem? (i := 3) rfl)) rfl (by rw [hml]; exact hl.1) rfl dX0_init_1 (Nat.le_of_ble_eq_true rfl) (Nat.le_of_ble_eq_true rfl) ?_
  refine W.eq (g2 := F0 m 4 ls []) rfl ?_
  refine lv_aload_n hx hb dX0_init_4 rfl (lv_at hl 0 rfl) ?_
  refine va_new (ci := 3) (fs := [.null, .null, .null, .int 0, .int 0, .int 0, .int 0, .int 0]) (C := RX3) (T := TX3) (N := 8) hx hb hts (by decide +kernel) tyX3 tyX3_ok hown (hts (.classLink RX0 9 RX3) (by decide +kernel)) (hts (.instantiable RX3 8) (by decide +kernel)) (hts (.initialized RX3) (by decide +kernel)) hK hP hD hS hA rfl (fun j hj => by rcases (show j = 0 ∨ j = 1 ∨ j = 2 ∨ j = 3 ∨ j = 4 ∨ j = 5 ∨ j = 6 ∨ j = 7 by omega) with rfl | rfl | rfl | rfl | rfl | rfl | rfl | rfl <;> rfl) (Nat.le_of_ble_eq_true rfl) (Nat.le_of_ble_eq_true rfl) dX0_init_5 (fun q5 H hP hD hS => ?_)
  have hP : va_P D vwCl [(h0, .inr (0, [.null, .null, .null, .int 0])), (q5, .inr (3, [.null, .null, .null, .int 0, .int 0, .int 0, .int 0, .int 0]))] H := hP
  have hD : va_D A [(h0, .inr (0, [.null, .null, .null, .int 0])), (q5, .inr (3, [.null, .null, .null, .int 0, .int 0, .int 0, .int 0, .int 0]))] := hD
  refine W.widen (k := 1) (n := 8) (Nat.le_of_ble_eq_true rfl) (Nat.le_of_ble_eq_true rfl) ?_
  refine lv_dup hx hb dX0_init_8 rfl ?_
  have hPc := hP.sub (ws' := [(q5, .inr (3, [.null, .null, .null, .int 0, .int 0, .int 0, .int 0, .int 0]))]) [1] rfl
  have hDc := hD.sub (ws' := [(q5, .inr (3, [.null, .null, .null, .int 0, .int 0, .int 0, .int 0, .int 0]))]) [1] (by decide) rfl
  have hKc := hK.sub (tys' := []) [] rfl
  have hFc := va_free (wc := [(q5, .inr (3, [.null, .null, .null, .int 0, .int 0, .int 0, .int 0, .int 0]))]) hD hS hA [1] rfl
  refine va_callv (va_runIN (As := []) (rest := [.ref q5, .ref h0]) ⟨hx, hb, hml, hown, hts⟩ (c_X3_init l D q5 H.size ) ⟨va_cnB 0 hts gX0_init_X3_init_n11 rfl rfl rfl (hNW.1 (.methodLinkNest RX0 11 yX3_init RX11) (by decide +kernel)) (hts (.initialized RX3) (by decide +kernel)) ⟨by decide +kernel, by decide +kernel, by decide +kernel⟩ ⟨Nat.le_of_ble_eq_true rfl, Nat.le_of_ble_eq_true rfl⟩, rfl, hts (.instanceMethod yX3_init) (by decide +kernel)⟩ ⟨fun a U g mk q => by obtain ⟨q0, q1, qP, qK, qD, qN⟩ := q; exact ⟨q0, q1, qP, va_K.moved (u := U) (U := U.calling g mk a) (Vm.Alike.refl U.vm) qK, qD, dn_NA.same (s := U) (U := U.calling g mk a) rfl qN⟩, fun U hU hW => ⟨rfl, by rw [hU], by rw [hU]; exact hPc, va_K.moved hW.alike hKc, hDc.weaken (fun _ _ _ _ => trivial), hNW.warm hW⟩⟩ rfl rfl hl.1 rfl (lv_room (Nat.le_of_ble_eq_true rfl)) dX0_init_9 ⟨Nat.le_of_ble_eq_true rfl, Nat.le_of_ble_eq_true rfl⟩) hS (fun q _ h => hFc q h) hFc (fun u t H1 locs ht hvm hu hB hz1 hk1 hS => ?_)
  obtain ⟨q9x7, k9x7, q9x14, k9x14, q9x22, k9x22, hP1, hK1, hD1⟩ := hB
  rw [ht] at hP1
  have hK1 := va_K.moved hvm.symm hK1
  obtain ⟨hP, hD⟩ := va_join (wr := [(h0, .inr (0, [.null, .null, .null, .int 0]))]) (w1 := [(q5, .inr (3, [.ref q9x7, .ref q9x14, .ref q9x22, .int 0, .int 0, .int 0, .int 0, .int 0])), (q9x7, .inl (k9x7, 100, .inl (fun _ => 0))), (q9x14, .inl (k9x14, 4, .inl (fun _ => 0))), (q9x22, .inl (k9x22, 6, .inl (fun _ => 0)))]) hP hD [1] [0] rfl rfl (by decide) (by decide) hk1 hFc hP1 hD1
  have hK := (hK.sub (tys' := []) [] rfl).app hK1
  generalize H1 = H at hP hS ⊢
  have hP : va_P D vwCl [(h0, .inr (0, [.null, .null, .null, .int 0])), (q5, .inr (3, [.ref q9x7, .ref q9x14, .ref q9x22, .int 0, .int 0, .int 0, .int 0, .int 0])), (q9x7, .inl (k9x7, 100, .inl (fun _ => 0))), (q9x14, .inl (k9x14, 4, .inl (fun _ => 0))), (q9x22, .inl (k9x22, 6, .inl (fun _ => 0)))] H := hP
  have hD : va_D A [(h0, .inr (0, [.null, .null, .null, .int 0])), (q5, .inr (3, [.ref q9x7, .ref q9x14, .ref q9x22, .int 0, .int 0, .int 0, .int 0, .int 0])), (q9x7, .inl (k9x7, 100, .inl (fun _ => 0))), (q9x14, .inl (k9x14, 4, .inl (fun _ => 0))), (q9x22, .inl (k9x22, 6, .inl (fun _ => 0)))] := hD
  have hK : va_K D vwCl [(k9x7, .int), (k9x14, .int), (k9x22, .int)] s := hK
  refine W.widen (k := 4) (n := 118) (Nat.le_of_ble_eq_true rfl) (Nat.le_of_ble_eq_true rfl) ?_
  refine va_putF (D := D) (ci := 0) (v := .ref q5) (ty := .object "DayNames$Moment") (C := RX0) (T := TX0) (N := 4) hx hb hts hws tyX0 tyX0_ok nmX0 hown hK hP hD hS 0 rfl rfl 1 (by decide) (hts (.fieldLink RX0 12 "DayNames$Agenda" "ahead" "LDayNames$Moment;") (by decide +kernel)) (fun _ h9 => h9) rfl hin rfl (by decide +kernel) rfl rfl (Nat.le_of_ble_eq_true rfl) dX0_init_12 (fun H locs hP hD hS => ?_)
  have hP : va_P D vwCl [(h0, .inr (0, [.null, .ref q5, .null, .int 0])), (q5, .inr (3, [.ref q9x7, .ref q9x14, .ref q9x22, .int 0, .int 0, .int 0, .int 0, .int 0])), (q9x7, .inl (k9x7, 100, .inl (fun _ => 0))), (q9x14, .inl (k9x14, 4, .inl (fun _ => 0))), (q9x22, .inl (k9x22, 6, .inl (fun _ => 0)))] H := hP
  have hD : va_D A [(h0, .inr (0, [.null, .ref q5, .null, .int 0])), (q5, .inr (3, [.ref q9x7, .ref q9x14, .ref q9x22, .int 0, .int 0, .int 0, .int 0, .int 0])), (q9x7, .inl (k9x7, 100, .inl (fun _ => 0))), (q9x14, .inl (k9x14, 4, .inl (fun _ => 0))), (q9x22, .inl (k9x22, 6, .inl (fun _ => 0)))] := hD
  refine lv_aload_n hx hb dX0_init_15 rfl (lv_at hl 0 rfl) ?_
  refine lv_bipush (v := 8) hx hb dX0_init_16 (by decide) ?_
  refine va_newa (atype := .int) (ty := .int) (N' := 8) (a0 := (8, .inl (fun _ => 0))) hx hb (hts (.arrayClass .int) (by decide +kernel)) rfl hK hP hD hS hA (fun _ => rfl) (by decide) (by decide) (by decide) (Nat.le_of_ble_eq_true rfl) (Nat.le_of_ble_eq_true rfl) dX0_init_18 (fun q18 k18 H hK hP hD hS => ?_)
  have hP : va_P D vwCl [(h0, .inr (0, [.null, .ref q5, .null, .int 0])), (q5, .inr (3, [.ref q9x7, .ref q9x14, .ref q9x22, .int 0, .int 0, .int 0, .int 0, .int 0])), (q9x7, .inl (k9x7, 100, .inl (fun _ => 0))), (q9x14, .inl (k9x14, 4, .inl (fun _ => 0))), (q9x22, .inl (k9x22, 6, .inl (fun _ => 0))), (q18, .inl (k18, 8, .inl (fun _ => 0)))] H := hP
  have hD : va_D A [(h0, .inr (0, [.null, .ref q5, .null, .int 0])), (q5, .inr (3, [.ref q9x7, .ref q9x14, .ref q9x22, .int 0, .int 0, .int 0, .int 0, .int 0])), (q9x7, .inl (k9x7, 100, .inl (fun _ => 0))), (q9x14, .inl (k9x14, 4, .inl (fun _ => 0))), (q9x22, .inl (k9x22, 6, .inl (fun _ => 0))), (q18, .inl (k18, 8, .inl (fun _ => 0)))] := hD
  have hK : va_K D vwCl [(k9x7, .int), (k9x14, .int), (k9x22, .int), (k18, .int)] s := hK
  refine W.widen (k := 5) (n := 126) (Nat.le_of_ble_eq_true rfl) (Nat.le_of_ble_eq_true rfl) ?_
  refine va_putF (D := D) (ci := 0) (v := .ref q18) (ty := .array .int) (C := RX0) (T := TX0) (N := 4) hx hb hts hws tyX0 tyX0_ok nmX0 hown hK hP hD hS 0 rfl rfl 2 (by decide) (hts (.fieldLink RX0 18 "DayNames$Agenda" "names" "[I") (by decide +kernel)) (fun _ h9 => h9) rfl hin rfl (by decide +kernel) rfl rfl (Nat.le_of_ble_eq_true rfl) dX0_init_20 (fun H locs hP hD hS => ?_)
  have hP : va_P D vwCl [(h0, .inr (0, [.null, .ref q5, .ref q18, .int 0])), (q5, .inr (3, [.ref q9x7, .ref q9x14, .ref q9x22, .int 0, .int 0, .int 0, .int 0, .int 0])), (q9x7, .inl (k9x7, 100, .inl (fun _ => 0))), (q9x14, .inl (k9x14, 4, .inl (fun _ => 0))), (q9x22, .inl (k9x22, 6, .inl (fun _ => 0))), (q18, .inl (k18, 8, .inl (fun _ => 0)))] H := hP
  have hD : va_D A [(h0, .inr (0, [.null, .ref q5, .ref q18, .int 0])), (q5, .inr (3, [.ref q9x7, .ref q9x14, .ref q9x22, .int 0, .int 0, .int 0, .int 0, .int 0])), (q9x7, .inl (k9x7, 100, .inl (fun _ => 0))), (q9x14, .inl (k9x14, 4, .inl (fun _ => 0))), (q9x22, .inl (k9x22, 6, .inl (fun _ => 0))), (q18, .inl (k18, 8, .inl (fun _ => 0)))] := hD
  refine lv_aload_n hx hb dX0_init_23 rfl (lv_at hl 0 rfl) ?_
  refine lv_aload_n hx hb dX0_init_24 rfl (lv_at hl 1 rfl) ?_
  refine va_putF (D := D) (ci := 0) (v := .ref a1) (ty := .object "DayNames$Nights") (C := RX0) (T := TX0) (N := 4) hx hb hts hws tyX0 tyX0_ok nmX0 hown hK hP hD hS 0 rfl rfl 0 (by decide) (hts (.fieldLink RX0 22 "DayNames$Agenda" "nights" "LDayNames$Nights;") (by decide +kernel)) (fun _ h9 => h9) rfl hin rfl (by decide +kernel) rfl rfl (Nat.le_of_ble_eq_true rfl) dX0_init_25 (fun H locs hP hD hS => ?_)
  have hP : va_P D vwCl [(h0, .inr (0, [.ref a1, .ref q5, .ref q18, .int 0])), (q5, .inr (3, [.ref q9x7, .ref q9x14, .ref q9x22, .int 0, .int 0, .int 0, .int 0, .int 0])), (q9x7, .inl (k9x7, 100, .inl (fun _ => 0))), (q9x14, .inl (k9x14, 4, .inl (fun _ => 0))), (q9x22, .inl (k9x22, 6, .inl (fun _ => 0))), (q18, .inl (k18, 8, .inl (fun _ => 0)))] H := hP
  have hD : va_D A [(h0, .inr (0, [.ref a1, .ref q5, .ref q18, .int 0])), (q5, .inr (3, [.ref q9x7, .ref q9x14, .ref q9x22, .int 0, .int 0, .int 0, .int 0, .int 0])), (q9x7, .inl (k9x7, 100, .inl (fun _ => 0))), (q9x14, .inl (k9x14, 4, .inl (fun _ => 0))), (q9x22, .inl (k9x22, 6, .inl (fun _ => 0))), (q18, .inl (k18, 8, .inl (fun _ => 0)))] := hD
  have hP9 := hP.sub (ws' := [(h0, .inr (0, [.ref a1, .ref q5, .ref q18, .int 0])), (q5, .inr (3, [.ref q9x7, .ref q9x14, .ref q9x22, .int 0, .int 0, .int 0, .int 0, .int 0])), (q9x7, .inl (k9x7, 100, .inl (fun _ => 0))), (q9x14, .inl (k9x14, 4, .inl (fun _ => 0))), (q9x22, .inl (k9x22, 6, .inl (fun _ => 0))), (q18, .inl (k18, 8, .inl (fun _ => 0)))]) [0, 1, 2, 3, 4, 5] rfl
  have hD9 := hD.sub (ws' := [(h0, .inr (0, [.ref a1, .ref q5, .ref q18, .int 0])), (q5, .inr (3, [.ref q9x7, .ref q9x14, .ref q9x22, .int 0, .int 0, .int 0, .int 0, .int 0])), (q9x7, .inl (k9x7, 100, .inl (fun _ => 0))), (q9x14, .inl (k9x14, 4, .inl (fun _ => 0))), (q9x22, .inl (k9x22, 6, .inl (fun _ => 0))), (q18, .inl (k18, 8, .inl (fun _ => 0)))]) [0, 1, 2, 3, 4, 5] (by decide) rfl
  have hK9 := hK.sub (tys' := [(k9x7, .int), (k9x14, .int), (k9x22, .int), (k18, .int)]) [0, 1, 2, 3] rfl
  exact W.vret hx hb hr (fun t ht hW => ⟨⟨(), rfl, trivial, q5, q9x7, k9x7, q9x14, k9x14, q9x22, k9x22, q18, k18, by rw [ht]; exact hP9, va_K.moved hW.alike hK9, hD9⟩, hS.F ht⟩) hS.2.2 dX0_init_28
def at_X2 (D : va_G) (A : Nat → Prop) (h0 : Nat) (a1 a2 : Nat) (t : State) : Prop := ∃ (q5 : Nat), ∃ (q9x7 : Nat), ∃ (k9x7 : ClassId), ∃ (q9x14 : Nat), ∃ (k9x14 : ClassId), ∃ (q9x22 : Nat), ∃ (k9x22 : ClassId), ∃ (q17 : Nat), ∃ (k17 : ClassId), ∃ (q24 : Nat), ∃ (k24 : ClassId), va_P D vwCl [(h0, .inr (2, [.ref a1, .ref a2, .ref q5, .ref q17, .ref q24, .int 0])), (q5, .inr (3, [.ref q9x7, .ref q9x14, .ref q9x22, .int 0, .int 0, .int 0, .int 0, .int 0])), (q9x7, .inl (k9x7, 100, .inl (fun _ => 0))), (q9x14, .inl (k9x14, 4, .inl (fun _ => 0))), (q9x22, .inl (k9x22, 6, .inl (fun _ => 0))), (q17, .inl (k17, 5, .inl (fun _ => 0))), (q24, .inl (k24, 5, .inl (fun _ => 0)))] t.heap ∧ va_K D vwCl [(k9x7, .int), (k9x14, .int), (k9x22, .int), (k17, .int), (k24, .int)] t ∧ va_D A [(h0, .inr (2, [.ref a1, .ref a2, .ref q5, .ref q17, .ref q24, .int 0])), (q5, .inr (3, [.ref q9x7, .ref q9x14, .ref q9x22, .int 0, .int 0, .int 0, .int 0, .int 0])), (q9x7, .inl (k9x7, 100, .inl (fun _ => 0))), (q9x14, .inl (k9x14, 4, .inl (fun _ => 0))), (q9x22, .inl (k9x22, 6, .inl (fun _ => 0))), (q17, .inl (k17, 5, .inl (fun _ => 0))), (q24, .inl (k24, 5, .inl (fun _ => 0)))]
set_option maxHeartbeats 4000000 in
set_option maxRecDepth 100000 in
theorem c_X2_init (l : Launch) (D : va_G) (h0 : Nat) (sz : Nat) (a1 a2 : Nat) : Met l yX2_init wsX2_init ({ frames := 2, cells := 6, slots := 128, locals := 40 }) (va_Pc [.ref h0, .ref a1, .ref a2] (fun U => U.heap.size = sz ∧ va_P D vwCl [(h0, .inr (2, [.null, .null, .null, .null, .null, .int 0]))] U.heap ∧ va_K D vwCl [] U ∧ va_D (fun _ => True) [(h0, .inr (2, [.null, .null, .null, .null, .null, .int 0]))] ∧ dn_NA U)) (va_Qv (fun _ : Unit => True) (fun _ t => at_X2 D (va_A [(h0, .inr (2, [.null, .null, .null, .null, .null, .int 0]))] sz) h0 a1 a2 t) (va_A [(h0, .inr (2, [.null, .null, .null, .null, .null, .int 0]))] sz)) 6 128 (va_A [(h0, .inr (2, [.null, .null, .null, .null, .null, .int 0]))] sz) := by
  refine Met.ofW (cc := cX2_init) (maxL := 3) (ret := none) (by decide) rfl ?_
  intro p e s m args below meth c s₁ B hml hv
  obtain ⟨rfl, hsz, hP, hK, hD0, hNW⟩ := hv
  have hx := B.exec
  have hb := B.bytes
  have hr := B.returns
  have hts := atoms_spec (ws := wsX2_init) B.pre
  have hown : s.vm.findClass RX2 = some m.cls := findClass_of_methodNamed B.named
  have hlocks := B.notSynchronized
  have hin : meth.name = "<init>" := (name_of_methodNamed B.named B.method).1
  have hws : ∀ w ∈ u_ws RX2 TX2 6, w ∈ wsX2_init := by decide +kernel
  subst hsz
  have hD := hD0.self (sz := s.heap.size)
  generalize hAe : va_A [(h0, .inr (2, [.null, .null, .null, .null, .null, .int 0]))] s.heap.size = A at hD ⊢
  have hA : ∀ q : Nat, s.heap.size ≤ q → A q := fun q h => by rw [← hAe]; exact Or.inr h
  have hS : va_S A s.heap s.heap [] := va_S.rf
  have hP : va_P D vwCl [(h0, .inr (2, [.null, .null, .null, .null, .null, .int 0]))] s.heap := hP
  have hl := lv_entry ([.ref h0, .ref a1, .ref a2]) (n := 3) (Nat.le_of_ble_eq_true rfl)
  rw [lg_entry_eq]
  generalize (lg_sl ([.ref h0, .ref a1, .ref a2]) ++ List.replicate (3 - (lg_sl ([.ref h0, .ref a1, .ref a2])).length) Slot.unset).toArray = ls at hl ⊢
  have hl : lv_has ls 3 [(0, .ref h0), (1, .ref a1), (2, .ref a2)] := hl
  refine lv_aload_n hx hb dX2_init_0 rfl (lv_at hl 0 rfl) ?_
  refine W.objInit hx hb hown (hts (.methodLink RX2 3 objectInit) (by decide +kernel)) (hts (.instanceMethod objectInit) (by decide +kernel)) (hts _ (List.mem_of_getElem? (i := 3) rfl)) rfl (by rw [hml]; exact hl.1) rfl dX2_init_1 (Nat.le_of_ble_eq_true rfl) (Nat.le_of_ble_eq_true rfl) ?_
  refine W.eq (g2 := F0 m 4 ls []) rfl ?_
  refine lv_aload_n hx hb dX2_init_4 rfl (lv_at hl 0 rfl) ?_
  refine va_new (ci := 3) (fs := [.null, .null, .null, .int 0, .int 0, .int 0, .int 0, .int 0]) (C := RX3) (T := TX3) (N := 8) hx hb hts (by decide +kernel) tyX3 tyX3_ok hown (hts (.classLink RX2 9 RX3) (by decide +kernel)) (hts (.instantiable RX3 8) (by decide +kernel)) (hts (.initialized RX3) (by decide +kernel)) hK hP hD hS hA rfl (fun j hj => by rcases (show j = 0 ∨ j = 1 ∨ j = 2 ∨ j = 3 ∨ j = 4 ∨ j = 5 ∨ j = 6 ∨ j = 7 by omega) with rfl | rfl | rfl | rfl | rfl | rfl | rfl | rfl <;> rfl) (Nat.le_of_ble_eq_true rfl) (Nat.le_of_ble_eq_true rfl) dX2_init_5 (fun q5 H hP hD hS => ?_)
  have hP : va_P D vwCl [(h0, .inr (2, [.null, .null, .null, .null, .null, .int 0])), (q5, .inr (3, [.null, .null, .null, .int 0, .int 0, .int 0, .int 0, .int 0]))] H := hP
  have hD : va_D A [(h0, .inr (2, [.null, .null, .null, .null, .null, .int 0])), (q5, .inr (3, [.null, .null, .null, .int 0, .int 0, .int 0, .int 0, .int 0]))] := hD
  refine W.widen (k := 1) (n := 8) (Nat.le_of_ble_eq_true rfl) (Nat.le_of_ble_eq_true rfl) ?_
  refine lv_dup hx hb dX2_init_8 rfl ?_
  have hPc := hP.sub (ws' := [(q5, .inr (3, [.null, .null, .null, .int 0, .int 0, .int 0, .int 0, .int 0]))]) [1] rfl
  have hDc := hD.sub (ws' := [(q5, .inr (3, [.null, .null, .null, .int 0, .int 0, .int 0, .int 0, .int 0]))]) [1] (by decide) rfl
  have hKc := hK.sub (tys' := []) [] rfl
  have hFc := va_free (wc := [(q5, .inr (3, [.null, .null, .null, .int 0, .int 0, .int 0, .int 0, .int 0]))]) hD hS hA [1] rfl
  refine va_callv (va_runIN (As := []) (rest := [.ref q5, .ref h0]) ⟨hx, hb, hml, hown, hts⟩ (c_X3_init l D q5 H.size ) ⟨va_cnB 0 hts gX2_init_X3_init_n11 rfl rfl rfl (hNW.1 (.methodLinkNest RX2 11 yX3_init RX11) (by decide +kernel)) (hts (.initialized RX3) (by decide +kernel)) ⟨by decide +kernel, by decide +kernel, by decide +kernel⟩ ⟨Nat.le_of_ble_eq_true rfl, Nat.le_of_ble_eq_true rfl⟩, rfl, hts (.instanceMethod yX3_init) (by decide +kernel)⟩ ⟨fun a U g mk q => by obtain ⟨q0, q1, qP, qK, qD, qN⟩ := q; exact ⟨q0, q1, qP, va_K.moved (u := U) (U := U.calling g mk a) (Vm.Alike.refl U.vm) qK, qD, dn_NA.same (s := U) (U := U.calling g mk a) rfl qN⟩, fun U hU hW => ⟨rfl, by rw [hU], by rw [hU]; exact hPc, va_K.moved hW.alike hKc, hDc.weaken (fun _ _ _ _ => trivial), hNW.warm hW⟩⟩ rfl rfl hl.1 rfl (lv_room (Nat.le_of_ble_eq_true rfl)) dX2_init_9 ⟨Nat.le_of_ble_eq_true rfl, Nat.le_of_ble_eq_true rfl⟩) hS (fun q _ h => hFc q h) hFc (fun u t H1 locs ht hvm hu hB hz1 hk1 hS => ?_)
  obtain ⟨q9x7, k9x7, q9x14, k9x14, q9x22, k9x22, hP1, hK1, hD1⟩ := hB
  rw [ht] at hP1
  have hK1 := va_K.moved hvm.symm hK1
  obtain ⟨hP, hD⟩ := va_join (wr := [(h0, .inr (2, [.null, .null, .null, .null, .null, .int 0]))]) (w1 := [(q5, .inr (3, [.ref q9x7, .ref q9x14, .ref q9x22, .int 0, .int 0, .int 0, .int 0, .int 0])), (q9x7, .inl (k9x7, 100, .inl (fun _ => 0))), (q9x14, .inl (k9x14, 4, .inl (fun _ => 0))), (q9x22, .inl (k9x22, 6, .inl (fun _ => 0)))]) hP hD [1] [0] rfl rfl (by decide) (by decide) hk1 hFc hP1 hD1
  have hK := (hK.sub (tys' := []) [] rfl).app hK1
  generalize H1 = H at hP hS ⊢
  have hP : va_P D vwCl [(h0, .inr (2, [.null, .null, .null, .null, .null, .int 0])), (q5, .inr (3, [.ref q9x7, .ref q9x14, .ref q9x22, .int 0, .int 0, .int 0, .int 0, .int 0])), (q9x7, .inl (k9x7, 100, .inl (fun _ => 0))), (q9x14, .inl (k9x14, 4, .inl (fun _ => 0))), (q9x22, .inl (k9x22, 6, .inl (fun _ => 0)))] H := hP
  have hD : va_D A [(h0, .inr (2, [.null, .null, .null, .null, .null, .int 0])), (q5, .inr (3, [.ref q9x7, .ref q9x14, .ref q9x22, .int 0, .int 0, .int 0, .int 0, .int 0])), (q9x7, .inl (k9x7, 100, .inl (fun _ => 0))), (q9x14, .inl (k9x14, 4, .inl (fun _ => 0))), (q9x22, .inl (k9x22, 6, .inl (fun _ => 0)))] := hD
  have hK : va_K D vwCl [(k9x7, .int), (k9x14, .int), (k9x22, .int)] s := hK
  refine W.widen (k := 4) (n := 118) (Nat.le_of_ble_eq_true rfl) (Nat.le_of_ble_eq_true rfl) ?_
  refine va_putF (D := D) (ci := 2) (v := .ref q5) (ty := .object "DayNames$Moment") (C := RX2) (T := TX2) (N := 6) hx hb hts hws tyX2 tyX2_ok nmX2 hown hK hP hD hS 0 rfl rfl 2 (by decide) (hts (.fieldLink RX2 12 "DayNames$Finds" "ahead" "LDayNames$Moment;") (by decide +kernel)) (fun _ h9 => h9) rfl hin rfl (by decide +kernel) rfl rfl (Nat.le_of_ble_eq_true rfl) dX2_init_12 (fun H locs hP hD hS => ?_)
  have hP : va_P D vwCl [(h0, .inr (2, [.null, .null, .ref q5, .null, .null, .int 0])), (q5, .inr (3, [.ref q9x7, .ref q9x14, .ref q9x22, .int 0, .int 0, .int 0, .int 0, .int 0])), (q9x7, .inl (k9x7, 100, .inl (fun _ => 0))), (q9x14, .inl (k9x14, 4, .inl (fun _ => 0))), (q9x22, .inl (k9x22, 6, .inl (fun _ => 0)))] H := hP
  have hD : va_D A [(h0, .inr (2, [.null, .null, .ref q5, .null, .null, .int 0])), (q5, .inr (3, [.ref q9x7, .ref q9x14, .ref q9x22, .int 0, .int 0, .int 0, .int 0, .int 0])), (q9x7, .inl (k9x7, 100, .inl (fun _ => 0))), (q9x14, .inl (k9x14, 4, .inl (fun _ => 0))), (q9x22, .inl (k9x22, 6, .inl (fun _ => 0)))] := hD
  refine lv_aload_n hx hb dX2_init_15 rfl (lv_at hl 0 rfl) ?_
  refine lv_iconst (v := 5) hx hb dX2_init_16 (by decide) ?_
  refine va_newa (atype := .int) (ty := .int) (N' := 5) (a0 := (5, .inl (fun _ => 0))) hx hb (hts (.arrayClass .int) (by decide +kernel)) rfl hK hP hD hS hA (fun _ => rfl) (by decide) (by decide) (by decide) (Nat.le_of_ble_eq_true rfl) (Nat.le_of_ble_eq_true rfl) dX2_init_17 (fun q17 k17 H hK hP hD hS => ?_)
  have hP : va_P D vwCl [(h0, .inr (2, [.null, .null, .ref q5, .null, .null, .int 0])), (q5, .inr (3, [.ref q9x7, .ref q9x14, .ref q9x22, .int 0, .int 0, .int 0, .int 0, .int 0])), (q9x7, .inl (k9x7, 100, .inl (fun _ => 0))), (q9x14, .inl (k9x14, 4, .inl (fun _ => 0))), (q9x22, .inl (k9x22, 6, .inl (fun _ => 0))), (q17, .inl (k17, 5, .inl (fun _ => 0)))] H := hP
  have hD : va_D A [(h0, .inr (2, [.null, .null, .ref q5, .null, .null, .int 0])), (q5, .inr (3, [.ref q9x7, .ref q9x14, .ref q9x22, .int 0, .int 0, .int 0, .int 0, .int 0])), (q9x7, .inl (k9x7, 100, .inl (fun _ => 0))), (q9x14, .inl (k9x14, 4, .inl (fun _ => 0))), (q9x22, .inl (k9x22, 6, .inl (fun _ => 0))), (q17, .inl (k17, 5, .inl (fun _ => 0)))] := hD
  have hK : va_K D vwCl [(k9x7, .int), (k9x14, .int), (k9x22, .int), (k17, .int)] s := hK
  refine W.widen (k := 5) (n := 123) (Nat.le_of_ble_eq_true rfl) (Nat.le_of_ble_eq_true rfl) ?_
  refine va_putF (D := D) (ci := 2) (v := .ref q17) (ty := .array .int) (C := RX2) (T := TX2) (N := 6) hx hb hts hws tyX2 tyX2_ok nmX2 hown hK hP hD hS 0 rfl rfl 3 (by decide) (hts (.fieldLink RX2 18 "DayNames$Finds" "whichNight" "[I") (by decide +kernel)) (fun _ h9 => h9) rfl hin rfl (by decide +kernel) rfl rfl (Nat.le_of_ble_eq_true rfl) dX2_init_19 (fun H locs hP hD hS => ?_)
  have hP : va_P D vwCl [(h0, .inr (2, [.null, .null, .ref q5, .ref q17, .null, .int 0])), (q5, .inr (3, [.ref q9x7, .ref q9x14, .ref q9x22, .int 0, .int 0, .int 0, .int 0, .int 0])), (q9x7, .inl (k9x7, 100, .inl (fun _ => 0))), (q9x14, .inl (k9x14, 4, .inl (fun _ => 0))), (q9x22, .inl (k9x22, 6, .inl (fun _ => 0))), (q17, .inl (k17, 5, .inl (fun _ => 0)))] H := hP
  have hD : va_D A [(h0, .inr (2, [.null, .null, .ref q5, .ref q17, .null, .int 0])), (q5, .inr (3, [.ref q9x7, .ref q9x14, .ref q9x22, .int 0, .int 0, .int 0, .int 0, .int 0])), (q9x7, .inl (k9x7, 100, .inl (fun _ => 0))), (q9x14, .inl (k9x14, 4, .inl (fun _ => 0))), (q9x22, .inl (k9x22, 6, .inl (fun _ => 0))), (q17, .inl (k17, 5, .inl (fun _ => 0)))] := hD
  refine lv_aload_n hx hb dX2_init_22 rfl (lv_at hl 0 rfl) ?_
  refine lv_iconst (v := 5) hx hb dX2_init_23 (by decide) ?_
  refine va_newa (atype := .int) (ty := .int) (N' := 5) (a0 := (5, .inl (fun _ => 0))) hx hb (hts (.arrayClass .int) (by decide +kernel)) rfl hK hP hD hS hA (fun _ => rfl) (by decide) (by decide) (by decide) (Nat.le_of_ble_eq_true rfl) (Nat.le_of_ble_eq_true rfl) dX2_init_24 (fun q24 k24 H hK hP hD hS => ?_)
  have hP : va_P D vwCl [(h0, .inr (2, [.null, .null, .ref q5, .ref q17, .null, .int 0])), (q5, .inr (3, [.ref q9x7, .ref q9x14, .ref q9x22, .int 0, .int 0, .int 0, .int 0, .int 0])), (q9x7, .inl (k9x7, 100, .inl (fun _ => 0))), (q9x14, .inl (k9x14, 4, .inl (fun _ => 0))), (q9x22, .inl (k9x22, 6, .inl (fun _ => 0))), (q17, .inl (k17, 5, .inl (fun _ => 0))), (q24, .inl (k24, 5, .inl (fun _ => 0)))] H := hP
  have hD : va_D A [(h0, .inr (2, [.null, .null, .ref q5, .ref q17, .null, .int 0])), (q5, .inr (3, [.ref q9x7, .ref q9x14, .ref q9x22, .int 0, .int 0, .int 0, .int 0, .int 0])), (q9x7, .inl (k9x7, 100, .inl (fun _ => 0))), (q9x14, .inl (k9x14, 4, .inl (fun _ => 0))), (q9x22, .inl (k9x22, 6, .inl (fun _ => 0))), (q17, .inl (k17, 5, .inl (fun _ => 0))), (q24, .inl (k24, 5, .inl (fun _ => 0)))] := hD
  have hK : va_K D vwCl [(k9x7, .int), (k9x14, .int), (k9x22, .int), (k17, .int), (k24, .int)] s := hK
  refine W.widen (k := 6) (n := 128) (Nat.le_of_ble_eq_true rfl) (Nat.le_of_ble_eq_true rfl) ?_
  refine va_putF (D := D) (ci := 2) (v := .ref q24) (ty := .array .int) (C := RX2) (T := TX2) (N := 6) hx hb hts hws tyX2 tyX2_ok nmX2 hown hK hP hD hS 0 rfl rfl 4 (by decide) (hts (.fieldLink RX2 22 "DayNames$Finds" "names" "[I") (by decide +kernel)) (fun _ h9 => h9) rfl hin rfl (by decide +kernel) rfl rfl (Nat.le_of_ble_eq_true rfl) dX2_init_26 (fun H locs hP hD hS => ?_)
  have hP : va_P D vwCl [(h0, .inr (2, [.null, .null, .ref q5, .ref q17, .ref q24, .int 0])), (q5, .inr (3, [.ref q9x7, .ref q9x14, .ref q9x22, .int 0, .int 0, .int 0, .int 0, .int 0])), (q9x7, .inl (k9x7, 100, .inl (fun _ => 0))), (q9x14, .inl (k9x14, 4, .inl (fun _ => 0))), (q9x22, .inl (k9x22, 6, .inl (fun _ => 0))), (q17, .inl (k17, 5, .inl (fun _ => 0))), (q24, .inl (k24, 5, .inl (fun _ => 0)))] H := hP
  have hD : va_D A [(h0, .inr (2, [.null, .null, .ref q5, .ref q17, .ref q24, .int 0])), (q5, .inr (3, [.ref q9x7, .ref q9x14, .ref q9x22, .int 0, .int 0, .int 0, .int 0, .int 0])), (q9x7, .inl (k9x7, 100, .inl (fun _ => 0))), (q9x14, .inl (k9x14, 4, .inl (fun _ => 0))), (q9x22, .inl (k9x22, 6, .inl (fun _ => 0))), (q17, .inl (k17, 5, .inl (fun _ => 0))), (q24, .inl (k24, 5, .inl (fun _ => 0)))] := hD
  refine lv_aload_n hx hb dX2_init_29 rfl (lv_at hl 0 rfl) ?_
  refine lv_aload_n hx hb dX2_init_30 rfl (lv_at hl 1 rfl) ?_
  refine va_putF (D := D) (ci := 2) (v := .ref a1) (ty := .object "DayNames$Town") (C := RX2) (T := TX2) (N := 6) hx hb hts hws tyX2 tyX2_ok nmX2 hown hK hP hD hS 0 rfl rfl 0 (by decide) (hts (.fieldLink RX2 25 "DayNames$Finds" "town" "LDayNames$Town;") (by decide +kernel)) (fun _ h9 => h9) rfl hin rfl (by decide +kernel) rfl rfl (Nat.le_of_ble_eq_true rfl) dX2_init_31 (fun H locs hP hD hS => ?_)
  have hP : va_P D vwCl [(h0, .inr (2, [.ref a1, .null, .ref q5, .ref q17, .ref q24, .int 0])), (q5, .inr (3, [.ref q9x7, .ref q9x14, .ref q9x22, .int 0, .int 0, .int 0, .int 0, .int 0])), (q9x7, .inl (k9x7, 100, .inl (fun _ => 0))), (q9x14, .inl (k9x14, 4, .inl (fun _ => 0))), (q9x22, .inl (k9x22, 6, .inl (fun _ => 0))), (q17, .inl (k17, 5, .inl (fun _ => 0))), (q24, .inl (k24, 5, .inl (fun _ => 0)))] H := hP
  have hD : va_D A [(h0, .inr (2, [.ref a1, .null, .ref q5, .ref q17, .ref q24, .int 0])), (q5, .inr (3, [.ref q9x7, .ref q9x14, .ref q9x22, .int 0, .int 0, .int 0, .int 0, .int 0])), (q9x7, .inl (k9x7, 100, .inl (fun _ => 0))), (q9x14, .inl (k9x14, 4, .inl (fun _ => 0))), (q9x22, .inl (k9x22, 6, .inl (fun _ => 0))), (q17, .inl (k17, 5, .inl (fun _ => 0))), (q24, .inl (k24, 5, .inl (fun _ => 0)))] := hD
  refine lv_aload_n hx hb dX2_init_34 rfl (lv_at hl 0 rfl) ?_
  refine lv_aload_n hx hb dX2_init_35 rfl (lv_at hl 2 rfl) ?_
  refine va_putF (D := D) (ci := 2) (v := .ref a2) (ty := .object "DayNames$Nights") (C := RX2) (T := TX2) (N := 6) hx hb hts hws tyX2 tyX2_ok nmX2 hown hK hP hD hS 0 rfl rfl 1 (by decide) (hts (.fieldLink RX2 29 "DayNames$Finds" "nights" "LDayNames$Nights;") (by decide +kernel)) (fun _ h9 => h9) rfl hin rfl (by decide +kernel) rfl rfl (Nat.le_of_ble_eq_true rfl) dX2_init_36 (fun H locs hP hD hS => ?_)
  have hP : va_P D vwCl [(h0, .inr (2, [.ref a1, .ref a2, .ref q5, .ref q17, .ref q24, .int 0])), (q5, .inr (3, [.ref q9x7, .ref q9x14, .ref q9x22, .int 0, .int 0, .int 0, .int 0, .int 0])), (q9x7, .inl (k9x7, 100, .inl (fun _ => 0))), (q9x14, .inl (k9x14, 4, .inl (fun _ => 0))), (q9x22, .inl (k9x22, 6, .inl (fun _ => 0))), (q17, .inl (k17, 5, .inl (fun _ => 0))), (q24, .inl (k24, 5, .inl (fun _ => 0)))] H := hP
  have hD : va_D A [(h0, .inr (2, [.ref a1, .ref a2, .ref q5, .ref q17, .ref q24, .int 0])), (q5, .inr (3, [.ref q9x7, .ref q9x14, .ref q9x22, .int 0, .int 0, .int 0, .int 0, .int 0])), (q9x7, .inl (k9x7, 100, .inl (fun _ => 0))), (q9x14, .inl (k9x14, 4, .inl (fun _ => 0))), (q9x22, .inl (k9x22, 6, .inl (fun _ => 0))), (q17, .inl (k17, 5, .inl (fun _ => 0))), (q24, .inl (k24, 5, .inl (fun _ => 0)))] := hD
  have hP9 := hP.sub (ws' := [(h0, .inr (2, [.ref a1, .ref a2, .ref q5, .ref q17, .ref q24, .int 0])), (q5, .inr (3, [.ref q9x7, .ref q9x14, .ref q9x22, .int 0, .int 0, .int 0, .int 0, .int 0])), (q9x7, .inl (k9x7, 100, .inl (fun _ => 0))), (q9x14, .inl (k9x14, 4, .inl (fun _ => 0))), (q9x22, .inl (k9x22, 6, .inl (fun _ => 0))), (q17, .inl (k17, 5, .inl (fun _ => 0))), (q24, .inl (k24, 5, .inl (fun _ => 0)))]) [0, 1, 2, 3, 4, 5, 6] rfl
  have hD9 := hD.sub (ws' := [(h0, .inr (2, [.ref a1, .ref a2, .ref q5, .ref q17, .ref q24, .int 0])), (q5, .inr (3, [.ref q9x7, .ref q9x14, .ref q9x22, .int 0, .int 0, .int 0, .int 0, .int 0])), (q9x7, .inl (k9x7, 100, .inl (fun _ => 0))), (q9x14, .inl (k9x14, 4, .inl (fun _ => 0))), (q9x22, .inl (k9x22, 6, .inl (fun _ => 0))), (q17, .inl (k17, 5, .inl (fun _ => 0))), (q24, .inl (k24, 5, .inl (fun _ => 0)))]) [0, 1, 2, 3, 4, 5, 6] (by decide) rfl
  have hK9 := hK.sub (tys' := [(k9x7, .int), (k9x14, .int), (k9x22, .int), (k17, .int), (k24, .int)]) [0, 1, 2, 3, 4] rfl
  exact W.vret hx hb hr (fun t ht hW => ⟨⟨(), rfl, trivial, q5, q9x7, k9x7, q9x14, k9x14, q9x22, k9x22, q17, k17, q24, k24, by rw [ht]; exact hP9, va_K.moved hW.alike hK9, hD9⟩, hS.F ht⟩) hS.2.2 dX2_init_39
def at_X5 (D : va_G) (A : Nat → Prop) (h0 : Nat) (a1 a2 : Nat) (t : State) : Prop := ∃ (q5 : Nat), ∃ (q9x7 : Nat), ∃ (k9x7 : ClassId), ∃ (q9x14 : Nat), ∃ (k9x14 : ClassId), ∃ (q9x22 : Nat), ∃ (k9x22 : ClassId), va_P D vwCl [(h0, .inr (5, [.ref a1, .ref a2, .ref q5])), (q5, .inr (3, [.ref q9x7, .ref q9x14, .ref q9x22, .int 0, .int 0, .int 0, .int 0, .int 0])), (q9x7, .inl (k9x7, 100, .inl (fun _ => 0))), (q9x14, .inl (k9x14, 4, .inl (fun _ => 0))), (q9x22, .inl (k9x22, 6, .inl (fun _ => 0)))] t.heap ∧ va_K D vwCl [(k9x7, .int), (k9x14, .int), (k9x22, .int)] t ∧ va_D A [(h0, .inr (5, [.ref a1, .ref a2, .ref q5])), (q5, .inr (3, [.ref q9x7, .ref q9x14, .ref q9x22, .int 0, .int 0, .int 0, .int 0, .int 0])), (q9x7, .inl (k9x7, 100, .inl (fun _ => 0))), (q9x14, .inl (k9x14, 4, .inl (fun _ => 0))), (q9x22, .inl (k9x22, 6, .inl (fun _ => 0)))]
set_option maxHeartbeats 4000000 in
set_option maxRecDepth 100000 in
theorem c_X5_init (l : Launch) (D : va_G) (h0 : Nat) (sz : Nat) (a1 a2 : Nat) : Met l yX5_init wsX5_init ({ frames := 2, cells := 4, slots := 118, locals := 40 }) (va_Pc [.ref h0, .ref a1, .ref a2] (fun U => U.heap.size = sz ∧ va_P D vwCl [(h0, .inr (5, [.null, .null, .null]))] U.heap ∧ va_K D vwCl [] U ∧ va_D (fun _ => True) [(h0, .inr (5, [.null, .null, .null]))] ∧ dn_NA U)) (va_Qv (fun _ : Unit => True) (fun _ t => at_X5 D (va_A [(h0, .inr (5, [.null, .null, .null]))] sz) h0 a1 a2 t) (va_A [(h0, .inr (5, [.null, .null, .null]))] sz)) 4 118 (va_A [(h0, .inr (5, [.null, .null, .null]))] sz) := by
  refine Met.ofW (cc := cX5_init) (maxL := 3) (ret := none) (by decide) rfl ?_
  intro p e s m args below meth c s₁ B hml hv
  obtain ⟨rfl, hsz, hP, hK, hD0, hNW⟩ := hv
  have hx := B.exec
  have hb := B.bytes
  have hr := B.returns
  have hts := atoms_spec (ws := wsX5_init) B.pre
  have hown : s.vm.findClass RX5 = some m.cls := findClass_of_methodNamed B.named
  have hlocks := B.notSynchronized
  have hin : meth.name = "<init>" := (name_of_methodNamed B.named B.method).1
  have hws : ∀ w ∈ u_ws RX5 TX5 3, w ∈ wsX5_init := by decide +kernel
  subst hsz
  have hD := hD0.self (sz := s.heap.size)
  generalize hAe : va_A [(h0, .inr (5, [.null, .null, .null]))] s.heap.size = A at hD ⊢
  have hA : ∀ q : Nat, s.heap.size ≤ q → A q := fun q h => by rw [← hAe]; exact Or.inr h
  have hS : va_S A s.heap s.heap [] := va_S.rf
  have hP : va_P D vwCl [(h0, .inr (5, [.null, .null, .null]))] s.heap := hP
  have hl := lv_entry ([.ref h0, .ref a1, .ref a2]) (n := 3) (Nat.le_of_ble_eq_true rfl)
  rw [lg_entry_eq]
  generalize (lg_sl ([.ref h0, .ref a1, .ref a2]) ++ List.replicate (3 - (lg_sl ([.ref h0, .ref a1, .ref a2])).length) Slot.unset).toArray = ls at hl ⊢
  have hl : lv_has ls 3 [(0, .ref h0), (1, .ref a1), (2, .ref a2)] := hl
  refine lv_aload_n hx hb dX5_init_0 rfl (lv_at hl 0 rfl) ?_
  refine W.objInit hx hb hown (hts (.methodLink RX5 3 objectInit) (by decide +kernel)) (hts (.instanceMethod objectInit) (by decide +kernel)) (hts _ (List.mem_of_getElem? (i := 3) rfl)) rfl (by rw [hml]; exact hl.1) rfl dX5_init_1 (Nat.le_of_ble_eq_true rfl) (Nat.le_of_ble_eq_true rfl) ?_
  refine W.eq (g2 := F0 m 4 ls []) rfl ?_
  refine lv_aload_n hx hb dX5_init_4 rfl (lv_at hl 0 rfl) ?_
  refine va_new (ci := 3) (fs := [.null, .null, .null, .int 0, .int 0, .int 0, .int 0, .int 0]) (C := RX3) (T := TX3) (N := 8) hx hb hts (by decide +kernel) tyX3 tyX3_ok hown (hts (.classLink RX5 9 RX3) (by decide +kernel)) (hts (.instantiable RX3 8) (by decide +kernel)) (hts (.initialized RX3) (by decide +kernel)) hK hP hD hS hA rfl (fun j hj => by rcases (show j = 0 ∨ j = 1 ∨ j = 2 ∨ j = 3 ∨ j = 4 ∨ j = 5 ∨ j = 6 ∨ j = 7 by omega) with rfl | rfl | rfl | rfl | rfl | rfl | rfl | rfl <;> rfl) (Nat.le_of_ble_eq_true rfl) (Nat.le_of_ble_eq_true rfl) dX5_init_5 (fun q5 H hP hD hS => ?_)
  have hP : va_P D vwCl [(h0, .inr (5, [.null, .null, .null])), (q5, .inr (3, [.null, .null, .null, .int 0, .int 0, .int 0, .int 0, .int 0]))] H := hP
  have hD : va_D A [(h0, .inr (5, [.null, .null, .null])), (q5, .inr (3, [.null, .null, .null, .int 0, .int 0, .int 0, .int 0, .int 0]))] := hD
  refine W.widen (k := 1) (n := 8) (Nat.le_of_ble_eq_true rfl) (Nat.le_of_ble_eq_true rfl) ?_
  refine lv_dup hx hb dX5_init_8 rfl ?_
  have hPc := hP.sub (ws' := [(q5, .inr (3, [.null, .null, .null, .int 0, .int 0, .int 0, .int 0, .int 0]))]) [1] rfl
  have hDc := hD.sub (ws' := [(q5, .inr (3, [.null, .null, .null, .int 0, .int 0, .int 0, .int 0, .int 0]))]) [1] (by decide) rfl
  have hKc := hK.sub (tys' := []) [] rfl
  have hFc := va_free (wc := [(q5, .inr (3, [.null, .null, .null, .int 0, .int 0, .int 0, .int 0, .int 0]))]) hD hS hA [1] rfl
  refine va_callv (va_runIN (As := []) (rest := [.ref q5, .ref h0]) ⟨hx, hb, hml, hown, hts⟩ (c_X3_init l D q5 H.size ) ⟨va_cnB 0 hts gX5_init_X3_init_n11 rfl rfl rfl (hNW.1 (.methodLinkNest RX5 11 yX3_init RX11) (by decide +kernel)) (hts (.initialized RX3) (by decide +kernel)) ⟨by decide +kernel, by decide +kernel, by decide +kernel⟩ ⟨Nat.le_of_ble_eq_true rfl, Nat.le_of_ble_eq_true rfl⟩, rfl, hts (.instanceMethod yX3_init) (by decide +kernel)⟩ ⟨fun a U g mk q => by obtain ⟨q0, q1, qP, qK, qD, qN⟩ := q; exact ⟨q0, q1, qP, va_K.moved (u := U) (U := U.calling g mk a) (Vm.Alike.refl U.vm) qK, qD, dn_NA.same (s := U) (U := U.calling g mk a) rfl qN⟩, fun U hU hW => ⟨rfl, by rw [hU], by rw [hU]; exact hPc, va_K.moved hW.alike hKc, hDc.weaken (fun _ _ _ _ => trivial), hNW.warm hW⟩⟩ rfl rfl hl.1 rfl (lv_room (Nat.le_of_ble_eq_true rfl)) dX5_init_9 ⟨Nat.le_of_ble_eq_true rfl, Nat.le_of_ble_eq_true rfl⟩) hS (fun q _ h => hFc q h) hFc (fun u t H1 locs ht hvm hu hB hz1 hk1 hS => ?_)
  obtain ⟨q9x7, k9x7, q9x14, k9x14, q9x22, k9x22, hP1, hK1, hD1⟩ := hB
  rw [ht] at hP1
  have hK1 := va_K.moved hvm.symm hK1
  obtain ⟨hP, hD⟩ := va_join (wr := [(h0, .inr (5, [.null, .null, .null]))]) (w1 := [(q5, .inr (3, [.ref q9x7, .ref q9x14, .ref q9x22, .int 0, .int 0, .int 0, .int 0, .int 0])), (q9x7, .inl (k9x7, 100, .inl (fun _ => 0))), (q9x14, .inl (k9x14, 4, .inl (fun _ => 0))), (q9x22, .inl (k9x22, 6, .inl (fun _ => 0)))]) hP hD [1] [0] rfl rfl (by decide) (by decide) hk1 hFc hP1 hD1
  have hK := (hK.sub (tys' := []) [] rfl).app hK1
  generalize H1 = H at hP hS ⊢
  have hP : va_P D vwCl [(h0, .inr (5, [.null, .null, .null])), (q5, .inr (3, [.ref q9x7, .ref q9x14, .ref q9x22, .int 0, .int 0, .int 0, .int 0, .int 0])), (q9x7, .inl (k9x7, 100, .inl (fun _ => 0))), (q9x14, .inl (k9x14, 4, .inl (fun _ => 0))), (q9x22, .inl (k9x22, 6, .inl (fun _ => 0)))] H := hP
  have hD : va_D A [(h0, .inr (5, [.null, .null, .null])), (q5, .inr (3, [.ref q9x7, .ref q9x14, .ref q9x22, .int 0, .int 0, .int 0, .int 0, .int 0])), (q9x7, .inl (k9x7, 100, .inl (fun _ => 0))), (q9x14, .inl (k9x14, 4, .inl (fun _ => 0))), (q9x22, .inl (k9x22, 6, .inl (fun _ => 0)))] := hD
  have hK : va_K D vwCl [(k9x7, .int), (k9x14, .int), (k9x22, .int)] s := hK
  refine W.widen (k := 4) (n := 118) (Nat.le_of_ble_eq_true rfl) (Nat.le_of_ble_eq_true rfl) ?_
  refine va_putF (D := D) (ci := 5) (v := .ref q5) (ty := .object "DayNames$Moment") (C := RX5) (T := TX5) (N := 3) hx hb hts hws tyX5 tyX5_ok nmX5 hown hK hP hD hS 0 rfl rfl 2 (by decide) (hts (.fieldLink RX5 12 "DayNames$Outlook" "ahead" "LDayNames$Moment;") (by decide +kernel)) (fun _ h9 => h9) rfl hin rfl (by decide +kernel) rfl rfl (Nat.le_of_ble_eq_true rfl) dX5_init_12 (fun H locs hP hD hS => ?_)
  have hP : va_P D vwCl [(h0, .inr (5, [.null, .null, .ref q5])), (q5, .inr (3, [.ref q9x7, .ref q9x14, .ref q9x22, .int 0, .int 0, .int 0, .int 0, .int 0])), (q9x7, .inl (k9x7, 100, .inl (fun _ => 0))), (q9x14, .inl (k9x14, 4, .inl (fun _ => 0))), (q9x22, .inl (k9x22, 6, .inl (fun _ => 0)))] H := hP
  have hD : va_D A [(h0, .inr (5, [.null, .null, .ref q5])), (q5, .inr (3, [.ref q9x7, .ref q9x14, .ref q9x22, .int 0, .int 0, .int 0, .int 0, .int 0])), (q9x7, .inl (k9x7, 100, .inl (fun _ => 0))), (q9x14, .inl (k9x14, 4, .inl (fun _ => 0))), (q9x22, .inl (k9x22, 6, .inl (fun _ => 0)))] := hD
  refine lv_aload_n hx hb dX5_init_15 rfl (lv_at hl 0 rfl) ?_
  refine lv_aload_n hx hb dX5_init_16 rfl (lv_at hl 1 rfl) ?_
  refine va_putF (D := D) (ci := 5) (v := .ref a1) (ty := .object "DayNames$Town") (C := RX5) (T := TX5) (N := 3) hx hb hts hws tyX5 tyX5_ok nmX5 hown hK hP hD hS 0 rfl rfl 0 (by decide) (hts (.fieldLink RX5 18 "DayNames$Outlook" "town" "LDayNames$Town;") (by decide +kernel)) (fun _ h9 => h9) rfl hin rfl (by decide +kernel) rfl rfl (Nat.le_of_ble_eq_true rfl) dX5_init_17 (fun H locs hP hD hS => ?_)
  have hP : va_P D vwCl [(h0, .inr (5, [.ref a1, .null, .ref q5])), (q5, .inr (3, [.ref q9x7, .ref q9x14, .ref q9x22, .int 0, .int 0, .int 0, .int 0, .int 0])), (q9x7, .inl (k9x7, 100, .inl (fun _ => 0))), (q9x14, .inl (k9x14, 4, .inl (fun _ => 0))), (q9x22, .inl (k9x22, 6, .inl (fun _ => 0)))] H := hP
  have hD : va_D A [(h0, .inr (5, [.ref a1, .null, .ref q5])), (q5, .inr (3, [.ref q9x7, .ref q9x14, .ref q9x22, .int 0, .int 0, .int 0, .int 0, .int 0])), (q9x7, .inl (k9x7, 100, .inl (fun _ => 0))), (q9x14, .inl (k9x14, 4, .inl (fun _ => 0))), (q9x22, .inl (k9x22, 6, .inl (fun _ => 0)))] := hD
  refine lv_aload_n hx hb dX5_init_20 rfl (lv_at hl 0 rfl) ?_
  refine lv_aload_n hx hb dX5_init_21 rfl (lv_at hl 2 rfl) ?_
  refine va_putF (D := D) (ci := 5) (v := .ref a2) (ty := .object "DayNames$Nights") (C := RX5) (T := TX5) (N := 3) hx hb hts hws tyX5 tyX5_ok nmX5 hown hK hP hD hS 0 rfl rfl 1 (by decide) (hts (.fieldLink RX5 22 "DayNames$Outlook" "nights" "LDayNames$Nights;") (by decide +kernel)) (fun _ h9 => h9) rfl hin rfl (by decide +kernel) rfl rfl (Nat.le_of_ble_eq_true rfl) dX5_init_22 (fun H locs hP hD hS => ?_)
  have hP : va_P D vwCl [(h0, .inr (5, [.ref a1, .ref a2, .ref q5])), (q5, .inr (3, [.ref q9x7, .ref q9x14, .ref q9x22, .int 0, .int 0, .int 0, .int 0, .int 0])), (q9x7, .inl (k9x7, 100, .inl (fun _ => 0))), (q9x14, .inl (k9x14, 4, .inl (fun _ => 0))), (q9x22, .inl (k9x22, 6, .inl (fun _ => 0)))] H := hP
  have hD : va_D A [(h0, .inr (5, [.ref a1, .ref a2, .ref q5])), (q5, .inr (3, [.ref q9x7, .ref q9x14, .ref q9x22, .int 0, .int 0, .int 0, .int 0, .int 0])), (q9x7, .inl (k9x7, 100, .inl (fun _ => 0))), (q9x14, .inl (k9x14, 4, .inl (fun _ => 0))), (q9x22, .inl (k9x22, 6, .inl (fun _ => 0)))] := hD
  have hP9 := hP.sub (ws' := [(h0, .inr (5, [.ref a1, .ref a2, .ref q5])), (q5, .inr (3, [.ref q9x7, .ref q9x14, .ref q9x22, .int 0, .int 0, .int 0, .int 0, .int 0])), (q9x7, .inl (k9x7, 100, .inl (fun _ => 0))), (q9x14, .inl (k9x14, 4, .inl (fun _ => 0))), (q9x22, .inl (k9x22, 6, .inl (fun _ => 0)))]) [0, 1, 2, 3, 4] rfl
  have hD9 := hD.sub (ws' := [(h0, .inr (5, [.ref a1, .ref a2, .ref q5])), (q5, .inr (3, [.ref q9x7, .ref q9x14, .ref q9x22, .int 0, .int 0, .int 0, .int 0, .int 0])), (q9x7, .inl (k9x7, 100, .inl (fun _ => 0))), (q9x14, .inl (k9x14, 4, .inl (fun _ => 0))), (q9x22, .inl (k9x22, 6, .inl (fun _ => 0)))]) [0, 1, 2, 3, 4] (by decide) rfl
  have hK9 := hK.sub (tys' := [(k9x7, .int), (k9x14, .int), (k9x22, .int)]) [0, 1, 2] rfl
  exact W.vret hx hb hr (fun t ht hW => ⟨⟨(), rfl, trivial, q5, q9x7, k9x7, q9x14, k9x14, q9x22, k9x22, by rw [ht]; exact hP9, va_K.moved hW.alike hK9, hD9⟩, hS.F ht⟩) hS.2.2 dX5_init_25
def at_X8 (D : va_G) (A : Nat → Prop) (h0 : Nat) (a1 : Nat) (t : State) : Prop := ∃ (q5 : Nat), ∃ (q9x7 : Nat), ∃ (k9x7 : ClassId), ∃ (q9x15 : Nat), ∃ (k9x15 : ClassId), va_P D vwCl [(h0, .inr (8, [.ref a1, .ref q5, .int 0, .int 0, .int 0, .int 0, .int 0])), (q5, .inr (10, [.ref q9x7, .ref q9x15, .int 0, .int 0, .int 1])), (q9x7, .inl (k9x7, 28, .inl (fun _ => 0))), (q9x15, .inl (k9x15, 30, .inl (fun _ => 0)))] t.heap ∧ va_K D vwCl [(k9x7, .int), (k9x15, .int)] t ∧ va_D A [(h0, .inr (8, [.ref a1, .ref q5, .int 0, .int 0, .int 0, .int 0, .int 0])), (q5, .inr (10, [.ref q9x7, .ref q9x15, .int 0, .int 0, .int 1])), (q9x7, .inl (k9x7, 28, .inl (fun _ => 0))), (q9x15, .inl (k9x15, 30, .inl (fun _ => 0)))]
set_option maxHeartbeats 4000000 in
set_option maxRecDepth 100000 in
theorem c_X8_init (l : Launch) (D : va_G) (h0 : Nat) (sz : Nat) (a1 : Nat) : Met l yX8_init wsX8_init ({ frames := 2, cells := 3, slots := 63, locals := 40 }) (va_Pc [.ref h0, .ref a1] (fun U => U.heap.size = sz ∧ va_P D vwCl [(h0, .inr (8, [.null, .null, .int 0, .int 0, .int 0, .int 0, .int 0]))] U.heap ∧ va_K D vwCl [] U ∧ va_D (fun _ => True) [(h0, .inr (8, [.null, .null, .int 0, .int 0, .int 0, .int 0, .int 0]))] ∧ dn_NA U)) (va_Qv (fun _ : Unit => True) (fun _ t => at_X8 D (va_A [(h0, .inr (8, [.null, .null, .int 0, .int 0, .int 0, .int 0, .int 0]))] sz) h0 a1 t) (va_A [(h0, .inr (8, [.null, .null, .int 0, .int 0, .int 0, .int 0, .int 0]))] sz)) 3 63 (va_A [(h0, .inr (8, [.null, .null, .int 0, .int 0, .int 0, .int 0, .int 0]))] sz) := by
  refine Met.ofW (cc := cX8_init) (maxL := 2) (ret := none) (by decide) rfl ?_
  intro p e s m args below meth c s₁ B hml hv
  obtain ⟨rfl, hsz, hP, hK, hD0, hNW⟩ := hv
  have hx := B.exec
  have hb := B.bytes
  have hr := B.returns
  have hts := atoms_spec (ws := wsX8_init) B.pre
  have hown : s.vm.findClass RX8 = some m.cls := findClass_of_methodNamed B.named
  have hlocks := B.notSynchronized
  have hin : meth.name = "<init>" := (name_of_methodNamed B.named B.method).1
  have hws : ∀ w ∈ u_ws RX8 TX8 7, w ∈ wsX8_init := by decide +kernel
  subst hsz
  have hD := hD0.self (sz := s.heap.size)
  generalize hAe : va_A [(h0, .inr (8, [.null, .null, .int 0, .int 0, .int 0, .int 0, .int 0]))] s.heap.size = A at hD ⊢
  have hA : ∀ q : Nat, s.heap.size ≤ q → A q := fun q h => by rw [← hAe]; exact Or.inr h
  have hS : va_S A s.heap s.heap [] := va_S.rf
  have hP : va_P D vwCl [(h0, .inr (8, [.null, .null, .int 0, .int 0, .int 0, .int 0, .int 0]))] s.heap := hP
  have hl := lv_entry ([.ref h0, .ref a1]) (n := 2) (Nat.le_of_ble_eq_true rfl)
  rw [lg_entry_eq]
  generalize (lg_sl ([.ref h0, .ref a1]) ++ List.replicate (2 - (lg_sl ([.ref h0, .ref a1])).length) Slot.unset).toArray = ls at hl ⊢
  have hl : lv_has ls 2 [(0, .ref h0), (1, .ref a1)] := hl
  refine lv_aload_n hx hb dX8_init_0 rfl (lv_at hl 0 rfl) ?_
  refine W.objInit hx hb hown (hts (.methodLink RX8 3 objectInit) (by decide +kernel)) (hts (.instanceMethod objectInit) (by decide +kernel)) (hts _ (List.mem_of_getElem? (i := 3) rfl)) rfl (by rw [hml]; exact hl.1) rfl dX8_init_1 (Nat.le_of_ble_eq_true rfl) (Nat.le_of_ble_eq_true rfl) ?_
  refine W.eq (g2 := F0 m 4 ls []) rfl ?_
  refine lv_aload_n hx hb dX8_init_4 rfl (lv_at hl 0 rfl) ?_
  refine va_new (ci := 10) (fs := [.null, .null, .int 0, .int 0, .int 0]) (C := RX10) (T := TX10) (N := 5) hx hb hts (by decide +kernel) tyX10 tyX10_ok hown (hts (.classLink RX8 9 RX10) (by decide +kernel)) (hts (.instantiable RX10 5) (by decide +kernel)) (hts (.initialized RX10) (by decide +kernel)) hK hP hD hS hA rfl (fun j hj => by rcases (show j = 0 ∨ j = 1 ∨ j = 2 ∨ j = 3 ∨ j = 4 by omega) with rfl | rfl | rfl | rfl | rfl <;> rfl) (Nat.le_of_ble_eq_true rfl) (Nat.le_of_ble_eq_true rfl) dX8_init_5 (fun q5 H hP hD hS => ?_)
  have hP : va_P D vwCl [(h0, .inr (8, [.null, .null, .int 0, .int 0, .int 0, .int 0, .int 0])), (q5, .inr (10, [.null, .null, .int 0, .int 0, .int 0]))] H := hP
  have hD : va_D A [(h0, .inr (8, [.null, .null, .int 0, .int 0, .int 0, .int 0, .int 0])), (q5, .inr (10, [.null, .null, .int 0, .int 0, .int 0]))] := hD
  refine W.widen (k := 1) (n := 5) (Nat.le_of_ble_eq_true rfl) (Nat.le_of_ble_eq_true rfl) ?_
  refine lv_dup hx hb dX8_init_8 rfl ?_
  have hPc := hP.sub (ws' := [(q5, .inr (10, [.null, .null, .int 0, .int 0, .int 0]))]) [1] rfl
  have hDc := hD.sub (ws' := [(q5, .inr (10, [.null, .null, .int 0, .int 0, .int 0]))]) [1] (by decide) rfl
  have hKc := hK.sub (tys' := []) [] rfl
  have hFc := va_free (wc := [(q5, .inr (10, [.null, .null, .int 0, .int 0, .int 0]))]) hD hS hA [1] rfl
  refine va_callv (va_runIN (As := []) (rest := [.ref q5, .ref h0]) ⟨hx, hb, hml, hown, hts⟩ (c_X10_init l D q5 H.size ) ⟨va_cnB 0 hts gX8_init_X10_init_n11 rfl rfl rfl (hNW.1 (.methodLinkNest RX8 11 yX10_init RX11) (by decide +kernel)) (hts (.initialized RX10) (by decide +kernel)) ⟨by decide +kernel, by decide +kernel, by decide +kernel⟩ ⟨Nat.le_of_ble_eq_true rfl, Nat.le_of_ble_eq_true rfl⟩, rfl, hts (.instanceMethod yX10_init) (by decide +kernel)⟩ ⟨fun a U g mk q => by obtain ⟨q0, q1, qP, qK, qD, qN⟩ := q; exact ⟨q0, q1, qP, va_K.moved (u := U) (U := U.calling g mk a) (Vm.Alike.refl U.vm) qK, qD, dn_NA.same (s := U) (U := U.calling g mk a) rfl qN⟩, fun U hU hW => ⟨rfl, by rw [hU], by rw [hU]; exact hPc, va_K.moved hW.alike hKc, hDc.weaken (fun _ _ _ _ => trivial), hNW.warm hW⟩⟩ rfl rfl hl.1 rfl (lv_room (Nat.le_of_ble_eq_true rfl)) dX8_init_9 ⟨Nat.le_of_ble_eq_true rfl, Nat.le_of_ble_eq_true rfl⟩) hS (fun q _ h => hFc q h) hFc (fun u t H1 locs ht hvm hu hB hz1 hk1 hS => ?_)
  obtain ⟨q9x7, k9x7, q9x15, k9x15, hP1, hK1, hD1⟩ := hB
  rw [ht] at hP1
  have hK1 := va_K.moved hvm.symm hK1
  obtain ⟨hP, hD⟩ := va_join (wr := [(h0, .inr (8, [.null, .null, .int 0, .int 0, .int 0, .int 0, .int 0]))]) (w1 := [(q5, .inr (10, [.ref q9x7, .ref q9x15, .int 0, .int 0, .int 1])), (q9x7, .inl (k9x7, 28, .inl (fun _ => 0))), (q9x15, .inl (k9x15, 30, .inl (fun _ => 0)))]) hP hD [1] [0] rfl rfl (by decide) (by decide) hk1 hFc hP1 hD1
  have hK := (hK.sub (tys' := []) [] rfl).app hK1
  generalize H1 = H at hP hS ⊢
  have hP : va_P D vwCl [(h0, .inr (8, [.null, .null, .int 0, .int 0, .int 0, .int 0, .int 0])), (q5, .inr (10, [.ref q9x7, .ref q9x15, .int 0, .int 0, .int 1])), (q9x7, .inl (k9x7, 28, .inl (fun _ => 0))), (q9x15, .inl (k9x15, 30, .inl (fun _ => 0)))] H := hP
  have hD : va_D A [(h0, .inr (8, [.null, .null, .int 0, .int 0, .int 0, .int 0, .int 0])), (q5, .inr (10, [.ref q9x7, .ref q9x15, .int 0, .int 0, .int 1])), (q9x7, .inl (k9x7, 28, .inl (fun _ => 0))), (q9x15, .inl (k9x15, 30, .inl (fun _ => 0)))] := hD
  have hK : va_K D vwCl [(k9x7, .int), (k9x15, .int)] s := hK
  refine W.widen (k := 3) (n := 63) (Nat.le_of_ble_eq_true rfl) (Nat.le_of_ble_eq_true rfl) ?_
  refine va_putF (D := D) (ci := 8) (v := .ref q5) (ty := .object "DayNames$Town") (C := RX8) (T := TX8) (N := 7) hx hb hts hws tyX8 tyX8_ok nmX8 hown hK hP hD hS 0 rfl rfl 1 (by decide) (hts (.fieldLink RX8 12 "DayNames$Reader" "draft" "LDayNames$Town;") (by decide +kernel)) (fun _ h9 => h9) rfl hin rfl (by decide +kernel) rfl rfl (Nat.le_of_ble_eq_true rfl) dX8_init_12 (fun H locs hP hD hS => ?_)
  have hP : va_P D vwCl [(h0, .inr (8, [.null, .ref q5, .int 0, .int 0, .int 0, .int 0, .int 0])), (q5, .inr (10, [.ref q9x7, .ref q9x15, .int 0, .int 0, .int 1])), (q9x7, .inl (k9x7, 28, .inl (fun _ => 0))), (q9x15, .inl (k9x15, 30, .inl (fun _ => 0)))] H := hP
  have hD : va_D A [(h0, .inr (8, [.null, .ref q5, .int 0, .int 0, .int 0, .int 0, .int 0])), (q5, .inr (10, [.ref q9x7, .ref q9x15, .int 0, .int 0, .int 1])), (q9x7, .inl (k9x7, 28, .inl (fun _ => 0))), (q9x15, .inl (k9x15, 30, .inl (fun _ => 0)))] := hD
  refine lv_aload_n hx hb dX8_init_15 rfl (lv_at hl 0 rfl) ?_
  refine lv_aload_n hx hb dX8_init_16 rfl (lv_at hl 1 rfl) ?_
  refine va_putF (D := D) (ci := 8) (v := .ref a1) (ty := .object "DayNames$Text") (C := RX8) (T := TX8) (N := 7) hx hb hts hws tyX8 tyX8_ok nmX8 hown hK hP hD hS 0 rfl rfl 0 (by decide) (hts (.fieldLink RX8 18 "DayNames$Reader" "text" "LDayNames$Text;") (by decide +kernel)) (fun _ h9 => h9) rfl hin rfl (by decide +kernel) rfl rfl (Nat.le_of_ble_eq_true rfl) dX8_init_17 (fun H locs hP hD hS => ?_)
  have hP : va_P D vwCl [(h0, .inr (8, [.ref a1, .ref q5, .int 0, .int 0, .int 0, .int 0, .int 0])), (q5, .inr (10, [.ref q9x7, .ref q9x15, .int 0, .int 0, .int 1])), (q9x7, .inl (k9x7, 28, .inl (fun _ => 0))), (q9x15, .inl (k9x15, 30, .inl (fun _ => 0)))] H := hP
  have hD : va_D A [(h0, .inr (8, [.ref a1, .ref q5, .int 0, .int 0, .int 0, .int 0, .int 0])), (q5, .inr (10, [.ref q9x7, .ref q9x15, .int 0, .int 0, .int 1])), (q9x7, .inl (k9x7, 28, .inl (fun _ => 0))), (q9x15, .inl (k9x15, 30, .inl (fun _ => 0)))] := hD
  have hP9 := hP.sub (ws' := [(h0, .inr (8, [.ref a1, .ref q5, .int 0, .int 0, .int 0, .int 0, .int 0])), (q5, .inr (10, [.ref q9x7, .ref q9x15, .int 0, .int 0, .int 1])), (q9x7, .inl (k9x7, 28, .inl (fun _ => 0))), (q9x15, .inl (k9x15, 30, .inl (fun _ => 0)))]) [0, 1, 2, 3] rfl
  have hD9 := hD.sub (ws' := [(h0, .inr (8, [.ref a1, .ref q5, .int 0, .int 0, .int 0, .int 0, .int 0])), (q5, .inr (10, [.ref q9x7, .ref q9x15, .int 0, .int 0, .int 1])), (q9x7, .inl (k9x7, 28, .inl (fun _ => 0))), (q9x15, .inl (k9x15, 30, .inl (fun _ => 0)))]) [0, 1, 2, 3] (by decide) rfl
  have hK9 := hK.sub (tys' := [(k9x7, .int), (k9x15, .int)]) [0, 1] rfl
  exact W.vret hx hb hr (fun t ht hW => ⟨⟨(), rfl, trivial, q5, q9x7, k9x7, q9x15, k9x15, by rw [ht]; exact hP9, va_K.moved hW.alike hK9, hD9⟩, hS.F ht⟩) hS.2.2 dX8_init_20
