/-! the law: what its tables and its start give (written by wip/whole/gen_law.py) -/
theorem lw_nwm : dn_nw = ([72, 78, 79, 88, 95, 96, 97, 98, 100, 101, 102, 103, 105, 106, 107, 108, 109, 128, 131, 154, 162, 163, 165, 166, 168, 169, 170, 172, 174, 200, 231, 249, 256, 277, 282, 300, 306, 328, 344, 393, 440, 445, 450, 479, 506, 584, 599, 606, 611, 635, 756, 782, 791, 805] : List Nat).filterMap (fun i => lw_tbl[i]?) := by decide +kernel
theorem lw_NW {s : State} {a : Array Value} (hts : ∀ w ∈ lw_tbl, w.before a s = true) : dn_NW s := by
  intro w hw
  have h1 := dn_nw_isN w hw
  have h2 : w ∈ lw_tbl := by
    rw [lw_nwm] at hw
    obtain ⟨i, -, hi⟩ := List.mem_filterMap.mp hw
    exact List.mem_of_getElem? hi
  cases w <;> first | exact va_Nw.of rfl (hts _ h2) | (exact absurd h1 (by simp [dn_isN]))
theorem lw_AO {s : State} {a : Array Value} (hts : ∀ w ∈ lw_tbl, w.before a s = true) : va_AO "DayNames$Moment" s := va_AO.of (hts _ (List.mem_of_getElem? (i := 299) (by decide +kernel)))
theorem tk_0 : ∀ w ∈ u_ws RX0 TX0 4, w ∈ lw_tbl := fun w h => (goodIn_r (u_ws RX0 TX0 4) [283, 285, 287, 289] (by decide +kernel) (by decide +kernel) w h).1
theorem tn_0 : Cond.instantiable RX0 4 ∈ lw_tbl := List.mem_of_getElem? (i := 271) (by decide +kernel)
theorem tk_1 : ∀ w ∈ u_ws RX1 TX1 2, w ∈ lw_tbl := fun w h => (goodIn_r (u_ws RX1 TX1 2) [206, 208] (by decide +kernel) (by decide +kernel) w h).1
theorem tn_1 : Cond.instantiable RX1 2 ∈ lw_tbl := List.mem_of_getElem? (i := 199) (by decide +kernel)
theorem tk_2 : ∀ w ∈ u_ws RX2 TX2 6, w ∈ lw_tbl := fun w h => (goodIn_r (u_ws RX2 TX2 6) [257, 259, 261, 263, 265, 267] (by decide +kernel) (by decide +kernel) w h).1
theorem tn_2 : Cond.instantiable RX2 6 ∈ lw_tbl := List.mem_of_getElem? (i := 243) (by decide +kernel)
theorem tk_3 : ∀ w ∈ u_ws RX3 TX3 8, w ∈ lw_tbl := fun w h => (goodIn_r (u_ws RX3 TX3 8) [175, 177, 179, 181, 183, 185, 187, 189] (by decide +kernel) (by decide +kernel) w h).1
theorem tn_3 : Cond.instantiable RX3 8 ∈ lw_tbl := List.mem_of_getElem? (i := 153) (by decide +kernel)
theorem tk_4 : ∀ w ∈ u_ws RX4 TX4 4, w ∈ lw_tbl := fun w h => (goodIn_r (u_ws RX4 TX4 4) [215, 217, 219, 221] (by decide +kernel) (by decide +kernel) w h).1
theorem tn_4 : Cond.instantiable RX4 4 ∈ lw_tbl := List.mem_of_getElem? (i := 193) (by decide +kernel)
theorem tk_5 : ∀ w ∈ u_ws RX5 TX5 3, w ∈ lw_tbl := fun w h => (goodIn_r (u_ws RX5 TX5 3) [235, 237, 239] (by decide +kernel) (by decide +kernel) w h).1
theorem tn_5 : Cond.instantiable RX5 3 ∈ lw_tbl := List.mem_of_getElem? (i := 225) (by decide +kernel)
theorem tk_6 : ∀ w ∈ u_ws RX6 TX6 5, w ∈ lw_tbl := fun w h => (goodIn_r (u_ws RX6 TX6 5) [307, 309, 311, 313, 315] (by decide +kernel) (by decide +kernel) w h).1
theorem tn_6 : Cond.instantiable RX6 5 ∈ lw_tbl := List.mem_of_getElem? (i := 293) (by decide +kernel)
theorem tk_7 : ∀ w ∈ u_ws RX7 TX7 3, w ∈ lw_tbl := fun w h => (goodIn_r (u_ws RX7 TX7 3) [329, 331, 333] (by decide +kernel) (by decide +kernel) w h).1
theorem tn_7 : Cond.instantiable RX7 3 ∈ lw_tbl := List.mem_of_getElem? (i := 320) (by decide +kernel)
theorem tk_8 : ∀ w ∈ u_ws RX8 TX8 7, w ∈ lw_tbl := fun w h => (goodIn_r (u_ws RX8 TX8 7) [137, 139, 141, 143, 145, 147, 149] (by decide +kernel) (by decide +kernel) w h).1
theorem tn_8 : Cond.instantiable RX8 7 ∈ lw_tbl := List.mem_of_getElem? (i := 122) (by decide +kernel)
theorem tk_9 : ∀ w ∈ u_ws RX9 TX9 2, w ∈ lw_tbl := fun w h => (goodIn_r (u_ws RX9 TX9 2) [80, 82] (by decide +kernel) (by decide +kernel) w h).1
theorem tn_9 : Cond.instantiable RX9 2 ∈ lw_tbl := List.mem_of_getElem? (i := 71) (by decide +kernel)
theorem tk_10 : ∀ w ∈ u_ws RX10 TX10 5, w ∈ lw_tbl := fun w h => (goodIn_r (u_ws RX10 TX10 5) [110, 112, 114, 116, 118] (by decide +kernel) (by decide +kernel) w h).1
theorem tn_10 : Cond.instantiable RX10 5 ∈ lw_tbl := List.mem_of_getElem? (i := 87) (by decide +kernel)
theorem tk_11 : ∀ w ∈ u_ws RX11 TX11 10, w ∈ lw_tbl := fun w h => (goodIn_r (u_ws RX11 TX11 10) [361, 363, 365, 367, 369, 371, 373, 375, 377, 379] (by decide +kernel) (by decide +kernel) w h).1
theorem tn_11 : Cond.instantiable RX11 10 ∈ lw_tbl := List.mem_of_getElem? (i := 63) (by decide +kernel)
theorem tk_12 : ∀ w ∈ u_ws RX12 TX12 35, w ∈ lw_tbl := fun w h => (goodIn_r (u_ws RX12 TX12 35) [934, 936, 938, 940, 942, 944, 946, 948, 950, 952, 954, 956, 958, 960, 962, 964, 966, 968, 970, 972, 974, 976, 978, 980, 982, 984, 986, 988, 990, 992, 994, 996, 998, 1000, 1002] (by decide +kernel) (by decide +kernel) w h).1
theorem tn_12 : Cond.instantiable RX12 35 ∈ lw_tbl := List.mem_of_getElem? (i := 894) (by decide +kernel)
theorem lw_cls {s : State} {a : Array Value} (hts : ∀ w ∈ lw_tbl, w.before a s = true) : ∃ D : va_G, va_K D vwCl [] s := by
  obtain ⟨c0, i0, h0⟩ := u_known (C := RX0) (T := TX0) (N := 4) (n := 4) hts tk_0 (hts _ tn_0)
  obtain ⟨c1, i1, h1⟩ := u_known (C := RX1) (T := TX1) (N := 2) (n := 2) hts tk_1 (hts _ tn_1)
  obtain ⟨c2, i2, h2⟩ := u_known (C := RX2) (T := TX2) (N := 6) (n := 6) hts tk_2 (hts _ tn_2)
  obtain ⟨c3, i3, h3⟩ := u_known (C := RX3) (T := TX3) (N := 8) (n := 8) hts tk_3 (hts _ tn_3)
  obtain ⟨c4, i4, h4⟩ := u_known (C := RX4) (T := TX4) (N := 4) (n := 4) hts tk_4 (hts _ tn_4)
  obtain ⟨c5, i5, h5⟩ := u_known (C := RX5) (T := TX5) (N := 3) (n := 3) hts tk_5 (hts _ tn_5)
  obtain ⟨c6, i6, h6⟩ := u_known (C := RX6) (T := TX6) (N := 5) (n := 5) hts tk_6 (hts _ tn_6)
  obtain ⟨c7, i7, h7⟩ := u_known (C := RX7) (T := TX7) (N := 3) (n := 3) hts tk_7 (hts _ tn_7)
  obtain ⟨c8, i8, h8⟩ := u_known (C := RX8) (T := TX8) (N := 7) (n := 7) hts tk_8 (hts _ tn_8)
  obtain ⟨c9, i9, h9⟩ := u_known (C := RX9) (T := TX9) (N := 2) (n := 2) hts tk_9 (hts _ tn_9)
  obtain ⟨c10, i10, h10⟩ := u_known (C := RX10) (T := TX10) (N := 5) (n := 5) hts tk_10 (hts _ tn_10)
  obtain ⟨c11, i11, h11⟩ := u_known (C := RX11) (T := TX11) (N := 10) (n := 10) hts tk_11 (hts _ tn_11)
  obtain ⟨c12, i12, h12⟩ := u_known (C := RX12) (T := TX12) (N := 35) (n := 35) hts tk_12 (hts _ tn_12)
  refine ⟨(fun k => match k with | 0 => c0 | 1 => c1 | 2 => c2 | 3 => c3 | 4 => c4 | 5 => c5 | 6 => c6 | 7 => c7 | 8 => c8 | 9 => c9 | 10 => c10 | 11 => c11 | _ => c12, fun k => match k with | 0 => i0 | 1 => i1 | 2 => i2 | 3 => i3 | 4 => i4 | 5 => i5 | 6 => i6 | 7 => i7 | 8 => i8 | 9 => i9 | 10 => i10 | 11 => i11 | _ => i12), fun k q hq => ?_, fun k q h => by simp at h⟩
  match k, hq with
  | 0, hq => cases hq; exact h0
  | 1, hq => cases hq; exact h1
  | 2, hq => cases hq; exact h2
  | 3, hq => cases hq; exact h3
  | 4, hq => cases hq; exact h4
  | 5, hq => cases hq; exact h5
  | 6, hq => cases hq; exact h6
  | 7, hq => cases hq; exact h7
  | 8, hq => cases hq; exact h8
  | 9, hq => cases hq; exact h9
  | 10, hq => cases hq; exact h10
  | 11, hq => cases hq; exact h11
  | 12, hq => cases hq; exact h12
  | k + 13, hq => simp [vwCl] at hq
theorem lw_st0 {s : State} {a : Array Value} {A : Nat → Prop} (hts : ∀ w ∈ lw_tbl, w.before a s = true) (h : ∀ c ∈ flatC (Jvm.Cond.and given_1 narrow_1), c.before a s = true) (hA : ∀ a : Nat, a < s.heap.size → ¬ A a) : ∃ t : Nat, va_Z "DayNames$Reader" "BIDDER_MOST" "[I" (.ref t) A s s.heap ∧ va_T .int t 7 (fun j => .int (dn_st0 j)) A s s.heap := by
  obtain ⟨t, h1, h2⟩ := va_Tof (tm := (Term.static "DayNames$Reader" "BIDDER_MOST" "[I")) (ty := .int) (N := 7) (f := fun j => .int (dn_st0 j)) (A := A) (by decide) (h (.arrayOf (Term.static "DayNames$Reader" "BIDDER_MOST" "[I") .int) (by decide +kernel)) (va_eqt (h (.eq (.length (Term.static "DayNames$Reader" "BIDDER_MOST" "[I")) (.int 7)) (by decide +kernel))) (by
    intro j hj
    match j, hj with
    | 0, _ => exact va_eqt (h (.eq (.elem (Term.static "DayNames$Reader" "BIDDER_MOST" "[I") (.int 0)) (.int 99)) (by decide +kernel))
    | 1, _ => exact va_eqt (h (.eq (.elem (Term.static "DayNames$Reader" "BIDDER_MOST" "[I") (.int 1)) (.int 9)) (by decide +kernel))
    | 2, _ => exact va_eqt (h (.eq (.elem (Term.static "DayNames$Reader" "BIDDER_MOST" "[I") (.int 2)) (.int 20)) (by decide +kernel))
    | 3, _ => exact va_eqt (h (.eq (.elem (Term.static "DayNames$Reader" "BIDDER_MOST" "[I") (.int 3)) (.int 20)) (by decide +kernel))
    | 4, _ => exact va_eqt (h (.eq (.elem (Term.static "DayNames$Reader" "BIDDER_MOST" "[I") (.int 4)) (.int 20)) (by decide +kernel))
    | 5, _ => exact va_eqt (h (.eq (.elem (Term.static "DayNames$Reader" "BIDDER_MOST" "[I") (.int 5)) (.int 20)) (by decide +kernel))
    | 6, _ => exact va_eqt (h (.eq (.elem (Term.static "DayNames$Reader" "BIDDER_MOST" "[I") (.int 6)) (.int 20)) (by decide +kernel))
    | j + 7, hj => exact absurd hj (by omega)) hA
  exact ⟨t, va_Zof (hts (.laysStatic "DayNames$Reader" "BIDDER_MOST" "[I") (List.mem_of_getElem? (i := 439) (by decide +kernel))) (hts (.initialized "DayNames$Reader") (List.mem_of_getElem? (i := 51) (by decide +kernel))) h1 hA, h2⟩
theorem lw_st1 {s : State} {a : Array Value} {A : Nat → Prop} (hts : ∀ w ∈ lw_tbl, w.before a s = true) (h : ∀ c ∈ flatC (Jvm.Cond.and given_1 narrow_1), c.before a s = true) (hA : ∀ a : Nat, a < s.heap.size → ¬ A a) : ∃ t : Nat, va_Z "DayNames$Reader" "DEBT_LEAST" "[I" (.ref t) A s s.heap ∧ va_T .int t 5 (fun j => .int (dn_st1 j)) A s s.heap := by
  obtain ⟨t, h1, h2⟩ := va_Tof (tm := (Term.static "DayNames$Reader" "DEBT_LEAST" "[I")) (ty := .int) (N := 5) (f := fun j => .int (dn_st1 j)) (A := A) (by decide) (h (.arrayOf (Term.static "DayNames$Reader" "DEBT_LEAST" "[I") .int) (by decide +kernel)) (va_eqt (h (.eq (.length (Term.static "DayNames$Reader" "DEBT_LEAST" "[I")) (.int 5)) (by decide +kernel))) (by
    intro j hj
    match j, hj with
    | 0, _ => exact va_eqt (h (.eq (.elem (Term.static "DayNames$Reader" "DEBT_LEAST" "[I") (.int 0)) (.int 0)) (by decide +kernel))
    | 1, _ => exact va_eqt (h (.eq (.elem (Term.static "DayNames$Reader" "DEBT_LEAST" "[I") (.int 1)) (.int 0)) (by decide +kernel))
    | 2, _ => exact va_eqt (h (.eq (.elem (Term.static "DayNames$Reader" "DEBT_LEAST" "[I") (.int 2)) (.int 1)) (by decide +kernel))
    | 3, _ => exact va_eqt (h (.eq (.elem (Term.static "DayNames$Reader" "DEBT_LEAST" "[I") (.int 3)) (.int 1)) (by decide +kernel))
    | 4, _ => exact va_eqt (h (.eq (.elem (Term.static "DayNames$Reader" "DEBT_LEAST" "[I") (.int 4)) (.int 0)) (by decide +kernel))
    | j + 5, hj => exact absurd hj (by omega)) hA
  exact ⟨t, va_Zof (hts (.laysStatic "DayNames$Reader" "DEBT_LEAST" "[I") (List.mem_of_getElem? (i := 466) (by decide +kernel))) (hts (.initialized "DayNames$Reader") (List.mem_of_getElem? (i := 51) (by decide +kernel))) h1 hA, h2⟩
theorem lw_st2 {s : State} {a : Array Value} {A : Nat → Prop} (hts : ∀ w ∈ lw_tbl, w.before a s = true) (h : ∀ c ∈ flatC (Jvm.Cond.and given_1 narrow_1), c.before a s = true) (hA : ∀ a : Nat, a < s.heap.size → ¬ A a) : ∃ t : Nat, va_Z "DayNames$Reader" "DEBT_MOST" "[I" (.ref t) A s s.heap ∧ va_T .int t 5 (fun j => .int (dn_st2 j)) A s s.heap := by
  obtain ⟨t, h1, h2⟩ := va_Tof (tm := (Term.static "DayNames$Reader" "DEBT_MOST" "[I")) (ty := .int) (N := 5) (f := fun j => .int (dn_st2 j)) (A := A) (by decide) (h (.arrayOf (Term.static "DayNames$Reader" "DEBT_MOST" "[I") .int) (by decide +kernel)) (va_eqt (h (.eq (.length (Term.static "DayNames$Reader" "DEBT_MOST" "[I")) (.int 5)) (by decide +kernel))) (by
    intro j hj
    match j, hj with
    | 0, _ => exact va_eqt (h (.eq (.elem (Term.static "DayNames$Reader" "DEBT_MOST" "[I") (.int 0)) (.int 0)) (by decide +kernel))
    | 1, _ => exact va_eqt (h (.eq (.elem (Term.static "DayNames$Reader" "DEBT_MOST" "[I") (.int 1)) (.int 0)) (by decide +kernel))
    | 2, _ => exact va_eqt (h (.eq (.elem (Term.static "DayNames$Reader" "DEBT_MOST" "[I") (.int 2)) (.int 50)) (by decide +kernel))
    | 3, _ => exact va_eqt (h (.eq (.elem (Term.static "DayNames$Reader" "DEBT_MOST" "[I") (.int 3)) (.int 5)) (by decide +kernel))
    | 4, _ => exact va_eqt (h (.eq (.elem (Term.static "DayNames$Reader" "DEBT_MOST" "[I") (.int 4)) (.int 4)) (by decide +kernel))
    | j + 5, hj => exact absurd hj (by omega)) hA
  exact ⟨t, va_Zof (hts (.laysStatic "DayNames$Reader" "DEBT_MOST" "[I") (List.mem_of_getElem? (i := 464) (by decide +kernel))) (hts (.initialized "DayNames$Reader") (List.mem_of_getElem? (i := 51) (by decide +kernel))) h1 hA, h2⟩
theorem lw_stat {s : State} {a : Array Value} {A : Nat → Prop} (hts : ∀ w ∈ lw_tbl, w.before a s = true) (hgv : (Jvm.Cond.and given_1 narrow_1).before a s = true) (hA : ∀ a : Nat, a < s.heap.size → ¬ A a) : ∃ z : Nat × Nat × Nat, dn_SA z A s s.heap := by
  have h := flat_of_before _ hgv
  obtain ⟨t0, a0⟩ := lw_st0 hts h hA
  obtain ⟨t1, a1⟩ := lw_st1 hts h hA
  obtain ⟨t2, a2⟩ := lw_st2 hts h hA
  exact ⟨(t0, t1, t2), a0, a1, a2⟩
theorem dn_RM0 : RM dn_t0 0 dn_T0 (ab_0 dn_T0) := ⟨rfl, rfl, rfl, by decide, fun i hi => absurd hi (Nat.not_lt_zero _), fun b hb => absurd hb (Nat.not_lt_zero _), fun j hj => rfl⟩
theorem dn_Rel0 {σ : dn_S} (h : m_X3_begin 10 3 dn_s0 = some ((), σ)) : Rel σ dn_t0 := by
  obtain ⟨s', e, hM, hC, hf⟩ := cq_begin dn_WT0 dn_CT0
  rw [e] at h
  have he : s' = σ := (Prod.mk.inj (Option.some.inj h)).2
  subst he
  have z : ∀ a j, (a < 10 ∨ 13 < a) → dn_g s' a j = dn_g dn_s0 a j := fun a j q => hf.1 a j (fun r => by omega)
  refine Rel.mk0 (τ := dn_T0) (x := 0) dn_WT0 (dn_CT0.fr hf (fun a j q => by omega)) dn_RT0 hM dn_RM0 hC ⟨rfl, fun h => absurd h (by decide)⟩ (by omega) ?_ ?_ rfl ?_ rfl ?_ rfl ?_ rfl ?_ rfl ?_ rfl hf.2
  · rw [z _ _ (by omega)]; rfl
  · rw [z _ _ (by omega)]; rfl
  · rw [z _ _ (by omega)]; rfl
  · rw [z _ _ (by omega)]; rfl
  · rw [z _ _ (by omega)]; rfl
  · rw [z _ _ (by omega)]; rfl
  · rw [z _ _ (by omega)]; rfl
theorem va_P_right {D : va_G} {cl : List vw_C} {a b : va_W} {H : Heap} (h : va_P D cl (a ++ b) H) : va_P D cl b H := fun k q hq => h (a.length + k) q (by rw [List.getElem?_append_right (by omega)]; rw [Nat.add_sub_cancel_left]; exact hq)
theorem va_P_left {D : va_G} {cl : List vw_C} {a b : va_W} {H : Heap} (h : va_P D cl (a ++ b) H) : va_P D cl a H := fun k q hq => h k q (by rw [List.getElem?_append_left (List.getElem?_eq_some_iff.mp hq).1]; exact hq)
theorem va_D_right {A : Nat → Prop} {a b : va_W} (h : va_D A (a ++ b)) : va_D (fun q => A q ∧ ∀ (i : Nat) (p : Nat × va_E), a[i]? = some p → p.1 ≠ q) b := by
  have g : ∀ (k : Nat) (q : Nat × va_E), b[k]? = some q → (a ++ b)[a.length + k]? = some q := fun k q hq => by rw [List.getElem?_append_right (by omega)]; rw [Nat.add_sub_cancel_left]; exact hq
  refine ⟨fun i j p q hp hq hpq => ?_, fun k q hq => ⟨h.2 _ q (g k q hq), fun i p hp hpq => ?_⟩⟩
  · have := h.1 _ _ p q (g i p hp) (g j q hq) hpq
    omega
  · have hi := (List.getElem?_eq_some_iff.mp hp).1
    have := h.1 i _ p q (by rw [List.getElem?_append_left hi]; exact hp) (g k q hq) hpq
    omega
