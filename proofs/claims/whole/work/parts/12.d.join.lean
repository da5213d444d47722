/-! behind a constructor's call: any list of other cells -/
theorem nd_range : ∀ (n k : Nat), va_nd (List.range' k n) = true := by
  intro n
  induction n with
  | zero => intro k; rfl
  | succ n ih =>
    intro k
    rw [List.range'_succ, va_nd, ih (k + 1), Bool.and_true, decide_eq_true_iff]
    intro h
    rw [List.mem_range'] at h
    obtain ⟨i, _, hi⟩ := h
    omega
theorem dn_join {A0 : Nat → Prop} {D : va_G} {cl : List vw_C} {wr w1 : va_W} {q : Nat} {e : va_E} {H H1 : Heap} (hP : va_P D cl (wr ++ [(q, e)]) H) (hD : va_D A0 (wr ++ [(q, e)]))
    (hk : ∀ x : Nat, x < H.size → ¬ va_A [(q, e)] H.size x → H1[x]? = H[x]?) (hF : ∀ x, va_A [(q, e)] H.size x → A0 x) (hP1 : va_P D cl w1 H1) (hD1 : va_D (va_A [(q, e)] H.size) w1) : va_P D cl (wr ++ w1) H1 ∧ va_D A0 (wr ++ w1) := by
  refine va_join hP hD [wr.length] (List.range' 0 wr.length) (by simp) ?_ (nd_range _ _) (fun i hi => ?_) hk hF hP1 hD1
  · apply List.ext_getElem?
    intro i
    rw [List.getElem?_map, List.getElem?_map]
    by_cases h : i < wr.length
    · rw [List.getElem?_eq_getElem (by simpa using h)]
      simp [h]
      rw [List.getElem?_append_left h, List.getElem?_eq_getElem h]
    · rw [List.getElem?_eq_none (by simpa using h), List.getElem?_eq_none (by simpa using h)]
      rfl
  · rw [List.mem_range'] at hi
    obtain ⟨j, h1, h2⟩ := hi
    simp
    omega
theorem dn_lastP {D : va_G} {cl : List vw_C} {wr : va_W} {q : Nat} {e : va_E} {H : Heap} (hP : va_P D cl (wr ++ [(q, e)]) H) : va_P D cl [(q, e)] H :=
  hP.sub [wr.length] (by simp)
theorem dn_lastD {A0 : Nat → Prop} {wr : va_W} {q : Nat} {e : va_E} (hD : va_D A0 (wr ++ [(q, e)])) : va_D A0 [(q, e)] :=
  hD.sub [wr.length] (by simp [va_nd]) (by simp)
theorem dn_lastF {A0 : Nat → Prop} {wr : va_W} {q : Nat} {e : va_E} {H0 H : Heap} {locs : List Loc} (hD : va_D A0 (wr ++ [(q, e)])) (hS : va_S A0 H0 H locs) (hA : ∀ q, H0.size ≤ q → A0 q) : ∀ x, va_A [(q, e)] H.size x → A0 x :=
  va_free (wc := [(q, e)]) hD hS hA [wr.length] (by simp)
