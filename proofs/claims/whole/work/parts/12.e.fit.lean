/-! from the constructors' explicit cells to the numbered world (written by wip/whole/gen_fit.py) -/
def dn_z0 (k : Nat) : Nat → Int32 := match k with
  | 3 => fun j => match j with | 4 => 1 | _ => 0
  | 7 => fun j => match j with | 4 => 1 | _ => 0
  | _ => fun _ => 0
def dn_s0 : dn_S := (dn_z0, 0)
def dn_zr (k : Nat) : Nat → Int32 := match k with
  | 100 => fun j => match j with | 7 => 1 | 26 => 1 | _ => 0
  | _ => fun _ => 0
def dn_t0 : dn_S := (dn_zr, 0)
def dn_fit (D : va_G) (u : dn_U) (σ : dn_S) (H : Heap) : List Nat → va_W → Prop
  | [], [] => True
  | k :: ks, q :: w => (q.1 = dn_a u k ∧ (va_at D vwCl q H → va_at D vwCl (dn_a u k, dn_c u σ k) H)) ∧ dn_fit D u σ H ks w
  | _, _ => False
theorem dn_fit.app {D : va_G} {u : dn_U} {σ : dn_S} {H : Heap} : ∀ {ks : List Nat} {w : va_W} {ks' : List Nat} {w' : va_W}, dn_fit D u σ H ks w → dn_fit D u σ H ks' w' → dn_fit D u σ H (ks ++ ks') (w ++ w') := by
  intro ks
  induction ks with
  | nil => intro w ks' w' h h'; cases w with
    | nil => exact h'
    | cons q w => exact h.elim
  | cons k ks ih => intro w ks' w' h h'; cases w with
    | nil => exact h.elim
    | cons q w => exact ⟨h.1, ih h.2 h'⟩
theorem dn_fit.get {D : va_G} {u : dn_U} {σ : dn_S} {H : Heap} : ∀ {ks : List Nat} {w : va_W}, dn_fit D u σ H ks w → ∀ (i k : Nat), ks[i]? = some k → ∃ q, w[i]? = some q ∧ q.1 = dn_a u k ∧ (va_at D vwCl q H → va_at D vwCl (dn_a u k, dn_c u σ k) H) := by
  intro ks
  induction ks with
  | nil => intro w h i k hi; simp at hi
  | cons k0 ks ih => intro w h i k hi; cases w with
    | nil => exact h.elim
    | cons q w =>
      cases i with
      | zero => cases hi; exact ⟨q, rfl, h.1⟩
      | succ i => exact ih h.2 i k hi
theorem dn_fit.P {D : va_G} {u : dn_U} {σ : dn_S} {H : Heap} {ks : List Nat} {w : va_W} (h : dn_fit D u σ H ks w) (hL : ∀ k ∈ dn_Lu u, k ∈ ks) (hP : va_P D vwCl w H) : va_P D vwCl (dn_ws u σ) H := by
  intro i q hq
  simp only [dn_ws, List.getElem?_map, Option.map_eq_some_iff] at hq
  obtain ⟨k, hk, rfl⟩ := hq
  obtain ⟨j, hj⟩ := List.getElem?_of_mem (hL k (List.mem_of_getElem? hk))
  obtain ⟨q, h1, h2, h3⟩ := h.get j k hj
  exact h3 (hP j q h1)
theorem dn_fit.I {D : va_G} {A : Nat → Prop} {u : dn_U} {σ : dn_S} {H : Heap} {ks : List Nat} {w : va_W} (h : dn_fit D u σ H ks w) (hL : ∀ k ∈ dn_Lu u, k ∈ ks) (hn : (dn_Lu u).Nodup) (hD : va_D A w) : dn_I u ∧ ∀ q, dn_A u q → A q := by
  refine ⟨⟨hn, fun i hi j hj hij => ?_⟩, fun q hq => ?_⟩
  · obtain ⟨x, hx⟩ := List.getElem?_of_mem (hL i hi)
    obtain ⟨y, hy⟩ := List.getElem?_of_mem (hL j hj)
    obtain ⟨p, p1, p2, -⟩ := h.get x i hx
    obtain ⟨r, r1, r2, -⟩ := h.get y j hy
    have := hD.1 x y p r p1 r1 (by rw [p2, r2, hij])
    subst this
    rw [hx] at hy
    exact Option.some.inj hy
  · obtain ⟨k, hk, rfl⟩ := hq
    obtain ⟨x, hx⟩ := List.getElem?_of_mem (hL k hk)
    obtain ⟨p, p1, p2, -⟩ := h.get x k hx
    rw [← p2]
    exact hD.2 x p p1
theorem dn_arq {n : Nat} {f g : Nat → Option Nat} {c : ClassId} {D : va_G} {q : Nat} {H : Heap} (h : ∀ j, j < n → f j = g j) (hP : va_at D vwCl (q, .inl (c, n, .inr (.inr (.inr (.inr f))))) H) : va_at D vwCl (q, .inl (c, n, .inr (.inr (.inr (.inr g))))) H := by
  have e : vp_cell c (n, .inr (.inr (.inr (.inr f)))) = vp_cell c (n, .inr (.inr (.inr (.inr g)))) := by
    rw [vp_cell_q, vp_cell_q]
    unfold arrV
    have : (fun j : Fin n => va_rf (f j.val)) = fun j : Fin n => va_rf (g j.val) := funext (fun j => by rw [h j.val j.isLt])
    rw [this]
  show H[q]? = some (vp_cell c (n, .inr (.inr (.inr (.inr g)))))
  rw [← e]
  exact hP
theorem va_K_mem {D : va_G} {cl : List vw_C} {t t' : List (ClassId × FieldType)} {s : State} (h : va_K D cl t s) (hs : ∀ x ∈ t', x ∈ t) : va_K D cl t' s := by
  refine ⟨h.1, fun k q hk => ?_⟩
  obtain ⟨i, hi⟩ := List.getElem?_of_mem (hs q (List.mem_of_getElem? hk))
  exact h.2 i q hi
set_option maxRecDepth 100000 in
set_option maxHeartbeats 4000000 in
def is_X9 (h0 : Nat) (w : va_W) (ts : List (ClassId × FieldType)) : Prop := ∃ (q8 : Nat), ∃ (k8 : ClassId), w = [(h0, .inr (9, [.ref q8, .int 0])), (q8, .inl (k8, 200, .inl (fun _ => 0)))] ∧ ts = [(k8, .int)]
set_option maxRecDepth 100000 in
set_option maxHeartbeats 4000000 in
theorem at_X9_w {D : va_G} {A : Nat → Prop} {h0 : Nat} {t : State} (h : at_X9 D A h0  t) : ∃ w ts, is_X9 h0  w ts ∧ va_P D vwCl w t.heap ∧ va_K D vwCl ts t ∧ va_D A w := by
  obtain ⟨q8, k8, h1, h2, h3⟩ := h
  exact ⟨_, _, ⟨q8, k8, rfl, rfl⟩, h1, h2, h3⟩
set_option maxRecDepth 100000 in
set_option maxHeartbeats 4000000 in
def is_X10 (h0 : Nat) (w : va_W) (ts : List (ClassId × FieldType)) : Prop := ∃ (q7 : Nat), ∃ (k7 : ClassId), ∃ (q15 : Nat), ∃ (k15 : ClassId), w = [(h0, .inr (10, [.ref q7, .ref q15, .int 0, .int 0, .int 1])), (q7, .inl (k7, 28, .inl (fun _ => 0))), (q15, .inl (k15, 30, .inl (fun _ => 0)))] ∧ ts = [(k7, .int), (k15, .int)]
set_option maxRecDepth 100000 in
set_option maxHeartbeats 4000000 in
theorem at_X10_w {D : va_G} {A : Nat → Prop} {h0 : Nat} {t : State} (h : at_X10 D A h0  t) : ∃ w ts, is_X10 h0  w ts ∧ va_P D vwCl w t.heap ∧ va_K D vwCl ts t ∧ va_D A w := by
  obtain ⟨q7, k7, q15, k15, h1, h2, h3⟩ := h
  exact ⟨_, _, ⟨q7, k7, q15, k15, rfl, rfl⟩, h1, h2, h3⟩
set_option maxRecDepth 100000 in
set_option maxHeartbeats 4000000 in
def is_X3 (h0 : Nat) (w : va_W) (ts : List (ClassId × FieldType)) : Prop := ∃ (q7 : Nat), ∃ (k7 : ClassId), ∃ (q14 : Nat), ∃ (k14 : ClassId), ∃ (q22 : Nat), ∃ (k22 : ClassId), w = [(h0, .inr (3, [.ref q7, .ref q14, .ref q22, .int 0, .int 0, .int 0, .int 0, .int 0])), (q7, .inl (k7, 100, .inl (fun _ => 0))), (q14, .inl (k14, 4, .inl (fun _ => 0))), (q22, .inl (k22, 6, .inl (fun _ => 0)))] ∧ ts = [(k7, .int), (k14, .int), (k22, .int)]
set_option maxRecDepth 100000 in
set_option maxHeartbeats 4000000 in
theorem at_X3_w {D : va_G} {A : Nat → Prop} {h0 : Nat} {t : State} (h : at_X3 D A h0  t) : ∃ w ts, is_X3 h0  w ts ∧ va_P D vwCl w t.heap ∧ va_K D vwCl ts t ∧ va_D A w := by
  obtain ⟨q7, k7, q14, k14, q22, k22, h1, h2, h3⟩ := h
  exact ⟨_, _, ⟨q7, k7, q14, k14, q22, k22, rfl, rfl⟩, h1, h2, h3⟩
set_option maxRecDepth 100000 in
set_option maxHeartbeats 4000000 in
def is_X1 (h0 : Nat) (w : va_W) (ts : List (ClassId × FieldType)) : Prop := ∃ (q6 : Nat), ∃ (k6 : ClassId), ∃ (q13 : Nat), ∃ (k13 : ClassId), w = [(h0, .inr (1, [.ref q6, .ref q13])), (q6, .inl (k6, 5, .inl (fun _ => 0))), (q13, .inl (k13, 5, .inl (fun _ => 0)))] ∧ ts = [(k6, .int), (k13, .int)]
set_option maxRecDepth 100000 in
set_option maxHeartbeats 4000000 in
theorem at_X1_w {D : va_G} {A : Nat → Prop} {h0 : Nat} {t : State} (h : at_X1 D A h0  t) : ∃ w ts, is_X1 h0  w ts ∧ va_P D vwCl w t.heap ∧ va_K D vwCl ts t ∧ va_D A w := by
  obtain ⟨q6, k6, q13, k13, h1, h2, h3⟩ := h
  exact ⟨_, _, ⟨q6, k6, q13, k13, rfl, rfl⟩, h1, h2, h3⟩
set_option maxRecDepth 100000 in
set_option maxHeartbeats 4000000 in
def is_X7 (h0 : Nat) (a1 a2 : Nat) (w : va_W) (ts : List (ClassId × FieldType)) : Prop := w = [(h0, .inr (7, [.ref a1, .ref a2, .long 0]))] ∧ ts = []
set_option maxRecDepth 100000 in
set_option maxHeartbeats 4000000 in
theorem at_X7_w {D : va_G} {A : Nat → Prop} {h0 : Nat} {a1 a2 : Nat} {t : State} (h : at_X7 D A h0 a1 a2 t) : ∃ w ts, is_X7 h0 a1 a2 w ts ∧ va_P D vwCl w t.heap ∧ va_K D vwCl ts t ∧ va_D A w := by
  obtain ⟨h1, h2, h3⟩ := h
  exact ⟨_, _, ⟨rfl, rfl⟩, h1, h2, h3⟩
set_option maxRecDepth 100000 in
set_option maxHeartbeats 4000000 in
def is_X4 (h0 : Nat) (a1 : Nat) (w : va_W) (ts : List (ClassId × FieldType)) : Prop := ∃ (q5 : Nat), ∃ (q9x6 : Nat), ∃ (k9x6 : ClassId), ∃ (q9x13 : Nat), ∃ (k9x13 : ClassId), w = [(h0, .inr (4, [.ref a1, .ref q5, .int 0, .int 0])), (q5, .inr (1, [.ref q9x6, .ref q9x13])), (q9x6, .inl (k9x6, 5, .inl (fun _ => 0))), (q9x13, .inl (k9x13, 5, .inl (fun _ => 0)))] ∧ ts = [(k9x6, .int), (k9x13, .int)]
set_option maxRecDepth 100000 in
set_option maxHeartbeats 4000000 in
theorem at_X4_w {D : va_G} {A : Nat → Prop} {h0 : Nat} {a1 : Nat} {t : State} (h : at_X4 D A h0 a1 t) : ∃ w ts, is_X4 h0 a1 w ts ∧ va_P D vwCl w t.heap ∧ va_K D vwCl ts t ∧ va_D A w := by
  obtain ⟨q5, q9x6, k9x6, q9x13, k9x13, h1, h2, h3⟩ := h
  exact ⟨_, _, ⟨q5, q9x6, k9x6, q9x13, k9x13, rfl, rfl⟩, h1, h2, h3⟩
set_option maxRecDepth 100000 in
set_option maxHeartbeats 4000000 in
def is_X0 (h0 : Nat) (a1 : Nat) (w : va_W) (ts : List (ClassId × FieldType)) : Prop := ∃ (q5 : Nat), ∃ (q9x7 : Nat), ∃ (k9x7 : ClassId), ∃ (q9x14 : Nat), ∃ (k9x14 : ClassId), ∃ (q9x22 : Nat), ∃ (k9x22 : ClassId), ∃ (q18 : Nat), ∃ (k18 : ClassId), w = [(h0, .inr (0, [.ref a1, .ref q5, .ref q18, .int 0])), (q5, .inr (3, [.ref q9x7, .ref q9x14, .ref q9x22, .int 0, .int 0, .int 0, .int 0, .int 0])), (q9x7, .inl (k9x7, 100, .inl (fun _ => 0))), (q9x14, .inl (k9x14, 4, .inl (fun _ => 0))), (q9x22, .inl (k9x22, 6, .inl (fun _ => 0))), (q18, .inl (k18, 8, .inl (fun _ => 0)))] ∧ ts = [(k9x7, .int), (k9x14, .int), (k9x22, .int), (k18, .int)]
set_option maxRecDepth 100000 in
set_option maxHeartbeats 4000000 in
theorem at_X0_w {D : va_G} {A : Nat → Prop} {h0 : Nat} {a1 : Nat} {t : State} (h : at_X0 D A h0 a1 t) : ∃ w ts, is_X0 h0 a1 w ts ∧ va_P D vwCl w t.heap ∧ va_K D vwCl ts t ∧ va_D A w := by
  obtain ⟨q5, q9x7, k9x7, q9x14, k9x14, q9x22, k9x22, q18, k18, h1, h2, h3⟩ := h
  exact ⟨_, _, ⟨q5, q9x7, k9x7, q9x14, k9x14, q9x22, k9x22, q18, k18, rfl, rfl⟩, h1, h2, h3⟩
set_option maxRecDepth 100000 in
set_option maxHeartbeats 4000000 in
def is_X2 (h0 : Nat) (a1 a2 : Nat) (w : va_W) (ts : List (ClassId × FieldType)) : Prop := ∃ (q5 : Nat), ∃ (q9x7 : Nat), ∃ (k9x7 : ClassId), ∃ (q9x14 : Nat), ∃ (k9x14 : ClassId), ∃ (q9x22 : Nat), ∃ (k9x22 : ClassId), ∃ (q17 : Nat), ∃ (k17 : ClassId), ∃ (q24 : Nat), ∃ (k24 : ClassId), w = [(h0, .inr (2, [.ref a1, .ref a2, .ref q5, .ref q17, .ref q24, .int 0])), (q5, .inr (3, [.ref q9x7, .ref q9x14, .ref q9x22, .int 0, .int 0, .int 0, .int 0, .int 0])), (q9x7, .inl (k9x7, 100, .inl (fun _ => 0))), (q9x14, .inl (k9x14, 4, .inl (fun _ => 0))), (q9x22, .inl (k9x22, 6, .inl (fun _ => 0))), (q17, .inl (k17, 5, .inl (fun _ => 0))), (q24, .inl (k24, 5, .inl (fun _ => 0)))] ∧ ts = [(k9x7, .int), (k9x14, .int), (k9x22, .int), (k17, .int), (k24, .int)]
set_option maxRecDepth 100000 in
set_option maxHeartbeats 4000000 in
theorem at_X2_w {D : va_G} {A : Nat → Prop} {h0 : Nat} {a1 a2 : Nat} {t : State} (h : at_X2 D A h0 a1 a2 t) : ∃ w ts, is_X2 h0 a1 a2 w ts ∧ va_P D vwCl w t.heap ∧ va_K D vwCl ts t ∧ va_D A w := by
  obtain ⟨q5, q9x7, k9x7, q9x14, k9x14, q9x22, k9x22, q17, k17, q24, k24, h1, h2, h3⟩ := h
  exact ⟨_, _, ⟨q5, q9x7, k9x7, q9x14, k9x14, q9x22, k9x22, q17, k17, q24, k24, rfl, rfl⟩, h1, h2, h3⟩
set_option maxRecDepth 100000 in
set_option maxHeartbeats 4000000 in
def is_X5 (h0 : Nat) (a1 a2 : Nat) (w : va_W) (ts : List (ClassId × FieldType)) : Prop := ∃ (q5 : Nat), ∃ (q9x7 : Nat), ∃ (k9x7 : ClassId), ∃ (q9x14 : Nat), ∃ (k9x14 : ClassId), ∃ (q9x22 : Nat), ∃ (k9x22 : ClassId), w = [(h0, .inr (5, [.ref a1, .ref a2, .ref q5])), (q5, .inr (3, [.ref q9x7, .ref q9x14, .ref q9x22, .int 0, .int 0, .int 0, .int 0, .int 0])), (q9x7, .inl (k9x7, 100, .inl (fun _ => 0))), (q9x14, .inl (k9x14, 4, .inl (fun _ => 0))), (q9x22, .inl (k9x22, 6, .inl (fun _ => 0)))] ∧ ts = [(k9x7, .int), (k9x14, .int), (k9x22, .int)]
set_option maxRecDepth 100000 in
set_option maxHeartbeats 4000000 in
theorem at_X5_w {D : va_G} {A : Nat → Prop} {h0 : Nat} {a1 a2 : Nat} {t : State} (h : at_X5 D A h0 a1 a2 t) : ∃ w ts, is_X5 h0 a1 a2 w ts ∧ va_P D vwCl w t.heap ∧ va_K D vwCl ts t ∧ va_D A w := by
  obtain ⟨q5, q9x7, k9x7, q9x14, k9x14, q9x22, k9x22, h1, h2, h3⟩ := h
  exact ⟨_, _, ⟨q5, q9x7, k9x7, q9x14, k9x14, q9x22, k9x22, rfl, rfl⟩, h1, h2, h3⟩
set_option maxRecDepth 100000 in
set_option maxHeartbeats 4000000 in
def is_X8 (h0 : Nat) (a1 : Nat) (w : va_W) (ts : List (ClassId × FieldType)) : Prop := ∃ (q5 : Nat), ∃ (q9x7 : Nat), ∃ (k9x7 : ClassId), ∃ (q9x15 : Nat), ∃ (k9x15 : ClassId), w = [(h0, .inr (8, [.ref a1, .ref q5, .int 0, .int 0, .int 0, .int 0, .int 0])), (q5, .inr (10, [.ref q9x7, .ref q9x15, .int 0, .int 0, .int 1])), (q9x7, .inl (k9x7, 28, .inl (fun _ => 0))), (q9x15, .inl (k9x15, 30, .inl (fun _ => 0)))] ∧ ts = [(k9x7, .int), (k9x15, .int)]
set_option maxRecDepth 100000 in
set_option maxHeartbeats 4000000 in
theorem at_X8_w {D : va_G} {A : Nat → Prop} {h0 : Nat} {a1 : Nat} {t : State} (h : at_X8 D A h0 a1 t) : ∃ w ts, is_X8 h0 a1 w ts ∧ va_P D vwCl w t.heap ∧ va_K D vwCl ts t ∧ va_D A w := by
  obtain ⟨q5, q9x7, k9x7, q9x15, k9x15, h1, h2, h3⟩ := h
  exact ⟨_, _, ⟨q5, q9x7, k9x7, q9x15, k9x15, rfl, rfl⟩, h1, h2, h3⟩
set_option maxRecDepth 100000 in
set_option maxHeartbeats 4000000 in
def is_X6 (h0 : Nat) (w : va_W) (ts : List (ClassId × FieldType)) : Prop := ∃ (f : Nat → Nat), ∃ (g : Nat → ClassId), w = [(h0, .inr (6, [.ref (f 0), .ref (f 1), .ref (f 2), .int 0, .int 0])), ((f 0), .inl ((g 0), 10, .inr (.inr (.inr (.inr (va_up (va_up (va_up (va_up (va_up (va_up (va_up (va_up (va_up (va_up (fun _ => none) 0 (some (f 3))) 1 (some (f 7))) 2 (some (f 11))) 3 (some (f 15))) 4 (some (f 19))) 5 (some (f 23))) 6 (some (f 27))) 7 (some (f 31))) 8 (some (f 35))) 9 (some (f 39)))))))), ((f 1), .inl ((g 1), 2, .inr (.inr (.inr (.inr (va_up (va_up (fun _ => none) 0 (some (f 43))) 1 (some (f 47)))))))), ((f 2), .inl ((g 2), 2, .inl (fun _ => 0))), ((f 3), .inr (3, [.ref (f 4), .ref (f 5), .ref (f 6), .int 0, .int 0, .int 0, .int 0, .int 0])), ((f 4), .inl ((g 3), 100, .inl (fun _ => 0))), ((f 5), .inl ((g 4), 4, .inl (fun _ => 0))), ((f 6), .inl ((g 5), 6, .inl (fun _ => 0))), ((f 7), .inr (3, [.ref (f 8), .ref (f 9), .ref (f 10), .int 0, .int 0, .int 0, .int 0, .int 0])), ((f 8), .inl ((g 6), 100, .inl (fun _ => 0))), ((f 9), .inl ((g 7), 4, .inl (fun _ => 0))), ((f 10), .inl ((g 8), 6, .inl (fun _ => 0))), ((f 11), .inr (3, [.ref (f 12), .ref (f 13), .ref (f 14), .int 0, .int 0, .int 0, .int 0, .int 0])), ((f 12), .inl ((g 9), 100, .inl (fun _ => 0))), ((f 13), .inl ((g 10), 4, .inl (fun _ => 0))), ((f 14), .inl ((g 11), 6, .inl (fun _ => 0))), ((f 15), .inr (3, [.ref (f 16), .ref (f 17), .ref (f 18), .int 0, .int 0, .int 0, .int 0, .int 0])), ((f 16), .inl ((g 12), 100, .inl (fun _ => 0))), ((f 17), .inl ((g 13), 4, .inl (fun _ => 0))), ((f 18), .inl ((g 14), 6, .inl (fun _ => 0))), ((f 19), .inr (3, [.ref (f 20), .ref (f 21), .ref (f 22), .int 0, .int 0, .int 0, .int 0, .int 0])), ((f 20), .inl ((g 15), 100, .inl (fun _ => 0))), ((f 21), .inl ((g 16), 4, .inl (fun _ => 0))), ((f 22), .inl ((g 17), 6, .inl (fun _ => 0))), ((f 23), .inr (3, [.ref (f 24), .ref (f 25), .ref (f 26), .int 0, .int 0, .int 0, .int 0, .int 0])), ((f 24), .inl ((g 18), 100, .inl (fun _ => 0))), ((f 25), .inl ((g 19), 4, .inl (fun _ => 0))), ((f 26), .inl ((g 20), 6, .inl (fun _ => 0))), ((f 27), .inr (3, [.ref (f 28), .ref (f 29), .ref (f 30), .int 0, .int 0, .int 0, .int 0, .int 0])), ((f 28), .inl ((g 21), 100, .inl (fun _ => 0))), ((f 29), .inl ((g 22), 4, .inl (fun _ => 0))), ((f 30), .inl ((g 23), 6, .inl (fun _ => 0))), ((f 31), .inr (3, [.ref (f 32), .ref (f 33), .ref (f 34), .int 0, .int 0, .int 0, .int 0, .int 0])), ((f 32), .inl ((g 24), 100, .inl (fun _ => 0))), ((f 33), .inl ((g 25), 4, .inl (fun _ => 0))), ((f 34), .inl ((g 26), 6, .inl (fun _ => 0))), ((f 35), .inr (3, [.ref (f 36), .ref (f 37), .ref (f 38), .int 0, .int 0, .int 0, .int 0, .int 0])), ((f 36), .inl ((g 27), 100, .inl (fun _ => 0))), ((f 37), .inl ((g 28), 4, .inl (fun _ => 0))), ((f 38), .inl ((g 29), 6, .inl (fun _ => 0))), ((f 39), .inr (3, [.ref (f 40), .ref (f 41), .ref (f 42), .int 0, .int 0, .int 0, .int 0, .int 0])), ((f 40), .inl ((g 30), 100, .inl (fun _ => 0))), ((f 41), .inl ((g 31), 4, .inl (fun _ => 0))), ((f 42), .inl ((g 32), 6, .inl (fun _ => 0))), ((f 43), .inr (3, [.ref (f 44), .ref (f 45), .ref (f 46), .int 0, .int 0, .int 0, .int 0, .int 0])), ((f 44), .inl ((g 33), 100, .inl (fun _ => 0))), ((f 45), .inl ((g 34), 4, .inl (fun _ => 0))), ((f 46), .inl ((g 35), 6, .inl (fun _ => 0))), ((f 47), .inr (3, [.ref (f 48), .ref (f 49), .ref (f 50), .int 0, .int 0, .int 0, .int 0, .int 0])), ((f 48), .inl ((g 36), 100, .inl (fun _ => 0))), ((f 49), .inl ((g 37), 4, .inl (fun _ => 0))), ((f 50), .inl ((g 38), 6, .inl (fun _ => 0)))] ∧ ts = [((g 0), .object "DayNames$Moment"), ((g 1), .object "DayNames$Moment"), ((g 2), .boolean), ((g 3), .int), ((g 4), .int), ((g 5), .int), ((g 6), .int), ((g 7), .int), ((g 8), .int), ((g 9), .int), ((g 10), .int), ((g 11), .int), ((g 12), .int), ((g 13), .int), ((g 14), .int), ((g 15), .int), ((g 16), .int), ((g 17), .int), ((g 18), .int), ((g 19), .int), ((g 20), .int), ((g 21), .int), ((g 22), .int), ((g 23), .int), ((g 24), .int), ((g 25), .int), ((g 26), .int), ((g 27), .int), ((g 28), .int), ((g 29), .int), ((g 30), .int), ((g 31), .int), ((g 32), .int), ((g 33), .int), ((g 34), .int), ((g 35), .int), ((g 36), .int), ((g 37), .int), ((g 38), .int)]
set_option maxRecDepth 100000 in
set_option maxHeartbeats 4000000 in
theorem at_X6_w {D : va_G} {A : Nat → Prop} {h0 : Nat} {t : State} (h : at_X6 D A h0  t) : ∃ w ts, is_X6 h0  w ts ∧ va_P D vwCl w t.heap ∧ va_K D vwCl ts t ∧ va_D A w := by
  obtain ⟨f, g, h1, h2, h3⟩ := h
  exact ⟨_, _, ⟨f, g, rfl, rfl⟩, h1, h2, h3⟩
set_option maxRecDepth 100000 in
set_option maxHeartbeats 4000000 in
def is_X12 (h0 : Nat) (w : va_W) (ts : List (ClassId × FieldType)) : Prop := ∃ (q8 : Nat), ∃ (k8 : ClassId), ∃ (q15 : Nat), ∃ (k15 : ClassId), ∃ (q22 : Nat), ∃ (k22 : ClassId), ∃ (q29 : Nat), ∃ (k29 : ClassId), ∃ (q37 : Nat), ∃ (k37 : ClassId), ∃ (q50 : Nat), ∃ (k50 : ClassId), ∃ (q57 : Nat), ∃ (k57 : ClassId), ∃ (q64 : Nat), ∃ (k64 : ClassId), ∃ (q72 : Nat), ∃ (k72 : ClassId), ∃ (q81 : Nat), ∃ (k81 : ClassId), ∃ (q88 : Nat), ∃ (k88 : ClassId), ∃ (q95 : Nat), ∃ (k95 : ClassId), ∃ (q103 : Nat), ∃ (k103 : ClassId), ∃ (q111 : Nat), ∃ (k111 : ClassId), ∃ (q118 : Nat), ∃ (k118 : ClassId), ∃ (q125 : Nat), ∃ (k125 : ClassId), w = [(h0, .inr (12, [.ref q8, .int 0, .ref q15, .int 0, .ref q22, .ref q29, .ref q37, .int 1, .int 0, .ref q50, .int 0, .ref q57, .ref q64, .int 0, .ref q72, .long 0, .ref q81, .int 0, .int 0, .int 0, .int 0, .int 0, .int 0, .ref q88, .ref q95, .ref q103, .int 1, .int 0, .int 0, .ref q111, .ref q118, .ref q125, .int 0, .int 0, .int 0])), (q8, .inl (k8, 1680, .inl (fun _ => 0))), (q15, .inl (k15, 2, .inl (fun _ => 0))), (q22, .inl (k22, 4, .inl (fun _ => 0))), (q29, .inl (k29, 4, .inl (fun _ => 0))), (q37, .inl (k37, 20, .inl (fun _ => 0))), (q50, .inl (k50, 30, .inl (fun _ => 0))), (q57, .inl (k57, 5, .inl (fun _ => 0))), (q64, .inl (k64, 5, .inl (fun _ => 0))), (q72, .inl (k72, 8, .inl (fun _ => 0))), (q81, .inl (k81, 200, .inl (fun _ => 0))), (q88, .inl (k88, 4, .inl (fun _ => 0))), (q95, .inl (k95, 4, .inl (fun _ => 0))), (q103, .inl (k103, 20, .inl (fun _ => 0))), (q111, .inl (k111, 30, .inl (fun _ => 0))), (q118, .inl (k118, 5, .inl (fun _ => 0))), (q125, .inl (k125, 5, .inl (fun _ => 0)))] ∧ ts = [(k8, .int), (k15, .boolean), (k22, .int), (k29, .int), (k37, .int), (k50, .int), (k57, .int), (k64, .int), (k72, .int), (k81, .int), (k88, .int), (k95, .int), (k103, .int), (k111, .int), (k118, .int), (k125, .int)]
set_option maxRecDepth 100000 in
set_option maxHeartbeats 4000000 in
theorem at_X12_w {D : va_G} {A : Nat → Prop} {h0 : Nat} {t : State} (h : at_X12 D A h0  t) : ∃ w ts, is_X12 h0  w ts ∧ va_P D vwCl w t.heap ∧ va_K D vwCl ts t ∧ va_D A w := by
  obtain ⟨q8, k8, q15, k15, q22, k22, q29, k29, q37, k37, q50, k50, q57, k57, q64, k64, q72, k72, q81, k81, q88, k88, q95, k95, q103, k103, q111, k111, q118, k118, q125, k125, h1, h2, h3⟩ := h
  exact ⟨_, _, ⟨q8, k8, q15, k15, q22, k22, q29, k29, q37, k37, q50, k50, q57, k57, q64, k64, q72, k72, q81, k81, q88, k88, q95, k95, q103, k103, q111, k111, q118, k118, q125, k125, rfl, rfl⟩, h1, h2, h3⟩
set_option maxRecDepth 100000 in
set_option maxHeartbeats 4000000 in
theorem fit_X9 {D : va_G} {q  : Nat} {w : va_W} {t : List (ClassId × FieldType)} {s : State} {kI : ClassId} (h : is_X9 q  w t) (hK : va_K D vwCl t s) (hI : s.vm.findClass ("[" ++ FieldType.int.toString) = some kI) : ∃ f : Nat → Nat, f 1 = q ∧ ∀ (u : dn_U) (H : Heap), (∀ k, 1 ≤ k → k ≤ 2 → dn_a u k = f k) → u.2.2.1.1 = kI → dn_fit D u dn_s0 H [1, 2] w := by
  obtain ⟨q8, k8, rfl, rfl⟩ := h
  have e0 : k8 = kI := Option.some.inj ((hK.2 0 _ rfl).2.symm.trans hI)
  refine ⟨fun k => dn_at [q, q8] (k - 1), rfl, fun u H ha  hkI => ?_⟩
  clear hK hI
  have c1 : dn_a u 1 = q := ha 1 (by decide) (by decide)
  have c2 : dn_a u 2 = q8 := ha 2 (by decide) (by decide)
  clear ha
  rw [← hkI] at e0
  subst e0
  subst c1
  subst c2
  exact ⟨⟨rfl, fun h => h⟩,
    ⟨rfl, fun h => h⟩, trivial⟩
set_option maxRecDepth 100000 in
set_option maxHeartbeats 4000000 in
theorem fit_X10 {D : va_G} {q  : Nat} {w : va_W} {t : List (ClassId × FieldType)} {s : State} {kI : ClassId} (h : is_X10 q  w t) (hK : va_K D vwCl t s) (hI : s.vm.findClass ("[" ++ FieldType.int.toString) = some kI) : ∃ f : Nat → Nat, f 3 = q ∧ ∀ (u : dn_U) (H : Heap), (∀ k, 3 ≤ k → k ≤ 5 → dn_a u k = f k) → u.2.2.1.1 = kI → dn_fit D u dn_s0 H [3, 4, 5] w := by
  obtain ⟨q7, k7, q15, k15, rfl, rfl⟩ := h
  have e0 : k7 = kI := Option.some.inj ((hK.2 0 _ rfl).2.symm.trans hI)
  have e1 : k15 = kI := Option.some.inj ((hK.2 1 _ rfl).2.symm.trans hI)
  refine ⟨fun k => dn_at [q, q7, q15] (k - 3), rfl, fun u H ha  hkI => ?_⟩
  clear hK hI
  have c3 : dn_a u 3 = q := ha 3 (by decide) (by decide)
  have c4 : dn_a u 4 = q7 := ha 4 (by decide) (by decide)
  have c5 : dn_a u 5 = q15 := ha 5 (by decide) (by decide)
  clear ha
  rw [← hkI] at e0
  subst e0
  rw [← hkI] at e1
  subst e1
  subst c3
  subst c4
  subst c5
  exact ⟨⟨rfl, fun h => h⟩,
    ⟨rfl, fun h => h⟩,
    ⟨rfl, fun h => h⟩, trivial⟩
set_option maxRecDepth 100000 in
set_option maxHeartbeats 4000000 in
theorem fit_X8 {D : va_G} {q a1 : Nat} {w : va_W} {t : List (ClassId × FieldType)} {s : State} {kI : ClassId} (h : is_X8 q a1 w t) (hK : va_K D vwCl t s) (hI : s.vm.findClass ("[" ++ FieldType.int.toString) = some kI) : ∃ f : Nat → Nat, f 6 = q ∧ ∀ (u : dn_U) (H : Heap), (∀ k, 6 ≤ k → k ≤ 9 → dn_a u k = f k) → dn_a u 1 = a1 → u.2.2.1.1 = kI → dn_fit D u dn_s0 H [6, 7, 8, 9] w := by
  obtain ⟨q5, q9x7, k9x7, q9x15, k9x15, rfl, rfl⟩ := h
  have e0 : k9x7 = kI := Option.some.inj ((hK.2 0 _ rfl).2.symm.trans hI)
  have e1 : k9x15 = kI := Option.some.inj ((hK.2 1 _ rfl).2.symm.trans hI)
  refine ⟨fun k => dn_at [q, q5, q9x7, q9x15] (k - 6), rfl, fun u H ha b1 hkI => ?_⟩
  clear hK hI
  have c6 : dn_a u 6 = q := ha 6 (by decide) (by decide)
  have c7 : dn_a u 7 = q5 := ha 7 (by decide) (by decide)
  have c8 : dn_a u 8 = q9x7 := ha 8 (by decide) (by decide)
  have c9 : dn_a u 9 = q9x15 := ha 9 (by decide) (by decide)
  clear ha
  rw [← hkI] at e0
  subst e0
  rw [← hkI] at e1
  subst e1
  subst b1
  subst c6
  subst c7
  subst c8
  subst c9
  exact ⟨⟨rfl, fun h => h⟩,
    ⟨rfl, fun h => h⟩,
    ⟨rfl, fun h => h⟩,
    ⟨rfl, fun h => h⟩, trivial⟩
set_option maxRecDepth 100000 in
set_option maxHeartbeats 4000000 in
theorem fit_X3 {D : va_G} {q  : Nat} {w : va_W} {t : List (ClassId × FieldType)} {s : State} {kI : ClassId} (h : is_X3 q  w t) (hK : va_K D vwCl t s) (hI : s.vm.findClass ("[" ++ FieldType.int.toString) = some kI) : ∃ f : Nat → Nat, f 10 = q ∧ ∀ (u : dn_U) (H : Heap), (∀ k, 10 ≤ k → k ≤ 13 → dn_a u k = f k) → u.2.2.1.1 = kI → dn_fit D u dn_s0 H [10, 11, 12, 13] w := by
  obtain ⟨q7, k7, q14, k14, q22, k22, rfl, rfl⟩ := h
  have e0 : k7 = kI := Option.some.inj ((hK.2 0 _ rfl).2.symm.trans hI)
  have e1 : k14 = kI := Option.some.inj ((hK.2 1 _ rfl).2.symm.trans hI)
  have e2 : k22 = kI := Option.some.inj ((hK.2 2 _ rfl).2.symm.trans hI)
  refine ⟨fun k => dn_at [q, q7, q14, q22] (k - 10), rfl, fun u H ha  hkI => ?_⟩
  clear hK hI
  have c10 : dn_a u 10 = q := ha 10 (by decide) (by decide)
  have c11 : dn_a u 11 = q7 := ha 11 (by decide) (by decide)
  have c12 : dn_a u 12 = q14 := ha 12 (by decide) (by decide)
  have c13 : dn_a u 13 = q22 := ha 13 (by decide) (by decide)
  clear ha
  rw [← hkI] at e0
  subst e0
  rw [← hkI] at e1
  subst e1
  rw [← hkI] at e2
  subst e2
  subst c10
  subst c11
  subst c12
  subst c13
  exact ⟨⟨rfl, fun h => h⟩,
    ⟨rfl, fun h => h⟩,
    ⟨rfl, fun h => h⟩,
    ⟨rfl, fun h => h⟩, trivial⟩
set_option maxRecDepth 100000 in
set_option maxHeartbeats 4000000 in
theorem fit_X4 {D : va_G} {q a1 : Nat} {w : va_W} {t : List (ClassId × FieldType)} {s : State} {kI : ClassId} (h : is_X4 q a1 w t) (hK : va_K D vwCl t s) (hI : s.vm.findClass ("[" ++ FieldType.int.toString) = some kI) : ∃ f : Nat → Nat, f 14 = q ∧ ∀ (u : dn_U) (H : Heap), (∀ k, 14 ≤ k → k ≤ 17 → dn_a u k = f k) → dn_a u 3 = a1 → u.2.2.1.1 = kI → dn_fit D u dn_s0 H [14, 15, 16, 17] w := by
  obtain ⟨q5, q9x6, k9x6, q9x13, k9x13, rfl, rfl⟩ := h
  have e0 : k9x6 = kI := Option.some.inj ((hK.2 0 _ rfl).2.symm.trans hI)
  have e1 : k9x13 = kI := Option.some.inj ((hK.2 1 _ rfl).2.symm.trans hI)
  refine ⟨fun k => dn_at [q, q5, q9x6, q9x13] (k - 14), rfl, fun u H ha b3 hkI => ?_⟩
  clear hK hI
  have c14 : dn_a u 14 = q := ha 14 (by decide) (by decide)
  have c15 : dn_a u 15 = q5 := ha 15 (by decide) (by decide)
  have c16 : dn_a u 16 = q9x6 := ha 16 (by decide) (by decide)
  have c17 : dn_a u 17 = q9x13 := ha 17 (by decide) (by decide)
  clear ha
  rw [← hkI] at e0
  subst e0
  rw [← hkI] at e1
  subst e1
  subst b3
  subst c14
  subst c15
  subst c16
  subst c17
  exact ⟨⟨rfl, fun h => h⟩,
    ⟨rfl, fun h => h⟩,
    ⟨rfl, fun h => h⟩,
    ⟨rfl, fun h => h⟩, trivial⟩
set_option maxRecDepth 100000 in
set_option maxHeartbeats 4000000 in
theorem fit_X5 {D : va_G} {q a1 a2 : Nat} {w : va_W} {t : List (ClassId × FieldType)} {s : State} {kI : ClassId} (h : is_X5 q a1 a2 w t) (hK : va_K D vwCl t s) (hI : s.vm.findClass ("[" ++ FieldType.int.toString) = some kI) : ∃ f : Nat → Nat, f 18 = q ∧ ∀ (u : dn_U) (H : Heap), (∀ k, 18 ≤ k → k ≤ 22 → dn_a u k = f k) → dn_a u 3 = a1 → dn_a u 14 = a2 → u.2.2.1.1 = kI → dn_fit D u dn_s0 H [18, 19, 20, 21, 22] w := by
  obtain ⟨q5, q9x7, k9x7, q9x14, k9x14, q9x22, k9x22, rfl, rfl⟩ := h
  have e0 : k9x7 = kI := Option.some.inj ((hK.2 0 _ rfl).2.symm.trans hI)
  have e1 : k9x14 = kI := Option.some.inj ((hK.2 1 _ rfl).2.symm.trans hI)
  have e2 : k9x22 = kI := Option.some.inj ((hK.2 2 _ rfl).2.symm.trans hI)
  refine ⟨fun k => dn_at [q, q5, q9x7, q9x14, q9x22] (k - 18), rfl, fun u H ha b3 b14 hkI => ?_⟩
  clear hK hI
  have c18 : dn_a u 18 = q := ha 18 (by decide) (by decide)
  have c19 : dn_a u 19 = q5 := ha 19 (by decide) (by decide)
  have c20 : dn_a u 20 = q9x7 := ha 20 (by decide) (by decide)
  have c21 : dn_a u 21 = q9x14 := ha 21 (by decide) (by decide)
  have c22 : dn_a u 22 = q9x22 := ha 22 (by decide) (by decide)
  clear ha
  rw [← hkI] at e0
  subst e0
  rw [← hkI] at e1
  subst e1
  rw [← hkI] at e2
  subst e2
  subst b3
  subst b14
  subst c18
  subst c19
  subst c20
  subst c21
  subst c22
  exact ⟨⟨rfl, fun h => h⟩,
    ⟨rfl, fun h => h⟩,
    ⟨rfl, fun h => h⟩,
    ⟨rfl, fun h => h⟩,
    ⟨rfl, fun h => h⟩, trivial⟩
set_option maxRecDepth 100000 in
set_option maxHeartbeats 4000000 in
theorem fit_X2 {D : va_G} {q a1 a2 : Nat} {w : va_W} {t : List (ClassId × FieldType)} {s : State} {kI : ClassId} (h : is_X2 q a1 a2 w t) (hK : va_K D vwCl t s) (hI : s.vm.findClass ("[" ++ FieldType.int.toString) = some kI) : ∃ f : Nat → Nat, f 23 = q ∧ ∀ (u : dn_U) (H : Heap), (∀ k, 23 ≤ k → k ≤ 29 → dn_a u k = f k) → dn_a u 3 = a1 → dn_a u 14 = a2 → u.2.2.1.1 = kI → dn_fit D u dn_s0 H [23, 24, 25, 26, 27, 28, 29] w := by
  obtain ⟨q5, q9x7, k9x7, q9x14, k9x14, q9x22, k9x22, q17, k17, q24, k24, rfl, rfl⟩ := h
  have e0 : k9x7 = kI := Option.some.inj ((hK.2 0 _ rfl).2.symm.trans hI)
  have e1 : k9x14 = kI := Option.some.inj ((hK.2 1 _ rfl).2.symm.trans hI)
  have e2 : k9x22 = kI := Option.some.inj ((hK.2 2 _ rfl).2.symm.trans hI)
  have e3 : k17 = kI := Option.some.inj ((hK.2 3 _ rfl).2.symm.trans hI)
  have e4 : k24 = kI := Option.some.inj ((hK.2 4 _ rfl).2.symm.trans hI)
  refine ⟨fun k => dn_at [q, q5, q9x7, q9x14, q9x22, q17, q24] (k - 23), rfl, fun u H ha b3 b14 hkI => ?_⟩
  clear hK hI
  have c23 : dn_a u 23 = q := ha 23 (by decide) (by decide)
  have c24 : dn_a u 24 = q5 := ha 24 (by decide) (by decide)
  have c25 : dn_a u 25 = q9x7 := ha 25 (by decide) (by decide)
  have c26 : dn_a u 26 = q9x14 := ha 26 (by decide) (by decide)
  have c27 : dn_a u 27 = q9x22 := ha 27 (by decide) (by decide)
  have c28 : dn_a u 28 = q17 := ha 28 (by decide) (by decide)
  have c29 : dn_a u 29 = q24 := ha 29 (by decide) (by decide)
  clear ha
  rw [← hkI] at e0
  subst e0
  rw [← hkI] at e1
  subst e1
  rw [← hkI] at e2
  subst e2
  rw [← hkI] at e3
  subst e3
  rw [← hkI] at e4
  subst e4
  subst b3
  subst b14
  subst c23
  subst c24
  subst c25
  subst c26
  subst c27
  subst c28
  subst c29
  exact ⟨⟨rfl, fun h => h⟩,
    ⟨rfl, fun h => h⟩,
    ⟨rfl, fun h => h⟩,
    ⟨rfl, fun h => h⟩,
    ⟨rfl, fun h => h⟩,
    ⟨rfl, fun h => h⟩,
    ⟨rfl, fun h => h⟩, trivial⟩
set_option maxRecDepth 100000 in
set_option maxHeartbeats 4000000 in
theorem fit_X0 {D : va_G} {q a1 : Nat} {w : va_W} {t : List (ClassId × FieldType)} {s : State} {kI : ClassId} (h : is_X0 q a1 w t) (hK : va_K D vwCl t s) (hI : s.vm.findClass ("[" ++ FieldType.int.toString) = some kI) : ∃ f : Nat → Nat, f 30 = q ∧ ∀ (u : dn_U) (H : Heap), (∀ k, 30 ≤ k → k ≤ 35 → dn_a u k = f k) → dn_a u 14 = a1 → u.2.2.1.1 = kI → dn_fit D u dn_s0 H [30, 31, 32, 33, 34, 35] w := by
  obtain ⟨q5, q9x7, k9x7, q9x14, k9x14, q9x22, k9x22, q18, k18, rfl, rfl⟩ := h
  have e0 : k9x7 = kI := Option.some.inj ((hK.2 0 _ rfl).2.symm.trans hI)
  have e1 : k9x14 = kI := Option.some.inj ((hK.2 1 _ rfl).2.symm.trans hI)
  have e2 : k9x22 = kI := Option.some.inj ((hK.2 2 _ rfl).2.symm.trans hI)
  have e3 : k18 = kI := Option.some.inj ((hK.2 3 _ rfl).2.symm.trans hI)
  refine ⟨fun k => dn_at [q, q5, q9x7, q9x14, q9x22, q18] (k - 30), rfl, fun u H ha b14 hkI => ?_⟩
  clear hK hI
  have c30 : dn_a u 30 = q := ha 30 (by decide) (by decide)
  have c31 : dn_a u 31 = q5 := ha 31 (by decide) (by decide)
  have c32 : dn_a u 32 = q9x7 := ha 32 (by decide) (by decide)
  have c33 : dn_a u 33 = q9x14 := ha 33 (by decide) (by decide)
  have c34 : dn_a u 34 = q9x22 := ha 34 (by decide) (by decide)
  have c35 : dn_a u 35 = q18 := ha 35 (by decide) (by decide)
  clear ha
  rw [← hkI] at e0
  subst e0
  rw [← hkI] at e1
  subst e1
  rw [← hkI] at e2
  subst e2
  rw [← hkI] at e3
  subst e3
  subst b14
  subst c30
  subst c31
  subst c32
  subst c33
  subst c34
  subst c35
  exact ⟨⟨rfl, fun h => h⟩,
    ⟨rfl, fun h => h⟩,
    ⟨rfl, fun h => h⟩,
    ⟨rfl, fun h => h⟩,
    ⟨rfl, fun h => h⟩,
    ⟨rfl, fun h => h⟩, trivial⟩
set_option maxRecDepth 100000 in
set_option maxHeartbeats 4000000 in
theorem fit_X6 {D : va_G} {q  : Nat} {w : va_W} {t : List (ClassId × FieldType)} {s : State} {kI : ClassId} (h : is_X6 q  w t) (hK : va_K D vwCl t s) (hI : s.vm.findClass ("[" ++ FieldType.int.toString) = some kI) : ∃ kZ : ClassId, (ArrOfT s kZ .boolean ∧ va_RA s kZ .boolean) ∧ ∃ kM : ClassId, (ArrOfT s kM (.object "DayNames$Moment") ∧ va_RA s kM (.object "DayNames$Moment")) ∧ ∃ f : Nat → Nat, f 36 = q ∧ ∀ (u : dn_U) (H : Heap), (∀ k, 36 ≤ k → k ≤ 87 → dn_a u k = f k) → u.2.2.1.1 = kI → u.2.2.1.2.1 = kZ → u.2.2.1.2.2 = kM → dn_fit D u dn_s0 H [36, 37, 38, 39, 40, 41, 42, 43, 44, 45, 46, 47, 48, 49, 50, 51, 52, 53, 54, 55, 56, 57, 58, 59, 60, 61, 62, 63, 64, 65, 66, 67, 68, 69, 70, 71, 72, 73, 74, 75, 76, 77, 78, 79, 80, 81, 82, 83, 84, 85, 86, 87] w := by
  obtain ⟨f, g, rfl, rfl⟩ := h
  have e3 : (g 3) = kI := Option.some.inj ((hK.2 3 _ rfl).2.symm.trans hI)
  have e4 : (g 4) = kI := Option.some.inj ((hK.2 4 _ rfl).2.symm.trans hI)
  have e5 : (g 5) = kI := Option.some.inj ((hK.2 5 _ rfl).2.symm.trans hI)
  have e6 : (g 6) = kI := Option.some.inj ((hK.2 6 _ rfl).2.symm.trans hI)
  have e7 : (g 7) = kI := Option.some.inj ((hK.2 7 _ rfl).2.symm.trans hI)
  have e8 : (g 8) = kI := Option.some.inj ((hK.2 8 _ rfl).2.symm.trans hI)
  have e9 : (g 9) = kI := Option.some.inj ((hK.2 9 _ rfl).2.symm.trans hI)
  have e10 : (g 10) = kI := Option.some.inj ((hK.2 10 _ rfl).2.symm.trans hI)
  have e11 : (g 11) = kI := Option.some.inj ((hK.2 11 _ rfl).2.symm.trans hI)
  have e12 : (g 12) = kI := Option.some.inj ((hK.2 12 _ rfl).2.symm.trans hI)
  have e13 : (g 13) = kI := Option.some.inj ((hK.2 13 _ rfl).2.symm.trans hI)
  have e14 : (g 14) = kI := Option.some.inj ((hK.2 14 _ rfl).2.symm.trans hI)
  have e15 : (g 15) = kI := Option.some.inj ((hK.2 15 _ rfl).2.symm.trans hI)
  have e16 : (g 16) = kI := Option.some.inj ((hK.2 16 _ rfl).2.symm.trans hI)
  have e17 : (g 17) = kI := Option.some.inj ((hK.2 17 _ rfl).2.symm.trans hI)
  have e18 : (g 18) = kI := Option.some.inj ((hK.2 18 _ rfl).2.symm.trans hI)
  have e19 : (g 19) = kI := Option.some.inj ((hK.2 19 _ rfl).2.symm.trans hI)
  have e20 : (g 20) = kI := Option.some.inj ((hK.2 20 _ rfl).2.symm.trans hI)
  have e21 : (g 21) = kI := Option.some.inj ((hK.2 21 _ rfl).2.symm.trans hI)
  have e22 : (g 22) = kI := Option.some.inj ((hK.2 22 _ rfl).2.symm.trans hI)
  have e23 : (g 23) = kI := Option.some.inj ((hK.2 23 _ rfl).2.symm.trans hI)
  have e24 : (g 24) = kI := Option.some.inj ((hK.2 24 _ rfl).2.symm.trans hI)
  have e25 : (g 25) = kI := Option.some.inj ((hK.2 25 _ rfl).2.symm.trans hI)
  have e26 : (g 26) = kI := Option.some.inj ((hK.2 26 _ rfl).2.symm.trans hI)
  have e27 : (g 27) = kI := Option.some.inj ((hK.2 27 _ rfl).2.symm.trans hI)
  have e28 : (g 28) = kI := Option.some.inj ((hK.2 28 _ rfl).2.symm.trans hI)
  have e29 : (g 29) = kI := Option.some.inj ((hK.2 29 _ rfl).2.symm.trans hI)
  have e30 : (g 30) = kI := Option.some.inj ((hK.2 30 _ rfl).2.symm.trans hI)
  have e31 : (g 31) = kI := Option.some.inj ((hK.2 31 _ rfl).2.symm.trans hI)
  have e32 : (g 32) = kI := Option.some.inj ((hK.2 32 _ rfl).2.symm.trans hI)
  have e33 : (g 33) = kI := Option.some.inj ((hK.2 33 _ rfl).2.symm.trans hI)
  have e34 : (g 34) = kI := Option.some.inj ((hK.2 34 _ rfl).2.symm.trans hI)
  have e35 : (g 35) = kI := Option.some.inj ((hK.2 35 _ rfl).2.symm.trans hI)
  have e36 : (g 36) = kI := Option.some.inj ((hK.2 36 _ rfl).2.symm.trans hI)
  have e37 : (g 37) = kI := Option.some.inj ((hK.2 37 _ rfl).2.symm.trans hI)
  have e38 : (g 38) = kI := Option.some.inj ((hK.2 38 _ rfl).2.symm.trans hI)
  have e1 : (g 1) = (g 0) := by
    obtain ⟨_, _, _, _, _, b1⟩ := (hK.2 0 _ rfl).2
    obtain ⟨_, _, _, _, _, b2⟩ := (hK.2 1 _ rfl).2
    exact Option.some.inj (b2.symm.trans b1)
  refine ⟨(g 2), hK.2 2 _ rfl, (g 0), hK.2 0 _ rfl, fun k => dn_at [q, (f 0), (f 1), (f 2), (f 3), (f 4), (f 5), (f 6), (f 7), (f 8), (f 9), (f 10), (f 11), (f 12), (f 13), (f 14), (f 15), (f 16), (f 17), (f 18), (f 19), (f 20), (f 21), (f 22), (f 23), (f 24), (f 25), (f 26), (f 27), (f 28), (f 29), (f 30), (f 31), (f 32), (f 33), (f 34), (f 35), (f 36), (f 37), (f 38), (f 39), (f 40), (f 41), (f 42), (f 43), (f 44), (f 45), (f 46), (f 47), (f 48), (f 49), (f 50)] (k - 36), rfl, fun u H ha  hkI hkZ hkM => ?_⟩
  clear hK hI
  have c36 : dn_a u 36 = q := ha 36 (by decide) (by decide)
  have c37 : dn_a u 37 = (f 0) := ha 37 (by decide) (by decide)
  have c38 : dn_a u 38 = (f 1) := ha 38 (by decide) (by decide)
  have c39 : dn_a u 39 = (f 2) := ha 39 (by decide) (by decide)
  have c40 : dn_a u 40 = (f 3) := ha 40 (by decide) (by decide)
  have c41 : dn_a u 41 = (f 4) := ha 41 (by decide) (by decide)
  have c42 : dn_a u 42 = (f 5) := ha 42 (by decide) (by decide)
  have c43 : dn_a u 43 = (f 6) := ha 43 (by decide) (by decide)
  have c44 : dn_a u 44 = (f 7) := ha 44 (by decide) (by decide)
  have c45 : dn_a u 45 = (f 8) := ha 45 (by decide) (by decide)
  have c46 : dn_a u 46 = (f 9) := ha 46 (by decide) (by decide)
  have c47 : dn_a u 47 = (f 10) := ha 47 (by decide) (by decide)
  have c48 : dn_a u 48 = (f 11) := ha 48 (by decide) (by decide)
  have c49 : dn_a u 49 = (f 12) := ha 49 (by decide) (by decide)
  have c50 : dn_a u 50 = (f 13) := ha 50 (by decide) (by decide)
  have c51 : dn_a u 51 = (f 14) := ha 51 (by decide) (by decide)
  have c52 : dn_a u 52 = (f 15) := ha 52 (by decide) (by decide)
  have c53 : dn_a u 53 = (f 16) := ha 53 (by decide) (by decide)
  have c54 : dn_a u 54 = (f 17) := ha 54 (by decide) (by decide)
  have c55 : dn_a u 55 = (f 18) := ha 55 (by decide) (by decide)
  have c56 : dn_a u 56 = (f 19) := ha 56 (by decide) (by decide)
  have c57 : dn_a u 57 = (f 20) := ha 57 (by decide) (by decide)
  have c58 : dn_a u 58 = (f 21) := ha 58 (by decide) (by decide)
  have c59 : dn_a u 59 = (f 22) := ha 59 (by decide) (by decide)
  have c60 : dn_a u 60 = (f 23) := ha 60 (by decide) (by decide)
  have c61 : dn_a u 61 = (f 24) := ha 61 (by decide) (by decide)
  have c62 : dn_a u 62 = (f 25) := ha 62 (by decide) (by decide)
  have c63 : dn_a u 63 = (f 26) := ha 63 (by decide) (by decide)
  have c64 : dn_a u 64 = (f 27) := ha 64 (by decide) (by decide)
  have c65 : dn_a u 65 = (f 28) := ha 65 (by decide) (by decide)
  have c66 : dn_a u 66 = (f 29) := ha 66 (by decide) (by decide)
  have c67 : dn_a u 67 = (f 30) := ha 67 (by decide) (by decide)
  have c68 : dn_a u 68 = (f 31) := ha 68 (by decide) (by decide)
  have c69 : dn_a u 69 = (f 32) := ha 69 (by decide) (by decide)
  have c70 : dn_a u 70 = (f 33) := ha 70 (by decide) (by decide)
  have c71 : dn_a u 71 = (f 34) := ha 71 (by decide) (by decide)
  have c72 : dn_a u 72 = (f 35) := ha 72 (by decide) (by decide)
  have c73 : dn_a u 73 = (f 36) := ha 73 (by decide) (by decide)
  have c74 : dn_a u 74 = (f 37) := ha 74 (by decide) (by decide)
  have c75 : dn_a u 75 = (f 38) := ha 75 (by decide) (by decide)
  have c76 : dn_a u 76 = (f 39) := ha 76 (by decide) (by decide)
  have c77 : dn_a u 77 = (f 40) := ha 77 (by decide) (by decide)
  have c78 : dn_a u 78 = (f 41) := ha 78 (by decide) (by decide)
  have c79 : dn_a u 79 = (f 42) := ha 79 (by decide) (by decide)
  have c80 : dn_a u 80 = (f 43) := ha 80 (by decide) (by decide)
  have c81 : dn_a u 81 = (f 44) := ha 81 (by decide) (by decide)
  have c82 : dn_a u 82 = (f 45) := ha 82 (by decide) (by decide)
  have c83 : dn_a u 83 = (f 46) := ha 83 (by decide) (by decide)
  have c84 : dn_a u 84 = (f 47) := ha 84 (by decide) (by decide)
  have c85 : dn_a u 85 = (f 48) := ha 85 (by decide) (by decide)
  have c86 : dn_a u 86 = (f 49) := ha 86 (by decide) (by decide)
  have c87 : dn_a u 87 = (f 50) := ha 87 (by decide) (by decide)
  clear ha
  rw [← hkI] at e3
  rw [← hkI] at e4
  rw [← hkI] at e5
  rw [← hkI] at e6
  rw [← hkI] at e7
  rw [← hkI] at e8
  rw [← hkI] at e9
  rw [← hkI] at e10
  rw [← hkI] at e11
  rw [← hkI] at e12
  rw [← hkI] at e13
  rw [← hkI] at e14
  rw [← hkI] at e15
  rw [← hkI] at e16
  rw [← hkI] at e17
  rw [← hkI] at e18
  rw [← hkI] at e19
  rw [← hkI] at e20
  rw [← hkI] at e21
  rw [← hkI] at e22
  rw [← hkI] at e23
  rw [← hkI] at e24
  rw [← hkI] at e25
  rw [← hkI] at e26
  rw [← hkI] at e27
  rw [← hkI] at e28
  rw [← hkI] at e29
  rw [← hkI] at e30
  rw [← hkI] at e31
  rw [← hkI] at e32
  rw [← hkI] at e33
  rw [← hkI] at e34
  rw [← hkI] at e35
  rw [← hkI] at e36
  rw [← hkI] at e37
  rw [← hkI] at e38
  rw [← hkM] at e1
  simp only [e1, e3, e4, e5, e6, e7, e8, e9, e10, e11, e12, e13, e14, e15, e16, e17, e18, e19, e20, e21, e22, e23, e24, e25, e26, e27, e28, e29, e30, e31, e32, e33, e34, e35, e36, e37, e38, ← hkM, ← hkZ, ← c37, ← c38, ← c39, ← c40, ← c41, ← c42, ← c43, ← c44, ← c45, ← c46, ← c47, ← c48, ← c49, ← c50, ← c51, ← c52, ← c53, ← c54, ← c55, ← c56, ← c57, ← c58, ← c59, ← c60, ← c61, ← c62, ← c63, ← c64, ← c65, ← c66, ← c67, ← c68, ← c69, ← c70, ← c71, ← c72, ← c73, ← c74, ← c75, ← c76, ← c77, ← c78, ← c79, ← c80, ← c81, ← c82, ← c83, ← c84, ← c85, ← c86, ← c87]
  subst c36
  exact ⟨⟨rfl, fun h => h⟩,
    ⟨rfl, fun h => dn_arq (fun j hj => match j, hj with | 0, _ => rfl | 1, _ => rfl | 2, _ => rfl | 3, _ => rfl | 4, _ => rfl | 5, _ => rfl | 6, _ => rfl | 7, _ => rfl | 8, _ => rfl | 9, _ => rfl | j + 10, hj => absurd (show j + 10 < 10 from hj) (by omega)) h⟩,
    ⟨rfl, fun h => dn_arq (fun j hj => match j, hj with | 0, _ => rfl | 1, _ => rfl | j + 2, hj => absurd (show j + 2 < 2 from hj) (by omega)) h⟩,
    ⟨rfl, fun h => h⟩,
    ⟨rfl, fun h => h⟩,
    ⟨rfl, fun h => h⟩,
    ⟨rfl, fun h => h⟩,
    ⟨rfl, fun h => h⟩,
    ⟨rfl, fun h => h⟩,
    ⟨rfl, fun h => h⟩,
    ⟨rfl, fun h => h⟩,
    ⟨rfl, fun h => h⟩,
    ⟨rfl, fun h => h⟩,
    ⟨rfl, fun h => h⟩,
    ⟨rfl, fun h => h⟩,
    ⟨rfl, fun h => h⟩,
    ⟨rfl, fun h => h⟩,
    ⟨rfl, fun h => h⟩,
    ⟨rfl, fun h => h⟩,
    ⟨rfl, fun h => h⟩,
    ⟨rfl, fun h => h⟩,
    ⟨rfl, fun h => h⟩,
    ⟨rfl, fun h => h⟩,
    ⟨rfl, fun h => h⟩,
    ⟨rfl, fun h => h⟩,
    ⟨rfl, fun h => h⟩,
    ⟨rfl, fun h => h⟩,
    ⟨rfl, fun h => h⟩,
    ⟨rfl, fun h => h⟩,
    ⟨rfl, fun h => h⟩,
    ⟨rfl, fun h => h⟩,
    ⟨rfl, fun h => h⟩,
    ⟨rfl, fun h => h⟩,
    ⟨rfl, fun h => h⟩,
    ⟨rfl, fun h => h⟩,
    ⟨rfl, fun h => h⟩,
    ⟨rfl, fun h => h⟩,
    ⟨rfl, fun h => h⟩,
    ⟨rfl, fun h => h⟩,
    ⟨rfl, fun h => h⟩,
    ⟨rfl, fun h => h⟩,
    ⟨rfl, fun h => h⟩,
    ⟨rfl, fun h => h⟩,
    ⟨rfl, fun h => h⟩,
    ⟨rfl, fun h => h⟩,
    ⟨rfl, fun h => h⟩,
    ⟨rfl, fun h => h⟩,
    ⟨rfl, fun h => h⟩,
    ⟨rfl, fun h => h⟩,
    ⟨rfl, fun h => h⟩,
    ⟨rfl, fun h => h⟩,
    ⟨rfl, fun h => h⟩, trivial⟩
set_option maxRecDepth 100000 in
set_option maxHeartbeats 4000000 in
theorem fit_X7 {D : va_G} {q a1 a2 : Nat} {w : va_W} {t : List (ClassId × FieldType)} {s : State} {kI : ClassId} (h : is_X7 q a1 a2 w t) (hK : va_K D vwCl t s) (hI : s.vm.findClass ("[" ++ FieldType.int.toString) = some kI) : ∃ f : Nat → Nat, f 88 = q ∧ ∀ (u : dn_U) (H : Heap), (∀ k, 88 ≤ k → k ≤ 88 → dn_a u k = f k) → dn_a u 3 = a1 → dn_a u 10 = a2 → u.2.2.1.1 = kI → dn_fit D u dn_s0 H [88] w := by
  obtain ⟨rfl, rfl⟩ := h
  refine ⟨fun k => dn_at [q] (k - 88), rfl, fun u H ha b3 b10 hkI => ?_⟩
  clear hK hI
  have c88 : dn_a u 88 = q := ha 88 (by decide) (by decide)
  clear ha
  subst b3
  subst b10
  subst c88
  exact ⟨⟨rfl, fun h => h⟩, trivial⟩
set_option maxRecDepth 100000 in
set_option maxHeartbeats 4000000 in
theorem fit_X12 {D : va_G} {q  : Nat} {w : va_W} {t : List (ClassId × FieldType)} {s : State} {kI : ClassId} (h : is_X12 q  w t) (hK : va_K D vwCl t s) (hI : s.vm.findClass ("[" ++ FieldType.int.toString) = some kI) : ∃ kZ : ClassId, (ArrOfT s kZ .boolean ∧ va_RA s kZ .boolean) ∧ ∃ f : Nat → Nat, f 100 = q ∧ ∀ (u : dn_U) (H : Heap), (∀ k, 100 ≤ k → k ≤ 116 → dn_a u k = f k) → u.2.2.1.1 = kI → u.2.2.1.2.1 = kZ → dn_fit D u dn_t0 H [100, 101, 102, 103, 104, 105, 106, 107, 108, 109, 110, 111, 112, 113, 114, 115, 116] w := by
  obtain ⟨q8, k8, q15, k15, q22, k22, q29, k29, q37, k37, q50, k50, q57, k57, q64, k64, q72, k72, q81, k81, q88, k88, q95, k95, q103, k103, q111, k111, q118, k118, q125, k125, rfl, rfl⟩ := h
  have e0 : k8 = kI := Option.some.inj ((hK.2 0 _ rfl).2.symm.trans hI)
  have e2 : k22 = kI := Option.some.inj ((hK.2 2 _ rfl).2.symm.trans hI)
  have e3 : k29 = kI := Option.some.inj ((hK.2 3 _ rfl).2.symm.trans hI)
  have e4 : k37 = kI := Option.some.inj ((hK.2 4 _ rfl).2.symm.trans hI)
  have e5 : k50 = kI := Option.some.inj ((hK.2 5 _ rfl).2.symm.trans hI)
  have e6 : k57 = kI := Option.some.inj ((hK.2 6 _ rfl).2.symm.trans hI)
  have e7 : k64 = kI := Option.some.inj ((hK.2 7 _ rfl).2.symm.trans hI)
  have e8 : k72 = kI := Option.some.inj ((hK.2 8 _ rfl).2.symm.trans hI)
  have e9 : k81 = kI := Option.some.inj ((hK.2 9 _ rfl).2.symm.trans hI)
  have e10 : k88 = kI := Option.some.inj ((hK.2 10 _ rfl).2.symm.trans hI)
  have e11 : k95 = kI := Option.some.inj ((hK.2 11 _ rfl).2.symm.trans hI)
  have e12 : k103 = kI := Option.some.inj ((hK.2 12 _ rfl).2.symm.trans hI)
  have e13 : k111 = kI := Option.some.inj ((hK.2 13 _ rfl).2.symm.trans hI)
  have e14 : k118 = kI := Option.some.inj ((hK.2 14 _ rfl).2.symm.trans hI)
  have e15 : k125 = kI := Option.some.inj ((hK.2 15 _ rfl).2.symm.trans hI)
  refine ⟨k15, hK.2 1 _ rfl, fun k => dn_at [q, q8, q15, q22, q29, q37, q50, q57, q64, q72, q81, q88, q95, q103, q111, q118, q125] (k - 100), rfl, fun u H ha  hkI hkZ => ?_⟩
  clear hK hI
  have c100 : dn_a u 100 = q := ha 100 (by decide) (by decide)
  have c101 : dn_a u 101 = q8 := ha 101 (by decide) (by decide)
  have c102 : dn_a u 102 = q15 := ha 102 (by decide) (by decide)
  have c103 : dn_a u 103 = q22 := ha 103 (by decide) (by decide)
  have c104 : dn_a u 104 = q29 := ha 104 (by decide) (by decide)
  have c105 : dn_a u 105 = q37 := ha 105 (by decide) (by decide)
  have c106 : dn_a u 106 = q50 := ha 106 (by decide) (by decide)
  have c107 : dn_a u 107 = q57 := ha 107 (by decide) (by decide)
  have c108 : dn_a u 108 = q64 := ha 108 (by decide) (by decide)
  have c109 : dn_a u 109 = q72 := ha 109 (by decide) (by decide)
  have c110 : dn_a u 110 = q81 := ha 110 (by decide) (by decide)
  have c111 : dn_a u 111 = q88 := ha 111 (by decide) (by decide)
  have c112 : dn_a u 112 = q95 := ha 112 (by decide) (by decide)
  have c113 : dn_a u 113 = q103 := ha 113 (by decide) (by decide)
  have c114 : dn_a u 114 = q111 := ha 114 (by decide) (by decide)
  have c115 : dn_a u 115 = q118 := ha 115 (by decide) (by decide)
  have c116 : dn_a u 116 = q125 := ha 116 (by decide) (by decide)
  clear ha
  rw [← hkI] at e0
  subst e0
  rw [← hkI] at e2
  subst e2
  rw [← hkI] at e3
  subst e3
  rw [← hkI] at e4
  subst e4
  rw [← hkI] at e5
  subst e5
  rw [← hkI] at e6
  subst e6
  rw [← hkI] at e7
  subst e7
  rw [← hkI] at e8
  subst e8
  rw [← hkI] at e9
  subst e9
  rw [← hkI] at e10
  subst e10
  rw [← hkI] at e11
  subst e11
  rw [← hkI] at e12
  subst e12
  rw [← hkI] at e13
  subst e13
  rw [← hkI] at e14
  subst e14
  rw [← hkI] at e15
  subst e15
  subst hkZ
  subst c100
  subst c101
  subst c102
  subst c103
  subst c104
  subst c105
  subst c106
  subst c107
  subst c108
  subst c109
  subst c110
  subst c111
  subst c112
  subst c113
  subst c114
  subst c115
  subst c116
  exact ⟨⟨rfl, fun h => h⟩,
    ⟨rfl, fun h => h⟩,
    ⟨rfl, fun h => h⟩,
    ⟨rfl, fun h => h⟩,
    ⟨rfl, fun h => h⟩,
    ⟨rfl, fun h => h⟩,
    ⟨rfl, fun h => h⟩,
    ⟨rfl, fun h => h⟩,
    ⟨rfl, fun h => h⟩,
    ⟨rfl, fun h => h⟩,
    ⟨rfl, fun h => h⟩,
    ⟨rfl, fun h => h⟩,
    ⟨rfl, fun h => h⟩,
    ⟨rfl, fun h => h⟩,
    ⟨rfl, fun h => h⟩,
    ⟨rfl, fun h => h⟩,
    ⟨rfl, fun h => h⟩, trivial⟩
set_option maxRecDepth 100000 in
set_option maxHeartbeats 4000000 in
theorem dn_uniC {D : va_G} {A : Nat → Prop} {h0 q5 q16 q27 q42 q53 q68 q87 q106 q121 q132 : Nat} {w_9 w_10 w_8 w_3 w_4 w_5 w_2 w_0 w_6 w_7 : va_W} {t_9 t_10 t_8 t_3 t_4 t_5 t_2 t_0 t_6 t_7 : List (ClassId × FieldType)} {H : Heap} {s : State} (sf : Nat × Nat × Nat) (hI_9 : is_X9 q5  w_9 t_9) (hI_10 : is_X10 q16  w_10 t_10) (hI_8 : is_X8 q27 q5 w_8 t_8) (hI_3 : is_X3 q42  w_3 t_3) (hI_4 : is_X4 q53 q16 w_4 t_4) (hI_5 : is_X5 q68 q16 q53 w_5 t_5) (hI_2 : is_X2 q87 q16 q53 w_2 t_2) (hI_0 : is_X0 q106 q53 w_0 t_0) (hI_6 : is_X6 q121  w_6 t_6) (hI_7 : is_X7 q132 q16 q42 w_7 t_7) (hP : va_P D vwCl ((h0, .inr (11, [.ref q5, .ref q16, .ref q27, .ref q42, .ref q53, .ref q68, .ref q87, .ref q106, .ref q121, .ref q132])) :: ((((((((((([] : va_W) ++ w_9) ++ w_10) ++ w_8) ++ w_3) ++ w_4) ++ w_5) ++ w_2) ++ w_0) ++ w_6) ++ w_7)) H) (hD : va_D A ((h0, .inr (11, [.ref q5, .ref q16, .ref q27, .ref q42, .ref q53, .ref q68, .ref q87, .ref q106, .ref q121, .ref q132])) :: ((((((((((([] : va_W) ++ w_9) ++ w_10) ++ w_8) ++ w_3) ++ w_4) ++ w_5) ++ w_2) ++ w_0) ++ w_6) ++ w_7))) (hK : va_K D vwCl ((((((((((([] : List (ClassId × FieldType)) ++ t_9) ++ t_10) ++ t_8) ++ t_3) ++ t_4) ++ t_5) ++ t_2) ++ t_0) ++ t_6) ++ t_7) s) : ∃ u : dn_U, dn_Lu u = dn_LC ∧ u.1 = D ∧ u.2.2.2.1 = sf ∧ dn_a u 0 = h0 ∧ dn_a u 3 = q16 ∧ dn_a u 10 = q42 ∧ va_P D vwCl (dn_ws u dn_s0) H ∧ va_K D vwCl (dn_tys u) s ∧ dn_I u ∧ ∀ q, dn_A u q → A q := by
  have hK_9 : va_K D vwCl t_9 s := va_K_mem hK (fun x hx => by simp [hx])
  have hK_10 : va_K D vwCl t_10 s := va_K_mem hK (fun x hx => by simp [hx])
  have hK_8 : va_K D vwCl t_8 s := va_K_mem hK (fun x hx => by simp [hx])
  have hK_3 : va_K D vwCl t_3 s := va_K_mem hK (fun x hx => by simp [hx])
  have hK_4 : va_K D vwCl t_4 s := va_K_mem hK (fun x hx => by simp [hx])
  have hK_5 : va_K D vwCl t_5 s := va_K_mem hK (fun x hx => by simp [hx])
  have hK_2 : va_K D vwCl t_2 s := va_K_mem hK (fun x hx => by simp [hx])
  have hK_0 : va_K D vwCl t_0 s := va_K_mem hK (fun x hx => by simp [hx])
  have hK_6 : va_K D vwCl t_6 s := va_K_mem hK (fun x hx => by simp [hx])
  have hK_7 : va_K D vwCl t_7 s := va_K_mem hK (fun x hx => by simp [hx])
  obtain ⟨kI, aI, hI⟩ : ∃ kI : ClassId, ArrOfT s kI .int ∧ s.vm.findClass ("[" ++ FieldType.int.toString) = some kI := by
    obtain ⟨q8, k8, -, rfl⟩ := hI_9
    exact ⟨k8, hK_9.2 0 _ rfl⟩
  obtain ⟨f_9, g_9, F_9⟩ := fit_X9 hI_9 hK_9 hI
  obtain ⟨f_10, g_10, F_10⟩ := fit_X10 hI_10 hK_10 hI
  obtain ⟨f_8, g_8, F_8⟩ := fit_X8 hI_8 hK_8 hI
  obtain ⟨f_3, g_3, F_3⟩ := fit_X3 hI_3 hK_3 hI
  obtain ⟨f_4, g_4, F_4⟩ := fit_X4 hI_4 hK_4 hI
  obtain ⟨f_5, g_5, F_5⟩ := fit_X5 hI_5 hK_5 hI
  obtain ⟨f_2, g_2, F_2⟩ := fit_X2 hI_2 hK_2 hI
  obtain ⟨f_0, g_0, F_0⟩ := fit_X0 hI_0 hK_0 hI
  obtain ⟨kZ, rZ, kM, rM, f_6, g_6, F_6⟩ := fit_X6 hI_6 hK_6 hI
  obtain ⟨f_7, g_7, F_7⟩ := fit_X7 hI_7 hK_7 hI
  obtain ⟨a, ha⟩ : ∃ a : Nat → Nat, a = fun k => if k = 0 then h0 else if k ≤ 2 then f_9 k else if k ≤ 5 then f_10 k else if k ≤ 9 then f_8 k else if k ≤ 13 then f_3 k else if k ≤ 17 then f_4 k else if k ≤ 22 then f_5 k else if k ≤ 29 then f_2 k else if k ≤ 35 then f_0 k else if k ≤ 87 then f_6 k else f_7 k := ⟨_, rfl⟩
  have a0 : a 0 = h0 := by rw [ha]; rfl
  have A_9 : ∀ k, 1 ≤ k → k ≤ 2 → a k = f_9 k := by
    intro k h1 h2
    rw [ha]
    show (if k = 0 then _ else _) = _
    rw [if_neg (by omega), if_pos h2]
  have A_10 : ∀ k, 3 ≤ k → k ≤ 5 → a k = f_10 k := by
    intro k h1 h2
    rw [ha]
    show (if k = 0 then _ else _) = _
    rw [if_neg (by omega), if_neg (by omega), if_pos h2]
  have A_8 : ∀ k, 6 ≤ k → k ≤ 9 → a k = f_8 k := by
    intro k h1 h2
    rw [ha]
    show (if k = 0 then _ else _) = _
    rw [if_neg (by omega), if_neg (by omega), if_neg (by omega), if_pos h2]
  have A_3 : ∀ k, 10 ≤ k → k ≤ 13 → a k = f_3 k := by
    intro k h1 h2
    rw [ha]
    show (if k = 0 then _ else _) = _
    rw [if_neg (by omega), if_neg (by omega), if_neg (by omega), if_neg (by omega), if_pos h2]
  have A_4 : ∀ k, 14 ≤ k → k ≤ 17 → a k = f_4 k := by
    intro k h1 h2
    rw [ha]
    show (if k = 0 then _ else _) = _
    rw [if_neg (by omega), if_neg (by omega), if_neg (by omega), if_neg (by omega), if_neg (by omega), if_pos h2]
  have A_5 : ∀ k, 18 ≤ k → k ≤ 22 → a k = f_5 k := by
    intro k h1 h2
    rw [ha]
    show (if k = 0 then _ else _) = _
    rw [if_neg (by omega), if_neg (by omega), if_neg (by omega), if_neg (by omega), if_neg (by omega), if_neg (by omega), if_pos h2]
  have A_2 : ∀ k, 23 ≤ k → k ≤ 29 → a k = f_2 k := by
    intro k h1 h2
    rw [ha]
    show (if k = 0 then _ else _) = _
    rw [if_neg (by omega), if_neg (by omega), if_neg (by omega), if_neg (by omega), if_neg (by omega), if_neg (by omega), if_neg (by omega), if_pos h2]
  have A_0 : ∀ k, 30 ≤ k → k ≤ 35 → a k = f_0 k := by
    intro k h1 h2
    rw [ha]
    show (if k = 0 then _ else _) = _
    rw [if_neg (by omega), if_neg (by omega), if_neg (by omega), if_neg (by omega), if_neg (by omega), if_neg (by omega), if_neg (by omega), if_neg (by omega), if_pos h2]
  have A_6 : ∀ k, 36 ≤ k → k ≤ 87 → a k = f_6 k := by
    intro k h1 h2
    rw [ha]
    show (if k = 0 then _ else _) = _
    rw [if_neg (by omega), if_neg (by omega), if_neg (by omega), if_neg (by omega), if_neg (by omega), if_neg (by omega), if_neg (by omega), if_neg (by omega), if_neg (by omega), if_pos h2]
  have A_7 : ∀ k, 88 ≤ k → k ≤ 88 → a k = f_7 k := by
    intro k h1 h2
    rw [ha]
    show (if k = 0 then _ else _) = _
    rw [if_neg (by omega), if_neg (by omega), if_neg (by omega), if_neg (by omega), if_neg (by omega), if_neg (by omega), if_neg (by omega), if_neg (by omega), if_neg (by omega), if_neg (by omega)]
  clear ha
  obtain ⟨u, hu1, hu2, hu3, hu4, hu5⟩ : ∃ u : dn_U, u.1 = D ∧ u.2.1 = a ∧ u.2.2.1 = (kI, kZ, kM) ∧ u.2.2.2.1 = sf ∧ dn_Lu u = dn_LC := ⟨(D, a, (kI, kZ, kM), sf, dn_LC), rfl, rfl, rfl, rfl, rfl⟩
  have ea : ∀ k, dn_a u k = a k := fun k => by unfold dn_a; rw [hu2]
  have eI : u.2.2.1.1 = kI := by rw [hu3]
  have eZ : u.2.2.1.2.1 = kZ := by rw [hu3]
  have eM : u.2.2.1.2.2 = kM := by rw [hu3]
  have d1 : dn_a u 1 = q5 := by rw [ea, A_9 1 (by decide) (by decide)]; exact g_9
  have d3 : dn_a u 3 = q16 := by rw [ea, A_10 3 (by decide) (by decide)]; exact g_10
  have d6 : dn_a u 6 = q27 := by rw [ea, A_8 6 (by decide) (by decide)]; exact g_8
  have d10 : dn_a u 10 = q42 := by rw [ea, A_3 10 (by decide) (by decide)]; exact g_3
  have d14 : dn_a u 14 = q53 := by rw [ea, A_4 14 (by decide) (by decide)]; exact g_4
  have d18 : dn_a u 18 = q68 := by rw [ea, A_5 18 (by decide) (by decide)]; exact g_5
  have d23 : dn_a u 23 = q87 := by rw [ea, A_2 23 (by decide) (by decide)]; exact g_2
  have d30 : dn_a u 30 = q106 := by rw [ea, A_0 30 (by decide) (by decide)]; exact g_0
  have d36 : dn_a u 36 = q121 := by rw [ea, A_6 36 (by decide) (by decide)]; exact g_6
  have d88 : dn_a u 88 = q132 := by rw [ea, A_7 88 (by decide) (by decide)]; exact g_7
  have d0 : dn_a u 0 = h0 := by rw [ea]; exact a0
  have G_9 := F_9 u H (fun k h1 h2 => (ea k).trans (A_9 k h1 h2))  eI
  have G_10 := F_10 u H (fun k h1 h2 => (ea k).trans (A_10 k h1 h2))  eI
  have G_8 := F_8 u H (fun k h1 h2 => (ea k).trans (A_8 k h1 h2)) d1 eI
  have G_3 := F_3 u H (fun k h1 h2 => (ea k).trans (A_3 k h1 h2))  eI
  have G_4 := F_4 u H (fun k h1 h2 => (ea k).trans (A_4 k h1 h2)) d3 eI
  have G_5 := F_5 u H (fun k h1 h2 => (ea k).trans (A_5 k h1 h2)) d3 d14 eI
  have G_2 := F_2 u H (fun k h1 h2 => (ea k).trans (A_2 k h1 h2)) d3 d14 eI
  have G_0 := F_0 u H (fun k h1 h2 => (ea k).trans (A_0 k h1 h2)) d14 eI
  have G_6 := F_6 u H (fun k h1 h2 => (ea k).trans (A_6 k h1 h2))  eI eZ eM
  have G_7 := F_7 u H (fun k h1 h2 => (ea k).trans (A_7 k h1 h2)) d3 d10 eI
  have G : dn_fit D u dn_s0 H (0 :: ((((((((((([] : List Nat) ++ [1, 2]) ++ [3, 4, 5]) ++ [6, 7, 8, 9]) ++ [10, 11, 12, 13]) ++ [14, 15, 16, 17]) ++ [18, 19, 20, 21, 22]) ++ [23, 24, 25, 26, 27, 28, 29]) ++ [30, 31, 32, 33, 34, 35]) ++ [36, 37, 38, 39, 40, 41, 42, 43, 44, 45, 46, 47, 48, 49, 50, 51, 52, 53, 54, 55, 56, 57, 58, 59, 60, 61, 62, 63, 64, 65, 66, 67, 68, 69, 70, 71, 72, 73, 74, 75, 76, 77, 78, 79, 80, 81, 82, 83, 84, 85, 86, 87]) ++ [88])) ((h0, .inr (11, [.ref q5, .ref q16, .ref q27, .ref q42, .ref q53, .ref q68, .ref q87, .ref q106, .ref q121, .ref q132])) :: ((((((((((([] : va_W) ++ w_9) ++ w_10) ++ w_8) ++ w_3) ++ w_4) ++ w_5) ++ w_2) ++ w_0) ++ w_6) ++ w_7)) := by
    refine ⟨⟨d0.symm, fun h => ?_⟩, (((((((((((show dn_fit D u dn_s0 H [] [] from trivial).app G_9).app G_10).app G_8).app G_3).app G_4).app G_5).app G_2).app G_0).app G_6).app G_7)⟩
    rw [(dn_h0 hu5).2 dn_s0, d0, d1, d3, d6, d10, d14, d18, d23, d30, d36, d88]
    exact h
  have hL : ∀ k ∈ dn_Lu u, k ∈ 0 :: ((((((((((([] : List Nat) ++ [1, 2]) ++ [3, 4, 5]) ++ [6, 7, 8, 9]) ++ [10, 11, 12, 13]) ++ [14, 15, 16, 17]) ++ [18, 19, 20, 21, 22]) ++ [23, 24, 25, 26, 27, 28, 29]) ++ [30, 31, 32, 33, 34, 35]) ++ [36, 37, 38, 39, 40, 41, 42, 43, 44, 45, 46, 47, 48, 49, 50, 51, 52, 53, 54, 55, 56, 57, 58, 59, 60, 61, 62, 63, 64, 65, 66, 67, 68, 69, 70, 71, 72, 73, 74, 75, 76, 77, 78, 79, 80, 81, 82, 83, 84, 85, 86, 87]) ++ [88]) := by rw [hu5]; decide
  obtain ⟨i1, i2⟩ := G.I hL (by rw [hu5]; exact List.nodup_range) hD
  refine ⟨u, hu5, hu1, hu4, d0, d3, d10, G.P hL hP, ⟨hK.1, fun i q hq => ?_⟩, i1, i2⟩
  match i, hq with
  | 0, hq => cases hq; rw [eI]; exact ⟨aI, hI⟩
  | 1, hq => cases hq; rw [eZ]; exact rZ
  | 2, hq => cases hq; rw [eM]; exact rM
set_option maxRecDepth 100000 in
set_option maxHeartbeats 4000000 in
theorem dn_uniR {D : va_G} {A : Nat → Prop} {h0 : Nat} {w : va_W} {t : List (ClassId × FieldType)} {H : Heap} {s : State} (sf : Nat × Nat × Nat) (kM : ClassId) (rM : ArrOfT s kM (.object "DayNames$Moment") ∧ va_RA s kM (.object "DayNames$Moment")) (h : is_X12 h0 w t) (hP : va_P D vwCl w H) (hD : va_D A w) (hK : va_K D vwCl t s) : ∃ u : dn_U, dn_Lu u = dn_LR ∧ u.1 = D ∧ u.2.2.2.1 = sf ∧ dn_a u 100 = h0 ∧ va_P D vwCl (dn_ws u dn_t0) H ∧ va_K D vwCl (dn_tys u) s ∧ dn_I u ∧ ∀ q, dn_A u q → A q := by
  obtain ⟨kI, aI, hI⟩ : ∃ kI : ClassId, ArrOfT s kI .int ∧ s.vm.findClass ("[" ++ FieldType.int.toString) = some kI := by
    obtain ⟨q8, k8, q15, k15, q22, k22, q29, k29, q37, k37, q50, k50, q57, k57, q64, k64, q72, k72, q81, k81, q88, k88, q95, k95, q103, k103, q111, k111, q118, k118, q125, k125, -, rfl⟩ := h
    exact ⟨k8, hK.2 0 _ rfl⟩
  obtain ⟨kZ, rZ, f, g, F⟩ := fit_X12 h hK hI
  obtain ⟨u, hu1, hu2, hu3, hu4, hu5⟩ : ∃ u : dn_U, u.1 = D ∧ u.2.1 = f ∧ u.2.2.1 = (kI, kZ, kM) ∧ u.2.2.2.1 = sf ∧ dn_Lu u = dn_LR := ⟨(D, f, (kI, kZ, kM), sf, dn_LR), rfl, rfl, rfl, rfl, rfl⟩
  have ea : ∀ k, dn_a u k = f k := fun k => by unfold dn_a; rw [hu2]
  have eI : u.2.2.1.1 = kI := by rw [hu3]
  have eZ : u.2.2.1.2.1 = kZ := by rw [hu3]
  have eM : u.2.2.1.2.2 = kM := by rw [hu3]
  have G := F u H (fun k _ _ => ea k) eI eZ
  have hL : ∀ k ∈ dn_Lu u, k ∈ [100, 101, 102, 103, 104, 105, 106, 107, 108, 109, 110, 111, 112, 113, 114, 115, 116] := by rw [hu5]; decide
  obtain ⟨i1, i2⟩ := G.I hL (by rw [hu5]; decide) hD
  refine ⟨u, hu5, hu1, hu4, by rw [ea]; exact g, G.P hL hP, ⟨hK.1, fun i q hq => ?_⟩, i1, i2⟩
  match i, hq with
  | 0, hq => cases hq; rw [eI]; exact ⟨aI, hI⟩
  | 1, hq => cases hq; rw [eZ]; exact rZ
  | 2, hq => cases hq; rw [eM]; exact rM
