/-! states of the two systems, their worlds (cells by number), and the judgement dn_T with a row an instruction (written by wip/whole/gen_rows.py) -/
abbrev dn_S : Type := (Nat → Nat → Int32) × Int64
def dn_g (σ : dn_S) (k j : Nat) : Int32 := σ.1 k j
def dn_l (σ : dn_S) : Int64 := σ.2
def dn_p (σ : dn_S) (k j : Nat) (v : Int32) : dn_S := (fun a b => if a = k ∧ b = j then v else σ.1 a b, σ.2)
def dn_q (σ : dn_S) (v : Int64) : dn_S := (σ.1, v)
theorem dn_g_p (σ : dn_S) (k j a b : Nat) (v : Int32) : dn_g (dn_p σ k j v) a b = if a = k ∧ b = j then v else dn_g σ a b := rfl
theorem dn_g_q (σ : dn_S) (v : Int64) (a b : Nat) : dn_g (dn_q σ v) a b = dn_g σ a b := rfl
theorem dn_l_p (σ : dn_S) (k j : Nat) (v : Int32) : dn_l (dn_p σ k j v) = dn_l σ := rfl
theorem dn_l_q (σ : dn_S) (v : Int64) : dn_l (dn_q σ v) = v := rfl
def dn_b (b : Bool) : Int32 := cond b 1 0
abbrev dn_U : Type := va_G × (Nat → Nat) × (ClassId × ClassId × ClassId) × (Nat × Nat × Nat) × List Nat
def dn_a (u : dn_U) (k : Nat) : Nat := u.2.1 k
def dn_Lu (u : dn_U) : List Nat := u.2.2.2.2
def dn_ks : List Nat := [12, 10, 1200, 11, 1028, 1030, 9, 11, 1028, 1030, 4, 1100, 1004, 1006, 5, 2, 1005, 1005, 6, 4, 1100, 1004, 1006, 3, 4, 1100, 1004, 1006, 1005, 1005, 1, 4, 1100, 1004, 1006, 1008, 7, 5010, 5002, 4002, 4, 1100, 1004, 1006, 4, 1100, 1004, 1006, 4, 1100, 1004, 1006, 4, 1100, 1004, 1006, 4, 1100, 1004, 1006, 4, 1100, 1004, 1006, 4, 1100, 1004, 1006, 4, 1100, 1004, 1006, 4, 1100, 1004, 1006, 4, 1100, 1004, 1006, 4, 1100, 1004, 1006, 4, 1100, 1004, 1006, 8, 0, 0, 0, 0, 0, 0, 0, 0, 0, 0, 0, 13, 2680, 4002, 1004, 1004, 1020, 1030, 1005, 1005, 1008, 1200, 1004, 1004, 1020, 1030, 1005, 1005]
def dn_k (k : Nat) : Nat := dn_ks.getD k 0
def dn_rb (k : Nat) : Nat := cond (Nat.beq k 37) 40 80
def dn_o (u : dn_U) (σ : dn_S) (k c : Nat) : List Value := match c with
  | 0 => [.ref (dn_a u 14), .ref (dn_a u 31), .ref (dn_a u 35), .int (dn_g σ k 3)]
  | 1 => [.ref (dn_a u 16), .ref (dn_a u 17)]
  | 2 => [.ref (dn_a u 3), .ref (dn_a u 14), .ref (dn_a u 24), .ref (dn_a u 28), .ref (dn_a u 29), .int (dn_g σ k 5)]
  | 3 => [.ref (dn_a u (k + 1)), .ref (dn_a u (k + 2)), .ref (dn_a u (k + 3)), .int (dn_g σ k 3), .int (dn_g σ k 4), .int (dn_g σ k 5), .int (dn_g σ k 6), .int (dn_g σ k 7)]
  | 4 => [.ref (dn_a u 3), .ref (dn_a u 15), .int (dn_g σ k 2), .int (dn_g σ k 3)]
  | 5 => [.ref (dn_a u 3), .ref (dn_a u 14), .ref (dn_a u 19)]
  | 6 => [.ref (dn_a u 37), .ref (dn_a u 38), .ref (dn_a u 39), .int (dn_g σ k 3), .int (dn_g σ k 4)]
  | 7 => [.ref (dn_a u 3), .ref (dn_a u 10), .long (dn_l σ)]
  | 8 => [.ref (dn_a u 1), .ref (dn_a u 7), .int (dn_g σ k 2), .int (dn_g σ k 3), .int (dn_g σ k 4), .int (dn_g σ k 5), .int (dn_g σ k 6)]
  | 9 => [.ref (dn_a u 2), .int (dn_g σ k 1)]
  | 10 => [.ref (dn_a u (k + 1)), .ref (dn_a u (k + 2)), .int (dn_g σ k 2), .int (dn_g σ k 3), .int (dn_g σ k 4)]
  | 11 => [.ref (dn_a u 1), .ref (dn_a u 3), .ref (dn_a u 6), .ref (dn_a u 10), .ref (dn_a u 14), .ref (dn_a u 18), .ref (dn_a u 23), .ref (dn_a u 30), .ref (dn_a u 36), .ref (dn_a u 88)]
  | 12 => [.ref (dn_a u 101), .int (dn_g σ k 1), .ref (dn_a u 102), .int (dn_g σ k 3), .ref (dn_a u 103), .ref (dn_a u 104), .ref (dn_a u 105), .int (dn_g σ k 7), .int (dn_g σ k 8), .ref (dn_a u 106), .int (dn_g σ k 10), .ref (dn_a u 107), .ref (dn_a u 108), .int (dn_g σ k 13), .ref (dn_a u 109), .long (dn_l σ), .ref (dn_a u 110), .int (dn_g σ k 17), .int (dn_g σ k 18), .int (dn_g σ k 19), .int (dn_g σ k 20), .int (dn_g σ k 21), .int (dn_g σ k 22), .ref (dn_a u 111), .ref (dn_a u 112), .ref (dn_a u 113), .int (dn_g σ k 26), .int (dn_g σ k 27), .int (dn_g σ k 28), .ref (dn_a u 114), .ref (dn_a u 115), .ref (dn_a u 116), .int (dn_g σ k 32), .int (dn_g σ k 33), .int (dn_g σ k 34)]
  | _ => []
def dn_c (u : dn_U) (σ : dn_S) (k : Nat) : va_E := match Nat.blt (dn_k k) 100 with
  | true => .inr (dn_k k - 1, dn_o u σ k (dn_k k - 1))
  | false => match Nat.blt (dn_k k) 4000 with
    | true => .inl (u.2.2.1.1, dn_k k - 1000, .inl (fun j => dn_g σ k j))
    | false => match Nat.blt (dn_k k) 5000 with
      | true => .inl (u.2.2.1.2.1, dn_k k - 4000, .inl (fun j => dn_g σ k j))
      | false => .inl (u.2.2.1.2.2, dn_k k - 5000, .inr (.inr (.inr (.inr (fun j => some (dn_a u (dn_rb k + 4 * j)))))))
def dn_ws (u : dn_U) (σ : dn_S) : va_W := (dn_Lu u).map (fun k => (dn_a u k, dn_c u σ k))
def dn_tys (u : dn_U) : List (ClassId × FieldType) := [(u.2.2.1.1, .int), (u.2.2.1.2.1, .boolean), (u.2.2.1.2.2, .object "DayNames$Moment")]
def dn_A (u : dn_U) : Nat → Prop := fun q => ∃ k, k ∈ dn_Lu u ∧ dn_a u k = q
def dn_I (u : dn_U) : Prop := (dn_Lu u).Nodup ∧ ∀ i ∈ dn_Lu u, ∀ j ∈ dn_Lu u, dn_a u i = dn_a u j → i = j
def dn_has (u : dn_U) (k : Nat) (e : dn_S → va_E) : Prop := k ∈ dn_Lu u ∧ ∀ σ, dn_c u σ k = e σ
theorem dn_wsK {u : dn_U} {k : Nat} (σ : dn_S) (h : k ∈ dn_Lu u) : ∃ q0 : Nat, (dn_Lu u)[q0]? = some k ∧ (dn_ws u σ)[q0]? = some (dn_a u k, dn_c u σ k) := by
  obtain ⟨i, hi⟩ := List.getElem?_of_mem h
  exact ⟨i, hi, by simp [dn_ws, hi]⟩
theorem dn_has.at {u : dn_U} {k : Nat} {e : dn_S → va_E} (h : dn_has u k e) (σ : dn_S) : ∃ q0 : Nat, (dn_Lu u)[q0]? = some k ∧ (dn_ws u σ)[q0]? = some (dn_a u k, e σ) := by
  obtain ⟨i, h1, h2⟩ := dn_wsK σ h.1
  exact ⟨i, h1, by rw [h2, h.2 σ]⟩
theorem dn_wsSet {u : dn_U} {σ σ' : dn_S} {i k : Nat} {e : va_E} (hn : (dn_Lu u).Nodup) (hi : (dn_Lu u)[i]? = some k) (he : dn_c u σ' k = e) (ho : ∀ j ∈ dn_Lu u, j ≠ k → dn_c u σ' j = dn_c u σ j) : (dn_ws u σ).set i (dn_a u k, e) = dn_ws u σ' := by
  apply List.ext_getElem?
  intro n
  rw [List.getElem?_set]
  have hlt : i < (dn_Lu u).length := (List.getElem?_eq_some_iff.mp hi).1
  by_cases h : i = n
  · subst h
    rw [if_pos rfl, if_pos (by simp [dn_ws]; exact hlt)]
    simp [dn_ws, hi, he]
  · rw [if_neg h]
    simp only [dn_ws, List.getElem?_map]
    cases hj : (dn_Lu u)[n]? with
    | none => rfl
    | some j =>
      have hne : j ≠ k := fun q => h ((List.getElem?_inj hlt hn).mp (by rw [hi, hj, q]))
      simp [ho j (List.mem_of_getElem? hj) hne]
theorem dn_wsD {u : dn_U} (hI : dn_I u) (σ : dn_S) : va_D (dn_A u) (dn_ws u σ) := by
  refine ⟨fun i j p q hp hq hpq => ?_, fun k q hk => ?_⟩
  · simp only [dn_ws, List.getElem?_map, Option.map_eq_some_iff] at hp hq
    obtain ⟨a, ha, rfl⟩ := hp
    obtain ⟨b, hb, rfl⟩ := hq
    have hab := hI.2 a (List.mem_of_getElem? ha) b (List.mem_of_getElem? hb) hpq
    subst hab
    exact (List.getElem?_inj (List.getElem?_eq_some_iff.mp ha).1 hI.1).mp (by rw [ha, hb])
  · simp only [dn_ws, List.getElem?_map, Option.map_eq_some_iff] at hk
    obtain ⟨a, ha, rfl⟩ := hk
    exact ⟨a, List.mem_of_getElem? ha, rfl⟩
theorem dn_o_congr {u : dn_U} {σ σ' : dn_S} {k c : Nat} (hg : ∀ b, dn_g σ' k b = dn_g σ k b) (hl : dn_l σ' = dn_l σ ∨ (c ≠ 7 ∧ c ≠ 12)) : dn_o u σ' k c = dn_o u σ k c := by
  unfold dn_o
  split <;> simp_all
theorem dn_c_congr {u : dn_U} {σ σ' : dn_S} {k : Nat} (hg : ∀ b, dn_g σ' k b = dn_g σ k b) (hl : dn_l σ' = dn_l σ ∨ (dn_k k - 1 ≠ 7 ∧ dn_k k - 1 ≠ 12)) : dn_c u σ' k = dn_c u σ k := by
  unfold dn_c
  rw [dn_o_congr hg hl]
  simp only [hg]
theorem dn_c_p {u : dn_U} {σ : dn_S} {k j x : Nat} {v : Int32} (h : j ≠ k) : dn_c u (dn_p σ k x v) j = dn_c u σ j :=
  dn_c_congr (fun b => by rw [dn_g_p, if_neg (fun q => h q.1)]) (Or.inl rfl)
def dn_qz (u : dn_U) (k : Nat) : Prop := ∀ j ∈ dn_Lu u, j ≠ k → dn_k j - 1 ≠ 7 ∧ dn_k j - 1 ≠ 12
theorem dn_c_q {u : dn_U} {σ : dn_S} {k : Nat} {v : Int64} (h : dn_qz u k) : ∀ j ∈ dn_Lu u, j ≠ k → dn_c u (dn_q σ v) j = dn_c u σ j := fun j hj hk =>
  dn_c_congr (fun b => rfl) (Or.inr (h j hj hk))
/-- the three static rows of Reader -/
def dn_st0 (j : Nat) : Int32 := match j with | 0 => 99 | 1 => 9 | _ => 20
def dn_st1 (j : Nat) : Int32 := match j with | 2 => 1 | 3 => 1 | _ => 0
def dn_st2 (j : Nat) : Int32 := match j with | 2 => 50 | 3 => 5 | 4 => 4 | _ => 0
def dn_SF (u : dn_U) (U : State) (H : Heap) : Prop :=
  (va_Z "DayNames$Reader" "BIDDER_MOST" "[I" (.ref u.2.2.2.1.1) (dn_A u) U H ∧ va_T .int u.2.2.2.1.1 7 (fun j => .int (dn_st0 j)) (dn_A u) U H) ∧
  (va_Z "DayNames$Reader" "DEBT_LEAST" "[I" (.ref u.2.2.2.1.2.1) (dn_A u) U H ∧ va_T .int u.2.2.2.1.2.1 5 (fun j => .int (dn_st1 j)) (dn_A u) U H) ∧
  (va_Z "DayNames$Reader" "DEBT_MOST" "[I" (.ref u.2.2.2.1.2.2) (dn_A u) U H ∧ va_T .int u.2.2.2.1.2.2 5 (fun j => .int (dn_st2 j)) (dn_A u) U H)
theorem dn_SF.go {u : dn_U} {s U : State} {H H1 : Heap} (hW : s.vm.Alike U.vm) (h : dn_SF u s H) (hq : ∀ a : Nat, a < H.size → ¬ dn_A u a → H1[a]? = H[a]?) : dn_SF u U H1 :=
  ⟨⟨(h.1.1.moved hW).kept hq, (h.1.2.moved hW).kept hq⟩, ⟨(h.2.1.1.moved hW).kept hq, (h.2.1.2.moved hW).kept hq⟩, ⟨(h.2.2.1.moved hW).kept hq, (h.2.2.2.moved hW).kept hq⟩⟩
def dn_nw : List Cond := [.methodLinkNest "DayNames" (9 : Nat) ({ cls := "DayNames$Text", name := "<init>", desc := "()V" } : MethodName) "DayNames", .fieldLinkNest "DayNames" (96 : Nat) "DayNames$Text" "length" "I" "DayNames", .fieldLinkNest "DayNames$Reader" (100 : Nat) "DayNames$Text" "length" "I" "DayNames", .methodLinkNest "DayNames" (18 : Nat) ({ cls := "DayNames$Town", name := "<init>", desc := "()V" } : MethodName) "DayNames", .fieldLinkNest "DayNames$Bids" (18 : Nat) "DayNames$Town" "bidders" "I" "DayNames", .fieldLinkNest "DayNames$Reader" (52 : Nat) "DayNames$Town" "bidders" "I" "DayNames", .fieldLinkNest "DayNames$Nights" (85 : Nat) "DayNames$Town" "bidders" "I" "DayNames", .fieldLinkNest "DayNames" (268 : Nat) "DayNames$Town" "bidders" "I" "DayNames", .fieldLinkNest "DayNames$Reader" (80 : Nat) "DayNames$Town" "debts" "I" "DayNames", .fieldLinkNest "DayNames$Nights" (95 : Nat) "DayNames$Town" "debts" "I" "DayNames", .fieldLinkNest "DayNames$Rates" (71 : Nat) "DayNames$Town" "debts" "I" "DayNames", .fieldLinkNest "DayNames" (271 : Nat) "DayNames$Town" "debts" "I" "DayNames", .fieldLinkNest "DayNames$Nights" (30 : Nat) "DayNames$Town" "bar" "I" "DayNames", .fieldLinkNest "DayNames$Bids" (42 : Nat) "DayNames$Town" "bar" "I" "DayNames", .fieldLinkNest "DayNames$Reader" (77 : Nat) "DayNames$Town" "bar" "I" "DayNames", .fieldLinkNest "DayNames$Outlook" (43 : Nat) "DayNames$Town" "bar" "I" "DayNames", .fieldLinkNest "DayNames" (158 : Nat) "DayNames$Town" "bar" "I" "DayNames", .methodLinkNest "DayNames$Reader" (11 : Nat) ({ cls := "DayNames$Town", name := "<init>", desc := "()V" } : MethodName) "DayNames", .fieldLinkNest "DayNames" (111 : Nat) "DayNames$Reader" "draft" "LDayNames$Town;" "DayNames", .methodLinkNest "DayNames" (34 : Nat) ({ cls := "DayNames$Moment", name := "<init>", desc := "()V" } : MethodName) "DayNames", .fieldLinkNest "DayNames" (143 : Nat) "DayNames$Moment" "days" "I" "DayNames", .fieldLinkNest "DayNames$Rates" (67 : Nat) "DayNames$Moment" "days" "I" "DayNames", .fieldLinkNest "DayNames$Nights" (59 : Nat) "DayNames$Moment" "skipped" "I" "DayNames", .fieldLinkNest "DayNames" (165 : Nat) "DayNames$Moment" "skipped" "I" "DayNames", .fieldLinkNest "DayNames$Outlook" (61 : Nat) "DayNames$Moment" "spent" "I" "DayNames", .fieldLinkNest "DayNames$Nights" (68 : Nat) "DayNames$Moment" "spent" "I" "DayNames", .fieldLinkNest "DayNames" (168 : Nat) "DayNames$Moment" "spent" "I" "DayNames", .fieldLinkNest "DayNames" (187 : Nat) "DayNames$Moment" "ownName" "I" "DayNames", .fieldLinkNest "DayNames" (190 : Nat) "DayNames$Moment" "ownCoins" "I" "DayNames", .methodLinkNest "DayNames$Nights" (11 : Nat) ({ cls := "DayNames$Bids", name := "<init>", desc := "()V" } : MethodName) "DayNames", .methodLinkNest "DayNames$Outlook" (11 : Nat) ({ cls := "DayNames$Moment", name := "<init>", desc := "()V" } : MethodName) "DayNames", .methodLinkNest "DayNames$Finds" (11 : Nat) ({ cls := "DayNames$Moment", name := "<init>", desc := "()V" } : MethodName) "DayNames", .fieldLinkNest "DayNames" (231 : Nat) "DayNames$Finds" "many" "I" "DayNames", .methodLinkNest "DayNames$Agenda" (11 : Nat) ({ cls := "DayNames$Moment", name := "<init>", desc := "()V" } : MethodName) "DayNames", .fieldLinkNest "DayNames" (241 : Nat) "DayNames$Agenda" "many" "I" "DayNames", .methodLinkNest "DayNames$Past" (24 : Nat) ({ cls := "DayNames$Moment", name := "<init>", desc := "()V" } : MethodName) "DayNames", .fieldLinkNest "DayNames" (177 : Nat) "DayNames$Past" "known" "I" "DayNames", .fieldLinkNest "DayNames" (274 : Nat) "DayNames$Rates" "track" "J" "DayNames", .methodLinkNest "DayNames$Town" (32 : Nat) ({ cls := "DayNames", name := "at", desc := "([II)I" } : MethodName) "DayNames", .methodLinkNest "DayNames$Text" (19 : Nat) ({ cls := "DayNames", name := "put", desc := "([III)V" } : MethodName) "DayNames", .methodLinkNest "DayNames$Reader" (59 : Nat) ({ cls := "DayNames", name := "at", desc := "([II)I" } : MethodName) "DayNames", .methodLinkNest "DayNames$Reader" (96 : Nat) ({ cls := "DayNames", name := "within", desc := "(III)Z" } : MethodName) "DayNames", .methodLinkNest "DayNames$Town" (36 : Nat) ({ cls := "DayNames", name := "put", desc := "([III)V" } : MethodName) "DayNames", .methodLinkNest "DayNames$Town" (28 : Nat) ({ cls := "DayNames", name := "copyRow", desc := "([I[I)V" } : MethodName) "DayNames", .methodLinkNest "DayNames$Moment" (54 : Nat) ({ cls := "DayNames", name := "at", desc := "([II)I" } : MethodName) "DayNames", .methodLinkNest "DayNames$Moment" (40 : Nat) ({ cls := "DayNames", name := "copyRow", desc := "([I[I)V" } : MethodName) "DayNames", .methodLinkNest "DayNames$Bids" (32 : Nat) ({ cls := "DayNames", name := "at", desc := "([II)I" } : MethodName) "DayNames", .methodLinkNest "DayNames$Bids" (53 : Nat) ({ cls := "DayNames", name := "put", desc := "([III)V" } : MethodName) "DayNames", .methodLinkNest "DayNames$Nights" (26 : Nat) ({ cls := "DayNames", name := "isName", desc := "(I)Z" } : MethodName) "DayNames", .methodLinkNest "DayNames$Moment" (50 : Nat) ({ cls := "DayNames", name := "put", desc := "([III)V" } : MethodName) "DayNames", .methodLinkNest "DayNames$Finds" (37 : Nat) ({ cls := "DayNames", name := "put", desc := "([III)V" } : MethodName) "DayNames", .methodLinkNest "DayNames$Finds" (68 : Nat) ({ cls := "DayNames", name := "at", desc := "([II)I" } : MethodName) "DayNames", .methodLinkNest "DayNames$Agenda" (30 : Nat) ({ cls := "DayNames", name := "put", desc := "([III)V" } : MethodName) "DayNames", .methodLinkNest "DayNames$Agenda" (38 : Nat) ({ cls := "DayNames", name := "at", desc := "([II)I" } : MethodName) "DayNames"]
def dn_isN (w : Cond) : Bool := match w with
  | .fieldLinkNest .. => true
  | .methodLinkNest .. => true
  | _ => false
theorem dn_nw_isN : ∀ w ∈ dn_nw, dn_isN w = true := by decide +kernel
def dn_NW (U : State) : Prop := ∀ w ∈ dn_nw, va_Nw w U
theorem dn_NW.warm {s U : State} (hW : s.WarmedH U.vm) (h : dn_NW s) : dn_NW U := by
  intro w hw
  have h1 := dn_nw_isN w hw
  have h2 := h w hw
  cases w <;> first | exact va_Nw.warmF hW h2 | exact va_Nw.warmM hW h2 | (exact absurd h1 (by simp [dn_isN]))
theorem dn_NW.same {s U : State} (hv : s.vm = U.vm) (h : dn_NW s) : dn_NW U := by
  intro w hw
  have h1 := dn_nw_isN w hw
  have h2 := h w hw
  cases w <;> first | exact va_Nw.same rfl hv h2 | (exact absurd h1 (by simp [dn_isN]))
/-- what stays as it is through a method -/
def dn_C (u : dn_U) (s : State) : Prop := va_K u.1 vwCl (dn_tys u) s ∧ dn_SF u s s.heap ∧ dn_NW s ∧ dn_I u
theorem dn_C.go {u : dn_U} {s U : State} {H : Heap} {locs : List Loc} (h : dn_C u s) (hW : s.WarmedH U.vm) (hH : U.heap = H) (hS : va_S (dn_A u) s.heap H locs) : dn_C u U :=
  ⟨va_K.moved hW.alike h.1, by rw [hH]; exact h.2.1.go hW.alike (fun a ha hn => hS.2.1 a ha hn), h.2.2.1.warm hW, h.2.2.2⟩
def dn_G (u : dn_U) (σ : dn_S) (U : State) : Prop := va_P u.1 vwCl (dn_ws u σ) U.heap ∧ dn_C u U
theorem dn_G.calling {u : dn_U} {σ : dn_S} {U : State} (h : dn_G u σ U) (g : JFrame) (mk : MethodId) (a : Array Value) : dn_G u σ (U.calling g mk a) :=
  ⟨h.1, va_K.moved (u := U) (U := U.calling g mk a) (Vm.Alike.refl U.vm) h.2.1, h.2.2.1.go (s := U) (U := U.calling g mk a) (Vm.Alike.refl U.vm) (fun _ _ _ => rfl), dn_NW.same (s := U) (U := U.calling g mk a) rfl h.2.2.2.1, h.2.2.2.2⟩
abbrev dn_M : Type := Program × Launch × Env × Room × State × MethodId × Array Value × List Frame × Method × Code
/-- a method's contract: if its picture mdl gives a, it returns so -/
def dn_Met {α : Type} (l : Launch) (u : dn_U) (y : MethodName) (ws : List Cond) (fr lo : Nat) (av : List Value) (σ : dn_S) (mdl : Option α) (Qc : α → Array Value → State → Outcome → State → Prop) : Prop :=
  ∀ a, mdl = some a → Met l y ws { frames := fr, cells := 0, slots := 0, locals := lo } (va_Pc av (dn_G u σ)) (Qc a) 0 0 (dn_A u)
def dn_QI (u : dn_U) (a : Int32 × dn_S) : Array Value → State → Outcome → State → Prop := va_Qi (fun (r : Int32) (x : dn_S) => r = a.1 ∧ x = a.2) (fun x t => va_P u.1 vwCl (dn_ws u x) t.heap) (dn_A u)
def dn_QZ (u : dn_U) (a : Bool × dn_S) : Array Value → State → Outcome → State → Prop := va_Qi (fun (r : Int32) (x : dn_S) => r = dn_b a.1 ∧ x = a.2) (fun x t => va_P u.1 vwCl (dn_ws u x) t.heap) (dn_A u)
def dn_QJ (u : dn_U) (a : Int64 × dn_S) : Array Value → State → Outcome → State → Prop := va_Ql (fun (r : Int64) (x : dn_S) => r = a.1 ∧ x = a.2) (fun x t => va_P u.1 vwCl (dn_ws u x) t.heap) (dn_A u)
def dn_QV (u : dn_U) (a : Unit × dn_S) : Array Value → State → Outcome → State → Prop := va_Qv (fun (x : dn_S) => x = a.2) (fun x t => va_P u.1 vwCl (dn_ws u x) t.heap) (dn_A u)
def dn_X (u : dn_U) (g : dn_M) (cc : ByteArray) (Ts : List Cond) (own : String) (nL fr lo : Nat) (ret : Option FieldType) : Prop := match g with
  | (p, l, e, R, s, m, args, below, meth, c) => p.tables.exec = Jvm.exec ∧ c.code = cc ∧ c.maxLocals = nL ∧ s.vm.findClass own = some m.cls ∧ (∀ w ∈ Ts, w.before args s = true) ∧ meth.locks = false ∧ meth.sig.returnType = ret ∧ R.frames = fr ∧ R.locals = lo ∧ dn_C u s
def dn_T {α : Type} (u : dn_U) (g : dn_M) (nL : Nat) (Qc : α → Array Value → State → Outcome → State → Prop) (mdl : Option α) (σ : dn_S) (pc : Nat) (lv : List (Nat × Value)) (st : List Value) : Prop := match g with
  | (p, l, e, R, s, m, args, below, meth, c) => ∀ (H : Heap) (locs : List Loc) (ls : Array Slot) (a : α), mdl = some a → va_P u.1 vwCl (dn_ws u σ) H → va_S (dn_A u) s.heap H locs → lv_has ls nL lv → W p l e R s m args below meth c H locs 0 0 (MQ below (Qc a) args s 0 0 (dn_A u)) (F0 m pc ls st)
/-- a bind over a call's answer; a write; a name; a check -/
def dn_bd {β α : Type} (x : Option (β × dn_S)) (K : β → dn_S → Option α) : Option α := match x with
  | none => none
  | some (r, s) => K r s
def dn_wr {α : Type} (σ : dn_S) (K : dn_S → Option α) : Option α := K σ
def dn_lt {β α : Type} (v : β) (K : β → Option α) : Option α := K v
def dn_ib (i : Int32) (n : Nat) : Bool := decide (0 ≤ i.toInt ∧ i.toInt < (n : Int))
def dn_ck {α : Type} (b : Bool) (a : Option α) : Option α := match b with
  | true => a
  | false => none
theorem dn_ib_in {i : Int32} {n : Nat} (h : dn_ib i n = true) : vp_in i n := vp_in_iff.mpr (of_decide_eq_true h)
def dn_mx (x y : Int32) : Int32 := if x < y then y else x
def dn_mn (x y : Int32) : Int32 := if y < x then y else x
def dn_dv (x y : Int32) : Int32 := x / y
def dn_rm (x y : Int32) : Int32 := x - x / y * y
def dn_cmp (x y : Int64) : Int32 := lg_cmp x y
def dn_shl (x y : Int32) : Int32 := x <<< (y &&& 31)
def dn_shr (x y : Int32) : Int32 := x >>> (y &&& 31)
def dn_nz (y : Int32) : Bool := decide (¬ y = 0)
theorem dn_nz_of {y : Int32} (h : ¬ y = 0) : dn_nz y = true := decide_eq_true h
theorem dn_nar_b (v : Bool) : vp_nar .boolean (dn_b v) = dn_b v := by cases v <;> decide
theorem dn_nar_bv (v : Bool) : narrow .boolean (.int (dn_b v)) = .int (dn_b v) := by cases v <;> rfl
theorem dn_fit_bv (v : Bool) : fits .boolean (.int (dn_b v)) = true := by cases v <;> rfl
theorem dn_upd_eq (σ : dn_S) (k i : Nat) (v : Int32) : (fun j => dn_g (dn_p σ k i v) k j) = upd (fun j => dn_g σ k j) i v := by
  funext j
  simp only [dn_g_p, upd]
  by_cases h : j = i <;> simp [h]
theorem dt_none {u : dn_U} {g : dn_M} {cc : ByteArray} {Ts : List Cond} {own : String} {nL fr lo : Nat} {ret : Option FieldType} {α : Type} {Qc : α → Array Value → State → Outcome → State → Prop} {σ : dn_S} {pc : Nat} {lv : List (Nat × Value)} {st : List Value} (X : dn_X u g cc Ts own nL fr lo ret) : dn_T u g nL Qc none σ pc lv st := by
  obtain ⟨p, l, e, R, s, m, args, below, meth, c⟩ := g
  obtain ⟨hx, hb, hml, hown, hts, hlk, hret, hfr, hlo, hC⟩ := X
  intro H locs ls a ha hP hS hl
  cases ha
set_option maxRecDepth 20000 in
theorem dt_iconst {u : dn_U} {g : dn_M} {cc : ByteArray} {Ts : List Cond} {own : String} {nL fr lo : Nat} {ret : Option FieldType} {α : Type} {Qc : α → Array Value → State → Outcome → State → Prop} {mdl : Option α} {σ : dn_S} {pc : Nat} {lv : List (Nat × Value)} {st : List Value} (X : dn_X u g cc Ts own nL fr lo ret) {n : Int} {v : Int32} (hd : decode cc pc = .ok (.iconst n, 1)) (hv : Int32.ofInt n = v) (K : dn_T u g nL Qc mdl σ (pc + 1) lv (.int v :: st)) : dn_T u g nL Qc mdl σ pc lv (st) := by
  obtain ⟨p, l, e, R, s, m, args, below, meth, c⟩ := g
  obtain ⟨hx, hb, hml, hown, hts, hlk, hret, hfr, hlo, hC⟩ := X
  intro H locs ls a ha hP hS hl
  exact lv_iconst hx hb hd hv (K H locs ls a ha hP hS hl)
set_option maxRecDepth 20000 in
theorem dt_bipush {u : dn_U} {g : dn_M} {cc : ByteArray} {Ts : List Cond} {own : String} {nL fr lo : Nat} {ret : Option FieldType} {α : Type} {Qc : α → Array Value → State → Outcome → State → Prop} {mdl : Option α} {σ : dn_S} {pc : Nat} {lv : List (Nat × Value)} {st : List Value} (X : dn_X u g cc Ts own nL fr lo ret) {n : Int} {v : Int32} (hd : decode cc pc = .ok (.bipush n, 2)) (hv : (Int8.ofInt n).toInt32 = v) (K : dn_T u g nL Qc mdl σ (pc + 2) lv (.int v :: st)) : dn_T u g nL Qc mdl σ pc lv (st) := by
  obtain ⟨p, l, e, R, s, m, args, below, meth, c⟩ := g
  obtain ⟨hx, hb, hml, hown, hts, hlk, hret, hfr, hlo, hC⟩ := X
  intro H locs ls a ha hP hS hl
  exact lv_bipush hx hb hd hv (K H locs ls a ha hP hS hl)
set_option maxRecDepth 20000 in
theorem dt_sipush {u : dn_U} {g : dn_M} {cc : ByteArray} {Ts : List Cond} {own : String} {nL fr lo : Nat} {ret : Option FieldType} {α : Type} {Qc : α → Array Value → State → Outcome → State → Prop} {mdl : Option α} {σ : dn_S} {pc : Nat} {lv : List (Nat × Value)} {st : List Value} (X : dn_X u g cc Ts own nL fr lo ret) {n : Int} {v : Int32} (hd : decode cc pc = .ok (.sipush n, 3)) (hv : (Int16.ofInt n).toInt32 = v) (K : dn_T u g nL Qc mdl σ (pc + 3) lv (.int v :: st)) : dn_T u g nL Qc mdl σ pc lv (st) := by
  obtain ⟨p, l, e, R, s, m, args, below, meth, c⟩ := g
  obtain ⟨hx, hb, hml, hown, hts, hlk, hret, hfr, hlo, hC⟩ := X
  intro H locs ls a ha hP hS hl
  exact lv_sipush hx hb hd hv (K H locs ls a ha hP hS hl)
set_option maxRecDepth 20000 in
theorem dt_lconst {u : dn_U} {g : dn_M} {cc : ByteArray} {Ts : List Cond} {own : String} {nL fr lo : Nat} {ret : Option FieldType} {α : Type} {Qc : α → Array Value → State → Outcome → State → Prop} {mdl : Option α} {σ : dn_S} {pc : Nat} {lv : List (Nat × Value)} {st : List Value} (X : dn_X u g cc Ts own nL fr lo ret) {n : Fin 2} {v : Int64} (hd : decode cc pc = .ok (.lconst n, 1)) (hv : Int64.ofNat (n : Nat) = v) (K : dn_T u g nL Qc mdl σ (pc + 1) lv (.long v :: st)) : dn_T u g nL Qc mdl σ pc lv (st) := by
  obtain ⟨p, l, e, R, s, m, args, below, meth, c⟩ := g
  obtain ⟨hx, hb, hml, hown, hts, hlk, hret, hfr, hlo, hC⟩ := X
  intro H locs ls a ha hP hS hl
  exact lv_lconst hx hb hd hv (K H locs ls a ha hP hS hl)
set_option maxRecDepth 20000 in
theorem dt_ldc {u : dn_U} {g : dn_M} {cc : ByteArray} {Ts : List Cond} {own : String} {nL fr lo : Nat} {ret : Option FieldType} {α : Type} {Qc : α → Array Value → State → Outcome → State → Prop} {mdl : Option α} {σ : dn_S} {pc : Nat} {lv : List (Nat × Value)} {st : List Value} (X : dn_X u g cc Ts own nL fr lo ret) {index : Nat} {v : Int32} (hd : decode cc pc = .ok (.ldc index, 2)) (hw : Cond.constant own index v ∈ Ts) (K : dn_T u g nL Qc mdl σ (pc + 2) lv (.int v :: st)) : dn_T u g nL Qc mdl σ pc lv (st) := by
  obtain ⟨p, l, e, R, s, m, args, below, meth, c⟩ := g
  obtain ⟨hx, hb, hml, hown, hts, hlk, hret, hfr, hlo, hC⟩ := X
  intro H locs ls a ha hP hS hl
  exact lv_ldc hx hb hown (hts _ hw) hd (K H locs ls a ha hP hS hl)
set_option maxRecDepth 20000 in
theorem dt_ldc2 {u : dn_U} {g : dn_M} {cc : ByteArray} {Ts : List Cond} {own : String} {nL fr lo : Nat} {ret : Option FieldType} {α : Type} {Qc : α → Array Value → State → Outcome → State → Prop} {mdl : Option α} {σ : dn_S} {pc : Nat} {lv : List (Nat × Value)} {st : List Value} (X : dn_X u g cc Ts own nL fr lo ret) {index : Nat} {v : Int64} (hd : decode cc pc = .ok (.ldc2_w index, 3)) (hw : Cond.constantLong own index v ∈ Ts) (K : dn_T u g nL Qc mdl σ (pc + 3) lv (.long v :: st)) : dn_T u g nL Qc mdl σ pc lv (st) := by
  obtain ⟨p, l, e, R, s, m, args, below, meth, c⟩ := g
  obtain ⟨hx, hb, hml, hown, hts, hlk, hret, hfr, hlo, hC⟩ := X
  intro H locs ls a ha hP hS hl
  exact lv_ldc2 hx hb hown (hts _ hw) hd (K H locs ls a ha hP hS hl)
set_option maxRecDepth 20000 in
theorem dt_iload_n {u : dn_U} {g : dn_M} {cc : ByteArray} {Ts : List Cond} {own : String} {nL fr lo : Nat} {ret : Option FieldType} {α : Type} {Qc : α → Array Value → State → Outcome → State → Prop} {mdl : Option α} {σ : dn_S} {pc : Nat} {lv : List (Nat × Value)} {st : List Value} (X : dn_X u g cc Ts own nL fr lo ret) {k : Fin 4} {i : Nat} {x : Int32} (j : Nat) (hd : decode cc pc = .ok (.iload_n k, 1)) (hi : (k : Nat) = i) (hj : lv[j]? = some (i, .int x)) (K : dn_T u g nL Qc mdl σ (pc + 1) lv (.int x :: st)) : dn_T u g nL Qc mdl σ pc lv (st) := by
  obtain ⟨p, l, e, R, s, m, args, below, meth, c⟩ := g
  obtain ⟨hx, hb, hml, hown, hts, hlk, hret, hfr, hlo, hC⟩ := X
  intro H locs ls a ha hP hS hl
  exact lv_iload_n hx hb hd hi (lv_at hl j hj) (K H locs ls a ha hP hS hl)
set_option maxRecDepth 20000 in
theorem dt_iload {u : dn_U} {g : dn_M} {cc : ByteArray} {Ts : List Cond} {own : String} {nL fr lo : Nat} {ret : Option FieldType} {α : Type} {Qc : α → Array Value → State → Outcome → State → Prop} {mdl : Option α} {σ : dn_S} {pc : Nat} {lv : List (Nat × Value)} {st : List Value} (X : dn_X u g cc Ts own nL fr lo ret) {i : Nat} {x : Int32} (j : Nat) (hd : decode cc pc = .ok (.iload i, 2)) (hj : lv[j]? = some (i, .int x)) (K : dn_T u g nL Qc mdl σ (pc + 2) lv (.int x :: st)) : dn_T u g nL Qc mdl σ pc lv (st) := by
  obtain ⟨p, l, e, R, s, m, args, below, meth, c⟩ := g
  obtain ⟨hx, hb, hml, hown, hts, hlk, hret, hfr, hlo, hC⟩ := X
  intro H locs ls a ha hP hS hl
  exact lv_iload hx hb hd (lv_at hl j hj) (K H locs ls a ha hP hS hl)
set_option maxRecDepth 20000 in
theorem dt_lload_n {u : dn_U} {g : dn_M} {cc : ByteArray} {Ts : List Cond} {own : String} {nL fr lo : Nat} {ret : Option FieldType} {α : Type} {Qc : α → Array Value → State → Outcome → State → Prop} {mdl : Option α} {σ : dn_S} {pc : Nat} {lv : List (Nat × Value)} {st : List Value} (X : dn_X u g cc Ts own nL fr lo ret) {k : Fin 4} {i : Nat} {x : Int64} (j : Nat) (hd : decode cc pc = .ok (.lload_n k, 1)) (hi : (k : Nat) = i) (hj : lv[j]? = some (i, .long x)) (K : dn_T u g nL Qc mdl σ (pc + 1) lv (.long x :: st)) : dn_T u g nL Qc mdl σ pc lv (st) := by
  obtain ⟨p, l, e, R, s, m, args, below, meth, c⟩ := g
  obtain ⟨hx, hb, hml, hown, hts, hlk, hret, hfr, hlo, hC⟩ := X
  intro H locs ls a ha hP hS hl
  exact lv_lload_n hx hb hd hi (lv_at hl j hj) (K H locs ls a ha hP hS hl)
set_option maxRecDepth 20000 in
theorem dt_lload {u : dn_U} {g : dn_M} {cc : ByteArray} {Ts : List Cond} {own : String} {nL fr lo : Nat} {ret : Option FieldType} {α : Type} {Qc : α → Array Value → State → Outcome → State → Prop} {mdl : Option α} {σ : dn_S} {pc : Nat} {lv : List (Nat × Value)} {st : List Value} (X : dn_X u g cc Ts own nL fr lo ret) {i : Nat} {x : Int64} (j : Nat) (hd : decode cc pc = .ok (.lload i, 2)) (hj : lv[j]? = some (i, .long x)) (K : dn_T u g nL Qc mdl σ (pc + 2) lv (.long x :: st)) : dn_T u g nL Qc mdl σ pc lv (st) := by
  obtain ⟨p, l, e, R, s, m, args, below, meth, c⟩ := g
  obtain ⟨hx, hb, hml, hown, hts, hlk, hret, hfr, hlo, hC⟩ := X
  intro H locs ls a ha hP hS hl
  exact lv_lload hx hb hd (lv_at hl j hj) (K H locs ls a ha hP hS hl)
set_option maxRecDepth 20000 in
theorem dt_aload_n {u : dn_U} {g : dn_M} {cc : ByteArray} {Ts : List Cond} {own : String} {nL fr lo : Nat} {ret : Option FieldType} {α : Type} {Qc : α → Array Value → State → Outcome → State → Prop} {mdl : Option α} {σ : dn_S} {pc : Nat} {lv : List (Nat × Value)} {st : List Value} (X : dn_X u g cc Ts own nL fr lo ret) {k : Fin 4} {i : Nat} {x : Nat} (j : Nat) (hd : decode cc pc = .ok (.aload_n k, 1)) (hi : (k : Nat) = i) (hj : lv[j]? = some (i, .ref x)) (K : dn_T u g nL Qc mdl σ (pc + 1) lv (.ref x :: st)) : dn_T u g nL Qc mdl σ pc lv (st) := by
  obtain ⟨p, l, e, R, s, m, args, below, meth, c⟩ := g
  obtain ⟨hx, hb, hml, hown, hts, hlk, hret, hfr, hlo, hC⟩ := X
  intro H locs ls a ha hP hS hl
  exact lv_aload_n hx hb hd hi (lv_at hl j hj) (K H locs ls a ha hP hS hl)
set_option maxRecDepth 20000 in
theorem dt_aload {u : dn_U} {g : dn_M} {cc : ByteArray} {Ts : List Cond} {own : String} {nL fr lo : Nat} {ret : Option FieldType} {α : Type} {Qc : α → Array Value → State → Outcome → State → Prop} {mdl : Option α} {σ : dn_S} {pc : Nat} {lv : List (Nat × Value)} {st : List Value} (X : dn_X u g cc Ts own nL fr lo ret) {i : Nat} {x : Nat} (j : Nat) (hd : decode cc pc = .ok (.aload i, 2)) (hj : lv[j]? = some (i, .ref x)) (K : dn_T u g nL Qc mdl σ (pc + 2) lv (.ref x :: st)) : dn_T u g nL Qc mdl σ pc lv (st) := by
  obtain ⟨p, l, e, R, s, m, args, below, meth, c⟩ := g
  obtain ⟨hx, hb, hml, hown, hts, hlk, hret, hfr, hlo, hC⟩ := X
  intro H locs ls a ha hP hS hl
  exact lv_aload hx hb hd (lv_at hl j hj) (K H locs ls a ha hP hS hl)
set_option maxRecDepth 20000 in
theorem dt_istore_n {u : dn_U} {g : dn_M} {cc : ByteArray} {Ts : List Cond} {own : String} {nL fr lo : Nat} {ret : Option FieldType} {α : Type} {Qc : α → Array Value → State → Outcome → State → Prop} {mdl : Option α} {σ : dn_S} {pc : Nat} {lv : List (Nat × Value)} {st : List Value} (X : dn_X u g cc Ts own nL fr lo ret) {k : Fin 4} {i : Nat} {x : Int32} (lv' : List (Nat × Value)) (hd : decode cc pc = .ok (.istore_n k, 1)) (hi : (k : Nat) = i) (hn : Nat.blt i nL = true) (hl' : (i, Value.int x) :: lv.filter (fun q => !(q.1 == i) && !(q.1 + 1 == i && q.2.category == 2)) = lv') (K : dn_T u g nL Qc mdl σ (pc + 1) lv' (st)) : dn_T u g nL Qc mdl σ pc lv (.int x :: st) := by
  obtain ⟨p, l, e, R, s, m, args, below, meth, c⟩ := g
  obtain ⟨hx, hb, hml, hown, hts, hlk, hret, hfr, hlo, hC⟩ := X
  intro H locs ls a ha hP hS hl
  exact lv_istore_n hx hb hd hi hl (Nat.blt_eq.mp hn) hl' (fun ls' hl2 => K H locs ls' a ha hP hS hl2)
set_option maxRecDepth 20000 in
theorem dt_istore {u : dn_U} {g : dn_M} {cc : ByteArray} {Ts : List Cond} {own : String} {nL fr lo : Nat} {ret : Option FieldType} {α : Type} {Qc : α → Array Value → State → Outcome → State → Prop} {mdl : Option α} {σ : dn_S} {pc : Nat} {lv : List (Nat × Value)} {st : List Value} (X : dn_X u g cc Ts own nL fr lo ret) {i : Nat} {x : Int32} (lv' : List (Nat × Value)) (hd : decode cc pc = .ok (.istore i, 2)) (hn : Nat.blt i nL = true) (hl' : (i, Value.int x) :: lv.filter (fun q => !(q.1 == i) && !(q.1 + 1 == i && q.2.category == 2)) = lv') (K : dn_T u g nL Qc mdl σ (pc + 2) lv' (st)) : dn_T u g nL Qc mdl σ pc lv (.int x :: st) := by
  obtain ⟨p, l, e, R, s, m, args, below, meth, c⟩ := g
  obtain ⟨hx, hb, hml, hown, hts, hlk, hret, hfr, hlo, hC⟩ := X
  intro H locs ls a ha hP hS hl
  exact lv_istore hx hb hd hl (Nat.blt_eq.mp hn) hl' (fun ls' hl2 => K H locs ls' a ha hP hS hl2)
set_option maxRecDepth 20000 in
theorem dt_astore_n {u : dn_U} {g : dn_M} {cc : ByteArray} {Ts : List Cond} {own : String} {nL fr lo : Nat} {ret : Option FieldType} {α : Type} {Qc : α → Array Value → State → Outcome → State → Prop} {mdl : Option α} {σ : dn_S} {pc : Nat} {lv : List (Nat × Value)} {st : List Value} (X : dn_X u g cc Ts own nL fr lo ret) {k : Fin 4} {i : Nat} {x : Nat} (lv' : List (Nat × Value)) (hd : decode cc pc = .ok (.astore_n k, 1)) (hi : (k : Nat) = i) (hn : Nat.blt i nL = true) (hl' : (i, Value.ref x) :: lv.filter (fun q => !(q.1 == i) && !(q.1 + 1 == i && q.2.category == 2)) = lv') (K : dn_T u g nL Qc mdl σ (pc + 1) lv' (st)) : dn_T u g nL Qc mdl σ pc lv (.ref x :: st) := by
  obtain ⟨p, l, e, R, s, m, args, below, meth, c⟩ := g
  obtain ⟨hx, hb, hml, hown, hts, hlk, hret, hfr, hlo, hC⟩ := X
  intro H locs ls a ha hP hS hl
  exact lv_astore_n hx hb hd hi hl (Nat.blt_eq.mp hn) hl' (fun ls' hl2 => K H locs ls' a ha hP hS hl2)
set_option maxRecDepth 20000 in
theorem dt_astore {u : dn_U} {g : dn_M} {cc : ByteArray} {Ts : List Cond} {own : String} {nL fr lo : Nat} {ret : Option FieldType} {α : Type} {Qc : α → Array Value → State → Outcome → State → Prop} {mdl : Option α} {σ : dn_S} {pc : Nat} {lv : List (Nat × Value)} {st : List Value} (X : dn_X u g cc Ts own nL fr lo ret) {i : Nat} {x : Nat} (lv' : List (Nat × Value)) (hd : decode cc pc = .ok (.astore i, 2)) (hn : Nat.blt i nL = true) (hl' : (i, Value.ref x) :: lv.filter (fun q => !(q.1 == i) && !(q.1 + 1 == i && q.2.category == 2)) = lv') (K : dn_T u g nL Qc mdl σ (pc + 2) lv' (st)) : dn_T u g nL Qc mdl σ pc lv (.ref x :: st) := by
  obtain ⟨p, l, e, R, s, m, args, below, meth, c⟩ := g
  obtain ⟨hx, hb, hml, hown, hts, hlk, hret, hfr, hlo, hC⟩ := X
  intro H locs ls a ha hP hS hl
  exact lv_astore hx hb hd hl (Nat.blt_eq.mp hn) hl' (fun ls' hl2 => K H locs ls' a ha hP hS hl2)
set_option maxRecDepth 20000 in
theorem dt_iinc {u : dn_U} {g : dn_M} {cc : ByteArray} {Ts : List Cond} {own : String} {nL fr lo : Nat} {ret : Option FieldType} {α : Type} {Qc : α → Array Value → State → Outcome → State → Prop} {mdl : Option α} {σ : dn_S} {pc : Nat} {lv : List (Nat × Value)} {st : List Value} (X : dn_X u g cc Ts own nL fr lo ret) {i : Nat} {n : Int} {x v : Int32} (k : Nat) (lv' : List (Nat × Value)) (hd : decode cc pc = .ok (.iinc i n, 3)) (hk : lv[k]? = some (i, .int x)) (hv : x + Int32.ofInt n = v) (hn : Nat.blt i nL = true) (hl' : (i, Value.int v) :: lv.filter (fun q => !(q.1 == i) && !(q.1 + 1 == i && q.2.category == 2)) = lv') (K : dn_T u g nL Qc mdl σ (pc + 3) lv' (st)) : dn_T u g nL Qc mdl σ pc lv (st) := by
  obtain ⟨p, l, e, R, s, m, args, below, meth, c⟩ := g
  obtain ⟨hx, hb, hml, hown, hts, hlk, hret, hfr, hlo, hC⟩ := X
  intro H locs ls a ha hP hS hl
  exact lv_iinc hx hb hd hl hk hv (Nat.blt_eq.mp hn) hl' (fun ls' hl2 => K H locs ls' a ha hP hS hl2)
set_option maxRecDepth 20000 in
theorem dt_iadd {u : dn_U} {g : dn_M} {cc : ByteArray} {Ts : List Cond} {own : String} {nL fr lo : Nat} {ret : Option FieldType} {α : Type} {Qc : α → Array Value → State → Outcome → State → Prop} {mdl : Option α} {σ : dn_S} {pc : Nat} {lv : List (Nat × Value)} {st : List Value} (X : dn_X u g cc Ts own nL fr lo ret) {x y : Int32} (hd : decode cc pc = .ok (.iadd, 1)) (K : dn_T u g nL Qc mdl σ (pc + 1) lv (.int (x + y) :: st)) : dn_T u g nL Qc mdl σ pc lv (.int y :: .int x :: st) := by
  obtain ⟨p, l, e, R, s, m, args, below, meth, c⟩ := g
  obtain ⟨hx, hb, hml, hown, hts, hlk, hret, hfr, hlo, hC⟩ := X
  intro H locs ls a ha hP hS hl
  exact lv_iadd hx hb hd (K H locs ls a ha hP hS hl)
set_option maxRecDepth 20000 in
theorem dt_isub {u : dn_U} {g : dn_M} {cc : ByteArray} {Ts : List Cond} {own : String} {nL fr lo : Nat} {ret : Option FieldType} {α : Type} {Qc : α → Array Value → State → Outcome → State → Prop} {mdl : Option α} {σ : dn_S} {pc : Nat} {lv : List (Nat × Value)} {st : List Value} (X : dn_X u g cc Ts own nL fr lo ret) {x y : Int32} (hd : decode cc pc = .ok (.isub, 1)) (K : dn_T u g nL Qc mdl σ (pc + 1) lv (.int (x - y) :: st)) : dn_T u g nL Qc mdl σ pc lv (.int y :: .int x :: st) := by
  obtain ⟨p, l, e, R, s, m, args, below, meth, c⟩ := g
  obtain ⟨hx, hb, hml, hown, hts, hlk, hret, hfr, hlo, hC⟩ := X
  intro H locs ls a ha hP hS hl
  exact lv_isub hx hb hd (K H locs ls a ha hP hS hl)
set_option maxRecDepth 20000 in
theorem dt_imul {u : dn_U} {g : dn_M} {cc : ByteArray} {Ts : List Cond} {own : String} {nL fr lo : Nat} {ret : Option FieldType} {α : Type} {Qc : α → Array Value → State → Outcome → State → Prop} {mdl : Option α} {σ : dn_S} {pc : Nat} {lv : List (Nat × Value)} {st : List Value} (X : dn_X u g cc Ts own nL fr lo ret) {x y : Int32} (hd : decode cc pc = .ok (.imul, 1)) (K : dn_T u g nL Qc mdl σ (pc + 1) lv (.int (x * y) :: st)) : dn_T u g nL Qc mdl σ pc lv (.int y :: .int x :: st) := by
  obtain ⟨p, l, e, R, s, m, args, below, meth, c⟩ := g
  obtain ⟨hx, hb, hml, hown, hts, hlk, hret, hfr, hlo, hC⟩ := X
  intro H locs ls a ha hP hS hl
  exact lv_imul hx hb hd (K H locs ls a ha hP hS hl)
-- the other two-number operations: as the kit has them
set_option maxRecDepth 20000 in
theorem dt_iand {u : dn_U} {g : dn_M} {cc : ByteArray} {Ts : List Cond} {own : String} {nL fr lo : Nat} {ret : Option FieldType} {α : Type} {Qc : α → Array Value → State → Outcome → State → Prop} {mdl : Option α} {σ : dn_S} {pc : Nat} {lv : List (Nat × Value)} {st : List Value} (X : dn_X u g cc Ts own nL fr lo ret) {x y : Int32} (hd : decode cc pc = .ok (.iand, 1)) (K : dn_T u g nL Qc mdl σ (pc + 1) lv (.int (x &&& y) :: st)) : dn_T u g nL Qc mdl σ pc lv (.int y :: .int x :: st) := by
  obtain ⟨p, l, e, R, s, m, args, below, meth, c⟩ := g
  obtain ⟨hx, hb, hml, hown, hts, hlk, hret, hfr, hlo, hC⟩ := X
  intro H locs ls a ha hP hS hl
  exact lv_iand hx hb hd (K H locs ls a ha hP hS hl)
set_option maxRecDepth 20000 in
theorem dt_ior {u : dn_U} {g : dn_M} {cc : ByteArray} {Ts : List Cond} {own : String} {nL fr lo : Nat} {ret : Option FieldType} {α : Type} {Qc : α → Array Value → State → Outcome → State → Prop} {mdl : Option α} {σ : dn_S} {pc : Nat} {lv : List (Nat × Value)} {st : List Value} (X : dn_X u g cc Ts own nL fr lo ret) {x y : Int32} (hd : decode cc pc = .ok (.ior, 1)) (K : dn_T u g nL Qc mdl σ (pc + 1) lv (.int (x ||| y) :: st)) : dn_T u g nL Qc mdl σ pc lv (.int y :: .int x :: st) := by
  obtain ⟨p, l, e, R, s, m, args, below, meth, c⟩ := g
  obtain ⟨hx, hb, hml, hown, hts, hlk, hret, hfr, hlo, hC⟩ := X
  intro H locs ls a ha hP hS hl
  exact lv_ior hx hb hd (K H locs ls a ha hP hS hl)
set_option maxRecDepth 20000 in
theorem dt_ineg {u : dn_U} {g : dn_M} {cc : ByteArray} {Ts : List Cond} {own : String} {nL fr lo : Nat} {ret : Option FieldType} {α : Type} {Qc : α → Array Value → State → Outcome → State → Prop} {mdl : Option α} {σ : dn_S} {pc : Nat} {lv : List (Nat × Value)} {st : List Value} (X : dn_X u g cc Ts own nL fr lo ret) {x : Int32} (hd : decode cc pc = .ok (.ineg, 1)) (K : dn_T u g nL Qc mdl σ (pc + 1) lv (.int (-x) :: st)) : dn_T u g nL Qc mdl σ pc lv (.int x :: st) := by
  obtain ⟨p, l, e, R, s, m, args, below, meth, c⟩ := g
  obtain ⟨hx, hb, hml, hown, hts, hlk, hret, hfr, hlo, hC⟩ := X
  intro H locs ls a ha hP hS hl
  exact lv_ineg hx hb hd (K H locs ls a ha hP hS hl)
set_option maxRecDepth 20000 in
theorem dt_ishl {u : dn_U} {g : dn_M} {cc : ByteArray} {Ts : List Cond} {own : String} {nL fr lo : Nat} {ret : Option FieldType} {α : Type} {Qc : α → Array Value → State → Outcome → State → Prop} {mdl : Option α} {σ : dn_S} {pc : Nat} {lv : List (Nat × Value)} {st : List Value} (X : dn_X u g cc Ts own nL fr lo ret) {x y : Int32} (hd : decode cc pc = .ok (.ishl, 1)) (K : dn_T u g nL Qc mdl σ (pc + 1) lv (.int (dn_shl x y) :: st)) : dn_T u g nL Qc mdl σ pc lv (.int y :: .int x :: st) := by
  obtain ⟨p, l, e, R, s, m, args, below, meth, c⟩ := g
  obtain ⟨hx, hb, hml, hown, hts, hlk, hret, hfr, hlo, hC⟩ := X
  intro H locs ls a ha hP hS hl
  exact lv_ishl hx hb hd (K H locs ls a ha hP hS hl)
set_option maxRecDepth 20000 in
theorem dt_ishr {u : dn_U} {g : dn_M} {cc : ByteArray} {Ts : List Cond} {own : String} {nL fr lo : Nat} {ret : Option FieldType} {α : Type} {Qc : α → Array Value → State → Outcome → State → Prop} {mdl : Option α} {σ : dn_S} {pc : Nat} {lv : List (Nat × Value)} {st : List Value} (X : dn_X u g cc Ts own nL fr lo ret) {x y : Int32} (hd : decode cc pc = .ok (.ishr, 1)) (K : dn_T u g nL Qc mdl σ (pc + 1) lv (.int (dn_shr x y) :: st)) : dn_T u g nL Qc mdl σ pc lv (.int y :: .int x :: st) := by
  obtain ⟨p, l, e, R, s, m, args, below, meth, c⟩ := g
  obtain ⟨hx, hb, hml, hown, hts, hlk, hret, hfr, hlo, hC⟩ := X
  intro H locs ls a ha hP hS hl
  exact lv_ishr hx hb hd (K H locs ls a ha hP hS hl)
set_option maxRecDepth 20000 in
theorem dt_idiv {u : dn_U} {g : dn_M} {cc : ByteArray} {Ts : List Cond} {own : String} {nL fr lo : Nat} {ret : Option FieldType} {α : Type} {Qc : α → Array Value → State → Outcome → State → Prop} {mdl : Option α} {σ : dn_S} {pc : Nat} {lv : List (Nat × Value)} {st : List Value} (X : dn_X u g cc Ts own nL fr lo ret) {x y : Int32} (hd : decode cc pc = .ok (.idiv, 1)) (K : dn_T u g nL Qc mdl σ (pc + 1) lv (.int (dn_dv x y) :: st)) : dn_T u g nL Qc (dn_ck (dn_nz y) mdl) σ pc lv (.int y :: .int x :: st) := by
  obtain ⟨p, l, e, R, s, m, args, below, meth, c⟩ := g
  obtain ⟨hx, hb, hml, hown, hts, hlk, hret, hfr, hlo, hC⟩ := X
  intro H locs ls a ha hP hS hl
  by_cases hy : y = 0
  · rw [hy] at ha
    cases ha
  · rw [dn_nz_of hy] at ha
    exact lv_idiv hx hb hd hy (K H locs ls a ha hP hS hl)
set_option maxRecDepth 20000 in
theorem dt_irem {u : dn_U} {g : dn_M} {cc : ByteArray} {Ts : List Cond} {own : String} {nL fr lo : Nat} {ret : Option FieldType} {α : Type} {Qc : α → Array Value → State → Outcome → State → Prop} {mdl : Option α} {σ : dn_S} {pc : Nat} {lv : List (Nat × Value)} {st : List Value} (X : dn_X u g cc Ts own nL fr lo ret) {x y : Int32} (hd : decode cc pc = .ok (.irem, 1)) (K : dn_T u g nL Qc mdl σ (pc + 1) lv (.int (dn_rm x y) :: st)) : dn_T u g nL Qc (dn_ck (dn_nz y) mdl) σ pc lv (.int y :: .int x :: st) := by
  obtain ⟨p, l, e, R, s, m, args, below, meth, c⟩ := g
  obtain ⟨hx, hb, hml, hown, hts, hlk, hret, hfr, hlo, hC⟩ := X
  intro H locs ls a ha hP hS hl
  by_cases hy : y = 0
  · rw [hy] at ha
    cases ha
  · rw [dn_nz_of hy] at ha
    exact lv_irem hx hb hd hy (K H locs ls a ha hP hS hl)
set_option maxRecDepth 20000 in
theorem dt_ladd {u : dn_U} {g : dn_M} {cc : ByteArray} {Ts : List Cond} {own : String} {nL fr lo : Nat} {ret : Option FieldType} {α : Type} {Qc : α → Array Value → State → Outcome → State → Prop} {mdl : Option α} {σ : dn_S} {pc : Nat} {lv : List (Nat × Value)} {st : List Value} (X : dn_X u g cc Ts own nL fr lo ret) {x y : Int64} (hd : decode cc pc = .ok (.ladd, 1)) (K : dn_T u g nL Qc mdl σ (pc + 1) lv (.long (x + y) :: st)) : dn_T u g nL Qc mdl σ pc lv (.long y :: .long x :: st) := by
  obtain ⟨p, l, e, R, s, m, args, below, meth, c⟩ := g
  obtain ⟨hx, hb, hml, hown, hts, hlk, hret, hfr, hlo, hC⟩ := X
  intro H locs ls a ha hP hS hl
  exact lv_ladd hx hb hd (K H locs ls a ha hP hS hl)
set_option maxRecDepth 20000 in
theorem dt_i2l {u : dn_U} {g : dn_M} {cc : ByteArray} {Ts : List Cond} {own : String} {nL fr lo : Nat} {ret : Option FieldType} {α : Type} {Qc : α → Array Value → State → Outcome → State → Prop} {mdl : Option α} {σ : dn_S} {pc : Nat} {lv : List (Nat × Value)} {st : List Value} (X : dn_X u g cc Ts own nL fr lo ret) {x : Int32} (hd : decode cc pc = .ok (.i2l, 1)) (K : dn_T u g nL Qc mdl σ (pc + 1) lv (.long x.toInt64 :: st)) : dn_T u g nL Qc mdl σ pc lv (.int x :: st) := by
  obtain ⟨p, l, e, R, s, m, args, below, meth, c⟩ := g
  obtain ⟨hx, hb, hml, hown, hts, hlk, hret, hfr, hlo, hC⟩ := X
  intro H locs ls a ha hP hS hl
  exact lv_i2l hx hb hd rfl (K H locs ls a ha hP hS hl)
set_option maxRecDepth 20000 in
theorem dt_lcmp {u : dn_U} {g : dn_M} {cc : ByteArray} {Ts : List Cond} {own : String} {nL fr lo : Nat} {ret : Option FieldType} {α : Type} {Qc : α → Array Value → State → Outcome → State → Prop} {mdl : Option α} {σ : dn_S} {pc : Nat} {lv : List (Nat × Value)} {st : List Value} (X : dn_X u g cc Ts own nL fr lo ret) {x y : Int64} (hd : decode cc pc = .ok (.lcmp, 1)) (K : dn_T u g nL Qc mdl σ (pc + 1) lv (.int (dn_cmp x y) :: st)) : dn_T u g nL Qc mdl σ pc lv (.long y :: .long x :: st) := by
  obtain ⟨p, l, e, R, s, m, args, below, meth, c⟩ := g
  obtain ⟨hx, hb, hml, hown, hts, hlk, hret, hfr, hlo, hC⟩ := X
  intro H locs ls a ha hP hS hl
  exact W.lcmp hx hb hd (K H locs ls a ha hP hS hl)
set_option maxRecDepth 20000 in
theorem dt_dup {u : dn_U} {g : dn_M} {cc : ByteArray} {Ts : List Cond} {own : String} {nL fr lo : Nat} {ret : Option FieldType} {α : Type} {Qc : α → Array Value → State → Outcome → State → Prop} {mdl : Option α} {σ : dn_S} {pc : Nat} {lv : List (Nat × Value)} {st : List Value} (X : dn_X u g cc Ts own nL fr lo ret) {v : Value} (hd : decode cc pc = .ok (.dup, 1)) (hv : v.category = 1) (K : dn_T u g nL Qc mdl σ (pc + 1) lv (v :: v :: st)) : dn_T u g nL Qc mdl σ pc lv (v :: st) := by
  obtain ⟨p, l, e, R, s, m, args, below, meth, c⟩ := g
  obtain ⟨hx, hb, hml, hown, hts, hlk, hret, hfr, hlo, hC⟩ := X
  intro H locs ls a ha hP hS hl
  exact lv_dup hx hb hd hv (K H locs ls a ha hP hS hl)
set_option maxRecDepth 20000 in
theorem dt_dup2 {u : dn_U} {g : dn_M} {cc : ByteArray} {Ts : List Cond} {own : String} {nL fr lo : Nat} {ret : Option FieldType} {α : Type} {Qc : α → Array Value → State → Outcome → State → Prop} {mdl : Option α} {σ : dn_S} {pc : Nat} {lv : List (Nat × Value)} {st : List Value} (X : dn_X u g cc Ts own nL fr lo ret) {v z : Value} (hd : decode cc pc = .ok (.dup2, 1)) (hv : v.category = 1) (hz : z.category = 1) (K : dn_T u g nL Qc mdl σ (pc + 1) lv (v :: z :: v :: z :: st)) : dn_T u g nL Qc mdl σ pc lv (v :: z :: st) := by
  obtain ⟨p, l, e, R, s, m, args, below, meth, c⟩ := g
  obtain ⟨hx, hb, hml, hown, hts, hlk, hret, hfr, hlo, hC⟩ := X
  intro H locs ls a ha hP hS hl
  exact lv_dup2_11 hx hb hd hv hz (K H locs ls a ha hP hS hl)
set_option maxRecDepth 20000 in
theorem dt_pop {u : dn_U} {g : dn_M} {cc : ByteArray} {Ts : List Cond} {own : String} {nL fr lo : Nat} {ret : Option FieldType} {α : Type} {Qc : α → Array Value → State → Outcome → State → Prop} {mdl : Option α} {σ : dn_S} {pc : Nat} {lv : List (Nat × Value)} {st : List Value} (X : dn_X u g cc Ts own nL fr lo ret) {v : Value} (hd : decode cc pc = .ok (.pop, 1)) (hv : v.category = 1) (K : dn_T u g nL Qc mdl σ (pc + 1) lv (st)) : dn_T u g nL Qc mdl σ pc lv (v :: st) := by
  obtain ⟨p, l, e, R, s, m, args, below, meth, c⟩ := g
  obtain ⟨hx, hb, hml, hown, hts, hlk, hret, hfr, hlo, hC⟩ := X
  intro H locs ls a ha hP hS hl
  exact lv_pop hx hb hd hv (K H locs ls a ha hP hS hl)
set_option maxRecDepth 20000 in
theorem dt_goto {u : dn_U} {g : dn_M} {cc : ByteArray} {Ts : List Cond} {own : String} {nL fr lo : Nat} {ret : Option FieldType} {α : Type} {Qc : α → Array Value → State → Outcome → State → Prop} {mdl : Option α} {σ : dn_S} {pc : Nat} {lv : List (Nat × Value)} {st : List Value} (X : dn_X u g cc Ts own nL fr lo ret) {off : Int} (tgt : Nat) (hd : decode cc pc = .ok (.goto off, 3)) (ht : (pc : Int) + off = (tgt : Int)) (K : dn_T u g nL Qc mdl σ tgt lv (st)) : dn_T u g nL Qc mdl σ pc lv (st) := by
  obtain ⟨p, l, e, R, s, m, args, below, meth, c⟩ := g
  obtain ⟨hx, hb, hml, hown, hts, hlk, hret, hfr, hlo, hC⟩ := X
  intro H locs ls a ha hP hS hl
  exact lv_goto hx hb hd ht (K H locs ls a ha hP hS hl)
set_option maxRecDepth 20000 in
theorem dt_ifnonnull {u : dn_U} {g : dn_M} {cc : ByteArray} {Ts : List Cond} {own : String} {nL fr lo : Nat} {ret : Option FieldType} {α : Type} {Qc : α → Array Value → State → Outcome → State → Prop} {mdl : Option α} {σ : dn_S} {pc : Nat} {lv : List (Nat × Value)} {st : List Value} (X : dn_X u g cc Ts own nL fr lo ret) {x : Nat} {off : Int} (tgt : Nat) (hd : decode cc pc = .ok (.ifnonnull off, 3)) (ht : (pc : Int) + off = (tgt : Int)) (K : dn_T u g nL Qc mdl σ tgt lv (st)) : dn_T u g nL Qc mdl σ pc lv (.ref x :: st) := by
  obtain ⟨p, l, e, R, s, m, args, below, meth, c⟩ := g
  obtain ⟨hx, hb, hml, hown, hts, hlk, hret, hfr, hlo, hC⟩ := X
  intro H locs ls a ha hP hS hl
  exact lv_ifnonnull hx hb hd ht (K H locs ls a ha hP hS hl)
set_option maxRecDepth 20000 in
theorem dt_ifnull {u : dn_U} {g : dn_M} {cc : ByteArray} {Ts : List Cond} {own : String} {nL fr lo : Nat} {ret : Option FieldType} {α : Type} {Qc : α → Array Value → State → Outcome → State → Prop} {mdl : Option α} {σ : dn_S} {pc : Nat} {lv : List (Nat × Value)} {st : List Value} (X : dn_X u g cc Ts own nL fr lo ret) {x : Nat} {off : Int} (hd : decode cc pc = .ok (.ifnull off, 3)) (K : dn_T u g nL Qc mdl σ (pc + 3) lv (st)) : dn_T u g nL Qc mdl σ pc lv (.ref x :: st) := by
  obtain ⟨p, l, e, R, s, m, args, below, meth, c⟩ := g
  obtain ⟨hx, hb, hml, hown, hts, hlk, hret, hfr, hlo, hC⟩ := X
  intro H locs ls a ha hP hS hl
  exact lv_ifnull hx hb hd (K H locs ls a ha hP hS hl)
set_option maxRecDepth 20000 in
theorem dt_if_eq {u : dn_U} {g : dn_M} {cc : ByteArray} {Ts : List Cond} {own : String} {nL fr lo : Nat} {ret : Option FieldType} {α : Type} {Qc : α → Array Value → State → Outcome → State → Prop} {σ : dn_S} {pc : Nat} {lv : List (Nat × Value)} {st : List Value} (X : dn_X u g cc Ts own nL fr lo ret) {ma mb : Option α} {x : Int32} {off : Int} (tgt : Nat) (hd : decode cc pc = .ok (.ifCond .eq off, 3)) (ht : (pc : Int) + off = (tgt : Int)) (Ka : dn_T u g nL Qc ma σ tgt lv (st)) (Kb : dn_T u g nL Qc mb σ (pc + 3) lv (st)) : dn_T u g nL Qc (if x = 0 then ma else mb) σ pc lv (.int x :: st) := by
  obtain ⟨p, l, e, R, s, m, args, below, meth, c⟩ := g
  obtain ⟨hx, hb, hml, hown, hts, hlk, hret, hfr, hlo, hC⟩ := X
  intro H locs ls a ha hP hS hl
  exact lv_if_eq hx hb hd ht (fun h => Ka H locs ls a (by rw [← ha, if_pos h]) hP hS hl) (fun h => Kb H locs ls a (by rw [← ha, if_neg h]) hP hS hl)
set_option maxRecDepth 20000 in
theorem dt_icmp_eq {u : dn_U} {g : dn_M} {cc : ByteArray} {Ts : List Cond} {own : String} {nL fr lo : Nat} {ret : Option FieldType} {α : Type} {Qc : α → Array Value → State → Outcome → State → Prop} {σ : dn_S} {pc : Nat} {lv : List (Nat × Value)} {st : List Value} (X : dn_X u g cc Ts own nL fr lo ret) {ma mb : Option α} {x y : Int32} {off : Int} (tgt : Nat) (hd : decode cc pc = .ok (.if_icmp .eq off, 3)) (ht : (pc : Int) + off = (tgt : Int)) (Ka : dn_T u g nL Qc ma σ tgt lv (st)) (Kb : dn_T u g nL Qc mb σ (pc + 3) lv (st)) : dn_T u g nL Qc (if x = y then ma else mb) σ pc lv (.int y :: .int x :: st) := by
  obtain ⟨p, l, e, R, s, m, args, below, meth, c⟩ := g
  obtain ⟨hx, hb, hml, hown, hts, hlk, hret, hfr, hlo, hC⟩ := X
  intro H locs ls a ha hP hS hl
  exact lv_icmp_eq hx hb hd ht (fun h => Ka H locs ls a (by rw [← ha, if_pos h]) hP hS hl) (fun h => Kb H locs ls a (by rw [← ha, if_neg h]) hP hS hl)
set_option maxRecDepth 20000 in
theorem dt_if_ne {u : dn_U} {g : dn_M} {cc : ByteArray} {Ts : List Cond} {own : String} {nL fr lo : Nat} {ret : Option FieldType} {α : Type} {Qc : α → Array Value → State → Outcome → State → Prop} {σ : dn_S} {pc : Nat} {lv : List (Nat × Value)} {st : List Value} (X : dn_X u g cc Ts own nL fr lo ret) {ma mb : Option α} {x : Int32} {off : Int} (tgt : Nat) (hd : decode cc pc = .ok (.ifCond .ne off, 3)) (ht : (pc : Int) + off = (tgt : Int)) (Ka : dn_T u g nL Qc ma σ tgt lv (st)) (Kb : dn_T u g nL Qc mb σ (pc + 3) lv (st)) : dn_T u g nL Qc (if x = 0 then mb else ma) σ pc lv (.int x :: st) := by
  obtain ⟨p, l, e, R, s, m, args, below, meth, c⟩ := g
  obtain ⟨hx, hb, hml, hown, hts, hlk, hret, hfr, hlo, hC⟩ := X
  intro H locs ls a ha hP hS hl
  exact lv_if_ne hx hb hd ht (fun h => Ka H locs ls a (by rw [← ha, if_neg h]) hP hS hl) (fun h => Kb H locs ls a (by rw [← ha, if_pos (by first | exact h | exact Decidable.of_not_not h)]) hP hS hl)
set_option maxRecDepth 20000 in
theorem dt_icmp_ne {u : dn_U} {g : dn_M} {cc : ByteArray} {Ts : List Cond} {own : String} {nL fr lo : Nat} {ret : Option FieldType} {α : Type} {Qc : α → Array Value → State → Outcome → State → Prop} {σ : dn_S} {pc : Nat} {lv : List (Nat × Value)} {st : List Value} (X : dn_X u g cc Ts own nL fr lo ret) {ma mb : Option α} {x y : Int32} {off : Int} (tgt : Nat) (hd : decode cc pc = .ok (.if_icmp .ne off, 3)) (ht : (pc : Int) + off = (tgt : Int)) (Ka : dn_T u g nL Qc ma σ tgt lv (st)) (Kb : dn_T u g nL Qc mb σ (pc + 3) lv (st)) : dn_T u g nL Qc (if x = y then mb else ma) σ pc lv (.int y :: .int x :: st) := by
  obtain ⟨p, l, e, R, s, m, args, below, meth, c⟩ := g
  obtain ⟨hx, hb, hml, hown, hts, hlk, hret, hfr, hlo, hC⟩ := X
  intro H locs ls a ha hP hS hl
  exact lv_icmp_ne hx hb hd ht (fun h => Ka H locs ls a (by rw [← ha, if_neg h]) hP hS hl) (fun h => Kb H locs ls a (by rw [← ha, if_pos (by first | exact h | exact Decidable.of_not_not h)]) hP hS hl)
set_option maxRecDepth 20000 in
theorem dt_if_lt {u : dn_U} {g : dn_M} {cc : ByteArray} {Ts : List Cond} {own : String} {nL fr lo : Nat} {ret : Option FieldType} {α : Type} {Qc : α → Array Value → State → Outcome → State → Prop} {σ : dn_S} {pc : Nat} {lv : List (Nat × Value)} {st : List Value} (X : dn_X u g cc Ts own nL fr lo ret) {ma mb : Option α} {x : Int32} {off : Int} (tgt : Nat) (hd : decode cc pc = .ok (.ifCond .lt off, 3)) (ht : (pc : Int) + off = (tgt : Int)) (Ka : dn_T u g nL Qc ma σ tgt lv (st)) (Kb : dn_T u g nL Qc mb σ (pc + 3) lv (st)) : dn_T u g nL Qc (if x < 0 then ma else mb) σ pc lv (.int x :: st) := by
  obtain ⟨p, l, e, R, s, m, args, below, meth, c⟩ := g
  obtain ⟨hx, hb, hml, hown, hts, hlk, hret, hfr, hlo, hC⟩ := X
  intro H locs ls a ha hP hS hl
  exact lv_if_lt hx hb hd ht (fun h => Ka H locs ls a (by rw [← ha, if_pos h]) hP hS hl) (fun h => Kb H locs ls a (by rw [← ha, if_neg h]) hP hS hl)
set_option maxRecDepth 20000 in
theorem dt_icmp_lt {u : dn_U} {g : dn_M} {cc : ByteArray} {Ts : List Cond} {own : String} {nL fr lo : Nat} {ret : Option FieldType} {α : Type} {Qc : α → Array Value → State → Outcome → State → Prop} {σ : dn_S} {pc : Nat} {lv : List (Nat × Value)} {st : List Value} (X : dn_X u g cc Ts own nL fr lo ret) {ma mb : Option α} {x y : Int32} {off : Int} (tgt : Nat) (hd : decode cc pc = .ok (.if_icmp .lt off, 3)) (ht : (pc : Int) + off = (tgt : Int)) (Ka : dn_T u g nL Qc ma σ tgt lv (st)) (Kb : dn_T u g nL Qc mb σ (pc + 3) lv (st)) : dn_T u g nL Qc (if x < y then ma else mb) σ pc lv (.int y :: .int x :: st) := by
  obtain ⟨p, l, e, R, s, m, args, below, meth, c⟩ := g
  obtain ⟨hx, hb, hml, hown, hts, hlk, hret, hfr, hlo, hC⟩ := X
  intro H locs ls a ha hP hS hl
  exact lv_icmp_lt hx hb hd ht (fun h => Ka H locs ls a (by rw [← ha, if_pos h]) hP hS hl) (fun h => Kb H locs ls a (by rw [← ha, if_neg h]) hP hS hl)
set_option maxRecDepth 20000 in
theorem dt_if_ge {u : dn_U} {g : dn_M} {cc : ByteArray} {Ts : List Cond} {own : String} {nL fr lo : Nat} {ret : Option FieldType} {α : Type} {Qc : α → Array Value → State → Outcome → State → Prop} {σ : dn_S} {pc : Nat} {lv : List (Nat × Value)} {st : List Value} (X : dn_X u g cc Ts own nL fr lo ret) {ma mb : Option α} {x : Int32} {off : Int} (tgt : Nat) (hd : decode cc pc = .ok (.ifCond .ge off, 3)) (ht : (pc : Int) + off = (tgt : Int)) (Ka : dn_T u g nL Qc ma σ tgt lv (st)) (Kb : dn_T u g nL Qc mb σ (pc + 3) lv (st)) : dn_T u g nL Qc (if 0 ≤ x then ma else mb) σ pc lv (.int x :: st) := by
  obtain ⟨p, l, e, R, s, m, args, below, meth, c⟩ := g
  obtain ⟨hx, hb, hml, hown, hts, hlk, hret, hfr, hlo, hC⟩ := X
  intro H locs ls a ha hP hS hl
  exact lv_if_ge hx hb hd ht (fun h => Ka H locs ls a (by rw [← ha, if_pos h]) hP hS hl) (fun h => Kb H locs ls a (by rw [← ha, if_neg h]) hP hS hl)
set_option maxRecDepth 20000 in
theorem dt_icmp_ge {u : dn_U} {g : dn_M} {cc : ByteArray} {Ts : List Cond} {own : String} {nL fr lo : Nat} {ret : Option FieldType} {α : Type} {Qc : α → Array Value → State → Outcome → State → Prop} {σ : dn_S} {pc : Nat} {lv : List (Nat × Value)} {st : List Value} (X : dn_X u g cc Ts own nL fr lo ret) {ma mb : Option α} {x y : Int32} {off : Int} (tgt : Nat) (hd : decode cc pc = .ok (.if_icmp .ge off, 3)) (ht : (pc : Int) + off = (tgt : Int)) (Ka : dn_T u g nL Qc ma σ tgt lv (st)) (Kb : dn_T u g nL Qc mb σ (pc + 3) lv (st)) : dn_T u g nL Qc (if y ≤ x then ma else mb) σ pc lv (.int y :: .int x :: st) := by
  obtain ⟨p, l, e, R, s, m, args, below, meth, c⟩ := g
  obtain ⟨hx, hb, hml, hown, hts, hlk, hret, hfr, hlo, hC⟩ := X
  intro H locs ls a ha hP hS hl
  exact lv_icmp_ge hx hb hd ht (fun h => Ka H locs ls a (by rw [← ha, if_pos h]) hP hS hl) (fun h => Kb H locs ls a (by rw [← ha, if_neg h]) hP hS hl)
set_option maxRecDepth 20000 in
theorem dt_if_gt {u : dn_U} {g : dn_M} {cc : ByteArray} {Ts : List Cond} {own : String} {nL fr lo : Nat} {ret : Option FieldType} {α : Type} {Qc : α → Array Value → State → Outcome → State → Prop} {σ : dn_S} {pc : Nat} {lv : List (Nat × Value)} {st : List Value} (X : dn_X u g cc Ts own nL fr lo ret) {ma mb : Option α} {x : Int32} {off : Int} (tgt : Nat) (hd : decode cc pc = .ok (.ifCond .gt off, 3)) (ht : (pc : Int) + off = (tgt : Int)) (Ka : dn_T u g nL Qc ma σ tgt lv (st)) (Kb : dn_T u g nL Qc mb σ (pc + 3) lv (st)) : dn_T u g nL Qc (if 0 < x then ma else mb) σ pc lv (.int x :: st) := by
  obtain ⟨p, l, e, R, s, m, args, below, meth, c⟩ := g
  obtain ⟨hx, hb, hml, hown, hts, hlk, hret, hfr, hlo, hC⟩ := X
  intro H locs ls a ha hP hS hl
  exact lv_if_gt hx hb hd ht (fun h => Ka H locs ls a (by rw [← ha, if_pos h]) hP hS hl) (fun h => Kb H locs ls a (by rw [← ha, if_neg h]) hP hS hl)
set_option maxRecDepth 20000 in
theorem dt_icmp_gt {u : dn_U} {g : dn_M} {cc : ByteArray} {Ts : List Cond} {own : String} {nL fr lo : Nat} {ret : Option FieldType} {α : Type} {Qc : α → Array Value → State → Outcome → State → Prop} {σ : dn_S} {pc : Nat} {lv : List (Nat × Value)} {st : List Value} (X : dn_X u g cc Ts own nL fr lo ret) {ma mb : Option α} {x y : Int32} {off : Int} (tgt : Nat) (hd : decode cc pc = .ok (.if_icmp .gt off, 3)) (ht : (pc : Int) + off = (tgt : Int)) (Ka : dn_T u g nL Qc ma σ tgt lv (st)) (Kb : dn_T u g nL Qc mb σ (pc + 3) lv (st)) : dn_T u g nL Qc (if y < x then ma else mb) σ pc lv (.int y :: .int x :: st) := by
  obtain ⟨p, l, e, R, s, m, args, below, meth, c⟩ := g
  obtain ⟨hx, hb, hml, hown, hts, hlk, hret, hfr, hlo, hC⟩ := X
  intro H locs ls a ha hP hS hl
  exact lv_icmp_gt hx hb hd ht (fun h => Ka H locs ls a (by rw [← ha, if_pos h]) hP hS hl) (fun h => Kb H locs ls a (by rw [← ha, if_neg h]) hP hS hl)
set_option maxRecDepth 20000 in
theorem dt_if_le {u : dn_U} {g : dn_M} {cc : ByteArray} {Ts : List Cond} {own : String} {nL fr lo : Nat} {ret : Option FieldType} {α : Type} {Qc : α → Array Value → State → Outcome → State → Prop} {σ : dn_S} {pc : Nat} {lv : List (Nat × Value)} {st : List Value} (X : dn_X u g cc Ts own nL fr lo ret) {ma mb : Option α} {x : Int32} {off : Int} (tgt : Nat) (hd : decode cc pc = .ok (.ifCond .le off, 3)) (ht : (pc : Int) + off = (tgt : Int)) (Ka : dn_T u g nL Qc ma σ tgt lv (st)) (Kb : dn_T u g nL Qc mb σ (pc + 3) lv (st)) : dn_T u g nL Qc (if x ≤ 0 then ma else mb) σ pc lv (.int x :: st) := by
  obtain ⟨p, l, e, R, s, m, args, below, meth, c⟩ := g
  obtain ⟨hx, hb, hml, hown, hts, hlk, hret, hfr, hlo, hC⟩ := X
  intro H locs ls a ha hP hS hl
  exact lv_if_le hx hb hd ht (fun h => Ka H locs ls a (by rw [← ha, if_pos h]) hP hS hl) (fun h => Kb H locs ls a (by rw [← ha, if_neg h]) hP hS hl)
set_option maxRecDepth 20000 in
theorem dt_icmp_le {u : dn_U} {g : dn_M} {cc : ByteArray} {Ts : List Cond} {own : String} {nL fr lo : Nat} {ret : Option FieldType} {α : Type} {Qc : α → Array Value → State → Outcome → State → Prop} {σ : dn_S} {pc : Nat} {lv : List (Nat × Value)} {st : List Value} (X : dn_X u g cc Ts own nL fr lo ret) {ma mb : Option α} {x y : Int32} {off : Int} (tgt : Nat) (hd : decode cc pc = .ok (.if_icmp .le off, 3)) (ht : (pc : Int) + off = (tgt : Int)) (Ka : dn_T u g nL Qc ma σ tgt lv (st)) (Kb : dn_T u g nL Qc mb σ (pc + 3) lv (st)) : dn_T u g nL Qc (if x ≤ y then ma else mb) σ pc lv (.int y :: .int x :: st) := by
  obtain ⟨p, l, e, R, s, m, args, below, meth, c⟩ := g
  obtain ⟨hx, hb, hml, hown, hts, hlk, hret, hfr, hlo, hC⟩ := X
  intro H locs ls a ha hP hS hl
  exact lv_icmp_le hx hb hd ht (fun h => Ka H locs ls a (by rw [← ha, if_pos h]) hP hS hl) (fun h => Kb H locs ls a (by rw [← ha, if_neg h]) hP hS hl)
set_option maxRecDepth 20000 in
theorem dt_if_eqb {u : dn_U} {g : dn_M} {cc : ByteArray} {Ts : List Cond} {own : String} {nL fr lo : Nat} {ret : Option FieldType} {α : Type} {Qc : α → Array Value → State → Outcome → State → Prop} {σ : dn_S} {pc : Nat} {lv : List (Nat × Value)} {st : List Value} (X : dn_X u g cc Ts own nL fr lo ret) {ma mb : Option α} {b : Bool} {off : Int} (tgt : Nat) (hd : decode cc pc = .ok (.ifCond .eq off, 3)) (ht : (pc : Int) + off = (tgt : Int)) (Ka : dn_T u g nL Qc ma σ tgt lv (st)) (Kb : dn_T u g nL Qc mb σ (pc + 3) lv (st)) : dn_T u g nL Qc (if b = true then mb else ma) σ pc lv (.int (dn_b b) :: st) := by
  obtain ⟨p, l, e, R, s, m, args, below, meth, c⟩ := g
  obtain ⟨hx, hb, hml, hown, hts, hlk, hret, hfr, hlo, hC⟩ := X
  intro H locs ls a ha hP hS hl
  exact lv_if_eq hx hb hd ht (fun h => Ka H locs ls a (by rw [← ha, if_neg (fun q => by rw [q] at h; exact absurd h (by decide))]) hP hS hl) (fun h => Kb H locs ls a (by rw [← ha, if_pos (by cases b with | true => rfl | false => exact absurd rfl h)]) hP hS hl)
set_option maxRecDepth 20000 in
theorem dt_if_neb {u : dn_U} {g : dn_M} {cc : ByteArray} {Ts : List Cond} {own : String} {nL fr lo : Nat} {ret : Option FieldType} {α : Type} {Qc : α → Array Value → State → Outcome → State → Prop} {σ : dn_S} {pc : Nat} {lv : List (Nat × Value)} {st : List Value} (X : dn_X u g cc Ts own nL fr lo ret) {ma mb : Option α} {b : Bool} {off : Int} (tgt : Nat) (hd : decode cc pc = .ok (.ifCond .ne off, 3)) (ht : (pc : Int) + off = (tgt : Int)) (Ka : dn_T u g nL Qc ma σ tgt lv (st)) (Kb : dn_T u g nL Qc mb σ (pc + 3) lv (st)) : dn_T u g nL Qc (if b = true then ma else mb) σ pc lv (.int (dn_b b) :: st) := by
  obtain ⟨p, l, e, R, s, m, args, below, meth, c⟩ := g
  obtain ⟨hx, hb, hml, hown, hts, hlk, hret, hfr, hlo, hC⟩ := X
  intro H locs ls a ha hP hS hl
  exact lv_if_ne hx hb hd ht (fun h => Ka H locs ls a (by rw [← ha, if_pos (by cases b with | true => rfl | false => exact absurd rfl h)]) hP hS hl) (fun h => Kb H locs ls a (by rw [← ha, if_neg (fun q => by rw [q] at h; exact absurd h (by decide))]) hP hS hl)
set_option maxRecDepth 20000 in
theorem dt_case {u : dn_U} {g : dn_M} {cc : ByteArray} {Ts : List Cond} {own : String} {nL fr lo : Nat} {ret : Option FieldType} {α : Type} {Qc : α → Array Value → State → Outcome → State → Prop} {σ : dn_S} {pc : Nat} {lv : List (Nat × Value)} {st : List Value} (X : dn_X u g cc Ts own nL fr lo ret) {ma mb : Option α} {x c0 : Int32} (Ka : x = c0 → dn_T u g nL Qc ma σ pc lv (st)) (Kb : x ≠ c0 → dn_T u g nL Qc mb σ pc lv (st)) : dn_T u g nL Qc (if x = c0 then ma else mb) σ pc lv (st) := by
  obtain ⟨p, l, e, R, s, m, args, below, meth, c⟩ := g
  obtain ⟨hx, hb, hml, hown, hts, hlk, hret, hfr, hlo, hC⟩ := X
  intro H locs ls a ha hP hS hl
  by_cases h : x = c0
  · exact Ka h H locs ls a (by rw [← ha, if_pos h]) hP hS hl
  · exact Kb h H locs ls a (by rw [← ha, if_neg h]) hP hS hl
set_option maxRecDepth 20000 in
theorem dt_tabIn {u : dn_U} {g : dn_M} {cc : ByteArray} {Ts : List Cond} {own : String} {nL fr lo : Nat} {ret : Option FieldType} {α : Type} {Qc : α → Array Value → State → Outcome → State → Prop} {mdl : Option α} {σ : dn_S} {pc : Nat} {lv : List (Nat × Value)} {st : List Value} (X : dn_X u g cc Ts own nL fr lo ret) {dflt lw hi : Int} {offs : Array Int} {len : Nat} {x : Int32} {off : Int} (n : Int) (tgt : Nat) (hd : decode cc pc = .ok (.tableswitch dflt lw hi offs, len)) (hn : x.toInt = n) (h1 : decide (n < lw) = false) (h2 : decide (hi < n) = false) (ho : offs[(n - lw).toNat]? = some off) (ht : (pc : Int) + off = (tgt : Int)) (K : dn_T u g nL Qc mdl σ tgt lv (st)) : dn_T u g nL Qc mdl σ pc lv (.int x :: st) := by
  obtain ⟨p, l, e, R, s, m, args, below, meth, c⟩ := g
  obtain ⟨hx, hb, hml, hown, hts, hlk, hret, hfr, hlo, hC⟩ := X
  intro H locs ls a ha hP hS hl
  subst hn
  exact lv_tableIn hx hb hd (of_decide_eq_false h1) (of_decide_eq_false h2) ho ht (K H locs ls a ha hP hS hl)
set_option maxRecDepth 20000 in
theorem dt_tabOut {u : dn_U} {g : dn_M} {cc : ByteArray} {Ts : List Cond} {own : String} {nL fr lo : Nat} {ret : Option FieldType} {α : Type} {Qc : α → Array Value → State → Outcome → State → Prop} {mdl : Option α} {σ : dn_S} {pc : Nat} {lv : List (Nat × Value)} {st : List Value} (X : dn_X u g cc Ts own nL fr lo ret) {dflt lw hi : Int} {offs : Array Int} {len : Nat} {x : Int32} (tgt : Nat) (hd : decode cc pc = .ok (.tableswitch dflt lw hi offs, len)) (h : x.toInt < lw ∨ hi < x.toInt) (ht : (pc : Int) + dflt = (tgt : Int)) (K : dn_T u g nL Qc mdl σ tgt lv (st)) : dn_T u g nL Qc mdl σ pc lv (.int x :: st) := by
  obtain ⟨p, l, e, R, s, m, args, below, meth, c⟩ := g
  obtain ⟨hx, hb, hml, hown, hts, hlk, hret, hfr, hlo, hC⟩ := X
  intro H locs ls a ha hP hS hl
  exact lv_tableOut hx hb hd h ht (K H locs ls a ha hP hS hl)
set_option maxRecDepth 20000 in
theorem dt_lookup {u : dn_U} {g : dn_M} {cc : ByteArray} {Ts : List Cond} {own : String} {nL fr lo : Nat} {ret : Option FieldType} {α : Type} {Qc : α → Array Value → State → Outcome → State → Prop} {mdl : Option α} {σ : dn_S} {pc : Nat} {lv : List (Nat × Value)} {st : List Value} (X : dn_X u g cc Ts own nL fr lo ret) {dflt : Int} {ps : Array (Int × Int)} {len : Nat} {x : Int32} {off : Int} (tgt : Nat) (hd : decode cc pc = .ok (.lookupswitch dflt ps, len)) (hp : (ps.toList.zip (ps.toList.drop 1)).all (fun (a, next) => a.1 < next.1) = true) (ho : Op.lookupswitch.offset ps.toList dflt x.toInt = off) (ht : (pc : Int) + off = (tgt : Int)) (K : dn_T u g nL Qc mdl σ tgt lv (st)) : dn_T u g nL Qc mdl σ pc lv (.int x :: st) := by
  obtain ⟨p, l, e, R, s, m, args, below, meth, c⟩ := g
  obtain ⟨hx, hb, hml, hown, hts, hlk, hret, hfr, hlo, hC⟩ := X
  intro H locs ls a ha hP hS hl
  exact lv_lookup hx hb hd hp ho ht (K H locs ls a ha hP hS hl)
set_option maxRecDepth 20000 in
theorem dt_let {u : dn_U} {g : dn_M} {cc : ByteArray} {Ts : List Cond} {own : String} {nL fr lo : Nat} {ret : Option FieldType} {α : Type} {Qc : α → Array Value → State → Outcome → State → Prop} {σ : dn_S} {pc : Nat} {lv : List (Nat × Value)} {st : List Value} (X : dn_X u g cc Ts own nL fr lo ret) {x : Int32} {k : Int32 → Option α} (K : ∀ y, dn_T u g nL Qc (k y) σ pc lv (.int y :: st)) : dn_T u g nL Qc (dn_lt x k) σ pc lv (.int x :: st) := by
  obtain ⟨p, l, e, R, s, m, args, below, meth, c⟩ := g
  obtain ⟨hx, hb, hml, hown, hts, hlk, hret, hfr, hlo, hC⟩ := X
  intro H locs ls a ha hP hS hl
  exact K x H locs ls a ha hP hS hl
set_option maxRecDepth 20000 in
theorem dt_ilet {u : dn_U} {g : dn_M} {cc : ByteArray} {Ts : List Cond} {own : String} {nL fr lo : Nat} {ret : Option FieldType} {α : Type} {Qc : α → Array Value → State → Outcome → State → Prop} {σ : dn_S} {pc : Nat} {lv : List (Nat × Value)} {st : List Value} (X : dn_X u g cc Ts own nL fr lo ret) {i : Nat} {x : Int32} {k : Int32 → Option α} {lv0 : List (Nat × Value)} (hlv : lv = (i, .int x) :: lv0) (K : ∀ y, dn_T u g nL Qc (k y) σ pc ((i, .int y) :: lv0) (st)) : dn_T u g nL Qc (dn_lt x k) σ pc lv (st) := by
  obtain ⟨p, l, e, R, s, m, args, below, meth, c⟩ := g
  obtain ⟨hx, hb, hml, hown, hts, hlk, hret, hfr, hlo, hC⟩ := X
  intro H locs ls a ha hP hS hl
  subst hlv
  exact K x H locs ls a ha hP hS hl
set_option maxRecDepth 20000 in
theorem dt_sub {u : dn_U} {g : dn_M} {cc : ByteArray} {Ts : List Cond} {own : String} {nL fr lo : Nat} {ret : Option FieldType} {α : Type} {Qc : α → Array Value → State → Outcome → State → Prop} {mdl : Option α} {σ : dn_S} {pc : Nat} {lv : List (Nat × Value)} {st : List Value} (X : dn_X u g cc Ts own nL fr lo ret) (lv' : List (Nat × Value)) (ks : List Nat) (hk : lv_pick lv ks = lv') (K : dn_T u g nL Qc mdl σ pc lv' (st)) : dn_T u g nL Qc mdl σ pc lv (st) := by
  obtain ⟨p, l, e, R, s, m, args, below, meth, c⟩ := g
  obtain ⟨hx, hb, hml, hown, hts, hlk, hret, hfr, hlo, hC⟩ := X
  intro H locs ls a ha hP hS hl
  exact K H locs ls a ha hP hS (lv_sub hl ks hk)
set_option maxRecDepth 20000 in
theorem dt_alen {u : dn_U} {g : dn_M} {cc : ByteArray} {Ts : List Cond} {own : String} {nL fr lo : Nat} {ret : Option FieldType} {α : Type} {Qc : α → Array Value → State → Outcome → State → Prop} {mdl : Option α} {σ : dn_S} {pc : Nat} {lv : List (Nat × Value)} {st : List Value} (X : dn_X u g cc Ts own nL fr lo ret) {k n : Nat} {f : dn_S → Nat → Int32} {v : Int32} (hc : dn_has u k (fun σ => .inl (u.2.2.1.1, n, .inl (f σ)))) (hd : decode cc pc = .ok (.arraylength, 1)) (hv : Int32.ofNat n = v) (K : dn_T u g nL Qc mdl σ (pc + 1) lv (.int v :: st)) : dn_T u g nL Qc mdl σ pc lv (.ref (dn_a u k) :: st) := by
  obtain ⟨p, l, e, R, s, m, args, below, meth, c⟩ := g
  obtain ⟨hx, hb, hml, hown, hts, hlk, hret, hfr, hlo, hC⟩ := X
  intro H locs ls a ha hP hS hl
  obtain ⟨q0, -, h2⟩ := hc.at σ
  exact va_alen hx hb hC.1 hP q0 0 h2 rfl hv hd (K H locs ls a ha hP hS hl)
set_option maxRecDepth 20000 in
theorem dt_alenZ {u : dn_U} {g : dn_M} {cc : ByteArray} {Ts : List Cond} {own : String} {nL fr lo : Nat} {ret : Option FieldType} {α : Type} {Qc : α → Array Value → State → Outcome → State → Prop} {mdl : Option α} {σ : dn_S} {pc : Nat} {lv : List (Nat × Value)} {st : List Value} (X : dn_X u g cc Ts own nL fr lo ret) {k n : Nat} {f : dn_S → Nat → Int32} {v : Int32} (hc : dn_has u k (fun σ => .inl (u.2.2.1.2.1, n, .inl (f σ)))) (hd : decode cc pc = .ok (.arraylength, 1)) (hv : Int32.ofNat n = v) (K : dn_T u g nL Qc mdl σ (pc + 1) lv (.int v :: st)) : dn_T u g nL Qc mdl σ pc lv (.ref (dn_a u k) :: st) := by
  obtain ⟨p, l, e, R, s, m, args, below, meth, c⟩ := g
  obtain ⟨hx, hb, hml, hown, hts, hlk, hret, hfr, hlo, hC⟩ := X
  intro H locs ls a ha hP hS hl
  obtain ⟨q0, -, h2⟩ := hc.at σ
  exact va_alen hx hb hC.1 hP q0 1 h2 rfl hv hd (K H locs ls a ha hP hS hl)
set_option maxRecDepth 20000 in
theorem dt_alenA {u : dn_U} {g : dn_M} {cc : ByteArray} {Ts : List Cond} {own : String} {nL fr lo : Nat} {ret : Option FieldType} {α : Type} {Qc : α → Array Value → State → Outcome → State → Prop} {mdl : Option α} {σ : dn_S} {pc : Nat} {lv : List (Nat × Value)} {st : List Value} (X : dn_X u g cc Ts own nL fr lo ret) {k n : Nat} {f : Nat → Option Nat} {v : Int32} (hc : dn_has u k (fun σ => .inl (u.2.2.1.2.2, n, .inr (.inr (.inr (.inr f)))))) (hd : decode cc pc = .ok (.arraylength, 1)) (hv : Int32.ofNat n = v) (K : dn_T u g nL Qc mdl σ (pc + 1) lv (.int v :: st)) : dn_T u g nL Qc mdl σ pc lv (.ref (dn_a u k) :: st) := by
  obtain ⟨p, l, e, R, s, m, args, below, meth, c⟩ := g
  obtain ⟨hx, hb, hml, hown, hts, hlk, hret, hfr, hlo, hC⟩ := X
  intro H locs ls a ha hP hS hl
  obtain ⟨q0, -, h2⟩ := hc.at σ
  exact va_alen hx hb hC.1 hP q0 2 h2 rfl hv hd (K H locs ls a ha hP hS hl)
set_option maxRecDepth 20000 in
theorem dt_iald {u : dn_U} {g : dn_M} {cc : ByteArray} {Ts : List Cond} {own : String} {nL fr lo : Nat} {ret : Option FieldType} {α : Type} {Qc : α → Array Value → State → Outcome → State → Prop} {mdl : Option α} {σ : dn_S} {pc : Nat} {lv : List (Nat × Value)} {st : List Value} (X : dn_X u g cc Ts own nL fr lo ret) {k n : Nat} {i : Int32} (hc : dn_has u k (fun σ => .inl (u.2.2.1.1, n, .inl (fun j => dn_g σ k j)))) (hd : decode cc pc = .ok (.iaload, 1)) (K : dn_T u g nL Qc mdl σ (pc + 1) lv (.int (dn_g σ k i.toNatClampNeg) :: st)) : dn_T u g nL Qc (dn_ck (dn_ib i n) mdl) σ pc lv (.int i :: .ref (dn_a u k) :: st) := by
  obtain ⟨p, l, e, R, s, m, args, below, meth, c⟩ := g
  obtain ⟨hx, hb, hml, hown, hts, hlk, hret, hfr, hlo, hC⟩ := X
  intro H locs ls a ha hP hS hl
  cases hi : dn_ib i n with
  | false => rw [hi] at ha; cases ha
  | true =>
    rw [hi] at ha
    obtain ⟨q0, -, h2⟩ := hc.at σ
    exact va_iald hx hb hC.1 hP q0 0 h2 rfl (dn_ib_in hi) hd (K H locs ls a ha hP hS hl)
set_option maxRecDepth 20000 in
theorem dt_zald {u : dn_U} {g : dn_M} {cc : ByteArray} {Ts : List Cond} {own : String} {nL fr lo : Nat} {ret : Option FieldType} {α : Type} {Qc : α → Array Value → State → Outcome → State → Prop} {mdl : Option α} {σ : dn_S} {pc : Nat} {lv : List (Nat × Value)} {st : List Value} (X : dn_X u g cc Ts own nL fr lo ret) {k n : Nat} {i : Int32} (hc : dn_has u k (fun σ => .inl (u.2.2.1.2.1, n, .inl (fun j => dn_g σ k j)))) (hd : decode cc pc = .ok (.baload, 1)) (K : dn_T u g nL Qc mdl σ (pc + 1) lv (.int (dn_g σ k i.toNatClampNeg) :: st)) : dn_T u g nL Qc (dn_ck (dn_ib i n) mdl) σ pc lv (.int i :: .ref (dn_a u k) :: st) := by
  obtain ⟨p, l, e, R, s, m, args, below, meth, c⟩ := g
  obtain ⟨hx, hb, hml, hown, hts, hlk, hret, hfr, hlo, hC⟩ := X
  intro H locs ls a ha hP hS hl
  cases hi : dn_ib i n with
  | false => rw [hi] at ha; cases ha
  | true =>
    rw [hi] at ha
    obtain ⟨q0, -, h2⟩ := hc.at σ
    exact va_zald hx hb hC.1 hP q0 1 h2 rfl (dn_ib_in hi) hd (K H locs ls a ha hP hS hl)
set_option maxRecDepth 20000 in
theorem dt_aald {u : dn_U} {g : dn_M} {cc : ByteArray} {Ts : List Cond} {own : String} {nL fr lo : Nat} {ret : Option FieldType} {α : Type} {Qc : α → Array Value → State → Outcome → State → Prop} {mdl : Option α} {σ : dn_S} {pc : Nat} {lv : List (Nat × Value)} {st : List Value} (X : dn_X u g cc Ts own nL fr lo ret) {k n : Nat} {i : Int32} {f : Nat → Nat} (hc : dn_has u k (fun σ => .inl (u.2.2.1.2.2, n, .inr (.inr (.inr (.inr (fun j => some (dn_a u (f j))))))))) (hd : decode cc pc = .ok (.aaload, 1)) (K : dn_T u g nL Qc mdl σ (pc + 1) lv (.ref (dn_a u (f i.toNatClampNeg)) :: st)) : dn_T u g nL Qc (dn_ck (dn_ib i n) mdl) σ pc lv (.int i :: .ref (dn_a u k) :: st) := by
  obtain ⟨p, l, e, R, s, m, args, below, meth, c⟩ := g
  obtain ⟨hx, hb, hml, hown, hts, hlk, hret, hfr, hlo, hC⟩ := X
  intro H locs ls a ha hP hS hl
  cases hi : dn_ib i n with
  | false => rw [hi] at ha; cases ha
  | true =>
    rw [hi] at ha
    obtain ⟨q0, -, h2⟩ := hc.at σ
    exact va_aldq hx hb hC.1 hP q0 2 h2 rfl (dn_ib_in hi) hd (K H locs ls a ha hP hS hl)
set_option maxRecDepth 20000 in
theorem dt_tald {u : dn_U} {g : dn_M} {cc : ByteArray} {Ts : List Cond} {own : String} {nL fr lo : Nat} {ret : Option FieldType} {α : Type} {Qc : α → Array Value → State → Outcome → State → Prop} {mdl : Option α} {σ : dn_S} {pc : Nat} {lv : List (Nat × Value)} {st : List Value} (X : dn_X u g cc Ts own nL fr lo ret) {t n : Nat} {i : Int32} {f : Nat → Int32} (hT : ∀ s : State, dn_C u s → va_T .int t n (fun j => .int (f j)) (dn_A u) s s.heap) (hd : decode cc pc = .ok (.iaload, 1)) (K : dn_T u g nL Qc mdl σ (pc + 1) lv (.int (f i.toNatClampNeg) :: st)) : dn_T u g nL Qc (dn_ck (dn_ib i n) mdl) σ pc lv (.int i :: .ref t :: st) := by
  obtain ⟨p, l, e, R, s, m, args, below, meth, c⟩ := g
  obtain ⟨hx, hb, hml, hown, hts, hlk, hret, hfr, hlo, hC⟩ := X
  intro H locs ls a ha hP hS hl
  cases hi : dn_ib i n with
  | false => rw [hi] at ha; cases ha
  | true =>
    rw [hi] at ha
    exact va_ti hx hb (hT s hC) hS (dn_ib_in hi) rfl hd (K H locs ls a ha hP hS hl)
set_option maxRecDepth 20000 in
theorem dt_tlen {u : dn_U} {g : dn_M} {cc : ByteArray} {Ts : List Cond} {own : String} {nL fr lo : Nat} {ret : Option FieldType} {α : Type} {Qc : α → Array Value → State → Outcome → State → Prop} {mdl : Option α} {σ : dn_S} {pc : Nat} {lv : List (Nat × Value)} {st : List Value} (X : dn_X u g cc Ts own nL fr lo ret) {t n : Nat} {f : Nat → Int32} {v : Int32} (hT : ∀ s : State, dn_C u s → va_T .int t n (fun j => .int (f j)) (dn_A u) s s.heap) (hd : decode cc pc = .ok (.arraylength, 1)) (hv : Int32.ofNat n = v) (K : dn_T u g nL Qc mdl σ (pc + 1) lv (.int v :: st)) : dn_T u g nL Qc mdl σ pc lv (.ref t :: st) := by
  obtain ⟨p, l, e, R, s, m, args, below, meth, c⟩ := g
  obtain ⟨hx, hb, hml, hown, hts, hlk, hret, hfr, hlo, hC⟩ := X
  intro H locs ls a ha hP hS hl
  exact va_tlen hx hb (hT s hC) hS hv hd (K H locs ls a ha hP hS hl)
set_option maxRecDepth 20000 in
theorem dt_gets {u : dn_U} {g : dn_M} {cc : ByteArray} {Ts : List Cond} {own : String} {nL fr lo : Nat} {ret : Option FieldType} {α : Type} {Qc : α → Array Value → State → Outcome → State → Prop} {mdl : Option α} {σ : dn_S} {pc : Nat} {lv : List (Nat × Value)} {st : List Value} (X : dn_X u g cc Ts own nL fr lo ret) {n : String} {t index : Nat} (hZ : ∀ s : State, dn_C u s → va_Z "DayNames$Reader" n "[I" (.ref t) (dn_A u) s s.heap) (hw : Cond.fieldLink own index "DayNames$Reader" n "[I" ∈ Ts) (hd : decode cc pc = .ok (.getstatic index, 3)) (K : dn_T u g nL Qc mdl σ (pc + 3) lv (.ref t :: st)) : dn_T u g nL Qc mdl σ pc lv (st) := by
  obtain ⟨p, l, e, R, s, m, args, below, meth, c⟩ := g
  obtain ⟨hx, hb, hml, hown, hts, hlk, hret, hfr, hlo, hC⟩ := X
  intro H locs ls a ha hP hS hl
  exact va_gets hx hb (hZ s hC) hS hown (hts _ hw) (fun _ h => h) hd (K H locs ls a ha hP hS hl)
set_option maxRecDepth 20000 in
theorem dt_iast {u : dn_U} {g : dn_M} {cc : ByteArray} {Ts : List Cond} {own : String} {nL fr lo : Nat} {ret : Option FieldType} {α : Type} {Qc : α → Array Value → State → Outcome → State → Prop} {σ : dn_S} {pc : Nat} {lv : List (Nat × Value)} {st : List Value} (X : dn_X u g cc Ts own nL fr lo ret) {k n : Nat} {i v : Int32} {kk : dn_S → Option α} (hc : dn_has u k (fun σ => .inl (u.2.2.1.1, n, .inl (fun j => dn_g σ k j)))) (hd : decode cc pc = .ok (.iastore, 1)) (K : ∀ σ1, dn_T u g nL Qc (kk σ1) σ1 (pc + 1) lv (st)) : dn_T u g nL Qc (dn_ck (dn_ib i n) (dn_wr (dn_p σ k i.toNatClampNeg v) kk)) σ pc lv (.int v :: .int i :: .ref (dn_a u k) :: st) := by
  obtain ⟨p, l, e, R, s, m, args, below, meth, c⟩ := g
  obtain ⟨hx, hb, hml, hown, hts, hlk, hret, hfr, hlo, hC⟩ := X
  intro H locs ls a ha hP hS hl
  cases hi : dn_ib i n with
  | false => rw [hi] at ha; cases ha
  | true =>
    rw [hi] at ha
    obtain ⟨q0, h1, h2⟩ := hc.at σ
    refine va_iast hx hb hC.1 hP (dn_wsD hC.2.2.2 σ) hS q0 0 h2 rfl (dn_ib_in hi) hd (fun H1 locs1 hP1 hD1 hS1 => ?_)
    rw [dn_wsSet (σ' := dn_p σ k i.toNatClampNeg v) hC.2.2.2.1 h1 (by rw [hc.2]; dsimp only; rw [dn_upd_eq]) (fun j _ hj => dn_c_p hj)] at hP1
    exact K (dn_p σ k i.toNatClampNeg v) H1 locs1 ls a ha hP1 hS1 hl
set_option maxRecDepth 20000 in
theorem dt_zast {u : dn_U} {g : dn_M} {cc : ByteArray} {Ts : List Cond} {own : String} {nL fr lo : Nat} {ret : Option FieldType} {α : Type} {Qc : α → Array Value → State → Outcome → State → Prop} {σ : dn_S} {pc : Nat} {lv : List (Nat × Value)} {st : List Value} (X : dn_X u g cc Ts own nL fr lo ret) {k n : Nat} {i : Int32} {v : Bool} {kk : dn_S → Option α} (hc : dn_has u k (fun σ => .inl (u.2.2.1.2.1, n, .inl (fun j => dn_g σ k j)))) (hd : decode cc pc = .ok (.bastore, 1)) (K : ∀ σ1, dn_T u g nL Qc (kk σ1) σ1 (pc + 1) lv (st)) : dn_T u g nL Qc (dn_ck (dn_ib i n) (dn_wr (dn_p σ k i.toNatClampNeg (dn_b v)) kk)) σ pc lv (.int (dn_b v) :: .int i :: .ref (dn_a u k) :: st) := by
  obtain ⟨p, l, e, R, s, m, args, below, meth, c⟩ := g
  obtain ⟨hx, hb, hml, hown, hts, hlk, hret, hfr, hlo, hC⟩ := X
  intro H locs ls a ha hP hS hl
  cases hi : dn_ib i n with
  | false => rw [hi] at ha; cases ha
  | true =>
    rw [hi] at ha
    obtain ⟨q0, h1, h2⟩ := hc.at σ
    refine va_zast hx hb hC.1 hP (dn_wsD hC.2.2.2 σ) hS q0 1 h2 rfl (dn_ib_in hi) hd (fun H1 locs1 hP1 hD1 hS1 => ?_)
    rw [dn_wsSet (σ' := dn_p σ k i.toNatClampNeg (dn_b v)) hC.2.2.2.1 h1 (by rw [hc.2]; dsimp only; rw [dn_upd_eq, dn_nar_b]) (fun j _ hj => dn_c_p hj)] at hP1
    exact K (dn_p σ k i.toNatClampNeg (dn_b v)) H1 locs1 ls a ha hP1 hS1 hl
set_option maxRecDepth 20000 in
theorem dt_get {u : dn_U} {g : dn_M} {cc : ByteArray} {Ts : List Cond} {own : String} {nL fr lo : Nat} {ret : Option FieldType} {α : Type} {Qc : α → Array Value → State → Outcome → State → Prop} {mdl : Option α} {σ : dn_S} {pc : Nat} {lv : List (Nat × Value)} {st : List Value} (X : dn_X u g cc Ts own nL fr lo ret) {C : String} {T : u_T} {N ci index k : Nat} {e : dn_S → va_E} {v : Value} {fs : List Value} (j : Nat) (hc : dn_has u k e) (he : e σ = .inr (ci, fs)) (hin : ∀ w ∈ u_ws C T N, w ∈ Ts) (hcl : vwCl[ci]? = some (C, T, N)) (hj : Nat.blt j N = true) (hw : Cond.fieldLink own index (T j).1 (T j).2.1 (T j).2.2.1 ∈ Ts) (hv : fs[j]? = some v) (hd : decode cc pc = .ok (.getfield index, 3)) (K : dn_T u g nL Qc mdl σ (pc + 3) lv (v :: st)) : dn_T u g nL Qc mdl σ pc lv (.ref (dn_a u k) :: st) := by
  obtain ⟨p, l, e, R, s, m, args, below, meth, c⟩ := g
  obtain ⟨hx, hb, hml, hown, hts, hlk, hret, hfr, hlo, hC⟩ := X
  intro H locs ls a ha hP hS hl
  obtain ⟨q0, -, h2⟩ := hc.at σ
  rw [he] at h2
  exact va_get hx hb hts hin hown hC.1 hP q0 h2 hcl j (Nat.blt_eq.mp hj) (hts _ hw) (fun _ h9 => h9) hv hd (K H locs ls a ha hP hS hl)
set_option maxRecDepth 20000 in
theorem dt_getN {u : dn_U} {g : dn_M} {cc : ByteArray} {Ts : List Cond} {own : String} {nL fr lo : Nat} {ret : Option FieldType} {α : Type} {Qc : α → Array Value → State → Outcome → State → Prop} {mdl : Option α} {σ : dn_S} {pc : Nat} {lv : List (Nat × Value)} {st : List Value} (X : dn_X u g cc Ts own nL fr lo ret) {C : String} {T : u_T} {N ci index k : Nat} {e : dn_S → va_E} {v : Value} {fs : List Value} (j : Nat) (hc : dn_has u k e) (he : e σ = .inr (ci, fs)) (hin : ∀ w ∈ u_ws C T N, w ∈ Ts) (hcl : vwCl[ci]? = some (C, T, N)) (hj : Nat.blt j N = true) (hw : Cond.fieldLinkNest own index (T j).1 (T j).2.1 (T j).2.2.1 "DayNames" ∈ dn_nw) (hv : fs[j]? = some v) (hd : decode cc pc = .ok (.getfield index, 3)) (K : dn_T u g nL Qc mdl σ (pc + 3) lv (v :: st)) : dn_T u g nL Qc mdl σ pc lv (.ref (dn_a u k) :: st) := by
  obtain ⟨p, l, e, R, s, m, args, below, meth, c⟩ := g
  obtain ⟨hx, hb, hml, hown, hts, hlk, hret, hfr, hlo, hC⟩ := X
  intro H locs ls a ha hP hS hl
  obtain ⟨q0, -, h2⟩ := hc.at σ
  rw [he] at h2
  exact va_getN hx hb hts hin hown hC.1 hP q0 h2 hcl j (Nat.blt_eq.mp hj) (va_Nw.use rfl (hC.2.2.1 _ hw)) (fun _ h9 => h9) hv hd (K H locs ls a ha hP hS hl)
set_option maxRecDepth 20000 in
theorem dt_put {u : dn_U} {g : dn_M} {cc : ByteArray} {Ts : List Cond} {own : String} {nL fr lo : Nat} {ret : Option FieldType} {α : Type} {Qc : α → Array Value → State → Outcome → State → Prop} {σ : dn_S} {pc : Nat} {lv : List (Nat × Value)} {st : List Value} (X : dn_X u g cc Ts own nL fr lo ret) {C : String} {T : u_T} {N ci index k : Nat} {e : dn_S → va_E} {fs : List Value} {v : Int32} {kk : dn_S → Option α} (j : Nat) (hc : dn_has u k e) (he : e σ = .inr (ci, fs)) (hin : ∀ w ∈ u_ws C T N, w ∈ Ts) (hcl : vwCl[ci]? = some (C, T, N)) (tyF : Nat → FieldType) (hty : ∀ k, k < N → parseFieldDescriptor (T k).2.2.1 = some (tyF k)) (hnm : ∀ a, a < N → ∀ b, b < N → a ≠ b → (T a).2.1 ≠ (T b).2.1) (hj : Nat.blt j N = true) (hjl : Nat.blt j fs.length = true) (hw : Cond.fieldLink own index (T j).1 (T j).2.1 (T j).2.2.1 ∈ Ts) (hfin : (T j).2.2.2 = false) (hdd : parseFieldDescriptor (T j).2.2.1 = some .int) (hset : e (dn_p σ k j v) = .inr (ci, fs.set j (.int v))) (hd : decode cc pc = .ok (.putfield index, 3)) (K : ∀ σ1, dn_T u g nL Qc (kk σ1) σ1 (pc + 3) lv (st)) : dn_T u g nL Qc (dn_wr (dn_p σ k j v) kk) σ pc lv (.int v :: .ref (dn_a u k) :: st) := by
  obtain ⟨p, l, e, R, s, m, args, below, meth, c⟩ := g
  obtain ⟨hx, hb, hml, hown, hts, hlk, hret, hfr, hlo, hC⟩ := X
  intro H locs ls a ha hP hS hl
  obtain ⟨q0, h1, h2⟩ := hc.at σ
  rw [he] at h2
  refine va_put hx hb hts hin tyF hty hnm hown hC.1 hP (dn_wsD hC.2.2.2 σ) hS q0 h2 hcl j (Nat.blt_eq.mp hj) (hts _ hw) (fun _ h9 => h9) hfin hdd rfl rfl (Nat.blt_eq.mp hjl) hd (fun H1 locs1 hP1 hD1 hS1 => ?_)
  rw [dn_wsSet (σ' := dn_p σ k j v) hC.2.2.2.1 h1 (by rw [hc.2]; exact hset) (fun j _ hj => dn_c_p hj)] at hP1
  exact K (dn_p σ k j v) H1 locs1 ls a ha hP1 hS1 hl
set_option maxRecDepth 20000 in
theorem dt_putN {u : dn_U} {g : dn_M} {cc : ByteArray} {Ts : List Cond} {own : String} {nL fr lo : Nat} {ret : Option FieldType} {α : Type} {Qc : α → Array Value → State → Outcome → State → Prop} {σ : dn_S} {pc : Nat} {lv : List (Nat × Value)} {st : List Value} (X : dn_X u g cc Ts own nL fr lo ret) {C : String} {T : u_T} {N ci index k : Nat} {e : dn_S → va_E} {fs : List Value} {v : Int32} {kk : dn_S → Option α} (j : Nat) (hc : dn_has u k e) (he : e σ = .inr (ci, fs)) (hin : ∀ w ∈ u_ws C T N, w ∈ Ts) (hcl : vwCl[ci]? = some (C, T, N)) (tyF : Nat → FieldType) (hty : ∀ k, k < N → parseFieldDescriptor (T k).2.2.1 = some (tyF k)) (hnm : ∀ a, a < N → ∀ b, b < N → a ≠ b → (T a).2.1 ≠ (T b).2.1) (hj : Nat.blt j N = true) (hjl : Nat.blt j fs.length = true) (hw : Cond.fieldLinkNest own index (T j).1 (T j).2.1 (T j).2.2.1 "DayNames" ∈ dn_nw) (hfin : (T j).2.2.2 = false) (hdd : parseFieldDescriptor (T j).2.2.1 = some .int) (hset : e (dn_p σ k j v) = .inr (ci, fs.set j (.int v))) (hd : decode cc pc = .ok (.putfield index, 3)) (K : ∀ σ1, dn_T u g nL Qc (kk σ1) σ1 (pc + 3) lv (st)) : dn_T u g nL Qc (dn_wr (dn_p σ k j v) kk) σ pc lv (.int v :: .ref (dn_a u k) :: st) := by
  obtain ⟨p, l, e, R, s, m, args, below, meth, c⟩ := g
  obtain ⟨hx, hb, hml, hown, hts, hlk, hret, hfr, hlo, hC⟩ := X
  intro H locs ls a ha hP hS hl
  obtain ⟨q0, h1, h2⟩ := hc.at σ
  rw [he] at h2
  refine va_putN hx hb hts hin tyF hty hnm hown hC.1 hP (dn_wsD hC.2.2.2 σ) hS q0 h2 hcl j (Nat.blt_eq.mp hj) (va_Nw.use rfl (hC.2.2.1 _ hw)) (fun _ h9 => h9) hfin hdd rfl rfl (Nat.blt_eq.mp hjl) hd (fun H1 locs1 hP1 hD1 hS1 => ?_)
  rw [dn_wsSet (σ' := dn_p σ k j v) hC.2.2.2.1 h1 (by rw [hc.2]; exact hset) (fun j _ hj => dn_c_p hj)] at hP1
  exact K (dn_p σ k j v) H1 locs1 ls a ha hP1 hS1 hl
set_option maxRecDepth 20000 in
theorem dt_putz {u : dn_U} {g : dn_M} {cc : ByteArray} {Ts : List Cond} {own : String} {nL fr lo : Nat} {ret : Option FieldType} {α : Type} {Qc : α → Array Value → State → Outcome → State → Prop} {σ : dn_S} {pc : Nat} {lv : List (Nat × Value)} {st : List Value} (X : dn_X u g cc Ts own nL fr lo ret) {C : String} {T : u_T} {N ci index k : Nat} {e : dn_S → va_E} {fs : List Value} {v : Bool} {kk : dn_S → Option α} (j : Nat) (hc : dn_has u k e) (he : e σ = .inr (ci, fs)) (hin : ∀ w ∈ u_ws C T N, w ∈ Ts) (hcl : vwCl[ci]? = some (C, T, N)) (tyF : Nat → FieldType) (hty : ∀ k, k < N → parseFieldDescriptor (T k).2.2.1 = some (tyF k)) (hnm : ∀ a, a < N → ∀ b, b < N → a ≠ b → (T a).2.1 ≠ (T b).2.1) (hj : Nat.blt j N = true) (hjl : Nat.blt j fs.length = true) (hw : Cond.fieldLink own index (T j).1 (T j).2.1 (T j).2.2.1 ∈ Ts) (hfin : (T j).2.2.2 = false) (hdd : parseFieldDescriptor (T j).2.2.1 = some .boolean) (hset : e (dn_p σ k j (dn_b v)) = .inr (ci, fs.set j (.int (dn_b v)))) (hd : decode cc pc = .ok (.putfield index, 3)) (K : ∀ σ1, dn_T u g nL Qc (kk σ1) σ1 (pc + 3) lv (st)) : dn_T u g nL Qc (dn_wr (dn_p σ k j (dn_b v)) kk) σ pc lv (.int (dn_b v) :: .ref (dn_a u k) :: st) := by
  obtain ⟨p, l, e, R, s, m, args, below, meth, c⟩ := g
  obtain ⟨hx, hb, hml, hown, hts, hlk, hret, hfr, hlo, hC⟩ := X
  intro H locs ls a ha hP hS hl
  obtain ⟨q0, h1, h2⟩ := hc.at σ
  rw [he] at h2
  refine va_put hx hb hts hin tyF hty hnm hown hC.1 hP (dn_wsD hC.2.2.2 σ) hS q0 h2 hcl j (Nat.blt_eq.mp hj) (hts _ hw) (fun _ h9 => h9) hfin hdd (dn_nar_bv v) (dn_fit_bv v) (Nat.blt_eq.mp hjl) hd (fun H1 locs1 hP1 hD1 hS1 => ?_)
  rw [dn_wsSet (σ' := dn_p σ k j (dn_b v)) hC.2.2.2.1 h1 (by rw [hc.2]; exact hset) (fun j _ hj => dn_c_p hj)] at hP1
  exact K (dn_p σ k j (dn_b v)) H1 locs1 ls a ha hP1 hS1 hl
set_option maxRecDepth 20000 in
theorem dt_putl {u : dn_U} {g : dn_M} {cc : ByteArray} {Ts : List Cond} {own : String} {nL fr lo : Nat} {ret : Option FieldType} {α : Type} {Qc : α → Array Value → State → Outcome → State → Prop} {σ : dn_S} {pc : Nat} {lv : List (Nat × Value)} {st : List Value} (X : dn_X u g cc Ts own nL fr lo ret) {C : String} {T : u_T} {N ci index k : Nat} {e : dn_S → va_E} {fs : List Value} {v : Int64} {kk : dn_S → Option α} (j : Nat) (hc : dn_has u k e) (he : e σ = .inr (ci, fs)) (hin : ∀ w ∈ u_ws C T N, w ∈ Ts) (hcl : vwCl[ci]? = some (C, T, N)) (tyF : Nat → FieldType) (hty : ∀ k, k < N → parseFieldDescriptor (T k).2.2.1 = some (tyF k)) (hnm : ∀ a, a < N → ∀ b, b < N → a ≠ b → (T a).2.1 ≠ (T b).2.1) (hj : Nat.blt j N = true) (hjl : Nat.blt j fs.length = true) (hw : Cond.fieldLink own index (T j).1 (T j).2.1 (T j).2.2.1 ∈ Ts) (hfin : (T j).2.2.2 = false) (hdd : parseFieldDescriptor (T j).2.2.1 = some .long) (hset : e (dn_q σ v) = .inr (ci, fs.set j (.long v))) (hqz : dn_qz u k) (hd : decode cc pc = .ok (.putfield index, 3)) (K : ∀ σ1, dn_T u g nL Qc (kk σ1) σ1 (pc + 3) lv (st)) : dn_T u g nL Qc (dn_wr (dn_q σ v) kk) σ pc lv (.long v :: .ref (dn_a u k) :: st) := by
  obtain ⟨p, l, e, R, s, m, args, below, meth, c⟩ := g
  obtain ⟨hx, hb, hml, hown, hts, hlk, hret, hfr, hlo, hC⟩ := X
  intro H locs ls a ha hP hS hl
  obtain ⟨q0, h1, h2⟩ := hc.at σ
  rw [he] at h2
  refine va_put hx hb hts hin tyF hty hnm hown hC.1 hP (dn_wsD hC.2.2.2 σ) hS q0 h2 hcl j (Nat.blt_eq.mp hj) (hts _ hw) (fun _ h9 => h9) hfin hdd rfl rfl (Nat.blt_eq.mp hjl) hd (fun H1 locs1 hP1 hD1 hS1 => ?_)
  rw [dn_wsSet (σ' := dn_q σ v) hC.2.2.2.1 h1 (by rw [hc.2]; exact hset) (dn_c_q hqz)] at hP1
  exact K (dn_q σ v) H1 locs1 ls a ha hP1 hS1 hl
def dn_QR (u : dn_U) (k0 : Nat) (a : Unit × dn_S) : Array Value → State → Outcome → State → Prop := va_Qr (fun (x : dn_S) => x = a.2) (fun x ra t => ra = dn_a u k0 ∧ va_P u.1 vwCl (dn_ws u x) t.heap) (dn_A u)
theorem dt_iret {u : dn_U} {g : dn_M} {cc : ByteArray} {Ts : List Cond} {own : String} {nL fr lo : Nat} {σ : dn_S} {pc : Nat} {lv : List (Nat × Value)} {v : Int32} (X : dn_X u g cc Ts own nL fr lo (some .int)) (hd : decode cc pc = .ok (.ireturn, 1)) : dn_T u g nL (dn_QI u) (some (v, σ)) σ pc lv [.int v] := by
  obtain ⟨p, l, e, R, s, m, args, below, meth, c⟩ := g
  obtain ⟨hx, hb, hml, hown, hts, hlk, hret, hfr, hlo, hC⟩ := X
  intro H locs ls a ha hP hS hl
  cases ha
  exact W.iret hx hb hret (fun t ht hW => ⟨⟨v, σ, rfl, ⟨rfl, rfl⟩, by show va_P u.1 vwCl _ t.heap; rw [ht]; exact hP⟩, hS.F ht⟩) hS.2.2 hd hlk
theorem dt_zret {u : dn_U} {g : dn_M} {cc : ByteArray} {Ts : List Cond} {own : String} {nL fr lo : Nat} {σ : dn_S} {pc : Nat} {lv : List (Nat × Value)} {v : Bool} (X : dn_X u g cc Ts own nL fr lo (some .boolean)) (hd : decode cc pc = .ok (.ireturn, 1)) : dn_T u g nL (dn_QZ u) (some (v, σ)) σ pc lv [.int (dn_b v)] := by
  obtain ⟨p, l, e, R, s, m, args, below, meth, c⟩ := g
  obtain ⟨hx, hb, hml, hown, hts, hlk, hret, hfr, hlo, hC⟩ := X
  intro H locs ls a ha hP hS hl
  cases ha
  exact W.zret hx hb hret (dn_nar_bv v) (fun t ht hW => ⟨⟨dn_b v, σ, rfl, ⟨rfl, rfl⟩, by show va_P u.1 vwCl _ t.heap; rw [ht]; exact hP⟩, hS.F ht⟩) hS.2.2 hd hlk
theorem dt_lret {u : dn_U} {g : dn_M} {cc : ByteArray} {Ts : List Cond} {own : String} {nL fr lo : Nat} {σ : dn_S} {pc : Nat} {lv : List (Nat × Value)} {v : Int64} (X : dn_X u g cc Ts own nL fr lo (some .long)) (hd : decode cc pc = .ok (.lreturn, 1)) : dn_T u g nL (dn_QJ u) (some (v, σ)) σ pc lv [.long v] := by
  obtain ⟨p, l, e, R, s, m, args, below, meth, c⟩ := g
  obtain ⟨hx, hb, hml, hown, hts, hlk, hret, hfr, hlo, hC⟩ := X
  intro H locs ls a ha hP hS hl
  cases ha
  exact W.lret hx hb hret (fun t ht hW => ⟨⟨v, σ, rfl, ⟨rfl, rfl⟩, by show va_P u.1 vwCl _ t.heap; rw [ht]; exact hP⟩, hS.F ht⟩) hS.2.2 hd hlk
theorem dt_rret {u : dn_U} {g : dn_M} {cc : ByteArray} {Ts : List Cond} {own : String} {nL fr lo : Nat} {σ : dn_S} {pc : Nat} {lv : List (Nat × Value)} {k0 : Nat} {C : String} (X : dn_X u g cc Ts own nL fr lo (some (.object C))) (hd : decode cc pc = .ok (.areturn, 1)) : dn_T u g nL (dn_QR u k0) (some ((), σ)) σ pc lv [.ref (dn_a u k0)] := by
  obtain ⟨p, l, e, R, s, m, args, below, meth, c⟩ := g
  obtain ⟨hx, hb, hml, hown, hts, hlk, hret, hfr, hlo, hC⟩ := X
  intro H locs ls a ha hP hS hl
  cases ha
  exact W.aret hx hb hret (Or.inl ⟨_, rfl⟩) (Or.inr ⟨_, rfl⟩) (fun t ht hW => ⟨⟨σ, dn_a u k0, rfl, rfl, rfl, by show va_P u.1 vwCl _ t.heap; rw [ht]; exact hP⟩, hS.F ht⟩) hS.2.2 hd hlk
theorem dt_vret {u : dn_U} {g : dn_M} {cc : ByteArray} {Ts : List Cond} {own : String} {nL fr lo : Nat} {σ : dn_S} {pc : Nat} {lv : List (Nat × Value)} (X : dn_X u g cc Ts own nL fr lo none) (hd : decode cc pc = .ok (.return_, 1)) : dn_T u g nL (dn_QV u) (some ((), σ)) σ pc lv [] := by
  obtain ⟨p, l, e, R, s, m, args, below, meth, c⟩ := g
  obtain ⟨hx, hb, hml, hown, hts, hlk, hret, hfr, hlo, hC⟩ := X
  intro H locs ls a ha hP hS hl
  cases ha
  exact W.vret hx hb hret (fun t ht hW => ⟨⟨σ, rfl, rfl, by show va_P u.1 vwCl _ t.heap; rw [ht]; exact hP⟩, hS.F ht⟩) hS.2.2 hd hlk
/-- a call that runs: what the callee's contract gives, for any answer of its picture -/
def dn_R {β : Type} (u : dn_U) (g : dn_M) (nL : Nat) (Qd : β → Array Value → State → Outcome → State → Prop) (md : Option β) (σ : dn_S) (pc : Nat) (lv : List (Nat × Value)) (st0 st : List Value) (arr : Array Value) : Prop := match g with
  | (p, l, e, R, s, m, args, below, meth, c) => ∀ (H : Heap) (locs : List Loc) (ls : Array Slot) (b : β), md = some b → va_P u.1 vwCl (dn_ws u σ) H → va_S (dn_A u) s.heap H locs → lv_has ls nL lv → va_Run p l e R s m args below meth c H locs 0 0 0 0 (F0 m pc ls st0) st (Qd b arr) (dn_A u)
def dn_la (g : dn_M) : Launch := g.2.1
theorem dn_runV {u : dn_U} {g : dn_M} {cc : ByteArray} {Ts : List Cond} {own : String} {nL fr lo : Nat} {ret : Option FieldType} {β : Type} {Qd : β → Array Value → State → Outcome → State → Prop} {md : Option β} {σ : dn_S} {pc : Nat} {lv : List (Nat × Value)} {st : List Value} (X : dn_X u g cc Ts own nL fr lo ret) {y : MethodName} {ws ws' : List Cond} {bytes : ByteArray} {maxL fr' lo' n index : Nat} {ret' : Option FieldType} {C : String} {T : u_T} {N ci k : Nat} {fs : List Value} {e : dn_S → va_E} (As : List Value) (hc : dn_has u k e) (he : e σ = .inr (ci, fs)) (hcl : vwCl[ci]? = some (C, T, N)) (hM : dn_Met (dn_la g) u y ws fr' lo' (.ref (dn_a u k) :: As) σ md Qd) (hG : GoodIn Ts (wsV own index C y ws)) (hw : ws = Cond.code y bytes maxL ret' :: ws') (hd0 : y.cls = C ∧ y.cls ≠ "java/lang/invoke/MethodHandle" ∧ y.cls ≠ "java/lang/invoke/VarHandle" ∧ (parseMethodDescriptor y.desc).map (fun d => d.parameters.length) = some n) (hr1 : Nat.ble (fr' + 1) fr = true) (hr2 : Nat.ble (8 + (maxL + 11) + lo') lo = true) (hn : As.length = n) (hcat : Nat.ble (st.map fun v => v.category).sum 8 = true) (hd : decode cc pc = .ok (.invokevirtual index, 3)) : dn_R u g nL Qd md σ pc lv (As.reverse ++ .ref (dn_a u k) :: st) st (Value.ref (dn_a u k) :: As).toArray := by
  obtain ⟨p, l, e, R, s, m, args, below, meth, c⟩ := g
  obtain ⟨hx, hb, hml, hown, hts, hlk, hret, hfr, hlo, hC⟩ := X
  intro H locs ls b hb0 hP hS hl
  obtain ⟨q0, -, h2⟩ := hc.at σ
  rw [he] at h2
  exact va_runV (As := As) (rest := st) ⟨hx, hb, hml, hown, hts⟩ (hM b hb0) (cwV n hts hG hw rfl rfl hd0 ⟨by show fr' + 1 ≤ R.frames; rw [hfr]; exact Nat.le_of_ble_eq_true hr1, by show 8 + (maxL + 11) + lo' ≤ R.locals; rw [hlo]; exact Nat.le_of_ble_eq_true hr2⟩) ⟨fun a U g mk q => ⟨q.1, q.2.calling g mk a⟩, va_recv hC.1 hP hcl h2, fun U hU hW => ⟨rfl, by rw [hU]; exact hP, hC.go hW hU hS⟩⟩ rfl hn hl.1 rfl (lv_room (Nat.le_of_ble_eq_true hcat)) hd ⟨Nat.zero_le _, Nat.zero_le _⟩
theorem dn_runS {u : dn_U} {g : dn_M} {cc : ByteArray} {Ts : List Cond} {own : String} {nL fr lo : Nat} {ret : Option FieldType} {β : Type} {Qd : β → Array Value → State → Outcome → State → Prop} {md : Option β} {σ : dn_S} {pc : Nat} {lv : List (Nat × Value)} {st : List Value} (X : dn_X u g cc Ts own nL fr lo ret) {y : MethodName} {ws ws' : List Cond} {bytes : ByteArray} {maxL fr' lo' n index : Nat} {ret' : Option FieldType} (As : List Value) (hM : dn_Met (dn_la g) u y ws fr' lo' As σ md Qd) (hG : GoodIn Ts (va_wsS own index y ws)) (hw : ws = Cond.code y bytes maxL ret' :: ws') (hd0 : y.cls ≠ "java/lang/invoke/MethodHandle" ∧ y.cls ≠ "java/lang/invoke/VarHandle" ∧ (parseMethodDescriptor y.desc).map (fun d => d.parameters.length) = some n) (hr1 : Nat.ble (fr' + 1) fr = true) (hr2 : Nat.ble (8 + (maxL + 11) + lo') lo = true) (hn : As.length = n) (hcat : Nat.ble (st.map fun v => v.category).sum 8 = true) (hd : decode cc pc = .ok (.invokestatic index, 3)) : dn_R u g nL Qd md σ pc lv (As.reverse ++ st) st As.toArray := by
  obtain ⟨p, l, e, R, s, m, args, below, meth, c⟩ := g
  obtain ⟨hx, hb, hml, hown, hts, hlk, hret, hfr, hlo, hC⟩ := X
  intro H locs ls b hb0 hP hS hl
  exact va_runS (As := As) (rest := st) ⟨hx, hb, hml, hown, hts⟩ (hM b hb0) (va_cwS n hts hG hw rfl rfl hd0 ⟨by show fr' + 1 ≤ R.frames; rw [hfr]; exact Nat.le_of_ble_eq_true hr1, by show 8 + (maxL + 11) + lo' ≤ R.locals; rw [hlo]; exact Nat.le_of_ble_eq_true hr2⟩) ⟨fun a U g mk q => ⟨q.1, q.2.calling g mk a⟩, fun U hU hW => ⟨rfl, by rw [hU]; exact hP, hC.go hW hU hS⟩⟩ rfl hn hl.1 rfl (lv_room (Nat.le_of_ble_eq_true hcat)) hd ⟨Nat.zero_le _, Nat.zero_le _⟩
theorem dn_runSN {u : dn_U} {g : dn_M} {cc : ByteArray} {Ts : List Cond} {own : String} {nL fr lo : Nat} {ret : Option FieldType} {β : Type} {Qd : β → Array Value → State → Outcome → State → Prop} {md : Option β} {σ : dn_S} {pc : Nat} {lv : List (Nat × Value)} {st : List Value} (X : dn_X u g cc Ts own nL fr lo ret) {y : MethodName} {ws ws' : List Cond} {bytes : ByteArray} {maxL fr' lo' n index : Nat} {ret' : Option FieldType} (As : List Value) (hM : dn_Met (dn_la g) u y ws fr' lo' As σ md Qd) (hG : GoodIn Ts ws) (hw : ws = Cond.code y bytes maxL ret' :: ws') (hlk0 : Cond.methodLinkNest own index y "DayNames" ∈ dn_nw) (hini : Cond.initialized y.cls ∈ Ts) (hst : Cond.static y ∈ Ts) (hd0 : y.cls ≠ "java/lang/invoke/MethodHandle" ∧ y.cls ≠ "java/lang/invoke/VarHandle" ∧ (parseMethodDescriptor y.desc).map (fun d => d.parameters.length) = some n) (hr1 : Nat.ble (fr' + 1) fr = true) (hr2 : Nat.ble (8 + (maxL + 11) + lo') lo = true) (hn : As.length = n) (hcat : Nat.ble (st.map fun v => v.category).sum 8 = true) (hd : decode cc pc = .ok (.invokestatic index, 3)) : dn_R u g nL Qd md σ pc lv (As.reverse ++ st) st As.toArray := by
  obtain ⟨p, l, e, R, s, m, args, below, meth, c⟩ := g
  obtain ⟨hx, hb, hml, hown, hts, hlk, hret, hfr, hlo, hC⟩ := X
  intro H locs ls b hb0 hP hS hl
  exact va_runSN (As := As) (rest := st) ⟨hx, hb, hml, hown, hts⟩ (hM b hb0) ⟨va_cnB n hts hG hw rfl rfl (hC.2.2.1 _ hlk0) (hts _ hini) hd0 ⟨by show fr' + 1 ≤ R.frames; rw [hfr]; exact Nat.le_of_ble_eq_true hr1, by show 8 + (maxL + 11) + lo' ≤ R.locals; rw [hlo]; exact Nat.le_of_ble_eq_true hr2⟩, hts _ hst, trivial⟩ ⟨fun a U g mk q => ⟨q.1, q.2.calling g mk a⟩, fun U hU hW => ⟨rfl, by rw [hU]; exact hP, hC.go hW hU hS⟩⟩ rfl hn hl.1 rfl (lv_room (Nat.le_of_ble_eq_true hcat)) hd ⟨Nat.zero_le _, Nat.zero_le _⟩
theorem dt_callI {u : dn_U} {g : dn_M} {cc : ByteArray} {Ts : List Cond} {own : String} {nL fr lo : Nat} {ret : Option FieldType} {α : Type} {Qc : α → Array Value → State → Outcome → State → Prop} {σ : dn_S} {pc : Nat} {lv : List (Nat × Value)} {st : List Value} (X : dn_X u g cc Ts own nL fr lo ret) {md : Option (Int32 × dn_S)} {kk : Int32 → dn_S → Option α} {st0 : List Value} {arr : Array Value} (hR : dn_R u g nL (dn_QI u) md σ pc lv st0 st arr) (K : ∀ r σ1, md = some (r, σ1) → dn_T u g nL Qc (kk r σ1) σ1 (pc + 3) lv (.int r :: st)) : dn_T u g nL Qc (dn_bd md kk) σ pc lv st0 := by
  obtain ⟨p, l, e, R, s, m, args, below, meth, c⟩ := g
  obtain ⟨hx, hb, hml, hown, hts, hlk, hret, hfr, hlo, hC⟩ := X
  intro H locs ls a ha hP hS hl
  cases hmd : md with
  | none => rw [hmd] at ha; cases ha
  | some z =>
    obtain ⟨r, σ1⟩ := z
    have hx1 := hmd
    rw [hmd] at ha
    refine va_calli (hR H locs ls (r, σ1) hmd hP hS hl) hS (fun q _ h => h) (fun q h => h) (fun r' u' t H1 locs1 ht hvm hw hB hz hk hS1 => by obtain ⟨rfl, rfl⟩ := hw; rw [ht] at hB; exact K _ _ hx1 H1 locs1 ls a ha hB hS1 hl)
theorem dt_callZ {u : dn_U} {g : dn_M} {cc : ByteArray} {Ts : List Cond} {own : String} {nL fr lo : Nat} {ret : Option FieldType} {α : Type} {Qc : α → Array Value → State → Outcome → State → Prop} {σ : dn_S} {pc : Nat} {lv : List (Nat × Value)} {st : List Value} (X : dn_X u g cc Ts own nL fr lo ret) {md : Option (Bool × dn_S)} {kk : Bool → dn_S → Option α} {st0 : List Value} {arr : Array Value} (hR : dn_R u g nL (dn_QZ u) md σ pc lv st0 st arr) (K : ∀ r σ1, md = some (r, σ1) → dn_T u g nL Qc (kk r σ1) σ1 (pc + 3) lv (.int (dn_b r) :: st)) : dn_T u g nL Qc (dn_bd md kk) σ pc lv st0 := by
  obtain ⟨p, l, e, R, s, m, args, below, meth, c⟩ := g
  obtain ⟨hx, hb, hml, hown, hts, hlk, hret, hfr, hlo, hC⟩ := X
  intro H locs ls a ha hP hS hl
  cases hmd : md with
  | none => rw [hmd] at ha; cases ha
  | some z =>
    obtain ⟨r, σ1⟩ := z
    have hx1 := hmd
    rw [hmd] at ha
    refine va_calli (hR H locs ls (r, σ1) hmd hP hS hl) hS (fun q _ h => h) (fun q h => h) (fun r' u' t H1 locs1 ht hvm hw hB hz hk hS1 => by obtain ⟨rfl, rfl⟩ := hw; rw [ht] at hB; exact K _ _ hx1 H1 locs1 ls a ha hB hS1 hl)
theorem dt_callV {u : dn_U} {g : dn_M} {cc : ByteArray} {Ts : List Cond} {own : String} {nL fr lo : Nat} {ret : Option FieldType} {α : Type} {Qc : α → Array Value → State → Outcome → State → Prop} {σ : dn_S} {pc : Nat} {lv : List (Nat × Value)} {st : List Value} (X : dn_X u g cc Ts own nL fr lo ret) {md : Option (Unit × dn_S)} {kk : Unit → dn_S → Option α} {st0 : List Value} {arr : Array Value} (hR : dn_R u g nL (dn_QV u) md σ pc lv st0 st arr) (K : ∀ r σ1, md = some (r, σ1) → dn_T u g nL Qc (kk r σ1) σ1 (pc + 3) lv (st)) : dn_T u g nL Qc (dn_bd md kk) σ pc lv st0 := by
  obtain ⟨p, l, e, R, s, m, args, below, meth, c⟩ := g
  obtain ⟨hx, hb, hml, hown, hts, hlk, hret, hfr, hlo, hC⟩ := X
  intro H locs ls a ha hP hS hl
  cases hmd : md with
  | none => rw [hmd] at ha; cases ha
  | some z =>
    obtain ⟨r, σ1⟩ := z
    have hx1 := hmd
    rw [hmd] at ha
    refine va_callv (hR H locs ls (r, σ1) hmd hP hS hl) hS (fun q _ h => h) (fun q h => h) (fun u' t H1 locs1 ht hvm hw hB hz hk hS1 => by cases hw; rw [ht] at hB; exact K _ _ hx1 H1 locs1 ls a ha hB hS1 hl)
theorem dt_callJ {u : dn_U} {g : dn_M} {cc : ByteArray} {Ts : List Cond} {own : String} {nL fr lo : Nat} {ret : Option FieldType} {α : Type} {Qc : α → Array Value → State → Outcome → State → Prop} {σ : dn_S} {pc : Nat} {lv : List (Nat × Value)} {st : List Value} (X : dn_X u g cc Ts own nL fr lo ret) {md : Option (Int64 × dn_S)} {kk : Int64 → dn_S → Option α} {st0 : List Value} {arr : Array Value} (hR : dn_R u g nL (dn_QJ u) md σ pc lv st0 st arr) (K : ∀ r σ1, md = some (r, σ1) → dn_T u g nL Qc (kk r σ1) σ1 (pc + 3) lv (.long r :: st)) : dn_T u g nL Qc (dn_bd md kk) σ pc lv st0 := by
  obtain ⟨p, l, e, R, s, m, args, below, meth, c⟩ := g
  obtain ⟨hx, hb, hml, hown, hts, hlk, hret, hfr, hlo, hC⟩ := X
  intro H locs ls a ha hP hS hl
  cases hmd : md with
  | none => rw [hmd] at ha; cases ha
  | some z =>
    obtain ⟨r, σ1⟩ := z
    have hx1 := hmd
    rw [hmd] at ha
    refine va_calll (hR H locs ls (r, σ1) hmd hP hS hl) hS (fun q _ h => h) (fun q h => h) (fun r' u' t H1 locs1 ht hvm hw hB hz hk hS1 => by obtain ⟨rfl, rfl⟩ := hw; rw [ht] at hB; exact K _ _ hx1 H1 locs1 ls a ha hB hS1 hl)
theorem dt_callR {u : dn_U} {g : dn_M} {cc : ByteArray} {Ts : List Cond} {own : String} {nL fr lo : Nat} {ret : Option FieldType} {α : Type} {Qc : α → Array Value → State → Outcome → State → Prop} {σ : dn_S} {pc : Nat} {lv : List (Nat × Value)} {st : List Value} (X : dn_X u g cc Ts own nL fr lo ret) {k0 : Nat} {md : Option (Unit × dn_S)} {kk : Unit → dn_S → Option α} {st0 : List Value} {arr : Array Value} (hR : dn_R u g nL (dn_QR u k0) md σ pc lv st0 st arr) (K : ∀ r σ1, md = some (r, σ1) → dn_T u g nL Qc (kk r σ1) σ1 (pc + 3) lv (.ref (dn_a u k0) :: st)) : dn_T u g nL Qc (dn_bd md kk) σ pc lv st0 := by
  obtain ⟨p, l, e, R, s, m, args, below, meth, c⟩ := g
  obtain ⟨hx, hb, hml, hown, hts, hlk, hret, hfr, hlo, hC⟩ := X
  intro H locs ls a ha hP hS hl
  cases hmd : md with
  | none => rw [hmd] at ha; cases ha
  | some z =>
    obtain ⟨r, σ1⟩ := z
    have hx1 := hmd
    rw [hmd] at ha
    refine va_callr (hR H locs ls (r, σ1) hmd hP hS hl) hS (fun q _ h => h) (fun q h => h) (fun u' r' t H1 locs1 ht hvm hw hB hz hk hS1 => by cases hw; obtain ⟨rfl, hB⟩ := hB; rw [ht] at hB; exact K _ _ hx1 H1 locs1 ls a ha hB hS1 hl)
theorem dt_mmax {u : dn_U} {g : dn_M} {cc : ByteArray} {Ts : List Cond} {own : String} {nL fr lo : Nat} {ret : Option FieldType} {α : Type} {Qc : α → Array Value → State → Outcome → State → Prop} {mdl : Option α} {σ : dn_S} {pc : Nat} {lv : List (Nat × Value)} {st : List Value} (X : dn_X u g cc Ts own nL fr lo ret) {x y : Int32} {index : Nat} (hl0 : Cond.methodLink own index Lib.Math.max.name ∈ Ts) (hs0 : Cond.static Lib.Math.max.name ∈ Ts) (hi0 : Cond.initialized "java/lang/Math" ∈ Ts) (hc0 : Cond.code Lib.Math.max.name Lib.Math.max.code 2 (some .int) ∈ Ts) (hr1 : Nat.ble 1 fr = true) (hr2 : Nat.ble ((st.map fun v => v.category).sum + 13) lo = true) (hd : decode cc pc = .ok (.invokestatic index, 3)) (K : dn_T u g nL Qc mdl σ (pc + 3) lv (.int (dn_mx x y) :: st)) : dn_T u g nL Qc mdl σ pc lv (.int y :: .int x :: st) := by
  obtain ⟨p, l, e, R, s, m, args, below, meth, c⟩ := g
  obtain ⟨hx, hb, hml, hown, hts, hlk, hret, hfr, hlo, hC⟩ := X
  intro H locs ls a ha hP hS hl
  exact va_mmax hx hb (hml.trans hl.1.symm) hown (hts _ hl0) (hts _ hs0) (hts _ hi0) (hts _ hc0) (by rw [hfr]; exact Nat.le_of_ble_eq_true hr1) (by rw [hlo]; exact Nat.le_of_ble_eq_true hr2) (Nat.zero_le _) (Nat.zero_le _) hd (K H locs ls a ha hP hS hl)
theorem dt_mmin {u : dn_U} {g : dn_M} {cc : ByteArray} {Ts : List Cond} {own : String} {nL fr lo : Nat} {ret : Option FieldType} {α : Type} {Qc : α → Array Value → State → Outcome → State → Prop} {mdl : Option α} {σ : dn_S} {pc : Nat} {lv : List (Nat × Value)} {st : List Value} (X : dn_X u g cc Ts own nL fr lo ret) {x y : Int32} {index : Nat} (hl0 : Cond.methodLink own index Lib.Math.min.name ∈ Ts) (hs0 : Cond.static Lib.Math.min.name ∈ Ts) (hi0 : Cond.initialized "java/lang/Math" ∈ Ts) (hc0 : Cond.code Lib.Math.min.name Lib.Math.min.code 2 (some .int) ∈ Ts) (hr1 : Nat.ble 1 fr = true) (hr2 : Nat.ble ((st.map fun v => v.category).sum + 13) lo = true) (hd : decode cc pc = .ok (.invokestatic index, 3)) (K : dn_T u g nL Qc mdl σ (pc + 3) lv (.int (dn_mn x y) :: st)) : dn_T u g nL Qc mdl σ pc lv (.int y :: .int x :: st) := by
  obtain ⟨p, l, e, R, s, m, args, below, meth, c⟩ := g
  obtain ⟨hx, hb, hml, hown, hts, hlk, hret, hfr, hlo, hC⟩ := X
  intro H locs ls a ha hP hS hl
  exact va_mmin hx hb (hml.trans hl.1.symm) hown (hts _ hl0) (hts _ hs0) (hts _ hi0) (hts _ hc0) (by rw [hfr]; exact Nat.le_of_ble_eq_true hr1) (by rw [hlo]; exact Nat.le_of_ble_eq_true hr2) (Nat.zero_le _) (Nat.zero_le _) hd (K H locs ls a ha hP hS hl)
theorem dt_entry {α : Type} {l : Launch} {u : dn_U} {y : MethodName} {ws ws' : List Cond} {fr lo : Nat} {av : List Value} {σ : dn_S} {mdl : Option α} {Qc : α → Array Value → State → Outcome → State → Prop} {cc : ByteArray} {maxL : Nat} {ret : Option FieldType} (own : String) (lv : List (Nat × Value)) (hy : plainName y.cls = true) (hw : ws = Cond.code y cc maxL ret :: ws') (ho : y.cls = own) (hlv : lv_args 0 av = lv) (hsz : Nat.ble (lg_sl av).length maxL = true)
    (K : ∀ g : dn_M, dn_la g = l → dn_X u g cc ws own maxL fr lo ret → dn_T u g maxL Qc mdl σ 0 lv []) : dn_Met l u y ws fr lo av σ mdl Qc := by
  intro a ha
  refine Met.ofW (cc := cc) (maxL := maxL) (ret := ret) hy hw ?_
  intro p e s m args below meth c s₁ B hml hv
  obtain ⟨rfl, hP, hC⟩ := hv
  have hts := atoms_spec (ws := ws) B.pre
  have hown : s.vm.findClass own = some m.cls := by rw [← ho]; exact findClass_of_methodNamed B.named
  have hl := lv_entry av (n := maxL) (Nat.le_of_ble_eq_true hsz)
  rw [lg_entry_eq]
  generalize (lg_sl av ++ List.replicate (maxL - (lg_sl av).length) Slot.unset).toArray = ls at hl ⊢
  rw [hlv] at hl
  exact K (p, l, e, (headSpec ws { frames := fr, cells := 0, slots := 0, locals := lo }).room, s, m, av.toArray, below, meth, c) rfl ⟨B.exec, B.bytes, hml, hown, hts, B.notSynchronized, B.returns, rfl, rfl, hC⟩ s.heap [] ls a ha hP va_S.rf hl
def dn_LC : List Nat := List.range 89
def dn_LR : List Nat := [100, 101, 102, 103, 104, 105, 106, 107, 108, 109, 110, 111, 112, 113, 114, 115, 116]
def dn_isM (k : Nat) : Prop := dn_k k = 4 ∧ dn_k (k + 1) = 1100 ∧ dn_k (k + 2) = 1004 ∧ dn_k (k + 3) = 1006 ∧ k + 3 < 89
def dn_isT (k : Nat) : Prop := dn_k k = 11 ∧ dn_k (k + 1) = 1028 ∧ dn_k (k + 2) = 1030 ∧ k + 2 < 89
theorem dn_hM {u : dn_U} {k : Nat} (hu : dn_Lu u = dn_LC) (hk : dn_isM k) : dn_has u k (fun σ => .inr (3, [.ref (dn_a u (k + 1)), .ref (dn_a u (k + 2)), .ref (dn_a u (k + 3)), .int (dn_g σ k 3), .int (dn_g σ k 4), .int (dn_g σ k 5), .int (dn_g σ k 6), .int (dn_g σ k 7)])) := ⟨by rw [hu]; exact List.mem_range.mpr (by have h := hk.2.2.2.2; omega), fun σ => by unfold dn_c; rw [hk.1]; rfl⟩
theorem dn_hM1 {u : dn_U} {k : Nat} (hu : dn_Lu u = dn_LC) (hk : dn_isM k) : dn_has u (k + 1) (fun σ => .inl (u.2.2.1.1, 100, .inl (fun j => dn_g σ (k + 1) j))) := ⟨by rw [hu]; exact List.mem_range.mpr (by have h := hk.2.2.2.2; omega), fun σ => by unfold dn_c; rw [hk.2.1]; rfl⟩
theorem dn_hM2 {u : dn_U} {k : Nat} (hu : dn_Lu u = dn_LC) (hk : dn_isM k) : dn_has u (k + 2) (fun σ => .inl (u.2.2.1.1, 4, .inl (fun j => dn_g σ (k + 2) j))) := ⟨by rw [hu]; exact List.mem_range.mpr (by have h := hk.2.2.2.2; omega), fun σ => by unfold dn_c; rw [hk.2.2.1]; rfl⟩
theorem dn_hM3 {u : dn_U} {k : Nat} (hu : dn_Lu u = dn_LC) (hk : dn_isM k) : dn_has u (k + 3) (fun σ => .inl (u.2.2.1.1, 6, .inl (fun j => dn_g σ (k + 3) j))) := ⟨by rw [hu]; exact List.mem_range.mpr (by have h := hk.2.2.2.2; omega), fun σ => by unfold dn_c; rw [hk.2.2.2.1]; rfl⟩
theorem dn_hT {u : dn_U} {k : Nat} (hu : dn_Lu u = dn_LC) (hk : dn_isT k) : dn_has u k (fun σ => .inr (10, [.ref (dn_a u (k + 1)), .ref (dn_a u (k + 2)), .int (dn_g σ k 2), .int (dn_g σ k 3), .int (dn_g σ k 4)])) := ⟨by rw [hu]; exact List.mem_range.mpr (by have h := hk.2.2.2; omega), fun σ => by unfold dn_c; rw [hk.1]; rfl⟩
theorem dn_hT1 {u : dn_U} {k : Nat} (hu : dn_Lu u = dn_LC) (hk : dn_isT k) : dn_has u (k + 1) (fun σ => .inl (u.2.2.1.1, 28, .inl (fun j => dn_g σ (k + 1) j))) := ⟨by rw [hu]; exact List.mem_range.mpr (by have h := hk.2.2.2; omega), fun σ => by unfold dn_c; rw [hk.2.1]; rfl⟩
theorem dn_hT2 {u : dn_U} {k : Nat} (hu : dn_Lu u = dn_LC) (hk : dn_isT k) : dn_has u (k + 2) (fun σ => .inl (u.2.2.1.1, 30, .inl (fun j => dn_g σ (k + 2) j))) := ⟨by rw [hu]; exact List.mem_range.mpr (by have h := hk.2.2.2; omega), fun σ => by unfold dn_c; rw [hk.2.2.1]; rfl⟩
theorem dn_h0 {u : dn_U} (hu : dn_Lu u = dn_LC) : dn_has u 0 (fun σ => .inr (11, [.ref (dn_a u 1), .ref (dn_a u 3), .ref (dn_a u 6), .ref (dn_a u 10), .ref (dn_a u 14), .ref (dn_a u 18), .ref (dn_a u 23), .ref (dn_a u 30), .ref (dn_a u 36), .ref (dn_a u 88)])) := ⟨by rw [hu]; decide, fun σ => rfl⟩
theorem dn_h1 {u : dn_U} (hu : dn_Lu u = dn_LC) : dn_has u 1 (fun σ => .inr (9, [.ref (dn_a u 2), .int (dn_g σ 1 1)])) := ⟨by rw [hu]; decide, fun σ => rfl⟩
theorem dn_h2 {u : dn_U} (hu : dn_Lu u = dn_LC) : dn_has u 2 (fun σ => .inl (u.2.2.1.1, 200, .inl (fun j => dn_g σ 2 j))) := ⟨by rw [hu]; decide, fun σ => rfl⟩
theorem dn_T3 : dn_isT 3 := ⟨rfl, rfl, rfl, by decide⟩
theorem dn_h4 {u : dn_U} (hu : dn_Lu u = dn_LC) : dn_has u 4 (fun σ => .inl (u.2.2.1.1, 28, .inl (fun j => dn_g σ 4 j))) := ⟨by rw [hu]; decide, fun σ => rfl⟩
theorem dn_h5 {u : dn_U} (hu : dn_Lu u = dn_LC) : dn_has u 5 (fun σ => .inl (u.2.2.1.1, 30, .inl (fun j => dn_g σ 5 j))) := ⟨by rw [hu]; decide, fun σ => rfl⟩
theorem dn_h6 {u : dn_U} (hu : dn_Lu u = dn_LC) : dn_has u 6 (fun σ => .inr (8, [.ref (dn_a u 1), .ref (dn_a u 7), .int (dn_g σ 6 2), .int (dn_g σ 6 3), .int (dn_g σ 6 4), .int (dn_g σ 6 5), .int (dn_g σ 6 6)])) := ⟨by rw [hu]; decide, fun σ => rfl⟩
theorem dn_T7 : dn_isT 7 := ⟨rfl, rfl, rfl, by decide⟩
theorem dn_h8 {u : dn_U} (hu : dn_Lu u = dn_LC) : dn_has u 8 (fun σ => .inl (u.2.2.1.1, 28, .inl (fun j => dn_g σ 8 j))) := ⟨by rw [hu]; decide, fun σ => rfl⟩
theorem dn_h9 {u : dn_U} (hu : dn_Lu u = dn_LC) : dn_has u 9 (fun σ => .inl (u.2.2.1.1, 30, .inl (fun j => dn_g σ 9 j))) := ⟨by rw [hu]; decide, fun σ => rfl⟩
theorem dn_M10 : dn_isM 10 := ⟨rfl, rfl, rfl, rfl, by decide⟩
theorem dn_h11 {u : dn_U} (hu : dn_Lu u = dn_LC) : dn_has u 11 (fun σ => .inl (u.2.2.1.1, 100, .inl (fun j => dn_g σ 11 j))) := ⟨by rw [hu]; decide, fun σ => rfl⟩
theorem dn_h12 {u : dn_U} (hu : dn_Lu u = dn_LC) : dn_has u 12 (fun σ => .inl (u.2.2.1.1, 4, .inl (fun j => dn_g σ 12 j))) := ⟨by rw [hu]; decide, fun σ => rfl⟩
theorem dn_h13 {u : dn_U} (hu : dn_Lu u = dn_LC) : dn_has u 13 (fun σ => .inl (u.2.2.1.1, 6, .inl (fun j => dn_g σ 13 j))) := ⟨by rw [hu]; decide, fun σ => rfl⟩
theorem dn_h14 {u : dn_U} (hu : dn_Lu u = dn_LC) : dn_has u 14 (fun σ => .inr (4, [.ref (dn_a u 3), .ref (dn_a u 15), .int (dn_g σ 14 2), .int (dn_g σ 14 3)])) := ⟨by rw [hu]; decide, fun σ => rfl⟩
theorem dn_h15 {u : dn_U} (hu : dn_Lu u = dn_LC) : dn_has u 15 (fun σ => .inr (1, [.ref (dn_a u 16), .ref (dn_a u 17)])) := ⟨by rw [hu]; decide, fun σ => rfl⟩
theorem dn_h16 {u : dn_U} (hu : dn_Lu u = dn_LC) : dn_has u 16 (fun σ => .inl (u.2.2.1.1, 5, .inl (fun j => dn_g σ 16 j))) := ⟨by rw [hu]; decide, fun σ => rfl⟩
theorem dn_h17 {u : dn_U} (hu : dn_Lu u = dn_LC) : dn_has u 17 (fun σ => .inl (u.2.2.1.1, 5, .inl (fun j => dn_g σ 17 j))) := ⟨by rw [hu]; decide, fun σ => rfl⟩
theorem dn_h18 {u : dn_U} (hu : dn_Lu u = dn_LC) : dn_has u 18 (fun σ => .inr (5, [.ref (dn_a u 3), .ref (dn_a u 14), .ref (dn_a u 19)])) := ⟨by rw [hu]; decide, fun σ => rfl⟩
theorem dn_M19 : dn_isM 19 := ⟨rfl, rfl, rfl, rfl, by decide⟩
theorem dn_h20 {u : dn_U} (hu : dn_Lu u = dn_LC) : dn_has u 20 (fun σ => .inl (u.2.2.1.1, 100, .inl (fun j => dn_g σ 20 j))) := ⟨by rw [hu]; decide, fun σ => rfl⟩
theorem dn_h21 {u : dn_U} (hu : dn_Lu u = dn_LC) : dn_has u 21 (fun σ => .inl (u.2.2.1.1, 4, .inl (fun j => dn_g σ 21 j))) := ⟨by rw [hu]; decide, fun σ => rfl⟩
theorem dn_h22 {u : dn_U} (hu : dn_Lu u = dn_LC) : dn_has u 22 (fun σ => .inl (u.2.2.1.1, 6, .inl (fun j => dn_g σ 22 j))) := ⟨by rw [hu]; decide, fun σ => rfl⟩
theorem dn_h23 {u : dn_U} (hu : dn_Lu u = dn_LC) : dn_has u 23 (fun σ => .inr (2, [.ref (dn_a u 3), .ref (dn_a u 14), .ref (dn_a u 24), .ref (dn_a u 28), .ref (dn_a u 29), .int (dn_g σ 23 5)])) := ⟨by rw [hu]; decide, fun σ => rfl⟩
theorem dn_M24 : dn_isM 24 := ⟨rfl, rfl, rfl, rfl, by decide⟩
theorem dn_h25 {u : dn_U} (hu : dn_Lu u = dn_LC) : dn_has u 25 (fun σ => .inl (u.2.2.1.1, 100, .inl (fun j => dn_g σ 25 j))) := ⟨by rw [hu]; decide, fun σ => rfl⟩
theorem dn_h26 {u : dn_U} (hu : dn_Lu u = dn_LC) : dn_has u 26 (fun σ => .inl (u.2.2.1.1, 4, .inl (fun j => dn_g σ 26 j))) := ⟨by rw [hu]; decide, fun σ => rfl⟩
theorem dn_h27 {u : dn_U} (hu : dn_Lu u = dn_LC) : dn_has u 27 (fun σ => .inl (u.2.2.1.1, 6, .inl (fun j => dn_g σ 27 j))) := ⟨by rw [hu]; decide, fun σ => rfl⟩
theorem dn_h28 {u : dn_U} (hu : dn_Lu u = dn_LC) : dn_has u 28 (fun σ => .inl (u.2.2.1.1, 5, .inl (fun j => dn_g σ 28 j))) := ⟨by rw [hu]; decide, fun σ => rfl⟩
theorem dn_h29 {u : dn_U} (hu : dn_Lu u = dn_LC) : dn_has u 29 (fun σ => .inl (u.2.2.1.1, 5, .inl (fun j => dn_g σ 29 j))) := ⟨by rw [hu]; decide, fun σ => rfl⟩
theorem dn_h30 {u : dn_U} (hu : dn_Lu u = dn_LC) : dn_has u 30 (fun σ => .inr (0, [.ref (dn_a u 14), .ref (dn_a u 31), .ref (dn_a u 35), .int (dn_g σ 30 3)])) := ⟨by rw [hu]; decide, fun σ => rfl⟩
theorem dn_M31 : dn_isM 31 := ⟨rfl, rfl, rfl, rfl, by decide⟩
theorem dn_h32 {u : dn_U} (hu : dn_Lu u = dn_LC) : dn_has u 32 (fun σ => .inl (u.2.2.1.1, 100, .inl (fun j => dn_g σ 32 j))) := ⟨by rw [hu]; decide, fun σ => rfl⟩
theorem dn_h33 {u : dn_U} (hu : dn_Lu u = dn_LC) : dn_has u 33 (fun σ => .inl (u.2.2.1.1, 4, .inl (fun j => dn_g σ 33 j))) := ⟨by rw [hu]; decide, fun σ => rfl⟩
theorem dn_h34 {u : dn_U} (hu : dn_Lu u = dn_LC) : dn_has u 34 (fun σ => .inl (u.2.2.1.1, 6, .inl (fun j => dn_g σ 34 j))) := ⟨by rw [hu]; decide, fun σ => rfl⟩
theorem dn_h35 {u : dn_U} (hu : dn_Lu u = dn_LC) : dn_has u 35 (fun σ => .inl (u.2.2.1.1, 8, .inl (fun j => dn_g σ 35 j))) := ⟨by rw [hu]; decide, fun σ => rfl⟩
theorem dn_h36 {u : dn_U} (hu : dn_Lu u = dn_LC) : dn_has u 36 (fun σ => .inr (6, [.ref (dn_a u 37), .ref (dn_a u 38), .ref (dn_a u 39), .int (dn_g σ 36 3), .int (dn_g σ 36 4)])) := ⟨by rw [hu]; decide, fun σ => rfl⟩
theorem dn_h37 {u : dn_U} (hu : dn_Lu u = dn_LC) : dn_has u 37 (fun σ => .inl (u.2.2.1.2.2, 10, .inr (.inr (.inr (.inr (fun j => some (dn_a u (dn_rb 37 + 4 * j)))))))) := ⟨by rw [hu]; decide, fun σ => rfl⟩
theorem dn_h38 {u : dn_U} (hu : dn_Lu u = dn_LC) : dn_has u 38 (fun σ => .inl (u.2.2.1.2.2, 2, .inr (.inr (.inr (.inr (fun j => some (dn_a u (dn_rb 38 + 4 * j)))))))) := ⟨by rw [hu]; decide, fun σ => rfl⟩
theorem dn_h39 {u : dn_U} (hu : dn_Lu u = dn_LC) : dn_has u 39 (fun σ => .inl (u.2.2.1.2.1, 2, .inl (fun j => dn_g σ 39 j))) := ⟨by rw [hu]; decide, fun σ => rfl⟩
theorem dn_M40 : dn_isM 40 := ⟨rfl, rfl, rfl, rfl, by decide⟩
theorem dn_M44 : dn_isM 44 := ⟨rfl, rfl, rfl, rfl, by decide⟩
theorem dn_M48 : dn_isM 48 := ⟨rfl, rfl, rfl, rfl, by decide⟩
theorem dn_M52 : dn_isM 52 := ⟨rfl, rfl, rfl, rfl, by decide⟩
theorem dn_M56 : dn_isM 56 := ⟨rfl, rfl, rfl, rfl, by decide⟩
theorem dn_M60 : dn_isM 60 := ⟨rfl, rfl, rfl, rfl, by decide⟩
theorem dn_M64 : dn_isM 64 := ⟨rfl, rfl, rfl, rfl, by decide⟩
theorem dn_M68 : dn_isM 68 := ⟨rfl, rfl, rfl, rfl, by decide⟩
theorem dn_M72 : dn_isM 72 := ⟨rfl, rfl, rfl, rfl, by decide⟩
theorem dn_M76 : dn_isM 76 := ⟨rfl, rfl, rfl, rfl, by decide⟩
theorem dn_M80 : dn_isM 80 := ⟨rfl, rfl, rfl, rfl, by decide⟩
theorem dn_M84 : dn_isM 84 := ⟨rfl, rfl, rfl, rfl, by decide⟩
theorem dn_h88 {u : dn_U} (hu : dn_Lu u = dn_LC) : dn_has u 88 (fun σ => .inr (7, [.ref (dn_a u 3), .ref (dn_a u 10), .long (dn_l σ)])) := ⟨by rw [hu]; decide, fun σ => rfl⟩
theorem dn_h100 {u : dn_U} (hu : dn_Lu u = dn_LR) : dn_has u 100 (fun σ => .inr (12, [.ref (dn_a u 101), .int (dn_g σ 100 1), .ref (dn_a u 102), .int (dn_g σ 100 3), .ref (dn_a u 103), .ref (dn_a u 104), .ref (dn_a u 105), .int (dn_g σ 100 7), .int (dn_g σ 100 8), .ref (dn_a u 106), .int (dn_g σ 100 10), .ref (dn_a u 107), .ref (dn_a u 108), .int (dn_g σ 100 13), .ref (dn_a u 109), .long (dn_l σ), .ref (dn_a u 110), .int (dn_g σ 100 17), .int (dn_g σ 100 18), .int (dn_g σ 100 19), .int (dn_g σ 100 20), .int (dn_g σ 100 21), .int (dn_g σ 100 22), .ref (dn_a u 111), .ref (dn_a u 112), .ref (dn_a u 113), .int (dn_g σ 100 26), .int (dn_g σ 100 27), .int (dn_g σ 100 28), .ref (dn_a u 114), .ref (dn_a u 115), .ref (dn_a u 116), .int (dn_g σ 100 32), .int (dn_g σ 100 33), .int (dn_g σ 100 34)])) := ⟨by rw [hu]; decide, fun σ => rfl⟩
theorem dn_h101 {u : dn_U} (hu : dn_Lu u = dn_LR) : dn_has u 101 (fun σ => .inl (u.2.2.1.1, 1680, .inl (fun j => dn_g σ 101 j))) := ⟨by rw [hu]; decide, fun σ => rfl⟩
theorem dn_h102 {u : dn_U} (hu : dn_Lu u = dn_LR) : dn_has u 102 (fun σ => .inl (u.2.2.1.2.1, 2, .inl (fun j => dn_g σ 102 j))) := ⟨by rw [hu]; decide, fun σ => rfl⟩
theorem dn_h103 {u : dn_U} (hu : dn_Lu u = dn_LR) : dn_has u 103 (fun σ => .inl (u.2.2.1.1, 4, .inl (fun j => dn_g σ 103 j))) := ⟨by rw [hu]; decide, fun σ => rfl⟩
theorem dn_h104 {u : dn_U} (hu : dn_Lu u = dn_LR) : dn_has u 104 (fun σ => .inl (u.2.2.1.1, 4, .inl (fun j => dn_g σ 104 j))) := ⟨by rw [hu]; decide, fun σ => rfl⟩
theorem dn_h105 {u : dn_U} (hu : dn_Lu u = dn_LR) : dn_has u 105 (fun σ => .inl (u.2.2.1.1, 20, .inl (fun j => dn_g σ 105 j))) := ⟨by rw [hu]; decide, fun σ => rfl⟩
theorem dn_h106 {u : dn_U} (hu : dn_Lu u = dn_LR) : dn_has u 106 (fun σ => .inl (u.2.2.1.1, 30, .inl (fun j => dn_g σ 106 j))) := ⟨by rw [hu]; decide, fun σ => rfl⟩
theorem dn_h107 {u : dn_U} (hu : dn_Lu u = dn_LR) : dn_has u 107 (fun σ => .inl (u.2.2.1.1, 5, .inl (fun j => dn_g σ 107 j))) := ⟨by rw [hu]; decide, fun σ => rfl⟩
theorem dn_h108 {u : dn_U} (hu : dn_Lu u = dn_LR) : dn_has u 108 (fun σ => .inl (u.2.2.1.1, 5, .inl (fun j => dn_g σ 108 j))) := ⟨by rw [hu]; decide, fun σ => rfl⟩
theorem dn_h109 {u : dn_U} (hu : dn_Lu u = dn_LR) : dn_has u 109 (fun σ => .inl (u.2.2.1.1, 8, .inl (fun j => dn_g σ 109 j))) := ⟨by rw [hu]; decide, fun σ => rfl⟩
theorem dn_h110 {u : dn_U} (hu : dn_Lu u = dn_LR) : dn_has u 110 (fun σ => .inl (u.2.2.1.1, 200, .inl (fun j => dn_g σ 110 j))) := ⟨by rw [hu]; decide, fun σ => rfl⟩
theorem dn_h111 {u : dn_U} (hu : dn_Lu u = dn_LR) : dn_has u 111 (fun σ => .inl (u.2.2.1.1, 4, .inl (fun j => dn_g σ 111 j))) := ⟨by rw [hu]; decide, fun σ => rfl⟩
theorem dn_h112 {u : dn_U} (hu : dn_Lu u = dn_LR) : dn_has u 112 (fun σ => .inl (u.2.2.1.1, 4, .inl (fun j => dn_g σ 112 j))) := ⟨by rw [hu]; decide, fun σ => rfl⟩
theorem dn_h113 {u : dn_U} (hu : dn_Lu u = dn_LR) : dn_has u 113 (fun σ => .inl (u.2.2.1.1, 20, .inl (fun j => dn_g σ 113 j))) := ⟨by rw [hu]; decide, fun σ => rfl⟩
theorem dn_h114 {u : dn_U} (hu : dn_Lu u = dn_LR) : dn_has u 114 (fun σ => .inl (u.2.2.1.1, 30, .inl (fun j => dn_g σ 114 j))) := ⟨by rw [hu]; decide, fun σ => rfl⟩
theorem dn_h115 {u : dn_U} (hu : dn_Lu u = dn_LR) : dn_has u 115 (fun σ => .inl (u.2.2.1.1, 5, .inl (fun j => dn_g σ 115 j))) := ⟨by rw [hu]; decide, fun σ => rfl⟩
theorem dn_h116 {u : dn_U} (hu : dn_Lu u = dn_LR) : dn_has u 116 (fun σ => .inl (u.2.2.1.1, 5, .inl (fun j => dn_g σ 116 j))) := ⟨by rw [hu]; decide, fun σ => rfl⟩
theorem dn_setq88 (u : dn_U) (σ : dn_S) (v : Int64) : (.inr (7, [.ref (dn_a u 3), .ref (dn_a u 10), .long (dn_l (dn_q σ v))]) : va_E) = .inr (7, ([.ref (dn_a u 3), .ref (dn_a u 10), .long (dn_l σ)] : List Value).set 2 (.long v)) := rfl
theorem dn_setq100 (u : dn_U) (σ : dn_S) (v : Int64) : (.inr (12, [.ref (dn_a u 101), .int (dn_g (dn_q σ v) 100 1), .ref (dn_a u 102), .int (dn_g (dn_q σ v) 100 3), .ref (dn_a u 103), .ref (dn_a u 104), .ref (dn_a u 105), .int (dn_g (dn_q σ v) 100 7), .int (dn_g (dn_q σ v) 100 8), .ref (dn_a u 106), .int (dn_g (dn_q σ v) 100 10), .ref (dn_a u 107), .ref (dn_a u 108), .int (dn_g (dn_q σ v) 100 13), .ref (dn_a u 109), .long (dn_l (dn_q σ v)), .ref (dn_a u 110), .int (dn_g (dn_q σ v) 100 17), .int (dn_g (dn_q σ v) 100 18), .int (dn_g (dn_q σ v) 100 19), .int (dn_g (dn_q σ v) 100 20), .int (dn_g (dn_q σ v) 100 21), .int (dn_g (dn_q σ v) 100 22), .ref (dn_a u 111), .ref (dn_a u 112), .ref (dn_a u 113), .int (dn_g (dn_q σ v) 100 26), .int (dn_g (dn_q σ v) 100 27), .int (dn_g (dn_q σ v) 100 28), .ref (dn_a u 114), .ref (dn_a u 115), .ref (dn_a u 116), .int (dn_g (dn_q σ v) 100 32), .int (dn_g (dn_q σ v) 100 33), .int (dn_g (dn_q σ v) 100 34)]) : va_E) = .inr (12, ([.ref (dn_a u 101), .int (dn_g σ 100 1), .ref (dn_a u 102), .int (dn_g σ 100 3), .ref (dn_a u 103), .ref (dn_a u 104), .ref (dn_a u 105), .int (dn_g σ 100 7), .int (dn_g σ 100 8), .ref (dn_a u 106), .int (dn_g σ 100 10), .ref (dn_a u 107), .ref (dn_a u 108), .int (dn_g σ 100 13), .ref (dn_a u 109), .long (dn_l σ), .ref (dn_a u 110), .int (dn_g σ 100 17), .int (dn_g σ 100 18), .int (dn_g σ 100 19), .int (dn_g σ 100 20), .int (dn_g σ 100 21), .int (dn_g σ 100 22), .ref (dn_a u 111), .ref (dn_a u 112), .ref (dn_a u 113), .int (dn_g σ 100 26), .int (dn_g σ 100 27), .int (dn_g σ 100 28), .ref (dn_a u 114), .ref (dn_a u 115), .ref (dn_a u 116), .int (dn_g σ 100 32), .int (dn_g σ 100 33), .int (dn_g σ 100 34)] : List Value).set 15 (.long v)) := rfl
theorem dn_setM_3 (u : dn_U) (σ : dn_S) (k : Nat) (v : Int32) : (.inr (3, [.ref (dn_a u (k + 1)), .ref (dn_a u (k + 2)), .ref (dn_a u (k + 3)), .int (dn_g (dn_p σ k 3 v) k 3), .int (dn_g (dn_p σ k 3 v) k 4), .int (dn_g (dn_p σ k 3 v) k 5), .int (dn_g (dn_p σ k 3 v) k 6), .int (dn_g (dn_p σ k 3 v) k 7)]) : va_E) = .inr (3, ([.ref (dn_a u (k + 1)), .ref (dn_a u (k + 2)), .ref (dn_a u (k + 3)), .int (dn_g σ k 3), .int (dn_g σ k 4), .int (dn_g σ k 5), .int (dn_g σ k 6), .int (dn_g σ k 7)] : List Value).set 3 (.int v)) := by simp [dn_g_p, dn_l_p]
theorem dn_setM_4 (u : dn_U) (σ : dn_S) (k : Nat) (v : Int32) : (.inr (3, [.ref (dn_a u (k + 1)), .ref (dn_a u (k + 2)), .ref (dn_a u (k + 3)), .int (dn_g (dn_p σ k 4 v) k 3), .int (dn_g (dn_p σ k 4 v) k 4), .int (dn_g (dn_p σ k 4 v) k 5), .int (dn_g (dn_p σ k 4 v) k 6), .int (dn_g (dn_p σ k 4 v) k 7)]) : va_E) = .inr (3, ([.ref (dn_a u (k + 1)), .ref (dn_a u (k + 2)), .ref (dn_a u (k + 3)), .int (dn_g σ k 3), .int (dn_g σ k 4), .int (dn_g σ k 5), .int (dn_g σ k 6), .int (dn_g σ k 7)] : List Value).set 4 (.int v)) := by simp [dn_g_p, dn_l_p]
theorem dn_setM_5 (u : dn_U) (σ : dn_S) (k : Nat) (v : Int32) : (.inr (3, [.ref (dn_a u (k + 1)), .ref (dn_a u (k + 2)), .ref (dn_a u (k + 3)), .int (dn_g (dn_p σ k 5 v) k 3), .int (dn_g (dn_p σ k 5 v) k 4), .int (dn_g (dn_p σ k 5 v) k 5), .int (dn_g (dn_p σ k 5 v) k 6), .int (dn_g (dn_p σ k 5 v) k 7)]) : va_E) = .inr (3, ([.ref (dn_a u (k + 1)), .ref (dn_a u (k + 2)), .ref (dn_a u (k + 3)), .int (dn_g σ k 3), .int (dn_g σ k 4), .int (dn_g σ k 5), .int (dn_g σ k 6), .int (dn_g σ k 7)] : List Value).set 5 (.int v)) := by simp [dn_g_p, dn_l_p]
theorem dn_setM_6 (u : dn_U) (σ : dn_S) (k : Nat) (v : Int32) : (.inr (3, [.ref (dn_a u (k + 1)), .ref (dn_a u (k + 2)), .ref (dn_a u (k + 3)), .int (dn_g (dn_p σ k 6 v) k 3), .int (dn_g (dn_p σ k 6 v) k 4), .int (dn_g (dn_p σ k 6 v) k 5), .int (dn_g (dn_p σ k 6 v) k 6), .int (dn_g (dn_p σ k 6 v) k 7)]) : va_E) = .inr (3, ([.ref (dn_a u (k + 1)), .ref (dn_a u (k + 2)), .ref (dn_a u (k + 3)), .int (dn_g σ k 3), .int (dn_g σ k 4), .int (dn_g σ k 5), .int (dn_g σ k 6), .int (dn_g σ k 7)] : List Value).set 6 (.int v)) := by simp [dn_g_p, dn_l_p]
theorem dn_setM_7 (u : dn_U) (σ : dn_S) (k : Nat) (v : Int32) : (.inr (3, [.ref (dn_a u (k + 1)), .ref (dn_a u (k + 2)), .ref (dn_a u (k + 3)), .int (dn_g (dn_p σ k 7 v) k 3), .int (dn_g (dn_p σ k 7 v) k 4), .int (dn_g (dn_p σ k 7 v) k 5), .int (dn_g (dn_p σ k 7 v) k 6), .int (dn_g (dn_p σ k 7 v) k 7)]) : va_E) = .inr (3, ([.ref (dn_a u (k + 1)), .ref (dn_a u (k + 2)), .ref (dn_a u (k + 3)), .int (dn_g σ k 3), .int (dn_g σ k 4), .int (dn_g σ k 5), .int (dn_g σ k 6), .int (dn_g σ k 7)] : List Value).set 7 (.int v)) := by simp [dn_g_p, dn_l_p]
theorem dn_setT_2 (u : dn_U) (σ : dn_S) (k : Nat) (v : Int32) : (.inr (10, [.ref (dn_a u (k + 1)), .ref (dn_a u (k + 2)), .int (dn_g (dn_p σ k 2 v) k 2), .int (dn_g (dn_p σ k 2 v) k 3), .int (dn_g (dn_p σ k 2 v) k 4)]) : va_E) = .inr (10, ([.ref (dn_a u (k + 1)), .ref (dn_a u (k + 2)), .int (dn_g σ k 2), .int (dn_g σ k 3), .int (dn_g σ k 4)] : List Value).set 2 (.int v)) := by simp [dn_g_p, dn_l_p]
theorem dn_setT_3 (u : dn_U) (σ : dn_S) (k : Nat) (v : Int32) : (.inr (10, [.ref (dn_a u (k + 1)), .ref (dn_a u (k + 2)), .int (dn_g (dn_p σ k 3 v) k 2), .int (dn_g (dn_p σ k 3 v) k 3), .int (dn_g (dn_p σ k 3 v) k 4)]) : va_E) = .inr (10, ([.ref (dn_a u (k + 1)), .ref (dn_a u (k + 2)), .int (dn_g σ k 2), .int (dn_g σ k 3), .int (dn_g σ k 4)] : List Value).set 3 (.int v)) := by simp [dn_g_p, dn_l_p]
theorem dn_setT_4 (u : dn_U) (σ : dn_S) (k : Nat) (v : Int32) : (.inr (10, [.ref (dn_a u (k + 1)), .ref (dn_a u (k + 2)), .int (dn_g (dn_p σ k 4 v) k 2), .int (dn_g (dn_p σ k 4 v) k 3), .int (dn_g (dn_p σ k 4 v) k 4)]) : va_E) = .inr (10, ([.ref (dn_a u (k + 1)), .ref (dn_a u (k + 2)), .int (dn_g σ k 2), .int (dn_g σ k 3), .int (dn_g σ k 4)] : List Value).set 4 (.int v)) := by simp [dn_g_p, dn_l_p]
theorem dn_set1_1 (u : dn_U) (σ : dn_S) (v : Int32) : (.inr (9, [.ref (dn_a u 2), .int (dn_g (dn_p σ 1 1 v) 1 1)]) : va_E) = .inr (9, ([.ref (dn_a u 2), .int (dn_g σ 1 1)] : List Value).set 1 (.int v)) := by simp [dn_g_p, dn_l_p]
theorem dn_set6_2 (u : dn_U) (σ : dn_S) (v : Int32) : (.inr (8, [.ref (dn_a u 1), .ref (dn_a u 7), .int (dn_g (dn_p σ 6 2 v) 6 2), .int (dn_g (dn_p σ 6 2 v) 6 3), .int (dn_g (dn_p σ 6 2 v) 6 4), .int (dn_g (dn_p σ 6 2 v) 6 5), .int (dn_g (dn_p σ 6 2 v) 6 6)]) : va_E) = .inr (8, ([.ref (dn_a u 1), .ref (dn_a u 7), .int (dn_g σ 6 2), .int (dn_g σ 6 3), .int (dn_g σ 6 4), .int (dn_g σ 6 5), .int (dn_g σ 6 6)] : List Value).set 2 (.int v)) := by simp [dn_g_p, dn_l_p]
theorem dn_set6_3 (u : dn_U) (σ : dn_S) (v : Int32) : (.inr (8, [.ref (dn_a u 1), .ref (dn_a u 7), .int (dn_g (dn_p σ 6 3 v) 6 2), .int (dn_g (dn_p σ 6 3 v) 6 3), .int (dn_g (dn_p σ 6 3 v) 6 4), .int (dn_g (dn_p σ 6 3 v) 6 5), .int (dn_g (dn_p σ 6 3 v) 6 6)]) : va_E) = .inr (8, ([.ref (dn_a u 1), .ref (dn_a u 7), .int (dn_g σ 6 2), .int (dn_g σ 6 3), .int (dn_g σ 6 4), .int (dn_g σ 6 5), .int (dn_g σ 6 6)] : List Value).set 3 (.int v)) := by simp [dn_g_p, dn_l_p]
theorem dn_set6_4 (u : dn_U) (σ : dn_S) (v : Int32) : (.inr (8, [.ref (dn_a u 1), .ref (dn_a u 7), .int (dn_g (dn_p σ 6 4 v) 6 2), .int (dn_g (dn_p σ 6 4 v) 6 3), .int (dn_g (dn_p σ 6 4 v) 6 4), .int (dn_g (dn_p σ 6 4 v) 6 5), .int (dn_g (dn_p σ 6 4 v) 6 6)]) : va_E) = .inr (8, ([.ref (dn_a u 1), .ref (dn_a u 7), .int (dn_g σ 6 2), .int (dn_g σ 6 3), .int (dn_g σ 6 4), .int (dn_g σ 6 5), .int (dn_g σ 6 6)] : List Value).set 4 (.int v)) := by simp [dn_g_p, dn_l_p]
theorem dn_set6_5 (u : dn_U) (σ : dn_S) (v : Int32) : (.inr (8, [.ref (dn_a u 1), .ref (dn_a u 7), .int (dn_g (dn_p σ 6 5 v) 6 2), .int (dn_g (dn_p σ 6 5 v) 6 3), .int (dn_g (dn_p σ 6 5 v) 6 4), .int (dn_g (dn_p σ 6 5 v) 6 5), .int (dn_g (dn_p σ 6 5 v) 6 6)]) : va_E) = .inr (8, ([.ref (dn_a u 1), .ref (dn_a u 7), .int (dn_g σ 6 2), .int (dn_g σ 6 3), .int (dn_g σ 6 4), .int (dn_g σ 6 5), .int (dn_g σ 6 6)] : List Value).set 5 (.int v)) := by simp [dn_g_p, dn_l_p]
theorem dn_set6_6 (u : dn_U) (σ : dn_S) (v : Int32) : (.inr (8, [.ref (dn_a u 1), .ref (dn_a u 7), .int (dn_g (dn_p σ 6 6 v) 6 2), .int (dn_g (dn_p σ 6 6 v) 6 3), .int (dn_g (dn_p σ 6 6 v) 6 4), .int (dn_g (dn_p σ 6 6 v) 6 5), .int (dn_g (dn_p σ 6 6 v) 6 6)]) : va_E) = .inr (8, ([.ref (dn_a u 1), .ref (dn_a u 7), .int (dn_g σ 6 2), .int (dn_g σ 6 3), .int (dn_g σ 6 4), .int (dn_g σ 6 5), .int (dn_g σ 6 6)] : List Value).set 6 (.int v)) := by simp [dn_g_p, dn_l_p]
theorem dn_set14_2 (u : dn_U) (σ : dn_S) (v : Int32) : (.inr (4, [.ref (dn_a u 3), .ref (dn_a u 15), .int (dn_g (dn_p σ 14 2 v) 14 2), .int (dn_g (dn_p σ 14 2 v) 14 3)]) : va_E) = .inr (4, ([.ref (dn_a u 3), .ref (dn_a u 15), .int (dn_g σ 14 2), .int (dn_g σ 14 3)] : List Value).set 2 (.int v)) := by simp [dn_g_p, dn_l_p]
theorem dn_set14_3 (u : dn_U) (σ : dn_S) (v : Int32) : (.inr (4, [.ref (dn_a u 3), .ref (dn_a u 15), .int (dn_g (dn_p σ 14 3 v) 14 2), .int (dn_g (dn_p σ 14 3 v) 14 3)]) : va_E) = .inr (4, ([.ref (dn_a u 3), .ref (dn_a u 15), .int (dn_g σ 14 2), .int (dn_g σ 14 3)] : List Value).set 3 (.int v)) := by simp [dn_g_p, dn_l_p]
theorem dn_set23_5 (u : dn_U) (σ : dn_S) (v : Int32) : (.inr (2, [.ref (dn_a u 3), .ref (dn_a u 14), .ref (dn_a u 24), .ref (dn_a u 28), .ref (dn_a u 29), .int (dn_g (dn_p σ 23 5 v) 23 5)]) : va_E) = .inr (2, ([.ref (dn_a u 3), .ref (dn_a u 14), .ref (dn_a u 24), .ref (dn_a u 28), .ref (dn_a u 29), .int (dn_g σ 23 5)] : List Value).set 5 (.int v)) := by simp [dn_g_p, dn_l_p]
theorem dn_set30_3 (u : dn_U) (σ : dn_S) (v : Int32) : (.inr (0, [.ref (dn_a u 14), .ref (dn_a u 31), .ref (dn_a u 35), .int (dn_g (dn_p σ 30 3 v) 30 3)]) : va_E) = .inr (0, ([.ref (dn_a u 14), .ref (dn_a u 31), .ref (dn_a u 35), .int (dn_g σ 30 3)] : List Value).set 3 (.int v)) := by simp [dn_g_p, dn_l_p]
theorem dn_set36_3 (u : dn_U) (σ : dn_S) (v : Int32) : (.inr (6, [.ref (dn_a u 37), .ref (dn_a u 38), .ref (dn_a u 39), .int (dn_g (dn_p σ 36 3 v) 36 3), .int (dn_g (dn_p σ 36 3 v) 36 4)]) : va_E) = .inr (6, ([.ref (dn_a u 37), .ref (dn_a u 38), .ref (dn_a u 39), .int (dn_g σ 36 3), .int (dn_g σ 36 4)] : List Value).set 3 (.int v)) := by simp [dn_g_p, dn_l_p]
theorem dn_set36_4 (u : dn_U) (σ : dn_S) (v : Int32) : (.inr (6, [.ref (dn_a u 37), .ref (dn_a u 38), .ref (dn_a u 39), .int (dn_g (dn_p σ 36 4 v) 36 3), .int (dn_g (dn_p σ 36 4 v) 36 4)]) : va_E) = .inr (6, ([.ref (dn_a u 37), .ref (dn_a u 38), .ref (dn_a u 39), .int (dn_g σ 36 3), .int (dn_g σ 36 4)] : List Value).set 4 (.int v)) := by simp [dn_g_p, dn_l_p]
theorem dn_set100_1 (u : dn_U) (σ : dn_S) (v : Int32) : (.inr (12, [.ref (dn_a u 101), .int (dn_g (dn_p σ 100 1 v) 100 1), .ref (dn_a u 102), .int (dn_g (dn_p σ 100 1 v) 100 3), .ref (dn_a u 103), .ref (dn_a u 104), .ref (dn_a u 105), .int (dn_g (dn_p σ 100 1 v) 100 7), .int (dn_g (dn_p σ 100 1 v) 100 8), .ref (dn_a u 106), .int (dn_g (dn_p σ 100 1 v) 100 10), .ref (dn_a u 107), .ref (dn_a u 108), .int (dn_g (dn_p σ 100 1 v) 100 13), .ref (dn_a u 109), .long (dn_l (dn_p σ 100 1 v)), .ref (dn_a u 110), .int (dn_g (dn_p σ 100 1 v) 100 17), .int (dn_g (dn_p σ 100 1 v) 100 18), .int (dn_g (dn_p σ 100 1 v) 100 19), .int (dn_g (dn_p σ 100 1 v) 100 20), .int (dn_g (dn_p σ 100 1 v) 100 21), .int (dn_g (dn_p σ 100 1 v) 100 22), .ref (dn_a u 111), .ref (dn_a u 112), .ref (dn_a u 113), .int (dn_g (dn_p σ 100 1 v) 100 26), .int (dn_g (dn_p σ 100 1 v) 100 27), .int (dn_g (dn_p σ 100 1 v) 100 28), .ref (dn_a u 114), .ref (dn_a u 115), .ref (dn_a u 116), .int (dn_g (dn_p σ 100 1 v) 100 32), .int (dn_g (dn_p σ 100 1 v) 100 33), .int (dn_g (dn_p σ 100 1 v) 100 34)]) : va_E) = .inr (12, ([.ref (dn_a u 101), .int (dn_g σ 100 1), .ref (dn_a u 102), .int (dn_g σ 100 3), .ref (dn_a u 103), .ref (dn_a u 104), .ref (dn_a u 105), .int (dn_g σ 100 7), .int (dn_g σ 100 8), .ref (dn_a u 106), .int (dn_g σ 100 10), .ref (dn_a u 107), .ref (dn_a u 108), .int (dn_g σ 100 13), .ref (dn_a u 109), .long (dn_l σ), .ref (dn_a u 110), .int (dn_g σ 100 17), .int (dn_g σ 100 18), .int (dn_g σ 100 19), .int (dn_g σ 100 20), .int (dn_g σ 100 21), .int (dn_g σ 100 22), .ref (dn_a u 111), .ref (dn_a u 112), .ref (dn_a u 113), .int (dn_g σ 100 26), .int (dn_g σ 100 27), .int (dn_g σ 100 28), .ref (dn_a u 114), .ref (dn_a u 115), .ref (dn_a u 116), .int (dn_g σ 100 32), .int (dn_g σ 100 33), .int (dn_g σ 100 34)] : List Value).set 1 (.int v)) := by simp [dn_g_p, dn_l_p]
theorem dn_set100_3 (u : dn_U) (σ : dn_S) (v : Int32) : (.inr (12, [.ref (dn_a u 101), .int (dn_g (dn_p σ 100 3 v) 100 1), .ref (dn_a u 102), .int (dn_g (dn_p σ 100 3 v) 100 3), .ref (dn_a u 103), .ref (dn_a u 104), .ref (dn_a u 105), .int (dn_g (dn_p σ 100 3 v) 100 7), .int (dn_g (dn_p σ 100 3 v) 100 8), .ref (dn_a u 106), .int (dn_g (dn_p σ 100 3 v) 100 10), .ref (dn_a u 107), .ref (dn_a u 108), .int (dn_g (dn_p σ 100 3 v) 100 13), .ref (dn_a u 109), .long (dn_l (dn_p σ 100 3 v)), .ref (dn_a u 110), .int (dn_g (dn_p σ 100 3 v) 100 17), .int (dn_g (dn_p σ 100 3 v) 100 18), .int (dn_g (dn_p σ 100 3 v) 100 19), .int (dn_g (dn_p σ 100 3 v) 100 20), .int (dn_g (dn_p σ 100 3 v) 100 21), .int (dn_g (dn_p σ 100 3 v) 100 22), .ref (dn_a u 111), .ref (dn_a u 112), .ref (dn_a u 113), .int (dn_g (dn_p σ 100 3 v) 100 26), .int (dn_g (dn_p σ 100 3 v) 100 27), .int (dn_g (dn_p σ 100 3 v) 100 28), .ref (dn_a u 114), .ref (dn_a u 115), .ref (dn_a u 116), .int (dn_g (dn_p σ 100 3 v) 100 32), .int (dn_g (dn_p σ 100 3 v) 100 33), .int (dn_g (dn_p σ 100 3 v) 100 34)]) : va_E) = .inr (12, ([.ref (dn_a u 101), .int (dn_g σ 100 1), .ref (dn_a u 102), .int (dn_g σ 100 3), .ref (dn_a u 103), .ref (dn_a u 104), .ref (dn_a u 105), .int (dn_g σ 100 7), .int (dn_g σ 100 8), .ref (dn_a u 106), .int (dn_g σ 100 10), .ref (dn_a u 107), .ref (dn_a u 108), .int (dn_g σ 100 13), .ref (dn_a u 109), .long (dn_l σ), .ref (dn_a u 110), .int (dn_g σ 100 17), .int (dn_g σ 100 18), .int (dn_g σ 100 19), .int (dn_g σ 100 20), .int (dn_g σ 100 21), .int (dn_g σ 100 22), .ref (dn_a u 111), .ref (dn_a u 112), .ref (dn_a u 113), .int (dn_g σ 100 26), .int (dn_g σ 100 27), .int (dn_g σ 100 28), .ref (dn_a u 114), .ref (dn_a u 115), .ref (dn_a u 116), .int (dn_g σ 100 32), .int (dn_g σ 100 33), .int (dn_g σ 100 34)] : List Value).set 3 (.int v)) := by simp [dn_g_p, dn_l_p]
theorem dn_set100_7 (u : dn_U) (σ : dn_S) (v : Int32) : (.inr (12, [.ref (dn_a u 101), .int (dn_g (dn_p σ 100 7 v) 100 1), .ref (dn_a u 102), .int (dn_g (dn_p σ 100 7 v) 100 3), .ref (dn_a u 103), .ref (dn_a u 104), .ref (dn_a u 105), .int (dn_g (dn_p σ 100 7 v) 100 7), .int (dn_g (dn_p σ 100 7 v) 100 8), .ref (dn_a u 106), .int (dn_g (dn_p σ 100 7 v) 100 10), .ref (dn_a u 107), .ref (dn_a u 108), .int (dn_g (dn_p σ 100 7 v) 100 13), .ref (dn_a u 109), .long (dn_l (dn_p σ 100 7 v)), .ref (dn_a u 110), .int (dn_g (dn_p σ 100 7 v) 100 17), .int (dn_g (dn_p σ 100 7 v) 100 18), .int (dn_g (dn_p σ 100 7 v) 100 19), .int (dn_g (dn_p σ 100 7 v) 100 20), .int (dn_g (dn_p σ 100 7 v) 100 21), .int (dn_g (dn_p σ 100 7 v) 100 22), .ref (dn_a u 111), .ref (dn_a u 112), .ref (dn_a u 113), .int (dn_g (dn_p σ 100 7 v) 100 26), .int (dn_g (dn_p σ 100 7 v) 100 27), .int (dn_g (dn_p σ 100 7 v) 100 28), .ref (dn_a u 114), .ref (dn_a u 115), .ref (dn_a u 116), .int (dn_g (dn_p σ 100 7 v) 100 32), .int (dn_g (dn_p σ 100 7 v) 100 33), .int (dn_g (dn_p σ 100 7 v) 100 34)]) : va_E) = .inr (12, ([.ref (dn_a u 101), .int (dn_g σ 100 1), .ref (dn_a u 102), .int (dn_g σ 100 3), .ref (dn_a u 103), .ref (dn_a u 104), .ref (dn_a u 105), .int (dn_g σ 100 7), .int (dn_g σ 100 8), .ref (dn_a u 106), .int (dn_g σ 100 10), .ref (dn_a u 107), .ref (dn_a u 108), .int (dn_g σ 100 13), .ref (dn_a u 109), .long (dn_l σ), .ref (dn_a u 110), .int (dn_g σ 100 17), .int (dn_g σ 100 18), .int (dn_g σ 100 19), .int (dn_g σ 100 20), .int (dn_g σ 100 21), .int (dn_g σ 100 22), .ref (dn_a u 111), .ref (dn_a u 112), .ref (dn_a u 113), .int (dn_g σ 100 26), .int (dn_g σ 100 27), .int (dn_g σ 100 28), .ref (dn_a u 114), .ref (dn_a u 115), .ref (dn_a u 116), .int (dn_g σ 100 32), .int (dn_g σ 100 33), .int (dn_g σ 100 34)] : List Value).set 7 (.int v)) := by simp [dn_g_p, dn_l_p]
theorem dn_set100_8 (u : dn_U) (σ : dn_S) (v : Int32) : (.inr (12, [.ref (dn_a u 101), .int (dn_g (dn_p σ 100 8 v) 100 1), .ref (dn_a u 102), .int (dn_g (dn_p σ 100 8 v) 100 3), .ref (dn_a u 103), .ref (dn_a u 104), .ref (dn_a u 105), .int (dn_g (dn_p σ 100 8 v) 100 7), .int (dn_g (dn_p σ 100 8 v) 100 8), .ref (dn_a u 106), .int (dn_g (dn_p σ 100 8 v) 100 10), .ref (dn_a u 107), .ref (dn_a u 108), .int (dn_g (dn_p σ 100 8 v) 100 13), .ref (dn_a u 109), .long (dn_l (dn_p σ 100 8 v)), .ref (dn_a u 110), .int (dn_g (dn_p σ 100 8 v) 100 17), .int (dn_g (dn_p σ 100 8 v) 100 18), .int (dn_g (dn_p σ 100 8 v) 100 19), .int (dn_g (dn_p σ 100 8 v) 100 20), .int (dn_g (dn_p σ 100 8 v) 100 21), .int (dn_g (dn_p σ 100 8 v) 100 22), .ref (dn_a u 111), .ref (dn_a u 112), .ref (dn_a u 113), .int (dn_g (dn_p σ 100 8 v) 100 26), .int (dn_g (dn_p σ 100 8 v) 100 27), .int (dn_g (dn_p σ 100 8 v) 100 28), .ref (dn_a u 114), .ref (dn_a u 115), .ref (dn_a u 116), .int (dn_g (dn_p σ 100 8 v) 100 32), .int (dn_g (dn_p σ 100 8 v) 100 33), .int (dn_g (dn_p σ 100 8 v) 100 34)]) : va_E) = .inr (12, ([.ref (dn_a u 101), .int (dn_g σ 100 1), .ref (dn_a u 102), .int (dn_g σ 100 3), .ref (dn_a u 103), .ref (dn_a u 104), .ref (dn_a u 105), .int (dn_g σ 100 7), .int (dn_g σ 100 8), .ref (dn_a u 106), .int (dn_g σ 100 10), .ref (dn_a u 107), .ref (dn_a u 108), .int (dn_g σ 100 13), .ref (dn_a u 109), .long (dn_l σ), .ref (dn_a u 110), .int (dn_g σ 100 17), .int (dn_g σ 100 18), .int (dn_g σ 100 19), .int (dn_g σ 100 20), .int (dn_g σ 100 21), .int (dn_g σ 100 22), .ref (dn_a u 111), .ref (dn_a u 112), .ref (dn_a u 113), .int (dn_g σ 100 26), .int (dn_g σ 100 27), .int (dn_g σ 100 28), .ref (dn_a u 114), .ref (dn_a u 115), .ref (dn_a u 116), .int (dn_g σ 100 32), .int (dn_g σ 100 33), .int (dn_g σ 100 34)] : List Value).set 8 (.int v)) := by simp [dn_g_p, dn_l_p]
theorem dn_set100_10 (u : dn_U) (σ : dn_S) (v : Int32) : (.inr (12, [.ref (dn_a u 101), .int (dn_g (dn_p σ 100 10 v) 100 1), .ref (dn_a u 102), .int (dn_g (dn_p σ 100 10 v) 100 3), .ref (dn_a u 103), .ref (dn_a u 104), .ref (dn_a u 105), .int (dn_g (dn_p σ 100 10 v) 100 7), .int (dn_g (dn_p σ 100 10 v) 100 8), .ref (dn_a u 106), .int (dn_g (dn_p σ 100 10 v) 100 10), .ref (dn_a u 107), .ref (dn_a u 108), .int (dn_g (dn_p σ 100 10 v) 100 13), .ref (dn_a u 109), .long (dn_l (dn_p σ 100 10 v)), .ref (dn_a u 110), .int (dn_g (dn_p σ 100 10 v) 100 17), .int (dn_g (dn_p σ 100 10 v) 100 18), .int (dn_g (dn_p σ 100 10 v) 100 19), .int (dn_g (dn_p σ 100 10 v) 100 20), .int (dn_g (dn_p σ 100 10 v) 100 21), .int (dn_g (dn_p σ 100 10 v) 100 22), .ref (dn_a u 111), .ref (dn_a u 112), .ref (dn_a u 113), .int (dn_g (dn_p σ 100 10 v) 100 26), .int (dn_g (dn_p σ 100 10 v) 100 27), .int (dn_g (dn_p σ 100 10 v) 100 28), .ref (dn_a u 114), .ref (dn_a u 115), .ref (dn_a u 116), .int (dn_g (dn_p σ 100 10 v) 100 32), .int (dn_g (dn_p σ 100 10 v) 100 33), .int (dn_g (dn_p σ 100 10 v) 100 34)]) : va_E) = .inr (12, ([.ref (dn_a u 101), .int (dn_g σ 100 1), .ref (dn_a u 102), .int (dn_g σ 100 3), .ref (dn_a u 103), .ref (dn_a u 104), .ref (dn_a u 105), .int (dn_g σ 100 7), .int (dn_g σ 100 8), .ref (dn_a u 106), .int (dn_g σ 100 10), .ref (dn_a u 107), .ref (dn_a u 108), .int (dn_g σ 100 13), .ref (dn_a u 109), .long (dn_l σ), .ref (dn_a u 110), .int (dn_g σ 100 17), .int (dn_g σ 100 18), .int (dn_g σ 100 19), .int (dn_g σ 100 20), .int (dn_g σ 100 21), .int (dn_g σ 100 22), .ref (dn_a u 111), .ref (dn_a u 112), .ref (dn_a u 113), .int (dn_g σ 100 26), .int (dn_g σ 100 27), .int (dn_g σ 100 28), .ref (dn_a u 114), .ref (dn_a u 115), .ref (dn_a u 116), .int (dn_g σ 100 32), .int (dn_g σ 100 33), .int (dn_g σ 100 34)] : List Value).set 10 (.int v)) := by simp [dn_g_p, dn_l_p]
theorem dn_set100_13 (u : dn_U) (σ : dn_S) (v : Int32) : (.inr (12, [.ref (dn_a u 101), .int (dn_g (dn_p σ 100 13 v) 100 1), .ref (dn_a u 102), .int (dn_g (dn_p σ 100 13 v) 100 3), .ref (dn_a u 103), .ref (dn_a u 104), .ref (dn_a u 105), .int (dn_g (dn_p σ 100 13 v) 100 7), .int (dn_g (dn_p σ 100 13 v) 100 8), .ref (dn_a u 106), .int (dn_g (dn_p σ 100 13 v) 100 10), .ref (dn_a u 107), .ref (dn_a u 108), .int (dn_g (dn_p σ 100 13 v) 100 13), .ref (dn_a u 109), .long (dn_l (dn_p σ 100 13 v)), .ref (dn_a u 110), .int (dn_g (dn_p σ 100 13 v) 100 17), .int (dn_g (dn_p σ 100 13 v) 100 18), .int (dn_g (dn_p σ 100 13 v) 100 19), .int (dn_g (dn_p σ 100 13 v) 100 20), .int (dn_g (dn_p σ 100 13 v) 100 21), .int (dn_g (dn_p σ 100 13 v) 100 22), .ref (dn_a u 111), .ref (dn_a u 112), .ref (dn_a u 113), .int (dn_g (dn_p σ 100 13 v) 100 26), .int (dn_g (dn_p σ 100 13 v) 100 27), .int (dn_g (dn_p σ 100 13 v) 100 28), .ref (dn_a u 114), .ref (dn_a u 115), .ref (dn_a u 116), .int (dn_g (dn_p σ 100 13 v) 100 32), .int (dn_g (dn_p σ 100 13 v) 100 33), .int (dn_g (dn_p σ 100 13 v) 100 34)]) : va_E) = .inr (12, ([.ref (dn_a u 101), .int (dn_g σ 100 1), .ref (dn_a u 102), .int (dn_g σ 100 3), .ref (dn_a u 103), .ref (dn_a u 104), .ref (dn_a u 105), .int (dn_g σ 100 7), .int (dn_g σ 100 8), .ref (dn_a u 106), .int (dn_g σ 100 10), .ref (dn_a u 107), .ref (dn_a u 108), .int (dn_g σ 100 13), .ref (dn_a u 109), .long (dn_l σ), .ref (dn_a u 110), .int (dn_g σ 100 17), .int (dn_g σ 100 18), .int (dn_g σ 100 19), .int (dn_g σ 100 20), .int (dn_g σ 100 21), .int (dn_g σ 100 22), .ref (dn_a u 111), .ref (dn_a u 112), .ref (dn_a u 113), .int (dn_g σ 100 26), .int (dn_g σ 100 27), .int (dn_g σ 100 28), .ref (dn_a u 114), .ref (dn_a u 115), .ref (dn_a u 116), .int (dn_g σ 100 32), .int (dn_g σ 100 33), .int (dn_g σ 100 34)] : List Value).set 13 (.int v)) := by simp [dn_g_p, dn_l_p]
theorem dn_set100_17 (u : dn_U) (σ : dn_S) (v : Int32) : (.inr (12, [.ref (dn_a u 101), .int (dn_g (dn_p σ 100 17 v) 100 1), .ref (dn_a u 102), .int (dn_g (dn_p σ 100 17 v) 100 3), .ref (dn_a u 103), .ref (dn_a u 104), .ref (dn_a u 105), .int (dn_g (dn_p σ 100 17 v) 100 7), .int (dn_g (dn_p σ 100 17 v) 100 8), .ref (dn_a u 106), .int (dn_g (dn_p σ 100 17 v) 100 10), .ref (dn_a u 107), .ref (dn_a u 108), .int (dn_g (dn_p σ 100 17 v) 100 13), .ref (dn_a u 109), .long (dn_l (dn_p σ 100 17 v)), .ref (dn_a u 110), .int (dn_g (dn_p σ 100 17 v) 100 17), .int (dn_g (dn_p σ 100 17 v) 100 18), .int (dn_g (dn_p σ 100 17 v) 100 19), .int (dn_g (dn_p σ 100 17 v) 100 20), .int (dn_g (dn_p σ 100 17 v) 100 21), .int (dn_g (dn_p σ 100 17 v) 100 22), .ref (dn_a u 111), .ref (dn_a u 112), .ref (dn_a u 113), .int (dn_g (dn_p σ 100 17 v) 100 26), .int (dn_g (dn_p σ 100 17 v) 100 27), .int (dn_g (dn_p σ 100 17 v) 100 28), .ref (dn_a u 114), .ref (dn_a u 115), .ref (dn_a u 116), .int (dn_g (dn_p σ 100 17 v) 100 32), .int (dn_g (dn_p σ 100 17 v) 100 33), .int (dn_g (dn_p σ 100 17 v) 100 34)]) : va_E) = .inr (12, ([.ref (dn_a u 101), .int (dn_g σ 100 1), .ref (dn_a u 102), .int (dn_g σ 100 3), .ref (dn_a u 103), .ref (dn_a u 104), .ref (dn_a u 105), .int (dn_g σ 100 7), .int (dn_g σ 100 8), .ref (dn_a u 106), .int (dn_g σ 100 10), .ref (dn_a u 107), .ref (dn_a u 108), .int (dn_g σ 100 13), .ref (dn_a u 109), .long (dn_l σ), .ref (dn_a u 110), .int (dn_g σ 100 17), .int (dn_g σ 100 18), .int (dn_g σ 100 19), .int (dn_g σ 100 20), .int (dn_g σ 100 21), .int (dn_g σ 100 22), .ref (dn_a u 111), .ref (dn_a u 112), .ref (dn_a u 113), .int (dn_g σ 100 26), .int (dn_g σ 100 27), .int (dn_g σ 100 28), .ref (dn_a u 114), .ref (dn_a u 115), .ref (dn_a u 116), .int (dn_g σ 100 32), .int (dn_g σ 100 33), .int (dn_g σ 100 34)] : List Value).set 17 (.int v)) := by simp [dn_g_p, dn_l_p]
theorem dn_set100_18 (u : dn_U) (σ : dn_S) (v : Int32) : (.inr (12, [.ref (dn_a u 101), .int (dn_g (dn_p σ 100 18 v) 100 1), .ref (dn_a u 102), .int (dn_g (dn_p σ 100 18 v) 100 3), .ref (dn_a u 103), .ref (dn_a u 104), .ref (dn_a u 105), .int (dn_g (dn_p σ 100 18 v) 100 7), .int (dn_g (dn_p σ 100 18 v) 100 8), .ref (dn_a u 106), .int (dn_g (dn_p σ 100 18 v) 100 10), .ref (dn_a u 107), .ref (dn_a u 108), .int (dn_g (dn_p σ 100 18 v) 100 13), .ref (dn_a u 109), .long (dn_l (dn_p σ 100 18 v)), .ref (dn_a u 110), .int (dn_g (dn_p σ 100 18 v) 100 17), .int (dn_g (dn_p σ 100 18 v) 100 18), .int (dn_g (dn_p σ 100 18 v) 100 19), .int (dn_g (dn_p σ 100 18 v) 100 20), .int (dn_g (dn_p σ 100 18 v) 100 21), .int (dn_g (dn_p σ 100 18 v) 100 22), .ref (dn_a u 111), .ref (dn_a u 112), .ref (dn_a u 113), .int (dn_g (dn_p σ 100 18 v) 100 26), .int (dn_g (dn_p σ 100 18 v) 100 27), .int (dn_g (dn_p σ 100 18 v) 100 28), .ref (dn_a u 114), .ref (dn_a u 115), .ref (dn_a u 116), .int (dn_g (dn_p σ 100 18 v) 100 32), .int (dn_g (dn_p σ 100 18 v) 100 33), .int (dn_g (dn_p σ 100 18 v) 100 34)]) : va_E) = .inr (12, ([.ref (dn_a u 101), .int (dn_g σ 100 1), .ref (dn_a u 102), .int (dn_g σ 100 3), .ref (dn_a u 103), .ref (dn_a u 104), .ref (dn_a u 105), .int (dn_g σ 100 7), .int (dn_g σ 100 8), .ref (dn_a u 106), .int (dn_g σ 100 10), .ref (dn_a u 107), .ref (dn_a u 108), .int (dn_g σ 100 13), .ref (dn_a u 109), .long (dn_l σ), .ref (dn_a u 110), .int (dn_g σ 100 17), .int (dn_g σ 100 18), .int (dn_g σ 100 19), .int (dn_g σ 100 20), .int (dn_g σ 100 21), .int (dn_g σ 100 22), .ref (dn_a u 111), .ref (dn_a u 112), .ref (dn_a u 113), .int (dn_g σ 100 26), .int (dn_g σ 100 27), .int (dn_g σ 100 28), .ref (dn_a u 114), .ref (dn_a u 115), .ref (dn_a u 116), .int (dn_g σ 100 32), .int (dn_g σ 100 33), .int (dn_g σ 100 34)] : List Value).set 18 (.int v)) := by simp [dn_g_p, dn_l_p]
theorem dn_set100_19 (u : dn_U) (σ : dn_S) (v : Int32) : (.inr (12, [.ref (dn_a u 101), .int (dn_g (dn_p σ 100 19 v) 100 1), .ref (dn_a u 102), .int (dn_g (dn_p σ 100 19 v) 100 3), .ref (dn_a u 103), .ref (dn_a u 104), .ref (dn_a u 105), .int (dn_g (dn_p σ 100 19 v) 100 7), .int (dn_g (dn_p σ 100 19 v) 100 8), .ref (dn_a u 106), .int (dn_g (dn_p σ 100 19 v) 100 10), .ref (dn_a u 107), .ref (dn_a u 108), .int (dn_g (dn_p σ 100 19 v) 100 13), .ref (dn_a u 109), .long (dn_l (dn_p σ 100 19 v)), .ref (dn_a u 110), .int (dn_g (dn_p σ 100 19 v) 100 17), .int (dn_g (dn_p σ 100 19 v) 100 18), .int (dn_g (dn_p σ 100 19 v) 100 19), .int (dn_g (dn_p σ 100 19 v) 100 20), .int (dn_g (dn_p σ 100 19 v) 100 21), .int (dn_g (dn_p σ 100 19 v) 100 22), .ref (dn_a u 111), .ref (dn_a u 112), .ref (dn_a u 113), .int (dn_g (dn_p σ 100 19 v) 100 26), .int (dn_g (dn_p σ 100 19 v) 100 27), .int (dn_g (dn_p σ 100 19 v) 100 28), .ref (dn_a u 114), .ref (dn_a u 115), .ref (dn_a u 116), .int (dn_g (dn_p σ 100 19 v) 100 32), .int (dn_g (dn_p σ 100 19 v) 100 33), .int (dn_g (dn_p σ 100 19 v) 100 34)]) : va_E) = .inr (12, ([.ref (dn_a u 101), .int (dn_g σ 100 1), .ref (dn_a u 102), .int (dn_g σ 100 3), .ref (dn_a u 103), .ref (dn_a u 104), .ref (dn_a u 105), .int (dn_g σ 100 7), .int (dn_g σ 100 8), .ref (dn_a u 106), .int (dn_g σ 100 10), .ref (dn_a u 107), .ref (dn_a u 108), .int (dn_g σ 100 13), .ref (dn_a u 109), .long (dn_l σ), .ref (dn_a u 110), .int (dn_g σ 100 17), .int (dn_g σ 100 18), .int (dn_g σ 100 19), .int (dn_g σ 100 20), .int (dn_g σ 100 21), .int (dn_g σ 100 22), .ref (dn_a u 111), .ref (dn_a u 112), .ref (dn_a u 113), .int (dn_g σ 100 26), .int (dn_g σ 100 27), .int (dn_g σ 100 28), .ref (dn_a u 114), .ref (dn_a u 115), .ref (dn_a u 116), .int (dn_g σ 100 32), .int (dn_g σ 100 33), .int (dn_g σ 100 34)] : List Value).set 19 (.int v)) := by simp [dn_g_p, dn_l_p]
theorem dn_set100_20 (u : dn_U) (σ : dn_S) (v : Int32) : (.inr (12, [.ref (dn_a u 101), .int (dn_g (dn_p σ 100 20 v) 100 1), .ref (dn_a u 102), .int (dn_g (dn_p σ 100 20 v) 100 3), .ref (dn_a u 103), .ref (dn_a u 104), .ref (dn_a u 105), .int (dn_g (dn_p σ 100 20 v) 100 7), .int (dn_g (dn_p σ 100 20 v) 100 8), .ref (dn_a u 106), .int (dn_g (dn_p σ 100 20 v) 100 10), .ref (dn_a u 107), .ref (dn_a u 108), .int (dn_g (dn_p σ 100 20 v) 100 13), .ref (dn_a u 109), .long (dn_l (dn_p σ 100 20 v)), .ref (dn_a u 110), .int (dn_g (dn_p σ 100 20 v) 100 17), .int (dn_g (dn_p σ 100 20 v) 100 18), .int (dn_g (dn_p σ 100 20 v) 100 19), .int (dn_g (dn_p σ 100 20 v) 100 20), .int (dn_g (dn_p σ 100 20 v) 100 21), .int (dn_g (dn_p σ 100 20 v) 100 22), .ref (dn_a u 111), .ref (dn_a u 112), .ref (dn_a u 113), .int (dn_g (dn_p σ 100 20 v) 100 26), .int (dn_g (dn_p σ 100 20 v) 100 27), .int (dn_g (dn_p σ 100 20 v) 100 28), .ref (dn_a u 114), .ref (dn_a u 115), .ref (dn_a u 116), .int (dn_g (dn_p σ 100 20 v) 100 32), .int (dn_g (dn_p σ 100 20 v) 100 33), .int (dn_g (dn_p σ 100 20 v) 100 34)]) : va_E) = .inr (12, ([.ref (dn_a u 101), .int (dn_g σ 100 1), .ref (dn_a u 102), .int (dn_g σ 100 3), .ref (dn_a u 103), .ref (dn_a u 104), .ref (dn_a u 105), .int (dn_g σ 100 7), .int (dn_g σ 100 8), .ref (dn_a u 106), .int (dn_g σ 100 10), .ref (dn_a u 107), .ref (dn_a u 108), .int (dn_g σ 100 13), .ref (dn_a u 109), .long (dn_l σ), .ref (dn_a u 110), .int (dn_g σ 100 17), .int (dn_g σ 100 18), .int (dn_g σ 100 19), .int (dn_g σ 100 20), .int (dn_g σ 100 21), .int (dn_g σ 100 22), .ref (dn_a u 111), .ref (dn_a u 112), .ref (dn_a u 113), .int (dn_g σ 100 26), .int (dn_g σ 100 27), .int (dn_g σ 100 28), .ref (dn_a u 114), .ref (dn_a u 115), .ref (dn_a u 116), .int (dn_g σ 100 32), .int (dn_g σ 100 33), .int (dn_g σ 100 34)] : List Value).set 20 (.int v)) := by simp [dn_g_p, dn_l_p]
theorem dn_set100_21 (u : dn_U) (σ : dn_S) (v : Int32) : (.inr (12, [.ref (dn_a u 101), .int (dn_g (dn_p σ 100 21 v) 100 1), .ref (dn_a u 102), .int (dn_g (dn_p σ 100 21 v) 100 3), .ref (dn_a u 103), .ref (dn_a u 104), .ref (dn_a u 105), .int (dn_g (dn_p σ 100 21 v) 100 7), .int (dn_g (dn_p σ 100 21 v) 100 8), .ref (dn_a u 106), .int (dn_g (dn_p σ 100 21 v) 100 10), .ref (dn_a u 107), .ref (dn_a u 108), .int (dn_g (dn_p σ 100 21 v) 100 13), .ref (dn_a u 109), .long (dn_l (dn_p σ 100 21 v)), .ref (dn_a u 110), .int (dn_g (dn_p σ 100 21 v) 100 17), .int (dn_g (dn_p σ 100 21 v) 100 18), .int (dn_g (dn_p σ 100 21 v) 100 19), .int (dn_g (dn_p σ 100 21 v) 100 20), .int (dn_g (dn_p σ 100 21 v) 100 21), .int (dn_g (dn_p σ 100 21 v) 100 22), .ref (dn_a u 111), .ref (dn_a u 112), .ref (dn_a u 113), .int (dn_g (dn_p σ 100 21 v) 100 26), .int (dn_g (dn_p σ 100 21 v) 100 27), .int (dn_g (dn_p σ 100 21 v) 100 28), .ref (dn_a u 114), .ref (dn_a u 115), .ref (dn_a u 116), .int (dn_g (dn_p σ 100 21 v) 100 32), .int (dn_g (dn_p σ 100 21 v) 100 33), .int (dn_g (dn_p σ 100 21 v) 100 34)]) : va_E) = .inr (12, ([.ref (dn_a u 101), .int (dn_g σ 100 1), .ref (dn_a u 102), .int (dn_g σ 100 3), .ref (dn_a u 103), .ref (dn_a u 104), .ref (dn_a u 105), .int (dn_g σ 100 7), .int (dn_g σ 100 8), .ref (dn_a u 106), .int (dn_g σ 100 10), .ref (dn_a u 107), .ref (dn_a u 108), .int (dn_g σ 100 13), .ref (dn_a u 109), .long (dn_l σ), .ref (dn_a u 110), .int (dn_g σ 100 17), .int (dn_g σ 100 18), .int (dn_g σ 100 19), .int (dn_g σ 100 20), .int (dn_g σ 100 21), .int (dn_g σ 100 22), .ref (dn_a u 111), .ref (dn_a u 112), .ref (dn_a u 113), .int (dn_g σ 100 26), .int (dn_g σ 100 27), .int (dn_g σ 100 28), .ref (dn_a u 114), .ref (dn_a u 115), .ref (dn_a u 116), .int (dn_g σ 100 32), .int (dn_g σ 100 33), .int (dn_g σ 100 34)] : List Value).set 21 (.int v)) := by simp [dn_g_p, dn_l_p]
theorem dn_set100_22 (u : dn_U) (σ : dn_S) (v : Int32) : (.inr (12, [.ref (dn_a u 101), .int (dn_g (dn_p σ 100 22 v) 100 1), .ref (dn_a u 102), .int (dn_g (dn_p σ 100 22 v) 100 3), .ref (dn_a u 103), .ref (dn_a u 104), .ref (dn_a u 105), .int (dn_g (dn_p σ 100 22 v) 100 7), .int (dn_g (dn_p σ 100 22 v) 100 8), .ref (dn_a u 106), .int (dn_g (dn_p σ 100 22 v) 100 10), .ref (dn_a u 107), .ref (dn_a u 108), .int (dn_g (dn_p σ 100 22 v) 100 13), .ref (dn_a u 109), .long (dn_l (dn_p σ 100 22 v)), .ref (dn_a u 110), .int (dn_g (dn_p σ 100 22 v) 100 17), .int (dn_g (dn_p σ 100 22 v) 100 18), .int (dn_g (dn_p σ 100 22 v) 100 19), .int (dn_g (dn_p σ 100 22 v) 100 20), .int (dn_g (dn_p σ 100 22 v) 100 21), .int (dn_g (dn_p σ 100 22 v) 100 22), .ref (dn_a u 111), .ref (dn_a u 112), .ref (dn_a u 113), .int (dn_g (dn_p σ 100 22 v) 100 26), .int (dn_g (dn_p σ 100 22 v) 100 27), .int (dn_g (dn_p σ 100 22 v) 100 28), .ref (dn_a u 114), .ref (dn_a u 115), .ref (dn_a u 116), .int (dn_g (dn_p σ 100 22 v) 100 32), .int (dn_g (dn_p σ 100 22 v) 100 33), .int (dn_g (dn_p σ 100 22 v) 100 34)]) : va_E) = .inr (12, ([.ref (dn_a u 101), .int (dn_g σ 100 1), .ref (dn_a u 102), .int (dn_g σ 100 3), .ref (dn_a u 103), .ref (dn_a u 104), .ref (dn_a u 105), .int (dn_g σ 100 7), .int (dn_g σ 100 8), .ref (dn_a u 106), .int (dn_g σ 100 10), .ref (dn_a u 107), .ref (dn_a u 108), .int (dn_g σ 100 13), .ref (dn_a u 109), .long (dn_l σ), .ref (dn_a u 110), .int (dn_g σ 100 17), .int (dn_g σ 100 18), .int (dn_g σ 100 19), .int (dn_g σ 100 20), .int (dn_g σ 100 21), .int (dn_g σ 100 22), .ref (dn_a u 111), .ref (dn_a u 112), .ref (dn_a u 113), .int (dn_g σ 100 26), .int (dn_g σ 100 27), .int (dn_g σ 100 28), .ref (dn_a u 114), .ref (dn_a u 115), .ref (dn_a u 116), .int (dn_g σ 100 32), .int (dn_g σ 100 33), .int (dn_g σ 100 34)] : List Value).set 22 (.int v)) := by simp [dn_g_p, dn_l_p]
theorem dn_set100_26 (u : dn_U) (σ : dn_S) (v : Int32) : (.inr (12, [.ref (dn_a u 101), .int (dn_g (dn_p σ 100 26 v) 100 1), .ref (dn_a u 102), .int (dn_g (dn_p σ 100 26 v) 100 3), .ref (dn_a u 103), .ref (dn_a u 104), .ref (dn_a u 105), .int (dn_g (dn_p σ 100 26 v) 100 7), .int (dn_g (dn_p σ 100 26 v) 100 8), .ref (dn_a u 106), .int (dn_g (dn_p σ 100 26 v) 100 10), .ref (dn_a u 107), .ref (dn_a u 108), .int (dn_g (dn_p σ 100 26 v) 100 13), .ref (dn_a u 109), .long (dn_l (dn_p σ 100 26 v)), .ref (dn_a u 110), .int (dn_g (dn_p σ 100 26 v) 100 17), .int (dn_g (dn_p σ 100 26 v) 100 18), .int (dn_g (dn_p σ 100 26 v) 100 19), .int (dn_g (dn_p σ 100 26 v) 100 20), .int (dn_g (dn_p σ 100 26 v) 100 21), .int (dn_g (dn_p σ 100 26 v) 100 22), .ref (dn_a u 111), .ref (dn_a u 112), .ref (dn_a u 113), .int (dn_g (dn_p σ 100 26 v) 100 26), .int (dn_g (dn_p σ 100 26 v) 100 27), .int (dn_g (dn_p σ 100 26 v) 100 28), .ref (dn_a u 114), .ref (dn_a u 115), .ref (dn_a u 116), .int (dn_g (dn_p σ 100 26 v) 100 32), .int (dn_g (dn_p σ 100 26 v) 100 33), .int (dn_g (dn_p σ 100 26 v) 100 34)]) : va_E) = .inr (12, ([.ref (dn_a u 101), .int (dn_g σ 100 1), .ref (dn_a u 102), .int (dn_g σ 100 3), .ref (dn_a u 103), .ref (dn_a u 104), .ref (dn_a u 105), .int (dn_g σ 100 7), .int (dn_g σ 100 8), .ref (dn_a u 106), .int (dn_g σ 100 10), .ref (dn_a u 107), .ref (dn_a u 108), .int (dn_g σ 100 13), .ref (dn_a u 109), .long (dn_l σ), .ref (dn_a u 110), .int (dn_g σ 100 17), .int (dn_g σ 100 18), .int (dn_g σ 100 19), .int (dn_g σ 100 20), .int (dn_g σ 100 21), .int (dn_g σ 100 22), .ref (dn_a u 111), .ref (dn_a u 112), .ref (dn_a u 113), .int (dn_g σ 100 26), .int (dn_g σ 100 27), .int (dn_g σ 100 28), .ref (dn_a u 114), .ref (dn_a u 115), .ref (dn_a u 116), .int (dn_g σ 100 32), .int (dn_g σ 100 33), .int (dn_g σ 100 34)] : List Value).set 26 (.int v)) := by simp [dn_g_p, dn_l_p]
theorem dn_set100_27 (u : dn_U) (σ : dn_S) (v : Int32) : (.inr (12, [.ref (dn_a u 101), .int (dn_g (dn_p σ 100 27 v) 100 1), .ref (dn_a u 102), .int (dn_g (dn_p σ 100 27 v) 100 3), .ref (dn_a u 103), .ref (dn_a u 104), .ref (dn_a u 105), .int (dn_g (dn_p σ 100 27 v) 100 7), .int (dn_g (dn_p σ 100 27 v) 100 8), .ref (dn_a u 106), .int (dn_g (dn_p σ 100 27 v) 100 10), .ref (dn_a u 107), .ref (dn_a u 108), .int (dn_g (dn_p σ 100 27 v) 100 13), .ref (dn_a u 109), .long (dn_l (dn_p σ 100 27 v)), .ref (dn_a u 110), .int (dn_g (dn_p σ 100 27 v) 100 17), .int (dn_g (dn_p σ 100 27 v) 100 18), .int (dn_g (dn_p σ 100 27 v) 100 19), .int (dn_g (dn_p σ 100 27 v) 100 20), .int (dn_g (dn_p σ 100 27 v) 100 21), .int (dn_g (dn_p σ 100 27 v) 100 22), .ref (dn_a u 111), .ref (dn_a u 112), .ref (dn_a u 113), .int (dn_g (dn_p σ 100 27 v) 100 26), .int (dn_g (dn_p σ 100 27 v) 100 27), .int (dn_g (dn_p σ 100 27 v) 100 28), .ref (dn_a u 114), .ref (dn_a u 115), .ref (dn_a u 116), .int (dn_g (dn_p σ 100 27 v) 100 32), .int (dn_g (dn_p σ 100 27 v) 100 33), .int (dn_g (dn_p σ 100 27 v) 100 34)]) : va_E) = .inr (12, ([.ref (dn_a u 101), .int (dn_g σ 100 1), .ref (dn_a u 102), .int (dn_g σ 100 3), .ref (dn_a u 103), .ref (dn_a u 104), .ref (dn_a u 105), .int (dn_g σ 100 7), .int (dn_g σ 100 8), .ref (dn_a u 106), .int (dn_g σ 100 10), .ref (dn_a u 107), .ref (dn_a u 108), .int (dn_g σ 100 13), .ref (dn_a u 109), .long (dn_l σ), .ref (dn_a u 110), .int (dn_g σ 100 17), .int (dn_g σ 100 18), .int (dn_g σ 100 19), .int (dn_g σ 100 20), .int (dn_g σ 100 21), .int (dn_g σ 100 22), .ref (dn_a u 111), .ref (dn_a u 112), .ref (dn_a u 113), .int (dn_g σ 100 26), .int (dn_g σ 100 27), .int (dn_g σ 100 28), .ref (dn_a u 114), .ref (dn_a u 115), .ref (dn_a u 116), .int (dn_g σ 100 32), .int (dn_g σ 100 33), .int (dn_g σ 100 34)] : List Value).set 27 (.int v)) := by simp [dn_g_p, dn_l_p]
theorem dn_set100_28 (u : dn_U) (σ : dn_S) (v : Int32) : (.inr (12, [.ref (dn_a u 101), .int (dn_g (dn_p σ 100 28 v) 100 1), .ref (dn_a u 102), .int (dn_g (dn_p σ 100 28 v) 100 3), .ref (dn_a u 103), .ref (dn_a u 104), .ref (dn_a u 105), .int (dn_g (dn_p σ 100 28 v) 100 7), .int (dn_g (dn_p σ 100 28 v) 100 8), .ref (dn_a u 106), .int (dn_g (dn_p σ 100 28 v) 100 10), .ref (dn_a u 107), .ref (dn_a u 108), .int (dn_g (dn_p σ 100 28 v) 100 13), .ref (dn_a u 109), .long (dn_l (dn_p σ 100 28 v)), .ref (dn_a u 110), .int (dn_g (dn_p σ 100 28 v) 100 17), .int (dn_g (dn_p σ 100 28 v) 100 18), .int (dn_g (dn_p σ 100 28 v) 100 19), .int (dn_g (dn_p σ 100 28 v) 100 20), .int (dn_g (dn_p σ 100 28 v) 100 21), .int (dn_g (dn_p σ 100 28 v) 100 22), .ref (dn_a u 111), .ref (dn_a u 112), .ref (dn_a u 113), .int (dn_g (dn_p σ 100 28 v) 100 26), .int (dn_g (dn_p σ 100 28 v) 100 27), .int (dn_g (dn_p σ 100 28 v) 100 28), .ref (dn_a u 114), .ref (dn_a u 115), .ref (dn_a u 116), .int (dn_g (dn_p σ 100 28 v) 100 32), .int (dn_g (dn_p σ 100 28 v) 100 33), .int (dn_g (dn_p σ 100 28 v) 100 34)]) : va_E) = .inr (12, ([.ref (dn_a u 101), .int (dn_g σ 100 1), .ref (dn_a u 102), .int (dn_g σ 100 3), .ref (dn_a u 103), .ref (dn_a u 104), .ref (dn_a u 105), .int (dn_g σ 100 7), .int (dn_g σ 100 8), .ref (dn_a u 106), .int (dn_g σ 100 10), .ref (dn_a u 107), .ref (dn_a u 108), .int (dn_g σ 100 13), .ref (dn_a u 109), .long (dn_l σ), .ref (dn_a u 110), .int (dn_g σ 100 17), .int (dn_g σ 100 18), .int (dn_g σ 100 19), .int (dn_g σ 100 20), .int (dn_g σ 100 21), .int (dn_g σ 100 22), .ref (dn_a u 111), .ref (dn_a u 112), .ref (dn_a u 113), .int (dn_g σ 100 26), .int (dn_g σ 100 27), .int (dn_g σ 100 28), .ref (dn_a u 114), .ref (dn_a u 115), .ref (dn_a u 116), .int (dn_g σ 100 32), .int (dn_g σ 100 33), .int (dn_g σ 100 34)] : List Value).set 28 (.int v)) := by simp [dn_g_p, dn_l_p]
theorem dn_set100_32 (u : dn_U) (σ : dn_S) (v : Int32) : (.inr (12, [.ref (dn_a u 101), .int (dn_g (dn_p σ 100 32 v) 100 1), .ref (dn_a u 102), .int (dn_g (dn_p σ 100 32 v) 100 3), .ref (dn_a u 103), .ref (dn_a u 104), .ref (dn_a u 105), .int (dn_g (dn_p σ 100 32 v) 100 7), .int (dn_g (dn_p σ 100 32 v) 100 8), .ref (dn_a u 106), .int (dn_g (dn_p σ 100 32 v) 100 10), .ref (dn_a u 107), .ref (dn_a u 108), .int (dn_g (dn_p σ 100 32 v) 100 13), .ref (dn_a u 109), .long (dn_l (dn_p σ 100 32 v)), .ref (dn_a u 110), .int (dn_g (dn_p σ 100 32 v) 100 17), .int (dn_g (dn_p σ 100 32 v) 100 18), .int (dn_g (dn_p σ 100 32 v) 100 19), .int (dn_g (dn_p σ 100 32 v) 100 20), .int (dn_g (dn_p σ 100 32 v) 100 21), .int (dn_g (dn_p σ 100 32 v) 100 22), .ref (dn_a u 111), .ref (dn_a u 112), .ref (dn_a u 113), .int (dn_g (dn_p σ 100 32 v) 100 26), .int (dn_g (dn_p σ 100 32 v) 100 27), .int (dn_g (dn_p σ 100 32 v) 100 28), .ref (dn_a u 114), .ref (dn_a u 115), .ref (dn_a u 116), .int (dn_g (dn_p σ 100 32 v) 100 32), .int (dn_g (dn_p σ 100 32 v) 100 33), .int (dn_g (dn_p σ 100 32 v) 100 34)]) : va_E) = .inr (12, ([.ref (dn_a u 101), .int (dn_g σ 100 1), .ref (dn_a u 102), .int (dn_g σ 100 3), .ref (dn_a u 103), .ref (dn_a u 104), .ref (dn_a u 105), .int (dn_g σ 100 7), .int (dn_g σ 100 8), .ref (dn_a u 106), .int (dn_g σ 100 10), .ref (dn_a u 107), .ref (dn_a u 108), .int (dn_g σ 100 13), .ref (dn_a u 109), .long (dn_l σ), .ref (dn_a u 110), .int (dn_g σ 100 17), .int (dn_g σ 100 18), .int (dn_g σ 100 19), .int (dn_g σ 100 20), .int (dn_g σ 100 21), .int (dn_g σ 100 22), .ref (dn_a u 111), .ref (dn_a u 112), .ref (dn_a u 113), .int (dn_g σ 100 26), .int (dn_g σ 100 27), .int (dn_g σ 100 28), .ref (dn_a u 114), .ref (dn_a u 115), .ref (dn_a u 116), .int (dn_g σ 100 32), .int (dn_g σ 100 33), .int (dn_g σ 100 34)] : List Value).set 32 (.int v)) := by simp [dn_g_p, dn_l_p]
theorem dn_set100_33 (u : dn_U) (σ : dn_S) (v : Int32) : (.inr (12, [.ref (dn_a u 101), .int (dn_g (dn_p σ 100 33 v) 100 1), .ref (dn_a u 102), .int (dn_g (dn_p σ 100 33 v) 100 3), .ref (dn_a u 103), .ref (dn_a u 104), .ref (dn_a u 105), .int (dn_g (dn_p σ 100 33 v) 100 7), .int (dn_g (dn_p σ 100 33 v) 100 8), .ref (dn_a u 106), .int (dn_g (dn_p σ 100 33 v) 100 10), .ref (dn_a u 107), .ref (dn_a u 108), .int (dn_g (dn_p σ 100 33 v) 100 13), .ref (dn_a u 109), .long (dn_l (dn_p σ 100 33 v)), .ref (dn_a u 110), .int (dn_g (dn_p σ 100 33 v) 100 17), .int (dn_g (dn_p σ 100 33 v) 100 18), .int (dn_g (dn_p σ 100 33 v) 100 19), .int (dn_g (dn_p σ 100 33 v) 100 20), .int (dn_g (dn_p σ 100 33 v) 100 21), .int (dn_g (dn_p σ 100 33 v) 100 22), .ref (dn_a u 111), .ref (dn_a u 112), .ref (dn_a u 113), .int (dn_g (dn_p σ 100 33 v) 100 26), .int (dn_g (dn_p σ 100 33 v) 100 27), .int (dn_g (dn_p σ 100 33 v) 100 28), .ref (dn_a u 114), .ref (dn_a u 115), .ref (dn_a u 116), .int (dn_g (dn_p σ 100 33 v) 100 32), .int (dn_g (dn_p σ 100 33 v) 100 33), .int (dn_g (dn_p σ 100 33 v) 100 34)]) : va_E) = .inr (12, ([.ref (dn_a u 101), .int (dn_g σ 100 1), .ref (dn_a u 102), .int (dn_g σ 100 3), .ref (dn_a u 103), .ref (dn_a u 104), .ref (dn_a u 105), .int (dn_g σ 100 7), .int (dn_g σ 100 8), .ref (dn_a u 106), .int (dn_g σ 100 10), .ref (dn_a u 107), .ref (dn_a u 108), .int (dn_g σ 100 13), .ref (dn_a u 109), .long (dn_l σ), .ref (dn_a u 110), .int (dn_g σ 100 17), .int (dn_g σ 100 18), .int (dn_g σ 100 19), .int (dn_g σ 100 20), .int (dn_g σ 100 21), .int (dn_g σ 100 22), .ref (dn_a u 111), .ref (dn_a u 112), .ref (dn_a u 113), .int (dn_g σ 100 26), .int (dn_g σ 100 27), .int (dn_g σ 100 28), .ref (dn_a u 114), .ref (dn_a u 115), .ref (dn_a u 116), .int (dn_g σ 100 32), .int (dn_g σ 100 33), .int (dn_g σ 100 34)] : List Value).set 33 (.int v)) := by simp [dn_g_p, dn_l_p]
theorem dn_set100_34 (u : dn_U) (σ : dn_S) (v : Int32) : (.inr (12, [.ref (dn_a u 101), .int (dn_g (dn_p σ 100 34 v) 100 1), .ref (dn_a u 102), .int (dn_g (dn_p σ 100 34 v) 100 3), .ref (dn_a u 103), .ref (dn_a u 104), .ref (dn_a u 105), .int (dn_g (dn_p σ 100 34 v) 100 7), .int (dn_g (dn_p σ 100 34 v) 100 8), .ref (dn_a u 106), .int (dn_g (dn_p σ 100 34 v) 100 10), .ref (dn_a u 107), .ref (dn_a u 108), .int (dn_g (dn_p σ 100 34 v) 100 13), .ref (dn_a u 109), .long (dn_l (dn_p σ 100 34 v)), .ref (dn_a u 110), .int (dn_g (dn_p σ 100 34 v) 100 17), .int (dn_g (dn_p σ 100 34 v) 100 18), .int (dn_g (dn_p σ 100 34 v) 100 19), .int (dn_g (dn_p σ 100 34 v) 100 20), .int (dn_g (dn_p σ 100 34 v) 100 21), .int (dn_g (dn_p σ 100 34 v) 100 22), .ref (dn_a u 111), .ref (dn_a u 112), .ref (dn_a u 113), .int (dn_g (dn_p σ 100 34 v) 100 26), .int (dn_g (dn_p σ 100 34 v) 100 27), .int (dn_g (dn_p σ 100 34 v) 100 28), .ref (dn_a u 114), .ref (dn_a u 115), .ref (dn_a u 116), .int (dn_g (dn_p σ 100 34 v) 100 32), .int (dn_g (dn_p σ 100 34 v) 100 33), .int (dn_g (dn_p σ 100 34 v) 100 34)]) : va_E) = .inr (12, ([.ref (dn_a u 101), .int (dn_g σ 100 1), .ref (dn_a u 102), .int (dn_g σ 100 3), .ref (dn_a u 103), .ref (dn_a u 104), .ref (dn_a u 105), .int (dn_g σ 100 7), .int (dn_g σ 100 8), .ref (dn_a u 106), .int (dn_g σ 100 10), .ref (dn_a u 107), .ref (dn_a u 108), .int (dn_g σ 100 13), .ref (dn_a u 109), .long (dn_l σ), .ref (dn_a u 110), .int (dn_g σ 100 17), .int (dn_g σ 100 18), .int (dn_g σ 100 19), .int (dn_g σ 100 20), .int (dn_g σ 100 21), .int (dn_g σ 100 22), .ref (dn_a u 111), .ref (dn_a u 112), .ref (dn_a u 113), .int (dn_g σ 100 26), .int (dn_g σ 100 27), .int (dn_g σ 100 28), .ref (dn_a u 114), .ref (dn_a u 115), .ref (dn_a u 116), .int (dn_g σ 100 32), .int (dn_g σ 100 33), .int (dn_g σ 100 34)] : List Value).set 34 (.int v)) := by simp [dn_g_p, dn_l_p]
theorem dn_qz88 {u : dn_U} (hu : dn_Lu u = dn_LC) : dn_qz u 88 := by unfold dn_qz; rw [hu]; decide +kernel
theorem dn_qz100 {u : dn_U} (hu : dn_Lu u = dn_LR) : dn_qz u 100 := by unfold dn_qz; rw [hu]; decide +kernel
theorem dn_tT0 {u : dn_U} : ∀ s : State, dn_C u s → va_T .int u.2.2.2.1.1 7 (fun j => .int (dn_st0 j)) (dn_A u) s s.heap := fun s h => h.2.1.1.2
theorem dn_tZ0 {u : dn_U} : ∀ s : State, dn_C u s → va_Z "DayNames$Reader" "BIDDER_MOST" "[I" (.ref u.2.2.2.1.1) (dn_A u) s s.heap := fun s h => h.2.1.1.1
theorem dn_tT1 {u : dn_U} : ∀ s : State, dn_C u s → va_T .int u.2.2.2.1.2.1 5 (fun j => .int (dn_st1 j)) (dn_A u) s s.heap := fun s h => h.2.1.2.1.2
theorem dn_tZ1 {u : dn_U} : ∀ s : State, dn_C u s → va_Z "DayNames$Reader" "DEBT_LEAST" "[I" (.ref u.2.2.2.1.2.1) (dn_A u) s s.heap := fun s h => h.2.1.2.1.1
theorem dn_tT2 {u : dn_U} : ∀ s : State, dn_C u s → va_T .int u.2.2.2.1.2.2 5 (fun j => .int (dn_st2 j)) (dn_A u) s s.heap := fun s h => h.2.1.2.2.2
theorem dn_tZ2 {u : dn_U} : ∀ s : State, dn_C u s → va_Z "DayNames$Reader" "DEBT_MOST" "[I" (.ref u.2.2.2.1.2.2) (dn_A u) s s.heap := fun s h => h.2.1.2.2.1
theorem dn_out_0_2 {x : Int32} (h0 : ¬ x = 0) (h1 : ¬ x = 1) (h2 : ¬ x = 2) : x.toInt < 0 ∨ 2 < x.toInt := by
  have a0 : ¬ x.toInt = 0 := lv_neT h0 rfl
  have a1 : ¬ x.toInt = 1 := lv_neT h1 rfl
  have a2 : ¬ x.toInt = 2 := lv_neT h2 rfl
  omega
theorem dn_out_0_5 {x : Int32} (h0 : ¬ x = 0) (h1 : ¬ x = 1) (h2 : ¬ x = 2) (h3 : ¬ x = 3) (h4 : ¬ x = 4) (h5 : ¬ x = 5) : x.toInt < 0 ∨ 5 < x.toInt := by
  have a0 : ¬ x.toInt = 0 := lv_neT h0 rfl
  have a1 : ¬ x.toInt = 1 := lv_neT h1 rfl
  have a2 : ¬ x.toInt = 2 := lv_neT h2 rfl
  have a3 : ¬ x.toInt = 3 := lv_neT h3 rfl
  have a4 : ¬ x.toInt = 4 := lv_neT h4 rfl
  have a5 : ¬ x.toInt = 5 := lv_neT h5 rfl
  omega
theorem dn_out_1_5 {x : Int32} (h1 : ¬ x = 1) (h2 : ¬ x = 2) (h3 : ¬ x = 3) (h4 : ¬ x = 4) (h5 : ¬ x = 5) : x.toInt < 1 ∨ 5 < x.toInt := by
  have a1 : ¬ x.toInt = 1 := lv_neT h1 rfl
  have a2 : ¬ x.toInt = 2 := lv_neT h2 rfl
  have a3 : ¬ x.toInt = 3 := lv_neT h3 rfl
  have a4 : ¬ x.toInt = 4 := lv_neT h4 rfl
  have a5 : ¬ x.toInt = 5 := lv_neT h5 rfl
  omega
