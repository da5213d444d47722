/-! the law: its loop and its start (written by wip/whole/gen_law.py) -/
theorem lw_sub5 {L i : Nat} (hL : L ≤ 2560) (hi : i ≤ 2560) (h : ¬ (Int32.ofNat L - 5 < nI i)) : i + 5 ≤ L := by
  rw [Int32.lt_iff_toInt_lt, nI_toInt (by omega), Int32.toInt_sub] at h
  have h1 : (Int32.ofNat L).toInt = (L : Int) := nI_toInt (n := L) (by omega)
  have h2 : (5 : Int32).toInt = 5 := rfl
  rw [h1, h2, Int.bmod_eq_of_le (by omega) (by omega)] at h
  omega
theorem lw_in {L i j : Nat} (hL : L ≤ 2560) (hi : i + j < L) : vp_in (nI i + nI j) L := by
  have : nI i + nI j = nI (i + j) := nI_add i j
  rw [this]
  exact vp_in_nI hi (by omega)
set_option maxRecDepth 100000 in
set_option maxHeartbeats 4000000 in
theorem law_loop {p : Program} {l : Launch} {e : Env} {s : State} {m : MethodId} {below : List Frame} {meth : Method} {c : Code} {b L : Nat} {xs : Nat → Int32} (hL : L ≤ 2560) (C0 : lw_At p s m meth c b L xs) {u v : dn_U} (K0 : lw_Cst s u v) : ∀ (n i : Nat) (x3 : Int32), i ≤ L → L + 1 ≤ i + n → x3 = nI i → ∀ (σ τ : dn_S) (H : Heap) (locs : List Loc), Rel σ τ → lw_Inv s u v σ τ H locs → ∀ (ls : Array Slot), lv_has ls 4 [(0, .ref b), (1, .ref (dn_a u 0)), (2, .ref (dn_a v 100)), (3, .int x3)] → W p l e room_1 s m #[Value.ref b] below meth c H locs 106 4363 (lw_Z below #[Value.ref b] s) (F0 m 18 ls []) := by
  obtain ⟨hx, hb, hr, hml, hown, hts, hX, hbl, hlocks, hgv⟩ := id C0
  have hbA : ¬ (fun q : Nat => s.heap.size ≤ q) b := Nat.not_le.mpr hbl
  intro n
  induction n with
  | zero => intro i x3 h1 h2; exact absurd h2 (by omega)
  | succ n ih =>
    intro i x3 hi hin ex3 σ τ H locs hR I ls hl
    have hS := I.2.2
    refine lv_iload_n hx hb dL_law_18 rfl (lv_at hl 3 rfl) ?_
    refine lv_aload_n hx hb dL_law_19 rfl (lv_at hl 0 rfl) ?_
    refine va_slen hx hb hX hbl hbA hS dL_law_20 ?_
    refine lv_iconst (v := 5) hx hb dL_law_21 (by decide) ?_
    refine lv_isub hx hb dL_law_22 ?_
    refine lv_icmp_gt (tgt := 958) hx hb dL_law_23 (by decide) (fun hc => ?_) (fun hc => ?_)
    · refine lv_iconst (v := 1) hx hb dL_law_958 (by decide) ?_
      refine va_forget (fun q hq => hS.2.2 q hq) ?_
      refine W.widen (k := 600000) (n := 7302250) (Nat.le_of_ble_eq_true rfl) (Nat.le_of_ble_eq_true rfl) ?_
      exact lw_ret hx hb hr hlocks dL_law_959
    · have h5 : i + 5 ≤ L := lw_sub5 hL (by omega) (by rw [← ex3]; exact hc)
      have tail : ∀ (σ τ : dn_S) (H : Heap) (locs : List Loc), Rel σ τ → lw_Inv s u v σ τ H locs → W p l e room_1 s m #[Value.ref b] below meth c H locs 106 4363 (lw_Z below #[Value.ref b] s) (F0 m 952 ls []) := by
        intro σ τ H locs hR I
        refine lv_iinc (v := x3 + 5) (lv' := [(3, .int (x3 + 5)), (0, .ref b), (1, .ref (dn_a u 0)), (2, .ref (dn_a v 100))]) hx hb dL_law_952 hl (k := 3) rfl rfl (by decide) rfl (fun ls hl => ?_)
        refine lv_goto (tgt := 18) hx hb dL_law_955 (by decide) ?_
        exact ih (i + 5) (x3 + 5) h5 (by omega) (by rw [ex3]; exact nI_add i 5) σ τ H locs hR I ls (lv_sub hl [1, 2, 3, 0] rfl)
      have hin4 : vp_in (x3 + 1) L ∧ vp_in (x3 + 2) L ∧ vp_in (x3 + 3) L ∧ vp_in (x3 + 4) L := by
        rw [ex3]
        exact ⟨lw_in (j := 1) hL (by omega), lw_in (j := 2) hL (by omega), lw_in (j := 3) hL (by omega), lw_in (j := 4) hL (by omega)⟩
      have hin0 : vp_in x3 L := by rw [ex3]; exact vp_in_nI (by omega) (by omega)
      refine lv_aload_n hx hb dL_law_26 rfl (lv_at hl 0 rfl) ?_
      refine lv_iload_n hx hb dL_law_27 rfl (lv_at hl 3 rfl) ?_
      refine va_sld hx hb hX hbl hbA hS hin0 dL_law_28 ?_
      refine lv_bipush (v := 31) hx hb dL_law_29 (by decide) ?_
      refine lv_iand hx hb dL_law_31 ?_
      generalize xs x3.toNatClampNeg &&& 31 = x
      by_cases ho : x.toInt < 0 ∨ 28 < x.toInt
      · exact lv_tableOut (tgt := 952) hx hb dL_law_32 ho (by decide) (tail σ τ H locs hR I)
      · rcases (show x.toInt = 0 ∨ x.toInt = 1 ∨ x.toInt = 2 ∨ x.toInt = 3 ∨ x.toInt = 4 ∨ x.toInt = 5 ∨ x.toInt = 6 ∨ x.toInt = 7 ∨ x.toInt = 8 ∨ x.toInt = 9 ∨ x.toInt = 10 ∨ x.toInt = 11 ∨ x.toInt = 12 ∨ x.toInt = 13 ∨ x.toInt = 14 ∨ x.toInt = 15 ∨ x.toInt = 16 ∨ x.toInt = 17 ∨ x.toInt = 18 ∨ x.toInt = 19 ∨ x.toInt = 20 ∨ x.toInt = 21 ∨ x.toInt = 22 ∨ x.toInt = 23 ∨ x.toInt = 24 ∨ x.toInt = 25 ∨ x.toInt = 26 ∨ x.toInt = 27 ∨ x.toInt = 28 by omega) with h | h | h | h | h | h | h | h | h | h | h | h | h | h | h | h | h | h | h | h | h | h | h | h | h | h | h | h | h
        · exact lv_tableIn (off := 132) (tgt := 164) hx hb dL_law_32 (by omega) (by omega) (by rw [h]; rfl) (by decide) (lc_type C0 K0 hR I hin4 hl tail)
        · exact lv_tableIn (off := 155) (tgt := 187) hx hb dL_law_32 (by omega) (by omega) (by rw [h]; rfl) (by decide) (lc_clear C0 K0 hR I hin4 hl tail)
        · exact lv_tableIn (off := 168) (tgt := 200) hx hb dL_law_32 (by omega) (by omega) (by rw [h]; rfl) (by decide) (lc_town C0 K0 hR I hin4 hl tail)
        · exact lv_tableIn (off := 181) (tgt := 213) hx hb dL_law_32 (by omega) (by omega) (by rw [h]; rfl) (by decide) (lc_bidder C0 K0 hR I hin4 hl tail)
        · exact lv_tableIn (off := 214) (tgt := 246) hx hb dL_law_32 (by omega) (by omega) (by rw [h]; rfl) (by decide) (lc_debt C0 K0 hR I hin4 hl tail)
        · exact lv_tableIn (off := 247) (tgt := 279) hx hb dL_law_32 (by omega) (by omega) (by rw [h]; rfl) (by decide) (lc_day C0 K0 hR I hin4 hl tail)
        · exact lv_tableIn (off := 270) (tgt := 302) hx hb dL_law_32 (by omega) (by omega) (by rw [h]; rfl) (by decide) (lc_name C0 K0 hR I hin4 hl tail)
        · exact lv_tableIn (off := 303) (tgt := 335) hx hb dL_law_32 (by omega) (by omega) (by rw [h]; rfl) (by decide) (lc_now C0 K0 hR I hin4 hl tail)
        · exact lv_tableIn (off := 326) (tgt := 358) hx hb dL_law_32 (by omega) (by omega) (by rw [h]; rfl) (by decide) (lc_night C0 K0 hR I hin4 hl tail)
        · exact lv_tableIn (off := 339) (tgt := 371) hx hb dL_law_32 (by omega) (by omega) (by rw [h]; rfl) (by decide) (lc_bids C0 K0 hR I hin4 hl tail)
        · exact lv_tableIn (off := 372) (tgt := 404) hx hb dL_law_32 (by omega) (by omega) (by rw [h]; rfl) (by decide) (lc_undo C0 K0 hR I hin4 hl tail)
        · exact lv_tableIn (off := 385) (tgt := 417) hx hb dL_law_32 (by omega) (by omega) (by rw [h]; rfl) (by decide) (lc_inNights C0 K0 hR I hin4 hl tail)
        · exact lv_tableIn (off := 418) (tgt := 450) hx hb dL_law_32 (by omega) (by omega) (by rw [h]; rfl) (by decide) (lc_purseIn C0 K0 hR I hin4 hl tail)
        · exact lv_tableIn (off := 451) (tgt := 483) hx hb dL_law_32 (by omega) (by omega) (by rw [h]; rfl) (by decide) (lc_falls C0 K0 hR I hin4 hl tail)
        · exact lv_tableIn (off := 474) (tgt := 506) hx hb dL_law_32 (by omega) (by omega) (by rw [h]; rfl) (by decide) (lc_buy C0 K0 hR I hin4 hl tail)
        · exact lv_tableIn (off := 517) (tgt := 549) hx hb dL_law_32 (by omega) (by omega) (by rw [h]; rfl) (by decide) (lc_hold C0 K0 hR I hin4 hl tail)
        · exact lv_tableIn (off := 560) (tgt := 592) hx hb dL_law_32 (by omega) (by omega) (by rw [h]; rfl) (by decide) (lc_ring C0 K0 hR I hin4 hl tail)
        · exact lv_tableIn (off := 603) (tgt := 635) hx hb dL_law_32 (by omega) (by omega) (by rw [h]; rfl) (by decide) (lc_found C0 K0 hR I hin4 hl tail)
        · exact lv_tableIn (off := 636) (tgt := 668) hx hb dL_law_32 (by omega) (by omega) (by rw [h]; rfl) (by decide) (lc_forget C0 K0 hR I hin4 hl tail)
        · exact lv_tableIn (off := 649) (tgt := 681) hx hb dL_law_32 (by omega) (by omega) (by rw [h]; rfl) (by decide) (lc_mayBe C0 K0 hR I hin4 hl tail)
        · exact lv_tableIn (off := 692) (tgt := 724) hx hb dL_law_32 (by omega) (by omega) (by rw [h]; rfl) (by decide) (lc_plan C0 K0 hR I hin4 hl tail)
        · exact lv_tableIn (off := 715) (tgt := 747) hx hb dL_law_32 (by omega) (by omega) (by rw [h]; rfl) (by decide) (lc_unplan C0 K0 hR I hin4 hl tail)
        · exact lv_tableIn (off := 728) (tgt := 760) hx hb dL_law_32 (by omega) (by omega) (by rw [h]; rfl) (by decide) (lc_planned C0 K0 hR I hin4 hl tail)
        · exact lv_tableIn (off := 751) (tgt := 783) hx hb dL_law_32 (by omega) (by omega) (by rw [h]; rfl) (by decide) (lc_odds C0 K0 hR I hin4 hl tail)
        · exact lv_tableIn (off := 804) (tgt := 836) hx hb dL_law_32 (by omega) (by omega) (by rw [h]; rfl) (by decide) (lc_rate C0 K0 hR I hin4 hl tail)
        · exact lv_tableIn (off := 837) (tgt := 869) hx hb dL_law_32 (by omega) (by omega) (by rw [h]; rfl) (by decide) (lc_keep C0 K0 hR I hin4 hl tail)
        · exact lv_tableIn (off := 860) (tgt := 892) hx hb dL_law_32 (by omega) (by omega) (by rw [h]; rfl) (by decide) (lc_back C0 K0 hR I hin4 hl tail)
        · exact lv_tableIn (off := 883) (tgt := 915) hx hb dL_law_32 (by omega) (by omega) (by rw [h]; rfl) (by decide) (lc_count C0 K0 hR I hin4 hl tail)
        · exact lv_tableIn (off := 906) (tgt := 938) hx hb dL_law_32 (by omega) (by omega) (by rw [h]; rfl) (by decide) (lc_trace C0 K0 hR I hin4 hl tail)
