/-! pictures of the methods (the class), printed by wip/whole/gen_code.py out of the bytecode -/
def m_X11_within (a1 : Int32) (a2 : Int32) (a3 : Int32) (s : dn_S) : Option (Bool × dn_S) := (if a1 < a2 then some (false, s) else (if a3 < a1 then some (false, s) else some (true, s)))
def m_X11_put (k1 : Nat) (n1 : Nat) (a2 : Int32) (a3 : Int32) (s : dn_S) : Option (Unit × dn_S) := (if a2 < 0 then some ((), s) else (if Int32.ofNat n1 ≤ a2 then some ((), s) else dn_ck (dn_ib a2 n1) (dn_wr (dn_p s k1 a2.toNatClampNeg a3) fun s1 => some ((), s1))))
def m_X9_add (a1 : Int32) (s : dn_S) : Option (Unit × dn_S) := dn_bd (m_X11_put 2 200 (dn_g s 1 1) a1 s) fun _ s1 => dn_wr (dn_p s1 1 1 ((dn_g s1 1 1) + 1)) fun s4 => some ((), s4)
def m_X11_type (a1 : Int32) (s : dn_S) : Option (Int32 × dn_S) := dn_bd (m_X11_within a1 0 255 s) fun r3 s1 => (if r3 = true then (if dn_g s1 1 1 < 200 then dn_bd (m_X9_add a1 s1) fun _ s4 => some (dn_g s4 1 1, s4) else some ((-3), s1)) else some ((-1), s1))
def m_X9_empty (s : dn_S) : Option (Int32 × dn_S) := dn_lt (dn_g s 1 1) fun x1 => dn_wr (dn_p s 1 1 0) fun s2 => some (x1, s2)
def m_X11_clear (s : dn_S) : Option (Int32 × dn_S) := dn_bd (m_X9_empty s) fun r3 s1 => some (r3, s1)
def m_X10_empty (k : Nat) (s : dn_S) : Option (Unit × dn_S) := dn_wr (dn_p s k 2 0) fun s1 => dn_wr (dn_p s1 k 3 0) fun s2 => dn_wr (dn_p s2 k 4 1) fun s3 => some ((), s3)
def m_X9_letter (a1 : Int32) (s : dn_S) : Option (Int32 × dn_S) := (if a1 < 0 then some (0, s) else (if 200 ≤ a1 then some (0, s) else dn_ck (dn_ib a1 200) (some (dn_g s 2 a1.toNatClampNeg, s))))
def m_X8_isDigit (a1 : Int32) (s : dn_S) : Option (Bool × dn_S) := (if a1 < 48 then some (false, s) else (if 57 < a1 then some (false, s) else some (true, s)))
def m_X8_takeNumber_129 (s : dn_S) : Option (Unit × dn_S) := dn_wr (dn_p s 6 4 258) fun s1 => some ((), s1)
def m_X8_takeNumber_114 (z0 : Bool) (s : dn_S) : Option (Unit × dn_S) := (if z0 = true then m_X8_takeNumber_129 s else (if dn_g s 6 5 ≤ 99 then dn_wr (dn_p s 6 4 256) fun s1 => some ((), s1) else m_X8_takeNumber_129 s))
def m_X8_takeNumber_113 (s : dn_S) : Option (Unit × dn_S) := m_X8_takeNumber_114 false s
def m_X8_takeNumber_80 (s : dn_S) : Option (Unit × dn_S) := dn_bd (m_X9_letter (dn_g s 6 3) s) fun r3 s1 => (if r3 = 48 then (if dn_g s1 6 2 ≤ (dn_g s1 6 3) + 1 then m_X8_takeNumber_113 s1 else m_X8_takeNumber_114 true s1) else m_X8_takeNumber_113 s1)
def m_X8_takeNumber_5 : Nat → dn_S → Option (Unit × dn_S)
  | 0, _ => none
  | n + 1, s => (if dn_g s 1 1 ≤ dn_g s 6 2 then m_X8_takeNumber_80 s else dn_bd (m_X9_letter (dn_g s 6 2) s) fun r3 s1 => dn_bd (m_X8_isDigit r3 s1) fun r6 s4 => (if r6 = true then dn_bd (m_X9_letter (dn_g s4 6 2) s4) fun r9 s7 => dn_wr (dn_p s7 6 5 (dn_mn 100 ((((dn_g s4 6 5) * 10) + r9) - 48))) fun s10 => dn_wr (dn_p s10 6 2 ((dn_g s10 6 2) + 1)) fun s11 => m_X8_takeNumber_5 n s11 else m_X8_takeNumber_80 s4))
def m_X8_takeNumber (s : dn_S) : Option (Unit × dn_S) := dn_wr (dn_p s 6 5 0) fun s1 => m_X8_takeNumber_5 2048 s1
def m_X8_nextToken_129 (z0 : Int32) (s : dn_S) : Option (Unit × dn_S) := dn_wr (dn_p s 6 4 z0) fun s1 => dn_wr (dn_p s1 6 2 ((dn_g s1 6 2) + 1)) fun s2 => some ((), s2)
def m_X8_nextToken_122 (y1 : Int32) (s : dn_S) : Option (Unit × dn_S) := m_X8_nextToken_129 y1 s
def m_X8_nextToken_43 (s : dn_S) : Option (Unit × dn_S) := dn_wr (dn_p s 6 3 (dn_g s 6 2)) fun s1 => (if dn_g s1 6 2 < dn_g s1 1 1 then dn_bd (m_X9_letter (dn_g s1 6 2) s1) fun r4 s2 => dn_bd (m_X8_isDigit r4 s2) fun r7 s5 => (if r7 = true then dn_bd (m_X8_takeNumber s5) fun _ s8 => some ((), s8) else (if r4 = 98 then m_X8_nextToken_122 r4 s5 else (if r4 = 114 then m_X8_nextToken_122 r4 s5 else (if r4 = 111 then m_X8_nextToken_122 r4 s5 else (if r4 = 59 then m_X8_nextToken_122 r4 s5 else m_X8_nextToken_129 258 s5))))) else dn_wr (dn_p s1 6 4 257) fun s11 => some ((), s11))
def m_X8_nextToken_0 : Nat → dn_S → Option (Unit × dn_S)
  | 0, _ => none
  | n + 1, s => (if dn_g s 1 1 ≤ dn_g s 6 2 then m_X8_nextToken_43 s else dn_bd (m_X9_letter (dn_g s 6 2) s) fun r3 s1 => (if r3 = 32 then dn_wr (dn_p s1 6 2 ((dn_g s1 6 2) + 1)) fun s4 => m_X8_nextToken_0 n s4 else m_X8_nextToken_43 s1))
def m_X8_nextToken (s : dn_S) : Option (Unit × dn_S) := m_X8_nextToken_0 2048 s
def m_X11_at_s (n1 : Nat) (f1 : Nat → Int32) (a2 : Int32) (s : dn_S) : Option (Int32 × dn_S) := (if a2 < 0 then some (0, s) else (if Int32.ofNat n1 ≤ a2 then some (0, s) else dn_ck (dn_ib a2 n1) (some (f1 a2.toNatClampNeg, s))))
def m_X11_at (k1 : Nat) (n1 : Nat) (a2 : Int32) (s : dn_S) : Option (Int32 × dn_S) := (if a2 < 0 then some (0, s) else (if Int32.ofNat n1 ≤ a2 then some (0, s) else dn_ck (dn_ib a2 n1) (some (dn_g s k1 a2.toNatClampNeg, s))))
def m_X8_readsNumber (a1 : Int32) (a2 : Int32) (s : dn_S) : Option (Bool × dn_S) := dn_bd (m_X8_nextToken s) fun _ s1 => (if dn_g s1 6 4 = 256 then dn_bd (m_X11_within (dn_g s1 6 5) a1 a2 s1) fun r6 s4 => (if r6 = true then some (true, s4) else some (false, s4)) else some (false, s1))
def m_X10_setOfBidder (k : Nat) (a1 : Int32) (a2 : Int32) (a3 : Int32) (s : dn_S) : Option (Unit × dn_S) := dn_bd (m_X11_put (k + 1) 28 ((a1 * 7) + a2) a3 s) fun _ s1 => some ((), s1)
def m_X8_readsEnd (s : dn_S) : Option (Bool × dn_S) := dn_bd (m_X8_nextToken s) fun _ s1 => (if dn_g s1 6 4 = 59 then some (true, s1) else some (false, s1))
def m_X8_readsBidder_17 : Nat → Int32 → Int32 → dn_S → Option (Bool × dn_S)
  | 0, _, _, _ => none
  | n + 1, y1, y2, s => (if 7 ≤ y2 then dn_bd (m_X8_readsEnd s) fun r3 s1 => (if r3 = true then dn_wr (dn_p s1 7 2 ((dn_g s1 7 2) + 1)) fun s4 => some (true, s4) else some (false, s1)) else dn_bd (m_X11_at_s 7 dn_st0 y2 s) fun r7 s5 => dn_bd (m_X8_readsNumber 0 r7 s5) fun r10 s8 => (if r10 = true then dn_bd (m_X10_setOfBidder 7 y1 y2 (dn_g s8 6 5) s8) fun _ s11 => dn_lt (y2 + 1) fun x14 => m_X8_readsBidder_17 n y1 x14 s11 else some (false, s8)))
def m_X8_readsBidder (s : dn_S) : Option (Bool × dn_S) := dn_lt (dn_g s 7 2) fun x1 => (if x1 < 4 then m_X8_readsBidder_17 2048 x1 0 s else some (false, s))
def m_X8_readsBar (s : dn_S) : Option (Bool × dn_S) := (if dn_g s 6 6 = 0 then dn_bd (m_X8_readsNumber 0 7 s) fun r3 s1 => (if r3 = true then dn_wr (dn_p s1 6 6 (dn_b true)) fun s4 => dn_wr (dn_p s4 7 4 (dn_g s4 6 5)) fun s5 => dn_bd (m_X8_readsEnd s5) fun r8 s6 => some (r8, s6) else some (false, s1)) else some (false, s))
def m_X10_ofDebt (k : Nat) (a1 : Int32) (a2 : Int32) (s : dn_S) : Option (Int32 × dn_S) := dn_bd (m_X11_at (k + 2) 30 ((a1 * 5) + a2) s) fun r3 s1 => some (r3, s1)
def m_X10_setOfDebt (k : Nat) (a1 : Int32) (a2 : Int32) (a3 : Int32) (s : dn_S) : Option (Unit × dn_S) := dn_bd (m_X11_put (k + 2) 30 ((a1 * 5) + a2) a3 s) fun _ s1 => some ((), s1)
def m_X8_readsDebt_88 (K18 : Int32 → Int32 → dn_S → Option (Bool × dn_S)) (y1 : Int32) (y2 : Int32) (s : dn_S) : Option (Bool × dn_S) := dn_bd (m_X10_setOfDebt 7 y1 y2 (dn_g s 6 5) s) fun _ s1 => dn_lt (y2 + 1) fun x4 => K18 y1 x4 s1
def m_X8_readsDebt_47 (K18 : Int32 → Int32 → dn_S → Option (Bool × dn_S)) (y1 : Int32) (y2 : Int32) (z0 : Int32) (s : dn_S) : Option (Bool × dn_S) := dn_bd (m_X11_at_s 5 dn_st1 y2 s) fun r3 s1 => dn_bd (m_X8_readsNumber r3 z0 s1) fun r6 s4 => (if r6 = true then (if y2 = 1 then dn_bd (m_X10_ofDebt 7 y1 0 s4) fun r9 s7 => (if dn_g s4 6 5 = r9 then some (false, s7) else m_X8_readsDebt_88 K18 y1 y2 s7) else m_X8_readsDebt_88 K18 y1 y2 s4) else some (false, s4))
def m_X8_readsDebt_18 : Nat → Int32 → Int32 → dn_S → Option (Bool × dn_S)
  | 0, _, _, _ => none
  | n + 1, y1, y2, s => (if 5 ≤ y2 then dn_bd (m_X8_readsEnd s) fun r3 s1 => (if r3 = true then dn_wr (dn_p s1 7 3 ((dn_g s1 7 3) + 1)) fun s4 => some (true, s4) else some (false, s1)) else (if 1 < y2 then dn_bd (m_X11_at_s 5 dn_st2 y2 s) fun r7 s5 => m_X8_readsDebt_47 (m_X8_readsDebt_18 n) y1 y2 r7 s5 else m_X8_readsDebt_47 (m_X8_readsDebt_18 n) y1 y2 ((dn_g s 7 2) - 1) s))
def m_X8_readsDebt (s : dn_S) : Option (Bool × dn_S) := dn_lt (dn_g s 7 3) fun x1 => (if x1 < 6 then m_X8_readsDebt_18 2048 x1 0 s else some (false, s))
def m_X8_read_110 (K21 : Int32 → Int32 → dn_S → Option (Int32 × dn_S)) (y1 : Int32) (y2 : Int32) (y3 : Bool) (s : dn_S) : Option (Int32 × dn_S) := (if y3 = true then dn_lt (y1 + 1) fun x1 => dn_lt (y2 + 1) fun x2 => K21 x1 x2 s else some ((-10) - (dn_g s 6 3), s))
def m_X8_read_21 : Nat → Int32 → Int32 → dn_S → Option (Int32 × dn_S)
  | 0, _, _, _ => none
  | n + 1, y1, y2, s => (if 200 ≤ y2 then some (y1, s) else dn_bd (m_X8_nextToken s) fun _ s1 => (if dn_g s1 6 4 = 257 then some (y1, s1) else (if dn_g s1 6 4 = 98 then dn_bd (m_X8_readsBidder s1) fun r7 s5 => m_X8_read_110 (m_X8_read_21 n) y1 y2 r7 s5 else if dn_g s1 6 4 = 111 then dn_bd (m_X8_readsDebt s1) fun r11 s9 => m_X8_read_110 (m_X8_read_21 n) y1 y2 r11 s9 else if dn_g s1 6 4 = 114 then dn_bd (m_X8_readsBar s1) fun r15 s13 => m_X8_read_110 (m_X8_read_21 n) y1 y2 r15 s13 else m_X8_read_110 (m_X8_read_21 n) y1 y2 false s1)))
def m_X8_read (s : dn_S) : Option (Int32 × dn_S) := dn_wr (dn_p s 6 2 0) fun s1 => dn_wr (dn_p s1 6 6 (dn_b false)) fun s2 => dn_bd (m_X10_empty 7 s2) fun _ s3 => m_X8_read_21 2048 0 0 s3
def m_X11_copyRow_2 (k1 : Nat) (n1 : Nat) (k2 : Nat) (n2 : Nat) : Nat → Int32 → dn_S → Option (Unit × dn_S)
  | 0, _, _ => none
  | n + 1, y2, s => (if Int32.ofNat n1 ≤ y2 then some ((), s) else (if Int32.ofNat n2 ≤ y2 then some ((), s) else dn_ck (dn_ib y2 n1) (dn_ck (dn_ib y2 n2) (dn_wr (dn_p s k2 y2.toNatClampNeg (dn_g s k1 y2.toNatClampNeg)) fun s1 => dn_lt (y2 + 1) fun x2 => m_X11_copyRow_2 k1 n1 k2 n2 n x2 s1))))
def m_X11_copyRow (k1 : Nat) (n1 : Nat) (k2 : Nat) (n2 : Nat) (s : dn_S) : Option (Unit × dn_S) := m_X11_copyRow_2 k1 n1 k2 n2 2048 0 s
def m_X10_copyFrom (k : Nat) (k1 : Nat) (s : dn_S) : Option (Unit × dn_S) := dn_bd (m_X11_copyRow (k1 + 1) 28 (k + 1) 28 s) fun _ s1 => dn_bd (m_X11_copyRow (k1 + 2) 30 (k + 2) 30 s1) fun _ s4 => dn_wr (dn_p s4 k 2 (dn_g s4 k1 2)) fun s7 => dn_wr (dn_p s7 k 3 (dn_g s7 k1 3)) fun s8 => dn_wr (dn_p s8 k 4 (dn_g s8 k1 4)) fun s9 => some ((), s9)
def m_X10_ofBidder (k : Nat) (a1 : Int32) (a2 : Int32) (s : dn_S) : Option (Int32 × dn_S) := dn_bd (m_X11_at (k + 1) 28 ((a1 * 7) + a2) s) fun r3 s1 => some (r3, s1)
def m_X3_dropOwn (k : Nat) (s : dn_S) : Option (Unit × dn_S) := dn_wr (dn_p s k 6 (-9)) fun s1 => dn_wr (dn_p s1 k 7 0) fun s2 => some ((), s2)
def m_X3_begin_31 (k : Nat) (k1 : Nat) : Nat → Int32 → dn_S → Option (Unit × dn_S)
  | 0, _, _ => none
  | n + 1, y2, s => (if 6 ≤ y2 then dn_wr (dn_p s k 3 0) fun s1 => dn_wr (dn_p s1 k 4 0) fun s2 => dn_wr (dn_p s2 k 5 0) fun s3 => dn_bd (m_X3_dropOwn k s3) fun _ s4 => some ((), s4) else dn_ck (dn_ib y2 6) (dn_wr (dn_p s (k + 3) y2.toNatClampNeg 0) fun s7 => dn_lt (y2 + 1) fun x8 => m_X3_begin_31 k k1 n x8 s7))
def m_X3_begin_2 (k : Nat) (k1 : Nat) : Nat → Int32 → dn_S → Option (Unit × dn_S)
  | 0, _, _ => none
  | n + 1, y2, s => (if 4 ≤ y2 then m_X3_begin_31 k k1 2048 0 s else dn_bd (m_X10_ofBidder k1 y2 0 s) fun r3 s1 => dn_ck (dn_ib y2 4) (dn_wr (dn_p s1 (k + 2) y2.toNatClampNeg r3) fun s4 => dn_lt (y2 + 1) fun x5 => m_X3_begin_2 k k1 n x5 s4))
def m_X3_begin (k : Nat) (k1 : Nat) (s : dn_S) : Option (Unit × dn_S) := m_X3_begin_2 k k1 2048 0 s
def m_X2_empty (s : dn_S) : Option (Int32 × dn_S) := dn_lt (dn_g s 23 5) fun x1 => dn_wr (dn_p s 23 5 0) fun s2 => some (x1, s2)
def m_X0_empty (s : dn_S) : Option (Int32 × dn_S) := dn_lt (dn_g s 30 3) fun x1 => dn_wr (dn_p s 30 3 0) fun s2 => some (x1, s2)
def m_X6_loseAll_7 : Nat → Int32 → dn_S → Option (Unit × dn_S)
  | 0, _, _ => none
  | n + 1, y1, s => (if 2 ≤ y1 then some ((), s) else dn_ck (dn_ib y1 2) (dn_wr (dn_p s 39 y1.toNatClampNeg (dn_b false)) fun s1 => dn_lt (y1 + 1) fun x2 => m_X6_loseAll_7 n x2 s1))
def m_X6_loseAll (s : dn_S) : Option (Unit × dn_S) := dn_wr (dn_p s 36 4 0) fun s1 => m_X6_loseAll_7 2048 0 s1
def m_X11_town (s : dn_S) : Option (Int32 × dn_S) := dn_bd (m_X8_read s) fun r3 s1 => (if 0 ≤ r3 then dn_bd (m_X10_copyFrom 3 7 s1) fun _ s4 => dn_bd (m_X3_begin 10 3 s4) fun _ s7 => dn_bd (m_X2_empty s7) fun r12 s10 => dn_bd (m_X0_empty s10) fun r15 s13 => dn_bd (m_X6_loseAll s13) fun _ s16 => dn_bd (m_X9_empty s16) fun r21 s19 => some (r3, s19) else some (r3, s1))
def m_X11_isBidder (a1 : Int32) (s : dn_S) : Option (Bool × dn_S) := dn_bd (m_X11_within a1 0 ((dn_g s 3 2) - 1) s) fun r3 s1 => some (r3, s1)
def m_X3_purse (k : Nat) (a1 : Int32) (s : dn_S) : Option (Int32 × dn_S) := dn_bd (m_X11_at (k + 2) 4 a1 s) fun r3 s1 => some (r3, s1)
def m_X11_bidder (a1 : Int32) (a2 : Int32) (s : dn_S) : Option (Int32 × dn_S) := dn_bd (m_X11_isBidder a1 s) fun r3 s1 => (if r3 = true then dn_bd (m_X11_within a2 0 6 s1) fun r6 s4 => (if r6 = true then (if a2 = 0 then dn_bd (m_X3_purse 10 a1 s4) fun r12 s10 => some (r12, s10) else dn_bd (m_X10_ofBidder 3 a1 a2 s4) fun r9 s7 => some (r9, s7)) else some ((-1), s4)) else some ((-1), s1))
def m_X11_isDebt (a1 : Int32) (s : dn_S) : Option (Bool × dn_S) := dn_bd (m_X11_within a1 0 ((dn_g s 3 3) - 1) s) fun r3 s1 => some (r3, s1)
def m_X3_howIs (k : Nat) (a1 : Int32) (s : dn_S) : Option (Int32 × dn_S) := dn_bd (m_X11_at (k + 3) 6 a1 s) fun r3 s1 => some (r3, s1)
def m_X11_debt (a1 : Int32) (a2 : Int32) (s : dn_S) : Option (Int32 × dn_S) := dn_bd (m_X11_isDebt a1 s) fun r3 s1 => (if r3 = true then dn_bd (m_X11_within a2 0 5 s1) fun r6 s4 => (if r6 = true then (if a2 = 5 then dn_bd (m_X3_howIs 10 a1 s4) fun r12 s10 => some (r12, s10) else dn_bd (m_X10_ofDebt 3 a1 a2 s4) fun r9 s7 => some (r9, s7)) else some ((-1), s4)) else some ((-1), s1))
def m_X3_nameOfDay (k : Nat) (a1 : Int32) (s : dn_S) : Option (Int32 × dn_S) := dn_bd (m_X11_at (k + 1) 100 (a1 - 1) s) fun r3 s1 => some (r3, s1)
def m_X11_day (a1 : Int32) (s : dn_S) : Option (Int32 × dn_S) := dn_bd (m_X11_within a1 1 (dn_g s 10 3) s) fun r3 s1 => (if r3 = true then dn_bd (m_X3_nameOfDay 10 a1 s1) fun r6 s4 => some (r6, s4) else some ((-1), s1))
def m_X11_isName (a1 : Int32) (s : dn_S) : Option (Bool × dn_S) := dn_bd (m_X11_within a1 0 4 s) fun r3 s1 => some (r3, s1)
def m_X3_daysCalled_24 (k : Nat) (K4 : Int32 → Int32 → Int32 → dn_S → Option (Int32 × dn_S)) (y1 : Int32) (y2 : Int32) (y3 : Int32) (s : dn_S) : Option (Int32 × dn_S) := dn_lt (y3 + 1) fun x1 => K4 y1 y2 x1 s
def m_X3_daysCalled_4 (k : Nat) : Nat → Int32 → Int32 → Int32 → dn_S → Option (Int32 × dn_S)
  | 0, _, _, _, _ => none
  | n + 1, y1, y2, y3, s => (if dn_g s k 3 < y3 then some (y2, s) else dn_bd (m_X3_nameOfDay k y3 s) fun r3 s1 => (if r3 = y1 then dn_lt (y2 + 1) fun x4 => m_X3_daysCalled_24 k (m_X3_daysCalled_4 k n) y1 x4 y3 s1 else m_X3_daysCalled_24 k (m_X3_daysCalled_4 k n) y1 y2 y3 s1))
def m_X3_daysCalled (k : Nat) (a1 : Int32) (s : dn_S) : Option (Int32 × dn_S) := m_X3_daysCalled_4 k 2048 a1 0 1 s
def m_X3_latestCalled_5 (k : Nat) : Nat → Int32 → Int32 → dn_S → Option (Int32 × dn_S)
  | 0, _, _, _ => none
  | n + 1, y1, y2, s => (if y2 < 1 then some (0, s) else dn_bd (m_X3_nameOfDay k y2 s) fun r3 s1 => (if r3 = y1 then some (y2, s1) else dn_lt (y2 + (-1)) fun x4 => m_X3_latestCalled_5 k n y1 x4 s1))
def m_X3_latestCalled (k : Nat) (a1 : Int32) (s : dn_S) : Option (Int32 × dn_S) := dn_lt (dn_g s k 3) fun x1 => m_X3_latestCalled_5 k 2048 a1 x1 s
def m_X3_isBarred_2 (k : Nat) : Nat → Int32 → Int32 → Int32 → dn_S → Option (Bool × dn_S)
  | 0, _, _, _, _ => none
  | n + 1, y1, y2, y3, s => (if y2 < y3 then some (false, s) else (if dn_g s k 3 < y3 then some (false, s) else dn_bd (m_X11_at (k + 1) 100 ((dn_g s k 3) - y3) s) fun r3 s1 => (if r3 = y1 then some (true, s1) else dn_lt (y3 + 1) fun x4 => m_X3_isBarred_2 k n y1 y2 x4 s1)))
def m_X3_isBarred (k : Nat) (a1 : Int32) (a2 : Int32) (s : dn_S) : Option (Bool × dn_S) := m_X3_isBarred_2 k 2048 a1 a2 1 s
def m_X11_name (a1 : Int32) (a2 : Int32) (s : dn_S) : Option (Int32 × dn_S) := dn_bd (m_X11_isName a1 s) fun r3 s1 => (if r3 = true then (if a2 = 0 then dn_bd (m_X3_daysCalled 10 a1 s1) fun r7 s5 => some (r7, s5) else if a2 = 1 then dn_bd (m_X3_latestCalled 10 a1 s1) fun r11 s9 => some (r11, s9) else if a2 = 2 then dn_bd (m_X3_isBarred 10 a1 (dn_g s1 3 4) s1) fun r15 s13 => (if r15 = true then some (1, s13) else some (0, s13)) else some ((-1), s1)) else some ((-1), s1))
def m_X3_defaults_26 (k : Nat) (K4 : Int32 → Int32 → dn_S → Option (Int32 × dn_S)) (y1 : Int32) (y2 : Int32) (s : dn_S) : Option (Int32 × dn_S) := dn_lt (y2 + 1) fun x1 => K4 y1 x1 s
def m_X3_defaults_4 (k : Nat) : Nat → Int32 → Int32 → dn_S → Option (Int32 × dn_S)
  | 0, _, _, _ => none
  | n + 1, y1, y2, s => (if 6 ≤ y2 then some (y1, s) else dn_ck (dn_ib y2 6) ((if dn_g s (k + 3) y2.toNatClampNeg = 2 then dn_lt (y1 + 1) fun x1 => m_X3_defaults_26 k (m_X3_defaults_4 k n) x1 y2 s else m_X3_defaults_26 k (m_X3_defaults_4 k n) y1 y2 s)))
def m_X3_defaults (k : Nat) (s : dn_S) : Option (Int32 × dn_S) := m_X3_defaults_4 k 2048 0 0 s
def m_X10_worth (k : Nat) (a1 : Int32) (a2 : Int32) (s : dn_S) : Option (Int32 × dn_S) := dn_bd (m_X11_at (k + 1) 28 (((a1 * 7) + 2) + a2) s) fun r3 s1 => some (r3, s1)
def m_X10_isWanted_2 (k : Nat) : Nat → Int32 → Int32 → dn_S → Option (Bool × dn_S)
  | 0, _, _, _ => none
  | n + 1, y1, y2, s => (if dn_g s k 2 ≤ y2 then some (false, s) else dn_bd (m_X10_worth k y2 y1 s) fun r3 s1 => (if r3 ≤ 0 then dn_lt (y2 + 1) fun x4 => m_X10_isWanted_2 k n y1 x4 s1 else some (true, s1)))
def m_X10_isWanted (k : Nat) (a1 : Int32) (s : dn_S) : Option (Bool × dn_S) := m_X10_isWanted_2 k 2048 a1 0 s
def m_X11_neverDue_51 (K4 : Int32 → Int32 → dn_S → Option (Int32 × dn_S)) (y1 : Int32) (y2 : Int32) (s : dn_S) : Option (Int32 × dn_S) := dn_lt (y2 + 1) fun x1 => K4 y1 x1 s
def m_X11_neverDue_4 : Nat → Int32 → Int32 → dn_S → Option (Int32 × dn_S)
  | 0, _, _, _ => none
  | n + 1, y1, y2, s => (if dn_g s 3 3 ≤ y2 then some (y1, s) else dn_bd (m_X3_howIs 10 y2 s) fun r3 s1 => (if r3 = 0 then dn_bd (m_X10_ofDebt 3 y2 4 s1) fun r6 s4 => dn_bd (m_X10_isWanted 3 r6 s4) fun r9 s7 => (if r9 = true then m_X11_neverDue_51 (m_X11_neverDue_4 n) y1 y2 s7 else dn_lt (y1 ||| (dn_shl 1 y2)) fun x10 => m_X11_neverDue_51 (m_X11_neverDue_4 n) x10 y2 s7) else m_X11_neverDue_51 (m_X11_neverDue_4 n) y1 y2 s1))
def m_X11_neverDue (s : dn_S) : Option (Int32 × dn_S) := m_X11_neverDue_4 2048 0 0 s
def m_X11_now (a1 : Int32) (s : dn_S) : Option (Int32 × dn_S) := (if a1 = 0 then some (dn_g s 10 3, s) else if a1 = 1 then some (dn_g s 10 4, s) else if a1 = 2 then some (dn_g s 10 5, s) else if a1 = 3 then dn_bd (m_X3_defaults 10 s) fun r7 s5 => some (r7, s5) else if a1 = 4 then dn_bd (m_X11_neverDue s) fun r11 s9 => some (r11, s9) else if a1 = 5 then some (dn_g s 36 4, s) else some ((-1), s))
def m_X6_momentAt (k1 : Nat) (n1 : Nat) (a2 : Int32) (s : dn_S) : Option (Unit × dn_S) := (if a2 < 0 then none else (if Int32.ofNat n1 ≤ a2 then none else dn_ck (dn_ib a2 n1) (some ((), s))))
def m_X3_copyFrom (k : Nat) (k1 : Nat) (s : dn_S) : Option (Unit × dn_S) := dn_bd (m_X11_copyRow (k1 + 1) 100 (k + 1) 100 s) fun _ s1 => dn_bd (m_X11_copyRow (k1 + 2) 4 (k + 2) 4 s1) fun _ s4 => dn_bd (m_X11_copyRow (k1 + 3) 6 (k + 3) 6 s4) fun _ s7 => dn_wr (dn_p s7 k 3 (dn_g s7 k1 3)) fun s10 => dn_wr (dn_p s10 k 4 (dn_g s10 k1 4)) fun s11 => dn_wr (dn_p s11 k 5 (dn_g s11 k1 5)) fun s12 => dn_wr (dn_p s12 k 6 (dn_g s12 k1 6)) fun s13 => dn_wr (dn_p s13 k 7 (dn_g s13 k1 7)) fun s14 => some ((), s14)
def m_X6_remember (k1 : Nat) (s : dn_S) : Option (Unit × dn_S) := dn_bd (m_X6_momentAt 37 10 (dn_g s 36 3) s) fun _ s1 => dn_bd (m_X3_copyFrom (dn_rb 37 + 4 * (dn_g s 36 3).toNatClampNeg) k1 s1) fun _ s4 => dn_ck (dn_nz 10) (dn_wr (dn_p s4 36 3 (dn_rm ((dn_g s4 36 3) + 1) 10)) fun s7 => dn_wr (dn_p s7 36 4 (dn_mn 10 ((dn_g s7 36 4) + 1))) fun s8 => some ((), s8))
def m_X1_set (a1 : Int32) (a2 : Int32) (a3 : Int32) (s : dn_S) : Option (Unit × dn_S) := dn_bd (m_X11_put 16 5 a1 a2 s) fun _ s1 => dn_bd (m_X11_put 17 5 a1 a3 s1) fun _ s4 => some ((), s4)
def m_X1_raise (k1 : Nat) (k2 : Nat) (a3 : Int32) (a4 : Int32) (s : dn_S) : Option (Unit × dn_S) := dn_bd (m_X10_worth k1 a3 a4 s) fun r3 s1 => dn_bd (m_X11_at 17 5 a3 s1) fun r6 s4 => (if r3 ≤ r6 then some ((), s4) else dn_bd (m_X3_purse k2 a3 s4) fun r9 s7 => (if r3 ≤ r9 then dn_bd (m_X3_isBarred k2 a4 (dn_g s7 k1 4) s7) fun r12 s10 => (if r12 = true then some ((), s10) else dn_bd (m_X1_set a3 a4 r3 s10) fun _ s13 => some ((), s13)) else some ((), s7)))
def m_X1_callFor_37 (k1 : Nat) (k2 : Nat) (K26 : Int32 → dn_S → Option (Unit × dn_S)) : Nat → Int32 → Int32 → dn_S → Option (Unit × dn_S)
  | 0, _, _, _ => none
  | n + 1, y3, y4, s => (if 5 ≤ y4 then dn_lt (y3 + 1) fun x1 => K26 x1 s else dn_bd (m_X1_raise k1 k2 y3 y4 s) fun _ s2 => dn_lt (y4 + 1) fun x5 => m_X1_callFor_37 k1 k2 K26 n y3 x5 s2)
def m_X1_callFor_26 (k1 : Nat) (k2 : Nat) : Nat → Int32 → dn_S → Option (Unit × dn_S)
  | 0, _, _ => none
  | n + 1, y3, s => (if dn_g s k1 2 ≤ y3 then some ((), s) else m_X1_callFor_37 k1 k2 (m_X1_callFor_26 k1 k2 n) 2048 y3 0 s)
def m_X1_callFor_2 (k1 : Nat) (k2 : Nat) : Nat → Int32 → dn_S → Option (Unit × dn_S)
  | 0, _, _ => none
  | n + 1, y3, s => (if 5 ≤ y3 then m_X1_callFor_26 k1 k2 2048 0 s else dn_ck (dn_ib y3 5) (dn_wr (dn_p s 17 y3.toNatClampNeg 0) fun s1 => dn_lt (y3 + 1) fun x2 => m_X1_callFor_2 k1 k2 n x2 s1))
def m_X1_callFor (k1 : Nat) (k2 : Nat) (s : dn_S) : Option (Unit × dn_S) := m_X1_callFor_2 k1 k2 2048 0 s
def m_X4_open (k1 : Nat) (s : dn_S) : Option (Unit × dn_S) := dn_bd (m_X1_callFor 3 k1 s) fun _ s1 => some ((), s1)
def m_X4_bidOwn (k1 : Nat) (a2 : Int32) (a3 : Int32) (s : dn_S) : Option (Unit × dn_S) := dn_bd (m_X11_isName a2 s) fun r3 s1 => (if r3 = true then dn_bd (m_X3_isBarred k1 a2 (dn_g s1 3 4) s1) fun r6 s4 => (if r6 = true then some ((), s4) else dn_bd (m_X1_set 4 a2 a3 s4) fun _ s7 => some ((), s7)) else some ((), s1))
def m_X1_winner_35 (K7 : Int32 → Int32 → Int32 → dn_S → Option (Int32 × dn_S)) (y1 : Int32) (y2 : Int32) (y3 : Int32) (s : dn_S) : Option (Int32 × dn_S) := dn_lt (y3 + 1) fun x1 => K7 y1 y2 x1 s
def m_X1_winner_7 : Nat → Int32 → Int32 → Int32 → dn_S → Option (Int32 × dn_S)
  | 0, _, _, _, _ => none
  | n + 1, y1, y2, y3, s => (if 5 ≤ y3 then some (y1, s) else dn_ck (dn_ib y3 5) ((if dn_g s 17 y3.toNatClampNeg ≤ y2 then m_X1_winner_35 (m_X1_winner_7 n) y1 y2 y3 s else dn_ck (dn_ib y3 5) (dn_lt (dn_g s 17 y3.toNatClampNeg) fun x1 => m_X1_winner_35 (m_X1_winner_7 n) y3 x1 y3 s))))
def m_X1_winner (s : dn_S) : Option (Int32 × dn_S) := m_X1_winner_7 2048 (-9) 0 0 s
def m_X1_price_29 (K4 : Int32 → Int32 → Int32 → dn_S → Option (Int32 × dn_S)) (y1 : Int32) (y2 : Int32) (y3 : Int32) (s : dn_S) : Option (Int32 × dn_S) := dn_lt (y3 + 1) fun x1 => K4 y1 y2 x1 s
def m_X1_price_4 : Nat → Int32 → Int32 → Int32 → dn_S → Option (Int32 × dn_S)
  | 0, _, _, _, _ => none
  | n + 1, y1, y2, y3, s => (if 5 ≤ y3 then dn_bd (m_X11_at 17 5 y1 s) fun r3 s1 => some (dn_mn r3 (y2 + 1), s1) else (if y3 = y1 then m_X1_price_29 (m_X1_price_4 n) y1 y2 y3 s else dn_ck (dn_ib y3 5) (dn_lt (dn_mx y2 (dn_g s 17 y3.toNatClampNeg)) fun x4 => m_X1_price_29 (m_X1_price_4 n) y1 x4 y3 s)))
def m_X1_price (a1 : Int32) (s : dn_S) : Option (Int32 × dn_S) := m_X1_price_4 2048 a1 0 0 s
def m_X3_addToPurse (k : Nat) (a1 : Int32) (a2 : Int32) (s : dn_S) : Option (Unit × dn_S) := dn_bd (m_X11_at (k + 2) 4 a1 s) fun r3 s1 => dn_bd (m_X11_put (k + 2) 4 a1 (r3 + a2) s1) fun _ s4 => some ((), s4)
def m_X1_nameOf (a1 : Int32) (s : dn_S) : Option (Int32 × dn_S) := dn_bd (m_X11_at 16 5 a1 s) fun r3 s1 => some (r3, s1)
def m_X3_addDay (k : Nat) (a1 : Int32) (s : dn_S) : Option (Unit × dn_S) := dn_bd (m_X11_put (k + 1) 100 (dn_g s k 3) a1 s) fun _ s1 => dn_wr (dn_p s1 k 3 ((dn_g s1 k 3) + 1)) fun s4 => some ((), s4)
def m_X3_setHowIs (k : Nat) (a1 : Int32) (a2 : Int32) (s : dn_S) : Option (Unit × dn_S) := dn_bd (m_X11_put (k + 3) 6 a1 a2 s) fun _ s1 => some ((), s1)
def m_X4_fallDue (k1 : Nat) (a2 : Int32) (s : dn_S) : Option (Unit × dn_S) := dn_bd (m_X10_ofDebt 3 a2 0 s) fun r3 s1 => dn_bd (m_X10_ofDebt 3 a2 2 s1) fun r6 s4 => dn_bd (m_X3_purse k1 r3 s4) fun r9 s7 => (if r6 ≤ r9 then dn_bd (m_X3_addToPurse k1 r3 (-r6) s7) fun _ s10 => dn_bd (m_X10_ofDebt 3 a2 1 s10) fun r15 s13 => dn_bd (m_X3_addToPurse k1 r15 r6 s13) fun _ s16 => dn_bd (m_X3_setHowIs k1 a2 1 s16) fun _ s19 => some ((), s19) else dn_bd (m_X3_setHowIs k1 a2 2 s7) fun _ s22 => some ((), s22))
def m_X4_callDay_115 (k1 : Nat) (K47 : Int32 → Int32 → Int32 → dn_S → Option (Unit × dn_S)) (y2 : Int32) (y3 : Int32) (y4 : Int32) (s : dn_S) : Option (Unit × dn_S) := dn_lt (y4 + 1) fun x1 => K47 y2 y3 x1 s
def m_X4_callDay_92 (k1 : Nat) (K47 : Int32 → Int32 → Int32 → dn_S → Option (Unit × dn_S)) (y2 : Int32) (y3 : Int32) (y4 : Int32) (z0 : Bool) (s : dn_S) : Option (Unit × dn_S) := (if z0 = true then dn_bd (m_X3_howIs k1 y4 s) fun r3 s1 => (if r3 = 0 then dn_bd (m_X4_fallDue k1 y4 s1) fun _ s4 => m_X4_callDay_115 k1 K47 y2 y3 y4 s4 else m_X4_callDay_115 k1 K47 y2 y3 y4 s1) else m_X4_callDay_115 k1 K47 y2 y3 y4 s)
def m_X4_callDay_91 (k1 : Nat) (K47 : Int32 → Int32 → Int32 → dn_S → Option (Unit × dn_S)) (y2 : Int32) (y3 : Int32) (y4 : Int32) (s : dn_S) : Option (Unit × dn_S) := m_X4_callDay_92 k1 K47 y2 y3 y4 false s
def m_X4_callDay_47 (k1 : Nat) : Nat → Int32 → Int32 → Int32 → dn_S → Option (Unit × dn_S)
  | 0, _, _, _, _ => none
  | n + 1, y2, y3, y4, s => (if dn_g s 3 3 ≤ y4 then some ((), s) else dn_bd (m_X10_ofDebt 3 y4 4 s) fun r3 s1 => (if r3 = y2 then dn_bd (m_X10_ofDebt 3 y4 3 s1) fun r6 s4 => (if r6 = y3 then m_X4_callDay_92 k1 (m_X4_callDay_47 k1 n) y2 y3 y4 true s4 else m_X4_callDay_91 k1 (m_X4_callDay_47 k1 n) y2 y3 y4 s4) else m_X4_callDay_91 k1 (m_X4_callDay_47 k1 n) y2 y3 y4 s1))
def m_X4_callDay_7 (k1 : Nat) : Nat → Int32 → Int32 → dn_S → Option (Unit × dn_S)
  | 0, _, _, _ => none
  | n + 1, y2, y3, s => (if dn_g s 3 2 ≤ y3 then dn_bd (m_X3_daysCalled k1 y2 s) fun r3 s1 => m_X4_callDay_47 k1 2048 y2 r3 0 s1 else dn_bd (m_X10_ofBidder 3 y3 1 s) fun r6 s4 => dn_bd (m_X3_addToPurse k1 y3 r6 s4) fun _ s7 => dn_lt (y3 + 1) fun x10 => m_X4_callDay_7 k1 n y2 x10 s7)
def m_X4_callDay (k1 : Nat) (a2 : Int32) (s : dn_S) : Option (Unit × dn_S) := dn_bd (m_X3_addDay k1 a2 s) fun _ s1 => m_X4_callDay_7 k1 2048 a2 0 s1
def m_X4_close_85 (k1 : Nat) (s : dn_S) : Option (Int32 × dn_S) := dn_bd (m_X1_nameOf (dn_g s 14 2) s) fun r3 s1 => dn_bd (m_X4_callDay k1 r3 s1) fun _ s4 => some (r3, s4)
def m_X4_close (k1 : Nat) (s : dn_S) : Option (Int32 × dn_S) := dn_bd (m_X1_winner s) fun r3 s1 => dn_wr (dn_p s1 14 2 r3) fun s4 => (if dn_g s4 14 2 = (-9) then dn_wr (dn_p s4 k1 4 ((dn_g s4 k1 4) + 1)) fun s13 => some ((-5), s13) else dn_bd (m_X1_price (dn_g s4 14 2) s4) fun r7 s5 => dn_wr (dn_p s5 14 3 r7) fun s8 => (if dn_g s8 14 2 = 4 then dn_wr (dn_p s8 k1 5 ((dn_g s8 k1 5) + (dn_g s8 14 3))) fun s12 => m_X4_close_85 k1 s12 else dn_bd (m_X3_addToPurse k1 (dn_g s8 14 2) (-(dn_g s8 14 3)) s8) fun _ s9 => m_X4_close_85 k1 s9))
def m_X11_night (s : dn_S) : Option (Int32 × dn_S) := (if 60 ≤ dn_g s 10 3 then some ((-2), s) else (if dn_g s 10 4 < 99 then dn_bd (m_X6_remember 10 s) fun _ s1 => dn_bd (m_X4_open 10 s1) fun _ s4 => dn_bd (m_X4_bidOwn 10 (dn_g s4 10 6) (dn_g s4 10 7) s4) fun _ s7 => dn_bd (m_X3_dropOwn 10 s7) fun _ s10 => dn_bd (m_X4_close 10 s10) fun r15 s13 => some (r15, s13) else some ((-2), s)))
def m_X11_bids (a1 : Int32) (a2 : Int32) (s : dn_S) : Option (Int32 × dn_S) := dn_bd (m_X11_isName a1 s) fun r3 s1 => (if r3 = true then dn_bd (m_X11_within a2 1 40 s1) fun r6 s4 => (if r6 = true then dn_bd (m_X6_remember 10 s4) fun _ s7 => dn_lt (dn_g s7 10 6) fun x10 => dn_wr (dn_p s7 10 6 a1) fun s11 => dn_wr (dn_p s11 10 7 a2) fun s12 => some (x10, s12) else some ((-1), s4)) else some ((-1), s1))
def m_X6_stepBack (k1 : Nat) (s : dn_S) : Option (Bool × dn_S) := (if dn_g s 36 4 = 0 then some (false, s) else dn_ck (dn_nz 10) (dn_lt (dn_rm (((dn_g s 36 3) + 10) - 1) 10) fun x1 => dn_bd (m_X6_momentAt 37 10 x1 s) fun _ s2 => dn_bd (m_X3_copyFrom k1 (dn_rb 37 + 4 * x1.toNatClampNeg) s2) fun _ s5 => dn_wr (dn_p s5 36 3 x1) fun s8 => dn_wr (dn_p s8 36 4 ((dn_g s8 36 4) - 1)) fun s9 => some (true, s9)))
def m_X11_undo (s : dn_S) : Option (Int32 × dn_S) := dn_bd (m_X6_stepBack 10 s) fun r3 s1 => (if r3 = true then some (dn_g s1 36 4, s1) else some ((-2), s1))
def m_X5_after_10 (k1 : Nat) : Nat → Int32 → Int32 → dn_S → Option (Unit × dn_S)
  | 0, _, _, _ => none
  | n + 1, y2, y3, s => (if y2 < y3 then some ((), s) else dn_bd (m_X4_open 19 s) fun _ s1 => dn_bd (m_X4_close 19 s1) fun r6 s4 => dn_lt (y3 + 1) fun x7 => m_X5_after_10 k1 n y2 x7 s4)
def m_X5_after (k1 : Nat) (a2 : Int32) (s : dn_S) : Option (Unit × dn_S) := dn_bd (m_X3_copyFrom 19 k1 s) fun _ s1 => m_X5_after_10 k1 2048 a2 1 s1
def m_X11_inNights (a1 : Int32) (a2 : Int32) (s : dn_S) : Option (Int32 × dn_S) := dn_bd (m_X11_within a1 0 20 s) fun r3 s1 => (if r3 = true then dn_bd (m_X11_within a2 0 2 s1) fun r6 s4 => (if r6 = true then dn_bd (m_X5_after 10 a1 s4) fun _ s7 => (if a2 = 1 then some (dn_g s7 19 3, s7) else (if a2 = 2 then dn_bd (m_X3_defaults 19 s7) fun r15 s13 => some (r15, s13) else (if dn_g s7 19 3 = 0 then some ((-9), s7) else dn_bd (m_X3_nameOfDay 19 (dn_g s7 19 3) s7) fun r12 s10 => some (r12, s10)))) else some ((-1), s4)) else some ((-1), s1))
def m_X11_purseIn (a1 : Int32) (a2 : Int32) (s : dn_S) : Option (Int32 × dn_S) := dn_bd (m_X11_isBidder a1 s) fun r3 s1 => (if r3 = true then dn_bd (m_X11_within a2 0 20 s1) fun r6 s4 => (if r6 = true then dn_bd (m_X5_after 10 a2 s4) fun _ s7 => dn_bd (m_X3_purse 19 a1 s7) fun r12 s10 => some (r12, s10) else some ((-1), s4)) else some ((-1), s1))
def m_X5_nightDue_21 (k1 : Nat) : Nat → Int32 → Int32 → Int32 → dn_S → Option (Int32 × dn_S)
  | 0, _, _, _, _ => none
  | n + 1, y2, y3, y4, s => (if y3 < y4 then some ((-9), s) else dn_bd (m_X4_open 19 s) fun _ s1 => dn_bd (m_X4_close 19 s1) fun r6 s4 => dn_bd (m_X3_howIs 19 y2 s4) fun r9 s7 => (if r9 = 0 then dn_lt (y4 + 1) fun x10 => m_X5_nightDue_21 k1 n y2 y3 x10 s7 else some (y4, s7)))
def m_X5_nightDue (k1 : Nat) (a2 : Int32) (a3 : Int32) (s : dn_S) : Option (Int32 × dn_S) := dn_bd (m_X3_howIs k1 a2 s) fun r3 s1 => (if r3 = 0 then dn_bd (m_X3_copyFrom 19 k1 s1) fun _ s4 => m_X5_nightDue_21 k1 2048 a2 a3 1 s4 else some (0, s1))
def m_X11_falls (a1 : Int32) (s : dn_S) : Option (Int32 × dn_S) := dn_bd (m_X11_isDebt a1 s) fun r3 s1 => (if r3 = true then dn_bd (m_X5_nightDue 10 a1 40 s1) fun r6 s4 => some (r6, s4) else some ((-1), s1))
def m_X1_highest (s : dn_S) : Option (Int32 × dn_S) := dn_bd (m_X1_winner s) fun r3 s1 => dn_bd (m_X11_at 17 5 r3 s1) fun r6 s4 => some (r6, s4)
def m_X4_highestBid (s : dn_S) : Option (Int32 × dn_S) := dn_bd (m_X1_highest s) fun r3 s1 => some (r3, s1)
def m_X5_cheapest_124 (k1 : Nat) (K19 : Int32 → Int32 → Int32 → Int32 → Int32 → Int32 → dn_S → Option (Int32 × dn_S)) (y2 : Int32) (y3 : Int32) (y4 : Int32) (y5 : Int32) (y6 : Int32) (y7 : Int32) (s : dn_S) : Option (Int32 × dn_S) := dn_lt (y7 + 1) fun x1 => K19 y2 y3 y4 y5 y6 x1 s
def m_X5_cheapest_116 (k1 : Nat) (K19 : Int32 → Int32 → Int32 → Int32 → Int32 → Int32 → dn_S → Option (Int32 × dn_S)) (y2 : Int32) (y3 : Int32) (y4 : Int32) (y7 : Int32) (y10 : Int32) (s : dn_S) : Option (Int32 × dn_S) := m_X5_cheapest_124 k1 K19 y2 y3 y4 y7 y10 y7 s
def m_X5_cheapest_85 (k1 : Nat) (K19 : Int32 → Int32 → Int32 → Int32 → Int32 → Int32 → dn_S → Option (Int32 × dn_S)) (y2 : Int32) (y3 : Int32) (y4 : Int32) (y5 : Int32) (y6 : Int32) (y7 : Int32) (y8 : Bool) (z0 : Int32) (s : dn_S) : Option (Int32 × dn_S) := (if y8 = true then m_X5_cheapest_124 k1 K19 y2 y3 y4 y5 y6 y7 s else (if z0 ≤ 40 then (if y5 = (-9) then m_X5_cheapest_116 k1 K19 y2 y3 y4 y7 z0 s else (if y6 ≤ z0 then m_X5_cheapest_124 k1 K19 y2 y3 y4 y5 y6 y7 s else m_X5_cheapest_116 k1 K19 y2 y3 y4 y7 z0 s)) else m_X5_cheapest_124 k1 K19 y2 y3 y4 y5 y6 y7 s))
def m_X5_cheapest_19 (k1 : Nat) : Nat → Int32 → Int32 → Int32 → Int32 → Int32 → Int32 → dn_S → Option (Int32 × dn_S)
  | 0, _, _, _, _, _, _, _ => none
  | n + 1, y2, y3, y4, y5, y6, y7, s => (if y3 < y7 then (if y4 = 0 then some (y5, s) else some (y6, s)) else dn_bd (m_X3_isBarred 19 y2 (dn_g s 3 4) s) fun r3 s1 => dn_bd (m_X4_open 19 s1) fun _ s4 => dn_bd (m_X4_highestBid s4) fun r9 s7 => dn_lt (r9 + 1) fun x10 => dn_bd (m_X4_close 19 s7) fun r13 s11 => (if r13 = y2 then m_X5_cheapest_85 k1 (m_X5_cheapest_19 k1 n) y2 y3 y4 y5 y6 y7 r3 0 s11 else m_X5_cheapest_85 k1 (m_X5_cheapest_19 k1 n) y2 y3 y4 y5 y6 y7 r3 x10 s11))
def m_X5_cheapest (k1 : Nat) (a2 : Int32) (a3 : Int32) (a4 : Int32) (s : dn_S) : Option (Int32 × dn_S) := dn_bd (m_X3_copyFrom 19 k1 s) fun _ s1 => m_X5_cheapest_19 k1 2048 a2 a3 a4 (-9) (-9) 1 s1
def m_X11_buy (a1 : Int32) (a2 : Int32) (a3 : Int32) (s : dn_S) : Option (Int32 × dn_S) := dn_bd (m_X11_isName a1 s) fun r3 s1 => (if r3 = true then dn_bd (m_X11_within a2 1 10 s1) fun r6 s4 => (if r6 = true then dn_bd (m_X11_within a3 0 1 s4) fun r9 s7 => (if r9 = true then dn_bd (m_X5_cheapest 10 a1 a2 a3 s7) fun r12 s10 => some (r12, s10) else some ((-1), s7)) else some ((-1), s4)) else some ((-1), s1))
def m_X5_holding_87 (k1 : Nat) (K14 : Int32 → Int32 → Int32 → Int32 → Int32 → dn_S → Option (Int32 × dn_S)) (y2 : Int32) (y3 : Int32) (y4 : Int32) (y5 : Int32) (y6 : Int32) (s : dn_S) : Option (Int32 × dn_S) := dn_bd (m_X4_close 19 s) fun r3 s1 => dn_lt (y6 + 1) fun x4 => K14 y2 y3 y4 y5 x4 s1
def m_X5_holding_14 (k1 : Nat) : Nat → Int32 → Int32 → Int32 → Int32 → Int32 → dn_S → Option (Int32 × dn_S)
  | 0, _, _, _, _, _, _ => none
  | n + 1, y2, y3, y4, y5, y6, s => (if y3 < y6 then (if y4 = 0 then some ((dn_g s 19 5) - (dn_g s k1 5), s) else some (y5, s)) else dn_bd (m_X4_open 19 s) fun _ s1 => dn_bd (m_X3_isBarred 19 y2 (dn_g s1 3 4) s1) fun r6 s4 => (if r6 = true then m_X5_holding_87 k1 (m_X5_holding_14 k1 n) y2 y3 y4 y5 y6 s4 else dn_bd (m_X4_highestBid s4) fun r9 s7 => dn_lt (r9 + 1) fun x10 => (if x10 ≤ 40 then dn_bd (m_X4_bidOwn 19 y2 x10 s7) fun _ s11 => dn_lt (y5 + 1) fun x14 => m_X5_holding_87 k1 (m_X5_holding_14 k1 n) y2 y3 y4 x14 y6 s11 else some ((-9), s7))))
def m_X5_holding (k1 : Nat) (a2 : Int32) (a3 : Int32) (a4 : Int32) (s : dn_S) : Option (Int32 × dn_S) := dn_bd (m_X3_copyFrom 19 k1 s) fun _ s1 => m_X5_holding_14 k1 2048 a2 a3 a4 0 1 s1
def m_X11_hold (a1 : Int32) (a2 : Int32) (a3 : Int32) (s : dn_S) : Option (Int32 × dn_S) := dn_bd (m_X11_isName a1 s) fun r3 s1 => (if r3 = true then dn_bd (m_X11_within a2 1 6 s1) fun r6 s4 => (if r6 = true then dn_bd (m_X11_within a3 0 1 s4) fun r9 s7 => (if r9 = true then dn_bd (m_X5_holding 10 a1 a2 a3 s7) fun r12 s10 => some (r12, s10) else some ((-1), s7)) else some ((-1), s4)) else some ((-1), s1))
def m_X1_silenceLower_43 (z0 : Int32) (s : dn_S) : Option (Unit × dn_S) := dn_bd (m_X11_put 17 5 z0 0 s) fun _ s1 => some ((), s1)
def m_X1_silenceLower (a1 : Int32) (a2 : Int32) (s : dn_S) : Option (Unit × dn_S) := dn_lt (dn_mn a1 a2) fun x1 => dn_lt (dn_mx a1 a2) fun x2 => dn_bd (m_X11_at 17 5 x1 s) fun r5 s3 => dn_bd (m_X11_at 17 5 x2 s3) fun r8 s6 => (if r8 ≤ r5 then m_X1_silenceLower_43 x2 s6 else m_X1_silenceLower_43 x1 s6)
def m_X4_silenceLower (a1 : Int32) (a2 : Int32) (s : dn_S) : Option (Unit × dn_S) := dn_bd (m_X1_silenceLower a1 a2 s) fun _ s1 => some ((), s1)
def m_X4_paidLast_16 (s : dn_S) : Option (Int32 × dn_S) := some (dn_g s 14 3, s)
def m_X4_paidLast (a1 : Int32) (a2 : Int32) (s : dn_S) : Option (Int32 × dn_S) := (if dn_g s 14 2 = a1 then m_X4_paidLast_16 s else (if dn_g s 14 2 = a2 then m_X4_paidLast_16 s else some (0, s)))
def m_X5_paidBy_46 (k1 : Nat) (K14 : Int32 → Int32 → Int32 → Bool → Int32 → Int32 → dn_S → Option (Int32 × dn_S)) (y2 : Int32) (y3 : Int32) (y4 : Int32) (y5 : Bool) (y6 : Int32) (y7 : Int32) (s : dn_S) : Option (Int32 × dn_S) := dn_bd (m_X4_close 19 s) fun r3 s1 => dn_bd (m_X4_paidLast y2 y3 s1) fun r6 s4 => dn_lt (y6 + r6) fun x7 => dn_lt (y7 + 1) fun x8 => K14 y2 y3 y4 y5 x7 x8 s4
def m_X5_paidBy_14 (k1 : Nat) : Nat → Int32 → Int32 → Int32 → Bool → Int32 → Int32 → dn_S → Option (Int32 × dn_S)
  | 0, _, _, _, _, _, _, _ => none
  | n + 1, y2, y3, y4, y5, y6, y7, s => (if y4 < y7 then some (y6, s) else dn_bd (m_X4_open 19 s) fun _ s1 => (if y5 = true then dn_bd (m_X4_silenceLower y2 y3 s1) fun _ s4 => m_X5_paidBy_46 k1 (m_X5_paidBy_14 k1 n) y2 y3 y4 y5 y6 y7 s4 else m_X5_paidBy_46 k1 (m_X5_paidBy_14 k1 n) y2 y3 y4 y5 y6 y7 s1))
def m_X5_paidBy (k1 : Nat) (a2 : Int32) (a3 : Int32) (a4 : Int32) (a5 : Bool) (s : dn_S) : Option (Int32 × dn_S) := dn_bd (m_X3_copyFrom 19 k1 s) fun _ s1 => m_X5_paidBy_14 k1 2048 a2 a3 a4 a5 0 1 s1
def m_X11_ring (a1 : Int32) (a2 : Int32) (a3 : Int32) (s : dn_S) : Option (Int32 × dn_S) := dn_bd (m_X11_isBidder a1 s) fun r3 s1 => (if r3 = true then dn_bd (m_X11_isBidder a2 s1) fun r6 s4 => (if r6 = true then (if a1 = a2 then some ((-1000000), s4) else dn_bd (m_X11_within a3 1 20 s4) fun r9 s7 => (if r9 = true then dn_bd (m_X5_paidBy 10 a1 a2 a3 false s7) fun r12 s10 => dn_bd (m_X5_paidBy 10 a1 a2 a3 true s10) fun r15 s13 => some (r12 - r15, s13) else some ((-1000000), s7))) else some ((-1000000), s4)) else some ((-1000000), s1))
def m_X11_isNameOrNone (a1 : Int32) (s : dn_S) : Option (Bool × dn_S) := dn_bd (m_X11_within a1 (-1) 4 s) fun r3 s1 => some (r3, s1)
def m_X2_add (a1 : Int32) (a2 : Int32) (s : dn_S) : Option (Unit × dn_S) := dn_bd (m_X11_put 28 5 (dn_g s 23 5) a1 s) fun _ s1 => dn_bd (m_X11_put 29 5 (dn_g s1 23 5) a2 s1) fun _ s4 => dn_wr (dn_p s4 23 5 ((dn_g s4 23 5) + 1)) fun s7 => some ((), s7)
def m_X11_found (a1 : Int32) (a2 : Int32) (s : dn_S) : Option (Int32 × dn_S) := dn_bd (m_X11_within a1 1 8 s) fun r3 s1 => (if r3 = true then dn_bd (m_X11_isNameOrNone a2 s1) fun r6 s4 => (if r6 = true then (if dn_g s4 23 5 < 5 then dn_bd (m_X2_add a1 a2 s4) fun _ s7 => some (dn_g s7 23 5, s7) else some ((-3), s4)) else some ((-1), s4)) else some ((-1), s1))
def m_X11_forget (s : dn_S) : Option (Int32 × dn_S) := dn_bd (m_X2_empty s) fun r3 s1 => some (r3, s1)
def m_X10_setWorth (k : Nat) (a1 : Int32) (a2 : Int32) (a3 : Int32) (s : dn_S) : Option (Unit × dn_S) := dn_bd (m_X10_setOfBidder k a1 (2 + a2) a3 s) fun _ s1 => some ((), s1)
def m_X2_agreeOn_36 (K2 : Int32 → Int32 → Int32 → dn_S → Option (Bool × dn_S)) (y1 : Int32) (y2 : Int32) (y3 : Int32) (s : dn_S) : Option (Bool × dn_S) := dn_lt (y3 + 1) fun x1 => K2 y1 y2 x1 s
def m_X2_agreeOn_2 : Nat → Int32 → Int32 → Int32 → dn_S → Option (Bool × dn_S)
  | 0, _, _, _, _ => none
  | n + 1, y1, y2, y3, s => (if dn_g s 23 5 ≤ y3 then some (true, s) else dn_bd (m_X11_at 28 5 y3 s) fun r3 s1 => (if r3 = y1 then dn_bd (m_X11_at 29 5 y3 s1) fun r6 s4 => (if r6 = y2 then m_X2_agreeOn_36 (m_X2_agreeOn_2 n) y1 y2 y3 s4 else some (false, s4)) else m_X2_agreeOn_36 (m_X2_agreeOn_2 n) y1 y2 y3 s1))
def m_X2_agreeOn (a1 : Int32) (a2 : Int32) (s : dn_S) : Option (Bool × dn_S) := m_X2_agreeOn_2 2048 a1 a2 0 s
def m_X2_agreeWith_99 (k1 : Nat) (y2 : Int32) (y3 : Int32) (y5 : Int32) (y6 : Bool) (s : dn_S) : Option (Bool × dn_S) := dn_bd (m_X10_setWorth 3 y2 y3 y5 s) fun _ s1 => some (y6, s1)
def m_X2_agreeWith_88 (k1 : Nat) (K36 : Int32 → Int32 → Int32 → Bool → Int32 → dn_S → Option (Bool × dn_S)) (y2 : Int32) (y3 : Int32) (y5 : Int32) (y7 : Int32) (z0 : Int32) (z1 : Int32) (s : dn_S) : Option (Bool × dn_S) := dn_bd (m_X2_agreeOn z1 z0 s) fun r3 s1 => dn_lt (y7 + 1) fun x4 => K36 y2 y3 y5 r3 x4 s1
def m_X2_agreeWith_36 (k1 : Nat) : Nat → Int32 → Int32 → Int32 → Bool → Int32 → dn_S → Option (Bool × dn_S)
  | 0, _, _, _, _, _, _ => none
  | n + 1, y2, y3, y5, y6, y7, s => (if 8 < y7 then m_X2_agreeWith_99 k1 y2 y3 y5 y6 s else (if y6 = true then dn_bd (m_X4_open 24 s) fun _ s1 => dn_bd (m_X4_close 24 s1) fun r6 s4 => (if r6 = (-5) then m_X2_agreeWith_88 k1 (m_X2_agreeWith_36 k1 n) y2 y3 y5 y7 (-1) y7 s4 else m_X2_agreeWith_88 k1 (m_X2_agreeWith_36 k1 n) y2 y3 y5 y7 r6 y7 s4) else m_X2_agreeWith_99 k1 y2 y3 y5 y6 s))
def m_X2_agreeWith (k1 : Nat) (a2 : Int32) (a3 : Int32) (a4 : Int32) (s : dn_S) : Option (Bool × dn_S) := dn_bd (m_X10_worth 3 a2 a3 s) fun r3 s1 => dn_bd (m_X10_setWorth 3 a2 a3 a4 s1) fun _ s4 => dn_bd (m_X3_copyFrom 24 k1 s4) fun _ s7 => m_X2_agreeWith_36 k1 2048 a2 a3 r3 true 1 s7
def m_X11_mayBe_78 (K36 : Int32 → Int32 → Int32 → Int32 → Int32 → Int32 → dn_S → Option (Int32 × dn_S)) (y1 : Int32) (y2 : Int32) (y3 : Int32) (y4 : Int32) (y5 : Int32) (y6 : Int32) (s : dn_S) : Option (Int32 × dn_S) := dn_lt (y6 + 1) fun x1 => K36 y1 y2 y3 y4 y5 x1 s
def m_X11_mayBe_36 : Nat → Int32 → Int32 → Int32 → Int32 → Int32 → Int32 → dn_S → Option (Int32 × dn_S)
  | 0, _, _, _, _, _, _, _ => none
  | n + 1, y1, y2, y3, y4, y5, y6, s => (if 20 < y6 then (if y3 = 0 then some (y4, s) else some (y5, s)) else dn_bd (m_X2_agreeWith 10 y1 y2 y6 s) fun r3 s1 => (if r3 = true then dn_lt (y4 + 1) fun x4 => (if y5 = (-9) then m_X11_mayBe_78 (m_X11_mayBe_36 n) y1 y2 y3 x4 y6 y6 s1 else m_X11_mayBe_78 (m_X11_mayBe_36 n) y1 y2 y3 x4 y5 y6 s1) else m_X11_mayBe_78 (m_X11_mayBe_36 n) y1 y2 y3 y4 y5 y6 s1))
def m_X11_mayBe (a1 : Int32) (a2 : Int32) (a3 : Int32) (s : dn_S) : Option (Int32 × dn_S) := dn_bd (m_X11_isBidder a1 s) fun r3 s1 => (if r3 = true then dn_bd (m_X11_isName a2 s1) fun r6 s4 => (if r6 = true then dn_bd (m_X11_within a3 0 1 s4) fun r9 s7 => (if r9 = true then m_X11_mayBe_36 2048 a1 a2 a3 0 (-9) 0 s7 else some ((-1), s7)) else some ((-1), s4)) else some ((-1), s1))
def m_X0_add (a1 : Int32) (s : dn_S) : Option (Unit × dn_S) := dn_bd (m_X11_put 35 8 (dn_g s 30 3) a1 s) fun _ s1 => dn_wr (dn_p s1 30 3 ((dn_g s1 30 3) + 1)) fun s4 => some ((), s4)
def m_X11_plan (a1 : Int32) (s : dn_S) : Option (Int32 × dn_S) := dn_bd (m_X11_isNameOrNone a1 s) fun r3 s1 => (if r3 = true then (if dn_g s1 30 3 < 8 then dn_bd (m_X0_add a1 s1) fun _ s4 => some (dn_g s4 30 3, s4) else some ((-3), s1)) else some ((-1), s1))
def m_X11_unplan (s : dn_S) : Option (Int32 × dn_S) := dn_bd (m_X0_empty s) fun r3 s1 => some (r3, s1)
def m_X0_carriedOut_43 (k1 : Nat) (K10 : Int32 → dn_S → Option (Unit × dn_S)) (y2 : Int32) (s : dn_S) : Option (Unit × dn_S) := dn_lt (y2 + 1) fun x1 => K10 x1 s
def m_X0_carriedOut_10 (k1 : Nat) : Nat → Int32 → dn_S → Option (Unit × dn_S)
  | 0, _, _ => none
  | n + 1, y2, s => (if dn_g s 30 3 ≤ y2 then some ((), s) else dn_bd (m_X11_at 35 8 y2 s) fun r3 s1 => (if r3 < 0 then m_X0_carriedOut_43 k1 (m_X0_carriedOut_10 k1 n) y2 s1 else dn_bd (m_X4_callDay 31 r3 s1) fun _ s4 => m_X0_carriedOut_43 k1 (m_X0_carriedOut_10 k1 n) y2 s4))
def m_X0_carriedOut (k1 : Nat) (s : dn_S) : Option (Unit × dn_S) := dn_bd (m_X3_copyFrom 31 k1 s) fun _ s1 => m_X0_carriedOut_10 k1 2048 0 s1
def m_X11_planned_15 (y1 : Int32) (s : dn_S) : Option (Int32 × dn_S) := dn_bd (m_X0_carriedOut 10 s) fun _ s1 => (if y1 = (-1) then dn_bd (m_X3_defaults 31 s1) fun r9 s7 => dn_bd (m_X3_defaults 10 s7) fun r12 s10 => some (r9 - r12, s10) else dn_bd (m_X3_purse 31 y1 s1) fun r6 s4 => some (r6, s4))
def m_X11_planned (a1 : Int32) (s : dn_S) : Option (Int32 × dn_S) := (if a1 = (-1) then m_X11_planned_15 a1 s else dn_bd (m_X11_isBidder a1 s) fun r3 s1 => (if r3 = true then m_X11_planned_15 a1 s1 else some ((-1), s1)))
def m_X11_choose_4 : Nat → Int32 → Int32 → Int32 → Int32 → dn_S → Option (Int32 × dn_S)
  | 0, _, _, _, _, _ => none
  | n + 1, y0, y1, y2, y3, s => (if y1 < y3 then some (y2, s) else dn_ck (dn_nz y3) (dn_lt (dn_dv (y2 * ((y0 - y1) + y3)) y3) fun x1 => dn_lt (y3 + 1) fun x2 => m_X11_choose_4 n y0 y1 x1 x2 s))
def m_X11_choose (a1 : Int32) (a2 : Int32) (s : dn_S) : Option (Int32 × dn_S) := m_X11_choose_4 2048 a1 a2 1 1 s
def m_X11_power_4 : Nat → Int32 → Int32 → Int32 → Int32 → dn_S → Option (Int32 × dn_S)
  | 0, _, _, _, _, _ => none
  | n + 1, y0, y1, y2, y3, s => (if y1 ≤ y3 then some (y2, s) else dn_lt (y2 * y0) fun x1 => dn_lt (y3 + 1) fun x2 => m_X11_power_4 n y0 y1 x1 x2 s)
def m_X11_power (a1 : Int32) (a2 : Int32) (s : dn_S) : Option (Int32 × dn_S) := m_X11_power_4 2048 a1 a2 1 0 s
def m_X11_chancesOf_13 : Nat → Int32 → Int32 → Int32 → Int32 → dn_S → Option (Int32 × dn_S)
  | 0, _, _, _, _, _ => none
  | n + 1, y1, y2, y3, y4, s => (if y2 < y4 then some (y3, s) else dn_bd (m_X11_choose y2 y4 s) fun r3 s1 => dn_bd (m_X11_power (10 - y1) y4 s1) fun r6 s4 => dn_bd (m_X11_power y1 (y2 - y4) s4) fun r9 s7 => dn_lt (y3 + ((r3 * r6) * r9)) fun x10 => dn_lt (y4 + 1) fun x11 => m_X11_chancesOf_13 n y1 y2 x10 x11 s7)
def m_X11_chancesOf (a1 : Int32) (a2 : Int32) (a3 : Int32) (s : dn_S) : Option (Int32 × dn_S) := (if a1 = (-9) then some (0, s) else m_X11_chancesOf_13 2048 a2 a3 0 a1 s)
def m_X11_commonDivisor_2 : Nat → Int32 → Int32 → Int32 → dn_S → Option (Int32 × dn_S)
  | 0, _, _, _, _ => none
  | n + 1, y0, y1, y2, s => (if 64 ≤ y2 then some (y0, s) else (if y1 = 0 then some (y0, s) else dn_ck (dn_nz y1) (dn_lt (dn_rm y0 y1) fun x1 => dn_lt (y2 + 1) fun x2 => m_X11_commonDivisor_2 n y1 x1 x2 s)))
def m_X11_commonDivisor (a1 : Int32) (a2 : Int32) (s : dn_S) : Option (Int32 × dn_S) := m_X11_commonDivisor_2 2048 a1 a2 0 s
def m_X11_odds (a1 : Int32) (a2 : Int32) (a3 : Int32) (a4 : Int32) (s : dn_S) : Option (Int32 × dn_S) := dn_bd (m_X11_isDebt a1 s) fun r3 s1 => (if r3 = true then dn_bd (m_X11_within a2 0 10 s1) fun r6 s4 => (if r6 = true then dn_bd (m_X11_within a3 0 6 s4) fun r9 s7 => (if r9 = true then dn_bd (m_X11_within a4 0 1 s7) fun r12 s10 => (if r12 = true then dn_bd (m_X5_nightDue 10 a1 a3 s10) fun r15 s13 => dn_bd (m_X11_chancesOf r15 a2 a3 s13) fun r18 s16 => dn_bd (m_X11_power 10 a3 s16) fun r21 s19 => dn_bd (m_X11_commonDivisor r18 r21 s19) fun r24 s22 => (if r24 = 0 then some (0, s22) else (if a4 = 0 then dn_ck (dn_nz r24) (some (dn_dv r18 r24, s22)) else dn_ck (dn_nz r24) (some (dn_dv r21 r24, s22)))) else some ((-1), s10)) else some ((-1), s7)) else some ((-1), s4)) else some ((-1), s1))
def m_X7_asBidder (a1 : Int32) (s : dn_S) : Option (Int32 × dn_S) := dn_wr (dn_q s ((dn_l s) + 1)) fun s1 => dn_bd (m_X3_purse 10 a1 s1) fun r4 s2 => some (r4, s2)
def m_X7_asBrewer (a1 : Int32) (s : dn_S) : Option (Int32 × dn_S) := dn_wr (dn_q s ((dn_l s) + 10)) fun s1 => dn_bd (m_X7_asBidder a1 s1) fun r4 s2 => dn_bd (m_X10_ofBidder 3 a1 1 s2) fun r7 s5 => some (r4 + r7, s5)
def m_X7_owedYet_51 (K4 : Int32 → Int32 → Int32 → dn_S → Option (Int32 × dn_S)) (y1 : Int32) (y2 : Int32) (y3 : Int32) (s : dn_S) : Option (Int32 × dn_S) := dn_lt (y3 + 1) fun x1 => K4 y1 y2 x1 s
def m_X7_owedYet_4 : Nat → Int32 → Int32 → Int32 → dn_S → Option (Int32 × dn_S)
  | 0, _, _, _, _ => none
  | n + 1, y1, y2, y3, s => (if dn_g s 3 3 ≤ y3 then some (y2, s) else dn_bd (m_X10_ofDebt 3 y3 0 s) fun r3 s1 => (if r3 = y1 then dn_bd (m_X3_howIs 10 y3 s1) fun r6 s4 => (if r6 = 0 then dn_bd (m_X10_ofDebt 3 y3 2 s4) fun r9 s7 => dn_lt (y2 + r9) fun x10 => m_X7_owedYet_51 (m_X7_owedYet_4 n) y1 x10 y3 s7 else m_X7_owedYet_51 (m_X7_owedYet_4 n) y1 y2 y3 s4) else m_X7_owedYet_51 (m_X7_owedYet_4 n) y1 y2 y3 s1))
def m_X7_owedYet (a1 : Int32) (s : dn_S) : Option (Int32 × dn_S) := m_X7_owedYet_4 2048 a1 0 0 s
def m_X7_asLover (a1 : Int32) (s : dn_S) : Option (Int32 × dn_S) := dn_wr (dn_q s ((dn_l s) + 100)) fun s1 => dn_bd (m_X7_asBidder a1 s1) fun r4 s2 => dn_bd (m_X7_owedYet a1 s2) fun r7 s5 => some (r4 - r7, s5)
def m_X7_asRival (a1 : Int32) (s : dn_S) : Option (Int32 × dn_S) := dn_wr (dn_q s ((dn_l s) + 1000)) fun s1 => dn_bd (m_X7_asBrewer a1 s1) fun r4 s2 => some (2 * r4, s2)
def m_X7_asPoet (a1 : Int32) (s : dn_S) : Option (Int32 × dn_S) := dn_wr (dn_q s ((dn_l s) + 10000)) fun s1 => dn_bd (m_X7_asLover a1 s1) fun r4 s2 => some (r4 + a1, s2)
def m_X7_asHeir (a1 : Int32) (s : dn_S) : Option (Int32 × dn_S) := dn_wr (dn_q s ((dn_l s) + 100000)) fun s1 => dn_bd (m_X7_asBidder a1 s1) fun r4 s2 => some (r4 + (dn_g s2 10 3), s2)
def m_X7_asIf (a1 : Int32) (a2 : Int32) (s : dn_S) : Option (Int32 × dn_S) := (if a1 = 0 then dn_bd (m_X7_asBidder a2 s) fun r4 s2 => some (r4, s2) else if a1 = 1 then dn_bd (m_X7_asBrewer a2 s) fun r8 s6 => some (r8, s6) else if a1 = 2 then dn_bd (m_X7_asLover a2 s) fun r12 s10 => some (r12, s10) else if a1 = 3 then dn_bd (m_X7_asRival a2 s) fun r16 s14 => some (r16, s14) else if a1 = 4 then dn_bd (m_X7_asPoet a2 s) fun r20 s18 => some (r20, s18) else if a1 = 5 then dn_bd (m_X7_asHeir a2 s) fun r24 s22 => some (r24, s22) else some ((-1000000), s))
def m_X11_rate (a1 : Int32) (a2 : Int32) (s : dn_S) : Option (Int32 × dn_S) := dn_bd (m_X11_isBidder a2 s) fun r3 s1 => (if r3 = true then dn_bd (m_X7_asIf a1 a2 s1) fun r6 s4 => some (r6, s4) else some ((-1000000), s1))
def m_X6_keepImage (a1 : Int32) (k2 : Nat) (s : dn_S) : Option (Unit × dn_S) := dn_bd (m_X6_momentAt 38 2 a1 s) fun _ s1 => (if a1 < 2 then dn_bd (m_X3_copyFrom (dn_rb 38 + 4 * a1.toNatClampNeg) k2 s1) fun _ s4 => dn_ck (dn_ib a1 2) (dn_wr (dn_p s4 39 a1.toNatClampNeg (dn_b true)) fun s7 => some ((), s7)) else some ((), s1))
def m_X11_keep (a1 : Int32) (s : dn_S) : Option (Int32 × dn_S) := dn_bd (m_X11_within a1 0 1 s) fun r3 s1 => (if r3 = true then dn_bd (m_X6_keepImage a1 10 s1) fun _ s4 => some (dn_g s4 10 3, s4) else some ((-1), s1))
def m_X6_backTo (a1 : Int32) (k2 : Nat) (s : dn_S) : Option (Bool × dn_S) := dn_bd (m_X6_momentAt 38 2 a1 s) fun _ s1 => (if 2 ≤ a1 then some (false, s1) else dn_ck (dn_ib a1 2) ((if dn_g s1 39 a1.toNatClampNeg = 0 then some (false, s1) else dn_bd (m_X3_copyFrom k2 (dn_rb 38 + 4 * a1.toNatClampNeg) s1) fun _ s4 => dn_wr (dn_p s4 36 4 0) fun s7 => some (true, s7))))
def m_X11_back (a1 : Int32) (s : dn_S) : Option (Int32 × dn_S) := dn_bd (m_X11_within a1 0 1 s) fun r3 s1 => (if r3 = true then dn_bd (m_X6_backTo a1 10 s1) fun r6 s4 => (if r6 = true then some (dn_g s4 10 3, s4) else some ((-2), s4)) else some ((-1), s1))
def m_X11_count (a1 : Int32) (s : dn_S) : Option (Int32 × dn_S) := (if a1 = 0 then some (dn_g s 3 2, s) else if a1 = 1 then some (dn_g s 3 4, s) else if a1 = 2 then some (dn_g s 3 3, s) else if a1 = 3 then some (dn_g s 23 5, s) else if a1 = 4 then some (dn_g s 30 3, s) else if a1 = 5 then some (dn_g s 1 1, s) else some ((-1), s))
def m_X11_trace (s : dn_S) : Option (Int64 × dn_S) := some (dn_l s, s)
