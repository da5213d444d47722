/-! the words of the law's calls, by their places in lw_tbl (written by wip/whole/gen_words.py) -/
def lw_ch (c : Nat) : List Cond := match c with
  | 0 => k2_sels lw_privs
  | 1 => tables_1_1
  | 2 => tables_1_2
  | 3 => tables_1_3
  | 4 => tables_1_4
  | 5 => tables_1_5
  | 6 => tables_1_6
  | _ => []
theorem lw_chm : ∀ (c : Nat) (w : Cond), w ∈ lw_ch c → w ∈ lw_tbl
  | 0, w, h => List.mem_append_left _ h
  | 1, w, h => List.mem_append_right _ (List.mem_append_left _ h)
  | 2, w, h => List.mem_append_right _ (List.mem_append_right _ (List.mem_append_left _ h))
  | 3, w, h => List.mem_append_right _ (List.mem_append_right _ (List.mem_append_right _ (List.mem_append_left _ h)))
  | 4, w, h => List.mem_append_right _ (List.mem_append_right _ (List.mem_append_right _ (List.mem_append_right _ (List.mem_append_left _ h))))
  | 5, w, h => List.mem_append_right _ (List.mem_append_right _ (List.mem_append_right _ (List.mem_append_right _ (List.mem_append_right _ (List.mem_append_left _ h)))))
  | 6, w, h => List.mem_append_right _ (List.mem_append_right _ (List.mem_append_right _ (List.mem_append_right _ (List.mem_append_right _ (List.mem_append_right _ (h))))))
  | _ + 7, w, h => absurd h List.not_mem_nil
theorem goodIn_c (ws : List Cond) (ps : List (Nat × Nat)) (hp : ws = ps.filterMap (fun i => (lw_ch i.1)[i.2]?)) (h : ws.all goodWord = true) : GoodIn lw_tbl ws := by
  intro w hw
  have h1 := List.all_eq_true.mp h w hw
  rw [hp] at hw
  obtain ⟨i, -, hi⟩ := List.mem_filterMap.mp hw
  exact ⟨lw_chm i.1 w (List.mem_of_getElem? hi), good_of_word h1⟩
theorem inTbl (c i : Nat) {w : Cond} (h : (lw_ch c)[i]? = some w) : w ∈ lw_tbl := lw_chm c w (List.mem_of_getElem? h)
set_option maxRecDepth 100000 in
theorem tg_X11_init : GoodIn lw_tbl wsX11_init := goodIn_c _ [(1, 19), (1, 20), (1, 21), (1, 22), (1, 23), (1, 24), (1, 2), (2, 64), (1, 39), (1, 40), (1, 3), (2, 65), (1, 74), (1, 75), (1, 4), (2, 66), (1, 105), (1, 106), (1, 5), (2, 67), (1, 145), (1, 146), (1, 6), (2, 68), (1, 177), (1, 178), (1, 8), (2, 69), (1, 195), (1, 196), (1, 9), (2, 70), (1, 223), (1, 224), (1, 10), (2, 71), (2, 5), (2, 6), (1, 11), (2, 72), (2, 32), (2, 33), (1, 12), (2, 73), (1, 26), (1, 27), (1, 28), (1, 38), (1, 29), (1, 42), (1, 43), (1, 44), (1, 45), (1, 46), (1, 57), (1, 76), (1, 77), (1, 78), (1, 79), (1, 80), (1, 83), (1, 82), (1, 108), (1, 109), (1, 110), (1, 111), (1, 112), (1, 113), (1, 147), (1, 148), (1, 149), (1, 150), (1, 151), (1, 152), (1, 7), (1, 165), (1, 164), (1, 154), (1, 155), (1, 156), (1, 157), (1, 158), (1, 179), (1, 180), (1, 181), (1, 182), (1, 183), (1, 187), (1, 185), (1, 186), (1, 197), (1, 198), (1, 199), (1, 200), (1, 201), (1, 205), (1, 206), (1, 207), (1, 203), (1, 204), (1, 225), (1, 226), (1, 227), (1, 228), (1, 229), (1, 232), (1, 233), (1, 231), (2, 7), (2, 8), (2, 9), (2, 10), (2, 11), (2, 14), (2, 15), (2, 31), (2, 16), (2, 34), (2, 35), (2, 36), (2, 37), (2, 38), (2, 39), (2, 49), (2, 50), (2, 51), (2, 52), (1, 114), (1, 117), (1, 120), (2, 53), (2, 54), (2, 55), (2, 56), (2, 58), (1, 1), (2, 59), (2, 60), (2, 61), (2, 62), (2, 63), (1, 124), (1, 126), (1, 33), (1, 35), (2, 74), (2, 76), (2, 78), (2, 80), (2, 82), (2, 84), (2, 86), (2, 88), (2, 90), (2, 92), (1, 63), (1, 65), (1, 67), (1, 69), (1, 71), (1, 90), (1, 92), (1, 94), (1, 96), (1, 98), (1, 100), (1, 102), (1, 128), (1, 130), (1, 132), (1, 134), (1, 136), (1, 138), (1, 140), (1, 142), (1, 168), (1, 170), (1, 172), (1, 174), (1, 188), (1, 190), (1, 192), (1, 210), (1, 212), (1, 214), (1, 216), (1, 218), (1, 220), (1, 236), (1, 238), (2, 0), (2, 2), (2, 20), (2, 22), (2, 24), (2, 26), (2, 28), (2, 42), (2, 44), (2, 46), (1, 159), (1, 161)] rfl (by decide +kernel)
theorem tl_X11_init : Cond.methodLink RL 9 yX11_init ∈ lw_tbl := inTbl 1 17 (by decide +kernel)
theorem ti_X11_init : Cond.instanceMethod yX11_init ∈ lw_tbl := inTbl 1 18 (by decide +kernel)
set_option maxRecDepth 100000 in
theorem tg_X12_init : GoodIn lw_tbl wsX12_init := goodIn_c _ [(4, 130), (4, 131), (1, 21), (1, 22), (1, 38), (4, 132), (2, 31), (4, 134), (4, 136), (4, 137), (4, 138), (4, 139), (4, 141), (4, 143), (4, 144), (4, 146), (4, 148), (4, 155), (4, 156), (4, 157), (4, 161), (4, 162), (4, 163), (4, 158), (4, 167), (4, 169), (4, 171), (4, 173), (4, 175), (4, 177), (4, 179), (4, 181), (4, 183), (4, 185), (4, 187), (4, 189), (4, 191), (4, 193), (4, 195), (4, 197), (4, 199), (4, 201), (4, 203), (4, 205), (4, 207), (4, 209), (4, 211), (4, 213), (4, 215), (4, 217), (4, 219), (4, 221), (4, 223), (4, 225), (4, 227), (4, 229), (4, 231), (4, 233), (4, 235)] rfl (by decide +kernel)
theorem tl_X12_init : Cond.methodLink RL 12 yX12_init ∈ lw_tbl := inTbl 4 128 (by decide +kernel)
theorem ti_X12_init : Cond.instanceMethod yX12_init ∈ lw_tbl := inTbl 4 129 (by decide +kernel)
set_option maxRecDepth 100000 in
theorem tg_X11_type : GoodIn lw_tbl wsX11_type := goodIn_c _ [(2, 98), (2, 64), (2, 99), (2, 100), (1, 1), (2, 101), (2, 102), (2, 103), (2, 104), (1, 2), (2, 105), (1, 29), (1, 30), (2, 107), (2, 108), (2, 74), (2, 76), (2, 78), (2, 80), (2, 82), (2, 84), (2, 86), (2, 88), (2, 90), (2, 92), (1, 33), (1, 35)] rfl (by decide +kernel)
set_option maxRecDepth 100000 in
theorem tv_X11_type : GoodIn lw_tbl (wsV RL 13 RX11 yX11_type wsX11_type) := goodIn_app (goodIn_c ([.methodLink RL 13 yX11_type, .instanceMethod yX11_type, .selects RX11 yX11_type yX11_type, .initialized RX11] : List Cond) [(2, 95), (2, 96), (2, 97), (1, 1)] rfl (by decide +kernel)) tg_X11_type
set_option maxRecDepth 100000 in
theorem tg_X12_type : GoodIn lw_tbl wsX12_type := goodIn_c _ [(5, 1), (5, 2), (4, 149), (4, 148), (5, 3), (5, 4), (1, 13), (5, 5), (4, 167), (4, 169), (4, 171), (4, 173), (4, 175), (4, 177), (4, 179), (4, 181), (4, 183), (4, 185), (4, 187), (4, 189), (4, 191), (4, 193), (4, 195), (4, 197), (4, 199), (4, 201), (4, 203), (4, 205), (4, 207), (4, 209), (4, 211), (4, 213), (4, 215), (4, 217), (4, 219), (4, 221), (4, 223), (4, 225), (4, 227), (4, 229), (4, 231), (4, 233), (4, 235)] rfl (by decide +kernel)
set_option maxRecDepth 100000 in
theorem tv_X12_type : GoodIn lw_tbl (wsV RL 17 RX12 yX12_type wsX12_type) := goodIn_app (goodIn_c ([.methodLink RL 17 yX12_type, .instanceMethod yX12_type, .selects RX12 yX12_type yX12_type, .initialized RX12] : List Cond) [(4, 238), (4, 239), (5, 0), (1, 13)] rfl (by decide +kernel)) tg_X12_type
set_option maxRecDepth 100000 in
theorem tg_X11_clear : GoodIn lw_tbl wsX11_clear := goodIn_c _ [(2, 112), (2, 64), (2, 113), (2, 114), (2, 115), (1, 2), (2, 116), (1, 30), (2, 74), (2, 76), (2, 78), (2, 80), (2, 82), (2, 84), (2, 86), (2, 88), (2, 90), (2, 92), (1, 33), (1, 35)] rfl (by decide +kernel)
set_option maxRecDepth 100000 in
theorem tv_X11_clear : GoodIn lw_tbl (wsV RL 18 RX11 yX11_clear wsX11_clear) := goodIn_app (goodIn_c ([.methodLink RL 18 yX11_clear, .instanceMethod yX11_clear, .selects RX11 yX11_clear yX11_clear, .initialized RX11] : List Cond) [(2, 109), (2, 110), (2, 111), (1, 1)] rfl (by decide +kernel)) tg_X11_clear
set_option maxRecDepth 100000 in
theorem tg_X12_clear : GoodIn lw_tbl wsX12_clear := goodIn_c _ [(5, 9), (4, 149), (4, 167), (4, 169), (4, 171), (4, 173), (4, 175), (4, 177), (4, 179), (4, 181), (4, 183), (4, 185), (4, 187), (4, 189), (4, 191), (4, 193), (4, 195), (4, 197), (4, 199), (4, 201), (4, 203), (4, 205), (4, 207), (4, 209), (4, 211), (4, 213), (4, 215), (4, 217), (4, 219), (4, 221), (4, 223), (4, 225), (4, 227), (4, 229), (4, 231), (4, 233), (4, 235)] rfl (by decide +kernel)
set_option maxRecDepth 100000 in
theorem tv_X12_clear : GoodIn lw_tbl (wsV RL 22 RX12 yX12_clear wsX12_clear) := goodIn_app (goodIn_c ([.methodLink RL 22 yX12_clear, .instanceMethod yX12_clear, .selects RX12 yX12_clear yX12_clear, .initialized RX12] : List Cond) [(5, 6), (5, 7), (5, 8), (1, 13)] rfl (by decide +kernel)) tg_X12_clear
