/-! contracts by symbolic runs (laid by wip/gen/sx6.py): the reference, but for its runs -/
/-- X8_called -/
def c_98 : xCt := (1, [.inr [316], .inl [(0, 9)]], [], some (x_any))
set_option maxRecDepth 100000 in
theorem k_98 : xCon 98 c_98 := by
  have hk : xchk [] ([((98, 6), ([(.inl 3, [(0, 1)]), (.inl 2, xany)], [], [4, 5, 6, 7], [], [], [(1, 1), (2, (-1))])), ((98, 16), ([(.inl 5, [(0, 10)]), (.inl 2, xany)], [.inl 4], [6, 7], [], [[(2, 1), (3, (-1))]], [(1, (-1))])), ((98, 28), ([(.inl 6, [(0, 40)]), (.inl 2, xany)], [.inl 4], [7], [], [[(2, 1), (3, (-1))]], [(1, (-1))]))]) 400 98 c_98 = true := by decide +kernel
  exact xchk_ok (x_nil) rfl hk
/-- X8_actingOf -/
def c_99 : xCt := (2, [.inr [316], .inl [(0, 9)]], [], some (x_any))
set_option maxRecDepth 100000 in
theorem k_99 : xCon 99 c_99 := by
  have hk : xchk [(98, c_98)] ([((99, 11), ([(.inl 4, [(0, 10)]), (.inl 3, xany)], [], [5, 6], [], [], [(1, (-1))])), ((99, 23), ([(.inl 5, [(0, 40)]), (.inl 3, xany)], [], [6], [], [], [(1, (-1))]))]) 400 99 c_99 = true := by decide +kernel
  exact xchk_ok (x_cons k_98 x_nil) rfl hk
/-- X8_reads -/
def c_101 : xCt := (2, [.inr [316], x_any], [((316, 316), (4, 44)), ((320, 343), (-1, 10000))], some (x_any))
set_option maxRecDepth 100000 in
theorem k_101 : xCon 101 c_101 := by
  have hk : xchk [(98, c_98)] ([((101, 21), ([(.inl 4, [(0, 10)]), (.inl 3, xany)], [], [5, 6], [], [], [(1, (-1))])), ((101, 33), ([(.inl 5, [(0, 40)]), (.inl 3, xany)], [], [6], [], [], [(1, (-1))]))]) 400 101 c_101 = true := by decide +kernel
  exact xchk_ok (x_cons k_98 x_nil) rfl hk
/-- X8_areStores -/
def c_102 : xCt := (0, [.inr [316], .inl [(0, 63)]], [], some (.inl [(0, 1)]))
set_option maxRecDepth 100000 in
theorem k_102 : xCon 102 c_102 := by
  have hk : xchk [] ([((102, 4), ([(.inl 3, [(0, 16)]), (.inl 2, [(0, 1)])], [], [], [], [], [(1, (-1))]))]) 400 102 c_102 = true := by decide +kernel
  exact xchk_ok (x_nil) rfl hk
/-- X8_find -/
def c_103 : xCt := (1, [.inr [316], x_any, x_any, x_any, x_any], [], some (.inl [((-6), -6), (0, 63)]))
set_option maxRecDepth 100000 in
theorem k_103 : xCon 103 c_103 := by
  have hk : xchk [(102, c_102)] ([((103, 9), ([(.inl 5, [(0, 64)])], [], [6], [], [], [(1, (-1))]))]) 600 103 c_103 = true := by decide +kernel
  exact xchk_ok (x_cons k_102 x_nil) rfl hk
/-- X8_copy -/
def c_104 : xCt := (0, [.inr [316], .inl [(0, 63)], .inl [(0, 63)]], [((323, 333), (-1, 10000))], none)
set_option maxRecDepth 100000 in
theorem k_104 : xCon 104 c_104 := by
  have hk : xchk [] ([((104, 110), ([(.inl 3, [(0, 3)])], [], [], [((323, 333), (-1, 10000))], [], [(1, (-1))])), ((104, 143), ([(.inl 3, [(0, 16)])], [], [], [((323, 333), (-1, 10000))], [], [(1, (-1))]))]) 400 104 c_104 = true := by decide +kernel
  exact xchk_ok (x_nil) rfl hk
/-- X8_goes -/
def c_106 : xCt := (0, [.inr [316]], [], some (.inl [(0, 63)]))
set_option maxRecDepth 100000 in
theorem k_106 : xCon 106 c_106 := by
  have hk : xchk [] ([((106, 12), ([(.inl 3, [(0, 64)]), (.inl 2, [(0, 63)])], [], [4], [], [], [(1, (-1))]))]) 400 106 c_106 = true := by decide +kernel
  exact xchk_ok (x_nil) rfl hk
/-- X8_toldSet -/
def c_119 : xCt := (0, [.inr [316]], [], some (x_any))
set_option maxRecDepth 100000 in
theorem k_119 : xCon 119 c_119 := by
  have hk : xchk [] ([((119, 4), ([(.inl 2, [(0, 10)]), (.inl 1, xany)], [], [], [], [], [(1, (-1))]))]) 400 119 c_119 = true := by decide +kernel
  exact xchk_ok (x_nil) rfl hk
/-- X8_bits -/
def c_132 : xCt := (0, [x_any], [], some (x_any))
set_option maxRecDepth 100000 in
theorem k_132 : xCon 132 c_132 := by
  have hk : xchk [] ([((132, 4), ([(.inl 2, [(0, 10)]), (.inl 1, xany)], [], [], [], [], [(1, (-1))]))]) 400 132 c_132 = true := by decide +kernel
  exact xchk_ok (x_nil) rfl hk
/-- X8_pure -/
def c_129 : xCt := (3, [.inr [316]], [], some (x_any))
set_option maxRecDepth 100000 in
theorem k_129 : xCon 129 c_129 := by
  have hk : xchk [(99, c_99)] ([((129, 4), ([(.inl 2, [(0, 10)]), (.inl 1, xany)], [], [], [], [], [(1, (-1))]))]) 400 129 c_129 = true := by decide +kernel
  exact xchk_ok (x_cons k_99 x_nil) rfl hk
/-- X8_code -/
def c_93 : xCt := (3, [.inr [316], x_any, x_any], [((316, 316), (3, 44)), ((317, 343), (-1, 10000))], some (x_any))
set_option maxRecDepth 100000 in
theorem k_93 : xCon 93 c_93 := by
  have hk : xchk [(99, c_99)] ([((93, 70), ([(.inl 3, [(0, 10)])], [], [], [((319, 319), (-1, 10000))], [], [(1, (-1))]))]) 400 93 c_93 = true := by decide +kernel
  exact xchk_ok (x_cons k_99 x_nil) rfl hk
/-- X8_codeAt -/
def c_94 : xCt := (2, [.inr [316], x_any, x_any], [((316, 316), (4, 44)), ((320, 343), (-1, 10000))], some (x_any))
set_option maxRecDepth 100000 in
theorem k_94 : xCon 94 c_94 := by
  have hk : xchk [] ([]) 400 94 c_94 = true := by decide +kernel
  exact xchk_ok (x_nil) rfl hk
/-- X8_store -/
def c_95 : xCt := (1, [.inr [316], x_any, x_any], [((316, 316), (4, 44)), ((320, 343), (-1, 10000))], some (x_any))
set_option maxRecDepth 100000 in
theorem k_95 : xCon 95 c_95 := by
  have hk : xchk [] ([]) 400 95 c_95 = true := by decide +kernel
  exact xchk_ok (x_nil) rfl hk
/-- X8_held -/
def c_96 : xCt := (1, [.inr [316], x_any], [((316, 316), (4, 44)), ((320, 343), (-1, 10000))], some (x_any))
set_option maxRecDepth 100000 in
theorem k_96 : xCon 96 c_96 := by
  have hk : xchk [] ([]) 400 96 c_96 = true := by decide +kernel
  exact xchk_ok (x_nil) rfl hk
/-- X8_lot -/
def c_97 : xCt := (0, [.inr [316], x_any], [((316, 316), (4, 44)), ((320, 343), (-1, 10000))], some (x_any))
set_option maxRecDepth 100000 in
theorem k_97 : xCon 97 c_97 := by
  have hk : xchk [] ([]) 400 97 c_97 = true := by decide +kernel
  exact xchk_ok (x_nil) rfl hk
/-- X8_acting -/
def c_100 : xCt := (3, [.inr [316], x_any], [((316, 316), (4, 44)), ((320, 343), (-1, 10000))], some (x_any))
set_option maxRecDepth 100000 in
theorem k_100 : xCon 100 c_100 := by
  have hk : xchk [(99, c_99)] ([]) 400 100 c_100 = true := by decide +kernel
  exact xchk_ok (x_cons k_99 x_nil) rfl hk
/-- X8_answer -/
def c_121 : xCt := (0, [.inr [316]], [((316, 316), (4, 44)), ((320, 343), (-1, 10000))], some (x_any))
set_option maxRecDepth 100000 in
theorem k_121 : xCon 121 c_121 := by
  have hk : xchk [] ([]) 400 121 c_121 = true := by decide +kernel
  exact xchk_ok (x_nil) rfl hk
/-- X8_ran -/
def c_122 : xCt := (1, [.inr [316], x_any], [((316, 316), (4, 44)), ((320, 343), (-1, 10000))], some (x_any))
set_option maxRecDepth 100000 in
theorem k_122 : xCon 122 c_122 := by
  have hk : xchk [] ([]) 400 122 c_122 = true := by decide +kernel
  exact xchk_ok (x_nil) rfl hk
/-- X8_keep -/
def c_123 : xCt := (3, [.inr [316], x_any, .inl [(0, 1)]], [((316, 316), (4, 44)), ((319, 343), (-1, 10000))], some (x_any))
set_option maxRecDepth 100000 in
theorem k_123 : xCon 123 c_123 := by
  have hk : xchk [(99, c_99), (104, c_104)] ([((123, 58), ([(.inl 4, [((-1), 31)]), (.inr (322, 0), [(0, 32)])], [], [], [((322, 333), (-1, 10000))], [[(0, (-1)), (1, (-1)), (2, 1)]], [(1, 1)]))] ++ [((105, 15), ([(.inl 2, [(0, 63)])], [], [], [((323, 333), (-1, 10000))], [], [(1, (-1))]))]) 400 123 c_123 = true := by decide +kernel
  exact xchk_ok (x_cons k_99 (x_cons k_104 x_nil)) rfl hk
/-- X8_room -/
def c_124 : xCt := (2, [.inr [316], x_any, x_any], [((316, 316), (4, 44)), ((320, 343), (-1, 10000))], some (x_any))
set_option maxRecDepth 100000 in
theorem k_124 : xCon 124 c_124 := by
  have hk : xchk [(104, c_104)] ([((124, 39), ([(.inr (322, 0), [(0, 32)]), (.inl 3, xany)], [], [], [((322, 333), (-1, 10000))], [], [(1, 1)]))] ++ [((105, 15), ([(.inl 2, [(0, 63)])], [], [], [((323, 333), (-1, 10000))], [], [(1, (-1))]))]) 400 124 c_124 = true := by decide +kernel
  exact xchk_ok (x_cons k_104 x_nil) rfl hk
/-- X8_forget -/
def c_125 : xCt := (0, [.inr [316]], [((316, 316), (4, 44)), ((320, 343), (-1, 10000))], some (x_any))
set_option maxRecDepth 100000 in
theorem k_125 : xCon 125 c_125 := by
  have hk : xchk [] ([]) 400 125 c_125 = true := by decide +kernel
  exact xchk_ok (x_nil) rfl hk
/-- X8_kept -/
def c_126 : xCt := (1, [.inr [316], x_any, x_any], [((316, 316), (4, 44)), ((320, 343), (-1, 10000))], some (x_any))
set_option maxRecDepth 100000 in
theorem k_126 : xCon 126 c_126 := by
  have hk : xchk [(102, c_102)] ([]) 400 126 c_126 = true := by decide +kernel
  exact xchk_ok (x_cons k_102 x_nil) rfl hk
/-- X8_told -/
def c_134 : xCt := (1, [.inr [316], x_any], [((316, 316), (4, 44)), ((320, 343), (-1, 10000))], some (x_any))
set_option maxRecDepth 100000 in
theorem k_134 : xCon 134 c_134 := by
  have hk : xchk [(119, c_119)] ([]) 400 134 c_134 = true := by decide +kernel
  exact xchk_ok (x_cons k_119 x_nil) rfl hk
