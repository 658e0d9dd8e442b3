/-! log and clear, coarse (laid by wip/gen/sx11.py) -/
/-- X7_log -/
def c_78 : xCt := (1, [.inr [1], x_any, x_any, x_any, x_any], [((294, 315), (-1, 10000))], some (x_any))
set_option maxRecDepth 100000 in
theorem k_78 : xCon 78 c_78 := by
  have hk : xchk [] ([]) 400 78 c_78 = true := by decide +kernel
  exact xchk_ok (x_nil) rfl hk
/-- X7_clear -/
def c_79 : xCt := (0, [.inr [1]], [((294, 294), (1, 1))], some (x_any))
set_option maxRecDepth 100000 in
theorem k_79 : xCon 79 c_79 := by
  have hk : xchk [] ([]) 400 79 c_79 = true := by decide +kernel
  exact xchk_ok (x_nil) rfl hk
/-- X8_log -/
def c_127 : xCt := (2, [.inr [316], x_any, x_any, x_any, x_any], [((316, 316), (45, 45)), ((344, 344), (-1, 10000))], some (x_any))
set_option maxRecDepth 100000 in
theorem k_127 : xCon 127 c_127 := by
  have hk : xchk [] ([]) 400 127 c_127 = true := by decide +kernel
  exact xchk_ok (x_nil) rfl hk
/-- X8_clear -/
def c_128 : xCt := (0, [.inr [316]], [((316, 316), (45, 45))], some (x_any))
set_option maxRecDepth 100000 in
theorem k_128 : xCon 128 c_128 := by
  have hk : xchk [] ([]) 400 128 c_128 = true := by decide +kernel
  exact xchk_ok (x_nil) rfl hk
