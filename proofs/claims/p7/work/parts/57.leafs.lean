/-! contracts by symbolic runs (laid by wip/gen/sx1.py): Frame, World -/
def x_ks : List Nat := [22, 25, 28, 31, 34, 37, 40, 43, 46, 49, 52, 55, 58, 61, 64, 67, 70, 73, 76, 79, 82, 85, 88, 91, 94, 97, 100, 103, 106, 109, 112, 115, 160, 163, 166, 169, 172, 175, 178, 181, 184, 187, 190, 193, 196, 199, 202, 205, 208, 211, 214, 217, 220, 223, 226, 229, 232, 235, 238, 241, 244, 247, 250, 253]
/-- X7_isSet -/
def c_87 : xCt := (0, [x_any, x_any], [], some (.inl [(0, 1)]))
set_option maxRecDepth 100000 in
theorem k_87 : xCon 87 c_87 := by
  have hk : xchk [] ([]) 400 87 c_87 = true := by decide +kernel
  exact xchk_ok (x_nil) rfl hk
/-- J6_bitCount_0f7a4 -/
def c_135 : xCt := (0, [x_any], [], some (x_any))
set_option maxRecDepth 100000 in
theorem k_135 : xCon 135 c_135 := by
  have hk : xchk [] ([]) 400 135 c_135 = true := by decide +kernel
  exact xchk_ok (x_nil) rfl hk
/-- X0_begin -/
def c_1 : xCt := (0, [.inr x_fs, x_any, x_any, x_any], [((18, 293), (-1, 10000))], none)
set_option maxRecDepth 100000 in
theorem k_1 : xCon 1 c_1 := by
  have hk : xchk [] ([]) 400 1 c_1 = true := by decide +kernel
  exact xchk_ok (x_nil) rfl hk
/-- X0_numberOf -/
def c_2 : xCt := (0, [.inr x_fs, x_any], [], some (x_any))
set_option maxRecDepth 100000 in
theorem k_2 : xCon 2 c_2 := by
  have hk : xchk [] ([]) 400 2 c_2 = true := by decide +kernel
  exact xchk_ok (x_nil) rfl hk
/-- X0_isFull -/
def c_3 : xCt := (0, [.inr x_fs], [], some (.inl [(0, 1)]))
set_option maxRecDepth 100000 in
theorem k_3 : xCon 3 c_3 := by
  have hk : xchk [] ([]) 400 3 c_3 = true := by decide +kernel
  exact xchk_ok (x_nil) rfl hk
/-- X0_put -/
def c_4 : xCt := (0, [.inr x_fs, x_any], [((18, 293), (-1, 10000))], some (x_any))
set_option maxRecDepth 100000 in
theorem k_4 : xCon 4 c_4 := by
  have hk : xcks [] ([]) 400 4 0 x_fs [x_any] [((18, 293), (-1, 10000))] (some (x_any)) = true := by decide +kernel
  exact xcks_ok (x_nil) rfl hk
/-- X0_last -/
def c_5 : xCt := (0, [.inr x_fs], [], some (x_any))
set_option maxRecDepth 100000 in
theorem k_5 : xCon 5 c_5 := by
  have hk : xcks [] ([]) 400 5 0 x_fs [] [] (some (x_any)) = true := by decide +kernel
  exact xcks_ok (x_nil) rfl hk
/-- X0_take -/
def c_6 : xCt := (0, [.inr x_fs], [((18, 293), (-1, 10000))], some (x_any))
set_option maxRecDepth 100000 in
theorem k_6 : xCon 6 c_6 := by
  have hk : xcks [] ([]) 400 6 0 x_fs [] [((18, 293), (-1, 10000))] (some (x_any)) = true := by decide +kernel
  exact xcks_ok (x_nil) rfl hk
/-- X0_joinCalled -/
def c_7 : xCt := (0, [.inr x_fs, .inr x_fs], [((18, 293), (-1, 10000))], none)
set_option maxRecDepth 100000 in
theorem k_7 : xCon 7 c_7 := by
  have hk : xchk [] ([]) 400 7 c_7 = true := by decide +kernel
  exact xchk_ok (x_nil) rfl hk
/-- X6_valueOf -/
def c_58 : xCt := (0, [.inr [18, 156], x_any], [], some (x_any))
set_option maxRecDepth 100000 in
theorem k_58 : xCon 58 c_58 := by
  have hk : xchk [] ([]) 400 58 c_58 = true := by decide +kernel
  exact xchk_ok (x_nil) rfl hk
/-- X6_setValue -/
def c_59 : xCt := (0, [.inr [18, 156], x_any, x_any], [((18, 293), (-1, 10000))], none)
set_option maxRecDepth 100000 in
theorem k_59 : xCon 59 c_59 := by
  have hk : xchk [] ([]) 400 59 c_59 = true := by decide +kernel
  exact xchk_ok (x_nil) rfl hk
/-- X6_nextLot -/
def c_60 : xCt := (0, [.inr [18, 156]], [((18, 293), (-1, 10000))], some (x_any))
set_option maxRecDepth 100000 in
theorem k_60 : xCon 60 c_60 := by
  have hk : xchk [] ([]) 400 60 c_60 = true := by decide +kernel
  exact xchk_ok (x_nil) rfl hk
/-- X6_copyFrom -/
def c_61 : xCt := (0, [.inr [18, 156], .inr [18, 156]], [((18, 293), (-1, 10000))], none)
set_option maxRecDepth 100000 in
theorem k_61 : xCon 61 c_61 := by
  have hk : xchk [] ([((61, 2), ([(.inl 2, [(0, 16)])], [], [], [((18, 293), (-1, 10000))], [], [(1, (-1))]))]) 400 61 c_61 = true := by decide +kernel
  exact xchk_ok (x_nil) rfl hk
