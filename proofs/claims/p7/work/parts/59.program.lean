/-! contracts by symbolic runs (laid by wip/gen/sx3.py): Program, RunLog, Machine -/
/-- X3_codeOf -/
def c_33 : xCt := (2, [.inr [2], x_any, x_any], [], some (.inl [((-6), -6), (0, 620)]))
set_option maxRecDepth 100000 in
theorem k_33 : xCon 33 c_33 := by
  have hk : xchk [] ([]) 400 33 c_33 = true := by decide +kernel
  exact xchk_ok (x_nil) rfl hk
/-- X3_actingOf -/
def c_34 : xCt := (1, [.inr [2], x_any], [], some (x_any))
set_option maxRecDepth 100000 in
theorem k_34 : xCon 34 c_34 := by
  have hk : xchk [] ([]) 400 34 c_34 = true := by decide +kernel
  exact xchk_ok (x_nil) rfl hk
/-- X3_readingOf -/
def c_35 : xCt := (1, [.inr [2], x_any], [], some (x_any))
set_option maxRecDepth 100000 in
theorem k_35 : xCon 35 c_35 := by
  have hk : xchk [] ([]) 400 35 c_35 = true := by decide +kernel
  exact xchk_ok (x_nil) rfl hk
/-- X3_gatherFromCalled -/
def c_39 : xCt := (1, [.inr [2], .inl [(0, 9)]], [((15, 16), (-1, 10000))], none)
set_option maxRecDepth 100000 in
theorem k_39 : xCon 39 c_39 := by
  have hk : xchk [(87, c_87)] ([((39, 2), ([(.inl 2, [(0, 10)])], [], [], [((15, 16), (-1, 10000))], [], [(1, (-1))]))]) 400 39 c_39 = true := by decide +kernel
  exact xchk_ok (x_cons k_87 x_nil) rfl hk
/-- X3_spreadToCallers -/
def c_38 : xCt := (2, [.inr [2]], [((15, 16), (-1, 10000))], none)
set_option maxRecDepth 100000 in
theorem k_38 : xCon 38 c_38 := by
  have hk : xchk [(39, c_39)] ([((38, 2), ([(.inl 1, [(0, 10)])], [], [2], [((15, 16), (-1, 10000))], [], [(1, (-1))])), ((38, 12), ([(.inl 2, [(0, 10)])], [], [], [((15, 16), (-1, 10000))], [], [(1, (-1))]))]) 400 38 c_38 = true := by decide +kernel
  exact xchk_ok (x_cons k_39 x_nil) rfl hk
/-- X3_addCode -/
def c_37 : xCt := (3, [.inr [2], x_any, .inl [(0, 620)]], [((4, 17), (-1, 10000))], none)
set_option maxRecDepth 100000 in
theorem k_37 : xCon 37 c_37 := by
  have hk : xchk [(38, c_38)] ([]) 400 37 c_37 = true := by decide +kernel
  exact xchk_ok (x_cons k_38 x_nil) rfl hk
/-- X3_firstKeepable -/
def c_41 : xCt := (1, [.inr [2], x_any], [], some (x_any))
set_option maxRecDepth 100000 in
theorem k_41 : xCon 41 c_41 := by
  have hk : xchk [(135, c_135)] ([((41, 4), ([(.inl 3, [(0, 10)]), (.inl 2, xany)], [], [], [], [], [(1, (-1))]))]) 400 41 c_41 = true := by decide +kernel
  exact xchk_ok (x_cons k_135 x_nil) rfl hk
/-- X3_keepable -/
def c_40 : xCt := (2, [.inr [2]], [], some (x_any))
set_option maxRecDepth 100000 in
theorem k_40 : xCon 40 c_40 := by
  have hk : xchk [(41, c_41)] ([]) 400 40 c_40 = true := by decide +kernel
  exact xchk_ok (x_cons k_41 x_nil) rfl hk
/-- X4_fact -/
def c_44 : xCt := (0, [.inr [294], x_any, x_any], [], some (x_any))
set_option maxRecDepth 100000 in
theorem k_44 : xCon 44 c_44 := by
  have hk : xchk [] ([]) 400 44 c_44 = true := by decide +kernel
  exact xchk_ok (x_nil) rfl hk
/-- X2_fits -/
def c_19 : xCt := (0, [.inr [118, 256], .inr x_ks, x_any], [], some (.inl [(0, 1)]))
set_option maxRecDepth 100000 in
theorem k_19 : xCon 19 c_19 := by
  have hk : xchk [] ([]) 400 19 c_19 = true := by decide +kernel
  exact xchk_ok (x_nil) rfl hk
/-- X2_recall -/
def c_20 : xCt := (1, [.inr [118, 256], .inr x_ks, .inr x_fs], [((18, 293), (-1, 10000))], some (x_any))
set_option maxRecDepth 100000 in
theorem k_20 : xCon 20 c_20 := by
  have hk : xchk [(49, c_49)] ([]) 400 20 c_20 = true := by decide +kernel
  exact xchk_ok (x_cons k_49 x_nil) rfl hk
/-- X2_readNumber -/
def c_23 : xCt := (1, [.inr [118, 256], x_any, .inr x_fs], [((18, 293), (-1, 10000))], some (x_any))
set_option maxRecDepth 100000 in
theorem k_23 : xCon 23 c_23 := by
  have hk : xchk [(3, c_3), (2, c_2), (4, c_4)] ([]) 400 23 c_23 = true := by decide +kernel
  exact xchk_ok (x_cons k_3 (x_cons k_2 (x_cons k_4 x_nil))) rfl hk
/-- X2_readStore -/
def c_24 : xCt := (1, [.inr [118, 256], x_any, .inr x_fs], [((18, 293), (-1, 10000))], some (x_any))
set_option maxRecDepth 100000 in
theorem k_24 : xCon 24 c_24 := by
  have hk : xchk [(3, c_3), (58, c_58), (4, c_4)] ([]) 400 24 c_24 = true := by decide +kernel
  exact xchk_ok (x_cons k_3 (x_cons k_58 (x_cons k_4 x_nil))) rfl hk
/-- X2_writeStore -/
def c_25 : xCt := (1, [.inr [118, 256], x_any, .inr x_fs], [((18, 293), (-1, 10000))], some (x_any))
set_option maxRecDepth 100000 in
theorem k_25 : xCon 25 c_25 := by
  have hk : xchk [(6, c_6), (59, c_59)] ([]) 400 25 c_25 = true := by decide +kernel
  exact xchk_ok (x_cons k_6 (x_cons k_59 x_nil)) rfl hk
/-- X2_combine -/
def c_27 : xCt := (1, [.inr [118, 256], x_any, .inr x_fs], [((18, 293), (-1, 10000))], some (x_any))
set_option maxRecDepth 100000 in
theorem k_27 : xCon 27 c_27 := by
  have hk : xchk [(6, c_6), (4, c_4)] ([]) 400 27 c_27 = true := by decide +kernel
  exact xchk_ok (x_cons k_6 (x_cons k_4 x_nil)) rfl hk
/-- X2_changeEnd -/
def c_28 : xCt := (1, [.inr [118, 256], x_any, .inr x_fs], [((18, 293), (-1, 10000))], some (x_any))
set_option maxRecDepth 100000 in
theorem k_28 : xCon 28 c_28 := by
  have hk : xchk [(3, c_3), (60, c_60), (4, c_4), (5, c_5), (6, c_6)] ([]) 400 28 c_28 = true := by decide +kernel
  exact xchk_ok (x_cons k_3 (x_cons k_60 (x_cons k_4 (x_cons k_5 (x_cons k_6 x_nil))))) rfl hk
