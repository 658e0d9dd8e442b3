/-! contracts by symbolic runs (laid by wip/gen/sx4.py): the class's Machine, from the deepest call outwards -/
/-- X2_callRoutine -/
def c_26_12 : xCt := (1, [.inr [118, 256], x_any, .inr x_fs, .inl [(12, 12)]], [((18, 293), (-1, 10000))], some (x_any))
set_option maxRecDepth 100000 in
theorem k_26_12 : xCon 26 c_26_12 := by
  have hk : xchk [(6, c_6), (1, c_1), (87, c_87), (33, c_33), (4, c_4), (23, c_23), (24, c_24), (25, c_25), (7, c_7), (27, c_27), (28, c_28), (5, c_5), (48, c_48), (47, c_47), (19, c_19), (20, c_20), (50, c_50)] ([]) 400 26 c_26_12 = true := by decide +kernel
  exact xchk_ok (x_cons k_6 (x_cons k_1 (x_cons k_87 (x_cons k_33 (x_cons k_4 (x_cons k_23 (x_cons k_24 (x_cons k_25 (x_cons k_7 (x_cons k_27 (x_cons k_28 (x_cons k_5 (x_cons k_48 (x_cons k_47 (x_cons k_19 (x_cons k_20 (x_cons k_50 x_nil))))))))))))))))) rfl hk
/-- X2_perform -/
def c_22_12 : xCt := (2, [.inr [118, 256], x_any, .inr x_fs, .inl [(12, 12)]], [((18, 293), (-1, 10000))], some (x_any))
set_option maxRecDepth 100000 in
theorem k_22_12 : xCon 22 c_22_12 := by
  have hk : xchk [(4, c_4), (23, c_23), (24, c_24), (25, c_25), (26, c_26_12), (27, c_27), (28, c_28)] ([]) 400 22 c_22_12 = true := by decide +kernel
  exact xchk_ok (x_cons k_4 (x_cons k_23 (x_cons k_24 (x_cons k_25 (x_cons k_26_12 (x_cons k_27 (x_cons k_28 x_nil))))))) rfl hk
/-- X2_walk -/
def c_21_12 : xCt := (3, [.inr [118, 256], x_any, .inr x_fs, .inl [(12, 12)]], [((18, 293), (-1, 10000))], some (x_any))
set_option maxRecDepth 100000 in
theorem k_21_12 : xCon 21 c_21_12 := by
  have hk : xchk [(33, c_33), (22, c_22_12), (6, c_6), (5, c_5)] ([((21, 13), ([(.inl 5, [(0, 140)])], [], [6, 7], [((18, 293), (-1, 10000))], [], [(1, (-1))]))]) 400 21 c_21_12 = true := by decide +kernel
  exact xchk_ok (x_cons k_33 (x_cons k_22_12 (x_cons k_6 (x_cons k_5 x_nil)))) rfl hk
/-- X2_enter -/
def c_18_12 : xCt := (4, [.inr [118, 256], x_any, .inr x_fs, .inl [(12, 12)]], [((18, 293), (-1, 10000))], some (x_any))
set_option maxRecDepth 100000 in
theorem k_18_12 : xCon 18 c_18_12 := by
  have hk : xchk [(87, c_87), (21, c_21_12), (48, c_48), (47, c_47), (19, c_19), (20, c_20), (50, c_50)] ([]) 400 18 c_18_12 = true := by decide +kernel
  exact xchk_ok (x_cons k_87 (x_cons k_21_12 (x_cons k_48 (x_cons k_47 (x_cons k_19 (x_cons k_20 (x_cons k_50 x_nil))))))) rfl hk
/-- X2_callRoutine -/
def c_26_11 : xCt := (5, [.inr [118, 256], x_any, .inr x_fs, .inl [(11, 12)]], [((18, 293), (-1, 10000))], some (x_any))
set_option maxRecDepth 100000 in
theorem k_26_11 : xCon 26 c_26_11 := by
  have hk : xchk [(18, c_18_12), (6, c_6), (1, c_1), (7, c_7), (4, c_4)] ([]) 400 26 c_26_11 = true := by decide +kernel
  exact xchk_ok (x_cons k_18_12 (x_cons k_6 (x_cons k_1 (x_cons k_7 (x_cons k_4 x_nil))))) rfl hk
/-- X2_perform -/
def c_22_11 : xCt := (6, [.inr [118, 256], x_any, .inr x_fs, .inl [(11, 12)]], [((18, 293), (-1, 10000))], some (x_any))
set_option maxRecDepth 100000 in
theorem k_22_11 : xCon 22 c_22_11 := by
  have hk : xchk [(4, c_4), (23, c_23), (24, c_24), (25, c_25), (26, c_26_11), (27, c_27), (28, c_28)] ([]) 400 22 c_22_11 = true := by decide +kernel
  exact xchk_ok (x_cons k_4 (x_cons k_23 (x_cons k_24 (x_cons k_25 (x_cons k_26_11 (x_cons k_27 (x_cons k_28 x_nil))))))) rfl hk
/-- X2_walk -/
def c_21_11 : xCt := (7, [.inr [118, 256], x_any, .inr x_fs, .inl [(11, 12)]], [((18, 293), (-1, 10000))], some (x_any))
set_option maxRecDepth 100000 in
theorem k_21_11 : xCon 21 c_21_11 := by
  have hk : xchk [(33, c_33), (22, c_22_11), (6, c_6), (5, c_5)] ([((21, 13), ([(.inl 5, [(0, 140)])], [], [6, 7], [((18, 293), (-1, 10000))], [], [(1, (-1))]))]) 400 21 c_21_11 = true := by decide +kernel
  exact xchk_ok (x_cons k_33 (x_cons k_22_11 (x_cons k_6 (x_cons k_5 x_nil)))) rfl hk
/-- X2_enter -/
def c_18_11 : xCt := (8, [.inr [118, 256], x_any, .inr x_fs, .inl [(11, 12)]], [((18, 293), (-1, 10000))], some (x_any))
set_option maxRecDepth 100000 in
theorem k_18_11 : xCon 18 c_18_11 := by
  have hk : xchk [(87, c_87), (21, c_21_11), (48, c_48), (47, c_47), (19, c_19), (20, c_20), (50, c_50)] ([]) 400 18 c_18_11 = true := by decide +kernel
  exact xchk_ok (x_cons k_87 (x_cons k_21_11 (x_cons k_48 (x_cons k_47 (x_cons k_19 (x_cons k_20 (x_cons k_50 x_nil))))))) rfl hk
/-- X2_callRoutine -/
def c_26_10 : xCt := (9, [.inr [118, 256], x_any, .inr x_fs, .inl [(10, 12)]], [((18, 293), (-1, 10000))], some (x_any))
set_option maxRecDepth 100000 in
theorem k_26_10 : xCon 26 c_26_10 := by
  have hk : xchk [(18, c_18_11), (6, c_6), (1, c_1), (7, c_7), (4, c_4)] ([]) 400 26 c_26_10 = true := by decide +kernel
  exact xchk_ok (x_cons k_18_11 (x_cons k_6 (x_cons k_1 (x_cons k_7 (x_cons k_4 x_nil))))) rfl hk
/-- X2_perform -/
def c_22_10 : xCt := (10, [.inr [118, 256], x_any, .inr x_fs, .inl [(10, 12)]], [((18, 293), (-1, 10000))], some (x_any))
set_option maxRecDepth 100000 in
theorem k_22_10 : xCon 22 c_22_10 := by
  have hk : xchk [(4, c_4), (23, c_23), (24, c_24), (25, c_25), (26, c_26_10), (27, c_27), (28, c_28)] ([]) 400 22 c_22_10 = true := by decide +kernel
  exact xchk_ok (x_cons k_4 (x_cons k_23 (x_cons k_24 (x_cons k_25 (x_cons k_26_10 (x_cons k_27 (x_cons k_28 x_nil))))))) rfl hk
/-- X2_walk -/
def c_21_10 : xCt := (11, [.inr [118, 256], x_any, .inr x_fs, .inl [(10, 12)]], [((18, 293), (-1, 10000))], some (x_any))
set_option maxRecDepth 100000 in
theorem k_21_10 : xCon 21 c_21_10 := by
  have hk : xchk [(33, c_33), (22, c_22_10), (6, c_6), (5, c_5)] ([((21, 13), ([(.inl 5, [(0, 140)])], [], [6, 7], [((18, 293), (-1, 10000))], [], [(1, (-1))]))]) 400 21 c_21_10 = true := by decide +kernel
  exact xchk_ok (x_cons k_33 (x_cons k_22_10 (x_cons k_6 (x_cons k_5 x_nil)))) rfl hk
/-- X2_enter -/
def c_18_10 : xCt := (12, [.inr [118, 256], x_any, .inr x_fs, .inl [(10, 12)]], [((18, 293), (-1, 10000))], some (x_any))
set_option maxRecDepth 100000 in
theorem k_18_10 : xCon 18 c_18_10 := by
  have hk : xchk [(87, c_87), (21, c_21_10), (48, c_48), (47, c_47), (19, c_19), (20, c_20), (50, c_50)] ([]) 400 18 c_18_10 = true := by decide +kernel
  exact xchk_ok (x_cons k_87 (x_cons k_21_10 (x_cons k_48 (x_cons k_47 (x_cons k_19 (x_cons k_20 (x_cons k_50 x_nil))))))) rfl hk
/-- X2_callRoutine -/
def c_26_9 : xCt := (13, [.inr [118, 256], x_any, .inr x_fs, .inl [(9, 12)]], [((18, 293), (-1, 10000))], some (x_any))
set_option maxRecDepth 100000 in
theorem k_26_9 : xCon 26 c_26_9 := by
  have hk : xchk [(18, c_18_10), (6, c_6), (1, c_1), (7, c_7), (4, c_4)] ([]) 400 26 c_26_9 = true := by decide +kernel
  exact xchk_ok (x_cons k_18_10 (x_cons k_6 (x_cons k_1 (x_cons k_7 (x_cons k_4 x_nil))))) rfl hk
/-- X2_perform -/
def c_22_9 : xCt := (14, [.inr [118, 256], x_any, .inr x_fs, .inl [(9, 12)]], [((18, 293), (-1, 10000))], some (x_any))
set_option maxRecDepth 100000 in
theorem k_22_9 : xCon 22 c_22_9 := by
  have hk : xchk [(4, c_4), (23, c_23), (24, c_24), (25, c_25), (26, c_26_9), (27, c_27), (28, c_28)] ([]) 400 22 c_22_9 = true := by decide +kernel
  exact xchk_ok (x_cons k_4 (x_cons k_23 (x_cons k_24 (x_cons k_25 (x_cons k_26_9 (x_cons k_27 (x_cons k_28 x_nil))))))) rfl hk
/-- X2_walk -/
def c_21_9 : xCt := (15, [.inr [118, 256], x_any, .inr x_fs, .inl [(9, 12)]], [((18, 293), (-1, 10000))], some (x_any))
set_option maxRecDepth 100000 in
theorem k_21_9 : xCon 21 c_21_9 := by
  have hk : xchk [(33, c_33), (22, c_22_9), (6, c_6), (5, c_5)] ([((21, 13), ([(.inl 5, [(0, 140)])], [], [6, 7], [((18, 293), (-1, 10000))], [], [(1, (-1))]))]) 400 21 c_21_9 = true := by decide +kernel
  exact xchk_ok (x_cons k_33 (x_cons k_22_9 (x_cons k_6 (x_cons k_5 x_nil)))) rfl hk
/-- X2_enter -/
def c_18_9 : xCt := (16, [.inr [118, 256], x_any, .inr x_fs, .inl [(9, 12)]], [((18, 293), (-1, 10000))], some (x_any))
set_option maxRecDepth 100000 in
theorem k_18_9 : xCon 18 c_18_9 := by
  have hk : xchk [(87, c_87), (21, c_21_9), (48, c_48), (47, c_47), (19, c_19), (20, c_20), (50, c_50)] ([]) 400 18 c_18_9 = true := by decide +kernel
  exact xchk_ok (x_cons k_87 (x_cons k_21_9 (x_cons k_48 (x_cons k_47 (x_cons k_19 (x_cons k_20 (x_cons k_50 x_nil))))))) rfl hk
/-- X2_callRoutine -/
def c_26_8 : xCt := (17, [.inr [118, 256], x_any, .inr x_fs, .inl [(8, 12)]], [((18, 293), (-1, 10000))], some (x_any))
set_option maxRecDepth 100000 in
theorem k_26_8 : xCon 26 c_26_8 := by
  have hk : xchk [(18, c_18_9), (6, c_6), (1, c_1), (7, c_7), (4, c_4)] ([]) 400 26 c_26_8 = true := by decide +kernel
  exact xchk_ok (x_cons k_18_9 (x_cons k_6 (x_cons k_1 (x_cons k_7 (x_cons k_4 x_nil))))) rfl hk
/-- X2_perform -/
def c_22_8 : xCt := (18, [.inr [118, 256], x_any, .inr x_fs, .inl [(8, 12)]], [((18, 293), (-1, 10000))], some (x_any))
set_option maxRecDepth 100000 in
theorem k_22_8 : xCon 22 c_22_8 := by
  have hk : xchk [(4, c_4), (23, c_23), (24, c_24), (25, c_25), (26, c_26_8), (27, c_27), (28, c_28)] ([]) 400 22 c_22_8 = true := by decide +kernel
  exact xchk_ok (x_cons k_4 (x_cons k_23 (x_cons k_24 (x_cons k_25 (x_cons k_26_8 (x_cons k_27 (x_cons k_28 x_nil))))))) rfl hk
/-- X2_walk -/
def c_21_8 : xCt := (19, [.inr [118, 256], x_any, .inr x_fs, .inl [(8, 12)]], [((18, 293), (-1, 10000))], some (x_any))
set_option maxRecDepth 100000 in
theorem k_21_8 : xCon 21 c_21_8 := by
  have hk : xchk [(33, c_33), (22, c_22_8), (6, c_6), (5, c_5)] ([((21, 13), ([(.inl 5, [(0, 140)])], [], [6, 7], [((18, 293), (-1, 10000))], [], [(1, (-1))]))]) 400 21 c_21_8 = true := by decide +kernel
  exact xchk_ok (x_cons k_33 (x_cons k_22_8 (x_cons k_6 (x_cons k_5 x_nil)))) rfl hk
/-- X2_enter -/
def c_18_8 : xCt := (20, [.inr [118, 256], x_any, .inr x_fs, .inl [(8, 12)]], [((18, 293), (-1, 10000))], some (x_any))
set_option maxRecDepth 100000 in
theorem k_18_8 : xCon 18 c_18_8 := by
  have hk : xchk [(87, c_87), (21, c_21_8), (48, c_48), (47, c_47), (19, c_19), (20, c_20), (50, c_50)] ([]) 400 18 c_18_8 = true := by decide +kernel
  exact xchk_ok (x_cons k_87 (x_cons k_21_8 (x_cons k_48 (x_cons k_47 (x_cons k_19 (x_cons k_20 (x_cons k_50 x_nil))))))) rfl hk
/-- X2_callRoutine -/
def c_26_7 : xCt := (21, [.inr [118, 256], x_any, .inr x_fs, .inl [(7, 12)]], [((18, 293), (-1, 10000))], some (x_any))
set_option maxRecDepth 100000 in
theorem k_26_7 : xCon 26 c_26_7 := by
  have hk : xchk [(18, c_18_8), (6, c_6), (1, c_1), (7, c_7), (4, c_4)] ([]) 400 26 c_26_7 = true := by decide +kernel
  exact xchk_ok (x_cons k_18_8 (x_cons k_6 (x_cons k_1 (x_cons k_7 (x_cons k_4 x_nil))))) rfl hk
/-- X2_perform -/
def c_22_7 : xCt := (22, [.inr [118, 256], x_any, .inr x_fs, .inl [(7, 12)]], [((18, 293), (-1, 10000))], some (x_any))
set_option maxRecDepth 100000 in
theorem k_22_7 : xCon 22 c_22_7 := by
  have hk : xchk [(4, c_4), (23, c_23), (24, c_24), (25, c_25), (26, c_26_7), (27, c_27), (28, c_28)] ([]) 400 22 c_22_7 = true := by decide +kernel
  exact xchk_ok (x_cons k_4 (x_cons k_23 (x_cons k_24 (x_cons k_25 (x_cons k_26_7 (x_cons k_27 (x_cons k_28 x_nil))))))) rfl hk
/-- X2_walk -/
def c_21_7 : xCt := (23, [.inr [118, 256], x_any, .inr x_fs, .inl [(7, 12)]], [((18, 293), (-1, 10000))], some (x_any))
set_option maxRecDepth 100000 in
theorem k_21_7 : xCon 21 c_21_7 := by
  have hk : xchk [(33, c_33), (22, c_22_7), (6, c_6), (5, c_5)] ([((21, 13), ([(.inl 5, [(0, 140)])], [], [6, 7], [((18, 293), (-1, 10000))], [], [(1, (-1))]))]) 400 21 c_21_7 = true := by decide +kernel
  exact xchk_ok (x_cons k_33 (x_cons k_22_7 (x_cons k_6 (x_cons k_5 x_nil)))) rfl hk
/-- X2_enter -/
def c_18_7 : xCt := (24, [.inr [118, 256], x_any, .inr x_fs, .inl [(7, 12)]], [((18, 293), (-1, 10000))], some (x_any))
set_option maxRecDepth 100000 in
theorem k_18_7 : xCon 18 c_18_7 := by
  have hk : xchk [(87, c_87), (21, c_21_7), (48, c_48), (47, c_47), (19, c_19), (20, c_20), (50, c_50)] ([]) 400 18 c_18_7 = true := by decide +kernel
  exact xchk_ok (x_cons k_87 (x_cons k_21_7 (x_cons k_48 (x_cons k_47 (x_cons k_19 (x_cons k_20 (x_cons k_50 x_nil))))))) rfl hk
/-- X2_callRoutine -/
def c_26_6 : xCt := (25, [.inr [118, 256], x_any, .inr x_fs, .inl [(6, 12)]], [((18, 293), (-1, 10000))], some (x_any))
set_option maxRecDepth 100000 in
theorem k_26_6 : xCon 26 c_26_6 := by
  have hk : xchk [(18, c_18_7), (6, c_6), (1, c_1), (7, c_7), (4, c_4)] ([]) 400 26 c_26_6 = true := by decide +kernel
  exact xchk_ok (x_cons k_18_7 (x_cons k_6 (x_cons k_1 (x_cons k_7 (x_cons k_4 x_nil))))) rfl hk
/-- X2_perform -/
def c_22_6 : xCt := (26, [.inr [118, 256], x_any, .inr x_fs, .inl [(6, 12)]], [((18, 293), (-1, 10000))], some (x_any))
set_option maxRecDepth 100000 in
theorem k_22_6 : xCon 22 c_22_6 := by
  have hk : xchk [(4, c_4), (23, c_23), (24, c_24), (25, c_25), (26, c_26_6), (27, c_27), (28, c_28)] ([]) 400 22 c_22_6 = true := by decide +kernel
  exact xchk_ok (x_cons k_4 (x_cons k_23 (x_cons k_24 (x_cons k_25 (x_cons k_26_6 (x_cons k_27 (x_cons k_28 x_nil))))))) rfl hk
/-- X2_walk -/
def c_21_6 : xCt := (27, [.inr [118, 256], x_any, .inr x_fs, .inl [(6, 12)]], [((18, 293), (-1, 10000))], some (x_any))
set_option maxRecDepth 100000 in
theorem k_21_6 : xCon 21 c_21_6 := by
  have hk : xchk [(33, c_33), (22, c_22_6), (6, c_6), (5, c_5)] ([((21, 13), ([(.inl 5, [(0, 140)])], [], [6, 7], [((18, 293), (-1, 10000))], [], [(1, (-1))]))]) 400 21 c_21_6 = true := by decide +kernel
  exact xchk_ok (x_cons k_33 (x_cons k_22_6 (x_cons k_6 (x_cons k_5 x_nil)))) rfl hk
/-- X2_enter -/
def c_18_6 : xCt := (28, [.inr [118, 256], x_any, .inr x_fs, .inl [(6, 12)]], [((18, 293), (-1, 10000))], some (x_any))
set_option maxRecDepth 100000 in
theorem k_18_6 : xCon 18 c_18_6 := by
  have hk : xchk [(87, c_87), (21, c_21_6), (48, c_48), (47, c_47), (19, c_19), (20, c_20), (50, c_50)] ([]) 400 18 c_18_6 = true := by decide +kernel
  exact xchk_ok (x_cons k_87 (x_cons k_21_6 (x_cons k_48 (x_cons k_47 (x_cons k_19 (x_cons k_20 (x_cons k_50 x_nil))))))) rfl hk
/-- X2_callRoutine -/
def c_26_5 : xCt := (29, [.inr [118, 256], x_any, .inr x_fs, .inl [(5, 12)]], [((18, 293), (-1, 10000))], some (x_any))
set_option maxRecDepth 100000 in
theorem k_26_5 : xCon 26 c_26_5 := by
  have hk : xchk [(18, c_18_6), (6, c_6), (1, c_1), (7, c_7), (4, c_4)] ([]) 400 26 c_26_5 = true := by decide +kernel
  exact xchk_ok (x_cons k_18_6 (x_cons k_6 (x_cons k_1 (x_cons k_7 (x_cons k_4 x_nil))))) rfl hk
/-- X2_perform -/
def c_22_5 : xCt := (30, [.inr [118, 256], x_any, .inr x_fs, .inl [(5, 12)]], [((18, 293), (-1, 10000))], some (x_any))
set_option maxRecDepth 100000 in
theorem k_22_5 : xCon 22 c_22_5 := by
  have hk : xchk [(4, c_4), (23, c_23), (24, c_24), (25, c_25), (26, c_26_5), (27, c_27), (28, c_28)] ([]) 400 22 c_22_5 = true := by decide +kernel
  exact xchk_ok (x_cons k_4 (x_cons k_23 (x_cons k_24 (x_cons k_25 (x_cons k_26_5 (x_cons k_27 (x_cons k_28 x_nil))))))) rfl hk
/-- X2_walk -/
def c_21_5 : xCt := (31, [.inr [118, 256], x_any, .inr x_fs, .inl [(5, 12)]], [((18, 293), (-1, 10000))], some (x_any))
set_option maxRecDepth 100000 in
theorem k_21_5 : xCon 21 c_21_5 := by
  have hk : xchk [(33, c_33), (22, c_22_5), (6, c_6), (5, c_5)] ([((21, 13), ([(.inl 5, [(0, 140)])], [], [6, 7], [((18, 293), (-1, 10000))], [], [(1, (-1))]))]) 400 21 c_21_5 = true := by decide +kernel
  exact xchk_ok (x_cons k_33 (x_cons k_22_5 (x_cons k_6 (x_cons k_5 x_nil)))) rfl hk
/-- X2_enter -/
def c_18_5 : xCt := (32, [.inr [118, 256], x_any, .inr x_fs, .inl [(5, 12)]], [((18, 293), (-1, 10000))], some (x_any))
set_option maxRecDepth 100000 in
theorem k_18_5 : xCon 18 c_18_5 := by
  have hk : xchk [(87, c_87), (21, c_21_5), (48, c_48), (47, c_47), (19, c_19), (20, c_20), (50, c_50)] ([]) 400 18 c_18_5 = true := by decide +kernel
  exact xchk_ok (x_cons k_87 (x_cons k_21_5 (x_cons k_48 (x_cons k_47 (x_cons k_19 (x_cons k_20 (x_cons k_50 x_nil))))))) rfl hk
/-- X2_callRoutine -/
def c_26_4 : xCt := (33, [.inr [118, 256], x_any, .inr x_fs, .inl [(4, 12)]], [((18, 293), (-1, 10000))], some (x_any))
set_option maxRecDepth 100000 in
theorem k_26_4 : xCon 26 c_26_4 := by
  have hk : xchk [(18, c_18_5), (6, c_6), (1, c_1), (7, c_7), (4, c_4)] ([]) 400 26 c_26_4 = true := by decide +kernel
  exact xchk_ok (x_cons k_18_5 (x_cons k_6 (x_cons k_1 (x_cons k_7 (x_cons k_4 x_nil))))) rfl hk
/-- X2_perform -/
def c_22_4 : xCt := (34, [.inr [118, 256], x_any, .inr x_fs, .inl [(4, 12)]], [((18, 293), (-1, 10000))], some (x_any))
set_option maxRecDepth 100000 in
theorem k_22_4 : xCon 22 c_22_4 := by
  have hk : xchk [(4, c_4), (23, c_23), (24, c_24), (25, c_25), (26, c_26_4), (27, c_27), (28, c_28)] ([]) 400 22 c_22_4 = true := by decide +kernel
  exact xchk_ok (x_cons k_4 (x_cons k_23 (x_cons k_24 (x_cons k_25 (x_cons k_26_4 (x_cons k_27 (x_cons k_28 x_nil))))))) rfl hk
/-- X2_walk -/
def c_21_4 : xCt := (35, [.inr [118, 256], x_any, .inr x_fs, .inl [(4, 12)]], [((18, 293), (-1, 10000))], some (x_any))
set_option maxRecDepth 100000 in
theorem k_21_4 : xCon 21 c_21_4 := by
  have hk : xchk [(33, c_33), (22, c_22_4), (6, c_6), (5, c_5)] ([((21, 13), ([(.inl 5, [(0, 140)])], [], [6, 7], [((18, 293), (-1, 10000))], [], [(1, (-1))]))]) 400 21 c_21_4 = true := by decide +kernel
  exact xchk_ok (x_cons k_33 (x_cons k_22_4 (x_cons k_6 (x_cons k_5 x_nil)))) rfl hk
/-- X2_enter -/
def c_18_4 : xCt := (36, [.inr [118, 256], x_any, .inr x_fs, .inl [(4, 12)]], [((18, 293), (-1, 10000))], some (x_any))
set_option maxRecDepth 100000 in
theorem k_18_4 : xCon 18 c_18_4 := by
  have hk : xchk [(87, c_87), (21, c_21_4), (48, c_48), (47, c_47), (19, c_19), (20, c_20), (50, c_50)] ([]) 400 18 c_18_4 = true := by decide +kernel
  exact xchk_ok (x_cons k_87 (x_cons k_21_4 (x_cons k_48 (x_cons k_47 (x_cons k_19 (x_cons k_20 (x_cons k_50 x_nil))))))) rfl hk
/-- X2_callRoutine -/
def c_26_3 : xCt := (37, [.inr [118, 256], x_any, .inr x_fs, .inl [(3, 12)]], [((18, 293), (-1, 10000))], some (x_any))
set_option maxRecDepth 100000 in
theorem k_26_3 : xCon 26 c_26_3 := by
  have hk : xchk [(18, c_18_4), (6, c_6), (1, c_1), (7, c_7), (4, c_4)] ([]) 400 26 c_26_3 = true := by decide +kernel
  exact xchk_ok (x_cons k_18_4 (x_cons k_6 (x_cons k_1 (x_cons k_7 (x_cons k_4 x_nil))))) rfl hk
/-- X2_perform -/
def c_22_3 : xCt := (38, [.inr [118, 256], x_any, .inr x_fs, .inl [(3, 12)]], [((18, 293), (-1, 10000))], some (x_any))
set_option maxRecDepth 100000 in
theorem k_22_3 : xCon 22 c_22_3 := by
  have hk : xchk [(4, c_4), (23, c_23), (24, c_24), (25, c_25), (26, c_26_3), (27, c_27), (28, c_28)] ([]) 400 22 c_22_3 = true := by decide +kernel
  exact xchk_ok (x_cons k_4 (x_cons k_23 (x_cons k_24 (x_cons k_25 (x_cons k_26_3 (x_cons k_27 (x_cons k_28 x_nil))))))) rfl hk
/-- X2_walk -/
def c_21_3 : xCt := (39, [.inr [118, 256], x_any, .inr x_fs, .inl [(3, 12)]], [((18, 293), (-1, 10000))], some (x_any))
set_option maxRecDepth 100000 in
theorem k_21_3 : xCon 21 c_21_3 := by
  have hk : xchk [(33, c_33), (22, c_22_3), (6, c_6), (5, c_5)] ([((21, 13), ([(.inl 5, [(0, 140)])], [], [6, 7], [((18, 293), (-1, 10000))], [], [(1, (-1))]))]) 400 21 c_21_3 = true := by decide +kernel
  exact xchk_ok (x_cons k_33 (x_cons k_22_3 (x_cons k_6 (x_cons k_5 x_nil)))) rfl hk
/-- X2_enter -/
def c_18_3 : xCt := (40, [.inr [118, 256], x_any, .inr x_fs, .inl [(3, 12)]], [((18, 293), (-1, 10000))], some (x_any))
set_option maxRecDepth 100000 in
theorem k_18_3 : xCon 18 c_18_3 := by
  have hk : xchk [(87, c_87), (21, c_21_3), (48, c_48), (47, c_47), (19, c_19), (20, c_20), (50, c_50)] ([]) 400 18 c_18_3 = true := by decide +kernel
  exact xchk_ok (x_cons k_87 (x_cons k_21_3 (x_cons k_48 (x_cons k_47 (x_cons k_19 (x_cons k_20 (x_cons k_50 x_nil))))))) rfl hk
/-- X2_callRoutine -/
def c_26_2 : xCt := (41, [.inr [118, 256], x_any, .inr x_fs, .inl [(2, 12)]], [((18, 293), (-1, 10000))], some (x_any))
set_option maxRecDepth 100000 in
theorem k_26_2 : xCon 26 c_26_2 := by
  have hk : xchk [(18, c_18_3), (6, c_6), (1, c_1), (7, c_7), (4, c_4)] ([]) 400 26 c_26_2 = true := by decide +kernel
  exact xchk_ok (x_cons k_18_3 (x_cons k_6 (x_cons k_1 (x_cons k_7 (x_cons k_4 x_nil))))) rfl hk
/-- X2_perform -/
def c_22_2 : xCt := (42, [.inr [118, 256], x_any, .inr x_fs, .inl [(2, 12)]], [((18, 293), (-1, 10000))], some (x_any))
set_option maxRecDepth 100000 in
theorem k_22_2 : xCon 22 c_22_2 := by
  have hk : xchk [(4, c_4), (23, c_23), (24, c_24), (25, c_25), (26, c_26_2), (27, c_27), (28, c_28)] ([]) 400 22 c_22_2 = true := by decide +kernel
  exact xchk_ok (x_cons k_4 (x_cons k_23 (x_cons k_24 (x_cons k_25 (x_cons k_26_2 (x_cons k_27 (x_cons k_28 x_nil))))))) rfl hk
/-- X2_walk -/
def c_21_2 : xCt := (43, [.inr [118, 256], x_any, .inr x_fs, .inl [(2, 12)]], [((18, 293), (-1, 10000))], some (x_any))
set_option maxRecDepth 100000 in
theorem k_21_2 : xCon 21 c_21_2 := by
  have hk : xchk [(33, c_33), (22, c_22_2), (6, c_6), (5, c_5)] ([((21, 13), ([(.inl 5, [(0, 140)])], [], [6, 7], [((18, 293), (-1, 10000))], [], [(1, (-1))]))]) 400 21 c_21_2 = true := by decide +kernel
  exact xchk_ok (x_cons k_33 (x_cons k_22_2 (x_cons k_6 (x_cons k_5 x_nil)))) rfl hk
/-- X2_enter -/
def c_18_2 : xCt := (44, [.inr [118, 256], x_any, .inr x_fs, .inl [(2, 12)]], [((18, 293), (-1, 10000))], some (x_any))
set_option maxRecDepth 100000 in
theorem k_18_2 : xCon 18 c_18_2 := by
  have hk : xchk [(87, c_87), (21, c_21_2), (48, c_48), (47, c_47), (19, c_19), (20, c_20), (50, c_50)] ([]) 400 18 c_18_2 = true := by decide +kernel
  exact xchk_ok (x_cons k_87 (x_cons k_21_2 (x_cons k_48 (x_cons k_47 (x_cons k_19 (x_cons k_20 (x_cons k_50 x_nil))))))) rfl hk
/-- X2_callRoutine -/
def c_26_1 : xCt := (45, [.inr [118, 256], x_any, .inr x_fs, .inl [(1, 12)]], [((18, 293), (-1, 10000))], some (x_any))
set_option maxRecDepth 100000 in
theorem k_26_1 : xCon 26 c_26_1 := by
  have hk : xchk [(18, c_18_2), (6, c_6), (1, c_1), (7, c_7), (4, c_4)] ([]) 400 26 c_26_1 = true := by decide +kernel
  exact xchk_ok (x_cons k_18_2 (x_cons k_6 (x_cons k_1 (x_cons k_7 (x_cons k_4 x_nil))))) rfl hk
/-- X2_perform -/
def c_22_1 : xCt := (46, [.inr [118, 256], x_any, .inr x_fs, .inl [(1, 12)]], [((18, 293), (-1, 10000))], some (x_any))
set_option maxRecDepth 100000 in
theorem k_22_1 : xCon 22 c_22_1 := by
  have hk : xchk [(4, c_4), (23, c_23), (24, c_24), (25, c_25), (26, c_26_1), (27, c_27), (28, c_28)] ([]) 400 22 c_22_1 = true := by decide +kernel
  exact xchk_ok (x_cons k_4 (x_cons k_23 (x_cons k_24 (x_cons k_25 (x_cons k_26_1 (x_cons k_27 (x_cons k_28 x_nil))))))) rfl hk
/-- X2_walk -/
def c_21_1 : xCt := (47, [.inr [118, 256], x_any, .inr x_fs, .inl [(1, 12)]], [((18, 293), (-1, 10000))], some (x_any))
set_option maxRecDepth 100000 in
theorem k_21_1 : xCon 21 c_21_1 := by
  have hk : xchk [(33, c_33), (22, c_22_1), (6, c_6), (5, c_5)] ([((21, 13), ([(.inl 5, [(0, 140)])], [], [6, 7], [((18, 293), (-1, 10000))], [], [(1, (-1))]))]) 400 21 c_21_1 = true := by decide +kernel
  exact xchk_ok (x_cons k_33 (x_cons k_22_1 (x_cons k_6 (x_cons k_5 x_nil)))) rfl hk
/-- X2_enter -/
def c_18_1 : xCt := (48, [.inr [118, 256], x_any, .inr x_fs, .inl [(1, 12)]], [((18, 293), (-1, 10000))], some (x_any))
set_option maxRecDepth 100000 in
theorem k_18_1 : xCon 18 c_18_1 := by
  have hk : xchk [(87, c_87), (21, c_21_1), (48, c_48), (47, c_47), (19, c_19), (20, c_20), (50, c_50)] ([]) 400 18 c_18_1 = true := by decide +kernel
  exact xchk_ok (x_cons k_87 (x_cons k_21_1 (x_cons k_48 (x_cons k_47 (x_cons k_19 (x_cons k_20 (x_cons k_50 x_nil))))))) rfl hk
/-- X2_start -/
def c_17 : xCt := (49, [.inr [118, 256], x_any, x_any, x_any, x_any, x_any], [((18, 293), (-1, 10000))], none)
set_option maxRecDepth 100000 in
theorem k_17 : xCon 17 c_17 := by
  have hk : xchk [(1, c_1), (18, c_18_1)] ([]) 400 17 c_17 = true := by decide +kernel
  exact xchk_ok (x_cons k_1 (x_cons k_18_1 x_nil)) rfl hk
