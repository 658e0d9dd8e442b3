/-! contracts by symbolic runs (laid by wip/gen/sx5.py): the public methods of the class -/
/-- X7_pick -/
def c_84 : xCt := (1, [x_any, x_any], [], some (x_any))
set_option maxRecDepth 100000 in
theorem k_84 : xCon 84 c_84 := by
  have hk : xchk [(87, c_87)] ([((84, 7), ([(.inl 4, [(0, 10)]), (.inl 2, xany), (.inl 3, xany)], [], [], [], [], [(1, (-1))]))]) 400 84 c_84 = true := by decide +kernel
  exact xchk_ok (x_cons k_87 x_nil) rfl hk
/-- X7_tryOut -/
def c_83 : xCt := (50, [.inr [1], x_any, .inl [(0, 32)], x_any], [((18, 293), (-1, 10000))], some (x_any))
set_option maxRecDepth 100000 in
theorem k_83 : xCon 83 c_83 := by
  have hk : xchk [(61, c_61), (54, c_54), (56, c_56), (40, c_40), (44, c_44), (17, c_17)] ([((83, 52), ([(.inl 6, [(0, 20)]), (.inl 5, xany)], [], [], [((18, 293), (-1, 10000))], [], [(1, (-1))]))]) 400 83 c_83 = true := by decide +kernel
  exact xchk_ok (x_cons k_61 (x_cons k_54 (x_cons k_56 (x_cons k_40 (x_cons k_44 (x_cons k_17 x_nil)))))) rfl hk
/-- X7_code -/
def c_64 : xCt := (4, [.inr [1], x_any, x_any], [((1, 1), (8, 9)), ((4, 17), (-1, 10000)), ((18, 293), (-1, 10000))], some (x_any))
set_option maxRecDepth 100000 in
theorem k_64 : xCon 64 c_64 := by
  have hk : xchk [(37, c_37), (54, c_54), (40, c_40)] ([]) 400 64 c_64 = true := by decide +kernel
  exact xchk_ok (x_cons k_37 (x_cons k_54 (x_cons k_40 x_nil))) rfl hk
/-- X7_codeAt -/
def c_65 : xCt := (3, [.inr [1], x_any, x_any], [((18, 293), (-1, 10000))], some (x_any))
set_option maxRecDepth 100000 in
theorem k_65 : xCon 65 c_65 := by
  have hk : xchk [(33, c_33)] ([]) 400 65 c_65 = true := by decide +kernel
  exact xchk_ok (x_cons k_33 x_nil) rfl hk
/-- X7_store -/
def c_66 : xCt := (1, [.inr [1], x_any, x_any], [((18, 293), (-1, 10000))], some (x_any))
set_option maxRecDepth 100000 in
theorem k_66 : xCon 66 c_66 := by
  have hk : xchk [(58, c_58), (59, c_59)] ([]) 400 66 c_66 = true := by decide +kernel
  exact xchk_ok (x_cons k_58 (x_cons k_59 x_nil)) rfl hk
/-- X7_held -/
def c_67 : xCt := (1, [.inr [1], x_any], [((18, 293), (-1, 10000))], some (x_any))
set_option maxRecDepth 100000 in
theorem k_67 : xCon 67 c_67 := by
  have hk : xchk [(58, c_58)] ([]) 400 67 c_67 = true := by decide +kernel
  exact xchk_ok (x_cons k_58 x_nil) rfl hk
/-- X7_lot -/
def c_68 : xCt := (0, [.inr [1], x_any], [((18, 293), (-1, 10000))], some (x_any))
set_option maxRecDepth 100000 in
theorem k_68 : xCon 68 c_68 := by
  have hk : xchk [] ([]) 400 68 c_68 = true := by decide +kernel
  exact xchk_ok (x_nil) rfl hk
/-- X7_acting -/
def c_69 : xCt := (2, [.inr [1], x_any], [((18, 293), (-1, 10000))], some (x_any))
set_option maxRecDepth 100000 in
theorem k_69 : xCon 69 c_69 := by
  have hk : xchk [(34, c_34)] ([]) 400 69 c_69 = true := by decide +kernel
  exact xchk_ok (x_cons k_34 x_nil) rfl hk
/-- X7_reads -/
def c_70 : xCt := (2, [.inr [1], x_any], [((18, 293), (-1, 10000))], some (x_any))
set_option maxRecDepth 100000 in
theorem k_70 : xCon 70 c_70 := by
  have hk : xchk [(35, c_35)] ([]) 400 70 c_70 = true := by decide +kernel
  exact xchk_ok (x_cons k_35 x_nil) rfl hk
/-- X7_run -/
def c_71 : xCt := (50, [.inr [1], x_any, x_any, x_any, x_any], [((1, 1), (9, 9)), ((18, 293), (-1, 10000))], some (x_any))
set_option maxRecDepth 100000 in
theorem k_71 : xCon 71 c_71 := by
  have hk : xchk [(17, c_17)] ([]) 400 71 c_71 = true := by decide +kernel
  exact xchk_ok (x_cons k_17 x_nil) rfl hk
/-- X7_answer -/
def c_72 : xCt := (0, [.inr [1]], [((18, 293), (-1, 10000))], some (x_any))
set_option maxRecDepth 100000 in
theorem k_72 : xCon 72 c_72 := by
  have hk : xchk [] ([]) 400 72 c_72 = true := by decide +kernel
  exact xchk_ok (x_nil) rfl hk
/-- X7_ran -/
def c_73 : xCt := (0, [.inr [1], x_any], [((18, 293), (-1, 10000))], some (x_any))
set_option maxRecDepth 100000 in
theorem k_73 : xCon 73 c_73 := by
  have hk : xchk [] ([]) 400 73 c_73 = true := by decide +kernel
  exact xchk_ok (x_nil) rfl hk
/-- X7_keep -/
def c_74 : xCt := (3, [.inr [1], x_any, .inl [(0, 1)]], [((1, 1), (8, 8)), ((18, 293), (-1, 10000))], some (x_any))
set_option maxRecDepth 100000 in
theorem k_74 : xCon 74 c_74 := by
  have hk : xchk [(34, c_34), (87, c_87), (55, c_55)] ([]) 400 74 c_74 = true := by decide +kernel
  exact xchk_ok (x_cons k_34 (x_cons k_87 (x_cons k_55 x_nil))) rfl hk
/-- X7_room -/
def c_75 : xCt := (3, [.inr [1], x_any, x_any], [((18, 293), (-1, 10000))], some (x_any))
set_option maxRecDepth 100000 in
theorem k_75 : xCon 75 c_75 := by
  have hk : xchk [(56, c_56)] ([]) 400 75 c_75 = true := by decide +kernel
  exact xchk_ok (x_cons k_56 x_nil) rfl hk
/-- X7_forget -/
def c_76 : xCt := (1, [.inr [1]], [((18, 293), (-1, 10000))], some (x_any))
set_option maxRecDepth 100000 in
theorem k_76 : xCon 76 c_76 := by
  have hk : xchk [(54, c_54)] ([]) 400 76 c_76 = true := by decide +kernel
  exact xchk_ok (x_cons k_54 x_nil) rfl hk
/-- X7_kept -/
def c_77 : xCt := (3, [.inr [1], x_any, x_any], [((18, 293), (-1, 10000))], some (x_any))
set_option maxRecDepth 100000 in
theorem k_77 : xCon 77 c_77 := by
  have hk : xchk [(47, c_47), (13, c_13), (14, c_14), (15, c_15)] ([]) 400 77 c_77 = true := by decide +kernel
  exact xchk_ok (x_cons k_47 (x_cons k_13 (x_cons k_14 (x_cons k_15 x_nil)))) rfl hk
/-- X7_cost -/
def c_80 : xCt := (51, [.inr [1], x_any, x_any], [((18, 293), (-1, 10000))], some (x_any))
set_option maxRecDepth 100000 in
theorem k_80 : xCon 80 c_80 := by
  have hk : xchk [(83, c_83)] ([]) 400 80 c_80 = true := by decide +kernel
  exact xchk_ok (x_cons k_83 x_nil) rfl hk
/-- X7_best -/
def c_81 : xCt := (51, [.inr [1], x_any], [((18, 293), (-1, 10000))], some (x_any))
set_option maxRecDepth 100000 in
theorem k_81 : xCon 81 c_81 := by
  have hk : xchk [(41, c_41), (135, c_135), (83, c_83), (84, c_84)] ([((81, 42), ([(.inl 6, [(1, 2147483647)]), (.inl 4, xany), (.inl 5, xany)], [], [7, 8, 9], [((18, 293), (-1, 10000))], [], [(1, (-1))]))]) 400 81 c_81 = true := by decide +kernel
  exact xchk_ok (x_cons k_41 (x_cons k_135 (x_cons k_83 (x_cons k_84 x_nil)))) rfl hk
/-- X7_told -/
def c_82 : xCt := (0, [.inr [1], x_any], [((18, 293), (-1, 10000))], some (x_any))
set_option maxRecDepth 100000 in
theorem k_82 : xCon 82 c_82 := by
  have hk : xchk [] ([]) 400 82 c_82 = true := by decide +kernel
  exact xchk_ok (x_nil) rfl hk
