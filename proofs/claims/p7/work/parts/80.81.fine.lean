/-! finer contracts of public methods (laid by wip/gen/sx14.py) -/
/-- X7_tryOut -/
def c_83t : xCt := (50, [.inr [1], x_any, .inl [(0, 32)], x_any], [((156, 293), (-1, 10000))], some (x_any))
set_option maxRecDepth 100000 in
theorem k_83t : xCon 83 c_83t := by
  have hk : xchk [(61, c_61t), (54, c_54t), (56, c_56t), (40, c_40), (44, c_44), (17, c_17t)] ([((83, 52), ([(.inl 6, [(0, 20)]), (.inl 5, xany)], [], [], [((156, 293), (-1, 10000))], [], [(1, (-1))]))]) 400 83 c_83t = true := by decide +kernel
  exact xchk_ok (x_cons k_61t (x_cons k_54t (x_cons k_56t (x_cons k_40 (x_cons k_44 (x_cons k_17t x_nil)))))) rfl hk
/-- X7_cost -/
def c_80t : xCt := (51, [.inr [1], x_any, x_any], [((156, 293), (-1, 10000))], some (x_any))
set_option maxRecDepth 100000 in
theorem k_80t : xCon 80 c_80t := by
  have hk : xchk [(83, c_83t)] ([]) 400 80 c_80t = true := by decide +kernel
  exact xchk_ok (x_cons k_83t x_nil) rfl hk
/-- X7_best -/
def c_81t : xCt := (51, [.inr [1], x_any], [((156, 293), (-1, 10000))], some (x_any))
set_option maxRecDepth 100000 in
theorem k_81t : xCon 81 c_81t := by
  have hk : xchk [(41, c_41), (135, c_135), (83, c_83t), (84, c_84)] ([((81, 42), ([(.inl 6, [(1, 2147483647)]), (.inl 4, xany), (.inl 5, xany)], [], [7, 8, 9], [((156, 293), (-1, 10000))], [], [(1, (-1))]))]) 400 81 c_81t = true := by decide +kernel
  exact xchk_ok (x_cons k_41 (x_cons k_135 (x_cons k_83t (x_cons k_84 x_nil)))) rfl hk
/-- X7_codeAt -/
def c_65t : xCt := (3, [.inr [1], x_any, x_any], [], some (x_any))
set_option maxRecDepth 100000 in
theorem k_65t : xCon 65 c_65t := by
  have hk : xchk [(33, c_33)] ([]) 400 65 c_65t = true := by decide +kernel
  exact xchk_ok (x_cons k_33 x_nil) rfl hk
/-- X7_held -/
def c_67t : xCt := (1, [.inr [1], x_any], [], some (x_any))
set_option maxRecDepth 100000 in
theorem k_67t : xCon 67 c_67t := by
  have hk : xchk [(58, c_58)] ([]) 400 67 c_67t = true := by decide +kernel
  exact xchk_ok (x_cons k_58 x_nil) rfl hk
/-- X7_acting -/
def c_69t : xCt := (2, [.inr [1], x_any], [], some (x_any))
set_option maxRecDepth 100000 in
theorem k_69t : xCon 69 c_69t := by
  have hk : xchk [(34, c_34)] ([]) 400 69 c_69t = true := by decide +kernel
  exact xchk_ok (x_cons k_34 x_nil) rfl hk
/-- X7_reads -/
def c_70t : xCt := (2, [.inr [1], x_any], [], some (x_any))
set_option maxRecDepth 100000 in
theorem k_70t : xCon 70 c_70t := by
  have hk : xchk [(35, c_35)] ([]) 400 70 c_70t = true := by decide +kernel
  exact xchk_ok (x_cons k_35 x_nil) rfl hk
/-- X7_answer -/
def c_72t : xCt := (0, [.inr [1]], [], some (x_any))
set_option maxRecDepth 100000 in
theorem k_72t : xCon 72 c_72t := by
  have hk : xchk [] ([]) 400 72 c_72t = true := by decide +kernel
  exact xchk_ok (x_nil) rfl hk
/-- X7_ran -/
def c_73t : xCt := (0, [.inr [1], x_any], [], some (x_any))
set_option maxRecDepth 100000 in
theorem k_73t : xCon 73 c_73t := by
  have hk : xchk [] ([]) 400 73 c_73t = true := by decide +kernel
  exact xchk_ok (x_nil) rfl hk
/-- X7_kept -/
def c_77t : xCt := (3, [.inr [1], x_any, x_any], [], some (x_any))
set_option maxRecDepth 100000 in
theorem k_77t : xCon 77 c_77t := by
  have hk : xchk [(47, c_47), (13, c_13), (14, c_14), (15, c_15)] ([]) 400 77 c_77t = true := by decide +kernel
  exact xchk_ok (x_cons k_47 (x_cons k_13 (x_cons k_14 (x_cons k_15 x_nil)))) rfl hk
/-- X7_told -/
def c_82t : xCt := (0, [.inr [1], x_any], [], some (x_any))
set_option maxRecDepth 100000 in
theorem k_82t : xCon 82 c_82t := by
  have hk : xchk [] ([]) 400 82 c_82t = true := by decide +kernel
  exact xchk_ok (x_nil) rfl hk
/-- X7_store -/
def c_66t : xCt := (1, [.inr [1], x_any, x_any], [((19, 19), (-1, 10000))], some (x_any))
set_option maxRecDepth 100000 in
theorem k_66t : xCon 66 c_66t := by
  have hk : xchk [(58, c_58)] ([]) 400 66 c_66t = true := by decide +kernel
  exact xchk_ok (x_cons k_58 x_nil) rfl hk
/-- X7_lot -/
def c_68t : xCt := (0, [.inr [1], x_any], [((18, 18), (-1, 10000))], some (x_any))
set_option maxRecDepth 100000 in
theorem k_68t : xCon 68 c_68t := by
  have hk : xchk [] ([]) 400 68 c_68t = true := by decide +kernel
  exact xchk_ok (x_nil) rfl hk
/-- X8_codeAt -/
def c_94t : xCt := (2, [.inr [316], x_any, x_any], [], some (x_any))
set_option maxRecDepth 100000 in
theorem k_94t : xCon 94 c_94t := by
  have hk : xchk [] ([]) 400 94 c_94t = true := by decide +kernel
  exact xchk_ok (x_nil) rfl hk
/-- X8_held -/
def c_96t : xCt := (1, [.inr [316], x_any], [], some (x_any))
set_option maxRecDepth 100000 in
theorem k_96t : xCon 96 c_96t := by
  have hk : xchk [] ([]) 400 96 c_96t = true := by decide +kernel
  exact xchk_ok (x_nil) rfl hk
/-- X8_acting -/
def c_100t : xCt := (3, [.inr [316], x_any], [], some (x_any))
set_option maxRecDepth 100000 in
theorem k_100t : xCon 100 c_100t := by
  have hk : xchk [(99, c_99)] ([]) 400 100 c_100t = true := by decide +kernel
  exact xchk_ok (x_cons k_99 x_nil) rfl hk
/-- X8_reads -/
def c_101t : xCt := (2, [.inr [316], x_any], [], some (x_any))
set_option maxRecDepth 100000 in
theorem k_101t : xCon 101 c_101t := by
  have hk : xchk [(98, c_98)] ([((101, 21), ([(.inl 4, [(0, 10)]), (.inl 3, xany)], [], [5, 6], [], [], [(1, (-1))])), ((101, 33), ([(.inl 5, [(0, 40)]), (.inl 3, xany)], [], [6], [], [], [(1, (-1))]))]) 400 101 c_101t = true := by decide +kernel
  exact xchk_ok (x_cons k_98 x_nil) rfl hk
/-- X8_answer -/
def c_121t : xCt := (0, [.inr [316]], [], some (x_any))
set_option maxRecDepth 100000 in
theorem k_121t : xCon 121 c_121t := by
  have hk : xchk [] ([]) 400 121 c_121t = true := by decide +kernel
  exact xchk_ok (x_nil) rfl hk
/-- X8_ran -/
def c_122t : xCt := (1, [.inr [316], x_any], [], some (x_any))
set_option maxRecDepth 100000 in
theorem k_122t : xCon 122 c_122t := by
  have hk : xchk [] ([]) 400 122 c_122t = true := by decide +kernel
  exact xchk_ok (x_nil) rfl hk
/-- X8_kept -/
def c_126t : xCt := (1, [.inr [316], x_any, x_any], [((316, 316), (21, 21))], some (x_any))
set_option maxRecDepth 100000 in
theorem k_126t : xCon 126 c_126t := by
  have hk : xchk [(102, c_102)] ([]) 400 126 c_126t = true := by decide +kernel
  exact xchk_ok (x_cons k_102 x_nil) rfl hk
/-- X8_told -/
def c_134t : xCt := (1, [.inr [316], x_any], [], some (x_any))
set_option maxRecDepth 100000 in
theorem k_134t : xCon 134 c_134t := by
  have hk : xchk [(119, c_119)] ([]) 400 134 c_134t = true := by decide +kernel
  exact xchk_ok (x_cons k_119 x_nil) rfl hk
/-- X8_store -/
def c_95t : xCt := (1, [.inr [316], x_any, x_any], [((320, 320), (-1, 10000))], some (x_any))
set_option maxRecDepth 100000 in
theorem k_95t : xCon 95 c_95t := by
  have hk : xchk [] ([]) 400 95 c_95t = true := by decide +kernel
  exact xchk_ok (x_nil) rfl hk
/-- X8_lot -/
def c_97t : xCt := (0, [.inr [316], x_any], [((321, 321), (-1, 10000))], some (x_any))
set_option maxRecDepth 100000 in
theorem k_97t : xCon 97 c_97t := by
  have hk : xchk [] ([]) 400 97 c_97t = true := by decide +kernel
  exact xchk_ok (x_nil) rfl hk
