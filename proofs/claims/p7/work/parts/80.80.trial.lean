/-! contracts of the trial's things alone (laid by wip/gen/sx14.py) -/
def x_ft : List Nat := [258, 261, 264, 267, 270, 273, 276, 279, 282, 285, 288, 291]
def x_kt : List Nat := [160, 163, 166, 169, 172, 175, 178, 181, 184, 187, 190, 193, 196, 199, 202, 205, 208, 211, 214, 217, 220, 223, 226, 229, 232, 235, 238, 241, 244, 247, 250, 253]
/-- X0_begin -/
def c_1t : xCt := (0, [.inr x_ft, x_any, x_any, x_any], [((156, 293), (-1, 10000))], none)
set_option maxRecDepth 100000 in
theorem k_1t : xCon 1 c_1t := by
  have hk : xchk [] ([]) 400 1 c_1t = true := by decide +kernel
  exact xchk_ok (x_nil) rfl hk
/-- X0_put -/
def c_4t : xCt := (0, [.inr x_ft, x_any], [((156, 293), (-1, 10000))], some (x_any))
set_option maxRecDepth 100000 in
theorem k_4t : xCon 4 c_4t := by
  have hk : xcks [] ([]) 400 4 0 x_ft [x_any] [((156, 293), (-1, 10000))] (some (x_any)) = true := by decide +kernel
  exact xcks_ok (x_nil) rfl hk
/-- X0_take -/
def c_6t : xCt := (0, [.inr x_ft], [((156, 293), (-1, 10000))], some (x_any))
set_option maxRecDepth 100000 in
theorem k_6t : xCon 6 c_6t := by
  have hk : xcks [] ([]) 400 6 0 x_ft [] [((156, 293), (-1, 10000))] (some (x_any)) = true := by decide +kernel
  exact xcks_ok (x_nil) rfl hk
/-- X0_joinCalled -/
def c_7t : xCt := (0, [.inr x_ft, .inr x_ft], [((156, 293), (-1, 10000))], none)
set_option maxRecDepth 100000 in
theorem k_7t : xCon 7 c_7t := by
  have hk : xchk [] ([]) 400 7 c_7t = true := by decide +kernel
  exact xchk_ok (x_nil) rfl hk
/-- X6_setValue -/
def c_59t : xCt := (0, [.inr [156], x_any, x_any], [((156, 293), (-1, 10000))], none)
set_option maxRecDepth 100000 in
theorem k_59t : xCon 59 c_59t := by
  have hk : xchk [] ([]) 400 59 c_59t = true := by decide +kernel
  exact xchk_ok (x_nil) rfl hk
/-- X6_nextLot -/
def c_60t : xCt := (0, [.inr [156]], [((156, 293), (-1, 10000))], some (x_any))
set_option maxRecDepth 100000 in
theorem k_60t : xCon 60 c_60t := by
  have hk : xchk [] ([]) 400 60 c_60t = true := by decide +kernel
  exact xchk_ok (x_nil) rfl hk
/-- X6_copyFrom -/
def c_61t : xCt := (0, [.inr [156], .inr [18]], [((156, 293), (-1, 10000))], none)
set_option maxRecDepth 100000 in
theorem k_61t : xCon 61 c_61t := by
  have hk : xchk [] ([((61, 2), ([(.inl 2, [(0, 16)])], [], [], [((156, 293), (-1, 10000))], [], [(1, (-1))]))]) 400 61 c_61t = true := by decide +kernel
  exact xchk_ok (x_nil) rfl hk
/-- X1_fill -/
def c_9t : xCt := (1, [.inr x_kt, x_any, .inr x_ft, .inr [156], x_any, x_any], [((156, 293), (-1, 10000))], none)
set_option maxRecDepth 100000 in
theorem k_9t : xCon 9 c_9t := by
  have hk : xchk [(87, c_87), (2, c_2), (58, c_58)] ([((9, 57), ([(.inl 6, [(0, 3)])], [], [], [((156, 293), (-1, 10000))], [], [(1, (-1))])), ((9, 101), ([(.inl 6, [(0, 16)])], [], [], [((156, 293), (-1, 10000))], [], [(1, (-1))]))]) 400 9 c_9t = true := by decide +kernel
  exact xchk_ok (x_cons k_87 (x_cons k_2 (x_cons k_58 x_nil))) rfl hk
/-- X5_at -/
def c_47t : xCt := (1, [.inr [158], x_any], [], some (.inr x_kt))
set_option maxRecDepth 100000 in
theorem k_47t : xCon 47 c_47t := by
  have hk : xcks [] ([]) 400 47 1 [158] [x_any] [] (some (.inr x_kt)) = true := by decide +kernel
  exact xcks_ok (x_nil) rfl hk
/-- X5_touch -/
def c_49t : xCt := (0, [.inr [158], .inr x_kt], [((156, 293), (-1, 10000))], none)
set_option maxRecDepth 100000 in
theorem k_49t : xCon 49 c_49t := by
  have hk : xchk [] ([]) 400 49 c_49t = true := by decide +kernel
  exact xchk_ok (x_nil) rfl hk
/-- X5_drop -/
def c_53t : xCt := (1, [.inr [158], x_any], [((158, 159), (-1, 10000))], none)
set_option maxRecDepth 100000 in
theorem k_53t : xCon 53 c_53t := by
  have hk : xcks [] ([((53, 18), ([(.inl 3, [(0, 31)])], [], [], [], [], [(1, (-1))]))]) 400 53 1 [158] [x_any] [((158, 159), (-1, 10000))] none = true := by decide +kernel
  exact xcks_ok (x_nil) rfl hk
/-- X5_dropAll -/
def c_54t : xCt := (0, [.inr [158]], [((158, 159), (-1, 10000))], some (.inl [(0, 32)]))
set_option maxRecDepth 100000 in
theorem k_54t : xCon 54 c_54t := by
  have hk : xchk [] ([]) 400 54 c_54t = true := by decide +kernel
  exact xchk_ok (x_nil) rfl hk
/-- X5_furnish -/
def c_56t : xCt := (2, [.inr [158], .inl [(0, 32)], x_any], [((158, 159), (-1, 10000))], some (x_any))
set_option maxRecDepth 100000 in
theorem k_56t : xCon 56 c_56t := by
  have hk : xchk [(53, c_53t)] ([((56, 14), ([(.inl 4, [(0, 2147483647)])], [], [], [((158, 159), (-1, 10000))], [], [(1, (-1))]))]) 400 56 c_56t = true := by decide +kernel
  exact xchk_ok (x_cons k_53t x_nil) rfl hk
/-- X5_add -/
def c_50t : xCt := (2, [.inr [158], x_any, .inr x_ft, .inr [156], x_any, x_any], [((156, 293), (-1, 10000))], none)
set_option maxRecDepth 100000 in
theorem k_50t : xCon 50 c_50t := by
  have hk : xcks [(51, c_51), (53, c_53t), (9, c_9t), (49, c_49t)] ([]) 400 50 2 [158] [x_any, .inr x_ft, .inr [156], x_any, x_any] [((156, 293), (-1, 10000))] none = true := by decide +kernel
  exact xcks_ok (x_cons k_51 (x_cons k_53t (x_cons k_9t (x_cons k_49t x_nil)))) rfl hk
/-- X2_recall -/
def c_20t : xCt := (1, [.inr [256], .inr x_kt, .inr x_ft], [((156, 293), (-1, 10000))], some (x_any))
set_option maxRecDepth 100000 in
theorem k_20t : xCon 20 c_20t := by
  have hk : xchk [(49, c_49t)] ([]) 400 20 c_20t = true := by decide +kernel
  exact xchk_ok (x_cons k_49t x_nil) rfl hk
/-- X2_readNumber -/
def c_23t : xCt := (1, [.inr [256], x_any, .inr x_ft], [((156, 293), (-1, 10000))], some (x_any))
set_option maxRecDepth 100000 in
theorem k_23t : xCon 23 c_23t := by
  have hk : xchk [(3, c_3), (2, c_2), (4, c_4t)] ([]) 400 23 c_23t = true := by decide +kernel
  exact xchk_ok (x_cons k_3 (x_cons k_2 (x_cons k_4t x_nil))) rfl hk
/-- X2_readStore -/
def c_24t : xCt := (1, [.inr [256], x_any, .inr x_ft], [((156, 293), (-1, 10000))], some (x_any))
set_option maxRecDepth 100000 in
theorem k_24t : xCon 24 c_24t := by
  have hk : xchk [(3, c_3), (58, c_58), (4, c_4t)] ([]) 400 24 c_24t = true := by decide +kernel
  exact xchk_ok (x_cons k_3 (x_cons k_58 (x_cons k_4t x_nil))) rfl hk
/-- X2_writeStore -/
def c_25t : xCt := (1, [.inr [256], x_any, .inr x_ft], [((156, 293), (-1, 10000))], some (x_any))
set_option maxRecDepth 100000 in
theorem k_25t : xCon 25 c_25t := by
  have hk : xchk [(6, c_6t), (59, c_59t)] ([]) 400 25 c_25t = true := by decide +kernel
  exact xchk_ok (x_cons k_6t (x_cons k_59t x_nil)) rfl hk
/-- X2_combine -/
def c_27t : xCt := (1, [.inr [256], x_any, .inr x_ft], [((156, 293), (-1, 10000))], some (x_any))
set_option maxRecDepth 100000 in
theorem k_27t : xCon 27 c_27t := by
  have hk : xchk [(6, c_6t), (4, c_4t)] ([]) 400 27 c_27t = true := by decide +kernel
  exact xchk_ok (x_cons k_6t (x_cons k_4t x_nil)) rfl hk
/-- X2_changeEnd -/
def c_28t : xCt := (1, [.inr [256], x_any, .inr x_ft], [((156, 293), (-1, 10000))], some (x_any))
set_option maxRecDepth 100000 in
theorem k_28t : xCon 28 c_28t := by
  have hk : xchk [(3, c_3), (60, c_60t), (4, c_4t), (5, c_5), (6, c_6t)] ([]) 400 28 c_28t = true := by decide +kernel
  exact xchk_ok (x_cons k_3 (x_cons k_60t (x_cons k_4t (x_cons k_5 (x_cons k_6t x_nil))))) rfl hk
/-- X2_callRoutine -/
def c_26t12 : xCt := (1, [.inr [256], x_any, .inr x_ft, .inl [(12, 12)]], [((156, 293), (-1, 10000))], some (x_any))
set_option maxRecDepth 100000 in
theorem k_26t12 : xCon 26 c_26t12 := by
  have hk : xchk [(6, c_6t), (1, c_1t), (87, c_87), (33, c_33), (4, c_4t), (23, c_23t), (24, c_24t), (25, c_25t), (7, c_7t), (27, c_27t), (28, c_28t), (5, c_5), (48, c_48), (47, c_47t), (19, c_19), (20, c_20t), (50, c_50t)] ([]) 400 26 c_26t12 = true := by decide +kernel
  exact xchk_ok (x_cons k_6t (x_cons k_1t (x_cons k_87 (x_cons k_33 (x_cons k_4t (x_cons k_23t (x_cons k_24t (x_cons k_25t (x_cons k_7t (x_cons k_27t (x_cons k_28t (x_cons k_5 (x_cons k_48 (x_cons k_47t (x_cons k_19 (x_cons k_20t (x_cons k_50t x_nil))))))))))))))))) rfl hk
/-- X2_perform -/
def c_22t12 : xCt := (2, [.inr [256], x_any, .inr x_ft, .inl [(12, 12)]], [((156, 293), (-1, 10000))], some (x_any))
set_option maxRecDepth 100000 in
theorem k_22t12 : xCon 22 c_22t12 := by
  have hk : xchk [(4, c_4t), (23, c_23t), (24, c_24t), (25, c_25t), (26, c_26t12), (27, c_27t), (28, c_28t)] ([]) 400 22 c_22t12 = true := by decide +kernel
  exact xchk_ok (x_cons k_4t (x_cons k_23t (x_cons k_24t (x_cons k_25t (x_cons k_26t12 (x_cons k_27t (x_cons k_28t x_nil))))))) rfl hk
/-- X2_walk -/
def c_21t12 : xCt := (3, [.inr [256], x_any, .inr x_ft, .inl [(12, 12)]], [((156, 293), (-1, 10000))], some (x_any))
set_option maxRecDepth 100000 in
theorem k_21t12 : xCon 21 c_21t12 := by
  have hk : xchk [(33, c_33), (22, c_22t12), (6, c_6t), (5, c_5)] ([((21, 13), ([(.inl 5, [(0, 140)])], [], [6, 7], [((156, 293), (-1, 10000))], [], [(1, (-1))]))]) 400 21 c_21t12 = true := by decide +kernel
  exact xchk_ok (x_cons k_33 (x_cons k_22t12 (x_cons k_6t (x_cons k_5 x_nil)))) rfl hk
/-- X2_enter -/
def c_18t12 : xCt := (4, [.inr [256], x_any, .inr x_ft, .inl [(12, 12)]], [((156, 293), (-1, 10000))], some (x_any))
set_option maxRecDepth 100000 in
theorem k_18t12 : xCon 18 c_18t12 := by
  have hk : xchk [(87, c_87), (21, c_21t12), (48, c_48), (47, c_47t), (19, c_19), (20, c_20t), (50, c_50t)] ([]) 400 18 c_18t12 = true := by decide +kernel
  exact xchk_ok (x_cons k_87 (x_cons k_21t12 (x_cons k_48 (x_cons k_47t (x_cons k_19 (x_cons k_20t (x_cons k_50t x_nil))))))) rfl hk
/-- X2_callRoutine -/
def c_26t11 : xCt := (5, [.inr [256], x_any, .inr x_ft, .inl [(11, 12)]], [((156, 293), (-1, 10000))], some (x_any))
set_option maxRecDepth 100000 in
theorem k_26t11 : xCon 26 c_26t11 := by
  have hk : xchk [(18, c_18t12), (6, c_6t), (1, c_1t), (7, c_7t), (4, c_4t)] ([]) 400 26 c_26t11 = true := by decide +kernel
  exact xchk_ok (x_cons k_18t12 (x_cons k_6t (x_cons k_1t (x_cons k_7t (x_cons k_4t x_nil))))) rfl hk
/-- X2_perform -/
def c_22t11 : xCt := (6, [.inr [256], x_any, .inr x_ft, .inl [(11, 12)]], [((156, 293), (-1, 10000))], some (x_any))
set_option maxRecDepth 100000 in
theorem k_22t11 : xCon 22 c_22t11 := by
  have hk : xchk [(4, c_4t), (23, c_23t), (24, c_24t), (25, c_25t), (26, c_26t11), (27, c_27t), (28, c_28t)] ([]) 400 22 c_22t11 = true := by decide +kernel
  exact xchk_ok (x_cons k_4t (x_cons k_23t (x_cons k_24t (x_cons k_25t (x_cons k_26t11 (x_cons k_27t (x_cons k_28t x_nil))))))) rfl hk
/-- X2_walk -/
def c_21t11 : xCt := (7, [.inr [256], x_any, .inr x_ft, .inl [(11, 12)]], [((156, 293), (-1, 10000))], some (x_any))
set_option maxRecDepth 100000 in
theorem k_21t11 : xCon 21 c_21t11 := by
  have hk : xchk [(33, c_33), (22, c_22t11), (6, c_6t), (5, c_5)] ([((21, 13), ([(.inl 5, [(0, 140)])], [], [6, 7], [((156, 293), (-1, 10000))], [], [(1, (-1))]))]) 400 21 c_21t11 = true := by decide +kernel
  exact xchk_ok (x_cons k_33 (x_cons k_22t11 (x_cons k_6t (x_cons k_5 x_nil)))) rfl hk
/-- X2_enter -/
def c_18t11 : xCt := (8, [.inr [256], x_any, .inr x_ft, .inl [(11, 12)]], [((156, 293), (-1, 10000))], some (x_any))
set_option maxRecDepth 100000 in
theorem k_18t11 : xCon 18 c_18t11 := by
  have hk : xchk [(87, c_87), (21, c_21t11), (48, c_48), (47, c_47t), (19, c_19), (20, c_20t), (50, c_50t)] ([]) 400 18 c_18t11 = true := by decide +kernel
  exact xchk_ok (x_cons k_87 (x_cons k_21t11 (x_cons k_48 (x_cons k_47t (x_cons k_19 (x_cons k_20t (x_cons k_50t x_nil))))))) rfl hk
/-- X2_callRoutine -/
def c_26t10 : xCt := (9, [.inr [256], x_any, .inr x_ft, .inl [(10, 12)]], [((156, 293), (-1, 10000))], some (x_any))
set_option maxRecDepth 100000 in
theorem k_26t10 : xCon 26 c_26t10 := by
  have hk : xchk [(18, c_18t11), (6, c_6t), (1, c_1t), (7, c_7t), (4, c_4t)] ([]) 400 26 c_26t10 = true := by decide +kernel
  exact xchk_ok (x_cons k_18t11 (x_cons k_6t (x_cons k_1t (x_cons k_7t (x_cons k_4t x_nil))))) rfl hk
/-- X2_perform -/
def c_22t10 : xCt := (10, [.inr [256], x_any, .inr x_ft, .inl [(10, 12)]], [((156, 293), (-1, 10000))], some (x_any))
set_option maxRecDepth 100000 in
theorem k_22t10 : xCon 22 c_22t10 := by
  have hk : xchk [(4, c_4t), (23, c_23t), (24, c_24t), (25, c_25t), (26, c_26t10), (27, c_27t), (28, c_28t)] ([]) 400 22 c_22t10 = true := by decide +kernel
  exact xchk_ok (x_cons k_4t (x_cons k_23t (x_cons k_24t (x_cons k_25t (x_cons k_26t10 (x_cons k_27t (x_cons k_28t x_nil))))))) rfl hk
/-- X2_walk -/
def c_21t10 : xCt := (11, [.inr [256], x_any, .inr x_ft, .inl [(10, 12)]], [((156, 293), (-1, 10000))], some (x_any))
set_option maxRecDepth 100000 in
theorem k_21t10 : xCon 21 c_21t10 := by
  have hk : xchk [(33, c_33), (22, c_22t10), (6, c_6t), (5, c_5)] ([((21, 13), ([(.inl 5, [(0, 140)])], [], [6, 7], [((156, 293), (-1, 10000))], [], [(1, (-1))]))]) 400 21 c_21t10 = true := by decide +kernel
  exact xchk_ok (x_cons k_33 (x_cons k_22t10 (x_cons k_6t (x_cons k_5 x_nil)))) rfl hk
/-- X2_enter -/
def c_18t10 : xCt := (12, [.inr [256], x_any, .inr x_ft, .inl [(10, 12)]], [((156, 293), (-1, 10000))], some (x_any))
set_option maxRecDepth 100000 in
theorem k_18t10 : xCon 18 c_18t10 := by
  have hk : xchk [(87, c_87), (21, c_21t10), (48, c_48), (47, c_47t), (19, c_19), (20, c_20t), (50, c_50t)] ([]) 400 18 c_18t10 = true := by decide +kernel
  exact xchk_ok (x_cons k_87 (x_cons k_21t10 (x_cons k_48 (x_cons k_47t (x_cons k_19 (x_cons k_20t (x_cons k_50t x_nil))))))) rfl hk
/-- X2_callRoutine -/
def c_26t9 : xCt := (13, [.inr [256], x_any, .inr x_ft, .inl [(9, 12)]], [((156, 293), (-1, 10000))], some (x_any))
set_option maxRecDepth 100000 in
theorem k_26t9 : xCon 26 c_26t9 := by
  have hk : xchk [(18, c_18t10), (6, c_6t), (1, c_1t), (7, c_7t), (4, c_4t)] ([]) 400 26 c_26t9 = true := by decide +kernel
  exact xchk_ok (x_cons k_18t10 (x_cons k_6t (x_cons k_1t (x_cons k_7t (x_cons k_4t x_nil))))) rfl hk
/-- X2_perform -/
def c_22t9 : xCt := (14, [.inr [256], x_any, .inr x_ft, .inl [(9, 12)]], [((156, 293), (-1, 10000))], some (x_any))
set_option maxRecDepth 100000 in
theorem k_22t9 : xCon 22 c_22t9 := by
  have hk : xchk [(4, c_4t), (23, c_23t), (24, c_24t), (25, c_25t), (26, c_26t9), (27, c_27t), (28, c_28t)] ([]) 400 22 c_22t9 = true := by decide +kernel
  exact xchk_ok (x_cons k_4t (x_cons k_23t (x_cons k_24t (x_cons k_25t (x_cons k_26t9 (x_cons k_27t (x_cons k_28t x_nil))))))) rfl hk
/-- X2_walk -/
def c_21t9 : xCt := (15, [.inr [256], x_any, .inr x_ft, .inl [(9, 12)]], [((156, 293), (-1, 10000))], some (x_any))
set_option maxRecDepth 100000 in
theorem k_21t9 : xCon 21 c_21t9 := by
  have hk : xchk [(33, c_33), (22, c_22t9), (6, c_6t), (5, c_5)] ([((21, 13), ([(.inl 5, [(0, 140)])], [], [6, 7], [((156, 293), (-1, 10000))], [], [(1, (-1))]))]) 400 21 c_21t9 = true := by decide +kernel
  exact xchk_ok (x_cons k_33 (x_cons k_22t9 (x_cons k_6t (x_cons k_5 x_nil)))) rfl hk
/-- X2_enter -/
def c_18t9 : xCt := (16, [.inr [256], x_any, .inr x_ft, .inl [(9, 12)]], [((156, 293), (-1, 10000))], some (x_any))
set_option maxRecDepth 100000 in
theorem k_18t9 : xCon 18 c_18t9 := by
  have hk : xchk [(87, c_87), (21, c_21t9), (48, c_48), (47, c_47t), (19, c_19), (20, c_20t), (50, c_50t)] ([]) 400 18 c_18t9 = true := by decide +kernel
  exact xchk_ok (x_cons k_87 (x_cons k_21t9 (x_cons k_48 (x_cons k_47t (x_cons k_19 (x_cons k_20t (x_cons k_50t x_nil))))))) rfl hk
/-- X2_callRoutine -/
def c_26t8 : xCt := (17, [.inr [256], x_any, .inr x_ft, .inl [(8, 12)]], [((156, 293), (-1, 10000))], some (x_any))
set_option maxRecDepth 100000 in
theorem k_26t8 : xCon 26 c_26t8 := by
  have hk : xchk [(18, c_18t9), (6, c_6t), (1, c_1t), (7, c_7t), (4, c_4t)] ([]) 400 26 c_26t8 = true := by decide +kernel
  exact xchk_ok (x_cons k_18t9 (x_cons k_6t (x_cons k_1t (x_cons k_7t (x_cons k_4t x_nil))))) rfl hk
/-- X2_perform -/
def c_22t8 : xCt := (18, [.inr [256], x_any, .inr x_ft, .inl [(8, 12)]], [((156, 293), (-1, 10000))], some (x_any))
set_option maxRecDepth 100000 in
theorem k_22t8 : xCon 22 c_22t8 := by
  have hk : xchk [(4, c_4t), (23, c_23t), (24, c_24t), (25, c_25t), (26, c_26t8), (27, c_27t), (28, c_28t)] ([]) 400 22 c_22t8 = true := by decide +kernel
  exact xchk_ok (x_cons k_4t (x_cons k_23t (x_cons k_24t (x_cons k_25t (x_cons k_26t8 (x_cons k_27t (x_cons k_28t x_nil))))))) rfl hk
/-- X2_walk -/
def c_21t8 : xCt := (19, [.inr [256], x_any, .inr x_ft, .inl [(8, 12)]], [((156, 293), (-1, 10000))], some (x_any))
set_option maxRecDepth 100000 in
theorem k_21t8 : xCon 21 c_21t8 := by
  have hk : xchk [(33, c_33), (22, c_22t8), (6, c_6t), (5, c_5)] ([((21, 13), ([(.inl 5, [(0, 140)])], [], [6, 7], [((156, 293), (-1, 10000))], [], [(1, (-1))]))]) 400 21 c_21t8 = true := by decide +kernel
  exact xchk_ok (x_cons k_33 (x_cons k_22t8 (x_cons k_6t (x_cons k_5 x_nil)))) rfl hk
/-- X2_enter -/
def c_18t8 : xCt := (20, [.inr [256], x_any, .inr x_ft, .inl [(8, 12)]], [((156, 293), (-1, 10000))], some (x_any))
set_option maxRecDepth 100000 in
theorem k_18t8 : xCon 18 c_18t8 := by
  have hk : xchk [(87, c_87), (21, c_21t8), (48, c_48), (47, c_47t), (19, c_19), (20, c_20t), (50, c_50t)] ([]) 400 18 c_18t8 = true := by decide +kernel
  exact xchk_ok (x_cons k_87 (x_cons k_21t8 (x_cons k_48 (x_cons k_47t (x_cons k_19 (x_cons k_20t (x_cons k_50t x_nil))))))) rfl hk
/-- X2_callRoutine -/
def c_26t7 : xCt := (21, [.inr [256], x_any, .inr x_ft, .inl [(7, 12)]], [((156, 293), (-1, 10000))], some (x_any))
set_option maxRecDepth 100000 in
theorem k_26t7 : xCon 26 c_26t7 := by
  have hk : xchk [(18, c_18t8), (6, c_6t), (1, c_1t), (7, c_7t), (4, c_4t)] ([]) 400 26 c_26t7 = true := by decide +kernel
  exact xchk_ok (x_cons k_18t8 (x_cons k_6t (x_cons k_1t (x_cons k_7t (x_cons k_4t x_nil))))) rfl hk
/-- X2_perform -/
def c_22t7 : xCt := (22, [.inr [256], x_any, .inr x_ft, .inl [(7, 12)]], [((156, 293), (-1, 10000))], some (x_any))
set_option maxRecDepth 100000 in
theorem k_22t7 : xCon 22 c_22t7 := by
  have hk : xchk [(4, c_4t), (23, c_23t), (24, c_24t), (25, c_25t), (26, c_26t7), (27, c_27t), (28, c_28t)] ([]) 400 22 c_22t7 = true := by decide +kernel
  exact xchk_ok (x_cons k_4t (x_cons k_23t (x_cons k_24t (x_cons k_25t (x_cons k_26t7 (x_cons k_27t (x_cons k_28t x_nil))))))) rfl hk
/-- X2_walk -/
def c_21t7 : xCt := (23, [.inr [256], x_any, .inr x_ft, .inl [(7, 12)]], [((156, 293), (-1, 10000))], some (x_any))
set_option maxRecDepth 100000 in
theorem k_21t7 : xCon 21 c_21t7 := by
  have hk : xchk [(33, c_33), (22, c_22t7), (6, c_6t), (5, c_5)] ([((21, 13), ([(.inl 5, [(0, 140)])], [], [6, 7], [((156, 293), (-1, 10000))], [], [(1, (-1))]))]) 400 21 c_21t7 = true := by decide +kernel
  exact xchk_ok (x_cons k_33 (x_cons k_22t7 (x_cons k_6t (x_cons k_5 x_nil)))) rfl hk
/-- X2_enter -/
def c_18t7 : xCt := (24, [.inr [256], x_any, .inr x_ft, .inl [(7, 12)]], [((156, 293), (-1, 10000))], some (x_any))
set_option maxRecDepth 100000 in
theorem k_18t7 : xCon 18 c_18t7 := by
  have hk : xchk [(87, c_87), (21, c_21t7), (48, c_48), (47, c_47t), (19, c_19), (20, c_20t), (50, c_50t)] ([]) 400 18 c_18t7 = true := by decide +kernel
  exact xchk_ok (x_cons k_87 (x_cons k_21t7 (x_cons k_48 (x_cons k_47t (x_cons k_19 (x_cons k_20t (x_cons k_50t x_nil))))))) rfl hk
/-- X2_callRoutine -/
def c_26t6 : xCt := (25, [.inr [256], x_any, .inr x_ft, .inl [(6, 12)]], [((156, 293), (-1, 10000))], some (x_any))
set_option maxRecDepth 100000 in
theorem k_26t6 : xCon 26 c_26t6 := by
  have hk : xchk [(18, c_18t7), (6, c_6t), (1, c_1t), (7, c_7t), (4, c_4t)] ([]) 400 26 c_26t6 = true := by decide +kernel
  exact xchk_ok (x_cons k_18t7 (x_cons k_6t (x_cons k_1t (x_cons k_7t (x_cons k_4t x_nil))))) rfl hk
/-- X2_perform -/
def c_22t6 : xCt := (26, [.inr [256], x_any, .inr x_ft, .inl [(6, 12)]], [((156, 293), (-1, 10000))], some (x_any))
set_option maxRecDepth 100000 in
theorem k_22t6 : xCon 22 c_22t6 := by
  have hk : xchk [(4, c_4t), (23, c_23t), (24, c_24t), (25, c_25t), (26, c_26t6), (27, c_27t), (28, c_28t)] ([]) 400 22 c_22t6 = true := by decide +kernel
  exact xchk_ok (x_cons k_4t (x_cons k_23t (x_cons k_24t (x_cons k_25t (x_cons k_26t6 (x_cons k_27t (x_cons k_28t x_nil))))))) rfl hk
/-- X2_walk -/
def c_21t6 : xCt := (27, [.inr [256], x_any, .inr x_ft, .inl [(6, 12)]], [((156, 293), (-1, 10000))], some (x_any))
set_option maxRecDepth 100000 in
theorem k_21t6 : xCon 21 c_21t6 := by
  have hk : xchk [(33, c_33), (22, c_22t6), (6, c_6t), (5, c_5)] ([((21, 13), ([(.inl 5, [(0, 140)])], [], [6, 7], [((156, 293), (-1, 10000))], [], [(1, (-1))]))]) 400 21 c_21t6 = true := by decide +kernel
  exact xchk_ok (x_cons k_33 (x_cons k_22t6 (x_cons k_6t (x_cons k_5 x_nil)))) rfl hk
/-- X2_enter -/
def c_18t6 : xCt := (28, [.inr [256], x_any, .inr x_ft, .inl [(6, 12)]], [((156, 293), (-1, 10000))], some (x_any))
set_option maxRecDepth 100000 in
theorem k_18t6 : xCon 18 c_18t6 := by
  have hk : xchk [(87, c_87), (21, c_21t6), (48, c_48), (47, c_47t), (19, c_19), (20, c_20t), (50, c_50t)] ([]) 400 18 c_18t6 = true := by decide +kernel
  exact xchk_ok (x_cons k_87 (x_cons k_21t6 (x_cons k_48 (x_cons k_47t (x_cons k_19 (x_cons k_20t (x_cons k_50t x_nil))))))) rfl hk
/-- X2_callRoutine -/
def c_26t5 : xCt := (29, [.inr [256], x_any, .inr x_ft, .inl [(5, 12)]], [((156, 293), (-1, 10000))], some (x_any))
set_option maxRecDepth 100000 in
theorem k_26t5 : xCon 26 c_26t5 := by
  have hk : xchk [(18, c_18t6), (6, c_6t), (1, c_1t), (7, c_7t), (4, c_4t)] ([]) 400 26 c_26t5 = true := by decide +kernel
  exact xchk_ok (x_cons k_18t6 (x_cons k_6t (x_cons k_1t (x_cons k_7t (x_cons k_4t x_nil))))) rfl hk
/-- X2_perform -/
def c_22t5 : xCt := (30, [.inr [256], x_any, .inr x_ft, .inl [(5, 12)]], [((156, 293), (-1, 10000))], some (x_any))
set_option maxRecDepth 100000 in
theorem k_22t5 : xCon 22 c_22t5 := by
  have hk : xchk [(4, c_4t), (23, c_23t), (24, c_24t), (25, c_25t), (26, c_26t5), (27, c_27t), (28, c_28t)] ([]) 400 22 c_22t5 = true := by decide +kernel
  exact xchk_ok (x_cons k_4t (x_cons k_23t (x_cons k_24t (x_cons k_25t (x_cons k_26t5 (x_cons k_27t (x_cons k_28t x_nil))))))) rfl hk
/-- X2_walk -/
def c_21t5 : xCt := (31, [.inr [256], x_any, .inr x_ft, .inl [(5, 12)]], [((156, 293), (-1, 10000))], some (x_any))
set_option maxRecDepth 100000 in
theorem k_21t5 : xCon 21 c_21t5 := by
  have hk : xchk [(33, c_33), (22, c_22t5), (6, c_6t), (5, c_5)] ([((21, 13), ([(.inl 5, [(0, 140)])], [], [6, 7], [((156, 293), (-1, 10000))], [], [(1, (-1))]))]) 400 21 c_21t5 = true := by decide +kernel
  exact xchk_ok (x_cons k_33 (x_cons k_22t5 (x_cons k_6t (x_cons k_5 x_nil)))) rfl hk
/-- X2_enter -/
def c_18t5 : xCt := (32, [.inr [256], x_any, .inr x_ft, .inl [(5, 12)]], [((156, 293), (-1, 10000))], some (x_any))
set_option maxRecDepth 100000 in
theorem k_18t5 : xCon 18 c_18t5 := by
  have hk : xchk [(87, c_87), (21, c_21t5), (48, c_48), (47, c_47t), (19, c_19), (20, c_20t), (50, c_50t)] ([]) 400 18 c_18t5 = true := by decide +kernel
  exact xchk_ok (x_cons k_87 (x_cons k_21t5 (x_cons k_48 (x_cons k_47t (x_cons k_19 (x_cons k_20t (x_cons k_50t x_nil))))))) rfl hk
/-- X2_callRoutine -/
def c_26t4 : xCt := (33, [.inr [256], x_any, .inr x_ft, .inl [(4, 12)]], [((156, 293), (-1, 10000))], some (x_any))
set_option maxRecDepth 100000 in
theorem k_26t4 : xCon 26 c_26t4 := by
  have hk : xchk [(18, c_18t5), (6, c_6t), (1, c_1t), (7, c_7t), (4, c_4t)] ([]) 400 26 c_26t4 = true := by decide +kernel
  exact xchk_ok (x_cons k_18t5 (x_cons k_6t (x_cons k_1t (x_cons k_7t (x_cons k_4t x_nil))))) rfl hk
/-- X2_perform -/
def c_22t4 : xCt := (34, [.inr [256], x_any, .inr x_ft, .inl [(4, 12)]], [((156, 293), (-1, 10000))], some (x_any))
set_option maxRecDepth 100000 in
theorem k_22t4 : xCon 22 c_22t4 := by
  have hk : xchk [(4, c_4t), (23, c_23t), (24, c_24t), (25, c_25t), (26, c_26t4), (27, c_27t), (28, c_28t)] ([]) 400 22 c_22t4 = true := by decide +kernel
  exact xchk_ok (x_cons k_4t (x_cons k_23t (x_cons k_24t (x_cons k_25t (x_cons k_26t4 (x_cons k_27t (x_cons k_28t x_nil))))))) rfl hk
/-- X2_walk -/
def c_21t4 : xCt := (35, [.inr [256], x_any, .inr x_ft, .inl [(4, 12)]], [((156, 293), (-1, 10000))], some (x_any))
set_option maxRecDepth 100000 in
theorem k_21t4 : xCon 21 c_21t4 := by
  have hk : xchk [(33, c_33), (22, c_22t4), (6, c_6t), (5, c_5)] ([((21, 13), ([(.inl 5, [(0, 140)])], [], [6, 7], [((156, 293), (-1, 10000))], [], [(1, (-1))]))]) 400 21 c_21t4 = true := by decide +kernel
  exact xchk_ok (x_cons k_33 (x_cons k_22t4 (x_cons k_6t (x_cons k_5 x_nil)))) rfl hk
/-- X2_enter -/
def c_18t4 : xCt := (36, [.inr [256], x_any, .inr x_ft, .inl [(4, 12)]], [((156, 293), (-1, 10000))], some (x_any))
set_option maxRecDepth 100000 in
theorem k_18t4 : xCon 18 c_18t4 := by
  have hk : xchk [(87, c_87), (21, c_21t4), (48, c_48), (47, c_47t), (19, c_19), (20, c_20t), (50, c_50t)] ([]) 400 18 c_18t4 = true := by decide +kernel
  exact xchk_ok (x_cons k_87 (x_cons k_21t4 (x_cons k_48 (x_cons k_47t (x_cons k_19 (x_cons k_20t (x_cons k_50t x_nil))))))) rfl hk
/-- X2_callRoutine -/
def c_26t3 : xCt := (37, [.inr [256], x_any, .inr x_ft, .inl [(3, 12)]], [((156, 293), (-1, 10000))], some (x_any))
set_option maxRecDepth 100000 in
theorem k_26t3 : xCon 26 c_26t3 := by
  have hk : xchk [(18, c_18t4), (6, c_6t), (1, c_1t), (7, c_7t), (4, c_4t)] ([]) 400 26 c_26t3 = true := by decide +kernel
  exact xchk_ok (x_cons k_18t4 (x_cons k_6t (x_cons k_1t (x_cons k_7t (x_cons k_4t x_nil))))) rfl hk
/-- X2_perform -/
def c_22t3 : xCt := (38, [.inr [256], x_any, .inr x_ft, .inl [(3, 12)]], [((156, 293), (-1, 10000))], some (x_any))
set_option maxRecDepth 100000 in
theorem k_22t3 : xCon 22 c_22t3 := by
  have hk : xchk [(4, c_4t), (23, c_23t), (24, c_24t), (25, c_25t), (26, c_26t3), (27, c_27t), (28, c_28t)] ([]) 400 22 c_22t3 = true := by decide +kernel
  exact xchk_ok (x_cons k_4t (x_cons k_23t (x_cons k_24t (x_cons k_25t (x_cons k_26t3 (x_cons k_27t (x_cons k_28t x_nil))))))) rfl hk
/-- X2_walk -/
def c_21t3 : xCt := (39, [.inr [256], x_any, .inr x_ft, .inl [(3, 12)]], [((156, 293), (-1, 10000))], some (x_any))
set_option maxRecDepth 100000 in
theorem k_21t3 : xCon 21 c_21t3 := by
  have hk : xchk [(33, c_33), (22, c_22t3), (6, c_6t), (5, c_5)] ([((21, 13), ([(.inl 5, [(0, 140)])], [], [6, 7], [((156, 293), (-1, 10000))], [], [(1, (-1))]))]) 400 21 c_21t3 = true := by decide +kernel
  exact xchk_ok (x_cons k_33 (x_cons k_22t3 (x_cons k_6t (x_cons k_5 x_nil)))) rfl hk
/-- X2_enter -/
def c_18t3 : xCt := (40, [.inr [256], x_any, .inr x_ft, .inl [(3, 12)]], [((156, 293), (-1, 10000))], some (x_any))
set_option maxRecDepth 100000 in
theorem k_18t3 : xCon 18 c_18t3 := by
  have hk : xchk [(87, c_87), (21, c_21t3), (48, c_48), (47, c_47t), (19, c_19), (20, c_20t), (50, c_50t)] ([]) 400 18 c_18t3 = true := by decide +kernel
  exact xchk_ok (x_cons k_87 (x_cons k_21t3 (x_cons k_48 (x_cons k_47t (x_cons k_19 (x_cons k_20t (x_cons k_50t x_nil))))))) rfl hk
/-- X2_callRoutine -/
def c_26t2 : xCt := (41, [.inr [256], x_any, .inr x_ft, .inl [(2, 12)]], [((156, 293), (-1, 10000))], some (x_any))
set_option maxRecDepth 100000 in
theorem k_26t2 : xCon 26 c_26t2 := by
  have hk : xchk [(18, c_18t3), (6, c_6t), (1, c_1t), (7, c_7t), (4, c_4t)] ([]) 400 26 c_26t2 = true := by decide +kernel
  exact xchk_ok (x_cons k_18t3 (x_cons k_6t (x_cons k_1t (x_cons k_7t (x_cons k_4t x_nil))))) rfl hk
/-- X2_perform -/
def c_22t2 : xCt := (42, [.inr [256], x_any, .inr x_ft, .inl [(2, 12)]], [((156, 293), (-1, 10000))], some (x_any))
set_option maxRecDepth 100000 in
theorem k_22t2 : xCon 22 c_22t2 := by
  have hk : xchk [(4, c_4t), (23, c_23t), (24, c_24t), (25, c_25t), (26, c_26t2), (27, c_27t), (28, c_28t)] ([]) 400 22 c_22t2 = true := by decide +kernel
  exact xchk_ok (x_cons k_4t (x_cons k_23t (x_cons k_24t (x_cons k_25t (x_cons k_26t2 (x_cons k_27t (x_cons k_28t x_nil))))))) rfl hk
/-- X2_walk -/
def c_21t2 : xCt := (43, [.inr [256], x_any, .inr x_ft, .inl [(2, 12)]], [((156, 293), (-1, 10000))], some (x_any))
set_option maxRecDepth 100000 in
theorem k_21t2 : xCon 21 c_21t2 := by
  have hk : xchk [(33, c_33), (22, c_22t2), (6, c_6t), (5, c_5)] ([((21, 13), ([(.inl 5, [(0, 140)])], [], [6, 7], [((156, 293), (-1, 10000))], [], [(1, (-1))]))]) 400 21 c_21t2 = true := by decide +kernel
  exact xchk_ok (x_cons k_33 (x_cons k_22t2 (x_cons k_6t (x_cons k_5 x_nil)))) rfl hk
/-- X2_enter -/
def c_18t2 : xCt := (44, [.inr [256], x_any, .inr x_ft, .inl [(2, 12)]], [((156, 293), (-1, 10000))], some (x_any))
set_option maxRecDepth 100000 in
theorem k_18t2 : xCon 18 c_18t2 := by
  have hk : xchk [(87, c_87), (21, c_21t2), (48, c_48), (47, c_47t), (19, c_19), (20, c_20t), (50, c_50t)] ([]) 400 18 c_18t2 = true := by decide +kernel
  exact xchk_ok (x_cons k_87 (x_cons k_21t2 (x_cons k_48 (x_cons k_47t (x_cons k_19 (x_cons k_20t (x_cons k_50t x_nil))))))) rfl hk
/-- X2_callRoutine -/
def c_26t1 : xCt := (45, [.inr [256], x_any, .inr x_ft, .inl [(1, 12)]], [((156, 293), (-1, 10000))], some (x_any))
set_option maxRecDepth 100000 in
theorem k_26t1 : xCon 26 c_26t1 := by
  have hk : xchk [(18, c_18t2), (6, c_6t), (1, c_1t), (7, c_7t), (4, c_4t)] ([]) 400 26 c_26t1 = true := by decide +kernel
  exact xchk_ok (x_cons k_18t2 (x_cons k_6t (x_cons k_1t (x_cons k_7t (x_cons k_4t x_nil))))) rfl hk
/-- X2_perform -/
def c_22t1 : xCt := (46, [.inr [256], x_any, .inr x_ft, .inl [(1, 12)]], [((156, 293), (-1, 10000))], some (x_any))
set_option maxRecDepth 100000 in
theorem k_22t1 : xCon 22 c_22t1 := by
  have hk : xchk [(4, c_4t), (23, c_23t), (24, c_24t), (25, c_25t), (26, c_26t1), (27, c_27t), (28, c_28t)] ([]) 400 22 c_22t1 = true := by decide +kernel
  exact xchk_ok (x_cons k_4t (x_cons k_23t (x_cons k_24t (x_cons k_25t (x_cons k_26t1 (x_cons k_27t (x_cons k_28t x_nil))))))) rfl hk
/-- X2_walk -/
def c_21t1 : xCt := (47, [.inr [256], x_any, .inr x_ft, .inl [(1, 12)]], [((156, 293), (-1, 10000))], some (x_any))
set_option maxRecDepth 100000 in
theorem k_21t1 : xCon 21 c_21t1 := by
  have hk : xchk [(33, c_33), (22, c_22t1), (6, c_6t), (5, c_5)] ([((21, 13), ([(.inl 5, [(0, 140)])], [], [6, 7], [((156, 293), (-1, 10000))], [], [(1, (-1))]))]) 400 21 c_21t1 = true := by decide +kernel
  exact xchk_ok (x_cons k_33 (x_cons k_22t1 (x_cons k_6t (x_cons k_5 x_nil)))) rfl hk
/-- X2_enter -/
def c_18t1 : xCt := (48, [.inr [256], x_any, .inr x_ft, .inl [(1, 12)]], [((156, 293), (-1, 10000))], some (x_any))
set_option maxRecDepth 100000 in
theorem k_18t1 : xCon 18 c_18t1 := by
  have hk : xchk [(87, c_87), (21, c_21t1), (48, c_48), (47, c_47t), (19, c_19), (20, c_20t), (50, c_50t)] ([]) 400 18 c_18t1 = true := by decide +kernel
  exact xchk_ok (x_cons k_87 (x_cons k_21t1 (x_cons k_48 (x_cons k_47t (x_cons k_19 (x_cons k_20t (x_cons k_50t x_nil))))))) rfl hk
/-- X2_start -/
def c_17t : xCt := (49, [.inr [256], x_any, x_any, x_any, x_any, x_any], [((156, 293), (-1, 10000))], none)
set_option maxRecDepth 100000 in
theorem k_17t : xCon 17 c_17t := by
  have hk : xchk [(1, c_1t), (18, c_18t1)] ([]) 400 17 c_17t = true := by decide +kernel
  exact xchk_ok (x_cons k_1t (x_cons k_18t1 x_nil)) rfl hk
