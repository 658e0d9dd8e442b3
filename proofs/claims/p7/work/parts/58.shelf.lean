/-! contracts by symbolic runs (laid by wip/gen/sx2.py): Keepsake, Shelf -/
/-- X1_fill -/
def c_9 : xCt := (1, [.inr x_ks, x_any, .inr x_fs, .inr [18, 156], x_any, x_any], [((18, 293), (-1, 10000))], none)
set_option maxRecDepth 100000 in
theorem k_9 : xCon 9 c_9 := by
  have hk : xchk [(87, c_87), (2, c_2), (58, c_58)] ([((9, 57), ([(.inl 6, [(0, 3)])], [], [], [((18, 293), (-1, 10000))], [], [(1, (-1))])), ((9, 101), ([(.inl 6, [(0, 16)])], [], [], [((18, 293), (-1, 10000))], [], [(1, (-1))]))]) 400 9 c_9 = true := by decide +kernel
  exact xchk_ok (x_cons k_87 (x_cons k_2 (x_cons k_58 x_nil))) rfl hk
/-- X1_numbersAreAlike -/
def c_11 : xCt := (1, [.inr x_ks, .inr x_fs], [], some (.inl [(0, 1)]))
set_option maxRecDepth 100000 in
theorem k_11 : xCon 11 c_11 := by
  have hk : xchk [(87, c_87), (2, c_2)] ([((11, 2), ([(.inl 2, [(0, 3)])], [], [], [], [], [(1, (-1))]))]) 400 11 c_11 = true := by decide +kernel
  exact xchk_ok (x_cons k_87 (x_cons k_2 x_nil)) rfl hk
/-- X1_storesAreAlike -/
def c_12 : xCt := (1, [.inr x_ks, .inr [18, 156]], [], some (.inl [(0, 1)]))
set_option maxRecDepth 100000 in
theorem k_12 : xCon 12 c_12 := by
  have hk : xchk [(87, c_87), (58, c_58)] ([((12, 2), ([(.inl 2, [(0, 16)])], [], [], [], [], [(1, (-1))]))]) 400 12 c_12 = true := by decide +kernel
  exact xchk_ok (x_cons k_87 (x_cons k_58 x_nil)) rfl hk
/-- X1_holdsFor -/
def c_10 : xCt := (2, [.inr x_ks, x_any, .inr x_fs, .inr [18, 156]], [], some (.inl [(0, 1)]))
set_option maxRecDepth 100000 in
theorem k_10 : xCon 10 c_10 := by
  have hk : xchk [(11, c_11), (12, c_12)] ([]) 400 10 c_10 = true := by decide +kernel
  exact xchk_ok (x_cons k_11 (x_cons k_12 x_nil)) rfl hk
/-- X1_fact -/
def c_13 : xCt := (2, [.inr x_ks, x_any, .inr [18, 156]], [], some (x_any))
set_option maxRecDepth 100000 in
theorem k_13 : xCon 13 c_13 := by
  have hk : xchk [(12, c_12)] ([]) 400 13 c_13 = true := by decide +kernel
  exact xchk_ok (x_cons k_12 x_nil) rfl hk
/-- X1_numberWas -/
def c_14 : xCt := (0, [.inr x_ks, x_any], [], some (x_any))
set_option maxRecDepth 100000 in
theorem k_14 : xCon 14 c_14 := by
  have hk : xchk [] ([]) 400 14 c_14 = true := by decide +kernel
  exact xchk_ok (x_nil) rfl hk
/-- X1_storeWas -/
def c_15 : xCt := (0, [.inr x_ks, x_any], [], some (x_any))
set_option maxRecDepth 100000 in
theorem k_15 : xCon 15 c_15 := by
  have hk : xchk [] ([]) 400 15 c_15 = true := by decide +kernel
  exact xchk_ok (x_nil) rfl hk
/-- X5_at -/
def c_47 : xCt := (1, [.inr [20, 158], x_any], [], some (.inr x_ks))
set_option maxRecDepth 100000 in
theorem k_47 : xCon 47 c_47 := by
  have hk : xcks [] ([]) 400 47 1 [20, 158] [x_any] [] (some (.inr x_ks)) = true := by decide +kernel
  exact xcks_ok (x_nil) rfl hk
/-- X5_firstThatHolds -/
def c_48 : xCt := (3, [.inr [20, 158], x_any, .inr x_fs, .inr [18, 156]], [], some (x_any))
set_option maxRecDepth 100000 in
theorem k_48 : xCon 48 c_48 := by
  have hk : xchk [(10, c_10)] ([((48, 3), ([(.inl 4, [(0, 32)])], [], [], [], [], [(1, (-1))]))]) 400 48 c_48 = true := by decide +kernel
  exact xchk_ok (x_cons k_10 x_nil) rfl hk
/-- X5_touch -/
def c_49 : xCt := (0, [.inr [20, 158], .inr x_ks], [((18, 293), (-1, 10000))], none)
set_option maxRecDepth 100000 in
theorem k_49 : xCon 49 c_49 := by
  have hk : xchk [] ([]) 400 49 c_49 = true := by decide +kernel
  exact xchk_ok (x_nil) rfl hk
/-- X5_goesAheadOf -/
def c_52 : xCt := (0, [.inr [20, 158], .inr x_ks, .inr x_ks], [], some (.inl [(0, 1)]))
set_option maxRecDepth 100000 in
theorem k_52 : xCon 52 c_52 := by
  have hk : xchk [] ([]) 400 52 c_52 = true := by decide +kernel
  exact xchk_ok (x_nil) rfl hk
/-- X5_nextToGo -/
def c_51 : xCt := (1, [.inr [20, 158]], [], some (.inl [(0, 31)]))
set_option maxRecDepth 100000 in
theorem k_51 : xCon 51 c_51 := by
  have hk : xchk [(52, c_52)] ([((51, 4), ([(.inl 2, [(1, 32)]), (.inl 1, [(0, 31)])], [], [], [], [], [(1, (-1))]))]) 400 51 c_51 = true := by decide +kernel
  exact xchk_ok (x_cons k_52 x_nil) rfl hk
/-- X5_drop -/
def c_53 : xCt := (1, [.inr [20, 158], x_any], [((20, 21), (-1, 10000)), ((158, 159), (-1, 10000))], none)
set_option maxRecDepth 100000 in
theorem k_53 : xCon 53 c_53 := by
  have hk : xcks [] ([((53, 18), ([(.inl 3, [(0, 31)])], [], [], [], [], [(1, (-1))]))]) 400 53 1 [20, 158] [x_any] [((20, 21), (-1, 10000)), ((158, 159), (-1, 10000))] none = true := by decide +kernel
  exact xcks_ok (x_nil) rfl hk
/-- X5_dropAll -/
def c_54 : xCt := (0, [.inr [20, 158]], [((20, 21), (-1, 10000)), ((158, 159), (-1, 10000))], some (.inl [(0, 32)]))
set_option maxRecDepth 100000 in
theorem k_54 : xCon 54 c_54 := by
  have hk : xchk [] ([]) 400 54 c_54 = true := by decide +kernel
  exact xchk_ok (x_nil) rfl hk
/-- X5_dropOf -/
def c_55 : xCt := (2, [.inr [20, 158], x_any], [((20, 21), (-1, 10000)), ((158, 159), (-1, 10000))], none)
set_option maxRecDepth 100000 in
theorem k_55 : xCon 55 c_55 := by
  have hk : xchk [(53, c_53)] ([((55, 7), ([(.inl 2, [((-1), 31)])], [], [], [((20, 21), (-1, 10000)), ((158, 159), (-1, 10000))], [], [(1, 1)]))]) 400 55 c_55 = true := by decide +kernel
  exact xchk_ok (x_cons k_53 x_nil) rfl hk
/-- X5_furnish -/
def c_56 : xCt := (2, [.inr [20, 158], .inl [(0, 32)], x_any], [((20, 21), (-1, 10000)), ((158, 159), (-1, 10000))], some (x_any))
set_option maxRecDepth 100000 in
theorem k_56 : xCon 56 c_56 := by
  have hk : xchk [(53, c_53)] ([((56, 14), ([(.inl 4, [(0, 2147483647)])], [], [], [((20, 21), (-1, 10000)), ((158, 159), (-1, 10000))], [], [(1, (-1))]))]) 400 56 c_56 = true := by decide +kernel
  exact xchk_ok (x_cons k_53 x_nil) rfl hk
/-- X5_add -/
def c_50 : xCt := (2, [.inr [20, 158], x_any, .inr x_fs, .inr [18, 156], x_any, x_any], [((18, 293), (-1, 10000))], none)
set_option maxRecDepth 100000 in
theorem k_50 : xCon 50 c_50 := by
  have hk : xcks [(51, c_51), (53, c_53), (9, c_9), (49, c_49)] ([]) 400 50 2 [20, 158] [x_any, .inr x_fs, .inr [18, 156], x_any, x_any] [((18, 293), (-1, 10000))] none = true := by decide +kernel
  exact xcks_ok (x_cons k_51 (x_cons k_53 (x_cons k_9 (x_cons k_49 x_nil)))) rfl hk
