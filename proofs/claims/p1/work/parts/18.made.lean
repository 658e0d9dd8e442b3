/-! the two constructors, run by the kernel -/
def rk_oX : Option (Option Value × rk_S) := rk_ex 30000 1999 rm_X7_init 0 (lv_args 0 [.ref 1]) [] [rk_x, (7, rk_df 7)]
def rk_HX : rk_S := match rk_oX with | some o => o.2 | none => []
set_option maxRecDepth 100000 in
theorem rk_oX_ok : rk_oX = some (none, rk_HX) := by decide +kernel
