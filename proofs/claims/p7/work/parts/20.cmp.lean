/-! comparisons, of whole numbers -/
def rk_cmpZ (o : Jvm.ClassFile.Cond) (x y : Int) : Bool := match o with
  | .eq => decide (x = y)
  | .ne => decide (¬ x = y)
  | .lt => decide (x < y)
  | .ge => decide (y ≤ x)
  | .gt => decide (y < x)
  | .le => decide (x ≤ y)
theorem rk_cmpI (o : Jvm.ClassFile.Cond) (x y : Int32) : rk_cmp o x y = rk_cmpZ o x.toInt y.toInt := by
  cases o <;> simp only [rk_cmp, rk_cmpZ, Int32.lt_iff_toInt_lt, Int32.le_iff_toInt_le, Int32.toInt_inj]
theorem rk_cz {o : Jvm.ClassFile.Cond} {x y : Int32} {c : Int} {b : Bool} (hy : y.toInt = c) (hb : rk_cmpZ o x.toInt c = b) : rk_cmp o x y = b := by rw [rk_cmpI, hy]; exact hb
