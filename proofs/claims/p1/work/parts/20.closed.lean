/-! calls on new objects: those with known arguments -/
def rk_cmpZ (o : Jvm.ClassFile.Cond) (x y : Int) : Bool := match o with
  | .eq => decide (x = y)
  | .ne => decide (¬ x = y)
  | .lt => decide (x < y)
  | .ge => decide (y ≤ x)
  | .gt => decide (y < x)
  | .le => decide (x ≤ y)
theorem rk_cmpI (o : Jvm.ClassFile.Cond) (x y : Int32) : rk_cmp o x y = rk_cmpZ o x.toInt y.toInt := by
  cases o <;> simp only [rk_cmp, rk_cmpZ, Int32.lt_iff_toInt_lt, Int32.le_iff_toInt_le, Int32.toInt_inj]
theorem rk_cz {o : Jvm.ClassFile.Cond} {x y : Int32} {c : Int} {b : Bool} (hy : y.toInt = c) (hb : rk_cmpZ o x.toInt c = b) : rk_cmp o x y = b := by rw [rk_cmpI, hy]; exact hb
set_option maxRecDepth 100000 in
theorem ck_0 : rk_chk rm_X7_routine rm_X8_routine [] = true ∧ rk_chk rm_X7_answer rm_X8_answer [] = true ∧ rk_chk rm_X7_forget rm_X8_forget [] = true ∧ rk_chk rm_X7_clear rm_X8_clear [] = true := by decide +kernel
set_option maxRecDepth 100000 in
theorem ck_held : ∀ j, j < 16 → rk_chk rm_X7_held rm_X8_held [.int (nI j)] = true := by decide +kernel
set_option maxRecDepth 100000 in
theorem ck_ran : ∀ j, j < 5 → rk_chk rm_X7_ran rm_X8_ran [.int (nI j)] = true := by decide +kernel
set_option maxRecDepth 100000 in
theorem ck_told : ∀ j, j < 7 → rk_chk rm_X7_told rm_X8_told [.int (nI j)] = true := by decide +kernel
set_option maxRecDepth 100000 in
theorem ck_room : ∀ j, j < 33 → ∀ k, k < 3 → rk_chk rm_X7_room rm_X8_room [.int (nI j), .int (nI k)] = true := by decide +kernel
theorem rk_mxd : ∀ j, j < 33 → (if (Int32.ofInt 0) < (0 - nI j) then (0 - nI j) else Int32.ofInt 0) = 0 := by decide +kernel
theorem rk_mx0 {p : Int32} (h1 : 0 ≤ p.toInt) (h2 : p.toInt ≤ 32) : (if (Int32.ofInt 0) < (0 - p) then (0 - p) else Int32.ofInt 0) = 0 := by
  have hp : vp_in p 33 := vp_in_iff.mpr ⟨h1, by omega⟩
  obtain ⟨j, hj, rfl⟩ := vp_in_of hp (by decide)
  exact rk_mxd j hj
