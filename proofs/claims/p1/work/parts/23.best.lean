set_option maxRecDepth 100000 in
theorem ck_best_0 : ∀ j, j < 3 → rk_chk rm_X7_best rm_X8_best [.int (nI (3 * 0 + j))] = true := by decide +kernel
set_option maxRecDepth 100000 in
theorem ck_best_1 : ∀ j, j < 3 → rk_chk rm_X7_best rm_X8_best [.int (nI (3 * 1 + j))] = true := by decide +kernel
set_option maxRecDepth 100000 in
theorem ck_best_2 : ∀ j, j < 3 → rk_chk rm_X7_best rm_X8_best [.int (nI (3 * 2 + j))] = true := by decide +kernel
set_option maxRecDepth 100000 in
theorem ck_best_3 : ∀ j, j < 3 → rk_chk rm_X7_best rm_X8_best [.int (nI (3 * 3 + j))] = true := by decide +kernel
set_option maxRecDepth 100000 in
theorem ck_best_4 : ∀ j, j < 3 → rk_chk rm_X7_best rm_X8_best [.int (nI (3 * 4 + j))] = true := by decide +kernel
set_option maxRecDepth 100000 in
theorem ck_best_5 : ∀ j, j < 3 → rk_chk rm_X7_best rm_X8_best [.int (nI (3 * 5 + j))] = true := by decide +kernel
set_option maxRecDepth 100000 in
theorem ck_best_6 : ∀ j, j < 3 → rk_chk rm_X7_best rm_X8_best [.int (nI (3 * 6 + j))] = true := by decide +kernel
set_option maxRecDepth 100000 in
theorem ck_best_7 : ∀ j, j < 3 → rk_chk rm_X7_best rm_X8_best [.int (nI (3 * 7 + j))] = true := by decide +kernel
set_option maxRecDepth 100000 in
theorem ck_best_8 : ∀ j, j < 3 → rk_chk rm_X7_best rm_X8_best [.int (nI (3 * 8 + j))] = true := by decide +kernel
set_option maxRecDepth 100000 in
theorem ck_best_9 : ∀ j, j < 3 → rk_chk rm_X7_best rm_X8_best [.int (nI (3 * 9 + j))] = true := by decide +kernel
set_option maxRecDepth 100000 in
theorem ck_best_10 : ∀ j, j < 3 → rk_chk rm_X7_best rm_X8_best [.int (nI (3 * 10 + j))] = true := by decide +kernel
theorem ck_best (j : Nat) (hj : j < 33) : rk_chk rm_X7_best rm_X8_best [.int (nI j)] = true := by
  have e : j = 3 * (j / 3) + j % 3 := by omega
  have hr : j % 3 < 3 := by omega
  have hq : j / 3 < 11 := by omega
  rw [e]
  generalize j % 3 = r at hr
  match j / 3, hq with
  | 0, _ => exact ck_best_0 r hr
  | 1, _ => exact ck_best_1 r hr
  | 2, _ => exact ck_best_2 r hr
  | 3, _ => exact ck_best_3 r hr
  | 4, _ => exact ck_best_4 r hr
  | 5, _ => exact ck_best_5 r hr
  | 6, _ => exact ck_best_6 r hr
  | 7, _ => exact ck_best_7 r hr
  | 8, _ => exact ck_best_8 r hr
  | 9, _ => exact ck_best_9 r hr
  | 10, _ => exact ck_best_10 r hr
