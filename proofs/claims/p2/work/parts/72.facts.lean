/-! the counts behind routine, log, clear, and their answers (laid by wip/gen/gen72.py) -/
section RKe
variable {h h' : rk_S} {v : Option Value} {a b c d : Int32}
/-- an answer that is known -/
theorem x_ans {rt : List Int} {t : xT} {z : Int} {x : Int32} (hh : xHold rt h' (some (.int x)) ([none], t)) (ht : xE (1 :: (rt ++ [x.toInt])) t = some z) : 0 ≤ z := by
  obtain ⟨y, g1, z', g2, g3⟩ := x_fv hh
  cases g1
  cases g2.symm.trans ht
  exact g3
theorem e_routX_f (hH : xHA [rk_iv h 2 5] h' v e_routX_al) : ∃ x : Int32, v = some (.int x) ∧ ((rk_iv h' 2 5 = rk_iv h 2 5 + 1 ∧ rk_iv h 2 5 ≤ 9 ∧ x.toInt = rk_iv h 2 5) ∨ (rk_iv h' 2 5 = rk_iv h 2 5 ∧ 10 ≤ rk_iv h 2 5 ∧ x.toInt = -4)) := by
  obtain ⟨al, hal, hall⟩ := hH
  simp only [e_routX_al, List.mem_cons, List.not_mem_nil, or_false] at hal
  rcases hal with rfl | rfl
  · obtain ⟨x, rfl, -⟩ := x_fv (hall _ (List.mem_of_getElem? (i := 3) rfl))
    have q0 : 0 ≤ -1 * 1 + (-1 * rk_iv h 2 5 + 1 * rk_iv h' 2 5) := x_f1 (hall _ (List.mem_of_getElem? (i := 0) rfl)) (k := 5) (xE1 rfl rfl) (xE3 rfl rfl rfl rfl)
    have q1 : 0 ≤ 1 * 1 + (1 * rk_iv h 2 5 + -1 * rk_iv h' 2 5) := x_f1 (hall _ (List.mem_of_getElem? (i := 1) rfl)) (k := 5) (xE1 rfl rfl) (xE3 rfl rfl rfl rfl)
    have q2 : 0 ≤ 9 * 1 + -1 * rk_iv h 2 5 := x_f0 (hall _ (List.mem_of_getElem? (i := 2) rfl)) (xE2 rfl rfl rfl)
    have q3 : 0 ≤ -1 * rk_iv h 2 5 + 1 * x.toInt := x_ans (hall _ (List.mem_of_getElem? (i := 3) rfl)) (xE2 rfl rfl rfl)
    have q4 : 0 ≤ 1 * rk_iv h 2 5 + -1 * x.toInt := x_ans (hall _ (List.mem_of_getElem? (i := 4) rfl)) (xE2 rfl rfl rfl)
    exact ⟨x, rfl, by omega⟩
  · obtain ⟨x, rfl, -⟩ := x_fv (hall _ (List.mem_of_getElem? (i := 3) rfl))
    have q0 : 0 ≤ -1 * rk_iv h 2 5 + 1 * rk_iv h' 2 5 := x_f1 (hall _ (List.mem_of_getElem? (i := 0) rfl)) (k := 5) (xE1 rfl rfl) (xE2 rfl rfl rfl)
    have q1 : 0 ≤ 1 * rk_iv h 2 5 + -1 * rk_iv h' 2 5 := x_f1 (hall _ (List.mem_of_getElem? (i := 1) rfl)) (k := 5) (xE1 rfl rfl) (xE2 rfl rfl rfl)
    have q2 : 0 ≤ -10 * 1 + 1 * rk_iv h 2 5 := x_f0 (hall _ (List.mem_of_getElem? (i := 2) rfl)) (xE2 rfl rfl rfl)
    have q3 : 0 ≤ 4 * 1 + 1 * x.toInt := x_ans (hall _ (List.mem_of_getElem? (i := 3) rfl)) (xE2 rfl rfl rfl)
    have q4 : 0 ≤ -4 * 1 + -1 * x.toInt := x_ans (hall _ (List.mem_of_getElem? (i := 4) rfl)) (xE2 rfl rfl rfl)
    exact ⟨x, rfl, by omega⟩
theorem e_routM_f (hH : xHA [rk_iv h 316 0] h' v e_routM_al) : ∃ x : Int32, v = some (.int x) ∧ ((rk_iv h' 316 0 = rk_iv h 316 0 + 1 ∧ rk_iv h 316 0 ≤ 9 ∧ x.toInt = rk_iv h 316 0) ∨ (rk_iv h' 316 0 = rk_iv h 316 0 ∧ 10 ≤ rk_iv h 316 0 ∧ x.toInt = -4)) := by
  obtain ⟨al, hal, hall⟩ := hH
  simp only [e_routM_al, List.mem_cons, List.not_mem_nil, or_false] at hal
  rcases hal with rfl | rfl
  · obtain ⟨x, rfl, -⟩ := x_fv (hall _ (List.mem_of_getElem? (i := 3) rfl))
    have q0 : 0 ≤ -1 * 1 + (-1 * rk_iv h 316 0 + 1 * rk_iv h' 316 0) := x_f1 (hall _ (List.mem_of_getElem? (i := 0) rfl)) (k := 0) rfl (xE3 rfl rfl rfl rfl)
    have q1 : 0 ≤ 1 * 1 + (1 * rk_iv h 316 0 + -1 * rk_iv h' 316 0) := x_f1 (hall _ (List.mem_of_getElem? (i := 1) rfl)) (k := 0) rfl (xE3 rfl rfl rfl rfl)
    have q2 : 0 ≤ 9 * 1 + -1 * rk_iv h 316 0 := x_f0 (hall _ (List.mem_of_getElem? (i := 2) rfl)) (xE2 rfl rfl rfl)
    have q3 : 0 ≤ -1 * rk_iv h 316 0 + 1 * x.toInt := x_ans (hall _ (List.mem_of_getElem? (i := 3) rfl)) (xE2 rfl rfl rfl)
    have q4 : 0 ≤ 1 * rk_iv h 316 0 + -1 * x.toInt := x_ans (hall _ (List.mem_of_getElem? (i := 4) rfl)) (xE2 rfl rfl rfl)
    exact ⟨x, rfl, by omega⟩
  · obtain ⟨x, rfl, -⟩ := x_fv (hall _ (List.mem_of_getElem? (i := 3) rfl))
    have q0 : 0 ≤ -1 * rk_iv h 316 0 + 1 * rk_iv h' 316 0 := x_f1 (hall _ (List.mem_of_getElem? (i := 0) rfl)) (k := 0) rfl (xE2 rfl rfl rfl)
    have q1 : 0 ≤ 1 * rk_iv h 316 0 + -1 * rk_iv h' 316 0 := x_f1 (hall _ (List.mem_of_getElem? (i := 1) rfl)) (k := 0) rfl (xE2 rfl rfl rfl)
    have q2 : 0 ≤ -10 * 1 + 1 * rk_iv h 316 0 := x_f0 (hall _ (List.mem_of_getElem? (i := 2) rfl)) (xE2 rfl rfl rfl)
    have q3 : 0 ≤ 4 * 1 + 1 * x.toInt := x_ans (hall _ (List.mem_of_getElem? (i := 3) rfl)) (xE2 rfl rfl rfl)
    have q4 : 0 ≤ -4 * 1 + -1 * x.toInt := x_ans (hall _ (List.mem_of_getElem? (i := 4) rfl)) (xE2 rfl rfl rfl)
    exact ⟨x, rfl, by omega⟩
theorem e_logX_f (hH : xHA [a.toInt, b.toInt, c.toInt, d.toInt, rk_iv h 2 5, rk_iv h 294 1] h' v e_logX_al) : ∃ x : Int32, v = some (.int x) ∧ ((rk_iv h' 294 1 = rk_iv h 294 1 + 1 ∧ 0 ≤ a.toInt ∧ a.toInt < rk_iv h 2 5 ∧ rk_iv h 294 1 ≤ 19 ∧ x.toInt = rk_iv h 294 1 + 1) ∨ (rk_iv h' 294 1 = rk_iv h 294 1 ∧ a.toInt < 0 ∧ x.toInt = -1) ∨ (rk_iv h' 294 1 = rk_iv h 294 1 ∧ rk_iv h 2 5 ≤ a.toInt ∧ x.toInt = -1) ∨ (rk_iv h' 294 1 = rk_iv h 294 1 ∧ 0 ≤ a.toInt ∧ a.toInt < rk_iv h 2 5 ∧ 20 ≤ rk_iv h 294 1 ∧ x.toInt = -4)) := by
  obtain ⟨al, hal, hall⟩ := hH
  simp only [e_logX_al, List.mem_cons, List.not_mem_nil, or_false] at hal
  rcases hal with rfl | rfl | rfl | rfl
  · obtain ⟨x, rfl, -⟩ := x_fv (hall _ (List.mem_of_getElem? (i := 5) rfl))
    have q0 : 0 ≤ -1 * 1 + (-1 * rk_iv h 294 1 + 1 * rk_iv h' 294 1) := x_f1 (hall _ (List.mem_of_getElem? (i := 0) rfl)) (k := 1) (xE1 rfl rfl) (xE3 rfl rfl rfl rfl)
    have q1 : 0 ≤ 1 * 1 + (1 * rk_iv h 294 1 + -1 * rk_iv h' 294 1) := x_f1 (hall _ (List.mem_of_getElem? (i := 1) rfl)) (k := 1) (xE1 rfl rfl) (xE3 rfl rfl rfl rfl)
    have q2 : 0 ≤ 1 * a.toInt := x_f0 (hall _ (List.mem_of_getElem? (i := 2) rfl)) (xE1 rfl rfl)
    have q3 : 0 ≤ -1 * 1 + (-1 * a.toInt + 1 * rk_iv h 2 5) := x_f0 (hall _ (List.mem_of_getElem? (i := 3) rfl)) (xE3 rfl rfl rfl rfl)
    have q4 : 0 ≤ 19 * 1 + -1 * rk_iv h 294 1 := x_f0 (hall _ (List.mem_of_getElem? (i := 4) rfl)) (xE2 rfl rfl rfl)
    have q5 : 0 ≤ -1 * 1 + (-1 * rk_iv h 294 1 + 1 * x.toInt) := x_ans (hall _ (List.mem_of_getElem? (i := 5) rfl)) (xE3 rfl rfl rfl rfl)
    have q6 : 0 ≤ 1 * 1 + (1 * rk_iv h 294 1 + -1 * x.toInt) := x_ans (hall _ (List.mem_of_getElem? (i := 6) rfl)) (xE3 rfl rfl rfl rfl)
    exact ⟨x, rfl, by omega⟩
  · obtain ⟨x, rfl, -⟩ := x_fv (hall _ (List.mem_of_getElem? (i := 3) rfl))
    have q0 : 0 ≤ -1 * rk_iv h 294 1 + 1 * rk_iv h' 294 1 := x_f1 (hall _ (List.mem_of_getElem? (i := 0) rfl)) (k := 1) (xE1 rfl rfl) (xE2 rfl rfl rfl)
    have q1 : 0 ≤ 1 * rk_iv h 294 1 + -1 * rk_iv h' 294 1 := x_f1 (hall _ (List.mem_of_getElem? (i := 1) rfl)) (k := 1) (xE1 rfl rfl) (xE2 rfl rfl rfl)
    have q2 : 0 ≤ -1 * 1 + -1 * a.toInt := x_f0 (hall _ (List.mem_of_getElem? (i := 2) rfl)) (xE2 rfl rfl rfl)
    have q3 : 0 ≤ 1 * 1 + 1 * x.toInt := x_ans (hall _ (List.mem_of_getElem? (i := 3) rfl)) (xE2 rfl rfl rfl)
    have q4 : 0 ≤ -1 * 1 + -1 * x.toInt := x_ans (hall _ (List.mem_of_getElem? (i := 4) rfl)) (xE2 rfl rfl rfl)
    exact ⟨x, rfl, by omega⟩
  · obtain ⟨x, rfl, -⟩ := x_fv (hall _ (List.mem_of_getElem? (i := 3) rfl))
    have q0 : 0 ≤ -1 * rk_iv h 294 1 + 1 * rk_iv h' 294 1 := x_f1 (hall _ (List.mem_of_getElem? (i := 0) rfl)) (k := 1) (xE1 rfl rfl) (xE2 rfl rfl rfl)
    have q1 : 0 ≤ 1 * rk_iv h 294 1 + -1 * rk_iv h' 294 1 := x_f1 (hall _ (List.mem_of_getElem? (i := 1) rfl)) (k := 1) (xE1 rfl rfl) (xE2 rfl rfl rfl)
    have q2 : 0 ≤ 1 * a.toInt + -1 * rk_iv h 2 5 := x_f0 (hall _ (List.mem_of_getElem? (i := 2) rfl)) (xE2 rfl rfl rfl)
    have q3 : 0 ≤ 1 * 1 + 1 * x.toInt := x_ans (hall _ (List.mem_of_getElem? (i := 3) rfl)) (xE2 rfl rfl rfl)
    have q4 : 0 ≤ -1 * 1 + -1 * x.toInt := x_ans (hall _ (List.mem_of_getElem? (i := 4) rfl)) (xE2 rfl rfl rfl)
    exact ⟨x, rfl, by omega⟩
  · obtain ⟨x, rfl, -⟩ := x_fv (hall _ (List.mem_of_getElem? (i := 5) rfl))
    have q0 : 0 ≤ -1 * rk_iv h 294 1 + 1 * rk_iv h' 294 1 := x_f1 (hall _ (List.mem_of_getElem? (i := 0) rfl)) (k := 1) (xE1 rfl rfl) (xE2 rfl rfl rfl)
    have q1 : 0 ≤ 1 * rk_iv h 294 1 + -1 * rk_iv h' 294 1 := x_f1 (hall _ (List.mem_of_getElem? (i := 1) rfl)) (k := 1) (xE1 rfl rfl) (xE2 rfl rfl rfl)
    have q2 : 0 ≤ 1 * a.toInt := x_f0 (hall _ (List.mem_of_getElem? (i := 2) rfl)) (xE1 rfl rfl)
    have q3 : 0 ≤ -1 * 1 + (-1 * a.toInt + 1 * rk_iv h 2 5) := x_f0 (hall _ (List.mem_of_getElem? (i := 3) rfl)) (xE3 rfl rfl rfl rfl)
    have q4 : 0 ≤ -20 * 1 + 1 * rk_iv h 294 1 := x_f0 (hall _ (List.mem_of_getElem? (i := 4) rfl)) (xE2 rfl rfl rfl)
    have q5 : 0 ≤ 4 * 1 + 1 * x.toInt := x_ans (hall _ (List.mem_of_getElem? (i := 5) rfl)) (xE2 rfl rfl rfl)
    have q6 : 0 ≤ -4 * 1 + -1 * x.toInt := x_ans (hall _ (List.mem_of_getElem? (i := 6) rfl)) (xE2 rfl rfl rfl)
    exact ⟨x, rfl, by omega⟩
theorem e_logM_f (hH : xHA [a.toInt, b.toInt, c.toInt, d.toInt, rk_iv h 316 0, rk_iv h 316 45] h' v e_logM_al) : ∃ x : Int32, v = some (.int x) ∧ ((rk_iv h' 316 45 = rk_iv h 316 45 + 1 ∧ 0 ≤ a.toInt ∧ a.toInt < rk_iv h 316 0 ∧ rk_iv h 316 45 ≤ 19 ∧ x.toInt = rk_iv h 316 45 + 1) ∨ (rk_iv h' 316 45 = rk_iv h 316 45 ∧ a.toInt < 0 ∧ x.toInt = -1) ∨ (rk_iv h' 316 45 = rk_iv h 316 45 ∧ rk_iv h 316 0 ≤ a.toInt ∧ x.toInt = -1) ∨ (rk_iv h' 316 45 = rk_iv h 316 45 ∧ 0 ≤ a.toInt ∧ a.toInt < rk_iv h 316 0 ∧ 20 ≤ rk_iv h 316 45 ∧ x.toInt = -4)) := by
  obtain ⟨al, hal, hall⟩ := hH
  simp only [e_logM_al, List.mem_cons, List.not_mem_nil, or_false] at hal
  rcases hal with rfl | rfl | rfl | rfl
  · obtain ⟨x, rfl, -⟩ := x_fv (hall _ (List.mem_of_getElem? (i := 5) rfl))
    have q0 : 0 ≤ -1 * 1 + (-1 * rk_iv h 316 45 + 1 * rk_iv h' 316 45) := x_f1 (hall _ (List.mem_of_getElem? (i := 0) rfl)) (k := 45) (xE1 rfl rfl) (xE3 rfl rfl rfl rfl)
    have q1 : 0 ≤ 1 * 1 + (1 * rk_iv h 316 45 + -1 * rk_iv h' 316 45) := x_f1 (hall _ (List.mem_of_getElem? (i := 1) rfl)) (k := 45) (xE1 rfl rfl) (xE3 rfl rfl rfl rfl)
    have q2 : 0 ≤ 1 * a.toInt := x_f0 (hall _ (List.mem_of_getElem? (i := 2) rfl)) (xE1 rfl rfl)
    have q3 : 0 ≤ -1 * 1 + (-1 * a.toInt + 1 * rk_iv h 316 0) := x_f0 (hall _ (List.mem_of_getElem? (i := 3) rfl)) (xE3 rfl rfl rfl rfl)
    have q4 : 0 ≤ 19 * 1 + -1 * rk_iv h 316 45 := x_f0 (hall _ (List.mem_of_getElem? (i := 4) rfl)) (xE2 rfl rfl rfl)
    have q5 : 0 ≤ -1 * 1 + (-1 * rk_iv h 316 45 + 1 * x.toInt) := x_ans (hall _ (List.mem_of_getElem? (i := 5) rfl)) (xE3 rfl rfl rfl rfl)
    have q6 : 0 ≤ 1 * 1 + (1 * rk_iv h 316 45 + -1 * x.toInt) := x_ans (hall _ (List.mem_of_getElem? (i := 6) rfl)) (xE3 rfl rfl rfl rfl)
    exact ⟨x, rfl, by omega⟩
  · obtain ⟨x, rfl, -⟩ := x_fv (hall _ (List.mem_of_getElem? (i := 3) rfl))
    have q0 : 0 ≤ -1 * rk_iv h 316 45 + 1 * rk_iv h' 316 45 := x_f1 (hall _ (List.mem_of_getElem? (i := 0) rfl)) (k := 45) (xE1 rfl rfl) (xE2 rfl rfl rfl)
    have q1 : 0 ≤ 1 * rk_iv h 316 45 + -1 * rk_iv h' 316 45 := x_f1 (hall _ (List.mem_of_getElem? (i := 1) rfl)) (k := 45) (xE1 rfl rfl) (xE2 rfl rfl rfl)
    have q2 : 0 ≤ -1 * 1 + -1 * a.toInt := x_f0 (hall _ (List.mem_of_getElem? (i := 2) rfl)) (xE2 rfl rfl rfl)
    have q3 : 0 ≤ 1 * 1 + 1 * x.toInt := x_ans (hall _ (List.mem_of_getElem? (i := 3) rfl)) (xE2 rfl rfl rfl)
    have q4 : 0 ≤ -1 * 1 + -1 * x.toInt := x_ans (hall _ (List.mem_of_getElem? (i := 4) rfl)) (xE2 rfl rfl rfl)
    exact ⟨x, rfl, by omega⟩
  · obtain ⟨x, rfl, -⟩ := x_fv (hall _ (List.mem_of_getElem? (i := 3) rfl))
    have q0 : 0 ≤ -1 * rk_iv h 316 45 + 1 * rk_iv h' 316 45 := x_f1 (hall _ (List.mem_of_getElem? (i := 0) rfl)) (k := 45) (xE1 rfl rfl) (xE2 rfl rfl rfl)
    have q1 : 0 ≤ 1 * rk_iv h 316 45 + -1 * rk_iv h' 316 45 := x_f1 (hall _ (List.mem_of_getElem? (i := 1) rfl)) (k := 45) (xE1 rfl rfl) (xE2 rfl rfl rfl)
    have q2 : 0 ≤ 1 * a.toInt + -1 * rk_iv h 316 0 := x_f0 (hall _ (List.mem_of_getElem? (i := 2) rfl)) (xE2 rfl rfl rfl)
    have q3 : 0 ≤ 1 * 1 + 1 * x.toInt := x_ans (hall _ (List.mem_of_getElem? (i := 3) rfl)) (xE2 rfl rfl rfl)
    have q4 : 0 ≤ -1 * 1 + -1 * x.toInt := x_ans (hall _ (List.mem_of_getElem? (i := 4) rfl)) (xE2 rfl rfl rfl)
    exact ⟨x, rfl, by omega⟩
  · obtain ⟨x, rfl, -⟩ := x_fv (hall _ (List.mem_of_getElem? (i := 5) rfl))
    have q0 : 0 ≤ -1 * rk_iv h 316 45 + 1 * rk_iv h' 316 45 := x_f1 (hall _ (List.mem_of_getElem? (i := 0) rfl)) (k := 45) (xE1 rfl rfl) (xE2 rfl rfl rfl)
    have q1 : 0 ≤ 1 * rk_iv h 316 45 + -1 * rk_iv h' 316 45 := x_f1 (hall _ (List.mem_of_getElem? (i := 1) rfl)) (k := 45) (xE1 rfl rfl) (xE2 rfl rfl rfl)
    have q2 : 0 ≤ 1 * a.toInt := x_f0 (hall _ (List.mem_of_getElem? (i := 2) rfl)) (xE1 rfl rfl)
    have q3 : 0 ≤ -1 * 1 + (-1 * a.toInt + 1 * rk_iv h 316 0) := x_f0 (hall _ (List.mem_of_getElem? (i := 3) rfl)) (xE3 rfl rfl rfl rfl)
    have q4 : 0 ≤ -20 * 1 + 1 * rk_iv h 316 45 := x_f0 (hall _ (List.mem_of_getElem? (i := 4) rfl)) (xE2 rfl rfl rfl)
    have q5 : 0 ≤ 4 * 1 + 1 * x.toInt := x_ans (hall _ (List.mem_of_getElem? (i := 5) rfl)) (xE2 rfl rfl rfl)
    have q6 : 0 ≤ -4 * 1 + -1 * x.toInt := x_ans (hall _ (List.mem_of_getElem? (i := 6) rfl)) (xE2 rfl rfl rfl)
    exact ⟨x, rfl, by omega⟩
theorem e_clrX_f (hH : xHA [rk_iv h 294 1] h' v e_clrX_al) : ∃ x : Int32, v = some (.int x) ∧ (rk_iv h' 294 1 = 0 ∧ x.toInt = rk_iv h 294 1) := by
  obtain ⟨al, hal, hall⟩ := hH
  simp only [e_clrX_al, List.mem_cons, List.not_mem_nil, or_false] at hal
  subst hal
  obtain ⟨x, rfl, -⟩ := x_fv (hall _ (List.mem_of_getElem? (i := 2) rfl))
  have q0 : 0 ≤ 1 * rk_iv h' 294 1 := x_f1 (hall _ (List.mem_of_getElem? (i := 0) rfl)) (k := 1) (xE1 rfl rfl) (xE1 rfl rfl)
  have q1 : 0 ≤ -1 * rk_iv h' 294 1 := x_f1 (hall _ (List.mem_of_getElem? (i := 1) rfl)) (k := 1) (xE1 rfl rfl) (xE1 rfl rfl)
  have q2 : 0 ≤ -1 * rk_iv h 294 1 + 1 * x.toInt := x_ans (hall _ (List.mem_of_getElem? (i := 2) rfl)) (xE2 rfl rfl rfl)
  have q3 : 0 ≤ 1 * rk_iv h 294 1 + -1 * x.toInt := x_ans (hall _ (List.mem_of_getElem? (i := 3) rfl)) (xE2 rfl rfl rfl)
  exact ⟨x, rfl, by omega⟩
theorem e_clrM_f (hH : xHA [rk_iv h 316 45] h' v e_clrM_al) : ∃ x : Int32, v = some (.int x) ∧ (rk_iv h' 316 45 = 0 ∧ x.toInt = rk_iv h 316 45) := by
  obtain ⟨al, hal, hall⟩ := hH
  simp only [e_clrM_al, List.mem_cons, List.not_mem_nil, or_false] at hal
  subst hal
  obtain ⟨x, rfl, -⟩ := x_fv (hall _ (List.mem_of_getElem? (i := 2) rfl))
  have q0 : 0 ≤ 1 * rk_iv h' 316 45 := x_f1 (hall _ (List.mem_of_getElem? (i := 0) rfl)) (k := 45) (xE1 rfl rfl) (xE1 rfl rfl)
  have q1 : 0 ≤ -1 * rk_iv h' 316 45 := x_f1 (hall _ (List.mem_of_getElem? (i := 1) rfl)) (k := 45) (xE1 rfl rfl) (xE1 rfl rfl)
  have q2 : 0 ≤ -1 * rk_iv h 316 45 + 1 * x.toInt := x_ans (hall _ (List.mem_of_getElem? (i := 2) rfl)) (xE2 rfl rfl rfl)
  have q3 : 0 ≤ 1 * rk_iv h 316 45 + -1 * x.toInt := x_ans (hall _ (List.mem_of_getElem? (i := 3) rfl)) (xE2 rfl rfl rfl)
  exact ⟨x, rfl, by omega⟩
end RKe
