/-! routine, log, clear: what they do to the counts (laid by wip/gen/sx9.py) -/
def e_routX_al : List (List xFc) := [[([some (2, [(0, 5)])], [(0, (-1)), (1, (-1)), (2, 1)]), ([some (2, [(0, 5)])], [(0, 1), (1, 1), (2, (-1))]), ([], [(0, 9), (1, (-1))]), ([none], [(1, (-1)), (2, 1)]), ([none], [(1, 1), (2, (-1))])], [([some (2, [(0, 5)])], [(1, (-1)), (2, 1)]), ([some (2, [(0, 5)])], [(1, 1), (2, (-1))]), ([], [(0, (-10)), (1, 1)]), ([none], [(0, 4), (2, 1)]), ([none], [(0, (-4)), (2, (-1))])]]
def e_routX_ps : List ((Nat × Nat) × xB) := [((2, 5), [(0, 10)])]
def e_routX_W : xD := [((1, 1), (8, 9)), ((3, 293), (-1, 10000)), ((2, 2), (5, 5))]
set_option maxRecDepth 100000 in
theorem e_routX_k : xexa e_routX_W [(54, c_54)] ([]) 400 2 63 [.inr [1]] e_routX_ps e_routX_al = true := by decide +kernel
theorem e_routX_ok {D : Nat} {av : List Value} {h : rk_S} (hD : 2 ≤ D) (hI : rk_Iv rk_Y h) (ha : xArg [.inr [1]] av) : rk_wp D rm_X7_routine 0 (lv_args 0 av) [] h (fun v h' => rk_Iv rk_Y h' ∧ (∀ b k, ¬ xCov e_routX_W b k → rk_get h' b k = rk_get h b k) ∧ xHA (xiv av ++ xplv h e_routX_ps) h' v e_routX_al) := xexa_ok e_routX_k (x_cons k_54 x_nil) rfl hD hI ha
def e_routM_al : List (List xFc) := [[([some (316, [])], [(0, (-1)), (1, (-1)), (2, 1)]), ([some (316, [])], [(0, 1), (1, 1), (2, (-1))]), ([], [(0, 9), (1, (-1))]), ([none], [(1, (-1)), (2, 1)]), ([none], [(1, 1), (2, (-1))])], [([some (316, [])], [(1, (-1)), (2, 1)]), ([some (316, [])], [(1, 1), (2, (-1))]), ([], [(0, (-10)), (1, 1)]), ([none], [(0, 4), (2, 1)]), ([none], [(0, (-4)), (2, (-1))])]]
def e_routM_ps : List ((Nat × Nat) × xB) := [((316, 0), [(0, 10)])]
def e_routM_W : xD := [((316, 316), (1, 44)), ((317, 343), (-1, 10000)), ((316, 316), (0, 0))]
set_option maxRecDepth 100000 in
theorem e_routM_k : xexa e_routM_W [] ([]) 400 0 91 [.inr [316]] e_routM_ps e_routM_al = true := by decide +kernel
theorem e_routM_ok {D : Nat} {av : List Value} {h : rk_S} (hD : 0 ≤ D) (hI : rk_Iv rk_Y h) (ha : xArg [.inr [316]] av) : rk_wp D rm_X8_routine 0 (lv_args 0 av) [] h (fun v h' => rk_Iv rk_Y h' ∧ (∀ b k, ¬ xCov e_routM_W b k → rk_get h' b k = rk_get h b k) ∧ xHA (xiv av ++ xplv h e_routM_ps) h' v e_routM_al) := xexa_ok e_routM_k (x_nil) rfl hD hI ha
def e_logX_al : List (List xFc) := [[([some (294, [(0, 1)])], [(0, (-1)), (6, (-1)), (7, 1)]), ([some (294, [(0, 1)])], [(0, 1), (6, 1), (7, (-1))]), ([], [(1, 1)]), ([], [(0, (-1)), (1, (-1)), (5, 1)]), ([], [(0, 19), (6, (-1))]), ([none], [(0, (-1)), (6, (-1)), (7, 1)]), ([none], [(0, 1), (6, 1), (7, (-1))])], [([some (294, [(0, 1)])], [(6, (-1)), (7, 1)]), ([some (294, [(0, 1)])], [(6, 1), (7, (-1))]), ([], [(0, (-1)), (1, (-1))]), ([none], [(0, 1), (7, 1)]), ([none], [(0, (-1)), (7, (-1))])], [([some (294, [(0, 1)])], [(6, (-1)), (7, 1)]), ([some (294, [(0, 1)])], [(6, 1), (7, (-1))]), ([], [(1, 1), (5, (-1))]), ([none], [(0, 1), (7, 1)]), ([none], [(0, (-1)), (7, (-1))])], [([some (294, [(0, 1)])], [(6, (-1)), (7, 1)]), ([some (294, [(0, 1)])], [(6, 1), (7, (-1))]), ([], [(1, 1)]), ([], [(0, (-1)), (1, (-1)), (5, 1)]), ([], [(0, (-20)), (6, 1)]), ([none], [(0, 4), (7, 1)]), ([none], [(0, (-4)), (7, (-1))])]]
def e_logX_ps : List ((Nat × Nat) × xB) := [((2, 5), [(0, 10)]), ((294, 1), [(0, 20)])]
def e_logX_W : xD := [((294, 315), (-1, 10000))]
set_option maxRecDepth 100000 in
theorem e_logX_k : xexa e_logX_W [] ([]) 400 1 78 [.inr [1], x_any, x_any, x_any, x_any] e_logX_ps e_logX_al = true := by decide +kernel
theorem e_logX_ok {D : Nat} {av : List Value} {h : rk_S} (hD : 1 ≤ D) (hI : rk_Iv rk_Y h) (ha : xArg [.inr [1], x_any, x_any, x_any, x_any] av) : rk_wp D rm_X7_log 0 (lv_args 0 av) [] h (fun v h' => rk_Iv rk_Y h' ∧ (∀ b k, ¬ xCov e_logX_W b k → rk_get h' b k = rk_get h b k) ∧ xHA (xiv av ++ xplv h e_logX_ps) h' v e_logX_al) := xexa_ok e_logX_k (x_nil) rfl hD hI ha
def e_logM_al : List (List xFc) := [[([some (316, [(0, 45)])], [(0, (-1)), (6, (-1)), (7, 1)]), ([some (316, [(0, 45)])], [(0, 1), (6, 1), (7, (-1))]), ([], [(1, 1)]), ([], [(0, (-1)), (1, (-1)), (5, 1)]), ([], [(0, 19), (6, (-1))]), ([none], [(0, (-1)), (6, (-1)), (7, 1)]), ([none], [(0, 1), (6, 1), (7, (-1))])], [([some (316, [(0, 45)])], [(6, (-1)), (7, 1)]), ([some (316, [(0, 45)])], [(6, 1), (7, (-1))]), ([], [(0, (-1)), (1, (-1))]), ([none], [(0, 1), (7, 1)]), ([none], [(0, (-1)), (7, (-1))])], [([some (316, [(0, 45)])], [(6, (-1)), (7, 1)]), ([some (316, [(0, 45)])], [(6, 1), (7, (-1))]), ([], [(1, 1), (5, (-1))]), ([none], [(0, 1), (7, 1)]), ([none], [(0, (-1)), (7, (-1))])], [([some (316, [(0, 45)])], [(6, (-1)), (7, 1)]), ([some (316, [(0, 45)])], [(6, 1), (7, (-1))]), ([], [(1, 1)]), ([], [(0, (-1)), (1, (-1)), (5, 1)]), ([], [(0, (-20)), (6, 1)]), ([none], [(0, 4), (7, 1)]), ([none], [(0, (-4)), (7, (-1))])]]
def e_logM_ps : List ((Nat × Nat) × xB) := [((316, 0), [(0, 10)]), ((316, 45), [(0, 20)])]
def e_logM_W : xD := [((316, 316), (45, 45)), ((344, 344), (-1, 10000))]
set_option maxRecDepth 100000 in
theorem e_logM_k : xexa e_logM_W [] ([]) 400 2 127 [.inr [316], x_any, x_any, x_any, x_any] e_logM_ps e_logM_al = true := by decide +kernel
theorem e_logM_ok {D : Nat} {av : List Value} {h : rk_S} (hD : 2 ≤ D) (hI : rk_Iv rk_Y h) (ha : xArg [.inr [316], x_any, x_any, x_any, x_any] av) : rk_wp D rm_X8_log 0 (lv_args 0 av) [] h (fun v h' => rk_Iv rk_Y h' ∧ (∀ b k, ¬ xCov e_logM_W b k → rk_get h' b k = rk_get h b k) ∧ xHA (xiv av ++ xplv h e_logM_ps) h' v e_logM_al) := xexa_ok e_logM_k (x_nil) rfl hD hI ha
def e_clrX_al : List (List xFc) := [[([some (294, [(0, 1)])], [(2, 1)]), ([some (294, [(0, 1)])], [(2, (-1))]), ([none], [(1, (-1)), (2, 1)]), ([none], [(1, 1), (2, (-1))])]]
def e_clrX_ps : List ((Nat × Nat) × xB) := [((294, 1), [(0, 20)])]
def e_clrX_W : xD := [((294, 294), (1, 1))]
set_option maxRecDepth 100000 in
theorem e_clrX_k : xexa e_clrX_W [] ([]) 400 0 79 [.inr [1]] e_clrX_ps e_clrX_al = true := by decide +kernel
theorem e_clrX_ok {D : Nat} {av : List Value} {h : rk_S} (hD : 0 ≤ D) (hI : rk_Iv rk_Y h) (ha : xArg [.inr [1]] av) : rk_wp D rm_X7_clear 0 (lv_args 0 av) [] h (fun v h' => rk_Iv rk_Y h' ∧ (∀ b k, ¬ xCov e_clrX_W b k → rk_get h' b k = rk_get h b k) ∧ xHA (xiv av ++ xplv h e_clrX_ps) h' v e_clrX_al) := xexa_ok e_clrX_k (x_nil) rfl hD hI ha
def e_clrM_al : List (List xFc) := [[([some (316, [(0, 45)])], [(2, 1)]), ([some (316, [(0, 45)])], [(2, (-1))]), ([none], [(1, (-1)), (2, 1)]), ([none], [(1, 1), (2, (-1))])]]
def e_clrM_ps : List ((Nat × Nat) × xB) := [((316, 45), [(0, 20)])]
def e_clrM_W : xD := [((316, 316), (45, 45))]
set_option maxRecDepth 100000 in
theorem e_clrM_k : xexa e_clrM_W [] ([]) 400 0 128 [.inr [316]] e_clrM_ps e_clrM_al = true := by decide +kernel
theorem e_clrM_ok {D : Nat} {av : List Value} {h : rk_S} (hD : 0 ≤ D) (hI : rk_Iv rk_Y h) (ha : xArg [.inr [316]] av) : rk_wp D rm_X8_clear 0 (lv_args 0 av) [] h (fun v h' => rk_Iv rk_Y h' ∧ (∀ b k, ¬ xCov e_clrM_W b k → rk_get h' b k = rk_get h b k) ∧ xHA (xiv av ++ xplv h e_clrM_ps) h' v e_clrM_al) := xexa_ok e_clrM_k (x_nil) rfl hD hI ha
