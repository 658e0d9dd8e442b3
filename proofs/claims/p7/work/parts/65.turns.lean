/-! one turn of the reference's loop: the large pieces (laid by wip/gen/sx7.py) -/
set_option maxRecDepth 100000 in
theorem g_r1 : g_run [] (g_S [(1, 1)] [(0, 2000)] [(0, 20)] [(1, 5)] [(0, 0)] [] [] []) = true := by decide +kernel
set_option maxRecDepth 100000 in
theorem g_e01 : g_run [] (g_S [(1, 1)] [(0, 2000)] [(0, 0)] [(0, 0)] [(0, 0)] [[(3, 1), (4, (-1))]] [] []) = true := by decide +kernel
set_option maxRecDepth 100000 in
theorem g_e11 : g_run [] (g_S [(1, 1)] [(0, 2000)] [(1, 20)] [(0, 0)] [(0, 0)] [[(3, 1), (4, (-1))]] [] []) = true := by decide +kernel
set_option maxRecDepth 100000 in
theorem g_c41 : g_run [] (g_S [(1, 1)] [(0, 1999)] [(0, 20)] [(0, 0)] [(400, 409)] [[(0, (-1)), (3, (-1)), (4, 1)]] g_kc []) = true := by decide +kernel
set_option maxRecDepth 100000 in
theorem g_r2 : g_run g_xu (g_S [(2, 12)] [(0, 2000)] [(0, 20)] [(1, 5)] [(0, 0)] [] [] g_ku) = true := by decide +kernel
set_option maxRecDepth 100000 in
theorem g_e02 : g_run g_xu (g_S [(2, 12)] [(0, 2000)] [(0, 0)] [(0, 0)] [(0, 0)] [[(3, 1), (4, (-1))]] [] g_ku) = true := by decide +kernel
set_option maxRecDepth 100000 in
theorem g_e12 : g_run g_xu (g_S [(2, 12)] [(0, 2000)] [(1, 20)] [(0, 0)] [(0, 0)] [[(3, 1), (4, (-1))]] [] g_ku) = true := by decide +kernel
set_option maxRecDepth 100000 in
theorem g_c42 : g_run g_xu (g_S [(2, 12)] [(0, 1999)] [(0, 20)] [(0, 0)] [(400, 409)] [[(0, (-1)), (3, (-1)), (4, 1)]] g_kc g_ku) = true := by decide +kernel
