/-! what Program's count and the log's size say (laid by wip/gen/exact.py) -/
theorem rk_learn {h : rk_S} {a k k0 n : Nat} {ts : List rk_ST} {lo hi : Int} (hI : rk_Iv rk_Y h) (hT : rk_Y a = some (k0, n, rk_slot ts)) (hn : k < n) (hs : rk_slot ts k = .inl [(lo, hi)]) : ∃ c : Int32, rk_get h a k = some (.int c) ∧ lo ≤ c.toInt ∧ c.toInt ≤ hi := by
  obtain ⟨v, vs, g1, g2, g3, g4, g5⟩ := hI.get hT hn
  dsimp only at g5
  rw [hs] at g5
  obtain ⟨y, rfl, g6⟩ := rk_okI g5
  exact ⟨y, g4, rk_one g6⟩
theorem rk_bd {h : rk_S} {a k k0 n : Nat} {ts : List rk_ST} {lo hi : Int} {c : Int32} (hI : rk_Iv rk_Y h) (hT : rk_Y a = some (k0, n, rk_slot ts)) (hn : k < n) (hs : rk_slot ts k = .inl [(lo, hi)]) (g : rk_get h a k = some (.int c)) : lo ≤ c.toInt ∧ c.toInt ≤ hi := by
  obtain ⟨c', g', b⟩ := rk_learn hI hT hn hs
  cases g.symm.trans g'
  exact b
set_option maxRecDepth 100000 in
set_option maxHeartbeats 4000000 in
theorem ct_x_isFull {d : Nat} {h : rk_S} (hI : rk_Iv rk_Y h) (c : Int32) (gc : rk_get h 2 5 = some (.int c)) : rk_wp d rm_X3_isFull 0 [(0, .ref 2)] [] h (fun v h' => h' = h ∧ ∃ y : Int32, v = some (.int y) ∧ ((y.toInt = 1 ∧ 10 ≤ c.toInt) ∨ (y.toInt = 0 ∧ c.toInt < 10))) := by
  have bc := rk_bd (k := 5) hI (show rk_Y 2 = some (3, 6, rk_slot [.inr [3], .inr [14], .inr [15], .inr [16], .inr [17], .inl [(0, 10)]]) from rfl) (by decide) rfl gc
  refine wp_go (pc' := 1) (lv' := [(0, .ref 2)]) (st' := [.ref 2]) (h' := h) 1 rfl ?_
  refine wp_gK hI (show rk_Y 2 = some (3, 6, rk_slot [.inr [3], .inr [14], .inr [15], .inr [16], .inr [17], .inl [(0, 10)]]) from rfl) rfl rfl rfl gc ?_
  refine wp_go (pc' := 6) (lv' := [(0, .ref 2)]) (st' := [.int ((Int8.ofInt 10).toInt32), .int c]) (h' := h) 1 rfl ?_
  refine wp_if2 (tg := 13) rfl rfl (fun c1 => ?_) (fun c1 => ?_)
  · have q2 : c.toInt < (((Int8.ofInt 10).toInt32)).toInt := of_decide_eq_true (p := c.toInt < (((Int8.ofInt 10).toInt32)).toInt) c1
    rw [show (((Int8.ofInt 10).toInt32)).toInt = 10 by decide] at q2
    refine wp_go (pc' := 14) (lv' := [(0, .ref 2)]) (st' := [.int (Int32.ofInt 0)]) (h' := h) 1 rfl ?_
    exact wp_ret rfl rfl ⟨rfl, _, rfl, by rw [show ((Int32.ofInt 0)).toInt = 0 by decide]; omega⟩
  · have q2 : ¬ (c.toInt < (((Int8.ofInt 10).toInt32)).toInt) := of_decide_eq_false (p := c.toInt < (((Int8.ofInt 10).toInt32)).toInt) c1
    rw [show (((Int8.ofInt 10).toInt32)).toInt = 10 by decide] at q2
    refine wp_go (pc' := 14) (lv' := [(0, .ref 2)]) (st' := [.int (Int32.ofInt 1)]) (h' := h) 2 rfl ?_
    exact wp_ret rfl rfl ⟨rfl, _, rfl, by rw [show ((Int32.ofInt 1)).toInt = 1 by decide]; omega⟩
set_option maxRecDepth 100000 in
set_option maxHeartbeats 4000000 in
theorem ct_x_hasRoutine {d : Nat} {h : rk_S} (hI : rk_Iv rk_Y h) (x : Int32) (c : Int32) (gc : rk_get h 2 5 = some (.int c)) : rk_wp d rm_X3_hasRoutine 0 [(0, .ref 2), (1, .int x)] [] h (fun v h' => h' = h ∧ ∃ y : Int32, v = some (.int y) ∧ ((y.toInt = 1 ∧ 0 ≤ x.toInt ∧ x.toInt < c.toInt) ∨ (y.toInt = 0 ∧ (x.toInt < 0 ∨ c.toInt ≤ x.toInt)))) := by
  have bc := rk_bd (k := 5) hI (show rk_Y 2 = some (3, 6, rk_slot [.inr [3], .inr [14], .inr [15], .inr [16], .inr [17], .inl [(0, 10)]]) from rfl) (by decide) rfl gc
  refine wp_go (pc' := 1) (lv' := [(0, .ref 2), (1, .int x)]) (st' := [.int x]) (h' := h) 1 rfl ?_
  refine wp_if1 (tg := 16) rfl rfl (fun c1 => ?_) (fun c1 => ?_)
  · have q2 : x.toInt < 0 := of_decide_eq_true (p := x.toInt < 0) c1
    refine wp_go (pc' := 17) (lv' := [(0, .ref 2), (1, .int x)]) (st' := [.int (Int32.ofInt 0)]) (h' := h) 1 rfl ?_
    exact wp_ret rfl rfl ⟨rfl, _, rfl, by rw [show ((Int32.ofInt 0)).toInt = 0 by decide]; omega⟩
  · have q2 : ¬ (x.toInt < 0) := of_decide_eq_false (p := x.toInt < 0) c1
    refine wp_go (pc' := 6) (lv' := [(0, .ref 2), (1, .int x)]) (st' := [.ref 2, .int x]) (h' := h) 2 rfl ?_
    refine wp_gK hI (show rk_Y 2 = some (3, 6, rk_slot [.inr [3], .inr [14], .inr [15], .inr [16], .inr [17], .inl [(0, 10)]]) from rfl) rfl rfl rfl gc ?_
    refine wp_if2 (tg := 16) rfl rfl (fun c3 => ?_) (fun c3 => ?_)
    · have q4 : c.toInt ≤ x.toInt := of_decide_eq_true (p := c.toInt ≤ x.toInt) c3
      refine wp_go (pc' := 17) (lv' := [(0, .ref 2), (1, .int x)]) (st' := [.int (Int32.ofInt 0)]) (h' := h) 1 rfl ?_
      exact wp_ret rfl rfl ⟨rfl, _, rfl, by rw [show ((Int32.ofInt 0)).toInt = 0 by decide]; omega⟩
    · have q4 : ¬ (c.toInt ≤ x.toInt) := of_decide_eq_false (p := c.toInt ≤ x.toInt) c3
      refine wp_go (pc' := 17) (lv' := [(0, .ref 2), (1, .int x)]) (st' := [.int (Int32.ofInt 1)]) (h' := h) 2 rfl ?_
      exact wp_ret rfl rfl ⟨rfl, _, rfl, by rw [show ((Int32.ofInt 1)).toInt = 1 by decide]; omega⟩
set_option maxRecDepth 100000 in
set_option maxHeartbeats 4000000 in
theorem ct_x_clear {d : Nat} {h : rk_S} (hI : rk_Iv rk_Y h) (c : Int32) (gc : rk_get h 294 1 = some (.int c)) : rk_wp d rm_X7_clear 0 [(0, .ref 1)] [] h (fun v h' => v = some (.int c) ∧ rk_Iv rk_Y h' ∧ rk_Fr (fun b => b = 294) h h' ∧ rk_get h' 294 1 = some (.int (Int32.ofInt 0))) := by
  have bc := rk_bd (k := 1) hI (show rk_Y 294 = some (4, 2, rk_slot [.inr [295], .inl [(0, 20)]]) from rfl) (by decide) rfl gc
  refine wp_go (pc' := 1) (lv' := [(0, .ref 1)]) (st' := [.ref 1]) (h' := h) 1 rfl ?_
  refine wp_gR hI (show rk_Y 1 = some (7, 10, rk_slot [.inr [2], .inr [18], .inr [20], .inr [118], .inr [156], .inr [158], .inr [256], .inr [294], rk_any, .inl [(0, 1)]]) from rfl) rfl rfl rfl (by decide) rfl ?_
  refine wp_gK hI (show rk_Y 294 = some (4, 2, rk_slot [.inr [295], .inl [(0, 20)]]) from rfl) rfl rfl rfl gc ?_
  refine wp_go (pc' := 9) (lv' := [(1, .int c), (0, .ref 1)]) (st' := [.ref 1]) (h' := h) 2 rfl ?_
  refine wp_gR hI (show rk_Y 1 = some (7, 10, rk_slot [.inr [2], .inr [18], .inr [20], .inr [118], .inr [156], .inr [158], .inr [256], .inr [294], rk_any, .inl [(0, 1)]]) from rfl) rfl rfl rfl (by decide) rfl ?_
  refine wp_go (pc' := 13) (lv' := [(1, .int c), (0, .ref 1)]) (st' := [.int (Int32.ofInt 0), .ref 294]) (h' := h) 1 rfl ?_
  refine wp_pI hI (show rk_Y 294 = some (4, 2, rk_slot [.inr [295], .inl [(0, 20)]]) from rfl) (by decide) rfl rfl rfl (by decide) (rk_ok_one (by decide) (by decide)) rfl rfl (fun h1 e2 hI3 g4 => ?_)
  have f5 : rk_Fr (fun b => b = 294) h h1 := by rw [e2]; exact (rk_Fr.refl h).put rfl
  refine wp_go (pc' := 17) (lv' := [(1, .int c), (0, .ref 1)]) (st' := [.int c]) (h' := h1) 1 rfl ?_
  exact wp_ret rfl rfl ⟨rfl, hI3, f5, g4⟩
