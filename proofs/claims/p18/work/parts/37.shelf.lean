/-! the lot; the Shelf: has, dropAll (laid by wip/gen/shelf.py) -/
set_option maxRecDepth 100000 in
set_option maxHeartbeats 4000000 in
theorem ct_X6_nextLot_18 {d : Nat} {h : rk_S} (hI : rk_Iv rk_Y h) : rk_wp d rm_X6_nextLot 0 [(0, .ref 18)] [] h (fun v h' => (∃ y, v = some (.int y)) ∧ rk_Iv rk_Y h' ∧ rk_Fr (fun b => b = 18) h h') := by
  refine wp_go (pc' := 4) (lv' := [(0, .ref 18)]) (st' := [.ref 18, .int 69069, .ref 18]) (h' := h) 3 rfl ?_
  refine wp_gI hI (show rk_Y 18 = some (6, 2, rk_slot [.inr [19], rk_any]) from rfl) rfl rfl rfl (by decide) rfl (fun y1 b2 g3 => ?_)
  have b2 := rk_one b2
  refine wp_go (pc' := 10) (lv' := [(0, .ref 18)]) (st' := [.int ((69069 * y1) + (Int32.ofInt 1)), .ref 18]) (h' := h) 3 rfl ?_
  refine wp_pI hI (show rk_Y 18 = some (6, 2, rk_slot [.inr [19], rk_any]) from rfl) (by decide) rfl rfl rfl (by decide) (rk_ok_any _) rfl rfl (fun h4 e5 hI6 g7 => ?_)
  have f8 : rk_Fr (fun b => b = 18) h h4 := by rw [e5]; exact (rk_Fr.refl h).put rfl
  refine wp_go (pc' := 14) (lv' := [(0, .ref 18)]) (st' := [.ref 18]) (h' := h4) 1 rfl ?_
  refine wp_gK hI6 (show rk_Y 18 = some (6, 2, rk_slot [.inr [19], rk_any]) from rfl) rfl rfl rfl g7 ?_
  refine wp_go (pc' := 20) (lv' := [(0, .ref 18)]) (st' := [.int (((((69069 * y1) + (Int32.ofInt 1))).toUInt32 >>> ((((Int8.ofInt 16).toInt32)).toUInt32 &&& Int32.toUInt32 31)).toInt32)]) (h' := h4) 2 rfl ?_
  exact wp_ret rfl rfl ⟨⟨_, rfl⟩, hI6, f8⟩
set_option maxRecDepth 100000 in
set_option maxHeartbeats 4000000 in
theorem ct_X6_nextLot_156 {d : Nat} {h : rk_S} (hI : rk_Iv rk_Y h) : rk_wp d rm_X6_nextLot 0 [(0, .ref 156)] [] h (fun v h' => (∃ y, v = some (.int y)) ∧ rk_Iv rk_Y h' ∧ rk_Fr (fun b => b = 156) h h') := by
  refine wp_go (pc' := 4) (lv' := [(0, .ref 156)]) (st' := [.ref 156, .int 69069, .ref 156]) (h' := h) 3 rfl ?_
  refine wp_gI hI (show rk_Y 156 = some (6, 2, rk_slot [.inr [157], rk_any]) from rfl) rfl rfl rfl (by decide) rfl (fun y1 b2 g3 => ?_)
  have b2 := rk_one b2
  refine wp_go (pc' := 10) (lv' := [(0, .ref 156)]) (st' := [.int ((69069 * y1) + (Int32.ofInt 1)), .ref 156]) (h' := h) 3 rfl ?_
  refine wp_pI hI (show rk_Y 156 = some (6, 2, rk_slot [.inr [157], rk_any]) from rfl) (by decide) rfl rfl rfl (by decide) (rk_ok_any _) rfl rfl (fun h4 e5 hI6 g7 => ?_)
  have f8 : rk_Fr (fun b => b = 156) h h4 := by rw [e5]; exact (rk_Fr.refl h).put rfl
  refine wp_go (pc' := 14) (lv' := [(0, .ref 156)]) (st' := [.ref 156]) (h' := h4) 1 rfl ?_
  refine wp_gK hI6 (show rk_Y 156 = some (6, 2, rk_slot [.inr [157], rk_any]) from rfl) rfl rfl rfl g7 ?_
  refine wp_go (pc' := 20) (lv' := [(0, .ref 156)]) (st' := [.int (((((69069 * y1) + (Int32.ofInt 1))).toUInt32 >>> ((((Int8.ofInt 16).toInt32)).toUInt32 &&& Int32.toUInt32 31)).toInt32)]) (h' := h4) 2 rfl ?_
  exact wp_ret rfl rfl ⟨⟨_, rfl⟩, hI6, f8⟩
set_option maxRecDepth 100000 in
set_option maxHeartbeats 4000000 in
theorem ct_x_has_20 {d : Nat} {h : rk_S} (hI : rk_Iv rk_Y h) (x : Int32) (c : Int32) (gc : rk_get h 20 1 = some (.int c)) : rk_wp d rm_X5_has 0 [(0, .ref 20), (1, .int x)] [] h (fun v h' => h' = h ∧ ∃ y : Int32, v = some (.int y) ∧ ((y.toInt = 1 ∧ 0 ≤ x.toInt ∧ x.toInt < c.toInt) ∨ (y.toInt = 0 ∧ (x.toInt < 0 ∨ c.toInt ≤ x.toInt)))) := by
  have bc := rk_bd (k := 1) hI (show rk_Y 20 = some (5, 5, rk_slot [.inr [21], .inl [(0, 32)], .inl [(0, 32)], rk_any, rk_any]) from rfl) (by decide) rfl gc
  refine wp_go (pc' := 1) (lv' := [(0, .ref 20), (1, .int x)]) (st' := [.int x]) (h' := h) 1 rfl ?_
  refine wp_if1 (tg := 16) rfl rfl (fun c1 => ?_) (fun c1 => ?_)
  · have q2 : x.toInt < 0 := of_decide_eq_true (p := x.toInt < 0) c1
    refine wp_go (pc' := 17) (lv' := [(0, .ref 20), (1, .int x)]) (st' := [.int (Int32.ofInt 0)]) (h' := h) 1 rfl ?_
    exact wp_ret rfl rfl ⟨rfl, _, rfl, by rw [show ((Int32.ofInt 0)).toInt = 0 by decide]; omega⟩
  · have q2 : ¬ (x.toInt < 0) := of_decide_eq_false (p := x.toInt < 0) c1
    refine wp_go (pc' := 6) (lv' := [(0, .ref 20), (1, .int x)]) (st' := [.ref 20, .int x]) (h' := h) 2 rfl ?_
    refine wp_gK hI (show rk_Y 20 = some (5, 5, rk_slot [.inr [21], .inl [(0, 32)], .inl [(0, 32)], rk_any, rk_any]) from rfl) rfl rfl rfl gc ?_
    refine wp_if2 (tg := 16) rfl rfl (fun c3 => ?_) (fun c3 => ?_)
    · have q4 : c.toInt ≤ x.toInt := of_decide_eq_true (p := c.toInt ≤ x.toInt) c3
      refine wp_go (pc' := 17) (lv' := [(0, .ref 20), (1, .int x)]) (st' := [.int (Int32.ofInt 0)]) (h' := h) 1 rfl ?_
      exact wp_ret rfl rfl ⟨rfl, _, rfl, by rw [show ((Int32.ofInt 0)).toInt = 0 by decide]; omega⟩
    · have q4 : ¬ (c.toInt ≤ x.toInt) := of_decide_eq_false (p := c.toInt ≤ x.toInt) c3
      refine wp_go (pc' := 17) (lv' := [(0, .ref 20), (1, .int x)]) (st' := [.int (Int32.ofInt 1)]) (h' := h) 2 rfl ?_
      exact wp_ret rfl rfl ⟨rfl, _, rfl, by rw [show ((Int32.ofInt 1)).toInt = 1 by decide]; omega⟩
set_option maxRecDepth 100000 in
set_option maxHeartbeats 4000000 in
theorem ct_X5_dropAll_20 {d : Nat} {h : rk_S} (hI : rk_Iv rk_Y h) : rk_wp d rm_X5_dropAll 0 [(0, .ref 20)] [] h (fun v h' => (∃ y, v = some (.int y)) ∧ rk_Iv rk_Y h' ∧ rk_Fr (fun b => b = 20) h h') := by
  refine wp_go (pc' := 1) (lv' := [(0, .ref 20)]) (st' := [.ref 20]) (h' := h) 1 rfl ?_
  refine wp_gI hI (show rk_Y 20 = some (5, 5, rk_slot [.inr [21], .inl [(0, 32)], .inl [(0, 32)], rk_any, rk_any]) from rfl) rfl rfl rfl (by decide) rfl (fun y1 b2 g3 => ?_)
  have b2 := rk_one b2
  refine wp_go (pc' := 7) (lv' := [(1, .int y1), (0, .ref 20)]) (st' := [.int (Int32.ofInt 0), .ref 20]) (h' := h) 3 rfl ?_
  refine wp_pI hI (show rk_Y 20 = some (5, 5, rk_slot [.inr [21], .inl [(0, 32)], .inl [(0, 32)], rk_any, rk_any]) from rfl) (by decide) rfl rfl rfl (by decide) (rk_ok_one (by decide) (by decide)) rfl rfl (fun h4 e5 hI6 g7 => ?_)
  have f8 : rk_Fr (fun b => b = 20) h h4 := by rw [e5]; exact (rk_Fr.refl h).put rfl
  refine wp_go (pc' := 11) (lv' := [(1, .int y1), (0, .ref 20)]) (st' := [.int y1]) (h' := h4) 1 rfl ?_
  exact wp_ret rfl rfl ⟨⟨_, rfl⟩, hI6, f8⟩
set_option maxRecDepth 100000 in
set_option maxHeartbeats 4000000 in
theorem ct_x_has_158 {d : Nat} {h : rk_S} (hI : rk_Iv rk_Y h) (x : Int32) (c : Int32) (gc : rk_get h 158 1 = some (.int c)) : rk_wp d rm_X5_has 0 [(0, .ref 158), (1, .int x)] [] h (fun v h' => h' = h ∧ ∃ y : Int32, v = some (.int y) ∧ ((y.toInt = 1 ∧ 0 ≤ x.toInt ∧ x.toInt < c.toInt) ∨ (y.toInt = 0 ∧ (x.toInt < 0 ∨ c.toInt ≤ x.toInt)))) := by
  have bc := rk_bd (k := 1) hI (show rk_Y 158 = some (5, 5, rk_slot [.inr [159], .inl [(0, 32)], .inl [(0, 32)], rk_any, rk_any]) from rfl) (by decide) rfl gc
  refine wp_go (pc' := 1) (lv' := [(0, .ref 158), (1, .int x)]) (st' := [.int x]) (h' := h) 1 rfl ?_
  refine wp_if1 (tg := 16) rfl rfl (fun c1 => ?_) (fun c1 => ?_)
  · have q2 : x.toInt < 0 := of_decide_eq_true (p := x.toInt < 0) c1
    refine wp_go (pc' := 17) (lv' := [(0, .ref 158), (1, .int x)]) (st' := [.int (Int32.ofInt 0)]) (h' := h) 1 rfl ?_
    exact wp_ret rfl rfl ⟨rfl, _, rfl, by rw [show ((Int32.ofInt 0)).toInt = 0 by decide]; omega⟩
  · have q2 : ¬ (x.toInt < 0) := of_decide_eq_false (p := x.toInt < 0) c1
    refine wp_go (pc' := 6) (lv' := [(0, .ref 158), (1, .int x)]) (st' := [.ref 158, .int x]) (h' := h) 2 rfl ?_
    refine wp_gK hI (show rk_Y 158 = some (5, 5, rk_slot [.inr [159], .inl [(0, 32)], .inl [(0, 32)], rk_any, rk_any]) from rfl) rfl rfl rfl gc ?_
    refine wp_if2 (tg := 16) rfl rfl (fun c3 => ?_) (fun c3 => ?_)
    · have q4 : c.toInt ≤ x.toInt := of_decide_eq_true (p := c.toInt ≤ x.toInt) c3
      refine wp_go (pc' := 17) (lv' := [(0, .ref 158), (1, .int x)]) (st' := [.int (Int32.ofInt 0)]) (h' := h) 1 rfl ?_
      exact wp_ret rfl rfl ⟨rfl, _, rfl, by rw [show ((Int32.ofInt 0)).toInt = 0 by decide]; omega⟩
    · have q4 : ¬ (c.toInt ≤ x.toInt) := of_decide_eq_false (p := c.toInt ≤ x.toInt) c3
      refine wp_go (pc' := 17) (lv' := [(0, .ref 158), (1, .int x)]) (st' := [.int (Int32.ofInt 1)]) (h' := h) 2 rfl ?_
      exact wp_ret rfl rfl ⟨rfl, _, rfl, by rw [show ((Int32.ofInt 1)).toInt = 1 by decide]; omega⟩
set_option maxRecDepth 100000 in
set_option maxHeartbeats 4000000 in
theorem ct_X5_dropAll_158 {d : Nat} {h : rk_S} (hI : rk_Iv rk_Y h) : rk_wp d rm_X5_dropAll 0 [(0, .ref 158)] [] h (fun v h' => (∃ y, v = some (.int y)) ∧ rk_Iv rk_Y h' ∧ rk_Fr (fun b => b = 158) h h') := by
  refine wp_go (pc' := 1) (lv' := [(0, .ref 158)]) (st' := [.ref 158]) (h' := h) 1 rfl ?_
  refine wp_gI hI (show rk_Y 158 = some (5, 5, rk_slot [.inr [159], .inl [(0, 32)], .inl [(0, 32)], rk_any, rk_any]) from rfl) rfl rfl rfl (by decide) rfl (fun y1 b2 g3 => ?_)
  have b2 := rk_one b2
  refine wp_go (pc' := 7) (lv' := [(1, .int y1), (0, .ref 158)]) (st' := [.int (Int32.ofInt 0), .ref 158]) (h' := h) 3 rfl ?_
  refine wp_pI hI (show rk_Y 158 = some (5, 5, rk_slot [.inr [159], .inl [(0, 32)], .inl [(0, 32)], rk_any, rk_any]) from rfl) (by decide) rfl rfl rfl (by decide) (rk_ok_one (by decide) (by decide)) rfl rfl (fun h4 e5 hI6 g7 => ?_)
  have f8 : rk_Fr (fun b => b = 158) h h4 := by rw [e5]; exact (rk_Fr.refl h).put rfl
  refine wp_go (pc' := 11) (lv' := [(1, .int y1), (0, .ref 158)]) (st' := [.int y1]) (h' := h4) 1 rfl ?_
  exact wp_ret rfl rfl ⟨⟨_, rfl⟩, hI6, f8⟩
