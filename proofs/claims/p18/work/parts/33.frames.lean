/-! the methods of Frame (laid by wip/gen/frames.py) -/
theorem rk_addI {x y : Int32} {c : Int} (hy : y.toInt = c) (h1 : -2147483648 ≤ x.toInt + c) (h2 : x.toInt + c ≤ 2147483647) : (x + y).toInt = x.toInt + c := by
  rw [Int32.toInt_add, hy]
  unfold Int.bmod
  dsimp only
  rw [show ((2 ^ 32 : Nat) : Int) = 4294967296 from rfl]
  split <;> omega
theorem rk_subI {x y : Int32} {c : Int} (hy : y.toInt = c) (h1 : -2147483648 ≤ x.toInt - c) (h2 : x.toInt - c ≤ 2147483647) : (x - y).toInt = x.toInt - c := by
  rw [Int32.toInt_sub, hy]
  unfold Int.bmod
  dsimp only
  rw [show ((2 ^ 32 : Nat) : Int) = 4294967296 from rfl]
  split <;> omega
set_option maxRecDepth 100000 in
set_option maxHeartbeats 4000000 in
theorem ct_X0_begin {d a : Nat} {h : rk_S} (F : isF a) (hI : rk_Iv rk_Y h) (x y z : Int32) : rk_wp d rm_X0_begin 0 [(0, .ref a), (1, .int x), (2, .int y), (3, .int z)] [] h (fun v h' => v = none ∧ rk_Iv rk_Y h' ∧ rk_Fr (fun b => b = a ∨ b = a + 1) h h') := by
  obtain ⟨ha, hT0, hT1, hT2⟩ := F
  refine wp_go (pc' := 1) (lv' := [(0, .ref a), (1, .int x), (2, .int y), (3, .int z)]) (st' := [.ref a]) (h' := h) 1 rfl ?_
  refine wp_gR hI hT0 rfl rfl rfl (by decide) rfl ?_
  refine wp_go (pc' := 6) (lv' := [(0, .ref a), (1, .int x), (2, .int y), (3, .int z)]) (st' := [.int x, .int (Int32.ofInt 0), .ref (a + 1)]) (h' := h) 2 rfl ?_
  refine wp_iasI hI hT1 (by omega) rfl (by decide +kernel) (by decide +kernel) (rk_ok_any _) (fun h1 e2 hI3 g4 => ?_)
  have f5 : rk_Fr (fun b => b = a ∨ b = a + 1) h h1 := by rw [e2]; exact (rk_Fr.refl h).put (Or.inr rfl)
  refine wp_go (pc' := 8) (lv' := [(0, .ref a), (1, .int x), (2, .int y), (3, .int z)]) (st' := [.ref a]) (h' := h1) 1 rfl ?_
  refine wp_gR hI3 hT0 rfl rfl rfl (by decide) rfl ?_
  refine wp_go (pc' := 13) (lv' := [(0, .ref a), (1, .int x), (2, .int y), (3, .int z)]) (st' := [.int y, .int (Int32.ofInt 1), .ref (a + 1)]) (h' := h1) 2 rfl ?_
  refine wp_iasI hI3 hT1 (by omega) rfl (by decide +kernel) (by decide +kernel) (rk_ok_any _) (fun h6 e7 hI8 g9 => ?_)
  have f10 : rk_Fr (fun b => b = a ∨ b = a + 1) h h6 := by rw [e7]; exact f5.put (Or.inr rfl)
  refine wp_go (pc' := 15) (lv' := [(0, .ref a), (1, .int x), (2, .int y), (3, .int z)]) (st' := [.ref a]) (h' := h6) 1 rfl ?_
  refine wp_gR hI8 hT0 rfl rfl rfl (by decide) rfl ?_
  refine wp_go (pc' := 20) (lv' := [(0, .ref a), (1, .int x), (2, .int y), (3, .int z)]) (st' := [.int z, .int (Int32.ofInt 2), .ref (a + 1)]) (h' := h6) 2 rfl ?_
  refine wp_iasI hI8 hT1 (by omega) rfl (by decide +kernel) (by decide +kernel) (rk_ok_any _) (fun h11 e12 hI13 g14 => ?_)
  have f15 : rk_Fr (fun b => b = a ∨ b = a + 1) h h11 := by rw [e12]; exact f10.put (Or.inr rfl)
  refine wp_go (pc' := 23) (lv' := [(0, .ref a), (1, .int x), (2, .int y), (3, .int z)]) (st' := [.int (Int32.ofInt 0), .ref a]) (h' := h11) 2 rfl ?_
  refine wp_pI hI13 hT0 ha rfl rfl rfl (by decide) (rk_ok_any _) rfl rfl (fun h16 e17 hI18 g19 => ?_)
  have f20 : rk_Fr (fun b => b = a ∨ b = a + 1) h h16 := by rw [e17]; exact f15.put (Or.inl rfl)
  refine wp_go (pc' := 28) (lv' := [(0, .ref a), (1, .int x), (2, .int y), (3, .int z)]) (st' := [.int (Int32.ofInt 0), .ref a]) (h' := h16) 2 rfl ?_
  refine wp_pI hI18 hT0 ha rfl rfl rfl (by decide) (rk_ok_any _) rfl rfl (fun h21 e22 hI23 g24 => ?_)
  have f25 : rk_Fr (fun b => b = a ∨ b = a + 1) h h21 := by rw [e22]; exact f20.put (Or.inl rfl)
  refine wp_go (pc' := 33) (lv' := [(0, .ref a), (1, .int x), (2, .int y), (3, .int z)]) (st' := [.int (Int32.ofInt 0), .ref a]) (h' := h21) 2 rfl ?_
  refine wp_pI hI23 hT0 ha rfl rfl rfl (by decide) (rk_ok_any _) rfl rfl (fun h26 e27 hI28 g29 => ?_)
  have f30 : rk_Fr (fun b => b = a ∨ b = a + 1) h h26 := by rw [e27]; exact f25.put (Or.inl rfl)
  refine wp_go (pc' := 38) (lv' := [(0, .ref a), (1, .int x), (2, .int y), (3, .int z)]) (st' := [.int (Int32.ofInt 0), .ref a]) (h' := h26) 2 rfl ?_
  refine wp_pI hI28 hT0 ha rfl rfl rfl (by decide) (rk_ok_any _) rfl rfl (fun h31 e32 hI33 g34 => ?_)
  have f35 : rk_Fr (fun b => b = a ∨ b = a + 1) h h31 := by rw [e32]; exact f30.put (Or.inl rfl)
  refine wp_go (pc' := 43) (lv' := [(0, .ref a), (1, .int x), (2, .int y), (3, .int z)]) (st' := [.int (Int32.ofInt 0), .ref a]) (h' := h31) 2 rfl ?_
  refine wp_pI hI33 hT0 ha rfl rfl rfl (by decide) (rk_ok_any _) rfl rfl (fun h36 e37 hI38 g39 => ?_)
  have f40 : rk_Fr (fun b => b = a ∨ b = a + 1) h h36 := by rw [e37]; exact f35.put (Or.inl rfl)
  exact wp_ret rfl rfl ⟨rfl, hI38, f40⟩
set_option maxRecDepth 100000 in
set_option maxHeartbeats 4000000 in
theorem ct_X0_numberOf {d a : Nat} {h : rk_S} (F : isF a) (hI : rk_Iv rk_Y h) (x : Int32) : rk_wp d rm_X0_numberOf 0 [(0, .ref a), (1, .int x)] [] h (fun v h' => h' = h ∧ ∃ y : Int32, v = some (.int y) ∧ True) := by
  obtain ⟨ha, hT0, hT1, hT2⟩ := F
  refine wp_go (pc' := 1) (lv' := [(0, .ref a), (1, .int x)]) (st' := [.int x]) (h' := h) 1 rfl ?_
  refine wp_if1 (tg := 18) rfl rfl (fun c1 => ?_) (fun c1 => ?_)
  · have q2 : x.toInt < 0 := of_decide_eq_true (p := x.toInt < 0) c1
    refine wp_go (pc' := 19) (lv' := [(0, .ref a), (1, .int x)]) (st' := [.int (Int32.ofInt 0)]) (h' := h) 1 rfl ?_
    exact wp_ret rfl rfl ⟨rfl, _, rfl, trivial⟩
  · have q2 : ¬ (x.toInt < 0) := of_decide_eq_false (p := x.toInt < 0) c1
    refine wp_go (pc' := 6) (lv' := [(0, .ref a), (1, .int x)]) (st' := [.int (Int32.ofInt 3), .int x]) (h' := h) 2 rfl ?_
    refine wp_if2 (tg := 18) rfl rfl (fun c3 => ?_) (fun c3 => ?_)
    · have q4 : ((Int32.ofInt 3)).toInt ≤ x.toInt := of_decide_eq_true (p := ((Int32.ofInt 3)).toInt ≤ x.toInt) c3
      rw [show ((Int32.ofInt 3)).toInt = 3 by decide] at q4
      refine wp_go (pc' := 19) (lv' := [(0, .ref a), (1, .int x)]) (st' := [.int (Int32.ofInt 0)]) (h' := h) 1 rfl ?_
      exact wp_ret rfl rfl ⟨rfl, _, rfl, trivial⟩
    · have q4 : ¬ (((Int32.ofInt 3)).toInt ≤ x.toInt) := of_decide_eq_false (p := ((Int32.ofInt 3)).toInt ≤ x.toInt) c3
      rw [show ((Int32.ofInt 3)).toInt = 3 by decide] at q4
      refine wp_go (pc' := 10) (lv' := [(0, .ref a), (1, .int x)]) (st' := [.ref a]) (h' := h) 1 rfl ?_
      refine wp_gR hI hT0 rfl rfl rfl (by decide) rfl ?_
      refine wp_go (pc' := 14) (lv' := [(0, .ref a), (1, .int x)]) (st' := [.int x, .ref (a + 1)]) (h' := h) 1 rfl ?_
      refine wp_iaI hI hT1 rfl (by omega) (by omega) rfl (fun y5 b6 g7 => ?_)
      have b6 := rk_one b6
      refine wp_go (pc' := 19) (lv' := [(0, .ref a), (1, .int x)]) (st' := [.int y5]) (h' := h) 1 rfl ?_
      exact wp_ret rfl rfl ⟨rfl, _, rfl, trivial⟩
set_option maxRecDepth 100000 in
set_option maxHeartbeats 4000000 in
theorem ct_X0_isFull {d a : Nat} {h : rk_S} (F : isF a) (hI : rk_Iv rk_Y h) : rk_wp d rm_X0_isFull 0 [(0, .ref a)] [] h (fun v h' => h' = h ∧ ∃ y : Int32, v = some (.int y) ∧ (y.toInt = 0 ∨ y.toInt = 1)) := by
  obtain ⟨ha, hT0, hT1, hT2⟩ := F
  refine wp_go (pc' := 1) (lv' := [(0, .ref a)]) (st' := [.ref a]) (h' := h) 1 rfl ?_
  refine wp_gI hI hT0 rfl rfl rfl (by decide) rfl (fun y1 b2 g3 => ?_)
  have b2 := rk_one b2
  refine wp_go (pc' := 6) (lv' := [(0, .ref a)]) (st' := [.int ((Int8.ofInt 20).toInt32), .int y1]) (h' := h) 1 rfl ?_
  refine wp_if2 (tg := 13) rfl rfl (fun c4 => ?_) (fun c4 => ?_)
  · have q5 : y1.toInt < (((Int8.ofInt 20).toInt32)).toInt := of_decide_eq_true (p := y1.toInt < (((Int8.ofInt 20).toInt32)).toInt) c4
    rw [show (((Int8.ofInt 20).toInt32)).toInt = 20 by decide] at q5
    refine wp_go (pc' := 14) (lv' := [(0, .ref a)]) (st' := [.int (Int32.ofInt 0)]) (h' := h) 1 rfl ?_
    exact wp_ret rfl rfl ⟨rfl, _, rfl, by rw [show ((Int32.ofInt 0)).toInt = 0 by decide]; omega⟩
  · have q5 : ¬ (y1.toInt < (((Int8.ofInt 20).toInt32)).toInt) := of_decide_eq_false (p := y1.toInt < (((Int8.ofInt 20).toInt32)).toInt) c4
    rw [show (((Int8.ofInt 20).toInt32)).toInt = 20 by decide] at q5
    refine wp_go (pc' := 14) (lv' := [(0, .ref a)]) (st' := [.int (Int32.ofInt 1)]) (h' := h) 2 rfl ?_
    exact wp_ret rfl rfl ⟨rfl, _, rfl, by rw [show ((Int32.ofInt 1)).toInt = 1 by decide]; omega⟩
set_option maxRecDepth 100000 in
set_option maxHeartbeats 4000000 in
theorem ct_X0_last {d a : Nat} {h : rk_S} (F : isF a) (hI : rk_Iv rk_Y h) : rk_wp d rm_X0_last 0 [(0, .ref a)] [] h (fun v h' => h' = h ∧ ∃ y : Int32, v = some (.int y) ∧ True) := by
  obtain ⟨ha, hT0, hT1, hT2⟩ := F
  refine wp_go (pc' := 1) (lv' := [(0, .ref a)]) (st' := [.ref a]) (h' := h) 1 rfl ?_
  refine wp_gI hI hT0 rfl rfl rfl (by decide) rfl (fun y1 b2 g3 => ?_)
  have b2 := rk_one b2
  refine wp_go (pc' := 5) (lv' := [(0, .ref a)]) (st' := [.int (Int32.ofInt 1), .int y1]) (h' := h) 1 rfl ?_
  refine wp_if2 (tg := 31) rfl rfl (fun c4 => ?_) (fun c4 => ?_)
  · have q5 : y1.toInt < ((Int32.ofInt 1)).toInt := of_decide_eq_true (p := y1.toInt < ((Int32.ofInt 1)).toInt) c4
    rw [show ((Int32.ofInt 1)).toInt = 1 by decide] at q5
    refine wp_go (pc' := 32) (lv' := [(0, .ref a)]) (st' := [.int (Int32.ofInt 0)]) (h' := h) 1 rfl ?_
    exact wp_ret rfl rfl ⟨rfl, _, rfl, trivial⟩
  · have q5 : ¬ (y1.toInt < ((Int32.ofInt 1)).toInt) := of_decide_eq_false (p := y1.toInt < ((Int32.ofInt 1)).toInt) c4
    rw [show ((Int32.ofInt 1)).toInt = 1 by decide] at q5
    refine wp_go (pc' := 9) (lv' := [(0, .ref a)]) (st' := [.ref a]) (h' := h) 1 rfl ?_
    refine wp_gK hI hT0 rfl rfl rfl g3 ?_
    refine wp_go (pc' := 14) (lv' := [(0, .ref a)]) (st' := [.int ((Int8.ofInt 20).toInt32), .int y1]) (h' := h) 1 rfl ?_
    refine wp_if2 (tg := 31) rfl rfl (fun c6 => ?_) (fun c6 => ?_)
    · have q7 : (((Int8.ofInt 20).toInt32)).toInt < y1.toInt := of_decide_eq_true (p := (((Int8.ofInt 20).toInt32)).toInt < y1.toInt) c6
      rw [show (((Int8.ofInt 20).toInt32)).toInt = 20 by decide] at q7
      refine wp_go (pc' := 32) (lv' := [(0, .ref a)]) (st' := [.int (Int32.ofInt 0)]) (h' := h) 1 rfl ?_
      exact wp_ret rfl rfl ⟨rfl, _, rfl, trivial⟩
    · have q7 : ¬ ((((Int8.ofInt 20).toInt32)).toInt < y1.toInt) := of_decide_eq_false (p := (((Int8.ofInt 20).toInt32)).toInt < y1.toInt) c6
      rw [show (((Int8.ofInt 20).toInt32)).toInt = 20 by decide] at q7
      refine wp_go (pc' := 18) (lv' := [(0, .ref a)]) (st' := [.ref a]) (h' := h) 1 rfl ?_
      refine wp_gR hI hT0 rfl rfl rfl (by decide) rfl ?_
      refine wp_go (pc' := 22) (lv' := [(0, .ref a)]) (st' := [.ref a, .ref (a + 2)]) (h' := h) 1 rfl ?_
      refine wp_gK hI hT0 rfl rfl rfl g3 ?_
      have t8 : (y1 - (Int32.ofInt 1)).toInt = y1.toInt - 1 := rk_subI (by decide) (by omega) (by omega)
      refine wp_go (pc' := 27) (lv' := [(0, .ref a)]) (st' := [.int (y1 - (Int32.ofInt 1)), .ref (a + 2)]) (h' := h) 2 rfl ?_
      refine wp_iaI hI hT2 rfl (by omega) (by omega) rfl (fun y9 b10 g11 => ?_)
      have b10 := rk_one b10
      refine wp_go (pc' := 32) (lv' := [(0, .ref a)]) (st' := [.int y9]) (h' := h) 1 rfl ?_
      exact wp_ret rfl rfl ⟨rfl, _, rfl, trivial⟩
set_option maxRecDepth 100000 in
set_option maxHeartbeats 4000000 in
theorem ct_X0_take {d a : Nat} {h : rk_S} (F : isF a) (hI : rk_Iv rk_Y h) : rk_wp d rm_X0_take 0 [(0, .ref a)] [] h (fun v h' => (∃ y, v = some (.int y)) ∧ rk_Iv rk_Y h' ∧ rk_Fr (fun b => b = a) h h') := by
  obtain ⟨ha, hT0, hT1, hT2⟩ := F
  refine wp_go (pc' := 1) (lv' := [(0, .ref a)]) (st' := [.ref a]) (h' := h) 1 rfl ?_
  refine wp_gI hI hT0 rfl rfl rfl (by decide) rfl (fun y1 b2 g3 => ?_)
  have b2 := rk_one b2
  refine wp_go (pc' := 5) (lv' := [(0, .ref a)]) (st' := [.int (Int32.ofInt 1), .int y1]) (h' := h) 1 rfl ?_
  refine wp_if2 (tg := 17) rfl rfl (fun c4 => ?_) (fun c4 => ?_)
  · have q5 : y1.toInt < ((Int32.ofInt 1)).toInt := of_decide_eq_true (p := y1.toInt < ((Int32.ofInt 1)).toInt) c4
    rw [show ((Int32.ofInt 1)).toInt = 1 by decide] at q5
    refine wp_go (pc' := 18) (lv' := [(0, .ref a)]) (st' := [.int (Int32.ofInt 0)]) (h' := h) 1 rfl ?_
    exact wp_ret rfl rfl ⟨⟨_, rfl⟩, hI, (rk_Fr.refl h)⟩
  · have q5 : ¬ (y1.toInt < ((Int32.ofInt 1)).toInt) := of_decide_eq_false (p := y1.toInt < ((Int32.ofInt 1)).toInt) c4
    rw [show ((Int32.ofInt 1)).toInt = 1 by decide] at q5
    refine wp_go (pc' := 9) (lv' := [(0, .ref a)]) (st' := [.ref a]) (h' := h) 1 rfl ?_
    refine wp_gK hI hT0 rfl rfl rfl g3 ?_
    refine wp_go (pc' := 14) (lv' := [(0, .ref a)]) (st' := [.int ((Int8.ofInt 20).toInt32), .int y1]) (h' := h) 1 rfl ?_
    refine wp_if2 (tg := 19) rfl rfl (fun c6 => ?_) (fun c6 => ?_)
    · have q7 : y1.toInt ≤ (((Int8.ofInt 20).toInt32)).toInt := of_decide_eq_true (p := y1.toInt ≤ (((Int8.ofInt 20).toInt32)).toInt) c6
      rw [show (((Int8.ofInt 20).toInt32)).toInt = 20 by decide] at q7
      refine wp_go (pc' := 21) (lv' := [(0, .ref a)]) (st' := [.ref a, .ref a]) (h' := h) 2 rfl ?_
      refine wp_gK hI hT0 rfl rfl rfl g3 ?_
      have t8 : (y1 - (Int32.ofInt 1)).toInt = y1.toInt - 1 := rk_subI (by decide) (by omega) (by omega)
      refine wp_go (pc' := 26) (lv' := [(0, .ref a)]) (st' := [.int (y1 - (Int32.ofInt 1)), .ref a]) (h' := h) 2 rfl ?_
      refine wp_pI hI hT0 ha rfl rfl rfl (by decide) (rk_ok_any _) rfl rfl (fun h9 e10 hI11 g12 => ?_)
      have f13 : rk_Fr (fun b => b = a) h h9 := by rw [e10]; exact (rk_Fr.refl h).put rfl
      refine wp_go (pc' := 30) (lv' := [(0, .ref a)]) (st' := [.ref a]) (h' := h9) 1 rfl ?_
      refine wp_gR hI11 hT0 rfl rfl rfl (by decide) rfl ?_
      refine wp_go (pc' := 34) (lv' := [(0, .ref a)]) (st' := [.ref a, .ref (a + 2)]) (h' := h9) 1 rfl ?_
      refine wp_gK hI11 hT0 rfl rfl rfl g12 ?_
      refine wp_iaI hI11 hT2 rfl (by omega) (by omega) rfl (fun y14 b15 g16 => ?_)
      have b15 := rk_one b15
      exact wp_ret rfl rfl ⟨⟨_, rfl⟩, hI11, f13⟩
    · have q7 : ¬ (y1.toInt ≤ (((Int8.ofInt 20).toInt32)).toInt) := of_decide_eq_false (p := y1.toInt ≤ (((Int8.ofInt 20).toInt32)).toInt) c6
      rw [show (((Int8.ofInt 20).toInt32)).toInt = 20 by decide] at q7
      refine wp_go (pc' := 18) (lv' := [(0, .ref a)]) (st' := [.int (Int32.ofInt 0)]) (h' := h) 1 rfl ?_
      exact wp_ret rfl rfl ⟨⟨_, rfl⟩, hI, (rk_Fr.refl h)⟩
set_option maxRecDepth 100000 in
set_option maxHeartbeats 4000000 in
theorem ct_X0_joinCalled {d a b : Nat} {h : rk_S} (F : isF a) (G : isF b) (hI : rk_Iv rk_Y h) : rk_wp d rm_X0_joinCalled 0 [(0, .ref a), (1, .ref b)] [] h (fun v h' => v = none ∧ rk_Iv rk_Y h' ∧ rk_Fr (fun b => b = a) h h') := by
  obtain ⟨ha, hT0, hT1, hT2⟩ := F
  obtain ⟨hb, hU0, hU1, hU2⟩ := G
  refine wp_go (pc' := 2) (lv' := [(0, .ref a), (1, .ref b)]) (st' := [.ref a, .ref a]) (h' := h) 2 rfl ?_
  refine wp_gI hI hT0 rfl rfl rfl (by decide) rfl (fun y1 b2 g3 => ?_)
  have b2 := rk_one b2
  refine wp_go (pc' := 6) (lv' := [(0, .ref a), (1, .ref b)]) (st' := [.ref b, .int y1, .ref a]) (h' := h) 1 rfl ?_
  refine wp_gI hI hU0 rfl rfl rfl (by decide) rfl (fun y4 b5 g6 => ?_)
  have b5 := rk_one b5
  refine wp_go (pc' := 10) (lv' := [(0, .ref a), (1, .ref b)]) (st' := [.int (y1 ||| y4), .ref a]) (h' := h) 1 rfl ?_
  refine wp_pI hI hT0 ha rfl rfl rfl (by decide) (rk_ok_any _) rfl rfl (fun h7 e8 hI9 g10 => ?_)
  have f11 : rk_Fr (fun b => b = a) h h7 := by rw [e8]; exact (rk_Fr.refl h).put rfl
  refine wp_go (pc' := 14) (lv' := [(0, .ref a), (1, .ref b)]) (st' := [.ref b]) (h' := h7) 1 rfl ?_
  refine wp_gI hI9 hU0 rfl rfl rfl (by decide) rfl (fun y12 b13 g14 => ?_)
  have b13 := rk_one b13
  refine wp_go (pc' := 18) (lv' := [(0, .ref a), (1, .ref b)]) (st' := [.ref a, .int y12]) (h' := h7) 1 rfl ?_
  refine wp_gI hI9 hT0 rfl rfl rfl (by decide) rfl (fun y15 b16 g17 => ?_)
  have b16 := rk_one b16
  refine wp_if2 (tg := 34) rfl rfl (fun c18 => ?_) (fun c18 => ?_)
  · have q19 : y12.toInt < y15.toInt := of_decide_eq_true (p := y12.toInt < y15.toInt) c18
    exact wp_ret rfl rfl ⟨rfl, hI9, f11⟩
  · have q19 : ¬ (y12.toInt < y15.toInt) := of_decide_eq_false (p := y12.toInt < y15.toInt) c18
    refine wp_go (pc' := 26) (lv' := [(0, .ref a), (1, .ref b)]) (st' := [.ref b, .ref a]) (h' := h7) 2 rfl ?_
    refine wp_gK hI9 hU0 rfl rfl rfl g14 ?_
    refine wp_go (pc' := 31) (lv' := [(0, .ref a), (1, .ref b)]) (st' := [.int (y12 + (Int32.ofInt 1)), .ref a]) (h' := h7) 2 rfl ?_
    refine wp_pI hI9 hT0 ha rfl rfl rfl (by decide) (rk_ok_any _) rfl rfl (fun h20 e21 hI22 g23 => ?_)
    have f24 : rk_Fr (fun b => b = a) h h20 := by rw [e21]; exact f11.put rfl
    exact wp_ret rfl rfl ⟨rfl, hI22, f24⟩
