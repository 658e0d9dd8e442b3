/-! readers of Keepsake (laid by wip/gen/keeps.py) -/
set_option maxRecDepth 100000 in
set_option maxHeartbeats 4000000 in
theorem ct_X7_isSet {d : Nat} {h : rk_S} (x z : Int32) : rk_wp d rm_X7_isSet 0 [(0, .int x), (1, .int z)] [] h (fun v h' => h' = h ∧ ∃ y : Int32, v = some (.int y) ∧ (y.toInt = 0 ∨ y.toInt = 1)) := by
  refine wp_go (pc' := 5) (lv' := [(0, .int x), (1, .int z)]) (st' := [.int ((x >>> (z &&& 31)) &&& (Int32.ofInt 1))]) (h' := h) 5 rfl ?_
  refine wp_if1 (tg := 12) rfl rfl (fun c1 => ?_) (fun c1 => ?_)
  · have q2 : ((x >>> (z &&& 31)) &&& (Int32.ofInt 1)).toInt = 0 := of_decide_eq_true (p := ((x >>> (z &&& 31)) &&& (Int32.ofInt 1)).toInt = 0) c1
    refine wp_go (pc' := 13) (lv' := [(0, .int x), (1, .int z)]) (st' := [.int (Int32.ofInt 0)]) (h' := h) 1 rfl ?_
    exact wp_ret rfl rfl ⟨rfl, _, rfl, by rw [show ((Int32.ofInt 0)).toInt = 0 by decide]; omega⟩
  · have q2 : ¬ (((x >>> (z &&& 31)) &&& (Int32.ofInt 1)).toInt = 0) := of_decide_eq_false (p := ((x >>> (z &&& 31)) &&& (Int32.ofInt 1)).toInt = 0) c1
    refine wp_go (pc' := 13) (lv' := [(0, .int x), (1, .int z)]) (st' := [.int (Int32.ofInt 1)]) (h' := h) 2 rfl ?_
    exact wp_ret rfl rfl ⟨rfl, _, rfl, by rw [show ((Int32.ofInt 1)).toInt = 1 by decide]; omega⟩
set_option maxRecDepth 100000 in
set_option maxHeartbeats 4000000 in
theorem ct_X1_numberWas {d a : Nat} {h : rk_S} (K : isK a) (hI : rk_Iv rk_Y h) (x : Int32) : rk_wp d rm_X1_numberWas 0 [(0, .ref a), (1, .int x)] [] h (fun v h' => h' = h ∧ ∃ y : Int32, v = some (.int y) ∧ True) := by
  obtain ⟨ha, hT0, hT1, hT2⟩ := K
  refine wp_go (pc' := 1) (lv' := [(0, .ref a), (1, .int x)]) (st' := [.int x]) (h' := h) 1 rfl ?_
  refine wp_if1 (tg := 18) rfl rfl (fun c1 => ?_) (fun c1 => ?_)
  · have q2 : x.toInt < 0 := of_decide_eq_true (p := x.toInt < 0) c1
    refine wp_go (pc' := 19) (lv' := [(0, .ref a), (1, .int x)]) (st' := [.int (Int32.ofInt 0)]) (h' := h) 1 rfl ?_
    exact wp_ret rfl rfl ⟨rfl, _, rfl, trivial⟩
  · have q2 : ¬ (x.toInt < 0) := of_decide_eq_false (p := x.toInt < 0) c1
    refine wp_go (pc' := 6) (lv' := [(0, .ref a), (1, .int x)]) (st' := [.int (Int32.ofInt 3), .int x]) (h' := h) 2 rfl ?_
    refine wp_if2 (tg := 18) rfl rfl (fun c3 => ?_) (fun c3 => ?_)
    · have q4 : ((Int32.ofInt 3)).toInt ≤ x.toInt := of_decide_eq_true (p := ((Int32.ofInt 3)).toInt ≤ x.toInt) c3
      rw [show ((Int32.ofInt 3)).toInt = 3 by decide] at q4
      refine wp_go (pc' := 19) (lv' := [(0, .ref a), (1, .int x)]) (st' := [.int (Int32.ofInt 0)]) (h' := h) 1 rfl ?_
      exact wp_ret rfl rfl ⟨rfl, _, rfl, trivial⟩
    · have q4 : ¬ (((Int32.ofInt 3)).toInt ≤ x.toInt) := of_decide_eq_false (p := ((Int32.ofInt 3)).toInt ≤ x.toInt) c3
      rw [show ((Int32.ofInt 3)).toInt = 3 by decide] at q4
      refine wp_go (pc' := 10) (lv' := [(0, .ref a), (1, .int x)]) (st' := [.ref a]) (h' := h) 1 rfl ?_
      refine wp_gR hI hT0 rfl rfl rfl (by decide) rfl ?_
      refine wp_go (pc' := 14) (lv' := [(0, .ref a), (1, .int x)]) (st' := [.int x, .ref (a + 1)]) (h' := h) 1 rfl ?_
      refine wp_iaI hI hT1 rfl (by omega) (by omega) rfl (fun y5 b6 g7 => ?_)
      have b6 := rk_one b6
      refine wp_go (pc' := 19) (lv' := [(0, .ref a), (1, .int x)]) (st' := [.int y5]) (h' := h) 1 rfl ?_
      exact wp_ret rfl rfl ⟨rfl, _, rfl, trivial⟩
set_option maxRecDepth 100000 in
set_option maxHeartbeats 4000000 in
theorem ct_X1_storeWas {d a : Nat} {h : rk_S} (K : isK a) (hI : rk_Iv rk_Y h) (x : Int32) : rk_wp d rm_X1_storeWas 0 [(0, .ref a), (1, .int x)] [] h (fun v h' => h' = h ∧ ∃ y : Int32, v = some (.int y) ∧ True) := by
  obtain ⟨ha, hT0, hT1, hT2⟩ := K
  refine wp_go (pc' := 1) (lv' := [(0, .ref a), (1, .int x)]) (st' := [.int x]) (h' := h) 1 rfl ?_
  refine wp_if1 (tg := 19) rfl rfl (fun c1 => ?_) (fun c1 => ?_)
  · have q2 : x.toInt < 0 := of_decide_eq_true (p := x.toInt < 0) c1
    refine wp_go (pc' := 20) (lv' := [(0, .ref a), (1, .int x)]) (st' := [.int (Int32.ofInt 0)]) (h' := h) 1 rfl ?_
    exact wp_ret rfl rfl ⟨rfl, _, rfl, trivial⟩
  · have q2 : ¬ (x.toInt < 0) := of_decide_eq_false (p := x.toInt < 0) c1
    refine wp_go (pc' := 7) (lv' := [(0, .ref a), (1, .int x)]) (st' := [.int ((Int8.ofInt 16).toInt32), .int x]) (h' := h) 2 rfl ?_
    refine wp_if2 (tg := 19) rfl rfl (fun c3 => ?_) (fun c3 => ?_)
    · have q4 : (((Int8.ofInt 16).toInt32)).toInt ≤ x.toInt := of_decide_eq_true (p := (((Int8.ofInt 16).toInt32)).toInt ≤ x.toInt) c3
      rw [show (((Int8.ofInt 16).toInt32)).toInt = 16 by decide] at q4
      refine wp_go (pc' := 20) (lv' := [(0, .ref a), (1, .int x)]) (st' := [.int (Int32.ofInt 0)]) (h' := h) 1 rfl ?_
      exact wp_ret rfl rfl ⟨rfl, _, rfl, trivial⟩
    · have q4 : ¬ ((((Int8.ofInt 16).toInt32)).toInt ≤ x.toInt) := of_decide_eq_false (p := (((Int8.ofInt 16).toInt32)).toInt ≤ x.toInt) c3
      rw [show (((Int8.ofInt 16).toInt32)).toInt = 16 by decide] at q4
      refine wp_go (pc' := 11) (lv' := [(0, .ref a), (1, .int x)]) (st' := [.ref a]) (h' := h) 1 rfl ?_
      refine wp_gR hI hT0 rfl rfl rfl (by decide) rfl ?_
      refine wp_go (pc' := 15) (lv' := [(0, .ref a), (1, .int x)]) (st' := [.int x, .ref (a + 2)]) (h' := h) 1 rfl ?_
      refine wp_iaI hI hT2 rfl (by omega) (by omega) rfl (fun y5 b6 g7 => ?_)
      have b6 := rk_one b6
      refine wp_go (pc' := 20) (lv' := [(0, .ref a), (1, .int x)]) (st' := [.int y5]) (h' := h) 1 rfl ?_
      exact wp_ret rfl rfl ⟨rfl, _, rfl, trivial⟩
set_option maxRecDepth 100000 in
set_option maxHeartbeats 4000000 in
theorem ct_X1_numbersAreAlike {d a f : Nat} {h : rk_S} (K : isK a) (F : isF f) (hI : rk_Iv rk_Y h) : rk_wp (d + 1) rm_X1_numbersAreAlike 0 [(0, .ref a), (1, .ref f)] [] h (fun v h' => h' = h ∧ ∃ y : Int32, v = some (.int y) ∧ (y.toInt = 0 ∨ y.toInt = 1)) := by
  obtain ⟨ha, hT0, hT1, hT2⟩ := K
  obtain ⟨hf, hU0, hU1, hU2⟩ := id F
  refine wp_go (pc' := 2) (lv' := [(2, .int (Int32.ofInt 0)), (0, .ref a), (1, .ref f)]) (st' := []) (h' := h) 2 rfl ?_
  have loop1 : ∀ (n : Nat) (i3 : Int32), 0 ≤ i3.toInt → i3.toInt ≤ 3 → 3 - i3.toInt < n → rk_wp (d + 1) rm_X1_numbersAreAlike 2 [(2, .int i3), (0, .ref a), (1, .ref f)] [] h (fun v h' => h' = h ∧ ∃ y : Int32, v = some (.int y) ∧ (y.toInt = 0 ∨ y.toInt = 1)) := by
    intro n
    induction n with
    | zero => intro i3 l4 l5 l6; omega
    | succ n ih2 =>
      intro i3 l4 l5 l6
      refine wp_go (pc' := 4) (lv' := [(2, .int i3), (0, .ref a), (1, .ref f)]) (st' := [.int (Int32.ofInt 3), .int i3]) (h' := h) 2 rfl ?_
      refine wp_if2 (tg := 40) rfl rfl (fun c9 => ?_) (fun c9 => ?_)
      · have q10 : ((Int32.ofInt 3)).toInt ≤ i3.toInt := of_decide_eq_true (p := ((Int32.ofInt 3)).toInt ≤ i3.toInt) c9
        rw [show ((Int32.ofInt 3)).toInt = 3 by decide] at q10
        refine wp_go (pc' := 41) (lv' := [(2, .int i3), (0, .ref a), (1, .ref f)]) (st' := [.int (Int32.ofInt 1)]) (h' := h) 1 rfl ?_
        exact wp_ret rfl rfl ⟨rfl, _, rfl, by rw [show ((Int32.ofInt 1)).toInt = 1 by decide]; omega⟩
      · have q10 : ¬ (((Int32.ofInt 3)).toInt ≤ i3.toInt) := of_decide_eq_false (p := ((Int32.ofInt 3)).toInt ≤ i3.toInt) c9
        rw [show ((Int32.ofInt 3)).toInt = 3 by decide] at q10
        refine wp_go (pc' := 8) (lv' := [(2, .int i3), (0, .ref a), (1, .ref f)]) (st' := [.ref a]) (h' := h) 1 rfl ?_
        refine wp_gI hI hT0 rfl rfl rfl (by decide) rfl (fun y11 b12 g13 => ?_)
        have b12 := rk_one b12
        refine wp_go (pc' := 12) (lv' := [(2, .int i3), (0, .ref a), (1, .ref f)]) (st' := [.int i3, .int y11]) (h' := h) 1 rfl ?_
        refine wp_call (M' := rm_X7_isSet) (ar := ([.int y11, .int i3], [])) rfl rfl (by decide) (by decide) rfl rfl (ct_X7_isSet  y11 i3) (fun v hh r15 => ?_)
        obtain ⟨e16, y14, rfl, r15⟩ := r15
        rw [e16]
        show rk_wp _ _ 15 [(2, .int i3), (0, .ref a), (1, .ref f)] [.int y14] h _
        refine wp_if1 (tg := 34) rfl rfl (fun c17 => ?_) (fun c17 => ?_)
        · have q18 : y14.toInt = 0 := of_decide_eq_true (p := y14.toInt = 0) c17
          have t19 : (i3 + Int32.ofInt 1).toInt = i3.toInt + 1 := rk_addI (by decide) (by omega) (by omega)
          refine wp_go (pc' := 2) (lv' := [(2, .int (i3 + Int32.ofInt 1)), (0, .ref a), (1, .ref f)]) (st' := []) (h' := h) 2 rfl ?_
          exact ih2 (i3 + Int32.ofInt 1) (by omega) (by omega) (by omega)
        · have q18 : ¬ (y14.toInt = 0) := of_decide_eq_false (p := y14.toInt = 0) c17
          refine wp_go (pc' := 19) (lv' := [(2, .int i3), (0, .ref a), (1, .ref f)]) (st' := [.ref a]) (h' := h) 1 rfl ?_
          refine wp_gR hI hT0 rfl rfl rfl (by decide) rfl ?_
          refine wp_go (pc' := 23) (lv' := [(2, .int i3), (0, .ref a), (1, .ref f)]) (st' := [.int i3, .ref (a + 1)]) (h' := h) 1 rfl ?_
          refine wp_iaI hI hT1 rfl (by omega) (by omega) rfl (fun y20 b21 g22 => ?_)
          have b21 := rk_one b21
          refine wp_go (pc' := 26) (lv' := [(2, .int i3), (0, .ref a), (1, .ref f)]) (st' := [.int i3, .ref f, .int y20]) (h' := h) 2 rfl ?_
          refine wp_call (M' := rm_X0_numberOf) (ar := ([.ref f, .int i3], [.int y20])) rfl rfl (by decide) (by decide) rfl (rk_goT hI hU0 rfl rfl rfl rfl) (ct_X0_numberOf F hI i3) (fun v hh r24 => ?_)
          obtain ⟨e25, y23, rfl, r24⟩ := r24
          rw [e25]
          show rk_wp _ _ 29 [(2, .int i3), (0, .ref a), (1, .ref f)] [.int y23, .int y20] h _
          refine wp_if2 (tg := 34) rfl rfl (fun c26 => ?_) (fun c26 => ?_)
          · have q27 : y20.toInt = y23.toInt := of_decide_eq_true (p := y20.toInt = y23.toInt) c26
            have t28 : (i3 + Int32.ofInt 1).toInt = i3.toInt + 1 := rk_addI (by decide) (by omega) (by omega)
            refine wp_go (pc' := 2) (lv' := [(2, .int (i3 + Int32.ofInt 1)), (0, .ref a), (1, .ref f)]) (st' := []) (h' := h) 2 rfl ?_
            exact ih2 (i3 + Int32.ofInt 1) (by omega) (by omega) (by omega)
          · have q27 : ¬ (y20.toInt = y23.toInt) := of_decide_eq_false (p := y20.toInt = y23.toInt) c26
            refine wp_go (pc' := 33) (lv' := [(2, .int i3), (0, .ref a), (1, .ref f)]) (st' := [.int (Int32.ofInt 0)]) (h' := h) 1 rfl ?_
            exact wp_ret rfl rfl ⟨rfl, _, rfl, by rw [show ((Int32.ofInt 0)).toInt = 0 by decide]; omega⟩
  exact loop1 4 (Int32.ofInt 0) (by rw [show ((Int32.ofInt 0)).toInt = 0 by decide]; omega) (by rw [show ((Int32.ofInt 0)).toInt = 0 by decide]; omega) (by rw [show ((Int32.ofInt 0)).toInt = 0 by decide]; omega)
set_option maxRecDepth 100000 in
set_option maxHeartbeats 4000000 in
theorem ct_X1_storesAreAlike_18 {d a : Nat} {h : rk_S} (K : isK a) (hI : rk_Iv rk_Y h) : rk_wp (d + 1) rm_X1_storesAreAlike 0 [(0, .ref a), (1, .ref 18)] [] h (fun v h' => h' = h ∧ ∃ y : Int32, v = some (.int y) ∧ (y.toInt = 0 ∨ y.toInt = 1)) := by
  obtain ⟨ha, hT0, hT1, hT2⟩ := K
  refine wp_go (pc' := 2) (lv' := [(2, .int (Int32.ofInt 0)), (0, .ref a), (1, .ref 18)]) (st' := []) (h' := h) 2 rfl ?_
  have loop1 : ∀ (n : Nat) (i3 : Int32), 0 ≤ i3.toInt → i3.toInt ≤ 16 → 16 - i3.toInt < n → rk_wp (d + 1) rm_X1_storesAreAlike 2 [(2, .int i3), (0, .ref a), (1, .ref 18)] [] h (fun v h' => h' = h ∧ ∃ y : Int32, v = some (.int y) ∧ (y.toInt = 0 ∨ y.toInt = 1)) := by
    intro n
    induction n with
    | zero => intro i3 l4 l5 l6; omega
    | succ n ih2 =>
      intro i3 l4 l5 l6
      refine wp_go (pc' := 5) (lv' := [(2, .int i3), (0, .ref a), (1, .ref 18)]) (st' := [.int ((Int8.ofInt 16).toInt32), .int i3]) (h' := h) 2 rfl ?_
      refine wp_if2 (tg := 50) rfl rfl (fun c9 => ?_) (fun c9 => ?_)
      · have q10 : (((Int8.ofInt 16).toInt32)).toInt ≤ i3.toInt := of_decide_eq_true (p := (((Int8.ofInt 16).toInt32)).toInt ≤ i3.toInt) c9
        rw [show (((Int8.ofInt 16).toInt32)).toInt = 16 by decide] at q10
        refine wp_go (pc' := 51) (lv' := [(2, .int i3), (0, .ref a), (1, .ref 18)]) (st' := [.int (Int32.ofInt 1)]) (h' := h) 1 rfl ?_
        exact wp_ret rfl rfl ⟨rfl, _, rfl, by rw [show ((Int32.ofInt 1)).toInt = 1 by decide]; omega⟩
      · have q10 : ¬ ((((Int8.ofInt 16).toInt32)).toInt ≤ i3.toInt) := of_decide_eq_false (p := (((Int8.ofInt 16).toInt32)).toInt ≤ i3.toInt) c9
        rw [show (((Int8.ofInt 16).toInt32)).toInt = 16 by decide] at q10
        refine wp_go (pc' := 9) (lv' := [(2, .int i3), (0, .ref a), (1, .ref 18)]) (st' := [.ref a]) (h' := h) 1 rfl ?_
        refine wp_gI hI hT0 rfl rfl rfl (by decide) rfl (fun y11 b12 g13 => ?_)
        have b12 := rk_one b12
        refine wp_go (pc' := 14) (lv' := [(2, .int i3), (0, .ref a), (1, .ref 18)]) (st' := [.int (y11 >>> (i3 &&& 31))]) (h' := h) 2 rfl ?_
        refine wp_if1 (tg := 50) rfl rfl (fun c14 => ?_) (fun c14 => ?_)
        · have q15 : (y11 >>> (i3 &&& 31)).toInt = 0 := of_decide_eq_true (p := (y11 >>> (i3 &&& 31)).toInt = 0) c14
          refine wp_go (pc' := 51) (lv' := [(2, .int i3), (0, .ref a), (1, .ref 18)]) (st' := [.int (Int32.ofInt 1)]) (h' := h) 1 rfl ?_
          exact wp_ret rfl rfl ⟨rfl, _, rfl, by rw [show ((Int32.ofInt 1)).toInt = 1 by decide]; omega⟩
        · have q15 : ¬ ((y11 >>> (i3 &&& 31)).toInt = 0) := of_decide_eq_false (p := (y11 >>> (i3 &&& 31)).toInt = 0) c14
          refine wp_go (pc' := 18) (lv' := [(2, .int i3), (0, .ref a), (1, .ref 18)]) (st' := [.ref a]) (h' := h) 1 rfl ?_
          refine wp_gK hI hT0 rfl rfl rfl g13 ?_
          refine wp_go (pc' := 22) (lv' := [(2, .int i3), (0, .ref a), (1, .ref 18)]) (st' := [.int i3, .int y11]) (h' := h) 1 rfl ?_
          refine wp_call (M' := rm_X7_isSet) (ar := ([.int y11, .int i3], [])) rfl rfl (by decide) (by decide) rfl rfl (ct_X7_isSet  y11 i3) (fun v hh r17 => ?_)
          obtain ⟨e18, y16, rfl, r17⟩ := r17
          rw [e18]
          show rk_wp _ _ 25 [(2, .int i3), (0, .ref a), (1, .ref 18)] [.int y16] h _
          refine wp_if1 (tg := 44) rfl rfl (fun c19 => ?_) (fun c19 => ?_)
          · have q20 : y16.toInt = 0 := of_decide_eq_true (p := y16.toInt = 0) c19
            have t21 : (i3 + Int32.ofInt 1).toInt = i3.toInt + 1 := rk_addI (by decide) (by omega) (by omega)
            refine wp_go (pc' := 2) (lv' := [(2, .int (i3 + Int32.ofInt 1)), (0, .ref a), (1, .ref 18)]) (st' := []) (h' := h) 2 rfl ?_
            exact ih2 (i3 + Int32.ofInt 1) (by omega) (by omega) (by omega)
          · have q20 : ¬ (y16.toInt = 0) := of_decide_eq_false (p := y16.toInt = 0) c19
            refine wp_go (pc' := 29) (lv' := [(2, .int i3), (0, .ref a), (1, .ref 18)]) (st' := [.ref a]) (h' := h) 1 rfl ?_
            refine wp_gR hI hT0 rfl rfl rfl (by decide) rfl ?_
            refine wp_go (pc' := 33) (lv' := [(2, .int i3), (0, .ref a), (1, .ref 18)]) (st' := [.int i3, .ref (a + 2)]) (h' := h) 1 rfl ?_
            refine wp_iaI hI hT2 rfl (by omega) (by omega) rfl (fun y22 b23 g24 => ?_)
            have b23 := rk_one b23
            refine wp_go (pc' := 36) (lv' := [(2, .int i3), (0, .ref a), (1, .ref 18)]) (st' := [.int i3, .ref 18, .int y22]) (h' := h) 2 rfl ?_
            refine wp_call (M' := rm_X6_valueOf) (ar := ([.ref 18, .int i3], [.int y22])) rfl rfl (by decide) (by decide) rfl (rk_goT hI (show rk_Y 18 = some (6, 2, rk_slot [.inr [19], rk_any]) from rfl) rfl rfl rfl rfl) (ct_X6_valueOf_18  hI i3) (fun v hh r26 => ?_)
            obtain ⟨e27, y25, rfl, r26⟩ := r26
            rw [e27]
            show rk_wp _ _ 39 [(2, .int i3), (0, .ref a), (1, .ref 18)] [.int y25, .int y22] h _
            refine wp_if2 (tg := 44) rfl rfl (fun c28 => ?_) (fun c28 => ?_)
            · have q29 : y22.toInt = y25.toInt := of_decide_eq_true (p := y22.toInt = y25.toInt) c28
              have t30 : (i3 + Int32.ofInt 1).toInt = i3.toInt + 1 := rk_addI (by decide) (by omega) (by omega)
              refine wp_go (pc' := 2) (lv' := [(2, .int (i3 + Int32.ofInt 1)), (0, .ref a), (1, .ref 18)]) (st' := []) (h' := h) 2 rfl ?_
              exact ih2 (i3 + Int32.ofInt 1) (by omega) (by omega) (by omega)
            · have q29 : ¬ (y22.toInt = y25.toInt) := of_decide_eq_false (p := y22.toInt = y25.toInt) c28
              refine wp_go (pc' := 43) (lv' := [(2, .int i3), (0, .ref a), (1, .ref 18)]) (st' := [.int (Int32.ofInt 0)]) (h' := h) 1 rfl ?_
              exact wp_ret rfl rfl ⟨rfl, _, rfl, by rw [show ((Int32.ofInt 0)).toInt = 0 by decide]; omega⟩
  exact loop1 17 (Int32.ofInt 0) (by rw [show ((Int32.ofInt 0)).toInt = 0 by decide]; omega) (by rw [show ((Int32.ofInt 0)).toInt = 0 by decide]; omega) (by rw [show ((Int32.ofInt 0)).toInt = 0 by decide]; omega)
set_option maxRecDepth 100000 in
set_option maxHeartbeats 4000000 in
theorem ct_X1_storesAreAlike_156 {d a : Nat} {h : rk_S} (K : isK a) (hI : rk_Iv rk_Y h) : rk_wp (d + 1) rm_X1_storesAreAlike 0 [(0, .ref a), (1, .ref 156)] [] h (fun v h' => h' = h ∧ ∃ y : Int32, v = some (.int y) ∧ (y.toInt = 0 ∨ y.toInt = 1)) := by
  obtain ⟨ha, hT0, hT1, hT2⟩ := K
  refine wp_go (pc' := 2) (lv' := [(2, .int (Int32.ofInt 0)), (0, .ref a), (1, .ref 156)]) (st' := []) (h' := h) 2 rfl ?_
  have loop1 : ∀ (n : Nat) (i3 : Int32), 0 ≤ i3.toInt → i3.toInt ≤ 16 → 16 - i3.toInt < n → rk_wp (d + 1) rm_X1_storesAreAlike 2 [(2, .int i3), (0, .ref a), (1, .ref 156)] [] h (fun v h' => h' = h ∧ ∃ y : Int32, v = some (.int y) ∧ (y.toInt = 0 ∨ y.toInt = 1)) := by
    intro n
    induction n with
    | zero => intro i3 l4 l5 l6; omega
    | succ n ih2 =>
      intro i3 l4 l5 l6
      refine wp_go (pc' := 5) (lv' := [(2, .int i3), (0, .ref a), (1, .ref 156)]) (st' := [.int ((Int8.ofInt 16).toInt32), .int i3]) (h' := h) 2 rfl ?_
      refine wp_if2 (tg := 50) rfl rfl (fun c9 => ?_) (fun c9 => ?_)
      · have q10 : (((Int8.ofInt 16).toInt32)).toInt ≤ i3.toInt := of_decide_eq_true (p := (((Int8.ofInt 16).toInt32)).toInt ≤ i3.toInt) c9
        rw [show (((Int8.ofInt 16).toInt32)).toInt = 16 by decide] at q10
        refine wp_go (pc' := 51) (lv' := [(2, .int i3), (0, .ref a), (1, .ref 156)]) (st' := [.int (Int32.ofInt 1)]) (h' := h) 1 rfl ?_
        exact wp_ret rfl rfl ⟨rfl, _, rfl, by rw [show ((Int32.ofInt 1)).toInt = 1 by decide]; omega⟩
      · have q10 : ¬ ((((Int8.ofInt 16).toInt32)).toInt ≤ i3.toInt) := of_decide_eq_false (p := (((Int8.ofInt 16).toInt32)).toInt ≤ i3.toInt) c9
        rw [show (((Int8.ofInt 16).toInt32)).toInt = 16 by decide] at q10
        refine wp_go (pc' := 9) (lv' := [(2, .int i3), (0, .ref a), (1, .ref 156)]) (st' := [.ref a]) (h' := h) 1 rfl ?_
        refine wp_gI hI hT0 rfl rfl rfl (by decide) rfl (fun y11 b12 g13 => ?_)
        have b12 := rk_one b12
        refine wp_go (pc' := 14) (lv' := [(2, .int i3), (0, .ref a), (1, .ref 156)]) (st' := [.int (y11 >>> (i3 &&& 31))]) (h' := h) 2 rfl ?_
        refine wp_if1 (tg := 50) rfl rfl (fun c14 => ?_) (fun c14 => ?_)
        · have q15 : (y11 >>> (i3 &&& 31)).toInt = 0 := of_decide_eq_true (p := (y11 >>> (i3 &&& 31)).toInt = 0) c14
          refine wp_go (pc' := 51) (lv' := [(2, .int i3), (0, .ref a), (1, .ref 156)]) (st' := [.int (Int32.ofInt 1)]) (h' := h) 1 rfl ?_
          exact wp_ret rfl rfl ⟨rfl, _, rfl, by rw [show ((Int32.ofInt 1)).toInt = 1 by decide]; omega⟩
        · have q15 : ¬ ((y11 >>> (i3 &&& 31)).toInt = 0) := of_decide_eq_false (p := (y11 >>> (i3 &&& 31)).toInt = 0) c14
          refine wp_go (pc' := 18) (lv' := [(2, .int i3), (0, .ref a), (1, .ref 156)]) (st' := [.ref a]) (h' := h) 1 rfl ?_
          refine wp_gK hI hT0 rfl rfl rfl g13 ?_
          refine wp_go (pc' := 22) (lv' := [(2, .int i3), (0, .ref a), (1, .ref 156)]) (st' := [.int i3, .int y11]) (h' := h) 1 rfl ?_
          refine wp_call (M' := rm_X7_isSet) (ar := ([.int y11, .int i3], [])) rfl rfl (by decide) (by decide) rfl rfl (ct_X7_isSet  y11 i3) (fun v hh r17 => ?_)
          obtain ⟨e18, y16, rfl, r17⟩ := r17
          rw [e18]
          show rk_wp _ _ 25 [(2, .int i3), (0, .ref a), (1, .ref 156)] [.int y16] h _
          refine wp_if1 (tg := 44) rfl rfl (fun c19 => ?_) (fun c19 => ?_)
          · have q20 : y16.toInt = 0 := of_decide_eq_true (p := y16.toInt = 0) c19
            have t21 : (i3 + Int32.ofInt 1).toInt = i3.toInt + 1 := rk_addI (by decide) (by omega) (by omega)
            refine wp_go (pc' := 2) (lv' := [(2, .int (i3 + Int32.ofInt 1)), (0, .ref a), (1, .ref 156)]) (st' := []) (h' := h) 2 rfl ?_
            exact ih2 (i3 + Int32.ofInt 1) (by omega) (by omega) (by omega)
          · have q20 : ¬ (y16.toInt = 0) := of_decide_eq_false (p := y16.toInt = 0) c19
            refine wp_go (pc' := 29) (lv' := [(2, .int i3), (0, .ref a), (1, .ref 156)]) (st' := [.ref a]) (h' := h) 1 rfl ?_
            refine wp_gR hI hT0 rfl rfl rfl (by decide) rfl ?_
            refine wp_go (pc' := 33) (lv' := [(2, .int i3), (0, .ref a), (1, .ref 156)]) (st' := [.int i3, .ref (a + 2)]) (h' := h) 1 rfl ?_
            refine wp_iaI hI hT2 rfl (by omega) (by omega) rfl (fun y22 b23 g24 => ?_)
            have b23 := rk_one b23
            refine wp_go (pc' := 36) (lv' := [(2, .int i3), (0, .ref a), (1, .ref 156)]) (st' := [.int i3, .ref 156, .int y22]) (h' := h) 2 rfl ?_
            refine wp_call (M' := rm_X6_valueOf) (ar := ([.ref 156, .int i3], [.int y22])) rfl rfl (by decide) (by decide) rfl (rk_goT hI (show rk_Y 156 = some (6, 2, rk_slot [.inr [157], rk_any]) from rfl) rfl rfl rfl rfl) (ct_X6_valueOf_156  hI i3) (fun v hh r26 => ?_)
            obtain ⟨e27, y25, rfl, r26⟩ := r26
            rw [e27]
            show rk_wp _ _ 39 [(2, .int i3), (0, .ref a), (1, .ref 156)] [.int y25, .int y22] h _
            refine wp_if2 (tg := 44) rfl rfl (fun c28 => ?_) (fun c28 => ?_)
            · have q29 : y22.toInt = y25.toInt := of_decide_eq_true (p := y22.toInt = y25.toInt) c28
              have t30 : (i3 + Int32.ofInt 1).toInt = i3.toInt + 1 := rk_addI (by decide) (by omega) (by omega)
              refine wp_go (pc' := 2) (lv' := [(2, .int (i3 + Int32.ofInt 1)), (0, .ref a), (1, .ref 156)]) (st' := []) (h' := h) 2 rfl ?_
              exact ih2 (i3 + Int32.ofInt 1) (by omega) (by omega) (by omega)
            · have q29 : ¬ (y22.toInt = y25.toInt) := of_decide_eq_false (p := y22.toInt = y25.toInt) c28
              refine wp_go (pc' := 43) (lv' := [(2, .int i3), (0, .ref a), (1, .ref 156)]) (st' := [.int (Int32.ofInt 0)]) (h' := h) 1 rfl ?_
              exact wp_ret rfl rfl ⟨rfl, _, rfl, by rw [show ((Int32.ofInt 0)).toInt = 0 by decide]; omega⟩
  exact loop1 17 (Int32.ofInt 0) (by rw [show ((Int32.ofInt 0)).toInt = 0 by decide]; omega) (by rw [show ((Int32.ofInt 0)).toInt = 0 by decide]; omega) (by rw [show ((Int32.ofInt 0)).toInt = 0 by decide]; omega)
