set_option maxRecDepth 100000 in
set_option maxHeartbeats 4000000 in
theorem cs_code_n (a b : Int32) (ha : a.toInt < 0) : rk_ok2 rm_X7_code rm_X8_code [.int a, .int b] := by
  refine ⟨(Int32.ofInt (-1)), rk_HM, rk_HM, ?_, ?_⟩
  · show rk_ev _ _ 0 [(0, .ref 1), (1, .int a), (2, .int b)] [] _ _
    refine ev_go (pc' := 5) (lv' := [(0, .ref 1), (1, .int a), (2, .int b)]) (st' := [.int a, .ref 2]) (h' := rk_HM) 3 rfl ?_
    refine ev_call (M' := rm_X3_hasRoutine) (ar := ([.ref 2, .int a], [])) (o' := (some (.int (Int32.ofInt 0)), rk_HM)) rfl rfl (by decide) (by decide) rfl rfl ?_ ?_
    · show rk_ev _ _ 0 [(0, .ref 2), (1, .int a)] [] _ _
      refine ev_go (pc' := 1) (lv' := [(0, .ref 2), (1, .int a)]) (st' := [.int a]) (h' := rk_HM) 1 rfl ?_
      refine ev_if1 (tg := 16) rfl rfl true (rk_cz (c := 0) (by decide +kernel) (decide_eq_true (by omega))) ?_
      show rk_ev _ _ 16 _ _ _ _
      refine ev_go (pc' := 17) (lv' := [(0, .ref 2), (1, .int a)]) (st' := [.int (Int32.ofInt 0)]) (h' := rk_HM) 1 rfl ?_
      exact ev_ret rfl rfl
    show rk_ev _ _ 8 [(0, .ref 1), (1, .int a), (2, .int b)] [.int (Int32.ofInt 0)] rk_HM _
    refine ev_if1 (tg := 13) rfl rfl false (by decide +kernel) ?_
    show rk_ev _ _ 11 _ _ _ _
    refine ev_go (pc' := 12) (lv' := [(0, .ref 1), (1, .int a), (2, .int b)]) (st' := [.int (Int32.ofInt (-1))]) (h' := rk_HM) 1 rfl ?_
    exact ev_ret rfl rfl
  · show rk_ev _ _ 0 [(0, .ref 316), (1, .int a), (2, .int b)] [] _ (some (.int (Int32.ofInt (-1))), _)
    refine ev_go (pc' := 2) (lv' := [(0, .ref 316), (1, .int a), (2, .int b)]) (st' := [.int a, .ref 316]) (h' := rk_HM) 2 rfl ?_
    refine ev_call (M' := rm_X8_isRoutine) (ar := ([.ref 316, .int a], [])) (o' := (some (.int (Int32.ofInt 0)), rk_HM)) rfl rfl (by decide) (by decide) rfl rfl ?_ ?_
    · show rk_ev _ _ 0 [(0, .ref 316), (1, .int a)] [] _ _
      refine ev_go (pc' := 8) (lv' := [(0, .ref 316), (1, .int a)]) (st' := [.int (0 - (Int32.ofInt 1)), .int (Int32.ofInt 0), .int a]) (h' := rk_HM) 6 rfl ?_
      refine ev_call (M' := rm_X8_in) (ar := ([.int a, .int (Int32.ofInt 0), .int (0 - (Int32.ofInt 1))], [])) (o' := (some (.int (Int32.ofInt 0)), rk_HM)) rfl rfl (by decide) (by decide) rfl rfl ?_ ?_
      · show rk_ev _ _ 0 [(0, .int a), (1, .int (Int32.ofInt 0)), (2, .int (0 - (Int32.ofInt 1)))] [] _ _
        refine ev_go (pc' := 2) (lv' := [(0, .int a), (1, .int (Int32.ofInt 0)), (2, .int (0 - (Int32.ofInt 1)))]) (st' := [.int (Int32.ofInt 0), .int a]) (h' := rk_HM) 2 rfl ?_
        refine ev_if2 (tg := 14) rfl rfl true (rk_cz (c := 0) (by decide +kernel) (decide_eq_true (by omega))) ?_
        show rk_ev _ _ 14 _ _ _ _
        refine ev_go (pc' := 15) (lv' := [(0, .int a), (1, .int (Int32.ofInt 0)), (2, .int (0 - (Int32.ofInt 1)))]) (st' := [.int (Int32.ofInt 0)]) (h' := rk_HM) 1 rfl ?_
        exact ev_ret rfl rfl
      show rk_ev _ _ 11 [(0, .ref 316), (1, .int a)] [.int (Int32.ofInt 0)] rk_HM _
      exact ev_ret rfl rfl
    show rk_ev _ _ 5 [(0, .ref 316), (1, .int a), (2, .int b)] [.int (Int32.ofInt 0)] rk_HM _
    refine ev_if1 (tg := 10) rfl rfl false (by decide +kernel) ?_
    show rk_ev _ _ 8 _ _ _ _
    refine ev_go (pc' := 9) (lv' := [(0, .ref 316), (1, .int a), (2, .int b)]) (st' := [.int (Int32.ofInt (-1))]) (h' := rk_HM) 1 rfl ?_
    exact ev_ret rfl rfl
set_option maxRecDepth 100000 in
set_option maxHeartbeats 4000000 in
theorem cs_code_p (a b : Int32) (ha : 0 ≤ a.toInt) : rk_ok2 rm_X7_code rm_X8_code [.int a, .int b] := by
  refine ⟨(Int32.ofInt (-1)), rk_HM, rk_HM, ?_, ?_⟩
  · show rk_ev _ _ 0 [(0, .ref 1), (1, .int a), (2, .int b)] [] _ _
    refine ev_go (pc' := 5) (lv' := [(0, .ref 1), (1, .int a), (2, .int b)]) (st' := [.int a, .ref 2]) (h' := rk_HM) 3 rfl ?_
    refine ev_call (M' := rm_X3_hasRoutine) (ar := ([.ref 2, .int a], [])) (o' := (some (.int (Int32.ofInt 0)), rk_HM)) rfl rfl (by decide) (by decide) rfl rfl ?_ ?_
    · show rk_ev _ _ 0 [(0, .ref 2), (1, .int a)] [] _ _
      refine ev_go (pc' := 1) (lv' := [(0, .ref 2), (1, .int a)]) (st' := [.int a]) (h' := rk_HM) 1 rfl ?_
      refine ev_if1 (tg := 16) rfl rfl false (rk_cz (c := 0) (by decide +kernel) (decide_eq_false (by omega))) ?_
      show rk_ev _ _ 4 _ _ _ _
      refine ev_go (pc' := 9) (lv' := [(0, .ref 2), (1, .int a)]) (st' := [.int 0, .int a]) (h' := rk_HM) 3 rfl ?_
      refine ev_if2 (tg := 16) rfl rfl true (rk_cz (c := 0) (by decide +kernel) (decide_eq_true (by omega))) ?_
      show rk_ev _ _ 16 _ _ _ _
      refine ev_go (pc' := 17) (lv' := [(0, .ref 2), (1, .int a)]) (st' := [.int (Int32.ofInt 0)]) (h' := rk_HM) 1 rfl ?_
      exact ev_ret rfl rfl
    show rk_ev _ _ 8 [(0, .ref 1), (1, .int a), (2, .int b)] [.int (Int32.ofInt 0)] rk_HM _
    refine ev_if1 (tg := 13) rfl rfl false (by decide +kernel) ?_
    show rk_ev _ _ 11 _ _ _ _
    refine ev_go (pc' := 12) (lv' := [(0, .ref 1), (1, .int a), (2, .int b)]) (st' := [.int (Int32.ofInt (-1))]) (h' := rk_HM) 1 rfl ?_
    exact ev_ret rfl rfl
  · show rk_ev _ _ 0 [(0, .ref 316), (1, .int a), (2, .int b)] [] _ (some (.int (Int32.ofInt (-1))), _)
    refine ev_go (pc' := 2) (lv' := [(0, .ref 316), (1, .int a), (2, .int b)]) (st' := [.int a, .ref 316]) (h' := rk_HM) 2 rfl ?_
    refine ev_call (M' := rm_X8_isRoutine) (ar := ([.ref 316, .int a], [])) (o' := (some (.int (Int32.ofInt 0)), rk_HM)) rfl rfl (by decide) (by decide) rfl rfl ?_ ?_
    · show rk_ev _ _ 0 [(0, .ref 316), (1, .int a)] [] _ _
      refine ev_go (pc' := 8) (lv' := [(0, .ref 316), (1, .int a)]) (st' := [.int (0 - (Int32.ofInt 1)), .int (Int32.ofInt 0), .int a]) (h' := rk_HM) 6 rfl ?_
      refine ev_call (M' := rm_X8_in) (ar := ([.int a, .int (Int32.ofInt 0), .int (0 - (Int32.ofInt 1))], [])) (o' := (some (.int (Int32.ofInt 0)), rk_HM)) rfl rfl (by decide) (by decide) rfl rfl ?_ ?_
      · show rk_ev _ _ 0 [(0, .int a), (1, .int (Int32.ofInt 0)), (2, .int (0 - (Int32.ofInt 1)))] [] _ _
        refine ev_go (pc' := 2) (lv' := [(0, .int a), (1, .int (Int32.ofInt 0)), (2, .int (0 - (Int32.ofInt 1)))]) (st' := [.int (Int32.ofInt 0), .int a]) (h' := rk_HM) 2 rfl ?_
        refine ev_if2 (tg := 14) rfl rfl false (rk_cz (c := 0) (by decide +kernel) (decide_eq_false (by omega))) ?_
        show rk_ev _ _ 5 _ _ _ _
        refine ev_go (pc' := 7) (lv' := [(0, .int a), (1, .int (Int32.ofInt 0)), (2, .int (0 - (Int32.ofInt 1)))]) (st' := [.int (0 - (Int32.ofInt 1)), .int a]) (h' := rk_HM) 2 rfl ?_
        refine ev_if2 (tg := 14) rfl rfl true (rk_cz (c := -1) (by decide +kernel) (decide_eq_true (by omega))) ?_
        show rk_ev _ _ 14 _ _ _ _
        refine ev_go (pc' := 15) (lv' := [(0, .int a), (1, .int (Int32.ofInt 0)), (2, .int (0 - (Int32.ofInt 1)))]) (st' := [.int (Int32.ofInt 0)]) (h' := rk_HM) 1 rfl ?_
        exact ev_ret rfl rfl
      show rk_ev _ _ 11 [(0, .ref 316), (1, .int a)] [.int (Int32.ofInt 0)] rk_HM _
      exact ev_ret rfl rfl
    show rk_ev _ _ 5 [(0, .ref 316), (1, .int a), (2, .int b)] [.int (Int32.ofInt 0)] rk_HM _
    refine ev_if1 (tg := 10) rfl rfl false (by decide +kernel) ?_
    show rk_ev _ _ 8 _ _ _ _
    refine ev_go (pc' := 9) (lv' := [(0, .ref 316), (1, .int a), (2, .int b)]) (st' := [.int (Int32.ofInt (-1))]) (h' := rk_HM) 1 rfl ?_
    exact ev_ret rfl rfl
set_option maxRecDepth 100000 in
set_option maxHeartbeats 4000000 in
theorem cs_codeAt_n (a b : Int32) (ha : a.toInt < 0) : rk_ok2 rm_X7_codeAt rm_X8_codeAt [.int a, .int b] := by
  refine ⟨(Int32.ofInt (-1)), rk_HM, rk_HM, ?_, ?_⟩
  · show rk_ev _ _ 0 [(0, .ref 1), (1, .int a), (2, .int b)] [] _ _
    refine ev_go (pc' := 5) (lv' := [(0, .ref 1), (1, .int a), (2, .int b)]) (st' := [.int a, .ref 2]) (h' := rk_HM) 3 rfl ?_
    refine ev_call (M' := rm_X3_hasRoutine) (ar := ([.ref 2, .int a], [])) (o' := (some (.int (Int32.ofInt 0)), rk_HM)) rfl rfl (by decide) (by decide) rfl rfl ?_ ?_
    · show rk_ev _ _ 0 [(0, .ref 2), (1, .int a)] [] _ _
      refine ev_go (pc' := 1) (lv' := [(0, .ref 2), (1, .int a)]) (st' := [.int a]) (h' := rk_HM) 1 rfl ?_
      refine ev_if1 (tg := 16) rfl rfl true (rk_cz (c := 0) (by decide +kernel) (decide_eq_true (by omega))) ?_
      show rk_ev _ _ 16 _ _ _ _
      refine ev_go (pc' := 17) (lv' := [(0, .ref 2), (1, .int a)]) (st' := [.int (Int32.ofInt 0)]) (h' := rk_HM) 1 rfl ?_
      exact ev_ret rfl rfl
    show rk_ev _ _ 8 [(0, .ref 1), (1, .int a), (2, .int b)] [.int (Int32.ofInt 0)] rk_HM _
    refine ev_if1 (tg := 13) rfl rfl false (by decide +kernel) ?_
    show rk_ev _ _ 11 _ _ _ _
    refine ev_go (pc' := 12) (lv' := [(0, .ref 1), (1, .int a), (2, .int b)]) (st' := [.int (Int32.ofInt (-1))]) (h' := rk_HM) 1 rfl ?_
    exact ev_ret rfl rfl
  · show rk_ev _ _ 0 [(0, .ref 316), (1, .int a), (2, .int b)] [] _ (some (.int (Int32.ofInt (-1))), _)
    refine ev_go (pc' := 2) (lv' := [(0, .ref 316), (1, .int a), (2, .int b)]) (st' := [.int a, .ref 316]) (h' := rk_HM) 2 rfl ?_
    refine ev_call (M' := rm_X8_isRoutine) (ar := ([.ref 316, .int a], [])) (o' := (some (.int (Int32.ofInt 0)), rk_HM)) rfl rfl (by decide) (by decide) rfl rfl ?_ ?_
    · show rk_ev _ _ 0 [(0, .ref 316), (1, .int a)] [] _ _
      refine ev_go (pc' := 8) (lv' := [(0, .ref 316), (1, .int a)]) (st' := [.int (0 - (Int32.ofInt 1)), .int (Int32.ofInt 0), .int a]) (h' := rk_HM) 6 rfl ?_
      refine ev_call (M' := rm_X8_in) (ar := ([.int a, .int (Int32.ofInt 0), .int (0 - (Int32.ofInt 1))], [])) (o' := (some (.int (Int32.ofInt 0)), rk_HM)) rfl rfl (by decide) (by decide) rfl rfl ?_ ?_
      · show rk_ev _ _ 0 [(0, .int a), (1, .int (Int32.ofInt 0)), (2, .int (0 - (Int32.ofInt 1)))] [] _ _
        refine ev_go (pc' := 2) (lv' := [(0, .int a), (1, .int (Int32.ofInt 0)), (2, .int (0 - (Int32.ofInt 1)))]) (st' := [.int (Int32.ofInt 0), .int a]) (h' := rk_HM) 2 rfl ?_
        refine ev_if2 (tg := 14) rfl rfl true (rk_cz (c := 0) (by decide +kernel) (decide_eq_true (by omega))) ?_
        show rk_ev _ _ 14 _ _ _ _
        refine ev_go (pc' := 15) (lv' := [(0, .int a), (1, .int (Int32.ofInt 0)), (2, .int (0 - (Int32.ofInt 1)))]) (st' := [.int (Int32.ofInt 0)]) (h' := rk_HM) 1 rfl ?_
        exact ev_ret rfl rfl
      show rk_ev _ _ 11 [(0, .ref 316), (1, .int a)] [.int (Int32.ofInt 0)] rk_HM _
      exact ev_ret rfl rfl
    show rk_ev _ _ 5 [(0, .ref 316), (1, .int a), (2, .int b)] [.int (Int32.ofInt 0)] rk_HM _
    refine ev_if1 (tg := 12) rfl rfl false (by decide +kernel) ?_
    show rk_ev _ _ 8 _ _ _ _
    refine ev_go (pc' := 44) (lv' := [(0, .ref 316), (1, .int a), (2, .int b)]) (st' := [.int (Int32.ofInt (-1))]) (h' := rk_HM) 2 rfl ?_
    exact ev_ret rfl rfl
set_option maxRecDepth 100000 in
set_option maxHeartbeats 4000000 in
theorem cs_codeAt_p (a b : Int32) (ha : 0 ≤ a.toInt) : rk_ok2 rm_X7_codeAt rm_X8_codeAt [.int a, .int b] := by
  refine ⟨(Int32.ofInt (-1)), rk_HM, rk_HM, ?_, ?_⟩
  · show rk_ev _ _ 0 [(0, .ref 1), (1, .int a), (2, .int b)] [] _ _
    refine ev_go (pc' := 5) (lv' := [(0, .ref 1), (1, .int a), (2, .int b)]) (st' := [.int a, .ref 2]) (h' := rk_HM) 3 rfl ?_
    refine ev_call (M' := rm_X3_hasRoutine) (ar := ([.ref 2, .int a], [])) (o' := (some (.int (Int32.ofInt 0)), rk_HM)) rfl rfl (by decide) (by decide) rfl rfl ?_ ?_
    · show rk_ev _ _ 0 [(0, .ref 2), (1, .int a)] [] _ _
      refine ev_go (pc' := 1) (lv' := [(0, .ref 2), (1, .int a)]) (st' := [.int a]) (h' := rk_HM) 1 rfl ?_
      refine ev_if1 (tg := 16) rfl rfl false (rk_cz (c := 0) (by decide +kernel) (decide_eq_false (by omega))) ?_
      show rk_ev _ _ 4 _ _ _ _
      refine ev_go (pc' := 9) (lv' := [(0, .ref 2), (1, .int a)]) (st' := [.int 0, .int a]) (h' := rk_HM) 3 rfl ?_
      refine ev_if2 (tg := 16) rfl rfl true (rk_cz (c := 0) (by decide +kernel) (decide_eq_true (by omega))) ?_
      show rk_ev _ _ 16 _ _ _ _
      refine ev_go (pc' := 17) (lv' := [(0, .ref 2), (1, .int a)]) (st' := [.int (Int32.ofInt 0)]) (h' := rk_HM) 1 rfl ?_
      exact ev_ret rfl rfl
    show rk_ev _ _ 8 [(0, .ref 1), (1, .int a), (2, .int b)] [.int (Int32.ofInt 0)] rk_HM _
    refine ev_if1 (tg := 13) rfl rfl false (by decide +kernel) ?_
    show rk_ev _ _ 11 _ _ _ _
    refine ev_go (pc' := 12) (lv' := [(0, .ref 1), (1, .int a), (2, .int b)]) (st' := [.int (Int32.ofInt (-1))]) (h' := rk_HM) 1 rfl ?_
    exact ev_ret rfl rfl
  · show rk_ev _ _ 0 [(0, .ref 316), (1, .int a), (2, .int b)] [] _ (some (.int (Int32.ofInt (-1))), _)
    refine ev_go (pc' := 2) (lv' := [(0, .ref 316), (1, .int a), (2, .int b)]) (st' := [.int a, .ref 316]) (h' := rk_HM) 2 rfl ?_
    refine ev_call (M' := rm_X8_isRoutine) (ar := ([.ref 316, .int a], [])) (o' := (some (.int (Int32.ofInt 0)), rk_HM)) rfl rfl (by decide) (by decide) rfl rfl ?_ ?_
    · show rk_ev _ _ 0 [(0, .ref 316), (1, .int a)] [] _ _
      refine ev_go (pc' := 8) (lv' := [(0, .ref 316), (1, .int a)]) (st' := [.int (0 - (Int32.ofInt 1)), .int (Int32.ofInt 0), .int a]) (h' := rk_HM) 6 rfl ?_
      refine ev_call (M' := rm_X8_in) (ar := ([.int a, .int (Int32.ofInt 0), .int (0 - (Int32.ofInt 1))], [])) (o' := (some (.int (Int32.ofInt 0)), rk_HM)) rfl rfl (by decide) (by decide) rfl rfl ?_ ?_
      · show rk_ev _ _ 0 [(0, .int a), (1, .int (Int32.ofInt 0)), (2, .int (0 - (Int32.ofInt 1)))] [] _ _
        refine ev_go (pc' := 2) (lv' := [(0, .int a), (1, .int (Int32.ofInt 0)), (2, .int (0 - (Int32.ofInt 1)))]) (st' := [.int (Int32.ofInt 0), .int a]) (h' := rk_HM) 2 rfl ?_
        refine ev_if2 (tg := 14) rfl rfl false (rk_cz (c := 0) (by decide +kernel) (decide_eq_false (by omega))) ?_
        show rk_ev _ _ 5 _ _ _ _
        refine ev_go (pc' := 7) (lv' := [(0, .int a), (1, .int (Int32.ofInt 0)), (2, .int (0 - (Int32.ofInt 1)))]) (st' := [.int (0 - (Int32.ofInt 1)), .int a]) (h' := rk_HM) 2 rfl ?_
        refine ev_if2 (tg := 14) rfl rfl true (rk_cz (c := -1) (by decide +kernel) (decide_eq_true (by omega))) ?_
        show rk_ev _ _ 14 _ _ _ _
        refine ev_go (pc' := 15) (lv' := [(0, .int a), (1, .int (Int32.ofInt 0)), (2, .int (0 - (Int32.ofInt 1)))]) (st' := [.int (Int32.ofInt 0)]) (h' := rk_HM) 1 rfl ?_
        exact ev_ret rfl rfl
      show rk_ev _ _ 11 [(0, .ref 316), (1, .int a)] [.int (Int32.ofInt 0)] rk_HM _
      exact ev_ret rfl rfl
    show rk_ev _ _ 5 [(0, .ref 316), (1, .int a), (2, .int b)] [.int (Int32.ofInt 0)] rk_HM _
    refine ev_if1 (tg := 12) rfl rfl false (by decide +kernel) ?_
    show rk_ev _ _ 8 _ _ _ _
    refine ev_go (pc' := 44) (lv' := [(0, .ref 316), (1, .int a), (2, .int b)]) (st' := [.int (Int32.ofInt (-1))]) (h' := rk_HM) 2 rfl ?_
    exact ev_ret rfl rfl
set_option maxRecDepth 100000 in
set_option maxHeartbeats 4000000 in
theorem cs_acting_n (a : Int32) (ha : a.toInt < 0) : rk_ok2 rm_X7_acting rm_X8_acting [.int a] := by
  refine ⟨(Int32.ofInt (-1)), rk_HM, rk_HM, ?_, ?_⟩
  · show rk_ev _ _ 0 [(0, .ref 1), (1, .int a)] [] _ _
    refine ev_go (pc' := 5) (lv' := [(0, .ref 1), (1, .int a)]) (st' := [.int a, .ref 2]) (h' := rk_HM) 3 rfl ?_
    refine ev_call (M' := rm_X3_hasRoutine) (ar := ([.ref 2, .int a], [])) (o' := (some (.int (Int32.ofInt 0)), rk_HM)) rfl rfl (by decide) (by decide) rfl rfl ?_ ?_
    · show rk_ev _ _ 0 [(0, .ref 2), (1, .int a)] [] _ _
      refine ev_go (pc' := 1) (lv' := [(0, .ref 2), (1, .int a)]) (st' := [.int a]) (h' := rk_HM) 1 rfl ?_
      refine ev_if1 (tg := 16) rfl rfl true (rk_cz (c := 0) (by decide +kernel) (decide_eq_true (by omega))) ?_
      show rk_ev _ _ 16 _ _ _ _
      refine ev_go (pc' := 17) (lv' := [(0, .ref 2), (1, .int a)]) (st' := [.int (Int32.ofInt 0)]) (h' := rk_HM) 1 rfl ?_
      exact ev_ret rfl rfl
    show rk_ev _ _ 8 [(0, .ref 1), (1, .int a)] [.int (Int32.ofInt 0)] rk_HM _
    refine ev_if1 (tg := 22) rfl rfl true (by decide +kernel) ?_
    show rk_ev _ _ 22 _ _ _ _
    refine ev_go (pc' := 23) (lv' := [(0, .ref 1), (1, .int a)]) (st' := [.int (Int32.ofInt (-1))]) (h' := rk_HM) 1 rfl ?_
    exact ev_ret rfl rfl
  · show rk_ev _ _ 0 [(0, .ref 316), (1, .int a)] [] _ (some (.int (Int32.ofInt (-1))), _)
    refine ev_go (pc' := 2) (lv' := [(0, .ref 316), (1, .int a)]) (st' := [.int a, .ref 316]) (h' := rk_HM) 2 rfl ?_
    refine ev_call (M' := rm_X8_isRoutine) (ar := ([.ref 316, .int a], [])) (o' := (some (.int (Int32.ofInt 0)), rk_HM)) rfl rfl (by decide) (by decide) rfl rfl ?_ ?_
    · show rk_ev _ _ 0 [(0, .ref 316), (1, .int a)] [] _ _
      refine ev_go (pc' := 8) (lv' := [(0, .ref 316), (1, .int a)]) (st' := [.int (0 - (Int32.ofInt 1)), .int (Int32.ofInt 0), .int a]) (h' := rk_HM) 6 rfl ?_
      refine ev_call (M' := rm_X8_in) (ar := ([.int a, .int (Int32.ofInt 0), .int (0 - (Int32.ofInt 1))], [])) (o' := (some (.int (Int32.ofInt 0)), rk_HM)) rfl rfl (by decide) (by decide) rfl rfl ?_ ?_
      · show rk_ev _ _ 0 [(0, .int a), (1, .int (Int32.ofInt 0)), (2, .int (0 - (Int32.ofInt 1)))] [] _ _
        refine ev_go (pc' := 2) (lv' := [(0, .int a), (1, .int (Int32.ofInt 0)), (2, .int (0 - (Int32.ofInt 1)))]) (st' := [.int (Int32.ofInt 0), .int a]) (h' := rk_HM) 2 rfl ?_
        refine ev_if2 (tg := 14) rfl rfl true (rk_cz (c := 0) (by decide +kernel) (decide_eq_true (by omega))) ?_
        show rk_ev _ _ 14 _ _ _ _
        refine ev_go (pc' := 15) (lv' := [(0, .int a), (1, .int (Int32.ofInt 0)), (2, .int (0 - (Int32.ofInt 1)))]) (st' := [.int (Int32.ofInt 0)]) (h' := rk_HM) 1 rfl ?_
        exact ev_ret rfl rfl
      show rk_ev _ _ 11 [(0, .ref 316), (1, .int a)] [.int (Int32.ofInt 0)] rk_HM _
      exact ev_ret rfl rfl
    show rk_ev _ _ 5 [(0, .ref 316), (1, .int a)] [.int (Int32.ofInt 0)] rk_HM _
    refine ev_if1 (tg := 16) rfl rfl true (by decide +kernel) ?_
    show rk_ev _ _ 16 _ _ _ _
    refine ev_go (pc' := 17) (lv' := [(0, .ref 316), (1, .int a)]) (st' := [.int (Int32.ofInt (-1))]) (h' := rk_HM) 1 rfl ?_
    exact ev_ret rfl rfl
set_option maxRecDepth 100000 in
set_option maxHeartbeats 4000000 in
theorem cs_acting_p (a : Int32) (ha : 0 ≤ a.toInt) : rk_ok2 rm_X7_acting rm_X8_acting [.int a] := by
  refine ⟨(Int32.ofInt (-1)), rk_HM, rk_HM, ?_, ?_⟩
  · show rk_ev _ _ 0 [(0, .ref 1), (1, .int a)] [] _ _
    refine ev_go (pc' := 5) (lv' := [(0, .ref 1), (1, .int a)]) (st' := [.int a, .ref 2]) (h' := rk_HM) 3 rfl ?_
    refine ev_call (M' := rm_X3_hasRoutine) (ar := ([.ref 2, .int a], [])) (o' := (some (.int (Int32.ofInt 0)), rk_HM)) rfl rfl (by decide) (by decide) rfl rfl ?_ ?_
    · show rk_ev _ _ 0 [(0, .ref 2), (1, .int a)] [] _ _
      refine ev_go (pc' := 1) (lv' := [(0, .ref 2), (1, .int a)]) (st' := [.int a]) (h' := rk_HM) 1 rfl ?_
      refine ev_if1 (tg := 16) rfl rfl false (rk_cz (c := 0) (by decide +kernel) (decide_eq_false (by omega))) ?_
      show rk_ev _ _ 4 _ _ _ _
      refine ev_go (pc' := 9) (lv' := [(0, .ref 2), (1, .int a)]) (st' := [.int 0, .int a]) (h' := rk_HM) 3 rfl ?_
      refine ev_if2 (tg := 16) rfl rfl true (rk_cz (c := 0) (by decide +kernel) (decide_eq_true (by omega))) ?_
      show rk_ev _ _ 16 _ _ _ _
      refine ev_go (pc' := 17) (lv' := [(0, .ref 2), (1, .int a)]) (st' := [.int (Int32.ofInt 0)]) (h' := rk_HM) 1 rfl ?_
      exact ev_ret rfl rfl
    show rk_ev _ _ 8 [(0, .ref 1), (1, .int a)] [.int (Int32.ofInt 0)] rk_HM _
    refine ev_if1 (tg := 22) rfl rfl true (by decide +kernel) ?_
    show rk_ev _ _ 22 _ _ _ _
    refine ev_go (pc' := 23) (lv' := [(0, .ref 1), (1, .int a)]) (st' := [.int (Int32.ofInt (-1))]) (h' := rk_HM) 1 rfl ?_
    exact ev_ret rfl rfl
  · show rk_ev _ _ 0 [(0, .ref 316), (1, .int a)] [] _ (some (.int (Int32.ofInt (-1))), _)
    refine ev_go (pc' := 2) (lv' := [(0, .ref 316), (1, .int a)]) (st' := [.int a, .ref 316]) (h' := rk_HM) 2 rfl ?_
    refine ev_call (M' := rm_X8_isRoutine) (ar := ([.ref 316, .int a], [])) (o' := (some (.int (Int32.ofInt 0)), rk_HM)) rfl rfl (by decide) (by decide) rfl rfl ?_ ?_
    · show rk_ev _ _ 0 [(0, .ref 316), (1, .int a)] [] _ _
      refine ev_go (pc' := 8) (lv' := [(0, .ref 316), (1, .int a)]) (st' := [.int (0 - (Int32.ofInt 1)), .int (Int32.ofInt 0), .int a]) (h' := rk_HM) 6 rfl ?_
      refine ev_call (M' := rm_X8_in) (ar := ([.int a, .int (Int32.ofInt 0), .int (0 - (Int32.ofInt 1))], [])) (o' := (some (.int (Int32.ofInt 0)), rk_HM)) rfl rfl (by decide) (by decide) rfl rfl ?_ ?_
      · show rk_ev _ _ 0 [(0, .int a), (1, .int (Int32.ofInt 0)), (2, .int (0 - (Int32.ofInt 1)))] [] _ _
        refine ev_go (pc' := 2) (lv' := [(0, .int a), (1, .int (Int32.ofInt 0)), (2, .int (0 - (Int32.ofInt 1)))]) (st' := [.int (Int32.ofInt 0), .int a]) (h' := rk_HM) 2 rfl ?_
        refine ev_if2 (tg := 14) rfl rfl false (rk_cz (c := 0) (by decide +kernel) (decide_eq_false (by omega))) ?_
        show rk_ev _ _ 5 _ _ _ _
        refine ev_go (pc' := 7) (lv' := [(0, .int a), (1, .int (Int32.ofInt 0)), (2, .int (0 - (Int32.ofInt 1)))]) (st' := [.int (0 - (Int32.ofInt 1)), .int a]) (h' := rk_HM) 2 rfl ?_
        refine ev_if2 (tg := 14) rfl rfl true (rk_cz (c := -1) (by decide +kernel) (decide_eq_true (by omega))) ?_
        show rk_ev _ _ 14 _ _ _ _
        refine ev_go (pc' := 15) (lv' := [(0, .int a), (1, .int (Int32.ofInt 0)), (2, .int (0 - (Int32.ofInt 1)))]) (st' := [.int (Int32.ofInt 0)]) (h' := rk_HM) 1 rfl ?_
        exact ev_ret rfl rfl
      show rk_ev _ _ 11 [(0, .ref 316), (1, .int a)] [.int (Int32.ofInt 0)] rk_HM _
      exact ev_ret rfl rfl
    show rk_ev _ _ 5 [(0, .ref 316), (1, .int a)] [.int (Int32.ofInt 0)] rk_HM _
    refine ev_if1 (tg := 16) rfl rfl true (by decide +kernel) ?_
    show rk_ev _ _ 16 _ _ _ _
    refine ev_go (pc' := 17) (lv' := [(0, .ref 316), (1, .int a)]) (st' := [.int (Int32.ofInt (-1))]) (h' := rk_HM) 1 rfl ?_
    exact ev_ret rfl rfl
set_option maxRecDepth 100000 in
set_option maxHeartbeats 4000000 in
theorem cs_reads_n (a : Int32) (ha : a.toInt < 0) : rk_ok2 rm_X7_reads rm_X8_reads [.int a] := by
  refine ⟨(Int32.ofInt (-1)), rk_HM, rk_HM, ?_, ?_⟩
  · show rk_ev _ _ 0 [(0, .ref 1), (1, .int a)] [] _ _
    refine ev_go (pc' := 5) (lv' := [(0, .ref 1), (1, .int a)]) (st' := [.int a, .ref 2]) (h' := rk_HM) 3 rfl ?_
    refine ev_call (M' := rm_X3_hasRoutine) (ar := ([.ref 2, .int a], [])) (o' := (some (.int (Int32.ofInt 0)), rk_HM)) rfl rfl (by decide) (by decide) rfl rfl ?_ ?_
    · show rk_ev _ _ 0 [(0, .ref 2), (1, .int a)] [] _ _
      refine ev_go (pc' := 1) (lv' := [(0, .ref 2), (1, .int a)]) (st' := [.int a]) (h' := rk_HM) 1 rfl ?_
      refine ev_if1 (tg := 16) rfl rfl true (rk_cz (c := 0) (by decide +kernel) (decide_eq_true (by omega))) ?_
      show rk_ev _ _ 16 _ _ _ _
      refine ev_go (pc' := 17) (lv' := [(0, .ref 2), (1, .int a)]) (st' := [.int (Int32.ofInt 0)]) (h' := rk_HM) 1 rfl ?_
      exact ev_ret rfl rfl
    show rk_ev _ _ 8 [(0, .ref 1), (1, .int a)] [.int (Int32.ofInt 0)] rk_HM _
    refine ev_if1 (tg := 22) rfl rfl true (by decide +kernel) ?_
    show rk_ev _ _ 22 _ _ _ _
    refine ev_go (pc' := 23) (lv' := [(0, .ref 1), (1, .int a)]) (st' := [.int (Int32.ofInt (-1))]) (h' := rk_HM) 1 rfl ?_
    exact ev_ret rfl rfl
  · show rk_ev _ _ 0 [(0, .ref 316), (1, .int a)] [] _ (some (.int (Int32.ofInt (-1))), _)
    refine ev_go (pc' := 2) (lv' := [(0, .ref 316), (1, .int a)]) (st' := [.int a, .ref 316]) (h' := rk_HM) 2 rfl ?_
    refine ev_call (M' := rm_X8_isRoutine) (ar := ([.ref 316, .int a], [])) (o' := (some (.int (Int32.ofInt 0)), rk_HM)) rfl rfl (by decide) (by decide) rfl rfl ?_ ?_
    · show rk_ev _ _ 0 [(0, .ref 316), (1, .int a)] [] _ _
      refine ev_go (pc' := 8) (lv' := [(0, .ref 316), (1, .int a)]) (st' := [.int (0 - (Int32.ofInt 1)), .int (Int32.ofInt 0), .int a]) (h' := rk_HM) 6 rfl ?_
      refine ev_call (M' := rm_X8_in) (ar := ([.int a, .int (Int32.ofInt 0), .int (0 - (Int32.ofInt 1))], [])) (o' := (some (.int (Int32.ofInt 0)), rk_HM)) rfl rfl (by decide) (by decide) rfl rfl ?_ ?_
      · show rk_ev _ _ 0 [(0, .int a), (1, .int (Int32.ofInt 0)), (2, .int (0 - (Int32.ofInt 1)))] [] _ _
        refine ev_go (pc' := 2) (lv' := [(0, .int a), (1, .int (Int32.ofInt 0)), (2, .int (0 - (Int32.ofInt 1)))]) (st' := [.int (Int32.ofInt 0), .int a]) (h' := rk_HM) 2 rfl ?_
        refine ev_if2 (tg := 14) rfl rfl true (rk_cz (c := 0) (by decide +kernel) (decide_eq_true (by omega))) ?_
        show rk_ev _ _ 14 _ _ _ _
        refine ev_go (pc' := 15) (lv' := [(0, .int a), (1, .int (Int32.ofInt 0)), (2, .int (0 - (Int32.ofInt 1)))]) (st' := [.int (Int32.ofInt 0)]) (h' := rk_HM) 1 rfl ?_
        exact ev_ret rfl rfl
      show rk_ev _ _ 11 [(0, .ref 316), (1, .int a)] [.int (Int32.ofInt 0)] rk_HM _
      exact ev_ret rfl rfl
    show rk_ev _ _ 5 [(0, .ref 316), (1, .int a)] [.int (Int32.ofInt 0)] rk_HM _
    refine ev_if1 (tg := 10) rfl rfl false (by decide +kernel) ?_
    show rk_ev _ _ 8 _ _ _ _
    refine ev_go (pc' := 9) (lv' := [(0, .ref 316), (1, .int a)]) (st' := [.int (Int32.ofInt (-1))]) (h' := rk_HM) 1 rfl ?_
    exact ev_ret rfl rfl
set_option maxRecDepth 100000 in
set_option maxHeartbeats 4000000 in
theorem cs_reads_p (a : Int32) (ha : 0 ≤ a.toInt) : rk_ok2 rm_X7_reads rm_X8_reads [.int a] := by
  refine ⟨(Int32.ofInt (-1)), rk_HM, rk_HM, ?_, ?_⟩
  · show rk_ev _ _ 0 [(0, .ref 1), (1, .int a)] [] _ _
    refine ev_go (pc' := 5) (lv' := [(0, .ref 1), (1, .int a)]) (st' := [.int a, .ref 2]) (h' := rk_HM) 3 rfl ?_
    refine ev_call (M' := rm_X3_hasRoutine) (ar := ([.ref 2, .int a], [])) (o' := (some (.int (Int32.ofInt 0)), rk_HM)) rfl rfl (by decide) (by decide) rfl rfl ?_ ?_
    · show rk_ev _ _ 0 [(0, .ref 2), (1, .int a)] [] _ _
      refine ev_go (pc' := 1) (lv' := [(0, .ref 2), (1, .int a)]) (st' := [.int a]) (h' := rk_HM) 1 rfl ?_
      refine ev_if1 (tg := 16) rfl rfl false (rk_cz (c := 0) (by decide +kernel) (decide_eq_false (by omega))) ?_
      show rk_ev _ _ 4 _ _ _ _
      refine ev_go (pc' := 9) (lv' := [(0, .ref 2), (1, .int a)]) (st' := [.int 0, .int a]) (h' := rk_HM) 3 rfl ?_
      refine ev_if2 (tg := 16) rfl rfl true (rk_cz (c := 0) (by decide +kernel) (decide_eq_true (by omega))) ?_
      show rk_ev _ _ 16 _ _ _ _
      refine ev_go (pc' := 17) (lv' := [(0, .ref 2), (1, .int a)]) (st' := [.int (Int32.ofInt 0)]) (h' := rk_HM) 1 rfl ?_
      exact ev_ret rfl rfl
    show rk_ev _ _ 8 [(0, .ref 1), (1, .int a)] [.int (Int32.ofInt 0)] rk_HM _
    refine ev_if1 (tg := 22) rfl rfl true (by decide +kernel) ?_
    show rk_ev _ _ 22 _ _ _ _
    refine ev_go (pc' := 23) (lv' := [(0, .ref 1), (1, .int a)]) (st' := [.int (Int32.ofInt (-1))]) (h' := rk_HM) 1 rfl ?_
    exact ev_ret rfl rfl
  · show rk_ev _ _ 0 [(0, .ref 316), (1, .int a)] [] _ (some (.int (Int32.ofInt (-1))), _)
    refine ev_go (pc' := 2) (lv' := [(0, .ref 316), (1, .int a)]) (st' := [.int a, .ref 316]) (h' := rk_HM) 2 rfl ?_
    refine ev_call (M' := rm_X8_isRoutine) (ar := ([.ref 316, .int a], [])) (o' := (some (.int (Int32.ofInt 0)), rk_HM)) rfl rfl (by decide) (by decide) rfl rfl ?_ ?_
    · show rk_ev _ _ 0 [(0, .ref 316), (1, .int a)] [] _ _
      refine ev_go (pc' := 8) (lv' := [(0, .ref 316), (1, .int a)]) (st' := [.int (0 - (Int32.ofInt 1)), .int (Int32.ofInt 0), .int a]) (h' := rk_HM) 6 rfl ?_
      refine ev_call (M' := rm_X8_in) (ar := ([.int a, .int (Int32.ofInt 0), .int (0 - (Int32.ofInt 1))], [])) (o' := (some (.int (Int32.ofInt 0)), rk_HM)) rfl rfl (by decide) (by decide) rfl rfl ?_ ?_
      · show rk_ev _ _ 0 [(0, .int a), (1, .int (Int32.ofInt 0)), (2, .int (0 - (Int32.ofInt 1)))] [] _ _
        refine ev_go (pc' := 2) (lv' := [(0, .int a), (1, .int (Int32.ofInt 0)), (2, .int (0 - (Int32.ofInt 1)))]) (st' := [.int (Int32.ofInt 0), .int a]) (h' := rk_HM) 2 rfl ?_
        refine ev_if2 (tg := 14) rfl rfl false (rk_cz (c := 0) (by decide +kernel) (decide_eq_false (by omega))) ?_
        show rk_ev _ _ 5 _ _ _ _
        refine ev_go (pc' := 7) (lv' := [(0, .int a), (1, .int (Int32.ofInt 0)), (2, .int (0 - (Int32.ofInt 1)))]) (st' := [.int (0 - (Int32.ofInt 1)), .int a]) (h' := rk_HM) 2 rfl ?_
        refine ev_if2 (tg := 14) rfl rfl true (rk_cz (c := -1) (by decide +kernel) (decide_eq_true (by omega))) ?_
        show rk_ev _ _ 14 _ _ _ _
        refine ev_go (pc' := 15) (lv' := [(0, .int a), (1, .int (Int32.ofInt 0)), (2, .int (0 - (Int32.ofInt 1)))]) (st' := [.int (Int32.ofInt 0)]) (h' := rk_HM) 1 rfl ?_
        exact ev_ret rfl rfl
      show rk_ev _ _ 11 [(0, .ref 316), (1, .int a)] [.int (Int32.ofInt 0)] rk_HM _
      exact ev_ret rfl rfl
    show rk_ev _ _ 5 [(0, .ref 316), (1, .int a)] [.int (Int32.ofInt 0)] rk_HM _
    refine ev_if1 (tg := 10) rfl rfl false (by decide +kernel) ?_
    show rk_ev _ _ 8 _ _ _ _
    refine ev_go (pc' := 9) (lv' := [(0, .ref 316), (1, .int a)]) (st' := [.int (Int32.ofInt (-1))]) (h' := rk_HM) 1 rfl ?_
    exact ev_ret rfl rfl
set_option maxRecDepth 100000 in
set_option maxHeartbeats 4000000 in
theorem cs_run_n (a b c e : Int32) (ha : a.toInt < 0) : rk_ok2 rm_X7_run rm_X8_run [.int a, .int b, .int c, .int e] := by
  refine ⟨(Int32.ofInt (-1)), rk_HM, rk_HM, ?_, ?_⟩
  · show rk_ev _ _ 0 [(0, .ref 1), (1, .int a), (2, .int b), (3, .int c), (4, .int e)] [] _ _
    refine ev_go (pc' := 5) (lv' := [(0, .ref 1), (1, .int a), (2, .int b), (3, .int c), (4, .int e)]) (st' := [.int a, .ref 2]) (h' := rk_HM) 3 rfl ?_
    refine ev_call (M' := rm_X3_hasRoutine) (ar := ([.ref 2, .int a], [])) (o' := (some (.int (Int32.ofInt 0)), rk_HM)) rfl rfl (by decide) (by decide) rfl rfl ?_ ?_
    · show rk_ev _ _ 0 [(0, .ref 2), (1, .int a)] [] _ _
      refine ev_go (pc' := 1) (lv' := [(0, .ref 2), (1, .int a)]) (st' := [.int a]) (h' := rk_HM) 1 rfl ?_
      refine ev_if1 (tg := 16) rfl rfl true (rk_cz (c := 0) (by decide +kernel) (decide_eq_true (by omega))) ?_
      show rk_ev _ _ 16 _ _ _ _
      refine ev_go (pc' := 17) (lv' := [(0, .ref 2), (1, .int a)]) (st' := [.int (Int32.ofInt 0)]) (h' := rk_HM) 1 rfl ?_
      exact ev_ret rfl rfl
    show rk_ev _ _ 8 [(0, .ref 1), (1, .int a), (2, .int b), (3, .int c), (4, .int e)] [.int (Int32.ofInt 0)] rk_HM _
    refine ev_if1 (tg := 13) rfl rfl false (by decide +kernel) ?_
    show rk_ev _ _ 11 _ _ _ _
    refine ev_go (pc' := 12) (lv' := [(0, .ref 1), (1, .int a), (2, .int b), (3, .int c), (4, .int e)]) (st' := [.int (Int32.ofInt (-1))]) (h' := rk_HM) 1 rfl ?_
    exact ev_ret rfl rfl
  · show rk_ev _ _ 0 [(0, .ref 316), (1, .int a), (2, .int b), (3, .int c), (4, .int e)] [] _ (some (.int (Int32.ofInt (-1))), _)
    refine ev_go (pc' := 2) (lv' := [(0, .ref 316), (1, .int a), (2, .int b), (3, .int c), (4, .int e)]) (st' := [.int a, .ref 316]) (h' := rk_HM) 2 rfl ?_
    refine ev_call (M' := rm_X8_isRoutine) (ar := ([.ref 316, .int a], [])) (o' := (some (.int (Int32.ofInt 0)), rk_HM)) rfl rfl (by decide) (by decide) rfl rfl ?_ ?_
    · show rk_ev _ _ 0 [(0, .ref 316), (1, .int a)] [] _ _
      refine ev_go (pc' := 8) (lv' := [(0, .ref 316), (1, .int a)]) (st' := [.int (0 - (Int32.ofInt 1)), .int (Int32.ofInt 0), .int a]) (h' := rk_HM) 6 rfl ?_
      refine ev_call (M' := rm_X8_in) (ar := ([.int a, .int (Int32.ofInt 0), .int (0 - (Int32.ofInt 1))], [])) (o' := (some (.int (Int32.ofInt 0)), rk_HM)) rfl rfl (by decide) (by decide) rfl rfl ?_ ?_
      · show rk_ev _ _ 0 [(0, .int a), (1, .int (Int32.ofInt 0)), (2, .int (0 - (Int32.ofInt 1)))] [] _ _
        refine ev_go (pc' := 2) (lv' := [(0, .int a), (1, .int (Int32.ofInt 0)), (2, .int (0 - (Int32.ofInt 1)))]) (st' := [.int (Int32.ofInt 0), .int a]) (h' := rk_HM) 2 rfl ?_
        refine ev_if2 (tg := 14) rfl rfl true (rk_cz (c := 0) (by decide +kernel) (decide_eq_true (by omega))) ?_
        show rk_ev _ _ 14 _ _ _ _
        refine ev_go (pc' := 15) (lv' := [(0, .int a), (1, .int (Int32.ofInt 0)), (2, .int (0 - (Int32.ofInt 1)))]) (st' := [.int (Int32.ofInt 0)]) (h' := rk_HM) 1 rfl ?_
        exact ev_ret rfl rfl
      show rk_ev _ _ 11 [(0, .ref 316), (1, .int a)] [.int (Int32.ofInt 0)] rk_HM _
      exact ev_ret rfl rfl
    show rk_ev _ _ 5 [(0, .ref 316), (1, .int a), (2, .int b), (3, .int c), (4, .int e)] [.int (Int32.ofInt 0)] rk_HM _
    refine ev_if1 (tg := 10) rfl rfl false (by decide +kernel) ?_
    show rk_ev _ _ 8 _ _ _ _
    refine ev_go (pc' := 9) (lv' := [(0, .ref 316), (1, .int a), (2, .int b), (3, .int c), (4, .int e)]) (st' := [.int (Int32.ofInt (-1))]) (h' := rk_HM) 1 rfl ?_
    exact ev_ret rfl rfl
set_option maxRecDepth 100000 in
set_option maxHeartbeats 4000000 in
theorem cs_run_p (a b c e : Int32) (ha : 0 ≤ a.toInt) : rk_ok2 rm_X7_run rm_X8_run [.int a, .int b, .int c, .int e] := by
  refine ⟨(Int32.ofInt (-1)), rk_HM, rk_HM, ?_, ?_⟩
  · show rk_ev _ _ 0 [(0, .ref 1), (1, .int a), (2, .int b), (3, .int c), (4, .int e)] [] _ _
    refine ev_go (pc' := 5) (lv' := [(0, .ref 1), (1, .int a), (2, .int b), (3, .int c), (4, .int e)]) (st' := [.int a, .ref 2]) (h' := rk_HM) 3 rfl ?_
    refine ev_call (M' := rm_X3_hasRoutine) (ar := ([.ref 2, .int a], [])) (o' := (some (.int (Int32.ofInt 0)), rk_HM)) rfl rfl (by decide) (by decide) rfl rfl ?_ ?_
    · show rk_ev _ _ 0 [(0, .ref 2), (1, .int a)] [] _ _
      refine ev_go (pc' := 1) (lv' := [(0, .ref 2), (1, .int a)]) (st' := [.int a]) (h' := rk_HM) 1 rfl ?_
      refine ev_if1 (tg := 16) rfl rfl false (rk_cz (c := 0) (by decide +kernel) (decide_eq_false (by omega))) ?_
      show rk_ev _ _ 4 _ _ _ _
      refine ev_go (pc' := 9) (lv' := [(0, .ref 2), (1, .int a)]) (st' := [.int 0, .int a]) (h' := rk_HM) 3 rfl ?_
      refine ev_if2 (tg := 16) rfl rfl true (rk_cz (c := 0) (by decide +kernel) (decide_eq_true (by omega))) ?_
      show rk_ev _ _ 16 _ _ _ _
      refine ev_go (pc' := 17) (lv' := [(0, .ref 2), (1, .int a)]) (st' := [.int (Int32.ofInt 0)]) (h' := rk_HM) 1 rfl ?_
      exact ev_ret rfl rfl
    show rk_ev _ _ 8 [(0, .ref 1), (1, .int a), (2, .int b), (3, .int c), (4, .int e)] [.int (Int32.ofInt 0)] rk_HM _
    refine ev_if1 (tg := 13) rfl rfl false (by decide +kernel) ?_
    show rk_ev _ _ 11 _ _ _ _
    refine ev_go (pc' := 12) (lv' := [(0, .ref 1), (1, .int a), (2, .int b), (3, .int c), (4, .int e)]) (st' := [.int (Int32.ofInt (-1))]) (h' := rk_HM) 1 rfl ?_
    exact ev_ret rfl rfl
  · show rk_ev _ _ 0 [(0, .ref 316), (1, .int a), (2, .int b), (3, .int c), (4, .int e)] [] _ (some (.int (Int32.ofInt (-1))), _)
    refine ev_go (pc' := 2) (lv' := [(0, .ref 316), (1, .int a), (2, .int b), (3, .int c), (4, .int e)]) (st' := [.int a, .ref 316]) (h' := rk_HM) 2 rfl ?_
    refine ev_call (M' := rm_X8_isRoutine) (ar := ([.ref 316, .int a], [])) (o' := (some (.int (Int32.ofInt 0)), rk_HM)) rfl rfl (by decide) (by decide) rfl rfl ?_ ?_
    · show rk_ev _ _ 0 [(0, .ref 316), (1, .int a)] [] _ _
      refine ev_go (pc' := 8) (lv' := [(0, .ref 316), (1, .int a)]) (st' := [.int (0 - (Int32.ofInt 1)), .int (Int32.ofInt 0), .int a]) (h' := rk_HM) 6 rfl ?_
      refine ev_call (M' := rm_X8_in) (ar := ([.int a, .int (Int32.ofInt 0), .int (0 - (Int32.ofInt 1))], [])) (o' := (some (.int (Int32.ofInt 0)), rk_HM)) rfl rfl (by decide) (by decide) rfl rfl ?_ ?_
      · show rk_ev _ _ 0 [(0, .int a), (1, .int (Int32.ofInt 0)), (2, .int (0 - (Int32.ofInt 1)))] [] _ _
        refine ev_go (pc' := 2) (lv' := [(0, .int a), (1, .int (Int32.ofInt 0)), (2, .int (0 - (Int32.ofInt 1)))]) (st' := [.int (Int32.ofInt 0), .int a]) (h' := rk_HM) 2 rfl ?_
        refine ev_if2 (tg := 14) rfl rfl false (rk_cz (c := 0) (by decide +kernel) (decide_eq_false (by omega))) ?_
        show rk_ev _ _ 5 _ _ _ _
        refine ev_go (pc' := 7) (lv' := [(0, .int a), (1, .int (Int32.ofInt 0)), (2, .int (0 - (Int32.ofInt 1)))]) (st' := [.int (0 - (Int32.ofInt 1)), .int a]) (h' := rk_HM) 2 rfl ?_
        refine ev_if2 (tg := 14) rfl rfl true (rk_cz (c := -1) (by decide +kernel) (decide_eq_true (by omega))) ?_
        show rk_ev _ _ 14 _ _ _ _
        refine ev_go (pc' := 15) (lv' := [(0, .int a), (1, .int (Int32.ofInt 0)), (2, .int (0 - (Int32.ofInt 1)))]) (st' := [.int (Int32.ofInt 0)]) (h' := rk_HM) 1 rfl ?_
        exact ev_ret rfl rfl
      show rk_ev _ _ 11 [(0, .ref 316), (1, .int a)] [.int (Int32.ofInt 0)] rk_HM _
      exact ev_ret rfl rfl
    show rk_ev _ _ 5 [(0, .ref 316), (1, .int a), (2, .int b), (3, .int c), (4, .int e)] [.int (Int32.ofInt 0)] rk_HM _
    refine ev_if1 (tg := 10) rfl rfl false (by decide +kernel) ?_
    show rk_ev _ _ 8 _ _ _ _
    refine ev_go (pc' := 9) (lv' := [(0, .ref 316), (1, .int a), (2, .int b), (3, .int c), (4, .int e)]) (st' := [.int (Int32.ofInt (-1))]) (h' := rk_HM) 1 rfl ?_
    exact ev_ret rfl rfl
set_option maxRecDepth 100000 in
set_option maxHeartbeats 4000000 in
theorem cs_log_n (a b c e : Int32) (ha : a.toInt < 0) : rk_ok2 rm_X7_log rm_X8_log [.int a, .int b, .int c, .int e] := by
  refine ⟨(Int32.ofInt (-1)), rk_HM, rk_HM, ?_, ?_⟩
  · show rk_ev _ _ 0 [(0, .ref 1), (1, .int a), (2, .int b), (3, .int c), (4, .int e)] [] _ _
    refine ev_go (pc' := 5) (lv' := [(0, .ref 1), (1, .int a), (2, .int b), (3, .int c), (4, .int e)]) (st' := [.int a, .ref 2]) (h' := rk_HM) 3 rfl ?_
    refine ev_call (M' := rm_X3_hasRoutine) (ar := ([.ref 2, .int a], [])) (o' := (some (.int (Int32.ofInt 0)), rk_HM)) rfl rfl (by decide) (by decide) rfl rfl ?_ ?_
    · show rk_ev _ _ 0 [(0, .ref 2), (1, .int a)] [] _ _
      refine ev_go (pc' := 1) (lv' := [(0, .ref 2), (1, .int a)]) (st' := [.int a]) (h' := rk_HM) 1 rfl ?_
      refine ev_if1 (tg := 16) rfl rfl true (rk_cz (c := 0) (by decide +kernel) (decide_eq_true (by omega))) ?_
      show rk_ev _ _ 16 _ _ _ _
      refine ev_go (pc' := 17) (lv' := [(0, .ref 2), (1, .int a)]) (st' := [.int (Int32.ofInt 0)]) (h' := rk_HM) 1 rfl ?_
      exact ev_ret rfl rfl
    show rk_ev _ _ 8 [(0, .ref 1), (1, .int a), (2, .int b), (3, .int c), (4, .int e)] [.int (Int32.ofInt 0)] rk_HM _
    refine ev_if1 (tg := 13) rfl rfl false (by decide +kernel) ?_
    show rk_ev _ _ 11 _ _ _ _
    refine ev_go (pc' := 12) (lv' := [(0, .ref 1), (1, .int a), (2, .int b), (3, .int c), (4, .int e)]) (st' := [.int (Int32.ofInt (-1))]) (h' := rk_HM) 1 rfl ?_
    exact ev_ret rfl rfl
  · show rk_ev _ _ 0 [(0, .ref 316), (1, .int a), (2, .int b), (3, .int c), (4, .int e)] [] _ (some (.int (Int32.ofInt (-1))), _)
    refine ev_go (pc' := 2) (lv' := [(0, .ref 316), (1, .int a), (2, .int b), (3, .int c), (4, .int e)]) (st' := [.int a, .ref 316]) (h' := rk_HM) 2 rfl ?_
    refine ev_call (M' := rm_X8_isRoutine) (ar := ([.ref 316, .int a], [])) (o' := (some (.int (Int32.ofInt 0)), rk_HM)) rfl rfl (by decide) (by decide) rfl rfl ?_ ?_
    · show rk_ev _ _ 0 [(0, .ref 316), (1, .int a)] [] _ _
      refine ev_go (pc' := 8) (lv' := [(0, .ref 316), (1, .int a)]) (st' := [.int (0 - (Int32.ofInt 1)), .int (Int32.ofInt 0), .int a]) (h' := rk_HM) 6 rfl ?_
      refine ev_call (M' := rm_X8_in) (ar := ([.int a, .int (Int32.ofInt 0), .int (0 - (Int32.ofInt 1))], [])) (o' := (some (.int (Int32.ofInt 0)), rk_HM)) rfl rfl (by decide) (by decide) rfl rfl ?_ ?_
      · show rk_ev _ _ 0 [(0, .int a), (1, .int (Int32.ofInt 0)), (2, .int (0 - (Int32.ofInt 1)))] [] _ _
        refine ev_go (pc' := 2) (lv' := [(0, .int a), (1, .int (Int32.ofInt 0)), (2, .int (0 - (Int32.ofInt 1)))]) (st' := [.int (Int32.ofInt 0), .int a]) (h' := rk_HM) 2 rfl ?_
        refine ev_if2 (tg := 14) rfl rfl true (rk_cz (c := 0) (by decide +kernel) (decide_eq_true (by omega))) ?_
        show rk_ev _ _ 14 _ _ _ _
        refine ev_go (pc' := 15) (lv' := [(0, .int a), (1, .int (Int32.ofInt 0)), (2, .int (0 - (Int32.ofInt 1)))]) (st' := [.int (Int32.ofInt 0)]) (h' := rk_HM) 1 rfl ?_
        exact ev_ret rfl rfl
      show rk_ev _ _ 11 [(0, .ref 316), (1, .int a)] [.int (Int32.ofInt 0)] rk_HM _
      exact ev_ret rfl rfl
    show rk_ev _ _ 5 [(0, .ref 316), (1, .int a), (2, .int b), (3, .int c), (4, .int e)] [.int (Int32.ofInt 0)] rk_HM _
    refine ev_if1 (tg := 10) rfl rfl false (by decide +kernel) ?_
    show rk_ev _ _ 8 _ _ _ _
    refine ev_go (pc' := 9) (lv' := [(0, .ref 316), (1, .int a), (2, .int b), (3, .int c), (4, .int e)]) (st' := [.int (Int32.ofInt (-1))]) (h' := rk_HM) 1 rfl ?_
    exact ev_ret rfl rfl
set_option maxRecDepth 100000 in
set_option maxHeartbeats 4000000 in
theorem cs_log_p (a b c e : Int32) (ha : 0 ≤ a.toInt) : rk_ok2 rm_X7_log rm_X8_log [.int a, .int b, .int c, .int e] := by
  refine ⟨(Int32.ofInt (-1)), rk_HM, rk_HM, ?_, ?_⟩
  · show rk_ev _ _ 0 [(0, .ref 1), (1, .int a), (2, .int b), (3, .int c), (4, .int e)] [] _ _
    refine ev_go (pc' := 5) (lv' := [(0, .ref 1), (1, .int a), (2, .int b), (3, .int c), (4, .int e)]) (st' := [.int a, .ref 2]) (h' := rk_HM) 3 rfl ?_
    refine ev_call (M' := rm_X3_hasRoutine) (ar := ([.ref 2, .int a], [])) (o' := (some (.int (Int32.ofInt 0)), rk_HM)) rfl rfl (by decide) (by decide) rfl rfl ?_ ?_
    · show rk_ev _ _ 0 [(0, .ref 2), (1, .int a)] [] _ _
      refine ev_go (pc' := 1) (lv' := [(0, .ref 2), (1, .int a)]) (st' := [.int a]) (h' := rk_HM) 1 rfl ?_
      refine ev_if1 (tg := 16) rfl rfl false (rk_cz (c := 0) (by decide +kernel) (decide_eq_false (by omega))) ?_
      show rk_ev _ _ 4 _ _ _ _
      refine ev_go (pc' := 9) (lv' := [(0, .ref 2), (1, .int a)]) (st' := [.int 0, .int a]) (h' := rk_HM) 3 rfl ?_
      refine ev_if2 (tg := 16) rfl rfl true (rk_cz (c := 0) (by decide +kernel) (decide_eq_true (by omega))) ?_
      show rk_ev _ _ 16 _ _ _ _
      refine ev_go (pc' := 17) (lv' := [(0, .ref 2), (1, .int a)]) (st' := [.int (Int32.ofInt 0)]) (h' := rk_HM) 1 rfl ?_
      exact ev_ret rfl rfl
    show rk_ev _ _ 8 [(0, .ref 1), (1, .int a), (2, .int b), (3, .int c), (4, .int e)] [.int (Int32.ofInt 0)] rk_HM _
    refine ev_if1 (tg := 13) rfl rfl false (by decide +kernel) ?_
    show rk_ev _ _ 11 _ _ _ _
    refine ev_go (pc' := 12) (lv' := [(0, .ref 1), (1, .int a), (2, .int b), (3, .int c), (4, .int e)]) (st' := [.int (Int32.ofInt (-1))]) (h' := rk_HM) 1 rfl ?_
    exact ev_ret rfl rfl
  · show rk_ev _ _ 0 [(0, .ref 316), (1, .int a), (2, .int b), (3, .int c), (4, .int e)] [] _ (some (.int (Int32.ofInt (-1))), _)
    refine ev_go (pc' := 2) (lv' := [(0, .ref 316), (1, .int a), (2, .int b), (3, .int c), (4, .int e)]) (st' := [.int a, .ref 316]) (h' := rk_HM) 2 rfl ?_
    refine ev_call (M' := rm_X8_isRoutine) (ar := ([.ref 316, .int a], [])) (o' := (some (.int (Int32.ofInt 0)), rk_HM)) rfl rfl (by decide) (by decide) rfl rfl ?_ ?_
    · show rk_ev _ _ 0 [(0, .ref 316), (1, .int a)] [] _ _
      refine ev_go (pc' := 8) (lv' := [(0, .ref 316), (1, .int a)]) (st' := [.int (0 - (Int32.ofInt 1)), .int (Int32.ofInt 0), .int a]) (h' := rk_HM) 6 rfl ?_
      refine ev_call (M' := rm_X8_in) (ar := ([.int a, .int (Int32.ofInt 0), .int (0 - (Int32.ofInt 1))], [])) (o' := (some (.int (Int32.ofInt 0)), rk_HM)) rfl rfl (by decide) (by decide) rfl rfl ?_ ?_
      · show rk_ev _ _ 0 [(0, .int a), (1, .int (Int32.ofInt 0)), (2, .int (0 - (Int32.ofInt 1)))] [] _ _
        refine ev_go (pc' := 2) (lv' := [(0, .int a), (1, .int (Int32.ofInt 0)), (2, .int (0 - (Int32.ofInt 1)))]) (st' := [.int (Int32.ofInt 0), .int a]) (h' := rk_HM) 2 rfl ?_
        refine ev_if2 (tg := 14) rfl rfl false (rk_cz (c := 0) (by decide +kernel) (decide_eq_false (by omega))) ?_
        show rk_ev _ _ 5 _ _ _ _
        refine ev_go (pc' := 7) (lv' := [(0, .int a), (1, .int (Int32.ofInt 0)), (2, .int (0 - (Int32.ofInt 1)))]) (st' := [.int (0 - (Int32.ofInt 1)), .int a]) (h' := rk_HM) 2 rfl ?_
        refine ev_if2 (tg := 14) rfl rfl true (rk_cz (c := -1) (by decide +kernel) (decide_eq_true (by omega))) ?_
        show rk_ev _ _ 14 _ _ _ _
        refine ev_go (pc' := 15) (lv' := [(0, .int a), (1, .int (Int32.ofInt 0)), (2, .int (0 - (Int32.ofInt 1)))]) (st' := [.int (Int32.ofInt 0)]) (h' := rk_HM) 1 rfl ?_
        exact ev_ret rfl rfl
      show rk_ev _ _ 11 [(0, .ref 316), (1, .int a)] [.int (Int32.ofInt 0)] rk_HM _
      exact ev_ret rfl rfl
    show rk_ev _ _ 5 [(0, .ref 316), (1, .int a), (2, .int b), (3, .int c), (4, .int e)] [.int (Int32.ofInt 0)] rk_HM _
    refine ev_if1 (tg := 10) rfl rfl false (by decide +kernel) ?_
    show rk_ev _ _ 8 _ _ _ _
    refine ev_go (pc' := 9) (lv' := [(0, .ref 316), (1, .int a), (2, .int b), (3, .int c), (4, .int e)]) (st' := [.int (Int32.ofInt (-1))]) (h' := rk_HM) 1 rfl ?_
    exact ev_ret rfl rfl
set_option maxRecDepth 100000 in
set_option maxHeartbeats 4000000 in
theorem cs_kept_n (a b : Int32) (ha : a.toInt < 0) : rk_ok2 rm_X7_kept rm_X8_kept [.int a, .int b] := by
  refine ⟨((Int16.ofInt (-1001)).toInt32), rk_HM, rk_HM, ?_, ?_⟩
  · show rk_ev _ _ 0 [(0, .ref 1), (1, .int a), (2, .int b)] [] _ _
    refine ev_go (pc' := 5) (lv' := [(0, .ref 1), (1, .int a), (2, .int b)]) (st' := [.int a, .ref 20]) (h' := rk_HM) 3 rfl ?_
    refine ev_call (M' := rm_X5_has) (ar := ([.ref 20, .int a], [])) (o' := (some (.int (Int32.ofInt 0)), rk_HM)) rfl rfl (by decide) (by decide) rfl rfl ?_ ?_
    · show rk_ev _ _ 0 [(0, .ref 20), (1, .int a)] [] _ _
      refine ev_go (pc' := 1) (lv' := [(0, .ref 20), (1, .int a)]) (st' := [.int a]) (h' := rk_HM) 1 rfl ?_
      refine ev_if1 (tg := 16) rfl rfl true (rk_cz (c := 0) (by decide +kernel) (decide_eq_true (by omega))) ?_
      show rk_ev _ _ 16 _ _ _ _
      refine ev_go (pc' := 17) (lv' := [(0, .ref 20), (1, .int a)]) (st' := [.int (Int32.ofInt 0)]) (h' := rk_HM) 1 rfl ?_
      exact ev_ret rfl rfl
    show rk_ev _ _ 8 [(0, .ref 1), (1, .int a), (2, .int b)] [.int (Int32.ofInt 0)] rk_HM _
    refine ev_if1 (tg := 15) rfl rfl false (by decide +kernel) ?_
    show rk_ev _ _ 11 _ _ _ _
    refine ev_go (pc' := 14) (lv' := [(0, .ref 1), (1, .int a), (2, .int b)]) (st' := [.int ((Int16.ofInt (-1001)).toInt32)]) (h' := rk_HM) 1 rfl ?_
    exact ev_ret rfl rfl
  · show rk_ev _ _ 0 [(0, .ref 316), (1, .int a), (2, .int b)] [] _ (some (.int ((Int16.ofInt (-1001)).toInt32)), _)
    refine ev_go (pc' := 10) (lv' := [(0, .ref 316), (1, .int a), (2, .int b)]) (st' := [.int (0 - (Int32.ofInt 1)), .int (Int32.ofInt 0), .int a]) (h' := rk_HM) 8 rfl ?_
    refine ev_call (M' := rm_X8_in) (ar := ([.int a, .int (Int32.ofInt 0), .int (0 - (Int32.ofInt 1))], [])) (o' := (some (.int (Int32.ofInt 0)), rk_HM)) rfl rfl (by decide) (by decide) rfl rfl ?_ ?_
    · show rk_ev _ _ 0 [(0, .int a), (1, .int (Int32.ofInt 0)), (2, .int (0 - (Int32.ofInt 1)))] [] _ _
      refine ev_go (pc' := 2) (lv' := [(0, .int a), (1, .int (Int32.ofInt 0)), (2, .int (0 - (Int32.ofInt 1)))]) (st' := [.int (Int32.ofInt 0), .int a]) (h' := rk_HM) 2 rfl ?_
      refine ev_if2 (tg := 14) rfl rfl true (rk_cz (c := 0) (by decide +kernel) (decide_eq_true (by omega))) ?_
      show rk_ev _ _ 14 _ _ _ _
      refine ev_go (pc' := 15) (lv' := [(0, .int a), (1, .int (Int32.ofInt 0)), (2, .int (0 - (Int32.ofInt 1)))]) (st' := [.int (Int32.ofInt 0)]) (h' := rk_HM) 1 rfl ?_
      exact ev_ret rfl rfl
    show rk_ev _ _ 13 [(0, .ref 316), (1, .int a), (2, .int b)] [.int (Int32.ofInt 0)] rk_HM _
    refine ev_if1 (tg := 20) rfl rfl false (by decide +kernel) ?_
    show rk_ev _ _ 16 _ _ _ _
    refine ev_go (pc' := 19) (lv' := [(0, .ref 316), (1, .int a), (2, .int b)]) (st' := [.int ((Int16.ofInt (-1001)).toInt32)]) (h' := rk_HM) 1 rfl ?_
    exact ev_ret rfl rfl
set_option maxRecDepth 100000 in
set_option maxHeartbeats 4000000 in
theorem cs_kept_p (a b : Int32) (ha : 0 ≤ a.toInt) : rk_ok2 rm_X7_kept rm_X8_kept [.int a, .int b] := by
  refine ⟨((Int16.ofInt (-1001)).toInt32), rk_HM, rk_HM, ?_, ?_⟩
  · show rk_ev _ _ 0 [(0, .ref 1), (1, .int a), (2, .int b)] [] _ _
    refine ev_go (pc' := 5) (lv' := [(0, .ref 1), (1, .int a), (2, .int b)]) (st' := [.int a, .ref 20]) (h' := rk_HM) 3 rfl ?_
    refine ev_call (M' := rm_X5_has) (ar := ([.ref 20, .int a], [])) (o' := (some (.int (Int32.ofInt 0)), rk_HM)) rfl rfl (by decide) (by decide) rfl rfl ?_ ?_
    · show rk_ev _ _ 0 [(0, .ref 20), (1, .int a)] [] _ _
      refine ev_go (pc' := 1) (lv' := [(0, .ref 20), (1, .int a)]) (st' := [.int a]) (h' := rk_HM) 1 rfl ?_
      refine ev_if1 (tg := 16) rfl rfl false (rk_cz (c := 0) (by decide +kernel) (decide_eq_false (by omega))) ?_
      show rk_ev _ _ 4 _ _ _ _
      refine ev_go (pc' := 9) (lv' := [(0, .ref 20), (1, .int a)]) (st' := [.int 0, .int a]) (h' := rk_HM) 3 rfl ?_
      refine ev_if2 (tg := 16) rfl rfl true (rk_cz (c := 0) (by decide +kernel) (decide_eq_true (by omega))) ?_
      show rk_ev _ _ 16 _ _ _ _
      refine ev_go (pc' := 17) (lv' := [(0, .ref 20), (1, .int a)]) (st' := [.int (Int32.ofInt 0)]) (h' := rk_HM) 1 rfl ?_
      exact ev_ret rfl rfl
    show rk_ev _ _ 8 [(0, .ref 1), (1, .int a), (2, .int b)] [.int (Int32.ofInt 0)] rk_HM _
    refine ev_if1 (tg := 15) rfl rfl false (by decide +kernel) ?_
    show rk_ev _ _ 11 _ _ _ _
    refine ev_go (pc' := 14) (lv' := [(0, .ref 1), (1, .int a), (2, .int b)]) (st' := [.int ((Int16.ofInt (-1001)).toInt32)]) (h' := rk_HM) 1 rfl ?_
    exact ev_ret rfl rfl
  · show rk_ev _ _ 0 [(0, .ref 316), (1, .int a), (2, .int b)] [] _ (some (.int ((Int16.ofInt (-1001)).toInt32)), _)
    refine ev_go (pc' := 10) (lv' := [(0, .ref 316), (1, .int a), (2, .int b)]) (st' := [.int (0 - (Int32.ofInt 1)), .int (Int32.ofInt 0), .int a]) (h' := rk_HM) 8 rfl ?_
    refine ev_call (M' := rm_X8_in) (ar := ([.int a, .int (Int32.ofInt 0), .int (0 - (Int32.ofInt 1))], [])) (o' := (some (.int (Int32.ofInt 0)), rk_HM)) rfl rfl (by decide) (by decide) rfl rfl ?_ ?_
    · show rk_ev _ _ 0 [(0, .int a), (1, .int (Int32.ofInt 0)), (2, .int (0 - (Int32.ofInt 1)))] [] _ _
      refine ev_go (pc' := 2) (lv' := [(0, .int a), (1, .int (Int32.ofInt 0)), (2, .int (0 - (Int32.ofInt 1)))]) (st' := [.int (Int32.ofInt 0), .int a]) (h' := rk_HM) 2 rfl ?_
      refine ev_if2 (tg := 14) rfl rfl false (rk_cz (c := 0) (by decide +kernel) (decide_eq_false (by omega))) ?_
      show rk_ev _ _ 5 _ _ _ _
      refine ev_go (pc' := 7) (lv' := [(0, .int a), (1, .int (Int32.ofInt 0)), (2, .int (0 - (Int32.ofInt 1)))]) (st' := [.int (0 - (Int32.ofInt 1)), .int a]) (h' := rk_HM) 2 rfl ?_
      refine ev_if2 (tg := 14) rfl rfl true (rk_cz (c := -1) (by decide +kernel) (decide_eq_true (by omega))) ?_
      show rk_ev _ _ 14 _ _ _ _
      refine ev_go (pc' := 15) (lv' := [(0, .int a), (1, .int (Int32.ofInt 0)), (2, .int (0 - (Int32.ofInt 1)))]) (st' := [.int (Int32.ofInt 0)]) (h' := rk_HM) 1 rfl ?_
      exact ev_ret rfl rfl
    show rk_ev _ _ 13 [(0, .ref 316), (1, .int a), (2, .int b)] [.int (Int32.ofInt 0)] rk_HM _
    refine ev_if1 (tg := 20) rfl rfl false (by decide +kernel) ?_
    show rk_ev _ _ 16 _ _ _ _
    refine ev_go (pc' := 19) (lv' := [(0, .ref 316), (1, .int a), (2, .int b)]) (st' := [.int ((Int16.ofInt (-1001)).toInt32)]) (h' := rk_HM) 1 rfl ?_
    exact ev_ret rfl rfl
set_option maxRecDepth 100000 in
set_option maxHeartbeats 4000000 in
theorem cs_keep0_n (a : Int32) (ha : a.toInt < 0) : rk_ok2 rm_X7_keep rm_X8_keep [.int a, .int 0] := by
  refine ⟨(Int32.ofInt (-1)), rk_HM, rk_HM, ?_, ?_⟩
  · show rk_ev _ _ 0 [(0, .ref 1), (1, .int a), (2, .int 0)] [] _ _
    refine ev_go (pc' := 5) (lv' := [(0, .ref 1), (1, .int a), (2, .int 0)]) (st' := [.int a, .ref 2]) (h' := rk_HM) 3 rfl ?_
    refine ev_call (M' := rm_X3_hasRoutine) (ar := ([.ref 2, .int a], [])) (o' := (some (.int (Int32.ofInt 0)), rk_HM)) rfl rfl (by decide) (by decide) rfl rfl ?_ ?_
    · show rk_ev _ _ 0 [(0, .ref 2), (1, .int a)] [] _ _
      refine ev_go (pc' := 1) (lv' := [(0, .ref 2), (1, .int a)]) (st' := [.int a]) (h' := rk_HM) 1 rfl ?_
      refine ev_if1 (tg := 16) rfl rfl true (rk_cz (c := 0) (by decide +kernel) (decide_eq_true (by omega))) ?_
      show rk_ev _ _ 16 _ _ _ _
      refine ev_go (pc' := 17) (lv' := [(0, .ref 2), (1, .int a)]) (st' := [.int (Int32.ofInt 0)]) (h' := rk_HM) 1 rfl ?_
      exact ev_ret rfl rfl
    show rk_ev _ _ 8 [(0, .ref 1), (1, .int a), (2, .int 0)] [.int (Int32.ofInt 0)] rk_HM _
    refine ev_if1 (tg := 13) rfl rfl false (by decide +kernel) ?_
    show rk_ev _ _ 11 _ _ _ _
    refine ev_go (pc' := 12) (lv' := [(0, .ref 1), (1, .int a), (2, .int 0)]) (st' := [.int (Int32.ofInt (-1))]) (h' := rk_HM) 1 rfl ?_
    exact ev_ret rfl rfl
  · show rk_ev _ _ 0 [(0, .ref 316), (1, .int a), (2, .int 0)] [] _ (some (.int (Int32.ofInt (-1))), _)
    refine ev_go (pc' := 2) (lv' := [(0, .ref 316), (1, .int a), (2, .int 0)]) (st' := [.int a, .ref 316]) (h' := rk_HM) 2 rfl ?_
    refine ev_call (M' := rm_X8_isRoutine) (ar := ([.ref 316, .int a], [])) (o' := (some (.int (Int32.ofInt 0)), rk_HM)) rfl rfl (by decide) (by decide) rfl rfl ?_ ?_
    · show rk_ev _ _ 0 [(0, .ref 316), (1, .int a)] [] _ _
      refine ev_go (pc' := 8) (lv' := [(0, .ref 316), (1, .int a)]) (st' := [.int (0 - (Int32.ofInt 1)), .int (Int32.ofInt 0), .int a]) (h' := rk_HM) 6 rfl ?_
      refine ev_call (M' := rm_X8_in) (ar := ([.int a, .int (Int32.ofInt 0), .int (0 - (Int32.ofInt 1))], [])) (o' := (some (.int (Int32.ofInt 0)), rk_HM)) rfl rfl (by decide) (by decide) rfl rfl ?_ ?_
      · show rk_ev _ _ 0 [(0, .int a), (1, .int (Int32.ofInt 0)), (2, .int (0 - (Int32.ofInt 1)))] [] _ _
        refine ev_go (pc' := 2) (lv' := [(0, .int a), (1, .int (Int32.ofInt 0)), (2, .int (0 - (Int32.ofInt 1)))]) (st' := [.int (Int32.ofInt 0), .int a]) (h' := rk_HM) 2 rfl ?_
        refine ev_if2 (tg := 14) rfl rfl true (rk_cz (c := 0) (by decide +kernel) (decide_eq_true (by omega))) ?_
        show rk_ev _ _ 14 _ _ _ _
        refine ev_go (pc' := 15) (lv' := [(0, .int a), (1, .int (Int32.ofInt 0)), (2, .int (0 - (Int32.ofInt 1)))]) (st' := [.int (Int32.ofInt 0)]) (h' := rk_HM) 1 rfl ?_
        exact ev_ret rfl rfl
      show rk_ev _ _ 11 [(0, .ref 316), (1, .int a)] [.int (Int32.ofInt 0)] rk_HM _
      exact ev_ret rfl rfl
    show rk_ev _ _ 5 [(0, .ref 316), (1, .int a), (2, .int 0)] [.int (Int32.ofInt 0)] rk_HM _
    refine ev_if1 (tg := 10) rfl rfl false (by decide +kernel) ?_
    show rk_ev _ _ 8 _ _ _ _
    refine ev_go (pc' := 9) (lv' := [(0, .ref 316), (1, .int a), (2, .int 0)]) (st' := [.int (Int32.ofInt (-1))]) (h' := rk_HM) 1 rfl ?_
    exact ev_ret rfl rfl
set_option maxRecDepth 100000 in
set_option maxHeartbeats 4000000 in
theorem cs_keep0_p (a : Int32) (ha : 0 ≤ a.toInt) : rk_ok2 rm_X7_keep rm_X8_keep [.int a, .int 0] := by
  refine ⟨(Int32.ofInt (-1)), rk_HM, rk_HM, ?_, ?_⟩
  · show rk_ev _ _ 0 [(0, .ref 1), (1, .int a), (2, .int 0)] [] _ _
    refine ev_go (pc' := 5) (lv' := [(0, .ref 1), (1, .int a), (2, .int 0)]) (st' := [.int a, .ref 2]) (h' := rk_HM) 3 rfl ?_
    refine ev_call (M' := rm_X3_hasRoutine) (ar := ([.ref 2, .int a], [])) (o' := (some (.int (Int32.ofInt 0)), rk_HM)) rfl rfl (by decide) (by decide) rfl rfl ?_ ?_
    · show rk_ev _ _ 0 [(0, .ref 2), (1, .int a)] [] _ _
      refine ev_go (pc' := 1) (lv' := [(0, .ref 2), (1, .int a)]) (st' := [.int a]) (h' := rk_HM) 1 rfl ?_
      refine ev_if1 (tg := 16) rfl rfl false (rk_cz (c := 0) (by decide +kernel) (decide_eq_false (by omega))) ?_
      show rk_ev _ _ 4 _ _ _ _
      refine ev_go (pc' := 9) (lv' := [(0, .ref 2), (1, .int a)]) (st' := [.int 0, .int a]) (h' := rk_HM) 3 rfl ?_
      refine ev_if2 (tg := 16) rfl rfl true (rk_cz (c := 0) (by decide +kernel) (decide_eq_true (by omega))) ?_
      show rk_ev _ _ 16 _ _ _ _
      refine ev_go (pc' := 17) (lv' := [(0, .ref 2), (1, .int a)]) (st' := [.int (Int32.ofInt 0)]) (h' := rk_HM) 1 rfl ?_
      exact ev_ret rfl rfl
    show rk_ev _ _ 8 [(0, .ref 1), (1, .int a), (2, .int 0)] [.int (Int32.ofInt 0)] rk_HM _
    refine ev_if1 (tg := 13) rfl rfl false (by decide +kernel) ?_
    show rk_ev _ _ 11 _ _ _ _
    refine ev_go (pc' := 12) (lv' := [(0, .ref 1), (1, .int a), (2, .int 0)]) (st' := [.int (Int32.ofInt (-1))]) (h' := rk_HM) 1 rfl ?_
    exact ev_ret rfl rfl
  · show rk_ev _ _ 0 [(0, .ref 316), (1, .int a), (2, .int 0)] [] _ (some (.int (Int32.ofInt (-1))), _)
    refine ev_go (pc' := 2) (lv' := [(0, .ref 316), (1, .int a), (2, .int 0)]) (st' := [.int a, .ref 316]) (h' := rk_HM) 2 rfl ?_
    refine ev_call (M' := rm_X8_isRoutine) (ar := ([.ref 316, .int a], [])) (o' := (some (.int (Int32.ofInt 0)), rk_HM)) rfl rfl (by decide) (by decide) rfl rfl ?_ ?_
    · show rk_ev _ _ 0 [(0, .ref 316), (1, .int a)] [] _ _
      refine ev_go (pc' := 8) (lv' := [(0, .ref 316), (1, .int a)]) (st' := [.int (0 - (Int32.ofInt 1)), .int (Int32.ofInt 0), .int a]) (h' := rk_HM) 6 rfl ?_
      refine ev_call (M' := rm_X8_in) (ar := ([.int a, .int (Int32.ofInt 0), .int (0 - (Int32.ofInt 1))], [])) (o' := (some (.int (Int32.ofInt 0)), rk_HM)) rfl rfl (by decide) (by decide) rfl rfl ?_ ?_
      · show rk_ev _ _ 0 [(0, .int a), (1, .int (Int32.ofInt 0)), (2, .int (0 - (Int32.ofInt 1)))] [] _ _
        refine ev_go (pc' := 2) (lv' := [(0, .int a), (1, .int (Int32.ofInt 0)), (2, .int (0 - (Int32.ofInt 1)))]) (st' := [.int (Int32.ofInt 0), .int a]) (h' := rk_HM) 2 rfl ?_
        refine ev_if2 (tg := 14) rfl rfl false (rk_cz (c := 0) (by decide +kernel) (decide_eq_false (by omega))) ?_
        show rk_ev _ _ 5 _ _ _ _
        refine ev_go (pc' := 7) (lv' := [(0, .int a), (1, .int (Int32.ofInt 0)), (2, .int (0 - (Int32.ofInt 1)))]) (st' := [.int (0 - (Int32.ofInt 1)), .int a]) (h' := rk_HM) 2 rfl ?_
        refine ev_if2 (tg := 14) rfl rfl true (rk_cz (c := -1) (by decide +kernel) (decide_eq_true (by omega))) ?_
        show rk_ev _ _ 14 _ _ _ _
        refine ev_go (pc' := 15) (lv' := [(0, .int a), (1, .int (Int32.ofInt 0)), (2, .int (0 - (Int32.ofInt 1)))]) (st' := [.int (Int32.ofInt 0)]) (h' := rk_HM) 1 rfl ?_
        exact ev_ret rfl rfl
      show rk_ev _ _ 11 [(0, .ref 316), (1, .int a)] [.int (Int32.ofInt 0)] rk_HM _
      exact ev_ret rfl rfl
    show rk_ev _ _ 5 [(0, .ref 316), (1, .int a), (2, .int 0)] [.int (Int32.ofInt 0)] rk_HM _
    refine ev_if1 (tg := 10) rfl rfl false (by decide +kernel) ?_
    show rk_ev _ _ 8 _ _ _ _
    refine ev_go (pc' := 9) (lv' := [(0, .ref 316), (1, .int a), (2, .int 0)]) (st' := [.int (Int32.ofInt (-1))]) (h' := rk_HM) 1 rfl ?_
    exact ev_ret rfl rfl
set_option maxRecDepth 100000 in
set_option maxHeartbeats 4000000 in
theorem cs_keep1_n (a : Int32) (ha : a.toInt < 0) : rk_ok2 rm_X7_keep rm_X8_keep [.int a, .int 1] := by
  refine ⟨(Int32.ofInt (-1)), rk_HM, rk_HM, ?_, ?_⟩
  · show rk_ev _ _ 0 [(0, .ref 1), (1, .int a), (2, .int 1)] [] _ _
    refine ev_go (pc' := 5) (lv' := [(0, .ref 1), (1, .int a), (2, .int 1)]) (st' := [.int a, .ref 2]) (h' := rk_HM) 3 rfl ?_
    refine ev_call (M' := rm_X3_hasRoutine) (ar := ([.ref 2, .int a], [])) (o' := (some (.int (Int32.ofInt 0)), rk_HM)) rfl rfl (by decide) (by decide) rfl rfl ?_ ?_
    · show rk_ev _ _ 0 [(0, .ref 2), (1, .int a)] [] _ _
      refine ev_go (pc' := 1) (lv' := [(0, .ref 2), (1, .int a)]) (st' := [.int a]) (h' := rk_HM) 1 rfl ?_
      refine ev_if1 (tg := 16) rfl rfl true (rk_cz (c := 0) (by decide +kernel) (decide_eq_true (by omega))) ?_
      show rk_ev _ _ 16 _ _ _ _
      refine ev_go (pc' := 17) (lv' := [(0, .ref 2), (1, .int a)]) (st' := [.int (Int32.ofInt 0)]) (h' := rk_HM) 1 rfl ?_
      exact ev_ret rfl rfl
    show rk_ev _ _ 8 [(0, .ref 1), (1, .int a), (2, .int 1)] [.int (Int32.ofInt 0)] rk_HM _
    refine ev_if1 (tg := 13) rfl rfl false (by decide +kernel) ?_
    show rk_ev _ _ 11 _ _ _ _
    refine ev_go (pc' := 12) (lv' := [(0, .ref 1), (1, .int a), (2, .int 1)]) (st' := [.int (Int32.ofInt (-1))]) (h' := rk_HM) 1 rfl ?_
    exact ev_ret rfl rfl
  · show rk_ev _ _ 0 [(0, .ref 316), (1, .int a), (2, .int 1)] [] _ (some (.int (Int32.ofInt (-1))), _)
    refine ev_go (pc' := 2) (lv' := [(0, .ref 316), (1, .int a), (2, .int 1)]) (st' := [.int a, .ref 316]) (h' := rk_HM) 2 rfl ?_
    refine ev_call (M' := rm_X8_isRoutine) (ar := ([.ref 316, .int a], [])) (o' := (some (.int (Int32.ofInt 0)), rk_HM)) rfl rfl (by decide) (by decide) rfl rfl ?_ ?_
    · show rk_ev _ _ 0 [(0, .ref 316), (1, .int a)] [] _ _
      refine ev_go (pc' := 8) (lv' := [(0, .ref 316), (1, .int a)]) (st' := [.int (0 - (Int32.ofInt 1)), .int (Int32.ofInt 0), .int a]) (h' := rk_HM) 6 rfl ?_
      refine ev_call (M' := rm_X8_in) (ar := ([.int a, .int (Int32.ofInt 0), .int (0 - (Int32.ofInt 1))], [])) (o' := (some (.int (Int32.ofInt 0)), rk_HM)) rfl rfl (by decide) (by decide) rfl rfl ?_ ?_
      · show rk_ev _ _ 0 [(0, .int a), (1, .int (Int32.ofInt 0)), (2, .int (0 - (Int32.ofInt 1)))] [] _ _
        refine ev_go (pc' := 2) (lv' := [(0, .int a), (1, .int (Int32.ofInt 0)), (2, .int (0 - (Int32.ofInt 1)))]) (st' := [.int (Int32.ofInt 0), .int a]) (h' := rk_HM) 2 rfl ?_
        refine ev_if2 (tg := 14) rfl rfl true (rk_cz (c := 0) (by decide +kernel) (decide_eq_true (by omega))) ?_
        show rk_ev _ _ 14 _ _ _ _
        refine ev_go (pc' := 15) (lv' := [(0, .int a), (1, .int (Int32.ofInt 0)), (2, .int (0 - (Int32.ofInt 1)))]) (st' := [.int (Int32.ofInt 0)]) (h' := rk_HM) 1 rfl ?_
        exact ev_ret rfl rfl
      show rk_ev _ _ 11 [(0, .ref 316), (1, .int a)] [.int (Int32.ofInt 0)] rk_HM _
      exact ev_ret rfl rfl
    show rk_ev _ _ 5 [(0, .ref 316), (1, .int a), (2, .int 1)] [.int (Int32.ofInt 0)] rk_HM _
    refine ev_if1 (tg := 10) rfl rfl false (by decide +kernel) ?_
    show rk_ev _ _ 8 _ _ _ _
    refine ev_go (pc' := 9) (lv' := [(0, .ref 316), (1, .int a), (2, .int 1)]) (st' := [.int (Int32.ofInt (-1))]) (h' := rk_HM) 1 rfl ?_
    exact ev_ret rfl rfl
set_option maxRecDepth 100000 in
set_option maxHeartbeats 4000000 in
theorem cs_keep1_p (a : Int32) (ha : 0 ≤ a.toInt) : rk_ok2 rm_X7_keep rm_X8_keep [.int a, .int 1] := by
  refine ⟨(Int32.ofInt (-1)), rk_HM, rk_HM, ?_, ?_⟩
  · show rk_ev _ _ 0 [(0, .ref 1), (1, .int a), (2, .int 1)] [] _ _
    refine ev_go (pc' := 5) (lv' := [(0, .ref 1), (1, .int a), (2, .int 1)]) (st' := [.int a, .ref 2]) (h' := rk_HM) 3 rfl ?_
    refine ev_call (M' := rm_X3_hasRoutine) (ar := ([.ref 2, .int a], [])) (o' := (some (.int (Int32.ofInt 0)), rk_HM)) rfl rfl (by decide) (by decide) rfl rfl ?_ ?_
    · show rk_ev _ _ 0 [(0, .ref 2), (1, .int a)] [] _ _
      refine ev_go (pc' := 1) (lv' := [(0, .ref 2), (1, .int a)]) (st' := [.int a]) (h' := rk_HM) 1 rfl ?_
      refine ev_if1 (tg := 16) rfl rfl false (rk_cz (c := 0) (by decide +kernel) (decide_eq_false (by omega))) ?_
      show rk_ev _ _ 4 _ _ _ _
      refine ev_go (pc' := 9) (lv' := [(0, .ref 2), (1, .int a)]) (st' := [.int 0, .int a]) (h' := rk_HM) 3 rfl ?_
      refine ev_if2 (tg := 16) rfl rfl true (rk_cz (c := 0) (by decide +kernel) (decide_eq_true (by omega))) ?_
      show rk_ev _ _ 16 _ _ _ _
      refine ev_go (pc' := 17) (lv' := [(0, .ref 2), (1, .int a)]) (st' := [.int (Int32.ofInt 0)]) (h' := rk_HM) 1 rfl ?_
      exact ev_ret rfl rfl
    show rk_ev _ _ 8 [(0, .ref 1), (1, .int a), (2, .int 1)] [.int (Int32.ofInt 0)] rk_HM _
    refine ev_if1 (tg := 13) rfl rfl false (by decide +kernel) ?_
    show rk_ev _ _ 11 _ _ _ _
    refine ev_go (pc' := 12) (lv' := [(0, .ref 1), (1, .int a), (2, .int 1)]) (st' := [.int (Int32.ofInt (-1))]) (h' := rk_HM) 1 rfl ?_
    exact ev_ret rfl rfl
  · show rk_ev _ _ 0 [(0, .ref 316), (1, .int a), (2, .int 1)] [] _ (some (.int (Int32.ofInt (-1))), _)
    refine ev_go (pc' := 2) (lv' := [(0, .ref 316), (1, .int a), (2, .int 1)]) (st' := [.int a, .ref 316]) (h' := rk_HM) 2 rfl ?_
    refine ev_call (M' := rm_X8_isRoutine) (ar := ([.ref 316, .int a], [])) (o' := (some (.int (Int32.ofInt 0)), rk_HM)) rfl rfl (by decide) (by decide) rfl rfl ?_ ?_
    · show rk_ev _ _ 0 [(0, .ref 316), (1, .int a)] [] _ _
      refine ev_go (pc' := 8) (lv' := [(0, .ref 316), (1, .int a)]) (st' := [.int (0 - (Int32.ofInt 1)), .int (Int32.ofInt 0), .int a]) (h' := rk_HM) 6 rfl ?_
      refine ev_call (M' := rm_X8_in) (ar := ([.int a, .int (Int32.ofInt 0), .int (0 - (Int32.ofInt 1))], [])) (o' := (some (.int (Int32.ofInt 0)), rk_HM)) rfl rfl (by decide) (by decide) rfl rfl ?_ ?_
      · show rk_ev _ _ 0 [(0, .int a), (1, .int (Int32.ofInt 0)), (2, .int (0 - (Int32.ofInt 1)))] [] _ _
        refine ev_go (pc' := 2) (lv' := [(0, .int a), (1, .int (Int32.ofInt 0)), (2, .int (0 - (Int32.ofInt 1)))]) (st' := [.int (Int32.ofInt 0), .int a]) (h' := rk_HM) 2 rfl ?_
        refine ev_if2 (tg := 14) rfl rfl false (rk_cz (c := 0) (by decide +kernel) (decide_eq_false (by omega))) ?_
        show rk_ev _ _ 5 _ _ _ _
        refine ev_go (pc' := 7) (lv' := [(0, .int a), (1, .int (Int32.ofInt 0)), (2, .int (0 - (Int32.ofInt 1)))]) (st' := [.int (0 - (Int32.ofInt 1)), .int a]) (h' := rk_HM) 2 rfl ?_
        refine ev_if2 (tg := 14) rfl rfl true (rk_cz (c := -1) (by decide +kernel) (decide_eq_true (by omega))) ?_
        show rk_ev _ _ 14 _ _ _ _
        refine ev_go (pc' := 15) (lv' := [(0, .int a), (1, .int (Int32.ofInt 0)), (2, .int (0 - (Int32.ofInt 1)))]) (st' := [.int (Int32.ofInt 0)]) (h' := rk_HM) 1 rfl ?_
        exact ev_ret rfl rfl
      show rk_ev _ _ 11 [(0, .ref 316), (1, .int a)] [.int (Int32.ofInt 0)] rk_HM _
      exact ev_ret rfl rfl
    show rk_ev _ _ 5 [(0, .ref 316), (1, .int a), (2, .int 1)] [.int (Int32.ofInt 0)] rk_HM _
    refine ev_if1 (tg := 10) rfl rfl false (by decide +kernel) ?_
    show rk_ev _ _ 8 _ _ _ _
    refine ev_go (pc' := 9) (lv' := [(0, .ref 316), (1, .int a), (2, .int 1)]) (st' := [.int (Int32.ofInt (-1))]) (h' := rk_HM) 1 rfl ?_
    exact ev_ret rfl rfl
set_option maxRecDepth 100000 in
set_option maxHeartbeats 4000000 in
theorem cs_lot (a : Int32)  : rk_ok2 rm_X7_lot rm_X8_lot [.int a] := by
  refine ⟨1, (rk_HM.set 18 (6, [.ref 19, .int a])), ((rk_HM.set 18 (6, [.ref 19, .int a])).set 321 (9, [.int a, .int 0])), ?_, ?_⟩
  · show rk_ev _ _ 0 [(0, .ref 1), (1, .int a)] [] _ _
    refine ev_go (pc' := 17) (lv' := [(2, .int 1), (0, .ref 1), (1, .int a)]) (st' := [.int 1]) (h' := (rk_HM.set 18 (6, [.ref 19, .int a]))) 9 rfl ?_
    exact ev_ret rfl rfl
  · show rk_ev _ _ 0 [(0, .ref 316), (1, .int a)] [] _ (some (.int 1), _)
    refine ev_go (pc' := 15) (lv' := [(2, .int 1), (0, .ref 316), (1, .int a)]) (st' := [.int 1]) (h' := ((rk_HM.set 18 (6, [.ref 19, .int a])).set 321 (9, [.int a, .int 0]))) 11 rfl ?_
    exact ev_ret rfl rfl
set_option maxRecDepth 100000 in
set_option maxHeartbeats 4000000 in
theorem cs_held_n (a : Int32) (ha : a.toInt < 0) : rk_ok2 rm_X7_held rm_X8_held [.int a] := by
  refine ⟨(Int32.ofInt 0), rk_HM, rk_HM, ?_, ?_⟩
  · show rk_ev _ _ 0 [(0, .ref 1), (1, .int a)] [] _ _
    refine ev_go (pc' := 5) (lv' := [(0, .ref 1), (1, .int a)]) (st' := [.int a, .ref 18]) (h' := rk_HM) 3 rfl ?_
    refine ev_call (M' := rm_X6_valueOf) (ar := ([.ref 18, .int a], [])) (o' := (some (.int (Int32.ofInt 0)), rk_HM)) rfl rfl (by decide) (by decide) rfl rfl ?_ ?_
    · show rk_ev _ _ 0 [(0, .ref 18), (1, .int a)] [] _ _
      refine ev_go (pc' := 1) (lv' := [(0, .ref 18), (1, .int a)]) (st' := [.int a]) (h' := rk_HM) 1 rfl ?_
      refine ev_if1 (tg := 19) rfl rfl true (rk_cz (c := 0) (by decide +kernel) (decide_eq_true (by omega))) ?_
      show rk_ev _ _ 19 _ _ _ _
      refine ev_go (pc' := 20) (lv' := [(0, .ref 18), (1, .int a)]) (st' := [.int (Int32.ofInt 0)]) (h' := rk_HM) 1 rfl ?_
      exact ev_ret rfl rfl
    show rk_ev _ _ 8 [(0, .ref 1), (1, .int a)] [.int (Int32.ofInt 0)] rk_HM _
    exact ev_ret rfl rfl
  · show rk_ev _ _ 0 [(0, .ref 316), (1, .int a)] [] _ (some (.int (Int32.ofInt 0)), _)
    refine ev_go (pc' := 4) (lv' := [(0, .ref 316), (1, .int a)]) (st' := [.int ((Int8.ofInt 15).toInt32), .int (Int32.ofInt 0), .int a]) (h' := rk_HM) 3 rfl ?_
    refine ev_call (M' := rm_X8_in) (ar := ([.int a, .int (Int32.ofInt 0), .int ((Int8.ofInt 15).toInt32)], [])) (o' := (some (.int (Int32.ofInt 0)), rk_HM)) rfl rfl (by decide) (by decide) rfl rfl ?_ ?_
    · show rk_ev _ _ 0 [(0, .int a), (1, .int (Int32.ofInt 0)), (2, .int ((Int8.ofInt 15).toInt32))] [] _ _
      refine ev_go (pc' := 2) (lv' := [(0, .int a), (1, .int (Int32.ofInt 0)), (2, .int ((Int8.ofInt 15).toInt32))]) (st' := [.int (Int32.ofInt 0), .int a]) (h' := rk_HM) 2 rfl ?_
      refine ev_if2 (tg := 14) rfl rfl true (rk_cz (c := 0) (by decide +kernel) (decide_eq_true (by omega))) ?_
      show rk_ev _ _ 14 _ _ _ _
      refine ev_go (pc' := 15) (lv' := [(0, .int a), (1, .int (Int32.ofInt 0)), (2, .int ((Int8.ofInt 15).toInt32))]) (st' := [.int (Int32.ofInt 0)]) (h' := rk_HM) 1 rfl ?_
      exact ev_ret rfl rfl
    show rk_ev _ _ 7 [(0, .ref 316), (1, .int a)] [.int (Int32.ofInt 0)] rk_HM _
    refine ev_if1 (tg := 19) rfl rfl true (by decide +kernel) ?_
    show rk_ev _ _ 19 _ _ _ _
    refine ev_go (pc' := 20) (lv' := [(0, .ref 316), (1, .int a)]) (st' := [.int (Int32.ofInt 0)]) (h' := rk_HM) 1 rfl ?_
    exact ev_ret rfl rfl
set_option maxRecDepth 100000 in
set_option maxHeartbeats 4000000 in
theorem cs_held_p (a : Int32) (ha : 16 ≤ a.toInt) : rk_ok2 rm_X7_held rm_X8_held [.int a] := by
  refine ⟨(Int32.ofInt 0), rk_HM, rk_HM, ?_, ?_⟩
  · show rk_ev _ _ 0 [(0, .ref 1), (1, .int a)] [] _ _
    refine ev_go (pc' := 5) (lv' := [(0, .ref 1), (1, .int a)]) (st' := [.int a, .ref 18]) (h' := rk_HM) 3 rfl ?_
    refine ev_call (M' := rm_X6_valueOf) (ar := ([.ref 18, .int a], [])) (o' := (some (.int (Int32.ofInt 0)), rk_HM)) rfl rfl (by decide) (by decide) rfl rfl ?_ ?_
    · show rk_ev _ _ 0 [(0, .ref 18), (1, .int a)] [] _ _
      refine ev_go (pc' := 1) (lv' := [(0, .ref 18), (1, .int a)]) (st' := [.int a]) (h' := rk_HM) 1 rfl ?_
      refine ev_if1 (tg := 19) rfl rfl false (rk_cz (c := 0) (by decide +kernel) (decide_eq_false (by omega))) ?_
      show rk_ev _ _ 4 _ _ _ _
      refine ev_go (pc' := 7) (lv' := [(0, .ref 18), (1, .int a)]) (st' := [.int ((Int8.ofInt 16).toInt32), .int a]) (h' := rk_HM) 2 rfl ?_
      refine ev_if2 (tg := 19) rfl rfl true (rk_cz (c := 16) (by decide +kernel) (decide_eq_true (by omega))) ?_
      show rk_ev _ _ 19 _ _ _ _
      refine ev_go (pc' := 20) (lv' := [(0, .ref 18), (1, .int a)]) (st' := [.int (Int32.ofInt 0)]) (h' := rk_HM) 1 rfl ?_
      exact ev_ret rfl rfl
    show rk_ev _ _ 8 [(0, .ref 1), (1, .int a)] [.int (Int32.ofInt 0)] rk_HM _
    exact ev_ret rfl rfl
  · show rk_ev _ _ 0 [(0, .ref 316), (1, .int a)] [] _ (some (.int (Int32.ofInt 0)), _)
    refine ev_go (pc' := 4) (lv' := [(0, .ref 316), (1, .int a)]) (st' := [.int ((Int8.ofInt 15).toInt32), .int (Int32.ofInt 0), .int a]) (h' := rk_HM) 3 rfl ?_
    refine ev_call (M' := rm_X8_in) (ar := ([.int a, .int (Int32.ofInt 0), .int ((Int8.ofInt 15).toInt32)], [])) (o' := (some (.int (Int32.ofInt 0)), rk_HM)) rfl rfl (by decide) (by decide) rfl rfl ?_ ?_
    · show rk_ev _ _ 0 [(0, .int a), (1, .int (Int32.ofInt 0)), (2, .int ((Int8.ofInt 15).toInt32))] [] _ _
      refine ev_go (pc' := 2) (lv' := [(0, .int a), (1, .int (Int32.ofInt 0)), (2, .int ((Int8.ofInt 15).toInt32))]) (st' := [.int (Int32.ofInt 0), .int a]) (h' := rk_HM) 2 rfl ?_
      refine ev_if2 (tg := 14) rfl rfl false (rk_cz (c := 0) (by decide +kernel) (decide_eq_false (by omega))) ?_
      show rk_ev _ _ 5 _ _ _ _
      refine ev_go (pc' := 7) (lv' := [(0, .int a), (1, .int (Int32.ofInt 0)), (2, .int ((Int8.ofInt 15).toInt32))]) (st' := [.int ((Int8.ofInt 15).toInt32), .int a]) (h' := rk_HM) 2 rfl ?_
      refine ev_if2 (tg := 14) rfl rfl true (rk_cz (c := 15) (by decide +kernel) (decide_eq_true (by omega))) ?_
      show rk_ev _ _ 14 _ _ _ _
      refine ev_go (pc' := 15) (lv' := [(0, .int a), (1, .int (Int32.ofInt 0)), (2, .int ((Int8.ofInt 15).toInt32))]) (st' := [.int (Int32.ofInt 0)]) (h' := rk_HM) 1 rfl ?_
      exact ev_ret rfl rfl
    show rk_ev _ _ 7 [(0, .ref 316), (1, .int a)] [.int (Int32.ofInt 0)] rk_HM _
    refine ev_if1 (tg := 19) rfl rfl true (by decide +kernel) ?_
    show rk_ev _ _ 19 _ _ _ _
    refine ev_go (pc' := 20) (lv' := [(0, .ref 316), (1, .int a)]) (st' := [.int (Int32.ofInt 0)]) (h' := rk_HM) 1 rfl ?_
    exact ev_ret rfl rfl
set_option maxRecDepth 100000 in
set_option maxHeartbeats 4000000 in
theorem cs_store_n (a b : Int32) (ha : a.toInt < 0) : rk_ok2 rm_X7_store rm_X8_store [.int a, .int b] := by
  refine ⟨(Int32.ofInt 0), rk_HM, rk_HM, ?_, ?_⟩
  · show rk_ev _ _ 0 [(0, .ref 1), (1, .int a), (2, .int b)] [] _ _
    refine ev_go (pc' := 5) (lv' := [(0, .ref 1), (1, .int a), (2, .int b)]) (st' := [.int a, .ref 18]) (h' := rk_HM) 3 rfl ?_
    refine ev_call (M' := rm_X6_valueOf) (ar := ([.ref 18, .int a], [])) (o' := (some (.int (Int32.ofInt 0)), rk_HM)) rfl rfl (by decide) (by decide) rfl rfl ?_ ?_
    · show rk_ev _ _ 0 [(0, .ref 18), (1, .int a)] [] _ _
      refine ev_go (pc' := 1) (lv' := [(0, .ref 18), (1, .int a)]) (st' := [.int a]) (h' := rk_HM) 1 rfl ?_
      refine ev_if1 (tg := 19) rfl rfl true (rk_cz (c := 0) (by decide +kernel) (decide_eq_true (by omega))) ?_
      show rk_ev _ _ 19 _ _ _ _
      refine ev_go (pc' := 20) (lv' := [(0, .ref 18), (1, .int a)]) (st' := [.int (Int32.ofInt 0)]) (h' := rk_HM) 1 rfl ?_
      exact ev_ret rfl rfl
    show rk_ev _ _ 8 [(0, .ref 1), (1, .int a), (2, .int b)] [.int (Int32.ofInt 0)] rk_HM _
    refine ev_go (pc' := 15) (lv' := [(3, .int (Int32.ofInt 0)), (0, .ref 1), (1, .int a), (2, .int b)]) (st' := [.int b, .int a, .ref 18]) (h' := rk_HM) 5 rfl ?_
    refine ev_call (M' := rm_X6_setValue) (ar := ([.ref 18, .int a, .int b], [])) (o' := (none, rk_HM)) rfl rfl (by decide) (by decide) rfl rfl ?_ ?_
    · show rk_ev _ _ 0 [(0, .ref 18), (1, .int a), (2, .int b)] [] _ _
      refine ev_go (pc' := 1) (lv' := [(0, .ref 18), (1, .int a), (2, .int b)]) (st' := [.int a]) (h' := rk_HM) 1 rfl ?_
      refine ev_if1 (tg := 17) rfl rfl true (rk_cz (c := 0) (by decide +kernel) (decide_eq_true (by omega))) ?_
      show rk_ev _ _ 17 _ _ _ _
      exact ev_ret rfl rfl
    show rk_ev _ _ 18 [(3, .int (Int32.ofInt 0)), (0, .ref 1), (1, .int a), (2, .int b)] [] rk_HM _
    refine ev_go (pc' := 19) (lv' := [(3, .int (Int32.ofInt 0)), (0, .ref 1), (1, .int a), (2, .int b)]) (st' := [.int (Int32.ofInt 0)]) (h' := rk_HM) 1 rfl ?_
    exact ev_ret rfl rfl
  · show rk_ev _ _ 0 [(0, .ref 316), (1, .int a), (2, .int b)] [] _ (some (.int (Int32.ofInt 0)), _)
    refine ev_go (pc' := 4) (lv' := [(0, .ref 316), (1, .int a), (2, .int b)]) (st' := [.int ((Int8.ofInt 15).toInt32), .int (Int32.ofInt 0), .int a]) (h' := rk_HM) 3 rfl ?_
    refine ev_call (M' := rm_X8_in) (ar := ([.int a, .int (Int32.ofInt 0), .int ((Int8.ofInt 15).toInt32)], [])) (o' := (some (.int (Int32.ofInt 0)), rk_HM)) rfl rfl (by decide) (by decide) rfl rfl ?_ ?_
    · show rk_ev _ _ 0 [(0, .int a), (1, .int (Int32.ofInt 0)), (2, .int ((Int8.ofInt 15).toInt32))] [] _ _
      refine ev_go (pc' := 2) (lv' := [(0, .int a), (1, .int (Int32.ofInt 0)), (2, .int ((Int8.ofInt 15).toInt32))]) (st' := [.int (Int32.ofInt 0), .int a]) (h' := rk_HM) 2 rfl ?_
      refine ev_if2 (tg := 14) rfl rfl true (rk_cz (c := 0) (by decide +kernel) (decide_eq_true (by omega))) ?_
      show rk_ev _ _ 14 _ _ _ _
      refine ev_go (pc' := 15) (lv' := [(0, .int a), (1, .int (Int32.ofInt 0)), (2, .int ((Int8.ofInt 15).toInt32))]) (st' := [.int (Int32.ofInt 0)]) (h' := rk_HM) 1 rfl ?_
      exact ev_ret rfl rfl
    show rk_ev _ _ 7 [(0, .ref 316), (1, .int a), (2, .int b)] [.int (Int32.ofInt 0)] rk_HM _
    refine ev_if1 (tg := 12) rfl rfl false (by decide +kernel) ?_
    show rk_ev _ _ 10 _ _ _ _
    refine ev_go (pc' := 11) (lv' := [(0, .ref 316), (1, .int a), (2, .int b)]) (st' := [.int (Int32.ofInt 0)]) (h' := rk_HM) 1 rfl ?_
    exact ev_ret rfl rfl
set_option maxRecDepth 100000 in
set_option maxHeartbeats 4000000 in
theorem cs_store_p (a b : Int32) (ha : 16 ≤ a.toInt) : rk_ok2 rm_X7_store rm_X8_store [.int a, .int b] := by
  refine ⟨(Int32.ofInt 0), rk_HM, rk_HM, ?_, ?_⟩
  · show rk_ev _ _ 0 [(0, .ref 1), (1, .int a), (2, .int b)] [] _ _
    refine ev_go (pc' := 5) (lv' := [(0, .ref 1), (1, .int a), (2, .int b)]) (st' := [.int a, .ref 18]) (h' := rk_HM) 3 rfl ?_
    refine ev_call (M' := rm_X6_valueOf) (ar := ([.ref 18, .int a], [])) (o' := (some (.int (Int32.ofInt 0)), rk_HM)) rfl rfl (by decide) (by decide) rfl rfl ?_ ?_
    · show rk_ev _ _ 0 [(0, .ref 18), (1, .int a)] [] _ _
      refine ev_go (pc' := 1) (lv' := [(0, .ref 18), (1, .int a)]) (st' := [.int a]) (h' := rk_HM) 1 rfl ?_
      refine ev_if1 (tg := 19) rfl rfl false (rk_cz (c := 0) (by decide +kernel) (decide_eq_false (by omega))) ?_
      show rk_ev _ _ 4 _ _ _ _
      refine ev_go (pc' := 7) (lv' := [(0, .ref 18), (1, .int a)]) (st' := [.int ((Int8.ofInt 16).toInt32), .int a]) (h' := rk_HM) 2 rfl ?_
      refine ev_if2 (tg := 19) rfl rfl true (rk_cz (c := 16) (by decide +kernel) (decide_eq_true (by omega))) ?_
      show rk_ev _ _ 19 _ _ _ _
      refine ev_go (pc' := 20) (lv' := [(0, .ref 18), (1, .int a)]) (st' := [.int (Int32.ofInt 0)]) (h' := rk_HM) 1 rfl ?_
      exact ev_ret rfl rfl
    show rk_ev _ _ 8 [(0, .ref 1), (1, .int a), (2, .int b)] [.int (Int32.ofInt 0)] rk_HM _
    refine ev_go (pc' := 15) (lv' := [(3, .int (Int32.ofInt 0)), (0, .ref 1), (1, .int a), (2, .int b)]) (st' := [.int b, .int a, .ref 18]) (h' := rk_HM) 5 rfl ?_
    refine ev_call (M' := rm_X6_setValue) (ar := ([.ref 18, .int a, .int b], [])) (o' := (none, rk_HM)) rfl rfl (by decide) (by decide) rfl rfl ?_ ?_
    · show rk_ev _ _ 0 [(0, .ref 18), (1, .int a), (2, .int b)] [] _ _
      refine ev_go (pc' := 1) (lv' := [(0, .ref 18), (1, .int a), (2, .int b)]) (st' := [.int a]) (h' := rk_HM) 1 rfl ?_
      refine ev_if1 (tg := 17) rfl rfl false (rk_cz (c := 0) (by decide +kernel) (decide_eq_false (by omega))) ?_
      show rk_ev _ _ 4 _ _ _ _
      refine ev_go (pc' := 7) (lv' := [(0, .ref 18), (1, .int a), (2, .int b)]) (st' := [.int ((Int8.ofInt 16).toInt32), .int a]) (h' := rk_HM) 2 rfl ?_
      refine ev_if2 (tg := 17) rfl rfl true (rk_cz (c := 16) (by decide +kernel) (decide_eq_true (by omega))) ?_
      show rk_ev _ _ 17 _ _ _ _
      exact ev_ret rfl rfl
    show rk_ev _ _ 18 [(3, .int (Int32.ofInt 0)), (0, .ref 1), (1, .int a), (2, .int b)] [] rk_HM _
    refine ev_go (pc' := 19) (lv' := [(3, .int (Int32.ofInt 0)), (0, .ref 1), (1, .int a), (2, .int b)]) (st' := [.int (Int32.ofInt 0)]) (h' := rk_HM) 1 rfl ?_
    exact ev_ret rfl rfl
  · show rk_ev _ _ 0 [(0, .ref 316), (1, .int a), (2, .int b)] [] _ (some (.int (Int32.ofInt 0)), _)
    refine ev_go (pc' := 4) (lv' := [(0, .ref 316), (1, .int a), (2, .int b)]) (st' := [.int ((Int8.ofInt 15).toInt32), .int (Int32.ofInt 0), .int a]) (h' := rk_HM) 3 rfl ?_
    refine ev_call (M' := rm_X8_in) (ar := ([.int a, .int (Int32.ofInt 0), .int ((Int8.ofInt 15).toInt32)], [])) (o' := (some (.int (Int32.ofInt 0)), rk_HM)) rfl rfl (by decide) (by decide) rfl rfl ?_ ?_
    · show rk_ev _ _ 0 [(0, .int a), (1, .int (Int32.ofInt 0)), (2, .int ((Int8.ofInt 15).toInt32))] [] _ _
      refine ev_go (pc' := 2) (lv' := [(0, .int a), (1, .int (Int32.ofInt 0)), (2, .int ((Int8.ofInt 15).toInt32))]) (st' := [.int (Int32.ofInt 0), .int a]) (h' := rk_HM) 2 rfl ?_
      refine ev_if2 (tg := 14) rfl rfl false (rk_cz (c := 0) (by decide +kernel) (decide_eq_false (by omega))) ?_
      show rk_ev _ _ 5 _ _ _ _
      refine ev_go (pc' := 7) (lv' := [(0, .int a), (1, .int (Int32.ofInt 0)), (2, .int ((Int8.ofInt 15).toInt32))]) (st' := [.int ((Int8.ofInt 15).toInt32), .int a]) (h' := rk_HM) 2 rfl ?_
      refine ev_if2 (tg := 14) rfl rfl true (rk_cz (c := 15) (by decide +kernel) (decide_eq_true (by omega))) ?_
      show rk_ev _ _ 14 _ _ _ _
      refine ev_go (pc' := 15) (lv' := [(0, .int a), (1, .int (Int32.ofInt 0)), (2, .int ((Int8.ofInt 15).toInt32))]) (st' := [.int (Int32.ofInt 0)]) (h' := rk_HM) 1 rfl ?_
      exact ev_ret rfl rfl
    show rk_ev _ _ 7 [(0, .ref 316), (1, .int a), (2, .int b)] [.int (Int32.ofInt 0)] rk_HM _
    refine ev_if1 (tg := 12) rfl rfl false (by decide +kernel) ?_
    show rk_ev _ _ 10 _ _ _ _
    refine ev_go (pc' := 11) (lv' := [(0, .ref 316), (1, .int a), (2, .int b)]) (st' := [.int (Int32.ofInt 0)]) (h' := rk_HM) 1 rfl ?_
    exact ev_ret rfl rfl
set_option maxRecDepth 100000 in
set_option maxHeartbeats 4000000 in
theorem cs_store_0 (b : Int32)  : rk_ok2 rm_X7_store rm_X8_store [.int (nI 0), .int b] := by
  refine ⟨0, (rk_HM.set 19 (9, [.int b, .int 0, .int 0, .int 0, .int 0, .int 0, .int 0, .int 0, .int 0, .int 0, .int 0, .int 0, .int 0, .int 0, .int 0, .int 0])), ((rk_HM.set 19 (9, [.int b, .int 0, .int 0, .int 0, .int 0, .int 0, .int 0, .int 0, .int 0, .int 0, .int 0, .int 0, .int 0, .int 0, .int 0, .int 0])).set 320 (9, [.int b, .int 0, .int 0, .int 0, .int 0, .int 0, .int 0, .int 0, .int 0, .int 0, .int 0, .int 0, .int 0, .int 0, .int 0, .int 0, .int 0, .int 0, .int 0, .int 0, .int 0, .int 0, .int 0, .int 0, .int 0, .int 0, .int 0, .int 0, .int 0, .int 0, .int 0, .int 0])), ?_, ?_⟩
  · show rk_ev _ _ 0 [(0, .ref 1), (1, .int (nI 0)), (2, .int b)] [] _ _
    refine ev_go (pc' := 5) (lv' := [(0, .ref 1), (1, .int (nI 0)), (2, .int b)]) (st' := [.int (nI 0), .ref 18]) (h' := rk_HM) 3 rfl ?_
    refine ev_call (M' := rm_X6_valueOf) (ar := ([.ref 18, .int (nI 0)], [])) (o' := (some (.int 0), rk_HM)) rfl rfl (by decide) (by decide) rfl rfl ?_ ?_
    · show rk_ev _ _ 0 [(0, .ref 18), (1, .int (nI 0))] [] _ _
      exact ⟨16, by decide +kernel⟩
    show rk_ev _ _ 8 [(0, .ref 1), (1, .int (nI 0)), (2, .int b)] [.int 0] rk_HM _
    refine ev_go (pc' := 15) (lv' := [(3, .int 0), (0, .ref 1), (1, .int (nI 0)), (2, .int b)]) (st' := [.int b, .int (nI 0), .ref 18]) (h' := rk_HM) 5 rfl ?_
    refine ev_call (M' := rm_X6_setValue) (ar := ([.ref 18, .int (nI 0), .int b], [])) (o' := (none, (rk_HM.set 19 (9, [.int b, .int 0, .int 0, .int 0, .int 0, .int 0, .int 0, .int 0, .int 0, .int 0, .int 0, .int 0, .int 0, .int 0, .int 0, .int 0])))) rfl rfl (by decide) (by decide) rfl rfl ?_ ?_
    · show rk_ev _ _ 0 [(0, .ref 18), (1, .int (nI 0)), (2, .int b)] [] _ _
      refine ev_go (pc' := 1) (lv' := [(0, .ref 18), (1, .int (nI 0)), (2, .int b)]) (st' := [.int (nI 0)]) (h' := rk_HM) 1 rfl ?_
      refine ev_if1 (tg := 17) rfl rfl false (by decide +kernel) ?_
      show rk_ev _ _ 4 _ _ _ _
      refine ev_go (pc' := 7) (lv' := [(0, .ref 18), (1, .int (nI 0)), (2, .int b)]) (st' := [.int ((Int8.ofInt 16).toInt32), .int (nI 0)]) (h' := rk_HM) 2 rfl ?_
      refine ev_if2 (tg := 17) rfl rfl false (by decide +kernel) ?_
      show rk_ev _ _ 10 _ _ _ _
      refine ev_go (pc' := 17) (lv' := [(0, .ref 18), (1, .int (nI 0)), (2, .int b)]) (st' := []) (h' := (rk_HM.set 19 (9, [.int b, .int 0, .int 0, .int 0, .int 0, .int 0, .int 0, .int 0, .int 0, .int 0, .int 0, .int 0, .int 0, .int 0, .int 0, .int 0]))) 5 rfl ?_
      exact ev_ret rfl rfl
    show rk_ev _ _ 18 [(3, .int 0), (0, .ref 1), (1, .int (nI 0)), (2, .int b)] [] (rk_HM.set 19 (9, [.int b, .int 0, .int 0, .int 0, .int 0, .int 0, .int 0, .int 0, .int 0, .int 0, .int 0, .int 0, .int 0, .int 0, .int 0, .int 0])) _
    refine ev_go (pc' := 19) (lv' := [(3, .int 0), (0, .ref 1), (1, .int (nI 0)), (2, .int b)]) (st' := [.int 0]) (h' := (rk_HM.set 19 (9, [.int b, .int 0, .int 0, .int 0, .int 0, .int 0, .int 0, .int 0, .int 0, .int 0, .int 0, .int 0, .int 0, .int 0, .int 0, .int 0]))) 1 rfl ?_
    exact ev_ret rfl rfl
  · show rk_ev _ _ 0 [(0, .ref 316), (1, .int (nI 0)), (2, .int b)] [] _ (some (.int 0), _)
    refine ev_go (pc' := 4) (lv' := [(0, .ref 316), (1, .int (nI 0)), (2, .int b)]) (st' := [.int ((Int8.ofInt 15).toInt32), .int (Int32.ofInt 0), .int (nI 0)]) (h' := (rk_HM.set 19 (9, [.int b, .int 0, .int 0, .int 0, .int 0, .int 0, .int 0, .int 0, .int 0, .int 0, .int 0, .int 0, .int 0, .int 0, .int 0, .int 0]))) 3 rfl ?_
    refine ev_call (M' := rm_X8_in) (ar := ([.int (nI 0), .int (Int32.ofInt 0), .int ((Int8.ofInt 15).toInt32)], [])) (o' := (some (.int (Int32.ofInt 1)), (rk_HM.set 19 (9, [.int b, .int 0, .int 0, .int 0, .int 0, .int 0, .int 0, .int 0, .int 0, .int 0, .int 0, .int 0, .int 0, .int 0, .int 0, .int 0])))) rfl rfl (by decide) (by decide) rfl rfl ?_ ?_
    · show rk_ev _ _ 0 [(0, .int (nI 0)), (1, .int (Int32.ofInt 0)), (2, .int ((Int8.ofInt 15).toInt32))] [] _ _
      refine ev_go (pc' := 2) (lv' := [(0, .int (nI 0)), (1, .int (Int32.ofInt 0)), (2, .int ((Int8.ofInt 15).toInt32))]) (st' := [.int (Int32.ofInt 0), .int (nI 0)]) (h' := (rk_HM.set 19 (9, [.int b, .int 0, .int 0, .int 0, .int 0, .int 0, .int 0, .int 0, .int 0, .int 0, .int 0, .int 0, .int 0, .int 0, .int 0, .int 0]))) 2 rfl ?_
      refine ev_if2 (tg := 14) rfl rfl false (by decide +kernel) ?_
      show rk_ev _ _ 5 _ _ _ _
      refine ev_go (pc' := 7) (lv' := [(0, .int (nI 0)), (1, .int (Int32.ofInt 0)), (2, .int ((Int8.ofInt 15).toInt32))]) (st' := [.int ((Int8.ofInt 15).toInt32), .int (nI 0)]) (h' := (rk_HM.set 19 (9, [.int b, .int 0, .int 0, .int 0, .int 0, .int 0, .int 0, .int 0, .int 0, .int 0, .int 0, .int 0, .int 0, .int 0, .int 0, .int 0]))) 2 rfl ?_
      refine ev_if2 (tg := 14) rfl rfl false (by decide +kernel) ?_
      show rk_ev _ _ 10 _ _ _ _
      refine ev_go (pc' := 15) (lv' := [(0, .int (nI 0)), (1, .int (Int32.ofInt 0)), (2, .int ((Int8.ofInt 15).toInt32))]) (st' := [.int (Int32.ofInt 1)]) (h' := (rk_HM.set 19 (9, [.int b, .int 0, .int 0, .int 0, .int 0, .int 0, .int 0, .int 0, .int 0, .int 0, .int 0, .int 0, .int 0, .int 0, .int 0, .int 0]))) 2 rfl ?_
      exact ev_ret rfl rfl
    show rk_ev _ _ 7 [(0, .ref 316), (1, .int (nI 0)), (2, .int b)] [.int (Int32.ofInt 1)] (rk_HM.set 19 (9, [.int b, .int 0, .int 0, .int 0, .int 0, .int 0, .int 0, .int 0, .int 0, .int 0, .int 0, .int 0, .int 0, .int 0, .int 0, .int 0])) _
    refine ev_if1 (tg := 12) rfl rfl true (by decide +kernel) ?_
    show rk_ev _ _ 12 _ _ _ _
    refine ev_go (pc' := 27) (lv' := [(3, .int 0), (0, .ref 316), (1, .int (nI 0)), (2, .int b)]) (st' := [.int 0]) (h' := ((rk_HM.set 19 (9, [.int b, .int 0, .int 0, .int 0, .int 0, .int 0, .int 0, .int 0, .int 0, .int 0, .int 0, .int 0, .int 0, .int 0, .int 0, .int 0])).set 320 (9, [.int b, .int 0, .int 0, .int 0, .int 0, .int 0, .int 0, .int 0, .int 0, .int 0, .int 0, .int 0, .int 0, .int 0, .int 0, .int 0, .int 0, .int 0, .int 0, .int 0, .int 0, .int 0, .int 0, .int 0, .int 0, .int 0, .int 0, .int 0, .int 0, .int 0, .int 0, .int 0]))) 11 rfl ?_
    exact ev_ret rfl rfl
set_option maxRecDepth 100000 in
set_option maxHeartbeats 4000000 in
theorem cs_store_1 (b : Int32)  : rk_ok2 rm_X7_store rm_X8_store [.int (nI 1), .int b] := by
  refine ⟨0, (rk_HM.set 19 (9, [.int 0, .int b, .int 0, .int 0, .int 0, .int 0, .int 0, .int 0, .int 0, .int 0, .int 0, .int 0, .int 0, .int 0, .int 0, .int 0])), ((rk_HM.set 19 (9, [.int 0, .int b, .int 0, .int 0, .int 0, .int 0, .int 0, .int 0, .int 0, .int 0, .int 0, .int 0, .int 0, .int 0, .int 0, .int 0])).set 320 (9, [.int 0, .int b, .int 0, .int 0, .int 0, .int 0, .int 0, .int 0, .int 0, .int 0, .int 0, .int 0, .int 0, .int 0, .int 0, .int 0, .int 0, .int 0, .int 0, .int 0, .int 0, .int 0, .int 0, .int 0, .int 0, .int 0, .int 0, .int 0, .int 0, .int 0, .int 0, .int 0])), ?_, ?_⟩
  · show rk_ev _ _ 0 [(0, .ref 1), (1, .int (nI 1)), (2, .int b)] [] _ _
    refine ev_go (pc' := 5) (lv' := [(0, .ref 1), (1, .int (nI 1)), (2, .int b)]) (st' := [.int (nI 1), .ref 18]) (h' := rk_HM) 3 rfl ?_
    refine ev_call (M' := rm_X6_valueOf) (ar := ([.ref 18, .int (nI 1)], [])) (o' := (some (.int 0), rk_HM)) rfl rfl (by decide) (by decide) rfl rfl ?_ ?_
    · show rk_ev _ _ 0 [(0, .ref 18), (1, .int (nI 1))] [] _ _
      exact ⟨16, by decide +kernel⟩
    show rk_ev _ _ 8 [(0, .ref 1), (1, .int (nI 1)), (2, .int b)] [.int 0] rk_HM _
    refine ev_go (pc' := 15) (lv' := [(3, .int 0), (0, .ref 1), (1, .int (nI 1)), (2, .int b)]) (st' := [.int b, .int (nI 1), .ref 18]) (h' := rk_HM) 5 rfl ?_
    refine ev_call (M' := rm_X6_setValue) (ar := ([.ref 18, .int (nI 1), .int b], [])) (o' := (none, (rk_HM.set 19 (9, [.int 0, .int b, .int 0, .int 0, .int 0, .int 0, .int 0, .int 0, .int 0, .int 0, .int 0, .int 0, .int 0, .int 0, .int 0, .int 0])))) rfl rfl (by decide) (by decide) rfl rfl ?_ ?_
    · show rk_ev _ _ 0 [(0, .ref 18), (1, .int (nI 1)), (2, .int b)] [] _ _
      refine ev_go (pc' := 1) (lv' := [(0, .ref 18), (1, .int (nI 1)), (2, .int b)]) (st' := [.int (nI 1)]) (h' := rk_HM) 1 rfl ?_
      refine ev_if1 (tg := 17) rfl rfl false (by decide +kernel) ?_
      show rk_ev _ _ 4 _ _ _ _
      refine ev_go (pc' := 7) (lv' := [(0, .ref 18), (1, .int (nI 1)), (2, .int b)]) (st' := [.int ((Int8.ofInt 16).toInt32), .int (nI 1)]) (h' := rk_HM) 2 rfl ?_
      refine ev_if2 (tg := 17) rfl rfl false (by decide +kernel) ?_
      show rk_ev _ _ 10 _ _ _ _
      refine ev_go (pc' := 17) (lv' := [(0, .ref 18), (1, .int (nI 1)), (2, .int b)]) (st' := []) (h' := (rk_HM.set 19 (9, [.int 0, .int b, .int 0, .int 0, .int 0, .int 0, .int 0, .int 0, .int 0, .int 0, .int 0, .int 0, .int 0, .int 0, .int 0, .int 0]))) 5 rfl ?_
      exact ev_ret rfl rfl
    show rk_ev _ _ 18 [(3, .int 0), (0, .ref 1), (1, .int (nI 1)), (2, .int b)] [] (rk_HM.set 19 (9, [.int 0, .int b, .int 0, .int 0, .int 0, .int 0, .int 0, .int 0, .int 0, .int 0, .int 0, .int 0, .int 0, .int 0, .int 0, .int 0])) _
    refine ev_go (pc' := 19) (lv' := [(3, .int 0), (0, .ref 1), (1, .int (nI 1)), (2, .int b)]) (st' := [.int 0]) (h' := (rk_HM.set 19 (9, [.int 0, .int b, .int 0, .int 0, .int 0, .int 0, .int 0, .int 0, .int 0, .int 0, .int 0, .int 0, .int 0, .int 0, .int 0, .int 0]))) 1 rfl ?_
    exact ev_ret rfl rfl
  · show rk_ev _ _ 0 [(0, .ref 316), (1, .int (nI 1)), (2, .int b)] [] _ (some (.int 0), _)
    refine ev_go (pc' := 4) (lv' := [(0, .ref 316), (1, .int (nI 1)), (2, .int b)]) (st' := [.int ((Int8.ofInt 15).toInt32), .int (Int32.ofInt 0), .int (nI 1)]) (h' := (rk_HM.set 19 (9, [.int 0, .int b, .int 0, .int 0, .int 0, .int 0, .int 0, .int 0, .int 0, .int 0, .int 0, .int 0, .int 0, .int 0, .int 0, .int 0]))) 3 rfl ?_
    refine ev_call (M' := rm_X8_in) (ar := ([.int (nI 1), .int (Int32.ofInt 0), .int ((Int8.ofInt 15).toInt32)], [])) (o' := (some (.int (Int32.ofInt 1)), (rk_HM.set 19 (9, [.int 0, .int b, .int 0, .int 0, .int 0, .int 0, .int 0, .int 0, .int 0, .int 0, .int 0, .int 0, .int 0, .int 0, .int 0, .int 0])))) rfl rfl (by decide) (by decide) rfl rfl ?_ ?_
    · show rk_ev _ _ 0 [(0, .int (nI 1)), (1, .int (Int32.ofInt 0)), (2, .int ((Int8.ofInt 15).toInt32))] [] _ _
      refine ev_go (pc' := 2) (lv' := [(0, .int (nI 1)), (1, .int (Int32.ofInt 0)), (2, .int ((Int8.ofInt 15).toInt32))]) (st' := [.int (Int32.ofInt 0), .int (nI 1)]) (h' := (rk_HM.set 19 (9, [.int 0, .int b, .int 0, .int 0, .int 0, .int 0, .int 0, .int 0, .int 0, .int 0, .int 0, .int 0, .int 0, .int 0, .int 0, .int 0]))) 2 rfl ?_
      refine ev_if2 (tg := 14) rfl rfl false (by decide +kernel) ?_
      show rk_ev _ _ 5 _ _ _ _
      refine ev_go (pc' := 7) (lv' := [(0, .int (nI 1)), (1, .int (Int32.ofInt 0)), (2, .int ((Int8.ofInt 15).toInt32))]) (st' := [.int ((Int8.ofInt 15).toInt32), .int (nI 1)]) (h' := (rk_HM.set 19 (9, [.int 0, .int b, .int 0, .int 0, .int 0, .int 0, .int 0, .int 0, .int 0, .int 0, .int 0, .int 0, .int 0, .int 0, .int 0, .int 0]))) 2 rfl ?_
      refine ev_if2 (tg := 14) rfl rfl false (by decide +kernel) ?_
      show rk_ev _ _ 10 _ _ _ _
      refine ev_go (pc' := 15) (lv' := [(0, .int (nI 1)), (1, .int (Int32.ofInt 0)), (2, .int ((Int8.ofInt 15).toInt32))]) (st' := [.int (Int32.ofInt 1)]) (h' := (rk_HM.set 19 (9, [.int 0, .int b, .int 0, .int 0, .int 0, .int 0, .int 0, .int 0, .int 0, .int 0, .int 0, .int 0, .int 0, .int 0, .int 0, .int 0]))) 2 rfl ?_
      exact ev_ret rfl rfl
    show rk_ev _ _ 7 [(0, .ref 316), (1, .int (nI 1)), (2, .int b)] [.int (Int32.ofInt 1)] (rk_HM.set 19 (9, [.int 0, .int b, .int 0, .int 0, .int 0, .int 0, .int 0, .int 0, .int 0, .int 0, .int 0, .int 0, .int 0, .int 0, .int 0, .int 0])) _
    refine ev_if1 (tg := 12) rfl rfl true (by decide +kernel) ?_
    show rk_ev _ _ 12 _ _ _ _
    refine ev_go (pc' := 27) (lv' := [(3, .int 0), (0, .ref 316), (1, .int (nI 1)), (2, .int b)]) (st' := [.int 0]) (h' := ((rk_HM.set 19 (9, [.int 0, .int b, .int 0, .int 0, .int 0, .int 0, .int 0, .int 0, .int 0, .int 0, .int 0, .int 0, .int 0, .int 0, .int 0, .int 0])).set 320 (9, [.int 0, .int b, .int 0, .int 0, .int 0, .int 0, .int 0, .int 0, .int 0, .int 0, .int 0, .int 0, .int 0, .int 0, .int 0, .int 0, .int 0, .int 0, .int 0, .int 0, .int 0, .int 0, .int 0, .int 0, .int 0, .int 0, .int 0, .int 0, .int 0, .int 0, .int 0, .int 0]))) 11 rfl ?_
    exact ev_ret rfl rfl
set_option maxRecDepth 100000 in
set_option maxHeartbeats 4000000 in
theorem cs_store_2 (b : Int32)  : rk_ok2 rm_X7_store rm_X8_store [.int (nI 2), .int b] := by
  refine ⟨0, (rk_HM.set 19 (9, [.int 0, .int 0, .int b, .int 0, .int 0, .int 0, .int 0, .int 0, .int 0, .int 0, .int 0, .int 0, .int 0, .int 0, .int 0, .int 0])), ((rk_HM.set 19 (9, [.int 0, .int 0, .int b, .int 0, .int 0, .int 0, .int 0, .int 0, .int 0, .int 0, .int 0, .int 0, .int 0, .int 0, .int 0, .int 0])).set 320 (9, [.int 0, .int 0, .int b, .int 0, .int 0, .int 0, .int 0, .int 0, .int 0, .int 0, .int 0, .int 0, .int 0, .int 0, .int 0, .int 0, .int 0, .int 0, .int 0, .int 0, .int 0, .int 0, .int 0, .int 0, .int 0, .int 0, .int 0, .int 0, .int 0, .int 0, .int 0, .int 0])), ?_, ?_⟩
  · show rk_ev _ _ 0 [(0, .ref 1), (1, .int (nI 2)), (2, .int b)] [] _ _
    refine ev_go (pc' := 5) (lv' := [(0, .ref 1), (1, .int (nI 2)), (2, .int b)]) (st' := [.int (nI 2), .ref 18]) (h' := rk_HM) 3 rfl ?_
    refine ev_call (M' := rm_X6_valueOf) (ar := ([.ref 18, .int (nI 2)], [])) (o' := (some (.int 0), rk_HM)) rfl rfl (by decide) (by decide) rfl rfl ?_ ?_
    · show rk_ev _ _ 0 [(0, .ref 18), (1, .int (nI 2))] [] _ _
      exact ⟨16, by decide +kernel⟩
    show rk_ev _ _ 8 [(0, .ref 1), (1, .int (nI 2)), (2, .int b)] [.int 0] rk_HM _
    refine ev_go (pc' := 15) (lv' := [(3, .int 0), (0, .ref 1), (1, .int (nI 2)), (2, .int b)]) (st' := [.int b, .int (nI 2), .ref 18]) (h' := rk_HM) 5 rfl ?_
    refine ev_call (M' := rm_X6_setValue) (ar := ([.ref 18, .int (nI 2), .int b], [])) (o' := (none, (rk_HM.set 19 (9, [.int 0, .int 0, .int b, .int 0, .int 0, .int 0, .int 0, .int 0, .int 0, .int 0, .int 0, .int 0, .int 0, .int 0, .int 0, .int 0])))) rfl rfl (by decide) (by decide) rfl rfl ?_ ?_
    · show rk_ev _ _ 0 [(0, .ref 18), (1, .int (nI 2)), (2, .int b)] [] _ _
      refine ev_go (pc' := 1) (lv' := [(0, .ref 18), (1, .int (nI 2)), (2, .int b)]) (st' := [.int (nI 2)]) (h' := rk_HM) 1 rfl ?_
      refine ev_if1 (tg := 17) rfl rfl false (by decide +kernel) ?_
      show rk_ev _ _ 4 _ _ _ _
      refine ev_go (pc' := 7) (lv' := [(0, .ref 18), (1, .int (nI 2)), (2, .int b)]) (st' := [.int ((Int8.ofInt 16).toInt32), .int (nI 2)]) (h' := rk_HM) 2 rfl ?_
      refine ev_if2 (tg := 17) rfl rfl false (by decide +kernel) ?_
      show rk_ev _ _ 10 _ _ _ _
      refine ev_go (pc' := 17) (lv' := [(0, .ref 18), (1, .int (nI 2)), (2, .int b)]) (st' := []) (h' := (rk_HM.set 19 (9, [.int 0, .int 0, .int b, .int 0, .int 0, .int 0, .int 0, .int 0, .int 0, .int 0, .int 0, .int 0, .int 0, .int 0, .int 0, .int 0]))) 5 rfl ?_
      exact ev_ret rfl rfl
    show rk_ev _ _ 18 [(3, .int 0), (0, .ref 1), (1, .int (nI 2)), (2, .int b)] [] (rk_HM.set 19 (9, [.int 0, .int 0, .int b, .int 0, .int 0, .int 0, .int 0, .int 0, .int 0, .int 0, .int 0, .int 0, .int 0, .int 0, .int 0, .int 0])) _
    refine ev_go (pc' := 19) (lv' := [(3, .int 0), (0, .ref 1), (1, .int (nI 2)), (2, .int b)]) (st' := [.int 0]) (h' := (rk_HM.set 19 (9, [.int 0, .int 0, .int b, .int 0, .int 0, .int 0, .int 0, .int 0, .int 0, .int 0, .int 0, .int 0, .int 0, .int 0, .int 0, .int 0]))) 1 rfl ?_
    exact ev_ret rfl rfl
  · show rk_ev _ _ 0 [(0, .ref 316), (1, .int (nI 2)), (2, .int b)] [] _ (some (.int 0), _)
    refine ev_go (pc' := 4) (lv' := [(0, .ref 316), (1, .int (nI 2)), (2, .int b)]) (st' := [.int ((Int8.ofInt 15).toInt32), .int (Int32.ofInt 0), .int (nI 2)]) (h' := (rk_HM.set 19 (9, [.int 0, .int 0, .int b, .int 0, .int 0, .int 0, .int 0, .int 0, .int 0, .int 0, .int 0, .int 0, .int 0, .int 0, .int 0, .int 0]))) 3 rfl ?_
    refine ev_call (M' := rm_X8_in) (ar := ([.int (nI 2), .int (Int32.ofInt 0), .int ((Int8.ofInt 15).toInt32)], [])) (o' := (some (.int (Int32.ofInt 1)), (rk_HM.set 19 (9, [.int 0, .int 0, .int b, .int 0, .int 0, .int 0, .int 0, .int 0, .int 0, .int 0, .int 0, .int 0, .int 0, .int 0, .int 0, .int 0])))) rfl rfl (by decide) (by decide) rfl rfl ?_ ?_
    · show rk_ev _ _ 0 [(0, .int (nI 2)), (1, .int (Int32.ofInt 0)), (2, .int ((Int8.ofInt 15).toInt32))] [] _ _
      refine ev_go (pc' := 2) (lv' := [(0, .int (nI 2)), (1, .int (Int32.ofInt 0)), (2, .int ((Int8.ofInt 15).toInt32))]) (st' := [.int (Int32.ofInt 0), .int (nI 2)]) (h' := (rk_HM.set 19 (9, [.int 0, .int 0, .int b, .int 0, .int 0, .int 0, .int 0, .int 0, .int 0, .int 0, .int 0, .int 0, .int 0, .int 0, .int 0, .int 0]))) 2 rfl ?_
      refine ev_if2 (tg := 14) rfl rfl false (by decide +kernel) ?_
      show rk_ev _ _ 5 _ _ _ _
      refine ev_go (pc' := 7) (lv' := [(0, .int (nI 2)), (1, .int (Int32.ofInt 0)), (2, .int ((Int8.ofInt 15).toInt32))]) (st' := [.int ((Int8.ofInt 15).toInt32), .int (nI 2)]) (h' := (rk_HM.set 19 (9, [.int 0, .int 0, .int b, .int 0, .int 0, .int 0, .int 0, .int 0, .int 0, .int 0, .int 0, .int 0, .int 0, .int 0, .int 0, .int 0]))) 2 rfl ?_
      refine ev_if2 (tg := 14) rfl rfl false (by decide +kernel) ?_
      show rk_ev _ _ 10 _ _ _ _
      refine ev_go (pc' := 15) (lv' := [(0, .int (nI 2)), (1, .int (Int32.ofInt 0)), (2, .int ((Int8.ofInt 15).toInt32))]) (st' := [.int (Int32.ofInt 1)]) (h' := (rk_HM.set 19 (9, [.int 0, .int 0, .int b, .int 0, .int 0, .int 0, .int 0, .int 0, .int 0, .int 0, .int 0, .int 0, .int 0, .int 0, .int 0, .int 0]))) 2 rfl ?_
      exact ev_ret rfl rfl
    show rk_ev _ _ 7 [(0, .ref 316), (1, .int (nI 2)), (2, .int b)] [.int (Int32.ofInt 1)] (rk_HM.set 19 (9, [.int 0, .int 0, .int b, .int 0, .int 0, .int 0, .int 0, .int 0, .int 0, .int 0, .int 0, .int 0, .int 0, .int 0, .int 0, .int 0])) _
    refine ev_if1 (tg := 12) rfl rfl true (by decide +kernel) ?_
    show rk_ev _ _ 12 _ _ _ _
    refine ev_go (pc' := 27) (lv' := [(3, .int 0), (0, .ref 316), (1, .int (nI 2)), (2, .int b)]) (st' := [.int 0]) (h' := ((rk_HM.set 19 (9, [.int 0, .int 0, .int b, .int 0, .int 0, .int 0, .int 0, .int 0, .int 0, .int 0, .int 0, .int 0, .int 0, .int 0, .int 0, .int 0])).set 320 (9, [.int 0, .int 0, .int b, .int 0, .int 0, .int 0, .int 0, .int 0, .int 0, .int 0, .int 0, .int 0, .int 0, .int 0, .int 0, .int 0, .int 0, .int 0, .int 0, .int 0, .int 0, .int 0, .int 0, .int 0, .int 0, .int 0, .int 0, .int 0, .int 0, .int 0, .int 0, .int 0]))) 11 rfl ?_
    exact ev_ret rfl rfl
set_option maxRecDepth 100000 in
set_option maxHeartbeats 4000000 in
theorem cs_store_3 (b : Int32)  : rk_ok2 rm_X7_store rm_X8_store [.int (nI 3), .int b] := by
  refine ⟨0, (rk_HM.set 19 (9, [.int 0, .int 0, .int 0, .int b, .int 0, .int 0, .int 0, .int 0, .int 0, .int 0, .int 0, .int 0, .int 0, .int 0, .int 0, .int 0])), ((rk_HM.set 19 (9, [.int 0, .int 0, .int 0, .int b, .int 0, .int 0, .int 0, .int 0, .int 0, .int 0, .int 0, .int 0, .int 0, .int 0, .int 0, .int 0])).set 320 (9, [.int 0, .int 0, .int 0, .int b, .int 0, .int 0, .int 0, .int 0, .int 0, .int 0, .int 0, .int 0, .int 0, .int 0, .int 0, .int 0, .int 0, .int 0, .int 0, .int 0, .int 0, .int 0, .int 0, .int 0, .int 0, .int 0, .int 0, .int 0, .int 0, .int 0, .int 0, .int 0])), ?_, ?_⟩
  · show rk_ev _ _ 0 [(0, .ref 1), (1, .int (nI 3)), (2, .int b)] [] _ _
    refine ev_go (pc' := 5) (lv' := [(0, .ref 1), (1, .int (nI 3)), (2, .int b)]) (st' := [.int (nI 3), .ref 18]) (h' := rk_HM) 3 rfl ?_
    refine ev_call (M' := rm_X6_valueOf) (ar := ([.ref 18, .int (nI 3)], [])) (o' := (some (.int 0), rk_HM)) rfl rfl (by decide) (by decide) rfl rfl ?_ ?_
    · show rk_ev _ _ 0 [(0, .ref 18), (1, .int (nI 3))] [] _ _
      exact ⟨16, by decide +kernel⟩
    show rk_ev _ _ 8 [(0, .ref 1), (1, .int (nI 3)), (2, .int b)] [.int 0] rk_HM _
    refine ev_go (pc' := 15) (lv' := [(3, .int 0), (0, .ref 1), (1, .int (nI 3)), (2, .int b)]) (st' := [.int b, .int (nI 3), .ref 18]) (h' := rk_HM) 5 rfl ?_
    refine ev_call (M' := rm_X6_setValue) (ar := ([.ref 18, .int (nI 3), .int b], [])) (o' := (none, (rk_HM.set 19 (9, [.int 0, .int 0, .int 0, .int b, .int 0, .int 0, .int 0, .int 0, .int 0, .int 0, .int 0, .int 0, .int 0, .int 0, .int 0, .int 0])))) rfl rfl (by decide) (by decide) rfl rfl ?_ ?_
    · show rk_ev _ _ 0 [(0, .ref 18), (1, .int (nI 3)), (2, .int b)] [] _ _
      refine ev_go (pc' := 1) (lv' := [(0, .ref 18), (1, .int (nI 3)), (2, .int b)]) (st' := [.int (nI 3)]) (h' := rk_HM) 1 rfl ?_
      refine ev_if1 (tg := 17) rfl rfl false (by decide +kernel) ?_
      show rk_ev _ _ 4 _ _ _ _
      refine ev_go (pc' := 7) (lv' := [(0, .ref 18), (1, .int (nI 3)), (2, .int b)]) (st' := [.int ((Int8.ofInt 16).toInt32), .int (nI 3)]) (h' := rk_HM) 2 rfl ?_
      refine ev_if2 (tg := 17) rfl rfl false (by decide +kernel) ?_
      show rk_ev _ _ 10 _ _ _ _
      refine ev_go (pc' := 17) (lv' := [(0, .ref 18), (1, .int (nI 3)), (2, .int b)]) (st' := []) (h' := (rk_HM.set 19 (9, [.int 0, .int 0, .int 0, .int b, .int 0, .int 0, .int 0, .int 0, .int 0, .int 0, .int 0, .int 0, .int 0, .int 0, .int 0, .int 0]))) 5 rfl ?_
      exact ev_ret rfl rfl
    show rk_ev _ _ 18 [(3, .int 0), (0, .ref 1), (1, .int (nI 3)), (2, .int b)] [] (rk_HM.set 19 (9, [.int 0, .int 0, .int 0, .int b, .int 0, .int 0, .int 0, .int 0, .int 0, .int 0, .int 0, .int 0, .int 0, .int 0, .int 0, .int 0])) _
    refine ev_go (pc' := 19) (lv' := [(3, .int 0), (0, .ref 1), (1, .int (nI 3)), (2, .int b)]) (st' := [.int 0]) (h' := (rk_HM.set 19 (9, [.int 0, .int 0, .int 0, .int b, .int 0, .int 0, .int 0, .int 0, .int 0, .int 0, .int 0, .int 0, .int 0, .int 0, .int 0, .int 0]))) 1 rfl ?_
    exact ev_ret rfl rfl
  · show rk_ev _ _ 0 [(0, .ref 316), (1, .int (nI 3)), (2, .int b)] [] _ (some (.int 0), _)
    refine ev_go (pc' := 4) (lv' := [(0, .ref 316), (1, .int (nI 3)), (2, .int b)]) (st' := [.int ((Int8.ofInt 15).toInt32), .int (Int32.ofInt 0), .int (nI 3)]) (h' := (rk_HM.set 19 (9, [.int 0, .int 0, .int 0, .int b, .int 0, .int 0, .int 0, .int 0, .int 0, .int 0, .int 0, .int 0, .int 0, .int 0, .int 0, .int 0]))) 3 rfl ?_
    refine ev_call (M' := rm_X8_in) (ar := ([.int (nI 3), .int (Int32.ofInt 0), .int ((Int8.ofInt 15).toInt32)], [])) (o' := (some (.int (Int32.ofInt 1)), (rk_HM.set 19 (9, [.int 0, .int 0, .int 0, .int b, .int 0, .int 0, .int 0, .int 0, .int 0, .int 0, .int 0, .int 0, .int 0, .int 0, .int 0, .int 0])))) rfl rfl (by decide) (by decide) rfl rfl ?_ ?_
    · show rk_ev _ _ 0 [(0, .int (nI 3)), (1, .int (Int32.ofInt 0)), (2, .int ((Int8.ofInt 15).toInt32))] [] _ _
      refine ev_go (pc' := 2) (lv' := [(0, .int (nI 3)), (1, .int (Int32.ofInt 0)), (2, .int ((Int8.ofInt 15).toInt32))]) (st' := [.int (Int32.ofInt 0), .int (nI 3)]) (h' := (rk_HM.set 19 (9, [.int 0, .int 0, .int 0, .int b, .int 0, .int 0, .int 0, .int 0, .int 0, .int 0, .int 0, .int 0, .int 0, .int 0, .int 0, .int 0]))) 2 rfl ?_
      refine ev_if2 (tg := 14) rfl rfl false (by decide +kernel) ?_
      show rk_ev _ _ 5 _ _ _ _
      refine ev_go (pc' := 7) (lv' := [(0, .int (nI 3)), (1, .int (Int32.ofInt 0)), (2, .int ((Int8.ofInt 15).toInt32))]) (st' := [.int ((Int8.ofInt 15).toInt32), .int (nI 3)]) (h' := (rk_HM.set 19 (9, [.int 0, .int 0, .int 0, .int b, .int 0, .int 0, .int 0, .int 0, .int 0, .int 0, .int 0, .int 0, .int 0, .int 0, .int 0, .int 0]))) 2 rfl ?_
      refine ev_if2 (tg := 14) rfl rfl false (by decide +kernel) ?_
      show rk_ev _ _ 10 _ _ _ _
      refine ev_go (pc' := 15) (lv' := [(0, .int (nI 3)), (1, .int (Int32.ofInt 0)), (2, .int ((Int8.ofInt 15).toInt32))]) (st' := [.int (Int32.ofInt 1)]) (h' := (rk_HM.set 19 (9, [.int 0, .int 0, .int 0, .int b, .int 0, .int 0, .int 0, .int 0, .int 0, .int 0, .int 0, .int 0, .int 0, .int 0, .int 0, .int 0]))) 2 rfl ?_
      exact ev_ret rfl rfl
    show rk_ev _ _ 7 [(0, .ref 316), (1, .int (nI 3)), (2, .int b)] [.int (Int32.ofInt 1)] (rk_HM.set 19 (9, [.int 0, .int 0, .int 0, .int b, .int 0, .int 0, .int 0, .int 0, .int 0, .int 0, .int 0, .int 0, .int 0, .int 0, .int 0, .int 0])) _
    refine ev_if1 (tg := 12) rfl rfl true (by decide +kernel) ?_
    show rk_ev _ _ 12 _ _ _ _
    refine ev_go (pc' := 27) (lv' := [(3, .int 0), (0, .ref 316), (1, .int (nI 3)), (2, .int b)]) (st' := [.int 0]) (h' := ((rk_HM.set 19 (9, [.int 0, .int 0, .int 0, .int b, .int 0, .int 0, .int 0, .int 0, .int 0, .int 0, .int 0, .int 0, .int 0, .int 0, .int 0, .int 0])).set 320 (9, [.int 0, .int 0, .int 0, .int b, .int 0, .int 0, .int 0, .int 0, .int 0, .int 0, .int 0, .int 0, .int 0, .int 0, .int 0, .int 0, .int 0, .int 0, .int 0, .int 0, .int 0, .int 0, .int 0, .int 0, .int 0, .int 0, .int 0, .int 0, .int 0, .int 0, .int 0, .int 0]))) 11 rfl ?_
    exact ev_ret rfl rfl
set_option maxRecDepth 100000 in
set_option maxHeartbeats 4000000 in
theorem cs_store_4 (b : Int32)  : rk_ok2 rm_X7_store rm_X8_store [.int (nI 4), .int b] := by
  refine ⟨0, (rk_HM.set 19 (9, [.int 0, .int 0, .int 0, .int 0, .int b, .int 0, .int 0, .int 0, .int 0, .int 0, .int 0, .int 0, .int 0, .int 0, .int 0, .int 0])), ((rk_HM.set 19 (9, [.int 0, .int 0, .int 0, .int 0, .int b, .int 0, .int 0, .int 0, .int 0, .int 0, .int 0, .int 0, .int 0, .int 0, .int 0, .int 0])).set 320 (9, [.int 0, .int 0, .int 0, .int 0, .int b, .int 0, .int 0, .int 0, .int 0, .int 0, .int 0, .int 0, .int 0, .int 0, .int 0, .int 0, .int 0, .int 0, .int 0, .int 0, .int 0, .int 0, .int 0, .int 0, .int 0, .int 0, .int 0, .int 0, .int 0, .int 0, .int 0, .int 0])), ?_, ?_⟩
  · show rk_ev _ _ 0 [(0, .ref 1), (1, .int (nI 4)), (2, .int b)] [] _ _
    refine ev_go (pc' := 5) (lv' := [(0, .ref 1), (1, .int (nI 4)), (2, .int b)]) (st' := [.int (nI 4), .ref 18]) (h' := rk_HM) 3 rfl ?_
    refine ev_call (M' := rm_X6_valueOf) (ar := ([.ref 18, .int (nI 4)], [])) (o' := (some (.int 0), rk_HM)) rfl rfl (by decide) (by decide) rfl rfl ?_ ?_
    · show rk_ev _ _ 0 [(0, .ref 18), (1, .int (nI 4))] [] _ _
      exact ⟨16, by decide +kernel⟩
    show rk_ev _ _ 8 [(0, .ref 1), (1, .int (nI 4)), (2, .int b)] [.int 0] rk_HM _
    refine ev_go (pc' := 15) (lv' := [(3, .int 0), (0, .ref 1), (1, .int (nI 4)), (2, .int b)]) (st' := [.int b, .int (nI 4), .ref 18]) (h' := rk_HM) 5 rfl ?_
    refine ev_call (M' := rm_X6_setValue) (ar := ([.ref 18, .int (nI 4), .int b], [])) (o' := (none, (rk_HM.set 19 (9, [.int 0, .int 0, .int 0, .int 0, .int b, .int 0, .int 0, .int 0, .int 0, .int 0, .int 0, .int 0, .int 0, .int 0, .int 0, .int 0])))) rfl rfl (by decide) (by decide) rfl rfl ?_ ?_
    · show rk_ev _ _ 0 [(0, .ref 18), (1, .int (nI 4)), (2, .int b)] [] _ _
      refine ev_go (pc' := 1) (lv' := [(0, .ref 18), (1, .int (nI 4)), (2, .int b)]) (st' := [.int (nI 4)]) (h' := rk_HM) 1 rfl ?_
      refine ev_if1 (tg := 17) rfl rfl false (by decide +kernel) ?_
      show rk_ev _ _ 4 _ _ _ _
      refine ev_go (pc' := 7) (lv' := [(0, .ref 18), (1, .int (nI 4)), (2, .int b)]) (st' := [.int ((Int8.ofInt 16).toInt32), .int (nI 4)]) (h' := rk_HM) 2 rfl ?_
      refine ev_if2 (tg := 17) rfl rfl false (by decide +kernel) ?_
      show rk_ev _ _ 10 _ _ _ _
      refine ev_go (pc' := 17) (lv' := [(0, .ref 18), (1, .int (nI 4)), (2, .int b)]) (st' := []) (h' := (rk_HM.set 19 (9, [.int 0, .int 0, .int 0, .int 0, .int b, .int 0, .int 0, .int 0, .int 0, .int 0, .int 0, .int 0, .int 0, .int 0, .int 0, .int 0]))) 5 rfl ?_
      exact ev_ret rfl rfl
    show rk_ev _ _ 18 [(3, .int 0), (0, .ref 1), (1, .int (nI 4)), (2, .int b)] [] (rk_HM.set 19 (9, [.int 0, .int 0, .int 0, .int 0, .int b, .int 0, .int 0, .int 0, .int 0, .int 0, .int 0, .int 0, .int 0, .int 0, .int 0, .int 0])) _
    refine ev_go (pc' := 19) (lv' := [(3, .int 0), (0, .ref 1), (1, .int (nI 4)), (2, .int b)]) (st' := [.int 0]) (h' := (rk_HM.set 19 (9, [.int 0, .int 0, .int 0, .int 0, .int b, .int 0, .int 0, .int 0, .int 0, .int 0, .int 0, .int 0, .int 0, .int 0, .int 0, .int 0]))) 1 rfl ?_
    exact ev_ret rfl rfl
  · show rk_ev _ _ 0 [(0, .ref 316), (1, .int (nI 4)), (2, .int b)] [] _ (some (.int 0), _)
    refine ev_go (pc' := 4) (lv' := [(0, .ref 316), (1, .int (nI 4)), (2, .int b)]) (st' := [.int ((Int8.ofInt 15).toInt32), .int (Int32.ofInt 0), .int (nI 4)]) (h' := (rk_HM.set 19 (9, [.int 0, .int 0, .int 0, .int 0, .int b, .int 0, .int 0, .int 0, .int 0, .int 0, .int 0, .int 0, .int 0, .int 0, .int 0, .int 0]))) 3 rfl ?_
    refine ev_call (M' := rm_X8_in) (ar := ([.int (nI 4), .int (Int32.ofInt 0), .int ((Int8.ofInt 15).toInt32)], [])) (o' := (some (.int (Int32.ofInt 1)), (rk_HM.set 19 (9, [.int 0, .int 0, .int 0, .int 0, .int b, .int 0, .int 0, .int 0, .int 0, .int 0, .int 0, .int 0, .int 0, .int 0, .int 0, .int 0])))) rfl rfl (by decide) (by decide) rfl rfl ?_ ?_
    · show rk_ev _ _ 0 [(0, .int (nI 4)), (1, .int (Int32.ofInt 0)), (2, .int ((Int8.ofInt 15).toInt32))] [] _ _
      refine ev_go (pc' := 2) (lv' := [(0, .int (nI 4)), (1, .int (Int32.ofInt 0)), (2, .int ((Int8.ofInt 15).toInt32))]) (st' := [.int (Int32.ofInt 0), .int (nI 4)]) (h' := (rk_HM.set 19 (9, [.int 0, .int 0, .int 0, .int 0, .int b, .int 0, .int 0, .int 0, .int 0, .int 0, .int 0, .int 0, .int 0, .int 0, .int 0, .int 0]))) 2 rfl ?_
      refine ev_if2 (tg := 14) rfl rfl false (by decide +kernel) ?_
      show rk_ev _ _ 5 _ _ _ _
      refine ev_go (pc' := 7) (lv' := [(0, .int (nI 4)), (1, .int (Int32.ofInt 0)), (2, .int ((Int8.ofInt 15).toInt32))]) (st' := [.int ((Int8.ofInt 15).toInt32), .int (nI 4)]) (h' := (rk_HM.set 19 (9, [.int 0, .int 0, .int 0, .int 0, .int b, .int 0, .int 0, .int 0, .int 0, .int 0, .int 0, .int 0, .int 0, .int 0, .int 0, .int 0]))) 2 rfl ?_
      refine ev_if2 (tg := 14) rfl rfl false (by decide +kernel) ?_
      show rk_ev _ _ 10 _ _ _ _
      refine ev_go (pc' := 15) (lv' := [(0, .int (nI 4)), (1, .int (Int32.ofInt 0)), (2, .int ((Int8.ofInt 15).toInt32))]) (st' := [.int (Int32.ofInt 1)]) (h' := (rk_HM.set 19 (9, [.int 0, .int 0, .int 0, .int 0, .int b, .int 0, .int 0, .int 0, .int 0, .int 0, .int 0, .int 0, .int 0, .int 0, .int 0, .int 0]))) 2 rfl ?_
      exact ev_ret rfl rfl
    show rk_ev _ _ 7 [(0, .ref 316), (1, .int (nI 4)), (2, .int b)] [.int (Int32.ofInt 1)] (rk_HM.set 19 (9, [.int 0, .int 0, .int 0, .int 0, .int b, .int 0, .int 0, .int 0, .int 0, .int 0, .int 0, .int 0, .int 0, .int 0, .int 0, .int 0])) _
    refine ev_if1 (tg := 12) rfl rfl true (by decide +kernel) ?_
    show rk_ev _ _ 12 _ _ _ _
    refine ev_go (pc' := 27) (lv' := [(3, .int 0), (0, .ref 316), (1, .int (nI 4)), (2, .int b)]) (st' := [.int 0]) (h' := ((rk_HM.set 19 (9, [.int 0, .int 0, .int 0, .int 0, .int b, .int 0, .int 0, .int 0, .int 0, .int 0, .int 0, .int 0, .int 0, .int 0, .int 0, .int 0])).set 320 (9, [.int 0, .int 0, .int 0, .int 0, .int b, .int 0, .int 0, .int 0, .int 0, .int 0, .int 0, .int 0, .int 0, .int 0, .int 0, .int 0, .int 0, .int 0, .int 0, .int 0, .int 0, .int 0, .int 0, .int 0, .int 0, .int 0, .int 0, .int 0, .int 0, .int 0, .int 0, .int 0]))) 11 rfl ?_
    exact ev_ret rfl rfl
set_option maxRecDepth 100000 in
set_option maxHeartbeats 4000000 in
theorem cs_store_5 (b : Int32)  : rk_ok2 rm_X7_store rm_X8_store [.int (nI 5), .int b] := by
  refine ⟨0, (rk_HM.set 19 (9, [.int 0, .int 0, .int 0, .int 0, .int 0, .int b, .int 0, .int 0, .int 0, .int 0, .int 0, .int 0, .int 0, .int 0, .int 0, .int 0])), ((rk_HM.set 19 (9, [.int 0, .int 0, .int 0, .int 0, .int 0, .int b, .int 0, .int 0, .int 0, .int 0, .int 0, .int 0, .int 0, .int 0, .int 0, .int 0])).set 320 (9, [.int 0, .int 0, .int 0, .int 0, .int 0, .int b, .int 0, .int 0, .int 0, .int 0, .int 0, .int 0, .int 0, .int 0, .int 0, .int 0, .int 0, .int 0, .int 0, .int 0, .int 0, .int 0, .int 0, .int 0, .int 0, .int 0, .int 0, .int 0, .int 0, .int 0, .int 0, .int 0])), ?_, ?_⟩
  · show rk_ev _ _ 0 [(0, .ref 1), (1, .int (nI 5)), (2, .int b)] [] _ _
    refine ev_go (pc' := 5) (lv' := [(0, .ref 1), (1, .int (nI 5)), (2, .int b)]) (st' := [.int (nI 5), .ref 18]) (h' := rk_HM) 3 rfl ?_
    refine ev_call (M' := rm_X6_valueOf) (ar := ([.ref 18, .int (nI 5)], [])) (o' := (some (.int 0), rk_HM)) rfl rfl (by decide) (by decide) rfl rfl ?_ ?_
    · show rk_ev _ _ 0 [(0, .ref 18), (1, .int (nI 5))] [] _ _
      exact ⟨16, by decide +kernel⟩
    show rk_ev _ _ 8 [(0, .ref 1), (1, .int (nI 5)), (2, .int b)] [.int 0] rk_HM _
    refine ev_go (pc' := 15) (lv' := [(3, .int 0), (0, .ref 1), (1, .int (nI 5)), (2, .int b)]) (st' := [.int b, .int (nI 5), .ref 18]) (h' := rk_HM) 5 rfl ?_
    refine ev_call (M' := rm_X6_setValue) (ar := ([.ref 18, .int (nI 5), .int b], [])) (o' := (none, (rk_HM.set 19 (9, [.int 0, .int 0, .int 0, .int 0, .int 0, .int b, .int 0, .int 0, .int 0, .int 0, .int 0, .int 0, .int 0, .int 0, .int 0, .int 0])))) rfl rfl (by decide) (by decide) rfl rfl ?_ ?_
    · show rk_ev _ _ 0 [(0, .ref 18), (1, .int (nI 5)), (2, .int b)] [] _ _
      refine ev_go (pc' := 1) (lv' := [(0, .ref 18), (1, .int (nI 5)), (2, .int b)]) (st' := [.int (nI 5)]) (h' := rk_HM) 1 rfl ?_
      refine ev_if1 (tg := 17) rfl rfl false (by decide +kernel) ?_
      show rk_ev _ _ 4 _ _ _ _
      refine ev_go (pc' := 7) (lv' := [(0, .ref 18), (1, .int (nI 5)), (2, .int b)]) (st' := [.int ((Int8.ofInt 16).toInt32), .int (nI 5)]) (h' := rk_HM) 2 rfl ?_
      refine ev_if2 (tg := 17) rfl rfl false (by decide +kernel) ?_
      show rk_ev _ _ 10 _ _ _ _
      refine ev_go (pc' := 17) (lv' := [(0, .ref 18), (1, .int (nI 5)), (2, .int b)]) (st' := []) (h' := (rk_HM.set 19 (9, [.int 0, .int 0, .int 0, .int 0, .int 0, .int b, .int 0, .int 0, .int 0, .int 0, .int 0, .int 0, .int 0, .int 0, .int 0, .int 0]))) 5 rfl ?_
      exact ev_ret rfl rfl
    show rk_ev _ _ 18 [(3, .int 0), (0, .ref 1), (1, .int (nI 5)), (2, .int b)] [] (rk_HM.set 19 (9, [.int 0, .int 0, .int 0, .int 0, .int 0, .int b, .int 0, .int 0, .int 0, .int 0, .int 0, .int 0, .int 0, .int 0, .int 0, .int 0])) _
    refine ev_go (pc' := 19) (lv' := [(3, .int 0), (0, .ref 1), (1, .int (nI 5)), (2, .int b)]) (st' := [.int 0]) (h' := (rk_HM.set 19 (9, [.int 0, .int 0, .int 0, .int 0, .int 0, .int b, .int 0, .int 0, .int 0, .int 0, .int 0, .int 0, .int 0, .int 0, .int 0, .int 0]))) 1 rfl ?_
    exact ev_ret rfl rfl
  · show rk_ev _ _ 0 [(0, .ref 316), (1, .int (nI 5)), (2, .int b)] [] _ (some (.int 0), _)
    refine ev_go (pc' := 4) (lv' := [(0, .ref 316), (1, .int (nI 5)), (2, .int b)]) (st' := [.int ((Int8.ofInt 15).toInt32), .int (Int32.ofInt 0), .int (nI 5)]) (h' := (rk_HM.set 19 (9, [.int 0, .int 0, .int 0, .int 0, .int 0, .int b, .int 0, .int 0, .int 0, .int 0, .int 0, .int 0, .int 0, .int 0, .int 0, .int 0]))) 3 rfl ?_
    refine ev_call (M' := rm_X8_in) (ar := ([.int (nI 5), .int (Int32.ofInt 0), .int ((Int8.ofInt 15).toInt32)], [])) (o' := (some (.int (Int32.ofInt 1)), (rk_HM.set 19 (9, [.int 0, .int 0, .int 0, .int 0, .int 0, .int b, .int 0, .int 0, .int 0, .int 0, .int 0, .int 0, .int 0, .int 0, .int 0, .int 0])))) rfl rfl (by decide) (by decide) rfl rfl ?_ ?_
    · show rk_ev _ _ 0 [(0, .int (nI 5)), (1, .int (Int32.ofInt 0)), (2, .int ((Int8.ofInt 15).toInt32))] [] _ _
      refine ev_go (pc' := 2) (lv' := [(0, .int (nI 5)), (1, .int (Int32.ofInt 0)), (2, .int ((Int8.ofInt 15).toInt32))]) (st' := [.int (Int32.ofInt 0), .int (nI 5)]) (h' := (rk_HM.set 19 (9, [.int 0, .int 0, .int 0, .int 0, .int 0, .int b, .int 0, .int 0, .int 0, .int 0, .int 0, .int 0, .int 0, .int 0, .int 0, .int 0]))) 2 rfl ?_
      refine ev_if2 (tg := 14) rfl rfl false (by decide +kernel) ?_
      show rk_ev _ _ 5 _ _ _ _
      refine ev_go (pc' := 7) (lv' := [(0, .int (nI 5)), (1, .int (Int32.ofInt 0)), (2, .int ((Int8.ofInt 15).toInt32))]) (st' := [.int ((Int8.ofInt 15).toInt32), .int (nI 5)]) (h' := (rk_HM.set 19 (9, [.int 0, .int 0, .int 0, .int 0, .int 0, .int b, .int 0, .int 0, .int 0, .int 0, .int 0, .int 0, .int 0, .int 0, .int 0, .int 0]))) 2 rfl ?_
      refine ev_if2 (tg := 14) rfl rfl false (by decide +kernel) ?_
      show rk_ev _ _ 10 _ _ _ _
      refine ev_go (pc' := 15) (lv' := [(0, .int (nI 5)), (1, .int (Int32.ofInt 0)), (2, .int ((Int8.ofInt 15).toInt32))]) (st' := [.int (Int32.ofInt 1)]) (h' := (rk_HM.set 19 (9, [.int 0, .int 0, .int 0, .int 0, .int 0, .int b, .int 0, .int 0, .int 0, .int 0, .int 0, .int 0, .int 0, .int 0, .int 0, .int 0]))) 2 rfl ?_
      exact ev_ret rfl rfl
    show rk_ev _ _ 7 [(0, .ref 316), (1, .int (nI 5)), (2, .int b)] [.int (Int32.ofInt 1)] (rk_HM.set 19 (9, [.int 0, .int 0, .int 0, .int 0, .int 0, .int b, .int 0, .int 0, .int 0, .int 0, .int 0, .int 0, .int 0, .int 0, .int 0, .int 0])) _
    refine ev_if1 (tg := 12) rfl rfl true (by decide +kernel) ?_
    show rk_ev _ _ 12 _ _ _ _
    refine ev_go (pc' := 27) (lv' := [(3, .int 0), (0, .ref 316), (1, .int (nI 5)), (2, .int b)]) (st' := [.int 0]) (h' := ((rk_HM.set 19 (9, [.int 0, .int 0, .int 0, .int 0, .int 0, .int b, .int 0, .int 0, .int 0, .int 0, .int 0, .int 0, .int 0, .int 0, .int 0, .int 0])).set 320 (9, [.int 0, .int 0, .int 0, .int 0, .int 0, .int b, .int 0, .int 0, .int 0, .int 0, .int 0, .int 0, .int 0, .int 0, .int 0, .int 0, .int 0, .int 0, .int 0, .int 0, .int 0, .int 0, .int 0, .int 0, .int 0, .int 0, .int 0, .int 0, .int 0, .int 0, .int 0, .int 0]))) 11 rfl ?_
    exact ev_ret rfl rfl
set_option maxRecDepth 100000 in
set_option maxHeartbeats 4000000 in
theorem cs_store_6 (b : Int32)  : rk_ok2 rm_X7_store rm_X8_store [.int (nI 6), .int b] := by
  refine ⟨0, (rk_HM.set 19 (9, [.int 0, .int 0, .int 0, .int 0, .int 0, .int 0, .int b, .int 0, .int 0, .int 0, .int 0, .int 0, .int 0, .int 0, .int 0, .int 0])), ((rk_HM.set 19 (9, [.int 0, .int 0, .int 0, .int 0, .int 0, .int 0, .int b, .int 0, .int 0, .int 0, .int 0, .int 0, .int 0, .int 0, .int 0, .int 0])).set 320 (9, [.int 0, .int 0, .int 0, .int 0, .int 0, .int 0, .int b, .int 0, .int 0, .int 0, .int 0, .int 0, .int 0, .int 0, .int 0, .int 0, .int 0, .int 0, .int 0, .int 0, .int 0, .int 0, .int 0, .int 0, .int 0, .int 0, .int 0, .int 0, .int 0, .int 0, .int 0, .int 0])), ?_, ?_⟩
  · show rk_ev _ _ 0 [(0, .ref 1), (1, .int (nI 6)), (2, .int b)] [] _ _
    refine ev_go (pc' := 5) (lv' := [(0, .ref 1), (1, .int (nI 6)), (2, .int b)]) (st' := [.int (nI 6), .ref 18]) (h' := rk_HM) 3 rfl ?_
    refine ev_call (M' := rm_X6_valueOf) (ar := ([.ref 18, .int (nI 6)], [])) (o' := (some (.int 0), rk_HM)) rfl rfl (by decide) (by decide) rfl rfl ?_ ?_
    · show rk_ev _ _ 0 [(0, .ref 18), (1, .int (nI 6))] [] _ _
      exact ⟨16, by decide +kernel⟩
    show rk_ev _ _ 8 [(0, .ref 1), (1, .int (nI 6)), (2, .int b)] [.int 0] rk_HM _
    refine ev_go (pc' := 15) (lv' := [(3, .int 0), (0, .ref 1), (1, .int (nI 6)), (2, .int b)]) (st' := [.int b, .int (nI 6), .ref 18]) (h' := rk_HM) 5 rfl ?_
    refine ev_call (M' := rm_X6_setValue) (ar := ([.ref 18, .int (nI 6), .int b], [])) (o' := (none, (rk_HM.set 19 (9, [.int 0, .int 0, .int 0, .int 0, .int 0, .int 0, .int b, .int 0, .int 0, .int 0, .int 0, .int 0, .int 0, .int 0, .int 0, .int 0])))) rfl rfl (by decide) (by decide) rfl rfl ?_ ?_
    · show rk_ev _ _ 0 [(0, .ref 18), (1, .int (nI 6)), (2, .int b)] [] _ _
      refine ev_go (pc' := 1) (lv' := [(0, .ref 18), (1, .int (nI 6)), (2, .int b)]) (st' := [.int (nI 6)]) (h' := rk_HM) 1 rfl ?_
      refine ev_if1 (tg := 17) rfl rfl false (by decide +kernel) ?_
      show rk_ev _ _ 4 _ _ _ _
      refine ev_go (pc' := 7) (lv' := [(0, .ref 18), (1, .int (nI 6)), (2, .int b)]) (st' := [.int ((Int8.ofInt 16).toInt32), .int (nI 6)]) (h' := rk_HM) 2 rfl ?_
      refine ev_if2 (tg := 17) rfl rfl false (by decide +kernel) ?_
      show rk_ev _ _ 10 _ _ _ _
      refine ev_go (pc' := 17) (lv' := [(0, .ref 18), (1, .int (nI 6)), (2, .int b)]) (st' := []) (h' := (rk_HM.set 19 (9, [.int 0, .int 0, .int 0, .int 0, .int 0, .int 0, .int b, .int 0, .int 0, .int 0, .int 0, .int 0, .int 0, .int 0, .int 0, .int 0]))) 5 rfl ?_
      exact ev_ret rfl rfl
    show rk_ev _ _ 18 [(3, .int 0), (0, .ref 1), (1, .int (nI 6)), (2, .int b)] [] (rk_HM.set 19 (9, [.int 0, .int 0, .int 0, .int 0, .int 0, .int 0, .int b, .int 0, .int 0, .int 0, .int 0, .int 0, .int 0, .int 0, .int 0, .int 0])) _
    refine ev_go (pc' := 19) (lv' := [(3, .int 0), (0, .ref 1), (1, .int (nI 6)), (2, .int b)]) (st' := [.int 0]) (h' := (rk_HM.set 19 (9, [.int 0, .int 0, .int 0, .int 0, .int 0, .int 0, .int b, .int 0, .int 0, .int 0, .int 0, .int 0, .int 0, .int 0, .int 0, .int 0]))) 1 rfl ?_
    exact ev_ret rfl rfl
  · show rk_ev _ _ 0 [(0, .ref 316), (1, .int (nI 6)), (2, .int b)] [] _ (some (.int 0), _)
    refine ev_go (pc' := 4) (lv' := [(0, .ref 316), (1, .int (nI 6)), (2, .int b)]) (st' := [.int ((Int8.ofInt 15).toInt32), .int (Int32.ofInt 0), .int (nI 6)]) (h' := (rk_HM.set 19 (9, [.int 0, .int 0, .int 0, .int 0, .int 0, .int 0, .int b, .int 0, .int 0, .int 0, .int 0, .int 0, .int 0, .int 0, .int 0, .int 0]))) 3 rfl ?_
    refine ev_call (M' := rm_X8_in) (ar := ([.int (nI 6), .int (Int32.ofInt 0), .int ((Int8.ofInt 15).toInt32)], [])) (o' := (some (.int (Int32.ofInt 1)), (rk_HM.set 19 (9, [.int 0, .int 0, .int 0, .int 0, .int 0, .int 0, .int b, .int 0, .int 0, .int 0, .int 0, .int 0, .int 0, .int 0, .int 0, .int 0])))) rfl rfl (by decide) (by decide) rfl rfl ?_ ?_
    · show rk_ev _ _ 0 [(0, .int (nI 6)), (1, .int (Int32.ofInt 0)), (2, .int ((Int8.ofInt 15).toInt32))] [] _ _
      refine ev_go (pc' := 2) (lv' := [(0, .int (nI 6)), (1, .int (Int32.ofInt 0)), (2, .int ((Int8.ofInt 15).toInt32))]) (st' := [.int (Int32.ofInt 0), .int (nI 6)]) (h' := (rk_HM.set 19 (9, [.int 0, .int 0, .int 0, .int 0, .int 0, .int 0, .int b, .int 0, .int 0, .int 0, .int 0, .int 0, .int 0, .int 0, .int 0, .int 0]))) 2 rfl ?_
      refine ev_if2 (tg := 14) rfl rfl false (by decide +kernel) ?_
      show rk_ev _ _ 5 _ _ _ _
      refine ev_go (pc' := 7) (lv' := [(0, .int (nI 6)), (1, .int (Int32.ofInt 0)), (2, .int ((Int8.ofInt 15).toInt32))]) (st' := [.int ((Int8.ofInt 15).toInt32), .int (nI 6)]) (h' := (rk_HM.set 19 (9, [.int 0, .int 0, .int 0, .int 0, .int 0, .int 0, .int b, .int 0, .int 0, .int 0, .int 0, .int 0, .int 0, .int 0, .int 0, .int 0]))) 2 rfl ?_
      refine ev_if2 (tg := 14) rfl rfl false (by decide +kernel) ?_
      show rk_ev _ _ 10 _ _ _ _
      refine ev_go (pc' := 15) (lv' := [(0, .int (nI 6)), (1, .int (Int32.ofInt 0)), (2, .int ((Int8.ofInt 15).toInt32))]) (st' := [.int (Int32.ofInt 1)]) (h' := (rk_HM.set 19 (9, [.int 0, .int 0, .int 0, .int 0, .int 0, .int 0, .int b, .int 0, .int 0, .int 0, .int 0, .int 0, .int 0, .int 0, .int 0, .int 0]))) 2 rfl ?_
      exact ev_ret rfl rfl
    show rk_ev _ _ 7 [(0, .ref 316), (1, .int (nI 6)), (2, .int b)] [.int (Int32.ofInt 1)] (rk_HM.set 19 (9, [.int 0, .int 0, .int 0, .int 0, .int 0, .int 0, .int b, .int 0, .int 0, .int 0, .int 0, .int 0, .int 0, .int 0, .int 0, .int 0])) _
    refine ev_if1 (tg := 12) rfl rfl true (by decide +kernel) ?_
    show rk_ev _ _ 12 _ _ _ _
    refine ev_go (pc' := 27) (lv' := [(3, .int 0), (0, .ref 316), (1, .int (nI 6)), (2, .int b)]) (st' := [.int 0]) (h' := ((rk_HM.set 19 (9, [.int 0, .int 0, .int 0, .int 0, .int 0, .int 0, .int b, .int 0, .int 0, .int 0, .int 0, .int 0, .int 0, .int 0, .int 0, .int 0])).set 320 (9, [.int 0, .int 0, .int 0, .int 0, .int 0, .int 0, .int b, .int 0, .int 0, .int 0, .int 0, .int 0, .int 0, .int 0, .int 0, .int 0, .int 0, .int 0, .int 0, .int 0, .int 0, .int 0, .int 0, .int 0, .int 0, .int 0, .int 0, .int 0, .int 0, .int 0, .int 0, .int 0]))) 11 rfl ?_
    exact ev_ret rfl rfl
set_option maxRecDepth 100000 in
set_option maxHeartbeats 4000000 in
theorem cs_store_7 (b : Int32)  : rk_ok2 rm_X7_store rm_X8_store [.int (nI 7), .int b] := by
  refine ⟨0, (rk_HM.set 19 (9, [.int 0, .int 0, .int 0, .int 0, .int 0, .int 0, .int 0, .int b, .int 0, .int 0, .int 0, .int 0, .int 0, .int 0, .int 0, .int 0])), ((rk_HM.set 19 (9, [.int 0, .int 0, .int 0, .int 0, .int 0, .int 0, .int 0, .int b, .int 0, .int 0, .int 0, .int 0, .int 0, .int 0, .int 0, .int 0])).set 320 (9, [.int 0, .int 0, .int 0, .int 0, .int 0, .int 0, .int 0, .int b, .int 0, .int 0, .int 0, .int 0, .int 0, .int 0, .int 0, .int 0, .int 0, .int 0, .int 0, .int 0, .int 0, .int 0, .int 0, .int 0, .int 0, .int 0, .int 0, .int 0, .int 0, .int 0, .int 0, .int 0])), ?_, ?_⟩
  · show rk_ev _ _ 0 [(0, .ref 1), (1, .int (nI 7)), (2, .int b)] [] _ _
    refine ev_go (pc' := 5) (lv' := [(0, .ref 1), (1, .int (nI 7)), (2, .int b)]) (st' := [.int (nI 7), .ref 18]) (h' := rk_HM) 3 rfl ?_
    refine ev_call (M' := rm_X6_valueOf) (ar := ([.ref 18, .int (nI 7)], [])) (o' := (some (.int 0), rk_HM)) rfl rfl (by decide) (by decide) rfl rfl ?_ ?_
    · show rk_ev _ _ 0 [(0, .ref 18), (1, .int (nI 7))] [] _ _
      exact ⟨16, by decide +kernel⟩
    show rk_ev _ _ 8 [(0, .ref 1), (1, .int (nI 7)), (2, .int b)] [.int 0] rk_HM _
    refine ev_go (pc' := 15) (lv' := [(3, .int 0), (0, .ref 1), (1, .int (nI 7)), (2, .int b)]) (st' := [.int b, .int (nI 7), .ref 18]) (h' := rk_HM) 5 rfl ?_
    refine ev_call (M' := rm_X6_setValue) (ar := ([.ref 18, .int (nI 7), .int b], [])) (o' := (none, (rk_HM.set 19 (9, [.int 0, .int 0, .int 0, .int 0, .int 0, .int 0, .int 0, .int b, .int 0, .int 0, .int 0, .int 0, .int 0, .int 0, .int 0, .int 0])))) rfl rfl (by decide) (by decide) rfl rfl ?_ ?_
    · show rk_ev _ _ 0 [(0, .ref 18), (1, .int (nI 7)), (2, .int b)] [] _ _
      refine ev_go (pc' := 1) (lv' := [(0, .ref 18), (1, .int (nI 7)), (2, .int b)]) (st' := [.int (nI 7)]) (h' := rk_HM) 1 rfl ?_
      refine ev_if1 (tg := 17) rfl rfl false (by decide +kernel) ?_
      show rk_ev _ _ 4 _ _ _ _
      refine ev_go (pc' := 7) (lv' := [(0, .ref 18), (1, .int (nI 7)), (2, .int b)]) (st' := [.int ((Int8.ofInt 16).toInt32), .int (nI 7)]) (h' := rk_HM) 2 rfl ?_
      refine ev_if2 (tg := 17) rfl rfl false (by decide +kernel) ?_
      show rk_ev _ _ 10 _ _ _ _
      refine ev_go (pc' := 17) (lv' := [(0, .ref 18), (1, .int (nI 7)), (2, .int b)]) (st' := []) (h' := (rk_HM.set 19 (9, [.int 0, .int 0, .int 0, .int 0, .int 0, .int 0, .int 0, .int b, .int 0, .int 0, .int 0, .int 0, .int 0, .int 0, .int 0, .int 0]))) 5 rfl ?_
      exact ev_ret rfl rfl
    show rk_ev _ _ 18 [(3, .int 0), (0, .ref 1), (1, .int (nI 7)), (2, .int b)] [] (rk_HM.set 19 (9, [.int 0, .int 0, .int 0, .int 0, .int 0, .int 0, .int 0, .int b, .int 0, .int 0, .int 0, .int 0, .int 0, .int 0, .int 0, .int 0])) _
    refine ev_go (pc' := 19) (lv' := [(3, .int 0), (0, .ref 1), (1, .int (nI 7)), (2, .int b)]) (st' := [.int 0]) (h' := (rk_HM.set 19 (9, [.int 0, .int 0, .int 0, .int 0, .int 0, .int 0, .int 0, .int b, .int 0, .int 0, .int 0, .int 0, .int 0, .int 0, .int 0, .int 0]))) 1 rfl ?_
    exact ev_ret rfl rfl
  · show rk_ev _ _ 0 [(0, .ref 316), (1, .int (nI 7)), (2, .int b)] [] _ (some (.int 0), _)
    refine ev_go (pc' := 4) (lv' := [(0, .ref 316), (1, .int (nI 7)), (2, .int b)]) (st' := [.int ((Int8.ofInt 15).toInt32), .int (Int32.ofInt 0), .int (nI 7)]) (h' := (rk_HM.set 19 (9, [.int 0, .int 0, .int 0, .int 0, .int 0, .int 0, .int 0, .int b, .int 0, .int 0, .int 0, .int 0, .int 0, .int 0, .int 0, .int 0]))) 3 rfl ?_
    refine ev_call (M' := rm_X8_in) (ar := ([.int (nI 7), .int (Int32.ofInt 0), .int ((Int8.ofInt 15).toInt32)], [])) (o' := (some (.int (Int32.ofInt 1)), (rk_HM.set 19 (9, [.int 0, .int 0, .int 0, .int 0, .int 0, .int 0, .int 0, .int b, .int 0, .int 0, .int 0, .int 0, .int 0, .int 0, .int 0, .int 0])))) rfl rfl (by decide) (by decide) rfl rfl ?_ ?_
    · show rk_ev _ _ 0 [(0, .int (nI 7)), (1, .int (Int32.ofInt 0)), (2, .int ((Int8.ofInt 15).toInt32))] [] _ _
      refine ev_go (pc' := 2) (lv' := [(0, .int (nI 7)), (1, .int (Int32.ofInt 0)), (2, .int ((Int8.ofInt 15).toInt32))]) (st' := [.int (Int32.ofInt 0), .int (nI 7)]) (h' := (rk_HM.set 19 (9, [.int 0, .int 0, .int 0, .int 0, .int 0, .int 0, .int 0, .int b, .int 0, .int 0, .int 0, .int 0, .int 0, .int 0, .int 0, .int 0]))) 2 rfl ?_
      refine ev_if2 (tg := 14) rfl rfl false (by decide +kernel) ?_
      show rk_ev _ _ 5 _ _ _ _
      refine ev_go (pc' := 7) (lv' := [(0, .int (nI 7)), (1, .int (Int32.ofInt 0)), (2, .int ((Int8.ofInt 15).toInt32))]) (st' := [.int ((Int8.ofInt 15).toInt32), .int (nI 7)]) (h' := (rk_HM.set 19 (9, [.int 0, .int 0, .int 0, .int 0, .int 0, .int 0, .int 0, .int b, .int 0, .int 0, .int 0, .int 0, .int 0, .int 0, .int 0, .int 0]))) 2 rfl ?_
      refine ev_if2 (tg := 14) rfl rfl false (by decide +kernel) ?_
      show rk_ev _ _ 10 _ _ _ _
      refine ev_go (pc' := 15) (lv' := [(0, .int (nI 7)), (1, .int (Int32.ofInt 0)), (2, .int ((Int8.ofInt 15).toInt32))]) (st' := [.int (Int32.ofInt 1)]) (h' := (rk_HM.set 19 (9, [.int 0, .int 0, .int 0, .int 0, .int 0, .int 0, .int 0, .int b, .int 0, .int 0, .int 0, .int 0, .int 0, .int 0, .int 0, .int 0]))) 2 rfl ?_
      exact ev_ret rfl rfl
    show rk_ev _ _ 7 [(0, .ref 316), (1, .int (nI 7)), (2, .int b)] [.int (Int32.ofInt 1)] (rk_HM.set 19 (9, [.int 0, .int 0, .int 0, .int 0, .int 0, .int 0, .int 0, .int b, .int 0, .int 0, .int 0, .int 0, .int 0, .int 0, .int 0, .int 0])) _
    refine ev_if1 (tg := 12) rfl rfl true (by decide +kernel) ?_
    show rk_ev _ _ 12 _ _ _ _
    refine ev_go (pc' := 27) (lv' := [(3, .int 0), (0, .ref 316), (1, .int (nI 7)), (2, .int b)]) (st' := [.int 0]) (h' := ((rk_HM.set 19 (9, [.int 0, .int 0, .int 0, .int 0, .int 0, .int 0, .int 0, .int b, .int 0, .int 0, .int 0, .int 0, .int 0, .int 0, .int 0, .int 0])).set 320 (9, [.int 0, .int 0, .int 0, .int 0, .int 0, .int 0, .int 0, .int b, .int 0, .int 0, .int 0, .int 0, .int 0, .int 0, .int 0, .int 0, .int 0, .int 0, .int 0, .int 0, .int 0, .int 0, .int 0, .int 0, .int 0, .int 0, .int 0, .int 0, .int 0, .int 0, .int 0, .int 0]))) 11 rfl ?_
    exact ev_ret rfl rfl
set_option maxRecDepth 100000 in
set_option maxHeartbeats 4000000 in
theorem cs_store_8 (b : Int32)  : rk_ok2 rm_X7_store rm_X8_store [.int (nI 8), .int b] := by
  refine ⟨0, (rk_HM.set 19 (9, [.int 0, .int 0, .int 0, .int 0, .int 0, .int 0, .int 0, .int 0, .int b, .int 0, .int 0, .int 0, .int 0, .int 0, .int 0, .int 0])), ((rk_HM.set 19 (9, [.int 0, .int 0, .int 0, .int 0, .int 0, .int 0, .int 0, .int 0, .int b, .int 0, .int 0, .int 0, .int 0, .int 0, .int 0, .int 0])).set 320 (9, [.int 0, .int 0, .int 0, .int 0, .int 0, .int 0, .int 0, .int 0, .int b, .int 0, .int 0, .int 0, .int 0, .int 0, .int 0, .int 0, .int 0, .int 0, .int 0, .int 0, .int 0, .int 0, .int 0, .int 0, .int 0, .int 0, .int 0, .int 0, .int 0, .int 0, .int 0, .int 0])), ?_, ?_⟩
  · show rk_ev _ _ 0 [(0, .ref 1), (1, .int (nI 8)), (2, .int b)] [] _ _
    refine ev_go (pc' := 5) (lv' := [(0, .ref 1), (1, .int (nI 8)), (2, .int b)]) (st' := [.int (nI 8), .ref 18]) (h' := rk_HM) 3 rfl ?_
    refine ev_call (M' := rm_X6_valueOf) (ar := ([.ref 18, .int (nI 8)], [])) (o' := (some (.int 0), rk_HM)) rfl rfl (by decide) (by decide) rfl rfl ?_ ?_
    · show rk_ev _ _ 0 [(0, .ref 18), (1, .int (nI 8))] [] _ _
      exact ⟨16, by decide +kernel⟩
    show rk_ev _ _ 8 [(0, .ref 1), (1, .int (nI 8)), (2, .int b)] [.int 0] rk_HM _
    refine ev_go (pc' := 15) (lv' := [(3, .int 0), (0, .ref 1), (1, .int (nI 8)), (2, .int b)]) (st' := [.int b, .int (nI 8), .ref 18]) (h' := rk_HM) 5 rfl ?_
    refine ev_call (M' := rm_X6_setValue) (ar := ([.ref 18, .int (nI 8), .int b], [])) (o' := (none, (rk_HM.set 19 (9, [.int 0, .int 0, .int 0, .int 0, .int 0, .int 0, .int 0, .int 0, .int b, .int 0, .int 0, .int 0, .int 0, .int 0, .int 0, .int 0])))) rfl rfl (by decide) (by decide) rfl rfl ?_ ?_
    · show rk_ev _ _ 0 [(0, .ref 18), (1, .int (nI 8)), (2, .int b)] [] _ _
      refine ev_go (pc' := 1) (lv' := [(0, .ref 18), (1, .int (nI 8)), (2, .int b)]) (st' := [.int (nI 8)]) (h' := rk_HM) 1 rfl ?_
      refine ev_if1 (tg := 17) rfl rfl false (by decide +kernel) ?_
      show rk_ev _ _ 4 _ _ _ _
      refine ev_go (pc' := 7) (lv' := [(0, .ref 18), (1, .int (nI 8)), (2, .int b)]) (st' := [.int ((Int8.ofInt 16).toInt32), .int (nI 8)]) (h' := rk_HM) 2 rfl ?_
      refine ev_if2 (tg := 17) rfl rfl false (by decide +kernel) ?_
      show rk_ev _ _ 10 _ _ _ _
      refine ev_go (pc' := 17) (lv' := [(0, .ref 18), (1, .int (nI 8)), (2, .int b)]) (st' := []) (h' := (rk_HM.set 19 (9, [.int 0, .int 0, .int 0, .int 0, .int 0, .int 0, .int 0, .int 0, .int b, .int 0, .int 0, .int 0, .int 0, .int 0, .int 0, .int 0]))) 5 rfl ?_
      exact ev_ret rfl rfl
    show rk_ev _ _ 18 [(3, .int 0), (0, .ref 1), (1, .int (nI 8)), (2, .int b)] [] (rk_HM.set 19 (9, [.int 0, .int 0, .int 0, .int 0, .int 0, .int 0, .int 0, .int 0, .int b, .int 0, .int 0, .int 0, .int 0, .int 0, .int 0, .int 0])) _
    refine ev_go (pc' := 19) (lv' := [(3, .int 0), (0, .ref 1), (1, .int (nI 8)), (2, .int b)]) (st' := [.int 0]) (h' := (rk_HM.set 19 (9, [.int 0, .int 0, .int 0, .int 0, .int 0, .int 0, .int 0, .int 0, .int b, .int 0, .int 0, .int 0, .int 0, .int 0, .int 0, .int 0]))) 1 rfl ?_
    exact ev_ret rfl rfl
  · show rk_ev _ _ 0 [(0, .ref 316), (1, .int (nI 8)), (2, .int b)] [] _ (some (.int 0), _)
    refine ev_go (pc' := 4) (lv' := [(0, .ref 316), (1, .int (nI 8)), (2, .int b)]) (st' := [.int ((Int8.ofInt 15).toInt32), .int (Int32.ofInt 0), .int (nI 8)]) (h' := (rk_HM.set 19 (9, [.int 0, .int 0, .int 0, .int 0, .int 0, .int 0, .int 0, .int 0, .int b, .int 0, .int 0, .int 0, .int 0, .int 0, .int 0, .int 0]))) 3 rfl ?_
    refine ev_call (M' := rm_X8_in) (ar := ([.int (nI 8), .int (Int32.ofInt 0), .int ((Int8.ofInt 15).toInt32)], [])) (o' := (some (.int (Int32.ofInt 1)), (rk_HM.set 19 (9, [.int 0, .int 0, .int 0, .int 0, .int 0, .int 0, .int 0, .int 0, .int b, .int 0, .int 0, .int 0, .int 0, .int 0, .int 0, .int 0])))) rfl rfl (by decide) (by decide) rfl rfl ?_ ?_
    · show rk_ev _ _ 0 [(0, .int (nI 8)), (1, .int (Int32.ofInt 0)), (2, .int ((Int8.ofInt 15).toInt32))] [] _ _
      refine ev_go (pc' := 2) (lv' := [(0, .int (nI 8)), (1, .int (Int32.ofInt 0)), (2, .int ((Int8.ofInt 15).toInt32))]) (st' := [.int (Int32.ofInt 0), .int (nI 8)]) (h' := (rk_HM.set 19 (9, [.int 0, .int 0, .int 0, .int 0, .int 0, .int 0, .int 0, .int 0, .int b, .int 0, .int 0, .int 0, .int 0, .int 0, .int 0, .int 0]))) 2 rfl ?_
      refine ev_if2 (tg := 14) rfl rfl false (by decide +kernel) ?_
      show rk_ev _ _ 5 _ _ _ _
      refine ev_go (pc' := 7) (lv' := [(0, .int (nI 8)), (1, .int (Int32.ofInt 0)), (2, .int ((Int8.ofInt 15).toInt32))]) (st' := [.int ((Int8.ofInt 15).toInt32), .int (nI 8)]) (h' := (rk_HM.set 19 (9, [.int 0, .int 0, .int 0, .int 0, .int 0, .int 0, .int 0, .int 0, .int b, .int 0, .int 0, .int 0, .int 0, .int 0, .int 0, .int 0]))) 2 rfl ?_
      refine ev_if2 (tg := 14) rfl rfl false (by decide +kernel) ?_
      show rk_ev _ _ 10 _ _ _ _
      refine ev_go (pc' := 15) (lv' := [(0, .int (nI 8)), (1, .int (Int32.ofInt 0)), (2, .int ((Int8.ofInt 15).toInt32))]) (st' := [.int (Int32.ofInt 1)]) (h' := (rk_HM.set 19 (9, [.int 0, .int 0, .int 0, .int 0, .int 0, .int 0, .int 0, .int 0, .int b, .int 0, .int 0, .int 0, .int 0, .int 0, .int 0, .int 0]))) 2 rfl ?_
      exact ev_ret rfl rfl
    show rk_ev _ _ 7 [(0, .ref 316), (1, .int (nI 8)), (2, .int b)] [.int (Int32.ofInt 1)] (rk_HM.set 19 (9, [.int 0, .int 0, .int 0, .int 0, .int 0, .int 0, .int 0, .int 0, .int b, .int 0, .int 0, .int 0, .int 0, .int 0, .int 0, .int 0])) _
    refine ev_if1 (tg := 12) rfl rfl true (by decide +kernel) ?_
    show rk_ev _ _ 12 _ _ _ _
    refine ev_go (pc' := 27) (lv' := [(3, .int 0), (0, .ref 316), (1, .int (nI 8)), (2, .int b)]) (st' := [.int 0]) (h' := ((rk_HM.set 19 (9, [.int 0, .int 0, .int 0, .int 0, .int 0, .int 0, .int 0, .int 0, .int b, .int 0, .int 0, .int 0, .int 0, .int 0, .int 0, .int 0])).set 320 (9, [.int 0, .int 0, .int 0, .int 0, .int 0, .int 0, .int 0, .int 0, .int b, .int 0, .int 0, .int 0, .int 0, .int 0, .int 0, .int 0, .int 0, .int 0, .int 0, .int 0, .int 0, .int 0, .int 0, .int 0, .int 0, .int 0, .int 0, .int 0, .int 0, .int 0, .int 0, .int 0]))) 11 rfl ?_
    exact ev_ret rfl rfl
set_option maxRecDepth 100000 in
set_option maxHeartbeats 4000000 in
theorem cs_store_9 (b : Int32)  : rk_ok2 rm_X7_store rm_X8_store [.int (nI 9), .int b] := by
  refine ⟨0, (rk_HM.set 19 (9, [.int 0, .int 0, .int 0, .int 0, .int 0, .int 0, .int 0, .int 0, .int 0, .int b, .int 0, .int 0, .int 0, .int 0, .int 0, .int 0])), ((rk_HM.set 19 (9, [.int 0, .int 0, .int 0, .int 0, .int 0, .int 0, .int 0, .int 0, .int 0, .int b, .int 0, .int 0, .int 0, .int 0, .int 0, .int 0])).set 320 (9, [.int 0, .int 0, .int 0, .int 0, .int 0, .int 0, .int 0, .int 0, .int 0, .int b, .int 0, .int 0, .int 0, .int 0, .int 0, .int 0, .int 0, .int 0, .int 0, .int 0, .int 0, .int 0, .int 0, .int 0, .int 0, .int 0, .int 0, .int 0, .int 0, .int 0, .int 0, .int 0])), ?_, ?_⟩
  · show rk_ev _ _ 0 [(0, .ref 1), (1, .int (nI 9)), (2, .int b)] [] _ _
    refine ev_go (pc' := 5) (lv' := [(0, .ref 1), (1, .int (nI 9)), (2, .int b)]) (st' := [.int (nI 9), .ref 18]) (h' := rk_HM) 3 rfl ?_
    refine ev_call (M' := rm_X6_valueOf) (ar := ([.ref 18, .int (nI 9)], [])) (o' := (some (.int 0), rk_HM)) rfl rfl (by decide) (by decide) rfl rfl ?_ ?_
    · show rk_ev _ _ 0 [(0, .ref 18), (1, .int (nI 9))] [] _ _
      exact ⟨16, by decide +kernel⟩
    show rk_ev _ _ 8 [(0, .ref 1), (1, .int (nI 9)), (2, .int b)] [.int 0] rk_HM _
    refine ev_go (pc' := 15) (lv' := [(3, .int 0), (0, .ref 1), (1, .int (nI 9)), (2, .int b)]) (st' := [.int b, .int (nI 9), .ref 18]) (h' := rk_HM) 5 rfl ?_
    refine ev_call (M' := rm_X6_setValue) (ar := ([.ref 18, .int (nI 9), .int b], [])) (o' := (none, (rk_HM.set 19 (9, [.int 0, .int 0, .int 0, .int 0, .int 0, .int 0, .int 0, .int 0, .int 0, .int b, .int 0, .int 0, .int 0, .int 0, .int 0, .int 0])))) rfl rfl (by decide) (by decide) rfl rfl ?_ ?_
    · show rk_ev _ _ 0 [(0, .ref 18), (1, .int (nI 9)), (2, .int b)] [] _ _
      refine ev_go (pc' := 1) (lv' := [(0, .ref 18), (1, .int (nI 9)), (2, .int b)]) (st' := [.int (nI 9)]) (h' := rk_HM) 1 rfl ?_
      refine ev_if1 (tg := 17) rfl rfl false (by decide +kernel) ?_
      show rk_ev _ _ 4 _ _ _ _
      refine ev_go (pc' := 7) (lv' := [(0, .ref 18), (1, .int (nI 9)), (2, .int b)]) (st' := [.int ((Int8.ofInt 16).toInt32), .int (nI 9)]) (h' := rk_HM) 2 rfl ?_
      refine ev_if2 (tg := 17) rfl rfl false (by decide +kernel) ?_
      show rk_ev _ _ 10 _ _ _ _
      refine ev_go (pc' := 17) (lv' := [(0, .ref 18), (1, .int (nI 9)), (2, .int b)]) (st' := []) (h' := (rk_HM.set 19 (9, [.int 0, .int 0, .int 0, .int 0, .int 0, .int 0, .int 0, .int 0, .int 0, .int b, .int 0, .int 0, .int 0, .int 0, .int 0, .int 0]))) 5 rfl ?_
      exact ev_ret rfl rfl
    show rk_ev _ _ 18 [(3, .int 0), (0, .ref 1), (1, .int (nI 9)), (2, .int b)] [] (rk_HM.set 19 (9, [.int 0, .int 0, .int 0, .int 0, .int 0, .int 0, .int 0, .int 0, .int 0, .int b, .int 0, .int 0, .int 0, .int 0, .int 0, .int 0])) _
    refine ev_go (pc' := 19) (lv' := [(3, .int 0), (0, .ref 1), (1, .int (nI 9)), (2, .int b)]) (st' := [.int 0]) (h' := (rk_HM.set 19 (9, [.int 0, .int 0, .int 0, .int 0, .int 0, .int 0, .int 0, .int 0, .int 0, .int b, .int 0, .int 0, .int 0, .int 0, .int 0, .int 0]))) 1 rfl ?_
    exact ev_ret rfl rfl
  · show rk_ev _ _ 0 [(0, .ref 316), (1, .int (nI 9)), (2, .int b)] [] _ (some (.int 0), _)
    refine ev_go (pc' := 4) (lv' := [(0, .ref 316), (1, .int (nI 9)), (2, .int b)]) (st' := [.int ((Int8.ofInt 15).toInt32), .int (Int32.ofInt 0), .int (nI 9)]) (h' := (rk_HM.set 19 (9, [.int 0, .int 0, .int 0, .int 0, .int 0, .int 0, .int 0, .int 0, .int 0, .int b, .int 0, .int 0, .int 0, .int 0, .int 0, .int 0]))) 3 rfl ?_
    refine ev_call (M' := rm_X8_in) (ar := ([.int (nI 9), .int (Int32.ofInt 0), .int ((Int8.ofInt 15).toInt32)], [])) (o' := (some (.int (Int32.ofInt 1)), (rk_HM.set 19 (9, [.int 0, .int 0, .int 0, .int 0, .int 0, .int 0, .int 0, .int 0, .int 0, .int b, .int 0, .int 0, .int 0, .int 0, .int 0, .int 0])))) rfl rfl (by decide) (by decide) rfl rfl ?_ ?_
    · show rk_ev _ _ 0 [(0, .int (nI 9)), (1, .int (Int32.ofInt 0)), (2, .int ((Int8.ofInt 15).toInt32))] [] _ _
      refine ev_go (pc' := 2) (lv' := [(0, .int (nI 9)), (1, .int (Int32.ofInt 0)), (2, .int ((Int8.ofInt 15).toInt32))]) (st' := [.int (Int32.ofInt 0), .int (nI 9)]) (h' := (rk_HM.set 19 (9, [.int 0, .int 0, .int 0, .int 0, .int 0, .int 0, .int 0, .int 0, .int 0, .int b, .int 0, .int 0, .int 0, .int 0, .int 0, .int 0]))) 2 rfl ?_
      refine ev_if2 (tg := 14) rfl rfl false (by decide +kernel) ?_
      show rk_ev _ _ 5 _ _ _ _
      refine ev_go (pc' := 7) (lv' := [(0, .int (nI 9)), (1, .int (Int32.ofInt 0)), (2, .int ((Int8.ofInt 15).toInt32))]) (st' := [.int ((Int8.ofInt 15).toInt32), .int (nI 9)]) (h' := (rk_HM.set 19 (9, [.int 0, .int 0, .int 0, .int 0, .int 0, .int 0, .int 0, .int 0, .int 0, .int b, .int 0, .int 0, .int 0, .int 0, .int 0, .int 0]))) 2 rfl ?_
      refine ev_if2 (tg := 14) rfl rfl false (by decide +kernel) ?_
      show rk_ev _ _ 10 _ _ _ _
      refine ev_go (pc' := 15) (lv' := [(0, .int (nI 9)), (1, .int (Int32.ofInt 0)), (2, .int ((Int8.ofInt 15).toInt32))]) (st' := [.int (Int32.ofInt 1)]) (h' := (rk_HM.set 19 (9, [.int 0, .int 0, .int 0, .int 0, .int 0, .int 0, .int 0, .int 0, .int 0, .int b, .int 0, .int 0, .int 0, .int 0, .int 0, .int 0]))) 2 rfl ?_
      exact ev_ret rfl rfl
    show rk_ev _ _ 7 [(0, .ref 316), (1, .int (nI 9)), (2, .int b)] [.int (Int32.ofInt 1)] (rk_HM.set 19 (9, [.int 0, .int 0, .int 0, .int 0, .int 0, .int 0, .int 0, .int 0, .int 0, .int b, .int 0, .int 0, .int 0, .int 0, .int 0, .int 0])) _
    refine ev_if1 (tg := 12) rfl rfl true (by decide +kernel) ?_
    show rk_ev _ _ 12 _ _ _ _
    refine ev_go (pc' := 27) (lv' := [(3, .int 0), (0, .ref 316), (1, .int (nI 9)), (2, .int b)]) (st' := [.int 0]) (h' := ((rk_HM.set 19 (9, [.int 0, .int 0, .int 0, .int 0, .int 0, .int 0, .int 0, .int 0, .int 0, .int b, .int 0, .int 0, .int 0, .int 0, .int 0, .int 0])).set 320 (9, [.int 0, .int 0, .int 0, .int 0, .int 0, .int 0, .int 0, .int 0, .int 0, .int b, .int 0, .int 0, .int 0, .int 0, .int 0, .int 0, .int 0, .int 0, .int 0, .int 0, .int 0, .int 0, .int 0, .int 0, .int 0, .int 0, .int 0, .int 0, .int 0, .int 0, .int 0, .int 0]))) 11 rfl ?_
    exact ev_ret rfl rfl
set_option maxRecDepth 100000 in
set_option maxHeartbeats 4000000 in
theorem cs_store_10 (b : Int32)  : rk_ok2 rm_X7_store rm_X8_store [.int (nI 10), .int b] := by
  refine ⟨0, (rk_HM.set 19 (9, [.int 0, .int 0, .int 0, .int 0, .int 0, .int 0, .int 0, .int 0, .int 0, .int 0, .int b, .int 0, .int 0, .int 0, .int 0, .int 0])), ((rk_HM.set 19 (9, [.int 0, .int 0, .int 0, .int 0, .int 0, .int 0, .int 0, .int 0, .int 0, .int 0, .int b, .int 0, .int 0, .int 0, .int 0, .int 0])).set 320 (9, [.int 0, .int 0, .int 0, .int 0, .int 0, .int 0, .int 0, .int 0, .int 0, .int 0, .int b, .int 0, .int 0, .int 0, .int 0, .int 0, .int 0, .int 0, .int 0, .int 0, .int 0, .int 0, .int 0, .int 0, .int 0, .int 0, .int 0, .int 0, .int 0, .int 0, .int 0, .int 0])), ?_, ?_⟩
  · show rk_ev _ _ 0 [(0, .ref 1), (1, .int (nI 10)), (2, .int b)] [] _ _
    refine ev_go (pc' := 5) (lv' := [(0, .ref 1), (1, .int (nI 10)), (2, .int b)]) (st' := [.int (nI 10), .ref 18]) (h' := rk_HM) 3 rfl ?_
    refine ev_call (M' := rm_X6_valueOf) (ar := ([.ref 18, .int (nI 10)], [])) (o' := (some (.int 0), rk_HM)) rfl rfl (by decide) (by decide) rfl rfl ?_ ?_
    · show rk_ev _ _ 0 [(0, .ref 18), (1, .int (nI 10))] [] _ _
      exact ⟨16, by decide +kernel⟩
    show rk_ev _ _ 8 [(0, .ref 1), (1, .int (nI 10)), (2, .int b)] [.int 0] rk_HM _
    refine ev_go (pc' := 15) (lv' := [(3, .int 0), (0, .ref 1), (1, .int (nI 10)), (2, .int b)]) (st' := [.int b, .int (nI 10), .ref 18]) (h' := rk_HM) 5 rfl ?_
    refine ev_call (M' := rm_X6_setValue) (ar := ([.ref 18, .int (nI 10), .int b], [])) (o' := (none, (rk_HM.set 19 (9, [.int 0, .int 0, .int 0, .int 0, .int 0, .int 0, .int 0, .int 0, .int 0, .int 0, .int b, .int 0, .int 0, .int 0, .int 0, .int 0])))) rfl rfl (by decide) (by decide) rfl rfl ?_ ?_
    · show rk_ev _ _ 0 [(0, .ref 18), (1, .int (nI 10)), (2, .int b)] [] _ _
      refine ev_go (pc' := 1) (lv' := [(0, .ref 18), (1, .int (nI 10)), (2, .int b)]) (st' := [.int (nI 10)]) (h' := rk_HM) 1 rfl ?_
      refine ev_if1 (tg := 17) rfl rfl false (by decide +kernel) ?_
      show rk_ev _ _ 4 _ _ _ _
      refine ev_go (pc' := 7) (lv' := [(0, .ref 18), (1, .int (nI 10)), (2, .int b)]) (st' := [.int ((Int8.ofInt 16).toInt32), .int (nI 10)]) (h' := rk_HM) 2 rfl ?_
      refine ev_if2 (tg := 17) rfl rfl false (by decide +kernel) ?_
      show rk_ev _ _ 10 _ _ _ _
      refine ev_go (pc' := 17) (lv' := [(0, .ref 18), (1, .int (nI 10)), (2, .int b)]) (st' := []) (h' := (rk_HM.set 19 (9, [.int 0, .int 0, .int 0, .int 0, .int 0, .int 0, .int 0, .int 0, .int 0, .int 0, .int b, .int 0, .int 0, .int 0, .int 0, .int 0]))) 5 rfl ?_
      exact ev_ret rfl rfl
    show rk_ev _ _ 18 [(3, .int 0), (0, .ref 1), (1, .int (nI 10)), (2, .int b)] [] (rk_HM.set 19 (9, [.int 0, .int 0, .int 0, .int 0, .int 0, .int 0, .int 0, .int 0, .int 0, .int 0, .int b, .int 0, .int 0, .int 0, .int 0, .int 0])) _
    refine ev_go (pc' := 19) (lv' := [(3, .int 0), (0, .ref 1), (1, .int (nI 10)), (2, .int b)]) (st' := [.int 0]) (h' := (rk_HM.set 19 (9, [.int 0, .int 0, .int 0, .int 0, .int 0, .int 0, .int 0, .int 0, .int 0, .int 0, .int b, .int 0, .int 0, .int 0, .int 0, .int 0]))) 1 rfl ?_
    exact ev_ret rfl rfl
  · show rk_ev _ _ 0 [(0, .ref 316), (1, .int (nI 10)), (2, .int b)] [] _ (some (.int 0), _)
    refine ev_go (pc' := 4) (lv' := [(0, .ref 316), (1, .int (nI 10)), (2, .int b)]) (st' := [.int ((Int8.ofInt 15).toInt32), .int (Int32.ofInt 0), .int (nI 10)]) (h' := (rk_HM.set 19 (9, [.int 0, .int 0, .int 0, .int 0, .int 0, .int 0, .int 0, .int 0, .int 0, .int 0, .int b, .int 0, .int 0, .int 0, .int 0, .int 0]))) 3 rfl ?_
    refine ev_call (M' := rm_X8_in) (ar := ([.int (nI 10), .int (Int32.ofInt 0), .int ((Int8.ofInt 15).toInt32)], [])) (o' := (some (.int (Int32.ofInt 1)), (rk_HM.set 19 (9, [.int 0, .int 0, .int 0, .int 0, .int 0, .int 0, .int 0, .int 0, .int 0, .int 0, .int b, .int 0, .int 0, .int 0, .int 0, .int 0])))) rfl rfl (by decide) (by decide) rfl rfl ?_ ?_
    · show rk_ev _ _ 0 [(0, .int (nI 10)), (1, .int (Int32.ofInt 0)), (2, .int ((Int8.ofInt 15).toInt32))] [] _ _
      refine ev_go (pc' := 2) (lv' := [(0, .int (nI 10)), (1, .int (Int32.ofInt 0)), (2, .int ((Int8.ofInt 15).toInt32))]) (st' := [.int (Int32.ofInt 0), .int (nI 10)]) (h' := (rk_HM.set 19 (9, [.int 0, .int 0, .int 0, .int 0, .int 0, .int 0, .int 0, .int 0, .int 0, .int 0, .int b, .int 0, .int 0, .int 0, .int 0, .int 0]))) 2 rfl ?_
      refine ev_if2 (tg := 14) rfl rfl false (by decide +kernel) ?_
      show rk_ev _ _ 5 _ _ _ _
      refine ev_go (pc' := 7) (lv' := [(0, .int (nI 10)), (1, .int (Int32.ofInt 0)), (2, .int ((Int8.ofInt 15).toInt32))]) (st' := [.int ((Int8.ofInt 15).toInt32), .int (nI 10)]) (h' := (rk_HM.set 19 (9, [.int 0, .int 0, .int 0, .int 0, .int 0, .int 0, .int 0, .int 0, .int 0, .int 0, .int b, .int 0, .int 0, .int 0, .int 0, .int 0]))) 2 rfl ?_
      refine ev_if2 (tg := 14) rfl rfl false (by decide +kernel) ?_
      show rk_ev _ _ 10 _ _ _ _
      refine ev_go (pc' := 15) (lv' := [(0, .int (nI 10)), (1, .int (Int32.ofInt 0)), (2, .int ((Int8.ofInt 15).toInt32))]) (st' := [.int (Int32.ofInt 1)]) (h' := (rk_HM.set 19 (9, [.int 0, .int 0, .int 0, .int 0, .int 0, .int 0, .int 0, .int 0, .int 0, .int 0, .int b, .int 0, .int 0, .int 0, .int 0, .int 0]))) 2 rfl ?_
      exact ev_ret rfl rfl
    show rk_ev _ _ 7 [(0, .ref 316), (1, .int (nI 10)), (2, .int b)] [.int (Int32.ofInt 1)] (rk_HM.set 19 (9, [.int 0, .int 0, .int 0, .int 0, .int 0, .int 0, .int 0, .int 0, .int 0, .int 0, .int b, .int 0, .int 0, .int 0, .int 0, .int 0])) _
    refine ev_if1 (tg := 12) rfl rfl true (by decide +kernel) ?_
    show rk_ev _ _ 12 _ _ _ _
    refine ev_go (pc' := 27) (lv' := [(3, .int 0), (0, .ref 316), (1, .int (nI 10)), (2, .int b)]) (st' := [.int 0]) (h' := ((rk_HM.set 19 (9, [.int 0, .int 0, .int 0, .int 0, .int 0, .int 0, .int 0, .int 0, .int 0, .int 0, .int b, .int 0, .int 0, .int 0, .int 0, .int 0])).set 320 (9, [.int 0, .int 0, .int 0, .int 0, .int 0, .int 0, .int 0, .int 0, .int 0, .int 0, .int b, .int 0, .int 0, .int 0, .int 0, .int 0, .int 0, .int 0, .int 0, .int 0, .int 0, .int 0, .int 0, .int 0, .int 0, .int 0, .int 0, .int 0, .int 0, .int 0, .int 0, .int 0]))) 11 rfl ?_
    exact ev_ret rfl rfl
set_option maxRecDepth 100000 in
set_option maxHeartbeats 4000000 in
theorem cs_store_11 (b : Int32)  : rk_ok2 rm_X7_store rm_X8_store [.int (nI 11), .int b] := by
  refine ⟨0, (rk_HM.set 19 (9, [.int 0, .int 0, .int 0, .int 0, .int 0, .int 0, .int 0, .int 0, .int 0, .int 0, .int 0, .int b, .int 0, .int 0, .int 0, .int 0])), ((rk_HM.set 19 (9, [.int 0, .int 0, .int 0, .int 0, .int 0, .int 0, .int 0, .int 0, .int 0, .int 0, .int 0, .int b, .int 0, .int 0, .int 0, .int 0])).set 320 (9, [.int 0, .int 0, .int 0, .int 0, .int 0, .int 0, .int 0, .int 0, .int 0, .int 0, .int 0, .int b, .int 0, .int 0, .int 0, .int 0, .int 0, .int 0, .int 0, .int 0, .int 0, .int 0, .int 0, .int 0, .int 0, .int 0, .int 0, .int 0, .int 0, .int 0, .int 0, .int 0])), ?_, ?_⟩
  · show rk_ev _ _ 0 [(0, .ref 1), (1, .int (nI 11)), (2, .int b)] [] _ _
    refine ev_go (pc' := 5) (lv' := [(0, .ref 1), (1, .int (nI 11)), (2, .int b)]) (st' := [.int (nI 11), .ref 18]) (h' := rk_HM) 3 rfl ?_
    refine ev_call (M' := rm_X6_valueOf) (ar := ([.ref 18, .int (nI 11)], [])) (o' := (some (.int 0), rk_HM)) rfl rfl (by decide) (by decide) rfl rfl ?_ ?_
    · show rk_ev _ _ 0 [(0, .ref 18), (1, .int (nI 11))] [] _ _
      exact ⟨16, by decide +kernel⟩
    show rk_ev _ _ 8 [(0, .ref 1), (1, .int (nI 11)), (2, .int b)] [.int 0] rk_HM _
    refine ev_go (pc' := 15) (lv' := [(3, .int 0), (0, .ref 1), (1, .int (nI 11)), (2, .int b)]) (st' := [.int b, .int (nI 11), .ref 18]) (h' := rk_HM) 5 rfl ?_
    refine ev_call (M' := rm_X6_setValue) (ar := ([.ref 18, .int (nI 11), .int b], [])) (o' := (none, (rk_HM.set 19 (9, [.int 0, .int 0, .int 0, .int 0, .int 0, .int 0, .int 0, .int 0, .int 0, .int 0, .int 0, .int b, .int 0, .int 0, .int 0, .int 0])))) rfl rfl (by decide) (by decide) rfl rfl ?_ ?_
    · show rk_ev _ _ 0 [(0, .ref 18), (1, .int (nI 11)), (2, .int b)] [] _ _
      refine ev_go (pc' := 1) (lv' := [(0, .ref 18), (1, .int (nI 11)), (2, .int b)]) (st' := [.int (nI 11)]) (h' := rk_HM) 1 rfl ?_
      refine ev_if1 (tg := 17) rfl rfl false (by decide +kernel) ?_
      show rk_ev _ _ 4 _ _ _ _
      refine ev_go (pc' := 7) (lv' := [(0, .ref 18), (1, .int (nI 11)), (2, .int b)]) (st' := [.int ((Int8.ofInt 16).toInt32), .int (nI 11)]) (h' := rk_HM) 2 rfl ?_
      refine ev_if2 (tg := 17) rfl rfl false (by decide +kernel) ?_
      show rk_ev _ _ 10 _ _ _ _
      refine ev_go (pc' := 17) (lv' := [(0, .ref 18), (1, .int (nI 11)), (2, .int b)]) (st' := []) (h' := (rk_HM.set 19 (9, [.int 0, .int 0, .int 0, .int 0, .int 0, .int 0, .int 0, .int 0, .int 0, .int 0, .int 0, .int b, .int 0, .int 0, .int 0, .int 0]))) 5 rfl ?_
      exact ev_ret rfl rfl
    show rk_ev _ _ 18 [(3, .int 0), (0, .ref 1), (1, .int (nI 11)), (2, .int b)] [] (rk_HM.set 19 (9, [.int 0, .int 0, .int 0, .int 0, .int 0, .int 0, .int 0, .int 0, .int 0, .int 0, .int 0, .int b, .int 0, .int 0, .int 0, .int 0])) _
    refine ev_go (pc' := 19) (lv' := [(3, .int 0), (0, .ref 1), (1, .int (nI 11)), (2, .int b)]) (st' := [.int 0]) (h' := (rk_HM.set 19 (9, [.int 0, .int 0, .int 0, .int 0, .int 0, .int 0, .int 0, .int 0, .int 0, .int 0, .int 0, .int b, .int 0, .int 0, .int 0, .int 0]))) 1 rfl ?_
    exact ev_ret rfl rfl
  · show rk_ev _ _ 0 [(0, .ref 316), (1, .int (nI 11)), (2, .int b)] [] _ (some (.int 0), _)
    refine ev_go (pc' := 4) (lv' := [(0, .ref 316), (1, .int (nI 11)), (2, .int b)]) (st' := [.int ((Int8.ofInt 15).toInt32), .int (Int32.ofInt 0), .int (nI 11)]) (h' := (rk_HM.set 19 (9, [.int 0, .int 0, .int 0, .int 0, .int 0, .int 0, .int 0, .int 0, .int 0, .int 0, .int 0, .int b, .int 0, .int 0, .int 0, .int 0]))) 3 rfl ?_
    refine ev_call (M' := rm_X8_in) (ar := ([.int (nI 11), .int (Int32.ofInt 0), .int ((Int8.ofInt 15).toInt32)], [])) (o' := (some (.int (Int32.ofInt 1)), (rk_HM.set 19 (9, [.int 0, .int 0, .int 0, .int 0, .int 0, .int 0, .int 0, .int 0, .int 0, .int 0, .int 0, .int b, .int 0, .int 0, .int 0, .int 0])))) rfl rfl (by decide) (by decide) rfl rfl ?_ ?_
    · show rk_ev _ _ 0 [(0, .int (nI 11)), (1, .int (Int32.ofInt 0)), (2, .int ((Int8.ofInt 15).toInt32))] [] _ _
      refine ev_go (pc' := 2) (lv' := [(0, .int (nI 11)), (1, .int (Int32.ofInt 0)), (2, .int ((Int8.ofInt 15).toInt32))]) (st' := [.int (Int32.ofInt 0), .int (nI 11)]) (h' := (rk_HM.set 19 (9, [.int 0, .int 0, .int 0, .int 0, .int 0, .int 0, .int 0, .int 0, .int 0, .int 0, .int 0, .int b, .int 0, .int 0, .int 0, .int 0]))) 2 rfl ?_
      refine ev_if2 (tg := 14) rfl rfl false (by decide +kernel) ?_
      show rk_ev _ _ 5 _ _ _ _
      refine ev_go (pc' := 7) (lv' := [(0, .int (nI 11)), (1, .int (Int32.ofInt 0)), (2, .int ((Int8.ofInt 15).toInt32))]) (st' := [.int ((Int8.ofInt 15).toInt32), .int (nI 11)]) (h' := (rk_HM.set 19 (9, [.int 0, .int 0, .int 0, .int 0, .int 0, .int 0, .int 0, .int 0, .int 0, .int 0, .int 0, .int b, .int 0, .int 0, .int 0, .int 0]))) 2 rfl ?_
      refine ev_if2 (tg := 14) rfl rfl false (by decide +kernel) ?_
      show rk_ev _ _ 10 _ _ _ _
      refine ev_go (pc' := 15) (lv' := [(0, .int (nI 11)), (1, .int (Int32.ofInt 0)), (2, .int ((Int8.ofInt 15).toInt32))]) (st' := [.int (Int32.ofInt 1)]) (h' := (rk_HM.set 19 (9, [.int 0, .int 0, .int 0, .int 0, .int 0, .int 0, .int 0, .int 0, .int 0, .int 0, .int 0, .int b, .int 0, .int 0, .int 0, .int 0]))) 2 rfl ?_
      exact ev_ret rfl rfl
    show rk_ev _ _ 7 [(0, .ref 316), (1, .int (nI 11)), (2, .int b)] [.int (Int32.ofInt 1)] (rk_HM.set 19 (9, [.int 0, .int 0, .int 0, .int 0, .int 0, .int 0, .int 0, .int 0, .int 0, .int 0, .int 0, .int b, .int 0, .int 0, .int 0, .int 0])) _
    refine ev_if1 (tg := 12) rfl rfl true (by decide +kernel) ?_
    show rk_ev _ _ 12 _ _ _ _
    refine ev_go (pc' := 27) (lv' := [(3, .int 0), (0, .ref 316), (1, .int (nI 11)), (2, .int b)]) (st' := [.int 0]) (h' := ((rk_HM.set 19 (9, [.int 0, .int 0, .int 0, .int 0, .int 0, .int 0, .int 0, .int 0, .int 0, .int 0, .int 0, .int b, .int 0, .int 0, .int 0, .int 0])).set 320 (9, [.int 0, .int 0, .int 0, .int 0, .int 0, .int 0, .int 0, .int 0, .int 0, .int 0, .int 0, .int b, .int 0, .int 0, .int 0, .int 0, .int 0, .int 0, .int 0, .int 0, .int 0, .int 0, .int 0, .int 0, .int 0, .int 0, .int 0, .int 0, .int 0, .int 0, .int 0, .int 0]))) 11 rfl ?_
    exact ev_ret rfl rfl
set_option maxRecDepth 100000 in
set_option maxHeartbeats 4000000 in
theorem cs_store_12 (b : Int32)  : rk_ok2 rm_X7_store rm_X8_store [.int (nI 12), .int b] := by
  refine ⟨0, (rk_HM.set 19 (9, [.int 0, .int 0, .int 0, .int 0, .int 0, .int 0, .int 0, .int 0, .int 0, .int 0, .int 0, .int 0, .int b, .int 0, .int 0, .int 0])), ((rk_HM.set 19 (9, [.int 0, .int 0, .int 0, .int 0, .int 0, .int 0, .int 0, .int 0, .int 0, .int 0, .int 0, .int 0, .int b, .int 0, .int 0, .int 0])).set 320 (9, [.int 0, .int 0, .int 0, .int 0, .int 0, .int 0, .int 0, .int 0, .int 0, .int 0, .int 0, .int 0, .int b, .int 0, .int 0, .int 0, .int 0, .int 0, .int 0, .int 0, .int 0, .int 0, .int 0, .int 0, .int 0, .int 0, .int 0, .int 0, .int 0, .int 0, .int 0, .int 0])), ?_, ?_⟩
  · show rk_ev _ _ 0 [(0, .ref 1), (1, .int (nI 12)), (2, .int b)] [] _ _
    refine ev_go (pc' := 5) (lv' := [(0, .ref 1), (1, .int (nI 12)), (2, .int b)]) (st' := [.int (nI 12), .ref 18]) (h' := rk_HM) 3 rfl ?_
    refine ev_call (M' := rm_X6_valueOf) (ar := ([.ref 18, .int (nI 12)], [])) (o' := (some (.int 0), rk_HM)) rfl rfl (by decide) (by decide) rfl rfl ?_ ?_
    · show rk_ev _ _ 0 [(0, .ref 18), (1, .int (nI 12))] [] _ _
      exact ⟨16, by decide +kernel⟩
    show rk_ev _ _ 8 [(0, .ref 1), (1, .int (nI 12)), (2, .int b)] [.int 0] rk_HM _
    refine ev_go (pc' := 15) (lv' := [(3, .int 0), (0, .ref 1), (1, .int (nI 12)), (2, .int b)]) (st' := [.int b, .int (nI 12), .ref 18]) (h' := rk_HM) 5 rfl ?_
    refine ev_call (M' := rm_X6_setValue) (ar := ([.ref 18, .int (nI 12), .int b], [])) (o' := (none, (rk_HM.set 19 (9, [.int 0, .int 0, .int 0, .int 0, .int 0, .int 0, .int 0, .int 0, .int 0, .int 0, .int 0, .int 0, .int b, .int 0, .int 0, .int 0])))) rfl rfl (by decide) (by decide) rfl rfl ?_ ?_
    · show rk_ev _ _ 0 [(0, .ref 18), (1, .int (nI 12)), (2, .int b)] [] _ _
      refine ev_go (pc' := 1) (lv' := [(0, .ref 18), (1, .int (nI 12)), (2, .int b)]) (st' := [.int (nI 12)]) (h' := rk_HM) 1 rfl ?_
      refine ev_if1 (tg := 17) rfl rfl false (by decide +kernel) ?_
      show rk_ev _ _ 4 _ _ _ _
      refine ev_go (pc' := 7) (lv' := [(0, .ref 18), (1, .int (nI 12)), (2, .int b)]) (st' := [.int ((Int8.ofInt 16).toInt32), .int (nI 12)]) (h' := rk_HM) 2 rfl ?_
      refine ev_if2 (tg := 17) rfl rfl false (by decide +kernel) ?_
      show rk_ev _ _ 10 _ _ _ _
      refine ev_go (pc' := 17) (lv' := [(0, .ref 18), (1, .int (nI 12)), (2, .int b)]) (st' := []) (h' := (rk_HM.set 19 (9, [.int 0, .int 0, .int 0, .int 0, .int 0, .int 0, .int 0, .int 0, .int 0, .int 0, .int 0, .int 0, .int b, .int 0, .int 0, .int 0]))) 5 rfl ?_
      exact ev_ret rfl rfl
    show rk_ev _ _ 18 [(3, .int 0), (0, .ref 1), (1, .int (nI 12)), (2, .int b)] [] (rk_HM.set 19 (9, [.int 0, .int 0, .int 0, .int 0, .int 0, .int 0, .int 0, .int 0, .int 0, .int 0, .int 0, .int 0, .int b, .int 0, .int 0, .int 0])) _
    refine ev_go (pc' := 19) (lv' := [(3, .int 0), (0, .ref 1), (1, .int (nI 12)), (2, .int b)]) (st' := [.int 0]) (h' := (rk_HM.set 19 (9, [.int 0, .int 0, .int 0, .int 0, .int 0, .int 0, .int 0, .int 0, .int 0, .int 0, .int 0, .int 0, .int b, .int 0, .int 0, .int 0]))) 1 rfl ?_
    exact ev_ret rfl rfl
  · show rk_ev _ _ 0 [(0, .ref 316), (1, .int (nI 12)), (2, .int b)] [] _ (some (.int 0), _)
    refine ev_go (pc' := 4) (lv' := [(0, .ref 316), (1, .int (nI 12)), (2, .int b)]) (st' := [.int ((Int8.ofInt 15).toInt32), .int (Int32.ofInt 0), .int (nI 12)]) (h' := (rk_HM.set 19 (9, [.int 0, .int 0, .int 0, .int 0, .int 0, .int 0, .int 0, .int 0, .int 0, .int 0, .int 0, .int 0, .int b, .int 0, .int 0, .int 0]))) 3 rfl ?_
    refine ev_call (M' := rm_X8_in) (ar := ([.int (nI 12), .int (Int32.ofInt 0), .int ((Int8.ofInt 15).toInt32)], [])) (o' := (some (.int (Int32.ofInt 1)), (rk_HM.set 19 (9, [.int 0, .int 0, .int 0, .int 0, .int 0, .int 0, .int 0, .int 0, .int 0, .int 0, .int 0, .int 0, .int b, .int 0, .int 0, .int 0])))) rfl rfl (by decide) (by decide) rfl rfl ?_ ?_
    · show rk_ev _ _ 0 [(0, .int (nI 12)), (1, .int (Int32.ofInt 0)), (2, .int ((Int8.ofInt 15).toInt32))] [] _ _
      refine ev_go (pc' := 2) (lv' := [(0, .int (nI 12)), (1, .int (Int32.ofInt 0)), (2, .int ((Int8.ofInt 15).toInt32))]) (st' := [.int (Int32.ofInt 0), .int (nI 12)]) (h' := (rk_HM.set 19 (9, [.int 0, .int 0, .int 0, .int 0, .int 0, .int 0, .int 0, .int 0, .int 0, .int 0, .int 0, .int 0, .int b, .int 0, .int 0, .int 0]))) 2 rfl ?_
      refine ev_if2 (tg := 14) rfl rfl false (by decide +kernel) ?_
      show rk_ev _ _ 5 _ _ _ _
      refine ev_go (pc' := 7) (lv' := [(0, .int (nI 12)), (1, .int (Int32.ofInt 0)), (2, .int ((Int8.ofInt 15).toInt32))]) (st' := [.int ((Int8.ofInt 15).toInt32), .int (nI 12)]) (h' := (rk_HM.set 19 (9, [.int 0, .int 0, .int 0, .int 0, .int 0, .int 0, .int 0, .int 0, .int 0, .int 0, .int 0, .int 0, .int b, .int 0, .int 0, .int 0]))) 2 rfl ?_
      refine ev_if2 (tg := 14) rfl rfl false (by decide +kernel) ?_
      show rk_ev _ _ 10 _ _ _ _
      refine ev_go (pc' := 15) (lv' := [(0, .int (nI 12)), (1, .int (Int32.ofInt 0)), (2, .int ((Int8.ofInt 15).toInt32))]) (st' := [.int (Int32.ofInt 1)]) (h' := (rk_HM.set 19 (9, [.int 0, .int 0, .int 0, .int 0, .int 0, .int 0, .int 0, .int 0, .int 0, .int 0, .int 0, .int 0, .int b, .int 0, .int 0, .int 0]))) 2 rfl ?_
      exact ev_ret rfl rfl
    show rk_ev _ _ 7 [(0, .ref 316), (1, .int (nI 12)), (2, .int b)] [.int (Int32.ofInt 1)] (rk_HM.set 19 (9, [.int 0, .int 0, .int 0, .int 0, .int 0, .int 0, .int 0, .int 0, .int 0, .int 0, .int 0, .int 0, .int b, .int 0, .int 0, .int 0])) _
    refine ev_if1 (tg := 12) rfl rfl true (by decide +kernel) ?_
    show rk_ev _ _ 12 _ _ _ _
    refine ev_go (pc' := 27) (lv' := [(3, .int 0), (0, .ref 316), (1, .int (nI 12)), (2, .int b)]) (st' := [.int 0]) (h' := ((rk_HM.set 19 (9, [.int 0, .int 0, .int 0, .int 0, .int 0, .int 0, .int 0, .int 0, .int 0, .int 0, .int 0, .int 0, .int b, .int 0, .int 0, .int 0])).set 320 (9, [.int 0, .int 0, .int 0, .int 0, .int 0, .int 0, .int 0, .int 0, .int 0, .int 0, .int 0, .int 0, .int b, .int 0, .int 0, .int 0, .int 0, .int 0, .int 0, .int 0, .int 0, .int 0, .int 0, .int 0, .int 0, .int 0, .int 0, .int 0, .int 0, .int 0, .int 0, .int 0]))) 11 rfl ?_
    exact ev_ret rfl rfl
set_option maxRecDepth 100000 in
set_option maxHeartbeats 4000000 in
theorem cs_store_13 (b : Int32)  : rk_ok2 rm_X7_store rm_X8_store [.int (nI 13), .int b] := by
  refine ⟨0, (rk_HM.set 19 (9, [.int 0, .int 0, .int 0, .int 0, .int 0, .int 0, .int 0, .int 0, .int 0, .int 0, .int 0, .int 0, .int 0, .int b, .int 0, .int 0])), ((rk_HM.set 19 (9, [.int 0, .int 0, .int 0, .int 0, .int 0, .int 0, .int 0, .int 0, .int 0, .int 0, .int 0, .int 0, .int 0, .int b, .int 0, .int 0])).set 320 (9, [.int 0, .int 0, .int 0, .int 0, .int 0, .int 0, .int 0, .int 0, .int 0, .int 0, .int 0, .int 0, .int 0, .int b, .int 0, .int 0, .int 0, .int 0, .int 0, .int 0, .int 0, .int 0, .int 0, .int 0, .int 0, .int 0, .int 0, .int 0, .int 0, .int 0, .int 0, .int 0])), ?_, ?_⟩
  · show rk_ev _ _ 0 [(0, .ref 1), (1, .int (nI 13)), (2, .int b)] [] _ _
    refine ev_go (pc' := 5) (lv' := [(0, .ref 1), (1, .int (nI 13)), (2, .int b)]) (st' := [.int (nI 13), .ref 18]) (h' := rk_HM) 3 rfl ?_
    refine ev_call (M' := rm_X6_valueOf) (ar := ([.ref 18, .int (nI 13)], [])) (o' := (some (.int 0), rk_HM)) rfl rfl (by decide) (by decide) rfl rfl ?_ ?_
    · show rk_ev _ _ 0 [(0, .ref 18), (1, .int (nI 13))] [] _ _
      exact ⟨16, by decide +kernel⟩
    show rk_ev _ _ 8 [(0, .ref 1), (1, .int (nI 13)), (2, .int b)] [.int 0] rk_HM _
    refine ev_go (pc' := 15) (lv' := [(3, .int 0), (0, .ref 1), (1, .int (nI 13)), (2, .int b)]) (st' := [.int b, .int (nI 13), .ref 18]) (h' := rk_HM) 5 rfl ?_
    refine ev_call (M' := rm_X6_setValue) (ar := ([.ref 18, .int (nI 13), .int b], [])) (o' := (none, (rk_HM.set 19 (9, [.int 0, .int 0, .int 0, .int 0, .int 0, .int 0, .int 0, .int 0, .int 0, .int 0, .int 0, .int 0, .int 0, .int b, .int 0, .int 0])))) rfl rfl (by decide) (by decide) rfl rfl ?_ ?_
    · show rk_ev _ _ 0 [(0, .ref 18), (1, .int (nI 13)), (2, .int b)] [] _ _
      refine ev_go (pc' := 1) (lv' := [(0, .ref 18), (1, .int (nI 13)), (2, .int b)]) (st' := [.int (nI 13)]) (h' := rk_HM) 1 rfl ?_
      refine ev_if1 (tg := 17) rfl rfl false (by decide +kernel) ?_
      show rk_ev _ _ 4 _ _ _ _
      refine ev_go (pc' := 7) (lv' := [(0, .ref 18), (1, .int (nI 13)), (2, .int b)]) (st' := [.int ((Int8.ofInt 16).toInt32), .int (nI 13)]) (h' := rk_HM) 2 rfl ?_
      refine ev_if2 (tg := 17) rfl rfl false (by decide +kernel) ?_
      show rk_ev _ _ 10 _ _ _ _
      refine ev_go (pc' := 17) (lv' := [(0, .ref 18), (1, .int (nI 13)), (2, .int b)]) (st' := []) (h' := (rk_HM.set 19 (9, [.int 0, .int 0, .int 0, .int 0, .int 0, .int 0, .int 0, .int 0, .int 0, .int 0, .int 0, .int 0, .int 0, .int b, .int 0, .int 0]))) 5 rfl ?_
      exact ev_ret rfl rfl
    show rk_ev _ _ 18 [(3, .int 0), (0, .ref 1), (1, .int (nI 13)), (2, .int b)] [] (rk_HM.set 19 (9, [.int 0, .int 0, .int 0, .int 0, .int 0, .int 0, .int 0, .int 0, .int 0, .int 0, .int 0, .int 0, .int 0, .int b, .int 0, .int 0])) _
    refine ev_go (pc' := 19) (lv' := [(3, .int 0), (0, .ref 1), (1, .int (nI 13)), (2, .int b)]) (st' := [.int 0]) (h' := (rk_HM.set 19 (9, [.int 0, .int 0, .int 0, .int 0, .int 0, .int 0, .int 0, .int 0, .int 0, .int 0, .int 0, .int 0, .int 0, .int b, .int 0, .int 0]))) 1 rfl ?_
    exact ev_ret rfl rfl
  · show rk_ev _ _ 0 [(0, .ref 316), (1, .int (nI 13)), (2, .int b)] [] _ (some (.int 0), _)
    refine ev_go (pc' := 4) (lv' := [(0, .ref 316), (1, .int (nI 13)), (2, .int b)]) (st' := [.int ((Int8.ofInt 15).toInt32), .int (Int32.ofInt 0), .int (nI 13)]) (h' := (rk_HM.set 19 (9, [.int 0, .int 0, .int 0, .int 0, .int 0, .int 0, .int 0, .int 0, .int 0, .int 0, .int 0, .int 0, .int 0, .int b, .int 0, .int 0]))) 3 rfl ?_
    refine ev_call (M' := rm_X8_in) (ar := ([.int (nI 13), .int (Int32.ofInt 0), .int ((Int8.ofInt 15).toInt32)], [])) (o' := (some (.int (Int32.ofInt 1)), (rk_HM.set 19 (9, [.int 0, .int 0, .int 0, .int 0, .int 0, .int 0, .int 0, .int 0, .int 0, .int 0, .int 0, .int 0, .int 0, .int b, .int 0, .int 0])))) rfl rfl (by decide) (by decide) rfl rfl ?_ ?_
    · show rk_ev _ _ 0 [(0, .int (nI 13)), (1, .int (Int32.ofInt 0)), (2, .int ((Int8.ofInt 15).toInt32))] [] _ _
      refine ev_go (pc' := 2) (lv' := [(0, .int (nI 13)), (1, .int (Int32.ofInt 0)), (2, .int ((Int8.ofInt 15).toInt32))]) (st' := [.int (Int32.ofInt 0), .int (nI 13)]) (h' := (rk_HM.set 19 (9, [.int 0, .int 0, .int 0, .int 0, .int 0, .int 0, .int 0, .int 0, .int 0, .int 0, .int 0, .int 0, .int 0, .int b, .int 0, .int 0]))) 2 rfl ?_
      refine ev_if2 (tg := 14) rfl rfl false (by decide +kernel) ?_
      show rk_ev _ _ 5 _ _ _ _
      refine ev_go (pc' := 7) (lv' := [(0, .int (nI 13)), (1, .int (Int32.ofInt 0)), (2, .int ((Int8.ofInt 15).toInt32))]) (st' := [.int ((Int8.ofInt 15).toInt32), .int (nI 13)]) (h' := (rk_HM.set 19 (9, [.int 0, .int 0, .int 0, .int 0, .int 0, .int 0, .int 0, .int 0, .int 0, .int 0, .int 0, .int 0, .int 0, .int b, .int 0, .int 0]))) 2 rfl ?_
      refine ev_if2 (tg := 14) rfl rfl false (by decide +kernel) ?_
      show rk_ev _ _ 10 _ _ _ _
      refine ev_go (pc' := 15) (lv' := [(0, .int (nI 13)), (1, .int (Int32.ofInt 0)), (2, .int ((Int8.ofInt 15).toInt32))]) (st' := [.int (Int32.ofInt 1)]) (h' := (rk_HM.set 19 (9, [.int 0, .int 0, .int 0, .int 0, .int 0, .int 0, .int 0, .int 0, .int 0, .int 0, .int 0, .int 0, .int 0, .int b, .int 0, .int 0]))) 2 rfl ?_
      exact ev_ret rfl rfl
    show rk_ev _ _ 7 [(0, .ref 316), (1, .int (nI 13)), (2, .int b)] [.int (Int32.ofInt 1)] (rk_HM.set 19 (9, [.int 0, .int 0, .int 0, .int 0, .int 0, .int 0, .int 0, .int 0, .int 0, .int 0, .int 0, .int 0, .int 0, .int b, .int 0, .int 0])) _
    refine ev_if1 (tg := 12) rfl rfl true (by decide +kernel) ?_
    show rk_ev _ _ 12 _ _ _ _
    refine ev_go (pc' := 27) (lv' := [(3, .int 0), (0, .ref 316), (1, .int (nI 13)), (2, .int b)]) (st' := [.int 0]) (h' := ((rk_HM.set 19 (9, [.int 0, .int 0, .int 0, .int 0, .int 0, .int 0, .int 0, .int 0, .int 0, .int 0, .int 0, .int 0, .int 0, .int b, .int 0, .int 0])).set 320 (9, [.int 0, .int 0, .int 0, .int 0, .int 0, .int 0, .int 0, .int 0, .int 0, .int 0, .int 0, .int 0, .int 0, .int b, .int 0, .int 0, .int 0, .int 0, .int 0, .int 0, .int 0, .int 0, .int 0, .int 0, .int 0, .int 0, .int 0, .int 0, .int 0, .int 0, .int 0, .int 0]))) 11 rfl ?_
    exact ev_ret rfl rfl
set_option maxRecDepth 100000 in
set_option maxHeartbeats 4000000 in
theorem cs_store_14 (b : Int32)  : rk_ok2 rm_X7_store rm_X8_store [.int (nI 14), .int b] := by
  refine ⟨0, (rk_HM.set 19 (9, [.int 0, .int 0, .int 0, .int 0, .int 0, .int 0, .int 0, .int 0, .int 0, .int 0, .int 0, .int 0, .int 0, .int 0, .int b, .int 0])), ((rk_HM.set 19 (9, [.int 0, .int 0, .int 0, .int 0, .int 0, .int 0, .int 0, .int 0, .int 0, .int 0, .int 0, .int 0, .int 0, .int 0, .int b, .int 0])).set 320 (9, [.int 0, .int 0, .int 0, .int 0, .int 0, .int 0, .int 0, .int 0, .int 0, .int 0, .int 0, .int 0, .int 0, .int 0, .int b, .int 0, .int 0, .int 0, .int 0, .int 0, .int 0, .int 0, .int 0, .int 0, .int 0, .int 0, .int 0, .int 0, .int 0, .int 0, .int 0, .int 0])), ?_, ?_⟩
  · show rk_ev _ _ 0 [(0, .ref 1), (1, .int (nI 14)), (2, .int b)] [] _ _
    refine ev_go (pc' := 5) (lv' := [(0, .ref 1), (1, .int (nI 14)), (2, .int b)]) (st' := [.int (nI 14), .ref 18]) (h' := rk_HM) 3 rfl ?_
    refine ev_call (M' := rm_X6_valueOf) (ar := ([.ref 18, .int (nI 14)], [])) (o' := (some (.int 0), rk_HM)) rfl rfl (by decide) (by decide) rfl rfl ?_ ?_
    · show rk_ev _ _ 0 [(0, .ref 18), (1, .int (nI 14))] [] _ _
      exact ⟨16, by decide +kernel⟩
    show rk_ev _ _ 8 [(0, .ref 1), (1, .int (nI 14)), (2, .int b)] [.int 0] rk_HM _
    refine ev_go (pc' := 15) (lv' := [(3, .int 0), (0, .ref 1), (1, .int (nI 14)), (2, .int b)]) (st' := [.int b, .int (nI 14), .ref 18]) (h' := rk_HM) 5 rfl ?_
    refine ev_call (M' := rm_X6_setValue) (ar := ([.ref 18, .int (nI 14), .int b], [])) (o' := (none, (rk_HM.set 19 (9, [.int 0, .int 0, .int 0, .int 0, .int 0, .int 0, .int 0, .int 0, .int 0, .int 0, .int 0, .int 0, .int 0, .int 0, .int b, .int 0])))) rfl rfl (by decide) (by decide) rfl rfl ?_ ?_
    · show rk_ev _ _ 0 [(0, .ref 18), (1, .int (nI 14)), (2, .int b)] [] _ _
      refine ev_go (pc' := 1) (lv' := [(0, .ref 18), (1, .int (nI 14)), (2, .int b)]) (st' := [.int (nI 14)]) (h' := rk_HM) 1 rfl ?_
      refine ev_if1 (tg := 17) rfl rfl false (by decide +kernel) ?_
      show rk_ev _ _ 4 _ _ _ _
      refine ev_go (pc' := 7) (lv' := [(0, .ref 18), (1, .int (nI 14)), (2, .int b)]) (st' := [.int ((Int8.ofInt 16).toInt32), .int (nI 14)]) (h' := rk_HM) 2 rfl ?_
      refine ev_if2 (tg := 17) rfl rfl false (by decide +kernel) ?_
      show rk_ev _ _ 10 _ _ _ _
      refine ev_go (pc' := 17) (lv' := [(0, .ref 18), (1, .int (nI 14)), (2, .int b)]) (st' := []) (h' := (rk_HM.set 19 (9, [.int 0, .int 0, .int 0, .int 0, .int 0, .int 0, .int 0, .int 0, .int 0, .int 0, .int 0, .int 0, .int 0, .int 0, .int b, .int 0]))) 5 rfl ?_
      exact ev_ret rfl rfl
    show rk_ev _ _ 18 [(3, .int 0), (0, .ref 1), (1, .int (nI 14)), (2, .int b)] [] (rk_HM.set 19 (9, [.int 0, .int 0, .int 0, .int 0, .int 0, .int 0, .int 0, .int 0, .int 0, .int 0, .int 0, .int 0, .int 0, .int 0, .int b, .int 0])) _
    refine ev_go (pc' := 19) (lv' := [(3, .int 0), (0, .ref 1), (1, .int (nI 14)), (2, .int b)]) (st' := [.int 0]) (h' := (rk_HM.set 19 (9, [.int 0, .int 0, .int 0, .int 0, .int 0, .int 0, .int 0, .int 0, .int 0, .int 0, .int 0, .int 0, .int 0, .int 0, .int b, .int 0]))) 1 rfl ?_
    exact ev_ret rfl rfl
  · show rk_ev _ _ 0 [(0, .ref 316), (1, .int (nI 14)), (2, .int b)] [] _ (some (.int 0), _)
    refine ev_go (pc' := 4) (lv' := [(0, .ref 316), (1, .int (nI 14)), (2, .int b)]) (st' := [.int ((Int8.ofInt 15).toInt32), .int (Int32.ofInt 0), .int (nI 14)]) (h' := (rk_HM.set 19 (9, [.int 0, .int 0, .int 0, .int 0, .int 0, .int 0, .int 0, .int 0, .int 0, .int 0, .int 0, .int 0, .int 0, .int 0, .int b, .int 0]))) 3 rfl ?_
    refine ev_call (M' := rm_X8_in) (ar := ([.int (nI 14), .int (Int32.ofInt 0), .int ((Int8.ofInt 15).toInt32)], [])) (o' := (some (.int (Int32.ofInt 1)), (rk_HM.set 19 (9, [.int 0, .int 0, .int 0, .int 0, .int 0, .int 0, .int 0, .int 0, .int 0, .int 0, .int 0, .int 0, .int 0, .int 0, .int b, .int 0])))) rfl rfl (by decide) (by decide) rfl rfl ?_ ?_
    · show rk_ev _ _ 0 [(0, .int (nI 14)), (1, .int (Int32.ofInt 0)), (2, .int ((Int8.ofInt 15).toInt32))] [] _ _
      refine ev_go (pc' := 2) (lv' := [(0, .int (nI 14)), (1, .int (Int32.ofInt 0)), (2, .int ((Int8.ofInt 15).toInt32))]) (st' := [.int (Int32.ofInt 0), .int (nI 14)]) (h' := (rk_HM.set 19 (9, [.int 0, .int 0, .int 0, .int 0, .int 0, .int 0, .int 0, .int 0, .int 0, .int 0, .int 0, .int 0, .int 0, .int 0, .int b, .int 0]))) 2 rfl ?_
      refine ev_if2 (tg := 14) rfl rfl false (by decide +kernel) ?_
      show rk_ev _ _ 5 _ _ _ _
      refine ev_go (pc' := 7) (lv' := [(0, .int (nI 14)), (1, .int (Int32.ofInt 0)), (2, .int ((Int8.ofInt 15).toInt32))]) (st' := [.int ((Int8.ofInt 15).toInt32), .int (nI 14)]) (h' := (rk_HM.set 19 (9, [.int 0, .int 0, .int 0, .int 0, .int 0, .int 0, .int 0, .int 0, .int 0, .int 0, .int 0, .int 0, .int 0, .int 0, .int b, .int 0]))) 2 rfl ?_
      refine ev_if2 (tg := 14) rfl rfl false (by decide +kernel) ?_
      show rk_ev _ _ 10 _ _ _ _
      refine ev_go (pc' := 15) (lv' := [(0, .int (nI 14)), (1, .int (Int32.ofInt 0)), (2, .int ((Int8.ofInt 15).toInt32))]) (st' := [.int (Int32.ofInt 1)]) (h' := (rk_HM.set 19 (9, [.int 0, .int 0, .int 0, .int 0, .int 0, .int 0, .int 0, .int 0, .int 0, .int 0, .int 0, .int 0, .int 0, .int 0, .int b, .int 0]))) 2 rfl ?_
      exact ev_ret rfl rfl
    show rk_ev _ _ 7 [(0, .ref 316), (1, .int (nI 14)), (2, .int b)] [.int (Int32.ofInt 1)] (rk_HM.set 19 (9, [.int 0, .int 0, .int 0, .int 0, .int 0, .int 0, .int 0, .int 0, .int 0, .int 0, .int 0, .int 0, .int 0, .int 0, .int b, .int 0])) _
    refine ev_if1 (tg := 12) rfl rfl true (by decide +kernel) ?_
    show rk_ev _ _ 12 _ _ _ _
    refine ev_go (pc' := 27) (lv' := [(3, .int 0), (0, .ref 316), (1, .int (nI 14)), (2, .int b)]) (st' := [.int 0]) (h' := ((rk_HM.set 19 (9, [.int 0, .int 0, .int 0, .int 0, .int 0, .int 0, .int 0, .int 0, .int 0, .int 0, .int 0, .int 0, .int 0, .int 0, .int b, .int 0])).set 320 (9, [.int 0, .int 0, .int 0, .int 0, .int 0, .int 0, .int 0, .int 0, .int 0, .int 0, .int 0, .int 0, .int 0, .int 0, .int b, .int 0, .int 0, .int 0, .int 0, .int 0, .int 0, .int 0, .int 0, .int 0, .int 0, .int 0, .int 0, .int 0, .int 0, .int 0, .int 0, .int 0]))) 11 rfl ?_
    exact ev_ret rfl rfl
set_option maxRecDepth 100000 in
set_option maxHeartbeats 4000000 in
theorem cs_store_15 (b : Int32)  : rk_ok2 rm_X7_store rm_X8_store [.int (nI 15), .int b] := by
  refine ⟨0, (rk_HM.set 19 (9, [.int 0, .int 0, .int 0, .int 0, .int 0, .int 0, .int 0, .int 0, .int 0, .int 0, .int 0, .int 0, .int 0, .int 0, .int 0, .int b])), ((rk_HM.set 19 (9, [.int 0, .int 0, .int 0, .int 0, .int 0, .int 0, .int 0, .int 0, .int 0, .int 0, .int 0, .int 0, .int 0, .int 0, .int 0, .int b])).set 320 (9, [.int 0, .int 0, .int 0, .int 0, .int 0, .int 0, .int 0, .int 0, .int 0, .int 0, .int 0, .int 0, .int 0, .int 0, .int 0, .int b, .int 0, .int 0, .int 0, .int 0, .int 0, .int 0, .int 0, .int 0, .int 0, .int 0, .int 0, .int 0, .int 0, .int 0, .int 0, .int 0])), ?_, ?_⟩
  · show rk_ev _ _ 0 [(0, .ref 1), (1, .int (nI 15)), (2, .int b)] [] _ _
    refine ev_go (pc' := 5) (lv' := [(0, .ref 1), (1, .int (nI 15)), (2, .int b)]) (st' := [.int (nI 15), .ref 18]) (h' := rk_HM) 3 rfl ?_
    refine ev_call (M' := rm_X6_valueOf) (ar := ([.ref 18, .int (nI 15)], [])) (o' := (some (.int 0), rk_HM)) rfl rfl (by decide) (by decide) rfl rfl ?_ ?_
    · show rk_ev _ _ 0 [(0, .ref 18), (1, .int (nI 15))] [] _ _
      exact ⟨16, by decide +kernel⟩
    show rk_ev _ _ 8 [(0, .ref 1), (1, .int (nI 15)), (2, .int b)] [.int 0] rk_HM _
    refine ev_go (pc' := 15) (lv' := [(3, .int 0), (0, .ref 1), (1, .int (nI 15)), (2, .int b)]) (st' := [.int b, .int (nI 15), .ref 18]) (h' := rk_HM) 5 rfl ?_
    refine ev_call (M' := rm_X6_setValue) (ar := ([.ref 18, .int (nI 15), .int b], [])) (o' := (none, (rk_HM.set 19 (9, [.int 0, .int 0, .int 0, .int 0, .int 0, .int 0, .int 0, .int 0, .int 0, .int 0, .int 0, .int 0, .int 0, .int 0, .int 0, .int b])))) rfl rfl (by decide) (by decide) rfl rfl ?_ ?_
    · show rk_ev _ _ 0 [(0, .ref 18), (1, .int (nI 15)), (2, .int b)] [] _ _
      refine ev_go (pc' := 1) (lv' := [(0, .ref 18), (1, .int (nI 15)), (2, .int b)]) (st' := [.int (nI 15)]) (h' := rk_HM) 1 rfl ?_
      refine ev_if1 (tg := 17) rfl rfl false (by decide +kernel) ?_
      show rk_ev _ _ 4 _ _ _ _
      refine ev_go (pc' := 7) (lv' := [(0, .ref 18), (1, .int (nI 15)), (2, .int b)]) (st' := [.int ((Int8.ofInt 16).toInt32), .int (nI 15)]) (h' := rk_HM) 2 rfl ?_
      refine ev_if2 (tg := 17) rfl rfl false (by decide +kernel) ?_
      show rk_ev _ _ 10 _ _ _ _
      refine ev_go (pc' := 17) (lv' := [(0, .ref 18), (1, .int (nI 15)), (2, .int b)]) (st' := []) (h' := (rk_HM.set 19 (9, [.int 0, .int 0, .int 0, .int 0, .int 0, .int 0, .int 0, .int 0, .int 0, .int 0, .int 0, .int 0, .int 0, .int 0, .int 0, .int b]))) 5 rfl ?_
      exact ev_ret rfl rfl
    show rk_ev _ _ 18 [(3, .int 0), (0, .ref 1), (1, .int (nI 15)), (2, .int b)] [] (rk_HM.set 19 (9, [.int 0, .int 0, .int 0, .int 0, .int 0, .int 0, .int 0, .int 0, .int 0, .int 0, .int 0, .int 0, .int 0, .int 0, .int 0, .int b])) _
    refine ev_go (pc' := 19) (lv' := [(3, .int 0), (0, .ref 1), (1, .int (nI 15)), (2, .int b)]) (st' := [.int 0]) (h' := (rk_HM.set 19 (9, [.int 0, .int 0, .int 0, .int 0, .int 0, .int 0, .int 0, .int 0, .int 0, .int 0, .int 0, .int 0, .int 0, .int 0, .int 0, .int b]))) 1 rfl ?_
    exact ev_ret rfl rfl
  · show rk_ev _ _ 0 [(0, .ref 316), (1, .int (nI 15)), (2, .int b)] [] _ (some (.int 0), _)
    refine ev_go (pc' := 4) (lv' := [(0, .ref 316), (1, .int (nI 15)), (2, .int b)]) (st' := [.int ((Int8.ofInt 15).toInt32), .int (Int32.ofInt 0), .int (nI 15)]) (h' := (rk_HM.set 19 (9, [.int 0, .int 0, .int 0, .int 0, .int 0, .int 0, .int 0, .int 0, .int 0, .int 0, .int 0, .int 0, .int 0, .int 0, .int 0, .int b]))) 3 rfl ?_
    refine ev_call (M' := rm_X8_in) (ar := ([.int (nI 15), .int (Int32.ofInt 0), .int ((Int8.ofInt 15).toInt32)], [])) (o' := (some (.int (Int32.ofInt 1)), (rk_HM.set 19 (9, [.int 0, .int 0, .int 0, .int 0, .int 0, .int 0, .int 0, .int 0, .int 0, .int 0, .int 0, .int 0, .int 0, .int 0, .int 0, .int b])))) rfl rfl (by decide) (by decide) rfl rfl ?_ ?_
    · show rk_ev _ _ 0 [(0, .int (nI 15)), (1, .int (Int32.ofInt 0)), (2, .int ((Int8.ofInt 15).toInt32))] [] _ _
      refine ev_go (pc' := 2) (lv' := [(0, .int (nI 15)), (1, .int (Int32.ofInt 0)), (2, .int ((Int8.ofInt 15).toInt32))]) (st' := [.int (Int32.ofInt 0), .int (nI 15)]) (h' := (rk_HM.set 19 (9, [.int 0, .int 0, .int 0, .int 0, .int 0, .int 0, .int 0, .int 0, .int 0, .int 0, .int 0, .int 0, .int 0, .int 0, .int 0, .int b]))) 2 rfl ?_
      refine ev_if2 (tg := 14) rfl rfl false (by decide +kernel) ?_
      show rk_ev _ _ 5 _ _ _ _
      refine ev_go (pc' := 7) (lv' := [(0, .int (nI 15)), (1, .int (Int32.ofInt 0)), (2, .int ((Int8.ofInt 15).toInt32))]) (st' := [.int ((Int8.ofInt 15).toInt32), .int (nI 15)]) (h' := (rk_HM.set 19 (9, [.int 0, .int 0, .int 0, .int 0, .int 0, .int 0, .int 0, .int 0, .int 0, .int 0, .int 0, .int 0, .int 0, .int 0, .int 0, .int b]))) 2 rfl ?_
      refine ev_if2 (tg := 14) rfl rfl false (by decide +kernel) ?_
      show rk_ev _ _ 10 _ _ _ _
      refine ev_go (pc' := 15) (lv' := [(0, .int (nI 15)), (1, .int (Int32.ofInt 0)), (2, .int ((Int8.ofInt 15).toInt32))]) (st' := [.int (Int32.ofInt 1)]) (h' := (rk_HM.set 19 (9, [.int 0, .int 0, .int 0, .int 0, .int 0, .int 0, .int 0, .int 0, .int 0, .int 0, .int 0, .int 0, .int 0, .int 0, .int 0, .int b]))) 2 rfl ?_
      exact ev_ret rfl rfl
    show rk_ev _ _ 7 [(0, .ref 316), (1, .int (nI 15)), (2, .int b)] [.int (Int32.ofInt 1)] (rk_HM.set 19 (9, [.int 0, .int 0, .int 0, .int 0, .int 0, .int 0, .int 0, .int 0, .int 0, .int 0, .int 0, .int 0, .int 0, .int 0, .int 0, .int b])) _
    refine ev_if1 (tg := 12) rfl rfl true (by decide +kernel) ?_
    show rk_ev _ _ 12 _ _ _ _
    refine ev_go (pc' := 27) (lv' := [(3, .int 0), (0, .ref 316), (1, .int (nI 15)), (2, .int b)]) (st' := [.int 0]) (h' := ((rk_HM.set 19 (9, [.int 0, .int 0, .int 0, .int 0, .int 0, .int 0, .int 0, .int 0, .int 0, .int 0, .int 0, .int 0, .int 0, .int 0, .int 0, .int b])).set 320 (9, [.int 0, .int 0, .int 0, .int 0, .int 0, .int 0, .int 0, .int 0, .int 0, .int 0, .int 0, .int 0, .int 0, .int 0, .int 0, .int b, .int 0, .int 0, .int 0, .int 0, .int 0, .int 0, .int 0, .int 0, .int 0, .int 0, .int 0, .int 0, .int 0, .int 0, .int 0, .int 0]))) 11 rfl ?_
    exact ev_ret rfl rfl
set_option maxRecDepth 100000 in
set_option maxHeartbeats 4000000 in
theorem cs_ran_n (a : Int32) (ha : a.toInt < 0) : rk_ok2 rm_X7_ran rm_X8_ran [.int a] := by
  refine ⟨((Int8.ofInt (-2)).toInt32), rk_HM, rk_HM, ?_, ?_⟩
  · show rk_ev _ _ 0 [(0, .ref 1), (1, .int a)] [] _ _
    refine ev_go (pc' := 1) (lv' := [(0, .ref 1), (1, .int a)]) (st' := [.int a]) (h' := rk_HM) 1 rfl ?_
    refine ev_if1 (tg := 9) rfl rfl true (rk_cz (c := 0) (by decide +kernel) (decide_eq_true (by omega))) ?_
    show rk_ev _ _ 9 _ _ _ _
    refine ev_go (pc' := 11) (lv' := [(0, .ref 1), (1, .int a)]) (st' := [.int ((Int8.ofInt (-2)).toInt32)]) (h' := rk_HM) 1 rfl ?_
    exact ev_ret rfl rfl
  · show rk_ev _ _ 0 [(0, .ref 316), (1, .int a)] [] _ (some (.int ((Int8.ofInt (-2)).toInt32)), _)
    refine ev_go (pc' := 3) (lv' := [(0, .ref 316), (1, .int a)]) (st' := [.int (Int32.ofInt 4), .int (Int32.ofInt 0), .int a]) (h' := rk_HM) 3 rfl ?_
    refine ev_call (M' := rm_X8_in) (ar := ([.int a, .int (Int32.ofInt 0), .int (Int32.ofInt 4)], [])) (o' := (some (.int (Int32.ofInt 0)), rk_HM)) rfl rfl (by decide) (by decide) rfl rfl ?_ ?_
    · show rk_ev _ _ 0 [(0, .int a), (1, .int (Int32.ofInt 0)), (2, .int (Int32.ofInt 4))] [] _ _
      refine ev_go (pc' := 2) (lv' := [(0, .int a), (1, .int (Int32.ofInt 0)), (2, .int (Int32.ofInt 4))]) (st' := [.int (Int32.ofInt 0), .int a]) (h' := rk_HM) 2 rfl ?_
      refine ev_if2 (tg := 14) rfl rfl true (rk_cz (c := 0) (by decide +kernel) (decide_eq_true (by omega))) ?_
      show rk_ev _ _ 14 _ _ _ _
      refine ev_go (pc' := 15) (lv' := [(0, .int a), (1, .int (Int32.ofInt 0)), (2, .int (Int32.ofInt 4))]) (st' := [.int (Int32.ofInt 0)]) (h' := rk_HM) 1 rfl ?_
      exact ev_ret rfl rfl
    show rk_ev _ _ 6 [(0, .ref 316), (1, .int a)] [.int (Int32.ofInt 0)] rk_HM _
    refine ev_if1 (tg := 14) rfl rfl false (by decide +kernel) ?_
    show rk_ev _ _ 9 _ _ _ _
    refine ev_go (pc' := 32) (lv' := [(0, .ref 316), (1, .int a)]) (st' := [.int ((Int8.ofInt (-2)).toInt32)]) (h' := rk_HM) 2 rfl ?_
    exact ev_ret rfl rfl
set_option maxRecDepth 100000 in
set_option maxHeartbeats 4000000 in
theorem cs_ran_p (a : Int32) (ha : 5 ≤ a.toInt) : rk_ok2 rm_X7_ran rm_X8_ran [.int a] := by
  refine ⟨((Int8.ofInt (-2)).toInt32), rk_HM, rk_HM, ?_, ?_⟩
  · show rk_ev _ _ 0 [(0, .ref 1), (1, .int a)] [] _ _
    refine ev_go (pc' := 1) (lv' := [(0, .ref 1), (1, .int a)]) (st' := [.int a]) (h' := rk_HM) 1 rfl ?_
    refine ev_if1 (tg := 9) rfl rfl false (rk_cz (c := 0) (by decide +kernel) (decide_eq_false (by omega))) ?_
    show rk_ev _ _ 4 _ _ _ _
    refine ev_go (pc' := 6) (lv' := [(0, .ref 1), (1, .int a)]) (st' := [.int (Int32.ofInt 4), .int a]) (h' := rk_HM) 2 rfl ?_
    refine ev_if2 (tg := 12) rfl rfl false (rk_cz (c := 4) (by decide +kernel) (decide_eq_false (by omega))) ?_
    show rk_ev _ _ 9 _ _ _ _
    refine ev_go (pc' := 11) (lv' := [(0, .ref 1), (1, .int a)]) (st' := [.int ((Int8.ofInt (-2)).toInt32)]) (h' := rk_HM) 1 rfl ?_
    exact ev_ret rfl rfl
  · show rk_ev _ _ 0 [(0, .ref 316), (1, .int a)] [] _ (some (.int ((Int8.ofInt (-2)).toInt32)), _)
    refine ev_go (pc' := 3) (lv' := [(0, .ref 316), (1, .int a)]) (st' := [.int (Int32.ofInt 4), .int (Int32.ofInt 0), .int a]) (h' := rk_HM) 3 rfl ?_
    refine ev_call (M' := rm_X8_in) (ar := ([.int a, .int (Int32.ofInt 0), .int (Int32.ofInt 4)], [])) (o' := (some (.int (Int32.ofInt 0)), rk_HM)) rfl rfl (by decide) (by decide) rfl rfl ?_ ?_
    · show rk_ev _ _ 0 [(0, .int a), (1, .int (Int32.ofInt 0)), (2, .int (Int32.ofInt 4))] [] _ _
      refine ev_go (pc' := 2) (lv' := [(0, .int a), (1, .int (Int32.ofInt 0)), (2, .int (Int32.ofInt 4))]) (st' := [.int (Int32.ofInt 0), .int a]) (h' := rk_HM) 2 rfl ?_
      refine ev_if2 (tg := 14) rfl rfl false (rk_cz (c := 0) (by decide +kernel) (decide_eq_false (by omega))) ?_
      show rk_ev _ _ 5 _ _ _ _
      refine ev_go (pc' := 7) (lv' := [(0, .int a), (1, .int (Int32.ofInt 0)), (2, .int (Int32.ofInt 4))]) (st' := [.int (Int32.ofInt 4), .int a]) (h' := rk_HM) 2 rfl ?_
      refine ev_if2 (tg := 14) rfl rfl true (rk_cz (c := 4) (by decide +kernel) (decide_eq_true (by omega))) ?_
      show rk_ev _ _ 14 _ _ _ _
      refine ev_go (pc' := 15) (lv' := [(0, .int a), (1, .int (Int32.ofInt 0)), (2, .int (Int32.ofInt 4))]) (st' := [.int (Int32.ofInt 0)]) (h' := rk_HM) 1 rfl ?_
      exact ev_ret rfl rfl
    show rk_ev _ _ 6 [(0, .ref 316), (1, .int a)] [.int (Int32.ofInt 0)] rk_HM _
    refine ev_if1 (tg := 14) rfl rfl false (by decide +kernel) ?_
    show rk_ev _ _ 9 _ _ _ _
    refine ev_go (pc' := 32) (lv' := [(0, .ref 316), (1, .int a)]) (st' := [.int ((Int8.ofInt (-2)).toInt32)]) (h' := rk_HM) 2 rfl ?_
    exact ev_ret rfl rfl
set_option maxRecDepth 100000 in
set_option maxHeartbeats 4000000 in
theorem cs_told_n (a : Int32) (ha : a.toInt < 0) : rk_ok2 rm_X7_told rm_X8_told [.int a] := by
  refine ⟨((Int8.ofInt (-2)).toInt32), rk_HM, rk_HM, ?_, ?_⟩
  · show rk_ev _ _ 0 [(0, .ref 1), (1, .int a)] [] _ _
    refine ev_go (pc' := 1) (lv' := [(0, .ref 1), (1, .int a)]) (st' := [.int a]) (h' := rk_HM) 1 rfl ?_
    refine ev_swo (tg := 97) rfl (Or.inl (by omega)) rfl ?_
    refine ev_go (pc' := 99) (lv' := [(0, .ref 1), (1, .int a)]) (st' := [.int ((Int8.ofInt (-2)).toInt32)]) (h' := rk_HM) 1 rfl ?_
    exact ev_ret rfl rfl
  · show rk_ev _ _ 0 [(0, .ref 316), (1, .int a)] [] _ (some (.int ((Int8.ofInt (-2)).toInt32)), _)
    refine ev_go (pc' := 1) (lv' := [(0, .ref 316), (1, .int a)]) (st' := [.int a]) (h' := rk_HM) 1 rfl ?_
    refine ev_swo (tg := 83) rfl (Or.inl (by omega)) rfl ?_
    refine ev_go (pc' := 85) (lv' := [(0, .ref 316), (1, .int a)]) (st' := [.int ((Int8.ofInt (-2)).toInt32)]) (h' := rk_HM) 1 rfl ?_
    exact ev_ret rfl rfl
set_option maxRecDepth 100000 in
set_option maxHeartbeats 4000000 in
theorem cs_told_p (a : Int32) (ha : 7 ≤ a.toInt) : rk_ok2 rm_X7_told rm_X8_told [.int a] := by
  refine ⟨((Int8.ofInt (-2)).toInt32), rk_HM, rk_HM, ?_, ?_⟩
  · show rk_ev _ _ 0 [(0, .ref 1), (1, .int a)] [] _ _
    refine ev_go (pc' := 1) (lv' := [(0, .ref 1), (1, .int a)]) (st' := [.int a]) (h' := rk_HM) 1 rfl ?_
    refine ev_swo (tg := 97) rfl (Or.inr (by omega)) rfl ?_
    refine ev_go (pc' := 99) (lv' := [(0, .ref 1), (1, .int a)]) (st' := [.int ((Int8.ofInt (-2)).toInt32)]) (h' := rk_HM) 1 rfl ?_
    exact ev_ret rfl rfl
  · show rk_ev _ _ 0 [(0, .ref 316), (1, .int a)] [] _ (some (.int ((Int8.ofInt (-2)).toInt32)), _)
    refine ev_go (pc' := 1) (lv' := [(0, .ref 316), (1, .int a)]) (st' := [.int a]) (h' := rk_HM) 1 rfl ?_
    refine ev_swo (tg := 83) rfl (Or.inr (by omega)) rfl ?_
    refine ev_go (pc' := 85) (lv' := [(0, .ref 316), (1, .int a)]) (st' := [.int ((Int8.ofInt (-2)).toInt32)]) (h' := rk_HM) 1 rfl ?_
    exact ev_ret rfl rfl
set_option maxRecDepth 100000 in
set_option maxHeartbeats 4000000 in
theorem cs_best_n (a : Int32) (ha : a.toInt < 0) : rk_ok2 rm_X7_best rm_X8_best [.int a] := by
  refine ⟨((Int8.ofInt (-2)).toInt32), rk_HM, rk_HM, ?_, ?_⟩
  · show rk_ev _ _ 0 [(0, .ref 1), (1, .int a)] [] _ _
    refine ev_go (pc' := 1) (lv' := [(0, .ref 1), (1, .int a)]) (st' := [.int a]) (h' := rk_HM) 1 rfl ?_
    refine ev_call (M' := rm_X7_isRoom) (ar := ([.int a], [])) (o' := (some (.int (Int32.ofInt 0)), rk_HM)) rfl rfl (by decide) (by decide) rfl rfl ?_ ?_
    · show rk_ev _ _ 0 [(0, .int a)] [] _ _
      refine ev_go (pc' := 1) (lv' := [(0, .int a)]) (st' := [.int a]) (h' := rk_HM) 1 rfl ?_
      refine ev_if1 (tg := 14) rfl rfl true (rk_cz (c := 0) (by decide +kernel) (decide_eq_true (by omega))) ?_
      show rk_ev _ _ 14 _ _ _ _
      refine ev_go (pc' := 15) (lv' := [(0, .int a)]) (st' := [.int (Int32.ofInt 0)]) (h' := rk_HM) 1 rfl ?_
      exact ev_ret rfl rfl
    show rk_ev _ _ 4 [(0, .ref 1), (1, .int a)] [.int (Int32.ofInt 0)] rk_HM _
    refine ev_if1 (tg := 10) rfl rfl false (by decide +kernel) ?_
    show rk_ev _ _ 7 _ _ _ _
    refine ev_go (pc' := 9) (lv' := [(0, .ref 1), (1, .int a)]) (st' := [.int ((Int8.ofInt (-2)).toInt32)]) (h' := rk_HM) 1 rfl ?_
    exact ev_ret rfl rfl
  · show rk_ev _ _ 0 [(0, .ref 316), (1, .int a)] [] _ (some (.int ((Int8.ofInt (-2)).toInt32)), _)
    refine ev_go (pc' := 4) (lv' := [(0, .ref 316), (1, .int a)]) (st' := [.int ((Int8.ofInt 32).toInt32), .int (Int32.ofInt 0), .int a]) (h' := rk_HM) 3 rfl ?_
    refine ev_call (M' := rm_X8_in) (ar := ([.int a, .int (Int32.ofInt 0), .int ((Int8.ofInt 32).toInt32)], [])) (o' := (some (.int (Int32.ofInt 0)), rk_HM)) rfl rfl (by decide) (by decide) rfl rfl ?_ ?_
    · show rk_ev _ _ 0 [(0, .int a), (1, .int (Int32.ofInt 0)), (2, .int ((Int8.ofInt 32).toInt32))] [] _ _
      refine ev_go (pc' := 2) (lv' := [(0, .int a), (1, .int (Int32.ofInt 0)), (2, .int ((Int8.ofInt 32).toInt32))]) (st' := [.int (Int32.ofInt 0), .int a]) (h' := rk_HM) 2 rfl ?_
      refine ev_if2 (tg := 14) rfl rfl true (rk_cz (c := 0) (by decide +kernel) (decide_eq_true (by omega))) ?_
      show rk_ev _ _ 14 _ _ _ _
      refine ev_go (pc' := 15) (lv' := [(0, .int a), (1, .int (Int32.ofInt 0)), (2, .int ((Int8.ofInt 32).toInt32))]) (st' := [.int (Int32.ofInt 0)]) (h' := rk_HM) 1 rfl ?_
      exact ev_ret rfl rfl
    show rk_ev _ _ 7 [(0, .ref 316), (1, .int a)] [.int (Int32.ofInt 0)] rk_HM _
    refine ev_if1 (tg := 13) rfl rfl false (by decide +kernel) ?_
    show rk_ev _ _ 10 _ _ _ _
    refine ev_go (pc' := 12) (lv' := [(0, .ref 316), (1, .int a)]) (st' := [.int ((Int8.ofInt (-2)).toInt32)]) (h' := rk_HM) 1 rfl ?_
    exact ev_ret rfl rfl
set_option maxRecDepth 100000 in
set_option maxHeartbeats 4000000 in
theorem cs_best_p (a : Int32) (ha : 33 ≤ a.toInt) : rk_ok2 rm_X7_best rm_X8_best [.int a] := by
  refine ⟨((Int8.ofInt (-2)).toInt32), rk_HM, rk_HM, ?_, ?_⟩
  · show rk_ev _ _ 0 [(0, .ref 1), (1, .int a)] [] _ _
    refine ev_go (pc' := 1) (lv' := [(0, .ref 1), (1, .int a)]) (st' := [.int a]) (h' := rk_HM) 1 rfl ?_
    refine ev_call (M' := rm_X7_isRoom) (ar := ([.int a], [])) (o' := (some (.int (Int32.ofInt 0)), rk_HM)) rfl rfl (by decide) (by decide) rfl rfl ?_ ?_
    · show rk_ev _ _ 0 [(0, .int a)] [] _ _
      refine ev_go (pc' := 1) (lv' := [(0, .int a)]) (st' := [.int a]) (h' := rk_HM) 1 rfl ?_
      refine ev_if1 (tg := 14) rfl rfl false (rk_cz (c := 0) (by decide +kernel) (decide_eq_false (by omega))) ?_
      show rk_ev _ _ 4 _ _ _ _
      refine ev_go (pc' := 7) (lv' := [(0, .int a)]) (st' := [.int ((Int8.ofInt 32).toInt32), .int a]) (h' := rk_HM) 2 rfl ?_
      refine ev_if2 (tg := 14) rfl rfl true (rk_cz (c := 32) (by decide +kernel) (decide_eq_true (by omega))) ?_
      show rk_ev _ _ 14 _ _ _ _
      refine ev_go (pc' := 15) (lv' := [(0, .int a)]) (st' := [.int (Int32.ofInt 0)]) (h' := rk_HM) 1 rfl ?_
      exact ev_ret rfl rfl
    show rk_ev _ _ 4 [(0, .ref 1), (1, .int a)] [.int (Int32.ofInt 0)] rk_HM _
    refine ev_if1 (tg := 10) rfl rfl false (by decide +kernel) ?_
    show rk_ev _ _ 7 _ _ _ _
    refine ev_go (pc' := 9) (lv' := [(0, .ref 1), (1, .int a)]) (st' := [.int ((Int8.ofInt (-2)).toInt32)]) (h' := rk_HM) 1 rfl ?_
    exact ev_ret rfl rfl
  · show rk_ev _ _ 0 [(0, .ref 316), (1, .int a)] [] _ (some (.int ((Int8.ofInt (-2)).toInt32)), _)
    refine ev_go (pc' := 4) (lv' := [(0, .ref 316), (1, .int a)]) (st' := [.int ((Int8.ofInt 32).toInt32), .int (Int32.ofInt 0), .int a]) (h' := rk_HM) 3 rfl ?_
    refine ev_call (M' := rm_X8_in) (ar := ([.int a, .int (Int32.ofInt 0), .int ((Int8.ofInt 32).toInt32)], [])) (o' := (some (.int (Int32.ofInt 0)), rk_HM)) rfl rfl (by decide) (by decide) rfl rfl ?_ ?_
    · show rk_ev _ _ 0 [(0, .int a), (1, .int (Int32.ofInt 0)), (2, .int ((Int8.ofInt 32).toInt32))] [] _ _
      refine ev_go (pc' := 2) (lv' := [(0, .int a), (1, .int (Int32.ofInt 0)), (2, .int ((Int8.ofInt 32).toInt32))]) (st' := [.int (Int32.ofInt 0), .int a]) (h' := rk_HM) 2 rfl ?_
      refine ev_if2 (tg := 14) rfl rfl false (rk_cz (c := 0) (by decide +kernel) (decide_eq_false (by omega))) ?_
      show rk_ev _ _ 5 _ _ _ _
      refine ev_go (pc' := 7) (lv' := [(0, .int a), (1, .int (Int32.ofInt 0)), (2, .int ((Int8.ofInt 32).toInt32))]) (st' := [.int ((Int8.ofInt 32).toInt32), .int a]) (h' := rk_HM) 2 rfl ?_
      refine ev_if2 (tg := 14) rfl rfl true (rk_cz (c := 32) (by decide +kernel) (decide_eq_true (by omega))) ?_
      show rk_ev _ _ 14 _ _ _ _
      refine ev_go (pc' := 15) (lv' := [(0, .int a), (1, .int (Int32.ofInt 0)), (2, .int ((Int8.ofInt 32).toInt32))]) (st' := [.int (Int32.ofInt 0)]) (h' := rk_HM) 1 rfl ?_
      exact ev_ret rfl rfl
    show rk_ev _ _ 7 [(0, .ref 316), (1, .int a)] [.int (Int32.ofInt 0)] rk_HM _
    refine ev_if1 (tg := 13) rfl rfl false (by decide +kernel) ?_
    show rk_ev _ _ 10 _ _ _ _
    refine ev_go (pc' := 12) (lv' := [(0, .ref 316), (1, .int a)]) (st' := [.int ((Int8.ofInt (-2)).toInt32)]) (h' := rk_HM) 1 rfl ?_
    exact ev_ret rfl rfl
set_option maxRecDepth 100000 in
set_option maxHeartbeats 4000000 in
theorem cs_room_n (a b : Int32) (ha : a.toInt < 0) : rk_ok2 rm_X7_room rm_X8_room [.int a, .int b] := by
  refine ⟨((Int8.ofInt (-2)).toInt32), rk_HM, rk_HM, ?_, ?_⟩
  · show rk_ev _ _ 0 [(0, .ref 1), (1, .int a), (2, .int b)] [] _ _
    refine ev_go (pc' := 1) (lv' := [(0, .ref 1), (1, .int a), (2, .int b)]) (st' := [.int a]) (h' := rk_HM) 1 rfl ?_
    refine ev_call (M' := rm_X7_isRoom) (ar := ([.int a], [])) (o' := (some (.int (Int32.ofInt 0)), rk_HM)) rfl rfl (by decide) (by decide) rfl rfl ?_ ?_
    · show rk_ev _ _ 0 [(0, .int a)] [] _ _
      refine ev_go (pc' := 1) (lv' := [(0, .int a)]) (st' := [.int a]) (h' := rk_HM) 1 rfl ?_
      refine ev_if1 (tg := 14) rfl rfl true (rk_cz (c := 0) (by decide +kernel) (decide_eq_true (by omega))) ?_
      show rk_ev _ _ 14 _ _ _ _
      refine ev_go (pc' := 15) (lv' := [(0, .int a)]) (st' := [.int (Int32.ofInt 0)]) (h' := rk_HM) 1 rfl ?_
      exact ev_ret rfl rfl
    show rk_ev _ _ 4 [(0, .ref 1), (1, .int a), (2, .int b)] [.int (Int32.ofInt 0)] rk_HM _
    refine ev_if1 (tg := 16) rfl rfl true (by decide +kernel) ?_
    show rk_ev _ _ 16 _ _ _ _
    refine ev_go (pc' := 18) (lv' := [(0, .ref 1), (1, .int a), (2, .int b)]) (st' := [.int ((Int8.ofInt (-2)).toInt32)]) (h' := rk_HM) 1 rfl ?_
    exact ev_ret rfl rfl
  · show rk_ev _ _ 0 [(0, .ref 316), (1, .int a), (2, .int b)] [] _ (some (.int ((Int8.ofInt (-2)).toInt32)), _)
    refine ev_go (pc' := 4) (lv' := [(0, .ref 316), (1, .int a), (2, .int b)]) (st' := [.int ((Int8.ofInt 32).toInt32), .int (Int32.ofInt 0), .int a]) (h' := rk_HM) 3 rfl ?_
    refine ev_call (M' := rm_X8_in) (ar := ([.int a, .int (Int32.ofInt 0), .int ((Int8.ofInt 32).toInt32)], [])) (o' := (some (.int (Int32.ofInt 0)), rk_HM)) rfl rfl (by decide) (by decide) rfl rfl ?_ ?_
    · show rk_ev _ _ 0 [(0, .int a), (1, .int (Int32.ofInt 0)), (2, .int ((Int8.ofInt 32).toInt32))] [] _ _
      refine ev_go (pc' := 2) (lv' := [(0, .int a), (1, .int (Int32.ofInt 0)), (2, .int ((Int8.ofInt 32).toInt32))]) (st' := [.int (Int32.ofInt 0), .int a]) (h' := rk_HM) 2 rfl ?_
      refine ev_if2 (tg := 14) rfl rfl true (rk_cz (c := 0) (by decide +kernel) (decide_eq_true (by omega))) ?_
      show rk_ev _ _ 14 _ _ _ _
      refine ev_go (pc' := 15) (lv' := [(0, .int a), (1, .int (Int32.ofInt 0)), (2, .int ((Int8.ofInt 32).toInt32))]) (st' := [.int (Int32.ofInt 0)]) (h' := rk_HM) 1 rfl ?_
      exact ev_ret rfl rfl
    show rk_ev _ _ 7 [(0, .ref 316), (1, .int a), (2, .int b)] [.int (Int32.ofInt 0)] rk_HM _
    refine ev_if1 (tg := 19) rfl rfl true (by decide +kernel) ?_
    show rk_ev _ _ 19 _ _ _ _
    refine ev_go (pc' := 21) (lv' := [(0, .ref 316), (1, .int a), (2, .int b)]) (st' := [.int ((Int8.ofInt (-2)).toInt32)]) (h' := rk_HM) 1 rfl ?_
    exact ev_ret rfl rfl
set_option maxRecDepth 100000 in
set_option maxHeartbeats 4000000 in
theorem cs_room_p (a b : Int32) (ha : 33 ≤ a.toInt) : rk_ok2 rm_X7_room rm_X8_room [.int a, .int b] := by
  refine ⟨((Int8.ofInt (-2)).toInt32), rk_HM, rk_HM, ?_, ?_⟩
  · show rk_ev _ _ 0 [(0, .ref 1), (1, .int a), (2, .int b)] [] _ _
    refine ev_go (pc' := 1) (lv' := [(0, .ref 1), (1, .int a), (2, .int b)]) (st' := [.int a]) (h' := rk_HM) 1 rfl ?_
    refine ev_call (M' := rm_X7_isRoom) (ar := ([.int a], [])) (o' := (some (.int (Int32.ofInt 0)), rk_HM)) rfl rfl (by decide) (by decide) rfl rfl ?_ ?_
    · show rk_ev _ _ 0 [(0, .int a)] [] _ _
      refine ev_go (pc' := 1) (lv' := [(0, .int a)]) (st' := [.int a]) (h' := rk_HM) 1 rfl ?_
      refine ev_if1 (tg := 14) rfl rfl false (rk_cz (c := 0) (by decide +kernel) (decide_eq_false (by omega))) ?_
      show rk_ev _ _ 4 _ _ _ _
      refine ev_go (pc' := 7) (lv' := [(0, .int a)]) (st' := [.int ((Int8.ofInt 32).toInt32), .int a]) (h' := rk_HM) 2 rfl ?_
      refine ev_if2 (tg := 14) rfl rfl true (rk_cz (c := 32) (by decide +kernel) (decide_eq_true (by omega))) ?_
      show rk_ev _ _ 14 _ _ _ _
      refine ev_go (pc' := 15) (lv' := [(0, .int a)]) (st' := [.int (Int32.ofInt 0)]) (h' := rk_HM) 1 rfl ?_
      exact ev_ret rfl rfl
    show rk_ev _ _ 4 [(0, .ref 1), (1, .int a), (2, .int b)] [.int (Int32.ofInt 0)] rk_HM _
    refine ev_if1 (tg := 16) rfl rfl true (by decide +kernel) ?_
    show rk_ev _ _ 16 _ _ _ _
    refine ev_go (pc' := 18) (lv' := [(0, .ref 1), (1, .int a), (2, .int b)]) (st' := [.int ((Int8.ofInt (-2)).toInt32)]) (h' := rk_HM) 1 rfl ?_
    exact ev_ret rfl rfl
  · show rk_ev _ _ 0 [(0, .ref 316), (1, .int a), (2, .int b)] [] _ (some (.int ((Int8.ofInt (-2)).toInt32)), _)
    refine ev_go (pc' := 4) (lv' := [(0, .ref 316), (1, .int a), (2, .int b)]) (st' := [.int ((Int8.ofInt 32).toInt32), .int (Int32.ofInt 0), .int a]) (h' := rk_HM) 3 rfl ?_
    refine ev_call (M' := rm_X8_in) (ar := ([.int a, .int (Int32.ofInt 0), .int ((Int8.ofInt 32).toInt32)], [])) (o' := (some (.int (Int32.ofInt 0)), rk_HM)) rfl rfl (by decide) (by decide) rfl rfl ?_ ?_
    · show rk_ev _ _ 0 [(0, .int a), (1, .int (Int32.ofInt 0)), (2, .int ((Int8.ofInt 32).toInt32))] [] _ _
      refine ev_go (pc' := 2) (lv' := [(0, .int a), (1, .int (Int32.ofInt 0)), (2, .int ((Int8.ofInt 32).toInt32))]) (st' := [.int (Int32.ofInt 0), .int a]) (h' := rk_HM) 2 rfl ?_
      refine ev_if2 (tg := 14) rfl rfl false (rk_cz (c := 0) (by decide +kernel) (decide_eq_false (by omega))) ?_
      show rk_ev _ _ 5 _ _ _ _
      refine ev_go (pc' := 7) (lv' := [(0, .int a), (1, .int (Int32.ofInt 0)), (2, .int ((Int8.ofInt 32).toInt32))]) (st' := [.int ((Int8.ofInt 32).toInt32), .int a]) (h' := rk_HM) 2 rfl ?_
      refine ev_if2 (tg := 14) rfl rfl true (rk_cz (c := 32) (by decide +kernel) (decide_eq_true (by omega))) ?_
      show rk_ev _ _ 14 _ _ _ _
      refine ev_go (pc' := 15) (lv' := [(0, .int a), (1, .int (Int32.ofInt 0)), (2, .int ((Int8.ofInt 32).toInt32))]) (st' := [.int (Int32.ofInt 0)]) (h' := rk_HM) 1 rfl ?_
      exact ev_ret rfl rfl
    show rk_ev _ _ 7 [(0, .ref 316), (1, .int a), (2, .int b)] [.int (Int32.ofInt 0)] rk_HM _
    refine ev_if1 (tg := 19) rfl rfl true (by decide +kernel) ?_
    show rk_ev _ _ 19 _ _ _ _
    refine ev_go (pc' := 21) (lv' := [(0, .ref 316), (1, .int a), (2, .int b)]) (st' := [.int ((Int8.ofInt (-2)).toInt32)]) (h' := rk_HM) 1 rfl ?_
    exact ev_ret rfl rfl
set_option maxRecDepth 100000 in
set_option maxHeartbeats 4000000 in
theorem cs_cost_n (a b : Int32) (ha : a.toInt < 0) : rk_ok2 rm_X7_cost rm_X8_cost [.int b, .int a] := by
  refine ⟨((Int8.ofInt (-2)).toInt32), rk_HM, rk_HM, ?_, ?_⟩
  · show rk_ev _ _ 0 [(0, .ref 1), (1, .int b), (2, .int a)] [] _ _
    refine ev_go (pc' := 1) (lv' := [(0, .ref 1), (1, .int b), (2, .int a)]) (st' := [.int a]) (h' := rk_HM) 1 rfl ?_
    refine ev_call (M' := rm_X7_isRoom) (ar := ([.int a], [])) (o' := (some (.int (Int32.ofInt 0)), rk_HM)) rfl rfl (by decide) (by decide) rfl rfl ?_ ?_
    · show rk_ev _ _ 0 [(0, .int a)] [] _ _
      refine ev_go (pc' := 1) (lv' := [(0, .int a)]) (st' := [.int a]) (h' := rk_HM) 1 rfl ?_
      refine ev_if1 (tg := 14) rfl rfl true (rk_cz (c := 0) (by decide +kernel) (decide_eq_true (by omega))) ?_
      show rk_ev _ _ 14 _ _ _ _
      refine ev_go (pc' := 15) (lv' := [(0, .int a)]) (st' := [.int (Int32.ofInt 0)]) (h' := rk_HM) 1 rfl ?_
      exact ev_ret rfl rfl
    show rk_ev _ _ 4 [(0, .ref 1), (1, .int b), (2, .int a)] [.int (Int32.ofInt 0)] rk_HM _
    refine ev_if1 (tg := 18) rfl rfl true (by decide +kernel) ?_
    show rk_ev _ _ 18 _ _ _ _
    refine ev_go (pc' := 20) (lv' := [(0, .ref 1), (1, .int b), (2, .int a)]) (st' := [.int ((Int8.ofInt (-2)).toInt32)]) (h' := rk_HM) 1 rfl ?_
    exact ev_ret rfl rfl
  · show rk_ev _ _ 0 [(0, .ref 316), (1, .int b), (2, .int a)] [] _ (some (.int ((Int8.ofInt (-2)).toInt32)), _)
    refine ev_go (pc' := 4) (lv' := [(0, .ref 316), (1, .int b), (2, .int a)]) (st' := [.int ((Int8.ofInt 32).toInt32), .int (Int32.ofInt 0), .int a]) (h' := rk_HM) 3 rfl ?_
    refine ev_call (M' := rm_X8_in) (ar := ([.int a, .int (Int32.ofInt 0), .int ((Int8.ofInt 32).toInt32)], [])) (o' := (some (.int (Int32.ofInt 0)), rk_HM)) rfl rfl (by decide) (by decide) rfl rfl ?_ ?_
    · show rk_ev _ _ 0 [(0, .int a), (1, .int (Int32.ofInt 0)), (2, .int ((Int8.ofInt 32).toInt32))] [] _ _
      refine ev_go (pc' := 2) (lv' := [(0, .int a), (1, .int (Int32.ofInt 0)), (2, .int ((Int8.ofInt 32).toInt32))]) (st' := [.int (Int32.ofInt 0), .int a]) (h' := rk_HM) 2 rfl ?_
      refine ev_if2 (tg := 14) rfl rfl true (rk_cz (c := 0) (by decide +kernel) (decide_eq_true (by omega))) ?_
      show rk_ev _ _ 14 _ _ _ _
      refine ev_go (pc' := 15) (lv' := [(0, .int a), (1, .int (Int32.ofInt 0)), (2, .int ((Int8.ofInt 32).toInt32))]) (st' := [.int (Int32.ofInt 0)]) (h' := rk_HM) 1 rfl ?_
      exact ev_ret rfl rfl
    show rk_ev _ _ 7 [(0, .ref 316), (1, .int b), (2, .int a)] [.int (Int32.ofInt 0)] rk_HM _
    refine ev_if1 (tg := 24) rfl rfl true (by decide +kernel) ?_
    show rk_ev _ _ 24 _ _ _ _
    refine ev_go (pc' := 26) (lv' := [(0, .ref 316), (1, .int b), (2, .int a)]) (st' := [.int ((Int8.ofInt (-2)).toInt32)]) (h' := rk_HM) 1 rfl ?_
    exact ev_ret rfl rfl
set_option maxRecDepth 100000 in
set_option maxHeartbeats 4000000 in
theorem cs_cost_p (a b : Int32) (ha : 33 ≤ a.toInt) : rk_ok2 rm_X7_cost rm_X8_cost [.int b, .int a] := by
  refine ⟨((Int8.ofInt (-2)).toInt32), rk_HM, rk_HM, ?_, ?_⟩
  · show rk_ev _ _ 0 [(0, .ref 1), (1, .int b), (2, .int a)] [] _ _
    refine ev_go (pc' := 1) (lv' := [(0, .ref 1), (1, .int b), (2, .int a)]) (st' := [.int a]) (h' := rk_HM) 1 rfl ?_
    refine ev_call (M' := rm_X7_isRoom) (ar := ([.int a], [])) (o' := (some (.int (Int32.ofInt 0)), rk_HM)) rfl rfl (by decide) (by decide) rfl rfl ?_ ?_
    · show rk_ev _ _ 0 [(0, .int a)] [] _ _
      refine ev_go (pc' := 1) (lv' := [(0, .int a)]) (st' := [.int a]) (h' := rk_HM) 1 rfl ?_
      refine ev_if1 (tg := 14) rfl rfl false (rk_cz (c := 0) (by decide +kernel) (decide_eq_false (by omega))) ?_
      show rk_ev _ _ 4 _ _ _ _
      refine ev_go (pc' := 7) (lv' := [(0, .int a)]) (st' := [.int ((Int8.ofInt 32).toInt32), .int a]) (h' := rk_HM) 2 rfl ?_
      refine ev_if2 (tg := 14) rfl rfl true (rk_cz (c := 32) (by decide +kernel) (decide_eq_true (by omega))) ?_
      show rk_ev _ _ 14 _ _ _ _
      refine ev_go (pc' := 15) (lv' := [(0, .int a)]) (st' := [.int (Int32.ofInt 0)]) (h' := rk_HM) 1 rfl ?_
      exact ev_ret rfl rfl
    show rk_ev _ _ 4 [(0, .ref 1), (1, .int b), (2, .int a)] [.int (Int32.ofInt 0)] rk_HM _
    refine ev_if1 (tg := 18) rfl rfl true (by decide +kernel) ?_
    show rk_ev _ _ 18 _ _ _ _
    refine ev_go (pc' := 20) (lv' := [(0, .ref 1), (1, .int b), (2, .int a)]) (st' := [.int ((Int8.ofInt (-2)).toInt32)]) (h' := rk_HM) 1 rfl ?_
    exact ev_ret rfl rfl
  · show rk_ev _ _ 0 [(0, .ref 316), (1, .int b), (2, .int a)] [] _ (some (.int ((Int8.ofInt (-2)).toInt32)), _)
    refine ev_go (pc' := 4) (lv' := [(0, .ref 316), (1, .int b), (2, .int a)]) (st' := [.int ((Int8.ofInt 32).toInt32), .int (Int32.ofInt 0), .int a]) (h' := rk_HM) 3 rfl ?_
    refine ev_call (M' := rm_X8_in) (ar := ([.int a, .int (Int32.ofInt 0), .int ((Int8.ofInt 32).toInt32)], [])) (o' := (some (.int (Int32.ofInt 0)), rk_HM)) rfl rfl (by decide) (by decide) rfl rfl ?_ ?_
    · show rk_ev _ _ 0 [(0, .int a), (1, .int (Int32.ofInt 0)), (2, .int ((Int8.ofInt 32).toInt32))] [] _ _
      refine ev_go (pc' := 2) (lv' := [(0, .int a), (1, .int (Int32.ofInt 0)), (2, .int ((Int8.ofInt 32).toInt32))]) (st' := [.int (Int32.ofInt 0), .int a]) (h' := rk_HM) 2 rfl ?_
      refine ev_if2 (tg := 14) rfl rfl false (rk_cz (c := 0) (by decide +kernel) (decide_eq_false (by omega))) ?_
      show rk_ev _ _ 5 _ _ _ _
      refine ev_go (pc' := 7) (lv' := [(0, .int a), (1, .int (Int32.ofInt 0)), (2, .int ((Int8.ofInt 32).toInt32))]) (st' := [.int ((Int8.ofInt 32).toInt32), .int a]) (h' := rk_HM) 2 rfl ?_
      refine ev_if2 (tg := 14) rfl rfl true (rk_cz (c := 32) (by decide +kernel) (decide_eq_true (by omega))) ?_
      show rk_ev _ _ 14 _ _ _ _
      refine ev_go (pc' := 15) (lv' := [(0, .int a), (1, .int (Int32.ofInt 0)), (2, .int ((Int8.ofInt 32).toInt32))]) (st' := [.int (Int32.ofInt 0)]) (h' := rk_HM) 1 rfl ?_
      exact ev_ret rfl rfl
    show rk_ev _ _ 7 [(0, .ref 316), (1, .int b), (2, .int a)] [.int (Int32.ofInt 0)] rk_HM _
    refine ev_if1 (tg := 24) rfl rfl true (by decide +kernel) ?_
    show rk_ev _ _ 24 _ _ _ _
    refine ev_go (pc' := 26) (lv' := [(0, .ref 316), (1, .int b), (2, .int a)]) (st' := [.int ((Int8.ofInt (-2)).toInt32)]) (h' := rk_HM) 1 rfl ?_
    exact ev_ret rfl rfl
set_option maxRecDepth 100000 in
set_option maxHeartbeats 4000000 in
theorem cs_room_rn (a b : Int32) (ha : 0 ≤ a.toInt) (ha2 : a.toInt ≤ 32) (hb : b.toInt < 0) : rk_ok2 rm_X7_room rm_X8_room [.int a, .int b] := by
  refine ⟨((Int8.ofInt (-2)).toInt32), rk_HM, rk_HM, ?_, ?_⟩
  · show rk_ev _ _ 0 [(0, .ref 1), (1, .int a), (2, .int b)] [] _ _
    refine ev_go (pc' := 1) (lv' := [(0, .ref 1), (1, .int a), (2, .int b)]) (st' := [.int a]) (h' := rk_HM) 1 rfl ?_
    refine ev_call (M' := rm_X7_isRoom) (ar := ([.int a], [])) (o' := (some (.int (Int32.ofInt 1)), rk_HM)) rfl rfl (by decide) (by decide) rfl rfl ?_ ?_
    · show rk_ev _ _ 0 [(0, .int a)] [] _ _
      refine ev_go (pc' := 1) (lv' := [(0, .int a)]) (st' := [.int a]) (h' := rk_HM) 1 rfl ?_
      refine ev_if1 (tg := 14) rfl rfl false (rk_cz (c := 0) (by decide +kernel) (decide_eq_false (by omega))) ?_
      show rk_ev _ _ 4 _ _ _ _
      refine ev_go (pc' := 7) (lv' := [(0, .int a)]) (st' := [.int ((Int8.ofInt 32).toInt32), .int a]) (h' := rk_HM) 2 rfl ?_
      refine ev_if2 (tg := 14) rfl rfl false (rk_cz (c := 32) (by decide +kernel) (decide_eq_false (by omega))) ?_
      show rk_ev _ _ 10 _ _ _ _
      refine ev_go (pc' := 15) (lv' := [(0, .int a)]) (st' := [.int (Int32.ofInt 1)]) (h' := rk_HM) 2 rfl ?_
      exact ev_ret rfl rfl
    show rk_ev _ _ 4 [(0, .ref 1), (1, .int a), (2, .int b)] [.int (Int32.ofInt 1)] rk_HM _
    refine ev_if1 (tg := 16) rfl rfl false (by decide +kernel) ?_
    show rk_ev _ _ 7 _ _ _ _
    refine ev_go (pc' := 8) (lv' := [(0, .ref 1), (1, .int a), (2, .int b)]) (st' := [.int b]) (h' := rk_HM) 1 rfl ?_
    refine ev_if1 (tg := 16) rfl rfl true (rk_cz (c := 0) (by decide +kernel) (decide_eq_true (by omega))) ?_
    show rk_ev _ _ 16 _ _ _ _
    refine ev_go (pc' := 18) (lv' := [(0, .ref 1), (1, .int a), (2, .int b)]) (st' := [.int ((Int8.ofInt (-2)).toInt32)]) (h' := rk_HM) 1 rfl ?_
    exact ev_ret rfl rfl
  · show rk_ev _ _ 0 [(0, .ref 316), (1, .int a), (2, .int b)] [] _ (some (.int ((Int8.ofInt (-2)).toInt32)), _)
    refine ev_go (pc' := 4) (lv' := [(0, .ref 316), (1, .int a), (2, .int b)]) (st' := [.int ((Int8.ofInt 32).toInt32), .int (Int32.ofInt 0), .int a]) (h' := rk_HM) 3 rfl ?_
    refine ev_call (M' := rm_X8_in) (ar := ([.int a, .int (Int32.ofInt 0), .int ((Int8.ofInt 32).toInt32)], [])) (o' := (some (.int (Int32.ofInt 1)), rk_HM)) rfl rfl (by decide) (by decide) rfl rfl ?_ ?_
    · show rk_ev _ _ 0 [(0, .int a), (1, .int (Int32.ofInt 0)), (2, .int ((Int8.ofInt 32).toInt32))] [] _ _
      refine ev_go (pc' := 2) (lv' := [(0, .int a), (1, .int (Int32.ofInt 0)), (2, .int ((Int8.ofInt 32).toInt32))]) (st' := [.int (Int32.ofInt 0), .int a]) (h' := rk_HM) 2 rfl ?_
      refine ev_if2 (tg := 14) rfl rfl false (rk_cz (c := 0) (by decide +kernel) (decide_eq_false (by omega))) ?_
      show rk_ev _ _ 5 _ _ _ _
      refine ev_go (pc' := 7) (lv' := [(0, .int a), (1, .int (Int32.ofInt 0)), (2, .int ((Int8.ofInt 32).toInt32))]) (st' := [.int ((Int8.ofInt 32).toInt32), .int a]) (h' := rk_HM) 2 rfl ?_
      refine ev_if2 (tg := 14) rfl rfl false (rk_cz (c := 32) (by decide +kernel) (decide_eq_false (by omega))) ?_
      show rk_ev _ _ 10 _ _ _ _
      refine ev_go (pc' := 15) (lv' := [(0, .int a), (1, .int (Int32.ofInt 0)), (2, .int ((Int8.ofInt 32).toInt32))]) (st' := [.int (Int32.ofInt 1)]) (h' := rk_HM) 2 rfl ?_
      exact ev_ret rfl rfl
    show rk_ev _ _ 7 [(0, .ref 316), (1, .int a), (2, .int b)] [.int (Int32.ofInt 1)] rk_HM _
    refine ev_if1 (tg := 19) rfl rfl false (by decide +kernel) ?_
    show rk_ev _ _ 10 _ _ _ _
    refine ev_go (pc' := 13) (lv' := [(0, .ref 316), (1, .int a), (2, .int b)]) (st' := [.int (Int32.ofInt 2), .int (Int32.ofInt 0), .int b]) (h' := rk_HM) 3 rfl ?_
    refine ev_call (M' := rm_X8_in) (ar := ([.int b, .int (Int32.ofInt 0), .int (Int32.ofInt 2)], [])) (o' := (some (.int (Int32.ofInt 0)), rk_HM)) rfl rfl (by decide) (by decide) rfl rfl ?_ ?_
    · show rk_ev _ _ 0 [(0, .int b), (1, .int (Int32.ofInt 0)), (2, .int (Int32.ofInt 2))] [] _ _
      refine ev_go (pc' := 2) (lv' := [(0, .int b), (1, .int (Int32.ofInt 0)), (2, .int (Int32.ofInt 2))]) (st' := [.int (Int32.ofInt 0), .int b]) (h' := rk_HM) 2 rfl ?_
      refine ev_if2 (tg := 14) rfl rfl true (rk_cz (c := 0) (by decide +kernel) (decide_eq_true (by omega))) ?_
      show rk_ev _ _ 14 _ _ _ _
      refine ev_go (pc' := 15) (lv' := [(0, .int b), (1, .int (Int32.ofInt 0)), (2, .int (Int32.ofInt 2))]) (st' := [.int (Int32.ofInt 0)]) (h' := rk_HM) 1 rfl ?_
      exact ev_ret rfl rfl
    show rk_ev _ _ 16 [(0, .ref 316), (1, .int a), (2, .int b)] [.int (Int32.ofInt 0)] rk_HM _
    refine ev_if1 (tg := 22) rfl rfl false (by decide +kernel) ?_
    show rk_ev _ _ 19 _ _ _ _
    refine ev_go (pc' := 21) (lv' := [(0, .ref 316), (1, .int a), (2, .int b)]) (st' := [.int ((Int8.ofInt (-2)).toInt32)]) (h' := rk_HM) 1 rfl ?_
    exact ev_ret rfl rfl
set_option maxRecDepth 100000 in
set_option maxHeartbeats 4000000 in
theorem cs_room_rp (a b : Int32) (ha : 0 ≤ a.toInt) (ha2 : a.toInt ≤ 32) (hb : 3 ≤ b.toInt) : rk_ok2 rm_X7_room rm_X8_room [.int a, .int b] := by
  refine ⟨((Int8.ofInt (-2)).toInt32), rk_HM, rk_HM, ?_, ?_⟩
  · show rk_ev _ _ 0 [(0, .ref 1), (1, .int a), (2, .int b)] [] _ _
    refine ev_go (pc' := 1) (lv' := [(0, .ref 1), (1, .int a), (2, .int b)]) (st' := [.int a]) (h' := rk_HM) 1 rfl ?_
    refine ev_call (M' := rm_X7_isRoom) (ar := ([.int a], [])) (o' := (some (.int (Int32.ofInt 1)), rk_HM)) rfl rfl (by decide) (by decide) rfl rfl ?_ ?_
    · show rk_ev _ _ 0 [(0, .int a)] [] _ _
      refine ev_go (pc' := 1) (lv' := [(0, .int a)]) (st' := [.int a]) (h' := rk_HM) 1 rfl ?_
      refine ev_if1 (tg := 14) rfl rfl false (rk_cz (c := 0) (by decide +kernel) (decide_eq_false (by omega))) ?_
      show rk_ev _ _ 4 _ _ _ _
      refine ev_go (pc' := 7) (lv' := [(0, .int a)]) (st' := [.int ((Int8.ofInt 32).toInt32), .int a]) (h' := rk_HM) 2 rfl ?_
      refine ev_if2 (tg := 14) rfl rfl false (rk_cz (c := 32) (by decide +kernel) (decide_eq_false (by omega))) ?_
      show rk_ev _ _ 10 _ _ _ _
      refine ev_go (pc' := 15) (lv' := [(0, .int a)]) (st' := [.int (Int32.ofInt 1)]) (h' := rk_HM) 2 rfl ?_
      exact ev_ret rfl rfl
    show rk_ev _ _ 4 [(0, .ref 1), (1, .int a), (2, .int b)] [.int (Int32.ofInt 1)] rk_HM _
    refine ev_if1 (tg := 16) rfl rfl false (by decide +kernel) ?_
    show rk_ev _ _ 7 _ _ _ _
    refine ev_go (pc' := 8) (lv' := [(0, .ref 1), (1, .int a), (2, .int b)]) (st' := [.int b]) (h' := rk_HM) 1 rfl ?_
    refine ev_if1 (tg := 16) rfl rfl false (rk_cz (c := 0) (by decide +kernel) (decide_eq_false (by omega))) ?_
    show rk_ev _ _ 11 _ _ _ _
    refine ev_go (pc' := 13) (lv' := [(0, .ref 1), (1, .int a), (2, .int b)]) (st' := [.int (Int32.ofInt 2), .int b]) (h' := rk_HM) 2 rfl ?_
    refine ev_if2 (tg := 19) rfl rfl false (rk_cz (c := 2) (by decide +kernel) (decide_eq_false (by omega))) ?_
    show rk_ev _ _ 16 _ _ _ _
    refine ev_go (pc' := 18) (lv' := [(0, .ref 1), (1, .int a), (2, .int b)]) (st' := [.int ((Int8.ofInt (-2)).toInt32)]) (h' := rk_HM) 1 rfl ?_
    exact ev_ret rfl rfl
  · show rk_ev _ _ 0 [(0, .ref 316), (1, .int a), (2, .int b)] [] _ (some (.int ((Int8.ofInt (-2)).toInt32)), _)
    refine ev_go (pc' := 4) (lv' := [(0, .ref 316), (1, .int a), (2, .int b)]) (st' := [.int ((Int8.ofInt 32).toInt32), .int (Int32.ofInt 0), .int a]) (h' := rk_HM) 3 rfl ?_
    refine ev_call (M' := rm_X8_in) (ar := ([.int a, .int (Int32.ofInt 0), .int ((Int8.ofInt 32).toInt32)], [])) (o' := (some (.int (Int32.ofInt 1)), rk_HM)) rfl rfl (by decide) (by decide) rfl rfl ?_ ?_
    · show rk_ev _ _ 0 [(0, .int a), (1, .int (Int32.ofInt 0)), (2, .int ((Int8.ofInt 32).toInt32))] [] _ _
      refine ev_go (pc' := 2) (lv' := [(0, .int a), (1, .int (Int32.ofInt 0)), (2, .int ((Int8.ofInt 32).toInt32))]) (st' := [.int (Int32.ofInt 0), .int a]) (h' := rk_HM) 2 rfl ?_
      refine ev_if2 (tg := 14) rfl rfl false (rk_cz (c := 0) (by decide +kernel) (decide_eq_false (by omega))) ?_
      show rk_ev _ _ 5 _ _ _ _
      refine ev_go (pc' := 7) (lv' := [(0, .int a), (1, .int (Int32.ofInt 0)), (2, .int ((Int8.ofInt 32).toInt32))]) (st' := [.int ((Int8.ofInt 32).toInt32), .int a]) (h' := rk_HM) 2 rfl ?_
      refine ev_if2 (tg := 14) rfl rfl false (rk_cz (c := 32) (by decide +kernel) (decide_eq_false (by omega))) ?_
      show rk_ev _ _ 10 _ _ _ _
      refine ev_go (pc' := 15) (lv' := [(0, .int a), (1, .int (Int32.ofInt 0)), (2, .int ((Int8.ofInt 32).toInt32))]) (st' := [.int (Int32.ofInt 1)]) (h' := rk_HM) 2 rfl ?_
      exact ev_ret rfl rfl
    show rk_ev _ _ 7 [(0, .ref 316), (1, .int a), (2, .int b)] [.int (Int32.ofInt 1)] rk_HM _
    refine ev_if1 (tg := 19) rfl rfl false (by decide +kernel) ?_
    show rk_ev _ _ 10 _ _ _ _
    refine ev_go (pc' := 13) (lv' := [(0, .ref 316), (1, .int a), (2, .int b)]) (st' := [.int (Int32.ofInt 2), .int (Int32.ofInt 0), .int b]) (h' := rk_HM) 3 rfl ?_
    refine ev_call (M' := rm_X8_in) (ar := ([.int b, .int (Int32.ofInt 0), .int (Int32.ofInt 2)], [])) (o' := (some (.int (Int32.ofInt 0)), rk_HM)) rfl rfl (by decide) (by decide) rfl rfl ?_ ?_
    · show rk_ev _ _ 0 [(0, .int b), (1, .int (Int32.ofInt 0)), (2, .int (Int32.ofInt 2))] [] _ _
      refine ev_go (pc' := 2) (lv' := [(0, .int b), (1, .int (Int32.ofInt 0)), (2, .int (Int32.ofInt 2))]) (st' := [.int (Int32.ofInt 0), .int b]) (h' := rk_HM) 2 rfl ?_
      refine ev_if2 (tg := 14) rfl rfl false (rk_cz (c := 0) (by decide +kernel) (decide_eq_false (by omega))) ?_
      show rk_ev _ _ 5 _ _ _ _
      refine ev_go (pc' := 7) (lv' := [(0, .int b), (1, .int (Int32.ofInt 0)), (2, .int (Int32.ofInt 2))]) (st' := [.int (Int32.ofInt 2), .int b]) (h' := rk_HM) 2 rfl ?_
      refine ev_if2 (tg := 14) rfl rfl true (rk_cz (c := 2) (by decide +kernel) (decide_eq_true (by omega))) ?_
      show rk_ev _ _ 14 _ _ _ _
      refine ev_go (pc' := 15) (lv' := [(0, .int b), (1, .int (Int32.ofInt 0)), (2, .int (Int32.ofInt 2))]) (st' := [.int (Int32.ofInt 0)]) (h' := rk_HM) 1 rfl ?_
      exact ev_ret rfl rfl
    show rk_ev _ _ 16 [(0, .ref 316), (1, .int a), (2, .int b)] [.int (Int32.ofInt 0)] rk_HM _
    refine ev_if1 (tg := 22) rfl rfl false (by decide +kernel) ?_
    show rk_ev _ _ 19 _ _ _ _
    refine ev_go (pc' := 21) (lv' := [(0, .ref 316), (1, .int a), (2, .int b)]) (st' := [.int ((Int8.ofInt (-2)).toInt32)]) (h' := rk_HM) 1 rfl ?_
    exact ev_ret rfl rfl
