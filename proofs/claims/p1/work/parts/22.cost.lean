set_option maxRecDepth 100000 in
set_option maxHeartbeats 4000000 in
theorem cs_cost (a b : Int32) (ha : 0 ≤ a.toInt) (ha2 : a.toInt ≤ 32) : rk_ok2 rm_X7_cost rm_X8_cost [.int b, .int a] := by
  refine ⟨(Int32.ofInt 0), (rk_HM.set 158 (5, [.ref 159, .int 0, .int a, .int 0, .int 0])), ((rk_HM.set 158 (5, [.ref 159, .int 0, .int a, .int 0, .int 0])).set 321 (9, [.int 1, .int 1])), ?_, ?_⟩
  · show rk_ev _ _ 0 [(0, .ref 1), (1, .int b), (2, .int a)] [] _ _
    refine ev_go (pc' := 1) (lv' := [(0, .ref 1), (1, .int b), (2, .int a)]) (st' := [.int a]) (h' := rk_HM) 1 rfl ?_
    refine ev_call (M' := rm_X7_isRoom) (ar := ([.int a], [])) (o' := (some (.int (Int32.ofInt 1)), rk_HM)) rfl rfl (by decide) (by decide) rfl rfl ?_ ?_
    · show rk_ev _ _ 0 [(0, .int a)] [] _ _
      refine ev_go (pc' := 1) (lv' := [(0, .int a)]) (st' := [.int a]) (h' := rk_HM) 1 rfl ?_
      refine ev_if1 (tg := 14) rfl rfl false (rk_cz (c := 0) (by decide +kernel) (decide_eq_false (by omega))) ?_
      show rk_ev _ _ 4 _ _ _ _
      refine ev_go (pc' := 7) (lv' := [(0, .int a)]) (st' := [.int ((Int8.ofInt 32).toInt32), .int a]) (h' := rk_HM) 2 rfl ?_
      refine ev_if2 (tg := 14) rfl rfl false (rk_cz (c := 32) (by decide +kernel) (decide_eq_false (by omega))) ?_
      show rk_ev _ _ 10 _ _ _ _
      refine ev_go (pc' := 15) (lv' := [(0, .int a)]) (st' := [.int (Int32.ofInt 1)]) (h' := rk_HM) 2 rfl ?_
      exact ev_ret rfl rfl
    show rk_ev _ _ 4 [(0, .ref 1), (1, .int b), (2, .int a)] [.int (Int32.ofInt 1)] rk_HM _
    refine ev_if1 (tg := 18) rfl rfl false (by decide +kernel) ?_
    show rk_ev _ _ 7 _ _ _ _
    refine ev_go (pc' := 12) (lv' := [(0, .ref 1), (1, .int b), (2, .int a)]) (st' := [.int 40000, .int a, .int b, .ref 1]) (h' := rk_HM) 4 rfl ?_
    refine ev_call (M' := rm_X7_tryOut) (ar := ([.ref 1, .int b, .int a, .int 40000], [])) (o' := (some (.int (Int32.ofInt 0)), (rk_HM.set 158 (5, [.ref 159, .int 0, .int a, .int 0, .int 0])))) rfl rfl (by decide) (by decide) rfl rfl ?_ ?_
    · show rk_ev _ _ 0 [(0, .ref 1), (1, .int b), (2, .int a), (3, .int 40000)] [] _ _
      refine ev_go (pc' := 8) (lv' := [(0, .ref 1), (1, .int b), (2, .int a), (3, .int 40000)]) (st' := [.ref 18, .ref 156]) (h' := rk_HM) 4 rfl ?_
      refine ev_call (M' := rm_X6_copyFrom) (ar := ([.ref 156, .ref 18], [])) (o' := (none, rk_HM)) rfl rfl (by decide) (by decide) rfl rfl ?_ ?_
      · show rk_ev _ _ 0 [(0, .ref 156), (1, .ref 18)] [] _ _
        exact ⟨223, by decide +kernel⟩
      show rk_ev _ _ 11 [(0, .ref 1), (1, .int b), (2, .int a), (3, .int 40000)] [] rk_HM _
      refine ev_go (pc' := 15) (lv' := [(0, .ref 1), (1, .int b), (2, .int a), (3, .int 40000)]) (st' := [.ref 158]) (h' := rk_HM) 2 rfl ?_
      refine ev_call (M' := rm_X5_dropAll) (ar := ([.ref 158], [])) (o' := (some (.int 0), rk_HM)) rfl rfl (by decide) (by decide) rfl rfl ?_ ?_
      · show rk_ev _ _ 0 [(0, .ref 158)] [] _ _
        exact ⟨13, by decide +kernel⟩
      show rk_ev _ _ 18 [(0, .ref 1), (1, .int b), (2, .int a), (3, .int 40000)] [.int 0] rk_HM _
      refine ev_go (pc' := 31) (lv' := [(0, .ref 1), (1, .int b), (2, .int a), (3, .int 40000)]) (st' := [.int 0, .int a, .ref 158]) (h' := rk_HM) 7 rfl ?_
      refine ev_call (M' := rm_X5_furnish) (ar := ([.ref 158, .int a, .int 0], [])) (o' := (some (.int 0), (rk_HM.set 158 (5, [.ref 159, .int 0, .int a, .int 0, .int 0])))) rfl rfl (by decide) (by decide) rfl rfl ?_ ?_
      · show rk_ev _ _ 0 [(0, .ref 158), (1, .int a), (2, .int 0)] [] _ _
        refine ev_go (pc' := 7) (lv' := [(0, .ref 158), (1, .int a), (2, .int 0)]) (st' := [.int (0 - a), .int (Int32.ofInt 0)]) (h' := rk_HM) 5 rfl ?_
        refine ev_mx (z := 0) rfl rfl rfl (by decide) (rk_mx0 ha ha2) ?_
        refine ev_go (pc' := 17) (lv' := [(4, .int (Int32.ofInt 0)), (3, .int 0), (0, .ref 158), (1, .int a), (2, .int 0)]) (st' := [.int 0, .int (Int32.ofInt 0)]) (h' := rk_HM) 5 rfl ?_
        refine ev_if2 (tg := 31) rfl rfl true (by decide +kernel) ?_
        show rk_ev _ _ 31 _ _ _ _
        refine ev_go (pc' := 42) (lv' := [(4, .int (Int32.ofInt 0)), (3, .int 0), (0, .ref 158), (1, .int a), (2, .int 0)]) (st' := [.int 0]) (h' := (rk_HM.set 158 (5, [.ref 159, .int 0, .int a, .int 0, .int 0]))) 7 rfl ?_
        exact ev_ret rfl rfl
      show rk_ev _ _ 34 [(0, .ref 1), (1, .int b), (2, .int a), (3, .int 40000)] [.int 0] (rk_HM.set 158 (5, [.ref 159, .int 0, .int a, .int 0, .int 0])) _
      refine ev_go (pc' := 40) (lv' := [(0, .ref 1), (1, .int b), (2, .int a), (3, .int 40000)]) (st' := [.ref 2, .int b]) (h' := (rk_HM.set 158 (5, [.ref 159, .int 0, .int a, .int 0, .int 0]))) 4 rfl ?_
      refine ev_call (M' := rm_X3_keepable) (ar := ([.ref 2], [.int b])) (o' := (some (.int (Int32.ofInt 0)), (rk_HM.set 158 (5, [.ref 159, .int 0, .int a, .int 0, .int 0])))) rfl rfl (by decide) (by decide) rfl rfl ?_ ?_
      · show rk_ev _ _ 0 [(0, .ref 2)] [] _ _
        refine ev_go (pc' := 3) (lv' := [(0, .ref 2)]) (st' := [.int ((Int8.ofInt 10).toInt32), .ref 2]) (h' := (rk_HM.set 158 (5, [.ref 159, .int 0, .int a, .int 0, .int 0]))) 2 rfl ?_
        refine ev_call (M' := rm_X3_firstKeepable) (ar := ([.ref 2, .int ((Int8.ofInt 10).toInt32)], [])) (o' := (some (.int (Int32.ofInt 0)), (rk_HM.set 158 (5, [.ref 159, .int 0, .int a, .int 0, .int 0])))) rfl rfl (by decide) (by decide) rfl rfl ?_ ?_
        · show rk_ev _ _ 0 [(0, .ref 2), (1, .int ((Int8.ofInt 10).toInt32))] [] _ _
          refine ev_go (pc' := 9) (lv' := [(3, .int (Int32.ofInt 0)), (2, .int (Int32.ofInt 0)), (0, .ref 2), (1, .int ((Int8.ofInt 10).toInt32))]) (st' := [.int 0, .int (Int32.ofInt 0)]) (h' := (rk_HM.set 158 (5, [.ref 159, .int 0, .int a, .int 0, .int 0]))) 7 rfl ?_
          refine ev_if2 (tg := 41) rfl rfl true (by decide +kernel) ?_
          show rk_ev _ _ 41 _ _ _ _
          refine ev_go (pc' := 42) (lv' := [(3, .int (Int32.ofInt 0)), (2, .int (Int32.ofInt 0)), (0, .ref 2), (1, .int ((Int8.ofInt 10).toInt32))]) (st' := [.int (Int32.ofInt 0)]) (h' := (rk_HM.set 158 (5, [.ref 159, .int 0, .int a, .int 0, .int 0]))) 1 rfl ?_
          exact ev_ret rfl rfl
        show rk_ev _ _ 6 [(0, .ref 2)] [.int (Int32.ofInt 0)] (rk_HM.set 158 (5, [.ref 159, .int 0, .int a, .int 0, .int 0])) _
        exact ev_ret rfl rfl
      show rk_ev _ _ 43 [(0, .ref 1), (1, .int b), (2, .int a), (3, .int 40000)] [.int (Int32.ofInt 0), .int b] (rk_HM.set 158 (5, [.ref 159, .int 0, .int a, .int 0, .int 0])) _
      refine ev_go (pc' := 61) (lv' := [(6, .int (Int32.ofInt 0)), (5, .int (Int32.ofInt 0)), (4, .int (b &&& (Int32.ofInt 0))), (0, .ref 1), (1, .int b), (2, .int a), (3, .int 40000)]) (st' := [.int 0, .int (Int32.ofInt 0)]) (h' := (rk_HM.set 158 (5, [.ref 159, .int 0, .int a, .int 0, .int 0]))) 10 rfl ?_
      refine ev_if2 (tg := 137) rfl rfl true (by decide +kernel) ?_
      show rk_ev _ _ 137 _ _ _ _
      refine ev_go (pc' := 139) (lv' := [(6, .int (Int32.ofInt 0)), (5, .int (Int32.ofInt 0)), (4, .int (b &&& (Int32.ofInt 0))), (0, .ref 1), (1, .int b), (2, .int a), (3, .int 40000)]) (st' := [.int (Int32.ofInt 0)]) (h' := (rk_HM.set 158 (5, [.ref 159, .int 0, .int a, .int 0, .int 0]))) 1 rfl ?_
      exact ev_ret rfl rfl
    show rk_ev _ _ 15 [(0, .ref 1), (1, .int b), (2, .int a)] [.int (Int32.ofInt 0)] (rk_HM.set 158 (5, [.ref 159, .int 0, .int a, .int 0, .int 0])) _
    refine ev_go (pc' := 20) (lv' := [(0, .ref 1), (1, .int b), (2, .int a)]) (st' := [.int (Int32.ofInt 0)]) (h' := (rk_HM.set 158 (5, [.ref 159, .int 0, .int a, .int 0, .int 0]))) 1 rfl ?_
    exact ev_ret rfl rfl
  · show rk_ev _ _ 0 [(0, .ref 316), (1, .int b), (2, .int a)] [] _ (some (.int (Int32.ofInt 0)), _)
    refine ev_go (pc' := 4) (lv' := [(0, .ref 316), (1, .int b), (2, .int a)]) (st' := [.int ((Int8.ofInt 32).toInt32), .int (Int32.ofInt 0), .int a]) (h' := (rk_HM.set 158 (5, [.ref 159, .int 0, .int a, .int 0, .int 0]))) 3 rfl ?_
    refine ev_call (M' := rm_X8_in) (ar := ([.int a, .int (Int32.ofInt 0), .int ((Int8.ofInt 32).toInt32)], [])) (o' := (some (.int (Int32.ofInt 1)), (rk_HM.set 158 (5, [.ref 159, .int 0, .int a, .int 0, .int 0])))) rfl rfl (by decide) (by decide) rfl rfl ?_ ?_
    · show rk_ev _ _ 0 [(0, .int a), (1, .int (Int32.ofInt 0)), (2, .int ((Int8.ofInt 32).toInt32))] [] _ _
      refine ev_go (pc' := 2) (lv' := [(0, .int a), (1, .int (Int32.ofInt 0)), (2, .int ((Int8.ofInt 32).toInt32))]) (st' := [.int (Int32.ofInt 0), .int a]) (h' := (rk_HM.set 158 (5, [.ref 159, .int 0, .int a, .int 0, .int 0]))) 2 rfl ?_
      refine ev_if2 (tg := 14) rfl rfl false (rk_cz (c := 0) (by decide +kernel) (decide_eq_false (by omega))) ?_
      show rk_ev _ _ 5 _ _ _ _
      refine ev_go (pc' := 7) (lv' := [(0, .int a), (1, .int (Int32.ofInt 0)), (2, .int ((Int8.ofInt 32).toInt32))]) (st' := [.int ((Int8.ofInt 32).toInt32), .int a]) (h' := (rk_HM.set 158 (5, [.ref 159, .int 0, .int a, .int 0, .int 0]))) 2 rfl ?_
      refine ev_if2 (tg := 14) rfl rfl false (rk_cz (c := 32) (by decide +kernel) (decide_eq_false (by omega))) ?_
      show rk_ev _ _ 10 _ _ _ _
      refine ev_go (pc' := 15) (lv' := [(0, .int a), (1, .int (Int32.ofInt 0)), (2, .int ((Int8.ofInt 32).toInt32))]) (st' := [.int (Int32.ofInt 1)]) (h' := (rk_HM.set 158 (5, [.ref 159, .int 0, .int a, .int 0, .int 0]))) 2 rfl ?_
      exact ev_ret rfl rfl
    show rk_ev _ _ 7 [(0, .ref 316), (1, .int b), (2, .int a)] [.int (Int32.ofInt 1)] (rk_HM.set 158 (5, [.ref 159, .int 0, .int a, .int 0, .int 0])) _
    refine ev_if1 (tg := 24) rfl rfl false (by decide +kernel) ?_
    show rk_ev _ _ 10 _ _ _ _
    refine ev_go (pc' := 13) (lv' := [(0, .ref 316), (1, .int b), (2, .int a)]) (st' := [.ref 316, .int b, .ref 316]) (h' := (rk_HM.set 158 (5, [.ref 159, .int 0, .int a, .int 0, .int 0]))) 3 rfl ?_
    refine ev_call (M' := rm_X8_pure) (ar := ([.ref 316], [.int b, .ref 316])) (o' := (some (.int (Int32.ofInt 0)), (rk_HM.set 158 (5, [.ref 159, .int 0, .int a, .int 0, .int 0])))) rfl rfl (by decide) (by decide) rfl rfl ?_ ?_
    · show rk_ev _ _ 0 [(0, .ref 316)] [] _ _
      refine ev_go (pc' := 9) (lv' := [(2, .int (Int32.ofInt 0)), (1, .int (Int32.ofInt 0)), (0, .ref 316)]) (st' := [.int 0, .int (Int32.ofInt 0)]) (h' := (rk_HM.set 158 (5, [.ref 159, .int 0, .int a, .int 0, .int 0]))) 7 rfl ?_
      refine ev_if2 (tg := 36) rfl rfl true (by decide +kernel) ?_
      show rk_ev _ _ 36 _ _ _ _
      refine ev_go (pc' := 37) (lv' := [(2, .int (Int32.ofInt 0)), (1, .int (Int32.ofInt 0)), (0, .ref 316)]) (st' := [.int (Int32.ofInt 0)]) (h' := (rk_HM.set 158 (5, [.ref 159, .int 0, .int a, .int 0, .int 0]))) 1 rfl ?_
      exact ev_ret rfl rfl
    show rk_ev _ _ 16 [(0, .ref 316), (1, .int b), (2, .int a)] [.int (Int32.ofInt 0), .int b, .ref 316] (rk_HM.set 158 (5, [.ref 159, .int 0, .int a, .int 0, .int 0])) _
    refine ev_go (pc' := 18) (lv' := [(0, .ref 316), (1, .int b), (2, .int a)]) (st' := [.int a, .int (b &&& (Int32.ofInt 0)), .ref 316]) (h' := (rk_HM.set 158 (5, [.ref 159, .int 0, .int a, .int 0, .int 0]))) 2 rfl ?_
    refine ev_call (M' := rm_X8_costOf) (ar := ([.ref 316, .int (b &&& (Int32.ofInt 0)), .int a], [])) (o' := (some (.int (Int32.ofInt 0)), ((rk_HM.set 158 (5, [.ref 159, .int 0, .int a, .int 0, .int 0])).set 321 (9, [.int 1, .int 1])))) rfl rfl (by decide) (by decide) rfl rfl ?_ ?_
    · show rk_ev _ _ 0 [(0, .ref 316), (1, .int (b &&& (Int32.ofInt 0))), (2, .int a)] [] _ _
      refine ev_go (pc' := 24) (lv' := [(3, .int (Int32.ofInt 0)), (0, .ref 316), (1, .int (b &&& (Int32.ofInt 0))), (2, .int a)]) (st' := [.int ((Int8.ofInt 16).toInt32), .int (Int32.ofInt 0)]) (h' := ((rk_HM.set 158 (5, [.ref 159, .int 0, .int a, .int 0, .int 0])).set 321 (9, [.int 1, .int 1]))) 17 rfl ?_
      refine ev_if2 (tg := 48) rfl rfl false (by decide +kernel) ?_
      show rk_ev _ _ 27 _ _ _ _
      refine ev_go (pc' := 24) (lv' := [(3, .int ((Int32.ofInt 0) + Int32.ofInt 1)), (0, .ref 316), (1, .int (b &&& (Int32.ofInt 0))), (2, .int a)]) (st' := [.int ((Int8.ofInt 16).toInt32), .int ((Int32.ofInt 0) + Int32.ofInt 1)]) (h' := ((rk_HM.set 158 (5, [.ref 159, .int 0, .int a, .int 0, .int 0])).set 321 (9, [.int 1, .int 1]))) 14 rfl ?_
      refine ev_if2 (tg := 48) rfl rfl false (by decide +kernel) ?_
      show rk_ev _ _ 27 _ _ _ _
      refine ev_go (pc' := 24) (lv' := [(3, .int (((Int32.ofInt 0) + Int32.ofInt 1) + Int32.ofInt 1)), (0, .ref 316), (1, .int (b &&& (Int32.ofInt 0))), (2, .int a)]) (st' := [.int ((Int8.ofInt 16).toInt32), .int (((Int32.ofInt 0) + Int32.ofInt 1) + Int32.ofInt 1)]) (h' := ((rk_HM.set 158 (5, [.ref 159, .int 0, .int a, .int 0, .int 0])).set 321 (9, [.int 1, .int 1]))) 14 rfl ?_
      refine ev_if2 (tg := 48) rfl rfl false (by decide +kernel) ?_
      show rk_ev _ _ 27 _ _ _ _
      refine ev_go (pc' := 24) (lv' := [(3, .int ((((Int32.ofInt 0) + Int32.ofInt 1) + Int32.ofInt 1) + Int32.ofInt 1)), (0, .ref 316), (1, .int (b &&& (Int32.ofInt 0))), (2, .int a)]) (st' := [.int ((Int8.ofInt 16).toInt32), .int ((((Int32.ofInt 0) + Int32.ofInt 1) + Int32.ofInt 1) + Int32.ofInt 1)]) (h' := ((rk_HM.set 158 (5, [.ref 159, .int 0, .int a, .int 0, .int 0])).set 321 (9, [.int 1, .int 1]))) 14 rfl ?_
      refine ev_if2 (tg := 48) rfl rfl false (by decide +kernel) ?_
      show rk_ev _ _ 27 _ _ _ _
      refine ev_go (pc' := 24) (lv' := [(3, .int (((((Int32.ofInt 0) + Int32.ofInt 1) + Int32.ofInt 1) + Int32.ofInt 1) + Int32.ofInt 1)), (0, .ref 316), (1, .int (b &&& (Int32.ofInt 0))), (2, .int a)]) (st' := [.int ((Int8.ofInt 16).toInt32), .int (((((Int32.ofInt 0) + Int32.ofInt 1) + Int32.ofInt 1) + Int32.ofInt 1) + Int32.ofInt 1)]) (h' := ((rk_HM.set 158 (5, [.ref 159, .int 0, .int a, .int 0, .int 0])).set 321 (9, [.int 1, .int 1]))) 14 rfl ?_
      refine ev_if2 (tg := 48) rfl rfl false (by decide +kernel) ?_
      show rk_ev _ _ 27 _ _ _ _
      refine ev_go (pc' := 24) (lv' := [(3, .int ((((((Int32.ofInt 0) + Int32.ofInt 1) + Int32.ofInt 1) + Int32.ofInt 1) + Int32.ofInt 1) + Int32.ofInt 1)), (0, .ref 316), (1, .int (b &&& (Int32.ofInt 0))), (2, .int a)]) (st' := [.int ((Int8.ofInt 16).toInt32), .int ((((((Int32.ofInt 0) + Int32.ofInt 1) + Int32.ofInt 1) + Int32.ofInt 1) + Int32.ofInt 1) + Int32.ofInt 1)]) (h' := ((rk_HM.set 158 (5, [.ref 159, .int 0, .int a, .int 0, .int 0])).set 321 (9, [.int 1, .int 1]))) 14 rfl ?_
      refine ev_if2 (tg := 48) rfl rfl false (by decide +kernel) ?_
      show rk_ev _ _ 27 _ _ _ _
      refine ev_go (pc' := 24) (lv' := [(3, .int (((((((Int32.ofInt 0) + Int32.ofInt 1) + Int32.ofInt 1) + Int32.ofInt 1) + Int32.ofInt 1) + Int32.ofInt 1) + Int32.ofInt 1)), (0, .ref 316), (1, .int (b &&& (Int32.ofInt 0))), (2, .int a)]) (st' := [.int ((Int8.ofInt 16).toInt32), .int (((((((Int32.ofInt 0) + Int32.ofInt 1) + Int32.ofInt 1) + Int32.ofInt 1) + Int32.ofInt 1) + Int32.ofInt 1) + Int32.ofInt 1)]) (h' := ((rk_HM.set 158 (5, [.ref 159, .int 0, .int a, .int 0, .int 0])).set 321 (9, [.int 1, .int 1]))) 14 rfl ?_
      refine ev_if2 (tg := 48) rfl rfl false (by decide +kernel) ?_
      show rk_ev _ _ 27 _ _ _ _
      refine ev_go (pc' := 24) (lv' := [(3, .int ((((((((Int32.ofInt 0) + Int32.ofInt 1) + Int32.ofInt 1) + Int32.ofInt 1) + Int32.ofInt 1) + Int32.ofInt 1) + Int32.ofInt 1) + Int32.ofInt 1)), (0, .ref 316), (1, .int (b &&& (Int32.ofInt 0))), (2, .int a)]) (st' := [.int ((Int8.ofInt 16).toInt32), .int ((((((((Int32.ofInt 0) + Int32.ofInt 1) + Int32.ofInt 1) + Int32.ofInt 1) + Int32.ofInt 1) + Int32.ofInt 1) + Int32.ofInt 1) + Int32.ofInt 1)]) (h' := ((rk_HM.set 158 (5, [.ref 159, .int 0, .int a, .int 0, .int 0])).set 321 (9, [.int 1, .int 1]))) 14 rfl ?_
      refine ev_if2 (tg := 48) rfl rfl false (by decide +kernel) ?_
      show rk_ev _ _ 27 _ _ _ _
      refine ev_go (pc' := 24) (lv' := [(3, .int (((((((((Int32.ofInt 0) + Int32.ofInt 1) + Int32.ofInt 1) + Int32.ofInt 1) + Int32.ofInt 1) + Int32.ofInt 1) + Int32.ofInt 1) + Int32.ofInt 1) + Int32.ofInt 1)), (0, .ref 316), (1, .int (b &&& (Int32.ofInt 0))), (2, .int a)]) (st' := [.int ((Int8.ofInt 16).toInt32), .int (((((((((Int32.ofInt 0) + Int32.ofInt 1) + Int32.ofInt 1) + Int32.ofInt 1) + Int32.ofInt 1) + Int32.ofInt 1) + Int32.ofInt 1) + Int32.ofInt 1) + Int32.ofInt 1)]) (h' := ((rk_HM.set 158 (5, [.ref 159, .int 0, .int a, .int 0, .int 0])).set 321 (9, [.int 1, .int 1]))) 14 rfl ?_
      refine ev_if2 (tg := 48) rfl rfl false (by decide +kernel) ?_
      show rk_ev _ _ 27 _ _ _ _
      refine ev_go (pc' := 24) (lv' := [(3, .int ((((((((((Int32.ofInt 0) + Int32.ofInt 1) + Int32.ofInt 1) + Int32.ofInt 1) + Int32.ofInt 1) + Int32.ofInt 1) + Int32.ofInt 1) + Int32.ofInt 1) + Int32.ofInt 1) + Int32.ofInt 1)), (0, .ref 316), (1, .int (b &&& (Int32.ofInt 0))), (2, .int a)]) (st' := [.int ((Int8.ofInt 16).toInt32), .int ((((((((((Int32.ofInt 0) + Int32.ofInt 1) + Int32.ofInt 1) + Int32.ofInt 1) + Int32.ofInt 1) + Int32.ofInt 1) + Int32.ofInt 1) + Int32.ofInt 1) + Int32.ofInt 1) + Int32.ofInt 1)]) (h' := ((rk_HM.set 158 (5, [.ref 159, .int 0, .int a, .int 0, .int 0])).set 321 (9, [.int 1, .int 1]))) 14 rfl ?_
      refine ev_if2 (tg := 48) rfl rfl false (by decide +kernel) ?_
      show rk_ev _ _ 27 _ _ _ _
      refine ev_go (pc' := 24) (lv' := [(3, .int (((((((((((Int32.ofInt 0) + Int32.ofInt 1) + Int32.ofInt 1) + Int32.ofInt 1) + Int32.ofInt 1) + Int32.ofInt 1) + Int32.ofInt 1) + Int32.ofInt 1) + Int32.ofInt 1) + Int32.ofInt 1) + Int32.ofInt 1)), (0, .ref 316), (1, .int (b &&& (Int32.ofInt 0))), (2, .int a)]) (st' := [.int ((Int8.ofInt 16).toInt32), .int (((((((((((Int32.ofInt 0) + Int32.ofInt 1) + Int32.ofInt 1) + Int32.ofInt 1) + Int32.ofInt 1) + Int32.ofInt 1) + Int32.ofInt 1) + Int32.ofInt 1) + Int32.ofInt 1) + Int32.ofInt 1) + Int32.ofInt 1)]) (h' := ((rk_HM.set 158 (5, [.ref 159, .int 0, .int a, .int 0, .int 0])).set 321 (9, [.int 1, .int 1]))) 14 rfl ?_
      refine ev_if2 (tg := 48) rfl rfl false (by decide +kernel) ?_
      show rk_ev _ _ 27 _ _ _ _
      refine ev_go (pc' := 24) (lv' := [(3, .int ((((((((((((Int32.ofInt 0) + Int32.ofInt 1) + Int32.ofInt 1) + Int32.ofInt 1) + Int32.ofInt 1) + Int32.ofInt 1) + Int32.ofInt 1) + Int32.ofInt 1) + Int32.ofInt 1) + Int32.ofInt 1) + Int32.ofInt 1) + Int32.ofInt 1)), (0, .ref 316), (1, .int (b &&& (Int32.ofInt 0))), (2, .int a)]) (st' := [.int ((Int8.ofInt 16).toInt32), .int ((((((((((((Int32.ofInt 0) + Int32.ofInt 1) + Int32.ofInt 1) + Int32.ofInt 1) + Int32.ofInt 1) + Int32.ofInt 1) + Int32.ofInt 1) + Int32.ofInt 1) + Int32.ofInt 1) + Int32.ofInt 1) + Int32.ofInt 1) + Int32.ofInt 1)]) (h' := ((rk_HM.set 158 (5, [.ref 159, .int 0, .int a, .int 0, .int 0])).set 321 (9, [.int 1, .int 1]))) 14 rfl ?_
      refine ev_if2 (tg := 48) rfl rfl false (by decide +kernel) ?_
      show rk_ev _ _ 27 _ _ _ _
      refine ev_go (pc' := 24) (lv' := [(3, .int (((((((((((((Int32.ofInt 0) + Int32.ofInt 1) + Int32.ofInt 1) + Int32.ofInt 1) + Int32.ofInt 1) + Int32.ofInt 1) + Int32.ofInt 1) + Int32.ofInt 1) + Int32.ofInt 1) + Int32.ofInt 1) + Int32.ofInt 1) + Int32.ofInt 1) + Int32.ofInt 1)), (0, .ref 316), (1, .int (b &&& (Int32.ofInt 0))), (2, .int a)]) (st' := [.int ((Int8.ofInt 16).toInt32), .int (((((((((((((Int32.ofInt 0) + Int32.ofInt 1) + Int32.ofInt 1) + Int32.ofInt 1) + Int32.ofInt 1) + Int32.ofInt 1) + Int32.ofInt 1) + Int32.ofInt 1) + Int32.ofInt 1) + Int32.ofInt 1) + Int32.ofInt 1) + Int32.ofInt 1) + Int32.ofInt 1)]) (h' := ((rk_HM.set 158 (5, [.ref 159, .int 0, .int a, .int 0, .int 0])).set 321 (9, [.int 1, .int 1]))) 14 rfl ?_
      refine ev_if2 (tg := 48) rfl rfl false (by decide +kernel) ?_
      show rk_ev _ _ 27 _ _ _ _
      refine ev_go (pc' := 24) (lv' := [(3, .int ((((((((((((((Int32.ofInt 0) + Int32.ofInt 1) + Int32.ofInt 1) + Int32.ofInt 1) + Int32.ofInt 1) + Int32.ofInt 1) + Int32.ofInt 1) + Int32.ofInt 1) + Int32.ofInt 1) + Int32.ofInt 1) + Int32.ofInt 1) + Int32.ofInt 1) + Int32.ofInt 1) + Int32.ofInt 1)), (0, .ref 316), (1, .int (b &&& (Int32.ofInt 0))), (2, .int a)]) (st' := [.int ((Int8.ofInt 16).toInt32), .int ((((((((((((((Int32.ofInt 0) + Int32.ofInt 1) + Int32.ofInt 1) + Int32.ofInt 1) + Int32.ofInt 1) + Int32.ofInt 1) + Int32.ofInt 1) + Int32.ofInt 1) + Int32.ofInt 1) + Int32.ofInt 1) + Int32.ofInt 1) + Int32.ofInt 1) + Int32.ofInt 1) + Int32.ofInt 1)]) (h' := ((rk_HM.set 158 (5, [.ref 159, .int 0, .int a, .int 0, .int 0])).set 321 (9, [.int 1, .int 1]))) 14 rfl ?_
      refine ev_if2 (tg := 48) rfl rfl false (by decide +kernel) ?_
      show rk_ev _ _ 27 _ _ _ _
      refine ev_go (pc' := 24) (lv' := [(3, .int (((((((((((((((Int32.ofInt 0) + Int32.ofInt 1) + Int32.ofInt 1) + Int32.ofInt 1) + Int32.ofInt 1) + Int32.ofInt 1) + Int32.ofInt 1) + Int32.ofInt 1) + Int32.ofInt 1) + Int32.ofInt 1) + Int32.ofInt 1) + Int32.ofInt 1) + Int32.ofInt 1) + Int32.ofInt 1) + Int32.ofInt 1)), (0, .ref 316), (1, .int (b &&& (Int32.ofInt 0))), (2, .int a)]) (st' := [.int ((Int8.ofInt 16).toInt32), .int (((((((((((((((Int32.ofInt 0) + Int32.ofInt 1) + Int32.ofInt 1) + Int32.ofInt 1) + Int32.ofInt 1) + Int32.ofInt 1) + Int32.ofInt 1) + Int32.ofInt 1) + Int32.ofInt 1) + Int32.ofInt 1) + Int32.ofInt 1) + Int32.ofInt 1) + Int32.ofInt 1) + Int32.ofInt 1) + Int32.ofInt 1)]) (h' := ((rk_HM.set 158 (5, [.ref 159, .int 0, .int a, .int 0, .int 0])).set 321 (9, [.int 1, .int 1]))) 14 rfl ?_
      refine ev_if2 (tg := 48) rfl rfl false (by decide +kernel) ?_
      show rk_ev _ _ 27 _ _ _ _
      refine ev_go (pc' := 24) (lv' := [(3, .int ((((((((((((((((Int32.ofInt 0) + Int32.ofInt 1) + Int32.ofInt 1) + Int32.ofInt 1) + Int32.ofInt 1) + Int32.ofInt 1) + Int32.ofInt 1) + Int32.ofInt 1) + Int32.ofInt 1) + Int32.ofInt 1) + Int32.ofInt 1) + Int32.ofInt 1) + Int32.ofInt 1) + Int32.ofInt 1) + Int32.ofInt 1) + Int32.ofInt 1)), (0, .ref 316), (1, .int (b &&& (Int32.ofInt 0))), (2, .int a)]) (st' := [.int ((Int8.ofInt 16).toInt32), .int ((((((((((((((((Int32.ofInt 0) + Int32.ofInt 1) + Int32.ofInt 1) + Int32.ofInt 1) + Int32.ofInt 1) + Int32.ofInt 1) + Int32.ofInt 1) + Int32.ofInt 1) + Int32.ofInt 1) + Int32.ofInt 1) + Int32.ofInt 1) + Int32.ofInt 1) + Int32.ofInt 1) + Int32.ofInt 1) + Int32.ofInt 1) + Int32.ofInt 1)]) (h' := ((rk_HM.set 158 (5, [.ref 159, .int 0, .int a, .int 0, .int 0])).set 321 (9, [.int 1, .int 1]))) 14 rfl ?_
      refine ev_if2 (tg := 48) rfl rfl false (by decide +kernel) ?_
      show rk_ev _ _ 27 _ _ _ _
      refine ev_go (pc' := 24) (lv' := [(3, .int (((((((((((((((((Int32.ofInt 0) + Int32.ofInt 1) + Int32.ofInt 1) + Int32.ofInt 1) + Int32.ofInt 1) + Int32.ofInt 1) + Int32.ofInt 1) + Int32.ofInt 1) + Int32.ofInt 1) + Int32.ofInt 1) + Int32.ofInt 1) + Int32.ofInt 1) + Int32.ofInt 1) + Int32.ofInt 1) + Int32.ofInt 1) + Int32.ofInt 1) + Int32.ofInt 1)), (0, .ref 316), (1, .int (b &&& (Int32.ofInt 0))), (2, .int a)]) (st' := [.int ((Int8.ofInt 16).toInt32), .int (((((((((((((((((Int32.ofInt 0) + Int32.ofInt 1) + Int32.ofInt 1) + Int32.ofInt 1) + Int32.ofInt 1) + Int32.ofInt 1) + Int32.ofInt 1) + Int32.ofInt 1) + Int32.ofInt 1) + Int32.ofInt 1) + Int32.ofInt 1) + Int32.ofInt 1) + Int32.ofInt 1) + Int32.ofInt 1) + Int32.ofInt 1) + Int32.ofInt 1) + Int32.ofInt 1)]) (h' := ((rk_HM.set 158 (5, [.ref 159, .int 0, .int a, .int 0, .int 0])).set 321 (9, [.int 1, .int 1]))) 14 rfl ?_
      refine ev_if2 (tg := 48) rfl rfl true (by decide +kernel) ?_
      show rk_ev _ _ 48 _ _ _ _
      refine ev_go (pc' := 59) (lv' := [(4, .int (Int32.ofInt 0)), (3, .int (Int32.ofInt 0)), (0, .ref 316), (1, .int (b &&& (Int32.ofInt 0))), (2, .int a)]) (st' := [.int 0, .int (Int32.ofInt 0)]) (h' := ((rk_HM.set 158 (5, [.ref 159, .int 0, .int a, .int 0, .int 0])).set 321 (9, [.int 1, .int 1]))) 7 rfl ?_
      refine ev_if2 (tg := 124) rfl rfl true (by decide +kernel) ?_
      show rk_ev _ _ 124 _ _ _ _
      refine ev_go (pc' := 125) (lv' := [(4, .int (Int32.ofInt 0)), (3, .int (Int32.ofInt 0)), (0, .ref 316), (1, .int (b &&& (Int32.ofInt 0))), (2, .int a)]) (st' := [.int (Int32.ofInt 0)]) (h' := ((rk_HM.set 158 (5, [.ref 159, .int 0, .int a, .int 0, .int 0])).set 321 (9, [.int 1, .int 1]))) 1 rfl ?_
      exact ev_ret rfl rfl
    show rk_ev _ _ 21 [(0, .ref 316), (1, .int b), (2, .int a)] [.int (Int32.ofInt 0)] ((rk_HM.set 158 (5, [.ref 159, .int 0, .int a, .int 0, .int 0])).set 321 (9, [.int 1, .int 1])) _
    refine ev_go (pc' := 26) (lv' := [(0, .ref 316), (1, .int b), (2, .int a)]) (st' := [.int (Int32.ofInt 0)]) (h' := ((rk_HM.set 158 (5, [.ref 159, .int 0, .int a, .int 0, .int 0])).set 321 (9, [.int 1, .int 1]))) 1 rfl ?_
    exact ev_ret rfl rfl
