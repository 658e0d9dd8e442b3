/-! the law with one call -/
theorem rk_goV {M : rk_M} {na : Nat} {st : List Value} {h : rk_S} {b : Nat} {q : Nat × List Value} {r : List Value} {ar : List Value × List Value} (hq : h[b]? = some q) (hk : q.1 = 8) (hm : M.2.2.2.2.1 = 8) (hs : Nat.ble na st.length = true) (hd : st.drop na = .ref b :: r) (hg : rk_gx M (.ref b :: (st.take na).reverse) r = some ar) : rk_go M na 1 st h = some ar := by
  unfold rk_go
  rw [hs]
  dsimp only [cond, Nat.beq, Bool.or]
  rw [hd]
  dsimp only
  rw [hq]
  dsimp only
  rw [hk, hm]
  exact hg
set_option maxRecDepth 100000 in
theorem lw_exit (xs : Nat → Int32) (h : rk_S) : rk_ev 2000 rm_L_law 694 [(3, .int (Int32.ofInt 0)), (2, .ref 316), (1, .ref 1), (0, .ref 0)] [] (rk_scr 5 xs :: h) (some (.int 1), rk_scr 5 xs :: h) := by
  refine ev_go (pc' := 23) (lv' := [(3, .int (Int32.ofInt 0 + Int32.ofInt 5)), (2, .ref 316), (1, .ref 1), (0, .ref 0)]) (st' := [.int (Int32.ofNat 5 - Int32.ofInt 5), .int (Int32.ofInt 0 + Int32.ofInt 5)]) (h' := rk_scr 5 xs :: h) 7 rfl ?_
  refine ev_if2 (tg := 700) rfl rfl true (by decide +kernel) ?_
  refine ev_go (pc' := 701) (lv' := [(3, .int (Int32.ofInt 0 + Int32.ofInt 5)), (2, .ref 316), (1, .ref 1), (0, .ref 0)]) (st' := [.int (Int32.ofInt 1)]) (h' := rk_scr 5 xs :: h) 1 rfl ?_
  exact ev_ret rfl rfl
set_option maxRecDepth 100000 in
set_option maxHeartbeats 4000000 in
theorem lwc_0 (xs : Nat → Int32) (hk : rk_ok2 rm_X7_routine rm_X8_routine []) : ∃ h2 : rk_S, h2.length = 344 ∧ rk_sz h2 = 6106 ∧ rk_ev 2000 rm_L_law 128 [(3, .int (Int32.ofInt 0)), (2, .ref 316), (1, .ref 1), (0, .ref 0)] [] (rk_scr 5 xs :: rk_HM.tail) (some (.int 1), rk_scr 5 xs :: h2) := by
  obtain ⟨r, h1, h2, e1, e2, ⟨q, hq, hq8⟩, l1, l2⟩ := rk_ok3_of (List.mem_of_getElem? (i := 63) rfl) (List.mem_of_getElem? (i := 91) rfl) (by decide) (by decide) hk (rk_scr 5 xs)
  refine ⟨h2, l1, l2, ?_⟩
  obtain ⟨c0, hc⟩ : ∃ c0, c0 = rk_scr 5 xs := ⟨_, rfl⟩
  refine ev_go (pc' := 129) (lv' := [(3, .int (Int32.ofInt 0)), (2, .ref 316), (1, .ref 1), (0, .ref 0)]) (st' := [.ref 1]) (h' := rk_scr 5 xs :: rk_HM.tail) 1 rfl ?_
  refine ev_call (M' := rm_X7_routine) (ar := ([.ref 1], [])) (o' := (some (.int r), rk_scr 5 xs :: h1)) rfl rfl (by decide) (by decide) rfl rfl e1 ?_
  show rk_ev _ _ 132 [(3, .int (Int32.ofInt 0)), (2, .ref 316), (1, .ref 1), (0, .ref 0)] [.int r] (rk_scr 5 xs :: h1) _
  refine ev_go (pc' := 133) (lv' := [(3, .int (Int32.ofInt 0)), (2, .ref 316), (1, .ref 1), (0, .ref 0)]) (st' := [.ref 316, .int r]) (h' := rk_scr 5 xs :: h1) 1 rfl ?_
  refine ev_call (M' := rm_X8_routine) (ar := ([.ref 316], [.int r])) (o' := (some (.int r), rk_scr 5 xs :: h2)) rfl rfl (by decide) (by decide) rfl (rk_goV hq hq8 rfl rfl rfl rfl) e2 ?_
  show rk_ev _ _ 136 [(3, .int (Int32.ofInt 0)), (2, .ref 316), (1, .ref 1), (0, .ref 0)] [.int r, .int r] (rk_scr 5 xs :: h2) _
  refine ev_if2 (tg := 694) rfl rfl true (decide_eq_true rfl) ?_
  exact lw_exit xs h2
set_option maxRecDepth 100000 in
set_option maxHeartbeats 4000000 in
theorem lwc_1 (xs : Nat → Int32) (hk : rk_ok2 rm_X7_code rm_X8_code [.int (xs 1), .int (xs 2)]) : ∃ h2 : rk_S, h2.length = 344 ∧ rk_sz h2 = 6106 ∧ rk_ev 2000 rm_L_law 141 [(3, .int (Int32.ofInt 0)), (2, .ref 316), (1, .ref 1), (0, .ref 0)] [] (rk_scr 5 xs :: rk_HM.tail) (some (.int 1), rk_scr 5 xs :: h2) := by
  obtain ⟨r, h1, h2, e1, e2, ⟨q, hq, hq8⟩, l1, l2⟩ := rk_ok3_of (List.mem_of_getElem? (i := 64) rfl) (List.mem_of_getElem? (i := 93) rfl) (by decide) (by decide) hk (rk_scr 5 xs)
  refine ⟨h2, l1, l2, ?_⟩
  obtain ⟨c0, hc⟩ : ∃ c0, c0 = rk_scr 5 xs := ⟨_, rfl⟩
  refine ev_go (pc' := 152) (lv' := [(3, .int (Int32.ofInt 0)), (2, .ref 316), (1, .ref 1), (0, .ref 0)]) (st' := [.int (xs 2), .int (xs 1), .ref 1]) (h' := rk_scr 5 xs :: rk_HM.tail) 11 rfl ?_
  refine ev_call (M' := rm_X7_code) (ar := ([.ref 1, .int (xs 1), .int (xs 2)], [])) (o' := (some (.int r), rk_scr 5 xs :: h1)) rfl rfl (by decide) (by decide) rfl rfl e1 ?_
  show rk_ev _ _ 155 [(3, .int (Int32.ofInt 0)), (2, .ref 316), (1, .ref 1), (0, .ref 0)] [.int r] (rk_scr 5 xs :: h1) _
  refine ev_go (pc' := 166) (lv' := [(3, .int (Int32.ofInt 0)), (2, .ref 316), (1, .ref 1), (0, .ref 0)]) (st' := [.int (xs 2), .int (xs 1), .ref 316, .int r]) (h' := rk_scr 5 xs :: h1) 11 rfl ?_
  refine ev_call (M' := rm_X8_code) (ar := ([.ref 316, .int (xs 1), .int (xs 2)], [.int r])) (o' := (some (.int r), rk_scr 5 xs :: h2)) rfl rfl (by decide) (by decide) rfl (rk_goV hq hq8 rfl rfl rfl rfl) e2 ?_
  show rk_ev _ _ 169 [(3, .int (Int32.ofInt 0)), (2, .ref 316), (1, .ref 1), (0, .ref 0)] [.int r, .int r] (rk_scr 5 xs :: h2) _
  refine ev_if2 (tg := 694) rfl rfl true (decide_eq_true rfl) ?_
  exact lw_exit xs h2
set_option maxRecDepth 100000 in
set_option maxHeartbeats 4000000 in
theorem lwc_2 (xs : Nat → Int32) (hk : rk_ok2 rm_X7_codeAt rm_X8_codeAt [.int (xs 1), .int (xs 2)]) : ∃ h2 : rk_S, h2.length = 344 ∧ rk_sz h2 = 6106 ∧ rk_ev 2000 rm_L_law 174 [(3, .int (Int32.ofInt 0)), (2, .ref 316), (1, .ref 1), (0, .ref 0)] [] (rk_scr 5 xs :: rk_HM.tail) (some (.int 1), rk_scr 5 xs :: h2) := by
  obtain ⟨r, h1, h2, e1, e2, ⟨q, hq, hq8⟩, l1, l2⟩ := rk_ok3_of (List.mem_of_getElem? (i := 65) rfl) (List.mem_of_getElem? (i := 94) rfl) (by decide) (by decide) hk (rk_scr 5 xs)
  refine ⟨h2, l1, l2, ?_⟩
  obtain ⟨c0, hc⟩ : ∃ c0, c0 = rk_scr 5 xs := ⟨_, rfl⟩
  refine ev_go (pc' := 185) (lv' := [(3, .int (Int32.ofInt 0)), (2, .ref 316), (1, .ref 1), (0, .ref 0)]) (st' := [.int (xs 2), .int (xs 1), .ref 1]) (h' := rk_scr 5 xs :: rk_HM.tail) 11 rfl ?_
  refine ev_call (M' := rm_X7_codeAt) (ar := ([.ref 1, .int (xs 1), .int (xs 2)], [])) (o' := (some (.int r), rk_scr 5 xs :: h1)) rfl rfl (by decide) (by decide) rfl rfl e1 ?_
  show rk_ev _ _ 188 [(3, .int (Int32.ofInt 0)), (2, .ref 316), (1, .ref 1), (0, .ref 0)] [.int r] (rk_scr 5 xs :: h1) _
  refine ev_go (pc' := 199) (lv' := [(3, .int (Int32.ofInt 0)), (2, .ref 316), (1, .ref 1), (0, .ref 0)]) (st' := [.int (xs 2), .int (xs 1), .ref 316, .int r]) (h' := rk_scr 5 xs :: h1) 11 rfl ?_
  refine ev_call (M' := rm_X8_codeAt) (ar := ([.ref 316, .int (xs 1), .int (xs 2)], [.int r])) (o' := (some (.int r), rk_scr 5 xs :: h2)) rfl rfl (by decide) (by decide) rfl (rk_goV hq hq8 rfl rfl rfl rfl) e2 ?_
  show rk_ev _ _ 202 [(3, .int (Int32.ofInt 0)), (2, .ref 316), (1, .ref 1), (0, .ref 0)] [.int r, .int r] (rk_scr 5 xs :: h2) _
  refine ev_if2 (tg := 694) rfl rfl true (decide_eq_true rfl) ?_
  exact lw_exit xs h2
set_option maxRecDepth 100000 in
set_option maxHeartbeats 4000000 in
theorem lwc_3 (xs : Nat → Int32) (hk : rk_ok2 rm_X7_store rm_X8_store [.int (xs 1), .int (xs 2)]) : ∃ h2 : rk_S, h2.length = 344 ∧ rk_sz h2 = 6106 ∧ rk_ev 2000 rm_L_law 207 [(3, .int (Int32.ofInt 0)), (2, .ref 316), (1, .ref 1), (0, .ref 0)] [] (rk_scr 5 xs :: rk_HM.tail) (some (.int 1), rk_scr 5 xs :: h2) := by
  obtain ⟨r, h1, h2, e1, e2, ⟨q, hq, hq8⟩, l1, l2⟩ := rk_ok3_of (List.mem_of_getElem? (i := 66) rfl) (List.mem_of_getElem? (i := 95) rfl) (by decide) (by decide) hk (rk_scr 5 xs)
  refine ⟨h2, l1, l2, ?_⟩
  obtain ⟨c0, hc⟩ : ∃ c0, c0 = rk_scr 5 xs := ⟨_, rfl⟩
  refine ev_go (pc' := 218) (lv' := [(3, .int (Int32.ofInt 0)), (2, .ref 316), (1, .ref 1), (0, .ref 0)]) (st' := [.int (xs 2), .int (xs 1), .ref 1]) (h' := rk_scr 5 xs :: rk_HM.tail) 11 rfl ?_
  refine ev_call (M' := rm_X7_store) (ar := ([.ref 1, .int (xs 1), .int (xs 2)], [])) (o' := (some (.int r), rk_scr 5 xs :: h1)) rfl rfl (by decide) (by decide) rfl rfl e1 ?_
  show rk_ev _ _ 221 [(3, .int (Int32.ofInt 0)), (2, .ref 316), (1, .ref 1), (0, .ref 0)] [.int r] (rk_scr 5 xs :: h1) _
  refine ev_go (pc' := 232) (lv' := [(3, .int (Int32.ofInt 0)), (2, .ref 316), (1, .ref 1), (0, .ref 0)]) (st' := [.int (xs 2), .int (xs 1), .ref 316, .int r]) (h' := rk_scr 5 xs :: h1) 11 rfl ?_
  refine ev_call (M' := rm_X8_store) (ar := ([.ref 316, .int (xs 1), .int (xs 2)], [.int r])) (o' := (some (.int r), rk_scr 5 xs :: h2)) rfl rfl (by decide) (by decide) rfl (rk_goV hq hq8 rfl rfl rfl rfl) e2 ?_
  show rk_ev _ _ 235 [(3, .int (Int32.ofInt 0)), (2, .ref 316), (1, .ref 1), (0, .ref 0)] [.int r, .int r] (rk_scr 5 xs :: h2) _
  refine ev_if2 (tg := 694) rfl rfl true (decide_eq_true rfl) ?_
  exact lw_exit xs h2
set_option maxRecDepth 100000 in
set_option maxHeartbeats 4000000 in
theorem lwc_4 (xs : Nat → Int32) (hk : rk_ok2 rm_X7_held rm_X8_held [.int (xs 1)]) : ∃ h2 : rk_S, h2.length = 344 ∧ rk_sz h2 = 6106 ∧ rk_ev 2000 rm_L_law 240 [(3, .int (Int32.ofInt 0)), (2, .ref 316), (1, .ref 1), (0, .ref 0)] [] (rk_scr 5 xs :: rk_HM.tail) (some (.int 1), rk_scr 5 xs :: h2) := by
  obtain ⟨r, h1, h2, e1, e2, ⟨q, hq, hq8⟩, l1, l2⟩ := rk_ok3_of (List.mem_of_getElem? (i := 67) rfl) (List.mem_of_getElem? (i := 96) rfl) (by decide) (by decide) hk (rk_scr 5 xs)
  refine ⟨h2, l1, l2, ?_⟩
  obtain ⟨c0, hc⟩ : ∃ c0, c0 = rk_scr 5 xs := ⟨_, rfl⟩
  refine ev_go (pc' := 246) (lv' := [(3, .int (Int32.ofInt 0)), (2, .ref 316), (1, .ref 1), (0, .ref 0)]) (st' := [.int (xs 1), .ref 1]) (h' := rk_scr 5 xs :: rk_HM.tail) 6 rfl ?_
  refine ev_call (M' := rm_X7_held) (ar := ([.ref 1, .int (xs 1)], [])) (o' := (some (.int r), rk_scr 5 xs :: h1)) rfl rfl (by decide) (by decide) rfl rfl e1 ?_
  show rk_ev _ _ 249 [(3, .int (Int32.ofInt 0)), (2, .ref 316), (1, .ref 1), (0, .ref 0)] [.int r] (rk_scr 5 xs :: h1) _
  refine ev_go (pc' := 255) (lv' := [(3, .int (Int32.ofInt 0)), (2, .ref 316), (1, .ref 1), (0, .ref 0)]) (st' := [.int (xs 1), .ref 316, .int r]) (h' := rk_scr 5 xs :: h1) 6 rfl ?_
  refine ev_call (M' := rm_X8_held) (ar := ([.ref 316, .int (xs 1)], [.int r])) (o' := (some (.int r), rk_scr 5 xs :: h2)) rfl rfl (by decide) (by decide) rfl (rk_goV hq hq8 rfl rfl rfl rfl) e2 ?_
  show rk_ev _ _ 258 [(3, .int (Int32.ofInt 0)), (2, .ref 316), (1, .ref 1), (0, .ref 0)] [.int r, .int r] (rk_scr 5 xs :: h2) _
  refine ev_if2 (tg := 694) rfl rfl true (decide_eq_true rfl) ?_
  exact lw_exit xs h2
set_option maxRecDepth 100000 in
set_option maxHeartbeats 4000000 in
theorem lwc_5 (xs : Nat → Int32) (hk : rk_ok2 rm_X7_lot rm_X8_lot [.int (xs 1)]) : ∃ h2 : rk_S, h2.length = 344 ∧ rk_sz h2 = 6106 ∧ rk_ev 2000 rm_L_law 263 [(3, .int (Int32.ofInt 0)), (2, .ref 316), (1, .ref 1), (0, .ref 0)] [] (rk_scr 5 xs :: rk_HM.tail) (some (.int 1), rk_scr 5 xs :: h2) := by
  obtain ⟨r, h1, h2, e1, e2, ⟨q, hq, hq8⟩, l1, l2⟩ := rk_ok3_of (List.mem_of_getElem? (i := 68) rfl) (List.mem_of_getElem? (i := 97) rfl) (by decide) (by decide) hk (rk_scr 5 xs)
  refine ⟨h2, l1, l2, ?_⟩
  obtain ⟨c0, hc⟩ : ∃ c0, c0 = rk_scr 5 xs := ⟨_, rfl⟩
  refine ev_go (pc' := 269) (lv' := [(3, .int (Int32.ofInt 0)), (2, .ref 316), (1, .ref 1), (0, .ref 0)]) (st' := [.int (xs 1), .ref 1]) (h' := rk_scr 5 xs :: rk_HM.tail) 6 rfl ?_
  refine ev_call (M' := rm_X7_lot) (ar := ([.ref 1, .int (xs 1)], [])) (o' := (some (.int r), rk_scr 5 xs :: h1)) rfl rfl (by decide) (by decide) rfl rfl e1 ?_
  show rk_ev _ _ 272 [(3, .int (Int32.ofInt 0)), (2, .ref 316), (1, .ref 1), (0, .ref 0)] [.int r] (rk_scr 5 xs :: h1) _
  refine ev_go (pc' := 278) (lv' := [(3, .int (Int32.ofInt 0)), (2, .ref 316), (1, .ref 1), (0, .ref 0)]) (st' := [.int (xs 1), .ref 316, .int r]) (h' := rk_scr 5 xs :: h1) 6 rfl ?_
  refine ev_call (M' := rm_X8_lot) (ar := ([.ref 316, .int (xs 1)], [.int r])) (o' := (some (.int r), rk_scr 5 xs :: h2)) rfl rfl (by decide) (by decide) rfl (rk_goV hq hq8 rfl rfl rfl rfl) e2 ?_
  show rk_ev _ _ 281 [(3, .int (Int32.ofInt 0)), (2, .ref 316), (1, .ref 1), (0, .ref 0)] [.int r, .int r] (rk_scr 5 xs :: h2) _
  refine ev_if2 (tg := 694) rfl rfl true (decide_eq_true rfl) ?_
  exact lw_exit xs h2
set_option maxRecDepth 100000 in
set_option maxHeartbeats 4000000 in
theorem lwc_6 (xs : Nat → Int32) (hk : rk_ok2 rm_X7_acting rm_X8_acting [.int (xs 1)]) : ∃ h2 : rk_S, h2.length = 344 ∧ rk_sz h2 = 6106 ∧ rk_ev 2000 rm_L_law 286 [(3, .int (Int32.ofInt 0)), (2, .ref 316), (1, .ref 1), (0, .ref 0)] [] (rk_scr 5 xs :: rk_HM.tail) (some (.int 1), rk_scr 5 xs :: h2) := by
  obtain ⟨r, h1, h2, e1, e2, ⟨q, hq, hq8⟩, l1, l2⟩ := rk_ok3_of (List.mem_of_getElem? (i := 69) rfl) (List.mem_of_getElem? (i := 100) rfl) (by decide) (by decide) hk (rk_scr 5 xs)
  refine ⟨h2, l1, l2, ?_⟩
  obtain ⟨c0, hc⟩ : ∃ c0, c0 = rk_scr 5 xs := ⟨_, rfl⟩
  refine ev_go (pc' := 292) (lv' := [(3, .int (Int32.ofInt 0)), (2, .ref 316), (1, .ref 1), (0, .ref 0)]) (st' := [.int (xs 1), .ref 1]) (h' := rk_scr 5 xs :: rk_HM.tail) 6 rfl ?_
  refine ev_call (M' := rm_X7_acting) (ar := ([.ref 1, .int (xs 1)], [])) (o' := (some (.int r), rk_scr 5 xs :: h1)) rfl rfl (by decide) (by decide) rfl rfl e1 ?_
  show rk_ev _ _ 295 [(3, .int (Int32.ofInt 0)), (2, .ref 316), (1, .ref 1), (0, .ref 0)] [.int r] (rk_scr 5 xs :: h1) _
  refine ev_go (pc' := 301) (lv' := [(3, .int (Int32.ofInt 0)), (2, .ref 316), (1, .ref 1), (0, .ref 0)]) (st' := [.int (xs 1), .ref 316, .int r]) (h' := rk_scr 5 xs :: h1) 6 rfl ?_
  refine ev_call (M' := rm_X8_acting) (ar := ([.ref 316, .int (xs 1)], [.int r])) (o' := (some (.int r), rk_scr 5 xs :: h2)) rfl rfl (by decide) (by decide) rfl (rk_goV hq hq8 rfl rfl rfl rfl) e2 ?_
  show rk_ev _ _ 304 [(3, .int (Int32.ofInt 0)), (2, .ref 316), (1, .ref 1), (0, .ref 0)] [.int r, .int r] (rk_scr 5 xs :: h2) _
  refine ev_if2 (tg := 694) rfl rfl true (decide_eq_true rfl) ?_
  exact lw_exit xs h2
set_option maxRecDepth 100000 in
set_option maxHeartbeats 4000000 in
theorem lwc_7 (xs : Nat → Int32) (hk : rk_ok2 rm_X7_reads rm_X8_reads [.int (xs 1)]) : ∃ h2 : rk_S, h2.length = 344 ∧ rk_sz h2 = 6106 ∧ rk_ev 2000 rm_L_law 309 [(3, .int (Int32.ofInt 0)), (2, .ref 316), (1, .ref 1), (0, .ref 0)] [] (rk_scr 5 xs :: rk_HM.tail) (some (.int 1), rk_scr 5 xs :: h2) := by
  obtain ⟨r, h1, h2, e1, e2, ⟨q, hq, hq8⟩, l1, l2⟩ := rk_ok3_of (List.mem_of_getElem? (i := 70) rfl) (List.mem_of_getElem? (i := 101) rfl) (by decide) (by decide) hk (rk_scr 5 xs)
  refine ⟨h2, l1, l2, ?_⟩
  obtain ⟨c0, hc⟩ : ∃ c0, c0 = rk_scr 5 xs := ⟨_, rfl⟩
  refine ev_go (pc' := 315) (lv' := [(3, .int (Int32.ofInt 0)), (2, .ref 316), (1, .ref 1), (0, .ref 0)]) (st' := [.int (xs 1), .ref 1]) (h' := rk_scr 5 xs :: rk_HM.tail) 6 rfl ?_
  refine ev_call (M' := rm_X7_reads) (ar := ([.ref 1, .int (xs 1)], [])) (o' := (some (.int r), rk_scr 5 xs :: h1)) rfl rfl (by decide) (by decide) rfl rfl e1 ?_
  show rk_ev _ _ 318 [(3, .int (Int32.ofInt 0)), (2, .ref 316), (1, .ref 1), (0, .ref 0)] [.int r] (rk_scr 5 xs :: h1) _
  refine ev_go (pc' := 324) (lv' := [(3, .int (Int32.ofInt 0)), (2, .ref 316), (1, .ref 1), (0, .ref 0)]) (st' := [.int (xs 1), .ref 316, .int r]) (h' := rk_scr 5 xs :: h1) 6 rfl ?_
  refine ev_call (M' := rm_X8_reads) (ar := ([.ref 316, .int (xs 1)], [.int r])) (o' := (some (.int r), rk_scr 5 xs :: h2)) rfl rfl (by decide) (by decide) rfl (rk_goV hq hq8 rfl rfl rfl rfl) e2 ?_
  show rk_ev _ _ 327 [(3, .int (Int32.ofInt 0)), (2, .ref 316), (1, .ref 1), (0, .ref 0)] [.int r, .int r] (rk_scr 5 xs :: h2) _
  refine ev_if2 (tg := 694) rfl rfl true (decide_eq_true rfl) ?_
  exact lw_exit xs h2
set_option maxRecDepth 100000 in
set_option maxHeartbeats 4000000 in
theorem lwc_8 (xs : Nat → Int32) (hk : rk_ok2 rm_X7_run rm_X8_run [.int (xs 1), .int (xs 2), .int (xs 3), .int (xs 4)]) : ∃ h2 : rk_S, h2.length = 344 ∧ rk_sz h2 = 6106 ∧ rk_ev 2000 rm_L_law 332 [(3, .int (Int32.ofInt 0)), (2, .ref 316), (1, .ref 1), (0, .ref 0)] [] (rk_scr 5 xs :: rk_HM.tail) (some (.int 1), rk_scr 5 xs :: h2) := by
  obtain ⟨r, h1, h2, e1, e2, ⟨q, hq, hq8⟩, l1, l2⟩ := rk_ok3_of (List.mem_of_getElem? (i := 71) rfl) (List.mem_of_getElem? (i := 120) rfl) (by decide) (by decide) hk (rk_scr 5 xs)
  refine ⟨h2, l1, l2, ?_⟩
  obtain ⟨c0, hc⟩ : ∃ c0, c0 = rk_scr 5 xs := ⟨_, rfl⟩
  refine ev_go (pc' := 353) (lv' := [(3, .int (Int32.ofInt 0)), (2, .ref 316), (1, .ref 1), (0, .ref 0)]) (st' := [.int (xs 4), .int (xs 3), .int (xs 2), .int (xs 1), .ref 1]) (h' := rk_scr 5 xs :: rk_HM.tail) 21 rfl ?_
  refine ev_call (M' := rm_X7_run) (ar := ([.ref 1, .int (xs 1), .int (xs 2), .int (xs 3), .int (xs 4)], [])) (o' := (some (.int r), rk_scr 5 xs :: h1)) rfl rfl (by decide) (by decide) rfl rfl e1 ?_
  show rk_ev _ _ 356 [(3, .int (Int32.ofInt 0)), (2, .ref 316), (1, .ref 1), (0, .ref 0)] [.int r] (rk_scr 5 xs :: h1) _
  refine ev_go (pc' := 377) (lv' := [(3, .int (Int32.ofInt 0)), (2, .ref 316), (1, .ref 1), (0, .ref 0)]) (st' := [.int (xs 4), .int (xs 3), .int (xs 2), .int (xs 1), .ref 316, .int r]) (h' := rk_scr 5 xs :: h1) 21 rfl ?_
  refine ev_call (M' := rm_X8_run) (ar := ([.ref 316, .int (xs 1), .int (xs 2), .int (xs 3), .int (xs 4)], [.int r])) (o' := (some (.int r), rk_scr 5 xs :: h2)) rfl rfl (by decide) (by decide) rfl (rk_goV hq hq8 rfl rfl rfl rfl) e2 ?_
  show rk_ev _ _ 380 [(3, .int (Int32.ofInt 0)), (2, .ref 316), (1, .ref 1), (0, .ref 0)] [.int r, .int r] (rk_scr 5 xs :: h2) _
  refine ev_if2 (tg := 694) rfl rfl true (decide_eq_true rfl) ?_
  exact lw_exit xs h2
set_option maxRecDepth 100000 in
set_option maxHeartbeats 4000000 in
theorem lwc_9 (xs : Nat → Int32) (hk : rk_ok2 rm_X7_answer rm_X8_answer []) : ∃ h2 : rk_S, h2.length = 344 ∧ rk_sz h2 = 6106 ∧ rk_ev 2000 rm_L_law 385 [(3, .int (Int32.ofInt 0)), (2, .ref 316), (1, .ref 1), (0, .ref 0)] [] (rk_scr 5 xs :: rk_HM.tail) (some (.int 1), rk_scr 5 xs :: h2) := by
  obtain ⟨r, h1, h2, e1, e2, ⟨q, hq, hq8⟩, l1, l2⟩ := rk_ok3_of (List.mem_of_getElem? (i := 72) rfl) (List.mem_of_getElem? (i := 121) rfl) (by decide) (by decide) hk (rk_scr 5 xs)
  refine ⟨h2, l1, l2, ?_⟩
  obtain ⟨c0, hc⟩ : ∃ c0, c0 = rk_scr 5 xs := ⟨_, rfl⟩
  refine ev_go (pc' := 386) (lv' := [(3, .int (Int32.ofInt 0)), (2, .ref 316), (1, .ref 1), (0, .ref 0)]) (st' := [.ref 1]) (h' := rk_scr 5 xs :: rk_HM.tail) 1 rfl ?_
  refine ev_call (M' := rm_X7_answer) (ar := ([.ref 1], [])) (o' := (some (.int r), rk_scr 5 xs :: h1)) rfl rfl (by decide) (by decide) rfl rfl e1 ?_
  show rk_ev _ _ 389 [(3, .int (Int32.ofInt 0)), (2, .ref 316), (1, .ref 1), (0, .ref 0)] [.int r] (rk_scr 5 xs :: h1) _
  refine ev_go (pc' := 390) (lv' := [(3, .int (Int32.ofInt 0)), (2, .ref 316), (1, .ref 1), (0, .ref 0)]) (st' := [.ref 316, .int r]) (h' := rk_scr 5 xs :: h1) 1 rfl ?_
  refine ev_call (M' := rm_X8_answer) (ar := ([.ref 316], [.int r])) (o' := (some (.int r), rk_scr 5 xs :: h2)) rfl rfl (by decide) (by decide) rfl (rk_goV hq hq8 rfl rfl rfl rfl) e2 ?_
  show rk_ev _ _ 393 [(3, .int (Int32.ofInt 0)), (2, .ref 316), (1, .ref 1), (0, .ref 0)] [.int r, .int r] (rk_scr 5 xs :: h2) _
  refine ev_if2 (tg := 694) rfl rfl true (decide_eq_true rfl) ?_
  exact lw_exit xs h2
set_option maxRecDepth 100000 in
set_option maxHeartbeats 4000000 in
theorem lwc_10 (xs : Nat → Int32) (hk : rk_ok2 rm_X7_ran rm_X8_ran [.int (xs 1)]) : ∃ h2 : rk_S, h2.length = 344 ∧ rk_sz h2 = 6106 ∧ rk_ev 2000 rm_L_law 398 [(3, .int (Int32.ofInt 0)), (2, .ref 316), (1, .ref 1), (0, .ref 0)] [] (rk_scr 5 xs :: rk_HM.tail) (some (.int 1), rk_scr 5 xs :: h2) := by
  obtain ⟨r, h1, h2, e1, e2, ⟨q, hq, hq8⟩, l1, l2⟩ := rk_ok3_of (List.mem_of_getElem? (i := 73) rfl) (List.mem_of_getElem? (i := 122) rfl) (by decide) (by decide) hk (rk_scr 5 xs)
  refine ⟨h2, l1, l2, ?_⟩
  obtain ⟨c0, hc⟩ : ∃ c0, c0 = rk_scr 5 xs := ⟨_, rfl⟩
  refine ev_go (pc' := 404) (lv' := [(3, .int (Int32.ofInt 0)), (2, .ref 316), (1, .ref 1), (0, .ref 0)]) (st' := [.int (xs 1), .ref 1]) (h' := rk_scr 5 xs :: rk_HM.tail) 6 rfl ?_
  refine ev_call (M' := rm_X7_ran) (ar := ([.ref 1, .int (xs 1)], [])) (o' := (some (.int r), rk_scr 5 xs :: h1)) rfl rfl (by decide) (by decide) rfl rfl e1 ?_
  show rk_ev _ _ 407 [(3, .int (Int32.ofInt 0)), (2, .ref 316), (1, .ref 1), (0, .ref 0)] [.int r] (rk_scr 5 xs :: h1) _
  refine ev_go (pc' := 413) (lv' := [(3, .int (Int32.ofInt 0)), (2, .ref 316), (1, .ref 1), (0, .ref 0)]) (st' := [.int (xs 1), .ref 316, .int r]) (h' := rk_scr 5 xs :: h1) 6 rfl ?_
  refine ev_call (M' := rm_X8_ran) (ar := ([.ref 316, .int (xs 1)], [.int r])) (o' := (some (.int r), rk_scr 5 xs :: h2)) rfl rfl (by decide) (by decide) rfl (rk_goV hq hq8 rfl rfl rfl rfl) e2 ?_
  show rk_ev _ _ 416 [(3, .int (Int32.ofInt 0)), (2, .ref 316), (1, .ref 1), (0, .ref 0)] [.int r, .int r] (rk_scr 5 xs :: h2) _
  refine ev_if2 (tg := 694) rfl rfl true (decide_eq_true rfl) ?_
  exact lw_exit xs h2
set_option maxRecDepth 100000 in
set_option maxHeartbeats 4000000 in
theorem lwc_11z (xs : Nat → Int32) (hz : xs 2 = 0) (hk : rk_ok2 rm_X7_keep rm_X8_keep [.int (xs 1), .int (Int32.ofInt 0)]) : ∃ h2 : rk_S, h2.length = 344 ∧ rk_sz h2 = 6106 ∧ rk_ev 2000 rm_L_law 421 [(3, .int (Int32.ofInt 0)), (2, .ref 316), (1, .ref 1), (0, .ref 0)] [] (rk_scr 5 xs :: rk_HM.tail) (some (.int 1), rk_scr 5 xs :: h2) := by
  obtain ⟨r, h1, h2, e1, e2, ⟨q, hq, hq8⟩, l1, l2⟩ := rk_ok3_of (List.mem_of_getElem? (i := 74) rfl) (List.mem_of_getElem? (i := 123) rfl) (by decide) (by decide) hk (rk_scr 5 xs)
  refine ⟨h2, l1, l2, ?_⟩
  obtain ⟨c0, hc⟩ : ∃ c0, c0 = rk_scr 5 xs := ⟨_, rfl⟩
  refine ev_go (pc' := 432) (lv' := [(3, .int (Int32.ofInt 0)), (2, .ref 316), (1, .ref 1), (0, .ref 0)]) (st' := [.int (xs 2), .int (xs 1), .ref 1]) (h' := rk_scr 5 xs :: rk_HM.tail) 11 rfl ?_
  refine ev_if1 (tg := 439) rfl rfl true (decide_eq_true hz) ?_
  show rk_ev _ _ 439 _ _ _ _
  refine ev_go (pc' := 440) (lv' := [(3, .int (Int32.ofInt 0)), (2, .ref 316), (1, .ref 1), (0, .ref 0)]) (st' := [.int (Int32.ofInt 0), .int (xs 1), .ref 1]) (h' := rk_scr 5 xs :: rk_HM.tail) 1 rfl ?_
  refine ev_call (M' := rm_X7_keep) (ar := ([.ref 1, .int (xs 1), .int (Int32.ofInt 0)], [])) (o' := (some (.int r), rk_scr 5 xs :: h1)) rfl rfl (by decide) (by decide) rfl rfl e1 ?_
  show rk_ev _ _ 443 [(3, .int (Int32.ofInt 0)), (2, .ref 316), (1, .ref 1), (0, .ref 0)] [.int r] (rk_scr 5 xs :: h1) _
  refine ev_go (pc' := 454) (lv' := [(3, .int (Int32.ofInt 0)), (2, .ref 316), (1, .ref 1), (0, .ref 0)]) (st' := [.int (xs 2), .int (xs 1), .ref 316, .int r]) (h' := rk_scr 5 xs :: h1) 11 rfl ?_
  refine ev_if1 (tg := 461) rfl rfl true (decide_eq_true hz) ?_
  show rk_ev _ _ 461 _ _ _ _
  refine ev_go (pc' := 462) (lv' := [(3, .int (Int32.ofInt 0)), (2, .ref 316), (1, .ref 1), (0, .ref 0)]) (st' := [.int (Int32.ofInt 0), .int (xs 1), .ref 316, .int r]) (h' := rk_scr 5 xs :: h1) 1 rfl ?_
  refine ev_call (M' := rm_X8_keep) (ar := ([.ref 316, .int (xs 1), .int (Int32.ofInt 0)], [.int r])) (o' := (some (.int r), rk_scr 5 xs :: h2)) rfl rfl (by decide) (by decide) rfl (rk_goV hq hq8 rfl rfl rfl rfl) e2 ?_
  show rk_ev _ _ 465 [(3, .int (Int32.ofInt 0)), (2, .ref 316), (1, .ref 1), (0, .ref 0)] [.int r, .int r] (rk_scr 5 xs :: h2) _
  refine ev_if2 (tg := 694) rfl rfl true (decide_eq_true rfl) ?_
  exact lw_exit xs h2
set_option maxRecDepth 100000 in
set_option maxHeartbeats 4000000 in
theorem lwc_11n (xs : Nat → Int32) (hz : ¬ xs 2 = 0) (hk : rk_ok2 rm_X7_keep rm_X8_keep [.int (xs 1), .int (Int32.ofInt 1)]) : ∃ h2 : rk_S, h2.length = 344 ∧ rk_sz h2 = 6106 ∧ rk_ev 2000 rm_L_law 421 [(3, .int (Int32.ofInt 0)), (2, .ref 316), (1, .ref 1), (0, .ref 0)] [] (rk_scr 5 xs :: rk_HM.tail) (some (.int 1), rk_scr 5 xs :: h2) := by
  obtain ⟨r, h1, h2, e1, e2, ⟨q, hq, hq8⟩, l1, l2⟩ := rk_ok3_of (List.mem_of_getElem? (i := 74) rfl) (List.mem_of_getElem? (i := 123) rfl) (by decide) (by decide) hk (rk_scr 5 xs)
  refine ⟨h2, l1, l2, ?_⟩
  obtain ⟨c0, hc⟩ : ∃ c0, c0 = rk_scr 5 xs := ⟨_, rfl⟩
  refine ev_go (pc' := 432) (lv' := [(3, .int (Int32.ofInt 0)), (2, .ref 316), (1, .ref 1), (0, .ref 0)]) (st' := [.int (xs 2), .int (xs 1), .ref 1]) (h' := rk_scr 5 xs :: rk_HM.tail) 11 rfl ?_
  refine ev_if1 (tg := 439) rfl rfl false (decide_eq_false hz) ?_
  show rk_ev _ _ 435 _ _ _ _
  refine ev_go (pc' := 440) (lv' := [(3, .int (Int32.ofInt 0)), (2, .ref 316), (1, .ref 1), (0, .ref 0)]) (st' := [.int (Int32.ofInt 1), .int (xs 1), .ref 1]) (h' := rk_scr 5 xs :: rk_HM.tail) 2 rfl ?_
  refine ev_call (M' := rm_X7_keep) (ar := ([.ref 1, .int (xs 1), .int (Int32.ofInt 1)], [])) (o' := (some (.int r), rk_scr 5 xs :: h1)) rfl rfl (by decide) (by decide) rfl rfl e1 ?_
  show rk_ev _ _ 443 [(3, .int (Int32.ofInt 0)), (2, .ref 316), (1, .ref 1), (0, .ref 0)] [.int r] (rk_scr 5 xs :: h1) _
  refine ev_go (pc' := 454) (lv' := [(3, .int (Int32.ofInt 0)), (2, .ref 316), (1, .ref 1), (0, .ref 0)]) (st' := [.int (xs 2), .int (xs 1), .ref 316, .int r]) (h' := rk_scr 5 xs :: h1) 11 rfl ?_
  refine ev_if1 (tg := 461) rfl rfl false (decide_eq_false hz) ?_
  show rk_ev _ _ 457 _ _ _ _
  refine ev_go (pc' := 462) (lv' := [(3, .int (Int32.ofInt 0)), (2, .ref 316), (1, .ref 1), (0, .ref 0)]) (st' := [.int (Int32.ofInt 1), .int (xs 1), .ref 316, .int r]) (h' := rk_scr 5 xs :: h1) 2 rfl ?_
  refine ev_call (M' := rm_X8_keep) (ar := ([.ref 316, .int (xs 1), .int (Int32.ofInt 1)], [.int r])) (o' := (some (.int r), rk_scr 5 xs :: h2)) rfl rfl (by decide) (by decide) rfl (rk_goV hq hq8 rfl rfl rfl rfl) e2 ?_
  show rk_ev _ _ 465 [(3, .int (Int32.ofInt 0)), (2, .ref 316), (1, .ref 1), (0, .ref 0)] [.int r, .int r] (rk_scr 5 xs :: h2) _
  refine ev_if2 (tg := 694) rfl rfl true (decide_eq_true rfl) ?_
  exact lw_exit xs h2
set_option maxRecDepth 100000 in
set_option maxHeartbeats 4000000 in
theorem lwc_12 (xs : Nat → Int32) (hk : rk_ok2 rm_X7_room rm_X8_room [.int (xs 1), .int (xs 2)]) : ∃ h2 : rk_S, h2.length = 344 ∧ rk_sz h2 = 6106 ∧ rk_ev 2000 rm_L_law 470 [(3, .int (Int32.ofInt 0)), (2, .ref 316), (1, .ref 1), (0, .ref 0)] [] (rk_scr 5 xs :: rk_HM.tail) (some (.int 1), rk_scr 5 xs :: h2) := by
  obtain ⟨r, h1, h2, e1, e2, ⟨q, hq, hq8⟩, l1, l2⟩ := rk_ok3_of (List.mem_of_getElem? (i := 75) rfl) (List.mem_of_getElem? (i := 124) rfl) (by decide) (by decide) hk (rk_scr 5 xs)
  refine ⟨h2, l1, l2, ?_⟩
  obtain ⟨c0, hc⟩ : ∃ c0, c0 = rk_scr 5 xs := ⟨_, rfl⟩
  refine ev_go (pc' := 481) (lv' := [(3, .int (Int32.ofInt 0)), (2, .ref 316), (1, .ref 1), (0, .ref 0)]) (st' := [.int (xs 2), .int (xs 1), .ref 1]) (h' := rk_scr 5 xs :: rk_HM.tail) 11 rfl ?_
  refine ev_call (M' := rm_X7_room) (ar := ([.ref 1, .int (xs 1), .int (xs 2)], [])) (o' := (some (.int r), rk_scr 5 xs :: h1)) rfl rfl (by decide) (by decide) rfl rfl e1 ?_
  show rk_ev _ _ 484 [(3, .int (Int32.ofInt 0)), (2, .ref 316), (1, .ref 1), (0, .ref 0)] [.int r] (rk_scr 5 xs :: h1) _
  refine ev_go (pc' := 495) (lv' := [(3, .int (Int32.ofInt 0)), (2, .ref 316), (1, .ref 1), (0, .ref 0)]) (st' := [.int (xs 2), .int (xs 1), .ref 316, .int r]) (h' := rk_scr 5 xs :: h1) 11 rfl ?_
  refine ev_call (M' := rm_X8_room) (ar := ([.ref 316, .int (xs 1), .int (xs 2)], [.int r])) (o' := (some (.int r), rk_scr 5 xs :: h2)) rfl rfl (by decide) (by decide) rfl (rk_goV hq hq8 rfl rfl rfl rfl) e2 ?_
  show rk_ev _ _ 498 [(3, .int (Int32.ofInt 0)), (2, .ref 316), (1, .ref 1), (0, .ref 0)] [.int r, .int r] (rk_scr 5 xs :: h2) _
  refine ev_if2 (tg := 694) rfl rfl true (decide_eq_true rfl) ?_
  exact lw_exit xs h2
set_option maxRecDepth 100000 in
set_option maxHeartbeats 4000000 in
theorem lwc_13 (xs : Nat → Int32) (hk : rk_ok2 rm_X7_forget rm_X8_forget []) : ∃ h2 : rk_S, h2.length = 344 ∧ rk_sz h2 = 6106 ∧ rk_ev 2000 rm_L_law 503 [(3, .int (Int32.ofInt 0)), (2, .ref 316), (1, .ref 1), (0, .ref 0)] [] (rk_scr 5 xs :: rk_HM.tail) (some (.int 1), rk_scr 5 xs :: h2) := by
  obtain ⟨r, h1, h2, e1, e2, ⟨q, hq, hq8⟩, l1, l2⟩ := rk_ok3_of (List.mem_of_getElem? (i := 76) rfl) (List.mem_of_getElem? (i := 125) rfl) (by decide) (by decide) hk (rk_scr 5 xs)
  refine ⟨h2, l1, l2, ?_⟩
  obtain ⟨c0, hc⟩ : ∃ c0, c0 = rk_scr 5 xs := ⟨_, rfl⟩
  refine ev_go (pc' := 504) (lv' := [(3, .int (Int32.ofInt 0)), (2, .ref 316), (1, .ref 1), (0, .ref 0)]) (st' := [.ref 1]) (h' := rk_scr 5 xs :: rk_HM.tail) 1 rfl ?_
  refine ev_call (M' := rm_X7_forget) (ar := ([.ref 1], [])) (o' := (some (.int r), rk_scr 5 xs :: h1)) rfl rfl (by decide) (by decide) rfl rfl e1 ?_
  show rk_ev _ _ 507 [(3, .int (Int32.ofInt 0)), (2, .ref 316), (1, .ref 1), (0, .ref 0)] [.int r] (rk_scr 5 xs :: h1) _
  refine ev_go (pc' := 508) (lv' := [(3, .int (Int32.ofInt 0)), (2, .ref 316), (1, .ref 1), (0, .ref 0)]) (st' := [.ref 316, .int r]) (h' := rk_scr 5 xs :: h1) 1 rfl ?_
  refine ev_call (M' := rm_X8_forget) (ar := ([.ref 316], [.int r])) (o' := (some (.int r), rk_scr 5 xs :: h2)) rfl rfl (by decide) (by decide) rfl (rk_goV hq hq8 rfl rfl rfl rfl) e2 ?_
  show rk_ev _ _ 511 [(3, .int (Int32.ofInt 0)), (2, .ref 316), (1, .ref 1), (0, .ref 0)] [.int r, .int r] (rk_scr 5 xs :: h2) _
  refine ev_if2 (tg := 694) rfl rfl true (decide_eq_true rfl) ?_
  exact lw_exit xs h2
set_option maxRecDepth 100000 in
set_option maxHeartbeats 4000000 in
theorem lwc_14 (xs : Nat → Int32) (hk : rk_ok2 rm_X7_kept rm_X8_kept [.int (xs 1), .int (xs 2)]) : ∃ h2 : rk_S, h2.length = 344 ∧ rk_sz h2 = 6106 ∧ rk_ev 2000 rm_L_law 516 [(3, .int (Int32.ofInt 0)), (2, .ref 316), (1, .ref 1), (0, .ref 0)] [] (rk_scr 5 xs :: rk_HM.tail) (some (.int 1), rk_scr 5 xs :: h2) := by
  obtain ⟨r, h1, h2, e1, e2, ⟨q, hq, hq8⟩, l1, l2⟩ := rk_ok3_of (List.mem_of_getElem? (i := 77) rfl) (List.mem_of_getElem? (i := 126) rfl) (by decide) (by decide) hk (rk_scr 5 xs)
  refine ⟨h2, l1, l2, ?_⟩
  obtain ⟨c0, hc⟩ : ∃ c0, c0 = rk_scr 5 xs := ⟨_, rfl⟩
  refine ev_go (pc' := 527) (lv' := [(3, .int (Int32.ofInt 0)), (2, .ref 316), (1, .ref 1), (0, .ref 0)]) (st' := [.int (xs 2), .int (xs 1), .ref 1]) (h' := rk_scr 5 xs :: rk_HM.tail) 11 rfl ?_
  refine ev_call (M' := rm_X7_kept) (ar := ([.ref 1, .int (xs 1), .int (xs 2)], [])) (o' := (some (.int r), rk_scr 5 xs :: h1)) rfl rfl (by decide) (by decide) rfl rfl e1 ?_
  show rk_ev _ _ 530 [(3, .int (Int32.ofInt 0)), (2, .ref 316), (1, .ref 1), (0, .ref 0)] [.int r] (rk_scr 5 xs :: h1) _
  refine ev_go (pc' := 541) (lv' := [(3, .int (Int32.ofInt 0)), (2, .ref 316), (1, .ref 1), (0, .ref 0)]) (st' := [.int (xs 2), .int (xs 1), .ref 316, .int r]) (h' := rk_scr 5 xs :: h1) 11 rfl ?_
  refine ev_call (M' := rm_X8_kept) (ar := ([.ref 316, .int (xs 1), .int (xs 2)], [.int r])) (o' := (some (.int r), rk_scr 5 xs :: h2)) rfl rfl (by decide) (by decide) rfl (rk_goV hq hq8 rfl rfl rfl rfl) e2 ?_
  show rk_ev _ _ 544 [(3, .int (Int32.ofInt 0)), (2, .ref 316), (1, .ref 1), (0, .ref 0)] [.int r, .int r] (rk_scr 5 xs :: h2) _
  refine ev_if2 (tg := 694) rfl rfl true (decide_eq_true rfl) ?_
  exact lw_exit xs h2
set_option maxRecDepth 100000 in
set_option maxHeartbeats 4000000 in
theorem lwc_15 (xs : Nat → Int32) (hk : rk_ok2 rm_X7_log rm_X8_log [.int (xs 1), .int (xs 2), .int (xs 3), .int (xs 4)]) : ∃ h2 : rk_S, h2.length = 344 ∧ rk_sz h2 = 6106 ∧ rk_ev 2000 rm_L_law 549 [(3, .int (Int32.ofInt 0)), (2, .ref 316), (1, .ref 1), (0, .ref 0)] [] (rk_scr 5 xs :: rk_HM.tail) (some (.int 1), rk_scr 5 xs :: h2) := by
  obtain ⟨r, h1, h2, e1, e2, ⟨q, hq, hq8⟩, l1, l2⟩ := rk_ok3_of (List.mem_of_getElem? (i := 78) rfl) (List.mem_of_getElem? (i := 127) rfl) (by decide) (by decide) hk (rk_scr 5 xs)
  refine ⟨h2, l1, l2, ?_⟩
  obtain ⟨c0, hc⟩ : ∃ c0, c0 = rk_scr 5 xs := ⟨_, rfl⟩
  refine ev_go (pc' := 570) (lv' := [(3, .int (Int32.ofInt 0)), (2, .ref 316), (1, .ref 1), (0, .ref 0)]) (st' := [.int (xs 4), .int (xs 3), .int (xs 2), .int (xs 1), .ref 1]) (h' := rk_scr 5 xs :: rk_HM.tail) 21 rfl ?_
  refine ev_call (M' := rm_X7_log) (ar := ([.ref 1, .int (xs 1), .int (xs 2), .int (xs 3), .int (xs 4)], [])) (o' := (some (.int r), rk_scr 5 xs :: h1)) rfl rfl (by decide) (by decide) rfl rfl e1 ?_
  show rk_ev _ _ 573 [(3, .int (Int32.ofInt 0)), (2, .ref 316), (1, .ref 1), (0, .ref 0)] [.int r] (rk_scr 5 xs :: h1) _
  refine ev_go (pc' := 594) (lv' := [(3, .int (Int32.ofInt 0)), (2, .ref 316), (1, .ref 1), (0, .ref 0)]) (st' := [.int (xs 4), .int (xs 3), .int (xs 2), .int (xs 1), .ref 316, .int r]) (h' := rk_scr 5 xs :: h1) 21 rfl ?_
  refine ev_call (M' := rm_X8_log) (ar := ([.ref 316, .int (xs 1), .int (xs 2), .int (xs 3), .int (xs 4)], [.int r])) (o' := (some (.int r), rk_scr 5 xs :: h2)) rfl rfl (by decide) (by decide) rfl (rk_goV hq hq8 rfl rfl rfl rfl) e2 ?_
  show rk_ev _ _ 597 [(3, .int (Int32.ofInt 0)), (2, .ref 316), (1, .ref 1), (0, .ref 0)] [.int r, .int r] (rk_scr 5 xs :: h2) _
  refine ev_if2 (tg := 694) rfl rfl true (decide_eq_true rfl) ?_
  exact lw_exit xs h2
set_option maxRecDepth 100000 in
set_option maxHeartbeats 4000000 in
theorem lwc_16 (xs : Nat → Int32) (hk : rk_ok2 rm_X7_clear rm_X8_clear []) : ∃ h2 : rk_S, h2.length = 344 ∧ rk_sz h2 = 6106 ∧ rk_ev 2000 rm_L_law 602 [(3, .int (Int32.ofInt 0)), (2, .ref 316), (1, .ref 1), (0, .ref 0)] [] (rk_scr 5 xs :: rk_HM.tail) (some (.int 1), rk_scr 5 xs :: h2) := by
  obtain ⟨r, h1, h2, e1, e2, ⟨q, hq, hq8⟩, l1, l2⟩ := rk_ok3_of (List.mem_of_getElem? (i := 79) rfl) (List.mem_of_getElem? (i := 128) rfl) (by decide) (by decide) hk (rk_scr 5 xs)
  refine ⟨h2, l1, l2, ?_⟩
  obtain ⟨c0, hc⟩ : ∃ c0, c0 = rk_scr 5 xs := ⟨_, rfl⟩
  refine ev_go (pc' := 603) (lv' := [(3, .int (Int32.ofInt 0)), (2, .ref 316), (1, .ref 1), (0, .ref 0)]) (st' := [.ref 1]) (h' := rk_scr 5 xs :: rk_HM.tail) 1 rfl ?_
  refine ev_call (M' := rm_X7_clear) (ar := ([.ref 1], [])) (o' := (some (.int r), rk_scr 5 xs :: h1)) rfl rfl (by decide) (by decide) rfl rfl e1 ?_
  show rk_ev _ _ 606 [(3, .int (Int32.ofInt 0)), (2, .ref 316), (1, .ref 1), (0, .ref 0)] [.int r] (rk_scr 5 xs :: h1) _
  refine ev_go (pc' := 607) (lv' := [(3, .int (Int32.ofInt 0)), (2, .ref 316), (1, .ref 1), (0, .ref 0)]) (st' := [.ref 316, .int r]) (h' := rk_scr 5 xs :: h1) 1 rfl ?_
  refine ev_call (M' := rm_X8_clear) (ar := ([.ref 316], [.int r])) (o' := (some (.int r), rk_scr 5 xs :: h2)) rfl rfl (by decide) (by decide) rfl (rk_goV hq hq8 rfl rfl rfl rfl) e2 ?_
  show rk_ev _ _ 610 [(3, .int (Int32.ofInt 0)), (2, .ref 316), (1, .ref 1), (0, .ref 0)] [.int r, .int r] (rk_scr 5 xs :: h2) _
  refine ev_if2 (tg := 694) rfl rfl true (decide_eq_true rfl) ?_
  exact lw_exit xs h2
set_option maxRecDepth 100000 in
set_option maxHeartbeats 4000000 in
theorem lwc_17 (xs : Nat → Int32) (hk : rk_ok2 rm_X7_cost rm_X8_cost [.int (xs 1), .int (xs 2)]) : ∃ h2 : rk_S, h2.length = 344 ∧ rk_sz h2 = 6106 ∧ rk_ev 2000 rm_L_law 615 [(3, .int (Int32.ofInt 0)), (2, .ref 316), (1, .ref 1), (0, .ref 0)] [] (rk_scr 5 xs :: rk_HM.tail) (some (.int 1), rk_scr 5 xs :: h2) := by
  obtain ⟨r, h1, h2, e1, e2, ⟨q, hq, hq8⟩, l1, l2⟩ := rk_ok3_of (List.mem_of_getElem? (i := 80) rfl) (List.mem_of_getElem? (i := 131) rfl) (by decide) (by decide) hk (rk_scr 5 xs)
  refine ⟨h2, l1, l2, ?_⟩
  obtain ⟨c0, hc⟩ : ∃ c0, c0 = rk_scr 5 xs := ⟨_, rfl⟩
  refine ev_go (pc' := 626) (lv' := [(3, .int (Int32.ofInt 0)), (2, .ref 316), (1, .ref 1), (0, .ref 0)]) (st' := [.int (xs 2), .int (xs 1), .ref 1]) (h' := rk_scr 5 xs :: rk_HM.tail) 11 rfl ?_
  refine ev_call (M' := rm_X7_cost) (ar := ([.ref 1, .int (xs 1), .int (xs 2)], [])) (o' := (some (.int r), rk_scr 5 xs :: h1)) rfl rfl (by decide) (by decide) rfl rfl e1 ?_
  show rk_ev _ _ 629 [(3, .int (Int32.ofInt 0)), (2, .ref 316), (1, .ref 1), (0, .ref 0)] [.int r] (rk_scr 5 xs :: h1) _
  refine ev_go (pc' := 640) (lv' := [(3, .int (Int32.ofInt 0)), (2, .ref 316), (1, .ref 1), (0, .ref 0)]) (st' := [.int (xs 2), .int (xs 1), .ref 316, .int r]) (h' := rk_scr 5 xs :: h1) 11 rfl ?_
  refine ev_call (M' := rm_X8_cost) (ar := ([.ref 316, .int (xs 1), .int (xs 2)], [.int r])) (o' := (some (.int r), rk_scr 5 xs :: h2)) rfl rfl (by decide) (by decide) rfl (rk_goV hq hq8 rfl rfl rfl rfl) e2 ?_
  show rk_ev _ _ 643 [(3, .int (Int32.ofInt 0)), (2, .ref 316), (1, .ref 1), (0, .ref 0)] [.int r, .int r] (rk_scr 5 xs :: h2) _
  refine ev_if2 (tg := 694) rfl rfl true (decide_eq_true rfl) ?_
  exact lw_exit xs h2
set_option maxRecDepth 100000 in
set_option maxHeartbeats 4000000 in
theorem lwc_18 (xs : Nat → Int32) (hk : rk_ok2 rm_X7_best rm_X8_best [.int (xs 1)]) : ∃ h2 : rk_S, h2.length = 344 ∧ rk_sz h2 = 6106 ∧ rk_ev 2000 rm_L_law 648 [(3, .int (Int32.ofInt 0)), (2, .ref 316), (1, .ref 1), (0, .ref 0)] [] (rk_scr 5 xs :: rk_HM.tail) (some (.int 1), rk_scr 5 xs :: h2) := by
  obtain ⟨r, h1, h2, e1, e2, ⟨q, hq, hq8⟩, l1, l2⟩ := rk_ok3_of (List.mem_of_getElem? (i := 81) rfl) (List.mem_of_getElem? (i := 133) rfl) (by decide) (by decide) hk (rk_scr 5 xs)
  refine ⟨h2, l1, l2, ?_⟩
  obtain ⟨c0, hc⟩ : ∃ c0, c0 = rk_scr 5 xs := ⟨_, rfl⟩
  refine ev_go (pc' := 654) (lv' := [(3, .int (Int32.ofInt 0)), (2, .ref 316), (1, .ref 1), (0, .ref 0)]) (st' := [.int (xs 1), .ref 1]) (h' := rk_scr 5 xs :: rk_HM.tail) 6 rfl ?_
  refine ev_call (M' := rm_X7_best) (ar := ([.ref 1, .int (xs 1)], [])) (o' := (some (.int r), rk_scr 5 xs :: h1)) rfl rfl (by decide) (by decide) rfl rfl e1 ?_
  show rk_ev _ _ 657 [(3, .int (Int32.ofInt 0)), (2, .ref 316), (1, .ref 1), (0, .ref 0)] [.int r] (rk_scr 5 xs :: h1) _
  refine ev_go (pc' := 663) (lv' := [(3, .int (Int32.ofInt 0)), (2, .ref 316), (1, .ref 1), (0, .ref 0)]) (st' := [.int (xs 1), .ref 316, .int r]) (h' := rk_scr 5 xs :: h1) 6 rfl ?_
  refine ev_call (M' := rm_X8_best) (ar := ([.ref 316, .int (xs 1)], [.int r])) (o' := (some (.int r), rk_scr 5 xs :: h2)) rfl rfl (by decide) (by decide) rfl (rk_goV hq hq8 rfl rfl rfl rfl) e2 ?_
  show rk_ev _ _ 666 [(3, .int (Int32.ofInt 0)), (2, .ref 316), (1, .ref 1), (0, .ref 0)] [.int r, .int r] (rk_scr 5 xs :: h2) _
  refine ev_if2 (tg := 694) rfl rfl true (decide_eq_true rfl) ?_
  exact lw_exit xs h2
set_option maxRecDepth 100000 in
set_option maxHeartbeats 4000000 in
theorem lwc_19 (xs : Nat → Int32) (hk : rk_ok2 rm_X7_told rm_X8_told [.int (xs 1)]) : ∃ h2 : rk_S, h2.length = 344 ∧ rk_sz h2 = 6106 ∧ rk_ev 2000 rm_L_law 671 [(3, .int (Int32.ofInt 0)), (2, .ref 316), (1, .ref 1), (0, .ref 0)] [] (rk_scr 5 xs :: rk_HM.tail) (some (.int 1), rk_scr 5 xs :: h2) := by
  obtain ⟨r, h1, h2, e1, e2, ⟨q, hq, hq8⟩, l1, l2⟩ := rk_ok3_of (List.mem_of_getElem? (i := 82) rfl) (List.mem_of_getElem? (i := 134) rfl) (by decide) (by decide) hk (rk_scr 5 xs)
  refine ⟨h2, l1, l2, ?_⟩
  obtain ⟨c0, hc⟩ : ∃ c0, c0 = rk_scr 5 xs := ⟨_, rfl⟩
  refine ev_go (pc' := 677) (lv' := [(3, .int (Int32.ofInt 0)), (2, .ref 316), (1, .ref 1), (0, .ref 0)]) (st' := [.int (xs 1), .ref 1]) (h' := rk_scr 5 xs :: rk_HM.tail) 6 rfl ?_
  refine ev_call (M' := rm_X7_told) (ar := ([.ref 1, .int (xs 1)], [])) (o' := (some (.int r), rk_scr 5 xs :: h1)) rfl rfl (by decide) (by decide) rfl rfl e1 ?_
  show rk_ev _ _ 680 [(3, .int (Int32.ofInt 0)), (2, .ref 316), (1, .ref 1), (0, .ref 0)] [.int r] (rk_scr 5 xs :: h1) _
  refine ev_go (pc' := 686) (lv' := [(3, .int (Int32.ofInt 0)), (2, .ref 316), (1, .ref 1), (0, .ref 0)]) (st' := [.int (xs 1), .ref 316, .int r]) (h' := rk_scr 5 xs :: h1) 6 rfl ?_
  refine ev_call (M' := rm_X8_told) (ar := ([.ref 316, .int (xs 1)], [.int r])) (o' := (some (.int r), rk_scr 5 xs :: h2)) rfl rfl (by decide) (by decide) rfl (rk_goV hq hq8 rfl rfl rfl rfl) e2 ?_
  show rk_ev _ _ 689 [(3, .int (Int32.ofInt 0)), (2, .ref 316), (1, .ref 1), (0, .ref 0)] [.int r, .int r] (rk_scr 5 xs :: h2) _
  refine ev_if2 (tg := 694) rfl rfl true (decide_eq_true rfl) ?_
  exact lw_exit xs h2
