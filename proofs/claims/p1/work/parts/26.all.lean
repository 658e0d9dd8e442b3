theorem ok_code (a b : Int32) : rk_ok2 rm_X7_code rm_X8_code [.int a, .int b] := by
  rcases Int.lt_or_le a.toInt 0 with h | h
  · exact cs_code_n a b h
  · exact cs_code_p a b h
theorem ok_codeAt (a b : Int32) : rk_ok2 rm_X7_codeAt rm_X8_codeAt [.int a, .int b] := by
  rcases Int.lt_or_le a.toInt 0 with h | h
  · exact cs_codeAt_n a b h
  · exact cs_codeAt_p a b h
theorem ok_acting (a : Int32) : rk_ok2 rm_X7_acting rm_X8_acting [.int a] := by
  rcases Int.lt_or_le a.toInt 0 with h | h
  · exact cs_acting_n a h
  · exact cs_acting_p a h
theorem ok_reads (a : Int32) : rk_ok2 rm_X7_reads rm_X8_reads [.int a] := by
  rcases Int.lt_or_le a.toInt 0 with h | h
  · exact cs_reads_n a h
  · exact cs_reads_p a h
theorem ok_run (a b c e : Int32) : rk_ok2 rm_X7_run rm_X8_run [.int a, .int b, .int c, .int e] := by
  rcases Int.lt_or_le a.toInt 0 with h | h
  · exact cs_run_n a b c e h
  · exact cs_run_p a b c e h
theorem ok_log (a b c e : Int32) : rk_ok2 rm_X7_log rm_X8_log [.int a, .int b, .int c, .int e] := by
  rcases Int.lt_or_le a.toInt 0 with h | h
  · exact cs_log_n a b c e h
  · exact cs_log_p a b c e h
theorem ok_kept (a b : Int32) : rk_ok2 rm_X7_kept rm_X8_kept [.int a, .int b] := by
  rcases Int.lt_or_le a.toInt 0 with h | h
  · exact cs_kept_n a b h
  · exact cs_kept_p a b h
theorem ok_keep0 (a : Int32) : rk_ok2 rm_X7_keep rm_X8_keep [.int a, .int (Int32.ofInt 0)] := by
  rw [show (Int32.ofInt 0) = 0 by decide]
  rcases Int.lt_or_le a.toInt 0 with h | h
  · exact cs_keep0_n a h
  · exact cs_keep0_p a h
theorem ok_keep1 (a : Int32) : rk_ok2 rm_X7_keep rm_X8_keep [.int a, .int (Int32.ofInt 1)] := by
  rw [show (Int32.ofInt 1) = 1 by decide]
  rcases Int.lt_or_le a.toInt 0 with h | h
  · exact cs_keep1_n a h
  · exact cs_keep1_p a h
theorem ok_held (a : Int32) : rk_ok2 rm_X7_held rm_X8_held [.int a] := by
  rcases Int.lt_or_le a.toInt 0 with h | h
  · exact cs_held_n a h
  rcases Int.lt_or_le a.toInt 16 with g | g
  · obtain ⟨j, hj, rfl⟩ := vp_in_of (vp_in_iff.mpr ⟨h, g⟩ : vp_in a 16) (by decide)
    exact rk_chk_ok (ck_held j hj)
  · exact cs_held_p a g
theorem ok_ran (a : Int32) : rk_ok2 rm_X7_ran rm_X8_ran [.int a] := by
  rcases Int.lt_or_le a.toInt 0 with h | h
  · exact cs_ran_n a h
  rcases Int.lt_or_le a.toInt 5 with g | g
  · obtain ⟨j, hj, rfl⟩ := vp_in_of (vp_in_iff.mpr ⟨h, g⟩ : vp_in a 5) (by decide)
    exact rk_chk_ok (ck_ran j hj)
  · exact cs_ran_p a g
theorem ok_told (a : Int32) : rk_ok2 rm_X7_told rm_X8_told [.int a] := by
  rcases Int.lt_or_le a.toInt 0 with h | h
  · exact cs_told_n a h
  rcases Int.lt_or_le a.toInt 7 with g | g
  · obtain ⟨j, hj, rfl⟩ := vp_in_of (vp_in_iff.mpr ⟨h, g⟩ : vp_in a 7) (by decide)
    exact rk_chk_ok (ck_told j hj)
  · exact cs_told_p a g
theorem ok_best (a : Int32) : rk_ok2 rm_X7_best rm_X8_best [.int a] := by
  rcases Int.lt_or_le a.toInt 0 with h | h
  · exact cs_best_n a h
  rcases Int.lt_or_le a.toInt 33 with g | g
  · obtain ⟨j, hj, rfl⟩ := vp_in_of (vp_in_iff.mpr ⟨h, g⟩ : vp_in a 33) (by decide)
    exact rk_chk_ok (ck_best j hj)
  · exact cs_best_p a g
theorem ok_store (a b : Int32) : rk_ok2 rm_X7_store rm_X8_store [.int a, .int b] := by
  rcases Int.lt_or_le a.toInt 0 with h | h
  · exact cs_store_n a b h
  rcases Int.lt_or_le a.toInt 16 with g | g
  · obtain ⟨j, hj, rfl⟩ := vp_in_of (vp_in_iff.mpr ⟨h, g⟩ : vp_in a 16) (by decide)
    match j, hj with
    | 0, _ => exact cs_store_0 b
    | 1, _ => exact cs_store_1 b
    | 2, _ => exact cs_store_2 b
    | 3, _ => exact cs_store_3 b
    | 4, _ => exact cs_store_4 b
    | 5, _ => exact cs_store_5 b
    | 6, _ => exact cs_store_6 b
    | 7, _ => exact cs_store_7 b
    | 8, _ => exact cs_store_8 b
    | 9, _ => exact cs_store_9 b
    | 10, _ => exact cs_store_10 b
    | 11, _ => exact cs_store_11 b
    | 12, _ => exact cs_store_12 b
    | 13, _ => exact cs_store_13 b
    | 14, _ => exact cs_store_14 b
    | 15, _ => exact cs_store_15 b
    | _ + 16, hj => exact absurd hj (by omega)
  · exact cs_store_p a b g
theorem ok_room (a b : Int32) : rk_ok2 rm_X7_room rm_X8_room [.int a, .int b] := by
  rcases Int.lt_or_le a.toInt 0 with h | h
  · exact cs_room_n a b h
  rcases Int.lt_or_le a.toInt 33 with g | g
  · rcases Int.lt_or_le b.toInt 0 with h2 | h2
    · exact cs_room_rn a b h (by omega) h2
    rcases Int.lt_or_le b.toInt 3 with g2 | g2
    · obtain ⟨j, hj, rfl⟩ := vp_in_of (vp_in_iff.mpr ⟨h, g⟩ : vp_in a 33) (by decide)
      obtain ⟨k, hk, rfl⟩ := vp_in_of (vp_in_iff.mpr ⟨h2, g2⟩ : vp_in b 3) (by decide)
      exact rk_chk_ok (ck_room j hj k hk)
    · exact cs_room_rp a b h (by omega) g2
  · exact cs_room_p a b g
theorem ok_cost (b a : Int32) : rk_ok2 rm_X7_cost rm_X8_cost [.int b, .int a] := by
  rcases Int.lt_or_le a.toInt 0 with h | h
  · exact cs_cost_n a b h
  rcases Int.lt_or_le a.toInt 33 with g | g
  · exact cs_cost a b h (by omega)
  · exact cs_cost_p a b g
theorem rk_tl : rk_HM.tail.length = 344 ∧ rk_sz rk_HM.tail = 6106 := by
  have h1 := rk_HX_l.2.1
  have h2 := rk_HX_l.2.2
  have e : rk_HM = rk_x :: rk_HM.tail := rfl
  rw [e, List.length_cons] at h1
  rw [e, rk_sz_cons] at h2
  exact ⟨by omega, by simpa using h2⟩
theorem rk_bounds {L : Nat} (hL : L ≤ 5) (xs : Nat → Int32) {h : rk_S} (h1 : h.length = 344) (h2 : rk_sz h = 6106) : (rk_scr L xs :: h).length ≤ 600000 ∧ rk_sz (rk_scr L xs :: h) ≤ 7302250 := by
  rw [List.length_cons, rk_sz_cons, h1, h2]
  simp [rk_scr]
  omega
set_option maxRecDepth 100000 in
set_option maxHeartbeats 4000000 in
theorem lw_turn (xs : Nat → Int32) : ∀ j, j < 32 → ∃ h2 : rk_S, h2.length = 344 ∧ rk_sz h2 = 6106 ∧ rk_ev 2000 rm_L_law 32 [(3, .int (Int32.ofInt 0)), (2, .ref 316), (1, .ref 1), (0, .ref 0)] [.int (nI j)] (rk_scr 5 xs :: rk_HM.tail) (some (.int 1), rk_scr 5 xs :: h2)
  | 0, _ => by
    obtain ⟨h2, l1, l2, e⟩ := lwc_0 xs (rk_chk_ok ck_0.1)
    exact ⟨h2, l1, l2, ev_swi (tg := 128) (off := 96) rfl (by decide +kernel) (by decide +kernel) rfl e⟩
  | 1, _ => by
    obtain ⟨h2, l1, l2, e⟩ := lwc_1 xs (ok_code _ _)
    exact ⟨h2, l1, l2, ev_swi (tg := 141) (off := 109) rfl (by decide +kernel) (by decide +kernel) rfl e⟩
  | 2, _ => by
    obtain ⟨h2, l1, l2, e⟩ := lwc_2 xs (ok_codeAt _ _)
    exact ⟨h2, l1, l2, ev_swi (tg := 174) (off := 142) rfl (by decide +kernel) (by decide +kernel) rfl e⟩
  | 3, _ => by
    obtain ⟨h2, l1, l2, e⟩ := lwc_3 xs (ok_store _ _)
    exact ⟨h2, l1, l2, ev_swi (tg := 207) (off := 175) rfl (by decide +kernel) (by decide +kernel) rfl e⟩
  | 4, _ => by
    obtain ⟨h2, l1, l2, e⟩ := lwc_4 xs (ok_held _)
    exact ⟨h2, l1, l2, ev_swi (tg := 240) (off := 208) rfl (by decide +kernel) (by decide +kernel) rfl e⟩
  | 5, _ => by
    obtain ⟨h2, l1, l2, e⟩ := lwc_5 xs (cs_lot _)
    exact ⟨h2, l1, l2, ev_swi (tg := 263) (off := 231) rfl (by decide +kernel) (by decide +kernel) rfl e⟩
  | 6, _ => by
    obtain ⟨h2, l1, l2, e⟩ := lwc_6 xs (ok_acting _)
    exact ⟨h2, l1, l2, ev_swi (tg := 286) (off := 254) rfl (by decide +kernel) (by decide +kernel) rfl e⟩
  | 7, _ => by
    obtain ⟨h2, l1, l2, e⟩ := lwc_7 xs (ok_reads _)
    exact ⟨h2, l1, l2, ev_swi (tg := 309) (off := 277) rfl (by decide +kernel) (by decide +kernel) rfl e⟩
  | 8, _ => by
    obtain ⟨h2, l1, l2, e⟩ := lwc_8 xs (ok_run _ _ _ _)
    exact ⟨h2, l1, l2, ev_swi (tg := 332) (off := 300) rfl (by decide +kernel) (by decide +kernel) rfl e⟩
  | 9, _ => by
    obtain ⟨h2, l1, l2, e⟩ := lwc_9 xs (rk_chk_ok ck_0.2.1)
    exact ⟨h2, l1, l2, ev_swi (tg := 385) (off := 353) rfl (by decide +kernel) (by decide +kernel) rfl e⟩
  | 10, _ => by
    obtain ⟨h2, l1, l2, e⟩ := lwc_10 xs (ok_ran _)
    exact ⟨h2, l1, l2, ev_swi (tg := 398) (off := 366) rfl (by decide +kernel) (by decide +kernel) rfl e⟩
  | 11, _ => by
    by_cases hz : xs 2 = 0
    · obtain ⟨h2, l1, l2, e⟩ := lwc_11z xs hz (ok_keep0 _)
      exact ⟨h2, l1, l2, ev_swi (tg := 421) (off := 389) rfl (by decide +kernel) (by decide +kernel) rfl e⟩
    · obtain ⟨h2, l1, l2, e⟩ := lwc_11n xs hz (ok_keep1 _)
      exact ⟨h2, l1, l2, ev_swi (tg := 421) (off := 389) rfl (by decide +kernel) (by decide +kernel) rfl e⟩
  | 12, _ => by
    obtain ⟨h2, l1, l2, e⟩ := lwc_12 xs (ok_room _ _)
    exact ⟨h2, l1, l2, ev_swi (tg := 470) (off := 438) rfl (by decide +kernel) (by decide +kernel) rfl e⟩
  | 13, _ => by
    obtain ⟨h2, l1, l2, e⟩ := lwc_13 xs (rk_chk_ok ck_0.2.2.1)
    exact ⟨h2, l1, l2, ev_swi (tg := 503) (off := 471) rfl (by decide +kernel) (by decide +kernel) rfl e⟩
  | 14, _ => by
    obtain ⟨h2, l1, l2, e⟩ := lwc_14 xs (ok_kept _ _)
    exact ⟨h2, l1, l2, ev_swi (tg := 516) (off := 484) rfl (by decide +kernel) (by decide +kernel) rfl e⟩
  | 15, _ => by
    obtain ⟨h2, l1, l2, e⟩ := lwc_15 xs (ok_log _ _ _ _)
    exact ⟨h2, l1, l2, ev_swi (tg := 549) (off := 517) rfl (by decide +kernel) (by decide +kernel) rfl e⟩
  | 16, _ => by
    obtain ⟨h2, l1, l2, e⟩ := lwc_16 xs (rk_chk_ok ck_0.2.2.2)
    exact ⟨h2, l1, l2, ev_swi (tg := 602) (off := 570) rfl (by decide +kernel) (by decide +kernel) rfl e⟩
  | 17, _ => by
    obtain ⟨h2, l1, l2, e⟩ := lwc_17 xs (ok_cost _ _)
    exact ⟨h2, l1, l2, ev_swi (tg := 615) (off := 583) rfl (by decide +kernel) (by decide +kernel) rfl e⟩
  | 18, _ => by
    obtain ⟨h2, l1, l2, e⟩ := lwc_18 xs (ok_best _)
    exact ⟨h2, l1, l2, ev_swi (tg := 648) (off := 616) rfl (by decide +kernel) (by decide +kernel) rfl e⟩
  | 19, _ => by
    obtain ⟨h2, l1, l2, e⟩ := lwc_19 xs (ok_told _)
    exact ⟨h2, l1, l2, ev_swi (tg := 671) (off := 639) rfl (by decide +kernel) (by decide +kernel) rfl e⟩
  | 20, _ => ⟨_, rk_tl.1, rk_tl.2, ev_swo (tg := 694) rfl (by decide +kernel) rfl (lw_exit xs _)⟩
  | 21, _ => ⟨_, rk_tl.1, rk_tl.2, ev_swo (tg := 694) rfl (by decide +kernel) rfl (lw_exit xs _)⟩
  | 22, _ => ⟨_, rk_tl.1, rk_tl.2, ev_swo (tg := 694) rfl (by decide +kernel) rfl (lw_exit xs _)⟩
  | 23, _ => ⟨_, rk_tl.1, rk_tl.2, ev_swo (tg := 694) rfl (by decide +kernel) rfl (lw_exit xs _)⟩
  | 24, _ => ⟨_, rk_tl.1, rk_tl.2, ev_swo (tg := 694) rfl (by decide +kernel) rfl (lw_exit xs _)⟩
  | 25, _ => ⟨_, rk_tl.1, rk_tl.2, ev_swo (tg := 694) rfl (by decide +kernel) rfl (lw_exit xs _)⟩
  | 26, _ => ⟨_, rk_tl.1, rk_tl.2, ev_swo (tg := 694) rfl (by decide +kernel) rfl (lw_exit xs _)⟩
  | 27, _ => ⟨_, rk_tl.1, rk_tl.2, ev_swo (tg := 694) rfl (by decide +kernel) rfl (lw_exit xs _)⟩
  | 28, _ => ⟨_, rk_tl.1, rk_tl.2, ev_swo (tg := 694) rfl (by decide +kernel) rfl (lw_exit xs _)⟩
  | 29, _ => ⟨_, rk_tl.1, rk_tl.2, ev_swo (tg := 694) rfl (by decide +kernel) rfl (lw_exit xs _)⟩
  | 30, _ => ⟨_, rk_tl.1, rk_tl.2, ev_swo (tg := 694) rfl (by decide +kernel) rfl (lw_exit xs _)⟩
  | 31, _ => ⟨_, rk_tl.1, rk_tl.2, ev_swo (tg := 694) rfl (by decide +kernel) rfl (lw_exit xs _)⟩
  | _ + 32, h => absurd h (by omega)
set_option maxRecDepth 100000 in
theorem lw_short0 (xs : Nat → Int32) (h : rk_S) : rk_ev 2000 rm_L_law 18 [(3, .int (Int32.ofInt 0)), (2, .ref 316), (1, .ref 1), (0, .ref 0)] [] (rk_scr 0 xs :: h) (some (.int 1), rk_scr 0 xs :: h) := by
  refine ev_go (pc' := 23) (lv' := [(3, .int (Int32.ofInt 0)), (2, .ref 316), (1, .ref 1), (0, .ref 0)]) (st' := [.int (Int32.ofNat 0 - Int32.ofInt 5), .int (Int32.ofInt 0)]) (h' := rk_scr 0 xs :: h) 5 rfl ?_
  refine ev_if2 (tg := 700) rfl rfl true (by decide +kernel) ?_
  refine ev_go (pc' := 701) (lv' := [(3, .int (Int32.ofInt 0)), (2, .ref 316), (1, .ref 1), (0, .ref 0)]) (st' := [.int (Int32.ofInt 1)]) (h' := rk_scr 0 xs :: h) 1 rfl ?_
  exact ev_ret rfl rfl
set_option maxRecDepth 100000 in
theorem lw_short1 (xs : Nat → Int32) (h : rk_S) : rk_ev 2000 rm_L_law 18 [(3, .int (Int32.ofInt 0)), (2, .ref 316), (1, .ref 1), (0, .ref 0)] [] (rk_scr 1 xs :: h) (some (.int 1), rk_scr 1 xs :: h) := by
  refine ev_go (pc' := 23) (lv' := [(3, .int (Int32.ofInt 0)), (2, .ref 316), (1, .ref 1), (0, .ref 0)]) (st' := [.int (Int32.ofNat 1 - Int32.ofInt 5), .int (Int32.ofInt 0)]) (h' := rk_scr 1 xs :: h) 5 rfl ?_
  refine ev_if2 (tg := 700) rfl rfl true (by decide +kernel) ?_
  refine ev_go (pc' := 701) (lv' := [(3, .int (Int32.ofInt 0)), (2, .ref 316), (1, .ref 1), (0, .ref 0)]) (st' := [.int (Int32.ofInt 1)]) (h' := rk_scr 1 xs :: h) 1 rfl ?_
  exact ev_ret rfl rfl
set_option maxRecDepth 100000 in
theorem lw_short2 (xs : Nat → Int32) (h : rk_S) : rk_ev 2000 rm_L_law 18 [(3, .int (Int32.ofInt 0)), (2, .ref 316), (1, .ref 1), (0, .ref 0)] [] (rk_scr 2 xs :: h) (some (.int 1), rk_scr 2 xs :: h) := by
  refine ev_go (pc' := 23) (lv' := [(3, .int (Int32.ofInt 0)), (2, .ref 316), (1, .ref 1), (0, .ref 0)]) (st' := [.int (Int32.ofNat 2 - Int32.ofInt 5), .int (Int32.ofInt 0)]) (h' := rk_scr 2 xs :: h) 5 rfl ?_
  refine ev_if2 (tg := 700) rfl rfl true (by decide +kernel) ?_
  refine ev_go (pc' := 701) (lv' := [(3, .int (Int32.ofInt 0)), (2, .ref 316), (1, .ref 1), (0, .ref 0)]) (st' := [.int (Int32.ofInt 1)]) (h' := rk_scr 2 xs :: h) 1 rfl ?_
  exact ev_ret rfl rfl
set_option maxRecDepth 100000 in
theorem lw_short3 (xs : Nat → Int32) (h : rk_S) : rk_ev 2000 rm_L_law 18 [(3, .int (Int32.ofInt 0)), (2, .ref 316), (1, .ref 1), (0, .ref 0)] [] (rk_scr 3 xs :: h) (some (.int 1), rk_scr 3 xs :: h) := by
  refine ev_go (pc' := 23) (lv' := [(3, .int (Int32.ofInt 0)), (2, .ref 316), (1, .ref 1), (0, .ref 0)]) (st' := [.int (Int32.ofNat 3 - Int32.ofInt 5), .int (Int32.ofInt 0)]) (h' := rk_scr 3 xs :: h) 5 rfl ?_
  refine ev_if2 (tg := 700) rfl rfl true (by decide +kernel) ?_
  refine ev_go (pc' := 701) (lv' := [(3, .int (Int32.ofInt 0)), (2, .ref 316), (1, .ref 1), (0, .ref 0)]) (st' := [.int (Int32.ofInt 1)]) (h' := rk_scr 3 xs :: h) 1 rfl ?_
  exact ev_ret rfl rfl
set_option maxRecDepth 100000 in
theorem lw_short4 (xs : Nat → Int32) (h : rk_S) : rk_ev 2000 rm_L_law 18 [(3, .int (Int32.ofInt 0)), (2, .ref 316), (1, .ref 1), (0, .ref 0)] [] (rk_scr 4 xs :: h) (some (.int 1), rk_scr 4 xs :: h) := by
  refine ev_go (pc' := 23) (lv' := [(3, .int (Int32.ofInt 0)), (2, .ref 316), (1, .ref 1), (0, .ref 0)]) (st' := [.int (Int32.ofNat 4 - Int32.ofInt 5), .int (Int32.ofInt 0)]) (h' := rk_scr 4 xs :: h) 5 rfl ?_
  refine ev_if2 (tg := 700) rfl rfl true (by decide +kernel) ?_
  refine ev_go (pc' := 701) (lv' := [(3, .int (Int32.ofInt 0)), (2, .ref 316), (1, .ref 1), (0, .ref 0)]) (st' := [.int (Int32.ofInt 1)]) (h' := rk_scr 4 xs :: h) 1 rfl ?_
  exact ev_ret rfl rfl
set_option maxRecDepth 100000 in
theorem lw_loop (xs : Nat → Int32) : ∀ L, L ≤ 5 → ∃ h2 : rk_S, h2.length = 344 ∧ rk_sz h2 = 6106 ∧ rk_ev 2000 rm_L_law 18 [(3, .int (Int32.ofInt 0)), (2, .ref 316), (1, .ref 1), (0, .ref 0)] [] (rk_scr L xs :: rk_HM.tail) (some (.int 1), rk_scr L xs :: h2)
  | 0, _ => ⟨_, rk_tl.1, rk_tl.2, lw_short0 xs _⟩
  | 1, _ => ⟨_, rk_tl.1, rk_tl.2, lw_short1 xs _⟩
  | 2, _ => ⟨_, rk_tl.1, rk_tl.2, lw_short2 xs _⟩
  | 3, _ => ⟨_, rk_tl.1, rk_tl.2, lw_short3 xs _⟩
  | 4, _ => ⟨_, rk_tl.1, rk_tl.2, lw_short4 xs _⟩
  | 5, _ => by
    obtain ⟨j, hj, ej⟩ := pk_andE (xs 0) (m := (Int8.ofInt 31).toInt32) 5 (by decide +kernel)
    obtain ⟨h2, l1, l2, e⟩ := lw_turn xs j hj
    refine ⟨h2, l1, l2, ?_⟩
    refine ev_go (pc' := 23) (lv' := [(3, .int (Int32.ofInt 0)), (2, .ref 316), (1, .ref 1), (0, .ref 0)]) (st' := [.int (Int32.ofNat 5 - Int32.ofInt 5), .int (Int32.ofInt 0)]) (h' := rk_scr 5 xs :: rk_HM.tail) 5 rfl ?_
    refine ev_if2 (tg := 700) rfl rfl false (by decide +kernel) ?_
    refine ev_go (pc := 26) (pc' := 32) (lv' := [(3, .int (Int32.ofInt 0)), (2, .ref 316), (1, .ref 1), (0, .ref 0)]) (st' := [.int (xs 0 &&& (Int8.ofInt 31).toInt32)]) (h' := rk_scr 5 xs :: rk_HM.tail) 5 rfl ?_
    rw [ej]
    exact e
  | _ + 6, h => absurd h (by omega)
set_option maxRecDepth 100000 in
theorem lw_made (c0 : Nat × List Value) {o : Option Value × rk_S} (he : rk_ev 2000 rm_L_law 18 [(3, .int (Int32.ofInt 0)), (2, .ref 316), (1, .ref 1), (0, .ref 0)] [] (c0 :: rk_HM.tail) o) : rk_ev 2000 rm_L_law 0 [(0, .ref 0)] [] [c0] o := by
  obtain ⟨hX, f1, f2⟩ := rk_ex0 30000 1999 rm_X7_init 0 (lv_args 0 [.ref 1]) [] [(7, rk_df 7)] (none, rk_HX) (by decide) rk_oX_ok
  dsimp only at f1 f2
  have e2 : rk_ex 30000 1999 rm_X8_init 0 (lv_args 0 [.ref 316]) [] (rk_x :: (hX ++ [(8, rk_df 8)])) = some (none, rk_HM) := by
    have := rk_oM_ok
    unfold rk_oM at this
    rw [f1] at this
    exact this
  obtain ⟨hM, g1, g2⟩ := rk_ex0 _ _ _ _ _ _ _ _ (by decide) e2
  dsimp only at g1 g2
  have hMe : hM = rk_HM.tail := by rw [g1]; rfl
  subst hMe
  have hlen : (c0 :: hX).length = 316 := by
    have := rk_HX_l.1
    rw [f1] at this
    exact this
  have hget : ((c0 :: hX) ++ [(8, rk_df 8)])[316]? = some (8, rk_df 8) := by
    rw [List.getElem?_append_right (by omega), hlen]
    rfl
  refine ev_go (pc' := 4) (lv' := [(0, .ref 0)]) (st' := [.ref 1, .ref 1]) (h' := [c0, (7, rk_df 7)]) 2 rfl ?_
  refine ev_call (M' := rm_X7_init) (ar := ([.ref 1], [.ref 1])) (o' := (none, c0 :: hX)) rfl rfl (by decide) (by decide) rfl rfl ⟨_, f2 c0⟩ ?_
  show rk_ev _ _ 7 [(0, .ref 0)] [.ref 1] (c0 :: hX) _
  refine ev_go (pc' := 8) (lv' := [(1, .ref 1), (0, .ref 0)]) (st' := []) (h' := c0 :: hX) 1 rfl ?_
  refine ev_stp (ix := (.new 10, 3)) (t := (11, [(1, .ref 1), (0, .ref 0)], [.ref 316], (c0 :: hX) ++ [(8, rk_df 8)])) rfl ?_ ?_
  · show some (11, [(1, Value.ref 1), (0, .ref 0)], [Value.ref (c0 :: hX).length], (c0 :: hX) ++ [(8, rk_df 8)]) = _
    rw [hlen]
  show rk_ev _ _ 11 [(1, .ref 1), (0, .ref 0)] [.ref 316] ((c0 :: hX) ++ [(8, rk_df 8)]) _
  refine ev_go (pc' := 12) (lv' := [(1, .ref 1), (0, .ref 0)]) (st' := [.ref 316, .ref 316]) (h' := (c0 :: hX) ++ [(8, rk_df 8)]) 1 rfl ?_
  refine ev_call (M' := rm_X8_init) (ar := ([.ref 316], [.ref 316])) (o' := (none, c0 :: rk_HM.tail)) rfl rfl (by decide) (by decide) rfl ?_ ⟨_, g2 c0⟩ ?_
  · show (match ((c0 :: hX) ++ [(8, rk_df 8)])[316]? with | some q => (bif Nat.beq 2 2 || Nat.beq q.1 8 then rk_gx rm_X8_init [.ref 316] [.ref 316] else none) | none => none) = _
    rw [hget]
    rfl
  show rk_ev _ _ 15 [(1, .ref 1), (0, .ref 0)] [.ref 316] (c0 :: rk_HM.tail) _
  refine ev_go (pc' := 18) (lv' := [(3, .int (Int32.ofInt 0)), (2, .ref 316), (1, .ref 1), (0, .ref 0)]) (st' := []) (h' := c0 :: rk_HM.tail) 3 rfl ?_
  exact he
theorem rk_pure {L : Nat} (hL : L ≤ 5) (xs : Nat → Int32) : ∃ (n : Nat) (hF : rk_S), rk_ex n 2000 rm_L_law 0 [(0, .ref 0)] [] [rk_scr L xs] = some (some (.int 1), hF) ∧ hF.length ≤ 600000 ∧ rk_sz hF ≤ 7302250 := by
  obtain ⟨h2, l1, l2, e⟩ := lw_loop xs L hL
  obtain ⟨n, hn⟩ := lw_made _ e
  exact ⟨n, _, hn, rk_bounds hL xs l1 l2⟩
theorem whole_start {p : Program} {e : Env} {s : State} {m : MethodId} {below : List Frame} {meth : Method} {c : Code} (l : Launch) {b L : Nat} {xs : Nat → Int32} (hL : L ≤ 5) (C0 : lw_At p s m meth c b L xs) : W p l e room_1 s m #[Value.ref b] below meth c s.heap [] 0 0 (lw_Z below #[Value.ref b] s) (entryFrame m ([Value.ref b] : List Value).toArray 4) := by
  obtain ⟨n, hF, h1, h2, h3⟩ := rk_pure hL xs
  exact rk_start l C0 h1 h2 h3
