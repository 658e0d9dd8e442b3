/-! holdsFor; goesAheadOf, touch of Shelf (laid by wip/gen/keeps2.py) -/
set_option maxRecDepth 100000 in
set_option maxHeartbeats 4000000 in
theorem ct_X1_holdsFor_18 {d a f : Nat} {h : rk_S} (K : isK a) (F : isF f) (hI : rk_Iv rk_Y h) (x : Int32) : rk_wp (d + 2) rm_X1_holdsFor 0 [(0, .ref a), (1, .int x), (2, .ref f), (3, .ref 18)] [] h (fun v h' => h' = h ∧ ∃ y : Int32, v = some (.int y) ∧ (y.toInt = 0 ∨ y.toInt = 1)) := by
  obtain ⟨ha, hT0, hT1, hT2⟩ := id K
  obtain ⟨hf, hU0, hU1, hU2⟩ := id F
  refine wp_go (pc' := 1) (lv' := [(0, .ref a), (1, .int x), (2, .ref f), (3, .ref 18)]) (st' := [.ref a]) (h' := h) 1 rfl ?_
  refine wp_gI hI hT0 rfl rfl rfl (by decide) rfl (fun y1 b2 g3 => ?_)
  have b2 := rk_one b2
  refine wp_go (pc' := 5) (lv' := [(0, .ref a), (1, .int x), (2, .ref f), (3, .ref 18)]) (st' := [.int x, .int y1]) (h' := h) 1 rfl ?_
  refine wp_if2 (tg := 28) rfl rfl (fun c4 => ?_) (fun c4 => ?_)
  · have q5 : ¬ y1.toInt = x.toInt := of_decide_eq_true (p := ¬ y1.toInt = x.toInt) c4
    refine wp_go (pc' := 29) (lv' := [(0, .ref a), (1, .int x), (2, .ref f), (3, .ref 18)]) (st' := [.int (Int32.ofInt 0)]) (h' := h) 1 rfl ?_
    exact wp_ret rfl rfl ⟨rfl, _, rfl, by rw [show ((Int32.ofInt 0)).toInt = 0 by decide]; omega⟩
  · have q5 : ¬ (¬ y1.toInt = x.toInt) := of_decide_eq_false (p := ¬ y1.toInt = x.toInt) c4
    refine wp_go (pc' := 10) (lv' := [(0, .ref a), (1, .int x), (2, .ref f), (3, .ref 18)]) (st' := [.ref f, .ref a]) (h' := h) 2 rfl ?_
    refine wp_call (M' := rm_X1_numbersAreAlike) (ar := ([.ref a, .ref f], [])) rfl rfl (by decide) (by decide) rfl (rk_goT hI hT0 rfl rfl rfl rfl) (ct_X1_numbersAreAlike K F hI ) (fun v hh r7 => ?_)
    obtain ⟨e8, y6, rfl, r7⟩ := r7
    rw [e8]
    show rk_wp _ _ 13 [(0, .ref a), (1, .int x), (2, .ref f), (3, .ref 18)] [.int y6] h _
    refine wp_if1 (tg := 28) rfl rfl (fun c9 => ?_) (fun c9 => ?_)
    · have q10 : y6.toInt = 0 := of_decide_eq_true (p := y6.toInt = 0) c9
      refine wp_go (pc' := 29) (lv' := [(0, .ref a), (1, .int x), (2, .ref f), (3, .ref 18)]) (st' := [.int (Int32.ofInt 0)]) (h' := h) 1 rfl ?_
      exact wp_ret rfl rfl ⟨rfl, _, rfl, by rw [show ((Int32.ofInt 0)).toInt = 0 by decide]; omega⟩
    · have q10 : ¬ (y6.toInt = 0) := of_decide_eq_false (p := y6.toInt = 0) c9
      refine wp_go (pc' := 18) (lv' := [(0, .ref a), (1, .int x), (2, .ref f), (3, .ref 18)]) (st' := [.ref 18, .ref a]) (h' := h) 2 rfl ?_
      refine wp_call (M' := rm_X1_storesAreAlike) (ar := ([.ref a, .ref 18], [])) rfl rfl (by decide) (by decide) rfl (rk_goT hI hT0 rfl rfl rfl rfl) (ct_X1_storesAreAlike_18 K hI ) (fun v hh r12 => ?_)
      obtain ⟨e13, y11, rfl, r12⟩ := r12
      rw [e13]
      show rk_wp _ _ 21 [(0, .ref a), (1, .int x), (2, .ref f), (3, .ref 18)] [.int y11] h _
      refine wp_if1 (tg := 28) rfl rfl (fun c14 => ?_) (fun c14 => ?_)
      · have q15 : y11.toInt = 0 := of_decide_eq_true (p := y11.toInt = 0) c14
        refine wp_go (pc' := 29) (lv' := [(0, .ref a), (1, .int x), (2, .ref f), (3, .ref 18)]) (st' := [.int (Int32.ofInt 0)]) (h' := h) 1 rfl ?_
        exact wp_ret rfl rfl ⟨rfl, _, rfl, by rw [show ((Int32.ofInt 0)).toInt = 0 by decide]; omega⟩
      · have q15 : ¬ (y11.toInt = 0) := of_decide_eq_false (p := y11.toInt = 0) c14
        refine wp_go (pc' := 29) (lv' := [(0, .ref a), (1, .int x), (2, .ref f), (3, .ref 18)]) (st' := [.int (Int32.ofInt 1)]) (h' := h) 2 rfl ?_
        exact wp_ret rfl rfl ⟨rfl, _, rfl, by rw [show ((Int32.ofInt 1)).toInt = 1 by decide]; omega⟩
set_option maxRecDepth 100000 in
set_option maxHeartbeats 4000000 in
theorem ct_X1_holdsFor_156 {d a f : Nat} {h : rk_S} (K : isK a) (F : isF f) (hI : rk_Iv rk_Y h) (x : Int32) : rk_wp (d + 2) rm_X1_holdsFor 0 [(0, .ref a), (1, .int x), (2, .ref f), (3, .ref 156)] [] h (fun v h' => h' = h ∧ ∃ y : Int32, v = some (.int y) ∧ (y.toInt = 0 ∨ y.toInt = 1)) := by
  obtain ⟨ha, hT0, hT1, hT2⟩ := id K
  obtain ⟨hf, hU0, hU1, hU2⟩ := id F
  refine wp_go (pc' := 1) (lv' := [(0, .ref a), (1, .int x), (2, .ref f), (3, .ref 156)]) (st' := [.ref a]) (h' := h) 1 rfl ?_
  refine wp_gI hI hT0 rfl rfl rfl (by decide) rfl (fun y1 b2 g3 => ?_)
  have b2 := rk_one b2
  refine wp_go (pc' := 5) (lv' := [(0, .ref a), (1, .int x), (2, .ref f), (3, .ref 156)]) (st' := [.int x, .int y1]) (h' := h) 1 rfl ?_
  refine wp_if2 (tg := 28) rfl rfl (fun c4 => ?_) (fun c4 => ?_)
  · have q5 : ¬ y1.toInt = x.toInt := of_decide_eq_true (p := ¬ y1.toInt = x.toInt) c4
    refine wp_go (pc' := 29) (lv' := [(0, .ref a), (1, .int x), (2, .ref f), (3, .ref 156)]) (st' := [.int (Int32.ofInt 0)]) (h' := h) 1 rfl ?_
    exact wp_ret rfl rfl ⟨rfl, _, rfl, by rw [show ((Int32.ofInt 0)).toInt = 0 by decide]; omega⟩
  · have q5 : ¬ (¬ y1.toInt = x.toInt) := of_decide_eq_false (p := ¬ y1.toInt = x.toInt) c4
    refine wp_go (pc' := 10) (lv' := [(0, .ref a), (1, .int x), (2, .ref f), (3, .ref 156)]) (st' := [.ref f, .ref a]) (h' := h) 2 rfl ?_
    refine wp_call (M' := rm_X1_numbersAreAlike) (ar := ([.ref a, .ref f], [])) rfl rfl (by decide) (by decide) rfl (rk_goT hI hT0 rfl rfl rfl rfl) (ct_X1_numbersAreAlike K F hI ) (fun v hh r7 => ?_)
    obtain ⟨e8, y6, rfl, r7⟩ := r7
    rw [e8]
    show rk_wp _ _ 13 [(0, .ref a), (1, .int x), (2, .ref f), (3, .ref 156)] [.int y6] h _
    refine wp_if1 (tg := 28) rfl rfl (fun c9 => ?_) (fun c9 => ?_)
    · have q10 : y6.toInt = 0 := of_decide_eq_true (p := y6.toInt = 0) c9
      refine wp_go (pc' := 29) (lv' := [(0, .ref a), (1, .int x), (2, .ref f), (3, .ref 156)]) (st' := [.int (Int32.ofInt 0)]) (h' := h) 1 rfl ?_
      exact wp_ret rfl rfl ⟨rfl, _, rfl, by rw [show ((Int32.ofInt 0)).toInt = 0 by decide]; omega⟩
    · have q10 : ¬ (y6.toInt = 0) := of_decide_eq_false (p := y6.toInt = 0) c9
      refine wp_go (pc' := 18) (lv' := [(0, .ref a), (1, .int x), (2, .ref f), (3, .ref 156)]) (st' := [.ref 156, .ref a]) (h' := h) 2 rfl ?_
      refine wp_call (M' := rm_X1_storesAreAlike) (ar := ([.ref a, .ref 156], [])) rfl rfl (by decide) (by decide) rfl (rk_goT hI hT0 rfl rfl rfl rfl) (ct_X1_storesAreAlike_156 K hI ) (fun v hh r12 => ?_)
      obtain ⟨e13, y11, rfl, r12⟩ := r12
      rw [e13]
      show rk_wp _ _ 21 [(0, .ref a), (1, .int x), (2, .ref f), (3, .ref 156)] [.int y11] h _
      refine wp_if1 (tg := 28) rfl rfl (fun c14 => ?_) (fun c14 => ?_)
      · have q15 : y11.toInt = 0 := of_decide_eq_true (p := y11.toInt = 0) c14
        refine wp_go (pc' := 29) (lv' := [(0, .ref a), (1, .int x), (2, .ref f), (3, .ref 156)]) (st' := [.int (Int32.ofInt 0)]) (h' := h) 1 rfl ?_
        exact wp_ret rfl rfl ⟨rfl, _, rfl, by rw [show ((Int32.ofInt 0)).toInt = 0 by decide]; omega⟩
      · have q15 : ¬ (y11.toInt = 0) := of_decide_eq_false (p := y11.toInt = 0) c14
        refine wp_go (pc' := 29) (lv' := [(0, .ref a), (1, .int x), (2, .ref f), (3, .ref 156)]) (st' := [.int (Int32.ofInt 1)]) (h' := h) 2 rfl ?_
        exact wp_ret rfl rfl ⟨rfl, _, rfl, by rw [show ((Int32.ofInt 1)).toInt = 1 by decide]; omega⟩
set_option maxRecDepth 100000 in
set_option maxHeartbeats 4000000 in
theorem ct_X5_goesAheadOf_20 {d a b : Nat} {h : rk_S} (K : isK a) (K2 : isK b) (hI : rk_Iv rk_Y h) : rk_wp d rm_X5_goesAheadOf 0 [(0, .ref 20), (1, .ref a), (2, .ref b)] [] h (fun v h' => h' = h ∧ ∃ y : Int32, v = some (.int y) ∧ (y.toInt = 0 ∨ y.toInt = 1)) := by
  obtain ⟨ha, hT0, hT1, hT2⟩ := id K
  obtain ⟨hb, hV0, hV1, hV2⟩ := id K2
  refine wp_go (pc' := 1) (lv' := [(0, .ref 20), (1, .ref a), (2, .ref b)]) (st' := [.ref 20]) (h' := h) 1 rfl ?_
  refine wp_gI hI (show rk_Y 20 = some (5, 5, rk_slot [.inr [21], .inl [(0, 32)], .inl [(0, 32)], rk_any, rk_any]) from rfl) rfl rfl rfl (by decide) rfl (fun y1 b2 g3 => ?_)
  have b2 := rk_one b2
  refine wp_if1 (tg := 24) rfl rfl (fun c4 => ?_) (fun c4 => ?_)
  · have q5 : ¬ y1.toInt = 0 := of_decide_eq_true (p := ¬ y1.toInt = 0) c4
    refine wp_go (pc' := 25) (lv' := [(0, .ref 20), (1, .ref a), (2, .ref b)]) (st' := [.ref 20]) (h' := h) 1 rfl ?_
    refine wp_gK hI (show rk_Y 20 = some (5, 5, rk_slot [.inr [21], .inl [(0, 32)], .inl [(0, 32)], rk_any, rk_any]) from rfl) rfl rfl rfl g3 ?_
    refine wp_go (pc' := 29) (lv' := [(0, .ref 20), (1, .ref a), (2, .ref b)]) (st' := [.int (Int32.ofInt 2), .int y1]) (h' := h) 1 rfl ?_
    refine wp_if2 (tg := 47) rfl rfl (fun c6 => ?_) (fun c6 => ?_)
    · have q7 : ¬ y1.toInt = ((Int32.ofInt 2)).toInt := of_decide_eq_true (p := ¬ y1.toInt = ((Int32.ofInt 2)).toInt) c6
      rw [show ((Int32.ofInt 2)).toInt = 2 by decide] at q7
      refine wp_go (pc' := 48) (lv' := [(0, .ref 20), (1, .ref a), (2, .ref b)]) (st' := [.int (Int32.ofInt 0)]) (h' := h) 1 rfl ?_
      exact wp_ret rfl rfl ⟨rfl, _, rfl, by rw [show ((Int32.ofInt 0)).toInt = 0 by decide]; omega⟩
    · have q7 : ¬ (¬ y1.toInt = ((Int32.ofInt 2)).toInt) := of_decide_eq_false (p := ¬ y1.toInt = ((Int32.ofInt 2)).toInt) c6
      rw [show ((Int32.ofInt 2)).toInt = 2 by decide] at q7
      refine wp_go (pc' := 33) (lv' := [(0, .ref 20), (1, .ref a), (2, .ref b)]) (st' := [.ref a]) (h' := h) 1 rfl ?_
      refine wp_gI hI hT0 rfl rfl rfl (by decide) rfl (fun y8 b9 g10 => ?_)
      have b9 := rk_one b9
      refine wp_go (pc' := 37) (lv' := [(0, .ref 20), (1, .ref a), (2, .ref b)]) (st' := [.ref b, .int y8]) (h' := h) 1 rfl ?_
      refine wp_gI hI hV0 rfl rfl rfl (by decide) rfl (fun y11 b12 g13 => ?_)
      have b12 := rk_one b12
      refine wp_if2 (tg := 47) rfl rfl (fun c14 => ?_) (fun c14 => ?_)
      · have q15 : y11.toInt ≤ y8.toInt := of_decide_eq_true (p := y11.toInt ≤ y8.toInt) c14
        refine wp_go (pc' := 48) (lv' := [(0, .ref 20), (1, .ref a), (2, .ref b)]) (st' := [.int (Int32.ofInt 0)]) (h' := h) 1 rfl ?_
        exact wp_ret rfl rfl ⟨rfl, _, rfl, by rw [show ((Int32.ofInt 0)).toInt = 0 by decide]; omega⟩
      · have q15 : ¬ (y11.toInt ≤ y8.toInt) := of_decide_eq_false (p := y11.toInt ≤ y8.toInt) c14
        refine wp_go (pc' := 48) (lv' := [(0, .ref 20), (1, .ref a), (2, .ref b)]) (st' := [.int (Int32.ofInt 1)]) (h' := h) 2 rfl ?_
        exact wp_ret rfl rfl ⟨rfl, _, rfl, by rw [show ((Int32.ofInt 1)).toInt = 1 by decide]; omega⟩
  · have q5 : ¬ (¬ y1.toInt = 0) := of_decide_eq_false (p := ¬ y1.toInt = 0) c4
    refine wp_go (pc' := 8) (lv' := [(0, .ref 20), (1, .ref a), (2, .ref b)]) (st' := [.ref a]) (h' := h) 1 rfl ?_
    refine wp_gI hI hT0 rfl rfl rfl (by decide) rfl (fun y16 b17 g18 => ?_)
    have b17 := rk_one b17
    refine wp_go (pc' := 12) (lv' := [(0, .ref 20), (1, .ref a), (2, .ref b)]) (st' := [.ref b, .int y16]) (h' := h) 1 rfl ?_
    refine wp_gI hI hV0 rfl rfl rfl (by decide) rfl (fun y19 b20 g21 => ?_)
    have b20 := rk_one b20
    refine wp_if2 (tg := 22) rfl rfl (fun c22 => ?_) (fun c22 => ?_)
    · have q23 : y19.toInt ≤ y16.toInt := of_decide_eq_true (p := y19.toInt ≤ y16.toInt) c22
      refine wp_go (pc' := 23) (lv' := [(0, .ref 20), (1, .ref a), (2, .ref b)]) (st' := [.int (Int32.ofInt 0)]) (h' := h) 1 rfl ?_
      exact wp_ret rfl rfl ⟨rfl, _, rfl, by rw [show ((Int32.ofInt 0)).toInt = 0 by decide]; omega⟩
    · have q23 : ¬ (y19.toInt ≤ y16.toInt) := of_decide_eq_false (p := y19.toInt ≤ y16.toInt) c22
      refine wp_go (pc' := 23) (lv' := [(0, .ref 20), (1, .ref a), (2, .ref b)]) (st' := [.int (Int32.ofInt 1)]) (h' := h) 2 rfl ?_
      exact wp_ret rfl rfl ⟨rfl, _, rfl, by rw [show ((Int32.ofInt 1)).toInt = 1 by decide]; omega⟩
set_option maxRecDepth 100000 in
set_option maxHeartbeats 4000000 in
theorem ct_X5_touch_20 {d a : Nat} {h : rk_S} (K : isK a) (hI : rk_Iv rk_Y h) : rk_wp d rm_X5_touch 0 [(0, .ref 20), (1, .ref a)] [] h (fun v h' => v = none ∧ rk_Iv rk_Y h' ∧ rk_Fr (fun b => b = 20 ∨ b = a) h h') := by
  obtain ⟨ha, hT0, hT1, hT2⟩ := id K
  refine wp_go (pc' := 2) (lv' := [(0, .ref 20), (1, .ref a)]) (st' := [.ref 20, .ref 20]) (h' := h) 2 rfl ?_
  refine wp_gI hI (show rk_Y 20 = some (5, 5, rk_slot [.inr [21], .inl [(0, 32)], .inl [(0, 32)], rk_any, rk_any]) from rfl) rfl rfl rfl (by decide) rfl (fun y1 b2 g3 => ?_)
  have b2 := rk_one b2
  refine wp_go (pc' := 7) (lv' := [(0, .ref 20), (1, .ref a)]) (st' := [.int (y1 + (Int32.ofInt 1)), .ref 20]) (h' := h) 2 rfl ?_
  refine wp_pI hI (show rk_Y 20 = some (5, 5, rk_slot [.inr [21], .inl [(0, 32)], .inl [(0, 32)], rk_any, rk_any]) from rfl) (by decide) rfl rfl rfl (by decide) (rk_ok_any _) rfl rfl (fun h4 e5 hI6 g7 => ?_)
  have f8 : rk_Fr (fun b => b = 20 ∨ b = a) h h4 := by rw [e5]; exact (rk_Fr.refl h).put (Or.inl rfl)
  refine wp_go (pc' := 12) (lv' := [(0, .ref 20), (1, .ref a)]) (st' := [.ref 20, .ref a]) (h' := h4) 2 rfl ?_
  refine wp_gK hI6 (show rk_Y 20 = some (5, 5, rk_slot [.inr [21], .inl [(0, 32)], .inl [(0, 32)], rk_any, rk_any]) from rfl) rfl rfl rfl g7 ?_
  refine wp_pI hI6 hT0 ha rfl rfl rfl (by decide) (rk_ok_any _) rfl rfl (fun h9 e10 hI11 g12 => ?_)
  have f13 : rk_Fr (fun b => b = 20 ∨ b = a) h h9 := by rw [e10]; exact f8.put (Or.inr rfl)
  exact wp_ret rfl rfl ⟨rfl, hI11, f13⟩
set_option maxRecDepth 100000 in
set_option maxHeartbeats 4000000 in
theorem ct_X5_goesAheadOf_158 {d a b : Nat} {h : rk_S} (K : isK a) (K2 : isK b) (hI : rk_Iv rk_Y h) : rk_wp d rm_X5_goesAheadOf 0 [(0, .ref 158), (1, .ref a), (2, .ref b)] [] h (fun v h' => h' = h ∧ ∃ y : Int32, v = some (.int y) ∧ (y.toInt = 0 ∨ y.toInt = 1)) := by
  obtain ⟨ha, hT0, hT1, hT2⟩ := id K
  obtain ⟨hb, hV0, hV1, hV2⟩ := id K2
  refine wp_go (pc' := 1) (lv' := [(0, .ref 158), (1, .ref a), (2, .ref b)]) (st' := [.ref 158]) (h' := h) 1 rfl ?_
  refine wp_gI hI (show rk_Y 158 = some (5, 5, rk_slot [.inr [159], .inl [(0, 32)], .inl [(0, 32)], rk_any, rk_any]) from rfl) rfl rfl rfl (by decide) rfl (fun y1 b2 g3 => ?_)
  have b2 := rk_one b2
  refine wp_if1 (tg := 24) rfl rfl (fun c4 => ?_) (fun c4 => ?_)
  · have q5 : ¬ y1.toInt = 0 := of_decide_eq_true (p := ¬ y1.toInt = 0) c4
    refine wp_go (pc' := 25) (lv' := [(0, .ref 158), (1, .ref a), (2, .ref b)]) (st' := [.ref 158]) (h' := h) 1 rfl ?_
    refine wp_gK hI (show rk_Y 158 = some (5, 5, rk_slot [.inr [159], .inl [(0, 32)], .inl [(0, 32)], rk_any, rk_any]) from rfl) rfl rfl rfl g3 ?_
    refine wp_go (pc' := 29) (lv' := [(0, .ref 158), (1, .ref a), (2, .ref b)]) (st' := [.int (Int32.ofInt 2), .int y1]) (h' := h) 1 rfl ?_
    refine wp_if2 (tg := 47) rfl rfl (fun c6 => ?_) (fun c6 => ?_)
    · have q7 : ¬ y1.toInt = ((Int32.ofInt 2)).toInt := of_decide_eq_true (p := ¬ y1.toInt = ((Int32.ofInt 2)).toInt) c6
      rw [show ((Int32.ofInt 2)).toInt = 2 by decide] at q7
      refine wp_go (pc' := 48) (lv' := [(0, .ref 158), (1, .ref a), (2, .ref b)]) (st' := [.int (Int32.ofInt 0)]) (h' := h) 1 rfl ?_
      exact wp_ret rfl rfl ⟨rfl, _, rfl, by rw [show ((Int32.ofInt 0)).toInt = 0 by decide]; omega⟩
    · have q7 : ¬ (¬ y1.toInt = ((Int32.ofInt 2)).toInt) := of_decide_eq_false (p := ¬ y1.toInt = ((Int32.ofInt 2)).toInt) c6
      rw [show ((Int32.ofInt 2)).toInt = 2 by decide] at q7
      refine wp_go (pc' := 33) (lv' := [(0, .ref 158), (1, .ref a), (2, .ref b)]) (st' := [.ref a]) (h' := h) 1 rfl ?_
      refine wp_gI hI hT0 rfl rfl rfl (by decide) rfl (fun y8 b9 g10 => ?_)
      have b9 := rk_one b9
      refine wp_go (pc' := 37) (lv' := [(0, .ref 158), (1, .ref a), (2, .ref b)]) (st' := [.ref b, .int y8]) (h' := h) 1 rfl ?_
      refine wp_gI hI hV0 rfl rfl rfl (by decide) rfl (fun y11 b12 g13 => ?_)
      have b12 := rk_one b12
      refine wp_if2 (tg := 47) rfl rfl (fun c14 => ?_) (fun c14 => ?_)
      · have q15 : y11.toInt ≤ y8.toInt := of_decide_eq_true (p := y11.toInt ≤ y8.toInt) c14
        refine wp_go (pc' := 48) (lv' := [(0, .ref 158), (1, .ref a), (2, .ref b)]) (st' := [.int (Int32.ofInt 0)]) (h' := h) 1 rfl ?_
        exact wp_ret rfl rfl ⟨rfl, _, rfl, by rw [show ((Int32.ofInt 0)).toInt = 0 by decide]; omega⟩
      · have q15 : ¬ (y11.toInt ≤ y8.toInt) := of_decide_eq_false (p := y11.toInt ≤ y8.toInt) c14
        refine wp_go (pc' := 48) (lv' := [(0, .ref 158), (1, .ref a), (2, .ref b)]) (st' := [.int (Int32.ofInt 1)]) (h' := h) 2 rfl ?_
        exact wp_ret rfl rfl ⟨rfl, _, rfl, by rw [show ((Int32.ofInt 1)).toInt = 1 by decide]; omega⟩
  · have q5 : ¬ (¬ y1.toInt = 0) := of_decide_eq_false (p := ¬ y1.toInt = 0) c4
    refine wp_go (pc' := 8) (lv' := [(0, .ref 158), (1, .ref a), (2, .ref b)]) (st' := [.ref a]) (h' := h) 1 rfl ?_
    refine wp_gI hI hT0 rfl rfl rfl (by decide) rfl (fun y16 b17 g18 => ?_)
    have b17 := rk_one b17
    refine wp_go (pc' := 12) (lv' := [(0, .ref 158), (1, .ref a), (2, .ref b)]) (st' := [.ref b, .int y16]) (h' := h) 1 rfl ?_
    refine wp_gI hI hV0 rfl rfl rfl (by decide) rfl (fun y19 b20 g21 => ?_)
    have b20 := rk_one b20
    refine wp_if2 (tg := 22) rfl rfl (fun c22 => ?_) (fun c22 => ?_)
    · have q23 : y19.toInt ≤ y16.toInt := of_decide_eq_true (p := y19.toInt ≤ y16.toInt) c22
      refine wp_go (pc' := 23) (lv' := [(0, .ref 158), (1, .ref a), (2, .ref b)]) (st' := [.int (Int32.ofInt 0)]) (h' := h) 1 rfl ?_
      exact wp_ret rfl rfl ⟨rfl, _, rfl, by rw [show ((Int32.ofInt 0)).toInt = 0 by decide]; omega⟩
    · have q23 : ¬ (y19.toInt ≤ y16.toInt) := of_decide_eq_false (p := y19.toInt ≤ y16.toInt) c22
      refine wp_go (pc' := 23) (lv' := [(0, .ref 158), (1, .ref a), (2, .ref b)]) (st' := [.int (Int32.ofInt 1)]) (h' := h) 2 rfl ?_
      exact wp_ret rfl rfl ⟨rfl, _, rfl, by rw [show ((Int32.ofInt 1)).toInt = 1 by decide]; omega⟩
set_option maxRecDepth 100000 in
set_option maxHeartbeats 4000000 in
theorem ct_X5_touch_158 {d a : Nat} {h : rk_S} (K : isK a) (hI : rk_Iv rk_Y h) : rk_wp d rm_X5_touch 0 [(0, .ref 158), (1, .ref a)] [] h (fun v h' => v = none ∧ rk_Iv rk_Y h' ∧ rk_Fr (fun b => b = 158 ∨ b = a) h h') := by
  obtain ⟨ha, hT0, hT1, hT2⟩ := id K
  refine wp_go (pc' := 2) (lv' := [(0, .ref 158), (1, .ref a)]) (st' := [.ref 158, .ref 158]) (h' := h) 2 rfl ?_
  refine wp_gI hI (show rk_Y 158 = some (5, 5, rk_slot [.inr [159], .inl [(0, 32)], .inl [(0, 32)], rk_any, rk_any]) from rfl) rfl rfl rfl (by decide) rfl (fun y1 b2 g3 => ?_)
  have b2 := rk_one b2
  refine wp_go (pc' := 7) (lv' := [(0, .ref 158), (1, .ref a)]) (st' := [.int (y1 + (Int32.ofInt 1)), .ref 158]) (h' := h) 2 rfl ?_
  refine wp_pI hI (show rk_Y 158 = some (5, 5, rk_slot [.inr [159], .inl [(0, 32)], .inl [(0, 32)], rk_any, rk_any]) from rfl) (by decide) rfl rfl rfl (by decide) (rk_ok_any _) rfl rfl (fun h4 e5 hI6 g7 => ?_)
  have f8 : rk_Fr (fun b => b = 158 ∨ b = a) h h4 := by rw [e5]; exact (rk_Fr.refl h).put (Or.inl rfl)
  refine wp_go (pc' := 12) (lv' := [(0, .ref 158), (1, .ref a)]) (st' := [.ref 158, .ref a]) (h' := h4) 2 rfl ?_
  refine wp_gK hI6 (show rk_Y 158 = some (5, 5, rk_slot [.inr [159], .inl [(0, 32)], .inl [(0, 32)], rk_any, rk_any]) from rfl) rfl rfl rfl g7 ?_
  refine wp_pI hI6 hT0 ha rfl rfl rfl (by decide) (rk_ok_any _) rfl rfl (fun h9 e10 hI11 g12 => ?_)
  have f13 : rk_Fr (fun b => b = 158 ∨ b = a) h h9 := by rw [e10]; exact f8.put (Or.inr rfl)
  exact wp_ret rfl rfl ⟨rfl, hI11, f13⟩
