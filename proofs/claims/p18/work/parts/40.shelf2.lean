/-! Keepsakes and Frames; firstThatHolds (laid by wip/gen/shelf2.py) -/
set_option maxRecDepth 100000 in
theorem rk_ks20 : ∀ b ∈ [22, 25, 28, 31, 34, 37, 40, 43, 46, 49, 52, 55, 58, 61, 64, 67, 70, 73, 76, 79, 82, 85, 88, 91, 94, 97, 100, 103, 106, 109, 112, 115], isK b := List.forall_mem_cons.mpr ⟨⟨by decide, rfl, rfl, rfl⟩, List.forall_mem_cons.mpr ⟨⟨by decide, rfl, rfl, rfl⟩, List.forall_mem_cons.mpr ⟨⟨by decide, rfl, rfl, rfl⟩, List.forall_mem_cons.mpr ⟨⟨by decide, rfl, rfl, rfl⟩, List.forall_mem_cons.mpr ⟨⟨by decide, rfl, rfl, rfl⟩, List.forall_mem_cons.mpr ⟨⟨by decide, rfl, rfl, rfl⟩, List.forall_mem_cons.mpr ⟨⟨by decide, rfl, rfl, rfl⟩, List.forall_mem_cons.mpr ⟨⟨by decide, rfl, rfl, rfl⟩, List.forall_mem_cons.mpr ⟨⟨by decide, rfl, rfl, rfl⟩, List.forall_mem_cons.mpr ⟨⟨by decide, rfl, rfl, rfl⟩, List.forall_mem_cons.mpr ⟨⟨by decide, rfl, rfl, rfl⟩, List.forall_mem_cons.mpr ⟨⟨by decide, rfl, rfl, rfl⟩, List.forall_mem_cons.mpr ⟨⟨by decide, rfl, rfl, rfl⟩, List.forall_mem_cons.mpr ⟨⟨by decide, rfl, rfl, rfl⟩, List.forall_mem_cons.mpr ⟨⟨by decide, rfl, rfl, rfl⟩, List.forall_mem_cons.mpr ⟨⟨by decide, rfl, rfl, rfl⟩, List.forall_mem_cons.mpr ⟨⟨by decide, rfl, rfl, rfl⟩, List.forall_mem_cons.mpr ⟨⟨by decide, rfl, rfl, rfl⟩, List.forall_mem_cons.mpr ⟨⟨by decide, rfl, rfl, rfl⟩, List.forall_mem_cons.mpr ⟨⟨by decide, rfl, rfl, rfl⟩, List.forall_mem_cons.mpr ⟨⟨by decide, rfl, rfl, rfl⟩, List.forall_mem_cons.mpr ⟨⟨by decide, rfl, rfl, rfl⟩, List.forall_mem_cons.mpr ⟨⟨by decide, rfl, rfl, rfl⟩, List.forall_mem_cons.mpr ⟨⟨by decide, rfl, rfl, rfl⟩, List.forall_mem_cons.mpr ⟨⟨by decide, rfl, rfl, rfl⟩, List.forall_mem_cons.mpr ⟨⟨by decide, rfl, rfl, rfl⟩, List.forall_mem_cons.mpr ⟨⟨by decide, rfl, rfl, rfl⟩, List.forall_mem_cons.mpr ⟨⟨by decide, rfl, rfl, rfl⟩, List.forall_mem_cons.mpr ⟨⟨by decide, rfl, rfl, rfl⟩, List.forall_mem_cons.mpr ⟨⟨by decide, rfl, rfl, rfl⟩, List.forall_mem_cons.mpr ⟨⟨by decide, rfl, rfl, rfl⟩, List.forall_mem_cons.mpr ⟨⟨by decide, rfl, rfl, rfl⟩, fun _ h => absurd h List.not_mem_nil⟩⟩⟩⟩⟩⟩⟩⟩⟩⟩⟩⟩⟩⟩⟩⟩⟩⟩⟩⟩⟩⟩⟩⟩⟩⟩⟩⟩⟩⟩⟩⟩
set_option maxRecDepth 100000 in
theorem rk_ks158 : ∀ b ∈ [160, 163, 166, 169, 172, 175, 178, 181, 184, 187, 190, 193, 196, 199, 202, 205, 208, 211, 214, 217, 220, 223, 226, 229, 232, 235, 238, 241, 244, 247, 250, 253], isK b := List.forall_mem_cons.mpr ⟨⟨by decide, rfl, rfl, rfl⟩, List.forall_mem_cons.mpr ⟨⟨by decide, rfl, rfl, rfl⟩, List.forall_mem_cons.mpr ⟨⟨by decide, rfl, rfl, rfl⟩, List.forall_mem_cons.mpr ⟨⟨by decide, rfl, rfl, rfl⟩, List.forall_mem_cons.mpr ⟨⟨by decide, rfl, rfl, rfl⟩, List.forall_mem_cons.mpr ⟨⟨by decide, rfl, rfl, rfl⟩, List.forall_mem_cons.mpr ⟨⟨by decide, rfl, rfl, rfl⟩, List.forall_mem_cons.mpr ⟨⟨by decide, rfl, rfl, rfl⟩, List.forall_mem_cons.mpr ⟨⟨by decide, rfl, rfl, rfl⟩, List.forall_mem_cons.mpr ⟨⟨by decide, rfl, rfl, rfl⟩, List.forall_mem_cons.mpr ⟨⟨by decide, rfl, rfl, rfl⟩, List.forall_mem_cons.mpr ⟨⟨by decide, rfl, rfl, rfl⟩, List.forall_mem_cons.mpr ⟨⟨by decide, rfl, rfl, rfl⟩, List.forall_mem_cons.mpr ⟨⟨by decide, rfl, rfl, rfl⟩, List.forall_mem_cons.mpr ⟨⟨by decide, rfl, rfl, rfl⟩, List.forall_mem_cons.mpr ⟨⟨by decide, rfl, rfl, rfl⟩, List.forall_mem_cons.mpr ⟨⟨by decide, rfl, rfl, rfl⟩, List.forall_mem_cons.mpr ⟨⟨by decide, rfl, rfl, rfl⟩, List.forall_mem_cons.mpr ⟨⟨by decide, rfl, rfl, rfl⟩, List.forall_mem_cons.mpr ⟨⟨by decide, rfl, rfl, rfl⟩, List.forall_mem_cons.mpr ⟨⟨by decide, rfl, rfl, rfl⟩, List.forall_mem_cons.mpr ⟨⟨by decide, rfl, rfl, rfl⟩, List.forall_mem_cons.mpr ⟨⟨by decide, rfl, rfl, rfl⟩, List.forall_mem_cons.mpr ⟨⟨by decide, rfl, rfl, rfl⟩, List.forall_mem_cons.mpr ⟨⟨by decide, rfl, rfl, rfl⟩, List.forall_mem_cons.mpr ⟨⟨by decide, rfl, rfl, rfl⟩, List.forall_mem_cons.mpr ⟨⟨by decide, rfl, rfl, rfl⟩, List.forall_mem_cons.mpr ⟨⟨by decide, rfl, rfl, rfl⟩, List.forall_mem_cons.mpr ⟨⟨by decide, rfl, rfl, rfl⟩, List.forall_mem_cons.mpr ⟨⟨by decide, rfl, rfl, rfl⟩, List.forall_mem_cons.mpr ⟨⟨by decide, rfl, rfl, rfl⟩, List.forall_mem_cons.mpr ⟨⟨by decide, rfl, rfl, rfl⟩, fun _ h => absurd h List.not_mem_nil⟩⟩⟩⟩⟩⟩⟩⟩⟩⟩⟩⟩⟩⟩⟩⟩⟩⟩⟩⟩⟩⟩⟩⟩⟩⟩⟩⟩⟩⟩⟩⟩
set_option maxRecDepth 100000 in
theorem rk_fs118 : ∀ b ∈ [120, 123, 126, 129, 132, 135, 138, 141, 144, 147, 150, 153], isF b := List.forall_mem_cons.mpr ⟨⟨by decide, rfl, rfl, rfl⟩, List.forall_mem_cons.mpr ⟨⟨by decide, rfl, rfl, rfl⟩, List.forall_mem_cons.mpr ⟨⟨by decide, rfl, rfl, rfl⟩, List.forall_mem_cons.mpr ⟨⟨by decide, rfl, rfl, rfl⟩, List.forall_mem_cons.mpr ⟨⟨by decide, rfl, rfl, rfl⟩, List.forall_mem_cons.mpr ⟨⟨by decide, rfl, rfl, rfl⟩, List.forall_mem_cons.mpr ⟨⟨by decide, rfl, rfl, rfl⟩, List.forall_mem_cons.mpr ⟨⟨by decide, rfl, rfl, rfl⟩, List.forall_mem_cons.mpr ⟨⟨by decide, rfl, rfl, rfl⟩, List.forall_mem_cons.mpr ⟨⟨by decide, rfl, rfl, rfl⟩, List.forall_mem_cons.mpr ⟨⟨by decide, rfl, rfl, rfl⟩, List.forall_mem_cons.mpr ⟨⟨by decide, rfl, rfl, rfl⟩, fun _ h => absurd h List.not_mem_nil⟩⟩⟩⟩⟩⟩⟩⟩⟩⟩⟩⟩
set_option maxRecDepth 100000 in
theorem rk_fs256 : ∀ b ∈ [258, 261, 264, 267, 270, 273, 276, 279, 282, 285, 288, 291], isF b := List.forall_mem_cons.mpr ⟨⟨by decide, rfl, rfl, rfl⟩, List.forall_mem_cons.mpr ⟨⟨by decide, rfl, rfl, rfl⟩, List.forall_mem_cons.mpr ⟨⟨by decide, rfl, rfl, rfl⟩, List.forall_mem_cons.mpr ⟨⟨by decide, rfl, rfl, rfl⟩, List.forall_mem_cons.mpr ⟨⟨by decide, rfl, rfl, rfl⟩, List.forall_mem_cons.mpr ⟨⟨by decide, rfl, rfl, rfl⟩, List.forall_mem_cons.mpr ⟨⟨by decide, rfl, rfl, rfl⟩, List.forall_mem_cons.mpr ⟨⟨by decide, rfl, rfl, rfl⟩, List.forall_mem_cons.mpr ⟨⟨by decide, rfl, rfl, rfl⟩, List.forall_mem_cons.mpr ⟨⟨by decide, rfl, rfl, rfl⟩, List.forall_mem_cons.mpr ⟨⟨by decide, rfl, rfl, rfl⟩, List.forall_mem_cons.mpr ⟨⟨by decide, rfl, rfl, rfl⟩, fun _ h => absurd h List.not_mem_nil⟩⟩⟩⟩⟩⟩⟩⟩⟩⟩⟩⟩
set_option maxRecDepth 100000 in
set_option maxHeartbeats 4000000 in
theorem ct_X5_firstThatHolds_20 {d f : Nat} {h : rk_S} (F : isF f) (hI : rk_Iv rk_Y h) (x : Int32) : rk_wp (d + 3) rm_X5_firstThatHolds 0 [(0, .ref 20), (1, .int x), (2, .ref f), (3, .ref 18)] [] h (fun v h' => h' = h ∧ ∃ y : Int32, v = some (.int y) ∧ (-6 ≤ y.toInt ∧ y.toInt ≤ 31)) := by
  obtain ⟨hf, hU0, hU1, hU2⟩ := id F
  refine wp_go (pc' := 3) (lv' := [(4, .int (Int32.ofInt 0)), (0, .ref 20), (1, .int x), (2, .ref f), (3, .ref 18)]) (st' := []) (h' := h) 2 rfl ?_
  have loop1 : ∀ (n : Nat) (i3 : Int32), 0 ≤ i3.toInt → i3.toInt ≤ 32 → 32 - i3.toInt < n → rk_wp (d + 3) rm_X5_firstThatHolds 3 [(4, .int i3), (0, .ref 20), (1, .int x), (2, .ref f), (3, .ref 18)] [] h (fun v h' => h' = h ∧ ∃ y : Int32, v = some (.int y) ∧ (-6 ≤ y.toInt ∧ y.toInt ≤ 31)) := by
    intro n
    induction n with
    | zero => intro i3 l4 l5 l6; omega
    | succ n ih2 =>
      intro i3 l4 l5 l6
      refine wp_go (pc' := 6) (lv' := [(4, .int i3), (0, .ref 20), (1, .int x), (2, .ref f), (3, .ref 18)]) (st' := [.ref 20, .int i3]) (h' := h) 2 rfl ?_
      refine wp_gI hI (show rk_Y 20 = some (5, 5, rk_slot [.inr [21], .inl [(0, 32)], .inl [(0, 32)], rk_any, rk_any]) from rfl) rfl rfl rfl (by decide) rfl (fun y9 b10 g11 => ?_)
      have b10 := rk_one b10
      refine wp_if2 (tg := 37) rfl rfl (fun c12 => ?_) (fun c12 => ?_)
      · have q13 : y9.toInt ≤ i3.toInt := of_decide_eq_true (p := y9.toInt ≤ i3.toInt) c12
        refine wp_go (pc' := 39) (lv' := [(4, .int i3), (0, .ref 20), (1, .int x), (2, .ref f), (3, .ref 18)]) (st' := [.int ((Int8.ofInt (-6)).toInt32)]) (h' := h) 1 rfl ?_
        exact wp_ret rfl rfl ⟨rfl, _, rfl, by rw [show (((Int8.ofInt (-6)).toInt32)).toInt = -6 by decide]; omega⟩
      · have q13 : ¬ (y9.toInt ≤ i3.toInt) := of_decide_eq_false (p := y9.toInt ≤ i3.toInt) c12
        refine wp_go (pc' := 13) (lv' := [(4, .int i3), (0, .ref 20), (1, .int x), (2, .ref f), (3, .ref 18)]) (st' := [.ref 20]) (h' := h) 1 rfl ?_
        refine wp_gR hI (show rk_Y 20 = some (5, 5, rk_slot [.inr [21], .inl [(0, 32)], .inl [(0, 32)], rk_any, rk_any]) from rfl) rfl rfl rfl (by decide) rfl ?_
        refine wp_go (pc' := 18) (lv' := [(4, .int i3), (0, .ref 20), (1, .int x), (2, .ref f), (3, .ref 18)]) (st' := [.int i3, .ref 21]) (h' := h) 1 rfl ?_
        refine wp_aaI hI (show rk_Y 21 = some (12, 32, rk_slot [.inr [22, 25, 28, 31, 34, 37, 40, 43, 46, 49, 52, 55, 58, 61, 64, 67, 70, 73, 76, 79, 82, 85, 88, 91, 94, 97, 100, 103, 106, 109, 112, 115]]) from rfl) (Or.inr (Or.inl rfl)) rfl (by omega) (by omega) rfl (fun b14 m15 g16 => ?_)
        have K17 := rk_ks20 b14 m15
        obtain ⟨z18, z19, z20, z21⟩ := id K17
        refine wp_go (pc' := 22) (lv' := [(4, .int i3), (0, .ref 20), (1, .int x), (2, .ref f), (3, .ref 18)]) (st' := [.ref 18, .ref f, .int x, .ref b14]) (h' := h) 3 rfl ?_
        refine wp_call (M' := rm_X1_holdsFor) (ar := ([.ref b14, .int x, .ref f, .ref 18], [])) rfl rfl (by decide) (by decide) rfl (rk_goT hI z19 rfl rfl rfl rfl) (ct_X1_holdsFor_18 K17 F hI x) (fun v hh r23 => ?_)
        obtain ⟨e24, y22, rfl, r23⟩ := r23
        rw [e24]
        show rk_wp _ _ 25 [(4, .int i3), (0, .ref 20), (1, .int x), (2, .ref f), (3, .ref 18)] [.int y22] h _
        refine wp_if1 (tg := 31) rfl rfl (fun c25 => ?_) (fun c25 => ?_)
        · have q26 : y22.toInt = 0 := of_decide_eq_true (p := y22.toInt = 0) c25
          have t27 : (i3 + Int32.ofInt 1).toInt = i3.toInt + 1 := rk_addI (by decide) (by omega) (by omega)
          refine wp_go (pc' := 3) (lv' := [(4, .int (i3 + Int32.ofInt 1)), (0, .ref 20), (1, .int x), (2, .ref f), (3, .ref 18)]) (st' := []) (h' := h) 2 rfl ?_
          exact ih2 (i3 + Int32.ofInt 1) (by omega) (by omega) (by omega)
        · have q26 : ¬ (y22.toInt = 0) := of_decide_eq_false (p := y22.toInt = 0) c25
          refine wp_go (pc' := 30) (lv' := [(4, .int i3), (0, .ref 20), (1, .int x), (2, .ref f), (3, .ref 18)]) (st' := [.int i3]) (h' := h) 1 rfl ?_
          exact wp_ret rfl rfl ⟨rfl, _, rfl, by omega⟩
  exact loop1 33 (Int32.ofInt 0) (by rw [show ((Int32.ofInt 0)).toInt = 0 by decide]; omega) (by rw [show ((Int32.ofInt 0)).toInt = 0 by decide]; omega) (by rw [show ((Int32.ofInt 0)).toInt = 0 by decide]; omega)
set_option maxRecDepth 100000 in
set_option maxHeartbeats 4000000 in
theorem ct_X5_firstThatHolds_158 {d f : Nat} {h : rk_S} (F : isF f) (hI : rk_Iv rk_Y h) (x : Int32) : rk_wp (d + 3) rm_X5_firstThatHolds 0 [(0, .ref 158), (1, .int x), (2, .ref f), (3, .ref 156)] [] h (fun v h' => h' = h ∧ ∃ y : Int32, v = some (.int y) ∧ (-6 ≤ y.toInt ∧ y.toInt ≤ 31)) := by
  obtain ⟨hf, hU0, hU1, hU2⟩ := id F
  refine wp_go (pc' := 3) (lv' := [(4, .int (Int32.ofInt 0)), (0, .ref 158), (1, .int x), (2, .ref f), (3, .ref 156)]) (st' := []) (h' := h) 2 rfl ?_
  have loop1 : ∀ (n : Nat) (i3 : Int32), 0 ≤ i3.toInt → i3.toInt ≤ 32 → 32 - i3.toInt < n → rk_wp (d + 3) rm_X5_firstThatHolds 3 [(4, .int i3), (0, .ref 158), (1, .int x), (2, .ref f), (3, .ref 156)] [] h (fun v h' => h' = h ∧ ∃ y : Int32, v = some (.int y) ∧ (-6 ≤ y.toInt ∧ y.toInt ≤ 31)) := by
    intro n
    induction n with
    | zero => intro i3 l4 l5 l6; omega
    | succ n ih2 =>
      intro i3 l4 l5 l6
      refine wp_go (pc' := 6) (lv' := [(4, .int i3), (0, .ref 158), (1, .int x), (2, .ref f), (3, .ref 156)]) (st' := [.ref 158, .int i3]) (h' := h) 2 rfl ?_
      refine wp_gI hI (show rk_Y 158 = some (5, 5, rk_slot [.inr [159], .inl [(0, 32)], .inl [(0, 32)], rk_any, rk_any]) from rfl) rfl rfl rfl (by decide) rfl (fun y9 b10 g11 => ?_)
      have b10 := rk_one b10
      refine wp_if2 (tg := 37) rfl rfl (fun c12 => ?_) (fun c12 => ?_)
      · have q13 : y9.toInt ≤ i3.toInt := of_decide_eq_true (p := y9.toInt ≤ i3.toInt) c12
        refine wp_go (pc' := 39) (lv' := [(4, .int i3), (0, .ref 158), (1, .int x), (2, .ref f), (3, .ref 156)]) (st' := [.int ((Int8.ofInt (-6)).toInt32)]) (h' := h) 1 rfl ?_
        exact wp_ret rfl rfl ⟨rfl, _, rfl, by rw [show (((Int8.ofInt (-6)).toInt32)).toInt = -6 by decide]; omega⟩
      · have q13 : ¬ (y9.toInt ≤ i3.toInt) := of_decide_eq_false (p := y9.toInt ≤ i3.toInt) c12
        refine wp_go (pc' := 13) (lv' := [(4, .int i3), (0, .ref 158), (1, .int x), (2, .ref f), (3, .ref 156)]) (st' := [.ref 158]) (h' := h) 1 rfl ?_
        refine wp_gR hI (show rk_Y 158 = some (5, 5, rk_slot [.inr [159], .inl [(0, 32)], .inl [(0, 32)], rk_any, rk_any]) from rfl) rfl rfl rfl (by decide) rfl ?_
        refine wp_go (pc' := 18) (lv' := [(4, .int i3), (0, .ref 158), (1, .int x), (2, .ref f), (3, .ref 156)]) (st' := [.int i3, .ref 159]) (h' := h) 1 rfl ?_
        refine wp_aaI hI (show rk_Y 159 = some (12, 32, rk_slot [.inr [160, 163, 166, 169, 172, 175, 178, 181, 184, 187, 190, 193, 196, 199, 202, 205, 208, 211, 214, 217, 220, 223, 226, 229, 232, 235, 238, 241, 244, 247, 250, 253]]) from rfl) (Or.inr (Or.inl rfl)) rfl (by omega) (by omega) rfl (fun b14 m15 g16 => ?_)
        have K17 := rk_ks158 b14 m15
        obtain ⟨z18, z19, z20, z21⟩ := id K17
        refine wp_go (pc' := 22) (lv' := [(4, .int i3), (0, .ref 158), (1, .int x), (2, .ref f), (3, .ref 156)]) (st' := [.ref 156, .ref f, .int x, .ref b14]) (h' := h) 3 rfl ?_
        refine wp_call (M' := rm_X1_holdsFor) (ar := ([.ref b14, .int x, .ref f, .ref 156], [])) rfl rfl (by decide) (by decide) rfl (rk_goT hI z19 rfl rfl rfl rfl) (ct_X1_holdsFor_156 K17 F hI x) (fun v hh r23 => ?_)
        obtain ⟨e24, y22, rfl, r23⟩ := r23
        rw [e24]
        show rk_wp _ _ 25 [(4, .int i3), (0, .ref 158), (1, .int x), (2, .ref f), (3, .ref 156)] [.int y22] h _
        refine wp_if1 (tg := 31) rfl rfl (fun c25 => ?_) (fun c25 => ?_)
        · have q26 : y22.toInt = 0 := of_decide_eq_true (p := y22.toInt = 0) c25
          have t27 : (i3 + Int32.ofInt 1).toInt = i3.toInt + 1 := rk_addI (by decide) (by omega) (by omega)
          refine wp_go (pc' := 3) (lv' := [(4, .int (i3 + Int32.ofInt 1)), (0, .ref 158), (1, .int x), (2, .ref f), (3, .ref 156)]) (st' := []) (h' := h) 2 rfl ?_
          exact ih2 (i3 + Int32.ofInt 1) (by omega) (by omega) (by omega)
        · have q26 : ¬ (y22.toInt = 0) := of_decide_eq_false (p := y22.toInt = 0) c25
          refine wp_go (pc' := 30) (lv' := [(4, .int i3), (0, .ref 158), (1, .int x), (2, .ref f), (3, .ref 156)]) (st' := [.int i3]) (h' := h) 1 rfl ?_
          exact wp_ret rfl rfl ⟨rfl, _, rfl, by omega⟩
  exact loop1 33 (Int32.ofInt 0) (by rw [show ((Int32.ofInt 0)).toInt = 0 by decide]; omega) (by rw [show ((Int32.ofInt 0)).toInt = 0 by decide]; omega) (by rw [show ((Int32.ofInt 0)).toInt = 0 by decide]; omega)
