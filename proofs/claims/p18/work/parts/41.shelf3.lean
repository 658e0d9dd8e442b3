/-! nextToGo (laid by wip/gen/shelf3.py) -/
theorem wp_lv {d : Nat} {M : rk_M} {pc : Nat} {lv lv' : rk_L} {st : List Value} {h : rk_S} {Q : Option Value → rk_S → Prop} (hl : rk_le lv lv') (he : rk_wp d M pc lv st h Q) : rk_wp d M pc lv' st h Q := by
  obtain ⟨o, ⟨n, h1⟩, h2⟩ := he
  exact ⟨o, ⟨n, rk_ex_lv _ _ _ _ _ _ _ _ _ hl h1⟩, h2⟩
def rk_c1B : rk_L → Bool
  | [] => true
  | (_, .int _) :: r => rk_c1B r
  | (_, .ref _) :: r => rk_c1B r
  | _ :: _ => false
theorem rk_c1B_ok : ∀ {lv : rk_L}, rk_c1B lv = true → rk_c1 lv
  | [], _ => fun q hq => by cases hq
  | (k, .int x) :: r, h => fun q hq => by
    rcases List.mem_cons.mp hq with rfl | hq
    · simp [Value.category]
    · exact rk_c1B_ok (lv := r) h q hq
  | (k, .ref x) :: r, h => fun q hq => by
    rcases List.mem_cons.mp hq with rfl | hq
    · simp [Value.category]
    · exact rk_c1B_ok (lv := r) h q hq
  | (_, .long _) :: _, h => by cases h
  | (_, .float _) :: _, h => by cases h
  | (_, .double _) :: _, h => by cases h
  | (_, .null) :: _, h => by cases h
  | (_, .retAddr _) :: _, h => by cases h
theorem rk_le_of {lv lv' : rk_L} (h : ∀ q ∈ lv, rk_find lv' q.1 = some q.2) (h1 : rk_c1B lv = true) (h2 : rk_c1B lv' = true) : rk_le lv lv' := ⟨rk_c1B_ok h1, rk_c1B_ok h2, fun k v hk => h (k, v) (rk_find_mem hk)⟩
set_option maxRecDepth 100000 in
set_option maxHeartbeats 4000000 in
theorem ct_X5_nextToGo_20 {d : Nat} {h : rk_S} (hI : rk_Iv rk_Y h) : rk_wp (d + 1) rm_X5_nextToGo 0 [(0, .ref 20)] [] h (fun v h' => h' = h ∧ ∃ y : Int32, v = some (.int y) ∧ (0 ≤ y.toInt ∧ y.toInt ≤ 31)) := by
  refine wp_go (pc' := 4) (lv' := [(2, .int (Int32.ofInt 1)), (1, .int (Int32.ofInt 0)), (0, .ref 20)]) (st' := []) (h' := h) 4 rfl ?_
  have loop1 : ∀ (n : Nat) (i3 : Int32) (j4 : Int32), 1 ≤ i3.toInt → i3.toInt ≤ 32 → 32 - i3.toInt < n → 0 ≤ j4.toInt → j4.toInt ≤ 31 → rk_wp (d + 1) rm_X5_nextToGo 4 [(2, .int i3), (1, .int j4), (0, .ref 20)] [] h (fun v h' => h' = h ∧ ∃ y : Int32, v = some (.int y) ∧ (0 ≤ y.toInt ∧ y.toInt ≤ 31)) := by
    intro n
    induction n with
    | zero => intro i3 j4 l5 l6 l7; omega
    | succ n ih2 =>
      intro i3 j4 l5 l6 l7 l10 l11
      refine wp_go (pc' := 6) (lv' := [(2, .int i3), (1, .int j4), (0, .ref 20)]) (st' := [.ref 20, .int i3]) (h' := h) 2 rfl ?_
      refine wp_gI hI (show rk_Y 20 = some (5, 5, rk_slot [.inr [21], .inl [(0, 32)], .inl [(0, 32)], rk_any, rk_any]) from rfl) rfl rfl rfl (by decide) rfl (fun y12 b13 g14 => ?_)
      have b13 := rk_one b13
      refine wp_if2 (tg := 39) rfl rfl (fun c15 => ?_) (fun c15 => ?_)
      · have q16 : y12.toInt ≤ i3.toInt := of_decide_eq_true (p := y12.toInt ≤ i3.toInt) c15
        refine wp_go (pc' := 40) (lv' := [(2, .int i3), (1, .int j4), (0, .ref 20)]) (st' := [.int j4]) (h' := h) 1 rfl ?_
        exact wp_ret rfl rfl ⟨rfl, _, rfl, by omega⟩
      · have q16 : ¬ (y12.toInt ≤ i3.toInt) := of_decide_eq_false (p := y12.toInt ≤ i3.toInt) c15
        refine wp_go (pc' := 14) (lv' := [(2, .int i3), (1, .int j4), (0, .ref 20)]) (st' := [.ref 20, .ref 20]) (h' := h) 2 rfl ?_
        refine wp_gR hI (show rk_Y 20 = some (5, 5, rk_slot [.inr [21], .inl [(0, 32)], .inl [(0, 32)], rk_any, rk_any]) from rfl) rfl rfl rfl (by decide) rfl ?_
        refine wp_go (pc' := 18) (lv' := [(2, .int i3), (1, .int j4), (0, .ref 20)]) (st' := [.int i3, .ref 21, .ref 20]) (h' := h) 1 rfl ?_
        refine wp_aaI hI (show rk_Y 21 = some (12, 32, rk_slot [.inr [22, 25, 28, 31, 34, 37, 40, 43, 46, 49, 52, 55, 58, 61, 64, 67, 70, 73, 76, 79, 82, 85, 88, 91, 94, 97, 100, 103, 106, 109, 112, 115]]) from rfl) (Or.inr (Or.inl rfl)) rfl (by omega) (by omega) rfl (fun b17 m18 g19 => ?_)
        have K20 := rk_ks20 b17 m18
        obtain ⟨z21, z22, z23, z24⟩ := id K20
        refine wp_go (pc' := 20) (lv' := [(2, .int i3), (1, .int j4), (0, .ref 20)]) (st' := [.ref 20, .ref b17, .ref 20]) (h' := h) 1 rfl ?_
        refine wp_gR hI (show rk_Y 20 = some (5, 5, rk_slot [.inr [21], .inl [(0, 32)], .inl [(0, 32)], rk_any, rk_any]) from rfl) rfl rfl rfl (by decide) rfl ?_
        refine wp_go (pc' := 24) (lv' := [(2, .int i3), (1, .int j4), (0, .ref 20)]) (st' := [.int j4, .ref 21, .ref b17, .ref 20]) (h' := h) 1 rfl ?_
        refine wp_aaI hI (show rk_Y 21 = some (12, 32, rk_slot [.inr [22, 25, 28, 31, 34, 37, 40, 43, 46, 49, 52, 55, 58, 61, 64, 67, 70, 73, 76, 79, 82, 85, 88, 91, 94, 97, 100, 103, 106, 109, 112, 115]]) from rfl) (Or.inr (Or.inl rfl)) rfl (by omega) (by omega) rfl (fun b25 m26 g27 => ?_)
        have K28 := rk_ks20 b25 m26
        obtain ⟨z29, z30, z31, z32⟩ := id K28
        refine wp_call (M' := rm_X5_goesAheadOf) (ar := ([.ref 20, .ref b17, .ref b25], [])) rfl rfl (by decide) (by decide) rfl (rk_goT hI (show rk_Y 20 = some (5, 5, rk_slot [.inr [21], .inl [(0, 32)], .inl [(0, 32)], rk_any, rk_any]) from rfl) rfl rfl rfl rfl) (ct_X5_goesAheadOf_20 K20 K28 hI ) (fun v hh r34 => ?_)
        obtain ⟨e35, y33, rfl, r34⟩ := r34
        rw [e35]
        show rk_wp _ _ 28 [(2, .int i3), (1, .int j4), (0, .ref 20)] [.int y33] h _
        refine wp_if1 (tg := 33) rfl rfl (fun c36 => ?_) (fun c36 => ?_)
        · have q37 : y33.toInt = 0 := of_decide_eq_true (p := y33.toInt = 0) c36
          have t38 : (i3 + Int32.ofInt 1).toInt = i3.toInt + 1 := rk_addI (by decide) (by omega) (by omega)
          refine wp_go (pc' := 4) (lv' := [(2, .int (i3 + Int32.ofInt 1)), (1, .int j4), (0, .ref 20)]) (st' := []) (h' := h) 2 rfl ?_
          exact ih2 (i3 + Int32.ofInt 1) j4 (by omega) (by omega) (by omega) (by omega) (by omega)
        · have q37 : ¬ (y33.toInt = 0) := of_decide_eq_false (p := y33.toInt = 0) c36
          have t39 : (i3 + Int32.ofInt 1).toInt = i3.toInt + 1 := rk_addI (by decide) (by omega) (by omega)
          refine wp_go (pc' := 4) (lv' := [(2, .int (i3 + Int32.ofInt 1)), (1, .int i3), (0, .ref 20)]) (st' := []) (h' := h) 4 rfl ?_
          exact ih2 (i3 + Int32.ofInt 1) i3 (by omega) (by omega) (by omega) (by omega) (by omega)
  exact loop1 32 (Int32.ofInt 1) (Int32.ofInt 0) (by rw [show ((Int32.ofInt 1)).toInt = 1 by decide]; omega) (by rw [show ((Int32.ofInt 1)).toInt = 1 by decide]; omega) (by rw [show ((Int32.ofInt 1)).toInt = 1 by decide]; omega) (by rw [show ((Int32.ofInt 0)).toInt = 0 by decide]; omega) (by rw [show ((Int32.ofInt 0)).toInt = 0 by decide]; omega)
set_option maxRecDepth 100000 in
set_option maxHeartbeats 4000000 in
theorem ct_X5_nextToGo_158 {d : Nat} {h : rk_S} (hI : rk_Iv rk_Y h) : rk_wp (d + 1) rm_X5_nextToGo 0 [(0, .ref 158)] [] h (fun v h' => h' = h ∧ ∃ y : Int32, v = some (.int y) ∧ (0 ≤ y.toInt ∧ y.toInt ≤ 31)) := by
  refine wp_go (pc' := 4) (lv' := [(2, .int (Int32.ofInt 1)), (1, .int (Int32.ofInt 0)), (0, .ref 158)]) (st' := []) (h' := h) 4 rfl ?_
  have loop1 : ∀ (n : Nat) (i3 : Int32) (j4 : Int32), 1 ≤ i3.toInt → i3.toInt ≤ 32 → 32 - i3.toInt < n → 0 ≤ j4.toInt → j4.toInt ≤ 31 → rk_wp (d + 1) rm_X5_nextToGo 4 [(2, .int i3), (1, .int j4), (0, .ref 158)] [] h (fun v h' => h' = h ∧ ∃ y : Int32, v = some (.int y) ∧ (0 ≤ y.toInt ∧ y.toInt ≤ 31)) := by
    intro n
    induction n with
    | zero => intro i3 j4 l5 l6 l7; omega
    | succ n ih2 =>
      intro i3 j4 l5 l6 l7 l10 l11
      refine wp_go (pc' := 6) (lv' := [(2, .int i3), (1, .int j4), (0, .ref 158)]) (st' := [.ref 158, .int i3]) (h' := h) 2 rfl ?_
      refine wp_gI hI (show rk_Y 158 = some (5, 5, rk_slot [.inr [159], .inl [(0, 32)], .inl [(0, 32)], rk_any, rk_any]) from rfl) rfl rfl rfl (by decide) rfl (fun y12 b13 g14 => ?_)
      have b13 := rk_one b13
      refine wp_if2 (tg := 39) rfl rfl (fun c15 => ?_) (fun c15 => ?_)
      · have q16 : y12.toInt ≤ i3.toInt := of_decide_eq_true (p := y12.toInt ≤ i3.toInt) c15
        refine wp_go (pc' := 40) (lv' := [(2, .int i3), (1, .int j4), (0, .ref 158)]) (st' := [.int j4]) (h' := h) 1 rfl ?_
        exact wp_ret rfl rfl ⟨rfl, _, rfl, by omega⟩
      · have q16 : ¬ (y12.toInt ≤ i3.toInt) := of_decide_eq_false (p := y12.toInt ≤ i3.toInt) c15
        refine wp_go (pc' := 14) (lv' := [(2, .int i3), (1, .int j4), (0, .ref 158)]) (st' := [.ref 158, .ref 158]) (h' := h) 2 rfl ?_
        refine wp_gR hI (show rk_Y 158 = some (5, 5, rk_slot [.inr [159], .inl [(0, 32)], .inl [(0, 32)], rk_any, rk_any]) from rfl) rfl rfl rfl (by decide) rfl ?_
        refine wp_go (pc' := 18) (lv' := [(2, .int i3), (1, .int j4), (0, .ref 158)]) (st' := [.int i3, .ref 159, .ref 158]) (h' := h) 1 rfl ?_
        refine wp_aaI hI (show rk_Y 159 = some (12, 32, rk_slot [.inr [160, 163, 166, 169, 172, 175, 178, 181, 184, 187, 190, 193, 196, 199, 202, 205, 208, 211, 214, 217, 220, 223, 226, 229, 232, 235, 238, 241, 244, 247, 250, 253]]) from rfl) (Or.inr (Or.inl rfl)) rfl (by omega) (by omega) rfl (fun b17 m18 g19 => ?_)
        have K20 := rk_ks158 b17 m18
        obtain ⟨z21, z22, z23, z24⟩ := id K20
        refine wp_go (pc' := 20) (lv' := [(2, .int i3), (1, .int j4), (0, .ref 158)]) (st' := [.ref 158, .ref b17, .ref 158]) (h' := h) 1 rfl ?_
        refine wp_gR hI (show rk_Y 158 = some (5, 5, rk_slot [.inr [159], .inl [(0, 32)], .inl [(0, 32)], rk_any, rk_any]) from rfl) rfl rfl rfl (by decide) rfl ?_
        refine wp_go (pc' := 24) (lv' := [(2, .int i3), (1, .int j4), (0, .ref 158)]) (st' := [.int j4, .ref 159, .ref b17, .ref 158]) (h' := h) 1 rfl ?_
        refine wp_aaI hI (show rk_Y 159 = some (12, 32, rk_slot [.inr [160, 163, 166, 169, 172, 175, 178, 181, 184, 187, 190, 193, 196, 199, 202, 205, 208, 211, 214, 217, 220, 223, 226, 229, 232, 235, 238, 241, 244, 247, 250, 253]]) from rfl) (Or.inr (Or.inl rfl)) rfl (by omega) (by omega) rfl (fun b25 m26 g27 => ?_)
        have K28 := rk_ks158 b25 m26
        obtain ⟨z29, z30, z31, z32⟩ := id K28
        refine wp_call (M' := rm_X5_goesAheadOf) (ar := ([.ref 158, .ref b17, .ref b25], [])) rfl rfl (by decide) (by decide) rfl (rk_goT hI (show rk_Y 158 = some (5, 5, rk_slot [.inr [159], .inl [(0, 32)], .inl [(0, 32)], rk_any, rk_any]) from rfl) rfl rfl rfl rfl) (ct_X5_goesAheadOf_158 K20 K28 hI ) (fun v hh r34 => ?_)
        obtain ⟨e35, y33, rfl, r34⟩ := r34
        rw [e35]
        show rk_wp _ _ 28 [(2, .int i3), (1, .int j4), (0, .ref 158)] [.int y33] h _
        refine wp_if1 (tg := 33) rfl rfl (fun c36 => ?_) (fun c36 => ?_)
        · have q37 : y33.toInt = 0 := of_decide_eq_true (p := y33.toInt = 0) c36
          have t38 : (i3 + Int32.ofInt 1).toInt = i3.toInt + 1 := rk_addI (by decide) (by omega) (by omega)
          refine wp_go (pc' := 4) (lv' := [(2, .int (i3 + Int32.ofInt 1)), (1, .int j4), (0, .ref 158)]) (st' := []) (h' := h) 2 rfl ?_
          exact ih2 (i3 + Int32.ofInt 1) j4 (by omega) (by omega) (by omega) (by omega) (by omega)
        · have q37 : ¬ (y33.toInt = 0) := of_decide_eq_false (p := y33.toInt = 0) c36
          have t39 : (i3 + Int32.ofInt 1).toInt = i3.toInt + 1 := rk_addI (by decide) (by omega) (by omega)
          refine wp_go (pc' := 4) (lv' := [(2, .int (i3 + Int32.ofInt 1)), (1, .int i3), (0, .ref 158)]) (st' := []) (h' := h) 4 rfl ?_
          exact ih2 (i3 + Int32.ofInt 1) i3 (by omega) (by omega) (by omega) (by omega) (by omega)
  exact loop1 32 (Int32.ofInt 1) (Int32.ofInt 0) (by rw [show ((Int32.ofInt 1)).toInt = 1 by decide]; omega) (by rw [show ((Int32.ofInt 1)).toInt = 1 by decide]; omega) (by rw [show ((Int32.ofInt 1)).toInt = 1 by decide]; omega) (by rw [show ((Int32.ofInt 0)).toInt = 0 by decide]; omega) (by rw [show ((Int32.ofInt 0)).toInt = 0 by decide]; omega)
