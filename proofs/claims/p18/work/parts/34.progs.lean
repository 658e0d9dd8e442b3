/-! readers of Program, the World (laid by wip/gen/progs.py) -/
theorem rk_goT {M : rk_M} {na : Nat} {st : List Value} {h : rk_S} {b : Nat} {t : Nat × Nat × (Nat → rk_ST)} {r : List Value} {ar : List Value × List Value} (hI : rk_Iv rk_Y h) (hT : rk_Y b = some t) (hm : M.2.2.2.2.1 = t.1) (hs : Nat.ble na st.length = true) (hd : st.drop na = .ref b :: r) (hg : rk_gx M (.ref b :: (st.take na).reverse) r = some ar) : rk_go M na 1 st h = some ar := by
  obtain ⟨vs, h1, -, -⟩ := hI b t hT
  unfold rk_go
  rw [hs]
  dsimp only [cond, Nat.beq, Bool.or]
  rw [hd]
  dsimp only
  rw [h1]
  dsimp only
  rw [hm, show Nat.beq t.1 t.1 = true from Nat.beq_refl _]
  exact hg
set_option maxRecDepth 100000 in
set_option maxHeartbeats 4000000 in
theorem ct_X3_isFull {d : Nat} {h : rk_S} (hI : rk_Iv rk_Y h) : rk_wp d rm_X3_isFull 0 [(0, .ref 2)] [] h (fun v h' => h' = h ∧ ∃ y : Int32, v = some (.int y) ∧ (y.toInt = 0 ∨ y.toInt = 1)) := by
  refine wp_go (pc' := 1) (lv' := [(0, .ref 2)]) (st' := [.ref 2]) (h' := h) 1 rfl ?_
  refine wp_gI hI (show rk_Y 2 = some (3, 6, rk_slot [.inr [3], .inr [14], .inr [15], .inr [16], .inr [17], .inl [(0, 10)]]) from rfl) rfl rfl rfl (by decide) rfl (fun y1 b2 g3 => ?_)
  have b2 := rk_one b2
  refine wp_go (pc' := 6) (lv' := [(0, .ref 2)]) (st' := [.int ((Int8.ofInt 10).toInt32), .int y1]) (h' := h) 1 rfl ?_
  refine wp_if2 (tg := 13) rfl rfl (fun c4 => ?_) (fun c4 => ?_)
  · have q5 : y1.toInt < (((Int8.ofInt 10).toInt32)).toInt := of_decide_eq_true (p := y1.toInt < (((Int8.ofInt 10).toInt32)).toInt) c4
    rw [show (((Int8.ofInt 10).toInt32)).toInt = 10 by decide] at q5
    refine wp_go (pc' := 14) (lv' := [(0, .ref 2)]) (st' := [.int (Int32.ofInt 0)]) (h' := h) 1 rfl ?_
    exact wp_ret rfl rfl ⟨rfl, _, rfl, by rw [show ((Int32.ofInt 0)).toInt = 0 by decide]; omega⟩
  · have q5 : ¬ (y1.toInt < (((Int8.ofInt 10).toInt32)).toInt) := of_decide_eq_false (p := y1.toInt < (((Int8.ofInt 10).toInt32)).toInt) c4
    rw [show (((Int8.ofInt 10).toInt32)).toInt = 10 by decide] at q5
    refine wp_go (pc' := 14) (lv' := [(0, .ref 2)]) (st' := [.int (Int32.ofInt 1)]) (h' := h) 2 rfl ?_
    exact wp_ret rfl rfl ⟨rfl, _, rfl, by rw [show ((Int32.ofInt 1)).toInt = 1 by decide]; omega⟩
set_option maxRecDepth 100000 in
set_option maxHeartbeats 4000000 in
theorem ct_X3_hasRoutine {d : Nat} {h : rk_S} (hI : rk_Iv rk_Y h) (x : Int32) : rk_wp d rm_X3_hasRoutine 0 [(0, .ref 2), (1, .int x)] [] h (fun v h' => h' = h ∧ ∃ y : Int32, v = some (.int y) ∧ ((y.toInt = 1 ∧ 0 ≤ x.toInt ∧ x.toInt ≤ 9) ∨ y.toInt = 0)) := by
  refine wp_go (pc' := 1) (lv' := [(0, .ref 2), (1, .int x)]) (st' := [.int x]) (h' := h) 1 rfl ?_
  refine wp_if1 (tg := 16) rfl rfl (fun c1 => ?_) (fun c1 => ?_)
  · have q2 : x.toInt < 0 := of_decide_eq_true (p := x.toInt < 0) c1
    refine wp_go (pc' := 17) (lv' := [(0, .ref 2), (1, .int x)]) (st' := [.int (Int32.ofInt 0)]) (h' := h) 1 rfl ?_
    exact wp_ret rfl rfl ⟨rfl, _, rfl, by rw [show ((Int32.ofInt 0)).toInt = 0 by decide]; omega⟩
  · have q2 : ¬ (x.toInt < 0) := of_decide_eq_false (p := x.toInt < 0) c1
    refine wp_go (pc' := 6) (lv' := [(0, .ref 2), (1, .int x)]) (st' := [.ref 2, .int x]) (h' := h) 2 rfl ?_
    refine wp_gI hI (show rk_Y 2 = some (3, 6, rk_slot [.inr [3], .inr [14], .inr [15], .inr [16], .inr [17], .inl [(0, 10)]]) from rfl) rfl rfl rfl (by decide) rfl (fun y3 b4 g5 => ?_)
    have b4 := rk_one b4
    refine wp_if2 (tg := 16) rfl rfl (fun c6 => ?_) (fun c6 => ?_)
    · have q7 : y3.toInt ≤ x.toInt := of_decide_eq_true (p := y3.toInt ≤ x.toInt) c6
      refine wp_go (pc' := 17) (lv' := [(0, .ref 2), (1, .int x)]) (st' := [.int (Int32.ofInt 0)]) (h' := h) 1 rfl ?_
      exact wp_ret rfl rfl ⟨rfl, _, rfl, by rw [show ((Int32.ofInt 0)).toInt = 0 by decide]; omega⟩
    · have q7 : ¬ (y3.toInt ≤ x.toInt) := of_decide_eq_false (p := y3.toInt ≤ x.toInt) c6
      refine wp_go (pc' := 17) (lv' := [(0, .ref 2), (1, .int x)]) (st' := [.int (Int32.ofInt 1)]) (h' := h) 2 rfl ?_
      exact wp_ret rfl rfl ⟨rfl, _, rfl, by rw [show ((Int32.ofInt 1)).toInt = 1 by decide]; omega⟩
set_option maxRecDepth 100000 in
set_option maxHeartbeats 4000000 in
theorem ct_X3_lengthOf {d : Nat} {h : rk_S} (hI : rk_Iv rk_Y h) (x : Int32) : rk_wp (d + 1) rm_X3_lengthOf 0 [(0, .ref 2), (1, .int x)] [] h (fun v h' => h' = h ∧ ∃ y : Int32, v = some (.int y) ∧ (0 ≤ y.toInt ∧ y.toInt ≤ 40 ∧ (y.toInt = 0 ∨ (0 ≤ x.toInt ∧ x.toInt ≤ 9)))) := by
  refine wp_go (pc' := 2) (lv' := [(0, .ref 2), (1, .int x)]) (st' := [.int x, .ref 2]) (h' := h) 2 rfl ?_
  refine wp_call (M' := rm_X3_hasRoutine) (ar := ([.ref 2, .int x], [])) rfl rfl (by decide) (by decide) rfl (rk_goT hI (show rk_Y 2 = some (3, 6, rk_slot [.inr [3], .inr [14], .inr [15], .inr [16], .inr [17], .inl [(0, 10)]]) from rfl) rfl rfl rfl rfl) (ct_X3_hasRoutine hI x) (fun v hh r2 => ?_)
  obtain ⟨e3, y1, rfl, r2⟩ := r2
  rw [e3]
  show rk_wp _ _ 5 [(0, .ref 2), (1, .int x)] [.int y1] h _
  refine wp_if1 (tg := 17) rfl rfl (fun c4 => ?_) (fun c4 => ?_)
  · have q5 : y1.toInt = 0 := of_decide_eq_true (p := y1.toInt = 0) c4
    refine wp_go (pc' := 18) (lv' := [(0, .ref 2), (1, .int x)]) (st' := [.int (Int32.ofInt 0)]) (h' := h) 1 rfl ?_
    exact wp_ret rfl rfl ⟨rfl, _, rfl, by rw [show ((Int32.ofInt 0)).toInt = 0 by decide]; omega⟩
  · have q5 : ¬ (y1.toInt = 0) := of_decide_eq_false (p := y1.toInt = 0) c4
    refine wp_go (pc' := 9) (lv' := [(0, .ref 2), (1, .int x)]) (st' := [.ref 2]) (h' := h) 1 rfl ?_
    refine wp_gR hI (show rk_Y 2 = some (3, 6, rk_slot [.inr [3], .inr [14], .inr [15], .inr [16], .inr [17], .inl [(0, 10)]]) from rfl) rfl rfl rfl (by decide) rfl ?_
    refine wp_go (pc' := 13) (lv' := [(0, .ref 2), (1, .int x)]) (st' := [.int x, .ref 14]) (h' := h) 1 rfl ?_
    refine wp_iaI hI (show rk_Y 14 = some (9, 10, rk_slot [.inl [(0, 40)]]) from rfl) rfl (by omega) (by omega) rfl (fun y6 b7 g8 => ?_)
    have b7 := rk_one b7
    refine wp_go (pc' := 18) (lv' := [(0, .ref 2), (1, .int x)]) (st' := [.int y6]) (h' := h) 1 rfl ?_
    exact wp_ret rfl rfl ⟨rfl, _, rfl, by omega⟩
set_option maxRecDepth 100000 in
set_option maxHeartbeats 4000000 in
theorem ct_X3_actingOf {d : Nat} {h : rk_S} (hI : rk_Iv rk_Y h) (x : Int32) : rk_wp (d + 1) rm_X3_actingOf 0 [(0, .ref 2), (1, .int x)] [] h (fun v h' => h' = h ∧ ∃ y : Int32, v = some (.int y) ∧ True) := by
  refine wp_go (pc' := 2) (lv' := [(0, .ref 2), (1, .int x)]) (st' := [.int x, .ref 2]) (h' := h) 2 rfl ?_
  refine wp_call (M' := rm_X3_hasRoutine) (ar := ([.ref 2, .int x], [])) rfl rfl (by decide) (by decide) rfl (rk_goT hI (show rk_Y 2 = some (3, 6, rk_slot [.inr [3], .inr [14], .inr [15], .inr [16], .inr [17], .inl [(0, 10)]]) from rfl) rfl rfl rfl rfl) (ct_X3_hasRoutine hI x) (fun v hh r2 => ?_)
  obtain ⟨e3, y1, rfl, r2⟩ := r2
  rw [e3]
  show rk_wp _ _ 5 [(0, .ref 2), (1, .int x)] [.int y1] h _
  refine wp_if1 (tg := 17) rfl rfl (fun c4 => ?_) (fun c4 => ?_)
  · have q5 : y1.toInt = 0 := of_decide_eq_true (p := y1.toInt = 0) c4
    refine wp_go (pc' := 18) (lv' := [(0, .ref 2), (1, .int x)]) (st' := [.int (Int32.ofInt 0)]) (h' := h) 1 rfl ?_
    exact wp_ret rfl rfl ⟨rfl, _, rfl, trivial⟩
  · have q5 : ¬ (y1.toInt = 0) := of_decide_eq_false (p := y1.toInt = 0) c4
    refine wp_go (pc' := 9) (lv' := [(0, .ref 2), (1, .int x)]) (st' := [.ref 2]) (h' := h) 1 rfl ?_
    refine wp_gR hI (show rk_Y 2 = some (3, 6, rk_slot [.inr [3], .inr [14], .inr [15], .inr [16], .inr [17], .inl [(0, 10)]]) from rfl) rfl rfl rfl (by decide) rfl ?_
    refine wp_go (pc' := 13) (lv' := [(0, .ref 2), (1, .int x)]) (st' := [.int x, .ref 15]) (h' := h) 1 rfl ?_
    refine wp_iaI hI (show rk_Y 15 = some (9, 10, rk_slot [rk_any]) from rfl) rfl (by omega) (by omega) rfl (fun y6 b7 g8 => ?_)
    have b7 := rk_one b7
    refine wp_go (pc' := 18) (lv' := [(0, .ref 2), (1, .int x)]) (st' := [.int y6]) (h' := h) 1 rfl ?_
    exact wp_ret rfl rfl ⟨rfl, _, rfl, trivial⟩
set_option maxRecDepth 100000 in
set_option maxHeartbeats 4000000 in
theorem ct_X3_readingOf {d : Nat} {h : rk_S} (hI : rk_Iv rk_Y h) (x : Int32) : rk_wp (d + 1) rm_X3_readingOf 0 [(0, .ref 2), (1, .int x)] [] h (fun v h' => h' = h ∧ ∃ y : Int32, v = some (.int y) ∧ True) := by
  refine wp_go (pc' := 2) (lv' := [(0, .ref 2), (1, .int x)]) (st' := [.int x, .ref 2]) (h' := h) 2 rfl ?_
  refine wp_call (M' := rm_X3_hasRoutine) (ar := ([.ref 2, .int x], [])) rfl rfl (by decide) (by decide) rfl (rk_goT hI (show rk_Y 2 = some (3, 6, rk_slot [.inr [3], .inr [14], .inr [15], .inr [16], .inr [17], .inl [(0, 10)]]) from rfl) rfl rfl rfl rfl) (ct_X3_hasRoutine hI x) (fun v hh r2 => ?_)
  obtain ⟨e3, y1, rfl, r2⟩ := r2
  rw [e3]
  show rk_wp _ _ 5 [(0, .ref 2), (1, .int x)] [.int y1] h _
  refine wp_if1 (tg := 17) rfl rfl (fun c4 => ?_) (fun c4 => ?_)
  · have q5 : y1.toInt = 0 := of_decide_eq_true (p := y1.toInt = 0) c4
    refine wp_go (pc' := 18) (lv' := [(0, .ref 2), (1, .int x)]) (st' := [.int (Int32.ofInt 0)]) (h' := h) 1 rfl ?_
    exact wp_ret rfl rfl ⟨rfl, _, rfl, trivial⟩
  · have q5 : ¬ (y1.toInt = 0) := of_decide_eq_false (p := y1.toInt = 0) c4
    refine wp_go (pc' := 9) (lv' := [(0, .ref 2), (1, .int x)]) (st' := [.ref 2]) (h' := h) 1 rfl ?_
    refine wp_gR hI (show rk_Y 2 = some (3, 6, rk_slot [.inr [3], .inr [14], .inr [15], .inr [16], .inr [17], .inl [(0, 10)]]) from rfl) rfl rfl rfl (by decide) rfl ?_
    refine wp_go (pc' := 13) (lv' := [(0, .ref 2), (1, .int x)]) (st' := [.int x, .ref 16]) (h' := h) 1 rfl ?_
    refine wp_iaI hI (show rk_Y 16 = some (9, 10, rk_slot [rk_any]) from rfl) rfl (by omega) (by omega) rfl (fun y6 b7 g8 => ?_)
    have b7 := rk_one b7
    refine wp_go (pc' := 18) (lv' := [(0, .ref 2), (1, .int x)]) (st' := [.int y6]) (h' := h) 1 rfl ?_
    exact wp_ret rfl rfl ⟨rfl, _, rfl, trivial⟩
set_option maxRecDepth 100000 in
set_option maxHeartbeats 4000000 in
theorem ct_X6_valueOf_18 {d : Nat} {h : rk_S} (hI : rk_Iv rk_Y h) (x : Int32) : rk_wp d rm_X6_valueOf 0 [(0, .ref 18), (1, .int x)] [] h (fun v h' => h' = h ∧ ∃ y : Int32, v = some (.int y) ∧ True) := by
  refine wp_go (pc' := 1) (lv' := [(0, .ref 18), (1, .int x)]) (st' := [.int x]) (h' := h) 1 rfl ?_
  refine wp_if1 (tg := 19) rfl rfl (fun c1 => ?_) (fun c1 => ?_)
  · have q2 : x.toInt < 0 := of_decide_eq_true (p := x.toInt < 0) c1
    refine wp_go (pc' := 20) (lv' := [(0, .ref 18), (1, .int x)]) (st' := [.int (Int32.ofInt 0)]) (h' := h) 1 rfl ?_
    exact wp_ret rfl rfl ⟨rfl, _, rfl, trivial⟩
  · have q2 : ¬ (x.toInt < 0) := of_decide_eq_false (p := x.toInt < 0) c1
    refine wp_go (pc' := 7) (lv' := [(0, .ref 18), (1, .int x)]) (st' := [.int ((Int8.ofInt 16).toInt32), .int x]) (h' := h) 2 rfl ?_
    refine wp_if2 (tg := 19) rfl rfl (fun c3 => ?_) (fun c3 => ?_)
    · have q4 : (((Int8.ofInt 16).toInt32)).toInt ≤ x.toInt := of_decide_eq_true (p := (((Int8.ofInt 16).toInt32)).toInt ≤ x.toInt) c3
      rw [show (((Int8.ofInt 16).toInt32)).toInt = 16 by decide] at q4
      refine wp_go (pc' := 20) (lv' := [(0, .ref 18), (1, .int x)]) (st' := [.int (Int32.ofInt 0)]) (h' := h) 1 rfl ?_
      exact wp_ret rfl rfl ⟨rfl, _, rfl, trivial⟩
    · have q4 : ¬ ((((Int8.ofInt 16).toInt32)).toInt ≤ x.toInt) := of_decide_eq_false (p := (((Int8.ofInt 16).toInt32)).toInt ≤ x.toInt) c3
      rw [show (((Int8.ofInt 16).toInt32)).toInt = 16 by decide] at q4
      refine wp_go (pc' := 11) (lv' := [(0, .ref 18), (1, .int x)]) (st' := [.ref 18]) (h' := h) 1 rfl ?_
      refine wp_gR hI (show rk_Y 18 = some (6, 2, rk_slot [.inr [19], rk_any]) from rfl) rfl rfl rfl (by decide) rfl ?_
      refine wp_go (pc' := 15) (lv' := [(0, .ref 18), (1, .int x)]) (st' := [.int x, .ref 19]) (h' := h) 1 rfl ?_
      refine wp_iaI hI (show rk_Y 19 = some (9, 16, rk_slot [rk_any]) from rfl) rfl (by omega) (by omega) rfl (fun y5 b6 g7 => ?_)
      have b6 := rk_one b6
      refine wp_go (pc' := 20) (lv' := [(0, .ref 18), (1, .int x)]) (st' := [.int y5]) (h' := h) 1 rfl ?_
      exact wp_ret rfl rfl ⟨rfl, _, rfl, trivial⟩
set_option maxRecDepth 100000 in
set_option maxHeartbeats 4000000 in
theorem ct_X6_setValue_18 {d : Nat} {h : rk_S} (hI : rk_Iv rk_Y h) (x z : Int32) : rk_wp d rm_X6_setValue 0 [(0, .ref 18), (1, .int x), (2, .int z)] [] h (fun v h' => v = none ∧ rk_Iv rk_Y h' ∧ rk_Fr (fun b => b = 19) h h') := by
  refine wp_go (pc' := 1) (lv' := [(0, .ref 18), (1, .int x), (2, .int z)]) (st' := [.int x]) (h' := h) 1 rfl ?_
  refine wp_if1 (tg := 17) rfl rfl (fun c1 => ?_) (fun c1 => ?_)
  · have q2 : x.toInt < 0 := of_decide_eq_true (p := x.toInt < 0) c1
    exact wp_ret rfl rfl ⟨rfl, hI, (rk_Fr.refl h)⟩
  · have q2 : ¬ (x.toInt < 0) := of_decide_eq_false (p := x.toInt < 0) c1
    refine wp_go (pc' := 7) (lv' := [(0, .ref 18), (1, .int x), (2, .int z)]) (st' := [.int ((Int8.ofInt 16).toInt32), .int x]) (h' := h) 2 rfl ?_
    refine wp_if2 (tg := 17) rfl rfl (fun c3 => ?_) (fun c3 => ?_)
    · have q4 : (((Int8.ofInt 16).toInt32)).toInt ≤ x.toInt := of_decide_eq_true (p := (((Int8.ofInt 16).toInt32)).toInt ≤ x.toInt) c3
      rw [show (((Int8.ofInt 16).toInt32)).toInt = 16 by decide] at q4
      exact wp_ret rfl rfl ⟨rfl, hI, (rk_Fr.refl h)⟩
    · have q4 : ¬ ((((Int8.ofInt 16).toInt32)).toInt ≤ x.toInt) := of_decide_eq_false (p := (((Int8.ofInt 16).toInt32)).toInt ≤ x.toInt) c3
      rw [show (((Int8.ofInt 16).toInt32)).toInt = 16 by decide] at q4
      refine wp_go (pc' := 11) (lv' := [(0, .ref 18), (1, .int x), (2, .int z)]) (st' := [.ref 18]) (h' := h) 1 rfl ?_
      refine wp_gR hI (show rk_Y 18 = some (6, 2, rk_slot [.inr [19], rk_any]) from rfl) rfl rfl rfl (by decide) rfl ?_
      refine wp_go (pc' := 16) (lv' := [(0, .ref 18), (1, .int x), (2, .int z)]) (st' := [.int z, .int x, .ref 19]) (h' := h) 2 rfl ?_
      refine wp_iasI hI (show rk_Y 19 = some (9, 16, rk_slot [rk_any]) from rfl) (by decide) rfl (by omega) (by omega) (rk_ok_any _) (fun h5 e6 hI7 g8 => ?_)
      have f9 : rk_Fr (fun b => b = 19) h h5 := by rw [e6]; exact (rk_Fr.refl h).put rfl
      exact wp_ret rfl rfl ⟨rfl, hI7, f9⟩
set_option maxRecDepth 100000 in
set_option maxHeartbeats 4000000 in
theorem ct_X6_valueOf_156 {d : Nat} {h : rk_S} (hI : rk_Iv rk_Y h) (x : Int32) : rk_wp d rm_X6_valueOf 0 [(0, .ref 156), (1, .int x)] [] h (fun v h' => h' = h ∧ ∃ y : Int32, v = some (.int y) ∧ True) := by
  refine wp_go (pc' := 1) (lv' := [(0, .ref 156), (1, .int x)]) (st' := [.int x]) (h' := h) 1 rfl ?_
  refine wp_if1 (tg := 19) rfl rfl (fun c1 => ?_) (fun c1 => ?_)
  · have q2 : x.toInt < 0 := of_decide_eq_true (p := x.toInt < 0) c1
    refine wp_go (pc' := 20) (lv' := [(0, .ref 156), (1, .int x)]) (st' := [.int (Int32.ofInt 0)]) (h' := h) 1 rfl ?_
    exact wp_ret rfl rfl ⟨rfl, _, rfl, trivial⟩
  · have q2 : ¬ (x.toInt < 0) := of_decide_eq_false (p := x.toInt < 0) c1
    refine wp_go (pc' := 7) (lv' := [(0, .ref 156), (1, .int x)]) (st' := [.int ((Int8.ofInt 16).toInt32), .int x]) (h' := h) 2 rfl ?_
    refine wp_if2 (tg := 19) rfl rfl (fun c3 => ?_) (fun c3 => ?_)
    · have q4 : (((Int8.ofInt 16).toInt32)).toInt ≤ x.toInt := of_decide_eq_true (p := (((Int8.ofInt 16).toInt32)).toInt ≤ x.toInt) c3
      rw [show (((Int8.ofInt 16).toInt32)).toInt = 16 by decide] at q4
      refine wp_go (pc' := 20) (lv' := [(0, .ref 156), (1, .int x)]) (st' := [.int (Int32.ofInt 0)]) (h' := h) 1 rfl ?_
      exact wp_ret rfl rfl ⟨rfl, _, rfl, trivial⟩
    · have q4 : ¬ ((((Int8.ofInt 16).toInt32)).toInt ≤ x.toInt) := of_decide_eq_false (p := (((Int8.ofInt 16).toInt32)).toInt ≤ x.toInt) c3
      rw [show (((Int8.ofInt 16).toInt32)).toInt = 16 by decide] at q4
      refine wp_go (pc' := 11) (lv' := [(0, .ref 156), (1, .int x)]) (st' := [.ref 156]) (h' := h) 1 rfl ?_
      refine wp_gR hI (show rk_Y 156 = some (6, 2, rk_slot [.inr [157], rk_any]) from rfl) rfl rfl rfl (by decide) rfl ?_
      refine wp_go (pc' := 15) (lv' := [(0, .ref 156), (1, .int x)]) (st' := [.int x, .ref 157]) (h' := h) 1 rfl ?_
      refine wp_iaI hI (show rk_Y 157 = some (9, 16, rk_slot [rk_any]) from rfl) rfl (by omega) (by omega) rfl (fun y5 b6 g7 => ?_)
      have b6 := rk_one b6
      refine wp_go (pc' := 20) (lv' := [(0, .ref 156), (1, .int x)]) (st' := [.int y5]) (h' := h) 1 rfl ?_
      exact wp_ret rfl rfl ⟨rfl, _, rfl, trivial⟩
set_option maxRecDepth 100000 in
set_option maxHeartbeats 4000000 in
theorem ct_X6_setValue_156 {d : Nat} {h : rk_S} (hI : rk_Iv rk_Y h) (x z : Int32) : rk_wp d rm_X6_setValue 0 [(0, .ref 156), (1, .int x), (2, .int z)] [] h (fun v h' => v = none ∧ rk_Iv rk_Y h' ∧ rk_Fr (fun b => b = 157) h h') := by
  refine wp_go (pc' := 1) (lv' := [(0, .ref 156), (1, .int x), (2, .int z)]) (st' := [.int x]) (h' := h) 1 rfl ?_
  refine wp_if1 (tg := 17) rfl rfl (fun c1 => ?_) (fun c1 => ?_)
  · have q2 : x.toInt < 0 := of_decide_eq_true (p := x.toInt < 0) c1
    exact wp_ret rfl rfl ⟨rfl, hI, (rk_Fr.refl h)⟩
  · have q2 : ¬ (x.toInt < 0) := of_decide_eq_false (p := x.toInt < 0) c1
    refine wp_go (pc' := 7) (lv' := [(0, .ref 156), (1, .int x), (2, .int z)]) (st' := [.int ((Int8.ofInt 16).toInt32), .int x]) (h' := h) 2 rfl ?_
    refine wp_if2 (tg := 17) rfl rfl (fun c3 => ?_) (fun c3 => ?_)
    · have q4 : (((Int8.ofInt 16).toInt32)).toInt ≤ x.toInt := of_decide_eq_true (p := (((Int8.ofInt 16).toInt32)).toInt ≤ x.toInt) c3
      rw [show (((Int8.ofInt 16).toInt32)).toInt = 16 by decide] at q4
      exact wp_ret rfl rfl ⟨rfl, hI, (rk_Fr.refl h)⟩
    · have q4 : ¬ ((((Int8.ofInt 16).toInt32)).toInt ≤ x.toInt) := of_decide_eq_false (p := (((Int8.ofInt 16).toInt32)).toInt ≤ x.toInt) c3
      rw [show (((Int8.ofInt 16).toInt32)).toInt = 16 by decide] at q4
      refine wp_go (pc' := 11) (lv' := [(0, .ref 156), (1, .int x), (2, .int z)]) (st' := [.ref 156]) (h' := h) 1 rfl ?_
      refine wp_gR hI (show rk_Y 156 = some (6, 2, rk_slot [.inr [157], rk_any]) from rfl) rfl rfl rfl (by decide) rfl ?_
      refine wp_go (pc' := 16) (lv' := [(0, .ref 156), (1, .int x), (2, .int z)]) (st' := [.int z, .int x, .ref 157]) (h' := h) 2 rfl ?_
      refine wp_iasI hI (show rk_Y 157 = some (9, 16, rk_slot [rk_any]) from rfl) (by decide) rfl (by omega) (by omega) (rk_ok_any _) (fun h5 e6 hI7 g8 => ?_)
      have f9 : rk_Fr (fun b => b = 157) h h5 := by rw [e6]; exact (rk_Fr.refl h).put rfl
      exact wp_ret rfl rfl ⟨rfl, hI7, f9⟩
set_option maxRecDepth 100000 in
set_option maxHeartbeats 4000000 in
theorem ct_X6_copyFrom {d : Nat} {h : rk_S} (hI : rk_Iv rk_Y h) : rk_wp d rm_X6_copyFrom 0 [(0, .ref 156), (1, .ref 18)] [] h (fun v h' => v = none ∧ rk_Iv rk_Y h' ∧ rk_Fr (fun b => b = 156 ∨ b = 157) h h') := by
  refine wp_go (pc' := 2) (lv' := [(2, .int (Int32.ofInt 0)), (0, .ref 156), (1, .ref 18)]) (st' := []) (h' := h) 2 rfl ?_
  have loop1 : ∀ (n : Nat) (i3 : Int32) (hh4 : rk_S), 0 ≤ i3.toInt → i3.toInt ≤ 16 → 16 - i3.toInt < n → rk_Iv rk_Y hh4 → rk_Fr (fun b => b = 156 ∨ b = 157) h hh4 → rk_wp d rm_X6_copyFrom 2 [(2, .int i3), (0, .ref 156), (1, .ref 18)] [] hh4 (fun v h' => v = none ∧ rk_Iv rk_Y h' ∧ rk_Fr (fun b => b = 156 ∨ b = 157) h h') := by
    intro n
    induction n with
    | zero => intro i3 hh4 l5 l6 l7; omega
    | succ n ih2 =>
      intro i3 hh4 l5 l6 l7 hJ8 fJ9
      refine wp_go (pc' := 5) (lv' := [(2, .int i3), (0, .ref 156), (1, .ref 18)]) (st' := [.int ((Int8.ofInt 16).toInt32), .int i3]) (h' := hh4) 2 rfl ?_
      refine wp_if2 (tg := 26) rfl rfl (fun c10 => ?_) (fun c10 => ?_)
      · have q11 : (((Int8.ofInt 16).toInt32)).toInt ≤ i3.toInt := of_decide_eq_true (p := (((Int8.ofInt 16).toInt32)).toInt ≤ i3.toInt) c10
        rw [show (((Int8.ofInt 16).toInt32)).toInt = 16 by decide] at q11
        refine wp_go (pc' := 28) (lv' := [(2, .int i3), (0, .ref 156), (1, .ref 18)]) (st' := [.ref 18, .ref 156]) (h' := hh4) 2 rfl ?_
        refine wp_gI hJ8 (show rk_Y 18 = some (6, 2, rk_slot [.inr [19], rk_any]) from rfl) rfl rfl rfl (by decide) rfl (fun y12 b13 g14 => ?_)
        have b13 := rk_one b13
        refine wp_pI hJ8 (show rk_Y 156 = some (6, 2, rk_slot [.inr [157], rk_any]) from rfl) (by decide) rfl rfl rfl (by decide) (rk_ok_any _) rfl rfl (fun h15 e16 hI17 g18 => ?_)
        have f19 : rk_Fr (fun b => b = 156 ∨ b = 157) h h15 := by rw [e16]; exact fJ9.put (Or.inl rfl)
        exact wp_ret rfl rfl ⟨rfl, hI17, f19⟩
      · have q11 : ¬ ((((Int8.ofInt 16).toInt32)).toInt ≤ i3.toInt) := of_decide_eq_false (p := (((Int8.ofInt 16).toInt32)).toInt ≤ i3.toInt) c10
        rw [show (((Int8.ofInt 16).toInt32)).toInt = 16 by decide] at q11
        refine wp_go (pc' := 9) (lv' := [(2, .int i3), (0, .ref 156), (1, .ref 18)]) (st' := [.ref 156]) (h' := hh4) 1 rfl ?_
        refine wp_gR hJ8 (show rk_Y 156 = some (6, 2, rk_slot [.inr [157], rk_any]) from rfl) rfl rfl rfl (by decide) rfl ?_
        refine wp_go (pc' := 14) (lv' := [(2, .int i3), (0, .ref 156), (1, .ref 18)]) (st' := [.ref 18, .int i3, .ref 157]) (h' := hh4) 2 rfl ?_
        refine wp_gR hJ8 (show rk_Y 18 = some (6, 2, rk_slot [.inr [19], rk_any]) from rfl) rfl rfl rfl (by decide) rfl ?_
        refine wp_go (pc' := 18) (lv' := [(2, .int i3), (0, .ref 156), (1, .ref 18)]) (st' := [.int i3, .ref 19, .int i3, .ref 157]) (h' := hh4) 1 rfl ?_
        refine wp_iaI hJ8 (show rk_Y 19 = some (9, 16, rk_slot [rk_any]) from rfl) rfl (by omega) (by omega) rfl (fun y20 b21 g22 => ?_)
        have b21 := rk_one b21
        refine wp_iasI hJ8 (show rk_Y 157 = some (9, 16, rk_slot [rk_any]) from rfl) (by decide) rfl (by omega) (by omega) (rk_ok_any _) (fun h23 e24 hI25 g26 => ?_)
        have f27 : rk_Fr (fun b => b = 156 ∨ b = 157) h h23 := by rw [e24]; exact fJ9.put (Or.inr rfl)
        have t28 : (i3 + Int32.ofInt 1).toInt = i3.toInt + 1 := rk_addI (by decide) (by omega) (by omega)
        refine wp_go (pc' := 2) (lv' := [(2, .int (i3 + Int32.ofInt 1)), (0, .ref 156), (1, .ref 18)]) (st' := []) (h' := h23) 2 rfl ?_
        exact ih2 (i3 + Int32.ofInt 1) h23 (by omega) (by omega) (by omega) hI25 f27
  exact loop1 17 (Int32.ofInt 0) h (by rw [show ((Int32.ofInt 0)).toInt = 0 by decide]; omega) (by rw [show ((Int32.ofInt 0)).toInt = 0 by decide]; omega) (by rw [show ((Int32.ofInt 0)).toInt = 0 by decide]; omega) hI (rk_Fr.refl h)
