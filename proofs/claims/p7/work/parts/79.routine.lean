/-! routine, exactly (laid by wip/gen/sx12.py) -/
def r_alX : List (List xFc) := [[([some (2, [(0, 5)])], [(0, (-1)), (1, (-1)), (2, 1)]), ([some (2, [(0, 5)])], [(0, 1), (1, 1), (2, (-1))]), ([], [(0, 9), (1, (-1))]), ([none], [(1, (-1)), (2, 1)]), ([none], [(1, 1), (2, (-1))])], [([some (2, [(0, 5)])], [(1, (-1)), (2, 1)]), ([some (2, [(0, 5)])], [(1, 1), (2, (-1))]), ([], [(0, (-10)), (1, 1)]), ([none], [(0, 4), (2, 1)]), ([none], [(0, (-4)), (2, (-1))])]]
def r_WX : xC := [((2, 2), ([(0, 5)], [(0, 5)])), ((18, 293), ([(0, (-1))], [(0, 10000)])), ((1, 1), ([(0, 8)], [(0, 9)]))]
set_option maxRecDepth 100000 in
theorem r_kX : xenA 1 r_alX (xrun r_WX [(54, c_54)] [] 300 2 [] none 63 0 (xlvs 0 (xini 1 [.inr [1]]).1) [] (2, [(1, [(0, 10)])], [], [((2, [(0, 5)]), [(1, 1)])])) = true := by decide +kernel
def rPX (_ b k : Nat) : Prop := (b = 2 ∧ k = 5) ∨ (18 ≤ b ∧ b ≤ 293) ∨ b = 1
theorem r_WPX (n : Nat) : xWP (rPX n) [1, (n : Int)] r_WX := by
  intro w hw
  simp only [r_WX, List.mem_cons, List.not_mem_nil, or_false] at hw
  rcases hw with rfl | rfl | rfl
  · exact ⟨_, _, xE1 rfl rfl, xE1 rfl rfl, fun b k h1 h2 h3 h4 => by dsimp only at h1 h2; unfold rPX; omega⟩
  · exact ⟨_, _, xE1 rfl rfl, xE1 rfl rfl, fun b k h1 h2 h3 h4 => by dsimp only at h1 h2; unfold rPX; omega⟩
  · exact ⟨_, _, xE1 rfl rfl, xE1 rfl rfl, fun b k h1 h2 h3 h4 => by dsimp only at h1 h2; unfold rPX; omega⟩
theorem routX_ok {D : Nat} {h : rk_S} (hD : 2 ≤ D) (hI : rk_Iv rk_Y h) : rk_wp D rm_X7_routine 0 (lv_args 0 [.ref 1]) [] h (fun v h' => rk_Iv rk_Y h' ∧ ∃ x : Int32, v = some (.int x) ∧ xfr (rPX (rk_iv h 2 5).toNat) h h' ∧ ((rk_iv h' 2 5 = rk_iv h 2 5 + 1 ∧ rk_iv h 2 5 ≤ 9 ∧ x.toInt = rk_iv h 2 5) ∨ (rk_iv h' 2 5 = rk_iv h 2 5 ∧ 10 ≤ rk_iv h 2 5 ∧ x.toInt = -4))) := by
  obtain ⟨xn, n1, n2, n3⟩ := x_fok_ok hI ty_25
  rw [← n3] at n2
  have n4 := x_one1 n2
  have hn : (((rk_iv h 2 5).toNat : Nat) : Int) = rk_iv h 2 5 := by omega
  have hwp := r_WPX (rk_iv h 2 5).toNat
  rw [hn] at hwp
  refine wp_weak (xexb_ok (P := rPX (rk_iv h 2 5).toNat) (zs := [rk_iv h 2 5]) r_kX (x_cons k_54 x_nil) rfl hD ⟨List.mem_cons_self, trivial⟩ hwp ⟨⟨rfl, ⟨rfl, fun i b hb => ?_⟩, fun t ht => absurd ht List.not_mem_nil⟩, fun p hp => ?_, hI, fun _ _ _ => rfl⟩ rfl) (fun v h' hv => ?_)
  · rcases rk_find_cons hb with ⟨rfl, rfl⟩ | ⟨-, hb⟩
    · exact ⟨_, rfl, n2⟩
    · cases hb
  · cases List.mem_singleton.mp hp
    exact ⟨5, xn, xE1 rfl rfl, n1, xE1 rfl (by rw [n3]; omega)⟩
  · obtain ⟨hI', hf, al, hal, hall⟩ := hv
    have hall : ∀ f ∈ al, xHold [rk_iv h 2 5] h' v f := hall
    refine ⟨hI', ?_⟩
    simp only [r_alX, List.mem_cons, List.not_mem_nil, or_false] at hal
    rcases hal with rfl | rfl
    · obtain ⟨x, rfl, -⟩ := x_fv (hall _ (List.mem_of_getElem? (i := 3) rfl))
      have q0 : 0 ≤ -1 * 1 + (-1 * rk_iv h 2 5 + 1 * rk_iv h' 2 5) := x_f1 (hall _ (List.mem_of_getElem? (i := 0) rfl)) (k := 5) (xE1 rfl rfl) (xE3 rfl rfl rfl rfl)
      have q1 : 0 ≤ 1 * 1 + (1 * rk_iv h 2 5 + -1 * rk_iv h' 2 5) := x_f1 (hall _ (List.mem_of_getElem? (i := 1) rfl)) (k := 5) (xE1 rfl rfl) (xE3 rfl rfl rfl rfl)
      have q2 : 0 ≤ 9 * 1 + -1 * rk_iv h 2 5 := x_f0 (hall _ (List.mem_of_getElem? (i := 2) rfl)) (xE2 rfl rfl rfl)
      have q3 : 0 ≤ -1 * rk_iv h 2 5 + 1 * x.toInt := x_ans (hall _ (List.mem_of_getElem? (i := 3) rfl)) (xE2 rfl rfl rfl)
      have q4 : 0 ≤ 1 * rk_iv h 2 5 + -1 * x.toInt := x_ans (hall _ (List.mem_of_getElem? (i := 4) rfl)) (xE2 rfl rfl rfl)
      exact ⟨x, rfl, hf, by omega⟩
    · obtain ⟨x, rfl, -⟩ := x_fv (hall _ (List.mem_of_getElem? (i := 3) rfl))
      have q0 : 0 ≤ -1 * rk_iv h 2 5 + 1 * rk_iv h' 2 5 := x_f1 (hall _ (List.mem_of_getElem? (i := 0) rfl)) (k := 5) (xE1 rfl rfl) (xE2 rfl rfl rfl)
      have q1 : 0 ≤ 1 * rk_iv h 2 5 + -1 * rk_iv h' 2 5 := x_f1 (hall _ (List.mem_of_getElem? (i := 1) rfl)) (k := 5) (xE1 rfl rfl) (xE2 rfl rfl rfl)
      have q2 : 0 ≤ -10 * 1 + 1 * rk_iv h 2 5 := x_f0 (hall _ (List.mem_of_getElem? (i := 2) rfl)) (xE2 rfl rfl rfl)
      have q3 : 0 ≤ 4 * 1 + 1 * x.toInt := x_ans (hall _ (List.mem_of_getElem? (i := 3) rfl)) (xE2 rfl rfl rfl)
      have q4 : 0 ≤ -4 * 1 + -1 * x.toInt := x_ans (hall _ (List.mem_of_getElem? (i := 4) rfl)) (xE2 rfl rfl rfl)
      exact ⟨x, rfl, hf, by omega⟩
def r_alM : List (List xFc) := [[([some (316, [])], [(0, (-1)), (1, (-1)), (2, 1)]), ([some (316, [])], [(0, 1), (1, 1), (2, (-1))]), ([], [(0, 9), (1, (-1))]), ([some (317, [(1, 1)])], [(2, 1)]), ([some (317, [(1, 1)])], [(2, (-1))]), ([none], [(1, (-1)), (2, 1)]), ([none], [(1, 1), (2, (-1))])], [([some (316, [])], [(1, (-1)), (2, 1)]), ([some (316, [])], [(1, 1), (2, (-1))]), ([], [(0, (-10)), (1, 1)]), ([none], [(0, 4), (2, 1)]), ([none], [(0, (-4)), (2, (-1))])]]
def r_WM : xC := [((317, 317), ([(1, 1)], [(1, 1)])), ((316, 316), ([], [])), ((319, 343), ([(0, (-1))], [(0, 10000)])), ((316, 316), ([(0, 3)], [(0, 44)]))]
set_option maxRecDepth 100000 in
theorem r_kM : xenA 1 r_alM (xrun r_WM [] [] 300 0 [] none 91 0 (xlvs 0 (xini 1 [.inr [316]]).1) [] (2, [(1, [(0, 10)])], [], [((316, []), [(1, 1)])])) = true := by decide +kernel
def rPM (n b k : Nat) : Prop := (b = 317 ∧ k = n) ∨ (b = 316 ∧ (k = 0 ∨ (3 ≤ k ∧ k ≤ 44))) ∨ (319 ≤ b ∧ b ≤ 343)
theorem r_WPM (n : Nat) : xWP (rPM n) [1, (n : Int)] r_WM := by
  intro w hw
  simp only [r_WM, List.mem_cons, List.not_mem_nil, or_false] at hw
  rcases hw with rfl | rfl | rfl | rfl
  · exact ⟨_, _, xE1 rfl rfl, xE1 rfl rfl, fun b k h1 h2 h3 h4 => by dsimp only at h1 h2; unfold rPM; omega⟩
  · exact ⟨_, _, rfl, rfl, fun b k h1 h2 h3 h4 => by dsimp only at h1 h2; unfold rPM; omega⟩
  · exact ⟨_, _, xE1 rfl rfl, xE1 rfl rfl, fun b k h1 h2 h3 h4 => by dsimp only at h1 h2; unfold rPM; omega⟩
  · exact ⟨_, _, xE1 rfl rfl, xE1 rfl rfl, fun b k h1 h2 h3 h4 => by dsimp only at h1 h2; unfold rPM; omega⟩
theorem routM_ok {D : Nat} {h : rk_S} (hD : 0 ≤ D) (hI : rk_Iv rk_Y h) : rk_wp D rm_X8_routine 0 (lv_args 0 [.ref 316]) [] h (fun v h' => rk_Iv rk_Y h' ∧ ∃ x : Int32, v = some (.int x) ∧ xfr (rPM (rk_iv h 316 0).toNat) h h' ∧ ((rk_iv h' 316 0 = rk_iv h 316 0 + 1 ∧ rk_iv h 316 0 ≤ 9 ∧ rk_iv h' 317 (rk_iv h 316 0).toNat = 0 ∧ x.toInt = rk_iv h 316 0) ∨ (rk_iv h' 316 0 = rk_iv h 316 0 ∧ 10 ≤ rk_iv h 316 0 ∧ x.toInt = -4))) := by
  obtain ⟨xn, n1, n2, n3⟩ := x_fok_ok hI ty_3160
  rw [← n3] at n2
  have n4 := x_one1 n2
  have hn : (((rk_iv h 316 0).toNat : Nat) : Int) = rk_iv h 316 0 := by omega
  have hwp := r_WPM (rk_iv h 316 0).toNat
  rw [hn] at hwp
  refine wp_weak (xexb_ok (P := rPM (rk_iv h 316 0).toNat) (zs := [rk_iv h 316 0]) r_kM (x_nil) rfl hD ⟨List.mem_cons_self, trivial⟩ hwp ⟨⟨rfl, ⟨rfl, fun i b hb => ?_⟩, fun t ht => absurd ht List.not_mem_nil⟩, fun p hp => ?_, hI, fun _ _ _ => rfl⟩ rfl) (fun v h' hv => ?_)
  · rcases rk_find_cons hb with ⟨rfl, rfl⟩ | ⟨-, hb⟩
    · exact ⟨_, rfl, n2⟩
    · cases hb
  · cases List.mem_singleton.mp hp
    exact ⟨0, xn, rfl, n1, xE1 rfl (by rw [n3]; omega)⟩
  · obtain ⟨hI', hf, al, hal, hall⟩ := hv
    have hall : ∀ f ∈ al, xHold [rk_iv h 316 0] h' v f := hall
    refine ⟨hI', ?_⟩
    simp only [r_alM, List.mem_cons, List.not_mem_nil, or_false] at hal
    rcases hal with rfl | rfl
    · obtain ⟨x, rfl, -⟩ := x_fv (hall _ (List.mem_of_getElem? (i := 5) rfl))
      have q0 : 0 ≤ -1 * 1 + (-1 * rk_iv h 316 0 + 1 * rk_iv h' 316 0) := x_f1 (hall _ (List.mem_of_getElem? (i := 0) rfl)) (k := 0) rfl (xE3 rfl rfl rfl rfl)
      have q1 : 0 ≤ 1 * 1 + (1 * rk_iv h 316 0 + -1 * rk_iv h' 316 0) := x_f1 (hall _ (List.mem_of_getElem? (i := 1) rfl)) (k := 0) rfl (xE3 rfl rfl rfl rfl)
      have q2 : 0 ≤ 9 * 1 + -1 * rk_iv h 316 0 := x_f0 (hall _ (List.mem_of_getElem? (i := 2) rfl)) (xE2 rfl rfl rfl)
      have hr : xE [1, rk_iv h 316 0] [(1, 1)] = some (((rk_iv h 316 0).toNat : Nat) : Int) := xE1 rfl (by omega)
      have q5 : 0 ≤ 1 * rk_iv h' 317 (rk_iv h 316 0).toNat := x_f1 (hall _ (List.mem_of_getElem? (i := 3) rfl)) hr (xE1 rfl rfl)
      have q6 : 0 ≤ -1 * rk_iv h' 317 (rk_iv h 316 0).toNat := x_f1 (hall _ (List.mem_of_getElem? (i := 4) rfl)) hr (xE1 rfl rfl)
      have q3 : 0 ≤ -1 * rk_iv h 316 0 + 1 * x.toInt := x_ans (hall _ (List.mem_of_getElem? (i := 5) rfl)) (xE2 rfl rfl rfl)
      have q4 : 0 ≤ 1 * rk_iv h 316 0 + -1 * x.toInt := x_ans (hall _ (List.mem_of_getElem? (i := 6) rfl)) (xE2 rfl rfl rfl)
      exact ⟨x, rfl, hf, by omega⟩
    · obtain ⟨x, rfl, -⟩ := x_fv (hall _ (List.mem_of_getElem? (i := 3) rfl))
      have q0 : 0 ≤ -1 * rk_iv h 316 0 + 1 * rk_iv h' 316 0 := x_f1 (hall _ (List.mem_of_getElem? (i := 0) rfl)) (k := 0) rfl (xE2 rfl rfl rfl)
      have q1 : 0 ≤ 1 * rk_iv h 316 0 + -1 * rk_iv h' 316 0 := x_f1 (hall _ (List.mem_of_getElem? (i := 1) rfl)) (k := 0) rfl (xE2 rfl rfl rfl)
      have q2 : 0 ≤ -10 * 1 + 1 * rk_iv h 316 0 := x_f0 (hall _ (List.mem_of_getElem? (i := 2) rfl)) (xE2 rfl rfl rfl)
      have q3 : 0 ≤ 4 * 1 + 1 * x.toInt := x_ans (hall _ (List.mem_of_getElem? (i := 3) rfl)) (xE2 rfl rfl rfl)
      have q4 : 0 ≤ -4 * 1 + -1 * x.toInt := x_ans (hall _ (List.mem_of_getElem? (i := 4) rfl)) (xE2 rfl rfl rfl)
      exact ⟨x, rfl, hf, by omega⟩
theorem rout_pair {h h1 h2 : rk_S} {v1 v2 : Option Value} (hI : rk_Iv rk_Y h) (hC : lC3 h) (p1 : ∃ x : Int32, v1 = some (.int x) ∧ xfr (rPX (rk_iv h 2 5).toNat) h h1 ∧ ((rk_iv h1 2 5 = rk_iv h 2 5 + 1 ∧ rk_iv h 2 5 ≤ 9 ∧ x.toInt = rk_iv h 2 5) ∨ (rk_iv h1 2 5 = rk_iv h 2 5 ∧ 10 ≤ rk_iv h 2 5 ∧ x.toInt = -4))) (p2 : ∃ x : Int32, v2 = some (.int x) ∧ xfr (rPM (rk_iv h1 316 0).toNat) h1 h2 ∧ ((rk_iv h2 316 0 = rk_iv h1 316 0 + 1 ∧ rk_iv h1 316 0 ≤ 9 ∧ rk_iv h2 317 (rk_iv h1 316 0).toNat = 0 ∧ x.toInt = rk_iv h1 316 0) ∨ (rk_iv h2 316 0 = rk_iv h1 316 0 ∧ 10 ≤ rk_iv h1 316 0 ∧ x.toInt = -4))) : ∃ x1 x2 : Int32, v1 = some (.int x1) ∧ v2 = some (.int x2) ∧ x1.toInt = x2.toInt ∧ lC3 h2 := by
  obtain ⟨x1, rfl, f1, p1⟩ := p1
  obtain ⟨x2, rfl, f2, p2⟩ := p2
  obtain ⟨xn, -, n2, n3⟩ := x_fok_ok hI ty_25
  rw [← n3] at n2
  have n4 := x_one1 n2
  obtain ⟨c1, c2, c3, c4⟩ := hC
  have e1 : ∀ b k, ¬ rPX (rk_iv h 2 5).toNat b k → rk_iv h1 b k = rk_iv h b k := fun b k hn => rk_iv_eq (f1 b k hn)
  have e316 : rk_iv h1 316 0 = rk_iv h 316 0 := e1 316 0 (by unfold rPX; omega)
  rw [e316] at p2 f2
  have e2 : ∀ b k, ¬ rPM (rk_iv h 316 0).toNat b k → rk_iv h2 b k = rk_iv h1 b k := fun b k hn => rk_iv_eq (f2 b k hn)
  have g25 : rk_iv h2 2 5 = rk_iv h1 2 5 := e2 2 5 (by unfold rPM; omega)
  have g14 : ∀ j, rk_iv h2 14 j = rk_iv h 14 j := fun j => (e2 14 j (by unfold rPM; omega)).trans (e1 14 j (by unfold rPX; omega))
  have g317 : ∀ j : Nat, (j : Int) ≠ rk_iv h 316 0 → rk_iv h2 317 j = rk_iv h 317 j := fun j hj => (e2 317 j (by unfold rPM; omega)).trans (e1 317 j (by unfold rPX; omega))
  have gc : ∀ r j, r < 10 → rk_iv h2 (4 + r) j = rk_iv h (4 + r) j := fun r j hr => (e2 _ j (by unfold rPM; omega)).trans (e1 _ j (by unfold rPX; omega))
  have g318 : ∀ j, rk_iv h2 318 j = rk_iv h 318 j := fun j => (e2 318 j (by unfold rPM; omega)).trans (e1 318 j (by unfold rPX; omega))
  refine ⟨x1, x2, rfl, rfl, by omega, by omega, fun r hr => ?_, fun r hr hn => ?_, fun r j hr hj => ?_⟩
  · rw [g14]
    by_cases e : (r : Int) = rk_iv h 316 0
    · have h0 : rk_iv h 14 r = 0 := c3 r hr (by omega)
      have er : r = (rk_iv h 316 0).toNat := by omega
      rcases p2 with ⟨-, -, q, -⟩ | ⟨-, q, -⟩
      · rw [h0, er, q]
      · omega
    · rw [g317 r e]; exact c2 r hr
  · rw [g14]
    exact c3 r hr (by omega)
  · rw [gc r j hr, g318]
    rw [g14] at hj
    exact c4 r j hr hj
