/-! pieces of Program (laid by wip/gen/y8.py) -/
set_option maxRecDepth 100000 in
set_option maxHeartbeats 4000000 in
theorem yt_gat {n d : Nat} {h : rk_S} {o : Option Value × rk_S} {c j : Int32} (hG : yG h) (E : rk_ex n d rm_X3_gatherFromCalled 2 [(0, .ref 2), (1, .int c), (2, .int j)] [] h = some o) :
    (10 ≤ j.toInt ∧ yG h ∧ o = (none, h)) ∨
    (¬ (10 ≤ j.toInt) ∧ (((gi h 17 c.toNatClampNeg) >>> (j &&& 31)) &&& (1 : Int32)).toInt = 0 ∧ ∃ m, m < n ∧ yG h ∧ rk_ex m d rm_X3_gatherFromCalled 2 [(0, .ref 2), (1, .int c), (2, .int (j + (1 : Int32)))] [] h = some o) ∨
    (¬ (10 ≤ j.toInt) ∧ ¬ ((((gi h 17 c.toNatClampNeg) >>> (j &&& 31)) &&& (1 : Int32)).toInt = 0) ∧ ∃ m, m < n ∧ yG (rk_pt (rk_pt h 15 c.toNatClampNeg (.int ((gi h 15 c.toNatClampNeg) ||| (gi h 15 j.toNatClampNeg)))) 16 c.toNatClampNeg (.int ((gi h 16 c.toNatClampNeg) ||| (gi h 16 j.toNatClampNeg)))) ∧ rk_ex m d rm_X3_gatherFromCalled 2 [(0, .ref 2), (1, .int c), (2, .int (j + (1 : Int32)))] [] (rk_pt (rk_pt h 15 c.toNatClampNeg (.int ((gi h 15 c.toNatClampNeg) ||| (gi h 15 j.toNatClampNeg)))) 16 c.toNatClampNeg (.int ((gi h 16 c.toNatClampNeg) ||| (gi h 16 j.toNatClampNeg)))) = some o) := by
  obtain ⟨m1, hm2, E, hG⟩ := E_go (pc' := 5) (lv' := [(0, .ref 2), (1, .int c), (2, .int j)]) (st' := [.int (10 : Int32), .int j]) (h' := h) 2 rfl E hG
  rcases E_if2 (tg := 57) rfl rfl E with ⟨hc, m3, hm4, E⟩ | ⟨hc, m5, hm6, E⟩
  ·
    have c7 : 10 ≤ j.toInt := hc
    clear hc
    have ho8 := E_retv rfl E
    exact Or.inl ⟨c7, hG, ho8⟩
  ·
    have c9 : ¬ (10 ≤ j.toInt) := hc
    clear hc
    obtain ⟨m10, hm11, E, hG⟩ := E_go (pc' := 15) (lv' := [(0, .ref 2), (1, .int c), (2, .int j)]) (st' := [.int j, .int (gi h 17 c.toNatClampNeg)]) (h' := h) 5 rfl E hG
    obtain ⟨m12, d13, o14, hm16, E15, F15⟩ := E_call (ar := ([.int (gi h 17 c.toNatClampNeg), .int j], [])) rfl rfl rfl rfl rfl rfl E
    replace E15 : rk_ex m12 d13 rm_X7_isSet 0 [(0, .int (gi h 17 c.toNatClampNeg)), (1, .int j)] [] h = some o14 := E15
    obtain ⟨m17, hm18, E15, hG⟩ := E_go (pc' := 5) (lv' := [(0, .int (gi h 17 c.toNatClampNeg)), (1, .int j)]) (st' := [.int (((gi h 17 c.toNatClampNeg) >>> (j &&& 31)) &&& (1 : Int32))]) (h' := h) 5 rfl E15 hG
    rcases E_if1 (tg := 12) rfl rfl E15 with ⟨hc, m19, hm20, E15⟩ | ⟨hc, m21, hm22, E15⟩
    ·
      have c23 : (((gi h 17 c.toNatClampNeg) >>> (j &&& 31)) &&& (1 : Int32)).toInt = 0 := hc
      clear hc
      obtain ⟨m24, hm25, E15, hG⟩ := E_go (pc' := 13) (lv' := [(0, .int (gi h 17 c.toNatClampNeg)), (1, .int j)]) (st' := [.int (0 : Int32)]) (h' := h) 1 rfl E15 hG
      have ho26 := E_reti rfl E15
      subst ho26
      have E : rk_ex m12 d rm_X3_gatherFromCalled 18 [(0, .ref 2), (1, .int c), (2, .int j)] [.int (0 : Int32)] h = some o := F15
      rcases E_if1 (tg := 51) rfl rfl E with ⟨hc, m27, hm28, E⟩ | ⟨hc, m29, hm30, E⟩
      ·
        clear hc
        obtain ⟨m31, hm32, E, hG⟩ := E_go (pc' := 2) (lv' := [(2, .int (j + (1 : Int32))), (0, .ref 2), (1, .int c)]) (st' := []) (h' := h) 2 rfl E hG
        replace E := E_lv [(0, .ref 2), (1, .int c), (2, .int (j + (1 : Int32)))] rfl (lvs_c rfl rfl (lvs_c rfl rfl (lvs_c rfl rfl lvs_n))) E
        exact Or.inr (Or.inl ⟨c9, c23, _, (by omega), hG, E⟩)
      · exact absurd (show ¬ ((0 : Int) = 0) from hc) (by decide)
    ·
      have c34 : ¬ ((((gi h 17 c.toNatClampNeg) >>> (j &&& 31)) &&& (1 : Int32)).toInt = 0) := hc
      clear hc
      obtain ⟨m35, hm36, E15, hG⟩ := E_go (pc' := 13) (lv' := [(0, .int (gi h 17 c.toNatClampNeg)), (1, .int j)]) (st' := [.int (1 : Int32)]) (h' := h) 2 rfl E15 hG
      have ho37 := E_reti rfl E15
      subst ho37
      have E : rk_ex m12 d rm_X3_gatherFromCalled 18 [(0, .ref 2), (1, .int c), (2, .int j)] [.int (1 : Int32)] h = some o := F15
      rcases E_if1 (tg := 51) rfl rfl E with ⟨hc, m38, hm39, E⟩ | ⟨hc, m40, hm41, E⟩
      · exact absurd (show (1 : Int) = 0 from hc) (by decide)
      ·
        clear hc
        obtain ⟨m42, hm43, E, hG⟩ := E_go (pc' := 2) (lv' := [(2, .int (j + (1 : Int32))), (0, .ref 2), (1, .int c)]) (st' := []) (h' := rk_pt (rk_pt h 15 c.toNatClampNeg (.int ((gi h 15 c.toNatClampNeg) ||| (gi h 15 j.toNatClampNeg)))) 16 c.toNatClampNeg (.int ((gi (rk_pt h 15 c.toNatClampNeg (.int ((gi h 15 c.toNatClampNeg) ||| (gi h 15 j.toNatClampNeg)))) 16 c.toNatClampNeg) ||| (gi (rk_pt h 15 c.toNatClampNeg (.int ((gi h 15 c.toNatClampNeg) ||| (gi h 15 j.toNatClampNeg)))) 16 j.toNatClampNeg)))) 24 rfl E hG
        try simp only [gi_x (a := 15) (a' := 16) (by decide)] at E hG
        replace E := E_lv [(0, .ref 2), (1, .int c), (2, .int (j + (1 : Int32)))] rfl (lvs_c rfl rfl (lvs_c rfl rfl (lvs_c rfl rfl lvs_n))) E
        exact Or.inr (Or.inr ⟨c9, c34, _, (by omega), hG, E⟩)
set_option maxRecDepth 100000 in
set_option maxHeartbeats 4000000 in
theorem yt_gat0 {n d : Nat} {h : rk_S} {o : Option Value × rk_S} {c : Int32} (hG : yG h) (E : rk_ex n d rm_X3_gatherFromCalled 0 [(0, .ref 2), (1, .int c)] [] h = some o) :
    (∃ m, m < n ∧ yG h ∧ rk_ex m d rm_X3_gatherFromCalled 2 [(0, .ref 2), (1, .int c), (2, .int (0 : Int32))] [] h = some o) := by
  obtain ⟨m1, hm2, E, hG⟩ := E_go (pc' := 2) (lv' := [(2, .int (0 : Int32)), (0, .ref 2), (1, .int c)]) (st' := []) (h' := h) 2 rfl E hG
  replace E := E_lv [(0, .ref 2), (1, .int c), (2, .int (0 : Int32))] rfl (lvs_c rfl rfl (lvs_c rfl rfl (lvs_c rfl rfl lvs_n))) E
  exact ⟨_, (by omega), hG, E⟩
set_option maxRecDepth 100000 in
set_option maxHeartbeats 4000000 in
theorem yt_spr {n d : Nat} {h : rk_S} {o : Option Value × rk_S} {t c : Int32} (hG : yG h) (E : rk_ex n d rm_X3_spreadToCallers 12 [(0, .ref 2), (1, .int t), (2, .int c)] [] h = some o) :
    ((gi h 2 5).toInt ≤ c.toInt ∧ (gi h 2 5).toInt ≤ (t + (1 : Int32)).toInt ∧ yG h ∧ o = (none, h)) ∨
    ((gi h 2 5).toInt ≤ c.toInt ∧ ¬ ((gi h 2 5).toInt ≤ (t + (1 : Int32)).toInt) ∧ ∃ m, m < n ∧ yG h ∧ rk_ex m d rm_X3_spreadToCallers 12 [(0, .ref 2), (1, .int (t + (1 : Int32))), (2, .int (0 : Int32))] [] h = some o) ∨
    (¬ ((gi h 2 5).toInt ≤ c.toInt) ∧ ∃ m, m < n + 1 ∧ yG h ∧ rk_ex m d rm_X3_spreadToCallers 22 [(0, .ref 2), (1, .int t), (2, .int c)] [.int c, .ref 2] h = some o) := by
  obtain ⟨m1, hm2, E, hG⟩ := E_go (pc' := 17) (lv' := [(0, .ref 2), (1, .int t), (2, .int c)]) (st' := [.int (gi h 2 5), .int c]) (h' := h) 3 rfl E hG
  rcases E_if2 (tg := 31) rfl rfl E with ⟨hc, m3, hm4, E⟩ | ⟨hc, m5, hm6, E⟩
  ·
    have c7 : (gi h 2 5).toInt ≤ c.toInt := hc
    clear hc
    obtain ⟨m8, hm9, E, hG⟩ := E_go (pc' := 7) (lv' := [(1, .int (t + (1 : Int32))), (0, .ref 2), (2, .int c)]) (st' := [.int (gi h 2 5), .int (t + (1 : Int32))]) (h' := h) 5 rfl E hG
    rcases E_if2 (tg := 37) rfl rfl E with ⟨hc, m10, hm11, E⟩ | ⟨hc, m12, hm13, E⟩
    ·
      have c14 : (gi h 2 5).toInt ≤ (t + (1 : Int32)).toInt := hc
      clear hc
      have ho15 := E_retv rfl E
      exact Or.inl ⟨c7, c14, hG, ho15⟩
    ·
      have c16 : ¬ ((gi h 2 5).toInt ≤ (t + (1 : Int32)).toInt) := hc
      clear hc
      obtain ⟨m17, hm18, E, hG⟩ := E_go (pc' := 12) (lv' := [(2, .int (0 : Int32)), (1, .int (t + (1 : Int32))), (0, .ref 2)]) (st' := []) (h' := h) 2 rfl E hG
      replace E := E_lv [(0, .ref 2), (1, .int (t + (1 : Int32))), (2, .int (0 : Int32))] rfl (lvs_c rfl rfl (lvs_c rfl rfl (lvs_c rfl rfl lvs_n))) E
      exact Or.inr (Or.inl ⟨c7, c16, _, (by omega), hG, E⟩)
  ·
    have c20 : ¬ ((gi h 2 5).toInt ≤ c.toInt) := hc
    clear hc
    obtain ⟨m21, hm22, E, hG⟩ := E_go (pc' := 22) (lv' := [(0, .ref 2), (1, .int t), (2, .int c)]) (st' := [.int c, .ref 2]) (h' := h) 2 rfl E hG
    exact Or.inr (Or.inr ⟨c20, _, (by omega), hG, E⟩)
set_option maxRecDepth 100000 in
set_option maxHeartbeats 4000000 in
theorem yt_spr0 {n d : Nat} {h : rk_S} {o : Option Value × rk_S} (hG : yG h) (E : rk_ex n d rm_X3_spreadToCallers 0 [(0, .ref 2)] [] h = some o) :
    ((gi h 2 5).toInt ≤ 0 ∧ yG h ∧ o = (none, h)) ∨
    (¬ ((gi h 2 5).toInt ≤ 0) ∧ ∃ m, m < n ∧ yG h ∧ rk_ex m d rm_X3_spreadToCallers 12 [(0, .ref 2), (1, .int (0 : Int32)), (2, .int (0 : Int32))] [] h = some o) := by
  obtain ⟨m1, hm2, E, hG⟩ := E_go (pc' := 7) (lv' := [(1, .int (0 : Int32)), (0, .ref 2)]) (st' := [.int (gi h 2 5), .int (0 : Int32)]) (h' := h) 5 rfl E hG
  rcases E_if2 (tg := 37) rfl rfl E with ⟨hc, m3, hm4, E⟩ | ⟨hc, m5, hm6, E⟩
  ·
    have c7 : (gi h 2 5).toInt ≤ 0 := hc
    clear hc
    have ho8 := E_retv rfl E
    exact Or.inl ⟨c7, hG, ho8⟩
  ·
    have c9 : ¬ ((gi h 2 5).toInt ≤ 0) := hc
    clear hc
    obtain ⟨m10, hm11, E, hG⟩ := E_go (pc' := 12) (lv' := [(2, .int (0 : Int32)), (1, .int (0 : Int32)), (0, .ref 2)]) (st' := []) (h' := h) 2 rfl E hG
    replace E := E_lv [(0, .ref 2), (1, .int (0 : Int32)), (2, .int (0 : Int32))] rfl (lvs_c rfl rfl (lvs_c rfl rfl (lvs_c rfl rfl lvs_n))) E
    exact Or.inr ⟨c9, _, (by omega), hG, E⟩
set_option maxRecDepth 100000 in
set_option maxHeartbeats 4000000 in
theorem yt_spr1 {n d : Nat} {h : rk_S} {o : Option Value × rk_S} {t c : Int32} (hG : yG h) (E : rk_ex n d rm_X3_spreadToCallers 25 [(0, .ref 2), (1, .int t), (2, .int c)] [] h = some o) :
    (∃ m, m < n ∧ yG h ∧ rk_ex m d rm_X3_spreadToCallers 12 [(0, .ref 2), (1, .int t), (2, .int (c + (1 : Int32)))] [] h = some o) := by
  obtain ⟨m1, hm2, E, hG⟩ := E_go (pc' := 12) (lv' := [(2, .int (c + (1 : Int32))), (0, .ref 2), (1, .int t)]) (st' := []) (h' := h) 2 rfl E hG
  replace E := E_lv [(0, .ref 2), (1, .int t), (2, .int (c + (1 : Int32)))] rfl (lvs_c rfl rfl (lvs_c rfl rfl (lvs_c rfl rfl lvs_n))) E
  exact ⟨_, (by omega), hG, E⟩
set_option maxRecDepth 100000 in
set_option maxHeartbeats 4000000 in
theorem yt_addc {n d : Nat} {h : rk_S} {o : Option Value × rk_S} {r c : Int32} (hG : yG h) (q0 : r.toNatClampNeg < 10) (q1 : ¬ (r.toInt < 0)) (q2 : ¬ ((gi h 2 5).toInt ≤ r.toInt)) (q3 : (gi h 14 r.toNatClampNeg).toInt < 40) (E : rk_ex n d rm_X3_addCode 0 [(0, .ref 2), (1, .int r), (2, .int c)] [] h = some o) :
    ((c / (100 : Int32)).toInt < 2 ∧ ∃ m, m < n + 1 ∧ yG (rk_pt (rk_pt h (4 + r.toNatClampNeg) ((gi h 14 r.toNatClampNeg).toNatClampNeg) (.int c)) 14 r.toNatClampNeg (.int ((gi h 14 r.toNatClampNeg) + (1 : Int32)))) ∧ rk_ex m d rm_X3_addCode 150 [(4, .int (c - c / (100 : Int32) * (100 : Int32))), (3, .int (gi h 14 r.toNatClampNeg)), (0, .ref 2), (1, .int r), (2, .int c)] [.ref 2] (rk_pt (rk_pt h (4 + r.toNatClampNeg) ((gi h 14 r.toNatClampNeg).toNatClampNeg) (.int c)) 14 r.toNatClampNeg (.int ((gi h 14 r.toNatClampNeg) + (1 : Int32)))) = some o) ∨
    (5 < (c / (100 : Int32)).toInt ∧ ∃ m, m < n + 1 ∧ yG (rk_pt (rk_pt h (4 + r.toNatClampNeg) ((gi h 14 r.toNatClampNeg).toNatClampNeg) (.int c)) 14 r.toNatClampNeg (.int ((gi h 14 r.toNatClampNeg) + (1 : Int32)))) ∧ rk_ex m d rm_X3_addCode 150 [(4, .int (c - c / (100 : Int32) * (100 : Int32))), (3, .int (gi h 14 r.toNatClampNeg)), (0, .ref 2), (1, .int r), (2, .int c)] [.ref 2] (rk_pt (rk_pt h (4 + r.toNatClampNeg) ((gi h 14 r.toNatClampNeg).toNatClampNeg) (.int c)) 14 r.toNatClampNeg (.int ((gi h 14 r.toNatClampNeg) + (1 : Int32)))) = some o) ∨
    ((c / (100 : Int32)).toInt = 2 ∧ ∃ m, m < n + 1 ∧ yG (rk_pt (rk_pt (rk_pt h (4 + r.toNatClampNeg) ((gi h 14 r.toNatClampNeg).toNatClampNeg) (.int c)) 14 r.toNatClampNeg (.int ((gi h 14 r.toNatClampNeg) + (1 : Int32)))) 16 r.toNatClampNeg (.int ((gi h 16 r.toNatClampNeg) ||| ((1 : Int32) <<< ((c - c / (100 : Int32) * (100 : Int32)) &&& 31))))) ∧ rk_ex m d rm_X3_addCode 150 [(4, .int (c - c / (100 : Int32) * (100 : Int32))), (3, .int (gi h 14 r.toNatClampNeg)), (0, .ref 2), (1, .int r), (2, .int c)] [.ref 2] (rk_pt (rk_pt (rk_pt h (4 + r.toNatClampNeg) ((gi h 14 r.toNatClampNeg).toNatClampNeg) (.int c)) 14 r.toNatClampNeg (.int ((gi h 14 r.toNatClampNeg) + (1 : Int32)))) 16 r.toNatClampNeg (.int ((gi h 16 r.toNatClampNeg) ||| ((1 : Int32) <<< ((c - c / (100 : Int32) * (100 : Int32)) &&& 31))))) = some o) ∨
    ((c / (100 : Int32)).toInt = 3 ∧ ∃ m, m < n + 1 ∧ yG (rk_pt (rk_pt (rk_pt h (4 + r.toNatClampNeg) ((gi h 14 r.toNatClampNeg).toNatClampNeg) (.int c)) 14 r.toNatClampNeg (.int ((gi h 14 r.toNatClampNeg) + (1 : Int32)))) 15 r.toNatClampNeg (.int ((gi h 15 r.toNatClampNeg) ||| (1 : Int32)))) ∧ rk_ex m d rm_X3_addCode 150 [(4, .int (c - c / (100 : Int32) * (100 : Int32))), (3, .int (gi h 14 r.toNatClampNeg)), (0, .ref 2), (1, .int r), (2, .int c)] [.ref 2] (rk_pt (rk_pt (rk_pt h (4 + r.toNatClampNeg) ((gi h 14 r.toNatClampNeg).toNatClampNeg) (.int c)) 14 r.toNatClampNeg (.int ((gi h 14 r.toNatClampNeg) + (1 : Int32)))) 15 r.toNatClampNeg (.int ((gi h 15 r.toNatClampNeg) ||| (1 : Int32)))) = some o) ∨
    ((c / (100 : Int32)).toInt = 4 ∧ ∃ m, m < n + 1 ∧ yG (rk_pt (rk_pt (rk_pt h (4 + r.toNatClampNeg) ((gi h 14 r.toNatClampNeg).toNatClampNeg) (.int c)) 14 r.toNatClampNeg (.int ((gi h 14 r.toNatClampNeg) + (1 : Int32)))) 17 r.toNatClampNeg (.int ((gi h 17 r.toNatClampNeg) ||| ((1 : Int32) <<< ((c - c / (100 : Int32) * (100 : Int32)) &&& 31))))) ∧ rk_ex m d rm_X3_addCode 150 [(4, .int (c - c / (100 : Int32) * (100 : Int32))), (3, .int (gi h 14 r.toNatClampNeg)), (0, .ref 2), (1, .int r), (2, .int c)] [.ref 2] (rk_pt (rk_pt (rk_pt h (4 + r.toNatClampNeg) ((gi h 14 r.toNatClampNeg).toNatClampNeg) (.int c)) 14 r.toNatClampNeg (.int ((gi h 14 r.toNatClampNeg) + (1 : Int32)))) 17 r.toNatClampNeg (.int ((gi h 17 r.toNatClampNeg) ||| ((1 : Int32) <<< ((c - c / (100 : Int32) * (100 : Int32)) &&& 31))))) = some o) ∨
    ((c / (100 : Int32)).toInt = 5 ∧ ¬ (c - c / (100 : Int32) * (100 : Int32)).toInt = 8 ∧ ∃ m, m < n + 1 ∧ yG (rk_pt (rk_pt (rk_pt h (4 + r.toNatClampNeg) ((gi h 14 r.toNatClampNeg).toNatClampNeg) (.int c)) 14 r.toNatClampNeg (.int ((gi h 14 r.toNatClampNeg) + (1 : Int32)))) 15 r.toNatClampNeg (.int ((gi h 15 r.toNatClampNeg) ||| (0 : Int32)))) ∧ rk_ex m d rm_X3_addCode 150 [(4, .int (c - c / (100 : Int32) * (100 : Int32))), (3, .int (gi h 14 r.toNatClampNeg)), (0, .ref 2), (1, .int r), (2, .int c)] [.ref 2] (rk_pt (rk_pt (rk_pt h (4 + r.toNatClampNeg) ((gi h 14 r.toNatClampNeg).toNatClampNeg) (.int c)) 14 r.toNatClampNeg (.int ((gi h 14 r.toNatClampNeg) + (1 : Int32)))) 15 r.toNatClampNeg (.int ((gi h 15 r.toNatClampNeg) ||| (0 : Int32)))) = some o) ∨
    ((c / (100 : Int32)).toInt = 5 ∧ (c - c / (100 : Int32) * (100 : Int32)).toInt = 8 ∧ ∃ m, m < n + 1 ∧ yG (rk_pt (rk_pt (rk_pt h (4 + r.toNatClampNeg) ((gi h 14 r.toNatClampNeg).toNatClampNeg) (.int c)) 14 r.toNatClampNeg (.int ((gi h 14 r.toNatClampNeg) + (1 : Int32)))) 15 r.toNatClampNeg (.int ((gi h 15 r.toNatClampNeg) ||| (2 : Int32)))) ∧ rk_ex m d rm_X3_addCode 150 [(4, .int (c - c / (100 : Int32) * (100 : Int32))), (3, .int (gi h 14 r.toNatClampNeg)), (0, .ref 2), (1, .int r), (2, .int c)] [.ref 2] (rk_pt (rk_pt (rk_pt h (4 + r.toNatClampNeg) ((gi h 14 r.toNatClampNeg).toNatClampNeg) (.int c)) 14 r.toNatClampNeg (.int ((gi h 14 r.toNatClampNeg) + (1 : Int32)))) 15 r.toNatClampNeg (.int ((gi h 15 r.toNatClampNeg) ||| (2 : Int32)))) = some o) := by
  obtain ⟨m1, hm2, E, hG⟩ := E_go (pc' := 2) (lv' := [(0, .ref 2), (1, .int r), (2, .int c)]) (st' := [.int r, .ref 2]) (h' := h) 2 rfl E hG
  obtain ⟨m3, d4, o5, hm7, E6, F6⟩ := E_call (ar := ([.ref 2, .int r], [])) rfl rfl rfl rfl rfl rfl E
  replace E6 : rk_ex m3 d4 rm_X3_lengthOf 0 [(0, .ref 2), (1, .int r)] [] h = some o5 := E6
  obtain ⟨m8, hm9, E6, hG⟩ := E_go (pc' := 2) (lv' := [(0, .ref 2), (1, .int r)]) (st' := [.int r, .ref 2]) (h' := h) 2 rfl E6 hG
  obtain ⟨m10, d11, o12, hm14, E13, F13⟩ := E_call (ar := ([.ref 2, .int r], [])) rfl rfl rfl rfl rfl rfl E6
  replace E13 : rk_ex m10 d11 rm_X3_hasRoutine 0 [(0, .ref 2), (1, .int r)] [] h = some o12 := E13
  obtain ⟨m15, hm16, E13, hG⟩ := E_go (pc' := 1) (lv' := [(0, .ref 2), (1, .int r)]) (st' := [.int r]) (h' := h) 1 rfl E13 hG
  rcases E_if1 (tg := 16) rfl rfl E13 with ⟨hc, m17, hm18, E13⟩ | ⟨hc, m19, hm20, E13⟩
  · exact absurd hc q1
  ·
    clear hc
    obtain ⟨m21, hm22, E13, hG⟩ := E_go (pc' := 9) (lv' := [(0, .ref 2), (1, .int r)]) (st' := [.int (gi h 2 5), .int r]) (h' := h) 3 rfl E13 hG
    rcases E_if2 (tg := 16) rfl rfl E13 with ⟨hc, m23, hm24, E13⟩ | ⟨hc, m25, hm26, E13⟩
    · exact absurd hc q2
    ·
      clear hc
      obtain ⟨m27, hm28, E13, hG⟩ := E_go (pc' := 17) (lv' := [(0, .ref 2), (1, .int r)]) (st' := [.int (1 : Int32)]) (h' := h) 2 rfl E13 hG
      have ho29 := E_reti rfl E13
      subst ho29
      have E6 : rk_ex m10 d4 rm_X3_lengthOf 5 [(0, .ref 2), (1, .int r)] [.int (1 : Int32)] h = some o5 := F13
      rcases E_if1 (tg := 17) rfl rfl E6 with ⟨hc, m30, hm31, E6⟩ | ⟨hc, m32, hm33, E6⟩
      · exact absurd (show (1 : Int) = 0 from hc) (by decide)
      ·
        clear hc
        obtain ⟨m34, hm35, E6, hG⟩ := E_go (pc' := 18) (lv' := [(0, .ref 2), (1, .int r)]) (st' := [.int (gi h 14 r.toNatClampNeg)]) (h' := h) 5 rfl E6 hG
        have ho36 := E_reti rfl E6
        subst ho36
        have E : rk_ex m3 d rm_X3_addCode 5 [(0, .ref 2), (1, .int r), (2, .int c)] [.int (gi h 14 r.toNatClampNeg)] h = some o := F6
        obtain ⟨m37, hm38, E, hG⟩ := E_go (pc' := 8) (lv' := [(3, .int (gi h 14 r.toNatClampNeg)), (0, .ref 2), (1, .int r), (2, .int c)]) (st' := [.int r, .ref 2]) (h' := h) 3 rfl E hG
        obtain ⟨m39, d40, o41, hm43, E42, F42⟩ := E_call (ar := ([.ref 2, .int r], [])) rfl rfl rfl rfl rfl rfl E
        replace E42 : rk_ex m39 d40 rm_X3_hasRoutine 0 [(0, .ref 2), (1, .int r)] [] h = some o41 := E42
        obtain ⟨m44, hm45, E42, hG⟩ := E_go (pc' := 1) (lv' := [(0, .ref 2), (1, .int r)]) (st' := [.int r]) (h' := h) 1 rfl E42 hG
        rcases E_if1 (tg := 16) rfl rfl E42 with ⟨hc, m46, hm47, E42⟩ | ⟨hc, m48, hm49, E42⟩
        · exact absurd hc q1
        ·
          clear hc
          obtain ⟨m50, hm51, E42, hG⟩ := E_go (pc' := 9) (lv' := [(0, .ref 2), (1, .int r)]) (st' := [.int (gi h 2 5), .int r]) (h' := h) 3 rfl E42 hG
          rcases E_if2 (tg := 16) rfl rfl E42 with ⟨hc, m52, hm53, E42⟩ | ⟨hc, m54, hm55, E42⟩
          · exact absurd hc q2
          ·
            clear hc
            obtain ⟨m56, hm57, E42, hG⟩ := E_go (pc' := 17) (lv' := [(0, .ref 2), (1, .int r)]) (st' := [.int (1 : Int32)]) (h' := h) 2 rfl E42 hG
            have ho58 := E_reti rfl E42
            subst ho58
            have E : rk_ex m39 d rm_X3_addCode 11 [(3, .int (gi h 14 r.toNatClampNeg)), (0, .ref 2), (1, .int r), (2, .int c)] [.int (1 : Int32)] h = some o := F42
            rcases E_if1 (tg := 20) rfl rfl E with ⟨hc, m59, hm60, E⟩ | ⟨hc, m61, hm62, E⟩
            · exact absurd (show (1 : Int) = 0 from hc) (by decide)
            ·
              clear hc
              obtain ⟨m63, hm64, E, hG⟩ := E_go (pc' := 17) (lv' := [(3, .int (gi h 14 r.toNatClampNeg)), (0, .ref 2), (1, .int r), (2, .int c)]) (st' := [.int (40 : Int32), .int (gi h 14 r.toNatClampNeg)]) (h' := h) 2 rfl E hG
              rcases E_if2 (tg := 21) rfl rfl E with ⟨hc, m65, hm66, E⟩ | ⟨hc, m67, hm68, E⟩
              ·
                clear hc
                obtain ⟨m69, hm70, E, hG⟩ := E_go (pc' := 49) (lv' := [(4, .int (c - c / (100 : Int32) * (100 : Int32))), (3, .int (gi h 14 r.toNatClampNeg)), (0, .ref 2), (1, .int r), (2, .int c)]) (st' := [.int (c / (100 : Int32))]) (h' := rk_pt (rk_pt h (4 + r.toNatClampNeg) ((gi h 14 r.toNatClampNeg).toNatClampNeg) (.int c)) 14 r.toNatClampNeg (.int ((gi h 14 r.toNatClampNeg) + (1 : Int32)))) 21 rfl E hG
                rcases (show (c / (100 : Int32)).toInt < 2 ∨ 5 < (c / (100 : Int32)).toInt ∨ (c / (100 : Int32)).toInt = 2 ∨ (c / (100 : Int32)).toInt = 3 ∨ (c / (100 : Int32)).toInt = 4 ∨ (c / (100 : Int32)).toInt = 5 by omega) with hc | hc | hc | hc | hc | hc
                ·
                  have c71 : (c / (100 : Int32)).toInt < 2 := hc
                  clear hc
                  obtain ⟨m72, hm73, E⟩ := E_swd (tg := 149) rfl (Or.inl c71) rfl E
                  obtain ⟨m74, hm75, E, hG⟩ := E_go (pc' := 150) (lv' := [(4, .int (c - c / (100 : Int32) * (100 : Int32))), (3, .int (gi h 14 r.toNatClampNeg)), (0, .ref 2), (1, .int r), (2, .int c)]) (st' := [.ref 2]) (h' := rk_pt (rk_pt h (4 + r.toNatClampNeg) ((gi h 14 r.toNatClampNeg).toNatClampNeg) (.int c)) 14 r.toNatClampNeg (.int ((gi h 14 r.toNatClampNeg) + (1 : Int32)))) 1 rfl E hG
                  exact Or.inl ⟨c71, _, (by omega), hG, E⟩
                ·
                  have c76 : 5 < (c / (100 : Int32)).toInt := hc
                  clear hc
                  obtain ⟨m77, hm78, E⟩ := E_swd (tg := 149) rfl (Or.inr c76) rfl E
                  obtain ⟨m79, hm80, E, hG⟩ := E_go (pc' := 150) (lv' := [(4, .int (c - c / (100 : Int32) * (100 : Int32))), (3, .int (gi h 14 r.toNatClampNeg)), (0, .ref 2), (1, .int r), (2, .int c)]) (st' := [.ref 2]) (h' := rk_pt (rk_pt h (4 + r.toNatClampNeg) ((gi h 14 r.toNatClampNeg).toNatClampNeg) (.int c)) 14 r.toNatClampNeg (.int ((gi h 14 r.toNatClampNeg) + (1 : Int32)))) 1 rfl E hG
                  exact Or.inr (Or.inl ⟨c76, _, (by omega), hG, E⟩)
                ·
                  have c81 : (c / (100 : Int32)).toInt = 2 := hc
                  clear hc
                  obtain ⟨m82, hm83, E⟩ := E_swi (tg := 80) rfl c81 (by decide) (by decide) rfl rfl E
                  obtain ⟨m84, hm85, E, hG⟩ := E_go (pc' := 150) (lv' := [(4, .int (c - c / (100 : Int32) * (100 : Int32))), (3, .int (gi h 14 r.toNatClampNeg)), (0, .ref 2), (1, .int r), (2, .int c)]) (st' := [.ref 2]) (h' := rk_pt (rk_pt (rk_pt h (4 + r.toNatClampNeg) ((gi h 14 r.toNatClampNeg).toNatClampNeg) (.int c)) 14 r.toNatClampNeg (.int ((gi h 14 r.toNatClampNeg) + (1 : Int32)))) 16 r.toNatClampNeg (.int ((gi (rk_pt (rk_pt h (4 + r.toNatClampNeg) ((gi h 14 r.toNatClampNeg).toNatClampNeg) (.int c)) 14 r.toNatClampNeg (.int ((gi h 14 r.toNatClampNeg) + (1 : Int32)))) 16 r.toNatClampNeg) ||| ((1 : Int32) <<< ((c - c / (100 : Int32) * (100 : Int32)) &&& 31))))) 12 rfl E hG
                  try simp only [gi_x (a := 14) (a' := 16) (by decide), gi_x (a := (4 + r.toNatClampNeg)) (a' := 16) (by omega)] at E hG
                  exact Or.inr (Or.inr (Or.inl ⟨c81, _, (by omega), hG, E⟩))
                ·
                  have c86 : (c / (100 : Int32)).toInt = 3 := hc
                  clear hc
                  obtain ⟨m87, hm88, E⟩ := E_swi (tg := 96) rfl c86 (by decide) (by decide) rfl rfl E
                  obtain ⟨m89, hm90, E, hG⟩ := E_go (pc' := 150) (lv' := [(4, .int (c - c / (100 : Int32) * (100 : Int32))), (3, .int (gi h 14 r.toNatClampNeg)), (0, .ref 2), (1, .int r), (2, .int c)]) (st' := [.ref 2]) (h' := rk_pt (rk_pt (rk_pt h (4 + r.toNatClampNeg) ((gi h 14 r.toNatClampNeg).toNatClampNeg) (.int c)) 14 r.toNatClampNeg (.int ((gi h 14 r.toNatClampNeg) + (1 : Int32)))) 15 r.toNatClampNeg (.int ((gi (rk_pt (rk_pt h (4 + r.toNatClampNeg) ((gi h 14 r.toNatClampNeg).toNatClampNeg) (.int c)) 14 r.toNatClampNeg (.int ((gi h 14 r.toNatClampNeg) + (1 : Int32)))) 15 r.toNatClampNeg) ||| (1 : Int32)))) 10 rfl E hG
                  try simp only [gi_x (a := 14) (a' := 15) (by decide), gi_x (a := (4 + r.toNatClampNeg)) (a' := 15) (by omega)] at E hG
                  exact Or.inr (Or.inr (Or.inr (Or.inl ⟨c86, _, (by omega), hG, E⟩)))
                ·
                  have c91 : (c / (100 : Int32)).toInt = 4 := hc
                  clear hc
                  obtain ⟨m92, hm93, E⟩ := E_swi (tg := 109) rfl c91 (by decide) (by decide) rfl rfl E
                  obtain ⟨m94, hm95, E, hG⟩ := E_go (pc' := 150) (lv' := [(4, .int (c - c / (100 : Int32) * (100 : Int32))), (3, .int (gi h 14 r.toNatClampNeg)), (0, .ref 2), (1, .int r), (2, .int c)]) (st' := [.ref 2]) (h' := rk_pt (rk_pt (rk_pt h (4 + r.toNatClampNeg) ((gi h 14 r.toNatClampNeg).toNatClampNeg) (.int c)) 14 r.toNatClampNeg (.int ((gi h 14 r.toNatClampNeg) + (1 : Int32)))) 17 r.toNatClampNeg (.int ((gi (rk_pt (rk_pt h (4 + r.toNatClampNeg) ((gi h 14 r.toNatClampNeg).toNatClampNeg) (.int c)) 14 r.toNatClampNeg (.int ((gi h 14 r.toNatClampNeg) + (1 : Int32)))) 17 r.toNatClampNeg) ||| ((1 : Int32) <<< ((c - c / (100 : Int32) * (100 : Int32)) &&& 31))))) 12 rfl E hG
                  try simp only [gi_x (a := 14) (a' := 17) (by decide), gi_x (a := (4 + r.toNatClampNeg)) (a' := 17) (by omega)] at E hG
                  exact Or.inr (Or.inr (Or.inr (Or.inr (Or.inl ⟨c91, _, (by omega), hG, E⟩))))
                ·
                  have c96 : (c / (100 : Int32)).toInt = 5 := hc
                  clear hc
                  obtain ⟨m97, hm98, E⟩ := E_swi (tg := 125) rfl c96 (by decide) (by decide) rfl rfl E
                  obtain ⟨m99, hm100, E, hG⟩ := E_go (pc' := 136) (lv' := [(4, .int (c - c / (100 : Int32) * (100 : Int32))), (3, .int (gi h 14 r.toNatClampNeg)), (0, .ref 2), (1, .int r), (2, .int c)]) (st' := [.int (8 : Int32), .int (c - c / (100 : Int32) * (100 : Int32)), .int (gi (rk_pt (rk_pt h (4 + r.toNatClampNeg) ((gi h 14 r.toNatClampNeg).toNatClampNeg) (.int c)) 14 r.toNatClampNeg (.int ((gi h 14 r.toNatClampNeg) + (1 : Int32)))) 15 r.toNatClampNeg), .int r, .ref 15]) (h' := rk_pt (rk_pt h (4 + r.toNatClampNeg) ((gi h 14 r.toNatClampNeg).toNatClampNeg) (.int c)) 14 r.toNatClampNeg (.int ((gi h 14 r.toNatClampNeg) + (1 : Int32)))) 7 rfl E hG
                  try simp only [gi_x (a := 14) (a' := 15) (by decide), gi_x (a := (4 + r.toNatClampNeg)) (a' := 15) (by omega)] at E hG
                  rcases E_if2 (tg := 143) rfl rfl E with ⟨hc, m101, hm102, E⟩ | ⟨hc, m103, hm104, E⟩
                  ·
                    have c105 : ¬ (c - c / (100 : Int32) * (100 : Int32)).toInt = 8 := hc
                    clear hc
                    obtain ⟨m106, hm107, E, hG⟩ := E_go (pc' := 150) (lv' := [(4, .int (c - c / (100 : Int32) * (100 : Int32))), (3, .int (gi h 14 r.toNatClampNeg)), (0, .ref 2), (1, .int r), (2, .int c)]) (st' := [.ref 2]) (h' := rk_pt (rk_pt (rk_pt h (4 + r.toNatClampNeg) ((gi h 14 r.toNatClampNeg).toNatClampNeg) (.int c)) 14 r.toNatClampNeg (.int ((gi h 14 r.toNatClampNeg) + (1 : Int32)))) 15 r.toNatClampNeg (.int ((gi h 15 r.toNatClampNeg) ||| (0 : Int32)))) 5 rfl E hG
                    exact Or.inr (Or.inr (Or.inr (Or.inr (Or.inr (Or.inl ⟨c96, c105, _, (by omega), hG, E⟩)))))
                  ·
                    have c108 : (c - c / (100 : Int32) * (100 : Int32)).toInt = 8 := Decidable.not_not.mp hc
                    clear hc
                    obtain ⟨m109, hm110, E, hG⟩ := E_go (pc' := 150) (lv' := [(4, .int (c - c / (100 : Int32) * (100 : Int32))), (3, .int (gi h 14 r.toNatClampNeg)), (0, .ref 2), (1, .int r), (2, .int c)]) (st' := [.ref 2]) (h' := rk_pt (rk_pt (rk_pt h (4 + r.toNatClampNeg) ((gi h 14 r.toNatClampNeg).toNatClampNeg) (.int c)) 14 r.toNatClampNeg (.int ((gi h 14 r.toNatClampNeg) + (1 : Int32)))) 15 r.toNatClampNeg (.int ((gi h 15 r.toNatClampNeg) ||| (2 : Int32)))) 6 rfl E hG
                    exact Or.inr (Or.inr (Or.inr (Or.inr (Or.inr (Or.inr ⟨c96, c108, _, (by omega), hG, E⟩)))))
              · exact absurd q3 hc
set_option maxRecDepth 100000 in
set_option maxHeartbeats 4000000 in
theorem yt_addc2 {n d : Nat} {h : rk_S} {o : Option Value × rk_S} {r c y z : Int32} (hG : yG h) (E : rk_ex n d rm_X3_addCode 153 [(4, .int z), (3, .int y), (0, .ref 2), (1, .int r), (2, .int c)] [] h = some o) :
    (yG h ∧ o = (none, h)) := by
  have ho1 := E_retv rfl E
  exact ⟨hG, ho1⟩
