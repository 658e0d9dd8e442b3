/-! pieces of called, actingOf, reads (laid by wip/gen/y8.py) -/
set_option maxRecDepth 100000 in
set_option maxHeartbeats 4000000 in
theorem yt_cal {n d : Nat} {h : rk_S} {o : Option Value × rk_S} {q s u w k j x : Int32} (hG : yG h) (E : rk_ex n d rm_X8_called 28 [(0, .ref 316), (1, .int q), (2, .int s), (3, .int u), (4, .int w), (5, .int k), (6, .int j), (7, .int x)] [] h = some o) :
    ((gi h 317 k.toNatClampNeg).toInt ≤ j.toInt ∧ (gi h 316 0).toInt ≤ (k + (1 : Int32)).toInt ∧ s.toInt = w.toInt ∧ yG h ∧ o = (some (.int s), h)) ∨
    ((gi h 317 k.toNatClampNeg).toInt ≤ j.toInt ∧ (gi h 316 0).toInt ≤ (k + (1 : Int32)).toInt ∧ ¬ (s.toInt = w.toInt) ∧ (gi h 316 0).toInt ≤ 0 ∧ yG h ∧ o = (some (.int s), h)) ∨
    ((gi h 317 k.toNatClampNeg).toInt ≤ j.toInt ∧ (gi h 316 0).toInt ≤ (k + (1 : Int32)).toInt ∧ ¬ (s.toInt = w.toInt) ∧ ¬ ((gi h 316 0).toInt ≤ 0) ∧ ∃ m, m < n ∧ yG h ∧ rk_ex m d rm_X8_called 28 [(0, .ref 316), (1, .int q), (2, .int s), (3, .int (1 : Int32)), (4, .int s), (5, .int (0 : Int32)), (6, .int (0 : Int32)), (7, .int x)] [] h = some o) ∨
    ((gi h 317 k.toNatClampNeg).toInt ≤ j.toInt ∧ ¬ ((gi h 316 0).toInt ≤ (k + (1 : Int32)).toInt) ∧ ∃ m, m < n ∧ yG h ∧ rk_ex m d rm_X8_called 28 [(0, .ref 316), (1, .int q), (2, .int s), (3, .int u), (4, .int w), (5, .int (k + (1 : Int32))), (6, .int (0 : Int32)), (7, .int x)] [] h = some o) ∨
    (¬ ((gi h 317 k.toNatClampNeg).toInt ≤ j.toInt) ∧ ¬ ((s >>> (k &&& 31)) &&& (1 : Int32)).toInt = 1 ∧ (gi h 316 0).toInt ≤ (k + (1 : Int32)).toInt ∧ s.toInt = w.toInt ∧ yG h ∧ o = (some (.int s), h)) ∨
    (¬ ((gi h 317 k.toNatClampNeg).toInt ≤ j.toInt) ∧ ¬ ((s >>> (k &&& 31)) &&& (1 : Int32)).toInt = 1 ∧ (gi h 316 0).toInt ≤ (k + (1 : Int32)).toInt ∧ ¬ (s.toInt = w.toInt) ∧ (gi h 316 0).toInt ≤ 0 ∧ yG h ∧ o = (some (.int s), h)) ∨
    (¬ ((gi h 317 k.toNatClampNeg).toInt ≤ j.toInt) ∧ ¬ ((s >>> (k &&& 31)) &&& (1 : Int32)).toInt = 1 ∧ (gi h 316 0).toInt ≤ (k + (1 : Int32)).toInt ∧ ¬ (s.toInt = w.toInt) ∧ ¬ ((gi h 316 0).toInt ≤ 0) ∧ ∃ m, m < n ∧ yG h ∧ rk_ex m d rm_X8_called 28 [(0, .ref 316), (1, .int q), (2, .int s), (3, .int (1 : Int32)), (4, .int s), (5, .int (0 : Int32)), (6, .int (0 : Int32)), (7, .int x)] [] h = some o) ∨
    (¬ ((gi h 317 k.toNatClampNeg).toInt ≤ j.toInt) ∧ ¬ ((s >>> (k &&& 31)) &&& (1 : Int32)).toInt = 1 ∧ ¬ ((gi h 316 0).toInt ≤ (k + (1 : Int32)).toInt) ∧ ∃ m, m < n ∧ yG h ∧ rk_ex m d rm_X8_called 28 [(0, .ref 316), (1, .int q), (2, .int s), (3, .int u), (4, .int w), (5, .int (k + (1 : Int32))), (6, .int (0 : Int32)), (7, .int x)] [] h = some o) ∨
    (¬ ((gi h 317 k.toNatClampNeg).toInt ≤ j.toInt) ∧ ((s >>> (k &&& 31)) &&& (1 : Int32)).toInt = 1 ∧ (gi h 318 ((((40 : Int32) * k) + j).toNatClampNeg)).toInt < 400 ∧ ∃ m, m < n ∧ yG h ∧ rk_ex m d rm_X8_called 28 [(0, .ref 316), (1, .int q), (2, .int (s ||| (0 : Int32))), (3, .int u), (4, .int w), (5, .int k), (6, .int (j + (1 : Int32))), (7, .int (gi h 318 ((((40 : Int32) * k) + j).toNatClampNeg)))] [] h = some o) ∨
    (¬ ((gi h 317 k.toNatClampNeg).toInt ≤ j.toInt) ∧ ((s >>> (k &&& 31)) &&& (1 : Int32)).toInt = 1 ∧ ¬ ((gi h 318 ((((40 : Int32) * k) + j).toNatClampNeg)).toInt < 400) ∧ ((399 : Int32) + (gi h 316 0)).toInt < (gi h 318 ((((40 : Int32) * k) + j).toNatClampNeg)).toInt ∧ ∃ m, m < n ∧ yG h ∧ rk_ex m d rm_X8_called 28 [(0, .ref 316), (1, .int q), (2, .int (s ||| (0 : Int32))), (3, .int u), (4, .int w), (5, .int k), (6, .int (j + (1 : Int32))), (7, .int (gi h 318 ((((40 : Int32) * k) + j).toNatClampNeg)))] [] h = some o) ∨
    (¬ ((gi h 317 k.toNatClampNeg).toInt ≤ j.toInt) ∧ ((s >>> (k &&& 31)) &&& (1 : Int32)).toInt = 1 ∧ ¬ ((gi h 318 ((((40 : Int32) * k) + j).toNatClampNeg)).toInt < 400) ∧ ¬ (((399 : Int32) + (gi h 316 0)).toInt < (gi h 318 ((((40 : Int32) * k) + j).toNatClampNeg)).toInt) ∧ ∃ m, m < n ∧ yG h ∧ rk_ex m d rm_X8_called 28 [(0, .ref 316), (1, .int q), (2, .int (s ||| ((1 : Int32) <<< (((gi h 318 ((((40 : Int32) * k) + j).toNatClampNeg)) - (400 : Int32)) &&& 31)))), (3, .int u), (4, .int w), (5, .int k), (6, .int (j + (1 : Int32))), (7, .int (gi h 318 ((((40 : Int32) * k) + j).toNatClampNeg)))] [] h = some o) := by
  obtain ⟨m1, hm2, E, hG⟩ := E_go (pc' := 37) (lv' := [(0, .ref 316), (1, .int q), (2, .int s), (3, .int u), (4, .int w), (5, .int k), (6, .int j), (7, .int x)]) (st' := [.int (gi h 317 k.toNatClampNeg), .int j]) (h' := h) 5 rfl E hG
  rcases E_if2 (tg := 105) rfl rfl E with ⟨hc, m3, hm4, E⟩ | ⟨hc, m5, hm6, E⟩
  ·
    have c7 : (gi h 317 k.toNatClampNeg).toInt ≤ j.toInt := hc
    clear hc
    obtain ⟨m8, hm9, E, hG⟩ := E_go (pc' := 22) (lv' := [(5, .int (k + (1 : Int32))), (0, .ref 316), (1, .int q), (2, .int s), (3, .int u), (4, .int w), (6, .int j), (7, .int x)]) (st' := [.int (gi h 316 0), .int (k + (1 : Int32))]) (h' := h) 5 rfl E hG
    rcases E_if2 (tg := 111) rfl rfl E with ⟨hc, m10, hm11, E⟩ | ⟨hc, m12, hm13, E⟩
    ·
      have c14 : (gi h 316 0).toInt ≤ (k + (1 : Int32)).toInt := hc
      clear hc
      obtain ⟨m15, hm16, E, hG⟩ := E_go (pc' := 114) (lv' := [(5, .int (k + (1 : Int32))), (0, .ref 316), (1, .int q), (2, .int s), (3, .int u), (4, .int w), (6, .int j), (7, .int x)]) (st' := [.int w, .int s]) (h' := h) 2 rfl E hG
      rcases E_if2 (tg := 121) rfl rfl E with ⟨hc, m17, hm18, E⟩ | ⟨hc, m19, hm20, E⟩
      ·
        have c21 : s.toInt = w.toInt := hc
        clear hc
        obtain ⟨m22, hm23, E, hG⟩ := E_go (pc' := 7) (lv' := [(3, .int (0 : Int32)), (5, .int (k + (1 : Int32))), (0, .ref 316), (1, .int q), (2, .int s), (4, .int w), (6, .int j), (7, .int x)]) (st' := [.int (0 : Int32)]) (h' := h) 4 rfl E hG
        rcases E_if1 (tg := 126) rfl rfl E with ⟨hc, m24, hm25, E⟩ | ⟨hc, m26, hm27, E⟩
        ·
          clear hc
          obtain ⟨m28, hm29, E, hG⟩ := E_go (pc' := 127) (lv' := [(3, .int (0 : Int32)), (5, .int (k + (1 : Int32))), (0, .ref 316), (1, .int q), (2, .int s), (4, .int w), (6, .int j), (7, .int x)]) (st' := [.int s]) (h' := h) 1 rfl E hG
          have ho30 := E_reti rfl E
          exact Or.inl ⟨c7, c14, c21, hG, ho30⟩
        · exact absurd (show ¬ ((0 : Int) = 0) from hc) (by decide)
      ·
        have c31 : ¬ (s.toInt = w.toInt) := hc
        clear hc
        obtain ⟨m32, hm33, E, hG⟩ := E_go (pc' := 7) (lv' := [(3, .int (1 : Int32)), (5, .int (k + (1 : Int32))), (0, .ref 316), (1, .int q), (2, .int s), (4, .int w), (6, .int j), (7, .int x)]) (st' := [.int (1 : Int32)]) (h' := h) 5 rfl E hG
        rcases E_if1 (tg := 126) rfl rfl E with ⟨hc, m34, hm35, E⟩ | ⟨hc, m36, hm37, E⟩
        · exact absurd (show (1 : Int) = 0 from hc) (by decide)
        ·
          clear hc
          obtain ⟨m38, hm39, E, hG⟩ := E_go (pc' := 22) (lv' := [(5, .int (0 : Int32)), (4, .int s), (3, .int (1 : Int32)), (0, .ref 316), (1, .int q), (2, .int s), (6, .int j), (7, .int x)]) (st' := [.int (gi h 316 0), .int (0 : Int32)]) (h' := h) 7 rfl E hG
          rcases E_if2 (tg := 111) rfl rfl E with ⟨hc, m40, hm41, E⟩ | ⟨hc, m42, hm43, E⟩
          ·
            have c44 : (gi h 316 0).toInt ≤ 0 := hc
            clear hc
            obtain ⟨m45, hm46, E, hG⟩ := E_go (pc' := 114) (lv' := [(5, .int (0 : Int32)), (4, .int s), (3, .int (1 : Int32)), (0, .ref 316), (1, .int q), (2, .int s), (6, .int j), (7, .int x)]) (st' := [.int s, .int s]) (h' := h) 2 rfl E hG
            rcases E_if2 (tg := 121) rfl rfl E with ⟨hc, m47, hm48, E⟩ | ⟨hc, m49, hm50, E⟩
            ·
              clear hc
              obtain ⟨m51, hm52, E, hG⟩ := E_go (pc' := 7) (lv' := [(3, .int (0 : Int32)), (5, .int (0 : Int32)), (4, .int s), (0, .ref 316), (1, .int q), (2, .int s), (6, .int j), (7, .int x)]) (st' := [.int (0 : Int32)]) (h' := h) 4 rfl E hG
              rcases E_if1 (tg := 126) rfl rfl E with ⟨hc, m53, hm54, E⟩ | ⟨hc, m55, hm56, E⟩
              ·
                clear hc
                obtain ⟨m57, hm58, E, hG⟩ := E_go (pc' := 127) (lv' := [(3, .int (0 : Int32)), (5, .int (0 : Int32)), (4, .int s), (0, .ref 316), (1, .int q), (2, .int s), (6, .int j), (7, .int x)]) (st' := [.int s]) (h' := h) 1 rfl E hG
                have ho59 := E_reti rfl E
                exact Or.inr (Or.inl ⟨c7, c14, c31, c44, hG, ho59⟩)
              · exact absurd (show ¬ ((0 : Int) = 0) from hc) (by decide)
            · exact absurd (show ¬ (s.toInt = s.toInt) from hc) (by omega)
          ·
            have c60 : ¬ ((gi h 316 0).toInt ≤ 0) := hc
            clear hc
            obtain ⟨m61, hm62, E, hG⟩ := E_go (pc' := 28) (lv' := [(6, .int (0 : Int32)), (5, .int (0 : Int32)), (4, .int s), (3, .int (1 : Int32)), (0, .ref 316), (1, .int q), (2, .int s), (7, .int x)]) (st' := []) (h' := h) 2 rfl E hG
            replace E := E_lv [(0, .ref 316), (1, .int q), (2, .int s), (3, .int (1 : Int32)), (4, .int s), (5, .int (0 : Int32)), (6, .int (0 : Int32)), (7, .int x)] rfl (lvs_c rfl rfl (lvs_c rfl rfl (lvs_c rfl rfl (lvs_c rfl rfl (lvs_c rfl rfl (lvs_c rfl rfl (lvs_c rfl rfl (lvs_c rfl rfl lvs_n)))))))) E
            exact Or.inr (Or.inr (Or.inl ⟨c7, c14, c31, c60, _, (by omega), hG, E⟩))
    ·
      have c64 : ¬ ((gi h 316 0).toInt ≤ (k + (1 : Int32)).toInt) := hc
      clear hc
      obtain ⟨m65, hm66, E, hG⟩ := E_go (pc' := 28) (lv' := [(6, .int (0 : Int32)), (5, .int (k + (1 : Int32))), (0, .ref 316), (1, .int q), (2, .int s), (3, .int u), (4, .int w), (7, .int x)]) (st' := []) (h' := h) 2 rfl E hG
      replace E := E_lv [(0, .ref 316), (1, .int q), (2, .int s), (3, .int u), (4, .int w), (5, .int (k + (1 : Int32))), (6, .int (0 : Int32)), (7, .int x)] rfl (lvs_c rfl rfl (lvs_c rfl rfl (lvs_c rfl rfl (lvs_c rfl rfl (lvs_c rfl rfl (lvs_c rfl rfl (lvs_c rfl rfl (lvs_c rfl rfl lvs_n)))))))) E
      exact Or.inr (Or.inr (Or.inr (Or.inl ⟨c7, c64, _, (by omega), hG, E⟩)))
  ·
    have c68 : ¬ ((gi h 317 k.toNatClampNeg).toInt ≤ j.toInt) := hc
    clear hc
    obtain ⟨m69, hm70, E, hG⟩ := E_go (pc' := 47) (lv' := [(0, .ref 316), (1, .int q), (2, .int s), (3, .int u), (4, .int w), (5, .int k), (6, .int j), (7, .int x)]) (st' := [.int (1 : Int32), .int ((s >>> (k &&& 31)) &&& (1 : Int32))]) (h' := h) 6 rfl E hG
    rcases E_if2 (tg := 105) rfl rfl E with ⟨hc, m71, hm72, E⟩ | ⟨hc, m73, hm74, E⟩
    ·
      have c75 : ¬ ((s >>> (k &&& 31)) &&& (1 : Int32)).toInt = 1 := hc
      clear hc
      obtain ⟨m76, hm77, E, hG⟩ := E_go (pc' := 22) (lv' := [(5, .int (k + (1 : Int32))), (0, .ref 316), (1, .int q), (2, .int s), (3, .int u), (4, .int w), (6, .int j), (7, .int x)]) (st' := [.int (gi h 316 0), .int (k + (1 : Int32))]) (h' := h) 5 rfl E hG
      rcases E_if2 (tg := 111) rfl rfl E with ⟨hc, m78, hm79, E⟩ | ⟨hc, m80, hm81, E⟩
      ·
        have c82 : (gi h 316 0).toInt ≤ (k + (1 : Int32)).toInt := hc
        clear hc
        obtain ⟨m83, hm84, E, hG⟩ := E_go (pc' := 114) (lv' := [(5, .int (k + (1 : Int32))), (0, .ref 316), (1, .int q), (2, .int s), (3, .int u), (4, .int w), (6, .int j), (7, .int x)]) (st' := [.int w, .int s]) (h' := h) 2 rfl E hG
        rcases E_if2 (tg := 121) rfl rfl E with ⟨hc, m85, hm86, E⟩ | ⟨hc, m87, hm88, E⟩
        ·
          have c89 : s.toInt = w.toInt := hc
          clear hc
          obtain ⟨m90, hm91, E, hG⟩ := E_go (pc' := 7) (lv' := [(3, .int (0 : Int32)), (5, .int (k + (1 : Int32))), (0, .ref 316), (1, .int q), (2, .int s), (4, .int w), (6, .int j), (7, .int x)]) (st' := [.int (0 : Int32)]) (h' := h) 4 rfl E hG
          rcases E_if1 (tg := 126) rfl rfl E with ⟨hc, m92, hm93, E⟩ | ⟨hc, m94, hm95, E⟩
          ·
            clear hc
            obtain ⟨m96, hm97, E, hG⟩ := E_go (pc' := 127) (lv' := [(3, .int (0 : Int32)), (5, .int (k + (1 : Int32))), (0, .ref 316), (1, .int q), (2, .int s), (4, .int w), (6, .int j), (7, .int x)]) (st' := [.int s]) (h' := h) 1 rfl E hG
            have ho98 := E_reti rfl E
            exact Or.inr (Or.inr (Or.inr (Or.inr (Or.inl ⟨c68, c75, c82, c89, hG, ho98⟩))))
          · exact absurd (show ¬ ((0 : Int) = 0) from hc) (by decide)
        ·
          have c99 : ¬ (s.toInt = w.toInt) := hc
          clear hc
          obtain ⟨m100, hm101, E, hG⟩ := E_go (pc' := 7) (lv' := [(3, .int (1 : Int32)), (5, .int (k + (1 : Int32))), (0, .ref 316), (1, .int q), (2, .int s), (4, .int w), (6, .int j), (7, .int x)]) (st' := [.int (1 : Int32)]) (h' := h) 5 rfl E hG
          rcases E_if1 (tg := 126) rfl rfl E with ⟨hc, m102, hm103, E⟩ | ⟨hc, m104, hm105, E⟩
          · exact absurd (show (1 : Int) = 0 from hc) (by decide)
          ·
            clear hc
            obtain ⟨m106, hm107, E, hG⟩ := E_go (pc' := 22) (lv' := [(5, .int (0 : Int32)), (4, .int s), (3, .int (1 : Int32)), (0, .ref 316), (1, .int q), (2, .int s), (6, .int j), (7, .int x)]) (st' := [.int (gi h 316 0), .int (0 : Int32)]) (h' := h) 7 rfl E hG
            rcases E_if2 (tg := 111) rfl rfl E with ⟨hc, m108, hm109, E⟩ | ⟨hc, m110, hm111, E⟩
            ·
              have c112 : (gi h 316 0).toInt ≤ 0 := hc
              clear hc
              obtain ⟨m113, hm114, E, hG⟩ := E_go (pc' := 114) (lv' := [(5, .int (0 : Int32)), (4, .int s), (3, .int (1 : Int32)), (0, .ref 316), (1, .int q), (2, .int s), (6, .int j), (7, .int x)]) (st' := [.int s, .int s]) (h' := h) 2 rfl E hG
              rcases E_if2 (tg := 121) rfl rfl E with ⟨hc, m115, hm116, E⟩ | ⟨hc, m117, hm118, E⟩
              ·
                clear hc
                obtain ⟨m119, hm120, E, hG⟩ := E_go (pc' := 7) (lv' := [(3, .int (0 : Int32)), (5, .int (0 : Int32)), (4, .int s), (0, .ref 316), (1, .int q), (2, .int s), (6, .int j), (7, .int x)]) (st' := [.int (0 : Int32)]) (h' := h) 4 rfl E hG
                rcases E_if1 (tg := 126) rfl rfl E with ⟨hc, m121, hm122, E⟩ | ⟨hc, m123, hm124, E⟩
                ·
                  clear hc
                  obtain ⟨m125, hm126, E, hG⟩ := E_go (pc' := 127) (lv' := [(3, .int (0 : Int32)), (5, .int (0 : Int32)), (4, .int s), (0, .ref 316), (1, .int q), (2, .int s), (6, .int j), (7, .int x)]) (st' := [.int s]) (h' := h) 1 rfl E hG
                  have ho127 := E_reti rfl E
                  exact Or.inr (Or.inr (Or.inr (Or.inr (Or.inr (Or.inl ⟨c68, c75, c82, c99, c112, hG, ho127⟩)))))
                · exact absurd (show ¬ ((0 : Int) = 0) from hc) (by decide)
              · exact absurd (show ¬ (s.toInt = s.toInt) from hc) (by omega)
            ·
              have c128 : ¬ ((gi h 316 0).toInt ≤ 0) := hc
              clear hc
              obtain ⟨m129, hm130, E, hG⟩ := E_go (pc' := 28) (lv' := [(6, .int (0 : Int32)), (5, .int (0 : Int32)), (4, .int s), (3, .int (1 : Int32)), (0, .ref 316), (1, .int q), (2, .int s), (7, .int x)]) (st' := []) (h' := h) 2 rfl E hG
              replace E := E_lv [(0, .ref 316), (1, .int q), (2, .int s), (3, .int (1 : Int32)), (4, .int s), (5, .int (0 : Int32)), (6, .int (0 : Int32)), (7, .int x)] rfl (lvs_c rfl rfl (lvs_c rfl rfl (lvs_c rfl rfl (lvs_c rfl rfl (lvs_c rfl rfl (lvs_c rfl rfl (lvs_c rfl rfl (lvs_c rfl rfl lvs_n)))))))) E
              exact Or.inr (Or.inr (Or.inr (Or.inr (Or.inr (Or.inr (Or.inl ⟨c68, c75, c82, c99, c128, _, (by omega), hG, E⟩))))))
      ·
        have c132 : ¬ ((gi h 316 0).toInt ≤ (k + (1 : Int32)).toInt) := hc
        clear hc
        obtain ⟨m133, hm134, E, hG⟩ := E_go (pc' := 28) (lv' := [(6, .int (0 : Int32)), (5, .int (k + (1 : Int32))), (0, .ref 316), (1, .int q), (2, .int s), (3, .int u), (4, .int w), (7, .int x)]) (st' := []) (h' := h) 2 rfl E hG
        replace E := E_lv [(0, .ref 316), (1, .int q), (2, .int s), (3, .int u), (4, .int w), (5, .int (k + (1 : Int32))), (6, .int (0 : Int32)), (7, .int x)] rfl (lvs_c rfl rfl (lvs_c rfl rfl (lvs_c rfl rfl (lvs_c rfl rfl (lvs_c rfl rfl (lvs_c rfl rfl (lvs_c rfl rfl (lvs_c rfl rfl lvs_n)))))))) E
        exact Or.inr (Or.inr (Or.inr (Or.inr (Or.inr (Or.inr (Or.inr (Or.inl ⟨c68, c75, c132, _, (by omega), hG, E⟩)))))))
    ·
      have c136 : ((s >>> (k &&& 31)) &&& (1 : Int32)).toInt = 1 := Decidable.not_not.mp hc
      clear hc
      obtain ⟨m137, hm138, E, hG⟩ := E_go (pc' := 79) (lv' := [(7, .int (gi h 318 ((((40 : Int32) * k) + j).toNatClampNeg))), (0, .ref 316), (1, .int q), (2, .int s), (3, .int u), (4, .int w), (5, .int k), (6, .int j)]) (st' := [.int ((399 : Int32) + (gi h 316 0)), .int (400 : Int32), .int (gi h 318 ((((40 : Int32) * k) + j).toNatClampNeg)), .int s]) (h' := h) 16 rfl E hG
      obtain ⟨m139, d140, o141, hm143, E142, F142⟩ := E_call (ar := ([.int (gi h 318 ((((40 : Int32) * k) + j).toNatClampNeg)), .int (400 : Int32), .int ((399 : Int32) + (gi h 316 0))], [.int s])) rfl rfl rfl rfl rfl rfl E
      replace E142 : rk_ex m139 d140 rm_X8_in 0 [(0, .int (gi h 318 ((((40 : Int32) * k) + j).toNatClampNeg))), (1, .int (400 : Int32)), (2, .int ((399 : Int32) + (gi h 316 0)))] [] h = some o141 := E142
      obtain ⟨m144, hm145, E142, hG⟩ := E_go (pc' := 2) (lv' := [(0, .int (gi h 318 ((((40 : Int32) * k) + j).toNatClampNeg))), (1, .int (400 : Int32)), (2, .int ((399 : Int32) + (gi h 316 0)))]) (st' := [.int (400 : Int32), .int (gi h 318 ((((40 : Int32) * k) + j).toNatClampNeg))]) (h' := h) 2 rfl E142 hG
      rcases E_if2 (tg := 14) rfl rfl E142 with ⟨hc, m146, hm147, E142⟩ | ⟨hc, m148, hm149, E142⟩
      ·
        have c150 : (gi h 318 ((((40 : Int32) * k) + j).toNatClampNeg)).toInt < 400 := hc
        clear hc
        obtain ⟨m151, hm152, E142, hG⟩ := E_go (pc' := 15) (lv' := [(0, .int (gi h 318 ((((40 : Int32) * k) + j).toNatClampNeg))), (1, .int (400 : Int32)), (2, .int ((399 : Int32) + (gi h 316 0)))]) (st' := [.int (0 : Int32)]) (h' := h) 1 rfl E142 hG
        have ho153 := E_reti rfl E142
        subst ho153
        have E : rk_ex m139 d rm_X8_called 82 [(7, .int (gi h 318 ((((40 : Int32) * k) + j).toNatClampNeg))), (0, .ref 316), (1, .int q), (2, .int s), (3, .int u), (4, .int w), (5, .int k), (6, .int j)] [.int (0 : Int32), .int s] h = some o := F142
        rcases E_if1 (tg := 96) rfl rfl E with ⟨hc, m154, hm155, E⟩ | ⟨hc, m156, hm157, E⟩
        ·
          clear hc
          obtain ⟨m158, hm159, E, hG⟩ := E_go (pc' := 28) (lv' := [(6, .int (j + (1 : Int32))), (2, .int (s ||| (0 : Int32))), (7, .int (gi h 318 ((((40 : Int32) * k) + j).toNatClampNeg))), (0, .ref 316), (1, .int q), (3, .int u), (4, .int w), (5, .int k)]) (st' := []) (h' := h) 5 rfl E hG
          replace E := E_lv [(0, .ref 316), (1, .int q), (2, .int (s ||| (0 : Int32))), (3, .int u), (4, .int w), (5, .int k), (6, .int (j + (1 : Int32))), (7, .int (gi h 318 ((((40 : Int32) * k) + j).toNatClampNeg)))] rfl (lvs_c rfl rfl (lvs_c rfl rfl (lvs_c rfl rfl (lvs_c rfl rfl (lvs_c rfl rfl (lvs_c rfl rfl (lvs_c rfl rfl (lvs_c rfl rfl lvs_n)))))))) E
          exact Or.inr (Or.inr (Or.inr (Or.inr (Or.inr (Or.inr (Or.inr (Or.inr (Or.inl ⟨c68, c136, c150, _, (by omega), hG, E⟩))))))))
        · exact absurd (show ¬ ((0 : Int) = 0) from hc) (by decide)
      ·
        have c161 : ¬ ((gi h 318 ((((40 : Int32) * k) + j).toNatClampNeg)).toInt < 400) := hc
        clear hc
        obtain ⟨m162, hm163, E142, hG⟩ := E_go (pc' := 7) (lv' := [(0, .int (gi h 318 ((((40 : Int32) * k) + j).toNatClampNeg))), (1, .int (400 : Int32)), (2, .int ((399 : Int32) + (gi h 316 0)))]) (st' := [.int ((399 : Int32) + (gi h 316 0)), .int (gi h 318 ((((40 : Int32) * k) + j).toNatClampNeg))]) (h' := h) 2 rfl E142 hG
        rcases E_if2 (tg := 14) rfl rfl E142 with ⟨hc, m164, hm165, E142⟩ | ⟨hc, m166, hm167, E142⟩
        ·
          have c168 : ((399 : Int32) + (gi h 316 0)).toInt < (gi h 318 ((((40 : Int32) * k) + j).toNatClampNeg)).toInt := hc
          clear hc
          obtain ⟨m169, hm170, E142, hG⟩ := E_go (pc' := 15) (lv' := [(0, .int (gi h 318 ((((40 : Int32) * k) + j).toNatClampNeg))), (1, .int (400 : Int32)), (2, .int ((399 : Int32) + (gi h 316 0)))]) (st' := [.int (0 : Int32)]) (h' := h) 1 rfl E142 hG
          have ho171 := E_reti rfl E142
          subst ho171
          have E : rk_ex m139 d rm_X8_called 82 [(7, .int (gi h 318 ((((40 : Int32) * k) + j).toNatClampNeg))), (0, .ref 316), (1, .int q), (2, .int s), (3, .int u), (4, .int w), (5, .int k), (6, .int j)] [.int (0 : Int32), .int s] h = some o := F142
          rcases E_if1 (tg := 96) rfl rfl E with ⟨hc, m172, hm173, E⟩ | ⟨hc, m174, hm175, E⟩
          ·
            clear hc
            obtain ⟨m176, hm177, E, hG⟩ := E_go (pc' := 28) (lv' := [(6, .int (j + (1 : Int32))), (2, .int (s ||| (0 : Int32))), (7, .int (gi h 318 ((((40 : Int32) * k) + j).toNatClampNeg))), (0, .ref 316), (1, .int q), (3, .int u), (4, .int w), (5, .int k)]) (st' := []) (h' := h) 5 rfl E hG
            replace E := E_lv [(0, .ref 316), (1, .int q), (2, .int (s ||| (0 : Int32))), (3, .int u), (4, .int w), (5, .int k), (6, .int (j + (1 : Int32))), (7, .int (gi h 318 ((((40 : Int32) * k) + j).toNatClampNeg)))] rfl (lvs_c rfl rfl (lvs_c rfl rfl (lvs_c rfl rfl (lvs_c rfl rfl (lvs_c rfl rfl (lvs_c rfl rfl (lvs_c rfl rfl (lvs_c rfl rfl lvs_n)))))))) E
            exact Or.inr (Or.inr (Or.inr (Or.inr (Or.inr (Or.inr (Or.inr (Or.inr (Or.inr (Or.inl ⟨c68, c136, c161, c168, _, (by omega), hG, E⟩)))))))))
          · exact absurd (show ¬ ((0 : Int) = 0) from hc) (by decide)
        ·
          have c179 : ¬ (((399 : Int32) + (gi h 316 0)).toInt < (gi h 318 ((((40 : Int32) * k) + j).toNatClampNeg)).toInt) := hc
          clear hc
          obtain ⟨m180, hm181, E142, hG⟩ := E_go (pc' := 15) (lv' := [(0, .int (gi h 318 ((((40 : Int32) * k) + j).toNatClampNeg))), (1, .int (400 : Int32)), (2, .int ((399 : Int32) + (gi h 316 0)))]) (st' := [.int (1 : Int32)]) (h' := h) 2 rfl E142 hG
          have ho182 := E_reti rfl E142
          subst ho182
          have E : rk_ex m139 d rm_X8_called 82 [(7, .int (gi h 318 ((((40 : Int32) * k) + j).toNatClampNeg))), (0, .ref 316), (1, .int q), (2, .int s), (3, .int u), (4, .int w), (5, .int k), (6, .int j)] [.int (1 : Int32), .int s] h = some o := F142
          rcases E_if1 (tg := 96) rfl rfl E with ⟨hc, m183, hm184, E⟩ | ⟨hc, m185, hm186, E⟩
          · exact absurd (show (1 : Int) = 0 from hc) (by decide)
          ·
            clear hc
            obtain ⟨m187, hm188, E, hG⟩ := E_go (pc' := 28) (lv' := [(6, .int (j + (1 : Int32))), (2, .int (s ||| ((1 : Int32) <<< (((gi h 318 ((((40 : Int32) * k) + j).toNatClampNeg)) - (400 : Int32)) &&& 31)))), (7, .int (gi h 318 ((((40 : Int32) * k) + j).toNatClampNeg))), (0, .ref 316), (1, .int q), (3, .int u), (4, .int w), (5, .int k)]) (st' := []) (h' := h) 10 rfl E hG
            replace E := E_lv [(0, .ref 316), (1, .int q), (2, .int (s ||| ((1 : Int32) <<< (((gi h 318 ((((40 : Int32) * k) + j).toNatClampNeg)) - (400 : Int32)) &&& 31)))), (3, .int u), (4, .int w), (5, .int k), (6, .int (j + (1 : Int32))), (7, .int (gi h 318 ((((40 : Int32) * k) + j).toNatClampNeg)))] rfl (lvs_c rfl rfl (lvs_c rfl rfl (lvs_c rfl rfl (lvs_c rfl rfl (lvs_c rfl rfl (lvs_c rfl rfl (lvs_c rfl rfl (lvs_c rfl rfl lvs_n)))))))) E
            exact Or.inr (Or.inr (Or.inr (Or.inr (Or.inr (Or.inr (Or.inr (Or.inr (Or.inr (Or.inr ⟨c68, c136, c161, c179, _, (by omega), hG, E⟩)))))))))
set_option maxRecDepth 100000 in
set_option maxHeartbeats 4000000 in
theorem yt_cal0 {n d : Nat} {h : rk_S} {o : Option Value × rk_S} {q : Int32} (hG : yG h) (E : rk_ex n d rm_X8_called 0 [(0, .ref 316), (1, .int q)] [] h = some o) :
    ((gi h 316 0).toInt ≤ 0 ∧ yG h ∧ o = (some (.int ((1 : Int32) <<< (q &&& 31))), h)) ∨
    (¬ ((gi h 316 0).toInt ≤ 0) ∧ ∃ m, m < n ∧ yG h ∧ rk_ex m d rm_X8_called 28 [(0, .ref 316), (1, .int q), (2, .int ((1 : Int32) <<< (q &&& 31))), (3, .int (1 : Int32)), (4, .int ((1 : Int32) <<< (q &&& 31))), (5, .int (0 : Int32)), (6, .int (0 : Int32)), (7, .int (0 : Int32))] [] h = some o) := by
  obtain ⟨m1, hm2, E, hG⟩ := E_go (pc' := 7) (lv' := [(3, .int (1 : Int32)), (2, .int ((1 : Int32) <<< (q &&& 31))), (0, .ref 316), (1, .int q)]) (st' := [.int (1 : Int32)]) (h' := h) 7 rfl E hG
  rcases E_if1 (tg := 126) rfl rfl E with ⟨hc, m3, hm4, E⟩ | ⟨hc, m5, hm6, E⟩
  · exact absurd (show (1 : Int) = 0 from hc) (by decide)
  ·
    clear hc
    obtain ⟨m7, hm8, E, hG⟩ := E_go (pc' := 22) (lv' := [(5, .int (0 : Int32)), (4, .int ((1 : Int32) <<< (q &&& 31))), (3, .int (1 : Int32)), (2, .int ((1 : Int32) <<< (q &&& 31))), (0, .ref 316), (1, .int q)]) (st' := [.int (gi h 316 0), .int (0 : Int32)]) (h' := h) 7 rfl E hG
    rcases E_if2 (tg := 111) rfl rfl E with ⟨hc, m9, hm10, E⟩ | ⟨hc, m11, hm12, E⟩
    ·
      have c13 : (gi h 316 0).toInt ≤ 0 := hc
      clear hc
      obtain ⟨m14, hm15, E, hG⟩ := E_go (pc' := 114) (lv' := [(5, .int (0 : Int32)), (4, .int ((1 : Int32) <<< (q &&& 31))), (3, .int (1 : Int32)), (2, .int ((1 : Int32) <<< (q &&& 31))), (0, .ref 316), (1, .int q)]) (st' := [.int ((1 : Int32) <<< (q &&& 31)), .int ((1 : Int32) <<< (q &&& 31))]) (h' := h) 2 rfl E hG
      rcases E_if2 (tg := 121) rfl rfl E with ⟨hc, m16, hm17, E⟩ | ⟨hc, m18, hm19, E⟩
      ·
        clear hc
        obtain ⟨m20, hm21, E, hG⟩ := E_go (pc' := 7) (lv' := [(3, .int (0 : Int32)), (5, .int (0 : Int32)), (4, .int ((1 : Int32) <<< (q &&& 31))), (2, .int ((1 : Int32) <<< (q &&& 31))), (0, .ref 316), (1, .int q)]) (st' := [.int (0 : Int32)]) (h' := h) 4 rfl E hG
        rcases E_if1 (tg := 126) rfl rfl E with ⟨hc, m22, hm23, E⟩ | ⟨hc, m24, hm25, E⟩
        ·
          clear hc
          obtain ⟨m26, hm27, E, hG⟩ := E_go (pc' := 127) (lv' := [(3, .int (0 : Int32)), (5, .int (0 : Int32)), (4, .int ((1 : Int32) <<< (q &&& 31))), (2, .int ((1 : Int32) <<< (q &&& 31))), (0, .ref 316), (1, .int q)]) (st' := [.int ((1 : Int32) <<< (q &&& 31))]) (h' := h) 1 rfl E hG
          have ho28 := E_reti rfl E
          exact Or.inl ⟨c13, hG, ho28⟩
        · exact absurd (show ¬ ((0 : Int) = 0) from hc) (by decide)
      · exact absurd (show ¬ (((1 : Int32) <<< (q &&& 31)).toInt = ((1 : Int32) <<< (q &&& 31)).toInt) from hc) (by omega)
    ·
      have c29 : ¬ ((gi h 316 0).toInt ≤ 0) := hc
      clear hc
      obtain ⟨m30, hm31, E, hG⟩ := E_go (pc' := 28) (lv' := [(6, .int (0 : Int32)), (5, .int (0 : Int32)), (4, .int ((1 : Int32) <<< (q &&& 31))), (3, .int (1 : Int32)), (2, .int ((1 : Int32) <<< (q &&& 31))), (0, .ref 316), (1, .int q)]) (st' := []) (h' := h) 2 rfl E hG
      replace E := E_lv [(0, .ref 316), (1, .int q), (2, .int ((1 : Int32) <<< (q &&& 31))), (3, .int (1 : Int32)), (4, .int ((1 : Int32) <<< (q &&& 31))), (5, .int (0 : Int32)), (6, .int (0 : Int32)), (7, .int (0 : Int32))] rfl (lvs_c rfl rfl (lvs_c rfl rfl (lvs_c rfl rfl (lvs_c rfl rfl (lvs_c rfl rfl (lvs_c rfl rfl (lvs_c rfl rfl lvs_n))))))) E
      exact Or.inr ⟨c29, _, (by omega), hG, E⟩
set_option maxRecDepth 100000 in
set_option maxHeartbeats 4000000 in
theorem yt_mac {n d : Nat} {h : rk_S} {o : Option Value × rk_S} {q s u k j x : Int32} (hG : yG h) (E : rk_ex n d rm_X8_actingOf 23 [(0, .ref 316), (1, .int q), (2, .int s), (3, .int u), (4, .int k), (5, .int j), (6, .int x)] [] h = some o) :
    ((gi h 317 k.toNatClampNeg).toInt ≤ j.toInt ∧ (gi h 316 0).toInt ≤ (k + (1 : Int32)).toInt ∧ yG h ∧ o = (some (.int u), h)) ∨
    ((gi h 317 k.toNatClampNeg).toInt ≤ j.toInt ∧ ¬ ((gi h 316 0).toInt ≤ (k + (1 : Int32)).toInt) ∧ ∃ m, m < n ∧ yG h ∧ rk_ex m d rm_X8_actingOf 23 [(0, .ref 316), (1, .int q), (2, .int s), (3, .int u), (4, .int (k + (1 : Int32))), (5, .int (0 : Int32)), (6, .int x)] [] h = some o) ∨
    (¬ ((gi h 317 k.toNatClampNeg).toInt ≤ j.toInt) ∧ ¬ ((s >>> (k &&& 31)) &&& (1 : Int32)).toInt = 1 ∧ (gi h 316 0).toInt ≤ (k + (1 : Int32)).toInt ∧ yG h ∧ o = (some (.int u), h)) ∨
    (¬ ((gi h 317 k.toNatClampNeg).toInt ≤ j.toInt) ∧ ¬ ((s >>> (k &&& 31)) &&& (1 : Int32)).toInt = 1 ∧ ¬ ((gi h 316 0).toInt ≤ (k + (1 : Int32)).toInt) ∧ ∃ m, m < n ∧ yG h ∧ rk_ex m d rm_X8_actingOf 23 [(0, .ref 316), (1, .int q), (2, .int s), (3, .int u), (4, .int (k + (1 : Int32))), (5, .int (0 : Int32)), (6, .int x)] [] h = some o) ∨
    (¬ ((gi h 317 k.toNatClampNeg).toInt ≤ j.toInt) ∧ ((s >>> (k &&& 31)) &&& (1 : Int32)).toInt = 1 ∧ (gi h 318 ((((40 : Int32) * k) + j).toNatClampNeg)).toInt < 300 ∧ ¬ (gi h 318 ((((40 : Int32) * k) + j).toNatClampNeg)).toInt = 508 ∧ ∃ m, m < n ∧ yG h ∧ rk_ex m d rm_X8_actingOf 23 [(0, .ref 316), (1, .int q), (2, .int s), (3, .int (u ||| (0 : Int32))), (4, .int k), (5, .int (j + (1 : Int32))), (6, .int (gi h 318 ((((40 : Int32) * k) + j).toNatClampNeg)))] [] h = some o) ∨
    (¬ ((gi h 317 k.toNatClampNeg).toInt ≤ j.toInt) ∧ ((s >>> (k &&& 31)) &&& (1 : Int32)).toInt = 1 ∧ (gi h 318 ((((40 : Int32) * k) + j).toNatClampNeg)).toInt < 300 ∧ (gi h 318 ((((40 : Int32) * k) + j).toNatClampNeg)).toInt = 508 ∧ ∃ m, m < n ∧ yG h ∧ rk_ex m d rm_X8_actingOf 23 [(0, .ref 316), (1, .int q), (2, .int s), (3, .int (u ||| (2 : Int32))), (4, .int k), (5, .int (j + (1 : Int32))), (6, .int (gi h 318 ((((40 : Int32) * k) + j).toNatClampNeg)))] [] h = some o) ∨
    (¬ ((gi h 317 k.toNatClampNeg).toInt ≤ j.toInt) ∧ ((s >>> (k &&& 31)) &&& (1 : Int32)).toInt = 1 ∧ ¬ ((gi h 318 ((((40 : Int32) * k) + j).toNatClampNeg)).toInt < 300) ∧ 315 < (gi h 318 ((((40 : Int32) * k) + j).toNatClampNeg)).toInt ∧ ¬ (gi h 318 ((((40 : Int32) * k) + j).toNatClampNeg)).toInt = 508 ∧ ∃ m, m < n ∧ yG h ∧ rk_ex m d rm_X8_actingOf 23 [(0, .ref 316), (1, .int q), (2, .int s), (3, .int (u ||| (0 : Int32))), (4, .int k), (5, .int (j + (1 : Int32))), (6, .int (gi h 318 ((((40 : Int32) * k) + j).toNatClampNeg)))] [] h = some o) ∨
    (¬ ((gi h 317 k.toNatClampNeg).toInt ≤ j.toInt) ∧ ((s >>> (k &&& 31)) &&& (1 : Int32)).toInt = 1 ∧ ¬ ((gi h 318 ((((40 : Int32) * k) + j).toNatClampNeg)).toInt < 300) ∧ 315 < (gi h 318 ((((40 : Int32) * k) + j).toNatClampNeg)).toInt ∧ (gi h 318 ((((40 : Int32) * k) + j).toNatClampNeg)).toInt = 508 ∧ ∃ m, m < n ∧ yG h ∧ rk_ex m d rm_X8_actingOf 23 [(0, .ref 316), (1, .int q), (2, .int s), (3, .int (u ||| (2 : Int32))), (4, .int k), (5, .int (j + (1 : Int32))), (6, .int (gi h 318 ((((40 : Int32) * k) + j).toNatClampNeg)))] [] h = some o) ∨
    (¬ ((gi h 317 k.toNatClampNeg).toInt ≤ j.toInt) ∧ ((s >>> (k &&& 31)) &&& (1 : Int32)).toInt = 1 ∧ ¬ ((gi h 318 ((((40 : Int32) * k) + j).toNatClampNeg)).toInt < 300) ∧ ¬ (315 < (gi h 318 ((((40 : Int32) * k) + j).toNatClampNeg)).toInt) ∧ ∃ m, m < n ∧ yG h ∧ rk_ex m d rm_X8_actingOf 23 [(0, .ref 316), (1, .int q), (2, .int s), (3, .int (u ||| (1 : Int32))), (4, .int k), (5, .int (j + (1 : Int32))), (6, .int (gi h 318 ((((40 : Int32) * k) + j).toNatClampNeg)))] [] h = some o) := by
  obtain ⟨m1, hm2, E, hG⟩ := E_go (pc' := 32) (lv' := [(0, .ref 316), (1, .int q), (2, .int s), (3, .int u), (4, .int k), (5, .int j), (6, .int x)]) (st' := [.int (gi h 317 k.toNatClampNeg), .int j]) (h' := h) 5 rfl E hG
  rcases E_if2 (tg := 100) rfl rfl E with ⟨hc, m3, hm4, E⟩ | ⟨hc, m5, hm6, E⟩
  ·
    have c7 : (gi h 317 k.toNatClampNeg).toInt ≤ j.toInt := hc
    clear hc
    obtain ⟨m8, hm9, E, hG⟩ := E_go (pc' := 17) (lv' := [(4, .int (k + (1 : Int32))), (0, .ref 316), (1, .int q), (2, .int s), (3, .int u), (5, .int j), (6, .int x)]) (st' := [.int (gi h 316 0), .int (k + (1 : Int32))]) (h' := h) 5 rfl E hG
    rcases E_if2 (tg := 106) rfl rfl E with ⟨hc, m10, hm11, E⟩ | ⟨hc, m12, hm13, E⟩
    ·
      have c14 : (gi h 316 0).toInt ≤ (k + (1 : Int32)).toInt := hc
      clear hc
      obtain ⟨m15, hm16, E, hG⟩ := E_go (pc' := 107) (lv' := [(4, .int (k + (1 : Int32))), (0, .ref 316), (1, .int q), (2, .int s), (3, .int u), (5, .int j), (6, .int x)]) (st' := [.int u]) (h' := h) 1 rfl E hG
      have ho17 := E_reti rfl E
      exact Or.inl ⟨c7, c14, hG, ho17⟩
    ·
      have c18 : ¬ ((gi h 316 0).toInt ≤ (k + (1 : Int32)).toInt) := hc
      clear hc
      obtain ⟨m19, hm20, E, hG⟩ := E_go (pc' := 23) (lv' := [(5, .int (0 : Int32)), (4, .int (k + (1 : Int32))), (0, .ref 316), (1, .int q), (2, .int s), (3, .int u), (6, .int x)]) (st' := []) (h' := h) 2 rfl E hG
      replace E := E_lv [(0, .ref 316), (1, .int q), (2, .int s), (3, .int u), (4, .int (k + (1 : Int32))), (5, .int (0 : Int32)), (6, .int x)] rfl (lvs_c rfl rfl (lvs_c rfl rfl (lvs_c rfl rfl (lvs_c rfl rfl (lvs_c rfl rfl (lvs_c rfl rfl (lvs_c rfl rfl lvs_n))))))) E
      exact Or.inr (Or.inl ⟨c7, c18, _, (by omega), hG, E⟩)
  ·
    have c22 : ¬ ((gi h 317 k.toNatClampNeg).toInt ≤ j.toInt) := hc
    clear hc
    obtain ⟨m23, hm24, E, hG⟩ := E_go (pc' := 42) (lv' := [(0, .ref 316), (1, .int q), (2, .int s), (3, .int u), (4, .int k), (5, .int j), (6, .int x)]) (st' := [.int (1 : Int32), .int ((s >>> (k &&& 31)) &&& (1 : Int32))]) (h' := h) 6 rfl E hG
    rcases E_if2 (tg := 100) rfl rfl E with ⟨hc, m25, hm26, E⟩ | ⟨hc, m27, hm28, E⟩
    ·
      have c29 : ¬ ((s >>> (k &&& 31)) &&& (1 : Int32)).toInt = 1 := hc
      clear hc
      obtain ⟨m30, hm31, E, hG⟩ := E_go (pc' := 17) (lv' := [(4, .int (k + (1 : Int32))), (0, .ref 316), (1, .int q), (2, .int s), (3, .int u), (5, .int j), (6, .int x)]) (st' := [.int (gi h 316 0), .int (k + (1 : Int32))]) (h' := h) 5 rfl E hG
      rcases E_if2 (tg := 106) rfl rfl E with ⟨hc, m32, hm33, E⟩ | ⟨hc, m34, hm35, E⟩
      ·
        have c36 : (gi h 316 0).toInt ≤ (k + (1 : Int32)).toInt := hc
        clear hc
        obtain ⟨m37, hm38, E, hG⟩ := E_go (pc' := 107) (lv' := [(4, .int (k + (1 : Int32))), (0, .ref 316), (1, .int q), (2, .int s), (3, .int u), (5, .int j), (6, .int x)]) (st' := [.int u]) (h' := h) 1 rfl E hG
        have ho39 := E_reti rfl E
        exact Or.inr (Or.inr (Or.inl ⟨c22, c29, c36, hG, ho39⟩))
      ·
        have c40 : ¬ ((gi h 316 0).toInt ≤ (k + (1 : Int32)).toInt) := hc
        clear hc
        obtain ⟨m41, hm42, E, hG⟩ := E_go (pc' := 23) (lv' := [(5, .int (0 : Int32)), (4, .int (k + (1 : Int32))), (0, .ref 316), (1, .int q), (2, .int s), (3, .int u), (6, .int x)]) (st' := []) (h' := h) 2 rfl E hG
        replace E := E_lv [(0, .ref 316), (1, .int q), (2, .int s), (3, .int u), (4, .int (k + (1 : Int32))), (5, .int (0 : Int32)), (6, .int x)] rfl (lvs_c rfl rfl (lvs_c rfl rfl (lvs_c rfl rfl (lvs_c rfl rfl (lvs_c rfl rfl (lvs_c rfl rfl (lvs_c rfl rfl lvs_n))))))) E
        exact Or.inr (Or.inr (Or.inr (Or.inl ⟨c22, c29, c40, _, (by omega), hG, E⟩)))
    ·
      have c44 : ((s >>> (k &&& 31)) &&& (1 : Int32)).toInt = 1 := Decidable.not_not.mp hc
      clear hc
      obtain ⟨m45, hm46, E, hG⟩ := E_go (pc' := 69) (lv' := [(6, .int (gi h 318 ((((40 : Int32) * k) + j).toNatClampNeg))), (0, .ref 316), (1, .int q), (2, .int s), (3, .int u), (4, .int k), (5, .int j)]) (st' := [.int (315 : Int32), .int (300 : Int32), .int (gi h 318 ((((40 : Int32) * k) + j).toNatClampNeg)), .int u]) (h' := h) 13 rfl E hG
      obtain ⟨m47, d48, o49, hm51, E50, F50⟩ := E_call (ar := ([.int (gi h 318 ((((40 : Int32) * k) + j).toNatClampNeg)), .int (300 : Int32), .int (315 : Int32)], [.int u])) rfl rfl rfl rfl rfl rfl E
      replace E50 : rk_ex m47 d48 rm_X8_in 0 [(0, .int (gi h 318 ((((40 : Int32) * k) + j).toNatClampNeg))), (1, .int (300 : Int32)), (2, .int (315 : Int32))] [] h = some o49 := E50
      obtain ⟨m52, hm53, E50, hG⟩ := E_go (pc' := 2) (lv' := [(0, .int (gi h 318 ((((40 : Int32) * k) + j).toNatClampNeg))), (1, .int (300 : Int32)), (2, .int (315 : Int32))]) (st' := [.int (300 : Int32), .int (gi h 318 ((((40 : Int32) * k) + j).toNatClampNeg))]) (h' := h) 2 rfl E50 hG
      rcases E_if2 (tg := 14) rfl rfl E50 with ⟨hc, m54, hm55, E50⟩ | ⟨hc, m56, hm57, E50⟩
      ·
        have c58 : (gi h 318 ((((40 : Int32) * k) + j).toNatClampNeg)).toInt < 300 := hc
        clear hc
        obtain ⟨m59, hm60, E50, hG⟩ := E_go (pc' := 15) (lv' := [(0, .int (gi h 318 ((((40 : Int32) * k) + j).toNatClampNeg))), (1, .int (300 : Int32)), (2, .int (315 : Int32))]) (st' := [.int (0 : Int32)]) (h' := h) 1 rfl E50 hG
        have ho61 := E_reti rfl E50
        subst ho61
        have E : rk_ex m47 d rm_X8_actingOf 72 [(6, .int (gi h 318 ((((40 : Int32) * k) + j).toNatClampNeg))), (0, .ref 316), (1, .int q), (2, .int s), (3, .int u), (4, .int k), (5, .int j)] [.int (0 : Int32), .int u] h = some o := F50
        rcases E_if1 (tg := 79) rfl rfl E with ⟨hc, m62, hm63, E⟩ | ⟨hc, m64, hm65, E⟩
        ·
          clear hc
          obtain ⟨m66, hm67, E, hG⟩ := E_go (pc' := 84) (lv' := [(6, .int (gi h 318 ((((40 : Int32) * k) + j).toNatClampNeg))), (0, .ref 316), (1, .int q), (2, .int s), (3, .int u), (4, .int k), (5, .int j)]) (st' := [.int (508 : Int32), .int (gi h 318 ((((40 : Int32) * k) + j).toNatClampNeg)), .int u]) (h' := h) 2 rfl E hG
          rcases E_if2 (tg := 91) rfl rfl E with ⟨hc, m68, hm69, E⟩ | ⟨hc, m70, hm71, E⟩
          ·
            have c72 : ¬ (gi h 318 ((((40 : Int32) * k) + j).toNatClampNeg)).toInt = 508 := hc
            clear hc
            obtain ⟨m73, hm74, E, hG⟩ := E_go (pc' := 23) (lv' := [(5, .int (j + (1 : Int32))), (3, .int (u ||| (0 : Int32))), (6, .int (gi h 318 ((((40 : Int32) * k) + j).toNatClampNeg))), (0, .ref 316), (1, .int q), (2, .int s), (4, .int k)]) (st' := []) (h' := h) 5 rfl E hG
            replace E := E_lv [(0, .ref 316), (1, .int q), (2, .int s), (3, .int (u ||| (0 : Int32))), (4, .int k), (5, .int (j + (1 : Int32))), (6, .int (gi h 318 ((((40 : Int32) * k) + j).toNatClampNeg)))] rfl (lvs_c rfl rfl (lvs_c rfl rfl (lvs_c rfl rfl (lvs_c rfl rfl (lvs_c rfl rfl (lvs_c rfl rfl (lvs_c rfl rfl lvs_n))))))) E
            exact Or.inr (Or.inr (Or.inr (Or.inr (Or.inl ⟨c22, c44, c58, c72, _, (by omega), hG, E⟩))))
          ·
            have c76 : (gi h 318 ((((40 : Int32) * k) + j).toNatClampNeg)).toInt = 508 := Decidable.not_not.mp hc
            clear hc
            obtain ⟨m77, hm78, E, hG⟩ := E_go (pc' := 23) (lv' := [(5, .int (j + (1 : Int32))), (3, .int (u ||| (2 : Int32))), (6, .int (gi h 318 ((((40 : Int32) * k) + j).toNatClampNeg))), (0, .ref 316), (1, .int q), (2, .int s), (4, .int k)]) (st' := []) (h' := h) 6 rfl E hG
            replace E := E_lv [(0, .ref 316), (1, .int q), (2, .int s), (3, .int (u ||| (2 : Int32))), (4, .int k), (5, .int (j + (1 : Int32))), (6, .int (gi h 318 ((((40 : Int32) * k) + j).toNatClampNeg)))] rfl (lvs_c rfl rfl (lvs_c rfl rfl (lvs_c rfl rfl (lvs_c rfl rfl (lvs_c rfl rfl (lvs_c rfl rfl (lvs_c rfl rfl lvs_n))))))) E
            exact Or.inr (Or.inr (Or.inr (Or.inr (Or.inr (Or.inl ⟨c22, c44, c58, c76, _, (by omega), hG, E⟩)))))
        · exact absurd (show ¬ ((0 : Int) = 0) from hc) (by decide)
      ·
        have c80 : ¬ ((gi h 318 ((((40 : Int32) * k) + j).toNatClampNeg)).toInt < 300) := hc
        clear hc
        obtain ⟨m81, hm82, E50, hG⟩ := E_go (pc' := 7) (lv' := [(0, .int (gi h 318 ((((40 : Int32) * k) + j).toNatClampNeg))), (1, .int (300 : Int32)), (2, .int (315 : Int32))]) (st' := [.int (315 : Int32), .int (gi h 318 ((((40 : Int32) * k) + j).toNatClampNeg))]) (h' := h) 2 rfl E50 hG
        rcases E_if2 (tg := 14) rfl rfl E50 with ⟨hc, m83, hm84, E50⟩ | ⟨hc, m85, hm86, E50⟩
        ·
          have c87 : 315 < (gi h 318 ((((40 : Int32) * k) + j).toNatClampNeg)).toInt := hc
          clear hc
          obtain ⟨m88, hm89, E50, hG⟩ := E_go (pc' := 15) (lv' := [(0, .int (gi h 318 ((((40 : Int32) * k) + j).toNatClampNeg))), (1, .int (300 : Int32)), (2, .int (315 : Int32))]) (st' := [.int (0 : Int32)]) (h' := h) 1 rfl E50 hG
          have ho90 := E_reti rfl E50
          subst ho90
          have E : rk_ex m47 d rm_X8_actingOf 72 [(6, .int (gi h 318 ((((40 : Int32) * k) + j).toNatClampNeg))), (0, .ref 316), (1, .int q), (2, .int s), (3, .int u), (4, .int k), (5, .int j)] [.int (0 : Int32), .int u] h = some o := F50
          rcases E_if1 (tg := 79) rfl rfl E with ⟨hc, m91, hm92, E⟩ | ⟨hc, m93, hm94, E⟩
          ·
            clear hc
            obtain ⟨m95, hm96, E, hG⟩ := E_go (pc' := 84) (lv' := [(6, .int (gi h 318 ((((40 : Int32) * k) + j).toNatClampNeg))), (0, .ref 316), (1, .int q), (2, .int s), (3, .int u), (4, .int k), (5, .int j)]) (st' := [.int (508 : Int32), .int (gi h 318 ((((40 : Int32) * k) + j).toNatClampNeg)), .int u]) (h' := h) 2 rfl E hG
            rcases E_if2 (tg := 91) rfl rfl E with ⟨hc, m97, hm98, E⟩ | ⟨hc, m99, hm100, E⟩
            ·
              have c101 : ¬ (gi h 318 ((((40 : Int32) * k) + j).toNatClampNeg)).toInt = 508 := hc
              clear hc
              obtain ⟨m102, hm103, E, hG⟩ := E_go (pc' := 23) (lv' := [(5, .int (j + (1 : Int32))), (3, .int (u ||| (0 : Int32))), (6, .int (gi h 318 ((((40 : Int32) * k) + j).toNatClampNeg))), (0, .ref 316), (1, .int q), (2, .int s), (4, .int k)]) (st' := []) (h' := h) 5 rfl E hG
              replace E := E_lv [(0, .ref 316), (1, .int q), (2, .int s), (3, .int (u ||| (0 : Int32))), (4, .int k), (5, .int (j + (1 : Int32))), (6, .int (gi h 318 ((((40 : Int32) * k) + j).toNatClampNeg)))] rfl (lvs_c rfl rfl (lvs_c rfl rfl (lvs_c rfl rfl (lvs_c rfl rfl (lvs_c rfl rfl (lvs_c rfl rfl (lvs_c rfl rfl lvs_n))))))) E
              exact Or.inr (Or.inr (Or.inr (Or.inr (Or.inr (Or.inr (Or.inl ⟨c22, c44, c80, c87, c101, _, (by omega), hG, E⟩))))))
            ·
              have c105 : (gi h 318 ((((40 : Int32) * k) + j).toNatClampNeg)).toInt = 508 := Decidable.not_not.mp hc
              clear hc
              obtain ⟨m106, hm107, E, hG⟩ := E_go (pc' := 23) (lv' := [(5, .int (j + (1 : Int32))), (3, .int (u ||| (2 : Int32))), (6, .int (gi h 318 ((((40 : Int32) * k) + j).toNatClampNeg))), (0, .ref 316), (1, .int q), (2, .int s), (4, .int k)]) (st' := []) (h' := h) 6 rfl E hG
              replace E := E_lv [(0, .ref 316), (1, .int q), (2, .int s), (3, .int (u ||| (2 : Int32))), (4, .int k), (5, .int (j + (1 : Int32))), (6, .int (gi h 318 ((((40 : Int32) * k) + j).toNatClampNeg)))] rfl (lvs_c rfl rfl (lvs_c rfl rfl (lvs_c rfl rfl (lvs_c rfl rfl (lvs_c rfl rfl (lvs_c rfl rfl (lvs_c rfl rfl lvs_n))))))) E
              exact Or.inr (Or.inr (Or.inr (Or.inr (Or.inr (Or.inr (Or.inr (Or.inl ⟨c22, c44, c80, c87, c105, _, (by omega), hG, E⟩)))))))
          · exact absurd (show ¬ ((0 : Int) = 0) from hc) (by decide)
        ·
          have c109 : ¬ (315 < (gi h 318 ((((40 : Int32) * k) + j).toNatClampNeg)).toInt) := hc
          clear hc
          obtain ⟨m110, hm111, E50, hG⟩ := E_go (pc' := 15) (lv' := [(0, .int (gi h 318 ((((40 : Int32) * k) + j).toNatClampNeg))), (1, .int (300 : Int32)), (2, .int (315 : Int32))]) (st' := [.int (1 : Int32)]) (h' := h) 2 rfl E50 hG
          have ho112 := E_reti rfl E50
          subst ho112
          have E : rk_ex m47 d rm_X8_actingOf 72 [(6, .int (gi h 318 ((((40 : Int32) * k) + j).toNatClampNeg))), (0, .ref 316), (1, .int q), (2, .int s), (3, .int u), (4, .int k), (5, .int j)] [.int (1 : Int32), .int u] h = some o := F50
          rcases E_if1 (tg := 79) rfl rfl E with ⟨hc, m113, hm114, E⟩ | ⟨hc, m115, hm116, E⟩
          · exact absurd (show (1 : Int) = 0 from hc) (by decide)
          ·
            clear hc
            obtain ⟨m117, hm118, E, hG⟩ := E_go (pc' := 23) (lv' := [(5, .int (j + (1 : Int32))), (3, .int (u ||| (1 : Int32))), (6, .int (gi h 318 ((((40 : Int32) * k) + j).toNatClampNeg))), (0, .ref 316), (1, .int q), (2, .int s), (4, .int k)]) (st' := []) (h' := h) 6 rfl E hG
            replace E := E_lv [(0, .ref 316), (1, .int q), (2, .int s), (3, .int (u ||| (1 : Int32))), (4, .int k), (5, .int (j + (1 : Int32))), (6, .int (gi h 318 ((((40 : Int32) * k) + j).toNatClampNeg)))] rfl (lvs_c rfl rfl (lvs_c rfl rfl (lvs_c rfl rfl (lvs_c rfl rfl (lvs_c rfl rfl (lvs_c rfl rfl (lvs_c rfl rfl lvs_n))))))) E
            exact Or.inr (Or.inr (Or.inr (Or.inr (Or.inr (Or.inr (Or.inr (Or.inr ⟨c22, c44, c80, c109, _, (by omega), hG, E⟩)))))))
set_option maxRecDepth 100000 in
set_option maxHeartbeats 4000000 in
theorem yt_mac0 {n d : Nat} {h : rk_S} {o : Option Value × rk_S} {q s : Int32} (hG : yG h) (E : rk_ex n d rm_X8_actingOf 5 [(0, .ref 316), (1, .int q)] [.int s] h = some o) :
    ((gi h 316 0).toInt ≤ 0 ∧ yG h ∧ o = (some (.int (0 : Int32)), h)) ∨
    (¬ ((gi h 316 0).toInt ≤ 0) ∧ ∃ m, m < n ∧ yG h ∧ rk_ex m d rm_X8_actingOf 23 [(0, .ref 316), (1, .int q), (2, .int s), (3, .int (0 : Int32)), (4, .int (0 : Int32)), (5, .int (0 : Int32)), (6, .int (0 : Int32))] [] h = some o) := by
  obtain ⟨m1, hm2, E, hG⟩ := E_go (pc' := 17) (lv' := [(4, .int (0 : Int32)), (3, .int (0 : Int32)), (2, .int s), (0, .ref 316), (1, .int q)]) (st' := [.int (gi h 316 0), .int (0 : Int32)]) (h' := h) 8 rfl E hG
  rcases E_if2 (tg := 106) rfl rfl E with ⟨hc, m3, hm4, E⟩ | ⟨hc, m5, hm6, E⟩
  ·
    have c7 : (gi h 316 0).toInt ≤ 0 := hc
    clear hc
    obtain ⟨m8, hm9, E, hG⟩ := E_go (pc' := 107) (lv' := [(4, .int (0 : Int32)), (3, .int (0 : Int32)), (2, .int s), (0, .ref 316), (1, .int q)]) (st' := [.int (0 : Int32)]) (h' := h) 1 rfl E hG
    have ho10 := E_reti rfl E
    exact Or.inl ⟨c7, hG, ho10⟩
  ·
    have c11 : ¬ ((gi h 316 0).toInt ≤ 0) := hc
    clear hc
    obtain ⟨m12, hm13, E, hG⟩ := E_go (pc' := 23) (lv' := [(5, .int (0 : Int32)), (4, .int (0 : Int32)), (3, .int (0 : Int32)), (2, .int s), (0, .ref 316), (1, .int q)]) (st' := []) (h' := h) 2 rfl E hG
    replace E := E_lv [(0, .ref 316), (1, .int q), (2, .int s), (3, .int (0 : Int32)), (4, .int (0 : Int32)), (5, .int (0 : Int32)), (6, .int (0 : Int32))] rfl (lvs_c rfl rfl (lvs_c rfl rfl (lvs_c rfl rfl (lvs_c rfl rfl (lvs_c rfl rfl (lvs_c rfl rfl lvs_n)))))) E
    exact Or.inr ⟨c11, _, (by omega), hG, E⟩
set_option maxRecDepth 100000 in
set_option maxHeartbeats 4000000 in
theorem yt_mac1 {n d : Nat} {h : rk_S} {o : Option Value × rk_S} {q : Int32} (hG : yG h) (E : rk_ex n d rm_X8_actingOf 0 [(0, .ref 316), (1, .int q)] [] h = some o) :
    (∃ m, m < n + 1 ∧ yG h ∧ rk_ex m d rm_X8_actingOf 2 [(0, .ref 316), (1, .int q)] [.int q, .ref 316] h = some o) := by
  obtain ⟨m1, hm2, E, hG⟩ := E_go (pc' := 2) (lv' := [(0, .ref 316), (1, .int q)]) (st' := [.int q, .ref 316]) (h' := h) 2 rfl E hG
  exact ⟨_, (by omega), hG, E⟩
set_option maxRecDepth 100000 in
set_option maxHeartbeats 4000000 in
theorem yt_mre {n d : Nat} {h : rk_S} {o : Option Value × rk_S} {q s u k j x : Int32} (hG : yG h) (E : rk_ex n d rm_X8_reads 33 [(0, .ref 316), (1, .int q), (2, .int s), (3, .int u), (4, .int k), (5, .int j), (6, .int x)] [] h = some o) :
    ((gi h 317 k.toNatClampNeg).toInt ≤ j.toInt ∧ (gi h 316 0).toInt ≤ (k + (1 : Int32)).toInt ∧ yG h ∧ o = (some (.int u), h)) ∨
    ((gi h 317 k.toNatClampNeg).toInt ≤ j.toInt ∧ ¬ ((gi h 316 0).toInt ≤ (k + (1 : Int32)).toInt) ∧ ∃ m, m < n ∧ yG h ∧ rk_ex m d rm_X8_reads 33 [(0, .ref 316), (1, .int q), (2, .int s), (3, .int u), (4, .int (k + (1 : Int32))), (5, .int (0 : Int32)), (6, .int x)] [] h = some o) ∨
    (¬ ((gi h 317 k.toNatClampNeg).toInt ≤ j.toInt) ∧ ¬ ((s >>> (k &&& 31)) &&& (1 : Int32)).toInt = 1 ∧ (gi h 316 0).toInt ≤ (k + (1 : Int32)).toInt ∧ yG h ∧ o = (some (.int u), h)) ∨
    (¬ ((gi h 317 k.toNatClampNeg).toInt ≤ j.toInt) ∧ ¬ ((s >>> (k &&& 31)) &&& (1 : Int32)).toInt = 1 ∧ ¬ ((gi h 316 0).toInt ≤ (k + (1 : Int32)).toInt) ∧ ∃ m, m < n ∧ yG h ∧ rk_ex m d rm_X8_reads 33 [(0, .ref 316), (1, .int q), (2, .int s), (3, .int u), (4, .int (k + (1 : Int32))), (5, .int (0 : Int32)), (6, .int x)] [] h = some o) ∨
    (¬ ((gi h 317 k.toNatClampNeg).toInt ≤ j.toInt) ∧ ((s >>> (k &&& 31)) &&& (1 : Int32)).toInt = 1 ∧ (gi h 318 ((((40 : Int32) * k) + j).toNatClampNeg)).toInt < 200 ∧ ∃ m, m < n ∧ yG h ∧ rk_ex m d rm_X8_reads 33 [(0, .ref 316), (1, .int q), (2, .int s), (3, .int (u ||| (0 : Int32))), (4, .int k), (5, .int (j + (1 : Int32))), (6, .int (gi h 318 ((((40 : Int32) * k) + j).toNatClampNeg)))] [] h = some o) ∨
    (¬ ((gi h 317 k.toNatClampNeg).toInt ≤ j.toInt) ∧ ((s >>> (k &&& 31)) &&& (1 : Int32)).toInt = 1 ∧ ¬ ((gi h 318 ((((40 : Int32) * k) + j).toNatClampNeg)).toInt < 200) ∧ 215 < (gi h 318 ((((40 : Int32) * k) + j).toNatClampNeg)).toInt ∧ ∃ m, m < n ∧ yG h ∧ rk_ex m d rm_X8_reads 33 [(0, .ref 316), (1, .int q), (2, .int s), (3, .int (u ||| (0 : Int32))), (4, .int k), (5, .int (j + (1 : Int32))), (6, .int (gi h 318 ((((40 : Int32) * k) + j).toNatClampNeg)))] [] h = some o) ∨
    (¬ ((gi h 317 k.toNatClampNeg).toInt ≤ j.toInt) ∧ ((s >>> (k &&& 31)) &&& (1 : Int32)).toInt = 1 ∧ ¬ ((gi h 318 ((((40 : Int32) * k) + j).toNatClampNeg)).toInt < 200) ∧ ¬ (215 < (gi h 318 ((((40 : Int32) * k) + j).toNatClampNeg)).toInt) ∧ ∃ m, m < n ∧ yG h ∧ rk_ex m d rm_X8_reads 33 [(0, .ref 316), (1, .int q), (2, .int s), (3, .int (u ||| ((1 : Int32) <<< (((gi h 318 ((((40 : Int32) * k) + j).toNatClampNeg)) - (200 : Int32)) &&& 31)))), (4, .int k), (5, .int (j + (1 : Int32))), (6, .int (gi h 318 ((((40 : Int32) * k) + j).toNatClampNeg)))] [] h = some o) := by
  obtain ⟨m1, hm2, E, hG⟩ := E_go (pc' := 42) (lv' := [(0, .ref 316), (1, .int q), (2, .int s), (3, .int u), (4, .int k), (5, .int j), (6, .int x)]) (st' := [.int (gi h 317 k.toNatClampNeg), .int j]) (h' := h) 5 rfl E hG
  rcases E_if2 (tg := 105) rfl rfl E with ⟨hc, m3, hm4, E⟩ | ⟨hc, m5, hm6, E⟩
  ·
    have c7 : (gi h 317 k.toNatClampNeg).toInt ≤ j.toInt := hc
    clear hc
    obtain ⟨m8, hm9, E, hG⟩ := E_go (pc' := 27) (lv' := [(4, .int (k + (1 : Int32))), (0, .ref 316), (1, .int q), (2, .int s), (3, .int u), (5, .int j), (6, .int x)]) (st' := [.int (gi h 316 0), .int (k + (1 : Int32))]) (h' := h) 5 rfl E hG
    rcases E_if2 (tg := 111) rfl rfl E with ⟨hc, m10, hm11, E⟩ | ⟨hc, m12, hm13, E⟩
    ·
      have c14 : (gi h 316 0).toInt ≤ (k + (1 : Int32)).toInt := hc
      clear hc
      obtain ⟨m15, hm16, E, hG⟩ := E_go (pc' := 112) (lv' := [(4, .int (k + (1 : Int32))), (0, .ref 316), (1, .int q), (2, .int s), (3, .int u), (5, .int j), (6, .int x)]) (st' := [.int u]) (h' := h) 1 rfl E hG
      have ho17 := E_reti rfl E
      exact Or.inl ⟨c7, c14, hG, ho17⟩
    ·
      have c18 : ¬ ((gi h 316 0).toInt ≤ (k + (1 : Int32)).toInt) := hc
      clear hc
      obtain ⟨m19, hm20, E, hG⟩ := E_go (pc' := 33) (lv' := [(5, .int (0 : Int32)), (4, .int (k + (1 : Int32))), (0, .ref 316), (1, .int q), (2, .int s), (3, .int u), (6, .int x)]) (st' := []) (h' := h) 2 rfl E hG
      replace E := E_lv [(0, .ref 316), (1, .int q), (2, .int s), (3, .int u), (4, .int (k + (1 : Int32))), (5, .int (0 : Int32)), (6, .int x)] rfl (lvs_c rfl rfl (lvs_c rfl rfl (lvs_c rfl rfl (lvs_c rfl rfl (lvs_c rfl rfl (lvs_c rfl rfl (lvs_c rfl rfl lvs_n))))))) E
      exact Or.inr (Or.inl ⟨c7, c18, _, (by omega), hG, E⟩)
  ·
    have c22 : ¬ ((gi h 317 k.toNatClampNeg).toInt ≤ j.toInt) := hc
    clear hc
    obtain ⟨m23, hm24, E, hG⟩ := E_go (pc' := 52) (lv' := [(0, .ref 316), (1, .int q), (2, .int s), (3, .int u), (4, .int k), (5, .int j), (6, .int x)]) (st' := [.int (1 : Int32), .int ((s >>> (k &&& 31)) &&& (1 : Int32))]) (h' := h) 6 rfl E hG
    rcases E_if2 (tg := 105) rfl rfl E with ⟨hc, m25, hm26, E⟩ | ⟨hc, m27, hm28, E⟩
    ·
      have c29 : ¬ ((s >>> (k &&& 31)) &&& (1 : Int32)).toInt = 1 := hc
      clear hc
      obtain ⟨m30, hm31, E, hG⟩ := E_go (pc' := 27) (lv' := [(4, .int (k + (1 : Int32))), (0, .ref 316), (1, .int q), (2, .int s), (3, .int u), (5, .int j), (6, .int x)]) (st' := [.int (gi h 316 0), .int (k + (1 : Int32))]) (h' := h) 5 rfl E hG
      rcases E_if2 (tg := 111) rfl rfl E with ⟨hc, m32, hm33, E⟩ | ⟨hc, m34, hm35, E⟩
      ·
        have c36 : (gi h 316 0).toInt ≤ (k + (1 : Int32)).toInt := hc
        clear hc
        obtain ⟨m37, hm38, E, hG⟩ := E_go (pc' := 112) (lv' := [(4, .int (k + (1 : Int32))), (0, .ref 316), (1, .int q), (2, .int s), (3, .int u), (5, .int j), (6, .int x)]) (st' := [.int u]) (h' := h) 1 rfl E hG
        have ho39 := E_reti rfl E
        exact Or.inr (Or.inr (Or.inl ⟨c22, c29, c36, hG, ho39⟩))
      ·
        have c40 : ¬ ((gi h 316 0).toInt ≤ (k + (1 : Int32)).toInt) := hc
        clear hc
        obtain ⟨m41, hm42, E, hG⟩ := E_go (pc' := 33) (lv' := [(5, .int (0 : Int32)), (4, .int (k + (1 : Int32))), (0, .ref 316), (1, .int q), (2, .int s), (3, .int u), (6, .int x)]) (st' := []) (h' := h) 2 rfl E hG
        replace E := E_lv [(0, .ref 316), (1, .int q), (2, .int s), (3, .int u), (4, .int (k + (1 : Int32))), (5, .int (0 : Int32)), (6, .int x)] rfl (lvs_c rfl rfl (lvs_c rfl rfl (lvs_c rfl rfl (lvs_c rfl rfl (lvs_c rfl rfl (lvs_c rfl rfl (lvs_c rfl rfl lvs_n))))))) E
        exact Or.inr (Or.inr (Or.inr (Or.inl ⟨c22, c29, c40, _, (by omega), hG, E⟩)))
    ·
      have c44 : ((s >>> (k &&& 31)) &&& (1 : Int32)).toInt = 1 := Decidable.not_not.mp hc
      clear hc
      obtain ⟨m45, hm46, E, hG⟩ := E_go (pc' := 79) (lv' := [(6, .int (gi h 318 ((((40 : Int32) * k) + j).toNatClampNeg))), (0, .ref 316), (1, .int q), (2, .int s), (3, .int u), (4, .int k), (5, .int j)]) (st' := [.int (215 : Int32), .int (200 : Int32), .int (gi h 318 ((((40 : Int32) * k) + j).toNatClampNeg)), .int u]) (h' := h) 13 rfl E hG
      obtain ⟨m47, d48, o49, hm51, E50, F50⟩ := E_call (ar := ([.int (gi h 318 ((((40 : Int32) * k) + j).toNatClampNeg)), .int (200 : Int32), .int (215 : Int32)], [.int u])) rfl rfl rfl rfl rfl rfl E
      replace E50 : rk_ex m47 d48 rm_X8_in 0 [(0, .int (gi h 318 ((((40 : Int32) * k) + j).toNatClampNeg))), (1, .int (200 : Int32)), (2, .int (215 : Int32))] [] h = some o49 := E50
      obtain ⟨m52, hm53, E50, hG⟩ := E_go (pc' := 2) (lv' := [(0, .int (gi h 318 ((((40 : Int32) * k) + j).toNatClampNeg))), (1, .int (200 : Int32)), (2, .int (215 : Int32))]) (st' := [.int (200 : Int32), .int (gi h 318 ((((40 : Int32) * k) + j).toNatClampNeg))]) (h' := h) 2 rfl E50 hG
      rcases E_if2 (tg := 14) rfl rfl E50 with ⟨hc, m54, hm55, E50⟩ | ⟨hc, m56, hm57, E50⟩
      ·
        have c58 : (gi h 318 ((((40 : Int32) * k) + j).toNatClampNeg)).toInt < 200 := hc
        clear hc
        obtain ⟨m59, hm60, E50, hG⟩ := E_go (pc' := 15) (lv' := [(0, .int (gi h 318 ((((40 : Int32) * k) + j).toNatClampNeg))), (1, .int (200 : Int32)), (2, .int (215 : Int32))]) (st' := [.int (0 : Int32)]) (h' := h) 1 rfl E50 hG
        have ho61 := E_reti rfl E50
        subst ho61
        have E : rk_ex m47 d rm_X8_reads 82 [(6, .int (gi h 318 ((((40 : Int32) * k) + j).toNatClampNeg))), (0, .ref 316), (1, .int q), (2, .int s), (3, .int u), (4, .int k), (5, .int j)] [.int (0 : Int32), .int u] h = some o := F50
        rcases E_if1 (tg := 96) rfl rfl E with ⟨hc, m62, hm63, E⟩ | ⟨hc, m64, hm65, E⟩
        ·
          clear hc
          obtain ⟨m66, hm67, E, hG⟩ := E_go (pc' := 33) (lv' := [(5, .int (j + (1 : Int32))), (3, .int (u ||| (0 : Int32))), (6, .int (gi h 318 ((((40 : Int32) * k) + j).toNatClampNeg))), (0, .ref 316), (1, .int q), (2, .int s), (4, .int k)]) (st' := []) (h' := h) 5 rfl E hG
          replace E := E_lv [(0, .ref 316), (1, .int q), (2, .int s), (3, .int (u ||| (0 : Int32))), (4, .int k), (5, .int (j + (1 : Int32))), (6, .int (gi h 318 ((((40 : Int32) * k) + j).toNatClampNeg)))] rfl (lvs_c rfl rfl (lvs_c rfl rfl (lvs_c rfl rfl (lvs_c rfl rfl (lvs_c rfl rfl (lvs_c rfl rfl (lvs_c rfl rfl lvs_n))))))) E
          exact Or.inr (Or.inr (Or.inr (Or.inr (Or.inl ⟨c22, c44, c58, _, (by omega), hG, E⟩))))
        · exact absurd (show ¬ ((0 : Int) = 0) from hc) (by decide)
      ·
        have c69 : ¬ ((gi h 318 ((((40 : Int32) * k) + j).toNatClampNeg)).toInt < 200) := hc
        clear hc
        obtain ⟨m70, hm71, E50, hG⟩ := E_go (pc' := 7) (lv' := [(0, .int (gi h 318 ((((40 : Int32) * k) + j).toNatClampNeg))), (1, .int (200 : Int32)), (2, .int (215 : Int32))]) (st' := [.int (215 : Int32), .int (gi h 318 ((((40 : Int32) * k) + j).toNatClampNeg))]) (h' := h) 2 rfl E50 hG
        rcases E_if2 (tg := 14) rfl rfl E50 with ⟨hc, m72, hm73, E50⟩ | ⟨hc, m74, hm75, E50⟩
        ·
          have c76 : 215 < (gi h 318 ((((40 : Int32) * k) + j).toNatClampNeg)).toInt := hc
          clear hc
          obtain ⟨m77, hm78, E50, hG⟩ := E_go (pc' := 15) (lv' := [(0, .int (gi h 318 ((((40 : Int32) * k) + j).toNatClampNeg))), (1, .int (200 : Int32)), (2, .int (215 : Int32))]) (st' := [.int (0 : Int32)]) (h' := h) 1 rfl E50 hG
          have ho79 := E_reti rfl E50
          subst ho79
          have E : rk_ex m47 d rm_X8_reads 82 [(6, .int (gi h 318 ((((40 : Int32) * k) + j).toNatClampNeg))), (0, .ref 316), (1, .int q), (2, .int s), (3, .int u), (4, .int k), (5, .int j)] [.int (0 : Int32), .int u] h = some o := F50
          rcases E_if1 (tg := 96) rfl rfl E with ⟨hc, m80, hm81, E⟩ | ⟨hc, m82, hm83, E⟩
          ·
            clear hc
            obtain ⟨m84, hm85, E, hG⟩ := E_go (pc' := 33) (lv' := [(5, .int (j + (1 : Int32))), (3, .int (u ||| (0 : Int32))), (6, .int (gi h 318 ((((40 : Int32) * k) + j).toNatClampNeg))), (0, .ref 316), (1, .int q), (2, .int s), (4, .int k)]) (st' := []) (h' := h) 5 rfl E hG
            replace E := E_lv [(0, .ref 316), (1, .int q), (2, .int s), (3, .int (u ||| (0 : Int32))), (4, .int k), (5, .int (j + (1 : Int32))), (6, .int (gi h 318 ((((40 : Int32) * k) + j).toNatClampNeg)))] rfl (lvs_c rfl rfl (lvs_c rfl rfl (lvs_c rfl rfl (lvs_c rfl rfl (lvs_c rfl rfl (lvs_c rfl rfl (lvs_c rfl rfl lvs_n))))))) E
            exact Or.inr (Or.inr (Or.inr (Or.inr (Or.inr (Or.inl ⟨c22, c44, c69, c76, _, (by omega), hG, E⟩)))))
          · exact absurd (show ¬ ((0 : Int) = 0) from hc) (by decide)
        ·
          have c87 : ¬ (215 < (gi h 318 ((((40 : Int32) * k) + j).toNatClampNeg)).toInt) := hc
          clear hc
          obtain ⟨m88, hm89, E50, hG⟩ := E_go (pc' := 15) (lv' := [(0, .int (gi h 318 ((((40 : Int32) * k) + j).toNatClampNeg))), (1, .int (200 : Int32)), (2, .int (215 : Int32))]) (st' := [.int (1 : Int32)]) (h' := h) 2 rfl E50 hG
          have ho90 := E_reti rfl E50
          subst ho90
          have E : rk_ex m47 d rm_X8_reads 82 [(6, .int (gi h 318 ((((40 : Int32) * k) + j).toNatClampNeg))), (0, .ref 316), (1, .int q), (2, .int s), (3, .int u), (4, .int k), (5, .int j)] [.int (1 : Int32), .int u] h = some o := F50
          rcases E_if1 (tg := 96) rfl rfl E with ⟨hc, m91, hm92, E⟩ | ⟨hc, m93, hm94, E⟩
          · exact absurd (show (1 : Int) = 0 from hc) (by decide)
          ·
            clear hc
            obtain ⟨m95, hm96, E, hG⟩ := E_go (pc' := 33) (lv' := [(5, .int (j + (1 : Int32))), (3, .int (u ||| ((1 : Int32) <<< (((gi h 318 ((((40 : Int32) * k) + j).toNatClampNeg)) - (200 : Int32)) &&& 31)))), (6, .int (gi h 318 ((((40 : Int32) * k) + j).toNatClampNeg))), (0, .ref 316), (1, .int q), (2, .int s), (4, .int k)]) (st' := []) (h' := h) 10 rfl E hG
            replace E := E_lv [(0, .ref 316), (1, .int q), (2, .int s), (3, .int (u ||| ((1 : Int32) <<< (((gi h 318 ((((40 : Int32) * k) + j).toNatClampNeg)) - (200 : Int32)) &&& 31)))), (4, .int k), (5, .int (j + (1 : Int32))), (6, .int (gi h 318 ((((40 : Int32) * k) + j).toNatClampNeg)))] rfl (lvs_c rfl rfl (lvs_c rfl rfl (lvs_c rfl rfl (lvs_c rfl rfl (lvs_c rfl rfl (lvs_c rfl rfl (lvs_c rfl rfl lvs_n))))))) E
            exact Or.inr (Or.inr (Or.inr (Or.inr (Or.inr (Or.inr ⟨c22, c44, c69, c87, _, (by omega), hG, E⟩)))))
set_option maxRecDepth 100000 in
set_option maxHeartbeats 4000000 in
theorem yt_mre0 {n d : Nat} {h : rk_S} {o : Option Value × rk_S} {q s : Int32} (hG : yG h) (E : rk_ex n d rm_X8_reads 15 [(0, .ref 316), (1, .int q)] [.int s] h = some o) :
    ((gi h 316 0).toInt ≤ 0 ∧ yG h ∧ o = (some (.int (0 : Int32)), h)) ∨
    (¬ ((gi h 316 0).toInt ≤ 0) ∧ ∃ m, m < n ∧ yG h ∧ rk_ex m d rm_X8_reads 33 [(0, .ref 316), (1, .int q), (2, .int s), (3, .int (0 : Int32)), (4, .int (0 : Int32)), (5, .int (0 : Int32)), (6, .int (0 : Int32))] [] h = some o) := by
  obtain ⟨m1, hm2, E, hG⟩ := E_go (pc' := 27) (lv' := [(4, .int (0 : Int32)), (3, .int (0 : Int32)), (2, .int s), (0, .ref 316), (1, .int q)]) (st' := [.int (gi h 316 0), .int (0 : Int32)]) (h' := h) 8 rfl E hG
  rcases E_if2 (tg := 111) rfl rfl E with ⟨hc, m3, hm4, E⟩ | ⟨hc, m5, hm6, E⟩
  ·
    have c7 : (gi h 316 0).toInt ≤ 0 := hc
    clear hc
    obtain ⟨m8, hm9, E, hG⟩ := E_go (pc' := 112) (lv' := [(4, .int (0 : Int32)), (3, .int (0 : Int32)), (2, .int s), (0, .ref 316), (1, .int q)]) (st' := [.int (0 : Int32)]) (h' := h) 1 rfl E hG
    have ho10 := E_reti rfl E
    exact Or.inl ⟨c7, hG, ho10⟩
  ·
    have c11 : ¬ ((gi h 316 0).toInt ≤ 0) := hc
    clear hc
    obtain ⟨m12, hm13, E, hG⟩ := E_go (pc' := 33) (lv' := [(5, .int (0 : Int32)), (4, .int (0 : Int32)), (3, .int (0 : Int32)), (2, .int s), (0, .ref 316), (1, .int q)]) (st' := []) (h' := h) 2 rfl E hG
    replace E := E_lv [(0, .ref 316), (1, .int q), (2, .int s), (3, .int (0 : Int32)), (4, .int (0 : Int32)), (5, .int (0 : Int32)), (6, .int (0 : Int32))] rfl (lvs_c rfl rfl (lvs_c rfl rfl (lvs_c rfl rfl (lvs_c rfl rfl (lvs_c rfl rfl (lvs_c rfl rfl lvs_n)))))) E
    exact Or.inr ⟨c11, _, (by omega), hG, E⟩
set_option maxRecDepth 100000 in
set_option maxHeartbeats 4000000 in
theorem yt_mre1 {n d : Nat} {h : rk_S} {o : Option Value × rk_S} {q : Int32} (hG : yG h) (E : rk_ex n d rm_X8_reads 0 [(0, .ref 316), (1, .int q)] [] h = some o) :
    (q.toInt < 0 ∧ yG h ∧ o = (some (.int ((-1) : Int32)), h)) ∨
    (¬ (q.toInt < 0) ∧ ((gi h 316 0) - (1 : Int32)).toInt < q.toInt ∧ yG h ∧ o = (some (.int ((-1) : Int32)), h)) ∨
    (¬ (q.toInt < 0) ∧ ¬ (((gi h 316 0) - (1 : Int32)).toInt < q.toInt) ∧ ∃ m, m < n + 1 ∧ yG h ∧ rk_ex m d rm_X8_reads 12 [(0, .ref 316), (1, .int q)] [.int q, .ref 316] h = some o) := by
  obtain ⟨m1, hm2, E, hG⟩ := E_go (pc' := 2) (lv' := [(0, .ref 316), (1, .int q)]) (st' := [.int q, .ref 316]) (h' := h) 2 rfl E hG
  obtain ⟨m3, d4, o5, hm7, E6, F6⟩ := E_call (ar := ([.ref 316, .int q], [])) rfl rfl rfl rfl rfl rfl E
  replace E6 : rk_ex m3 d4 rm_X8_isRoutine 0 [(0, .ref 316), (1, .int q)] [] h = some o5 := E6
  obtain ⟨m8, hm9, E6, hG⟩ := E_go (pc' := 8) (lv' := [(0, .ref 316), (1, .int q)]) (st' := [.int ((gi h 316 0) - (1 : Int32)), .int (0 : Int32), .int q]) (h' := h) 6 rfl E6 hG
  obtain ⟨m10, d11, o12, hm14, E13, F13⟩ := E_call (ar := ([.int q, .int (0 : Int32), .int ((gi h 316 0) - (1 : Int32))], [])) rfl rfl rfl rfl rfl rfl E6
  replace E13 : rk_ex m10 d11 rm_X8_in 0 [(0, .int q), (1, .int (0 : Int32)), (2, .int ((gi h 316 0) - (1 : Int32)))] [] h = some o12 := E13
  obtain ⟨m15, hm16, E13, hG⟩ := E_go (pc' := 2) (lv' := [(0, .int q), (1, .int (0 : Int32)), (2, .int ((gi h 316 0) - (1 : Int32)))]) (st' := [.int (0 : Int32), .int q]) (h' := h) 2 rfl E13 hG
  rcases E_if2 (tg := 14) rfl rfl E13 with ⟨hc, m17, hm18, E13⟩ | ⟨hc, m19, hm20, E13⟩
  ·
    have c21 : q.toInt < 0 := hc
    clear hc
    obtain ⟨m22, hm23, E13, hG⟩ := E_go (pc' := 15) (lv' := [(0, .int q), (1, .int (0 : Int32)), (2, .int ((gi h 316 0) - (1 : Int32)))]) (st' := [.int (0 : Int32)]) (h' := h) 1 rfl E13 hG
    have ho24 := E_reti rfl E13
    subst ho24
    have E6 : rk_ex m10 d4 rm_X8_isRoutine 11 [(0, .ref 316), (1, .int q)] [.int (0 : Int32)] h = some o5 := F13
    have ho25 := E_reti rfl E6
    subst ho25
    have E : rk_ex m3 d rm_X8_reads 5 [(0, .ref 316), (1, .int q)] [.int (0 : Int32)] h = some o := F6
    rcases E_if1 (tg := 10) rfl rfl E with ⟨hc, m26, hm27, E⟩ | ⟨hc, m28, hm29, E⟩
    · exact absurd (show ¬ (0 : Int) = 0 from hc) (by decide)
    ·
      clear hc
      obtain ⟨m30, hm31, E, hG⟩ := E_go (pc' := 9) (lv' := [(0, .ref 316), (1, .int q)]) (st' := [.int ((-1) : Int32)]) (h' := h) 1 rfl E hG
      have ho32 := E_reti rfl E
      exact Or.inl ⟨c21, hG, ho32⟩
  ·
    have c33 : ¬ (q.toInt < 0) := hc
    clear hc
    obtain ⟨m34, hm35, E13, hG⟩ := E_go (pc' := 7) (lv' := [(0, .int q), (1, .int (0 : Int32)), (2, .int ((gi h 316 0) - (1 : Int32)))]) (st' := [.int ((gi h 316 0) - (1 : Int32)), .int q]) (h' := h) 2 rfl E13 hG
    rcases E_if2 (tg := 14) rfl rfl E13 with ⟨hc, m36, hm37, E13⟩ | ⟨hc, m38, hm39, E13⟩
    ·
      have c40 : ((gi h 316 0) - (1 : Int32)).toInt < q.toInt := hc
      clear hc
      obtain ⟨m41, hm42, E13, hG⟩ := E_go (pc' := 15) (lv' := [(0, .int q), (1, .int (0 : Int32)), (2, .int ((gi h 316 0) - (1 : Int32)))]) (st' := [.int (0 : Int32)]) (h' := h) 1 rfl E13 hG
      have ho43 := E_reti rfl E13
      subst ho43
      have E6 : rk_ex m10 d4 rm_X8_isRoutine 11 [(0, .ref 316), (1, .int q)] [.int (0 : Int32)] h = some o5 := F13
      have ho44 := E_reti rfl E6
      subst ho44
      have E : rk_ex m3 d rm_X8_reads 5 [(0, .ref 316), (1, .int q)] [.int (0 : Int32)] h = some o := F6
      rcases E_if1 (tg := 10) rfl rfl E with ⟨hc, m45, hm46, E⟩ | ⟨hc, m47, hm48, E⟩
      · exact absurd (show ¬ (0 : Int) = 0 from hc) (by decide)
      ·
        clear hc
        obtain ⟨m49, hm50, E, hG⟩ := E_go (pc' := 9) (lv' := [(0, .ref 316), (1, .int q)]) (st' := [.int ((-1) : Int32)]) (h' := h) 1 rfl E hG
        have ho51 := E_reti rfl E
        exact Or.inr (Or.inl ⟨c33, c40, hG, ho51⟩)
    ·
      have c52 : ¬ (((gi h 316 0) - (1 : Int32)).toInt < q.toInt) := hc
      clear hc
      obtain ⟨m53, hm54, E13, hG⟩ := E_go (pc' := 15) (lv' := [(0, .int q), (1, .int (0 : Int32)), (2, .int ((gi h 316 0) - (1 : Int32)))]) (st' := [.int (1 : Int32)]) (h' := h) 2 rfl E13 hG
      have ho55 := E_reti rfl E13
      subst ho55
      have E6 : rk_ex m10 d4 rm_X8_isRoutine 11 [(0, .ref 316), (1, .int q)] [.int (1 : Int32)] h = some o5 := F13
      have ho56 := E_reti rfl E6
      subst ho56
      have E : rk_ex m3 d rm_X8_reads 5 [(0, .ref 316), (1, .int q)] [.int (1 : Int32)] h = some o := F6
      rcases E_if1 (tg := 10) rfl rfl E with ⟨hc, m57, hm58, E⟩ | ⟨hc, m59, hm60, E⟩
      ·
        clear hc
        obtain ⟨m61, hm62, E, hG⟩ := E_go (pc' := 12) (lv' := [(0, .ref 316), (1, .int q)]) (st' := [.int q, .ref 316]) (h' := h) 2 rfl E hG
        exact Or.inr (Or.inr ⟨c33, c52, _, (by omega), hG, E⟩)
      · exact absurd (show ¬ (¬ (1 : Int) = 0) from hc) (by decide)
set_option maxRecDepth 100000 in
set_option maxHeartbeats 4000000 in
theorem yt_mat {n d : Nat} {h : rk_S} {o : Option Value × rk_S} {q : Int32} (hG : yG h) (E : rk_ex n d rm_X8_acting 0 [(0, .ref 316), (1, .int q)] [] h = some o) :
    (q.toInt < 0 ∧ yG h ∧ o = (some (.int ((-1) : Int32)), h)) ∨
    (¬ (q.toInt < 0) ∧ ((gi h 316 0) - (1 : Int32)).toInt < q.toInt ∧ yG h ∧ o = (some (.int ((-1) : Int32)), h)) ∨
    (¬ (q.toInt < 0) ∧ ¬ (((gi h 316 0) - (1 : Int32)).toInt < q.toInt) ∧ ∃ m, m < n + 1 ∧ yG h ∧ rk_ex m d rm_X8_acting 10 [(0, .ref 316), (1, .int q)] [.int q, .ref 316] h = some o) := by
  obtain ⟨m1, hm2, E, hG⟩ := E_go (pc' := 2) (lv' := [(0, .ref 316), (1, .int q)]) (st' := [.int q, .ref 316]) (h' := h) 2 rfl E hG
  obtain ⟨m3, d4, o5, hm7, E6, F6⟩ := E_call (ar := ([.ref 316, .int q], [])) rfl rfl rfl rfl rfl rfl E
  replace E6 : rk_ex m3 d4 rm_X8_isRoutine 0 [(0, .ref 316), (1, .int q)] [] h = some o5 := E6
  obtain ⟨m8, hm9, E6, hG⟩ := E_go (pc' := 8) (lv' := [(0, .ref 316), (1, .int q)]) (st' := [.int ((gi h 316 0) - (1 : Int32)), .int (0 : Int32), .int q]) (h' := h) 6 rfl E6 hG
  obtain ⟨m10, d11, o12, hm14, E13, F13⟩ := E_call (ar := ([.int q, .int (0 : Int32), .int ((gi h 316 0) - (1 : Int32))], [])) rfl rfl rfl rfl rfl rfl E6
  replace E13 : rk_ex m10 d11 rm_X8_in 0 [(0, .int q), (1, .int (0 : Int32)), (2, .int ((gi h 316 0) - (1 : Int32)))] [] h = some o12 := E13
  obtain ⟨m15, hm16, E13, hG⟩ := E_go (pc' := 2) (lv' := [(0, .int q), (1, .int (0 : Int32)), (2, .int ((gi h 316 0) - (1 : Int32)))]) (st' := [.int (0 : Int32), .int q]) (h' := h) 2 rfl E13 hG
  rcases E_if2 (tg := 14) rfl rfl E13 with ⟨hc, m17, hm18, E13⟩ | ⟨hc, m19, hm20, E13⟩
  ·
    have c21 : q.toInt < 0 := hc
    clear hc
    obtain ⟨m22, hm23, E13, hG⟩ := E_go (pc' := 15) (lv' := [(0, .int q), (1, .int (0 : Int32)), (2, .int ((gi h 316 0) - (1 : Int32)))]) (st' := [.int (0 : Int32)]) (h' := h) 1 rfl E13 hG
    have ho24 := E_reti rfl E13
    subst ho24
    have E6 : rk_ex m10 d4 rm_X8_isRoutine 11 [(0, .ref 316), (1, .int q)] [.int (0 : Int32)] h = some o5 := F13
    have ho25 := E_reti rfl E6
    subst ho25
    have E : rk_ex m3 d rm_X8_acting 5 [(0, .ref 316), (1, .int q)] [.int (0 : Int32)] h = some o := F6
    rcases E_if1 (tg := 16) rfl rfl E with ⟨hc, m26, hm27, E⟩ | ⟨hc, m28, hm29, E⟩
    ·
      clear hc
      obtain ⟨m30, hm31, E, hG⟩ := E_go (pc' := 17) (lv' := [(0, .ref 316), (1, .int q)]) (st' := [.int ((-1) : Int32)]) (h' := h) 1 rfl E hG
      have ho32 := E_reti rfl E
      exact Or.inl ⟨c21, hG, ho32⟩
    · exact absurd (show ¬ ((0 : Int) = 0) from hc) (by decide)
  ·
    have c33 : ¬ (q.toInt < 0) := hc
    clear hc
    obtain ⟨m34, hm35, E13, hG⟩ := E_go (pc' := 7) (lv' := [(0, .int q), (1, .int (0 : Int32)), (2, .int ((gi h 316 0) - (1 : Int32)))]) (st' := [.int ((gi h 316 0) - (1 : Int32)), .int q]) (h' := h) 2 rfl E13 hG
    rcases E_if2 (tg := 14) rfl rfl E13 with ⟨hc, m36, hm37, E13⟩ | ⟨hc, m38, hm39, E13⟩
    ·
      have c40 : ((gi h 316 0) - (1 : Int32)).toInt < q.toInt := hc
      clear hc
      obtain ⟨m41, hm42, E13, hG⟩ := E_go (pc' := 15) (lv' := [(0, .int q), (1, .int (0 : Int32)), (2, .int ((gi h 316 0) - (1 : Int32)))]) (st' := [.int (0 : Int32)]) (h' := h) 1 rfl E13 hG
      have ho43 := E_reti rfl E13
      subst ho43
      have E6 : rk_ex m10 d4 rm_X8_isRoutine 11 [(0, .ref 316), (1, .int q)] [.int (0 : Int32)] h = some o5 := F13
      have ho44 := E_reti rfl E6
      subst ho44
      have E : rk_ex m3 d rm_X8_acting 5 [(0, .ref 316), (1, .int q)] [.int (0 : Int32)] h = some o := F6
      rcases E_if1 (tg := 16) rfl rfl E with ⟨hc, m45, hm46, E⟩ | ⟨hc, m47, hm48, E⟩
      ·
        clear hc
        obtain ⟨m49, hm50, E, hG⟩ := E_go (pc' := 17) (lv' := [(0, .ref 316), (1, .int q)]) (st' := [.int ((-1) : Int32)]) (h' := h) 1 rfl E hG
        have ho51 := E_reti rfl E
        exact Or.inr (Or.inl ⟨c33, c40, hG, ho51⟩)
      · exact absurd (show ¬ ((0 : Int) = 0) from hc) (by decide)
    ·
      have c52 : ¬ (((gi h 316 0) - (1 : Int32)).toInt < q.toInt) := hc
      clear hc
      obtain ⟨m53, hm54, E13, hG⟩ := E_go (pc' := 15) (lv' := [(0, .int q), (1, .int (0 : Int32)), (2, .int ((gi h 316 0) - (1 : Int32)))]) (st' := [.int (1 : Int32)]) (h' := h) 2 rfl E13 hG
      have ho55 := E_reti rfl E13
      subst ho55
      have E6 : rk_ex m10 d4 rm_X8_isRoutine 11 [(0, .ref 316), (1, .int q)] [.int (1 : Int32)] h = some o5 := F13
      have ho56 := E_reti rfl E6
      subst ho56
      have E : rk_ex m3 d rm_X8_acting 5 [(0, .ref 316), (1, .int q)] [.int (1 : Int32)] h = some o := F6
      rcases E_if1 (tg := 16) rfl rfl E with ⟨hc, m57, hm58, E⟩ | ⟨hc, m59, hm60, E⟩
      · exact absurd (show (1 : Int) = 0 from hc) (by decide)
      ·
        clear hc
        obtain ⟨m61, hm62, E, hG⟩ := E_go (pc' := 10) (lv' := [(0, .ref 316), (1, .int q)]) (st' := [.int q, .ref 316]) (h' := h) 2 rfl E hG
        exact Or.inr (Or.inr ⟨c33, c52, _, (by omega), hG, E⟩)
set_option maxRecDepth 100000 in
set_option maxHeartbeats 4000000 in
theorem yt_mat1 {n d : Nat} {h : rk_S} {o : Option Value × rk_S} {q y : Int32} (hG : yG h) (E : rk_ex n d rm_X8_acting 13 [(0, .ref 316), (1, .int q)] [.int y] h = some o) :
    (yG h ∧ o = (some (.int y), h)) := by
  obtain ⟨m1, hm2, E, hG⟩ := E_go (pc' := 17) (lv' := [(0, .ref 316), (1, .int q)]) (st' := [.int y]) (h' := h) 1 rfl E hG
  have ho3 := E_reti rfl E
  exact ⟨hG, ho3⟩
