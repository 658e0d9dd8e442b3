/-! pieces of the class's Keepsake and Shelf (laid by wip/gen/y10s.py) -/
set_option maxRecDepth 100000 in
set_option maxHeartbeats 4000000 in
theorem ys_na {n d : Nat} {h : rk_S} {o : Option Value × rk_S} {f k : Nat} {j : Int32} (hG : yG h)  (q1 : ¬ (j.toInt < 0)) (E : rk_ex n d rm_X1_numbersAreAlike 2 [(0, .ref k), (1, .ref f), (2, .int j)] [] h = some o) :
    (3 ≤ j.toInt ∧ yG h ∧ o = (some (.int (1 : Int32)), h)) ∨
    (¬ (3 ≤ j.toInt) ∧ (((gi h k 3) >>> (j &&& 31)) &&& (1 : Int32)).toInt = 0 ∧ ∃ m, m < n ∧ yG h ∧ rk_ex m d rm_X1_numbersAreAlike 2 [(0, .ref k), (1, .ref f), (2, .int (j + (1 : Int32)))] [] h = some o) ∨
    (¬ (3 ≤ j.toInt) ∧ ¬ ((((gi h k 3) >>> (j &&& 31)) &&& (1 : Int32)).toInt = 0) ∧ (gi h (k + 1) j.toNatClampNeg).toInt = (gi h (f + 1) j.toNatClampNeg).toInt ∧ ∃ m, m < n ∧ yG h ∧ rk_ex m d rm_X1_numbersAreAlike 2 [(0, .ref k), (1, .ref f), (2, .int (j + (1 : Int32)))] [] h = some o) ∨
    (¬ (3 ≤ j.toInt) ∧ ¬ ((((gi h k 3) >>> (j &&& 31)) &&& (1 : Int32)).toInt = 0) ∧ ¬ ((gi h (k + 1) j.toNatClampNeg).toInt = (gi h (f + 1) j.toNatClampNeg).toInt) ∧ yG h ∧ o = (some (.int (0 : Int32)), h)) := by
  obtain ⟨m1, hm2, E, hG⟩ := E_go (pc' := 4) (lv' := [(0, .ref k), (1, .ref f), (2, .int j)]) (st' := [.int (3 : Int32), .int j]) (h' := h) 2 rfl E hG
  rcases E_if2 (tg := 40) rfl rfl E with ⟨hc, m3, hm4, E⟩ | ⟨hc, m5, hm6, E⟩
  ·
    have c7 : 3 ≤ j.toInt := hc
    clear hc
    obtain ⟨m8, hm9, E, hG⟩ := E_go (pc' := 41) (lv' := [(0, .ref k), (1, .ref f), (2, .int j)]) (st' := [.int (1 : Int32)]) (h' := h) 1 rfl E hG
    have ho10 := E_reti rfl E
    exact Or.inl ⟨c7, hG, ho10⟩
  ·
    have c11 : ¬ (3 ≤ j.toInt) := hc
    clear hc
    obtain ⟨m12, hm13, E, hG⟩ := E_go (pc' := 12) (lv' := [(0, .ref k), (1, .ref f), (2, .int j)]) (st' := [.int j, .int (gi h k 3)]) (h' := h) 3 rfl E hG
    obtain ⟨m14, d15, o16, hm18, E17, F17⟩ := E_call (ar := ([.int (gi h k 3), .int j], [])) rfl rfl rfl rfl rfl rfl E
    replace E17 : rk_ex m14 d15 rm_X7_isSet 0 [(0, .int (gi h k 3)), (1, .int j)] [] h = some o16 := E17
    obtain ⟨m19, hm20, E17, hG⟩ := E_go (pc' := 5) (lv' := [(0, .int (gi h k 3)), (1, .int j)]) (st' := [.int (((gi h k 3) >>> (j &&& 31)) &&& (1 : Int32))]) (h' := h) 5 rfl E17 hG
    rcases E_if1 (tg := 12) rfl rfl E17 with ⟨hc, m21, hm22, E17⟩ | ⟨hc, m23, hm24, E17⟩
    ·
      have c25 : (((gi h k 3) >>> (j &&& 31)) &&& (1 : Int32)).toInt = 0 := hc
      clear hc
      obtain ⟨m26, hm27, E17, hG⟩ := E_go (pc' := 13) (lv' := [(0, .int (gi h k 3)), (1, .int j)]) (st' := [.int (0 : Int32)]) (h' := h) 1 rfl E17 hG
      have ho28 := E_reti rfl E17
      subst ho28
      have E : rk_ex m14 d rm_X1_numbersAreAlike 15 [(0, .ref k), (1, .ref f), (2, .int j)] [.int (0 : Int32)] h = some o := F17
      rcases E_if1 (tg := 34) rfl rfl E with ⟨hc, m29, hm30, E⟩ | ⟨hc, m31, hm32, E⟩
      ·
        clear hc
        obtain ⟨m33, hm34, E, hG⟩ := E_go (pc' := 2) (lv' := [(2, .int (j + (1 : Int32))), (0, .ref k), (1, .ref f)]) (st' := []) (h' := h) 2 rfl E hG
        replace E := E_lv [(0, .ref k), (1, .ref f), (2, .int (j + (1 : Int32)))] rfl (lvs_c rfl rfl (lvs_c rfl rfl (lvs_c rfl rfl lvs_n))) E
        exact Or.inr (Or.inl ⟨c11, c25, _, (by omega), hG, E⟩)
      · exact absurd (show ¬ ((0 : Int) = 0) from hc) (by decide)
    ·
      have c36 : ¬ ((((gi h k 3) >>> (j &&& 31)) &&& (1 : Int32)).toInt = 0) := hc
      clear hc
      obtain ⟨m37, hm38, E17, hG⟩ := E_go (pc' := 13) (lv' := [(0, .int (gi h k 3)), (1, .int j)]) (st' := [.int (1 : Int32)]) (h' := h) 2 rfl E17 hG
      have ho39 := E_reti rfl E17
      subst ho39
      have E : rk_ex m14 d rm_X1_numbersAreAlike 15 [(0, .ref k), (1, .ref f), (2, .int j)] [.int (1 : Int32)] h = some o := F17
      rcases E_if1 (tg := 34) rfl rfl E with ⟨hc, m40, hm41, E⟩ | ⟨hc, m42, hm43, E⟩
      · exact absurd (show (1 : Int) = 0 from hc) (by decide)
      ·
        clear hc
        obtain ⟨m44, hm45, E, hG⟩ := E_go (pc' := 26) (lv' := [(0, .ref k), (1, .ref f), (2, .int j)]) (st' := [.int j, .ref f, .int (gi h (k + 1 + 0) j.toNatClampNeg)]) (h' := h) 6 rfl E hG
        try simp only [Nat.add_assoc, Nat.reduceAdd] at E hG
        obtain ⟨m46, d47, o48, hm50, E49, F49⟩ := E_call (ar := ([.ref f, .int j], [.int (gi h (k + 1) j.toNatClampNeg)])) rfl rfl rfl rfl rfl rfl E
        replace E49 : rk_ex m46 d47 rm_X0_numberOf 0 [(0, .ref f), (1, .int j)] [] h = some o48 := E49
        obtain ⟨m51, hm52, E49, hG⟩ := E_go (pc' := 1) (lv' := [(0, .ref f), (1, .int j)]) (st' := [.int j]) (h' := h) 1 rfl E49 hG
        rcases E_if1 (tg := 18) rfl rfl E49 with ⟨hc, m53, hm54, E49⟩ | ⟨hc, m55, hm56, E49⟩
        · exact absurd (show j.toInt < 0 from hc) (by omega)
        ·
          clear hc
          obtain ⟨m57, hm58, E49, hG⟩ := E_go (pc' := 6) (lv' := [(0, .ref f), (1, .int j)]) (st' := [.int (3 : Int32), .int j]) (h' := h) 2 rfl E49 hG
          rcases E_if2 (tg := 18) rfl rfl E49 with ⟨hc, m59, hm60, E49⟩ | ⟨hc, m61, hm62, E49⟩
          · exact absurd (show 3 ≤ j.toInt from hc) (by omega)
          ·
            clear hc
            obtain ⟨m63, hm64, E49, hG⟩ := E_go (pc' := 19) (lv' := [(0, .ref f), (1, .int j)]) (st' := [.int (gi h (f + 1 + 0) j.toNatClampNeg)]) (h' := h) 5 rfl E49 hG
            try simp only [Nat.add_assoc, Nat.reduceAdd] at E49 hG
            have ho65 := E_reti rfl E49
            subst ho65
            have E : rk_ex m46 d rm_X1_numbersAreAlike 29 [(0, .ref k), (1, .ref f), (2, .int j)] [.int (gi h (f + 1) j.toNatClampNeg), .int (gi h (k + 1) j.toNatClampNeg)] h = some o := F49
            rcases E_if2 (tg := 34) rfl rfl E with ⟨hc, m66, hm67, E⟩ | ⟨hc, m68, hm69, E⟩
            ·
              have c70 : (gi h (k + 1) j.toNatClampNeg).toInt = (gi h (f + 1) j.toNatClampNeg).toInt := hc
              clear hc
              obtain ⟨m71, hm72, E, hG⟩ := E_go (pc' := 2) (lv' := [(2, .int (j + (1 : Int32))), (0, .ref k), (1, .ref f)]) (st' := []) (h' := h) 2 rfl E hG
              replace E := E_lv [(0, .ref k), (1, .ref f), (2, .int (j + (1 : Int32)))] rfl (lvs_c rfl rfl (lvs_c rfl rfl (lvs_c rfl rfl lvs_n))) E
              exact Or.inr (Or.inr (Or.inl ⟨c11, c36, c70, _, (by omega), hG, E⟩))
            ·
              have c74 : ¬ ((gi h (k + 1) j.toNatClampNeg).toInt = (gi h (f + 1) j.toNatClampNeg).toInt) := hc
              clear hc
              obtain ⟨m75, hm76, E, hG⟩ := E_go (pc' := 33) (lv' := [(0, .ref k), (1, .ref f), (2, .int j)]) (st' := [.int (0 : Int32)]) (h' := h) 1 rfl E hG
              have ho77 := E_reti rfl E
              exact Or.inr (Or.inr (Or.inr ⟨c11, c36, c74, hG, ho77⟩))
set_option maxRecDepth 100000 in
set_option maxHeartbeats 4000000 in
theorem ys_na0 {n d : Nat} {h : rk_S} {o : Option Value × rk_S} {f k : Nat} (hG : yG h) (E : rk_ex n d rm_X1_numbersAreAlike 0 [(0, .ref k), (1, .ref f)] [] h = some o) :
    (∃ m, m < n ∧ yG h ∧ rk_ex m d rm_X1_numbersAreAlike 2 [(0, .ref k), (1, .ref f), (2, .int (0 : Int32))] [] h = some o) := by
  obtain ⟨m1, hm2, E, hG⟩ := E_go (pc' := 2) (lv' := [(2, .int (0 : Int32)), (0, .ref k), (1, .ref f)]) (st' := []) (h' := h) 2 rfl E hG
  replace E := E_lv [(0, .ref k), (1, .ref f), (2, .int (0 : Int32))] rfl (lvs_c rfl rfl (lvs_c rfl rfl (lvs_c rfl rfl lvs_n))) E
  exact ⟨_, (by omega), hG, E⟩
set_option maxRecDepth 100000 in
set_option maxHeartbeats 4000000 in
theorem ys_sa {n d : Nat} {h : rk_S} {o : Option Value × rk_S} {k : Nat} {j : Int32} (hG : yG h)  (q1 : ¬ (j.toInt < 0)) (E : rk_ex n d rm_X1_storesAreAlike 2 [(0, .ref k), (1, .ref 18), (2, .int j)] [] h = some o) :
    (16 ≤ j.toInt ∧ yG h ∧ o = (some (.int (1 : Int32)), h)) ∨
    (¬ (16 ≤ j.toInt) ∧ ((gi h k 4) >>> (j &&& 31)).toInt = 0 ∧ yG h ∧ o = (some (.int (1 : Int32)), h)) ∨
    (¬ (16 ≤ j.toInt) ∧ ¬ (((gi h k 4) >>> (j &&& 31)).toInt = 0) ∧ (((gi h k 4) >>> (j &&& 31)) &&& (1 : Int32)).toInt = 0 ∧ ∃ m, m < n ∧ yG h ∧ rk_ex m d rm_X1_storesAreAlike 2 [(0, .ref k), (1, .ref 18), (2, .int (j + (1 : Int32)))] [] h = some o) ∨
    (¬ (16 ≤ j.toInt) ∧ ¬ (((gi h k 4) >>> (j &&& 31)).toInt = 0) ∧ ¬ ((((gi h k 4) >>> (j &&& 31)) &&& (1 : Int32)).toInt = 0) ∧ (gi h (k + 2) j.toNatClampNeg).toInt = (gi h 19 j.toNatClampNeg).toInt ∧ ∃ m, m < n ∧ yG h ∧ rk_ex m d rm_X1_storesAreAlike 2 [(0, .ref k), (1, .ref 18), (2, .int (j + (1 : Int32)))] [] h = some o) ∨
    (¬ (16 ≤ j.toInt) ∧ ¬ (((gi h k 4) >>> (j &&& 31)).toInt = 0) ∧ ¬ ((((gi h k 4) >>> (j &&& 31)) &&& (1 : Int32)).toInt = 0) ∧ ¬ ((gi h (k + 2) j.toNatClampNeg).toInt = (gi h 19 j.toNatClampNeg).toInt) ∧ yG h ∧ o = (some (.int (0 : Int32)), h)) := by
  obtain ⟨m1, hm2, E, hG⟩ := E_go (pc' := 5) (lv' := [(0, .ref k), (1, .ref 18), (2, .int j)]) (st' := [.int (16 : Int32), .int j]) (h' := h) 2 rfl E hG
  rcases E_if2 (tg := 50) rfl rfl E with ⟨hc, m3, hm4, E⟩ | ⟨hc, m5, hm6, E⟩
  ·
    have c7 : 16 ≤ j.toInt := hc
    clear hc
    obtain ⟨m8, hm9, E, hG⟩ := E_go (pc' := 51) (lv' := [(0, .ref k), (1, .ref 18), (2, .int j)]) (st' := [.int (1 : Int32)]) (h' := h) 1 rfl E hG
    have ho10 := E_reti rfl E
    exact Or.inl ⟨c7, hG, ho10⟩
  ·
    have c11 : ¬ (16 ≤ j.toInt) := hc
    clear hc
    obtain ⟨m12, hm13, E, hG⟩ := E_go (pc' := 14) (lv' := [(0, .ref k), (1, .ref 18), (2, .int j)]) (st' := [.int ((gi h k 4) >>> (j &&& 31))]) (h' := h) 4 rfl E hG
    rcases E_if1 (tg := 50) rfl rfl E with ⟨hc, m14, hm15, E⟩ | ⟨hc, m16, hm17, E⟩
    ·
      have c18 : ((gi h k 4) >>> (j &&& 31)).toInt = 0 := hc
      clear hc
      obtain ⟨m19, hm20, E, hG⟩ := E_go (pc' := 51) (lv' := [(0, .ref k), (1, .ref 18), (2, .int j)]) (st' := [.int (1 : Int32)]) (h' := h) 1 rfl E hG
      have ho21 := E_reti rfl E
      exact Or.inr (Or.inl ⟨c11, c18, hG, ho21⟩)
    ·
      have c22 : ¬ (((gi h k 4) >>> (j &&& 31)).toInt = 0) := hc
      clear hc
      obtain ⟨m23, hm24, E, hG⟩ := E_go (pc' := 22) (lv' := [(0, .ref k), (1, .ref 18), (2, .int j)]) (st' := [.int j, .int (gi h k 4)]) (h' := h) 3 rfl E hG
      obtain ⟨m25, d26, o27, hm29, E28, F28⟩ := E_call (ar := ([.int (gi h k 4), .int j], [])) rfl rfl rfl rfl rfl rfl E
      replace E28 : rk_ex m25 d26 rm_X7_isSet 0 [(0, .int (gi h k 4)), (1, .int j)] [] h = some o27 := E28
      obtain ⟨m30, hm31, E28, hG⟩ := E_go (pc' := 5) (lv' := [(0, .int (gi h k 4)), (1, .int j)]) (st' := [.int (((gi h k 4) >>> (j &&& 31)) &&& (1 : Int32))]) (h' := h) 5 rfl E28 hG
      rcases E_if1 (tg := 12) rfl rfl E28 with ⟨hc, m32, hm33, E28⟩ | ⟨hc, m34, hm35, E28⟩
      ·
        have c36 : (((gi h k 4) >>> (j &&& 31)) &&& (1 : Int32)).toInt = 0 := hc
        clear hc
        obtain ⟨m37, hm38, E28, hG⟩ := E_go (pc' := 13) (lv' := [(0, .int (gi h k 4)), (1, .int j)]) (st' := [.int (0 : Int32)]) (h' := h) 1 rfl E28 hG
        have ho39 := E_reti rfl E28
        subst ho39
        have E : rk_ex m25 d rm_X1_storesAreAlike 25 [(0, .ref k), (1, .ref 18), (2, .int j)] [.int (0 : Int32)] h = some o := F28
        rcases E_if1 (tg := 44) rfl rfl E with ⟨hc, m40, hm41, E⟩ | ⟨hc, m42, hm43, E⟩
        ·
          clear hc
          obtain ⟨m44, hm45, E, hG⟩ := E_go (pc' := 2) (lv' := [(2, .int (j + (1 : Int32))), (0, .ref k), (1, .ref 18)]) (st' := []) (h' := h) 2 rfl E hG
          replace E := E_lv [(0, .ref k), (1, .ref 18), (2, .int (j + (1 : Int32)))] rfl (lvs_c rfl rfl (lvs_c rfl rfl (lvs_c rfl rfl lvs_n))) E
          exact Or.inr (Or.inr (Or.inl ⟨c11, c22, c36, _, (by omega), hG, E⟩))
        · exact absurd (show ¬ ((0 : Int) = 0) from hc) (by decide)
      ·
        have c47 : ¬ ((((gi h k 4) >>> (j &&& 31)) &&& (1 : Int32)).toInt = 0) := hc
        clear hc
        obtain ⟨m48, hm49, E28, hG⟩ := E_go (pc' := 13) (lv' := [(0, .int (gi h k 4)), (1, .int j)]) (st' := [.int (1 : Int32)]) (h' := h) 2 rfl E28 hG
        have ho50 := E_reti rfl E28
        subst ho50
        have E : rk_ex m25 d rm_X1_storesAreAlike 25 [(0, .ref k), (1, .ref 18), (2, .int j)] [.int (1 : Int32)] h = some o := F28
        rcases E_if1 (tg := 44) rfl rfl E with ⟨hc, m51, hm52, E⟩ | ⟨hc, m53, hm54, E⟩
        · exact absurd (show (1 : Int) = 0 from hc) (by decide)
        ·
          clear hc
          obtain ⟨m55, hm56, E, hG⟩ := E_go (pc' := 36) (lv' := [(0, .ref k), (1, .ref 18), (2, .int j)]) (st' := [.int j, .ref 18, .int (gi h (k + 1 + 1) j.toNatClampNeg)]) (h' := h) 6 rfl E hG
          try simp only [Nat.add_assoc, Nat.reduceAdd] at E hG
          obtain ⟨m57, d58, o59, hm61, E60, F60⟩ := E_call (ar := ([.ref 18, .int j], [.int (gi h (k + 2) j.toNatClampNeg)])) rfl rfl rfl rfl rfl rfl E
          replace E60 : rk_ex m57 d58 rm_X6_valueOf 0 [(0, .ref 18), (1, .int j)] [] h = some o59 := E60
          obtain ⟨m62, hm63, E60, hG⟩ := E_go (pc' := 1) (lv' := [(0, .ref 18), (1, .int j)]) (st' := [.int j]) (h' := h) 1 rfl E60 hG
          rcases E_if1 (tg := 19) rfl rfl E60 with ⟨hc, m64, hm65, E60⟩ | ⟨hc, m66, hm67, E60⟩
          · exact absurd (show j.toInt < 0 from hc) (by omega)
          ·
            clear hc
            obtain ⟨m68, hm69, E60, hG⟩ := E_go (pc' := 7) (lv' := [(0, .ref 18), (1, .int j)]) (st' := [.int (16 : Int32), .int j]) (h' := h) 2 rfl E60 hG
            rcases E_if2 (tg := 19) rfl rfl E60 with ⟨hc, m70, hm71, E60⟩ | ⟨hc, m72, hm73, E60⟩
            · exact absurd (show 16 ≤ j.toInt from hc) (by omega)
            ·
              clear hc
              obtain ⟨m74, hm75, E60, hG⟩ := E_go (pc' := 20) (lv' := [(0, .ref 18), (1, .int j)]) (st' := [.int (gi h 19 j.toNatClampNeg)]) (h' := h) 5 rfl E60 hG
              have ho76 := E_reti rfl E60
              subst ho76
              have E : rk_ex m57 d rm_X1_storesAreAlike 39 [(0, .ref k), (1, .ref 18), (2, .int j)] [.int (gi h 19 j.toNatClampNeg), .int (gi h (k + 2) j.toNatClampNeg)] h = some o := F60
              rcases E_if2 (tg := 44) rfl rfl E with ⟨hc, m77, hm78, E⟩ | ⟨hc, m79, hm80, E⟩
              ·
                have c81 : (gi h (k + 2) j.toNatClampNeg).toInt = (gi h 19 j.toNatClampNeg).toInt := hc
                clear hc
                obtain ⟨m82, hm83, E, hG⟩ := E_go (pc' := 2) (lv' := [(2, .int (j + (1 : Int32))), (0, .ref k), (1, .ref 18)]) (st' := []) (h' := h) 2 rfl E hG
                replace E := E_lv [(0, .ref k), (1, .ref 18), (2, .int (j + (1 : Int32)))] rfl (lvs_c rfl rfl (lvs_c rfl rfl (lvs_c rfl rfl lvs_n))) E
                exact Or.inr (Or.inr (Or.inr (Or.inl ⟨c11, c22, c47, c81, _, (by omega), hG, E⟩)))
              ·
                have c85 : ¬ ((gi h (k + 2) j.toNatClampNeg).toInt = (gi h 19 j.toNatClampNeg).toInt) := hc
                clear hc
                obtain ⟨m86, hm87, E, hG⟩ := E_go (pc' := 43) (lv' := [(0, .ref k), (1, .ref 18), (2, .int j)]) (st' := [.int (0 : Int32)]) (h' := h) 1 rfl E hG
                have ho88 := E_reti rfl E
                exact Or.inr (Or.inr (Or.inr (Or.inr ⟨c11, c22, c47, c85, hG, ho88⟩)))
set_option maxRecDepth 100000 in
set_option maxHeartbeats 4000000 in
theorem ys_sa0 {n d : Nat} {h : rk_S} {o : Option Value × rk_S} {k : Nat} (hG : yG h) (E : rk_ex n d rm_X1_storesAreAlike 0 [(0, .ref k), (1, .ref 18)] [] h = some o) :
    (∃ m, m < n ∧ yG h ∧ rk_ex m d rm_X1_storesAreAlike 2 [(0, .ref k), (1, .ref 18), (2, .int (0 : Int32))] [] h = some o) := by
  obtain ⟨m1, hm2, E, hG⟩ := E_go (pc' := 2) (lv' := [(2, .int (0 : Int32)), (0, .ref k), (1, .ref 18)]) (st' := []) (h' := h) 2 rfl E hG
  replace E := E_lv [(0, .ref k), (1, .ref 18), (2, .int (0 : Int32))] rfl (lvs_c rfl rfl (lvs_c rfl rfl (lvs_c rfl rfl lvs_n))) E
  exact ⟨_, (by omega), hG, E⟩
set_option maxRecDepth 100000 in
set_option maxHeartbeats 4000000 in
theorem ys_hf {n d : Nat} {h : rk_S} {o : Option Value × rk_S} {f k : Nat} {r : Int32} (hG : yG h) (E : rk_ex n d rm_X1_holdsFor 0 [(0, .ref k), (1, .int r), (2, .ref f), (3, .ref 18)] [] h = some o) :
    (¬ (gi h k 2).toInt = r.toInt ∧ yG h ∧ o = (some (.int (0 : Int32)), h)) ∨
    ((gi h k 2).toInt = r.toInt ∧ ∃ m, m < n + 1 ∧ yG h ∧ rk_ex m d rm_X1_holdsFor 10 [(0, .ref k), (1, .int r), (2, .ref f), (3, .ref 18)] [.ref f, .ref k] h = some o) := by
  obtain ⟨m1, hm2, E, hG⟩ := E_go (pc' := 5) (lv' := [(0, .ref k), (1, .int r), (2, .ref f), (3, .ref 18)]) (st' := [.int r, .int (gi h k 2)]) (h' := h) 3 rfl E hG
  rcases E_if2 (tg := 28) rfl rfl E with ⟨hc, m3, hm4, E⟩ | ⟨hc, m5, hm6, E⟩
  ·
    have c7 : ¬ (gi h k 2).toInt = r.toInt := hc
    clear hc
    obtain ⟨m8, hm9, E, hG⟩ := E_go (pc' := 29) (lv' := [(0, .ref k), (1, .int r), (2, .ref f), (3, .ref 18)]) (st' := [.int (0 : Int32)]) (h' := h) 1 rfl E hG
    have ho10 := E_reti rfl E
    exact Or.inl ⟨c7, hG, ho10⟩
  ·
    have c11 : (gi h k 2).toInt = r.toInt := Decidable.not_not.mp hc
    clear hc
    obtain ⟨m12, hm13, E, hG⟩ := E_go (pc' := 10) (lv' := [(0, .ref k), (1, .int r), (2, .ref f), (3, .ref 18)]) (st' := [.ref f, .ref k]) (h' := h) 2 rfl E hG
    exact Or.inr ⟨c11, _, (by omega), hG, E⟩
set_option maxRecDepth 100000 in
set_option maxHeartbeats 4000000 in
theorem ys_hf1 {n d : Nat} {h : rk_S} {o : Option Value × rk_S} {f k : Nat} {r y : Int32} (hG : yG h) (E : rk_ex n d rm_X1_holdsFor 13 [(0, .ref k), (1, .int r), (2, .ref f), (3, .ref 18)] [.int y] h = some o) :
    (y.toInt = 0 ∧ yG h ∧ o = (some (.int (0 : Int32)), h)) ∨
    (¬ (y.toInt = 0) ∧ ∃ m, m < n + 1 ∧ yG h ∧ rk_ex m d rm_X1_holdsFor 18 [(0, .ref k), (1, .int r), (2, .ref f), (3, .ref 18)] [.ref 18, .ref k] h = some o) := by
  rcases E_if1 (tg := 28) rfl rfl E with ⟨hc, m1, hm2, E⟩ | ⟨hc, m3, hm4, E⟩
  ·
    have c5 : y.toInt = 0 := hc
    clear hc
    obtain ⟨m6, hm7, E, hG⟩ := E_go (pc' := 29) (lv' := [(0, .ref k), (1, .int r), (2, .ref f), (3, .ref 18)]) (st' := [.int (0 : Int32)]) (h' := h) 1 rfl E hG
    have ho8 := E_reti rfl E
    exact Or.inl ⟨c5, hG, ho8⟩
  ·
    have c9 : ¬ (y.toInt = 0) := hc
    clear hc
    obtain ⟨m10, hm11, E, hG⟩ := E_go (pc' := 18) (lv' := [(0, .ref k), (1, .int r), (2, .ref f), (3, .ref 18)]) (st' := [.ref 18, .ref k]) (h' := h) 2 rfl E hG
    exact Or.inr ⟨c9, _, (by omega), hG, E⟩
set_option maxRecDepth 100000 in
set_option maxHeartbeats 4000000 in
theorem ys_hf2 {n d : Nat} {h : rk_S} {o : Option Value × rk_S} {f k : Nat} {r y : Int32} (hG : yG h) (E : rk_ex n d rm_X1_holdsFor 21 [(0, .ref k), (1, .int r), (2, .ref f), (3, .ref 18)] [.int y] h = some o) :
    (y.toInt = 0 ∧ yG h ∧ o = (some (.int (0 : Int32)), h)) ∨
    (¬ (y.toInt = 0) ∧ yG h ∧ o = (some (.int (1 : Int32)), h)) := by
  rcases E_if1 (tg := 28) rfl rfl E with ⟨hc, m1, hm2, E⟩ | ⟨hc, m3, hm4, E⟩
  ·
    have c5 : y.toInt = 0 := hc
    clear hc
    obtain ⟨m6, hm7, E, hG⟩ := E_go (pc' := 29) (lv' := [(0, .ref k), (1, .int r), (2, .ref f), (3, .ref 18)]) (st' := [.int (0 : Int32)]) (h' := h) 1 rfl E hG
    have ho8 := E_reti rfl E
    exact Or.inl ⟨c5, hG, ho8⟩
  ·
    have c9 : ¬ (y.toInt = 0) := hc
    clear hc
    obtain ⟨m10, hm11, E, hG⟩ := E_go (pc' := 29) (lv' := [(0, .ref k), (1, .int r), (2, .ref f), (3, .ref 18)]) (st' := [.int (1 : Int32)]) (h' := h) 2 rfl E hG
    have ho12 := E_reti rfl E
    exact Or.inr ⟨c9, hG, ho12⟩
set_option maxRecDepth 100000 in
set_option maxHeartbeats 4000000 in
theorem ys_ft {n d : Nat} {h : rk_S} {o : Option Value × rk_S} {f : Nat} {r j : Int32} (hG : yG h) (E : rk_ex n d rm_X5_firstThatHolds 3 [(0, .ref 20), (1, .int r), (2, .ref f), (3, .ref 18), (4, .int j)] [] h = some o) :
    ((gi h 20 1).toInt ≤ j.toInt ∧ yG h ∧ o = (some (.int ((-6) : Int32)), h)) ∨
    (¬ ((gi h 20 1).toInt ≤ j.toInt) ∧ ∃ m, m < n + 1 ∧ yG h ∧ rk_ex m d rm_X5_firstThatHolds 22 [(0, .ref 20), (1, .int r), (2, .ref f), (3, .ref 18), (4, .int j)] [.ref 18, .ref f, .int r, .ref (gr h 21 j.toNatClampNeg)] h = some o) := by
  obtain ⟨m1, hm2, E, hG⟩ := E_go (pc' := 9) (lv' := [(0, .ref 20), (1, .int r), (2, .ref f), (3, .ref 18), (4, .int j)]) (st' := [.int (gi h 20 1), .int j]) (h' := h) 3 rfl E hG
  rcases E_if2 (tg := 37) rfl rfl E with ⟨hc, m3, hm4, E⟩ | ⟨hc, m5, hm6, E⟩
  ·
    have c7 : (gi h 20 1).toInt ≤ j.toInt := hc
    clear hc
    obtain ⟨m8, hm9, E, hG⟩ := E_go (pc' := 39) (lv' := [(0, .ref 20), (1, .int r), (2, .ref f), (3, .ref 18), (4, .int j)]) (st' := [.int ((-6) : Int32)]) (h' := h) 1 rfl E hG
    have ho10 := E_reti rfl E
    exact Or.inl ⟨c7, hG, ho10⟩
  ·
    have c11 : ¬ ((gi h 20 1).toInt ≤ j.toInt) := hc
    clear hc
    obtain ⟨m12, hm13, E, hG⟩ := E_go (pc' := 22) (lv' := [(0, .ref 20), (1, .int r), (2, .ref f), (3, .ref 18), (4, .int j)]) (st' := [.ref 18, .ref f, .int r, .ref (gr h 21 j.toNatClampNeg)]) (h' := h) 7 rfl E hG
    exact Or.inr ⟨c11, _, (by omega), hG, E⟩
set_option maxRecDepth 100000 in
set_option maxHeartbeats 4000000 in
theorem ys_ft0 {n d : Nat} {h : rk_S} {o : Option Value × rk_S} {f : Nat} {r : Int32} (hG : yG h) (E : rk_ex n d rm_X5_firstThatHolds 0 [(0, .ref 20), (1, .int r), (2, .ref f), (3, .ref 18)] [] h = some o) :
    (∃ m, m < n ∧ yG h ∧ rk_ex m d rm_X5_firstThatHolds 3 [(0, .ref 20), (1, .int r), (2, .ref f), (3, .ref 18), (4, .int (0 : Int32))] [] h = some o) := by
  obtain ⟨m1, hm2, E, hG⟩ := E_go (pc' := 3) (lv' := [(4, .int (0 : Int32)), (0, .ref 20), (1, .int r), (2, .ref f), (3, .ref 18)]) (st' := []) (h' := h) 2 rfl E hG
  replace E := E_lv [(0, .ref 20), (1, .int r), (2, .ref f), (3, .ref 18), (4, .int (0 : Int32))] rfl (lvs_c rfl rfl (lvs_c rfl rfl (lvs_c rfl rfl (lvs_c rfl rfl (lvs_c rfl rfl lvs_n))))) E
  exact ⟨_, (by omega), hG, E⟩
set_option maxRecDepth 100000 in
set_option maxHeartbeats 4000000 in
theorem ys_ft1 {n d : Nat} {h : rk_S} {o : Option Value × rk_S} {f : Nat} {r j y : Int32} (hG : yG h) (E : rk_ex n d rm_X5_firstThatHolds 25 [(0, .ref 20), (1, .int r), (2, .ref f), (3, .ref 18), (4, .int j)] [.int y] h = some o) :
    (y.toInt = 0 ∧ ∃ m, m < n ∧ yG h ∧ rk_ex m d rm_X5_firstThatHolds 3 [(0, .ref 20), (1, .int r), (2, .ref f), (3, .ref 18), (4, .int (j + (1 : Int32)))] [] h = some o) ∨
    (¬ (y.toInt = 0) ∧ yG h ∧ o = (some (.int j), h)) := by
  rcases E_if1 (tg := 31) rfl rfl E with ⟨hc, m1, hm2, E⟩ | ⟨hc, m3, hm4, E⟩
  ·
    have c5 : y.toInt = 0 := hc
    clear hc
    obtain ⟨m6, hm7, E, hG⟩ := E_go (pc' := 3) (lv' := [(4, .int (j + (1 : Int32))), (0, .ref 20), (1, .int r), (2, .ref f), (3, .ref 18)]) (st' := []) (h' := h) 2 rfl E hG
    replace E := E_lv [(0, .ref 20), (1, .int r), (2, .ref f), (3, .ref 18), (4, .int (j + (1 : Int32)))] rfl (lvs_c rfl rfl (lvs_c rfl rfl (lvs_c rfl rfl (lvs_c rfl rfl (lvs_c rfl rfl lvs_n))))) E
    exact Or.inl ⟨c5, _, (by omega), hG, E⟩
  ·
    have c9 : ¬ (y.toInt = 0) := hc
    clear hc
    obtain ⟨m10, hm11, E, hG⟩ := E_go (pc' := 30) (lv' := [(0, .ref 20), (1, .int r), (2, .ref f), (3, .ref 18), (4, .int j)]) (st' := [.int j]) (h' := h) 1 rfl E hG
    have ho12 := E_reti rfl E
    exact Or.inr ⟨c9, hG, ho12⟩
set_option maxRecDepth 100000 in
set_option maxHeartbeats 4000000 in
theorem ys_ad {n d : Nat} {h : rk_S} {o : Option Value × rk_S} {f : Nat} {r x s : Int32} (hG : yG h) (E : rk_ex n d rm_X5_add 0 [(0, .ref 20), (1, .int r), (2, .ref f), (3, .ref 18), (4, .int x), (5, .int s)] [] h = some o) :
    (0 < (gi h 20 2).toInt ∧ (gi h 20 1).toInt < (gi h 20 2).toInt ∧ ∃ m, m < n ∧ yG h ∧ rk_ex m d rm_X5_add 27 [(0, .ref 20), (1, .int r), (2, .ref f), (3, .ref 18), (4, .int x), (5, .int s)] [] h = some o) ∨
    (0 < (gi h 20 2).toInt ∧ ¬ ((gi h 20 1).toInt < (gi h 20 2).toInt) ∧ ∃ m, m < n + 1 ∧ yG h ∧ rk_ex m d rm_X5_add 21 [(0, .ref 20), (1, .int r), (2, .ref f), (3, .ref 18), (4, .int x), (5, .int s)] [.ref 20, .ref 20] h = some o) ∨
    (¬ (0 < (gi h 20 2).toInt) ∧ yG h ∧ o = (none, h)) := by
  obtain ⟨m1, hm2, E, hG⟩ := E_go (pc' := 4) (lv' := [(0, .ref 20), (1, .int r), (2, .ref f), (3, .ref 18), (4, .int x), (5, .int s)]) (st' := [.int (gi h 20 2)]) (h' := h) 2 rfl E hG
  rcases E_if1 (tg := 8) rfl rfl E with ⟨hc, m3, hm4, E⟩ | ⟨hc, m5, hm6, E⟩
  ·
    have c7 : 0 < (gi h 20 2).toInt := hc
    clear hc
    obtain ⟨m8, hm9, E, hG⟩ := E_go (pc' := 16) (lv' := [(0, .ref 20), (1, .int r), (2, .ref f), (3, .ref 18), (4, .int x), (5, .int s)]) (st' := [.int (gi h 20 2), .int (gi h 20 1)]) (h' := h) 4 rfl E hG
    rcases E_if2 (tg := 27) rfl rfl E with ⟨hc, m10, hm11, E⟩ | ⟨hc, m12, hm13, E⟩
    ·
      have c14 : (gi h 20 1).toInt < (gi h 20 2).toInt := hc
      clear hc
      exact Or.inl ⟨c7, c14, _, (by omega), hG, E⟩
    ·
      have c16 : ¬ ((gi h 20 1).toInt < (gi h 20 2).toInt) := hc
      clear hc
      obtain ⟨m17, hm18, E, hG⟩ := E_go (pc' := 21) (lv' := [(0, .ref 20), (1, .int r), (2, .ref f), (3, .ref 18), (4, .int x), (5, .int s)]) (st' := [.ref 20, .ref 20]) (h' := h) 2 rfl E hG
      exact Or.inr (Or.inl ⟨c7, c16, _, (by omega), hG, E⟩)
  ·
    have c19 : ¬ (0 < (gi h 20 2).toInt) := hc
    clear hc
    have ho20 := E_retv rfl E
    exact Or.inr (Or.inr ⟨c19, hG, ho20⟩)
set_option maxRecDepth 100000 in
set_option maxHeartbeats 4000000 in
theorem ys_ad1 {n d : Nat} {h : rk_S} {o : Option Value × rk_S} {f : Nat} {r x s : Int32} (hG : yG h) (E : rk_ex n d rm_X5_add 27 [(0, .ref 20), (1, .int r), (2, .ref f), (3, .ref 18), (4, .int x), (5, .int s)] [] h = some o) :
    ((gi h 20 1).toInt < 0 ∧ yG h ∧ o = (none, h)) ∨
    (¬ ((gi h 20 1).toInt < 0) ∧ (gi h 20 1).toInt < 32 ∧ ∃ m, m < n + 1 ∧ yG (rk_pt h 20 1 (.int ((gi h 20 1) + (1 : Int32)))) ∧ rk_ex m d rm_X5_add 74 [(6, .ref (gr h 21 ((gi h 20 1).toNatClampNeg))), (0, .ref 20), (1, .int r), (2, .ref f), (3, .ref 18), (4, .int x), (5, .int s)] [.int s, .int x, .ref 18, .ref f, .int r, .ref (gr h 21 ((gi h 20 1).toNatClampNeg))] (rk_pt h 20 1 (.int ((gi h 20 1) + (1 : Int32)))) = some o) ∨
    (¬ ((gi h 20 1).toInt < 0) ∧ ¬ ((gi h 20 1).toInt < 32) ∧ yG h ∧ o = (none, h)) := by
  obtain ⟨m1, hm2, E, hG⟩ := E_go (pc' := 31) (lv' := [(0, .ref 20), (1, .int r), (2, .ref f), (3, .ref 18), (4, .int x), (5, .int s)]) (st' := [.int (gi h 20 1)]) (h' := h) 2 rfl E hG
  rcases E_if1 (tg := 43) rfl rfl E with ⟨hc, m3, hm4, E⟩ | ⟨hc, m5, hm6, E⟩
  ·
    have c7 : (gi h 20 1).toInt < 0 := hc
    clear hc
    have ho8 := E_retv rfl E
    exact Or.inl ⟨c7, hG, ho8⟩
  ·
    have c9 : ¬ ((gi h 20 1).toInt < 0) := hc
    clear hc
    obtain ⟨m10, hm11, E, hG⟩ := E_go (pc' := 40) (lv' := [(0, .ref 20), (1, .int r), (2, .ref f), (3, .ref 18), (4, .int x), (5, .int s)]) (st' := [.int (32 : Int32), .int (gi h 20 1)]) (h' := h) 3 rfl E hG
    rcases E_if2 (tg := 44) rfl rfl E with ⟨hc, m12, hm13, E⟩ | ⟨hc, m14, hm15, E⟩
    ·
      have c16 : (gi h 20 1).toInt < 32 := hc
      clear hc
      obtain ⟨m17, hm18, E, hG⟩ := E_go (pc' := 74) (lv' := [(6, .ref (gr h 21 ((gi h 20 1).toNatClampNeg))), (0, .ref 20), (1, .int r), (2, .ref f), (3, .ref 18), (4, .int x), (5, .int s)]) (st' := [.int s, .int x, .ref 18, .ref f, .int r, .ref (gr h 21 ((gi h 20 1).toNatClampNeg))]) (h' := rk_pt h 20 1 (.int ((gi h 20 1) + (1 : Int32)))) 18 rfl E hG
      exact Or.inr (Or.inl ⟨c9, c16, _, (by omega), hG, E⟩)
    ·
      have c19 : ¬ ((gi h 20 1).toInt < 32) := hc
      clear hc
      have ho20 := E_retv rfl E
      exact Or.inr (Or.inr ⟨c9, c19, hG, ho20⟩)
set_option maxRecDepth 100000 in
set_option maxHeartbeats 4000000 in
theorem ys_ad2 {n d : Nat} {h : rk_S} {o : Option Value × rk_S} {f k : Nat} {r x s : Int32} (hG : yG h) (hk : 22 ≤ k) (hk2 : k ≤ 115) (e204 : yE 20 4 h) (E : rk_ex n d rm_X5_add 77 [(6, .ref k), (0, .ref 20), (1, .int r), (2, .ref f), (3, .ref 18), (4, .int x), (5, .int s)] [] h = some o) :
    (yG (rk_pt (rk_pt h 20 4 (.int ((gi h 20 4) + (1 : Int32)))) k 10 (.int ((gi h 20 4) + (1 : Int32)))) ∧ o = (none, rk_pt (rk_pt h 20 4 (.int ((gi h 20 4) + (1 : Int32)))) k 10 (.int ((gi h 20 4) + (1 : Int32))))) := by
  obtain ⟨m1, hm2, E, hG⟩ := E_go (pc' := 80) (lv' := [(6, .ref k), (0, .ref 20), (1, .int r), (2, .ref f), (3, .ref 18), (4, .int x), (5, .int s)]) (st' := [.ref k, .ref 20]) (h' := h) 2 rfl E hG
  obtain ⟨m3, d4, o5, hm7, E6, F6⟩ := E_call (ar := ([.ref 20, .ref k], [])) rfl rfl rfl rfl rfl rfl E
  replace E6 : rk_ex m3 d4 rm_X5_touch 0 [(0, .ref 20), (1, .ref k)] [] h = some o5 := E6
  obtain ⟨m8, hm9, E6, hG⟩ := E_go (pc' := 18) (lv' := [(0, .ref 20), (1, .ref k)]) (st' := []) (h' := rk_pt (rk_pt h 20 4 (.int ((gi h 20 4) + (1 : Int32)))) k 10 (.int (gi (rk_pt h 20 4 (.int ((gi h 20 4) + (1 : Int32)))) 20 4))) 10 rfl E6 hG
  try simp only [gi_s, yE_pt, e204] at E6 hG
  have ho10 := E_retv rfl E6
  subst ho10
  have E : rk_ex m3 d rm_X5_add 83 [(6, .ref k), (0, .ref 20), (1, .int r), (2, .ref f), (3, .ref 18), (4, .int x), (5, .int s)] [] (rk_pt (rk_pt h 20 4 (.int ((gi h 20 4) + (1 : Int32)))) k 10 (.int ((gi h 20 4) + (1 : Int32)))) = some o := F6
  have ho11 := E_retv rfl E
  exact ⟨hG, ho11⟩
set_option maxRecDepth 100000 in
set_option maxHeartbeats 4000000 in
theorem ys_ng {n d : Nat} {h : rk_S} {o : Option Value × rk_S} {g j : Int32} (hG : yG h) (E : rk_ex n d rm_X5_nextToGo 4 [(0, .ref 20), (1, .int g), (2, .int j)] [] h = some o) :
    ((gi h 20 1).toInt ≤ j.toInt ∧ yG h ∧ o = (some (.int g), h)) ∨
    (¬ ((gi h 20 1).toInt ≤ j.toInt) ∧ ¬ (gi h 20 3).toInt = 0 ∧ ¬ (gi h 20 3).toInt = 2 ∧ ∃ m, m < n ∧ yG h ∧ rk_ex m d rm_X5_nextToGo 4 [(0, .ref 20), (1, .int g), (2, .int (j + (1 : Int32)))] [] h = some o) ∨
    (¬ ((gi h 20 1).toInt ≤ j.toInt) ∧ ¬ (gi h 20 3).toInt = 0 ∧ (gi h 20 3).toInt = 2 ∧ (gi h (gr h 21 g.toNatClampNeg) 7).toInt ≤ (gi h (gr h 21 j.toNatClampNeg) 7).toInt ∧ ∃ m, m < n ∧ yG h ∧ rk_ex m d rm_X5_nextToGo 4 [(0, .ref 20), (1, .int g), (2, .int (j + (1 : Int32)))] [] h = some o) ∨
    (¬ ((gi h 20 1).toInt ≤ j.toInt) ∧ ¬ (gi h 20 3).toInt = 0 ∧ (gi h 20 3).toInt = 2 ∧ ¬ ((gi h (gr h 21 g.toNatClampNeg) 7).toInt ≤ (gi h (gr h 21 j.toNatClampNeg) 7).toInt) ∧ ∃ m, m < n ∧ yG h ∧ rk_ex m d rm_X5_nextToGo 4 [(0, .ref 20), (1, .int j), (2, .int (j + (1 : Int32)))] [] h = some o) ∨
    (¬ ((gi h 20 1).toInt ≤ j.toInt) ∧ (gi h 20 3).toInt = 0 ∧ (gi h (gr h 21 g.toNatClampNeg) 10).toInt ≤ (gi h (gr h 21 j.toNatClampNeg) 10).toInt ∧ ∃ m, m < n ∧ yG h ∧ rk_ex m d rm_X5_nextToGo 4 [(0, .ref 20), (1, .int g), (2, .int (j + (1 : Int32)))] [] h = some o) ∨
    (¬ ((gi h 20 1).toInt ≤ j.toInt) ∧ (gi h 20 3).toInt = 0 ∧ ¬ ((gi h (gr h 21 g.toNatClampNeg) 10).toInt ≤ (gi h (gr h 21 j.toNatClampNeg) 10).toInt) ∧ ∃ m, m < n ∧ yG h ∧ rk_ex m d rm_X5_nextToGo 4 [(0, .ref 20), (1, .int j), (2, .int (j + (1 : Int32)))] [] h = some o) := by
  obtain ⟨m1, hm2, E, hG⟩ := E_go (pc' := 9) (lv' := [(0, .ref 20), (1, .int g), (2, .int j)]) (st' := [.int (gi h 20 1), .int j]) (h' := h) 3 rfl E hG
  rcases E_if2 (tg := 39) rfl rfl E with ⟨hc, m3, hm4, E⟩ | ⟨hc, m5, hm6, E⟩
  ·
    have c7 : (gi h 20 1).toInt ≤ j.toInt := hc
    clear hc
    obtain ⟨m8, hm9, E, hG⟩ := E_go (pc' := 40) (lv' := [(0, .ref 20), (1, .int g), (2, .int j)]) (st' := [.int g]) (h' := h) 1 rfl E hG
    have ho10 := E_reti rfl E
    exact Or.inl ⟨c7, hG, ho10⟩
  ·
    have c11 : ¬ ((gi h 20 1).toInt ≤ j.toInt) := hc
    clear hc
    obtain ⟨m12, hm13, E, hG⟩ := E_go (pc' := 25) (lv' := [(0, .ref 20), (1, .int g), (2, .int j)]) (st' := [.ref (gr h 21 g.toNatClampNeg), .ref (gr h 21 j.toNatClampNeg), .ref 20]) (h' := h) 9 rfl E hG
    obtain ⟨m14, d15, o16, hm18, E17, F17⟩ := E_call (ar := ([.ref 20, .ref (gr h 21 j.toNatClampNeg), .ref (gr h 21 g.toNatClampNeg)], [])) rfl rfl rfl rfl rfl rfl E
    replace E17 : rk_ex m14 d15 rm_X5_goesAheadOf 0 [(0, .ref 20), (1, .ref (gr h 21 j.toNatClampNeg)), (2, .ref (gr h 21 g.toNatClampNeg))] [] h = some o16 := E17
    obtain ⟨m19, hm20, E17, hG⟩ := E_go (pc' := 4) (lv' := [(0, .ref 20), (1, .ref (gr h 21 j.toNatClampNeg)), (2, .ref (gr h 21 g.toNatClampNeg))]) (st' := [.int (gi h 20 3)]) (h' := h) 2 rfl E17 hG
    rcases E_if1 (tg := 24) rfl rfl E17 with ⟨hc, m21, hm22, E17⟩ | ⟨hc, m23, hm24, E17⟩
    ·
      have c25 : ¬ (gi h 20 3).toInt = 0 := hc
      clear hc
      obtain ⟨m26, hm27, E17, hG⟩ := E_go (pc' := 29) (lv' := [(0, .ref 20), (1, .ref (gr h 21 j.toNatClampNeg)), (2, .ref (gr h 21 g.toNatClampNeg))]) (st' := [.int (2 : Int32), .int (gi h 20 3)]) (h' := h) 3 rfl E17 hG
      rcases E_if2 (tg := 47) rfl rfl E17 with ⟨hc, m28, hm29, E17⟩ | ⟨hc, m30, hm31, E17⟩
      ·
        have c32 : ¬ (gi h 20 3).toInt = 2 := hc
        clear hc
        obtain ⟨m33, hm34, E17, hG⟩ := E_go (pc' := 48) (lv' := [(0, .ref 20), (1, .ref (gr h 21 j.toNatClampNeg)), (2, .ref (gr h 21 g.toNatClampNeg))]) (st' := [.int (0 : Int32)]) (h' := h) 1 rfl E17 hG
        have ho35 := E_reti rfl E17
        subst ho35
        have E : rk_ex m14 d rm_X5_nextToGo 28 [(0, .ref 20), (1, .int g), (2, .int j)] [.int (0 : Int32)] h = some o := F17
        rcases E_if1 (tg := 33) rfl rfl E with ⟨hc, m36, hm37, E⟩ | ⟨hc, m38, hm39, E⟩
        ·
          clear hc
          obtain ⟨m40, hm41, E, hG⟩ := E_go (pc' := 4) (lv' := [(2, .int (j + (1 : Int32))), (0, .ref 20), (1, .int g)]) (st' := []) (h' := h) 2 rfl E hG
          replace E := E_lv [(0, .ref 20), (1, .int g), (2, .int (j + (1 : Int32)))] rfl (lvs_c rfl rfl (lvs_c rfl rfl (lvs_c rfl rfl lvs_n))) E
          exact Or.inr (Or.inl ⟨c11, c25, c32, _, (by omega), hG, E⟩)
        · exact absurd (show ¬ ((0 : Int) = 0) from hc) (by decide)
      ·
        have c43 : (gi h 20 3).toInt = 2 := Decidable.not_not.mp hc
        clear hc
        obtain ⟨m44, hm45, E17, hG⟩ := E_go (pc' := 40) (lv' := [(0, .ref 20), (1, .ref (gr h 21 j.toNatClampNeg)), (2, .ref (gr h 21 g.toNatClampNeg))]) (st' := [.int (gi h (gr h 21 g.toNatClampNeg) 7), .int (gi h (gr h 21 j.toNatClampNeg) 7)]) (h' := h) 4 rfl E17 hG
        rcases E_if2 (tg := 47) rfl rfl E17 with ⟨hc, m46, hm47, E17⟩ | ⟨hc, m48, hm49, E17⟩
        ·
          have c50 : (gi h (gr h 21 g.toNatClampNeg) 7).toInt ≤ (gi h (gr h 21 j.toNatClampNeg) 7).toInt := hc
          clear hc
          obtain ⟨m51, hm52, E17, hG⟩ := E_go (pc' := 48) (lv' := [(0, .ref 20), (1, .ref (gr h 21 j.toNatClampNeg)), (2, .ref (gr h 21 g.toNatClampNeg))]) (st' := [.int (0 : Int32)]) (h' := h) 1 rfl E17 hG
          have ho53 := E_reti rfl E17
          subst ho53
          have E : rk_ex m14 d rm_X5_nextToGo 28 [(0, .ref 20), (1, .int g), (2, .int j)] [.int (0 : Int32)] h = some o := F17
          rcases E_if1 (tg := 33) rfl rfl E with ⟨hc, m54, hm55, E⟩ | ⟨hc, m56, hm57, E⟩
          ·
            clear hc
            obtain ⟨m58, hm59, E, hG⟩ := E_go (pc' := 4) (lv' := [(2, .int (j + (1 : Int32))), (0, .ref 20), (1, .int g)]) (st' := []) (h' := h) 2 rfl E hG
            replace E := E_lv [(0, .ref 20), (1, .int g), (2, .int (j + (1 : Int32)))] rfl (lvs_c rfl rfl (lvs_c rfl rfl (lvs_c rfl rfl lvs_n))) E
            exact Or.inr (Or.inr (Or.inl ⟨c11, c25, c43, c50, _, (by omega), hG, E⟩))
          · exact absurd (show ¬ ((0 : Int) = 0) from hc) (by decide)
        ·
          have c61 : ¬ ((gi h (gr h 21 g.toNatClampNeg) 7).toInt ≤ (gi h (gr h 21 j.toNatClampNeg) 7).toInt) := hc
          clear hc
          obtain ⟨m62, hm63, E17, hG⟩ := E_go (pc' := 48) (lv' := [(0, .ref 20), (1, .ref (gr h 21 j.toNatClampNeg)), (2, .ref (gr h 21 g.toNatClampNeg))]) (st' := [.int (1 : Int32)]) (h' := h) 2 rfl E17 hG
          have ho64 := E_reti rfl E17
          subst ho64
          have E : rk_ex m14 d rm_X5_nextToGo 28 [(0, .ref 20), (1, .int g), (2, .int j)] [.int (1 : Int32)] h = some o := F17
          rcases E_if1 (tg := 33) rfl rfl E with ⟨hc, m65, hm66, E⟩ | ⟨hc, m67, hm68, E⟩
          · exact absurd (show (1 : Int) = 0 from hc) (by decide)
          ·
            clear hc
            obtain ⟨m69, hm70, E, hG⟩ := E_go (pc' := 4) (lv' := [(2, .int (j + (1 : Int32))), (1, .int j), (0, .ref 20)]) (st' := []) (h' := h) 4 rfl E hG
            replace E := E_lv [(0, .ref 20), (1, .int j), (2, .int (j + (1 : Int32)))] rfl (lvs_c rfl rfl (lvs_c rfl rfl (lvs_c rfl rfl lvs_n))) E
            exact Or.inr (Or.inr (Or.inr (Or.inl ⟨c11, c25, c43, c61, _, (by omega), hG, E⟩)))
    ·
      have c72 : (gi h 20 3).toInt = 0 := Decidable.not_not.mp hc
      clear hc
      obtain ⟨m73, hm74, E17, hG⟩ := E_go (pc' := 15) (lv' := [(0, .ref 20), (1, .ref (gr h 21 j.toNatClampNeg)), (2, .ref (gr h 21 g.toNatClampNeg))]) (st' := [.int (gi h (gr h 21 g.toNatClampNeg) 10), .int (gi h (gr h 21 j.toNatClampNeg) 10)]) (h' := h) 4 rfl E17 hG
      rcases E_if2 (tg := 22) rfl rfl E17 with ⟨hc, m75, hm76, E17⟩ | ⟨hc, m77, hm78, E17⟩
      ·
        have c79 : (gi h (gr h 21 g.toNatClampNeg) 10).toInt ≤ (gi h (gr h 21 j.toNatClampNeg) 10).toInt := hc
        clear hc
        obtain ⟨m80, hm81, E17, hG⟩ := E_go (pc' := 23) (lv' := [(0, .ref 20), (1, .ref (gr h 21 j.toNatClampNeg)), (2, .ref (gr h 21 g.toNatClampNeg))]) (st' := [.int (0 : Int32)]) (h' := h) 1 rfl E17 hG
        have ho82 := E_reti rfl E17
        subst ho82
        have E : rk_ex m14 d rm_X5_nextToGo 28 [(0, .ref 20), (1, .int g), (2, .int j)] [.int (0 : Int32)] h = some o := F17
        rcases E_if1 (tg := 33) rfl rfl E with ⟨hc, m83, hm84, E⟩ | ⟨hc, m85, hm86, E⟩
        ·
          clear hc
          obtain ⟨m87, hm88, E, hG⟩ := E_go (pc' := 4) (lv' := [(2, .int (j + (1 : Int32))), (0, .ref 20), (1, .int g)]) (st' := []) (h' := h) 2 rfl E hG
          replace E := E_lv [(0, .ref 20), (1, .int g), (2, .int (j + (1 : Int32)))] rfl (lvs_c rfl rfl (lvs_c rfl rfl (lvs_c rfl rfl lvs_n))) E
          exact Or.inr (Or.inr (Or.inr (Or.inr (Or.inl ⟨c11, c72, c79, _, (by omega), hG, E⟩))))
        · exact absurd (show ¬ ((0 : Int) = 0) from hc) (by decide)
      ·
        have c90 : ¬ ((gi h (gr h 21 g.toNatClampNeg) 10).toInt ≤ (gi h (gr h 21 j.toNatClampNeg) 10).toInt) := hc
        clear hc
        obtain ⟨m91, hm92, E17, hG⟩ := E_go (pc' := 23) (lv' := [(0, .ref 20), (1, .ref (gr h 21 j.toNatClampNeg)), (2, .ref (gr h 21 g.toNatClampNeg))]) (st' := [.int (1 : Int32)]) (h' := h) 2 rfl E17 hG
        have ho93 := E_reti rfl E17
        subst ho93
        have E : rk_ex m14 d rm_X5_nextToGo 28 [(0, .ref 20), (1, .int g), (2, .int j)] [.int (1 : Int32)] h = some o := F17
        rcases E_if1 (tg := 33) rfl rfl E with ⟨hc, m94, hm95, E⟩ | ⟨hc, m96, hm97, E⟩
        · exact absurd (show (1 : Int) = 0 from hc) (by decide)
        ·
          clear hc
          obtain ⟨m98, hm99, E, hG⟩ := E_go (pc' := 4) (lv' := [(2, .int (j + (1 : Int32))), (1, .int j), (0, .ref 20)]) (st' := []) (h' := h) 4 rfl E hG
          replace E := E_lv [(0, .ref 20), (1, .int j), (2, .int (j + (1 : Int32)))] rfl (lvs_c rfl rfl (lvs_c rfl rfl (lvs_c rfl rfl lvs_n))) E
          exact Or.inr (Or.inr (Or.inr (Or.inr (Or.inr ⟨c11, c72, c90, _, (by omega), hG, E⟩))))
set_option maxRecDepth 100000 in
set_option maxHeartbeats 4000000 in
theorem ys_ng0 {n d : Nat} {h : rk_S} {o : Option Value × rk_S} (hG : yG h) (E : rk_ex n d rm_X5_nextToGo 0 [(0, .ref 20)] [] h = some o) :
    (∃ m, m < n ∧ yG h ∧ rk_ex m d rm_X5_nextToGo 4 [(0, .ref 20), (1, .int (0 : Int32)), (2, .int (1 : Int32))] [] h = some o) := by
  obtain ⟨m1, hm2, E, hG⟩ := E_go (pc' := 4) (lv' := [(2, .int (1 : Int32)), (1, .int (0 : Int32)), (0, .ref 20)]) (st' := []) (h' := h) 4 rfl E hG
  replace E := E_lv [(0, .ref 20), (1, .int (0 : Int32)), (2, .int (1 : Int32))] rfl (lvs_c rfl rfl (lvs_c rfl rfl (lvs_c rfl rfl lvs_n))) E
  exact ⟨_, (by omega), hG, E⟩
set_option maxRecDepth 100000 in
set_option maxHeartbeats 4000000 in
theorem ys_dr {n d : Nat} {h : rk_S} {o : Option Value × rk_S} {z : Nat} {p j : Int32} (hG : yG h) (e201 : yE 20 1 h) (E : rk_ex n d rm_X5_drop 18 [(0, .ref 20), (1, .int p), (2, .ref z), (3, .int j)] [] h = some o) :
    (((gi h 20 1) - (1 : Int32)).toInt ≤ j.toInt ∧ yG (rk_pt (rk_pt h 20 1 (.int ((gi h 20 1) - (1 : Int32)))) 21 (((gi h 20 1) - (1 : Int32)).toNatClampNeg) (.ref z)) ∧ o = (none, rk_pt (rk_pt h 20 1 (.int ((gi h 20 1) - (1 : Int32)))) 21 (((gi h 20 1) - (1 : Int32)).toNatClampNeg) (.ref z))) ∨
    (¬ (((gi h 20 1) - (1 : Int32)).toInt ≤ j.toInt) ∧ ∃ m, m < n ∧ yG (rk_pt h 21 j.toNatClampNeg (.ref (gr h 21 ((j + (1 : Int32)).toNatClampNeg)))) ∧ rk_ex m d rm_X5_drop 18 [(0, .ref 20), (1, .int p), (2, .ref z), (3, .int (j + (1 : Int32)))] [] (rk_pt h 21 j.toNatClampNeg (.ref (gr h 21 ((j + (1 : Int32)).toNatClampNeg)))) = some o) := by
  obtain ⟨m1, hm2, E, hG⟩ := E_go (pc' := 25) (lv' := [(0, .ref 20), (1, .int p), (2, .ref z), (3, .int j)]) (st' := [.int ((gi h 20 1) - (1 : Int32)), .int j]) (h' := h) 5 rfl E hG
  rcases E_if2 (tg := 48) rfl rfl E with ⟨hc, m3, hm4, E⟩ | ⟨hc, m5, hm6, E⟩
  ·
    have c7 : ((gi h 20 1) - (1 : Int32)).toInt ≤ j.toInt := hc
    clear hc
    obtain ⟨m8, hm9, E, hG⟩ := E_go (pc' := 68) (lv' := [(0, .ref 20), (1, .int p), (2, .ref z), (3, .int j)]) (st' := []) (h' := rk_pt (rk_pt h 20 1 (.int ((gi h 20 1) - (1 : Int32)))) 21 ((gi (rk_pt h 20 1 (.int ((gi h 20 1) - (1 : Int32)))) 20 1).toNatClampNeg) (.ref z)) 12 rfl E hG
    try simp only [gi_s, yE_pt, e201] at E hG
    have ho10 := E_retv rfl E
    exact Or.inl ⟨c7, hG, ho10⟩
  ·
    have c11 : ¬ (((gi h 20 1) - (1 : Int32)).toInt ≤ j.toInt) := hc
    clear hc
    obtain ⟨m12, hm13, E, hG⟩ := E_go (pc' := 18) (lv' := [(3, .int (j + (1 : Int32))), (0, .ref 20), (1, .int p), (2, .ref z)]) (st' := []) (h' := rk_pt h 21 j.toNatClampNeg (.ref (gr h 21 ((j + (1 : Int32)).toNatClampNeg)))) 12 rfl E hG
    replace E := E_lv [(0, .ref 20), (1, .int p), (2, .ref z), (3, .int (j + (1 : Int32)))] rfl (lvs_c rfl rfl (lvs_c rfl rfl (lvs_c rfl rfl (lvs_c rfl rfl lvs_n)))) E
    exact Or.inr ⟨c11, _, (by omega), hG, E⟩
set_option maxRecDepth 100000 in
set_option maxHeartbeats 4000000 in
theorem ys_dr0 {n d : Nat} {h : rk_S} {o : Option Value × rk_S} {p : Int32} (hG : yG h) (E : rk_ex n d rm_X5_drop 0 [(0, .ref 20), (1, .int p)] [] h = some o) :
    (p.toInt < 0 ∧ yG h ∧ o = (none, h)) ∨
    (¬ (p.toInt < 0) ∧ (gi h 20 1).toInt ≤ p.toInt ∧ yG h ∧ o = (none, h)) ∨
    (¬ (p.toInt < 0) ∧ ¬ ((gi h 20 1).toInt ≤ p.toInt) ∧ ∃ m, m < n ∧ yG h ∧ rk_ex m d rm_X5_drop 18 [(0, .ref 20), (1, .int p), (2, .ref (gr h 21 p.toNatClampNeg)), (3, .int p)] [] h = some o) := by
  obtain ⟨m1, hm2, E, hG⟩ := E_go (pc' := 2) (lv' := [(0, .ref 20), (1, .int p)]) (st' := [.int p, .ref 20]) (h' := h) 2 rfl E hG
  obtain ⟨m3, d4, o5, hm7, E6, F6⟩ := E_call (ar := ([.ref 20, .int p], [])) rfl rfl rfl rfl rfl rfl E
  replace E6 : rk_ex m3 d4 rm_X5_has 0 [(0, .ref 20), (1, .int p)] [] h = some o5 := E6
  obtain ⟨m8, hm9, E6, hG⟩ := E_go (pc' := 1) (lv' := [(0, .ref 20), (1, .int p)]) (st' := [.int p]) (h' := h) 1 rfl E6 hG
  rcases E_if1 (tg := 16) rfl rfl E6 with ⟨hc, m10, hm11, E6⟩ | ⟨hc, m12, hm13, E6⟩
  ·
    have c14 : p.toInt < 0 := hc
    clear hc
    obtain ⟨m15, hm16, E6, hG⟩ := E_go (pc' := 17) (lv' := [(0, .ref 20), (1, .int p)]) (st' := [.int (0 : Int32)]) (h' := h) 1 rfl E6 hG
    have ho17 := E_reti rfl E6
    subst ho17
    have E : rk_ex m3 d rm_X5_drop 5 [(0, .ref 20), (1, .int p)] [.int (0 : Int32)] h = some o := F6
    rcases E_if1 (tg := 9) rfl rfl E with ⟨hc, m18, hm19, E⟩ | ⟨hc, m20, hm21, E⟩
    · exact absurd (show ¬ (0 : Int) = 0 from hc) (by decide)
    ·
      clear hc
      have ho22 := E_retv rfl E
      exact Or.inl ⟨c14, hG, ho22⟩
  ·
    have c23 : ¬ (p.toInt < 0) := hc
    clear hc
    obtain ⟨m24, hm25, E6, hG⟩ := E_go (pc' := 9) (lv' := [(0, .ref 20), (1, .int p)]) (st' := [.int (gi h 20 1), .int p]) (h' := h) 3 rfl E6 hG
    rcases E_if2 (tg := 16) rfl rfl E6 with ⟨hc, m26, hm27, E6⟩ | ⟨hc, m28, hm29, E6⟩
    ·
      have c30 : (gi h 20 1).toInt ≤ p.toInt := hc
      clear hc
      obtain ⟨m31, hm32, E6, hG⟩ := E_go (pc' := 17) (lv' := [(0, .ref 20), (1, .int p)]) (st' := [.int (0 : Int32)]) (h' := h) 1 rfl E6 hG
      have ho33 := E_reti rfl E6
      subst ho33
      have E : rk_ex m3 d rm_X5_drop 5 [(0, .ref 20), (1, .int p)] [.int (0 : Int32)] h = some o := F6
      rcases E_if1 (tg := 9) rfl rfl E with ⟨hc, m34, hm35, E⟩ | ⟨hc, m36, hm37, E⟩
      · exact absurd (show ¬ (0 : Int) = 0 from hc) (by decide)
      ·
        clear hc
        have ho38 := E_retv rfl E
        exact Or.inr (Or.inl ⟨c23, c30, hG, ho38⟩)
    ·
      have c39 : ¬ ((gi h 20 1).toInt ≤ p.toInt) := hc
      clear hc
      obtain ⟨m40, hm41, E6, hG⟩ := E_go (pc' := 17) (lv' := [(0, .ref 20), (1, .int p)]) (st' := [.int (1 : Int32)]) (h' := h) 2 rfl E6 hG
      have ho42 := E_reti rfl E6
      subst ho42
      have E : rk_ex m3 d rm_X5_drop 5 [(0, .ref 20), (1, .int p)] [.int (1 : Int32)] h = some o := F6
      rcases E_if1 (tg := 9) rfl rfl E with ⟨hc, m43, hm44, E⟩ | ⟨hc, m45, hm46, E⟩
      ·
        clear hc
        obtain ⟨m47, hm48, E, hG⟩ := E_go (pc' := 18) (lv' := [(3, .int p), (2, .ref (gr h 21 p.toNatClampNeg)), (0, .ref 20), (1, .int p)]) (st' := []) (h' := h) 7 rfl E hG
        replace E := E_lv [(0, .ref 20), (1, .int p), (2, .ref (gr h 21 p.toNatClampNeg)), (3, .int p)] rfl (lvs_c rfl rfl (lvs_c rfl rfl (lvs_c rfl rfl (lvs_c rfl rfl lvs_n)))) E
        exact Or.inr (Or.inr ⟨c23, c39, _, (by omega), hG, E⟩)
      · exact absurd (show ¬ (¬ (1 : Int) = 0) from hc) (by decide)
set_option maxRecDepth 100000 in
set_option maxHeartbeats 4000000 in
theorem ys_do {n d : Nat} {h : rk_S} {o : Option Value × rk_S} {r j : Int32} (hG : yG h) (E : rk_ex n d rm_X5_dropOf 7 [(0, .ref 20), (1, .int r), (2, .int j)] [] h = some o) :
    (j.toInt < 0 ∧ yG h ∧ o = (none, h)) ∨
    (¬ (j.toInt < 0) ∧ ¬ (gi h (gr h 21 j.toNatClampNeg) 2).toInt = r.toInt ∧ ∃ m, m < n ∧ yG h ∧ rk_ex m d rm_X5_dropOf 7 [(0, .ref 20), (1, .int r), (2, .int (j + ((-1) : Int32)))] [] h = some o) ∨
    (¬ (j.toInt < 0) ∧ (gi h (gr h 21 j.toNatClampNeg) 2).toInt = r.toInt ∧ ∃ m, m < n + 1 ∧ yG h ∧ rk_ex m d rm_X5_dropOf 26 [(0, .ref 20), (1, .int r), (2, .int j)] [.int j, .ref 20] h = some o) := by
  obtain ⟨m1, hm2, E, hG⟩ := E_go (pc' := 8) (lv' := [(0, .ref 20), (1, .int r), (2, .int j)]) (st' := [.int j]) (h' := h) 1 rfl E hG
  rcases E_if1 (tg := 35) rfl rfl E with ⟨hc, m3, hm4, E⟩ | ⟨hc, m5, hm6, E⟩
  ·
    have c7 : j.toInt < 0 := hc
    clear hc
    have ho8 := E_retv rfl E
    exact Or.inl ⟨c7, hG, ho8⟩
  ·
    have c9 : ¬ (j.toInt < 0) := hc
    clear hc
    obtain ⟨m10, hm11, E, hG⟩ := E_go (pc' := 21) (lv' := [(0, .ref 20), (1, .int r), (2, .int j)]) (st' := [.int r, .int (gi h (gr h 21 j.toNatClampNeg) 2)]) (h' := h) 6 rfl E hG
    rcases E_if2 (tg := 29) rfl rfl E with ⟨hc, m12, hm13, E⟩ | ⟨hc, m14, hm15, E⟩
    ·
      have c16 : ¬ (gi h (gr h 21 j.toNatClampNeg) 2).toInt = r.toInt := hc
      clear hc
      obtain ⟨m17, hm18, E, hG⟩ := E_go (pc' := 7) (lv' := [(2, .int (j + ((-1) : Int32))), (0, .ref 20), (1, .int r)]) (st' := []) (h' := h) 2 rfl E hG
      replace E := E_lv [(0, .ref 20), (1, .int r), (2, .int (j + ((-1) : Int32)))] rfl (lvs_c rfl rfl (lvs_c rfl rfl (lvs_c rfl rfl lvs_n))) E
      exact Or.inr (Or.inl ⟨c9, c16, _, (by omega), hG, E⟩)
    ·
      have c20 : (gi h (gr h 21 j.toNatClampNeg) 2).toInt = r.toInt := Decidable.not_not.mp hc
      clear hc
      obtain ⟨m21, hm22, E, hG⟩ := E_go (pc' := 26) (lv' := [(0, .ref 20), (1, .int r), (2, .int j)]) (st' := [.int j, .ref 20]) (h' := h) 2 rfl E hG
      exact Or.inr (Or.inr ⟨c9, c20, _, (by omega), hG, E⟩)
set_option maxRecDepth 100000 in
set_option maxHeartbeats 4000000 in
theorem ys_do0 {n d : Nat} {h : rk_S} {o : Option Value × rk_S} {r : Int32} (hG : yG h) (E : rk_ex n d rm_X5_dropOf 0 [(0, .ref 20), (1, .int r)] [] h = some o) :
    (∃ m, m < n ∧ yG h ∧ rk_ex m d rm_X5_dropOf 7 [(0, .ref 20), (1, .int r), (2, .int ((gi h 20 1) - (1 : Int32)))] [] h = some o) := by
  obtain ⟨m1, hm2, E, hG⟩ := E_go (pc' := 7) (lv' := [(2, .int ((gi h 20 1) - (1 : Int32))), (0, .ref 20), (1, .int r)]) (st' := []) (h' := h) 5 rfl E hG
  replace E := E_lv [(0, .ref 20), (1, .int r), (2, .int ((gi h 20 1) - (1 : Int32)))] rfl (lvs_c rfl rfl (lvs_c rfl rfl (lvs_c rfl rfl lvs_n))) E
  exact ⟨_, (by omega), hG, E⟩
set_option maxRecDepth 100000 in
set_option maxHeartbeats 4000000 in
theorem ys_do1 {n d : Nat} {h : rk_S} {o : Option Value × rk_S} {r j : Int32} (hG : yG h) (E : rk_ex n d rm_X5_dropOf 29 [(0, .ref 20), (1, .int r), (2, .int j)] [] h = some o) :
    (∃ m, m < n ∧ yG h ∧ rk_ex m d rm_X5_dropOf 7 [(0, .ref 20), (1, .int r), (2, .int (j + ((-1) : Int32)))] [] h = some o) := by
  obtain ⟨m1, hm2, E, hG⟩ := E_go (pc' := 7) (lv' := [(2, .int (j + ((-1) : Int32))), (0, .ref 20), (1, .int r)]) (st' := []) (h' := h) 2 rfl E hG
  replace E := E_lv [(0, .ref 20), (1, .int r), (2, .int (j + ((-1) : Int32)))] rfl (lvs_c rfl rfl (lvs_c rfl rfl (lvs_c rfl rfl lvs_n))) E
  exact ⟨_, (by omega), hG, E⟩
set_option maxRecDepth 100000 in
set_option maxHeartbeats 4000000 in
theorem ys_fu {n d : Nat} {h : rk_S} {o : Option Value × rk_S} {a b w j : Int32} (hG : yG h) (E : rk_ex n d rm_X5_furnish 14 [(0, .ref 20), (1, .int a), (2, .int b), (3, .int w), (4, .int j)] [] h = some o) :
    (w.toInt ≤ j.toInt ∧ yG (rk_pt (rk_pt h 20 2 (.int a)) 20 3 (.int b)) ∧ o = (some (.int w), rk_pt (rk_pt h 20 2 (.int a)) 20 3 (.int b))) ∨
    (¬ (w.toInt ≤ j.toInt) ∧ ∃ m, m < n + 1 ∧ yG h ∧ rk_ex m d rm_X5_furnish 22 [(0, .ref 20), (1, .int a), (2, .int b), (3, .int w), (4, .int j)] [.int (0 : Int32), .ref 20] h = some o) := by
  obtain ⟨m1, hm2, E, hG⟩ := E_go (pc' := 17) (lv' := [(0, .ref 20), (1, .int a), (2, .int b), (3, .int w), (4, .int j)]) (st' := [.int w, .int j]) (h' := h) 2 rfl E hG
  rcases E_if2 (tg := 31) rfl rfl E with ⟨hc, m3, hm4, E⟩ | ⟨hc, m5, hm6, E⟩
  ·
    have c7 : w.toInt ≤ j.toInt := hc
    clear hc
    obtain ⟨m8, hm9, E, hG⟩ := E_go (pc' := 42) (lv' := [(0, .ref 20), (1, .int a), (2, .int b), (3, .int w), (4, .int j)]) (st' := [.int w]) (h' := rk_pt (rk_pt h 20 2 (.int a)) 20 3 (.int b)) 7 rfl E hG
    have ho10 := E_reti rfl E
    exact Or.inl ⟨c7, hG, ho10⟩
  ·
    have c11 : ¬ (w.toInt ≤ j.toInt) := hc
    clear hc
    obtain ⟨m12, hm13, E, hG⟩ := E_go (pc' := 22) (lv' := [(0, .ref 20), (1, .int a), (2, .int b), (3, .int w), (4, .int j)]) (st' := [.int (0 : Int32), .ref 20]) (h' := h) 2 rfl E hG
    exact Or.inr ⟨c11, _, (by omega), hG, E⟩
set_option maxRecDepth 100000 in
set_option maxHeartbeats 4000000 in
theorem ys_fu0 {n d : Nat} {h : rk_S} {o : Option Value × rk_S} {a b : Int32} (hG : yG h) (E : rk_ex n d rm_X5_furnish 0 [(0, .ref 20), (1, .int a), (2, .int b)] [] h = some o) :
    (∃ m, m < n ∧ yG h ∧ rk_ex m d rm_X5_furnish 14 [(0, .ref 20), (1, .int a), (2, .int b), (3, .int (if (0 : Int32) < ((gi h 20 1) - a) then ((gi h 20 1) - a) else (0 : Int32))), (4, .int (0 : Int32))] [] h = some o) := by
  obtain ⟨m1, hm2, E, hG⟩ := E_go (pc' := 7) (lv' := [(0, .ref 20), (1, .int a), (2, .int b)]) (st' := [.int ((gi h 20 1) - a), .int (0 : Int32)]) (h' := h) 5 rfl E hG
  obtain ⟨m3, hm4, E⟩ := E_max rfl rfl rfl E
  obtain ⟨m5, hm6, E, hG⟩ := E_go (pc' := 14) (lv' := [(4, .int (0 : Int32)), (3, .int (if (0 : Int32) < ((gi h 20 1) - a) then ((gi h 20 1) - a) else (0 : Int32))), (0, .ref 20), (1, .int a), (2, .int b)]) (st' := []) (h' := h) 3 rfl E hG
  replace E := E_lv [(0, .ref 20), (1, .int a), (2, .int b), (3, .int (if (0 : Int32) < ((gi h 20 1) - a) then ((gi h 20 1) - a) else (0 : Int32))), (4, .int (0 : Int32))] rfl (lvs_c rfl rfl (lvs_c rfl rfl (lvs_c rfl rfl (lvs_c rfl rfl (lvs_c rfl rfl lvs_n))))) E
  exact ⟨_, (by omega), hG, E⟩
set_option maxRecDepth 100000 in
set_option maxHeartbeats 4000000 in
theorem ys_fu1 {n d : Nat} {h : rk_S} {o : Option Value × rk_S} {a b w j : Int32} (hG : yG h) (E : rk_ex n d rm_X5_furnish 25 [(0, .ref 20), (1, .int a), (2, .int b), (3, .int w), (4, .int j)] [] h = some o) :
    (∃ m, m < n ∧ yG h ∧ rk_ex m d rm_X5_furnish 14 [(0, .ref 20), (1, .int a), (2, .int b), (3, .int w), (4, .int (j + (1 : Int32)))] [] h = some o) := by
  obtain ⟨m1, hm2, E, hG⟩ := E_go (pc' := 14) (lv' := [(4, .int (j + (1 : Int32))), (0, .ref 20), (1, .int a), (2, .int b), (3, .int w)]) (st' := []) (h' := h) 2 rfl E hG
  replace E := E_lv [(0, .ref 20), (1, .int a), (2, .int b), (3, .int w), (4, .int (j + (1 : Int32)))] rfl (lvs_c rfl rfl (lvs_c rfl rfl (lvs_c rfl rfl (lvs_c rfl rfl (lvs_c rfl rfl lvs_n))))) E
  exact ⟨_, (by omega), hG, E⟩
set_option maxRecDepth 100000 in
set_option maxHeartbeats 4000000 in
theorem ys_fl0 {n d : Nat} {h : rk_S} {o : Option Value × rk_S} {f k : Nat} {r x s : Int32} (hG : yG h) (hf : 120 ≤ f) (hf2 : f ≤ 153) (hk : 22 ≤ k) (hk2 : k ≤ 115) (E : rk_ex n d rm_X1_fill 0 [(0, .ref k), (1, .int r), (2, .ref f), (3, .ref 18), (4, .int x), (5, .int s)] [] h = some o) :
    (∃ m, m < n ∧ yG (rk_pt (rk_pt (rk_pt (rk_pt (rk_pt (rk_pt (rk_pt (rk_pt h k 2 (.int r)) k 3 (.int (gi h f 3))) k 4 (.int (gi h f 4))) k 5 (.int (gi h f 6))) k 6 (.int x)) k 7 (.int s)) k 8 (.int (gi h f 5))) k 9 (.int (0 : Int32))) ∧ rk_ex m d rm_X1_fill 57 [(0, .ref k), (1, .int r), (2, .ref f), (3, .ref 18), (4, .int x), (5, .int s), (6, .int (0 : Int32))] [] (rk_pt (rk_pt (rk_pt (rk_pt (rk_pt (rk_pt (rk_pt (rk_pt h k 2 (.int r)) k 3 (.int (gi h f 3))) k 4 (.int (gi h f 4))) k 5 (.int (gi h f 6))) k 6 (.int x)) k 7 (.int s)) k 8 (.int (gi h f 5))) k 9 (.int (0 : Int32))) = some o) := by
  obtain ⟨m1, hm2, E, hG⟩ := E_go (pc' := 57) (lv' := [(6, .int (0 : Int32)), (0, .ref k), (1, .int r), (2, .ref f), (3, .ref 18), (4, .int x), (5, .int s)]) (st' := []) (h' := rk_pt (rk_pt (rk_pt (rk_pt (rk_pt (rk_pt (rk_pt (rk_pt h k 2 (.int r)) k 3 (.int (gi (rk_pt h k 2 (.int r)) f 3))) k 4 (.int (gi (rk_pt (rk_pt h k 2 (.int r)) k 3 (.int (gi (rk_pt h k 2 (.int r)) f 3))) f 4))) k 5 (.int (gi (rk_pt (rk_pt (rk_pt h k 2 (.int r)) k 3 (.int (gi (rk_pt h k 2 (.int r)) f 3))) k 4 (.int (gi (rk_pt (rk_pt h k 2 (.int r)) k 3 (.int (gi (rk_pt h k 2 (.int r)) f 3))) f 4))) f 6))) k 6 (.int x)) k 7 (.int s)) k 8 (.int (gi (rk_pt (rk_pt (rk_pt (rk_pt (rk_pt (rk_pt h k 2 (.int r)) k 3 (.int (gi (rk_pt h k 2 (.int r)) f 3))) k 4 (.int (gi (rk_pt (rk_pt h k 2 (.int r)) k 3 (.int (gi (rk_pt h k 2 (.int r)) f 3))) f 4))) k 5 (.int (gi (rk_pt (rk_pt (rk_pt h k 2 (.int r)) k 3 (.int (gi (rk_pt h k 2 (.int r)) f 3))) k 4 (.int (gi (rk_pt (rk_pt h k 2 (.int r)) k 3 (.int (gi (rk_pt h k 2 (.int r)) f 3))) f 4))) f 6))) k 6 (.int x)) k 7 (.int s)) f 5))) k 9 (.int (0 : Int32))) 30 rfl E hG
  try simp only [gi_x (a := k) (a' := f) (by omega)] at E hG
  replace E := E_lv [(0, .ref k), (1, .int r), (2, .ref f), (3, .ref 18), (4, .int x), (5, .int s), (6, .int (0 : Int32))] rfl (lvs_c rfl rfl (lvs_c rfl rfl (lvs_c rfl rfl (lvs_c rfl rfl (lvs_c rfl rfl (lvs_c rfl rfl (lvs_c rfl rfl lvs_n))))))) E
  exact ⟨_, (by omega), hG, E⟩
set_option maxRecDepth 100000 in
set_option maxHeartbeats 4000000 in
theorem ys_fl1 {n d : Nat} {h : rk_S} {o : Option Value × rk_S} {f k : Nat} {r x s j : Int32} (hG : yG h) (hf : 120 ≤ f) (hf2 : f ≤ 153) (hk : 22 ≤ k) (hk2 : k ≤ 115) (q1 : ¬ (j.toInt < 0)) (E : rk_ex n d rm_X1_fill 57 [(0, .ref k), (1, .int r), (2, .ref f), (3, .ref 18), (4, .int x), (5, .int s), (6, .int j)] [] h = some o) :
    (3 ≤ j.toInt ∧ ∃ m, m < n ∧ yG h ∧ rk_ex m d rm_X1_fill 101 [(0, .ref k), (1, .int r), (2, .ref f), (3, .ref 18), (4, .int x), (5, .int s), (6, .int (0 : Int32))] [] h = some o) ∨
    (¬ (3 ≤ j.toInt) ∧ (((gi h k 3) >>> (j &&& 31)) &&& (1 : Int32)).toInt = 0 ∧ ∃ m, m < n ∧ yG (rk_pt h (k + 1) j.toNatClampNeg (.int (0 : Int32))) ∧ rk_ex m d rm_X1_fill 57 [(0, .ref k), (1, .int r), (2, .ref f), (3, .ref 18), (4, .int x), (5, .int s), (6, .int (j + (1 : Int32)))] [] (rk_pt h (k + 1) j.toNatClampNeg (.int (0 : Int32))) = some o) ∨
    (¬ (3 ≤ j.toInt) ∧ ¬ ((((gi h k 3) >>> (j &&& 31)) &&& (1 : Int32)).toInt = 0) ∧ ∃ m, m < n ∧ yG (rk_pt h (k + 1) j.toNatClampNeg (.int (gi h (f + 1) j.toNatClampNeg))) ∧ rk_ex m d rm_X1_fill 57 [(0, .ref k), (1, .int r), (2, .ref f), (3, .ref 18), (4, .int x), (5, .int s), (6, .int (j + (1 : Int32)))] [] (rk_pt h (k + 1) j.toNatClampNeg (.int (gi h (f + 1) j.toNatClampNeg))) = some o) := by
  obtain ⟨m1, hm2, E, hG⟩ := E_go (pc' := 60) (lv' := [(0, .ref k), (1, .int r), (2, .ref f), (3, .ref 18), (4, .int x), (5, .int s), (6, .int j)]) (st' := [.int (3 : Int32), .int j]) (h' := h) 2 rfl E hG
  rcases E_if2 (tg := 98) rfl rfl E with ⟨hc, m3, hm4, E⟩ | ⟨hc, m5, hm6, E⟩
  ·
    have c7 : 3 ≤ j.toInt := hc
    clear hc
    obtain ⟨m8, hm9, E, hG⟩ := E_go (pc' := 101) (lv' := [(6, .int (0 : Int32)), (0, .ref k), (1, .int r), (2, .ref f), (3, .ref 18), (4, .int x), (5, .int s)]) (st' := []) (h' := h) 2 rfl E hG
    replace E := E_lv [(0, .ref k), (1, .int r), (2, .ref f), (3, .ref 18), (4, .int x), (5, .int s), (6, .int (0 : Int32))] rfl (lvs_c rfl rfl (lvs_c rfl rfl (lvs_c rfl rfl (lvs_c rfl rfl (lvs_c rfl rfl (lvs_c rfl rfl (lvs_c rfl rfl lvs_n))))))) E
    exact Or.inl ⟨c7, _, (by omega), hG, E⟩
  ·
    have c11 : ¬ (3 ≤ j.toInt) := hc
    clear hc
    obtain ⟨m12, hm13, E, hG⟩ := E_go (pc' := 75) (lv' := [(0, .ref k), (1, .int r), (2, .ref f), (3, .ref 18), (4, .int x), (5, .int s), (6, .int j)]) (st' := [.int j, .int (gi h k 3), .int j, .ref (k + 1 + 0)]) (h' := h) 6 rfl E hG
    try simp only [Nat.add_assoc, Nat.reduceAdd] at E hG
    obtain ⟨m14, d15, o16, hm18, E17, F17⟩ := E_call (ar := ([.int (gi h k 3), .int j], [.int j, .ref (k + 1)])) rfl rfl rfl rfl rfl rfl E
    replace E17 : rk_ex m14 d15 rm_X7_isSet 0 [(0, .int (gi h k 3)), (1, .int j)] [] h = some o16 := E17
    obtain ⟨m19, hm20, E17, hG⟩ := E_go (pc' := 5) (lv' := [(0, .int (gi h k 3)), (1, .int j)]) (st' := [.int (((gi h k 3) >>> (j &&& 31)) &&& (1 : Int32))]) (h' := h) 5 rfl E17 hG
    rcases E_if1 (tg := 12) rfl rfl E17 with ⟨hc, m21, hm22, E17⟩ | ⟨hc, m23, hm24, E17⟩
    ·
      have c25 : (((gi h k 3) >>> (j &&& 31)) &&& (1 : Int32)).toInt = 0 := hc
      clear hc
      obtain ⟨m26, hm27, E17, hG⟩ := E_go (pc' := 13) (lv' := [(0, .int (gi h k 3)), (1, .int j)]) (st' := [.int (0 : Int32)]) (h' := h) 1 rfl E17 hG
      have ho28 := E_reti rfl E17
      subst ho28
      have E : rk_ex m14 d rm_X1_fill 78 [(0, .ref k), (1, .int r), (2, .ref f), (3, .ref 18), (4, .int x), (5, .int s), (6, .int j)] [.int (0 : Int32), .int j, .ref (k + 1)] h = some o := F17
      rcases E_if1 (tg := 90) rfl rfl E with ⟨hc, m29, hm30, E⟩ | ⟨hc, m31, hm32, E⟩
      ·
        clear hc
        obtain ⟨m33, hm34, E, hG⟩ := E_go (pc' := 57) (lv' := [(6, .int (j + (1 : Int32))), (0, .ref k), (1, .int r), (2, .ref f), (3, .ref 18), (4, .int x), (5, .int s)]) (st' := []) (h' := rk_pt h (k + 1) j.toNatClampNeg (.int (0 : Int32))) 4 rfl E hG
        replace E := E_lv [(0, .ref k), (1, .int r), (2, .ref f), (3, .ref 18), (4, .int x), (5, .int s), (6, .int (j + (1 : Int32)))] rfl (lvs_c rfl rfl (lvs_c rfl rfl (lvs_c rfl rfl (lvs_c rfl rfl (lvs_c rfl rfl (lvs_c rfl rfl (lvs_c rfl rfl lvs_n))))))) E
        exact Or.inr (Or.inl ⟨c11, c25, _, (by omega), hG, E⟩)
      · exact absurd (show ¬ ((0 : Int) = 0) from hc) (by decide)
    ·
      have c36 : ¬ ((((gi h k 3) >>> (j &&& 31)) &&& (1 : Int32)).toInt = 0) := hc
      clear hc
      obtain ⟨m37, hm38, E17, hG⟩ := E_go (pc' := 13) (lv' := [(0, .int (gi h k 3)), (1, .int j)]) (st' := [.int (1 : Int32)]) (h' := h) 2 rfl E17 hG
      have ho39 := E_reti rfl E17
      subst ho39
      have E : rk_ex m14 d rm_X1_fill 78 [(0, .ref k), (1, .int r), (2, .ref f), (3, .ref 18), (4, .int x), (5, .int s), (6, .int j)] [.int (1 : Int32), .int j, .ref (k + 1)] h = some o := F17
      rcases E_if1 (tg := 90) rfl rfl E with ⟨hc, m40, hm41, E⟩ | ⟨hc, m42, hm43, E⟩
      · exact absurd (show (1 : Int) = 0 from hc) (by decide)
      ·
        clear hc
        obtain ⟨m44, hm45, E, hG⟩ := E_go (pc' := 84) (lv' := [(0, .ref k), (1, .int r), (2, .ref f), (3, .ref 18), (4, .int x), (5, .int s), (6, .int j)]) (st' := [.int j, .ref f, .int j, .ref (k + 1)]) (h' := h) 2 rfl E hG
        obtain ⟨m46, d47, o48, hm50, E49, F49⟩ := E_call (ar := ([.ref f, .int j], [.int j, .ref (k + 1)])) rfl rfl rfl rfl rfl rfl E
        replace E49 : rk_ex m46 d47 rm_X0_numberOf 0 [(0, .ref f), (1, .int j)] [] h = some o48 := E49
        obtain ⟨m51, hm52, E49, hG⟩ := E_go (pc' := 1) (lv' := [(0, .ref f), (1, .int j)]) (st' := [.int j]) (h' := h) 1 rfl E49 hG
        rcases E_if1 (tg := 18) rfl rfl E49 with ⟨hc, m53, hm54, E49⟩ | ⟨hc, m55, hm56, E49⟩
        · exact absurd (show j.toInt < 0 from hc) (by omega)
        ·
          clear hc
          obtain ⟨m57, hm58, E49, hG⟩ := E_go (pc' := 6) (lv' := [(0, .ref f), (1, .int j)]) (st' := [.int (3 : Int32), .int j]) (h' := h) 2 rfl E49 hG
          rcases E_if2 (tg := 18) rfl rfl E49 with ⟨hc, m59, hm60, E49⟩ | ⟨hc, m61, hm62, E49⟩
          · exact absurd (show 3 ≤ j.toInt from hc) (by omega)
          ·
            clear hc
            obtain ⟨m63, hm64, E49, hG⟩ := E_go (pc' := 19) (lv' := [(0, .ref f), (1, .int j)]) (st' := [.int (gi h (f + 1 + 0) j.toNatClampNeg)]) (h' := h) 5 rfl E49 hG
            try simp only [Nat.add_assoc, Nat.reduceAdd] at E49 hG
            have ho65 := E_reti rfl E49
            subst ho65
            have E : rk_ex m46 d rm_X1_fill 87 [(0, .ref k), (1, .int r), (2, .ref f), (3, .ref 18), (4, .int x), (5, .int s), (6, .int j)] [.int (gi h (f + 1) j.toNatClampNeg), .int j, .ref (k + 1)] h = some o := F49
            obtain ⟨m66, hm67, E, hG⟩ := E_go (pc' := 57) (lv' := [(6, .int (j + (1 : Int32))), (0, .ref k), (1, .int r), (2, .ref f), (3, .ref 18), (4, .int x), (5, .int s)]) (st' := []) (h' := rk_pt h (k + 1) j.toNatClampNeg (.int (gi h (f + 1) j.toNatClampNeg))) 4 rfl E hG
            replace E := E_lv [(0, .ref k), (1, .int r), (2, .ref f), (3, .ref 18), (4, .int x), (5, .int s), (6, .int (j + (1 : Int32)))] rfl (lvs_c rfl rfl (lvs_c rfl rfl (lvs_c rfl rfl (lvs_c rfl rfl (lvs_c rfl rfl (lvs_c rfl rfl (lvs_c rfl rfl lvs_n))))))) E
            exact Or.inr (Or.inr ⟨c11, c36, _, (by omega), hG, E⟩)
set_option maxRecDepth 100000 in
set_option maxHeartbeats 4000000 in
theorem ys_fl2 {n d : Nat} {h : rk_S} {o : Option Value × rk_S} {f k : Nat} {r x s j : Int32} (hG : yG h) (hf : 120 ≤ f) (hf2 : f ≤ 153) (hk : 22 ≤ k) (hk2 : k ≤ 115) (q1 : ¬ (j.toInt < 0)) (E : rk_ex n d rm_X1_fill 101 [(0, .ref k), (1, .int r), (2, .ref f), (3, .ref 18), (4, .int x), (5, .int s), (6, .int j)] [] h = some o) :
    (16 ≤ j.toInt ∧ yG h ∧ o = (none, h)) ∨
    (¬ (16 ≤ j.toInt) ∧ (((gi h k 4) >>> (j &&& 31)) &&& (1 : Int32)).toInt = 0 ∧ ∃ m, m < n ∧ yG (rk_pt h (k + 2) j.toNatClampNeg (.int (0 : Int32))) ∧ rk_ex m d rm_X1_fill 101 [(0, .ref k), (1, .int r), (2, .ref f), (3, .ref 18), (4, .int x), (5, .int s), (6, .int (j + (1 : Int32)))] [] (rk_pt h (k + 2) j.toNatClampNeg (.int (0 : Int32))) = some o) ∨
    (¬ (16 ≤ j.toInt) ∧ ¬ ((((gi h k 4) >>> (j &&& 31)) &&& (1 : Int32)).toInt = 0) ∧ ∃ m, m < n ∧ yG (rk_pt h (k + 2) j.toNatClampNeg (.int (gi h 19 j.toNatClampNeg))) ∧ rk_ex m d rm_X1_fill 101 [(0, .ref k), (1, .int r), (2, .ref f), (3, .ref 18), (4, .int x), (5, .int s), (6, .int (j + (1 : Int32)))] [] (rk_pt h (k + 2) j.toNatClampNeg (.int (gi h 19 j.toNatClampNeg))) = some o) := by
  obtain ⟨m1, hm2, E, hG⟩ := E_go (pc' := 105) (lv' := [(0, .ref k), (1, .int r), (2, .ref f), (3, .ref 18), (4, .int x), (5, .int s), (6, .int j)]) (st' := [.int (16 : Int32), .int j]) (h' := h) 2 rfl E hG
  rcases E_if2 (tg := 143) rfl rfl E with ⟨hc, m3, hm4, E⟩ | ⟨hc, m5, hm6, E⟩
  ·
    have c7 : 16 ≤ j.toInt := hc
    clear hc
    have ho8 := E_retv rfl E
    exact Or.inl ⟨c7, hG, ho8⟩
  ·
    have c9 : ¬ (16 ≤ j.toInt) := hc
    clear hc
    obtain ⟨m10, hm11, E, hG⟩ := E_go (pc' := 120) (lv' := [(0, .ref k), (1, .int r), (2, .ref f), (3, .ref 18), (4, .int x), (5, .int s), (6, .int j)]) (st' := [.int j, .int (gi h k 4), .int j, .ref (k + 1 + 1)]) (h' := h) 6 rfl E hG
    try simp only [Nat.add_assoc, Nat.reduceAdd] at E hG
    obtain ⟨m12, d13, o14, hm16, E15, F15⟩ := E_call (ar := ([.int (gi h k 4), .int j], [.int j, .ref (k + 2)])) rfl rfl rfl rfl rfl rfl E
    replace E15 : rk_ex m12 d13 rm_X7_isSet 0 [(0, .int (gi h k 4)), (1, .int j)] [] h = some o14 := E15
    obtain ⟨m17, hm18, E15, hG⟩ := E_go (pc' := 5) (lv' := [(0, .int (gi h k 4)), (1, .int j)]) (st' := [.int (((gi h k 4) >>> (j &&& 31)) &&& (1 : Int32))]) (h' := h) 5 rfl E15 hG
    rcases E_if1 (tg := 12) rfl rfl E15 with ⟨hc, m19, hm20, E15⟩ | ⟨hc, m21, hm22, E15⟩
    ·
      have c23 : (((gi h k 4) >>> (j &&& 31)) &&& (1 : Int32)).toInt = 0 := hc
      clear hc
      obtain ⟨m24, hm25, E15, hG⟩ := E_go (pc' := 13) (lv' := [(0, .int (gi h k 4)), (1, .int j)]) (st' := [.int (0 : Int32)]) (h' := h) 1 rfl E15 hG
      have ho26 := E_reti rfl E15
      subst ho26
      have E : rk_ex m12 d rm_X1_fill 123 [(0, .ref k), (1, .int r), (2, .ref f), (3, .ref 18), (4, .int x), (5, .int s), (6, .int j)] [.int (0 : Int32), .int j, .ref (k + 2)] h = some o := F15
      rcases E_if1 (tg := 135) rfl rfl E with ⟨hc, m27, hm28, E⟩ | ⟨hc, m29, hm30, E⟩
      ·
        clear hc
        obtain ⟨m31, hm32, E, hG⟩ := E_go (pc' := 101) (lv' := [(6, .int (j + (1 : Int32))), (0, .ref k), (1, .int r), (2, .ref f), (3, .ref 18), (4, .int x), (5, .int s)]) (st' := []) (h' := rk_pt h (k + 2) j.toNatClampNeg (.int (0 : Int32))) 4 rfl E hG
        replace E := E_lv [(0, .ref k), (1, .int r), (2, .ref f), (3, .ref 18), (4, .int x), (5, .int s), (6, .int (j + (1 : Int32)))] rfl (lvs_c rfl rfl (lvs_c rfl rfl (lvs_c rfl rfl (lvs_c rfl rfl (lvs_c rfl rfl (lvs_c rfl rfl (lvs_c rfl rfl lvs_n))))))) E
        exact Or.inr (Or.inl ⟨c9, c23, _, (by omega), hG, E⟩)
      · exact absurd (show ¬ ((0 : Int) = 0) from hc) (by decide)
    ·
      have c34 : ¬ ((((gi h k 4) >>> (j &&& 31)) &&& (1 : Int32)).toInt = 0) := hc
      clear hc
      obtain ⟨m35, hm36, E15, hG⟩ := E_go (pc' := 13) (lv' := [(0, .int (gi h k 4)), (1, .int j)]) (st' := [.int (1 : Int32)]) (h' := h) 2 rfl E15 hG
      have ho37 := E_reti rfl E15
      subst ho37
      have E : rk_ex m12 d rm_X1_fill 123 [(0, .ref k), (1, .int r), (2, .ref f), (3, .ref 18), (4, .int x), (5, .int s), (6, .int j)] [.int (1 : Int32), .int j, .ref (k + 2)] h = some o := F15
      rcases E_if1 (tg := 135) rfl rfl E with ⟨hc, m38, hm39, E⟩ | ⟨hc, m40, hm41, E⟩
      · exact absurd (show (1 : Int) = 0 from hc) (by decide)
      ·
        clear hc
        obtain ⟨m42, hm43, E, hG⟩ := E_go (pc' := 129) (lv' := [(0, .ref k), (1, .int r), (2, .ref f), (3, .ref 18), (4, .int x), (5, .int s), (6, .int j)]) (st' := [.int j, .ref 18, .int j, .ref (k + 2)]) (h' := h) 2 rfl E hG
        obtain ⟨m44, d45, o46, hm48, E47, F47⟩ := E_call (ar := ([.ref 18, .int j], [.int j, .ref (k + 2)])) rfl rfl rfl rfl rfl rfl E
        replace E47 : rk_ex m44 d45 rm_X6_valueOf 0 [(0, .ref 18), (1, .int j)] [] h = some o46 := E47
        obtain ⟨m49, hm50, E47, hG⟩ := E_go (pc' := 1) (lv' := [(0, .ref 18), (1, .int j)]) (st' := [.int j]) (h' := h) 1 rfl E47 hG
        rcases E_if1 (tg := 19) rfl rfl E47 with ⟨hc, m51, hm52, E47⟩ | ⟨hc, m53, hm54, E47⟩
        · exact absurd (show j.toInt < 0 from hc) (by omega)
        ·
          clear hc
          obtain ⟨m55, hm56, E47, hG⟩ := E_go (pc' := 7) (lv' := [(0, .ref 18), (1, .int j)]) (st' := [.int (16 : Int32), .int j]) (h' := h) 2 rfl E47 hG
          rcases E_if2 (tg := 19) rfl rfl E47 with ⟨hc, m57, hm58, E47⟩ | ⟨hc, m59, hm60, E47⟩
          · exact absurd (show 16 ≤ j.toInt from hc) (by omega)
          ·
            clear hc
            obtain ⟨m61, hm62, E47, hG⟩ := E_go (pc' := 20) (lv' := [(0, .ref 18), (1, .int j)]) (st' := [.int (gi h 19 j.toNatClampNeg)]) (h' := h) 5 rfl E47 hG
            have ho63 := E_reti rfl E47
            subst ho63
            have E : rk_ex m44 d rm_X1_fill 132 [(0, .ref k), (1, .int r), (2, .ref f), (3, .ref 18), (4, .int x), (5, .int s), (6, .int j)] [.int (gi h 19 j.toNatClampNeg), .int j, .ref (k + 2)] h = some o := F47
            obtain ⟨m64, hm65, E, hG⟩ := E_go (pc' := 101) (lv' := [(6, .int (j + (1 : Int32))), (0, .ref k), (1, .int r), (2, .ref f), (3, .ref 18), (4, .int x), (5, .int s)]) (st' := []) (h' := rk_pt h (k + 2) j.toNatClampNeg (.int (gi h 19 j.toNatClampNeg))) 4 rfl E hG
            replace E := E_lv [(0, .ref k), (1, .int r), (2, .ref f), (3, .ref 18), (4, .int x), (5, .int s), (6, .int (j + (1 : Int32)))] rfl (lvs_c rfl rfl (lvs_c rfl rfl (lvs_c rfl rfl (lvs_c rfl rfl (lvs_c rfl rfl (lvs_c rfl rfl (lvs_c rfl rfl lvs_n))))))) E
            exact Or.inr (Or.inr ⟨c9, c34, _, (by omega), hG, E⟩)
