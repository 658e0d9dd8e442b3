/-! pieces of the reference's keep and room (laid by wip/gen/y10k.py) -/
set_option maxRecDepth 100000 in
set_option maxHeartbeats 4000000 in
theorem ym_kp {n d : Nat} {h : rk_S} {o : Option Value × rk_S} {q z w j : Int32} (hG : yG h) (E : rk_ex n d rm_X8_keep 58 [(0, .ref 316), (1, .int q), (2, .int z), (3, .int w), (4, .int j)] [] h = some o) :
    (j.toInt < 0 ∧ yG h ∧ o = (some (.int w), h)) ∨
    (¬ (j.toInt < 0) ∧ ¬ z.toInt = 0 ∧ yG h ∧ o = (some (.int w), h)) ∨
    (¬ (j.toInt < 0) ∧ z.toInt = 0 ∧ ¬ (gi h 323 j.toNatClampNeg).toInt = q.toInt ∧ ∃ m, m < n ∧ yG h ∧ rk_ex m d rm_X8_keep 58 [(0, .ref 316), (1, .int q), (2, .int z), (3, .int w), (4, .int (j + ((-1) : Int32)))] [] h = some o) ∨
    (¬ (j.toInt < 0) ∧ z.toInt = 0 ∧ (gi h 323 j.toNatClampNeg).toInt = q.toInt ∧ ∃ m, m < n + 1 ∧ yG h ∧ rk_ex m d rm_X8_keep 81 [(0, .ref 316), (1, .int q), (2, .int z), (3, .int w), (4, .int j)] [.int j, .ref 316] h = some o) := by
  obtain ⟨m1, hm2, E, hG⟩ := E_go (pc' := 60) (lv' := [(0, .ref 316), (1, .int q), (2, .int z), (3, .int w), (4, .int j)]) (st' := [.int j]) (h' := h) 1 rfl E hG
  rcases E_if1 (tg := 90) rfl rfl E with ⟨hc, m3, hm4, E⟩ | ⟨hc, m5, hm6, E⟩
  ·
    have c7 : j.toInt < 0 := hc
    clear hc
    obtain ⟨m8, hm9, E, hG⟩ := E_go (pc' := 91) (lv' := [(0, .ref 316), (1, .int q), (2, .int z), (3, .int w), (4, .int j)]) (st' := [.int w]) (h' := h) 1 rfl E hG
    have ho10 := E_reti rfl E
    exact Or.inl ⟨c7, hG, ho10⟩
  ·
    have c11 : ¬ (j.toInt < 0) := hc
    clear hc
    obtain ⟨m12, hm13, E, hG⟩ := E_go (pc' := 64) (lv' := [(0, .ref 316), (1, .int q), (2, .int z), (3, .int w), (4, .int j)]) (st' := [.int z]) (h' := h) 1 rfl E hG
    rcases E_if1 (tg := 90) rfl rfl E with ⟨hc, m14, hm15, E⟩ | ⟨hc, m16, hm17, E⟩
    ·
      have c18 : ¬ z.toInt = 0 := hc
      clear hc
      obtain ⟨m19, hm20, E, hG⟩ := E_go (pc' := 91) (lv' := [(0, .ref 316), (1, .int q), (2, .int z), (3, .int w), (4, .int j)]) (st' := [.int w]) (h' := h) 1 rfl E hG
      have ho21 := E_reti rfl E
      exact Or.inr (Or.inl ⟨c11, c18, hG, ho21⟩)
    ·
      have c22 : z.toInt = 0 := Decidable.not_not.mp hc
      clear hc
      obtain ⟨m23, hm24, E, hG⟩ := E_go (pc' := 75) (lv' := [(0, .ref 316), (1, .int q), (2, .int z), (3, .int w), (4, .int j)]) (st' := [.int q, .int (gi h 323 j.toNatClampNeg)]) (h' := h) 5 rfl E hG
      rcases E_if2 (tg := 84) rfl rfl E with ⟨hc, m25, hm26, E⟩ | ⟨hc, m27, hm28, E⟩
      ·
        have c29 : ¬ (gi h 323 j.toNatClampNeg).toInt = q.toInt := hc
        clear hc
        obtain ⟨m30, hm31, E, hG⟩ := E_go (pc' := 58) (lv' := [(4, .int (j + ((-1) : Int32))), (0, .ref 316), (1, .int q), (2, .int z), (3, .int w)]) (st' := []) (h' := h) 2 rfl E hG
        replace E := E_lv [(0, .ref 316), (1, .int q), (2, .int z), (3, .int w), (4, .int (j + ((-1) : Int32)))] rfl (lvs_c rfl rfl (lvs_c rfl rfl (lvs_c rfl rfl (lvs_c rfl rfl (lvs_c rfl rfl lvs_n))))) E
        exact Or.inr (Or.inr (Or.inl ⟨c11, c22, c29, _, (by omega), hG, E⟩))
      ·
        have c33 : (gi h 323 j.toNatClampNeg).toInt = q.toInt := Decidable.not_not.mp hc
        clear hc
        obtain ⟨m34, hm35, E, hG⟩ := E_go (pc' := 81) (lv' := [(0, .ref 316), (1, .int q), (2, .int z), (3, .int w), (4, .int j)]) (st' := [.int j, .ref 316]) (h' := h) 2 rfl E hG
        exact Or.inr (Or.inr (Or.inr ⟨c11, c22, c33, _, (by omega), hG, E⟩))
set_option maxRecDepth 100000 in
set_option maxHeartbeats 4000000 in
theorem ym_kp1 {n d : Nat} {h : rk_S} {o : Option Value × rk_S} {q z w j : Int32} (hG : yG h) (E : rk_ex n d rm_X8_keep 84 [(0, .ref 316), (1, .int q), (2, .int z), (3, .int w), (4, .int j)] [] h = some o) :
    (∃ m, m < n ∧ yG h ∧ rk_ex m d rm_X8_keep 58 [(0, .ref 316), (1, .int q), (2, .int z), (3, .int w), (4, .int (j + ((-1) : Int32)))] [] h = some o) := by
  obtain ⟨m1, hm2, E, hG⟩ := E_go (pc' := 58) (lv' := [(4, .int (j + ((-1) : Int32))), (0, .ref 316), (1, .int q), (2, .int z), (3, .int w)]) (st' := []) (h' := h) 2 rfl E hG
  replace E := E_lv [(0, .ref 316), (1, .int q), (2, .int z), (3, .int w), (4, .int (j + ((-1) : Int32)))] rfl (lvs_c rfl rfl (lvs_c rfl rfl (lvs_c rfl rfl (lvs_c rfl rfl (lvs_c rfl rfl lvs_n))))) E
  exact ⟨_, (by omega), hG, E⟩
set_option maxRecDepth 100000 in
set_option maxHeartbeats 4000000 in
theorem ym_rm0 {n d : Nat} {h : rk_S} {o : Option Value × rk_S} {a b : Int32} (hG : yG h) (E : rk_ex n d rm_X8_room 0 [(0, .ref 316), (1, .int a), (2, .int b)] [] h = some o) :
    (a.toInt < 0 ∧ yG h ∧ o = (some (.int ((-2) : Int32)), h)) ∨
    (¬ (a.toInt < 0) ∧ 32 < a.toInt ∧ yG h ∧ o = (some (.int ((-2) : Int32)), h)) ∨
    (¬ (a.toInt < 0) ∧ ¬ (32 < a.toInt) ∧ b.toInt < 0 ∧ yG h ∧ o = (some (.int ((-2) : Int32)), h)) ∨
    (¬ (a.toInt < 0) ∧ ¬ (32 < a.toInt) ∧ ¬ (b.toInt < 0) ∧ 2 < b.toInt ∧ yG h ∧ o = (some (.int ((-2) : Int32)), h)) ∨
    (¬ (a.toInt < 0) ∧ ¬ (32 < a.toInt) ∧ ¬ (b.toInt < 0) ∧ ¬ (2 < b.toInt) ∧ ∃ m, m < n ∧ yG (rk_pt (rk_pt (rk_pt h 316 4 (.int a)) 316 5 (.int b)) 316 21 (.int (0 : Int32))) ∧ rk_ex m d rm_X8_room 39 [(0, .ref 316), (1, .int a), (2, .int b), (3, .int (0 : Int32))] [] (rk_pt (rk_pt (rk_pt h 316 4 (.int a)) 316 5 (.int b)) 316 21 (.int (0 : Int32))) = some o) := by
  obtain ⟨m1, hm2, E, hG⟩ := E_go (pc' := 4) (lv' := [(0, .ref 316), (1, .int a), (2, .int b)]) (st' := [.int (32 : Int32), .int (0 : Int32), .int a]) (h' := h) 3 rfl E hG
  obtain ⟨m3, d4, o5, hm7, E6, F6⟩ := E_call (ar := ([.int a, .int (0 : Int32), .int (32 : Int32)], [])) rfl rfl rfl rfl rfl rfl E
  replace E6 : rk_ex m3 d4 rm_X8_in 0 [(0, .int a), (1, .int (0 : Int32)), (2, .int (32 : Int32))] [] h = some o5 := E6
  obtain ⟨m8, hm9, E6, hG⟩ := E_go (pc' := 2) (lv' := [(0, .int a), (1, .int (0 : Int32)), (2, .int (32 : Int32))]) (st' := [.int (0 : Int32), .int a]) (h' := h) 2 rfl E6 hG
  rcases E_if2 (tg := 14) rfl rfl E6 with ⟨hc, m10, hm11, E6⟩ | ⟨hc, m12, hm13, E6⟩
  ·
    have c14 : a.toInt < 0 := hc
    clear hc
    obtain ⟨m15, hm16, E6, hG⟩ := E_go (pc' := 15) (lv' := [(0, .int a), (1, .int (0 : Int32)), (2, .int (32 : Int32))]) (st' := [.int (0 : Int32)]) (h' := h) 1 rfl E6 hG
    have ho17 := E_reti rfl E6
    subst ho17
    have E : rk_ex m3 d rm_X8_room 7 [(0, .ref 316), (1, .int a), (2, .int b)] [.int (0 : Int32)] h = some o := F6
    rcases E_if1 (tg := 19) rfl rfl E with ⟨hc, m18, hm19, E⟩ | ⟨hc, m20, hm21, E⟩
    ·
      clear hc
      obtain ⟨m22, hm23, E, hG⟩ := E_go (pc' := 21) (lv' := [(0, .ref 316), (1, .int a), (2, .int b)]) (st' := [.int ((-2) : Int32)]) (h' := h) 1 rfl E hG
      have ho24 := E_reti rfl E
      exact Or.inl ⟨c14, hG, ho24⟩
    · exact absurd (show ¬ ((0 : Int) = 0) from hc) (by decide)
  ·
    have c25 : ¬ (a.toInt < 0) := hc
    clear hc
    obtain ⟨m26, hm27, E6, hG⟩ := E_go (pc' := 7) (lv' := [(0, .int a), (1, .int (0 : Int32)), (2, .int (32 : Int32))]) (st' := [.int (32 : Int32), .int a]) (h' := h) 2 rfl E6 hG
    rcases E_if2 (tg := 14) rfl rfl E6 with ⟨hc, m28, hm29, E6⟩ | ⟨hc, m30, hm31, E6⟩
    ·
      have c32 : 32 < a.toInt := hc
      clear hc
      obtain ⟨m33, hm34, E6, hG⟩ := E_go (pc' := 15) (lv' := [(0, .int a), (1, .int (0 : Int32)), (2, .int (32 : Int32))]) (st' := [.int (0 : Int32)]) (h' := h) 1 rfl E6 hG
      have ho35 := E_reti rfl E6
      subst ho35
      have E : rk_ex m3 d rm_X8_room 7 [(0, .ref 316), (1, .int a), (2, .int b)] [.int (0 : Int32)] h = some o := F6
      rcases E_if1 (tg := 19) rfl rfl E with ⟨hc, m36, hm37, E⟩ | ⟨hc, m38, hm39, E⟩
      ·
        clear hc
        obtain ⟨m40, hm41, E, hG⟩ := E_go (pc' := 21) (lv' := [(0, .ref 316), (1, .int a), (2, .int b)]) (st' := [.int ((-2) : Int32)]) (h' := h) 1 rfl E hG
        have ho42 := E_reti rfl E
        exact Or.inr (Or.inl ⟨c25, c32, hG, ho42⟩)
      · exact absurd (show ¬ ((0 : Int) = 0) from hc) (by decide)
    ·
      have c43 : ¬ (32 < a.toInt) := hc
      clear hc
      obtain ⟨m44, hm45, E6, hG⟩ := E_go (pc' := 15) (lv' := [(0, .int a), (1, .int (0 : Int32)), (2, .int (32 : Int32))]) (st' := [.int (1 : Int32)]) (h' := h) 2 rfl E6 hG
      have ho46 := E_reti rfl E6
      subst ho46
      have E : rk_ex m3 d rm_X8_room 7 [(0, .ref 316), (1, .int a), (2, .int b)] [.int (1 : Int32)] h = some o := F6
      rcases E_if1 (tg := 19) rfl rfl E with ⟨hc, m47, hm48, E⟩ | ⟨hc, m49, hm50, E⟩
      · exact absurd (show (1 : Int) = 0 from hc) (by decide)
      ·
        clear hc
        obtain ⟨m51, hm52, E, hG⟩ := E_go (pc' := 13) (lv' := [(0, .ref 316), (1, .int a), (2, .int b)]) (st' := [.int (2 : Int32), .int (0 : Int32), .int b]) (h' := h) 3 rfl E hG
        obtain ⟨m53, d54, o55, hm57, E56, F56⟩ := E_call (ar := ([.int b, .int (0 : Int32), .int (2 : Int32)], [])) rfl rfl rfl rfl rfl rfl E
        replace E56 : rk_ex m53 d54 rm_X8_in 0 [(0, .int b), (1, .int (0 : Int32)), (2, .int (2 : Int32))] [] h = some o55 := E56
        obtain ⟨m58, hm59, E56, hG⟩ := E_go (pc' := 2) (lv' := [(0, .int b), (1, .int (0 : Int32)), (2, .int (2 : Int32))]) (st' := [.int (0 : Int32), .int b]) (h' := h) 2 rfl E56 hG
        rcases E_if2 (tg := 14) rfl rfl E56 with ⟨hc, m60, hm61, E56⟩ | ⟨hc, m62, hm63, E56⟩
        ·
          have c64 : b.toInt < 0 := hc
          clear hc
          obtain ⟨m65, hm66, E56, hG⟩ := E_go (pc' := 15) (lv' := [(0, .int b), (1, .int (0 : Int32)), (2, .int (2 : Int32))]) (st' := [.int (0 : Int32)]) (h' := h) 1 rfl E56 hG
          have ho67 := E_reti rfl E56
          subst ho67
          have E : rk_ex m53 d rm_X8_room 16 [(0, .ref 316), (1, .int a), (2, .int b)] [.int (0 : Int32)] h = some o := F56
          rcases E_if1 (tg := 22) rfl rfl E with ⟨hc, m68, hm69, E⟩ | ⟨hc, m70, hm71, E⟩
          · exact absurd (show ¬ (0 : Int) = 0 from hc) (by decide)
          ·
            clear hc
            obtain ⟨m72, hm73, E, hG⟩ := E_go (pc' := 21) (lv' := [(0, .ref 316), (1, .int a), (2, .int b)]) (st' := [.int ((-2) : Int32)]) (h' := h) 1 rfl E hG
            have ho74 := E_reti rfl E
            exact Or.inr (Or.inr (Or.inl ⟨c25, c43, c64, hG, ho74⟩))
        ·
          have c75 : ¬ (b.toInt < 0) := hc
          clear hc
          obtain ⟨m76, hm77, E56, hG⟩ := E_go (pc' := 7) (lv' := [(0, .int b), (1, .int (0 : Int32)), (2, .int (2 : Int32))]) (st' := [.int (2 : Int32), .int b]) (h' := h) 2 rfl E56 hG
          rcases E_if2 (tg := 14) rfl rfl E56 with ⟨hc, m78, hm79, E56⟩ | ⟨hc, m80, hm81, E56⟩
          ·
            have c82 : 2 < b.toInt := hc
            clear hc
            obtain ⟨m83, hm84, E56, hG⟩ := E_go (pc' := 15) (lv' := [(0, .int b), (1, .int (0 : Int32)), (2, .int (2 : Int32))]) (st' := [.int (0 : Int32)]) (h' := h) 1 rfl E56 hG
            have ho85 := E_reti rfl E56
            subst ho85
            have E : rk_ex m53 d rm_X8_room 16 [(0, .ref 316), (1, .int a), (2, .int b)] [.int (0 : Int32)] h = some o := F56
            rcases E_if1 (tg := 22) rfl rfl E with ⟨hc, m86, hm87, E⟩ | ⟨hc, m88, hm89, E⟩
            · exact absurd (show ¬ (0 : Int) = 0 from hc) (by decide)
            ·
              clear hc
              obtain ⟨m90, hm91, E, hG⟩ := E_go (pc' := 21) (lv' := [(0, .ref 316), (1, .int a), (2, .int b)]) (st' := [.int ((-2) : Int32)]) (h' := h) 1 rfl E hG
              have ho92 := E_reti rfl E
              exact Or.inr (Or.inr (Or.inr (Or.inl ⟨c25, c43, c75, c82, hG, ho92⟩)))
          ·
            have c93 : ¬ (2 < b.toInt) := hc
            clear hc
            obtain ⟨m94, hm95, E56, hG⟩ := E_go (pc' := 15) (lv' := [(0, .int b), (1, .int (0 : Int32)), (2, .int (2 : Int32))]) (st' := [.int (1 : Int32)]) (h' := h) 2 rfl E56 hG
            have ho96 := E_reti rfl E56
            subst ho96
            have E : rk_ex m53 d rm_X8_room 16 [(0, .ref 316), (1, .int a), (2, .int b)] [.int (1 : Int32)] h = some o := F56
            rcases E_if1 (tg := 22) rfl rfl E with ⟨hc, m97, hm98, E⟩ | ⟨hc, m99, hm100, E⟩
            ·
              clear hc
              obtain ⟨m101, hm102, E, hG⟩ := E_go (pc' := 39) (lv' := [(3, .int (0 : Int32)), (0, .ref 316), (1, .int a), (2, .int b)]) (st' := []) (h' := rk_pt (rk_pt (rk_pt h 316 4 (.int a)) 316 5 (.int b)) 316 21 (.int (0 : Int32))) 11 rfl E hG
              replace E := E_lv [(0, .ref 316), (1, .int a), (2, .int b), (3, .int (0 : Int32))] rfl (lvs_c rfl rfl (lvs_c rfl rfl (lvs_c rfl rfl (lvs_c rfl rfl lvs_n)))) E
              exact Or.inr (Or.inr (Or.inr (Or.inr ⟨c25, c43, c75, c93, _, (by omega), hG, E⟩)))
            · exact absurd (show ¬ (¬ (1 : Int) = 0) from hc) (by decide)
set_option maxRecDepth 100000 in
set_option maxHeartbeats 4000000 in
theorem ym_rm {n d : Nat} {h : rk_S} {o : Option Value × rk_S} {a b g : Int32} (hG : yG h) (E : rk_ex n d rm_X8_room 39 [(0, .ref 316), (1, .int a), (2, .int b), (3, .int g)] [] h = some o) :
    ((gi h 322 0).toInt ≤ (gi h 316 4).toInt ∧ yG h ∧ o = (some (.int g), h)) ∨
    (¬ ((gi h 322 0).toInt ≤ (gi h 316 4).toInt) ∧ ∃ m, m < n + 1 ∧ yG h ∧ rk_ex m d rm_X8_room 54 [(0, .ref 316), (1, .int a), (2, .int b), (3, .int g)] [.int (0 : Int32), .ref 316] h = some o) := by
  obtain ⟨m1, hm2, E, hG⟩ := E_go (pc' := 49) (lv' := [(0, .ref 316), (1, .int a), (2, .int b), (3, .int g)]) (st' := [.int (gi h 316 4), .int (gi h 322 0)]) (h' := h) 6 rfl E hG
  rcases E_if2 (tg := 63) rfl rfl E with ⟨hc, m3, hm4, E⟩ | ⟨hc, m5, hm6, E⟩
  ·
    have c7 : (gi h 322 0).toInt ≤ (gi h 316 4).toInt := hc
    clear hc
    obtain ⟨m8, hm9, E, hG⟩ := E_go (pc' := 64) (lv' := [(0, .ref 316), (1, .int a), (2, .int b), (3, .int g)]) (st' := [.int g]) (h' := h) 1 rfl E hG
    have ho10 := E_reti rfl E
    exact Or.inl ⟨c7, hG, ho10⟩
  ·
    have c11 : ¬ ((gi h 322 0).toInt ≤ (gi h 316 4).toInt) := hc
    clear hc
    obtain ⟨m12, hm13, E, hG⟩ := E_go (pc' := 54) (lv' := [(0, .ref 316), (1, .int a), (2, .int b), (3, .int g)]) (st' := [.int (0 : Int32), .ref 316]) (h' := h) 2 rfl E hG
    exact Or.inr ⟨c11, _, (by omega), hG, E⟩
set_option maxRecDepth 100000 in
set_option maxHeartbeats 4000000 in
theorem ym_rm1 {n d : Nat} {h : rk_S} {o : Option Value × rk_S} {a b g : Int32} (hG : yG h) (E : rk_ex n d rm_X8_room 57 [(0, .ref 316), (1, .int a), (2, .int b), (3, .int g)] [] h = some o) :
    (∃ m, m < n ∧ yG h ∧ rk_ex m d rm_X8_room 39 [(0, .ref 316), (1, .int a), (2, .int b), (3, .int (g + (1 : Int32)))] [] h = some o) := by
  obtain ⟨m1, hm2, E, hG⟩ := E_go (pc' := 39) (lv' := [(3, .int (g + (1 : Int32))), (0, .ref 316), (1, .int a), (2, .int b)]) (st' := []) (h' := h) 2 rfl E hG
  replace E := E_lv [(0, .ref 316), (1, .int a), (2, .int b), (3, .int (g + (1 : Int32)))] rfl (lvs_c rfl rfl (lvs_c rfl rfl (lvs_c rfl rfl (lvs_c rfl rfl lvs_n)))) E
  exact ⟨_, (by omega), hG, E⟩
